def f_turn (x n : Int32) : Int32 := (x.toUInt32 >>> (n.toUInt32 &&& Int32.toUInt32 31)).toInt32 ||| (x <<< ((nI 32 - n) &&& 31))
theorem dX12_turn_0 : decode cX12_turn 0 = .ok (.iload_n 0, 1) := by decide +kernel
theorem dX12_turn_1 : decode cX12_turn 1 = .ok (.iload_n 1, 1) := by decide +kernel
theorem dX12_turn_2 : decode cX12_turn 2 = .ok (.iushr, 1) := by decide +kernel
theorem dX12_turn_3 : decode cX12_turn 3 = .ok (.iload_n 0, 1) := by decide +kernel
theorem dX12_turn_4 : decode cX12_turn 4 = .ok (.bipush 32, 2) := by decide +kernel
theorem dX12_turn_6 : decode cX12_turn 6 = .ok (.iload_n 1, 1) := by decide +kernel
theorem dX12_turn_7 : decode cX12_turn 7 = .ok (.isub, 1) := by decide +kernel
theorem dX12_turn_8 : decode cX12_turn 8 = .ok (.ishl, 1) := by decide +kernel
theorem dX12_turn_9 : decode cX12_turn 9 = .ok (.ior, 1) := by decide +kernel
theorem dX12_turn_10 : decode cX12_turn 10 = .ok (.ireturn, 1) := by decide +kernel
set_option maxHeartbeats 4000000 in
theorem rc_X12_turn {G : zG} {E : rE} {S : rS} (hG : zOK G) (x n : Int32) : rCi G E dX12_turn mX12_turn [.int x, .int n] S (fun v S' => v = f_turn x n ∧ S' = S) := by
  refine rC.ofX rfl (Nat.le_of_ble_eq_true rfl) ?_
  show rX G E dX12_turn mX12_turn 0 [some (.int x), some (.int n)] [] S _
  refine r_iload_n dX12_turn_0 rfl rfl ?_
  refine r_iload_n dX12_turn_1 rfl rfl ?_
  refine r_iushr dX12_turn_2 ?_
  refine r_iload_n dX12_turn_3 rfl rfl ?_
  refine r_bipush (v := nI 32) dX12_turn_4 (by decide) ?_
  refine r_iload_n dX12_turn_6 rfl rfl ?_
  refine r_isub dX12_turn_7 ?_
  refine r_ishl dX12_turn_8 ?_
  refine r_ior dX12_turn_9 ?_
  exact r_ireturn rfl rfl dX12_turn_10 ⟨_, rfl, rfl, rfl⟩
def f_byteIn (u : Int64) (k : Int32) : Int32 := (u >>> ((nI 56 - nI 8 * k).toInt64 &&& 63)).toInt32 &&& nI 255
theorem dX12_byteIn_0 : decode cX12_byteIn 0 = .ok (.lload_n 0, 1) := by decide +kernel
theorem dX12_byteIn_1 : decode cX12_byteIn 1 = .ok (.bipush 56, 2) := by decide +kernel
theorem dX12_byteIn_3 : decode cX12_byteIn 3 = .ok (.bipush 8, 2) := by decide +kernel
theorem dX12_byteIn_5 : decode cX12_byteIn 5 = .ok (.iload_n 2, 1) := by decide +kernel
theorem dX12_byteIn_6 : decode cX12_byteIn 6 = .ok (.imul, 1) := by decide +kernel
theorem dX12_byteIn_7 : decode cX12_byteIn 7 = .ok (.isub, 1) := by decide +kernel
theorem dX12_byteIn_8 : decode cX12_byteIn 8 = .ok (.lshr, 1) := by decide +kernel
theorem dX12_byteIn_9 : decode cX12_byteIn 9 = .ok (.l2i, 1) := by decide +kernel
theorem dX12_byteIn_10 : decode cX12_byteIn 10 = .ok (.sipush 255, 3) := by decide +kernel
theorem dX12_byteIn_13 : decode cX12_byteIn 13 = .ok (.iand, 1) := by decide +kernel
theorem dX12_byteIn_14 : decode cX12_byteIn 14 = .ok (.ireturn, 1) := by decide +kernel
set_option maxHeartbeats 4000000 in
theorem rc_X12_byteIn {G : zG} {E : rE} {S : rS} (hG : zOK G) (u : Int64) (k : Int32) : rCi G E dX12_byteIn mX12_byteIn [.long u, .int k] S (fun v S' => v = f_byteIn u k ∧ S' = S) := by
  refine rC.ofX rfl (Nat.le_of_ble_eq_true rfl) ?_
  show rX G E dX12_byteIn mX12_byteIn 0 [some (.long u), none, some (.int k)] [] S _
  refine r_lload_n dX12_byteIn_0 rfl rfl ?_
  refine r_bipush (v := nI 56) dX12_byteIn_1 (by decide) ?_
  refine r_bipush (v := nI 8) dX12_byteIn_3 (by decide) ?_
  refine r_iload_n dX12_byteIn_5 rfl rfl ?_
  refine r_imul dX12_byteIn_6 ?_
  refine r_isub dX12_byteIn_7 ?_
  refine r_lshr dX12_byteIn_8 ?_
  refine r_l2i dX12_byteIn_9 ?_
  refine r_sipush (v := nI 255) dX12_byteIn_10 (by decide) ?_
  refine r_iand dX12_byteIn_13 ?_
  exact r_ireturn rfl rfl dX12_byteIn_14 ⟨_, rfl, rfl, rfl⟩
def f_hashByte (S : rS) (b : Int32) : rS := rsI (rsA S 6 (S.1 7).toNatClampNeg (b &&& nI 255)) 7 (S.1 7 + nI 1)
theorem dX12_hashByte_0 : decode cX12_hashByte 0 = .ok (.aload_n 0, 1) := by decide +kernel
theorem dX12_hashByte_1 : decode cX12_hashByte 1 = .ok (.getfield 22, 3) := by decide +kernel
theorem dX12_hashByte_4 : decode cX12_hashByte 4 = .ok (.aload_n 0, 1) := by decide +kernel
theorem dX12_hashByte_5 : decode cX12_hashByte 5 = .ok (.getfield 25, 3) := by decide +kernel
theorem dX12_hashByte_8 : decode cX12_hashByte 8 = .ok (.iload_n 1, 1) := by decide +kernel
theorem dX12_hashByte_9 : decode cX12_hashByte 9 = .ok (.sipush 255, 3) := by decide +kernel
theorem dX12_hashByte_12 : decode cX12_hashByte 12 = .ok (.iand, 1) := by decide +kernel
theorem dX12_hashByte_13 : decode cX12_hashByte 13 = .ok (.iastore, 1) := by decide +kernel
theorem dX12_hashByte_14 : decode cX12_hashByte 14 = .ok (.aload_n 0, 1) := by decide +kernel
theorem dX12_hashByte_15 : decode cX12_hashByte 15 = .ok (.aload_n 0, 1) := by decide +kernel
theorem dX12_hashByte_16 : decode cX12_hashByte 16 = .ok (.getfield 25, 3) := by decide +kernel
theorem dX12_hashByte_19 : decode cX12_hashByte 19 = .ok (.iconst 1, 1) := by decide +kernel
theorem dX12_hashByte_20 : decode cX12_hashByte 20 = .ok (.iadd, 1) := by decide +kernel
theorem dX12_hashByte_21 : decode cX12_hashByte 21 = .ok (.putfield 25, 3) := by decide +kernel
theorem dX12_hashByte_24 : decode cX12_hashByte 24 = .ok (.return_, 1) := by decide +kernel
set_option maxHeartbeats 4000000 in
theorem rc_X12_hashByte {G : zG} {E : rE} {S : rS} (hG : zOK G) (b : Int32) (h : vp_in (S.1 7) 1100) : rCv G E dX12_hashByte mX12_hashByte [.ref E.1, .int b] S (fun S' => S' = f_hashByte S b) := by
  refine rC.ofX rfl (Nat.le_of_ble_eq_true rfl) ?_
  show rX G E dX12_hashByte mX12_hashByte 0 [some (.ref E.1), some (.int b)] [] S _
  refine r_aload_n dX12_hashByte_0 rfl rfl ?_
  refine r_getA 6 fX12_22 (by decide) (by decide) dX12_hashByte_1 ?_
  refine r_aload_n dX12_hashByte_4 rfl rfl ?_
  refine r_getI 7 fX12_25 (by decide) (by decide) dX12_hashByte_5 ?_
  refine r_iload_n dX12_hashByte_8 rfl rfl ?_
  refine r_sipush (v := nI 255) dX12_hashByte_9 (by decide) ?_
  refine r_iand dX12_hashByte_12 ?_
  refine r_iast hG (by decide) (by decide) dX12_hashByte_13 (by exact h) ?_
  refine r_aload_n dX12_hashByte_14 rfl rfl ?_
  refine r_aload_n dX12_hashByte_15 rfl rfl ?_
  refine r_getI 7 fX12_25 (by decide) (by decide) dX12_hashByte_16 ?_
  refine r_iconst (v := nI 1) dX12_hashByte_19 (by decide) ?_
  refine r_iadd dX12_hashByte_20 ?_
  refine r_putI 7 fX12_25 (by decide) (by decide) rfl rfl rfl dX12_hashByte_21 ?_
  exact r_return rfl dX12_hashByte_24 ⟨rfl, rfl⟩
def f_isThere (S : rS) (p : Int32) : Int32 := if S.2.1 14 p.toNatClampNeg ≤ 0 then nI 0 else nI 1
theorem dX12_isThere_0 : decode cX12_isThere 0 = .ok (.aload_n 0, 1) := by decide +kernel
theorem dX12_isThere_1 : decode cX12_isThere 1 = .ok (.getfield 57, 3) := by decide +kernel
theorem dX12_isThere_4 : decode cX12_isThere 4 = .ok (.iload_n 1, 1) := by decide +kernel
theorem dX12_isThere_5 : decode cX12_isThere 5 = .ok (.iaload, 1) := by decide +kernel
theorem dX12_isThere_6 : decode cX12_isThere 6 = .ok (.ifCond .le 7, 3) := by decide +kernel
theorem dX12_isThere_9 : decode cX12_isThere 9 = .ok (.iconst 1, 1) := by decide +kernel
theorem dX12_isThere_10 : decode cX12_isThere 10 = .ok (.goto 4, 3) := by decide +kernel
theorem dX12_isThere_13 : decode cX12_isThere 13 = .ok (.iconst 0, 1) := by decide +kernel
theorem dX12_isThere_14 : decode cX12_isThere 14 = .ok (.ireturn, 1) := by decide +kernel
set_option maxHeartbeats 4000000 in
theorem rc_X12_isThere {G : zG} {E : rE} {S : rS} (hG : zOK G) (p : Int32) (h : vp_in p 1354) : rCi G E dX12_isThere mX12_isThere [.ref E.1, .int p] S (fun v S' => v = f_isThere S p ∧ S' = S) := by
  refine rC.ofX rfl (Nat.le_of_ble_eq_true rfl) ?_
  show rX G E dX12_isThere mX12_isThere 0 [some (.ref E.1), some (.int p)] [] S _
  refine r_aload_n dX12_isThere_0 rfl rfl ?_
  refine r_getA 14 fX12_57 (by decide) (by decide) dX12_isThere_1 ?_
  refine r_iload_n dX12_isThere_4 rfl rfl ?_
  refine r_iald (by decide) (by decide) dX12_isThere_5 (by exact h) ?_
  refine r_if_le (tgt := 13) dX12_isThere_6 (by decide) (fun c_6 => ?_) (fun c_6 => ?_)
  · refine r_iconst (v := nI 0) dX12_isThere_13 (by decide) ?_
    exact r_ireturn rfl rfl dX12_isThere_14 ⟨_, rfl, by simp [f_isThere, c_6], rfl⟩
  · refine r_iconst (v := nI 1) dX12_isThere_9 (by decide) ?_
    refine r_goto (tgt := 14) dX12_isThere_10 (by decide) ?_
    exact r_ireturn rfl rfl dX12_isThere_14 ⟨_, rfl, by simp [f_isThere, c_6], rfl⟩
def f_clear (S : rS) (p : Int32) : rS := rsA S 14 p.toNatClampNeg (nI 0)
theorem dX12_clear_0 : decode cX12_clear 0 = .ok (.aload_n 0, 1) := by decide +kernel
theorem dX12_clear_1 : decode cX12_clear 1 = .ok (.getfield 57, 3) := by decide +kernel
theorem dX12_clear_4 : decode cX12_clear 4 = .ok (.iload_n 1, 1) := by decide +kernel
theorem dX12_clear_5 : decode cX12_clear 5 = .ok (.iconst 0, 1) := by decide +kernel
theorem dX12_clear_6 : decode cX12_clear 6 = .ok (.iastore, 1) := by decide +kernel
theorem dX12_clear_7 : decode cX12_clear 7 = .ok (.return_, 1) := by decide +kernel
set_option maxHeartbeats 4000000 in
theorem rc_X12_clear {G : zG} {E : rE} {S : rS} (hG : zOK G) (p : Int32) (h : vp_in p 1354) : rCv G E dX12_clear mX12_clear [.ref E.1, .int p] S (fun S' => S' = f_clear S p) := by
  refine rC.ofX rfl (Nat.le_of_ble_eq_true rfl) ?_
  show rX G E dX12_clear mX12_clear 0 [some (.ref E.1), some (.int p)] [] S _
  refine r_aload_n dX12_clear_0 rfl rfl ?_
  refine r_getA 14 fX12_57 (by decide) (by decide) dX12_clear_1 ?_
  refine r_iload_n dX12_clear_4 rfl rfl ?_
  refine r_iconst (v := nI 0) dX12_clear_5 (by decide) ?_
  refine r_iast hG (by decide) (by decide) dX12_clear_6 (by exact h) ?_
  exact r_return rfl dX12_clear_7 ⟨rfl, rfl⟩
def f_blockByte (S : rS) (p i : Int32) : Int32 := f_byteIn (S.2.2 12 (nI 87 * p + i / nI 8).toNatClampNeg) (i - i / nI 8 * nI 8)
theorem dX12_blockByte_0 : decode cX12_blockByte 0 = .ok (.aload_n 0, 1) := by decide +kernel
theorem dX12_blockByte_1 : decode cX12_blockByte 1 = .ok (.getfield 45, 3) := by decide +kernel
theorem dX12_blockByte_4 : decode cX12_blockByte 4 = .ok (.bipush 87, 2) := by decide +kernel
theorem dX12_blockByte_6 : decode cX12_blockByte 6 = .ok (.iload_n 1, 1) := by decide +kernel
theorem dX12_blockByte_7 : decode cX12_blockByte 7 = .ok (.imul, 1) := by decide +kernel
theorem dX12_blockByte_8 : decode cX12_blockByte 8 = .ok (.iload_n 2, 1) := by decide +kernel
theorem dX12_blockByte_9 : decode cX12_blockByte 9 = .ok (.bipush 8, 2) := by decide +kernel
theorem dX12_blockByte_11 : decode cX12_blockByte 11 = .ok (.idiv, 1) := by decide +kernel
theorem dX12_blockByte_12 : decode cX12_blockByte 12 = .ok (.iadd, 1) := by decide +kernel
theorem dX12_blockByte_13 : decode cX12_blockByte 13 = .ok (.laload, 1) := by decide +kernel
theorem dX12_blockByte_14 : decode cX12_blockByte 14 = .ok (.iload_n 2, 1) := by decide +kernel
theorem dX12_blockByte_15 : decode cX12_blockByte 15 = .ok (.bipush 8, 2) := by decide +kernel
theorem dX12_blockByte_17 : decode cX12_blockByte 17 = .ok (.irem, 1) := by decide +kernel
theorem dX12_blockByte_18 : decode cX12_blockByte 18 = .ok (.invokestatic 49, 3) := by decide +kernel
theorem dX12_blockByte_21 : decode cX12_blockByte 21 = .ok (.ireturn, 1) := by decide +kernel
set_option maxHeartbeats 4000000 in
theorem rc_X12_blockByte {G : zG} {E : rE} {S : rS} (hG : zOK G) (p i : Int32) (h : vp_in (nI 87 * p + i / nI 8) 117798) : rCi G E dX12_blockByte mX12_blockByte [.ref E.1, .int p, .int i] S (fun v S' => v = f_blockByte S p i ∧ S' = S) := by
  refine rC.ofX rfl (Nat.le_of_ble_eq_true rfl) ?_
  show rX G E dX12_blockByte mX12_blockByte 0 [some (.ref E.1), some (.int p), some (.int i)] [] S _
  refine r_aload_n dX12_blockByte_0 rfl rfl ?_
  refine r_getA 12 fX12_45 (by decide) (by decide) dX12_blockByte_1 ?_
  refine r_bipush (v := nI 87) dX12_blockByte_4 (by decide) ?_
  refine r_iload_n dX12_blockByte_6 rfl rfl ?_
  refine r_imul dX12_blockByte_7 ?_
  refine r_iload_n dX12_blockByte_8 rfl rfl ?_
  refine r_bipush (v := nI 8) dX12_blockByte_9 (by decide) ?_
  refine r_idiv dX12_blockByte_11 (by decide) ?_
  refine r_iadd dX12_blockByte_12 ?_
  refine r_lald (by decide) (by decide) dX12_blockByte_13 (by exact h) ?_
  refine r_iload_n dX12_blockByte_14 rfl rfl ?_
  refine r_bipush (v := nI 8) dX12_blockByte_15 (by decide) ?_
  refine r_irem dX12_blockByte_17 (by decide) ?_
  refine r_S2i (y' := mX12_byteIn) dX12_blockByte_18 lX12_49 kX12_byteIn ⟨by decide, by decide⟩ (Nat.le_of_ble_eq_true rfl) (rc_X12_byteIn hG _ _) (fun v_18 S_18 h_18 => ?_)
  obtain ⟨rfl, rfl⟩ := h_18
  exact r_ireturn rfl rfl dX12_blockByte_21 ⟨_, rfl, rfl, rfl⟩
def f_sum (S : rS) (k : Int32) : Int64 := ((S.2.1 8 (nI 2 * k).toNatClampNeg).toInt64 <<< ((nI 32).toInt64 &&& 63)) ||| ((S.2.1 8 (nI 2 * k + nI 1).toNatClampNeg).toInt64 &&& 4294967295)
theorem dX12_sum_0 : decode cX12_sum 0 = .ok (.aload_n 0, 1) := by decide +kernel
theorem dX12_sum_1 : decode cX12_sum 1 = .ok (.getfield 33, 3) := by decide +kernel
theorem dX12_sum_4 : decode cX12_sum 4 = .ok (.iconst 2, 1) := by decide +kernel
theorem dX12_sum_5 : decode cX12_sum 5 = .ok (.iload_n 1, 1) := by decide +kernel
theorem dX12_sum_6 : decode cX12_sum 6 = .ok (.imul, 1) := by decide +kernel
theorem dX12_sum_7 : decode cX12_sum 7 = .ok (.iaload, 1) := by decide +kernel
theorem dX12_sum_8 : decode cX12_sum 8 = .ok (.i2l, 1) := by decide +kernel
theorem dX12_sum_9 : decode cX12_sum 9 = .ok (.bipush 32, 2) := by decide +kernel
theorem dX12_sum_11 : decode cX12_sum 11 = .ok (.lshl, 1) := by decide +kernel
theorem dX12_sum_12 : decode cX12_sum 12 = .ok (.aload_n 0, 1) := by decide +kernel
theorem dX12_sum_13 : decode cX12_sum 13 = .ok (.getfield 33, 3) := by decide +kernel
theorem dX12_sum_16 : decode cX12_sum 16 = .ok (.iconst 2, 1) := by decide +kernel
theorem dX12_sum_17 : decode cX12_sum 17 = .ok (.iload_n 1, 1) := by decide +kernel
theorem dX12_sum_18 : decode cX12_sum 18 = .ok (.imul, 1) := by decide +kernel
theorem dX12_sum_19 : decode cX12_sum 19 = .ok (.iconst 1, 1) := by decide +kernel
theorem dX12_sum_20 : decode cX12_sum 20 = .ok (.iadd, 1) := by decide +kernel
theorem dX12_sum_21 : decode cX12_sum 21 = .ok (.iaload, 1) := by decide +kernel
theorem dX12_sum_22 : decode cX12_sum 22 = .ok (.i2l, 1) := by decide +kernel
theorem dX12_sum_23 : decode cX12_sum 23 = .ok (.ldc2_w 18, 3) := by decide +kernel
theorem dX12_sum_26 : decode cX12_sum 26 = .ok (.land, 1) := by decide +kernel
theorem dX12_sum_27 : decode cX12_sum 27 = .ok (.lor, 1) := by decide +kernel
theorem dX12_sum_28 : decode cX12_sum 28 = .ok (.lreturn, 1) := by decide +kernel
set_option maxHeartbeats 4000000 in
theorem rc_X12_sum {G : zG} {E : rE} {S : rS} (hG : zOK G) (k : Int32) (h1 : vp_in (nI 2 * k) 8) (h2 : vp_in (nI 2 * k + nI 1) 8) : rCl G E dX12_sum mX12_sum [.ref E.1, .int k] S (fun v S' => v = f_sum S k ∧ S' = S) := by
  refine rC.ofX rfl (Nat.le_of_ble_eq_true rfl) ?_
  show rX G E dX12_sum mX12_sum 0 [some (.ref E.1), some (.int k)] [] S _
  refine r_aload_n dX12_sum_0 rfl rfl ?_
  refine r_getA 8 fX12_33 (by decide) (by decide) dX12_sum_1 ?_
  refine r_iconst (v := nI 2) dX12_sum_4 (by decide) ?_
  refine r_iload_n dX12_sum_5 rfl rfl ?_
  refine r_imul dX12_sum_6 ?_
  refine r_iald (by decide) (by decide) dX12_sum_7 (by exact h1) ?_
  refine r_i2l dX12_sum_8 ?_
  refine r_bipush (v := nI 32) dX12_sum_9 (by decide) ?_
  refine r_lshl dX12_sum_11 ?_
  refine r_aload_n dX12_sum_12 rfl rfl ?_
  refine r_getA 8 fX12_33 (by decide) (by decide) dX12_sum_13 ?_
  refine r_iconst (v := nI 2) dX12_sum_16 (by decide) ?_
  refine r_iload_n dX12_sum_17 rfl rfl ?_
  refine r_imul dX12_sum_18 ?_
  refine r_iconst (v := nI 1) dX12_sum_19 (by decide) ?_
  refine r_iadd dX12_sum_20 ?_
  refine r_iald (by decide) (by decide) dX12_sum_21 (by exact h2) ?_
  refine r_i2l dX12_sum_22 ?_
  refine r_ldc2 dX12_sum_23 nX12_18 ?_
  refine r_land dX12_sum_26 ?_
  refine r_lor dX12_sum_27 ?_
  exact r_lreturn rfl dX12_sum_28 ⟨_, rfl, rfl, rfl⟩
theorem dX12_makerOf_0 : decode cX12_makerOf 0 = .ok (.aload_n 0, 1) := by decide +kernel
theorem dX12_makerOf_1 : decode cX12_makerOf 1 = .ok (.iload_n 1, 1) := by decide +kernel
theorem dX12_makerOf_2 : decode cX12_makerOf 2 = .ok (.iconst 2, 1) := by decide +kernel
theorem dX12_makerOf_3 : decode cX12_makerOf 3 = .ok (.invokevirtual 67, 3) := by decide +kernel
theorem dX12_makerOf_6 : decode cX12_makerOf 6 = .ok (.ireturn, 1) := by decide +kernel
set_option maxHeartbeats 4000000 in
theorem rc_X12_makerOf {G : zG} {E : rE} {S : rS} (hG : zOK G) (p : Int32) (h : vp_in (nI 87 * p + nI 2 / nI 8) 117798) : rCi G E dX12_makerOf mX12_makerOf [.ref E.1, .int p] S (fun v S' => v = f_blockByte S p (nI 2) ∧ S' = S) := by
  refine rC.ofX rfl (Nat.le_of_ble_eq_true rfl) ?_
  show rX G E dX12_makerOf mX12_makerOf 0 [some (.ref E.1), some (.int p)] [] S _
  refine r_aload_n dX12_makerOf_0 rfl rfl ?_
  refine r_iload_n dX12_makerOf_1 rfl rfl ?_
  refine r_iconst (v := nI 2) dX12_makerOf_2 (by decide) ?_
  refine r_V2i (y' := mX12_blockByte) dX12_makerOf_3 lX12_67 kX12_blockByte ⟨by decide, by decide⟩ rfl (Nat.le_of_ble_eq_true rfl) (rc_X12_blockByte hG _ _ h) (fun v_3 S_3 h_3 => ?_)
  obtain ⟨rfl, rfl⟩ := h_3
  exact r_ireturn rfl rfl dX12_makerOf_6 ⟨_, rfl, rfl, rfl⟩
theorem dX12_paymentsOf_0 : decode cX12_paymentsOf 0 = .ok (.aload_n 0, 1) := by decide +kernel
theorem dX12_paymentsOf_1 : decode cX12_paymentsOf 1 = .ok (.iload_n 1, 1) := by decide +kernel
theorem dX12_paymentsOf_2 : decode cX12_paymentsOf 2 = .ok (.bipush 99, 2) := by decide +kernel
theorem dX12_paymentsOf_4 : decode cX12_paymentsOf 4 = .ok (.invokevirtual 67, 3) := by decide +kernel
theorem dX12_paymentsOf_7 : decode cX12_paymentsOf 7 = .ok (.ireturn, 1) := by decide +kernel
set_option maxHeartbeats 4000000 in
theorem rc_X12_paymentsOf {G : zG} {E : rE} {S : rS} (hG : zOK G) (p : Int32) (h : vp_in (nI 87 * p + nI 99 / nI 8) 117798) : rCi G E dX12_paymentsOf mX12_paymentsOf [.ref E.1, .int p] S (fun v S' => v = f_blockByte S p (nI 99) ∧ S' = S) := by
  refine rC.ofX rfl (Nat.le_of_ble_eq_true rfl) ?_
  show rX G E dX12_paymentsOf mX12_paymentsOf 0 [some (.ref E.1), some (.int p)] [] S _
  refine r_aload_n dX12_paymentsOf_0 rfl rfl ?_
  refine r_iload_n dX12_paymentsOf_1 rfl rfl ?_
  refine r_bipush (v := nI 99) dX12_paymentsOf_2 (by decide) ?_
  refine r_V2i (y' := mX12_blockByte) dX12_paymentsOf_4 lX12_67 kX12_blockByte ⟨by decide, by decide⟩ rfl (Nat.le_of_ble_eq_true rfl) (rc_X12_blockByte hG _ _ h) (fun v_4 S_4 h_4 => ?_)
  obtain ⟨rfl, rfl⟩ := h_4
  exact r_ireturn rfl rfl dX12_paymentsOf_7 ⟨_, rfl, rfl, rfl⟩
theorem dX12_proofsOf_0 : decode cX12_proofsOf 0 = .ok (.aload_n 0, 1) := by decide +kernel
theorem dX12_proofsOf_1 : decode cX12_proofsOf 1 = .ok (.iload_n 1, 1) := by decide +kernel
theorem dX12_proofsOf_2 : decode cX12_proofsOf 2 = .ok (.bipush 100, 2) := by decide +kernel
theorem dX12_proofsOf_4 : decode cX12_proofsOf 4 = .ok (.invokevirtual 67, 3) := by decide +kernel
theorem dX12_proofsOf_7 : decode cX12_proofsOf 7 = .ok (.ireturn, 1) := by decide +kernel
set_option maxHeartbeats 4000000 in
theorem rc_X12_proofsOf {G : zG} {E : rE} {S : rS} (hG : zOK G) (p : Int32) (h : vp_in (nI 87 * p + nI 100 / nI 8) 117798) : rCi G E dX12_proofsOf mX12_proofsOf [.ref E.1, .int p] S (fun v S' => v = f_blockByte S p (nI 100) ∧ S' = S) := by
  refine rC.ofX rfl (Nat.le_of_ble_eq_true rfl) ?_
  show rX G E dX12_proofsOf mX12_proofsOf 0 [some (.ref E.1), some (.int p)] [] S _
  refine r_aload_n dX12_proofsOf_0 rfl rfl ?_
  refine r_iload_n dX12_proofsOf_1 rfl rfl ?_
  refine r_bipush (v := nI 100) dX12_proofsOf_2 (by decide) ?_
  refine r_V2i (y' := mX12_blockByte) dX12_proofsOf_4 lX12_67 kX12_blockByte ⟨by decide, by decide⟩ rfl (Nat.le_of_ble_eq_true rfl) (rc_X12_blockByte hG _ _ h) (fun v_4 S_4 h_4 => ?_)
  obtain ⟨rfl, rfl⟩ := h_4
  exact r_ireturn rfl rfl dX12_proofsOf_7 ⟨_, rfl, rfl, rfl⟩
def f_heightOf (S : rS) (p : Int32) : Int32 := (f_blockByte S p (nI 0) <<< (nI 8 &&& 31)) ||| f_blockByte S p (nI 1)
theorem dX12_heightOf_0 : decode cX12_heightOf 0 = .ok (.aload_n 0, 1) := by decide +kernel
theorem dX12_heightOf_1 : decode cX12_heightOf 1 = .ok (.iload_n 1, 1) := by decide +kernel
theorem dX12_heightOf_2 : decode cX12_heightOf 2 = .ok (.iconst 0, 1) := by decide +kernel
theorem dX12_heightOf_3 : decode cX12_heightOf 3 = .ok (.invokevirtual 67, 3) := by decide +kernel
theorem dX12_heightOf_6 : decode cX12_heightOf 6 = .ok (.bipush 8, 2) := by decide +kernel
theorem dX12_heightOf_8 : decode cX12_heightOf 8 = .ok (.ishl, 1) := by decide +kernel
theorem dX12_heightOf_9 : decode cX12_heightOf 9 = .ok (.aload_n 0, 1) := by decide +kernel
theorem dX12_heightOf_10 : decode cX12_heightOf 10 = .ok (.iload_n 1, 1) := by decide +kernel
theorem dX12_heightOf_11 : decode cX12_heightOf 11 = .ok (.iconst 1, 1) := by decide +kernel
theorem dX12_heightOf_12 : decode cX12_heightOf 12 = .ok (.invokevirtual 67, 3) := by decide +kernel
theorem dX12_heightOf_15 : decode cX12_heightOf 15 = .ok (.ior, 1) := by decide +kernel
theorem dX12_heightOf_16 : decode cX12_heightOf 16 = .ok (.ireturn, 1) := by decide +kernel
set_option maxHeartbeats 4000000 in
theorem rc_X12_heightOf {G : zG} {E : rE} {S : rS} (hG : zOK G) (p : Int32) (h0 : vp_in (nI 87 * p + nI 0 / nI 8) 117798) (h1 : vp_in (nI 87 * p + nI 1 / nI 8) 117798) : rCi G E dX12_heightOf mX12_heightOf [.ref E.1, .int p] S (fun v S' => v = f_heightOf S p ∧ S' = S) := by
  refine rC.ofX rfl (Nat.le_of_ble_eq_true rfl) ?_
  show rX G E dX12_heightOf mX12_heightOf 0 [some (.ref E.1), some (.int p)] [] S _
  refine r_aload_n dX12_heightOf_0 rfl rfl ?_
  refine r_iload_n dX12_heightOf_1 rfl rfl ?_
  refine r_iconst (v := nI 0) dX12_heightOf_2 (by decide) ?_
  refine r_V2i (y' := mX12_blockByte) dX12_heightOf_3 lX12_67 kX12_blockByte ⟨by decide, by decide⟩ rfl (Nat.le_of_ble_eq_true rfl) (rc_X12_blockByte hG _ _ h0) (fun v_3 S_3 h_3 => ?_)
  obtain ⟨rfl, rfl⟩ := h_3
  refine r_bipush (v := nI 8) dX12_heightOf_6 (by decide) ?_
  refine r_ishl dX12_heightOf_8 ?_
  refine r_aload_n dX12_heightOf_9 rfl rfl ?_
  refine r_iload_n dX12_heightOf_10 rfl rfl ?_
  refine r_iconst (v := nI 1) dX12_heightOf_11 (by decide) ?_
  refine r_V2i (y' := mX12_blockByte) dX12_heightOf_12 lX12_67 kX12_blockByte ⟨by decide, by decide⟩ rfl (Nat.le_of_ble_eq_true rfl) (rc_X12_blockByte hG _ _ h1) (fun v_12 S_12 h_12 => ?_)
  obtain ⟨rfl, rfl⟩ := h_12
  refine r_ior dX12_heightOf_15 ?_
  exact r_ireturn rfl rfl dX12_heightOf_16 ⟨_, rfl, rfl, rfl⟩
def f_proofBytes (S : rS) (p i : Int32) : Int32 := if f_blockByte S p (i + nI 5) = nI 1 then nI 71 else nI 39
theorem dX12_proofBytes_0 : decode cX12_proofBytes 0 = .ok (.aload_n 0, 1) := by decide +kernel
theorem dX12_proofBytes_1 : decode cX12_proofBytes 1 = .ok (.iload_n 1, 1) := by decide +kernel
theorem dX12_proofBytes_2 : decode cX12_proofBytes 2 = .ok (.iload_n 2, 1) := by decide +kernel
theorem dX12_proofBytes_3 : decode cX12_proofBytes 3 = .ok (.iconst 5, 1) := by decide +kernel
theorem dX12_proofBytes_4 : decode cX12_proofBytes 4 = .ok (.iadd, 1) := by decide +kernel
theorem dX12_proofBytes_5 : decode cX12_proofBytes 5 = .ok (.invokevirtual 67, 3) := by decide +kernel
theorem dX12_proofBytes_8 : decode cX12_proofBytes 8 = .ok (.iconst 1, 1) := by decide +kernel
theorem dX12_proofBytes_9 : decode cX12_proofBytes 9 = .ok (.if_icmp .ne 8, 3) := by decide +kernel
theorem dX12_proofBytes_12 : decode cX12_proofBytes 12 = .ok (.bipush 71, 2) := by decide +kernel
theorem dX12_proofBytes_14 : decode cX12_proofBytes 14 = .ok (.goto 5, 3) := by decide +kernel
theorem dX12_proofBytes_17 : decode cX12_proofBytes 17 = .ok (.bipush 39, 2) := by decide +kernel
theorem dX12_proofBytes_19 : decode cX12_proofBytes 19 = .ok (.ireturn, 1) := by decide +kernel
set_option maxHeartbeats 4000000 in
theorem rc_X12_proofBytes {G : zG} {E : rE} {S : rS} (hG : zOK G) (p i : Int32) (h : vp_in (nI 87 * p + (i + nI 5) / nI 8) 117798) : rCi G E dX12_proofBytes mX12_proofBytes [.ref E.1, .int p, .int i] S (fun v S' => v = f_proofBytes S p i ∧ S' = S) := by
  refine rC.ofX rfl (Nat.le_of_ble_eq_true rfl) ?_
  show rX G E dX12_proofBytes mX12_proofBytes 0 [some (.ref E.1), some (.int p), some (.int i)] [] S _
  refine r_aload_n dX12_proofBytes_0 rfl rfl ?_
  refine r_iload_n dX12_proofBytes_1 rfl rfl ?_
  refine r_iload_n dX12_proofBytes_2 rfl rfl ?_
  refine r_iconst (v := nI 5) dX12_proofBytes_3 (by decide) ?_
  refine r_iadd dX12_proofBytes_4 ?_
  refine r_V2i (y' := mX12_blockByte) dX12_proofBytes_5 lX12_67 kX12_blockByte ⟨by decide, by decide⟩ rfl (Nat.le_of_ble_eq_true rfl) (rc_X12_blockByte hG _ _ h) (fun v_5 S_5 h_5 => ?_)
  obtain ⟨rfl, rfl⟩ := h_5
  refine r_iconst (v := nI 1) dX12_proofBytes_8 (by decide) ?_
  refine r_icmp_ne (tgt := 17) dX12_proofBytes_9 (by decide) (fun c_9 => ?_) (fun c_9 => ?_)
  · refine r_bipush (v := nI 39) dX12_proofBytes_17 (by decide) ?_
    exact r_ireturn rfl rfl dX12_proofBytes_19 ⟨_, rfl, by simp [f_proofBytes, c_9], rfl⟩
  · refine r_bipush (v := nI 71) dX12_proofBytes_12 (by decide) ?_
    refine r_goto (tgt := 19) dX12_proofBytes_14 (by decide) ?_
    exact r_ireturn rfl rfl dX12_proofBytes_19 ⟨_, rfl, by simp [f_proofBytes, c_9], rfl⟩

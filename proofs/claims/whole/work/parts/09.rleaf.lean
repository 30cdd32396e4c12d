/-! turn -/
def F_turn_0 (N : Nat) (x0 : Int32) (x1 : Int32) (S : rS) : Int32 := (((Int32.toUInt32 x0 >>> (Int32.toUInt32 (x1) &&& Int32.toUInt32 31)).toInt32) ||| (x0 <<< (((nI 32) - x1) &&& 31)))
def O_turn_0 (N : Nat) (x0 : Int32) (x1 : Int32) (S : rS) : Prop := True
set_option maxHeartbeats 4000000 in
theorem b_turn_0 {G : zG} {E : rE} {S : rS} {N : Nat} {Q : Option Value → rS → Prop} {X : Int32 → Prop} (hG : zOK G) (hR : ∀ v, X v → Q (some (.int v)) S) {x0 : Int32} {x1 : Int32} (ok : O_turn_0 N x0 x1 S) (hx : X (F_turn_0 N x0 x1 S)) : rX G E dX12_turn mX12_turn 0 [some (.int x0), some (.int x1)] [] S Q := by
  unfold O_turn_0 at ok
  unfold F_turn_0 at hx
  refine r_iload_n dX12_turn_0 rfl rfl ?_
  refine r_iload_n dX12_turn_1 rfl rfl ?_
  refine r_iushr dX12_turn_2 ?_
  refine r_iload_n dX12_turn_3 rfl rfl ?_
  refine r_bipush (v := nI 32) dX12_turn_4 (by decide) ?_
  refine r_iload_n dX12_turn_6 rfl rfl ?_
  refine r_isub dX12_turn_7 ?_
  refine r_ishl dX12_turn_8 ?_
  refine r_ior dX12_turn_9 ?_
  exact r_ireturn rfl rfl dX12_turn_10 (hR _ hx)
def f_turn (N : Nat) (S : rS) (x0 : Int32) (x1 : Int32) : Int32 := F_turn_0 N x0 x1 S
def o_turn (N : Nat) (S : rS) (x0 : Int32) (x1 : Int32) : Prop := O_turn_0 N x0 x1 S
set_option maxHeartbeats 4000000 in
theorem rc_X12_turn {G : zG} {E : rE} {S : rS} {N : Nat} (hG : zOK G) {x0 : Int32} {x1 : Int32} (ok : o_turn N S x0 x1) : rCi G E dX12_turn mX12_turn [.int x0, .int x1] S (fun v S' => v = f_turn N S x0 x1 ∧ S' = S) := by
  refine rC.ofX rfl (Nat.le_of_ble_eq_true rfl) ?_
  show rX G E dX12_turn mX12_turn 0 [some (.int x0), some (.int x1)] [] S _
  exact rX.cutz (b_turn_0 (X := fun F => F = f_turn N S x0 x1) hG (fun v h => ⟨v, rfl, h, rfl⟩) ok rfl) ⟨rfl, rfl, trivial⟩
/-! byteIn -/
def F_byteIn_0 (N : Nat) (x0 : Int64) (x2 : Int32) (S : rS) : Int32 := ((Int64.toInt32 (x0 >>> (Int32.toInt64 ((nI 56) - ((nI 8) * x2)) &&& 63))) &&& (nI 255))
def O_byteIn_0 (N : Nat) (x0 : Int64) (x2 : Int32) (S : rS) : Prop := True
set_option maxHeartbeats 4000000 in
theorem b_byteIn_0 {G : zG} {E : rE} {S : rS} {N : Nat} {Q : Option Value → rS → Prop} {X : Int32 → Prop} (hG : zOK G) (hR : ∀ v, X v → Q (some (.int v)) S) {x0 : Int64} {x2 : Int32} (ok : O_byteIn_0 N x0 x2 S) (hx : X (F_byteIn_0 N x0 x2 S)) : rX G E dX12_byteIn mX12_byteIn 0 [some (.long x0), none, some (.int x2)] [] S Q := by
  unfold O_byteIn_0 at ok
  unfold F_byteIn_0 at hx
  refine r_lload_n dX12_byteIn_0 rfl rfl ?_
  refine r_bipush (v := nI 56) dX12_byteIn_1 (by decide) ?_
  refine r_bipush (v := nI 8) dX12_byteIn_3 (by decide) ?_
  refine r_iload_n dX12_byteIn_5 rfl rfl ?_
  refine r_imul dX12_byteIn_6 ?_
  refine r_isub dX12_byteIn_7 ?_
  refine r_lshr dX12_byteIn_8 ?_
  refine r_l2i dX12_byteIn_9 ?_
  refine r_sipush (v := nI 255) dX12_byteIn_10 (by decide) ?_
  refine r_iand dX12_byteIn_13 ?_
  exact r_ireturn rfl rfl dX12_byteIn_14 (hR _ hx)
def f_byteIn (N : Nat) (S : rS) (x0 : Int64) (x2 : Int32) : Int32 := F_byteIn_0 N x0 x2 S
def o_byteIn (N : Nat) (S : rS) (x0 : Int64) (x2 : Int32) : Prop := O_byteIn_0 N x0 x2 S
set_option maxHeartbeats 4000000 in
theorem rc_X12_byteIn {G : zG} {E : rE} {S : rS} {N : Nat} (hG : zOK G) {x0 : Int64} {x2 : Int32} (ok : o_byteIn N S x0 x2) : rCi G E dX12_byteIn mX12_byteIn [.long x0, .int x2] S (fun v S' => v = f_byteIn N S x0 x2 ∧ S' = S) := by
  refine rC.ofX rfl (Nat.le_of_ble_eq_true rfl) ?_
  show rX G E dX12_byteIn mX12_byteIn 0 [some (.long x0), none, some (.int x2)] [] S _
  exact rX.cutz (b_byteIn_0 (X := fun F => F = f_byteIn N S x0 x2) hG (fun v h => ⟨v, rfl, h, rfl⟩) ok rfl) ⟨rfl, rfl, trivial⟩
/-! hashByte -/
def F_hashByte_0 (N : Nat) (x1 : Int32) (S : rS) : rS := (rsI (rsA S 6 (S.1 7).toNatClampNeg (x1 &&& (nI 255))) 7 (((rsA S 6 (S.1 7).toNatClampNeg (x1 &&& (nI 255))).1 7) + (nI 1)))
def O_hashByte_0 (N : Nat) (x1 : Int32) (S : rS) : Prop := (vp_in (S.1 7) 1100) ∧ True
set_option maxHeartbeats 4000000 in
theorem b_hashByte_0 {G : zG} {E : rE} {S : rS} {N : Nat} {Q : Option Value → rS → Prop} {X : rS → Prop} (hG : zOK G) (hR : ∀ S', X S' → Q none S') {x1 : Int32} (ok : O_hashByte_0 N x1 S) (hx : X (F_hashByte_0 N x1 S)) : rX G E dX12_hashByte mX12_hashByte 0 [some (.ref E.1), some (.int x1)] [] S Q := by
  unfold O_hashByte_0 at ok
  unfold F_hashByte_0 at hx
  refine r_aload_n dX12_hashByte_0 rfl rfl ?_
  refine r_getA 6 fX12_22 (by decide) (by decide) dX12_hashByte_1 ?_
  refine r_aload_n dX12_hashByte_4 rfl rfl ?_
  refine r_getI 7 fX12_25 (by decide) (by decide) dX12_hashByte_5 ?_
  refine r_iload_n dX12_hashByte_8 rfl rfl ?_
  refine r_sipush (v := nI 255) dX12_hashByte_9 (by decide) ?_
  refine r_iand dX12_hashByte_12 ?_
  refine r_iast hG (by decide) (by decide) dX12_hashByte_13 ok.1 ?_
  have ok := ok.2
  refine r_aload_n dX12_hashByte_14 rfl rfl ?_
  refine r_aload_n dX12_hashByte_15 rfl rfl ?_
  refine r_getI 7 fX12_25 (by decide) (by decide) dX12_hashByte_16 ?_
  refine r_iconst (v := nI 1) dX12_hashByte_19 (by decide) ?_
  refine r_iadd dX12_hashByte_20 ?_
  refine r_putI 7 fX12_25 (by decide) (by decide) rfl rfl rfl dX12_hashByte_21 ?_
  exact r_return rfl dX12_hashByte_24 (hR _ hx)
def f_hashByte (N : Nat) (S : rS) (x1 : Int32) : rS := F_hashByte_0 N x1 S
def o_hashByte (N : Nat) (S : rS) (x1 : Int32) : Prop := O_hashByte_0 N x1 S
set_option maxHeartbeats 4000000 in
theorem rc_X12_hashByte {G : zG} {E : rE} {S : rS} {N : Nat} (hG : zOK G) {x1 : Int32} (ok : o_hashByte N S x1) : rCv G E dX12_hashByte mX12_hashByte [.ref E.1, .int x1] S (fun S' => S' = f_hashByte N S x1) := by
  refine rC.ofX rfl (Nat.le_of_ble_eq_true rfl) ?_
  show rX G E dX12_hashByte mX12_hashByte 0 [some (.ref E.1), some (.int x1)] [] S _
  exact rX.cutz (b_hashByte_0 (X := fun F => F = f_hashByte N S x1) hG (fun S' h => ⟨rfl, h⟩) ok rfl) ⟨rfl, rfl, trivial⟩
/-! isThere -/
def F_isThere_14 (N : Nat) (s0 : Int32) (S : rS) : Int32 := s0
def O_isThere_14 (N : Nat) (s0 : Int32) (S : rS) : Prop := narrow .boolean (.int s0) = .int s0
set_option maxHeartbeats 4000000 in
theorem b_isThere_14 {G : zG} {E : rE} {S : rS} {N : Nat} {Q : Option Value → rS → Prop} {X : Int32 → Prop} (hG : zOK G) (hR : ∀ v, X v → Q (some (.int v)) S) {s0 : Int32} (ok : O_isThere_14 N s0 S) (hx : X (F_isThere_14 N s0 S)) : rX G E dX12_isThere mX12_isThere 14 [none, none] [.int s0] S Q := by
  unfold O_isThere_14 at ok
  unfold F_isThere_14 at hx
  exact r_ireturn rfl ok dX12_isThere_14 (hR _ hx)
def F_isThere_0 (N : Nat) (x1 : Int32) (S : rS) : Int32 := (if (S.2.1 14 x1.toNatClampNeg) ≤ 0 then (F_isThere_14 N (nI 0) S) else (F_isThere_14 N (nI 1) S))
def O_isThere_0 (N : Nat) (x1 : Int32) (S : rS) : Prop := (vp_in x1 1354) ∧ (((S.2.1 14 x1.toNatClampNeg) ≤ 0 → O_isThere_14 N (nI 0) S) ∧ (¬ (S.2.1 14 x1.toNatClampNeg) ≤ 0 → O_isThere_14 N (nI 1) S))
set_option maxHeartbeats 4000000 in
theorem b_isThere_0 {G : zG} {E : rE} {S : rS} {N : Nat} {Q : Option Value → rS → Prop} {X : Int32 → Prop} (hG : zOK G) (hR : ∀ v, X v → Q (some (.int v)) S) {x1 : Int32} (ok : O_isThere_0 N x1 S) (hx : X (F_isThere_0 N x1 S)) : rX G E dX12_isThere mX12_isThere 0 [some (.ref E.1), some (.int x1)] [] S Q := by
  unfold O_isThere_0 at ok
  unfold F_isThere_0 at hx
  refine r_aload_n dX12_isThere_0 rfl rfl ?_
  refine r_getA 14 fX12_57 (by decide) (by decide) dX12_isThere_1 ?_
  refine r_iload_n dX12_isThere_4 rfl rfl ?_
  refine r_iald (by decide) (by decide) dX12_isThere_5 ok.1 ?_
  have ok := ok.2
  refine r_if_le (tgt := 13) dX12_isThere_6 (by decide) (fun c_6 => ?_) (fun c_6 => ?_)
  · have ok := ok.1 c_6
    have hx := xif_p c_6 hx
    refine r_iconst (v := nI 0) dX12_isThere_13 (by decide) ?_
    exact rX.cutz (b_isThere_14 hG hR ok hx) trivial
  · have ok := ok.2 c_6
    have hx := xif_n c_6 hx
    refine r_iconst (v := nI 1) dX12_isThere_9 (by decide) ?_
    refine r_goto (tgt := 14) dX12_isThere_10 (by decide) ?_
    exact rX.cutz (b_isThere_14 hG hR ok hx) trivial
def f_isThere (N : Nat) (S : rS) (x1 : Int32) : Int32 := F_isThere_0 N x1 S
def o_isThere (N : Nat) (S : rS) (x1 : Int32) : Prop := O_isThere_0 N x1 S
set_option maxHeartbeats 4000000 in
theorem rc_X12_isThere {G : zG} {E : rE} {S : rS} {N : Nat} (hG : zOK G) {x1 : Int32} (ok : o_isThere N S x1) : rCi G E dX12_isThere mX12_isThere [.ref E.1, .int x1] S (fun v S' => v = f_isThere N S x1 ∧ S' = S) := by
  refine rC.ofX rfl (Nat.le_of_ble_eq_true rfl) ?_
  show rX G E dX12_isThere mX12_isThere 0 [some (.ref E.1), some (.int x1)] [] S _
  exact rX.cutz (b_isThere_0 (X := fun F => F = f_isThere N S x1) hG (fun v h => ⟨v, rfl, h, rfl⟩) ok rfl) ⟨rfl, rfl, trivial⟩
/-! clear -/
def F_clear_0 (N : Nat) (x1 : Int32) (S : rS) : rS := (rsA S 14 x1.toNatClampNeg (nI 0))
def O_clear_0 (N : Nat) (x1 : Int32) (S : rS) : Prop := (vp_in x1 1354) ∧ True
set_option maxHeartbeats 4000000 in
theorem b_clear_0 {G : zG} {E : rE} {S : rS} {N : Nat} {Q : Option Value → rS → Prop} {X : rS → Prop} (hG : zOK G) (hR : ∀ S', X S' → Q none S') {x1 : Int32} (ok : O_clear_0 N x1 S) (hx : X (F_clear_0 N x1 S)) : rX G E dX12_clear mX12_clear 0 [some (.ref E.1), some (.int x1)] [] S Q := by
  unfold O_clear_0 at ok
  unfold F_clear_0 at hx
  refine r_aload_n dX12_clear_0 rfl rfl ?_
  refine r_getA 14 fX12_57 (by decide) (by decide) dX12_clear_1 ?_
  refine r_iload_n dX12_clear_4 rfl rfl ?_
  refine r_iconst (v := nI 0) dX12_clear_5 (by decide) ?_
  refine r_iast hG (by decide) (by decide) dX12_clear_6 ok.1 ?_
  have ok := ok.2
  exact r_return rfl dX12_clear_7 (hR _ hx)
def f_clear (N : Nat) (S : rS) (x1 : Int32) : rS := F_clear_0 N x1 S
def o_clear (N : Nat) (S : rS) (x1 : Int32) : Prop := O_clear_0 N x1 S
set_option maxHeartbeats 4000000 in
theorem rc_X12_clear {G : zG} {E : rE} {S : rS} {N : Nat} (hG : zOK G) {x1 : Int32} (ok : o_clear N S x1) : rCv G E dX12_clear mX12_clear [.ref E.1, .int x1] S (fun S' => S' = f_clear N S x1) := by
  refine rC.ofX rfl (Nat.le_of_ble_eq_true rfl) ?_
  show rX G E dX12_clear mX12_clear 0 [some (.ref E.1), some (.int x1)] [] S _
  exact rX.cutz (b_clear_0 (X := fun F => F = f_clear N S x1) hG (fun S' h => ⟨rfl, h⟩) ok rfl) ⟨rfl, rfl, trivial⟩
/-! blockByte -/
def F_blockByte_0 (N : Nat) (x1 : Int32) (x2 : Int32) (S : rS) : Int32 := (f_byteIn N S (S.2.2 12 (((nI 87) * x1) + (x2 / (nI 8))).toNatClampNeg) (x2 - x2 / (nI 8) * (nI 8)))
def O_blockByte_0 (N : Nat) (x1 : Int32) (x2 : Int32) (S : rS) : Prop := (vp_in (((nI 87) * x1) + (x2 / (nI 8))) 117798) ∧ (o_byteIn N S (S.2.2 12 (((nI 87) * x1) + (x2 / (nI 8))).toNatClampNeg) (x2 - x2 / (nI 8) * (nI 8))) ∧ True
set_option maxHeartbeats 4000000 in
theorem b_blockByte_0 {G : zG} {E : rE} {S : rS} {N : Nat} {Q : Option Value → rS → Prop} {X : Int32 → Prop} (hG : zOK G) (hR : ∀ v, X v → Q (some (.int v)) S) {x1 : Int32} {x2 : Int32} (ok : O_blockByte_0 N x1 x2 S) (hx : X (F_blockByte_0 N x1 x2 S)) : rX G E dX12_blockByte mX12_blockByte 0 [some (.ref E.1), some (.int x1), some (.int x2)] [] S Q := by
  unfold O_blockByte_0 at ok
  unfold F_blockByte_0 at hx
  refine r_aload_n dX12_blockByte_0 rfl rfl ?_
  refine r_getA 12 fX12_45 (by decide) (by decide) dX12_blockByte_1 ?_
  refine r_bipush (v := nI 87) dX12_blockByte_4 (by decide) ?_
  refine r_iload_n dX12_blockByte_6 rfl rfl ?_
  refine r_imul dX12_blockByte_7 ?_
  refine r_iload_n dX12_blockByte_8 rfl rfl ?_
  refine r_bipush (v := nI 8) dX12_blockByte_9 (by decide) ?_
  refine r_idiv dX12_blockByte_11 (by decide) ?_
  refine r_iadd dX12_blockByte_12 ?_
  refine r_lald (by decide) (by decide) dX12_blockByte_13 ok.1 ?_
  have ok := ok.2
  refine r_iload_n dX12_blockByte_14 rfl rfl ?_
  refine r_bipush (v := nI 8) dX12_blockByte_15 (by decide) ?_
  refine r_irem dX12_blockByte_17 (by decide) ?_
  refine r_S2i (y' := mX12_byteIn) dX12_blockByte_18 lX12_49 kX12_byteIn ⟨by decide, by decide⟩ (Nat.le_of_ble_eq_true rfl) (rc_X12_byteIn hG ok.1) (fun v_18 S_18 h_18 => ?_)
  obtain ⟨rfl, rfl⟩ := h_18
  have ok := ok.2
  exact r_ireturn rfl rfl dX12_blockByte_21 (hR _ hx)
def f_blockByte (N : Nat) (S : rS) (x1 : Int32) (x2 : Int32) : Int32 := F_blockByte_0 N x1 x2 S
def o_blockByte (N : Nat) (S : rS) (x1 : Int32) (x2 : Int32) : Prop := O_blockByte_0 N x1 x2 S
set_option maxHeartbeats 4000000 in
theorem rc_X12_blockByte {G : zG} {E : rE} {S : rS} {N : Nat} (hG : zOK G) {x1 : Int32} {x2 : Int32} (ok : o_blockByte N S x1 x2) : rCi G E dX12_blockByte mX12_blockByte [.ref E.1, .int x1, .int x2] S (fun v S' => v = f_blockByte N S x1 x2 ∧ S' = S) := by
  refine rC.ofX rfl (Nat.le_of_ble_eq_true rfl) ?_
  show rX G E dX12_blockByte mX12_blockByte 0 [some (.ref E.1), some (.int x1), some (.int x2)] [] S _
  exact rX.cutz (b_blockByte_0 (X := fun F => F = f_blockByte N S x1 x2) hG (fun v h => ⟨v, rfl, h, rfl⟩) ok rfl) ⟨rfl, rfl, rfl, trivial⟩
/-! setByte -/
def F_setByte_0 (N : Nat) (x1 : Int32) (x2 : Int32) (x3 : Int32) (S : rS) : rS := (rsL S 12 (((nI 87) * x1) + (x2 / (nI 8))).toNatClampNeg (((S.2.2 12 (((nI 87) * x1) + (x2 / (nI 8))).toNatClampNeg) &&& (((255 : Int64) <<< (Int32.toInt64 ((nI 56) - ((nI 8) * (x2 - x2 / (nI 8) * (nI 8)))) &&& 63)) ^^^ (-1 : Int64))) ||| ((Int32.toInt64 (x3 &&& (nI 255))) <<< (Int32.toInt64 ((nI 56) - ((nI 8) * (x2 - x2 / (nI 8) * (nI 8)))) &&& 63))))
def O_setByte_0 (N : Nat) (x1 : Int32) (x2 : Int32) (x3 : Int32) (S : rS) : Prop := (vp_in (((nI 87) * x1) + (x2 / (nI 8))) 117798) ∧ (vp_in (((nI 87) * x1) + (x2 / (nI 8))) 117798) ∧ True
set_option maxHeartbeats 4000000 in
theorem b_setByte_0 {G : zG} {E : rE} {S : rS} {N : Nat} {Q : Option Value → rS → Prop} {X : rS → Prop} (hG : zOK G) (hR : ∀ S', X S' → Q none S') {x1 : Int32} {x2 : Int32} {x3 : Int32} (ok : O_setByte_0 N x1 x2 x3 S) (hx : X (F_setByte_0 N x1 x2 x3 S)) : rX G E dX12_setByte mX12_setByte 0 [some (.ref E.1), some (.int x1), some (.int x2), some (.int x3), none, none] [] S Q := by
  unfold O_setByte_0 at ok
  unfold F_setByte_0 at hx
  refine r_bipush (v := nI 56) dX12_setByte_0 (by decide) ?_
  refine r_bipush (v := nI 8) dX12_setByte_2 (by decide) ?_
  refine r_iload_n dX12_setByte_4 rfl rfl ?_
  refine r_bipush (v := nI 8) dX12_setByte_5 (by decide) ?_
  refine r_irem dX12_setByte_7 (by decide) ?_
  refine r_imul dX12_setByte_8 ?_
  refine r_isub dX12_setByte_9 ?_
  refine r_istore_4 dX12_setByte_10 (by decide) rfl ?_
  refine r_bipush (v := nI 87) dX12_setByte_12 (by decide) ?_
  refine r_iload_n dX12_setByte_14 rfl rfl ?_
  refine r_imul dX12_setByte_15 ?_
  refine r_iload_n dX12_setByte_16 rfl rfl ?_
  refine r_bipush (v := nI 8) dX12_setByte_17 (by decide) ?_
  refine r_idiv dX12_setByte_19 (by decide) ?_
  refine r_iadd dX12_setByte_20 ?_
  refine r_istore_5 dX12_setByte_21 (by decide) rfl ?_
  refine r_aload_n dX12_setByte_23 rfl rfl ?_
  refine r_getA 12 fX12_45 (by decide) (by decide) dX12_setByte_24 ?_
  refine r_iload dX12_setByte_27 rfl ?_
  refine r_aload_n dX12_setByte_29 rfl rfl ?_
  refine r_getA 12 fX12_45 (by decide) (by decide) dX12_setByte_30 ?_
  refine r_iload dX12_setByte_33 rfl ?_
  refine r_lald (by decide) (by decide) dX12_setByte_35 ok.1 ?_
  have ok := ok.2
  refine r_ldc2 dX12_setByte_36 nX12_53 ?_
  refine r_iload dX12_setByte_39 rfl ?_
  refine r_lshl dX12_setByte_41 ?_
  refine r_ldc2 dX12_setByte_42 nX12_55 ?_
  refine r_lxor dX12_setByte_45 ?_
  refine r_land dX12_setByte_46 ?_
  refine r_iload_n dX12_setByte_47 rfl rfl ?_
  refine r_sipush (v := nI 255) dX12_setByte_48 (by decide) ?_
  refine r_iand dX12_setByte_51 ?_
  refine r_i2l dX12_setByte_52 ?_
  refine r_iload dX12_setByte_53 rfl ?_
  refine r_lshl dX12_setByte_55 ?_
  refine r_lor dX12_setByte_56 ?_
  refine r_last (by decide) (by decide) dX12_setByte_57 ok.1 ?_
  have ok := ok.2
  exact r_return rfl dX12_setByte_58 (hR _ hx)
def f_setByte (N : Nat) (S : rS) (x1 : Int32) (x2 : Int32) (x3 : Int32) : rS := F_setByte_0 N x1 x2 x3 S
def o_setByte (N : Nat) (S : rS) (x1 : Int32) (x2 : Int32) (x3 : Int32) : Prop := O_setByte_0 N x1 x2 x3 S
set_option maxHeartbeats 4000000 in
theorem rc_X12_setByte {G : zG} {E : rE} {S : rS} {N : Nat} (hG : zOK G) {x1 : Int32} {x2 : Int32} {x3 : Int32} (ok : o_setByte N S x1 x2 x3) : rCv G E dX12_setByte mX12_setByte [.ref E.1, .int x1, .int x2, .int x3] S (fun S' => S' = f_setByte N S x1 x2 x3) := by
  refine rC.ofX rfl (Nat.le_of_ble_eq_true rfl) ?_
  show rX G E dX12_setByte mX12_setByte 0 [some (.ref E.1), some (.int x1), some (.int x2), some (.int x3), none, none] [] S _
  exact rX.cutz (b_setByte_0 (X := fun F => F = f_setByte N S x1 x2 x3) hG (fun S' h => ⟨rfl, h⟩) ok rfl) ⟨rfl, rfl, rfl, rfl, trivial⟩
/-! sum -/
def F_sum_0 (N : Nat) (x1 : Int32) (S : rS) : Int64 := (((Int32.toInt64 (S.2.1 8 ((nI 2) * x1).toNatClampNeg)) <<< (Int32.toInt64 (nI 32) &&& 63)) ||| ((Int32.toInt64 (S.2.1 8 (((nI 2) * x1) + (nI 1)).toNatClampNeg)) &&& (4294967295 : Int64)))
def O_sum_0 (N : Nat) (x1 : Int32) (S : rS) : Prop := (vp_in ((nI 2) * x1) 8) ∧ (vp_in (((nI 2) * x1) + (nI 1)) 8) ∧ True
set_option maxHeartbeats 4000000 in
theorem b_sum_0 {G : zG} {E : rE} {S : rS} {N : Nat} {Q : Option Value → rS → Prop} {X : Int64 → Prop} (hG : zOK G) (hR : ∀ v, X v → Q (some (.long v)) S) {x1 : Int32} (ok : O_sum_0 N x1 S) (hx : X (F_sum_0 N x1 S)) : rX G E dX12_sum mX12_sum 0 [some (.ref E.1), some (.int x1)] [] S Q := by
  unfold O_sum_0 at ok
  unfold F_sum_0 at hx
  refine r_aload_n dX12_sum_0 rfl rfl ?_
  refine r_getA 8 fX12_33 (by decide) (by decide) dX12_sum_1 ?_
  refine r_iconst (v := nI 2) dX12_sum_4 (by decide) ?_
  refine r_iload_n dX12_sum_5 rfl rfl ?_
  refine r_imul dX12_sum_6 ?_
  refine r_iald (by decide) (by decide) dX12_sum_7 ok.1 ?_
  have ok := ok.2
  refine r_i2l dX12_sum_8 ?_
  refine r_bipush (v := nI 32) dX12_sum_9 (by decide) ?_
  refine r_lshl dX12_sum_11 ?_
  refine r_aload_n dX12_sum_12 rfl rfl ?_
  refine r_getA 8 fX12_33 (by decide) (by decide) dX12_sum_13 ?_
  refine r_iconst (v := nI 2) dX12_sum_16 (by decide) ?_
  refine r_iload_n dX12_sum_17 rfl rfl ?_
  refine r_imul dX12_sum_18 ?_
  refine r_iconst (v := nI 1) dX12_sum_19 (by decide) ?_
  refine r_iadd dX12_sum_20 ?_
  refine r_iald (by decide) (by decide) dX12_sum_21 ok.1 ?_
  have ok := ok.2
  refine r_i2l dX12_sum_22 ?_
  refine r_ldc2 dX12_sum_23 nX12_18 ?_
  refine r_land dX12_sum_26 ?_
  refine r_lor dX12_sum_27 ?_
  exact r_lreturn rfl dX12_sum_28 (hR _ hx)
def f_sum (N : Nat) (S : rS) (x1 : Int32) : Int64 := F_sum_0 N x1 S
def o_sum (N : Nat) (S : rS) (x1 : Int32) : Prop := O_sum_0 N x1 S
set_option maxHeartbeats 4000000 in
theorem rc_X12_sum {G : zG} {E : rE} {S : rS} {N : Nat} (hG : zOK G) {x1 : Int32} (ok : o_sum N S x1) : rCl G E dX12_sum mX12_sum [.ref E.1, .int x1] S (fun v S' => v = f_sum N S x1 ∧ S' = S) := by
  refine rC.ofX rfl (Nat.le_of_ble_eq_true rfl) ?_
  show rX G E dX12_sum mX12_sum 0 [some (.ref E.1), some (.int x1)] [] S _
  exact rX.cutz (b_sum_0 (X := fun F => F = f_sum N S x1) hG (fun v h => ⟨v, rfl, h, rfl⟩) ok rfl) ⟨rfl, rfl, trivial⟩
/-! heightOf -/
def F_heightOf_0 (N : Nat) (x1 : Int32) (S : rS) : Int32 := (((f_blockByte N S x1 (nI 0)) <<< ((nI 8) &&& 31)) ||| (f_blockByte N S x1 (nI 1)))
def O_heightOf_0 (N : Nat) (x1 : Int32) (S : rS) : Prop := (o_blockByte N S x1 (nI 0)) ∧ (o_blockByte N S x1 (nI 1)) ∧ True
set_option maxHeartbeats 4000000 in
theorem b_heightOf_0 {G : zG} {E : rE} {S : rS} {N : Nat} {Q : Option Value → rS → Prop} {X : Int32 → Prop} (hG : zOK G) (hR : ∀ v, X v → Q (some (.int v)) S) {x1 : Int32} (ok : O_heightOf_0 N x1 S) (hx : X (F_heightOf_0 N x1 S)) : rX G E dX12_heightOf mX12_heightOf 0 [some (.ref E.1), some (.int x1)] [] S Q := by
  unfold O_heightOf_0 at ok
  unfold F_heightOf_0 at hx
  refine r_aload_n dX12_heightOf_0 rfl rfl ?_
  refine r_iload_n dX12_heightOf_1 rfl rfl ?_
  refine r_iconst (v := nI 0) dX12_heightOf_2 (by decide) ?_
  refine r_V2i (y' := mX12_blockByte) dX12_heightOf_3 lX12_67 kX12_blockByte ⟨by decide, by decide⟩ rfl (Nat.le_of_ble_eq_true rfl) (rc_X12_blockByte hG ok.1) (fun v_3 S_3 h_3 => ?_)
  obtain ⟨rfl, rfl⟩ := h_3
  have ok := ok.2
  refine r_bipush (v := nI 8) dX12_heightOf_6 (by decide) ?_
  refine r_ishl dX12_heightOf_8 ?_
  refine r_aload_n dX12_heightOf_9 rfl rfl ?_
  refine r_iload_n dX12_heightOf_10 rfl rfl ?_
  refine r_iconst (v := nI 1) dX12_heightOf_11 (by decide) ?_
  refine r_V2i (y' := mX12_blockByte) dX12_heightOf_12 lX12_67 kX12_blockByte ⟨by decide, by decide⟩ rfl (Nat.le_of_ble_eq_true rfl) (rc_X12_blockByte hG ok.1) (fun v_12 S_12 h_12 => ?_)
  obtain ⟨rfl, rfl⟩ := h_12
  have ok := ok.2
  refine r_ior dX12_heightOf_15 ?_
  exact r_ireturn rfl rfl dX12_heightOf_16 (hR _ hx)
def f_heightOf (N : Nat) (S : rS) (x1 : Int32) : Int32 := F_heightOf_0 N x1 S
def o_heightOf (N : Nat) (S : rS) (x1 : Int32) : Prop := O_heightOf_0 N x1 S
set_option maxHeartbeats 4000000 in
theorem rc_X12_heightOf {G : zG} {E : rE} {S : rS} {N : Nat} (hG : zOK G) {x1 : Int32} (ok : o_heightOf N S x1) : rCi G E dX12_heightOf mX12_heightOf [.ref E.1, .int x1] S (fun v S' => v = f_heightOf N S x1 ∧ S' = S) := by
  refine rC.ofX rfl (Nat.le_of_ble_eq_true rfl) ?_
  show rX G E dX12_heightOf mX12_heightOf 0 [some (.ref E.1), some (.int x1)] [] S _
  exact rX.cutz (b_heightOf_0 (X := fun F => F = f_heightOf N S x1) hG (fun v h => ⟨v, rfl, h, rfl⟩) ok rfl) ⟨rfl, rfl, trivial⟩
/-! makerOf -/
def F_makerOf_0 (N : Nat) (x1 : Int32) (S : rS) : Int32 := (f_blockByte N S x1 (nI 2))
def O_makerOf_0 (N : Nat) (x1 : Int32) (S : rS) : Prop := (o_blockByte N S x1 (nI 2)) ∧ True
set_option maxHeartbeats 4000000 in
theorem b_makerOf_0 {G : zG} {E : rE} {S : rS} {N : Nat} {Q : Option Value → rS → Prop} {X : Int32 → Prop} (hG : zOK G) (hR : ∀ v, X v → Q (some (.int v)) S) {x1 : Int32} (ok : O_makerOf_0 N x1 S) (hx : X (F_makerOf_0 N x1 S)) : rX G E dX12_makerOf mX12_makerOf 0 [some (.ref E.1), some (.int x1)] [] S Q := by
  unfold O_makerOf_0 at ok
  unfold F_makerOf_0 at hx
  refine r_aload_n dX12_makerOf_0 rfl rfl ?_
  refine r_iload_n dX12_makerOf_1 rfl rfl ?_
  refine r_iconst (v := nI 2) dX12_makerOf_2 (by decide) ?_
  refine r_V2i (y' := mX12_blockByte) dX12_makerOf_3 lX12_67 kX12_blockByte ⟨by decide, by decide⟩ rfl (Nat.le_of_ble_eq_true rfl) (rc_X12_blockByte hG ok.1) (fun v_3 S_3 h_3 => ?_)
  obtain ⟨rfl, rfl⟩ := h_3
  have ok := ok.2
  exact r_ireturn rfl rfl dX12_makerOf_6 (hR _ hx)
def f_makerOf (N : Nat) (S : rS) (x1 : Int32) : Int32 := F_makerOf_0 N x1 S
def o_makerOf (N : Nat) (S : rS) (x1 : Int32) : Prop := O_makerOf_0 N x1 S
set_option maxHeartbeats 4000000 in
theorem rc_X12_makerOf {G : zG} {E : rE} {S : rS} {N : Nat} (hG : zOK G) {x1 : Int32} (ok : o_makerOf N S x1) : rCi G E dX12_makerOf mX12_makerOf [.ref E.1, .int x1] S (fun v S' => v = f_makerOf N S x1 ∧ S' = S) := by
  refine rC.ofX rfl (Nat.le_of_ble_eq_true rfl) ?_
  show rX G E dX12_makerOf mX12_makerOf 0 [some (.ref E.1), some (.int x1)] [] S _
  exact rX.cutz (b_makerOf_0 (X := fun F => F = f_makerOf N S x1) hG (fun v h => ⟨v, rfl, h, rfl⟩) ok rfl) ⟨rfl, rfl, trivial⟩
/-! paymentsOf -/
def F_paymentsOf_0 (N : Nat) (x1 : Int32) (S : rS) : Int32 := (f_blockByte N S x1 (nI 99))
def O_paymentsOf_0 (N : Nat) (x1 : Int32) (S : rS) : Prop := (o_blockByte N S x1 (nI 99)) ∧ True
set_option maxHeartbeats 4000000 in
theorem b_paymentsOf_0 {G : zG} {E : rE} {S : rS} {N : Nat} {Q : Option Value → rS → Prop} {X : Int32 → Prop} (hG : zOK G) (hR : ∀ v, X v → Q (some (.int v)) S) {x1 : Int32} (ok : O_paymentsOf_0 N x1 S) (hx : X (F_paymentsOf_0 N x1 S)) : rX G E dX12_paymentsOf mX12_paymentsOf 0 [some (.ref E.1), some (.int x1)] [] S Q := by
  unfold O_paymentsOf_0 at ok
  unfold F_paymentsOf_0 at hx
  refine r_aload_n dX12_paymentsOf_0 rfl rfl ?_
  refine r_iload_n dX12_paymentsOf_1 rfl rfl ?_
  refine r_bipush (v := nI 99) dX12_paymentsOf_2 (by decide) ?_
  refine r_V2i (y' := mX12_blockByte) dX12_paymentsOf_4 lX12_67 kX12_blockByte ⟨by decide, by decide⟩ rfl (Nat.le_of_ble_eq_true rfl) (rc_X12_blockByte hG ok.1) (fun v_4 S_4 h_4 => ?_)
  obtain ⟨rfl, rfl⟩ := h_4
  have ok := ok.2
  exact r_ireturn rfl rfl dX12_paymentsOf_7 (hR _ hx)
def f_paymentsOf (N : Nat) (S : rS) (x1 : Int32) : Int32 := F_paymentsOf_0 N x1 S
def o_paymentsOf (N : Nat) (S : rS) (x1 : Int32) : Prop := O_paymentsOf_0 N x1 S
set_option maxHeartbeats 4000000 in
theorem rc_X12_paymentsOf {G : zG} {E : rE} {S : rS} {N : Nat} (hG : zOK G) {x1 : Int32} (ok : o_paymentsOf N S x1) : rCi G E dX12_paymentsOf mX12_paymentsOf [.ref E.1, .int x1] S (fun v S' => v = f_paymentsOf N S x1 ∧ S' = S) := by
  refine rC.ofX rfl (Nat.le_of_ble_eq_true rfl) ?_
  show rX G E dX12_paymentsOf mX12_paymentsOf 0 [some (.ref E.1), some (.int x1)] [] S _
  exact rX.cutz (b_paymentsOf_0 (X := fun F => F = f_paymentsOf N S x1) hG (fun v h => ⟨v, rfl, h, rfl⟩) ok rfl) ⟨rfl, rfl, trivial⟩
/-! proofsOf -/
def F_proofsOf_0 (N : Nat) (x1 : Int32) (S : rS) : Int32 := (f_blockByte N S x1 (nI 100))
def O_proofsOf_0 (N : Nat) (x1 : Int32) (S : rS) : Prop := (o_blockByte N S x1 (nI 100)) ∧ True
set_option maxHeartbeats 4000000 in
theorem b_proofsOf_0 {G : zG} {E : rE} {S : rS} {N : Nat} {Q : Option Value → rS → Prop} {X : Int32 → Prop} (hG : zOK G) (hR : ∀ v, X v → Q (some (.int v)) S) {x1 : Int32} (ok : O_proofsOf_0 N x1 S) (hx : X (F_proofsOf_0 N x1 S)) : rX G E dX12_proofsOf mX12_proofsOf 0 [some (.ref E.1), some (.int x1)] [] S Q := by
  unfold O_proofsOf_0 at ok
  unfold F_proofsOf_0 at hx
  refine r_aload_n dX12_proofsOf_0 rfl rfl ?_
  refine r_iload_n dX12_proofsOf_1 rfl rfl ?_
  refine r_bipush (v := nI 100) dX12_proofsOf_2 (by decide) ?_
  refine r_V2i (y' := mX12_blockByte) dX12_proofsOf_4 lX12_67 kX12_blockByte ⟨by decide, by decide⟩ rfl (Nat.le_of_ble_eq_true rfl) (rc_X12_blockByte hG ok.1) (fun v_4 S_4 h_4 => ?_)
  obtain ⟨rfl, rfl⟩ := h_4
  have ok := ok.2
  exact r_ireturn rfl rfl dX12_proofsOf_7 (hR _ hx)
def f_proofsOf (N : Nat) (S : rS) (x1 : Int32) : Int32 := F_proofsOf_0 N x1 S
def o_proofsOf (N : Nat) (S : rS) (x1 : Int32) : Prop := O_proofsOf_0 N x1 S
set_option maxHeartbeats 4000000 in
theorem rc_X12_proofsOf {G : zG} {E : rE} {S : rS} {N : Nat} (hG : zOK G) {x1 : Int32} (ok : o_proofsOf N S x1) : rCi G E dX12_proofsOf mX12_proofsOf [.ref E.1, .int x1] S (fun v S' => v = f_proofsOf N S x1 ∧ S' = S) := by
  refine rC.ofX rfl (Nat.le_of_ble_eq_true rfl) ?_
  show rX G E dX12_proofsOf mX12_proofsOf 0 [some (.ref E.1), some (.int x1)] [] S _
  exact rX.cutz (b_proofsOf_0 (X := fun F => F = f_proofsOf N S x1) hG (fun v h => ⟨v, rfl, h, rfl⟩) ok rfl) ⟨rfl, rfl, trivial⟩
/-! proofBytes -/
def F_proofBytes_19 (N : Nat) (s0 : Int32) (S : rS) : Int32 := s0
def O_proofBytes_19 (N : Nat) (s0 : Int32) (S : rS) : Prop := True
set_option maxHeartbeats 4000000 in
theorem b_proofBytes_19 {G : zG} {E : rE} {S : rS} {N : Nat} {Q : Option Value → rS → Prop} {X : Int32 → Prop} (hG : zOK G) (hR : ∀ v, X v → Q (some (.int v)) S) {s0 : Int32} (ok : O_proofBytes_19 N s0 S) (hx : X (F_proofBytes_19 N s0 S)) : rX G E dX12_proofBytes mX12_proofBytes 19 [none, none, none] [.int s0] S Q := by
  unfold O_proofBytes_19 at ok
  unfold F_proofBytes_19 at hx
  exact r_ireturn rfl rfl dX12_proofBytes_19 (hR _ hx)
def F_proofBytes_0 (N : Nat) (x1 : Int32) (x2 : Int32) (S : rS) : Int32 := (if (f_blockByte N S x1 (x2 + (nI 5))) = (nI 1) then (F_proofBytes_19 N (nI 71) S) else (F_proofBytes_19 N (nI 39) S))
def O_proofBytes_0 (N : Nat) (x1 : Int32) (x2 : Int32) (S : rS) : Prop := (o_blockByte N S x1 (x2 + (nI 5))) ∧ (((f_blockByte N S x1 (x2 + (nI 5))) = (nI 1) → O_proofBytes_19 N (nI 71) S) ∧ (¬ (f_blockByte N S x1 (x2 + (nI 5))) = (nI 1) → O_proofBytes_19 N (nI 39) S))
set_option maxHeartbeats 4000000 in
theorem b_proofBytes_0 {G : zG} {E : rE} {S : rS} {N : Nat} {Q : Option Value → rS → Prop} {X : Int32 → Prop} (hG : zOK G) (hR : ∀ v, X v → Q (some (.int v)) S) {x1 : Int32} {x2 : Int32} (ok : O_proofBytes_0 N x1 x2 S) (hx : X (F_proofBytes_0 N x1 x2 S)) : rX G E dX12_proofBytes mX12_proofBytes 0 [some (.ref E.1), some (.int x1), some (.int x2)] [] S Q := by
  unfold O_proofBytes_0 at ok
  unfold F_proofBytes_0 at hx
  refine r_aload_n dX12_proofBytes_0 rfl rfl ?_
  refine r_iload_n dX12_proofBytes_1 rfl rfl ?_
  refine r_iload_n dX12_proofBytes_2 rfl rfl ?_
  refine r_iconst (v := nI 5) dX12_proofBytes_3 (by decide) ?_
  refine r_iadd dX12_proofBytes_4 ?_
  refine r_V2i (y' := mX12_blockByte) dX12_proofBytes_5 lX12_67 kX12_blockByte ⟨by decide, by decide⟩ rfl (Nat.le_of_ble_eq_true rfl) (rc_X12_blockByte hG ok.1) (fun v_5 S_5 h_5 => ?_)
  obtain ⟨rfl, rfl⟩ := h_5
  have ok := ok.2
  refine r_iconst (v := nI 1) dX12_proofBytes_8 (by decide) ?_
  refine r_icmp_ne (tgt := 17) dX12_proofBytes_9 (by decide) (fun c_9 => ?_) (fun c_9 => ?_)
  · have ok := ok.2 c_9
    have hx := xif_n c_9 hx
    refine r_bipush (v := nI 39) dX12_proofBytes_17 (by decide) ?_
    exact rX.cutz (b_proofBytes_19 hG hR ok hx) trivial
  · have ok := ok.1 c_9
    have hx := xif_p c_9 hx
    refine r_bipush (v := nI 71) dX12_proofBytes_12 (by decide) ?_
    refine r_goto (tgt := 19) dX12_proofBytes_14 (by decide) ?_
    exact rX.cutz (b_proofBytes_19 hG hR ok hx) trivial
def f_proofBytes (N : Nat) (S : rS) (x1 : Int32) (x2 : Int32) : Int32 := F_proofBytes_0 N x1 x2 S
def o_proofBytes (N : Nat) (S : rS) (x1 : Int32) (x2 : Int32) : Prop := O_proofBytes_0 N x1 x2 S
set_option maxHeartbeats 4000000 in
theorem rc_X12_proofBytes {G : zG} {E : rE} {S : rS} {N : Nat} (hG : zOK G) {x1 : Int32} {x2 : Int32} (ok : o_proofBytes N S x1 x2) : rCi G E dX12_proofBytes mX12_proofBytes [.ref E.1, .int x1, .int x2] S (fun v S' => v = f_proofBytes N S x1 x2 ∧ S' = S) := by
  refine rC.ofX rfl (Nat.le_of_ble_eq_true rfl) ?_
  show rX G E dX12_proofBytes mX12_proofBytes 0 [some (.ref E.1), some (.int x1), some (.int x2)] [] S _
  exact rX.cutz (b_proofBytes_0 (X := fun F => F = f_proofBytes N S x1 x2) hG (fun v h => ⟨v, rfl, h, rfl⟩) ok rfl) ⟨rfl, rfl, rfl, trivial⟩
/-! copyBlock -/
def F_copyBlock_69 (N : Nat) (x1 : Int32) (x2 : Int32) (S : rS) : rS := (rsA S 14 x2.toNatClampNeg (S.2.1 14 x1.toNatClampNeg))
def O_copyBlock_69 (N : Nat) (x1 : Int32) (x2 : Int32) (S : rS) : Prop := (vp_in x1 1354) ∧ (vp_in x2 1354) ∧ True
set_option maxHeartbeats 4000000 in
theorem b_copyBlock_69 {G : zG} {E : rE} {S : rS} {N : Nat} {Q : Option Value → rS → Prop} {X : rS → Prop} (hG : zOK G) (hR : ∀ S', X S' → Q none S') {x1 : Int32} {x2 : Int32} (ok : O_copyBlock_69 N x1 x2 S) (hx : X (F_copyBlock_69 N x1 x2 S)) : rX G E dX12_copyBlock mX12_copyBlock 69 [some (.ref E.1), some (.int x1), some (.int x2), none] [] S Q := by
  unfold O_copyBlock_69 at ok
  unfold F_copyBlock_69 at hx
  refine r_aload_n dX12_copyBlock_69 rfl rfl ?_
  refine r_getA 14 fX12_57 (by decide) (by decide) dX12_copyBlock_70 ?_
  refine r_iload_n dX12_copyBlock_73 rfl rfl ?_
  refine r_aload_n dX12_copyBlock_74 rfl rfl ?_
  refine r_getA 14 fX12_57 (by decide) (by decide) dX12_copyBlock_75 ?_
  refine r_iload_n dX12_copyBlock_78 rfl rfl ?_
  refine r_iald (by decide) (by decide) dX12_copyBlock_79 ok.1 ?_
  have ok := ok.2
  refine r_iast hG (by decide) (by decide) dX12_copyBlock_80 ok.1 ?_
  have ok := ok.2
  exact r_return rfl dX12_copyBlock_81 (hR _ hx)
def B_copyBlock_38 (N : Nat) (rec : Int32 → Int32 → Int32 → rS → Nat × Int32 × Int32 × rS) (x1 : Int32) (x2 : Int32) (x3 : Int32) (S : rS) : Nat × Int32 × Int32 × rS := (if (nI 4) ≤ x3 then (0, x1, x2, S) else (rec x1 x2 (x3 + nI 1) (rsL S 13 (((nI 4) * x2) + x3).toNatClampNeg (S.2.2 13 (((nI 4) * x1) + x3).toNatClampNeg))))
def OB_copyBlock_38 (N : Nat) (rok : Int32 → Int32 → Int32 → rS → Prop) (x1 : Int32) (x2 : Int32) (x3 : Int32) (S : rS) : Prop := (((nI 4) ≤ x3 → True) ∧ (¬ (nI 4) ≤ x3 → (vp_in (((nI 4) * x1) + x3) 5416) ∧ (vp_in (((nI 4) * x2) + x3) 5416) ∧ rok x1 x2 (x3 + nI 1) (rsL S 13 (((nI 4) * x2) + x3).toNatClampNeg (S.2.2 13 (((nI 4) * x1) + x3).toNatClampNeg))))
set_option maxHeartbeats 4000000 in
theorem bb_copyBlock_38 {G : zG} {E : rE} {S : rS} {N : Nat} {Q : Option Value → rS → Prop} {X : Nat × Int32 × Int32 × rS → Prop} (hG : zOK G) (hX0 : ∀ (x1 : Int32) (x2 : Int32) (S' : rS), X (0, x1, x2, S') → rX G E dX12_copyBlock mX12_copyBlock 69 [some (.ref E.1), some (.int x1), some (.int x2), none] [] S' Q) {rec : Int32 → Int32 → Int32 → rS → Nat × Int32 × Int32 × rS} {rok : Int32 → Int32 → Int32 → rS → Prop} (hrec : ∀ (x1 : Int32) (x2 : Int32) (x3 : Int32) (S : rS), rok x1 x2 x3 S → X (rec x1 x2 x3 S) → rX G E dX12_copyBlock mX12_copyBlock 38 [some (.ref E.1), some (.int x1), some (.int x2), some (.int x3)] [] S Q) {x1 : Int32} {x2 : Int32} {x3 : Int32} (ok : OB_copyBlock_38 N rok x1 x2 x3 S) (hx : X (B_copyBlock_38 N rec x1 x2 x3 S)) : rX G E dX12_copyBlock mX12_copyBlock 38 [some (.ref E.1), some (.int x1), some (.int x2), some (.int x3)] [] S Q := by
  unfold OB_copyBlock_38 at ok
  unfold B_copyBlock_38 at hx
  refine r_iload_n dX12_copyBlock_38 rfl rfl ?_
  refine r_iconst (v := nI 4) dX12_copyBlock_39 (by decide) ?_
  refine r_icmp_ge (tgt := 69) dX12_copyBlock_40 (by decide) (fun c_40 => ?_) (fun c_40 => ?_)
  · have ok := ok.1 c_40
    have hx := xif_p c_40 hx
    exact rX.cutz (hX0 _ _ S hx) ⟨rfl, rfl, rfl, trivial⟩
  · have ok := ok.2 c_40
    have hx := xif_n c_40 hx
    refine r_aload_n dX12_copyBlock_43 rfl rfl ?_
    refine r_getA 13 fX12_60 (by decide) (by decide) dX12_copyBlock_44 ?_
    refine r_iconst (v := nI 4) dX12_copyBlock_47 (by decide) ?_
    refine r_iload_n dX12_copyBlock_48 rfl rfl ?_
    refine r_imul dX12_copyBlock_49 ?_
    refine r_iload_n dX12_copyBlock_50 rfl rfl ?_
    refine r_iadd dX12_copyBlock_51 ?_
    refine r_aload_n dX12_copyBlock_52 rfl rfl ?_
    refine r_getA 13 fX12_60 (by decide) (by decide) dX12_copyBlock_53 ?_
    refine r_iconst (v := nI 4) dX12_copyBlock_56 (by decide) ?_
    refine r_iload_n dX12_copyBlock_57 rfl rfl ?_
    refine r_imul dX12_copyBlock_58 ?_
    refine r_iload_n dX12_copyBlock_59 rfl rfl ?_
    refine r_iadd dX12_copyBlock_60 ?_
    refine r_lald (by decide) (by decide) dX12_copyBlock_61 ok.1 ?_
    have ok := ok.2
    refine r_last (by decide) (by decide) dX12_copyBlock_62 ok.1 ?_
    have ok := ok.2
    refine r_iinc_3 (v := (x3 + nI 1)) dX12_copyBlock_63 rfl (by first | rfl | (congr 1)) (by decide) rfl ?_
    refine r_goto (tgt := 38) dX12_copyBlock_66 (by decide) ?_
    exact rX.cutz (hrec _ _ _ (rsL S 13 (((nI 4) * x2) + x3).toNatClampNeg (S.2.2 13 (((nI 4) * x1) + x3).toNatClampNeg)) ok hx) ⟨rfl, rfl, rfl, rfl, trivial⟩
def L_copyBlock_38 (N : Nat) : Nat → Int32 → Int32 → Int32 → rS → Nat × Int32 × Int32 × rS
  | 0, x1, x2, x3, S => (0, 0, 0, S)
  | n + 1, x1, x2, x3, S => B_copyBlock_38 N (L_copyBlock_38 N n) x1 x2 x3 S
def OL_copyBlock_38 (N : Nat) : Nat → Int32 → Int32 → Int32 → rS → Prop
  | 0, _, _, _, _ => False
  | n + 1, x1, x2, x3, S => OB_copyBlock_38 N (OL_copyBlock_38 N n) x1 x2 x3 S
set_option maxHeartbeats 4000000 in
theorem l_copyBlock_38 {G : zG} {E : rE} {N : Nat} {Q : Option Value → rS → Prop} {X : Nat × Int32 × Int32 × rS → Prop} (hG : zOK G) (hX0 : ∀ (x1 : Int32) (x2 : Int32) (S' : rS), X (0, x1, x2, S') → rX G E dX12_copyBlock mX12_copyBlock 69 [some (.ref E.1), some (.int x1), some (.int x2), none] [] S' Q) : ∀ (n : Nat) (x1 : Int32) (x2 : Int32) (x3 : Int32) (S : rS), OL_copyBlock_38 N n x1 x2 x3 S → X (L_copyBlock_38 N n x1 x2 x3 S) → rX G E dX12_copyBlock mX12_copyBlock 38 [some (.ref E.1), some (.int x1), some (.int x2), some (.int x3)] [] S Q := by
  intro n
  induction n with
  | zero => intro x1 x2 x3 S ok; exact absurd ok id
  | succ n ih =>
    intro x1 x2 x3 S ok hx
    exact bb_copyBlock_38 hG hX0 (rec := L_copyBlock_38 N n) (rok := OL_copyBlock_38 N n) (fun x1 x2 x3 S ok hx => ih x1 x2 x3 S ok hx) ok hx
def A_copyBlock_38 (N : Nat) (x1 : Int32) (x2 : Int32) (x3 : Int32) (S : rS) (z : Nat × Int32 × Int32 × rS) : rS := (F_copyBlock_69 N (z.2.1) (z.2.2.1) z.2.2.2)
def OA_copyBlock_38 (N : Nat) (x1 : Int32) (x2 : Int32) (x3 : Int32) (S : rS) (z : Nat × Int32 × Int32 × rS) : Prop := O_copyBlock_69 N (z.2.1) (z.2.2.1) z.2.2.2
set_option maxHeartbeats 4000000 in
theorem c_copyBlock_38 {G : zG} {E : rE} {S : rS} {N : Nat} {Q : Option Value → rS → Prop} {X : rS → Prop} (hG : zOK G) (hR : ∀ S', X S' → Q none S') {x1 : Int32} {x2 : Int32} {x3 : Int32} (ok : OL_copyBlock_38 N N x1 x2 x3 S ∧ OA_copyBlock_38 N x1 x2 x3 S (L_copyBlock_38 N N x1 x2 x3 S)) (hx : X (A_copyBlock_38 N x1 x2 x3 S (L_copyBlock_38 N N x1 x2 x3 S))) : rX G E dX12_copyBlock mX12_copyBlock 38 [some (.ref E.1), some (.int x1), some (.int x2), some (.int x3)] [] S Q := by
  refine l_copyBlock_38 hG ?_ N x1 x2 x3 S ok.1 (X := fun z => OA_copyBlock_38 N x1 x2 x3 S z ∧ X (A_copyBlock_38 N x1 x2 x3 S z)) ⟨ok.2, hx⟩
  · intro x1' x2' S' hz
    obtain ⟨ok, hx⟩ := hz
    unfold OA_copyBlock_38 at ok
    unfold A_copyBlock_38 at hx
    exact rX.cutz (b_copyBlock_69 hG hR ok hx) ⟨rfl, rfl, rfl, trivial⟩
def F_copyBlock_36 (N : Nat) (x1 : Int32) (x2 : Int32) (S : rS) : rS := (A_copyBlock_38 N x1 x2 (nI 0) S (L_copyBlock_38 N N x1 x2 (nI 0) S))
def O_copyBlock_36 (N : Nat) (x1 : Int32) (x2 : Int32) (S : rS) : Prop := (OL_copyBlock_38 N N x1 x2 (nI 0) S ∧ OA_copyBlock_38 N x1 x2 (nI 0) S (L_copyBlock_38 N N x1 x2 (nI 0) S))
set_option maxHeartbeats 4000000 in
theorem b_copyBlock_36 {G : zG} {E : rE} {S : rS} {N : Nat} {Q : Option Value → rS → Prop} {X : rS → Prop} (hG : zOK G) (hR : ∀ S', X S' → Q none S') {x1 : Int32} {x2 : Int32} (ok : O_copyBlock_36 N x1 x2 S) (hx : X (F_copyBlock_36 N x1 x2 S)) : rX G E dX12_copyBlock mX12_copyBlock 36 [some (.ref E.1), some (.int x1), some (.int x2), none] [] S Q := by
  unfold O_copyBlock_36 at ok
  unfold F_copyBlock_36 at hx
  refine r_iconst (v := nI 0) dX12_copyBlock_36 (by decide) ?_
  refine r_istore_3 dX12_copyBlock_37 (by decide) rfl ?_
  exact rX.cutz (c_copyBlock_38 hG hR ok hx) ⟨rfl, rfl, rfl, rfl, trivial⟩
def B_copyBlock_2 (N : Nat) (rec : Int32 → Int32 → Int32 → rS → Nat × Int32 × Int32 × rS) (x1 : Int32) (x2 : Int32) (x3 : Int32) (S : rS) : Nat × Int32 × Int32 × rS := (if (nI 87) ≤ x3 then (0, x1, x2, S) else (rec x1 x2 (x3 + nI 1) (rsL S 12 (((nI 87) * x2) + x3).toNatClampNeg (S.2.2 12 (((nI 87) * x1) + x3).toNatClampNeg))))
def OB_copyBlock_2 (N : Nat) (rok : Int32 → Int32 → Int32 → rS → Prop) (x1 : Int32) (x2 : Int32) (x3 : Int32) (S : rS) : Prop := (((nI 87) ≤ x3 → True) ∧ (¬ (nI 87) ≤ x3 → (vp_in (((nI 87) * x1) + x3) 117798) ∧ (vp_in (((nI 87) * x2) + x3) 117798) ∧ rok x1 x2 (x3 + nI 1) (rsL S 12 (((nI 87) * x2) + x3).toNatClampNeg (S.2.2 12 (((nI 87) * x1) + x3).toNatClampNeg))))
set_option maxHeartbeats 4000000 in
theorem bb_copyBlock_2 {G : zG} {E : rE} {S : rS} {N : Nat} {Q : Option Value → rS → Prop} {X : Nat × Int32 × Int32 × rS → Prop} (hG : zOK G) (hX0 : ∀ (x1 : Int32) (x2 : Int32) (S' : rS), X (0, x1, x2, S') → rX G E dX12_copyBlock mX12_copyBlock 36 [some (.ref E.1), some (.int x1), some (.int x2), none] [] S' Q) {rec : Int32 → Int32 → Int32 → rS → Nat × Int32 × Int32 × rS} {rok : Int32 → Int32 → Int32 → rS → Prop} (hrec : ∀ (x1 : Int32) (x2 : Int32) (x3 : Int32) (S : rS), rok x1 x2 x3 S → X (rec x1 x2 x3 S) → rX G E dX12_copyBlock mX12_copyBlock 2 [some (.ref E.1), some (.int x1), some (.int x2), some (.int x3)] [] S Q) {x1 : Int32} {x2 : Int32} {x3 : Int32} (ok : OB_copyBlock_2 N rok x1 x2 x3 S) (hx : X (B_copyBlock_2 N rec x1 x2 x3 S)) : rX G E dX12_copyBlock mX12_copyBlock 2 [some (.ref E.1), some (.int x1), some (.int x2), some (.int x3)] [] S Q := by
  unfold OB_copyBlock_2 at ok
  unfold B_copyBlock_2 at hx
  refine r_iload_n dX12_copyBlock_2 rfl rfl ?_
  refine r_bipush (v := nI 87) dX12_copyBlock_3 (by decide) ?_
  refine r_icmp_ge (tgt := 36) dX12_copyBlock_5 (by decide) (fun c_5 => ?_) (fun c_5 => ?_)
  · have ok := ok.1 c_5
    have hx := xif_p c_5 hx
    exact rX.cutz (hX0 _ _ S hx) ⟨rfl, rfl, rfl, trivial⟩
  · have ok := ok.2 c_5
    have hx := xif_n c_5 hx
    refine r_aload_n dX12_copyBlock_8 rfl rfl ?_
    refine r_getA 12 fX12_45 (by decide) (by decide) dX12_copyBlock_9 ?_
    refine r_bipush (v := nI 87) dX12_copyBlock_12 (by decide) ?_
    refine r_iload_n dX12_copyBlock_14 rfl rfl ?_
    refine r_imul dX12_copyBlock_15 ?_
    refine r_iload_n dX12_copyBlock_16 rfl rfl ?_
    refine r_iadd dX12_copyBlock_17 ?_
    refine r_aload_n dX12_copyBlock_18 rfl rfl ?_
    refine r_getA 12 fX12_45 (by decide) (by decide) dX12_copyBlock_19 ?_
    refine r_bipush (v := nI 87) dX12_copyBlock_22 (by decide) ?_
    refine r_iload_n dX12_copyBlock_24 rfl rfl ?_
    refine r_imul dX12_copyBlock_25 ?_
    refine r_iload_n dX12_copyBlock_26 rfl rfl ?_
    refine r_iadd dX12_copyBlock_27 ?_
    refine r_lald (by decide) (by decide) dX12_copyBlock_28 ok.1 ?_
    have ok := ok.2
    refine r_last (by decide) (by decide) dX12_copyBlock_29 ok.1 ?_
    have ok := ok.2
    refine r_iinc_3 (v := (x3 + nI 1)) dX12_copyBlock_30 rfl (by first | rfl | (congr 1)) (by decide) rfl ?_
    refine r_goto (tgt := 2) dX12_copyBlock_33 (by decide) ?_
    exact rX.cutz (hrec _ _ _ (rsL S 12 (((nI 87) * x2) + x3).toNatClampNeg (S.2.2 12 (((nI 87) * x1) + x3).toNatClampNeg)) ok hx) ⟨rfl, rfl, rfl, rfl, trivial⟩
def L_copyBlock_2 (N : Nat) : Nat → Int32 → Int32 → Int32 → rS → Nat × Int32 × Int32 × rS
  | 0, x1, x2, x3, S => (0, 0, 0, S)
  | n + 1, x1, x2, x3, S => B_copyBlock_2 N (L_copyBlock_2 N n) x1 x2 x3 S
def OL_copyBlock_2 (N : Nat) : Nat → Int32 → Int32 → Int32 → rS → Prop
  | 0, _, _, _, _ => False
  | n + 1, x1, x2, x3, S => OB_copyBlock_2 N (OL_copyBlock_2 N n) x1 x2 x3 S
set_option maxHeartbeats 4000000 in
theorem l_copyBlock_2 {G : zG} {E : rE} {N : Nat} {Q : Option Value → rS → Prop} {X : Nat × Int32 × Int32 × rS → Prop} (hG : zOK G) (hX0 : ∀ (x1 : Int32) (x2 : Int32) (S' : rS), X (0, x1, x2, S') → rX G E dX12_copyBlock mX12_copyBlock 36 [some (.ref E.1), some (.int x1), some (.int x2), none] [] S' Q) : ∀ (n : Nat) (x1 : Int32) (x2 : Int32) (x3 : Int32) (S : rS), OL_copyBlock_2 N n x1 x2 x3 S → X (L_copyBlock_2 N n x1 x2 x3 S) → rX G E dX12_copyBlock mX12_copyBlock 2 [some (.ref E.1), some (.int x1), some (.int x2), some (.int x3)] [] S Q := by
  intro n
  induction n with
  | zero => intro x1 x2 x3 S ok; exact absurd ok id
  | succ n ih =>
    intro x1 x2 x3 S ok hx
    exact bb_copyBlock_2 hG hX0 (rec := L_copyBlock_2 N n) (rok := OL_copyBlock_2 N n) (fun x1 x2 x3 S ok hx => ih x1 x2 x3 S ok hx) ok hx
def A_copyBlock_2 (N : Nat) (x1 : Int32) (x2 : Int32) (x3 : Int32) (S : rS) (z : Nat × Int32 × Int32 × rS) : rS := (F_copyBlock_36 N (z.2.1) (z.2.2.1) z.2.2.2)
def OA_copyBlock_2 (N : Nat) (x1 : Int32) (x2 : Int32) (x3 : Int32) (S : rS) (z : Nat × Int32 × Int32 × rS) : Prop := O_copyBlock_36 N (z.2.1) (z.2.2.1) z.2.2.2
set_option maxHeartbeats 4000000 in
theorem c_copyBlock_2 {G : zG} {E : rE} {S : rS} {N : Nat} {Q : Option Value → rS → Prop} {X : rS → Prop} (hG : zOK G) (hR : ∀ S', X S' → Q none S') {x1 : Int32} {x2 : Int32} {x3 : Int32} (ok : OL_copyBlock_2 N N x1 x2 x3 S ∧ OA_copyBlock_2 N x1 x2 x3 S (L_copyBlock_2 N N x1 x2 x3 S)) (hx : X (A_copyBlock_2 N x1 x2 x3 S (L_copyBlock_2 N N x1 x2 x3 S))) : rX G E dX12_copyBlock mX12_copyBlock 2 [some (.ref E.1), some (.int x1), some (.int x2), some (.int x3)] [] S Q := by
  refine l_copyBlock_2 hG ?_ N x1 x2 x3 S ok.1 (X := fun z => OA_copyBlock_2 N x1 x2 x3 S z ∧ X (A_copyBlock_2 N x1 x2 x3 S z)) ⟨ok.2, hx⟩
  · intro x1' x2' S' hz
    obtain ⟨ok, hx⟩ := hz
    unfold OA_copyBlock_2 at ok
    unfold A_copyBlock_2 at hx
    exact rX.cutz (b_copyBlock_36 hG hR ok hx) ⟨rfl, rfl, rfl, trivial⟩
def F_copyBlock_0 (N : Nat) (x1 : Int32) (x2 : Int32) (S : rS) : rS := (A_copyBlock_2 N x1 x2 (nI 0) S (L_copyBlock_2 N N x1 x2 (nI 0) S))
def O_copyBlock_0 (N : Nat) (x1 : Int32) (x2 : Int32) (S : rS) : Prop := (OL_copyBlock_2 N N x1 x2 (nI 0) S ∧ OA_copyBlock_2 N x1 x2 (nI 0) S (L_copyBlock_2 N N x1 x2 (nI 0) S))
set_option maxHeartbeats 4000000 in
theorem b_copyBlock_0 {G : zG} {E : rE} {S : rS} {N : Nat} {Q : Option Value → rS → Prop} {X : rS → Prop} (hG : zOK G) (hR : ∀ S', X S' → Q none S') {x1 : Int32} {x2 : Int32} (ok : O_copyBlock_0 N x1 x2 S) (hx : X (F_copyBlock_0 N x1 x2 S)) : rX G E dX12_copyBlock mX12_copyBlock 0 [some (.ref E.1), some (.int x1), some (.int x2), none] [] S Q := by
  unfold O_copyBlock_0 at ok
  unfold F_copyBlock_0 at hx
  refine r_iconst (v := nI 0) dX12_copyBlock_0 (by decide) ?_
  refine r_istore_3 dX12_copyBlock_1 (by decide) rfl ?_
  exact rX.cutz (c_copyBlock_2 hG hR ok hx) ⟨rfl, rfl, rfl, rfl, trivial⟩
def f_copyBlock (N : Nat) (S : rS) (x1 : Int32) (x2 : Int32) : rS := F_copyBlock_0 N x1 x2 S
def o_copyBlock (N : Nat) (S : rS) (x1 : Int32) (x2 : Int32) : Prop := O_copyBlock_0 N x1 x2 S
set_option maxHeartbeats 4000000 in
theorem rc_X12_copyBlock {G : zG} {E : rE} {S : rS} {N : Nat} (hG : zOK G) {x1 : Int32} {x2 : Int32} (ok : o_copyBlock N S x1 x2) : rCv G E dX12_copyBlock mX12_copyBlock [.ref E.1, .int x1, .int x2] S (fun S' => S' = f_copyBlock N S x1 x2) := by
  refine rC.ofX rfl (Nat.le_of_ble_eq_true rfl) ?_
  show rX G E dX12_copyBlock mX12_copyBlock 0 [some (.ref E.1), some (.int x1), some (.int x2), none] [] S _
  exact rX.cutz (b_copyBlock_0 (X := fun F => F = f_copyBlock N S x1 x2) hG (fun S' h => ⟨rfl, h⟩) ok rfl) ⟨rfl, rfl, rfl, trivial⟩
/-! sameBlock -/
def F_sameBlock_73 (N : Nat) (x3 : Int32) (S : rS) : Int32 := x3
def O_sameBlock_73 (N : Nat) (x3 : Int32) (S : rS) : Prop := narrow .boolean (.int x3) = .int x3
set_option maxHeartbeats 4000000 in
theorem b_sameBlock_73 {G : zG} {E : rE} {S : rS} {N : Nat} {Q : Option Value → rS → Prop} {X : Int32 → Prop} (hG : zOK G) (hR : ∀ v, X v → Q (some (.int v)) S) {x3 : Int32} (ok : O_sameBlock_73 N x3 S) (hx : X (F_sameBlock_73 N x3 S)) : rX G E dX12_sameBlock mX12_sameBlock 73 [none, none, none, some (.int x3), none] [] S Q := by
  unfold O_sameBlock_73 at ok
  unfold F_sameBlock_73 at hx
  refine r_iload_n dX12_sameBlock_73 rfl rfl ?_
  exact r_ireturn rfl ok dX12_sameBlock_74 (hR _ hx)
def F_sameBlock_66 (N : Nat) (rec : Int32 → Int32 → Int32 → Int32 → Nat × Int32 × Unit) (x1 : Int32) (x2 : Int32) (x4 : Int32) (s0 : Int32) (S : rS) : Nat × Int32 × Unit := (rec x1 x2 s0 (x4 + nI 1))
def O_sameBlock_66 (N : Nat) (rok : Int32 → Int32 → Int32 → Int32 → Prop) (x1 : Int32) (x2 : Int32) (x4 : Int32) (s0 : Int32) (S : rS) : Prop := rok x1 x2 s0 (x4 + nI 1)
set_option maxHeartbeats 4000000 in
theorem b_sameBlock_66 {G : zG} {E : rE} {S : rS} {N : Nat} {Q : Option Value → rS → Prop} {X : Nat × Int32 × Unit → Prop} (hG : zOK G) (hX0 : ∀ (x3 : Int32) , X (0, x3, ()) → rX G E dX12_sameBlock mX12_sameBlock 73 [none, none, none, some (.int x3), none] [] S Q) {rec : Int32 → Int32 → Int32 → Int32 → Nat × Int32 × Unit} {rok : Int32 → Int32 → Int32 → Int32 → Prop} (hrec : ∀ (x1 : Int32) (x2 : Int32) (x3 : Int32) (x4 : Int32), rok x1 x2 x3 x4 → X (rec x1 x2 x3 x4) → rX G E dX12_sameBlock mX12_sameBlock 25 [some (.ref E.1), some (.int x1), some (.int x2), some (.int x3), some (.int x4)] [] S Q) {x1 : Int32} {x2 : Int32} {x4 : Int32} {s0 : Int32} (ok : O_sameBlock_66 N rok x1 x2 x4 s0 S) (hx : X (F_sameBlock_66 N rec x1 x2 x4 s0 S)) : rX G E dX12_sameBlock mX12_sameBlock 66 [some (.ref E.1), some (.int x1), some (.int x2), none, some (.int x4)] [.int s0] S Q := by
  unfold O_sameBlock_66 at ok
  unfold F_sameBlock_66 at hx
  refine r_istore_3 dX12_sameBlock_66 (by decide) rfl ?_
  refine r_iinc_4 (v := (x4 + nI 1)) dX12_sameBlock_67 rfl (by first | rfl | (congr 1)) (by decide) rfl ?_
  refine r_goto (tgt := 25) dX12_sameBlock_70 (by decide) ?_
  exact rX.cutz (hrec _ _ _ _ ok hx) ⟨rfl, rfl, rfl, rfl, rfl, trivial⟩
def B_sameBlock_25 (N : Nat) (rec : Int32 → Int32 → Int32 → Int32 → Nat × Int32 × Unit) (x1 : Int32) (x2 : Int32) (x3 : Int32) (x4 : Int32) (S : rS) : Nat × Int32 × Unit := (if (nI 4) ≤ x4 then (0, x3, ()) else (if x3 = 0 then (0, x3, ()) else (if (lg_cmp (S.2.2 13 (((nI 4) * x1) + x4).toNatClampNeg) (S.2.2 13 (((nI 4) * x2) + x4).toNatClampNeg)) = 0 then (F_sameBlock_66 N rec x1 x2 x4 (nI 1) S) else (F_sameBlock_66 N rec x1 x2 x4 (nI 0) S))))
def OB_sameBlock_25 (N : Nat) (rok : Int32 → Int32 → Int32 → Int32 → Prop) (x1 : Int32) (x2 : Int32) (x3 : Int32) (x4 : Int32) (S : rS) : Prop := (((nI 4) ≤ x4 → True) ∧ (¬ (nI 4) ≤ x4 → ((x3 = 0 → True) ∧ (¬ x3 = 0 → (vp_in (((nI 4) * x1) + x4) 5416) ∧ (vp_in (((nI 4) * x2) + x4) 5416) ∧ (((lg_cmp (S.2.2 13 (((nI 4) * x1) + x4).toNatClampNeg) (S.2.2 13 (((nI 4) * x2) + x4).toNatClampNeg)) = 0 → O_sameBlock_66 N rok x1 x2 x4 (nI 1) S) ∧ (¬ (lg_cmp (S.2.2 13 (((nI 4) * x1) + x4).toNatClampNeg) (S.2.2 13 (((nI 4) * x2) + x4).toNatClampNeg)) = 0 → O_sameBlock_66 N rok x1 x2 x4 (nI 0) S))))))
set_option maxHeartbeats 4000000 in
theorem bb_sameBlock_25 {G : zG} {E : rE} {S : rS} {N : Nat} {Q : Option Value → rS → Prop} {X : Nat × Int32 × Unit → Prop} (hG : zOK G) (hX0 : ∀ (x3 : Int32) , X (0, x3, ()) → rX G E dX12_sameBlock mX12_sameBlock 73 [none, none, none, some (.int x3), none] [] S Q) {rec : Int32 → Int32 → Int32 → Int32 → Nat × Int32 × Unit} {rok : Int32 → Int32 → Int32 → Int32 → Prop} (hrec : ∀ (x1 : Int32) (x2 : Int32) (x3 : Int32) (x4 : Int32), rok x1 x2 x3 x4 → X (rec x1 x2 x3 x4) → rX G E dX12_sameBlock mX12_sameBlock 25 [some (.ref E.1), some (.int x1), some (.int x2), some (.int x3), some (.int x4)] [] S Q) {x1 : Int32} {x2 : Int32} {x3 : Int32} {x4 : Int32} (ok : OB_sameBlock_25 N rok x1 x2 x3 x4 S) (hx : X (B_sameBlock_25 N rec x1 x2 x3 x4 S)) : rX G E dX12_sameBlock mX12_sameBlock 25 [some (.ref E.1), some (.int x1), some (.int x2), some (.int x3), some (.int x4)] [] S Q := by
  unfold OB_sameBlock_25 at ok
  unfold B_sameBlock_25 at hx
  refine r_iload dX12_sameBlock_25 rfl ?_
  refine r_iconst (v := nI 4) dX12_sameBlock_27 (by decide) ?_
  refine r_icmp_ge (tgt := 73) dX12_sameBlock_28 (by decide) (fun c_28 => ?_) (fun c_28 => ?_)
  · have ok := ok.1 c_28
    have hx := xif_p c_28 hx
    exact rX.cutz (hX0 _  hx) ⟨rfl, trivial⟩
  · have ok := ok.2 c_28
    have hx := xif_n c_28 hx
    refine r_iload_n dX12_sameBlock_31 rfl rfl ?_
    refine r_if_eq (tgt := 73) dX12_sameBlock_32 (by decide) (fun c_32 => ?_) (fun c_32 => ?_)
    · have ok := ok.1 c_32
      have hx := xif_p c_32 hx
      exact rX.cutz (hX0 _  hx) ⟨rfl, trivial⟩
    · have ok := ok.2 c_32
      have hx := xif_n c_32 hx
      refine r_aload_n dX12_sameBlock_35 rfl rfl ?_
      refine r_getA 13 fX12_60 (by decide) (by decide) dX12_sameBlock_36 ?_
      refine r_iconst (v := nI 4) dX12_sameBlock_39 (by decide) ?_
      refine r_iload_n dX12_sameBlock_40 rfl rfl ?_
      refine r_imul dX12_sameBlock_41 ?_
      refine r_iload dX12_sameBlock_42 rfl ?_
      refine r_iadd dX12_sameBlock_44 ?_
      refine r_lald (by decide) (by decide) dX12_sameBlock_45 ok.1 ?_
      have ok := ok.2
      refine r_aload_n dX12_sameBlock_46 rfl rfl ?_
      refine r_getA 13 fX12_60 (by decide) (by decide) dX12_sameBlock_47 ?_
      refine r_iconst (v := nI 4) dX12_sameBlock_50 (by decide) ?_
      refine r_iload_n dX12_sameBlock_51 rfl rfl ?_
      refine r_imul dX12_sameBlock_52 ?_
      refine r_iload dX12_sameBlock_53 rfl ?_
      refine r_iadd dX12_sameBlock_55 ?_
      refine r_lald (by decide) (by decide) dX12_sameBlock_56 ok.1 ?_
      have ok := ok.2
      refine r_lcmp dX12_sameBlock_57 ?_
      refine r_if_ne (tgt := 65) dX12_sameBlock_58 (by decide) (fun c_58 => ?_) (fun c_58 => ?_)
      · have ok := ok.2 c_58
        have hx := xif_n c_58 hx
        refine r_iconst (v := nI 0) dX12_sameBlock_65 (by decide) ?_
        exact rX.cutz (b_sameBlock_66 hG hX0 hrec ok hx) ⟨rfl, rfl, rfl, rfl, trivial⟩
      · have ok := ok.1 c_58
        have hx := xif_p c_58 hx
        refine r_iconst (v := nI 1) dX12_sameBlock_61 (by decide) ?_
        refine r_goto (tgt := 66) dX12_sameBlock_62 (by decide) ?_
        exact rX.cutz (b_sameBlock_66 hG hX0 hrec ok hx) ⟨rfl, rfl, rfl, rfl, trivial⟩
def L_sameBlock_25 (N : Nat) : Nat → Int32 → Int32 → Int32 → Int32 → rS → Nat × Int32 × Unit
  | 0, x1, x2, x3, x4, S => (0, 0, ())
  | n + 1, x1, x2, x3, x4, S => B_sameBlock_25 N (fun x1 x2 x3 x4 => L_sameBlock_25 N n x1 x2 x3 x4 S) x1 x2 x3 x4 S
def OL_sameBlock_25 (N : Nat) : Nat → Int32 → Int32 → Int32 → Int32 → rS → Prop
  | 0, _, _, _, _, _ => False
  | n + 1, x1, x2, x3, x4, S => OB_sameBlock_25 N (fun x1 x2 x3 x4 => OL_sameBlock_25 N n x1 x2 x3 x4 S) x1 x2 x3 x4 S
set_option maxHeartbeats 4000000 in
theorem l_sameBlock_25 {G : zG} {E : rE} {S : rS} {N : Nat} {Q : Option Value → rS → Prop} {X : Nat × Int32 × Unit → Prop} (hG : zOK G) (hX0 : ∀ (x3 : Int32) , X (0, x3, ()) → rX G E dX12_sameBlock mX12_sameBlock 73 [none, none, none, some (.int x3), none] [] S Q) : ∀ (n : Nat) (x1 : Int32) (x2 : Int32) (x3 : Int32) (x4 : Int32) , OL_sameBlock_25 N n x1 x2 x3 x4 S → X (L_sameBlock_25 N n x1 x2 x3 x4 S) → rX G E dX12_sameBlock mX12_sameBlock 25 [some (.ref E.1), some (.int x1), some (.int x2), some (.int x3), some (.int x4)] [] S Q := by
  intro n
  induction n with
  | zero => intro x1 x2 x3 x4 ok; exact absurd ok id
  | succ n ih =>
    intro x1 x2 x3 x4 ok hx
    exact bb_sameBlock_25 hG hX0 (rec := fun x1 x2 x3 x4 => L_sameBlock_25 N n x1 x2 x3 x4 S) (rok := fun x1 x2 x3 x4 => OL_sameBlock_25 N n x1 x2 x3 x4 S) (fun x1 x2 x3 x4 ok hx => ih x1 x2 x3 x4 ok hx) ok hx
def A_sameBlock_25 (N : Nat) (x1 : Int32) (x2 : Int32) (x3 : Int32) (x4 : Int32) (S : rS) (z : Nat × Int32 × Unit) : Int32 := (F_sameBlock_73 N (z.2.1) S)
def OA_sameBlock_25 (N : Nat) (x1 : Int32) (x2 : Int32) (x3 : Int32) (x4 : Int32) (S : rS) (z : Nat × Int32 × Unit) : Prop := O_sameBlock_73 N (z.2.1) S
set_option maxHeartbeats 4000000 in
theorem c_sameBlock_25 {G : zG} {E : rE} {S : rS} {N : Nat} {Q : Option Value → rS → Prop} {X : Int32 → Prop} (hG : zOK G) (hR : ∀ v, X v → Q (some (.int v)) S) {x1 : Int32} {x2 : Int32} {x3 : Int32} {x4 : Int32} (ok : OL_sameBlock_25 N N x1 x2 x3 x4 S ∧ OA_sameBlock_25 N x1 x2 x3 x4 S (L_sameBlock_25 N N x1 x2 x3 x4 S)) (hx : X (A_sameBlock_25 N x1 x2 x3 x4 S (L_sameBlock_25 N N x1 x2 x3 x4 S))) : rX G E dX12_sameBlock mX12_sameBlock 25 [some (.ref E.1), some (.int x1), some (.int x2), some (.int x3), some (.int x4)] [] S Q := by
  refine l_sameBlock_25 hG ?_ N x1 x2 x3 x4 ok.1 (X := fun z => OA_sameBlock_25 N x1 x2 x3 x4 S z ∧ X (A_sameBlock_25 N x1 x2 x3 x4 S z)) ⟨ok.2, hx⟩
  · intro x3' hz
    obtain ⟨ok, hx⟩ := hz
    unfold OA_sameBlock_25 at ok
    unfold A_sameBlock_25 at hx
    exact rX.cutz (b_sameBlock_73 hG hR ok hx) ⟨rfl, trivial⟩
def F_sameBlock_21 (N : Nat) (x1 : Int32) (x2 : Int32) (s0 : Int32) (S : rS) : Int32 := (A_sameBlock_25 N x1 x2 s0 (nI 0) S (L_sameBlock_25 N N x1 x2 s0 (nI 0) S))
def O_sameBlock_21 (N : Nat) (x1 : Int32) (x2 : Int32) (s0 : Int32) (S : rS) : Prop := (OL_sameBlock_25 N N x1 x2 s0 (nI 0) S ∧ OA_sameBlock_25 N x1 x2 s0 (nI 0) S (L_sameBlock_25 N N x1 x2 s0 (nI 0) S))
set_option maxHeartbeats 4000000 in
theorem b_sameBlock_21 {G : zG} {E : rE} {S : rS} {N : Nat} {Q : Option Value → rS → Prop} {X : Int32 → Prop} (hG : zOK G) (hR : ∀ v, X v → Q (some (.int v)) S) {x1 : Int32} {x2 : Int32} {s0 : Int32} (ok : O_sameBlock_21 N x1 x2 s0 S) (hx : X (F_sameBlock_21 N x1 x2 s0 S)) : rX G E dX12_sameBlock mX12_sameBlock 21 [some (.ref E.1), some (.int x1), some (.int x2), none, none] [.int s0] S Q := by
  unfold O_sameBlock_21 at ok
  unfold F_sameBlock_21 at hx
  refine r_istore_3 dX12_sameBlock_21 (by decide) rfl ?_
  refine r_iconst (v := nI 0) dX12_sameBlock_22 (by decide) ?_
  refine r_istore_4 dX12_sameBlock_23 (by decide) rfl ?_
  exact rX.cutz (c_sameBlock_25 hG hR ok hx) ⟨rfl, rfl, rfl, rfl, rfl, trivial⟩
def F_sameBlock_20 (N : Nat) (x1 : Int32) (x2 : Int32) (S : rS) : Int32 := (F_sameBlock_21 N x1 x2 (nI 0) S)
def O_sameBlock_20 (N : Nat) (x1 : Int32) (x2 : Int32) (S : rS) : Prop := O_sameBlock_21 N x1 x2 (nI 0) S
set_option maxHeartbeats 4000000 in
theorem b_sameBlock_20 {G : zG} {E : rE} {S : rS} {N : Nat} {Q : Option Value → rS → Prop} {X : Int32 → Prop} (hG : zOK G) (hR : ∀ v, X v → Q (some (.int v)) S) {x1 : Int32} {x2 : Int32} (ok : O_sameBlock_20 N x1 x2 S) (hx : X (F_sameBlock_20 N x1 x2 S)) : rX G E dX12_sameBlock mX12_sameBlock 20 [some (.ref E.1), some (.int x1), some (.int x2), none, none] [] S Q := by
  unfold O_sameBlock_20 at ok
  unfold F_sameBlock_20 at hx
  refine r_iconst (v := nI 0) dX12_sameBlock_20 (by decide) ?_
  exact rX.cutz (b_sameBlock_21 hG hR ok hx) ⟨rfl, rfl, rfl, trivial⟩
def F_sameBlock_0 (N : Nat) (x1 : Int32) (x2 : Int32) (S : rS) : Int32 := (if (f_isThere N S x1) = 0 then (F_sameBlock_20 N x1 x2 S) else (if (f_isThere N S x2) = 0 then (F_sameBlock_20 N x1 x2 S) else (F_sameBlock_21 N x1 x2 (nI 1) S)))
def O_sameBlock_0 (N : Nat) (x1 : Int32) (x2 : Int32) (S : rS) : Prop := (o_isThere N S x1) ∧ (((f_isThere N S x1) = 0 → O_sameBlock_20 N x1 x2 S) ∧ (¬ (f_isThere N S x1) = 0 → (o_isThere N S x2) ∧ (((f_isThere N S x2) = 0 → O_sameBlock_20 N x1 x2 S) ∧ (¬ (f_isThere N S x2) = 0 → O_sameBlock_21 N x1 x2 (nI 1) S))))
set_option maxHeartbeats 4000000 in
theorem b_sameBlock_0 {G : zG} {E : rE} {S : rS} {N : Nat} {Q : Option Value → rS → Prop} {X : Int32 → Prop} (hG : zOK G) (hR : ∀ v, X v → Q (some (.int v)) S) {x1 : Int32} {x2 : Int32} (ok : O_sameBlock_0 N x1 x2 S) (hx : X (F_sameBlock_0 N x1 x2 S)) : rX G E dX12_sameBlock mX12_sameBlock 0 [some (.ref E.1), some (.int x1), some (.int x2), none, none] [] S Q := by
  unfold O_sameBlock_0 at ok
  unfold F_sameBlock_0 at hx
  refine r_aload_n dX12_sameBlock_0 rfl rfl ?_
  refine r_iload_n dX12_sameBlock_1 rfl rfl ?_
  refine r_V1i (y' := mX12_isThere) dX12_sameBlock_2 lX12_63 kX12_isThere ⟨by decide, by decide⟩ rfl (Nat.le_of_ble_eq_true rfl) (rc_X12_isThere hG ok.1) (fun v_2 S_2 h_2 => ?_)
  obtain ⟨rfl, rfl⟩ := h_2
  have ok := ok.2
  refine r_if_eq (tgt := 20) dX12_sameBlock_5 (by decide) (fun c_5 => ?_) (fun c_5 => ?_)
  · have ok := ok.1 c_5
    have hx := xif_p c_5 hx
    exact rX.cutz (b_sameBlock_20 hG hR ok hx) ⟨rfl, rfl, rfl, trivial⟩
  · have ok := ok.2 c_5
    have hx := xif_n c_5 hx
    refine r_aload_n dX12_sameBlock_8 rfl rfl ?_
    refine r_iload_n dX12_sameBlock_9 rfl rfl ?_
    refine r_V1i (y' := mX12_isThere) dX12_sameBlock_10 lX12_63 kX12_isThere ⟨by decide, by decide⟩ rfl (Nat.le_of_ble_eq_true rfl) (rc_X12_isThere hG ok.1) (fun v_10 S_10 h_10 => ?_)
    obtain ⟨rfl, rfl⟩ := h_10
    have ok := ok.2
    refine r_if_eq (tgt := 20) dX12_sameBlock_13 (by decide) (fun c_13 => ?_) (fun c_13 => ?_)
    · have ok := ok.1 c_13
      have hx := xif_p c_13 hx
      exact rX.cutz (b_sameBlock_20 hG hR ok hx) ⟨rfl, rfl, rfl, trivial⟩
    · have ok := ok.2 c_13
      have hx := xif_n c_13 hx
      refine r_iconst (v := nI 1) dX12_sameBlock_16 (by decide) ?_
      refine r_goto (tgt := 21) dX12_sameBlock_17 (by decide) ?_
      exact rX.cutz (b_sameBlock_21 hG hR ok hx) ⟨rfl, rfl, rfl, trivial⟩
def f_sameBlock (N : Nat) (S : rS) (x1 : Int32) (x2 : Int32) : Int32 := F_sameBlock_0 N x1 x2 S
def o_sameBlock (N : Nat) (S : rS) (x1 : Int32) (x2 : Int32) : Prop := O_sameBlock_0 N x1 x2 S
set_option maxHeartbeats 4000000 in
theorem rc_X12_sameBlock {G : zG} {E : rE} {S : rS} {N : Nat} (hG : zOK G) {x1 : Int32} {x2 : Int32} (ok : o_sameBlock N S x1 x2) : rCi G E dX12_sameBlock mX12_sameBlock [.ref E.1, .int x1, .int x2] S (fun v S' => v = f_sameBlock N S x1 x2 ∧ S' = S) := by
  refine rC.ofX rfl (Nat.le_of_ble_eq_true rfl) ?_
  show rX G E dX12_sameBlock mX12_sameBlock 0 [some (.ref E.1), some (.int x1), some (.int x2), none, none] [] S _
  exact rX.cutz (b_sameBlock_0 (X := fun F => F = f_sameBlock N S x1 x2) hG (fun v h => ⟨v, rfl, h, rfl⟩) ok rfl) ⟨rfl, rfl, rfl, trivial⟩

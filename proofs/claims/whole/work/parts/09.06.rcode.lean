/-! statePart -/
def F_statePart_81 (N : Nat)  (S : rS) : rS := (f_endPart N S)
def O_statePart_81 (N : Nat)  (S : rS) : Prop := (o_endPart N S) ∧ True
set_option maxHeartbeats 4000000 in
theorem b_statePart_81 {G : zG} {E : rE} {S : rS} {N : Nat} {Q : Option Value → rS → Prop} {X : rS → Prop} (hG : zOK G) (hR : ∀ S', X S' → Q none S') (ok : O_statePart_81 N S) (hx : X (F_statePart_81 N S)) : rX G E dX12_statePart mX12_statePart 81 [some (.ref E.1), none] [] S Q := by
  unfold O_statePart_81 at ok
  unfold F_statePart_81 at hx
  refine r_aload_n dX12_statePart_81 rfl rfl ?_
  refine r_V0v (y' := mX12_endPart) dX12_statePart_82 lX12_127 kX12_endPart ⟨by decide, by decide⟩ rfl (Nat.le_of_ble_eq_true rfl) (rc_X12_endPart hG ok.1) (fun S_82 h_82 => ?_)
  subst h_82
  have ok := ok.2
  exact r_return rfl dX12_statePart_85 (hR _ hx)
def F_statePart_78 (N : Nat) (s1 : Int32) (S : rS) : rS := (F_statePart_81 N (f_partByte N S s1))
def O_statePart_78 (N : Nat) (s1 : Int32) (S : rS) : Prop := (o_partByte N S s1) ∧ O_statePart_81 N (f_partByte N S s1)
set_option maxHeartbeats 4000000 in
theorem b_statePart_78 {G : zG} {E : rE} {S : rS} {N : Nat} {Q : Option Value → rS → Prop} {X : rS → Prop} (hG : zOK G) (hR : ∀ S', X S' → Q none S') {s1 : Int32} (ok : O_statePart_78 N s1 S) (hx : X (F_statePart_78 N s1 S)) : rX G E dX12_statePart mX12_statePart 78 [some (.ref E.1), none] [.int s1, .ref E.1] S Q := by
  unfold O_statePart_78 at ok
  unfold F_statePart_78 at hx
  refine r_V1v (y' := mX12_partByte) dX12_statePart_78 lX12_124 kX12_partByte ⟨by decide, by decide⟩ rfl (Nat.le_of_ble_eq_true rfl) (rc_X12_partByte hG ok.1) (fun S_78 h_78 => ?_)
  subst h_78
  have ok := ok.2
  exact rX.cutz (b_statePart_81 hG hR ok hx) ⟨rfl, trivial⟩
def F_statePart_63 (N : Nat) (x1 : Int32) (S : rS) : rS := (if (S.2.1 87 x1.toNatClampNeg) = 0 then (F_statePart_78 N (nI 0) S) else (F_statePart_78 N (nI 1) S))
def O_statePart_63 (N : Nat) (x1 : Int32) (S : rS) : Prop := (vp_in x1 16) ∧ (((S.2.1 87 x1.toNatClampNeg) = 0 → O_statePart_78 N (nI 0) S) ∧ (¬ (S.2.1 87 x1.toNatClampNeg) = 0 → O_statePart_78 N (nI 1) S))
set_option maxHeartbeats 4000000 in
theorem b_statePart_63 {G : zG} {E : rE} {S : rS} {N : Nat} {Q : Option Value → rS → Prop} {X : rS → Prop} (hG : zOK G) (hR : ∀ S', X S' → Q none S') {x1 : Int32} (ok : O_statePart_63 N x1 S) (hx : X (F_statePart_63 N x1 S)) : rX G E dX12_statePart mX12_statePart 63 [some (.ref E.1), some (.int x1)] [] S Q := by
  unfold O_statePart_63 at ok
  unfold F_statePart_63 at hx
  refine r_aload_n dX12_statePart_63 rfl rfl ?_
  refine r_aload_n dX12_statePart_64 rfl rfl ?_
  refine r_getA 87 fX12_436 (by decide) (by decide) dX12_statePart_65 ?_
  refine r_iload_n dX12_statePart_68 rfl rfl ?_
  refine r_zald (by decide) (by decide) dX12_statePart_69 ok.1 ?_
  have ok := ok.2
  refine r_if_eq (tgt := 77) dX12_statePart_70 (by decide) (fun c_70 => ?_) (fun c_70 => ?_)
  · have ok := ok.1 c_70
    have hx := xif_p c_70 hx
    refine r_iconst (v := nI 0) dX12_statePart_77 (by decide) ?_
    exact rX.cutz (b_statePart_78 hG hR ok hx) ⟨rfl, trivial⟩
  · have ok := ok.2 c_70
    have hx := xif_n c_70 hx
    refine r_iconst (v := nI 1) dX12_statePart_73 (by decide) ?_
    refine r_goto (tgt := 78) dX12_statePart_74 (by decide) ?_
    exact rX.cutz (b_statePart_78 hG hR ok hx) ⟨rfl, trivial⟩
def F_statePart_49 (N : Nat) (x1 : Int32) (S : rS) : rS := (F_statePart_63 N x1 (f_partByte N S ((S.2.1 86 x1.toNatClampNeg) &&& (nI 255))))
def O_statePart_49 (N : Nat) (x1 : Int32) (S : rS) : Prop := (vp_in x1 16) ∧ (o_partByte N S ((S.2.1 86 x1.toNatClampNeg) &&& (nI 255))) ∧ O_statePart_63 N x1 (f_partByte N S ((S.2.1 86 x1.toNatClampNeg) &&& (nI 255)))
set_option maxHeartbeats 4000000 in
theorem b_statePart_49 {G : zG} {E : rE} {S : rS} {N : Nat} {Q : Option Value → rS → Prop} {X : rS → Prop} (hG : zOK G) (hR : ∀ S', X S' → Q none S') {x1 : Int32} (ok : O_statePart_49 N x1 S) (hx : X (F_statePart_49 N x1 S)) : rX G E dX12_statePart mX12_statePart 49 [some (.ref E.1), some (.int x1)] [] S Q := by
  unfold O_statePart_49 at ok
  unfold F_statePart_49 at hx
  refine r_aload_n dX12_statePart_49 rfl rfl ?_
  refine r_aload_n dX12_statePart_50 rfl rfl ?_
  refine r_getA 86 fX12_433 (by decide) (by decide) dX12_statePart_51 ?_
  refine r_iload_n dX12_statePart_54 rfl rfl ?_
  refine r_iald (by decide) (by decide) dX12_statePart_55 ok.1 ?_
  have ok := ok.2
  refine r_sipush (v := nI 255) dX12_statePart_56 (by decide) ?_
  refine r_iand dX12_statePart_59 ?_
  refine r_V1v (y' := mX12_partByte) dX12_statePart_60 lX12_124 kX12_partByte ⟨by decide, by decide⟩ rfl (Nat.le_of_ble_eq_true rfl) (rc_X12_partByte hG ok.1) (fun S_60 h_60 => ?_)
  subst h_60
  have ok := ok.2
  exact rX.cutz (b_statePart_63 hG hR ok hx) ⟨rfl, rfl, trivial⟩
def F_statePart_32 (N : Nat) (x1 : Int32) (S : rS) : rS := (F_statePart_49 N x1 (f_partByte N S (((S.2.1 86 x1.toNatClampNeg) >>> ((nI 8) &&& 31)) &&& (nI 255))))
def O_statePart_32 (N : Nat) (x1 : Int32) (S : rS) : Prop := (vp_in x1 16) ∧ (o_partByte N S (((S.2.1 86 x1.toNatClampNeg) >>> ((nI 8) &&& 31)) &&& (nI 255))) ∧ O_statePart_49 N x1 (f_partByte N S (((S.2.1 86 x1.toNatClampNeg) >>> ((nI 8) &&& 31)) &&& (nI 255)))
set_option maxHeartbeats 4000000 in
theorem b_statePart_32 {G : zG} {E : rE} {S : rS} {N : Nat} {Q : Option Value → rS → Prop} {X : rS → Prop} (hG : zOK G) (hR : ∀ S', X S' → Q none S') {x1 : Int32} (ok : O_statePart_32 N x1 S) (hx : X (F_statePart_32 N x1 S)) : rX G E dX12_statePart mX12_statePart 32 [some (.ref E.1), some (.int x1)] [] S Q := by
  unfold O_statePart_32 at ok
  unfold F_statePart_32 at hx
  refine r_aload_n dX12_statePart_32 rfl rfl ?_
  refine r_aload_n dX12_statePart_33 rfl rfl ?_
  refine r_getA 86 fX12_433 (by decide) (by decide) dX12_statePart_34 ?_
  refine r_iload_n dX12_statePart_37 rfl rfl ?_
  refine r_iald (by decide) (by decide) dX12_statePart_38 ok.1 ?_
  have ok := ok.2
  refine r_bipush (v := nI 8) dX12_statePart_39 (by decide) ?_
  refine r_ishr dX12_statePart_41 ?_
  refine r_sipush (v := nI 255) dX12_statePart_42 (by decide) ?_
  refine r_iand dX12_statePart_45 ?_
  refine r_V1v (y' := mX12_partByte) dX12_statePart_46 lX12_124 kX12_partByte ⟨by decide, by decide⟩ rfl (Nat.le_of_ble_eq_true rfl) (rc_X12_partByte hG ok.1) (fun S_46 h_46 => ?_)
  subst h_46
  have ok := ok.2
  exact rX.cutz (b_statePart_49 hG hR ok hx) ⟨rfl, rfl, trivial⟩
def F_statePart_18 (N : Nat) (x1 : Int32) (S : rS) : rS := (F_statePart_32 N x1 (f_partByte N S ((S.2.1 85 x1.toNatClampNeg) &&& (nI 255))))
def O_statePart_18 (N : Nat) (x1 : Int32) (S : rS) : Prop := (vp_in x1 16) ∧ (o_partByte N S ((S.2.1 85 x1.toNatClampNeg) &&& (nI 255))) ∧ O_statePart_32 N x1 (f_partByte N S ((S.2.1 85 x1.toNatClampNeg) &&& (nI 255)))
set_option maxHeartbeats 4000000 in
theorem b_statePart_18 {G : zG} {E : rE} {S : rS} {N : Nat} {Q : Option Value → rS → Prop} {X : rS → Prop} (hG : zOK G) (hR : ∀ S', X S' → Q none S') {x1 : Int32} (ok : O_statePart_18 N x1 S) (hx : X (F_statePart_18 N x1 S)) : rX G E dX12_statePart mX12_statePart 18 [some (.ref E.1), some (.int x1)] [] S Q := by
  unfold O_statePart_18 at ok
  unfold F_statePart_18 at hx
  refine r_aload_n dX12_statePart_18 rfl rfl ?_
  refine r_aload_n dX12_statePart_19 rfl rfl ?_
  refine r_getA 85 fX12_430 (by decide) (by decide) dX12_statePart_20 ?_
  refine r_iload_n dX12_statePart_23 rfl rfl ?_
  refine r_iald (by decide) (by decide) dX12_statePart_24 ok.1 ?_
  have ok := ok.2
  refine r_sipush (v := nI 255) dX12_statePart_25 (by decide) ?_
  refine r_iand dX12_statePart_28 ?_
  refine r_V1v (y' := mX12_partByte) dX12_statePart_29 lX12_124 kX12_partByte ⟨by decide, by decide⟩ rfl (Nat.le_of_ble_eq_true rfl) (rc_X12_partByte hG ok.1) (fun S_29 h_29 => ?_)
  subst h_29
  have ok := ok.2
  exact rX.cutz (b_statePart_32 hG hR ok hx) ⟨rfl, rfl, trivial⟩
def F_statePart_5 (N : Nat) (x1 : Int32) (S : rS) : rS := (F_statePart_18 N x1 (f_partByte N S ((S.2.1 85 x1.toNatClampNeg) >>> ((nI 8) &&& 31))))
def O_statePart_5 (N : Nat) (x1 : Int32) (S : rS) : Prop := (vp_in x1 16) ∧ (o_partByte N S ((S.2.1 85 x1.toNatClampNeg) >>> ((nI 8) &&& 31))) ∧ O_statePart_18 N x1 (f_partByte N S ((S.2.1 85 x1.toNatClampNeg) >>> ((nI 8) &&& 31)))
set_option maxHeartbeats 4000000 in
theorem b_statePart_5 {G : zG} {E : rE} {S : rS} {N : Nat} {Q : Option Value → rS → Prop} {X : rS → Prop} (hG : zOK G) (hR : ∀ S', X S' → Q none S') {x1 : Int32} (ok : O_statePart_5 N x1 S) (hx : X (F_statePart_5 N x1 S)) : rX G E dX12_statePart mX12_statePart 5 [some (.ref E.1), some (.int x1)] [] S Q := by
  unfold O_statePart_5 at ok
  unfold F_statePart_5 at hx
  refine r_aload_n dX12_statePart_5 rfl rfl ?_
  refine r_aload_n dX12_statePart_6 rfl rfl ?_
  refine r_getA 85 fX12_430 (by decide) (by decide) dX12_statePart_7 ?_
  refine r_iload_n dX12_statePart_10 rfl rfl ?_
  refine r_iald (by decide) (by decide) dX12_statePart_11 ok.1 ?_
  have ok := ok.2
  refine r_bipush (v := nI 8) dX12_statePart_12 (by decide) ?_
  refine r_ishr dX12_statePart_14 ?_
  refine r_V1v (y' := mX12_partByte) dX12_statePart_15 lX12_124 kX12_partByte ⟨by decide, by decide⟩ rfl (Nat.le_of_ble_eq_true rfl) (rc_X12_partByte hG ok.1) (fun S_15 h_15 => ?_)
  subst h_15
  have ok := ok.2
  exact rX.cutz (b_statePart_18 hG hR ok hx) ⟨rfl, rfl, trivial⟩
def F_statePart_0 (N : Nat) (x1 : Int32) (S : rS) : rS := (F_statePart_5 N x1 (f_partByte N S x1))
def O_statePart_0 (N : Nat) (x1 : Int32) (S : rS) : Prop := (o_partByte N S x1) ∧ O_statePart_5 N x1 (f_partByte N S x1)
set_option maxHeartbeats 4000000 in
theorem b_statePart_0 {G : zG} {E : rE} {S : rS} {N : Nat} {Q : Option Value → rS → Prop} {X : rS → Prop} (hG : zOK G) (hR : ∀ S', X S' → Q none S') {x1 : Int32} (ok : O_statePart_0 N x1 S) (hx : X (F_statePart_0 N x1 S)) : rX G E dX12_statePart mX12_statePart 0 [some (.ref E.1), some (.int x1)] [] S Q := by
  unfold O_statePart_0 at ok
  unfold F_statePart_0 at hx
  refine r_aload_n dX12_statePart_0 rfl rfl ?_
  refine r_iload_n dX12_statePart_1 rfl rfl ?_
  refine r_V1v (y' := mX12_partByte) dX12_statePart_2 lX12_124 kX12_partByte ⟨by decide, by decide⟩ rfl (Nat.le_of_ble_eq_true rfl) (rc_X12_partByte hG ok.1) (fun S_2 h_2 => ?_)
  subst h_2
  have ok := ok.2
  exact rX.cutz (b_statePart_5 hG hR ok hx) ⟨rfl, rfl, trivial⟩
def f_statePart (N : Nat) (S : rS) (x1 : Int32) : rS := F_statePart_0 N x1 S
def o_statePart (N : Nat) (S : rS) (x1 : Int32) : Prop := O_statePart_0 N x1 S
set_option maxHeartbeats 4000000 in
theorem rc_X12_statePart {G : zG} {E : rE} {S : rS} {N : Nat} (hG : zOK G) {x1 : Int32} (ok : o_statePart N S x1) : rCv G E dX12_statePart mX12_statePart [.ref E.1, .int x1] S (fun S' => S' = f_statePart N S x1) := by
  refine rC.ofX rfl (Nat.le_of_ble_eq_true rfl) ?_
  show rX G E dX12_statePart mX12_statePart 0 [some (.ref E.1), some (.int x1)] [] S _
  exact rX.cutz (b_statePart_0 (X := fun F => F = f_statePart N S x1) hG (fun S' h => ⟨rfl, h⟩) ok rfl) ⟨rfl, rfl, trivial⟩
/-! accountParts -/
def F_accountParts_23 (N : Nat)  (S : rS) : rS := S
def O_accountParts_23 (N : Nat)  (S : rS) : Prop := True
set_option maxHeartbeats 4000000 in
theorem b_accountParts_23 {G : zG} {E : rE} {S : rS} {N : Nat} {Q : Option Value → rS → Prop} {X : rS → Prop} (hG : zOK G) (hR : ∀ S', X S' → Q none S') (ok : O_accountParts_23 N S) (hx : X (F_accountParts_23 N S)) : rX G E dX12_accountParts mX12_accountParts 23 [none, none] [] S Q := by
  unfold O_accountParts_23 at ok
  unfold F_accountParts_23 at hx
  exact r_return rfl dX12_accountParts_23 (hR _ hx)
def F_accountParts_17 (N : Nat) (rec : Int32 → rS → Nat × rS) (x1 : Int32) (S : rS) : Nat × rS := (rec (x1 + nI 1) S)
def O_accountParts_17 (N : Nat) (rok : Int32 → rS → Prop) (x1 : Int32) (S : rS) : Prop := rok (x1 + nI 1) S
set_option maxHeartbeats 4000000 in
theorem b_accountParts_17 {G : zG} {E : rE} {S : rS} {N : Nat} {Q : Option Value → rS → Prop} {X : Nat × rS → Prop} (hG : zOK G) (hX0 : ∀ (S' : rS), X (0, S') → rX G E dX12_accountParts mX12_accountParts 23 [none, none] [] S' Q) {rec : Int32 → rS → Nat × rS} {rok : Int32 → rS → Prop} (hrec : ∀ (x1 : Int32) (S : rS), rok x1 S → X (rec x1 S) → rX G E dX12_accountParts mX12_accountParts 6 [some (.ref E.1), some (.int x1)] [] S Q) {x1 : Int32} (ok : O_accountParts_17 N rok x1 S) (hx : X (F_accountParts_17 N rec x1 S)) : rX G E dX12_accountParts mX12_accountParts 17 [some (.ref E.1), some (.int x1)] [] S Q := by
  unfold O_accountParts_17 at ok
  unfold F_accountParts_17 at hx
  refine r_iinc_1 (v := (x1 + nI 1)) dX12_accountParts_17 rfl (by first | rfl | (congr 1)) (by decide) rfl ?_
  refine r_goto (tgt := 6) dX12_accountParts_20 (by decide) ?_
  exact rX.cutz (hrec _ S ok hx) ⟨rfl, rfl, trivial⟩
def B_accountParts_6 (N : Nat) (rec : Int32 → rS → Nat × rS) (x1 : Int32) (S : rS) : Nat × rS := (if (nI 16) ≤ x1 then (0, S) else (F_accountParts_17 N rec x1 (f_statePart N S x1)))
def OB_accountParts_6 (N : Nat) (rok : Int32 → rS → Prop) (x1 : Int32) (S : rS) : Prop := (((nI 16) ≤ x1 → True) ∧ (¬ (nI 16) ≤ x1 → (o_statePart N S x1) ∧ O_accountParts_17 N rok x1 (f_statePart N S x1)))
set_option maxHeartbeats 4000000 in
theorem bb_accountParts_6 {G : zG} {E : rE} {S : rS} {N : Nat} {Q : Option Value → rS → Prop} {X : Nat × rS → Prop} (hG : zOK G) (hX0 : ∀ (S' : rS), X (0, S') → rX G E dX12_accountParts mX12_accountParts 23 [none, none] [] S' Q) {rec : Int32 → rS → Nat × rS} {rok : Int32 → rS → Prop} (hrec : ∀ (x1 : Int32) (S : rS), rok x1 S → X (rec x1 S) → rX G E dX12_accountParts mX12_accountParts 6 [some (.ref E.1), some (.int x1)] [] S Q) {x1 : Int32} (ok : OB_accountParts_6 N rok x1 S) (hx : X (B_accountParts_6 N rec x1 S)) : rX G E dX12_accountParts mX12_accountParts 6 [some (.ref E.1), some (.int x1)] [] S Q := by
  unfold OB_accountParts_6 at ok
  unfold B_accountParts_6 at hx
  refine r_iload_n dX12_accountParts_6 rfl rfl ?_
  refine r_bipush (v := nI 16) dX12_accountParts_7 (by decide) ?_
  refine r_icmp_ge (tgt := 23) dX12_accountParts_9 (by decide) (fun c_9 => ?_) (fun c_9 => ?_)
  · have ok := ok.1 c_9
    have hx := xif_p c_9 hx
    exact rX.cutz (hX0 S hx) trivial
  · have ok := ok.2 c_9
    have hx := xif_n c_9 hx
    refine r_aload_n dX12_accountParts_12 rfl rfl ?_
    refine r_iload_n dX12_accountParts_13 rfl rfl ?_
    refine r_V1v (y' := mX12_statePart) dX12_accountParts_14 lX12_554 kX12_statePart ⟨by decide, by decide⟩ rfl (Nat.le_of_ble_eq_true rfl) (rc_X12_statePart hG ok.1) (fun S_14 h_14 => ?_)
    subst h_14
    have ok := ok.2
    exact rX.cutz (b_accountParts_17 hG hX0 hrec ok hx) ⟨rfl, rfl, trivial⟩
def L_accountParts_6 (N : Nat) : Nat → Int32 → rS → Nat × rS
  | 0, x1, S => (0, S)
  | n + 1, x1, S => B_accountParts_6 N (L_accountParts_6 N n) x1 S
def OL_accountParts_6 (N : Nat) : Nat → Int32 → rS → Prop
  | 0, _, _ => False
  | n + 1, x1, S => OB_accountParts_6 N (OL_accountParts_6 N n) x1 S
set_option maxHeartbeats 4000000 in
theorem l_accountParts_6 {G : zG} {E : rE} {N : Nat} {Q : Option Value → rS → Prop} {X : Nat × rS → Prop} (hG : zOK G) (hX0 : ∀ (S' : rS), X (0, S') → rX G E dX12_accountParts mX12_accountParts 23 [none, none] [] S' Q) : ∀ (n : Nat) (x1 : Int32) (S : rS), OL_accountParts_6 N n x1 S → X (L_accountParts_6 N n x1 S) → rX G E dX12_accountParts mX12_accountParts 6 [some (.ref E.1), some (.int x1)] [] S Q := by
  intro n
  induction n with
  | zero => intro x1 S ok; exact absurd ok id
  | succ n ih =>
    intro x1 S ok hx
    exact bb_accountParts_6 hG hX0 (rec := L_accountParts_6 N n) (rok := OL_accountParts_6 N n) (fun x1 S ok hx => ih x1 S ok hx) ok hx
def A_accountParts_6 (N : Nat) (x1 : Int32) (S : rS) (z : Nat × rS) : rS := (F_accountParts_23 N z.2)
def OA_accountParts_6 (N : Nat) (x1 : Int32) (S : rS) (z : Nat × rS) : Prop := O_accountParts_23 N z.2
set_option maxHeartbeats 4000000 in
theorem c_accountParts_6 {G : zG} {E : rE} {S : rS} {N : Nat} {Q : Option Value → rS → Prop} {X : rS → Prop} (hG : zOK G) (hR : ∀ S', X S' → Q none S') {x1 : Int32} (ok : OL_accountParts_6 N N x1 S ∧ OA_accountParts_6 N x1 S (L_accountParts_6 N N x1 S)) (hx : X (A_accountParts_6 N x1 S (L_accountParts_6 N N x1 S))) : rX G E dX12_accountParts mX12_accountParts 6 [some (.ref E.1), some (.int x1)] [] S Q := by
  refine l_accountParts_6 hG ?_ N x1 S ok.1 (X := fun z => OA_accountParts_6 N x1 S z ∧ X (A_accountParts_6 N x1 S z)) ⟨ok.2, hx⟩
  · intro S' hz
    obtain ⟨ok, hx⟩ := hz
    unfold OA_accountParts_6 at ok
    unfold A_accountParts_6 at hx
    exact rX.cutz (b_accountParts_23 hG hR ok hx) trivial
def F_accountParts_4 (N : Nat)  (S : rS) : rS := (A_accountParts_6 N (nI 0) S (L_accountParts_6 N N (nI 0) S))
def O_accountParts_4 (N : Nat)  (S : rS) : Prop := (OL_accountParts_6 N N (nI 0) S ∧ OA_accountParts_6 N (nI 0) S (L_accountParts_6 N N (nI 0) S))
set_option maxHeartbeats 4000000 in
theorem b_accountParts_4 {G : zG} {E : rE} {S : rS} {N : Nat} {Q : Option Value → rS → Prop} {X : rS → Prop} (hG : zOK G) (hR : ∀ S', X S' → Q none S') (ok : O_accountParts_4 N S) (hx : X (F_accountParts_4 N S)) : rX G E dX12_accountParts mX12_accountParts 4 [some (.ref E.1), none] [] S Q := by
  unfold O_accountParts_4 at ok
  unfold F_accountParts_4 at hx
  refine r_iconst (v := nI 0) dX12_accountParts_4 (by decide) ?_
  refine r_istore_1 dX12_accountParts_5 (by decide) rfl ?_
  exact rX.cutz (c_accountParts_6 hG hR ok hx) ⟨rfl, rfl, trivial⟩
def F_accountParts_0 (N : Nat)  (S : rS) : rS := (F_accountParts_4 N (f_noParts N S))
def O_accountParts_0 (N : Nat)  (S : rS) : Prop := (o_noParts N S) ∧ O_accountParts_4 N (f_noParts N S)
set_option maxHeartbeats 4000000 in
theorem b_accountParts_0 {G : zG} {E : rE} {S : rS} {N : Nat} {Q : Option Value → rS → Prop} {X : rS → Prop} (hG : zOK G) (hR : ∀ S', X S' → Q none S') (ok : O_accountParts_0 N S) (hx : X (F_accountParts_0 N S)) : rX G E dX12_accountParts mX12_accountParts 0 [some (.ref E.1), none] [] S Q := by
  unfold O_accountParts_0 at ok
  unfold F_accountParts_0 at hx
  refine r_aload_n dX12_accountParts_0 rfl rfl ?_
  refine r_V0v (y' := mX12_noParts) dX12_accountParts_1 lX12_112 kX12_noParts ⟨by decide, by decide⟩ rfl (Nat.le_of_ble_eq_true rfl) (rc_X12_noParts hG ok.1) (fun S_1 h_1 => ?_)
  subst h_1
  have ok := ok.2
  exact rX.cutz (b_accountParts_4 hG hR ok hx) ⟨rfl, trivial⟩
def f_accountParts (N : Nat) (S : rS) : rS := F_accountParts_0 N S
def o_accountParts (N : Nat) (S : rS) : Prop := O_accountParts_0 N S
set_option maxHeartbeats 4000000 in
theorem rc_X12_accountParts {G : zG} {E : rE} {S : rS} {N : Nat} (hG : zOK G) (ok : o_accountParts N S ) : rCv G E dX12_accountParts mX12_accountParts [.ref E.1] S (fun S' => S' = f_accountParts N S) := by
  refine rC.ofX rfl (Nat.le_of_ble_eq_true rfl) ?_
  show rX G E dX12_accountParts mX12_accountParts 0 [some (.ref E.1), none] [] S _
  exact rX.cutz (b_accountParts_0 (X := fun F => F = f_accountParts N S) hG (fun S' h => ⟨rfl, h⟩) ok rfl) ⟨rfl, trivial⟩
/-! accountsRoot -/
def F_accountsRoot_4 (N : Nat)  (S : rS) : rS := (f_root_ N S)
def O_accountsRoot_4 (N : Nat)  (S : rS) : Prop := (o_root_ N S) ∧ True
set_option maxHeartbeats 4000000 in
theorem b_accountsRoot_4 {G : zG} {E : rE} {S : rS} {N : Nat} {Q : Option Value → rS → Prop} {X : rS → Prop} (hG : zOK G) (hR : ∀ S', X S' → Q none S') (ok : O_accountsRoot_4 N S) (hx : X (F_accountsRoot_4 N S)) : rX G E dX12_accountsRoot mX12_accountsRoot 4 [some (.ref E.1)] [] S Q := by
  unfold O_accountsRoot_4 at ok
  unfold F_accountsRoot_4 at hx
  refine r_aload_n dX12_accountsRoot_4 rfl rfl ?_
  refine r_V0v (y' := mX12_root_) dX12_accountsRoot_5 lX12_150 kX12_root_ ⟨by decide, by decide⟩ rfl (Nat.le_of_ble_eq_true rfl) (rc_X12_root_ hG ok.1) (fun S_5 h_5 => ?_)
  subst h_5
  have ok := ok.2
  exact r_return rfl dX12_accountsRoot_8 (hR _ hx)
def F_accountsRoot_0 (N : Nat)  (S : rS) : rS := (F_accountsRoot_4 N (f_accountParts N S))
def O_accountsRoot_0 (N : Nat)  (S : rS) : Prop := (o_accountParts N S) ∧ O_accountsRoot_4 N (f_accountParts N S)
set_option maxHeartbeats 4000000 in
theorem b_accountsRoot_0 {G : zG} {E : rE} {S : rS} {N : Nat} {Q : Option Value → rS → Prop} {X : rS → Prop} (hG : zOK G) (hR : ∀ S', X S' → Q none S') (ok : O_accountsRoot_0 N S) (hx : X (F_accountsRoot_0 N S)) : rX G E dX12_accountsRoot mX12_accountsRoot 0 [some (.ref E.1)] [] S Q := by
  unfold O_accountsRoot_0 at ok
  unfold F_accountsRoot_0 at hx
  refine r_aload_n dX12_accountsRoot_0 rfl rfl ?_
  refine r_V0v (y' := mX12_accountParts) dX12_accountsRoot_1 lX12_557 kX12_accountParts ⟨by decide, by decide⟩ rfl (Nat.le_of_ble_eq_true rfl) (rc_X12_accountParts hG ok.1) (fun S_1 h_1 => ?_)
  subst h_1
  have ok := ok.2
  exact rX.cutz (b_accountsRoot_4 hG hR ok hx) ⟨rfl, trivial⟩
def f_accountsRoot (N : Nat) (S : rS) : rS := F_accountsRoot_0 N S
def o_accountsRoot (N : Nat) (S : rS) : Prop := O_accountsRoot_0 N S
set_option maxHeartbeats 4000000 in
theorem rc_X12_accountsRoot {G : zG} {E : rE} {S : rS} {N : Nat} (hG : zOK G) (ok : o_accountsRoot N S ) : rCv G E dX12_accountsRoot mX12_accountsRoot [.ref E.1] S (fun S' => S' = f_accountsRoot N S) := by
  refine rC.ofX rfl (Nat.le_of_ble_eq_true rfl) ?_
  show rX G E dX12_accountsRoot mX12_accountsRoot 0 [some (.ref E.1)] [] S _
  exact rX.cutz (b_accountsRoot_0 (X := fun F => F = f_accountsRoot N S) hG (fun S' h => ⟨rfl, h⟩) ok rfl) ⟨rfl, trivial⟩
/-! seal -/
def F_seal_328 (N : Nat) (x6 : Int32) (S : rS) : Int32 × rS := (x6, S)
def O_seal_328 (N : Nat) (x6 : Int32) (S : rS) : Prop := True
set_option maxHeartbeats 4000000 in
theorem b_seal_328 {G : zG} {E : rE} {S : rS} {N : Nat} {Q : Option Value → rS → Prop} {X : Int32 × rS → Prop} (hG : zOK G) (hR : ∀ v S', X (v, S') → Q (some (.int v)) S') {x6 : Int32} (ok : O_seal_328 N x6 S) (hx : X (F_seal_328 N x6 S)) : rX G E dX12_seal mX12_seal 328 [none, none, none, none, none, none, some (.int x6), none] [] S Q := by
  unfold O_seal_328 at ok
  unfold F_seal_328 at hx
  refine r_iload dX12_seal_328 rfl ?_
  exact r_ireturn rfl rfl dX12_seal_330 (hR _ _ hx)
def B_seal_297 (N : Nat) (rec : Int32 → Int32 → Int32 → rS → Nat × Int32 × rS) (x1 : Int32) (x6 : Int32) (x7 : Int32) (S : rS) : Nat × Int32 × rS := (if (nI 32) ≤ x7 then (0, x6, S) else (rec x1 x6 (x7 + nI 1) (rsA S 21 ((x1 + (nI 35)) + x7).toNatClampNeg (f_rootByte N S x7))))
def OB_seal_297 (N : Nat) (rok : Int32 → Int32 → Int32 → rS → Prop) (x1 : Int32) (x6 : Int32) (x7 : Int32) (S : rS) : Prop := (((nI 32) ≤ x7 → True) ∧ (¬ (nI 32) ≤ x7 → (o_rootByte N S x7) ∧ (vp_in ((x1 + (nI 35)) + x7) 1000) ∧ rok x1 x6 (x7 + nI 1) (rsA S 21 ((x1 + (nI 35)) + x7).toNatClampNeg (f_rootByte N S x7))))
set_option maxHeartbeats 4000000 in
theorem bb_seal_297 {G : zG} {E : rE} {S : rS} {N : Nat} {Q : Option Value → rS → Prop} {X : Nat × Int32 × rS → Prop} (hG : zOK G) (hX0 : ∀ (x6 : Int32) (S' : rS), X (0, x6, S') → rX G E dX12_seal mX12_seal 328 [none, none, none, none, none, none, some (.int x6), none] [] S' Q) {rec : Int32 → Int32 → Int32 → rS → Nat × Int32 × rS} {rok : Int32 → Int32 → Int32 → rS → Prop} (hrec : ∀ (x1 : Int32) (x6 : Int32) (x7 : Int32) (S : rS), rok x1 x6 x7 S → X (rec x1 x6 x7 S) → rX G E dX12_seal mX12_seal 297 [some (.ref E.1), some (.int x1), none, none, none, none, some (.int x6), some (.int x7)] [] S Q) {x1 : Int32} {x6 : Int32} {x7 : Int32} (ok : OB_seal_297 N rok x1 x6 x7 S) (hx : X (B_seal_297 N rec x1 x6 x7 S)) : rX G E dX12_seal mX12_seal 297 [some (.ref E.1), some (.int x1), none, none, none, none, some (.int x6), some (.int x7)] [] S Q := by
  unfold OB_seal_297 at ok
  unfold B_seal_297 at hx
  refine r_iload dX12_seal_297 rfl ?_
  refine r_bipush (v := nI 32) dX12_seal_299 (by decide) ?_
  refine r_icmp_ge (tgt := 328) dX12_seal_301 (by decide) (fun c_301 => ?_) (fun c_301 => ?_)
  · have ok := ok.1 c_301
    have hx := xif_p c_301 hx
    exact rX.cutz (hX0 _ S hx) ⟨rfl, trivial⟩
  · have ok := ok.2 c_301
    have hx := xif_n c_301 hx
    refine r_aload_n dX12_seal_304 rfl rfl ?_
    refine r_getA 21 fX12_130 (by decide) (by decide) dX12_seal_305 ?_
    refine r_iload_n dX12_seal_308 rfl rfl ?_
    refine r_bipush (v := nI 35) dX12_seal_309 (by decide) ?_
    refine r_iadd dX12_seal_311 ?_
    refine r_iload dX12_seal_312 rfl ?_
    refine r_iadd dX12_seal_314 ?_
    refine r_aload_n dX12_seal_315 rfl rfl ?_
    refine r_iload dX12_seal_316 rfl ?_
    refine r_V1i (y' := mX12_rootByte) dX12_seal_318 lX12_152 kX12_rootByte ⟨by decide, by decide⟩ rfl (Nat.le_of_ble_eq_true rfl) (rc_X12_rootByte hG ok.1) (fun v_318 S_318 h_318 => ?_)
    obtain ⟨rfl, hS_318⟩ := h_318
    have hS_318 := hS_318.symm
    subst hS_318
    have ok := ok.2
    refine r_iast hG (by decide) (by decide) dX12_seal_321 ok.1 ?_
    have ok := ok.2
    refine r_iinc_7 (v := (x7 + nI 1)) dX12_seal_322 rfl (by first | rfl | (congr 1)) (by decide) rfl ?_
    refine r_goto (tgt := 297) dX12_seal_325 (by decide) ?_
    exact rX.cutz (hrec _ _ _ (rsA S 21 ((x1 + (nI 35)) + x7).toNatClampNeg (f_rootByte N S x7)) ok hx) ⟨rfl, rfl, rfl, rfl, trivial⟩
def L_seal_297 (N : Nat) : Nat → Int32 → Int32 → Int32 → rS → Nat × Int32 × rS
  | 0, x1, x6, x7, S => (0, 0, S)
  | n + 1, x1, x6, x7, S => B_seal_297 N (L_seal_297 N n) x1 x6 x7 S
def OL_seal_297 (N : Nat) : Nat → Int32 → Int32 → Int32 → rS → Prop
  | 0, _, _, _, _ => False
  | n + 1, x1, x6, x7, S => OB_seal_297 N (OL_seal_297 N n) x1 x6 x7 S
set_option maxHeartbeats 4000000 in
theorem l_seal_297 {G : zG} {E : rE} {N : Nat} {Q : Option Value → rS → Prop} {X : Nat × Int32 × rS → Prop} (hG : zOK G) (hX0 : ∀ (x6 : Int32) (S' : rS), X (0, x6, S') → rX G E dX12_seal mX12_seal 328 [none, none, none, none, none, none, some (.int x6), none] [] S' Q) : ∀ (n : Nat) (x1 : Int32) (x6 : Int32) (x7 : Int32) (S : rS), OL_seal_297 N n x1 x6 x7 S → X (L_seal_297 N n x1 x6 x7 S) → rX G E dX12_seal mX12_seal 297 [some (.ref E.1), some (.int x1), none, none, none, none, some (.int x6), some (.int x7)] [] S Q := by
  intro n
  induction n with
  | zero => intro x1 x6 x7 S ok; exact absurd ok id
  | succ n ih =>
    intro x1 x6 x7 S ok hx
    exact bb_seal_297 hG hX0 (rec := L_seal_297 N n) (rok := OL_seal_297 N n) (fun x1 x6 x7 S ok hx => ih x1 x6 x7 S ok hx) ok hx
def A_seal_297 (N : Nat) (x1 : Int32) (x6 : Int32) (x7 : Int32) (S : rS) (z : Nat × Int32 × rS) : Int32 × rS := (F_seal_328 N (z.2.1) z.2.2)
def OA_seal_297 (N : Nat) (x1 : Int32) (x6 : Int32) (x7 : Int32) (S : rS) (z : Nat × Int32 × rS) : Prop := O_seal_328 N (z.2.1) z.2.2
set_option maxHeartbeats 4000000 in
theorem c_seal_297 {G : zG} {E : rE} {S : rS} {N : Nat} {Q : Option Value → rS → Prop} {X : Int32 × rS → Prop} (hG : zOK G) (hR : ∀ v S', X (v, S') → Q (some (.int v)) S') {x1 : Int32} {x6 : Int32} {x7 : Int32} (ok : OL_seal_297 N N x1 x6 x7 S ∧ OA_seal_297 N x1 x6 x7 S (L_seal_297 N N x1 x6 x7 S)) (hx : X (A_seal_297 N x1 x6 x7 S (L_seal_297 N N x1 x6 x7 S))) : rX G E dX12_seal mX12_seal 297 [some (.ref E.1), some (.int x1), none, none, none, none, some (.int x6), some (.int x7)] [] S Q := by
  refine l_seal_297 hG ?_ N x1 x6 x7 S ok.1 (X := fun z => OA_seal_297 N x1 x6 x7 S z ∧ X (A_seal_297 N x1 x6 x7 S z)) ⟨ok.2, hx⟩
  · intro x6' S' hz
    obtain ⟨ok, hx⟩ := hz
    unfold OA_seal_297 at ok
    unfold A_seal_297 at hx
    exact rX.cutz (b_seal_328 hG hR ok hx) ⟨rfl, trivial⟩
def F_seal_294 (N : Nat) (x1 : Int32) (x6 : Int32) (S : rS) : Int32 × rS := (A_seal_297 N x1 x6 (nI 0) S (L_seal_297 N N x1 x6 (nI 0) S))
def O_seal_294 (N : Nat) (x1 : Int32) (x6 : Int32) (S : rS) : Prop := (OL_seal_297 N N x1 x6 (nI 0) S ∧ OA_seal_297 N x1 x6 (nI 0) S (L_seal_297 N N x1 x6 (nI 0) S))
set_option maxHeartbeats 4000000 in
theorem b_seal_294 {G : zG} {E : rE} {S : rS} {N : Nat} {Q : Option Value → rS → Prop} {X : Int32 × rS → Prop} (hG : zOK G) (hR : ∀ v S', X (v, S') → Q (some (.int v)) S') {x1 : Int32} {x6 : Int32} (ok : O_seal_294 N x1 x6 S) (hx : X (F_seal_294 N x1 x6 S)) : rX G E dX12_seal mX12_seal 294 [some (.ref E.1), some (.int x1), none, none, none, none, some (.int x6), none] [] S Q := by
  unfold O_seal_294 at ok
  unfold F_seal_294 at hx
  refine r_iconst (v := nI 0) dX12_seal_294 (by decide) ?_
  refine r_istore_7 dX12_seal_295 (by decide) rfl ?_
  exact rX.cutz (c_seal_297 hG hR ok hx) ⟨rfl, rfl, rfl, rfl, trivial⟩
def F_seal_290 (N : Nat) (x1 : Int32) (x6 : Int32) (S : rS) : Int32 × rS := (F_seal_294 N x1 x6 (f_accountsRoot N S))
def O_seal_290 (N : Nat) (x1 : Int32) (x6 : Int32) (S : rS) : Prop := (o_accountsRoot N S) ∧ O_seal_294 N x1 x6 (f_accountsRoot N S)
set_option maxHeartbeats 4000000 in
theorem b_seal_290 {G : zG} {E : rE} {S : rS} {N : Nat} {Q : Option Value → rS → Prop} {X : Int32 × rS → Prop} (hG : zOK G) (hR : ∀ v S', X (v, S') → Q (some (.int v)) S') {x1 : Int32} {x6 : Int32} (ok : O_seal_290 N x1 x6 S) (hx : X (F_seal_290 N x1 x6 S)) : rX G E dX12_seal mX12_seal 290 [some (.ref E.1), some (.int x1), none, none, none, none, some (.int x6), none] [] S Q := by
  unfold O_seal_290 at ok
  unfold F_seal_290 at hx
  refine r_aload_n dX12_seal_290 rfl rfl ?_
  refine r_V0v (y' := mX12_accountsRoot) dX12_seal_291 lX12_164 kX12_accountsRoot ⟨by decide, by decide⟩ rfl (Nat.le_of_ble_eq_true rfl) (rc_X12_accountsRoot hG ok.1) (fun S_291 h_291 => ?_)
  subst h_291
  have ok := ok.2
  exact rX.cutz (b_seal_294 hG hR ok hx) ⟨rfl, rfl, rfl, trivial⟩
def F_seal_285 (N : Nat) (x1 : Int32) (x3 : Int32) (x6 : Int32) (S : rS) : Int32 × rS := (F_seal_290 N x1 x6 (f_reckon N S x3))
def O_seal_285 (N : Nat) (x1 : Int32) (x3 : Int32) (x6 : Int32) (S : rS) : Prop := (o_reckon N S x3) ∧ O_seal_290 N x1 x6 (f_reckon N S x3)
set_option maxHeartbeats 4000000 in
theorem b_seal_285 {G : zG} {E : rE} {S : rS} {N : Nat} {Q : Option Value → rS → Prop} {X : Int32 × rS → Prop} (hG : zOK G) (hR : ∀ v S', X (v, S') → Q (some (.int v)) S') {x1 : Int32} {x3 : Int32} {x6 : Int32} (ok : O_seal_285 N x1 x3 x6 S) (hx : X (F_seal_285 N x1 x3 x6 S)) : rX G E dX12_seal mX12_seal 285 [some (.ref E.1), some (.int x1), none, some (.int x3), none, none, some (.int x6), none] [] S Q := by
  unfold O_seal_285 at ok
  unfold F_seal_285 at hx
  refine r_aload_n dX12_seal_285 rfl rfl ?_
  refine r_iload_n dX12_seal_286 rfl rfl ?_
  refine r_V1v (y' := mX12_reckon) dX12_seal_287 lX12_161 kX12_reckon ⟨by decide, by decide⟩ rfl (Nat.le_of_ble_eq_true rfl) (rc_X12_reckon hG ok.1) (fun S_287 h_287 => ?_)
  subst h_287
  have ok := ok.2
  exact rX.cutz (b_seal_290 hG hR ok hx) ⟨rfl, rfl, rfl, trivial⟩
def B_seal_254 (N : Nat) (rec : Int32 → Int32 → Int32 → Int32 → rS → Nat × Int32 × Int32 × Int32 × rS) (x1 : Int32) (x3 : Int32) (x6 : Int32) (x7 : Int32) (S : rS) : Nat × Int32 × Int32 × Int32 × rS := (if (nI 32) ≤ x7 then (0, x1, x3, x6, S) else (rec x1 x3 x6 (x7 + nI 1) (rsA S 21 ((x1 + (nI 3)) + x7).toNatClampNeg (f_lastByte N S x3 x7))))
def OB_seal_254 (N : Nat) (rok : Int32 → Int32 → Int32 → Int32 → rS → Prop) (x1 : Int32) (x3 : Int32) (x6 : Int32) (x7 : Int32) (S : rS) : Prop := (((nI 32) ≤ x7 → True) ∧ (¬ (nI 32) ≤ x7 → (o_lastByte N S x3 x7) ∧ (vp_in ((x1 + (nI 3)) + x7) 1000) ∧ rok x1 x3 x6 (x7 + nI 1) (rsA S 21 ((x1 + (nI 3)) + x7).toNatClampNeg (f_lastByte N S x3 x7))))
set_option maxHeartbeats 4000000 in
theorem bb_seal_254 {G : zG} {E : rE} {S : rS} {N : Nat} {Q : Option Value → rS → Prop} {X : Nat × Int32 × Int32 × Int32 × rS → Prop} (hG : zOK G) (hX0 : ∀ (x1 : Int32) (x3 : Int32) (x6 : Int32) (S' : rS), X (0, x1, x3, x6, S') → rX G E dX12_seal mX12_seal 285 [some (.ref E.1), some (.int x1), none, some (.int x3), none, none, some (.int x6), none] [] S' Q) {rec : Int32 → Int32 → Int32 → Int32 → rS → Nat × Int32 × Int32 × Int32 × rS} {rok : Int32 → Int32 → Int32 → Int32 → rS → Prop} (hrec : ∀ (x1 : Int32) (x3 : Int32) (x6 : Int32) (x7 : Int32) (S : rS), rok x1 x3 x6 x7 S → X (rec x1 x3 x6 x7 S) → rX G E dX12_seal mX12_seal 254 [some (.ref E.1), some (.int x1), none, some (.int x3), none, none, some (.int x6), some (.int x7)] [] S Q) {x1 : Int32} {x3 : Int32} {x6 : Int32} {x7 : Int32} (ok : OB_seal_254 N rok x1 x3 x6 x7 S) (hx : X (B_seal_254 N rec x1 x3 x6 x7 S)) : rX G E dX12_seal mX12_seal 254 [some (.ref E.1), some (.int x1), none, some (.int x3), none, none, some (.int x6), some (.int x7)] [] S Q := by
  unfold OB_seal_254 at ok
  unfold B_seal_254 at hx
  refine r_iload dX12_seal_254 rfl ?_
  refine r_bipush (v := nI 32) dX12_seal_256 (by decide) ?_
  refine r_icmp_ge (tgt := 285) dX12_seal_258 (by decide) (fun c_258 => ?_) (fun c_258 => ?_)
  · have ok := ok.1 c_258
    have hx := xif_p c_258 hx
    exact rX.cutz (hX0 _ _ _ S hx) ⟨rfl, rfl, rfl, rfl, trivial⟩
  · have ok := ok.2 c_258
    have hx := xif_n c_258 hx
    refine r_aload_n dX12_seal_261 rfl rfl ?_
    refine r_getA 21 fX12_130 (by decide) (by decide) dX12_seal_262 ?_
    refine r_iload_n dX12_seal_265 rfl rfl ?_
    refine r_iconst (v := nI 3) dX12_seal_266 (by decide) ?_
    refine r_iadd dX12_seal_267 ?_
    refine r_iload dX12_seal_268 rfl ?_
    refine r_iadd dX12_seal_270 ?_
    refine r_aload_n dX12_seal_271 rfl rfl ?_
    refine r_iload_n dX12_seal_272 rfl rfl ?_
    refine r_iload dX12_seal_273 rfl ?_
    refine r_V2i (y' := mX12_lastByte) dX12_seal_275 lX12_158 kX12_lastByte ⟨by decide, by decide⟩ rfl (Nat.le_of_ble_eq_true rfl) (rc_X12_lastByte hG ok.1) (fun v_275 S_275 h_275 => ?_)
    obtain ⟨rfl, hS_275⟩ := h_275
    have hS_275 := hS_275.symm
    subst hS_275
    have ok := ok.2
    refine r_iast hG (by decide) (by decide) dX12_seal_278 ok.1 ?_
    have ok := ok.2
    refine r_iinc_7 (v := (x7 + nI 1)) dX12_seal_279 rfl (by first | rfl | (congr 1)) (by decide) rfl ?_
    refine r_goto (tgt := 254) dX12_seal_282 (by decide) ?_
    exact rX.cutz (hrec _ _ _ _ (rsA S 21 ((x1 + (nI 3)) + x7).toNatClampNeg (f_lastByte N S x3 x7)) ok hx) ⟨rfl, rfl, rfl, rfl, rfl, trivial⟩
def L_seal_254 (N : Nat) : Nat → Int32 → Int32 → Int32 → Int32 → rS → Nat × Int32 × Int32 × Int32 × rS
  | 0, x1, x3, x6, x7, S => (0, 0, 0, 0, S)
  | n + 1, x1, x3, x6, x7, S => B_seal_254 N (L_seal_254 N n) x1 x3 x6 x7 S
def OL_seal_254 (N : Nat) : Nat → Int32 → Int32 → Int32 → Int32 → rS → Prop
  | 0, _, _, _, _, _ => False
  | n + 1, x1, x3, x6, x7, S => OB_seal_254 N (OL_seal_254 N n) x1 x3 x6 x7 S
set_option maxHeartbeats 4000000 in
theorem l_seal_254 {G : zG} {E : rE} {N : Nat} {Q : Option Value → rS → Prop} {X : Nat × Int32 × Int32 × Int32 × rS → Prop} (hG : zOK G) (hX0 : ∀ (x1 : Int32) (x3 : Int32) (x6 : Int32) (S' : rS), X (0, x1, x3, x6, S') → rX G E dX12_seal mX12_seal 285 [some (.ref E.1), some (.int x1), none, some (.int x3), none, none, some (.int x6), none] [] S' Q) : ∀ (n : Nat) (x1 : Int32) (x3 : Int32) (x6 : Int32) (x7 : Int32) (S : rS), OL_seal_254 N n x1 x3 x6 x7 S → X (L_seal_254 N n x1 x3 x6 x7 S) → rX G E dX12_seal mX12_seal 254 [some (.ref E.1), some (.int x1), none, some (.int x3), none, none, some (.int x6), some (.int x7)] [] S Q := by
  intro n
  induction n with
  | zero => intro x1 x3 x6 x7 S ok; exact absurd ok id
  | succ n ih =>
    intro x1 x3 x6 x7 S ok hx
    exact bb_seal_254 hG hX0 (rec := L_seal_254 N n) (rok := OL_seal_254 N n) (fun x1 x3 x6 x7 S ok hx => ih x1 x3 x6 x7 S ok hx) ok hx
def A_seal_254 (N : Nat) (x1 : Int32) (x3 : Int32) (x6 : Int32) (x7 : Int32) (S : rS) (z : Nat × Int32 × Int32 × Int32 × rS) : Int32 × rS := (F_seal_285 N (z.2.1) (z.2.2.1) (z.2.2.2.1) z.2.2.2.2)
def OA_seal_254 (N : Nat) (x1 : Int32) (x3 : Int32) (x6 : Int32) (x7 : Int32) (S : rS) (z : Nat × Int32 × Int32 × Int32 × rS) : Prop := O_seal_285 N (z.2.1) (z.2.2.1) (z.2.2.2.1) z.2.2.2.2
set_option maxHeartbeats 4000000 in
theorem c_seal_254 {G : zG} {E : rE} {S : rS} {N : Nat} {Q : Option Value → rS → Prop} {X : Int32 × rS → Prop} (hG : zOK G) (hR : ∀ v S', X (v, S') → Q (some (.int v)) S') {x1 : Int32} {x3 : Int32} {x6 : Int32} {x7 : Int32} (ok : OL_seal_254 N N x1 x3 x6 x7 S ∧ OA_seal_254 N x1 x3 x6 x7 S (L_seal_254 N N x1 x3 x6 x7 S)) (hx : X (A_seal_254 N x1 x3 x6 x7 S (L_seal_254 N N x1 x3 x6 x7 S))) : rX G E dX12_seal mX12_seal 254 [some (.ref E.1), some (.int x1), none, some (.int x3), none, none, some (.int x6), some (.int x7)] [] S Q := by
  refine l_seal_254 hG ?_ N x1 x3 x6 x7 S ok.1 (X := fun z => OA_seal_254 N x1 x3 x6 x7 S z ∧ X (A_seal_254 N x1 x3 x6 x7 S z)) ⟨ok.2, hx⟩
  · intro x1' x3' x6' S' hz
    obtain ⟨ok, hx⟩ := hz
    unfold OA_seal_254 at ok
    unfold A_seal_254 at hx
    exact rX.cutz (b_seal_285 hG hR ok hx) ⟨rfl, rfl, rfl, rfl, trivial⟩
def F_seal_232 (N : Nat) (x1 : Int32) (x3 : Int32) (x6 : Int32) (S : rS) : Int32 × rS := (if (f_isHonest N (rsA S 21 (x1 + (nI 99)).toNatClampNeg x6) x3) = 0 then (F_seal_328 N x6 (rsA S 21 (x1 + (nI 99)).toNatClampNeg x6)) else (A_seal_254 N x1 x3 x6 (nI 0) (rsA S 21 (x1 + (nI 99)).toNatClampNeg x6) (L_seal_254 N N x1 x3 x6 (nI 0) (rsA S 21 (x1 + (nI 99)).toNatClampNeg x6))))
def O_seal_232 (N : Nat) (x1 : Int32) (x3 : Int32) (x6 : Int32) (S : rS) : Prop := (vp_in (x1 + (nI 99)) 1000) ∧ (o_isHonest N (rsA S 21 (x1 + (nI 99)).toNatClampNeg x6) x3) ∧ (((f_isHonest N (rsA S 21 (x1 + (nI 99)).toNatClampNeg x6) x3) = 0 → O_seal_328 N x6 (rsA S 21 (x1 + (nI 99)).toNatClampNeg x6)) ∧ (¬ (f_isHonest N (rsA S 21 (x1 + (nI 99)).toNatClampNeg x6) x3) = 0 → (OL_seal_254 N N x1 x3 x6 (nI 0) (rsA S 21 (x1 + (nI 99)).toNatClampNeg x6) ∧ OA_seal_254 N x1 x3 x6 (nI 0) (rsA S 21 (x1 + (nI 99)).toNatClampNeg x6) (L_seal_254 N N x1 x3 x6 (nI 0) (rsA S 21 (x1 + (nI 99)).toNatClampNeg x6)))))
set_option maxHeartbeats 4000000 in
theorem b_seal_232 {G : zG} {E : rE} {S : rS} {N : Nat} {Q : Option Value → rS → Prop} {X : Int32 × rS → Prop} (hG : zOK G) (hR : ∀ v S', X (v, S') → Q (some (.int v)) S') {x1 : Int32} {x3 : Int32} {x6 : Int32} (ok : O_seal_232 N x1 x3 x6 S) (hx : X (F_seal_232 N x1 x3 x6 S)) : rX G E dX12_seal mX12_seal 232 [some (.ref E.1), some (.int x1), none, some (.int x3), none, none, some (.int x6), none] [] S Q := by
  unfold O_seal_232 at ok
  unfold F_seal_232 at hx
  refine r_aload_n dX12_seal_232 rfl rfl ?_
  refine r_getA 21 fX12_130 (by decide) (by decide) dX12_seal_233 ?_
  refine r_iload_n dX12_seal_236 rfl rfl ?_
  refine r_bipush (v := nI 99) dX12_seal_237 (by decide) ?_
  refine r_iadd dX12_seal_239 ?_
  refine r_iload dX12_seal_240 rfl ?_
  refine r_iast hG (by decide) (by decide) dX12_seal_242 ok.1 ?_
  have ok := ok.2
  refine r_aload_n dX12_seal_243 rfl rfl ?_
  refine r_iload_n dX12_seal_244 rfl rfl ?_
  refine r_V1i (y' := mX12_isHonest) dX12_seal_245 lX12_155 kX12_isHonest ⟨by decide, by decide⟩ rfl (Nat.le_of_ble_eq_true rfl) (rc_X12_isHonest hG ok.1) (fun v_245 S_245 h_245 => ?_)
  obtain ⟨rfl, hS_245⟩ := h_245
  have hS_245 := hS_245.symm
  subst hS_245
  have ok := ok.2
  refine r_if_eq (tgt := 328) dX12_seal_248 (by decide) (fun c_248 => ?_) (fun c_248 => ?_)
  · have ok := ok.1 c_248
    have hx := xif_p c_248 hx
    exact rX.cutz (b_seal_328 hG hR ok hx) ⟨rfl, trivial⟩
  · have ok := ok.2 c_248
    have hx := xif_n c_248 hx
    refine r_iconst (v := nI 0) dX12_seal_251 (by decide) ?_
    refine r_istore_7 dX12_seal_252 (by decide) rfl ?_
    exact rX.cutz (c_seal_254 hG hR ok hx) ⟨rfl, rfl, rfl, rfl, rfl, trivial⟩
def B_seal_201 (N : Nat) (rec : Int32 → Int32 → Int32 → Int32 → rS → Nat × Int32 × Int32 × Int32 × rS) (x1 : Int32) (x3 : Int32) (x6 : Int32) (x7 : Int32) (S : rS) : Nat × Int32 × Int32 × Int32 × rS := (if (nI 32) ≤ x7 then (0, x1, x3, x6, S) else (rec x1 x3 x6 (x7 + nI 1) (rsA S 21 ((x1 + (nI 67)) + x7).toNatClampNeg (f_rootByte N S x7))))
def OB_seal_201 (N : Nat) (rok : Int32 → Int32 → Int32 → Int32 → rS → Prop) (x1 : Int32) (x3 : Int32) (x6 : Int32) (x7 : Int32) (S : rS) : Prop := (((nI 32) ≤ x7 → True) ∧ (¬ (nI 32) ≤ x7 → (o_rootByte N S x7) ∧ (vp_in ((x1 + (nI 67)) + x7) 1000) ∧ rok x1 x3 x6 (x7 + nI 1) (rsA S 21 ((x1 + (nI 67)) + x7).toNatClampNeg (f_rootByte N S x7))))
set_option maxHeartbeats 4000000 in
theorem bb_seal_201 {G : zG} {E : rE} {S : rS} {N : Nat} {Q : Option Value → rS → Prop} {X : Nat × Int32 × Int32 × Int32 × rS → Prop} (hG : zOK G) (hX0 : ∀ (x1 : Int32) (x3 : Int32) (x6 : Int32) (S' : rS), X (0, x1, x3, x6, S') → rX G E dX12_seal mX12_seal 232 [some (.ref E.1), some (.int x1), none, some (.int x3), none, none, some (.int x6), none] [] S' Q) {rec : Int32 → Int32 → Int32 → Int32 → rS → Nat × Int32 × Int32 × Int32 × rS} {rok : Int32 → Int32 → Int32 → Int32 → rS → Prop} (hrec : ∀ (x1 : Int32) (x3 : Int32) (x6 : Int32) (x7 : Int32) (S : rS), rok x1 x3 x6 x7 S → X (rec x1 x3 x6 x7 S) → rX G E dX12_seal mX12_seal 201 [some (.ref E.1), some (.int x1), none, some (.int x3), none, none, some (.int x6), some (.int x7)] [] S Q) {x1 : Int32} {x3 : Int32} {x6 : Int32} {x7 : Int32} (ok : OB_seal_201 N rok x1 x3 x6 x7 S) (hx : X (B_seal_201 N rec x1 x3 x6 x7 S)) : rX G E dX12_seal mX12_seal 201 [some (.ref E.1), some (.int x1), none, some (.int x3), none, none, some (.int x6), some (.int x7)] [] S Q := by
  unfold OB_seal_201 at ok
  unfold B_seal_201 at hx
  refine r_iload dX12_seal_201 rfl ?_
  refine r_bipush (v := nI 32) dX12_seal_203 (by decide) ?_
  refine r_icmp_ge (tgt := 232) dX12_seal_205 (by decide) (fun c_205 => ?_) (fun c_205 => ?_)
  · have ok := ok.1 c_205
    have hx := xif_p c_205 hx
    exact rX.cutz (hX0 _ _ _ S hx) ⟨rfl, rfl, rfl, rfl, trivial⟩
  · have ok := ok.2 c_205
    have hx := xif_n c_205 hx
    refine r_aload_n dX12_seal_208 rfl rfl ?_
    refine r_getA 21 fX12_130 (by decide) (by decide) dX12_seal_209 ?_
    refine r_iload_n dX12_seal_212 rfl rfl ?_
    refine r_bipush (v := nI 67) dX12_seal_213 (by decide) ?_
    refine r_iadd dX12_seal_215 ?_
    refine r_iload dX12_seal_216 rfl ?_
    refine r_iadd dX12_seal_218 ?_
    refine r_aload_n dX12_seal_219 rfl rfl ?_
    refine r_iload dX12_seal_220 rfl ?_
    refine r_V1i (y' := mX12_rootByte) dX12_seal_222 lX12_152 kX12_rootByte ⟨by decide, by decide⟩ rfl (Nat.le_of_ble_eq_true rfl) (rc_X12_rootByte hG ok.1) (fun v_222 S_222 h_222 => ?_)
    obtain ⟨rfl, hS_222⟩ := h_222
    have hS_222 := hS_222.symm
    subst hS_222
    have ok := ok.2
    refine r_iast hG (by decide) (by decide) dX12_seal_225 ok.1 ?_
    have ok := ok.2
    refine r_iinc_7 (v := (x7 + nI 1)) dX12_seal_226 rfl (by first | rfl | (congr 1)) (by decide) rfl ?_
    refine r_goto (tgt := 201) dX12_seal_229 (by decide) ?_
    exact rX.cutz (hrec _ _ _ _ (rsA S 21 ((x1 + (nI 67)) + x7).toNatClampNeg (f_rootByte N S x7)) ok hx) ⟨rfl, rfl, rfl, rfl, rfl, trivial⟩
def L_seal_201 (N : Nat) : Nat → Int32 → Int32 → Int32 → Int32 → rS → Nat × Int32 × Int32 × Int32 × rS
  | 0, x1, x3, x6, x7, S => (0, 0, 0, 0, S)
  | n + 1, x1, x3, x6, x7, S => B_seal_201 N (L_seal_201 N n) x1 x3 x6 x7 S
def OL_seal_201 (N : Nat) : Nat → Int32 → Int32 → Int32 → Int32 → rS → Prop
  | 0, _, _, _, _, _ => False
  | n + 1, x1, x3, x6, x7, S => OB_seal_201 N (OL_seal_201 N n) x1 x3 x6 x7 S
set_option maxHeartbeats 4000000 in
theorem l_seal_201 {G : zG} {E : rE} {N : Nat} {Q : Option Value → rS → Prop} {X : Nat × Int32 × Int32 × Int32 × rS → Prop} (hG : zOK G) (hX0 : ∀ (x1 : Int32) (x3 : Int32) (x6 : Int32) (S' : rS), X (0, x1, x3, x6, S') → rX G E dX12_seal mX12_seal 232 [some (.ref E.1), some (.int x1), none, some (.int x3), none, none, some (.int x6), none] [] S' Q) : ∀ (n : Nat) (x1 : Int32) (x3 : Int32) (x6 : Int32) (x7 : Int32) (S : rS), OL_seal_201 N n x1 x3 x6 x7 S → X (L_seal_201 N n x1 x3 x6 x7 S) → rX G E dX12_seal mX12_seal 201 [some (.ref E.1), some (.int x1), none, some (.int x3), none, none, some (.int x6), some (.int x7)] [] S Q := by
  intro n
  induction n with
  | zero => intro x1 x3 x6 x7 S ok; exact absurd ok id
  | succ n ih =>
    intro x1 x3 x6 x7 S ok hx
    exact bb_seal_201 hG hX0 (rec := L_seal_201 N n) (rok := OL_seal_201 N n) (fun x1 x3 x6 x7 S ok hx => ih x1 x3 x6 x7 S ok hx) ok hx
def A_seal_201 (N : Nat) (x1 : Int32) (x3 : Int32) (x6 : Int32) (x7 : Int32) (S : rS) (z : Nat × Int32 × Int32 × Int32 × rS) : Int32 × rS := (F_seal_232 N (z.2.1) (z.2.2.1) (z.2.2.2.1) z.2.2.2.2)
def OA_seal_201 (N : Nat) (x1 : Int32) (x3 : Int32) (x6 : Int32) (x7 : Int32) (S : rS) (z : Nat × Int32 × Int32 × Int32 × rS) : Prop := O_seal_232 N (z.2.1) (z.2.2.1) (z.2.2.2.1) z.2.2.2.2
set_option maxHeartbeats 4000000 in
theorem c_seal_201 {G : zG} {E : rE} {S : rS} {N : Nat} {Q : Option Value → rS → Prop} {X : Int32 × rS → Prop} (hG : zOK G) (hR : ∀ v S', X (v, S') → Q (some (.int v)) S') {x1 : Int32} {x3 : Int32} {x6 : Int32} {x7 : Int32} (ok : OL_seal_201 N N x1 x3 x6 x7 S ∧ OA_seal_201 N x1 x3 x6 x7 S (L_seal_201 N N x1 x3 x6 x7 S)) (hx : X (A_seal_201 N x1 x3 x6 x7 S (L_seal_201 N N x1 x3 x6 x7 S))) : rX G E dX12_seal mX12_seal 201 [some (.ref E.1), some (.int x1), none, some (.int x3), none, none, some (.int x6), some (.int x7)] [] S Q := by
  refine l_seal_201 hG ?_ N x1 x3 x6 x7 S ok.1 (X := fun z => OA_seal_201 N x1 x3 x6 x7 S z ∧ X (A_seal_201 N x1 x3 x6 x7 S z)) ⟨ok.2, hx⟩
  · intro x1' x3' x6' S' hz
    obtain ⟨ok, hx⟩ := hz
    unfold OA_seal_201 at ok
    unfold A_seal_201 at hx
    exact rX.cutz (b_seal_232 hG hR ok hx) ⟨rfl, rfl, rfl, rfl, trivial⟩
def F_seal_198 (N : Nat) (x1 : Int32) (x3 : Int32) (x6 : Int32) (S : rS) : Int32 × rS := (A_seal_201 N x1 x3 x6 (nI 0) S (L_seal_201 N N x1 x3 x6 (nI 0) S))
def O_seal_198 (N : Nat) (x1 : Int32) (x3 : Int32) (x6 : Int32) (S : rS) : Prop := (OL_seal_201 N N x1 x3 x6 (nI 0) S ∧ OA_seal_201 N x1 x3 x6 (nI 0) S (L_seal_201 N N x1 x3 x6 (nI 0) S))
set_option maxHeartbeats 4000000 in
theorem b_seal_198 {G : zG} {E : rE} {S : rS} {N : Nat} {Q : Option Value → rS → Prop} {X : Int32 × rS → Prop} (hG : zOK G) (hR : ∀ v S', X (v, S') → Q (some (.int v)) S') {x1 : Int32} {x3 : Int32} {x6 : Int32} (ok : O_seal_198 N x1 x3 x6 S) (hx : X (F_seal_198 N x1 x3 x6 S)) : rX G E dX12_seal mX12_seal 198 [some (.ref E.1), some (.int x1), none, some (.int x3), none, none, some (.int x6), none] [] S Q := by
  unfold O_seal_198 at ok
  unfold F_seal_198 at hx
  refine r_iconst (v := nI 0) dX12_seal_198 (by decide) ?_
  refine r_istore_7 dX12_seal_199 (by decide) rfl ?_
  exact rX.cutz (c_seal_201 hG hR ok hx) ⟨rfl, rfl, rfl, rfl, rfl, trivial⟩
def F_seal_194 (N : Nat) (x1 : Int32) (x3 : Int32) (x6 : Int32) (S : rS) : Int32 × rS := (F_seal_198 N x1 x3 x6 (f_root_ N S))
def O_seal_194 (N : Nat) (x1 : Int32) (x3 : Int32) (x6 : Int32) (S : rS) : Prop := (o_root_ N S) ∧ O_seal_198 N x1 x3 x6 (f_root_ N S)
set_option maxHeartbeats 4000000 in
theorem b_seal_194 {G : zG} {E : rE} {S : rS} {N : Nat} {Q : Option Value → rS → Prop} {X : Int32 × rS → Prop} (hG : zOK G) (hR : ∀ v S', X (v, S') → Q (some (.int v)) S') {x1 : Int32} {x3 : Int32} {x6 : Int32} (ok : O_seal_194 N x1 x3 x6 S) (hx : X (F_seal_194 N x1 x3 x6 S)) : rX G E dX12_seal mX12_seal 194 [some (.ref E.1), some (.int x1), none, some (.int x3), none, none, some (.int x6), none] [] S Q := by
  unfold O_seal_194 at ok
  unfold F_seal_194 at hx
  refine r_aload_n dX12_seal_194 rfl rfl ?_
  refine r_V0v (y' := mX12_root_) dX12_seal_195 lX12_150 kX12_root_ ⟨by decide, by decide⟩ rfl (Nat.le_of_ble_eq_true rfl) (rc_X12_root_ hG ok.1) (fun S_195 h_195 => ?_)
  subst h_195
  have ok := ok.2
  exact rX.cutz (b_seal_198 hG hR ok hx) ⟨rfl, rfl, rfl, rfl, trivial⟩
def F_seal_188 (N : Nat) (rec : Int32 → Int32 → Int32 → Int32 → Int32 → rS → Nat × Int32 × Int32 × Int32 × rS) (x1 : Int32) (x3 : Int32) (x5 : Int32) (x6 : Int32) (x7 : Int32) (S : rS) : Nat × Int32 × Int32 × Int32 × rS := (rec x1 x3 x5 x6 (x7 + nI 1) S)
def O_seal_188 (N : Nat) (rok : Int32 → Int32 → Int32 → Int32 → Int32 → rS → Prop) (x1 : Int32) (x3 : Int32) (x5 : Int32) (x6 : Int32) (x7 : Int32) (S : rS) : Prop := rok x1 x3 x5 x6 (x7 + nI 1) S
set_option maxHeartbeats 4000000 in
theorem b_seal_188 {G : zG} {E : rE} {S : rS} {N : Nat} {Q : Option Value → rS → Prop} {X : Nat × Int32 × Int32 × Int32 × rS → Prop} (hG : zOK G) (hX0 : ∀ (x1 : Int32) (x3 : Int32) (x6 : Int32) (S' : rS), X (0, x1, x3, x6, S') → rX G E dX12_seal mX12_seal 194 [some (.ref E.1), some (.int x1), none, some (.int x3), none, none, some (.int x6), none] [] S' Q) {rec : Int32 → Int32 → Int32 → Int32 → Int32 → rS → Nat × Int32 × Int32 × Int32 × rS} {rok : Int32 → Int32 → Int32 → Int32 → Int32 → rS → Prop} (hrec : ∀ (x1 : Int32) (x3 : Int32) (x5 : Int32) (x6 : Int32) (x7 : Int32) (S : rS), rok x1 x3 x5 x6 x7 S → X (rec x1 x3 x5 x6 x7 S) → rX G E dX12_seal mX12_seal 167 [some (.ref E.1), some (.int x1), none, some (.int x3), none, some (.int x5), some (.int x6), some (.int x7)] [] S Q) {x1 : Int32} {x3 : Int32} {x5 : Int32} {x6 : Int32} {x7 : Int32} (ok : O_seal_188 N rok x1 x3 x5 x6 x7 S) (hx : X (F_seal_188 N rec x1 x3 x5 x6 x7 S)) : rX G E dX12_seal mX12_seal 188 [some (.ref E.1), some (.int x1), none, some (.int x3), none, some (.int x5), some (.int x6), some (.int x7)] [] S Q := by
  unfold O_seal_188 at ok
  unfold F_seal_188 at hx
  refine r_iinc_7 (v := (x7 + nI 1)) dX12_seal_188 rfl (by first | rfl | (congr 1)) (by decide) rfl ?_
  refine r_goto (tgt := 167) dX12_seal_191 (by decide) ?_
  exact rX.cutz (hrec _ _ _ _ _ S ok hx) ⟨rfl, rfl, rfl, rfl, rfl, rfl, trivial⟩
def B_seal_167 (N : Nat) (rec : Int32 → Int32 → Int32 → Int32 → Int32 → rS → Nat × Int32 × Int32 × Int32 × rS) (x1 : Int32) (x3 : Int32) (x5 : Int32) (x6 : Int32) (x7 : Int32) (S : rS) : Nat × Int32 × Int32 × Int32 × rS := (if x6 ≤ x7 then (0, x1, x3, x6, S) else (F_seal_188 N rec x1 x3 x5 x6 x7 (f_partOnTape N S (x5 + ((nI 7) * x7)) (nI 7))))
def OB_seal_167 (N : Nat) (rok : Int32 → Int32 → Int32 → Int32 → Int32 → rS → Prop) (x1 : Int32) (x3 : Int32) (x5 : Int32) (x6 : Int32) (x7 : Int32) (S : rS) : Prop := ((x6 ≤ x7 → True) ∧ (¬ x6 ≤ x7 → (o_partOnTape N S (x5 + ((nI 7) * x7)) (nI 7)) ∧ O_seal_188 N rok x1 x3 x5 x6 x7 (f_partOnTape N S (x5 + ((nI 7) * x7)) (nI 7))))
set_option maxHeartbeats 4000000 in
theorem bb_seal_167 {G : zG} {E : rE} {S : rS} {N : Nat} {Q : Option Value → rS → Prop} {X : Nat × Int32 × Int32 × Int32 × rS → Prop} (hG : zOK G) (hX0 : ∀ (x1 : Int32) (x3 : Int32) (x6 : Int32) (S' : rS), X (0, x1, x3, x6, S') → rX G E dX12_seal mX12_seal 194 [some (.ref E.1), some (.int x1), none, some (.int x3), none, none, some (.int x6), none] [] S' Q) {rec : Int32 → Int32 → Int32 → Int32 → Int32 → rS → Nat × Int32 × Int32 × Int32 × rS} {rok : Int32 → Int32 → Int32 → Int32 → Int32 → rS → Prop} (hrec : ∀ (x1 : Int32) (x3 : Int32) (x5 : Int32) (x6 : Int32) (x7 : Int32) (S : rS), rok x1 x3 x5 x6 x7 S → X (rec x1 x3 x5 x6 x7 S) → rX G E dX12_seal mX12_seal 167 [some (.ref E.1), some (.int x1), none, some (.int x3), none, some (.int x5), some (.int x6), some (.int x7)] [] S Q) {x1 : Int32} {x3 : Int32} {x5 : Int32} {x6 : Int32} {x7 : Int32} (ok : OB_seal_167 N rok x1 x3 x5 x6 x7 S) (hx : X (B_seal_167 N rec x1 x3 x5 x6 x7 S)) : rX G E dX12_seal mX12_seal 167 [some (.ref E.1), some (.int x1), none, some (.int x3), none, some (.int x5), some (.int x6), some (.int x7)] [] S Q := by
  unfold OB_seal_167 at ok
  unfold B_seal_167 at hx
  refine r_iload dX12_seal_167 rfl ?_
  refine r_iload dX12_seal_169 rfl ?_
  refine r_icmp_ge (tgt := 194) dX12_seal_171 (by decide) (fun c_171 => ?_) (fun c_171 => ?_)
  · have ok := ok.1 c_171
    have hx := xif_p c_171 hx
    exact rX.cutz (hX0 _ _ _ S hx) ⟨rfl, rfl, rfl, rfl, trivial⟩
  · have ok := ok.2 c_171
    have hx := xif_n c_171 hx
    refine r_aload_n dX12_seal_174 rfl rfl ?_
    refine r_iload dX12_seal_175 rfl ?_
    refine r_bipush (v := nI 7) dX12_seal_177 (by decide) ?_
    refine r_iload dX12_seal_179 rfl ?_
    refine r_imul dX12_seal_181 ?_
    refine r_iadd dX12_seal_182 ?_
    refine r_bipush (v := nI 7) dX12_seal_183 (by decide) ?_
    refine r_V2v (y' := mX12_partOnTape) dX12_seal_185 lX12_146 kX12_partOnTape ⟨by decide, by decide⟩ rfl (Nat.le_of_ble_eq_true rfl) (rc_X12_partOnTape hG ok.1) (fun S_185 h_185 => ?_)
    subst h_185
    have ok := ok.2
    exact rX.cutz (b_seal_188 hG hX0 hrec ok hx) ⟨rfl, rfl, rfl, rfl, rfl, rfl, trivial⟩
def L_seal_167 (N : Nat) : Nat → Int32 → Int32 → Int32 → Int32 → Int32 → rS → Nat × Int32 × Int32 × Int32 × rS
  | 0, x1, x3, x5, x6, x7, S => (0, 0, 0, 0, S)
  | n + 1, x1, x3, x5, x6, x7, S => B_seal_167 N (L_seal_167 N n) x1 x3 x5 x6 x7 S
def OL_seal_167 (N : Nat) : Nat → Int32 → Int32 → Int32 → Int32 → Int32 → rS → Prop
  | 0, _, _, _, _, _, _ => False
  | n + 1, x1, x3, x5, x6, x7, S => OB_seal_167 N (OL_seal_167 N n) x1 x3 x5 x6 x7 S
set_option maxHeartbeats 4000000 in
theorem l_seal_167 {G : zG} {E : rE} {N : Nat} {Q : Option Value → rS → Prop} {X : Nat × Int32 × Int32 × Int32 × rS → Prop} (hG : zOK G) (hX0 : ∀ (x1 : Int32) (x3 : Int32) (x6 : Int32) (S' : rS), X (0, x1, x3, x6, S') → rX G E dX12_seal mX12_seal 194 [some (.ref E.1), some (.int x1), none, some (.int x3), none, none, some (.int x6), none] [] S' Q) : ∀ (n : Nat) (x1 : Int32) (x3 : Int32) (x5 : Int32) (x6 : Int32) (x7 : Int32) (S : rS), OL_seal_167 N n x1 x3 x5 x6 x7 S → X (L_seal_167 N n x1 x3 x5 x6 x7 S) → rX G E dX12_seal mX12_seal 167 [some (.ref E.1), some (.int x1), none, some (.int x3), none, some (.int x5), some (.int x6), some (.int x7)] [] S Q := by
  intro n
  induction n with
  | zero => intro x1 x3 x5 x6 x7 S ok; exact absurd ok id
  | succ n ih =>
    intro x1 x3 x5 x6 x7 S ok hx
    exact bb_seal_167 hG hX0 (rec := L_seal_167 N n) (rok := OL_seal_167 N n) (fun x1 x3 x5 x6 x7 S ok hx => ih x1 x3 x5 x6 x7 S ok hx) ok hx
def A_seal_167 (N : Nat) (x1 : Int32) (x3 : Int32) (x5 : Int32) (x6 : Int32) (x7 : Int32) (S : rS) (z : Nat × Int32 × Int32 × Int32 × rS) : Int32 × rS := (F_seal_194 N (z.2.1) (z.2.2.1) (z.2.2.2.1) z.2.2.2.2)
def OA_seal_167 (N : Nat) (x1 : Int32) (x3 : Int32) (x5 : Int32) (x6 : Int32) (x7 : Int32) (S : rS) (z : Nat × Int32 × Int32 × Int32 × rS) : Prop := O_seal_194 N (z.2.1) (z.2.2.1) (z.2.2.2.1) z.2.2.2.2
set_option maxHeartbeats 4000000 in
theorem c_seal_167 {G : zG} {E : rE} {S : rS} {N : Nat} {Q : Option Value → rS → Prop} {X : Int32 × rS → Prop} (hG : zOK G) (hR : ∀ v S', X (v, S') → Q (some (.int v)) S') {x1 : Int32} {x3 : Int32} {x5 : Int32} {x6 : Int32} {x7 : Int32} (ok : OL_seal_167 N N x1 x3 x5 x6 x7 S ∧ OA_seal_167 N x1 x3 x5 x6 x7 S (L_seal_167 N N x1 x3 x5 x6 x7 S)) (hx : X (A_seal_167 N x1 x3 x5 x6 x7 S (L_seal_167 N N x1 x3 x5 x6 x7 S))) : rX G E dX12_seal mX12_seal 167 [some (.ref E.1), some (.int x1), none, some (.int x3), none, some (.int x5), some (.int x6), some (.int x7)] [] S Q := by
  refine l_seal_167 hG ?_ N x1 x3 x5 x6 x7 S ok.1 (X := fun z => OA_seal_167 N x1 x3 x5 x6 x7 S z ∧ X (A_seal_167 N x1 x3 x5 x6 x7 S z)) ⟨ok.2, hx⟩
  · intro x1' x3' x6' S' hz
    obtain ⟨ok, hx⟩ := hz
    unfold OA_seal_167 at ok
    unfold A_seal_167 at hx
    exact rX.cutz (b_seal_194 hG hR ok hx) ⟨rfl, rfl, rfl, rfl, trivial⟩
def F_seal_162 (N : Nat) (x1 : Int32) (x3 : Int32) (x5 : Int32) (s0 : Int32) (S : rS) : Int32 × rS := (A_seal_167 N x1 x3 x5 s0 (nI 0) S (L_seal_167 N N x1 x3 x5 s0 (nI 0) S))
def O_seal_162 (N : Nat) (x1 : Int32) (x3 : Int32) (x5 : Int32) (s0 : Int32) (S : rS) : Prop := (OL_seal_167 N N x1 x3 x5 s0 (nI 0) S ∧ OA_seal_167 N x1 x3 x5 s0 (nI 0) S (L_seal_167 N N x1 x3 x5 s0 (nI 0) S))
set_option maxHeartbeats 4000000 in
theorem b_seal_162 {G : zG} {E : rE} {S : rS} {N : Nat} {Q : Option Value → rS → Prop} {X : Int32 × rS → Prop} (hG : zOK G) (hR : ∀ v S', X (v, S') → Q (some (.int v)) S') {x1 : Int32} {x3 : Int32} {x5 : Int32} {s0 : Int32} (ok : O_seal_162 N x1 x3 x5 s0 S) (hx : X (F_seal_162 N x1 x3 x5 s0 S)) : rX G E dX12_seal mX12_seal 162 [some (.ref E.1), some (.int x1), none, some (.int x3), none, some (.int x5), none, none] [.int s0] S Q := by
  unfold O_seal_162 at ok
  unfold F_seal_162 at hx
  refine r_istore_6 dX12_seal_162 (by decide) rfl ?_
  refine r_iconst (v := nI 0) dX12_seal_164 (by decide) ?_
  refine r_istore_7 dX12_seal_165 (by decide) rfl ?_
  exact rX.cutz (c_seal_167 hG hR ok hx) ⟨rfl, rfl, rfl, rfl, rfl, rfl, trivial⟩
def F_seal_138 (N : Nat) (x1 : Int32) (x2 : Int32) (x3 : Int32) (x5 : Int32) (S : rS) : Int32 × rS := (if (nI 64) ≤ ((x2 - x5) / (nI 7)) then (F_seal_162 N x1 x3 x5 (nI 64) S) else (F_seal_162 N x1 x3 x5 ((x2 - x5) / (nI 7)) S))
def O_seal_138 (N : Nat) (x1 : Int32) (x2 : Int32) (x3 : Int32) (x5 : Int32) (S : rS) : Prop := (((nI 64) ≤ ((x2 - x5) / (nI 7)) → O_seal_162 N x1 x3 x5 (nI 64) S) ∧ (¬ (nI 64) ≤ ((x2 - x5) / (nI 7)) → O_seal_162 N x1 x3 x5 ((x2 - x5) / (nI 7)) S))
set_option maxHeartbeats 4000000 in
theorem b_seal_138 {G : zG} {E : rE} {S : rS} {N : Nat} {Q : Option Value → rS → Prop} {X : Int32 × rS → Prop} (hG : zOK G) (hR : ∀ v S', X (v, S') → Q (some (.int v)) S') {x1 : Int32} {x2 : Int32} {x3 : Int32} {x5 : Int32} (ok : O_seal_138 N x1 x2 x3 x5 S) (hx : X (F_seal_138 N x1 x2 x3 x5 S)) : rX G E dX12_seal mX12_seal 138 [some (.ref E.1), some (.int x1), some (.int x2), some (.int x3), none, some (.int x5), none, none] [] S Q := by
  unfold O_seal_138 at ok
  unfold F_seal_138 at hx
  refine r_iload_n dX12_seal_138 rfl rfl ?_
  refine r_iload dX12_seal_139 rfl ?_
  refine r_isub dX12_seal_141 ?_
  refine r_bipush (v := nI 7) dX12_seal_142 (by decide) ?_
  refine r_idiv dX12_seal_144 (by decide) ?_
  refine r_bipush (v := nI 64) dX12_seal_145 (by decide) ?_
  refine r_icmp_ge (tgt := 160) dX12_seal_147 (by decide) (fun c_147 => ?_) (fun c_147 => ?_)
  · have ok := ok.1 c_147
    have hx := xif_p c_147 hx
    refine r_bipush (v := nI 64) dX12_seal_160 (by decide) ?_
    exact rX.cutz (b_seal_162 hG hR ok hx) ⟨rfl, rfl, rfl, rfl, trivial⟩
  · have ok := ok.2 c_147
    have hx := xif_n c_147 hx
    refine r_iload_n dX12_seal_150 rfl rfl ?_
    refine r_iload dX12_seal_151 rfl ?_
    refine r_isub dX12_seal_153 ?_
    refine r_bipush (v := nI 7) dX12_seal_154 (by decide) ?_
    refine r_idiv dX12_seal_156 (by decide) ?_
    refine r_goto (tgt := 162) dX12_seal_157 (by decide) ?_
    exact rX.cutz (b_seal_162 hG hR ok hx) ⟨rfl, rfl, rfl, rfl, trivial⟩
def F_seal_122 (N : Nat) (x1 : Int32) (x2 : Int32) (x3 : Int32) (S : rS) : Int32 × rS := (F_seal_138 N x1 x2 x3 (x1 + (nI 101)) (rsA S 21 (x1 + (nI 100)).toNatClampNeg (nI 0)))
def O_seal_122 (N : Nat) (x1 : Int32) (x2 : Int32) (x3 : Int32) (S : rS) : Prop := (vp_in (x1 + (nI 100)) 1000) ∧ O_seal_138 N x1 x2 x3 (x1 + (nI 101)) (rsA S 21 (x1 + (nI 100)).toNatClampNeg (nI 0))
set_option maxHeartbeats 4000000 in
theorem b_seal_122 {G : zG} {E : rE} {S : rS} {N : Nat} {Q : Option Value → rS → Prop} {X : Int32 × rS → Prop} (hG : zOK G) (hR : ∀ v S', X (v, S') → Q (some (.int v)) S') {x1 : Int32} {x2 : Int32} {x3 : Int32} (ok : O_seal_122 N x1 x2 x3 S) (hx : X (F_seal_122 N x1 x2 x3 S)) : rX G E dX12_seal mX12_seal 122 [some (.ref E.1), some (.int x1), some (.int x2), some (.int x3), none, none, none, none] [] S Q := by
  unfold O_seal_122 at ok
  unfold F_seal_122 at hx
  refine r_iload_n dX12_seal_122 rfl rfl ?_
  refine r_bipush (v := nI 101) dX12_seal_123 (by decide) ?_
  refine r_iadd dX12_seal_125 ?_
  refine r_istore_5 dX12_seal_126 (by decide) rfl ?_
  refine r_aload_n dX12_seal_128 rfl rfl ?_
  refine r_getA 21 fX12_130 (by decide) (by decide) dX12_seal_129 ?_
  refine r_iload_n dX12_seal_132 rfl rfl ?_
  refine r_bipush (v := nI 100) dX12_seal_133 (by decide) ?_
  refine r_iadd dX12_seal_135 ?_
  refine r_iconst (v := nI 0) dX12_seal_136 (by decide) ?_
  refine r_iast hG (by decide) (by decide) dX12_seal_137 ok.1 ?_
  have ok := ok.2
  exact rX.cutz (b_seal_138 hG hR ok hx) ⟨rfl, rfl, rfl, rfl, rfl, trivial⟩
def F_seal_118 (N : Nat) (x1 : Int32) (x2 : Int32) (x3 : Int32) (S : rS) : Int32 × rS := (F_seal_122 N x1 x2 x3 (f_noParts N S))
def O_seal_118 (N : Nat) (x1 : Int32) (x2 : Int32) (x3 : Int32) (S : rS) : Prop := (o_noParts N S) ∧ O_seal_122 N x1 x2 x3 (f_noParts N S)
set_option maxHeartbeats 4000000 in
theorem b_seal_118 {G : zG} {E : rE} {S : rS} {N : Nat} {Q : Option Value → rS → Prop} {X : Int32 × rS → Prop} (hG : zOK G) (hR : ∀ v S', X (v, S') → Q (some (.int v)) S') {x1 : Int32} {x2 : Int32} {x3 : Int32} (ok : O_seal_118 N x1 x2 x3 S) (hx : X (F_seal_118 N x1 x2 x3 S)) : rX G E dX12_seal mX12_seal 118 [some (.ref E.1), some (.int x1), some (.int x2), some (.int x3), none, none, none, none] [] S Q := by
  unfold O_seal_118 at ok
  unfold F_seal_118 at hx
  refine r_aload_n dX12_seal_118 rfl rfl ?_
  refine r_V0v (y' := mX12_noParts) dX12_seal_119 lX12_112 kX12_noParts ⟨by decide, by decide⟩ rfl (Nat.le_of_ble_eq_true rfl) (rc_X12_noParts hG ok.1) (fun S_119 h_119 => ?_)
  subst h_119
  have ok := ok.2
  exact rX.cutz (b_seal_122 hG hR ok hx) ⟨rfl, rfl, rfl, rfl, trivial⟩
def F_seal_103 (N : Nat) (x1 : Int32) (x2 : Int32) (x3 : Int32) (x4 : Int32) (x5 : Int32) (S : rS) : Int32 × rS := (if (nI 2) < x4 then (F_seal_118 N x1 x2 x3 S) else (if x4 ≤ (S.1 17) then (F_seal_138 N x1 x2 x3 x5 S) else (F_seal_118 N x1 x2 x3 S)))
def O_seal_103 (N : Nat) (x1 : Int32) (x2 : Int32) (x3 : Int32) (x4 : Int32) (x5 : Int32) (S : rS) : Prop := (((nI 2) < x4 → O_seal_118 N x1 x2 x3 S) ∧ (¬ (nI 2) < x4 → ((x4 ≤ (S.1 17) → O_seal_138 N x1 x2 x3 x5 S) ∧ (¬ x4 ≤ (S.1 17) → O_seal_118 N x1 x2 x3 S))))
set_option maxHeartbeats 4000000 in
theorem b_seal_103 {G : zG} {E : rE} {S : rS} {N : Nat} {Q : Option Value → rS → Prop} {X : Int32 × rS → Prop} (hG : zOK G) (hR : ∀ v S', X (v, S') → Q (some (.int v)) S') {x1 : Int32} {x2 : Int32} {x3 : Int32} {x4 : Int32} {x5 : Int32} (ok : O_seal_103 N x1 x2 x3 x4 x5 S) (hx : X (F_seal_103 N x1 x2 x3 x4 x5 S)) : rX G E dX12_seal mX12_seal 103 [some (.ref E.1), some (.int x1), some (.int x2), some (.int x3), some (.int x4), some (.int x5), none, none] [] S Q := by
  unfold O_seal_103 at ok
  unfold F_seal_103 at hx
  refine r_iload dX12_seal_103 rfl ?_
  refine r_iconst (v := nI 2) dX12_seal_105 (by decide) ?_
  refine r_icmp_gt (tgt := 118) dX12_seal_106 (by decide) (fun c_106 => ?_) (fun c_106 => ?_)
  · have ok := ok.1 c_106
    have hx := xif_p c_106 hx
    exact rX.cutz (b_seal_118 hG hR ok hx) ⟨rfl, rfl, rfl, rfl, trivial⟩
  · have ok := ok.2 c_106
    have hx := xif_n c_106 hx
    refine r_aload_n dX12_seal_109 rfl rfl ?_
    refine r_getI 17 fX12_78 (by decide) (by decide) dX12_seal_110 ?_
    refine r_iload dX12_seal_113 rfl ?_
    refine r_icmp_ge (tgt := 138) dX12_seal_115 (by decide) (fun c_115 => ?_) (fun c_115 => ?_)
    · have ok := ok.1 c_115
      have hx := xif_p c_115 hx
      exact rX.cutz (b_seal_138 hG hR ok hx) ⟨rfl, rfl, rfl, rfl, rfl, trivial⟩
    · have ok := ok.2 c_115
      have hx := xif_n c_115 hx
      exact rX.cutz (b_seal_118 hG hR ok hx) ⟨rfl, rfl, rfl, rfl, trivial⟩
def F_seal_90 (N : Nat) (rec : Int32 → Int32 → Int32 → Int32 → Int32 → Int32 → rS → Nat × Int32 × Int32 × Int32 × Int32 × Int32 × rS) (x1 : Int32) (x2 : Int32) (x3 : Int32) (x4 : Int32) (x5 : Int32) (x6 : Int32) (x7 : Int32) (S : rS) : Nat × Int32 × Int32 × Int32 × Int32 × Int32 × rS := (rec x1 x2 x3 x4 (x5 + x7) (x6 + nI 1) S)
def O_seal_90 (N : Nat) (rok : Int32 → Int32 → Int32 → Int32 → Int32 → Int32 → rS → Prop) (x1 : Int32) (x2 : Int32) (x3 : Int32) (x4 : Int32) (x5 : Int32) (x6 : Int32) (x7 : Int32) (S : rS) : Prop := rok x1 x2 x3 x4 (x5 + x7) (x6 + nI 1) S
set_option maxHeartbeats 4000000 in
theorem b_seal_90 {G : zG} {E : rE} {S : rS} {N : Nat} {Q : Option Value → rS → Prop} {X : Nat × Int32 × Int32 × Int32 × Int32 × Int32 × rS → Prop} (hG : zOK G) (hX0 : ∀ (x1 : Int32) (x2 : Int32) (x3 : Int32) (x4 : Int32) (x5 : Int32) (S' : rS), X (0, x1, x2, x3, x4, x5, S') → rX G E dX12_seal mX12_seal 79 [some (.ref E.1), some (.int x1), some (.int x2), some (.int x3), some (.int x4), some (.int x5), none, none] [] S' Q) (hX1 : ∀ (x1 : Int32) (x2 : Int32) (x3 : Int32) (x4 : Int32) (x5 : Int32) (S' : rS), X (1, x1, x2, x3, x4, x5, S') → rX G E dX12_seal mX12_seal 103 [some (.ref E.1), some (.int x1), some (.int x2), some (.int x3), some (.int x4), some (.int x5), none, none] [] S' Q) {rec : Int32 → Int32 → Int32 → Int32 → Int32 → Int32 → rS → Nat × Int32 × Int32 × Int32 × Int32 × Int32 × rS} {rok : Int32 → Int32 → Int32 → Int32 → Int32 → Int32 → rS → Prop} (hrec : ∀ (x1 : Int32) (x2 : Int32) (x3 : Int32) (x4 : Int32) (x5 : Int32) (x6 : Int32) (S : rS), rok x1 x2 x3 x4 x5 x6 S → X (rec x1 x2 x3 x4 x5 x6 S) → rX G E dX12_seal mX12_seal 52 [some (.ref E.1), some (.int x1), some (.int x2), some (.int x3), some (.int x4), some (.int x5), some (.int x6), none] [] S Q) {x1 : Int32} {x2 : Int32} {x3 : Int32} {x4 : Int32} {x5 : Int32} {x6 : Int32} {x7 : Int32} (ok : O_seal_90 N rok x1 x2 x3 x4 x5 x6 x7 S) (hx : X (F_seal_90 N rec x1 x2 x3 x4 x5 x6 x7 S)) : rX G E dX12_seal mX12_seal 90 [some (.ref E.1), some (.int x1), some (.int x2), some (.int x3), some (.int x4), some (.int x5), some (.int x6), some (.int x7)] [] S Q := by
  unfold O_seal_90 at ok
  unfold F_seal_90 at hx
  refine r_iload dX12_seal_90 rfl ?_
  refine r_iload dX12_seal_92 rfl ?_
  refine r_iadd dX12_seal_94 ?_
  refine r_istore_5 dX12_seal_95 (by decide) rfl ?_
  refine r_iinc_6 (v := (x6 + nI 1)) dX12_seal_97 rfl (by first | rfl | (congr 1)) (by decide) rfl ?_
  refine r_goto (tgt := 52) dX12_seal_100 (by decide) ?_
  exact rX.cutz (hrec _ _ _ _ _ _ S ok hx) ⟨rfl, rfl, rfl, rfl, rfl, rfl, rfl, trivial⟩
def F_seal_79 (N : Nat) (x1 : Int32) (x2 : Int32) (x3 : Int32) (x4 : Int32) (x5 : Int32) (S : rS) : Int32 × rS := (F_seal_103 N x1 x2 x3 x4 x5 S)
def O_seal_79 (N : Nat) (x1 : Int32) (x2 : Int32) (x3 : Int32) (x4 : Int32) (x5 : Int32) (S : rS) : Prop := O_seal_103 N x1 x2 x3 x4 x5 S
set_option maxHeartbeats 4000000 in
theorem b_seal_79 {G : zG} {E : rE} {S : rS} {N : Nat} {Q : Option Value → rS → Prop} {X : Int32 × rS → Prop} (hG : zOK G) (hR : ∀ v S', X (v, S') → Q (some (.int v)) S') {x1 : Int32} {x2 : Int32} {x3 : Int32} {x4 : Int32} {x5 : Int32} (ok : O_seal_79 N x1 x2 x3 x4 x5 S) (hx : X (F_seal_79 N x1 x2 x3 x4 x5 S)) : rX G E dX12_seal mX12_seal 79 [some (.ref E.1), some (.int x1), some (.int x2), some (.int x3), some (.int x4), some (.int x5), none, none] [] S Q := by
  unfold O_seal_79 at ok
  unfold F_seal_79 at hx
  refine r_goto (tgt := 103) dX12_seal_79 (by decide) ?_
  exact rX.cutz (b_seal_103 hG hR ok hx) ⟨rfl, rfl, rfl, rfl, rfl, rfl, trivial⟩
def B_seal_52 (N : Nat) (rec : Int32 → Int32 → Int32 → Int32 → Int32 → Int32 → rS → Nat × Int32 × Int32 × Int32 × Int32 × Int32 × rS) (x1 : Int32) (x2 : Int32) (x3 : Int32) (x4 : Int32) (x5 : Int32) (x6 : Int32) (S : rS) : Nat × Int32 × Int32 × Int32 × Int32 × Int32 × rS := (if x4 ≤ x6 then (1, x1, x2, x3, x4, x5, S) else (if (nI 2) < x4 then (1, x1, x2, x3, x4, x5, S) else (if (f_proofOnTape N S x5 x2) = 0 then (0, x1, x2, x3, x4, x5, S) else (F_seal_90 N rec x1 x2 x3 x4 x5 x6 (f_proofOnTape N S x5 x2) (f_partOnTape N S x5 (f_proofOnTape N S x5 x2))))))
def OB_seal_52 (N : Nat) (rok : Int32 → Int32 → Int32 → Int32 → Int32 → Int32 → rS → Prop) (x1 : Int32) (x2 : Int32) (x3 : Int32) (x4 : Int32) (x5 : Int32) (x6 : Int32) (S : rS) : Prop := ((x4 ≤ x6 → True) ∧ (¬ x4 ≤ x6 → (((nI 2) < x4 → True) ∧ (¬ (nI 2) < x4 → (o_proofOnTape N S x5 x2) ∧ (((f_proofOnTape N S x5 x2) = 0 → True) ∧ (¬ (f_proofOnTape N S x5 x2) = 0 → (o_partOnTape N S x5 (f_proofOnTape N S x5 x2)) ∧ O_seal_90 N rok x1 x2 x3 x4 x5 x6 (f_proofOnTape N S x5 x2) (f_partOnTape N S x5 (f_proofOnTape N S x5 x2))))))))
set_option maxHeartbeats 4000000 in
theorem bb_seal_52 {G : zG} {E : rE} {S : rS} {N : Nat} {Q : Option Value → rS → Prop} {X : Nat × Int32 × Int32 × Int32 × Int32 × Int32 × rS → Prop} (hG : zOK G) (hX0 : ∀ (x1 : Int32) (x2 : Int32) (x3 : Int32) (x4 : Int32) (x5 : Int32) (S' : rS), X (0, x1, x2, x3, x4, x5, S') → rX G E dX12_seal mX12_seal 79 [some (.ref E.1), some (.int x1), some (.int x2), some (.int x3), some (.int x4), some (.int x5), none, none] [] S' Q) (hX1 : ∀ (x1 : Int32) (x2 : Int32) (x3 : Int32) (x4 : Int32) (x5 : Int32) (S' : rS), X (1, x1, x2, x3, x4, x5, S') → rX G E dX12_seal mX12_seal 103 [some (.ref E.1), some (.int x1), some (.int x2), some (.int x3), some (.int x4), some (.int x5), none, none] [] S' Q) {rec : Int32 → Int32 → Int32 → Int32 → Int32 → Int32 → rS → Nat × Int32 × Int32 × Int32 × Int32 × Int32 × rS} {rok : Int32 → Int32 → Int32 → Int32 → Int32 → Int32 → rS → Prop} (hrec : ∀ (x1 : Int32) (x2 : Int32) (x3 : Int32) (x4 : Int32) (x5 : Int32) (x6 : Int32) (S : rS), rok x1 x2 x3 x4 x5 x6 S → X (rec x1 x2 x3 x4 x5 x6 S) → rX G E dX12_seal mX12_seal 52 [some (.ref E.1), some (.int x1), some (.int x2), some (.int x3), some (.int x4), some (.int x5), some (.int x6), none] [] S Q) {x1 : Int32} {x2 : Int32} {x3 : Int32} {x4 : Int32} {x5 : Int32} {x6 : Int32} (ok : OB_seal_52 N rok x1 x2 x3 x4 x5 x6 S) (hx : X (B_seal_52 N rec x1 x2 x3 x4 x5 x6 S)) : rX G E dX12_seal mX12_seal 52 [some (.ref E.1), some (.int x1), some (.int x2), some (.int x3), some (.int x4), some (.int x5), some (.int x6), none] [] S Q := by
  unfold OB_seal_52 at ok
  unfold B_seal_52 at hx
  refine r_iload dX12_seal_52 rfl ?_
  refine r_iload dX12_seal_54 rfl ?_
  refine r_icmp_ge (tgt := 103) dX12_seal_56 (by decide) (fun c_56 => ?_) (fun c_56 => ?_)
  · have ok := ok.1 c_56
    have hx := xif_p c_56 hx
    exact rX.cutz (hX1 _ _ _ _ _ S hx) ⟨rfl, rfl, rfl, rfl, rfl, rfl, trivial⟩
  · have ok := ok.2 c_56
    have hx := xif_n c_56 hx
    refine r_iload dX12_seal_59 rfl ?_
    refine r_iconst (v := nI 2) dX12_seal_61 (by decide) ?_
    refine r_icmp_gt (tgt := 103) dX12_seal_62 (by decide) (fun c_62 => ?_) (fun c_62 => ?_)
    · have ok := ok.1 c_62
      have hx := xif_p c_62 hx
      exact rX.cutz (hX1 _ _ _ _ _ S hx) ⟨rfl, rfl, rfl, rfl, rfl, rfl, trivial⟩
    · have ok := ok.2 c_62
      have hx := xif_n c_62 hx
      refine r_aload_n dX12_seal_65 rfl rfl ?_
      refine r_iload dX12_seal_66 rfl ?_
      refine r_iload_n dX12_seal_68 rfl rfl ?_
      refine r_V2i (y' := mX12_proofOnTape) dX12_seal_69 lX12_143 kX12_proofOnTape ⟨by decide, by decide⟩ rfl (Nat.le_of_ble_eq_true rfl) (rc_X12_proofOnTape hG ok.1) (fun v_69 S_69 h_69 => ?_)
      obtain ⟨rfl, hS_69⟩ := h_69
      have hS_69 := hS_69.symm
      subst hS_69
      have ok := ok.2
      refine r_istore_7 dX12_seal_72 (by decide) rfl ?_
      refine r_iload dX12_seal_74 rfl ?_
      refine r_if_ne (tgt := 82) dX12_seal_76 (by decide) (fun c_76 => ?_) (fun c_76 => ?_)
      · have ok := ok.2 c_76
        have hx := xif_n c_76 hx
        refine r_aload_n dX12_seal_82 rfl rfl ?_
        refine r_iload dX12_seal_83 rfl ?_
        refine r_iload dX12_seal_85 rfl ?_
        refine r_V2v (y' := mX12_partOnTape) dX12_seal_87 lX12_146 kX12_partOnTape ⟨by decide, by decide⟩ rfl (Nat.le_of_ble_eq_true rfl) (rc_X12_partOnTape hG ok.1) (fun S_87 h_87 => ?_)
        subst h_87
        have ok := ok.2
        exact rX.cutz (b_seal_90 hG hX0 hX1 hrec ok hx) ⟨rfl, rfl, rfl, rfl, rfl, rfl, rfl, rfl, trivial⟩
      · have ok := ok.1 c_76
        have hx := xif_p c_76 hx
        exact rX.cutz (hX0 _ _ _ _ _ S hx) ⟨rfl, rfl, rfl, rfl, rfl, rfl, trivial⟩
def L_seal_52 (N : Nat) : Nat → Int32 → Int32 → Int32 → Int32 → Int32 → Int32 → rS → Nat × Int32 × Int32 × Int32 × Int32 × Int32 × rS
  | 0, x1, x2, x3, x4, x5, x6, S => (0, 0, 0, 0, 0, 0, S)
  | n + 1, x1, x2, x3, x4, x5, x6, S => B_seal_52 N (L_seal_52 N n) x1 x2 x3 x4 x5 x6 S
def OL_seal_52 (N : Nat) : Nat → Int32 → Int32 → Int32 → Int32 → Int32 → Int32 → rS → Prop
  | 0, _, _, _, _, _, _, _ => False
  | n + 1, x1, x2, x3, x4, x5, x6, S => OB_seal_52 N (OL_seal_52 N n) x1 x2 x3 x4 x5 x6 S
set_option maxHeartbeats 4000000 in
theorem l_seal_52 {G : zG} {E : rE} {N : Nat} {Q : Option Value → rS → Prop} {X : Nat × Int32 × Int32 × Int32 × Int32 × Int32 × rS → Prop} (hG : zOK G) (hX0 : ∀ (x1 : Int32) (x2 : Int32) (x3 : Int32) (x4 : Int32) (x5 : Int32) (S' : rS), X (0, x1, x2, x3, x4, x5, S') → rX G E dX12_seal mX12_seal 79 [some (.ref E.1), some (.int x1), some (.int x2), some (.int x3), some (.int x4), some (.int x5), none, none] [] S' Q) (hX1 : ∀ (x1 : Int32) (x2 : Int32) (x3 : Int32) (x4 : Int32) (x5 : Int32) (S' : rS), X (1, x1, x2, x3, x4, x5, S') → rX G E dX12_seal mX12_seal 103 [some (.ref E.1), some (.int x1), some (.int x2), some (.int x3), some (.int x4), some (.int x5), none, none] [] S' Q) : ∀ (n : Nat) (x1 : Int32) (x2 : Int32) (x3 : Int32) (x4 : Int32) (x5 : Int32) (x6 : Int32) (S : rS), OL_seal_52 N n x1 x2 x3 x4 x5 x6 S → X (L_seal_52 N n x1 x2 x3 x4 x5 x6 S) → rX G E dX12_seal mX12_seal 52 [some (.ref E.1), some (.int x1), some (.int x2), some (.int x3), some (.int x4), some (.int x5), some (.int x6), none] [] S Q := by
  intro n
  induction n with
  | zero => intro x1 x2 x3 x4 x5 x6 S ok; exact absurd ok id
  | succ n ih =>
    intro x1 x2 x3 x4 x5 x6 S ok hx
    exact bb_seal_52 hG hX0 hX1 (rec := L_seal_52 N n) (rok := OL_seal_52 N n) (fun x1 x2 x3 x4 x5 x6 S ok hx => ih x1 x2 x3 x4 x5 x6 S ok hx) ok hx
def A_seal_52 (N : Nat) (x1 : Int32) (x2 : Int32) (x3 : Int32) (x4 : Int32) (x5 : Int32) (x6 : Int32) (S : rS) (z : Nat × Int32 × Int32 × Int32 × Int32 × Int32 × rS) : Int32 × rS := (if z.1 = 0 then (F_seal_79 N (z.2.1) (z.2.2.1) (z.2.2.2.1) (z.2.2.2.2.1) (z.2.2.2.2.2.1) z.2.2.2.2.2.2) else (F_seal_103 N (z.2.1) (z.2.2.1) (z.2.2.2.1) (z.2.2.2.2.1) (z.2.2.2.2.2.1) z.2.2.2.2.2.2))
def OA_seal_52 (N : Nat) (x1 : Int32) (x2 : Int32) (x3 : Int32) (x4 : Int32) (x5 : Int32) (x6 : Int32) (S : rS) (z : Nat × Int32 × Int32 × Int32 × Int32 × Int32 × rS) : Prop := (if z.1 = 0 then O_seal_79 N (z.2.1) (z.2.2.1) (z.2.2.2.1) (z.2.2.2.2.1) (z.2.2.2.2.2.1) z.2.2.2.2.2.2 else O_seal_103 N (z.2.1) (z.2.2.1) (z.2.2.2.1) (z.2.2.2.2.1) (z.2.2.2.2.2.1) z.2.2.2.2.2.2)
set_option maxHeartbeats 4000000 in
theorem c_seal_52 {G : zG} {E : rE} {S : rS} {N : Nat} {Q : Option Value → rS → Prop} {X : Int32 × rS → Prop} (hG : zOK G) (hR : ∀ v S', X (v, S') → Q (some (.int v)) S') {x1 : Int32} {x2 : Int32} {x3 : Int32} {x4 : Int32} {x5 : Int32} {x6 : Int32} (ok : OL_seal_52 N N x1 x2 x3 x4 x5 x6 S ∧ OA_seal_52 N x1 x2 x3 x4 x5 x6 S (L_seal_52 N N x1 x2 x3 x4 x5 x6 S)) (hx : X (A_seal_52 N x1 x2 x3 x4 x5 x6 S (L_seal_52 N N x1 x2 x3 x4 x5 x6 S))) : rX G E dX12_seal mX12_seal 52 [some (.ref E.1), some (.int x1), some (.int x2), some (.int x3), some (.int x4), some (.int x5), some (.int x6), none] [] S Q := by
  refine l_seal_52 hG ?_ ?_ N x1 x2 x3 x4 x5 x6 S ok.1 (X := fun z => OA_seal_52 N x1 x2 x3 x4 x5 x6 S z ∧ X (A_seal_52 N x1 x2 x3 x4 x5 x6 S z)) ⟨ok.2, hx⟩
  · intro x1' x2' x3' x4' x5' S' hz
    obtain ⟨ok, hx⟩ := hz
    unfold OA_seal_52 at ok
    unfold A_seal_52 at hx
    have ok := xif_P (show (0 : Nat) = 0 from rfl) ok
    have hx := xif_p (show (0 : Nat) = 0 from rfl) hx
    exact rX.cutz (b_seal_79 hG hR ok hx) ⟨rfl, rfl, rfl, rfl, rfl, rfl, trivial⟩
  · intro x1' x2' x3' x4' x5' S' hz
    obtain ⟨ok, hx⟩ := hz
    unfold OA_seal_52 at ok
    unfold A_seal_52 at hx
    have ok := xif_N (show ¬ (1 : Nat) = 0 by decide) ok
    have hx := xif_n (show ¬ (1 : Nat) = 0 by decide) hx
    exact rX.cutz (b_seal_103 hG hR ok hx) ⟨rfl, rfl, rfl, rfl, rfl, rfl, trivial⟩
def F_seal_49 (N : Nat) (x1 : Int32) (x2 : Int32) (x3 : Int32) (x4 : Int32) (x5 : Int32) (S : rS) : Int32 × rS := (A_seal_52 N x1 x2 x3 x4 x5 (nI 0) S (L_seal_52 N N x1 x2 x3 x4 x5 (nI 0) S))
def O_seal_49 (N : Nat) (x1 : Int32) (x2 : Int32) (x3 : Int32) (x4 : Int32) (x5 : Int32) (S : rS) : Prop := (OL_seal_52 N N x1 x2 x3 x4 x5 (nI 0) S ∧ OA_seal_52 N x1 x2 x3 x4 x5 (nI 0) S (L_seal_52 N N x1 x2 x3 x4 x5 (nI 0) S))
set_option maxHeartbeats 4000000 in
theorem b_seal_49 {G : zG} {E : rE} {S : rS} {N : Nat} {Q : Option Value → rS → Prop} {X : Int32 × rS → Prop} (hG : zOK G) (hR : ∀ v S', X (v, S') → Q (some (.int v)) S') {x1 : Int32} {x2 : Int32} {x3 : Int32} {x4 : Int32} {x5 : Int32} (ok : O_seal_49 N x1 x2 x3 x4 x5 S) (hx : X (F_seal_49 N x1 x2 x3 x4 x5 S)) : rX G E dX12_seal mX12_seal 49 [some (.ref E.1), some (.int x1), some (.int x2), some (.int x3), some (.int x4), some (.int x5), none, none] [] S Q := by
  unfold O_seal_49 at ok
  unfold F_seal_49 at hx
  refine r_iconst (v := nI 0) dX12_seal_49 (by decide) ?_
  refine r_istore_6 dX12_seal_50 (by decide) rfl ?_
  exact rX.cutz (c_seal_52 hG hR ok hx) ⟨rfl, rfl, rfl, rfl, rfl, rfl, rfl, trivial⟩
def F_seal_26 (N : Nat)  (S : rS) : Int32 × rS := ((-1), S)
def O_seal_26 (N : Nat)  (S : rS) : Prop := True
set_option maxHeartbeats 4000000 in
theorem b_seal_26 {G : zG} {E : rE} {S : rS} {N : Nat} {Q : Option Value → rS → Prop} {X : Int32 × rS → Prop} (hG : zOK G) (hR : ∀ v S', X (v, S') → Q (some (.int v)) S') (ok : O_seal_26 N S) (hx : X (F_seal_26 N S)) : rX G E dX12_seal mX12_seal 26 [none, none, none, none, none, none, none, none] [] S Q := by
  unfold O_seal_26 at ok
  unfold F_seal_26 at hx
  refine r_iconst (v := -1) dX12_seal_26 (by decide) ?_
  exact r_ireturn rfl rfl dX12_seal_27 (hR _ _ hx)
def F_seal_0 (N : Nat) (x1 : Int32) (x2 : Int32) (x3 : Int32) (S : rS) : Int32 × rS := (if x1 < 0 then (F_seal_26 N S) else (if (S.1 22) < x2 then (F_seal_26 N S) else (if x2 < (nI 101) then (F_seal_26 N S) else (if x1 ≤ (x2 - (nI 101)) then (F_seal_49 N x1 x2 x3 (S.2.1 21 (x1 + (nI 100)).toNatClampNeg) (x1 + (nI 101)) (f_noParts N S)) else (F_seal_26 N S)))))
def O_seal_0 (N : Nat) (x1 : Int32) (x2 : Int32) (x3 : Int32) (S : rS) : Prop := ((x1 < 0 → O_seal_26 N S) ∧ (¬ x1 < 0 → (((S.1 22) < x2 → O_seal_26 N S) ∧ (¬ (S.1 22) < x2 → ((x2 < (nI 101) → O_seal_26 N S) ∧ (¬ x2 < (nI 101) → ((x1 ≤ (x2 - (nI 101)) → (vp_in (x1 + (nI 100)) 1000) ∧ (o_noParts N S) ∧ O_seal_49 N x1 x2 x3 (S.2.1 21 (x1 + (nI 100)).toNatClampNeg) (x1 + (nI 101)) (f_noParts N S)) ∧ (¬ x1 ≤ (x2 - (nI 101)) → O_seal_26 N S))))))))
set_option maxHeartbeats 4000000 in
theorem b_seal_0 {G : zG} {E : rE} {S : rS} {N : Nat} {Q : Option Value → rS → Prop} {X : Int32 × rS → Prop} (hG : zOK G) (hR : ∀ v S', X (v, S') → Q (some (.int v)) S') {x1 : Int32} {x2 : Int32} {x3 : Int32} (ok : O_seal_0 N x1 x2 x3 S) (hx : X (F_seal_0 N x1 x2 x3 S)) : rX G E dX12_seal mX12_seal 0 [some (.ref E.1), some (.int x1), some (.int x2), some (.int x3), none, none, none, none] [] S Q := by
  unfold O_seal_0 at ok
  unfold F_seal_0 at hx
  refine r_iload_n dX12_seal_0 rfl rfl ?_
  refine r_if_lt (tgt := 26) dX12_seal_1 (by decide) (fun c_1 => ?_) (fun c_1 => ?_)
  · have ok := ok.1 c_1
    have hx := xif_p c_1 hx
    exact rX.cutz (b_seal_26 hG hR ok hx) trivial
  · have ok := ok.2 c_1
    have hx := xif_n c_1 hx
    refine r_iload_n dX12_seal_4 rfl rfl ?_
    refine r_aload_n dX12_seal_5 rfl rfl ?_
    refine r_getI 22 fX12_133 (by decide) (by decide) dX12_seal_6 ?_
    refine r_icmp_gt (tgt := 26) dX12_seal_9 (by decide) (fun c_9 => ?_) (fun c_9 => ?_)
    · have ok := ok.1 c_9
      have hx := xif_p c_9 hx
      exact rX.cutz (b_seal_26 hG hR ok hx) trivial
    · have ok := ok.2 c_9
      have hx := xif_n c_9 hx
      refine r_iload_n dX12_seal_12 rfl rfl ?_
      refine r_bipush (v := nI 101) dX12_seal_13 (by decide) ?_
      refine r_icmp_lt (tgt := 26) dX12_seal_15 (by decide) (fun c_15 => ?_) (fun c_15 => ?_)
      · have ok := ok.1 c_15
        have hx := xif_p c_15 hx
        exact rX.cutz (b_seal_26 hG hR ok hx) trivial
      · have ok := ok.2 c_15
        have hx := xif_n c_15 hx
        refine r_iload_n dX12_seal_18 rfl rfl ?_
        refine r_iload_n dX12_seal_19 rfl rfl ?_
        refine r_bipush (v := nI 101) dX12_seal_20 (by decide) ?_
        refine r_isub dX12_seal_22 ?_
        refine r_icmp_le (tgt := 28) dX12_seal_23 (by decide) (fun c_23 => ?_) (fun c_23 => ?_)
        · have ok := ok.1 c_23
          have hx := xif_p c_23 hx
          refine r_aload_n dX12_seal_28 rfl rfl ?_
          refine r_getA 21 fX12_130 (by decide) (by decide) dX12_seal_29 ?_
          refine r_iload_n dX12_seal_32 rfl rfl ?_
          refine r_bipush (v := nI 100) dX12_seal_33 (by decide) ?_
          refine r_iadd dX12_seal_35 ?_
          refine r_iald (by decide) (by decide) dX12_seal_36 ok.1 ?_
          have ok := ok.2
          refine r_istore_4 dX12_seal_37 (by decide) rfl ?_
          refine r_iload_n dX12_seal_39 rfl rfl ?_
          refine r_bipush (v := nI 101) dX12_seal_40 (by decide) ?_
          refine r_iadd dX12_seal_42 ?_
          refine r_istore_5 dX12_seal_43 (by decide) rfl ?_
          refine r_aload_n dX12_seal_45 rfl rfl ?_
          refine r_V0v (y' := mX12_noParts) dX12_seal_46 lX12_112 kX12_noParts ⟨by decide, by decide⟩ rfl (Nat.le_of_ble_eq_true rfl) (rc_X12_noParts hG ok.1) (fun S_46 h_46 => ?_)
          subst h_46
          have ok := ok.2
          exact rX.cutz (b_seal_49 hG hR ok hx) ⟨rfl, rfl, rfl, rfl, rfl, rfl, trivial⟩
        · have ok := ok.2 c_23
          have hx := xif_n c_23 hx
          exact rX.cutz (b_seal_26 hG hR ok hx) trivial
def f_seal (N : Nat) (S : rS) (x1 : Int32) (x2 : Int32) (x3 : Int32) : Int32 × rS := F_seal_0 N x1 x2 x3 S
def o_seal (N : Nat) (S : rS) (x1 : Int32) (x2 : Int32) (x3 : Int32) : Prop := O_seal_0 N x1 x2 x3 S
set_option maxHeartbeats 4000000 in
theorem rc_X12_seal {G : zG} {E : rE} {S : rS} {N : Nat} (hG : zOK G) {x1 : Int32} {x2 : Int32} {x3 : Int32} (ok : o_seal N S x1 x2 x3) : rCi G E dX12_seal mX12_seal [.ref E.1, .int x1, .int x2, .int x3] S (fun v S' => v = (f_seal N S x1 x2 x3).1 ∧ S' = (f_seal N S x1 x2 x3).2) := by
  refine rC.ofX rfl (Nat.le_of_ble_eq_true rfl) ?_
  show rX G E dX12_seal mX12_seal 0 [some (.ref E.1), some (.int x1), some (.int x2), some (.int x3), none, none, none, none] [] S _
  exact rX.cutz (b_seal_0 (X := fun F => F = f_seal N S x1 x2 x3) hG (fun v S' h => ⟨v, rfl, by rw [← h], by rw [← h]⟩) ok rfl) ⟨rfl, rfl, rfl, rfl, trivial⟩
/-! isFlying -/
def F_isFlying_17 (N : Nat) (s0 : Int32) (S : rS) : Int32 := s0
def O_isFlying_17 (N : Nat) (s0 : Int32) (S : rS) : Prop := narrow .boolean (.int s0) = .int s0
set_option maxHeartbeats 4000000 in
theorem b_isFlying_17 {G : zG} {E : rE} {S : rS} {N : Nat} {Q : Option Value → rS → Prop} {X : Int32 → Prop} (hG : zOK G) (hR : ∀ v, X v → Q (some (.int v)) S) {s0 : Int32} (ok : O_isFlying_17 N s0 S) (hx : X (F_isFlying_17 N s0 S)) : rX G E dX12_isFlying mX12_isFlying 17 [none, none] [.int s0] S Q := by
  unfold O_isFlying_17 at ok
  unfold F_isFlying_17 at hx
  exact r_ireturn rfl ok dX12_isFlying_17 (hR _ hx)
def F_isFlying_16 (N : Nat)  (S : rS) : Int32 := (F_isFlying_17 N (nI 0) S)
def O_isFlying_16 (N : Nat)  (S : rS) : Prop := O_isFlying_17 N (nI 0) S
set_option maxHeartbeats 4000000 in
theorem b_isFlying_16 {G : zG} {E : rE} {S : rS} {N : Nat} {Q : Option Value → rS → Prop} {X : Int32 → Prop} (hG : zOK G) (hR : ∀ v, X v → Q (some (.int v)) S) (ok : O_isFlying_16 N S) (hx : X (F_isFlying_16 N S)) : rX G E dX12_isFlying mX12_isFlying 16 [none, none] [] S Q := by
  unfold O_isFlying_16 at ok
  unfold F_isFlying_16 at hx
  refine r_iconst (v := nI 0) dX12_isFlying_16 (by decide) ?_
  exact rX.cutz (b_isFlying_17 hG hR ok hx) trivial
def F_isFlying_0 (N : Nat) (x1 : Int32) (S : rS) : Int32 := (if x1 < 0 then (F_isFlying_16 N S) else (if (S.1 23) ≤ x1 then (F_isFlying_16 N S) else (F_isFlying_17 N (nI 1) S)))
def O_isFlying_0 (N : Nat) (x1 : Int32) (S : rS) : Prop := ((x1 < 0 → O_isFlying_16 N S) ∧ (¬ x1 < 0 → (((S.1 23) ≤ x1 → O_isFlying_16 N S) ∧ (¬ (S.1 23) ≤ x1 → O_isFlying_17 N (nI 1) S))))
set_option maxHeartbeats 4000000 in
theorem b_isFlying_0 {G : zG} {E : rE} {S : rS} {N : Nat} {Q : Option Value → rS → Prop} {X : Int32 → Prop} (hG : zOK G) (hR : ∀ v, X v → Q (some (.int v)) S) {x1 : Int32} (ok : O_isFlying_0 N x1 S) (hx : X (F_isFlying_0 N x1 S)) : rX G E dX12_isFlying mX12_isFlying 0 [some (.ref E.1), some (.int x1)] [] S Q := by
  unfold O_isFlying_0 at ok
  unfold F_isFlying_0 at hx
  refine r_iload_n dX12_isFlying_0 rfl rfl ?_
  refine r_if_lt (tgt := 16) dX12_isFlying_1 (by decide) (fun c_1 => ?_) (fun c_1 => ?_)
  · have ok := ok.1 c_1
    have hx := xif_p c_1 hx
    exact rX.cutz (b_isFlying_16 hG hR ok hx) trivial
  · have ok := ok.2 c_1
    have hx := xif_n c_1 hx
    refine r_iload_n dX12_isFlying_4 rfl rfl ?_
    refine r_aload_n dX12_isFlying_5 rfl rfl ?_
    refine r_getI 23 fX12_182 (by decide) (by decide) dX12_isFlying_6 ?_
    refine r_icmp_ge (tgt := 16) dX12_isFlying_9 (by decide) (fun c_9 => ?_) (fun c_9 => ?_)
    · have ok := ok.1 c_9
      have hx := xif_p c_9 hx
      exact rX.cutz (b_isFlying_16 hG hR ok hx) trivial
    · have ok := ok.2 c_9
      have hx := xif_n c_9 hx
      refine r_iconst (v := nI 1) dX12_isFlying_12 (by decide) ?_
      refine r_goto (tgt := 17) dX12_isFlying_13 (by decide) ?_
      exact rX.cutz (b_isFlying_17 hG hR ok hx) trivial
def f_isFlying (N : Nat) (S : rS) (x1 : Int32) : Int32 := F_isFlying_0 N x1 S
def o_isFlying (N : Nat) (S : rS) (x1 : Int32) : Prop := O_isFlying_0 N x1 S
set_option maxHeartbeats 4000000 in
theorem rc_X12_isFlying {G : zG} {E : rE} {S : rS} {N : Nat} (hG : zOK G) {x1 : Int32} (ok : o_isFlying N S x1) : rCi G E dX12_isFlying mX12_isFlying [.ref E.1, .int x1] S (fun v S' => v = f_isFlying N S x1 ∧ S' = S) := by
  refine rC.ofX rfl (Nat.le_of_ble_eq_true rfl) ?_
  show rX G E dX12_isFlying mX12_isFlying 0 [some (.ref E.1), some (.int x1)] [] S _
  exact rX.cutz (b_isFlying_0 (X := fun F => F = f_isFlying N S x1) hG (fun v h => ⟨v, rfl, h, rfl⟩) ok rfl) ⟨rfl, rfl, trivial⟩
/-! flyByte -/
def F_flyByte_0 (N : Nat) (x1 : Int32) (x2 : Int32) (S : rS) : Int32 := (f_byteIn N S (S.2.2 31 (((nI 125) * (S.2.1 24 x1.toNatClampNeg)) + (x2 / (nI 8))).toNatClampNeg) (x2 - x2 / (nI 8) * (nI 8)))
def O_flyByte_0 (N : Nat) (x1 : Int32) (x2 : Int32) (S : rS) : Prop := (vp_in x1 1000) ∧ (vp_in (((nI 125) * (S.2.1 24 x1.toNatClampNeg)) + (x2 / (nI 8))) 125000) ∧ (o_byteIn N S (S.2.2 31 (((nI 125) * (S.2.1 24 x1.toNatClampNeg)) + (x2 / (nI 8))).toNatClampNeg) (x2 - x2 / (nI 8) * (nI 8))) ∧ True
set_option maxHeartbeats 4000000 in
theorem b_flyByte_0 {G : zG} {E : rE} {S : rS} {N : Nat} {Q : Option Value → rS → Prop} {X : Int32 → Prop} (hG : zOK G) (hR : ∀ v, X v → Q (some (.int v)) S) {x1 : Int32} {x2 : Int32} (ok : O_flyByte_0 N x1 x2 S) (hx : X (F_flyByte_0 N x1 x2 S)) : rX G E dX12_flyByte mX12_flyByte 0 [some (.ref E.1), some (.int x1), some (.int x2)] [] S Q := by
  unfold O_flyByte_0 at ok
  unfold F_flyByte_0 at hx
  refine r_aload_n dX12_flyByte_0 rfl rfl ?_
  refine r_getA 31 fX12_179 (by decide) (by decide) dX12_flyByte_1 ?_
  refine r_bipush (v := nI 125) dX12_flyByte_4 (by decide) ?_
  refine r_aload_n dX12_flyByte_6 rfl rfl ?_
  refine r_getA 24 fX12_176 (by decide) (by decide) dX12_flyByte_7 ?_
  refine r_iload_n dX12_flyByte_10 rfl rfl ?_
  refine r_iald (by decide) (by decide) dX12_flyByte_11 ok.1 ?_
  have ok := ok.2
  refine r_imul dX12_flyByte_12 ?_
  refine r_iload_n dX12_flyByte_13 rfl rfl ?_
  refine r_bipush (v := nI 8) dX12_flyByte_14 (by decide) ?_
  refine r_idiv dX12_flyByte_16 (by decide) ?_
  refine r_iadd dX12_flyByte_17 ?_
  refine r_lald (by decide) (by decide) dX12_flyByte_18 ok.1 ?_
  have ok := ok.2
  refine r_iload_n dX12_flyByte_19 rfl rfl ?_
  refine r_bipush (v := nI 8) dX12_flyByte_20 (by decide) ?_
  refine r_irem dX12_flyByte_22 (by decide) ?_
  refine r_S2i (y' := mX12_byteIn) dX12_flyByte_23 lX12_49 kX12_byteIn ⟨by decide, by decide⟩ (Nat.le_of_ble_eq_true rfl) (rc_X12_byteIn hG ok.1) (fun v_23 S_23 h_23 => ?_)
  obtain ⟨rfl, hS_23⟩ := h_23
  have hS_23 := hS_23.symm
  subst hS_23
  have ok := ok.2
  exact r_ireturn rfl rfl dX12_flyByte_26 (hR _ hx)
def f_flyByte (N : Nat) (S : rS) (x1 : Int32) (x2 : Int32) : Int32 := F_flyByte_0 N x1 x2 S
def o_flyByte (N : Nat) (S : rS) (x1 : Int32) (x2 : Int32) : Prop := O_flyByte_0 N x1 x2 S
set_option maxHeartbeats 4000000 in
theorem rc_X12_flyByte {G : zG} {E : rE} {S : rS} {N : Nat} (hG : zOK G) {x1 : Int32} {x2 : Int32} (ok : o_flyByte N S x1 x2) : rCi G E dX12_flyByte mX12_flyByte [.ref E.1, .int x1, .int x2] S (fun v S' => v = f_flyByte N S x1 x2 ∧ S' = S) := by
  refine rC.ofX rfl (Nat.le_of_ble_eq_true rfl) ?_
  show rX G E dX12_flyByte mX12_flyByte 0 [some (.ref E.1), some (.int x1), some (.int x2)] [] S _
  exact rX.cutz (b_flyByte_0 (X := fun F => F = f_flyByte N S x1 x2) hG (fun v h => ⟨v, rfl, h, rfl⟩) ok rfl) ⟨rfl, rfl, rfl, trivial⟩

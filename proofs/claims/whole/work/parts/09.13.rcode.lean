/-! writeProposal -/
def F_writeProposal_26 (N : Nat) (x5 : Int32) (S : rS) : rS := (f_writeBlock N S x5)
def O_writeProposal_26 (N : Nat) (x5 : Int32) (S : rS) : Prop := (o_writeBlock N S x5) ∧ True
set_option maxHeartbeats 4000000 in
theorem b_writeProposal_26 {G : zG} {E : rE} {S : rS} {N : Nat} {Q : Option Value → rS → Prop} {X : rS → Prop} (hG : zOK G) (hR : ∀ S', X S' → Q none S') {x5 : Int32} (ok : O_writeProposal_26 N x5 S) (hx : X (F_writeProposal_26 N x5 S)) : rX G E dX12_writeProposal mX12_writeProposal 26 [some (.ref E.1), none, none, none, none, some (.int x5)] [] S Q := by
  unfold O_writeProposal_26 at ok
  unfold F_writeProposal_26 at hx
  refine r_aload_n dX12_writeProposal_26 rfl rfl ?_
  refine r_iload dX12_writeProposal_27 rfl ?_
  refine r_V1v (y' := mX12_writeBlock) dX12_writeProposal_29 lX12_524 kX12_writeBlock ⟨by decide, by decide⟩ rfl (Nat.le_of_ble_eq_true rfl) (rc_X12_writeBlock hG ok.1) (fun S_29 h_29 => ?_)
  subst h_29
  have ok := ok.2
  exact r_return rfl dX12_writeProposal_32 (hR _ hx)
def F_writeProposal_23 (N : Nat) (x5 : Int32) (s1 : Int32) (S : rS) : rS := (F_writeProposal_26 N x5 (f_write N S s1))
def O_writeProposal_23 (N : Nat) (x5 : Int32) (s1 : Int32) (S : rS) : Prop := (o_write N S s1) ∧ O_writeProposal_26 N x5 (f_write N S s1)
set_option maxHeartbeats 4000000 in
theorem b_writeProposal_23 {G : zG} {E : rE} {S : rS} {N : Nat} {Q : Option Value → rS → Prop} {X : rS → Prop} (hG : zOK G) (hR : ∀ S', X S' → Q none S') {x5 : Int32} {s1 : Int32} (ok : O_writeProposal_23 N x5 s1 S) (hx : X (F_writeProposal_23 N x5 s1 S)) : rX G E dX12_writeProposal mX12_writeProposal 23 [some (.ref E.1), none, none, none, none, some (.int x5)] [.int s1, .ref E.1] S Q := by
  unfold O_writeProposal_23 at ok
  unfold F_writeProposal_23 at hx
  refine r_V1v (y' := mX12_write) dX12_writeProposal_23 lX12_226 kX12_write ⟨by decide, by decide⟩ rfl (Nat.le_of_ble_eq_true rfl) (rc_X12_write hG ok.1) (fun S_23 h_23 => ?_)
  subst h_23
  have ok := ok.2
  exact rX.cutz (b_writeProposal_26 hG hR ok hx) ⟨rfl, rfl, trivial⟩
def F_writeProposal_8 (N : Nat) (x4 : Int32) (x5 : Int32) (S : rS) : rS := (if x4 = (-1) then (F_writeProposal_23 N x5 (nI 255) S) else (F_writeProposal_23 N x5 x4 S))
def O_writeProposal_8 (N : Nat) (x4 : Int32) (x5 : Int32) (S : rS) : Prop := ((x4 = (-1) → O_writeProposal_23 N x5 (nI 255) S) ∧ (¬ x4 = (-1) → O_writeProposal_23 N x5 x4 S))
set_option maxHeartbeats 4000000 in
theorem b_writeProposal_8 {G : zG} {E : rE} {S : rS} {N : Nat} {Q : Option Value → rS → Prop} {X : rS → Prop} (hG : zOK G) (hR : ∀ S', X S' → Q none S') {x4 : Int32} {x5 : Int32} (ok : O_writeProposal_8 N x4 x5 S) (hx : X (F_writeProposal_8 N x4 x5 S)) : rX G E dX12_writeProposal mX12_writeProposal 8 [some (.ref E.1), none, none, none, some (.int x4), some (.int x5)] [] S Q := by
  unfold O_writeProposal_8 at ok
  unfold F_writeProposal_8 at hx
  refine r_aload_n dX12_writeProposal_8 rfl rfl ?_
  refine r_iload dX12_writeProposal_9 rfl ?_
  refine r_iconst (v := -1) dX12_writeProposal_11 (by decide) ?_
  refine r_icmp_ne (tgt := 21) dX12_writeProposal_12 (by decide) (fun c_12 => ?_) (fun c_12 => ?_)
  · have ok := ok.2 c_12
    have hx := xif_n c_12 hx
    refine r_iload dX12_writeProposal_21 rfl ?_
    exact rX.cutz (b_writeProposal_23 hG hR ok hx) ⟨rfl, rfl, trivial⟩
  · have ok := ok.1 c_12
    have hx := xif_p c_12 hx
    refine r_sipush (v := nI 255) dX12_writeProposal_15 (by decide) ?_
    refine r_goto (tgt := 23) dX12_writeProposal_18 (by decide) ?_
    exact rX.cutz (b_writeProposal_23 hG hR ok hx) ⟨rfl, rfl, trivial⟩
def F_writeProposal_0 (N : Nat) (x1 : Int32) (x2 : Int32) (x3 : Int32) (x4 : Int32) (x5 : Int32) (S : rS) : rS := (F_writeProposal_8 N x4 x5 (f_writeHead N S (nI 1) x1 x2 x3))
def O_writeProposal_0 (N : Nat) (x1 : Int32) (x2 : Int32) (x3 : Int32) (x4 : Int32) (x5 : Int32) (S : rS) : Prop := (o_writeHead N S (nI 1) x1 x2 x3) ∧ O_writeProposal_8 N x4 x5 (f_writeHead N S (nI 1) x1 x2 x3)
set_option maxHeartbeats 4000000 in
theorem b_writeProposal_0 {G : zG} {E : rE} {S : rS} {N : Nat} {Q : Option Value → rS → Prop} {X : rS → Prop} (hG : zOK G) (hR : ∀ S', X S' → Q none S') {x1 : Int32} {x2 : Int32} {x3 : Int32} {x4 : Int32} {x5 : Int32} (ok : O_writeProposal_0 N x1 x2 x3 x4 x5 S) (hx : X (F_writeProposal_0 N x1 x2 x3 x4 x5 S)) : rX G E dX12_writeProposal mX12_writeProposal 0 [some (.ref E.1), some (.int x1), some (.int x2), some (.int x3), some (.int x4), some (.int x5)] [] S Q := by
  unfold O_writeProposal_0 at ok
  unfold F_writeProposal_0 at hx
  refine r_aload_n dX12_writeProposal_0 rfl rfl ?_
  refine r_iconst (v := nI 1) dX12_writeProposal_1 (by decide) ?_
  refine r_iload_n dX12_writeProposal_2 rfl rfl ?_
  refine r_iload_n dX12_writeProposal_3 rfl rfl ?_
  refine r_iload_n dX12_writeProposal_4 rfl rfl ?_
  refine r_V4v (y' := mX12_writeHead) dX12_writeProposal_5 lX12_520 kX12_writeHead ⟨by decide, by decide⟩ rfl (Nat.le_of_ble_eq_true rfl) (rc_X12_writeHead hG ok.1) (fun S_5 h_5 => ?_)
  subst h_5
  have ok := ok.2
  exact rX.cutz (b_writeProposal_8 hG hR ok hx) ⟨rfl, rfl, rfl, trivial⟩
def f_writeProposal (N : Nat) (S : rS) (x1 : Int32) (x2 : Int32) (x3 : Int32) (x4 : Int32) (x5 : Int32) : rS := F_writeProposal_0 N x1 x2 x3 x4 x5 S
def o_writeProposal (N : Nat) (S : rS) (x1 : Int32) (x2 : Int32) (x3 : Int32) (x4 : Int32) (x5 : Int32) : Prop := O_writeProposal_0 N x1 x2 x3 x4 x5 S
set_option maxHeartbeats 4000000 in
theorem rc_X12_writeProposal {G : zG} {E : rE} {S : rS} {N : Nat} (hG : zOK G) {x1 : Int32} {x2 : Int32} {x3 : Int32} {x4 : Int32} {x5 : Int32} (ok : o_writeProposal N S x1 x2 x3 x4 x5) : rCv G E dX12_writeProposal mX12_writeProposal [.ref E.1, .int x1, .int x2, .int x3, .int x4, .int x5] S (fun S' => S' = f_writeProposal N S x1 x2 x3 x4 x5) := by
  refine rC.ofX rfl (Nat.le_of_ble_eq_true rfl) ?_
  show rX G E dX12_writeProposal mX12_writeProposal 0 [some (.ref E.1), some (.int x1), some (.int x2), some (.int x3), some (.int x4), some (.int x5)] [] S _
  exact rX.cutz (b_writeProposal_0 (X := fun F => F = f_writeProposal N S x1 x2 x3 x4 x5) hG (fun S' h => ⟨rfl, h⟩) ok rfl) ⟨rfl, rfl, rfl, rfl, rfl, rfl, trivial⟩
/-! writeId -/
def F_writeId_69 (N : Nat)  (S : rS) : rS := S
def O_writeId_69 (N : Nat)  (S : rS) : Prop := True
set_option maxHeartbeats 4000000 in
theorem b_writeId_69 {G : zG} {E : rE} {S : rS} {N : Nat} {Q : Option Value → rS → Prop} {X : rS → Prop} (hG : zOK G) (hR : ∀ S', X S' → Q none S') (ok : O_writeId_69 N S) (hx : X (F_writeId_69 N S)) : rX G E dX12_writeId mX12_writeId 69 [none, none, none, none, none, none, none, none, none, none] [] S Q := by
  unfold O_writeId_69 at ok
  unfold F_writeId_69 at hx
  exact r_return rfl dX12_writeId_69 (hR _ hx)
def F_writeId_63 (N : Nat) (rec : Int64 → Int64 → Int64 → Int64 → Int32 → rS → Nat × rS) (x1 : Int64) (x3 : Int64) (x5 : Int64) (x7 : Int64) (x9 : Int32) (S : rS) : Nat × rS := (rec x1 x3 x5 x7 (x9 + nI 1) S)
def O_writeId_63 (N : Nat) (rok : Int64 → Int64 → Int64 → Int64 → Int32 → rS → Prop) (x1 : Int64) (x3 : Int64) (x5 : Int64) (x7 : Int64) (x9 : Int32) (S : rS) : Prop := rok x1 x3 x5 x7 (x9 + nI 1) S
set_option maxHeartbeats 4000000 in
theorem b_writeId_63 {G : zG} {E : rE} {S : rS} {N : Nat} {Q : Option Value → rS → Prop} {X : Nat × rS → Prop} (hG : zOK G) (hX0 : ∀ (S' : rS), X (0, S') → rX G E dX12_writeId mX12_writeId 69 [none, none, none, none, none, none, none, none, none, none] [] S' Q) {rec : Int64 → Int64 → Int64 → Int64 → Int32 → rS → Nat × rS} {rok : Int64 → Int64 → Int64 → Int64 → Int32 → rS → Prop} (hrec : ∀ (x1 : Int64) (x3 : Int64) (x5 : Int64) (x7 : Int64) (x9 : Int32) (S : rS), rok x1 x3 x5 x7 x9 S → X (rec x1 x3 x5 x7 x9 S) → rX G E dX12_writeId mX12_writeId 8 [some (.ref E.1), some (.long x1), none, some (.long x3), none, some (.long x5), none, some (.long x7), none, some (.int x9)] [] S Q) {x1 : Int64} {x3 : Int64} {x5 : Int64} {x7 : Int64} {x9 : Int32} (ok : O_writeId_63 N rok x1 x3 x5 x7 x9 S) (hx : X (F_writeId_63 N rec x1 x3 x5 x7 x9 S)) : rX G E dX12_writeId mX12_writeId 63 [some (.ref E.1), some (.long x1), none, some (.long x3), none, some (.long x5), none, some (.long x7), none, some (.int x9)] [] S Q := by
  unfold O_writeId_63 at ok
  unfold F_writeId_63 at hx
  refine r_iinc_9 (v := (x9 + nI 1)) dX12_writeId_63 rfl (by first | rfl | (congr 1)) (by decide) rfl ?_
  refine r_goto (tgt := 8) dX12_writeId_66 (by decide) ?_
  exact rX.cutz (hrec _ _ _ _ _ S ok hx) ⟨rfl, rfl, rfl, rfl, rfl, rfl, trivial⟩
def F_writeId_52 (N : Nat) (rec : Int64 → Int64 → Int64 → Int64 → Int32 → rS → Nat × rS) (x1 : Int64) (x3 : Int64) (x5 : Int64) (x7 : Int64) (x9 : Int32) (s1 : Int64) (S : rS) : Nat × rS := (F_writeId_63 N rec x1 x3 x5 x7 x9 (f_write N S (f_byteIn N S s1 (x9 - x9 / (nI 8) * (nI 8)))))
def O_writeId_52 (N : Nat) (rok : Int64 → Int64 → Int64 → Int64 → Int32 → rS → Prop) (x1 : Int64) (x3 : Int64) (x5 : Int64) (x7 : Int64) (x9 : Int32) (s1 : Int64) (S : rS) : Prop := (o_byteIn N S s1 (x9 - x9 / (nI 8) * (nI 8))) ∧ (o_write N S (f_byteIn N S s1 (x9 - x9 / (nI 8) * (nI 8)))) ∧ O_writeId_63 N rok x1 x3 x5 x7 x9 (f_write N S (f_byteIn N S s1 (x9 - x9 / (nI 8) * (nI 8))))
set_option maxHeartbeats 4000000 in
theorem b_writeId_52 {G : zG} {E : rE} {S : rS} {N : Nat} {Q : Option Value → rS → Prop} {X : Nat × rS → Prop} (hG : zOK G) (hX0 : ∀ (S' : rS), X (0, S') → rX G E dX12_writeId mX12_writeId 69 [none, none, none, none, none, none, none, none, none, none] [] S' Q) {rec : Int64 → Int64 → Int64 → Int64 → Int32 → rS → Nat × rS} {rok : Int64 → Int64 → Int64 → Int64 → Int32 → rS → Prop} (hrec : ∀ (x1 : Int64) (x3 : Int64) (x5 : Int64) (x7 : Int64) (x9 : Int32) (S : rS), rok x1 x3 x5 x7 x9 S → X (rec x1 x3 x5 x7 x9 S) → rX G E dX12_writeId mX12_writeId 8 [some (.ref E.1), some (.long x1), none, some (.long x3), none, some (.long x5), none, some (.long x7), none, some (.int x9)] [] S Q) {x1 : Int64} {x3 : Int64} {x5 : Int64} {x7 : Int64} {x9 : Int32} {s1 : Int64} (ok : O_writeId_52 N rok x1 x3 x5 x7 x9 s1 S) (hx : X (F_writeId_52 N rec x1 x3 x5 x7 x9 s1 S)) : rX G E dX12_writeId mX12_writeId 52 [some (.ref E.1), some (.long x1), none, some (.long x3), none, some (.long x5), none, some (.long x7), none, some (.int x9)] [.long s1, .ref E.1] S Q := by
  unfold O_writeId_52 at ok
  unfold F_writeId_52 at hx
  refine r_iload dX12_writeId_52 rfl ?_
  refine r_bipush (v := nI 8) dX12_writeId_54 (by decide) ?_
  refine r_irem dX12_writeId_56 (by decide) ?_
  refine r_S2i (y' := mX12_byteIn) dX12_writeId_57 lX12_49 kX12_byteIn ⟨by decide, by decide⟩ (Nat.le_of_ble_eq_true rfl) (rc_X12_byteIn hG ok.1) (fun v_57 S_57 h_57 => ?_)
  obtain ⟨rfl, hS_57⟩ := h_57
  have hS_57 := hS_57.symm
  subst hS_57
  have ok := ok.2
  refine r_V1v (y' := mX12_write) dX12_writeId_60 lX12_226 kX12_write ⟨by decide, by decide⟩ rfl (Nat.le_of_ble_eq_true rfl) (rc_X12_write hG ok.1) (fun S_60 h_60 => ?_)
  subst h_60
  have ok := ok.2
  exact rX.cutz (b_writeId_63 hG hX0 hrec ok hx) ⟨rfl, rfl, rfl, rfl, rfl, rfl, trivial⟩
def B_writeId_8 (N : Nat) (rec : Int64 → Int64 → Int64 → Int64 → Int32 → rS → Nat × rS) (x1 : Int64) (x3 : Int64) (x5 : Int64) (x7 : Int64) (x9 : Int32) (S : rS) : Nat × rS := (if (nI 32) ≤ x9 then (0, S) else (if (nI 8) ≤ x9 then (if (nI 16) ≤ x9 then (if (nI 24) ≤ x9 then (F_writeId_52 N rec x1 x3 x5 x7 x9 x7 S) else (F_writeId_52 N rec x1 x3 x5 x7 x9 x5 S)) else (F_writeId_52 N rec x1 x3 x5 x7 x9 x3 S)) else (F_writeId_52 N rec x1 x3 x5 x7 x9 x1 S)))
def OB_writeId_8 (N : Nat) (rok : Int64 → Int64 → Int64 → Int64 → Int32 → rS → Prop) (x1 : Int64) (x3 : Int64) (x5 : Int64) (x7 : Int64) (x9 : Int32) (S : rS) : Prop := (((nI 32) ≤ x9 → True) ∧ (¬ (nI 32) ≤ x9 → (((nI 8) ≤ x9 → (((nI 16) ≤ x9 → (((nI 24) ≤ x9 → O_writeId_52 N rok x1 x3 x5 x7 x9 x7 S) ∧ (¬ (nI 24) ≤ x9 → O_writeId_52 N rok x1 x3 x5 x7 x9 x5 S))) ∧ (¬ (nI 16) ≤ x9 → O_writeId_52 N rok x1 x3 x5 x7 x9 x3 S))) ∧ (¬ (nI 8) ≤ x9 → O_writeId_52 N rok x1 x3 x5 x7 x9 x1 S))))
set_option maxHeartbeats 4000000 in
theorem bb_writeId_8 {G : zG} {E : rE} {S : rS} {N : Nat} {Q : Option Value → rS → Prop} {X : Nat × rS → Prop} (hG : zOK G) (hX0 : ∀ (S' : rS), X (0, S') → rX G E dX12_writeId mX12_writeId 69 [none, none, none, none, none, none, none, none, none, none] [] S' Q) {rec : Int64 → Int64 → Int64 → Int64 → Int32 → rS → Nat × rS} {rok : Int64 → Int64 → Int64 → Int64 → Int32 → rS → Prop} (hrec : ∀ (x1 : Int64) (x3 : Int64) (x5 : Int64) (x7 : Int64) (x9 : Int32) (S : rS), rok x1 x3 x5 x7 x9 S → X (rec x1 x3 x5 x7 x9 S) → rX G E dX12_writeId mX12_writeId 8 [some (.ref E.1), some (.long x1), none, some (.long x3), none, some (.long x5), none, some (.long x7), none, some (.int x9)] [] S Q) {x1 : Int64} {x3 : Int64} {x5 : Int64} {x7 : Int64} {x9 : Int32} (ok : OB_writeId_8 N rok x1 x3 x5 x7 x9 S) (hx : X (B_writeId_8 N rec x1 x3 x5 x7 x9 S)) : rX G E dX12_writeId mX12_writeId 8 [some (.ref E.1), some (.long x1), none, some (.long x3), none, some (.long x5), none, some (.long x7), none, some (.int x9)] [] S Q := by
  unfold OB_writeId_8 at ok
  unfold B_writeId_8 at hx
  refine r_iload dX12_writeId_8 rfl ?_
  refine r_bipush (v := nI 32) dX12_writeId_10 (by decide) ?_
  refine r_icmp_ge (tgt := 69) dX12_writeId_12 (by decide) (fun c_12 => ?_) (fun c_12 => ?_)
  · have ok := ok.1 c_12
    have hx := xif_p c_12 hx
    exact rX.cutz (hX0 S hx) trivial
  · have ok := ok.2 c_12
    have hx := xif_n c_12 hx
    refine r_aload_n dX12_writeId_15 rfl rfl ?_
    refine r_iload dX12_writeId_16 rfl ?_
    refine r_bipush (v := nI 8) dX12_writeId_18 (by decide) ?_
    refine r_icmp_ge (tgt := 27) dX12_writeId_20 (by decide) (fun c_20 => ?_) (fun c_20 => ?_)
    · have ok := ok.1 c_20
      have hx := xif_p c_20 hx
      refine r_iload dX12_writeId_27 rfl ?_
      refine r_bipush (v := nI 16) dX12_writeId_29 (by decide) ?_
      refine r_icmp_ge (tgt := 38) dX12_writeId_31 (by decide) (fun c_31 => ?_) (fun c_31 => ?_)
      · have ok := ok.1 c_31
        have hx := xif_p c_31 hx
        refine r_iload dX12_writeId_38 rfl ?_
        refine r_bipush (v := nI 24) dX12_writeId_40 (by decide) ?_
        refine r_icmp_ge (tgt := 50) dX12_writeId_42 (by decide) (fun c_42 => ?_) (fun c_42 => ?_)
        · have ok := ok.1 c_42
          have hx := xif_p c_42 hx
          refine r_lload dX12_writeId_50 rfl ?_
          exact rX.cutz (b_writeId_52 hG hX0 hrec ok hx) ⟨rfl, rfl, rfl, rfl, rfl, rfl, trivial⟩
        · have ok := ok.2 c_42
          have hx := xif_n c_42 hx
          refine r_lload dX12_writeId_45 rfl ?_
          refine r_goto (tgt := 52) dX12_writeId_47 (by decide) ?_
          exact rX.cutz (b_writeId_52 hG hX0 hrec ok hx) ⟨rfl, rfl, rfl, rfl, rfl, rfl, trivial⟩
      · have ok := ok.2 c_31
        have hx := xif_n c_31 hx
        refine r_lload_n dX12_writeId_34 rfl rfl ?_
        refine r_goto (tgt := 52) dX12_writeId_35 (by decide) ?_
        exact rX.cutz (b_writeId_52 hG hX0 hrec ok hx) ⟨rfl, rfl, rfl, rfl, rfl, rfl, trivial⟩
    · have ok := ok.2 c_20
      have hx := xif_n c_20 hx
      refine r_lload_n dX12_writeId_23 rfl rfl ?_
      refine r_goto (tgt := 52) dX12_writeId_24 (by decide) ?_
      exact rX.cutz (b_writeId_52 hG hX0 hrec ok hx) ⟨rfl, rfl, rfl, rfl, rfl, rfl, trivial⟩
def L_writeId_8 (N : Nat) : Nat → Int64 → Int64 → Int64 → Int64 → Int32 → rS → Nat × rS
  | 0, x1, x3, x5, x7, x9, S => (0, S)
  | n + 1, x1, x3, x5, x7, x9, S => B_writeId_8 N (L_writeId_8 N n) x1 x3 x5 x7 x9 S
def OL_writeId_8 (N : Nat) : Nat → Int64 → Int64 → Int64 → Int64 → Int32 → rS → Prop
  | 0, _, _, _, _, _, _ => False
  | n + 1, x1, x3, x5, x7, x9, S => OB_writeId_8 N (OL_writeId_8 N n) x1 x3 x5 x7 x9 S
set_option maxHeartbeats 4000000 in
theorem l_writeId_8 {G : zG} {E : rE} {N : Nat} {Q : Option Value → rS → Prop} {X : Nat × rS → Prop} (hG : zOK G) (hX0 : ∀ (S' : rS), X (0, S') → rX G E dX12_writeId mX12_writeId 69 [none, none, none, none, none, none, none, none, none, none] [] S' Q) : ∀ (n : Nat) (x1 : Int64) (x3 : Int64) (x5 : Int64) (x7 : Int64) (x9 : Int32) (S : rS), OL_writeId_8 N n x1 x3 x5 x7 x9 S → X (L_writeId_8 N n x1 x3 x5 x7 x9 S) → rX G E dX12_writeId mX12_writeId 8 [some (.ref E.1), some (.long x1), none, some (.long x3), none, some (.long x5), none, some (.long x7), none, some (.int x9)] [] S Q := by
  intro n
  induction n with
  | zero => intro x1 x3 x5 x7 x9 S ok; exact absurd ok id
  | succ n ih =>
    intro x1 x3 x5 x7 x9 S ok hx
    exact bb_writeId_8 hG hX0 (rec := L_writeId_8 N n) (rok := OL_writeId_8 N n) (fun x1 x3 x5 x7 x9 S ok hx => ih x1 x3 x5 x7 x9 S ok hx) ok hx
def A_writeId_8 (N : Nat) (x1 : Int64) (x3 : Int64) (x5 : Int64) (x7 : Int64) (x9 : Int32) (S : rS) (z : Nat × rS) : rS := (F_writeId_69 N z.2)
def OA_writeId_8 (N : Nat) (x1 : Int64) (x3 : Int64) (x5 : Int64) (x7 : Int64) (x9 : Int32) (S : rS) (z : Nat × rS) : Prop := O_writeId_69 N z.2
set_option maxHeartbeats 4000000 in
theorem c_writeId_8 {G : zG} {E : rE} {S : rS} {N : Nat} {Q : Option Value → rS → Prop} {X : rS → Prop} (hG : zOK G) (hR : ∀ S', X S' → Q none S') {x1 : Int64} {x3 : Int64} {x5 : Int64} {x7 : Int64} {x9 : Int32} (ok : OL_writeId_8 N N x1 x3 x5 x7 x9 S ∧ OA_writeId_8 N x1 x3 x5 x7 x9 S (L_writeId_8 N N x1 x3 x5 x7 x9 S)) (hx : X (A_writeId_8 N x1 x3 x5 x7 x9 S (L_writeId_8 N N x1 x3 x5 x7 x9 S))) : rX G E dX12_writeId mX12_writeId 8 [some (.ref E.1), some (.long x1), none, some (.long x3), none, some (.long x5), none, some (.long x7), none, some (.int x9)] [] S Q := by
  refine l_writeId_8 hG ?_ N x1 x3 x5 x7 x9 S ok.1 (X := fun z => OA_writeId_8 N x1 x3 x5 x7 x9 S z ∧ X (A_writeId_8 N x1 x3 x5 x7 x9 S z)) ⟨ok.2, hx⟩
  · intro S' hz
    obtain ⟨ok, hx⟩ := hz
    unfold OA_writeId_8 at ok
    unfold A_writeId_8 at hx
    exact rX.cutz (b_writeId_69 hG hR ok hx) trivial
def F_writeId_5 (N : Nat) (x1 : Int64) (x3 : Int64) (x5 : Int64) (x7 : Int64) (S : rS) : rS := (A_writeId_8 N x1 x3 x5 x7 (nI 0) S (L_writeId_8 N N x1 x3 x5 x7 (nI 0) S))
def O_writeId_5 (N : Nat) (x1 : Int64) (x3 : Int64) (x5 : Int64) (x7 : Int64) (S : rS) : Prop := (OL_writeId_8 N N x1 x3 x5 x7 (nI 0) S ∧ OA_writeId_8 N x1 x3 x5 x7 (nI 0) S (L_writeId_8 N N x1 x3 x5 x7 (nI 0) S))
set_option maxHeartbeats 4000000 in
theorem b_writeId_5 {G : zG} {E : rE} {S : rS} {N : Nat} {Q : Option Value → rS → Prop} {X : rS → Prop} (hG : zOK G) (hR : ∀ S', X S' → Q none S') {x1 : Int64} {x3 : Int64} {x5 : Int64} {x7 : Int64} (ok : O_writeId_5 N x1 x3 x5 x7 S) (hx : X (F_writeId_5 N x1 x3 x5 x7 S)) : rX G E dX12_writeId mX12_writeId 5 [some (.ref E.1), some (.long x1), none, some (.long x3), none, some (.long x5), none, some (.long x7), none, none] [] S Q := by
  unfold O_writeId_5 at ok
  unfold F_writeId_5 at hx
  refine r_iconst (v := nI 0) dX12_writeId_5 (by decide) ?_
  refine r_istore_9 dX12_writeId_6 (by decide) rfl ?_
  exact rX.cutz (c_writeId_8 hG hR ok hx) ⟨rfl, rfl, rfl, rfl, rfl, rfl, trivial⟩
def F_writeId_0 (N : Nat) (x1 : Int64) (x3 : Int64) (x5 : Int64) (x7 : Int64) (S : rS) : rS := (F_writeId_5 N x1 x3 x5 x7 (f_write N S (nI 1)))
def O_writeId_0 (N : Nat) (x1 : Int64) (x3 : Int64) (x5 : Int64) (x7 : Int64) (S : rS) : Prop := (o_write N S (nI 1)) ∧ O_writeId_5 N x1 x3 x5 x7 (f_write N S (nI 1))
set_option maxHeartbeats 4000000 in
theorem b_writeId_0 {G : zG} {E : rE} {S : rS} {N : Nat} {Q : Option Value → rS → Prop} {X : rS → Prop} (hG : zOK G) (hR : ∀ S', X S' → Q none S') {x1 : Int64} {x3 : Int64} {x5 : Int64} {x7 : Int64} (ok : O_writeId_0 N x1 x3 x5 x7 S) (hx : X (F_writeId_0 N x1 x3 x5 x7 S)) : rX G E dX12_writeId mX12_writeId 0 [some (.ref E.1), some (.long x1), none, some (.long x3), none, some (.long x5), none, some (.long x7), none, none] [] S Q := by
  unfold O_writeId_0 at ok
  unfold F_writeId_0 at hx
  refine r_aload_n dX12_writeId_0 rfl rfl ?_
  refine r_iconst (v := nI 1) dX12_writeId_1 (by decide) ?_
  refine r_V1v (y' := mX12_write) dX12_writeId_2 lX12_226 kX12_write ⟨by decide, by decide⟩ rfl (Nat.le_of_ble_eq_true rfl) (rc_X12_write hG ok.1) (fun S_2 h_2 => ?_)
  subst h_2
  have ok := ok.2
  exact rX.cutz (b_writeId_5 hG hR ok hx) ⟨rfl, rfl, rfl, rfl, rfl, trivial⟩
def f_writeId (N : Nat) (S : rS) (x1 : Int64) (x3 : Int64) (x5 : Int64) (x7 : Int64) : rS := F_writeId_0 N x1 x3 x5 x7 S
def o_writeId (N : Nat) (S : rS) (x1 : Int64) (x3 : Int64) (x5 : Int64) (x7 : Int64) : Prop := O_writeId_0 N x1 x3 x5 x7 S
set_option maxHeartbeats 4000000 in
theorem rc_X12_writeId {G : zG} {E : rE} {S : rS} {N : Nat} (hG : zOK G) {x1 : Int64} {x3 : Int64} {x5 : Int64} {x7 : Int64} (ok : o_writeId N S x1 x3 x5 x7) : rCv G E dX12_writeId mX12_writeId [.ref E.1, .long x1, .long x3, .long x5, .long x7] S (fun S' => S' = f_writeId N S x1 x3 x5 x7) := by
  refine rC.ofX rfl (Nat.le_of_ble_eq_true rfl) ?_
  show rX G E dX12_writeId mX12_writeId 0 [some (.ref E.1), some (.long x1), none, some (.long x3), none, some (.long x5), none, some (.long x7), none, none] [] S _
  exact rX.cutz (b_writeId_0 (X := fun F => F = f_writeId N S x1 x3 x5 x7) hG (fun S' h => ⟨rfl, h⟩) ok rfl) ⟨rfl, rfl, rfl, rfl, rfl, trivial⟩
/-! propose -/
def F_propose_97 (N : Nat)  (S : rS) : Int32 × rS := ((nI 1), S)
def O_propose_97 (N : Nat)  (S : rS) : Prop := True
set_option maxHeartbeats 4000000 in
theorem b_propose_97 {G : zG} {E : rE} {S : rS} {N : Nat} {Q : Option Value → rS → Prop} {X : Int32 × rS → Prop} (hG : zOK G) (hR : ∀ v S', X (v, S') → Q (some (.int v)) S') (ok : O_propose_97 N S) (hx : X (F_propose_97 N S)) : rX G E dX12_propose mX12_propose 97 [none, none, none, none, none] [] S Q := by
  unfold O_propose_97 at ok
  unfold F_propose_97 at hx
  refine r_iconst (v := nI 1) dX12_propose_97 (by decide) ?_
  exact r_ireturn rfl rfl dX12_propose_98 (hR _ _ hx)
def F_propose_92 (N : Nat) (x1 : Int32) (S : rS) : Int32 × rS := (F_propose_97 N (f_sendLogged N S x1))
def O_propose_92 (N : Nat) (x1 : Int32) (S : rS) : Prop := (o_sendLogged N S x1) ∧ O_propose_97 N (f_sendLogged N S x1)
set_option maxHeartbeats 4000000 in
theorem b_propose_92 {G : zG} {E : rE} {S : rS} {N : Nat} {Q : Option Value → rS → Prop} {X : Int32 × rS → Prop} (hG : zOK G) (hR : ∀ v S', X (v, S') → Q (some (.int v)) S') {x1 : Int32} (ok : O_propose_92 N x1 S) (hx : X (F_propose_92 N x1 S)) : rX G E dX12_propose mX12_propose 92 [some (.ref E.1), some (.int x1), none, none, none] [] S Q := by
  unfold O_propose_92 at ok
  unfold F_propose_92 at hx
  refine r_aload_n dX12_propose_92 rfl rfl ?_
  refine r_iload_n dX12_propose_93 rfl rfl ?_
  refine r_V1v (y' := mX12_sendLogged) dX12_propose_94 lX12_534 kX12_sendLogged ⟨by decide, by decide⟩ rfl (Nat.le_of_ble_eq_true rfl) (rc_X12_sendLogged hG ok.1) (fun S_94 h_94 => ?_)
  subst h_94
  have ok := ok.2
  exact rX.cutz (b_propose_97 hG hR ok hx) trivial
def F_propose_64 (N : Nat) (x1 : Int32) (x2 : Int32) (x3 : Int32) (x4 : Int32) (S : rS) : Int32 × rS := (F_propose_92 N x1 (f_copyBlock N (rsA S 68 x4.toNatClampNeg x2) x3 (((nI 1144) + ((nI 16) * x1)) + ((rsA S 68 x4.toNatClampNeg x2).2.1 45 x1.toNatClampNeg))))
def O_propose_64 (N : Nat) (x1 : Int32) (x2 : Int32) (x3 : Int32) (x4 : Int32) (S : rS) : Prop := (vp_in x4 832) ∧ (vp_in x1 13) ∧ (o_copyBlock N (rsA S 68 x4.toNatClampNeg x2) x3 (((nI 1144) + ((nI 16) * x1)) + ((rsA S 68 x4.toNatClampNeg x2).2.1 45 x1.toNatClampNeg))) ∧ O_propose_92 N x1 (f_copyBlock N (rsA S 68 x4.toNatClampNeg x2) x3 (((nI 1144) + ((nI 16) * x1)) + ((rsA S 68 x4.toNatClampNeg x2).2.1 45 x1.toNatClampNeg)))
set_option maxHeartbeats 4000000 in
theorem b_propose_64 {G : zG} {E : rE} {S : rS} {N : Nat} {Q : Option Value → rS → Prop} {X : Int32 × rS → Prop} (hG : zOK G) (hR : ∀ v S', X (v, S') → Q (some (.int v)) S') {x1 : Int32} {x2 : Int32} {x3 : Int32} {x4 : Int32} (ok : O_propose_64 N x1 x2 x3 x4 S) (hx : X (F_propose_64 N x1 x2 x3 x4 S)) : rX G E dX12_propose mX12_propose 64 [some (.ref E.1), some (.int x1), some (.int x2), some (.int x3), some (.int x4)] [] S Q := by
  unfold O_propose_64 at ok
  unfold F_propose_64 at hx
  refine r_aload_n dX12_propose_64 rfl rfl ?_
  refine r_getA 68 fX12_381 (by decide) (by decide) dX12_propose_65 ?_
  refine r_iload dX12_propose_68 rfl ?_
  refine r_iload_n dX12_propose_70 rfl rfl ?_
  refine r_iast hG (by decide) (by decide) dX12_propose_71 ok.1 ?_
  have ok := ok.2
  refine r_aload_n dX12_propose_72 rfl rfl ?_
  refine r_iload_n dX12_propose_73 rfl rfl ?_
  refine r_sipush (v := nI 1144) dX12_propose_74 (by decide) ?_
  refine r_bipush (v := nI 16) dX12_propose_77 (by decide) ?_
  refine r_iload_n dX12_propose_79 rfl rfl ?_
  refine r_imul dX12_propose_80 ?_
  refine r_iadd dX12_propose_81 ?_
  refine r_aload_n dX12_propose_82 rfl rfl ?_
  refine r_getA 45 fX12_312 (by decide) (by decide) dX12_propose_83 ?_
  refine r_iload_n dX12_propose_86 rfl rfl ?_
  refine r_iald (by decide) (by decide) dX12_propose_87 ok.1 ?_
  have ok := ok.2
  refine r_iadd dX12_propose_88 ?_
  refine r_V2v (y' := mX12_copyBlock) dX12_propose_89 lX12_507 kX12_copyBlock ⟨by decide, by decide⟩ rfl (Nat.le_of_ble_eq_true rfl) (rc_X12_copyBlock hG ok.1) (fun S_89 h_89 => ?_)
  subst h_89
  have ok := ok.2
  exact rX.cutz (b_propose_92 hG hR ok hx) ⟨rfl, rfl, trivial⟩
def F_propose_25 (N : Nat) (x1 : Int32) (x2 : Int32) (x3 : Int32) (s0 : Int32) (S : rS) : Int32 × rS := (if s0 = 0 then ((nI 0), S) else (F_propose_64 N x1 x2 x3 (((nI 64) * x1) + (S.2.1 65 x1.toNatClampNeg)) (rsA (rsA S 66 (((nI 64) * x1) + (S.2.1 65 x1.toNatClampNeg)).toNatClampNeg (nI 1)) 67 (((nI 64) * x1) + (S.2.1 65 x1.toNatClampNeg)).toNatClampNeg ((rsA S 66 (((nI 64) * x1) + (S.2.1 65 x1.toNatClampNeg)).toNatClampNeg (nI 1)).2.1 45 x1.toNatClampNeg))))
def O_propose_25 (N : Nat) (x1 : Int32) (x2 : Int32) (x3 : Int32) (s0 : Int32) (S : rS) : Prop := ((s0 = 0 → True) ∧ (¬ s0 = 0 → (vp_in x1 13) ∧ (vp_in (((nI 64) * x1) + (S.2.1 65 x1.toNatClampNeg)) 832) ∧ (vp_in x1 13) ∧ (vp_in (((nI 64) * x1) + (S.2.1 65 x1.toNatClampNeg)) 832) ∧ O_propose_64 N x1 x2 x3 (((nI 64) * x1) + (S.2.1 65 x1.toNatClampNeg)) (rsA (rsA S 66 (((nI 64) * x1) + (S.2.1 65 x1.toNatClampNeg)).toNatClampNeg (nI 1)) 67 (((nI 64) * x1) + (S.2.1 65 x1.toNatClampNeg)).toNatClampNeg ((rsA S 66 (((nI 64) * x1) + (S.2.1 65 x1.toNatClampNeg)).toNatClampNeg (nI 1)).2.1 45 x1.toNatClampNeg))))
set_option maxHeartbeats 4000000 in
theorem b_propose_25 {G : zG} {E : rE} {S : rS} {N : Nat} {Q : Option Value → rS → Prop} {X : Int32 × rS → Prop} (hG : zOK G) (hR : ∀ v S', X (v, S') → Q (some (.int v)) S') {x1 : Int32} {x2 : Int32} {x3 : Int32} {s0 : Int32} (ok : O_propose_25 N x1 x2 x3 s0 S) (hx : X (F_propose_25 N x1 x2 x3 s0 S)) : rX G E dX12_propose mX12_propose 25 [some (.ref E.1), some (.int x1), some (.int x2), some (.int x3), none] [.int s0] S Q := by
  unfold O_propose_25 at ok
  unfold F_propose_25 at hx
  refine r_if_ne (tgt := 30) dX12_propose_25 (by decide) (fun c_25 => ?_) (fun c_25 => ?_)
  · have ok := ok.2 c_25
    have hx := xif_n c_25 hx
    refine r_bipush (v := nI 64) dX12_propose_30 (by decide) ?_
    refine r_iload_n dX12_propose_32 rfl rfl ?_
    refine r_imul dX12_propose_33 ?_
    refine r_aload_n dX12_propose_34 rfl rfl ?_
    refine r_getA 65 fX12_372 (by decide) (by decide) dX12_propose_35 ?_
    refine r_iload_n dX12_propose_38 rfl rfl ?_
    refine r_iald (by decide) (by decide) dX12_propose_39 ok.1 ?_
    have ok := ok.2
    refine r_iadd dX12_propose_40 ?_
    refine r_istore_4 dX12_propose_41 (by decide) rfl ?_
    refine r_aload_n dX12_propose_43 rfl rfl ?_
    refine r_getA 66 fX12_375 (by decide) (by decide) dX12_propose_44 ?_
    refine r_iload dX12_propose_47 rfl ?_
    refine r_iconst (v := nI 1) dX12_propose_49 (by decide) ?_
    refine r_iast hG (by decide) (by decide) dX12_propose_50 ok.1 ?_
    have ok := ok.2
    refine r_aload_n dX12_propose_51 rfl rfl ?_
    refine r_getA 67 fX12_378 (by decide) (by decide) dX12_propose_52 ?_
    refine r_iload dX12_propose_55 rfl ?_
    refine r_aload_n dX12_propose_57 rfl rfl ?_
    refine r_getA 45 fX12_312 (by decide) (by decide) dX12_propose_58 ?_
    refine r_iload_n dX12_propose_61 rfl rfl ?_
    refine r_iald (by decide) (by decide) dX12_propose_62 ok.1 ?_
    have ok := ok.2
    refine r_iast hG (by decide) (by decide) dX12_propose_63 ok.1 ?_
    have ok := ok.2
    exact rX.cutz (b_propose_64 hG hR ok hx) ⟨rfl, rfl, rfl, rfl, rfl, trivial⟩
  · have ok := ok.1 c_25
    have hx := xif_p c_25 hx
    refine r_iconst (v := nI 0) dX12_propose_28 (by decide) ?_
    exact r_ireturn rfl rfl dX12_propose_29 (hR _ _ hx)
def F_propose_19 (N : Nat) (x1 : Int32) (x2 : Int32) (x3 : Int32) (S : rS) : Int32 × rS := (F_propose_25 N x1 x2 x3 ((f_noteSent N S x1 (nI 0)).1) (f_noteSent N S x1 (nI 0)).2)
def O_propose_19 (N : Nat) (x1 : Int32) (x2 : Int32) (x3 : Int32) (S : rS) : Prop := (o_noteSent N S x1 (nI 0)) ∧ O_propose_25 N x1 x2 x3 ((f_noteSent N S x1 (nI 0)).1) (f_noteSent N S x1 (nI 0)).2
set_option maxHeartbeats 4000000 in
theorem b_propose_19 {G : zG} {E : rE} {S : rS} {N : Nat} {Q : Option Value → rS → Prop} {X : Int32 × rS → Prop} (hG : zOK G) (hR : ∀ v S', X (v, S') → Q (some (.int v)) S') {x1 : Int32} {x2 : Int32} {x3 : Int32} (ok : O_propose_19 N x1 x2 x3 S) (hx : X (F_propose_19 N x1 x2 x3 S)) : rX G E dX12_propose mX12_propose 19 [some (.ref E.1), some (.int x1), some (.int x2), some (.int x3), none] [] S Q := by
  unfold O_propose_19 at ok
  unfold F_propose_19 at hx
  refine r_aload_n dX12_propose_19 rfl rfl ?_
  refine r_iload_n dX12_propose_20 rfl rfl ?_
  refine r_iconst (v := nI 0) dX12_propose_21 (by decide) ?_
  refine r_V2i (y' := mX12_noteSent) dX12_propose_22 lX12_531 kX12_noteSent ⟨by decide, by decide⟩ rfl (Nat.le_of_ble_eq_true rfl) (rc_X12_noteSent hG ok.1) (fun v_22 S_22 h_22 => ?_)
  obtain ⟨rfl, hS_22⟩ := h_22
  have hS_22 := hS_22.symm
  subst hS_22
  have ok := ok.2
  exact rX.cutz (b_propose_25 hG hR ok hx) ⟨rfl, rfl, rfl, rfl, trivial⟩
def F_propose_0 (N : Nat) (x1 : Int32) (x2 : Int32) (x3 : Int32) (S : rS) : Int32 × rS := (F_propose_19 N x1 x2 x3 (f_writeProposal N S x1 (S.2.1 44 x1.toNatClampNeg) (S.2.1 45 x1.toNatClampNeg) x2 x3))
def O_propose_0 (N : Nat) (x1 : Int32) (x2 : Int32) (x3 : Int32) (S : rS) : Prop := (vp_in x1 13) ∧ (vp_in x1 13) ∧ (o_writeProposal N S x1 (S.2.1 44 x1.toNatClampNeg) (S.2.1 45 x1.toNatClampNeg) x2 x3) ∧ O_propose_19 N x1 x2 x3 (f_writeProposal N S x1 (S.2.1 44 x1.toNatClampNeg) (S.2.1 45 x1.toNatClampNeg) x2 x3)
set_option maxHeartbeats 4000000 in
theorem b_propose_0 {G : zG} {E : rE} {S : rS} {N : Nat} {Q : Option Value → rS → Prop} {X : Int32 × rS → Prop} (hG : zOK G) (hR : ∀ v S', X (v, S') → Q (some (.int v)) S') {x1 : Int32} {x2 : Int32} {x3 : Int32} (ok : O_propose_0 N x1 x2 x3 S) (hx : X (F_propose_0 N x1 x2 x3 S)) : rX G E dX12_propose mX12_propose 0 [some (.ref E.1), some (.int x1), some (.int x2), some (.int x3), none] [] S Q := by
  unfold O_propose_0 at ok
  unfold F_propose_0 at hx
  refine r_aload_n dX12_propose_0 rfl rfl ?_
  refine r_iload_n dX12_propose_1 rfl rfl ?_
  refine r_aload_n dX12_propose_2 rfl rfl ?_
  refine r_getA 44 fX12_309 (by decide) (by decide) dX12_propose_3 ?_
  refine r_iload_n dX12_propose_6 rfl rfl ?_
  refine r_iald (by decide) (by decide) dX12_propose_7 ok.1 ?_
  have ok := ok.2
  refine r_aload_n dX12_propose_8 rfl rfl ?_
  refine r_getA 45 fX12_312 (by decide) (by decide) dX12_propose_9 ?_
  refine r_iload_n dX12_propose_12 rfl rfl ?_
  refine r_iald (by decide) (by decide) dX12_propose_13 ok.1 ?_
  have ok := ok.2
  refine r_iload_n dX12_propose_14 rfl rfl ?_
  refine r_iload_n dX12_propose_15 rfl rfl ?_
  refine r_V5v (y' := mX12_writeProposal) dX12_propose_16 lX12_527 kX12_writeProposal ⟨by decide, by decide⟩ rfl (Nat.le_of_ble_eq_true rfl) (rc_X12_writeProposal hG ok.1) (fun S_16 h_16 => ?_)
  subst h_16
  have ok := ok.2
  exact rX.cutz (b_propose_19 hG hR ok hx) ⟨rfl, rfl, rfl, rfl, trivial⟩
def f_propose (N : Nat) (S : rS) (x1 : Int32) (x2 : Int32) (x3 : Int32) : Int32 × rS := F_propose_0 N x1 x2 x3 S
def o_propose (N : Nat) (S : rS) (x1 : Int32) (x2 : Int32) (x3 : Int32) : Prop := O_propose_0 N x1 x2 x3 S
set_option maxHeartbeats 4000000 in
theorem rc_X12_propose {G : zG} {E : rE} {S : rS} {N : Nat} (hG : zOK G) {x1 : Int32} {x2 : Int32} {x3 : Int32} (ok : o_propose N S x1 x2 x3) : rCi G E dX12_propose mX12_propose [.ref E.1, .int x1, .int x2, .int x3] S (fun v S' => v = (f_propose N S x1 x2 x3).1 ∧ S' = (f_propose N S x1 x2 x3).2) := by
  refine rC.ofX rfl (Nat.le_of_ble_eq_true rfl) ?_
  show rX G E dX12_propose mX12_propose 0 [some (.ref E.1), some (.int x1), some (.int x2), some (.int x3), none] [] S _
  exact rX.cutz (b_propose_0 (X := fun F => F = f_propose N S x1 x2 x3) hG (fun v S' h => ⟨v, rfl, by rw [← h], by rw [← h]⟩) ok rfl) ⟨rfl, rfl, rfl, rfl, trivial⟩
/-! vote -/
def F_vote_193 (N : Nat)  (S : rS) : Int32 × rS := ((nI 1), S)
def O_vote_193 (N : Nat)  (S : rS) : Prop := True
set_option maxHeartbeats 4000000 in
theorem b_vote_193 {G : zG} {E : rE} {S : rS} {N : Nat} {Q : Option Value → rS → Prop} {X : Int32 × rS → Prop} (hG : zOK G) (hR : ∀ v S', X (v, S') → Q (some (.int v)) S') (ok : O_vote_193 N S) (hx : X (F_vote_193 N S)) : rX G E dX12_vote mX12_vote 193 [none, none, none, none, none, none, none] [] S Q := by
  unfold O_vote_193 at ok
  unfold F_vote_193 at hx
  refine r_iconst (v := nI 1) dX12_vote_193 (by decide) ?_
  exact r_ireturn rfl rfl dX12_vote_194 (hR _ _ hx)
def F_vote_188 (N : Nat) (x1 : Int32) (S : rS) : Int32 × rS := (F_vote_193 N (f_sendLogged N S x1))
def O_vote_188 (N : Nat) (x1 : Int32) (S : rS) : Prop := (o_sendLogged N S x1) ∧ O_vote_193 N (f_sendLogged N S x1)
set_option maxHeartbeats 4000000 in
theorem b_vote_188 {G : zG} {E : rE} {S : rS} {N : Nat} {Q : Option Value → rS → Prop} {X : Int32 × rS → Prop} (hG : zOK G) (hR : ∀ v S', X (v, S') → Q (some (.int v)) S') {x1 : Int32} (ok : O_vote_188 N x1 S) (hx : X (F_vote_188 N x1 S)) : rX G E dX12_vote mX12_vote 188 [some (.ref E.1), some (.int x1), none, none, none, none, none] [] S Q := by
  unfold O_vote_188 at ok
  unfold F_vote_188 at hx
  refine r_aload_n dX12_vote_188 rfl rfl ?_
  refine r_iload_n dX12_vote_189 rfl rfl ?_
  refine r_V1v (y' := mX12_sendLogged) dX12_vote_190 lX12_534 kX12_sendLogged ⟨by decide, by decide⟩ rfl (Nat.le_of_ble_eq_true rfl) (rc_X12_sendLogged hG ok.1) (fun S_190 h_190 => ?_)
  subst h_190
  have ok := ok.2
  exact rX.cutz (b_vote_193 hG hR ok hx) trivial
def F_vote_181 (N : Nat) (rec : Int32 → Int32 → Int32 → Int32 → rS → Nat × Int32 × rS) (x1 : Int32) (x3 : Int32) (x5 : Int32) (x6 : Int32) (s1 : Int32) (s2 : Int64) (S : rS) : Nat × Int32 × rS := (rec x1 x3 x5 (x6 + nI 1) (rsL S 70 s1.toNatClampNeg s2))
def O_vote_181 (N : Nat) (rok : Int32 → Int32 → Int32 → Int32 → rS → Prop) (x1 : Int32) (x3 : Int32) (x5 : Int32) (x6 : Int32) (s1 : Int32) (s2 : Int64) (S : rS) : Prop := (vp_in s1 3328) ∧ rok x1 x3 x5 (x6 + nI 1) (rsL S 70 s1.toNatClampNeg s2)
set_option maxHeartbeats 4000000 in
theorem b_vote_181 {G : zG} {E : rE} {S : rS} {N : Nat} {Q : Option Value → rS → Prop} {X : Nat × Int32 × rS → Prop} (hG : zOK G) (hX0 : ∀ (x1 : Int32) (S' : rS), X (0, x1, S') → rX G E dX12_vote mX12_vote 188 [some (.ref E.1), some (.int x1), none, none, none, none, none] [] S' Q) {rec : Int32 → Int32 → Int32 → Int32 → rS → Nat × Int32 × rS} {rok : Int32 → Int32 → Int32 → Int32 → rS → Prop} (hrec : ∀ (x1 : Int32) (x3 : Int32) (x5 : Int32) (x6 : Int32) (S : rS), rok x1 x3 x5 x6 S → X (rec x1 x3 x5 x6 S) → rX G E dX12_vote mX12_vote 145 [some (.ref E.1), some (.int x1), none, some (.int x3), none, some (.int x5), some (.int x6)] [] S Q) {x1 : Int32} {x3 : Int32} {x5 : Int32} {x6 : Int32} {s1 : Int32} {s2 : Int64} (ok : O_vote_181 N rok x1 x3 x5 x6 s1 s2 S) (hx : X (F_vote_181 N rec x1 x3 x5 x6 s1 s2 S)) : rX G E dX12_vote mX12_vote 181 [some (.ref E.1), some (.int x1), none, some (.int x3), none, some (.int x5), some (.int x6)] [.long s2, .int s1, .ref (E.2.1 70)] S Q := by
  unfold O_vote_181 at ok
  unfold F_vote_181 at hx
  refine r_last (by decide) (by decide) dX12_vote_181 ok.1 ?_
  have ok := ok.2
  refine r_iinc_6 (v := (x6 + nI 1)) dX12_vote_182 rfl (by first | rfl | (congr 1)) (by decide) rfl ?_
  refine r_goto (tgt := 145) dX12_vote_185 (by decide) ?_
  exact rX.cutz (hrec _ _ _ _ (rsL S 70 s1.toNatClampNeg s2) ok hx) ⟨rfl, rfl, rfl, rfl, rfl, trivial⟩
def B_vote_145 (N : Nat) (rec : Int32 → Int32 → Int32 → Int32 → rS → Nat × Int32 × rS) (x1 : Int32) (x3 : Int32) (x5 : Int32) (x6 : Int32) (S : rS) : Nat × Int32 × rS := (if (nI 4) ≤ x6 then (0, x1, S) else (if x3 < 0 then (F_vote_181 N rec x1 x3 x5 x6 (((nI 4) * x5) + x6) (0 : Int64) S) else (F_vote_181 N rec x1 x3 x5 x6 (((nI 4) * x5) + x6) (S.2.2 13 (((nI 4) * x3) + x6).toNatClampNeg) S)))
def OB_vote_145 (N : Nat) (rok : Int32 → Int32 → Int32 → Int32 → rS → Prop) (x1 : Int32) (x3 : Int32) (x5 : Int32) (x6 : Int32) (S : rS) : Prop := (((nI 4) ≤ x6 → True) ∧ (¬ (nI 4) ≤ x6 → ((x3 < 0 → O_vote_181 N rok x1 x3 x5 x6 (((nI 4) * x5) + x6) (0 : Int64) S) ∧ (¬ x3 < 0 → (vp_in (((nI 4) * x3) + x6) 5416) ∧ O_vote_181 N rok x1 x3 x5 x6 (((nI 4) * x5) + x6) (S.2.2 13 (((nI 4) * x3) + x6).toNatClampNeg) S))))
set_option maxHeartbeats 4000000 in
theorem bb_vote_145 {G : zG} {E : rE} {S : rS} {N : Nat} {Q : Option Value → rS → Prop} {X : Nat × Int32 × rS → Prop} (hG : zOK G) (hX0 : ∀ (x1 : Int32) (S' : rS), X (0, x1, S') → rX G E dX12_vote mX12_vote 188 [some (.ref E.1), some (.int x1), none, none, none, none, none] [] S' Q) {rec : Int32 → Int32 → Int32 → Int32 → rS → Nat × Int32 × rS} {rok : Int32 → Int32 → Int32 → Int32 → rS → Prop} (hrec : ∀ (x1 : Int32) (x3 : Int32) (x5 : Int32) (x6 : Int32) (S : rS), rok x1 x3 x5 x6 S → X (rec x1 x3 x5 x6 S) → rX G E dX12_vote mX12_vote 145 [some (.ref E.1), some (.int x1), none, some (.int x3), none, some (.int x5), some (.int x6)] [] S Q) {x1 : Int32} {x3 : Int32} {x5 : Int32} {x6 : Int32} (ok : OB_vote_145 N rok x1 x3 x5 x6 S) (hx : X (B_vote_145 N rec x1 x3 x5 x6 S)) : rX G E dX12_vote mX12_vote 145 [some (.ref E.1), some (.int x1), none, some (.int x3), none, some (.int x5), some (.int x6)] [] S Q := by
  unfold OB_vote_145 at ok
  unfold B_vote_145 at hx
  refine r_iload dX12_vote_145 rfl ?_
  refine r_iconst (v := nI 4) dX12_vote_147 (by decide) ?_
  refine r_icmp_ge (tgt := 188) dX12_vote_148 (by decide) (fun c_148 => ?_) (fun c_148 => ?_)
  · have ok := ok.1 c_148
    have hx := xif_p c_148 hx
    exact rX.cutz (hX0 _ S hx) ⟨rfl, rfl, trivial⟩
  · have ok := ok.2 c_148
    have hx := xif_n c_148 hx
    refine r_aload_n dX12_vote_151 rfl rfl ?_
    refine r_getA 70 fX12_387 (by decide) (by decide) dX12_vote_152 ?_
    refine r_iconst (v := nI 4) dX12_vote_155 (by decide) ?_
    refine r_iload dX12_vote_156 rfl ?_
    refine r_imul dX12_vote_158 ?_
    refine r_iload dX12_vote_159 rfl ?_
    refine r_iadd dX12_vote_161 ?_
    refine r_iload_n dX12_vote_162 rfl rfl ?_
    refine r_if_lt (tgt := 180) dX12_vote_163 (by decide) (fun c_163 => ?_) (fun c_163 => ?_)
    · have ok := ok.1 c_163
      have hx := xif_p c_163 hx
      refine r_lconst (v := 0) dX12_vote_180 rfl ?_
      exact rX.cutz (b_vote_181 hG hX0 hrec ok hx) ⟨rfl, rfl, rfl, rfl, rfl, trivial⟩
    · have ok := ok.2 c_163
      have hx := xif_n c_163 hx
      refine r_aload_n dX12_vote_166 rfl rfl ?_
      refine r_getA 13 fX12_60 (by decide) (by decide) dX12_vote_167 ?_
      refine r_iconst (v := nI 4) dX12_vote_170 (by decide) ?_
      refine r_iload_n dX12_vote_171 rfl rfl ?_
      refine r_imul dX12_vote_172 ?_
      refine r_iload dX12_vote_173 rfl ?_
      refine r_iadd dX12_vote_175 ?_
      refine r_lald (by decide) (by decide) dX12_vote_176 ok.1 ?_
      have ok := ok.2
      refine r_goto (tgt := 181) dX12_vote_177 (by decide) ?_
      exact rX.cutz (b_vote_181 hG hX0 hrec ok hx) ⟨rfl, rfl, rfl, rfl, rfl, trivial⟩
def L_vote_145 (N : Nat) : Nat → Int32 → Int32 → Int32 → Int32 → rS → Nat × Int32 × rS
  | 0, x1, x3, x5, x6, S => (0, 0, S)
  | n + 1, x1, x3, x5, x6, S => B_vote_145 N (L_vote_145 N n) x1 x3 x5 x6 S
def OL_vote_145 (N : Nat) : Nat → Int32 → Int32 → Int32 → Int32 → rS → Prop
  | 0, _, _, _, _, _ => False
  | n + 1, x1, x3, x5, x6, S => OB_vote_145 N (OL_vote_145 N n) x1 x3 x5 x6 S
set_option maxHeartbeats 4000000 in
theorem l_vote_145 {G : zG} {E : rE} {N : Nat} {Q : Option Value → rS → Prop} {X : Nat × Int32 × rS → Prop} (hG : zOK G) (hX0 : ∀ (x1 : Int32) (S' : rS), X (0, x1, S') → rX G E dX12_vote mX12_vote 188 [some (.ref E.1), some (.int x1), none, none, none, none, none] [] S' Q) : ∀ (n : Nat) (x1 : Int32) (x3 : Int32) (x5 : Int32) (x6 : Int32) (S : rS), OL_vote_145 N n x1 x3 x5 x6 S → X (L_vote_145 N n x1 x3 x5 x6 S) → rX G E dX12_vote mX12_vote 145 [some (.ref E.1), some (.int x1), none, some (.int x3), none, some (.int x5), some (.int x6)] [] S Q := by
  intro n
  induction n with
  | zero => intro x1 x3 x5 x6 S ok; exact absurd ok id
  | succ n ih =>
    intro x1 x3 x5 x6 S ok hx
    exact bb_vote_145 hG hX0 (rec := L_vote_145 N n) (rok := OL_vote_145 N n) (fun x1 x3 x5 x6 S ok hx => ih x1 x3 x5 x6 S ok hx) ok hx
def A_vote_145 (N : Nat) (x1 : Int32) (x3 : Int32) (x5 : Int32) (x6 : Int32) (S : rS) (z : Nat × Int32 × rS) : Int32 × rS := (F_vote_188 N (z.2.1) z.2.2)
def OA_vote_145 (N : Nat) (x1 : Int32) (x3 : Int32) (x5 : Int32) (x6 : Int32) (S : rS) (z : Nat × Int32 × rS) : Prop := O_vote_188 N (z.2.1) z.2.2
set_option maxHeartbeats 4000000 in
theorem c_vote_145 {G : zG} {E : rE} {S : rS} {N : Nat} {Q : Option Value → rS → Prop} {X : Int32 × rS → Prop} (hG : zOK G) (hR : ∀ v S', X (v, S') → Q (some (.int v)) S') {x1 : Int32} {x3 : Int32} {x5 : Int32} {x6 : Int32} (ok : OL_vote_145 N N x1 x3 x5 x6 S ∧ OA_vote_145 N x1 x3 x5 x6 S (L_vote_145 N N x1 x3 x5 x6 S)) (hx : X (A_vote_145 N x1 x3 x5 x6 S (L_vote_145 N N x1 x3 x5 x6 S))) : rX G E dX12_vote mX12_vote 145 [some (.ref E.1), some (.int x1), none, some (.int x3), none, some (.int x5), some (.int x6)] [] S Q := by
  refine l_vote_145 hG ?_ N x1 x3 x5 x6 S ok.1 (X := fun z => OA_vote_145 N x1 x3 x5 x6 S z ∧ X (A_vote_145 N x1 x3 x5 x6 S z)) ⟨ok.2, hx⟩
  · intro x1' S' hz
    obtain ⟨ok, hx⟩ := hz
    unfold OA_vote_145 at ok
    unfold A_vote_145 at hx
    exact rX.cutz (b_vote_188 hG hR ok hx) ⟨rfl, rfl, trivial⟩
def F_vote_141 (N : Nat) (x1 : Int32) (x3 : Int32) (x5 : Int32) (s1 : Int32) (s2 : Int32) (S : rS) : Int32 × rS := (A_vote_145 N x1 x3 x5 (nI 0) (rsA S 69 s1.toNatClampNeg s2) (L_vote_145 N N x1 x3 x5 (nI 0) (rsA S 69 s1.toNatClampNeg s2)))
def O_vote_141 (N : Nat) (x1 : Int32) (x3 : Int32) (x5 : Int32) (s1 : Int32) (s2 : Int32) (S : rS) : Prop := (vp_in s1 832 ∧ narrow .boolean (.int s2) = .int s2) ∧ (OL_vote_145 N N x1 x3 x5 (nI 0) (rsA S 69 s1.toNatClampNeg s2) ∧ OA_vote_145 N x1 x3 x5 (nI 0) (rsA S 69 s1.toNatClampNeg s2) (L_vote_145 N N x1 x3 x5 (nI 0) (rsA S 69 s1.toNatClampNeg s2)))
set_option maxHeartbeats 4000000 in
theorem b_vote_141 {G : zG} {E : rE} {S : rS} {N : Nat} {Q : Option Value → rS → Prop} {X : Int32 × rS → Prop} (hG : zOK G) (hR : ∀ v S', X (v, S') → Q (some (.int v)) S') {x1 : Int32} {x3 : Int32} {x5 : Int32} {s1 : Int32} {s2 : Int32} (ok : O_vote_141 N x1 x3 x5 s1 s2 S) (hx : X (F_vote_141 N x1 x3 x5 s1 s2 S)) : rX G E dX12_vote mX12_vote 141 [some (.ref E.1), some (.int x1), none, some (.int x3), none, some (.int x5), none] [.int s2, .int s1, .ref (E.2.1 69)] S Q := by
  unfold O_vote_141 at ok
  unfold F_vote_141 at hx
  refine r_zast hG ok.1.2 (by decide) (by decide) dX12_vote_141 ok.1.1 ?_
  have ok := ok.2
  refine r_iconst (v := nI 0) dX12_vote_142 (by decide) ?_
  refine r_istore_6 dX12_vote_143 (by decide) rfl ?_
  exact rX.cutz (c_vote_145 hG hR ok hx) ⟨rfl, rfl, rfl, rfl, rfl, trivial⟩
def F_vote_113 (N : Nat) (x1 : Int32) (x3 : Int32) (x5 : Int32) (S : rS) : Int32 × rS := (if x3 < 0 then (F_vote_141 N x1 x3 x5 x5 (nI 0) (rsA S 67 x5.toNatClampNeg (S.2.1 45 x1.toNatClampNeg))) else (F_vote_141 N x1 x3 x5 x5 (nI 1) (rsA S 67 x5.toNatClampNeg (S.2.1 45 x1.toNatClampNeg))))
def O_vote_113 (N : Nat) (x1 : Int32) (x3 : Int32) (x5 : Int32) (S : rS) : Prop := (vp_in x1 13) ∧ (vp_in x5 832) ∧ ((x3 < 0 → O_vote_141 N x1 x3 x5 x5 (nI 0) (rsA S 67 x5.toNatClampNeg (S.2.1 45 x1.toNatClampNeg))) ∧ (¬ x3 < 0 → O_vote_141 N x1 x3 x5 x5 (nI 1) (rsA S 67 x5.toNatClampNeg (S.2.1 45 x1.toNatClampNeg))))
set_option maxHeartbeats 4000000 in
theorem b_vote_113 {G : zG} {E : rE} {S : rS} {N : Nat} {Q : Option Value → rS → Prop} {X : Int32 × rS → Prop} (hG : zOK G) (hR : ∀ v S', X (v, S') → Q (some (.int v)) S') {x1 : Int32} {x3 : Int32} {x5 : Int32} (ok : O_vote_113 N x1 x3 x5 S) (hx : X (F_vote_113 N x1 x3 x5 S)) : rX G E dX12_vote mX12_vote 113 [some (.ref E.1), some (.int x1), none, some (.int x3), none, some (.int x5), none] [] S Q := by
  unfold O_vote_113 at ok
  unfold F_vote_113 at hx
  refine r_aload_n dX12_vote_113 rfl rfl ?_
  refine r_getA 67 fX12_378 (by decide) (by decide) dX12_vote_114 ?_
  refine r_iload dX12_vote_117 rfl ?_
  refine r_aload_n dX12_vote_119 rfl rfl ?_
  refine r_getA 45 fX12_312 (by decide) (by decide) dX12_vote_120 ?_
  refine r_iload_n dX12_vote_123 rfl rfl ?_
  refine r_iald (by decide) (by decide) dX12_vote_124 ok.1 ?_
  have ok := ok.2
  refine r_iast hG (by decide) (by decide) dX12_vote_125 ok.1 ?_
  have ok := ok.2
  refine r_aload_n dX12_vote_126 rfl rfl ?_
  refine r_getA 69 fX12_384 (by decide) (by decide) dX12_vote_127 ?_
  refine r_iload dX12_vote_130 rfl ?_
  refine r_iload_n dX12_vote_132 rfl rfl ?_
  refine r_if_lt (tgt := 140) dX12_vote_133 (by decide) (fun c_133 => ?_) (fun c_133 => ?_)
  · have ok := ok.1 c_133
    have hx := xif_p c_133 hx
    refine r_iconst (v := nI 0) dX12_vote_140 (by decide) ?_
    exact rX.cutz (b_vote_141 hG hR ok hx) ⟨rfl, rfl, rfl, rfl, trivial⟩
  · have ok := ok.2 c_133
    have hx := xif_n c_133 hx
    refine r_iconst (v := nI 1) dX12_vote_136 (by decide) ?_
    refine r_goto (tgt := 141) dX12_vote_137 (by decide) ?_
    exact rX.cutz (b_vote_141 hG hR ok hx) ⟨rfl, rfl, rfl, rfl, trivial⟩
def F_vote_79 (N : Nat) (x1 : Int32) (x2 : Int32) (x3 : Int32) (x4 : Int32) (s0 : Int32) (S : rS) : Int32 × rS := (if s0 = 0 then ((nI 0), S) else (F_vote_113 N x1 x3 (((nI 64) * x1) + ((rsA S 46 x1.toNatClampNeg x4).2.1 65 x1.toNatClampNeg)) (rsA (rsA S 46 x1.toNatClampNeg x4) 66 (((nI 64) * x1) + ((rsA S 46 x1.toNatClampNeg x4).2.1 65 x1.toNatClampNeg)).toNatClampNeg x2)))
def O_vote_79 (N : Nat) (x1 : Int32) (x2 : Int32) (x3 : Int32) (x4 : Int32) (s0 : Int32) (S : rS) : Prop := ((s0 = 0 → True) ∧ (¬ s0 = 0 → (vp_in x1 13) ∧ (vp_in x1 13) ∧ (vp_in (((nI 64) * x1) + ((rsA S 46 x1.toNatClampNeg x4).2.1 65 x1.toNatClampNeg)) 832) ∧ O_vote_113 N x1 x3 (((nI 64) * x1) + ((rsA S 46 x1.toNatClampNeg x4).2.1 65 x1.toNatClampNeg)) (rsA (rsA S 46 x1.toNatClampNeg x4) 66 (((nI 64) * x1) + ((rsA S 46 x1.toNatClampNeg x4).2.1 65 x1.toNatClampNeg)).toNatClampNeg x2)))
set_option maxHeartbeats 4000000 in
theorem b_vote_79 {G : zG} {E : rE} {S : rS} {N : Nat} {Q : Option Value → rS → Prop} {X : Int32 × rS → Prop} (hG : zOK G) (hR : ∀ v S', X (v, S') → Q (some (.int v)) S') {x1 : Int32} {x2 : Int32} {x3 : Int32} {x4 : Int32} {s0 : Int32} (ok : O_vote_79 N x1 x2 x3 x4 s0 S) (hx : X (F_vote_79 N x1 x2 x3 x4 s0 S)) : rX G E dX12_vote mX12_vote 79 [some (.ref E.1), some (.int x1), some (.int x2), some (.int x3), some (.int x4), none, none] [.int s0] S Q := by
  unfold O_vote_79 at ok
  unfold F_vote_79 at hx
  refine r_if_ne (tgt := 84) dX12_vote_79 (by decide) (fun c_79 => ?_) (fun c_79 => ?_)
  · have ok := ok.2 c_79
    have hx := xif_n c_79 hx
    refine r_aload_n dX12_vote_84 rfl rfl ?_
    refine r_getA 46 fX12_315 (by decide) (by decide) dX12_vote_85 ?_
    refine r_iload_n dX12_vote_88 rfl rfl ?_
    refine r_iload dX12_vote_89 rfl ?_
    refine r_iast hG (by decide) (by decide) dX12_vote_91 ok.1 ?_
    have ok := ok.2
    refine r_bipush (v := nI 64) dX12_vote_92 (by decide) ?_
    refine r_iload_n dX12_vote_94 rfl rfl ?_
    refine r_imul dX12_vote_95 ?_
    refine r_aload_n dX12_vote_96 rfl rfl ?_
    refine r_getA 65 fX12_372 (by decide) (by decide) dX12_vote_97 ?_
    refine r_iload_n dX12_vote_100 rfl rfl ?_
    refine r_iald (by decide) (by decide) dX12_vote_101 ok.1 ?_
    have ok := ok.2
    refine r_iadd dX12_vote_102 ?_
    refine r_istore_5 dX12_vote_103 (by decide) rfl ?_
    refine r_aload_n dX12_vote_105 rfl rfl ?_
    refine r_getA 66 fX12_375 (by decide) (by decide) dX12_vote_106 ?_
    refine r_iload dX12_vote_109 rfl ?_
    refine r_iload_n dX12_vote_111 rfl rfl ?_
    refine r_iast hG (by decide) (by decide) dX12_vote_112 ok.1 ?_
    have ok := ok.2
    exact rX.cutz (b_vote_113 hG hR ok hx) ⟨rfl, rfl, rfl, rfl, trivial⟩
  · have ok := ok.1 c_79
    have hx := xif_p c_79 hx
    refine r_iconst (v := nI 0) dX12_vote_82 (by decide) ?_
    exact r_ireturn rfl rfl dX12_vote_83 (hR _ _ hx)
def F_vote_72 (N : Nat) (x1 : Int32) (x2 : Int32) (x3 : Int32) (x4 : Int32) (S : rS) : Int32 × rS := (F_vote_79 N x1 x2 x3 x4 ((f_noteSent N S x1 x4).1) (f_noteSent N S x1 x4).2)
def O_vote_72 (N : Nat) (x1 : Int32) (x2 : Int32) (x3 : Int32) (x4 : Int32) (S : rS) : Prop := (o_noteSent N S x1 x4) ∧ O_vote_79 N x1 x2 x3 x4 ((f_noteSent N S x1 x4).1) (f_noteSent N S x1 x4).2
set_option maxHeartbeats 4000000 in
theorem b_vote_72 {G : zG} {E : rE} {S : rS} {N : Nat} {Q : Option Value → rS → Prop} {X : Int32 × rS → Prop} (hG : zOK G) (hR : ∀ v S', X (v, S') → Q (some (.int v)) S') {x1 : Int32} {x2 : Int32} {x3 : Int32} {x4 : Int32} (ok : O_vote_72 N x1 x2 x3 x4 S) (hx : X (F_vote_72 N x1 x2 x3 x4 S)) : rX G E dX12_vote mX12_vote 72 [some (.ref E.1), some (.int x1), some (.int x2), some (.int x3), some (.int x4), none, none] [] S Q := by
  unfold O_vote_72 at ok
  unfold F_vote_72 at hx
  refine r_aload_n dX12_vote_72 rfl rfl ?_
  refine r_iload_n dX12_vote_73 rfl rfl ?_
  refine r_iload dX12_vote_74 rfl ?_
  refine r_V2i (y' := mX12_noteSent) dX12_vote_76 lX12_531 kX12_noteSent ⟨by decide, by decide⟩ rfl (Nat.le_of_ble_eq_true rfl) (rc_X12_noteSent hG ok.1) (fun v_76 S_76 h_76 => ?_)
  obtain ⟨rfl, hS_76⟩ := h_76
  have hS_76 := hS_76.symm
  subst hS_76
  have ok := ok.2
  exact rX.cutz (b_vote_79 hG hR ok hx) ⟨rfl, rfl, rfl, rfl, rfl, trivial⟩
def F_vote_64 (N : Nat) (x1 : Int32) (x2 : Int32) (x3 : Int32) (x4 : Int32) (S : rS) : Int32 × rS := (F_vote_72 N x1 x2 x3 x4 S)
def O_vote_64 (N : Nat) (x1 : Int32) (x2 : Int32) (x3 : Int32) (x4 : Int32) (S : rS) : Prop := O_vote_72 N x1 x2 x3 x4 S
set_option maxHeartbeats 4000000 in
theorem b_vote_64 {G : zG} {E : rE} {S : rS} {N : Nat} {Q : Option Value → rS → Prop} {X : Int32 × rS → Prop} (hG : zOK G) (hR : ∀ v S', X (v, S') → Q (some (.int v)) S') {x1 : Int32} {x2 : Int32} {x3 : Int32} {x4 : Int32} (ok : O_vote_64 N x1 x2 x3 x4 S) (hx : X (F_vote_64 N x1 x2 x3 x4 S)) : rX G E dX12_vote mX12_vote 64 [some (.ref E.1), some (.int x1), some (.int x2), some (.int x3), some (.int x4), none, none] [] S Q := by
  unfold O_vote_64 at ok
  unfold F_vote_64 at hx
  refine r_goto (tgt := 72) dX12_vote_64 (by decide) ?_
  exact rX.cutz (b_vote_72 hG hR ok hx) ⟨rfl, rfl, rfl, rfl, rfl, trivial⟩
def F_vote_18 (N : Nat) (x1 : Int32) (x2 : Int32) (x3 : Int32) (x4 : Int32) (S : rS) : Int32 × rS := (if x3 < 0 then (F_vote_72 N x1 x2 x3 x4 (f_write N S (nI 0))) else (F_vote_64 N x1 x2 x3 x4 (f_writeId N S (S.2.2 13 ((nI 4) * x3).toNatClampNeg) (S.2.2 13 (((nI 4) * x3) + (nI 1)).toNatClampNeg) (S.2.2 13 (((nI 4) * x3) + (nI 2)).toNatClampNeg) (S.2.2 13 (((nI 4) * x3) + (nI 3)).toNatClampNeg))))
def O_vote_18 (N : Nat) (x1 : Int32) (x2 : Int32) (x3 : Int32) (x4 : Int32) (S : rS) : Prop := ((x3 < 0 → (o_write N S (nI 0)) ∧ O_vote_72 N x1 x2 x3 x4 (f_write N S (nI 0))) ∧ (¬ x3 < 0 → (vp_in ((nI 4) * x3) 5416) ∧ (vp_in (((nI 4) * x3) + (nI 1)) 5416) ∧ (vp_in (((nI 4) * x3) + (nI 2)) 5416) ∧ (vp_in (((nI 4) * x3) + (nI 3)) 5416) ∧ (o_writeId N S (S.2.2 13 ((nI 4) * x3).toNatClampNeg) (S.2.2 13 (((nI 4) * x3) + (nI 1)).toNatClampNeg) (S.2.2 13 (((nI 4) * x3) + (nI 2)).toNatClampNeg) (S.2.2 13 (((nI 4) * x3) + (nI 3)).toNatClampNeg)) ∧ O_vote_64 N x1 x2 x3 x4 (f_writeId N S (S.2.2 13 ((nI 4) * x3).toNatClampNeg) (S.2.2 13 (((nI 4) * x3) + (nI 1)).toNatClampNeg) (S.2.2 13 (((nI 4) * x3) + (nI 2)).toNatClampNeg) (S.2.2 13 (((nI 4) * x3) + (nI 3)).toNatClampNeg))))
set_option maxHeartbeats 4000000 in
theorem b_vote_18 {G : zG} {E : rE} {S : rS} {N : Nat} {Q : Option Value → rS → Prop} {X : Int32 × rS → Prop} (hG : zOK G) (hR : ∀ v S', X (v, S') → Q (some (.int v)) S') {x1 : Int32} {x2 : Int32} {x3 : Int32} {x4 : Int32} (ok : O_vote_18 N x1 x2 x3 x4 S) (hx : X (F_vote_18 N x1 x2 x3 x4 S)) : rX G E dX12_vote mX12_vote 18 [some (.ref E.1), some (.int x1), some (.int x2), some (.int x3), some (.int x4), none, none] [] S Q := by
  unfold O_vote_18 at ok
  unfold F_vote_18 at hx
  refine r_iload_n dX12_vote_18 rfl rfl ?_
  refine r_if_lt (tgt := 67) dX12_vote_19 (by decide) (fun c_19 => ?_) (fun c_19 => ?_)
  · have ok := ok.1 c_19
    have hx := xif_p c_19 hx
    refine r_aload_n dX12_vote_67 rfl rfl ?_
    refine r_iconst (v := nI 0) dX12_vote_68 (by decide) ?_
    refine r_V1v (y' := mX12_write) dX12_vote_69 lX12_226 kX12_write ⟨by decide, by decide⟩ rfl (Nat.le_of_ble_eq_true rfl) (rc_X12_write hG ok.1) (fun S_69 h_69 => ?_)
    subst h_69
    have ok := ok.2
    exact rX.cutz (b_vote_72 hG hR ok hx) ⟨rfl, rfl, rfl, rfl, rfl, trivial⟩
  · have ok := ok.2 c_19
    have hx := xif_n c_19 hx
    refine r_aload_n dX12_vote_22 rfl rfl ?_
    refine r_aload_n dX12_vote_23 rfl rfl ?_
    refine r_getA 13 fX12_60 (by decide) (by decide) dX12_vote_24 ?_
    refine r_iconst (v := nI 4) dX12_vote_27 (by decide) ?_
    refine r_iload_n dX12_vote_28 rfl rfl ?_
    refine r_imul dX12_vote_29 ?_
    refine r_lald (by decide) (by decide) dX12_vote_30 ok.1 ?_
    have ok := ok.2
    refine r_aload_n dX12_vote_31 rfl rfl ?_
    refine r_getA 13 fX12_60 (by decide) (by decide) dX12_vote_32 ?_
    refine r_iconst (v := nI 4) dX12_vote_35 (by decide) ?_
    refine r_iload_n dX12_vote_36 rfl rfl ?_
    refine r_imul dX12_vote_37 ?_
    refine r_iconst (v := nI 1) dX12_vote_38 (by decide) ?_
    refine r_iadd dX12_vote_39 ?_
    refine r_lald (by decide) (by decide) dX12_vote_40 ok.1 ?_
    have ok := ok.2
    refine r_aload_n dX12_vote_41 rfl rfl ?_
    refine r_getA 13 fX12_60 (by decide) (by decide) dX12_vote_42 ?_
    refine r_iconst (v := nI 4) dX12_vote_45 (by decide) ?_
    refine r_iload_n dX12_vote_46 rfl rfl ?_
    refine r_imul dX12_vote_47 ?_
    refine r_iconst (v := nI 2) dX12_vote_48 (by decide) ?_
    refine r_iadd dX12_vote_49 ?_
    refine r_lald (by decide) (by decide) dX12_vote_50 ok.1 ?_
    have ok := ok.2
    refine r_aload_n dX12_vote_51 rfl rfl ?_
    refine r_getA 13 fX12_60 (by decide) (by decide) dX12_vote_52 ?_
    refine r_iconst (v := nI 4) dX12_vote_55 (by decide) ?_
    refine r_iload_n dX12_vote_56 rfl rfl ?_
    refine r_imul dX12_vote_57 ?_
    refine r_iconst (v := nI 3) dX12_vote_58 (by decide) ?_
    refine r_iadd dX12_vote_59 ?_
    refine r_lald (by decide) (by decide) dX12_vote_60 ok.1 ?_
    have ok := ok.2
    refine r_V4v (y' := mX12_writeId) dX12_vote_61 lX12_537 kX12_writeId ⟨by decide, by decide⟩ rfl (Nat.le_of_ble_eq_true rfl) (rc_X12_writeId hG ok.1) (fun S_61 h_61 => ?_)
    subst h_61
    have ok := ok.2
    exact rX.cutz (b_vote_64 hG hR ok hx) ⟨rfl, rfl, rfl, rfl, rfl, trivial⟩
def F_vote_0 (N : Nat) (x1 : Int32) (x2 : Int32) (x3 : Int32) (x4 : Int32) (S : rS) : Int32 × rS := (F_vote_18 N x1 x2 x3 x4 (f_writeHead N S x2 x1 (S.2.1 44 x1.toNatClampNeg) (S.2.1 45 x1.toNatClampNeg)))
def O_vote_0 (N : Nat) (x1 : Int32) (x2 : Int32) (x3 : Int32) (x4 : Int32) (S : rS) : Prop := (vp_in x1 13) ∧ (vp_in x1 13) ∧ (o_writeHead N S x2 x1 (S.2.1 44 x1.toNatClampNeg) (S.2.1 45 x1.toNatClampNeg)) ∧ O_vote_18 N x1 x2 x3 x4 (f_writeHead N S x2 x1 (S.2.1 44 x1.toNatClampNeg) (S.2.1 45 x1.toNatClampNeg))
set_option maxHeartbeats 4000000 in
theorem b_vote_0 {G : zG} {E : rE} {S : rS} {N : Nat} {Q : Option Value → rS → Prop} {X : Int32 × rS → Prop} (hG : zOK G) (hR : ∀ v S', X (v, S') → Q (some (.int v)) S') {x1 : Int32} {x2 : Int32} {x3 : Int32} {x4 : Int32} (ok : O_vote_0 N x1 x2 x3 x4 S) (hx : X (F_vote_0 N x1 x2 x3 x4 S)) : rX G E dX12_vote mX12_vote 0 [some (.ref E.1), some (.int x1), some (.int x2), some (.int x3), some (.int x4), none, none] [] S Q := by
  unfold O_vote_0 at ok
  unfold F_vote_0 at hx
  refine r_aload_n dX12_vote_0 rfl rfl ?_
  refine r_iload_n dX12_vote_1 rfl rfl ?_
  refine r_iload_n dX12_vote_2 rfl rfl ?_
  refine r_aload_n dX12_vote_3 rfl rfl ?_
  refine r_getA 44 fX12_309 (by decide) (by decide) dX12_vote_4 ?_
  refine r_iload_n dX12_vote_7 rfl rfl ?_
  refine r_iald (by decide) (by decide) dX12_vote_8 ok.1 ?_
  have ok := ok.2
  refine r_aload_n dX12_vote_9 rfl rfl ?_
  refine r_getA 45 fX12_312 (by decide) (by decide) dX12_vote_10 ?_
  refine r_iload_n dX12_vote_13 rfl rfl ?_
  refine r_iald (by decide) (by decide) dX12_vote_14 ok.1 ?_
  have ok := ok.2
  refine r_V4v (y' := mX12_writeHead) dX12_vote_15 lX12_520 kX12_writeHead ⟨by decide, by decide⟩ rfl (Nat.le_of_ble_eq_true rfl) (rc_X12_writeHead hG ok.1) (fun S_15 h_15 => ?_)
  subst h_15
  have ok := ok.2
  exact rX.cutz (b_vote_18 hG hR ok hx) ⟨rfl, rfl, rfl, rfl, rfl, trivial⟩
def f_vote (N : Nat) (S : rS) (x1 : Int32) (x2 : Int32) (x3 : Int32) (x4 : Int32) : Int32 × rS := F_vote_0 N x1 x2 x3 x4 S
def o_vote (N : Nat) (S : rS) (x1 : Int32) (x2 : Int32) (x3 : Int32) (x4 : Int32) : Prop := O_vote_0 N x1 x2 x3 x4 S
set_option maxHeartbeats 4000000 in
theorem rc_X12_vote {G : zG} {E : rE} {S : rS} {N : Nat} (hG : zOK G) {x1 : Int32} {x2 : Int32} {x3 : Int32} {x4 : Int32} (ok : o_vote N S x1 x2 x3 x4) : rCi G E dX12_vote mX12_vote [.ref E.1, .int x1, .int x2, .int x3, .int x4] S (fun v S' => v = (f_vote N S x1 x2 x3 x4).1 ∧ S' = (f_vote N S x1 x2 x3 x4).2) := by
  refine rC.ofX rfl (Nat.le_of_ble_eq_true rfl) ?_
  show rX G E dX12_vote mX12_vote 0 [some (.ref E.1), some (.int x1), some (.int x2), some (.int x3), some (.int x4), none, none] [] S _
  exact rX.cutz (b_vote_0 (X := fun F => F = f_vote N S x1 x2 x3 x4) hG (fun v S' h => ⟨v, rfl, by rw [← h], by rw [← h]⟩) ok rfl) ⟨rfl, rfl, rfl, rfl, rfl, trivial⟩
/-! isValid -/
def F_isValid_150 (N : Nat) (s0 : Int32) (S : rS) : Int32 × rS := (s0, S)
def O_isValid_150 (N : Nat) (s0 : Int32) (S : rS) : Prop := narrow .boolean (.int s0) = .int s0
set_option maxHeartbeats 4000000 in
theorem b_isValid_150 {G : zG} {E : rE} {S : rS} {N : Nat} {Q : Option Value → rS → Prop} {X : Int32 × rS → Prop} (hG : zOK G) (hR : ∀ v S', X (v, S') → Q (some (.int v)) S') {s0 : Int32} (ok : O_isValid_150 N s0 S) (hx : X (F_isValid_150 N s0 S)) : rX G E dX12_isValid mX12_isValid 150 [none, none, none, none, none] [.int s0] S Q := by
  unfold O_isValid_150 at ok
  unfold F_isValid_150 at hx
  exact r_ireturn rfl ok dX12_isValid_150 (hR _ _ hx)
def F_isValid_149 (N : Nat)  (S : rS) : Int32 × rS := (F_isValid_150 N (nI 0) S)
def O_isValid_149 (N : Nat)  (S : rS) : Prop := O_isValid_150 N (nI 0) S
set_option maxHeartbeats 4000000 in
theorem b_isValid_149 {G : zG} {E : rE} {S : rS} {N : Nat} {Q : Option Value → rS → Prop} {X : Int32 × rS → Prop} (hG : zOK G) (hR : ∀ v S', X (v, S') → Q (some (.int v)) S') (ok : O_isValid_149 N S) (hx : X (F_isValid_149 N S)) : rX G E dX12_isValid mX12_isValid 149 [none, none, none, none, none] [] S Q := by
  unfold O_isValid_149 at ok
  unfold F_isValid_149 at hx
  refine r_iconst (v := nI 0) dX12_isValid_149 (by decide) ?_
  exact rX.cutz (b_isValid_150 hG hR ok hx) trivial
def F_isValid_142 (N : Nat) (s0 : Int32) (S : rS) : Int32 × rS := (if s0 = 0 then (F_isValid_149 N S) else (F_isValid_150 N (nI 1) S))
def O_isValid_142 (N : Nat) (s0 : Int32) (S : rS) : Prop := ((s0 = 0 → O_isValid_149 N S) ∧ (¬ s0 = 0 → O_isValid_150 N (nI 1) S))
set_option maxHeartbeats 4000000 in
theorem b_isValid_142 {G : zG} {E : rE} {S : rS} {N : Nat} {Q : Option Value → rS → Prop} {X : Int32 × rS → Prop} (hG : zOK G) (hR : ∀ v S', X (v, S') → Q (some (.int v)) S') {s0 : Int32} (ok : O_isValid_142 N s0 S) (hx : X (F_isValid_142 N s0 S)) : rX G E dX12_isValid mX12_isValid 142 [none, none, none, none, none] [.int s0] S Q := by
  unfold O_isValid_142 at ok
  unfold F_isValid_142 at hx
  refine r_if_eq (tgt := 149) dX12_isValid_142 (by decide) (fun c_142 => ?_) (fun c_142 => ?_)
  · have ok := ok.1 c_142
    have hx := xif_p c_142 hx
    exact rX.cutz (b_isValid_149 hG hR ok hx) trivial
  · have ok := ok.2 c_142
    have hx := xif_n c_142 hx
    refine r_iconst (v := nI 1) dX12_isValid_145 (by decide) ?_
    refine r_goto (tgt := 150) dX12_isValid_146 (by decide) ?_
    exact rX.cutz (b_isValid_150 hG hR ok hx) trivial
def F_isValid_133 (N : Nat) (x2 : Int32) (x3 : Int32) (S : rS) : Int32 × rS := (if x3 = 0 then (F_isValid_149 N S) else (F_isValid_142 N ((f_doParts N S x2).1) (f_doParts N S x2).2))
def O_isValid_133 (N : Nat) (x2 : Int32) (x3 : Int32) (S : rS) : Prop := ((x3 = 0 → O_isValid_149 N S) ∧ (¬ x3 = 0 → (o_doParts N S x2) ∧ O_isValid_142 N ((f_doParts N S x2).1) (f_doParts N S x2).2))
set_option maxHeartbeats 4000000 in
theorem b_isValid_133 {G : zG} {E : rE} {S : rS} {N : Nat} {Q : Option Value → rS → Prop} {X : Int32 × rS → Prop} (hG : zOK G) (hR : ∀ v S', X (v, S') → Q (some (.int v)) S') {x2 : Int32} {x3 : Int32} (ok : O_isValid_133 N x2 x3 S) (hx : X (F_isValid_133 N x2 x3 S)) : rX G E dX12_isValid mX12_isValid 133 [some (.ref E.1), none, some (.int x2), some (.int x3), none] [] S Q := by
  unfold O_isValid_133 at ok
  unfold F_isValid_133 at hx
  refine r_iload_n dX12_isValid_133 rfl rfl ?_
  refine r_if_eq (tgt := 149) dX12_isValid_134 (by decide) (fun c_134 => ?_) (fun c_134 => ?_)
  · have ok := ok.1 c_134
    have hx := xif_p c_134 hx
    exact rX.cutz (b_isValid_149 hG hR ok hx) trivial
  · have ok := ok.2 c_134
    have hx := xif_n c_134 hx
    refine r_aload_n dX12_isValid_137 rfl rfl ?_
    refine r_iload_n dX12_isValid_138 rfl rfl ?_
    refine r_V1i (y' := mX12_doParts) dX12_isValid_139 lX12_551 kX12_doParts ⟨by decide, by decide⟩ rfl (Nat.le_of_ble_eq_true rfl) (rc_X12_doParts hG ok.1) (fun v_139 S_139 h_139 => ?_)
    obtain ⟨rfl, hS_139⟩ := h_139
    have hS_139 := hS_139.symm
    subst hS_139
    have ok := ok.2
    exact rX.cutz (b_isValid_142 hG hR ok hx) trivial
def F_isValid_126 (N : Nat) (rec : Int32 → Int32 → Int32 → rS → Nat × Int32 × Int32 × rS) (x2 : Int32) (x4 : Int32) (s0 : Int32) (S : rS) : Nat × Int32 × Int32 × rS := (rec x2 s0 (x4 + nI 1) S)
def O_isValid_126 (N : Nat) (rok : Int32 → Int32 → Int32 → rS → Prop) (x2 : Int32) (x4 : Int32) (s0 : Int32) (S : rS) : Prop := rok x2 s0 (x4 + nI 1) S
set_option maxHeartbeats 4000000 in
theorem b_isValid_126 {G : zG} {E : rE} {S : rS} {N : Nat} {Q : Option Value → rS → Prop} {X : Nat × Int32 × Int32 × rS → Prop} (hG : zOK G) (hX0 : ∀ (x2 : Int32) (x3 : Int32) (S' : rS), X (0, x2, x3, S') → rX G E dX12_isValid mX12_isValid 133 [some (.ref E.1), none, some (.int x2), some (.int x3), none] [] S' Q) {rec : Int32 → Int32 → Int32 → rS → Nat × Int32 × Int32 × rS} {rok : Int32 → Int32 → Int32 → rS → Prop} (hrec : ∀ (x2 : Int32) (x3 : Int32) (x4 : Int32) (S : rS), rok x2 x3 x4 S → X (rec x2 x3 x4 S) → rX G E dX12_isValid mX12_isValid 91 [some (.ref E.1), none, some (.int x2), some (.int x3), some (.int x4)] [] S Q) {x2 : Int32} {x4 : Int32} {s0 : Int32} (ok : O_isValid_126 N rok x2 x4 s0 S) (hx : X (F_isValid_126 N rec x2 x4 s0 S)) : rX G E dX12_isValid mX12_isValid 126 [some (.ref E.1), none, some (.int x2), none, some (.int x4)] [.int s0] S Q := by
  unfold O_isValid_126 at ok
  unfold F_isValid_126 at hx
  refine r_istore_3 dX12_isValid_126 (by decide) rfl ?_
  refine r_iinc_4 (v := (x4 + nI 1)) dX12_isValid_127 rfl (by first | rfl | (congr 1)) (by decide) rfl ?_
  refine r_goto (tgt := 91) dX12_isValid_130 (by decide) ?_
  exact rX.cutz (hrec _ _ _ S ok hx) ⟨rfl, rfl, rfl, rfl, trivial⟩
def B_isValid_91 (N : Nat) (rec : Int32 → Int32 → Int32 → rS → Nat × Int32 × Int32 × rS) (x2 : Int32) (x3 : Int32) (x4 : Int32) (S : rS) : Nat × Int32 × Int32 × rS := (if (nI 32) ≤ x4 then (0, x2, x3, S) else (if x3 = 0 then (0, x2, x3, S) else (if (f_blockByte N S x2 ((nI 35) + x4)) = (f_rootByte N S x4) then (F_isValid_126 N rec x2 x4 (nI 1) S) else (F_isValid_126 N rec x2 x4 (nI 0) S))))
def OB_isValid_91 (N : Nat) (rok : Int32 → Int32 → Int32 → rS → Prop) (x2 : Int32) (x3 : Int32) (x4 : Int32) (S : rS) : Prop := (((nI 32) ≤ x4 → True) ∧ (¬ (nI 32) ≤ x4 → ((x3 = 0 → True) ∧ (¬ x3 = 0 → (o_blockByte N S x2 ((nI 35) + x4)) ∧ (o_rootByte N S x4) ∧ (((f_blockByte N S x2 ((nI 35) + x4)) = (f_rootByte N S x4) → O_isValid_126 N rok x2 x4 (nI 1) S) ∧ (¬ (f_blockByte N S x2 ((nI 35) + x4)) = (f_rootByte N S x4) → O_isValid_126 N rok x2 x4 (nI 0) S))))))
set_option maxHeartbeats 4000000 in
theorem bb_isValid_91 {G : zG} {E : rE} {S : rS} {N : Nat} {Q : Option Value → rS → Prop} {X : Nat × Int32 × Int32 × rS → Prop} (hG : zOK G) (hX0 : ∀ (x2 : Int32) (x3 : Int32) (S' : rS), X (0, x2, x3, S') → rX G E dX12_isValid mX12_isValid 133 [some (.ref E.1), none, some (.int x2), some (.int x3), none] [] S' Q) {rec : Int32 → Int32 → Int32 → rS → Nat × Int32 × Int32 × rS} {rok : Int32 → Int32 → Int32 → rS → Prop} (hrec : ∀ (x2 : Int32) (x3 : Int32) (x4 : Int32) (S : rS), rok x2 x3 x4 S → X (rec x2 x3 x4 S) → rX G E dX12_isValid mX12_isValid 91 [some (.ref E.1), none, some (.int x2), some (.int x3), some (.int x4)] [] S Q) {x2 : Int32} {x3 : Int32} {x4 : Int32} (ok : OB_isValid_91 N rok x2 x3 x4 S) (hx : X (B_isValid_91 N rec x2 x3 x4 S)) : rX G E dX12_isValid mX12_isValid 91 [some (.ref E.1), none, some (.int x2), some (.int x3), some (.int x4)] [] S Q := by
  unfold OB_isValid_91 at ok
  unfold B_isValid_91 at hx
  refine r_iload dX12_isValid_91 rfl ?_
  refine r_bipush (v := nI 32) dX12_isValid_93 (by decide) ?_
  refine r_icmp_ge (tgt := 133) dX12_isValid_95 (by decide) (fun c_95 => ?_) (fun c_95 => ?_)
  · have ok := ok.1 c_95
    have hx := xif_p c_95 hx
    exact rX.cutz (hX0 _ _ S hx) ⟨rfl, rfl, rfl, trivial⟩
  · have ok := ok.2 c_95
    have hx := xif_n c_95 hx
    refine r_iload_n dX12_isValid_98 rfl rfl ?_
    refine r_if_eq (tgt := 133) dX12_isValid_99 (by decide) (fun c_99 => ?_) (fun c_99 => ?_)
    · have ok := ok.1 c_99
      have hx := xif_p c_99 hx
      exact rX.cutz (hX0 _ _ S hx) ⟨rfl, rfl, rfl, trivial⟩
    · have ok := ok.2 c_99
      have hx := xif_n c_99 hx
      refine r_aload_n dX12_isValid_102 rfl rfl ?_
      refine r_iload_n dX12_isValid_103 rfl rfl ?_
      refine r_bipush (v := nI 35) dX12_isValid_104 (by decide) ?_
      refine r_iload dX12_isValid_106 rfl ?_
      refine r_iadd dX12_isValid_108 ?_
      refine r_V2i (y' := mX12_blockByte) dX12_isValid_109 lX12_67 kX12_blockByte ⟨by decide, by decide⟩ rfl (Nat.le_of_ble_eq_true rfl) (rc_X12_blockByte hG ok.1) (fun v_109 S_109 h_109 => ?_)
      obtain ⟨rfl, hS_109⟩ := h_109
      have hS_109 := hS_109.symm
      subst hS_109
      have ok := ok.2
      refine r_aload_n dX12_isValid_112 rfl rfl ?_
      refine r_iload dX12_isValid_113 rfl ?_
      refine r_V1i (y' := mX12_rootByte) dX12_isValid_115 lX12_152 kX12_rootByte ⟨by decide, by decide⟩ rfl (Nat.le_of_ble_eq_true rfl) (rc_X12_rootByte hG ok.1) (fun v_115 S_115 h_115 => ?_)
      obtain ⟨rfl, hS_115⟩ := h_115
      have hS_115 := hS_115.symm
      subst hS_115
      have ok := ok.2
      refine r_icmp_ne (tgt := 125) dX12_isValid_118 (by decide) (fun c_118 => ?_) (fun c_118 => ?_)
      · have ok := ok.2 c_118
        have hx := xif_n c_118 hx
        refine r_iconst (v := nI 0) dX12_isValid_125 (by decide) ?_
        exact rX.cutz (b_isValid_126 hG hX0 hrec ok hx) ⟨rfl, rfl, rfl, trivial⟩
      · have ok := ok.1 c_118
        have hx := xif_p c_118 hx
        refine r_iconst (v := nI 1) dX12_isValid_121 (by decide) ?_
        refine r_goto (tgt := 126) dX12_isValid_122 (by decide) ?_
        exact rX.cutz (b_isValid_126 hG hX0 hrec ok hx) ⟨rfl, rfl, rfl, trivial⟩
def L_isValid_91 (N : Nat) : Nat → Int32 → Int32 → Int32 → rS → Nat × Int32 × Int32 × rS
  | 0, x2, x3, x4, S => (0, 0, 0, S)
  | n + 1, x2, x3, x4, S => B_isValid_91 N (L_isValid_91 N n) x2 x3 x4 S
def OL_isValid_91 (N : Nat) : Nat → Int32 → Int32 → Int32 → rS → Prop
  | 0, _, _, _, _ => False
  | n + 1, x2, x3, x4, S => OB_isValid_91 N (OL_isValid_91 N n) x2 x3 x4 S
set_option maxHeartbeats 4000000 in
theorem l_isValid_91 {G : zG} {E : rE} {N : Nat} {Q : Option Value → rS → Prop} {X : Nat × Int32 × Int32 × rS → Prop} (hG : zOK G) (hX0 : ∀ (x2 : Int32) (x3 : Int32) (S' : rS), X (0, x2, x3, S') → rX G E dX12_isValid mX12_isValid 133 [some (.ref E.1), none, some (.int x2), some (.int x3), none] [] S' Q) : ∀ (n : Nat) (x2 : Int32) (x3 : Int32) (x4 : Int32) (S : rS), OL_isValid_91 N n x2 x3 x4 S → X (L_isValid_91 N n x2 x3 x4 S) → rX G E dX12_isValid mX12_isValid 91 [some (.ref E.1), none, some (.int x2), some (.int x3), some (.int x4)] [] S Q := by
  intro n
  induction n with
  | zero => intro x2 x3 x4 S ok; exact absurd ok id
  | succ n ih =>
    intro x2 x3 x4 S ok hx
    exact bb_isValid_91 hG hX0 (rec := L_isValid_91 N n) (rok := OL_isValid_91 N n) (fun x2 x3 x4 S ok hx => ih x2 x3 x4 S ok hx) ok hx
def A_isValid_91 (N : Nat) (x2 : Int32) (x3 : Int32) (x4 : Int32) (S : rS) (z : Nat × Int32 × Int32 × rS) : Int32 × rS := (F_isValid_133 N (z.2.1) (z.2.2.1) z.2.2.2)
def OA_isValid_91 (N : Nat) (x2 : Int32) (x3 : Int32) (x4 : Int32) (S : rS) (z : Nat × Int32 × Int32 × rS) : Prop := O_isValid_133 N (z.2.1) (z.2.2.1) z.2.2.2
set_option maxHeartbeats 4000000 in
theorem c_isValid_91 {G : zG} {E : rE} {S : rS} {N : Nat} {Q : Option Value → rS → Prop} {X : Int32 × rS → Prop} (hG : zOK G) (hR : ∀ v S', X (v, S') → Q (some (.int v)) S') {x2 : Int32} {x3 : Int32} {x4 : Int32} (ok : OL_isValid_91 N N x2 x3 x4 S ∧ OA_isValid_91 N x2 x3 x4 S (L_isValid_91 N N x2 x3 x4 S)) (hx : X (A_isValid_91 N x2 x3 x4 S (L_isValid_91 N N x2 x3 x4 S))) : rX G E dX12_isValid mX12_isValid 91 [some (.ref E.1), none, some (.int x2), some (.int x3), some (.int x4)] [] S Q := by
  refine l_isValid_91 hG ?_ N x2 x3 x4 S ok.1 (X := fun z => OA_isValid_91 N x2 x3 x4 S z ∧ X (A_isValid_91 N x2 x3 x4 S z)) ⟨ok.2, hx⟩
  · intro x2' x3' S' hz
    obtain ⟨ok, hx⟩ := hz
    unfold OA_isValid_91 at ok
    unfold A_isValid_91 at hx
    exact rX.cutz (b_isValid_133 hG hR ok hx) ⟨rfl, rfl, rfl, trivial⟩
def F_isValid_88 (N : Nat) (x2 : Int32) (x3 : Int32) (S : rS) : Int32 × rS := (A_isValid_91 N x2 x3 (nI 0) S (L_isValid_91 N N x2 x3 (nI 0) S))
def O_isValid_88 (N : Nat) (x2 : Int32) (x3 : Int32) (S : rS) : Prop := (OL_isValid_91 N N x2 x3 (nI 0) S ∧ OA_isValid_91 N x2 x3 (nI 0) S (L_isValid_91 N N x2 x3 (nI 0) S))
set_option maxHeartbeats 4000000 in
theorem b_isValid_88 {G : zG} {E : rE} {S : rS} {N : Nat} {Q : Option Value → rS → Prop} {X : Int32 × rS → Prop} (hG : zOK G) (hR : ∀ v S', X (v, S') → Q (some (.int v)) S') {x2 : Int32} {x3 : Int32} (ok : O_isValid_88 N x2 x3 S) (hx : X (F_isValid_88 N x2 x3 S)) : rX G E dX12_isValid mX12_isValid 88 [some (.ref E.1), none, some (.int x2), some (.int x3), none] [] S Q := by
  unfold O_isValid_88 at ok
  unfold F_isValid_88 at hx
  refine r_iconst (v := nI 0) dX12_isValid_88 (by decide) ?_
  refine r_istore_4 dX12_isValid_89 (by decide) rfl ?_
  exact rX.cutz (c_isValid_91 hG hR ok hx) ⟨rfl, rfl, rfl, rfl, trivial⟩
def F_isValid_84 (N : Nat) (x2 : Int32) (x3 : Int32) (S : rS) : Int32 × rS := (F_isValid_88 N x2 x3 (f_accountsRoot N S))
def O_isValid_84 (N : Nat) (x2 : Int32) (x3 : Int32) (S : rS) : Prop := (o_accountsRoot N S) ∧ O_isValid_88 N x2 x3 (f_accountsRoot N S)
set_option maxHeartbeats 4000000 in
theorem b_isValid_84 {G : zG} {E : rE} {S : rS} {N : Nat} {Q : Option Value → rS → Prop} {X : Int32 × rS → Prop} (hG : zOK G) (hR : ∀ v S', X (v, S') → Q (some (.int v)) S') {x2 : Int32} {x3 : Int32} (ok : O_isValid_84 N x2 x3 S) (hx : X (F_isValid_84 N x2 x3 S)) : rX G E dX12_isValid mX12_isValid 84 [some (.ref E.1), none, some (.int x2), some (.int x3), none] [] S Q := by
  unfold O_isValid_84 at ok
  unfold F_isValid_84 at hx
  refine r_aload_n dX12_isValid_84 rfl rfl ?_
  refine r_V0v (y' := mX12_accountsRoot) dX12_isValid_85 lX12_164 kX12_accountsRoot ⟨by decide, by decide⟩ rfl (Nat.le_of_ble_eq_true rfl) (rc_X12_accountsRoot hG ok.1) (fun S_85 h_85 => ?_)
  subst h_85
  have ok := ok.2
  exact rX.cutz (b_isValid_88 hG hR ok hx) ⟨rfl, rfl, rfl, trivial⟩
def F_isValid_73 (N : Nat) (x1 : Int32) (x2 : Int32) (x3 : Int32) (S : rS) : Int32 × rS := (if x3 = 0 then ((nI 0), S) else (F_isValid_84 N x2 x3 (f_reckon N S x1)))
def O_isValid_73 (N : Nat) (x1 : Int32) (x2 : Int32) (x3 : Int32) (S : rS) : Prop := ((x3 = 0 → True) ∧ (¬ x3 = 0 → (o_reckon N S x1) ∧ O_isValid_84 N x2 x3 (f_reckon N S x1)))
set_option maxHeartbeats 4000000 in
theorem b_isValid_73 {G : zG} {E : rE} {S : rS} {N : Nat} {Q : Option Value → rS → Prop} {X : Int32 × rS → Prop} (hG : zOK G) (hR : ∀ v S', X (v, S') → Q (some (.int v)) S') {x1 : Int32} {x2 : Int32} {x3 : Int32} (ok : O_isValid_73 N x1 x2 x3 S) (hx : X (F_isValid_73 N x1 x2 x3 S)) : rX G E dX12_isValid mX12_isValid 73 [some (.ref E.1), some (.int x1), some (.int x2), some (.int x3), none] [] S Q := by
  unfold O_isValid_73 at ok
  unfold F_isValid_73 at hx
  refine r_iload_n dX12_isValid_73 rfl rfl ?_
  refine r_if_ne (tgt := 79) dX12_isValid_74 (by decide) (fun c_74 => ?_) (fun c_74 => ?_)
  · have ok := ok.2 c_74
    have hx := xif_n c_74 hx
    refine r_aload_n dX12_isValid_79 rfl rfl ?_
    refine r_iload_n dX12_isValid_80 rfl rfl ?_
    refine r_V1v (y' := mX12_reckon) dX12_isValid_81 lX12_161 kX12_reckon ⟨by decide, by decide⟩ rfl (Nat.le_of_ble_eq_true rfl) (rc_X12_reckon hG ok.1) (fun S_81 h_81 => ?_)
    subst h_81
    have ok := ok.2
    exact rX.cutz (b_isValid_84 hG hR ok hx) ⟨rfl, rfl, rfl, trivial⟩
  · have ok := ok.1 c_74
    have hx := xif_p c_74 hx
    refine r_iconst (v := nI 0) dX12_isValid_77 (by decide) ?_
    exact r_ireturn rfl rfl dX12_isValid_78 (hR _ _ hx)
def F_isValid_66 (N : Nat) (rec : Int32 → Int32 → Int32 → Int32 → rS → Nat × Int32 × Int32 × Int32 × rS) (x1 : Int32) (x2 : Int32) (x4 : Int32) (s0 : Int32) (S : rS) : Nat × Int32 × Int32 × Int32 × rS := (rec x1 x2 s0 (x4 + nI 1) S)
def O_isValid_66 (N : Nat) (rok : Int32 → Int32 → Int32 → Int32 → rS → Prop) (x1 : Int32) (x2 : Int32) (x4 : Int32) (s0 : Int32) (S : rS) : Prop := rok x1 x2 s0 (x4 + nI 1) S
set_option maxHeartbeats 4000000 in
theorem b_isValid_66 {G : zG} {E : rE} {S : rS} {N : Nat} {Q : Option Value → rS → Prop} {X : Nat × Int32 × Int32 × Int32 × rS → Prop} (hG : zOK G) (hX0 : ∀ (x1 : Int32) (x2 : Int32) (x3 : Int32) (S' : rS), X (0, x1, x2, x3, S') → rX G E dX12_isValid mX12_isValid 73 [some (.ref E.1), some (.int x1), some (.int x2), some (.int x3), none] [] S' Q) {rec : Int32 → Int32 → Int32 → Int32 → rS → Nat × Int32 × Int32 × Int32 × rS} {rok : Int32 → Int32 → Int32 → Int32 → rS → Prop} (hrec : ∀ (x1 : Int32) (x2 : Int32) (x3 : Int32) (x4 : Int32) (S : rS), rok x1 x2 x3 x4 S → X (rec x1 x2 x3 x4 S) → rX G E dX12_isValid mX12_isValid 31 [some (.ref E.1), some (.int x1), some (.int x2), some (.int x3), some (.int x4)] [] S Q) {x1 : Int32} {x2 : Int32} {x4 : Int32} {s0 : Int32} (ok : O_isValid_66 N rok x1 x2 x4 s0 S) (hx : X (F_isValid_66 N rec x1 x2 x4 s0 S)) : rX G E dX12_isValid mX12_isValid 66 [some (.ref E.1), some (.int x1), some (.int x2), none, some (.int x4)] [.int s0] S Q := by
  unfold O_isValid_66 at ok
  unfold F_isValid_66 at hx
  refine r_istore_3 dX12_isValid_66 (by decide) rfl ?_
  refine r_iinc_4 (v := (x4 + nI 1)) dX12_isValid_67 rfl (by first | rfl | (congr 1)) (by decide) rfl ?_
  refine r_goto (tgt := 31) dX12_isValid_70 (by decide) ?_
  exact rX.cutz (hrec _ _ _ _ S ok hx) ⟨rfl, rfl, rfl, rfl, rfl, trivial⟩
def B_isValid_31 (N : Nat) (rec : Int32 → Int32 → Int32 → Int32 → rS → Nat × Int32 × Int32 × Int32 × rS) (x1 : Int32) (x2 : Int32) (x3 : Int32) (x4 : Int32) (S : rS) : Nat × Int32 × Int32 × Int32 × rS := (if (nI 32) ≤ x4 then (0, x1, x2, x3, S) else (if x3 = 0 then (0, x1, x2, x3, S) else (if (f_blockByte N S x2 ((nI 3) + x4)) = (f_lastByte N S x1 x4) then (F_isValid_66 N rec x1 x2 x4 (nI 1) S) else (F_isValid_66 N rec x1 x2 x4 (nI 0) S))))
def OB_isValid_31 (N : Nat) (rok : Int32 → Int32 → Int32 → Int32 → rS → Prop) (x1 : Int32) (x2 : Int32) (x3 : Int32) (x4 : Int32) (S : rS) : Prop := (((nI 32) ≤ x4 → True) ∧ (¬ (nI 32) ≤ x4 → ((x3 = 0 → True) ∧ (¬ x3 = 0 → (o_blockByte N S x2 ((nI 3) + x4)) ∧ (o_lastByte N S x1 x4) ∧ (((f_blockByte N S x2 ((nI 3) + x4)) = (f_lastByte N S x1 x4) → O_isValid_66 N rok x1 x2 x4 (nI 1) S) ∧ (¬ (f_blockByte N S x2 ((nI 3) + x4)) = (f_lastByte N S x1 x4) → O_isValid_66 N rok x1 x2 x4 (nI 0) S))))))
set_option maxHeartbeats 4000000 in
theorem bb_isValid_31 {G : zG} {E : rE} {S : rS} {N : Nat} {Q : Option Value → rS → Prop} {X : Nat × Int32 × Int32 × Int32 × rS → Prop} (hG : zOK G) (hX0 : ∀ (x1 : Int32) (x2 : Int32) (x3 : Int32) (S' : rS), X (0, x1, x2, x3, S') → rX G E dX12_isValid mX12_isValid 73 [some (.ref E.1), some (.int x1), some (.int x2), some (.int x3), none] [] S' Q) {rec : Int32 → Int32 → Int32 → Int32 → rS → Nat × Int32 × Int32 × Int32 × rS} {rok : Int32 → Int32 → Int32 → Int32 → rS → Prop} (hrec : ∀ (x1 : Int32) (x2 : Int32) (x3 : Int32) (x4 : Int32) (S : rS), rok x1 x2 x3 x4 S → X (rec x1 x2 x3 x4 S) → rX G E dX12_isValid mX12_isValid 31 [some (.ref E.1), some (.int x1), some (.int x2), some (.int x3), some (.int x4)] [] S Q) {x1 : Int32} {x2 : Int32} {x3 : Int32} {x4 : Int32} (ok : OB_isValid_31 N rok x1 x2 x3 x4 S) (hx : X (B_isValid_31 N rec x1 x2 x3 x4 S)) : rX G E dX12_isValid mX12_isValid 31 [some (.ref E.1), some (.int x1), some (.int x2), some (.int x3), some (.int x4)] [] S Q := by
  unfold OB_isValid_31 at ok
  unfold B_isValid_31 at hx
  refine r_iload dX12_isValid_31 rfl ?_
  refine r_bipush (v := nI 32) dX12_isValid_33 (by decide) ?_
  refine r_icmp_ge (tgt := 73) dX12_isValid_35 (by decide) (fun c_35 => ?_) (fun c_35 => ?_)
  · have ok := ok.1 c_35
    have hx := xif_p c_35 hx
    exact rX.cutz (hX0 _ _ _ S hx) ⟨rfl, rfl, rfl, rfl, trivial⟩
  · have ok := ok.2 c_35
    have hx := xif_n c_35 hx
    refine r_iload_n dX12_isValid_38 rfl rfl ?_
    refine r_if_eq (tgt := 73) dX12_isValid_39 (by decide) (fun c_39 => ?_) (fun c_39 => ?_)
    · have ok := ok.1 c_39
      have hx := xif_p c_39 hx
      exact rX.cutz (hX0 _ _ _ S hx) ⟨rfl, rfl, rfl, rfl, trivial⟩
    · have ok := ok.2 c_39
      have hx := xif_n c_39 hx
      refine r_aload_n dX12_isValid_42 rfl rfl ?_
      refine r_iload_n dX12_isValid_43 rfl rfl ?_
      refine r_iconst (v := nI 3) dX12_isValid_44 (by decide) ?_
      refine r_iload dX12_isValid_45 rfl ?_
      refine r_iadd dX12_isValid_47 ?_
      refine r_V2i (y' := mX12_blockByte) dX12_isValid_48 lX12_67 kX12_blockByte ⟨by decide, by decide⟩ rfl (Nat.le_of_ble_eq_true rfl) (rc_X12_blockByte hG ok.1) (fun v_48 S_48 h_48 => ?_)
      obtain ⟨rfl, hS_48⟩ := h_48
      have hS_48 := hS_48.symm
      subst hS_48
      have ok := ok.2
      refine r_aload_n dX12_isValid_51 rfl rfl ?_
      refine r_iload_n dX12_isValid_52 rfl rfl ?_
      refine r_iload dX12_isValid_53 rfl ?_
      refine r_V2i (y' := mX12_lastByte) dX12_isValid_55 lX12_158 kX12_lastByte ⟨by decide, by decide⟩ rfl (Nat.le_of_ble_eq_true rfl) (rc_X12_lastByte hG ok.1) (fun v_55 S_55 h_55 => ?_)
      obtain ⟨rfl, hS_55⟩ := h_55
      have hS_55 := hS_55.symm
      subst hS_55
      have ok := ok.2
      refine r_icmp_ne (tgt := 65) dX12_isValid_58 (by decide) (fun c_58 => ?_) (fun c_58 => ?_)
      · have ok := ok.2 c_58
        have hx := xif_n c_58 hx
        refine r_iconst (v := nI 0) dX12_isValid_65 (by decide) ?_
        exact rX.cutz (b_isValid_66 hG hX0 hrec ok hx) ⟨rfl, rfl, rfl, rfl, trivial⟩
      · have ok := ok.1 c_58
        have hx := xif_p c_58 hx
        refine r_iconst (v := nI 1) dX12_isValid_61 (by decide) ?_
        refine r_goto (tgt := 66) dX12_isValid_62 (by decide) ?_
        exact rX.cutz (b_isValid_66 hG hX0 hrec ok hx) ⟨rfl, rfl, rfl, rfl, trivial⟩
def L_isValid_31 (N : Nat) : Nat → Int32 → Int32 → Int32 → Int32 → rS → Nat × Int32 × Int32 × Int32 × rS
  | 0, x1, x2, x3, x4, S => (0, 0, 0, 0, S)
  | n + 1, x1, x2, x3, x4, S => B_isValid_31 N (L_isValid_31 N n) x1 x2 x3 x4 S
def OL_isValid_31 (N : Nat) : Nat → Int32 → Int32 → Int32 → Int32 → rS → Prop
  | 0, _, _, _, _, _ => False
  | n + 1, x1, x2, x3, x4, S => OB_isValid_31 N (OL_isValid_31 N n) x1 x2 x3 x4 S
set_option maxHeartbeats 4000000 in
theorem l_isValid_31 {G : zG} {E : rE} {N : Nat} {Q : Option Value → rS → Prop} {X : Nat × Int32 × Int32 × Int32 × rS → Prop} (hG : zOK G) (hX0 : ∀ (x1 : Int32) (x2 : Int32) (x3 : Int32) (S' : rS), X (0, x1, x2, x3, S') → rX G E dX12_isValid mX12_isValid 73 [some (.ref E.1), some (.int x1), some (.int x2), some (.int x3), none] [] S' Q) : ∀ (n : Nat) (x1 : Int32) (x2 : Int32) (x3 : Int32) (x4 : Int32) (S : rS), OL_isValid_31 N n x1 x2 x3 x4 S → X (L_isValid_31 N n x1 x2 x3 x4 S) → rX G E dX12_isValid mX12_isValid 31 [some (.ref E.1), some (.int x1), some (.int x2), some (.int x3), some (.int x4)] [] S Q := by
  intro n
  induction n with
  | zero => intro x1 x2 x3 x4 S ok; exact absurd ok id
  | succ n ih =>
    intro x1 x2 x3 x4 S ok hx
    exact bb_isValid_31 hG hX0 (rec := L_isValid_31 N n) (rok := OL_isValid_31 N n) (fun x1 x2 x3 x4 S ok hx => ih x1 x2 x3 x4 S ok hx) ok hx
def A_isValid_31 (N : Nat) (x1 : Int32) (x2 : Int32) (x3 : Int32) (x4 : Int32) (S : rS) (z : Nat × Int32 × Int32 × Int32 × rS) : Int32 × rS := (F_isValid_73 N (z.2.1) (z.2.2.1) (z.2.2.2.1) z.2.2.2.2)
def OA_isValid_31 (N : Nat) (x1 : Int32) (x2 : Int32) (x3 : Int32) (x4 : Int32) (S : rS) (z : Nat × Int32 × Int32 × Int32 × rS) : Prop := O_isValid_73 N (z.2.1) (z.2.2.1) (z.2.2.2.1) z.2.2.2.2
set_option maxHeartbeats 4000000 in
theorem c_isValid_31 {G : zG} {E : rE} {S : rS} {N : Nat} {Q : Option Value → rS → Prop} {X : Int32 × rS → Prop} (hG : zOK G) (hR : ∀ v S', X (v, S') → Q (some (.int v)) S') {x1 : Int32} {x2 : Int32} {x3 : Int32} {x4 : Int32} (ok : OL_isValid_31 N N x1 x2 x3 x4 S ∧ OA_isValid_31 N x1 x2 x3 x4 S (L_isValid_31 N N x1 x2 x3 x4 S)) (hx : X (A_isValid_31 N x1 x2 x3 x4 S (L_isValid_31 N N x1 x2 x3 x4 S))) : rX G E dX12_isValid mX12_isValid 31 [some (.ref E.1), some (.int x1), some (.int x2), some (.int x3), some (.int x4)] [] S Q := by
  refine l_isValid_31 hG ?_ N x1 x2 x3 x4 S ok.1 (X := fun z => OA_isValid_31 N x1 x2 x3 x4 S z ∧ X (A_isValid_31 N x1 x2 x3 x4 S z)) ⟨ok.2, hx⟩
  · intro x1' x2' x3' S' hz
    obtain ⟨ok, hx⟩ := hz
    unfold OA_isValid_31 at ok
    unfold A_isValid_31 at hx
    exact rX.cutz (b_isValid_73 hG hR ok hx) ⟨rfl, rfl, rfl, rfl, trivial⟩
def F_isValid_27 (N : Nat) (x1 : Int32) (x2 : Int32) (s0 : Int32) (S : rS) : Int32 × rS := (A_isValid_31 N x1 x2 s0 (nI 0) S (L_isValid_31 N N x1 x2 s0 (nI 0) S))
def O_isValid_27 (N : Nat) (x1 : Int32) (x2 : Int32) (s0 : Int32) (S : rS) : Prop := (OL_isValid_31 N N x1 x2 s0 (nI 0) S ∧ OA_isValid_31 N x1 x2 s0 (nI 0) S (L_isValid_31 N N x1 x2 s0 (nI 0) S))
set_option maxHeartbeats 4000000 in
theorem b_isValid_27 {G : zG} {E : rE} {S : rS} {N : Nat} {Q : Option Value → rS → Prop} {X : Int32 × rS → Prop} (hG : zOK G) (hR : ∀ v S', X (v, S') → Q (some (.int v)) S') {x1 : Int32} {x2 : Int32} {s0 : Int32} (ok : O_isValid_27 N x1 x2 s0 S) (hx : X (F_isValid_27 N x1 x2 s0 S)) : rX G E dX12_isValid mX12_isValid 27 [some (.ref E.1), some (.int x1), some (.int x2), none, none] [.int s0] S Q := by
  unfold O_isValid_27 at ok
  unfold F_isValid_27 at hx
  refine r_istore_3 dX12_isValid_27 (by decide) rfl ?_
  refine r_iconst (v := nI 0) dX12_isValid_28 (by decide) ?_
  refine r_istore_4 dX12_isValid_29 (by decide) rfl ?_
  exact rX.cutz (c_isValid_31 hG hR ok hx) ⟨rfl, rfl, rfl, rfl, rfl, trivial⟩
def F_isValid_26 (N : Nat) (x1 : Int32) (x2 : Int32) (S : rS) : Int32 × rS := (F_isValid_27 N x1 x2 (nI 0) S)
def O_isValid_26 (N : Nat) (x1 : Int32) (x2 : Int32) (S : rS) : Prop := O_isValid_27 N x1 x2 (nI 0) S
set_option maxHeartbeats 4000000 in
theorem b_isValid_26 {G : zG} {E : rE} {S : rS} {N : Nat} {Q : Option Value → rS → Prop} {X : Int32 × rS → Prop} (hG : zOK G) (hR : ∀ v S', X (v, S') → Q (some (.int v)) S') {x1 : Int32} {x2 : Int32} (ok : O_isValid_26 N x1 x2 S) (hx : X (F_isValid_26 N x1 x2 S)) : rX G E dX12_isValid mX12_isValid 26 [some (.ref E.1), some (.int x1), some (.int x2), none, none] [] S Q := by
  unfold O_isValid_26 at ok
  unfold F_isValid_26 at hx
  refine r_iconst (v := nI 0) dX12_isValid_26 (by decide) ?_
  exact rX.cutz (b_isValid_27 hG hR ok hx) ⟨rfl, rfl, rfl, trivial⟩
def F_isValid_0 (N : Nat) (x1 : Int32) (x2 : Int32) (S : rS) : Int32 × rS := (if (f_isThere N S x2) = 0 then (F_isValid_26 N x1 x2 S) else (if (f_heightOf N S x2) = (S.2.1 44 x1.toNatClampNeg) then (F_isValid_27 N x1 x2 (nI 1) S) else (F_isValid_26 N x1 x2 S)))
def O_isValid_0 (N : Nat) (x1 : Int32) (x2 : Int32) (S : rS) : Prop := (o_isThere N S x2) ∧ (((f_isThere N S x2) = 0 → O_isValid_26 N x1 x2 S) ∧ (¬ (f_isThere N S x2) = 0 → (o_heightOf N S x2) ∧ (vp_in x1 13) ∧ (((f_heightOf N S x2) = (S.2.1 44 x1.toNatClampNeg) → O_isValid_27 N x1 x2 (nI 1) S) ∧ (¬ (f_heightOf N S x2) = (S.2.1 44 x1.toNatClampNeg) → O_isValid_26 N x1 x2 S))))
set_option maxHeartbeats 4000000 in
theorem b_isValid_0 {G : zG} {E : rE} {S : rS} {N : Nat} {Q : Option Value → rS → Prop} {X : Int32 × rS → Prop} (hG : zOK G) (hR : ∀ v S', X (v, S') → Q (some (.int v)) S') {x1 : Int32} {x2 : Int32} (ok : O_isValid_0 N x1 x2 S) (hx : X (F_isValid_0 N x1 x2 S)) : rX G E dX12_isValid mX12_isValid 0 [some (.ref E.1), some (.int x1), some (.int x2), none, none] [] S Q := by
  unfold O_isValid_0 at ok
  unfold F_isValid_0 at hx
  refine r_aload_n dX12_isValid_0 rfl rfl ?_
  refine r_iload_n dX12_isValid_1 rfl rfl ?_
  refine r_V1i (y' := mX12_isThere) dX12_isValid_2 lX12_63 kX12_isThere ⟨by decide, by decide⟩ rfl (Nat.le_of_ble_eq_true rfl) (rc_X12_isThere hG ok.1) (fun v_2 S_2 h_2 => ?_)
  obtain ⟨rfl, hS_2⟩ := h_2
  have hS_2 := hS_2.symm
  subst hS_2
  have ok := ok.2
  refine r_if_eq (tgt := 26) dX12_isValid_5 (by decide) (fun c_5 => ?_) (fun c_5 => ?_)
  · have ok := ok.1 c_5
    have hx := xif_p c_5 hx
    exact rX.cutz (b_isValid_26 hG hR ok hx) ⟨rfl, rfl, rfl, trivial⟩
  · have ok := ok.2 c_5
    have hx := xif_n c_5 hx
    refine r_aload_n dX12_isValid_8 rfl rfl ?_
    refine r_iload_n dX12_isValid_9 rfl rfl ?_
    refine r_V1i (y' := mX12_heightOf) dX12_isValid_10 lX12_279 kX12_heightOf ⟨by decide, by decide⟩ rfl (Nat.le_of_ble_eq_true rfl) (rc_X12_heightOf hG ok.1) (fun v_10 S_10 h_10 => ?_)
    obtain ⟨rfl, hS_10⟩ := h_10
    have hS_10 := hS_10.symm
    subst hS_10
    have ok := ok.2
    refine r_aload_n dX12_isValid_13 rfl rfl ?_
    refine r_getA 44 fX12_309 (by decide) (by decide) dX12_isValid_14 ?_
    refine r_iload_n dX12_isValid_17 rfl rfl ?_
    refine r_iald (by decide) (by decide) dX12_isValid_18 ok.1 ?_
    have ok := ok.2
    refine r_icmp_ne (tgt := 26) dX12_isValid_19 (by decide) (fun c_19 => ?_) (fun c_19 => ?_)
    · have ok := ok.2 c_19
      have hx := xif_n c_19 hx
      exact rX.cutz (b_isValid_26 hG hR ok hx) ⟨rfl, rfl, rfl, trivial⟩
    · have ok := ok.1 c_19
      have hx := xif_p c_19 hx
      refine r_iconst (v := nI 1) dX12_isValid_22 (by decide) ?_
      refine r_goto (tgt := 27) dX12_isValid_23 (by decide) ?_
      exact rX.cutz (b_isValid_27 hG hR ok hx) ⟨rfl, rfl, rfl, trivial⟩
def f_isValid (N : Nat) (S : rS) (x1 : Int32) (x2 : Int32) : Int32 × rS := F_isValid_0 N x1 x2 S
def o_isValid (N : Nat) (S : rS) (x1 : Int32) (x2 : Int32) : Prop := O_isValid_0 N x1 x2 S
set_option maxHeartbeats 4000000 in
theorem rc_X12_isValid {G : zG} {E : rE} {S : rS} {N : Nat} (hG : zOK G) {x1 : Int32} {x2 : Int32} (ok : o_isValid N S x1 x2) : rCi G E dX12_isValid mX12_isValid [.ref E.1, .int x1, .int x2] S (fun v S' => v = (f_isValid N S x1 x2).1 ∧ S' = (f_isValid N S x1 x2).2) := by
  refine rC.ofX rfl (Nat.le_of_ble_eq_true rfl) ?_
  show rX G E dX12_isValid mX12_isValid 0 [some (.ref E.1), some (.int x1), some (.int x2), none, none] [] S _
  exact rX.cutz (b_isValid_0 (X := fun F => F = f_isValid N S x1 x2) hG (fun v S' h => ⟨v, rfl, by rw [← h], by rw [← h]⟩) ok rfl) ⟨rfl, rfl, rfl, trivial⟩
/-! isPoolAt -/
def F_isPoolAt_107 (N : Nat) (s0 : Int32) (S : rS) : Int32 := s0
def O_isPoolAt_107 (N : Nat) (s0 : Int32) (S : rS) : Prop := narrow .boolean (.int s0) = .int s0
set_option maxHeartbeats 4000000 in
theorem b_isPoolAt_107 {G : zG} {E : rE} {S : rS} {N : Nat} {Q : Option Value → rS → Prop} {X : Int32 → Prop} (hG : zOK G) (hR : ∀ v, X v → Q (some (.int v)) S) {s0 : Int32} (ok : O_isPoolAt_107 N s0 S) (hx : X (F_isPoolAt_107 N s0 S)) : rX G E dX12_isPoolAt mX12_isPoolAt 107 [none, none, none, none, none, none, none] [.int s0] S Q := by
  unfold O_isPoolAt_107 at ok
  unfold F_isPoolAt_107 at hx
  exact r_ireturn rfl ok dX12_isPoolAt_107 (hR _ hx)
def F_isPoolAt_106 (N : Nat)  (S : rS) : Int32 := (F_isPoolAt_107 N (nI 0) S)
def O_isPoolAt_106 (N : Nat)  (S : rS) : Prop := O_isPoolAt_107 N (nI 0) S
set_option maxHeartbeats 4000000 in
theorem b_isPoolAt_106 {G : zG} {E : rE} {S : rS} {N : Nat} {Q : Option Value → rS → Prop} {X : Int32 → Prop} (hG : zOK G) (hR : ∀ v, X v → Q (some (.int v)) S) (ok : O_isPoolAt_106 N S) (hx : X (F_isPoolAt_106 N S)) : rX G E dX12_isPoolAt mX12_isPoolAt 106 [none, none, none, none, none, none, none] [] S Q := by
  unfold O_isPoolAt_106 at ok
  unfold F_isPoolAt_106 at hx
  refine r_iconst (v := nI 0) dX12_isPoolAt_106 (by decide) ?_
  exact rX.cutz (b_isPoolAt_107 hG hR ok hx) trivial
def F_isPoolAt_0 (N : Nat) (x1 : Int32) (x2 : Int32) (x3 : Int32) (x4 : Int32) (x5 : Int32) (x6 : Int32) (S : rS) : Int32 := (if (S.2.1 54 x1.toNatClampNeg) = x2 then (if (S.2.1 54 (x1 + (nI 1)).toNatClampNeg) = x3 then (if (S.2.1 54 (x1 + (nI 2)).toNatClampNeg) = (x4 >>> ((nI 8) &&& 31)) then (if (S.2.1 54 (x1 + (nI 3)).toNatClampNeg) = (x4 &&& (nI 255)) then (if (S.2.1 54 (x1 + (nI 4)).toNatClampNeg) = (x5 >>> ((nI 8) &&& 31)) then (if (S.2.1 54 (x1 + (nI 5)).toNatClampNeg) = (x5 &&& (nI 255)) then (if (S.2.1 54 (x1 + (nI 6)).toNatClampNeg) = x6 then (F_isPoolAt_107 N (nI 1) S) else (F_isPoolAt_106 N S)) else (F_isPoolAt_106 N S)) else (F_isPoolAt_106 N S)) else (F_isPoolAt_106 N S)) else (F_isPoolAt_106 N S)) else (F_isPoolAt_106 N S)) else (F_isPoolAt_106 N S))
def O_isPoolAt_0 (N : Nat) (x1 : Int32) (x2 : Int32) (x3 : Int32) (x4 : Int32) (x5 : Int32) (x6 : Int32) (S : rS) : Prop := (vp_in x1 7280) ∧ (((S.2.1 54 x1.toNatClampNeg) = x2 → (vp_in (x1 + (nI 1)) 7280) ∧ (((S.2.1 54 (x1 + (nI 1)).toNatClampNeg) = x3 → (vp_in (x1 + (nI 2)) 7280) ∧ (((S.2.1 54 (x1 + (nI 2)).toNatClampNeg) = (x4 >>> ((nI 8) &&& 31)) → (vp_in (x1 + (nI 3)) 7280) ∧ (((S.2.1 54 (x1 + (nI 3)).toNatClampNeg) = (x4 &&& (nI 255)) → (vp_in (x1 + (nI 4)) 7280) ∧ (((S.2.1 54 (x1 + (nI 4)).toNatClampNeg) = (x5 >>> ((nI 8) &&& 31)) → (vp_in (x1 + (nI 5)) 7280) ∧ (((S.2.1 54 (x1 + (nI 5)).toNatClampNeg) = (x5 &&& (nI 255)) → (vp_in (x1 + (nI 6)) 7280) ∧ (((S.2.1 54 (x1 + (nI 6)).toNatClampNeg) = x6 → O_isPoolAt_107 N (nI 1) S) ∧ (¬ (S.2.1 54 (x1 + (nI 6)).toNatClampNeg) = x6 → O_isPoolAt_106 N S))) ∧ (¬ (S.2.1 54 (x1 + (nI 5)).toNatClampNeg) = (x5 &&& (nI 255)) → O_isPoolAt_106 N S))) ∧ (¬ (S.2.1 54 (x1 + (nI 4)).toNatClampNeg) = (x5 >>> ((nI 8) &&& 31)) → O_isPoolAt_106 N S))) ∧ (¬ (S.2.1 54 (x1 + (nI 3)).toNatClampNeg) = (x4 &&& (nI 255)) → O_isPoolAt_106 N S))) ∧ (¬ (S.2.1 54 (x1 + (nI 2)).toNatClampNeg) = (x4 >>> ((nI 8) &&& 31)) → O_isPoolAt_106 N S))) ∧ (¬ (S.2.1 54 (x1 + (nI 1)).toNatClampNeg) = x3 → O_isPoolAt_106 N S))) ∧ (¬ (S.2.1 54 x1.toNatClampNeg) = x2 → O_isPoolAt_106 N S))
set_option maxHeartbeats 4000000 in
theorem b_isPoolAt_0 {G : zG} {E : rE} {S : rS} {N : Nat} {Q : Option Value → rS → Prop} {X : Int32 → Prop} (hG : zOK G) (hR : ∀ v, X v → Q (some (.int v)) S) {x1 : Int32} {x2 : Int32} {x3 : Int32} {x4 : Int32} {x5 : Int32} {x6 : Int32} (ok : O_isPoolAt_0 N x1 x2 x3 x4 x5 x6 S) (hx : X (F_isPoolAt_0 N x1 x2 x3 x4 x5 x6 S)) : rX G E dX12_isPoolAt mX12_isPoolAt 0 [some (.ref E.1), some (.int x1), some (.int x2), some (.int x3), some (.int x4), some (.int x5), some (.int x6)] [] S Q := by
  unfold O_isPoolAt_0 at ok
  unfold F_isPoolAt_0 at hx
  refine r_aload_n dX12_isPoolAt_0 rfl rfl ?_
  refine r_getA 54 fX12_339 (by decide) (by decide) dX12_isPoolAt_1 ?_
  refine r_iload_n dX12_isPoolAt_4 rfl rfl ?_
  refine r_iald (by decide) (by decide) dX12_isPoolAt_5 ok.1 ?_
  have ok := ok.2
  refine r_iload_n dX12_isPoolAt_6 rfl rfl ?_
  refine r_icmp_ne (tgt := 106) dX12_isPoolAt_7 (by decide) (fun c_7 => ?_) (fun c_7 => ?_)
  · have ok := ok.2 c_7
    have hx := xif_n c_7 hx
    exact rX.cutz (b_isPoolAt_106 hG hR ok hx) trivial
  · have ok := ok.1 c_7
    have hx := xif_p c_7 hx
    refine r_aload_n dX12_isPoolAt_10 rfl rfl ?_
    refine r_getA 54 fX12_339 (by decide) (by decide) dX12_isPoolAt_11 ?_
    refine r_iload_n dX12_isPoolAt_14 rfl rfl ?_
    refine r_iconst (v := nI 1) dX12_isPoolAt_15 (by decide) ?_
    refine r_iadd dX12_isPoolAt_16 ?_
    refine r_iald (by decide) (by decide) dX12_isPoolAt_17 ok.1 ?_
    have ok := ok.2
    refine r_iload_n dX12_isPoolAt_18 rfl rfl ?_
    refine r_icmp_ne (tgt := 106) dX12_isPoolAt_19 (by decide) (fun c_19 => ?_) (fun c_19 => ?_)
    · have ok := ok.2 c_19
      have hx := xif_n c_19 hx
      exact rX.cutz (b_isPoolAt_106 hG hR ok hx) trivial
    · have ok := ok.1 c_19
      have hx := xif_p c_19 hx
      refine r_aload_n dX12_isPoolAt_22 rfl rfl ?_
      refine r_getA 54 fX12_339 (by decide) (by decide) dX12_isPoolAt_23 ?_
      refine r_iload_n dX12_isPoolAt_26 rfl rfl ?_
      refine r_iconst (v := nI 2) dX12_isPoolAt_27 (by decide) ?_
      refine r_iadd dX12_isPoolAt_28 ?_
      refine r_iald (by decide) (by decide) dX12_isPoolAt_29 ok.1 ?_
      have ok := ok.2
      refine r_iload dX12_isPoolAt_30 rfl ?_
      refine r_bipush (v := nI 8) dX12_isPoolAt_32 (by decide) ?_
      refine r_ishr dX12_isPoolAt_34 ?_
      refine r_icmp_ne (tgt := 106) dX12_isPoolAt_35 (by decide) (fun c_35 => ?_) (fun c_35 => ?_)
      · have ok := ok.2 c_35
        have hx := xif_n c_35 hx
        exact rX.cutz (b_isPoolAt_106 hG hR ok hx) trivial
      · have ok := ok.1 c_35
        have hx := xif_p c_35 hx
        refine r_aload_n dX12_isPoolAt_38 rfl rfl ?_
        refine r_getA 54 fX12_339 (by decide) (by decide) dX12_isPoolAt_39 ?_
        refine r_iload_n dX12_isPoolAt_42 rfl rfl ?_
        refine r_iconst (v := nI 3) dX12_isPoolAt_43 (by decide) ?_
        refine r_iadd dX12_isPoolAt_44 ?_
        refine r_iald (by decide) (by decide) dX12_isPoolAt_45 ok.1 ?_
        have ok := ok.2
        refine r_iload dX12_isPoolAt_46 rfl ?_
        refine r_sipush (v := nI 255) dX12_isPoolAt_48 (by decide) ?_
        refine r_iand dX12_isPoolAt_51 ?_
        refine r_icmp_ne (tgt := 106) dX12_isPoolAt_52 (by decide) (fun c_52 => ?_) (fun c_52 => ?_)
        · have ok := ok.2 c_52
          have hx := xif_n c_52 hx
          exact rX.cutz (b_isPoolAt_106 hG hR ok hx) trivial
        · have ok := ok.1 c_52
          have hx := xif_p c_52 hx
          refine r_aload_n dX12_isPoolAt_55 rfl rfl ?_
          refine r_getA 54 fX12_339 (by decide) (by decide) dX12_isPoolAt_56 ?_
          refine r_iload_n dX12_isPoolAt_59 rfl rfl ?_
          refine r_iconst (v := nI 4) dX12_isPoolAt_60 (by decide) ?_
          refine r_iadd dX12_isPoolAt_61 ?_
          refine r_iald (by decide) (by decide) dX12_isPoolAt_62 ok.1 ?_
          have ok := ok.2
          refine r_iload dX12_isPoolAt_63 rfl ?_
          refine r_bipush (v := nI 8) dX12_isPoolAt_65 (by decide) ?_
          refine r_ishr dX12_isPoolAt_67 ?_
          refine r_icmp_ne (tgt := 106) dX12_isPoolAt_68 (by decide) (fun c_68 => ?_) (fun c_68 => ?_)
          · have ok := ok.2 c_68
            have hx := xif_n c_68 hx
            exact rX.cutz (b_isPoolAt_106 hG hR ok hx) trivial
          · have ok := ok.1 c_68
            have hx := xif_p c_68 hx
            refine r_aload_n dX12_isPoolAt_71 rfl rfl ?_
            refine r_getA 54 fX12_339 (by decide) (by decide) dX12_isPoolAt_72 ?_
            refine r_iload_n dX12_isPoolAt_75 rfl rfl ?_
            refine r_iconst (v := nI 5) dX12_isPoolAt_76 (by decide) ?_
            refine r_iadd dX12_isPoolAt_77 ?_
            refine r_iald (by decide) (by decide) dX12_isPoolAt_78 ok.1 ?_
            have ok := ok.2
            refine r_iload dX12_isPoolAt_79 rfl ?_
            refine r_sipush (v := nI 255) dX12_isPoolAt_81 (by decide) ?_
            refine r_iand dX12_isPoolAt_84 ?_
            refine r_icmp_ne (tgt := 106) dX12_isPoolAt_85 (by decide) (fun c_85 => ?_) (fun c_85 => ?_)
            · have ok := ok.2 c_85
              have hx := xif_n c_85 hx
              exact rX.cutz (b_isPoolAt_106 hG hR ok hx) trivial
            · have ok := ok.1 c_85
              have hx := xif_p c_85 hx
              refine r_aload_n dX12_isPoolAt_88 rfl rfl ?_
              refine r_getA 54 fX12_339 (by decide) (by decide) dX12_isPoolAt_89 ?_
              refine r_iload_n dX12_isPoolAt_92 rfl rfl ?_
              refine r_bipush (v := nI 6) dX12_isPoolAt_93 (by decide) ?_
              refine r_iadd dX12_isPoolAt_95 ?_
              refine r_iald (by decide) (by decide) dX12_isPoolAt_96 ok.1 ?_
              have ok := ok.2
              refine r_iload dX12_isPoolAt_97 rfl ?_
              refine r_icmp_ne (tgt := 106) dX12_isPoolAt_99 (by decide) (fun c_99 => ?_) (fun c_99 => ?_)
              · have ok := ok.2 c_99
                have hx := xif_n c_99 hx
                exact rX.cutz (b_isPoolAt_106 hG hR ok hx) trivial
              · have ok := ok.1 c_99
                have hx := xif_p c_99 hx
                refine r_iconst (v := nI 1) dX12_isPoolAt_102 (by decide) ?_
                refine r_goto (tgt := 107) dX12_isPoolAt_103 (by decide) ?_
                exact rX.cutz (b_isPoolAt_107 hG hR ok hx) trivial
def f_isPoolAt (N : Nat) (S : rS) (x1 : Int32) (x2 : Int32) (x3 : Int32) (x4 : Int32) (x5 : Int32) (x6 : Int32) : Int32 := F_isPoolAt_0 N x1 x2 x3 x4 x5 x6 S
def o_isPoolAt (N : Nat) (S : rS) (x1 : Int32) (x2 : Int32) (x3 : Int32) (x4 : Int32) (x5 : Int32) (x6 : Int32) : Prop := O_isPoolAt_0 N x1 x2 x3 x4 x5 x6 S
set_option maxHeartbeats 4000000 in
theorem rc_X12_isPoolAt {G : zG} {E : rE} {S : rS} {N : Nat} (hG : zOK G) {x1 : Int32} {x2 : Int32} {x3 : Int32} {x4 : Int32} {x5 : Int32} {x6 : Int32} (ok : o_isPoolAt N S x1 x2 x3 x4 x5 x6) : rCi G E dX12_isPoolAt mX12_isPoolAt [.ref E.1, .int x1, .int x2, .int x3, .int x4, .int x5, .int x6] S (fun v S' => v = f_isPoolAt N S x1 x2 x3 x4 x5 x6 ∧ S' = S) := by
  refine rC.ofX rfl (Nat.le_of_ble_eq_true rfl) ?_
  show rX G E dX12_isPoolAt mX12_isPoolAt 0 [some (.ref E.1), some (.int x1), some (.int x2), some (.int x3), some (.int x4), some (.int x5), some (.int x6)] [] S _
  exact rX.cutz (b_isPoolAt_0 (X := fun F => F = f_isPoolAt N S x1 x2 x3 x4 x5 x6) hG (fun v h => ⟨v, rfl, h, rfl⟩) ok rfl) ⟨rfl, rfl, rfl, rfl, rfl, rfl, rfl, trivial⟩

/-! forgetHeight -/
def F_forgetHeight_72 (N : Nat)  (S : rS) : rS := S
def O_forgetHeight_72 (N : Nat)  (S : rS) : Prop := True
set_option maxHeartbeats 4000000 in
theorem b_forgetHeight_72 {G : zG} {E : rE} {S : rS} {N : Nat} {Q : Option Value → rS → Prop} {X : rS → Prop} (hG : zOK G) (hR : ∀ S', X S' → Q none S') (ok : O_forgetHeight_72 N S) (hx : X (F_forgetHeight_72 N S)) : rX G E dX12_forgetHeight mX12_forgetHeight 72 [none, none, none, none, none] [] S Q := by
  unfold O_forgetHeight_72 at ok
  unfold F_forgetHeight_72 at hx
  exact r_return rfl dX12_forgetHeight_72 (hR _ hx)
def F_forgetHeight_66 (N : Nat) (rec : Int32 → Int32 → Int32 → rS → Nat × rS) (x1 : Int32) (x2 : Int32) (x3 : Int32) (S : rS) : Nat × rS := (rec x1 x2 (x3 + nI 1) S)
def O_forgetHeight_66 (N : Nat) (rok : Int32 → Int32 → Int32 → rS → Prop) (x1 : Int32) (x2 : Int32) (x3 : Int32) (S : rS) : Prop := rok x1 x2 (x3 + nI 1) S
set_option maxHeartbeats 4000000 in
theorem b_forgetHeight_66 {G : zG} {E : rE} {S : rS} {N : Nat} {Q : Option Value → rS → Prop} {X : Nat × rS → Prop} (hG : zOK G) (hX0 : ∀ (S' : rS), X (0, S') → rX G E dX12_forgetHeight mX12_forgetHeight 72 [none, none, none, none, none] [] S' Q) {rec : Int32 → Int32 → Int32 → rS → Nat × rS} {rok : Int32 → Int32 → Int32 → rS → Prop} (hrec : ∀ (x1 : Int32) (x2 : Int32) (x3 : Int32) (S : rS), rok x1 x2 x3 S → X (rec x1 x2 x3 S) → rX G E dX12_forgetHeight mX12_forgetHeight 2 [some (.ref E.1), some (.int x1), some (.int x2), some (.int x3), none] [] S Q) {x1 : Int32} {x2 : Int32} {x3 : Int32} (ok : O_forgetHeight_66 N rok x1 x2 x3 S) (hx : X (F_forgetHeight_66 N rec x1 x2 x3 S)) : rX G E dX12_forgetHeight mX12_forgetHeight 66 [some (.ref E.1), some (.int x1), some (.int x2), some (.int x3), none] [] S Q := by
  unfold O_forgetHeight_66 at ok
  unfold F_forgetHeight_66 at hx
  refine r_iinc_3 (v := (x3 + nI 1)) dX12_forgetHeight_66 rfl (by first | rfl | (congr 1)) (by decide) rfl ?_
  refine r_goto (tgt := 2) dX12_forgetHeight_69 (by decide) ?_
  exact rX.cutz (hrec _ _ _ S ok hx) ⟨rfl, rfl, rfl, rfl, trivial⟩
def F_forgetHeight_60 (N : Nat) (rec : Int32 → Int32 → Int32 → Int32 → rS → Nat × Int32 × Int32 × Int32 × rS) (x1 : Int32) (x2 : Int32) (x3 : Int32) (x4 : Int32) (S : rS) : Nat × Int32 × Int32 × Int32 × rS := (rec x1 x2 x3 (x4 + nI 1) S)
def O_forgetHeight_60 (N : Nat) (rok : Int32 → Int32 → Int32 → Int32 → rS → Prop) (x1 : Int32) (x2 : Int32) (x3 : Int32) (x4 : Int32) (S : rS) : Prop := rok x1 x2 x3 (x4 + nI 1) S
set_option maxHeartbeats 4000000 in
theorem b_forgetHeight_60 {G : zG} {E : rE} {S : rS} {N : Nat} {Q : Option Value → rS → Prop} {X : Nat × Int32 × Int32 × Int32 × rS → Prop} (hG : zOK G) (hX0 : ∀ (x1 : Int32) (x2 : Int32) (x3 : Int32) (S' : rS), X (0, x1, x2, x3, S') → rX G E dX12_forgetHeight mX12_forgetHeight 66 [some (.ref E.1), some (.int x1), some (.int x2), some (.int x3), none] [] S' Q) {rec : Int32 → Int32 → Int32 → Int32 → rS → Nat × Int32 × Int32 × Int32 × rS} {rok : Int32 → Int32 → Int32 → Int32 → rS → Prop} (hrec : ∀ (x1 : Int32) (x2 : Int32) (x3 : Int32) (x4 : Int32) (S : rS), rok x1 x2 x3 x4 S → X (rec x1 x2 x3 x4 S) → rX G E dX12_forgetHeight mX12_forgetHeight 23 [some (.ref E.1), some (.int x1), some (.int x2), some (.int x3), some (.int x4)] [] S Q) {x1 : Int32} {x2 : Int32} {x3 : Int32} {x4 : Int32} (ok : O_forgetHeight_60 N rok x1 x2 x3 x4 S) (hx : X (F_forgetHeight_60 N rec x1 x2 x3 x4 S)) : rX G E dX12_forgetHeight mX12_forgetHeight 60 [some (.ref E.1), some (.int x1), some (.int x2), some (.int x3), some (.int x4)] [] S Q := by
  unfold O_forgetHeight_60 at ok
  unfold F_forgetHeight_60 at hx
  refine r_iinc_4 (v := (x4 + nI 1)) dX12_forgetHeight_60 rfl (by first | rfl | (congr 1)) (by decide) rfl ?_
  refine r_goto (tgt := 23) dX12_forgetHeight_63 (by decide) ?_
  exact rX.cutz (hrec _ _ _ _ S ok hx) ⟨rfl, rfl, rfl, rfl, rfl, trivial⟩
def B_forgetHeight_23 (N : Nat) (rec : Int32 → Int32 → Int32 → Int32 → rS → Nat × Int32 × Int32 × Int32 × rS) (x1 : Int32) (x2 : Int32) (x3 : Int32) (x4 : Int32) (S : rS) : Nat × Int32 × Int32 × Int32 × rS := (if (nI 13) ≤ x4 then (0, x1, x2, x3, S) else (F_forgetHeight_60 N rec x1 x2 x3 x4 (rsA (rsA S 60 (f_voteAt N S (nI 0) x1 x2 x3 x4).toNatClampNeg (nI 0)) 60 (f_voteAt N (rsA S 60 (f_voteAt N S (nI 0) x1 x2 x3 x4).toNatClampNeg (nI 0)) (nI 1) x1 x2 x3 x4).toNatClampNeg (nI 0))))
def OB_forgetHeight_23 (N : Nat) (rok : Int32 → Int32 → Int32 → Int32 → rS → Prop) (x1 : Int32) (x2 : Int32) (x3 : Int32) (x4 : Int32) (S : rS) : Prop := (((nI 13) ≤ x4 → True) ∧ (¬ (nI 13) ≤ x4 → (o_voteAt N S (nI 0) x1 x2 x3 x4) ∧ (vp_in (f_voteAt N S (nI 0) x1 x2 x3 x4) 10816) ∧ (o_voteAt N (rsA S 60 (f_voteAt N S (nI 0) x1 x2 x3 x4).toNatClampNeg (nI 0)) (nI 1) x1 x2 x3 x4) ∧ (vp_in (f_voteAt N (rsA S 60 (f_voteAt N S (nI 0) x1 x2 x3 x4).toNatClampNeg (nI 0)) (nI 1) x1 x2 x3 x4) 10816) ∧ O_forgetHeight_60 N rok x1 x2 x3 x4 (rsA (rsA S 60 (f_voteAt N S (nI 0) x1 x2 x3 x4).toNatClampNeg (nI 0)) 60 (f_voteAt N (rsA S 60 (f_voteAt N S (nI 0) x1 x2 x3 x4).toNatClampNeg (nI 0)) (nI 1) x1 x2 x3 x4).toNatClampNeg (nI 0))))
set_option maxHeartbeats 4000000 in
theorem bb_forgetHeight_23 {G : zG} {E : rE} {S : rS} {N : Nat} {Q : Option Value → rS → Prop} {X : Nat × Int32 × Int32 × Int32 × rS → Prop} (hG : zOK G) (hX0 : ∀ (x1 : Int32) (x2 : Int32) (x3 : Int32) (S' : rS), X (0, x1, x2, x3, S') → rX G E dX12_forgetHeight mX12_forgetHeight 66 [some (.ref E.1), some (.int x1), some (.int x2), some (.int x3), none] [] S' Q) {rec : Int32 → Int32 → Int32 → Int32 → rS → Nat × Int32 × Int32 × Int32 × rS} {rok : Int32 → Int32 → Int32 → Int32 → rS → Prop} (hrec : ∀ (x1 : Int32) (x2 : Int32) (x3 : Int32) (x4 : Int32) (S : rS), rok x1 x2 x3 x4 S → X (rec x1 x2 x3 x4 S) → rX G E dX12_forgetHeight mX12_forgetHeight 23 [some (.ref E.1), some (.int x1), some (.int x2), some (.int x3), some (.int x4)] [] S Q) {x1 : Int32} {x2 : Int32} {x3 : Int32} {x4 : Int32} (ok : OB_forgetHeight_23 N rok x1 x2 x3 x4 S) (hx : X (B_forgetHeight_23 N rec x1 x2 x3 x4 S)) : rX G E dX12_forgetHeight mX12_forgetHeight 23 [some (.ref E.1), some (.int x1), some (.int x2), some (.int x3), some (.int x4)] [] S Q := by
  unfold OB_forgetHeight_23 at ok
  unfold B_forgetHeight_23 at hx
  refine r_iload dX12_forgetHeight_23 rfl ?_
  refine r_bipush (v := nI 13) dX12_forgetHeight_25 (by decide) ?_
  refine r_icmp_ge (tgt := 66) dX12_forgetHeight_27 (by decide) (fun c_27 => ?_) (fun c_27 => ?_)
  · have ok := ok.1 c_27
    have hx := xif_p c_27 hx
    exact rX.cutz (hX0 _ _ _ S hx) ⟨rfl, rfl, rfl, rfl, trivial⟩
  · have ok := ok.2 c_27
    have hx := xif_n c_27 hx
    refine r_aload_n dX12_forgetHeight_30 rfl rfl ?_
    refine r_getA 60 fX12_357 (by decide) (by decide) dX12_forgetHeight_31 ?_
    refine r_iconst (v := nI 0) dX12_forgetHeight_34 (by decide) ?_
    refine r_iload_n dX12_forgetHeight_35 rfl rfl ?_
    refine r_iload_n dX12_forgetHeight_36 rfl rfl ?_
    refine r_iload_n dX12_forgetHeight_37 rfl rfl ?_
    refine r_iload dX12_forgetHeight_38 rfl ?_
    refine r_S5i (y' := mX12_voteAt) dX12_forgetHeight_40 lX12_470 kX12_voteAt ⟨by decide, by decide⟩ (Nat.le_of_ble_eq_true rfl) (rc_X12_voteAt hG ok.1) (fun v_40 S_40 h_40 => ?_)
    obtain ⟨rfl, hS_40⟩ := h_40
    have hS_40 := hS_40.symm
    subst hS_40
    have ok := ok.2
    refine r_iconst (v := nI 0) dX12_forgetHeight_43 (by decide) ?_
    refine r_iast hG (by decide) (by decide) dX12_forgetHeight_44 ok.1 ?_
    have ok := ok.2
    refine r_aload_n dX12_forgetHeight_45 rfl rfl ?_
    refine r_getA 60 fX12_357 (by decide) (by decide) dX12_forgetHeight_46 ?_
    refine r_iconst (v := nI 1) dX12_forgetHeight_49 (by decide) ?_
    refine r_iload_n dX12_forgetHeight_50 rfl rfl ?_
    refine r_iload_n dX12_forgetHeight_51 rfl rfl ?_
    refine r_iload_n dX12_forgetHeight_52 rfl rfl ?_
    refine r_iload dX12_forgetHeight_53 rfl ?_
    refine r_S5i (y' := mX12_voteAt) dX12_forgetHeight_55 lX12_470 kX12_voteAt ⟨by decide, by decide⟩ (Nat.le_of_ble_eq_true rfl) (rc_X12_voteAt hG ok.1) (fun v_55 S_55 h_55 => ?_)
    obtain ⟨rfl, hS_55⟩ := h_55
    have hS_55 := hS_55.symm
    subst hS_55
    have ok := ok.2
    refine r_iconst (v := nI 0) dX12_forgetHeight_58 (by decide) ?_
    refine r_iast hG (by decide) (by decide) dX12_forgetHeight_59 ok.1 ?_
    have ok := ok.2
    exact rX.cutz (b_forgetHeight_60 hG hX0 hrec ok hx) ⟨rfl, rfl, rfl, rfl, rfl, trivial⟩
def L_forgetHeight_23 (N : Nat) : Nat → Int32 → Int32 → Int32 → Int32 → rS → Nat × Int32 × Int32 × Int32 × rS
  | 0, x1, x2, x3, x4, S => (0, 0, 0, 0, S)
  | n + 1, x1, x2, x3, x4, S => B_forgetHeight_23 N (L_forgetHeight_23 N n) x1 x2 x3 x4 S
def OL_forgetHeight_23 (N : Nat) : Nat → Int32 → Int32 → Int32 → Int32 → rS → Prop
  | 0, _, _, _, _, _ => False
  | n + 1, x1, x2, x3, x4, S => OB_forgetHeight_23 N (OL_forgetHeight_23 N n) x1 x2 x3 x4 S
set_option maxHeartbeats 4000000 in
theorem l_forgetHeight_23 {G : zG} {E : rE} {N : Nat} {Q : Option Value → rS → Prop} {X : Nat × Int32 × Int32 × Int32 × rS → Prop} (hG : zOK G) (hX0 : ∀ (x1 : Int32) (x2 : Int32) (x3 : Int32) (S' : rS), X (0, x1, x2, x3, S') → rX G E dX12_forgetHeight mX12_forgetHeight 66 [some (.ref E.1), some (.int x1), some (.int x2), some (.int x3), none] [] S' Q) : ∀ (n : Nat) (x1 : Int32) (x2 : Int32) (x3 : Int32) (x4 : Int32) (S : rS), OL_forgetHeight_23 N n x1 x2 x3 x4 S → X (L_forgetHeight_23 N n x1 x2 x3 x4 S) → rX G E dX12_forgetHeight mX12_forgetHeight 23 [some (.ref E.1), some (.int x1), some (.int x2), some (.int x3), some (.int x4)] [] S Q := by
  intro n
  induction n with
  | zero => intro x1 x2 x3 x4 S ok; exact absurd ok id
  | succ n ih =>
    intro x1 x2 x3 x4 S ok hx
    exact bb_forgetHeight_23 hG hX0 (rec := L_forgetHeight_23 N n) (rok := OL_forgetHeight_23 N n) (fun x1 x2 x3 x4 S ok hx => ih x1 x2 x3 x4 S ok hx) ok hx
def A_forgetHeight_23 (N : Nat) (rec : Int32 → Int32 → Int32 → rS → Nat × rS) (x1 : Int32) (x2 : Int32) (x3 : Int32) (x4 : Int32) (S : rS) (z : Nat × Int32 × Int32 × Int32 × rS) : Nat × rS := (F_forgetHeight_66 N rec (z.2.1) (z.2.2.1) (z.2.2.2.1) z.2.2.2.2)
def OA_forgetHeight_23 (N : Nat) (rok : Int32 → Int32 → Int32 → rS → Prop) (x1 : Int32) (x2 : Int32) (x3 : Int32) (x4 : Int32) (S : rS) (z : Nat × Int32 × Int32 × Int32 × rS) : Prop := O_forgetHeight_66 N rok (z.2.1) (z.2.2.1) (z.2.2.2.1) z.2.2.2.2
set_option maxHeartbeats 4000000 in
theorem c_forgetHeight_23 {G : zG} {E : rE} {S : rS} {N : Nat} {Q : Option Value → rS → Prop} {X : Nat × rS → Prop} (hG : zOK G) (hX0 : ∀ (S' : rS), X (0, S') → rX G E dX12_forgetHeight mX12_forgetHeight 72 [none, none, none, none, none] [] S' Q) {rec : Int32 → Int32 → Int32 → rS → Nat × rS} {rok : Int32 → Int32 → Int32 → rS → Prop} (hrec : ∀ (x1 : Int32) (x2 : Int32) (x3 : Int32) (S : rS), rok x1 x2 x3 S → X (rec x1 x2 x3 S) → rX G E dX12_forgetHeight mX12_forgetHeight 2 [some (.ref E.1), some (.int x1), some (.int x2), some (.int x3), none] [] S Q) {x1 : Int32} {x2 : Int32} {x3 : Int32} {x4 : Int32} (ok : OL_forgetHeight_23 N N x1 x2 x3 x4 S ∧ OA_forgetHeight_23 N rok x1 x2 x3 x4 S (L_forgetHeight_23 N N x1 x2 x3 x4 S)) (hx : X (A_forgetHeight_23 N rec x1 x2 x3 x4 S (L_forgetHeight_23 N N x1 x2 x3 x4 S))) : rX G E dX12_forgetHeight mX12_forgetHeight 23 [some (.ref E.1), some (.int x1), some (.int x2), some (.int x3), some (.int x4)] [] S Q := by
  refine l_forgetHeight_23 hG ?_ N x1 x2 x3 x4 S ok.1 (X := fun z => OA_forgetHeight_23 N rok x1 x2 x3 x4 S z ∧ X (A_forgetHeight_23 N rec x1 x2 x3 x4 S z)) ⟨ok.2, hx⟩
  · intro x1' x2' x3' S' hz
    obtain ⟨ok, hx⟩ := hz
    unfold OA_forgetHeight_23 at ok
    unfold A_forgetHeight_23 at hx
    exact rX.cutz (b_forgetHeight_66 hG hX0 hrec ok hx) ⟨rfl, rfl, rfl, rfl, trivial⟩
def F_forgetHeight_20 (N : Nat) (rec : Int32 → Int32 → Int32 → rS → Nat × rS) (x1 : Int32) (x2 : Int32) (x3 : Int32) (S : rS) : Nat × rS := (A_forgetHeight_23 N rec x1 x2 x3 (nI 0) S (L_forgetHeight_23 N N x1 x2 x3 (nI 0) S))
def O_forgetHeight_20 (N : Nat) (rok : Int32 → Int32 → Int32 → rS → Prop) (x1 : Int32) (x2 : Int32) (x3 : Int32) (S : rS) : Prop := (OL_forgetHeight_23 N N x1 x2 x3 (nI 0) S ∧ OA_forgetHeight_23 N rok x1 x2 x3 (nI 0) S (L_forgetHeight_23 N N x1 x2 x3 (nI 0) S))
set_option maxHeartbeats 4000000 in
theorem b_forgetHeight_20 {G : zG} {E : rE} {S : rS} {N : Nat} {Q : Option Value → rS → Prop} {X : Nat × rS → Prop} (hG : zOK G) (hX0 : ∀ (S' : rS), X (0, S') → rX G E dX12_forgetHeight mX12_forgetHeight 72 [none, none, none, none, none] [] S' Q) {rec : Int32 → Int32 → Int32 → rS → Nat × rS} {rok : Int32 → Int32 → Int32 → rS → Prop} (hrec : ∀ (x1 : Int32) (x2 : Int32) (x3 : Int32) (S : rS), rok x1 x2 x3 S → X (rec x1 x2 x3 S) → rX G E dX12_forgetHeight mX12_forgetHeight 2 [some (.ref E.1), some (.int x1), some (.int x2), some (.int x3), none] [] S Q) {x1 : Int32} {x2 : Int32} {x3 : Int32} (ok : O_forgetHeight_20 N rok x1 x2 x3 S) (hx : X (F_forgetHeight_20 N rec x1 x2 x3 S)) : rX G E dX12_forgetHeight mX12_forgetHeight 20 [some (.ref E.1), some (.int x1), some (.int x2), some (.int x3), none] [] S Q := by
  unfold O_forgetHeight_20 at ok
  unfold F_forgetHeight_20 at hx
  refine r_iconst (v := nI 0) dX12_forgetHeight_20 (by decide) ?_
  refine r_istore_4 dX12_forgetHeight_21 (by decide) rfl ?_
  exact rX.cutz (c_forgetHeight_23 hG hX0 hrec ok hx) ⟨rfl, rfl, rfl, rfl, rfl, trivial⟩
def B_forgetHeight_2 (N : Nat) (rec : Int32 → Int32 → Int32 → rS → Nat × rS) (x1 : Int32) (x2 : Int32) (x3 : Int32) (S : rS) : Nat × rS := (if (nI 16) ≤ x3 then (0, S) else (F_forgetHeight_20 N rec x1 x2 x3 (f_clear N S ((nI 0) + (f_heldAt N S x1 x2 x3)))))
def OB_forgetHeight_2 (N : Nat) (rok : Int32 → Int32 → Int32 → rS → Prop) (x1 : Int32) (x2 : Int32) (x3 : Int32) (S : rS) : Prop := (((nI 16) ≤ x3 → True) ∧ (¬ (nI 16) ≤ x3 → (o_heldAt N S x1 x2 x3) ∧ (o_clear N S ((nI 0) + (f_heldAt N S x1 x2 x3))) ∧ O_forgetHeight_20 N rok x1 x2 x3 (f_clear N S ((nI 0) + (f_heldAt N S x1 x2 x3)))))
set_option maxHeartbeats 4000000 in
theorem bb_forgetHeight_2 {G : zG} {E : rE} {S : rS} {N : Nat} {Q : Option Value → rS → Prop} {X : Nat × rS → Prop} (hG : zOK G) (hX0 : ∀ (S' : rS), X (0, S') → rX G E dX12_forgetHeight mX12_forgetHeight 72 [none, none, none, none, none] [] S' Q) {rec : Int32 → Int32 → Int32 → rS → Nat × rS} {rok : Int32 → Int32 → Int32 → rS → Prop} (hrec : ∀ (x1 : Int32) (x2 : Int32) (x3 : Int32) (S : rS), rok x1 x2 x3 S → X (rec x1 x2 x3 S) → rX G E dX12_forgetHeight mX12_forgetHeight 2 [some (.ref E.1), some (.int x1), some (.int x2), some (.int x3), none] [] S Q) {x1 : Int32} {x2 : Int32} {x3 : Int32} (ok : OB_forgetHeight_2 N rok x1 x2 x3 S) (hx : X (B_forgetHeight_2 N rec x1 x2 x3 S)) : rX G E dX12_forgetHeight mX12_forgetHeight 2 [some (.ref E.1), some (.int x1), some (.int x2), some (.int x3), none] [] S Q := by
  unfold OB_forgetHeight_2 at ok
  unfold B_forgetHeight_2 at hx
  refine r_iload_n dX12_forgetHeight_2 rfl rfl ?_
  refine r_bipush (v := nI 16) dX12_forgetHeight_3 (by decide) ?_
  refine r_icmp_ge (tgt := 72) dX12_forgetHeight_5 (by decide) (fun c_5 => ?_) (fun c_5 => ?_)
  · have ok := ok.1 c_5
    have hx := xif_p c_5 hx
    exact rX.cutz (hX0 S hx) trivial
  · have ok := ok.2 c_5
    have hx := xif_n c_5 hx
    refine r_aload_n dX12_forgetHeight_8 rfl rfl ?_
    refine r_iconst (v := nI 0) dX12_forgetHeight_9 (by decide) ?_
    refine r_iload_n dX12_forgetHeight_10 rfl rfl ?_
    refine r_iload_n dX12_forgetHeight_11 rfl rfl ?_
    refine r_iload_n dX12_forgetHeight_12 rfl rfl ?_
    refine r_S3i (y' := mX12_heldAt) dX12_forgetHeight_13 lX12_466 kX12_heldAt ⟨by decide, by decide⟩ (Nat.le_of_ble_eq_true rfl) (rc_X12_heldAt hG ok.1) (fun v_13 S_13 h_13 => ?_)
    obtain ⟨rfl, hS_13⟩ := h_13
    have hS_13 := hS_13.symm
    subst hS_13
    have ok := ok.2
    refine r_iadd dX12_forgetHeight_16 ?_
    refine r_V1v (y' := mX12_clear) dX12_forgetHeight_17 lX12_463 kX12_clear ⟨by decide, by decide⟩ rfl (Nat.le_of_ble_eq_true rfl) (rc_X12_clear hG ok.1) (fun S_17 h_17 => ?_)
    subst h_17
    have ok := ok.2
    exact rX.cutz (b_forgetHeight_20 hG hX0 hrec ok hx) ⟨rfl, rfl, rfl, rfl, trivial⟩
def L_forgetHeight_2 (N : Nat) : Nat → Int32 → Int32 → Int32 → rS → Nat × rS
  | 0, x1, x2, x3, S => (0, S)
  | n + 1, x1, x2, x3, S => B_forgetHeight_2 N (L_forgetHeight_2 N n) x1 x2 x3 S
def OL_forgetHeight_2 (N : Nat) : Nat → Int32 → Int32 → Int32 → rS → Prop
  | 0, _, _, _, _ => False
  | n + 1, x1, x2, x3, S => OB_forgetHeight_2 N (OL_forgetHeight_2 N n) x1 x2 x3 S
set_option maxHeartbeats 4000000 in
theorem l_forgetHeight_2 {G : zG} {E : rE} {N : Nat} {Q : Option Value → rS → Prop} {X : Nat × rS → Prop} (hG : zOK G) (hX0 : ∀ (S' : rS), X (0, S') → rX G E dX12_forgetHeight mX12_forgetHeight 72 [none, none, none, none, none] [] S' Q) : ∀ (n : Nat) (x1 : Int32) (x2 : Int32) (x3 : Int32) (S : rS), OL_forgetHeight_2 N n x1 x2 x3 S → X (L_forgetHeight_2 N n x1 x2 x3 S) → rX G E dX12_forgetHeight mX12_forgetHeight 2 [some (.ref E.1), some (.int x1), some (.int x2), some (.int x3), none] [] S Q := by
  intro n
  induction n with
  | zero => intro x1 x2 x3 S ok; exact absurd ok id
  | succ n ih =>
    intro x1 x2 x3 S ok hx
    exact bb_forgetHeight_2 hG hX0 (rec := L_forgetHeight_2 N n) (rok := OL_forgetHeight_2 N n) (fun x1 x2 x3 S ok hx => ih x1 x2 x3 S ok hx) ok hx
def A_forgetHeight_2 (N : Nat) (x1 : Int32) (x2 : Int32) (x3 : Int32) (S : rS) (z : Nat × rS) : rS := (F_forgetHeight_72 N z.2)
def OA_forgetHeight_2 (N : Nat) (x1 : Int32) (x2 : Int32) (x3 : Int32) (S : rS) (z : Nat × rS) : Prop := O_forgetHeight_72 N z.2
set_option maxHeartbeats 4000000 in
theorem c_forgetHeight_2 {G : zG} {E : rE} {S : rS} {N : Nat} {Q : Option Value → rS → Prop} {X : rS → Prop} (hG : zOK G) (hR : ∀ S', X S' → Q none S') {x1 : Int32} {x2 : Int32} {x3 : Int32} (ok : OL_forgetHeight_2 N N x1 x2 x3 S ∧ OA_forgetHeight_2 N x1 x2 x3 S (L_forgetHeight_2 N N x1 x2 x3 S)) (hx : X (A_forgetHeight_2 N x1 x2 x3 S (L_forgetHeight_2 N N x1 x2 x3 S))) : rX G E dX12_forgetHeight mX12_forgetHeight 2 [some (.ref E.1), some (.int x1), some (.int x2), some (.int x3), none] [] S Q := by
  refine l_forgetHeight_2 hG ?_ N x1 x2 x3 S ok.1 (X := fun z => OA_forgetHeight_2 N x1 x2 x3 S z ∧ X (A_forgetHeight_2 N x1 x2 x3 S z)) ⟨ok.2, hx⟩
  · intro S' hz
    obtain ⟨ok, hx⟩ := hz
    unfold OA_forgetHeight_2 at ok
    unfold A_forgetHeight_2 at hx
    exact rX.cutz (b_forgetHeight_72 hG hR ok hx) trivial
def F_forgetHeight_0 (N : Nat) (x1 : Int32) (x2 : Int32) (S : rS) : rS := (A_forgetHeight_2 N x1 x2 (nI 0) S (L_forgetHeight_2 N N x1 x2 (nI 0) S))
def O_forgetHeight_0 (N : Nat) (x1 : Int32) (x2 : Int32) (S : rS) : Prop := (OL_forgetHeight_2 N N x1 x2 (nI 0) S ∧ OA_forgetHeight_2 N x1 x2 (nI 0) S (L_forgetHeight_2 N N x1 x2 (nI 0) S))
set_option maxHeartbeats 4000000 in
theorem b_forgetHeight_0 {G : zG} {E : rE} {S : rS} {N : Nat} {Q : Option Value → rS → Prop} {X : rS → Prop} (hG : zOK G) (hR : ∀ S', X S' → Q none S') {x1 : Int32} {x2 : Int32} (ok : O_forgetHeight_0 N x1 x2 S) (hx : X (F_forgetHeight_0 N x1 x2 S)) : rX G E dX12_forgetHeight mX12_forgetHeight 0 [some (.ref E.1), some (.int x1), some (.int x2), none, none] [] S Q := by
  unfold O_forgetHeight_0 at ok
  unfold F_forgetHeight_0 at hx
  refine r_iconst (v := nI 0) dX12_forgetHeight_0 (by decide) ?_
  refine r_istore_3 dX12_forgetHeight_1 (by decide) rfl ?_
  exact rX.cutz (c_forgetHeight_2 hG hR ok hx) ⟨rfl, rfl, rfl, rfl, trivial⟩
def f_forgetHeight (N : Nat) (S : rS) (x1 : Int32) (x2 : Int32) : rS := F_forgetHeight_0 N x1 x2 S
def o_forgetHeight (N : Nat) (S : rS) (x1 : Int32) (x2 : Int32) : Prop := O_forgetHeight_0 N x1 x2 S
set_option maxHeartbeats 4000000 in
theorem rc_X12_forgetHeight {G : zG} {E : rE} {S : rS} {N : Nat} (hG : zOK G) {x1 : Int32} {x2 : Int32} (ok : o_forgetHeight N S x1 x2) : rCv G E dX12_forgetHeight mX12_forgetHeight [.ref E.1, .int x1, .int x2] S (fun S' => S' = f_forgetHeight N S x1 x2) := by
  refine rC.ofX rfl (Nat.le_of_ble_eq_true rfl) ?_
  show rX G E dX12_forgetHeight mX12_forgetHeight 0 [some (.ref E.1), some (.int x1), some (.int x2), none, none] [] S _
  exact rX.cutz (b_forgetHeight_0 (X := fun F => F = f_forgetHeight N S x1 x2) hG (fun S' h => ⟨rfl, h⟩) ok rfl) ⟨rfl, rfl, rfl, trivial⟩
/-! forgetSaid -/
def F_forgetSaid_28 (N : Nat)  (S : rS) : rS := S
def O_forgetSaid_28 (N : Nat)  (S : rS) : Prop := True
set_option maxHeartbeats 4000000 in
theorem b_forgetSaid_28 {G : zG} {E : rE} {S : rS} {N : Nat} {Q : Option Value → rS → Prop} {X : rS → Prop} (hG : zOK G) (hR : ∀ S', X S' → Q none S') (ok : O_forgetSaid_28 N S) (hx : X (F_forgetSaid_28 N S)) : rX G E dX12_forgetSaid mX12_forgetSaid 28 [none, none, none] [] S Q := by
  unfold O_forgetSaid_28 at ok
  unfold F_forgetSaid_28 at hx
  exact r_return rfl dX12_forgetSaid_28 (hR _ hx)
def F_forgetSaid_22 (N : Nat) (rec : Int32 → Int32 → rS → Nat × rS) (x1 : Int32) (x2 : Int32) (S : rS) : Nat × rS := (rec x1 (x2 + nI 1) S)
def O_forgetSaid_22 (N : Nat) (rok : Int32 → Int32 → rS → Prop) (x1 : Int32) (x2 : Int32) (S : rS) : Prop := rok x1 (x2 + nI 1) S
set_option maxHeartbeats 4000000 in
theorem b_forgetSaid_22 {G : zG} {E : rE} {S : rS} {N : Nat} {Q : Option Value → rS → Prop} {X : Nat × rS → Prop} (hG : zOK G) (hX0 : ∀ (S' : rS), X (0, S') → rX G E dX12_forgetSaid mX12_forgetSaid 28 [none, none, none] [] S' Q) {rec : Int32 → Int32 → rS → Nat × rS} {rok : Int32 → Int32 → rS → Prop} (hrec : ∀ (x1 : Int32) (x2 : Int32) (S : rS), rok x1 x2 S → X (rec x1 x2 S) → rX G E dX12_forgetSaid mX12_forgetSaid 2 [some (.ref E.1), some (.int x1), some (.int x2)] [] S Q) {x1 : Int32} {x2 : Int32} (ok : O_forgetSaid_22 N rok x1 x2 S) (hx : X (F_forgetSaid_22 N rec x1 x2 S)) : rX G E dX12_forgetSaid mX12_forgetSaid 22 [some (.ref E.1), some (.int x1), some (.int x2)] [] S Q := by
  unfold O_forgetSaid_22 at ok
  unfold F_forgetSaid_22 at hx
  refine r_iinc_2 (v := (x2 + nI 1)) dX12_forgetSaid_22 rfl (by first | rfl | (congr 1)) (by decide) rfl ?_
  refine r_goto (tgt := 2) dX12_forgetSaid_25 (by decide) ?_
  exact rX.cutz (hrec _ _ S ok hx) ⟨rfl, rfl, rfl, trivial⟩
def B_forgetSaid_2 (N : Nat) (rec : Int32 → Int32 → rS → Nat × rS) (x1 : Int32) (x2 : Int32) (S : rS) : Nat × rS := (if (nI 13) ≤ x2 then (0, S) else (F_forgetSaid_22 N rec x1 x2 (f_clear N S (((nI 416) + ((nI 13) * x1)) + x2))))
def OB_forgetSaid_2 (N : Nat) (rok : Int32 → Int32 → rS → Prop) (x1 : Int32) (x2 : Int32) (S : rS) : Prop := (((nI 13) ≤ x2 → True) ∧ (¬ (nI 13) ≤ x2 → (o_clear N S (((nI 416) + ((nI 13) * x1)) + x2)) ∧ O_forgetSaid_22 N rok x1 x2 (f_clear N S (((nI 416) + ((nI 13) * x1)) + x2))))
set_option maxHeartbeats 4000000 in
theorem bb_forgetSaid_2 {G : zG} {E : rE} {S : rS} {N : Nat} {Q : Option Value → rS → Prop} {X : Nat × rS → Prop} (hG : zOK G) (hX0 : ∀ (S' : rS), X (0, S') → rX G E dX12_forgetSaid mX12_forgetSaid 28 [none, none, none] [] S' Q) {rec : Int32 → Int32 → rS → Nat × rS} {rok : Int32 → Int32 → rS → Prop} (hrec : ∀ (x1 : Int32) (x2 : Int32) (S : rS), rok x1 x2 S → X (rec x1 x2 S) → rX G E dX12_forgetSaid mX12_forgetSaid 2 [some (.ref E.1), some (.int x1), some (.int x2)] [] S Q) {x1 : Int32} {x2 : Int32} (ok : OB_forgetSaid_2 N rok x1 x2 S) (hx : X (B_forgetSaid_2 N rec x1 x2 S)) : rX G E dX12_forgetSaid mX12_forgetSaid 2 [some (.ref E.1), some (.int x1), some (.int x2)] [] S Q := by
  unfold OB_forgetSaid_2 at ok
  unfold B_forgetSaid_2 at hx
  refine r_iload_n dX12_forgetSaid_2 rfl rfl ?_
  refine r_bipush (v := nI 13) dX12_forgetSaid_3 (by decide) ?_
  refine r_icmp_ge (tgt := 28) dX12_forgetSaid_5 (by decide) (fun c_5 => ?_) (fun c_5 => ?_)
  · have ok := ok.1 c_5
    have hx := xif_p c_5 hx
    exact rX.cutz (hX0 S hx) trivial
  · have ok := ok.2 c_5
    have hx := xif_n c_5 hx
    refine r_aload_n dX12_forgetSaid_8 rfl rfl ?_
    refine r_sipush (v := nI 416) dX12_forgetSaid_9 (by decide) ?_
    refine r_bipush (v := nI 13) dX12_forgetSaid_12 (by decide) ?_
    refine r_iload_n dX12_forgetSaid_14 rfl rfl ?_
    refine r_imul dX12_forgetSaid_15 ?_
    refine r_iadd dX12_forgetSaid_16 ?_
    refine r_iload_n dX12_forgetSaid_17 rfl rfl ?_
    refine r_iadd dX12_forgetSaid_18 ?_
    refine r_V1v (y' := mX12_clear) dX12_forgetSaid_19 lX12_463 kX12_clear ⟨by decide, by decide⟩ rfl (Nat.le_of_ble_eq_true rfl) (rc_X12_clear hG ok.1) (fun S_19 h_19 => ?_)
    subst h_19
    have ok := ok.2
    exact rX.cutz (b_forgetSaid_22 hG hX0 hrec ok hx) ⟨rfl, rfl, rfl, trivial⟩
def L_forgetSaid_2 (N : Nat) : Nat → Int32 → Int32 → rS → Nat × rS
  | 0, x1, x2, S => (0, S)
  | n + 1, x1, x2, S => B_forgetSaid_2 N (L_forgetSaid_2 N n) x1 x2 S
def OL_forgetSaid_2 (N : Nat) : Nat → Int32 → Int32 → rS → Prop
  | 0, _, _, _ => False
  | n + 1, x1, x2, S => OB_forgetSaid_2 N (OL_forgetSaid_2 N n) x1 x2 S
set_option maxHeartbeats 4000000 in
theorem l_forgetSaid_2 {G : zG} {E : rE} {N : Nat} {Q : Option Value → rS → Prop} {X : Nat × rS → Prop} (hG : zOK G) (hX0 : ∀ (S' : rS), X (0, S') → rX G E dX12_forgetSaid mX12_forgetSaid 28 [none, none, none] [] S' Q) : ∀ (n : Nat) (x1 : Int32) (x2 : Int32) (S : rS), OL_forgetSaid_2 N n x1 x2 S → X (L_forgetSaid_2 N n x1 x2 S) → rX G E dX12_forgetSaid mX12_forgetSaid 2 [some (.ref E.1), some (.int x1), some (.int x2)] [] S Q := by
  intro n
  induction n with
  | zero => intro x1 x2 S ok; exact absurd ok id
  | succ n ih =>
    intro x1 x2 S ok hx
    exact bb_forgetSaid_2 hG hX0 (rec := L_forgetSaid_2 N n) (rok := OL_forgetSaid_2 N n) (fun x1 x2 S ok hx => ih x1 x2 S ok hx) ok hx
def A_forgetSaid_2 (N : Nat) (x1 : Int32) (x2 : Int32) (S : rS) (z : Nat × rS) : rS := (F_forgetSaid_28 N z.2)
def OA_forgetSaid_2 (N : Nat) (x1 : Int32) (x2 : Int32) (S : rS) (z : Nat × rS) : Prop := O_forgetSaid_28 N z.2
set_option maxHeartbeats 4000000 in
theorem c_forgetSaid_2 {G : zG} {E : rE} {S : rS} {N : Nat} {Q : Option Value → rS → Prop} {X : rS → Prop} (hG : zOK G) (hR : ∀ S', X S' → Q none S') {x1 : Int32} {x2 : Int32} (ok : OL_forgetSaid_2 N N x1 x2 S ∧ OA_forgetSaid_2 N x1 x2 S (L_forgetSaid_2 N N x1 x2 S)) (hx : X (A_forgetSaid_2 N x1 x2 S (L_forgetSaid_2 N N x1 x2 S))) : rX G E dX12_forgetSaid mX12_forgetSaid 2 [some (.ref E.1), some (.int x1), some (.int x2)] [] S Q := by
  refine l_forgetSaid_2 hG ?_ N x1 x2 S ok.1 (X := fun z => OA_forgetSaid_2 N x1 x2 S z ∧ X (A_forgetSaid_2 N x1 x2 S z)) ⟨ok.2, hx⟩
  · intro S' hz
    obtain ⟨ok, hx⟩ := hz
    unfold OA_forgetSaid_2 at ok
    unfold A_forgetSaid_2 at hx
    exact rX.cutz (b_forgetSaid_28 hG hR ok hx) trivial
def F_forgetSaid_0 (N : Nat) (x1 : Int32) (S : rS) : rS := (A_forgetSaid_2 N x1 (nI 0) S (L_forgetSaid_2 N N x1 (nI 0) S))
def O_forgetSaid_0 (N : Nat) (x1 : Int32) (S : rS) : Prop := (OL_forgetSaid_2 N N x1 (nI 0) S ∧ OA_forgetSaid_2 N x1 (nI 0) S (L_forgetSaid_2 N N x1 (nI 0) S))
set_option maxHeartbeats 4000000 in
theorem b_forgetSaid_0 {G : zG} {E : rE} {S : rS} {N : Nat} {Q : Option Value → rS → Prop} {X : rS → Prop} (hG : zOK G) (hR : ∀ S', X S' → Q none S') {x1 : Int32} (ok : O_forgetSaid_0 N x1 S) (hx : X (F_forgetSaid_0 N x1 S)) : rX G E dX12_forgetSaid mX12_forgetSaid 0 [some (.ref E.1), some (.int x1), none] [] S Q := by
  unfold O_forgetSaid_0 at ok
  unfold F_forgetSaid_0 at hx
  refine r_iconst (v := nI 0) dX12_forgetSaid_0 (by decide) ?_
  refine r_istore_2 dX12_forgetSaid_1 (by decide) rfl ?_
  exact rX.cutz (c_forgetSaid_2 hG hR ok hx) ⟨rfl, rfl, rfl, trivial⟩
def f_forgetSaid (N : Nat) (S : rS) (x1 : Int32) : rS := F_forgetSaid_0 N x1 S
def o_forgetSaid (N : Nat) (S : rS) (x1 : Int32) : Prop := O_forgetSaid_0 N x1 S
set_option maxHeartbeats 4000000 in
theorem rc_X12_forgetSaid {G : zG} {E : rE} {S : rS} {N : Nat} (hG : zOK G) {x1 : Int32} (ok : o_forgetSaid N S x1) : rCv G E dX12_forgetSaid mX12_forgetSaid [.ref E.1, .int x1] S (fun S' => S' = f_forgetSaid N S x1) := by
  refine rC.ofX rfl (Nat.le_of_ble_eq_true rfl) ?_
  show rX G E dX12_forgetSaid mX12_forgetSaid 0 [some (.ref E.1), some (.int x1), none] [] S _
  exact rX.cutz (b_forgetSaid_0 (X := fun F => F = f_forgetSaid N S x1) hG (fun S' h => ⟨rfl, h⟩) ok rfl) ⟨rfl, rfl, trivial⟩
/-! proposer -/
def F_proposer_0 (N : Nat) (x1 : Int32) (x2 : Int32) (S : rS) : Int32 := ((x1 + x2) - (x1 + x2) / (S.1 0) * (S.1 0))
def O_proposer_0 (N : Nat) (x1 : Int32) (x2 : Int32) (S : rS) : Prop := (¬ (S.1 0) = 0) ∧ True
set_option maxHeartbeats 4000000 in
theorem b_proposer_0 {G : zG} {E : rE} {S : rS} {N : Nat} {Q : Option Value → rS → Prop} {X : Int32 → Prop} (hG : zOK G) (hR : ∀ v, X v → Q (some (.int v)) S) {x1 : Int32} {x2 : Int32} (ok : O_proposer_0 N x1 x2 S) (hx : X (F_proposer_0 N x1 x2 S)) : rX G E dX12_proposer mX12_proposer 0 [some (.ref E.1), some (.int x1), some (.int x2)] [] S Q := by
  unfold O_proposer_0 at ok
  unfold F_proposer_0 at hx
  refine r_iload_n dX12_proposer_0 rfl rfl ?_
  refine r_iload_n dX12_proposer_1 rfl rfl ?_
  refine r_iadd dX12_proposer_2 ?_
  refine r_aload_n dX12_proposer_3 rfl rfl ?_
  refine r_getI 0 fX12_219 (by decide) (by decide) dX12_proposer_4 ?_
  refine r_irem dX12_proposer_7 ok.1 ?_
  have ok := ok.2
  exact r_ireturn rfl rfl dX12_proposer_8 (hR _ hx)
def f_proposer (N : Nat) (S : rS) (x1 : Int32) (x2 : Int32) : Int32 := F_proposer_0 N x1 x2 S
def o_proposer (N : Nat) (S : rS) (x1 : Int32) (x2 : Int32) : Prop := O_proposer_0 N x1 x2 S
set_option maxHeartbeats 4000000 in
theorem rc_X12_proposer {G : zG} {E : rE} {S : rS} {N : Nat} (hG : zOK G) {x1 : Int32} {x2 : Int32} (ok : o_proposer N S x1 x2) : rCi G E dX12_proposer mX12_proposer [.ref E.1, .int x1, .int x2] S (fun v S' => v = f_proposer N S x1 x2 ∧ S' = S) := by
  refine rC.ofX rfl (Nat.le_of_ble_eq_true rfl) ?_
  show rX G E dX12_proposer mX12_proposer 0 [some (.ref E.1), some (.int x1), some (.int x2)] [] S _
  exact rX.cutz (b_proposer_0 (X := fun F => F = f_proposer N S x1 x2) hG (fun v h => ⟨v, rfl, h, rfl⟩) ok rfl) ⟨rfl, rfl, rfl, trivial⟩
/-! fall -/
def F_fall_74 (N : Nat)  (S : rS) : rS := S
def O_fall_74 (N : Nat)  (S : rS) : Prop := True
set_option maxHeartbeats 4000000 in
theorem b_fall_74 {G : zG} {E : rE} {S : rS} {N : Nat} {Q : Option Value → rS → Prop} {X : rS → Prop} (hG : zOK G) (hR : ∀ S', X S' → Q none S') (ok : O_fall_74 N S) (hx : X (F_fall_74 N S)) : rX G E dX12_fall mX12_fall 74 [none, none, none] [] S Q := by
  unfold O_fall_74 at ok
  unfold F_fall_74 at hx
  exact r_return rfl dX12_fall_74 (hR _ hx)
def F_fall_68 (N : Nat) (rec : Int32 → Int32 → rS → Nat × rS) (x1 : Int32) (x2 : Int32) (S : rS) : Nat × rS := (rec x1 (x2 + nI 1) S)
def O_fall_68 (N : Nat) (rok : Int32 → Int32 → rS → Prop) (x1 : Int32) (x2 : Int32) (S : rS) : Prop := rok x1 (x2 + nI 1) S
set_option maxHeartbeats 4000000 in
theorem b_fall_68 {G : zG} {E : rE} {S : rS} {N : Nat} {Q : Option Value → rS → Prop} {X : Nat × rS → Prop} (hG : zOK G) (hX0 : ∀ (S' : rS), X (0, S') → rX G E dX12_fall mX12_fall 74 [none, none, none] [] S' Q) {rec : Int32 → Int32 → rS → Nat × rS} {rok : Int32 → Int32 → rS → Prop} (hrec : ∀ (x1 : Int32) (x2 : Int32) (S : rS), rok x1 x2 S → X (rec x1 x2 S) → rX G E dX12_fall mX12_fall 38 [some (.ref E.1), some (.int x1), some (.int x2)] [] S Q) {x1 : Int32} {x2 : Int32} (ok : O_fall_68 N rok x1 x2 S) (hx : X (F_fall_68 N rec x1 x2 S)) : rX G E dX12_fall mX12_fall 68 [some (.ref E.1), some (.int x1), some (.int x2)] [] S Q := by
  unfold O_fall_68 at ok
  unfold F_fall_68 at hx
  refine r_iinc_2 (v := (x2 + nI 1)) dX12_fall_68 rfl (by first | rfl | (congr 1)) (by decide) rfl ?_
  refine r_goto (tgt := 38) dX12_fall_71 (by decide) ?_
  exact rX.cutz (hrec _ _ S ok hx) ⟨rfl, rfl, rfl, trivial⟩
def B_fall_38 (N : Nat) (rec : Int32 → Int32 → rS → Nat × rS) (x1 : Int32) (x2 : Int32) (S : rS) : Nat × rS := (if (nI 13) ≤ x2 then (0, S) else (F_fall_68 N rec x1 x2 (rsA (rsA S 55 (((nI 13) * x1) + x2).toNatClampNeg (nI 0)) 57 (((nI 13) * x1) + x2).toNatClampNeg (nI 0))))
def OB_fall_38 (N : Nat) (rok : Int32 → Int32 → rS → Prop) (x1 : Int32) (x2 : Int32) (S : rS) : Prop := (((nI 13) ≤ x2 → True) ∧ (¬ (nI 13) ≤ x2 → (vp_in (((nI 13) * x1) + x2) 169) ∧ (vp_in (((nI 13) * x1) + x2) 169) ∧ O_fall_68 N rok x1 x2 (rsA (rsA S 55 (((nI 13) * x1) + x2).toNatClampNeg (nI 0)) 57 (((nI 13) * x1) + x2).toNatClampNeg (nI 0))))
set_option maxHeartbeats 4000000 in
theorem bb_fall_38 {G : zG} {E : rE} {S : rS} {N : Nat} {Q : Option Value → rS → Prop} {X : Nat × rS → Prop} (hG : zOK G) (hX0 : ∀ (S' : rS), X (0, S') → rX G E dX12_fall mX12_fall 74 [none, none, none] [] S' Q) {rec : Int32 → Int32 → rS → Nat × rS} {rok : Int32 → Int32 → rS → Prop} (hrec : ∀ (x1 : Int32) (x2 : Int32) (S : rS), rok x1 x2 S → X (rec x1 x2 S) → rX G E dX12_fall mX12_fall 38 [some (.ref E.1), some (.int x1), some (.int x2)] [] S Q) {x1 : Int32} {x2 : Int32} (ok : OB_fall_38 N rok x1 x2 S) (hx : X (B_fall_38 N rec x1 x2 S)) : rX G E dX12_fall mX12_fall 38 [some (.ref E.1), some (.int x1), some (.int x2)] [] S Q := by
  unfold OB_fall_38 at ok
  unfold B_fall_38 at hx
  refine r_iload_n dX12_fall_38 rfl rfl ?_
  refine r_bipush (v := nI 13) dX12_fall_39 (by decide) ?_
  refine r_icmp_ge (tgt := 74) dX12_fall_41 (by decide) (fun c_41 => ?_) (fun c_41 => ?_)
  · have ok := ok.1 c_41
    have hx := xif_p c_41 hx
    exact rX.cutz (hX0 S hx) trivial
  · have ok := ok.2 c_41
    have hx := xif_n c_41 hx
    refine r_aload_n dX12_fall_44 rfl rfl ?_
    refine r_getA 55 fX12_342 (by decide) (by decide) dX12_fall_45 ?_
    refine r_bipush (v := nI 13) dX12_fall_48 (by decide) ?_
    refine r_iload_n dX12_fall_50 rfl rfl ?_
    refine r_imul dX12_fall_51 ?_
    refine r_iload_n dX12_fall_52 rfl rfl ?_
    refine r_iadd dX12_fall_53 ?_
    refine r_iconst (v := nI 0) dX12_fall_54 (by decide) ?_
    refine r_iast hG (by decide) (by decide) dX12_fall_55 ok.1 ?_
    have ok := ok.2
    refine r_aload_n dX12_fall_56 rfl rfl ?_
    refine r_getA 57 fX12_348 (by decide) (by decide) dX12_fall_57 ?_
    refine r_bipush (v := nI 13) dX12_fall_60 (by decide) ?_
    refine r_iload_n dX12_fall_62 rfl rfl ?_
    refine r_imul dX12_fall_63 ?_
    refine r_iload_n dX12_fall_64 rfl rfl ?_
    refine r_iadd dX12_fall_65 ?_
    refine r_iconst (v := nI 0) dX12_fall_66 (by decide) ?_
    refine r_iast hG (by decide) (by decide) dX12_fall_67 ok.1 ?_
    have ok := ok.2
    exact rX.cutz (b_fall_68 hG hX0 hrec ok hx) ⟨rfl, rfl, rfl, trivial⟩
def L_fall_38 (N : Nat) : Nat → Int32 → Int32 → rS → Nat × rS
  | 0, x1, x2, S => (0, S)
  | n + 1, x1, x2, S => B_fall_38 N (L_fall_38 N n) x1 x2 S
def OL_fall_38 (N : Nat) : Nat → Int32 → Int32 → rS → Prop
  | 0, _, _, _ => False
  | n + 1, x1, x2, S => OB_fall_38 N (OL_fall_38 N n) x1 x2 S
set_option maxHeartbeats 4000000 in
theorem l_fall_38 {G : zG} {E : rE} {N : Nat} {Q : Option Value → rS → Prop} {X : Nat × rS → Prop} (hG : zOK G) (hX0 : ∀ (S' : rS), X (0, S') → rX G E dX12_fall mX12_fall 74 [none, none, none] [] S' Q) : ∀ (n : Nat) (x1 : Int32) (x2 : Int32) (S : rS), OL_fall_38 N n x1 x2 S → X (L_fall_38 N n x1 x2 S) → rX G E dX12_fall mX12_fall 38 [some (.ref E.1), some (.int x1), some (.int x2)] [] S Q := by
  intro n
  induction n with
  | zero => intro x1 x2 S ok; exact absurd ok id
  | succ n ih =>
    intro x1 x2 S ok hx
    exact bb_fall_38 hG hX0 (rec := L_fall_38 N n) (rok := OL_fall_38 N n) (fun x1 x2 S ok hx => ih x1 x2 S ok hx) ok hx
def A_fall_38 (N : Nat) (x1 : Int32) (x2 : Int32) (S : rS) (z : Nat × rS) : rS := (F_fall_74 N z.2)
def OA_fall_38 (N : Nat) (x1 : Int32) (x2 : Int32) (S : rS) (z : Nat × rS) : Prop := O_fall_74 N z.2
set_option maxHeartbeats 4000000 in
theorem c_fall_38 {G : zG} {E : rE} {S : rS} {N : Nat} {Q : Option Value → rS → Prop} {X : rS → Prop} (hG : zOK G) (hR : ∀ S', X S' → Q none S') {x1 : Int32} {x2 : Int32} (ok : OL_fall_38 N N x1 x2 S ∧ OA_fall_38 N x1 x2 S (L_fall_38 N N x1 x2 S)) (hx : X (A_fall_38 N x1 x2 S (L_fall_38 N N x1 x2 S))) : rX G E dX12_fall mX12_fall 38 [some (.ref E.1), some (.int x1), some (.int x2)] [] S Q := by
  refine l_fall_38 hG ?_ N x1 x2 S ok.1 (X := fun z => OA_fall_38 N x1 x2 S z ∧ X (A_fall_38 N x1 x2 S z)) ⟨ok.2, hx⟩
  · intro S' hz
    obtain ⟨ok, hx⟩ := hz
    unfold OA_fall_38 at ok
    unfold A_fall_38 at hx
    exact rX.cutz (b_fall_74 hG hR ok hx) trivial
def F_fall_36 (N : Nat) (x1 : Int32) (S : rS) : rS := (A_fall_38 N x1 (nI 0) S (L_fall_38 N N x1 (nI 0) S))
def O_fall_36 (N : Nat) (x1 : Int32) (S : rS) : Prop := (OL_fall_38 N N x1 (nI 0) S ∧ OA_fall_38 N x1 (nI 0) S (L_fall_38 N N x1 (nI 0) S))
set_option maxHeartbeats 4000000 in
theorem b_fall_36 {G : zG} {E : rE} {S : rS} {N : Nat} {Q : Option Value → rS → Prop} {X : rS → Prop} (hG : zOK G) (hR : ∀ S', X S' → Q none S') {x1 : Int32} (ok : O_fall_36 N x1 S) (hx : X (F_fall_36 N x1 S)) : rX G E dX12_fall mX12_fall 36 [some (.ref E.1), some (.int x1), none] [] S Q := by
  unfold O_fall_36 at ok
  unfold F_fall_36 at hx
  refine r_iconst (v := nI 0) dX12_fall_36 (by decide) ?_
  refine r_istore_2 dX12_fall_37 (by decide) rfl ?_
  exact rX.cutz (c_fall_38 hG hR ok hx) ⟨rfl, rfl, rfl, trivial⟩
def F_fall_31 (N : Nat) (x1 : Int32) (S : rS) : rS := (F_fall_36 N x1 (f_forgetSaid N S x1))
def O_fall_31 (N : Nat) (x1 : Int32) (S : rS) : Prop := (o_forgetSaid N S x1) ∧ O_fall_36 N x1 (f_forgetSaid N S x1)
set_option maxHeartbeats 4000000 in
theorem b_fall_31 {G : zG} {E : rE} {S : rS} {N : Nat} {Q : Option Value → rS → Prop} {X : rS → Prop} (hG : zOK G) (hR : ∀ S', X S' → Q none S') {x1 : Int32} (ok : O_fall_31 N x1 S) (hx : X (F_fall_31 N x1 S)) : rX G E dX12_fall mX12_fall 31 [some (.ref E.1), some (.int x1), none] [] S Q := by
  unfold O_fall_31 at ok
  unfold F_fall_31 at hx
  refine r_aload_n dX12_fall_31 rfl rfl ?_
  refine r_iload_n dX12_fall_32 rfl rfl ?_
  refine r_V1v (y' := mX12_forgetSaid) dX12_fall_33 lX12_477 kX12_forgetSaid ⟨by decide, by decide⟩ rfl (Nat.le_of_ble_eq_true rfl) (rc_X12_forgetSaid hG ok.1) (fun S_33 h_33 => ?_)
  subst h_33
  have ok := ok.2
  exact rX.cutz (b_fall_36 hG hR ok hx) ⟨rfl, rfl, trivial⟩
def F_fall_25 (N : Nat) (x1 : Int32) (S : rS) : rS := (F_fall_31 N x1 (f_forgetHeight N S x1 (nI 1)))
def O_fall_25 (N : Nat) (x1 : Int32) (S : rS) : Prop := (o_forgetHeight N S x1 (nI 1)) ∧ O_fall_31 N x1 (f_forgetHeight N S x1 (nI 1))
set_option maxHeartbeats 4000000 in
theorem b_fall_25 {G : zG} {E : rE} {S : rS} {N : Nat} {Q : Option Value → rS → Prop} {X : rS → Prop} (hG : zOK G) (hR : ∀ S', X S' → Q none S') {x1 : Int32} (ok : O_fall_25 N x1 S) (hx : X (F_fall_25 N x1 S)) : rX G E dX12_fall mX12_fall 25 [some (.ref E.1), some (.int x1), none] [] S Q := by
  unfold O_fall_25 at ok
  unfold F_fall_25 at hx
  refine r_aload_n dX12_fall_25 rfl rfl ?_
  refine r_iload_n dX12_fall_26 rfl rfl ?_
  refine r_iconst (v := nI 1) dX12_fall_27 (by decide) ?_
  refine r_V2v (y' := mX12_forgetHeight) dX12_fall_28 lX12_474 kX12_forgetHeight ⟨by decide, by decide⟩ rfl (Nat.le_of_ble_eq_true rfl) (rc_X12_forgetHeight hG ok.1) (fun S_28 h_28 => ?_)
  subst h_28
  have ok := ok.2
  exact rX.cutz (b_fall_31 hG hR ok hx) ⟨rfl, rfl, trivial⟩
def F_fall_19 (N : Nat) (x1 : Int32) (S : rS) : rS := (F_fall_25 N x1 (f_forgetHeight N S x1 (nI 0)))
def O_fall_19 (N : Nat) (x1 : Int32) (S : rS) : Prop := (o_forgetHeight N S x1 (nI 0)) ∧ O_fall_25 N x1 (f_forgetHeight N S x1 (nI 0))
set_option maxHeartbeats 4000000 in
theorem b_fall_19 {G : zG} {E : rE} {S : rS} {N : Nat} {Q : Option Value → rS → Prop} {X : rS → Prop} (hG : zOK G) (hR : ∀ S', X S' → Q none S') {x1 : Int32} (ok : O_fall_19 N x1 S) (hx : X (F_fall_19 N x1 S)) : rX G E dX12_fall mX12_fall 19 [some (.ref E.1), some (.int x1), none] [] S Q := by
  unfold O_fall_19 at ok
  unfold F_fall_19 at hx
  refine r_aload_n dX12_fall_19 rfl rfl ?_
  refine r_iload_n dX12_fall_20 rfl rfl ?_
  refine r_iconst (v := nI 0) dX12_fall_21 (by decide) ?_
  refine r_V2v (y' := mX12_forgetHeight) dX12_fall_22 lX12_474 kX12_forgetHeight ⟨by decide, by decide⟩ rfl (Nat.le_of_ble_eq_true rfl) (rc_X12_forgetHeight hG ok.1) (fun S_22 h_22 => ?_)
  subst h_22
  have ok := ok.2
  exact rX.cutz (b_fall_25 hG hR ok hx) ⟨rfl, rfl, trivial⟩
def F_fall_14 (N : Nat) (x1 : Int32) (S : rS) : rS := (F_fall_19 N x1 (f_noTimers N S x1))
def O_fall_14 (N : Nat) (x1 : Int32) (S : rS) : Prop := (o_noTimers N S x1) ∧ O_fall_19 N x1 (f_noTimers N S x1)
set_option maxHeartbeats 4000000 in
theorem b_fall_14 {G : zG} {E : rE} {S : rS} {N : Nat} {Q : Option Value → rS → Prop} {X : rS → Prop} (hG : zOK G) (hR : ∀ S', X S' → Q none S') {x1 : Int32} (ok : O_fall_14 N x1 S) (hx : X (F_fall_14 N x1 S)) : rX G E dX12_fall mX12_fall 14 [some (.ref E.1), some (.int x1), none] [] S Q := by
  unfold O_fall_14 at ok
  unfold F_fall_14 at hx
  refine r_aload_n dX12_fall_14 rfl rfl ?_
  refine r_iload_n dX12_fall_15 rfl rfl ?_
  refine r_V1v (y' := mX12_noTimers) dX12_fall_16 lX12_454 kX12_noTimers ⟨by decide, by decide⟩ rfl (Nat.le_of_ble_eq_true rfl) (rc_X12_noTimers hG ok.1) (fun S_16 h_16 => ?_)
  subst h_16
  have ok := ok.2
  exact rX.cutz (b_fall_19 hG hR ok hx) ⟨rfl, rfl, trivial⟩
def F_fall_0 (N : Nat) (x1 : Int32) (S : rS) : rS := (F_fall_14 N x1 (rsA (rsA S 43 x1.toNatClampNeg (nI 0)) 53 x1.toNatClampNeg (nI 0)))
def O_fall_0 (N : Nat) (x1 : Int32) (S : rS) : Prop := (vp_in x1 13) ∧ (vp_in x1 13) ∧ O_fall_14 N x1 (rsA (rsA S 43 x1.toNatClampNeg (nI 0)) 53 x1.toNatClampNeg (nI 0))
set_option maxHeartbeats 4000000 in
theorem b_fall_0 {G : zG} {E : rE} {S : rS} {N : Nat} {Q : Option Value → rS → Prop} {X : rS → Prop} (hG : zOK G) (hR : ∀ S', X S' → Q none S') {x1 : Int32} (ok : O_fall_0 N x1 S) (hx : X (F_fall_0 N x1 S)) : rX G E dX12_fall mX12_fall 0 [some (.ref E.1), some (.int x1), none] [] S Q := by
  unfold O_fall_0 at ok
  unfold F_fall_0 at hx
  refine r_aload_n dX12_fall_0 rfl rfl ?_
  refine r_getA 43 fX12_305 (by decide) (by decide) dX12_fall_1 ?_
  refine r_iload_n dX12_fall_4 rfl rfl ?_
  refine r_iconst (v := nI 0) dX12_fall_5 (by decide) ?_
  refine r_zast hG rfl (by decide) (by decide) dX12_fall_6 ok.1 ?_
  have ok := ok.2
  refine r_aload_n dX12_fall_7 rfl rfl ?_
  refine r_getA 53 fX12_336 (by decide) (by decide) dX12_fall_8 ?_
  refine r_iload_n dX12_fall_11 rfl rfl ?_
  refine r_iconst (v := nI 0) dX12_fall_12 (by decide) ?_
  refine r_iast hG (by decide) (by decide) dX12_fall_13 ok.1 ?_
  have ok := ok.2
  exact rX.cutz (b_fall_14 hG hR ok hx) ⟨rfl, rfl, trivial⟩
def f_fall (N : Nat) (S : rS) (x1 : Int32) : rS := F_fall_0 N x1 S
def o_fall (N : Nat) (S : rS) (x1 : Int32) : Prop := O_fall_0 N x1 S
set_option maxHeartbeats 4000000 in
theorem rc_X12_fall {G : zG} {E : rE} {S : rS} {N : Nat} (hG : zOK G) {x1 : Int32} (ok : o_fall N S x1) : rCv G E dX12_fall mX12_fall [.ref E.1, .int x1] S (fun S' => S' = f_fall N S x1) := by
  refine rC.ofX rfl (Nat.le_of_ble_eq_true rfl) ?_
  show rX G E dX12_fall mX12_fall 0 [some (.ref E.1), some (.int x1), none] [] S _
  exact rX.cutz (b_fall_0 (X := fun F => F = f_fall N S x1) hG (fun S' h => ⟨rfl, h⟩) ok rfl) ⟨rfl, rfl, trivial⟩
/-! noteByte -/
def F_noteByte_0 (N : Nat) (x1 : Int32) (S : rS) : rS := (rsI (rsA S 71 (S.1 72).toNatClampNeg (x1 &&& (nI 255))) 72 (((rsA S 71 (S.1 72).toNatClampNeg (x1 &&& (nI 255))).1 72) + (nI 1)))
def O_noteByte_0 (N : Nat) (x1 : Int32) (S : rS) : Prop := (vp_in (S.1 72) 1100) ∧ True
set_option maxHeartbeats 4000000 in
theorem b_noteByte_0 {G : zG} {E : rE} {S : rS} {N : Nat} {Q : Option Value → rS → Prop} {X : rS → Prop} (hG : zOK G) (hR : ∀ S', X S' → Q none S') {x1 : Int32} (ok : O_noteByte_0 N x1 S) (hx : X (F_noteByte_0 N x1 S)) : rX G E dX12_noteByte mX12_noteByte 0 [some (.ref E.1), some (.int x1)] [] S Q := by
  unfold O_noteByte_0 at ok
  unfold F_noteByte_0 at hx
  refine r_aload_n dX12_noteByte_0 rfl rfl ?_
  refine r_getA 71 fX12_390 (by decide) (by decide) dX12_noteByte_1 ?_
  refine r_aload_n dX12_noteByte_4 rfl rfl ?_
  refine r_getI 72 fX12_480 (by decide) (by decide) dX12_noteByte_5 ?_
  refine r_iload_n dX12_noteByte_8 rfl rfl ?_
  refine r_sipush (v := nI 255) dX12_noteByte_9 (by decide) ?_
  refine r_iand dX12_noteByte_12 ?_
  refine r_iast hG (by decide) (by decide) dX12_noteByte_13 ok.1 ?_
  have ok := ok.2
  refine r_aload_n dX12_noteByte_14 rfl rfl ?_
  refine r_aload_n dX12_noteByte_15 rfl rfl ?_
  refine r_getI 72 fX12_480 (by decide) (by decide) dX12_noteByte_16 ?_
  refine r_iconst (v := nI 1) dX12_noteByte_19 (by decide) ?_
  refine r_iadd dX12_noteByte_20 ?_
  refine r_putI 72 fX12_480 (by decide) (by decide) rfl rfl rfl dX12_noteByte_21 ?_
  exact r_return rfl dX12_noteByte_24 (hR _ hx)
def f_noteByte (N : Nat) (S : rS) (x1 : Int32) : rS := F_noteByte_0 N x1 S
def o_noteByte (N : Nat) (S : rS) (x1 : Int32) : Prop := O_noteByte_0 N x1 S
set_option maxHeartbeats 4000000 in
theorem rc_X12_noteByte {G : zG} {E : rE} {S : rS} {N : Nat} (hG : zOK G) {x1 : Int32} (ok : o_noteByte N S x1) : rCv G E dX12_noteByte mX12_noteByte [.ref E.1, .int x1] S (fun S' => S' = f_noteByte N S x1) := by
  refine rC.ofX rfl (Nat.le_of_ble_eq_true rfl) ?_
  show rX G E dX12_noteByte mX12_noteByte 0 [some (.ref E.1), some (.int x1)] [] S _
  exact rX.cutz (b_noteByte_0 (X := fun F => F = f_noteByte N S x1) hG (fun S' h => ⟨rfl, h⟩) ok rfl) ⟨rfl, rfl, trivial⟩
/-! openNote -/
def F_openNote_48 (N : Nat)  (S : rS) : rS := S
def O_openNote_48 (N : Nat)  (S : rS) : Prop := True
set_option maxHeartbeats 4000000 in
theorem b_openNote_48 {G : zG} {E : rE} {S : rS} {N : Nat} {Q : Option Value → rS → Prop} {X : rS → Prop} (hG : zOK G) (hR : ∀ S', X S' → Q none S') (ok : O_openNote_48 N S) (hx : X (F_openNote_48 N S)) : rX G E dX12_openNote mX12_openNote 48 [none, none, none, none, none] [] S Q := by
  unfold O_openNote_48 at ok
  unfold F_openNote_48 at hx
  exact r_return rfl dX12_openNote_48 (hR _ hx)
def F_openNote_42 (N : Nat) (rec : Int32 → rS → Nat × rS) (x4 : Int32) (S : rS) : Nat × rS := (rec (x4 + nI 1) S)
def O_openNote_42 (N : Nat) (rok : Int32 → rS → Prop) (x4 : Int32) (S : rS) : Prop := rok (x4 + nI 1) S
set_option maxHeartbeats 4000000 in
theorem b_openNote_42 {G : zG} {E : rE} {S : rS} {N : Nat} {Q : Option Value → rS → Prop} {X : Nat × rS → Prop} (hG : zOK G) (hX0 : ∀ (S' : rS), X (0, S') → rX G E dX12_openNote mX12_openNote 48 [none, none, none, none, none] [] S' Q) {rec : Int32 → rS → Nat × rS} {rok : Int32 → rS → Prop} (hrec : ∀ (x4 : Int32) (S : rS), rok x4 S → X (rec x4 S) → rX G E dX12_openNote mX12_openNote 31 [some (.ref E.1), none, none, none, some (.int x4)] [] S Q) {x4 : Int32} (ok : O_openNote_42 N rok x4 S) (hx : X (F_openNote_42 N rec x4 S)) : rX G E dX12_openNote mX12_openNote 42 [some (.ref E.1), none, none, none, some (.int x4)] [] S Q := by
  unfold O_openNote_42 at ok
  unfold F_openNote_42 at hx
  refine r_iinc_4 (v := (x4 + nI 1)) dX12_openNote_42 rfl (by first | rfl | (congr 1)) (by decide) rfl ?_
  refine r_goto (tgt := 31) dX12_openNote_45 (by decide) ?_
  exact rX.cutz (hrec _ S ok hx) ⟨rfl, rfl, trivial⟩
def B_openNote_31 (N : Nat) (rec : Int32 → rS → Nat × rS) (x4 : Int32) (S : rS) : Nat × rS := (if (nI 4) ≤ x4 then (0, S) else (F_openNote_42 N rec x4 (f_noteByte N S (nI 0))))
def OB_openNote_31 (N : Nat) (rok : Int32 → rS → Prop) (x4 : Int32) (S : rS) : Prop := (((nI 4) ≤ x4 → True) ∧ (¬ (nI 4) ≤ x4 → (o_noteByte N S (nI 0)) ∧ O_openNote_42 N rok x4 (f_noteByte N S (nI 0))))
set_option maxHeartbeats 4000000 in
theorem bb_openNote_31 {G : zG} {E : rE} {S : rS} {N : Nat} {Q : Option Value → rS → Prop} {X : Nat × rS → Prop} (hG : zOK G) (hX0 : ∀ (S' : rS), X (0, S') → rX G E dX12_openNote mX12_openNote 48 [none, none, none, none, none] [] S' Q) {rec : Int32 → rS → Nat × rS} {rok : Int32 → rS → Prop} (hrec : ∀ (x4 : Int32) (S : rS), rok x4 S → X (rec x4 S) → rX G E dX12_openNote mX12_openNote 31 [some (.ref E.1), none, none, none, some (.int x4)] [] S Q) {x4 : Int32} (ok : OB_openNote_31 N rok x4 S) (hx : X (B_openNote_31 N rec x4 S)) : rX G E dX12_openNote mX12_openNote 31 [some (.ref E.1), none, none, none, some (.int x4)] [] S Q := by
  unfold OB_openNote_31 at ok
  unfold B_openNote_31 at hx
  refine r_iload dX12_openNote_31 rfl ?_
  refine r_iconst (v := nI 4) dX12_openNote_33 (by decide) ?_
  refine r_icmp_ge (tgt := 48) dX12_openNote_34 (by decide) (fun c_34 => ?_) (fun c_34 => ?_)
  · have ok := ok.1 c_34
    have hx := xif_p c_34 hx
    exact rX.cutz (hX0 S hx) trivial
  · have ok := ok.2 c_34
    have hx := xif_n c_34 hx
    refine r_aload_n dX12_openNote_37 rfl rfl ?_
    refine r_iconst (v := nI 0) dX12_openNote_38 (by decide) ?_
    refine r_V1v (y' := mX12_noteByte) dX12_openNote_39 lX12_483 kX12_noteByte ⟨by decide, by decide⟩ rfl (Nat.le_of_ble_eq_true rfl) (rc_X12_noteByte hG ok.1) (fun S_39 h_39 => ?_)
    subst h_39
    have ok := ok.2
    exact rX.cutz (b_openNote_42 hG hX0 hrec ok hx) ⟨rfl, rfl, trivial⟩
def L_openNote_31 (N : Nat) : Nat → Int32 → rS → Nat × rS
  | 0, x4, S => (0, S)
  | n + 1, x4, S => B_openNote_31 N (L_openNote_31 N n) x4 S
def OL_openNote_31 (N : Nat) : Nat → Int32 → rS → Prop
  | 0, _, _ => False
  | n + 1, x4, S => OB_openNote_31 N (OL_openNote_31 N n) x4 S
set_option maxHeartbeats 4000000 in
theorem l_openNote_31 {G : zG} {E : rE} {N : Nat} {Q : Option Value → rS → Prop} {X : Nat × rS → Prop} (hG : zOK G) (hX0 : ∀ (S' : rS), X (0, S') → rX G E dX12_openNote mX12_openNote 48 [none, none, none, none, none] [] S' Q) : ∀ (n : Nat) (x4 : Int32) (S : rS), OL_openNote_31 N n x4 S → X (L_openNote_31 N n x4 S) → rX G E dX12_openNote mX12_openNote 31 [some (.ref E.1), none, none, none, some (.int x4)] [] S Q := by
  intro n
  induction n with
  | zero => intro x4 S ok; exact absurd ok id
  | succ n ih =>
    intro x4 S ok hx
    exact bb_openNote_31 hG hX0 (rec := L_openNote_31 N n) (rok := OL_openNote_31 N n) (fun x4 S ok hx => ih x4 S ok hx) ok hx
def A_openNote_31 (N : Nat) (x4 : Int32) (S : rS) (z : Nat × rS) : rS := (F_openNote_48 N z.2)
def OA_openNote_31 (N : Nat) (x4 : Int32) (S : rS) (z : Nat × rS) : Prop := O_openNote_48 N z.2
set_option maxHeartbeats 4000000 in
theorem c_openNote_31 {G : zG} {E : rE} {S : rS} {N : Nat} {Q : Option Value → rS → Prop} {X : rS → Prop} (hG : zOK G) (hR : ∀ S', X S' → Q none S') {x4 : Int32} (ok : OL_openNote_31 N N x4 S ∧ OA_openNote_31 N x4 S (L_openNote_31 N N x4 S)) (hx : X (A_openNote_31 N x4 S (L_openNote_31 N N x4 S))) : rX G E dX12_openNote mX12_openNote 31 [some (.ref E.1), none, none, none, some (.int x4)] [] S Q := by
  refine l_openNote_31 hG ?_ N x4 S ok.1 (X := fun z => OA_openNote_31 N x4 S z ∧ X (A_openNote_31 N x4 S z)) ⟨ok.2, hx⟩
  · intro S' hz
    obtain ⟨ok, hx⟩ := hz
    unfold OA_openNote_31 at ok
    unfold A_openNote_31 at hx
    exact rX.cutz (b_openNote_48 hG hR ok hx) trivial
def F_openNote_28 (N : Nat)  (S : rS) : rS := (A_openNote_31 N (nI 0) S (L_openNote_31 N N (nI 0) S))
def O_openNote_28 (N : Nat)  (S : rS) : Prop := (OL_openNote_31 N N (nI 0) S ∧ OA_openNote_31 N (nI 0) S (L_openNote_31 N N (nI 0) S))
set_option maxHeartbeats 4000000 in
theorem b_openNote_28 {G : zG} {E : rE} {S : rS} {N : Nat} {Q : Option Value → rS → Prop} {X : rS → Prop} (hG : zOK G) (hR : ∀ S', X S' → Q none S') (ok : O_openNote_28 N S) (hx : X (F_openNote_28 N S)) : rX G E dX12_openNote mX12_openNote 28 [some (.ref E.1), none, none, none, none] [] S Q := by
  unfold O_openNote_28 at ok
  unfold F_openNote_28 at hx
  refine r_iconst (v := nI 0) dX12_openNote_28 (by decide) ?_
  refine r_istore_4 dX12_openNote_29 (by decide) rfl ?_
  exact rX.cutz (c_openNote_31 hG hR ok hx) ⟨rfl, rfl, trivial⟩
def F_openNote_23 (N : Nat) (x3 : Int32) (S : rS) : rS := (F_openNote_28 N (f_noteByte N S x3))
def O_openNote_23 (N : Nat) (x3 : Int32) (S : rS) : Prop := (o_noteByte N S x3) ∧ O_openNote_28 N (f_noteByte N S x3)
set_option maxHeartbeats 4000000 in
theorem b_openNote_23 {G : zG} {E : rE} {S : rS} {N : Nat} {Q : Option Value → rS → Prop} {X : rS → Prop} (hG : zOK G) (hR : ∀ S', X S' → Q none S') {x3 : Int32} (ok : O_openNote_23 N x3 S) (hx : X (F_openNote_23 N x3 S)) : rX G E dX12_openNote mX12_openNote 23 [some (.ref E.1), none, none, some (.int x3), none] [] S Q := by
  unfold O_openNote_23 at ok
  unfold F_openNote_23 at hx
  refine r_aload_n dX12_openNote_23 rfl rfl ?_
  refine r_iload_n dX12_openNote_24 rfl rfl ?_
  refine r_V1v (y' := mX12_noteByte) dX12_openNote_25 lX12_483 kX12_noteByte ⟨by decide, by decide⟩ rfl (Nat.le_of_ble_eq_true rfl) (rc_X12_noteByte hG ok.1) (fun S_25 h_25 => ?_)
  subst h_25
  have ok := ok.2
  exact rX.cutz (b_openNote_28 hG hR ok hx) ⟨rfl, trivial⟩
def F_openNote_18 (N : Nat) (x2 : Int32) (x3 : Int32) (S : rS) : rS := (F_openNote_23 N x3 (f_noteByte N S x2))
def O_openNote_18 (N : Nat) (x2 : Int32) (x3 : Int32) (S : rS) : Prop := (o_noteByte N S x2) ∧ O_openNote_23 N x3 (f_noteByte N S x2)
set_option maxHeartbeats 4000000 in
theorem b_openNote_18 {G : zG} {E : rE} {S : rS} {N : Nat} {Q : Option Value → rS → Prop} {X : rS → Prop} (hG : zOK G) (hR : ∀ S', X S' → Q none S') {x2 : Int32} {x3 : Int32} (ok : O_openNote_18 N x2 x3 S) (hx : X (F_openNote_18 N x2 x3 S)) : rX G E dX12_openNote mX12_openNote 18 [some (.ref E.1), none, some (.int x2), some (.int x3), none] [] S Q := by
  unfold O_openNote_18 at ok
  unfold F_openNote_18 at hx
  refine r_aload_n dX12_openNote_18 rfl rfl ?_
  refine r_iload_n dX12_openNote_19 rfl rfl ?_
  refine r_V1v (y' := mX12_noteByte) dX12_openNote_20 lX12_483 kX12_noteByte ⟨by decide, by decide⟩ rfl (Nat.le_of_ble_eq_true rfl) (rc_X12_noteByte hG ok.1) (fun S_20 h_20 => ?_)
  subst h_20
  have ok := ok.2
  exact rX.cutz (b_openNote_23 hG hR ok hx) ⟨rfl, rfl, trivial⟩
def F_openNote_10 (N : Nat) (x2 : Int32) (x3 : Int32) (S : rS) : rS := (F_openNote_18 N x2 x3 (f_noteByte N S (x2 >>> ((nI 8) &&& 31))))
def O_openNote_10 (N : Nat) (x2 : Int32) (x3 : Int32) (S : rS) : Prop := (o_noteByte N S (x2 >>> ((nI 8) &&& 31))) ∧ O_openNote_18 N x2 x3 (f_noteByte N S (x2 >>> ((nI 8) &&& 31)))
set_option maxHeartbeats 4000000 in
theorem b_openNote_10 {G : zG} {E : rE} {S : rS} {N : Nat} {Q : Option Value → rS → Prop} {X : rS → Prop} (hG : zOK G) (hR : ∀ S', X S' → Q none S') {x2 : Int32} {x3 : Int32} (ok : O_openNote_10 N x2 x3 S) (hx : X (F_openNote_10 N x2 x3 S)) : rX G E dX12_openNote mX12_openNote 10 [some (.ref E.1), none, some (.int x2), some (.int x3), none] [] S Q := by
  unfold O_openNote_10 at ok
  unfold F_openNote_10 at hx
  refine r_aload_n dX12_openNote_10 rfl rfl ?_
  refine r_iload_n dX12_openNote_11 rfl rfl ?_
  refine r_bipush (v := nI 8) dX12_openNote_12 (by decide) ?_
  refine r_ishr dX12_openNote_14 ?_
  refine r_V1v (y' := mX12_noteByte) dX12_openNote_15 lX12_483 kX12_noteByte ⟨by decide, by decide⟩ rfl (Nat.le_of_ble_eq_true rfl) (rc_X12_noteByte hG ok.1) (fun S_15 h_15 => ?_)
  subst h_15
  have ok := ok.2
  exact rX.cutz (b_openNote_18 hG hR ok hx) ⟨rfl, rfl, rfl, trivial⟩
def F_openNote_0 (N : Nat) (x1 : Int32) (x2 : Int32) (x3 : Int32) (S : rS) : rS := (F_openNote_10 N x2 x3 (f_noteByte N (rsI S 72 (nI 0)) x1))
def O_openNote_0 (N : Nat) (x1 : Int32) (x2 : Int32) (x3 : Int32) (S : rS) : Prop := (o_noteByte N (rsI S 72 (nI 0)) x1) ∧ O_openNote_10 N x2 x3 (f_noteByte N (rsI S 72 (nI 0)) x1)
set_option maxHeartbeats 4000000 in
theorem b_openNote_0 {G : zG} {E : rE} {S : rS} {N : Nat} {Q : Option Value → rS → Prop} {X : rS → Prop} (hG : zOK G) (hR : ∀ S', X S' → Q none S') {x1 : Int32} {x2 : Int32} {x3 : Int32} (ok : O_openNote_0 N x1 x2 x3 S) (hx : X (F_openNote_0 N x1 x2 x3 S)) : rX G E dX12_openNote mX12_openNote 0 [some (.ref E.1), some (.int x1), some (.int x2), some (.int x3), none] [] S Q := by
  unfold O_openNote_0 at ok
  unfold F_openNote_0 at hx
  refine r_aload_n dX12_openNote_0 rfl rfl ?_
  refine r_iconst (v := nI 0) dX12_openNote_1 (by decide) ?_
  refine r_putI 72 fX12_480 (by decide) (by decide) rfl rfl rfl dX12_openNote_2 ?_
  refine r_aload_n dX12_openNote_5 rfl rfl ?_
  refine r_iload_n dX12_openNote_6 rfl rfl ?_
  refine r_V1v (y' := mX12_noteByte) dX12_openNote_7 lX12_483 kX12_noteByte ⟨by decide, by decide⟩ rfl (Nat.le_of_ble_eq_true rfl) (rc_X12_noteByte hG ok.1) (fun S_7 h_7 => ?_)
  subst h_7
  have ok := ok.2
  exact rX.cutz (b_openNote_10 hG hR ok hx) ⟨rfl, rfl, rfl, trivial⟩
def f_openNote (N : Nat) (S : rS) (x1 : Int32) (x2 : Int32) (x3 : Int32) : rS := F_openNote_0 N x1 x2 x3 S
def o_openNote (N : Nat) (S : rS) (x1 : Int32) (x2 : Int32) (x3 : Int32) : Prop := O_openNote_0 N x1 x2 x3 S
set_option maxHeartbeats 4000000 in
theorem rc_X12_openNote {G : zG} {E : rE} {S : rS} {N : Nat} (hG : zOK G) {x1 : Int32} {x2 : Int32} {x3 : Int32} (ok : o_openNote N S x1 x2 x3) : rCv G E dX12_openNote mX12_openNote [.ref E.1, .int x1, .int x2, .int x3] S (fun S' => S' = f_openNote N S x1 x2 x3) := by
  refine rC.ofX rfl (Nat.le_of_ble_eq_true rfl) ?_
  show rX G E dX12_openNote mX12_openNote 0 [some (.ref E.1), some (.int x1), some (.int x2), some (.int x3), none] [] S _
  exact rX.cutz (b_openNote_0 (X := fun F => F = f_openNote N S x1 x2 x3) hG (fun S' h => ⟨rfl, h⟩) ok rfl) ⟨rfl, rfl, rfl, rfl, trivial⟩
/-! noteBlock -/
def F_noteBlock_28 (N : Nat)  (S : rS) : rS := S
def O_noteBlock_28 (N : Nat)  (S : rS) : Prop := True
set_option maxHeartbeats 4000000 in
theorem b_noteBlock_28 {G : zG} {E : rE} {S : rS} {N : Nat} {Q : Option Value → rS → Prop} {X : rS → Prop} (hG : zOK G) (hR : ∀ S', X S' → Q none S') (ok : O_noteBlock_28 N S) (hx : X (F_noteBlock_28 N S)) : rX G E dX12_noteBlock mX12_noteBlock 28 [none, none, none] [] S Q := by
  unfold O_noteBlock_28 at ok
  unfold F_noteBlock_28 at hx
  exact r_return rfl dX12_noteBlock_28 (hR _ hx)
def F_noteBlock_22 (N : Nat) (rec : Int32 → Int32 → rS → Nat × rS) (x1 : Int32) (x2 : Int32) (S : rS) : Nat × rS := (rec x1 (x2 + nI 1) S)
def O_noteBlock_22 (N : Nat) (rok : Int32 → Int32 → rS → Prop) (x1 : Int32) (x2 : Int32) (S : rS) : Prop := rok x1 (x2 + nI 1) S
set_option maxHeartbeats 4000000 in
theorem b_noteBlock_22 {G : zG} {E : rE} {S : rS} {N : Nat} {Q : Option Value → rS → Prop} {X : Nat × rS → Prop} (hG : zOK G) (hX0 : ∀ (S' : rS), X (0, S') → rX G E dX12_noteBlock mX12_noteBlock 28 [none, none, none] [] S' Q) {rec : Int32 → Int32 → rS → Nat × rS} {rok : Int32 → Int32 → rS → Prop} (hrec : ∀ (x1 : Int32) (x2 : Int32) (S : rS), rok x1 x2 S → X (rec x1 x2 S) → rX G E dX12_noteBlock mX12_noteBlock 2 [some (.ref E.1), some (.int x1), some (.int x2)] [] S Q) {x1 : Int32} {x2 : Int32} (ok : O_noteBlock_22 N rok x1 x2 S) (hx : X (F_noteBlock_22 N rec x1 x2 S)) : rX G E dX12_noteBlock mX12_noteBlock 22 [some (.ref E.1), some (.int x1), some (.int x2)] [] S Q := by
  unfold O_noteBlock_22 at ok
  unfold F_noteBlock_22 at hx
  refine r_iinc_2 (v := (x2 + nI 1)) dX12_noteBlock_22 rfl (by first | rfl | (congr 1)) (by decide) rfl ?_
  refine r_goto (tgt := 2) dX12_noteBlock_25 (by decide) ?_
  exact rX.cutz (hrec _ _ S ok hx) ⟨rfl, rfl, rfl, trivial⟩
def B_noteBlock_2 (N : Nat) (rec : Int32 → Int32 → rS → Nat × rS) (x1 : Int32) (x2 : Int32) (S : rS) : Nat × rS := (if (S.2.1 14 x1.toNatClampNeg) ≤ x2 then (0, S) else (F_noteBlock_22 N rec x1 x2 (f_noteByte N S (f_blockByte N S x1 x2))))
def OB_noteBlock_2 (N : Nat) (rok : Int32 → Int32 → rS → Prop) (x1 : Int32) (x2 : Int32) (S : rS) : Prop := (vp_in x1 1354) ∧ (((S.2.1 14 x1.toNatClampNeg) ≤ x2 → True) ∧ (¬ (S.2.1 14 x1.toNatClampNeg) ≤ x2 → (o_blockByte N S x1 x2) ∧ (o_noteByte N S (f_blockByte N S x1 x2)) ∧ O_noteBlock_22 N rok x1 x2 (f_noteByte N S (f_blockByte N S x1 x2))))
set_option maxHeartbeats 4000000 in
theorem bb_noteBlock_2 {G : zG} {E : rE} {S : rS} {N : Nat} {Q : Option Value → rS → Prop} {X : Nat × rS → Prop} (hG : zOK G) (hX0 : ∀ (S' : rS), X (0, S') → rX G E dX12_noteBlock mX12_noteBlock 28 [none, none, none] [] S' Q) {rec : Int32 → Int32 → rS → Nat × rS} {rok : Int32 → Int32 → rS → Prop} (hrec : ∀ (x1 : Int32) (x2 : Int32) (S : rS), rok x1 x2 S → X (rec x1 x2 S) → rX G E dX12_noteBlock mX12_noteBlock 2 [some (.ref E.1), some (.int x1), some (.int x2)] [] S Q) {x1 : Int32} {x2 : Int32} (ok : OB_noteBlock_2 N rok x1 x2 S) (hx : X (B_noteBlock_2 N rec x1 x2 S)) : rX G E dX12_noteBlock mX12_noteBlock 2 [some (.ref E.1), some (.int x1), some (.int x2)] [] S Q := by
  unfold OB_noteBlock_2 at ok
  unfold B_noteBlock_2 at hx
  refine r_iload_n dX12_noteBlock_2 rfl rfl ?_
  refine r_aload_n dX12_noteBlock_3 rfl rfl ?_
  refine r_getA 14 fX12_57 (by decide) (by decide) dX12_noteBlock_4 ?_
  refine r_iload_n dX12_noteBlock_7 rfl rfl ?_
  refine r_iald (by decide) (by decide) dX12_noteBlock_8 ok.1 ?_
  have ok := ok.2
  refine r_icmp_ge (tgt := 28) dX12_noteBlock_9 (by decide) (fun c_9 => ?_) (fun c_9 => ?_)
  · have ok := ok.1 c_9
    have hx := xif_p c_9 hx
    exact rX.cutz (hX0 S hx) trivial
  · have ok := ok.2 c_9
    have hx := xif_n c_9 hx
    refine r_aload_n dX12_noteBlock_12 rfl rfl ?_
    refine r_aload_n dX12_noteBlock_13 rfl rfl ?_
    refine r_iload_n dX12_noteBlock_14 rfl rfl ?_
    refine r_iload_n dX12_noteBlock_15 rfl rfl ?_
    refine r_V2i (y' := mX12_blockByte) dX12_noteBlock_16 lX12_67 kX12_blockByte ⟨by decide, by decide⟩ rfl (Nat.le_of_ble_eq_true rfl) (rc_X12_blockByte hG ok.1) (fun v_16 S_16 h_16 => ?_)
    obtain ⟨rfl, hS_16⟩ := h_16
    have hS_16 := hS_16.symm
    subst hS_16
    have ok := ok.2
    refine r_V1v (y' := mX12_noteByte) dX12_noteBlock_19 lX12_483 kX12_noteByte ⟨by decide, by decide⟩ rfl (Nat.le_of_ble_eq_true rfl) (rc_X12_noteByte hG ok.1) (fun S_19 h_19 => ?_)
    subst h_19
    have ok := ok.2
    exact rX.cutz (b_noteBlock_22 hG hX0 hrec ok hx) ⟨rfl, rfl, rfl, trivial⟩
def L_noteBlock_2 (N : Nat) : Nat → Int32 → Int32 → rS → Nat × rS
  | 0, x1, x2, S => (0, S)
  | n + 1, x1, x2, S => B_noteBlock_2 N (L_noteBlock_2 N n) x1 x2 S
def OL_noteBlock_2 (N : Nat) : Nat → Int32 → Int32 → rS → Prop
  | 0, _, _, _ => False
  | n + 1, x1, x2, S => OB_noteBlock_2 N (OL_noteBlock_2 N n) x1 x2 S
set_option maxHeartbeats 4000000 in
theorem l_noteBlock_2 {G : zG} {E : rE} {N : Nat} {Q : Option Value → rS → Prop} {X : Nat × rS → Prop} (hG : zOK G) (hX0 : ∀ (S' : rS), X (0, S') → rX G E dX12_noteBlock mX12_noteBlock 28 [none, none, none] [] S' Q) : ∀ (n : Nat) (x1 : Int32) (x2 : Int32) (S : rS), OL_noteBlock_2 N n x1 x2 S → X (L_noteBlock_2 N n x1 x2 S) → rX G E dX12_noteBlock mX12_noteBlock 2 [some (.ref E.1), some (.int x1), some (.int x2)] [] S Q := by
  intro n
  induction n with
  | zero => intro x1 x2 S ok; exact absurd ok id
  | succ n ih =>
    intro x1 x2 S ok hx
    exact bb_noteBlock_2 hG hX0 (rec := L_noteBlock_2 N n) (rok := OL_noteBlock_2 N n) (fun x1 x2 S ok hx => ih x1 x2 S ok hx) ok hx
def A_noteBlock_2 (N : Nat) (x1 : Int32) (x2 : Int32) (S : rS) (z : Nat × rS) : rS := (F_noteBlock_28 N z.2)
def OA_noteBlock_2 (N : Nat) (x1 : Int32) (x2 : Int32) (S : rS) (z : Nat × rS) : Prop := O_noteBlock_28 N z.2
set_option maxHeartbeats 4000000 in
theorem c_noteBlock_2 {G : zG} {E : rE} {S : rS} {N : Nat} {Q : Option Value → rS → Prop} {X : rS → Prop} (hG : zOK G) (hR : ∀ S', X S' → Q none S') {x1 : Int32} {x2 : Int32} (ok : OL_noteBlock_2 N N x1 x2 S ∧ OA_noteBlock_2 N x1 x2 S (L_noteBlock_2 N N x1 x2 S)) (hx : X (A_noteBlock_2 N x1 x2 S (L_noteBlock_2 N N x1 x2 S))) : rX G E dX12_noteBlock mX12_noteBlock 2 [some (.ref E.1), some (.int x1), some (.int x2)] [] S Q := by
  refine l_noteBlock_2 hG ?_ N x1 x2 S ok.1 (X := fun z => OA_noteBlock_2 N x1 x2 S z ∧ X (A_noteBlock_2 N x1 x2 S z)) ⟨ok.2, hx⟩
  · intro S' hz
    obtain ⟨ok, hx⟩ := hz
    unfold OA_noteBlock_2 at ok
    unfold A_noteBlock_2 at hx
    exact rX.cutz (b_noteBlock_28 hG hR ok hx) trivial
def F_noteBlock_0 (N : Nat) (x1 : Int32) (S : rS) : rS := (A_noteBlock_2 N x1 (nI 0) S (L_noteBlock_2 N N x1 (nI 0) S))
def O_noteBlock_0 (N : Nat) (x1 : Int32) (S : rS) : Prop := (OL_noteBlock_2 N N x1 (nI 0) S ∧ OA_noteBlock_2 N x1 (nI 0) S (L_noteBlock_2 N N x1 (nI 0) S))
set_option maxHeartbeats 4000000 in
theorem b_noteBlock_0 {G : zG} {E : rE} {S : rS} {N : Nat} {Q : Option Value → rS → Prop} {X : rS → Prop} (hG : zOK G) (hR : ∀ S', X S' → Q none S') {x1 : Int32} (ok : O_noteBlock_0 N x1 S) (hx : X (F_noteBlock_0 N x1 S)) : rX G E dX12_noteBlock mX12_noteBlock 0 [some (.ref E.1), some (.int x1), none] [] S Q := by
  unfold O_noteBlock_0 at ok
  unfold F_noteBlock_0 at hx
  refine r_iconst (v := nI 0) dX12_noteBlock_0 (by decide) ?_
  refine r_istore_2 dX12_noteBlock_1 (by decide) rfl ?_
  exact rX.cutz (c_noteBlock_2 hG hR ok hx) ⟨rfl, rfl, rfl, trivial⟩
def f_noteBlock (N : Nat) (S : rS) (x1 : Int32) : rS := F_noteBlock_0 N x1 S
def o_noteBlock (N : Nat) (S : rS) (x1 : Int32) : Prop := O_noteBlock_0 N x1 S
set_option maxHeartbeats 4000000 in
theorem rc_X12_noteBlock {G : zG} {E : rE} {S : rS} {N : Nat} (hG : zOK G) {x1 : Int32} (ok : o_noteBlock N S x1) : rCv G E dX12_noteBlock mX12_noteBlock [.ref E.1, .int x1] S (fun S' => S' = f_noteBlock N S x1) := by
  refine rC.ofX rfl (Nat.le_of_ble_eq_true rfl) ?_
  show rX G E dX12_noteBlock mX12_noteBlock 0 [some (.ref E.1), some (.int x1), none] [] S _
  exact rX.cutz (b_noteBlock_0 (X := fun F => F = f_noteBlock N S x1) hG (fun S' h => ⟨rfl, h⟩) ok rfl) ⟨rfl, rfl, trivial⟩
/-! setSectorByte -/
def F_setSectorByte_47 (N : Nat) (x3 : Int32) (x4 : Int32) (s1 : Int32) (s2 : Int64) (S : rS) : rS := (rsL S 73 s1.toNatClampNeg (s2 ||| ((Int32.toInt64 x3) <<< (Int32.toInt64 x4 &&& 63))))
def O_setSectorByte_47 (N : Nat) (x3 : Int32) (x4 : Int32) (s1 : Int32) (s2 : Int64) (S : rS) : Prop := (vp_in s1 236288) ∧ True
set_option maxHeartbeats 4000000 in
theorem b_setSectorByte_47 {G : zG} {E : rE} {S : rS} {N : Nat} {Q : Option Value → rS → Prop} {X : rS → Prop} (hG : zOK G) (hR : ∀ S', X S' → Q none S') {x3 : Int32} {x4 : Int32} {s1 : Int32} {s2 : Int64} (ok : O_setSectorByte_47 N x3 x4 s1 s2 S) (hx : X (F_setSectorByte_47 N x3 x4 s1 s2 S)) : rX G E dX12_setSectorByte mX12_setSectorByte 47 [none, none, none, some (.int x3), some (.int x4), none] [.long s2, .int s1, .ref (E.2.1 73)] S Q := by
  unfold O_setSectorByte_47 at ok
  unfold F_setSectorByte_47 at hx
  refine r_iload_n dX12_setSectorByte_47 rfl rfl ?_
  refine r_i2l dX12_setSectorByte_48 ?_
  refine r_iload dX12_setSectorByte_49 rfl ?_
  refine r_lshl dX12_setSectorByte_51 ?_
  refine r_lor dX12_setSectorByte_52 ?_
  refine r_last (by decide) (by decide) dX12_setSectorByte_53 ok.1 ?_
  have ok := ok.2
  exact r_return rfl dX12_setSectorByte_54 (hR _ hx)
def F_setSectorByte_0 (N : Nat) (x1 : Int32) (x2 : Int32) (x3 : Int32) (S : rS) : rS := (F_setSectorByte_47 N x3 ((nI 56) - ((nI 8) * (x2 - x2 / (nI 8) * (nI 8)))) (((nI 64) * x1) + (x2 / (nI 8))) ((S.2.2 73 (((nI 64) * x1) + (x2 / (nI 8))).toNatClampNeg) &&& (((255 : Int64) <<< (Int32.toInt64 ((nI 56) - ((nI 8) * (x2 - x2 / (nI 8) * (nI 8)))) &&& 63)) ^^^ (-1 : Int64))) S)
def O_setSectorByte_0 (N : Nat) (x1 : Int32) (x2 : Int32) (x3 : Int32) (S : rS) : Prop := (vp_in (((nI 64) * x1) + (x2 / (nI 8))) 236288) ∧ O_setSectorByte_47 N x3 ((nI 56) - ((nI 8) * (x2 - x2 / (nI 8) * (nI 8)))) (((nI 64) * x1) + (x2 / (nI 8))) ((S.2.2 73 (((nI 64) * x1) + (x2 / (nI 8))).toNatClampNeg) &&& (((255 : Int64) <<< (Int32.toInt64 ((nI 56) - ((nI 8) * (x2 - x2 / (nI 8) * (nI 8)))) &&& 63)) ^^^ (-1 : Int64))) S
set_option maxHeartbeats 4000000 in
theorem b_setSectorByte_0 {G : zG} {E : rE} {S : rS} {N : Nat} {Q : Option Value → rS → Prop} {X : rS → Prop} (hG : zOK G) (hR : ∀ S', X S' → Q none S') {x1 : Int32} {x2 : Int32} {x3 : Int32} (ok : O_setSectorByte_0 N x1 x2 x3 S) (hx : X (F_setSectorByte_0 N x1 x2 x3 S)) : rX G E dX12_setSectorByte mX12_setSectorByte 0 [some (.ref E.1), some (.int x1), some (.int x2), some (.int x3), none, none] [] S Q := by
  unfold O_setSectorByte_0 at ok
  unfold F_setSectorByte_0 at hx
  refine r_bipush (v := nI 56) dX12_setSectorByte_0 (by decide) ?_
  refine r_bipush (v := nI 8) dX12_setSectorByte_2 (by decide) ?_
  refine r_iload_n dX12_setSectorByte_4 rfl rfl ?_
  refine r_bipush (v := nI 8) dX12_setSectorByte_5 (by decide) ?_
  refine r_irem dX12_setSectorByte_7 (by decide) ?_
  refine r_imul dX12_setSectorByte_8 ?_
  refine r_isub dX12_setSectorByte_9 ?_
  refine r_istore_4 dX12_setSectorByte_10 (by decide) rfl ?_
  refine r_bipush (v := nI 64) dX12_setSectorByte_12 (by decide) ?_
  refine r_iload_n dX12_setSectorByte_14 rfl rfl ?_
  refine r_imul dX12_setSectorByte_15 ?_
  refine r_iload_n dX12_setSectorByte_16 rfl rfl ?_
  refine r_bipush (v := nI 8) dX12_setSectorByte_17 (by decide) ?_
  refine r_idiv dX12_setSectorByte_19 (by decide) ?_
  refine r_iadd dX12_setSectorByte_20 ?_
  refine r_istore_5 dX12_setSectorByte_21 (by decide) rfl ?_
  refine r_aload_n dX12_setSectorByte_23 rfl rfl ?_
  refine r_getA 73 fX12_394 (by decide) (by decide) dX12_setSectorByte_24 ?_
  refine r_iload dX12_setSectorByte_27 rfl ?_
  refine r_aload_n dX12_setSectorByte_29 rfl rfl ?_
  refine r_getA 73 fX12_394 (by decide) (by decide) dX12_setSectorByte_30 ?_
  refine r_iload dX12_setSectorByte_33 rfl ?_
  refine r_lald (by decide) (by decide) dX12_setSectorByte_35 ok.1 ?_
  have ok := ok.2
  refine r_ldc2 dX12_setSectorByte_36 nX12_53 ?_
  refine r_iload dX12_setSectorByte_39 rfl ?_
  refine r_lshl dX12_setSectorByte_41 ?_
  refine r_ldc2 dX12_setSectorByte_42 nX12_55 ?_
  refine r_lxor dX12_setSectorByte_45 ?_
  refine r_land dX12_setSectorByte_46 ?_
  exact rX.cutz (b_setSectorByte_47 hG hR ok hx) ⟨rfl, rfl, trivial⟩
def f_setSectorByte (N : Nat) (S : rS) (x1 : Int32) (x2 : Int32) (x3 : Int32) : rS := F_setSectorByte_0 N x1 x2 x3 S
def o_setSectorByte (N : Nat) (S : rS) (x1 : Int32) (x2 : Int32) (x3 : Int32) : Prop := O_setSectorByte_0 N x1 x2 x3 S
set_option maxHeartbeats 4000000 in
theorem rc_X12_setSectorByte {G : zG} {E : rE} {S : rS} {N : Nat} (hG : zOK G) {x1 : Int32} {x2 : Int32} {x3 : Int32} (ok : o_setSectorByte N S x1 x2 x3) : rCv G E dX12_setSectorByte mX12_setSectorByte [.ref E.1, .int x1, .int x2, .int x3] S (fun S' => S' = f_setSectorByte N S x1 x2 x3) := by
  refine rC.ofX rfl (Nat.le_of_ble_eq_true rfl) ?_
  show rX G E dX12_setSectorByte mX12_setSectorByte 0 [some (.ref E.1), some (.int x1), some (.int x2), some (.int x3), none, none] [] S _
  exact rX.cutz (b_setSectorByte_0 (X := fun F => F = f_setSectorByte N S x1 x2 x3) hG (fun S' h => ⟨rfl, h⟩) ok rfl) ⟨rfl, rfl, rfl, rfl, trivial⟩
/-! closeNote -/
def F_closeNote_276 (N : Nat)  (S : rS) : Int32 × rS := ((nI 0), S)
def O_closeNote_276 (N : Nat)  (S : rS) : Prop := True
set_option maxHeartbeats 4000000 in
theorem b_closeNote_276 {G : zG} {E : rE} {S : rS} {N : Nat} {Q : Option Value → rS → Prop} {X : Int32 × rS → Prop} (hG : zOK G) (hR : ∀ v S', X (v, S') → Q (some (.int v)) S') (ok : O_closeNote_276 N S) (hx : X (F_closeNote_276 N S)) : rX G E dX12_closeNote mX12_closeNote 276 [none, none, none, none, none, none, none, none, none, none] [] S Q := by
  unfold O_closeNote_276 at ok
  unfold F_closeNote_276 at hx
  refine r_iconst (v := nI 0) dX12_closeNote_276 (by decide) ?_
  exact r_ireturn rfl rfl dX12_closeNote_277 (hR _ _ hx)
def F_closeNote_267 (N : Nat) (x1 : Int32) (x3 : Int32) (S : rS) : Int32 × rS := (if x3 = 0 then ((nI 1), (rsA S 76 x1.toNatClampNeg ((S.2.1 76 x1.toNatClampNeg) + (nI 1)))) else (F_closeNote_276 N (f_fall N S x1)))
def O_closeNote_267 (N : Nat) (x1 : Int32) (x3 : Int32) (S : rS) : Prop := ((x3 = 0 → (vp_in x1 13) ∧ (vp_in x1 13) ∧ True) ∧ (¬ x3 = 0 → (o_fall N S x1) ∧ O_closeNote_276 N (f_fall N S x1)))
set_option maxHeartbeats 4000000 in
theorem b_closeNote_267 {G : zG} {E : rE} {S : rS} {N : Nat} {Q : Option Value → rS → Prop} {X : Int32 × rS → Prop} (hG : zOK G) (hR : ∀ v S', X (v, S') → Q (some (.int v)) S') {x1 : Int32} {x3 : Int32} (ok : O_closeNote_267 N x1 x3 S) (hx : X (F_closeNote_267 N x1 x3 S)) : rX G E dX12_closeNote mX12_closeNote 267 [some (.ref E.1), some (.int x1), none, some (.int x3), none, none, none, none, none, none] [] S Q := by
  unfold O_closeNote_267 at ok
  unfold F_closeNote_267 at hx
  refine r_iload_n dX12_closeNote_267 rfl rfl ?_
  refine r_if_eq (tgt := 278) dX12_closeNote_268 (by decide) (fun c_268 => ?_) (fun c_268 => ?_)
  · have ok := ok.1 c_268
    have hx := xif_p c_268 hx
    refine r_aload_n dX12_closeNote_278 rfl rfl ?_
    refine r_getA 76 fX12_403 (by decide) (by decide) dX12_closeNote_279 ?_
    refine r_iload_n dX12_closeNote_282 rfl rfl ?_
    refine r_aload_n dX12_closeNote_283 rfl rfl ?_
    refine r_getA 76 fX12_403 (by decide) (by decide) dX12_closeNote_284 ?_
    refine r_iload_n dX12_closeNote_287 rfl rfl ?_
    refine r_iald (by decide) (by decide) dX12_closeNote_288 ok.1 ?_
    have ok := ok.2
    refine r_iconst (v := nI 1) dX12_closeNote_289 (by decide) ?_
    refine r_iadd dX12_closeNote_290 ?_
    refine r_iast hG (by decide) (by decide) dX12_closeNote_291 ok.1 ?_
    have ok := ok.2
    refine r_iconst (v := nI 1) dX12_closeNote_292 (by decide) ?_
    exact r_ireturn rfl rfl dX12_closeNote_293 (hR _ _ hx)
  · have ok := ok.2 c_268
    have hx := xif_n c_268 hx
    refine r_aload_n dX12_closeNote_271 rfl rfl ?_
    refine r_iload_n dX12_closeNote_272 rfl rfl ?_
    refine r_V1v (y' := mX12_fall) dX12_closeNote_273 lX12_489 kX12_fall ⟨by decide, by decide⟩ rfl (Nat.le_of_ble_eq_true rfl) (rc_X12_fall hG ok.1) (fun S_273 h_273 => ?_)
    subst h_273
    have ok := ok.2
    exact rX.cutz (b_closeNote_276 hG hR ok hx) trivial
def F_closeNote_260 (N : Nat) (rec : Int32 → Int32 → Int32 → Int32 → Int32 → rS → Nat × Int32 × Int32 × rS) (x1 : Int32) (x2 : Int32) (x3 : Int32) (x4 : Int32) (x5 : Int32) (s1 : Int32) (s2 : Int32) (S : rS) : Nat × Int32 × Int32 × rS := (rec x1 x2 x3 x4 (x5 + nI 1) (rsA S 77 s1.toNatClampNeg s2))
def O_closeNote_260 (N : Nat) (rok : Int32 → Int32 → Int32 → Int32 → Int32 → rS → Prop) (x1 : Int32) (x2 : Int32) (x3 : Int32) (x4 : Int32) (x5 : Int32) (s1 : Int32) (s2 : Int32) (S : rS) : Prop := (vp_in s1 13) ∧ rok x1 x2 x3 x4 (x5 + nI 1) (rsA S 77 s1.toNatClampNeg s2)
set_option maxHeartbeats 4000000 in
theorem b_closeNote_260 {G : zG} {E : rE} {S : rS} {N : Nat} {Q : Option Value → rS → Prop} {X : Nat × Int32 × Int32 × rS → Prop} (hG : zOK G) (hX0 : ∀ (x1 : Int32) (x3 : Int32) (S' : rS), X (0, x1, x3, S') → rX G E dX12_closeNote mX12_closeNote 267 [some (.ref E.1), some (.int x1), none, some (.int x3), none, none, none, none, none, none] [] S' Q) {rec : Int32 → Int32 → Int32 → Int32 → Int32 → rS → Nat × Int32 × Int32 × rS} {rok : Int32 → Int32 → Int32 → Int32 → Int32 → rS → Prop} (hrec : ∀ (x1 : Int32) (x2 : Int32) (x3 : Int32) (x4 : Int32) (x5 : Int32) (S : rS), rok x1 x2 x3 x4 x5 S → X (rec x1 x2 x3 x4 x5 S) → rX G E dX12_closeNote mX12_closeNote 87 [some (.ref E.1), some (.int x1), some (.int x2), some (.int x3), some (.int x4), some (.int x5), none, none, none, none] [] S Q) {x1 : Int32} {x2 : Int32} {x3 : Int32} {x4 : Int32} {x5 : Int32} {s1 : Int32} {s2 : Int32} (ok : O_closeNote_260 N rok x1 x2 x3 x4 x5 s1 s2 S) (hx : X (F_closeNote_260 N rec x1 x2 x3 x4 x5 s1 s2 S)) : rX G E dX12_closeNote mX12_closeNote 260 [some (.ref E.1), some (.int x1), some (.int x2), some (.int x3), some (.int x4), some (.int x5), none, none, none, none] [.int s2, .int s1, .ref (E.2.1 77)] S Q := by
  unfold O_closeNote_260 at ok
  unfold F_closeNote_260 at hx
  refine r_iast hG (by decide) (by decide) dX12_closeNote_260 ok.1 ?_
  have ok := ok.2
  refine r_iinc_5 (v := (x5 + nI 1)) dX12_closeNote_261 rfl (by first | rfl | (congr 1)) (by decide) rfl ?_
  refine r_goto (tgt := 87) dX12_closeNote_264 (by decide) ?_
  exact rX.cutz (hrec _ _ _ _ _ (rsA S 77 s1.toNatClampNeg s2) ok hx) ⟨rfl, rfl, rfl, rfl, rfl, rfl, trivial⟩
def F_closeNote_232 (N : Nat) (rec : Int32 → Int32 → Int32 → Int32 → Int32 → rS → Nat × Int32 × Int32 × rS) (x1 : Int32) (x2 : Int32) (x3 : Int32) (x4 : Int32) (x5 : Int32) (x7 : Int32) (s1 : Int32) (s2 : Int32) (S : rS) : Nat × Int32 × Int32 × rS := (if x7 = 0 then (F_closeNote_260 N rec x1 x2 x3 x4 x5 x1 (((rsA S 74 s1.toNatClampNeg s2).2.1 77 x1.toNatClampNeg) + (nI 1)) (rsA S 74 s1.toNatClampNeg s2)) else (F_closeNote_260 N rec x1 x2 x3 x4 x5 x1 ((rsA S 74 s1.toNatClampNeg s2).2.1 77 x1.toNatClampNeg) (rsA S 74 s1.toNatClampNeg s2)))
def O_closeNote_232 (N : Nat) (rok : Int32 → Int32 → Int32 → Int32 → Int32 → rS → Prop) (x1 : Int32) (x2 : Int32) (x3 : Int32) (x4 : Int32) (x5 : Int32) (x7 : Int32) (s1 : Int32) (s2 : Int32) (S : rS) : Prop := (vp_in s1 3692 ∧ narrow .boolean (.int s2) = .int s2) ∧ ((x7 = 0 → (vp_in x1 13) ∧ O_closeNote_260 N rok x1 x2 x3 x4 x5 x1 (((rsA S 74 s1.toNatClampNeg s2).2.1 77 x1.toNatClampNeg) + (nI 1)) (rsA S 74 s1.toNatClampNeg s2)) ∧ (¬ x7 = 0 → (vp_in x1 13) ∧ O_closeNote_260 N rok x1 x2 x3 x4 x5 x1 ((rsA S 74 s1.toNatClampNeg s2).2.1 77 x1.toNatClampNeg) (rsA S 74 s1.toNatClampNeg s2)))
set_option maxHeartbeats 4000000 in
theorem b_closeNote_232 {G : zG} {E : rE} {S : rS} {N : Nat} {Q : Option Value → rS → Prop} {X : Nat × Int32 × Int32 × rS → Prop} (hG : zOK G) (hX0 : ∀ (x1 : Int32) (x3 : Int32) (S' : rS), X (0, x1, x3, S') → rX G E dX12_closeNote mX12_closeNote 267 [some (.ref E.1), some (.int x1), none, some (.int x3), none, none, none, none, none, none] [] S' Q) {rec : Int32 → Int32 → Int32 → Int32 → Int32 → rS → Nat × Int32 × Int32 × rS} {rok : Int32 → Int32 → Int32 → Int32 → Int32 → rS → Prop} (hrec : ∀ (x1 : Int32) (x2 : Int32) (x3 : Int32) (x4 : Int32) (x5 : Int32) (S : rS), rok x1 x2 x3 x4 x5 S → X (rec x1 x2 x3 x4 x5 S) → rX G E dX12_closeNote mX12_closeNote 87 [some (.ref E.1), some (.int x1), some (.int x2), some (.int x3), some (.int x4), some (.int x5), none, none, none, none] [] S Q) {x1 : Int32} {x2 : Int32} {x3 : Int32} {x4 : Int32} {x5 : Int32} {x7 : Int32} {s1 : Int32} {s2 : Int32} (ok : O_closeNote_232 N rok x1 x2 x3 x4 x5 x7 s1 s2 S) (hx : X (F_closeNote_232 N rec x1 x2 x3 x4 x5 x7 s1 s2 S)) : rX G E dX12_closeNote mX12_closeNote 232 [some (.ref E.1), some (.int x1), some (.int x2), some (.int x3), some (.int x4), some (.int x5), none, some (.int x7), none, none] [.int s2, .int s1, .ref (E.2.1 74)] S Q := by
  unfold O_closeNote_232 at ok
  unfold F_closeNote_232 at hx
  refine r_zast hG ok.1.2 (by decide) (by decide) dX12_closeNote_232 ok.1.1 ?_
  have ok := ok.2
  refine r_aload_n dX12_closeNote_233 rfl rfl ?_
  refine r_getA 77 fX12_406 (by decide) (by decide) dX12_closeNote_234 ?_
  refine r_iload_n dX12_closeNote_237 rfl rfl ?_
  refine r_iload dX12_closeNote_238 rfl ?_
  refine r_if_eq (tgt := 252) dX12_closeNote_240 (by decide) (fun c_240 => ?_) (fun c_240 => ?_)
  · have ok := ok.1 c_240
    have hx := xif_p c_240 hx
    refine r_aload_n dX12_closeNote_252 rfl rfl ?_
    refine r_getA 77 fX12_406 (by decide) (by decide) dX12_closeNote_253 ?_
    refine r_iload_n dX12_closeNote_256 rfl rfl ?_
    refine r_iald (by decide) (by decide) dX12_closeNote_257 ok.1 ?_
    have ok := ok.2
    refine r_iconst (v := nI 1) dX12_closeNote_258 (by decide) ?_
    refine r_iadd dX12_closeNote_259 ?_
    exact rX.cutz (b_closeNote_260 hG hX0 hrec ok hx) ⟨rfl, rfl, rfl, rfl, rfl, rfl, trivial⟩
  · have ok := ok.2 c_240
    have hx := xif_n c_240 hx
    refine r_aload_n dX12_closeNote_243 rfl rfl ?_
    refine r_getA 77 fX12_406 (by decide) (by decide) dX12_closeNote_244 ?_
    refine r_iload_n dX12_closeNote_247 rfl rfl ?_
    refine r_iald (by decide) (by decide) dX12_closeNote_248 ok.1 ?_
    have ok := ok.2
    refine r_goto (tgt := 260) dX12_closeNote_249 (by decide) ?_
    exact rX.cutz (b_closeNote_260 hG hX0 hrec ok hx) ⟨rfl, rfl, rfl, rfl, rfl, rfl, trivial⟩
def F_closeNote_216 (N : Nat) (rec : Int32 → Int32 → Int32 → Int32 → Int32 → rS → Nat × Int32 × Int32 × rS) (x1 : Int32) (x2 : Int32) (x3 : Int32) (x4 : Int32) (x5 : Int32) (x6 : Int32) (x7 : Int32) (S : rS) : Nat × Int32 × Int32 × rS := (if x7 = 0 then (F_closeNote_232 N rec x1 x2 x3 x4 x5 x7 x6 (nI 1) S) else (F_closeNote_232 N rec x1 x2 x3 x4 x5 x7 x6 (nI 0) S))
def O_closeNote_216 (N : Nat) (rok : Int32 → Int32 → Int32 → Int32 → Int32 → rS → Prop) (x1 : Int32) (x2 : Int32) (x3 : Int32) (x4 : Int32) (x5 : Int32) (x6 : Int32) (x7 : Int32) (S : rS) : Prop := ((x7 = 0 → O_closeNote_232 N rok x1 x2 x3 x4 x5 x7 x6 (nI 1) S) ∧ (¬ x7 = 0 → O_closeNote_232 N rok x1 x2 x3 x4 x5 x7 x6 (nI 0) S))
set_option maxHeartbeats 4000000 in
theorem b_closeNote_216 {G : zG} {E : rE} {S : rS} {N : Nat} {Q : Option Value → rS → Prop} {X : Nat × Int32 × Int32 × rS → Prop} (hG : zOK G) (hX0 : ∀ (x1 : Int32) (x3 : Int32) (S' : rS), X (0, x1, x3, S') → rX G E dX12_closeNote mX12_closeNote 267 [some (.ref E.1), some (.int x1), none, some (.int x3), none, none, none, none, none, none] [] S' Q) {rec : Int32 → Int32 → Int32 → Int32 → Int32 → rS → Nat × Int32 × Int32 × rS} {rok : Int32 → Int32 → Int32 → Int32 → Int32 → rS → Prop} (hrec : ∀ (x1 : Int32) (x2 : Int32) (x3 : Int32) (x4 : Int32) (x5 : Int32) (S : rS), rok x1 x2 x3 x4 x5 S → X (rec x1 x2 x3 x4 x5 S) → rX G E dX12_closeNote mX12_closeNote 87 [some (.ref E.1), some (.int x1), some (.int x2), some (.int x3), some (.int x4), some (.int x5), none, none, none, none] [] S Q) {x1 : Int32} {x2 : Int32} {x3 : Int32} {x4 : Int32} {x5 : Int32} {x6 : Int32} {x7 : Int32} (ok : O_closeNote_216 N rok x1 x2 x3 x4 x5 x6 x7 S) (hx : X (F_closeNote_216 N rec x1 x2 x3 x4 x5 x6 x7 S)) : rX G E dX12_closeNote mX12_closeNote 216 [some (.ref E.1), some (.int x1), some (.int x2), some (.int x3), some (.int x4), some (.int x5), some (.int x6), some (.int x7), none, none] [] S Q := by
  unfold O_closeNote_216 at ok
  unfold F_closeNote_216 at hx
  refine r_aload_n dX12_closeNote_216 rfl rfl ?_
  refine r_getA 74 fX12_397 (by decide) (by decide) dX12_closeNote_217 ?_
  refine r_iload dX12_closeNote_220 rfl ?_
  refine r_iload dX12_closeNote_222 rfl ?_
  refine r_if_ne (tgt := 231) dX12_closeNote_224 (by decide) (fun c_224 => ?_) (fun c_224 => ?_)
  · have ok := ok.2 c_224
    have hx := xif_n c_224 hx
    refine r_iconst (v := nI 0) dX12_closeNote_231 (by decide) ?_
    exact rX.cutz (b_closeNote_232 hG hX0 hrec ok hx) ⟨rfl, rfl, rfl, rfl, rfl, rfl, rfl, trivial⟩
  · have ok := ok.1 c_224
    have hx := xif_p c_224 hx
    refine r_iconst (v := nI 1) dX12_closeNote_227 (by decide) ?_
    refine r_goto (tgt := 232) dX12_closeNote_228 (by decide) ?_
    exact rX.cutz (b_closeNote_232 hG hX0 hrec ok hx) ⟨rfl, rfl, rfl, rfl, rfl, rfl, rfl, trivial⟩
def F_closeNote_210 (N : Nat) (rec : Int32 → Int32 → Int32 → Int32 → Int32 → Int32 → Int32 → Int32 → Int32 → rS → Nat × Int32 × Int32 × Int32 × Int32 × Int32 × Int32 × Int32 × rS) (x1 : Int32) (x2 : Int32) (x3 : Int32) (x4 : Int32) (x5 : Int32) (x6 : Int32) (x7 : Int32) (x8 : Int32) (x9 : Int32) (S : rS) : Nat × Int32 × Int32 × Int32 × Int32 × Int32 × Int32 × Int32 × rS := (rec x1 x2 x3 x4 x5 x6 x7 x8 (x9 + nI 1) S)
def O_closeNote_210 (N : Nat) (rok : Int32 → Int32 → Int32 → Int32 → Int32 → Int32 → Int32 → Int32 → Int32 → rS → Prop) (x1 : Int32) (x2 : Int32) (x3 : Int32) (x4 : Int32) (x5 : Int32) (x6 : Int32) (x7 : Int32) (x8 : Int32) (x9 : Int32) (S : rS) : Prop := rok x1 x2 x3 x4 x5 x6 x7 x8 (x9 + nI 1) S
set_option maxHeartbeats 4000000 in
theorem b_closeNote_210 {G : zG} {E : rE} {S : rS} {N : Nat} {Q : Option Value → rS → Prop} {X : Nat × Int32 × Int32 × Int32 × Int32 × Int32 × Int32 × Int32 × rS → Prop} (hG : zOK G) (hX0 : ∀ (x1 : Int32) (x2 : Int32) (x3 : Int32) (x4 : Int32) (x5 : Int32) (x6 : Int32) (x7 : Int32) (S' : rS), X (0, x1, x2, x3, x4, x5, x6, x7, S') → rX G E dX12_closeNote mX12_closeNote 216 [some (.ref E.1), some (.int x1), some (.int x2), some (.int x3), some (.int x4), some (.int x5), some (.int x6), some (.int x7), none, none] [] S' Q) {rec : Int32 → Int32 → Int32 → Int32 → Int32 → Int32 → Int32 → Int32 → Int32 → rS → Nat × Int32 × Int32 × Int32 × Int32 × Int32 × Int32 × Int32 × rS} {rok : Int32 → Int32 → Int32 → Int32 → Int32 → Int32 → Int32 → Int32 → Int32 → rS → Prop} (hrec : ∀ (x1 : Int32) (x2 : Int32) (x3 : Int32) (x4 : Int32) (x5 : Int32) (x6 : Int32) (x7 : Int32) (x8 : Int32) (x9 : Int32) (S : rS), rok x1 x2 x3 x4 x5 x6 x7 x8 x9 S → X (rec x1 x2 x3 x4 x5 x6 x7 x8 x9 S) → rX G E dX12_closeNote mX12_closeNote 181 [some (.ref E.1), some (.int x1), some (.int x2), some (.int x3), some (.int x4), some (.int x5), some (.int x6), some (.int x7), some (.int x8), some (.int x9)] [] S Q) {x1 : Int32} {x2 : Int32} {x3 : Int32} {x4 : Int32} {x5 : Int32} {x6 : Int32} {x7 : Int32} {x8 : Int32} {x9 : Int32} (ok : O_closeNote_210 N rok x1 x2 x3 x4 x5 x6 x7 x8 x9 S) (hx : X (F_closeNote_210 N rec x1 x2 x3 x4 x5 x6 x7 x8 x9 S)) : rX G E dX12_closeNote mX12_closeNote 210 [some (.ref E.1), some (.int x1), some (.int x2), some (.int x3), some (.int x4), some (.int x5), some (.int x6), some (.int x7), some (.int x8), some (.int x9)] [] S Q := by
  unfold O_closeNote_210 at ok
  unfold F_closeNote_210 at hx
  refine r_iinc_9 (v := (x9 + nI 1)) dX12_closeNote_210 rfl (by first | rfl | (congr 1)) (by decide) rfl ?_
  refine r_goto (tgt := 181) dX12_closeNote_213 (by decide) ?_
  exact rX.cutz (hrec _ _ _ _ _ _ _ _ _ S ok hx) ⟨rfl, rfl, rfl, rfl, rfl, rfl, rfl, rfl, rfl, rfl, trivial⟩
def B_closeNote_181 (N : Nat) (rec : Int32 → Int32 → Int32 → Int32 → Int32 → Int32 → Int32 → Int32 → Int32 → rS → Nat × Int32 × Int32 × Int32 × Int32 × Int32 × Int32 × Int32 × rS) (x1 : Int32) (x2 : Int32) (x3 : Int32) (x4 : Int32) (x5 : Int32) (x6 : Int32) (x7 : Int32) (x8 : Int32) (x9 : Int32) (S : rS) : Nat × Int32 × Int32 × Int32 × Int32 × Int32 × Int32 × Int32 × rS := (if x8 ≤ x9 then (0, x1, x2, x3, x4, x5, x6, x7, S) else (F_closeNote_210 N rec x1 x2 x3 x4 x5 x6 x7 x8 x9 (f_setSectorByte N S x6 x9 (S.2.1 71 (((nI 512) * x5) + x9).toNatClampNeg))))
def OB_closeNote_181 (N : Nat) (rok : Int32 → Int32 → Int32 → Int32 → Int32 → Int32 → Int32 → Int32 → Int32 → rS → Prop) (x1 : Int32) (x2 : Int32) (x3 : Int32) (x4 : Int32) (x5 : Int32) (x6 : Int32) (x7 : Int32) (x8 : Int32) (x9 : Int32) (S : rS) : Prop := ((x8 ≤ x9 → True) ∧ (¬ x8 ≤ x9 → (vp_in (((nI 512) * x5) + x9) 1100) ∧ (o_setSectorByte N S x6 x9 (S.2.1 71 (((nI 512) * x5) + x9).toNatClampNeg)) ∧ O_closeNote_210 N rok x1 x2 x3 x4 x5 x6 x7 x8 x9 (f_setSectorByte N S x6 x9 (S.2.1 71 (((nI 512) * x5) + x9).toNatClampNeg))))
set_option maxHeartbeats 4000000 in
theorem bb_closeNote_181 {G : zG} {E : rE} {S : rS} {N : Nat} {Q : Option Value → rS → Prop} {X : Nat × Int32 × Int32 × Int32 × Int32 × Int32 × Int32 × Int32 × rS → Prop} (hG : zOK G) (hX0 : ∀ (x1 : Int32) (x2 : Int32) (x3 : Int32) (x4 : Int32) (x5 : Int32) (x6 : Int32) (x7 : Int32) (S' : rS), X (0, x1, x2, x3, x4, x5, x6, x7, S') → rX G E dX12_closeNote mX12_closeNote 216 [some (.ref E.1), some (.int x1), some (.int x2), some (.int x3), some (.int x4), some (.int x5), some (.int x6), some (.int x7), none, none] [] S' Q) {rec : Int32 → Int32 → Int32 → Int32 → Int32 → Int32 → Int32 → Int32 → Int32 → rS → Nat × Int32 × Int32 × Int32 × Int32 × Int32 × Int32 × Int32 × rS} {rok : Int32 → Int32 → Int32 → Int32 → Int32 → Int32 → Int32 → Int32 → Int32 → rS → Prop} (hrec : ∀ (x1 : Int32) (x2 : Int32) (x3 : Int32) (x4 : Int32) (x5 : Int32) (x6 : Int32) (x7 : Int32) (x8 : Int32) (x9 : Int32) (S : rS), rok x1 x2 x3 x4 x5 x6 x7 x8 x9 S → X (rec x1 x2 x3 x4 x5 x6 x7 x8 x9 S) → rX G E dX12_closeNote mX12_closeNote 181 [some (.ref E.1), some (.int x1), some (.int x2), some (.int x3), some (.int x4), some (.int x5), some (.int x6), some (.int x7), some (.int x8), some (.int x9)] [] S Q) {x1 : Int32} {x2 : Int32} {x3 : Int32} {x4 : Int32} {x5 : Int32} {x6 : Int32} {x7 : Int32} {x8 : Int32} {x9 : Int32} (ok : OB_closeNote_181 N rok x1 x2 x3 x4 x5 x6 x7 x8 x9 S) (hx : X (B_closeNote_181 N rec x1 x2 x3 x4 x5 x6 x7 x8 x9 S)) : rX G E dX12_closeNote mX12_closeNote 181 [some (.ref E.1), some (.int x1), some (.int x2), some (.int x3), some (.int x4), some (.int x5), some (.int x6), some (.int x7), some (.int x8), some (.int x9)] [] S Q := by
  unfold OB_closeNote_181 at ok
  unfold B_closeNote_181 at hx
  refine r_iload dX12_closeNote_181 rfl ?_
  refine r_iload dX12_closeNote_183 rfl ?_
  refine r_icmp_ge (tgt := 216) dX12_closeNote_185 (by decide) (fun c_185 => ?_) (fun c_185 => ?_)
  · have ok := ok.1 c_185
    have hx := xif_p c_185 hx
    exact rX.cutz (hX0 _ _ _ _ _ _ _ S hx) ⟨rfl, rfl, rfl, rfl, rfl, rfl, rfl, rfl, trivial⟩
  · have ok := ok.2 c_185
    have hx := xif_n c_185 hx
    refine r_aload_n dX12_closeNote_188 rfl rfl ?_
    refine r_iload dX12_closeNote_189 rfl ?_
    refine r_iload dX12_closeNote_191 rfl ?_
    refine r_aload_n dX12_closeNote_193 rfl rfl ?_
    refine r_getA 71 fX12_390 (by decide) (by decide) dX12_closeNote_194 ?_
    refine r_sipush (v := nI 512) dX12_closeNote_197 (by decide) ?_
    refine r_iload dX12_closeNote_200 rfl ?_
    refine r_imul dX12_closeNote_202 ?_
    refine r_iload dX12_closeNote_203 rfl ?_
    refine r_iadd dX12_closeNote_205 ?_
    refine r_iald (by decide) (by decide) dX12_closeNote_206 ok.1 ?_
    have ok := ok.2
    refine r_V3v (y' := mX12_setSectorByte) dX12_closeNote_207 lX12_486 kX12_setSectorByte ⟨by decide, by decide⟩ rfl (Nat.le_of_ble_eq_true rfl) (rc_X12_setSectorByte hG ok.1) (fun S_207 h_207 => ?_)
    subst h_207
    have ok := ok.2
    exact rX.cutz (b_closeNote_210 hG hX0 hrec ok hx) ⟨rfl, rfl, rfl, rfl, rfl, rfl, rfl, rfl, rfl, rfl, trivial⟩
def L_closeNote_181 (N : Nat) : Nat → Int32 → Int32 → Int32 → Int32 → Int32 → Int32 → Int32 → Int32 → Int32 → rS → Nat × Int32 × Int32 × Int32 × Int32 × Int32 × Int32 × Int32 × rS
  | 0, x1, x2, x3, x4, x5, x6, x7, x8, x9, S => (0, 0, 0, 0, 0, 0, 0, 0, S)
  | n + 1, x1, x2, x3, x4, x5, x6, x7, x8, x9, S => B_closeNote_181 N (L_closeNote_181 N n) x1 x2 x3 x4 x5 x6 x7 x8 x9 S
def OL_closeNote_181 (N : Nat) : Nat → Int32 → Int32 → Int32 → Int32 → Int32 → Int32 → Int32 → Int32 → Int32 → rS → Prop
  | 0, _, _, _, _, _, _, _, _, _, _ => False
  | n + 1, x1, x2, x3, x4, x5, x6, x7, x8, x9, S => OB_closeNote_181 N (OL_closeNote_181 N n) x1 x2 x3 x4 x5 x6 x7 x8 x9 S
set_option maxHeartbeats 4000000 in
theorem l_closeNote_181 {G : zG} {E : rE} {N : Nat} {Q : Option Value → rS → Prop} {X : Nat × Int32 × Int32 × Int32 × Int32 × Int32 × Int32 × Int32 × rS → Prop} (hG : zOK G) (hX0 : ∀ (x1 : Int32) (x2 : Int32) (x3 : Int32) (x4 : Int32) (x5 : Int32) (x6 : Int32) (x7 : Int32) (S' : rS), X (0, x1, x2, x3, x4, x5, x6, x7, S') → rX G E dX12_closeNote mX12_closeNote 216 [some (.ref E.1), some (.int x1), some (.int x2), some (.int x3), some (.int x4), some (.int x5), some (.int x6), some (.int x7), none, none] [] S' Q) : ∀ (n : Nat) (x1 : Int32) (x2 : Int32) (x3 : Int32) (x4 : Int32) (x5 : Int32) (x6 : Int32) (x7 : Int32) (x8 : Int32) (x9 : Int32) (S : rS), OL_closeNote_181 N n x1 x2 x3 x4 x5 x6 x7 x8 x9 S → X (L_closeNote_181 N n x1 x2 x3 x4 x5 x6 x7 x8 x9 S) → rX G E dX12_closeNote mX12_closeNote 181 [some (.ref E.1), some (.int x1), some (.int x2), some (.int x3), some (.int x4), some (.int x5), some (.int x6), some (.int x7), some (.int x8), some (.int x9)] [] S Q := by
  intro n
  induction n with
  | zero => intro x1 x2 x3 x4 x5 x6 x7 x8 x9 S ok; exact absurd ok id
  | succ n ih =>
    intro x1 x2 x3 x4 x5 x6 x7 x8 x9 S ok hx
    exact bb_closeNote_181 hG hX0 (rec := L_closeNote_181 N n) (rok := OL_closeNote_181 N n) (fun x1 x2 x3 x4 x5 x6 x7 x8 x9 S ok hx => ih x1 x2 x3 x4 x5 x6 x7 x8 x9 S ok hx) ok hx
def A_closeNote_181 (N : Nat) (rec : Int32 → Int32 → Int32 → Int32 → Int32 → rS → Nat × Int32 × Int32 × rS) (x1 : Int32) (x2 : Int32) (x3 : Int32) (x4 : Int32) (x5 : Int32) (x6 : Int32) (x7 : Int32) (x8 : Int32) (x9 : Int32) (S : rS) (z : Nat × Int32 × Int32 × Int32 × Int32 × Int32 × Int32 × Int32 × rS) : Nat × Int32 × Int32 × rS := (F_closeNote_216 N rec (z.2.1) (z.2.2.1) (z.2.2.2.1) (z.2.2.2.2.1) (z.2.2.2.2.2.1) (z.2.2.2.2.2.2.1) (z.2.2.2.2.2.2.2.1) z.2.2.2.2.2.2.2.2)
def OA_closeNote_181 (N : Nat) (rok : Int32 → Int32 → Int32 → Int32 → Int32 → rS → Prop) (x1 : Int32) (x2 : Int32) (x3 : Int32) (x4 : Int32) (x5 : Int32) (x6 : Int32) (x7 : Int32) (x8 : Int32) (x9 : Int32) (S : rS) (z : Nat × Int32 × Int32 × Int32 × Int32 × Int32 × Int32 × Int32 × rS) : Prop := O_closeNote_216 N rok (z.2.1) (z.2.2.1) (z.2.2.2.1) (z.2.2.2.2.1) (z.2.2.2.2.2.1) (z.2.2.2.2.2.2.1) (z.2.2.2.2.2.2.2.1) z.2.2.2.2.2.2.2.2
set_option maxHeartbeats 4000000 in
theorem c_closeNote_181 {G : zG} {E : rE} {S : rS} {N : Nat} {Q : Option Value → rS → Prop} {X : Nat × Int32 × Int32 × rS → Prop} (hG : zOK G) (hX0 : ∀ (x1 : Int32) (x3 : Int32) (S' : rS), X (0, x1, x3, S') → rX G E dX12_closeNote mX12_closeNote 267 [some (.ref E.1), some (.int x1), none, some (.int x3), none, none, none, none, none, none] [] S' Q) {rec : Int32 → Int32 → Int32 → Int32 → Int32 → rS → Nat × Int32 × Int32 × rS} {rok : Int32 → Int32 → Int32 → Int32 → Int32 → rS → Prop} (hrec : ∀ (x1 : Int32) (x2 : Int32) (x3 : Int32) (x4 : Int32) (x5 : Int32) (S : rS), rok x1 x2 x3 x4 x5 S → X (rec x1 x2 x3 x4 x5 S) → rX G E dX12_closeNote mX12_closeNote 87 [some (.ref E.1), some (.int x1), some (.int x2), some (.int x3), some (.int x4), some (.int x5), none, none, none, none] [] S Q) {x1 : Int32} {x2 : Int32} {x3 : Int32} {x4 : Int32} {x5 : Int32} {x6 : Int32} {x7 : Int32} {x8 : Int32} {x9 : Int32} (ok : OL_closeNote_181 N N x1 x2 x3 x4 x5 x6 x7 x8 x9 S ∧ OA_closeNote_181 N rok x1 x2 x3 x4 x5 x6 x7 x8 x9 S (L_closeNote_181 N N x1 x2 x3 x4 x5 x6 x7 x8 x9 S)) (hx : X (A_closeNote_181 N rec x1 x2 x3 x4 x5 x6 x7 x8 x9 S (L_closeNote_181 N N x1 x2 x3 x4 x5 x6 x7 x8 x9 S))) : rX G E dX12_closeNote mX12_closeNote 181 [some (.ref E.1), some (.int x1), some (.int x2), some (.int x3), some (.int x4), some (.int x5), some (.int x6), some (.int x7), some (.int x8), some (.int x9)] [] S Q := by
  refine l_closeNote_181 hG ?_ N x1 x2 x3 x4 x5 x6 x7 x8 x9 S ok.1 (X := fun z => OA_closeNote_181 N rok x1 x2 x3 x4 x5 x6 x7 x8 x9 S z ∧ X (A_closeNote_181 N rec x1 x2 x3 x4 x5 x6 x7 x8 x9 S z)) ⟨ok.2, hx⟩
  · intro x1' x2' x3' x4' x5' x6' x7' S' hz
    obtain ⟨ok, hx⟩ := hz
    unfold OA_closeNote_181 at ok
    unfold A_closeNote_181 at hx
    exact rX.cutz (b_closeNote_216 hG hX0 hrec ok hx) ⟨rfl, rfl, rfl, rfl, rfl, rfl, rfl, rfl, trivial⟩
def F_closeNote_176 (N : Nat) (rec : Int32 → Int32 → Int32 → Int32 → Int32 → rS → Nat × Int32 × Int32 × rS) (x1 : Int32) (x2 : Int32) (x3 : Int32) (x4 : Int32) (x5 : Int32) (x6 : Int32) (x7 : Int32) (s0 : Int32) (S : rS) : Nat × Int32 × Int32 × rS := (A_closeNote_181 N rec x1 x2 x3 x4 x5 x6 x7 s0 (nI 0) S (L_closeNote_181 N N x1 x2 x3 x4 x5 x6 x7 s0 (nI 0) S))
def O_closeNote_176 (N : Nat) (rok : Int32 → Int32 → Int32 → Int32 → Int32 → rS → Prop) (x1 : Int32) (x2 : Int32) (x3 : Int32) (x4 : Int32) (x5 : Int32) (x6 : Int32) (x7 : Int32) (s0 : Int32) (S : rS) : Prop := (OL_closeNote_181 N N x1 x2 x3 x4 x5 x6 x7 s0 (nI 0) S ∧ OA_closeNote_181 N rok x1 x2 x3 x4 x5 x6 x7 s0 (nI 0) S (L_closeNote_181 N N x1 x2 x3 x4 x5 x6 x7 s0 (nI 0) S))
set_option maxHeartbeats 4000000 in
theorem b_closeNote_176 {G : zG} {E : rE} {S : rS} {N : Nat} {Q : Option Value → rS → Prop} {X : Nat × Int32 × Int32 × rS → Prop} (hG : zOK G) (hX0 : ∀ (x1 : Int32) (x3 : Int32) (S' : rS), X (0, x1, x3, S') → rX G E dX12_closeNote mX12_closeNote 267 [some (.ref E.1), some (.int x1), none, some (.int x3), none, none, none, none, none, none] [] S' Q) {rec : Int32 → Int32 → Int32 → Int32 → Int32 → rS → Nat × Int32 × Int32 × rS} {rok : Int32 → Int32 → Int32 → Int32 → Int32 → rS → Prop} (hrec : ∀ (x1 : Int32) (x2 : Int32) (x3 : Int32) (x4 : Int32) (x5 : Int32) (S : rS), rok x1 x2 x3 x4 x5 S → X (rec x1 x2 x3 x4 x5 S) → rX G E dX12_closeNote mX12_closeNote 87 [some (.ref E.1), some (.int x1), some (.int x2), some (.int x3), some (.int x4), some (.int x5), none, none, none, none] [] S Q) {x1 : Int32} {x2 : Int32} {x3 : Int32} {x4 : Int32} {x5 : Int32} {x6 : Int32} {x7 : Int32} {s0 : Int32} (ok : O_closeNote_176 N rok x1 x2 x3 x4 x5 x6 x7 s0 S) (hx : X (F_closeNote_176 N rec x1 x2 x3 x4 x5 x6 x7 s0 S)) : rX G E dX12_closeNote mX12_closeNote 176 [some (.ref E.1), some (.int x1), some (.int x2), some (.int x3), some (.int x4), some (.int x5), some (.int x6), some (.int x7), none, none] [.int s0] S Q := by
  unfold O_closeNote_176 at ok
  unfold F_closeNote_176 at hx
  refine r_istore_8 dX12_closeNote_176 (by decide) rfl ?_
  refine r_iconst (v := nI 0) dX12_closeNote_178 (by decide) ?_
  refine r_istore_9 dX12_closeNote_179 (by decide) rfl ?_
  exact rX.cutz (c_closeNote_181 hG hX0 hrec ok hx) ⟨rfl, rfl, rfl, rfl, rfl, rfl, rfl, rfl, rfl, rfl, trivial⟩
def F_closeNote_160 (N : Nat) (rec : Int32 → Int32 → Int32 → Int32 → Int32 → rS → Nat × Int32 × Int32 × rS) (x1 : Int32) (x2 : Int32) (x3 : Int32) (x4 : Int32) (x5 : Int32) (x6 : Int32) (x7 : Int32) (s0 : Int32) (S : rS) : Nat × Int32 × Int32 × rS := (if x7 = 0 then (F_closeNote_176 N rec x1 x2 x3 x4 x5 x6 x7 s0 S) else (F_closeNote_176 N rec x1 x2 x3 x4 x5 x6 x7 (s0 / (nI 2)) S))
def O_closeNote_160 (N : Nat) (rok : Int32 → Int32 → Int32 → Int32 → Int32 → rS → Prop) (x1 : Int32) (x2 : Int32) (x3 : Int32) (x4 : Int32) (x5 : Int32) (x6 : Int32) (x7 : Int32) (s0 : Int32) (S : rS) : Prop := ((x7 = 0 → O_closeNote_176 N rok x1 x2 x3 x4 x5 x6 x7 s0 S) ∧ (¬ x7 = 0 → O_closeNote_176 N rok x1 x2 x3 x4 x5 x6 x7 (s0 / (nI 2)) S))
set_option maxHeartbeats 4000000 in
theorem b_closeNote_160 {G : zG} {E : rE} {S : rS} {N : Nat} {Q : Option Value → rS → Prop} {X : Nat × Int32 × Int32 × rS → Prop} (hG : zOK G) (hX0 : ∀ (x1 : Int32) (x3 : Int32) (S' : rS), X (0, x1, x3, S') → rX G E dX12_closeNote mX12_closeNote 267 [some (.ref E.1), some (.int x1), none, some (.int x3), none, none, none, none, none, none] [] S' Q) {rec : Int32 → Int32 → Int32 → Int32 → Int32 → rS → Nat × Int32 × Int32 × rS} {rok : Int32 → Int32 → Int32 → Int32 → Int32 → rS → Prop} (hrec : ∀ (x1 : Int32) (x2 : Int32) (x3 : Int32) (x4 : Int32) (x5 : Int32) (S : rS), rok x1 x2 x3 x4 x5 S → X (rec x1 x2 x3 x4 x5 S) → rX G E dX12_closeNote mX12_closeNote 87 [some (.ref E.1), some (.int x1), some (.int x2), some (.int x3), some (.int x4), some (.int x5), none, none, none, none] [] S Q) {x1 : Int32} {x2 : Int32} {x3 : Int32} {x4 : Int32} {x5 : Int32} {x6 : Int32} {x7 : Int32} {s0 : Int32} (ok : O_closeNote_160 N rok x1 x2 x3 x4 x5 x6 x7 s0 S) (hx : X (F_closeNote_160 N rec x1 x2 x3 x4 x5 x6 x7 s0 S)) : rX G E dX12_closeNote mX12_closeNote 160 [some (.ref E.1), some (.int x1), some (.int x2), some (.int x3), some (.int x4), some (.int x5), some (.int x6), some (.int x7), none, none] [.int s0] S Q := by
  unfold O_closeNote_160 at ok
  unfold F_closeNote_160 at hx
  refine r_istore_8 dX12_closeNote_160 (by decide) rfl ?_
  refine r_iload dX12_closeNote_162 rfl ?_
  refine r_if_eq (tgt := 174) dX12_closeNote_164 (by decide) (fun c_164 => ?_) (fun c_164 => ?_)
  · have ok := ok.1 c_164
    have hx := xif_p c_164 hx
    refine r_iload dX12_closeNote_174 rfl ?_
    exact rX.cutz (b_closeNote_176 hG hX0 hrec ok hx) ⟨rfl, rfl, rfl, rfl, rfl, rfl, rfl, rfl, trivial⟩
  · have ok := ok.2 c_164
    have hx := xif_n c_164 hx
    refine r_iload dX12_closeNote_167 rfl ?_
    refine r_iconst (v := nI 2) dX12_closeNote_169 (by decide) ?_
    refine r_idiv dX12_closeNote_170 (by decide) ?_
    refine r_goto (tgt := 176) dX12_closeNote_171 (by decide) ?_
    exact rX.cutz (b_closeNote_176 hG hX0 hrec ok hx) ⟨rfl, rfl, rfl, rfl, rfl, rfl, rfl, rfl, trivial⟩
def F_closeNote_124 (N : Nat) (rec : Int32 → Int32 → Int32 → Int32 → Int32 → rS → Nat × Int32 × Int32 × rS) (x1 : Int32) (x2 : Int32) (x3 : Int32) (x4 : Int32) (x5 : Int32) (x6 : Int32) (s0 : Int32) (S : rS) : Nat × Int32 × Int32 × rS := (if (nI 512) ≤ ((S.1 72) - ((nI 512) * x5)) then (F_closeNote_160 N rec x1 x2 x3 x4 x5 x6 s0 (nI 512) S) else (F_closeNote_160 N rec x1 x2 x3 x4 x5 x6 s0 ((S.1 72) - ((nI 512) * x5)) S))
def O_closeNote_124 (N : Nat) (rok : Int32 → Int32 → Int32 → Int32 → Int32 → rS → Prop) (x1 : Int32) (x2 : Int32) (x3 : Int32) (x4 : Int32) (x5 : Int32) (x6 : Int32) (s0 : Int32) (S : rS) : Prop := (((nI 512) ≤ ((S.1 72) - ((nI 512) * x5)) → O_closeNote_160 N rok x1 x2 x3 x4 x5 x6 s0 (nI 512) S) ∧ (¬ (nI 512) ≤ ((S.1 72) - ((nI 512) * x5)) → O_closeNote_160 N rok x1 x2 x3 x4 x5 x6 s0 ((S.1 72) - ((nI 512) * x5)) S))
set_option maxHeartbeats 4000000 in
theorem b_closeNote_124 {G : zG} {E : rE} {S : rS} {N : Nat} {Q : Option Value → rS → Prop} {X : Nat × Int32 × Int32 × rS → Prop} (hG : zOK G) (hX0 : ∀ (x1 : Int32) (x3 : Int32) (S' : rS), X (0, x1, x3, S') → rX G E dX12_closeNote mX12_closeNote 267 [some (.ref E.1), some (.int x1), none, some (.int x3), none, none, none, none, none, none] [] S' Q) {rec : Int32 → Int32 → Int32 → Int32 → Int32 → rS → Nat × Int32 × Int32 × rS} {rok : Int32 → Int32 → Int32 → Int32 → Int32 → rS → Prop} (hrec : ∀ (x1 : Int32) (x2 : Int32) (x3 : Int32) (x4 : Int32) (x5 : Int32) (S : rS), rok x1 x2 x3 x4 x5 S → X (rec x1 x2 x3 x4 x5 S) → rX G E dX12_closeNote mX12_closeNote 87 [some (.ref E.1), some (.int x1), some (.int x2), some (.int x3), some (.int x4), some (.int x5), none, none, none, none] [] S Q) {x1 : Int32} {x2 : Int32} {x3 : Int32} {x4 : Int32} {x5 : Int32} {x6 : Int32} {s0 : Int32} (ok : O_closeNote_124 N rok x1 x2 x3 x4 x5 x6 s0 S) (hx : X (F_closeNote_124 N rec x1 x2 x3 x4 x5 x6 s0 S)) : rX G E dX12_closeNote mX12_closeNote 124 [some (.ref E.1), some (.int x1), some (.int x2), some (.int x3), some (.int x4), some (.int x5), some (.int x6), none, none, none] [.int s0] S Q := by
  unfold O_closeNote_124 at ok
  unfold F_closeNote_124 at hx
  refine r_istore_7 dX12_closeNote_124 (by decide) rfl ?_
  refine r_aload_n dX12_closeNote_126 rfl rfl ?_
  refine r_getI 72 fX12_480 (by decide) (by decide) dX12_closeNote_127 ?_
  refine r_sipush (v := nI 512) dX12_closeNote_130 (by decide) ?_
  refine r_iload dX12_closeNote_133 rfl ?_
  refine r_imul dX12_closeNote_135 ?_
  refine r_isub dX12_closeNote_136 ?_
  refine r_sipush (v := nI 512) dX12_closeNote_137 (by decide) ?_
  refine r_icmp_ge (tgt := 157) dX12_closeNote_140 (by decide) (fun c_140 => ?_) (fun c_140 => ?_)
  · have ok := ok.1 c_140
    have hx := xif_p c_140 hx
    refine r_sipush (v := nI 512) dX12_closeNote_157 (by decide) ?_
    exact rX.cutz (b_closeNote_160 hG hX0 hrec ok hx) ⟨rfl, rfl, rfl, rfl, rfl, rfl, rfl, rfl, trivial⟩
  · have ok := ok.2 c_140
    have hx := xif_n c_140 hx
    refine r_aload_n dX12_closeNote_143 rfl rfl ?_
    refine r_getI 72 fX12_480 (by decide) (by decide) dX12_closeNote_144 ?_
    refine r_sipush (v := nI 512) dX12_closeNote_147 (by decide) ?_
    refine r_iload dX12_closeNote_150 rfl ?_
    refine r_imul dX12_closeNote_152 ?_
    refine r_isub dX12_closeNote_153 ?_
    refine r_goto (tgt := 160) dX12_closeNote_154 (by decide) ?_
    exact rX.cutz (b_closeNote_160 hG hX0 hrec ok hx) ⟨rfl, rfl, rfl, rfl, rfl, rfl, rfl, rfl, trivial⟩
def F_closeNote_123 (N : Nat) (rec : Int32 → Int32 → Int32 → Int32 → Int32 → rS → Nat × Int32 × Int32 × rS) (x1 : Int32) (x2 : Int32) (x3 : Int32) (x4 : Int32) (x5 : Int32) (x6 : Int32) (S : rS) : Nat × Int32 × Int32 × rS := (F_closeNote_124 N rec x1 x2 x3 x4 x5 x6 (nI 0) S)
def O_closeNote_123 (N : Nat) (rok : Int32 → Int32 → Int32 → Int32 → Int32 → rS → Prop) (x1 : Int32) (x2 : Int32) (x3 : Int32) (x4 : Int32) (x5 : Int32) (x6 : Int32) (S : rS) : Prop := O_closeNote_124 N rok x1 x2 x3 x4 x5 x6 (nI 0) S
set_option maxHeartbeats 4000000 in
theorem b_closeNote_123 {G : zG} {E : rE} {S : rS} {N : Nat} {Q : Option Value → rS → Prop} {X : Nat × Int32 × Int32 × rS → Prop} (hG : zOK G) (hX0 : ∀ (x1 : Int32) (x3 : Int32) (S' : rS), X (0, x1, x3, S') → rX G E dX12_closeNote mX12_closeNote 267 [some (.ref E.1), some (.int x1), none, some (.int x3), none, none, none, none, none, none] [] S' Q) {rec : Int32 → Int32 → Int32 → Int32 → Int32 → rS → Nat × Int32 × Int32 × rS} {rok : Int32 → Int32 → Int32 → Int32 → Int32 → rS → Prop} (hrec : ∀ (x1 : Int32) (x2 : Int32) (x3 : Int32) (x4 : Int32) (x5 : Int32) (S : rS), rok x1 x2 x3 x4 x5 S → X (rec x1 x2 x3 x4 x5 S) → rX G E dX12_closeNote mX12_closeNote 87 [some (.ref E.1), some (.int x1), some (.int x2), some (.int x3), some (.int x4), some (.int x5), none, none, none, none] [] S Q) {x1 : Int32} {x2 : Int32} {x3 : Int32} {x4 : Int32} {x5 : Int32} {x6 : Int32} (ok : O_closeNote_123 N rok x1 x2 x3 x4 x5 x6 S) (hx : X (F_closeNote_123 N rec x1 x2 x3 x4 x5 x6 S)) : rX G E dX12_closeNote mX12_closeNote 123 [some (.ref E.1), some (.int x1), some (.int x2), some (.int x3), some (.int x4), some (.int x5), some (.int x6), none, none, none] [] S Q := by
  unfold O_closeNote_123 at ok
  unfold F_closeNote_123 at hx
  refine r_iconst (v := nI 0) dX12_closeNote_123 (by decide) ?_
  exact rX.cutz (b_closeNote_124 hG hX0 hrec ok hx) ⟨rfl, rfl, rfl, rfl, rfl, rfl, rfl, trivial⟩
def B_closeNote_87 (N : Nat) (rec : Int32 → Int32 → Int32 → Int32 → Int32 → rS → Nat × Int32 × Int32 × rS) (x1 : Int32) (x2 : Int32) (x3 : Int32) (x4 : Int32) (x5 : Int32) (S : rS) : Nat × Int32 × Int32 × rS := (if x4 ≤ x5 then (0, x1, x3, S) else (if x3 = 0 then (F_closeNote_123 N rec x1 x2 x3 x4 x5 ((((nI 284) * x1) + x2) + x5) S) else (if x5 = (x4 - (nI 1)) then (F_closeNote_124 N rec x1 x2 x3 x4 x5 ((((nI 284) * x1) + x2) + x5) (nI 1) S) else (F_closeNote_123 N rec x1 x2 x3 x4 x5 ((((nI 284) * x1) + x2) + x5) S))))
def OB_closeNote_87 (N : Nat) (rok : Int32 → Int32 → Int32 → Int32 → Int32 → rS → Prop) (x1 : Int32) (x2 : Int32) (x3 : Int32) (x4 : Int32) (x5 : Int32) (S : rS) : Prop := ((x4 ≤ x5 → True) ∧ (¬ x4 ≤ x5 → ((x3 = 0 → O_closeNote_123 N rok x1 x2 x3 x4 x5 ((((nI 284) * x1) + x2) + x5) S) ∧ (¬ x3 = 0 → ((x5 = (x4 - (nI 1)) → O_closeNote_124 N rok x1 x2 x3 x4 x5 ((((nI 284) * x1) + x2) + x5) (nI 1) S) ∧ (¬ x5 = (x4 - (nI 1)) → O_closeNote_123 N rok x1 x2 x3 x4 x5 ((((nI 284) * x1) + x2) + x5) S))))))
set_option maxHeartbeats 4000000 in
theorem bb_closeNote_87 {G : zG} {E : rE} {S : rS} {N : Nat} {Q : Option Value → rS → Prop} {X : Nat × Int32 × Int32 × rS → Prop} (hG : zOK G) (hX0 : ∀ (x1 : Int32) (x3 : Int32) (S' : rS), X (0, x1, x3, S') → rX G E dX12_closeNote mX12_closeNote 267 [some (.ref E.1), some (.int x1), none, some (.int x3), none, none, none, none, none, none] [] S' Q) {rec : Int32 → Int32 → Int32 → Int32 → Int32 → rS → Nat × Int32 × Int32 × rS} {rok : Int32 → Int32 → Int32 → Int32 → Int32 → rS → Prop} (hrec : ∀ (x1 : Int32) (x2 : Int32) (x3 : Int32) (x4 : Int32) (x5 : Int32) (S : rS), rok x1 x2 x3 x4 x5 S → X (rec x1 x2 x3 x4 x5 S) → rX G E dX12_closeNote mX12_closeNote 87 [some (.ref E.1), some (.int x1), some (.int x2), some (.int x3), some (.int x4), some (.int x5), none, none, none, none] [] S Q) {x1 : Int32} {x2 : Int32} {x3 : Int32} {x4 : Int32} {x5 : Int32} (ok : OB_closeNote_87 N rok x1 x2 x3 x4 x5 S) (hx : X (B_closeNote_87 N rec x1 x2 x3 x4 x5 S)) : rX G E dX12_closeNote mX12_closeNote 87 [some (.ref E.1), some (.int x1), some (.int x2), some (.int x3), some (.int x4), some (.int x5), none, none, none, none] [] S Q := by
  unfold OB_closeNote_87 at ok
  unfold B_closeNote_87 at hx
  refine r_iload dX12_closeNote_87 rfl ?_
  refine r_iload dX12_closeNote_89 rfl ?_
  refine r_icmp_ge (tgt := 267) dX12_closeNote_91 (by decide) (fun c_91 => ?_) (fun c_91 => ?_)
  · have ok := ok.1 c_91
    have hx := xif_p c_91 hx
    exact rX.cutz (hX0 _ _ S hx) ⟨rfl, rfl, rfl, trivial⟩
  · have ok := ok.2 c_91
    have hx := xif_n c_91 hx
    refine r_sipush (v := nI 284) dX12_closeNote_94 (by decide) ?_
    refine r_iload_n dX12_closeNote_97 rfl rfl ?_
    refine r_imul dX12_closeNote_98 ?_
    refine r_iload_n dX12_closeNote_99 rfl rfl ?_
    refine r_iadd dX12_closeNote_100 ?_
    refine r_iload dX12_closeNote_101 rfl ?_
    refine r_iadd dX12_closeNote_103 ?_
    refine r_istore_6 dX12_closeNote_104 (by decide) rfl ?_
    refine r_iload_n dX12_closeNote_106 rfl rfl ?_
    refine r_if_eq (tgt := 123) dX12_closeNote_107 (by decide) (fun c_107 => ?_) (fun c_107 => ?_)
    · have ok := ok.1 c_107
      have hx := xif_p c_107 hx
      exact rX.cutz (b_closeNote_123 hG hX0 hrec ok hx) ⟨rfl, rfl, rfl, rfl, rfl, rfl, rfl, trivial⟩
    · have ok := ok.2 c_107
      have hx := xif_n c_107 hx
      refine r_iload dX12_closeNote_110 rfl ?_
      refine r_iload dX12_closeNote_112 rfl ?_
      refine r_iconst (v := nI 1) dX12_closeNote_114 (by decide) ?_
      refine r_isub dX12_closeNote_115 ?_
      refine r_icmp_ne (tgt := 123) dX12_closeNote_116 (by decide) (fun c_116 => ?_) (fun c_116 => ?_)
      · have ok := ok.2 c_116
        have hx := xif_n c_116 hx
        exact rX.cutz (b_closeNote_123 hG hX0 hrec ok hx) ⟨rfl, rfl, rfl, rfl, rfl, rfl, rfl, trivial⟩
      · have ok := ok.1 c_116
        have hx := xif_p c_116 hx
        refine r_iconst (v := nI 1) dX12_closeNote_119 (by decide) ?_
        refine r_goto (tgt := 124) dX12_closeNote_120 (by decide) ?_
        exact rX.cutz (b_closeNote_124 hG hX0 hrec ok hx) ⟨rfl, rfl, rfl, rfl, rfl, rfl, rfl, trivial⟩
def L_closeNote_87 (N : Nat) : Nat → Int32 → Int32 → Int32 → Int32 → Int32 → rS → Nat × Int32 × Int32 × rS
  | 0, x1, x2, x3, x4, x5, S => (0, 0, 0, S)
  | n + 1, x1, x2, x3, x4, x5, S => B_closeNote_87 N (L_closeNote_87 N n) x1 x2 x3 x4 x5 S
def OL_closeNote_87 (N : Nat) : Nat → Int32 → Int32 → Int32 → Int32 → Int32 → rS → Prop
  | 0, _, _, _, _, _, _ => False
  | n + 1, x1, x2, x3, x4, x5, S => OB_closeNote_87 N (OL_closeNote_87 N n) x1 x2 x3 x4 x5 S
set_option maxHeartbeats 4000000 in
theorem l_closeNote_87 {G : zG} {E : rE} {N : Nat} {Q : Option Value → rS → Prop} {X : Nat × Int32 × Int32 × rS → Prop} (hG : zOK G) (hX0 : ∀ (x1 : Int32) (x3 : Int32) (S' : rS), X (0, x1, x3, S') → rX G E dX12_closeNote mX12_closeNote 267 [some (.ref E.1), some (.int x1), none, some (.int x3), none, none, none, none, none, none] [] S' Q) : ∀ (n : Nat) (x1 : Int32) (x2 : Int32) (x3 : Int32) (x4 : Int32) (x5 : Int32) (S : rS), OL_closeNote_87 N n x1 x2 x3 x4 x5 S → X (L_closeNote_87 N n x1 x2 x3 x4 x5 S) → rX G E dX12_closeNote mX12_closeNote 87 [some (.ref E.1), some (.int x1), some (.int x2), some (.int x3), some (.int x4), some (.int x5), none, none, none, none] [] S Q := by
  intro n
  induction n with
  | zero => intro x1 x2 x3 x4 x5 S ok; exact absurd ok id
  | succ n ih =>
    intro x1 x2 x3 x4 x5 S ok hx
    exact bb_closeNote_87 hG hX0 (rec := L_closeNote_87 N n) (rok := OL_closeNote_87 N n) (fun x1 x2 x3 x4 x5 S ok hx => ih x1 x2 x3 x4 x5 S ok hx) ok hx
def A_closeNote_87 (N : Nat) (x1 : Int32) (x2 : Int32) (x3 : Int32) (x4 : Int32) (x5 : Int32) (S : rS) (z : Nat × Int32 × Int32 × rS) : Int32 × rS := (F_closeNote_267 N (z.2.1) (z.2.2.1) z.2.2.2)
def OA_closeNote_87 (N : Nat) (x1 : Int32) (x2 : Int32) (x3 : Int32) (x4 : Int32) (x5 : Int32) (S : rS) (z : Nat × Int32 × Int32 × rS) : Prop := O_closeNote_267 N (z.2.1) (z.2.2.1) z.2.2.2
set_option maxHeartbeats 4000000 in
theorem c_closeNote_87 {G : zG} {E : rE} {S : rS} {N : Nat} {Q : Option Value → rS → Prop} {X : Int32 × rS → Prop} (hG : zOK G) (hR : ∀ v S', X (v, S') → Q (some (.int v)) S') {x1 : Int32} {x2 : Int32} {x3 : Int32} {x4 : Int32} {x5 : Int32} (ok : OL_closeNote_87 N N x1 x2 x3 x4 x5 S ∧ OA_closeNote_87 N x1 x2 x3 x4 x5 S (L_closeNote_87 N N x1 x2 x3 x4 x5 S)) (hx : X (A_closeNote_87 N x1 x2 x3 x4 x5 S (L_closeNote_87 N N x1 x2 x3 x4 x5 S))) : rX G E dX12_closeNote mX12_closeNote 87 [some (.ref E.1), some (.int x1), some (.int x2), some (.int x3), some (.int x4), some (.int x5), none, none, none, none] [] S Q := by
  refine l_closeNote_87 hG ?_ N x1 x2 x3 x4 x5 S ok.1 (X := fun z => OA_closeNote_87 N x1 x2 x3 x4 x5 S z ∧ X (A_closeNote_87 N x1 x2 x3 x4 x5 S z)) ⟨ok.2, hx⟩
  · intro x1' x3' S' hz
    obtain ⟨ok, hx⟩ := hz
    unfold OA_closeNote_87 at ok
    unfold A_closeNote_87 at hx
    exact rX.cutz (b_closeNote_267 hG hR ok hx) ⟨rfl, rfl, rfl, trivial⟩
def F_closeNote_69 (N : Nat) (x1 : Int32) (x2 : Int32) (x3 : Int32) (s1 : Int32) (s2 : Int32) (S : rS) : Int32 × rS := (A_closeNote_87 N x1 x2 x3 ((((rsA S 75 s1.toNatClampNeg s2).1 72) + (nI 511)) / (nI 512)) (nI 0) (rsA S 75 s1.toNatClampNeg s2) (L_closeNote_87 N N x1 x2 x3 ((((rsA S 75 s1.toNatClampNeg s2).1 72) + (nI 511)) / (nI 512)) (nI 0) (rsA S 75 s1.toNatClampNeg s2)))
def O_closeNote_69 (N : Nat) (x1 : Int32) (x2 : Int32) (x3 : Int32) (s1 : Int32) (s2 : Int32) (S : rS) : Prop := (vp_in s1 13) ∧ (OL_closeNote_87 N N x1 x2 x3 ((((rsA S 75 s1.toNatClampNeg s2).1 72) + (nI 511)) / (nI 512)) (nI 0) (rsA S 75 s1.toNatClampNeg s2) ∧ OA_closeNote_87 N x1 x2 x3 ((((rsA S 75 s1.toNatClampNeg s2).1 72) + (nI 511)) / (nI 512)) (nI 0) (rsA S 75 s1.toNatClampNeg s2) (L_closeNote_87 N N x1 x2 x3 ((((rsA S 75 s1.toNatClampNeg s2).1 72) + (nI 511)) / (nI 512)) (nI 0) (rsA S 75 s1.toNatClampNeg s2)))
set_option maxHeartbeats 4000000 in
theorem b_closeNote_69 {G : zG} {E : rE} {S : rS} {N : Nat} {Q : Option Value → rS → Prop} {X : Int32 × rS → Prop} (hG : zOK G) (hR : ∀ v S', X (v, S') → Q (some (.int v)) S') {x1 : Int32} {x2 : Int32} {x3 : Int32} {s1 : Int32} {s2 : Int32} (ok : O_closeNote_69 N x1 x2 x3 s1 s2 S) (hx : X (F_closeNote_69 N x1 x2 x3 s1 s2 S)) : rX G E dX12_closeNote mX12_closeNote 69 [some (.ref E.1), some (.int x1), some (.int x2), some (.int x3), none, none, none, none, none, none] [.int s2, .int s1, .ref (E.2.1 75)] S Q := by
  unfold O_closeNote_69 at ok
  unfold F_closeNote_69 at hx
  refine r_iast hG (by decide) (by decide) dX12_closeNote_69 ok.1 ?_
  have ok := ok.2
  refine r_aload_n dX12_closeNote_70 rfl rfl ?_
  refine r_getI 72 fX12_480 (by decide) (by decide) dX12_closeNote_71 ?_
  refine r_sipush (v := nI 511) dX12_closeNote_74 (by decide) ?_
  refine r_iadd dX12_closeNote_77 ?_
  refine r_sipush (v := nI 512) dX12_closeNote_78 (by decide) ?_
  refine r_idiv dX12_closeNote_81 (by decide) ?_
  refine r_istore_4 dX12_closeNote_82 (by decide) rfl ?_
  refine r_iconst (v := nI 0) dX12_closeNote_84 (by decide) ?_
  refine r_istore_5 dX12_closeNote_85 (by decide) rfl ?_
  exact rX.cutz (c_closeNote_87 hG hR ok hx) ⟨rfl, rfl, rfl, rfl, rfl, rfl, trivial⟩
def F_closeNote_42 (N : Nat) (x1 : Int32) (x2 : Int32) (s0 : Int32) (S : rS) : Int32 × rS := (if (S.2.1 75 x1.toNatClampNeg) ≤ 0 then (F_closeNote_69 N x1 x2 s0 x1 (nI 0) S) else (F_closeNote_69 N x1 x2 s0 x1 ((S.2.1 75 x1.toNatClampNeg) - (nI 1)) S))
def O_closeNote_42 (N : Nat) (x1 : Int32) (x2 : Int32) (s0 : Int32) (S : rS) : Prop := (vp_in x1 13) ∧ (((S.2.1 75 x1.toNatClampNeg) ≤ 0 → O_closeNote_69 N x1 x2 s0 x1 (nI 0) S) ∧ (¬ (S.2.1 75 x1.toNatClampNeg) ≤ 0 → (vp_in x1 13) ∧ O_closeNote_69 N x1 x2 s0 x1 ((S.2.1 75 x1.toNatClampNeg) - (nI 1)) S))
set_option maxHeartbeats 4000000 in
theorem b_closeNote_42 {G : zG} {E : rE} {S : rS} {N : Nat} {Q : Option Value → rS → Prop} {X : Int32 × rS → Prop} (hG : zOK G) (hR : ∀ v S', X (v, S') → Q (some (.int v)) S') {x1 : Int32} {x2 : Int32} {s0 : Int32} (ok : O_closeNote_42 N x1 x2 s0 S) (hx : X (F_closeNote_42 N x1 x2 s0 S)) : rX G E dX12_closeNote mX12_closeNote 42 [some (.ref E.1), some (.int x1), some (.int x2), none, none, none, none, none, none, none] [.int s0] S Q := by
  unfold O_closeNote_42 at ok
  unfold F_closeNote_42 at hx
  refine r_istore_3 dX12_closeNote_42 (by decide) rfl ?_
  refine r_aload_n dX12_closeNote_43 rfl rfl ?_
  refine r_getA 75 fX12_400 (by decide) (by decide) dX12_closeNote_44 ?_
  refine r_iload_n dX12_closeNote_47 rfl rfl ?_
  refine r_aload_n dX12_closeNote_48 rfl rfl ?_
  refine r_getA 75 fX12_400 (by decide) (by decide) dX12_closeNote_49 ?_
  refine r_iload_n dX12_closeNote_52 rfl rfl ?_
  refine r_iald (by decide) (by decide) dX12_closeNote_53 ok.1 ?_
  have ok := ok.2
  refine r_if_le (tgt := 68) dX12_closeNote_54 (by decide) (fun c_54 => ?_) (fun c_54 => ?_)
  · have ok := ok.1 c_54
    have hx := xif_p c_54 hx
    refine r_iconst (v := nI 0) dX12_closeNote_68 (by decide) ?_
    exact rX.cutz (b_closeNote_69 hG hR ok hx) ⟨rfl, rfl, rfl, rfl, trivial⟩
  · have ok := ok.2 c_54
    have hx := xif_n c_54 hx
    refine r_aload_n dX12_closeNote_57 rfl rfl ?_
    refine r_getA 75 fX12_400 (by decide) (by decide) dX12_closeNote_58 ?_
    refine r_iload_n dX12_closeNote_61 rfl rfl ?_
    refine r_iald (by decide) (by decide) dX12_closeNote_62 ok.1 ?_
    have ok := ok.2
    refine r_iconst (v := nI 1) dX12_closeNote_63 (by decide) ?_
    refine r_isub dX12_closeNote_64 ?_
    refine r_goto (tgt := 69) dX12_closeNote_65 (by decide) ?_
    exact rX.cutz (b_closeNote_69 hG hR ok hx) ⟨rfl, rfl, rfl, rfl, trivial⟩
def F_closeNote_27 (N : Nat) (x1 : Int32) (x2 : Int32) (S : rS) : Int32 × rS := (if (S.2.1 75 x1.toNatClampNeg) = (nI 1) then (F_closeNote_42 N x1 x2 (nI 1) S) else (F_closeNote_42 N x1 x2 (nI 0) S))
def O_closeNote_27 (N : Nat) (x1 : Int32) (x2 : Int32) (S : rS) : Prop := (vp_in x1 13) ∧ (((S.2.1 75 x1.toNatClampNeg) = (nI 1) → O_closeNote_42 N x1 x2 (nI 1) S) ∧ (¬ (S.2.1 75 x1.toNatClampNeg) = (nI 1) → O_closeNote_42 N x1 x2 (nI 0) S))
set_option maxHeartbeats 4000000 in
theorem b_closeNote_27 {G : zG} {E : rE} {S : rS} {N : Nat} {Q : Option Value → rS → Prop} {X : Int32 × rS → Prop} (hG : zOK G) (hR : ∀ v S', X (v, S') → Q (some (.int v)) S') {x1 : Int32} {x2 : Int32} (ok : O_closeNote_27 N x1 x2 S) (hx : X (F_closeNote_27 N x1 x2 S)) : rX G E dX12_closeNote mX12_closeNote 27 [some (.ref E.1), some (.int x1), some (.int x2), none, none, none, none, none, none, none] [] S Q := by
  unfold O_closeNote_27 at ok
  unfold F_closeNote_27 at hx
  refine r_aload_n dX12_closeNote_27 rfl rfl ?_
  refine r_getA 75 fX12_400 (by decide) (by decide) dX12_closeNote_28 ?_
  refine r_iload_n dX12_closeNote_31 rfl rfl ?_
  refine r_iald (by decide) (by decide) dX12_closeNote_32 ok.1 ?_
  have ok := ok.2
  refine r_iconst (v := nI 1) dX12_closeNote_33 (by decide) ?_
  refine r_icmp_ne (tgt := 41) dX12_closeNote_34 (by decide) (fun c_34 => ?_) (fun c_34 => ?_)
  · have ok := ok.2 c_34
    have hx := xif_n c_34 hx
    refine r_iconst (v := nI 0) dX12_closeNote_41 (by decide) ?_
    exact rX.cutz (b_closeNote_42 hG hR ok hx) ⟨rfl, rfl, rfl, trivial⟩
  · have ok := ok.1 c_34
    have hx := xif_p c_34 hx
    refine r_iconst (v := nI 1) dX12_closeNote_37 (by decide) ?_
    refine r_goto (tgt := 42) dX12_closeNote_38 (by decide) ?_
    exact rX.cutz (b_closeNote_42 hG hR ok hx) ⟨rfl, rfl, rfl, trivial⟩
def F_closeNote_0 (N : Nat) (x1 : Int32) (x2 : Int32) (S : rS) : Int32 × rS := (F_closeNote_27 N x1 x2 (rsA (rsA S 71 (nI 4).toNatClampNeg ((S.1 72) >>> ((nI 8) &&& 31))) 71 (nI 5).toNatClampNeg (((rsA S 71 (nI 4).toNatClampNeg ((S.1 72) >>> ((nI 8) &&& 31))).1 72) &&& (nI 255))))
def O_closeNote_0 (N : Nat) (x1 : Int32) (x2 : Int32) (S : rS) : Prop := (vp_in (nI 4) 1100) ∧ (vp_in (nI 5) 1100) ∧ O_closeNote_27 N x1 x2 (rsA (rsA S 71 (nI 4).toNatClampNeg ((S.1 72) >>> ((nI 8) &&& 31))) 71 (nI 5).toNatClampNeg (((rsA S 71 (nI 4).toNatClampNeg ((S.1 72) >>> ((nI 8) &&& 31))).1 72) &&& (nI 255)))
set_option maxHeartbeats 4000000 in
theorem b_closeNote_0 {G : zG} {E : rE} {S : rS} {N : Nat} {Q : Option Value → rS → Prop} {X : Int32 × rS → Prop} (hG : zOK G) (hR : ∀ v S', X (v, S') → Q (some (.int v)) S') {x1 : Int32} {x2 : Int32} (ok : O_closeNote_0 N x1 x2 S) (hx : X (F_closeNote_0 N x1 x2 S)) : rX G E dX12_closeNote mX12_closeNote 0 [some (.ref E.1), some (.int x1), some (.int x2), none, none, none, none, none, none, none] [] S Q := by
  unfold O_closeNote_0 at ok
  unfold F_closeNote_0 at hx
  refine r_aload_n dX12_closeNote_0 rfl rfl ?_
  refine r_getA 71 fX12_390 (by decide) (by decide) dX12_closeNote_1 ?_
  refine r_iconst (v := nI 4) dX12_closeNote_4 (by decide) ?_
  refine r_aload_n dX12_closeNote_5 rfl rfl ?_
  refine r_getI 72 fX12_480 (by decide) (by decide) dX12_closeNote_6 ?_
  refine r_bipush (v := nI 8) dX12_closeNote_9 (by decide) ?_
  refine r_ishr dX12_closeNote_11 ?_
  refine r_iast hG (by decide) (by decide) dX12_closeNote_12 ok.1 ?_
  have ok := ok.2
  refine r_aload_n dX12_closeNote_13 rfl rfl ?_
  refine r_getA 71 fX12_390 (by decide) (by decide) dX12_closeNote_14 ?_
  refine r_iconst (v := nI 5) dX12_closeNote_17 (by decide) ?_
  refine r_aload_n dX12_closeNote_18 rfl rfl ?_
  refine r_getI 72 fX12_480 (by decide) (by decide) dX12_closeNote_19 ?_
  refine r_sipush (v := nI 255) dX12_closeNote_22 (by decide) ?_
  refine r_iand dX12_closeNote_25 ?_
  refine r_iast hG (by decide) (by decide) dX12_closeNote_26 ok.1 ?_
  have ok := ok.2
  exact rX.cutz (b_closeNote_27 hG hR ok hx) ⟨rfl, rfl, rfl, trivial⟩
def f_closeNote (N : Nat) (S : rS) (x1 : Int32) (x2 : Int32) : Int32 × rS := F_closeNote_0 N x1 x2 S
def o_closeNote (N : Nat) (S : rS) (x1 : Int32) (x2 : Int32) : Prop := O_closeNote_0 N x1 x2 S
set_option maxHeartbeats 4000000 in
theorem rc_X12_closeNote {G : zG} {E : rE} {S : rS} {N : Nat} (hG : zOK G) {x1 : Int32} {x2 : Int32} (ok : o_closeNote N S x1 x2) : rCi G E dX12_closeNote mX12_closeNote [.ref E.1, .int x1, .int x2] S (fun v S' => v = (f_closeNote N S x1 x2).1 ∧ S' = (f_closeNote N S x1 x2).2) := by
  refine rC.ofX rfl (Nat.le_of_ble_eq_true rfl) ?_
  show rX G E dX12_closeNote mX12_closeNote 0 [some (.ref E.1), some (.int x1), some (.int x2), none, none, none, none, none, none, none] [] S _
  exact rX.cutz (b_closeNote_0 (X := fun F => F = f_closeNote N S x1 x2) hG (fun v S' h => ⟨v, rfl, by rw [← h], by rw [← h]⟩) ok rfl) ⟨rfl, rfl, rfl, trivial⟩
/-! openOwn -/
def F_openOwn_0 (N : Nat) (x1 : Int32) (x2 : Int32) (S : rS) : rS := (f_openNote N S x2 (S.2.1 44 x1.toNatClampNeg) (S.2.1 78 x1.toNatClampNeg))
def O_openOwn_0 (N : Nat) (x1 : Int32) (x2 : Int32) (S : rS) : Prop := (vp_in x1 13) ∧ (vp_in x1 13) ∧ (o_openNote N S x2 (S.2.1 44 x1.toNatClampNeg) (S.2.1 78 x1.toNatClampNeg)) ∧ True
set_option maxHeartbeats 4000000 in
theorem b_openOwn_0 {G : zG} {E : rE} {S : rS} {N : Nat} {Q : Option Value → rS → Prop} {X : rS → Prop} (hG : zOK G) (hR : ∀ S', X S' → Q none S') {x1 : Int32} {x2 : Int32} (ok : O_openOwn_0 N x1 x2 S) (hx : X (F_openOwn_0 N x1 x2 S)) : rX G E dX12_openOwn mX12_openOwn 0 [some (.ref E.1), some (.int x1), some (.int x2)] [] S Q := by
  unfold O_openOwn_0 at ok
  unfold F_openOwn_0 at hx
  refine r_aload_n dX12_openOwn_0 rfl rfl ?_
  refine r_iload_n dX12_openOwn_1 rfl rfl ?_
  refine r_aload_n dX12_openOwn_2 rfl rfl ?_
  refine r_getA 44 fX12_309 (by decide) (by decide) dX12_openOwn_3 ?_
  refine r_iload_n dX12_openOwn_6 rfl rfl ?_
  refine r_iald (by decide) (by decide) dX12_openOwn_7 ok.1 ?_
  have ok := ok.2
  refine r_aload_n dX12_openOwn_8 rfl rfl ?_
  refine r_getA 78 fX12_409 (by decide) (by decide) dX12_openOwn_9 ?_
  refine r_iload_n dX12_openOwn_12 rfl rfl ?_
  refine r_iald (by decide) (by decide) dX12_openOwn_13 ok.1 ?_
  have ok := ok.2
  refine r_V3v (y' := mX12_openNote) dX12_openOwn_14 lX12_492 kX12_openNote ⟨by decide, by decide⟩ rfl (Nat.le_of_ble_eq_true rfl) (rc_X12_openNote hG ok.1) (fun S_14 h_14 => ?_)
  subst h_14
  have ok := ok.2
  exact r_return rfl dX12_openOwn_17 (hR _ hx)
def f_openOwn (N : Nat) (S : rS) (x1 : Int32) (x2 : Int32) : rS := F_openOwn_0 N x1 x2 S
def o_openOwn (N : Nat) (S : rS) (x1 : Int32) (x2 : Int32) : Prop := O_openOwn_0 N x1 x2 S
set_option maxHeartbeats 4000000 in
theorem rc_X12_openOwn {G : zG} {E : rE} {S : rS} {N : Nat} (hG : zOK G) {x1 : Int32} {x2 : Int32} (ok : o_openOwn N S x1 x2) : rCv G E dX12_openOwn mX12_openOwn [.ref E.1, .int x1, .int x2] S (fun S' => S' = f_openOwn N S x1 x2) := by
  refine rC.ofX rfl (Nat.le_of_ble_eq_true rfl) ?_
  show rX G E dX12_openOwn mX12_openOwn 0 [some (.ref E.1), some (.int x1), some (.int x2)] [] S _
  exact rX.cutz (b_openOwn_0 (X := fun F => F = f_openOwn N S x1 x2) hG (fun S' h => ⟨rfl, h⟩) ok rfl) ⟨rfl, rfl, rfl, trivial⟩

/-! copyBlock -/
def F_copyBlock_69 (N : Nat) (x1 : Int32) (x2 : Int32) (S : rS) : rS := (rsA S 14 x2.toNatClampNeg (S.2.1 14 x1.toNatClampNeg))
def O_copyBlock_69 (N : Nat) (x1 : Int32) (x2 : Int32) (S : rS) : Prop := (vp_in x1 1354) ∧ (vp_in x2 1354) ∧ True
set_option maxHeartbeats 4000000 in
theorem b_copyBlock_69 {G : zG} {E : rE} {S : rS} {N : Nat} {Q : Option Value → rS → Prop} {X : rS → Prop} (hG : zOK G) (hR : ∀ S', X S' → Q none S') {x1 : Int32} {x2 : Int32} (ok : O_copyBlock_69 N x1 x2 S) (hx : X (F_copyBlock_69 N x1 x2 S)) : rX G E dX12_copyBlock mX12_copyBlock 69 [some (.ref E.1), some (.int x1), some (.int x2), none] [] S Q := by
  unfold O_copyBlock_69 at ok
  unfold F_copyBlock_69 at hx
  refine r_aload_n dX12_copyBlock_69 rfl rfl ?_
  refine r_getA 14 fX12_57 (by decide) (by decide) dX12_copyBlock_70 ?_
  refine r_iload_n dX12_copyBlock_73 rfl rfl ?_
  refine r_aload_n dX12_copyBlock_74 rfl rfl ?_
  refine r_getA 14 fX12_57 (by decide) (by decide) dX12_copyBlock_75 ?_
  refine r_iload_n dX12_copyBlock_78 rfl rfl ?_
  refine r_iald (by decide) (by decide) dX12_copyBlock_79 ok.1 ?_
  have ok := ok.2
  refine r_iast hG (by decide) (by decide) dX12_copyBlock_80 ok.1 ?_
  have ok := ok.2
  exact r_return rfl dX12_copyBlock_81 (hR _ hx)
def B_copyBlock_38 (N : Nat) (rec : Int32 → Int32 → Int32 → rS → Nat × Int32 × Int32 × rS) (x1 : Int32) (x2 : Int32) (x3 : Int32) (S : rS) : Nat × Int32 × Int32 × rS := (if (nI 4) ≤ x3 then (0, x1, x2, S) else (rec x1 x2 (x3 + nI 1) (rsL S 13 (((nI 4) * x2) + x3).toNatClampNeg (S.2.2 13 (((nI 4) * x1) + x3).toNatClampNeg))))
def OB_copyBlock_38 (N : Nat) (rok : Int32 → Int32 → Int32 → rS → Prop) (x1 : Int32) (x2 : Int32) (x3 : Int32) (S : rS) : Prop := (((nI 4) ≤ x3 → True) ∧ (¬ (nI 4) ≤ x3 → (vp_in (((nI 4) * x1) + x3) 5416) ∧ (vp_in (((nI 4) * x2) + x3) 5416) ∧ rok x1 x2 (x3 + nI 1) (rsL S 13 (((nI 4) * x2) + x3).toNatClampNeg (S.2.2 13 (((nI 4) * x1) + x3).toNatClampNeg))))
set_option maxHeartbeats 4000000 in
theorem bb_copyBlock_38 {G : zG} {E : rE} {S : rS} {N : Nat} {Q : Option Value → rS → Prop} {X : Nat × Int32 × Int32 × rS → Prop} (hG : zOK G) (hX0 : ∀ (x1 : Int32) (x2 : Int32) (S' : rS), X (0, x1, x2, S') → rX G E dX12_copyBlock mX12_copyBlock 69 [some (.ref E.1), some (.int x1), some (.int x2), none] [] S' Q) {rec : Int32 → Int32 → Int32 → rS → Nat × Int32 × Int32 × rS} {rok : Int32 → Int32 → Int32 → rS → Prop} (hrec : ∀ (x1 : Int32) (x2 : Int32) (x3 : Int32) (S : rS), rok x1 x2 x3 S → X (rec x1 x2 x3 S) → rX G E dX12_copyBlock mX12_copyBlock 38 [some (.ref E.1), some (.int x1), some (.int x2), some (.int x3)] [] S Q) {x1 : Int32} {x2 : Int32} {x3 : Int32} (ok : OB_copyBlock_38 N rok x1 x2 x3 S) (hx : X (B_copyBlock_38 N rec x1 x2 x3 S)) : rX G E dX12_copyBlock mX12_copyBlock 38 [some (.ref E.1), some (.int x1), some (.int x2), some (.int x3)] [] S Q := by
  unfold OB_copyBlock_38 at ok
  unfold B_copyBlock_38 at hx
  refine r_iload_n dX12_copyBlock_38 rfl rfl ?_
  refine r_iconst (v := nI 4) dX12_copyBlock_39 (by decide) ?_
  refine r_icmp_ge (tgt := 69) dX12_copyBlock_40 (by decide) (fun c_40 => ?_) (fun c_40 => ?_)
  · have ok := ok.1 c_40
    have hx := xif_p c_40 hx
    exact rX.cutz (hX0 _ _ S hx) ⟨rfl, rfl, rfl, trivial⟩
  · have ok := ok.2 c_40
    have hx := xif_n c_40 hx
    refine r_aload_n dX12_copyBlock_43 rfl rfl ?_
    refine r_getA 13 fX12_60 (by decide) (by decide) dX12_copyBlock_44 ?_
    refine r_iconst (v := nI 4) dX12_copyBlock_47 (by decide) ?_
    refine r_iload_n dX12_copyBlock_48 rfl rfl ?_
    refine r_imul dX12_copyBlock_49 ?_
    refine r_iload_n dX12_copyBlock_50 rfl rfl ?_
    refine r_iadd dX12_copyBlock_51 ?_
    refine r_aload_n dX12_copyBlock_52 rfl rfl ?_
    refine r_getA 13 fX12_60 (by decide) (by decide) dX12_copyBlock_53 ?_
    refine r_iconst (v := nI 4) dX12_copyBlock_56 (by decide) ?_
    refine r_iload_n dX12_copyBlock_57 rfl rfl ?_
    refine r_imul dX12_copyBlock_58 ?_
    refine r_iload_n dX12_copyBlock_59 rfl rfl ?_
    refine r_iadd dX12_copyBlock_60 ?_
    refine r_lald (by decide) (by decide) dX12_copyBlock_61 ok.1 ?_
    have ok := ok.2
    refine r_last (by decide) (by decide) dX12_copyBlock_62 ok.1 ?_
    have ok := ok.2
    refine r_iinc_3 (v := (x3 + nI 1)) dX12_copyBlock_63 rfl (by first | rfl | (congr 1)) (by decide) rfl ?_
    refine r_goto (tgt := 38) dX12_copyBlock_66 (by decide) ?_
    exact rX.cutz (hrec _ _ _ (rsL S 13 (((nI 4) * x2) + x3).toNatClampNeg (S.2.2 13 (((nI 4) * x1) + x3).toNatClampNeg)) ok hx) ⟨rfl, rfl, rfl, rfl, trivial⟩
def L_copyBlock_38 (N : Nat) : Nat → Int32 → Int32 → Int32 → rS → Nat × Int32 × Int32 × rS
  | 0, x1, x2, x3, S => (0, 0, 0, S)
  | n + 1, x1, x2, x3, S => B_copyBlock_38 N (L_copyBlock_38 N n) x1 x2 x3 S
def OL_copyBlock_38 (N : Nat) : Nat → Int32 → Int32 → Int32 → rS → Prop
  | 0, _, _, _, _ => False
  | n + 1, x1, x2, x3, S => OB_copyBlock_38 N (OL_copyBlock_38 N n) x1 x2 x3 S
set_option maxHeartbeats 4000000 in
theorem l_copyBlock_38 {G : zG} {E : rE} {N : Nat} {Q : Option Value → rS → Prop} {X : Nat × Int32 × Int32 × rS → Prop} (hG : zOK G) (hX0 : ∀ (x1 : Int32) (x2 : Int32) (S' : rS), X (0, x1, x2, S') → rX G E dX12_copyBlock mX12_copyBlock 69 [some (.ref E.1), some (.int x1), some (.int x2), none] [] S' Q) : ∀ (n : Nat) (x1 : Int32) (x2 : Int32) (x3 : Int32) (S : rS), OL_copyBlock_38 N n x1 x2 x3 S → X (L_copyBlock_38 N n x1 x2 x3 S) → rX G E dX12_copyBlock mX12_copyBlock 38 [some (.ref E.1), some (.int x1), some (.int x2), some (.int x3)] [] S Q := by
  intro n
  induction n with
  | zero => intro x1 x2 x3 S ok; exact absurd ok id
  | succ n ih =>
    intro x1 x2 x3 S ok hx
    exact bb_copyBlock_38 hG hX0 (rec := L_copyBlock_38 N n) (rok := OL_copyBlock_38 N n) (fun x1 x2 x3 S ok hx => ih x1 x2 x3 S ok hx) ok hx
def A_copyBlock_38 (N : Nat) (x1 : Int32) (x2 : Int32) (x3 : Int32) (S : rS) (z : Nat × Int32 × Int32 × rS) : rS := (F_copyBlock_69 N (z.2.1) (z.2.2.1) z.2.2.2)
def OA_copyBlock_38 (N : Nat) (x1 : Int32) (x2 : Int32) (x3 : Int32) (S : rS) (z : Nat × Int32 × Int32 × rS) : Prop := O_copyBlock_69 N (z.2.1) (z.2.2.1) z.2.2.2
set_option maxHeartbeats 4000000 in
theorem c_copyBlock_38 {G : zG} {E : rE} {S : rS} {N : Nat} {Q : Option Value → rS → Prop} {X : rS → Prop} (hG : zOK G) (hR : ∀ S', X S' → Q none S') {x1 : Int32} {x2 : Int32} {x3 : Int32} (ok : OL_copyBlock_38 N N x1 x2 x3 S ∧ OA_copyBlock_38 N x1 x2 x3 S (L_copyBlock_38 N N x1 x2 x3 S)) (hx : X (A_copyBlock_38 N x1 x2 x3 S (L_copyBlock_38 N N x1 x2 x3 S))) : rX G E dX12_copyBlock mX12_copyBlock 38 [some (.ref E.1), some (.int x1), some (.int x2), some (.int x3)] [] S Q := by
  refine l_copyBlock_38 hG ?_ N x1 x2 x3 S ok.1 (X := fun z => OA_copyBlock_38 N x1 x2 x3 S z ∧ X (A_copyBlock_38 N x1 x2 x3 S z)) ⟨ok.2, hx⟩
  · intro x1' x2' S' hz
    obtain ⟨ok, hx⟩ := hz
    unfold OA_copyBlock_38 at ok
    unfold A_copyBlock_38 at hx
    exact rX.cutz (b_copyBlock_69 hG hR ok hx) ⟨rfl, rfl, rfl, trivial⟩
def F_copyBlock_36 (N : Nat) (x1 : Int32) (x2 : Int32) (S : rS) : rS := (A_copyBlock_38 N x1 x2 (nI 0) S (L_copyBlock_38 N N x1 x2 (nI 0) S))
def O_copyBlock_36 (N : Nat) (x1 : Int32) (x2 : Int32) (S : rS) : Prop := (OL_copyBlock_38 N N x1 x2 (nI 0) S ∧ OA_copyBlock_38 N x1 x2 (nI 0) S (L_copyBlock_38 N N x1 x2 (nI 0) S))
set_option maxHeartbeats 4000000 in
theorem b_copyBlock_36 {G : zG} {E : rE} {S : rS} {N : Nat} {Q : Option Value → rS → Prop} {X : rS → Prop} (hG : zOK G) (hR : ∀ S', X S' → Q none S') {x1 : Int32} {x2 : Int32} (ok : O_copyBlock_36 N x1 x2 S) (hx : X (F_copyBlock_36 N x1 x2 S)) : rX G E dX12_copyBlock mX12_copyBlock 36 [some (.ref E.1), some (.int x1), some (.int x2), none] [] S Q := by
  unfold O_copyBlock_36 at ok
  unfold F_copyBlock_36 at hx
  refine r_iconst (v := nI 0) dX12_copyBlock_36 (by decide) ?_
  refine r_istore_3 dX12_copyBlock_37 (by decide) rfl ?_
  exact rX.cutz (c_copyBlock_38 hG hR ok hx) ⟨rfl, rfl, rfl, rfl, trivial⟩
def B_copyBlock_2 (N : Nat) (rec : Int32 → Int32 → Int32 → rS → Nat × Int32 × Int32 × rS) (x1 : Int32) (x2 : Int32) (x3 : Int32) (S : rS) : Nat × Int32 × Int32 × rS := (if (nI 87) ≤ x3 then (0, x1, x2, S) else (rec x1 x2 (x3 + nI 1) (rsL S 12 (((nI 87) * x2) + x3).toNatClampNeg (S.2.2 12 (((nI 87) * x1) + x3).toNatClampNeg))))
def OB_copyBlock_2 (N : Nat) (rok : Int32 → Int32 → Int32 → rS → Prop) (x1 : Int32) (x2 : Int32) (x3 : Int32) (S : rS) : Prop := (((nI 87) ≤ x3 → True) ∧ (¬ (nI 87) ≤ x3 → (vp_in (((nI 87) * x1) + x3) 117798) ∧ (vp_in (((nI 87) * x2) + x3) 117798) ∧ rok x1 x2 (x3 + nI 1) (rsL S 12 (((nI 87) * x2) + x3).toNatClampNeg (S.2.2 12 (((nI 87) * x1) + x3).toNatClampNeg))))
set_option maxHeartbeats 4000000 in
theorem bb_copyBlock_2 {G : zG} {E : rE} {S : rS} {N : Nat} {Q : Option Value → rS → Prop} {X : Nat × Int32 × Int32 × rS → Prop} (hG : zOK G) (hX0 : ∀ (x1 : Int32) (x2 : Int32) (S' : rS), X (0, x1, x2, S') → rX G E dX12_copyBlock mX12_copyBlock 36 [some (.ref E.1), some (.int x1), some (.int x2), none] [] S' Q) {rec : Int32 → Int32 → Int32 → rS → Nat × Int32 × Int32 × rS} {rok : Int32 → Int32 → Int32 → rS → Prop} (hrec : ∀ (x1 : Int32) (x2 : Int32) (x3 : Int32) (S : rS), rok x1 x2 x3 S → X (rec x1 x2 x3 S) → rX G E dX12_copyBlock mX12_copyBlock 2 [some (.ref E.1), some (.int x1), some (.int x2), some (.int x3)] [] S Q) {x1 : Int32} {x2 : Int32} {x3 : Int32} (ok : OB_copyBlock_2 N rok x1 x2 x3 S) (hx : X (B_copyBlock_2 N rec x1 x2 x3 S)) : rX G E dX12_copyBlock mX12_copyBlock 2 [some (.ref E.1), some (.int x1), some (.int x2), some (.int x3)] [] S Q := by
  unfold OB_copyBlock_2 at ok
  unfold B_copyBlock_2 at hx
  refine r_iload_n dX12_copyBlock_2 rfl rfl ?_
  refine r_bipush (v := nI 87) dX12_copyBlock_3 (by decide) ?_
  refine r_icmp_ge (tgt := 36) dX12_copyBlock_5 (by decide) (fun c_5 => ?_) (fun c_5 => ?_)
  · have ok := ok.1 c_5
    have hx := xif_p c_5 hx
    exact rX.cutz (hX0 _ _ S hx) ⟨rfl, rfl, rfl, trivial⟩
  · have ok := ok.2 c_5
    have hx := xif_n c_5 hx
    refine r_aload_n dX12_copyBlock_8 rfl rfl ?_
    refine r_getA 12 fX12_45 (by decide) (by decide) dX12_copyBlock_9 ?_
    refine r_bipush (v := nI 87) dX12_copyBlock_12 (by decide) ?_
    refine r_iload_n dX12_copyBlock_14 rfl rfl ?_
    refine r_imul dX12_copyBlock_15 ?_
    refine r_iload_n dX12_copyBlock_16 rfl rfl ?_
    refine r_iadd dX12_copyBlock_17 ?_
    refine r_aload_n dX12_copyBlock_18 rfl rfl ?_
    refine r_getA 12 fX12_45 (by decide) (by decide) dX12_copyBlock_19 ?_
    refine r_bipush (v := nI 87) dX12_copyBlock_22 (by decide) ?_
    refine r_iload_n dX12_copyBlock_24 rfl rfl ?_
    refine r_imul dX12_copyBlock_25 ?_
    refine r_iload_n dX12_copyBlock_26 rfl rfl ?_
    refine r_iadd dX12_copyBlock_27 ?_
    refine r_lald (by decide) (by decide) dX12_copyBlock_28 ok.1 ?_
    have ok := ok.2
    refine r_last (by decide) (by decide) dX12_copyBlock_29 ok.1 ?_
    have ok := ok.2
    refine r_iinc_3 (v := (x3 + nI 1)) dX12_copyBlock_30 rfl (by first | rfl | (congr 1)) (by decide) rfl ?_
    refine r_goto (tgt := 2) dX12_copyBlock_33 (by decide) ?_
    exact rX.cutz (hrec _ _ _ (rsL S 12 (((nI 87) * x2) + x3).toNatClampNeg (S.2.2 12 (((nI 87) * x1) + x3).toNatClampNeg)) ok hx) ⟨rfl, rfl, rfl, rfl, trivial⟩
def L_copyBlock_2 (N : Nat) : Nat → Int32 → Int32 → Int32 → rS → Nat × Int32 × Int32 × rS
  | 0, x1, x2, x3, S => (0, 0, 0, S)
  | n + 1, x1, x2, x3, S => B_copyBlock_2 N (L_copyBlock_2 N n) x1 x2 x3 S
def OL_copyBlock_2 (N : Nat) : Nat → Int32 → Int32 → Int32 → rS → Prop
  | 0, _, _, _, _ => False
  | n + 1, x1, x2, x3, S => OB_copyBlock_2 N (OL_copyBlock_2 N n) x1 x2 x3 S
set_option maxHeartbeats 4000000 in
theorem l_copyBlock_2 {G : zG} {E : rE} {N : Nat} {Q : Option Value → rS → Prop} {X : Nat × Int32 × Int32 × rS → Prop} (hG : zOK G) (hX0 : ∀ (x1 : Int32) (x2 : Int32) (S' : rS), X (0, x1, x2, S') → rX G E dX12_copyBlock mX12_copyBlock 36 [some (.ref E.1), some (.int x1), some (.int x2), none] [] S' Q) : ∀ (n : Nat) (x1 : Int32) (x2 : Int32) (x3 : Int32) (S : rS), OL_copyBlock_2 N n x1 x2 x3 S → X (L_copyBlock_2 N n x1 x2 x3 S) → rX G E dX12_copyBlock mX12_copyBlock 2 [some (.ref E.1), some (.int x1), some (.int x2), some (.int x3)] [] S Q := by
  intro n
  induction n with
  | zero => intro x1 x2 x3 S ok; exact absurd ok id
  | succ n ih =>
    intro x1 x2 x3 S ok hx
    exact bb_copyBlock_2 hG hX0 (rec := L_copyBlock_2 N n) (rok := OL_copyBlock_2 N n) (fun x1 x2 x3 S ok hx => ih x1 x2 x3 S ok hx) ok hx
def A_copyBlock_2 (N : Nat) (x1 : Int32) (x2 : Int32) (x3 : Int32) (S : rS) (z : Nat × Int32 × Int32 × rS) : rS := (F_copyBlock_36 N (z.2.1) (z.2.2.1) z.2.2.2)
def OA_copyBlock_2 (N : Nat) (x1 : Int32) (x2 : Int32) (x3 : Int32) (S : rS) (z : Nat × Int32 × Int32 × rS) : Prop := O_copyBlock_36 N (z.2.1) (z.2.2.1) z.2.2.2
set_option maxHeartbeats 4000000 in
theorem c_copyBlock_2 {G : zG} {E : rE} {S : rS} {N : Nat} {Q : Option Value → rS → Prop} {X : rS → Prop} (hG : zOK G) (hR : ∀ S', X S' → Q none S') {x1 : Int32} {x2 : Int32} {x3 : Int32} (ok : OL_copyBlock_2 N N x1 x2 x3 S ∧ OA_copyBlock_2 N x1 x2 x3 S (L_copyBlock_2 N N x1 x2 x3 S)) (hx : X (A_copyBlock_2 N x1 x2 x3 S (L_copyBlock_2 N N x1 x2 x3 S))) : rX G E dX12_copyBlock mX12_copyBlock 2 [some (.ref E.1), some (.int x1), some (.int x2), some (.int x3)] [] S Q := by
  refine l_copyBlock_2 hG ?_ N x1 x2 x3 S ok.1 (X := fun z => OA_copyBlock_2 N x1 x2 x3 S z ∧ X (A_copyBlock_2 N x1 x2 x3 S z)) ⟨ok.2, hx⟩
  · intro x1' x2' S' hz
    obtain ⟨ok, hx⟩ := hz
    unfold OA_copyBlock_2 at ok
    unfold A_copyBlock_2 at hx
    exact rX.cutz (b_copyBlock_36 hG hR ok hx) ⟨rfl, rfl, rfl, trivial⟩
def F_copyBlock_0 (N : Nat) (x1 : Int32) (x2 : Int32) (S : rS) : rS := (A_copyBlock_2 N x1 x2 (nI 0) S (L_copyBlock_2 N N x1 x2 (nI 0) S))
def O_copyBlock_0 (N : Nat) (x1 : Int32) (x2 : Int32) (S : rS) : Prop := (OL_copyBlock_2 N N x1 x2 (nI 0) S ∧ OA_copyBlock_2 N x1 x2 (nI 0) S (L_copyBlock_2 N N x1 x2 (nI 0) S))
set_option maxHeartbeats 4000000 in
theorem b_copyBlock_0 {G : zG} {E : rE} {S : rS} {N : Nat} {Q : Option Value → rS → Prop} {X : rS → Prop} (hG : zOK G) (hR : ∀ S', X S' → Q none S') {x1 : Int32} {x2 : Int32} (ok : O_copyBlock_0 N x1 x2 S) (hx : X (F_copyBlock_0 N x1 x2 S)) : rX G E dX12_copyBlock mX12_copyBlock 0 [some (.ref E.1), some (.int x1), some (.int x2), none] [] S Q := by
  unfold O_copyBlock_0 at ok
  unfold F_copyBlock_0 at hx
  refine r_iconst (v := nI 0) dX12_copyBlock_0 (by decide) ?_
  refine r_istore_3 dX12_copyBlock_1 (by decide) rfl ?_
  exact rX.cutz (c_copyBlock_2 hG hR ok hx) ⟨rfl, rfl, rfl, rfl, trivial⟩
def f_copyBlock (N : Nat) (S : rS) (x1 : Int32) (x2 : Int32) : rS := F_copyBlock_0 N x1 x2 S
def o_copyBlock (N : Nat) (S : rS) (x1 : Int32) (x2 : Int32) : Prop := O_copyBlock_0 N x1 x2 S
set_option maxHeartbeats 4000000 in
theorem rc_X12_copyBlock {G : zG} {E : rE} {S : rS} {N : Nat} (hG : zOK G) {x1 : Int32} {x2 : Int32} (ok : o_copyBlock N S x1 x2) : rCv G E dX12_copyBlock mX12_copyBlock [.ref E.1, .int x1, .int x2] S (fun S' => S' = f_copyBlock N S x1 x2) := by
  refine rC.ofX rfl (Nat.le_of_ble_eq_true rfl) ?_
  show rX G E dX12_copyBlock mX12_copyBlock 0 [some (.ref E.1), some (.int x1), some (.int x2), none] [] S _
  exact rX.cutz (b_copyBlock_0 (X := fun F => F = f_copyBlock N S x1 x2) hG (fun S' h => ⟨rfl, h⟩) ok rfl) ⟨rfl, rfl, rfl, trivial⟩
/-! sameBlock -/
def F_sameBlock_73 (N : Nat) (x3 : Int32) (S : rS) : Int32 := x3
def O_sameBlock_73 (N : Nat) (x3 : Int32) (S : rS) : Prop := narrow .boolean (.int x3) = .int x3
set_option maxHeartbeats 4000000 in
theorem b_sameBlock_73 {G : zG} {E : rE} {S : rS} {N : Nat} {Q : Option Value → rS → Prop} {X : Int32 → Prop} (hG : zOK G) (hR : ∀ v, X v → Q (some (.int v)) S) {x3 : Int32} (ok : O_sameBlock_73 N x3 S) (hx : X (F_sameBlock_73 N x3 S)) : rX G E dX12_sameBlock mX12_sameBlock 73 [none, none, none, some (.int x3), none] [] S Q := by
  unfold O_sameBlock_73 at ok
  unfold F_sameBlock_73 at hx
  refine r_iload_n dX12_sameBlock_73 rfl rfl ?_
  exact r_ireturn rfl ok dX12_sameBlock_74 (hR _ hx)
def F_sameBlock_66 (N : Nat) (rec : Int32 → Int32 → Int32 → Int32 → Nat × Int32 × Unit) (x1 : Int32) (x2 : Int32) (x4 : Int32) (s0 : Int32) (S : rS) : Nat × Int32 × Unit := (rec x1 x2 s0 (x4 + nI 1))
def O_sameBlock_66 (N : Nat) (rok : Int32 → Int32 → Int32 → Int32 → Prop) (x1 : Int32) (x2 : Int32) (x4 : Int32) (s0 : Int32) (S : rS) : Prop := rok x1 x2 s0 (x4 + nI 1)
set_option maxHeartbeats 4000000 in
theorem b_sameBlock_66 {G : zG} {E : rE} {S : rS} {N : Nat} {Q : Option Value → rS → Prop} {X : Nat × Int32 × Unit → Prop} (hG : zOK G) (hX0 : ∀ (x3 : Int32) , X (0, x3, ()) → rX G E dX12_sameBlock mX12_sameBlock 73 [none, none, none, some (.int x3), none] [] S Q) {rec : Int32 → Int32 → Int32 → Int32 → Nat × Int32 × Unit} {rok : Int32 → Int32 → Int32 → Int32 → Prop} (hrec : ∀ (x1 : Int32) (x2 : Int32) (x3 : Int32) (x4 : Int32), rok x1 x2 x3 x4 → X (rec x1 x2 x3 x4) → rX G E dX12_sameBlock mX12_sameBlock 25 [some (.ref E.1), some (.int x1), some (.int x2), some (.int x3), some (.int x4)] [] S Q) {x1 : Int32} {x2 : Int32} {x4 : Int32} {s0 : Int32} (ok : O_sameBlock_66 N rok x1 x2 x4 s0 S) (hx : X (F_sameBlock_66 N rec x1 x2 x4 s0 S)) : rX G E dX12_sameBlock mX12_sameBlock 66 [some (.ref E.1), some (.int x1), some (.int x2), none, some (.int x4)] [.int s0] S Q := by
  unfold O_sameBlock_66 at ok
  unfold F_sameBlock_66 at hx
  refine r_istore_3 dX12_sameBlock_66 (by decide) rfl ?_
  refine r_iinc_4 (v := (x4 + nI 1)) dX12_sameBlock_67 rfl (by first | rfl | (congr 1)) (by decide) rfl ?_
  refine r_goto (tgt := 25) dX12_sameBlock_70 (by decide) ?_
  exact rX.cutz (hrec _ _ _ _ ok hx) ⟨rfl, rfl, rfl, rfl, rfl, trivial⟩
def B_sameBlock_25 (N : Nat) (rec : Int32 → Int32 → Int32 → Int32 → Nat × Int32 × Unit) (x1 : Int32) (x2 : Int32) (x3 : Int32) (x4 : Int32) (S : rS) : Nat × Int32 × Unit := (if (nI 4) ≤ x4 then (0, x3, ()) else (if x3 = 0 then (0, x3, ()) else (if (lg_cmp (S.2.2 13 (((nI 4) * x1) + x4).toNatClampNeg) (S.2.2 13 (((nI 4) * x2) + x4).toNatClampNeg)) = 0 then (F_sameBlock_66 N rec x1 x2 x4 (nI 1) S) else (F_sameBlock_66 N rec x1 x2 x4 (nI 0) S))))
def OB_sameBlock_25 (N : Nat) (rok : Int32 → Int32 → Int32 → Int32 → Prop) (x1 : Int32) (x2 : Int32) (x3 : Int32) (x4 : Int32) (S : rS) : Prop := (((nI 4) ≤ x4 → True) ∧ (¬ (nI 4) ≤ x4 → ((x3 = 0 → True) ∧ (¬ x3 = 0 → (vp_in (((nI 4) * x1) + x4) 5416) ∧ (vp_in (((nI 4) * x2) + x4) 5416) ∧ (((lg_cmp (S.2.2 13 (((nI 4) * x1) + x4).toNatClampNeg) (S.2.2 13 (((nI 4) * x2) + x4).toNatClampNeg)) = 0 → O_sameBlock_66 N rok x1 x2 x4 (nI 1) S) ∧ (¬ (lg_cmp (S.2.2 13 (((nI 4) * x1) + x4).toNatClampNeg) (S.2.2 13 (((nI 4) * x2) + x4).toNatClampNeg)) = 0 → O_sameBlock_66 N rok x1 x2 x4 (nI 0) S))))))
set_option maxHeartbeats 4000000 in
theorem bb_sameBlock_25 {G : zG} {E : rE} {S : rS} {N : Nat} {Q : Option Value → rS → Prop} {X : Nat × Int32 × Unit → Prop} (hG : zOK G) (hX0 : ∀ (x3 : Int32) , X (0, x3, ()) → rX G E dX12_sameBlock mX12_sameBlock 73 [none, none, none, some (.int x3), none] [] S Q) {rec : Int32 → Int32 → Int32 → Int32 → Nat × Int32 × Unit} {rok : Int32 → Int32 → Int32 → Int32 → Prop} (hrec : ∀ (x1 : Int32) (x2 : Int32) (x3 : Int32) (x4 : Int32), rok x1 x2 x3 x4 → X (rec x1 x2 x3 x4) → rX G E dX12_sameBlock mX12_sameBlock 25 [some (.ref E.1), some (.int x1), some (.int x2), some (.int x3), some (.int x4)] [] S Q) {x1 : Int32} {x2 : Int32} {x3 : Int32} {x4 : Int32} (ok : OB_sameBlock_25 N rok x1 x2 x3 x4 S) (hx : X (B_sameBlock_25 N rec x1 x2 x3 x4 S)) : rX G E dX12_sameBlock mX12_sameBlock 25 [some (.ref E.1), some (.int x1), some (.int x2), some (.int x3), some (.int x4)] [] S Q := by
  unfold OB_sameBlock_25 at ok
  unfold B_sameBlock_25 at hx
  refine r_iload dX12_sameBlock_25 rfl ?_
  refine r_iconst (v := nI 4) dX12_sameBlock_27 (by decide) ?_
  refine r_icmp_ge (tgt := 73) dX12_sameBlock_28 (by decide) (fun c_28 => ?_) (fun c_28 => ?_)
  · have ok := ok.1 c_28
    have hx := xif_p c_28 hx
    exact rX.cutz (hX0 _  hx) ⟨rfl, trivial⟩
  · have ok := ok.2 c_28
    have hx := xif_n c_28 hx
    refine r_iload_n dX12_sameBlock_31 rfl rfl ?_
    refine r_if_eq (tgt := 73) dX12_sameBlock_32 (by decide) (fun c_32 => ?_) (fun c_32 => ?_)
    · have ok := ok.1 c_32
      have hx := xif_p c_32 hx
      exact rX.cutz (hX0 _  hx) ⟨rfl, trivial⟩
    · have ok := ok.2 c_32
      have hx := xif_n c_32 hx
      refine r_aload_n dX12_sameBlock_35 rfl rfl ?_
      refine r_getA 13 fX12_60 (by decide) (by decide) dX12_sameBlock_36 ?_
      refine r_iconst (v := nI 4) dX12_sameBlock_39 (by decide) ?_
      refine r_iload_n dX12_sameBlock_40 rfl rfl ?_
      refine r_imul dX12_sameBlock_41 ?_
      refine r_iload dX12_sameBlock_42 rfl ?_
      refine r_iadd dX12_sameBlock_44 ?_
      refine r_lald (by decide) (by decide) dX12_sameBlock_45 ok.1 ?_
      have ok := ok.2
      refine r_aload_n dX12_sameBlock_46 rfl rfl ?_
      refine r_getA 13 fX12_60 (by decide) (by decide) dX12_sameBlock_47 ?_
      refine r_iconst (v := nI 4) dX12_sameBlock_50 (by decide) ?_
      refine r_iload_n dX12_sameBlock_51 rfl rfl ?_
      refine r_imul dX12_sameBlock_52 ?_
      refine r_iload dX12_sameBlock_53 rfl ?_
      refine r_iadd dX12_sameBlock_55 ?_
      refine r_lald (by decide) (by decide) dX12_sameBlock_56 ok.1 ?_
      have ok := ok.2
      refine r_lcmp dX12_sameBlock_57 ?_
      refine r_if_ne (tgt := 65) dX12_sameBlock_58 (by decide) (fun c_58 => ?_) (fun c_58 => ?_)
      · have ok := ok.2 c_58
        have hx := xif_n c_58 hx
        refine r_iconst (v := nI 0) dX12_sameBlock_65 (by decide) ?_
        exact rX.cutz (b_sameBlock_66 hG hX0 hrec ok hx) ⟨rfl, rfl, rfl, rfl, trivial⟩
      · have ok := ok.1 c_58
        have hx := xif_p c_58 hx
        refine r_iconst (v := nI 1) dX12_sameBlock_61 (by decide) ?_
        refine r_goto (tgt := 66) dX12_sameBlock_62 (by decide) ?_
        exact rX.cutz (b_sameBlock_66 hG hX0 hrec ok hx) ⟨rfl, rfl, rfl, rfl, trivial⟩
def L_sameBlock_25 (N : Nat) : Nat → Int32 → Int32 → Int32 → Int32 → rS → Nat × Int32 × Unit
  | 0, x1, x2, x3, x4, S => (0, 0, ())
  | n + 1, x1, x2, x3, x4, S => B_sameBlock_25 N (fun x1 x2 x3 x4 => L_sameBlock_25 N n x1 x2 x3 x4 S) x1 x2 x3 x4 S
def OL_sameBlock_25 (N : Nat) : Nat → Int32 → Int32 → Int32 → Int32 → rS → Prop
  | 0, _, _, _, _, _ => False
  | n + 1, x1, x2, x3, x4, S => OB_sameBlock_25 N (fun x1 x2 x3 x4 => OL_sameBlock_25 N n x1 x2 x3 x4 S) x1 x2 x3 x4 S
set_option maxHeartbeats 4000000 in
theorem l_sameBlock_25 {G : zG} {E : rE} {S : rS} {N : Nat} {Q : Option Value → rS → Prop} {X : Nat × Int32 × Unit → Prop} (hG : zOK G) (hX0 : ∀ (x3 : Int32) , X (0, x3, ()) → rX G E dX12_sameBlock mX12_sameBlock 73 [none, none, none, some (.int x3), none] [] S Q) : ∀ (n : Nat) (x1 : Int32) (x2 : Int32) (x3 : Int32) (x4 : Int32) , OL_sameBlock_25 N n x1 x2 x3 x4 S → X (L_sameBlock_25 N n x1 x2 x3 x4 S) → rX G E dX12_sameBlock mX12_sameBlock 25 [some (.ref E.1), some (.int x1), some (.int x2), some (.int x3), some (.int x4)] [] S Q := by
  intro n
  induction n with
  | zero => intro x1 x2 x3 x4 ok; exact absurd ok id
  | succ n ih =>
    intro x1 x2 x3 x4 ok hx
    exact bb_sameBlock_25 hG hX0 (rec := fun x1 x2 x3 x4 => L_sameBlock_25 N n x1 x2 x3 x4 S) (rok := fun x1 x2 x3 x4 => OL_sameBlock_25 N n x1 x2 x3 x4 S) (fun x1 x2 x3 x4 ok hx => ih x1 x2 x3 x4 ok hx) ok hx
def A_sameBlock_25 (N : Nat) (x1 : Int32) (x2 : Int32) (x3 : Int32) (x4 : Int32) (S : rS) (z : Nat × Int32 × Unit) : Int32 := (F_sameBlock_73 N (z.2.1) S)
def OA_sameBlock_25 (N : Nat) (x1 : Int32) (x2 : Int32) (x3 : Int32) (x4 : Int32) (S : rS) (z : Nat × Int32 × Unit) : Prop := O_sameBlock_73 N (z.2.1) S
set_option maxHeartbeats 4000000 in
theorem c_sameBlock_25 {G : zG} {E : rE} {S : rS} {N : Nat} {Q : Option Value → rS → Prop} {X : Int32 → Prop} (hG : zOK G) (hR : ∀ v, X v → Q (some (.int v)) S) {x1 : Int32} {x2 : Int32} {x3 : Int32} {x4 : Int32} (ok : OL_sameBlock_25 N N x1 x2 x3 x4 S ∧ OA_sameBlock_25 N x1 x2 x3 x4 S (L_sameBlock_25 N N x1 x2 x3 x4 S)) (hx : X (A_sameBlock_25 N x1 x2 x3 x4 S (L_sameBlock_25 N N x1 x2 x3 x4 S))) : rX G E dX12_sameBlock mX12_sameBlock 25 [some (.ref E.1), some (.int x1), some (.int x2), some (.int x3), some (.int x4)] [] S Q := by
  refine l_sameBlock_25 hG ?_ N x1 x2 x3 x4 ok.1 (X := fun z => OA_sameBlock_25 N x1 x2 x3 x4 S z ∧ X (A_sameBlock_25 N x1 x2 x3 x4 S z)) ⟨ok.2, hx⟩
  · intro x3' hz
    obtain ⟨ok, hx⟩ := hz
    unfold OA_sameBlock_25 at ok
    unfold A_sameBlock_25 at hx
    exact rX.cutz (b_sameBlock_73 hG hR ok hx) ⟨rfl, trivial⟩
def F_sameBlock_21 (N : Nat) (x1 : Int32) (x2 : Int32) (s0 : Int32) (S : rS) : Int32 := (A_sameBlock_25 N x1 x2 s0 (nI 0) S (L_sameBlock_25 N N x1 x2 s0 (nI 0) S))
def O_sameBlock_21 (N : Nat) (x1 : Int32) (x2 : Int32) (s0 : Int32) (S : rS) : Prop := (OL_sameBlock_25 N N x1 x2 s0 (nI 0) S ∧ OA_sameBlock_25 N x1 x2 s0 (nI 0) S (L_sameBlock_25 N N x1 x2 s0 (nI 0) S))
set_option maxHeartbeats 4000000 in
theorem b_sameBlock_21 {G : zG} {E : rE} {S : rS} {N : Nat} {Q : Option Value → rS → Prop} {X : Int32 → Prop} (hG : zOK G) (hR : ∀ v, X v → Q (some (.int v)) S) {x1 : Int32} {x2 : Int32} {s0 : Int32} (ok : O_sameBlock_21 N x1 x2 s0 S) (hx : X (F_sameBlock_21 N x1 x2 s0 S)) : rX G E dX12_sameBlock mX12_sameBlock 21 [some (.ref E.1), some (.int x1), some (.int x2), none, none] [.int s0] S Q := by
  unfold O_sameBlock_21 at ok
  unfold F_sameBlock_21 at hx
  refine r_istore_3 dX12_sameBlock_21 (by decide) rfl ?_
  refine r_iconst (v := nI 0) dX12_sameBlock_22 (by decide) ?_
  refine r_istore_4 dX12_sameBlock_23 (by decide) rfl ?_
  exact rX.cutz (c_sameBlock_25 hG hR ok hx) ⟨rfl, rfl, rfl, rfl, rfl, trivial⟩
def F_sameBlock_20 (N : Nat) (x1 : Int32) (x2 : Int32) (S : rS) : Int32 := (F_sameBlock_21 N x1 x2 (nI 0) S)
def O_sameBlock_20 (N : Nat) (x1 : Int32) (x2 : Int32) (S : rS) : Prop := O_sameBlock_21 N x1 x2 (nI 0) S
set_option maxHeartbeats 4000000 in
theorem b_sameBlock_20 {G : zG} {E : rE} {S : rS} {N : Nat} {Q : Option Value → rS → Prop} {X : Int32 → Prop} (hG : zOK G) (hR : ∀ v, X v → Q (some (.int v)) S) {x1 : Int32} {x2 : Int32} (ok : O_sameBlock_20 N x1 x2 S) (hx : X (F_sameBlock_20 N x1 x2 S)) : rX G E dX12_sameBlock mX12_sameBlock 20 [some (.ref E.1), some (.int x1), some (.int x2), none, none] [] S Q := by
  unfold O_sameBlock_20 at ok
  unfold F_sameBlock_20 at hx
  refine r_iconst (v := nI 0) dX12_sameBlock_20 (by decide) ?_
  exact rX.cutz (b_sameBlock_21 hG hR ok hx) ⟨rfl, rfl, rfl, trivial⟩
def F_sameBlock_0 (N : Nat) (x1 : Int32) (x2 : Int32) (S : rS) : Int32 := (if (f_isThere N S x1) = 0 then (F_sameBlock_20 N x1 x2 S) else (if (f_isThere N S x2) = 0 then (F_sameBlock_20 N x1 x2 S) else (F_sameBlock_21 N x1 x2 (nI 1) S)))
def O_sameBlock_0 (N : Nat) (x1 : Int32) (x2 : Int32) (S : rS) : Prop := (o_isThere N S x1) ∧ (((f_isThere N S x1) = 0 → O_sameBlock_20 N x1 x2 S) ∧ (¬ (f_isThere N S x1) = 0 → (o_isThere N S x2) ∧ (((f_isThere N S x2) = 0 → O_sameBlock_20 N x1 x2 S) ∧ (¬ (f_isThere N S x2) = 0 → O_sameBlock_21 N x1 x2 (nI 1) S))))
set_option maxHeartbeats 4000000 in
theorem b_sameBlock_0 {G : zG} {E : rE} {S : rS} {N : Nat} {Q : Option Value → rS → Prop} {X : Int32 → Prop} (hG : zOK G) (hR : ∀ v, X v → Q (some (.int v)) S) {x1 : Int32} {x2 : Int32} (ok : O_sameBlock_0 N x1 x2 S) (hx : X (F_sameBlock_0 N x1 x2 S)) : rX G E dX12_sameBlock mX12_sameBlock 0 [some (.ref E.1), some (.int x1), some (.int x2), none, none] [] S Q := by
  unfold O_sameBlock_0 at ok
  unfold F_sameBlock_0 at hx
  refine r_aload_n dX12_sameBlock_0 rfl rfl ?_
  refine r_iload_n dX12_sameBlock_1 rfl rfl ?_
  refine r_V1i (y' := mX12_isThere) dX12_sameBlock_2 lX12_63 kX12_isThere ⟨by decide, by decide⟩ rfl (Nat.le_of_ble_eq_true rfl) (rc_X12_isThere hG ok.1) (fun v_2 S_2 h_2 => ?_)
  obtain ⟨rfl, hS_2⟩ := h_2
  have hS_2 := hS_2.symm
  subst hS_2
  have ok := ok.2
  refine r_if_eq (tgt := 20) dX12_sameBlock_5 (by decide) (fun c_5 => ?_) (fun c_5 => ?_)
  · have ok := ok.1 c_5
    have hx := xif_p c_5 hx
    exact rX.cutz (b_sameBlock_20 hG hR ok hx) ⟨rfl, rfl, rfl, trivial⟩
  · have ok := ok.2 c_5
    have hx := xif_n c_5 hx
    refine r_aload_n dX12_sameBlock_8 rfl rfl ?_
    refine r_iload_n dX12_sameBlock_9 rfl rfl ?_
    refine r_V1i (y' := mX12_isThere) dX12_sameBlock_10 lX12_63 kX12_isThere ⟨by decide, by decide⟩ rfl (Nat.le_of_ble_eq_true rfl) (rc_X12_isThere hG ok.1) (fun v_10 S_10 h_10 => ?_)
    obtain ⟨rfl, hS_10⟩ := h_10
    have hS_10 := hS_10.symm
    subst hS_10
    have ok := ok.2
    refine r_if_eq (tgt := 20) dX12_sameBlock_13 (by decide) (fun c_13 => ?_) (fun c_13 => ?_)
    · have ok := ok.1 c_13
      have hx := xif_p c_13 hx
      exact rX.cutz (b_sameBlock_20 hG hR ok hx) ⟨rfl, rfl, rfl, trivial⟩
    · have ok := ok.2 c_13
      have hx := xif_n c_13 hx
      refine r_iconst (v := nI 1) dX12_sameBlock_16 (by decide) ?_
      refine r_goto (tgt := 21) dX12_sameBlock_17 (by decide) ?_
      exact rX.cutz (b_sameBlock_21 hG hR ok hx) ⟨rfl, rfl, rfl, trivial⟩
def f_sameBlock (N : Nat) (S : rS) (x1 : Int32) (x2 : Int32) : Int32 := F_sameBlock_0 N x1 x2 S
def o_sameBlock (N : Nat) (S : rS) (x1 : Int32) (x2 : Int32) : Prop := O_sameBlock_0 N x1 x2 S
set_option maxHeartbeats 4000000 in
theorem rc_X12_sameBlock {G : zG} {E : rE} {S : rS} {N : Nat} (hG : zOK G) {x1 : Int32} {x2 : Int32} (ok : o_sameBlock N S x1 x2) : rCi G E dX12_sameBlock mX12_sameBlock [.ref E.1, .int x1, .int x2] S (fun v S' => v = f_sameBlock N S x1 x2 ∧ S' = S) := by
  refine rC.ofX rfl (Nat.le_of_ble_eq_true rfl) ?_
  show rX G E dX12_sameBlock mX12_sameBlock 0 [some (.ref E.1), some (.int x1), some (.int x2), none, none] [] S _
  exact rX.cutz (b_sameBlock_0 (X := fun F => F = f_sameBlock N S x1 x2) hG (fun v h => ⟨v, rfl, h, rfl⟩) ok rfl) ⟨rfl, rfl, rfl, trivial⟩
/-! heightOf -/
def F_heightOf_0 (N : Nat) (x1 : Int32) (S : rS) : Int32 := (((f_blockByte N S x1 (nI 0)) <<< ((nI 8) &&& 31)) ||| (f_blockByte N S x1 (nI 1)))
def O_heightOf_0 (N : Nat) (x1 : Int32) (S : rS) : Prop := (o_blockByte N S x1 (nI 0)) ∧ (o_blockByte N S x1 (nI 1)) ∧ True
set_option maxHeartbeats 4000000 in
theorem b_heightOf_0 {G : zG} {E : rE} {S : rS} {N : Nat} {Q : Option Value → rS → Prop} {X : Int32 → Prop} (hG : zOK G) (hR : ∀ v, X v → Q (some (.int v)) S) {x1 : Int32} (ok : O_heightOf_0 N x1 S) (hx : X (F_heightOf_0 N x1 S)) : rX G E dX12_heightOf mX12_heightOf 0 [some (.ref E.1), some (.int x1)] [] S Q := by
  unfold O_heightOf_0 at ok
  unfold F_heightOf_0 at hx
  refine r_aload_n dX12_heightOf_0 rfl rfl ?_
  refine r_iload_n dX12_heightOf_1 rfl rfl ?_
  refine r_iconst (v := nI 0) dX12_heightOf_2 (by decide) ?_
  refine r_V2i (y' := mX12_blockByte) dX12_heightOf_3 lX12_67 kX12_blockByte ⟨by decide, by decide⟩ rfl (Nat.le_of_ble_eq_true rfl) (rc_X12_blockByte hG ok.1) (fun v_3 S_3 h_3 => ?_)
  obtain ⟨rfl, hS_3⟩ := h_3
  have hS_3 := hS_3.symm
  subst hS_3
  have ok := ok.2
  refine r_bipush (v := nI 8) dX12_heightOf_6 (by decide) ?_
  refine r_ishl dX12_heightOf_8 ?_
  refine r_aload_n dX12_heightOf_9 rfl rfl ?_
  refine r_iload_n dX12_heightOf_10 rfl rfl ?_
  refine r_iconst (v := nI 1) dX12_heightOf_11 (by decide) ?_
  refine r_V2i (y' := mX12_blockByte) dX12_heightOf_12 lX12_67 kX12_blockByte ⟨by decide, by decide⟩ rfl (Nat.le_of_ble_eq_true rfl) (rc_X12_blockByte hG ok.1) (fun v_12 S_12 h_12 => ?_)
  obtain ⟨rfl, hS_12⟩ := h_12
  have hS_12 := hS_12.symm
  subst hS_12
  have ok := ok.2
  refine r_ior dX12_heightOf_15 ?_
  exact r_ireturn rfl rfl dX12_heightOf_16 (hR _ hx)
def f_heightOf (N : Nat) (S : rS) (x1 : Int32) : Int32 := F_heightOf_0 N x1 S
def o_heightOf (N : Nat) (S : rS) (x1 : Int32) : Prop := O_heightOf_0 N x1 S
set_option maxHeartbeats 4000000 in
theorem rc_X12_heightOf {G : zG} {E : rE} {S : rS} {N : Nat} (hG : zOK G) {x1 : Int32} (ok : o_heightOf N S x1) : rCi G E dX12_heightOf mX12_heightOf [.ref E.1, .int x1] S (fun v S' => v = f_heightOf N S x1 ∧ S' = S) := by
  refine rC.ofX rfl (Nat.le_of_ble_eq_true rfl) ?_
  show rX G E dX12_heightOf mX12_heightOf 0 [some (.ref E.1), some (.int x1)] [] S _
  exact rX.cutz (b_heightOf_0 (X := fun F => F = f_heightOf N S x1) hG (fun v h => ⟨v, rfl, h, rfl⟩) ok rfl) ⟨rfl, rfl, trivial⟩
/-! makerOf -/
def F_makerOf_0 (N : Nat) (x1 : Int32) (S : rS) : Int32 := (f_blockByte N S x1 (nI 2))
def O_makerOf_0 (N : Nat) (x1 : Int32) (S : rS) : Prop := (o_blockByte N S x1 (nI 2)) ∧ True
set_option maxHeartbeats 4000000 in
theorem b_makerOf_0 {G : zG} {E : rE} {S : rS} {N : Nat} {Q : Option Value → rS → Prop} {X : Int32 → Prop} (hG : zOK G) (hR : ∀ v, X v → Q (some (.int v)) S) {x1 : Int32} (ok : O_makerOf_0 N x1 S) (hx : X (F_makerOf_0 N x1 S)) : rX G E dX12_makerOf mX12_makerOf 0 [some (.ref E.1), some (.int x1)] [] S Q := by
  unfold O_makerOf_0 at ok
  unfold F_makerOf_0 at hx
  refine r_aload_n dX12_makerOf_0 rfl rfl ?_
  refine r_iload_n dX12_makerOf_1 rfl rfl ?_
  refine r_iconst (v := nI 2) dX12_makerOf_2 (by decide) ?_
  refine r_V2i (y' := mX12_blockByte) dX12_makerOf_3 lX12_67 kX12_blockByte ⟨by decide, by decide⟩ rfl (Nat.le_of_ble_eq_true rfl) (rc_X12_blockByte hG ok.1) (fun v_3 S_3 h_3 => ?_)
  obtain ⟨rfl, hS_3⟩ := h_3
  have hS_3 := hS_3.symm
  subst hS_3
  have ok := ok.2
  exact r_ireturn rfl rfl dX12_makerOf_6 (hR _ hx)
def f_makerOf (N : Nat) (S : rS) (x1 : Int32) : Int32 := F_makerOf_0 N x1 S
def o_makerOf (N : Nat) (S : rS) (x1 : Int32) : Prop := O_makerOf_0 N x1 S
set_option maxHeartbeats 4000000 in
theorem rc_X12_makerOf {G : zG} {E : rE} {S : rS} {N : Nat} (hG : zOK G) {x1 : Int32} (ok : o_makerOf N S x1) : rCi G E dX12_makerOf mX12_makerOf [.ref E.1, .int x1] S (fun v S' => v = f_makerOf N S x1 ∧ S' = S) := by
  refine rC.ofX rfl (Nat.le_of_ble_eq_true rfl) ?_
  show rX G E dX12_makerOf mX12_makerOf 0 [some (.ref E.1), some (.int x1)] [] S _
  exact rX.cutz (b_makerOf_0 (X := fun F => F = f_makerOf N S x1) hG (fun v h => ⟨v, rfl, h, rfl⟩) ok rfl) ⟨rfl, rfl, trivial⟩
/-! paymentsOf -/
def F_paymentsOf_0 (N : Nat) (x1 : Int32) (S : rS) : Int32 := (f_blockByte N S x1 (nI 99))
def O_paymentsOf_0 (N : Nat) (x1 : Int32) (S : rS) : Prop := (o_blockByte N S x1 (nI 99)) ∧ True
set_option maxHeartbeats 4000000 in
theorem b_paymentsOf_0 {G : zG} {E : rE} {S : rS} {N : Nat} {Q : Option Value → rS → Prop} {X : Int32 → Prop} (hG : zOK G) (hR : ∀ v, X v → Q (some (.int v)) S) {x1 : Int32} (ok : O_paymentsOf_0 N x1 S) (hx : X (F_paymentsOf_0 N x1 S)) : rX G E dX12_paymentsOf mX12_paymentsOf 0 [some (.ref E.1), some (.int x1)] [] S Q := by
  unfold O_paymentsOf_0 at ok
  unfold F_paymentsOf_0 at hx
  refine r_aload_n dX12_paymentsOf_0 rfl rfl ?_
  refine r_iload_n dX12_paymentsOf_1 rfl rfl ?_
  refine r_bipush (v := nI 99) dX12_paymentsOf_2 (by decide) ?_
  refine r_V2i (y' := mX12_blockByte) dX12_paymentsOf_4 lX12_67 kX12_blockByte ⟨by decide, by decide⟩ rfl (Nat.le_of_ble_eq_true rfl) (rc_X12_blockByte hG ok.1) (fun v_4 S_4 h_4 => ?_)
  obtain ⟨rfl, hS_4⟩ := h_4
  have hS_4 := hS_4.symm
  subst hS_4
  have ok := ok.2
  exact r_ireturn rfl rfl dX12_paymentsOf_7 (hR _ hx)
def f_paymentsOf (N : Nat) (S : rS) (x1 : Int32) : Int32 := F_paymentsOf_0 N x1 S
def o_paymentsOf (N : Nat) (S : rS) (x1 : Int32) : Prop := O_paymentsOf_0 N x1 S
set_option maxHeartbeats 4000000 in
theorem rc_X12_paymentsOf {G : zG} {E : rE} {S : rS} {N : Nat} (hG : zOK G) {x1 : Int32} (ok : o_paymentsOf N S x1) : rCi G E dX12_paymentsOf mX12_paymentsOf [.ref E.1, .int x1] S (fun v S' => v = f_paymentsOf N S x1 ∧ S' = S) := by
  refine rC.ofX rfl (Nat.le_of_ble_eq_true rfl) ?_
  show rX G E dX12_paymentsOf mX12_paymentsOf 0 [some (.ref E.1), some (.int x1)] [] S _
  exact rX.cutz (b_paymentsOf_0 (X := fun F => F = f_paymentsOf N S x1) hG (fun v h => ⟨v, rfl, h, rfl⟩) ok rfl) ⟨rfl, rfl, trivial⟩
/-! proofsOf -/
def F_proofsOf_0 (N : Nat) (x1 : Int32) (S : rS) : Int32 := (f_blockByte N S x1 (nI 100))
def O_proofsOf_0 (N : Nat) (x1 : Int32) (S : rS) : Prop := (o_blockByte N S x1 (nI 100)) ∧ True
set_option maxHeartbeats 4000000 in
theorem b_proofsOf_0 {G : zG} {E : rE} {S : rS} {N : Nat} {Q : Option Value → rS → Prop} {X : Int32 → Prop} (hG : zOK G) (hR : ∀ v, X v → Q (some (.int v)) S) {x1 : Int32} (ok : O_proofsOf_0 N x1 S) (hx : X (F_proofsOf_0 N x1 S)) : rX G E dX12_proofsOf mX12_proofsOf 0 [some (.ref E.1), some (.int x1)] [] S Q := by
  unfold O_proofsOf_0 at ok
  unfold F_proofsOf_0 at hx
  refine r_aload_n dX12_proofsOf_0 rfl rfl ?_
  refine r_iload_n dX12_proofsOf_1 rfl rfl ?_
  refine r_bipush (v := nI 100) dX12_proofsOf_2 (by decide) ?_
  refine r_V2i (y' := mX12_blockByte) dX12_proofsOf_4 lX12_67 kX12_blockByte ⟨by decide, by decide⟩ rfl (Nat.le_of_ble_eq_true rfl) (rc_X12_blockByte hG ok.1) (fun v_4 S_4 h_4 => ?_)
  obtain ⟨rfl, hS_4⟩ := h_4
  have hS_4 := hS_4.symm
  subst hS_4
  have ok := ok.2
  exact r_ireturn rfl rfl dX12_proofsOf_7 (hR _ hx)
def f_proofsOf (N : Nat) (S : rS) (x1 : Int32) : Int32 := F_proofsOf_0 N x1 S
def o_proofsOf (N : Nat) (S : rS) (x1 : Int32) : Prop := O_proofsOf_0 N x1 S
set_option maxHeartbeats 4000000 in
theorem rc_X12_proofsOf {G : zG} {E : rE} {S : rS} {N : Nat} (hG : zOK G) {x1 : Int32} (ok : o_proofsOf N S x1) : rCi G E dX12_proofsOf mX12_proofsOf [.ref E.1, .int x1] S (fun v S' => v = f_proofsOf N S x1 ∧ S' = S) := by
  refine rC.ofX rfl (Nat.le_of_ble_eq_true rfl) ?_
  show rX G E dX12_proofsOf mX12_proofsOf 0 [some (.ref E.1), some (.int x1)] [] S _
  exact rX.cutz (b_proofsOf_0 (X := fun F => F = f_proofsOf N S x1) hG (fun v h => ⟨v, rfl, h, rfl⟩) ok rfl) ⟨rfl, rfl, trivial⟩
/-! identify -/
def F_identify_61 (N : Nat)  (S : rS) : rS := S
def O_identify_61 (N : Nat)  (S : rS) : Prop := True
set_option maxHeartbeats 4000000 in
theorem b_identify_61 {G : zG} {E : rE} {S : rS} {N : Nat} {Q : Option Value → rS → Prop} {X : rS → Prop} (hG : zOK G) (hR : ∀ S', X S' → Q none S') (ok : O_identify_61 N S) (hx : X (F_identify_61 N S)) : rX G E dX12_identify mX12_identify 61 [none, none, none] [] S Q := by
  unfold O_identify_61 at ok
  unfold F_identify_61 at hx
  exact r_return rfl dX12_identify_61 (hR _ hx)
def B_identify_35 (N : Nat) (rec : Int32 → Int32 → rS → Nat × rS) (x1 : Int32) (x2 : Int32) (S : rS) : Nat × rS := (if (nI 4) ≤ x2 then (0, S) else (rec x1 (x2 + nI 1) (rsL S 13 (((nI 4) * x1) + x2).toNatClampNeg (f_sum N S x2))))
def OB_identify_35 (N : Nat) (rok : Int32 → Int32 → rS → Prop) (x1 : Int32) (x2 : Int32) (S : rS) : Prop := (((nI 4) ≤ x2 → True) ∧ (¬ (nI 4) ≤ x2 → (o_sum N S x2) ∧ (vp_in (((nI 4) * x1) + x2) 5416) ∧ rok x1 (x2 + nI 1) (rsL S 13 (((nI 4) * x1) + x2).toNatClampNeg (f_sum N S x2))))
set_option maxHeartbeats 4000000 in
theorem bb_identify_35 {G : zG} {E : rE} {S : rS} {N : Nat} {Q : Option Value → rS → Prop} {X : Nat × rS → Prop} (hG : zOK G) (hX0 : ∀ (S' : rS), X (0, S') → rX G E dX12_identify mX12_identify 61 [none, none, none] [] S' Q) {rec : Int32 → Int32 → rS → Nat × rS} {rok : Int32 → Int32 → rS → Prop} (hrec : ∀ (x1 : Int32) (x2 : Int32) (S : rS), rok x1 x2 S → X (rec x1 x2 S) → rX G E dX12_identify mX12_identify 35 [some (.ref E.1), some (.int x1), some (.int x2)] [] S Q) {x1 : Int32} {x2 : Int32} (ok : OB_identify_35 N rok x1 x2 S) (hx : X (B_identify_35 N rec x1 x2 S)) : rX G E dX12_identify mX12_identify 35 [some (.ref E.1), some (.int x1), some (.int x2)] [] S Q := by
  unfold OB_identify_35 at ok
  unfold B_identify_35 at hx
  refine r_iload_n dX12_identify_35 rfl rfl ?_
  refine r_iconst (v := nI 4) dX12_identify_36 (by decide) ?_
  refine r_icmp_ge (tgt := 61) dX12_identify_37 (by decide) (fun c_37 => ?_) (fun c_37 => ?_)
  · have ok := ok.1 c_37
    have hx := xif_p c_37 hx
    exact rX.cutz (hX0 S hx) trivial
  · have ok := ok.2 c_37
    have hx := xif_n c_37 hx
    refine r_aload_n dX12_identify_40 rfl rfl ?_
    refine r_getA 13 fX12_60 (by decide) (by decide) dX12_identify_41 ?_
    refine r_iconst (v := nI 4) dX12_identify_44 (by decide) ?_
    refine r_iload_n dX12_identify_45 rfl rfl ?_
    refine r_imul dX12_identify_46 ?_
    refine r_iload_n dX12_identify_47 rfl rfl ?_
    refine r_iadd dX12_identify_48 ?_
    refine r_aload_n dX12_identify_49 rfl rfl ?_
    refine r_iload_n dX12_identify_50 rfl rfl ?_
    refine r_V1l (y' := mX12_sum) dX12_identify_51 lX12_74 kX12_sum ⟨by decide, by decide⟩ rfl (Nat.le_of_ble_eq_true rfl) (rc_X12_sum hG ok.1) (fun v_51 S_51 h_51 => ?_)
    obtain ⟨rfl, hS_51⟩ := h_51
    have hS_51 := hS_51.symm
    subst hS_51
    have ok := ok.2
    refine r_last (by decide) (by decide) dX12_identify_54 ok.1 ?_
    have ok := ok.2
    refine r_iinc_2 (v := (x2 + nI 1)) dX12_identify_55 rfl (by first | rfl | (congr 1)) (by decide) rfl ?_
    refine r_goto (tgt := 35) dX12_identify_58 (by decide) ?_
    exact rX.cutz (hrec _ _ (rsL S 13 (((nI 4) * x1) + x2).toNatClampNeg (f_sum N S x2)) ok hx) ⟨rfl, rfl, rfl, trivial⟩
def L_identify_35 (N : Nat) : Nat → Int32 → Int32 → rS → Nat × rS
  | 0, x1, x2, S => (0, S)
  | n + 1, x1, x2, S => B_identify_35 N (L_identify_35 N n) x1 x2 S
def OL_identify_35 (N : Nat) : Nat → Int32 → Int32 → rS → Prop
  | 0, _, _, _ => False
  | n + 1, x1, x2, S => OB_identify_35 N (OL_identify_35 N n) x1 x2 S
set_option maxHeartbeats 4000000 in
theorem l_identify_35 {G : zG} {E : rE} {N : Nat} {Q : Option Value → rS → Prop} {X : Nat × rS → Prop} (hG : zOK G) (hX0 : ∀ (S' : rS), X (0, S') → rX G E dX12_identify mX12_identify 61 [none, none, none] [] S' Q) : ∀ (n : Nat) (x1 : Int32) (x2 : Int32) (S : rS), OL_identify_35 N n x1 x2 S → X (L_identify_35 N n x1 x2 S) → rX G E dX12_identify mX12_identify 35 [some (.ref E.1), some (.int x1), some (.int x2)] [] S Q := by
  intro n
  induction n with
  | zero => intro x1 x2 S ok; exact absurd ok id
  | succ n ih =>
    intro x1 x2 S ok hx
    exact bb_identify_35 hG hX0 (rec := L_identify_35 N n) (rok := OL_identify_35 N n) (fun x1 x2 S ok hx => ih x1 x2 S ok hx) ok hx
def A_identify_35 (N : Nat) (x1 : Int32) (x2 : Int32) (S : rS) (z : Nat × rS) : rS := (F_identify_61 N z.2)
def OA_identify_35 (N : Nat) (x1 : Int32) (x2 : Int32) (S : rS) (z : Nat × rS) : Prop := O_identify_61 N z.2
set_option maxHeartbeats 4000000 in
theorem c_identify_35 {G : zG} {E : rE} {S : rS} {N : Nat} {Q : Option Value → rS → Prop} {X : rS → Prop} (hG : zOK G) (hR : ∀ S', X S' → Q none S') {x1 : Int32} {x2 : Int32} (ok : OL_identify_35 N N x1 x2 S ∧ OA_identify_35 N x1 x2 S (L_identify_35 N N x1 x2 S)) (hx : X (A_identify_35 N x1 x2 S (L_identify_35 N N x1 x2 S))) : rX G E dX12_identify mX12_identify 35 [some (.ref E.1), some (.int x1), some (.int x2)] [] S Q := by
  refine l_identify_35 hG ?_ N x1 x2 S ok.1 (X := fun z => OA_identify_35 N x1 x2 S z ∧ X (A_identify_35 N x1 x2 S z)) ⟨ok.2, hx⟩
  · intro S' hz
    obtain ⟨ok, hx⟩ := hz
    unfold OA_identify_35 at ok
    unfold A_identify_35 at hx
    exact rX.cutz (b_identify_61 hG hR ok hx) trivial
def F_identify_33 (N : Nat) (x1 : Int32) (S : rS) : rS := (A_identify_35 N x1 (nI 0) S (L_identify_35 N N x1 (nI 0) S))
def O_identify_33 (N : Nat) (x1 : Int32) (S : rS) : Prop := (OL_identify_35 N N x1 (nI 0) S ∧ OA_identify_35 N x1 (nI 0) S (L_identify_35 N N x1 (nI 0) S))
set_option maxHeartbeats 4000000 in
theorem b_identify_33 {G : zG} {E : rE} {S : rS} {N : Nat} {Q : Option Value → rS → Prop} {X : rS → Prop} (hG : zOK G) (hR : ∀ S', X S' → Q none S') {x1 : Int32} (ok : O_identify_33 N x1 S) (hx : X (F_identify_33 N x1 S)) : rX G E dX12_identify mX12_identify 33 [some (.ref E.1), some (.int x1), none] [] S Q := by
  unfold O_identify_33 at ok
  unfold F_identify_33 at hx
  refine r_iconst (v := nI 0) dX12_identify_33 (by decide) ?_
  refine r_istore_2 dX12_identify_34 (by decide) rfl ?_
  exact rX.cutz (c_identify_35 hG hR ok hx) ⟨rfl, rfl, rfl, trivial⟩
def F_identify_29 (N : Nat) (x1 : Int32) (S : rS) : rS := (F_identify_33 N x1 (f_digest N S))
def O_identify_29 (N : Nat) (x1 : Int32) (S : rS) : Prop := (o_digest N S) ∧ O_identify_33 N x1 (f_digest N S)
set_option maxHeartbeats 4000000 in
theorem b_identify_29 {G : zG} {E : rE} {S : rS} {N : Nat} {Q : Option Value → rS → Prop} {X : rS → Prop} (hG : zOK G) (hR : ∀ S', X S' → Q none S') {x1 : Int32} (ok : O_identify_29 N x1 S) (hx : X (F_identify_29 N x1 S)) : rX G E dX12_identify mX12_identify 29 [some (.ref E.1), some (.int x1), none] [] S Q := by
  unfold O_identify_29 at ok
  unfold F_identify_29 at hx
  refine r_aload_n dX12_identify_29 rfl rfl ?_
  refine r_V0v (y' := mX12_digest) dX12_identify_30 lX12_70 kX12_digest ⟨by decide, by decide⟩ rfl (Nat.le_of_ble_eq_true rfl) (rc_X12_digest hG ok.1) (fun S_30 h_30 => ?_)
  subst h_30
  have ok := ok.2
  exact rX.cutz (b_identify_33 hG hR ok hx) ⟨rfl, rfl, trivial⟩
def F_identify_23 (N : Nat) (rec : Int32 → Int32 → rS → Nat × Int32 × rS) (x1 : Int32) (x2 : Int32) (S : rS) : Nat × Int32 × rS := (rec x1 (x2 + nI 1) S)
def O_identify_23 (N : Nat) (rok : Int32 → Int32 → rS → Prop) (x1 : Int32) (x2 : Int32) (S : rS) : Prop := rok x1 (x2 + nI 1) S
set_option maxHeartbeats 4000000 in
theorem b_identify_23 {G : zG} {E : rE} {S : rS} {N : Nat} {Q : Option Value → rS → Prop} {X : Nat × Int32 × rS → Prop} (hG : zOK G) (hX0 : ∀ (x1 : Int32) (S' : rS), X (0, x1, S') → rX G E dX12_identify mX12_identify 29 [some (.ref E.1), some (.int x1), none] [] S' Q) {rec : Int32 → Int32 → rS → Nat × Int32 × rS} {rok : Int32 → Int32 → rS → Prop} (hrec : ∀ (x1 : Int32) (x2 : Int32) (S : rS), rok x1 x2 S → X (rec x1 x2 S) → rX G E dX12_identify mX12_identify 7 [some (.ref E.1), some (.int x1), some (.int x2)] [] S Q) {x1 : Int32} {x2 : Int32} (ok : O_identify_23 N rok x1 x2 S) (hx : X (F_identify_23 N rec x1 x2 S)) : rX G E dX12_identify mX12_identify 23 [some (.ref E.1), some (.int x1), some (.int x2)] [] S Q := by
  unfold O_identify_23 at ok
  unfold F_identify_23 at hx
  refine r_iinc_2 (v := (x2 + nI 1)) dX12_identify_23 rfl (by first | rfl | (congr 1)) (by decide) rfl ?_
  refine r_goto (tgt := 7) dX12_identify_26 (by decide) ?_
  exact rX.cutz (hrec _ _ S ok hx) ⟨rfl, rfl, rfl, trivial⟩
def B_identify_7 (N : Nat) (rec : Int32 → Int32 → rS → Nat × Int32 × rS) (x1 : Int32) (x2 : Int32) (S : rS) : Nat × Int32 × rS := (if (nI 101) ≤ x2 then (0, x1, S) else (F_identify_23 N rec x1 x2 (f_hashByte N S (f_blockByte N S x1 x2))))
def OB_identify_7 (N : Nat) (rok : Int32 → Int32 → rS → Prop) (x1 : Int32) (x2 : Int32) (S : rS) : Prop := (((nI 101) ≤ x2 → True) ∧ (¬ (nI 101) ≤ x2 → (o_blockByte N S x1 x2) ∧ (o_hashByte N S (f_blockByte N S x1 x2)) ∧ O_identify_23 N rok x1 x2 (f_hashByte N S (f_blockByte N S x1 x2))))
set_option maxHeartbeats 4000000 in
theorem bb_identify_7 {G : zG} {E : rE} {S : rS} {N : Nat} {Q : Option Value → rS → Prop} {X : Nat × Int32 × rS → Prop} (hG : zOK G) (hX0 : ∀ (x1 : Int32) (S' : rS), X (0, x1, S') → rX G E dX12_identify mX12_identify 29 [some (.ref E.1), some (.int x1), none] [] S' Q) {rec : Int32 → Int32 → rS → Nat × Int32 × rS} {rok : Int32 → Int32 → rS → Prop} (hrec : ∀ (x1 : Int32) (x2 : Int32) (S : rS), rok x1 x2 S → X (rec x1 x2 S) → rX G E dX12_identify mX12_identify 7 [some (.ref E.1), some (.int x1), some (.int x2)] [] S Q) {x1 : Int32} {x2 : Int32} (ok : OB_identify_7 N rok x1 x2 S) (hx : X (B_identify_7 N rec x1 x2 S)) : rX G E dX12_identify mX12_identify 7 [some (.ref E.1), some (.int x1), some (.int x2)] [] S Q := by
  unfold OB_identify_7 at ok
  unfold B_identify_7 at hx
  refine r_iload_n dX12_identify_7 rfl rfl ?_
  refine r_bipush (v := nI 101) dX12_identify_8 (by decide) ?_
  refine r_icmp_ge (tgt := 29) dX12_identify_10 (by decide) (fun c_10 => ?_) (fun c_10 => ?_)
  · have ok := ok.1 c_10
    have hx := xif_p c_10 hx
    exact rX.cutz (hX0 _ S hx) ⟨rfl, rfl, trivial⟩
  · have ok := ok.2 c_10
    have hx := xif_n c_10 hx
    refine r_aload_n dX12_identify_13 rfl rfl ?_
    refine r_aload_n dX12_identify_14 rfl rfl ?_
    refine r_iload_n dX12_identify_15 rfl rfl ?_
    refine r_iload_n dX12_identify_16 rfl rfl ?_
    refine r_V2i (y' := mX12_blockByte) dX12_identify_17 lX12_67 kX12_blockByte ⟨by decide, by decide⟩ rfl (Nat.le_of_ble_eq_true rfl) (rc_X12_blockByte hG ok.1) (fun v_17 S_17 h_17 => ?_)
    obtain ⟨rfl, hS_17⟩ := h_17
    have hS_17 := hS_17.symm
    subst hS_17
    have ok := ok.2
    refine r_V1v (y' := mX12_hashByte) dX12_identify_20 lX12_29 kX12_hashByte ⟨by decide, by decide⟩ rfl (Nat.le_of_ble_eq_true rfl) (rc_X12_hashByte hG ok.1) (fun S_20 h_20 => ?_)
    subst h_20
    have ok := ok.2
    exact rX.cutz (b_identify_23 hG hX0 hrec ok hx) ⟨rfl, rfl, rfl, trivial⟩
def L_identify_7 (N : Nat) : Nat → Int32 → Int32 → rS → Nat × Int32 × rS
  | 0, x1, x2, S => (0, 0, S)
  | n + 1, x1, x2, S => B_identify_7 N (L_identify_7 N n) x1 x2 S
def OL_identify_7 (N : Nat) : Nat → Int32 → Int32 → rS → Prop
  | 0, _, _, _ => False
  | n + 1, x1, x2, S => OB_identify_7 N (OL_identify_7 N n) x1 x2 S
set_option maxHeartbeats 4000000 in
theorem l_identify_7 {G : zG} {E : rE} {N : Nat} {Q : Option Value → rS → Prop} {X : Nat × Int32 × rS → Prop} (hG : zOK G) (hX0 : ∀ (x1 : Int32) (S' : rS), X (0, x1, S') → rX G E dX12_identify mX12_identify 29 [some (.ref E.1), some (.int x1), none] [] S' Q) : ∀ (n : Nat) (x1 : Int32) (x2 : Int32) (S : rS), OL_identify_7 N n x1 x2 S → X (L_identify_7 N n x1 x2 S) → rX G E dX12_identify mX12_identify 7 [some (.ref E.1), some (.int x1), some (.int x2)] [] S Q := by
  intro n
  induction n with
  | zero => intro x1 x2 S ok; exact absurd ok id
  | succ n ih =>
    intro x1 x2 S ok hx
    exact bb_identify_7 hG hX0 (rec := L_identify_7 N n) (rok := OL_identify_7 N n) (fun x1 x2 S ok hx => ih x1 x2 S ok hx) ok hx
def A_identify_7 (N : Nat) (x1 : Int32) (x2 : Int32) (S : rS) (z : Nat × Int32 × rS) : rS := (F_identify_29 N (z.2.1) z.2.2)
def OA_identify_7 (N : Nat) (x1 : Int32) (x2 : Int32) (S : rS) (z : Nat × Int32 × rS) : Prop := O_identify_29 N (z.2.1) z.2.2
set_option maxHeartbeats 4000000 in
theorem c_identify_7 {G : zG} {E : rE} {S : rS} {N : Nat} {Q : Option Value → rS → Prop} {X : rS → Prop} (hG : zOK G) (hR : ∀ S', X S' → Q none S') {x1 : Int32} {x2 : Int32} (ok : OL_identify_7 N N x1 x2 S ∧ OA_identify_7 N x1 x2 S (L_identify_7 N N x1 x2 S)) (hx : X (A_identify_7 N x1 x2 S (L_identify_7 N N x1 x2 S))) : rX G E dX12_identify mX12_identify 7 [some (.ref E.1), some (.int x1), some (.int x2)] [] S Q := by
  refine l_identify_7 hG ?_ N x1 x2 S ok.1 (X := fun z => OA_identify_7 N x1 x2 S z ∧ X (A_identify_7 N x1 x2 S z)) ⟨ok.2, hx⟩
  · intro x1' S' hz
    obtain ⟨ok, hx⟩ := hz
    unfold OA_identify_7 at ok
    unfold A_identify_7 at hx
    exact rX.cutz (b_identify_29 hG hR ok hx) ⟨rfl, rfl, trivial⟩
def F_identify_0 (N : Nat) (x1 : Int32) (S : rS) : rS := (A_identify_7 N x1 (nI 0) (rsI S 7 (nI 0)) (L_identify_7 N N x1 (nI 0) (rsI S 7 (nI 0))))
def O_identify_0 (N : Nat) (x1 : Int32) (S : rS) : Prop := (OL_identify_7 N N x1 (nI 0) (rsI S 7 (nI 0)) ∧ OA_identify_7 N x1 (nI 0) (rsI S 7 (nI 0)) (L_identify_7 N N x1 (nI 0) (rsI S 7 (nI 0))))
set_option maxHeartbeats 4000000 in
theorem b_identify_0 {G : zG} {E : rE} {S : rS} {N : Nat} {Q : Option Value → rS → Prop} {X : rS → Prop} (hG : zOK G) (hR : ∀ S', X S' → Q none S') {x1 : Int32} (ok : O_identify_0 N x1 S) (hx : X (F_identify_0 N x1 S)) : rX G E dX12_identify mX12_identify 0 [some (.ref E.1), some (.int x1), none] [] S Q := by
  unfold O_identify_0 at ok
  unfold F_identify_0 at hx
  refine r_aload_n dX12_identify_0 rfl rfl ?_
  refine r_iconst (v := nI 0) dX12_identify_1 (by decide) ?_
  refine r_putI 7 fX12_25 (by decide) (by decide) rfl rfl rfl dX12_identify_2 ?_
  refine r_iconst (v := nI 0) dX12_identify_5 (by decide) ?_
  refine r_istore_2 dX12_identify_6 (by decide) rfl ?_
  exact rX.cutz (c_identify_7 hG hR ok hx) ⟨rfl, rfl, rfl, trivial⟩
def f_identify (N : Nat) (S : rS) (x1 : Int32) : rS := F_identify_0 N x1 S
def o_identify (N : Nat) (S : rS) (x1 : Int32) : Prop := O_identify_0 N x1 S
set_option maxHeartbeats 4000000 in
theorem rc_X12_identify {G : zG} {E : rE} {S : rS} {N : Nat} (hG : zOK G) {x1 : Int32} (ok : o_identify N S x1) : rCv G E dX12_identify mX12_identify [.ref E.1, .int x1] S (fun S' => S' = f_identify N S x1) := by
  refine rC.ofX rfl (Nat.le_of_ble_eq_true rfl) ?_
  show rX G E dX12_identify mX12_identify 0 [some (.ref E.1), some (.int x1), none] [] S _
  exact rX.cutz (b_identify_0 (X := fun F => F = f_identify N S x1) hG (fun S' h => ⟨rfl, h⟩) ok rfl) ⟨rfl, rfl, trivial⟩
/-! proofBytes -/
def F_proofBytes_19 (N : Nat) (s0 : Int32) (S : rS) : Int32 := s0
def O_proofBytes_19 (N : Nat) (s0 : Int32) (S : rS) : Prop := True
set_option maxHeartbeats 4000000 in
theorem b_proofBytes_19 {G : zG} {E : rE} {S : rS} {N : Nat} {Q : Option Value → rS → Prop} {X : Int32 → Prop} (hG : zOK G) (hR : ∀ v, X v → Q (some (.int v)) S) {s0 : Int32} (ok : O_proofBytes_19 N s0 S) (hx : X (F_proofBytes_19 N s0 S)) : rX G E dX12_proofBytes mX12_proofBytes 19 [none, none, none] [.int s0] S Q := by
  unfold O_proofBytes_19 at ok
  unfold F_proofBytes_19 at hx
  exact r_ireturn rfl rfl dX12_proofBytes_19 (hR _ hx)
def F_proofBytes_0 (N : Nat) (x1 : Int32) (x2 : Int32) (S : rS) : Int32 := (if (f_blockByte N S x1 (x2 + (nI 5))) = (nI 1) then (F_proofBytes_19 N (nI 71) S) else (F_proofBytes_19 N (nI 39) S))
def O_proofBytes_0 (N : Nat) (x1 : Int32) (x2 : Int32) (S : rS) : Prop := (o_blockByte N S x1 (x2 + (nI 5))) ∧ (((f_blockByte N S x1 (x2 + (nI 5))) = (nI 1) → O_proofBytes_19 N (nI 71) S) ∧ (¬ (f_blockByte N S x1 (x2 + (nI 5))) = (nI 1) → O_proofBytes_19 N (nI 39) S))
set_option maxHeartbeats 4000000 in
theorem b_proofBytes_0 {G : zG} {E : rE} {S : rS} {N : Nat} {Q : Option Value → rS → Prop} {X : Int32 → Prop} (hG : zOK G) (hR : ∀ v, X v → Q (some (.int v)) S) {x1 : Int32} {x2 : Int32} (ok : O_proofBytes_0 N x1 x2 S) (hx : X (F_proofBytes_0 N x1 x2 S)) : rX G E dX12_proofBytes mX12_proofBytes 0 [some (.ref E.1), some (.int x1), some (.int x2)] [] S Q := by
  unfold O_proofBytes_0 at ok
  unfold F_proofBytes_0 at hx
  refine r_aload_n dX12_proofBytes_0 rfl rfl ?_
  refine r_iload_n dX12_proofBytes_1 rfl rfl ?_
  refine r_iload_n dX12_proofBytes_2 rfl rfl ?_
  refine r_iconst (v := nI 5) dX12_proofBytes_3 (by decide) ?_
  refine r_iadd dX12_proofBytes_4 ?_
  refine r_V2i (y' := mX12_blockByte) dX12_proofBytes_5 lX12_67 kX12_blockByte ⟨by decide, by decide⟩ rfl (Nat.le_of_ble_eq_true rfl) (rc_X12_blockByte hG ok.1) (fun v_5 S_5 h_5 => ?_)
  obtain ⟨rfl, hS_5⟩ := h_5
  have hS_5 := hS_5.symm
  subst hS_5
  have ok := ok.2
  refine r_iconst (v := nI 1) dX12_proofBytes_8 (by decide) ?_
  refine r_icmp_ne (tgt := 17) dX12_proofBytes_9 (by decide) (fun c_9 => ?_) (fun c_9 => ?_)
  · have ok := ok.2 c_9
    have hx := xif_n c_9 hx
    refine r_bipush (v := nI 39) dX12_proofBytes_17 (by decide) ?_
    exact rX.cutz (b_proofBytes_19 hG hR ok hx) trivial
  · have ok := ok.1 c_9
    have hx := xif_p c_9 hx
    refine r_bipush (v := nI 71) dX12_proofBytes_12 (by decide) ?_
    refine r_goto (tgt := 19) dX12_proofBytes_14 (by decide) ?_
    exact rX.cutz (b_proofBytes_19 hG hR ok hx) trivial
def f_proofBytes (N : Nat) (S : rS) (x1 : Int32) (x2 : Int32) : Int32 := F_proofBytes_0 N x1 x2 S
def o_proofBytes (N : Nat) (S : rS) (x1 : Int32) (x2 : Int32) : Prop := O_proofBytes_0 N x1 x2 S
set_option maxHeartbeats 4000000 in
theorem rc_X12_proofBytes {G : zG} {E : rE} {S : rS} {N : Nat} (hG : zOK G) {x1 : Int32} {x2 : Int32} (ok : o_proofBytes N S x1 x2) : rCi G E dX12_proofBytes mX12_proofBytes [.ref E.1, .int x1, .int x2] S (fun v S' => v = f_proofBytes N S x1 x2 ∧ S' = S) := by
  refine rC.ofX rfl (Nat.le_of_ble_eq_true rfl) ?_
  show rX G E dX12_proofBytes mX12_proofBytes 0 [some (.ref E.1), some (.int x1), some (.int x2)] [] S _
  exact rX.cutz (b_proofBytes_0 (X := fun F => F = f_proofBytes N S x1 x2) hG (fun v h => ⟨v, rfl, h, rfl⟩) ok rfl) ⟨rfl, rfl, rfl, trivial⟩
/-! noParts -/
def F_noParts_0 (N : Nat)  (S : rS) : rS := (rsA (rsI S 17 (nI 0)) 16 (nI 0).toNatClampNeg (nI 0))
def O_noParts_0 (N : Nat)  (S : rS) : Prop := (vp_in (nI 0) 68) ∧ True
set_option maxHeartbeats 4000000 in
theorem b_noParts_0 {G : zG} {E : rE} {S : rS} {N : Nat} {Q : Option Value → rS → Prop} {X : rS → Prop} (hG : zOK G) (hR : ∀ S', X S' → Q none S') (ok : O_noParts_0 N S) (hx : X (F_noParts_0 N S)) : rX G E dX12_noParts mX12_noParts 0 [some (.ref E.1)] [] S Q := by
  unfold O_noParts_0 at ok
  unfold F_noParts_0 at hx
  refine r_aload_n dX12_noParts_0 rfl rfl ?_
  refine r_iconst (v := nI 0) dX12_noParts_1 (by decide) ?_
  refine r_putI 17 fX12_78 (by decide) (by decide) rfl rfl rfl dX12_noParts_2 ?_
  refine r_aload_n dX12_noParts_5 rfl rfl ?_
  refine r_getA 16 fX12_81 (by decide) (by decide) dX12_noParts_6 ?_
  refine r_iconst (v := nI 0) dX12_noParts_9 (by decide) ?_
  refine r_iconst (v := nI 0) dX12_noParts_10 (by decide) ?_
  refine r_iast hG (by decide) (by decide) dX12_noParts_11 ok.1 ?_
  have ok := ok.2
  exact r_return rfl dX12_noParts_12 (hR _ hx)
def f_noParts (N : Nat) (S : rS) : rS := F_noParts_0 N S
def o_noParts (N : Nat) (S : rS) : Prop := O_noParts_0 N S
set_option maxHeartbeats 4000000 in
theorem rc_X12_noParts {G : zG} {E : rE} {S : rS} {N : Nat} (hG : zOK G) (ok : o_noParts N S ) : rCv G E dX12_noParts mX12_noParts [.ref E.1] S (fun S' => S' = f_noParts N S) := by
  refine rC.ofX rfl (Nat.le_of_ble_eq_true rfl) ?_
  show rX G E dX12_noParts mX12_noParts 0 [some (.ref E.1)] [] S _
  exact rX.cutz (b_noParts_0 (X := fun F => F = f_noParts N S) hG (fun S' h => ⟨rfl, h⟩) ok rfl) ⟨rfl, trivial⟩
/-! partByte -/
def F_partByte_0 (N : Nat) (x1 : Int32) (S : rS) : rS := (rsA (rsA S 15 (S.2.1 16 (S.1 17).toNatClampNeg).toNatClampNeg x1) 16 ((rsA S 15 (S.2.1 16 (S.1 17).toNatClampNeg).toNatClampNeg x1).1 17).toNatClampNeg (((rsA S 15 (S.2.1 16 (S.1 17).toNatClampNeg).toNatClampNeg x1).2.1 16 ((rsA S 15 (S.2.1 16 (S.1 17).toNatClampNeg).toNatClampNeg x1).1 17).toNatClampNeg) + (nI 1)))
def O_partByte_0 (N : Nat) (x1 : Int32) (S : rS) : Prop := (vp_in (S.1 17) 68) ∧ (vp_in (S.2.1 16 (S.1 17).toNatClampNeg) 600) ∧ (vp_in ((rsA S 15 (S.2.1 16 (S.1 17).toNatClampNeg).toNatClampNeg x1).1 17) 68) ∧ (vp_in ((rsA S 15 (S.2.1 16 (S.1 17).toNatClampNeg).toNatClampNeg x1).1 17) 68) ∧ True
set_option maxHeartbeats 4000000 in
theorem b_partByte_0 {G : zG} {E : rE} {S : rS} {N : Nat} {Q : Option Value → rS → Prop} {X : rS → Prop} (hG : zOK G) (hR : ∀ S', X S' → Q none S') {x1 : Int32} (ok : O_partByte_0 N x1 S) (hx : X (F_partByte_0 N x1 S)) : rX G E dX12_partByte mX12_partByte 0 [some (.ref E.1), some (.int x1)] [] S Q := by
  unfold O_partByte_0 at ok
  unfold F_partByte_0 at hx
  refine r_aload_n dX12_partByte_0 rfl rfl ?_
  refine r_getA 15 fX12_84 (by decide) (by decide) dX12_partByte_1 ?_
  refine r_aload_n dX12_partByte_4 rfl rfl ?_
  refine r_getA 16 fX12_81 (by decide) (by decide) dX12_partByte_5 ?_
  refine r_aload_n dX12_partByte_8 rfl rfl ?_
  refine r_getI 17 fX12_78 (by decide) (by decide) dX12_partByte_9 ?_
  refine r_iald (by decide) (by decide) dX12_partByte_12 ok.1 ?_
  have ok := ok.2
  refine r_iload_n dX12_partByte_13 rfl rfl ?_
  refine r_iast hG (by decide) (by decide) dX12_partByte_14 ok.1 ?_
  have ok := ok.2
  refine r_aload_n dX12_partByte_15 rfl rfl ?_
  refine r_getA 16 fX12_81 (by decide) (by decide) dX12_partByte_16 ?_
  refine r_aload_n dX12_partByte_19 rfl rfl ?_
  refine r_getI 17 fX12_78 (by decide) (by decide) dX12_partByte_20 ?_
  refine r_aload_n dX12_partByte_23 rfl rfl ?_
  refine r_getA 16 fX12_81 (by decide) (by decide) dX12_partByte_24 ?_
  refine r_aload_n dX12_partByte_27 rfl rfl ?_
  refine r_getI 17 fX12_78 (by decide) (by decide) dX12_partByte_28 ?_
  refine r_iald (by decide) (by decide) dX12_partByte_31 ok.1 ?_
  have ok := ok.2
  refine r_iconst (v := nI 1) dX12_partByte_32 (by decide) ?_
  refine r_iadd dX12_partByte_33 ?_
  refine r_iast hG (by decide) (by decide) dX12_partByte_34 ok.1 ?_
  have ok := ok.2
  exact r_return rfl dX12_partByte_35 (hR _ hx)
def f_partByte (N : Nat) (S : rS) (x1 : Int32) : rS := F_partByte_0 N x1 S
def o_partByte (N : Nat) (S : rS) (x1 : Int32) : Prop := O_partByte_0 N x1 S
set_option maxHeartbeats 4000000 in
theorem rc_X12_partByte {G : zG} {E : rE} {S : rS} {N : Nat} (hG : zOK G) {x1 : Int32} (ok : o_partByte N S x1) : rCv G E dX12_partByte mX12_partByte [.ref E.1, .int x1] S (fun S' => S' = f_partByte N S x1) := by
  refine rC.ofX rfl (Nat.le_of_ble_eq_true rfl) ?_
  show rX G E dX12_partByte mX12_partByte 0 [some (.ref E.1), some (.int x1)] [] S _
  exact rX.cutz (b_partByte_0 (X := fun F => F = f_partByte N S x1) hG (fun S' h => ⟨rfl, h⟩) ok rfl) ⟨rfl, rfl, trivial⟩
/-! endPart -/
def F_endPart_0 (N : Nat)  (S : rS) : rS := (rsA (rsI S 17 ((S.1 17) + (nI 1))) 16 ((rsI S 17 ((S.1 17) + (nI 1))).1 17).toNatClampNeg ((rsI S 17 ((S.1 17) + (nI 1))).2.1 16 (((rsI S 17 ((S.1 17) + (nI 1))).1 17) - (nI 1)).toNatClampNeg))
def O_endPart_0 (N : Nat)  (S : rS) : Prop := (vp_in (((rsI S 17 ((S.1 17) + (nI 1))).1 17) - (nI 1)) 68) ∧ (vp_in ((rsI S 17 ((S.1 17) + (nI 1))).1 17) 68) ∧ True
set_option maxHeartbeats 4000000 in
theorem b_endPart_0 {G : zG} {E : rE} {S : rS} {N : Nat} {Q : Option Value → rS → Prop} {X : rS → Prop} (hG : zOK G) (hR : ∀ S', X S' → Q none S') (ok : O_endPart_0 N S) (hx : X (F_endPart_0 N S)) : rX G E dX12_endPart mX12_endPart 0 [some (.ref E.1)] [] S Q := by
  unfold O_endPart_0 at ok
  unfold F_endPart_0 at hx
  refine r_aload_n dX12_endPart_0 rfl rfl ?_
  refine r_aload_n dX12_endPart_1 rfl rfl ?_
  refine r_getI 17 fX12_78 (by decide) (by decide) dX12_endPart_2 ?_
  refine r_iconst (v := nI 1) dX12_endPart_5 (by decide) ?_
  refine r_iadd dX12_endPart_6 ?_
  refine r_putI 17 fX12_78 (by decide) (by decide) rfl rfl rfl dX12_endPart_7 ?_
  refine r_aload_n dX12_endPart_10 rfl rfl ?_
  refine r_getA 16 fX12_81 (by decide) (by decide) dX12_endPart_11 ?_
  refine r_aload_n dX12_endPart_14 rfl rfl ?_
  refine r_getI 17 fX12_78 (by decide) (by decide) dX12_endPart_15 ?_
  refine r_aload_n dX12_endPart_18 rfl rfl ?_
  refine r_getA 16 fX12_81 (by decide) (by decide) dX12_endPart_19 ?_
  refine r_aload_n dX12_endPart_22 rfl rfl ?_
  refine r_getI 17 fX12_78 (by decide) (by decide) dX12_endPart_23 ?_
  refine r_iconst (v := nI 1) dX12_endPart_26 (by decide) ?_
  refine r_isub dX12_endPart_27 ?_
  refine r_iald (by decide) (by decide) dX12_endPart_28 ok.1 ?_
  have ok := ok.2
  refine r_iast hG (by decide) (by decide) dX12_endPart_29 ok.1 ?_
  have ok := ok.2
  exact r_return rfl dX12_endPart_30 (hR _ hx)
def f_endPart (N : Nat) (S : rS) : rS := F_endPart_0 N S
def o_endPart (N : Nat) (S : rS) : Prop := O_endPart_0 N S
set_option maxHeartbeats 4000000 in
theorem rc_X12_endPart {G : zG} {E : rE} {S : rS} {N : Nat} (hG : zOK G) (ok : o_endPart N S ) : rCv G E dX12_endPart mX12_endPart [.ref E.1] S (fun S' => S' = f_endPart N S) := by
  refine rC.ofX rfl (Nat.le_of_ble_eq_true rfl) ?_
  show rX G E dX12_endPart mX12_endPart 0 [some (.ref E.1)] [] S _
  exact rX.cutz (b_endPart_0 (X := fun F => F = f_endPart N S) hG (fun S' h => ⟨rfl, h⟩) ok rfl) ⟨rfl, trivial⟩
/-! partFrom -/
def F_partFrom_16 (N : Nat) (s0 : Int32) (S : rS) : Int32 := s0
def O_partFrom_16 (N : Nat) (s0 : Int32) (S : rS) : Prop := True
set_option maxHeartbeats 4000000 in
theorem b_partFrom_16 {G : zG} {E : rE} {S : rS} {N : Nat} {Q : Option Value → rS → Prop} {X : Int32 → Prop} (hG : zOK G) (hR : ∀ v, X v → Q (some (.int v)) S) {s0 : Int32} (ok : O_partFrom_16 N s0 S) (hx : X (F_partFrom_16 N s0 S)) : rX G E dX12_partFrom mX12_partFrom 16 [none, none] [.int s0] S Q := by
  unfold O_partFrom_16 at ok
  unfold F_partFrom_16 at hx
  exact r_ireturn rfl rfl dX12_partFrom_16 (hR _ hx)
def F_partFrom_0 (N : Nat) (x1 : Int32) (S : rS) : Int32 := (if x1 = 0 then (F_partFrom_16 N (nI 0) S) else (F_partFrom_16 N (S.2.1 16 (x1 - (nI 1)).toNatClampNeg) S))
def O_partFrom_0 (N : Nat) (x1 : Int32) (S : rS) : Prop := ((x1 = 0 → O_partFrom_16 N (nI 0) S) ∧ (¬ x1 = 0 → (vp_in (x1 - (nI 1)) 68) ∧ O_partFrom_16 N (S.2.1 16 (x1 - (nI 1)).toNatClampNeg) S))
set_option maxHeartbeats 4000000 in
theorem b_partFrom_0 {G : zG} {E : rE} {S : rS} {N : Nat} {Q : Option Value → rS → Prop} {X : Int32 → Prop} (hG : zOK G) (hR : ∀ v, X v → Q (some (.int v)) S) {x1 : Int32} (ok : O_partFrom_0 N x1 S) (hx : X (F_partFrom_0 N x1 S)) : rX G E dX12_partFrom mX12_partFrom 0 [some (.ref E.1), some (.int x1)] [] S Q := by
  unfold O_partFrom_0 at ok
  unfold F_partFrom_0 at hx
  refine r_iload_n dX12_partFrom_0 rfl rfl ?_
  refine r_if_ne (tgt := 8) dX12_partFrom_1 (by decide) (fun c_1 => ?_) (fun c_1 => ?_)
  · have ok := ok.2 c_1
    have hx := xif_n c_1 hx
    refine r_aload_n dX12_partFrom_8 rfl rfl ?_
    refine r_getA 16 fX12_81 (by decide) (by decide) dX12_partFrom_9 ?_
    refine r_iload_n dX12_partFrom_12 rfl rfl ?_
    refine r_iconst (v := nI 1) dX12_partFrom_13 (by decide) ?_
    refine r_isub dX12_partFrom_14 ?_
    refine r_iald (by decide) (by decide) dX12_partFrom_15 ok.1 ?_
    have ok := ok.2
    exact rX.cutz (b_partFrom_16 hG hR ok hx) trivial
  · have ok := ok.1 c_1
    have hx := xif_p c_1 hx
    refine r_iconst (v := nI 0) dX12_partFrom_4 (by decide) ?_
    refine r_goto (tgt := 16) dX12_partFrom_5 (by decide) ?_
    exact rX.cutz (b_partFrom_16 hG hR ok hx) trivial
def f_partFrom (N : Nat) (S : rS) (x1 : Int32) : Int32 := F_partFrom_0 N x1 S
def o_partFrom (N : Nat) (S : rS) (x1 : Int32) : Prop := O_partFrom_0 N x1 S
set_option maxHeartbeats 4000000 in
theorem rc_X12_partFrom {G : zG} {E : rE} {S : rS} {N : Nat} (hG : zOK G) {x1 : Int32} (ok : o_partFrom N S x1) : rCi G E dX12_partFrom mX12_partFrom [.ref E.1, .int x1] S (fun v S' => v = f_partFrom N S x1 ∧ S' = S) := by
  refine rC.ofX rfl (Nat.le_of_ble_eq_true rfl) ?_
  show rX G E dX12_partFrom mX12_partFrom 0 [some (.ref E.1), some (.int x1)] [] S _
  exact rX.cutz (b_partFrom_0 (X := fun F => F = f_partFrom N S x1) hG (fun v h => ⟨v, rfl, h, rfl⟩) ok rfl) ⟨rfl, rfl, trivial⟩
/-! keepLeaf -/
def F_keepLeaf_32 (N : Nat)  (S : rS) : rS := S
def O_keepLeaf_32 (N : Nat)  (S : rS) : Prop := True
set_option maxHeartbeats 4000000 in
theorem b_keepLeaf_32 {G : zG} {E : rE} {S : rS} {N : Nat} {Q : Option Value → rS → Prop} {X : rS → Prop} (hG : zOK G) (hR : ∀ S', X S' → Q none S') (ok : O_keepLeaf_32 N S) (hx : X (F_keepLeaf_32 N S)) : rX G E dX12_keepLeaf mX12_keepLeaf 32 [none, none, none] [] S Q := by
  unfold O_keepLeaf_32 at ok
  unfold F_keepLeaf_32 at hx
  exact r_return rfl dX12_keepLeaf_32 (hR _ hx)
def B_keepLeaf_6 (N : Nat) (rec : Int32 → Int32 → rS → Nat × rS) (x1 : Int32) (x2 : Int32) (S : rS) : Nat × rS := (if (nI 4) ≤ x2 then (0, S) else (rec x1 (x2 + nI 1) (rsL S 18 (((nI 4) * x1) + x2).toNatClampNeg (f_sum N S x2))))
def OB_keepLeaf_6 (N : Nat) (rok : Int32 → Int32 → rS → Prop) (x1 : Int32) (x2 : Int32) (S : rS) : Prop := (((nI 4) ≤ x2 → True) ∧ (¬ (nI 4) ≤ x2 → (o_sum N S x2) ∧ (vp_in (((nI 4) * x1) + x2) 272) ∧ rok x1 (x2 + nI 1) (rsL S 18 (((nI 4) * x1) + x2).toNatClampNeg (f_sum N S x2))))
set_option maxHeartbeats 4000000 in
theorem bb_keepLeaf_6 {G : zG} {E : rE} {S : rS} {N : Nat} {Q : Option Value → rS → Prop} {X : Nat × rS → Prop} (hG : zOK G) (hX0 : ∀ (S' : rS), X (0, S') → rX G E dX12_keepLeaf mX12_keepLeaf 32 [none, none, none] [] S' Q) {rec : Int32 → Int32 → rS → Nat × rS} {rok : Int32 → Int32 → rS → Prop} (hrec : ∀ (x1 : Int32) (x2 : Int32) (S : rS), rok x1 x2 S → X (rec x1 x2 S) → rX G E dX12_keepLeaf mX12_keepLeaf 6 [some (.ref E.1), some (.int x1), some (.int x2)] [] S Q) {x1 : Int32} {x2 : Int32} (ok : OB_keepLeaf_6 N rok x1 x2 S) (hx : X (B_keepLeaf_6 N rec x1 x2 S)) : rX G E dX12_keepLeaf mX12_keepLeaf 6 [some (.ref E.1), some (.int x1), some (.int x2)] [] S Q := by
  unfold OB_keepLeaf_6 at ok
  unfold B_keepLeaf_6 at hx
  refine r_iload_n dX12_keepLeaf_6 rfl rfl ?_
  refine r_iconst (v := nI 4) dX12_keepLeaf_7 (by decide) ?_
  refine r_icmp_ge (tgt := 32) dX12_keepLeaf_8 (by decide) (fun c_8 => ?_) (fun c_8 => ?_)
  · have ok := ok.1 c_8
    have hx := xif_p c_8 hx
    exact rX.cutz (hX0 S hx) trivial
  · have ok := ok.2 c_8
    have hx := xif_n c_8 hx
    refine r_aload_n dX12_keepLeaf_11 rfl rfl ?_
    refine r_getA 18 fX12_87 (by decide) (by decide) dX12_keepLeaf_12 ?_
    refine r_iconst (v := nI 4) dX12_keepLeaf_15 (by decide) ?_
    refine r_iload_n dX12_keepLeaf_16 rfl rfl ?_
    refine r_imul dX12_keepLeaf_17 ?_
    refine r_iload_n dX12_keepLeaf_18 rfl rfl ?_
    refine r_iadd dX12_keepLeaf_19 ?_
    refine r_aload_n dX12_keepLeaf_20 rfl rfl ?_
    refine r_iload_n dX12_keepLeaf_21 rfl rfl ?_
    refine r_V1l (y' := mX12_sum) dX12_keepLeaf_22 lX12_74 kX12_sum ⟨by decide, by decide⟩ rfl (Nat.le_of_ble_eq_true rfl) (rc_X12_sum hG ok.1) (fun v_22 S_22 h_22 => ?_)
    obtain ⟨rfl, hS_22⟩ := h_22
    have hS_22 := hS_22.symm
    subst hS_22
    have ok := ok.2
    refine r_last (by decide) (by decide) dX12_keepLeaf_25 ok.1 ?_
    have ok := ok.2
    refine r_iinc_2 (v := (x2 + nI 1)) dX12_keepLeaf_26 rfl (by first | rfl | (congr 1)) (by decide) rfl ?_
    refine r_goto (tgt := 6) dX12_keepLeaf_29 (by decide) ?_
    exact rX.cutz (hrec _ _ (rsL S 18 (((nI 4) * x1) + x2).toNatClampNeg (f_sum N S x2)) ok hx) ⟨rfl, rfl, rfl, trivial⟩
def L_keepLeaf_6 (N : Nat) : Nat → Int32 → Int32 → rS → Nat × rS
  | 0, x1, x2, S => (0, S)
  | n + 1, x1, x2, S => B_keepLeaf_6 N (L_keepLeaf_6 N n) x1 x2 S
def OL_keepLeaf_6 (N : Nat) : Nat → Int32 → Int32 → rS → Prop
  | 0, _, _, _ => False
  | n + 1, x1, x2, S => OB_keepLeaf_6 N (OL_keepLeaf_6 N n) x1 x2 S
set_option maxHeartbeats 4000000 in
theorem l_keepLeaf_6 {G : zG} {E : rE} {N : Nat} {Q : Option Value → rS → Prop} {X : Nat × rS → Prop} (hG : zOK G) (hX0 : ∀ (S' : rS), X (0, S') → rX G E dX12_keepLeaf mX12_keepLeaf 32 [none, none, none] [] S' Q) : ∀ (n : Nat) (x1 : Int32) (x2 : Int32) (S : rS), OL_keepLeaf_6 N n x1 x2 S → X (L_keepLeaf_6 N n x1 x2 S) → rX G E dX12_keepLeaf mX12_keepLeaf 6 [some (.ref E.1), some (.int x1), some (.int x2)] [] S Q := by
  intro n
  induction n with
  | zero => intro x1 x2 S ok; exact absurd ok id
  | succ n ih =>
    intro x1 x2 S ok hx
    exact bb_keepLeaf_6 hG hX0 (rec := L_keepLeaf_6 N n) (rok := OL_keepLeaf_6 N n) (fun x1 x2 S ok hx => ih x1 x2 S ok hx) ok hx
def A_keepLeaf_6 (N : Nat) (x1 : Int32) (x2 : Int32) (S : rS) (z : Nat × rS) : rS := (F_keepLeaf_32 N z.2)
def OA_keepLeaf_6 (N : Nat) (x1 : Int32) (x2 : Int32) (S : rS) (z : Nat × rS) : Prop := O_keepLeaf_32 N z.2
set_option maxHeartbeats 4000000 in
theorem c_keepLeaf_6 {G : zG} {E : rE} {S : rS} {N : Nat} {Q : Option Value → rS → Prop} {X : rS → Prop} (hG : zOK G) (hR : ∀ S', X S' → Q none S') {x1 : Int32} {x2 : Int32} (ok : OL_keepLeaf_6 N N x1 x2 S ∧ OA_keepLeaf_6 N x1 x2 S (L_keepLeaf_6 N N x1 x2 S)) (hx : X (A_keepLeaf_6 N x1 x2 S (L_keepLeaf_6 N N x1 x2 S))) : rX G E dX12_keepLeaf mX12_keepLeaf 6 [some (.ref E.1), some (.int x1), some (.int x2)] [] S Q := by
  refine l_keepLeaf_6 hG ?_ N x1 x2 S ok.1 (X := fun z => OA_keepLeaf_6 N x1 x2 S z ∧ X (A_keepLeaf_6 N x1 x2 S z)) ⟨ok.2, hx⟩
  · intro S' hz
    obtain ⟨ok, hx⟩ := hz
    unfold OA_keepLeaf_6 at ok
    unfold A_keepLeaf_6 at hx
    exact rX.cutz (b_keepLeaf_32 hG hR ok hx) trivial
def F_keepLeaf_4 (N : Nat) (x1 : Int32) (S : rS) : rS := (A_keepLeaf_6 N x1 (nI 0) S (L_keepLeaf_6 N N x1 (nI 0) S))
def O_keepLeaf_4 (N : Nat) (x1 : Int32) (S : rS) : Prop := (OL_keepLeaf_6 N N x1 (nI 0) S ∧ OA_keepLeaf_6 N x1 (nI 0) S (L_keepLeaf_6 N N x1 (nI 0) S))
set_option maxHeartbeats 4000000 in
theorem b_keepLeaf_4 {G : zG} {E : rE} {S : rS} {N : Nat} {Q : Option Value → rS → Prop} {X : rS → Prop} (hG : zOK G) (hR : ∀ S', X S' → Q none S') {x1 : Int32} (ok : O_keepLeaf_4 N x1 S) (hx : X (F_keepLeaf_4 N x1 S)) : rX G E dX12_keepLeaf mX12_keepLeaf 4 [some (.ref E.1), some (.int x1), none] [] S Q := by
  unfold O_keepLeaf_4 at ok
  unfold F_keepLeaf_4 at hx
  refine r_iconst (v := nI 0) dX12_keepLeaf_4 (by decide) ?_
  refine r_istore_2 dX12_keepLeaf_5 (by decide) rfl ?_
  exact rX.cutz (c_keepLeaf_6 hG hR ok hx) ⟨rfl, rfl, rfl, trivial⟩
def F_keepLeaf_0 (N : Nat) (x1 : Int32) (S : rS) : rS := (F_keepLeaf_4 N x1 (f_digest N S))
def O_keepLeaf_0 (N : Nat) (x1 : Int32) (S : rS) : Prop := (o_digest N S) ∧ O_keepLeaf_4 N x1 (f_digest N S)
set_option maxHeartbeats 4000000 in
theorem b_keepLeaf_0 {G : zG} {E : rE} {S : rS} {N : Nat} {Q : Option Value → rS → Prop} {X : rS → Prop} (hG : zOK G) (hR : ∀ S', X S' → Q none S') {x1 : Int32} (ok : O_keepLeaf_0 N x1 S) (hx : X (F_keepLeaf_0 N x1 S)) : rX G E dX12_keepLeaf mX12_keepLeaf 0 [some (.ref E.1), some (.int x1), none] [] S Q := by
  unfold O_keepLeaf_0 at ok
  unfold F_keepLeaf_0 at hx
  refine r_aload_n dX12_keepLeaf_0 rfl rfl ?_
  refine r_V0v (y' := mX12_digest) dX12_keepLeaf_1 lX12_70 kX12_digest ⟨by decide, by decide⟩ rfl (Nat.le_of_ble_eq_true rfl) (rc_X12_digest hG ok.1) (fun S_1 h_1 => ?_)
  subst h_1
  have ok := ok.2
  exact rX.cutz (b_keepLeaf_4 hG hR ok hx) ⟨rfl, rfl, trivial⟩
def f_keepLeaf (N : Nat) (S : rS) (x1 : Int32) : rS := F_keepLeaf_0 N x1 S
def o_keepLeaf (N : Nat) (S : rS) (x1 : Int32) : Prop := O_keepLeaf_0 N x1 S
set_option maxHeartbeats 4000000 in
theorem rc_X12_keepLeaf {G : zG} {E : rE} {S : rS} {N : Nat} (hG : zOK G) {x1 : Int32} (ok : o_keepLeaf N S x1) : rCv G E dX12_keepLeaf mX12_keepLeaf [.ref E.1, .int x1] S (fun S' => S' = f_keepLeaf N S x1) := by
  refine rC.ofX rfl (Nat.le_of_ble_eq_true rfl) ?_
  show rX G E dX12_keepLeaf mX12_keepLeaf 0 [some (.ref E.1), some (.int x1), none] [] S _
  exact rX.cutz (b_keepLeaf_0 (X := fun F => F = f_keepLeaf N S x1) hG (fun S' h => ⟨rfl, h⟩) ok rfl) ⟨rfl, rfl, trivial⟩
/-! leavesOf -/
def F_leavesOf_83 (N : Nat)  (S : rS) : rS := S
def O_leavesOf_83 (N : Nat)  (S : rS) : Prop := True
set_option maxHeartbeats 4000000 in
theorem b_leavesOf_83 {G : zG} {E : rE} {S : rS} {N : Nat} {Q : Option Value → rS → Prop} {X : rS → Prop} (hG : zOK G) (hR : ∀ S', X S' → Q none S') (ok : O_leavesOf_83 N S) (hx : X (F_leavesOf_83 N S)) : rX G E dX12_leavesOf mX12_leavesOf 83 [none, none, none] [] S Q := by
  unfold O_leavesOf_83 at ok
  unfold F_leavesOf_83 at hx
  exact r_return rfl dX12_leavesOf_83 (hR _ hx)
def F_leavesOf_77 (N : Nat) (rec : Int32 → rS → Nat × rS) (x1 : Int32) (S : rS) : Nat × rS := (rec (x1 + nI 1) S)
def O_leavesOf_77 (N : Nat) (rok : Int32 → rS → Prop) (x1 : Int32) (S : rS) : Prop := rok (x1 + nI 1) S
set_option maxHeartbeats 4000000 in
theorem b_leavesOf_77 {G : zG} {E : rE} {S : rS} {N : Nat} {Q : Option Value → rS → Prop} {X : Nat × rS → Prop} (hG : zOK G) (hX0 : ∀ (S' : rS), X (0, S') → rX G E dX12_leavesOf mX12_leavesOf 83 [none, none, none] [] S' Q) {rec : Int32 → rS → Nat × rS} {rok : Int32 → rS → Prop} (hrec : ∀ (x1 : Int32) (S : rS), rok x1 S → X (rec x1 S) → rX G E dX12_leavesOf mX12_leavesOf 22 [some (.ref E.1), some (.int x1), none] [] S Q) {x1 : Int32} (ok : O_leavesOf_77 N rok x1 S) (hx : X (F_leavesOf_77 N rec x1 S)) : rX G E dX12_leavesOf mX12_leavesOf 77 [some (.ref E.1), some (.int x1), none] [] S Q := by
  unfold O_leavesOf_77 at ok
  unfold F_leavesOf_77 at hx
  refine r_iinc_1 (v := (x1 + nI 1)) dX12_leavesOf_77 rfl (by first | rfl | (congr 1)) (by decide) rfl ?_
  refine r_goto (tgt := 22) dX12_leavesOf_80 (by decide) ?_
  exact rX.cutz (hrec _ S ok hx) ⟨rfl, rfl, trivial⟩
def F_leavesOf_72 (N : Nat) (rec : Int32 → rS → Nat × rS) (x1 : Int32) (S : rS) : Nat × rS := (F_leavesOf_77 N rec x1 (f_keepLeaf N S x1))
def O_leavesOf_72 (N : Nat) (rok : Int32 → rS → Prop) (x1 : Int32) (S : rS) : Prop := (o_keepLeaf N S x1) ∧ O_leavesOf_77 N rok x1 (f_keepLeaf N S x1)
set_option maxHeartbeats 4000000 in
theorem b_leavesOf_72 {G : zG} {E : rE} {S : rS} {N : Nat} {Q : Option Value → rS → Prop} {X : Nat × rS → Prop} (hG : zOK G) (hX0 : ∀ (S' : rS), X (0, S') → rX G E dX12_leavesOf mX12_leavesOf 83 [none, none, none] [] S' Q) {rec : Int32 → rS → Nat × rS} {rok : Int32 → rS → Prop} (hrec : ∀ (x1 : Int32) (S : rS), rok x1 S → X (rec x1 S) → rX G E dX12_leavesOf mX12_leavesOf 22 [some (.ref E.1), some (.int x1), none] [] S Q) {x1 : Int32} (ok : O_leavesOf_72 N rok x1 S) (hx : X (F_leavesOf_72 N rec x1 S)) : rX G E dX12_leavesOf mX12_leavesOf 72 [some (.ref E.1), some (.int x1), none] [] S Q := by
  unfold O_leavesOf_72 at ok
  unfold F_leavesOf_72 at hx
  refine r_aload_n dX12_leavesOf_72 rfl rfl ?_
  refine r_iload_n dX12_leavesOf_73 rfl rfl ?_
  refine r_V1v (y' := mX12_keepLeaf) dX12_leavesOf_74 lX12_94 kX12_keepLeaf ⟨by decide, by decide⟩ rfl (Nat.le_of_ble_eq_true rfl) (rc_X12_keepLeaf hG ok.1) (fun S_74 h_74 => ?_)
  subst h_74
  have ok := ok.2
  exact rX.cutz (b_leavesOf_77 hG hX0 hrec ok hx) ⟨rfl, rfl, trivial⟩
def F_leavesOf_66 (N : Nat) (rec : Int32 → Int32 → rS → Nat × Int32 × rS) (x1 : Int32) (x2 : Int32) (S : rS) : Nat × Int32 × rS := (rec x1 (x2 + nI 1) S)
def O_leavesOf_66 (N : Nat) (rok : Int32 → Int32 → rS → Prop) (x1 : Int32) (x2 : Int32) (S : rS) : Prop := rok x1 (x2 + nI 1) S
set_option maxHeartbeats 4000000 in
theorem b_leavesOf_66 {G : zG} {E : rE} {S : rS} {N : Nat} {Q : Option Value → rS → Prop} {X : Nat × Int32 × rS → Prop} (hG : zOK G) (hX0 : ∀ (x1 : Int32) (S' : rS), X (0, x1, S') → rX G E dX12_leavesOf mX12_leavesOf 72 [some (.ref E.1), some (.int x1), none] [] S' Q) {rec : Int32 → Int32 → rS → Nat × Int32 × rS} {rok : Int32 → Int32 → rS → Prop} (hrec : ∀ (x1 : Int32) (x2 : Int32) (S : rS), rok x1 x2 S → X (rec x1 x2 S) → rX G E dX12_leavesOf mX12_leavesOf 46 [some (.ref E.1), some (.int x1), some (.int x2)] [] S Q) {x1 : Int32} {x2 : Int32} (ok : O_leavesOf_66 N rok x1 x2 S) (hx : X (F_leavesOf_66 N rec x1 x2 S)) : rX G E dX12_leavesOf mX12_leavesOf 66 [some (.ref E.1), some (.int x1), some (.int x2)] [] S Q := by
  unfold O_leavesOf_66 at ok
  unfold F_leavesOf_66 at hx
  refine r_iinc_2 (v := (x2 + nI 1)) dX12_leavesOf_66 rfl (by first | rfl | (congr 1)) (by decide) rfl ?_
  refine r_goto (tgt := 46) dX12_leavesOf_69 (by decide) ?_
  exact rX.cutz (hrec _ _ S ok hx) ⟨rfl, rfl, rfl, trivial⟩
def B_leavesOf_46 (N : Nat) (rec : Int32 → Int32 → rS → Nat × Int32 × rS) (x1 : Int32) (x2 : Int32) (S : rS) : Nat × Int32 × rS := (if (S.2.1 16 x1.toNatClampNeg) ≤ x2 then (0, x1, S) else (F_leavesOf_66 N rec x1 x2 (f_hashByte N S (S.2.1 15 x2.toNatClampNeg))))
def OB_leavesOf_46 (N : Nat) (rok : Int32 → Int32 → rS → Prop) (x1 : Int32) (x2 : Int32) (S : rS) : Prop := (vp_in x1 68) ∧ (((S.2.1 16 x1.toNatClampNeg) ≤ x2 → True) ∧ (¬ (S.2.1 16 x1.toNatClampNeg) ≤ x2 → (vp_in x2 600) ∧ (o_hashByte N S (S.2.1 15 x2.toNatClampNeg)) ∧ O_leavesOf_66 N rok x1 x2 (f_hashByte N S (S.2.1 15 x2.toNatClampNeg))))
set_option maxHeartbeats 4000000 in
theorem bb_leavesOf_46 {G : zG} {E : rE} {S : rS} {N : Nat} {Q : Option Value → rS → Prop} {X : Nat × Int32 × rS → Prop} (hG : zOK G) (hX0 : ∀ (x1 : Int32) (S' : rS), X (0, x1, S') → rX G E dX12_leavesOf mX12_leavesOf 72 [some (.ref E.1), some (.int x1), none] [] S' Q) {rec : Int32 → Int32 → rS → Nat × Int32 × rS} {rok : Int32 → Int32 → rS → Prop} (hrec : ∀ (x1 : Int32) (x2 : Int32) (S : rS), rok x1 x2 S → X (rec x1 x2 S) → rX G E dX12_leavesOf mX12_leavesOf 46 [some (.ref E.1), some (.int x1), some (.int x2)] [] S Q) {x1 : Int32} {x2 : Int32} (ok : OB_leavesOf_46 N rok x1 x2 S) (hx : X (B_leavesOf_46 N rec x1 x2 S)) : rX G E dX12_leavesOf mX12_leavesOf 46 [some (.ref E.1), some (.int x1), some (.int x2)] [] S Q := by
  unfold OB_leavesOf_46 at ok
  unfold B_leavesOf_46 at hx
  refine r_iload_n dX12_leavesOf_46 rfl rfl ?_
  refine r_aload_n dX12_leavesOf_47 rfl rfl ?_
  refine r_getA 16 fX12_81 (by decide) (by decide) dX12_leavesOf_48 ?_
  refine r_iload_n dX12_leavesOf_51 rfl rfl ?_
  refine r_iald (by decide) (by decide) dX12_leavesOf_52 ok.1 ?_
  have ok := ok.2
  refine r_icmp_ge (tgt := 72) dX12_leavesOf_53 (by decide) (fun c_53 => ?_) (fun c_53 => ?_)
  · have ok := ok.1 c_53
    have hx := xif_p c_53 hx
    exact rX.cutz (hX0 _ S hx) ⟨rfl, rfl, trivial⟩
  · have ok := ok.2 c_53
    have hx := xif_n c_53 hx
    refine r_aload_n dX12_leavesOf_56 rfl rfl ?_
    refine r_aload_n dX12_leavesOf_57 rfl rfl ?_
    refine r_getA 15 fX12_84 (by decide) (by decide) dX12_leavesOf_58 ?_
    refine r_iload_n dX12_leavesOf_61 rfl rfl ?_
    refine r_iald (by decide) (by decide) dX12_leavesOf_62 ok.1 ?_
    have ok := ok.2
    refine r_V1v (y' := mX12_hashByte) dX12_leavesOf_63 lX12_29 kX12_hashByte ⟨by decide, by decide⟩ rfl (Nat.le_of_ble_eq_true rfl) (rc_X12_hashByte hG ok.1) (fun S_63 h_63 => ?_)
    subst h_63
    have ok := ok.2
    exact rX.cutz (b_leavesOf_66 hG hX0 hrec ok hx) ⟨rfl, rfl, rfl, trivial⟩
def L_leavesOf_46 (N : Nat) : Nat → Int32 → Int32 → rS → Nat × Int32 × rS
  | 0, x1, x2, S => (0, 0, S)
  | n + 1, x1, x2, S => B_leavesOf_46 N (L_leavesOf_46 N n) x1 x2 S
def OL_leavesOf_46 (N : Nat) : Nat → Int32 → Int32 → rS → Prop
  | 0, _, _, _ => False
  | n + 1, x1, x2, S => OB_leavesOf_46 N (OL_leavesOf_46 N n) x1 x2 S
set_option maxHeartbeats 4000000 in
theorem l_leavesOf_46 {G : zG} {E : rE} {N : Nat} {Q : Option Value → rS → Prop} {X : Nat × Int32 × rS → Prop} (hG : zOK G) (hX0 : ∀ (x1 : Int32) (S' : rS), X (0, x1, S') → rX G E dX12_leavesOf mX12_leavesOf 72 [some (.ref E.1), some (.int x1), none] [] S' Q) : ∀ (n : Nat) (x1 : Int32) (x2 : Int32) (S : rS), OL_leavesOf_46 N n x1 x2 S → X (L_leavesOf_46 N n x1 x2 S) → rX G E dX12_leavesOf mX12_leavesOf 46 [some (.ref E.1), some (.int x1), some (.int x2)] [] S Q := by
  intro n
  induction n with
  | zero => intro x1 x2 S ok; exact absurd ok id
  | succ n ih =>
    intro x1 x2 S ok hx
    exact bb_leavesOf_46 hG hX0 (rec := L_leavesOf_46 N n) (rok := OL_leavesOf_46 N n) (fun x1 x2 S ok hx => ih x1 x2 S ok hx) ok hx
def A_leavesOf_46 (N : Nat) (rec : Int32 → rS → Nat × rS) (x1 : Int32) (x2 : Int32) (S : rS) (z : Nat × Int32 × rS) : Nat × rS := (F_leavesOf_72 N rec (z.2.1) z.2.2)
def OA_leavesOf_46 (N : Nat) (rok : Int32 → rS → Prop) (x1 : Int32) (x2 : Int32) (S : rS) (z : Nat × Int32 × rS) : Prop := O_leavesOf_72 N rok (z.2.1) z.2.2
set_option maxHeartbeats 4000000 in
theorem c_leavesOf_46 {G : zG} {E : rE} {S : rS} {N : Nat} {Q : Option Value → rS → Prop} {X : Nat × rS → Prop} (hG : zOK G) (hX0 : ∀ (S' : rS), X (0, S') → rX G E dX12_leavesOf mX12_leavesOf 83 [none, none, none] [] S' Q) {rec : Int32 → rS → Nat × rS} {rok : Int32 → rS → Prop} (hrec : ∀ (x1 : Int32) (S : rS), rok x1 S → X (rec x1 S) → rX G E dX12_leavesOf mX12_leavesOf 22 [some (.ref E.1), some (.int x1), none] [] S Q) {x1 : Int32} {x2 : Int32} (ok : OL_leavesOf_46 N N x1 x2 S ∧ OA_leavesOf_46 N rok x1 x2 S (L_leavesOf_46 N N x1 x2 S)) (hx : X (A_leavesOf_46 N rec x1 x2 S (L_leavesOf_46 N N x1 x2 S))) : rX G E dX12_leavesOf mX12_leavesOf 46 [some (.ref E.1), some (.int x1), some (.int x2)] [] S Q := by
  refine l_leavesOf_46 hG ?_ N x1 x2 S ok.1 (X := fun z => OA_leavesOf_46 N rok x1 x2 S z ∧ X (A_leavesOf_46 N rec x1 x2 S z)) ⟨ok.2, hx⟩
  · intro x1' S' hz
    obtain ⟨ok, hx⟩ := hz
    unfold OA_leavesOf_46 at ok
    unfold A_leavesOf_46 at hx
    exact rX.cutz (b_leavesOf_72 hG hX0 hrec ok hx) ⟨rfl, rfl, trivial⟩
def F_leavesOf_40 (N : Nat) (rec : Int32 → rS → Nat × rS) (x1 : Int32) (S : rS) : Nat × rS := (A_leavesOf_46 N rec x1 (f_partFrom N S x1) S (L_leavesOf_46 N N x1 (f_partFrom N S x1) S))
def O_leavesOf_40 (N : Nat) (rok : Int32 → rS → Prop) (x1 : Int32) (S : rS) : Prop := (o_partFrom N S x1) ∧ (OL_leavesOf_46 N N x1 (f_partFrom N S x1) S ∧ OA_leavesOf_46 N rok x1 (f_partFrom N S x1) S (L_leavesOf_46 N N x1 (f_partFrom N S x1) S))
set_option maxHeartbeats 4000000 in
theorem b_leavesOf_40 {G : zG} {E : rE} {S : rS} {N : Nat} {Q : Option Value → rS → Prop} {X : Nat × rS → Prop} (hG : zOK G) (hX0 : ∀ (S' : rS), X (0, S') → rX G E dX12_leavesOf mX12_leavesOf 83 [none, none, none] [] S' Q) {rec : Int32 → rS → Nat × rS} {rok : Int32 → rS → Prop} (hrec : ∀ (x1 : Int32) (S : rS), rok x1 S → X (rec x1 S) → rX G E dX12_leavesOf mX12_leavesOf 22 [some (.ref E.1), some (.int x1), none] [] S Q) {x1 : Int32} (ok : O_leavesOf_40 N rok x1 S) (hx : X (F_leavesOf_40 N rec x1 S)) : rX G E dX12_leavesOf mX12_leavesOf 40 [some (.ref E.1), some (.int x1), none] [] S Q := by
  unfold O_leavesOf_40 at ok
  unfold F_leavesOf_40 at hx
  refine r_aload_n dX12_leavesOf_40 rfl rfl ?_
  refine r_iload_n dX12_leavesOf_41 rfl rfl ?_
  refine r_V1i (y' := mX12_partFrom) dX12_leavesOf_42 lX12_90 kX12_partFrom ⟨by decide, by decide⟩ rfl (Nat.le_of_ble_eq_true rfl) (rc_X12_partFrom hG ok.1) (fun v_42 S_42 h_42 => ?_)
  obtain ⟨rfl, hS_42⟩ := h_42
  have hS_42 := hS_42.symm
  subst hS_42
  have ok := ok.2
  refine r_istore_2 dX12_leavesOf_45 (by decide) rfl ?_
  exact rX.cutz (c_leavesOf_46 hG hX0 hrec ok hx) ⟨rfl, rfl, rfl, trivial⟩
def B_leavesOf_22 (N : Nat) (rec : Int32 → rS → Nat × rS) (x1 : Int32) (S : rS) : Nat × rS := (if (S.1 17) ≤ x1 then (0, S) else (F_leavesOf_40 N rec x1 (f_hashByte N (rsI S 7 (nI 0)) (nI 0))))
def OB_leavesOf_22 (N : Nat) (rok : Int32 → rS → Prop) (x1 : Int32) (S : rS) : Prop := (((S.1 17) ≤ x1 → True) ∧ (¬ (S.1 17) ≤ x1 → (o_hashByte N (rsI S 7 (nI 0)) (nI 0)) ∧ O_leavesOf_40 N rok x1 (f_hashByte N (rsI S 7 (nI 0)) (nI 0))))
set_option maxHeartbeats 4000000 in
theorem bb_leavesOf_22 {G : zG} {E : rE} {S : rS} {N : Nat} {Q : Option Value → rS → Prop} {X : Nat × rS → Prop} (hG : zOK G) (hX0 : ∀ (S' : rS), X (0, S') → rX G E dX12_leavesOf mX12_leavesOf 83 [none, none, none] [] S' Q) {rec : Int32 → rS → Nat × rS} {rok : Int32 → rS → Prop} (hrec : ∀ (x1 : Int32) (S : rS), rok x1 S → X (rec x1 S) → rX G E dX12_leavesOf mX12_leavesOf 22 [some (.ref E.1), some (.int x1), none] [] S Q) {x1 : Int32} (ok : OB_leavesOf_22 N rok x1 S) (hx : X (B_leavesOf_22 N rec x1 S)) : rX G E dX12_leavesOf mX12_leavesOf 22 [some (.ref E.1), some (.int x1), none] [] S Q := by
  unfold OB_leavesOf_22 at ok
  unfold B_leavesOf_22 at hx
  refine r_iload_n dX12_leavesOf_22 rfl rfl ?_
  refine r_aload_n dX12_leavesOf_23 rfl rfl ?_
  refine r_getI 17 fX12_78 (by decide) (by decide) dX12_leavesOf_24 ?_
  refine r_icmp_ge (tgt := 83) dX12_leavesOf_27 (by decide) (fun c_27 => ?_) (fun c_27 => ?_)
  · have ok := ok.1 c_27
    have hx := xif_p c_27 hx
    exact rX.cutz (hX0 S hx) trivial
  · have ok := ok.2 c_27
    have hx := xif_n c_27 hx
    refine r_aload_n dX12_leavesOf_30 rfl rfl ?_
    refine r_iconst (v := nI 0) dX12_leavesOf_31 (by decide) ?_
    refine r_putI 7 fX12_25 (by decide) (by decide) rfl rfl rfl dX12_leavesOf_32 ?_
    refine r_aload_n dX12_leavesOf_35 rfl rfl ?_
    refine r_iconst (v := nI 0) dX12_leavesOf_36 (by decide) ?_
    refine r_V1v (y' := mX12_hashByte) dX12_leavesOf_37 lX12_29 kX12_hashByte ⟨by decide, by decide⟩ rfl (Nat.le_of_ble_eq_true rfl) (rc_X12_hashByte hG ok.1) (fun S_37 h_37 => ?_)
    subst h_37
    have ok := ok.2
    exact rX.cutz (b_leavesOf_40 hG hX0 hrec ok hx) ⟨rfl, rfl, trivial⟩
def L_leavesOf_22 (N : Nat) : Nat → Int32 → rS → Nat × rS
  | 0, x1, S => (0, S)
  | n + 1, x1, S => B_leavesOf_22 N (L_leavesOf_22 N n) x1 S
def OL_leavesOf_22 (N : Nat) : Nat → Int32 → rS → Prop
  | 0, _, _ => False
  | n + 1, x1, S => OB_leavesOf_22 N (OL_leavesOf_22 N n) x1 S
set_option maxHeartbeats 4000000 in
theorem l_leavesOf_22 {G : zG} {E : rE} {N : Nat} {Q : Option Value → rS → Prop} {X : Nat × rS → Prop} (hG : zOK G) (hX0 : ∀ (S' : rS), X (0, S') → rX G E dX12_leavesOf mX12_leavesOf 83 [none, none, none] [] S' Q) : ∀ (n : Nat) (x1 : Int32) (S : rS), OL_leavesOf_22 N n x1 S → X (L_leavesOf_22 N n x1 S) → rX G E dX12_leavesOf mX12_leavesOf 22 [some (.ref E.1), some (.int x1), none] [] S Q := by
  intro n
  induction n with
  | zero => intro x1 S ok; exact absurd ok id
  | succ n ih =>
    intro x1 S ok hx
    exact bb_leavesOf_22 hG hX0 (rec := L_leavesOf_22 N n) (rok := OL_leavesOf_22 N n) (fun x1 S ok hx => ih x1 S ok hx) ok hx
def A_leavesOf_22 (N : Nat) (x1 : Int32) (S : rS) (z : Nat × rS) : rS := (F_leavesOf_83 N z.2)
def OA_leavesOf_22 (N : Nat) (x1 : Int32) (S : rS) (z : Nat × rS) : Prop := O_leavesOf_83 N z.2
set_option maxHeartbeats 4000000 in
theorem c_leavesOf_22 {G : zG} {E : rE} {S : rS} {N : Nat} {Q : Option Value → rS → Prop} {X : rS → Prop} (hG : zOK G) (hR : ∀ S', X S' → Q none S') {x1 : Int32} (ok : OL_leavesOf_22 N N x1 S ∧ OA_leavesOf_22 N x1 S (L_leavesOf_22 N N x1 S)) (hx : X (A_leavesOf_22 N x1 S (L_leavesOf_22 N N x1 S))) : rX G E dX12_leavesOf mX12_leavesOf 22 [some (.ref E.1), some (.int x1), none] [] S Q := by
  refine l_leavesOf_22 hG ?_ N x1 S ok.1 (X := fun z => OA_leavesOf_22 N x1 S z ∧ X (A_leavesOf_22 N x1 S z)) ⟨ok.2, hx⟩
  · intro S' hz
    obtain ⟨ok, hx⟩ := hz
    unfold OA_leavesOf_22 at ok
    unfold A_leavesOf_22 at hx
    exact rX.cutz (b_leavesOf_83 hG hR ok hx) trivial
def F_leavesOf_20 (N : Nat)  (S : rS) : rS := (A_leavesOf_22 N (nI 0) S (L_leavesOf_22 N N (nI 0) S))
def O_leavesOf_20 (N : Nat)  (S : rS) : Prop := (OL_leavesOf_22 N N (nI 0) S ∧ OA_leavesOf_22 N (nI 0) S (L_leavesOf_22 N N (nI 0) S))
set_option maxHeartbeats 4000000 in
theorem b_leavesOf_20 {G : zG} {E : rE} {S : rS} {N : Nat} {Q : Option Value → rS → Prop} {X : rS → Prop} (hG : zOK G) (hR : ∀ S', X S' → Q none S') (ok : O_leavesOf_20 N S) (hx : X (F_leavesOf_20 N S)) : rX G E dX12_leavesOf mX12_leavesOf 20 [some (.ref E.1), none, none] [] S Q := by
  unfold O_leavesOf_20 at ok
  unfold F_leavesOf_20 at hx
  refine r_iconst (v := nI 0) dX12_leavesOf_20 (by decide) ?_
  refine r_istore_1 dX12_leavesOf_21 (by decide) rfl ?_
  exact rX.cutz (c_leavesOf_22 hG hR ok hx) ⟨rfl, rfl, trivial⟩
def B_leavesOf_2 (N : Nat) (rec : Int32 → rS → Nat × rS) (x1 : Int32) (S : rS) : Nat × rS := (if (nI 4) ≤ x1 then (0, S) else (rec (x1 + nI 1) (rsL S 18 x1.toNatClampNeg (0 : Int64))))
def OB_leavesOf_2 (N : Nat) (rok : Int32 → rS → Prop) (x1 : Int32) (S : rS) : Prop := (((nI 4) ≤ x1 → True) ∧ (¬ (nI 4) ≤ x1 → (vp_in x1 272) ∧ rok (x1 + nI 1) (rsL S 18 x1.toNatClampNeg (0 : Int64))))
set_option maxHeartbeats 4000000 in
theorem bb_leavesOf_2 {G : zG} {E : rE} {S : rS} {N : Nat} {Q : Option Value → rS → Prop} {X : Nat × rS → Prop} (hG : zOK G) (hX0 : ∀ (S' : rS), X (0, S') → rX G E dX12_leavesOf mX12_leavesOf 20 [some (.ref E.1), none, none] [] S' Q) {rec : Int32 → rS → Nat × rS} {rok : Int32 → rS → Prop} (hrec : ∀ (x1 : Int32) (S : rS), rok x1 S → X (rec x1 S) → rX G E dX12_leavesOf mX12_leavesOf 2 [some (.ref E.1), some (.int x1), none] [] S Q) {x1 : Int32} (ok : OB_leavesOf_2 N rok x1 S) (hx : X (B_leavesOf_2 N rec x1 S)) : rX G E dX12_leavesOf mX12_leavesOf 2 [some (.ref E.1), some (.int x1), none] [] S Q := by
  unfold OB_leavesOf_2 at ok
  unfold B_leavesOf_2 at hx
  refine r_iload_n dX12_leavesOf_2 rfl rfl ?_
  refine r_iconst (v := nI 4) dX12_leavesOf_3 (by decide) ?_
  refine r_icmp_ge (tgt := 20) dX12_leavesOf_4 (by decide) (fun c_4 => ?_) (fun c_4 => ?_)
  · have ok := ok.1 c_4
    have hx := xif_p c_4 hx
    exact rX.cutz (hX0 S hx) ⟨rfl, trivial⟩
  · have ok := ok.2 c_4
    have hx := xif_n c_4 hx
    refine r_aload_n dX12_leavesOf_7 rfl rfl ?_
    refine r_getA 18 fX12_87 (by decide) (by decide) dX12_leavesOf_8 ?_
    refine r_iload_n dX12_leavesOf_11 rfl rfl ?_
    refine r_lconst (v := 0) dX12_leavesOf_12 rfl ?_
    refine r_last (by decide) (by decide) dX12_leavesOf_13 ok.1 ?_
    have ok := ok.2
    refine r_iinc_1 (v := (x1 + nI 1)) dX12_leavesOf_14 rfl (by first | rfl | (congr 1)) (by decide) rfl ?_
    refine r_goto (tgt := 2) dX12_leavesOf_17 (by decide) ?_
    exact rX.cutz (hrec _ (rsL S 18 x1.toNatClampNeg (0 : Int64)) ok hx) ⟨rfl, rfl, trivial⟩
def L_leavesOf_2 (N : Nat) : Nat → Int32 → rS → Nat × rS
  | 0, x1, S => (0, S)
  | n + 1, x1, S => B_leavesOf_2 N (L_leavesOf_2 N n) x1 S
def OL_leavesOf_2 (N : Nat) : Nat → Int32 → rS → Prop
  | 0, _, _ => False
  | n + 1, x1, S => OB_leavesOf_2 N (OL_leavesOf_2 N n) x1 S
set_option maxHeartbeats 4000000 in
theorem l_leavesOf_2 {G : zG} {E : rE} {N : Nat} {Q : Option Value → rS → Prop} {X : Nat × rS → Prop} (hG : zOK G) (hX0 : ∀ (S' : rS), X (0, S') → rX G E dX12_leavesOf mX12_leavesOf 20 [some (.ref E.1), none, none] [] S' Q) : ∀ (n : Nat) (x1 : Int32) (S : rS), OL_leavesOf_2 N n x1 S → X (L_leavesOf_2 N n x1 S) → rX G E dX12_leavesOf mX12_leavesOf 2 [some (.ref E.1), some (.int x1), none] [] S Q := by
  intro n
  induction n with
  | zero => intro x1 S ok; exact absurd ok id
  | succ n ih =>
    intro x1 S ok hx
    exact bb_leavesOf_2 hG hX0 (rec := L_leavesOf_2 N n) (rok := OL_leavesOf_2 N n) (fun x1 S ok hx => ih x1 S ok hx) ok hx
def A_leavesOf_2 (N : Nat) (x1 : Int32) (S : rS) (z : Nat × rS) : rS := (F_leavesOf_20 N z.2)
def OA_leavesOf_2 (N : Nat) (x1 : Int32) (S : rS) (z : Nat × rS) : Prop := O_leavesOf_20 N z.2
set_option maxHeartbeats 4000000 in
theorem c_leavesOf_2 {G : zG} {E : rE} {S : rS} {N : Nat} {Q : Option Value → rS → Prop} {X : rS → Prop} (hG : zOK G) (hR : ∀ S', X S' → Q none S') {x1 : Int32} (ok : OL_leavesOf_2 N N x1 S ∧ OA_leavesOf_2 N x1 S (L_leavesOf_2 N N x1 S)) (hx : X (A_leavesOf_2 N x1 S (L_leavesOf_2 N N x1 S))) : rX G E dX12_leavesOf mX12_leavesOf 2 [some (.ref E.1), some (.int x1), none] [] S Q := by
  refine l_leavesOf_2 hG ?_ N x1 S ok.1 (X := fun z => OA_leavesOf_2 N x1 S z ∧ X (A_leavesOf_2 N x1 S z)) ⟨ok.2, hx⟩
  · intro S' hz
    obtain ⟨ok, hx⟩ := hz
    unfold OA_leavesOf_2 at ok
    unfold A_leavesOf_2 at hx
    exact rX.cutz (b_leavesOf_20 hG hR ok hx) ⟨rfl, trivial⟩
def F_leavesOf_0 (N : Nat)  (S : rS) : rS := (A_leavesOf_2 N (nI 0) S (L_leavesOf_2 N N (nI 0) S))
def O_leavesOf_0 (N : Nat)  (S : rS) : Prop := (OL_leavesOf_2 N N (nI 0) S ∧ OA_leavesOf_2 N (nI 0) S (L_leavesOf_2 N N (nI 0) S))
set_option maxHeartbeats 4000000 in
theorem b_leavesOf_0 {G : zG} {E : rE} {S : rS} {N : Nat} {Q : Option Value → rS → Prop} {X : rS → Prop} (hG : zOK G) (hR : ∀ S', X S' → Q none S') (ok : O_leavesOf_0 N S) (hx : X (F_leavesOf_0 N S)) : rX G E dX12_leavesOf mX12_leavesOf 0 [some (.ref E.1), none, none] [] S Q := by
  unfold O_leavesOf_0 at ok
  unfold F_leavesOf_0 at hx
  refine r_iconst (v := nI 0) dX12_leavesOf_0 (by decide) ?_
  refine r_istore_1 dX12_leavesOf_1 (by decide) rfl ?_
  exact rX.cutz (c_leavesOf_2 hG hR ok hx) ⟨rfl, rfl, trivial⟩
def f_leavesOf (N : Nat) (S : rS) : rS := F_leavesOf_0 N S
def o_leavesOf (N : Nat) (S : rS) : Prop := O_leavesOf_0 N S
set_option maxHeartbeats 4000000 in
theorem rc_X12_leavesOf {G : zG} {E : rE} {S : rS} {N : Nat} (hG : zOK G) (ok : o_leavesOf N S ) : rCv G E dX12_leavesOf mX12_leavesOf [.ref E.1] S (fun S' => S' = f_leavesOf N S) := by
  refine rC.ofX rfl (Nat.le_of_ble_eq_true rfl) ?_
  show rX G E dX12_leavesOf mX12_leavesOf 0 [some (.ref E.1), none, none] [] S _
  exact rX.cutz (b_leavesOf_0 (X := fun F => F = f_leavesOf N S) hG (fun S' h => ⟨rfl, h⟩) ok rfl) ⟨rfl, trivial⟩

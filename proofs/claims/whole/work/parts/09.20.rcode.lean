/-! arriveProposal -/
def F_arriveProposal_149 (N : Nat)  (S : rS) : rS := S
def O_arriveProposal_149 (N : Nat)  (S : rS) : Prop := True
set_option maxHeartbeats 4000000 in
theorem b_arriveProposal_149 {G : zG} {E : rE} {S : rS} {N : Nat} {Q : Option Value → rS → Prop} {X : rS → Prop} (hG : zOK G) (hR : ∀ S', X S' → Q none S') (ok : O_arriveProposal_149 N S) (hx : X (F_arriveProposal_149 N S)) : rX G E dX12_arriveProposal mX12_arriveProposal 149 [none, none, none, none, none] [] S Q := by
  unfold O_arriveProposal_149 at ok
  unfold F_arriveProposal_149 at hx
  exact r_return rfl dX12_arriveProposal_149 (hR _ hx)
def F_arriveProposal_138 (N : Nat) (x1 : Int32) (S : rS) : rS := (F_arriveProposal_149 N (f_evidence N (rsI S 41 (nI 1)) x1 (nI 1)))
def O_arriveProposal_138 (N : Nat) (x1 : Int32) (S : rS) : Prop := (o_evidence N (rsI S 41 (nI 1)) x1 (nI 1)) ∧ O_arriveProposal_149 N (f_evidence N (rsI S 41 (nI 1)) x1 (nI 1))
set_option maxHeartbeats 4000000 in
theorem b_arriveProposal_138 {G : zG} {E : rE} {S : rS} {N : Nat} {Q : Option Value → rS → Prop} {X : rS → Prop} (hG : zOK G) (hR : ∀ S', X S' → Q none S') {x1 : Int32} (ok : O_arriveProposal_138 N x1 S) (hx : X (F_arriveProposal_138 N x1 S)) : rX G E dX12_arriveProposal mX12_arriveProposal 138 [some (.ref E.1), some (.int x1), none, none, none] [] S Q := by
  unfold O_arriveProposal_138 at ok
  unfold F_arriveProposal_138 at hx
  refine r_aload_n dX12_arriveProposal_138 rfl rfl ?_
  refine r_iconst (v := nI 1) dX12_arriveProposal_139 (by decide) ?_
  refine r_putI 41 fX12_266 (by decide) (by decide) rfl rfl rfl dX12_arriveProposal_140 ?_
  refine r_aload_n dX12_arriveProposal_143 rfl rfl ?_
  refine r_iload_n dX12_arriveProposal_144 rfl rfl ?_
  refine r_iconst (v := nI 1) dX12_arriveProposal_145 (by decide) ?_
  refine r_V2v (y' := mX12_evidence) dX12_arriveProposal_146 lX12_688 kX12_evidence ⟨by decide, by decide⟩ rfl (Nat.le_of_ble_eq_true rfl) (rc_X12_evidence hG ok.1) (fun S_146 h_146 => ?_)
  subst h_146
  have ok := ok.2
  exact rX.cutz (b_arriveProposal_149 hG hR ok hx) trivial
def F_arriveProposal_132 (N : Nat) (rec : Int32 → Int32 → Int32 → rS → Nat × Int32 × rS) (x1 : Int32) (x3 : Int32) (x4 : Int32) (S : rS) : Nat × Int32 × rS := (rec x1 x3 (x4 + nI 1) S)
def O_arriveProposal_132 (N : Nat) (rok : Int32 → Int32 → Int32 → rS → Prop) (x1 : Int32) (x3 : Int32) (x4 : Int32) (S : rS) : Prop := rok x1 x3 (x4 + nI 1) S
set_option maxHeartbeats 4000000 in
theorem b_arriveProposal_132 {G : zG} {E : rE} {S : rS} {N : Nat} {Q : Option Value → rS → Prop} {X : Nat × Int32 × rS → Prop} (hG : zOK G) (hX0 : ∀ (x1 : Int32) (S' : rS), X (0, x1, S') → rX G E dX12_arriveProposal mX12_arriveProposal 138 [some (.ref E.1), some (.int x1), none, none, none] [] S' Q) {rec : Int32 → Int32 → Int32 → rS → Nat × Int32 × rS} {rok : Int32 → Int32 → Int32 → rS → Prop} (hrec : ∀ (x1 : Int32) (x3 : Int32) (x4 : Int32) (S : rS), rok x1 x3 x4 S → X (rec x1 x3 x4 S) → rX G E dX12_arriveProposal mX12_arriveProposal 90 [some (.ref E.1), some (.int x1), none, some (.int x3), some (.int x4)] [] S Q) {x1 : Int32} {x3 : Int32} {x4 : Int32} (ok : O_arriveProposal_132 N rok x1 x3 x4 S) (hx : X (F_arriveProposal_132 N rec x1 x3 x4 S)) : rX G E dX12_arriveProposal mX12_arriveProposal 132 [some (.ref E.1), some (.int x1), none, some (.int x3), some (.int x4)] [] S Q := by
  unfold O_arriveProposal_132 at ok
  unfold F_arriveProposal_132 at hx
  refine r_iinc_4 (v := (x4 + nI 1)) dX12_arriveProposal_132 rfl (by first | rfl | (congr 1)) (by decide) rfl ?_
  refine r_goto (tgt := 90) dX12_arriveProposal_135 (by decide) ?_
  exact rX.cutz (hrec _ _ _ S ok hx) ⟨rfl, rfl, rfl, rfl, trivial⟩
def B_arriveProposal_90 (N : Nat) (rec : Int32 → Int32 → Int32 → rS → Nat × Int32 × rS) (x1 : Int32) (x3 : Int32) (x4 : Int32) (S : rS) : Nat × Int32 × rS := (if (nI 4) ≤ x4 then (0, x1, S) else (F_arriveProposal_132 N rec x1 x3 x4 (rsL (rsL S 42 x4.toNatClampNeg (S.2.2 13 ((nI 5408) + x4).toNatClampNeg)) 88 x4.toNatClampNeg ((rsL S 42 x4.toNatClampNeg (S.2.2 13 ((nI 5408) + x4).toNatClampNeg)).2.2 13 (((nI 4) * x3) + x4).toNatClampNeg))))
def OB_arriveProposal_90 (N : Nat) (rok : Int32 → Int32 → Int32 → rS → Prop) (x1 : Int32) (x3 : Int32) (x4 : Int32) (S : rS) : Prop := (((nI 4) ≤ x4 → True) ∧ (¬ (nI 4) ≤ x4 → (vp_in ((nI 5408) + x4) 5416) ∧ (vp_in x4 4) ∧ (vp_in (((nI 4) * x3) + x4) 5416) ∧ (vp_in x4 4) ∧ O_arriveProposal_132 N rok x1 x3 x4 (rsL (rsL S 42 x4.toNatClampNeg (S.2.2 13 ((nI 5408) + x4).toNatClampNeg)) 88 x4.toNatClampNeg ((rsL S 42 x4.toNatClampNeg (S.2.2 13 ((nI 5408) + x4).toNatClampNeg)).2.2 13 (((nI 4) * x3) + x4).toNatClampNeg))))
set_option maxHeartbeats 4000000 in
theorem bb_arriveProposal_90 {G : zG} {E : rE} {S : rS} {N : Nat} {Q : Option Value → rS → Prop} {X : Nat × Int32 × rS → Prop} (hG : zOK G) (hX0 : ∀ (x1 : Int32) (S' : rS), X (0, x1, S') → rX G E dX12_arriveProposal mX12_arriveProposal 138 [some (.ref E.1), some (.int x1), none, none, none] [] S' Q) {rec : Int32 → Int32 → Int32 → rS → Nat × Int32 × rS} {rok : Int32 → Int32 → Int32 → rS → Prop} (hrec : ∀ (x1 : Int32) (x3 : Int32) (x4 : Int32) (S : rS), rok x1 x3 x4 S → X (rec x1 x3 x4 S) → rX G E dX12_arriveProposal mX12_arriveProposal 90 [some (.ref E.1), some (.int x1), none, some (.int x3), some (.int x4)] [] S Q) {x1 : Int32} {x3 : Int32} {x4 : Int32} (ok : OB_arriveProposal_90 N rok x1 x3 x4 S) (hx : X (B_arriveProposal_90 N rec x1 x3 x4 S)) : rX G E dX12_arriveProposal mX12_arriveProposal 90 [some (.ref E.1), some (.int x1), none, some (.int x3), some (.int x4)] [] S Q := by
  unfold OB_arriveProposal_90 at ok
  unfold B_arriveProposal_90 at hx
  refine r_iload dX12_arriveProposal_90 rfl ?_
  refine r_iconst (v := nI 4) dX12_arriveProposal_92 (by decide) ?_
  refine r_icmp_ge (tgt := 138) dX12_arriveProposal_93 (by decide) (fun c_93 => ?_) (fun c_93 => ?_)
  · have ok := ok.1 c_93
    have hx := xif_p c_93 hx
    exact rX.cutz (hX0 _ S hx) ⟨rfl, rfl, trivial⟩
  · have ok := ok.2 c_93
    have hx := xif_n c_93 hx
    refine r_aload_n dX12_arriveProposal_96 rfl rfl ?_
    refine r_getA 42 fX12_270 (by decide) (by decide) dX12_arriveProposal_97 ?_
    refine r_iload dX12_arriveProposal_100 rfl ?_
    refine r_aload_n dX12_arriveProposal_102 rfl rfl ?_
    refine r_getA 13 fX12_60 (by decide) (by decide) dX12_arriveProposal_103 ?_
    refine r_sipush (v := nI 5408) dX12_arriveProposal_106 (by decide) ?_
    refine r_iload dX12_arriveProposal_109 rfl ?_
    refine r_iadd dX12_arriveProposal_111 ?_
    refine r_lald (by decide) (by decide) dX12_arriveProposal_112 ok.1 ?_
    have ok := ok.2
    refine r_last (by decide) (by decide) dX12_arriveProposal_113 ok.1 ?_
    have ok := ok.2
    refine r_aload_n dX12_arriveProposal_114 rfl rfl ?_
    refine r_getA 88 fX12_439 (by decide) (by decide) dX12_arriveProposal_115 ?_
    refine r_iload dX12_arriveProposal_118 rfl ?_
    refine r_aload_n dX12_arriveProposal_120 rfl rfl ?_
    refine r_getA 13 fX12_60 (by decide) (by decide) dX12_arriveProposal_121 ?_
    refine r_iconst (v := nI 4) dX12_arriveProposal_124 (by decide) ?_
    refine r_iload_n dX12_arriveProposal_125 rfl rfl ?_
    refine r_imul dX12_arriveProposal_126 ?_
    refine r_iload dX12_arriveProposal_127 rfl ?_
    refine r_iadd dX12_arriveProposal_129 ?_
    refine r_lald (by decide) (by decide) dX12_arriveProposal_130 ok.1 ?_
    have ok := ok.2
    refine r_last (by decide) (by decide) dX12_arriveProposal_131 ok.1 ?_
    have ok := ok.2
    exact rX.cutz (b_arriveProposal_132 hG hX0 hrec ok hx) ⟨rfl, rfl, rfl, rfl, trivial⟩
def L_arriveProposal_90 (N : Nat) : Nat → Int32 → Int32 → Int32 → rS → Nat × Int32 × rS
  | 0, x1, x3, x4, S => (0, 0, S)
  | n + 1, x1, x3, x4, S => B_arriveProposal_90 N (L_arriveProposal_90 N n) x1 x3 x4 S
def OL_arriveProposal_90 (N : Nat) : Nat → Int32 → Int32 → Int32 → rS → Prop
  | 0, _, _, _, _ => False
  | n + 1, x1, x3, x4, S => OB_arriveProposal_90 N (OL_arriveProposal_90 N n) x1 x3 x4 S
set_option maxHeartbeats 4000000 in
theorem l_arriveProposal_90 {G : zG} {E : rE} {N : Nat} {Q : Option Value → rS → Prop} {X : Nat × Int32 × rS → Prop} (hG : zOK G) (hX0 : ∀ (x1 : Int32) (S' : rS), X (0, x1, S') → rX G E dX12_arriveProposal mX12_arriveProposal 138 [some (.ref E.1), some (.int x1), none, none, none] [] S' Q) : ∀ (n : Nat) (x1 : Int32) (x3 : Int32) (x4 : Int32) (S : rS), OL_arriveProposal_90 N n x1 x3 x4 S → X (L_arriveProposal_90 N n x1 x3 x4 S) → rX G E dX12_arriveProposal mX12_arriveProposal 90 [some (.ref E.1), some (.int x1), none, some (.int x3), some (.int x4)] [] S Q := by
  intro n
  induction n with
  | zero => intro x1 x3 x4 S ok; exact absurd ok id
  | succ n ih =>
    intro x1 x3 x4 S ok hx
    exact bb_arriveProposal_90 hG hX0 (rec := L_arriveProposal_90 N n) (rok := OL_arriveProposal_90 N n) (fun x1 x3 x4 S ok hx => ih x1 x3 x4 S ok hx) ok hx
def A_arriveProposal_90 (N : Nat) (x1 : Int32) (x3 : Int32) (x4 : Int32) (S : rS) (z : Nat × Int32 × rS) : rS := (F_arriveProposal_138 N (z.2.1) z.2.2)
def OA_arriveProposal_90 (N : Nat) (x1 : Int32) (x3 : Int32) (x4 : Int32) (S : rS) (z : Nat × Int32 × rS) : Prop := O_arriveProposal_138 N (z.2.1) z.2.2
set_option maxHeartbeats 4000000 in
theorem c_arriveProposal_90 {G : zG} {E : rE} {S : rS} {N : Nat} {Q : Option Value → rS → Prop} {X : rS → Prop} (hG : zOK G) (hR : ∀ S', X S' → Q none S') {x1 : Int32} {x3 : Int32} {x4 : Int32} (ok : OL_arriveProposal_90 N N x1 x3 x4 S ∧ OA_arriveProposal_90 N x1 x3 x4 S (L_arriveProposal_90 N N x1 x3 x4 S)) (hx : X (A_arriveProposal_90 N x1 x3 x4 S (L_arriveProposal_90 N N x1 x3 x4 S))) : rX G E dX12_arriveProposal mX12_arriveProposal 90 [some (.ref E.1), some (.int x1), none, some (.int x3), some (.int x4)] [] S Q := by
  refine l_arriveProposal_90 hG ?_ N x1 x3 x4 S ok.1 (X := fun z => OA_arriveProposal_90 N x1 x3 x4 S z ∧ X (A_arriveProposal_90 N x1 x3 x4 S z)) ⟨ok.2, hx⟩
  · intro x1' S' hz
    obtain ⟨ok, hx⟩ := hz
    unfold OA_arriveProposal_90 at ok
    unfold A_arriveProposal_90 at hx
    exact rX.cutz (b_arriveProposal_138 hG hR ok hx) ⟨rfl, rfl, trivial⟩
def F_arriveProposal_73 (N : Nat)  (S : rS) : rS := (F_arriveProposal_149 N S)
def O_arriveProposal_73 (N : Nat)  (S : rS) : Prop := O_arriveProposal_149 N S
set_option maxHeartbeats 4000000 in
theorem b_arriveProposal_73 {G : zG} {E : rE} {S : rS} {N : Nat} {Q : Option Value → rS → Prop} {X : rS → Prop} (hG : zOK G) (hR : ∀ S', X S' → Q none S') (ok : O_arriveProposal_73 N S) (hx : X (F_arriveProposal_73 N S)) : rX G E dX12_arriveProposal mX12_arriveProposal 73 [none, none, none, none, none] [] S Q := by
  unfold O_arriveProposal_73 at ok
  unfold F_arriveProposal_73 at hx
  refine r_goto (tgt := 149) dX12_arriveProposal_73 (by decide) ?_
  exact rX.cutz (b_arriveProposal_149 hG hR ok hx) trivial
def F_arriveProposal_51 (N : Nat) (x1 : Int32) (x2 : Int32) (x3 : Int32) (S : rS) : rS := (F_arriveProposal_73 N (f_sendOn N (rsA S 59 (x3 - (nI 0)).toNatClampNeg (S.1 40)) x1 x2 ((rsA S 59 (x3 - (nI 0)).toNatClampNeg (S.1 40)).1 37)))
def O_arriveProposal_51 (N : Nat) (x1 : Int32) (x2 : Int32) (x3 : Int32) (S : rS) : Prop := (vp_in (x3 - (nI 0)) 416) ∧ (o_sendOn N (rsA S 59 (x3 - (nI 0)).toNatClampNeg (S.1 40)) x1 x2 ((rsA S 59 (x3 - (nI 0)).toNatClampNeg (S.1 40)).1 37)) ∧ O_arriveProposal_73 N (f_sendOn N (rsA S 59 (x3 - (nI 0)).toNatClampNeg (S.1 40)) x1 x2 ((rsA S 59 (x3 - (nI 0)).toNatClampNeg (S.1 40)).1 37))
set_option maxHeartbeats 4000000 in
theorem b_arriveProposal_51 {G : zG} {E : rE} {S : rS} {N : Nat} {Q : Option Value → rS → Prop} {X : rS → Prop} (hG : zOK G) (hR : ∀ S', X S' → Q none S') {x1 : Int32} {x2 : Int32} {x3 : Int32} (ok : O_arriveProposal_51 N x1 x2 x3 S) (hx : X (F_arriveProposal_51 N x1 x2 x3 S)) : rX G E dX12_arriveProposal mX12_arriveProposal 51 [some (.ref E.1), some (.int x1), some (.int x2), some (.int x3), none] [] S Q := by
  unfold O_arriveProposal_51 at ok
  unfold F_arriveProposal_51 at hx
  refine r_aload_n dX12_arriveProposal_51 rfl rfl ?_
  refine r_getA 59 fX12_354 (by decide) (by decide) dX12_arriveProposal_52 ?_
  refine r_iload_n dX12_arriveProposal_55 rfl rfl ?_
  refine r_iconst (v := nI 0) dX12_arriveProposal_56 (by decide) ?_
  refine r_isub dX12_arriveProposal_57 ?_
  refine r_aload_n dX12_arriveProposal_58 rfl rfl ?_
  refine r_getI 40 fX12_273 (by decide) (by decide) dX12_arriveProposal_59 ?_
  refine r_iast hG (by decide) (by decide) dX12_arriveProposal_62 ok.1 ?_
  have ok := ok.2
  refine r_aload_n dX12_arriveProposal_63 rfl rfl ?_
  refine r_iload_n dX12_arriveProposal_64 rfl rfl ?_
  refine r_iload_n dX12_arriveProposal_65 rfl rfl ?_
  refine r_aload_n dX12_arriveProposal_66 rfl rfl ?_
  refine r_getI 37 fX12_260 (by decide) (by decide) dX12_arriveProposal_67 ?_
  refine r_V3v (y' := mX12_sendOn) dX12_arriveProposal_70 lX12_655 kX12_sendOn ⟨by decide, by decide⟩ rfl (Nat.le_of_ble_eq_true rfl) (rc_X12_sendOn hG ok.1) (fun S_70 h_70 => ?_)
  subst h_70
  have ok := ok.2
  exact rX.cutz (b_arriveProposal_73 hG hR ok hx) trivial
def F_arriveProposal_0 (N : Nat) (x1 : Int32) (x2 : Int32) (S : rS) : rS := (if (S.1 37) = (f_proposer N S (S.1 38) (S.1 39)) then (if (f_isThere N S ((nI 0) + (f_heldAt N S x1 (S.1 38) (S.1 39)))) = 0 then (F_arriveProposal_51 N x1 x2 ((nI 0) + (f_heldAt N S x1 (S.1 38) (S.1 39))) (f_copyBlock N S (nI 1352) ((nI 0) + (f_heldAt N S x1 (S.1 38) (S.1 39))))) else (if (f_sameBlock N S (nI 1352) ((nI 0) + (f_heldAt N S x1 (S.1 38) (S.1 39)))) = 0 then (A_arriveProposal_90 N x1 ((nI 0) + (f_heldAt N S x1 (S.1 38) (S.1 39))) (nI 0) S (L_arriveProposal_90 N N x1 ((nI 0) + (f_heldAt N S x1 (S.1 38) (S.1 39))) (nI 0) S)) else (F_arriveProposal_149 N S))) else S)
def O_arriveProposal_0 (N : Nat) (x1 : Int32) (x2 : Int32) (S : rS) : Prop := (o_proposer N S (S.1 38) (S.1 39)) ∧ (((S.1 37) = (f_proposer N S (S.1 38) (S.1 39)) → (o_heldAt N S x1 (S.1 38) (S.1 39)) ∧ (o_isThere N S ((nI 0) + (f_heldAt N S x1 (S.1 38) (S.1 39)))) ∧ (((f_isThere N S ((nI 0) + (f_heldAt N S x1 (S.1 38) (S.1 39)))) = 0 → (o_copyBlock N S (nI 1352) ((nI 0) + (f_heldAt N S x1 (S.1 38) (S.1 39)))) ∧ O_arriveProposal_51 N x1 x2 ((nI 0) + (f_heldAt N S x1 (S.1 38) (S.1 39))) (f_copyBlock N S (nI 1352) ((nI 0) + (f_heldAt N S x1 (S.1 38) (S.1 39))))) ∧ (¬ (f_isThere N S ((nI 0) + (f_heldAt N S x1 (S.1 38) (S.1 39)))) = 0 → (o_sameBlock N S (nI 1352) ((nI 0) + (f_heldAt N S x1 (S.1 38) (S.1 39)))) ∧ (((f_sameBlock N S (nI 1352) ((nI 0) + (f_heldAt N S x1 (S.1 38) (S.1 39)))) = 0 → (OL_arriveProposal_90 N N x1 ((nI 0) + (f_heldAt N S x1 (S.1 38) (S.1 39))) (nI 0) S ∧ OA_arriveProposal_90 N x1 ((nI 0) + (f_heldAt N S x1 (S.1 38) (S.1 39))) (nI 0) S (L_arriveProposal_90 N N x1 ((nI 0) + (f_heldAt N S x1 (S.1 38) (S.1 39))) (nI 0) S))) ∧ (¬ (f_sameBlock N S (nI 1352) ((nI 0) + (f_heldAt N S x1 (S.1 38) (S.1 39)))) = 0 → O_arriveProposal_149 N S))))) ∧ (¬ (S.1 37) = (f_proposer N S (S.1 38) (S.1 39)) → True))
set_option maxHeartbeats 4000000 in
theorem b_arriveProposal_0 {G : zG} {E : rE} {S : rS} {N : Nat} {Q : Option Value → rS → Prop} {X : rS → Prop} (hG : zOK G) (hR : ∀ S', X S' → Q none S') {x1 : Int32} {x2 : Int32} (ok : O_arriveProposal_0 N x1 x2 S) (hx : X (F_arriveProposal_0 N x1 x2 S)) : rX G E dX12_arriveProposal mX12_arriveProposal 0 [some (.ref E.1), some (.int x1), some (.int x2), none, none] [] S Q := by
  unfold O_arriveProposal_0 at ok
  unfold F_arriveProposal_0 at hx
  refine r_aload_n dX12_arriveProposal_0 rfl rfl ?_
  refine r_getI 37 fX12_260 (by decide) (by decide) dX12_arriveProposal_1 ?_
  refine r_aload_n dX12_arriveProposal_4 rfl rfl ?_
  refine r_aload_n dX12_arriveProposal_5 rfl rfl ?_
  refine r_getI 38 fX12_257 (by decide) (by decide) dX12_arriveProposal_6 ?_
  refine r_aload_n dX12_arriveProposal_9 rfl rfl ?_
  refine r_getI 39 fX12_263 (by decide) (by decide) dX12_arriveProposal_10 ?_
  refine r_V2i (y' := mX12_proposer) dX12_arriveProposal_13 lX12_575 kX12_proposer ⟨by decide, by decide⟩ rfl (Nat.le_of_ble_eq_true rfl) (rc_X12_proposer hG ok.1) (fun v_13 S_13 h_13 => ?_)
  obtain ⟨rfl, hS_13⟩ := h_13
  have hS_13 := hS_13.symm
  subst hS_13
  have ok := ok.2
  refine r_icmp_eq (tgt := 20) dX12_arriveProposal_16 (by decide) (fun c_16 => ?_) (fun c_16 => ?_)
  · have ok := ok.1 c_16
    have hx := xif_p c_16 hx
    refine r_iconst (v := nI 0) dX12_arriveProposal_20 (by decide) ?_
    refine r_iload_n dX12_arriveProposal_21 rfl rfl ?_
    refine r_aload_n dX12_arriveProposal_22 rfl rfl ?_
    refine r_getI 38 fX12_257 (by decide) (by decide) dX12_arriveProposal_23 ?_
    refine r_aload_n dX12_arriveProposal_26 rfl rfl ?_
    refine r_getI 39 fX12_263 (by decide) (by decide) dX12_arriveProposal_27 ?_
    refine r_S3i (y' := mX12_heldAt) dX12_arriveProposal_30 lX12_466 kX12_heldAt ⟨by decide, by decide⟩ (Nat.le_of_ble_eq_true rfl) (rc_X12_heldAt hG ok.1) (fun v_30 S_30 h_30 => ?_)
    obtain ⟨rfl, hS_30⟩ := h_30
    have hS_30 := hS_30.symm
    subst hS_30
    have ok := ok.2
    refine r_iadd dX12_arriveProposal_33 ?_
    refine r_istore_3 dX12_arriveProposal_34 (by decide) rfl ?_
    refine r_aload_n dX12_arriveProposal_35 rfl rfl ?_
    refine r_iload_n dX12_arriveProposal_36 rfl rfl ?_
    refine r_V1i (y' := mX12_isThere) dX12_arriveProposal_37 lX12_63 kX12_isThere ⟨by decide, by decide⟩ rfl (Nat.le_of_ble_eq_true rfl) (rc_X12_isThere hG ok.1) (fun v_37 S_37 h_37 => ?_)
    obtain ⟨rfl, hS_37⟩ := h_37
    have hS_37 := hS_37.symm
    subst hS_37
    have ok := ok.2
    refine r_if_ne (tgt := 76) dX12_arriveProposal_40 (by decide) (fun c_40 => ?_) (fun c_40 => ?_)
    · have ok := ok.2 c_40
      have hx := xif_n c_40 hx
      refine r_aload_n dX12_arriveProposal_76 rfl rfl ?_
      refine r_sipush (v := nI 1352) dX12_arriveProposal_77 (by decide) ?_
      refine r_iload_n dX12_arriveProposal_80 rfl rfl ?_
      refine r_V2i (y' := mX12_sameBlock) dX12_arriveProposal_81 lX12_594 kX12_sameBlock ⟨by decide, by decide⟩ rfl (Nat.le_of_ble_eq_true rfl) (rc_X12_sameBlock hG ok.1) (fun v_81 S_81 h_81 => ?_)
      obtain ⟨rfl, hS_81⟩ := h_81
      have hS_81 := hS_81.symm
      subst hS_81
      have ok := ok.2
      refine r_if_ne (tgt := 149) dX12_arriveProposal_84 (by decide) (fun c_84 => ?_) (fun c_84 => ?_)
      · have ok := ok.2 c_84
        have hx := xif_n c_84 hx
        exact rX.cutz (b_arriveProposal_149 hG hR ok hx) trivial
      · have ok := ok.1 c_84
        have hx := xif_p c_84 hx
        refine r_iconst (v := nI 0) dX12_arriveProposal_87 (by decide) ?_
        refine r_istore_4 dX12_arriveProposal_88 (by decide) rfl ?_
        exact rX.cutz (c_arriveProposal_90 hG hR ok hx) ⟨rfl, rfl, rfl, rfl, trivial⟩
    · have ok := ok.1 c_40
      have hx := xif_p c_40 hx
      refine r_aload_n dX12_arriveProposal_43 rfl rfl ?_
      refine r_sipush (v := nI 1352) dX12_arriveProposal_44 (by decide) ?_
      refine r_iload_n dX12_arriveProposal_47 rfl rfl ?_
      refine r_V2v (y' := mX12_copyBlock) dX12_arriveProposal_48 lX12_507 kX12_copyBlock ⟨by decide, by decide⟩ rfl (Nat.le_of_ble_eq_true rfl) (rc_X12_copyBlock hG ok.1) (fun S_48 h_48 => ?_)
      subst h_48
      have ok := ok.2
      exact rX.cutz (b_arriveProposal_51 hG hR ok hx) ⟨rfl, rfl, rfl, rfl, trivial⟩
  · have ok := ok.2 c_16
    have hx := xif_n c_16 hx
    exact r_return rfl dX12_arriveProposal_19 (hR _ hx)
def f_arriveProposal (N : Nat) (S : rS) (x1 : Int32) (x2 : Int32) : rS := F_arriveProposal_0 N x1 x2 S
def o_arriveProposal (N : Nat) (S : rS) (x1 : Int32) (x2 : Int32) : Prop := O_arriveProposal_0 N x1 x2 S
set_option maxHeartbeats 4000000 in
theorem rc_X12_arriveProposal {G : zG} {E : rE} {S : rS} {N : Nat} (hG : zOK G) {x1 : Int32} {x2 : Int32} (ok : o_arriveProposal N S x1 x2) : rCv G E dX12_arriveProposal mX12_arriveProposal [.ref E.1, .int x1, .int x2] S (fun S' => S' = f_arriveProposal N S x1 x2) := by
  refine rC.ofX rfl (Nat.le_of_ble_eq_true rfl) ?_
  show rX G E dX12_arriveProposal mX12_arriveProposal 0 [some (.ref E.1), some (.int x1), some (.int x2), none, none] [] S _
  exact rX.cutz (b_arriveProposal_0 (X := fun F => F = f_arriveProposal N S x1 x2) hG (fun S' h => ⟨rfl, h⟩) ok rfl) ⟨rfl, rfl, rfl, trivial⟩
/-! arriveVote -/
def F_arriveVote_230 (N : Nat)  (S : rS) : rS := S
def O_arriveVote_230 (N : Nat)  (S : rS) : Prop := True
set_option maxHeartbeats 4000000 in
theorem b_arriveVote_230 {G : zG} {E : rE} {S : rS} {N : Nat} {Q : Option Value → rS → Prop} {X : rS → Prop} (hG : zOK G) (hR : ∀ S', X S' → Q none S') (ok : O_arriveVote_230 N S) (hx : X (F_arriveVote_230 N S)) : rX G E dX12_arriveVote mX12_arriveVote 230 [none, none, none, none, none, none] [] S Q := by
  unfold O_arriveVote_230 at ok
  unfold F_arriveVote_230 at hx
  exact r_return rfl dX12_arriveVote_230 (hR _ hx)
def F_arriveVote_227 (N : Nat) (s1 : Int32) (s2 : Int32) (S : rS) : rS := (F_arriveVote_230 N (f_evidence N S s1 s2))
def O_arriveVote_227 (N : Nat) (s1 : Int32) (s2 : Int32) (S : rS) : Prop := (o_evidence N S s1 s2) ∧ O_arriveVote_230 N (f_evidence N S s1 s2)
set_option maxHeartbeats 4000000 in
theorem b_arriveVote_227 {G : zG} {E : rE} {S : rS} {N : Nat} {Q : Option Value → rS → Prop} {X : rS → Prop} (hG : zOK G) (hR : ∀ S', X S' → Q none S') {s1 : Int32} {s2 : Int32} (ok : O_arriveVote_227 N s1 s2 S) (hx : X (F_arriveVote_227 N s1 s2 S)) : rX G E dX12_arriveVote mX12_arriveVote 227 [none, none, none, none, none, none] [.int s2, .int s1, .ref E.1] S Q := by
  unfold O_arriveVote_227 at ok
  unfold F_arriveVote_227 at hx
  refine r_V2v (y' := mX12_evidence) dX12_arriveVote_227 lX12_688 kX12_evidence ⟨by decide, by decide⟩ rfl (Nat.le_of_ble_eq_true rfl) (rc_X12_evidence hG ok.1) (fun S_227 h_227 => ?_)
  subst h_227
  have ok := ok.2
  exact rX.cutz (b_arriveVote_230 hG hR ok hx) trivial
def F_arriveVote_205 (N : Nat) (x1 : Int32) (x3 : Int32) (x4 : Int32) (S : rS) : rS := (if x4 = 0 then (if (S.2.1 60 x3.toNatClampNeg) = (nI 2) then (F_arriveVote_227 N x1 (nI 1) S) else (F_arriveVote_227 N x1 (nI 0) S)) else (F_arriveVote_230 N S))
def O_arriveVote_205 (N : Nat) (x1 : Int32) (x3 : Int32) (x4 : Int32) (S : rS) : Prop := ((x4 = 0 → (vp_in x3 10816) ∧ (((S.2.1 60 x3.toNatClampNeg) = (nI 2) → O_arriveVote_227 N x1 (nI 1) S) ∧ (¬ (S.2.1 60 x3.toNatClampNeg) = (nI 2) → O_arriveVote_227 N x1 (nI 0) S))) ∧ (¬ x4 = 0 → O_arriveVote_230 N S))
set_option maxHeartbeats 4000000 in
theorem b_arriveVote_205 {G : zG} {E : rE} {S : rS} {N : Nat} {Q : Option Value → rS → Prop} {X : rS → Prop} (hG : zOK G) (hR : ∀ S', X S' → Q none S') {x1 : Int32} {x3 : Int32} {x4 : Int32} (ok : O_arriveVote_205 N x1 x3 x4 S) (hx : X (F_arriveVote_205 N x1 x3 x4 S)) : rX G E dX12_arriveVote mX12_arriveVote 205 [some (.ref E.1), some (.int x1), none, some (.int x3), some (.int x4), none] [] S Q := by
  unfold O_arriveVote_205 at ok
  unfold F_arriveVote_205 at hx
  refine r_iload dX12_arriveVote_205 rfl ?_
  refine r_if_ne (tgt := 230) dX12_arriveVote_207 (by decide) (fun c_207 => ?_) (fun c_207 => ?_)
  · have ok := ok.2 c_207
    have hx := xif_n c_207 hx
    exact rX.cutz (b_arriveVote_230 hG hR ok hx) trivial
  · have ok := ok.1 c_207
    have hx := xif_p c_207 hx
    refine r_aload_n dX12_arriveVote_210 rfl rfl ?_
    refine r_iload_n dX12_arriveVote_211 rfl rfl ?_
    refine r_aload_n dX12_arriveVote_212 rfl rfl ?_
    refine r_getA 60 fX12_357 (by decide) (by decide) dX12_arriveVote_213 ?_
    refine r_iload_n dX12_arriveVote_216 rfl rfl ?_
    refine r_iald (by decide) (by decide) dX12_arriveVote_217 ok.1 ?_
    have ok := ok.2
    refine r_iconst (v := nI 2) dX12_arriveVote_218 (by decide) ?_
    refine r_icmp_ne (tgt := 226) dX12_arriveVote_219 (by decide) (fun c_219 => ?_) (fun c_219 => ?_)
    · have ok := ok.2 c_219
      have hx := xif_n c_219 hx
      refine r_iconst (v := nI 0) dX12_arriveVote_226 (by decide) ?_
      exact rX.cutz (b_arriveVote_227 hG hR ok hx) trivial
    · have ok := ok.1 c_219
      have hx := xif_p c_219 hx
      refine r_iconst (v := nI 1) dX12_arriveVote_222 (by decide) ?_
      refine r_goto (tgt := 227) dX12_arriveVote_223 (by decide) ?_
      exact rX.cutz (b_arriveVote_227 hG hR ok hx) trivial
def F_arriveVote_197 (N : Nat) (rec : Int32 → Int32 → Int32 → Int32 → rS → Nat × Int32 × Int32 × Int32 × rS) (x1 : Int32) (x3 : Int32) (x5 : Int32) (s0 : Int32) (S : rS) : Nat × Int32 × Int32 × Int32 × rS := (rec x1 x3 s0 (x5 + nI 1) S)
def O_arriveVote_197 (N : Nat) (rok : Int32 → Int32 → Int32 → Int32 → rS → Prop) (x1 : Int32) (x3 : Int32) (x5 : Int32) (s0 : Int32) (S : rS) : Prop := rok x1 x3 s0 (x5 + nI 1) S
set_option maxHeartbeats 4000000 in
theorem b_arriveVote_197 {G : zG} {E : rE} {S : rS} {N : Nat} {Q : Option Value → rS → Prop} {X : Nat × Int32 × Int32 × Int32 × rS → Prop} (hG : zOK G) (hX0 : ∀ (x1 : Int32) (x3 : Int32) (x4 : Int32) (S' : rS), X (0, x1, x3, x4, S') → rX G E dX12_arriveVote mX12_arriveVote 205 [some (.ref E.1), some (.int x1), none, some (.int x3), some (.int x4), none] [] S' Q) {rec : Int32 → Int32 → Int32 → Int32 → rS → Nat × Int32 × Int32 × Int32 × rS} {rok : Int32 → Int32 → Int32 → Int32 → rS → Prop} (hrec : ∀ (x1 : Int32) (x3 : Int32) (x4 : Int32) (x5 : Int32) (S : rS), rok x1 x3 x4 x5 S → X (rec x1 x3 x4 x5 S) → rX G E dX12_arriveVote mX12_arriveVote 163 [some (.ref E.1), some (.int x1), none, some (.int x3), some (.int x4), some (.int x5)] [] S Q) {x1 : Int32} {x3 : Int32} {x5 : Int32} {s0 : Int32} (ok : O_arriveVote_197 N rok x1 x3 x5 s0 S) (hx : X (F_arriveVote_197 N rec x1 x3 x5 s0 S)) : rX G E dX12_arriveVote mX12_arriveVote 197 [some (.ref E.1), some (.int x1), none, some (.int x3), none, some (.int x5)] [.int s0] S Q := by
  unfold O_arriveVote_197 at ok
  unfold F_arriveVote_197 at hx
  refine r_istore_4 dX12_arriveVote_197 (by decide) rfl ?_
  refine r_iinc_5 (v := (x5 + nI 1)) dX12_arriveVote_199 rfl (by first | rfl | (congr 1)) (by decide) rfl ?_
  refine r_goto (tgt := 163) dX12_arriveVote_202 (by decide) ?_
  exact rX.cutz (hrec _ _ _ _ S ok hx) ⟨rfl, rfl, rfl, rfl, rfl, trivial⟩
def F_arriveVote_196 (N : Nat) (rec : Int32 → Int32 → Int32 → Int32 → rS → Nat × Int32 × Int32 × Int32 × rS) (x1 : Int32) (x3 : Int32) (x5 : Int32) (S : rS) : Nat × Int32 × Int32 × Int32 × rS := (F_arriveVote_197 N rec x1 x3 x5 (nI 0) S)
def O_arriveVote_196 (N : Nat) (rok : Int32 → Int32 → Int32 → Int32 → rS → Prop) (x1 : Int32) (x3 : Int32) (x5 : Int32) (S : rS) : Prop := O_arriveVote_197 N rok x1 x3 x5 (nI 0) S
set_option maxHeartbeats 4000000 in
theorem b_arriveVote_196 {G : zG} {E : rE} {S : rS} {N : Nat} {Q : Option Value → rS → Prop} {X : Nat × Int32 × Int32 × Int32 × rS → Prop} (hG : zOK G) (hX0 : ∀ (x1 : Int32) (x3 : Int32) (x4 : Int32) (S' : rS), X (0, x1, x3, x4, S') → rX G E dX12_arriveVote mX12_arriveVote 205 [some (.ref E.1), some (.int x1), none, some (.int x3), some (.int x4), none] [] S' Q) {rec : Int32 → Int32 → Int32 → Int32 → rS → Nat × Int32 × Int32 × Int32 × rS} {rok : Int32 → Int32 → Int32 → Int32 → rS → Prop} (hrec : ∀ (x1 : Int32) (x3 : Int32) (x4 : Int32) (x5 : Int32) (S : rS), rok x1 x3 x4 x5 S → X (rec x1 x3 x4 x5 S) → rX G E dX12_arriveVote mX12_arriveVote 163 [some (.ref E.1), some (.int x1), none, some (.int x3), some (.int x4), some (.int x5)] [] S Q) {x1 : Int32} {x3 : Int32} {x5 : Int32} (ok : O_arriveVote_196 N rok x1 x3 x5 S) (hx : X (F_arriveVote_196 N rec x1 x3 x5 S)) : rX G E dX12_arriveVote mX12_arriveVote 196 [some (.ref E.1), some (.int x1), none, some (.int x3), none, some (.int x5)] [] S Q := by
  unfold O_arriveVote_196 at ok
  unfold F_arriveVote_196 at hx
  refine r_iconst (v := nI 0) dX12_arriveVote_196 (by decide) ?_
  exact rX.cutz (b_arriveVote_197 hG hX0 hrec ok hx) ⟨rfl, rfl, rfl, rfl, trivial⟩
def B_arriveVote_163 (N : Nat) (rec : Int32 → Int32 → Int32 → Int32 → rS → Nat × Int32 × Int32 × Int32 × rS) (x1 : Int32) (x3 : Int32) (x4 : Int32) (x5 : Int32) (S : rS) : Nat × Int32 × Int32 × Int32 × rS := (if (nI 4) ≤ x5 then (0, x1, x3, x4, S) else (if x4 = 0 then (F_arriveVote_196 N rec x1 x3 x5 S) else (if (lg_cmp (S.2.2 42 x5.toNatClampNeg) (S.2.2 88 x5.toNatClampNeg)) = 0 then (F_arriveVote_197 N rec x1 x3 x5 (nI 1) S) else (F_arriveVote_196 N rec x1 x3 x5 S))))
def OB_arriveVote_163 (N : Nat) (rok : Int32 → Int32 → Int32 → Int32 → rS → Prop) (x1 : Int32) (x3 : Int32) (x4 : Int32) (x5 : Int32) (S : rS) : Prop := (((nI 4) ≤ x5 → True) ∧ (¬ (nI 4) ≤ x5 → ((x4 = 0 → O_arriveVote_196 N rok x1 x3 x5 S) ∧ (¬ x4 = 0 → (vp_in x5 4) ∧ (vp_in x5 4) ∧ (((lg_cmp (S.2.2 42 x5.toNatClampNeg) (S.2.2 88 x5.toNatClampNeg)) = 0 → O_arriveVote_197 N rok x1 x3 x5 (nI 1) S) ∧ (¬ (lg_cmp (S.2.2 42 x5.toNatClampNeg) (S.2.2 88 x5.toNatClampNeg)) = 0 → O_arriveVote_196 N rok x1 x3 x5 S))))))
set_option maxHeartbeats 4000000 in
theorem bb_arriveVote_163 {G : zG} {E : rE} {S : rS} {N : Nat} {Q : Option Value → rS → Prop} {X : Nat × Int32 × Int32 × Int32 × rS → Prop} (hG : zOK G) (hX0 : ∀ (x1 : Int32) (x3 : Int32) (x4 : Int32) (S' : rS), X (0, x1, x3, x4, S') → rX G E dX12_arriveVote mX12_arriveVote 205 [some (.ref E.1), some (.int x1), none, some (.int x3), some (.int x4), none] [] S' Q) {rec : Int32 → Int32 → Int32 → Int32 → rS → Nat × Int32 × Int32 × Int32 × rS} {rok : Int32 → Int32 → Int32 → Int32 → rS → Prop} (hrec : ∀ (x1 : Int32) (x3 : Int32) (x4 : Int32) (x5 : Int32) (S : rS), rok x1 x3 x4 x5 S → X (rec x1 x3 x4 x5 S) → rX G E dX12_arriveVote mX12_arriveVote 163 [some (.ref E.1), some (.int x1), none, some (.int x3), some (.int x4), some (.int x5)] [] S Q) {x1 : Int32} {x3 : Int32} {x4 : Int32} {x5 : Int32} (ok : OB_arriveVote_163 N rok x1 x3 x4 x5 S) (hx : X (B_arriveVote_163 N rec x1 x3 x4 x5 S)) : rX G E dX12_arriveVote mX12_arriveVote 163 [some (.ref E.1), some (.int x1), none, some (.int x3), some (.int x4), some (.int x5)] [] S Q := by
  unfold OB_arriveVote_163 at ok
  unfold B_arriveVote_163 at hx
  refine r_iload dX12_arriveVote_163 rfl ?_
  refine r_iconst (v := nI 4) dX12_arriveVote_165 (by decide) ?_
  refine r_icmp_ge (tgt := 205) dX12_arriveVote_166 (by decide) (fun c_166 => ?_) (fun c_166 => ?_)
  · have ok := ok.1 c_166
    have hx := xif_p c_166 hx
    exact rX.cutz (hX0 _ _ _ S hx) ⟨rfl, rfl, rfl, rfl, trivial⟩
  · have ok := ok.2 c_166
    have hx := xif_n c_166 hx
    refine r_iload dX12_arriveVote_169 rfl ?_
    refine r_if_eq (tgt := 196) dX12_arriveVote_171 (by decide) (fun c_171 => ?_) (fun c_171 => ?_)
    · have ok := ok.1 c_171
      have hx := xif_p c_171 hx
      exact rX.cutz (b_arriveVote_196 hG hX0 hrec ok hx) ⟨rfl, rfl, rfl, rfl, trivial⟩
    · have ok := ok.2 c_171
      have hx := xif_n c_171 hx
      refine r_aload_n dX12_arriveVote_174 rfl rfl ?_
      refine r_getA 42 fX12_270 (by decide) (by decide) dX12_arriveVote_175 ?_
      refine r_iload dX12_arriveVote_178 rfl ?_
      refine r_lald (by decide) (by decide) dX12_arriveVote_180 ok.1 ?_
      have ok := ok.2
      refine r_aload_n dX12_arriveVote_181 rfl rfl ?_
      refine r_getA 88 fX12_439 (by decide) (by decide) dX12_arriveVote_182 ?_
      refine r_iload dX12_arriveVote_185 rfl ?_
      refine r_lald (by decide) (by decide) dX12_arriveVote_187 ok.1 ?_
      have ok := ok.2
      refine r_lcmp dX12_arriveVote_188 ?_
      refine r_if_ne (tgt := 196) dX12_arriveVote_189 (by decide) (fun c_189 => ?_) (fun c_189 => ?_)
      · have ok := ok.2 c_189
        have hx := xif_n c_189 hx
        exact rX.cutz (b_arriveVote_196 hG hX0 hrec ok hx) ⟨rfl, rfl, rfl, rfl, trivial⟩
      · have ok := ok.1 c_189
        have hx := xif_p c_189 hx
        refine r_iconst (v := nI 1) dX12_arriveVote_192 (by decide) ?_
        refine r_goto (tgt := 197) dX12_arriveVote_193 (by decide) ?_
        exact rX.cutz (b_arriveVote_197 hG hX0 hrec ok hx) ⟨rfl, rfl, rfl, rfl, trivial⟩
def L_arriveVote_163 (N : Nat) : Nat → Int32 → Int32 → Int32 → Int32 → rS → Nat × Int32 × Int32 × Int32 × rS
  | 0, x1, x3, x4, x5, S => (0, 0, 0, 0, S)
  | n + 1, x1, x3, x4, x5, S => B_arriveVote_163 N (L_arriveVote_163 N n) x1 x3 x4 x5 S
def OL_arriveVote_163 (N : Nat) : Nat → Int32 → Int32 → Int32 → Int32 → rS → Prop
  | 0, _, _, _, _, _ => False
  | n + 1, x1, x3, x4, x5, S => OB_arriveVote_163 N (OL_arriveVote_163 N n) x1 x3 x4 x5 S
set_option maxHeartbeats 4000000 in
theorem l_arriveVote_163 {G : zG} {E : rE} {N : Nat} {Q : Option Value → rS → Prop} {X : Nat × Int32 × Int32 × Int32 × rS → Prop} (hG : zOK G) (hX0 : ∀ (x1 : Int32) (x3 : Int32) (x4 : Int32) (S' : rS), X (0, x1, x3, x4, S') → rX G E dX12_arriveVote mX12_arriveVote 205 [some (.ref E.1), some (.int x1), none, some (.int x3), some (.int x4), none] [] S' Q) : ∀ (n : Nat) (x1 : Int32) (x3 : Int32) (x4 : Int32) (x5 : Int32) (S : rS), OL_arriveVote_163 N n x1 x3 x4 x5 S → X (L_arriveVote_163 N n x1 x3 x4 x5 S) → rX G E dX12_arriveVote mX12_arriveVote 163 [some (.ref E.1), some (.int x1), none, some (.int x3), some (.int x4), some (.int x5)] [] S Q := by
  intro n
  induction n with
  | zero => intro x1 x3 x4 x5 S ok; exact absurd ok id
  | succ n ih =>
    intro x1 x3 x4 x5 S ok hx
    exact bb_arriveVote_163 hG hX0 (rec := L_arriveVote_163 N n) (rok := OL_arriveVote_163 N n) (fun x1 x3 x4 x5 S ok hx => ih x1 x3 x4 x5 S ok hx) ok hx
def A_arriveVote_163 (N : Nat) (x1 : Int32) (x3 : Int32) (x4 : Int32) (x5 : Int32) (S : rS) (z : Nat × Int32 × Int32 × Int32 × rS) : rS := (F_arriveVote_205 N (z.2.1) (z.2.2.1) (z.2.2.2.1) z.2.2.2.2)
def OA_arriveVote_163 (N : Nat) (x1 : Int32) (x3 : Int32) (x4 : Int32) (x5 : Int32) (S : rS) (z : Nat × Int32 × Int32 × Int32 × rS) : Prop := O_arriveVote_205 N (z.2.1) (z.2.2.1) (z.2.2.2.1) z.2.2.2.2
set_option maxHeartbeats 4000000 in
theorem c_arriveVote_163 {G : zG} {E : rE} {S : rS} {N : Nat} {Q : Option Value → rS → Prop} {X : rS → Prop} (hG : zOK G) (hR : ∀ S', X S' → Q none S') {x1 : Int32} {x3 : Int32} {x4 : Int32} {x5 : Int32} (ok : OL_arriveVote_163 N N x1 x3 x4 x5 S ∧ OA_arriveVote_163 N x1 x3 x4 x5 S (L_arriveVote_163 N N x1 x3 x4 x5 S)) (hx : X (A_arriveVote_163 N x1 x3 x4 x5 S (L_arriveVote_163 N N x1 x3 x4 x5 S))) : rX G E dX12_arriveVote mX12_arriveVote 163 [some (.ref E.1), some (.int x1), none, some (.int x3), some (.int x4), some (.int x5)] [] S Q := by
  refine l_arriveVote_163 hG ?_ N x1 x3 x4 x5 S ok.1 (X := fun z => OA_arriveVote_163 N x1 x3 x4 x5 S z ∧ X (A_arriveVote_163 N x1 x3 x4 x5 S z)) ⟨ok.2, hx⟩
  · intro x1' x3' x4' S' hz
    obtain ⟨ok, hx⟩ := hz
    unfold OA_arriveVote_163 at ok
    unfold A_arriveVote_163 at hx
    exact rX.cutz (b_arriveVote_205 hG hR ok hx) ⟨rfl, rfl, rfl, rfl, trivial⟩
def F_arriveVote_158 (N : Nat) (x1 : Int32) (x3 : Int32) (s0 : Int32) (S : rS) : rS := (A_arriveVote_163 N x1 x3 s0 (nI 0) S (L_arriveVote_163 N N x1 x3 s0 (nI 0) S))
def O_arriveVote_158 (N : Nat) (x1 : Int32) (x3 : Int32) (s0 : Int32) (S : rS) : Prop := (OL_arriveVote_163 N N x1 x3 s0 (nI 0) S ∧ OA_arriveVote_163 N x1 x3 s0 (nI 0) S (L_arriveVote_163 N N x1 x3 s0 (nI 0) S))
set_option maxHeartbeats 4000000 in
theorem b_arriveVote_158 {G : zG} {E : rE} {S : rS} {N : Nat} {Q : Option Value → rS → Prop} {X : rS → Prop} (hG : zOK G) (hR : ∀ S', X S' → Q none S') {x1 : Int32} {x3 : Int32} {s0 : Int32} (ok : O_arriveVote_158 N x1 x3 s0 S) (hx : X (F_arriveVote_158 N x1 x3 s0 S)) : rX G E dX12_arriveVote mX12_arriveVote 158 [some (.ref E.1), some (.int x1), none, some (.int x3), none, none] [.int s0] S Q := by
  unfold O_arriveVote_158 at ok
  unfold F_arriveVote_158 at hx
  refine r_istore_4 dX12_arriveVote_158 (by decide) rfl ?_
  refine r_iconst (v := nI 0) dX12_arriveVote_160 (by decide) ?_
  refine r_istore_5 dX12_arriveVote_161 (by decide) rfl ?_
  exact rX.cutz (c_arriveVote_163 hG hR ok hx) ⟨rfl, rfl, rfl, rfl, rfl, trivial⟩
def F_arriveVote_150 (N : Nat) (x1 : Int32) (x3 : Int32) (s0 : Int32) (s1 : Int32) (S : rS) : rS := (if s0 = s1 then (F_arriveVote_158 N x1 x3 (nI 1) S) else (F_arriveVote_158 N x1 x3 (nI 0) S))
def O_arriveVote_150 (N : Nat) (x1 : Int32) (x3 : Int32) (s0 : Int32) (s1 : Int32) (S : rS) : Prop := ((s0 = s1 → O_arriveVote_158 N x1 x3 (nI 1) S) ∧ (¬ s0 = s1 → O_arriveVote_158 N x1 x3 (nI 0) S))
set_option maxHeartbeats 4000000 in
theorem b_arriveVote_150 {G : zG} {E : rE} {S : rS} {N : Nat} {Q : Option Value → rS → Prop} {X : rS → Prop} (hG : zOK G) (hR : ∀ S', X S' → Q none S') {x1 : Int32} {x3 : Int32} {s0 : Int32} {s1 : Int32} (ok : O_arriveVote_150 N x1 x3 s0 s1 S) (hx : X (F_arriveVote_150 N x1 x3 s0 s1 S)) : rX G E dX12_arriveVote mX12_arriveVote 150 [some (.ref E.1), some (.int x1), none, some (.int x3), none, none] [.int s1, .int s0] S Q := by
  unfold O_arriveVote_150 at ok
  unfold F_arriveVote_150 at hx
  refine r_icmp_ne (tgt := 157) dX12_arriveVote_150 (by decide) (fun c_150 => ?_) (fun c_150 => ?_)
  · have ok := ok.2 c_150
    have hx := xif_n c_150 hx
    refine r_iconst (v := nI 0) dX12_arriveVote_157 (by decide) ?_
    exact rX.cutz (b_arriveVote_158 hG hR ok hx) ⟨rfl, rfl, rfl, trivial⟩
  · have ok := ok.1 c_150
    have hx := xif_p c_150 hx
    refine r_iconst (v := nI 1) dX12_arriveVote_153 (by decide) ?_
    refine r_goto (tgt := 158) dX12_arriveVote_154 (by decide) ?_
    exact rX.cutz (b_arriveVote_158 hG hR ok hx) ⟨rfl, rfl, rfl, trivial⟩
def F_arriveVote_131 (N : Nat) (x1 : Int32) (x3 : Int32) (S : rS) : rS := (if (S.2.1 60 x3.toNatClampNeg) = (nI 2) then (F_arriveVote_150 N x1 x3 (S.1 41) (nI 1) S) else (F_arriveVote_150 N x1 x3 (S.1 41) (nI 0) S))
def O_arriveVote_131 (N : Nat) (x1 : Int32) (x3 : Int32) (S : rS) : Prop := (vp_in x3 10816) ∧ (((S.2.1 60 x3.toNatClampNeg) = (nI 2) → O_arriveVote_150 N x1 x3 (S.1 41) (nI 1) S) ∧ (¬ (S.2.1 60 x3.toNatClampNeg) = (nI 2) → O_arriveVote_150 N x1 x3 (S.1 41) (nI 0) S))
set_option maxHeartbeats 4000000 in
theorem b_arriveVote_131 {G : zG} {E : rE} {S : rS} {N : Nat} {Q : Option Value → rS → Prop} {X : rS → Prop} (hG : zOK G) (hR : ∀ S', X S' → Q none S') {x1 : Int32} {x3 : Int32} (ok : O_arriveVote_131 N x1 x3 S) (hx : X (F_arriveVote_131 N x1 x3 S)) : rX G E dX12_arriveVote mX12_arriveVote 131 [some (.ref E.1), some (.int x1), none, some (.int x3), none, none] [] S Q := by
  unfold O_arriveVote_131 at ok
  unfold F_arriveVote_131 at hx
  refine r_aload_n dX12_arriveVote_131 rfl rfl ?_
  refine r_getI 41 fX12_266 (by decide) (by decide) dX12_arriveVote_132 ?_
  refine r_aload_n dX12_arriveVote_135 rfl rfl ?_
  refine r_getA 60 fX12_357 (by decide) (by decide) dX12_arriveVote_136 ?_
  refine r_iload_n dX12_arriveVote_139 rfl rfl ?_
  refine r_iald (by decide) (by decide) dX12_arriveVote_140 ok.1 ?_
  have ok := ok.2
  refine r_iconst (v := nI 2) dX12_arriveVote_141 (by decide) ?_
  refine r_icmp_ne (tgt := 149) dX12_arriveVote_142 (by decide) (fun c_142 => ?_) (fun c_142 => ?_)
  · have ok := ok.2 c_142
    have hx := xif_n c_142 hx
    refine r_iconst (v := nI 0) dX12_arriveVote_149 (by decide) ?_
    exact rX.cutz (b_arriveVote_150 hG hR ok hx) ⟨rfl, rfl, rfl, trivial⟩
  · have ok := ok.1 c_142
    have hx := xif_p c_142 hx
    refine r_iconst (v := nI 1) dX12_arriveVote_145 (by decide) ?_
    refine r_goto (tgt := 150) dX12_arriveVote_146 (by decide) ?_
    exact rX.cutz (b_arriveVote_150 hG hR ok hx) ⟨rfl, rfl, rfl, trivial⟩
def F_arriveVote_107 (N : Nat) (x1 : Int32) (x3 : Int32) (S : rS) : rS := (F_arriveVote_131 N x1 x3 (rsL (rsL S 88 (nI 2).toNatClampNeg (S.2.2 63 x3.toNatClampNeg)) 88 (nI 3).toNatClampNeg ((rsL S 88 (nI 2).toNatClampNeg (S.2.2 63 x3.toNatClampNeg)).2.2 64 x3.toNatClampNeg)))
def O_arriveVote_107 (N : Nat) (x1 : Int32) (x3 : Int32) (S : rS) : Prop := (vp_in x3 10816) ∧ (vp_in (nI 2) 4) ∧ (vp_in x3 10816) ∧ (vp_in (nI 3) 4) ∧ O_arriveVote_131 N x1 x3 (rsL (rsL S 88 (nI 2).toNatClampNeg (S.2.2 63 x3.toNatClampNeg)) 88 (nI 3).toNatClampNeg ((rsL S 88 (nI 2).toNatClampNeg (S.2.2 63 x3.toNatClampNeg)).2.2 64 x3.toNatClampNeg))
set_option maxHeartbeats 4000000 in
theorem b_arriveVote_107 {G : zG} {E : rE} {S : rS} {N : Nat} {Q : Option Value → rS → Prop} {X : rS → Prop} (hG : zOK G) (hR : ∀ S', X S' → Q none S') {x1 : Int32} {x3 : Int32} (ok : O_arriveVote_107 N x1 x3 S) (hx : X (F_arriveVote_107 N x1 x3 S)) : rX G E dX12_arriveVote mX12_arriveVote 107 [some (.ref E.1), some (.int x1), none, some (.int x3), none, none] [] S Q := by
  unfold O_arriveVote_107 at ok
  unfold F_arriveVote_107 at hx
  refine r_aload_n dX12_arriveVote_107 rfl rfl ?_
  refine r_getA 88 fX12_439 (by decide) (by decide) dX12_arriveVote_108 ?_
  refine r_iconst (v := nI 2) dX12_arriveVote_111 (by decide) ?_
  refine r_aload_n dX12_arriveVote_112 rfl rfl ?_
  refine r_getA 63 fX12_366 (by decide) (by decide) dX12_arriveVote_113 ?_
  refine r_iload_n dX12_arriveVote_116 rfl rfl ?_
  refine r_lald (by decide) (by decide) dX12_arriveVote_117 ok.1 ?_
  have ok := ok.2
  refine r_last (by decide) (by decide) dX12_arriveVote_118 ok.1 ?_
  have ok := ok.2
  refine r_aload_n dX12_arriveVote_119 rfl rfl ?_
  refine r_getA 88 fX12_439 (by decide) (by decide) dX12_arriveVote_120 ?_
  refine r_iconst (v := nI 3) dX12_arriveVote_123 (by decide) ?_
  refine r_aload_n dX12_arriveVote_124 rfl rfl ?_
  refine r_getA 64 fX12_369 (by decide) (by decide) dX12_arriveVote_125 ?_
  refine r_iload_n dX12_arriveVote_128 rfl rfl ?_
  refine r_lald (by decide) (by decide) dX12_arriveVote_129 ok.1 ?_
  have ok := ok.2
  refine r_last (by decide) (by decide) dX12_arriveVote_130 ok.1 ?_
  have ok := ok.2
  exact rX.cutz (b_arriveVote_131 hG hR ok hx) ⟨rfl, rfl, rfl, trivial⟩
def F_arriveVote_106 (N : Nat) (x1 : Int32) (x3 : Int32) (s1 : Int32) (s2 : Int64) (S : rS) : rS := (F_arriveVote_107 N x1 x3 (rsL S 88 s1.toNatClampNeg s2))
def O_arriveVote_106 (N : Nat) (x1 : Int32) (x3 : Int32) (s1 : Int32) (s2 : Int64) (S : rS) : Prop := (vp_in s1 4) ∧ O_arriveVote_107 N x1 x3 (rsL S 88 s1.toNatClampNeg s2)
set_option maxHeartbeats 4000000 in
theorem b_arriveVote_106 {G : zG} {E : rE} {S : rS} {N : Nat} {Q : Option Value → rS → Prop} {X : rS → Prop} (hG : zOK G) (hR : ∀ S', X S' → Q none S') {x1 : Int32} {x3 : Int32} {s1 : Int32} {s2 : Int64} (ok : O_arriveVote_106 N x1 x3 s1 s2 S) (hx : X (F_arriveVote_106 N x1 x3 s1 s2 S)) : rX G E dX12_arriveVote mX12_arriveVote 106 [some (.ref E.1), some (.int x1), none, some (.int x3), none, none] [.long s2, .int s1, .ref (E.2.1 88)] S Q := by
  unfold O_arriveVote_106 at ok
  unfold F_arriveVote_106 at hx
  refine r_last (by decide) (by decide) dX12_arriveVote_106 ok.1 ?_
  have ok := ok.2
  exact rX.cutz (b_arriveVote_107 hG hR ok hx) ⟨rfl, rfl, rfl, trivial⟩
def F_arriveVote_72 (N : Nat) (x1 : Int32) (x2 : Int32) (S : rS) : rS := (f_sendOn N S x1 x2 (S.1 37))
def O_arriveVote_72 (N : Nat) (x1 : Int32) (x2 : Int32) (S : rS) : Prop := (o_sendOn N S x1 x2 (S.1 37)) ∧ True
set_option maxHeartbeats 4000000 in
theorem b_arriveVote_72 {G : zG} {E : rE} {S : rS} {N : Nat} {Q : Option Value → rS → Prop} {X : rS → Prop} (hG : zOK G) (hR : ∀ S', X S' → Q none S') {x1 : Int32} {x2 : Int32} (ok : O_arriveVote_72 N x1 x2 S) (hx : X (F_arriveVote_72 N x1 x2 S)) : rX G E dX12_arriveVote mX12_arriveVote 72 [some (.ref E.1), some (.int x1), some (.int x2), none, none, none] [] S Q := by
  unfold O_arriveVote_72 at ok
  unfold F_arriveVote_72 at hx
  refine r_aload_n dX12_arriveVote_72 rfl rfl ?_
  refine r_iload_n dX12_arriveVote_73 rfl rfl ?_
  refine r_iload_n dX12_arriveVote_74 rfl rfl ?_
  refine r_aload_n dX12_arriveVote_75 rfl rfl ?_
  refine r_getI 37 fX12_260 (by decide) (by decide) dX12_arriveVote_76 ?_
  refine r_V3v (y' := mX12_sendOn) dX12_arriveVote_79 lX12_655 kX12_sendOn ⟨by decide, by decide⟩ rfl (Nat.le_of_ble_eq_true rfl) (rc_X12_sendOn hG ok.1) (fun S_79 h_79 => ?_)
  subst h_79
  have ok := ok.2
  exact r_return rfl dX12_arriveVote_82 (hR _ hx)
def F_arriveVote_13 (N : Nat) (x1 : Int32) (x2 : Int32) (s0 : Int32) (S : rS) : rS := (if (S.2.1 60 (f_voteAt N S s0 x1 (S.1 38) (S.1 39) (S.1 37)).toNatClampNeg) = 0 then (F_arriveVote_72 N x1 x2 (f_setVote N S (f_voteAt N S s0 x1 (S.1 38) (S.1 39) (S.1 37)) (S.1 41) (S.2.2 42 (nI 0).toNatClampNeg) (S.2.2 42 (nI 1).toNatClampNeg) (S.2.2 42 (nI 2).toNatClampNeg) (S.2.2 42 (nI 3).toNatClampNeg))) else (F_arriveVote_106 N x1 (f_voteAt N S s0 x1 (S.1 38) (S.1 39) (S.1 37)) (nI 1) ((rsL S 88 (nI 0).toNatClampNeg (S.2.2 61 (f_voteAt N S s0 x1 (S.1 38) (S.1 39) (S.1 37)).toNatClampNeg)).2.2 62 (f_voteAt N S s0 x1 (S.1 38) (S.1 39) (S.1 37)).toNatClampNeg) (rsL S 88 (nI 0).toNatClampNeg (S.2.2 61 (f_voteAt N S s0 x1 (S.1 38) (S.1 39) (S.1 37)).toNatClampNeg))))
def O_arriveVote_13 (N : Nat) (x1 : Int32) (x2 : Int32) (s0 : Int32) (S : rS) : Prop := (o_voteAt N S s0 x1 (S.1 38) (S.1 39) (S.1 37)) ∧ (vp_in (f_voteAt N S s0 x1 (S.1 38) (S.1 39) (S.1 37)) 10816) ∧ (((S.2.1 60 (f_voteAt N S s0 x1 (S.1 38) (S.1 39) (S.1 37)).toNatClampNeg) = 0 → (vp_in (nI 0) 4) ∧ (vp_in (nI 1) 4) ∧ (vp_in (nI 2) 4) ∧ (vp_in (nI 3) 4) ∧ (o_setVote N S (f_voteAt N S s0 x1 (S.1 38) (S.1 39) (S.1 37)) (S.1 41) (S.2.2 42 (nI 0).toNatClampNeg) (S.2.2 42 (nI 1).toNatClampNeg) (S.2.2 42 (nI 2).toNatClampNeg) (S.2.2 42 (nI 3).toNatClampNeg)) ∧ O_arriveVote_72 N x1 x2 (f_setVote N S (f_voteAt N S s0 x1 (S.1 38) (S.1 39) (S.1 37)) (S.1 41) (S.2.2 42 (nI 0).toNatClampNeg) (S.2.2 42 (nI 1).toNatClampNeg) (S.2.2 42 (nI 2).toNatClampNeg) (S.2.2 42 (nI 3).toNatClampNeg))) ∧ (¬ (S.2.1 60 (f_voteAt N S s0 x1 (S.1 38) (S.1 39) (S.1 37)).toNatClampNeg) = 0 → (vp_in (f_voteAt N S s0 x1 (S.1 38) (S.1 39) (S.1 37)) 10816) ∧ (vp_in (nI 0) 4) ∧ (vp_in (f_voteAt N S s0 x1 (S.1 38) (S.1 39) (S.1 37)) 10816) ∧ O_arriveVote_106 N x1 (f_voteAt N S s0 x1 (S.1 38) (S.1 39) (S.1 37)) (nI 1) ((rsL S 88 (nI 0).toNatClampNeg (S.2.2 61 (f_voteAt N S s0 x1 (S.1 38) (S.1 39) (S.1 37)).toNatClampNeg)).2.2 62 (f_voteAt N S s0 x1 (S.1 38) (S.1 39) (S.1 37)).toNatClampNeg) (rsL S 88 (nI 0).toNatClampNeg (S.2.2 61 (f_voteAt N S s0 x1 (S.1 38) (S.1 39) (S.1 37)).toNatClampNeg))))
set_option maxHeartbeats 4000000 in
theorem b_arriveVote_13 {G : zG} {E : rE} {S : rS} {N : Nat} {Q : Option Value → rS → Prop} {X : rS → Prop} (hG : zOK G) (hR : ∀ S', X S' → Q none S') {x1 : Int32} {x2 : Int32} {s0 : Int32} (ok : O_arriveVote_13 N x1 x2 s0 S) (hx : X (F_arriveVote_13 N x1 x2 s0 S)) : rX G E dX12_arriveVote mX12_arriveVote 13 [some (.ref E.1), some (.int x1), some (.int x2), none, none, none] [.int s0] S Q := by
  unfold O_arriveVote_13 at ok
  unfold F_arriveVote_13 at hx
  refine r_iload_n dX12_arriveVote_13 rfl rfl ?_
  refine r_aload_n dX12_arriveVote_14 rfl rfl ?_
  refine r_getI 38 fX12_257 (by decide) (by decide) dX12_arriveVote_15 ?_
  refine r_aload_n dX12_arriveVote_18 rfl rfl ?_
  refine r_getI 39 fX12_263 (by decide) (by decide) dX12_arriveVote_19 ?_
  refine r_aload_n dX12_arriveVote_22 rfl rfl ?_
  refine r_getI 37 fX12_260 (by decide) (by decide) dX12_arriveVote_23 ?_
  refine r_S5i (y' := mX12_voteAt) dX12_arriveVote_26 lX12_470 kX12_voteAt ⟨by decide, by decide⟩ (Nat.le_of_ble_eq_true rfl) (rc_X12_voteAt hG ok.1) (fun v_26 S_26 h_26 => ?_)
  obtain ⟨rfl, hS_26⟩ := h_26
  have hS_26 := hS_26.symm
  subst hS_26
  have ok := ok.2
  refine r_istore_3 dX12_arriveVote_29 (by decide) rfl ?_
  refine r_aload_n dX12_arriveVote_30 rfl rfl ?_
  refine r_getA 60 fX12_357 (by decide) (by decide) dX12_arriveVote_31 ?_
  refine r_iload_n dX12_arriveVote_34 rfl rfl ?_
  refine r_iald (by decide) (by decide) dX12_arriveVote_35 ok.1 ?_
  have ok := ok.2
  refine r_if_ne (tgt := 83) dX12_arriveVote_36 (by decide) (fun c_36 => ?_) (fun c_36 => ?_)
  · have ok := ok.2 c_36
    have hx := xif_n c_36 hx
    refine r_aload_n dX12_arriveVote_83 rfl rfl ?_
    refine r_getA 88 fX12_439 (by decide) (by decide) dX12_arriveVote_84 ?_
    refine r_iconst (v := nI 0) dX12_arriveVote_87 (by decide) ?_
    refine r_aload_n dX12_arriveVote_88 rfl rfl ?_
    refine r_getA 61 fX12_360 (by decide) (by decide) dX12_arriveVote_89 ?_
    refine r_iload_n dX12_arriveVote_92 rfl rfl ?_
    refine r_lald (by decide) (by decide) dX12_arriveVote_93 ok.1 ?_
    have ok := ok.2
    refine r_last (by decide) (by decide) dX12_arriveVote_94 ok.1 ?_
    have ok := ok.2
    refine r_aload_n dX12_arriveVote_95 rfl rfl ?_
    refine r_getA 88 fX12_439 (by decide) (by decide) dX12_arriveVote_96 ?_
    refine r_iconst (v := nI 1) dX12_arriveVote_99 (by decide) ?_
    refine r_aload_n dX12_arriveVote_100 rfl rfl ?_
    refine r_getA 62 fX12_363 (by decide) (by decide) dX12_arriveVote_101 ?_
    refine r_iload_n dX12_arriveVote_104 rfl rfl ?_
    refine r_lald (by decide) (by decide) dX12_arriveVote_105 ok.1 ?_
    have ok := ok.2
    exact rX.cutz (b_arriveVote_106 hG hR ok hx) ⟨rfl, rfl, rfl, trivial⟩
  · have ok := ok.1 c_36
    have hx := xif_p c_36 hx
    refine r_aload_n dX12_arriveVote_39 rfl rfl ?_
    refine r_iload_n dX12_arriveVote_40 rfl rfl ?_
    refine r_aload_n dX12_arriveVote_41 rfl rfl ?_
    refine r_getI 41 fX12_266 (by decide) (by decide) dX12_arriveVote_42 ?_
    refine r_aload_n dX12_arriveVote_45 rfl rfl ?_
    refine r_getA 42 fX12_270 (by decide) (by decide) dX12_arriveVote_46 ?_
    refine r_iconst (v := nI 0) dX12_arriveVote_49 (by decide) ?_
    refine r_lald (by decide) (by decide) dX12_arriveVote_50 ok.1 ?_
    have ok := ok.2
    refine r_aload_n dX12_arriveVote_51 rfl rfl ?_
    refine r_getA 42 fX12_270 (by decide) (by decide) dX12_arriveVote_52 ?_
    refine r_iconst (v := nI 1) dX12_arriveVote_55 (by decide) ?_
    refine r_lald (by decide) (by decide) dX12_arriveVote_56 ok.1 ?_
    have ok := ok.2
    refine r_aload_n dX12_arriveVote_57 rfl rfl ?_
    refine r_getA 42 fX12_270 (by decide) (by decide) dX12_arriveVote_58 ?_
    refine r_iconst (v := nI 2) dX12_arriveVote_61 (by decide) ?_
    refine r_lald (by decide) (by decide) dX12_arriveVote_62 ok.1 ?_
    have ok := ok.2
    refine r_aload_n dX12_arriveVote_63 rfl rfl ?_
    refine r_getA 42 fX12_270 (by decide) (by decide) dX12_arriveVote_64 ?_
    refine r_iconst (v := nI 3) dX12_arriveVote_67 (by decide) ?_
    refine r_lald (by decide) (by decide) dX12_arriveVote_68 ok.1 ?_
    have ok := ok.2
    refine r_V6v (y' := mX12_setVote) dX12_arriveVote_69 lX12_510 kX12_setVote ⟨by decide, by decide⟩ rfl (Nat.le_of_ble_eq_true rfl) (rc_X12_setVote hG ok.1) (fun S_69 h_69 => ?_)
    subst h_69
    have ok := ok.2
    exact rX.cutz (b_arriveVote_72 hG hR ok hx) ⟨rfl, rfl, rfl, trivial⟩
def F_arriveVote_0 (N : Nat) (x1 : Int32) (x2 : Int32) (S : rS) : rS := (if (S.1 36) = (nI 3) then (F_arriveVote_13 N x1 x2 (nI 1) S) else (F_arriveVote_13 N x1 x2 (nI 0) S))
def O_arriveVote_0 (N : Nat) (x1 : Int32) (x2 : Int32) (S : rS) : Prop := (((S.1 36) = (nI 3) → O_arriveVote_13 N x1 x2 (nI 1) S) ∧ (¬ (S.1 36) = (nI 3) → O_arriveVote_13 N x1 x2 (nI 0) S))
set_option maxHeartbeats 4000000 in
theorem b_arriveVote_0 {G : zG} {E : rE} {S : rS} {N : Nat} {Q : Option Value → rS → Prop} {X : rS → Prop} (hG : zOK G) (hR : ∀ S', X S' → Q none S') {x1 : Int32} {x2 : Int32} (ok : O_arriveVote_0 N x1 x2 S) (hx : X (F_arriveVote_0 N x1 x2 S)) : rX G E dX12_arriveVote mX12_arriveVote 0 [some (.ref E.1), some (.int x1), some (.int x2), none, none, none] [] S Q := by
  unfold O_arriveVote_0 at ok
  unfold F_arriveVote_0 at hx
  refine r_aload_n dX12_arriveVote_0 rfl rfl ?_
  refine r_getI 36 fX12_282 (by decide) (by decide) dX12_arriveVote_1 ?_
  refine r_iconst (v := nI 3) dX12_arriveVote_4 (by decide) ?_
  refine r_icmp_ne (tgt := 12) dX12_arriveVote_5 (by decide) (fun c_5 => ?_) (fun c_5 => ?_)
  · have ok := ok.2 c_5
    have hx := xif_n c_5 hx
    refine r_iconst (v := nI 0) dX12_arriveVote_12 (by decide) ?_
    exact rX.cutz (b_arriveVote_13 hG hR ok hx) ⟨rfl, rfl, rfl, trivial⟩
  · have ok := ok.1 c_5
    have hx := xif_p c_5 hx
    refine r_iconst (v := nI 1) dX12_arriveVote_8 (by decide) ?_
    refine r_goto (tgt := 13) dX12_arriveVote_9 (by decide) ?_
    exact rX.cutz (b_arriveVote_13 hG hR ok hx) ⟨rfl, rfl, rfl, trivial⟩
def f_arriveVote (N : Nat) (S : rS) (x1 : Int32) (x2 : Int32) : rS := F_arriveVote_0 N x1 x2 S
def o_arriveVote (N : Nat) (S : rS) (x1 : Int32) (x2 : Int32) : Prop := O_arriveVote_0 N x1 x2 S
set_option maxHeartbeats 4000000 in
theorem rc_X12_arriveVote {G : zG} {E : rE} {S : rS} {N : Nat} (hG : zOK G) {x1 : Int32} {x2 : Int32} (ok : o_arriveVote N S x1 x2) : rCv G E dX12_arriveVote mX12_arriveVote [.ref E.1, .int x1, .int x2] S (fun S' => S' = f_arriveVote N S x1 x2) := by
  refine rC.ofX rfl (Nat.le_of_ble_eq_true rfl) ?_
  show rX G E dX12_arriveVote mX12_arriveVote 0 [some (.ref E.1), some (.int x1), some (.int x2), none, none, none] [] S _
  exact rX.cutz (b_arriveVote_0 (X := fun F => F = f_arriveVote N S x1 x2) hG (fun S' h => ⟨rfl, h⟩) ok rfl) ⟨rfl, rfl, rfl, trivial⟩
/-! arrive -/
def F_arrive_115 (N : Nat)  (S : rS) : rS := S
def O_arrive_115 (N : Nat)  (S : rS) : Prop := True
set_option maxHeartbeats 4000000 in
theorem b_arrive_115 {G : zG} {E : rE} {S : rS} {N : Nat} {Q : Option Value → rS → Prop} {X : rS → Prop} (hG : zOK G) (hR : ∀ S', X S' → Q none S') (ok : O_arrive_115 N S) (hx : X (F_arrive_115 N S)) : rX G E dX12_arrive mX12_arrive 115 [none, none, none] [] S Q := by
  unfold O_arrive_115 at ok
  unfold F_arrive_115 at hx
  exact r_return rfl dX12_arrive_115 (hR _ hx)
def F_arrive_106 (N : Nat)  (S : rS) : rS := (F_arrive_115 N S)
def O_arrive_106 (N : Nat)  (S : rS) : Prop := O_arrive_115 N S
set_option maxHeartbeats 4000000 in
theorem b_arrive_106 {G : zG} {E : rE} {S : rS} {N : Nat} {Q : Option Value → rS → Prop} {X : rS → Prop} (hG : zOK G) (hR : ∀ S', X S' → Q none S') (ok : O_arrive_106 N S) (hx : X (F_arrive_106 N S)) : rX G E dX12_arrive mX12_arrive 106 [none, none, none] [] S Q := by
  unfold O_arrive_106 at ok
  unfold F_arrive_106 at hx
  refine r_goto (tgt := 115) dX12_arrive_106 (by decide) ?_
  exact rX.cutz (b_arrive_115 hG hR ok hx) trivial
def F_arrive_74 (N : Nat)  (S : rS) : rS := (F_arrive_115 N S)
def O_arrive_74 (N : Nat)  (S : rS) : Prop := O_arrive_115 N S
set_option maxHeartbeats 4000000 in
theorem b_arrive_74 {G : zG} {E : rE} {S : rS} {N : Nat} {Q : Option Value → rS → Prop} {X : rS → Prop} (hG : zOK G) (hR : ∀ S', X S' → Q none S') (ok : O_arrive_74 N S) (hx : X (F_arrive_74 N S)) : rX G E dX12_arrive mX12_arrive 74 [none, none, none] [] S Q := by
  unfold O_arrive_74 at ok
  unfold F_arrive_74 at hx
  refine r_goto (tgt := 115) dX12_arrive_74 (by decide) ?_
  exact rX.cutz (b_arrive_115 hG hR ok hx) trivial
def F_arrive_19 (N : Nat) (x1 : Int32) (x2 : Int32) (S : rS) : rS := (if (S.1 36) = (nI 4) then (if (S.1 38) = (S.2.1 44 x1.toNatClampNeg) then (if (f_isThere N S (((nI 416) + ((nI 13) * x1)) + x2)) = 0 then (F_arrive_74 N (f_copyBlock N S (nI 1352) (((nI 416) + ((nI 13) * x1)) + x2))) else (F_arrive_115 N S)) else (F_arrive_115 N S)) else (if ((S.2.1 44 x1.toNatClampNeg) + (nI 1)) < (S.1 38) then (F_arrive_115 N S) else (if (S.1 36) = (nI 1) then (F_arrive_106 N (f_arriveProposal N S x1 x2)) else (F_arrive_115 N (f_arriveVote N S x1 x2)))))
def O_arrive_19 (N : Nat) (x1 : Int32) (x2 : Int32) (S : rS) : Prop := (((S.1 36) = (nI 4) → (vp_in x1 13) ∧ (((S.1 38) = (S.2.1 44 x1.toNatClampNeg) → (o_isThere N S (((nI 416) + ((nI 13) * x1)) + x2)) ∧ (((f_isThere N S (((nI 416) + ((nI 13) * x1)) + x2)) = 0 → (o_copyBlock N S (nI 1352) (((nI 416) + ((nI 13) * x1)) + x2)) ∧ O_arrive_74 N (f_copyBlock N S (nI 1352) (((nI 416) + ((nI 13) * x1)) + x2))) ∧ (¬ (f_isThere N S (((nI 416) + ((nI 13) * x1)) + x2)) = 0 → O_arrive_115 N S))) ∧ (¬ (S.1 38) = (S.2.1 44 x1.toNatClampNeg) → O_arrive_115 N S))) ∧ (¬ (S.1 36) = (nI 4) → (vp_in x1 13) ∧ ((((S.2.1 44 x1.toNatClampNeg) + (nI 1)) < (S.1 38) → O_arrive_115 N S) ∧ (¬ ((S.2.1 44 x1.toNatClampNeg) + (nI 1)) < (S.1 38) → (((S.1 36) = (nI 1) → (o_arriveProposal N S x1 x2) ∧ O_arrive_106 N (f_arriveProposal N S x1 x2)) ∧ (¬ (S.1 36) = (nI 1) → (o_arriveVote N S x1 x2) ∧ O_arrive_115 N (f_arriveVote N S x1 x2)))))))
set_option maxHeartbeats 4000000 in
theorem b_arrive_19 {G : zG} {E : rE} {S : rS} {N : Nat} {Q : Option Value → rS → Prop} {X : rS → Prop} (hG : zOK G) (hR : ∀ S', X S' → Q none S') {x1 : Int32} {x2 : Int32} (ok : O_arrive_19 N x1 x2 S) (hx : X (F_arrive_19 N x1 x2 S)) : rX G E dX12_arrive mX12_arrive 19 [some (.ref E.1), some (.int x1), some (.int x2)] [] S Q := by
  unfold O_arrive_19 at ok
  unfold F_arrive_19 at hx
  refine r_aload_n dX12_arrive_19 rfl rfl ?_
  refine r_getI 36 fX12_282 (by decide) (by decide) dX12_arrive_20 ?_
  refine r_iconst (v := nI 4) dX12_arrive_23 (by decide) ?_
  refine r_icmp_ne (tgt := 77) dX12_arrive_24 (by decide) (fun c_24 => ?_) (fun c_24 => ?_)
  · have ok := ok.2 c_24
    have hx := xif_n c_24 hx
    refine r_aload_n dX12_arrive_77 rfl rfl ?_
    refine r_getI 38 fX12_257 (by decide) (by decide) dX12_arrive_78 ?_
    refine r_aload_n dX12_arrive_81 rfl rfl ?_
    refine r_getA 44 fX12_309 (by decide) (by decide) dX12_arrive_82 ?_
    refine r_iload_n dX12_arrive_85 rfl rfl ?_
    refine r_iald (by decide) (by decide) dX12_arrive_86 ok.1 ?_
    have ok := ok.2
    refine r_iconst (v := nI 1) dX12_arrive_87 (by decide) ?_
    refine r_iadd dX12_arrive_88 ?_
    refine r_icmp_gt (tgt := 115) dX12_arrive_89 (by decide) (fun c_89 => ?_) (fun c_89 => ?_)
    · have ok := ok.1 c_89
      have hx := xif_p c_89 hx
      exact rX.cutz (b_arrive_115 hG hR ok hx) trivial
    · have ok := ok.2 c_89
      have hx := xif_n c_89 hx
      refine r_aload_n dX12_arrive_92 rfl rfl ?_
      refine r_getI 36 fX12_282 (by decide) (by decide) dX12_arrive_93 ?_
      refine r_iconst (v := nI 1) dX12_arrive_96 (by decide) ?_
      refine r_icmp_ne (tgt := 109) dX12_arrive_97 (by decide) (fun c_97 => ?_) (fun c_97 => ?_)
      · have ok := ok.2 c_97
        have hx := xif_n c_97 hx
        refine r_aload_n dX12_arrive_109 rfl rfl ?_
        refine r_iload_n dX12_arrive_110 rfl rfl ?_
        refine r_iload_n dX12_arrive_111 rfl rfl ?_
        refine r_V2v (y' := mX12_arriveVote) dX12_arrive_112 lX12_685 kX12_arriveVote ⟨by decide, by decide⟩ rfl (Nat.le_of_ble_eq_true rfl) (rc_X12_arriveVote hG ok.1) (fun S_112 h_112 => ?_)
        subst h_112
        have ok := ok.2
        exact rX.cutz (b_arrive_115 hG hR ok hx) trivial
      · have ok := ok.1 c_97
        have hx := xif_p c_97 hx
        refine r_aload_n dX12_arrive_100 rfl rfl ?_
        refine r_iload_n dX12_arrive_101 rfl rfl ?_
        refine r_iload_n dX12_arrive_102 rfl rfl ?_
        refine r_V2v (y' := mX12_arriveProposal) dX12_arrive_103 lX12_682 kX12_arriveProposal ⟨by decide, by decide⟩ rfl (Nat.le_of_ble_eq_true rfl) (rc_X12_arriveProposal hG ok.1) (fun S_103 h_103 => ?_)
        subst h_103
        have ok := ok.2
        exact rX.cutz (b_arrive_106 hG hR ok hx) trivial
  · have ok := ok.1 c_24
    have hx := xif_p c_24 hx
    refine r_aload_n dX12_arrive_27 rfl rfl ?_
    refine r_getI 38 fX12_257 (by decide) (by decide) dX12_arrive_28 ?_
    refine r_aload_n dX12_arrive_31 rfl rfl ?_
    refine r_getA 44 fX12_309 (by decide) (by decide) dX12_arrive_32 ?_
    refine r_iload_n dX12_arrive_35 rfl rfl ?_
    refine r_iald (by decide) (by decide) dX12_arrive_36 ok.1 ?_
    have ok := ok.2
    refine r_icmp_ne (tgt := 115) dX12_arrive_37 (by decide) (fun c_37 => ?_) (fun c_37 => ?_)
    · have ok := ok.2 c_37
      have hx := xif_n c_37 hx
      exact rX.cutz (b_arrive_115 hG hR ok hx) trivial
    · have ok := ok.1 c_37
      have hx := xif_p c_37 hx
      refine r_aload_n dX12_arrive_40 rfl rfl ?_
      refine r_sipush (v := nI 416) dX12_arrive_41 (by decide) ?_
      refine r_bipush (v := nI 13) dX12_arrive_44 (by decide) ?_
      refine r_iload_n dX12_arrive_46 rfl rfl ?_
      refine r_imul dX12_arrive_47 ?_
      refine r_iadd dX12_arrive_48 ?_
      refine r_iload_n dX12_arrive_49 rfl rfl ?_
      refine r_iadd dX12_arrive_50 ?_
      refine r_V1i (y' := mX12_isThere) dX12_arrive_51 lX12_63 kX12_isThere ⟨by decide, by decide⟩ rfl (Nat.le_of_ble_eq_true rfl) (rc_X12_isThere hG ok.1) (fun v_51 S_51 h_51 => ?_)
      obtain ⟨rfl, hS_51⟩ := h_51
      have hS_51 := hS_51.symm
      subst hS_51
      have ok := ok.2
      refine r_if_ne (tgt := 115) dX12_arrive_54 (by decide) (fun c_54 => ?_) (fun c_54 => ?_)
      · have ok := ok.2 c_54
        have hx := xif_n c_54 hx
        exact rX.cutz (b_arrive_115 hG hR ok hx) trivial
      · have ok := ok.1 c_54
        have hx := xif_p c_54 hx
        refine r_aload_n dX12_arrive_57 rfl rfl ?_
        refine r_sipush (v := nI 1352) dX12_arrive_58 (by decide) ?_
        refine r_sipush (v := nI 416) dX12_arrive_61 (by decide) ?_
        refine r_bipush (v := nI 13) dX12_arrive_64 (by decide) ?_
        refine r_iload_n dX12_arrive_66 rfl rfl ?_
        refine r_imul dX12_arrive_67 ?_
        refine r_iadd dX12_arrive_68 ?_
        refine r_iload_n dX12_arrive_69 rfl rfl ?_
        refine r_iadd dX12_arrive_70 ?_
        refine r_V2v (y' := mX12_copyBlock) dX12_arrive_71 lX12_507 kX12_copyBlock ⟨by decide, by decide⟩ rfl (Nat.le_of_ble_eq_true rfl) (rc_X12_copyBlock hG ok.1) (fun S_71 h_71 => ?_)
        subst h_71
        have ok := ok.2
        exact rX.cutz (b_arrive_74 hG hR ok hx) trivial
def F_arrive_0 (N : Nat) (x1 : Int32) (x2 : Int32) (S : rS) : rS := (if (S.1 38) ≤ (S.2.1 44 x1.toNatClampNeg) then (F_arrive_19 N x1 x2 S) else (F_arrive_19 N x1 x2 (f_ask N S x1 x2)))
def O_arrive_0 (N : Nat) (x1 : Int32) (x2 : Int32) (S : rS) : Prop := (vp_in x1 13) ∧ (((S.1 38) ≤ (S.2.1 44 x1.toNatClampNeg) → O_arrive_19 N x1 x2 S) ∧ (¬ (S.1 38) ≤ (S.2.1 44 x1.toNatClampNeg) → (o_ask N S x1 x2) ∧ O_arrive_19 N x1 x2 (f_ask N S x1 x2)))
set_option maxHeartbeats 4000000 in
theorem b_arrive_0 {G : zG} {E : rE} {S : rS} {N : Nat} {Q : Option Value → rS → Prop} {X : rS → Prop} (hG : zOK G) (hR : ∀ S', X S' → Q none S') {x1 : Int32} {x2 : Int32} (ok : O_arrive_0 N x1 x2 S) (hx : X (F_arrive_0 N x1 x2 S)) : rX G E dX12_arrive mX12_arrive 0 [some (.ref E.1), some (.int x1), some (.int x2)] [] S Q := by
  unfold O_arrive_0 at ok
  unfold F_arrive_0 at hx
  refine r_aload_n dX12_arrive_0 rfl rfl ?_
  refine r_getI 38 fX12_257 (by decide) (by decide) dX12_arrive_1 ?_
  refine r_aload_n dX12_arrive_4 rfl rfl ?_
  refine r_getA 44 fX12_309 (by decide) (by decide) dX12_arrive_5 ?_
  refine r_iload_n dX12_arrive_8 rfl rfl ?_
  refine r_iald (by decide) (by decide) dX12_arrive_9 ok.1 ?_
  have ok := ok.2
  refine r_icmp_le (tgt := 19) dX12_arrive_10 (by decide) (fun c_10 => ?_) (fun c_10 => ?_)
  · have ok := ok.1 c_10
    have hx := xif_p c_10 hx
    exact rX.cutz (b_arrive_19 hG hR ok hx) ⟨rfl, rfl, rfl, trivial⟩
  · have ok := ok.2 c_10
    have hx := xif_n c_10 hx
    refine r_aload_n dX12_arrive_13 rfl rfl ?_
    refine r_iload_n dX12_arrive_14 rfl rfl ?_
    refine r_iload_n dX12_arrive_15 rfl rfl ?_
    refine r_V2v (y' := mX12_ask) dX12_arrive_16 lX12_679 kX12_ask ⟨by decide, by decide⟩ rfl (Nat.le_of_ble_eq_true rfl) (rc_X12_ask hG ok.1) (fun S_16 h_16 => ?_)
    subst h_16
    have ok := ok.2
    exact rX.cutz (b_arrive_19 hG hR ok hx) ⟨rfl, rfl, rfl, trivial⟩
def f_arrive (N : Nat) (S : rS) (x1 : Int32) (x2 : Int32) : rS := F_arrive_0 N x1 x2 S
def o_arrive (N : Nat) (S : rS) (x1 : Int32) (x2 : Int32) : Prop := O_arrive_0 N x1 x2 S
set_option maxHeartbeats 4000000 in
theorem rc_X12_arrive {G : zG} {E : rE} {S : rS} {N : Nat} (hG : zOK G) {x1 : Int32} {x2 : Int32} (ok : o_arrive N S x1 x2) : rCv G E dX12_arrive mX12_arrive [.ref E.1, .int x1, .int x2] S (fun S' => S' = f_arrive N S x1 x2) := by
  refine rC.ofX rfl (Nat.le_of_ble_eq_true rfl) ?_
  show rX G E dX12_arrive mX12_arrive 0 [some (.ref E.1), some (.int x1), some (.int x2)] [] S _
  exact rX.cutz (b_arrive_0 (X := fun F => F = f_arrive N S x1 x2) hG (fun S' h => ⟨rfl, h⟩) ok rfl) ⟨rfl, rfl, rfl, trivial⟩
/-! come -/
def F_come_228 (N : Nat) (x1 : Int32) (S : rS) : rS := (f_rules N S x1)
def O_come_228 (N : Nat) (x1 : Int32) (S : rS) : Prop := (o_rules N S x1) ∧ True
set_option maxHeartbeats 4000000 in
theorem b_come_228 {G : zG} {E : rE} {S : rS} {N : Nat} {Q : Option Value → rS → Prop} {X : rS → Prop} (hG : zOK G) (hR : ∀ S', X S' → Q none S') {x1 : Int32} (ok : O_come_228 N x1 S) (hx : X (F_come_228 N x1 S)) : rX G E dX12_come mX12_come 228 [some (.ref E.1), some (.int x1), none] [] S Q := by
  unfold O_come_228 at ok
  unfold F_come_228 at hx
  refine r_aload_n dX12_come_228 rfl rfl ?_
  refine r_iload_n dX12_come_229 rfl rfl ?_
  refine r_V1v (y' := mX12_rules) dX12_come_230 lX12_460 kX12_rules ⟨by decide, by decide⟩ rfl (Nat.le_of_ble_eq_true rfl) (rc_X12_rules hG ok.1) (fun S_230 h_230 => ?_)
  subst h_230
  have ok := ok.2
  exact r_return rfl dX12_come_233 (hR _ hx)
def F_come_219 (N : Nat) (x1 : Int32) (S : rS) : rS := (F_come_228 N x1 S)
def O_come_219 (N : Nat) (x1 : Int32) (S : rS) : Prop := O_come_228 N x1 S
set_option maxHeartbeats 4000000 in
theorem b_come_219 {G : zG} {E : rE} {S : rS} {N : Nat} {Q : Option Value → rS → Prop} {X : rS → Prop} (hG : zOK G) (hR : ∀ S', X S' → Q none S') {x1 : Int32} (ok : O_come_219 N x1 S) (hx : X (F_come_219 N x1 S)) : rX G E dX12_come mX12_come 219 [some (.ref E.1), some (.int x1), none] [] S Q := by
  unfold O_come_219 at ok
  unfold F_come_219 at hx
  refine r_goto (tgt := 228) dX12_come_219 (by decide) ?_
  exact rX.cutz (b_come_228 hG hR ok hx) ⟨rfl, rfl, trivial⟩
def F_come_189 (N : Nat) (x1 : Int32) (S : rS) : rS := (F_come_228 N x1 S)
def O_come_189 (N : Nat) (x1 : Int32) (S : rS) : Prop := O_come_228 N x1 S
set_option maxHeartbeats 4000000 in
theorem b_come_189 {G : zG} {E : rE} {S : rS} {N : Nat} {Q : Option Value → rS → Prop} {X : rS → Prop} (hG : zOK G) (hR : ∀ S', X S' → Q none S') {x1 : Int32} (ok : O_come_189 N x1 S) (hx : X (F_come_189 N x1 S)) : rX G E dX12_come mX12_come 189 [some (.ref E.1), some (.int x1), none] [] S Q := by
  unfold O_come_189 at ok
  unfold F_come_189 at hx
  refine r_goto (tgt := 228) dX12_come_189 (by decide) ?_
  exact rX.cutz (b_come_228 hG hR ok hx) ⟨rfl, rfl, trivial⟩
def F_come_179 (N : Nat) (x1 : Int32) (x2 : Int32) (S : rS) : rS := (F_come_189 N x1 (f_answer N S x1 x2 (S.1 38)))
def O_come_179 (N : Nat) (x1 : Int32) (x2 : Int32) (S : rS) : Prop := (o_answer N S x1 x2 (S.1 38)) ∧ O_come_189 N x1 (f_answer N S x1 x2 (S.1 38))
set_option maxHeartbeats 4000000 in
theorem b_come_179 {G : zG} {E : rE} {S : rS} {N : Nat} {Q : Option Value → rS → Prop} {X : rS → Prop} (hG : zOK G) (hR : ∀ S', X S' → Q none S') {x1 : Int32} {x2 : Int32} (ok : O_come_179 N x1 x2 S) (hx : X (F_come_179 N x1 x2 S)) : rX G E dX12_come mX12_come 179 [some (.ref E.1), some (.int x1), some (.int x2)] [] S Q := by
  unfold O_come_179 at ok
  unfold F_come_179 at hx
  refine r_aload_n dX12_come_179 rfl rfl ?_
  refine r_iload_n dX12_come_180 rfl rfl ?_
  refine r_iload_n dX12_come_181 rfl rfl ?_
  refine r_aload_n dX12_come_182 rfl rfl ?_
  refine r_getI 38 fX12_257 (by decide) (by decide) dX12_come_183 ?_
  refine r_V3v (y' := mX12_answer) dX12_come_186 lX12_664 kX12_answer ⟨by decide, by decide⟩ rfl (Nat.le_of_ble_eq_true rfl) (rc_X12_answer hG ok.1) (fun S_186 h_186 => ?_)
  subst h_186
  have ok := ok.2
  exact rX.cutz (b_come_189 hG hR ok hx) ⟨rfl, rfl, trivial⟩
def F_come_147 (N : Nat) (x1 : Int32) (S : rS) : rS := (F_come_228 N x1 S)
def O_come_147 (N : Nat) (x1 : Int32) (S : rS) : Prop := O_come_228 N x1 S
set_option maxHeartbeats 4000000 in
theorem b_come_147 {G : zG} {E : rE} {S : rS} {N : Nat} {Q : Option Value → rS → Prop} {X : rS → Prop} (hG : zOK G) (hR : ∀ S', X S' → Q none S') {x1 : Int32} (ok : O_come_147 N x1 S) (hx : X (F_come_147 N x1 S)) : rX G E dX12_come mX12_come 147 [some (.ref E.1), some (.int x1), none] [] S Q := by
  unfold O_come_147 at ok
  unfold F_come_147 at hx
  refine r_goto (tgt := 228) dX12_come_147 (by decide) ?_
  exact rX.cutz (b_come_228 hG hR ok hx) ⟨rfl, rfl, trivial⟩
def F_come_112 (N : Nat) (x1 : Int32) (S : rS) : rS := (F_come_228 N x1 S)
def O_come_112 (N : Nat) (x1 : Int32) (S : rS) : Prop := O_come_228 N x1 S
set_option maxHeartbeats 4000000 in
theorem b_come_112 {G : zG} {E : rE} {S : rS} {N : Nat} {Q : Option Value → rS → Prop} {X : rS → Prop} (hG : zOK G) (hR : ∀ S', X S' → Q none S') {x1 : Int32} (ok : O_come_112 N x1 S) (hx : X (F_come_112 N x1 S)) : rX G E dX12_come mX12_come 112 [some (.ref E.1), some (.int x1), none] [] S Q := by
  unfold O_come_112 at ok
  unfold F_come_112 at hx
  refine r_goto (tgt := 228) dX12_come_112 (by decide) ?_
  exact rX.cutz (b_come_228 hG hR ok hx) ⟨rfl, rfl, trivial⟩
def F_come_99 (N : Nat) (x1 : Int32) (x2 : Int32) (s0 : Int32) (S : rS) : rS := (if s0 = 0 then (F_come_228 N x1 S) else (F_come_112 N x1 (f_sendOn N S x1 x2 (S.1 37))))
def O_come_99 (N : Nat) (x1 : Int32) (x2 : Int32) (s0 : Int32) (S : rS) : Prop := ((s0 = 0 → O_come_228 N x1 S) ∧ (¬ s0 = 0 → (o_sendOn N S x1 x2 (S.1 37)) ∧ O_come_112 N x1 (f_sendOn N S x1 x2 (S.1 37))))
set_option maxHeartbeats 4000000 in
theorem b_come_99 {G : zG} {E : rE} {S : rS} {N : Nat} {Q : Option Value → rS → Prop} {X : rS → Prop} (hG : zOK G) (hR : ∀ S', X S' → Q none S') {x1 : Int32} {x2 : Int32} {s0 : Int32} (ok : O_come_99 N x1 x2 s0 S) (hx : X (F_come_99 N x1 x2 s0 S)) : rX G E dX12_come mX12_come 99 [some (.ref E.1), some (.int x1), some (.int x2)] [.int s0] S Q := by
  unfold O_come_99 at ok
  unfold F_come_99 at hx
  refine r_if_eq (tgt := 228) dX12_come_99 (by decide) (fun c_99 => ?_) (fun c_99 => ?_)
  · have ok := ok.1 c_99
    have hx := xif_p c_99 hx
    exact rX.cutz (b_come_228 hG hR ok hx) ⟨rfl, rfl, trivial⟩
  · have ok := ok.2 c_99
    have hx := xif_n c_99 hx
    refine r_aload_n dX12_come_102 rfl rfl ?_
    refine r_iload_n dX12_come_103 rfl rfl ?_
    refine r_iload_n dX12_come_104 rfl rfl ?_
    refine r_aload_n dX12_come_105 rfl rfl ?_
    refine r_getI 37 fX12_260 (by decide) (by decide) dX12_come_106 ?_
    refine r_V3v (y' := mX12_sendOn) dX12_come_109 lX12_655 kX12_sendOn ⟨by decide, by decide⟩ rfl (Nat.le_of_ble_eq_true rfl) (rc_X12_sendOn hG ok.1) (fun S_109 h_109 => ?_)
    subst h_109
    have ok := ok.2
    exact rX.cutz (b_come_112 hG hR ok hx) ⟨rfl, rfl, trivial⟩
def F_come_82 (N : Nat) (x1 : Int32) (S : rS) : rS := (F_come_228 N x1 S)
def O_come_82 (N : Nat) (x1 : Int32) (S : rS) : Prop := O_come_228 N x1 S
set_option maxHeartbeats 4000000 in
theorem b_come_82 {G : zG} {E : rE} {S : rS} {N : Nat} {Q : Option Value → rS → Prop} {X : rS → Prop} (hG : zOK G) (hR : ∀ S', X S' → Q none S') {x1 : Int32} (ok : O_come_82 N x1 S) (hx : X (F_come_82 N x1 S)) : rX G E dX12_come mX12_come 82 [some (.ref E.1), some (.int x1), none] [] S Q := by
  unfold O_come_82 at ok
  unfold F_come_82 at hx
  refine r_goto (tgt := 228) dX12_come_82 (by decide) ?_
  exact rX.cutz (b_come_228 hG hR ok hx) ⟨rfl, rfl, trivial⟩
def F_come_72 (N : Nat) (x1 : Int32) (x2 : Int32) (s0 : Int32) (S : rS) : rS := (if s0 = 0 then (F_come_228 N x1 S) else (F_come_82 N x1 (f_sendOn N S x1 x2 (-1))))
def O_come_72 (N : Nat) (x1 : Int32) (x2 : Int32) (s0 : Int32) (S : rS) : Prop := ((s0 = 0 → O_come_228 N x1 S) ∧ (¬ s0 = 0 → (o_sendOn N S x1 x2 (-1)) ∧ O_come_82 N x1 (f_sendOn N S x1 x2 (-1))))
set_option maxHeartbeats 4000000 in
theorem b_come_72 {G : zG} {E : rE} {S : rS} {N : Nat} {Q : Option Value → rS → Prop} {X : rS → Prop} (hG : zOK G) (hR : ∀ S', X S' → Q none S') {x1 : Int32} {x2 : Int32} {s0 : Int32} (ok : O_come_72 N x1 x2 s0 S) (hx : X (F_come_72 N x1 x2 s0 S)) : rX G E dX12_come mX12_come 72 [some (.ref E.1), some (.int x1), some (.int x2)] [.int s0] S Q := by
  unfold O_come_72 at ok
  unfold F_come_72 at hx
  refine r_if_eq (tgt := 228) dX12_come_72 (by decide) (fun c_72 => ?_) (fun c_72 => ?_)
  · have ok := ok.1 c_72
    have hx := xif_p c_72 hx
    exact rX.cutz (b_come_228 hG hR ok hx) ⟨rfl, rfl, trivial⟩
  · have ok := ok.2 c_72
    have hx := xif_n c_72 hx
    refine r_aload_n dX12_come_75 rfl rfl ?_
    refine r_iload_n dX12_come_76 rfl rfl ?_
    refine r_iload_n dX12_come_77 rfl rfl ?_
    refine r_iconst (v := -1) dX12_come_78 (by decide) ?_
    refine r_V3v (y' := mX12_sendOn) dX12_come_79 lX12_655 kX12_sendOn ⟨by decide, by decide⟩ rfl (Nat.le_of_ble_eq_true rfl) (rc_X12_sendOn hG ok.1) (fun S_79 h_79 => ?_)
    subst h_79
    have ok := ok.2
    exact rX.cutz (b_come_82 hG hR ok hx) ⟨rfl, rfl, trivial⟩
def F_come_4 (N : Nat) (x1 : Int32) (x2 : Int32) (s0 : Int32) (S : rS) : rS := (if s0 = 0 then S else (if (S.1 36) = 0 then (F_come_72 N x1 x2 ((f_toPool N S x1 (S.2.1 32 (nI 1).toNatClampNeg) (S.2.1 32 (nI 2).toNatClampNeg) (((S.2.1 32 (nI 3).toNatClampNeg) <<< ((nI 8) &&& 31)) ||| (S.2.1 32 (nI 4).toNatClampNeg)) (((S.2.1 32 (nI 5).toNatClampNeg) <<< ((nI 8) &&& 31)) ||| (S.2.1 32 (nI 6).toNatClampNeg)) (S.2.1 32 (nI 7).toNatClampNeg)).1) (f_toPool N S x1 (S.2.1 32 (nI 1).toNatClampNeg) (S.2.1 32 (nI 2).toNatClampNeg) (((S.2.1 32 (nI 3).toNatClampNeg) <<< ((nI 8) &&& 31)) ||| (S.2.1 32 (nI 4).toNatClampNeg)) (((S.2.1 32 (nI 5).toNatClampNeg) <<< ((nI 8) &&& 31)) ||| (S.2.1 32 (nI 6).toNatClampNeg)) (S.2.1 32 (nI 7).toNatClampNeg)).2) else (if (S.1 36) = (nI 6) then (F_come_99 N x1 x2 ((f_keepProof N S x1).1) (f_keepProof N S x1).2) else (if (S.1 36) = (nI 7) then (if (S.1 38) ≤ (S.2.1 44 x1.toNatClampNeg) then (F_come_228 N x1 S) else (F_come_147 N x1 (f_keepSnap N S (((nI 13) * x1) + x2)))) else (if (S.2.1 44 x1.toNatClampNeg) ≤ (S.1 38) then (if (S.1 36) = (nI 5) then (if (S.1 38) = (S.2.1 44 x1.toNatClampNeg) then (F_come_219 N x1 (f_answerHeld N S x1 x2)) else (F_come_228 N x1 S)) else (F_come_228 N x1 (f_arrive N S x1 x2))) else (if (S.1 36) = (nI 5) then (F_come_179 N x1 x2 S) else (if (S.1 37) = x2 then (F_come_179 N x1 x2 S) else (F_come_228 N x1 S))))))))
def O_come_4 (N : Nat) (x1 : Int32) (x2 : Int32) (s0 : Int32) (S : rS) : Prop := ((s0 = 0 → True) ∧ (¬ s0 = 0 → (((S.1 36) = 0 → (vp_in (nI 1) 1010) ∧ (vp_in (nI 2) 1010) ∧ (vp_in (nI 3) 1010) ∧ (vp_in (nI 4) 1010) ∧ (vp_in (nI 5) 1010) ∧ (vp_in (nI 6) 1010) ∧ (vp_in (nI 7) 1010) ∧ (o_toPool N S x1 (S.2.1 32 (nI 1).toNatClampNeg) (S.2.1 32 (nI 2).toNatClampNeg) (((S.2.1 32 (nI 3).toNatClampNeg) <<< ((nI 8) &&& 31)) ||| (S.2.1 32 (nI 4).toNatClampNeg)) (((S.2.1 32 (nI 5).toNatClampNeg) <<< ((nI 8) &&& 31)) ||| (S.2.1 32 (nI 6).toNatClampNeg)) (S.2.1 32 (nI 7).toNatClampNeg)) ∧ O_come_72 N x1 x2 ((f_toPool N S x1 (S.2.1 32 (nI 1).toNatClampNeg) (S.2.1 32 (nI 2).toNatClampNeg) (((S.2.1 32 (nI 3).toNatClampNeg) <<< ((nI 8) &&& 31)) ||| (S.2.1 32 (nI 4).toNatClampNeg)) (((S.2.1 32 (nI 5).toNatClampNeg) <<< ((nI 8) &&& 31)) ||| (S.2.1 32 (nI 6).toNatClampNeg)) (S.2.1 32 (nI 7).toNatClampNeg)).1) (f_toPool N S x1 (S.2.1 32 (nI 1).toNatClampNeg) (S.2.1 32 (nI 2).toNatClampNeg) (((S.2.1 32 (nI 3).toNatClampNeg) <<< ((nI 8) &&& 31)) ||| (S.2.1 32 (nI 4).toNatClampNeg)) (((S.2.1 32 (nI 5).toNatClampNeg) <<< ((nI 8) &&& 31)) ||| (S.2.1 32 (nI 6).toNatClampNeg)) (S.2.1 32 (nI 7).toNatClampNeg)).2) ∧ (¬ (S.1 36) = 0 → (((S.1 36) = (nI 6) → (o_keepProof N S x1) ∧ O_come_99 N x1 x2 ((f_keepProof N S x1).1) (f_keepProof N S x1).2) ∧ (¬ (S.1 36) = (nI 6) → (((S.1 36) = (nI 7) → (vp_in x1 13) ∧ (((S.1 38) ≤ (S.2.1 44 x1.toNatClampNeg) → O_come_228 N x1 S) ∧ (¬ (S.1 38) ≤ (S.2.1 44 x1.toNatClampNeg) → (o_keepSnap N S (((nI 13) * x1) + x2)) ∧ O_come_147 N x1 (f_keepSnap N S (((nI 13) * x1) + x2))))) ∧ (¬ (S.1 36) = (nI 7) → (vp_in x1 13) ∧ (((S.2.1 44 x1.toNatClampNeg) ≤ (S.1 38) → (((S.1 36) = (nI 5) → (vp_in x1 13) ∧ (((S.1 38) = (S.2.1 44 x1.toNatClampNeg) → (o_answerHeld N S x1 x2) ∧ O_come_219 N x1 (f_answerHeld N S x1 x2)) ∧ (¬ (S.1 38) = (S.2.1 44 x1.toNatClampNeg) → O_come_228 N x1 S))) ∧ (¬ (S.1 36) = (nI 5) → (o_arrive N S x1 x2) ∧ O_come_228 N x1 (f_arrive N S x1 x2)))) ∧ (¬ (S.2.1 44 x1.toNatClampNeg) ≤ (S.1 38) → (((S.1 36) = (nI 5) → O_come_179 N x1 x2 S) ∧ (¬ (S.1 36) = (nI 5) → (((S.1 37) = x2 → O_come_179 N x1 x2 S) ∧ (¬ (S.1 37) = x2 → O_come_228 N x1 S))))))))))))))
set_option maxHeartbeats 4000000 in
theorem b_come_4 {G : zG} {E : rE} {S : rS} {N : Nat} {Q : Option Value → rS → Prop} {X : rS → Prop} (hG : zOK G) (hR : ∀ S', X S' → Q none S') {x1 : Int32} {x2 : Int32} {s0 : Int32} (ok : O_come_4 N x1 x2 s0 S) (hx : X (F_come_4 N x1 x2 s0 S)) : rX G E dX12_come mX12_come 4 [some (.ref E.1), some (.int x1), some (.int x2)] [.int s0] S Q := by
  unfold O_come_4 at ok
  unfold F_come_4 at hx
  refine r_if_ne (tgt := 8) dX12_come_4 (by decide) (fun c_4 => ?_) (fun c_4 => ?_)
  · have ok := ok.2 c_4
    have hx := xif_n c_4 hx
    refine r_aload_n dX12_come_8 rfl rfl ?_
    refine r_getI 36 fX12_282 (by decide) (by decide) dX12_come_9 ?_
    refine r_if_ne (tgt := 85) dX12_come_12 (by decide) (fun c_12 => ?_) (fun c_12 => ?_)
    · have ok := ok.2 c_12
      have hx := xif_n c_12 hx
      refine r_aload_n dX12_come_85 rfl rfl ?_
      refine r_getI 36 fX12_282 (by decide) (by decide) dX12_come_86 ?_
      refine r_bipush (v := nI 6) dX12_come_89 (by decide) ?_
      refine r_icmp_ne (tgt := 115) dX12_come_91 (by decide) (fun c_91 => ?_) (fun c_91 => ?_)
      · have ok := ok.2 c_91
        have hx := xif_n c_91 hx
        refine r_aload_n dX12_come_115 rfl rfl ?_
        refine r_getI 36 fX12_282 (by decide) (by decide) dX12_come_116 ?_
        refine r_bipush (v := nI 7) dX12_come_119 (by decide) ?_
        refine r_icmp_ne (tgt := 150) dX12_come_121 (by decide) (fun c_121 => ?_) (fun c_121 => ?_)
        · have ok := ok.2 c_121
          have hx := xif_n c_121 hx
          refine r_aload_n dX12_come_150 rfl rfl ?_
          refine r_getI 38 fX12_257 (by decide) (by decide) dX12_come_151 ?_
          refine r_aload_n dX12_come_154 rfl rfl ?_
          refine r_getA 44 fX12_309 (by decide) (by decide) dX12_come_155 ?_
          refine r_iload_n dX12_come_158 rfl rfl ?_
          refine r_iald (by decide) (by decide) dX12_come_159 ok.1 ?_
          have ok := ok.2
          refine r_icmp_ge (tgt := 192) dX12_come_160 (by decide) (fun c_160 => ?_) (fun c_160 => ?_)
          · have ok := ok.1 c_160
            have hx := xif_p c_160 hx
            refine r_aload_n dX12_come_192 rfl rfl ?_
            refine r_getI 36 fX12_282 (by decide) (by decide) dX12_come_193 ?_
            refine r_iconst (v := nI 5) dX12_come_196 (by decide) ?_
            refine r_icmp_ne (tgt := 222) dX12_come_197 (by decide) (fun c_197 => ?_) (fun c_197 => ?_)
            · have ok := ok.2 c_197
              have hx := xif_n c_197 hx
              refine r_aload_n dX12_come_222 rfl rfl ?_
              refine r_iload_n dX12_come_223 rfl rfl ?_
              refine r_iload_n dX12_come_224 rfl rfl ?_
              refine r_V2v (y' := mX12_arrive) dX12_come_225 lX12_670 kX12_arrive ⟨by decide, by decide⟩ rfl (Nat.le_of_ble_eq_true rfl) (rc_X12_arrive hG ok.1) (fun S_225 h_225 => ?_)
              subst h_225
              have ok := ok.2
              exact rX.cutz (b_come_228 hG hR ok hx) ⟨rfl, rfl, trivial⟩
            · have ok := ok.1 c_197
              have hx := xif_p c_197 hx
              refine r_aload_n dX12_come_200 rfl rfl ?_
              refine r_getI 38 fX12_257 (by decide) (by decide) dX12_come_201 ?_
              refine r_aload_n dX12_come_204 rfl rfl ?_
              refine r_getA 44 fX12_309 (by decide) (by decide) dX12_come_205 ?_
              refine r_iload_n dX12_come_208 rfl rfl ?_
              refine r_iald (by decide) (by decide) dX12_come_209 ok.1 ?_
              have ok := ok.2
              refine r_icmp_ne (tgt := 228) dX12_come_210 (by decide) (fun c_210 => ?_) (fun c_210 => ?_)
              · have ok := ok.2 c_210
                have hx := xif_n c_210 hx
                exact rX.cutz (b_come_228 hG hR ok hx) ⟨rfl, rfl, trivial⟩
              · have ok := ok.1 c_210
                have hx := xif_p c_210 hx
                refine r_aload_n dX12_come_213 rfl rfl ?_
                refine r_iload_n dX12_come_214 rfl rfl ?_
                refine r_iload_n dX12_come_215 rfl rfl ?_
                refine r_V2v (y' := mX12_answerHeld) dX12_come_216 lX12_667 kX12_answerHeld ⟨by decide, by decide⟩ rfl (Nat.le_of_ble_eq_true rfl) (rc_X12_answerHeld hG ok.1) (fun S_216 h_216 => ?_)
                subst h_216
                have ok := ok.2
                exact rX.cutz (b_come_219 hG hR ok hx) ⟨rfl, rfl, trivial⟩
          · have ok := ok.2 c_160
            have hx := xif_n c_160 hx
            refine r_aload_n dX12_come_163 rfl rfl ?_
            refine r_getI 36 fX12_282 (by decide) (by decide) dX12_come_164 ?_
            refine r_iconst (v := nI 5) dX12_come_167 (by decide) ?_
            refine r_icmp_eq (tgt := 179) dX12_come_168 (by decide) (fun c_168 => ?_) (fun c_168 => ?_)
            · have ok := ok.1 c_168
              have hx := xif_p c_168 hx
              exact rX.cutz (b_come_179 hG hR ok hx) ⟨rfl, rfl, rfl, trivial⟩
            · have ok := ok.2 c_168
              have hx := xif_n c_168 hx
              refine r_aload_n dX12_come_171 rfl rfl ?_
              refine r_getI 37 fX12_260 (by decide) (by decide) dX12_come_172 ?_
              refine r_iload_n dX12_come_175 rfl rfl ?_
              refine r_icmp_ne (tgt := 228) dX12_come_176 (by decide) (fun c_176 => ?_) (fun c_176 => ?_)
              · have ok := ok.2 c_176
                have hx := xif_n c_176 hx
                exact rX.cutz (b_come_228 hG hR ok hx) ⟨rfl, rfl, trivial⟩
              · have ok := ok.1 c_176
                have hx := xif_p c_176 hx
                exact rX.cutz (b_come_179 hG hR ok hx) ⟨rfl, rfl, rfl, trivial⟩
        · have ok := ok.1 c_121
          have hx := xif_p c_121 hx
          refine r_aload_n dX12_come_124 rfl rfl ?_
          refine r_getI 38 fX12_257 (by decide) (by decide) dX12_come_125 ?_
          refine r_aload_n dX12_come_128 rfl rfl ?_
          refine r_getA 44 fX12_309 (by decide) (by decide) dX12_come_129 ?_
          refine r_iload_n dX12_come_132 rfl rfl ?_
          refine r_iald (by decide) (by decide) dX12_come_133 ok.1 ?_
          have ok := ok.2
          refine r_icmp_le (tgt := 228) dX12_come_134 (by decide) (fun c_134 => ?_) (fun c_134 => ?_)
          · have ok := ok.1 c_134
            have hx := xif_p c_134 hx
            exact rX.cutz (b_come_228 hG hR ok hx) ⟨rfl, rfl, trivial⟩
          · have ok := ok.2 c_134
            have hx := xif_n c_134 hx
            refine r_aload_n dX12_come_137 rfl rfl ?_
            refine r_bipush (v := nI 13) dX12_come_138 (by decide) ?_
            refine r_iload_n dX12_come_140 rfl rfl ?_
            refine r_imul dX12_come_141 ?_
            refine r_iload_n dX12_come_142 rfl rfl ?_
            refine r_iadd dX12_come_143 ?_
            refine r_V1v (y' := mX12_keepSnap) dX12_come_144 lX12_661 kX12_keepSnap ⟨by decide, by decide⟩ rfl (Nat.le_of_ble_eq_true rfl) (rc_X12_keepSnap hG ok.1) (fun S_144 h_144 => ?_)
            subst h_144
            have ok := ok.2
            exact rX.cutz (b_come_147 hG hR ok hx) ⟨rfl, rfl, trivial⟩
      · have ok := ok.1 c_91
        have hx := xif_p c_91 hx
        refine r_aload_n dX12_come_94 rfl rfl ?_
        refine r_iload_n dX12_come_95 rfl rfl ?_
        refine r_V1i (y' := mX12_keepProof) dX12_come_96 lX12_658 kX12_keepProof ⟨by decide, by decide⟩ rfl (Nat.le_of_ble_eq_true rfl) (rc_X12_keepProof hG ok.1) (fun v_96 S_96 h_96 => ?_)
        obtain ⟨rfl, hS_96⟩ := h_96
        have hS_96 := hS_96.symm
        subst hS_96
        have ok := ok.2
        exact rX.cutz (b_come_99 hG hR ok hx) ⟨rfl, rfl, rfl, trivial⟩
    · have ok := ok.1 c_12
      have hx := xif_p c_12 hx
      refine r_aload_n dX12_come_15 rfl rfl ?_
      refine r_iload_n dX12_come_16 rfl rfl ?_
      refine r_aload_n dX12_come_17 rfl rfl ?_
      refine r_getA 32 fX12_204 (by decide) (by decide) dX12_come_18 ?_
      refine r_iconst (v := nI 1) dX12_come_21 (by decide) ?_
      refine r_iald (by decide) (by decide) dX12_come_22 ok.1 ?_
      have ok := ok.2
      refine r_aload_n dX12_come_23 rfl rfl ?_
      refine r_getA 32 fX12_204 (by decide) (by decide) dX12_come_24 ?_
      refine r_iconst (v := nI 2) dX12_come_27 (by decide) ?_
      refine r_iald (by decide) (by decide) dX12_come_28 ok.1 ?_
      have ok := ok.2
      refine r_aload_n dX12_come_29 rfl rfl ?_
      refine r_getA 32 fX12_204 (by decide) (by decide) dX12_come_30 ?_
      refine r_iconst (v := nI 3) dX12_come_33 (by decide) ?_
      refine r_iald (by decide) (by decide) dX12_come_34 ok.1 ?_
      have ok := ok.2
      refine r_bipush (v := nI 8) dX12_come_35 (by decide) ?_
      refine r_ishl dX12_come_37 ?_
      refine r_aload_n dX12_come_38 rfl rfl ?_
      refine r_getA 32 fX12_204 (by decide) (by decide) dX12_come_39 ?_
      refine r_iconst (v := nI 4) dX12_come_42 (by decide) ?_
      refine r_iald (by decide) (by decide) dX12_come_43 ok.1 ?_
      have ok := ok.2
      refine r_ior dX12_come_44 ?_
      refine r_aload_n dX12_come_45 rfl rfl ?_
      refine r_getA 32 fX12_204 (by decide) (by decide) dX12_come_46 ?_
      refine r_iconst (v := nI 5) dX12_come_49 (by decide) ?_
      refine r_iald (by decide) (by decide) dX12_come_50 ok.1 ?_
      have ok := ok.2
      refine r_bipush (v := nI 8) dX12_come_51 (by decide) ?_
      refine r_ishl dX12_come_53 ?_
      refine r_aload_n dX12_come_54 rfl rfl ?_
      refine r_getA 32 fX12_204 (by decide) (by decide) dX12_come_55 ?_
      refine r_bipush (v := nI 6) dX12_come_58 (by decide) ?_
      refine r_iald (by decide) (by decide) dX12_come_60 ok.1 ?_
      have ok := ok.2
      refine r_ior dX12_come_61 ?_
      refine r_aload_n dX12_come_62 rfl rfl ?_
      refine r_getA 32 fX12_204 (by decide) (by decide) dX12_come_63 ?_
      refine r_bipush (v := nI 7) dX12_come_66 (by decide) ?_
      refine r_iald (by decide) (by decide) dX12_come_68 ok.1 ?_
      have ok := ok.2
      refine r_V6i (y' := mX12_toPool) dX12_come_69 lX12_652 kX12_toPool ⟨by decide, by decide⟩ rfl (Nat.le_of_ble_eq_true rfl) (rc_X12_toPool hG ok.1) (fun v_69 S_69 h_69 => ?_)
      obtain ⟨rfl, hS_69⟩ := h_69
      have hS_69 := hS_69.symm
      subst hS_69
      have ok := ok.2
      exact rX.cutz (b_come_72 hG hR ok hx) ⟨rfl, rfl, rfl, trivial⟩
  · have ok := ok.1 c_4
    have hx := xif_p c_4 hx
    exact r_return rfl dX12_come_7 (hR _ hx)
def F_come_0 (N : Nat) (x1 : Int32) (x2 : Int32) (S : rS) : rS := (F_come_4 N x1 x2 ((f_read N S).1) (f_read N S).2)
def O_come_0 (N : Nat) (x1 : Int32) (x2 : Int32) (S : rS) : Prop := (o_read N S) ∧ O_come_4 N x1 x2 ((f_read N S).1) (f_read N S).2
set_option maxHeartbeats 4000000 in
theorem b_come_0 {G : zG} {E : rE} {S : rS} {N : Nat} {Q : Option Value → rS → Prop} {X : rS → Prop} (hG : zOK G) (hR : ∀ S', X S' → Q none S') {x1 : Int32} {x2 : Int32} (ok : O_come_0 N x1 x2 S) (hx : X (F_come_0 N x1 x2 S)) : rX G E dX12_come mX12_come 0 [some (.ref E.1), some (.int x1), some (.int x2)] [] S Q := by
  unfold O_come_0 at ok
  unfold F_come_0 at hx
  refine r_aload_n dX12_come_0 rfl rfl ?_
  refine r_V0i (y' := mX12_read) dX12_come_1 lX12_649 kX12_read ⟨by decide, by decide⟩ rfl (Nat.le_of_ble_eq_true rfl) (rc_X12_read hG ok.1) (fun v_1 S_1 h_1 => ?_)
  obtain ⟨rfl, hS_1⟩ := h_1
  have hS_1 := hS_1.symm
  subst hS_1
  have ok := ok.2
  exact rX.cutz (b_come_4 hG hR ok hx) ⟨rfl, rfl, rfl, trivial⟩
def f_come (N : Nat) (S : rS) (x1 : Int32) (x2 : Int32) : rS := F_come_0 N x1 x2 S
def o_come (N : Nat) (S : rS) (x1 : Int32) (x2 : Int32) : Prop := O_come_0 N x1 x2 S
set_option maxHeartbeats 4000000 in
theorem rc_X12_come {G : zG} {E : rE} {S : rS} {N : Nat} (hG : zOK G) {x1 : Int32} {x2 : Int32} (ok : o_come N S x1 x2) : rCv G E dX12_come mX12_come [.ref E.1, .int x1, .int x2] S (fun S' => S' = f_come N S x1 x2) := by
  refine rC.ofX rfl (Nat.le_of_ble_eq_true rfl) ?_
  show rX G E dX12_come mX12_come 0 [some (.ref E.1), some (.int x1), some (.int x2)] [] S _
  exact rX.cutz (b_come_0 (X := fun F => F = f_come N S x1 x2) hG (fun S' h => ⟨rfl, h⟩) ok rfl) ⟨rfl, rfl, rfl, trivial⟩
/-! mayLie -/
def F_mayLie_52 (N : Nat) (s0 : Int32) (S : rS) : Int32 := s0
def O_mayLie_52 (N : Nat) (s0 : Int32) (S : rS) : Prop := narrow .boolean (.int s0) = .int s0
set_option maxHeartbeats 4000000 in
theorem b_mayLie_52 {G : zG} {E : rE} {S : rS} {N : Nat} {Q : Option Value → rS → Prop} {X : Int32 → Prop} (hG : zOK G) (hR : ∀ v, X v → Q (some (.int v)) S) {s0 : Int32} (ok : O_mayLie_52 N s0 S) (hx : X (F_mayLie_52 N s0 S)) : rX G E dX12_mayLie mX12_mayLie 52 [none, none, none] [.int s0] S Q := by
  unfold O_mayLie_52 at ok
  unfold F_mayLie_52 at hx
  exact r_ireturn rfl ok dX12_mayLie_52 (hR _ hx)
def F_mayLie_51 (N : Nat)  (S : rS) : Int32 := (F_mayLie_52 N (nI 0) S)
def O_mayLie_51 (N : Nat)  (S : rS) : Prop := O_mayLie_52 N (nI 0) S
set_option maxHeartbeats 4000000 in
theorem b_mayLie_51 {G : zG} {E : rE} {S : rS} {N : Nat} {Q : Option Value → rS → Prop} {X : Int32 → Prop} (hG : zOK G) (hR : ∀ v, X v → Q (some (.int v)) S) (ok : O_mayLie_51 N S) (hx : X (F_mayLie_51 N S)) : rX G E dX12_mayLie mX12_mayLie 51 [none, none, none] [] S Q := by
  unfold O_mayLie_51 at ok
  unfold F_mayLie_51 at hx
  refine r_iconst (v := nI 0) dX12_mayLie_51 (by decide) ?_
  exact rX.cutz (b_mayLie_52 hG hR ok hx) trivial
def F_mayLie_0 (N : Nat) (x1 : Int32) (x2 : Int32) (S : rS) : Int32 := (if (f_isHonest N S x1) = 0 then (if x1 < 0 then (F_mayLie_51 N S) else (if (S.1 0) ≤ x1 then (F_mayLie_51 N S) else (if x2 < 0 then (F_mayLie_51 N S) else (if (S.1 0) ≤ x2 then (F_mayLie_51 N S) else (if x2 = x1 then (F_mayLie_51 N S) else (if (nI 1000) ≤ (S.1 23) then (F_mayLie_51 N S) else (F_mayLie_52 N (nI 1) S))))))) else (F_mayLie_51 N S))
def O_mayLie_0 (N : Nat) (x1 : Int32) (x2 : Int32) (S : rS) : Prop := (o_isHonest N S x1) ∧ (((f_isHonest N S x1) = 0 → ((x1 < 0 → O_mayLie_51 N S) ∧ (¬ x1 < 0 → (((S.1 0) ≤ x1 → O_mayLie_51 N S) ∧ (¬ (S.1 0) ≤ x1 → ((x2 < 0 → O_mayLie_51 N S) ∧ (¬ x2 < 0 → (((S.1 0) ≤ x2 → O_mayLie_51 N S) ∧ (¬ (S.1 0) ≤ x2 → ((x2 = x1 → O_mayLie_51 N S) ∧ (¬ x2 = x1 → (((nI 1000) ≤ (S.1 23) → O_mayLie_51 N S) ∧ (¬ (nI 1000) ≤ (S.1 23) → O_mayLie_52 N (nI 1) S))))))))))))) ∧ (¬ (f_isHonest N S x1) = 0 → O_mayLie_51 N S))
set_option maxHeartbeats 4000000 in
theorem b_mayLie_0 {G : zG} {E : rE} {S : rS} {N : Nat} {Q : Option Value → rS → Prop} {X : Int32 → Prop} (hG : zOK G) (hR : ∀ v, X v → Q (some (.int v)) S) {x1 : Int32} {x2 : Int32} (ok : O_mayLie_0 N x1 x2 S) (hx : X (F_mayLie_0 N x1 x2 S)) : rX G E dX12_mayLie mX12_mayLie 0 [some (.ref E.1), some (.int x1), some (.int x2)] [] S Q := by
  unfold O_mayLie_0 at ok
  unfold F_mayLie_0 at hx
  refine r_aload_n dX12_mayLie_0 rfl rfl ?_
  refine r_iload_n dX12_mayLie_1 rfl rfl ?_
  refine r_V1i (y' := mX12_isHonest) dX12_mayLie_2 lX12_155 kX12_isHonest ⟨by decide, by decide⟩ rfl (Nat.le_of_ble_eq_true rfl) (rc_X12_isHonest hG ok.1) (fun v_2 S_2 h_2 => ?_)
  obtain ⟨rfl, hS_2⟩ := h_2
  have hS_2 := hS_2.symm
  subst hS_2
  have ok := ok.2
  refine r_if_ne (tgt := 51) dX12_mayLie_5 (by decide) (fun c_5 => ?_) (fun c_5 => ?_)
  · have ok := ok.2 c_5
    have hx := xif_n c_5 hx
    exact rX.cutz (b_mayLie_51 hG hR ok hx) trivial
  · have ok := ok.1 c_5
    have hx := xif_p c_5 hx
    refine r_iload_n dX12_mayLie_8 rfl rfl ?_
    refine r_if_lt (tgt := 51) dX12_mayLie_9 (by decide) (fun c_9 => ?_) (fun c_9 => ?_)
    · have ok := ok.1 c_9
      have hx := xif_p c_9 hx
      exact rX.cutz (b_mayLie_51 hG hR ok hx) trivial
    · have ok := ok.2 c_9
      have hx := xif_n c_9 hx
      refine r_iload_n dX12_mayLie_12 rfl rfl ?_
      refine r_aload_n dX12_mayLie_13 rfl rfl ?_
      refine r_getI 0 fX12_219 (by decide) (by decide) dX12_mayLie_14 ?_
      refine r_icmp_ge (tgt := 51) dX12_mayLie_17 (by decide) (fun c_17 => ?_) (fun c_17 => ?_)
      · have ok := ok.1 c_17
        have hx := xif_p c_17 hx
        exact rX.cutz (b_mayLie_51 hG hR ok hx) trivial
      · have ok := ok.2 c_17
        have hx := xif_n c_17 hx
        refine r_iload_n dX12_mayLie_20 rfl rfl ?_
        refine r_if_lt (tgt := 51) dX12_mayLie_21 (by decide) (fun c_21 => ?_) (fun c_21 => ?_)
        · have ok := ok.1 c_21
          have hx := xif_p c_21 hx
          exact rX.cutz (b_mayLie_51 hG hR ok hx) trivial
        · have ok := ok.2 c_21
          have hx := xif_n c_21 hx
          refine r_iload_n dX12_mayLie_24 rfl rfl ?_
          refine r_aload_n dX12_mayLie_25 rfl rfl ?_
          refine r_getI 0 fX12_219 (by decide) (by decide) dX12_mayLie_26 ?_
          refine r_icmp_ge (tgt := 51) dX12_mayLie_29 (by decide) (fun c_29 => ?_) (fun c_29 => ?_)
          · have ok := ok.1 c_29
            have hx := xif_p c_29 hx
            exact rX.cutz (b_mayLie_51 hG hR ok hx) trivial
          · have ok := ok.2 c_29
            have hx := xif_n c_29 hx
            refine r_iload_n dX12_mayLie_32 rfl rfl ?_
            refine r_iload_n dX12_mayLie_33 rfl rfl ?_
            refine r_icmp_eq (tgt := 51) dX12_mayLie_34 (by decide) (fun c_34 => ?_) (fun c_34 => ?_)
            · have ok := ok.1 c_34
              have hx := xif_p c_34 hx
              exact rX.cutz (b_mayLie_51 hG hR ok hx) trivial
            · have ok := ok.2 c_34
              have hx := xif_n c_34 hx
              refine r_aload_n dX12_mayLie_37 rfl rfl ?_
              refine r_getI 23 fX12_182 (by decide) (by decide) dX12_mayLie_38 ?_
              refine r_sipush (v := nI 1000) dX12_mayLie_41 (by decide) ?_
              refine r_icmp_ge (tgt := 51) dX12_mayLie_44 (by decide) (fun c_44 => ?_) (fun c_44 => ?_)
              · have ok := ok.1 c_44
                have hx := xif_p c_44 hx
                exact rX.cutz (b_mayLie_51 hG hR ok hx) trivial
              · have ok := ok.2 c_44
                have hx := xif_n c_44 hx
                refine r_iconst (v := nI 1) dX12_mayLie_47 (by decide) ?_
                refine r_goto (tgt := 52) dX12_mayLie_48 (by decide) ?_
                exact rX.cutz (b_mayLie_52 hG hR ok hx) trivial
def f_mayLie (N : Nat) (S : rS) (x1 : Int32) (x2 : Int32) : Int32 := F_mayLie_0 N x1 x2 S
def o_mayLie (N : Nat) (S : rS) (x1 : Int32) (x2 : Int32) : Prop := O_mayLie_0 N x1 x2 S
set_option maxHeartbeats 4000000 in
theorem rc_X12_mayLie {G : zG} {E : rE} {S : rS} {N : Nat} (hG : zOK G) {x1 : Int32} {x2 : Int32} (ok : o_mayLie N S x1 x2) : rCi G E dX12_mayLie mX12_mayLie [.ref E.1, .int x1, .int x2] S (fun v S' => v = f_mayLie N S x1 x2 ∧ S' = S) := by
  refine rC.ofX rfl (Nat.le_of_ble_eq_true rfl) ?_
  show rX G E dX12_mayLie mX12_mayLie 0 [some (.ref E.1), some (.int x1), some (.int x2)] [] S _
  exact rX.cutz (b_mayLie_0 (X := fun F => F = f_mayLie N S x1 x2) hG (fun v h => ⟨v, rfl, h, rfl⟩) ok rfl) ⟨rfl, rfl, rfl, trivial⟩

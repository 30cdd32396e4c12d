/-! join -/
def F_join_113 (N : Nat) (x1 : Int32) (S : rS) : Int32 × rS := (((x1 + (nI 1)) / (nI 2)), S)
def O_join_113 (N : Nat) (x1 : Int32) (S : rS) : Prop := True
set_option maxHeartbeats 4000000 in
theorem b_join_113 {G : zG} {E : rE} {S : rS} {N : Nat} {Q : Option Value → rS → Prop} {X : Int32 × rS → Prop} (hG : zOK G) (hR : ∀ v S', X (v, S') → Q (some (.int v)) S') {x1 : Int32} (ok : O_join_113 N x1 S) (hx : X (F_join_113 N x1 S)) : rX G E dX12_join mX12_join 113 [none, some (.int x1), none, none] [] S Q := by
  unfold O_join_113 at ok
  unfold F_join_113 at hx
  refine r_iload_n dX12_join_113 rfl rfl ?_
  refine r_iconst (v := nI 1) dX12_join_114 (by decide) ?_
  refine r_iadd dX12_join_115 ?_
  refine r_iconst (v := nI 2) dX12_join_116 (by decide) ?_
  refine r_idiv dX12_join_117 (by decide) ?_
  exact r_ireturn rfl rfl dX12_join_118 (hR _ _ hx)
def B_join_71 (N : Nat) (rec : Int32 → Int32 → rS → Nat × Int32 × rS) (x1 : Int32) (x2 : Int32) (S : rS) : Nat × Int32 × rS := (if (x1 - x1 / (nI 2) * (nI 2)) = (nI 1) then (if (nI 4) ≤ x2 then (0, x1, S) else (rec x1 (x2 + nI 1) (rsL S 18 (((nI 2) * (x1 - (nI 1))) + x2).toNatClampNeg (S.2.2 18 (((nI 4) * (x1 - (nI 1))) + x2).toNatClampNeg)))) else (0, x1, S))
def OB_join_71 (N : Nat) (rok : Int32 → Int32 → rS → Prop) (x1 : Int32) (x2 : Int32) (S : rS) : Prop := (((x1 - x1 / (nI 2) * (nI 2)) = (nI 1) → (((nI 4) ≤ x2 → True) ∧ (¬ (nI 4) ≤ x2 → (vp_in (((nI 4) * (x1 - (nI 1))) + x2) 272) ∧ (vp_in (((nI 2) * (x1 - (nI 1))) + x2) 272) ∧ rok x1 (x2 + nI 1) (rsL S 18 (((nI 2) * (x1 - (nI 1))) + x2).toNatClampNeg (S.2.2 18 (((nI 4) * (x1 - (nI 1))) + x2).toNatClampNeg))))) ∧ (¬ (x1 - x1 / (nI 2) * (nI 2)) = (nI 1) → True))
set_option maxHeartbeats 4000000 in
theorem bb_join_71 {G : zG} {E : rE} {S : rS} {N : Nat} {Q : Option Value → rS → Prop} {X : Nat × Int32 × rS → Prop} (hG : zOK G) (hX0 : ∀ (x1 : Int32) (S' : rS), X (0, x1, S') → rX G E dX12_join mX12_join 113 [none, some (.int x1), none, none] [] S' Q) {rec : Int32 → Int32 → rS → Nat × Int32 × rS} {rok : Int32 → Int32 → rS → Prop} (hrec : ∀ (x1 : Int32) (x2 : Int32) (S : rS), rok x1 x2 S → X (rec x1 x2 S) → rX G E dX12_join mX12_join 71 [some (.ref E.1), some (.int x1), some (.int x2), none] [] S Q) {x1 : Int32} {x2 : Int32} (ok : OB_join_71 N rok x1 x2 S) (hx : X (B_join_71 N rec x1 x2 S)) : rX G E dX12_join mX12_join 71 [some (.ref E.1), some (.int x1), some (.int x2), none] [] S Q := by
  unfold OB_join_71 at ok
  unfold B_join_71 at hx
  refine r_iload_n dX12_join_71 rfl rfl ?_
  refine r_iconst (v := nI 2) dX12_join_72 (by decide) ?_
  refine r_irem dX12_join_73 (by decide) ?_
  refine r_iconst (v := nI 1) dX12_join_74 (by decide) ?_
  refine r_icmp_ne (tgt := 113) dX12_join_75 (by decide) (fun c_75 => ?_) (fun c_75 => ?_)
  · have ok := ok.2 c_75
    have hx := xif_n c_75 hx
    exact rX.cutz (hX0 _ S hx) ⟨rfl, trivial⟩
  · have ok := ok.1 c_75
    have hx := xif_p c_75 hx
    refine r_iload_n dX12_join_78 rfl rfl ?_
    refine r_iconst (v := nI 4) dX12_join_79 (by decide) ?_
    refine r_icmp_ge (tgt := 113) dX12_join_80 (by decide) (fun c_80 => ?_) (fun c_80 => ?_)
    · have ok := ok.1 c_80
      have hx := xif_p c_80 hx
      exact rX.cutz (hX0 _ S hx) ⟨rfl, trivial⟩
    · have ok := ok.2 c_80
      have hx := xif_n c_80 hx
      refine r_aload_n dX12_join_83 rfl rfl ?_
      refine r_getA 18 fX12_87 (by decide) (by decide) dX12_join_84 ?_
      refine r_iconst (v := nI 2) dX12_join_87 (by decide) ?_
      refine r_iload_n dX12_join_88 rfl rfl ?_
      refine r_iconst (v := nI 1) dX12_join_89 (by decide) ?_
      refine r_isub dX12_join_90 ?_
      refine r_imul dX12_join_91 ?_
      refine r_iload_n dX12_join_92 rfl rfl ?_
      refine r_iadd dX12_join_93 ?_
      refine r_aload_n dX12_join_94 rfl rfl ?_
      refine r_getA 18 fX12_87 (by decide) (by decide) dX12_join_95 ?_
      refine r_iconst (v := nI 4) dX12_join_98 (by decide) ?_
      refine r_iload_n dX12_join_99 rfl rfl ?_
      refine r_iconst (v := nI 1) dX12_join_100 (by decide) ?_
      refine r_isub dX12_join_101 ?_
      refine r_imul dX12_join_102 ?_
      refine r_iload_n dX12_join_103 rfl rfl ?_
      refine r_iadd dX12_join_104 ?_
      refine r_lald (by decide) (by decide) dX12_join_105 ok.1 ?_
      have ok := ok.2
      refine r_last (by decide) (by decide) dX12_join_106 ok.1 ?_
      have ok := ok.2
      refine r_iinc_2 (v := (x2 + nI 1)) dX12_join_107 rfl (by first | rfl | (congr 1)) (by decide) rfl ?_
      refine r_goto (tgt := 71) dX12_join_110 (by decide) ?_
      exact rX.cutz (hrec _ _ (rsL S 18 (((nI 2) * (x1 - (nI 1))) + x2).toNatClampNeg (S.2.2 18 (((nI 4) * (x1 - (nI 1))) + x2).toNatClampNeg)) ok hx) ⟨rfl, rfl, rfl, trivial⟩
def L_join_71 (N : Nat) : Nat → Int32 → Int32 → rS → Nat × Int32 × rS
  | 0, x1, x2, S => (0, 0, S)
  | n + 1, x1, x2, S => B_join_71 N (L_join_71 N n) x1 x2 S
def OL_join_71 (N : Nat) : Nat → Int32 → Int32 → rS → Prop
  | 0, _, _, _ => False
  | n + 1, x1, x2, S => OB_join_71 N (OL_join_71 N n) x1 x2 S
set_option maxHeartbeats 4000000 in
theorem l_join_71 {G : zG} {E : rE} {N : Nat} {Q : Option Value → rS → Prop} {X : Nat × Int32 × rS → Prop} (hG : zOK G) (hX0 : ∀ (x1 : Int32) (S' : rS), X (0, x1, S') → rX G E dX12_join mX12_join 113 [none, some (.int x1), none, none] [] S' Q) : ∀ (n : Nat) (x1 : Int32) (x2 : Int32) (S : rS), OL_join_71 N n x1 x2 S → X (L_join_71 N n x1 x2 S) → rX G E dX12_join mX12_join 71 [some (.ref E.1), some (.int x1), some (.int x2), none] [] S Q := by
  intro n
  induction n with
  | zero => intro x1 x2 S ok; exact absurd ok id
  | succ n ih =>
    intro x1 x2 S ok hx
    exact bb_join_71 hG hX0 (rec := L_join_71 N n) (rok := OL_join_71 N n) (fun x1 x2 S ok hx => ih x1 x2 S ok hx) ok hx
def A_join_71 (N : Nat) (x1 : Int32) (x2 : Int32) (S : rS) (z : Nat × Int32 × rS) : Int32 × rS := (F_join_113 N (z.2.1) z.2.2)
def OA_join_71 (N : Nat) (x1 : Int32) (x2 : Int32) (S : rS) (z : Nat × Int32 × rS) : Prop := O_join_113 N (z.2.1) z.2.2
set_option maxHeartbeats 4000000 in
theorem c_join_71 {G : zG} {E : rE} {S : rS} {N : Nat} {Q : Option Value → rS → Prop} {X : Int32 × rS → Prop} (hG : zOK G) (hR : ∀ v S', X (v, S') → Q (some (.int v)) S') {x1 : Int32} {x2 : Int32} (ok : OL_join_71 N N x1 x2 S ∧ OA_join_71 N x1 x2 S (L_join_71 N N x1 x2 S)) (hx : X (A_join_71 N x1 x2 S (L_join_71 N N x1 x2 S))) : rX G E dX12_join mX12_join 71 [some (.ref E.1), some (.int x1), some (.int x2), none] [] S Q := by
  refine l_join_71 hG ?_ N x1 x2 S ok.1 (X := fun z => OA_join_71 N x1 x2 S z ∧ X (A_join_71 N x1 x2 S z)) ⟨ok.2, hx⟩
  · intro x1' S' hz
    obtain ⟨ok, hx⟩ := hz
    unfold OA_join_71 at ok
    unfold A_join_71 at hx
    exact rX.cutz (b_join_113 hG hR ok hx) ⟨rfl, trivial⟩
def F_join_69 (N : Nat) (x1 : Int32) (S : rS) : Int32 × rS := (A_join_71 N x1 (nI 0) S (L_join_71 N N x1 (nI 0) S))
def O_join_69 (N : Nat) (x1 : Int32) (S : rS) : Prop := (OL_join_71 N N x1 (nI 0) S ∧ OA_join_71 N x1 (nI 0) S (L_join_71 N N x1 (nI 0) S))
set_option maxHeartbeats 4000000 in
theorem b_join_69 {G : zG} {E : rE} {S : rS} {N : Nat} {Q : Option Value → rS → Prop} {X : Int32 × rS → Prop} (hG : zOK G) (hR : ∀ v S', X (v, S') → Q (some (.int v)) S') {x1 : Int32} (ok : O_join_69 N x1 S) (hx : X (F_join_69 N x1 S)) : rX G E dX12_join mX12_join 69 [some (.ref E.1), some (.int x1), none, none] [] S Q := by
  unfold O_join_69 at ok
  unfold F_join_69 at hx
  refine r_iconst (v := nI 0) dX12_join_69 (by decide) ?_
  refine r_istore_2 dX12_join_70 (by decide) rfl ?_
  exact rX.cutz (c_join_71 hG hR ok hx) ⟨rfl, rfl, rfl, trivial⟩
def F_join_63 (N : Nat) (rec : Int32 → Int32 → rS → Nat × Int32 × rS) (x1 : Int32) (x2 : Int32) (S : rS) : Nat × Int32 × rS := (rec x1 (x2 + nI 1) S)
def O_join_63 (N : Nat) (rok : Int32 → Int32 → rS → Prop) (x1 : Int32) (x2 : Int32) (S : rS) : Prop := rok x1 (x2 + nI 1) S
set_option maxHeartbeats 4000000 in
theorem b_join_63 {G : zG} {E : rE} {S : rS} {N : Nat} {Q : Option Value → rS → Prop} {X : Nat × Int32 × rS → Prop} (hG : zOK G) (hX0 : ∀ (x1 : Int32) (S' : rS), X (0, x1, S') → rX G E dX12_join mX12_join 69 [some (.ref E.1), some (.int x1), none, none] [] S' Q) {rec : Int32 → Int32 → rS → Nat × Int32 × rS} {rok : Int32 → Int32 → rS → Prop} (hrec : ∀ (x1 : Int32) (x2 : Int32) (S : rS), rok x1 x2 S → X (rec x1 x2 S) → rX G E dX12_join mX12_join 2 [some (.ref E.1), some (.int x1), some (.int x2), none] [] S Q) {x1 : Int32} {x2 : Int32} (ok : O_join_63 N rok x1 x2 S) (hx : X (F_join_63 N rec x1 x2 S)) : rX G E dX12_join mX12_join 63 [some (.ref E.1), some (.int x1), some (.int x2), none] [] S Q := by
  unfold O_join_63 at ok
  unfold F_join_63 at hx
  refine r_iinc_2 (v := (x2 + nI 1)) dX12_join_63 rfl (by first | rfl | (congr 1)) (by decide) rfl ?_
  refine r_goto (tgt := 2) dX12_join_66 (by decide) ?_
  exact rX.cutz (hrec _ _ S ok hx) ⟨rfl, rfl, rfl, trivial⟩
def F_join_58 (N : Nat) (rec : Int32 → Int32 → rS → Nat × Int32 × rS) (x1 : Int32) (x2 : Int32) (S : rS) : Nat × Int32 × rS := (F_join_63 N rec x1 x2 (f_keepLeaf N S x2))
def O_join_58 (N : Nat) (rok : Int32 → Int32 → rS → Prop) (x1 : Int32) (x2 : Int32) (S : rS) : Prop := (o_keepLeaf N S x2) ∧ O_join_63 N rok x1 x2 (f_keepLeaf N S x2)
set_option maxHeartbeats 4000000 in
theorem b_join_58 {G : zG} {E : rE} {S : rS} {N : Nat} {Q : Option Value → rS → Prop} {X : Nat × Int32 × rS → Prop} (hG : zOK G) (hX0 : ∀ (x1 : Int32) (S' : rS), X (0, x1, S') → rX G E dX12_join mX12_join 69 [some (.ref E.1), some (.int x1), none, none] [] S' Q) {rec : Int32 → Int32 → rS → Nat × Int32 × rS} {rok : Int32 → Int32 → rS → Prop} (hrec : ∀ (x1 : Int32) (x2 : Int32) (S : rS), rok x1 x2 S → X (rec x1 x2 S) → rX G E dX12_join mX12_join 2 [some (.ref E.1), some (.int x1), some (.int x2), none] [] S Q) {x1 : Int32} {x2 : Int32} (ok : O_join_58 N rok x1 x2 S) (hx : X (F_join_58 N rec x1 x2 S)) : rX G E dX12_join mX12_join 58 [some (.ref E.1), some (.int x1), some (.int x2), none] [] S Q := by
  unfold O_join_58 at ok
  unfold F_join_58 at hx
  refine r_aload_n dX12_join_58 rfl rfl ?_
  refine r_iload_n dX12_join_59 rfl rfl ?_
  refine r_V1v (y' := mX12_keepLeaf) dX12_join_60 lX12_94 kX12_keepLeaf ⟨by decide, by decide⟩ rfl (Nat.le_of_ble_eq_true rfl) (rc_X12_keepLeaf hG ok.1) (fun S_60 h_60 => ?_)
  subst h_60
  have ok := ok.2
  exact rX.cutz (b_join_63 hG hX0 hrec ok hx) ⟨rfl, rfl, rfl, trivial⟩
def F_join_52 (N : Nat) (rec : Int32 → Int32 → Int32 → rS → Nat × Int32 × Int32 × rS) (x1 : Int32) (x2 : Int32) (x3 : Int32) (S : rS) : Nat × Int32 × Int32 × rS := (rec x1 x2 (x3 + nI 1) S)
def O_join_52 (N : Nat) (rok : Int32 → Int32 → Int32 → rS → Prop) (x1 : Int32) (x2 : Int32) (x3 : Int32) (S : rS) : Prop := rok x1 x2 (x3 + nI 1) S
set_option maxHeartbeats 4000000 in
theorem b_join_52 {G : zG} {E : rE} {S : rS} {N : Nat} {Q : Option Value → rS → Prop} {X : Nat × Int32 × Int32 × rS → Prop} (hG : zOK G) (hX0 : ∀ (x1 : Int32) (x2 : Int32) (S' : rS), X (0, x1, x2, S') → rX G E dX12_join mX12_join 58 [some (.ref E.1), some (.int x1), some (.int x2), none] [] S' Q) {rec : Int32 → Int32 → Int32 → rS → Nat × Int32 × Int32 × rS} {rok : Int32 → Int32 → Int32 → rS → Prop} (hrec : ∀ (x1 : Int32) (x2 : Int32) (x3 : Int32) (S : rS), rok x1 x2 x3 S → X (rec x1 x2 x3 S) → rX G E dX12_join mX12_join 21 [some (.ref E.1), some (.int x1), some (.int x2), some (.int x3)] [] S Q) {x1 : Int32} {x2 : Int32} {x3 : Int32} (ok : O_join_52 N rok x1 x2 x3 S) (hx : X (F_join_52 N rec x1 x2 x3 S)) : rX G E dX12_join mX12_join 52 [some (.ref E.1), some (.int x1), some (.int x2), some (.int x3)] [] S Q := by
  unfold O_join_52 at ok
  unfold F_join_52 at hx
  refine r_iinc_3 (v := (x3 + nI 1)) dX12_join_52 rfl (by first | rfl | (congr 1)) (by decide) rfl ?_
  refine r_goto (tgt := 21) dX12_join_55 (by decide) ?_
  exact rX.cutz (hrec _ _ _ S ok hx) ⟨rfl, rfl, rfl, rfl, trivial⟩
def B_join_21 (N : Nat) (rec : Int32 → Int32 → Int32 → rS → Nat × Int32 × Int32 × rS) (x1 : Int32) (x2 : Int32) (x3 : Int32) (S : rS) : Nat × Int32 × Int32 × rS := (if (nI 64) ≤ x3 then (0, x1, x2, S) else (F_join_52 N rec x1 x2 x3 (f_hashByte N S (f_byteIn N S (S.2.2 18 (((nI 8) * x2) + (x3 / (nI 8))).toNatClampNeg) (x3 - x3 / (nI 8) * (nI 8))))))
def OB_join_21 (N : Nat) (rok : Int32 → Int32 → Int32 → rS → Prop) (x1 : Int32) (x2 : Int32) (x3 : Int32) (S : rS) : Prop := (((nI 64) ≤ x3 → True) ∧ (¬ (nI 64) ≤ x3 → (vp_in (((nI 8) * x2) + (x3 / (nI 8))) 272) ∧ (o_byteIn N S (S.2.2 18 (((nI 8) * x2) + (x3 / (nI 8))).toNatClampNeg) (x3 - x3 / (nI 8) * (nI 8))) ∧ (o_hashByte N S (f_byteIn N S (S.2.2 18 (((nI 8) * x2) + (x3 / (nI 8))).toNatClampNeg) (x3 - x3 / (nI 8) * (nI 8)))) ∧ O_join_52 N rok x1 x2 x3 (f_hashByte N S (f_byteIn N S (S.2.2 18 (((nI 8) * x2) + (x3 / (nI 8))).toNatClampNeg) (x3 - x3 / (nI 8) * (nI 8))))))
set_option maxHeartbeats 4000000 in
theorem bb_join_21 {G : zG} {E : rE} {S : rS} {N : Nat} {Q : Option Value → rS → Prop} {X : Nat × Int32 × Int32 × rS → Prop} (hG : zOK G) (hX0 : ∀ (x1 : Int32) (x2 : Int32) (S' : rS), X (0, x1, x2, S') → rX G E dX12_join mX12_join 58 [some (.ref E.1), some (.int x1), some (.int x2), none] [] S' Q) {rec : Int32 → Int32 → Int32 → rS → Nat × Int32 × Int32 × rS} {rok : Int32 → Int32 → Int32 → rS → Prop} (hrec : ∀ (x1 : Int32) (x2 : Int32) (x3 : Int32) (S : rS), rok x1 x2 x3 S → X (rec x1 x2 x3 S) → rX G E dX12_join mX12_join 21 [some (.ref E.1), some (.int x1), some (.int x2), some (.int x3)] [] S Q) {x1 : Int32} {x2 : Int32} {x3 : Int32} (ok : OB_join_21 N rok x1 x2 x3 S) (hx : X (B_join_21 N rec x1 x2 x3 S)) : rX G E dX12_join mX12_join 21 [some (.ref E.1), some (.int x1), some (.int x2), some (.int x3)] [] S Q := by
  unfold OB_join_21 at ok
  unfold B_join_21 at hx
  refine r_iload_n dX12_join_21 rfl rfl ?_
  refine r_bipush (v := nI 64) dX12_join_22 (by decide) ?_
  refine r_icmp_ge (tgt := 58) dX12_join_24 (by decide) (fun c_24 => ?_) (fun c_24 => ?_)
  · have ok := ok.1 c_24
    have hx := xif_p c_24 hx
    exact rX.cutz (hX0 _ _ S hx) ⟨rfl, rfl, rfl, trivial⟩
  · have ok := ok.2 c_24
    have hx := xif_n c_24 hx
    refine r_aload_n dX12_join_27 rfl rfl ?_
    refine r_aload_n dX12_join_28 rfl rfl ?_
    refine r_getA 18 fX12_87 (by decide) (by decide) dX12_join_29 ?_
    refine r_bipush (v := nI 8) dX12_join_32 (by decide) ?_
    refine r_iload_n dX12_join_34 rfl rfl ?_
    refine r_imul dX12_join_35 ?_
    refine r_iload_n dX12_join_36 rfl rfl ?_
    refine r_bipush (v := nI 8) dX12_join_37 (by decide) ?_
    refine r_idiv dX12_join_39 (by decide) ?_
    refine r_iadd dX12_join_40 ?_
    refine r_lald (by decide) (by decide) dX12_join_41 ok.1 ?_
    have ok := ok.2
    refine r_iload_n dX12_join_42 rfl rfl ?_
    refine r_bipush (v := nI 8) dX12_join_43 (by decide) ?_
    refine r_irem dX12_join_45 (by decide) ?_
    refine r_S2i (y' := mX12_byteIn) dX12_join_46 lX12_49 kX12_byteIn ⟨by decide, by decide⟩ (Nat.le_of_ble_eq_true rfl) (rc_X12_byteIn hG ok.1) (fun v_46 S_46 h_46 => ?_)
    obtain ⟨rfl, hS_46⟩ := h_46
    have hS_46 := hS_46.symm
    subst hS_46
    have ok := ok.2
    refine r_V1v (y' := mX12_hashByte) dX12_join_49 lX12_29 kX12_hashByte ⟨by decide, by decide⟩ rfl (Nat.le_of_ble_eq_true rfl) (rc_X12_hashByte hG ok.1) (fun S_49 h_49 => ?_)
    subst h_49
    have ok := ok.2
    exact rX.cutz (b_join_52 hG hX0 hrec ok hx) ⟨rfl, rfl, rfl, rfl, trivial⟩
def L_join_21 (N : Nat) : Nat → Int32 → Int32 → Int32 → rS → Nat × Int32 × Int32 × rS
  | 0, x1, x2, x3, S => (0, 0, 0, S)
  | n + 1, x1, x2, x3, S => B_join_21 N (L_join_21 N n) x1 x2 x3 S
def OL_join_21 (N : Nat) : Nat → Int32 → Int32 → Int32 → rS → Prop
  | 0, _, _, _, _ => False
  | n + 1, x1, x2, x3, S => OB_join_21 N (OL_join_21 N n) x1 x2 x3 S
set_option maxHeartbeats 4000000 in
theorem l_join_21 {G : zG} {E : rE} {N : Nat} {Q : Option Value → rS → Prop} {X : Nat × Int32 × Int32 × rS → Prop} (hG : zOK G) (hX0 : ∀ (x1 : Int32) (x2 : Int32) (S' : rS), X (0, x1, x2, S') → rX G E dX12_join mX12_join 58 [some (.ref E.1), some (.int x1), some (.int x2), none] [] S' Q) : ∀ (n : Nat) (x1 : Int32) (x2 : Int32) (x3 : Int32) (S : rS), OL_join_21 N n x1 x2 x3 S → X (L_join_21 N n x1 x2 x3 S) → rX G E dX12_join mX12_join 21 [some (.ref E.1), some (.int x1), some (.int x2), some (.int x3)] [] S Q := by
  intro n
  induction n with
  | zero => intro x1 x2 x3 S ok; exact absurd ok id
  | succ n ih =>
    intro x1 x2 x3 S ok hx
    exact bb_join_21 hG hX0 (rec := L_join_21 N n) (rok := OL_join_21 N n) (fun x1 x2 x3 S ok hx => ih x1 x2 x3 S ok hx) ok hx
def A_join_21 (N : Nat) (rec : Int32 → Int32 → rS → Nat × Int32 × rS) (x1 : Int32) (x2 : Int32) (x3 : Int32) (S : rS) (z : Nat × Int32 × Int32 × rS) : Nat × Int32 × rS := (F_join_58 N rec (z.2.1) (z.2.2.1) z.2.2.2)
def OA_join_21 (N : Nat) (rok : Int32 → Int32 → rS → Prop) (x1 : Int32) (x2 : Int32) (x3 : Int32) (S : rS) (z : Nat × Int32 × Int32 × rS) : Prop := O_join_58 N rok (z.2.1) (z.2.2.1) z.2.2.2
set_option maxHeartbeats 4000000 in
theorem c_join_21 {G : zG} {E : rE} {S : rS} {N : Nat} {Q : Option Value → rS → Prop} {X : Nat × Int32 × rS → Prop} (hG : zOK G) (hX0 : ∀ (x1 : Int32) (S' : rS), X (0, x1, S') → rX G E dX12_join mX12_join 69 [some (.ref E.1), some (.int x1), none, none] [] S' Q) {rec : Int32 → Int32 → rS → Nat × Int32 × rS} {rok : Int32 → Int32 → rS → Prop} (hrec : ∀ (x1 : Int32) (x2 : Int32) (S : rS), rok x1 x2 S → X (rec x1 x2 S) → rX G E dX12_join mX12_join 2 [some (.ref E.1), some (.int x1), some (.int x2), none] [] S Q) {x1 : Int32} {x2 : Int32} {x3 : Int32} (ok : OL_join_21 N N x1 x2 x3 S ∧ OA_join_21 N rok x1 x2 x3 S (L_join_21 N N x1 x2 x3 S)) (hx : X (A_join_21 N rec x1 x2 x3 S (L_join_21 N N x1 x2 x3 S))) : rX G E dX12_join mX12_join 21 [some (.ref E.1), some (.int x1), some (.int x2), some (.int x3)] [] S Q := by
  refine l_join_21 hG ?_ N x1 x2 x3 S ok.1 (X := fun z => OA_join_21 N rok x1 x2 x3 S z ∧ X (A_join_21 N rec x1 x2 x3 S z)) ⟨ok.2, hx⟩
  · intro x1' x2' S' hz
    obtain ⟨ok, hx⟩ := hz
    unfold OA_join_21 at ok
    unfold A_join_21 at hx
    exact rX.cutz (b_join_58 hG hX0 hrec ok hx) ⟨rfl, rfl, rfl, trivial⟩
def F_join_19 (N : Nat) (rec : Int32 → Int32 → rS → Nat × Int32 × rS) (x1 : Int32) (x2 : Int32) (S : rS) : Nat × Int32 × rS := (A_join_21 N rec x1 x2 (nI 0) S (L_join_21 N N x1 x2 (nI 0) S))
def O_join_19 (N : Nat) (rok : Int32 → Int32 → rS → Prop) (x1 : Int32) (x2 : Int32) (S : rS) : Prop := (OL_join_21 N N x1 x2 (nI 0) S ∧ OA_join_21 N rok x1 x2 (nI 0) S (L_join_21 N N x1 x2 (nI 0) S))
set_option maxHeartbeats 4000000 in
theorem b_join_19 {G : zG} {E : rE} {S : rS} {N : Nat} {Q : Option Value → rS → Prop} {X : Nat × Int32 × rS → Prop} (hG : zOK G) (hX0 : ∀ (x1 : Int32) (S' : rS), X (0, x1, S') → rX G E dX12_join mX12_join 69 [some (.ref E.1), some (.int x1), none, none] [] S' Q) {rec : Int32 → Int32 → rS → Nat × Int32 × rS} {rok : Int32 → Int32 → rS → Prop} (hrec : ∀ (x1 : Int32) (x2 : Int32) (S : rS), rok x1 x2 S → X (rec x1 x2 S) → rX G E dX12_join mX12_join 2 [some (.ref E.1), some (.int x1), some (.int x2), none] [] S Q) {x1 : Int32} {x2 : Int32} (ok : O_join_19 N rok x1 x2 S) (hx : X (F_join_19 N rec x1 x2 S)) : rX G E dX12_join mX12_join 19 [some (.ref E.1), some (.int x1), some (.int x2), none] [] S Q := by
  unfold O_join_19 at ok
  unfold F_join_19 at hx
  refine r_iconst (v := nI 0) dX12_join_19 (by decide) ?_
  refine r_istore_3 dX12_join_20 (by decide) rfl ?_
  exact rX.cutz (c_join_21 hG hX0 hrec ok hx) ⟨rfl, rfl, rfl, rfl, trivial⟩
def B_join_2 (N : Nat) (rec : Int32 → Int32 → rS → Nat × Int32 × rS) (x1 : Int32) (x2 : Int32) (S : rS) : Nat × Int32 × rS := (if (x1 / (nI 2)) ≤ x2 then (0, x1, S) else (F_join_19 N rec x1 x2 (f_hashByte N (rsI S 7 (nI 0)) (nI 1))))
def OB_join_2 (N : Nat) (rok : Int32 → Int32 → rS → Prop) (x1 : Int32) (x2 : Int32) (S : rS) : Prop := (((x1 / (nI 2)) ≤ x2 → True) ∧ (¬ (x1 / (nI 2)) ≤ x2 → (o_hashByte N (rsI S 7 (nI 0)) (nI 1)) ∧ O_join_19 N rok x1 x2 (f_hashByte N (rsI S 7 (nI 0)) (nI 1))))
set_option maxHeartbeats 4000000 in
theorem bb_join_2 {G : zG} {E : rE} {S : rS} {N : Nat} {Q : Option Value → rS → Prop} {X : Nat × Int32 × rS → Prop} (hG : zOK G) (hX0 : ∀ (x1 : Int32) (S' : rS), X (0, x1, S') → rX G E dX12_join mX12_join 69 [some (.ref E.1), some (.int x1), none, none] [] S' Q) {rec : Int32 → Int32 → rS → Nat × Int32 × rS} {rok : Int32 → Int32 → rS → Prop} (hrec : ∀ (x1 : Int32) (x2 : Int32) (S : rS), rok x1 x2 S → X (rec x1 x2 S) → rX G E dX12_join mX12_join 2 [some (.ref E.1), some (.int x1), some (.int x2), none] [] S Q) {x1 : Int32} {x2 : Int32} (ok : OB_join_2 N rok x1 x2 S) (hx : X (B_join_2 N rec x1 x2 S)) : rX G E dX12_join mX12_join 2 [some (.ref E.1), some (.int x1), some (.int x2), none] [] S Q := by
  unfold OB_join_2 at ok
  unfold B_join_2 at hx
  refine r_iload_n dX12_join_2 rfl rfl ?_
  refine r_iload_n dX12_join_3 rfl rfl ?_
  refine r_iconst (v := nI 2) dX12_join_4 (by decide) ?_
  refine r_idiv dX12_join_5 (by decide) ?_
  refine r_icmp_ge (tgt := 69) dX12_join_6 (by decide) (fun c_6 => ?_) (fun c_6 => ?_)
  · have ok := ok.1 c_6
    have hx := xif_p c_6 hx
    exact rX.cutz (hX0 _ S hx) ⟨rfl, rfl, trivial⟩
  · have ok := ok.2 c_6
    have hx := xif_n c_6 hx
    refine r_aload_n dX12_join_9 rfl rfl ?_
    refine r_iconst (v := nI 0) dX12_join_10 (by decide) ?_
    refine r_putI 7 fX12_25 (by decide) (by decide) rfl rfl rfl dX12_join_11 ?_
    refine r_aload_n dX12_join_14 rfl rfl ?_
    refine r_iconst (v := nI 1) dX12_join_15 (by decide) ?_
    refine r_V1v (y' := mX12_hashByte) dX12_join_16 lX12_29 kX12_hashByte ⟨by decide, by decide⟩ rfl (Nat.le_of_ble_eq_true rfl) (rc_X12_hashByte hG ok.1) (fun S_16 h_16 => ?_)
    subst h_16
    have ok := ok.2
    exact rX.cutz (b_join_19 hG hX0 hrec ok hx) ⟨rfl, rfl, rfl, trivial⟩
def L_join_2 (N : Nat) : Nat → Int32 → Int32 → rS → Nat × Int32 × rS
  | 0, x1, x2, S => (0, 0, S)
  | n + 1, x1, x2, S => B_join_2 N (L_join_2 N n) x1 x2 S
def OL_join_2 (N : Nat) : Nat → Int32 → Int32 → rS → Prop
  | 0, _, _, _ => False
  | n + 1, x1, x2, S => OB_join_2 N (OL_join_2 N n) x1 x2 S
set_option maxHeartbeats 4000000 in
theorem l_join_2 {G : zG} {E : rE} {N : Nat} {Q : Option Value → rS → Prop} {X : Nat × Int32 × rS → Prop} (hG : zOK G) (hX0 : ∀ (x1 : Int32) (S' : rS), X (0, x1, S') → rX G E dX12_join mX12_join 69 [some (.ref E.1), some (.int x1), none, none] [] S' Q) : ∀ (n : Nat) (x1 : Int32) (x2 : Int32) (S : rS), OL_join_2 N n x1 x2 S → X (L_join_2 N n x1 x2 S) → rX G E dX12_join mX12_join 2 [some (.ref E.1), some (.int x1), some (.int x2), none] [] S Q := by
  intro n
  induction n with
  | zero => intro x1 x2 S ok; exact absurd ok id
  | succ n ih =>
    intro x1 x2 S ok hx
    exact bb_join_2 hG hX0 (rec := L_join_2 N n) (rok := OL_join_2 N n) (fun x1 x2 S ok hx => ih x1 x2 S ok hx) ok hx
def A_join_2 (N : Nat) (x1 : Int32) (x2 : Int32) (S : rS) (z : Nat × Int32 × rS) : Int32 × rS := (F_join_69 N (z.2.1) z.2.2)
def OA_join_2 (N : Nat) (x1 : Int32) (x2 : Int32) (S : rS) (z : Nat × Int32 × rS) : Prop := O_join_69 N (z.2.1) z.2.2
set_option maxHeartbeats 4000000 in
theorem c_join_2 {G : zG} {E : rE} {S : rS} {N : Nat} {Q : Option Value → rS → Prop} {X : Int32 × rS → Prop} (hG : zOK G) (hR : ∀ v S', X (v, S') → Q (some (.int v)) S') {x1 : Int32} {x2 : Int32} (ok : OL_join_2 N N x1 x2 S ∧ OA_join_2 N x1 x2 S (L_join_2 N N x1 x2 S)) (hx : X (A_join_2 N x1 x2 S (L_join_2 N N x1 x2 S))) : rX G E dX12_join mX12_join 2 [some (.ref E.1), some (.int x1), some (.int x2), none] [] S Q := by
  refine l_join_2 hG ?_ N x1 x2 S ok.1 (X := fun z => OA_join_2 N x1 x2 S z ∧ X (A_join_2 N x1 x2 S z)) ⟨ok.2, hx⟩
  · intro x1' S' hz
    obtain ⟨ok, hx⟩ := hz
    unfold OA_join_2 at ok
    unfold A_join_2 at hx
    exact rX.cutz (b_join_69 hG hR ok hx) ⟨rfl, rfl, trivial⟩
def F_join_0 (N : Nat) (x1 : Int32) (S : rS) : Int32 × rS := (A_join_2 N x1 (nI 0) S (L_join_2 N N x1 (nI 0) S))
def O_join_0 (N : Nat) (x1 : Int32) (S : rS) : Prop := (OL_join_2 N N x1 (nI 0) S ∧ OA_join_2 N x1 (nI 0) S (L_join_2 N N x1 (nI 0) S))
set_option maxHeartbeats 4000000 in
theorem b_join_0 {G : zG} {E : rE} {S : rS} {N : Nat} {Q : Option Value → rS → Prop} {X : Int32 × rS → Prop} (hG : zOK G) (hR : ∀ v S', X (v, S') → Q (some (.int v)) S') {x1 : Int32} (ok : O_join_0 N x1 S) (hx : X (F_join_0 N x1 S)) : rX G E dX12_join mX12_join 0 [some (.ref E.1), some (.int x1), none, none] [] S Q := by
  unfold O_join_0 at ok
  unfold F_join_0 at hx
  refine r_iconst (v := nI 0) dX12_join_0 (by decide) ?_
  refine r_istore_2 dX12_join_1 (by decide) rfl ?_
  exact rX.cutz (c_join_2 hG hR ok hx) ⟨rfl, rfl, rfl, trivial⟩
def f_join (N : Nat) (S : rS) (x1 : Int32) : Int32 × rS := F_join_0 N x1 S
def o_join (N : Nat) (S : rS) (x1 : Int32) : Prop := O_join_0 N x1 S
set_option maxHeartbeats 4000000 in
theorem rc_X12_join {G : zG} {E : rE} {S : rS} {N : Nat} (hG : zOK G) {x1 : Int32} (ok : o_join N S x1) : rCi G E dX12_join mX12_join [.ref E.1, .int x1] S (fun v S' => v = (f_join N S x1).1 ∧ S' = (f_join N S x1).2) := by
  refine rC.ofX rfl (Nat.le_of_ble_eq_true rfl) ?_
  show rX G E dX12_join mX12_join 0 [some (.ref E.1), some (.int x1), none, none] [] S _
  exact rX.cutz (b_join_0 (X := fun F => F = f_join N S x1) hG (fun v S' h => ⟨v, rfl, by rw [← h], by rw [← h]⟩) ok rfl) ⟨rfl, rfl, trivial⟩
/-! root_ -/
def F_root__23 (N : Nat)  (S : rS) : rS := S
def O_root__23 (N : Nat)  (S : rS) : Prop := True
set_option maxHeartbeats 4000000 in
theorem b_root__23 {G : zG} {E : rE} {S : rS} {N : Nat} {Q : Option Value → rS → Prop} {X : rS → Prop} (hG : zOK G) (hR : ∀ S', X S' → Q none S') (ok : O_root__23 N S) (hx : X (F_root__23 N S)) : rX G E dX12_root_ mX12_root_ 23 [none, none] [] S Q := by
  unfold O_root__23 at ok
  unfold F_root__23 at hx
  exact r_return rfl dX12_root__23 (hR _ hx)
def F_root__19 (N : Nat) (rec : Int32 → rS → Nat × rS) (s0 : Int32) (S : rS) : Nat × rS := (rec s0 S)
def O_root__19 (N : Nat) (rok : Int32 → rS → Prop) (s0 : Int32) (S : rS) : Prop := rok s0 S
set_option maxHeartbeats 4000000 in
theorem b_root__19 {G : zG} {E : rE} {S : rS} {N : Nat} {Q : Option Value → rS → Prop} {X : Nat × rS → Prop} (hG : zOK G) (hX0 : ∀ (S' : rS), X (0, S') → rX G E dX12_root_ mX12_root_ 23 [none, none] [] S' Q) {rec : Int32 → rS → Nat × rS} {rok : Int32 → rS → Prop} (hrec : ∀ (x1 : Int32) (S : rS), rok x1 S → X (rec x1 S) → rX G E dX12_root_ mX12_root_ 9 [some (.ref E.1), some (.int x1)] [] S Q) {s0 : Int32} (ok : O_root__19 N rok s0 S) (hx : X (F_root__19 N rec s0 S)) : rX G E dX12_root_ mX12_root_ 19 [some (.ref E.1), none] [.int s0] S Q := by
  unfold O_root__19 at ok
  unfold F_root__19 at hx
  refine r_istore_1 dX12_root__19 (by decide) rfl ?_
  refine r_goto (tgt := 9) dX12_root__20 (by decide) ?_
  exact rX.cutz (hrec _ S ok hx) ⟨rfl, rfl, trivial⟩
def B_root__9 (N : Nat) (rec : Int32 → rS → Nat × rS) (x1 : Int32) (S : rS) : Nat × rS := (if x1 ≤ (nI 1) then (0, S) else (F_root__19 N rec ((f_join N S x1).1) (f_join N S x1).2))
def OB_root__9 (N : Nat) (rok : Int32 → rS → Prop) (x1 : Int32) (S : rS) : Prop := ((x1 ≤ (nI 1) → True) ∧ (¬ x1 ≤ (nI 1) → (o_join N S x1) ∧ O_root__19 N rok ((f_join N S x1).1) (f_join N S x1).2))
set_option maxHeartbeats 4000000 in
theorem bb_root__9 {G : zG} {E : rE} {S : rS} {N : Nat} {Q : Option Value → rS → Prop} {X : Nat × rS → Prop} (hG : zOK G) (hX0 : ∀ (S' : rS), X (0, S') → rX G E dX12_root_ mX12_root_ 23 [none, none] [] S' Q) {rec : Int32 → rS → Nat × rS} {rok : Int32 → rS → Prop} (hrec : ∀ (x1 : Int32) (S : rS), rok x1 S → X (rec x1 S) → rX G E dX12_root_ mX12_root_ 9 [some (.ref E.1), some (.int x1)] [] S Q) {x1 : Int32} (ok : OB_root__9 N rok x1 S) (hx : X (B_root__9 N rec x1 S)) : rX G E dX12_root_ mX12_root_ 9 [some (.ref E.1), some (.int x1)] [] S Q := by
  unfold OB_root__9 at ok
  unfold B_root__9 at hx
  refine r_iload_n dX12_root__9 rfl rfl ?_
  refine r_iconst (v := nI 1) dX12_root__10 (by decide) ?_
  refine r_icmp_le (tgt := 23) dX12_root__11 (by decide) (fun c_11 => ?_) (fun c_11 => ?_)
  · have ok := ok.1 c_11
    have hx := xif_p c_11 hx
    exact rX.cutz (hX0 S hx) trivial
  · have ok := ok.2 c_11
    have hx := xif_n c_11 hx
    refine r_aload_n dX12_root__14 rfl rfl ?_
    refine r_iload_n dX12_root__15 rfl rfl ?_
    refine r_V1i (y' := mX12_join) dX12_root__16 lX12_100 kX12_join ⟨by decide, by decide⟩ rfl (Nat.le_of_ble_eq_true rfl) (rc_X12_join hG ok.1) (fun v_16 S_16 h_16 => ?_)
    obtain ⟨rfl, hS_16⟩ := h_16
    have hS_16 := hS_16.symm
    subst hS_16
    have ok := ok.2
    exact rX.cutz (b_root__19 hG hX0 hrec ok hx) ⟨rfl, trivial⟩
def L_root__9 (N : Nat) : Nat → Int32 → rS → Nat × rS
  | 0, x1, S => (0, S)
  | n + 1, x1, S => B_root__9 N (L_root__9 N n) x1 S
def OL_root__9 (N : Nat) : Nat → Int32 → rS → Prop
  | 0, _, _ => False
  | n + 1, x1, S => OB_root__9 N (OL_root__9 N n) x1 S
set_option maxHeartbeats 4000000 in
theorem l_root__9 {G : zG} {E : rE} {N : Nat} {Q : Option Value → rS → Prop} {X : Nat × rS → Prop} (hG : zOK G) (hX0 : ∀ (S' : rS), X (0, S') → rX G E dX12_root_ mX12_root_ 23 [none, none] [] S' Q) : ∀ (n : Nat) (x1 : Int32) (S : rS), OL_root__9 N n x1 S → X (L_root__9 N n x1 S) → rX G E dX12_root_ mX12_root_ 9 [some (.ref E.1), some (.int x1)] [] S Q := by
  intro n
  induction n with
  | zero => intro x1 S ok; exact absurd ok id
  | succ n ih =>
    intro x1 S ok hx
    exact bb_root__9 hG hX0 (rec := L_root__9 N n) (rok := OL_root__9 N n) (fun x1 S ok hx => ih x1 S ok hx) ok hx
def A_root__9 (N : Nat) (x1 : Int32) (S : rS) (z : Nat × rS) : rS := (F_root__23 N z.2)
def OA_root__9 (N : Nat) (x1 : Int32) (S : rS) (z : Nat × rS) : Prop := O_root__23 N z.2
set_option maxHeartbeats 4000000 in
theorem c_root__9 {G : zG} {E : rE} {S : rS} {N : Nat} {Q : Option Value → rS → Prop} {X : rS → Prop} (hG : zOK G) (hR : ∀ S', X S' → Q none S') {x1 : Int32} (ok : OL_root__9 N N x1 S ∧ OA_root__9 N x1 S (L_root__9 N N x1 S)) (hx : X (A_root__9 N x1 S (L_root__9 N N x1 S))) : rX G E dX12_root_ mX12_root_ 9 [some (.ref E.1), some (.int x1)] [] S Q := by
  refine l_root__9 hG ?_ N x1 S ok.1 (X := fun z => OA_root__9 N x1 S z ∧ X (A_root__9 N x1 S z)) ⟨ok.2, hx⟩
  · intro S' hz
    obtain ⟨ok, hx⟩ := hz
    unfold OA_root__9 at ok
    unfold A_root__9 at hx
    exact rX.cutz (b_root__23 hG hR ok hx) trivial
def F_root__4 (N : Nat)  (S : rS) : rS := (A_root__9 N (S.1 17) S (L_root__9 N N (S.1 17) S))
def O_root__4 (N : Nat)  (S : rS) : Prop := (OL_root__9 N N (S.1 17) S ∧ OA_root__9 N (S.1 17) S (L_root__9 N N (S.1 17) S))
set_option maxHeartbeats 4000000 in
theorem b_root__4 {G : zG} {E : rE} {S : rS} {N : Nat} {Q : Option Value → rS → Prop} {X : rS → Prop} (hG : zOK G) (hR : ∀ S', X S' → Q none S') (ok : O_root__4 N S) (hx : X (F_root__4 N S)) : rX G E dX12_root_ mX12_root_ 4 [some (.ref E.1), none] [] S Q := by
  unfold O_root__4 at ok
  unfold F_root__4 at hx
  refine r_aload_n dX12_root__4 rfl rfl ?_
  refine r_getI 17 fX12_78 (by decide) (by decide) dX12_root__5 ?_
  refine r_istore_1 dX12_root__8 (by decide) rfl ?_
  exact rX.cutz (c_root__9 hG hR ok hx) ⟨rfl, rfl, trivial⟩
def F_root__0 (N : Nat)  (S : rS) : rS := (F_root__4 N (f_leavesOf N S))
def O_root__0 (N : Nat)  (S : rS) : Prop := (o_leavesOf N S) ∧ O_root__4 N (f_leavesOf N S)
set_option maxHeartbeats 4000000 in
theorem b_root__0 {G : zG} {E : rE} {S : rS} {N : Nat} {Q : Option Value → rS → Prop} {X : rS → Prop} (hG : zOK G) (hR : ∀ S', X S' → Q none S') (ok : O_root__0 N S) (hx : X (F_root__0 N S)) : rX G E dX12_root_ mX12_root_ 0 [some (.ref E.1), none] [] S Q := by
  unfold O_root__0 at ok
  unfold F_root__0 at hx
  refine r_aload_n dX12_root__0 rfl rfl ?_
  refine r_V0v (y' := mX12_leavesOf) dX12_root__1 lX12_97 kX12_leavesOf ⟨by decide, by decide⟩ rfl (Nat.le_of_ble_eq_true rfl) (rc_X12_leavesOf hG ok.1) (fun S_1 h_1 => ?_)
  subst h_1
  have ok := ok.2
  exact rX.cutz (b_root__4 hG hR ok hx) ⟨rfl, trivial⟩
def f_root_ (N : Nat) (S : rS) : rS := F_root__0 N S
def o_root_ (N : Nat) (S : rS) : Prop := O_root__0 N S
set_option maxHeartbeats 4000000 in
theorem rc_X12_root_ {G : zG} {E : rE} {S : rS} {N : Nat} (hG : zOK G) (ok : o_root_ N S ) : rCv G E dX12_root_ mX12_root_ [.ref E.1] S (fun S' => S' = f_root_ N S) := by
  refine rC.ofX rfl (Nat.le_of_ble_eq_true rfl) ?_
  show rX G E dX12_root_ mX12_root_ 0 [some (.ref E.1), none] [] S _
  exact rX.cutz (b_root__0 (X := fun F => F = f_root_ N S) hG (fun S' h => ⟨rfl, h⟩) ok rfl) ⟨rfl, trivial⟩
/-! rootByte -/
def F_rootByte_0 (N : Nat) (x1 : Int32) (S : rS) : Int32 := (f_byteIn N S (S.2.2 18 (x1 / (nI 8)).toNatClampNeg) (x1 - x1 / (nI 8) * (nI 8)))
def O_rootByte_0 (N : Nat) (x1 : Int32) (S : rS) : Prop := (vp_in (x1 / (nI 8)) 272) ∧ (o_byteIn N S (S.2.2 18 (x1 / (nI 8)).toNatClampNeg) (x1 - x1 / (nI 8) * (nI 8))) ∧ True
set_option maxHeartbeats 4000000 in
theorem b_rootByte_0 {G : zG} {E : rE} {S : rS} {N : Nat} {Q : Option Value → rS → Prop} {X : Int32 → Prop} (hG : zOK G) (hR : ∀ v, X v → Q (some (.int v)) S) {x1 : Int32} (ok : O_rootByte_0 N x1 S) (hx : X (F_rootByte_0 N x1 S)) : rX G E dX12_rootByte mX12_rootByte 0 [some (.ref E.1), some (.int x1)] [] S Q := by
  unfold O_rootByte_0 at ok
  unfold F_rootByte_0 at hx
  refine r_aload_n dX12_rootByte_0 rfl rfl ?_
  refine r_getA 18 fX12_87 (by decide) (by decide) dX12_rootByte_1 ?_
  refine r_iload_n dX12_rootByte_4 rfl rfl ?_
  refine r_bipush (v := nI 8) dX12_rootByte_5 (by decide) ?_
  refine r_idiv dX12_rootByte_7 (by decide) ?_
  refine r_lald (by decide) (by decide) dX12_rootByte_8 ok.1 ?_
  have ok := ok.2
  refine r_iload_n dX12_rootByte_9 rfl rfl ?_
  refine r_bipush (v := nI 8) dX12_rootByte_10 (by decide) ?_
  refine r_irem dX12_rootByte_12 (by decide) ?_
  refine r_S2i (y' := mX12_byteIn) dX12_rootByte_13 lX12_49 kX12_byteIn ⟨by decide, by decide⟩ (Nat.le_of_ble_eq_true rfl) (rc_X12_byteIn hG ok.1) (fun v_13 S_13 h_13 => ?_)
  obtain ⟨rfl, hS_13⟩ := h_13
  have hS_13 := hS_13.symm
  subst hS_13
  have ok := ok.2
  exact r_ireturn rfl rfl dX12_rootByte_16 (hR _ hx)
def f_rootByte (N : Nat) (S : rS) (x1 : Int32) : Int32 := F_rootByte_0 N x1 S
def o_rootByte (N : Nat) (S : rS) (x1 : Int32) : Prop := O_rootByte_0 N x1 S
set_option maxHeartbeats 4000000 in
theorem rc_X12_rootByte {G : zG} {E : rE} {S : rS} {N : Nat} (hG : zOK G) {x1 : Int32} (ok : o_rootByte N S x1) : rCi G E dX12_rootByte mX12_rootByte [.ref E.1, .int x1] S (fun v S' => v = f_rootByte N S x1 ∧ S' = S) := by
  refine rC.ofX rfl (Nat.le_of_ble_eq_true rfl) ?_
  show rX G E dX12_rootByte mX12_rootByte 0 [some (.ref E.1), some (.int x1)] [] S _
  exact rX.cutz (b_rootByte_0 (X := fun F => F = f_rootByte N S x1) hG (fun v h => ⟨v, rfl, h, rfl⟩) ok rfl) ⟨rfl, rfl, trivial⟩
/-! tell -/
def F_tell_0 (N : Nat) (x1 : Int32) (S : rS) : rS := (rsI (rsA S 19 (S.1 20).toNatClampNeg x1) 20 (((rsA S 19 (S.1 20).toNatClampNeg x1).1 20) + (nI 1)))
def O_tell_0 (N : Nat) (x1 : Int32) (S : rS) : Prop := (vp_in (S.1 20) 260) ∧ True
set_option maxHeartbeats 4000000 in
theorem b_tell_0 {G : zG} {E : rE} {S : rS} {N : Nat} {Q : Option Value → rS → Prop} {X : rS → Prop} (hG : zOK G) (hR : ∀ S', X S' → Q none S') {x1 : Int32} (ok : O_tell_0 N x1 S) (hx : X (F_tell_0 N x1 S)) : rX G E dX12_tell mX12_tell 0 [some (.ref E.1), some (.int x1)] [] S Q := by
  unfold O_tell_0 at ok
  unfold F_tell_0 at hx
  refine r_aload_n dX12_tell_0 rfl rfl ?_
  refine r_getA 19 fX12_103 (by decide) (by decide) dX12_tell_1 ?_
  refine r_aload_n dX12_tell_4 rfl rfl ?_
  refine r_getI 20 fX12_106 (by decide) (by decide) dX12_tell_5 ?_
  refine r_iload_n dX12_tell_8 rfl rfl ?_
  refine r_iast hG (by decide) (by decide) dX12_tell_9 ok.1 ?_
  have ok := ok.2
  refine r_aload_n dX12_tell_10 rfl rfl ?_
  refine r_aload_n dX12_tell_11 rfl rfl ?_
  refine r_getI 20 fX12_106 (by decide) (by decide) dX12_tell_12 ?_
  refine r_iconst (v := nI 1) dX12_tell_15 (by decide) ?_
  refine r_iadd dX12_tell_16 ?_
  refine r_putI 20 fX12_106 (by decide) (by decide) rfl rfl rfl dX12_tell_17 ?_
  exact r_return rfl dX12_tell_20 (hR _ hx)
def f_tell (N : Nat) (S : rS) (x1 : Int32) : rS := F_tell_0 N x1 S
def o_tell (N : Nat) (S : rS) (x1 : Int32) : Prop := O_tell_0 N x1 S
set_option maxHeartbeats 4000000 in
theorem rc_X12_tell {G : zG} {E : rE} {S : rS} {N : Nat} (hG : zOK G) {x1 : Int32} (ok : o_tell N S x1) : rCv G E dX12_tell mX12_tell [.ref E.1, .int x1] S (fun S' => S' = f_tell N S x1) := by
  refine rC.ofX rfl (Nat.le_of_ble_eq_true rfl) ?_
  show rX G E dX12_tell mX12_tell 0 [some (.ref E.1), some (.int x1)] [] S _
  exact rX.cutz (b_tell_0 (X := fun F => F = f_tell N S x1) hG (fun S' h => ⟨rfl, h⟩) ok rfl) ⟨rfl, rfl, trivial⟩
/-! path -/
def F_path_141 (N : Nat)  (S : rS) : rS := S
def O_path_141 (N : Nat)  (S : rS) : Prop := True
set_option maxHeartbeats 4000000 in
theorem b_path_141 {G : zG} {E : rE} {S : rS} {N : Nat} {Q : Option Value → rS → Prop} {X : rS → Prop} (hG : zOK G) (hR : ∀ S', X S' → Q none S') (ok : O_path_141 N S) (hx : X (F_path_141 N S)) : rX G E dX12_path mX12_path 141 [none, none, none, none, none, none, none] [] S Q := by
  unfold O_path_141 at ok
  unfold F_path_141 at hx
  exact r_return rfl dX12_path_141 (hR _ hx)
def F_path_137 (N : Nat) (rec : Int32 → Int32 → rS → Nat × rS) (x2 : Int32) (s0 : Int32) (S : rS) : Nat × rS := (rec x2 s0 S)
def O_path_137 (N : Nat) (rok : Int32 → Int32 → rS → Prop) (x2 : Int32) (s0 : Int32) (S : rS) : Prop := rok x2 s0 S
set_option maxHeartbeats 4000000 in
theorem b_path_137 {G : zG} {E : rE} {S : rS} {N : Nat} {Q : Option Value → rS → Prop} {X : Nat × rS → Prop} (hG : zOK G) (hX0 : ∀ (S' : rS), X (0, S') → rX G E dX12_path mX12_path 141 [none, none, none, none, none, none, none] [] S' Q) {rec : Int32 → Int32 → rS → Nat × rS} {rok : Int32 → Int32 → rS → Prop} (hrec : ∀ (x2 : Int32) (x3 : Int32) (S : rS), rok x2 x3 S → X (rec x2 x3 S) → rX G E dX12_path mX12_path 11 [some (.ref E.1), none, some (.int x2), some (.int x3), none, none, none] [] S Q) {x2 : Int32} {s0 : Int32} (ok : O_path_137 N rok x2 s0 S) (hx : X (F_path_137 N rec x2 s0 S)) : rX G E dX12_path mX12_path 137 [some (.ref E.1), none, some (.int x2), none, none, none, none] [.int s0] S Q := by
  unfold O_path_137 at ok
  unfold F_path_137 at hx
  refine r_istore_3 dX12_path_137 (by decide) rfl ?_
  refine r_goto (tgt := 11) dX12_path_138 (by decide) ?_
  exact rX.cutz (hrec _ _ S ok hx) ⟨rfl, rfl, rfl, trivial⟩
def F_path_128 (N : Nat) (rec : Int32 → Int32 → rS → Nat × rS) (x2 : Int32) (x3 : Int32) (S : rS) : Nat × rS := (F_path_137 N rec (x2 / (nI 2)) ((f_join N S x3).1) (f_join N S x3).2)
def O_path_128 (N : Nat) (rok : Int32 → Int32 → rS → Prop) (x2 : Int32) (x3 : Int32) (S : rS) : Prop := (o_join N S x3) ∧ O_path_137 N rok (x2 / (nI 2)) ((f_join N S x3).1) (f_join N S x3).2
set_option maxHeartbeats 4000000 in
theorem b_path_128 {G : zG} {E : rE} {S : rS} {N : Nat} {Q : Option Value → rS → Prop} {X : Nat × rS → Prop} (hG : zOK G) (hX0 : ∀ (S' : rS), X (0, S') → rX G E dX12_path mX12_path 141 [none, none, none, none, none, none, none] [] S' Q) {rec : Int32 → Int32 → rS → Nat × rS} {rok : Int32 → Int32 → rS → Prop} (hrec : ∀ (x2 : Int32) (x3 : Int32) (S : rS), rok x2 x3 S → X (rec x2 x3 S) → rX G E dX12_path mX12_path 11 [some (.ref E.1), none, some (.int x2), some (.int x3), none, none, none] [] S Q) {x2 : Int32} {x3 : Int32} (ok : O_path_128 N rok x2 x3 S) (hx : X (F_path_128 N rec x2 x3 S)) : rX G E dX12_path mX12_path 128 [some (.ref E.1), none, some (.int x2), some (.int x3), none, none, none] [] S Q := by
  unfold O_path_128 at ok
  unfold F_path_128 at hx
  refine r_iload_n dX12_path_128 rfl rfl ?_
  refine r_iconst (v := nI 2) dX12_path_129 (by decide) ?_
  refine r_idiv dX12_path_130 (by decide) ?_
  refine r_istore_2 dX12_path_131 (by decide) rfl ?_
  refine r_aload_n dX12_path_132 rfl rfl ?_
  refine r_iload_n dX12_path_133 rfl rfl ?_
  refine r_V1i (y' := mX12_join) dX12_path_134 lX12_100 kX12_join ⟨by decide, by decide⟩ rfl (Nat.le_of_ble_eq_true rfl) (rc_X12_join hG ok.1) (fun v_134 S_134 h_134 => ?_)
  obtain ⟨rfl, hS_134⟩ := h_134
  have hS_134 := hS_134.symm
  subst hS_134
  have ok := ok.2
  exact rX.cutz (b_path_137 hG hX0 hrec ok hx) ⟨rfl, rfl, trivial⟩
def F_path_122 (N : Nat) (rec : Int32 → Int32 → Int32 → Int32 → Int32 → rS → Nat × Int32 × Int32 × rS) (x2 : Int32) (x3 : Int32) (x4 : Int32) (x5 : Int32) (x6 : Int32) (S : rS) : Nat × Int32 × Int32 × rS := (rec x2 x3 x4 x5 (x6 + nI 1) S)
def O_path_122 (N : Nat) (rok : Int32 → Int32 → Int32 → Int32 → Int32 → rS → Prop) (x2 : Int32) (x3 : Int32) (x4 : Int32) (x5 : Int32) (x6 : Int32) (S : rS) : Prop := rok x2 x3 x4 x5 (x6 + nI 1) S
set_option maxHeartbeats 4000000 in
theorem b_path_122 {G : zG} {E : rE} {S : rS} {N : Nat} {Q : Option Value → rS → Prop} {X : Nat × Int32 × Int32 × rS → Prop} (hG : zOK G) (hX0 : ∀ (x2 : Int32) (x3 : Int32) (S' : rS), X (0, x2, x3, S') → rX G E dX12_path mX12_path 128 [some (.ref E.1), none, some (.int x2), some (.int x3), none, none, none] [] S' Q) {rec : Int32 → Int32 → Int32 → Int32 → Int32 → rS → Nat × Int32 × Int32 × rS} {rok : Int32 → Int32 → Int32 → Int32 → Int32 → rS → Prop} (hrec : ∀ (x2 : Int32) (x3 : Int32) (x4 : Int32) (x5 : Int32) (x6 : Int32) (S : rS), rok x2 x3 x4 x5 x6 S → X (rec x2 x3 x4 x5 x6 S) → rX G E dX12_path mX12_path 83 [some (.ref E.1), none, some (.int x2), some (.int x3), some (.int x4), some (.int x5), some (.int x6)] [] S Q) {x2 : Int32} {x3 : Int32} {x4 : Int32} {x5 : Int32} {x6 : Int32} (ok : O_path_122 N rok x2 x3 x4 x5 x6 S) (hx : X (F_path_122 N rec x2 x3 x4 x5 x6 S)) : rX G E dX12_path mX12_path 122 [some (.ref E.1), none, some (.int x2), some (.int x3), some (.int x4), some (.int x5), some (.int x6)] [] S Q := by
  unfold O_path_122 at ok
  unfold F_path_122 at hx
  refine r_iinc_6 (v := (x6 + nI 1)) dX12_path_122 rfl (by first | rfl | (congr 1)) (by decide) rfl ?_
  refine r_goto (tgt := 83) dX12_path_125 (by decide) ?_
  exact rX.cutz (hrec _ _ _ _ _ S ok hx) ⟨rfl, rfl, rfl, rfl, rfl, rfl, trivial⟩
def B_path_83 (N : Nat) (rec : Int32 → Int32 → Int32 → Int32 → Int32 → rS → Nat × Int32 × Int32 × rS) (x2 : Int32) (x3 : Int32) (x4 : Int32) (x5 : Int32) (x6 : Int32) (S : rS) : Nat × Int32 × Int32 × rS := (if x4 = 0 then (if (nI 32) ≤ x6 then (0, x2, x3, S) else (F_path_122 N rec x2 x3 x4 x5 x6 (f_tell N S (f_byteIn N S (S.2.2 18 (((nI 4) * x5) + (x6 / (nI 8))).toNatClampNeg) (x6 - x6 / (nI 8) * (nI 8)))))) else (0, x2, x3, S))
def OB_path_83 (N : Nat) (rok : Int32 → Int32 → Int32 → Int32 → Int32 → rS → Prop) (x2 : Int32) (x3 : Int32) (x4 : Int32) (x5 : Int32) (x6 : Int32) (S : rS) : Prop := ((x4 = 0 → (((nI 32) ≤ x6 → True) ∧ (¬ (nI 32) ≤ x6 → (vp_in (((nI 4) * x5) + (x6 / (nI 8))) 272) ∧ (o_byteIn N S (S.2.2 18 (((nI 4) * x5) + (x6 / (nI 8))).toNatClampNeg) (x6 - x6 / (nI 8) * (nI 8))) ∧ (o_tell N S (f_byteIn N S (S.2.2 18 (((nI 4) * x5) + (x6 / (nI 8))).toNatClampNeg) (x6 - x6 / (nI 8) * (nI 8)))) ∧ O_path_122 N rok x2 x3 x4 x5 x6 (f_tell N S (f_byteIn N S (S.2.2 18 (((nI 4) * x5) + (x6 / (nI 8))).toNatClampNeg) (x6 - x6 / (nI 8) * (nI 8))))))) ∧ (¬ x4 = 0 → True))
set_option maxHeartbeats 4000000 in
theorem bb_path_83 {G : zG} {E : rE} {S : rS} {N : Nat} {Q : Option Value → rS → Prop} {X : Nat × Int32 × Int32 × rS → Prop} (hG : zOK G) (hX0 : ∀ (x2 : Int32) (x3 : Int32) (S' : rS), X (0, x2, x3, S') → rX G E dX12_path mX12_path 128 [some (.ref E.1), none, some (.int x2), some (.int x3), none, none, none] [] S' Q) {rec : Int32 → Int32 → Int32 → Int32 → Int32 → rS → Nat × Int32 × Int32 × rS} {rok : Int32 → Int32 → Int32 → Int32 → Int32 → rS → Prop} (hrec : ∀ (x2 : Int32) (x3 : Int32) (x4 : Int32) (x5 : Int32) (x6 : Int32) (S : rS), rok x2 x3 x4 x5 x6 S → X (rec x2 x3 x4 x5 x6 S) → rX G E dX12_path mX12_path 83 [some (.ref E.1), none, some (.int x2), some (.int x3), some (.int x4), some (.int x5), some (.int x6)] [] S Q) {x2 : Int32} {x3 : Int32} {x4 : Int32} {x5 : Int32} {x6 : Int32} (ok : OB_path_83 N rok x2 x3 x4 x5 x6 S) (hx : X (B_path_83 N rec x2 x3 x4 x5 x6 S)) : rX G E dX12_path mX12_path 83 [some (.ref E.1), none, some (.int x2), some (.int x3), some (.int x4), some (.int x5), some (.int x6)] [] S Q := by
  unfold OB_path_83 at ok
  unfold B_path_83 at hx
  refine r_iload dX12_path_83 rfl ?_
  refine r_if_ne (tgt := 128) dX12_path_85 (by decide) (fun c_85 => ?_) (fun c_85 => ?_)
  · have ok := ok.2 c_85
    have hx := xif_n c_85 hx
    exact rX.cutz (hX0 _ _ S hx) ⟨rfl, rfl, rfl, trivial⟩
  · have ok := ok.1 c_85
    have hx := xif_p c_85 hx
    refine r_iload dX12_path_88 rfl ?_
    refine r_bipush (v := nI 32) dX12_path_90 (by decide) ?_
    refine r_icmp_ge (tgt := 128) dX12_path_92 (by decide) (fun c_92 => ?_) (fun c_92 => ?_)
    · have ok := ok.1 c_92
      have hx := xif_p c_92 hx
      exact rX.cutz (hX0 _ _ S hx) ⟨rfl, rfl, rfl, trivial⟩
    · have ok := ok.2 c_92
      have hx := xif_n c_92 hx
      refine r_aload_n dX12_path_95 rfl rfl ?_
      refine r_aload_n dX12_path_96 rfl rfl ?_
      refine r_getA 18 fX12_87 (by decide) (by decide) dX12_path_97 ?_
      refine r_iconst (v := nI 4) dX12_path_100 (by decide) ?_
      refine r_iload dX12_path_101 rfl ?_
      refine r_imul dX12_path_103 ?_
      refine r_iload dX12_path_104 rfl ?_
      refine r_bipush (v := nI 8) dX12_path_106 (by decide) ?_
      refine r_idiv dX12_path_108 (by decide) ?_
      refine r_iadd dX12_path_109 ?_
      refine r_lald (by decide) (by decide) dX12_path_110 ok.1 ?_
      have ok := ok.2
      refine r_iload dX12_path_111 rfl ?_
      refine r_bipush (v := nI 8) dX12_path_113 (by decide) ?_
      refine r_irem dX12_path_115 (by decide) ?_
      refine r_S2i (y' := mX12_byteIn) dX12_path_116 lX12_49 kX12_byteIn ⟨by decide, by decide⟩ (Nat.le_of_ble_eq_true rfl) (rc_X12_byteIn hG ok.1) (fun v_116 S_116 h_116 => ?_)
      obtain ⟨rfl, hS_116⟩ := h_116
      have hS_116 := hS_116.symm
      subst hS_116
      have ok := ok.2
      refine r_V1v (y' := mX12_tell) dX12_path_119 lX12_109 kX12_tell ⟨by decide, by decide⟩ rfl (Nat.le_of_ble_eq_true rfl) (rc_X12_tell hG ok.1) (fun S_119 h_119 => ?_)
      subst h_119
      have ok := ok.2
      exact rX.cutz (b_path_122 hG hX0 hrec ok hx) ⟨rfl, rfl, rfl, rfl, rfl, rfl, trivial⟩
def L_path_83 (N : Nat) : Nat → Int32 → Int32 → Int32 → Int32 → Int32 → rS → Nat × Int32 × Int32 × rS
  | 0, x2, x3, x4, x5, x6, S => (0, 0, 0, S)
  | n + 1, x2, x3, x4, x5, x6, S => B_path_83 N (L_path_83 N n) x2 x3 x4 x5 x6 S
def OL_path_83 (N : Nat) : Nat → Int32 → Int32 → Int32 → Int32 → Int32 → rS → Prop
  | 0, _, _, _, _, _, _ => False
  | n + 1, x2, x3, x4, x5, x6, S => OB_path_83 N (OL_path_83 N n) x2 x3 x4 x5 x6 S
set_option maxHeartbeats 4000000 in
theorem l_path_83 {G : zG} {E : rE} {N : Nat} {Q : Option Value → rS → Prop} {X : Nat × Int32 × Int32 × rS → Prop} (hG : zOK G) (hX0 : ∀ (x2 : Int32) (x3 : Int32) (S' : rS), X (0, x2, x3, S') → rX G E dX12_path mX12_path 128 [some (.ref E.1), none, some (.int x2), some (.int x3), none, none, none] [] S' Q) : ∀ (n : Nat) (x2 : Int32) (x3 : Int32) (x4 : Int32) (x5 : Int32) (x6 : Int32) (S : rS), OL_path_83 N n x2 x3 x4 x5 x6 S → X (L_path_83 N n x2 x3 x4 x5 x6 S) → rX G E dX12_path mX12_path 83 [some (.ref E.1), none, some (.int x2), some (.int x3), some (.int x4), some (.int x5), some (.int x6)] [] S Q := by
  intro n
  induction n with
  | zero => intro x2 x3 x4 x5 x6 S ok; exact absurd ok id
  | succ n ih =>
    intro x2 x3 x4 x5 x6 S ok hx
    exact bb_path_83 hG hX0 (rec := L_path_83 N n) (rok := OL_path_83 N n) (fun x2 x3 x4 x5 x6 S ok hx => ih x2 x3 x4 x5 x6 S ok hx) ok hx
def A_path_83 (N : Nat) (rec : Int32 → Int32 → rS → Nat × rS) (x2 : Int32) (x3 : Int32) (x4 : Int32) (x5 : Int32) (x6 : Int32) (S : rS) (z : Nat × Int32 × Int32 × rS) : Nat × rS := (F_path_128 N rec (z.2.1) (z.2.2.1) z.2.2.2)
def OA_path_83 (N : Nat) (rok : Int32 → Int32 → rS → Prop) (x2 : Int32) (x3 : Int32) (x4 : Int32) (x5 : Int32) (x6 : Int32) (S : rS) (z : Nat × Int32 × Int32 × rS) : Prop := O_path_128 N rok (z.2.1) (z.2.2.1) z.2.2.2
set_option maxHeartbeats 4000000 in
theorem c_path_83 {G : zG} {E : rE} {S : rS} {N : Nat} {Q : Option Value → rS → Prop} {X : Nat × rS → Prop} (hG : zOK G) (hX0 : ∀ (S' : rS), X (0, S') → rX G E dX12_path mX12_path 141 [none, none, none, none, none, none, none] [] S' Q) {rec : Int32 → Int32 → rS → Nat × rS} {rok : Int32 → Int32 → rS → Prop} (hrec : ∀ (x2 : Int32) (x3 : Int32) (S : rS), rok x2 x3 S → X (rec x2 x3 S) → rX G E dX12_path mX12_path 11 [some (.ref E.1), none, some (.int x2), some (.int x3), none, none, none] [] S Q) {x2 : Int32} {x3 : Int32} {x4 : Int32} {x5 : Int32} {x6 : Int32} (ok : OL_path_83 N N x2 x3 x4 x5 x6 S ∧ OA_path_83 N rok x2 x3 x4 x5 x6 S (L_path_83 N N x2 x3 x4 x5 x6 S)) (hx : X (A_path_83 N rec x2 x3 x4 x5 x6 S (L_path_83 N N x2 x3 x4 x5 x6 S))) : rX G E dX12_path mX12_path 83 [some (.ref E.1), none, some (.int x2), some (.int x3), some (.int x4), some (.int x5), some (.int x6)] [] S Q := by
  refine l_path_83 hG ?_ N x2 x3 x4 x5 x6 S ok.1 (X := fun z => OA_path_83 N rok x2 x3 x4 x5 x6 S z ∧ X (A_path_83 N rec x2 x3 x4 x5 x6 S z)) ⟨ok.2, hx⟩
  · intro x2' x3' S' hz
    obtain ⟨ok, hx⟩ := hz
    unfold OA_path_83 at ok
    unfold A_path_83 at hx
    exact rX.cutz (b_path_128 hG hX0 hrec ok hx) ⟨rfl, rfl, rfl, trivial⟩
def F_path_80 (N : Nat) (rec : Int32 → Int32 → rS → Nat × rS) (x2 : Int32) (x3 : Int32) (x4 : Int32) (x5 : Int32) (S : rS) : Nat × rS := (A_path_83 N rec x2 x3 x4 x5 (nI 0) S (L_path_83 N N x2 x3 x4 x5 (nI 0) S))
def O_path_80 (N : Nat) (rok : Int32 → Int32 → rS → Prop) (x2 : Int32) (x3 : Int32) (x4 : Int32) (x5 : Int32) (S : rS) : Prop := (OL_path_83 N N x2 x3 x4 x5 (nI 0) S ∧ OA_path_83 N rok x2 x3 x4 x5 (nI 0) S (L_path_83 N N x2 x3 x4 x5 (nI 0) S))
set_option maxHeartbeats 4000000 in
theorem b_path_80 {G : zG} {E : rE} {S : rS} {N : Nat} {Q : Option Value → rS → Prop} {X : Nat × rS → Prop} (hG : zOK G) (hX0 : ∀ (S' : rS), X (0, S') → rX G E dX12_path mX12_path 141 [none, none, none, none, none, none, none] [] S' Q) {rec : Int32 → Int32 → rS → Nat × rS} {rok : Int32 → Int32 → rS → Prop} (hrec : ∀ (x2 : Int32) (x3 : Int32) (S : rS), rok x2 x3 S → X (rec x2 x3 S) → rX G E dX12_path mX12_path 11 [some (.ref E.1), none, some (.int x2), some (.int x3), none, none, none] [] S Q) {x2 : Int32} {x3 : Int32} {x4 : Int32} {x5 : Int32} (ok : O_path_80 N rok x2 x3 x4 x5 S) (hx : X (F_path_80 N rec x2 x3 x4 x5 S)) : rX G E dX12_path mX12_path 80 [some (.ref E.1), none, some (.int x2), some (.int x3), some (.int x4), some (.int x5), none] [] S Q := by
  unfold O_path_80 at ok
  unfold F_path_80 at hx
  refine r_iconst (v := nI 0) dX12_path_80 (by decide) ?_
  refine r_istore_6 dX12_path_81 (by decide) rfl ?_
  exact rX.cutz (c_path_83 hG hX0 hrec ok hx) ⟨rfl, rfl, rfl, rfl, rfl, rfl, trivial⟩
def F_path_77 (N : Nat) (rec : Int32 → Int32 → rS → Nat × rS) (x2 : Int32) (x3 : Int32) (x4 : Int32) (x5 : Int32) (s1 : Int32) (S : rS) : Nat × rS := (F_path_80 N rec x2 x3 x4 x5 (f_tell N S s1))
def O_path_77 (N : Nat) (rok : Int32 → Int32 → rS → Prop) (x2 : Int32) (x3 : Int32) (x4 : Int32) (x5 : Int32) (s1 : Int32) (S : rS) : Prop := (o_tell N S s1) ∧ O_path_80 N rok x2 x3 x4 x5 (f_tell N S s1)
set_option maxHeartbeats 4000000 in
theorem b_path_77 {G : zG} {E : rE} {S : rS} {N : Nat} {Q : Option Value → rS → Prop} {X : Nat × rS → Prop} (hG : zOK G) (hX0 : ∀ (S' : rS), X (0, S') → rX G E dX12_path mX12_path 141 [none, none, none, none, none, none, none] [] S' Q) {rec : Int32 → Int32 → rS → Nat × rS} {rok : Int32 → Int32 → rS → Prop} (hrec : ∀ (x2 : Int32) (x3 : Int32) (S : rS), rok x2 x3 S → X (rec x2 x3 S) → rX G E dX12_path mX12_path 11 [some (.ref E.1), none, some (.int x2), some (.int x3), none, none, none] [] S Q) {x2 : Int32} {x3 : Int32} {x4 : Int32} {x5 : Int32} {s1 : Int32} (ok : O_path_77 N rok x2 x3 x4 x5 s1 S) (hx : X (F_path_77 N rec x2 x3 x4 x5 s1 S)) : rX G E dX12_path mX12_path 77 [some (.ref E.1), none, some (.int x2), some (.int x3), some (.int x4), some (.int x5), none] [.int s1, .ref E.1] S Q := by
  unfold O_path_77 at ok
  unfold F_path_77 at hx
  refine r_V1v (y' := mX12_tell) dX12_path_77 lX12_109 kX12_tell ⟨by decide, by decide⟩ rfl (Nat.le_of_ble_eq_true rfl) (rc_X12_tell hG ok.1) (fun S_77 h_77 => ?_)
  subst h_77
  have ok := ok.2
  exact rX.cutz (b_path_80 hG hX0 hrec ok hx) ⟨rfl, rfl, rfl, rfl, rfl, trivial⟩
def F_path_53 (N : Nat) (rec : Int32 → Int32 → rS → Nat × rS) (x2 : Int32) (x3 : Int32) (x4 : Int32) (s0 : Int32) (S : rS) : Nat × rS := (if x4 = 0 then (if (x2 - x2 / (nI 2) * (nI 2)) = (nI 1) then (F_path_77 N rec x2 x3 x4 s0 (nI 1) S) else (F_path_77 N rec x2 x3 x4 s0 (nI 2) S)) else (F_path_77 N rec x2 x3 x4 s0 (nI 0) S))
def O_path_53 (N : Nat) (rok : Int32 → Int32 → rS → Prop) (x2 : Int32) (x3 : Int32) (x4 : Int32) (s0 : Int32) (S : rS) : Prop := ((x4 = 0 → (((x2 - x2 / (nI 2) * (nI 2)) = (nI 1) → O_path_77 N rok x2 x3 x4 s0 (nI 1) S) ∧ (¬ (x2 - x2 / (nI 2) * (nI 2)) = (nI 1) → O_path_77 N rok x2 x3 x4 s0 (nI 2) S))) ∧ (¬ x4 = 0 → O_path_77 N rok x2 x3 x4 s0 (nI 0) S))
set_option maxHeartbeats 4000000 in
theorem b_path_53 {G : zG} {E : rE} {S : rS} {N : Nat} {Q : Option Value → rS → Prop} {X : Nat × rS → Prop} (hG : zOK G) (hX0 : ∀ (S' : rS), X (0, S') → rX G E dX12_path mX12_path 141 [none, none, none, none, none, none, none] [] S' Q) {rec : Int32 → Int32 → rS → Nat × rS} {rok : Int32 → Int32 → rS → Prop} (hrec : ∀ (x2 : Int32) (x3 : Int32) (S : rS), rok x2 x3 S → X (rec x2 x3 S) → rX G E dX12_path mX12_path 11 [some (.ref E.1), none, some (.int x2), some (.int x3), none, none, none] [] S Q) {x2 : Int32} {x3 : Int32} {x4 : Int32} {s0 : Int32} (ok : O_path_53 N rok x2 x3 x4 s0 S) (hx : X (F_path_53 N rec x2 x3 x4 s0 S)) : rX G E dX12_path mX12_path 53 [some (.ref E.1), none, some (.int x2), some (.int x3), some (.int x4), none, none] [.int s0] S Q := by
  unfold O_path_53 at ok
  unfold F_path_53 at hx
  refine r_istore_5 dX12_path_53 (by decide) rfl ?_
  refine r_aload_n dX12_path_55 rfl rfl ?_
  refine r_iload dX12_path_56 rfl ?_
  refine r_if_eq (tgt := 65) dX12_path_58 (by decide) (fun c_58 => ?_) (fun c_58 => ?_)
  · have ok := ok.1 c_58
    have hx := xif_p c_58 hx
    refine r_iload_n dX12_path_65 rfl rfl ?_
    refine r_iconst (v := nI 2) dX12_path_66 (by decide) ?_
    refine r_irem dX12_path_67 (by decide) ?_
    refine r_iconst (v := nI 1) dX12_path_68 (by decide) ?_
    refine r_icmp_ne (tgt := 76) dX12_path_69 (by decide) (fun c_69 => ?_) (fun c_69 => ?_)
    · have ok := ok.2 c_69
      have hx := xif_n c_69 hx
      refine r_iconst (v := nI 2) dX12_path_76 (by decide) ?_
      exact rX.cutz (b_path_77 hG hX0 hrec ok hx) ⟨rfl, rfl, rfl, rfl, rfl, trivial⟩
    · have ok := ok.1 c_69
      have hx := xif_p c_69 hx
      refine r_iconst (v := nI 1) dX12_path_72 (by decide) ?_
      refine r_goto (tgt := 77) dX12_path_73 (by decide) ?_
      exact rX.cutz (b_path_77 hG hX0 hrec ok hx) ⟨rfl, rfl, rfl, rfl, rfl, trivial⟩
  · have ok := ok.2 c_58
    have hx := xif_n c_58 hx
    refine r_iconst (v := nI 0) dX12_path_61 (by decide) ?_
    refine r_goto (tgt := 77) dX12_path_62 (by decide) ?_
    exact rX.cutz (b_path_77 hG hX0 hrec ok hx) ⟨rfl, rfl, rfl, rfl, rfl, trivial⟩
def F_path_35 (N : Nat) (rec : Int32 → Int32 → rS → Nat × rS) (x2 : Int32) (x3 : Int32) (s0 : Int32) (S : rS) : Nat × rS := (if (x2 - x2 / (nI 2) * (nI 2)) = (nI 1) then (F_path_53 N rec x2 x3 s0 (x2 - (nI 1)) S) else (F_path_53 N rec x2 x3 s0 (x2 + (nI 1)) S))
def O_path_35 (N : Nat) (rok : Int32 → Int32 → rS → Prop) (x2 : Int32) (x3 : Int32) (s0 : Int32) (S : rS) : Prop := (((x2 - x2 / (nI 2) * (nI 2)) = (nI 1) → O_path_53 N rok x2 x3 s0 (x2 - (nI 1)) S) ∧ (¬ (x2 - x2 / (nI 2) * (nI 2)) = (nI 1) → O_path_53 N rok x2 x3 s0 (x2 + (nI 1)) S))
set_option maxHeartbeats 4000000 in
theorem b_path_35 {G : zG} {E : rE} {S : rS} {N : Nat} {Q : Option Value → rS → Prop} {X : Nat × rS → Prop} (hG : zOK G) (hX0 : ∀ (S' : rS), X (0, S') → rX G E dX12_path mX12_path 141 [none, none, none, none, none, none, none] [] S' Q) {rec : Int32 → Int32 → rS → Nat × rS} {rok : Int32 → Int32 → rS → Prop} (hrec : ∀ (x2 : Int32) (x3 : Int32) (S : rS), rok x2 x3 S → X (rec x2 x3 S) → rX G E dX12_path mX12_path 11 [some (.ref E.1), none, some (.int x2), some (.int x3), none, none, none] [] S Q) {x2 : Int32} {x3 : Int32} {s0 : Int32} (ok : O_path_35 N rok x2 x3 s0 S) (hx : X (F_path_35 N rec x2 x3 s0 S)) : rX G E dX12_path mX12_path 35 [some (.ref E.1), none, some (.int x2), some (.int x3), none, none, none] [.int s0] S Q := by
  unfold O_path_35 at ok
  unfold F_path_35 at hx
  refine r_istore_4 dX12_path_35 (by decide) rfl ?_
  refine r_iload_n dX12_path_37 rfl rfl ?_
  refine r_iconst (v := nI 2) dX12_path_38 (by decide) ?_
  refine r_irem dX12_path_39 (by decide) ?_
  refine r_iconst (v := nI 1) dX12_path_40 (by decide) ?_
  refine r_icmp_ne (tgt := 50) dX12_path_41 (by decide) (fun c_41 => ?_) (fun c_41 => ?_)
  · have ok := ok.2 c_41
    have hx := xif_n c_41 hx
    refine r_iload_n dX12_path_50 rfl rfl ?_
    refine r_iconst (v := nI 1) dX12_path_51 (by decide) ?_
    refine r_iadd dX12_path_52 ?_
    exact rX.cutz (b_path_53 hG hX0 hrec ok hx) ⟨rfl, rfl, rfl, rfl, trivial⟩
  · have ok := ok.1 c_41
    have hx := xif_p c_41 hx
    refine r_iload_n dX12_path_44 rfl rfl ?_
    refine r_iconst (v := nI 1) dX12_path_45 (by decide) ?_
    refine r_isub dX12_path_46 ?_
    refine r_goto (tgt := 53) dX12_path_47 (by decide) ?_
    exact rX.cutz (b_path_53 hG hX0 hrec ok hx) ⟨rfl, rfl, rfl, rfl, trivial⟩
def F_path_34 (N : Nat) (rec : Int32 → Int32 → rS → Nat × rS) (x2 : Int32) (x3 : Int32) (S : rS) : Nat × rS := (F_path_35 N rec x2 x3 (nI 0) S)
def O_path_34 (N : Nat) (rok : Int32 → Int32 → rS → Prop) (x2 : Int32) (x3 : Int32) (S : rS) : Prop := O_path_35 N rok x2 x3 (nI 0) S
set_option maxHeartbeats 4000000 in
theorem b_path_34 {G : zG} {E : rE} {S : rS} {N : Nat} {Q : Option Value → rS → Prop} {X : Nat × rS → Prop} (hG : zOK G) (hX0 : ∀ (S' : rS), X (0, S') → rX G E dX12_path mX12_path 141 [none, none, none, none, none, none, none] [] S' Q) {rec : Int32 → Int32 → rS → Nat × rS} {rok : Int32 → Int32 → rS → Prop} (hrec : ∀ (x2 : Int32) (x3 : Int32) (S : rS), rok x2 x3 S → X (rec x2 x3 S) → rX G E dX12_path mX12_path 11 [some (.ref E.1), none, some (.int x2), some (.int x3), none, none, none] [] S Q) {x2 : Int32} {x3 : Int32} (ok : O_path_34 N rok x2 x3 S) (hx : X (F_path_34 N rec x2 x3 S)) : rX G E dX12_path mX12_path 34 [some (.ref E.1), none, some (.int x2), some (.int x3), none, none, none] [] S Q := by
  unfold O_path_34 at ok
  unfold F_path_34 at hx
  refine r_iconst (v := nI 0) dX12_path_34 (by decide) ?_
  exact rX.cutz (b_path_35 hG hX0 hrec ok hx) ⟨rfl, rfl, rfl, trivial⟩
def B_path_11 (N : Nat) (rec : Int32 → Int32 → rS → Nat × rS) (x2 : Int32) (x3 : Int32) (S : rS) : Nat × rS := (if x3 ≤ (nI 1) then (0, S) else (if (x3 - x3 / (nI 2) * (nI 2)) = (nI 1) then (if x2 = (x3 - (nI 1)) then (F_path_35 N rec x2 x3 (nI 1) S) else (F_path_34 N rec x2 x3 S)) else (F_path_34 N rec x2 x3 S)))
def OB_path_11 (N : Nat) (rok : Int32 → Int32 → rS → Prop) (x2 : Int32) (x3 : Int32) (S : rS) : Prop := ((x3 ≤ (nI 1) → True) ∧ (¬ x3 ≤ (nI 1) → (((x3 - x3 / (nI 2) * (nI 2)) = (nI 1) → ((x2 = (x3 - (nI 1)) → O_path_35 N rok x2 x3 (nI 1) S) ∧ (¬ x2 = (x3 - (nI 1)) → O_path_34 N rok x2 x3 S))) ∧ (¬ (x3 - x3 / (nI 2) * (nI 2)) = (nI 1) → O_path_34 N rok x2 x3 S))))
set_option maxHeartbeats 4000000 in
theorem bb_path_11 {G : zG} {E : rE} {S : rS} {N : Nat} {Q : Option Value → rS → Prop} {X : Nat × rS → Prop} (hG : zOK G) (hX0 : ∀ (S' : rS), X (0, S') → rX G E dX12_path mX12_path 141 [none, none, none, none, none, none, none] [] S' Q) {rec : Int32 → Int32 → rS → Nat × rS} {rok : Int32 → Int32 → rS → Prop} (hrec : ∀ (x2 : Int32) (x3 : Int32) (S : rS), rok x2 x3 S → X (rec x2 x3 S) → rX G E dX12_path mX12_path 11 [some (.ref E.1), none, some (.int x2), some (.int x3), none, none, none] [] S Q) {x2 : Int32} {x3 : Int32} (ok : OB_path_11 N rok x2 x3 S) (hx : X (B_path_11 N rec x2 x3 S)) : rX G E dX12_path mX12_path 11 [some (.ref E.1), none, some (.int x2), some (.int x3), none, none, none] [] S Q := by
  unfold OB_path_11 at ok
  unfold B_path_11 at hx
  refine r_iload_n dX12_path_11 rfl rfl ?_
  refine r_iconst (v := nI 1) dX12_path_12 (by decide) ?_
  refine r_icmp_le (tgt := 141) dX12_path_13 (by decide) (fun c_13 => ?_) (fun c_13 => ?_)
  · have ok := ok.1 c_13
    have hx := xif_p c_13 hx
    exact rX.cutz (hX0 S hx) trivial
  · have ok := ok.2 c_13
    have hx := xif_n c_13 hx
    refine r_iload_n dX12_path_16 rfl rfl ?_
    refine r_iconst (v := nI 2) dX12_path_17 (by decide) ?_
    refine r_irem dX12_path_18 (by decide) ?_
    refine r_iconst (v := nI 1) dX12_path_19 (by decide) ?_
    refine r_icmp_ne (tgt := 34) dX12_path_20 (by decide) (fun c_20 => ?_) (fun c_20 => ?_)
    · have ok := ok.2 c_20
      have hx := xif_n c_20 hx
      exact rX.cutz (b_path_34 hG hX0 hrec ok hx) ⟨rfl, rfl, rfl, trivial⟩
    · have ok := ok.1 c_20
      have hx := xif_p c_20 hx
      refine r_iload_n dX12_path_23 rfl rfl ?_
      refine r_iload_n dX12_path_24 rfl rfl ?_
      refine r_iconst (v := nI 1) dX12_path_25 (by decide) ?_
      refine r_isub dX12_path_26 ?_
      refine r_icmp_ne (tgt := 34) dX12_path_27 (by decide) (fun c_27 => ?_) (fun c_27 => ?_)
      · have ok := ok.2 c_27
        have hx := xif_n c_27 hx
        exact rX.cutz (b_path_34 hG hX0 hrec ok hx) ⟨rfl, rfl, rfl, trivial⟩
      · have ok := ok.1 c_27
        have hx := xif_p c_27 hx
        refine r_iconst (v := nI 1) dX12_path_30 (by decide) ?_
        refine r_goto (tgt := 35) dX12_path_31 (by decide) ?_
        exact rX.cutz (b_path_35 hG hX0 hrec ok hx) ⟨rfl, rfl, rfl, trivial⟩
def L_path_11 (N : Nat) : Nat → Int32 → Int32 → rS → Nat × rS
  | 0, x2, x3, S => (0, S)
  | n + 1, x2, x3, S => B_path_11 N (L_path_11 N n) x2 x3 S
def OL_path_11 (N : Nat) : Nat → Int32 → Int32 → rS → Prop
  | 0, _, _, _ => False
  | n + 1, x2, x3, S => OB_path_11 N (OL_path_11 N n) x2 x3 S
set_option maxHeartbeats 4000000 in
theorem l_path_11 {G : zG} {E : rE} {N : Nat} {Q : Option Value → rS → Prop} {X : Nat × rS → Prop} (hG : zOK G) (hX0 : ∀ (S' : rS), X (0, S') → rX G E dX12_path mX12_path 141 [none, none, none, none, none, none, none] [] S' Q) : ∀ (n : Nat) (x2 : Int32) (x3 : Int32) (S : rS), OL_path_11 N n x2 x3 S → X (L_path_11 N n x2 x3 S) → rX G E dX12_path mX12_path 11 [some (.ref E.1), none, some (.int x2), some (.int x3), none, none, none] [] S Q := by
  intro n
  induction n with
  | zero => intro x2 x3 S ok; exact absurd ok id
  | succ n ih =>
    intro x2 x3 S ok hx
    exact bb_path_11 hG hX0 (rec := L_path_11 N n) (rok := OL_path_11 N n) (fun x2 x3 S ok hx => ih x2 x3 S ok hx) ok hx
def A_path_11 (N : Nat) (x2 : Int32) (x3 : Int32) (S : rS) (z : Nat × rS) : rS := (F_path_141 N z.2)
def OA_path_11 (N : Nat) (x2 : Int32) (x3 : Int32) (S : rS) (z : Nat × rS) : Prop := O_path_141 N z.2
set_option maxHeartbeats 4000000 in
theorem c_path_11 {G : zG} {E : rE} {S : rS} {N : Nat} {Q : Option Value → rS → Prop} {X : rS → Prop} (hG : zOK G) (hR : ∀ S', X S' → Q none S') {x2 : Int32} {x3 : Int32} (ok : OL_path_11 N N x2 x3 S ∧ OA_path_11 N x2 x3 S (L_path_11 N N x2 x3 S)) (hx : X (A_path_11 N x2 x3 S (L_path_11 N N x2 x3 S))) : rX G E dX12_path mX12_path 11 [some (.ref E.1), none, some (.int x2), some (.int x3), none, none, none] [] S Q := by
  refine l_path_11 hG ?_ N x2 x3 S ok.1 (X := fun z => OA_path_11 N x2 x3 S z ∧ X (A_path_11 N x2 x3 S z)) ⟨ok.2, hx⟩
  · intro S' hz
    obtain ⟨ok, hx⟩ := hz
    unfold OA_path_11 at ok
    unfold A_path_11 at hx
    exact rX.cutz (b_path_141 hG hR ok hx) trivial
def F_path_4 (N : Nat) (x1 : Int32) (S : rS) : rS := (A_path_11 N x1 (S.1 17) S (L_path_11 N N x1 (S.1 17) S))
def O_path_4 (N : Nat) (x1 : Int32) (S : rS) : Prop := (OL_path_11 N N x1 (S.1 17) S ∧ OA_path_11 N x1 (S.1 17) S (L_path_11 N N x1 (S.1 17) S))
set_option maxHeartbeats 4000000 in
theorem b_path_4 {G : zG} {E : rE} {S : rS} {N : Nat} {Q : Option Value → rS → Prop} {X : rS → Prop} (hG : zOK G) (hR : ∀ S', X S' → Q none S') {x1 : Int32} (ok : O_path_4 N x1 S) (hx : X (F_path_4 N x1 S)) : rX G E dX12_path mX12_path 4 [some (.ref E.1), some (.int x1), none, none, none, none, none] [] S Q := by
  unfold O_path_4 at ok
  unfold F_path_4 at hx
  refine r_iload_n dX12_path_4 rfl rfl ?_
  refine r_istore_2 dX12_path_5 (by decide) rfl ?_
  refine r_aload_n dX12_path_6 rfl rfl ?_
  refine r_getI 17 fX12_78 (by decide) (by decide) dX12_path_7 ?_
  refine r_istore_3 dX12_path_10 (by decide) rfl ?_
  exact rX.cutz (c_path_11 hG hR ok hx) ⟨rfl, rfl, rfl, trivial⟩
def F_path_0 (N : Nat) (x1 : Int32) (S : rS) : rS := (F_path_4 N x1 (f_leavesOf N S))
def O_path_0 (N : Nat) (x1 : Int32) (S : rS) : Prop := (o_leavesOf N S) ∧ O_path_4 N x1 (f_leavesOf N S)
set_option maxHeartbeats 4000000 in
theorem b_path_0 {G : zG} {E : rE} {S : rS} {N : Nat} {Q : Option Value → rS → Prop} {X : rS → Prop} (hG : zOK G) (hR : ∀ S', X S' → Q none S') {x1 : Int32} (ok : O_path_0 N x1 S) (hx : X (F_path_0 N x1 S)) : rX G E dX12_path mX12_path 0 [some (.ref E.1), some (.int x1), none, none, none, none, none] [] S Q := by
  unfold O_path_0 at ok
  unfold F_path_0 at hx
  refine r_aload_n dX12_path_0 rfl rfl ?_
  refine r_V0v (y' := mX12_leavesOf) dX12_path_1 lX12_97 kX12_leavesOf ⟨by decide, by decide⟩ rfl (Nat.le_of_ble_eq_true rfl) (rc_X12_leavesOf hG ok.1) (fun S_1 h_1 => ?_)
  subst h_1
  have ok := ok.2
  exact rX.cutz (b_path_4 hG hR ok hx) ⟨rfl, rfl, trivial⟩
def f_path (N : Nat) (S : rS) (x1 : Int32) : rS := F_path_0 N x1 S
def o_path (N : Nat) (S : rS) (x1 : Int32) : Prop := O_path_0 N x1 S
set_option maxHeartbeats 4000000 in
theorem rc_X12_path {G : zG} {E : rE} {S : rS} {N : Nat} (hG : zOK G) {x1 : Int32} (ok : o_path N S x1) : rCv G E dX12_path mX12_path [.ref E.1, .int x1] S (fun S' => S' = f_path N S x1) := by
  refine rC.ofX rfl (Nat.le_of_ble_eq_true rfl) ?_
  show rX G E dX12_path mX12_path 0 [some (.ref E.1), some (.int x1), none, none, none, none, none] [] S _
  exact rX.cutz (b_path_0 (X := fun F => F = f_path N S x1) hG (fun S' h => ⟨rfl, h⟩) ok rfl) ⟨rfl, rfl, trivial⟩
/-! told -/
def F_told_57 (N : Nat) (x2 : Int64) (S : rS) : Int64 := x2
def O_told_57 (N : Nat) (x2 : Int64) (S : rS) : Prop := True
set_option maxHeartbeats 4000000 in
theorem b_told_57 {G : zG} {E : rE} {S : rS} {N : Nat} {Q : Option Value → rS → Prop} {X : Int64 → Prop} (hG : zOK G) (hR : ∀ v, X v → Q (some (.long v)) S) {x2 : Int64} (ok : O_told_57 N x2 S) (hx : X (F_told_57 N x2 S)) : rX G E dX12_told mX12_told 57 [none, none, some (.long x2), none, none] [] S Q := by
  unfold O_told_57 at ok
  unfold F_told_57 at hx
  refine r_lload_n dX12_told_57 rfl rfl ?_
  exact r_lreturn rfl dX12_told_58 (hR _ hx)
def F_told_48 (N : Nat) (rec : Int32 → Int64 → Int32 → Nat × Int64 × Unit) (x1 : Int32) (x4 : Int32) (s0 : Int64) (s1 : Int32) (S : rS) : Nat × Int64 × Unit := (rec x1 (s0 ||| (Int32.toInt64 s1)) (x4 + nI 1))
def O_told_48 (N : Nat) (rok : Int32 → Int64 → Int32 → Prop) (x1 : Int32) (x4 : Int32) (s0 : Int64) (s1 : Int32) (S : rS) : Prop := rok x1 (s0 ||| (Int32.toInt64 s1)) (x4 + nI 1)
set_option maxHeartbeats 4000000 in
theorem b_told_48 {G : zG} {E : rE} {S : rS} {N : Nat} {Q : Option Value → rS → Prop} {X : Nat × Int64 × Unit → Prop} (hG : zOK G) (hX0 : ∀ (x2 : Int64) , X (0, x2, ()) → rX G E dX12_told mX12_told 57 [none, none, some (.long x2), none, none] [] S Q) {rec : Int32 → Int64 → Int32 → Nat × Int64 × Unit} {rok : Int32 → Int64 → Int32 → Prop} (hrec : ∀ (x1 : Int32) (x2 : Int64) (x4 : Int32), rok x1 x2 x4 → X (rec x1 x2 x4) → rX G E dX12_told mX12_told 5 [some (.ref E.1), some (.int x1), some (.long x2), none, some (.int x4)] [] S Q) {x1 : Int32} {x4 : Int32} {s0 : Int64} {s1 : Int32} (ok : O_told_48 N rok x1 x4 s0 s1 S) (hx : X (F_told_48 N rec x1 x4 s0 s1 S)) : rX G E dX12_told mX12_told 48 [some (.ref E.1), some (.int x1), none, none, some (.int x4)] [.int s1, .long s0] S Q := by
  unfold O_told_48 at ok
  unfold F_told_48 at hx
  refine r_i2l dX12_told_48 ?_
  refine r_lor dX12_told_49 ?_
  refine r_lstore_2 dX12_told_50 (by decide) rfl ?_
  refine r_iinc_4 (v := (x4 + nI 1)) dX12_told_51 rfl (by first | rfl | (congr 1)) (by decide) rfl ?_
  refine r_goto (tgt := 5) dX12_told_54 (by decide) ?_
  exact rX.cutz (hrec _ _ _ ok hx) ⟨rfl, rfl, rfl, rfl, trivial⟩
def F_told_47 (N : Nat) (rec : Int32 → Int64 → Int32 → Nat × Int64 × Unit) (x1 : Int32) (x4 : Int32) (s0 : Int64) (S : rS) : Nat × Int64 × Unit := (F_told_48 N rec x1 x4 s0 (nI 0) S)
def O_told_47 (N : Nat) (rok : Int32 → Int64 → Int32 → Prop) (x1 : Int32) (x4 : Int32) (s0 : Int64) (S : rS) : Prop := O_told_48 N rok x1 x4 s0 (nI 0) S
set_option maxHeartbeats 4000000 in
theorem b_told_47 {G : zG} {E : rE} {S : rS} {N : Nat} {Q : Option Value → rS → Prop} {X : Nat × Int64 × Unit → Prop} (hG : zOK G) (hX0 : ∀ (x2 : Int64) , X (0, x2, ()) → rX G E dX12_told mX12_told 57 [none, none, some (.long x2), none, none] [] S Q) {rec : Int32 → Int64 → Int32 → Nat × Int64 × Unit} {rok : Int32 → Int64 → Int32 → Prop} (hrec : ∀ (x1 : Int32) (x2 : Int64) (x4 : Int32), rok x1 x2 x4 → X (rec x1 x2 x4) → rX G E dX12_told mX12_told 5 [some (.ref E.1), some (.int x1), some (.long x2), none, some (.int x4)] [] S Q) {x1 : Int32} {x4 : Int32} {s0 : Int64} (ok : O_told_47 N rok x1 x4 s0 S) (hx : X (F_told_47 N rec x1 x4 s0 S)) : rX G E dX12_told mX12_told 47 [some (.ref E.1), some (.int x1), none, none, some (.int x4)] [.long s0] S Q := by
  unfold O_told_47 at ok
  unfold F_told_47 at hx
  refine r_iconst (v := nI 0) dX12_told_47 (by decide) ?_
  exact rX.cutz (b_told_48 hG hX0 hrec ok hx) ⟨rfl, rfl, rfl, trivial⟩
def B_told_5 (N : Nat) (rec : Int32 → Int64 → Int32 → Nat × Int64 × Unit) (x1 : Int32) (x2 : Int64) (x4 : Int32) (S : rS) : Nat × Int64 × Unit := (if (nI 8) ≤ x4 then (0, x2, ()) else (if (S.1 20) ≤ x1 then (F_told_47 N rec x1 x4 (x2 <<< (Int32.toInt64 (nI 8) &&& 63)) S) else (if ((S.1 20) - x1) ≤ x4 then (F_told_47 N rec x1 x4 (x2 <<< (Int32.toInt64 (nI 8) &&& 63)) S) else (F_told_48 N rec x1 x4 (x2 <<< (Int32.toInt64 (nI 8) &&& 63)) (S.2.1 19 (x1 + x4).toNatClampNeg) S))))
def OB_told_5 (N : Nat) (rok : Int32 → Int64 → Int32 → Prop) (x1 : Int32) (x2 : Int64) (x4 : Int32) (S : rS) : Prop := (((nI 8) ≤ x4 → True) ∧ (¬ (nI 8) ≤ x4 → (((S.1 20) ≤ x1 → O_told_47 N rok x1 x4 (x2 <<< (Int32.toInt64 (nI 8) &&& 63)) S) ∧ (¬ (S.1 20) ≤ x1 → ((((S.1 20) - x1) ≤ x4 → O_told_47 N rok x1 x4 (x2 <<< (Int32.toInt64 (nI 8) &&& 63)) S) ∧ (¬ ((S.1 20) - x1) ≤ x4 → (vp_in (x1 + x4) 260) ∧ O_told_48 N rok x1 x4 (x2 <<< (Int32.toInt64 (nI 8) &&& 63)) (S.2.1 19 (x1 + x4).toNatClampNeg) S))))))
set_option maxHeartbeats 4000000 in
theorem bb_told_5 {G : zG} {E : rE} {S : rS} {N : Nat} {Q : Option Value → rS → Prop} {X : Nat × Int64 × Unit → Prop} (hG : zOK G) (hX0 : ∀ (x2 : Int64) , X (0, x2, ()) → rX G E dX12_told mX12_told 57 [none, none, some (.long x2), none, none] [] S Q) {rec : Int32 → Int64 → Int32 → Nat × Int64 × Unit} {rok : Int32 → Int64 → Int32 → Prop} (hrec : ∀ (x1 : Int32) (x2 : Int64) (x4 : Int32), rok x1 x2 x4 → X (rec x1 x2 x4) → rX G E dX12_told mX12_told 5 [some (.ref E.1), some (.int x1), some (.long x2), none, some (.int x4)] [] S Q) {x1 : Int32} {x2 : Int64} {x4 : Int32} (ok : OB_told_5 N rok x1 x2 x4 S) (hx : X (B_told_5 N rec x1 x2 x4 S)) : rX G E dX12_told mX12_told 5 [some (.ref E.1), some (.int x1), some (.long x2), none, some (.int x4)] [] S Q := by
  unfold OB_told_5 at ok
  unfold B_told_5 at hx
  refine r_iload dX12_told_5 rfl ?_
  refine r_bipush (v := nI 8) dX12_told_7 (by decide) ?_
  refine r_icmp_ge (tgt := 57) dX12_told_9 (by decide) (fun c_9 => ?_) (fun c_9 => ?_)
  · have ok := ok.1 c_9
    have hx := xif_p c_9 hx
    exact rX.cutz (hX0 _  hx) ⟨rfl, trivial⟩
  · have ok := ok.2 c_9
    have hx := xif_n c_9 hx
    refine r_lload_n dX12_told_12 rfl rfl ?_
    refine r_bipush (v := nI 8) dX12_told_13 (by decide) ?_
    refine r_lshl dX12_told_15 ?_
    refine r_iload_n dX12_told_16 rfl rfl ?_
    refine r_aload_n dX12_told_17 rfl rfl ?_
    refine r_getI 20 fX12_106 (by decide) (by decide) dX12_told_18 ?_
    refine r_icmp_ge (tgt := 47) dX12_told_21 (by decide) (fun c_21 => ?_) (fun c_21 => ?_)
    · have ok := ok.1 c_21
      have hx := xif_p c_21 hx
      exact rX.cutz (b_told_47 hG hX0 hrec ok hx) ⟨rfl, rfl, rfl, trivial⟩
    · have ok := ok.2 c_21
      have hx := xif_n c_21 hx
      refine r_iload dX12_told_24 rfl ?_
      refine r_aload_n dX12_told_26 rfl rfl ?_
      refine r_getI 20 fX12_106 (by decide) (by decide) dX12_told_27 ?_
      refine r_iload_n dX12_told_30 rfl rfl ?_
      refine r_isub dX12_told_31 ?_
      refine r_icmp_ge (tgt := 47) dX12_told_32 (by decide) (fun c_32 => ?_) (fun c_32 => ?_)
      · have ok := ok.1 c_32
        have hx := xif_p c_32 hx
        exact rX.cutz (b_told_47 hG hX0 hrec ok hx) ⟨rfl, rfl, rfl, trivial⟩
      · have ok := ok.2 c_32
        have hx := xif_n c_32 hx
        refine r_aload_n dX12_told_35 rfl rfl ?_
        refine r_getA 19 fX12_103 (by decide) (by decide) dX12_told_36 ?_
        refine r_iload_n dX12_told_39 rfl rfl ?_
        refine r_iload dX12_told_40 rfl ?_
        refine r_iadd dX12_told_42 ?_
        refine r_iald (by decide) (by decide) dX12_told_43 ok.1 ?_
        have ok := ok.2
        refine r_goto (tgt := 48) dX12_told_44 (by decide) ?_
        exact rX.cutz (b_told_48 hG hX0 hrec ok hx) ⟨rfl, rfl, rfl, trivial⟩
def L_told_5 (N : Nat) : Nat → Int32 → Int64 → Int32 → rS → Nat × Int64 × Unit
  | 0, x1, x2, x4, S => (0, 0, ())
  | n + 1, x1, x2, x4, S => B_told_5 N (fun x1 x2 x4 => L_told_5 N n x1 x2 x4 S) x1 x2 x4 S
def OL_told_5 (N : Nat) : Nat → Int32 → Int64 → Int32 → rS → Prop
  | 0, _, _, _, _ => False
  | n + 1, x1, x2, x4, S => OB_told_5 N (fun x1 x2 x4 => OL_told_5 N n x1 x2 x4 S) x1 x2 x4 S
set_option maxHeartbeats 4000000 in
theorem l_told_5 {G : zG} {E : rE} {S : rS} {N : Nat} {Q : Option Value → rS → Prop} {X : Nat × Int64 × Unit → Prop} (hG : zOK G) (hX0 : ∀ (x2 : Int64) , X (0, x2, ()) → rX G E dX12_told mX12_told 57 [none, none, some (.long x2), none, none] [] S Q) : ∀ (n : Nat) (x1 : Int32) (x2 : Int64) (x4 : Int32) , OL_told_5 N n x1 x2 x4 S → X (L_told_5 N n x1 x2 x4 S) → rX G E dX12_told mX12_told 5 [some (.ref E.1), some (.int x1), some (.long x2), none, some (.int x4)] [] S Q := by
  intro n
  induction n with
  | zero => intro x1 x2 x4 ok; exact absurd ok id
  | succ n ih =>
    intro x1 x2 x4 ok hx
    exact bb_told_5 hG hX0 (rec := fun x1 x2 x4 => L_told_5 N n x1 x2 x4 S) (rok := fun x1 x2 x4 => OL_told_5 N n x1 x2 x4 S) (fun x1 x2 x4 ok hx => ih x1 x2 x4 ok hx) ok hx
def A_told_5 (N : Nat) (x1 : Int32) (x2 : Int64) (x4 : Int32) (S : rS) (z : Nat × Int64 × Unit) : Int64 := (F_told_57 N (z.2.1) S)
def OA_told_5 (N : Nat) (x1 : Int32) (x2 : Int64) (x4 : Int32) (S : rS) (z : Nat × Int64 × Unit) : Prop := O_told_57 N (z.2.1) S
set_option maxHeartbeats 4000000 in
theorem c_told_5 {G : zG} {E : rE} {S : rS} {N : Nat} {Q : Option Value → rS → Prop} {X : Int64 → Prop} (hG : zOK G) (hR : ∀ v, X v → Q (some (.long v)) S) {x1 : Int32} {x2 : Int64} {x4 : Int32} (ok : OL_told_5 N N x1 x2 x4 S ∧ OA_told_5 N x1 x2 x4 S (L_told_5 N N x1 x2 x4 S)) (hx : X (A_told_5 N x1 x2 x4 S (L_told_5 N N x1 x2 x4 S))) : rX G E dX12_told mX12_told 5 [some (.ref E.1), some (.int x1), some (.long x2), none, some (.int x4)] [] S Q := by
  refine l_told_5 hG ?_ N x1 x2 x4 ok.1 (X := fun z => OA_told_5 N x1 x2 x4 S z ∧ X (A_told_5 N x1 x2 x4 S z)) ⟨ok.2, hx⟩
  · intro x2' hz
    obtain ⟨ok, hx⟩ := hz
    unfold OA_told_5 at ok
    unfold A_told_5 at hx
    exact rX.cutz (b_told_57 hG hR ok hx) ⟨rfl, trivial⟩
def F_told_0 (N : Nat) (x1 : Int32) (S : rS) : Int64 := (A_told_5 N x1 (0 : Int64) (nI 0) S (L_told_5 N N x1 (0 : Int64) (nI 0) S))
def O_told_0 (N : Nat) (x1 : Int32) (S : rS) : Prop := (OL_told_5 N N x1 (0 : Int64) (nI 0) S ∧ OA_told_5 N x1 (0 : Int64) (nI 0) S (L_told_5 N N x1 (0 : Int64) (nI 0) S))
set_option maxHeartbeats 4000000 in
theorem b_told_0 {G : zG} {E : rE} {S : rS} {N : Nat} {Q : Option Value → rS → Prop} {X : Int64 → Prop} (hG : zOK G) (hR : ∀ v, X v → Q (some (.long v)) S) {x1 : Int32} (ok : O_told_0 N x1 S) (hx : X (F_told_0 N x1 S)) : rX G E dX12_told mX12_told 0 [some (.ref E.1), some (.int x1), none, none, none] [] S Q := by
  unfold O_told_0 at ok
  unfold F_told_0 at hx
  refine r_lconst (v := 0) dX12_told_0 rfl ?_
  refine r_lstore_2 dX12_told_1 (by decide) rfl ?_
  refine r_iconst (v := nI 0) dX12_told_2 (by decide) ?_
  refine r_istore_4 dX12_told_3 (by decide) rfl ?_
  exact rX.cutz (c_told_5 hG hR ok hx) ⟨rfl, rfl, rfl, rfl, trivial⟩
def f_told (N : Nat) (S : rS) (x1 : Int32) : Int64 := F_told_0 N x1 S
def o_told (N : Nat) (S : rS) (x1 : Int32) : Prop := O_told_0 N x1 S
set_option maxHeartbeats 4000000 in
theorem rc_X12_told {G : zG} {E : rE} {S : rS} {N : Nat} (hG : zOK G) {x1 : Int32} (ok : o_told N S x1) : rCl G E dX12_told mX12_told [.ref E.1, .int x1] S (fun v S' => v = f_told N S x1 ∧ S' = S) := by
  refine rC.ofX rfl (Nat.le_of_ble_eq_true rfl) ?_
  show rX G E dX12_told mX12_told 0 [some (.ref E.1), some (.int x1), none, none, none] [] S _
  exact rX.cutz (b_told_0 (X := fun F => F = f_told N S x1) hG (fun v h => ⟨v, rfl, h, rfl⟩) ok rfl) ⟨rfl, rfl, trivial⟩
/-! partsOf -/
def F_partsOf_90 (N : Nat)  (S : rS) : rS := S
def O_partsOf_90 (N : Nat)  (S : rS) : Prop := True
set_option maxHeartbeats 4000000 in
theorem b_partsOf_90 {G : zG} {E : rE} {S : rS} {N : Nat} {Q : Option Value → rS → Prop} {X : rS → Prop} (hG : zOK G) (hR : ∀ S', X S' → Q none S') (ok : O_partsOf_90 N S) (hx : X (F_partsOf_90 N S)) : rX G E dX12_partsOf mX12_partsOf 90 [none, none, none, none, none, none] [] S Q := by
  unfold O_partsOf_90 at ok
  unfold F_partsOf_90 at hx
  exact r_return rfl dX12_partsOf_90 (hR _ hx)
def F_partsOf_79 (N : Nat) (rec : Int32 → Int32 → Int32 → rS → Nat × rS) (x1 : Int32) (x2 : Int32) (x3 : Int32) (x4 : Int32) (S : rS) : Nat × rS := (rec x1 (x2 + x4) (x3 + nI 1) S)
def O_partsOf_79 (N : Nat) (rok : Int32 → Int32 → Int32 → rS → Prop) (x1 : Int32) (x2 : Int32) (x3 : Int32) (x4 : Int32) (S : rS) : Prop := rok x1 (x2 + x4) (x3 + nI 1) S
set_option maxHeartbeats 4000000 in
theorem b_partsOf_79 {G : zG} {E : rE} {S : rS} {N : Nat} {Q : Option Value → rS → Prop} {X : Nat × rS → Prop} (hG : zOK G) (hX0 : ∀ (S' : rS), X (0, S') → rX G E dX12_partsOf mX12_partsOf 90 [none, none, none, none, none, none] [] S' Q) {rec : Int32 → Int32 → Int32 → rS → Nat × rS} {rok : Int32 → Int32 → Int32 → rS → Prop} (hrec : ∀ (x1 : Int32) (x2 : Int32) (x3 : Int32) (S : rS), rok x1 x2 x3 S → X (rec x1 x2 x3 S) → rX G E dX12_partsOf mX12_partsOf 9 [some (.ref E.1), some (.int x1), some (.int x2), some (.int x3), none, none] [] S Q) {x1 : Int32} {x2 : Int32} {x3 : Int32} {x4 : Int32} (ok : O_partsOf_79 N rok x1 x2 x3 x4 S) (hx : X (F_partsOf_79 N rec x1 x2 x3 x4 S)) : rX G E dX12_partsOf mX12_partsOf 79 [some (.ref E.1), some (.int x1), some (.int x2), some (.int x3), some (.int x4), none] [] S Q := by
  unfold O_partsOf_79 at ok
  unfold F_partsOf_79 at hx
  refine r_iload_n dX12_partsOf_79 rfl rfl ?_
  refine r_iload dX12_partsOf_80 rfl ?_
  refine r_iadd dX12_partsOf_82 ?_
  refine r_istore_2 dX12_partsOf_83 (by decide) rfl ?_
  refine r_iinc_3 (v := (x3 + nI 1)) dX12_partsOf_84 rfl (by first | rfl | (congr 1)) (by decide) rfl ?_
  refine r_goto (tgt := 9) dX12_partsOf_87 (by decide) ?_
  exact rX.cutz (hrec _ _ _ S ok hx) ⟨rfl, rfl, rfl, rfl, trivial⟩
def F_partsOf_75 (N : Nat) (rec : Int32 → Int32 → Int32 → rS → Nat × rS) (x1 : Int32) (x2 : Int32) (x3 : Int32) (x4 : Int32) (S : rS) : Nat × rS := (F_partsOf_79 N rec x1 x2 x3 x4 (f_endPart N S))
def O_partsOf_75 (N : Nat) (rok : Int32 → Int32 → Int32 → rS → Prop) (x1 : Int32) (x2 : Int32) (x3 : Int32) (x4 : Int32) (S : rS) : Prop := (o_endPart N S) ∧ O_partsOf_79 N rok x1 x2 x3 x4 (f_endPart N S)
set_option maxHeartbeats 4000000 in
theorem b_partsOf_75 {G : zG} {E : rE} {S : rS} {N : Nat} {Q : Option Value → rS → Prop} {X : Nat × rS → Prop} (hG : zOK G) (hX0 : ∀ (S' : rS), X (0, S') → rX G E dX12_partsOf mX12_partsOf 90 [none, none, none, none, none, none] [] S' Q) {rec : Int32 → Int32 → Int32 → rS → Nat × rS} {rok : Int32 → Int32 → Int32 → rS → Prop} (hrec : ∀ (x1 : Int32) (x2 : Int32) (x3 : Int32) (S : rS), rok x1 x2 x3 S → X (rec x1 x2 x3 S) → rX G E dX12_partsOf mX12_partsOf 9 [some (.ref E.1), some (.int x1), some (.int x2), some (.int x3), none, none] [] S Q) {x1 : Int32} {x2 : Int32} {x3 : Int32} {x4 : Int32} (ok : O_partsOf_75 N rok x1 x2 x3 x4 S) (hx : X (F_partsOf_75 N rec x1 x2 x3 x4 S)) : rX G E dX12_partsOf mX12_partsOf 75 [some (.ref E.1), some (.int x1), some (.int x2), some (.int x3), some (.int x4), none] [] S Q := by
  unfold O_partsOf_75 at ok
  unfold F_partsOf_75 at hx
  refine r_aload_n dX12_partsOf_75 rfl rfl ?_
  refine r_V0v (y' := mX12_endPart) dX12_partsOf_76 lX12_127 kX12_endPart ⟨by decide, by decide⟩ rfl (Nat.le_of_ble_eq_true rfl) (rc_X12_endPart hG ok.1) (fun S_76 h_76 => ?_)
  subst h_76
  have ok := ok.2
  exact rX.cutz (b_partsOf_79 hG hX0 hrec ok hx) ⟨rfl, rfl, rfl, rfl, rfl, trivial⟩
def F_partsOf_69 (N : Nat) (rec : Int32 → Int32 → Int32 → Int32 → Int32 → rS → Nat × Int32 × Int32 × Int32 × Int32 × rS) (x1 : Int32) (x2 : Int32) (x3 : Int32) (x4 : Int32) (x5 : Int32) (S : rS) : Nat × Int32 × Int32 × Int32 × Int32 × rS := (rec x1 x2 x3 x4 (x5 + nI 1) S)
def O_partsOf_69 (N : Nat) (rok : Int32 → Int32 → Int32 → Int32 → Int32 → rS → Prop) (x1 : Int32) (x2 : Int32) (x3 : Int32) (x4 : Int32) (x5 : Int32) (S : rS) : Prop := rok x1 x2 x3 x4 (x5 + nI 1) S
set_option maxHeartbeats 4000000 in
theorem b_partsOf_69 {G : zG} {E : rE} {S : rS} {N : Nat} {Q : Option Value → rS → Prop} {X : Nat × Int32 × Int32 × Int32 × Int32 × rS → Prop} (hG : zOK G) (hX0 : ∀ (x1 : Int32) (x2 : Int32) (x3 : Int32) (x4 : Int32) (S' : rS), X (0, x1, x2, x3, x4, S') → rX G E dX12_partsOf mX12_partsOf 75 [some (.ref E.1), some (.int x1), some (.int x2), some (.int x3), some (.int x4), none] [] S' Q) {rec : Int32 → Int32 → Int32 → Int32 → Int32 → rS → Nat × Int32 × Int32 × Int32 × Int32 × rS} {rok : Int32 → Int32 → Int32 → Int32 → Int32 → rS → Prop} (hrec : ∀ (x1 : Int32) (x2 : Int32) (x3 : Int32) (x4 : Int32) (x5 : Int32) (S : rS), rok x1 x2 x3 x4 x5 S → X (rec x1 x2 x3 x4 x5 S) → rX G E dX12_partsOf mX12_partsOf 49 [some (.ref E.1), some (.int x1), some (.int x2), some (.int x3), some (.int x4), some (.int x5)] [] S Q) {x1 : Int32} {x2 : Int32} {x3 : Int32} {x4 : Int32} {x5 : Int32} (ok : O_partsOf_69 N rok x1 x2 x3 x4 x5 S) (hx : X (F_partsOf_69 N rec x1 x2 x3 x4 x5 S)) : rX G E dX12_partsOf mX12_partsOf 69 [some (.ref E.1), some (.int x1), some (.int x2), some (.int x3), some (.int x4), some (.int x5)] [] S Q := by
  unfold O_partsOf_69 at ok
  unfold F_partsOf_69 at hx
  refine r_iinc_5 (v := (x5 + nI 1)) dX12_partsOf_69 rfl (by first | rfl | (congr 1)) (by decide) rfl ?_
  refine r_goto (tgt := 49) dX12_partsOf_72 (by decide) ?_
  exact rX.cutz (hrec _ _ _ _ _ S ok hx) ⟨rfl, rfl, rfl, rfl, rfl, rfl, trivial⟩
def B_partsOf_49 (N : Nat) (rec : Int32 → Int32 → Int32 → Int32 → Int32 → rS → Nat × Int32 × Int32 × Int32 × Int32 × rS) (x1 : Int32) (x2 : Int32) (x3 : Int32) (x4 : Int32) (x5 : Int32) (S : rS) : Nat × Int32 × Int32 × Int32 × Int32 × rS := (if x4 ≤ x5 then (0, x1, x2, x3, x4, S) else (F_partsOf_69 N rec x1 x2 x3 x4 x5 (f_partByte N S (f_blockByte N S x1 (x2 + x5)))))
def OB_partsOf_49 (N : Nat) (rok : Int32 → Int32 → Int32 → Int32 → Int32 → rS → Prop) (x1 : Int32) (x2 : Int32) (x3 : Int32) (x4 : Int32) (x5 : Int32) (S : rS) : Prop := ((x4 ≤ x5 → True) ∧ (¬ x4 ≤ x5 → (o_blockByte N S x1 (x2 + x5)) ∧ (o_partByte N S (f_blockByte N S x1 (x2 + x5))) ∧ O_partsOf_69 N rok x1 x2 x3 x4 x5 (f_partByte N S (f_blockByte N S x1 (x2 + x5)))))
set_option maxHeartbeats 4000000 in
theorem bb_partsOf_49 {G : zG} {E : rE} {S : rS} {N : Nat} {Q : Option Value → rS → Prop} {X : Nat × Int32 × Int32 × Int32 × Int32 × rS → Prop} (hG : zOK G) (hX0 : ∀ (x1 : Int32) (x2 : Int32) (x3 : Int32) (x4 : Int32) (S' : rS), X (0, x1, x2, x3, x4, S') → rX G E dX12_partsOf mX12_partsOf 75 [some (.ref E.1), some (.int x1), some (.int x2), some (.int x3), some (.int x4), none] [] S' Q) {rec : Int32 → Int32 → Int32 → Int32 → Int32 → rS → Nat × Int32 × Int32 × Int32 × Int32 × rS} {rok : Int32 → Int32 → Int32 → Int32 → Int32 → rS → Prop} (hrec : ∀ (x1 : Int32) (x2 : Int32) (x3 : Int32) (x4 : Int32) (x5 : Int32) (S : rS), rok x1 x2 x3 x4 x5 S → X (rec x1 x2 x3 x4 x5 S) → rX G E dX12_partsOf mX12_partsOf 49 [some (.ref E.1), some (.int x1), some (.int x2), some (.int x3), some (.int x4), some (.int x5)] [] S Q) {x1 : Int32} {x2 : Int32} {x3 : Int32} {x4 : Int32} {x5 : Int32} (ok : OB_partsOf_49 N rok x1 x2 x3 x4 x5 S) (hx : X (B_partsOf_49 N rec x1 x2 x3 x4 x5 S)) : rX G E dX12_partsOf mX12_partsOf 49 [some (.ref E.1), some (.int x1), some (.int x2), some (.int x3), some (.int x4), some (.int x5)] [] S Q := by
  unfold OB_partsOf_49 at ok
  unfold B_partsOf_49 at hx
  refine r_iload dX12_partsOf_49 rfl ?_
  refine r_iload dX12_partsOf_51 rfl ?_
  refine r_icmp_ge (tgt := 75) dX12_partsOf_53 (by decide) (fun c_53 => ?_) (fun c_53 => ?_)
  · have ok := ok.1 c_53
    have hx := xif_p c_53 hx
    exact rX.cutz (hX0 _ _ _ _ S hx) ⟨rfl, rfl, rfl, rfl, rfl, trivial⟩
  · have ok := ok.2 c_53
    have hx := xif_n c_53 hx
    refine r_aload_n dX12_partsOf_56 rfl rfl ?_
    refine r_aload_n dX12_partsOf_57 rfl rfl ?_
    refine r_iload_n dX12_partsOf_58 rfl rfl ?_
    refine r_iload_n dX12_partsOf_59 rfl rfl ?_
    refine r_iload dX12_partsOf_60 rfl ?_
    refine r_iadd dX12_partsOf_62 ?_
    refine r_V2i (y' := mX12_blockByte) dX12_partsOf_63 lX12_67 kX12_blockByte ⟨by decide, by decide⟩ rfl (Nat.le_of_ble_eq_true rfl) (rc_X12_blockByte hG ok.1) (fun v_63 S_63 h_63 => ?_)
    obtain ⟨rfl, hS_63⟩ := h_63
    have hS_63 := hS_63.symm
    subst hS_63
    have ok := ok.2
    refine r_V1v (y' := mX12_partByte) dX12_partsOf_66 lX12_124 kX12_partByte ⟨by decide, by decide⟩ rfl (Nat.le_of_ble_eq_true rfl) (rc_X12_partByte hG ok.1) (fun S_66 h_66 => ?_)
    subst h_66
    have ok := ok.2
    exact rX.cutz (b_partsOf_69 hG hX0 hrec ok hx) ⟨rfl, rfl, rfl, rfl, rfl, rfl, trivial⟩
def L_partsOf_49 (N : Nat) : Nat → Int32 → Int32 → Int32 → Int32 → Int32 → rS → Nat × Int32 × Int32 × Int32 × Int32 × rS
  | 0, x1, x2, x3, x4, x5, S => (0, 0, 0, 0, 0, S)
  | n + 1, x1, x2, x3, x4, x5, S => B_partsOf_49 N (L_partsOf_49 N n) x1 x2 x3 x4 x5 S
def OL_partsOf_49 (N : Nat) : Nat → Int32 → Int32 → Int32 → Int32 → Int32 → rS → Prop
  | 0, _, _, _, _, _, _ => False
  | n + 1, x1, x2, x3, x4, x5, S => OB_partsOf_49 N (OL_partsOf_49 N n) x1 x2 x3 x4 x5 S
set_option maxHeartbeats 4000000 in
theorem l_partsOf_49 {G : zG} {E : rE} {N : Nat} {Q : Option Value → rS → Prop} {X : Nat × Int32 × Int32 × Int32 × Int32 × rS → Prop} (hG : zOK G) (hX0 : ∀ (x1 : Int32) (x2 : Int32) (x3 : Int32) (x4 : Int32) (S' : rS), X (0, x1, x2, x3, x4, S') → rX G E dX12_partsOf mX12_partsOf 75 [some (.ref E.1), some (.int x1), some (.int x2), some (.int x3), some (.int x4), none] [] S' Q) : ∀ (n : Nat) (x1 : Int32) (x2 : Int32) (x3 : Int32) (x4 : Int32) (x5 : Int32) (S : rS), OL_partsOf_49 N n x1 x2 x3 x4 x5 S → X (L_partsOf_49 N n x1 x2 x3 x4 x5 S) → rX G E dX12_partsOf mX12_partsOf 49 [some (.ref E.1), some (.int x1), some (.int x2), some (.int x3), some (.int x4), some (.int x5)] [] S Q := by
  intro n
  induction n with
  | zero => intro x1 x2 x3 x4 x5 S ok; exact absurd ok id
  | succ n ih =>
    intro x1 x2 x3 x4 x5 S ok hx
    exact bb_partsOf_49 hG hX0 (rec := L_partsOf_49 N n) (rok := OL_partsOf_49 N n) (fun x1 x2 x3 x4 x5 S ok hx => ih x1 x2 x3 x4 x5 S ok hx) ok hx
def A_partsOf_49 (N : Nat) (rec : Int32 → Int32 → Int32 → rS → Nat × rS) (x1 : Int32) (x2 : Int32) (x3 : Int32) (x4 : Int32) (x5 : Int32) (S : rS) (z : Nat × Int32 × Int32 × Int32 × Int32 × rS) : Nat × rS := (F_partsOf_75 N rec (z.2.1) (z.2.2.1) (z.2.2.2.1) (z.2.2.2.2.1) z.2.2.2.2.2)
def OA_partsOf_49 (N : Nat) (rok : Int32 → Int32 → Int32 → rS → Prop) (x1 : Int32) (x2 : Int32) (x3 : Int32) (x4 : Int32) (x5 : Int32) (S : rS) (z : Nat × Int32 × Int32 × Int32 × Int32 × rS) : Prop := O_partsOf_75 N rok (z.2.1) (z.2.2.1) (z.2.2.2.1) (z.2.2.2.2.1) z.2.2.2.2.2
set_option maxHeartbeats 4000000 in
theorem c_partsOf_49 {G : zG} {E : rE} {S : rS} {N : Nat} {Q : Option Value → rS → Prop} {X : Nat × rS → Prop} (hG : zOK G) (hX0 : ∀ (S' : rS), X (0, S') → rX G E dX12_partsOf mX12_partsOf 90 [none, none, none, none, none, none] [] S' Q) {rec : Int32 → Int32 → Int32 → rS → Nat × rS} {rok : Int32 → Int32 → Int32 → rS → Prop} (hrec : ∀ (x1 : Int32) (x2 : Int32) (x3 : Int32) (S : rS), rok x1 x2 x3 S → X (rec x1 x2 x3 S) → rX G E dX12_partsOf mX12_partsOf 9 [some (.ref E.1), some (.int x1), some (.int x2), some (.int x3), none, none] [] S Q) {x1 : Int32} {x2 : Int32} {x3 : Int32} {x4 : Int32} {x5 : Int32} (ok : OL_partsOf_49 N N x1 x2 x3 x4 x5 S ∧ OA_partsOf_49 N rok x1 x2 x3 x4 x5 S (L_partsOf_49 N N x1 x2 x3 x4 x5 S)) (hx : X (A_partsOf_49 N rec x1 x2 x3 x4 x5 S (L_partsOf_49 N N x1 x2 x3 x4 x5 S))) : rX G E dX12_partsOf mX12_partsOf 49 [some (.ref E.1), some (.int x1), some (.int x2), some (.int x3), some (.int x4), some (.int x5)] [] S Q := by
  refine l_partsOf_49 hG ?_ N x1 x2 x3 x4 x5 S ok.1 (X := fun z => OA_partsOf_49 N rok x1 x2 x3 x4 x5 S z ∧ X (A_partsOf_49 N rec x1 x2 x3 x4 x5 S z)) ⟨ok.2, hx⟩
  · intro x1' x2' x3' x4' S' hz
    obtain ⟨ok, hx⟩ := hz
    unfold OA_partsOf_49 at ok
    unfold A_partsOf_49 at hx
    exact rX.cutz (b_partsOf_75 hG hX0 hrec ok hx) ⟨rfl, rfl, rfl, rfl, rfl, trivial⟩
def F_partsOf_44 (N : Nat) (rec : Int32 → Int32 → Int32 → rS → Nat × rS) (x1 : Int32) (x2 : Int32) (x3 : Int32) (s0 : Int32) (S : rS) : Nat × rS := (A_partsOf_49 N rec x1 x2 x3 s0 (nI 0) S (L_partsOf_49 N N x1 x2 x3 s0 (nI 0) S))
def O_partsOf_44 (N : Nat) (rok : Int32 → Int32 → Int32 → rS → Prop) (x1 : Int32) (x2 : Int32) (x3 : Int32) (s0 : Int32) (S : rS) : Prop := (OL_partsOf_49 N N x1 x2 x3 s0 (nI 0) S ∧ OA_partsOf_49 N rok x1 x2 x3 s0 (nI 0) S (L_partsOf_49 N N x1 x2 x3 s0 (nI 0) S))
set_option maxHeartbeats 4000000 in
theorem b_partsOf_44 {G : zG} {E : rE} {S : rS} {N : Nat} {Q : Option Value → rS → Prop} {X : Nat × rS → Prop} (hG : zOK G) (hX0 : ∀ (S' : rS), X (0, S') → rX G E dX12_partsOf mX12_partsOf 90 [none, none, none, none, none, none] [] S' Q) {rec : Int32 → Int32 → Int32 → rS → Nat × rS} {rok : Int32 → Int32 → Int32 → rS → Prop} (hrec : ∀ (x1 : Int32) (x2 : Int32) (x3 : Int32) (S : rS), rok x1 x2 x3 S → X (rec x1 x2 x3 S) → rX G E dX12_partsOf mX12_partsOf 9 [some (.ref E.1), some (.int x1), some (.int x2), some (.int x3), none, none] [] S Q) {x1 : Int32} {x2 : Int32} {x3 : Int32} {s0 : Int32} (ok : O_partsOf_44 N rok x1 x2 x3 s0 S) (hx : X (F_partsOf_44 N rec x1 x2 x3 s0 S)) : rX G E dX12_partsOf mX12_partsOf 44 [some (.ref E.1), some (.int x1), some (.int x2), some (.int x3), none, none] [.int s0] S Q := by
  unfold O_partsOf_44 at ok
  unfold F_partsOf_44 at hx
  refine r_istore_4 dX12_partsOf_44 (by decide) rfl ?_
  refine r_iconst (v := nI 0) dX12_partsOf_46 (by decide) ?_
  refine r_istore_5 dX12_partsOf_47 (by decide) rfl ?_
  exact rX.cutz (c_partsOf_49 hG hX0 hrec ok hx) ⟨rfl, rfl, rfl, rfl, rfl, rfl, trivial⟩
def B_partsOf_9 (N : Nat) (rec : Int32 → Int32 → Int32 → rS → Nat × rS) (x1 : Int32) (x2 : Int32) (x3 : Int32) (S : rS) : Nat × rS := (if ((f_proofsOf N S x1) + (f_paymentsOf N S x1)) ≤ x3 then (0, S) else (if (f_proofsOf N S x1) ≤ x3 then (F_partsOf_44 N rec x1 x2 x3 (nI 7) S) else (F_partsOf_44 N rec x1 x2 x3 (f_proofBytes N S x1 x2) S)))
def OB_partsOf_9 (N : Nat) (rok : Int32 → Int32 → Int32 → rS → Prop) (x1 : Int32) (x2 : Int32) (x3 : Int32) (S : rS) : Prop := (o_proofsOf N S x1) ∧ (o_paymentsOf N S x1) ∧ ((((f_proofsOf N S x1) + (f_paymentsOf N S x1)) ≤ x3 → True) ∧ (¬ ((f_proofsOf N S x1) + (f_paymentsOf N S x1)) ≤ x3 → (o_proofsOf N S x1) ∧ (((f_proofsOf N S x1) ≤ x3 → O_partsOf_44 N rok x1 x2 x3 (nI 7) S) ∧ (¬ (f_proofsOf N S x1) ≤ x3 → (o_proofBytes N S x1 x2) ∧ O_partsOf_44 N rok x1 x2 x3 (f_proofBytes N S x1 x2) S))))
set_option maxHeartbeats 4000000 in
theorem bb_partsOf_9 {G : zG} {E : rE} {S : rS} {N : Nat} {Q : Option Value → rS → Prop} {X : Nat × rS → Prop} (hG : zOK G) (hX0 : ∀ (S' : rS), X (0, S') → rX G E dX12_partsOf mX12_partsOf 90 [none, none, none, none, none, none] [] S' Q) {rec : Int32 → Int32 → Int32 → rS → Nat × rS} {rok : Int32 → Int32 → Int32 → rS → Prop} (hrec : ∀ (x1 : Int32) (x2 : Int32) (x3 : Int32) (S : rS), rok x1 x2 x3 S → X (rec x1 x2 x3 S) → rX G E dX12_partsOf mX12_partsOf 9 [some (.ref E.1), some (.int x1), some (.int x2), some (.int x3), none, none] [] S Q) {x1 : Int32} {x2 : Int32} {x3 : Int32} (ok : OB_partsOf_9 N rok x1 x2 x3 S) (hx : X (B_partsOf_9 N rec x1 x2 x3 S)) : rX G E dX12_partsOf mX12_partsOf 9 [some (.ref E.1), some (.int x1), some (.int x2), some (.int x3), none, none] [] S Q := by
  unfold OB_partsOf_9 at ok
  unfold B_partsOf_9 at hx
  refine r_iload_n dX12_partsOf_9 rfl rfl ?_
  refine r_aload_n dX12_partsOf_10 rfl rfl ?_
  refine r_iload_n dX12_partsOf_11 rfl rfl ?_
  refine r_V1i (y' := mX12_proofsOf) dX12_partsOf_12 lX12_115 kX12_proofsOf ⟨by decide, by decide⟩ rfl (Nat.le_of_ble_eq_true rfl) (rc_X12_proofsOf hG ok.1) (fun v_12 S_12 h_12 => ?_)
  obtain ⟨rfl, hS_12⟩ := h_12
  have hS_12 := hS_12.symm
  subst hS_12
  have ok := ok.2
  refine r_aload_n dX12_partsOf_15 rfl rfl ?_
  refine r_iload_n dX12_partsOf_16 rfl rfl ?_
  refine r_V1i (y' := mX12_paymentsOf) dX12_partsOf_17 lX12_118 kX12_paymentsOf ⟨by decide, by decide⟩ rfl (Nat.le_of_ble_eq_true rfl) (rc_X12_paymentsOf hG ok.1) (fun v_17 S_17 h_17 => ?_)
  obtain ⟨rfl, hS_17⟩ := h_17
  have hS_17 := hS_17.symm
  subst hS_17
  have ok := ok.2
  refine r_iadd dX12_partsOf_20 ?_
  refine r_icmp_ge (tgt := 90) dX12_partsOf_21 (by decide) (fun c_21 => ?_) (fun c_21 => ?_)
  · have ok := ok.1 c_21
    have hx := xif_p c_21 hx
    exact rX.cutz (hX0 S hx) trivial
  · have ok := ok.2 c_21
    have hx := xif_n c_21 hx
    refine r_iload_n dX12_partsOf_24 rfl rfl ?_
    refine r_aload_n dX12_partsOf_25 rfl rfl ?_
    refine r_iload_n dX12_partsOf_26 rfl rfl ?_
    refine r_V1i (y' := mX12_proofsOf) dX12_partsOf_27 lX12_115 kX12_proofsOf ⟨by decide, by decide⟩ rfl (Nat.le_of_ble_eq_true rfl) (rc_X12_proofsOf hG ok.1) (fun v_27 S_27 h_27 => ?_)
    obtain ⟨rfl, hS_27⟩ := h_27
    have hS_27 := hS_27.symm
    subst hS_27
    have ok := ok.2
    refine r_icmp_ge (tgt := 42) dX12_partsOf_30 (by decide) (fun c_30 => ?_) (fun c_30 => ?_)
    · have ok := ok.1 c_30
      have hx := xif_p c_30 hx
      refine r_bipush (v := nI 7) dX12_partsOf_42 (by decide) ?_
      exact rX.cutz (b_partsOf_44 hG hX0 hrec ok hx) ⟨rfl, rfl, rfl, rfl, trivial⟩
    · have ok := ok.2 c_30
      have hx := xif_n c_30 hx
      refine r_aload_n dX12_partsOf_33 rfl rfl ?_
      refine r_iload_n dX12_partsOf_34 rfl rfl ?_
      refine r_iload_n dX12_partsOf_35 rfl rfl ?_
      refine r_V2i (y' := mX12_proofBytes) dX12_partsOf_36 lX12_121 kX12_proofBytes ⟨by decide, by decide⟩ rfl (Nat.le_of_ble_eq_true rfl) (rc_X12_proofBytes hG ok.1) (fun v_36 S_36 h_36 => ?_)
      obtain ⟨rfl, hS_36⟩ := h_36
      have hS_36 := hS_36.symm
      subst hS_36
      have ok := ok.2
      refine r_goto (tgt := 44) dX12_partsOf_39 (by decide) ?_
      exact rX.cutz (b_partsOf_44 hG hX0 hrec ok hx) ⟨rfl, rfl, rfl, rfl, trivial⟩
def L_partsOf_9 (N : Nat) : Nat → Int32 → Int32 → Int32 → rS → Nat × rS
  | 0, x1, x2, x3, S => (0, S)
  | n + 1, x1, x2, x3, S => B_partsOf_9 N (L_partsOf_9 N n) x1 x2 x3 S
def OL_partsOf_9 (N : Nat) : Nat → Int32 → Int32 → Int32 → rS → Prop
  | 0, _, _, _, _ => False
  | n + 1, x1, x2, x3, S => OB_partsOf_9 N (OL_partsOf_9 N n) x1 x2 x3 S
set_option maxHeartbeats 4000000 in
theorem l_partsOf_9 {G : zG} {E : rE} {N : Nat} {Q : Option Value → rS → Prop} {X : Nat × rS → Prop} (hG : zOK G) (hX0 : ∀ (S' : rS), X (0, S') → rX G E dX12_partsOf mX12_partsOf 90 [none, none, none, none, none, none] [] S' Q) : ∀ (n : Nat) (x1 : Int32) (x2 : Int32) (x3 : Int32) (S : rS), OL_partsOf_9 N n x1 x2 x3 S → X (L_partsOf_9 N n x1 x2 x3 S) → rX G E dX12_partsOf mX12_partsOf 9 [some (.ref E.1), some (.int x1), some (.int x2), some (.int x3), none, none] [] S Q := by
  intro n
  induction n with
  | zero => intro x1 x2 x3 S ok; exact absurd ok id
  | succ n ih =>
    intro x1 x2 x3 S ok hx
    exact bb_partsOf_9 hG hX0 (rec := L_partsOf_9 N n) (rok := OL_partsOf_9 N n) (fun x1 x2 x3 S ok hx => ih x1 x2 x3 S ok hx) ok hx
def A_partsOf_9 (N : Nat) (x1 : Int32) (x2 : Int32) (x3 : Int32) (S : rS) (z : Nat × rS) : rS := (F_partsOf_90 N z.2)
def OA_partsOf_9 (N : Nat) (x1 : Int32) (x2 : Int32) (x3 : Int32) (S : rS) (z : Nat × rS) : Prop := O_partsOf_90 N z.2
set_option maxHeartbeats 4000000 in
theorem c_partsOf_9 {G : zG} {E : rE} {S : rS} {N : Nat} {Q : Option Value → rS → Prop} {X : rS → Prop} (hG : zOK G) (hR : ∀ S', X S' → Q none S') {x1 : Int32} {x2 : Int32} {x3 : Int32} (ok : OL_partsOf_9 N N x1 x2 x3 S ∧ OA_partsOf_9 N x1 x2 x3 S (L_partsOf_9 N N x1 x2 x3 S)) (hx : X (A_partsOf_9 N x1 x2 x3 S (L_partsOf_9 N N x1 x2 x3 S))) : rX G E dX12_partsOf mX12_partsOf 9 [some (.ref E.1), some (.int x1), some (.int x2), some (.int x3), none, none] [] S Q := by
  refine l_partsOf_9 hG ?_ N x1 x2 x3 S ok.1 (X := fun z => OA_partsOf_9 N x1 x2 x3 S z ∧ X (A_partsOf_9 N x1 x2 x3 S z)) ⟨ok.2, hx⟩
  · intro S' hz
    obtain ⟨ok, hx⟩ := hz
    unfold OA_partsOf_9 at ok
    unfold A_partsOf_9 at hx
    exact rX.cutz (b_partsOf_90 hG hR ok hx) trivial
def F_partsOf_4 (N : Nat) (x1 : Int32) (S : rS) : rS := (A_partsOf_9 N x1 (nI 101) (nI 0) S (L_partsOf_9 N N x1 (nI 101) (nI 0) S))
def O_partsOf_4 (N : Nat) (x1 : Int32) (S : rS) : Prop := (OL_partsOf_9 N N x1 (nI 101) (nI 0) S ∧ OA_partsOf_9 N x1 (nI 101) (nI 0) S (L_partsOf_9 N N x1 (nI 101) (nI 0) S))
set_option maxHeartbeats 4000000 in
theorem b_partsOf_4 {G : zG} {E : rE} {S : rS} {N : Nat} {Q : Option Value → rS → Prop} {X : rS → Prop} (hG : zOK G) (hR : ∀ S', X S' → Q none S') {x1 : Int32} (ok : O_partsOf_4 N x1 S) (hx : X (F_partsOf_4 N x1 S)) : rX G E dX12_partsOf mX12_partsOf 4 [some (.ref E.1), some (.int x1), none, none, none, none] [] S Q := by
  unfold O_partsOf_4 at ok
  unfold F_partsOf_4 at hx
  refine r_bipush (v := nI 101) dX12_partsOf_4 (by decide) ?_
  refine r_istore_2 dX12_partsOf_6 (by decide) rfl ?_
  refine r_iconst (v := nI 0) dX12_partsOf_7 (by decide) ?_
  refine r_istore_3 dX12_partsOf_8 (by decide) rfl ?_
  exact rX.cutz (c_partsOf_9 hG hR ok hx) ⟨rfl, rfl, rfl, rfl, trivial⟩
def F_partsOf_0 (N : Nat) (x1 : Int32) (S : rS) : rS := (F_partsOf_4 N x1 (f_noParts N S))
def O_partsOf_0 (N : Nat) (x1 : Int32) (S : rS) : Prop := (o_noParts N S) ∧ O_partsOf_4 N x1 (f_noParts N S)
set_option maxHeartbeats 4000000 in
theorem b_partsOf_0 {G : zG} {E : rE} {S : rS} {N : Nat} {Q : Option Value → rS → Prop} {X : rS → Prop} (hG : zOK G) (hR : ∀ S', X S' → Q none S') {x1 : Int32} (ok : O_partsOf_0 N x1 S) (hx : X (F_partsOf_0 N x1 S)) : rX G E dX12_partsOf mX12_partsOf 0 [some (.ref E.1), some (.int x1), none, none, none, none] [] S Q := by
  unfold O_partsOf_0 at ok
  unfold F_partsOf_0 at hx
  refine r_aload_n dX12_partsOf_0 rfl rfl ?_
  refine r_V0v (y' := mX12_noParts) dX12_partsOf_1 lX12_112 kX12_noParts ⟨by decide, by decide⟩ rfl (Nat.le_of_ble_eq_true rfl) (rc_X12_noParts hG ok.1) (fun S_1 h_1 => ?_)
  subst h_1
  have ok := ok.2
  exact rX.cutz (b_partsOf_4 hG hR ok hx) ⟨rfl, rfl, trivial⟩
def f_partsOf (N : Nat) (S : rS) (x1 : Int32) : rS := F_partsOf_0 N x1 S
def o_partsOf (N : Nat) (S : rS) (x1 : Int32) : Prop := O_partsOf_0 N x1 S
set_option maxHeartbeats 4000000 in
theorem rc_X12_partsOf {G : zG} {E : rE} {S : rS} {N : Nat} (hG : zOK G) {x1 : Int32} (ok : o_partsOf N S x1) : rCv G E dX12_partsOf mX12_partsOf [.ref E.1, .int x1] S (fun S' => S' = f_partsOf N S x1) := by
  refine rC.ofX rfl (Nat.le_of_ble_eq_true rfl) ?_
  show rX G E dX12_partsOf mX12_partsOf 0 [some (.ref E.1), some (.int x1), none, none, none, none] [] S _
  exact rX.cutz (b_partsOf_0 (X := fun F => F = f_partsOf N S x1) hG (fun S' h => ⟨rfl, h⟩) ok rfl) ⟨rfl, rfl, trivial⟩
/-! lay -/
def F_lay_37 (N : Nat)  (S : rS) : rS := (rsI S 22 ((S.1 22) + (nI 4)))
def O_lay_37 (N : Nat)  (S : rS) : Prop := True
set_option maxHeartbeats 4000000 in
theorem b_lay_37 {G : zG} {E : rE} {S : rS} {N : Nat} {Q : Option Value → rS → Prop} {X : rS → Prop} (hG : zOK G) (hR : ∀ S', X S' → Q none S') (ok : O_lay_37 N S) (hx : X (F_lay_37 N S)) : rX G E dX12_lay mX12_lay 37 [some (.ref E.1), none, none] [] S Q := by
  unfold O_lay_37 at ok
  unfold F_lay_37 at hx
  refine r_aload_n dX12_lay_37 rfl rfl ?_
  refine r_aload_n dX12_lay_38 rfl rfl ?_
  refine r_getI 22 fX12_133 (by decide) (by decide) dX12_lay_39 ?_
  refine r_iconst (v := nI 4) dX12_lay_42 (by decide) ?_
  refine r_iadd dX12_lay_43 ?_
  refine r_putI 22 fX12_133 (by decide) (by decide) rfl rfl rfl dX12_lay_44 ?_
  exact r_return rfl dX12_lay_47 (hR _ hx)
def B_lay_2 (N : Nat) (rec : Int32 → Int32 → rS → Nat × rS) (x1 : Int32) (x2 : Int32) (S : rS) : Nat × rS := (if (nI 4) ≤ x2 then (0, S) else (rec x1 (x2 + nI 1) (rsA S 21 ((S.1 22) + x2).toNatClampNeg ((x1 >>> (((nI 24) - ((nI 8) * x2)) &&& 31)) &&& (nI 255)))))
def OB_lay_2 (N : Nat) (rok : Int32 → Int32 → rS → Prop) (x1 : Int32) (x2 : Int32) (S : rS) : Prop := (((nI 4) ≤ x2 → True) ∧ (¬ (nI 4) ≤ x2 → (vp_in ((S.1 22) + x2) 1000) ∧ rok x1 (x2 + nI 1) (rsA S 21 ((S.1 22) + x2).toNatClampNeg ((x1 >>> (((nI 24) - ((nI 8) * x2)) &&& 31)) &&& (nI 255)))))
set_option maxHeartbeats 4000000 in
theorem bb_lay_2 {G : zG} {E : rE} {S : rS} {N : Nat} {Q : Option Value → rS → Prop} {X : Nat × rS → Prop} (hG : zOK G) (hX0 : ∀ (S' : rS), X (0, S') → rX G E dX12_lay mX12_lay 37 [some (.ref E.1), none, none] [] S' Q) {rec : Int32 → Int32 → rS → Nat × rS} {rok : Int32 → Int32 → rS → Prop} (hrec : ∀ (x1 : Int32) (x2 : Int32) (S : rS), rok x1 x2 S → X (rec x1 x2 S) → rX G E dX12_lay mX12_lay 2 [some (.ref E.1), some (.int x1), some (.int x2)] [] S Q) {x1 : Int32} {x2 : Int32} (ok : OB_lay_2 N rok x1 x2 S) (hx : X (B_lay_2 N rec x1 x2 S)) : rX G E dX12_lay mX12_lay 2 [some (.ref E.1), some (.int x1), some (.int x2)] [] S Q := by
  unfold OB_lay_2 at ok
  unfold B_lay_2 at hx
  refine r_iload_n dX12_lay_2 rfl rfl ?_
  refine r_iconst (v := nI 4) dX12_lay_3 (by decide) ?_
  refine r_icmp_ge (tgt := 37) dX12_lay_4 (by decide) (fun c_4 => ?_) (fun c_4 => ?_)
  · have ok := ok.1 c_4
    have hx := xif_p c_4 hx
    exact rX.cutz (hX0 S hx) ⟨rfl, trivial⟩
  · have ok := ok.2 c_4
    have hx := xif_n c_4 hx
    refine r_aload_n dX12_lay_7 rfl rfl ?_
    refine r_getA 21 fX12_130 (by decide) (by decide) dX12_lay_8 ?_
    refine r_aload_n dX12_lay_11 rfl rfl ?_
    refine r_getI 22 fX12_133 (by decide) (by decide) dX12_lay_12 ?_
    refine r_iload_n dX12_lay_15 rfl rfl ?_
    refine r_iadd dX12_lay_16 ?_
    refine r_iload_n dX12_lay_17 rfl rfl ?_
    refine r_bipush (v := nI 24) dX12_lay_18 (by decide) ?_
    refine r_bipush (v := nI 8) dX12_lay_20 (by decide) ?_
    refine r_iload_n dX12_lay_22 rfl rfl ?_
    refine r_imul dX12_lay_23 ?_
    refine r_isub dX12_lay_24 ?_
    refine r_ishr dX12_lay_25 ?_
    refine r_sipush (v := nI 255) dX12_lay_26 (by decide) ?_
    refine r_iand dX12_lay_29 ?_
    refine r_iast hG (by decide) (by decide) dX12_lay_30 ok.1 ?_
    have ok := ok.2
    refine r_iinc_2 (v := (x2 + nI 1)) dX12_lay_31 rfl (by first | rfl | (congr 1)) (by decide) rfl ?_
    refine r_goto (tgt := 2) dX12_lay_34 (by decide) ?_
    exact rX.cutz (hrec _ _ (rsA S 21 ((S.1 22) + x2).toNatClampNeg ((x1 >>> (((nI 24) - ((nI 8) * x2)) &&& 31)) &&& (nI 255))) ok hx) ⟨rfl, rfl, rfl, trivial⟩
def L_lay_2 (N : Nat) : Nat → Int32 → Int32 → rS → Nat × rS
  | 0, x1, x2, S => (0, S)
  | n + 1, x1, x2, S => B_lay_2 N (L_lay_2 N n) x1 x2 S
def OL_lay_2 (N : Nat) : Nat → Int32 → Int32 → rS → Prop
  | 0, _, _, _ => False
  | n + 1, x1, x2, S => OB_lay_2 N (OL_lay_2 N n) x1 x2 S
set_option maxHeartbeats 4000000 in
theorem l_lay_2 {G : zG} {E : rE} {N : Nat} {Q : Option Value → rS → Prop} {X : Nat × rS → Prop} (hG : zOK G) (hX0 : ∀ (S' : rS), X (0, S') → rX G E dX12_lay mX12_lay 37 [some (.ref E.1), none, none] [] S' Q) : ∀ (n : Nat) (x1 : Int32) (x2 : Int32) (S : rS), OL_lay_2 N n x1 x2 S → X (L_lay_2 N n x1 x2 S) → rX G E dX12_lay mX12_lay 2 [some (.ref E.1), some (.int x1), some (.int x2)] [] S Q := by
  intro n
  induction n with
  | zero => intro x1 x2 S ok; exact absurd ok id
  | succ n ih =>
    intro x1 x2 S ok hx
    exact bb_lay_2 hG hX0 (rec := L_lay_2 N n) (rok := OL_lay_2 N n) (fun x1 x2 S ok hx => ih x1 x2 S ok hx) ok hx
def A_lay_2 (N : Nat) (x1 : Int32) (x2 : Int32) (S : rS) (z : Nat × rS) : rS := (F_lay_37 N z.2)
def OA_lay_2 (N : Nat) (x1 : Int32) (x2 : Int32) (S : rS) (z : Nat × rS) : Prop := O_lay_37 N z.2
set_option maxHeartbeats 4000000 in
theorem c_lay_2 {G : zG} {E : rE} {S : rS} {N : Nat} {Q : Option Value → rS → Prop} {X : rS → Prop} (hG : zOK G) (hR : ∀ S', X S' → Q none S') {x1 : Int32} {x2 : Int32} (ok : OL_lay_2 N N x1 x2 S ∧ OA_lay_2 N x1 x2 S (L_lay_2 N N x1 x2 S)) (hx : X (A_lay_2 N x1 x2 S (L_lay_2 N N x1 x2 S))) : rX G E dX12_lay mX12_lay 2 [some (.ref E.1), some (.int x1), some (.int x2)] [] S Q := by
  refine l_lay_2 hG ?_ N x1 x2 S ok.1 (X := fun z => OA_lay_2 N x1 x2 S z ∧ X (A_lay_2 N x1 x2 S z)) ⟨ok.2, hx⟩
  · intro S' hz
    obtain ⟨ok, hx⟩ := hz
    unfold OA_lay_2 at ok
    unfold A_lay_2 at hx
    exact rX.cutz (b_lay_37 hG hR ok hx) ⟨rfl, trivial⟩
def F_lay_0 (N : Nat) (x1 : Int32) (S : rS) : rS := (A_lay_2 N x1 (nI 0) S (L_lay_2 N N x1 (nI 0) S))
def O_lay_0 (N : Nat) (x1 : Int32) (S : rS) : Prop := (OL_lay_2 N N x1 (nI 0) S ∧ OA_lay_2 N x1 (nI 0) S (L_lay_2 N N x1 (nI 0) S))
set_option maxHeartbeats 4000000 in
theorem b_lay_0 {G : zG} {E : rE} {S : rS} {N : Nat} {Q : Option Value → rS → Prop} {X : rS → Prop} (hG : zOK G) (hR : ∀ S', X S' → Q none S') {x1 : Int32} (ok : O_lay_0 N x1 S) (hx : X (F_lay_0 N x1 S)) : rX G E dX12_lay mX12_lay 0 [some (.ref E.1), some (.int x1), none] [] S Q := by
  unfold O_lay_0 at ok
  unfold F_lay_0 at hx
  refine r_iconst (v := nI 0) dX12_lay_0 (by decide) ?_
  refine r_istore_2 dX12_lay_1 (by decide) rfl ?_
  exact rX.cutz (c_lay_2 hG hR ok hx) ⟨rfl, rfl, rfl, trivial⟩
def f_lay (N : Nat) (S : rS) (x1 : Int32) : rS := F_lay_0 N x1 S
def o_lay (N : Nat) (S : rS) (x1 : Int32) : Prop := O_lay_0 N x1 S
set_option maxHeartbeats 4000000 in
theorem rc_X12_lay {G : zG} {E : rE} {S : rS} {N : Nat} (hG : zOK G) {x1 : Int32} (ok : o_lay N S x1) : rCv G E dX12_lay mX12_lay [.ref E.1, .int x1] S (fun S' => S' = f_lay N S x1) := by
  refine rC.ofX rfl (Nat.le_of_ble_eq_true rfl) ?_
  show rX G E dX12_lay mX12_lay 0 [some (.ref E.1), some (.int x1), none] [] S _
  exact rX.cutz (b_lay_0 (X := fun F => F = f_lay N S x1) hG (fun S' h => ⟨rfl, h⟩) ok rfl) ⟨rfl, rfl, trivial⟩
/-! feed -/
def F_feed_42 (N : Nat)  (S : rS) : Int32 × rS := ((nI 1), S)
def O_feed_42 (N : Nat)  (S : rS) : Prop := True
set_option maxHeartbeats 4000000 in
theorem b_feed_42 {G : zG} {E : rE} {S : rS} {N : Nat} {Q : Option Value → rS → Prop} {X : Int32 × rS → Prop} (hG : zOK G) (hR : ∀ v S', X (v, S') → Q (some (.int v)) S') (ok : O_feed_42 N S) (hx : X (F_feed_42 N S)) : rX G E dX12_feed mX12_feed 42 [none, none, none, none, none, none] [] S Q := by
  unfold O_feed_42 at ok
  unfold F_feed_42 at hx
  refine r_iconst (v := nI 1) dX12_feed_42 (by decide) ?_
  exact r_ireturn rfl rfl dX12_feed_43 (hR _ _ hx)
def F_feed_36 (N : Nat) (x5 : Int32) (S : rS) : Int32 × rS := (F_feed_42 N (f_lay N S x5))
def O_feed_36 (N : Nat) (x5 : Int32) (S : rS) : Prop := (o_lay N S x5) ∧ O_feed_42 N (f_lay N S x5)
set_option maxHeartbeats 4000000 in
theorem b_feed_36 {G : zG} {E : rE} {S : rS} {N : Nat} {Q : Option Value → rS → Prop} {X : Int32 × rS → Prop} (hG : zOK G) (hR : ∀ v S', X (v, S') → Q (some (.int v)) S') {x5 : Int32} (ok : O_feed_36 N x5 S) (hx : X (F_feed_36 N x5 S)) : rX G E dX12_feed mX12_feed 36 [some (.ref E.1), none, none, none, none, some (.int x5)] [] S Q := by
  unfold O_feed_36 at ok
  unfold F_feed_36 at hx
  refine r_aload_n dX12_feed_36 rfl rfl ?_
  refine r_iload dX12_feed_37 rfl ?_
  refine r_V1v (y' := mX12_lay) dX12_feed_39 lX12_136 kX12_lay ⟨by decide, by decide⟩ rfl (Nat.le_of_ble_eq_true rfl) (rc_X12_lay hG ok.1) (fun S_39 h_39 => ?_)
  subst h_39
  have ok := ok.2
  exact rX.cutz (b_feed_42 hG hR ok hx) trivial
def F_feed_30 (N : Nat) (x4 : Int32) (x5 : Int32) (S : rS) : Int32 × rS := (F_feed_36 N x5 (f_lay N S x4))
def O_feed_30 (N : Nat) (x4 : Int32) (x5 : Int32) (S : rS) : Prop := (o_lay N S x4) ∧ O_feed_36 N x5 (f_lay N S x4)
set_option maxHeartbeats 4000000 in
theorem b_feed_30 {G : zG} {E : rE} {S : rS} {N : Nat} {Q : Option Value → rS → Prop} {X : Int32 × rS → Prop} (hG : zOK G) (hR : ∀ v S', X (v, S') → Q (some (.int v)) S') {x4 : Int32} {x5 : Int32} (ok : O_feed_30 N x4 x5 S) (hx : X (F_feed_30 N x4 x5 S)) : rX G E dX12_feed mX12_feed 30 [some (.ref E.1), none, none, none, some (.int x4), some (.int x5)] [] S Q := by
  unfold O_feed_30 at ok
  unfold F_feed_30 at hx
  refine r_aload_n dX12_feed_30 rfl rfl ?_
  refine r_iload dX12_feed_31 rfl ?_
  refine r_V1v (y' := mX12_lay) dX12_feed_33 lX12_136 kX12_lay ⟨by decide, by decide⟩ rfl (Nat.le_of_ble_eq_true rfl) (rc_X12_lay hG ok.1) (fun S_33 h_33 => ?_)
  subst h_33
  have ok := ok.2
  exact rX.cutz (b_feed_36 hG hR ok hx) ⟨rfl, rfl, trivial⟩
def F_feed_25 (N : Nat) (x3 : Int32) (x4 : Int32) (x5 : Int32) (S : rS) : Int32 × rS := (F_feed_30 N x4 x5 (f_lay N S x3))
def O_feed_25 (N : Nat) (x3 : Int32) (x4 : Int32) (x5 : Int32) (S : rS) : Prop := (o_lay N S x3) ∧ O_feed_30 N x4 x5 (f_lay N S x3)
set_option maxHeartbeats 4000000 in
theorem b_feed_25 {G : zG} {E : rE} {S : rS} {N : Nat} {Q : Option Value → rS → Prop} {X : Int32 × rS → Prop} (hG : zOK G) (hR : ∀ v S', X (v, S') → Q (some (.int v)) S') {x3 : Int32} {x4 : Int32} {x5 : Int32} (ok : O_feed_25 N x3 x4 x5 S) (hx : X (F_feed_25 N x3 x4 x5 S)) : rX G E dX12_feed mX12_feed 25 [some (.ref E.1), none, none, some (.int x3), some (.int x4), some (.int x5)] [] S Q := by
  unfold O_feed_25 at ok
  unfold F_feed_25 at hx
  refine r_aload_n dX12_feed_25 rfl rfl ?_
  refine r_iload_n dX12_feed_26 rfl rfl ?_
  refine r_V1v (y' := mX12_lay) dX12_feed_27 lX12_136 kX12_lay ⟨by decide, by decide⟩ rfl (Nat.le_of_ble_eq_true rfl) (rc_X12_lay hG ok.1) (fun S_27 h_27 => ?_)
  subst h_27
  have ok := ok.2
  exact rX.cutz (b_feed_30 hG hR ok hx) ⟨rfl, rfl, rfl, trivial⟩
def F_feed_20 (N : Nat) (x2 : Int32) (x3 : Int32) (x4 : Int32) (x5 : Int32) (S : rS) : Int32 × rS := (F_feed_25 N x3 x4 x5 (f_lay N S x2))
def O_feed_20 (N : Nat) (x2 : Int32) (x3 : Int32) (x4 : Int32) (x5 : Int32) (S : rS) : Prop := (o_lay N S x2) ∧ O_feed_25 N x3 x4 x5 (f_lay N S x2)
set_option maxHeartbeats 4000000 in
theorem b_feed_20 {G : zG} {E : rE} {S : rS} {N : Nat} {Q : Option Value → rS → Prop} {X : Int32 × rS → Prop} (hG : zOK G) (hR : ∀ v S', X (v, S') → Q (some (.int v)) S') {x2 : Int32} {x3 : Int32} {x4 : Int32} {x5 : Int32} (ok : O_feed_20 N x2 x3 x4 x5 S) (hx : X (F_feed_20 N x2 x3 x4 x5 S)) : rX G E dX12_feed mX12_feed 20 [some (.ref E.1), none, some (.int x2), some (.int x3), some (.int x4), some (.int x5)] [] S Q := by
  unfold O_feed_20 at ok
  unfold F_feed_20 at hx
  refine r_aload_n dX12_feed_20 rfl rfl ?_
  refine r_iload_n dX12_feed_21 rfl rfl ?_
  refine r_V1v (y' := mX12_lay) dX12_feed_22 lX12_136 kX12_lay ⟨by decide, by decide⟩ rfl (Nat.le_of_ble_eq_true rfl) (rc_X12_lay hG ok.1) (fun S_22 h_22 => ?_)
  subst h_22
  have ok := ok.2
  exact rX.cutz (b_feed_25 hG hR ok hx) ⟨rfl, rfl, rfl, rfl, trivial⟩
def F_feed_0 (N : Nat) (x1 : Int32) (x2 : Int32) (x3 : Int32) (x4 : Int32) (x5 : Int32) (S : rS) : Int32 × rS := (if ((S.1 22) + (nI 20)) ≤ (nI 1000) then (F_feed_20 N x2 x3 x4 x5 (f_lay N S x1)) else ((nI 0), S))
def O_feed_0 (N : Nat) (x1 : Int32) (x2 : Int32) (x3 : Int32) (x4 : Int32) (x5 : Int32) (S : rS) : Prop := ((((S.1 22) + (nI 20)) ≤ (nI 1000) → (o_lay N S x1) ∧ O_feed_20 N x2 x3 x4 x5 (f_lay N S x1)) ∧ (¬ ((S.1 22) + (nI 20)) ≤ (nI 1000) → True))
set_option maxHeartbeats 4000000 in
theorem b_feed_0 {G : zG} {E : rE} {S : rS} {N : Nat} {Q : Option Value → rS → Prop} {X : Int32 × rS → Prop} (hG : zOK G) (hR : ∀ v S', X (v, S') → Q (some (.int v)) S') {x1 : Int32} {x2 : Int32} {x3 : Int32} {x4 : Int32} {x5 : Int32} (ok : O_feed_0 N x1 x2 x3 x4 x5 S) (hx : X (F_feed_0 N x1 x2 x3 x4 x5 S)) : rX G E dX12_feed mX12_feed 0 [some (.ref E.1), some (.int x1), some (.int x2), some (.int x3), some (.int x4), some (.int x5)] [] S Q := by
  unfold O_feed_0 at ok
  unfold F_feed_0 at hx
  refine r_aload_n dX12_feed_0 rfl rfl ?_
  refine r_getI 22 fX12_133 (by decide) (by decide) dX12_feed_1 ?_
  refine r_bipush (v := nI 20) dX12_feed_4 (by decide) ?_
  refine r_iadd dX12_feed_6 ?_
  refine r_sipush (v := nI 1000) dX12_feed_7 (by decide) ?_
  refine r_icmp_le (tgt := 15) dX12_feed_10 (by decide) (fun c_10 => ?_) (fun c_10 => ?_)
  · have ok := ok.1 c_10
    have hx := xif_p c_10 hx
    refine r_aload_n dX12_feed_15 rfl rfl ?_
    refine r_iload_n dX12_feed_16 rfl rfl ?_
    refine r_V1v (y' := mX12_lay) dX12_feed_17 lX12_136 kX12_lay ⟨by decide, by decide⟩ rfl (Nat.le_of_ble_eq_true rfl) (rc_X12_lay hG ok.1) (fun S_17 h_17 => ?_)
    subst h_17
    have ok := ok.2
    exact rX.cutz (b_feed_20 hG hR ok hx) ⟨rfl, rfl, rfl, rfl, rfl, trivial⟩
  · have ok := ok.2 c_10
    have hx := xif_n c_10 hx
    refine r_iconst (v := nI 0) dX12_feed_13 (by decide) ?_
    exact r_ireturn rfl rfl dX12_feed_14 (hR _ _ hx)
def f_feed (N : Nat) (S : rS) (x1 : Int32) (x2 : Int32) (x3 : Int32) (x4 : Int32) (x5 : Int32) : Int32 × rS := F_feed_0 N x1 x2 x3 x4 x5 S
def o_feed (N : Nat) (S : rS) (x1 : Int32) (x2 : Int32) (x3 : Int32) (x4 : Int32) (x5 : Int32) : Prop := O_feed_0 N x1 x2 x3 x4 x5 S
set_option maxHeartbeats 4000000 in
theorem rc_X12_feed {G : zG} {E : rE} {S : rS} {N : Nat} (hG : zOK G) {x1 : Int32} {x2 : Int32} {x3 : Int32} {x4 : Int32} {x5 : Int32} (ok : o_feed N S x1 x2 x3 x4 x5) : rCi G E dX12_feed mX12_feed [.ref E.1, .int x1, .int x2, .int x3, .int x4, .int x5] S (fun v S' => v = (f_feed N S x1 x2 x3 x4 x5).1 ∧ S' = (f_feed N S x1 x2 x3 x4 x5).2) := by
  refine rC.ofX rfl (Nat.le_of_ble_eq_true rfl) ?_
  show rX G E dX12_feed mX12_feed 0 [some (.ref E.1), some (.int x1), some (.int x2), some (.int x3), some (.int x4), some (.int x5)] [] S _
  exact rX.cutz (b_feed_0 (X := fun F => F = f_feed N S x1 x2 x3 x4 x5) hG (fun v S' h => ⟨v, rfl, by rw [← h], by rw [← h]⟩) ok rfl) ⟨rfl, rfl, rfl, rfl, rfl, rfl, trivial⟩

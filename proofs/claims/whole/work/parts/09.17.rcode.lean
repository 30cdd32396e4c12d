/-! decide -/
def F_decide_50 (N : Nat) (x1 : Int32) (S : rS) : rS := (f_rise N S x1 ((S.2.1 44 x1.toNatClampNeg) + (nI 1)))
def O_decide_50 (N : Nat) (x1 : Int32) (S : rS) : Prop := (vp_in x1 13) ∧ (o_rise N S x1 ((S.2.1 44 x1.toNatClampNeg) + (nI 1))) ∧ True
set_option maxHeartbeats 4000000 in
theorem b_decide_50 {G : zG} {E : rE} {S : rS} {N : Nat} {Q : Option Value → rS → Prop} {X : rS → Prop} (hG : zOK G) (hR : ∀ S', X S' → Q none S') {x1 : Int32} (ok : O_decide_50 N x1 S) (hx : X (F_decide_50 N x1 S)) : rX G E dX12_decide mX12_decide 50 [some (.ref E.1), some (.int x1), none] [] S Q := by
  unfold O_decide_50 at ok
  unfold F_decide_50 at hx
  refine r_aload_n dX12_decide_50 rfl rfl ?_
  refine r_iload_n dX12_decide_51 rfl rfl ?_
  refine r_aload_n dX12_decide_52 rfl rfl ?_
  refine r_getA 44 fX12_309 (by decide) (by decide) dX12_decide_53 ?_
  refine r_iload_n dX12_decide_56 rfl rfl ?_
  refine r_iald (by decide) (by decide) dX12_decide_57 ok.1 ?_
  have ok := ok.2
  refine r_iconst (v := nI 1) dX12_decide_58 (by decide) ?_
  refine r_iadd dX12_decide_59 ?_
  refine r_V2v (y' := mX12_rise) dX12_decide_60 lX12_591 kX12_rise ⟨by decide, by decide⟩ rfl (Nat.le_of_ble_eq_true rfl) (rc_X12_rise hG ok.1) (fun S_60 h_60 => ?_)
  subst h_60
  have ok := ok.2
  exact r_return rfl dX12_decide_63 (hR _ hx)
def F_decide_30 (N : Nat) (x1 : Int32) (S : rS) : rS := (F_decide_50 N x1 (f_fromPool N S x1 (((nI 585) + ((nI 41) * x1)) + (S.2.1 44 x1.toNatClampNeg))))
def O_decide_30 (N : Nat) (x1 : Int32) (S : rS) : Prop := (vp_in x1 13) ∧ (o_fromPool N S x1 (((nI 585) + ((nI 41) * x1)) + (S.2.1 44 x1.toNatClampNeg))) ∧ O_decide_50 N x1 (f_fromPool N S x1 (((nI 585) + ((nI 41) * x1)) + (S.2.1 44 x1.toNatClampNeg)))
set_option maxHeartbeats 4000000 in
theorem b_decide_30 {G : zG} {E : rE} {S : rS} {N : Nat} {Q : Option Value → rS → Prop} {X : rS → Prop} (hG : zOK G) (hR : ∀ S', X S' → Q none S') {x1 : Int32} (ok : O_decide_30 N x1 S) (hx : X (F_decide_30 N x1 S)) : rX G E dX12_decide mX12_decide 30 [some (.ref E.1), some (.int x1), none] [] S Q := by
  unfold O_decide_30 at ok
  unfold F_decide_30 at hx
  refine r_aload_n dX12_decide_30 rfl rfl ?_
  refine r_iload_n dX12_decide_31 rfl rfl ?_
  refine r_sipush (v := nI 585) dX12_decide_32 (by decide) ?_
  refine r_bipush (v := nI 41) dX12_decide_35 (by decide) ?_
  refine r_iload_n dX12_decide_37 rfl rfl ?_
  refine r_imul dX12_decide_38 ?_
  refine r_iadd dX12_decide_39 ?_
  refine r_aload_n dX12_decide_40 rfl rfl ?_
  refine r_getA 44 fX12_309 (by decide) (by decide) dX12_decide_41 ?_
  refine r_iload_n dX12_decide_44 rfl rfl ?_
  refine r_iald (by decide) (by decide) dX12_decide_45 ok.1 ?_
  have ok := ok.2
  refine r_iadd dX12_decide_46 ?_
  refine r_V2v (y' := mX12_fromPool) dX12_decide_47 lX12_609 kX12_fromPool ⟨by decide, by decide⟩ rfl (Nat.le_of_ble_eq_true rfl) (rc_X12_fromPool hG ok.1) (fun S_47 h_47 => ?_)
  subst h_47
  have ok := ok.2
  exact rX.cutz (b_decide_50 hG hR ok hx) ⟨rfl, rfl, trivial⟩
def F_decide_6 (N : Nat) (x1 : Int32) (x2 : Int32) (s0 : Int32) (S : rS) : rS := (if s0 = 0 then S else (F_decide_30 N x1 (f_copyBlock N S x2 (((nI 585) + ((nI 41) * x1)) + (S.2.1 44 x1.toNatClampNeg)))))
def O_decide_6 (N : Nat) (x1 : Int32) (x2 : Int32) (s0 : Int32) (S : rS) : Prop := ((s0 = 0 → True) ∧ (¬ s0 = 0 → (vp_in x1 13) ∧ (o_copyBlock N S x2 (((nI 585) + ((nI 41) * x1)) + (S.2.1 44 x1.toNatClampNeg))) ∧ O_decide_30 N x1 (f_copyBlock N S x2 (((nI 585) + ((nI 41) * x1)) + (S.2.1 44 x1.toNatClampNeg)))))
set_option maxHeartbeats 4000000 in
theorem b_decide_6 {G : zG} {E : rE} {S : rS} {N : Nat} {Q : Option Value → rS → Prop} {X : rS → Prop} (hG : zOK G) (hR : ∀ S', X S' → Q none S') {x1 : Int32} {x2 : Int32} {s0 : Int32} (ok : O_decide_6 N x1 x2 s0 S) (hx : X (F_decide_6 N x1 x2 s0 S)) : rX G E dX12_decide mX12_decide 6 [some (.ref E.1), some (.int x1), some (.int x2)] [.int s0] S Q := by
  unfold O_decide_6 at ok
  unfold F_decide_6 at hx
  refine r_if_ne (tgt := 10) dX12_decide_6 (by decide) (fun c_6 => ?_) (fun c_6 => ?_)
  · have ok := ok.2 c_6
    have hx := xif_n c_6 hx
    refine r_aload_n dX12_decide_10 rfl rfl ?_
    refine r_iload_n dX12_decide_11 rfl rfl ?_
    refine r_sipush (v := nI 585) dX12_decide_12 (by decide) ?_
    refine r_bipush (v := nI 41) dX12_decide_15 (by decide) ?_
    refine r_iload_n dX12_decide_17 rfl rfl ?_
    refine r_imul dX12_decide_18 ?_
    refine r_iadd dX12_decide_19 ?_
    refine r_aload_n dX12_decide_20 rfl rfl ?_
    refine r_getA 44 fX12_309 (by decide) (by decide) dX12_decide_21 ?_
    refine r_iload_n dX12_decide_24 rfl rfl ?_
    refine r_iald (by decide) (by decide) dX12_decide_25 ok.1 ?_
    have ok := ok.2
    refine r_iadd dX12_decide_26 ?_
    refine r_V2v (y' := mX12_copyBlock) dX12_decide_27 lX12_507 kX12_copyBlock ⟨by decide, by decide⟩ rfl (Nat.le_of_ble_eq_true rfl) (rc_X12_copyBlock hG ok.1) (fun S_27 h_27 => ?_)
    subst h_27
    have ok := ok.2
    exact rX.cutz (b_decide_30 hG hR ok hx) ⟨rfl, rfl, trivial⟩
  · have ok := ok.1 c_6
    have hx := xif_p c_6 hx
    exact r_return rfl dX12_decide_9 (hR _ hx)
def F_decide_0 (N : Nat) (x1 : Int32) (x2 : Int32) (S : rS) : rS := (F_decide_6 N x1 x2 ((f_noteChain N S x1 x2).1) (f_noteChain N S x1 x2).2)
def O_decide_0 (N : Nat) (x1 : Int32) (x2 : Int32) (S : rS) : Prop := (o_noteChain N S x1 x2) ∧ O_decide_6 N x1 x2 ((f_noteChain N S x1 x2).1) (f_noteChain N S x1 x2).2
set_option maxHeartbeats 4000000 in
theorem b_decide_0 {G : zG} {E : rE} {S : rS} {N : Nat} {Q : Option Value → rS → Prop} {X : rS → Prop} (hG : zOK G) (hR : ∀ S', X S' → Q none S') {x1 : Int32} {x2 : Int32} (ok : O_decide_0 N x1 x2 S) (hx : X (F_decide_0 N x1 x2 S)) : rX G E dX12_decide mX12_decide 0 [some (.ref E.1), some (.int x1), some (.int x2)] [] S Q := by
  unfold O_decide_0 at ok
  unfold F_decide_0 at hx
  refine r_aload_n dX12_decide_0 rfl rfl ?_
  refine r_iload_n dX12_decide_1 rfl rfl ?_
  refine r_iload_n dX12_decide_2 rfl rfl ?_
  refine r_V2i (y' := mX12_noteChain) dX12_decide_3 lX12_606 kX12_noteChain ⟨by decide, by decide⟩ rfl (Nat.le_of_ble_eq_true rfl) (rc_X12_noteChain hG ok.1) (fun v_3 S_3 h_3 => ?_)
  obtain ⟨rfl, hS_3⟩ := h_3
  have hS_3 := hS_3.symm
  subst hS_3
  have ok := ok.2
  exact rX.cutz (b_decide_6 hG hR ok hx) ⟨rfl, rfl, rfl, trivial⟩
def f_decide (N : Nat) (S : rS) (x1 : Int32) (x2 : Int32) : rS := F_decide_0 N x1 x2 S
def o_decide (N : Nat) (S : rS) (x1 : Int32) (x2 : Int32) : Prop := O_decide_0 N x1 x2 S
set_option maxHeartbeats 4000000 in
theorem rc_X12_decide {G : zG} {E : rE} {S : rS} {N : Nat} (hG : zOK G) {x1 : Int32} {x2 : Int32} (ok : o_decide N S x1 x2) : rCv G E dX12_decide mX12_decide [.ref E.1, .int x1, .int x2] S (fun S' => S' = f_decide N S x1 x2) := by
  refine rC.ofX rfl (Nat.le_of_ble_eq_true rfl) ?_
  show rX G E dX12_decide mX12_decide 0 [some (.ref E.1), some (.int x1), some (.int x2)] [] S _
  exact rX.cutz (b_decide_0 (X := fun F => F = f_decide N S x1 x2) hG (fun S' h => ⟨rfl, h⟩) ok rfl) ⟨rfl, rfl, rfl, trivial⟩
/-! ahead -/
def F_ahead_149 (N : Nat)  (S : rS) : Int32 := (-1)
def O_ahead_149 (N : Nat)  (S : rS) : Prop := True
set_option maxHeartbeats 4000000 in
theorem b_ahead_149 {G : zG} {E : rE} {S : rS} {N : Nat} {Q : Option Value → rS → Prop} {X : Int32 → Prop} (hG : zOK G) (hR : ∀ v, X v → Q (some (.int v)) S) (ok : O_ahead_149 N S) (hx : X (F_ahead_149 N S)) : rX G E dX12_ahead mX12_ahead 149 [none, none, none, none, none, none] [] S Q := by
  unfold O_ahead_149 at ok
  unfold F_ahead_149 at hx
  refine r_iconst (v := -1) dX12_ahead_149 (by decide) ?_
  exact r_ireturn rfl rfl dX12_ahead_150 (hR _ hx)
def F_ahead_141 (N : Nat) (x2 : Int32) (S : rS) : Int32 := x2
def O_ahead_141 (N : Nat) (x2 : Int32) (S : rS) : Prop := True
set_option maxHeartbeats 4000000 in
theorem b_ahead_141 {G : zG} {E : rE} {S : rS} {N : Nat} {Q : Option Value → rS → Prop} {X : Int32 → Prop} (hG : zOK G) (hR : ∀ v, X v → Q (some (.int v)) S) {x2 : Int32} (ok : O_ahead_141 N x2 S) (hx : X (F_ahead_141 N x2 S)) : rX G E dX12_ahead mX12_ahead 141 [none, none, some (.int x2), none, none, none] [] S Q := by
  unfold O_ahead_141 at ok
  unfold F_ahead_141 at hx
  refine r_iload_n dX12_ahead_141 rfl rfl ?_
  exact r_ireturn rfl rfl dX12_ahead_142 (hR _ hx)
def F_ahead_133 (N : Nat) (rec : Int32 → Int32 → Nat × Int32 × Unit) (x1 : Int32) (x2 : Int32) (x3 : Int32) (S : rS) : Nat × Int32 × Unit := (if x3 ≤ (S.1 1) then (rec x1 (x2 + (-1))) else (0, x2, ()))
def O_ahead_133 (N : Nat) (rok : Int32 → Int32 → Prop) (x1 : Int32) (x2 : Int32) (x3 : Int32) (S : rS) : Prop := ((x3 ≤ (S.1 1) → rok x1 (x2 + (-1))) ∧ (¬ x3 ≤ (S.1 1) → True))
set_option maxHeartbeats 4000000 in
theorem b_ahead_133 {G : zG} {E : rE} {S : rS} {N : Nat} {Q : Option Value → rS → Prop} {X : Nat × Int32 × Unit → Prop} (hG : zOK G) (hX0 : ∀ (x2 : Int32) , X (0, x2, ()) → rX G E dX12_ahead mX12_ahead 141 [none, none, some (.int x2), none, none, none] [] S Q) (hX1 : ∀ (x2 : Int32) , X (1, x2, ()) → rX G E dX12_ahead mX12_ahead 149 [none, none, none, none, none, none] [] S Q) {rec : Int32 → Int32 → Nat × Int32 × Unit} {rok : Int32 → Int32 → Prop} (hrec : ∀ (x1 : Int32) (x2 : Int32), rok x1 x2 → X (rec x1 x2) → rX G E dX12_ahead mX12_ahead 3 [some (.ref E.1), some (.int x1), some (.int x2), none, none, none] [] S Q) {x1 : Int32} {x2 : Int32} {x3 : Int32} (ok : O_ahead_133 N rok x1 x2 x3 S) (hx : X (F_ahead_133 N rec x1 x2 x3 S)) : rX G E dX12_ahead mX12_ahead 133 [some (.ref E.1), some (.int x1), some (.int x2), some (.int x3), none, none] [] S Q := by
  unfold O_ahead_133 at ok
  unfold F_ahead_133 at hx
  refine r_iload_n dX12_ahead_133 rfl rfl ?_
  refine r_aload_n dX12_ahead_134 rfl rfl ?_
  refine r_getI 1 fX12_442 (by decide) (by decide) dX12_ahead_135 ?_
  refine r_icmp_le (tgt := 143) dX12_ahead_138 (by decide) (fun c_138 => ?_) (fun c_138 => ?_)
  · have ok := ok.1 c_138
    have hx := xif_p c_138 hx
    refine r_iinc_2 (v := (x2 + (-1))) dX12_ahead_143 rfl (by first | rfl | (congr 1)) (by decide) rfl ?_
    refine r_goto (tgt := 3) dX12_ahead_146 (by decide) ?_
    exact rX.cutz (hrec _ _ ok hx) ⟨rfl, rfl, rfl, trivial⟩
  · have ok := ok.2 c_138
    have hx := xif_n c_138 hx
    exact rX.cutz (hX0 _  hx) ⟨rfl, trivial⟩
def F_ahead_126 (N : Nat) (rec : Int32 → Int32 → Int32 → Int32 → Nat × Int32 × Int32 × Int32 × Unit) (x1 : Int32) (x2 : Int32) (x4 : Int32) (s0 : Int32) (S : rS) : Nat × Int32 × Int32 × Int32 × Unit := (rec x1 x2 s0 (x4 + nI 1))
def O_ahead_126 (N : Nat) (rok : Int32 → Int32 → Int32 → Int32 → Prop) (x1 : Int32) (x2 : Int32) (x4 : Int32) (s0 : Int32) (S : rS) : Prop := rok x1 x2 s0 (x4 + nI 1)
set_option maxHeartbeats 4000000 in
theorem b_ahead_126 {G : zG} {E : rE} {S : rS} {N : Nat} {Q : Option Value → rS → Prop} {X : Nat × Int32 × Int32 × Int32 × Unit → Prop} (hG : zOK G) (hX0 : ∀ (x1 : Int32) (x2 : Int32) (x3 : Int32) , X (0, x1, x2, x3, ()) → rX G E dX12_ahead mX12_ahead 133 [some (.ref E.1), some (.int x1), some (.int x2), some (.int x3), none, none] [] S Q) {rec : Int32 → Int32 → Int32 → Int32 → Nat × Int32 × Int32 × Int32 × Unit} {rok : Int32 → Int32 → Int32 → Int32 → Prop} (hrec : ∀ (x1 : Int32) (x2 : Int32) (x3 : Int32) (x4 : Int32), rok x1 x2 x3 x4 → X (rec x1 x2 x3 x4) → rX G E dX12_ahead mX12_ahead 18 [some (.ref E.1), some (.int x1), some (.int x2), some (.int x3), some (.int x4), none] [] S Q) {x1 : Int32} {x2 : Int32} {x4 : Int32} {s0 : Int32} (ok : O_ahead_126 N rok x1 x2 x4 s0 S) (hx : X (F_ahead_126 N rec x1 x2 x4 s0 S)) : rX G E dX12_ahead mX12_ahead 126 [some (.ref E.1), some (.int x1), some (.int x2), none, some (.int x4), none] [.int s0] S Q := by
  unfold O_ahead_126 at ok
  unfold F_ahead_126 at hx
  refine r_istore_3 dX12_ahead_126 (by decide) rfl ?_
  refine r_iinc_4 (v := (x4 + nI 1)) dX12_ahead_127 rfl (by first | rfl | (congr 1)) (by decide) rfl ?_
  refine r_goto (tgt := 18) dX12_ahead_130 (by decide) ?_
  exact rX.cutz (hrec _ _ _ _ ok hx) ⟨rfl, rfl, rfl, rfl, rfl, trivial⟩
def F_ahead_112 (N : Nat) (rec : Int32 → Int32 → Int32 → Int32 → Nat × Int32 × Int32 × Int32 × Unit) (x1 : Int32) (x2 : Int32) (x3 : Int32) (x4 : Int32) (s0 : Int32) (S : rS) : Nat × Int32 × Int32 × Int32 × Unit := (if s0 = 0 then (F_ahead_126 N rec x1 x2 x4 x3 S) else (F_ahead_126 N rec x1 x2 x4 (x3 + (nI 1)) S))
def O_ahead_112 (N : Nat) (rok : Int32 → Int32 → Int32 → Int32 → Prop) (x1 : Int32) (x2 : Int32) (x3 : Int32) (x4 : Int32) (s0 : Int32) (S : rS) : Prop := ((s0 = 0 → O_ahead_126 N rok x1 x2 x4 x3 S) ∧ (¬ s0 = 0 → O_ahead_126 N rok x1 x2 x4 (x3 + (nI 1)) S))
set_option maxHeartbeats 4000000 in
theorem b_ahead_112 {G : zG} {E : rE} {S : rS} {N : Nat} {Q : Option Value → rS → Prop} {X : Nat × Int32 × Int32 × Int32 × Unit → Prop} (hG : zOK G) (hX0 : ∀ (x1 : Int32) (x2 : Int32) (x3 : Int32) , X (0, x1, x2, x3, ()) → rX G E dX12_ahead mX12_ahead 133 [some (.ref E.1), some (.int x1), some (.int x2), some (.int x3), none, none] [] S Q) {rec : Int32 → Int32 → Int32 → Int32 → Nat × Int32 × Int32 × Int32 × Unit} {rok : Int32 → Int32 → Int32 → Int32 → Prop} (hrec : ∀ (x1 : Int32) (x2 : Int32) (x3 : Int32) (x4 : Int32), rok x1 x2 x3 x4 → X (rec x1 x2 x3 x4) → rX G E dX12_ahead mX12_ahead 18 [some (.ref E.1), some (.int x1), some (.int x2), some (.int x3), some (.int x4), none] [] S Q) {x1 : Int32} {x2 : Int32} {x3 : Int32} {x4 : Int32} {s0 : Int32} (ok : O_ahead_112 N rok x1 x2 x3 x4 s0 S) (hx : X (F_ahead_112 N rec x1 x2 x3 x4 s0 S)) : rX G E dX12_ahead mX12_ahead 112 [some (.ref E.1), some (.int x1), some (.int x2), some (.int x3), some (.int x4), none] [.int s0] S Q := by
  unfold O_ahead_112 at ok
  unfold F_ahead_112 at hx
  refine r_istore_5 dX12_ahead_112 (by decide) rfl ?_
  refine r_iload dX12_ahead_114 rfl ?_
  refine r_if_eq (tgt := 125) dX12_ahead_116 (by decide) (fun c_116 => ?_) (fun c_116 => ?_)
  · have ok := ok.1 c_116
    have hx := xif_p c_116 hx
    refine r_iload_n dX12_ahead_125 rfl rfl ?_
    exact rX.cutz (b_ahead_126 hG hX0 hrec ok hx) ⟨rfl, rfl, rfl, rfl, trivial⟩
  · have ok := ok.2 c_116
    have hx := xif_n c_116 hx
    refine r_iload_n dX12_ahead_119 rfl rfl ?_
    refine r_iconst (v := nI 1) dX12_ahead_120 (by decide) ?_
    refine r_iadd dX12_ahead_121 ?_
    refine r_goto (tgt := 126) dX12_ahead_122 (by decide) ?_
    exact rX.cutz (b_ahead_126 hG hX0 hrec ok hx) ⟨rfl, rfl, rfl, rfl, trivial⟩
def F_ahead_111 (N : Nat) (rec : Int32 → Int32 → Int32 → Int32 → Nat × Int32 × Int32 × Int32 × Unit) (x1 : Int32) (x2 : Int32) (x3 : Int32) (x4 : Int32) (S : rS) : Nat × Int32 × Int32 × Int32 × Unit := (F_ahead_112 N rec x1 x2 x3 x4 (nI 0) S)
def O_ahead_111 (N : Nat) (rok : Int32 → Int32 → Int32 → Int32 → Prop) (x1 : Int32) (x2 : Int32) (x3 : Int32) (x4 : Int32) (S : rS) : Prop := O_ahead_112 N rok x1 x2 x3 x4 (nI 0) S
set_option maxHeartbeats 4000000 in
theorem b_ahead_111 {G : zG} {E : rE} {S : rS} {N : Nat} {Q : Option Value → rS → Prop} {X : Nat × Int32 × Int32 × Int32 × Unit → Prop} (hG : zOK G) (hX0 : ∀ (x1 : Int32) (x2 : Int32) (x3 : Int32) , X (0, x1, x2, x3, ()) → rX G E dX12_ahead mX12_ahead 133 [some (.ref E.1), some (.int x1), some (.int x2), some (.int x3), none, none] [] S Q) {rec : Int32 → Int32 → Int32 → Int32 → Nat × Int32 × Int32 × Int32 × Unit} {rok : Int32 → Int32 → Int32 → Int32 → Prop} (hrec : ∀ (x1 : Int32) (x2 : Int32) (x3 : Int32) (x4 : Int32), rok x1 x2 x3 x4 → X (rec x1 x2 x3 x4) → rX G E dX12_ahead mX12_ahead 18 [some (.ref E.1), some (.int x1), some (.int x2), some (.int x3), some (.int x4), none] [] S Q) {x1 : Int32} {x2 : Int32} {x3 : Int32} {x4 : Int32} (ok : O_ahead_111 N rok x1 x2 x3 x4 S) (hx : X (F_ahead_111 N rec x1 x2 x3 x4 S)) : rX G E dX12_ahead mX12_ahead 111 [some (.ref E.1), some (.int x1), some (.int x2), some (.int x3), some (.int x4), none] [] S Q := by
  unfold O_ahead_111 at ok
  unfold F_ahead_111 at hx
  refine r_iconst (v := nI 0) dX12_ahead_111 (by decide) ?_
  exact rX.cutz (b_ahead_112 hG hX0 hrec ok hx) ⟨rfl, rfl, rfl, rfl, rfl, trivial⟩
def F_ahead_107 (N : Nat) (rec : Int32 → Int32 → Int32 → Int32 → Nat × Int32 × Int32 × Int32 × Unit) (x1 : Int32) (x2 : Int32) (x3 : Int32) (x4 : Int32) (S : rS) : Nat × Int32 × Int32 × Int32 × Unit := (F_ahead_112 N rec x1 x2 x3 x4 (nI 1) S)
def O_ahead_107 (N : Nat) (rok : Int32 → Int32 → Int32 → Int32 → Prop) (x1 : Int32) (x2 : Int32) (x3 : Int32) (x4 : Int32) (S : rS) : Prop := O_ahead_112 N rok x1 x2 x3 x4 (nI 1) S
set_option maxHeartbeats 4000000 in
theorem b_ahead_107 {G : zG} {E : rE} {S : rS} {N : Nat} {Q : Option Value → rS → Prop} {X : Nat × Int32 × Int32 × Int32 × Unit → Prop} (hG : zOK G) (hX0 : ∀ (x1 : Int32) (x2 : Int32) (x3 : Int32) , X (0, x1, x2, x3, ()) → rX G E dX12_ahead mX12_ahead 133 [some (.ref E.1), some (.int x1), some (.int x2), some (.int x3), none, none] [] S Q) {rec : Int32 → Int32 → Int32 → Int32 → Nat × Int32 × Int32 × Int32 × Unit} {rok : Int32 → Int32 → Int32 → Int32 → Prop} (hrec : ∀ (x1 : Int32) (x2 : Int32) (x3 : Int32) (x4 : Int32), rok x1 x2 x3 x4 → X (rec x1 x2 x3 x4) → rX G E dX12_ahead mX12_ahead 18 [some (.ref E.1), some (.int x1), some (.int x2), some (.int x3), some (.int x4), none] [] S Q) {x1 : Int32} {x2 : Int32} {x3 : Int32} {x4 : Int32} (ok : O_ahead_107 N rok x1 x2 x3 x4 S) (hx : X (F_ahead_107 N rec x1 x2 x3 x4 S)) : rX G E dX12_ahead mX12_ahead 107 [some (.ref E.1), some (.int x1), some (.int x2), some (.int x3), some (.int x4), none] [] S Q := by
  unfold O_ahead_107 at ok
  unfold F_ahead_107 at hx
  refine r_iconst (v := nI 1) dX12_ahead_107 (by decide) ?_
  refine r_goto (tgt := 112) dX12_ahead_108 (by decide) ?_
  exact rX.cutz (b_ahead_112 hG hX0 hrec ok hx) ⟨rfl, rfl, rfl, rfl, rfl, trivial⟩
def B_ahead_18 (N : Nat) (rec : Int32 → Int32 → Int32 → Int32 → Nat × Int32 × Int32 × Int32 × Unit) (x1 : Int32) (x2 : Int32) (x3 : Int32) (x4 : Int32) (S : rS) : Nat × Int32 × Int32 × Int32 × Unit := (if (S.1 0) ≤ x4 then (0, x1, x2, x3, ()) else (if (S.2.1 60 (f_voteAt N S (nI 0) x1 (S.2.1 44 x1.toNatClampNeg) x2 x4).toNatClampNeg) = 0 then (if (S.2.1 60 (f_voteAt N S (nI 1) x1 (S.2.1 44 x1.toNatClampNeg) x2 x4).toNatClampNeg) = 0 then (if (f_isThere N S ((nI 0) + (f_heldAt N S x1 (S.2.1 44 x1.toNatClampNeg) x2))) = 0 then (F_ahead_111 N rec x1 x2 x3 x4 S) else (if (f_proposer N S (S.2.1 44 x1.toNatClampNeg) x2) = x4 then (F_ahead_107 N rec x1 x2 x3 x4 S) else (F_ahead_111 N rec x1 x2 x3 x4 S))) else (F_ahead_107 N rec x1 x2 x3 x4 S)) else (F_ahead_107 N rec x1 x2 x3 x4 S)))
def OB_ahead_18 (N : Nat) (rok : Int32 → Int32 → Int32 → Int32 → Prop) (x1 : Int32) (x2 : Int32) (x3 : Int32) (x4 : Int32) (S : rS) : Prop := (((S.1 0) ≤ x4 → True) ∧ (¬ (S.1 0) ≤ x4 → (vp_in x1 13) ∧ (o_voteAt N S (nI 0) x1 (S.2.1 44 x1.toNatClampNeg) x2 x4) ∧ (vp_in (f_voteAt N S (nI 0) x1 (S.2.1 44 x1.toNatClampNeg) x2 x4) 10816) ∧ (((S.2.1 60 (f_voteAt N S (nI 0) x1 (S.2.1 44 x1.toNatClampNeg) x2 x4).toNatClampNeg) = 0 → (vp_in x1 13) ∧ (o_voteAt N S (nI 1) x1 (S.2.1 44 x1.toNatClampNeg) x2 x4) ∧ (vp_in (f_voteAt N S (nI 1) x1 (S.2.1 44 x1.toNatClampNeg) x2 x4) 10816) ∧ (((S.2.1 60 (f_voteAt N S (nI 1) x1 (S.2.1 44 x1.toNatClampNeg) x2 x4).toNatClampNeg) = 0 → (vp_in x1 13) ∧ (o_heldAt N S x1 (S.2.1 44 x1.toNatClampNeg) x2) ∧ (o_isThere N S ((nI 0) + (f_heldAt N S x1 (S.2.1 44 x1.toNatClampNeg) x2))) ∧ (((f_isThere N S ((nI 0) + (f_heldAt N S x1 (S.2.1 44 x1.toNatClampNeg) x2))) = 0 → O_ahead_111 N rok x1 x2 x3 x4 S) ∧ (¬ (f_isThere N S ((nI 0) + (f_heldAt N S x1 (S.2.1 44 x1.toNatClampNeg) x2))) = 0 → (vp_in x1 13) ∧ (o_proposer N S (S.2.1 44 x1.toNatClampNeg) x2) ∧ (((f_proposer N S (S.2.1 44 x1.toNatClampNeg) x2) = x4 → O_ahead_107 N rok x1 x2 x3 x4 S) ∧ (¬ (f_proposer N S (S.2.1 44 x1.toNatClampNeg) x2) = x4 → O_ahead_111 N rok x1 x2 x3 x4 S))))) ∧ (¬ (S.2.1 60 (f_voteAt N S (nI 1) x1 (S.2.1 44 x1.toNatClampNeg) x2 x4).toNatClampNeg) = 0 → O_ahead_107 N rok x1 x2 x3 x4 S))) ∧ (¬ (S.2.1 60 (f_voteAt N S (nI 0) x1 (S.2.1 44 x1.toNatClampNeg) x2 x4).toNatClampNeg) = 0 → O_ahead_107 N rok x1 x2 x3 x4 S))))
set_option maxHeartbeats 4000000 in
theorem bb_ahead_18 {G : zG} {E : rE} {S : rS} {N : Nat} {Q : Option Value → rS → Prop} {X : Nat × Int32 × Int32 × Int32 × Unit → Prop} (hG : zOK G) (hX0 : ∀ (x1 : Int32) (x2 : Int32) (x3 : Int32) , X (0, x1, x2, x3, ()) → rX G E dX12_ahead mX12_ahead 133 [some (.ref E.1), some (.int x1), some (.int x2), some (.int x3), none, none] [] S Q) {rec : Int32 → Int32 → Int32 → Int32 → Nat × Int32 × Int32 × Int32 × Unit} {rok : Int32 → Int32 → Int32 → Int32 → Prop} (hrec : ∀ (x1 : Int32) (x2 : Int32) (x3 : Int32) (x4 : Int32), rok x1 x2 x3 x4 → X (rec x1 x2 x3 x4) → rX G E dX12_ahead mX12_ahead 18 [some (.ref E.1), some (.int x1), some (.int x2), some (.int x3), some (.int x4), none] [] S Q) {x1 : Int32} {x2 : Int32} {x3 : Int32} {x4 : Int32} (ok : OB_ahead_18 N rok x1 x2 x3 x4 S) (hx : X (B_ahead_18 N rec x1 x2 x3 x4 S)) : rX G E dX12_ahead mX12_ahead 18 [some (.ref E.1), some (.int x1), some (.int x2), some (.int x3), some (.int x4), none] [] S Q := by
  unfold OB_ahead_18 at ok
  unfold B_ahead_18 at hx
  refine r_iload dX12_ahead_18 rfl ?_
  refine r_aload_n dX12_ahead_20 rfl rfl ?_
  refine r_getI 0 fX12_219 (by decide) (by decide) dX12_ahead_21 ?_
  refine r_icmp_ge (tgt := 133) dX12_ahead_24 (by decide) (fun c_24 => ?_) (fun c_24 => ?_)
  · have ok := ok.1 c_24
    have hx := xif_p c_24 hx
    exact rX.cutz (hX0 _ _ _  hx) ⟨rfl, rfl, rfl, rfl, trivial⟩
  · have ok := ok.2 c_24
    have hx := xif_n c_24 hx
    refine r_aload_n dX12_ahead_27 rfl rfl ?_
    refine r_getA 60 fX12_357 (by decide) (by decide) dX12_ahead_28 ?_
    refine r_iconst (v := nI 0) dX12_ahead_31 (by decide) ?_
    refine r_iload_n dX12_ahead_32 rfl rfl ?_
    refine r_aload_n dX12_ahead_33 rfl rfl ?_
    refine r_getA 44 fX12_309 (by decide) (by decide) dX12_ahead_34 ?_
    refine r_iload_n dX12_ahead_37 rfl rfl ?_
    refine r_iald (by decide) (by decide) dX12_ahead_38 ok.1 ?_
    have ok := ok.2
    refine r_iload_n dX12_ahead_39 rfl rfl ?_
    refine r_iload dX12_ahead_40 rfl ?_
    refine r_S5i (y' := mX12_voteAt) dX12_ahead_42 lX12_470 kX12_voteAt ⟨by decide, by decide⟩ (Nat.le_of_ble_eq_true rfl) (rc_X12_voteAt hG ok.1) (fun v_42 S_42 h_42 => ?_)
    obtain ⟨rfl, hS_42⟩ := h_42
    have hS_42 := hS_42.symm
    subst hS_42
    have ok := ok.2
    refine r_iald (by decide) (by decide) dX12_ahead_45 ok.1 ?_
    have ok := ok.2
    refine r_if_ne (tgt := 107) dX12_ahead_46 (by decide) (fun c_46 => ?_) (fun c_46 => ?_)
    · have ok := ok.2 c_46
      have hx := xif_n c_46 hx
      exact rX.cutz (b_ahead_107 hG hX0 hrec ok hx) ⟨rfl, rfl, rfl, rfl, rfl, trivial⟩
    · have ok := ok.1 c_46
      have hx := xif_p c_46 hx
      refine r_aload_n dX12_ahead_49 rfl rfl ?_
      refine r_getA 60 fX12_357 (by decide) (by decide) dX12_ahead_50 ?_
      refine r_iconst (v := nI 1) dX12_ahead_53 (by decide) ?_
      refine r_iload_n dX12_ahead_54 rfl rfl ?_
      refine r_aload_n dX12_ahead_55 rfl rfl ?_
      refine r_getA 44 fX12_309 (by decide) (by decide) dX12_ahead_56 ?_
      refine r_iload_n dX12_ahead_59 rfl rfl ?_
      refine r_iald (by decide) (by decide) dX12_ahead_60 ok.1 ?_
      have ok := ok.2
      refine r_iload_n dX12_ahead_61 rfl rfl ?_
      refine r_iload dX12_ahead_62 rfl ?_
      refine r_S5i (y' := mX12_voteAt) dX12_ahead_64 lX12_470 kX12_voteAt ⟨by decide, by decide⟩ (Nat.le_of_ble_eq_true rfl) (rc_X12_voteAt hG ok.1) (fun v_64 S_64 h_64 => ?_)
      obtain ⟨rfl, hS_64⟩ := h_64
      have hS_64 := hS_64.symm
      subst hS_64
      have ok := ok.2
      refine r_iald (by decide) (by decide) dX12_ahead_67 ok.1 ?_
      have ok := ok.2
      refine r_if_ne (tgt := 107) dX12_ahead_68 (by decide) (fun c_68 => ?_) (fun c_68 => ?_)
      · have ok := ok.2 c_68
        have hx := xif_n c_68 hx
        exact rX.cutz (b_ahead_107 hG hX0 hrec ok hx) ⟨rfl, rfl, rfl, rfl, rfl, trivial⟩
      · have ok := ok.1 c_68
        have hx := xif_p c_68 hx
        refine r_aload_n dX12_ahead_71 rfl rfl ?_
        refine r_iconst (v := nI 0) dX12_ahead_72 (by decide) ?_
        refine r_iload_n dX12_ahead_73 rfl rfl ?_
        refine r_aload_n dX12_ahead_74 rfl rfl ?_
        refine r_getA 44 fX12_309 (by decide) (by decide) dX12_ahead_75 ?_
        refine r_iload_n dX12_ahead_78 rfl rfl ?_
        refine r_iald (by decide) (by decide) dX12_ahead_79 ok.1 ?_
        have ok := ok.2
        refine r_iload_n dX12_ahead_80 rfl rfl ?_
        refine r_S3i (y' := mX12_heldAt) dX12_ahead_81 lX12_466 kX12_heldAt ⟨by decide, by decide⟩ (Nat.le_of_ble_eq_true rfl) (rc_X12_heldAt hG ok.1) (fun v_81 S_81 h_81 => ?_)
        obtain ⟨rfl, hS_81⟩ := h_81
        have hS_81 := hS_81.symm
        subst hS_81
        have ok := ok.2
        refine r_iadd dX12_ahead_84 ?_
        refine r_V1i (y' := mX12_isThere) dX12_ahead_85 lX12_63 kX12_isThere ⟨by decide, by decide⟩ rfl (Nat.le_of_ble_eq_true rfl) (rc_X12_isThere hG ok.1) (fun v_85 S_85 h_85 => ?_)
        obtain ⟨rfl, hS_85⟩ := h_85
        have hS_85 := hS_85.symm
        subst hS_85
        have ok := ok.2
        refine r_if_eq (tgt := 111) dX12_ahead_88 (by decide) (fun c_88 => ?_) (fun c_88 => ?_)
        · have ok := ok.1 c_88
          have hx := xif_p c_88 hx
          exact rX.cutz (b_ahead_111 hG hX0 hrec ok hx) ⟨rfl, rfl, rfl, rfl, rfl, trivial⟩
        · have ok := ok.2 c_88
          have hx := xif_n c_88 hx
          refine r_aload_n dX12_ahead_91 rfl rfl ?_
          refine r_aload_n dX12_ahead_92 rfl rfl ?_
          refine r_getA 44 fX12_309 (by decide) (by decide) dX12_ahead_93 ?_
          refine r_iload_n dX12_ahead_96 rfl rfl ?_
          refine r_iald (by decide) (by decide) dX12_ahead_97 ok.1 ?_
          have ok := ok.2
          refine r_iload_n dX12_ahead_98 rfl rfl ?_
          refine r_V2i (y' := mX12_proposer) dX12_ahead_99 lX12_575 kX12_proposer ⟨by decide, by decide⟩ rfl (Nat.le_of_ble_eq_true rfl) (rc_X12_proposer hG ok.1) (fun v_99 S_99 h_99 => ?_)
          obtain ⟨rfl, hS_99⟩ := h_99
          have hS_99 := hS_99.symm
          subst hS_99
          have ok := ok.2
          refine r_iload dX12_ahead_102 rfl ?_
          refine r_icmp_ne (tgt := 111) dX12_ahead_104 (by decide) (fun c_104 => ?_) (fun c_104 => ?_)
          · have ok := ok.2 c_104
            have hx := xif_n c_104 hx
            exact rX.cutz (b_ahead_111 hG hX0 hrec ok hx) ⟨rfl, rfl, rfl, rfl, rfl, trivial⟩
          · have ok := ok.1 c_104
            have hx := xif_p c_104 hx
            exact rX.cutz (b_ahead_107 hG hX0 hrec ok hx) ⟨rfl, rfl, rfl, rfl, rfl, trivial⟩
def L_ahead_18 (N : Nat) : Nat → Int32 → Int32 → Int32 → Int32 → rS → Nat × Int32 × Int32 × Int32 × Unit
  | 0, x1, x2, x3, x4, S => (0, 0, 0, 0, ())
  | n + 1, x1, x2, x3, x4, S => B_ahead_18 N (fun x1 x2 x3 x4 => L_ahead_18 N n x1 x2 x3 x4 S) x1 x2 x3 x4 S
def OL_ahead_18 (N : Nat) : Nat → Int32 → Int32 → Int32 → Int32 → rS → Prop
  | 0, _, _, _, _, _ => False
  | n + 1, x1, x2, x3, x4, S => OB_ahead_18 N (fun x1 x2 x3 x4 => OL_ahead_18 N n x1 x2 x3 x4 S) x1 x2 x3 x4 S
set_option maxHeartbeats 4000000 in
theorem l_ahead_18 {G : zG} {E : rE} {S : rS} {N : Nat} {Q : Option Value → rS → Prop} {X : Nat × Int32 × Int32 × Int32 × Unit → Prop} (hG : zOK G) (hX0 : ∀ (x1 : Int32) (x2 : Int32) (x3 : Int32) , X (0, x1, x2, x3, ()) → rX G E dX12_ahead mX12_ahead 133 [some (.ref E.1), some (.int x1), some (.int x2), some (.int x3), none, none] [] S Q) : ∀ (n : Nat) (x1 : Int32) (x2 : Int32) (x3 : Int32) (x4 : Int32) , OL_ahead_18 N n x1 x2 x3 x4 S → X (L_ahead_18 N n x1 x2 x3 x4 S) → rX G E dX12_ahead mX12_ahead 18 [some (.ref E.1), some (.int x1), some (.int x2), some (.int x3), some (.int x4), none] [] S Q := by
  intro n
  induction n with
  | zero => intro x1 x2 x3 x4 ok; exact absurd ok id
  | succ n ih =>
    intro x1 x2 x3 x4 ok hx
    exact bb_ahead_18 hG hX0 (rec := fun x1 x2 x3 x4 => L_ahead_18 N n x1 x2 x3 x4 S) (rok := fun x1 x2 x3 x4 => OL_ahead_18 N n x1 x2 x3 x4 S) (fun x1 x2 x3 x4 ok hx => ih x1 x2 x3 x4 ok hx) ok hx
def A_ahead_18 (N : Nat) (rec : Int32 → Int32 → Nat × Int32 × Unit) (x1 : Int32) (x2 : Int32) (x3 : Int32) (x4 : Int32) (S : rS) (z : Nat × Int32 × Int32 × Int32 × Unit) : Nat × Int32 × Unit := (F_ahead_133 N rec (z.2.1) (z.2.2.1) (z.2.2.2.1) S)
def OA_ahead_18 (N : Nat) (rok : Int32 → Int32 → Prop) (x1 : Int32) (x2 : Int32) (x3 : Int32) (x4 : Int32) (S : rS) (z : Nat × Int32 × Int32 × Int32 × Unit) : Prop := O_ahead_133 N rok (z.2.1) (z.2.2.1) (z.2.2.2.1) S
set_option maxHeartbeats 4000000 in
theorem c_ahead_18 {G : zG} {E : rE} {S : rS} {N : Nat} {Q : Option Value → rS → Prop} {X : Nat × Int32 × Unit → Prop} (hG : zOK G) (hX0 : ∀ (x2 : Int32) , X (0, x2, ()) → rX G E dX12_ahead mX12_ahead 141 [none, none, some (.int x2), none, none, none] [] S Q) (hX1 : ∀ (x2 : Int32) , X (1, x2, ()) → rX G E dX12_ahead mX12_ahead 149 [none, none, none, none, none, none] [] S Q) {rec : Int32 → Int32 → Nat × Int32 × Unit} {rok : Int32 → Int32 → Prop} (hrec : ∀ (x1 : Int32) (x2 : Int32), rok x1 x2 → X (rec x1 x2) → rX G E dX12_ahead mX12_ahead 3 [some (.ref E.1), some (.int x1), some (.int x2), none, none, none] [] S Q) {x1 : Int32} {x2 : Int32} {x3 : Int32} {x4 : Int32} (ok : OL_ahead_18 N N x1 x2 x3 x4 S ∧ OA_ahead_18 N rok x1 x2 x3 x4 S (L_ahead_18 N N x1 x2 x3 x4 S)) (hx : X (A_ahead_18 N rec x1 x2 x3 x4 S (L_ahead_18 N N x1 x2 x3 x4 S))) : rX G E dX12_ahead mX12_ahead 18 [some (.ref E.1), some (.int x1), some (.int x2), some (.int x3), some (.int x4), none] [] S Q := by
  refine l_ahead_18 hG ?_ N x1 x2 x3 x4 ok.1 (X := fun z => OA_ahead_18 N rok x1 x2 x3 x4 S z ∧ X (A_ahead_18 N rec x1 x2 x3 x4 S z)) ⟨ok.2, hx⟩
  · intro x1' x2' x3' hz
    obtain ⟨ok, hx⟩ := hz
    unfold OA_ahead_18 at ok
    unfold A_ahead_18 at hx
    exact rX.cutz (b_ahead_133 hG hX0 hX1 hrec ok hx) ⟨rfl, rfl, rfl, rfl, trivial⟩
def B_ahead_3 (N : Nat) (rec : Int32 → Int32 → Nat × Int32 × Unit) (x1 : Int32) (x2 : Int32) (S : rS) : Nat × Int32 × Unit := (if x2 ≤ (S.2.1 45 x1.toNatClampNeg) then (1, 0, ()) else (A_ahead_18 N rec x1 x2 (nI 0) (nI 0) S (L_ahead_18 N N x1 x2 (nI 0) (nI 0) S)))
def OB_ahead_3 (N : Nat) (rok : Int32 → Int32 → Prop) (x1 : Int32) (x2 : Int32) (S : rS) : Prop := (vp_in x1 13) ∧ ((x2 ≤ (S.2.1 45 x1.toNatClampNeg) → True) ∧ (¬ x2 ≤ (S.2.1 45 x1.toNatClampNeg) → (OL_ahead_18 N N x1 x2 (nI 0) (nI 0) S ∧ OA_ahead_18 N rok x1 x2 (nI 0) (nI 0) S (L_ahead_18 N N x1 x2 (nI 0) (nI 0) S))))
set_option maxHeartbeats 4000000 in
theorem bb_ahead_3 {G : zG} {E : rE} {S : rS} {N : Nat} {Q : Option Value → rS → Prop} {X : Nat × Int32 × Unit → Prop} (hG : zOK G) (hX0 : ∀ (x2 : Int32) , X (0, x2, ()) → rX G E dX12_ahead mX12_ahead 141 [none, none, some (.int x2), none, none, none] [] S Q) (hX1 : ∀ (x2 : Int32) , X (1, x2, ()) → rX G E dX12_ahead mX12_ahead 149 [none, none, none, none, none, none] [] S Q) {rec : Int32 → Int32 → Nat × Int32 × Unit} {rok : Int32 → Int32 → Prop} (hrec : ∀ (x1 : Int32) (x2 : Int32), rok x1 x2 → X (rec x1 x2) → rX G E dX12_ahead mX12_ahead 3 [some (.ref E.1), some (.int x1), some (.int x2), none, none, none] [] S Q) {x1 : Int32} {x2 : Int32} (ok : OB_ahead_3 N rok x1 x2 S) (hx : X (B_ahead_3 N rec x1 x2 S)) : rX G E dX12_ahead mX12_ahead 3 [some (.ref E.1), some (.int x1), some (.int x2), none, none, none] [] S Q := by
  unfold OB_ahead_3 at ok
  unfold B_ahead_3 at hx
  refine r_iload_n dX12_ahead_3 rfl rfl ?_
  refine r_aload_n dX12_ahead_4 rfl rfl ?_
  refine r_getA 45 fX12_312 (by decide) (by decide) dX12_ahead_5 ?_
  refine r_iload_n dX12_ahead_8 rfl rfl ?_
  refine r_iald (by decide) (by decide) dX12_ahead_9 ok.1 ?_
  have ok := ok.2
  refine r_icmp_le (tgt := 149) dX12_ahead_10 (by decide) (fun c_10 => ?_) (fun c_10 => ?_)
  · have ok := ok.1 c_10
    have hx := xif_p c_10 hx
    exact rX.cutz (hX1 _  hx) trivial
  · have ok := ok.2 c_10
    have hx := xif_n c_10 hx
    refine r_iconst (v := nI 0) dX12_ahead_13 (by decide) ?_
    refine r_istore_3 dX12_ahead_14 (by decide) rfl ?_
    refine r_iconst (v := nI 0) dX12_ahead_15 (by decide) ?_
    refine r_istore_4 dX12_ahead_16 (by decide) rfl ?_
    exact rX.cutz (c_ahead_18 hG hX0 hX1 hrec ok hx) ⟨rfl, rfl, rfl, rfl, rfl, trivial⟩
def L_ahead_3 (N : Nat) : Nat → Int32 → Int32 → rS → Nat × Int32 × Unit
  | 0, x1, x2, S => (0, 0, ())
  | n + 1, x1, x2, S => B_ahead_3 N (fun x1 x2 => L_ahead_3 N n x1 x2 S) x1 x2 S
def OL_ahead_3 (N : Nat) : Nat → Int32 → Int32 → rS → Prop
  | 0, _, _, _ => False
  | n + 1, x1, x2, S => OB_ahead_3 N (fun x1 x2 => OL_ahead_3 N n x1 x2 S) x1 x2 S
set_option maxHeartbeats 4000000 in
theorem l_ahead_3 {G : zG} {E : rE} {S : rS} {N : Nat} {Q : Option Value → rS → Prop} {X : Nat × Int32 × Unit → Prop} (hG : zOK G) (hX0 : ∀ (x2 : Int32) , X (0, x2, ()) → rX G E dX12_ahead mX12_ahead 141 [none, none, some (.int x2), none, none, none] [] S Q) (hX1 : ∀ (x2 : Int32) , X (1, x2, ()) → rX G E dX12_ahead mX12_ahead 149 [none, none, none, none, none, none] [] S Q) : ∀ (n : Nat) (x1 : Int32) (x2 : Int32) , OL_ahead_3 N n x1 x2 S → X (L_ahead_3 N n x1 x2 S) → rX G E dX12_ahead mX12_ahead 3 [some (.ref E.1), some (.int x1), some (.int x2), none, none, none] [] S Q := by
  intro n
  induction n with
  | zero => intro x1 x2 ok; exact absurd ok id
  | succ n ih =>
    intro x1 x2 ok hx
    exact bb_ahead_3 hG hX0 hX1 (rec := fun x1 x2 => L_ahead_3 N n x1 x2 S) (rok := fun x1 x2 => OL_ahead_3 N n x1 x2 S) (fun x1 x2 ok hx => ih x1 x2 ok hx) ok hx
def A_ahead_3 (N : Nat) (x1 : Int32) (x2 : Int32) (S : rS) (z : Nat × Int32 × Unit) : Int32 := (if z.1 = 0 then (F_ahead_141 N (z.2.1) S) else (F_ahead_149 N S))
def OA_ahead_3 (N : Nat) (x1 : Int32) (x2 : Int32) (S : rS) (z : Nat × Int32 × Unit) : Prop := (if z.1 = 0 then O_ahead_141 N (z.2.1) S else O_ahead_149 N S)
set_option maxHeartbeats 4000000 in
theorem c_ahead_3 {G : zG} {E : rE} {S : rS} {N : Nat} {Q : Option Value → rS → Prop} {X : Int32 → Prop} (hG : zOK G) (hR : ∀ v, X v → Q (some (.int v)) S) {x1 : Int32} {x2 : Int32} (ok : OL_ahead_3 N N x1 x2 S ∧ OA_ahead_3 N x1 x2 S (L_ahead_3 N N x1 x2 S)) (hx : X (A_ahead_3 N x1 x2 S (L_ahead_3 N N x1 x2 S))) : rX G E dX12_ahead mX12_ahead 3 [some (.ref E.1), some (.int x1), some (.int x2), none, none, none] [] S Q := by
  refine l_ahead_3 hG ?_ ?_ N x1 x2 ok.1 (X := fun z => OA_ahead_3 N x1 x2 S z ∧ X (A_ahead_3 N x1 x2 S z)) ⟨ok.2, hx⟩
  · intro x2' hz
    obtain ⟨ok, hx⟩ := hz
    unfold OA_ahead_3 at ok
    unfold A_ahead_3 at hx
    have ok := xif_P (show (0 : Nat) = 0 from rfl) ok
    have hx := xif_p (show (0 : Nat) = 0 from rfl) hx
    exact rX.cutz (b_ahead_141 hG hR ok hx) ⟨rfl, trivial⟩
  · intro x2' hz
    obtain ⟨ok, hx⟩ := hz
    unfold OA_ahead_3 at ok
    unfold A_ahead_3 at hx
    have ok := xif_N (show ¬ (1 : Nat) = 0 by decide) ok
    have hx := xif_n (show ¬ (1 : Nat) = 0 by decide) hx
    exact rX.cutz (b_ahead_149 hG hR ok hx) trivial
def F_ahead_0 (N : Nat) (x1 : Int32) (S : rS) : Int32 := (A_ahead_3 N x1 (nI 15) S (L_ahead_3 N N x1 (nI 15) S))
def O_ahead_0 (N : Nat) (x1 : Int32) (S : rS) : Prop := (OL_ahead_3 N N x1 (nI 15) S ∧ OA_ahead_3 N x1 (nI 15) S (L_ahead_3 N N x1 (nI 15) S))
set_option maxHeartbeats 4000000 in
theorem b_ahead_0 {G : zG} {E : rE} {S : rS} {N : Nat} {Q : Option Value → rS → Prop} {X : Int32 → Prop} (hG : zOK G) (hR : ∀ v, X v → Q (some (.int v)) S) {x1 : Int32} (ok : O_ahead_0 N x1 S) (hx : X (F_ahead_0 N x1 S)) : rX G E dX12_ahead mX12_ahead 0 [some (.ref E.1), some (.int x1), none, none, none, none] [] S Q := by
  unfold O_ahead_0 at ok
  unfold F_ahead_0 at hx
  refine r_bipush (v := nI 15) dX12_ahead_0 (by decide) ?_
  refine r_istore_2 dX12_ahead_2 (by decide) rfl ?_
  exact rX.cutz (c_ahead_3 hG hR ok hx) ⟨rfl, rfl, rfl, trivial⟩
def f_ahead (N : Nat) (S : rS) (x1 : Int32) : Int32 := F_ahead_0 N x1 S
def o_ahead (N : Nat) (S : rS) (x1 : Int32) : Prop := O_ahead_0 N x1 S
set_option maxHeartbeats 4000000 in
theorem rc_X12_ahead {G : zG} {E : rE} {S : rS} {N : Nat} (hG : zOK G) {x1 : Int32} (ok : o_ahead N S x1) : rCi G E dX12_ahead mX12_ahead [.ref E.1, .int x1] S (fun v S' => v = f_ahead N S x1 ∧ S' = S) := by
  refine rC.ofX rfl (Nat.le_of_ble_eq_true rfl) ?_
  show rX G E dX12_ahead mX12_ahead 0 [some (.ref E.1), some (.int x1), none, none, none, none] [] S _
  exact rX.cutz (b_ahead_0 (X := fun F => F = f_ahead N S x1) hG (fun v h => ⟨v, rfl, h, rfl⟩) ok rfl) ⟨rfl, rfl, trivial⟩
/-! mayVote -/
def F_mayVote_45 (N : Nat) (s0 : Int32) (S : rS) : Int32 := s0
def O_mayVote_45 (N : Nat) (s0 : Int32) (S : rS) : Prop := narrow .boolean (.int s0) = .int s0
set_option maxHeartbeats 4000000 in
theorem b_mayVote_45 {G : zG} {E : rE} {S : rS} {N : Nat} {Q : Option Value → rS → Prop} {X : Int32 → Prop} (hG : zOK G) (hR : ∀ v, X v → Q (some (.int v)) S) {s0 : Int32} (ok : O_mayVote_45 N s0 S) (hx : X (F_mayVote_45 N s0 S)) : rX G E dX12_mayVote mX12_mayVote 45 [none, none, none, none] [.int s0] S Q := by
  unfold O_mayVote_45 at ok
  unfold F_mayVote_45 at hx
  exact r_ireturn rfl ok dX12_mayVote_45 (hR _ hx)
def F_mayVote_44 (N : Nat)  (S : rS) : Int32 := (F_mayVote_45 N (nI 0) S)
def O_mayVote_44 (N : Nat)  (S : rS) : Prop := O_mayVote_45 N (nI 0) S
set_option maxHeartbeats 4000000 in
theorem b_mayVote_44 {G : zG} {E : rE} {S : rS} {N : Nat} {Q : Option Value → rS → Prop} {X : Int32 → Prop} (hG : zOK G) (hR : ∀ v, X v → Q (some (.int v)) S) (ok : O_mayVote_44 N S) (hx : X (F_mayVote_44 N S)) : rX G E dX12_mayVote mX12_mayVote 44 [none, none, none, none] [] S Q := by
  unfold O_mayVote_44 at ok
  unfold F_mayVote_44 at hx
  refine r_iconst (v := nI 0) dX12_mayVote_44 (by decide) ?_
  exact rX.cutz (b_mayVote_45 hG hR ok hx) trivial
def F_mayVote_40 (N : Nat)  (S : rS) : Int32 := (F_mayVote_45 N (nI 1) S)
def O_mayVote_40 (N : Nat)  (S : rS) : Prop := O_mayVote_45 N (nI 1) S
set_option maxHeartbeats 4000000 in
theorem b_mayVote_40 {G : zG} {E : rE} {S : rS} {N : Nat} {Q : Option Value → rS → Prop} {X : Int32 → Prop} (hG : zOK G) (hR : ∀ v, X v → Q (some (.int v)) S) (ok : O_mayVote_40 N S) (hx : X (F_mayVote_40 N S)) : rX G E dX12_mayVote mX12_mayVote 40 [none, none, none, none] [] S Q := by
  unfold O_mayVote_40 at ok
  unfold F_mayVote_40 at hx
  refine r_iconst (v := nI 1) dX12_mayVote_40 (by decide) ?_
  refine r_goto (tgt := 45) dX12_mayVote_41 (by decide) ?_
  exact rX.cutz (b_mayVote_45 hG hR ok hx) trivial
def F_mayVote_0 (N : Nat) (x1 : Int32) (x2 : Int32) (S : rS) : Int32 := (if (S.2.1 59 (x2 - (nI 0)).toNatClampNeg) = (-1) then (F_mayVote_40 N S) else (if (S.2.1 45 x1.toNatClampNeg) ≤ (S.2.1 59 (x2 - (nI 0)).toNatClampNeg) then (F_mayVote_44 N S) else (if (f_count0 N S (nI 0) x1 (S.2.1 59 (x2 - (nI 0)).toNatClampNeg) (nI 2) x2) < (f_quorum N S) then (F_mayVote_44 N S) else (F_mayVote_40 N S))))
def O_mayVote_0 (N : Nat) (x1 : Int32) (x2 : Int32) (S : rS) : Prop := (vp_in (x2 - (nI 0)) 416) ∧ (((S.2.1 59 (x2 - (nI 0)).toNatClampNeg) = (-1) → O_mayVote_40 N S) ∧ (¬ (S.2.1 59 (x2 - (nI 0)).toNatClampNeg) = (-1) → (vp_in x1 13) ∧ (((S.2.1 45 x1.toNatClampNeg) ≤ (S.2.1 59 (x2 - (nI 0)).toNatClampNeg) → O_mayVote_44 N S) ∧ (¬ (S.2.1 45 x1.toNatClampNeg) ≤ (S.2.1 59 (x2 - (nI 0)).toNatClampNeg) → (o_count0 N S (nI 0) x1 (S.2.1 59 (x2 - (nI 0)).toNatClampNeg) (nI 2) x2) ∧ (o_quorum N S) ∧ (((f_count0 N S (nI 0) x1 (S.2.1 59 (x2 - (nI 0)).toNatClampNeg) (nI 2) x2) < (f_quorum N S) → O_mayVote_44 N S) ∧ (¬ (f_count0 N S (nI 0) x1 (S.2.1 59 (x2 - (nI 0)).toNatClampNeg) (nI 2) x2) < (f_quorum N S) → O_mayVote_40 N S))))))
set_option maxHeartbeats 4000000 in
theorem b_mayVote_0 {G : zG} {E : rE} {S : rS} {N : Nat} {Q : Option Value → rS → Prop} {X : Int32 → Prop} (hG : zOK G) (hR : ∀ v, X v → Q (some (.int v)) S) {x1 : Int32} {x2 : Int32} (ok : O_mayVote_0 N x1 x2 S) (hx : X (F_mayVote_0 N x1 x2 S)) : rX G E dX12_mayVote mX12_mayVote 0 [some (.ref E.1), some (.int x1), some (.int x2), none] [] S Q := by
  unfold O_mayVote_0 at ok
  unfold F_mayVote_0 at hx
  refine r_aload_n dX12_mayVote_0 rfl rfl ?_
  refine r_getA 59 fX12_354 (by decide) (by decide) dX12_mayVote_1 ?_
  refine r_iload_n dX12_mayVote_4 rfl rfl ?_
  refine r_iconst (v := nI 0) dX12_mayVote_5 (by decide) ?_
  refine r_isub dX12_mayVote_6 ?_
  refine r_iald (by decide) (by decide) dX12_mayVote_7 ok.1 ?_
  have ok := ok.2
  refine r_istore_3 dX12_mayVote_8 (by decide) rfl ?_
  refine r_iload_n dX12_mayVote_9 rfl rfl ?_
  refine r_iconst (v := -1) dX12_mayVote_10 (by decide) ?_
  refine r_icmp_eq (tgt := 40) dX12_mayVote_11 (by decide) (fun c_11 => ?_) (fun c_11 => ?_)
  · have ok := ok.1 c_11
    have hx := xif_p c_11 hx
    exact rX.cutz (b_mayVote_40 hG hR ok hx) trivial
  · have ok := ok.2 c_11
    have hx := xif_n c_11 hx
    refine r_iload_n dX12_mayVote_14 rfl rfl ?_
    refine r_aload_n dX12_mayVote_15 rfl rfl ?_
    refine r_getA 45 fX12_312 (by decide) (by decide) dX12_mayVote_16 ?_
    refine r_iload_n dX12_mayVote_19 rfl rfl ?_
    refine r_iald (by decide) (by decide) dX12_mayVote_20 ok.1 ?_
    have ok := ok.2
    refine r_icmp_ge (tgt := 44) dX12_mayVote_21 (by decide) (fun c_21 => ?_) (fun c_21 => ?_)
    · have ok := ok.1 c_21
      have hx := xif_p c_21 hx
      exact rX.cutz (b_mayVote_44 hG hR ok hx) trivial
    · have ok := ok.2 c_21
      have hx := xif_n c_21 hx
      refine r_aload_n dX12_mayVote_24 rfl rfl ?_
      refine r_iconst (v := nI 0) dX12_mayVote_25 (by decide) ?_
      refine r_iload_n dX12_mayVote_26 rfl rfl ?_
      refine r_iload_n dX12_mayVote_27 rfl rfl ?_
      refine r_iconst (v := nI 2) dX12_mayVote_28 (by decide) ?_
      refine r_iload_n dX12_mayVote_29 rfl rfl ?_
      refine r_V5i (y' := mX12_count0) dX12_mayVote_30 lX12_600 kX12_count0 ⟨by decide, by decide⟩ rfl (Nat.le_of_ble_eq_true rfl) (rc_X12_count0 hG ok.1) (fun v_30 S_30 h_30 => ?_)
      obtain ⟨rfl, hS_30⟩ := h_30
      have hS_30 := hS_30.symm
      subst hS_30
      have ok := ok.2
      refine r_aload_n dX12_mayVote_33 rfl rfl ?_
      refine r_V0i (y' := mX12_quorum) dX12_mayVote_34 lX12_603 kX12_quorum ⟨by decide, by decide⟩ rfl (Nat.le_of_ble_eq_true rfl) (rc_X12_quorum hG ok.1) (fun v_34 S_34 h_34 => ?_)
      obtain ⟨rfl, hS_34⟩ := h_34
      have hS_34 := hS_34.symm
      subst hS_34
      have ok := ok.2
      refine r_icmp_lt (tgt := 44) dX12_mayVote_37 (by decide) (fun c_37 => ?_) (fun c_37 => ?_)
      · have ok := ok.1 c_37
        have hx := xif_p c_37 hx
        exact rX.cutz (b_mayVote_44 hG hR ok hx) trivial
      · have ok := ok.2 c_37
        have hx := xif_n c_37 hx
        exact rX.cutz (b_mayVote_40 hG hR ok hx) trivial
def f_mayVote (N : Nat) (S : rS) (x1 : Int32) (x2 : Int32) : Int32 := F_mayVote_0 N x1 x2 S
def o_mayVote (N : Nat) (S : rS) (x1 : Int32) (x2 : Int32) : Prop := O_mayVote_0 N x1 x2 S
set_option maxHeartbeats 4000000 in
theorem rc_X12_mayVote {G : zG} {E : rE} {S : rS} {N : Nat} (hG : zOK G) {x1 : Int32} {x2 : Int32} (ok : o_mayVote N S x1 x2) : rCi G E dX12_mayVote mX12_mayVote [.ref E.1, .int x1, .int x2] S (fun v S' => v = f_mayVote N S x1 x2 ∧ S' = S) := by
  refine rC.ofX rfl (Nat.le_of_ble_eq_true rfl) ?_
  show rX G E dX12_mayVote mX12_mayVote 0 [some (.ref E.1), some (.int x1), some (.int x2), none] [] S _
  exact rX.cutz (b_mayVote_0 (X := fun F => F = f_mayVote N S x1 x2) hG (fun v h => ⟨v, rfl, h, rfl⟩) ok rfl) ⟨rfl, rfl, rfl, trivial⟩
/-! prevote -/
def F_prevote_102 (N : Nat) (s0 : Int32) (S : rS) : Int32 × rS := (s0, S)
def O_prevote_102 (N : Nat) (s0 : Int32) (S : rS) : Prop := narrow .boolean (.int s0) = .int s0
set_option maxHeartbeats 4000000 in
theorem b_prevote_102 {G : zG} {E : rE} {S : rS} {N : Nat} {Q : Option Value → rS → Prop} {X : Int32 × rS → Prop} (hG : zOK G) (hR : ∀ v S', X (v, S') → Q (some (.int v)) S') {s0 : Int32} (ok : O_prevote_102 N s0 S) (hx : X (F_prevote_102 N s0 S)) : rX G E dX12_prevote mX12_prevote 102 [none, none, none, none, none, none] [.int s0] S Q := by
  unfold O_prevote_102 at ok
  unfold F_prevote_102 at hx
  exact r_ireturn rfl ok dX12_prevote_102 (hR _ _ hx)
def F_prevote_98 (N : Nat) (s1 : Int32) (s2 : Int32) (s3 : Int32) (S : rS) : Int32 × rS := (F_prevote_102 N ((f_vote N S s1 s2 s3 (nI 1)).1) (f_vote N S s1 s2 s3 (nI 1)).2)
def O_prevote_98 (N : Nat) (s1 : Int32) (s2 : Int32) (s3 : Int32) (S : rS) : Prop := (o_vote N S s1 s2 s3 (nI 1)) ∧ O_prevote_102 N ((f_vote N S s1 s2 s3 (nI 1)).1) (f_vote N S s1 s2 s3 (nI 1)).2
set_option maxHeartbeats 4000000 in
theorem b_prevote_98 {G : zG} {E : rE} {S : rS} {N : Nat} {Q : Option Value → rS → Prop} {X : Int32 × rS → Prop} (hG : zOK G) (hR : ∀ v S', X (v, S') → Q (some (.int v)) S') {s1 : Int32} {s2 : Int32} {s3 : Int32} (ok : O_prevote_98 N s1 s2 s3 S) (hx : X (F_prevote_98 N s1 s2 s3 S)) : rX G E dX12_prevote mX12_prevote 98 [none, none, none, none, none, none] [.int s3, .int s2, .int s1, .ref E.1] S Q := by
  unfold O_prevote_98 at ok
  unfold F_prevote_98 at hx
  refine r_iconst (v := nI 1) dX12_prevote_98 (by decide) ?_
  refine r_V4i (y' := mX12_vote) dX12_prevote_99 lX12_639 kX12_vote ⟨by decide, by decide⟩ rfl (Nat.le_of_ble_eq_true rfl) (rc_X12_vote hG ok.1) (fun v_99 S_99 h_99 => ?_)
  obtain ⟨rfl, hS_99⟩ := h_99
  have hS_99 := hS_99.symm
  subst hS_99
  have ok := ok.2
  exact rX.cutz (b_prevote_102 hG hR ok hx) trivial
def F_prevote_83 (N : Nat) (x1 : Int32) (x2 : Int32) (s0 : Int32) (S : rS) : Int32 × rS := (if s0 = 0 then (F_prevote_98 N x1 (nI 2) (-1) S) else (F_prevote_98 N x1 (nI 2) x2 S))
def O_prevote_83 (N : Nat) (x1 : Int32) (x2 : Int32) (s0 : Int32) (S : rS) : Prop := ((s0 = 0 → O_prevote_98 N x1 (nI 2) (-1) S) ∧ (¬ s0 = 0 → O_prevote_98 N x1 (nI 2) x2 S))
set_option maxHeartbeats 4000000 in
theorem b_prevote_83 {G : zG} {E : rE} {S : rS} {N : Nat} {Q : Option Value → rS → Prop} {X : Int32 × rS → Prop} (hG : zOK G) (hR : ∀ v S', X (v, S') → Q (some (.int v)) S') {x1 : Int32} {x2 : Int32} {s0 : Int32} (ok : O_prevote_83 N x1 x2 s0 S) (hx : X (F_prevote_83 N x1 x2 s0 S)) : rX G E dX12_prevote mX12_prevote 83 [some (.ref E.1), some (.int x1), some (.int x2), none, none, none] [.int s0] S Q := by
  unfold O_prevote_83 at ok
  unfold F_prevote_83 at hx
  refine r_istore_5 dX12_prevote_83 (by decide) rfl ?_
  refine r_aload_n dX12_prevote_85 rfl rfl ?_
  refine r_iload_n dX12_prevote_86 rfl rfl ?_
  refine r_iconst (v := nI 2) dX12_prevote_87 (by decide) ?_
  refine r_iload dX12_prevote_88 rfl ?_
  refine r_if_eq (tgt := 97) dX12_prevote_90 (by decide) (fun c_90 => ?_) (fun c_90 => ?_)
  · have ok := ok.1 c_90
    have hx := xif_p c_90 hx
    refine r_iconst (v := -1) dX12_prevote_97 (by decide) ?_
    exact rX.cutz (b_prevote_98 hG hR ok hx) trivial
  · have ok := ok.2 c_90
    have hx := xif_n c_90 hx
    refine r_iload_n dX12_prevote_93 rfl rfl ?_
    refine r_goto (tgt := 98) dX12_prevote_94 (by decide) ?_
    exact rX.cutz (b_prevote_98 hG hR ok hx) trivial
def F_prevote_82 (N : Nat) (x1 : Int32) (x2 : Int32) (S : rS) : Int32 × rS := (F_prevote_83 N x1 x2 (nI 0) S)
def O_prevote_82 (N : Nat) (x1 : Int32) (x2 : Int32) (S : rS) : Prop := O_prevote_83 N x1 x2 (nI 0) S
set_option maxHeartbeats 4000000 in
theorem b_prevote_82 {G : zG} {E : rE} {S : rS} {N : Nat} {Q : Option Value → rS → Prop} {X : Int32 × rS → Prop} (hG : zOK G) (hR : ∀ v S', X (v, S') → Q (some (.int v)) S') {x1 : Int32} {x2 : Int32} (ok : O_prevote_82 N x1 x2 S) (hx : X (F_prevote_82 N x1 x2 S)) : rX G E dX12_prevote mX12_prevote 82 [some (.ref E.1), some (.int x1), some (.int x2), none, none, none] [] S Q := by
  unfold O_prevote_82 at ok
  unfold F_prevote_82 at hx
  refine r_iconst (v := nI 0) dX12_prevote_82 (by decide) ?_
  exact rX.cutz (b_prevote_83 hG hR ok hx) ⟨rfl, rfl, rfl, trivial⟩
def F_prevote_75 (N : Nat) (x1 : Int32) (x2 : Int32) (s0 : Int32) (S : rS) : Int32 × rS := (if s0 = 0 then (F_prevote_82 N x1 x2 S) else (F_prevote_83 N x1 x2 (nI 1) S))
def O_prevote_75 (N : Nat) (x1 : Int32) (x2 : Int32) (s0 : Int32) (S : rS) : Prop := ((s0 = 0 → O_prevote_82 N x1 x2 S) ∧ (¬ s0 = 0 → O_prevote_83 N x1 x2 (nI 1) S))
set_option maxHeartbeats 4000000 in
theorem b_prevote_75 {G : zG} {E : rE} {S : rS} {N : Nat} {Q : Option Value → rS → Prop} {X : Int32 × rS → Prop} (hG : zOK G) (hR : ∀ v S', X (v, S') → Q (some (.int v)) S') {x1 : Int32} {x2 : Int32} {s0 : Int32} (ok : O_prevote_75 N x1 x2 s0 S) (hx : X (F_prevote_75 N x1 x2 s0 S)) : rX G E dX12_prevote mX12_prevote 75 [some (.ref E.1), some (.int x1), some (.int x2), none, none, none] [.int s0] S Q := by
  unfold O_prevote_75 at ok
  unfold F_prevote_75 at hx
  refine r_if_eq (tgt := 82) dX12_prevote_75 (by decide) (fun c_75 => ?_) (fun c_75 => ?_)
  · have ok := ok.1 c_75
    have hx := xif_p c_75 hx
    exact rX.cutz (b_prevote_82 hG hR ok hx) ⟨rfl, rfl, rfl, trivial⟩
  · have ok := ok.2 c_75
    have hx := xif_n c_75 hx
    refine r_iconst (v := nI 1) dX12_prevote_78 (by decide) ?_
    refine r_goto (tgt := 83) dX12_prevote_79 (by decide) ?_
    exact rX.cutz (b_prevote_83 hG hR ok hx) ⟨rfl, rfl, rfl, trivial⟩
def F_prevote_69 (N : Nat) (x1 : Int32) (x2 : Int32) (S : rS) : Int32 × rS := (F_prevote_75 N x1 x2 ((f_isValid N S x1 x2).1) (f_isValid N S x1 x2).2)
def O_prevote_69 (N : Nat) (x1 : Int32) (x2 : Int32) (S : rS) : Prop := (o_isValid N S x1 x2) ∧ O_prevote_75 N x1 x2 ((f_isValid N S x1 x2).1) (f_isValid N S x1 x2).2
set_option maxHeartbeats 4000000 in
theorem b_prevote_69 {G : zG} {E : rE} {S : rS} {N : Nat} {Q : Option Value → rS → Prop} {X : Int32 × rS → Prop} (hG : zOK G) (hR : ∀ v S', X (v, S') → Q (some (.int v)) S') {x1 : Int32} {x2 : Int32} (ok : O_prevote_69 N x1 x2 S) (hx : X (F_prevote_69 N x1 x2 S)) : rX G E dX12_prevote mX12_prevote 69 [some (.ref E.1), some (.int x1), some (.int x2), none, none, none] [] S Q := by
  unfold O_prevote_69 at ok
  unfold F_prevote_69 at hx
  refine r_aload_n dX12_prevote_69 rfl rfl ?_
  refine r_iload_n dX12_prevote_70 rfl rfl ?_
  refine r_iload_n dX12_prevote_71 rfl rfl ?_
  refine r_V2i (y' := mX12_isValid) dX12_prevote_72 lX12_597 kX12_isValid ⟨by decide, by decide⟩ rfl (Nat.le_of_ble_eq_true rfl) (rc_X12_isValid hG ok.1) (fun v_72 S_72 h_72 => ?_)
  obtain ⟨rfl, hS_72⟩ := h_72
  have hS_72 := hS_72.symm
  subst hS_72
  have ok := ok.2
  exact rX.cutz (b_prevote_75 hG hR ok hx) ⟨rfl, rfl, rfl, trivial⟩
def F_prevote_49 (N : Nat) (x1 : Int32) (x2 : Int32) (s0 : Int32) (S : rS) : Int32 × rS := (if s0 = 0 then (if (f_sameBlock N S x2 ((nI 1118) + x1)) = 0 then (F_prevote_82 N x1 x2 S) else (F_prevote_69 N x1 x2 S)) else (F_prevote_69 N x1 x2 S))
def O_prevote_49 (N : Nat) (x1 : Int32) (x2 : Int32) (s0 : Int32) (S : rS) : Prop := ((s0 = 0 → (o_sameBlock N S x2 ((nI 1118) + x1)) ∧ (((f_sameBlock N S x2 ((nI 1118) + x1)) = 0 → O_prevote_82 N x1 x2 S) ∧ (¬ (f_sameBlock N S x2 ((nI 1118) + x1)) = 0 → O_prevote_69 N x1 x2 S))) ∧ (¬ s0 = 0 → O_prevote_69 N x1 x2 S))
set_option maxHeartbeats 4000000 in
theorem b_prevote_49 {G : zG} {E : rE} {S : rS} {N : Nat} {Q : Option Value → rS → Prop} {X : Int32 × rS → Prop} (hG : zOK G) (hR : ∀ v S', X (v, S') → Q (some (.int v)) S') {x1 : Int32} {x2 : Int32} {s0 : Int32} (ok : O_prevote_49 N x1 x2 s0 S) (hx : X (F_prevote_49 N x1 x2 s0 S)) : rX G E dX12_prevote mX12_prevote 49 [some (.ref E.1), some (.int x1), some (.int x2), none, none, none] [.int s0] S Q := by
  unfold O_prevote_49 at ok
  unfold F_prevote_49 at hx
  refine r_istore_4 dX12_prevote_49 (by decide) rfl ?_
  refine r_iload dX12_prevote_51 rfl ?_
  refine r_if_ne (tgt := 69) dX12_prevote_53 (by decide) (fun c_53 => ?_) (fun c_53 => ?_)
  · have ok := ok.2 c_53
    have hx := xif_n c_53 hx
    exact rX.cutz (b_prevote_69 hG hR ok hx) ⟨rfl, rfl, rfl, trivial⟩
  · have ok := ok.1 c_53
    have hx := xif_p c_53 hx
    refine r_aload_n dX12_prevote_56 rfl rfl ?_
    refine r_iload_n dX12_prevote_57 rfl rfl ?_
    refine r_sipush (v := nI 1118) dX12_prevote_58 (by decide) ?_
    refine r_iload_n dX12_prevote_61 rfl rfl ?_
    refine r_iadd dX12_prevote_62 ?_
    refine r_V2i (y' := mX12_sameBlock) dX12_prevote_63 lX12_594 kX12_sameBlock ⟨by decide, by decide⟩ rfl (Nat.le_of_ble_eq_true rfl) (rc_X12_sameBlock hG ok.1) (fun v_63 S_63 h_63 => ?_)
    obtain ⟨rfl, hS_63⟩ := h_63
    have hS_63 := hS_63.symm
    subst hS_63
    have ok := ok.2
    refine r_if_eq (tgt := 82) dX12_prevote_66 (by decide) (fun c_66 => ?_) (fun c_66 => ?_)
    · have ok := ok.1 c_66
      have hx := xif_p c_66 hx
      exact rX.cutz (b_prevote_82 hG hR ok hx) ⟨rfl, rfl, rfl, trivial⟩
    · have ok := ok.2 c_66
      have hx := xif_n c_66 hx
      exact rX.cutz (b_prevote_69 hG hR ok hx) ⟨rfl, rfl, rfl, trivial⟩
def F_prevote_0 (N : Nat) (x1 : Int32) (x2 : Int32) (S : rS) : Int32 × rS := (if (S.2.1 59 (x2 - (nI 0)).toNatClampNeg) = (-1) then (if (f_isThere N S ((nI 1118) + x1)) = 0 then (F_prevote_49 N x1 x2 (nI 1) S) else (F_prevote_49 N x1 x2 (nI 0) S)) else (if (S.2.1 59 (x2 - (nI 0)).toNatClampNeg) < (S.2.1 47 x1.toNatClampNeg) then (F_prevote_49 N x1 x2 (nI 0) S) else (F_prevote_49 N x1 x2 (nI 1) S)))
def O_prevote_0 (N : Nat) (x1 : Int32) (x2 : Int32) (S : rS) : Prop := (vp_in (x2 - (nI 0)) 416) ∧ (((S.2.1 59 (x2 - (nI 0)).toNatClampNeg) = (-1) → (o_isThere N S ((nI 1118) + x1)) ∧ (((f_isThere N S ((nI 1118) + x1)) = 0 → O_prevote_49 N x1 x2 (nI 1) S) ∧ (¬ (f_isThere N S ((nI 1118) + x1)) = 0 → O_prevote_49 N x1 x2 (nI 0) S))) ∧ (¬ (S.2.1 59 (x2 - (nI 0)).toNatClampNeg) = (-1) → (vp_in x1 13) ∧ (((S.2.1 59 (x2 - (nI 0)).toNatClampNeg) < (S.2.1 47 x1.toNatClampNeg) → O_prevote_49 N x1 x2 (nI 0) S) ∧ (¬ (S.2.1 59 (x2 - (nI 0)).toNatClampNeg) < (S.2.1 47 x1.toNatClampNeg) → O_prevote_49 N x1 x2 (nI 1) S))))
set_option maxHeartbeats 4000000 in
theorem b_prevote_0 {G : zG} {E : rE} {S : rS} {N : Nat} {Q : Option Value → rS → Prop} {X : Int32 × rS → Prop} (hG : zOK G) (hR : ∀ v S', X (v, S') → Q (some (.int v)) S') {x1 : Int32} {x2 : Int32} (ok : O_prevote_0 N x1 x2 S) (hx : X (F_prevote_0 N x1 x2 S)) : rX G E dX12_prevote mX12_prevote 0 [some (.ref E.1), some (.int x1), some (.int x2), none, none, none] [] S Q := by
  unfold O_prevote_0 at ok
  unfold F_prevote_0 at hx
  refine r_aload_n dX12_prevote_0 rfl rfl ?_
  refine r_getA 59 fX12_354 (by decide) (by decide) dX12_prevote_1 ?_
  refine r_iload_n dX12_prevote_4 rfl rfl ?_
  refine r_iconst (v := nI 0) dX12_prevote_5 (by decide) ?_
  refine r_isub dX12_prevote_6 ?_
  refine r_iald (by decide) (by decide) dX12_prevote_7 ok.1 ?_
  have ok := ok.2
  refine r_istore_3 dX12_prevote_8 (by decide) rfl ?_
  refine r_iload_n dX12_prevote_9 rfl rfl ?_
  refine r_iconst (v := -1) dX12_prevote_10 (by decide) ?_
  refine r_icmp_ne (tgt := 34) dX12_prevote_11 (by decide) (fun c_11 => ?_) (fun c_11 => ?_)
  · have ok := ok.2 c_11
    have hx := xif_n c_11 hx
    refine r_aload_n dX12_prevote_34 rfl rfl ?_
    refine r_getA 47 fX12_318 (by decide) (by decide) dX12_prevote_35 ?_
    refine r_iload_n dX12_prevote_38 rfl rfl ?_
    refine r_iald (by decide) (by decide) dX12_prevote_39 ok.1 ?_
    have ok := ok.2
    refine r_iload_n dX12_prevote_40 rfl rfl ?_
    refine r_icmp_gt (tgt := 48) dX12_prevote_41 (by decide) (fun c_41 => ?_) (fun c_41 => ?_)
    · have ok := ok.1 c_41
      have hx := xif_p c_41 hx
      refine r_iconst (v := nI 0) dX12_prevote_48 (by decide) ?_
      exact rX.cutz (b_prevote_49 hG hR ok hx) ⟨rfl, rfl, rfl, trivial⟩
    · have ok := ok.2 c_41
      have hx := xif_n c_41 hx
      refine r_iconst (v := nI 1) dX12_prevote_44 (by decide) ?_
      refine r_goto (tgt := 49) dX12_prevote_45 (by decide) ?_
      exact rX.cutz (b_prevote_49 hG hR ok hx) ⟨rfl, rfl, rfl, trivial⟩
  · have ok := ok.1 c_11
    have hx := xif_p c_11 hx
    refine r_aload_n dX12_prevote_14 rfl rfl ?_
    refine r_sipush (v := nI 1118) dX12_prevote_15 (by decide) ?_
    refine r_iload_n dX12_prevote_18 rfl rfl ?_
    refine r_iadd dX12_prevote_19 ?_
    refine r_V1i (y' := mX12_isThere) dX12_prevote_20 lX12_63 kX12_isThere ⟨by decide, by decide⟩ rfl (Nat.le_of_ble_eq_true rfl) (rc_X12_isThere hG ok.1) (fun v_20 S_20 h_20 => ?_)
    obtain ⟨rfl, hS_20⟩ := h_20
    have hS_20 := hS_20.symm
    subst hS_20
    have ok := ok.2
    refine r_if_ne (tgt := 30) dX12_prevote_23 (by decide) (fun c_23 => ?_) (fun c_23 => ?_)
    · have ok := ok.2 c_23
      have hx := xif_n c_23 hx
      refine r_iconst (v := nI 0) dX12_prevote_30 (by decide) ?_
      refine r_goto (tgt := 49) dX12_prevote_31 (by decide) ?_
      exact rX.cutz (b_prevote_49 hG hR ok hx) ⟨rfl, rfl, rfl, trivial⟩
    · have ok := ok.1 c_23
      have hx := xif_p c_23 hx
      refine r_iconst (v := nI 1) dX12_prevote_26 (by decide) ?_
      refine r_goto (tgt := 49) dX12_prevote_27 (by decide) ?_
      exact rX.cutz (b_prevote_49 hG hR ok hx) ⟨rfl, rfl, rfl, trivial⟩
def f_prevote (N : Nat) (S : rS) (x1 : Int32) (x2 : Int32) : Int32 × rS := F_prevote_0 N x1 x2 S
def o_prevote (N : Nat) (S : rS) (x1 : Int32) (x2 : Int32) : Prop := O_prevote_0 N x1 x2 S
set_option maxHeartbeats 4000000 in
theorem rc_X12_prevote {G : zG} {E : rE} {S : rS} {N : Nat} (hG : zOK G) {x1 : Int32} {x2 : Int32} (ok : o_prevote N S x1 x2) : rCi G E dX12_prevote mX12_prevote [.ref E.1, .int x1, .int x2] S (fun v S' => v = (f_prevote N S x1 x2).1 ∧ S' = (f_prevote N S x1 x2).2) := by
  refine rC.ofX rfl (Nat.le_of_ble_eq_true rfl) ?_
  show rX G E dX12_prevote mX12_prevote 0 [some (.ref E.1), some (.int x1), some (.int x2), none, none, none] [] S _
  exact rX.cutz (b_prevote_0 (X := fun F => F = f_prevote N S x1 x2) hG (fun v S' h => ⟨v, rfl, by rw [← h], by rw [← h]⟩) ok rfl) ⟨rfl, rfl, rfl, trivial⟩
/-! rule8 -/
def F_rule8_45 (N : Nat)  (S : rS) : Int32 × rS := ((nI 1), S)
def O_rule8_45 (N : Nat)  (S : rS) : Prop := True
set_option maxHeartbeats 4000000 in
theorem b_rule8_45 {G : zG} {E : rE} {S : rS} {N : Nat} {Q : Option Value → rS → Prop} {X : Int32 × rS → Prop} (hG : zOK G) (hR : ∀ v S', X (v, S') → Q (some (.int v)) S') (ok : O_rule8_45 N S) (hx : X (F_rule8_45 N S)) : rX G E dX12_rule8 mX12_rule8 45 [none, none] [] S Q := by
  unfold O_rule8_45 at ok
  unfold F_rule8_45 at hx
  refine r_iconst (v := nI 1) dX12_rule8_45 (by decide) ?_
  exact r_ireturn rfl rfl dX12_rule8_46 (hR _ _ hx)
def F_rule8_30 (N : Nat)  (S : rS) : Int32 × rS := ((nI 0), S)
def O_rule8_30 (N : Nat)  (S : rS) : Prop := True
set_option maxHeartbeats 4000000 in
theorem b_rule8_30 {G : zG} {E : rE} {S : rS} {N : Nat} {Q : Option Value → rS → Prop} {X : Int32 × rS → Prop} (hG : zOK G) (hR : ∀ v S', X (v, S') → Q (some (.int v)) S') (ok : O_rule8_30 N S) (hx : X (F_rule8_30 N S)) : rX G E dX12_rule8 mX12_rule8 30 [none, none] [] S Q := by
  unfold O_rule8_30 at ok
  unfold F_rule8_30 at hx
  refine r_iconst (v := nI 0) dX12_rule8_30 (by decide) ?_
  exact r_ireturn rfl rfl dX12_rule8_31 (hR _ _ hx)
def F_rule8_0 (N : Nat) (x1 : Int32) (S : rS) : Int32 × rS := (if (S.2.1 51 x1.toNatClampNeg) = 0 then (if (f_quorum N S) ≤ (f_count0 N S (nI 1) x1 (S.2.1 45 x1.toNatClampNeg) (nI 0) (-1)) then (F_rule8_45 N (f_setTimer N (rsA S 51 x1.toNatClampNeg (nI 1)) x1 (nI 2))) else (F_rule8_30 N S)) else (F_rule8_30 N S))
def O_rule8_0 (N : Nat) (x1 : Int32) (S : rS) : Prop := (vp_in x1 13) ∧ (((S.2.1 51 x1.toNatClampNeg) = 0 → (vp_in x1 13) ∧ (o_count0 N S (nI 1) x1 (S.2.1 45 x1.toNatClampNeg) (nI 0) (-1)) ∧ (o_quorum N S) ∧ (((f_quorum N S) ≤ (f_count0 N S (nI 1) x1 (S.2.1 45 x1.toNatClampNeg) (nI 0) (-1)) → (vp_in x1 13) ∧ (o_setTimer N (rsA S 51 x1.toNatClampNeg (nI 1)) x1 (nI 2)) ∧ O_rule8_45 N (f_setTimer N (rsA S 51 x1.toNatClampNeg (nI 1)) x1 (nI 2))) ∧ (¬ (f_quorum N S) ≤ (f_count0 N S (nI 1) x1 (S.2.1 45 x1.toNatClampNeg) (nI 0) (-1)) → O_rule8_30 N S))) ∧ (¬ (S.2.1 51 x1.toNatClampNeg) = 0 → O_rule8_30 N S))
set_option maxHeartbeats 4000000 in
theorem b_rule8_0 {G : zG} {E : rE} {S : rS} {N : Nat} {Q : Option Value → rS → Prop} {X : Int32 × rS → Prop} (hG : zOK G) (hR : ∀ v S', X (v, S') → Q (some (.int v)) S') {x1 : Int32} (ok : O_rule8_0 N x1 S) (hx : X (F_rule8_0 N x1 S)) : rX G E dX12_rule8 mX12_rule8 0 [some (.ref E.1), some (.int x1)] [] S Q := by
  unfold O_rule8_0 at ok
  unfold F_rule8_0 at hx
  refine r_aload_n dX12_rule8_0 rfl rfl ?_
  refine r_getA 51 fX12_330 (by decide) (by decide) dX12_rule8_1 ?_
  refine r_iload_n dX12_rule8_4 rfl rfl ?_
  refine r_zald (by decide) (by decide) dX12_rule8_5 ok.1 ?_
  have ok := ok.2
  refine r_if_ne (tgt := 30) dX12_rule8_6 (by decide) (fun c_6 => ?_) (fun c_6 => ?_)
  · have ok := ok.2 c_6
    have hx := xif_n c_6 hx
    exact rX.cutz (b_rule8_30 hG hR ok hx) trivial
  · have ok := ok.1 c_6
    have hx := xif_p c_6 hx
    refine r_aload_n dX12_rule8_9 rfl rfl ?_
    refine r_iconst (v := nI 1) dX12_rule8_10 (by decide) ?_
    refine r_iload_n dX12_rule8_11 rfl rfl ?_
    refine r_aload_n dX12_rule8_12 rfl rfl ?_
    refine r_getA 45 fX12_312 (by decide) (by decide) dX12_rule8_13 ?_
    refine r_iload_n dX12_rule8_16 rfl rfl ?_
    refine r_iald (by decide) (by decide) dX12_rule8_17 ok.1 ?_
    have ok := ok.2
    refine r_iconst (v := nI 0) dX12_rule8_18 (by decide) ?_
    refine r_iconst (v := -1) dX12_rule8_19 (by decide) ?_
    refine r_V5i (y' := mX12_count0) dX12_rule8_20 lX12_600 kX12_count0 ⟨by decide, by decide⟩ rfl (Nat.le_of_ble_eq_true rfl) (rc_X12_count0 hG ok.1) (fun v_20 S_20 h_20 => ?_)
    obtain ⟨rfl, hS_20⟩ := h_20
    have hS_20 := hS_20.symm
    subst hS_20
    have ok := ok.2
    refine r_aload_n dX12_rule8_23 rfl rfl ?_
    refine r_V0i (y' := mX12_quorum) dX12_rule8_24 lX12_603 kX12_quorum ⟨by decide, by decide⟩ rfl (Nat.le_of_ble_eq_true rfl) (rc_X12_quorum hG ok.1) (fun v_24 S_24 h_24 => ?_)
    obtain ⟨rfl, hS_24⟩ := h_24
    have hS_24 := hS_24.symm
    subst hS_24
    have ok := ok.2
    refine r_icmp_ge (tgt := 32) dX12_rule8_27 (by decide) (fun c_27 => ?_) (fun c_27 => ?_)
    · have ok := ok.1 c_27
      have hx := xif_p c_27 hx
      refine r_aload_n dX12_rule8_32 rfl rfl ?_
      refine r_getA 51 fX12_330 (by decide) (by decide) dX12_rule8_33 ?_
      refine r_iload_n dX12_rule8_36 rfl rfl ?_
      refine r_iconst (v := nI 1) dX12_rule8_37 (by decide) ?_
      refine r_zast hG rfl (by decide) (by decide) dX12_rule8_38 ok.1 ?_
      have ok := ok.2
      refine r_aload_n dX12_rule8_39 rfl rfl ?_
      refine r_iload_n dX12_rule8_40 rfl rfl ?_
      refine r_iconst (v := nI 2) dX12_rule8_41 (by decide) ?_
      refine r_V2v (y' := mX12_setTimer) dX12_rule8_42 lX12_572 kX12_setTimer ⟨by decide, by decide⟩ rfl (Nat.le_of_ble_eq_true rfl) (rc_X12_setTimer hG ok.1) (fun S_42 h_42 => ?_)
      subst h_42
      have ok := ok.2
      exact rX.cutz (b_rule8_45 hG hR ok hx) trivial
    · have ok := ok.2 c_27
      have hx := xif_n c_27 hx
      exact rX.cutz (b_rule8_30 hG hR ok hx) trivial
def f_rule8 (N : Nat) (S : rS) (x1 : Int32) : Int32 × rS := F_rule8_0 N x1 S
def o_rule8 (N : Nat) (S : rS) (x1 : Int32) : Prop := O_rule8_0 N x1 S
set_option maxHeartbeats 4000000 in
theorem rc_X12_rule8 {G : zG} {E : rE} {S : rS} {N : Nat} (hG : zOK G) {x1 : Int32} (ok : o_rule8 N S x1) : rCi G E dX12_rule8 mX12_rule8 [.ref E.1, .int x1] S (fun v S' => v = (f_rule8 N S x1).1 ∧ S' = (f_rule8 N S x1).2) := by
  refine rC.ofX rfl (Nat.le_of_ble_eq_true rfl) ?_
  show rX G E dX12_rule8 mX12_rule8 0 [some (.ref E.1), some (.int x1)] [] S _
  exact rX.cutz (b_rule8_0 (X := fun F => F = f_rule8 N S x1) hG (fun v S' h => ⟨v, rfl, by rw [← h], by rw [← h]⟩) ok rfl) ⟨rfl, rfl, trivial⟩
/-! rule5 -/
def F_rule5_162 (N : Nat) (s0 : Int32) (S : rS) : Int32 × rS := (s0, S)
def O_rule5_162 (N : Nat) (s0 : Int32) (S : rS) : Prop := narrow .boolean (.int s0) = .int s0
set_option maxHeartbeats 4000000 in
theorem b_rule5_162 {G : zG} {E : rE} {S : rS} {N : Nat} {Q : Option Value → rS → Prop} {X : Int32 × rS → Prop} (hG : zOK G) (hR : ∀ v S', X (v, S') → Q (some (.int v)) S') {s0 : Int32} (ok : O_rule5_162 N s0 S) (hx : X (F_rule5_162 N s0 S)) : rX G E dX12_rule5 mX12_rule5 162 [none, none, none] [.int s0] S Q := by
  unfold O_rule5_162 at ok
  unfold F_rule5_162 at hx
  exact r_ireturn rfl ok dX12_rule5_162 (hR _ _ hx)
def F_rule5_154 (N : Nat) (x1 : Int32) (x2 : Int32) (S : rS) : Int32 × rS := (F_rule5_162 N ((f_vote N S x1 (nI 3) x2 (nI 2)).1) (f_vote N S x1 (nI 3) x2 (nI 2)).2)
def O_rule5_154 (N : Nat) (x1 : Int32) (x2 : Int32) (S : rS) : Prop := (o_vote N S x1 (nI 3) x2 (nI 2)) ∧ O_rule5_162 N ((f_vote N S x1 (nI 3) x2 (nI 2)).1) (f_vote N S x1 (nI 3) x2 (nI 2)).2
set_option maxHeartbeats 4000000 in
theorem b_rule5_154 {G : zG} {E : rE} {S : rS} {N : Nat} {Q : Option Value → rS → Prop} {X : Int32 × rS → Prop} (hG : zOK G) (hR : ∀ v S', X (v, S') → Q (some (.int v)) S') {x1 : Int32} {x2 : Int32} (ok : O_rule5_154 N x1 x2 S) (hx : X (F_rule5_154 N x1 x2 S)) : rX G E dX12_rule5 mX12_rule5 154 [some (.ref E.1), some (.int x1), some (.int x2)] [] S Q := by
  unfold O_rule5_154 at ok
  unfold F_rule5_154 at hx
  refine r_aload_n dX12_rule5_154 rfl rfl ?_
  refine r_iload_n dX12_rule5_155 rfl rfl ?_
  refine r_iconst (v := nI 3) dX12_rule5_156 (by decide) ?_
  refine r_iload_n dX12_rule5_157 rfl rfl ?_
  refine r_iconst (v := nI 2) dX12_rule5_158 (by decide) ?_
  refine r_V4i (y' := mX12_vote) dX12_rule5_159 lX12_639 kX12_vote ⟨by decide, by decide⟩ rfl (Nat.le_of_ble_eq_true rfl) (rc_X12_vote hG ok.1) (fun v_159 S_159 h_159 => ?_)
  obtain ⟨rfl, hS_159⟩ := h_159
  have hS_159 := hS_159.symm
  subst hS_159
  have ok := ok.2
  exact rX.cutz (b_rule5_162 hG hR ok hx) trivial
def F_rule5_130 (N : Nat) (x1 : Int32) (x2 : Int32) (S : rS) : Int32 × rS := (F_rule5_154 N x1 x2 (rsA (rsA S 47 x1.toNatClampNeg (S.2.1 45 x1.toNatClampNeg)) 48 x1.toNatClampNeg ((rsA S 47 x1.toNatClampNeg (S.2.1 45 x1.toNatClampNeg)).2.1 45 x1.toNatClampNeg)))
def O_rule5_130 (N : Nat) (x1 : Int32) (x2 : Int32) (S : rS) : Prop := (vp_in x1 13) ∧ (vp_in x1 13) ∧ (vp_in x1 13) ∧ (vp_in x1 13) ∧ O_rule5_154 N x1 x2 (rsA (rsA S 47 x1.toNatClampNeg (S.2.1 45 x1.toNatClampNeg)) 48 x1.toNatClampNeg ((rsA S 47 x1.toNatClampNeg (S.2.1 45 x1.toNatClampNeg)).2.1 45 x1.toNatClampNeg))
set_option maxHeartbeats 4000000 in
theorem b_rule5_130 {G : zG} {E : rE} {S : rS} {N : Nat} {Q : Option Value → rS → Prop} {X : Int32 × rS → Prop} (hG : zOK G) (hR : ∀ v S', X (v, S') → Q (some (.int v)) S') {x1 : Int32} {x2 : Int32} (ok : O_rule5_130 N x1 x2 S) (hx : X (F_rule5_130 N x1 x2 S)) : rX G E dX12_rule5 mX12_rule5 130 [some (.ref E.1), some (.int x1), some (.int x2)] [] S Q := by
  unfold O_rule5_130 at ok
  unfold F_rule5_130 at hx
  refine r_aload_n dX12_rule5_130 rfl rfl ?_
  refine r_getA 47 fX12_318 (by decide) (by decide) dX12_rule5_131 ?_
  refine r_iload_n dX12_rule5_134 rfl rfl ?_
  refine r_aload_n dX12_rule5_135 rfl rfl ?_
  refine r_getA 45 fX12_312 (by decide) (by decide) dX12_rule5_136 ?_
  refine r_iload_n dX12_rule5_139 rfl rfl ?_
  refine r_iald (by decide) (by decide) dX12_rule5_140 ok.1 ?_
  have ok := ok.2
  refine r_iast hG (by decide) (by decide) dX12_rule5_141 ok.1 ?_
  have ok := ok.2
  refine r_aload_n dX12_rule5_142 rfl rfl ?_
  refine r_getA 48 fX12_321 (by decide) (by decide) dX12_rule5_143 ?_
  refine r_iload_n dX12_rule5_146 rfl rfl ?_
  refine r_aload_n dX12_rule5_147 rfl rfl ?_
  refine r_getA 45 fX12_312 (by decide) (by decide) dX12_rule5_148 ?_
  refine r_iload_n dX12_rule5_151 rfl rfl ?_
  refine r_iald (by decide) (by decide) dX12_rule5_152 ok.1 ?_
  have ok := ok.2
  refine r_iast hG (by decide) (by decide) dX12_rule5_153 ok.1 ?_
  have ok := ok.2
  exact rX.cutz (b_rule5_154 hG hR ok hx) ⟨rfl, rfl, rfl, trivial⟩
def F_rule5_120 (N : Nat) (x1 : Int32) (x2 : Int32) (S : rS) : Int32 × rS := (F_rule5_130 N x1 x2 (f_copyBlock N S x2 ((nI 1131) + x1)))
def O_rule5_120 (N : Nat) (x1 : Int32) (x2 : Int32) (S : rS) : Prop := (o_copyBlock N S x2 ((nI 1131) + x1)) ∧ O_rule5_130 N x1 x2 (f_copyBlock N S x2 ((nI 1131) + x1))
set_option maxHeartbeats 4000000 in
theorem b_rule5_120 {G : zG} {E : rE} {S : rS} {N : Nat} {Q : Option Value → rS → Prop} {X : Int32 × rS → Prop} (hG : zOK G) (hR : ∀ v S', X (v, S') → Q (some (.int v)) S') {x1 : Int32} {x2 : Int32} (ok : O_rule5_120 N x1 x2 S) (hx : X (F_rule5_120 N x1 x2 S)) : rX G E dX12_rule5 mX12_rule5 120 [some (.ref E.1), some (.int x1), some (.int x2)] [] S Q := by
  unfold O_rule5_120 at ok
  unfold F_rule5_120 at hx
  refine r_aload_n dX12_rule5_120 rfl rfl ?_
  refine r_iload_n dX12_rule5_121 rfl rfl ?_
  refine r_sipush (v := nI 1131) dX12_rule5_122 (by decide) ?_
  refine r_iload_n dX12_rule5_125 rfl rfl ?_
  refine r_iadd dX12_rule5_126 ?_
  refine r_V2v (y' := mX12_copyBlock) dX12_rule5_127 lX12_507 kX12_copyBlock ⟨by decide, by decide⟩ rfl (Nat.le_of_ble_eq_true rfl) (rc_X12_copyBlock hG ok.1) (fun S_127 h_127 => ?_)
  subst h_127
  have ok := ok.2
  exact rX.cutz (b_rule5_130 hG hR ok hx) ⟨rfl, rfl, rfl, trivial⟩
def F_rule5_105 (N : Nat) (x1 : Int32) (x2 : Int32) (s0 : Int32) (S : rS) : Int32 × rS := (if s0 = 0 then ((nI 0), S) else (F_rule5_120 N x1 x2 (f_copyBlock N S x2 ((nI 1118) + x1))))
def O_rule5_105 (N : Nat) (x1 : Int32) (x2 : Int32) (s0 : Int32) (S : rS) : Prop := ((s0 = 0 → True) ∧ (¬ s0 = 0 → (o_copyBlock N S x2 ((nI 1118) + x1)) ∧ O_rule5_120 N x1 x2 (f_copyBlock N S x2 ((nI 1118) + x1))))
set_option maxHeartbeats 4000000 in
theorem b_rule5_105 {G : zG} {E : rE} {S : rS} {N : Nat} {Q : Option Value → rS → Prop} {X : Int32 × rS → Prop} (hG : zOK G) (hR : ∀ v S', X (v, S') → Q (some (.int v)) S') {x1 : Int32} {x2 : Int32} {s0 : Int32} (ok : O_rule5_105 N x1 x2 s0 S) (hx : X (F_rule5_105 N x1 x2 s0 S)) : rX G E dX12_rule5 mX12_rule5 105 [some (.ref E.1), some (.int x1), some (.int x2)] [.int s0] S Q := by
  unfold O_rule5_105 at ok
  unfold F_rule5_105 at hx
  refine r_if_ne (tgt := 110) dX12_rule5_105 (by decide) (fun c_105 => ?_) (fun c_105 => ?_)
  · have ok := ok.2 c_105
    have hx := xif_n c_105 hx
    refine r_aload_n dX12_rule5_110 rfl rfl ?_
    refine r_iload_n dX12_rule5_111 rfl rfl ?_
    refine r_sipush (v := nI 1118) dX12_rule5_112 (by decide) ?_
    refine r_iload_n dX12_rule5_115 rfl rfl ?_
    refine r_iadd dX12_rule5_116 ?_
    refine r_V2v (y' := mX12_copyBlock) dX12_rule5_117 lX12_507 kX12_copyBlock ⟨by decide, by decide⟩ rfl (Nat.le_of_ble_eq_true rfl) (rc_X12_copyBlock hG ok.1) (fun S_117 h_117 => ?_)
    subst h_117
    have ok := ok.2
    exact rX.cutz (b_rule5_120 hG hR ok hx) ⟨rfl, rfl, rfl, trivial⟩
  · have ok := ok.1 c_105
    have hx := xif_p c_105 hx
    refine r_iconst (v := nI 0) dX12_rule5_108 (by decide) ?_
    exact r_ireturn rfl rfl dX12_rule5_109 (hR _ _ hx)
def F_rule5_69 (N : Nat) (x1 : Int32) (S : rS) : Int32 × rS := ((nI 1), (rsA S 48 x1.toNatClampNeg (S.2.1 45 x1.toNatClampNeg)))
def O_rule5_69 (N : Nat) (x1 : Int32) (S : rS) : Prop := (vp_in x1 13) ∧ (vp_in x1 13) ∧ True
set_option maxHeartbeats 4000000 in
theorem b_rule5_69 {G : zG} {E : rE} {S : rS} {N : Nat} {Q : Option Value → rS → Prop} {X : Int32 × rS → Prop} (hG : zOK G) (hR : ∀ v S', X (v, S') → Q (some (.int v)) S') {x1 : Int32} (ok : O_rule5_69 N x1 S) (hx : X (F_rule5_69 N x1 S)) : rX G E dX12_rule5 mX12_rule5 69 [some (.ref E.1), some (.int x1), none] [] S Q := by
  unfold O_rule5_69 at ok
  unfold F_rule5_69 at hx
  refine r_aload_n dX12_rule5_69 rfl rfl ?_
  refine r_getA 48 fX12_321 (by decide) (by decide) dX12_rule5_70 ?_
  refine r_iload_n dX12_rule5_73 rfl rfl ?_
  refine r_aload_n dX12_rule5_74 rfl rfl ?_
  refine r_getA 45 fX12_312 (by decide) (by decide) dX12_rule5_75 ?_
  refine r_iload_n dX12_rule5_78 rfl rfl ?_
  refine r_iald (by decide) (by decide) dX12_rule5_79 ok.1 ?_
  have ok := ok.2
  refine r_iast hG (by decide) (by decide) dX12_rule5_80 ok.1 ?_
  have ok := ok.2
  refine r_iconst (v := nI 1) dX12_rule5_81 (by decide) ?_
  exact r_ireturn rfl rfl dX12_rule5_82 (hR _ _ hx)
def F_rule5_54 (N : Nat) (x1 : Int32) (x2 : Int32) (s0 : Int32) (S : rS) : Int32 × rS := (if s0 = 0 then ((nI 0), S) else (F_rule5_69 N x1 (f_copyBlock N S x2 ((nI 1131) + x1))))
def O_rule5_54 (N : Nat) (x1 : Int32) (x2 : Int32) (s0 : Int32) (S : rS) : Prop := ((s0 = 0 → True) ∧ (¬ s0 = 0 → (o_copyBlock N S x2 ((nI 1131) + x1)) ∧ O_rule5_69 N x1 (f_copyBlock N S x2 ((nI 1131) + x1))))
set_option maxHeartbeats 4000000 in
theorem b_rule5_54 {G : zG} {E : rE} {S : rS} {N : Nat} {Q : Option Value → rS → Prop} {X : Int32 × rS → Prop} (hG : zOK G) (hR : ∀ v S', X (v, S') → Q (some (.int v)) S') {x1 : Int32} {x2 : Int32} {s0 : Int32} (ok : O_rule5_54 N x1 x2 s0 S) (hx : X (F_rule5_54 N x1 x2 s0 S)) : rX G E dX12_rule5 mX12_rule5 54 [some (.ref E.1), some (.int x1), some (.int x2)] [.int s0] S Q := by
  unfold O_rule5_54 at ok
  unfold F_rule5_54 at hx
  refine r_if_ne (tgt := 59) dX12_rule5_54 (by decide) (fun c_54 => ?_) (fun c_54 => ?_)
  · have ok := ok.2 c_54
    have hx := xif_n c_54 hx
    refine r_aload_n dX12_rule5_59 rfl rfl ?_
    refine r_iload_n dX12_rule5_60 rfl rfl ?_
    refine r_sipush (v := nI 1131) dX12_rule5_61 (by decide) ?_
    refine r_iload_n dX12_rule5_64 rfl rfl ?_
    refine r_iadd dX12_rule5_65 ?_
    refine r_V2v (y' := mX12_copyBlock) dX12_rule5_66 lX12_507 kX12_copyBlock ⟨by decide, by decide⟩ rfl (Nat.le_of_ble_eq_true rfl) (rc_X12_copyBlock hG ok.1) (fun S_66 h_66 => ?_)
    subst h_66
    have ok := ok.2
    exact rX.cutz (b_rule5_69 hG hR ok hx) ⟨rfl, rfl, trivial⟩
  · have ok := ok.1 c_54
    have hx := xif_p c_54 hx
    refine r_iconst (v := nI 0) dX12_rule5_57 (by decide) ?_
    exact r_ireturn rfl rfl dX12_rule5_58 (hR _ _ hx)
def F_rule5_47 (N : Nat) (x1 : Int32) (x2 : Int32) (S : rS) : Int32 × rS := (F_rule5_54 N x1 x2 ((f_noteLock N S x1 (nI 5) x2).1) (f_noteLock N S x1 (nI 5) x2).2)
def O_rule5_47 (N : Nat) (x1 : Int32) (x2 : Int32) (S : rS) : Prop := (o_noteLock N S x1 (nI 5) x2) ∧ O_rule5_54 N x1 x2 ((f_noteLock N S x1 (nI 5) x2).1) (f_noteLock N S x1 (nI 5) x2).2
set_option maxHeartbeats 4000000 in
theorem b_rule5_47 {G : zG} {E : rE} {S : rS} {N : Nat} {Q : Option Value → rS → Prop} {X : Int32 × rS → Prop} (hG : zOK G) (hR : ∀ v S', X (v, S') → Q (some (.int v)) S') {x1 : Int32} {x2 : Int32} (ok : O_rule5_47 N x1 x2 S) (hx : X (F_rule5_47 N x1 x2 S)) : rX G E dX12_rule5 mX12_rule5 47 [some (.ref E.1), some (.int x1), some (.int x2)] [] S Q := by
  unfold O_rule5_47 at ok
  unfold F_rule5_47 at hx
  refine r_aload_n dX12_rule5_47 rfl rfl ?_
  refine r_iload_n dX12_rule5_48 rfl rfl ?_
  refine r_iconst (v := nI 5) dX12_rule5_49 (by decide) ?_
  refine r_iload_n dX12_rule5_50 rfl rfl ?_
  refine r_V3i (y' := mX12_noteLock) dX12_rule5_51 lX12_643 kX12_noteLock ⟨by decide, by decide⟩ rfl (Nat.le_of_ble_eq_true rfl) (rc_X12_noteLock hG ok.1) (fun v_51 S_51 h_51 => ?_)
  obtain ⟨rfl, hS_51⟩ := h_51
  have hS_51 := hS_51.symm
  subst hS_51
  have ok := ok.2
  exact rX.cutz (b_rule5_54 hG hR ok hx) ⟨rfl, rfl, rfl, trivial⟩
def F_rule5_0 (N : Nat) (x1 : Int32) (x2 : Int32) (S : rS) : Int32 × rS := (if ((rsA S 49 x1.toNatClampNeg (nI 1)).2.1 46 x1.toNatClampNeg) = (nI 2) then (if ((rsA S 49 x1.toNatClampNeg (nI 1)).2.1 48 x1.toNatClampNeg) = ((rsA S 49 x1.toNatClampNeg (nI 1)).2.1 45 x1.toNatClampNeg) then (if (f_sameBlock N (rsA S 49 x1.toNatClampNeg (nI 1)) x2 ((nI 1131) + x1)) = 0 then (F_rule5_47 N x1 x2 (rsA S 49 x1.toNatClampNeg (nI 1))) else ((nI 1), (rsA S 49 x1.toNatClampNeg (nI 1)))) else (F_rule5_47 N x1 x2 (rsA S 49 x1.toNatClampNeg (nI 1)))) else (if ((rsA S 49 x1.toNatClampNeg (nI 1)).2.1 47 x1.toNatClampNeg) = ((rsA S 49 x1.toNatClampNeg (nI 1)).2.1 45 x1.toNatClampNeg) then (F_rule5_154 N x1 x2 (rsA S 49 x1.toNatClampNeg (nI 1))) else (F_rule5_105 N x1 x2 ((f_noteLock N (rsA S 49 x1.toNatClampNeg (nI 1)) x1 (nI 4) x2).1) (f_noteLock N (rsA S 49 x1.toNatClampNeg (nI 1)) x1 (nI 4) x2).2)))
def O_rule5_0 (N : Nat) (x1 : Int32) (x2 : Int32) (S : rS) : Prop := (vp_in x1 13) ∧ (vp_in x1 13) ∧ ((((rsA S 49 x1.toNatClampNeg (nI 1)).2.1 46 x1.toNatClampNeg) = (nI 2) → (vp_in x1 13) ∧ (vp_in x1 13) ∧ ((((rsA S 49 x1.toNatClampNeg (nI 1)).2.1 48 x1.toNatClampNeg) = ((rsA S 49 x1.toNatClampNeg (nI 1)).2.1 45 x1.toNatClampNeg) → (o_sameBlock N (rsA S 49 x1.toNatClampNeg (nI 1)) x2 ((nI 1131) + x1)) ∧ (((f_sameBlock N (rsA S 49 x1.toNatClampNeg (nI 1)) x2 ((nI 1131) + x1)) = 0 → O_rule5_47 N x1 x2 (rsA S 49 x1.toNatClampNeg (nI 1))) ∧ (¬ (f_sameBlock N (rsA S 49 x1.toNatClampNeg (nI 1)) x2 ((nI 1131) + x1)) = 0 → True))) ∧ (¬ ((rsA S 49 x1.toNatClampNeg (nI 1)).2.1 48 x1.toNatClampNeg) = ((rsA S 49 x1.toNatClampNeg (nI 1)).2.1 45 x1.toNatClampNeg) → O_rule5_47 N x1 x2 (rsA S 49 x1.toNatClampNeg (nI 1))))) ∧ (¬ ((rsA S 49 x1.toNatClampNeg (nI 1)).2.1 46 x1.toNatClampNeg) = (nI 2) → (vp_in x1 13) ∧ (vp_in x1 13) ∧ ((((rsA S 49 x1.toNatClampNeg (nI 1)).2.1 47 x1.toNatClampNeg) = ((rsA S 49 x1.toNatClampNeg (nI 1)).2.1 45 x1.toNatClampNeg) → O_rule5_154 N x1 x2 (rsA S 49 x1.toNatClampNeg (nI 1))) ∧ (¬ ((rsA S 49 x1.toNatClampNeg (nI 1)).2.1 47 x1.toNatClampNeg) = ((rsA S 49 x1.toNatClampNeg (nI 1)).2.1 45 x1.toNatClampNeg) → (o_noteLock N (rsA S 49 x1.toNatClampNeg (nI 1)) x1 (nI 4) x2) ∧ O_rule5_105 N x1 x2 ((f_noteLock N (rsA S 49 x1.toNatClampNeg (nI 1)) x1 (nI 4) x2).1) (f_noteLock N (rsA S 49 x1.toNatClampNeg (nI 1)) x1 (nI 4) x2).2))))
set_option maxHeartbeats 4000000 in
theorem b_rule5_0 {G : zG} {E : rE} {S : rS} {N : Nat} {Q : Option Value → rS → Prop} {X : Int32 × rS → Prop} (hG : zOK G) (hR : ∀ v S', X (v, S') → Q (some (.int v)) S') {x1 : Int32} {x2 : Int32} (ok : O_rule5_0 N x1 x2 S) (hx : X (F_rule5_0 N x1 x2 S)) : rX G E dX12_rule5 mX12_rule5 0 [some (.ref E.1), some (.int x1), some (.int x2)] [] S Q := by
  unfold O_rule5_0 at ok
  unfold F_rule5_0 at hx
  refine r_aload_n dX12_rule5_0 rfl rfl ?_
  refine r_getA 49 fX12_324 (by decide) (by decide) dX12_rule5_1 ?_
  refine r_iload_n dX12_rule5_4 rfl rfl ?_
  refine r_iconst (v := nI 1) dX12_rule5_5 (by decide) ?_
  refine r_zast hG rfl (by decide) (by decide) dX12_rule5_6 ok.1 ?_
  have ok := ok.2
  refine r_aload_n dX12_rule5_7 rfl rfl ?_
  refine r_getA 46 fX12_315 (by decide) (by decide) dX12_rule5_8 ?_
  refine r_iload_n dX12_rule5_11 rfl rfl ?_
  refine r_iald (by decide) (by decide) dX12_rule5_12 ok.1 ?_
  have ok := ok.2
  refine r_iconst (v := nI 2) dX12_rule5_13 (by decide) ?_
  refine r_icmp_ne (tgt := 83) dX12_rule5_14 (by decide) (fun c_14 => ?_) (fun c_14 => ?_)
  · have ok := ok.2 c_14
    have hx := xif_n c_14 hx
    refine r_aload_n dX12_rule5_83 rfl rfl ?_
    refine r_getA 47 fX12_318 (by decide) (by decide) dX12_rule5_84 ?_
    refine r_iload_n dX12_rule5_87 rfl rfl ?_
    refine r_iald (by decide) (by decide) dX12_rule5_88 ok.1 ?_
    have ok := ok.2
    refine r_aload_n dX12_rule5_89 rfl rfl ?_
    refine r_getA 45 fX12_312 (by decide) (by decide) dX12_rule5_90 ?_
    refine r_iload_n dX12_rule5_93 rfl rfl ?_
    refine r_iald (by decide) (by decide) dX12_rule5_94 ok.1 ?_
    have ok := ok.2
    refine r_icmp_eq (tgt := 154) dX12_rule5_95 (by decide) (fun c_95 => ?_) (fun c_95 => ?_)
    · have ok := ok.1 c_95
      have hx := xif_p c_95 hx
      exact rX.cutz (b_rule5_154 hG hR ok hx) ⟨rfl, rfl, rfl, trivial⟩
    · have ok := ok.2 c_95
      have hx := xif_n c_95 hx
      refine r_aload_n dX12_rule5_98 rfl rfl ?_
      refine r_iload_n dX12_rule5_99 rfl rfl ?_
      refine r_iconst (v := nI 4) dX12_rule5_100 (by decide) ?_
      refine r_iload_n dX12_rule5_101 rfl rfl ?_
      refine r_V3i (y' := mX12_noteLock) dX12_rule5_102 lX12_643 kX12_noteLock ⟨by decide, by decide⟩ rfl (Nat.le_of_ble_eq_true rfl) (rc_X12_noteLock hG ok.1) (fun v_102 S_102 h_102 => ?_)
      obtain ⟨rfl, hS_102⟩ := h_102
      have hS_102 := hS_102.symm
      subst hS_102
      have ok := ok.2
      exact rX.cutz (b_rule5_105 hG hR ok hx) ⟨rfl, rfl, rfl, trivial⟩
  · have ok := ok.1 c_14
    have hx := xif_p c_14 hx
    refine r_aload_n dX12_rule5_17 rfl rfl ?_
    refine r_getA 48 fX12_321 (by decide) (by decide) dX12_rule5_18 ?_
    refine r_iload_n dX12_rule5_21 rfl rfl ?_
    refine r_iald (by decide) (by decide) dX12_rule5_22 ok.1 ?_
    have ok := ok.2
    refine r_aload_n dX12_rule5_23 rfl rfl ?_
    refine r_getA 45 fX12_312 (by decide) (by decide) dX12_rule5_24 ?_
    refine r_iload_n dX12_rule5_27 rfl rfl ?_
    refine r_iald (by decide) (by decide) dX12_rule5_28 ok.1 ?_
    have ok := ok.2
    refine r_icmp_ne (tgt := 47) dX12_rule5_29 (by decide) (fun c_29 => ?_) (fun c_29 => ?_)
    · have ok := ok.2 c_29
      have hx := xif_n c_29 hx
      exact rX.cutz (b_rule5_47 hG hR ok hx) ⟨rfl, rfl, rfl, trivial⟩
    · have ok := ok.1 c_29
      have hx := xif_p c_29 hx
      refine r_aload_n dX12_rule5_32 rfl rfl ?_
      refine r_iload_n dX12_rule5_33 rfl rfl ?_
      refine r_sipush (v := nI 1131) dX12_rule5_34 (by decide) ?_
      refine r_iload_n dX12_rule5_37 rfl rfl ?_
      refine r_iadd dX12_rule5_38 ?_
      refine r_V2i (y' := mX12_sameBlock) dX12_rule5_39 lX12_594 kX12_sameBlock ⟨by decide, by decide⟩ rfl (Nat.le_of_ble_eq_true rfl) (rc_X12_sameBlock hG ok.1) (fun v_39 S_39 h_39 => ?_)
      obtain ⟨rfl, hS_39⟩ := h_39
      have hS_39 := hS_39.symm
      subst hS_39
      have ok := ok.2
      refine r_if_eq (tgt := 47) dX12_rule5_42 (by decide) (fun c_42 => ?_) (fun c_42 => ?_)
      · have ok := ok.1 c_42
        have hx := xif_p c_42 hx
        exact rX.cutz (b_rule5_47 hG hR ok hx) ⟨rfl, rfl, rfl, trivial⟩
      · have ok := ok.2 c_42
        have hx := xif_n c_42 hx
        refine r_iconst (v := nI 1) dX12_rule5_45 (by decide) ?_
        exact r_ireturn rfl rfl dX12_rule5_46 (hR _ _ hx)
def f_rule5 (N : Nat) (S : rS) (x1 : Int32) (x2 : Int32) : Int32 × rS := F_rule5_0 N x1 x2 S
def o_rule5 (N : Nat) (S : rS) (x1 : Int32) (x2 : Int32) : Prop := O_rule5_0 N x1 x2 S
set_option maxHeartbeats 4000000 in
theorem rc_X12_rule5 {G : zG} {E : rE} {S : rS} {N : Nat} (hG : zOK G) {x1 : Int32} {x2 : Int32} (ok : o_rule5 N S x1 x2) : rCi G E dX12_rule5 mX12_rule5 [.ref E.1, .int x1, .int x2] S (fun v S' => v = (f_rule5 N S x1 x2).1 ∧ S' = (f_rule5 N S x1 x2).2) := by
  refine rC.ofX rfl (Nat.le_of_ble_eq_true rfl) ?_
  show rX G E dX12_rule5 mX12_rule5 0 [some (.ref E.1), some (.int x1), some (.int x2)] [] S _
  exact rX.cutz (b_rule5_0 (X := fun F => F = f_rule5 N S x1 x2) hG (fun v S' h => ⟨v, rfl, by rw [← h], by rw [← h]⟩) ok rfl) ⟨rfl, rfl, rfl, trivial⟩

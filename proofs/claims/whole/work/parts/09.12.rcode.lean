/-! closeOwn -/
def F_closeOwn_43 (N : Nat) (x2 : Int32) (s1 : Int32) (s2 : Int32) (S : rS) : Int32 × rS := (x2, (rsA S 78 s1.toNatClampNeg s2))
def O_closeOwn_43 (N : Nat) (x2 : Int32) (s1 : Int32) (s2 : Int32) (S : rS) : Prop := (vp_in s1 13) ∧ narrow .boolean (.int x2) = .int x2
set_option maxHeartbeats 4000000 in
theorem b_closeOwn_43 {G : zG} {E : rE} {S : rS} {N : Nat} {Q : Option Value → rS → Prop} {X : Int32 × rS → Prop} (hG : zOK G) (hR : ∀ v S', X (v, S') → Q (some (.int v)) S') {x2 : Int32} {s1 : Int32} {s2 : Int32} (ok : O_closeOwn_43 N x2 s1 s2 S) (hx : X (F_closeOwn_43 N x2 s1 s2 S)) : rX G E dX12_closeOwn mX12_closeOwn 43 [none, none, some (.int x2)] [.int s2, .int s1, .ref (E.2.1 78)] S Q := by
  unfold O_closeOwn_43 at ok
  unfold F_closeOwn_43 at hx
  refine r_iast hG (by decide) (by decide) dX12_closeOwn_43 ok.1 ?_
  have ok := ok.2
  refine r_iload_n dX12_closeOwn_44 rfl rfl ?_
  exact r_ireturn rfl ok dX12_closeOwn_45 (hR _ _ hx)
def F_closeOwn_16 (N : Nat) (x1 : Int32) (s0 : Int32) (S : rS) : Int32 × rS := (if s0 = 0 then (F_closeOwn_43 N s0 x1 (S.2.1 78 x1.toNatClampNeg) S) else (F_closeOwn_43 N s0 x1 ((S.2.1 78 x1.toNatClampNeg) + (nI 1)) S))
def O_closeOwn_16 (N : Nat) (x1 : Int32) (s0 : Int32) (S : rS) : Prop := ((s0 = 0 → (vp_in x1 13) ∧ O_closeOwn_43 N s0 x1 (S.2.1 78 x1.toNatClampNeg) S) ∧ (¬ s0 = 0 → (vp_in x1 13) ∧ O_closeOwn_43 N s0 x1 ((S.2.1 78 x1.toNatClampNeg) + (nI 1)) S))
set_option maxHeartbeats 4000000 in
theorem b_closeOwn_16 {G : zG} {E : rE} {S : rS} {N : Nat} {Q : Option Value → rS → Prop} {X : Int32 × rS → Prop} (hG : zOK G) (hR : ∀ v S', X (v, S') → Q (some (.int v)) S') {x1 : Int32} {s0 : Int32} (ok : O_closeOwn_16 N x1 s0 S) (hx : X (F_closeOwn_16 N x1 s0 S)) : rX G E dX12_closeOwn mX12_closeOwn 16 [some (.ref E.1), some (.int x1), none] [.int s0] S Q := by
  unfold O_closeOwn_16 at ok
  unfold F_closeOwn_16 at hx
  refine r_istore_2 dX12_closeOwn_16 (by decide) rfl ?_
  refine r_aload_n dX12_closeOwn_17 rfl rfl ?_
  refine r_getA 78 fX12_409 (by decide) (by decide) dX12_closeOwn_18 ?_
  refine r_iload_n dX12_closeOwn_21 rfl rfl ?_
  refine r_iload_n dX12_closeOwn_22 rfl rfl ?_
  refine r_if_eq (tgt := 37) dX12_closeOwn_23 (by decide) (fun c_23 => ?_) (fun c_23 => ?_)
  · have ok := ok.1 c_23
    have hx := xif_p c_23 hx
    refine r_aload_n dX12_closeOwn_37 rfl rfl ?_
    refine r_getA 78 fX12_409 (by decide) (by decide) dX12_closeOwn_38 ?_
    refine r_iload_n dX12_closeOwn_41 rfl rfl ?_
    refine r_iald (by decide) (by decide) dX12_closeOwn_42 ok.1 ?_
    have ok := ok.2
    exact rX.cutz (b_closeOwn_43 hG hR ok hx) ⟨rfl, trivial⟩
  · have ok := ok.2 c_23
    have hx := xif_n c_23 hx
    refine r_aload_n dX12_closeOwn_26 rfl rfl ?_
    refine r_getA 78 fX12_409 (by decide) (by decide) dX12_closeOwn_27 ?_
    refine r_iload_n dX12_closeOwn_30 rfl rfl ?_
    refine r_iald (by decide) (by decide) dX12_closeOwn_31 ok.1 ?_
    have ok := ok.2
    refine r_iconst (v := nI 1) dX12_closeOwn_32 (by decide) ?_
    refine r_iadd dX12_closeOwn_33 ?_
    refine r_goto (tgt := 43) dX12_closeOwn_34 (by decide) ?_
    exact rX.cutz (b_closeOwn_43 hG hR ok hx) ⟨rfl, trivial⟩
def F_closeOwn_0 (N : Nat) (x1 : Int32) (S : rS) : Int32 × rS := (F_closeOwn_16 N x1 ((f_closeNote N S x1 ((nI 80) + ((nI 2) * (S.2.1 78 x1.toNatClampNeg)))).1) (f_closeNote N S x1 ((nI 80) + ((nI 2) * (S.2.1 78 x1.toNatClampNeg)))).2)
def O_closeOwn_0 (N : Nat) (x1 : Int32) (S : rS) : Prop := (vp_in x1 13) ∧ (o_closeNote N S x1 ((nI 80) + ((nI 2) * (S.2.1 78 x1.toNatClampNeg)))) ∧ O_closeOwn_16 N x1 ((f_closeNote N S x1 ((nI 80) + ((nI 2) * (S.2.1 78 x1.toNatClampNeg)))).1) (f_closeNote N S x1 ((nI 80) + ((nI 2) * (S.2.1 78 x1.toNatClampNeg)))).2
set_option maxHeartbeats 4000000 in
theorem b_closeOwn_0 {G : zG} {E : rE} {S : rS} {N : Nat} {Q : Option Value → rS → Prop} {X : Int32 × rS → Prop} (hG : zOK G) (hR : ∀ v S', X (v, S') → Q (some (.int v)) S') {x1 : Int32} (ok : O_closeOwn_0 N x1 S) (hx : X (F_closeOwn_0 N x1 S)) : rX G E dX12_closeOwn mX12_closeOwn 0 [some (.ref E.1), some (.int x1), none] [] S Q := by
  unfold O_closeOwn_0 at ok
  unfold F_closeOwn_0 at hx
  refine r_aload_n dX12_closeOwn_0 rfl rfl ?_
  refine r_iload_n dX12_closeOwn_1 rfl rfl ?_
  refine r_bipush (v := nI 80) dX12_closeOwn_2 (by decide) ?_
  refine r_iconst (v := nI 2) dX12_closeOwn_4 (by decide) ?_
  refine r_aload_n dX12_closeOwn_5 rfl rfl ?_
  refine r_getA 78 fX12_409 (by decide) (by decide) dX12_closeOwn_6 ?_
  refine r_iload_n dX12_closeOwn_9 rfl rfl ?_
  refine r_iald (by decide) (by decide) dX12_closeOwn_10 ok.1 ?_
  have ok := ok.2
  refine r_imul dX12_closeOwn_11 ?_
  refine r_iadd dX12_closeOwn_12 ?_
  refine r_V2i (y' := mX12_closeNote) dX12_closeOwn_13 lX12_495 kX12_closeNote ⟨by decide, by decide⟩ rfl (Nat.le_of_ble_eq_true rfl) (rc_X12_closeNote hG ok.1) (fun v_13 S_13 h_13 => ?_)
  obtain ⟨rfl, hS_13⟩ := h_13
  have hS_13 := hS_13.symm
  subst hS_13
  have ok := ok.2
  exact rX.cutz (b_closeOwn_16 hG hR ok hx) ⟨rfl, rfl, trivial⟩
def f_closeOwn (N : Nat) (S : rS) (x1 : Int32) : Int32 × rS := F_closeOwn_0 N x1 S
def o_closeOwn (N : Nat) (S : rS) (x1 : Int32) : Prop := O_closeOwn_0 N x1 S
set_option maxHeartbeats 4000000 in
theorem rc_X12_closeOwn {G : zG} {E : rE} {S : rS} {N : Nat} (hG : zOK G) {x1 : Int32} (ok : o_closeOwn N S x1) : rCi G E dX12_closeOwn mX12_closeOwn [.ref E.1, .int x1] S (fun v S' => v = (f_closeOwn N S x1).1 ∧ S' = (f_closeOwn N S x1).2) := by
  refine rC.ofX rfl (Nat.le_of_ble_eq_true rfl) ?_
  show rX G E dX12_closeOwn mX12_closeOwn 0 [some (.ref E.1), some (.int x1), none] [] S _
  exact rX.cutz (b_closeOwn_0 (X := fun F => F = f_closeOwn N S x1) hG (fun v S' h => ⟨v, rfl, by rw [← h], by rw [← h]⟩) ok rfl) ⟨rfl, rfl, trivial⟩
/-! noteRound -/
def F_noteRound_16 (N : Nat) (s0 : Int32) (S : rS) : Int32 × rS := (s0, S)
def O_noteRound_16 (N : Nat) (s0 : Int32) (S : rS) : Prop := narrow .boolean (.int s0) = .int s0
set_option maxHeartbeats 4000000 in
theorem b_noteRound_16 {G : zG} {E : rE} {S : rS} {N : Nat} {Q : Option Value → rS → Prop} {X : Int32 × rS → Prop} (hG : zOK G) (hR : ∀ v S', X (v, S') → Q (some (.int v)) S') {s0 : Int32} (ok : O_noteRound_16 N s0 S) (hx : X (F_noteRound_16 N s0 S)) : rX G E dX12_noteRound mX12_noteRound 16 [none, none, none] [.int s0] S Q := by
  unfold O_noteRound_16 at ok
  unfold F_noteRound_16 at hx
  exact r_ireturn rfl ok dX12_noteRound_16 (hR _ _ hx)
def F_noteRound_11 (N : Nat) (x1 : Int32) (S : rS) : Int32 × rS := (F_noteRound_16 N ((f_closeOwn N S x1).1) (f_closeOwn N S x1).2)
def O_noteRound_11 (N : Nat) (x1 : Int32) (S : rS) : Prop := (o_closeOwn N S x1) ∧ O_noteRound_16 N ((f_closeOwn N S x1).1) (f_closeOwn N S x1).2
set_option maxHeartbeats 4000000 in
theorem b_noteRound_11 {G : zG} {E : rE} {S : rS} {N : Nat} {Q : Option Value → rS → Prop} {X : Int32 × rS → Prop} (hG : zOK G) (hR : ∀ v S', X (v, S') → Q (some (.int v)) S') {x1 : Int32} (ok : O_noteRound_11 N x1 S) (hx : X (F_noteRound_11 N x1 S)) : rX G E dX12_noteRound mX12_noteRound 11 [some (.ref E.1), some (.int x1), none] [] S Q := by
  unfold O_noteRound_11 at ok
  unfold F_noteRound_11 at hx
  refine r_aload_n dX12_noteRound_11 rfl rfl ?_
  refine r_iload_n dX12_noteRound_12 rfl rfl ?_
  refine r_V1i (y' := mX12_closeOwn) dX12_noteRound_13 lX12_501 kX12_closeOwn ⟨by decide, by decide⟩ rfl (Nat.le_of_ble_eq_true rfl) (rc_X12_closeOwn hG ok.1) (fun v_13 S_13 h_13 => ?_)
  obtain ⟨rfl, hS_13⟩ := h_13
  have hS_13 := hS_13.symm
  subst hS_13
  have ok := ok.2
  exact rX.cutz (b_noteRound_16 hG hR ok hx) trivial
def F_noteRound_6 (N : Nat) (x1 : Int32) (x2 : Int32) (S : rS) : Int32 × rS := (F_noteRound_11 N x1 (f_noteByte N S x2))
def O_noteRound_6 (N : Nat) (x1 : Int32) (x2 : Int32) (S : rS) : Prop := (o_noteByte N S x2) ∧ O_noteRound_11 N x1 (f_noteByte N S x2)
set_option maxHeartbeats 4000000 in
theorem b_noteRound_6 {G : zG} {E : rE} {S : rS} {N : Nat} {Q : Option Value → rS → Prop} {X : Int32 × rS → Prop} (hG : zOK G) (hR : ∀ v S', X (v, S') → Q (some (.int v)) S') {x1 : Int32} {x2 : Int32} (ok : O_noteRound_6 N x1 x2 S) (hx : X (F_noteRound_6 N x1 x2 S)) : rX G E dX12_noteRound mX12_noteRound 6 [some (.ref E.1), some (.int x1), some (.int x2)] [] S Q := by
  unfold O_noteRound_6 at ok
  unfold F_noteRound_6 at hx
  refine r_aload_n dX12_noteRound_6 rfl rfl ?_
  refine r_iload_n dX12_noteRound_7 rfl rfl ?_
  refine r_V1v (y' := mX12_noteByte) dX12_noteRound_8 lX12_483 kX12_noteByte ⟨by decide, by decide⟩ rfl (Nat.le_of_ble_eq_true rfl) (rc_X12_noteByte hG ok.1) (fun S_8 h_8 => ?_)
  subst h_8
  have ok := ok.2
  exact rX.cutz (b_noteRound_11 hG hR ok hx) ⟨rfl, rfl, trivial⟩
def F_noteRound_0 (N : Nat) (x1 : Int32) (x2 : Int32) (S : rS) : Int32 × rS := (F_noteRound_6 N x1 x2 (f_openOwn N S x1 (nI 2)))
def O_noteRound_0 (N : Nat) (x1 : Int32) (x2 : Int32) (S : rS) : Prop := (o_openOwn N S x1 (nI 2)) ∧ O_noteRound_6 N x1 x2 (f_openOwn N S x1 (nI 2))
set_option maxHeartbeats 4000000 in
theorem b_noteRound_0 {G : zG} {E : rE} {S : rS} {N : Nat} {Q : Option Value → rS → Prop} {X : Int32 × rS → Prop} (hG : zOK G) (hR : ∀ v S', X (v, S') → Q (some (.int v)) S') {x1 : Int32} {x2 : Int32} (ok : O_noteRound_0 N x1 x2 S) (hx : X (F_noteRound_0 N x1 x2 S)) : rX G E dX12_noteRound mX12_noteRound 0 [some (.ref E.1), some (.int x1), some (.int x2)] [] S Q := by
  unfold O_noteRound_0 at ok
  unfold F_noteRound_0 at hx
  refine r_aload_n dX12_noteRound_0 rfl rfl ?_
  refine r_iload_n dX12_noteRound_1 rfl rfl ?_
  refine r_iconst (v := nI 2) dX12_noteRound_2 (by decide) ?_
  refine r_V2v (y' := mX12_openOwn) dX12_noteRound_3 lX12_498 kX12_openOwn ⟨by decide, by decide⟩ rfl (Nat.le_of_ble_eq_true rfl) (rc_X12_openOwn hG ok.1) (fun S_3 h_3 => ?_)
  subst h_3
  have ok := ok.2
  exact rX.cutz (b_noteRound_6 hG hR ok hx) ⟨rfl, rfl, rfl, trivial⟩
def f_noteRound (N : Nat) (S : rS) (x1 : Int32) (x2 : Int32) : Int32 × rS := F_noteRound_0 N x1 x2 S
def o_noteRound (N : Nat) (S : rS) (x1 : Int32) (x2 : Int32) : Prop := O_noteRound_0 N x1 x2 S
set_option maxHeartbeats 4000000 in
theorem rc_X12_noteRound {G : zG} {E : rE} {S : rS} {N : Nat} (hG : zOK G) {x1 : Int32} {x2 : Int32} (ok : o_noteRound N S x1 x2) : rCi G E dX12_noteRound mX12_noteRound [.ref E.1, .int x1, .int x2] S (fun v S' => v = (f_noteRound N S x1 x2).1 ∧ S' = (f_noteRound N S x1 x2).2) := by
  refine rC.ofX rfl (Nat.le_of_ble_eq_true rfl) ?_
  show rX G E dX12_noteRound mX12_noteRound 0 [some (.ref E.1), some (.int x1), some (.int x2)] [] S _
  exact rX.cutz (b_noteRound_0 (X := fun F => F = f_noteRound N S x1 x2) hG (fun v S' h => ⟨v, rfl, by rw [← h], by rw [← h]⟩) ok rfl) ⟨rfl, rfl, rfl, trivial⟩
/-! noteSent -/
def F_noteSent_42 (N : Nat) (s0 : Int32) (S : rS) : Int32 × rS := (s0, S)
def O_noteSent_42 (N : Nat) (s0 : Int32) (S : rS) : Prop := narrow .boolean (.int s0) = .int s0
set_option maxHeartbeats 4000000 in
theorem b_noteSent_42 {G : zG} {E : rE} {S : rS} {N : Nat} {Q : Option Value → rS → Prop} {X : Int32 × rS → Prop} (hG : zOK G) (hR : ∀ v S', X (v, S') → Q (some (.int v)) S') {s0 : Int32} (ok : O_noteSent_42 N s0 S) (hx : X (F_noteSent_42 N s0 S)) : rX G E dX12_noteSent mX12_noteSent 42 [none, none, none, none] [.int s0] S Q := by
  unfold O_noteSent_42 at ok
  unfold F_noteSent_42 at hx
  exact r_ireturn rfl ok dX12_noteSent_42 (hR _ _ hx)
def F_noteSent_37 (N : Nat) (x1 : Int32) (S : rS) : Int32 × rS := (F_noteSent_42 N ((f_closeOwn N S x1).1) (f_closeOwn N S x1).2)
def O_noteSent_37 (N : Nat) (x1 : Int32) (S : rS) : Prop := (o_closeOwn N S x1) ∧ O_noteSent_42 N ((f_closeOwn N S x1).1) (f_closeOwn N S x1).2
set_option maxHeartbeats 4000000 in
theorem b_noteSent_37 {G : zG} {E : rE} {S : rS} {N : Nat} {Q : Option Value → rS → Prop} {X : Int32 × rS → Prop} (hG : zOK G) (hR : ∀ v S', X (v, S') → Q (some (.int v)) S') {x1 : Int32} (ok : O_noteSent_37 N x1 S) (hx : X (F_noteSent_37 N x1 S)) : rX G E dX12_noteSent mX12_noteSent 37 [some (.ref E.1), some (.int x1), none, none] [] S Q := by
  unfold O_noteSent_37 at ok
  unfold F_noteSent_37 at hx
  refine r_aload_n dX12_noteSent_37 rfl rfl ?_
  refine r_iload_n dX12_noteSent_38 rfl rfl ?_
  refine r_V1i (y' := mX12_closeOwn) dX12_noteSent_39 lX12_501 kX12_closeOwn ⟨by decide, by decide⟩ rfl (Nat.le_of_ble_eq_true rfl) (rc_X12_closeOwn hG ok.1) (fun v_39 S_39 h_39 => ?_)
  obtain ⟨rfl, hS_39⟩ := h_39
  have hS_39 := hS_39.symm
  subst hS_39
  have ok := ok.2
  exact rX.cutz (b_noteSent_42 hG hR ok hx) trivial
def F_noteSent_31 (N : Nat) (rec : Int32 → Int32 → rS → Nat × Int32 × rS) (x1 : Int32) (x3 : Int32) (S : rS) : Nat × Int32 × rS := (rec x1 (x3 + nI 1) S)
def O_noteSent_31 (N : Nat) (rok : Int32 → Int32 → rS → Prop) (x1 : Int32) (x3 : Int32) (S : rS) : Prop := rok x1 (x3 + nI 1) S
set_option maxHeartbeats 4000000 in
theorem b_noteSent_31 {G : zG} {E : rE} {S : rS} {N : Nat} {Q : Option Value → rS → Prop} {X : Nat × Int32 × rS → Prop} (hG : zOK G) (hX0 : ∀ (x1 : Int32) (S' : rS), X (0, x1, S') → rX G E dX12_noteSent mX12_noteSent 37 [some (.ref E.1), some (.int x1), none, none] [] S' Q) {rec : Int32 → Int32 → rS → Nat × Int32 × rS} {rok : Int32 → Int32 → rS → Prop} (hrec : ∀ (x1 : Int32) (x3 : Int32) (S : rS), rok x1 x3 S → X (rec x1 x3 S) → rX G E dX12_noteSent mX12_noteSent 13 [some (.ref E.1), some (.int x1), none, some (.int x3)] [] S Q) {x1 : Int32} {x3 : Int32} (ok : O_noteSent_31 N rok x1 x3 S) (hx : X (F_noteSent_31 N rec x1 x3 S)) : rX G E dX12_noteSent mX12_noteSent 31 [some (.ref E.1), some (.int x1), none, some (.int x3)] [] S Q := by
  unfold O_noteSent_31 at ok
  unfold F_noteSent_31 at hx
  refine r_iinc_3 (v := (x3 + nI 1)) dX12_noteSent_31 rfl (by first | rfl | (congr 1)) (by decide) rfl ?_
  refine r_goto (tgt := 13) dX12_noteSent_34 (by decide) ?_
  exact rX.cutz (hrec _ _ S ok hx) ⟨rfl, rfl, rfl, trivial⟩
def B_noteSent_13 (N : Nat) (rec : Int32 → Int32 → rS → Nat × Int32 × rS) (x1 : Int32) (x3 : Int32) (S : rS) : Nat × Int32 × rS := (if (S.1 33) ≤ x3 then (0, x1, S) else (F_noteSent_31 N rec x1 x3 (f_noteByte N S (S.2.1 32 x3.toNatClampNeg))))
def OB_noteSent_13 (N : Nat) (rok : Int32 → Int32 → rS → Prop) (x1 : Int32) (x3 : Int32) (S : rS) : Prop := (((S.1 33) ≤ x3 → True) ∧ (¬ (S.1 33) ≤ x3 → (vp_in x3 1010) ∧ (o_noteByte N S (S.2.1 32 x3.toNatClampNeg)) ∧ O_noteSent_31 N rok x1 x3 (f_noteByte N S (S.2.1 32 x3.toNatClampNeg))))
set_option maxHeartbeats 4000000 in
theorem bb_noteSent_13 {G : zG} {E : rE} {S : rS} {N : Nat} {Q : Option Value → rS → Prop} {X : Nat × Int32 × rS → Prop} (hG : zOK G) (hX0 : ∀ (x1 : Int32) (S' : rS), X (0, x1, S') → rX G E dX12_noteSent mX12_noteSent 37 [some (.ref E.1), some (.int x1), none, none] [] S' Q) {rec : Int32 → Int32 → rS → Nat × Int32 × rS} {rok : Int32 → Int32 → rS → Prop} (hrec : ∀ (x1 : Int32) (x3 : Int32) (S : rS), rok x1 x3 S → X (rec x1 x3 S) → rX G E dX12_noteSent mX12_noteSent 13 [some (.ref E.1), some (.int x1), none, some (.int x3)] [] S Q) {x1 : Int32} {x3 : Int32} (ok : OB_noteSent_13 N rok x1 x3 S) (hx : X (B_noteSent_13 N rec x1 x3 S)) : rX G E dX12_noteSent mX12_noteSent 13 [some (.ref E.1), some (.int x1), none, some (.int x3)] [] S Q := by
  unfold OB_noteSent_13 at ok
  unfold B_noteSent_13 at hx
  refine r_iload_n dX12_noteSent_13 rfl rfl ?_
  refine r_aload_n dX12_noteSent_14 rfl rfl ?_
  refine r_getI 33 fX12_201 (by decide) (by decide) dX12_noteSent_15 ?_
  refine r_icmp_ge (tgt := 37) dX12_noteSent_18 (by decide) (fun c_18 => ?_) (fun c_18 => ?_)
  · have ok := ok.1 c_18
    have hx := xif_p c_18 hx
    exact rX.cutz (hX0 _ S hx) ⟨rfl, rfl, trivial⟩
  · have ok := ok.2 c_18
    have hx := xif_n c_18 hx
    refine r_aload_n dX12_noteSent_21 rfl rfl ?_
    refine r_aload_n dX12_noteSent_22 rfl rfl ?_
    refine r_getA 32 fX12_204 (by decide) (by decide) dX12_noteSent_23 ?_
    refine r_iload_n dX12_noteSent_26 rfl rfl ?_
    refine r_iald (by decide) (by decide) dX12_noteSent_27 ok.1 ?_
    have ok := ok.2
    refine r_V1v (y' := mX12_noteByte) dX12_noteSent_28 lX12_483 kX12_noteByte ⟨by decide, by decide⟩ rfl (Nat.le_of_ble_eq_true rfl) (rc_X12_noteByte hG ok.1) (fun S_28 h_28 => ?_)
    subst h_28
    have ok := ok.2
    exact rX.cutz (b_noteSent_31 hG hX0 hrec ok hx) ⟨rfl, rfl, rfl, trivial⟩
def L_noteSent_13 (N : Nat) : Nat → Int32 → Int32 → rS → Nat × Int32 × rS
  | 0, x1, x3, S => (0, 0, S)
  | n + 1, x1, x3, S => B_noteSent_13 N (L_noteSent_13 N n) x1 x3 S
def OL_noteSent_13 (N : Nat) : Nat → Int32 → Int32 → rS → Prop
  | 0, _, _, _ => False
  | n + 1, x1, x3, S => OB_noteSent_13 N (OL_noteSent_13 N n) x1 x3 S
set_option maxHeartbeats 4000000 in
theorem l_noteSent_13 {G : zG} {E : rE} {N : Nat} {Q : Option Value → rS → Prop} {X : Nat × Int32 × rS → Prop} (hG : zOK G) (hX0 : ∀ (x1 : Int32) (S' : rS), X (0, x1, S') → rX G E dX12_noteSent mX12_noteSent 37 [some (.ref E.1), some (.int x1), none, none] [] S' Q) : ∀ (n : Nat) (x1 : Int32) (x3 : Int32) (S : rS), OL_noteSent_13 N n x1 x3 S → X (L_noteSent_13 N n x1 x3 S) → rX G E dX12_noteSent mX12_noteSent 13 [some (.ref E.1), some (.int x1), none, some (.int x3)] [] S Q := by
  intro n
  induction n with
  | zero => intro x1 x3 S ok; exact absurd ok id
  | succ n ih =>
    intro x1 x3 S ok hx
    exact bb_noteSent_13 hG hX0 (rec := L_noteSent_13 N n) (rok := OL_noteSent_13 N n) (fun x1 x3 S ok hx => ih x1 x3 S ok hx) ok hx
def A_noteSent_13 (N : Nat) (x1 : Int32) (x3 : Int32) (S : rS) (z : Nat × Int32 × rS) : Int32 × rS := (F_noteSent_37 N (z.2.1) z.2.2)
def OA_noteSent_13 (N : Nat) (x1 : Int32) (x3 : Int32) (S : rS) (z : Nat × Int32 × rS) : Prop := O_noteSent_37 N (z.2.1) z.2.2
set_option maxHeartbeats 4000000 in
theorem c_noteSent_13 {G : zG} {E : rE} {S : rS} {N : Nat} {Q : Option Value → rS → Prop} {X : Int32 × rS → Prop} (hG : zOK G) (hR : ∀ v S', X (v, S') → Q (some (.int v)) S') {x1 : Int32} {x3 : Int32} (ok : OL_noteSent_13 N N x1 x3 S ∧ OA_noteSent_13 N x1 x3 S (L_noteSent_13 N N x1 x3 S)) (hx : X (A_noteSent_13 N x1 x3 S (L_noteSent_13 N N x1 x3 S))) : rX G E dX12_noteSent mX12_noteSent 13 [some (.ref E.1), some (.int x1), none, some (.int x3)] [] S Q := by
  refine l_noteSent_13 hG ?_ N x1 x3 S ok.1 (X := fun z => OA_noteSent_13 N x1 x3 S z ∧ X (A_noteSent_13 N x1 x3 S z)) ⟨ok.2, hx⟩
  · intro x1' S' hz
    obtain ⟨ok, hx⟩ := hz
    unfold OA_noteSent_13 at ok
    unfold A_noteSent_13 at hx
    exact rX.cutz (b_noteSent_37 hG hR ok hx) ⟨rfl, rfl, trivial⟩
def F_noteSent_11 (N : Nat) (x1 : Int32) (S : rS) : Int32 × rS := (A_noteSent_13 N x1 (nI 0) S (L_noteSent_13 N N x1 (nI 0) S))
def O_noteSent_11 (N : Nat) (x1 : Int32) (S : rS) : Prop := (OL_noteSent_13 N N x1 (nI 0) S ∧ OA_noteSent_13 N x1 (nI 0) S (L_noteSent_13 N N x1 (nI 0) S))
set_option maxHeartbeats 4000000 in
theorem b_noteSent_11 {G : zG} {E : rE} {S : rS} {N : Nat} {Q : Option Value → rS → Prop} {X : Int32 × rS → Prop} (hG : zOK G) (hR : ∀ v S', X (v, S') → Q (some (.int v)) S') {x1 : Int32} (ok : O_noteSent_11 N x1 S) (hx : X (F_noteSent_11 N x1 S)) : rX G E dX12_noteSent mX12_noteSent 11 [some (.ref E.1), some (.int x1), none, none] [] S Q := by
  unfold O_noteSent_11 at ok
  unfold F_noteSent_11 at hx
  refine r_iconst (v := nI 0) dX12_noteSent_11 (by decide) ?_
  refine r_istore_3 dX12_noteSent_12 (by decide) rfl ?_
  exact rX.cutz (c_noteSent_13 hG hR ok hx) ⟨rfl, rfl, rfl, trivial⟩
def F_noteSent_6 (N : Nat) (x1 : Int32) (x2 : Int32) (S : rS) : Int32 × rS := (F_noteSent_11 N x1 (f_noteByte N S x2))
def O_noteSent_6 (N : Nat) (x1 : Int32) (x2 : Int32) (S : rS) : Prop := (o_noteByte N S x2) ∧ O_noteSent_11 N x1 (f_noteByte N S x2)
set_option maxHeartbeats 4000000 in
theorem b_noteSent_6 {G : zG} {E : rE} {S : rS} {N : Nat} {Q : Option Value → rS → Prop} {X : Int32 × rS → Prop} (hG : zOK G) (hR : ∀ v S', X (v, S') → Q (some (.int v)) S') {x1 : Int32} {x2 : Int32} (ok : O_noteSent_6 N x1 x2 S) (hx : X (F_noteSent_6 N x1 x2 S)) : rX G E dX12_noteSent mX12_noteSent 6 [some (.ref E.1), some (.int x1), some (.int x2), none] [] S Q := by
  unfold O_noteSent_6 at ok
  unfold F_noteSent_6 at hx
  refine r_aload_n dX12_noteSent_6 rfl rfl ?_
  refine r_iload_n dX12_noteSent_7 rfl rfl ?_
  refine r_V1v (y' := mX12_noteByte) dX12_noteSent_8 lX12_483 kX12_noteByte ⟨by decide, by decide⟩ rfl (Nat.le_of_ble_eq_true rfl) (rc_X12_noteByte hG ok.1) (fun S_8 h_8 => ?_)
  subst h_8
  have ok := ok.2
  exact rX.cutz (b_noteSent_11 hG hR ok hx) ⟨rfl, rfl, trivial⟩
def F_noteSent_0 (N : Nat) (x1 : Int32) (x2 : Int32) (S : rS) : Int32 × rS := (F_noteSent_6 N x1 x2 (f_openOwn N S x1 (nI 3)))
def O_noteSent_0 (N : Nat) (x1 : Int32) (x2 : Int32) (S : rS) : Prop := (o_openOwn N S x1 (nI 3)) ∧ O_noteSent_6 N x1 x2 (f_openOwn N S x1 (nI 3))
set_option maxHeartbeats 4000000 in
theorem b_noteSent_0 {G : zG} {E : rE} {S : rS} {N : Nat} {Q : Option Value → rS → Prop} {X : Int32 × rS → Prop} (hG : zOK G) (hR : ∀ v S', X (v, S') → Q (some (.int v)) S') {x1 : Int32} {x2 : Int32} (ok : O_noteSent_0 N x1 x2 S) (hx : X (F_noteSent_0 N x1 x2 S)) : rX G E dX12_noteSent mX12_noteSent 0 [some (.ref E.1), some (.int x1), some (.int x2), none] [] S Q := by
  unfold O_noteSent_0 at ok
  unfold F_noteSent_0 at hx
  refine r_aload_n dX12_noteSent_0 rfl rfl ?_
  refine r_iload_n dX12_noteSent_1 rfl rfl ?_
  refine r_iconst (v := nI 3) dX12_noteSent_2 (by decide) ?_
  refine r_V2v (y' := mX12_openOwn) dX12_noteSent_3 lX12_498 kX12_openOwn ⟨by decide, by decide⟩ rfl (Nat.le_of_ble_eq_true rfl) (rc_X12_openOwn hG ok.1) (fun S_3 h_3 => ?_)
  subst h_3
  have ok := ok.2
  exact rX.cutz (b_noteSent_6 hG hR ok hx) ⟨rfl, rfl, rfl, trivial⟩
def f_noteSent (N : Nat) (S : rS) (x1 : Int32) (x2 : Int32) : Int32 × rS := F_noteSent_0 N x1 x2 S
def o_noteSent (N : Nat) (S : rS) (x1 : Int32) (x2 : Int32) : Prop := O_noteSent_0 N x1 x2 S
set_option maxHeartbeats 4000000 in
theorem rc_X12_noteSent {G : zG} {E : rE} {S : rS} {N : Nat} (hG : zOK G) {x1 : Int32} {x2 : Int32} (ok : o_noteSent N S x1 x2) : rCi G E dX12_noteSent mX12_noteSent [.ref E.1, .int x1, .int x2] S (fun v S' => v = (f_noteSent N S x1 x2).1 ∧ S' = (f_noteSent N S x1 x2).2) := by
  refine rC.ofX rfl (Nat.le_of_ble_eq_true rfl) ?_
  show rX G E dX12_noteSent mX12_noteSent 0 [some (.ref E.1), some (.int x1), some (.int x2), none] [] S _
  exact rX.cutz (b_noteSent_0 (X := fun F => F = f_noteSent N S x1 x2) hG (fun v S' h => ⟨v, rfl, by rw [← h], by rw [← h]⟩) ok rfl) ⟨rfl, rfl, rfl, trivial⟩
/-! noteLock -/
def F_noteLock_26 (N : Nat) (s0 : Int32) (S : rS) : Int32 × rS := (s0, S)
def O_noteLock_26 (N : Nat) (s0 : Int32) (S : rS) : Prop := narrow .boolean (.int s0) = .int s0
set_option maxHeartbeats 4000000 in
theorem b_noteLock_26 {G : zG} {E : rE} {S : rS} {N : Nat} {Q : Option Value → rS → Prop} {X : Int32 × rS → Prop} (hG : zOK G) (hR : ∀ v S', X (v, S') → Q (some (.int v)) S') {s0 : Int32} (ok : O_noteLock_26 N s0 S) (hx : X (F_noteLock_26 N s0 S)) : rX G E dX12_noteLock mX12_noteLock 26 [none, none, none, none] [.int s0] S Q := by
  unfold O_noteLock_26 at ok
  unfold F_noteLock_26 at hx
  exact r_ireturn rfl ok dX12_noteLock_26 (hR _ _ hx)
def F_noteLock_21 (N : Nat) (x1 : Int32) (S : rS) : Int32 × rS := (F_noteLock_26 N ((f_closeOwn N S x1).1) (f_closeOwn N S x1).2)
def O_noteLock_21 (N : Nat) (x1 : Int32) (S : rS) : Prop := (o_closeOwn N S x1) ∧ O_noteLock_26 N ((f_closeOwn N S x1).1) (f_closeOwn N S x1).2
set_option maxHeartbeats 4000000 in
theorem b_noteLock_21 {G : zG} {E : rE} {S : rS} {N : Nat} {Q : Option Value → rS → Prop} {X : Int32 × rS → Prop} (hG : zOK G) (hR : ∀ v S', X (v, S') → Q (some (.int v)) S') {x1 : Int32} (ok : O_noteLock_21 N x1 S) (hx : X (F_noteLock_21 N x1 S)) : rX G E dX12_noteLock mX12_noteLock 21 [some (.ref E.1), some (.int x1), none, none] [] S Q := by
  unfold O_noteLock_21 at ok
  unfold F_noteLock_21 at hx
  refine r_aload_n dX12_noteLock_21 rfl rfl ?_
  refine r_iload_n dX12_noteLock_22 rfl rfl ?_
  refine r_V1i (y' := mX12_closeOwn) dX12_noteLock_23 lX12_501 kX12_closeOwn ⟨by decide, by decide⟩ rfl (Nat.le_of_ble_eq_true rfl) (rc_X12_closeOwn hG ok.1) (fun v_23 S_23 h_23 => ?_)
  obtain ⟨rfl, hS_23⟩ := h_23
  have hS_23 := hS_23.symm
  subst hS_23
  have ok := ok.2
  exact rX.cutz (b_noteLock_26 hG hR ok hx) trivial
def F_noteLock_16 (N : Nat) (x1 : Int32) (x3 : Int32) (S : rS) : Int32 × rS := (F_noteLock_21 N x1 (f_noteBlock N S x3))
def O_noteLock_16 (N : Nat) (x1 : Int32) (x3 : Int32) (S : rS) : Prop := (o_noteBlock N S x3) ∧ O_noteLock_21 N x1 (f_noteBlock N S x3)
set_option maxHeartbeats 4000000 in
theorem b_noteLock_16 {G : zG} {E : rE} {S : rS} {N : Nat} {Q : Option Value → rS → Prop} {X : Int32 × rS → Prop} (hG : zOK G) (hR : ∀ v S', X (v, S') → Q (some (.int v)) S') {x1 : Int32} {x3 : Int32} (ok : O_noteLock_16 N x1 x3 S) (hx : X (F_noteLock_16 N x1 x3 S)) : rX G E dX12_noteLock mX12_noteLock 16 [some (.ref E.1), some (.int x1), none, some (.int x3)] [] S Q := by
  unfold O_noteLock_16 at ok
  unfold F_noteLock_16 at hx
  refine r_aload_n dX12_noteLock_16 rfl rfl ?_
  refine r_iload_n dX12_noteLock_17 rfl rfl ?_
  refine r_V1v (y' := mX12_noteBlock) dX12_noteLock_18 lX12_504 kX12_noteBlock ⟨by decide, by decide⟩ rfl (Nat.le_of_ble_eq_true rfl) (rc_X12_noteBlock hG ok.1) (fun S_18 h_18 => ?_)
  subst h_18
  have ok := ok.2
  exact rX.cutz (b_noteLock_21 hG hR ok hx) ⟨rfl, rfl, trivial⟩
def F_noteLock_6 (N : Nat) (x1 : Int32) (x3 : Int32) (S : rS) : Int32 × rS := (F_noteLock_16 N x1 x3 (f_noteByte N S (S.2.1 45 x1.toNatClampNeg)))
def O_noteLock_6 (N : Nat) (x1 : Int32) (x3 : Int32) (S : rS) : Prop := (vp_in x1 13) ∧ (o_noteByte N S (S.2.1 45 x1.toNatClampNeg)) ∧ O_noteLock_16 N x1 x3 (f_noteByte N S (S.2.1 45 x1.toNatClampNeg))
set_option maxHeartbeats 4000000 in
theorem b_noteLock_6 {G : zG} {E : rE} {S : rS} {N : Nat} {Q : Option Value → rS → Prop} {X : Int32 × rS → Prop} (hG : zOK G) (hR : ∀ v S', X (v, S') → Q (some (.int v)) S') {x1 : Int32} {x3 : Int32} (ok : O_noteLock_6 N x1 x3 S) (hx : X (F_noteLock_6 N x1 x3 S)) : rX G E dX12_noteLock mX12_noteLock 6 [some (.ref E.1), some (.int x1), none, some (.int x3)] [] S Q := by
  unfold O_noteLock_6 at ok
  unfold F_noteLock_6 at hx
  refine r_aload_n dX12_noteLock_6 rfl rfl ?_
  refine r_aload_n dX12_noteLock_7 rfl rfl ?_
  refine r_getA 45 fX12_312 (by decide) (by decide) dX12_noteLock_8 ?_
  refine r_iload_n dX12_noteLock_11 rfl rfl ?_
  refine r_iald (by decide) (by decide) dX12_noteLock_12 ok.1 ?_
  have ok := ok.2
  refine r_V1v (y' := mX12_noteByte) dX12_noteLock_13 lX12_483 kX12_noteByte ⟨by decide, by decide⟩ rfl (Nat.le_of_ble_eq_true rfl) (rc_X12_noteByte hG ok.1) (fun S_13 h_13 => ?_)
  subst h_13
  have ok := ok.2
  exact rX.cutz (b_noteLock_16 hG hR ok hx) ⟨rfl, rfl, rfl, trivial⟩
def F_noteLock_0 (N : Nat) (x1 : Int32) (x2 : Int32) (x3 : Int32) (S : rS) : Int32 × rS := (F_noteLock_6 N x1 x3 (f_openOwn N S x1 x2))
def O_noteLock_0 (N : Nat) (x1 : Int32) (x2 : Int32) (x3 : Int32) (S : rS) : Prop := (o_openOwn N S x1 x2) ∧ O_noteLock_6 N x1 x3 (f_openOwn N S x1 x2)
set_option maxHeartbeats 4000000 in
theorem b_noteLock_0 {G : zG} {E : rE} {S : rS} {N : Nat} {Q : Option Value → rS → Prop} {X : Int32 × rS → Prop} (hG : zOK G) (hR : ∀ v S', X (v, S') → Q (some (.int v)) S') {x1 : Int32} {x2 : Int32} {x3 : Int32} (ok : O_noteLock_0 N x1 x2 x3 S) (hx : X (F_noteLock_0 N x1 x2 x3 S)) : rX G E dX12_noteLock mX12_noteLock 0 [some (.ref E.1), some (.int x1), some (.int x2), some (.int x3)] [] S Q := by
  unfold O_noteLock_0 at ok
  unfold F_noteLock_0 at hx
  refine r_aload_n dX12_noteLock_0 rfl rfl ?_
  refine r_iload_n dX12_noteLock_1 rfl rfl ?_
  refine r_iload_n dX12_noteLock_2 rfl rfl ?_
  refine r_V2v (y' := mX12_openOwn) dX12_noteLock_3 lX12_498 kX12_openOwn ⟨by decide, by decide⟩ rfl (Nat.le_of_ble_eq_true rfl) (rc_X12_openOwn hG ok.1) (fun S_3 h_3 => ?_)
  subst h_3
  have ok := ok.2
  exact rX.cutz (b_noteLock_6 hG hR ok hx) ⟨rfl, rfl, rfl, trivial⟩
def f_noteLock (N : Nat) (S : rS) (x1 : Int32) (x2 : Int32) (x3 : Int32) : Int32 × rS := F_noteLock_0 N x1 x2 x3 S
def o_noteLock (N : Nat) (S : rS) (x1 : Int32) (x2 : Int32) (x3 : Int32) : Prop := O_noteLock_0 N x1 x2 x3 S
set_option maxHeartbeats 4000000 in
theorem rc_X12_noteLock {G : zG} {E : rE} {S : rS} {N : Nat} (hG : zOK G) {x1 : Int32} {x2 : Int32} {x3 : Int32} (ok : o_noteLock N S x1 x2 x3) : rCi G E dX12_noteLock mX12_noteLock [.ref E.1, .int x1, .int x2, .int x3] S (fun v S' => v = (f_noteLock N S x1 x2 x3).1 ∧ S' = (f_noteLock N S x1 x2 x3).2) := by
  refine rC.ofX rfl (Nat.le_of_ble_eq_true rfl) ?_
  show rX G E dX12_noteLock mX12_noteLock 0 [some (.ref E.1), some (.int x1), some (.int x2), some (.int x3)] [] S _
  exact rX.cutz (b_noteLock_0 (X := fun F => F = f_noteLock N S x1 x2 x3) hG (fun v S' h => ⟨v, rfl, by rw [← h], by rw [← h]⟩) ok rfl) ⟨rfl, rfl, rfl, rfl, trivial⟩
/-! noteChain -/
def F_noteChain_32 (N : Nat) (s0 : Int32) (S : rS) : Int32 × rS := (s0, S)
def O_noteChain_32 (N : Nat) (s0 : Int32) (S : rS) : Prop := narrow .boolean (.int s0) = .int s0
set_option maxHeartbeats 4000000 in
theorem b_noteChain_32 {G : zG} {E : rE} {S : rS} {N : Nat} {Q : Option Value → rS → Prop} {X : Int32 × rS → Prop} (hG : zOK G) (hR : ∀ v S', X (v, S') → Q (some (.int v)) S') {s0 : Int32} (ok : O_noteChain_32 N s0 S) (hx : X (F_noteChain_32 N s0 S)) : rX G E dX12_noteChain mX12_noteChain 32 [none, none, none] [.int s0] S Q := by
  unfold O_noteChain_32 at ok
  unfold F_noteChain_32 at hx
  exact r_ireturn rfl ok dX12_noteChain_32 (hR _ _ hx)
def F_noteChain_17 (N : Nat) (x1 : Int32) (S : rS) : Int32 × rS := (F_noteChain_32 N ((f_closeNote N S x1 (((nI 2) * (S.2.1 44 x1.toNatClampNeg)) - (nI 2))).1) (f_closeNote N S x1 (((nI 2) * (S.2.1 44 x1.toNatClampNeg)) - (nI 2))).2)
def O_noteChain_17 (N : Nat) (x1 : Int32) (S : rS) : Prop := (vp_in x1 13) ∧ (o_closeNote N S x1 (((nI 2) * (S.2.1 44 x1.toNatClampNeg)) - (nI 2))) ∧ O_noteChain_32 N ((f_closeNote N S x1 (((nI 2) * (S.2.1 44 x1.toNatClampNeg)) - (nI 2))).1) (f_closeNote N S x1 (((nI 2) * (S.2.1 44 x1.toNatClampNeg)) - (nI 2))).2
set_option maxHeartbeats 4000000 in
theorem b_noteChain_17 {G : zG} {E : rE} {S : rS} {N : Nat} {Q : Option Value → rS → Prop} {X : Int32 × rS → Prop} (hG : zOK G) (hR : ∀ v S', X (v, S') → Q (some (.int v)) S') {x1 : Int32} (ok : O_noteChain_17 N x1 S) (hx : X (F_noteChain_17 N x1 S)) : rX G E dX12_noteChain mX12_noteChain 17 [some (.ref E.1), some (.int x1), none] [] S Q := by
  unfold O_noteChain_17 at ok
  unfold F_noteChain_17 at hx
  refine r_aload_n dX12_noteChain_17 rfl rfl ?_
  refine r_iload_n dX12_noteChain_18 rfl rfl ?_
  refine r_iconst (v := nI 2) dX12_noteChain_19 (by decide) ?_
  refine r_aload_n dX12_noteChain_20 rfl rfl ?_
  refine r_getA 44 fX12_309 (by decide) (by decide) dX12_noteChain_21 ?_
  refine r_iload_n dX12_noteChain_24 rfl rfl ?_
  refine r_iald (by decide) (by decide) dX12_noteChain_25 ok.1 ?_
  have ok := ok.2
  refine r_imul dX12_noteChain_26 ?_
  refine r_iconst (v := nI 2) dX12_noteChain_27 (by decide) ?_
  refine r_isub dX12_noteChain_28 ?_
  refine r_V2i (y' := mX12_closeNote) dX12_noteChain_29 lX12_495 kX12_closeNote ⟨by decide, by decide⟩ rfl (Nat.le_of_ble_eq_true rfl) (rc_X12_closeNote hG ok.1) (fun v_29 S_29 h_29 => ?_)
  obtain ⟨rfl, hS_29⟩ := h_29
  have hS_29 := hS_29.symm
  subst hS_29
  have ok := ok.2
  exact rX.cutz (b_noteChain_32 hG hR ok hx) trivial
def F_noteChain_12 (N : Nat) (x1 : Int32) (x2 : Int32) (S : rS) : Int32 × rS := (F_noteChain_17 N x1 (f_noteBlock N S x2))
def O_noteChain_12 (N : Nat) (x1 : Int32) (x2 : Int32) (S : rS) : Prop := (o_noteBlock N S x2) ∧ O_noteChain_17 N x1 (f_noteBlock N S x2)
set_option maxHeartbeats 4000000 in
theorem b_noteChain_12 {G : zG} {E : rE} {S : rS} {N : Nat} {Q : Option Value → rS → Prop} {X : Int32 × rS → Prop} (hG : zOK G) (hR : ∀ v S', X (v, S') → Q (some (.int v)) S') {x1 : Int32} {x2 : Int32} (ok : O_noteChain_12 N x1 x2 S) (hx : X (F_noteChain_12 N x1 x2 S)) : rX G E dX12_noteChain mX12_noteChain 12 [some (.ref E.1), some (.int x1), some (.int x2)] [] S Q := by
  unfold O_noteChain_12 at ok
  unfold F_noteChain_12 at hx
  refine r_aload_n dX12_noteChain_12 rfl rfl ?_
  refine r_iload_n dX12_noteChain_13 rfl rfl ?_
  refine r_V1v (y' := mX12_noteBlock) dX12_noteChain_14 lX12_504 kX12_noteBlock ⟨by decide, by decide⟩ rfl (Nat.le_of_ble_eq_true rfl) (rc_X12_noteBlock hG ok.1) (fun S_14 h_14 => ?_)
  subst h_14
  have ok := ok.2
  exact rX.cutz (b_noteChain_17 hG hR ok hx) ⟨rfl, rfl, trivial⟩
def F_noteChain_0 (N : Nat) (x1 : Int32) (x2 : Int32) (S : rS) : Int32 × rS := (F_noteChain_12 N x1 x2 (f_openNote N S (nI 1) (S.2.1 44 x1.toNatClampNeg) (nI 0)))
def O_noteChain_0 (N : Nat) (x1 : Int32) (x2 : Int32) (S : rS) : Prop := (vp_in x1 13) ∧ (o_openNote N S (nI 1) (S.2.1 44 x1.toNatClampNeg) (nI 0)) ∧ O_noteChain_12 N x1 x2 (f_openNote N S (nI 1) (S.2.1 44 x1.toNatClampNeg) (nI 0))
set_option maxHeartbeats 4000000 in
theorem b_noteChain_0 {G : zG} {E : rE} {S : rS} {N : Nat} {Q : Option Value → rS → Prop} {X : Int32 × rS → Prop} (hG : zOK G) (hR : ∀ v S', X (v, S') → Q (some (.int v)) S') {x1 : Int32} {x2 : Int32} (ok : O_noteChain_0 N x1 x2 S) (hx : X (F_noteChain_0 N x1 x2 S)) : rX G E dX12_noteChain mX12_noteChain 0 [some (.ref E.1), some (.int x1), some (.int x2)] [] S Q := by
  unfold O_noteChain_0 at ok
  unfold F_noteChain_0 at hx
  refine r_aload_n dX12_noteChain_0 rfl rfl ?_
  refine r_iconst (v := nI 1) dX12_noteChain_1 (by decide) ?_
  refine r_aload_n dX12_noteChain_2 rfl rfl ?_
  refine r_getA 44 fX12_309 (by decide) (by decide) dX12_noteChain_3 ?_
  refine r_iload_n dX12_noteChain_6 rfl rfl ?_
  refine r_iald (by decide) (by decide) dX12_noteChain_7 ok.1 ?_
  have ok := ok.2
  refine r_iconst (v := nI 0) dX12_noteChain_8 (by decide) ?_
  refine r_V3v (y' := mX12_openNote) dX12_noteChain_9 lX12_492 kX12_openNote ⟨by decide, by decide⟩ rfl (Nat.le_of_ble_eq_true rfl) (rc_X12_openNote hG ok.1) (fun S_9 h_9 => ?_)
  subst h_9
  have ok := ok.2
  exact rX.cutz (b_noteChain_12 hG hR ok hx) ⟨rfl, rfl, rfl, trivial⟩
def f_noteChain (N : Nat) (S : rS) (x1 : Int32) (x2 : Int32) : Int32 × rS := F_noteChain_0 N x1 x2 S
def o_noteChain (N : Nat) (S : rS) (x1 : Int32) (x2 : Int32) : Prop := O_noteChain_0 N x1 x2 S
set_option maxHeartbeats 4000000 in
theorem rc_X12_noteChain {G : zG} {E : rE} {S : rS} {N : Nat} (hG : zOK G) {x1 : Int32} {x2 : Int32} (ok : o_noteChain N S x1 x2) : rCi G E dX12_noteChain mX12_noteChain [.ref E.1, .int x1, .int x2] S (fun v S' => v = (f_noteChain N S x1 x2).1 ∧ S' = (f_noteChain N S x1 x2).2) := by
  refine rC.ofX rfl (Nat.le_of_ble_eq_true rfl) ?_
  show rX G E dX12_noteChain mX12_noteChain 0 [some (.ref E.1), some (.int x1), some (.int x2)] [] S _
  exact rX.cutz (b_noteChain_0 (X := fun F => F = f_noteChain N S x1 x2) hG (fun v S' h => ⟨v, rfl, by rw [← h], by rw [← h]⟩) ok rfl) ⟨rfl, rfl, rfl, trivial⟩
/-! noteSnap -/
def F_noteSnap_70 (N : Nat) (x1 : Int32) (x3 : Int32) (s0 : Int32) (S : rS) : Int32 × rS := (if s0 = 0 then ((nI 0), S) else ((nI 1), (rsA S 79 x1.toNatClampNeg x3)))
def O_noteSnap_70 (N : Nat) (x1 : Int32) (x3 : Int32) (s0 : Int32) (S : rS) : Prop := ((s0 = 0 → True) ∧ (¬ s0 = 0 → (vp_in x1 13) ∧ True))
set_option maxHeartbeats 4000000 in
theorem b_noteSnap_70 {G : zG} {E : rE} {S : rS} {N : Nat} {Q : Option Value → rS → Prop} {X : Int32 × rS → Prop} (hG : zOK G) (hR : ∀ v S', X (v, S') → Q (some (.int v)) S') {x1 : Int32} {x3 : Int32} {s0 : Int32} (ok : O_noteSnap_70 N x1 x3 s0 S) (hx : X (F_noteSnap_70 N x1 x3 s0 S)) : rX G E dX12_noteSnap mX12_noteSnap 70 [some (.ref E.1), some (.int x1), none, some (.int x3)] [.int s0] S Q := by
  unfold O_noteSnap_70 at ok
  unfold F_noteSnap_70 at hx
  refine r_if_ne (tgt := 75) dX12_noteSnap_70 (by decide) (fun c_70 => ?_) (fun c_70 => ?_)
  · have ok := ok.2 c_70
    have hx := xif_n c_70 hx
    refine r_aload_n dX12_noteSnap_75 rfl rfl ?_
    refine r_getA 79 fX12_412 (by decide) (by decide) dX12_noteSnap_76 ?_
    refine r_iload_n dX12_noteSnap_79 rfl rfl ?_
    refine r_iload_n dX12_noteSnap_80 rfl rfl ?_
    refine r_iast hG (by decide) (by decide) dX12_noteSnap_81 ok.1 ?_
    have ok := ok.2
    refine r_iconst (v := nI 1) dX12_noteSnap_82 (by decide) ?_
    exact r_ireturn rfl rfl dX12_noteSnap_83 (hR _ _ hx)
  · have ok := ok.1 c_70
    have hx := xif_p c_70 hx
    refine r_iconst (v := nI 0) dX12_noteSnap_73 (by decide) ?_
    exact r_ireturn rfl rfl dX12_noteSnap_74 (hR _ _ hx)
def F_noteSnap_63 (N : Nat) (x1 : Int32) (s0 : Int32) (S : rS) : Int32 × rS := (F_noteSnap_70 N x1 s0 ((f_closeNote N S x1 s0).1) (f_closeNote N S x1 s0).2)
def O_noteSnap_63 (N : Nat) (x1 : Int32) (s0 : Int32) (S : rS) : Prop := (o_closeNote N S x1 s0) ∧ O_noteSnap_70 N x1 s0 ((f_closeNote N S x1 s0).1) (f_closeNote N S x1 s0).2
set_option maxHeartbeats 4000000 in
theorem b_noteSnap_63 {G : zG} {E : rE} {S : rS} {N : Nat} {Q : Option Value → rS → Prop} {X : Int32 × rS → Prop} (hG : zOK G) (hR : ∀ v S', X (v, S') → Q (some (.int v)) S') {x1 : Int32} {s0 : Int32} (ok : O_noteSnap_63 N x1 s0 S) (hx : X (F_noteSnap_63 N x1 s0 S)) : rX G E dX12_noteSnap mX12_noteSnap 63 [some (.ref E.1), some (.int x1), none, none] [.int s0] S Q := by
  unfold O_noteSnap_63 at ok
  unfold F_noteSnap_63 at hx
  refine r_istore_3 dX12_noteSnap_63 (by decide) rfl ?_
  refine r_aload_n dX12_noteSnap_64 rfl rfl ?_
  refine r_iload_n dX12_noteSnap_65 rfl rfl ?_
  refine r_iload_n dX12_noteSnap_66 rfl rfl ?_
  refine r_V2i (y' := mX12_closeNote) dX12_noteSnap_67 lX12_495 kX12_closeNote ⟨by decide, by decide⟩ rfl (Nat.le_of_ble_eq_true rfl) (rc_X12_closeNote hG ok.1) (fun v_67 S_67 h_67 => ?_)
  obtain ⟨rfl, hS_67⟩ := h_67
  have hS_67 := hS_67.symm
  subst hS_67
  have ok := ok.2
  exact rX.cutz (b_noteSnap_70 hG hR ok hx) ⟨rfl, rfl, rfl, trivial⟩
def F_noteSnap_42 (N : Nat) (x1 : Int32) (S : rS) : Int32 × rS := (if (S.2.1 79 x1.toNatClampNeg) = (nI 280) then (F_noteSnap_63 N x1 (nI 282) S) else (F_noteSnap_63 N x1 (nI 280) S))
def O_noteSnap_42 (N : Nat) (x1 : Int32) (S : rS) : Prop := (vp_in x1 13) ∧ (((S.2.1 79 x1.toNatClampNeg) = (nI 280) → O_noteSnap_63 N x1 (nI 282) S) ∧ (¬ (S.2.1 79 x1.toNatClampNeg) = (nI 280) → O_noteSnap_63 N x1 (nI 280) S))
set_option maxHeartbeats 4000000 in
theorem b_noteSnap_42 {G : zG} {E : rE} {S : rS} {N : Nat} {Q : Option Value → rS → Prop} {X : Int32 × rS → Prop} (hG : zOK G) (hR : ∀ v S', X (v, S') → Q (some (.int v)) S') {x1 : Int32} (ok : O_noteSnap_42 N x1 S) (hx : X (F_noteSnap_42 N x1 S)) : rX G E dX12_noteSnap mX12_noteSnap 42 [some (.ref E.1), some (.int x1), none, none] [] S Q := by
  unfold O_noteSnap_42 at ok
  unfold F_noteSnap_42 at hx
  refine r_aload_n dX12_noteSnap_42 rfl rfl ?_
  refine r_getA 79 fX12_412 (by decide) (by decide) dX12_noteSnap_43 ?_
  refine r_iload_n dX12_noteSnap_46 rfl rfl ?_
  refine r_iald (by decide) (by decide) dX12_noteSnap_47 ok.1 ?_
  have ok := ok.2
  refine r_sipush (v := nI 280) dX12_noteSnap_48 (by decide) ?_
  refine r_icmp_ne (tgt := 60) dX12_noteSnap_51 (by decide) (fun c_51 => ?_) (fun c_51 => ?_)
  · have ok := ok.2 c_51
    have hx := xif_n c_51 hx
    refine r_sipush (v := nI 280) dX12_noteSnap_60 (by decide) ?_
    exact rX.cutz (b_noteSnap_63 hG hR ok hx) ⟨rfl, rfl, trivial⟩
  · have ok := ok.1 c_51
    have hx := xif_p c_51 hx
    refine r_sipush (v := nI 282) dX12_noteSnap_54 (by decide) ?_
    refine r_goto (tgt := 63) dX12_noteSnap_57 (by decide) ?_
    exact rX.cutz (b_noteSnap_63 hG hR ok hx) ⟨rfl, rfl, trivial⟩
def F_noteSnap_36 (N : Nat) (rec : Int32 → Int32 → Int32 → rS → Nat × Int32 × rS) (x1 : Int32) (x2 : Int32) (x3 : Int32) (S : rS) : Nat × Int32 × rS := (rec x1 x2 (x3 + nI 1) S)
def O_noteSnap_36 (N : Nat) (rok : Int32 → Int32 → Int32 → rS → Prop) (x1 : Int32) (x2 : Int32) (x3 : Int32) (S : rS) : Prop := rok x1 x2 (x3 + nI 1) S
set_option maxHeartbeats 4000000 in
theorem b_noteSnap_36 {G : zG} {E : rE} {S : rS} {N : Nat} {Q : Option Value → rS → Prop} {X : Nat × Int32 × rS → Prop} (hG : zOK G) (hX0 : ∀ (x1 : Int32) (S' : rS), X (0, x1, S') → rX G E dX12_noteSnap mX12_noteSnap 42 [some (.ref E.1), some (.int x1), none, none] [] S' Q) {rec : Int32 → Int32 → Int32 → rS → Nat × Int32 × rS} {rok : Int32 → Int32 → Int32 → rS → Prop} (hrec : ∀ (x1 : Int32) (x2 : Int32) (x3 : Int32) (S : rS), rok x1 x2 x3 S → X (rec x1 x2 x3 S) → rX G E dX12_noteSnap mX12_noteSnap 15 [some (.ref E.1), some (.int x1), some (.int x2), some (.int x3)] [] S Q) {x1 : Int32} {x2 : Int32} {x3 : Int32} (ok : O_noteSnap_36 N rok x1 x2 x3 S) (hx : X (F_noteSnap_36 N rec x1 x2 x3 S)) : rX G E dX12_noteSnap mX12_noteSnap 36 [some (.ref E.1), some (.int x1), some (.int x2), some (.int x3)] [] S Q := by
  unfold O_noteSnap_36 at ok
  unfold F_noteSnap_36 at hx
  refine r_iinc_3 (v := (x3 + nI 1)) dX12_noteSnap_36 rfl (by first | rfl | (congr 1)) (by decide) rfl ?_
  refine r_goto (tgt := 15) dX12_noteSnap_39 (by decide) ?_
  exact rX.cutz (hrec _ _ _ S ok hx) ⟨rfl, rfl, rfl, rfl, trivial⟩
def B_noteSnap_15 (N : Nat) (rec : Int32 → Int32 → Int32 → rS → Nat × Int32 × rS) (x1 : Int32) (x2 : Int32) (x3 : Int32) (S : rS) : Nat × Int32 × rS := (if (nI 115) ≤ x3 then (0, x1, S) else (F_noteSnap_36 N rec x1 x2 x3 (f_noteByte N S (S.2.1 58 (((nI 115) * x2) + x3).toNatClampNeg))))
def OB_noteSnap_15 (N : Nat) (rok : Int32 → Int32 → Int32 → rS → Prop) (x1 : Int32) (x2 : Int32) (x3 : Int32) (S : rS) : Prop := (((nI 115) ≤ x3 → True) ∧ (¬ (nI 115) ≤ x3 → (vp_in (((nI 115) * x2) + x3) 19440) ∧ (o_noteByte N S (S.2.1 58 (((nI 115) * x2) + x3).toNatClampNeg)) ∧ O_noteSnap_36 N rok x1 x2 x3 (f_noteByte N S (S.2.1 58 (((nI 115) * x2) + x3).toNatClampNeg))))
set_option maxHeartbeats 4000000 in
theorem bb_noteSnap_15 {G : zG} {E : rE} {S : rS} {N : Nat} {Q : Option Value → rS → Prop} {X : Nat × Int32 × rS → Prop} (hG : zOK G) (hX0 : ∀ (x1 : Int32) (S' : rS), X (0, x1, S') → rX G E dX12_noteSnap mX12_noteSnap 42 [some (.ref E.1), some (.int x1), none, none] [] S' Q) {rec : Int32 → Int32 → Int32 → rS → Nat × Int32 × rS} {rok : Int32 → Int32 → Int32 → rS → Prop} (hrec : ∀ (x1 : Int32) (x2 : Int32) (x3 : Int32) (S : rS), rok x1 x2 x3 S → X (rec x1 x2 x3 S) → rX G E dX12_noteSnap mX12_noteSnap 15 [some (.ref E.1), some (.int x1), some (.int x2), some (.int x3)] [] S Q) {x1 : Int32} {x2 : Int32} {x3 : Int32} (ok : OB_noteSnap_15 N rok x1 x2 x3 S) (hx : X (B_noteSnap_15 N rec x1 x2 x3 S)) : rX G E dX12_noteSnap mX12_noteSnap 15 [some (.ref E.1), some (.int x1), some (.int x2), some (.int x3)] [] S Q := by
  unfold OB_noteSnap_15 at ok
  unfold B_noteSnap_15 at hx
  refine r_iload_n dX12_noteSnap_15 rfl rfl ?_
  refine r_bipush (v := nI 115) dX12_noteSnap_16 (by decide) ?_
  refine r_icmp_ge (tgt := 42) dX12_noteSnap_18 (by decide) (fun c_18 => ?_) (fun c_18 => ?_)
  · have ok := ok.1 c_18
    have hx := xif_p c_18 hx
    exact rX.cutz (hX0 _ S hx) ⟨rfl, rfl, trivial⟩
  · have ok := ok.2 c_18
    have hx := xif_n c_18 hx
    refine r_aload_n dX12_noteSnap_21 rfl rfl ?_
    refine r_aload_n dX12_noteSnap_22 rfl rfl ?_
    refine r_getA 58 fX12_351 (by decide) (by decide) dX12_noteSnap_23 ?_
    refine r_bipush (v := nI 115) dX12_noteSnap_26 (by decide) ?_
    refine r_iload_n dX12_noteSnap_28 rfl rfl ?_
    refine r_imul dX12_noteSnap_29 ?_
    refine r_iload_n dX12_noteSnap_30 rfl rfl ?_
    refine r_iadd dX12_noteSnap_31 ?_
    refine r_iald (by decide) (by decide) dX12_noteSnap_32 ok.1 ?_
    have ok := ok.2
    refine r_V1v (y' := mX12_noteByte) dX12_noteSnap_33 lX12_483 kX12_noteByte ⟨by decide, by decide⟩ rfl (Nat.le_of_ble_eq_true rfl) (rc_X12_noteByte hG ok.1) (fun S_33 h_33 => ?_)
    subst h_33
    have ok := ok.2
    exact rX.cutz (b_noteSnap_36 hG hX0 hrec ok hx) ⟨rfl, rfl, rfl, rfl, trivial⟩
def L_noteSnap_15 (N : Nat) : Nat → Int32 → Int32 → Int32 → rS → Nat × Int32 × rS
  | 0, x1, x2, x3, S => (0, 0, S)
  | n + 1, x1, x2, x3, S => B_noteSnap_15 N (L_noteSnap_15 N n) x1 x2 x3 S
def OL_noteSnap_15 (N : Nat) : Nat → Int32 → Int32 → Int32 → rS → Prop
  | 0, _, _, _, _ => False
  | n + 1, x1, x2, x3, S => OB_noteSnap_15 N (OL_noteSnap_15 N n) x1 x2 x3 S
set_option maxHeartbeats 4000000 in
theorem l_noteSnap_15 {G : zG} {E : rE} {N : Nat} {Q : Option Value → rS → Prop} {X : Nat × Int32 × rS → Prop} (hG : zOK G) (hX0 : ∀ (x1 : Int32) (S' : rS), X (0, x1, S') → rX G E dX12_noteSnap mX12_noteSnap 42 [some (.ref E.1), some (.int x1), none, none] [] S' Q) : ∀ (n : Nat) (x1 : Int32) (x2 : Int32) (x3 : Int32) (S : rS), OL_noteSnap_15 N n x1 x2 x3 S → X (L_noteSnap_15 N n x1 x2 x3 S) → rX G E dX12_noteSnap mX12_noteSnap 15 [some (.ref E.1), some (.int x1), some (.int x2), some (.int x3)] [] S Q := by
  intro n
  induction n with
  | zero => intro x1 x2 x3 S ok; exact absurd ok id
  | succ n ih =>
    intro x1 x2 x3 S ok hx
    exact bb_noteSnap_15 hG hX0 (rec := L_noteSnap_15 N n) (rok := OL_noteSnap_15 N n) (fun x1 x2 x3 S ok hx => ih x1 x2 x3 S ok hx) ok hx
def A_noteSnap_15 (N : Nat) (x1 : Int32) (x2 : Int32) (x3 : Int32) (S : rS) (z : Nat × Int32 × rS) : Int32 × rS := (F_noteSnap_42 N (z.2.1) z.2.2)
def OA_noteSnap_15 (N : Nat) (x1 : Int32) (x2 : Int32) (x3 : Int32) (S : rS) (z : Nat × Int32 × rS) : Prop := O_noteSnap_42 N (z.2.1) z.2.2
set_option maxHeartbeats 4000000 in
theorem c_noteSnap_15 {G : zG} {E : rE} {S : rS} {N : Nat} {Q : Option Value → rS → Prop} {X : Int32 × rS → Prop} (hG : zOK G) (hR : ∀ v S', X (v, S') → Q (some (.int v)) S') {x1 : Int32} {x2 : Int32} {x3 : Int32} (ok : OL_noteSnap_15 N N x1 x2 x3 S ∧ OA_noteSnap_15 N x1 x2 x3 S (L_noteSnap_15 N N x1 x2 x3 S)) (hx : X (A_noteSnap_15 N x1 x2 x3 S (L_noteSnap_15 N N x1 x2 x3 S))) : rX G E dX12_noteSnap mX12_noteSnap 15 [some (.ref E.1), some (.int x1), some (.int x2), some (.int x3)] [] S Q := by
  refine l_noteSnap_15 hG ?_ N x1 x2 x3 S ok.1 (X := fun z => OA_noteSnap_15 N x1 x2 x3 S z ∧ X (A_noteSnap_15 N x1 x2 x3 S z)) ⟨ok.2, hx⟩
  · intro x1' S' hz
    obtain ⟨ok, hx⟩ := hz
    unfold OA_noteSnap_15 at ok
    unfold A_noteSnap_15 at hx
    exact rX.cutz (b_noteSnap_42 hG hR ok hx) ⟨rfl, rfl, trivial⟩
def F_noteSnap_13 (N : Nat) (x1 : Int32) (x2 : Int32) (S : rS) : Int32 × rS := (A_noteSnap_15 N x1 x2 (nI 0) S (L_noteSnap_15 N N x1 x2 (nI 0) S))
def O_noteSnap_13 (N : Nat) (x1 : Int32) (x2 : Int32) (S : rS) : Prop := (OL_noteSnap_15 N N x1 x2 (nI 0) S ∧ OA_noteSnap_15 N x1 x2 (nI 0) S (L_noteSnap_15 N N x1 x2 (nI 0) S))
set_option maxHeartbeats 4000000 in
theorem b_noteSnap_13 {G : zG} {E : rE} {S : rS} {N : Nat} {Q : Option Value → rS → Prop} {X : Int32 × rS → Prop} (hG : zOK G) (hR : ∀ v S', X (v, S') → Q (some (.int v)) S') {x1 : Int32} {x2 : Int32} (ok : O_noteSnap_13 N x1 x2 S) (hx : X (F_noteSnap_13 N x1 x2 S)) : rX G E dX12_noteSnap mX12_noteSnap 13 [some (.ref E.1), some (.int x1), some (.int x2), none] [] S Q := by
  unfold O_noteSnap_13 at ok
  unfold F_noteSnap_13 at hx
  refine r_iconst (v := nI 0) dX12_noteSnap_13 (by decide) ?_
  refine r_istore_3 dX12_noteSnap_14 (by decide) rfl ?_
  exact rX.cutz (c_noteSnap_15 hG hR ok hx) ⟨rfl, rfl, rfl, rfl, trivial⟩
def F_noteSnap_0 (N : Nat) (x1 : Int32) (x2 : Int32) (S : rS) : Int32 × rS := (F_noteSnap_13 N x1 x2 (f_openNote N S (nI 6) (S.2.1 57 x2.toNatClampNeg) (nI 0)))
def O_noteSnap_0 (N : Nat) (x1 : Int32) (x2 : Int32) (S : rS) : Prop := (vp_in x2 169) ∧ (o_openNote N S (nI 6) (S.2.1 57 x2.toNatClampNeg) (nI 0)) ∧ O_noteSnap_13 N x1 x2 (f_openNote N S (nI 6) (S.2.1 57 x2.toNatClampNeg) (nI 0))
set_option maxHeartbeats 4000000 in
theorem b_noteSnap_0 {G : zG} {E : rE} {S : rS} {N : Nat} {Q : Option Value → rS → Prop} {X : Int32 × rS → Prop} (hG : zOK G) (hR : ∀ v S', X (v, S') → Q (some (.int v)) S') {x1 : Int32} {x2 : Int32} (ok : O_noteSnap_0 N x1 x2 S) (hx : X (F_noteSnap_0 N x1 x2 S)) : rX G E dX12_noteSnap mX12_noteSnap 0 [some (.ref E.1), some (.int x1), some (.int x2), none] [] S Q := by
  unfold O_noteSnap_0 at ok
  unfold F_noteSnap_0 at hx
  refine r_aload_n dX12_noteSnap_0 rfl rfl ?_
  refine r_bipush (v := nI 6) dX12_noteSnap_1 (by decide) ?_
  refine r_aload_n dX12_noteSnap_3 rfl rfl ?_
  refine r_getA 57 fX12_348 (by decide) (by decide) dX12_noteSnap_4 ?_
  refine r_iload_n dX12_noteSnap_7 rfl rfl ?_
  refine r_iald (by decide) (by decide) dX12_noteSnap_8 ok.1 ?_
  have ok := ok.2
  refine r_iconst (v := nI 0) dX12_noteSnap_9 (by decide) ?_
  refine r_V3v (y' := mX12_openNote) dX12_noteSnap_10 lX12_492 kX12_openNote ⟨by decide, by decide⟩ rfl (Nat.le_of_ble_eq_true rfl) (rc_X12_openNote hG ok.1) (fun S_10 h_10 => ?_)
  subst h_10
  have ok := ok.2
  exact rX.cutz (b_noteSnap_13 hG hR ok hx) ⟨rfl, rfl, rfl, trivial⟩
def f_noteSnap (N : Nat) (S : rS) (x1 : Int32) (x2 : Int32) : Int32 × rS := F_noteSnap_0 N x1 x2 S
def o_noteSnap (N : Nat) (S : rS) (x1 : Int32) (x2 : Int32) : Prop := O_noteSnap_0 N x1 x2 S
set_option maxHeartbeats 4000000 in
theorem rc_X12_noteSnap {G : zG} {E : rE} {S : rS} {N : Nat} (hG : zOK G) {x1 : Int32} {x2 : Int32} (ok : o_noteSnap N S x1 x2) : rCi G E dX12_noteSnap mX12_noteSnap [.ref E.1, .int x1, .int x2] S (fun v S' => v = (f_noteSnap N S x1 x2).1 ∧ S' = (f_noteSnap N S x1 x2).2) := by
  refine rC.ofX rfl (Nat.le_of_ble_eq_true rfl) ?_
  show rX G E dX12_noteSnap mX12_noteSnap 0 [some (.ref E.1), some (.int x1), some (.int x2), none] [] S _
  exact rX.cutz (b_noteSnap_0 (X := fun F => F = f_noteSnap N S x1 x2) hG (fun v S' h => ⟨v, rfl, by rw [← h], by rw [← h]⟩) ok rfl) ⟨rfl, rfl, rfl, trivial⟩
/-! setVote -/
def F_setVote_38 (N : Nat) (x1 : Int32) (x9 : Int64) (S : rS) : rS := (rsL S 64 x1.toNatClampNeg x9)
def O_setVote_38 (N : Nat) (x1 : Int32) (x9 : Int64) (S : rS) : Prop := (vp_in x1 10816) ∧ True
set_option maxHeartbeats 4000000 in
theorem b_setVote_38 {G : zG} {E : rE} {S : rS} {N : Nat} {Q : Option Value → rS → Prop} {X : rS → Prop} (hG : zOK G) (hR : ∀ S', X S' → Q none S') {x1 : Int32} {x9 : Int64} (ok : O_setVote_38 N x1 x9 S) (hx : X (F_setVote_38 N x1 x9 S)) : rX G E dX12_setVote mX12_setVote 38 [some (.ref E.1), some (.int x1), none, none, none, none, none, none, none, some (.long x9), none] [] S Q := by
  unfold O_setVote_38 at ok
  unfold F_setVote_38 at hx
  refine r_aload_n dX12_setVote_38 rfl rfl ?_
  refine r_getA 64 fX12_369 (by decide) (by decide) dX12_setVote_39 ?_
  refine r_iload_n dX12_setVote_42 rfl rfl ?_
  refine r_lload dX12_setVote_43 rfl ?_
  refine r_last (by decide) (by decide) dX12_setVote_45 ok.1 ?_
  have ok := ok.2
  exact r_return rfl dX12_setVote_46 (hR _ hx)
def F_setVote_22 (N : Nat) (x1 : Int32) (x5 : Int64) (x7 : Int64) (x9 : Int64) (S : rS) : rS := (F_setVote_38 N x1 x9 (rsL (rsL S 62 x1.toNatClampNeg x5) 63 x1.toNatClampNeg x7))
def O_setVote_22 (N : Nat) (x1 : Int32) (x5 : Int64) (x7 : Int64) (x9 : Int64) (S : rS) : Prop := (vp_in x1 10816) ∧ (vp_in x1 10816) ∧ O_setVote_38 N x1 x9 (rsL (rsL S 62 x1.toNatClampNeg x5) 63 x1.toNatClampNeg x7)
set_option maxHeartbeats 4000000 in
theorem b_setVote_22 {G : zG} {E : rE} {S : rS} {N : Nat} {Q : Option Value → rS → Prop} {X : rS → Prop} (hG : zOK G) (hR : ∀ S', X S' → Q none S') {x1 : Int32} {x5 : Int64} {x7 : Int64} {x9 : Int64} (ok : O_setVote_22 N x1 x5 x7 x9 S) (hx : X (F_setVote_22 N x1 x5 x7 x9 S)) : rX G E dX12_setVote mX12_setVote 22 [some (.ref E.1), some (.int x1), none, none, none, some (.long x5), none, some (.long x7), none, some (.long x9), none] [] S Q := by
  unfold O_setVote_22 at ok
  unfold F_setVote_22 at hx
  refine r_aload_n dX12_setVote_22 rfl rfl ?_
  refine r_getA 62 fX12_363 (by decide) (by decide) dX12_setVote_23 ?_
  refine r_iload_n dX12_setVote_26 rfl rfl ?_
  refine r_lload dX12_setVote_27 rfl ?_
  refine r_last (by decide) (by decide) dX12_setVote_29 ok.1 ?_
  have ok := ok.2
  refine r_aload_n dX12_setVote_30 rfl rfl ?_
  refine r_getA 63 fX12_366 (by decide) (by decide) dX12_setVote_31 ?_
  refine r_iload_n dX12_setVote_34 rfl rfl ?_
  refine r_lload dX12_setVote_35 rfl ?_
  refine r_last (by decide) (by decide) dX12_setVote_37 ok.1 ?_
  have ok := ok.2
  exact rX.cutz (b_setVote_38 hG hR ok hx) ⟨rfl, rfl, rfl, trivial⟩
def F_setVote_14 (N : Nat) (x1 : Int32) (x3 : Int64) (x5 : Int64) (x7 : Int64) (x9 : Int64) (s1 : Int32) (s2 : Int32) (S : rS) : rS := (F_setVote_22 N x1 x5 x7 x9 (rsL (rsA S 60 s1.toNatClampNeg s2) 61 x1.toNatClampNeg x3))
def O_setVote_14 (N : Nat) (x1 : Int32) (x3 : Int64) (x5 : Int64) (x7 : Int64) (x9 : Int64) (s1 : Int32) (s2 : Int32) (S : rS) : Prop := (vp_in s1 10816) ∧ (vp_in x1 10816) ∧ O_setVote_22 N x1 x5 x7 x9 (rsL (rsA S 60 s1.toNatClampNeg s2) 61 x1.toNatClampNeg x3)
set_option maxHeartbeats 4000000 in
theorem b_setVote_14 {G : zG} {E : rE} {S : rS} {N : Nat} {Q : Option Value → rS → Prop} {X : rS → Prop} (hG : zOK G) (hR : ∀ S', X S' → Q none S') {x1 : Int32} {x3 : Int64} {x5 : Int64} {x7 : Int64} {x9 : Int64} {s1 : Int32} {s2 : Int32} (ok : O_setVote_14 N x1 x3 x5 x7 x9 s1 s2 S) (hx : X (F_setVote_14 N x1 x3 x5 x7 x9 s1 s2 S)) : rX G E dX12_setVote mX12_setVote 14 [some (.ref E.1), some (.int x1), none, some (.long x3), none, some (.long x5), none, some (.long x7), none, some (.long x9), none] [.int s2, .int s1, .ref (E.2.1 60)] S Q := by
  unfold O_setVote_14 at ok
  unfold F_setVote_14 at hx
  refine r_iast hG (by decide) (by decide) dX12_setVote_14 ok.1 ?_
  have ok := ok.2
  refine r_aload_n dX12_setVote_15 rfl rfl ?_
  refine r_getA 61 fX12_360 (by decide) (by decide) dX12_setVote_16 ?_
  refine r_iload_n dX12_setVote_19 rfl rfl ?_
  refine r_lload_n dX12_setVote_20 rfl rfl ?_
  refine r_last (by decide) (by decide) dX12_setVote_21 ok.1 ?_
  have ok := ok.2
  exact rX.cutz (b_setVote_22 hG hR ok hx) ⟨rfl, rfl, rfl, rfl, rfl, trivial⟩
def F_setVote_0 (N : Nat) (x1 : Int32) (x2 : Int32) (x3 : Int64) (x5 : Int64) (x7 : Int64) (x9 : Int64) (S : rS) : rS := (if x2 = 0 then (F_setVote_14 N x1 x3 x5 x7 x9 x1 (nI 1) S) else (F_setVote_14 N x1 x3 x5 x7 x9 x1 (nI 2) S))
def O_setVote_0 (N : Nat) (x1 : Int32) (x2 : Int32) (x3 : Int64) (x5 : Int64) (x7 : Int64) (x9 : Int64) (S : rS) : Prop := ((x2 = 0 → O_setVote_14 N x1 x3 x5 x7 x9 x1 (nI 1) S) ∧ (¬ x2 = 0 → O_setVote_14 N x1 x3 x5 x7 x9 x1 (nI 2) S))
set_option maxHeartbeats 4000000 in
theorem b_setVote_0 {G : zG} {E : rE} {S : rS} {N : Nat} {Q : Option Value → rS → Prop} {X : rS → Prop} (hG : zOK G) (hR : ∀ S', X S' → Q none S') {x1 : Int32} {x2 : Int32} {x3 : Int64} {x5 : Int64} {x7 : Int64} {x9 : Int64} (ok : O_setVote_0 N x1 x2 x3 x5 x7 x9 S) (hx : X (F_setVote_0 N x1 x2 x3 x5 x7 x9 S)) : rX G E dX12_setVote mX12_setVote 0 [some (.ref E.1), some (.int x1), some (.int x2), some (.long x3), none, some (.long x5), none, some (.long x7), none, some (.long x9), none] [] S Q := by
  unfold O_setVote_0 at ok
  unfold F_setVote_0 at hx
  refine r_aload_n dX12_setVote_0 rfl rfl ?_
  refine r_getA 60 fX12_357 (by decide) (by decide) dX12_setVote_1 ?_
  refine r_iload_n dX12_setVote_4 rfl rfl ?_
  refine r_iload_n dX12_setVote_5 rfl rfl ?_
  refine r_if_eq (tgt := 13) dX12_setVote_6 (by decide) (fun c_6 => ?_) (fun c_6 => ?_)
  · have ok := ok.1 c_6
    have hx := xif_p c_6 hx
    refine r_iconst (v := nI 1) dX12_setVote_13 (by decide) ?_
    exact rX.cutz (b_setVote_14 hG hR ok hx) ⟨rfl, rfl, rfl, rfl, rfl, rfl, trivial⟩
  · have ok := ok.2 c_6
    have hx := xif_n c_6 hx
    refine r_iconst (v := nI 2) dX12_setVote_9 (by decide) ?_
    refine r_goto (tgt := 14) dX12_setVote_10 (by decide) ?_
    exact rX.cutz (b_setVote_14 hG hR ok hx) ⟨rfl, rfl, rfl, rfl, rfl, rfl, trivial⟩
def f_setVote (N : Nat) (S : rS) (x1 : Int32) (x2 : Int32) (x3 : Int64) (x5 : Int64) (x7 : Int64) (x9 : Int64) : rS := F_setVote_0 N x1 x2 x3 x5 x7 x9 S
def o_setVote (N : Nat) (S : rS) (x1 : Int32) (x2 : Int32) (x3 : Int64) (x5 : Int64) (x7 : Int64) (x9 : Int64) : Prop := O_setVote_0 N x1 x2 x3 x5 x7 x9 S
set_option maxHeartbeats 4000000 in
theorem rc_X12_setVote {G : zG} {E : rE} {S : rS} {N : Nat} (hG : zOK G) {x1 : Int32} {x2 : Int32} {x3 : Int64} {x5 : Int64} {x7 : Int64} {x9 : Int64} (ok : o_setVote N S x1 x2 x3 x5 x7 x9) : rCv G E dX12_setVote mX12_setVote [.ref E.1, .int x1, .int x2, .long x3, .long x5, .long x7, .long x9] S (fun S' => S' = f_setVote N S x1 x2 x3 x5 x7 x9) := by
  refine rC.ofX rfl (Nat.le_of_ble_eq_true rfl) ?_
  show rX G E dX12_setVote mX12_setVote 0 [some (.ref E.1), some (.int x1), some (.int x2), some (.long x3), none, some (.long x5), none, some (.long x7), none, some (.long x9), none] [] S _
  exact rX.cutz (b_setVote_0 (X := fun F => F = f_setVote N S x1 x2 x3 x5 x7 x9) hG (fun S' h => ⟨rfl, h⟩) ok rfl) ⟨rfl, rfl, rfl, rfl, rfl, rfl, rfl, trivial⟩
/-! count0 -/
def F_count0_199 (N : Nat) (x6 : Int32) (S : rS) : Int32 := x6
def O_count0_199 (N : Nat) (x6 : Int32) (S : rS) : Prop := True
set_option maxHeartbeats 4000000 in
theorem b_count0_199 {G : zG} {E : rE} {S : rS} {N : Nat} {Q : Option Value → rS → Prop} {X : Int32 → Prop} (hG : zOK G) (hR : ∀ v, X v → Q (some (.int v)) S) {x6 : Int32} (ok : O_count0_199 N x6 S) (hx : X (F_count0_199 N x6 S)) : rX G E dX12_count0 mX12_count0 199 [none, none, none, none, none, none, some (.int x6), none, none, none] [] S Q := by
  unfold O_count0_199 at ok
  unfold F_count0_199 at hx
  refine r_iload dX12_count0_199 rfl ?_
  exact r_ireturn rfl rfl dX12_count0_201 (hR _ hx)
def F_count0_191 (N : Nat) (rec : Int32 → Int32 → Int32 → Int32 → Int32 → Int32 → Int32 → Nat × Int32 × Unit) (x1 : Int32) (x2 : Int32) (x3 : Int32) (x4 : Int32) (x5 : Int32) (x7 : Int32) (s0 : Int32) (S : rS) : Nat × Int32 × Unit := (rec x1 x2 x3 x4 x5 s0 (x7 + nI 1))
def O_count0_191 (N : Nat) (rok : Int32 → Int32 → Int32 → Int32 → Int32 → Int32 → Int32 → Prop) (x1 : Int32) (x2 : Int32) (x3 : Int32) (x4 : Int32) (x5 : Int32) (x7 : Int32) (s0 : Int32) (S : rS) : Prop := rok x1 x2 x3 x4 x5 s0 (x7 + nI 1)
set_option maxHeartbeats 4000000 in
theorem b_count0_191 {G : zG} {E : rE} {S : rS} {N : Nat} {Q : Option Value → rS → Prop} {X : Nat × Int32 × Unit → Prop} (hG : zOK G) (hX0 : ∀ (x6 : Int32) , X (0, x6, ()) → rX G E dX12_count0 mX12_count0 199 [none, none, none, none, none, none, some (.int x6), none, none, none] [] S Q) {rec : Int32 → Int32 → Int32 → Int32 → Int32 → Int32 → Int32 → Nat × Int32 × Unit} {rok : Int32 → Int32 → Int32 → Int32 → Int32 → Int32 → Int32 → Prop} (hrec : ∀ (x1 : Int32) (x2 : Int32) (x3 : Int32) (x4 : Int32) (x5 : Int32) (x6 : Int32) (x7 : Int32), rok x1 x2 x3 x4 x5 x6 x7 → X (rec x1 x2 x3 x4 x5 x6 x7) → rX G E dX12_count0 mX12_count0 6 [some (.ref E.1), some (.int x1), some (.int x2), some (.int x3), some (.int x4), some (.int x5), some (.int x6), some (.int x7), none, none] [] S Q) {x1 : Int32} {x2 : Int32} {x3 : Int32} {x4 : Int32} {x5 : Int32} {x7 : Int32} {s0 : Int32} (ok : O_count0_191 N rok x1 x2 x3 x4 x5 x7 s0 S) (hx : X (F_count0_191 N rec x1 x2 x3 x4 x5 x7 s0 S)) : rX G E dX12_count0 mX12_count0 191 [some (.ref E.1), some (.int x1), some (.int x2), some (.int x3), some (.int x4), some (.int x5), none, some (.int x7), none, none] [.int s0] S Q := by
  unfold O_count0_191 at ok
  unfold F_count0_191 at hx
  refine r_istore_6 dX12_count0_191 (by decide) rfl ?_
  refine r_iinc_7 (v := (x7 + nI 1)) dX12_count0_193 rfl (by first | rfl | (congr 1)) (by decide) rfl ?_
  refine r_goto (tgt := 6) dX12_count0_196 (by decide) ?_
  exact rX.cutz (hrec _ _ _ _ _ _ _ ok hx) ⟨rfl, rfl, rfl, rfl, rfl, rfl, rfl, rfl, trivial⟩
def F_count0_177 (N : Nat) (rec : Int32 → Int32 → Int32 → Int32 → Int32 → Int32 → Int32 → Nat × Int32 × Unit) (x1 : Int32) (x2 : Int32) (x3 : Int32) (x4 : Int32) (x5 : Int32) (x6 : Int32) (x7 : Int32) (x9 : Int32) (S : rS) : Nat × Int32 × Unit := (if x9 = 0 then (F_count0_191 N rec x1 x2 x3 x4 x5 x7 x6 S) else (F_count0_191 N rec x1 x2 x3 x4 x5 x7 (x6 + (nI 1)) S))
def O_count0_177 (N : Nat) (rok : Int32 → Int32 → Int32 → Int32 → Int32 → Int32 → Int32 → Prop) (x1 : Int32) (x2 : Int32) (x3 : Int32) (x4 : Int32) (x5 : Int32) (x6 : Int32) (x7 : Int32) (x9 : Int32) (S : rS) : Prop := ((x9 = 0 → O_count0_191 N rok x1 x2 x3 x4 x5 x7 x6 S) ∧ (¬ x9 = 0 → O_count0_191 N rok x1 x2 x3 x4 x5 x7 (x6 + (nI 1)) S))
set_option maxHeartbeats 4000000 in
theorem b_count0_177 {G : zG} {E : rE} {S : rS} {N : Nat} {Q : Option Value → rS → Prop} {X : Nat × Int32 × Unit → Prop} (hG : zOK G) (hX0 : ∀ (x6 : Int32) , X (0, x6, ()) → rX G E dX12_count0 mX12_count0 199 [none, none, none, none, none, none, some (.int x6), none, none, none] [] S Q) {rec : Int32 → Int32 → Int32 → Int32 → Int32 → Int32 → Int32 → Nat × Int32 × Unit} {rok : Int32 → Int32 → Int32 → Int32 → Int32 → Int32 → Int32 → Prop} (hrec : ∀ (x1 : Int32) (x2 : Int32) (x3 : Int32) (x4 : Int32) (x5 : Int32) (x6 : Int32) (x7 : Int32), rok x1 x2 x3 x4 x5 x6 x7 → X (rec x1 x2 x3 x4 x5 x6 x7) → rX G E dX12_count0 mX12_count0 6 [some (.ref E.1), some (.int x1), some (.int x2), some (.int x3), some (.int x4), some (.int x5), some (.int x6), some (.int x7), none, none] [] S Q) {x1 : Int32} {x2 : Int32} {x3 : Int32} {x4 : Int32} {x5 : Int32} {x6 : Int32} {x7 : Int32} {x9 : Int32} (ok : O_count0_177 N rok x1 x2 x3 x4 x5 x6 x7 x9 S) (hx : X (F_count0_177 N rec x1 x2 x3 x4 x5 x6 x7 x9 S)) : rX G E dX12_count0 mX12_count0 177 [some (.ref E.1), some (.int x1), some (.int x2), some (.int x3), some (.int x4), some (.int x5), some (.int x6), some (.int x7), none, some (.int x9)] [] S Q := by
  unfold O_count0_177 at ok
  unfold F_count0_177 at hx
  refine r_iload dX12_count0_177 rfl ?_
  refine r_if_eq (tgt := 189) dX12_count0_179 (by decide) (fun c_179 => ?_) (fun c_179 => ?_)
  · have ok := ok.1 c_179
    have hx := xif_p c_179 hx
    refine r_iload dX12_count0_189 rfl ?_
    exact rX.cutz (b_count0_191 hG hX0 hrec ok hx) ⟨rfl, rfl, rfl, rfl, rfl, rfl, rfl, trivial⟩
  · have ok := ok.2 c_179
    have hx := xif_n c_179 hx
    refine r_iload dX12_count0_182 rfl ?_
    refine r_iconst (v := nI 1) dX12_count0_184 (by decide) ?_
    refine r_iadd dX12_count0_185 ?_
    refine r_goto (tgt := 191) dX12_count0_186 (by decide) ?_
    exact rX.cutz (b_count0_191 hG hX0 hrec ok hx) ⟨rfl, rfl, rfl, rfl, rfl, rfl, rfl, trivial⟩
def F_count0_175 (N : Nat) (rec : Int32 → Int32 → Int32 → Int32 → Int32 → Int32 → Int32 → Nat × Int32 × Unit) (x1 : Int32) (x2 : Int32) (x3 : Int32) (x4 : Int32) (x5 : Int32) (x6 : Int32) (x7 : Int32) (s0 : Int32) (S : rS) : Nat × Int32 × Unit := (F_count0_177 N rec x1 x2 x3 x4 x5 x6 x7 s0 S)
def O_count0_175 (N : Nat) (rok : Int32 → Int32 → Int32 → Int32 → Int32 → Int32 → Int32 → Prop) (x1 : Int32) (x2 : Int32) (x3 : Int32) (x4 : Int32) (x5 : Int32) (x6 : Int32) (x7 : Int32) (s0 : Int32) (S : rS) : Prop := O_count0_177 N rok x1 x2 x3 x4 x5 x6 x7 s0 S
set_option maxHeartbeats 4000000 in
theorem b_count0_175 {G : zG} {E : rE} {S : rS} {N : Nat} {Q : Option Value → rS → Prop} {X : Nat × Int32 × Unit → Prop} (hG : zOK G) (hX0 : ∀ (x6 : Int32) , X (0, x6, ()) → rX G E dX12_count0 mX12_count0 199 [none, none, none, none, none, none, some (.int x6), none, none, none] [] S Q) {rec : Int32 → Int32 → Int32 → Int32 → Int32 → Int32 → Int32 → Nat × Int32 × Unit} {rok : Int32 → Int32 → Int32 → Int32 → Int32 → Int32 → Int32 → Prop} (hrec : ∀ (x1 : Int32) (x2 : Int32) (x3 : Int32) (x4 : Int32) (x5 : Int32) (x6 : Int32) (x7 : Int32), rok x1 x2 x3 x4 x5 x6 x7 → X (rec x1 x2 x3 x4 x5 x6 x7) → rX G E dX12_count0 mX12_count0 6 [some (.ref E.1), some (.int x1), some (.int x2), some (.int x3), some (.int x4), some (.int x5), some (.int x6), some (.int x7), none, none] [] S Q) {x1 : Int32} {x2 : Int32} {x3 : Int32} {x4 : Int32} {x5 : Int32} {x6 : Int32} {x7 : Int32} {s0 : Int32} (ok : O_count0_175 N rok x1 x2 x3 x4 x5 x6 x7 s0 S) (hx : X (F_count0_175 N rec x1 x2 x3 x4 x5 x6 x7 s0 S)) : rX G E dX12_count0 mX12_count0 175 [some (.ref E.1), some (.int x1), some (.int x2), some (.int x3), some (.int x4), some (.int x5), some (.int x6), some (.int x7), none, none] [.int s0] S Q := by
  unfold O_count0_175 at ok
  unfold F_count0_175 at hx
  refine r_istore_9 dX12_count0_175 (by decide) rfl ?_
  exact rX.cutz (b_count0_177 hG hX0 hrec ok hx) ⟨rfl, rfl, rfl, rfl, rfl, rfl, rfl, rfl, rfl, trivial⟩
def F_count0_174 (N : Nat) (rec : Int32 → Int32 → Int32 → Int32 → Int32 → Int32 → Int32 → Nat × Int32 × Unit) (x1 : Int32) (x2 : Int32) (x3 : Int32) (x4 : Int32) (x5 : Int32) (x6 : Int32) (x7 : Int32) (S : rS) : Nat × Int32 × Unit := (F_count0_175 N rec x1 x2 x3 x4 x5 x6 x7 (nI 0) S)
def O_count0_174 (N : Nat) (rok : Int32 → Int32 → Int32 → Int32 → Int32 → Int32 → Int32 → Prop) (x1 : Int32) (x2 : Int32) (x3 : Int32) (x4 : Int32) (x5 : Int32) (x6 : Int32) (x7 : Int32) (S : rS) : Prop := O_count0_175 N rok x1 x2 x3 x4 x5 x6 x7 (nI 0) S
set_option maxHeartbeats 4000000 in
theorem b_count0_174 {G : zG} {E : rE} {S : rS} {N : Nat} {Q : Option Value → rS → Prop} {X : Nat × Int32 × Unit → Prop} (hG : zOK G) (hX0 : ∀ (x6 : Int32) , X (0, x6, ()) → rX G E dX12_count0 mX12_count0 199 [none, none, none, none, none, none, some (.int x6), none, none, none] [] S Q) {rec : Int32 → Int32 → Int32 → Int32 → Int32 → Int32 → Int32 → Nat × Int32 × Unit} {rok : Int32 → Int32 → Int32 → Int32 → Int32 → Int32 → Int32 → Prop} (hrec : ∀ (x1 : Int32) (x2 : Int32) (x3 : Int32) (x4 : Int32) (x5 : Int32) (x6 : Int32) (x7 : Int32), rok x1 x2 x3 x4 x5 x6 x7 → X (rec x1 x2 x3 x4 x5 x6 x7) → rX G E dX12_count0 mX12_count0 6 [some (.ref E.1), some (.int x1), some (.int x2), some (.int x3), some (.int x4), some (.int x5), some (.int x6), some (.int x7), none, none] [] S Q) {x1 : Int32} {x2 : Int32} {x3 : Int32} {x4 : Int32} {x5 : Int32} {x6 : Int32} {x7 : Int32} (ok : O_count0_174 N rok x1 x2 x3 x4 x5 x6 x7 S) (hx : X (F_count0_174 N rec x1 x2 x3 x4 x5 x6 x7 S)) : rX G E dX12_count0 mX12_count0 174 [some (.ref E.1), some (.int x1), some (.int x2), some (.int x3), some (.int x4), some (.int x5), some (.int x6), some (.int x7), none, none] [] S Q := by
  unfold O_count0_174 at ok
  unfold F_count0_174 at hx
  refine r_iconst (v := nI 0) dX12_count0_174 (by decide) ?_
  exact rX.cutz (b_count0_175 hG hX0 hrec ok hx) ⟨rfl, rfl, rfl, rfl, rfl, rfl, rfl, rfl, trivial⟩
def F_count0_71 (N : Nat) (rec : Int32 → Int32 → Int32 → Int32 → Int32 → Int32 → Int32 → Nat × Int32 × Unit) (x1 : Int32) (x2 : Int32) (x3 : Int32) (x4 : Int32) (x5 : Int32) (x6 : Int32) (x7 : Int32) (x8 : Int32) (s0 : Int32) (S : rS) : Nat × Int32 × Unit := (if x4 = (nI 2) then (if s0 = 0 then (F_count0_177 N rec x1 x2 x3 x4 x5 x6 x7 s0 S) else (if (lg_cmp (S.2.2 61 x8.toNatClampNeg) (S.2.2 13 ((nI 4) * x5).toNatClampNeg)) = 0 then (if (lg_cmp (S.2.2 62 x8.toNatClampNeg) (S.2.2 13 (((nI 4) * x5) + (nI 1)).toNatClampNeg)) = 0 then (if (lg_cmp (S.2.2 63 x8.toNatClampNeg) (S.2.2 13 (((nI 4) * x5) + (nI 2)).toNatClampNeg)) = 0 then (if (lg_cmp (S.2.2 64 x8.toNatClampNeg) (S.2.2 13 (((nI 4) * x5) + (nI 3)).toNatClampNeg)) = 0 then (F_count0_175 N rec x1 x2 x3 x4 x5 x6 x7 (nI 1) S) else (F_count0_174 N rec x1 x2 x3 x4 x5 x6 x7 S)) else (F_count0_174 N rec x1 x2 x3 x4 x5 x6 x7 S)) else (F_count0_174 N rec x1 x2 x3 x4 x5 x6 x7 S)) else (F_count0_174 N rec x1 x2 x3 x4 x5 x6 x7 S))) else (F_count0_177 N rec x1 x2 x3 x4 x5 x6 x7 s0 S))
def O_count0_71 (N : Nat) (rok : Int32 → Int32 → Int32 → Int32 → Int32 → Int32 → Int32 → Prop) (x1 : Int32) (x2 : Int32) (x3 : Int32) (x4 : Int32) (x5 : Int32) (x6 : Int32) (x7 : Int32) (x8 : Int32) (s0 : Int32) (S : rS) : Prop := ((x4 = (nI 2) → ((s0 = 0 → O_count0_177 N rok x1 x2 x3 x4 x5 x6 x7 s0 S) ∧ (¬ s0 = 0 → (vp_in x8 10816) ∧ (vp_in ((nI 4) * x5) 5416) ∧ (((lg_cmp (S.2.2 61 x8.toNatClampNeg) (S.2.2 13 ((nI 4) * x5).toNatClampNeg)) = 0 → (vp_in x8 10816) ∧ (vp_in (((nI 4) * x5) + (nI 1)) 5416) ∧ (((lg_cmp (S.2.2 62 x8.toNatClampNeg) (S.2.2 13 (((nI 4) * x5) + (nI 1)).toNatClampNeg)) = 0 → (vp_in x8 10816) ∧ (vp_in (((nI 4) * x5) + (nI 2)) 5416) ∧ (((lg_cmp (S.2.2 63 x8.toNatClampNeg) (S.2.2 13 (((nI 4) * x5) + (nI 2)).toNatClampNeg)) = 0 → (vp_in x8 10816) ∧ (vp_in (((nI 4) * x5) + (nI 3)) 5416) ∧ (((lg_cmp (S.2.2 64 x8.toNatClampNeg) (S.2.2 13 (((nI 4) * x5) + (nI 3)).toNatClampNeg)) = 0 → O_count0_175 N rok x1 x2 x3 x4 x5 x6 x7 (nI 1) S) ∧ (¬ (lg_cmp (S.2.2 64 x8.toNatClampNeg) (S.2.2 13 (((nI 4) * x5) + (nI 3)).toNatClampNeg)) = 0 → O_count0_174 N rok x1 x2 x3 x4 x5 x6 x7 S))) ∧ (¬ (lg_cmp (S.2.2 63 x8.toNatClampNeg) (S.2.2 13 (((nI 4) * x5) + (nI 2)).toNatClampNeg)) = 0 → O_count0_174 N rok x1 x2 x3 x4 x5 x6 x7 S))) ∧ (¬ (lg_cmp (S.2.2 62 x8.toNatClampNeg) (S.2.2 13 (((nI 4) * x5) + (nI 1)).toNatClampNeg)) = 0 → O_count0_174 N rok x1 x2 x3 x4 x5 x6 x7 S))) ∧ (¬ (lg_cmp (S.2.2 61 x8.toNatClampNeg) (S.2.2 13 ((nI 4) * x5).toNatClampNeg)) = 0 → O_count0_174 N rok x1 x2 x3 x4 x5 x6 x7 S))))) ∧ (¬ x4 = (nI 2) → O_count0_177 N rok x1 x2 x3 x4 x5 x6 x7 s0 S))
set_option maxHeartbeats 4000000 in
theorem b_count0_71 {G : zG} {E : rE} {S : rS} {N : Nat} {Q : Option Value → rS → Prop} {X : Nat × Int32 × Unit → Prop} (hG : zOK G) (hX0 : ∀ (x6 : Int32) , X (0, x6, ()) → rX G E dX12_count0 mX12_count0 199 [none, none, none, none, none, none, some (.int x6), none, none, none] [] S Q) {rec : Int32 → Int32 → Int32 → Int32 → Int32 → Int32 → Int32 → Nat × Int32 × Unit} {rok : Int32 → Int32 → Int32 → Int32 → Int32 → Int32 → Int32 → Prop} (hrec : ∀ (x1 : Int32) (x2 : Int32) (x3 : Int32) (x4 : Int32) (x5 : Int32) (x6 : Int32) (x7 : Int32), rok x1 x2 x3 x4 x5 x6 x7 → X (rec x1 x2 x3 x4 x5 x6 x7) → rX G E dX12_count0 mX12_count0 6 [some (.ref E.1), some (.int x1), some (.int x2), some (.int x3), some (.int x4), some (.int x5), some (.int x6), some (.int x7), none, none] [] S Q) {x1 : Int32} {x2 : Int32} {x3 : Int32} {x4 : Int32} {x5 : Int32} {x6 : Int32} {x7 : Int32} {x8 : Int32} {s0 : Int32} (ok : O_count0_71 N rok x1 x2 x3 x4 x5 x6 x7 x8 s0 S) (hx : X (F_count0_71 N rec x1 x2 x3 x4 x5 x6 x7 x8 s0 S)) : rX G E dX12_count0 mX12_count0 71 [some (.ref E.1), some (.int x1), some (.int x2), some (.int x3), some (.int x4), some (.int x5), some (.int x6), some (.int x7), some (.int x8), none] [.int s0] S Q := by
  unfold O_count0_71 at ok
  unfold F_count0_71 at hx
  refine r_istore_9 dX12_count0_71 (by decide) rfl ?_
  refine r_iload dX12_count0_73 rfl ?_
  refine r_iconst (v := nI 2) dX12_count0_75 (by decide) ?_
  refine r_icmp_ne (tgt := 177) dX12_count0_76 (by decide) (fun c_76 => ?_) (fun c_76 => ?_)
  · have ok := ok.2 c_76
    have hx := xif_n c_76 hx
    exact rX.cutz (b_count0_177 hG hX0 hrec ok hx) ⟨rfl, rfl, rfl, rfl, rfl, rfl, rfl, rfl, rfl, trivial⟩
  · have ok := ok.1 c_76
    have hx := xif_p c_76 hx
    refine r_iload dX12_count0_79 rfl ?_
    refine r_if_eq (tgt := 177) dX12_count0_81 (by decide) (fun c_81 => ?_) (fun c_81 => ?_)
    · have ok := ok.1 c_81
      have hx := xif_p c_81 hx
      exact rX.cutz (b_count0_177 hG hX0 hrec ok hx) ⟨rfl, rfl, rfl, rfl, rfl, rfl, rfl, rfl, rfl, trivial⟩
    · have ok := ok.2 c_81
      have hx := xif_n c_81 hx
      refine r_aload_n dX12_count0_84 rfl rfl ?_
      refine r_getA 61 fX12_360 (by decide) (by decide) dX12_count0_85 ?_
      refine r_iload dX12_count0_88 rfl ?_
      refine r_lald (by decide) (by decide) dX12_count0_90 ok.1 ?_
      have ok := ok.2
      refine r_aload_n dX12_count0_91 rfl rfl ?_
      refine r_getA 13 fX12_60 (by decide) (by decide) dX12_count0_92 ?_
      refine r_iconst (v := nI 4) dX12_count0_95 (by decide) ?_
      refine r_iload dX12_count0_96 rfl ?_
      refine r_imul dX12_count0_98 ?_
      refine r_lald (by decide) (by decide) dX12_count0_99 ok.1 ?_
      have ok := ok.2
      refine r_lcmp dX12_count0_100 ?_
      refine r_if_ne (tgt := 174) dX12_count0_101 (by decide) (fun c_101 => ?_) (fun c_101 => ?_)
      · have ok := ok.2 c_101
        have hx := xif_n c_101 hx
        exact rX.cutz (b_count0_174 hG hX0 hrec ok hx) ⟨rfl, rfl, rfl, rfl, rfl, rfl, rfl, rfl, trivial⟩
      · have ok := ok.1 c_101
        have hx := xif_p c_101 hx
        refine r_aload_n dX12_count0_104 rfl rfl ?_
        refine r_getA 62 fX12_363 (by decide) (by decide) dX12_count0_105 ?_
        refine r_iload dX12_count0_108 rfl ?_
        refine r_lald (by decide) (by decide) dX12_count0_110 ok.1 ?_
        have ok := ok.2
        refine r_aload_n dX12_count0_111 rfl rfl ?_
        refine r_getA 13 fX12_60 (by decide) (by decide) dX12_count0_112 ?_
        refine r_iconst (v := nI 4) dX12_count0_115 (by decide) ?_
        refine r_iload dX12_count0_116 rfl ?_
        refine r_imul dX12_count0_118 ?_
        refine r_iconst (v := nI 1) dX12_count0_119 (by decide) ?_
        refine r_iadd dX12_count0_120 ?_
        refine r_lald (by decide) (by decide) dX12_count0_121 ok.1 ?_
        have ok := ok.2
        refine r_lcmp dX12_count0_122 ?_
        refine r_if_ne (tgt := 174) dX12_count0_123 (by decide) (fun c_123 => ?_) (fun c_123 => ?_)
        · have ok := ok.2 c_123
          have hx := xif_n c_123 hx
          exact rX.cutz (b_count0_174 hG hX0 hrec ok hx) ⟨rfl, rfl, rfl, rfl, rfl, rfl, rfl, rfl, trivial⟩
        · have ok := ok.1 c_123
          have hx := xif_p c_123 hx
          refine r_aload_n dX12_count0_126 rfl rfl ?_
          refine r_getA 63 fX12_366 (by decide) (by decide) dX12_count0_127 ?_
          refine r_iload dX12_count0_130 rfl ?_
          refine r_lald (by decide) (by decide) dX12_count0_132 ok.1 ?_
          have ok := ok.2
          refine r_aload_n dX12_count0_133 rfl rfl ?_
          refine r_getA 13 fX12_60 (by decide) (by decide) dX12_count0_134 ?_
          refine r_iconst (v := nI 4) dX12_count0_137 (by decide) ?_
          refine r_iload dX12_count0_138 rfl ?_
          refine r_imul dX12_count0_140 ?_
          refine r_iconst (v := nI 2) dX12_count0_141 (by decide) ?_
          refine r_iadd dX12_count0_142 ?_
          refine r_lald (by decide) (by decide) dX12_count0_143 ok.1 ?_
          have ok := ok.2
          refine r_lcmp dX12_count0_144 ?_
          refine r_if_ne (tgt := 174) dX12_count0_145 (by decide) (fun c_145 => ?_) (fun c_145 => ?_)
          · have ok := ok.2 c_145
            have hx := xif_n c_145 hx
            exact rX.cutz (b_count0_174 hG hX0 hrec ok hx) ⟨rfl, rfl, rfl, rfl, rfl, rfl, rfl, rfl, trivial⟩
          · have ok := ok.1 c_145
            have hx := xif_p c_145 hx
            refine r_aload_n dX12_count0_148 rfl rfl ?_
            refine r_getA 64 fX12_369 (by decide) (by decide) dX12_count0_149 ?_
            refine r_iload dX12_count0_152 rfl ?_
            refine r_lald (by decide) (by decide) dX12_count0_154 ok.1 ?_
            have ok := ok.2
            refine r_aload_n dX12_count0_155 rfl rfl ?_
            refine r_getA 13 fX12_60 (by decide) (by decide) dX12_count0_156 ?_
            refine r_iconst (v := nI 4) dX12_count0_159 (by decide) ?_
            refine r_iload dX12_count0_160 rfl ?_
            refine r_imul dX12_count0_162 ?_
            refine r_iconst (v := nI 3) dX12_count0_163 (by decide) ?_
            refine r_iadd dX12_count0_164 ?_
            refine r_lald (by decide) (by decide) dX12_count0_165 ok.1 ?_
            have ok := ok.2
            refine r_lcmp dX12_count0_166 ?_
            refine r_if_ne (tgt := 174) dX12_count0_167 (by decide) (fun c_167 => ?_) (fun c_167 => ?_)
            · have ok := ok.2 c_167
              have hx := xif_n c_167 hx
              exact rX.cutz (b_count0_174 hG hX0 hrec ok hx) ⟨rfl, rfl, rfl, rfl, rfl, rfl, rfl, rfl, trivial⟩
            · have ok := ok.1 c_167
              have hx := xif_p c_167 hx
              refine r_iconst (v := nI 1) dX12_count0_170 (by decide) ?_
              refine r_goto (tgt := 175) dX12_count0_171 (by decide) ?_
              exact rX.cutz (b_count0_175 hG hX0 hrec ok hx) ⟨rfl, rfl, rfl, rfl, rfl, rfl, rfl, rfl, trivial⟩
def B_count0_6 (N : Nat) (rec : Int32 → Int32 → Int32 → Int32 → Int32 → Int32 → Int32 → Nat × Int32 × Unit) (x1 : Int32) (x2 : Int32) (x3 : Int32) (x4 : Int32) (x5 : Int32) (x6 : Int32) (x7 : Int32) (S : rS) : Nat × Int32 × Unit := (if (S.1 0) ≤ x7 then (0, x6, ()) else (if x4 = 0 then (if (S.2.1 60 (f_voteAt N S x1 x2 (S.2.1 44 x2.toNatClampNeg) x3 x7).toNatClampNeg) = 0 then (F_count0_71 N rec x1 x2 x3 x4 x5 x6 x7 (f_voteAt N S x1 x2 (S.2.1 44 x2.toNatClampNeg) x3 x7) (nI 0) S) else (F_count0_71 N rec x1 x2 x3 x4 x5 x6 x7 (f_voteAt N S x1 x2 (S.2.1 44 x2.toNatClampNeg) x3 x7) (nI 1) S)) else (if (S.2.1 60 (f_voteAt N S x1 x2 (S.2.1 44 x2.toNatClampNeg) x3 x7).toNatClampNeg) = x4 then (F_count0_71 N rec x1 x2 x3 x4 x5 x6 x7 (f_voteAt N S x1 x2 (S.2.1 44 x2.toNatClampNeg) x3 x7) (nI 1) S) else (F_count0_71 N rec x1 x2 x3 x4 x5 x6 x7 (f_voteAt N S x1 x2 (S.2.1 44 x2.toNatClampNeg) x3 x7) (nI 0) S))))
def OB_count0_6 (N : Nat) (rok : Int32 → Int32 → Int32 → Int32 → Int32 → Int32 → Int32 → Prop) (x1 : Int32) (x2 : Int32) (x3 : Int32) (x4 : Int32) (x5 : Int32) (x6 : Int32) (x7 : Int32) (S : rS) : Prop := (((S.1 0) ≤ x7 → True) ∧ (¬ (S.1 0) ≤ x7 → (vp_in x2 13) ∧ (o_voteAt N S x1 x2 (S.2.1 44 x2.toNatClampNeg) x3 x7) ∧ ((x4 = 0 → (vp_in (f_voteAt N S x1 x2 (S.2.1 44 x2.toNatClampNeg) x3 x7) 10816) ∧ (((S.2.1 60 (f_voteAt N S x1 x2 (S.2.1 44 x2.toNatClampNeg) x3 x7).toNatClampNeg) = 0 → O_count0_71 N rok x1 x2 x3 x4 x5 x6 x7 (f_voteAt N S x1 x2 (S.2.1 44 x2.toNatClampNeg) x3 x7) (nI 0) S) ∧ (¬ (S.2.1 60 (f_voteAt N S x1 x2 (S.2.1 44 x2.toNatClampNeg) x3 x7).toNatClampNeg) = 0 → O_count0_71 N rok x1 x2 x3 x4 x5 x6 x7 (f_voteAt N S x1 x2 (S.2.1 44 x2.toNatClampNeg) x3 x7) (nI 1) S))) ∧ (¬ x4 = 0 → (vp_in (f_voteAt N S x1 x2 (S.2.1 44 x2.toNatClampNeg) x3 x7) 10816) ∧ (((S.2.1 60 (f_voteAt N S x1 x2 (S.2.1 44 x2.toNatClampNeg) x3 x7).toNatClampNeg) = x4 → O_count0_71 N rok x1 x2 x3 x4 x5 x6 x7 (f_voteAt N S x1 x2 (S.2.1 44 x2.toNatClampNeg) x3 x7) (nI 1) S) ∧ (¬ (S.2.1 60 (f_voteAt N S x1 x2 (S.2.1 44 x2.toNatClampNeg) x3 x7).toNatClampNeg) = x4 → O_count0_71 N rok x1 x2 x3 x4 x5 x6 x7 (f_voteAt N S x1 x2 (S.2.1 44 x2.toNatClampNeg) x3 x7) (nI 0) S))))))
set_option maxHeartbeats 4000000 in
theorem bb_count0_6 {G : zG} {E : rE} {S : rS} {N : Nat} {Q : Option Value → rS → Prop} {X : Nat × Int32 × Unit → Prop} (hG : zOK G) (hX0 : ∀ (x6 : Int32) , X (0, x6, ()) → rX G E dX12_count0 mX12_count0 199 [none, none, none, none, none, none, some (.int x6), none, none, none] [] S Q) {rec : Int32 → Int32 → Int32 → Int32 → Int32 → Int32 → Int32 → Nat × Int32 × Unit} {rok : Int32 → Int32 → Int32 → Int32 → Int32 → Int32 → Int32 → Prop} (hrec : ∀ (x1 : Int32) (x2 : Int32) (x3 : Int32) (x4 : Int32) (x5 : Int32) (x6 : Int32) (x7 : Int32), rok x1 x2 x3 x4 x5 x6 x7 → X (rec x1 x2 x3 x4 x5 x6 x7) → rX G E dX12_count0 mX12_count0 6 [some (.ref E.1), some (.int x1), some (.int x2), some (.int x3), some (.int x4), some (.int x5), some (.int x6), some (.int x7), none, none] [] S Q) {x1 : Int32} {x2 : Int32} {x3 : Int32} {x4 : Int32} {x5 : Int32} {x6 : Int32} {x7 : Int32} (ok : OB_count0_6 N rok x1 x2 x3 x4 x5 x6 x7 S) (hx : X (B_count0_6 N rec x1 x2 x3 x4 x5 x6 x7 S)) : rX G E dX12_count0 mX12_count0 6 [some (.ref E.1), some (.int x1), some (.int x2), some (.int x3), some (.int x4), some (.int x5), some (.int x6), some (.int x7), none, none] [] S Q := by
  unfold OB_count0_6 at ok
  unfold B_count0_6 at hx
  refine r_iload dX12_count0_6 rfl ?_
  refine r_aload_n dX12_count0_8 rfl rfl ?_
  refine r_getI 0 fX12_219 (by decide) (by decide) dX12_count0_9 ?_
  refine r_icmp_ge (tgt := 199) dX12_count0_12 (by decide) (fun c_12 => ?_) (fun c_12 => ?_)
  · have ok := ok.1 c_12
    have hx := xif_p c_12 hx
    exact rX.cutz (hX0 _  hx) ⟨rfl, trivial⟩
  · have ok := ok.2 c_12
    have hx := xif_n c_12 hx
    refine r_iload_n dX12_count0_15 rfl rfl ?_
    refine r_iload_n dX12_count0_16 rfl rfl ?_
    refine r_aload_n dX12_count0_17 rfl rfl ?_
    refine r_getA 44 fX12_309 (by decide) (by decide) dX12_count0_18 ?_
    refine r_iload_n dX12_count0_21 rfl rfl ?_
    refine r_iald (by decide) (by decide) dX12_count0_22 ok.1 ?_
    have ok := ok.2
    refine r_iload_n dX12_count0_23 rfl rfl ?_
    refine r_iload dX12_count0_24 rfl ?_
    refine r_S5i (y' := mX12_voteAt) dX12_count0_26 lX12_470 kX12_voteAt ⟨by decide, by decide⟩ (Nat.le_of_ble_eq_true rfl) (rc_X12_voteAt hG ok.1) (fun v_26 S_26 h_26 => ?_)
    obtain ⟨rfl, hS_26⟩ := h_26
    have hS_26 := hS_26.symm
    subst hS_26
    have ok := ok.2
    refine r_istore_8 dX12_count0_29 (by decide) rfl ?_
    refine r_iload dX12_count0_31 rfl ?_
    refine r_if_ne (tgt := 54) dX12_count0_33 (by decide) (fun c_33 => ?_) (fun c_33 => ?_)
    · have ok := ok.2 c_33
      have hx := xif_n c_33 hx
      refine r_aload_n dX12_count0_54 rfl rfl ?_
      refine r_getA 60 fX12_357 (by decide) (by decide) dX12_count0_55 ?_
      refine r_iload dX12_count0_58 rfl ?_
      refine r_iald (by decide) (by decide) dX12_count0_60 ok.1 ?_
      have ok := ok.2
      refine r_iload dX12_count0_61 rfl ?_
      refine r_icmp_ne (tgt := 70) dX12_count0_63 (by decide) (fun c_63 => ?_) (fun c_63 => ?_)
      · have ok := ok.2 c_63
        have hx := xif_n c_63 hx
        refine r_iconst (v := nI 0) dX12_count0_70 (by decide) ?_
        exact rX.cutz (b_count0_71 hG hX0 hrec ok hx) ⟨rfl, rfl, rfl, rfl, rfl, rfl, rfl, rfl, rfl, trivial⟩
      · have ok := ok.1 c_63
        have hx := xif_p c_63 hx
        refine r_iconst (v := nI 1) dX12_count0_66 (by decide) ?_
        refine r_goto (tgt := 71) dX12_count0_67 (by decide) ?_
        exact rX.cutz (b_count0_71 hG hX0 hrec ok hx) ⟨rfl, rfl, rfl, rfl, rfl, rfl, rfl, rfl, rfl, trivial⟩
    · have ok := ok.1 c_33
      have hx := xif_p c_33 hx
      refine r_aload_n dX12_count0_36 rfl rfl ?_
      refine r_getA 60 fX12_357 (by decide) (by decide) dX12_count0_37 ?_
      refine r_iload dX12_count0_40 rfl ?_
      refine r_iald (by decide) (by decide) dX12_count0_42 ok.1 ?_
      have ok := ok.2
      refine r_if_eq (tgt := 50) dX12_count0_43 (by decide) (fun c_43 => ?_) (fun c_43 => ?_)
      · have ok := ok.1 c_43
        have hx := xif_p c_43 hx
        refine r_iconst (v := nI 0) dX12_count0_50 (by decide) ?_
        refine r_goto (tgt := 71) dX12_count0_51 (by decide) ?_
        exact rX.cutz (b_count0_71 hG hX0 hrec ok hx) ⟨rfl, rfl, rfl, rfl, rfl, rfl, rfl, rfl, rfl, trivial⟩
      · have ok := ok.2 c_43
        have hx := xif_n c_43 hx
        refine r_iconst (v := nI 1) dX12_count0_46 (by decide) ?_
        refine r_goto (tgt := 71) dX12_count0_47 (by decide) ?_
        exact rX.cutz (b_count0_71 hG hX0 hrec ok hx) ⟨rfl, rfl, rfl, rfl, rfl, rfl, rfl, rfl, rfl, trivial⟩
def L_count0_6 (N : Nat) : Nat → Int32 → Int32 → Int32 → Int32 → Int32 → Int32 → Int32 → rS → Nat × Int32 × Unit
  | 0, x1, x2, x3, x4, x5, x6, x7, S => (0, 0, ())
  | n + 1, x1, x2, x3, x4, x5, x6, x7, S => B_count0_6 N (fun x1 x2 x3 x4 x5 x6 x7 => L_count0_6 N n x1 x2 x3 x4 x5 x6 x7 S) x1 x2 x3 x4 x5 x6 x7 S
def OL_count0_6 (N : Nat) : Nat → Int32 → Int32 → Int32 → Int32 → Int32 → Int32 → Int32 → rS → Prop
  | 0, _, _, _, _, _, _, _, _ => False
  | n + 1, x1, x2, x3, x4, x5, x6, x7, S => OB_count0_6 N (fun x1 x2 x3 x4 x5 x6 x7 => OL_count0_6 N n x1 x2 x3 x4 x5 x6 x7 S) x1 x2 x3 x4 x5 x6 x7 S
set_option maxHeartbeats 4000000 in
theorem l_count0_6 {G : zG} {E : rE} {S : rS} {N : Nat} {Q : Option Value → rS → Prop} {X : Nat × Int32 × Unit → Prop} (hG : zOK G) (hX0 : ∀ (x6 : Int32) , X (0, x6, ()) → rX G E dX12_count0 mX12_count0 199 [none, none, none, none, none, none, some (.int x6), none, none, none] [] S Q) : ∀ (n : Nat) (x1 : Int32) (x2 : Int32) (x3 : Int32) (x4 : Int32) (x5 : Int32) (x6 : Int32) (x7 : Int32) , OL_count0_6 N n x1 x2 x3 x4 x5 x6 x7 S → X (L_count0_6 N n x1 x2 x3 x4 x5 x6 x7 S) → rX G E dX12_count0 mX12_count0 6 [some (.ref E.1), some (.int x1), some (.int x2), some (.int x3), some (.int x4), some (.int x5), some (.int x6), some (.int x7), none, none] [] S Q := by
  intro n
  induction n with
  | zero => intro x1 x2 x3 x4 x5 x6 x7 ok; exact absurd ok id
  | succ n ih =>
    intro x1 x2 x3 x4 x5 x6 x7 ok hx
    exact bb_count0_6 hG hX0 (rec := fun x1 x2 x3 x4 x5 x6 x7 => L_count0_6 N n x1 x2 x3 x4 x5 x6 x7 S) (rok := fun x1 x2 x3 x4 x5 x6 x7 => OL_count0_6 N n x1 x2 x3 x4 x5 x6 x7 S) (fun x1 x2 x3 x4 x5 x6 x7 ok hx => ih x1 x2 x3 x4 x5 x6 x7 ok hx) ok hx
def A_count0_6 (N : Nat) (x1 : Int32) (x2 : Int32) (x3 : Int32) (x4 : Int32) (x5 : Int32) (x6 : Int32) (x7 : Int32) (S : rS) (z : Nat × Int32 × Unit) : Int32 := (F_count0_199 N (z.2.1) S)
def OA_count0_6 (N : Nat) (x1 : Int32) (x2 : Int32) (x3 : Int32) (x4 : Int32) (x5 : Int32) (x6 : Int32) (x7 : Int32) (S : rS) (z : Nat × Int32 × Unit) : Prop := O_count0_199 N (z.2.1) S
set_option maxHeartbeats 4000000 in
theorem c_count0_6 {G : zG} {E : rE} {S : rS} {N : Nat} {Q : Option Value → rS → Prop} {X : Int32 → Prop} (hG : zOK G) (hR : ∀ v, X v → Q (some (.int v)) S) {x1 : Int32} {x2 : Int32} {x3 : Int32} {x4 : Int32} {x5 : Int32} {x6 : Int32} {x7 : Int32} (ok : OL_count0_6 N N x1 x2 x3 x4 x5 x6 x7 S ∧ OA_count0_6 N x1 x2 x3 x4 x5 x6 x7 S (L_count0_6 N N x1 x2 x3 x4 x5 x6 x7 S)) (hx : X (A_count0_6 N x1 x2 x3 x4 x5 x6 x7 S (L_count0_6 N N x1 x2 x3 x4 x5 x6 x7 S))) : rX G E dX12_count0 mX12_count0 6 [some (.ref E.1), some (.int x1), some (.int x2), some (.int x3), some (.int x4), some (.int x5), some (.int x6), some (.int x7), none, none] [] S Q := by
  refine l_count0_6 hG ?_ N x1 x2 x3 x4 x5 x6 x7 ok.1 (X := fun z => OA_count0_6 N x1 x2 x3 x4 x5 x6 x7 S z ∧ X (A_count0_6 N x1 x2 x3 x4 x5 x6 x7 S z)) ⟨ok.2, hx⟩
  · intro x6' hz
    obtain ⟨ok, hx⟩ := hz
    unfold OA_count0_6 at ok
    unfold A_count0_6 at hx
    exact rX.cutz (b_count0_199 hG hR ok hx) ⟨rfl, trivial⟩
def F_count0_0 (N : Nat) (x1 : Int32) (x2 : Int32) (x3 : Int32) (x4 : Int32) (x5 : Int32) (S : rS) : Int32 := (A_count0_6 N x1 x2 x3 x4 x5 (nI 0) (nI 0) S (L_count0_6 N N x1 x2 x3 x4 x5 (nI 0) (nI 0) S))
def O_count0_0 (N : Nat) (x1 : Int32) (x2 : Int32) (x3 : Int32) (x4 : Int32) (x5 : Int32) (S : rS) : Prop := (OL_count0_6 N N x1 x2 x3 x4 x5 (nI 0) (nI 0) S ∧ OA_count0_6 N x1 x2 x3 x4 x5 (nI 0) (nI 0) S (L_count0_6 N N x1 x2 x3 x4 x5 (nI 0) (nI 0) S))
set_option maxHeartbeats 4000000 in
theorem b_count0_0 {G : zG} {E : rE} {S : rS} {N : Nat} {Q : Option Value → rS → Prop} {X : Int32 → Prop} (hG : zOK G) (hR : ∀ v, X v → Q (some (.int v)) S) {x1 : Int32} {x2 : Int32} {x3 : Int32} {x4 : Int32} {x5 : Int32} (ok : O_count0_0 N x1 x2 x3 x4 x5 S) (hx : X (F_count0_0 N x1 x2 x3 x4 x5 S)) : rX G E dX12_count0 mX12_count0 0 [some (.ref E.1), some (.int x1), some (.int x2), some (.int x3), some (.int x4), some (.int x5), none, none, none, none] [] S Q := by
  unfold O_count0_0 at ok
  unfold F_count0_0 at hx
  refine r_iconst (v := nI 0) dX12_count0_0 (by decide) ?_
  refine r_istore_6 dX12_count0_1 (by decide) rfl ?_
  refine r_iconst (v := nI 0) dX12_count0_3 (by decide) ?_
  refine r_istore_7 dX12_count0_4 (by decide) rfl ?_
  exact rX.cutz (c_count0_6 hG hR ok hx) ⟨rfl, rfl, rfl, rfl, rfl, rfl, rfl, rfl, trivial⟩
def f_count0 (N : Nat) (S : rS) (x1 : Int32) (x2 : Int32) (x3 : Int32) (x4 : Int32) (x5 : Int32) : Int32 := F_count0_0 N x1 x2 x3 x4 x5 S
def o_count0 (N : Nat) (S : rS) (x1 : Int32) (x2 : Int32) (x3 : Int32) (x4 : Int32) (x5 : Int32) : Prop := O_count0_0 N x1 x2 x3 x4 x5 S
set_option maxHeartbeats 4000000 in
theorem rc_X12_count0 {G : zG} {E : rE} {S : rS} {N : Nat} (hG : zOK G) {x1 : Int32} {x2 : Int32} {x3 : Int32} {x4 : Int32} {x5 : Int32} (ok : o_count0 N S x1 x2 x3 x4 x5) : rCi G E dX12_count0 mX12_count0 [.ref E.1, .int x1, .int x2, .int x3, .int x4, .int x5] S (fun v S' => v = f_count0 N S x1 x2 x3 x4 x5 ∧ S' = S) := by
  refine rC.ofX rfl (Nat.le_of_ble_eq_true rfl) ?_
  show rX G E dX12_count0 mX12_count0 0 [some (.ref E.1), some (.int x1), some (.int x2), some (.int x3), some (.int x4), some (.int x5), none, none, none, none] [] S _
  exact rX.cutz (b_count0_0 (X := fun F => F = f_count0 N S x1 x2 x3 x4 x5) hG (fun v h => ⟨v, rfl, h, rfl⟩) ok rfl) ⟨rfl, rfl, rfl, rfl, rfl, rfl, trivial⟩
/-! quorum -/
def F_quorum_0 (N : Nat)  (S : rS) : Int32 := (((nI 2) * (S.1 1)) + (nI 1))
def O_quorum_0 (N : Nat)  (S : rS) : Prop := True
set_option maxHeartbeats 4000000 in
theorem b_quorum_0 {G : zG} {E : rE} {S : rS} {N : Nat} {Q : Option Value → rS → Prop} {X : Int32 → Prop} (hG : zOK G) (hR : ∀ v, X v → Q (some (.int v)) S) (ok : O_quorum_0 N S) (hx : X (F_quorum_0 N S)) : rX G E dX12_quorum mX12_quorum 0 [some (.ref E.1)] [] S Q := by
  unfold O_quorum_0 at ok
  unfold F_quorum_0 at hx
  refine r_iconst (v := nI 2) dX12_quorum_0 (by decide) ?_
  refine r_aload_n dX12_quorum_1 rfl rfl ?_
  refine r_getI 1 fX12_442 (by decide) (by decide) dX12_quorum_2 ?_
  refine r_imul dX12_quorum_5 ?_
  refine r_iconst (v := nI 1) dX12_quorum_6 (by decide) ?_
  refine r_iadd dX12_quorum_7 ?_
  exact r_ireturn rfl rfl dX12_quorum_8 (hR _ hx)
def f_quorum (N : Nat) (S : rS) : Int32 := F_quorum_0 N S
def o_quorum (N : Nat) (S : rS) : Prop := O_quorum_0 N S
set_option maxHeartbeats 4000000 in
theorem rc_X12_quorum {G : zG} {E : rE} {S : rS} {N : Nat} (hG : zOK G) (ok : o_quorum N S ) : rCi G E dX12_quorum mX12_quorum [.ref E.1] S (fun v S' => v = f_quorum N S ∧ S' = S) := by
  refine rC.ofX rfl (Nat.le_of_ble_eq_true rfl) ?_
  show rX G E dX12_quorum mX12_quorum 0 [some (.ref E.1)] [] S _
  exact rX.cutz (b_quorum_0 (X := fun F => F = f_quorum N S) hG (fun v h => ⟨v, rfl, h, rfl⟩) ok rfl) ⟨rfl, trivial⟩
/-! holdLogged -/
def F_holdLogged_174 (N : Nat)  (S : rS) : rS := S
def O_holdLogged_174 (N : Nat)  (S : rS) : Prop := True
set_option maxHeartbeats 4000000 in
theorem b_holdLogged_174 {G : zG} {E : rE} {S : rS} {N : Nat} {Q : Option Value → rS → Prop} {X : rS → Prop} (hG : zOK G) (hR : ∀ S', X S' → Q none S') (ok : O_holdLogged_174 N S) (hx : X (F_holdLogged_174 N S)) : rX G E dX12_holdLogged mX12_holdLogged 174 [none, none, none, none, none, none] [] S Q := by
  unfold O_holdLogged_174 at ok
  unfold F_holdLogged_174 at hx
  exact r_return rfl dX12_holdLogged_174 (hR _ hx)
def F_holdLogged_99 (N : Nat) (x1 : Int32) (x3 : Int32) (x4 : Int32) (s0 : Int32) (S : rS) : rS := (if (S.2.1 60 (f_voteAt N S s0 x1 (S.2.1 44 x1.toNatClampNeg) x4 x1).toNatClampNeg) = 0 then (F_holdLogged_174 N (f_setVote N S (f_voteAt N S s0 x1 (S.2.1 44 x1.toNatClampNeg) x4 x1) (S.2.1 69 x3.toNatClampNeg) (S.2.2 70 ((nI 4) * x3).toNatClampNeg) (S.2.2 70 (((nI 4) * x3) + (nI 1)).toNatClampNeg) (S.2.2 70 (((nI 4) * x3) + (nI 2)).toNatClampNeg) (S.2.2 70 (((nI 4) * x3) + (nI 3)).toNatClampNeg))) else (F_holdLogged_174 N S))
def O_holdLogged_99 (N : Nat) (x1 : Int32) (x3 : Int32) (x4 : Int32) (s0 : Int32) (S : rS) : Prop := (vp_in x1 13) ∧ (o_voteAt N S s0 x1 (S.2.1 44 x1.toNatClampNeg) x4 x1) ∧ (vp_in (f_voteAt N S s0 x1 (S.2.1 44 x1.toNatClampNeg) x4 x1) 10816) ∧ (((S.2.1 60 (f_voteAt N S s0 x1 (S.2.1 44 x1.toNatClampNeg) x4 x1).toNatClampNeg) = 0 → (vp_in x3 832) ∧ (vp_in ((nI 4) * x3) 3328) ∧ (vp_in (((nI 4) * x3) + (nI 1)) 3328) ∧ (vp_in (((nI 4) * x3) + (nI 2)) 3328) ∧ (vp_in (((nI 4) * x3) + (nI 3)) 3328) ∧ (o_setVote N S (f_voteAt N S s0 x1 (S.2.1 44 x1.toNatClampNeg) x4 x1) (S.2.1 69 x3.toNatClampNeg) (S.2.2 70 ((nI 4) * x3).toNatClampNeg) (S.2.2 70 (((nI 4) * x3) + (nI 1)).toNatClampNeg) (S.2.2 70 (((nI 4) * x3) + (nI 2)).toNatClampNeg) (S.2.2 70 (((nI 4) * x3) + (nI 3)).toNatClampNeg)) ∧ O_holdLogged_174 N (f_setVote N S (f_voteAt N S s0 x1 (S.2.1 44 x1.toNatClampNeg) x4 x1) (S.2.1 69 x3.toNatClampNeg) (S.2.2 70 ((nI 4) * x3).toNatClampNeg) (S.2.2 70 (((nI 4) * x3) + (nI 1)).toNatClampNeg) (S.2.2 70 (((nI 4) * x3) + (nI 2)).toNatClampNeg) (S.2.2 70 (((nI 4) * x3) + (nI 3)).toNatClampNeg))) ∧ (¬ (S.2.1 60 (f_voteAt N S s0 x1 (S.2.1 44 x1.toNatClampNeg) x4 x1).toNatClampNeg) = 0 → O_holdLogged_174 N S))
set_option maxHeartbeats 4000000 in
theorem b_holdLogged_99 {G : zG} {E : rE} {S : rS} {N : Nat} {Q : Option Value → rS → Prop} {X : rS → Prop} (hG : zOK G) (hR : ∀ S', X S' → Q none S') {x1 : Int32} {x3 : Int32} {x4 : Int32} {s0 : Int32} (ok : O_holdLogged_99 N x1 x3 x4 s0 S) (hx : X (F_holdLogged_99 N x1 x3 x4 s0 S)) : rX G E dX12_holdLogged mX12_holdLogged 99 [some (.ref E.1), some (.int x1), none, some (.int x3), some (.int x4), none] [.int s0] S Q := by
  unfold O_holdLogged_99 at ok
  unfold F_holdLogged_99 at hx
  refine r_iload_n dX12_holdLogged_99 rfl rfl ?_
  refine r_aload_n dX12_holdLogged_100 rfl rfl ?_
  refine r_getA 44 fX12_309 (by decide) (by decide) dX12_holdLogged_101 ?_
  refine r_iload_n dX12_holdLogged_104 rfl rfl ?_
  refine r_iald (by decide) (by decide) dX12_holdLogged_105 ok.1 ?_
  have ok := ok.2
  refine r_iload dX12_holdLogged_106 rfl ?_
  refine r_iload_n dX12_holdLogged_108 rfl rfl ?_
  refine r_S5i (y' := mX12_voteAt) dX12_holdLogged_109 lX12_470 kX12_voteAt ⟨by decide, by decide⟩ (Nat.le_of_ble_eq_true rfl) (rc_X12_voteAt hG ok.1) (fun v_109 S_109 h_109 => ?_)
  obtain ⟨rfl, hS_109⟩ := h_109
  have hS_109 := hS_109.symm
  subst hS_109
  have ok := ok.2
  refine r_istore_5 dX12_holdLogged_112 (by decide) rfl ?_
  refine r_aload_n dX12_holdLogged_114 rfl rfl ?_
  refine r_getA 60 fX12_357 (by decide) (by decide) dX12_holdLogged_115 ?_
  refine r_iload dX12_holdLogged_118 rfl ?_
  refine r_iald (by decide) (by decide) dX12_holdLogged_120 ok.1 ?_
  have ok := ok.2
  refine r_if_ne (tgt := 174) dX12_holdLogged_121 (by decide) (fun c_121 => ?_) (fun c_121 => ?_)
  · have ok := ok.2 c_121
    have hx := xif_n c_121 hx
    exact rX.cutz (b_holdLogged_174 hG hR ok hx) trivial
  · have ok := ok.1 c_121
    have hx := xif_p c_121 hx
    refine r_aload_n dX12_holdLogged_124 rfl rfl ?_
    refine r_iload dX12_holdLogged_125 rfl ?_
    refine r_aload_n dX12_holdLogged_127 rfl rfl ?_
    refine r_getA 69 fX12_384 (by decide) (by decide) dX12_holdLogged_128 ?_
    refine r_iload_n dX12_holdLogged_131 rfl rfl ?_
    refine r_zald (by decide) (by decide) dX12_holdLogged_132 ok.1 ?_
    have ok := ok.2
    refine r_aload_n dX12_holdLogged_133 rfl rfl ?_
    refine r_getA 70 fX12_387 (by decide) (by decide) dX12_holdLogged_134 ?_
    refine r_iconst (v := nI 4) dX12_holdLogged_137 (by decide) ?_
    refine r_iload_n dX12_holdLogged_138 rfl rfl ?_
    refine r_imul dX12_holdLogged_139 ?_
    refine r_lald (by decide) (by decide) dX12_holdLogged_140 ok.1 ?_
    have ok := ok.2
    refine r_aload_n dX12_holdLogged_141 rfl rfl ?_
    refine r_getA 70 fX12_387 (by decide) (by decide) dX12_holdLogged_142 ?_
    refine r_iconst (v := nI 4) dX12_holdLogged_145 (by decide) ?_
    refine r_iload_n dX12_holdLogged_146 rfl rfl ?_
    refine r_imul dX12_holdLogged_147 ?_
    refine r_iconst (v := nI 1) dX12_holdLogged_148 (by decide) ?_
    refine r_iadd dX12_holdLogged_149 ?_
    refine r_lald (by decide) (by decide) dX12_holdLogged_150 ok.1 ?_
    have ok := ok.2
    refine r_aload_n dX12_holdLogged_151 rfl rfl ?_
    refine r_getA 70 fX12_387 (by decide) (by decide) dX12_holdLogged_152 ?_
    refine r_iconst (v := nI 4) dX12_holdLogged_155 (by decide) ?_
    refine r_iload_n dX12_holdLogged_156 rfl rfl ?_
    refine r_imul dX12_holdLogged_157 ?_
    refine r_iconst (v := nI 2) dX12_holdLogged_158 (by decide) ?_
    refine r_iadd dX12_holdLogged_159 ?_
    refine r_lald (by decide) (by decide) dX12_holdLogged_160 ok.1 ?_
    have ok := ok.2
    refine r_aload_n dX12_holdLogged_161 rfl rfl ?_
    refine r_getA 70 fX12_387 (by decide) (by decide) dX12_holdLogged_162 ?_
    refine r_iconst (v := nI 4) dX12_holdLogged_165 (by decide) ?_
    refine r_iload_n dX12_holdLogged_166 rfl rfl ?_
    refine r_imul dX12_holdLogged_167 ?_
    refine r_iconst (v := nI 3) dX12_holdLogged_168 (by decide) ?_
    refine r_iadd dX12_holdLogged_169 ?_
    refine r_lald (by decide) (by decide) dX12_holdLogged_170 ok.1 ?_
    have ok := ok.2
    refine r_V6v (y' := mX12_setVote) dX12_holdLogged_171 lX12_510 kX12_setVote ⟨by decide, by decide⟩ rfl (Nat.le_of_ble_eq_true rfl) (rc_X12_setVote hG ok.1) (fun S_171 h_171 => ?_)
    subst h_171
    have ok := ok.2
    exact rX.cutz (b_holdLogged_174 hG hR ok hx) trivial
def F_holdLogged_68 (N : Nat) (x3 : Int32) (x5 : Int32) (S : rS) : rS := (rsA S 59 (x5 - (nI 0)).toNatClampNeg (S.2.1 68 x3.toNatClampNeg))
def O_holdLogged_68 (N : Nat) (x3 : Int32) (x5 : Int32) (S : rS) : Prop := (vp_in x3 832) ∧ (vp_in (x5 - (nI 0)) 416) ∧ True
set_option maxHeartbeats 4000000 in
theorem b_holdLogged_68 {G : zG} {E : rE} {S : rS} {N : Nat} {Q : Option Value → rS → Prop} {X : rS → Prop} (hG : zOK G) (hR : ∀ S', X S' → Q none S') {x3 : Int32} {x5 : Int32} (ok : O_holdLogged_68 N x3 x5 S) (hx : X (F_holdLogged_68 N x3 x5 S)) : rX G E dX12_holdLogged mX12_holdLogged 68 [some (.ref E.1), none, none, some (.int x3), none, some (.int x5)] [] S Q := by
  unfold O_holdLogged_68 at ok
  unfold F_holdLogged_68 at hx
  refine r_aload_n dX12_holdLogged_68 rfl rfl ?_
  refine r_getA 59 fX12_354 (by decide) (by decide) dX12_holdLogged_69 ?_
  refine r_iload dX12_holdLogged_72 rfl ?_
  refine r_iconst (v := nI 0) dX12_holdLogged_74 (by decide) ?_
  refine r_isub dX12_holdLogged_75 ?_
  refine r_aload_n dX12_holdLogged_76 rfl rfl ?_
  refine r_getA 68 fX12_381 (by decide) (by decide) dX12_holdLogged_77 ?_
  refine r_iload_n dX12_holdLogged_80 rfl rfl ?_
  refine r_iald (by decide) (by decide) dX12_holdLogged_81 ok.1 ?_
  have ok := ok.2
  refine r_iast hG (by decide) (by decide) dX12_holdLogged_82 ok.1 ?_
  have ok := ok.2
  exact r_return rfl dX12_holdLogged_83 (hR _ hx)
def F_holdLogged_0 (N : Nat) (x1 : Int32) (x2 : Int32) (S : rS) : rS := (if (S.2.1 66 (((nI 64) * x1) + x2).toNatClampNeg) = (nI 1) then (if (f_isThere N S ((nI 0) + (f_heldAt N S x1 (S.2.1 44 x1.toNatClampNeg) (S.2.1 67 (((nI 64) * x1) + x2).toNatClampNeg)))) = 0 then (F_holdLogged_68 N (((nI 64) * x1) + x2) ((nI 0) + (f_heldAt N S x1 (S.2.1 44 x1.toNatClampNeg) (S.2.1 67 (((nI 64) * x1) + x2).toNatClampNeg))) (f_copyBlock N S (((nI 1144) + ((nI 16) * x1)) + (S.2.1 67 (((nI 64) * x1) + x2).toNatClampNeg)) ((nI 0) + (f_heldAt N S x1 (S.2.1 44 x1.toNatClampNeg) (S.2.1 67 (((nI 64) * x1) + x2).toNatClampNeg))))) else S) else (if (S.2.1 66 (((nI 64) * x1) + x2).toNatClampNeg) = (nI 3) then (F_holdLogged_99 N x1 (((nI 64) * x1) + x2) (S.2.1 67 (((nI 64) * x1) + x2).toNatClampNeg) (nI 1) S) else (F_holdLogged_99 N x1 (((nI 64) * x1) + x2) (S.2.1 67 (((nI 64) * x1) + x2).toNatClampNeg) (nI 0) S)))
def O_holdLogged_0 (N : Nat) (x1 : Int32) (x2 : Int32) (S : rS) : Prop := (vp_in (((nI 64) * x1) + x2) 832) ∧ (vp_in (((nI 64) * x1) + x2) 832) ∧ (((S.2.1 66 (((nI 64) * x1) + x2).toNatClampNeg) = (nI 1) → (vp_in x1 13) ∧ (o_heldAt N S x1 (S.2.1 44 x1.toNatClampNeg) (S.2.1 67 (((nI 64) * x1) + x2).toNatClampNeg)) ∧ (o_isThere N S ((nI 0) + (f_heldAt N S x1 (S.2.1 44 x1.toNatClampNeg) (S.2.1 67 (((nI 64) * x1) + x2).toNatClampNeg)))) ∧ (((f_isThere N S ((nI 0) + (f_heldAt N S x1 (S.2.1 44 x1.toNatClampNeg) (S.2.1 67 (((nI 64) * x1) + x2).toNatClampNeg)))) = 0 → (o_copyBlock N S (((nI 1144) + ((nI 16) * x1)) + (S.2.1 67 (((nI 64) * x1) + x2).toNatClampNeg)) ((nI 0) + (f_heldAt N S x1 (S.2.1 44 x1.toNatClampNeg) (S.2.1 67 (((nI 64) * x1) + x2).toNatClampNeg)))) ∧ O_holdLogged_68 N (((nI 64) * x1) + x2) ((nI 0) + (f_heldAt N S x1 (S.2.1 44 x1.toNatClampNeg) (S.2.1 67 (((nI 64) * x1) + x2).toNatClampNeg))) (f_copyBlock N S (((nI 1144) + ((nI 16) * x1)) + (S.2.1 67 (((nI 64) * x1) + x2).toNatClampNeg)) ((nI 0) + (f_heldAt N S x1 (S.2.1 44 x1.toNatClampNeg) (S.2.1 67 (((nI 64) * x1) + x2).toNatClampNeg))))) ∧ (¬ (f_isThere N S ((nI 0) + (f_heldAt N S x1 (S.2.1 44 x1.toNatClampNeg) (S.2.1 67 (((nI 64) * x1) + x2).toNatClampNeg)))) = 0 → True))) ∧ (¬ (S.2.1 66 (((nI 64) * x1) + x2).toNatClampNeg) = (nI 1) → (vp_in (((nI 64) * x1) + x2) 832) ∧ (((S.2.1 66 (((nI 64) * x1) + x2).toNatClampNeg) = (nI 3) → O_holdLogged_99 N x1 (((nI 64) * x1) + x2) (S.2.1 67 (((nI 64) * x1) + x2).toNatClampNeg) (nI 1) S) ∧ (¬ (S.2.1 66 (((nI 64) * x1) + x2).toNatClampNeg) = (nI 3) → O_holdLogged_99 N x1 (((nI 64) * x1) + x2) (S.2.1 67 (((nI 64) * x1) + x2).toNatClampNeg) (nI 0) S))))
set_option maxHeartbeats 4000000 in
theorem b_holdLogged_0 {G : zG} {E : rE} {S : rS} {N : Nat} {Q : Option Value → rS → Prop} {X : rS → Prop} (hG : zOK G) (hR : ∀ S', X S' → Q none S') {x1 : Int32} {x2 : Int32} (ok : O_holdLogged_0 N x1 x2 S) (hx : X (F_holdLogged_0 N x1 x2 S)) : rX G E dX12_holdLogged mX12_holdLogged 0 [some (.ref E.1), some (.int x1), some (.int x2), none, none, none] [] S Q := by
  unfold O_holdLogged_0 at ok
  unfold F_holdLogged_0 at hx
  refine r_bipush (v := nI 64) dX12_holdLogged_0 (by decide) ?_
  refine r_iload_n dX12_holdLogged_2 rfl rfl ?_
  refine r_imul dX12_holdLogged_3 ?_
  refine r_iload_n dX12_holdLogged_4 rfl rfl ?_
  refine r_iadd dX12_holdLogged_5 ?_
  refine r_istore_3 dX12_holdLogged_6 (by decide) rfl ?_
  refine r_aload_n dX12_holdLogged_7 rfl rfl ?_
  refine r_getA 67 fX12_378 (by decide) (by decide) dX12_holdLogged_8 ?_
  refine r_iload_n dX12_holdLogged_11 rfl rfl ?_
  refine r_iald (by decide) (by decide) dX12_holdLogged_12 ok.1 ?_
  have ok := ok.2
  refine r_istore_4 dX12_holdLogged_13 (by decide) rfl ?_
  refine r_aload_n dX12_holdLogged_15 rfl rfl ?_
  refine r_getA 66 fX12_375 (by decide) (by decide) dX12_holdLogged_16 ?_
  refine r_iload_n dX12_holdLogged_19 rfl rfl ?_
  refine r_iald (by decide) (by decide) dX12_holdLogged_20 ok.1 ?_
  have ok := ok.2
  refine r_iconst (v := nI 1) dX12_holdLogged_21 (by decide) ?_
  refine r_icmp_ne (tgt := 84) dX12_holdLogged_22 (by decide) (fun c_22 => ?_) (fun c_22 => ?_)
  · have ok := ok.2 c_22
    have hx := xif_n c_22 hx
    refine r_aload_n dX12_holdLogged_84 rfl rfl ?_
    refine r_getA 66 fX12_375 (by decide) (by decide) dX12_holdLogged_85 ?_
    refine r_iload_n dX12_holdLogged_88 rfl rfl ?_
    refine r_iald (by decide) (by decide) dX12_holdLogged_89 ok.1 ?_
    have ok := ok.2
    refine r_iconst (v := nI 3) dX12_holdLogged_90 (by decide) ?_
    refine r_icmp_ne (tgt := 98) dX12_holdLogged_91 (by decide) (fun c_91 => ?_) (fun c_91 => ?_)
    · have ok := ok.2 c_91
      have hx := xif_n c_91 hx
      refine r_iconst (v := nI 0) dX12_holdLogged_98 (by decide) ?_
      exact rX.cutz (b_holdLogged_99 hG hR ok hx) ⟨rfl, rfl, rfl, rfl, trivial⟩
    · have ok := ok.1 c_91
      have hx := xif_p c_91 hx
      refine r_iconst (v := nI 1) dX12_holdLogged_94 (by decide) ?_
      refine r_goto (tgt := 99) dX12_holdLogged_95 (by decide) ?_
      exact rX.cutz (b_holdLogged_99 hG hR ok hx) ⟨rfl, rfl, rfl, rfl, trivial⟩
  · have ok := ok.1 c_22
    have hx := xif_p c_22 hx
    refine r_iconst (v := nI 0) dX12_holdLogged_25 (by decide) ?_
    refine r_iload_n dX12_holdLogged_26 rfl rfl ?_
    refine r_aload_n dX12_holdLogged_27 rfl rfl ?_
    refine r_getA 44 fX12_309 (by decide) (by decide) dX12_holdLogged_28 ?_
    refine r_iload_n dX12_holdLogged_31 rfl rfl ?_
    refine r_iald (by decide) (by decide) dX12_holdLogged_32 ok.1 ?_
    have ok := ok.2
    refine r_iload dX12_holdLogged_33 rfl ?_
    refine r_S3i (y' := mX12_heldAt) dX12_holdLogged_35 lX12_466 kX12_heldAt ⟨by decide, by decide⟩ (Nat.le_of_ble_eq_true rfl) (rc_X12_heldAt hG ok.1) (fun v_35 S_35 h_35 => ?_)
    obtain ⟨rfl, hS_35⟩ := h_35
    have hS_35 := hS_35.symm
    subst hS_35
    have ok := ok.2
    refine r_iadd dX12_holdLogged_38 ?_
    refine r_istore_5 dX12_holdLogged_39 (by decide) rfl ?_
    refine r_aload_n dX12_holdLogged_41 rfl rfl ?_
    refine r_iload dX12_holdLogged_42 rfl ?_
    refine r_V1i (y' := mX12_isThere) dX12_holdLogged_44 lX12_63 kX12_isThere ⟨by decide, by decide⟩ rfl (Nat.le_of_ble_eq_true rfl) (rc_X12_isThere hG ok.1) (fun v_44 S_44 h_44 => ?_)
    obtain ⟨rfl, hS_44⟩ := h_44
    have hS_44 := hS_44.symm
    subst hS_44
    have ok := ok.2
    refine r_if_eq (tgt := 51) dX12_holdLogged_47 (by decide) (fun c_47 => ?_) (fun c_47 => ?_)
    · have ok := ok.1 c_47
      have hx := xif_p c_47 hx
      refine r_aload_n dX12_holdLogged_51 rfl rfl ?_
      refine r_sipush (v := nI 1144) dX12_holdLogged_52 (by decide) ?_
      refine r_bipush (v := nI 16) dX12_holdLogged_55 (by decide) ?_
      refine r_iload_n dX12_holdLogged_57 rfl rfl ?_
      refine r_imul dX12_holdLogged_58 ?_
      refine r_iadd dX12_holdLogged_59 ?_
      refine r_iload dX12_holdLogged_60 rfl ?_
      refine r_iadd dX12_holdLogged_62 ?_
      refine r_iload dX12_holdLogged_63 rfl ?_
      refine r_V2v (y' := mX12_copyBlock) dX12_holdLogged_65 lX12_507 kX12_copyBlock ⟨by decide, by decide⟩ rfl (Nat.le_of_ble_eq_true rfl) (rc_X12_copyBlock hG ok.1) (fun S_65 h_65 => ?_)
      subst h_65
      have ok := ok.2
      exact rX.cutz (b_holdLogged_68 hG hR ok hx) ⟨rfl, rfl, rfl, trivial⟩
    · have ok := ok.2 c_47
      have hx := xif_n c_47 hx
      exact r_return rfl dX12_holdLogged_50 (hR _ hx)
def f_holdLogged (N : Nat) (S : rS) (x1 : Int32) (x2 : Int32) : rS := F_holdLogged_0 N x1 x2 S
def o_holdLogged (N : Nat) (S : rS) (x1 : Int32) (x2 : Int32) : Prop := O_holdLogged_0 N x1 x2 S
set_option maxHeartbeats 4000000 in
theorem rc_X12_holdLogged {G : zG} {E : rE} {S : rS} {N : Nat} (hG : zOK G) {x1 : Int32} {x2 : Int32} (ok : o_holdLogged N S x1 x2) : rCv G E dX12_holdLogged mX12_holdLogged [.ref E.1, .int x1, .int x2] S (fun S' => S' = f_holdLogged N S x1 x2) := by
  refine rC.ofX rfl (Nat.le_of_ble_eq_true rfl) ?_
  show rX G E dX12_holdLogged mX12_holdLogged 0 [some (.ref E.1), some (.int x1), some (.int x2), none, none, none] [] S _
  exact rX.cutz (b_holdLogged_0 (X := fun F => F = f_holdLogged N S x1 x2) hG (fun S' h => ⟨rfl, h⟩) ok rfl) ⟨rfl, rfl, rfl, trivial⟩
/-! sendLogged -/
def F_sendLogged_21 (N : Nat) (x1 : Int32) (x2 : Int32) (S : rS) : rS := (f_holdLogged N S x1 x2)
def O_sendLogged_21 (N : Nat) (x1 : Int32) (x2 : Int32) (S : rS) : Prop := (o_holdLogged N S x1 x2) ∧ True
set_option maxHeartbeats 4000000 in
theorem b_sendLogged_21 {G : zG} {E : rE} {S : rS} {N : Nat} {Q : Option Value → rS → Prop} {X : rS → Prop} (hG : zOK G) (hR : ∀ S', X S' → Q none S') {x1 : Int32} {x2 : Int32} (ok : O_sendLogged_21 N x1 x2 S) (hx : X (F_sendLogged_21 N x1 x2 S)) : rX G E dX12_sendLogged mX12_sendLogged 21 [some (.ref E.1), some (.int x1), some (.int x2)] [] S Q := by
  unfold O_sendLogged_21 at ok
  unfold F_sendLogged_21 at hx
  refine r_aload_n dX12_sendLogged_21 rfl rfl ?_
  refine r_iload_n dX12_sendLogged_22 rfl rfl ?_
  refine r_iload_n dX12_sendLogged_23 rfl rfl ?_
  refine r_V2v (y' := mX12_holdLogged) dX12_sendLogged_24 lX12_517 kX12_holdLogged ⟨by decide, by decide⟩ rfl (Nat.le_of_ble_eq_true rfl) (rc_X12_holdLogged hG ok.1) (fun S_24 h_24 => ?_)
  subst h_24
  have ok := ok.2
  exact r_return rfl dX12_sendLogged_27 (hR _ hx)
def F_sendLogged_0 (N : Nat) (x1 : Int32) (S : rS) : rS := (F_sendLogged_21 N x1 (S.2.1 65 x1.toNatClampNeg) (f_flyAll N (rsA S 65 x1.toNatClampNeg ((S.2.1 65 x1.toNatClampNeg) + (nI 1))) x1))
def O_sendLogged_0 (N : Nat) (x1 : Int32) (S : rS) : Prop := (vp_in x1 13) ∧ (vp_in x1 13) ∧ (o_flyAll N (rsA S 65 x1.toNatClampNeg ((S.2.1 65 x1.toNatClampNeg) + (nI 1))) x1) ∧ O_sendLogged_21 N x1 (S.2.1 65 x1.toNatClampNeg) (f_flyAll N (rsA S 65 x1.toNatClampNeg ((S.2.1 65 x1.toNatClampNeg) + (nI 1))) x1)
set_option maxHeartbeats 4000000 in
theorem b_sendLogged_0 {G : zG} {E : rE} {S : rS} {N : Nat} {Q : Option Value → rS → Prop} {X : rS → Prop} (hG : zOK G) (hR : ∀ S', X S' → Q none S') {x1 : Int32} (ok : O_sendLogged_0 N x1 S) (hx : X (F_sendLogged_0 N x1 S)) : rX G E dX12_sendLogged mX12_sendLogged 0 [some (.ref E.1), some (.int x1), none] [] S Q := by
  unfold O_sendLogged_0 at ok
  unfold F_sendLogged_0 at hx
  refine r_aload_n dX12_sendLogged_0 rfl rfl ?_
  refine r_getA 65 fX12_372 (by decide) (by decide) dX12_sendLogged_1 ?_
  refine r_iload_n dX12_sendLogged_4 rfl rfl ?_
  refine r_iald (by decide) (by decide) dX12_sendLogged_5 ok.1 ?_
  have ok := ok.2
  refine r_istore_2 dX12_sendLogged_6 (by decide) rfl ?_
  refine r_aload_n dX12_sendLogged_7 rfl rfl ?_
  refine r_getA 65 fX12_372 (by decide) (by decide) dX12_sendLogged_8 ?_
  refine r_iload_n dX12_sendLogged_11 rfl rfl ?_
  refine r_iload_n dX12_sendLogged_12 rfl rfl ?_
  refine r_iconst (v := nI 1) dX12_sendLogged_13 (by decide) ?_
  refine r_iadd dX12_sendLogged_14 ?_
  refine r_iast hG (by decide) (by decide) dX12_sendLogged_15 ok.1 ?_
  have ok := ok.2
  refine r_aload_n dX12_sendLogged_16 rfl rfl ?_
  refine r_iload_n dX12_sendLogged_17 rfl rfl ?_
  refine r_V1v (y' := mX12_flyAll) dX12_sendLogged_18 lX12_514 kX12_flyAll ⟨by decide, by decide⟩ rfl (Nat.le_of_ble_eq_true rfl) (rc_X12_flyAll hG ok.1) (fun S_18 h_18 => ?_)
  subst h_18
  have ok := ok.2
  exact rX.cutz (b_sendLogged_21 hG hR ok hx) ⟨rfl, rfl, rfl, trivial⟩
def f_sendLogged (N : Nat) (S : rS) (x1 : Int32) : rS := F_sendLogged_0 N x1 S
def o_sendLogged (N : Nat) (S : rS) (x1 : Int32) : Prop := O_sendLogged_0 N x1 S
set_option maxHeartbeats 4000000 in
theorem rc_X12_sendLogged {G : zG} {E : rE} {S : rS} {N : Nat} (hG : zOK G) {x1 : Int32} (ok : o_sendLogged N S x1) : rCv G E dX12_sendLogged mX12_sendLogged [.ref E.1, .int x1] S (fun S' => S' = f_sendLogged N S x1) := by
  refine rC.ofX rfl (Nat.le_of_ble_eq_true rfl) ?_
  show rX G E dX12_sendLogged mX12_sendLogged 0 [some (.ref E.1), some (.int x1), none] [] S _
  exact rX.cutz (b_sendLogged_0 (X := fun F => F = f_sendLogged N S x1) hG (fun S' h => ⟨rfl, h⟩) ok rfl) ⟨rfl, rfl, trivial⟩

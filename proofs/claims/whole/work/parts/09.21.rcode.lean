/-! lie -/
def F_lie_85 (N : Nat) (s0 : Int32) (S : rS) : Int32 × rS := (s0, S)
def O_lie_85 (N : Nat) (s0 : Int32) (S : rS) : Prop := narrow .boolean (.int s0) = .int s0
set_option maxHeartbeats 4000000 in
theorem b_lie_85 {G : zG} {E : rE} {S : rS} {N : Nat} {Q : Option Value → rS → Prop} {X : Int32 × rS → Prop} (hG : zOK G) (hR : ∀ v S', X (v, S') → Q (some (.int v)) S') {s0 : Int32} (ok : O_lie_85 N s0 S) (hx : X (F_lie_85 N s0 S)) : rX G E dX12_lie mX12_lie 85 [none, none, none, none, none] [.int s0] S Q := by
  unfold O_lie_85 at ok
  unfold F_lie_85 at hx
  exact r_ireturn rfl ok dX12_lie_85 (hR _ _ hx)
def F_lie_74 (N : Nat) (x1 : Int32) (x2 : Int32) (S : rS) : Int32 × rS := (F_lie_85 N ((f_fly N (rsI S 22 (nI 0)) x1 x2).1) (f_fly N (rsI S 22 (nI 0)) x1 x2).2)
def O_lie_74 (N : Nat) (x1 : Int32) (x2 : Int32) (S : rS) : Prop := (o_fly N (rsI S 22 (nI 0)) x1 x2) ∧ O_lie_85 N ((f_fly N (rsI S 22 (nI 0)) x1 x2).1) (f_fly N (rsI S 22 (nI 0)) x1 x2).2
set_option maxHeartbeats 4000000 in
theorem b_lie_74 {G : zG} {E : rE} {S : rS} {N : Nat} {Q : Option Value → rS → Prop} {X : Int32 × rS → Prop} (hG : zOK G) (hR : ∀ v S', X (v, S') → Q (some (.int v)) S') {x1 : Int32} {x2 : Int32} (ok : O_lie_74 N x1 x2 S) (hx : X (F_lie_74 N x1 x2 S)) : rX G E dX12_lie mX12_lie 74 [some (.ref E.1), some (.int x1), some (.int x2), none, none] [] S Q := by
  unfold O_lie_74 at ok
  unfold F_lie_74 at hx
  refine r_aload_n dX12_lie_74 rfl rfl ?_
  refine r_iconst (v := nI 0) dX12_lie_75 (by decide) ?_
  refine r_putI 22 fX12_133 (by decide) (by decide) rfl rfl rfl dX12_lie_76 ?_
  refine r_aload_n dX12_lie_79 rfl rfl ?_
  refine r_iload_n dX12_lie_80 rfl rfl ?_
  refine r_iload_n dX12_lie_81 rfl rfl ?_
  refine r_V2i (y' := mX12_fly) dX12_lie_82 lX12_222 kX12_fly ⟨by decide, by decide⟩ rfl (Nat.le_of_ble_eq_true rfl) (rc_X12_fly hG ok.1) (fun v_82 S_82 h_82 => ?_)
  obtain ⟨rfl, hS_82⟩ := h_82
  have hS_82 := hS_82.symm
  subst hS_82
  have ok := ok.2
  exact rX.cutz (b_lie_85 hG hR ok hx) trivial
def F_lie_62 (N : Nat) (x1 : Int32) (x2 : Int32) (s0 : Int32) (S : rS) : Int32 × rS := (if s0 = 0 then (F_lie_74 N x1 x2 S) else (if (f_tellsHonest N S) = 0 then (F_lie_74 N x1 x2 S) else ((nI 0), S)))
def O_lie_62 (N : Nat) (x1 : Int32) (x2 : Int32) (s0 : Int32) (S : rS) : Prop := ((s0 = 0 → O_lie_74 N x1 x2 S) ∧ (¬ s0 = 0 → (o_tellsHonest N S) ∧ (((f_tellsHonest N S) = 0 → O_lie_74 N x1 x2 S) ∧ (¬ (f_tellsHonest N S) = 0 → True))))
set_option maxHeartbeats 4000000 in
theorem b_lie_62 {G : zG} {E : rE} {S : rS} {N : Nat} {Q : Option Value → rS → Prop} {X : Int32 × rS → Prop} (hG : zOK G) (hR : ∀ v S', X (v, S') → Q (some (.int v)) S') {x1 : Int32} {x2 : Int32} {s0 : Int32} (ok : O_lie_62 N x1 x2 s0 S) (hx : X (F_lie_62 N x1 x2 s0 S)) : rX G E dX12_lie mX12_lie 62 [some (.ref E.1), some (.int x1), some (.int x2), none, none] [.int s0] S Q := by
  unfold O_lie_62 at ok
  unfold F_lie_62 at hx
  refine r_if_eq (tgt := 74) dX12_lie_62 (by decide) (fun c_62 => ?_) (fun c_62 => ?_)
  · have ok := ok.1 c_62
    have hx := xif_p c_62 hx
    exact rX.cutz (b_lie_74 hG hR ok hx) ⟨rfl, rfl, rfl, trivial⟩
  · have ok := ok.2 c_62
    have hx := xif_n c_62 hx
    refine r_aload_n dX12_lie_65 rfl rfl ?_
    refine r_V0i (y' := mX12_tellsHonest) dX12_lie_66 lX12_700 kX12_tellsHonest ⟨by decide, by decide⟩ rfl (Nat.le_of_ble_eq_true rfl) (rc_X12_tellsHonest hG ok.1) (fun v_66 S_66 h_66 => ?_)
    obtain ⟨rfl, hS_66⟩ := h_66
    have hS_66 := hS_66.symm
    subst hS_66
    have ok := ok.2
    refine r_if_eq (tgt := 74) dX12_lie_69 (by decide) (fun c_69 => ?_) (fun c_69 => ?_)
    · have ok := ok.1 c_69
      have hx := xif_p c_69 hx
      exact rX.cutz (b_lie_74 hG hR ok hx) ⟨rfl, rfl, rfl, trivial⟩
    · have ok := ok.2 c_69
      have hx := xif_n c_69 hx
      refine r_iconst (v := nI 0) dX12_lie_72 (by decide) ?_
      exact r_ireturn rfl rfl dX12_lie_73 (hR _ _ hx)
def F_lie_58 (N : Nat) (x1 : Int32) (x2 : Int32) (S : rS) : Int32 × rS := (F_lie_62 N x1 x2 ((f_read N S).1) (f_read N S).2)
def O_lie_58 (N : Nat) (x1 : Int32) (x2 : Int32) (S : rS) : Prop := (o_read N S) ∧ O_lie_62 N x1 x2 ((f_read N S).1) (f_read N S).2
set_option maxHeartbeats 4000000 in
theorem b_lie_58 {G : zG} {E : rE} {S : rS} {N : Nat} {Q : Option Value → rS → Prop} {X : Int32 × rS → Prop} (hG : zOK G) (hR : ∀ v S', X (v, S') → Q (some (.int v)) S') {x1 : Int32} {x2 : Int32} (ok : O_lie_58 N x1 x2 S) (hx : X (F_lie_58 N x1 x2 S)) : rX G E dX12_lie mX12_lie 58 [some (.ref E.1), some (.int x1), some (.int x2), none, none] [] S Q := by
  unfold O_lie_58 at ok
  unfold F_lie_58 at hx
  refine r_aload_n dX12_lie_58 rfl rfl ?_
  refine r_V0i (y' := mX12_read) dX12_lie_59 lX12_649 kX12_read ⟨by decide, by decide⟩ rfl (Nat.le_of_ble_eq_true rfl) (rc_X12_read hG ok.1) (fun v_59 S_59 h_59 => ?_)
  obtain ⟨rfl, hS_59⟩ := h_59
  have hS_59 := hS_59.symm
  subst hS_59
  have ok := ok.2
  exact rX.cutz (b_lie_62 hG hR ok hx) ⟨rfl, rfl, rfl, trivial⟩
def B_lie_32 (N : Nat) (rec : Int32 → Int32 → Int32 → Int32 → rS → Nat × Int32 × Int32 × rS) (x1 : Int32) (x2 : Int32) (x3 : Int32) (x4 : Int32) (S : rS) : Nat × Int32 × Int32 × rS := (if x3 ≤ x4 then (0, x1, x2, S) else (rec x1 x2 x3 (x4 + nI 1) (rsA S 32 x4.toNatClampNeg (S.2.1 21 x4.toNatClampNeg))))
def OB_lie_32 (N : Nat) (rok : Int32 → Int32 → Int32 → Int32 → rS → Prop) (x1 : Int32) (x2 : Int32) (x3 : Int32) (x4 : Int32) (S : rS) : Prop := ((x3 ≤ x4 → True) ∧ (¬ x3 ≤ x4 → (vp_in x4 1000) ∧ (vp_in x4 1010) ∧ rok x1 x2 x3 (x4 + nI 1) (rsA S 32 x4.toNatClampNeg (S.2.1 21 x4.toNatClampNeg))))
set_option maxHeartbeats 4000000 in
theorem bb_lie_32 {G : zG} {E : rE} {S : rS} {N : Nat} {Q : Option Value → rS → Prop} {X : Nat × Int32 × Int32 × rS → Prop} (hG : zOK G) (hX0 : ∀ (x1 : Int32) (x2 : Int32) (S' : rS), X (0, x1, x2, S') → rX G E dX12_lie mX12_lie 58 [some (.ref E.1), some (.int x1), some (.int x2), none, none] [] S' Q) {rec : Int32 → Int32 → Int32 → Int32 → rS → Nat × Int32 × Int32 × rS} {rok : Int32 → Int32 → Int32 → Int32 → rS → Prop} (hrec : ∀ (x1 : Int32) (x2 : Int32) (x3 : Int32) (x4 : Int32) (S : rS), rok x1 x2 x3 x4 S → X (rec x1 x2 x3 x4 S) → rX G E dX12_lie mX12_lie 32 [some (.ref E.1), some (.int x1), some (.int x2), some (.int x3), some (.int x4)] [] S Q) {x1 : Int32} {x2 : Int32} {x3 : Int32} {x4 : Int32} (ok : OB_lie_32 N rok x1 x2 x3 x4 S) (hx : X (B_lie_32 N rec x1 x2 x3 x4 S)) : rX G E dX12_lie mX12_lie 32 [some (.ref E.1), some (.int x1), some (.int x2), some (.int x3), some (.int x4)] [] S Q := by
  unfold OB_lie_32 at ok
  unfold B_lie_32 at hx
  refine r_iload dX12_lie_32 rfl ?_
  refine r_iload_n dX12_lie_34 rfl rfl ?_
  refine r_icmp_ge (tgt := 58) dX12_lie_35 (by decide) (fun c_35 => ?_) (fun c_35 => ?_)
  · have ok := ok.1 c_35
    have hx := xif_p c_35 hx
    exact rX.cutz (hX0 _ _ S hx) ⟨rfl, rfl, rfl, trivial⟩
  · have ok := ok.2 c_35
    have hx := xif_n c_35 hx
    refine r_aload_n dX12_lie_38 rfl rfl ?_
    refine r_getA 32 fX12_204 (by decide) (by decide) dX12_lie_39 ?_
    refine r_iload dX12_lie_42 rfl ?_
    refine r_aload_n dX12_lie_44 rfl rfl ?_
    refine r_getA 21 fX12_130 (by decide) (by decide) dX12_lie_45 ?_
    refine r_iload dX12_lie_48 rfl ?_
    refine r_iald (by decide) (by decide) dX12_lie_50 ok.1 ?_
    have ok := ok.2
    refine r_iast hG (by decide) (by decide) dX12_lie_51 ok.1 ?_
    have ok := ok.2
    refine r_iinc_4 (v := (x4 + nI 1)) dX12_lie_52 rfl (by first | rfl | (congr 1)) (by decide) rfl ?_
    refine r_goto (tgt := 32) dX12_lie_55 (by decide) ?_
    exact rX.cutz (hrec _ _ _ _ (rsA S 32 x4.toNatClampNeg (S.2.1 21 x4.toNatClampNeg)) ok hx) ⟨rfl, rfl, rfl, rfl, rfl, trivial⟩
def L_lie_32 (N : Nat) : Nat → Int32 → Int32 → Int32 → Int32 → rS → Nat × Int32 × Int32 × rS
  | 0, x1, x2, x3, x4, S => (0, 0, 0, S)
  | n + 1, x1, x2, x3, x4, S => B_lie_32 N (L_lie_32 N n) x1 x2 x3 x4 S
def OL_lie_32 (N : Nat) : Nat → Int32 → Int32 → Int32 → Int32 → rS → Prop
  | 0, _, _, _, _, _ => False
  | n + 1, x1, x2, x3, x4, S => OB_lie_32 N (OL_lie_32 N n) x1 x2 x3 x4 S
set_option maxHeartbeats 4000000 in
theorem l_lie_32 {G : zG} {E : rE} {N : Nat} {Q : Option Value → rS → Prop} {X : Nat × Int32 × Int32 × rS → Prop} (hG : zOK G) (hX0 : ∀ (x1 : Int32) (x2 : Int32) (S' : rS), X (0, x1, x2, S') → rX G E dX12_lie mX12_lie 58 [some (.ref E.1), some (.int x1), some (.int x2), none, none] [] S' Q) : ∀ (n : Nat) (x1 : Int32) (x2 : Int32) (x3 : Int32) (x4 : Int32) (S : rS), OL_lie_32 N n x1 x2 x3 x4 S → X (L_lie_32 N n x1 x2 x3 x4 S) → rX G E dX12_lie mX12_lie 32 [some (.ref E.1), some (.int x1), some (.int x2), some (.int x3), some (.int x4)] [] S Q := by
  intro n
  induction n with
  | zero => intro x1 x2 x3 x4 S ok; exact absurd ok id
  | succ n ih =>
    intro x1 x2 x3 x4 S ok hx
    exact bb_lie_32 hG hX0 (rec := L_lie_32 N n) (rok := OL_lie_32 N n) (fun x1 x2 x3 x4 S ok hx => ih x1 x2 x3 x4 S ok hx) ok hx
def A_lie_32 (N : Nat) (x1 : Int32) (x2 : Int32) (x3 : Int32) (x4 : Int32) (S : rS) (z : Nat × Int32 × Int32 × rS) : Int32 × rS := (F_lie_58 N (z.2.1) (z.2.2.1) z.2.2.2)
def OA_lie_32 (N : Nat) (x1 : Int32) (x2 : Int32) (x3 : Int32) (x4 : Int32) (S : rS) (z : Nat × Int32 × Int32 × rS) : Prop := O_lie_58 N (z.2.1) (z.2.2.1) z.2.2.2
set_option maxHeartbeats 4000000 in
theorem c_lie_32 {G : zG} {E : rE} {S : rS} {N : Nat} {Q : Option Value → rS → Prop} {X : Int32 × rS → Prop} (hG : zOK G) (hR : ∀ v S', X (v, S') → Q (some (.int v)) S') {x1 : Int32} {x2 : Int32} {x3 : Int32} {x4 : Int32} (ok : OL_lie_32 N N x1 x2 x3 x4 S ∧ OA_lie_32 N x1 x2 x3 x4 S (L_lie_32 N N x1 x2 x3 x4 S)) (hx : X (A_lie_32 N x1 x2 x3 x4 S (L_lie_32 N N x1 x2 x3 x4 S))) : rX G E dX12_lie mX12_lie 32 [some (.ref E.1), some (.int x1), some (.int x2), some (.int x3), some (.int x4)] [] S Q := by
  refine l_lie_32 hG ?_ N x1 x2 x3 x4 S ok.1 (X := fun z => OA_lie_32 N x1 x2 x3 x4 S z ∧ X (A_lie_32 N x1 x2 x3 x4 S z)) ⟨ok.2, hx⟩
  · intro x1' x2' S' hz
    obtain ⟨ok, hx⟩ := hz
    unfold OA_lie_32 at ok
    unfold A_lie_32 at hx
    exact rX.cutz (b_lie_58 hG hR ok hx) ⟨rfl, rfl, rfl, trivial⟩
def F_lie_22 (N : Nat)  (S : rS) : Int32 × rS := ((nI 0), S)
def O_lie_22 (N : Nat)  (S : rS) : Prop := True
set_option maxHeartbeats 4000000 in
theorem b_lie_22 {G : zG} {E : rE} {S : rS} {N : Nat} {Q : Option Value → rS → Prop} {X : Int32 × rS → Prop} (hG : zOK G) (hR : ∀ v S', X (v, S') → Q (some (.int v)) S') (ok : O_lie_22 N S) (hx : X (F_lie_22 N S)) : rX G E dX12_lie mX12_lie 22 [none, none, none, none, none] [] S Q := by
  unfold O_lie_22 at ok
  unfold F_lie_22 at hx
  refine r_iconst (v := nI 0) dX12_lie_22 (by decide) ?_
  exact r_ireturn rfl rfl dX12_lie_23 (hR _ _ hx)
def F_lie_0 (N : Nat) (x1 : Int32) (x2 : Int32) (x3 : Int32) (S : rS) : Int32 × rS := (if (f_mayLie N S x1 x2) = 0 then (F_lie_22 N S) else (if x3 < (nI 1) then (F_lie_22 N S) else (if x3 ≤ (S.1 22) then (A_lie_32 N x1 x2 x3 (nI 0) (rsI S 33 x3) (L_lie_32 N N x1 x2 x3 (nI 0) (rsI S 33 x3))) else (F_lie_22 N S))))
def O_lie_0 (N : Nat) (x1 : Int32) (x2 : Int32) (x3 : Int32) (S : rS) : Prop := (o_mayLie N S x1 x2) ∧ (((f_mayLie N S x1 x2) = 0 → O_lie_22 N S) ∧ (¬ (f_mayLie N S x1 x2) = 0 → ((x3 < (nI 1) → O_lie_22 N S) ∧ (¬ x3 < (nI 1) → ((x3 ≤ (S.1 22) → (OL_lie_32 N N x1 x2 x3 (nI 0) (rsI S 33 x3) ∧ OA_lie_32 N x1 x2 x3 (nI 0) (rsI S 33 x3) (L_lie_32 N N x1 x2 x3 (nI 0) (rsI S 33 x3)))) ∧ (¬ x3 ≤ (S.1 22) → O_lie_22 N S))))))
set_option maxHeartbeats 4000000 in
theorem b_lie_0 {G : zG} {E : rE} {S : rS} {N : Nat} {Q : Option Value → rS → Prop} {X : Int32 × rS → Prop} (hG : zOK G) (hR : ∀ v S', X (v, S') → Q (some (.int v)) S') {x1 : Int32} {x2 : Int32} {x3 : Int32} (ok : O_lie_0 N x1 x2 x3 S) (hx : X (F_lie_0 N x1 x2 x3 S)) : rX G E dX12_lie mX12_lie 0 [some (.ref E.1), some (.int x1), some (.int x2), some (.int x3), none] [] S Q := by
  unfold O_lie_0 at ok
  unfold F_lie_0 at hx
  refine r_aload_n dX12_lie_0 rfl rfl ?_
  refine r_iload_n dX12_lie_1 rfl rfl ?_
  refine r_iload_n dX12_lie_2 rfl rfl ?_
  refine r_V2i (y' := mX12_mayLie) dX12_lie_3 lX12_697 kX12_mayLie ⟨by decide, by decide⟩ rfl (Nat.le_of_ble_eq_true rfl) (rc_X12_mayLie hG ok.1) (fun v_3 S_3 h_3 => ?_)
  obtain ⟨rfl, hS_3⟩ := h_3
  have hS_3 := hS_3.symm
  subst hS_3
  have ok := ok.2
  refine r_if_eq (tgt := 22) dX12_lie_6 (by decide) (fun c_6 => ?_) (fun c_6 => ?_)
  · have ok := ok.1 c_6
    have hx := xif_p c_6 hx
    exact rX.cutz (b_lie_22 hG hR ok hx) trivial
  · have ok := ok.2 c_6
    have hx := xif_n c_6 hx
    refine r_iload_n dX12_lie_9 rfl rfl ?_
    refine r_iconst (v := nI 1) dX12_lie_10 (by decide) ?_
    refine r_icmp_lt (tgt := 22) dX12_lie_11 (by decide) (fun c_11 => ?_) (fun c_11 => ?_)
    · have ok := ok.1 c_11
      have hx := xif_p c_11 hx
      exact rX.cutz (b_lie_22 hG hR ok hx) trivial
    · have ok := ok.2 c_11
      have hx := xif_n c_11 hx
      refine r_iload_n dX12_lie_14 rfl rfl ?_
      refine r_aload_n dX12_lie_15 rfl rfl ?_
      refine r_getI 22 fX12_133 (by decide) (by decide) dX12_lie_16 ?_
      refine r_icmp_le (tgt := 24) dX12_lie_19 (by decide) (fun c_19 => ?_) (fun c_19 => ?_)
      · have ok := ok.1 c_19
        have hx := xif_p c_19 hx
        refine r_aload_n dX12_lie_24 rfl rfl ?_
        refine r_iload_n dX12_lie_25 rfl rfl ?_
        refine r_putI 33 fX12_201 (by decide) (by decide) rfl rfl rfl dX12_lie_26 ?_
        refine r_iconst (v := nI 0) dX12_lie_29 (by decide) ?_
        refine r_istore_4 dX12_lie_30 (by decide) rfl ?_
        exact rX.cutz (c_lie_32 hG hR ok hx) ⟨rfl, rfl, rfl, rfl, rfl, trivial⟩
      · have ok := ok.2 c_19
        have hx := xif_n c_19 hx
        exact rX.cutz (b_lie_22 hG hR ok hx) trivial
def f_lie (N : Nat) (S : rS) (x1 : Int32) (x2 : Int32) (x3 : Int32) : Int32 × rS := F_lie_0 N x1 x2 x3 S
def o_lie (N : Nat) (S : rS) (x1 : Int32) (x2 : Int32) (x3 : Int32) : Prop := O_lie_0 N x1 x2 x3 S
set_option maxHeartbeats 4000000 in
theorem rc_X12_lie {G : zG} {E : rE} {S : rS} {N : Nat} (hG : zOK G) {x1 : Int32} {x2 : Int32} {x3 : Int32} (ok : o_lie N S x1 x2 x3) : rCi G E dX12_lie mX12_lie [.ref E.1, .int x1, .int x2, .int x3] S (fun v S' => v = (f_lie N S x1 x2 x3).1 ∧ S' = (f_lie N S x1 x2 x3).2) := by
  refine rC.ofX rfl (Nat.le_of_ble_eq_true rfl) ?_
  show rX G E dX12_lie mX12_lie 0 [some (.ref E.1), some (.int x1), some (.int x2), some (.int x3), none] [] S _
  exact rX.cutz (b_lie_0 (X := fun F => F = f_lie N S x1 x2 x3) hG (fun v S' h => ⟨v, rfl, by rw [← h], by rw [← h]⟩) ok rfl) ⟨rfl, rfl, rfl, rfl, trivial⟩
/-! pass -/
def F_pass_30 (N : Nat) (s0 : Int32) (S : rS) : Int32 × rS := (s0, S)
def O_pass_30 (N : Nat) (s0 : Int32) (S : rS) : Prop := narrow .boolean (.int s0) = .int s0
set_option maxHeartbeats 4000000 in
theorem b_pass_30 {G : zG} {E : rE} {S : rS} {N : Nat} {Q : Option Value → rS → Prop} {X : Int32 × rS → Prop} (hG : zOK G) (hR : ∀ v S', X (v, S') → Q (some (.int v)) S') {s0 : Int32} (ok : O_pass_30 N s0 S) (hx : X (F_pass_30 N s0 S)) : rX G E dX12_pass mX12_pass 30 [none, none, none, none] [.int s0] S Q := by
  unfold O_pass_30 at ok
  unfold F_pass_30 at hx
  exact r_ireturn rfl ok dX12_pass_30 (hR _ _ hx)
def F_pass_24 (N : Nat) (x1 : Int32) (x2 : Int32) (S : rS) : Int32 × rS := (F_pass_30 N ((f_fly N S x1 x2).1) (f_fly N S x1 x2).2)
def O_pass_24 (N : Nat) (x1 : Int32) (x2 : Int32) (S : rS) : Prop := (o_fly N S x1 x2) ∧ O_pass_30 N ((f_fly N S x1 x2).1) (f_fly N S x1 x2).2
set_option maxHeartbeats 4000000 in
theorem b_pass_24 {G : zG} {E : rE} {S : rS} {N : Nat} {Q : Option Value → rS → Prop} {X : Int32 × rS → Prop} (hG : zOK G) (hR : ∀ v S', X (v, S') → Q (some (.int v)) S') {x1 : Int32} {x2 : Int32} (ok : O_pass_24 N x1 x2 S) (hx : X (F_pass_24 N x1 x2 S)) : rX G E dX12_pass mX12_pass 24 [some (.ref E.1), some (.int x1), some (.int x2), none] [] S Q := by
  unfold O_pass_24 at ok
  unfold F_pass_24 at hx
  refine r_aload_n dX12_pass_24 rfl rfl ?_
  refine r_iload_n dX12_pass_25 rfl rfl ?_
  refine r_iload_n dX12_pass_26 rfl rfl ?_
  refine r_V2i (y' := mX12_fly) dX12_pass_27 lX12_222 kX12_fly ⟨by decide, by decide⟩ rfl (Nat.le_of_ble_eq_true rfl) (rc_X12_fly hG ok.1) (fun v_27 S_27 h_27 => ?_)
  obtain ⟨rfl, hS_27⟩ := h_27
  have hS_27 := hS_27.symm
  subst hS_27
  have ok := ok.2
  exact rX.cutz (b_pass_30 hG hR ok hx) trivial
def F_pass_17 (N : Nat)  (S : rS) : Int32 × rS := ((nI 0), S)
def O_pass_17 (N : Nat)  (S : rS) : Prop := True
set_option maxHeartbeats 4000000 in
theorem b_pass_17 {G : zG} {E : rE} {S : rS} {N : Nat} {Q : Option Value → rS → Prop} {X : Int32 × rS → Prop} (hG : zOK G) (hR : ∀ v S', X (v, S') → Q (some (.int v)) S') (ok : O_pass_17 N S) (hx : X (F_pass_17 N S)) : rX G E dX12_pass mX12_pass 17 [none, none, none, none] [] S Q := by
  unfold O_pass_17 at ok
  unfold F_pass_17 at hx
  refine r_iconst (v := nI 0) dX12_pass_17 (by decide) ?_
  exact r_ireturn rfl rfl dX12_pass_18 (hR _ _ hx)
def F_pass_0 (N : Nat) (x1 : Int32) (x2 : Int32) (x3 : Int32) (S : rS) : Int32 × rS := (if (f_mayLie N S x1 x2) = 0 then (F_pass_17 N S) else (if (f_isFlying N S x3) = 0 then (F_pass_17 N S) else (F_pass_24 N x1 x2 (f_load N S x3))))
def O_pass_0 (N : Nat) (x1 : Int32) (x2 : Int32) (x3 : Int32) (S : rS) : Prop := (o_mayLie N S x1 x2) ∧ (((f_mayLie N S x1 x2) = 0 → O_pass_17 N S) ∧ (¬ (f_mayLie N S x1 x2) = 0 → (o_isFlying N S x3) ∧ (((f_isFlying N S x3) = 0 → O_pass_17 N S) ∧ (¬ (f_isFlying N S x3) = 0 → (o_load N S x3) ∧ O_pass_24 N x1 x2 (f_load N S x3)))))
set_option maxHeartbeats 4000000 in
theorem b_pass_0 {G : zG} {E : rE} {S : rS} {N : Nat} {Q : Option Value → rS → Prop} {X : Int32 × rS → Prop} (hG : zOK G) (hR : ∀ v S', X (v, S') → Q (some (.int v)) S') {x1 : Int32} {x2 : Int32} {x3 : Int32} (ok : O_pass_0 N x1 x2 x3 S) (hx : X (F_pass_0 N x1 x2 x3 S)) : rX G E dX12_pass mX12_pass 0 [some (.ref E.1), some (.int x1), some (.int x2), some (.int x3)] [] S Q := by
  unfold O_pass_0 at ok
  unfold F_pass_0 at hx
  refine r_aload_n dX12_pass_0 rfl rfl ?_
  refine r_iload_n dX12_pass_1 rfl rfl ?_
  refine r_iload_n dX12_pass_2 rfl rfl ?_
  refine r_V2i (y' := mX12_mayLie) dX12_pass_3 lX12_697 kX12_mayLie ⟨by decide, by decide⟩ rfl (Nat.le_of_ble_eq_true rfl) (rc_X12_mayLie hG ok.1) (fun v_3 S_3 h_3 => ?_)
  obtain ⟨rfl, hS_3⟩ := h_3
  have hS_3 := hS_3.symm
  subst hS_3
  have ok := ok.2
  refine r_if_eq (tgt := 17) dX12_pass_6 (by decide) (fun c_6 => ?_) (fun c_6 => ?_)
  · have ok := ok.1 c_6
    have hx := xif_p c_6 hx
    exact rX.cutz (b_pass_17 hG hR ok hx) trivial
  · have ok := ok.2 c_6
    have hx := xif_n c_6 hx
    refine r_aload_n dX12_pass_9 rfl rfl ?_
    refine r_iload_n dX12_pass_10 rfl rfl ?_
    refine r_V1i (y' := mX12_isFlying) dX12_pass_11 lX12_167 kX12_isFlying ⟨by decide, by decide⟩ rfl (Nat.le_of_ble_eq_true rfl) (rc_X12_isFlying hG ok.1) (fun v_11 S_11 h_11 => ?_)
    obtain ⟨rfl, hS_11⟩ := h_11
    have hS_11 := hS_11.symm
    subst hS_11
    have ok := ok.2
    refine r_if_ne (tgt := 19) dX12_pass_14 (by decide) (fun c_14 => ?_) (fun c_14 => ?_)
    · have ok := ok.2 c_14
      have hx := xif_n c_14 hx
      refine r_aload_n dX12_pass_19 rfl rfl ?_
      refine r_iload_n dX12_pass_20 rfl rfl ?_
      refine r_V1v (y' := mX12_load) dX12_pass_21 lX12_703 kX12_load ⟨by decide, by decide⟩ rfl (Nat.le_of_ble_eq_true rfl) (rc_X12_load hG ok.1) (fun S_21 h_21 => ?_)
      subst h_21
      have ok := ok.2
      exact rX.cutz (b_pass_24 hG hR ok hx) ⟨rfl, rfl, rfl, trivial⟩
    · have ok := ok.1 c_14
      have hx := xif_p c_14 hx
      exact rX.cutz (b_pass_17 hG hR ok hx) trivial
def f_pass (N : Nat) (S : rS) (x1 : Int32) (x2 : Int32) (x3 : Int32) : Int32 × rS := F_pass_0 N x1 x2 x3 S
def o_pass (N : Nat) (S : rS) (x1 : Int32) (x2 : Int32) (x3 : Int32) : Prop := O_pass_0 N x1 x2 x3 S
set_option maxHeartbeats 4000000 in
theorem rc_X12_pass {G : zG} {E : rE} {S : rS} {N : Nat} (hG : zOK G) {x1 : Int32} {x2 : Int32} {x3 : Int32} (ok : o_pass N S x1 x2 x3) : rCi G E dX12_pass mX12_pass [.ref E.1, .int x1, .int x2, .int x3] S (fun v S' => v = (f_pass N S x1 x2 x3).1 ∧ S' = (f_pass N S x1 x2 x3).2) := by
  refine rC.ofX rfl (Nat.le_of_ble_eq_true rfl) ?_
  show rX G E dX12_pass mX12_pass 0 [some (.ref E.1), some (.int x1), some (.int x2), some (.int x3)] [] S _
  exact rX.cutz (b_pass_0 (X := fun F => F = f_pass N S x1 x2 x3) hG (fun v S' h => ⟨v, rfl, by rw [← h], by rw [← h]⟩) ok rfl) ⟨rfl, rfl, rfl, rfl, trivial⟩
/-! submit -/
def F_submit_144 (N : Nat)  (S : rS) : Int32 × rS := ((nI 1), S)
def O_submit_144 (N : Nat)  (S : rS) : Prop := True
set_option maxHeartbeats 4000000 in
theorem b_submit_144 {G : zG} {E : rE} {S : rS} {N : Nat} {Q : Option Value → rS → Prop} {X : Int32 × rS → Prop} (hG : zOK G) (hR : ∀ v S', X (v, S') → Q (some (.int v)) S') (ok : O_submit_144 N S) (hx : X (F_submit_144 N S)) : rX G E dX12_submit mX12_submit 144 [none, none, none, none, none, none, none, none] [] S Q := by
  unfold O_submit_144 at ok
  unfold F_submit_144 at hx
  refine r_iconst (v := nI 1) dX12_submit_144 (by decide) ?_
  exact r_ireturn rfl rfl dX12_submit_145 (hR _ _ hx)
def F_submit_139 (N : Nat) (x1 : Int32) (S : rS) : Int32 × rS := (F_submit_144 N (f_flyAll N S x1))
def O_submit_139 (N : Nat) (x1 : Int32) (S : rS) : Prop := (o_flyAll N S x1) ∧ O_submit_144 N (f_flyAll N S x1)
set_option maxHeartbeats 4000000 in
theorem b_submit_139 {G : zG} {E : rE} {S : rS} {N : Nat} {Q : Option Value → rS → Prop} {X : Int32 × rS → Prop} (hG : zOK G) (hR : ∀ v S', X (v, S') → Q (some (.int v)) S') {x1 : Int32} (ok : O_submit_139 N x1 S) (hx : X (F_submit_139 N x1 S)) : rX G E dX12_submit mX12_submit 139 [some (.ref E.1), some (.int x1), none, none, none, none, none, none] [] S Q := by
  unfold O_submit_139 at ok
  unfold F_submit_139 at hx
  refine r_aload_n dX12_submit_139 rfl rfl ?_
  refine r_iload_n dX12_submit_140 rfl rfl ?_
  refine r_V1v (y' := mX12_flyAll) dX12_submit_141 lX12_514 kX12_flyAll ⟨by decide, by decide⟩ rfl (Nat.le_of_ble_eq_true rfl) (rc_X12_flyAll hG ok.1) (fun S_141 h_141 => ?_)
  subst h_141
  have ok := ok.2
  exact rX.cutz (b_submit_144 hG hR ok hx) trivial
def F_submit_133 (N : Nat) (x1 : Int32) (x6 : Int32) (S : rS) : Int32 × rS := (F_submit_139 N x1 (f_write N S x6))
def O_submit_133 (N : Nat) (x1 : Int32) (x6 : Int32) (S : rS) : Prop := (o_write N S x6) ∧ O_submit_139 N x1 (f_write N S x6)
set_option maxHeartbeats 4000000 in
theorem b_submit_133 {G : zG} {E : rE} {S : rS} {N : Nat} {Q : Option Value → rS → Prop} {X : Int32 × rS → Prop} (hG : zOK G) (hR : ∀ v S', X (v, S') → Q (some (.int v)) S') {x1 : Int32} {x6 : Int32} (ok : O_submit_133 N x1 x6 S) (hx : X (F_submit_133 N x1 x6 S)) : rX G E dX12_submit mX12_submit 133 [some (.ref E.1), some (.int x1), none, none, none, none, some (.int x6), none] [] S Q := by
  unfold O_submit_133 at ok
  unfold F_submit_133 at hx
  refine r_aload_n dX12_submit_133 rfl rfl ?_
  refine r_iload dX12_submit_134 rfl ?_
  refine r_V1v (y' := mX12_write) dX12_submit_136 lX12_226 kX12_write ⟨by decide, by decide⟩ rfl (Nat.le_of_ble_eq_true rfl) (rc_X12_write hG ok.1) (fun S_136 h_136 => ?_)
  subst h_136
  have ok := ok.2
  exact rX.cutz (b_submit_139 hG hR ok hx) ⟨rfl, rfl, trivial⟩
def F_submit_127 (N : Nat) (x1 : Int32) (x5 : Int32) (x6 : Int32) (S : rS) : Int32 × rS := (F_submit_133 N x1 x6 (f_writeTwo N S x5))
def O_submit_127 (N : Nat) (x1 : Int32) (x5 : Int32) (x6 : Int32) (S : rS) : Prop := (o_writeTwo N S x5) ∧ O_submit_133 N x1 x6 (f_writeTwo N S x5)
set_option maxHeartbeats 4000000 in
theorem b_submit_127 {G : zG} {E : rE} {S : rS} {N : Nat} {Q : Option Value → rS → Prop} {X : Int32 × rS → Prop} (hG : zOK G) (hR : ∀ v S', X (v, S') → Q (some (.int v)) S') {x1 : Int32} {x5 : Int32} {x6 : Int32} (ok : O_submit_127 N x1 x5 x6 S) (hx : X (F_submit_127 N x1 x5 x6 S)) : rX G E dX12_submit mX12_submit 127 [some (.ref E.1), some (.int x1), none, none, none, some (.int x5), some (.int x6), none] [] S Q := by
  unfold O_submit_127 at ok
  unfold F_submit_127 at hx
  refine r_aload_n dX12_submit_127 rfl rfl ?_
  refine r_iload dX12_submit_128 rfl ?_
  refine r_V1v (y' := mX12_writeTwo) dX12_submit_130 lX12_229 kX12_writeTwo ⟨by decide, by decide⟩ rfl (Nat.le_of_ble_eq_true rfl) (rc_X12_writeTwo hG ok.1) (fun S_130 h_130 => ?_)
  subst h_130
  have ok := ok.2
  exact rX.cutz (b_submit_133 hG hR ok hx) ⟨rfl, rfl, rfl, trivial⟩
def F_submit_121 (N : Nat) (x1 : Int32) (x4 : Int32) (x5 : Int32) (x6 : Int32) (S : rS) : Int32 × rS := (F_submit_127 N x1 x5 x6 (f_writeTwo N S x4))
def O_submit_121 (N : Nat) (x1 : Int32) (x4 : Int32) (x5 : Int32) (x6 : Int32) (S : rS) : Prop := (o_writeTwo N S x4) ∧ O_submit_127 N x1 x5 x6 (f_writeTwo N S x4)
set_option maxHeartbeats 4000000 in
theorem b_submit_121 {G : zG} {E : rE} {S : rS} {N : Nat} {Q : Option Value → rS → Prop} {X : Int32 × rS → Prop} (hG : zOK G) (hR : ∀ v S', X (v, S') → Q (some (.int v)) S') {x1 : Int32} {x4 : Int32} {x5 : Int32} {x6 : Int32} (ok : O_submit_121 N x1 x4 x5 x6 S) (hx : X (F_submit_121 N x1 x4 x5 x6 S)) : rX G E dX12_submit mX12_submit 121 [some (.ref E.1), some (.int x1), none, none, some (.int x4), some (.int x5), some (.int x6), none] [] S Q := by
  unfold O_submit_121 at ok
  unfold F_submit_121 at hx
  refine r_aload_n dX12_submit_121 rfl rfl ?_
  refine r_iload dX12_submit_122 rfl ?_
  refine r_V1v (y' := mX12_writeTwo) dX12_submit_124 lX12_229 kX12_writeTwo ⟨by decide, by decide⟩ rfl (Nat.le_of_ble_eq_true rfl) (rc_X12_writeTwo hG ok.1) (fun S_124 h_124 => ?_)
  subst h_124
  have ok := ok.2
  exact rX.cutz (b_submit_127 hG hR ok hx) ⟨rfl, rfl, rfl, rfl, trivial⟩
def F_submit_116 (N : Nat) (x1 : Int32) (x3 : Int32) (x4 : Int32) (x5 : Int32) (x6 : Int32) (S : rS) : Int32 × rS := (F_submit_121 N x1 x4 x5 x6 (f_write N S x3))
def O_submit_116 (N : Nat) (x1 : Int32) (x3 : Int32) (x4 : Int32) (x5 : Int32) (x6 : Int32) (S : rS) : Prop := (o_write N S x3) ∧ O_submit_121 N x1 x4 x5 x6 (f_write N S x3)
set_option maxHeartbeats 4000000 in
theorem b_submit_116 {G : zG} {E : rE} {S : rS} {N : Nat} {Q : Option Value → rS → Prop} {X : Int32 × rS → Prop} (hG : zOK G) (hR : ∀ v S', X (v, S') → Q (some (.int v)) S') {x1 : Int32} {x3 : Int32} {x4 : Int32} {x5 : Int32} {x6 : Int32} (ok : O_submit_116 N x1 x3 x4 x5 x6 S) (hx : X (F_submit_116 N x1 x3 x4 x5 x6 S)) : rX G E dX12_submit mX12_submit 116 [some (.ref E.1), some (.int x1), none, some (.int x3), some (.int x4), some (.int x5), some (.int x6), none] [] S Q := by
  unfold O_submit_116 at ok
  unfold F_submit_116 at hx
  refine r_aload_n dX12_submit_116 rfl rfl ?_
  refine r_iload_n dX12_submit_117 rfl rfl ?_
  refine r_V1v (y' := mX12_write) dX12_submit_118 lX12_226 kX12_write ⟨by decide, by decide⟩ rfl (Nat.le_of_ble_eq_true rfl) (rc_X12_write hG ok.1) (fun S_118 h_118 => ?_)
  subst h_118
  have ok := ok.2
  exact rX.cutz (b_submit_121 hG hR ok hx) ⟨rfl, rfl, rfl, rfl, rfl, trivial⟩
def F_submit_111 (N : Nat) (x1 : Int32) (x2 : Int32) (x3 : Int32) (x4 : Int32) (x5 : Int32) (x6 : Int32) (S : rS) : Int32 × rS := (F_submit_116 N x1 x3 x4 x5 x6 (f_write N S x2))
def O_submit_111 (N : Nat) (x1 : Int32) (x2 : Int32) (x3 : Int32) (x4 : Int32) (x5 : Int32) (x6 : Int32) (S : rS) : Prop := (o_write N S x2) ∧ O_submit_116 N x1 x3 x4 x5 x6 (f_write N S x2)
set_option maxHeartbeats 4000000 in
theorem b_submit_111 {G : zG} {E : rE} {S : rS} {N : Nat} {Q : Option Value → rS → Prop} {X : Int32 × rS → Prop} (hG : zOK G) (hR : ∀ v S', X (v, S') → Q (some (.int v)) S') {x1 : Int32} {x2 : Int32} {x3 : Int32} {x4 : Int32} {x5 : Int32} {x6 : Int32} (ok : O_submit_111 N x1 x2 x3 x4 x5 x6 S) (hx : X (F_submit_111 N x1 x2 x3 x4 x5 x6 S)) : rX G E dX12_submit mX12_submit 111 [some (.ref E.1), some (.int x1), some (.int x2), some (.int x3), some (.int x4), some (.int x5), some (.int x6), none] [] S Q := by
  unfold O_submit_111 at ok
  unfold F_submit_111 at hx
  refine r_aload_n dX12_submit_111 rfl rfl ?_
  refine r_iload_n dX12_submit_112 rfl rfl ?_
  refine r_V1v (y' := mX12_write) dX12_submit_113 lX12_226 kX12_write ⟨by decide, by decide⟩ rfl (Nat.le_of_ble_eq_true rfl) (rc_X12_write hG ok.1) (fun S_113 h_113 => ?_)
  subst h_113
  have ok := ok.2
  exact rX.cutz (b_submit_116 hG hR ok hx) ⟨rfl, rfl, rfl, rfl, rfl, rfl, trivial⟩
def F_submit_99 (N : Nat)  (S : rS) : Int32 × rS := ((nI 0), S)
def O_submit_99 (N : Nat)  (S : rS) : Prop := True
set_option maxHeartbeats 4000000 in
theorem b_submit_99 {G : zG} {E : rE} {S : rS} {N : Nat} {Q : Option Value → rS → Prop} {X : Int32 × rS → Prop} (hG : zOK G) (hR : ∀ v S', X (v, S') → Q (some (.int v)) S') (ok : O_submit_99 N S) (hx : X (F_submit_99 N S)) : rX G E dX12_submit mX12_submit 99 [none, none, none, none, none, none, none, none] [] S Q := by
  unfold O_submit_99 at ok
  unfold F_submit_99 at hx
  refine r_iconst (v := nI 0) dX12_submit_99 (by decide) ?_
  exact r_ireturn rfl rfl dX12_submit_100 (hR _ _ hx)
def F_submit_96 (N : Nat) (x1 : Int32) (x2 : Int32) (x3 : Int32) (x4 : Int32) (x5 : Int32) (x6 : Int32) (s0 : Int32) (S : rS) : Int32 × rS := (if s0 = 0 then (F_submit_99 N S) else (F_submit_111 N x1 x2 x3 x4 x5 x6 (f_write N (rsI S 33 (nI 0)) (nI 0))))
def O_submit_96 (N : Nat) (x1 : Int32) (x2 : Int32) (x3 : Int32) (x4 : Int32) (x5 : Int32) (x6 : Int32) (s0 : Int32) (S : rS) : Prop := ((s0 = 0 → O_submit_99 N S) ∧ (¬ s0 = 0 → (o_write N (rsI S 33 (nI 0)) (nI 0)) ∧ O_submit_111 N x1 x2 x3 x4 x5 x6 (f_write N (rsI S 33 (nI 0)) (nI 0))))
set_option maxHeartbeats 4000000 in
theorem b_submit_96 {G : zG} {E : rE} {S : rS} {N : Nat} {Q : Option Value → rS → Prop} {X : Int32 × rS → Prop} (hG : zOK G) (hR : ∀ v S', X (v, S') → Q (some (.int v)) S') {x1 : Int32} {x2 : Int32} {x3 : Int32} {x4 : Int32} {x5 : Int32} {x6 : Int32} {s0 : Int32} (ok : O_submit_96 N x1 x2 x3 x4 x5 x6 s0 S) (hx : X (F_submit_96 N x1 x2 x3 x4 x5 x6 s0 S)) : rX G E dX12_submit mX12_submit 96 [some (.ref E.1), some (.int x1), some (.int x2), some (.int x3), some (.int x4), some (.int x5), some (.int x6), none] [.int s0] S Q := by
  unfold O_submit_96 at ok
  unfold F_submit_96 at hx
  refine r_if_ne (tgt := 101) dX12_submit_96 (by decide) (fun c_96 => ?_) (fun c_96 => ?_)
  · have ok := ok.2 c_96
    have hx := xif_n c_96 hx
    refine r_aload_n dX12_submit_101 rfl rfl ?_
    refine r_iconst (v := nI 0) dX12_submit_102 (by decide) ?_
    refine r_putI 33 fX12_201 (by decide) (by decide) rfl rfl rfl dX12_submit_103 ?_
    refine r_aload_n dX12_submit_106 rfl rfl ?_
    refine r_iconst (v := nI 0) dX12_submit_107 (by decide) ?_
    refine r_V1v (y' := mX12_write) dX12_submit_108 lX12_226 kX12_write ⟨by decide, by decide⟩ rfl (Nat.le_of_ble_eq_true rfl) (rc_X12_write hG ok.1) (fun S_108 h_108 => ?_)
    subst h_108
    have ok := ok.2
    exact rX.cutz (b_submit_111 hG hR ok hx) ⟨rfl, rfl, rfl, rfl, rfl, rfl, rfl, trivial⟩
  · have ok := ok.1 c_96
    have hx := xif_p c_96 hx
    exact rX.cutz (b_submit_99 hG hR ok hx) trivial
def F_submit_68 (N : Nat) (x1 : Int32) (x2 : Int32) (x3 : Int32) (x4 : Int32) (x5 : Int32) (x6 : Int32) (s0 : Int32) (S : rS) : Int32 × rS := (if (f_isUp N S x1) = 0 then (F_submit_99 N S) else (if s0 = 0 then (F_submit_99 N S) else (F_submit_96 N x1 x2 x3 x4 x5 x6 ((f_toPool N S x1 x2 x3 x4 x5 x6).1) (f_toPool N S x1 x2 x3 x4 x5 x6).2)))
def O_submit_68 (N : Nat) (x1 : Int32) (x2 : Int32) (x3 : Int32) (x4 : Int32) (x5 : Int32) (x6 : Int32) (s0 : Int32) (S : rS) : Prop := (o_isUp N S x1) ∧ (((f_isUp N S x1) = 0 → O_submit_99 N S) ∧ (¬ (f_isUp N S x1) = 0 → ((s0 = 0 → O_submit_99 N S) ∧ (¬ s0 = 0 → (o_toPool N S x1 x2 x3 x4 x5 x6) ∧ O_submit_96 N x1 x2 x3 x4 x5 x6 ((f_toPool N S x1 x2 x3 x4 x5 x6).1) (f_toPool N S x1 x2 x3 x4 x5 x6).2))))
set_option maxHeartbeats 4000000 in
theorem b_submit_68 {G : zG} {E : rE} {S : rS} {N : Nat} {Q : Option Value → rS → Prop} {X : Int32 × rS → Prop} (hG : zOK G) (hR : ∀ v S', X (v, S') → Q (some (.int v)) S') {x1 : Int32} {x2 : Int32} {x3 : Int32} {x4 : Int32} {x5 : Int32} {x6 : Int32} {s0 : Int32} (ok : O_submit_68 N x1 x2 x3 x4 x5 x6 s0 S) (hx : X (F_submit_68 N x1 x2 x3 x4 x5 x6 s0 S)) : rX G E dX12_submit mX12_submit 68 [some (.ref E.1), some (.int x1), some (.int x2), some (.int x3), some (.int x4), some (.int x5), some (.int x6), none] [.int s0] S Q := by
  unfold O_submit_68 at ok
  unfold F_submit_68 at hx
  refine r_istore_7 dX12_submit_68 (by decide) rfl ?_
  refine r_aload_n dX12_submit_70 rfl rfl ?_
  refine r_iload_n dX12_submit_71 rfl rfl ?_
  refine r_V1i (y' := mX12_isUp) dX12_submit_72 lX12_707 kX12_isUp ⟨by decide, by decide⟩ rfl (Nat.le_of_ble_eq_true rfl) (rc_X12_isUp hG ok.1) (fun v_72 S_72 h_72 => ?_)
  obtain ⟨rfl, hS_72⟩ := h_72
  have hS_72 := hS_72.symm
  subst hS_72
  have ok := ok.2
  refine r_if_eq (tgt := 99) dX12_submit_75 (by decide) (fun c_75 => ?_) (fun c_75 => ?_)
  · have ok := ok.1 c_75
    have hx := xif_p c_75 hx
    exact rX.cutz (b_submit_99 hG hR ok hx) trivial
  · have ok := ok.2 c_75
    have hx := xif_n c_75 hx
    refine r_iload dX12_submit_78 rfl ?_
    refine r_if_eq (tgt := 99) dX12_submit_80 (by decide) (fun c_80 => ?_) (fun c_80 => ?_)
    · have ok := ok.1 c_80
      have hx := xif_p c_80 hx
      exact rX.cutz (b_submit_99 hG hR ok hx) trivial
    · have ok := ok.2 c_80
      have hx := xif_n c_80 hx
      refine r_aload_n dX12_submit_83 rfl rfl ?_
      refine r_iload_n dX12_submit_84 rfl rfl ?_
      refine r_iload_n dX12_submit_85 rfl rfl ?_
      refine r_iload_n dX12_submit_86 rfl rfl ?_
      refine r_iload dX12_submit_87 rfl ?_
      refine r_iload dX12_submit_89 rfl ?_
      refine r_iload dX12_submit_91 rfl ?_
      refine r_V6i (y' := mX12_toPool) dX12_submit_93 lX12_652 kX12_toPool ⟨by decide, by decide⟩ rfl (Nat.le_of_ble_eq_true rfl) (rc_X12_toPool hG ok.1) (fun v_93 S_93 h_93 => ?_)
      obtain ⟨rfl, hS_93⟩ := h_93
      have hS_93 := hS_93.symm
      subst hS_93
      have ok := ok.2
      exact rX.cutz (b_submit_96 hG hR ok hx) ⟨rfl, rfl, rfl, rfl, rfl, rfl, rfl, trivial⟩
def F_submit_67 (N : Nat) (x1 : Int32) (x2 : Int32) (x3 : Int32) (x4 : Int32) (x5 : Int32) (x6 : Int32) (S : rS) : Int32 × rS := (F_submit_68 N x1 x2 x3 x4 x5 x6 (nI 0) S)
def O_submit_67 (N : Nat) (x1 : Int32) (x2 : Int32) (x3 : Int32) (x4 : Int32) (x5 : Int32) (x6 : Int32) (S : rS) : Prop := O_submit_68 N x1 x2 x3 x4 x5 x6 (nI 0) S
set_option maxHeartbeats 4000000 in
theorem b_submit_67 {G : zG} {E : rE} {S : rS} {N : Nat} {Q : Option Value → rS → Prop} {X : Int32 × rS → Prop} (hG : zOK G) (hR : ∀ v S', X (v, S') → Q (some (.int v)) S') {x1 : Int32} {x2 : Int32} {x3 : Int32} {x4 : Int32} {x5 : Int32} {x6 : Int32} (ok : O_submit_67 N x1 x2 x3 x4 x5 x6 S) (hx : X (F_submit_67 N x1 x2 x3 x4 x5 x6 S)) : rX G E dX12_submit mX12_submit 67 [some (.ref E.1), some (.int x1), some (.int x2), some (.int x3), some (.int x4), some (.int x5), some (.int x6), none] [] S Q := by
  unfold O_submit_67 at ok
  unfold F_submit_67 at hx
  refine r_iconst (v := nI 0) dX12_submit_67 (by decide) ?_
  exact rX.cutz (b_submit_68 hG hR ok hx) ⟨rfl, rfl, rfl, rfl, rfl, rfl, rfl, trivial⟩
def F_submit_0 (N : Nat) (x1 : Int32) (x2 : Int32) (x3 : Int32) (x4 : Int32) (x5 : Int32) (x6 : Int32) (S : rS) : Int32 × rS := (if x2 < 0 then (F_submit_67 N x1 x2 x3 x4 x5 x6 S) else (if (nI 16) ≤ x2 then (F_submit_67 N x1 x2 x3 x4 x5 x6 S) else (if x3 < 0 then (F_submit_67 N x1 x2 x3 x4 x5 x6 S) else (if (nI 16) ≤ x3 then (F_submit_67 N x1 x2 x3 x4 x5 x6 S) else (if x2 = x3 then (F_submit_67 N x1 x2 x3 x4 x5 x6 S) else (if x4 ≤ 0 then (F_submit_67 N x1 x2 x3 x4 x5 x6 S) else (if (nI 1000) < x4 then (F_submit_67 N x1 x2 x3 x4 x5 x6 S) else (if x5 < 0 then (F_submit_67 N x1 x2 x3 x4 x5 x6 S) else (if (65536 : Int32) ≤ x5 then (F_submit_67 N x1 x2 x3 x4 x5 x6 S) else (if x6 ≤ 0 then (F_submit_67 N x1 x2 x3 x4 x5 x6 S) else (if (nI 10) ≤ x6 then (F_submit_67 N x1 x2 x3 x4 x5 x6 S) else (F_submit_68 N x1 x2 x3 x4 x5 x6 (nI 1) S))))))))))))
def O_submit_0 (N : Nat) (x1 : Int32) (x2 : Int32) (x3 : Int32) (x4 : Int32) (x5 : Int32) (x6 : Int32) (S : rS) : Prop := ((x2 < 0 → O_submit_67 N x1 x2 x3 x4 x5 x6 S) ∧ (¬ x2 < 0 → (((nI 16) ≤ x2 → O_submit_67 N x1 x2 x3 x4 x5 x6 S) ∧ (¬ (nI 16) ≤ x2 → ((x3 < 0 → O_submit_67 N x1 x2 x3 x4 x5 x6 S) ∧ (¬ x3 < 0 → (((nI 16) ≤ x3 → O_submit_67 N x1 x2 x3 x4 x5 x6 S) ∧ (¬ (nI 16) ≤ x3 → ((x2 = x3 → O_submit_67 N x1 x2 x3 x4 x5 x6 S) ∧ (¬ x2 = x3 → ((x4 ≤ 0 → O_submit_67 N x1 x2 x3 x4 x5 x6 S) ∧ (¬ x4 ≤ 0 → (((nI 1000) < x4 → O_submit_67 N x1 x2 x3 x4 x5 x6 S) ∧ (¬ (nI 1000) < x4 → ((x5 < 0 → O_submit_67 N x1 x2 x3 x4 x5 x6 S) ∧ (¬ x5 < 0 → (((65536 : Int32) ≤ x5 → O_submit_67 N x1 x2 x3 x4 x5 x6 S) ∧ (¬ (65536 : Int32) ≤ x5 → ((x6 ≤ 0 → O_submit_67 N x1 x2 x3 x4 x5 x6 S) ∧ (¬ x6 ≤ 0 → (((nI 10) ≤ x6 → O_submit_67 N x1 x2 x3 x4 x5 x6 S) ∧ (¬ (nI 10) ≤ x6 → O_submit_68 N x1 x2 x3 x4 x5 x6 (nI 1) S))))))))))))))))))))))
set_option maxHeartbeats 4000000 in
theorem b_submit_0 {G : zG} {E : rE} {S : rS} {N : Nat} {Q : Option Value → rS → Prop} {X : Int32 × rS → Prop} (hG : zOK G) (hR : ∀ v S', X (v, S') → Q (some (.int v)) S') {x1 : Int32} {x2 : Int32} {x3 : Int32} {x4 : Int32} {x5 : Int32} {x6 : Int32} (ok : O_submit_0 N x1 x2 x3 x4 x5 x6 S) (hx : X (F_submit_0 N x1 x2 x3 x4 x5 x6 S)) : rX G E dX12_submit mX12_submit 0 [some (.ref E.1), some (.int x1), some (.int x2), some (.int x3), some (.int x4), some (.int x5), some (.int x6), none] [] S Q := by
  unfold O_submit_0 at ok
  unfold F_submit_0 at hx
  refine r_iload_n dX12_submit_0 rfl rfl ?_
  refine r_if_lt (tgt := 67) dX12_submit_1 (by decide) (fun c_1 => ?_) (fun c_1 => ?_)
  · have ok := ok.1 c_1
    have hx := xif_p c_1 hx
    exact rX.cutz (b_submit_67 hG hR ok hx) ⟨rfl, rfl, rfl, rfl, rfl, rfl, rfl, trivial⟩
  · have ok := ok.2 c_1
    have hx := xif_n c_1 hx
    refine r_iload_n dX12_submit_4 rfl rfl ?_
    refine r_bipush (v := nI 16) dX12_submit_5 (by decide) ?_
    refine r_icmp_ge (tgt := 67) dX12_submit_7 (by decide) (fun c_7 => ?_) (fun c_7 => ?_)
    · have ok := ok.1 c_7
      have hx := xif_p c_7 hx
      exact rX.cutz (b_submit_67 hG hR ok hx) ⟨rfl, rfl, rfl, rfl, rfl, rfl, rfl, trivial⟩
    · have ok := ok.2 c_7
      have hx := xif_n c_7 hx
      refine r_iload_n dX12_submit_10 rfl rfl ?_
      refine r_if_lt (tgt := 67) dX12_submit_11 (by decide) (fun c_11 => ?_) (fun c_11 => ?_)
      · have ok := ok.1 c_11
        have hx := xif_p c_11 hx
        exact rX.cutz (b_submit_67 hG hR ok hx) ⟨rfl, rfl, rfl, rfl, rfl, rfl, rfl, trivial⟩
      · have ok := ok.2 c_11
        have hx := xif_n c_11 hx
        refine r_iload_n dX12_submit_14 rfl rfl ?_
        refine r_bipush (v := nI 16) dX12_submit_15 (by decide) ?_
        refine r_icmp_ge (tgt := 67) dX12_submit_17 (by decide) (fun c_17 => ?_) (fun c_17 => ?_)
        · have ok := ok.1 c_17
          have hx := xif_p c_17 hx
          exact rX.cutz (b_submit_67 hG hR ok hx) ⟨rfl, rfl, rfl, rfl, rfl, rfl, rfl, trivial⟩
        · have ok := ok.2 c_17
          have hx := xif_n c_17 hx
          refine r_iload_n dX12_submit_20 rfl rfl ?_
          refine r_iload_n dX12_submit_21 rfl rfl ?_
          refine r_icmp_eq (tgt := 67) dX12_submit_22 (by decide) (fun c_22 => ?_) (fun c_22 => ?_)
          · have ok := ok.1 c_22
            have hx := xif_p c_22 hx
            exact rX.cutz (b_submit_67 hG hR ok hx) ⟨rfl, rfl, rfl, rfl, rfl, rfl, rfl, trivial⟩
          · have ok := ok.2 c_22
            have hx := xif_n c_22 hx
            refine r_iload dX12_submit_25 rfl ?_
            refine r_if_le (tgt := 67) dX12_submit_27 (by decide) (fun c_27 => ?_) (fun c_27 => ?_)
            · have ok := ok.1 c_27
              have hx := xif_p c_27 hx
              exact rX.cutz (b_submit_67 hG hR ok hx) ⟨rfl, rfl, rfl, rfl, rfl, rfl, rfl, trivial⟩
            · have ok := ok.2 c_27
              have hx := xif_n c_27 hx
              refine r_iload dX12_submit_30 rfl ?_
              refine r_sipush (v := nI 1000) dX12_submit_32 (by decide) ?_
              refine r_icmp_gt (tgt := 67) dX12_submit_35 (by decide) (fun c_35 => ?_) (fun c_35 => ?_)
              · have ok := ok.1 c_35
                have hx := xif_p c_35 hx
                exact rX.cutz (b_submit_67 hG hR ok hx) ⟨rfl, rfl, rfl, rfl, rfl, rfl, rfl, trivial⟩
              · have ok := ok.2 c_35
                have hx := xif_n c_35 hx
                refine r_iload dX12_submit_38 rfl ?_
                refine r_if_lt (tgt := 67) dX12_submit_40 (by decide) (fun c_40 => ?_) (fun c_40 => ?_)
                · have ok := ok.1 c_40
                  have hx := xif_p c_40 hx
                  exact rX.cutz (b_submit_67 hG hR ok hx) ⟨rfl, rfl, rfl, rfl, rfl, rfl, rfl, trivial⟩
                · have ok := ok.2 c_40
                  have hx := xif_n c_40 hx
                  refine r_iload dX12_submit_43 rfl ?_
                  refine r_ldcw dX12_submit_45 nX12_706 ?_
                  refine r_icmp_ge (tgt := 67) dX12_submit_48 (by decide) (fun c_48 => ?_) (fun c_48 => ?_)
                  · have ok := ok.1 c_48
                    have hx := xif_p c_48 hx
                    exact rX.cutz (b_submit_67 hG hR ok hx) ⟨rfl, rfl, rfl, rfl, rfl, rfl, rfl, trivial⟩
                  · have ok := ok.2 c_48
                    have hx := xif_n c_48 hx
                    refine r_iload dX12_submit_51 rfl ?_
                    refine r_if_le (tgt := 67) dX12_submit_53 (by decide) (fun c_53 => ?_) (fun c_53 => ?_)
                    · have ok := ok.1 c_53
                      have hx := xif_p c_53 hx
                      exact rX.cutz (b_submit_67 hG hR ok hx) ⟨rfl, rfl, rfl, rfl, rfl, rfl, rfl, trivial⟩
                    · have ok := ok.2 c_53
                      have hx := xif_n c_53 hx
                      refine r_iload dX12_submit_56 rfl ?_
                      refine r_bipush (v := nI 10) dX12_submit_58 (by decide) ?_
                      refine r_icmp_ge (tgt := 67) dX12_submit_60 (by decide) (fun c_60 => ?_) (fun c_60 => ?_)
                      · have ok := ok.1 c_60
                        have hx := xif_p c_60 hx
                        exact rX.cutz (b_submit_67 hG hR ok hx) ⟨rfl, rfl, rfl, rfl, rfl, rfl, rfl, trivial⟩
                      · have ok := ok.2 c_60
                        have hx := xif_n c_60 hx
                        refine r_iconst (v := nI 1) dX12_submit_63 (by decide) ?_
                        refine r_goto (tgt := 68) dX12_submit_64 (by decide) ?_
                        exact rX.cutz (b_submit_68 hG hR ok hx) ⟨rfl, rfl, rfl, rfl, rfl, rfl, rfl, trivial⟩
def f_submit (N : Nat) (S : rS) (x1 : Int32) (x2 : Int32) (x3 : Int32) (x4 : Int32) (x5 : Int32) (x6 : Int32) : Int32 × rS := F_submit_0 N x1 x2 x3 x4 x5 x6 S
def o_submit (N : Nat) (S : rS) (x1 : Int32) (x2 : Int32) (x3 : Int32) (x4 : Int32) (x5 : Int32) (x6 : Int32) : Prop := O_submit_0 N x1 x2 x3 x4 x5 x6 S
set_option maxHeartbeats 4000000 in
theorem rc_X12_submit {G : zG} {E : rE} {S : rS} {N : Nat} (hG : zOK G) {x1 : Int32} {x2 : Int32} {x3 : Int32} {x4 : Int32} {x5 : Int32} {x6 : Int32} (ok : o_submit N S x1 x2 x3 x4 x5 x6) : rCi G E dX12_submit mX12_submit [.ref E.1, .int x1, .int x2, .int x3, .int x4, .int x5, .int x6] S (fun v S' => v = (f_submit N S x1 x2 x3 x4 x5 x6).1 ∧ S' = (f_submit N S x1 x2 x3 x4 x5 x6).2) := by
  refine rC.ofX rfl (Nat.le_of_ble_eq_true rfl) ?_
  show rX G E dX12_submit mX12_submit 0 [some (.ref E.1), some (.int x1), some (.int x2), some (.int x3), some (.int x4), some (.int x5), some (.int x6), none] [] S _
  exact rX.cutz (b_submit_0 (X := fun F => F = f_submit N S x1 x2 x3 x4 x5 x6) hG (fun v S' h => ⟨v, rfl, by rw [← h], by rw [← h]⟩) ok rfl) ⟨rfl, rfl, rfl, rfl, rfl, rfl, rfl, trivial⟩
/-! deliver -/
def F_deliver_124 (N : Nat) (x2 : Int32) (S : rS) : Int32 × rS := (x2, S)
def O_deliver_124 (N : Nat) (x2 : Int32) (S : rS) : Prop := True
set_option maxHeartbeats 4000000 in
theorem b_deliver_124 {G : zG} {E : rE} {S : rS} {N : Nat} {Q : Option Value → rS → Prop} {X : Int32 × rS → Prop} (hG : zOK G) (hR : ∀ v S', X (v, S') → Q (some (.int v)) S') {x2 : Int32} (ok : O_deliver_124 N x2 S) (hx : X (F_deliver_124 N x2 S)) : rX G E dX12_deliver mX12_deliver 124 [none, none, some (.int x2), none, none] [] S Q := by
  unfold O_deliver_124 at ok
  unfold F_deliver_124 at hx
  refine r_iload_n dX12_deliver_124 rfl rfl ?_
  exact r_ireturn rfl rfl dX12_deliver_125 (hR _ _ hx)
def F_deliver_85 (N : Nat) (x2 : Int32) (x3 : Int32) (S : rS) : Int32 × rS := (if (f_isUp N (rsI S 25 ((S.1 25) + (nI 1))) ((rsI S 25 ((S.1 25) + (nI 1))).2.1 28 x3.toNatClampNeg)) = 0 then (F_deliver_124 N x2 (rsI S 25 ((S.1 25) + (nI 1)))) else (F_deliver_124 N x2 (f_come N (rsI S 25 ((S.1 25) + (nI 1))) ((rsI S 25 ((S.1 25) + (nI 1))).2.1 28 x3.toNatClampNeg) ((rsI S 25 ((S.1 25) + (nI 1))).2.1 27 x3.toNatClampNeg))))
def O_deliver_85 (N : Nat) (x2 : Int32) (x3 : Int32) (S : rS) : Prop := (vp_in x3 1000) ∧ (o_isUp N (rsI S 25 ((S.1 25) + (nI 1))) ((rsI S 25 ((S.1 25) + (nI 1))).2.1 28 x3.toNatClampNeg)) ∧ (((f_isUp N (rsI S 25 ((S.1 25) + (nI 1))) ((rsI S 25 ((S.1 25) + (nI 1))).2.1 28 x3.toNatClampNeg)) = 0 → O_deliver_124 N x2 (rsI S 25 ((S.1 25) + (nI 1)))) ∧ (¬ (f_isUp N (rsI S 25 ((S.1 25) + (nI 1))) ((rsI S 25 ((S.1 25) + (nI 1))).2.1 28 x3.toNatClampNeg)) = 0 → (vp_in x3 1000) ∧ (vp_in x3 1000) ∧ (o_come N (rsI S 25 ((S.1 25) + (nI 1))) ((rsI S 25 ((S.1 25) + (nI 1))).2.1 28 x3.toNatClampNeg) ((rsI S 25 ((S.1 25) + (nI 1))).2.1 27 x3.toNatClampNeg)) ∧ O_deliver_124 N x2 (f_come N (rsI S 25 ((S.1 25) + (nI 1))) ((rsI S 25 ((S.1 25) + (nI 1))).2.1 28 x3.toNatClampNeg) ((rsI S 25 ((S.1 25) + (nI 1))).2.1 27 x3.toNatClampNeg))))
set_option maxHeartbeats 4000000 in
theorem b_deliver_85 {G : zG} {E : rE} {S : rS} {N : Nat} {Q : Option Value → rS → Prop} {X : Int32 × rS → Prop} (hG : zOK G) (hR : ∀ v S', X (v, S') → Q (some (.int v)) S') {x2 : Int32} {x3 : Int32} (ok : O_deliver_85 N x2 x3 S) (hx : X (F_deliver_85 N x2 x3 S)) : rX G E dX12_deliver mX12_deliver 85 [some (.ref E.1), none, some (.int x2), some (.int x3), none] [] S Q := by
  unfold O_deliver_85 at ok
  unfold F_deliver_85 at hx
  refine r_aload_n dX12_deliver_85 rfl rfl ?_
  refine r_aload_n dX12_deliver_86 rfl rfl ?_
  refine r_getI 25 fX12_207 (by decide) (by decide) dX12_deliver_87 ?_
  refine r_iconst (v := nI 1) dX12_deliver_90 (by decide) ?_
  refine r_iadd dX12_deliver_91 ?_
  refine r_putI 25 fX12_207 (by decide) (by decide) rfl rfl rfl dX12_deliver_92 ?_
  refine r_aload_n dX12_deliver_95 rfl rfl ?_
  refine r_aload_n dX12_deliver_96 rfl rfl ?_
  refine r_getA 28 fX12_198 (by decide) (by decide) dX12_deliver_97 ?_
  refine r_iload_n dX12_deliver_100 rfl rfl ?_
  refine r_iald (by decide) (by decide) dX12_deliver_101 ok.1 ?_
  have ok := ok.2
  refine r_V1i (y' := mX12_isUp) dX12_deliver_102 lX12_707 kX12_isUp ⟨by decide, by decide⟩ rfl (Nat.le_of_ble_eq_true rfl) (rc_X12_isUp hG ok.1) (fun v_102 S_102 h_102 => ?_)
  obtain ⟨rfl, hS_102⟩ := h_102
  have hS_102 := hS_102.symm
  subst hS_102
  have ok := ok.2
  refine r_if_eq (tgt := 124) dX12_deliver_105 (by decide) (fun c_105 => ?_) (fun c_105 => ?_)
  · have ok := ok.1 c_105
    have hx := xif_p c_105 hx
    exact rX.cutz (b_deliver_124 hG hR ok hx) ⟨rfl, trivial⟩
  · have ok := ok.2 c_105
    have hx := xif_n c_105 hx
    refine r_aload_n dX12_deliver_108 rfl rfl ?_
    refine r_aload_n dX12_deliver_109 rfl rfl ?_
    refine r_getA 28 fX12_198 (by decide) (by decide) dX12_deliver_110 ?_
    refine r_iload_n dX12_deliver_113 rfl rfl ?_
    refine r_iald (by decide) (by decide) dX12_deliver_114 ok.1 ?_
    have ok := ok.2
    refine r_aload_n dX12_deliver_115 rfl rfl ?_
    refine r_getA 27 fX12_195 (by decide) (by decide) dX12_deliver_116 ?_
    refine r_iload_n dX12_deliver_119 rfl rfl ?_
    refine r_iald (by decide) (by decide) dX12_deliver_120 ok.1 ?_
    have ok := ok.2
    refine r_V2v (y' := mX12_come) dX12_deliver_121 lX12_710 kX12_come ⟨by decide, by decide⟩ rfl (Nat.le_of_ble_eq_true rfl) (rc_X12_come hG ok.1) (fun S_121 h_121 => ?_)
    subst h_121
    have ok := ok.2
    exact rX.cutz (b_deliver_124 hG hR ok hx) ⟨rfl, trivial⟩
def F_deliver_65 (N : Nat) (x2 : Int32) (x3 : Int32) (S : rS) : Int32 × rS := (F_deliver_85 N x2 x3 (rsA (rsI S 23 ((S.1 23) - (nI 1))) 26 ((rsI S 23 ((S.1 23) - (nI 1))).1 25).toNatClampNeg x3))
def O_deliver_65 (N : Nat) (x2 : Int32) (x3 : Int32) (S : rS) : Prop := (vp_in ((rsI S 23 ((S.1 23) - (nI 1))).1 25) 1000) ∧ O_deliver_85 N x2 x3 (rsA (rsI S 23 ((S.1 23) - (nI 1))) 26 ((rsI S 23 ((S.1 23) - (nI 1))).1 25).toNatClampNeg x3)
set_option maxHeartbeats 4000000 in
theorem b_deliver_65 {G : zG} {E : rE} {S : rS} {N : Nat} {Q : Option Value → rS → Prop} {X : Int32 × rS → Prop} (hG : zOK G) (hR : ∀ v S', X (v, S') → Q (some (.int v)) S') {x2 : Int32} {x3 : Int32} (ok : O_deliver_65 N x2 x3 S) (hx : X (F_deliver_65 N x2 x3 S)) : rX G E dX12_deliver mX12_deliver 65 [some (.ref E.1), none, some (.int x2), some (.int x3), none] [] S Q := by
  unfold O_deliver_65 at ok
  unfold F_deliver_65 at hx
  refine r_aload_n dX12_deliver_65 rfl rfl ?_
  refine r_aload_n dX12_deliver_66 rfl rfl ?_
  refine r_getI 23 fX12_182 (by decide) (by decide) dX12_deliver_67 ?_
  refine r_iconst (v := nI 1) dX12_deliver_70 (by decide) ?_
  refine r_isub dX12_deliver_71 ?_
  refine r_putI 23 fX12_182 (by decide) (by decide) rfl rfl rfl dX12_deliver_72 ?_
  refine r_aload_n dX12_deliver_75 rfl rfl ?_
  refine r_getA 26 fX12_210 (by decide) (by decide) dX12_deliver_76 ?_
  refine r_aload_n dX12_deliver_79 rfl rfl ?_
  refine r_getI 25 fX12_207 (by decide) (by decide) dX12_deliver_80 ?_
  refine r_iload_n dX12_deliver_83 rfl rfl ?_
  refine r_iast hG (by decide) (by decide) dX12_deliver_84 ok.1 ?_
  have ok := ok.2
  exact rX.cutz (b_deliver_85 hG hR ok hx) ⟨rfl, rfl, rfl, trivial⟩
def B_deliver_34 (N : Nat) (rec : Int32 → Int32 → Int32 → rS → Nat × Int32 × Int32 × rS) (x2 : Int32) (x3 : Int32) (x4 : Int32) (S : rS) : Nat × Int32 × Int32 × rS := (if (S.1 23) ≤ x4 then (0, x2, x3, S) else (rec x2 x3 (x4 + nI 1) (rsA S 24 (x4 - (nI 1)).toNatClampNeg (S.2.1 24 x4.toNatClampNeg))))
def OB_deliver_34 (N : Nat) (rok : Int32 → Int32 → Int32 → rS → Prop) (x2 : Int32) (x3 : Int32) (x4 : Int32) (S : rS) : Prop := (((S.1 23) ≤ x4 → True) ∧ (¬ (S.1 23) ≤ x4 → (vp_in x4 1000) ∧ (vp_in (x4 - (nI 1)) 1000) ∧ rok x2 x3 (x4 + nI 1) (rsA S 24 (x4 - (nI 1)).toNatClampNeg (S.2.1 24 x4.toNatClampNeg))))
set_option maxHeartbeats 4000000 in
theorem bb_deliver_34 {G : zG} {E : rE} {S : rS} {N : Nat} {Q : Option Value → rS → Prop} {X : Nat × Int32 × Int32 × rS → Prop} (hG : zOK G) (hX0 : ∀ (x2 : Int32) (x3 : Int32) (S' : rS), X (0, x2, x3, S') → rX G E dX12_deliver mX12_deliver 65 [some (.ref E.1), none, some (.int x2), some (.int x3), none] [] S' Q) {rec : Int32 → Int32 → Int32 → rS → Nat × Int32 × Int32 × rS} {rok : Int32 → Int32 → Int32 → rS → Prop} (hrec : ∀ (x2 : Int32) (x3 : Int32) (x4 : Int32) (S : rS), rok x2 x3 x4 S → X (rec x2 x3 x4 S) → rX G E dX12_deliver mX12_deliver 34 [some (.ref E.1), none, some (.int x2), some (.int x3), some (.int x4)] [] S Q) {x2 : Int32} {x3 : Int32} {x4 : Int32} (ok : OB_deliver_34 N rok x2 x3 x4 S) (hx : X (B_deliver_34 N rec x2 x3 x4 S)) : rX G E dX12_deliver mX12_deliver 34 [some (.ref E.1), none, some (.int x2), some (.int x3), some (.int x4)] [] S Q := by
  unfold OB_deliver_34 at ok
  unfold B_deliver_34 at hx
  refine r_iload dX12_deliver_34 rfl ?_
  refine r_aload_n dX12_deliver_36 rfl rfl ?_
  refine r_getI 23 fX12_182 (by decide) (by decide) dX12_deliver_37 ?_
  refine r_icmp_ge (tgt := 65) dX12_deliver_40 (by decide) (fun c_40 => ?_) (fun c_40 => ?_)
  · have ok := ok.1 c_40
    have hx := xif_p c_40 hx
    exact rX.cutz (hX0 _ _ S hx) ⟨rfl, rfl, rfl, trivial⟩
  · have ok := ok.2 c_40
    have hx := xif_n c_40 hx
    refine r_aload_n dX12_deliver_43 rfl rfl ?_
    refine r_getA 24 fX12_176 (by decide) (by decide) dX12_deliver_44 ?_
    refine r_iload dX12_deliver_47 rfl ?_
    refine r_iconst (v := nI 1) dX12_deliver_49 (by decide) ?_
    refine r_isub dX12_deliver_50 ?_
    refine r_aload_n dX12_deliver_51 rfl rfl ?_
    refine r_getA 24 fX12_176 (by decide) (by decide) dX12_deliver_52 ?_
    refine r_iload dX12_deliver_55 rfl ?_
    refine r_iald (by decide) (by decide) dX12_deliver_57 ok.1 ?_
    have ok := ok.2
    refine r_iast hG (by decide) (by decide) dX12_deliver_58 ok.1 ?_
    have ok := ok.2
    refine r_iinc_4 (v := (x4 + nI 1)) dX12_deliver_59 rfl (by first | rfl | (congr 1)) (by decide) rfl ?_
    refine r_goto (tgt := 34) dX12_deliver_62 (by decide) ?_
    exact rX.cutz (hrec _ _ _ (rsA S 24 (x4 - (nI 1)).toNatClampNeg (S.2.1 24 x4.toNatClampNeg)) ok hx) ⟨rfl, rfl, rfl, rfl, trivial⟩
def L_deliver_34 (N : Nat) : Nat → Int32 → Int32 → Int32 → rS → Nat × Int32 × Int32 × rS
  | 0, x2, x3, x4, S => (0, 0, 0, S)
  | n + 1, x2, x3, x4, S => B_deliver_34 N (L_deliver_34 N n) x2 x3 x4 S
def OL_deliver_34 (N : Nat) : Nat → Int32 → Int32 → Int32 → rS → Prop
  | 0, _, _, _, _ => False
  | n + 1, x2, x3, x4, S => OB_deliver_34 N (OL_deliver_34 N n) x2 x3 x4 S
set_option maxHeartbeats 4000000 in
theorem l_deliver_34 {G : zG} {E : rE} {N : Nat} {Q : Option Value → rS → Prop} {X : Nat × Int32 × Int32 × rS → Prop} (hG : zOK G) (hX0 : ∀ (x2 : Int32) (x3 : Int32) (S' : rS), X (0, x2, x3, S') → rX G E dX12_deliver mX12_deliver 65 [some (.ref E.1), none, some (.int x2), some (.int x3), none] [] S' Q) : ∀ (n : Nat) (x2 : Int32) (x3 : Int32) (x4 : Int32) (S : rS), OL_deliver_34 N n x2 x3 x4 S → X (L_deliver_34 N n x2 x3 x4 S) → rX G E dX12_deliver mX12_deliver 34 [some (.ref E.1), none, some (.int x2), some (.int x3), some (.int x4)] [] S Q := by
  intro n
  induction n with
  | zero => intro x2 x3 x4 S ok; exact absurd ok id
  | succ n ih =>
    intro x2 x3 x4 S ok hx
    exact bb_deliver_34 hG hX0 (rec := L_deliver_34 N n) (rok := OL_deliver_34 N n) (fun x2 x3 x4 S ok hx => ih x2 x3 x4 S ok hx) ok hx
def A_deliver_34 (N : Nat) (x2 : Int32) (x3 : Int32) (x4 : Int32) (S : rS) (z : Nat × Int32 × Int32 × rS) : Int32 × rS := (F_deliver_65 N (z.2.1) (z.2.2.1) z.2.2.2)
def OA_deliver_34 (N : Nat) (x2 : Int32) (x3 : Int32) (x4 : Int32) (S : rS) (z : Nat × Int32 × Int32 × rS) : Prop := O_deliver_65 N (z.2.1) (z.2.2.1) z.2.2.2
set_option maxHeartbeats 4000000 in
theorem c_deliver_34 {G : zG} {E : rE} {S : rS} {N : Nat} {Q : Option Value → rS → Prop} {X : Int32 × rS → Prop} (hG : zOK G) (hR : ∀ v S', X (v, S') → Q (some (.int v)) S') {x2 : Int32} {x3 : Int32} {x4 : Int32} (ok : OL_deliver_34 N N x2 x3 x4 S ∧ OA_deliver_34 N x2 x3 x4 S (L_deliver_34 N N x2 x3 x4 S)) (hx : X (A_deliver_34 N x2 x3 x4 S (L_deliver_34 N N x2 x3 x4 S))) : rX G E dX12_deliver mX12_deliver 34 [some (.ref E.1), none, some (.int x2), some (.int x3), some (.int x4)] [] S Q := by
  refine l_deliver_34 hG ?_ N x2 x3 x4 S ok.1 (X := fun z => OA_deliver_34 N x2 x3 x4 S z ∧ X (A_deliver_34 N x2 x3 x4 S z)) ⟨ok.2, hx⟩
  · intro x2' x3' S' hz
    obtain ⟨ok, hx⟩ := hz
    unfold OA_deliver_34 at ok
    unfold A_deliver_34 at hx
    exact rX.cutz (b_deliver_65 hG hR ok hx) ⟨rfl, rfl, rfl, trivial⟩
def F_deliver_15 (N : Nat) (x1 : Int32) (S : rS) : Int32 × rS := (A_deliver_34 N (S.2.1 32 (nI 0).toNatClampNeg) (S.2.1 24 x1.toNatClampNeg) (x1 + (nI 1)) S (L_deliver_34 N N (S.2.1 32 (nI 0).toNatClampNeg) (S.2.1 24 x1.toNatClampNeg) (x1 + (nI 1)) S))
def O_deliver_15 (N : Nat) (x1 : Int32) (S : rS) : Prop := (vp_in (nI 0) 1010) ∧ (vp_in x1 1000) ∧ (OL_deliver_34 N N (S.2.1 32 (nI 0).toNatClampNeg) (S.2.1 24 x1.toNatClampNeg) (x1 + (nI 1)) S ∧ OA_deliver_34 N (S.2.1 32 (nI 0).toNatClampNeg) (S.2.1 24 x1.toNatClampNeg) (x1 + (nI 1)) S (L_deliver_34 N N (S.2.1 32 (nI 0).toNatClampNeg) (S.2.1 24 x1.toNatClampNeg) (x1 + (nI 1)) S))
set_option maxHeartbeats 4000000 in
theorem b_deliver_15 {G : zG} {E : rE} {S : rS} {N : Nat} {Q : Option Value → rS → Prop} {X : Int32 × rS → Prop} (hG : zOK G) (hR : ∀ v S', X (v, S') → Q (some (.int v)) S') {x1 : Int32} (ok : O_deliver_15 N x1 S) (hx : X (F_deliver_15 N x1 S)) : rX G E dX12_deliver mX12_deliver 15 [some (.ref E.1), some (.int x1), none, none, none] [] S Q := by
  unfold O_deliver_15 at ok
  unfold F_deliver_15 at hx
  refine r_aload_n dX12_deliver_15 rfl rfl ?_
  refine r_getA 32 fX12_204 (by decide) (by decide) dX12_deliver_16 ?_
  refine r_iconst (v := nI 0) dX12_deliver_19 (by decide) ?_
  refine r_iald (by decide) (by decide) dX12_deliver_20 ok.1 ?_
  have ok := ok.2
  refine r_istore_2 dX12_deliver_21 (by decide) rfl ?_
  refine r_aload_n dX12_deliver_22 rfl rfl ?_
  refine r_getA 24 fX12_176 (by decide) (by decide) dX12_deliver_23 ?_
  refine r_iload_n dX12_deliver_26 rfl rfl ?_
  refine r_iald (by decide) (by decide) dX12_deliver_27 ok.1 ?_
  have ok := ok.2
  refine r_istore_3 dX12_deliver_28 (by decide) rfl ?_
  refine r_iload_n dX12_deliver_29 rfl rfl ?_
  refine r_iconst (v := nI 1) dX12_deliver_30 (by decide) ?_
  refine r_iadd dX12_deliver_31 ?_
  refine r_istore_4 dX12_deliver_32 (by decide) rfl ?_
  exact rX.cutz (c_deliver_34 hG hR ok hx) ⟨rfl, rfl, rfl, rfl, trivial⟩
def F_deliver_0 (N : Nat) (x1 : Int32) (S : rS) : Int32 × rS := (if (f_isFlying N S x1) = 0 then ((-1), S) else (F_deliver_15 N x1 (f_load N S x1)))
def O_deliver_0 (N : Nat) (x1 : Int32) (S : rS) : Prop := (o_isFlying N S x1) ∧ (((f_isFlying N S x1) = 0 → True) ∧ (¬ (f_isFlying N S x1) = 0 → (o_load N S x1) ∧ O_deliver_15 N x1 (f_load N S x1)))
set_option maxHeartbeats 4000000 in
theorem b_deliver_0 {G : zG} {E : rE} {S : rS} {N : Nat} {Q : Option Value → rS → Prop} {X : Int32 × rS → Prop} (hG : zOK G) (hR : ∀ v S', X (v, S') → Q (some (.int v)) S') {x1 : Int32} (ok : O_deliver_0 N x1 S) (hx : X (F_deliver_0 N x1 S)) : rX G E dX12_deliver mX12_deliver 0 [some (.ref E.1), some (.int x1), none, none, none] [] S Q := by
  unfold O_deliver_0 at ok
  unfold F_deliver_0 at hx
  refine r_aload_n dX12_deliver_0 rfl rfl ?_
  refine r_iload_n dX12_deliver_1 rfl rfl ?_
  refine r_V1i (y' := mX12_isFlying) dX12_deliver_2 lX12_167 kX12_isFlying ⟨by decide, by decide⟩ rfl (Nat.le_of_ble_eq_true rfl) (rc_X12_isFlying hG ok.1) (fun v_2 S_2 h_2 => ?_)
  obtain ⟨rfl, hS_2⟩ := h_2
  have hS_2 := hS_2.symm
  subst hS_2
  have ok := ok.2
  refine r_if_ne (tgt := 10) dX12_deliver_5 (by decide) (fun c_5 => ?_) (fun c_5 => ?_)
  · have ok := ok.2 c_5
    have hx := xif_n c_5 hx
    refine r_aload_n dX12_deliver_10 rfl rfl ?_
    refine r_iload_n dX12_deliver_11 rfl rfl ?_
    refine r_V1v (y' := mX12_load) dX12_deliver_12 lX12_703 kX12_load ⟨by decide, by decide⟩ rfl (Nat.le_of_ble_eq_true rfl) (rc_X12_load hG ok.1) (fun S_12 h_12 => ?_)
    subst h_12
    have ok := ok.2
    exact rX.cutz (b_deliver_15 hG hR ok hx) ⟨rfl, rfl, trivial⟩
  · have ok := ok.1 c_5
    have hx := xif_p c_5 hx
    refine r_iconst (v := -1) dX12_deliver_8 (by decide) ?_
    exact r_ireturn rfl rfl dX12_deliver_9 (hR _ _ hx)
def f_deliver (N : Nat) (S : rS) (x1 : Int32) : Int32 × rS := F_deliver_0 N x1 S
def o_deliver (N : Nat) (S : rS) (x1 : Int32) : Prop := O_deliver_0 N x1 S
set_option maxHeartbeats 4000000 in
theorem rc_X12_deliver {G : zG} {E : rE} {S : rS} {N : Nat} (hG : zOK G) {x1 : Int32} (ok : o_deliver N S x1) : rCi G E dX12_deliver mX12_deliver [.ref E.1, .int x1] S (fun v S' => v = (f_deliver N S x1).1 ∧ S' = (f_deliver N S x1).2) := by
  refine rC.ofX rfl (Nat.le_of_ble_eq_true rfl) ?_
  show rX G E dX12_deliver mX12_deliver 0 [some (.ref E.1), some (.int x1), none, none, none] [] S _
  exact rX.cutz (b_deliver_0 (X := fun F => F = f_deliver N S x1) hG (fun v S' h => ⟨v, rfl, by rw [← h], by rw [← h]⟩) ok rfl) ⟨rfl, rfl, trivial⟩
/-! end -/
def F_end_75 (N : Nat)  (S : rS) : rS := S
def O_end_75 (N : Nat)  (S : rS) : Prop := True
set_option maxHeartbeats 4000000 in
theorem b_end_75 {G : zG} {E : rE} {S : rS} {N : Nat} {Q : Option Value → rS → Prop} {X : rS → Prop} (hG : zOK G) (hR : ∀ S', X S' → Q none S') (ok : O_end_75 N S) (hx : X (F_end_75 N S)) : rX G E dX12_end mX12_end 75 [none, none, none] [] S Q := by
  unfold O_end_75 at ok
  unfold F_end_75 at hx
  exact r_return rfl dX12_end_75 (hR _ hx)
def F_end_46 (N : Nat) (x1 : Int32) (x2 : Int32) (S : rS) : rS := (if x2 = (nI 2) then (if (nI 15) ≤ (S.2.1 45 x1.toNatClampNeg) then (F_end_75 N S) else (F_end_75 N (f_begin N S x1 ((S.2.1 45 x1.toNatClampNeg) + (nI 1))))) else (F_end_75 N S))
def O_end_46 (N : Nat) (x1 : Int32) (x2 : Int32) (S : rS) : Prop := ((x2 = (nI 2) → (vp_in x1 13) ∧ (((nI 15) ≤ (S.2.1 45 x1.toNatClampNeg) → O_end_75 N S) ∧ (¬ (nI 15) ≤ (S.2.1 45 x1.toNatClampNeg) → (vp_in x1 13) ∧ (o_begin N S x1 ((S.2.1 45 x1.toNatClampNeg) + (nI 1))) ∧ O_end_75 N (f_begin N S x1 ((S.2.1 45 x1.toNatClampNeg) + (nI 1)))))) ∧ (¬ x2 = (nI 2) → O_end_75 N S))
set_option maxHeartbeats 4000000 in
theorem b_end_46 {G : zG} {E : rE} {S : rS} {N : Nat} {Q : Option Value → rS → Prop} {X : rS → Prop} (hG : zOK G) (hR : ∀ S', X S' → Q none S') {x1 : Int32} {x2 : Int32} (ok : O_end_46 N x1 x2 S) (hx : X (F_end_46 N x1 x2 S)) : rX G E dX12_end mX12_end 46 [some (.ref E.1), some (.int x1), some (.int x2)] [] S Q := by
  unfold O_end_46 at ok
  unfold F_end_46 at hx
  refine r_iload_n dX12_end_46 rfl rfl ?_
  refine r_iconst (v := nI 2) dX12_end_47 (by decide) ?_
  refine r_icmp_ne (tgt := 75) dX12_end_48 (by decide) (fun c_48 => ?_) (fun c_48 => ?_)
  · have ok := ok.2 c_48
    have hx := xif_n c_48 hx
    exact rX.cutz (b_end_75 hG hR ok hx) trivial
  · have ok := ok.1 c_48
    have hx := xif_p c_48 hx
    refine r_aload_n dX12_end_51 rfl rfl ?_
    refine r_getA 45 fX12_312 (by decide) (by decide) dX12_end_52 ?_
    refine r_iload_n dX12_end_55 rfl rfl ?_
    refine r_iald (by decide) (by decide) dX12_end_56 ok.1 ?_
    have ok := ok.2
    refine r_bipush (v := nI 15) dX12_end_57 (by decide) ?_
    refine r_icmp_ge (tgt := 75) dX12_end_59 (by decide) (fun c_59 => ?_) (fun c_59 => ?_)
    · have ok := ok.1 c_59
      have hx := xif_p c_59 hx
      exact rX.cutz (b_end_75 hG hR ok hx) trivial
    · have ok := ok.2 c_59
      have hx := xif_n c_59 hx
      refine r_aload_n dX12_end_62 rfl rfl ?_
      refine r_iload_n dX12_end_63 rfl rfl ?_
      refine r_aload_n dX12_end_64 rfl rfl ?_
      refine r_getA 45 fX12_312 (by decide) (by decide) dX12_end_65 ?_
      refine r_iload_n dX12_end_68 rfl rfl ?_
      refine r_iald (by decide) (by decide) dX12_end_69 ok.1 ?_
      have ok := ok.2
      refine r_iconst (v := nI 1) dX12_end_70 (by decide) ?_
      refine r_iadd dX12_end_71 ?_
      refine r_V2v (y' := mX12_begin) dX12_end_72 lX12_457 kX12_begin ⟨by decide, by decide⟩ rfl (Nat.le_of_ble_eq_true rfl) (rc_X12_begin hG ok.1) (fun S_72 h_72 => ?_)
      subst h_72
      have ok := ok.2
      exact rX.cutz (b_end_75 hG hR ok hx) trivial
def F_end_45 (N : Nat) (x1 : Int32) (x2 : Int32) (s0 : Int32) (S : rS) : rS := (F_end_46 N x1 x2 S)
def O_end_45 (N : Nat) (x1 : Int32) (x2 : Int32) (s0 : Int32) (S : rS) : Prop := O_end_46 N x1 x2 S
set_option maxHeartbeats 4000000 in
theorem b_end_45 {G : zG} {E : rE} {S : rS} {N : Nat} {Q : Option Value → rS → Prop} {X : rS → Prop} (hG : zOK G) (hR : ∀ S', X S' → Q none S') {x1 : Int32} {x2 : Int32} {s0 : Int32} (ok : O_end_45 N x1 x2 s0 S) (hx : X (F_end_45 N x1 x2 s0 S)) : rX G E dX12_end mX12_end 45 [some (.ref E.1), some (.int x1), some (.int x2)] [.int s0] S Q := by
  unfold O_end_45 at ok
  unfold F_end_45 at hx
  refine r_pop dX12_end_45 rfl ?_
  exact rX.cutz (b_end_46 hG hR ok hx) ⟨rfl, rfl, rfl, trivial⟩
def F_end_22 (N : Nat) (x1 : Int32) (x2 : Int32) (S : rS) : rS := (if x2 = (nI 1) then (if (S.2.1 46 x1.toNatClampNeg) = (nI 1) then (F_end_45 N x1 x2 ((f_vote N S x1 (nI 3) (-1) (nI 2)).1) (f_vote N S x1 (nI 3) (-1) (nI 2)).2) else (F_end_46 N x1 x2 S)) else (F_end_46 N x1 x2 S))
def O_end_22 (N : Nat) (x1 : Int32) (x2 : Int32) (S : rS) : Prop := ((x2 = (nI 1) → (vp_in x1 13) ∧ (((S.2.1 46 x1.toNatClampNeg) = (nI 1) → (o_vote N S x1 (nI 3) (-1) (nI 2)) ∧ O_end_45 N x1 x2 ((f_vote N S x1 (nI 3) (-1) (nI 2)).1) (f_vote N S x1 (nI 3) (-1) (nI 2)).2) ∧ (¬ (S.2.1 46 x1.toNatClampNeg) = (nI 1) → O_end_46 N x1 x2 S))) ∧ (¬ x2 = (nI 1) → O_end_46 N x1 x2 S))
set_option maxHeartbeats 4000000 in
theorem b_end_22 {G : zG} {E : rE} {S : rS} {N : Nat} {Q : Option Value → rS → Prop} {X : rS → Prop} (hG : zOK G) (hR : ∀ S', X S' → Q none S') {x1 : Int32} {x2 : Int32} (ok : O_end_22 N x1 x2 S) (hx : X (F_end_22 N x1 x2 S)) : rX G E dX12_end mX12_end 22 [some (.ref E.1), some (.int x1), some (.int x2)] [] S Q := by
  unfold O_end_22 at ok
  unfold F_end_22 at hx
  refine r_iload_n dX12_end_22 rfl rfl ?_
  refine r_iconst (v := nI 1) dX12_end_23 (by decide) ?_
  refine r_icmp_ne (tgt := 46) dX12_end_24 (by decide) (fun c_24 => ?_) (fun c_24 => ?_)
  · have ok := ok.2 c_24
    have hx := xif_n c_24 hx
    exact rX.cutz (b_end_46 hG hR ok hx) ⟨rfl, rfl, rfl, trivial⟩
  · have ok := ok.1 c_24
    have hx := xif_p c_24 hx
    refine r_aload_n dX12_end_27 rfl rfl ?_
    refine r_getA 46 fX12_315 (by decide) (by decide) dX12_end_28 ?_
    refine r_iload_n dX12_end_31 rfl rfl ?_
    refine r_iald (by decide) (by decide) dX12_end_32 ok.1 ?_
    have ok := ok.2
    refine r_iconst (v := nI 1) dX12_end_33 (by decide) ?_
    refine r_icmp_ne (tgt := 46) dX12_end_34 (by decide) (fun c_34 => ?_) (fun c_34 => ?_)
    · have ok := ok.2 c_34
      have hx := xif_n c_34 hx
      exact rX.cutz (b_end_46 hG hR ok hx) ⟨rfl, rfl, rfl, trivial⟩
    · have ok := ok.1 c_34
      have hx := xif_p c_34 hx
      refine r_aload_n dX12_end_37 rfl rfl ?_
      refine r_iload_n dX12_end_38 rfl rfl ?_
      refine r_iconst (v := nI 3) dX12_end_39 (by decide) ?_
      refine r_iconst (v := -1) dX12_end_40 (by decide) ?_
      refine r_iconst (v := nI 2) dX12_end_41 (by decide) ?_
      refine r_V4i (y' := mX12_vote) dX12_end_42 lX12_639 kX12_vote ⟨by decide, by decide⟩ rfl (Nat.le_of_ble_eq_true rfl) (rc_X12_vote hG ok.1) (fun v_42 S_42 h_42 => ?_)
      obtain ⟨rfl, hS_42⟩ := h_42
      have hS_42 := hS_42.symm
      subst hS_42
      have ok := ok.2
      exact rX.cutz (b_end_45 hG hR ok hx) ⟨rfl, rfl, rfl, trivial⟩
def F_end_21 (N : Nat) (x1 : Int32) (x2 : Int32) (s0 : Int32) (S : rS) : rS := (F_end_22 N x1 x2 S)
def O_end_21 (N : Nat) (x1 : Int32) (x2 : Int32) (s0 : Int32) (S : rS) : Prop := O_end_22 N x1 x2 S
set_option maxHeartbeats 4000000 in
theorem b_end_21 {G : zG} {E : rE} {S : rS} {N : Nat} {Q : Option Value → rS → Prop} {X : rS → Prop} (hG : zOK G) (hR : ∀ S', X S' → Q none S') {x1 : Int32} {x2 : Int32} {s0 : Int32} (ok : O_end_21 N x1 x2 s0 S) (hx : X (F_end_21 N x1 x2 s0 S)) : rX G E dX12_end mX12_end 21 [some (.ref E.1), some (.int x1), some (.int x2)] [.int s0] S Q := by
  unfold O_end_21 at ok
  unfold F_end_21 at hx
  refine r_pop dX12_end_21 rfl ?_
  exact rX.cutz (b_end_22 hG hR ok hx) ⟨rfl, rfl, rfl, trivial⟩
def F_end_0 (N : Nat) (x1 : Int32) (x2 : Int32) (S : rS) : rS := (if x2 = 0 then (if (S.2.1 46 x1.toNatClampNeg) = 0 then (F_end_21 N x1 x2 ((f_vote N S x1 (nI 2) (-1) (nI 1)).1) (f_vote N S x1 (nI 2) (-1) (nI 1)).2) else (F_end_22 N x1 x2 S)) else (F_end_22 N x1 x2 S))
def O_end_0 (N : Nat) (x1 : Int32) (x2 : Int32) (S : rS) : Prop := ((x2 = 0 → (vp_in x1 13) ∧ (((S.2.1 46 x1.toNatClampNeg) = 0 → (o_vote N S x1 (nI 2) (-1) (nI 1)) ∧ O_end_21 N x1 x2 ((f_vote N S x1 (nI 2) (-1) (nI 1)).1) (f_vote N S x1 (nI 2) (-1) (nI 1)).2) ∧ (¬ (S.2.1 46 x1.toNatClampNeg) = 0 → O_end_22 N x1 x2 S))) ∧ (¬ x2 = 0 → O_end_22 N x1 x2 S))
set_option maxHeartbeats 4000000 in
theorem b_end_0 {G : zG} {E : rE} {S : rS} {N : Nat} {Q : Option Value → rS → Prop} {X : rS → Prop} (hG : zOK G) (hR : ∀ S', X S' → Q none S') {x1 : Int32} {x2 : Int32} (ok : O_end_0 N x1 x2 S) (hx : X (F_end_0 N x1 x2 S)) : rX G E dX12_end mX12_end 0 [some (.ref E.1), some (.int x1), some (.int x2)] [] S Q := by
  unfold O_end_0 at ok
  unfold F_end_0 at hx
  refine r_iload_n dX12_end_0 rfl rfl ?_
  refine r_if_ne (tgt := 22) dX12_end_1 (by decide) (fun c_1 => ?_) (fun c_1 => ?_)
  · have ok := ok.2 c_1
    have hx := xif_n c_1 hx
    exact rX.cutz (b_end_22 hG hR ok hx) ⟨rfl, rfl, rfl, trivial⟩
  · have ok := ok.1 c_1
    have hx := xif_p c_1 hx
    refine r_aload_n dX12_end_4 rfl rfl ?_
    refine r_getA 46 fX12_315 (by decide) (by decide) dX12_end_5 ?_
    refine r_iload_n dX12_end_8 rfl rfl ?_
    refine r_iald (by decide) (by decide) dX12_end_9 ok.1 ?_
    have ok := ok.2
    refine r_if_ne (tgt := 22) dX12_end_10 (by decide) (fun c_10 => ?_) (fun c_10 => ?_)
    · have ok := ok.2 c_10
      have hx := xif_n c_10 hx
      exact rX.cutz (b_end_22 hG hR ok hx) ⟨rfl, rfl, rfl, trivial⟩
    · have ok := ok.1 c_10
      have hx := xif_p c_10 hx
      refine r_aload_n dX12_end_13 rfl rfl ?_
      refine r_iload_n dX12_end_14 rfl rfl ?_
      refine r_iconst (v := nI 2) dX12_end_15 (by decide) ?_
      refine r_iconst (v := -1) dX12_end_16 (by decide) ?_
      refine r_iconst (v := nI 1) dX12_end_17 (by decide) ?_
      refine r_V4i (y' := mX12_vote) dX12_end_18 lX12_639 kX12_vote ⟨by decide, by decide⟩ rfl (Nat.le_of_ble_eq_true rfl) (rc_X12_vote hG ok.1) (fun v_18 S_18 h_18 => ?_)
      obtain ⟨rfl, hS_18⟩ := h_18
      have hS_18 := hS_18.symm
      subst hS_18
      have ok := ok.2
      exact rX.cutz (b_end_21 hG hR ok hx) ⟨rfl, rfl, rfl, trivial⟩
def f_end (N : Nat) (S : rS) (x1 : Int32) (x2 : Int32) : rS := F_end_0 N x1 x2 S
def o_end (N : Nat) (S : rS) (x1 : Int32) (x2 : Int32) : Prop := O_end_0 N x1 x2 S
set_option maxHeartbeats 4000000 in
theorem rc_X12_end {G : zG} {E : rE} {S : rS} {N : Nat} (hG : zOK G) {x1 : Int32} {x2 : Int32} (ok : o_end N S x1 x2) : rCv G E dX12_end mX12_end [.ref E.1, .int x1, .int x2] S (fun S' => S' = f_end N S x1 x2) := by
  refine rC.ofX rfl (Nat.le_of_ble_eq_true rfl) ?_
  show rX G E dX12_end mX12_end 0 [some (.ref E.1), some (.int x1), some (.int x2)] [] S _
  exact rX.cutz (b_end_0 (X := fun F => F = f_end N S x1 x2) hG (fun S' h => ⟨rfl, h⟩) ok rfl) ⟨rfl, rfl, rfl, trivial⟩
/-! tick -/
def F_tick_109 (N : Nat) (x1 : Int32) (S : rS) : Int32 × rS := (x1, S)
def O_tick_109 (N : Nat) (x1 : Int32) (S : rS) : Prop := True
set_option maxHeartbeats 4000000 in
theorem b_tick_109 {G : zG} {E : rE} {S : rS} {N : Nat} {Q : Option Value → rS → Prop} {X : Int32 × rS → Prop} (hG : zOK G) (hR : ∀ v S', X (v, S') → Q (some (.int v)) S') {x1 : Int32} (ok : O_tick_109 N x1 S) (hx : X (F_tick_109 N x1 S)) : rX G E dX12_tick mX12_tick 109 [none, some (.int x1), none, none] [] S Q := by
  unfold O_tick_109 at ok
  unfold F_tick_109 at hx
  refine r_iload_n dX12_tick_109 rfl rfl ?_
  exact r_ireturn rfl rfl dX12_tick_110 (hR _ _ hx)
def F_tick_103 (N : Nat) (rec : Int32 → Int32 → rS → Nat × Int32 × rS) (x1 : Int32) (x2 : Int32) (S : rS) : Nat × Int32 × rS := (rec x1 (x2 + nI 1) S)
def O_tick_103 (N : Nat) (rok : Int32 → Int32 → rS → Prop) (x1 : Int32) (x2 : Int32) (S : rS) : Prop := rok x1 (x2 + nI 1) S
set_option maxHeartbeats 4000000 in
theorem b_tick_103 {G : zG} {E : rE} {S : rS} {N : Nat} {Q : Option Value → rS → Prop} {X : Nat × Int32 × rS → Prop} (hG : zOK G) (hX0 : ∀ (x1 : Int32) (S' : rS), X (0, x1, S') → rX G E dX12_tick mX12_tick 109 [none, some (.int x1), none, none] [] S' Q) {rec : Int32 → Int32 → rS → Nat × Int32 × rS} {rok : Int32 → Int32 → rS → Prop} (hrec : ∀ (x1 : Int32) (x2 : Int32) (S : rS), rok x1 x2 S → X (rec x1 x2 S) → rX G E dX12_tick mX12_tick 14 [some (.ref E.1), some (.int x1), some (.int x2), none] [] S Q) {x1 : Int32} {x2 : Int32} (ok : O_tick_103 N rok x1 x2 S) (hx : X (F_tick_103 N rec x1 x2 S)) : rX G E dX12_tick mX12_tick 103 [some (.ref E.1), some (.int x1), some (.int x2), none] [] S Q := by
  unfold O_tick_103 at ok
  unfold F_tick_103 at hx
  refine r_iinc_2 (v := (x2 + nI 1)) dX12_tick_103 rfl (by first | rfl | (congr 1)) (by decide) rfl ?_
  refine r_goto (tgt := 14) dX12_tick_106 (by decide) ?_
  exact rX.cutz (hrec _ _ S ok hx) ⟨rfl, rfl, rfl, trivial⟩
def F_tick_97 (N : Nat) (rec : Int32 → Int32 → Int32 → rS → Nat × Int32 × Int32 × rS) (x1 : Int32) (x2 : Int32) (x3 : Int32) (S : rS) : Nat × Int32 × Int32 × rS := (rec x1 x2 (x3 + nI 1) S)
def O_tick_97 (N : Nat) (rok : Int32 → Int32 → Int32 → rS → Prop) (x1 : Int32) (x2 : Int32) (x3 : Int32) (S : rS) : Prop := rok x1 x2 (x3 + nI 1) S
set_option maxHeartbeats 4000000 in
theorem b_tick_97 {G : zG} {E : rE} {S : rS} {N : Nat} {Q : Option Value → rS → Prop} {X : Nat × Int32 × Int32 × rS → Prop} (hG : zOK G) (hX0 : ∀ (x1 : Int32) (x2 : Int32) (S' : rS), X (0, x1, x2, S') → rX G E dX12_tick mX12_tick 103 [some (.ref E.1), some (.int x1), some (.int x2), none] [] S' Q) {rec : Int32 → Int32 → Int32 → rS → Nat × Int32 × Int32 × rS} {rok : Int32 → Int32 → Int32 → rS → Prop} (hrec : ∀ (x1 : Int32) (x2 : Int32) (x3 : Int32) (S : rS), rok x1 x2 x3 S → X (rec x1 x2 x3 S) → rX G E dX12_tick mX12_tick 24 [some (.ref E.1), some (.int x1), some (.int x2), some (.int x3)] [] S Q) {x1 : Int32} {x2 : Int32} {x3 : Int32} (ok : O_tick_97 N rok x1 x2 x3 S) (hx : X (F_tick_97 N rec x1 x2 x3 S)) : rX G E dX12_tick mX12_tick 97 [some (.ref E.1), some (.int x1), some (.int x2), some (.int x3)] [] S Q := by
  unfold O_tick_97 at ok
  unfold F_tick_97 at hx
  refine r_iinc_3 (v := (x3 + nI 1)) dX12_tick_97 rfl (by first | rfl | (congr 1)) (by decide) rfl ?_
  refine r_goto (tgt := 24) dX12_tick_100 (by decide) ?_
  exact rX.cutz (hrec _ _ _ S ok hx) ⟨rfl, rfl, rfl, rfl, trivial⟩
def F_tick_92 (N : Nat) (rec : Int32 → Int32 → Int32 → rS → Nat × Int32 × Int32 × rS) (x1 : Int32) (x2 : Int32) (x3 : Int32) (S : rS) : Nat × Int32 × Int32 × rS := (F_tick_97 N rec x1 x2 x3 (f_rules N S x2))
def O_tick_92 (N : Nat) (rok : Int32 → Int32 → Int32 → rS → Prop) (x1 : Int32) (x2 : Int32) (x3 : Int32) (S : rS) : Prop := (o_rules N S x2) ∧ O_tick_97 N rok x1 x2 x3 (f_rules N S x2)
set_option maxHeartbeats 4000000 in
theorem b_tick_92 {G : zG} {E : rE} {S : rS} {N : Nat} {Q : Option Value → rS → Prop} {X : Nat × Int32 × Int32 × rS → Prop} (hG : zOK G) (hX0 : ∀ (x1 : Int32) (x2 : Int32) (S' : rS), X (0, x1, x2, S') → rX G E dX12_tick mX12_tick 103 [some (.ref E.1), some (.int x1), some (.int x2), none] [] S' Q) {rec : Int32 → Int32 → Int32 → rS → Nat × Int32 × Int32 × rS} {rok : Int32 → Int32 → Int32 → rS → Prop} (hrec : ∀ (x1 : Int32) (x2 : Int32) (x3 : Int32) (S : rS), rok x1 x2 x3 S → X (rec x1 x2 x3 S) → rX G E dX12_tick mX12_tick 24 [some (.ref E.1), some (.int x1), some (.int x2), some (.int x3)] [] S Q) {x1 : Int32} {x2 : Int32} {x3 : Int32} (ok : O_tick_92 N rok x1 x2 x3 S) (hx : X (F_tick_92 N rec x1 x2 x3 S)) : rX G E dX12_tick mX12_tick 92 [some (.ref E.1), some (.int x1), some (.int x2), some (.int x3)] [] S Q := by
  unfold O_tick_92 at ok
  unfold F_tick_92 at hx
  refine r_aload_n dX12_tick_92 rfl rfl ?_
  refine r_iload_n dX12_tick_93 rfl rfl ?_
  refine r_V1v (y' := mX12_rules) dX12_tick_94 lX12_460 kX12_rules ⟨by decide, by decide⟩ rfl (Nat.le_of_ble_eq_true rfl) (rc_X12_rules hG ok.1) (fun S_94 h_94 => ?_)
  subst h_94
  have ok := ok.2
  exact rX.cutz (b_tick_97 hG hX0 hrec ok hx) ⟨rfl, rfl, rfl, rfl, trivial⟩
def B_tick_24 (N : Nat) (rec : Int32 → Int32 → Int32 → rS → Nat × Int32 × Int32 × rS) (x1 : Int32) (x2 : Int32) (x3 : Int32) (S : rS) : Nat × Int32 × Int32 × rS := (if (nI 3) ≤ x3 then (0, x1, x2, S) else (if (f_isUp N S x2) = 0 then (F_tick_97 N rec x1 x2 x3 S) else (if (S.2.1 52 (((nI 3) * x2) + x3).toNatClampNeg) = (-1) then (F_tick_97 N rec x1 x2 x3 S) else (if (S.2.1 52 (((nI 3) * x2) + x3).toNatClampNeg) ≤ (S.1 3) then (F_tick_92 N rec (x1 + (nI 1)) x2 x3 (f_end N (rsA S 52 (((nI 3) * x2) + x3).toNatClampNeg (-1)) x2 x3)) else (F_tick_97 N rec x1 x2 x3 S)))))
def OB_tick_24 (N : Nat) (rok : Int32 → Int32 → Int32 → rS → Prop) (x1 : Int32) (x2 : Int32) (x3 : Int32) (S : rS) : Prop := (((nI 3) ≤ x3 → True) ∧ (¬ (nI 3) ≤ x3 → (o_isUp N S x2) ∧ (((f_isUp N S x2) = 0 → O_tick_97 N rok x1 x2 x3 S) ∧ (¬ (f_isUp N S x2) = 0 → (vp_in (((nI 3) * x2) + x3) 39) ∧ (((S.2.1 52 (((nI 3) * x2) + x3).toNatClampNeg) = (-1) → O_tick_97 N rok x1 x2 x3 S) ∧ (¬ (S.2.1 52 (((nI 3) * x2) + x3).toNatClampNeg) = (-1) → (vp_in (((nI 3) * x2) + x3) 39) ∧ (((S.2.1 52 (((nI 3) * x2) + x3).toNatClampNeg) ≤ (S.1 3) → (vp_in (((nI 3) * x2) + x3) 39) ∧ (o_end N (rsA S 52 (((nI 3) * x2) + x3).toNatClampNeg (-1)) x2 x3) ∧ O_tick_92 N rok (x1 + (nI 1)) x2 x3 (f_end N (rsA S 52 (((nI 3) * x2) + x3).toNatClampNeg (-1)) x2 x3)) ∧ (¬ (S.2.1 52 (((nI 3) * x2) + x3).toNatClampNeg) ≤ (S.1 3) → O_tick_97 N rok x1 x2 x3 S))))))))
set_option maxHeartbeats 4000000 in
theorem bb_tick_24 {G : zG} {E : rE} {S : rS} {N : Nat} {Q : Option Value → rS → Prop} {X : Nat × Int32 × Int32 × rS → Prop} (hG : zOK G) (hX0 : ∀ (x1 : Int32) (x2 : Int32) (S' : rS), X (0, x1, x2, S') → rX G E dX12_tick mX12_tick 103 [some (.ref E.1), some (.int x1), some (.int x2), none] [] S' Q) {rec : Int32 → Int32 → Int32 → rS → Nat × Int32 × Int32 × rS} {rok : Int32 → Int32 → Int32 → rS → Prop} (hrec : ∀ (x1 : Int32) (x2 : Int32) (x3 : Int32) (S : rS), rok x1 x2 x3 S → X (rec x1 x2 x3 S) → rX G E dX12_tick mX12_tick 24 [some (.ref E.1), some (.int x1), some (.int x2), some (.int x3)] [] S Q) {x1 : Int32} {x2 : Int32} {x3 : Int32} (ok : OB_tick_24 N rok x1 x2 x3 S) (hx : X (B_tick_24 N rec x1 x2 x3 S)) : rX G E dX12_tick mX12_tick 24 [some (.ref E.1), some (.int x1), some (.int x2), some (.int x3)] [] S Q := by
  unfold OB_tick_24 at ok
  unfold B_tick_24 at hx
  refine r_iload_n dX12_tick_24 rfl rfl ?_
  refine r_iconst (v := nI 3) dX12_tick_25 (by decide) ?_
  refine r_icmp_ge (tgt := 103) dX12_tick_26 (by decide) (fun c_26 => ?_) (fun c_26 => ?_)
  · have ok := ok.1 c_26
    have hx := xif_p c_26 hx
    exact rX.cutz (hX0 _ _ S hx) ⟨rfl, rfl, rfl, trivial⟩
  · have ok := ok.2 c_26
    have hx := xif_n c_26 hx
    refine r_aload_n dX12_tick_29 rfl rfl ?_
    refine r_iload_n dX12_tick_30 rfl rfl ?_
    refine r_V1i (y' := mX12_isUp) dX12_tick_31 lX12_707 kX12_isUp ⟨by decide, by decide⟩ rfl (Nat.le_of_ble_eq_true rfl) (rc_X12_isUp hG ok.1) (fun v_31 S_31 h_31 => ?_)
    obtain ⟨rfl, hS_31⟩ := h_31
    have hS_31 := hS_31.symm
    subst hS_31
    have ok := ok.2
    refine r_if_eq (tgt := 97) dX12_tick_34 (by decide) (fun c_34 => ?_) (fun c_34 => ?_)
    · have ok := ok.1 c_34
      have hx := xif_p c_34 hx
      exact rX.cutz (b_tick_97 hG hX0 hrec ok hx) ⟨rfl, rfl, rfl, rfl, trivial⟩
    · have ok := ok.2 c_34
      have hx := xif_n c_34 hx
      refine r_aload_n dX12_tick_37 rfl rfl ?_
      refine r_getA 52 fX12_333 (by decide) (by decide) dX12_tick_38 ?_
      refine r_iconst (v := nI 3) dX12_tick_41 (by decide) ?_
      refine r_iload_n dX12_tick_42 rfl rfl ?_
      refine r_imul dX12_tick_43 ?_
      refine r_iload_n dX12_tick_44 rfl rfl ?_
      refine r_iadd dX12_tick_45 ?_
      refine r_iald (by decide) (by decide) dX12_tick_46 ok.1 ?_
      have ok := ok.2
      refine r_iconst (v := -1) dX12_tick_47 (by decide) ?_
      refine r_icmp_eq (tgt := 97) dX12_tick_48 (by decide) (fun c_48 => ?_) (fun c_48 => ?_)
      · have ok := ok.1 c_48
        have hx := xif_p c_48 hx
        exact rX.cutz (b_tick_97 hG hX0 hrec ok hx) ⟨rfl, rfl, rfl, rfl, trivial⟩
      · have ok := ok.2 c_48
        have hx := xif_n c_48 hx
        refine r_aload_n dX12_tick_51 rfl rfl ?_
        refine r_getA 52 fX12_333 (by decide) (by decide) dX12_tick_52 ?_
        refine r_iconst (v := nI 3) dX12_tick_55 (by decide) ?_
        refine r_iload_n dX12_tick_56 rfl rfl ?_
        refine r_imul dX12_tick_57 ?_
        refine r_iload_n dX12_tick_58 rfl rfl ?_
        refine r_iadd dX12_tick_59 ?_
        refine r_iald (by decide) (by decide) dX12_tick_60 ok.1 ?_
        have ok := ok.2
        refine r_aload_n dX12_tick_61 rfl rfl ?_
        refine r_getI 3 fX12_216 (by decide) (by decide) dX12_tick_62 ?_
        refine r_icmp_le (tgt := 71) dX12_tick_65 (by decide) (fun c_65 => ?_) (fun c_65 => ?_)
        · have ok := ok.1 c_65
          have hx := xif_p c_65 hx
          refine r_aload_n dX12_tick_71 rfl rfl ?_
          refine r_getA 52 fX12_333 (by decide) (by decide) dX12_tick_72 ?_
          refine r_iconst (v := nI 3) dX12_tick_75 (by decide) ?_
          refine r_iload_n dX12_tick_76 rfl rfl ?_
          refine r_imul dX12_tick_77 ?_
          refine r_iload_n dX12_tick_78 rfl rfl ?_
          refine r_iadd dX12_tick_79 ?_
          refine r_iconst (v := -1) dX12_tick_80 (by decide) ?_
          refine r_iast hG (by decide) (by decide) dX12_tick_81 ok.1 ?_
          have ok := ok.2
          refine r_iload_n dX12_tick_82 rfl rfl ?_
          refine r_iconst (v := nI 1) dX12_tick_83 (by decide) ?_
          refine r_iadd dX12_tick_84 ?_
          refine r_istore_1 dX12_tick_85 (by decide) rfl ?_
          refine r_aload_n dX12_tick_86 rfl rfl ?_
          refine r_iload_n dX12_tick_87 rfl rfl ?_
          refine r_iload_n dX12_tick_88 rfl rfl ?_
          refine r_V2v (y' := mX12_end) dX12_tick_89 lX12_719 kX12_end ⟨by decide, by decide⟩ rfl (Nat.le_of_ble_eq_true rfl) (rc_X12_end hG ok.1) (fun S_89 h_89 => ?_)
          subst h_89
          have ok := ok.2
          exact rX.cutz (b_tick_92 hG hX0 hrec ok hx) ⟨rfl, rfl, rfl, rfl, trivial⟩
        · have ok := ok.2 c_65
          have hx := xif_n c_65 hx
          refine r_goto (tgt := 97) dX12_tick_68 (by decide) ?_
          exact rX.cutz (b_tick_97 hG hX0 hrec ok hx) ⟨rfl, rfl, rfl, rfl, trivial⟩
def L_tick_24 (N : Nat) : Nat → Int32 → Int32 → Int32 → rS → Nat × Int32 × Int32 × rS
  | 0, x1, x2, x3, S => (0, 0, 0, S)
  | n + 1, x1, x2, x3, S => B_tick_24 N (L_tick_24 N n) x1 x2 x3 S
def OL_tick_24 (N : Nat) : Nat → Int32 → Int32 → Int32 → rS → Prop
  | 0, _, _, _, _ => False
  | n + 1, x1, x2, x3, S => OB_tick_24 N (OL_tick_24 N n) x1 x2 x3 S
set_option maxHeartbeats 4000000 in
theorem l_tick_24 {G : zG} {E : rE} {N : Nat} {Q : Option Value → rS → Prop} {X : Nat × Int32 × Int32 × rS → Prop} (hG : zOK G) (hX0 : ∀ (x1 : Int32) (x2 : Int32) (S' : rS), X (0, x1, x2, S') → rX G E dX12_tick mX12_tick 103 [some (.ref E.1), some (.int x1), some (.int x2), none] [] S' Q) : ∀ (n : Nat) (x1 : Int32) (x2 : Int32) (x3 : Int32) (S : rS), OL_tick_24 N n x1 x2 x3 S → X (L_tick_24 N n x1 x2 x3 S) → rX G E dX12_tick mX12_tick 24 [some (.ref E.1), some (.int x1), some (.int x2), some (.int x3)] [] S Q := by
  intro n
  induction n with
  | zero => intro x1 x2 x3 S ok; exact absurd ok id
  | succ n ih =>
    intro x1 x2 x3 S ok hx
    exact bb_tick_24 hG hX0 (rec := L_tick_24 N n) (rok := OL_tick_24 N n) (fun x1 x2 x3 S ok hx => ih x1 x2 x3 S ok hx) ok hx
def A_tick_24 (N : Nat) (rec : Int32 → Int32 → rS → Nat × Int32 × rS) (x1 : Int32) (x2 : Int32) (x3 : Int32) (S : rS) (z : Nat × Int32 × Int32 × rS) : Nat × Int32 × rS := (F_tick_103 N rec (z.2.1) (z.2.2.1) z.2.2.2)
def OA_tick_24 (N : Nat) (rok : Int32 → Int32 → rS → Prop) (x1 : Int32) (x2 : Int32) (x3 : Int32) (S : rS) (z : Nat × Int32 × Int32 × rS) : Prop := O_tick_103 N rok (z.2.1) (z.2.2.1) z.2.2.2
set_option maxHeartbeats 4000000 in
theorem c_tick_24 {G : zG} {E : rE} {S : rS} {N : Nat} {Q : Option Value → rS → Prop} {X : Nat × Int32 × rS → Prop} (hG : zOK G) (hX0 : ∀ (x1 : Int32) (S' : rS), X (0, x1, S') → rX G E dX12_tick mX12_tick 109 [none, some (.int x1), none, none] [] S' Q) {rec : Int32 → Int32 → rS → Nat × Int32 × rS} {rok : Int32 → Int32 → rS → Prop} (hrec : ∀ (x1 : Int32) (x2 : Int32) (S : rS), rok x1 x2 S → X (rec x1 x2 S) → rX G E dX12_tick mX12_tick 14 [some (.ref E.1), some (.int x1), some (.int x2), none] [] S Q) {x1 : Int32} {x2 : Int32} {x3 : Int32} (ok : OL_tick_24 N N x1 x2 x3 S ∧ OA_tick_24 N rok x1 x2 x3 S (L_tick_24 N N x1 x2 x3 S)) (hx : X (A_tick_24 N rec x1 x2 x3 S (L_tick_24 N N x1 x2 x3 S))) : rX G E dX12_tick mX12_tick 24 [some (.ref E.1), some (.int x1), some (.int x2), some (.int x3)] [] S Q := by
  refine l_tick_24 hG ?_ N x1 x2 x3 S ok.1 (X := fun z => OA_tick_24 N rok x1 x2 x3 S z ∧ X (A_tick_24 N rec x1 x2 x3 S z)) ⟨ok.2, hx⟩
  · intro x1' x2' S' hz
    obtain ⟨ok, hx⟩ := hz
    unfold OA_tick_24 at ok
    unfold A_tick_24 at hx
    exact rX.cutz (b_tick_103 hG hX0 hrec ok hx) ⟨rfl, rfl, rfl, trivial⟩
def B_tick_14 (N : Nat) (rec : Int32 → Int32 → rS → Nat × Int32 × rS) (x1 : Int32) (x2 : Int32) (S : rS) : Nat × Int32 × rS := (if (S.1 0) ≤ x2 then (0, x1, S) else (A_tick_24 N rec x1 x2 (nI 0) S (L_tick_24 N N x1 x2 (nI 0) S)))
def OB_tick_14 (N : Nat) (rok : Int32 → Int32 → rS → Prop) (x1 : Int32) (x2 : Int32) (S : rS) : Prop := (((S.1 0) ≤ x2 → True) ∧ (¬ (S.1 0) ≤ x2 → (OL_tick_24 N N x1 x2 (nI 0) S ∧ OA_tick_24 N rok x1 x2 (nI 0) S (L_tick_24 N N x1 x2 (nI 0) S))))
set_option maxHeartbeats 4000000 in
theorem bb_tick_14 {G : zG} {E : rE} {S : rS} {N : Nat} {Q : Option Value → rS → Prop} {X : Nat × Int32 × rS → Prop} (hG : zOK G) (hX0 : ∀ (x1 : Int32) (S' : rS), X (0, x1, S') → rX G E dX12_tick mX12_tick 109 [none, some (.int x1), none, none] [] S' Q) {rec : Int32 → Int32 → rS → Nat × Int32 × rS} {rok : Int32 → Int32 → rS → Prop} (hrec : ∀ (x1 : Int32) (x2 : Int32) (S : rS), rok x1 x2 S → X (rec x1 x2 S) → rX G E dX12_tick mX12_tick 14 [some (.ref E.1), some (.int x1), some (.int x2), none] [] S Q) {x1 : Int32} {x2 : Int32} (ok : OB_tick_14 N rok x1 x2 S) (hx : X (B_tick_14 N rec x1 x2 S)) : rX G E dX12_tick mX12_tick 14 [some (.ref E.1), some (.int x1), some (.int x2), none] [] S Q := by
  unfold OB_tick_14 at ok
  unfold B_tick_14 at hx
  refine r_iload_n dX12_tick_14 rfl rfl ?_
  refine r_aload_n dX12_tick_15 rfl rfl ?_
  refine r_getI 0 fX12_219 (by decide) (by decide) dX12_tick_16 ?_
  refine r_icmp_ge (tgt := 109) dX12_tick_19 (by decide) (fun c_19 => ?_) (fun c_19 => ?_)
  · have ok := ok.1 c_19
    have hx := xif_p c_19 hx
    exact rX.cutz (hX0 _ S hx) ⟨rfl, trivial⟩
  · have ok := ok.2 c_19
    have hx := xif_n c_19 hx
    refine r_iconst (v := nI 0) dX12_tick_22 (by decide) ?_
    refine r_istore_3 dX12_tick_23 (by decide) rfl ?_
    exact rX.cutz (c_tick_24 hG hX0 hrec ok hx) ⟨rfl, rfl, rfl, rfl, trivial⟩
def L_tick_14 (N : Nat) : Nat → Int32 → Int32 → rS → Nat × Int32 × rS
  | 0, x1, x2, S => (0, 0, S)
  | n + 1, x1, x2, S => B_tick_14 N (L_tick_14 N n) x1 x2 S
def OL_tick_14 (N : Nat) : Nat → Int32 → Int32 → rS → Prop
  | 0, _, _, _ => False
  | n + 1, x1, x2, S => OB_tick_14 N (OL_tick_14 N n) x1 x2 S
set_option maxHeartbeats 4000000 in
theorem l_tick_14 {G : zG} {E : rE} {N : Nat} {Q : Option Value → rS → Prop} {X : Nat × Int32 × rS → Prop} (hG : zOK G) (hX0 : ∀ (x1 : Int32) (S' : rS), X (0, x1, S') → rX G E dX12_tick mX12_tick 109 [none, some (.int x1), none, none] [] S' Q) : ∀ (n : Nat) (x1 : Int32) (x2 : Int32) (S : rS), OL_tick_14 N n x1 x2 S → X (L_tick_14 N n x1 x2 S) → rX G E dX12_tick mX12_tick 14 [some (.ref E.1), some (.int x1), some (.int x2), none] [] S Q := by
  intro n
  induction n with
  | zero => intro x1 x2 S ok; exact absurd ok id
  | succ n ih =>
    intro x1 x2 S ok hx
    exact bb_tick_14 hG hX0 (rec := L_tick_14 N n) (rok := OL_tick_14 N n) (fun x1 x2 S ok hx => ih x1 x2 S ok hx) ok hx
def A_tick_14 (N : Nat) (x1 : Int32) (x2 : Int32) (S : rS) (z : Nat × Int32 × rS) : Int32 × rS := (F_tick_109 N (z.2.1) z.2.2)
def OA_tick_14 (N : Nat) (x1 : Int32) (x2 : Int32) (S : rS) (z : Nat × Int32 × rS) : Prop := O_tick_109 N (z.2.1) z.2.2
set_option maxHeartbeats 4000000 in
theorem c_tick_14 {G : zG} {E : rE} {S : rS} {N : Nat} {Q : Option Value → rS → Prop} {X : Int32 × rS → Prop} (hG : zOK G) (hR : ∀ v S', X (v, S') → Q (some (.int v)) S') {x1 : Int32} {x2 : Int32} (ok : OL_tick_14 N N x1 x2 S ∧ OA_tick_14 N x1 x2 S (L_tick_14 N N x1 x2 S)) (hx : X (A_tick_14 N x1 x2 S (L_tick_14 N N x1 x2 S))) : rX G E dX12_tick mX12_tick 14 [some (.ref E.1), some (.int x1), some (.int x2), none] [] S Q := by
  refine l_tick_14 hG ?_ N x1 x2 S ok.1 (X := fun z => OA_tick_14 N x1 x2 S z ∧ X (A_tick_14 N x1 x2 S z)) ⟨ok.2, hx⟩
  · intro x1' S' hz
    obtain ⟨ok, hx⟩ := hz
    unfold OA_tick_14 at ok
    unfold A_tick_14 at hx
    exact rX.cutz (b_tick_109 hG hR ok hx) ⟨rfl, trivial⟩
def F_tick_0 (N : Nat)  (S : rS) : Int32 × rS := (A_tick_14 N (nI 0) (nI 0) (rsI S 3 ((S.1 3) + (nI 1))) (L_tick_14 N N (nI 0) (nI 0) (rsI S 3 ((S.1 3) + (nI 1)))))
def O_tick_0 (N : Nat)  (S : rS) : Prop := (OL_tick_14 N N (nI 0) (nI 0) (rsI S 3 ((S.1 3) + (nI 1))) ∧ OA_tick_14 N (nI 0) (nI 0) (rsI S 3 ((S.1 3) + (nI 1))) (L_tick_14 N N (nI 0) (nI 0) (rsI S 3 ((S.1 3) + (nI 1)))))
set_option maxHeartbeats 4000000 in
theorem b_tick_0 {G : zG} {E : rE} {S : rS} {N : Nat} {Q : Option Value → rS → Prop} {X : Int32 × rS → Prop} (hG : zOK G) (hR : ∀ v S', X (v, S') → Q (some (.int v)) S') (ok : O_tick_0 N S) (hx : X (F_tick_0 N S)) : rX G E dX12_tick mX12_tick 0 [some (.ref E.1), none, none, none] [] S Q := by
  unfold O_tick_0 at ok
  unfold F_tick_0 at hx
  refine r_aload_n dX12_tick_0 rfl rfl ?_
  refine r_aload_n dX12_tick_1 rfl rfl ?_
  refine r_getI 3 fX12_216 (by decide) (by decide) dX12_tick_2 ?_
  refine r_iconst (v := nI 1) dX12_tick_5 (by decide) ?_
  refine r_iadd dX12_tick_6 ?_
  refine r_putI 3 fX12_216 (by decide) (by decide) rfl rfl rfl dX12_tick_7 ?_
  refine r_iconst (v := nI 0) dX12_tick_10 (by decide) ?_
  refine r_istore_1 dX12_tick_11 (by decide) rfl ?_
  refine r_iconst (v := nI 0) dX12_tick_12 (by decide) ?_
  refine r_istore_2 dX12_tick_13 (by decide) rfl ?_
  exact rX.cutz (c_tick_14 hG hR ok hx) ⟨rfl, rfl, rfl, trivial⟩
def f_tick (N : Nat) (S : rS) : Int32 × rS := F_tick_0 N S
def o_tick (N : Nat) (S : rS) : Prop := O_tick_0 N S
set_option maxHeartbeats 4000000 in
theorem rc_X12_tick {G : zG} {E : rE} {S : rS} {N : Nat} (hG : zOK G) (ok : o_tick N S ) : rCi G E dX12_tick mX12_tick [.ref E.1] S (fun v S' => v = (f_tick N S).1 ∧ S' = (f_tick N S).2) := by
  refine rC.ofX rfl (Nat.le_of_ble_eq_true rfl) ?_
  show rX G E dX12_tick mX12_tick 0 [some (.ref E.1), none, none, none] [] S _
  exact rX.cutz (b_tick_0 (X := fun F => F = f_tick N S) hG (fun v S' h => ⟨v, rfl, by rw [← h], by rw [← h]⟩) ok rfl) ⟨rfl, trivial⟩

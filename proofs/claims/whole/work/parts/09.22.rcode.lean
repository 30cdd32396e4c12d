/-! calm -/
def F_calm_92 (N : Nat) (x3 : Int32) (S : rS) : Int32 × rS := (x3, S)
def O_calm_92 (N : Nat) (x3 : Int32) (S : rS) : Prop := True
set_option maxHeartbeats 4000000 in
theorem b_calm_92 {G : zG} {E : rE} {S : rS} {N : Nat} {Q : Option Value → rS → Prop} {X : Int32 × rS → Prop} (hG : zOK G) (hR : ∀ v S', X (v, S') → Q (some (.int v)) S') {x3 : Int32} (ok : O_calm_92 N x3 S) (hx : X (F_calm_92 N x3 S)) : rX G E dX12_calm mX12_calm 92 [none, none, none, some (.int x3), none] [] S Q := by
  unfold O_calm_92 at ok
  unfold F_calm_92 at hx
  refine r_iload_n dX12_calm_92 rfl rfl ?_
  exact r_ireturn rfl rfl dX12_calm_93 (hR _ _ hx)
def F_calm_85 (N : Nat) (rec : Int32 → Int32 → Int32 → Int32 → rS → Nat × Int32 × rS) (x1 : Int32) (x2 : Int32) (x3 : Int32) (x4 : Int32) (s0 : Int32) (S : rS) : Nat × Int32 × rS := (rec x1 x2 x3 (x4 + nI 1) S)
def O_calm_85 (N : Nat) (rok : Int32 → Int32 → Int32 → Int32 → rS → Prop) (x1 : Int32) (x2 : Int32) (x3 : Int32) (x4 : Int32) (s0 : Int32) (S : rS) : Prop := rok x1 x2 x3 (x4 + nI 1) S
set_option maxHeartbeats 4000000 in
theorem b_calm_85 {G : zG} {E : rE} {S : rS} {N : Nat} {Q : Option Value → rS → Prop} {X : Nat × Int32 × rS → Prop} (hG : zOK G) (hX0 : ∀ (x3 : Int32) (S' : rS), X (0, x3, S') → rX G E dX12_calm mX12_calm 92 [none, none, none, some (.int x3), none] [] S' Q) {rec : Int32 → Int32 → Int32 → Int32 → rS → Nat × Int32 × rS} {rok : Int32 → Int32 → Int32 → Int32 → rS → Prop} (hrec : ∀ (x1 : Int32) (x2 : Int32) (x3 : Int32) (x4 : Int32) (S : rS), rok x1 x2 x3 x4 S → X (rec x1 x2 x3 x4 S) → rX G E dX12_calm mX12_calm 28 [some (.ref E.1), some (.int x1), some (.int x2), some (.int x3), some (.int x4)] [] S Q) {x1 : Int32} {x2 : Int32} {x3 : Int32} {x4 : Int32} {s0 : Int32} (ok : O_calm_85 N rok x1 x2 x3 x4 s0 S) (hx : X (F_calm_85 N rec x1 x2 x3 x4 s0 S)) : rX G E dX12_calm mX12_calm 85 [some (.ref E.1), some (.int x1), some (.int x2), some (.int x3), some (.int x4)] [.int s0] S Q := by
  unfold O_calm_85 at ok
  unfold F_calm_85 at hx
  refine r_pop dX12_calm_85 rfl ?_
  refine r_iinc_4 (v := (x4 + nI 1)) dX12_calm_86 rfl (by first | rfl | (congr 1)) (by decide) rfl ?_
  refine r_goto (tgt := 28) dX12_calm_89 (by decide) ?_
  exact rX.cutz (hrec _ _ _ _ S ok hx) ⟨rfl, rfl, rfl, rfl, rfl, trivial⟩
def F_calm_81 (N : Nat) (rec : Int32 → Int32 → Int32 → Int32 → rS → Nat × Int32 × rS) (x1 : Int32) (x2 : Int32) (x3 : Int32) (x4 : Int32) (S : rS) : Nat × Int32 × rS := (F_calm_85 N rec x1 x2 x3 x4 ((f_tick N S).1) (f_tick N S).2)
def O_calm_81 (N : Nat) (rok : Int32 → Int32 → Int32 → Int32 → rS → Prop) (x1 : Int32) (x2 : Int32) (x3 : Int32) (x4 : Int32) (S : rS) : Prop := (o_tick N S) ∧ O_calm_85 N rok x1 x2 x3 x4 ((f_tick N S).1) (f_tick N S).2
set_option maxHeartbeats 4000000 in
theorem b_calm_81 {G : zG} {E : rE} {S : rS} {N : Nat} {Q : Option Value → rS → Prop} {X : Nat × Int32 × rS → Prop} (hG : zOK G) (hX0 : ∀ (x3 : Int32) (S' : rS), X (0, x3, S') → rX G E dX12_calm mX12_calm 92 [none, none, none, some (.int x3), none] [] S' Q) {rec : Int32 → Int32 → Int32 → Int32 → rS → Nat × Int32 × rS} {rok : Int32 → Int32 → Int32 → Int32 → rS → Prop} (hrec : ∀ (x1 : Int32) (x2 : Int32) (x3 : Int32) (x4 : Int32) (S : rS), rok x1 x2 x3 x4 S → X (rec x1 x2 x3 x4 S) → rX G E dX12_calm mX12_calm 28 [some (.ref E.1), some (.int x1), some (.int x2), some (.int x3), some (.int x4)] [] S Q) {x1 : Int32} {x2 : Int32} {x3 : Int32} {x4 : Int32} (ok : O_calm_81 N rok x1 x2 x3 x4 S) (hx : X (F_calm_81 N rec x1 x2 x3 x4 S)) : rX G E dX12_calm mX12_calm 81 [some (.ref E.1), some (.int x1), some (.int x2), some (.int x3), some (.int x4)] [] S Q := by
  unfold O_calm_81 at ok
  unfold F_calm_81 at hx
  refine r_aload_n dX12_calm_81 rfl rfl ?_
  refine r_V0i (y' := mX12_tick) dX12_calm_82 lX12_716 kX12_tick ⟨by decide, by decide⟩ rfl (Nat.le_of_ble_eq_true rfl) (rc_X12_tick hG ok.1) (fun v_82 S_82 h_82 => ?_)
  obtain ⟨rfl, hS_82⟩ := h_82
  have hS_82 := hS_82.symm
  subst hS_82
  have ok := ok.2
  exact rX.cutz (b_calm_85 hG hX0 hrec ok hx) ⟨rfl, rfl, rfl, rfl, rfl, trivial⟩
def F_calm_73 (N : Nat) (rec : Int32 → Int32 → Int32 → Int32 → rS → Nat × Int32 × Int32 × Int32 × Int32 × rS) (x1 : Int32) (x2 : Int32) (x3 : Int32) (x4 : Int32) (s0 : Int32) (S : rS) : Nat × Int32 × Int32 × Int32 × Int32 × rS := (rec x1 x2 (x3 + (nI 1)) x4 S)
def O_calm_73 (N : Nat) (rok : Int32 → Int32 → Int32 → Int32 → rS → Prop) (x1 : Int32) (x2 : Int32) (x3 : Int32) (x4 : Int32) (s0 : Int32) (S : rS) : Prop := rok x1 x2 (x3 + (nI 1)) x4 S
set_option maxHeartbeats 4000000 in
theorem b_calm_73 {G : zG} {E : rE} {S : rS} {N : Nat} {Q : Option Value → rS → Prop} {X : Nat × Int32 × Int32 × Int32 × Int32 × rS → Prop} (hG : zOK G) (hX0 : ∀ (x1 : Int32) (x2 : Int32) (x3 : Int32) (x4 : Int32) (S' : rS), X (0, x1, x2, x3, x4, S') → rX G E dX12_calm mX12_calm 81 [some (.ref E.1), some (.int x1), some (.int x2), some (.int x3), some (.int x4)] [] S' Q) {rec : Int32 → Int32 → Int32 → Int32 → rS → Nat × Int32 × Int32 × Int32 × Int32 × rS} {rok : Int32 → Int32 → Int32 → Int32 → rS → Prop} (hrec : ∀ (x1 : Int32) (x2 : Int32) (x3 : Int32) (x4 : Int32) (S : rS), rok x1 x2 x3 x4 S → X (rec x1 x2 x3 x4 S) → rX G E dX12_calm mX12_calm 34 [some (.ref E.1), some (.int x1), some (.int x2), some (.int x3), some (.int x4)] [] S Q) {x1 : Int32} {x2 : Int32} {x3 : Int32} {x4 : Int32} {s0 : Int32} (ok : O_calm_73 N rok x1 x2 x3 x4 s0 S) (hx : X (F_calm_73 N rec x1 x2 x3 x4 s0 S)) : rX G E dX12_calm mX12_calm 73 [some (.ref E.1), some (.int x1), some (.int x2), some (.int x3), some (.int x4)] [.int s0] S Q := by
  unfold O_calm_73 at ok
  unfold F_calm_73 at hx
  refine r_pop dX12_calm_73 rfl ?_
  refine r_iload_n dX12_calm_74 rfl rfl ?_
  refine r_iconst (v := nI 1) dX12_calm_75 (by decide) ?_
  refine r_iadd dX12_calm_76 ?_
  refine r_istore_3 dX12_calm_77 (by decide) rfl ?_
  refine r_goto (tgt := 34) dX12_calm_78 (by decide) ?_
  exact rX.cutz (hrec _ _ _ _ S ok hx) ⟨rfl, rfl, rfl, rfl, rfl, trivial⟩
def B_calm_34 (N : Nat) (rec : Int32 → Int32 → Int32 → Int32 → rS → Nat × Int32 × Int32 × Int32 × Int32 × rS) (x1 : Int32) (x2 : Int32) (x3 : Int32) (x4 : Int32) (S : rS) : Nat × Int32 × Int32 × Int32 × Int32 × rS := (if (nI 5000) ≤ x3 then (0, x1, x2, x3, x4, S) else (if (S.1 23) ≤ 0 then (0, x1, x2, x3, x4, S) else (if ((S.1 3) - (S.2.1 30 (S.2.1 24 (nI 0).toNatClampNeg).toNatClampNeg)) < x2 then (0, x1, x2, x3, x4, S) else (F_calm_73 N rec x1 x2 x3 x4 ((f_deliver N S (nI 0)).1) (f_deliver N S (nI 0)).2))))
def OB_calm_34 (N : Nat) (rok : Int32 → Int32 → Int32 → Int32 → rS → Prop) (x1 : Int32) (x2 : Int32) (x3 : Int32) (x4 : Int32) (S : rS) : Prop := (((nI 5000) ≤ x3 → True) ∧ (¬ (nI 5000) ≤ x3 → (((S.1 23) ≤ 0 → True) ∧ (¬ (S.1 23) ≤ 0 → (vp_in (nI 0) 1000) ∧ (vp_in (S.2.1 24 (nI 0).toNatClampNeg) 1000) ∧ ((((S.1 3) - (S.2.1 30 (S.2.1 24 (nI 0).toNatClampNeg).toNatClampNeg)) < x2 → True) ∧ (¬ ((S.1 3) - (S.2.1 30 (S.2.1 24 (nI 0).toNatClampNeg).toNatClampNeg)) < x2 → (o_deliver N S (nI 0)) ∧ O_calm_73 N rok x1 x2 x3 x4 ((f_deliver N S (nI 0)).1) (f_deliver N S (nI 0)).2))))))
set_option maxHeartbeats 4000000 in
theorem bb_calm_34 {G : zG} {E : rE} {S : rS} {N : Nat} {Q : Option Value → rS → Prop} {X : Nat × Int32 × Int32 × Int32 × Int32 × rS → Prop} (hG : zOK G) (hX0 : ∀ (x1 : Int32) (x2 : Int32) (x3 : Int32) (x4 : Int32) (S' : rS), X (0, x1, x2, x3, x4, S') → rX G E dX12_calm mX12_calm 81 [some (.ref E.1), some (.int x1), some (.int x2), some (.int x3), some (.int x4)] [] S' Q) {rec : Int32 → Int32 → Int32 → Int32 → rS → Nat × Int32 × Int32 × Int32 × Int32 × rS} {rok : Int32 → Int32 → Int32 → Int32 → rS → Prop} (hrec : ∀ (x1 : Int32) (x2 : Int32) (x3 : Int32) (x4 : Int32) (S : rS), rok x1 x2 x3 x4 S → X (rec x1 x2 x3 x4 S) → rX G E dX12_calm mX12_calm 34 [some (.ref E.1), some (.int x1), some (.int x2), some (.int x3), some (.int x4)] [] S Q) {x1 : Int32} {x2 : Int32} {x3 : Int32} {x4 : Int32} (ok : OB_calm_34 N rok x1 x2 x3 x4 S) (hx : X (B_calm_34 N rec x1 x2 x3 x4 S)) : rX G E dX12_calm mX12_calm 34 [some (.ref E.1), some (.int x1), some (.int x2), some (.int x3), some (.int x4)] [] S Q := by
  unfold OB_calm_34 at ok
  unfold B_calm_34 at hx
  refine r_iload_n dX12_calm_34 rfl rfl ?_
  refine r_sipush (v := nI 5000) dX12_calm_35 (by decide) ?_
  refine r_icmp_ge (tgt := 81) dX12_calm_38 (by decide) (fun c_38 => ?_) (fun c_38 => ?_)
  · have ok := ok.1 c_38
    have hx := xif_p c_38 hx
    exact rX.cutz (hX0 _ _ _ _ S hx) ⟨rfl, rfl, rfl, rfl, rfl, trivial⟩
  · have ok := ok.2 c_38
    have hx := xif_n c_38 hx
    refine r_aload_n dX12_calm_41 rfl rfl ?_
    refine r_getI 23 fX12_182 (by decide) (by decide) dX12_calm_42 ?_
    refine r_if_le (tgt := 81) dX12_calm_45 (by decide) (fun c_45 => ?_) (fun c_45 => ?_)
    · have ok := ok.1 c_45
      have hx := xif_p c_45 hx
      exact rX.cutz (hX0 _ _ _ _ S hx) ⟨rfl, rfl, rfl, rfl, rfl, trivial⟩
    · have ok := ok.2 c_45
      have hx := xif_n c_45 hx
      refine r_aload_n dX12_calm_48 rfl rfl ?_
      refine r_getI 3 fX12_216 (by decide) (by decide) dX12_calm_49 ?_
      refine r_aload_n dX12_calm_52 rfl rfl ?_
      refine r_getA 30 fX12_213 (by decide) (by decide) dX12_calm_53 ?_
      refine r_aload_n dX12_calm_56 rfl rfl ?_
      refine r_getA 24 fX12_176 (by decide) (by decide) dX12_calm_57 ?_
      refine r_iconst (v := nI 0) dX12_calm_60 (by decide) ?_
      refine r_iald (by decide) (by decide) dX12_calm_61 ok.1 ?_
      have ok := ok.2
      refine r_iald (by decide) (by decide) dX12_calm_62 ok.1 ?_
      have ok := ok.2
      refine r_isub dX12_calm_63 ?_
      refine r_iload_n dX12_calm_64 rfl rfl ?_
      refine r_icmp_lt (tgt := 81) dX12_calm_65 (by decide) (fun c_65 => ?_) (fun c_65 => ?_)
      · have ok := ok.1 c_65
        have hx := xif_p c_65 hx
        exact rX.cutz (hX0 _ _ _ _ S hx) ⟨rfl, rfl, rfl, rfl, rfl, trivial⟩
      · have ok := ok.2 c_65
        have hx := xif_n c_65 hx
        refine r_aload_n dX12_calm_68 rfl rfl ?_
        refine r_iconst (v := nI 0) dX12_calm_69 (by decide) ?_
        refine r_V1i (y' := mX12_deliver) dX12_calm_70 lX12_713 kX12_deliver ⟨by decide, by decide⟩ rfl (Nat.le_of_ble_eq_true rfl) (rc_X12_deliver hG ok.1) (fun v_70 S_70 h_70 => ?_)
        obtain ⟨rfl, hS_70⟩ := h_70
        have hS_70 := hS_70.symm
        subst hS_70
        have ok := ok.2
        exact rX.cutz (b_calm_73 hG hX0 hrec ok hx) ⟨rfl, rfl, rfl, rfl, rfl, trivial⟩
def L_calm_34 (N : Nat) : Nat → Int32 → Int32 → Int32 → Int32 → rS → Nat × Int32 × Int32 × Int32 × Int32 × rS
  | 0, x1, x2, x3, x4, S => (0, 0, 0, 0, 0, S)
  | n + 1, x1, x2, x3, x4, S => B_calm_34 N (L_calm_34 N n) x1 x2 x3 x4 S
def OL_calm_34 (N : Nat) : Nat → Int32 → Int32 → Int32 → Int32 → rS → Prop
  | 0, _, _, _, _, _ => False
  | n + 1, x1, x2, x3, x4, S => OB_calm_34 N (OL_calm_34 N n) x1 x2 x3 x4 S
set_option maxHeartbeats 4000000 in
theorem l_calm_34 {G : zG} {E : rE} {N : Nat} {Q : Option Value → rS → Prop} {X : Nat × Int32 × Int32 × Int32 × Int32 × rS → Prop} (hG : zOK G) (hX0 : ∀ (x1 : Int32) (x2 : Int32) (x3 : Int32) (x4 : Int32) (S' : rS), X (0, x1, x2, x3, x4, S') → rX G E dX12_calm mX12_calm 81 [some (.ref E.1), some (.int x1), some (.int x2), some (.int x3), some (.int x4)] [] S' Q) : ∀ (n : Nat) (x1 : Int32) (x2 : Int32) (x3 : Int32) (x4 : Int32) (S : rS), OL_calm_34 N n x1 x2 x3 x4 S → X (L_calm_34 N n x1 x2 x3 x4 S) → rX G E dX12_calm mX12_calm 34 [some (.ref E.1), some (.int x1), some (.int x2), some (.int x3), some (.int x4)] [] S Q := by
  intro n
  induction n with
  | zero => intro x1 x2 x3 x4 S ok; exact absurd ok id
  | succ n ih =>
    intro x1 x2 x3 x4 S ok hx
    exact bb_calm_34 hG hX0 (rec := L_calm_34 N n) (rok := OL_calm_34 N n) (fun x1 x2 x3 x4 S ok hx => ih x1 x2 x3 x4 S ok hx) ok hx
def A_calm_34 (N : Nat) (rec : Int32 → Int32 → Int32 → Int32 → rS → Nat × Int32 × rS) (x1 : Int32) (x2 : Int32) (x3 : Int32) (x4 : Int32) (S : rS) (z : Nat × Int32 × Int32 × Int32 × Int32 × rS) : Nat × Int32 × rS := (F_calm_81 N rec (z.2.1) (z.2.2.1) (z.2.2.2.1) (z.2.2.2.2.1) z.2.2.2.2.2)
def OA_calm_34 (N : Nat) (rok : Int32 → Int32 → Int32 → Int32 → rS → Prop) (x1 : Int32) (x2 : Int32) (x3 : Int32) (x4 : Int32) (S : rS) (z : Nat × Int32 × Int32 × Int32 × Int32 × rS) : Prop := O_calm_81 N rok (z.2.1) (z.2.2.1) (z.2.2.2.1) (z.2.2.2.2.1) z.2.2.2.2.2
set_option maxHeartbeats 4000000 in
theorem c_calm_34 {G : zG} {E : rE} {S : rS} {N : Nat} {Q : Option Value → rS → Prop} {X : Nat × Int32 × rS → Prop} (hG : zOK G) (hX0 : ∀ (x3 : Int32) (S' : rS), X (0, x3, S') → rX G E dX12_calm mX12_calm 92 [none, none, none, some (.int x3), none] [] S' Q) {rec : Int32 → Int32 → Int32 → Int32 → rS → Nat × Int32 × rS} {rok : Int32 → Int32 → Int32 → Int32 → rS → Prop} (hrec : ∀ (x1 : Int32) (x2 : Int32) (x3 : Int32) (x4 : Int32) (S : rS), rok x1 x2 x3 x4 S → X (rec x1 x2 x3 x4 S) → rX G E dX12_calm mX12_calm 28 [some (.ref E.1), some (.int x1), some (.int x2), some (.int x3), some (.int x4)] [] S Q) {x1 : Int32} {x2 : Int32} {x3 : Int32} {x4 : Int32} (ok : OL_calm_34 N N x1 x2 x3 x4 S ∧ OA_calm_34 N rok x1 x2 x3 x4 S (L_calm_34 N N x1 x2 x3 x4 S)) (hx : X (A_calm_34 N rec x1 x2 x3 x4 S (L_calm_34 N N x1 x2 x3 x4 S))) : rX G E dX12_calm mX12_calm 34 [some (.ref E.1), some (.int x1), some (.int x2), some (.int x3), some (.int x4)] [] S Q := by
  refine l_calm_34 hG ?_ N x1 x2 x3 x4 S ok.1 (X := fun z => OA_calm_34 N rok x1 x2 x3 x4 S z ∧ X (A_calm_34 N rec x1 x2 x3 x4 S z)) ⟨ok.2, hx⟩
  · intro x1' x2' x3' x4' S' hz
    obtain ⟨ok, hx⟩ := hz
    unfold OA_calm_34 at ok
    unfold A_calm_34 at hx
    exact rX.cutz (b_calm_81 hG hX0 hrec ok hx) ⟨rfl, rfl, rfl, rfl, rfl, trivial⟩
def B_calm_28 (N : Nat) (rec : Int32 → Int32 → Int32 → Int32 → rS → Nat × Int32 × rS) (x1 : Int32) (x2 : Int32) (x3 : Int32) (x4 : Int32) (S : rS) : Nat × Int32 × rS := (if x1 ≤ x4 then (0, x3, S) else (A_calm_34 N rec x1 x2 x3 x4 S (L_calm_34 N N x1 x2 x3 x4 S)))
def OB_calm_28 (N : Nat) (rok : Int32 → Int32 → Int32 → Int32 → rS → Prop) (x1 : Int32) (x2 : Int32) (x3 : Int32) (x4 : Int32) (S : rS) : Prop := ((x1 ≤ x4 → True) ∧ (¬ x1 ≤ x4 → (OL_calm_34 N N x1 x2 x3 x4 S ∧ OA_calm_34 N rok x1 x2 x3 x4 S (L_calm_34 N N x1 x2 x3 x4 S))))
set_option maxHeartbeats 4000000 in
theorem bb_calm_28 {G : zG} {E : rE} {S : rS} {N : Nat} {Q : Option Value → rS → Prop} {X : Nat × Int32 × rS → Prop} (hG : zOK G) (hX0 : ∀ (x3 : Int32) (S' : rS), X (0, x3, S') → rX G E dX12_calm mX12_calm 92 [none, none, none, some (.int x3), none] [] S' Q) {rec : Int32 → Int32 → Int32 → Int32 → rS → Nat × Int32 × rS} {rok : Int32 → Int32 → Int32 → Int32 → rS → Prop} (hrec : ∀ (x1 : Int32) (x2 : Int32) (x3 : Int32) (x4 : Int32) (S : rS), rok x1 x2 x3 x4 S → X (rec x1 x2 x3 x4 S) → rX G E dX12_calm mX12_calm 28 [some (.ref E.1), some (.int x1), some (.int x2), some (.int x3), some (.int x4)] [] S Q) {x1 : Int32} {x2 : Int32} {x3 : Int32} {x4 : Int32} (ok : OB_calm_28 N rok x1 x2 x3 x4 S) (hx : X (B_calm_28 N rec x1 x2 x3 x4 S)) : rX G E dX12_calm mX12_calm 28 [some (.ref E.1), some (.int x1), some (.int x2), some (.int x3), some (.int x4)] [] S Q := by
  unfold OB_calm_28 at ok
  unfold B_calm_28 at hx
  refine r_iload dX12_calm_28 rfl ?_
  refine r_iload_n dX12_calm_30 rfl rfl ?_
  refine r_icmp_ge (tgt := 92) dX12_calm_31 (by decide) (fun c_31 => ?_) (fun c_31 => ?_)
  · have ok := ok.1 c_31
    have hx := xif_p c_31 hx
    exact rX.cutz (hX0 _ S hx) ⟨rfl, trivial⟩
  · have ok := ok.2 c_31
    have hx := xif_n c_31 hx
    exact rX.cutz (c_calm_34 hG hX0 hrec ok hx) ⟨rfl, rfl, rfl, rfl, rfl, trivial⟩
def L_calm_28 (N : Nat) : Nat → Int32 → Int32 → Int32 → Int32 → rS → Nat × Int32 × rS
  | 0, x1, x2, x3, x4, S => (0, 0, S)
  | n + 1, x1, x2, x3, x4, S => B_calm_28 N (L_calm_28 N n) x1 x2 x3 x4 S
def OL_calm_28 (N : Nat) : Nat → Int32 → Int32 → Int32 → Int32 → rS → Prop
  | 0, _, _, _, _, _ => False
  | n + 1, x1, x2, x3, x4, S => OB_calm_28 N (OL_calm_28 N n) x1 x2 x3 x4 S
set_option maxHeartbeats 4000000 in
theorem l_calm_28 {G : zG} {E : rE} {N : Nat} {Q : Option Value → rS → Prop} {X : Nat × Int32 × rS → Prop} (hG : zOK G) (hX0 : ∀ (x3 : Int32) (S' : rS), X (0, x3, S') → rX G E dX12_calm mX12_calm 92 [none, none, none, some (.int x3), none] [] S' Q) : ∀ (n : Nat) (x1 : Int32) (x2 : Int32) (x3 : Int32) (x4 : Int32) (S : rS), OL_calm_28 N n x1 x2 x3 x4 S → X (L_calm_28 N n x1 x2 x3 x4 S) → rX G E dX12_calm mX12_calm 28 [some (.ref E.1), some (.int x1), some (.int x2), some (.int x3), some (.int x4)] [] S Q := by
  intro n
  induction n with
  | zero => intro x1 x2 x3 x4 S ok; exact absurd ok id
  | succ n ih =>
    intro x1 x2 x3 x4 S ok hx
    exact bb_calm_28 hG hX0 (rec := L_calm_28 N n) (rok := OL_calm_28 N n) (fun x1 x2 x3 x4 S ok hx => ih x1 x2 x3 x4 S ok hx) ok hx
def A_calm_28 (N : Nat) (x1 : Int32) (x2 : Int32) (x3 : Int32) (x4 : Int32) (S : rS) (z : Nat × Int32 × rS) : Int32 × rS := (F_calm_92 N (z.2.1) z.2.2)
def OA_calm_28 (N : Nat) (x1 : Int32) (x2 : Int32) (x3 : Int32) (x4 : Int32) (S : rS) (z : Nat × Int32 × rS) : Prop := O_calm_92 N (z.2.1) z.2.2
set_option maxHeartbeats 4000000 in
theorem c_calm_28 {G : zG} {E : rE} {S : rS} {N : Nat} {Q : Option Value → rS → Prop} {X : Int32 × rS → Prop} (hG : zOK G) (hR : ∀ v S', X (v, S') → Q (some (.int v)) S') {x1 : Int32} {x2 : Int32} {x3 : Int32} {x4 : Int32} (ok : OL_calm_28 N N x1 x2 x3 x4 S ∧ OA_calm_28 N x1 x2 x3 x4 S (L_calm_28 N N x1 x2 x3 x4 S)) (hx : X (A_calm_28 N x1 x2 x3 x4 S (L_calm_28 N N x1 x2 x3 x4 S))) : rX G E dX12_calm mX12_calm 28 [some (.ref E.1), some (.int x1), some (.int x2), some (.int x3), some (.int x4)] [] S Q := by
  refine l_calm_28 hG ?_ N x1 x2 x3 x4 S ok.1 (X := fun z => OA_calm_28 N x1 x2 x3 x4 S z ∧ X (A_calm_28 N x1 x2 x3 x4 S z)) ⟨ok.2, hx⟩
  · intro x3' S' hz
    obtain ⟨ok, hx⟩ := hz
    unfold OA_calm_28 at ok
    unfold A_calm_28 at hx
    exact rX.cutz (b_calm_92 hG hR ok hx) ⟨rfl, trivial⟩
def F_calm_21 (N : Nat)  (S : rS) : Int32 × rS := ((-1), S)
def O_calm_21 (N : Nat)  (S : rS) : Prop := True
set_option maxHeartbeats 4000000 in
theorem b_calm_21 {G : zG} {E : rE} {S : rS} {N : Nat} {Q : Option Value → rS → Prop} {X : Int32 × rS → Prop} (hG : zOK G) (hR : ∀ v S', X (v, S') → Q (some (.int v)) S') (ok : O_calm_21 N S) (hx : X (F_calm_21 N S)) : rX G E dX12_calm mX12_calm 21 [none, none, none, none, none] [] S Q := by
  unfold O_calm_21 at ok
  unfold F_calm_21 at hx
  refine r_iconst (v := -1) dX12_calm_21 (by decide) ?_
  exact r_ireturn rfl rfl dX12_calm_22 (hR _ _ hx)
def F_calm_0 (N : Nat) (x1 : Int32) (x2 : Int32) (S : rS) : Int32 × rS := (if x1 < (nI 1) then (F_calm_21 N S) else (if (nI 64) < x1 then (F_calm_21 N S) else (if x2 < 0 then (F_calm_21 N S) else (if x2 ≤ (nI 9) then (A_calm_28 N x1 x2 (nI 0) (nI 0) S (L_calm_28 N N x1 x2 (nI 0) (nI 0) S)) else (F_calm_21 N S)))))
def O_calm_0 (N : Nat) (x1 : Int32) (x2 : Int32) (S : rS) : Prop := ((x1 < (nI 1) → O_calm_21 N S) ∧ (¬ x1 < (nI 1) → (((nI 64) < x1 → O_calm_21 N S) ∧ (¬ (nI 64) < x1 → ((x2 < 0 → O_calm_21 N S) ∧ (¬ x2 < 0 → ((x2 ≤ (nI 9) → (OL_calm_28 N N x1 x2 (nI 0) (nI 0) S ∧ OA_calm_28 N x1 x2 (nI 0) (nI 0) S (L_calm_28 N N x1 x2 (nI 0) (nI 0) S))) ∧ (¬ x2 ≤ (nI 9) → O_calm_21 N S))))))))
set_option maxHeartbeats 4000000 in
theorem b_calm_0 {G : zG} {E : rE} {S : rS} {N : Nat} {Q : Option Value → rS → Prop} {X : Int32 × rS → Prop} (hG : zOK G) (hR : ∀ v S', X (v, S') → Q (some (.int v)) S') {x1 : Int32} {x2 : Int32} (ok : O_calm_0 N x1 x2 S) (hx : X (F_calm_0 N x1 x2 S)) : rX G E dX12_calm mX12_calm 0 [some (.ref E.1), some (.int x1), some (.int x2), none, none] [] S Q := by
  unfold O_calm_0 at ok
  unfold F_calm_0 at hx
  refine r_iload_n dX12_calm_0 rfl rfl ?_
  refine r_iconst (v := nI 1) dX12_calm_1 (by decide) ?_
  refine r_icmp_lt (tgt := 21) dX12_calm_2 (by decide) (fun c_2 => ?_) (fun c_2 => ?_)
  · have ok := ok.1 c_2
    have hx := xif_p c_2 hx
    exact rX.cutz (b_calm_21 hG hR ok hx) trivial
  · have ok := ok.2 c_2
    have hx := xif_n c_2 hx
    refine r_iload_n dX12_calm_5 rfl rfl ?_
    refine r_bipush (v := nI 64) dX12_calm_6 (by decide) ?_
    refine r_icmp_gt (tgt := 21) dX12_calm_8 (by decide) (fun c_8 => ?_) (fun c_8 => ?_)
    · have ok := ok.1 c_8
      have hx := xif_p c_8 hx
      exact rX.cutz (b_calm_21 hG hR ok hx) trivial
    · have ok := ok.2 c_8
      have hx := xif_n c_8 hx
      refine r_iload_n dX12_calm_11 rfl rfl ?_
      refine r_if_lt (tgt := 21) dX12_calm_12 (by decide) (fun c_12 => ?_) (fun c_12 => ?_)
      · have ok := ok.1 c_12
        have hx := xif_p c_12 hx
        exact rX.cutz (b_calm_21 hG hR ok hx) trivial
      · have ok := ok.2 c_12
        have hx := xif_n c_12 hx
        refine r_iload_n dX12_calm_15 rfl rfl ?_
        refine r_bipush (v := nI 9) dX12_calm_16 (by decide) ?_
        refine r_icmp_le (tgt := 23) dX12_calm_18 (by decide) (fun c_18 => ?_) (fun c_18 => ?_)
        · have ok := ok.1 c_18
          have hx := xif_p c_18 hx
          refine r_iconst (v := nI 0) dX12_calm_23 (by decide) ?_
          refine r_istore_3 dX12_calm_24 (by decide) rfl ?_
          refine r_iconst (v := nI 0) dX12_calm_25 (by decide) ?_
          refine r_istore_4 dX12_calm_26 (by decide) rfl ?_
          exact rX.cutz (c_calm_28 hG hR ok hx) ⟨rfl, rfl, rfl, rfl, rfl, trivial⟩
        · have ok := ok.2 c_18
          have hx := xif_n c_18 hx
          exact rX.cutz (b_calm_21 hG hR ok hx) trivial
def f_calm (N : Nat) (S : rS) (x1 : Int32) (x2 : Int32) : Int32 × rS := F_calm_0 N x1 x2 S
def o_calm (N : Nat) (S : rS) (x1 : Int32) (x2 : Int32) : Prop := O_calm_0 N x1 x2 S
set_option maxHeartbeats 4000000 in
theorem rc_X12_calm {G : zG} {E : rE} {S : rS} {N : Nat} (hG : zOK G) {x1 : Int32} {x2 : Int32} (ok : o_calm N S x1 x2) : rCi G E dX12_calm mX12_calm [.ref E.1, .int x1, .int x2] S (fun v S' => v = (f_calm N S x1 x2).1 ∧ S' = (f_calm N S x1 x2).2) := by
  refine rC.ofX rfl (Nat.le_of_ble_eq_true rfl) ?_
  show rX G E dX12_calm mX12_calm 0 [some (.ref E.1), some (.int x1), some (.int x2), none, none] [] S _
  exact rX.cutz (b_calm_0 (X := fun F => F = f_calm N S x1 x2) hG (fun v S' h => ⟨v, rfl, by rw [← h], by rw [← h]⟩) ok rfl) ⟨rfl, rfl, rfl, trivial⟩
/-! copy -/
def F_copy_108 (N : Nat)  (S : rS) : Int32 × rS := ((nI 1), S)
def O_copy_108 (N : Nat)  (S : rS) : Prop := True
set_option maxHeartbeats 4000000 in
theorem b_copy_108 {G : zG} {E : rE} {S : rS} {N : Nat} {Q : Option Value → rS → Prop} {X : Int32 × rS → Prop} (hG : zOK G) (hR : ∀ v S', X (v, S') → Q (some (.int v)) S') (ok : O_copy_108 N S) (hx : X (F_copy_108 N S)) : rX G E dX12_copy mX12_copy 108 [none, none, none, none, none] [] S Q := by
  unfold O_copy_108 at ok
  unfold F_copy_108 at hx
  refine r_iconst (v := nI 1) dX12_copy_108 (by decide) ?_
  exact r_ireturn rfl rfl dX12_copy_109 (hR _ _ hx)
def B_copy_71 (N : Nat) (rec : Int32 → Int32 → Int32 → rS → Nat × rS) (x2 : Int32) (x3 : Int32) (x4 : Int32) (S : rS) : Nat × rS := (if (nI 125) ≤ x4 then (0, S) else (rec x2 x3 (x4 + nI 1) (rsL S 31 (((nI 125) * x3) + x4).toNatClampNeg (S.2.2 31 (((nI 125) * x2) + x4).toNatClampNeg))))
def OB_copy_71 (N : Nat) (rok : Int32 → Int32 → Int32 → rS → Prop) (x2 : Int32) (x3 : Int32) (x4 : Int32) (S : rS) : Prop := (((nI 125) ≤ x4 → True) ∧ (¬ (nI 125) ≤ x4 → (vp_in (((nI 125) * x2) + x4) 125000) ∧ (vp_in (((nI 125) * x3) + x4) 125000) ∧ rok x2 x3 (x4 + nI 1) (rsL S 31 (((nI 125) * x3) + x4).toNatClampNeg (S.2.2 31 (((nI 125) * x2) + x4).toNatClampNeg))))
set_option maxHeartbeats 4000000 in
theorem bb_copy_71 {G : zG} {E : rE} {S : rS} {N : Nat} {Q : Option Value → rS → Prop} {X : Nat × rS → Prop} (hG : zOK G) (hX0 : ∀ (S' : rS), X (0, S') → rX G E dX12_copy mX12_copy 108 [none, none, none, none, none] [] S' Q) {rec : Int32 → Int32 → Int32 → rS → Nat × rS} {rok : Int32 → Int32 → Int32 → rS → Prop} (hrec : ∀ (x2 : Int32) (x3 : Int32) (x4 : Int32) (S : rS), rok x2 x3 x4 S → X (rec x2 x3 x4 S) → rX G E dX12_copy mX12_copy 71 [some (.ref E.1), none, some (.int x2), some (.int x3), some (.int x4)] [] S Q) {x2 : Int32} {x3 : Int32} {x4 : Int32} (ok : OB_copy_71 N rok x2 x3 x4 S) (hx : X (B_copy_71 N rec x2 x3 x4 S)) : rX G E dX12_copy mX12_copy 71 [some (.ref E.1), none, some (.int x2), some (.int x3), some (.int x4)] [] S Q := by
  unfold OB_copy_71 at ok
  unfold B_copy_71 at hx
  refine r_iload dX12_copy_71 rfl ?_
  refine r_bipush (v := nI 125) dX12_copy_73 (by decide) ?_
  refine r_icmp_ge (tgt := 108) dX12_copy_75 (by decide) (fun c_75 => ?_) (fun c_75 => ?_)
  · have ok := ok.1 c_75
    have hx := xif_p c_75 hx
    exact rX.cutz (hX0 S hx) trivial
  · have ok := ok.2 c_75
    have hx := xif_n c_75 hx
    refine r_aload_n dX12_copy_78 rfl rfl ?_
    refine r_getA 31 fX12_179 (by decide) (by decide) dX12_copy_79 ?_
    refine r_bipush (v := nI 125) dX12_copy_82 (by decide) ?_
    refine r_iload_n dX12_copy_84 rfl rfl ?_
    refine r_imul dX12_copy_85 ?_
    refine r_iload dX12_copy_86 rfl ?_
    refine r_iadd dX12_copy_88 ?_
    refine r_aload_n dX12_copy_89 rfl rfl ?_
    refine r_getA 31 fX12_179 (by decide) (by decide) dX12_copy_90 ?_
    refine r_bipush (v := nI 125) dX12_copy_93 (by decide) ?_
    refine r_iload_n dX12_copy_95 rfl rfl ?_
    refine r_imul dX12_copy_96 ?_
    refine r_iload dX12_copy_97 rfl ?_
    refine r_iadd dX12_copy_99 ?_
    refine r_lald (by decide) (by decide) dX12_copy_100 ok.1 ?_
    have ok := ok.2
    refine r_last (by decide) (by decide) dX12_copy_101 ok.1 ?_
    have ok := ok.2
    refine r_iinc_4 (v := (x4 + nI 1)) dX12_copy_102 rfl (by first | rfl | (congr 1)) (by decide) rfl ?_
    refine r_goto (tgt := 71) dX12_copy_105 (by decide) ?_
    exact rX.cutz (hrec _ _ _ (rsL S 31 (((nI 125) * x3) + x4).toNatClampNeg (S.2.2 31 (((nI 125) * x2) + x4).toNatClampNeg)) ok hx) ⟨rfl, rfl, rfl, rfl, trivial⟩
def L_copy_71 (N : Nat) : Nat → Int32 → Int32 → Int32 → rS → Nat × rS
  | 0, x2, x3, x4, S => (0, S)
  | n + 1, x2, x3, x4, S => B_copy_71 N (L_copy_71 N n) x2 x3 x4 S
def OL_copy_71 (N : Nat) : Nat → Int32 → Int32 → Int32 → rS → Prop
  | 0, _, _, _, _ => False
  | n + 1, x2, x3, x4, S => OB_copy_71 N (OL_copy_71 N n) x2 x3 x4 S
set_option maxHeartbeats 4000000 in
theorem l_copy_71 {G : zG} {E : rE} {N : Nat} {Q : Option Value → rS → Prop} {X : Nat × rS → Prop} (hG : zOK G) (hX0 : ∀ (S' : rS), X (0, S') → rX G E dX12_copy mX12_copy 108 [none, none, none, none, none] [] S' Q) : ∀ (n : Nat) (x2 : Int32) (x3 : Int32) (x4 : Int32) (S : rS), OL_copy_71 N n x2 x3 x4 S → X (L_copy_71 N n x2 x3 x4 S) → rX G E dX12_copy mX12_copy 71 [some (.ref E.1), none, some (.int x2), some (.int x3), some (.int x4)] [] S Q := by
  intro n
  induction n with
  | zero => intro x2 x3 x4 S ok; exact absurd ok id
  | succ n ih =>
    intro x2 x3 x4 S ok hx
    exact bb_copy_71 hG hX0 (rec := L_copy_71 N n) (rok := OL_copy_71 N n) (fun x2 x3 x4 S ok hx => ih x2 x3 x4 S ok hx) ok hx
def A_copy_71 (N : Nat) (x2 : Int32) (x3 : Int32) (x4 : Int32) (S : rS) (z : Nat × rS) : Int32 × rS := (F_copy_108 N z.2)
def OA_copy_71 (N : Nat) (x2 : Int32) (x3 : Int32) (x4 : Int32) (S : rS) (z : Nat × rS) : Prop := O_copy_108 N z.2
set_option maxHeartbeats 4000000 in
theorem c_copy_71 {G : zG} {E : rE} {S : rS} {N : Nat} {Q : Option Value → rS → Prop} {X : Int32 × rS → Prop} (hG : zOK G) (hR : ∀ v S', X (v, S') → Q (some (.int v)) S') {x2 : Int32} {x3 : Int32} {x4 : Int32} (ok : OL_copy_71 N N x2 x3 x4 S ∧ OA_copy_71 N x2 x3 x4 S (L_copy_71 N N x2 x3 x4 S)) (hx : X (A_copy_71 N x2 x3 x4 S (L_copy_71 N N x2 x3 x4 S))) : rX G E dX12_copy mX12_copy 71 [some (.ref E.1), none, some (.int x2), some (.int x3), some (.int x4)] [] S Q := by
  refine l_copy_71 hG ?_ N x2 x3 x4 S ok.1 (X := fun z => OA_copy_71 N x2 x3 x4 S z ∧ X (A_copy_71 N x2 x3 x4 S z)) ⟨ok.2, hx⟩
  · intro S' hz
    obtain ⟨ok, hx⟩ := hz
    unfold OA_copy_71 at ok
    unfold A_copy_71 at hx
    exact rX.cutz (b_copy_108 hG hR ok hx) trivial
def F_copy_56 (N : Nat) (x2 : Int32) (x3 : Int32) (S : rS) : Int32 × rS := (A_copy_71 N x2 x3 (nI 0) (rsA S 29 x3.toNatClampNeg (S.2.1 29 x2.toNatClampNeg)) (L_copy_71 N N x2 x3 (nI 0) (rsA S 29 x3.toNatClampNeg (S.2.1 29 x2.toNatClampNeg))))
def O_copy_56 (N : Nat) (x2 : Int32) (x3 : Int32) (S : rS) : Prop := (vp_in x2 1000) ∧ (vp_in x3 1000) ∧ (OL_copy_71 N N x2 x3 (nI 0) (rsA S 29 x3.toNatClampNeg (S.2.1 29 x2.toNatClampNeg)) ∧ OA_copy_71 N x2 x3 (nI 0) (rsA S 29 x3.toNatClampNeg (S.2.1 29 x2.toNatClampNeg)) (L_copy_71 N N x2 x3 (nI 0) (rsA S 29 x3.toNatClampNeg (S.2.1 29 x2.toNatClampNeg))))
set_option maxHeartbeats 4000000 in
theorem b_copy_56 {G : zG} {E : rE} {S : rS} {N : Nat} {Q : Option Value → rS → Prop} {X : Int32 × rS → Prop} (hG : zOK G) (hR : ∀ v S', X (v, S') → Q (some (.int v)) S') {x2 : Int32} {x3 : Int32} (ok : O_copy_56 N x2 x3 S) (hx : X (F_copy_56 N x2 x3 S)) : rX G E dX12_copy mX12_copy 56 [some (.ref E.1), none, some (.int x2), some (.int x3), none] [] S Q := by
  unfold O_copy_56 at ok
  unfold F_copy_56 at hx
  refine r_aload_n dX12_copy_56 rfl rfl ?_
  refine r_getA 29 fX12_173 (by decide) (by decide) dX12_copy_57 ?_
  refine r_iload_n dX12_copy_60 rfl rfl ?_
  refine r_aload_n dX12_copy_61 rfl rfl ?_
  refine r_getA 29 fX12_173 (by decide) (by decide) dX12_copy_62 ?_
  refine r_iload_n dX12_copy_65 rfl rfl ?_
  refine r_iald (by decide) (by decide) dX12_copy_66 ok.1 ?_
  have ok := ok.2
  refine r_iast hG (by decide) (by decide) dX12_copy_67 ok.1 ?_
  have ok := ok.2
  refine r_iconst (v := nI 0) dX12_copy_68 (by decide) ?_
  refine r_istore_4 dX12_copy_69 (by decide) rfl ?_
  exact rX.cutz (c_copy_71 hG hR ok hx) ⟨rfl, rfl, rfl, rfl, trivial⟩
def F_copy_31 (N : Nat) (x2 : Int32) (s0 : Int32) (S : rS) : Int32 × rS := (F_copy_56 N x2 s0 (rsA (rsA S 27 s0.toNatClampNeg (S.2.1 27 x2.toNatClampNeg)) 28 s0.toNatClampNeg ((rsA S 27 s0.toNatClampNeg (S.2.1 27 x2.toNatClampNeg)).2.1 28 x2.toNatClampNeg)))
def O_copy_31 (N : Nat) (x2 : Int32) (s0 : Int32) (S : rS) : Prop := (vp_in x2 1000) ∧ (vp_in s0 1000) ∧ (vp_in x2 1000) ∧ (vp_in s0 1000) ∧ O_copy_56 N x2 s0 (rsA (rsA S 27 s0.toNatClampNeg (S.2.1 27 x2.toNatClampNeg)) 28 s0.toNatClampNeg ((rsA S 27 s0.toNatClampNeg (S.2.1 27 x2.toNatClampNeg)).2.1 28 x2.toNatClampNeg))
set_option maxHeartbeats 4000000 in
theorem b_copy_31 {G : zG} {E : rE} {S : rS} {N : Nat} {Q : Option Value → rS → Prop} {X : Int32 × rS → Prop} (hG : zOK G) (hR : ∀ v S', X (v, S') → Q (some (.int v)) S') {x2 : Int32} {s0 : Int32} (ok : O_copy_31 N x2 s0 S) (hx : X (F_copy_31 N x2 s0 S)) : rX G E dX12_copy mX12_copy 31 [some (.ref E.1), none, some (.int x2), none, none] [.int s0] S Q := by
  unfold O_copy_31 at ok
  unfold F_copy_31 at hx
  refine r_istore_3 dX12_copy_31 (by decide) rfl ?_
  refine r_aload_n dX12_copy_32 rfl rfl ?_
  refine r_getA 27 fX12_195 (by decide) (by decide) dX12_copy_33 ?_
  refine r_iload_n dX12_copy_36 rfl rfl ?_
  refine r_aload_n dX12_copy_37 rfl rfl ?_
  refine r_getA 27 fX12_195 (by decide) (by decide) dX12_copy_38 ?_
  refine r_iload_n dX12_copy_41 rfl rfl ?_
  refine r_iald (by decide) (by decide) dX12_copy_42 ok.1 ?_
  have ok := ok.2
  refine r_iast hG (by decide) (by decide) dX12_copy_43 ok.1 ?_
  have ok := ok.2
  refine r_aload_n dX12_copy_44 rfl rfl ?_
  refine r_getA 28 fX12_198 (by decide) (by decide) dX12_copy_45 ?_
  refine r_iload_n dX12_copy_48 rfl rfl ?_
  refine r_aload_n dX12_copy_49 rfl rfl ?_
  refine r_getA 28 fX12_198 (by decide) (by decide) dX12_copy_50 ?_
  refine r_iload_n dX12_copy_53 rfl rfl ?_
  refine r_iald (by decide) (by decide) dX12_copy_54 ok.1 ?_
  have ok := ok.2
  refine r_iast hG (by decide) (by decide) dX12_copy_55 ok.1 ?_
  have ok := ok.2
  exact rX.cutz (b_copy_56 hG hR ok hx) ⟨rfl, rfl, rfl, trivial⟩
def F_copy_18 (N : Nat)  (S : rS) : Int32 × rS := ((nI 0), S)
def O_copy_18 (N : Nat)  (S : rS) : Prop := True
set_option maxHeartbeats 4000000 in
theorem b_copy_18 {G : zG} {E : rE} {S : rS} {N : Nat} {Q : Option Value → rS → Prop} {X : Int32 × rS → Prop} (hG : zOK G) (hR : ∀ v S', X (v, S') → Q (some (.int v)) S') (ok : O_copy_18 N S) (hx : X (F_copy_18 N S)) : rX G E dX12_copy mX12_copy 18 [none, none, none, none, none] [] S Q := by
  unfold O_copy_18 at ok
  unfold F_copy_18 at hx
  refine r_iconst (v := nI 0) dX12_copy_18 (by decide) ?_
  exact r_ireturn rfl rfl dX12_copy_19 (hR _ _ hx)
def F_copy_0 (N : Nat) (x1 : Int32) (S : rS) : Int32 × rS := (if (f_isFlying N S x1) = 0 then (F_copy_18 N S) else (if (S.1 23) = (nI 1000) then (F_copy_18 N S) else (F_copy_31 N (S.2.1 24 x1.toNatClampNeg) ((f_takeSlot N S).1) (f_takeSlot N S).2)))
def O_copy_0 (N : Nat) (x1 : Int32) (S : rS) : Prop := (o_isFlying N S x1) ∧ (((f_isFlying N S x1) = 0 → O_copy_18 N S) ∧ (¬ (f_isFlying N S x1) = 0 → (((S.1 23) = (nI 1000) → O_copy_18 N S) ∧ (¬ (S.1 23) = (nI 1000) → (vp_in x1 1000) ∧ (o_takeSlot N S) ∧ O_copy_31 N (S.2.1 24 x1.toNatClampNeg) ((f_takeSlot N S).1) (f_takeSlot N S).2))))
set_option maxHeartbeats 4000000 in
theorem b_copy_0 {G : zG} {E : rE} {S : rS} {N : Nat} {Q : Option Value → rS → Prop} {X : Int32 × rS → Prop} (hG : zOK G) (hR : ∀ v S', X (v, S') → Q (some (.int v)) S') {x1 : Int32} (ok : O_copy_0 N x1 S) (hx : X (F_copy_0 N x1 S)) : rX G E dX12_copy mX12_copy 0 [some (.ref E.1), some (.int x1), none, none, none] [] S Q := by
  unfold O_copy_0 at ok
  unfold F_copy_0 at hx
  refine r_aload_n dX12_copy_0 rfl rfl ?_
  refine r_iload_n dX12_copy_1 rfl rfl ?_
  refine r_V1i (y' := mX12_isFlying) dX12_copy_2 lX12_167 kX12_isFlying ⟨by decide, by decide⟩ rfl (Nat.le_of_ble_eq_true rfl) (rc_X12_isFlying hG ok.1) (fun v_2 S_2 h_2 => ?_)
  obtain ⟨rfl, hS_2⟩ := h_2
  have hS_2 := hS_2.symm
  subst hS_2
  have ok := ok.2
  refine r_if_eq (tgt := 18) dX12_copy_5 (by decide) (fun c_5 => ?_) (fun c_5 => ?_)
  · have ok := ok.1 c_5
    have hx := xif_p c_5 hx
    exact rX.cutz (b_copy_18 hG hR ok hx) trivial
  · have ok := ok.2 c_5
    have hx := xif_n c_5 hx
    refine r_aload_n dX12_copy_8 rfl rfl ?_
    refine r_getI 23 fX12_182 (by decide) (by decide) dX12_copy_9 ?_
    refine r_sipush (v := nI 1000) dX12_copy_12 (by decide) ?_
    refine r_icmp_ne (tgt := 20) dX12_copy_15 (by decide) (fun c_15 => ?_) (fun c_15 => ?_)
    · have ok := ok.2 c_15
      have hx := xif_n c_15 hx
      refine r_aload_n dX12_copy_20 rfl rfl ?_
      refine r_getA 24 fX12_176 (by decide) (by decide) dX12_copy_21 ?_
      refine r_iload_n dX12_copy_24 rfl rfl ?_
      refine r_iald (by decide) (by decide) dX12_copy_25 ok.1 ?_
      have ok := ok.2
      refine r_istore_2 dX12_copy_26 (by decide) rfl ?_
      refine r_aload_n dX12_copy_27 rfl rfl ?_
      refine r_V0i (y' := mX12_takeSlot) dX12_copy_28 lX12_191 kX12_takeSlot ⟨by decide, by decide⟩ rfl (Nat.le_of_ble_eq_true rfl) (rc_X12_takeSlot hG ok.1) (fun v_28 S_28 h_28 => ?_)
      obtain ⟨rfl, hS_28⟩ := h_28
      have hS_28 := hS_28.symm
      subst hS_28
      have ok := ok.2
      exact rX.cutz (b_copy_31 hG hR ok hx) ⟨rfl, rfl, trivial⟩
    · have ok := ok.1 c_15
      have hx := xif_p c_15 hx
      exact rX.cutz (b_copy_18 hG hR ok hx) trivial
def f_copy (N : Nat) (S : rS) (x1 : Int32) : Int32 × rS := F_copy_0 N x1 S
def o_copy (N : Nat) (S : rS) (x1 : Int32) : Prop := O_copy_0 N x1 S
set_option maxHeartbeats 4000000 in
theorem rc_X12_copy {G : zG} {E : rE} {S : rS} {N : Nat} (hG : zOK G) {x1 : Int32} (ok : o_copy N S x1) : rCi G E dX12_copy mX12_copy [.ref E.1, .int x1] S (fun v S' => v = (f_copy N S x1).1 ∧ S' = (f_copy N S x1).2) := by
  refine rC.ofX rfl (Nat.le_of_ble_eq_true rfl) ?_
  show rX G E dX12_copy mX12_copy 0 [some (.ref E.1), some (.int x1), none, none, none] [] S _
  exact rX.cutz (b_copy_0 (X := fun F => F = f_copy N S x1) hG (fun v S' h => ⟨v, rfl, by rw [← h], by rw [← h]⟩) ok rfl) ⟨rfl, rfl, trivial⟩
/-! flying -/
def F_flying_69 (N : Nat) (s0 : Int32) (S : rS) : Int32 := s0
def O_flying_69 (N : Nat) (s0 : Int32) (S : rS) : Prop := True
set_option maxHeartbeats 4000000 in
theorem b_flying_69 {G : zG} {E : rE} {S : rS} {N : Nat} {Q : Option Value → rS → Prop} {X : Int32 → Prop} (hG : zOK G) (hR : ∀ v, X v → Q (some (.int v)) S) {s0 : Int32} (ok : O_flying_69 N s0 S) (hx : X (F_flying_69 N s0 S)) : rX G E dX12_flying mX12_flying 69 [none, none, none] [.int s0] S Q := by
  unfold O_flying_69 at ok
  unfold F_flying_69 at hx
  exact r_ireturn rfl rfl dX12_flying_69 (hR _ hx)
def F_flying_0 (N : Nat) (x1 : Int32) (x2 : Int32) (S : rS) : Int32 := (if (f_isFlying N S x1) = 0 then (F_flying_69 N (-1) S) else (if x2 = 0 then (F_flying_69 N (S.2.1 27 (S.2.1 24 x1.toNatClampNeg).toNatClampNeg) S) else (if x2 = (nI 1) then (F_flying_69 N (S.2.1 28 (S.2.1 24 x1.toNatClampNeg).toNatClampNeg) S) else (if x2 = (nI 2) then (F_flying_69 N (S.2.1 29 (S.2.1 24 x1.toNatClampNeg).toNatClampNeg) S) else (F_flying_69 N (-1) S)))))
def O_flying_0 (N : Nat) (x1 : Int32) (x2 : Int32) (S : rS) : Prop := (o_isFlying N S x1) ∧ (((f_isFlying N S x1) = 0 → O_flying_69 N (-1) S) ∧ (¬ (f_isFlying N S x1) = 0 → ((x2 = 0 → (vp_in x1 1000) ∧ (vp_in (S.2.1 24 x1.toNatClampNeg) 1000) ∧ O_flying_69 N (S.2.1 27 (S.2.1 24 x1.toNatClampNeg).toNatClampNeg) S) ∧ (¬ x2 = 0 → ((x2 = (nI 1) → (vp_in x1 1000) ∧ (vp_in (S.2.1 24 x1.toNatClampNeg) 1000) ∧ O_flying_69 N (S.2.1 28 (S.2.1 24 x1.toNatClampNeg).toNatClampNeg) S) ∧ (¬ x2 = (nI 1) → ((x2 = (nI 2) → (vp_in x1 1000) ∧ (vp_in (S.2.1 24 x1.toNatClampNeg) 1000) ∧ O_flying_69 N (S.2.1 29 (S.2.1 24 x1.toNatClampNeg).toNatClampNeg) S) ∧ (¬ x2 = (nI 2) → O_flying_69 N (-1) S))))))))
set_option maxHeartbeats 4000000 in
theorem b_flying_0 {G : zG} {E : rE} {S : rS} {N : Nat} {Q : Option Value → rS → Prop} {X : Int32 → Prop} (hG : zOK G) (hR : ∀ v, X v → Q (some (.int v)) S) {x1 : Int32} {x2 : Int32} (ok : O_flying_0 N x1 x2 S) (hx : X (F_flying_0 N x1 x2 S)) : rX G E dX12_flying mX12_flying 0 [some (.ref E.1), some (.int x1), some (.int x2)] [] S Q := by
  unfold O_flying_0 at ok
  unfold F_flying_0 at hx
  refine r_aload_n dX12_flying_0 rfl rfl ?_
  refine r_iload_n dX12_flying_1 rfl rfl ?_
  refine r_V1i (y' := mX12_isFlying) dX12_flying_2 lX12_167 kX12_isFlying ⟨by decide, by decide⟩ rfl (Nat.le_of_ble_eq_true rfl) (rc_X12_isFlying hG ok.1) (fun v_2 S_2 h_2 => ?_)
  obtain ⟨rfl, hS_2⟩ := h_2
  have hS_2 := hS_2.symm
  subst hS_2
  have ok := ok.2
  refine r_if_ne (tgt := 12) dX12_flying_5 (by decide) (fun c_5 => ?_) (fun c_5 => ?_)
  · have ok := ok.2 c_5
    have hx := xif_n c_5 hx
    refine r_iload_n dX12_flying_12 rfl rfl ?_
    refine r_if_ne (tgt := 30) dX12_flying_13 (by decide) (fun c_13 => ?_) (fun c_13 => ?_)
    · have ok := ok.2 c_13
      have hx := xif_n c_13 hx
      refine r_iload_n dX12_flying_30 rfl rfl ?_
      refine r_iconst (v := nI 1) dX12_flying_31 (by decide) ?_
      refine r_icmp_ne (tgt := 49) dX12_flying_32 (by decide) (fun c_32 => ?_) (fun c_32 => ?_)
      · have ok := ok.2 c_32
        have hx := xif_n c_32 hx
        refine r_iload_n dX12_flying_49 rfl rfl ?_
        refine r_iconst (v := nI 2) dX12_flying_50 (by decide) ?_
        refine r_icmp_ne (tgt := 68) dX12_flying_51 (by decide) (fun c_51 => ?_) (fun c_51 => ?_)
        · have ok := ok.2 c_51
          have hx := xif_n c_51 hx
          refine r_iconst (v := -1) dX12_flying_68 (by decide) ?_
          exact rX.cutz (b_flying_69 hG hR ok hx) trivial
        · have ok := ok.1 c_51
          have hx := xif_p c_51 hx
          refine r_aload_n dX12_flying_54 rfl rfl ?_
          refine r_getA 29 fX12_173 (by decide) (by decide) dX12_flying_55 ?_
          refine r_aload_n dX12_flying_58 rfl rfl ?_
          refine r_getA 24 fX12_176 (by decide) (by decide) dX12_flying_59 ?_
          refine r_iload_n dX12_flying_62 rfl rfl ?_
          refine r_iald (by decide) (by decide) dX12_flying_63 ok.1 ?_
          have ok := ok.2
          refine r_iald (by decide) (by decide) dX12_flying_64 ok.1 ?_
          have ok := ok.2
          refine r_goto (tgt := 69) dX12_flying_65 (by decide) ?_
          exact rX.cutz (b_flying_69 hG hR ok hx) trivial
      · have ok := ok.1 c_32
        have hx := xif_p c_32 hx
        refine r_aload_n dX12_flying_35 rfl rfl ?_
        refine r_getA 28 fX12_198 (by decide) (by decide) dX12_flying_36 ?_
        refine r_aload_n dX12_flying_39 rfl rfl ?_
        refine r_getA 24 fX12_176 (by decide) (by decide) dX12_flying_40 ?_
        refine r_iload_n dX12_flying_43 rfl rfl ?_
        refine r_iald (by decide) (by decide) dX12_flying_44 ok.1 ?_
        have ok := ok.2
        refine r_iald (by decide) (by decide) dX12_flying_45 ok.1 ?_
        have ok := ok.2
        refine r_goto (tgt := 69) dX12_flying_46 (by decide) ?_
        exact rX.cutz (b_flying_69 hG hR ok hx) trivial
    · have ok := ok.1 c_13
      have hx := xif_p c_13 hx
      refine r_aload_n dX12_flying_16 rfl rfl ?_
      refine r_getA 27 fX12_195 (by decide) (by decide) dX12_flying_17 ?_
      refine r_aload_n dX12_flying_20 rfl rfl ?_
      refine r_getA 24 fX12_176 (by decide) (by decide) dX12_flying_21 ?_
      refine r_iload_n dX12_flying_24 rfl rfl ?_
      refine r_iald (by decide) (by decide) dX12_flying_25 ok.1 ?_
      have ok := ok.2
      refine r_iald (by decide) (by decide) dX12_flying_26 ok.1 ?_
      have ok := ok.2
      refine r_goto (tgt := 69) dX12_flying_27 (by decide) ?_
      exact rX.cutz (b_flying_69 hG hR ok hx) trivial
  · have ok := ok.1 c_5
    have hx := xif_p c_5 hx
    refine r_iconst (v := -1) dX12_flying_8 (by decide) ?_
    refine r_goto (tgt := 69) dX12_flying_9 (by decide) ?_
    exact rX.cutz (b_flying_69 hG hR ok hx) trivial
def f_flying (N : Nat) (S : rS) (x1 : Int32) (x2 : Int32) : Int32 := F_flying_0 N x1 x2 S
def o_flying (N : Nat) (S : rS) (x1 : Int32) (x2 : Int32) : Prop := O_flying_0 N x1 x2 S
set_option maxHeartbeats 4000000 in
theorem rc_X12_flying {G : zG} {E : rE} {S : rS} {N : Nat} (hG : zOK G) {x1 : Int32} {x2 : Int32} (ok : o_flying N S x1 x2) : rCi G E dX12_flying mX12_flying [.ref E.1, .int x1, .int x2] S (fun v S' => v = f_flying N S x1 x2 ∧ S' = S) := by
  refine rC.ofX rfl (Nat.le_of_ble_eq_true rfl) ?_
  show rX G E dX12_flying mX12_flying 0 [some (.ref E.1), some (.int x1), some (.int x2)] [] S _
  exact rX.cutz (b_flying_0 (X := fun F => F = f_flying N S x1 x2) hG (fun v h => ⟨v, rfl, h, rfl⟩) ok rfl) ⟨rfl, rfl, rfl, trivial⟩
/-! bytes -/
def F_bytes_82 (N : Nat) (x4 : Int64) (S : rS) : Int64 := x4
def O_bytes_82 (N : Nat) (x4 : Int64) (S : rS) : Prop := True
set_option maxHeartbeats 4000000 in
theorem b_bytes_82 {G : zG} {E : rE} {S : rS} {N : Nat} {Q : Option Value → rS → Prop} {X : Int64 → Prop} (hG : zOK G) (hR : ∀ v, X v → Q (some (.long v)) S) {x4 : Int64} (ok : O_bytes_82 N x4 S) (hx : X (F_bytes_82 N x4 S)) : rX G E dX12_bytes mX12_bytes 82 [none, none, none, none, some (.long x4), none, none] [] S Q := by
  unfold O_bytes_82 at ok
  unfold F_bytes_82 at hx
  refine r_lload dX12_bytes_82 rfl ?_
  exact r_lreturn rfl dX12_bytes_84 (hR _ hx)
def F_bytes_72 (N : Nat) (rec : Int32 → Int32 → Int32 → Int64 → Int32 → Nat × Int64 × Unit) (x1 : Int32) (x2 : Int32) (x3 : Int32) (x6 : Int32) (s0 : Int64) (s1 : Int32) (S : rS) : Nat × Int64 × Unit := (rec x1 x2 x3 (s0 ||| (Int32.toInt64 s1)) (x6 + nI 1))
def O_bytes_72 (N : Nat) (rok : Int32 → Int32 → Int32 → Int64 → Int32 → Prop) (x1 : Int32) (x2 : Int32) (x3 : Int32) (x6 : Int32) (s0 : Int64) (s1 : Int32) (S : rS) : Prop := rok x1 x2 x3 (s0 ||| (Int32.toInt64 s1)) (x6 + nI 1)
set_option maxHeartbeats 4000000 in
theorem b_bytes_72 {G : zG} {E : rE} {S : rS} {N : Nat} {Q : Option Value → rS → Prop} {X : Nat × Int64 × Unit → Prop} (hG : zOK G) (hX0 : ∀ (x4 : Int64) , X (0, x4, ()) → rX G E dX12_bytes mX12_bytes 82 [none, none, none, none, some (.long x4), none, none] [] S Q) {rec : Int32 → Int32 → Int32 → Int64 → Int32 → Nat × Int64 × Unit} {rok : Int32 → Int32 → Int32 → Int64 → Int32 → Prop} (hrec : ∀ (x1 : Int32) (x2 : Int32) (x3 : Int32) (x4 : Int64) (x6 : Int32), rok x1 x2 x3 x4 x6 → X (rec x1 x2 x3 x4 x6) → rX G E dX12_bytes mX12_bytes 34 [some (.ref E.1), some (.int x1), some (.int x2), some (.int x3), some (.long x4), none, some (.int x6)] [] S Q) {x1 : Int32} {x2 : Int32} {x3 : Int32} {x6 : Int32} {s0 : Int64} {s1 : Int32} (ok : O_bytes_72 N rok x1 x2 x3 x6 s0 s1 S) (hx : X (F_bytes_72 N rec x1 x2 x3 x6 s0 s1 S)) : rX G E dX12_bytes mX12_bytes 72 [some (.ref E.1), some (.int x1), some (.int x2), some (.int x3), none, none, some (.int x6)] [.int s1, .long s0] S Q := by
  unfold O_bytes_72 at ok
  unfold F_bytes_72 at hx
  refine r_i2l dX12_bytes_72 ?_
  refine r_lor dX12_bytes_73 ?_
  refine r_lstore_4 dX12_bytes_74 (by decide) rfl ?_
  refine r_iinc_6 (v := (x6 + nI 1)) dX12_bytes_76 rfl (by first | rfl | (congr 1)) (by decide) rfl ?_
  refine r_goto (tgt := 34) dX12_bytes_79 (by decide) ?_
  exact rX.cutz (hrec _ _ _ _ _ ok hx) ⟨rfl, rfl, rfl, rfl, rfl, rfl, trivial⟩
def F_bytes_71 (N : Nat) (rec : Int32 → Int32 → Int32 → Int64 → Int32 → Nat × Int64 × Unit) (x1 : Int32) (x2 : Int32) (x3 : Int32) (x6 : Int32) (s0 : Int64) (S : rS) : Nat × Int64 × Unit := (F_bytes_72 N rec x1 x2 x3 x6 s0 (nI 0) S)
def O_bytes_71 (N : Nat) (rok : Int32 → Int32 → Int32 → Int64 → Int32 → Prop) (x1 : Int32) (x2 : Int32) (x3 : Int32) (x6 : Int32) (s0 : Int64) (S : rS) : Prop := O_bytes_72 N rok x1 x2 x3 x6 s0 (nI 0) S
set_option maxHeartbeats 4000000 in
theorem b_bytes_71 {G : zG} {E : rE} {S : rS} {N : Nat} {Q : Option Value → rS → Prop} {X : Nat × Int64 × Unit → Prop} (hG : zOK G) (hX0 : ∀ (x4 : Int64) , X (0, x4, ()) → rX G E dX12_bytes mX12_bytes 82 [none, none, none, none, some (.long x4), none, none] [] S Q) {rec : Int32 → Int32 → Int32 → Int64 → Int32 → Nat × Int64 × Unit} {rok : Int32 → Int32 → Int32 → Int64 → Int32 → Prop} (hrec : ∀ (x1 : Int32) (x2 : Int32) (x3 : Int32) (x4 : Int64) (x6 : Int32), rok x1 x2 x3 x4 x6 → X (rec x1 x2 x3 x4 x6) → rX G E dX12_bytes mX12_bytes 34 [some (.ref E.1), some (.int x1), some (.int x2), some (.int x3), some (.long x4), none, some (.int x6)] [] S Q) {x1 : Int32} {x2 : Int32} {x3 : Int32} {x6 : Int32} {s0 : Int64} (ok : O_bytes_71 N rok x1 x2 x3 x6 s0 S) (hx : X (F_bytes_71 N rec x1 x2 x3 x6 s0 S)) : rX G E dX12_bytes mX12_bytes 71 [some (.ref E.1), some (.int x1), some (.int x2), some (.int x3), none, none, some (.int x6)] [.long s0] S Q := by
  unfold O_bytes_71 at ok
  unfold F_bytes_71 at hx
  refine r_iconst (v := nI 0) dX12_bytes_71 (by decide) ?_
  exact rX.cutz (b_bytes_72 hG hX0 hrec ok hx) ⟨rfl, rfl, rfl, rfl, rfl, trivial⟩
def B_bytes_34 (N : Nat) (rec : Int32 → Int32 → Int32 → Int64 → Int32 → Nat × Int64 × Unit) (x1 : Int32) (x2 : Int32) (x3 : Int32) (x4 : Int64) (x6 : Int32) (S : rS) : Nat × Int64 × Unit := (if (nI 8) ≤ x6 then (0, x4, ()) else (if x3 ≤ x2 then (F_bytes_71 N rec x1 x2 x3 x6 (x4 <<< (Int32.toInt64 (nI 8) &&& 63)) S) else (if (x3 - x2) ≤ x6 then (F_bytes_71 N rec x1 x2 x3 x6 (x4 <<< (Int32.toInt64 (nI 8) &&& 63)) S) else (F_bytes_72 N rec x1 x2 x3 x6 (x4 <<< (Int32.toInt64 (nI 8) &&& 63)) (f_flyByte N S x1 (x2 + x6)) S))))
def OB_bytes_34 (N : Nat) (rok : Int32 → Int32 → Int32 → Int64 → Int32 → Prop) (x1 : Int32) (x2 : Int32) (x3 : Int32) (x4 : Int64) (x6 : Int32) (S : rS) : Prop := (((nI 8) ≤ x6 → True) ∧ (¬ (nI 8) ≤ x6 → ((x3 ≤ x2 → O_bytes_71 N rok x1 x2 x3 x6 (x4 <<< (Int32.toInt64 (nI 8) &&& 63)) S) ∧ (¬ x3 ≤ x2 → (((x3 - x2) ≤ x6 → O_bytes_71 N rok x1 x2 x3 x6 (x4 <<< (Int32.toInt64 (nI 8) &&& 63)) S) ∧ (¬ (x3 - x2) ≤ x6 → (o_flyByte N S x1 (x2 + x6)) ∧ O_bytes_72 N rok x1 x2 x3 x6 (x4 <<< (Int32.toInt64 (nI 8) &&& 63)) (f_flyByte N S x1 (x2 + x6)) S))))))
set_option maxHeartbeats 4000000 in
theorem bb_bytes_34 {G : zG} {E : rE} {S : rS} {N : Nat} {Q : Option Value → rS → Prop} {X : Nat × Int64 × Unit → Prop} (hG : zOK G) (hX0 : ∀ (x4 : Int64) , X (0, x4, ()) → rX G E dX12_bytes mX12_bytes 82 [none, none, none, none, some (.long x4), none, none] [] S Q) {rec : Int32 → Int32 → Int32 → Int64 → Int32 → Nat × Int64 × Unit} {rok : Int32 → Int32 → Int32 → Int64 → Int32 → Prop} (hrec : ∀ (x1 : Int32) (x2 : Int32) (x3 : Int32) (x4 : Int64) (x6 : Int32), rok x1 x2 x3 x4 x6 → X (rec x1 x2 x3 x4 x6) → rX G E dX12_bytes mX12_bytes 34 [some (.ref E.1), some (.int x1), some (.int x2), some (.int x3), some (.long x4), none, some (.int x6)] [] S Q) {x1 : Int32} {x2 : Int32} {x3 : Int32} {x4 : Int64} {x6 : Int32} (ok : OB_bytes_34 N rok x1 x2 x3 x4 x6 S) (hx : X (B_bytes_34 N rec x1 x2 x3 x4 x6 S)) : rX G E dX12_bytes mX12_bytes 34 [some (.ref E.1), some (.int x1), some (.int x2), some (.int x3), some (.long x4), none, some (.int x6)] [] S Q := by
  unfold OB_bytes_34 at ok
  unfold B_bytes_34 at hx
  refine r_iload dX12_bytes_34 rfl ?_
  refine r_bipush (v := nI 8) dX12_bytes_36 (by decide) ?_
  refine r_icmp_ge (tgt := 82) dX12_bytes_38 (by decide) (fun c_38 => ?_) (fun c_38 => ?_)
  · have ok := ok.1 c_38
    have hx := xif_p c_38 hx
    exact rX.cutz (hX0 _  hx) ⟨rfl, trivial⟩
  · have ok := ok.2 c_38
    have hx := xif_n c_38 hx
    refine r_lload dX12_bytes_41 rfl ?_
    refine r_bipush (v := nI 8) dX12_bytes_43 (by decide) ?_
    refine r_lshl dX12_bytes_45 ?_
    refine r_iload_n dX12_bytes_46 rfl rfl ?_
    refine r_iload_n dX12_bytes_47 rfl rfl ?_
    refine r_icmp_ge (tgt := 71) dX12_bytes_48 (by decide) (fun c_48 => ?_) (fun c_48 => ?_)
    · have ok := ok.1 c_48
      have hx := xif_p c_48 hx
      exact rX.cutz (b_bytes_71 hG hX0 hrec ok hx) ⟨rfl, rfl, rfl, rfl, rfl, trivial⟩
    · have ok := ok.2 c_48
      have hx := xif_n c_48 hx
      refine r_iload dX12_bytes_51 rfl ?_
      refine r_iload_n dX12_bytes_53 rfl rfl ?_
      refine r_iload_n dX12_bytes_54 rfl rfl ?_
      refine r_isub dX12_bytes_55 ?_
      refine r_icmp_ge (tgt := 71) dX12_bytes_56 (by decide) (fun c_56 => ?_) (fun c_56 => ?_)
      · have ok := ok.1 c_56
        have hx := xif_p c_56 hx
        exact rX.cutz (b_bytes_71 hG hX0 hrec ok hx) ⟨rfl, rfl, rfl, rfl, rfl, trivial⟩
      · have ok := ok.2 c_56
        have hx := xif_n c_56 hx
        refine r_aload_n dX12_bytes_59 rfl rfl ?_
        refine r_iload_n dX12_bytes_60 rfl rfl ?_
        refine r_iload_n dX12_bytes_61 rfl rfl ?_
        refine r_iload dX12_bytes_62 rfl ?_
        refine r_iadd dX12_bytes_64 ?_
        refine r_V2i (y' := mX12_flyByte) dX12_bytes_65 lX12_170 kX12_flyByte ⟨by decide, by decide⟩ rfl (Nat.le_of_ble_eq_true rfl) (rc_X12_flyByte hG ok.1) (fun v_65 S_65 h_65 => ?_)
        obtain ⟨rfl, hS_65⟩ := h_65
        have hS_65 := hS_65.symm
        subst hS_65
        have ok := ok.2
        refine r_goto (tgt := 72) dX12_bytes_68 (by decide) ?_
        exact rX.cutz (b_bytes_72 hG hX0 hrec ok hx) ⟨rfl, rfl, rfl, rfl, rfl, trivial⟩
def L_bytes_34 (N : Nat) : Nat → Int32 → Int32 → Int32 → Int64 → Int32 → rS → Nat × Int64 × Unit
  | 0, x1, x2, x3, x4, x6, S => (0, 0, ())
  | n + 1, x1, x2, x3, x4, x6, S => B_bytes_34 N (fun x1 x2 x3 x4 x6 => L_bytes_34 N n x1 x2 x3 x4 x6 S) x1 x2 x3 x4 x6 S
def OL_bytes_34 (N : Nat) : Nat → Int32 → Int32 → Int32 → Int64 → Int32 → rS → Prop
  | 0, _, _, _, _, _, _ => False
  | n + 1, x1, x2, x3, x4, x6, S => OB_bytes_34 N (fun x1 x2 x3 x4 x6 => OL_bytes_34 N n x1 x2 x3 x4 x6 S) x1 x2 x3 x4 x6 S
set_option maxHeartbeats 4000000 in
theorem l_bytes_34 {G : zG} {E : rE} {S : rS} {N : Nat} {Q : Option Value → rS → Prop} {X : Nat × Int64 × Unit → Prop} (hG : zOK G) (hX0 : ∀ (x4 : Int64) , X (0, x4, ()) → rX G E dX12_bytes mX12_bytes 82 [none, none, none, none, some (.long x4), none, none] [] S Q) : ∀ (n : Nat) (x1 : Int32) (x2 : Int32) (x3 : Int32) (x4 : Int64) (x6 : Int32) , OL_bytes_34 N n x1 x2 x3 x4 x6 S → X (L_bytes_34 N n x1 x2 x3 x4 x6 S) → rX G E dX12_bytes mX12_bytes 34 [some (.ref E.1), some (.int x1), some (.int x2), some (.int x3), some (.long x4), none, some (.int x6)] [] S Q := by
  intro n
  induction n with
  | zero => intro x1 x2 x3 x4 x6 ok; exact absurd ok id
  | succ n ih =>
    intro x1 x2 x3 x4 x6 ok hx
    exact bb_bytes_34 hG hX0 (rec := fun x1 x2 x3 x4 x6 => L_bytes_34 N n x1 x2 x3 x4 x6 S) (rok := fun x1 x2 x3 x4 x6 => OL_bytes_34 N n x1 x2 x3 x4 x6 S) (fun x1 x2 x3 x4 x6 ok hx => ih x1 x2 x3 x4 x6 ok hx) ok hx
def A_bytes_34 (N : Nat) (x1 : Int32) (x2 : Int32) (x3 : Int32) (x4 : Int64) (x6 : Int32) (S : rS) (z : Nat × Int64 × Unit) : Int64 := (F_bytes_82 N (z.2.1) S)
def OA_bytes_34 (N : Nat) (x1 : Int32) (x2 : Int32) (x3 : Int32) (x4 : Int64) (x6 : Int32) (S : rS) (z : Nat × Int64 × Unit) : Prop := O_bytes_82 N (z.2.1) S
set_option maxHeartbeats 4000000 in
theorem c_bytes_34 {G : zG} {E : rE} {S : rS} {N : Nat} {Q : Option Value → rS → Prop} {X : Int64 → Prop} (hG : zOK G) (hR : ∀ v, X v → Q (some (.long v)) S) {x1 : Int32} {x2 : Int32} {x3 : Int32} {x4 : Int64} {x6 : Int32} (ok : OL_bytes_34 N N x1 x2 x3 x4 x6 S ∧ OA_bytes_34 N x1 x2 x3 x4 x6 S (L_bytes_34 N N x1 x2 x3 x4 x6 S)) (hx : X (A_bytes_34 N x1 x2 x3 x4 x6 S (L_bytes_34 N N x1 x2 x3 x4 x6 S))) : rX G E dX12_bytes mX12_bytes 34 [some (.ref E.1), some (.int x1), some (.int x2), some (.int x3), some (.long x4), none, some (.int x6)] [] S Q := by
  refine l_bytes_34 hG ?_ N x1 x2 x3 x4 x6 ok.1 (X := fun z => OA_bytes_34 N x1 x2 x3 x4 x6 S z ∧ X (A_bytes_34 N x1 x2 x3 x4 x6 S z)) ⟨ok.2, hx⟩
  · intro x4' hz
    obtain ⟨ok, hx⟩ := hz
    unfold OA_bytes_34 at ok
    unfold A_bytes_34 at hx
    exact rX.cutz (b_bytes_82 hG hR ok hx) ⟨rfl, trivial⟩
def F_bytes_12 (N : Nat)  (S : rS) : Int64 := (-1 : Int64)
def O_bytes_12 (N : Nat)  (S : rS) : Prop := True
set_option maxHeartbeats 4000000 in
theorem b_bytes_12 {G : zG} {E : rE} {S : rS} {N : Nat} {Q : Option Value → rS → Prop} {X : Int64 → Prop} (hG : zOK G) (hR : ∀ v, X v → Q (some (.long v)) S) (ok : O_bytes_12 N S) (hx : X (F_bytes_12 N S)) : rX G E dX12_bytes mX12_bytes 12 [none, none, none, none, none, none, none] [] S Q := by
  unfold O_bytes_12 at ok
  unfold F_bytes_12 at hx
  refine r_ldc2 dX12_bytes_12 nX12_55 ?_
  exact r_lreturn rfl dX12_bytes_15 (hR _ hx)
def F_bytes_0 (N : Nat) (x1 : Int32) (x2 : Int32) (S : rS) : Int64 := (if (f_isFlying N S x1) = 0 then (F_bytes_12 N S) else (if 0 ≤ x2 then (A_bytes_34 N x1 x2 (S.2.1 29 (S.2.1 24 x1.toNatClampNeg).toNatClampNeg) (0 : Int64) (nI 0) S (L_bytes_34 N N x1 x2 (S.2.1 29 (S.2.1 24 x1.toNatClampNeg).toNatClampNeg) (0 : Int64) (nI 0) S)) else (F_bytes_12 N S)))
def O_bytes_0 (N : Nat) (x1 : Int32) (x2 : Int32) (S : rS) : Prop := (o_isFlying N S x1) ∧ (((f_isFlying N S x1) = 0 → O_bytes_12 N S) ∧ (¬ (f_isFlying N S x1) = 0 → ((0 ≤ x2 → (vp_in x1 1000) ∧ (vp_in (S.2.1 24 x1.toNatClampNeg) 1000) ∧ (OL_bytes_34 N N x1 x2 (S.2.1 29 (S.2.1 24 x1.toNatClampNeg).toNatClampNeg) (0 : Int64) (nI 0) S ∧ OA_bytes_34 N x1 x2 (S.2.1 29 (S.2.1 24 x1.toNatClampNeg).toNatClampNeg) (0 : Int64) (nI 0) S (L_bytes_34 N N x1 x2 (S.2.1 29 (S.2.1 24 x1.toNatClampNeg).toNatClampNeg) (0 : Int64) (nI 0) S))) ∧ (¬ 0 ≤ x2 → O_bytes_12 N S))))
set_option maxHeartbeats 4000000 in
theorem b_bytes_0 {G : zG} {E : rE} {S : rS} {N : Nat} {Q : Option Value → rS → Prop} {X : Int64 → Prop} (hG : zOK G) (hR : ∀ v, X v → Q (some (.long v)) S) {x1 : Int32} {x2 : Int32} (ok : O_bytes_0 N x1 x2 S) (hx : X (F_bytes_0 N x1 x2 S)) : rX G E dX12_bytes mX12_bytes 0 [some (.ref E.1), some (.int x1), some (.int x2), none, none, none, none] [] S Q := by
  unfold O_bytes_0 at ok
  unfold F_bytes_0 at hx
  refine r_aload_n dX12_bytes_0 rfl rfl ?_
  refine r_iload_n dX12_bytes_1 rfl rfl ?_
  refine r_V1i (y' := mX12_isFlying) dX12_bytes_2 lX12_167 kX12_isFlying ⟨by decide, by decide⟩ rfl (Nat.le_of_ble_eq_true rfl) (rc_X12_isFlying hG ok.1) (fun v_2 S_2 h_2 => ?_)
  obtain ⟨rfl, hS_2⟩ := h_2
  have hS_2 := hS_2.symm
  subst hS_2
  have ok := ok.2
  refine r_if_eq (tgt := 12) dX12_bytes_5 (by decide) (fun c_5 => ?_) (fun c_5 => ?_)
  · have ok := ok.1 c_5
    have hx := xif_p c_5 hx
    exact rX.cutz (b_bytes_12 hG hR ok hx) trivial
  · have ok := ok.2 c_5
    have hx := xif_n c_5 hx
    refine r_iload_n dX12_bytes_8 rfl rfl ?_
    refine r_if_ge (tgt := 16) dX12_bytes_9 (by decide) (fun c_9 => ?_) (fun c_9 => ?_)
    · have ok := ok.1 c_9
      have hx := xif_p c_9 hx
      refine r_aload_n dX12_bytes_16 rfl rfl ?_
      refine r_getA 29 fX12_173 (by decide) (by decide) dX12_bytes_17 ?_
      refine r_aload_n dX12_bytes_20 rfl rfl ?_
      refine r_getA 24 fX12_176 (by decide) (by decide) dX12_bytes_21 ?_
      refine r_iload_n dX12_bytes_24 rfl rfl ?_
      refine r_iald (by decide) (by decide) dX12_bytes_25 ok.1 ?_
      have ok := ok.2
      refine r_iald (by decide) (by decide) dX12_bytes_26 ok.1 ?_
      have ok := ok.2
      refine r_istore_3 dX12_bytes_27 (by decide) rfl ?_
      refine r_lconst (v := 0) dX12_bytes_28 rfl ?_
      refine r_lstore_4 dX12_bytes_29 (by decide) rfl ?_
      refine r_iconst (v := nI 0) dX12_bytes_31 (by decide) ?_
      refine r_istore_6 dX12_bytes_32 (by decide) rfl ?_
      exact rX.cutz (c_bytes_34 hG hR ok hx) ⟨rfl, rfl, rfl, rfl, rfl, rfl, trivial⟩
    · have ok := ok.2 c_9
      have hx := xif_n c_9 hx
      exact rX.cutz (b_bytes_12 hG hR ok hx) trivial
def f_bytes (N : Nat) (S : rS) (x1 : Int32) (x2 : Int32) : Int64 := F_bytes_0 N x1 x2 S
def o_bytes (N : Nat) (S : rS) (x1 : Int32) (x2 : Int32) : Prop := O_bytes_0 N x1 x2 S
set_option maxHeartbeats 4000000 in
theorem rc_X12_bytes {G : zG} {E : rE} {S : rS} {N : Nat} (hG : zOK G) {x1 : Int32} {x2 : Int32} (ok : o_bytes N S x1 x2) : rCl G E dX12_bytes mX12_bytes [.ref E.1, .int x1, .int x2] S (fun v S' => v = f_bytes N S x1 x2 ∧ S' = S) := by
  refine rC.ofX rfl (Nat.le_of_ble_eq_true rfl) ?_
  show rX G E dX12_bytes mX12_bytes 0 [some (.ref E.1), some (.int x1), some (.int x2), none, none, none, none] [] S _
  exact rX.cutz (b_bytes_0 (X := fun F => F = f_bytes N S x1 x2) hG (fun v h => ⟨v, rfl, h, rfl⟩) ok rfl) ⟨rfl, rfl, rfl, trivial⟩
/-! crash -/
def F_crash_15 (N : Nat)  (S : rS) : Int32 × rS := ((nI 1), S)
def O_crash_15 (N : Nat)  (S : rS) : Prop := True
set_option maxHeartbeats 4000000 in
theorem b_crash_15 {G : zG} {E : rE} {S : rS} {N : Nat} {Q : Option Value → rS → Prop} {X : Int32 × rS → Prop} (hG : zOK G) (hR : ∀ v S', X (v, S') → Q (some (.int v)) S') (ok : O_crash_15 N S) (hx : X (F_crash_15 N S)) : rX G E dX12_crash mX12_crash 15 [none, none] [] S Q := by
  unfold O_crash_15 at ok
  unfold F_crash_15 at hx
  refine r_iconst (v := nI 1) dX12_crash_15 (by decide) ?_
  exact r_ireturn rfl rfl dX12_crash_16 (hR _ _ hx)
def F_crash_0 (N : Nat) (x1 : Int32) (S : rS) : Int32 × rS := (if (f_isUp N S x1) = 0 then ((nI 0), S) else (F_crash_15 N (f_fall N S x1)))
def O_crash_0 (N : Nat) (x1 : Int32) (S : rS) : Prop := (o_isUp N S x1) ∧ (((f_isUp N S x1) = 0 → True) ∧ (¬ (f_isUp N S x1) = 0 → (o_fall N S x1) ∧ O_crash_15 N (f_fall N S x1)))
set_option maxHeartbeats 4000000 in
theorem b_crash_0 {G : zG} {E : rE} {S : rS} {N : Nat} {Q : Option Value → rS → Prop} {X : Int32 × rS → Prop} (hG : zOK G) (hR : ∀ v S', X (v, S') → Q (some (.int v)) S') {x1 : Int32} (ok : O_crash_0 N x1 S) (hx : X (F_crash_0 N x1 S)) : rX G E dX12_crash mX12_crash 0 [some (.ref E.1), some (.int x1)] [] S Q := by
  unfold O_crash_0 at ok
  unfold F_crash_0 at hx
  refine r_aload_n dX12_crash_0 rfl rfl ?_
  refine r_iload_n dX12_crash_1 rfl rfl ?_
  refine r_V1i (y' := mX12_isUp) dX12_crash_2 lX12_707 kX12_isUp ⟨by decide, by decide⟩ rfl (Nat.le_of_ble_eq_true rfl) (rc_X12_isUp hG ok.1) (fun v_2 S_2 h_2 => ?_)
  obtain ⟨rfl, hS_2⟩ := h_2
  have hS_2 := hS_2.symm
  subst hS_2
  have ok := ok.2
  refine r_if_ne (tgt := 10) dX12_crash_5 (by decide) (fun c_5 => ?_) (fun c_5 => ?_)
  · have ok := ok.2 c_5
    have hx := xif_n c_5 hx
    refine r_aload_n dX12_crash_10 rfl rfl ?_
    refine r_iload_n dX12_crash_11 rfl rfl ?_
    refine r_V1v (y' := mX12_fall) dX12_crash_12 lX12_489 kX12_fall ⟨by decide, by decide⟩ rfl (Nat.le_of_ble_eq_true rfl) (rc_X12_fall hG ok.1) (fun S_12 h_12 => ?_)
    subst h_12
    have ok := ok.2
    exact rX.cutz (b_crash_15 hG hR ok hx) trivial
  · have ok := ok.1 c_5
    have hx := xif_p c_5 hx
    refine r_iconst (v := nI 0) dX12_crash_8 (by decide) ?_
    exact r_ireturn rfl rfl dX12_crash_9 (hR _ _ hx)
def f_crash (N : Nat) (S : rS) (x1 : Int32) : Int32 × rS := F_crash_0 N x1 S
def o_crash (N : Nat) (S : rS) (x1 : Int32) : Prop := O_crash_0 N x1 S
set_option maxHeartbeats 4000000 in
theorem rc_X12_crash {G : zG} {E : rE} {S : rS} {N : Nat} (hG : zOK G) {x1 : Int32} (ok : o_crash N S x1) : rCi G E dX12_crash mX12_crash [.ref E.1, .int x1] S (fun v S' => v = (f_crash N S x1).1 ∧ S' = (f_crash N S x1).2) := by
  refine rC.ofX rfl (Nat.le_of_ble_eq_true rfl) ?_
  show rX G E dX12_crash mX12_crash 0 [some (.ref E.1), some (.int x1)] [] S _
  exact rX.cutz (b_crash_0 (X := fun F => F = f_crash N S x1) hG (fun v S' h => ⟨v, rfl, by rw [← h], by rw [← h]⟩) ok rfl) ⟨rfl, rfl, trivial⟩
/-! cut -/
def F_cut_19 (N : Nat)  (S : rS) : Int32 × rS := ((nI 0), S)
def O_cut_19 (N : Nat)  (S : rS) : Prop := True
set_option maxHeartbeats 4000000 in
theorem b_cut_19 {G : zG} {E : rE} {S : rS} {N : Nat} {Q : Option Value → rS → Prop} {X : Int32 × rS → Prop} (hG : zOK G) (hR : ∀ v S', X (v, S') → Q (some (.int v)) S') (ok : O_cut_19 N S) (hx : X (F_cut_19 N S)) : rX G E dX12_cut mX12_cut 19 [none, none, none] [] S Q := by
  unfold O_cut_19 at ok
  unfold F_cut_19 at hx
  refine r_iconst (v := nI 0) dX12_cut_19 (by decide) ?_
  exact r_ireturn rfl rfl dX12_cut_20 (hR _ _ hx)
def F_cut_0 (N : Nat) (x1 : Int32) (x2 : Int32) (S : rS) : Int32 × rS := (if (f_isHonest N S x1) = 0 then (F_cut_19 N S) else (if x2 < 0 then (F_cut_19 N S) else (if x2 ≤ (nI 1000) then ((nI 1), (rsA S 75 x1.toNatClampNeg x2)) else (F_cut_19 N S))))
def O_cut_0 (N : Nat) (x1 : Int32) (x2 : Int32) (S : rS) : Prop := (o_isHonest N S x1) ∧ (((f_isHonest N S x1) = 0 → O_cut_19 N S) ∧ (¬ (f_isHonest N S x1) = 0 → ((x2 < 0 → O_cut_19 N S) ∧ (¬ x2 < 0 → ((x2 ≤ (nI 1000) → (vp_in x1 13) ∧ True) ∧ (¬ x2 ≤ (nI 1000) → O_cut_19 N S))))))
set_option maxHeartbeats 4000000 in
theorem b_cut_0 {G : zG} {E : rE} {S : rS} {N : Nat} {Q : Option Value → rS → Prop} {X : Int32 × rS → Prop} (hG : zOK G) (hR : ∀ v S', X (v, S') → Q (some (.int v)) S') {x1 : Int32} {x2 : Int32} (ok : O_cut_0 N x1 x2 S) (hx : X (F_cut_0 N x1 x2 S)) : rX G E dX12_cut mX12_cut 0 [some (.ref E.1), some (.int x1), some (.int x2)] [] S Q := by
  unfold O_cut_0 at ok
  unfold F_cut_0 at hx
  refine r_aload_n dX12_cut_0 rfl rfl ?_
  refine r_iload_n dX12_cut_1 rfl rfl ?_
  refine r_V1i (y' := mX12_isHonest) dX12_cut_2 lX12_155 kX12_isHonest ⟨by decide, by decide⟩ rfl (Nat.le_of_ble_eq_true rfl) (rc_X12_isHonest hG ok.1) (fun v_2 S_2 h_2 => ?_)
  obtain ⟨rfl, hS_2⟩ := h_2
  have hS_2 := hS_2.symm
  subst hS_2
  have ok := ok.2
  refine r_if_eq (tgt := 19) dX12_cut_5 (by decide) (fun c_5 => ?_) (fun c_5 => ?_)
  · have ok := ok.1 c_5
    have hx := xif_p c_5 hx
    exact rX.cutz (b_cut_19 hG hR ok hx) trivial
  · have ok := ok.2 c_5
    have hx := xif_n c_5 hx
    refine r_iload_n dX12_cut_8 rfl rfl ?_
    refine r_if_lt (tgt := 19) dX12_cut_9 (by decide) (fun c_9 => ?_) (fun c_9 => ?_)
    · have ok := ok.1 c_9
      have hx := xif_p c_9 hx
      exact rX.cutz (b_cut_19 hG hR ok hx) trivial
    · have ok := ok.2 c_9
      have hx := xif_n c_9 hx
      refine r_iload_n dX12_cut_12 rfl rfl ?_
      refine r_sipush (v := nI 1000) dX12_cut_13 (by decide) ?_
      refine r_icmp_le (tgt := 21) dX12_cut_16 (by decide) (fun c_16 => ?_) (fun c_16 => ?_)
      · have ok := ok.1 c_16
        have hx := xif_p c_16 hx
        refine r_aload_n dX12_cut_21 rfl rfl ?_
        refine r_getA 75 fX12_400 (by decide) (by decide) dX12_cut_22 ?_
        refine r_iload_n dX12_cut_25 rfl rfl ?_
        refine r_iload_n dX12_cut_26 rfl rfl ?_
        refine r_iast hG (by decide) (by decide) dX12_cut_27 ok.1 ?_
        have ok := ok.2
        refine r_iconst (v := nI 1) dX12_cut_28 (by decide) ?_
        exact r_ireturn rfl rfl dX12_cut_29 (hR _ _ hx)
      · have ok := ok.2 c_16
        have hx := xif_n c_16 hx
        exact rX.cutz (b_cut_19 hG hR ok hx) trivial
def f_cut (N : Nat) (S : rS) (x1 : Int32) (x2 : Int32) : Int32 × rS := F_cut_0 N x1 x2 S
def o_cut (N : Nat) (S : rS) (x1 : Int32) (x2 : Int32) : Prop := O_cut_0 N x1 x2 S
set_option maxHeartbeats 4000000 in
theorem rc_X12_cut {G : zG} {E : rE} {S : rS} {N : Nat} (hG : zOK G) {x1 : Int32} {x2 : Int32} (ok : o_cut N S x1 x2) : rCi G E dX12_cut mX12_cut [.ref E.1, .int x1, .int x2] S (fun v S' => v = (f_cut N S x1 x2).1 ∧ S' = (f_cut N S x1 x2).2) := by
  refine rC.ofX rfl (Nat.le_of_ble_eq_true rfl) ?_
  show rX G E dX12_cut mX12_cut 0 [some (.ref E.1), some (.int x1), some (.int x2)] [] S _
  exact rX.cutz (b_cut_0 (X := fun F => F = f_cut N S x1 x2) hG (fun v S' h => ⟨v, rfl, by rw [← h], by rw [← h]⟩) ok rfl) ⟨rfl, rfl, rfl, trivial⟩
/-! restart -/
def F_restart_92 (N : Nat)  (S : rS) : Int32 × rS := ((nI 1), S)
def O_restart_92 (N : Nat)  (S : rS) : Prop := True
set_option maxHeartbeats 4000000 in
theorem b_restart_92 {G : zG} {E : rE} {S : rS} {N : Nat} {Q : Option Value → rS → Prop} {X : Int32 × rS → Prop} (hG : zOK G) (hR : ∀ v S', X (v, S') → Q (some (.int v)) S') (ok : O_restart_92 N S) (hx : X (F_restart_92 N S)) : rX G E dX12_restart mX12_restart 92 [none, none, none] [] S Q := by
  unfold O_restart_92 at ok
  unfold F_restart_92 at hx
  refine r_iconst (v := nI 1) dX12_restart_92 (by decide) ?_
  exact r_ireturn rfl rfl dX12_restart_93 (hR _ _ hx)
def F_restart_87 (N : Nat) (x1 : Int32) (S : rS) : Int32 × rS := (F_restart_92 N (f_rules N S x1))
def O_restart_87 (N : Nat) (x1 : Int32) (S : rS) : Prop := (o_rules N S x1) ∧ O_restart_92 N (f_rules N S x1)
set_option maxHeartbeats 4000000 in
theorem b_restart_87 {G : zG} {E : rE} {S : rS} {N : Nat} {Q : Option Value → rS → Prop} {X : Int32 × rS → Prop} (hG : zOK G) (hR : ∀ v S', X (v, S') → Q (some (.int v)) S') {x1 : Int32} (ok : O_restart_87 N x1 S) (hx : X (F_restart_87 N x1 S)) : rX G E dX12_restart mX12_restart 87 [some (.ref E.1), some (.int x1), none] [] S Q := by
  unfold O_restart_87 at ok
  unfold F_restart_87 at hx
  refine r_aload_n dX12_restart_87 rfl rfl ?_
  refine r_iload_n dX12_restart_88 rfl rfl ?_
  refine r_V1v (y' := mX12_rules) dX12_restart_89 lX12_460 kX12_rules ⟨by decide, by decide⟩ rfl (Nat.le_of_ble_eq_true rfl) (rc_X12_rules hG ok.1) (fun S_89 h_89 => ?_)
  subst h_89
  have ok := ok.2
  exact rX.cutz (b_restart_92 hG hR ok hx) trivial
def F_restart_82 (N : Nat) (x1 : Int32) (S : rS) : Int32 × rS := (F_restart_87 N x1 (f_flyAll N S x1))
def O_restart_82 (N : Nat) (x1 : Int32) (S : rS) : Prop := (o_flyAll N S x1) ∧ O_restart_87 N x1 (f_flyAll N S x1)
set_option maxHeartbeats 4000000 in
theorem b_restart_82 {G : zG} {E : rE} {S : rS} {N : Nat} {Q : Option Value → rS → Prop} {X : Int32 × rS → Prop} (hG : zOK G) (hR : ∀ v S', X (v, S') → Q (some (.int v)) S') {x1 : Int32} (ok : O_restart_82 N x1 S) (hx : X (F_restart_82 N x1 S)) : rX G E dX12_restart mX12_restart 82 [some (.ref E.1), some (.int x1), none] [] S Q := by
  unfold O_restart_82 at ok
  unfold F_restart_82 at hx
  refine r_aload_n dX12_restart_82 rfl rfl ?_
  refine r_iload_n dX12_restart_83 rfl rfl ?_
  refine r_V1v (y' := mX12_flyAll) dX12_restart_84 lX12_514 kX12_flyAll ⟨by decide, by decide⟩ rfl (Nat.le_of_ble_eq_true rfl) (rc_X12_flyAll hG ok.1) (fun S_84 h_84 => ?_)
  subst h_84
  have ok := ok.2
  exact rX.cutz (b_restart_87 hG hR ok hx) ⟨rfl, rfl, trivial⟩
def F_restart_77 (N : Nat) (x1 : Int32) (S : rS) : Int32 × rS := (F_restart_82 N x1 (f_writeAsk N S x1))
def O_restart_77 (N : Nat) (x1 : Int32) (S : rS) : Prop := (o_writeAsk N S x1) ∧ O_restart_82 N x1 (f_writeAsk N S x1)
set_option maxHeartbeats 4000000 in
theorem b_restart_77 {G : zG} {E : rE} {S : rS} {N : Nat} {Q : Option Value → rS → Prop} {X : Int32 × rS → Prop} (hG : zOK G) (hR : ∀ v S', X (v, S') → Q (some (.int v)) S') {x1 : Int32} (ok : O_restart_77 N x1 S) (hx : X (F_restart_77 N x1 S)) : rX G E dX12_restart mX12_restart 77 [some (.ref E.1), some (.int x1), none] [] S Q := by
  unfold O_restart_77 at ok
  unfold F_restart_77 at hx
  refine r_aload_n dX12_restart_77 rfl rfl ?_
  refine r_iload_n dX12_restart_78 rfl rfl ?_
  refine r_V1v (y' := mX12_writeAsk) dX12_restart_79 lX12_676 kX12_writeAsk ⟨by decide, by decide⟩ rfl (Nat.le_of_ble_eq_true rfl) (rc_X12_writeAsk hG ok.1) (fun S_79 h_79 => ?_)
  subst h_79
  have ok := ok.2
  exact rX.cutz (b_restart_82 hG hR ok hx) ⟨rfl, rfl, trivial⟩
def F_restart_55 (N : Nat) (x1 : Int32) (S : rS) : Int32 × rS := (if (nI 40) < (S.2.1 44 x1.toNatClampNeg) then (F_restart_77 N x1 S) else (F_restart_77 N x1 (f_setTimer N S x1 (S.2.1 46 x1.toNatClampNeg))))
def O_restart_55 (N : Nat) (x1 : Int32) (S : rS) : Prop := (vp_in x1 13) ∧ (((nI 40) < (S.2.1 44 x1.toNatClampNeg) → O_restart_77 N x1 S) ∧ (¬ (nI 40) < (S.2.1 44 x1.toNatClampNeg) → (vp_in x1 13) ∧ (o_setTimer N S x1 (S.2.1 46 x1.toNatClampNeg)) ∧ O_restart_77 N x1 (f_setTimer N S x1 (S.2.1 46 x1.toNatClampNeg))))
set_option maxHeartbeats 4000000 in
theorem b_restart_55 {G : zG} {E : rE} {S : rS} {N : Nat} {Q : Option Value → rS → Prop} {X : Int32 × rS → Prop} (hG : zOK G) (hR : ∀ v S', X (v, S') → Q (some (.int v)) S') {x1 : Int32} (ok : O_restart_55 N x1 S) (hx : X (F_restart_55 N x1 S)) : rX G E dX12_restart mX12_restart 55 [some (.ref E.1), some (.int x1), none] [] S Q := by
  unfold O_restart_55 at ok
  unfold F_restart_55 at hx
  refine r_aload_n dX12_restart_55 rfl rfl ?_
  refine r_getA 44 fX12_309 (by decide) (by decide) dX12_restart_56 ?_
  refine r_iload_n dX12_restart_59 rfl rfl ?_
  refine r_iald (by decide) (by decide) dX12_restart_60 ok.1 ?_
  have ok := ok.2
  refine r_bipush (v := nI 40) dX12_restart_61 (by decide) ?_
  refine r_icmp_gt (tgt := 77) dX12_restart_63 (by decide) (fun c_63 => ?_) (fun c_63 => ?_)
  · have ok := ok.1 c_63
    have hx := xif_p c_63 hx
    exact rX.cutz (b_restart_77 hG hR ok hx) ⟨rfl, rfl, trivial⟩
  · have ok := ok.2 c_63
    have hx := xif_n c_63 hx
    refine r_aload_n dX12_restart_66 rfl rfl ?_
    refine r_iload_n dX12_restart_67 rfl rfl ?_
    refine r_aload_n dX12_restart_68 rfl rfl ?_
    refine r_getA 46 fX12_315 (by decide) (by decide) dX12_restart_69 ?_
    refine r_iload_n dX12_restart_72 rfl rfl ?_
    refine r_iald (by decide) (by decide) dX12_restart_73 ok.1 ?_
    have ok := ok.2
    refine r_V2v (y' := mX12_setTimer) dX12_restart_74 lX12_572 kX12_setTimer ⟨by decide, by decide⟩ rfl (Nat.le_of_ble_eq_true rfl) (rc_X12_setTimer hG ok.1) (fun S_74 h_74 => ?_)
    subst h_74
    have ok := ok.2
    exact rX.cutz (b_restart_77 hG hR ok hx) ⟨rfl, rfl, trivial⟩
def F_restart_49 (N : Nat) (rec : Int32 → Int32 → rS → Nat × Int32 × rS) (x1 : Int32) (x2 : Int32) (S : rS) : Nat × Int32 × rS := (rec x1 (x2 + nI 1) S)
def O_restart_49 (N : Nat) (rok : Int32 → Int32 → rS → Prop) (x1 : Int32) (x2 : Int32) (S : rS) : Prop := rok x1 (x2 + nI 1) S
set_option maxHeartbeats 4000000 in
theorem b_restart_49 {G : zG} {E : rE} {S : rS} {N : Nat} {Q : Option Value → rS → Prop} {X : Nat × Int32 × rS → Prop} (hG : zOK G) (hX0 : ∀ (x1 : Int32) (S' : rS), X (0, x1, S') → rX G E dX12_restart mX12_restart 55 [some (.ref E.1), some (.int x1), none] [] S' Q) {rec : Int32 → Int32 → rS → Nat × Int32 × rS} {rok : Int32 → Int32 → rS → Prop} (hrec : ∀ (x1 : Int32) (x2 : Int32) (S : rS), rok x1 x2 S → X (rec x1 x2 S) → rX G E dX12_restart mX12_restart 33 [some (.ref E.1), some (.int x1), some (.int x2)] [] S Q) {x1 : Int32} {x2 : Int32} (ok : O_restart_49 N rok x1 x2 S) (hx : X (F_restart_49 N rec x1 x2 S)) : rX G E dX12_restart mX12_restart 49 [some (.ref E.1), some (.int x1), some (.int x2)] [] S Q := by
  unfold O_restart_49 at ok
  unfold F_restart_49 at hx
  refine r_iinc_2 (v := (x2 + nI 1)) dX12_restart_49 rfl (by first | rfl | (congr 1)) (by decide) rfl ?_
  refine r_goto (tgt := 33) dX12_restart_52 (by decide) ?_
  exact rX.cutz (hrec _ _ S ok hx) ⟨rfl, rfl, rfl, trivial⟩
def B_restart_33 (N : Nat) (rec : Int32 → Int32 → rS → Nat × Int32 × rS) (x1 : Int32) (x2 : Int32) (S : rS) : Nat × Int32 × rS := (if (S.2.1 65 x1.toNatClampNeg) ≤ x2 then (0, x1, S) else (F_restart_49 N rec x1 x2 (f_holdLogged N S x1 x2)))
def OB_restart_33 (N : Nat) (rok : Int32 → Int32 → rS → Prop) (x1 : Int32) (x2 : Int32) (S : rS) : Prop := (vp_in x1 13) ∧ (((S.2.1 65 x1.toNatClampNeg) ≤ x2 → True) ∧ (¬ (S.2.1 65 x1.toNatClampNeg) ≤ x2 → (o_holdLogged N S x1 x2) ∧ O_restart_49 N rok x1 x2 (f_holdLogged N S x1 x2)))
set_option maxHeartbeats 4000000 in
theorem bb_restart_33 {G : zG} {E : rE} {S : rS} {N : Nat} {Q : Option Value → rS → Prop} {X : Nat × Int32 × rS → Prop} (hG : zOK G) (hX0 : ∀ (x1 : Int32) (S' : rS), X (0, x1, S') → rX G E dX12_restart mX12_restart 55 [some (.ref E.1), some (.int x1), none] [] S' Q) {rec : Int32 → Int32 → rS → Nat × Int32 × rS} {rok : Int32 → Int32 → rS → Prop} (hrec : ∀ (x1 : Int32) (x2 : Int32) (S : rS), rok x1 x2 S → X (rec x1 x2 S) → rX G E dX12_restart mX12_restart 33 [some (.ref E.1), some (.int x1), some (.int x2)] [] S Q) {x1 : Int32} {x2 : Int32} (ok : OB_restart_33 N rok x1 x2 S) (hx : X (B_restart_33 N rec x1 x2 S)) : rX G E dX12_restart mX12_restart 33 [some (.ref E.1), some (.int x1), some (.int x2)] [] S Q := by
  unfold OB_restart_33 at ok
  unfold B_restart_33 at hx
  refine r_iload_n dX12_restart_33 rfl rfl ?_
  refine r_aload_n dX12_restart_34 rfl rfl ?_
  refine r_getA 65 fX12_372 (by decide) (by decide) dX12_restart_35 ?_
  refine r_iload_n dX12_restart_38 rfl rfl ?_
  refine r_iald (by decide) (by decide) dX12_restart_39 ok.1 ?_
  have ok := ok.2
  refine r_icmp_ge (tgt := 55) dX12_restart_40 (by decide) (fun c_40 => ?_) (fun c_40 => ?_)
  · have ok := ok.1 c_40
    have hx := xif_p c_40 hx
    exact rX.cutz (hX0 _ S hx) ⟨rfl, rfl, trivial⟩
  · have ok := ok.2 c_40
    have hx := xif_n c_40 hx
    refine r_aload_n dX12_restart_43 rfl rfl ?_
    refine r_iload_n dX12_restart_44 rfl rfl ?_
    refine r_iload_n dX12_restart_45 rfl rfl ?_
    refine r_V2v (y' := mX12_holdLogged) dX12_restart_46 lX12_517 kX12_holdLogged ⟨by decide, by decide⟩ rfl (Nat.le_of_ble_eq_true rfl) (rc_X12_holdLogged hG ok.1) (fun S_46 h_46 => ?_)
    subst h_46
    have ok := ok.2
    exact rX.cutz (b_restart_49 hG hX0 hrec ok hx) ⟨rfl, rfl, rfl, trivial⟩
def L_restart_33 (N : Nat) : Nat → Int32 → Int32 → rS → Nat × Int32 × rS
  | 0, x1, x2, S => (0, 0, S)
  | n + 1, x1, x2, S => B_restart_33 N (L_restart_33 N n) x1 x2 S
def OL_restart_33 (N : Nat) : Nat → Int32 → Int32 → rS → Prop
  | 0, _, _, _ => False
  | n + 1, x1, x2, S => OB_restart_33 N (OL_restart_33 N n) x1 x2 S
set_option maxHeartbeats 4000000 in
theorem l_restart_33 {G : zG} {E : rE} {N : Nat} {Q : Option Value → rS → Prop} {X : Nat × Int32 × rS → Prop} (hG : zOK G) (hX0 : ∀ (x1 : Int32) (S' : rS), X (0, x1, S') → rX G E dX12_restart mX12_restart 55 [some (.ref E.1), some (.int x1), none] [] S' Q) : ∀ (n : Nat) (x1 : Int32) (x2 : Int32) (S : rS), OL_restart_33 N n x1 x2 S → X (L_restart_33 N n x1 x2 S) → rX G E dX12_restart mX12_restart 33 [some (.ref E.1), some (.int x1), some (.int x2)] [] S Q := by
  intro n
  induction n with
  | zero => intro x1 x2 S ok; exact absurd ok id
  | succ n ih =>
    intro x1 x2 S ok hx
    exact bb_restart_33 hG hX0 (rec := L_restart_33 N n) (rok := OL_restart_33 N n) (fun x1 x2 S ok hx => ih x1 x2 S ok hx) ok hx
def A_restart_33 (N : Nat) (x1 : Int32) (x2 : Int32) (S : rS) (z : Nat × Int32 × rS) : Int32 × rS := (F_restart_55 N (z.2.1) z.2.2)
def OA_restart_33 (N : Nat) (x1 : Int32) (x2 : Int32) (S : rS) (z : Nat × Int32 × rS) : Prop := O_restart_55 N (z.2.1) z.2.2
set_option maxHeartbeats 4000000 in
theorem c_restart_33 {G : zG} {E : rE} {S : rS} {N : Nat} {Q : Option Value → rS → Prop} {X : Int32 × rS → Prop} (hG : zOK G) (hR : ∀ v S', X (v, S') → Q (some (.int v)) S') {x1 : Int32} {x2 : Int32} (ok : OL_restart_33 N N x1 x2 S ∧ OA_restart_33 N x1 x2 S (L_restart_33 N N x1 x2 S)) (hx : X (A_restart_33 N x1 x2 S (L_restart_33 N N x1 x2 S))) : rX G E dX12_restart mX12_restart 33 [some (.ref E.1), some (.int x1), some (.int x2)] [] S Q := by
  refine l_restart_33 hG ?_ N x1 x2 S ok.1 (X := fun z => OA_restart_33 N x1 x2 S z ∧ X (A_restart_33 N x1 x2 S z)) ⟨ok.2, hx⟩
  · intro x1' S' hz
    obtain ⟨ok, hx⟩ := hz
    unfold OA_restart_33 at ok
    unfold A_restart_33 at hx
    exact rX.cutz (b_restart_55 hG hR ok hx) ⟨rfl, rfl, trivial⟩
def F_restart_31 (N : Nat) (x1 : Int32) (S : rS) : Int32 × rS := (A_restart_33 N x1 (nI 0) S (L_restart_33 N N x1 (nI 0) S))
def O_restart_31 (N : Nat) (x1 : Int32) (S : rS) : Prop := (OL_restart_33 N N x1 (nI 0) S ∧ OA_restart_33 N x1 (nI 0) S (L_restart_33 N N x1 (nI 0) S))
set_option maxHeartbeats 4000000 in
theorem b_restart_31 {G : zG} {E : rE} {S : rS} {N : Nat} {Q : Option Value → rS → Prop} {X : Int32 × rS → Prop} (hG : zOK G) (hR : ∀ v S', X (v, S') → Q (some (.int v)) S') {x1 : Int32} (ok : O_restart_31 N x1 S) (hx : X (F_restart_31 N x1 S)) : rX G E dX12_restart mX12_restart 31 [some (.ref E.1), some (.int x1), none] [] S Q := by
  unfold O_restart_31 at ok
  unfold F_restart_31 at hx
  refine r_iconst (v := nI 0) dX12_restart_31 (by decide) ?_
  refine r_istore_2 dX12_restart_32 (by decide) rfl ?_
  exact rX.cutz (c_restart_33 hG hR ok hx) ⟨rfl, rfl, rfl, trivial⟩
def F_restart_17 (N : Nat)  (S : rS) : Int32 × rS := ((nI 0), S)
def O_restart_17 (N : Nat)  (S : rS) : Prop := True
set_option maxHeartbeats 4000000 in
theorem b_restart_17 {G : zG} {E : rE} {S : rS} {N : Nat} {Q : Option Value → rS → Prop} {X : Int32 × rS → Prop} (hG : zOK G) (hR : ∀ v S', X (v, S') → Q (some (.int v)) S') (ok : O_restart_17 N S) (hx : X (F_restart_17 N S)) : rX G E dX12_restart mX12_restart 17 [none, none, none] [] S Q := by
  unfold O_restart_17 at ok
  unfold F_restart_17 at hx
  refine r_iconst (v := nI 0) dX12_restart_17 (by decide) ?_
  exact r_ireturn rfl rfl dX12_restart_18 (hR _ _ hx)
def F_restart_0 (N : Nat) (x1 : Int32) (S : rS) : Int32 × rS := (if (f_isHonest N S x1) = 0 then (F_restart_17 N S) else (if (S.2.1 43 x1.toNatClampNeg) = 0 then (F_restart_31 N x1 (f_notBeen N (rsA S 43 x1.toNatClampNeg (nI 1)) x1)) else (F_restart_17 N S)))
def O_restart_0 (N : Nat) (x1 : Int32) (S : rS) : Prop := (o_isHonest N S x1) ∧ (((f_isHonest N S x1) = 0 → O_restart_17 N S) ∧ (¬ (f_isHonest N S x1) = 0 → (vp_in x1 13) ∧ (((S.2.1 43 x1.toNatClampNeg) = 0 → (vp_in x1 13) ∧ (o_notBeen N (rsA S 43 x1.toNatClampNeg (nI 1)) x1) ∧ O_restart_31 N x1 (f_notBeen N (rsA S 43 x1.toNatClampNeg (nI 1)) x1)) ∧ (¬ (S.2.1 43 x1.toNatClampNeg) = 0 → O_restart_17 N S))))
set_option maxHeartbeats 4000000 in
theorem b_restart_0 {G : zG} {E : rE} {S : rS} {N : Nat} {Q : Option Value → rS → Prop} {X : Int32 × rS → Prop} (hG : zOK G) (hR : ∀ v S', X (v, S') → Q (some (.int v)) S') {x1 : Int32} (ok : O_restart_0 N x1 S) (hx : X (F_restart_0 N x1 S)) : rX G E dX12_restart mX12_restart 0 [some (.ref E.1), some (.int x1), none] [] S Q := by
  unfold O_restart_0 at ok
  unfold F_restart_0 at hx
  refine r_aload_n dX12_restart_0 rfl rfl ?_
  refine r_iload_n dX12_restart_1 rfl rfl ?_
  refine r_V1i (y' := mX12_isHonest) dX12_restart_2 lX12_155 kX12_isHonest ⟨by decide, by decide⟩ rfl (Nat.le_of_ble_eq_true rfl) (rc_X12_isHonest hG ok.1) (fun v_2 S_2 h_2 => ?_)
  obtain ⟨rfl, hS_2⟩ := h_2
  have hS_2 := hS_2.symm
  subst hS_2
  have ok := ok.2
  refine r_if_eq (tgt := 17) dX12_restart_5 (by decide) (fun c_5 => ?_) (fun c_5 => ?_)
  · have ok := ok.1 c_5
    have hx := xif_p c_5 hx
    exact rX.cutz (b_restart_17 hG hR ok hx) trivial
  · have ok := ok.2 c_5
    have hx := xif_n c_5 hx
    refine r_aload_n dX12_restart_8 rfl rfl ?_
    refine r_getA 43 fX12_305 (by decide) (by decide) dX12_restart_9 ?_
    refine r_iload_n dX12_restart_12 rfl rfl ?_
    refine r_zald (by decide) (by decide) dX12_restart_13 ok.1 ?_
    have ok := ok.2
    refine r_if_eq (tgt := 19) dX12_restart_14 (by decide) (fun c_14 => ?_) (fun c_14 => ?_)
    · have ok := ok.1 c_14
      have hx := xif_p c_14 hx
      refine r_aload_n dX12_restart_19 rfl rfl ?_
      refine r_getA 43 fX12_305 (by decide) (by decide) dX12_restart_20 ?_
      refine r_iload_n dX12_restart_23 rfl rfl ?_
      refine r_iconst (v := nI 1) dX12_restart_24 (by decide) ?_
      refine r_zast hG rfl (by decide) (by decide) dX12_restart_25 ok.1 ?_
      have ok := ok.2
      refine r_aload_n dX12_restart_26 rfl rfl ?_
      refine r_iload_n dX12_restart_27 rfl rfl ?_
      refine r_V1v (y' := mX12_notBeen) dX12_restart_28 lX12_569 kX12_notBeen ⟨by decide, by decide⟩ rfl (Nat.le_of_ble_eq_true rfl) (rc_X12_notBeen hG ok.1) (fun S_28 h_28 => ?_)
      subst h_28
      have ok := ok.2
      exact rX.cutz (b_restart_31 hG hR ok hx) ⟨rfl, rfl, trivial⟩
    · have ok := ok.2 c_14
      have hx := xif_n c_14 hx
      exact rX.cutz (b_restart_17 hG hR ok hx) trivial
def f_restart (N : Nat) (S : rS) (x1 : Int32) : Int32 × rS := F_restart_0 N x1 S
def o_restart (N : Nat) (S : rS) (x1 : Int32) : Prop := O_restart_0 N x1 S
set_option maxHeartbeats 4000000 in
theorem rc_X12_restart {G : zG} {E : rE} {S : rS} {N : Nat} (hG : zOK G) {x1 : Int32} (ok : o_restart N S x1) : rCi G E dX12_restart mX12_restart [.ref E.1, .int x1] S (fun v S' => v = (f_restart N S x1).1 ∧ S' = (f_restart N S x1).2) := by
  refine rC.ofX rfl (Nat.le_of_ble_eq_true rfl) ?_
  show rX G E dX12_restart mX12_restart 0 [some (.ref E.1), some (.int x1), none] [] S _
  exact rX.cutz (b_restart_0 (X := fun F => F = f_restart N S x1) hG (fun v S' h => ⟨v, rfl, by rw [← h], by rw [← h]⟩) ok rfl) ⟨rfl, rfl, trivial⟩

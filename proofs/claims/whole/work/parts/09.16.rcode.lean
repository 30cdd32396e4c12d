/-! isSameSnap -/
def F_isSameSnap_74 (N : Nat) (x3 : Int32) (S : rS) : Int32 := x3
def O_isSameSnap_74 (N : Nat) (x3 : Int32) (S : rS) : Prop := narrow .boolean (.int x3) = .int x3
set_option maxHeartbeats 4000000 in
theorem b_isSameSnap_74 {G : zG} {E : rE} {S : rS} {N : Nat} {Q : Option Value → rS → Prop} {X : Int32 → Prop} (hG : zOK G) (hR : ∀ v, X v → Q (some (.int v)) S) {x3 : Int32} (ok : O_isSameSnap_74 N x3 S) (hx : X (F_isSameSnap_74 N x3 S)) : rX G E dX12_isSameSnap mX12_isSameSnap 74 [none, none, none, some (.int x3), none] [] S Q := by
  unfold O_isSameSnap_74 at ok
  unfold F_isSameSnap_74 at hx
  refine r_iload_n dX12_isSameSnap_74 rfl rfl ?_
  exact r_ireturn rfl ok dX12_isSameSnap_75 (hR _ hx)
def F_isSameSnap_67 (N : Nat) (rec : Int32 → Int32 → Int32 → Int32 → Nat × Int32 × Unit) (x1 : Int32) (x2 : Int32) (x4 : Int32) (s0 : Int32) (S : rS) : Nat × Int32 × Unit := (rec x1 x2 s0 (x4 + nI 1))
def O_isSameSnap_67 (N : Nat) (rok : Int32 → Int32 → Int32 → Int32 → Prop) (x1 : Int32) (x2 : Int32) (x4 : Int32) (s0 : Int32) (S : rS) : Prop := rok x1 x2 s0 (x4 + nI 1)
set_option maxHeartbeats 4000000 in
theorem b_isSameSnap_67 {G : zG} {E : rE} {S : rS} {N : Nat} {Q : Option Value → rS → Prop} {X : Nat × Int32 × Unit → Prop} (hG : zOK G) (hX0 : ∀ (x3 : Int32) , X (0, x3, ()) → rX G E dX12_isSameSnap mX12_isSameSnap 74 [none, none, none, some (.int x3), none] [] S Q) {rec : Int32 → Int32 → Int32 → Int32 → Nat × Int32 × Unit} {rok : Int32 → Int32 → Int32 → Int32 → Prop} (hrec : ∀ (x1 : Int32) (x2 : Int32) (x3 : Int32) (x4 : Int32), rok x1 x2 x3 x4 → X (rec x1 x2 x3 x4) → rX G E dX12_isSameSnap mX12_isSameSnap 24 [some (.ref E.1), some (.int x1), some (.int x2), some (.int x3), some (.int x4)] [] S Q) {x1 : Int32} {x2 : Int32} {x4 : Int32} {s0 : Int32} (ok : O_isSameSnap_67 N rok x1 x2 x4 s0 S) (hx : X (F_isSameSnap_67 N rec x1 x2 x4 s0 S)) : rX G E dX12_isSameSnap mX12_isSameSnap 67 [some (.ref E.1), some (.int x1), some (.int x2), none, some (.int x4)] [.int s0] S Q := by
  unfold O_isSameSnap_67 at ok
  unfold F_isSameSnap_67 at hx
  refine r_istore_3 dX12_isSameSnap_67 (by decide) rfl ?_
  refine r_iinc_4 (v := (x4 + nI 1)) dX12_isSameSnap_68 rfl (by first | rfl | (congr 1)) (by decide) rfl ?_
  refine r_goto (tgt := 24) dX12_isSameSnap_71 (by decide) ?_
  exact rX.cutz (hrec _ _ _ _ ok hx) ⟨rfl, rfl, rfl, rfl, rfl, trivial⟩
def B_isSameSnap_24 (N : Nat) (rec : Int32 → Int32 → Int32 → Int32 → Nat × Int32 × Unit) (x1 : Int32) (x2 : Int32) (x3 : Int32) (x4 : Int32) (S : rS) : Nat × Int32 × Unit := (if (nI 115) ≤ x4 then (0, x3, ()) else (if x3 = 0 then (0, x3, ()) else (if (S.2.1 58 (((nI 115) * x1) + x4).toNatClampNeg) = (S.2.1 58 (((nI 115) * x2) + x4).toNatClampNeg) then (F_isSameSnap_67 N rec x1 x2 x4 (nI 1) S) else (F_isSameSnap_67 N rec x1 x2 x4 (nI 0) S))))
def OB_isSameSnap_24 (N : Nat) (rok : Int32 → Int32 → Int32 → Int32 → Prop) (x1 : Int32) (x2 : Int32) (x3 : Int32) (x4 : Int32) (S : rS) : Prop := (((nI 115) ≤ x4 → True) ∧ (¬ (nI 115) ≤ x4 → ((x3 = 0 → True) ∧ (¬ x3 = 0 → (vp_in (((nI 115) * x1) + x4) 19440) ∧ (vp_in (((nI 115) * x2) + x4) 19440) ∧ (((S.2.1 58 (((nI 115) * x1) + x4).toNatClampNeg) = (S.2.1 58 (((nI 115) * x2) + x4).toNatClampNeg) → O_isSameSnap_67 N rok x1 x2 x4 (nI 1) S) ∧ (¬ (S.2.1 58 (((nI 115) * x1) + x4).toNatClampNeg) = (S.2.1 58 (((nI 115) * x2) + x4).toNatClampNeg) → O_isSameSnap_67 N rok x1 x2 x4 (nI 0) S))))))
set_option maxHeartbeats 4000000 in
theorem bb_isSameSnap_24 {G : zG} {E : rE} {S : rS} {N : Nat} {Q : Option Value → rS → Prop} {X : Nat × Int32 × Unit → Prop} (hG : zOK G) (hX0 : ∀ (x3 : Int32) , X (0, x3, ()) → rX G E dX12_isSameSnap mX12_isSameSnap 74 [none, none, none, some (.int x3), none] [] S Q) {rec : Int32 → Int32 → Int32 → Int32 → Nat × Int32 × Unit} {rok : Int32 → Int32 → Int32 → Int32 → Prop} (hrec : ∀ (x1 : Int32) (x2 : Int32) (x3 : Int32) (x4 : Int32), rok x1 x2 x3 x4 → X (rec x1 x2 x3 x4) → rX G E dX12_isSameSnap mX12_isSameSnap 24 [some (.ref E.1), some (.int x1), some (.int x2), some (.int x3), some (.int x4)] [] S Q) {x1 : Int32} {x2 : Int32} {x3 : Int32} {x4 : Int32} (ok : OB_isSameSnap_24 N rok x1 x2 x3 x4 S) (hx : X (B_isSameSnap_24 N rec x1 x2 x3 x4 S)) : rX G E dX12_isSameSnap mX12_isSameSnap 24 [some (.ref E.1), some (.int x1), some (.int x2), some (.int x3), some (.int x4)] [] S Q := by
  unfold OB_isSameSnap_24 at ok
  unfold B_isSameSnap_24 at hx
  refine r_iload dX12_isSameSnap_24 rfl ?_
  refine r_bipush (v := nI 115) dX12_isSameSnap_26 (by decide) ?_
  refine r_icmp_ge (tgt := 74) dX12_isSameSnap_28 (by decide) (fun c_28 => ?_) (fun c_28 => ?_)
  · have ok := ok.1 c_28
    have hx := xif_p c_28 hx
    exact rX.cutz (hX0 _  hx) ⟨rfl, trivial⟩
  · have ok := ok.2 c_28
    have hx := xif_n c_28 hx
    refine r_iload_n dX12_isSameSnap_31 rfl rfl ?_
    refine r_if_eq (tgt := 74) dX12_isSameSnap_32 (by decide) (fun c_32 => ?_) (fun c_32 => ?_)
    · have ok := ok.1 c_32
      have hx := xif_p c_32 hx
      exact rX.cutz (hX0 _  hx) ⟨rfl, trivial⟩
    · have ok := ok.2 c_32
      have hx := xif_n c_32 hx
      refine r_aload_n dX12_isSameSnap_35 rfl rfl ?_
      refine r_getA 58 fX12_351 (by decide) (by decide) dX12_isSameSnap_36 ?_
      refine r_bipush (v := nI 115) dX12_isSameSnap_39 (by decide) ?_
      refine r_iload_n dX12_isSameSnap_41 rfl rfl ?_
      refine r_imul dX12_isSameSnap_42 ?_
      refine r_iload dX12_isSameSnap_43 rfl ?_
      refine r_iadd dX12_isSameSnap_45 ?_
      refine r_iald (by decide) (by decide) dX12_isSameSnap_46 ok.1 ?_
      have ok := ok.2
      refine r_aload_n dX12_isSameSnap_47 rfl rfl ?_
      refine r_getA 58 fX12_351 (by decide) (by decide) dX12_isSameSnap_48 ?_
      refine r_bipush (v := nI 115) dX12_isSameSnap_51 (by decide) ?_
      refine r_iload_n dX12_isSameSnap_53 rfl rfl ?_
      refine r_imul dX12_isSameSnap_54 ?_
      refine r_iload dX12_isSameSnap_55 rfl ?_
      refine r_iadd dX12_isSameSnap_57 ?_
      refine r_iald (by decide) (by decide) dX12_isSameSnap_58 ok.1 ?_
      have ok := ok.2
      refine r_icmp_ne (tgt := 66) dX12_isSameSnap_59 (by decide) (fun c_59 => ?_) (fun c_59 => ?_)
      · have ok := ok.2 c_59
        have hx := xif_n c_59 hx
        refine r_iconst (v := nI 0) dX12_isSameSnap_66 (by decide) ?_
        exact rX.cutz (b_isSameSnap_67 hG hX0 hrec ok hx) ⟨rfl, rfl, rfl, rfl, trivial⟩
      · have ok := ok.1 c_59
        have hx := xif_p c_59 hx
        refine r_iconst (v := nI 1) dX12_isSameSnap_62 (by decide) ?_
        refine r_goto (tgt := 67) dX12_isSameSnap_63 (by decide) ?_
        exact rX.cutz (b_isSameSnap_67 hG hX0 hrec ok hx) ⟨rfl, rfl, rfl, rfl, trivial⟩
def L_isSameSnap_24 (N : Nat) : Nat → Int32 → Int32 → Int32 → Int32 → rS → Nat × Int32 × Unit
  | 0, x1, x2, x3, x4, S => (0, 0, ())
  | n + 1, x1, x2, x3, x4, S => B_isSameSnap_24 N (fun x1 x2 x3 x4 => L_isSameSnap_24 N n x1 x2 x3 x4 S) x1 x2 x3 x4 S
def OL_isSameSnap_24 (N : Nat) : Nat → Int32 → Int32 → Int32 → Int32 → rS → Prop
  | 0, _, _, _, _, _ => False
  | n + 1, x1, x2, x3, x4, S => OB_isSameSnap_24 N (fun x1 x2 x3 x4 => OL_isSameSnap_24 N n x1 x2 x3 x4 S) x1 x2 x3 x4 S
set_option maxHeartbeats 4000000 in
theorem l_isSameSnap_24 {G : zG} {E : rE} {S : rS} {N : Nat} {Q : Option Value → rS → Prop} {X : Nat × Int32 × Unit → Prop} (hG : zOK G) (hX0 : ∀ (x3 : Int32) , X (0, x3, ()) → rX G E dX12_isSameSnap mX12_isSameSnap 74 [none, none, none, some (.int x3), none] [] S Q) : ∀ (n : Nat) (x1 : Int32) (x2 : Int32) (x3 : Int32) (x4 : Int32) , OL_isSameSnap_24 N n x1 x2 x3 x4 S → X (L_isSameSnap_24 N n x1 x2 x3 x4 S) → rX G E dX12_isSameSnap mX12_isSameSnap 24 [some (.ref E.1), some (.int x1), some (.int x2), some (.int x3), some (.int x4)] [] S Q := by
  intro n
  induction n with
  | zero => intro x1 x2 x3 x4 ok; exact absurd ok id
  | succ n ih =>
    intro x1 x2 x3 x4 ok hx
    exact bb_isSameSnap_24 hG hX0 (rec := fun x1 x2 x3 x4 => L_isSameSnap_24 N n x1 x2 x3 x4 S) (rok := fun x1 x2 x3 x4 => OL_isSameSnap_24 N n x1 x2 x3 x4 S) (fun x1 x2 x3 x4 ok hx => ih x1 x2 x3 x4 ok hx) ok hx
def A_isSameSnap_24 (N : Nat) (x1 : Int32) (x2 : Int32) (x3 : Int32) (x4 : Int32) (S : rS) (z : Nat × Int32 × Unit) : Int32 := (F_isSameSnap_74 N (z.2.1) S)
def OA_isSameSnap_24 (N : Nat) (x1 : Int32) (x2 : Int32) (x3 : Int32) (x4 : Int32) (S : rS) (z : Nat × Int32 × Unit) : Prop := O_isSameSnap_74 N (z.2.1) S
set_option maxHeartbeats 4000000 in
theorem c_isSameSnap_24 {G : zG} {E : rE} {S : rS} {N : Nat} {Q : Option Value → rS → Prop} {X : Int32 → Prop} (hG : zOK G) (hR : ∀ v, X v → Q (some (.int v)) S) {x1 : Int32} {x2 : Int32} {x3 : Int32} {x4 : Int32} (ok : OL_isSameSnap_24 N N x1 x2 x3 x4 S ∧ OA_isSameSnap_24 N x1 x2 x3 x4 S (L_isSameSnap_24 N N x1 x2 x3 x4 S)) (hx : X (A_isSameSnap_24 N x1 x2 x3 x4 S (L_isSameSnap_24 N N x1 x2 x3 x4 S))) : rX G E dX12_isSameSnap mX12_isSameSnap 24 [some (.ref E.1), some (.int x1), some (.int x2), some (.int x3), some (.int x4)] [] S Q := by
  refine l_isSameSnap_24 hG ?_ N x1 x2 x3 x4 ok.1 (X := fun z => OA_isSameSnap_24 N x1 x2 x3 x4 S z ∧ X (A_isSameSnap_24 N x1 x2 x3 x4 S z)) ⟨ok.2, hx⟩
  · intro x3' hz
    obtain ⟨ok, hx⟩ := hz
    unfold OA_isSameSnap_24 at ok
    unfold A_isSameSnap_24 at hx
    exact rX.cutz (b_isSameSnap_74 hG hR ok hx) ⟨rfl, trivial⟩
def F_isSameSnap_20 (N : Nat) (x1 : Int32) (x2 : Int32) (s0 : Int32) (S : rS) : Int32 := (A_isSameSnap_24 N x1 x2 s0 (nI 0) S (L_isSameSnap_24 N N x1 x2 s0 (nI 0) S))
def O_isSameSnap_20 (N : Nat) (x1 : Int32) (x2 : Int32) (s0 : Int32) (S : rS) : Prop := (OL_isSameSnap_24 N N x1 x2 s0 (nI 0) S ∧ OA_isSameSnap_24 N x1 x2 s0 (nI 0) S (L_isSameSnap_24 N N x1 x2 s0 (nI 0) S))
set_option maxHeartbeats 4000000 in
theorem b_isSameSnap_20 {G : zG} {E : rE} {S : rS} {N : Nat} {Q : Option Value → rS → Prop} {X : Int32 → Prop} (hG : zOK G) (hR : ∀ v, X v → Q (some (.int v)) S) {x1 : Int32} {x2 : Int32} {s0 : Int32} (ok : O_isSameSnap_20 N x1 x2 s0 S) (hx : X (F_isSameSnap_20 N x1 x2 s0 S)) : rX G E dX12_isSameSnap mX12_isSameSnap 20 [some (.ref E.1), some (.int x1), some (.int x2), none, none] [.int s0] S Q := by
  unfold O_isSameSnap_20 at ok
  unfold F_isSameSnap_20 at hx
  refine r_istore_3 dX12_isSameSnap_20 (by decide) rfl ?_
  refine r_iconst (v := nI 0) dX12_isSameSnap_21 (by decide) ?_
  refine r_istore_4 dX12_isSameSnap_22 (by decide) rfl ?_
  exact rX.cutz (c_isSameSnap_24 hG hR ok hx) ⟨rfl, rfl, rfl, rfl, rfl, trivial⟩
def F_isSameSnap_0 (N : Nat) (x1 : Int32) (x2 : Int32) (S : rS) : Int32 := (if (S.2.1 57 x1.toNatClampNeg) = (S.2.1 57 x2.toNatClampNeg) then (F_isSameSnap_20 N x1 x2 (nI 1) S) else (F_isSameSnap_20 N x1 x2 (nI 0) S))
def O_isSameSnap_0 (N : Nat) (x1 : Int32) (x2 : Int32) (S : rS) : Prop := (vp_in x1 169) ∧ (vp_in x2 169) ∧ (((S.2.1 57 x1.toNatClampNeg) = (S.2.1 57 x2.toNatClampNeg) → O_isSameSnap_20 N x1 x2 (nI 1) S) ∧ (¬ (S.2.1 57 x1.toNatClampNeg) = (S.2.1 57 x2.toNatClampNeg) → O_isSameSnap_20 N x1 x2 (nI 0) S))
set_option maxHeartbeats 4000000 in
theorem b_isSameSnap_0 {G : zG} {E : rE} {S : rS} {N : Nat} {Q : Option Value → rS → Prop} {X : Int32 → Prop} (hG : zOK G) (hR : ∀ v, X v → Q (some (.int v)) S) {x1 : Int32} {x2 : Int32} (ok : O_isSameSnap_0 N x1 x2 S) (hx : X (F_isSameSnap_0 N x1 x2 S)) : rX G E dX12_isSameSnap mX12_isSameSnap 0 [some (.ref E.1), some (.int x1), some (.int x2), none, none] [] S Q := by
  unfold O_isSameSnap_0 at ok
  unfold F_isSameSnap_0 at hx
  refine r_aload_n dX12_isSameSnap_0 rfl rfl ?_
  refine r_getA 57 fX12_348 (by decide) (by decide) dX12_isSameSnap_1 ?_
  refine r_iload_n dX12_isSameSnap_4 rfl rfl ?_
  refine r_iald (by decide) (by decide) dX12_isSameSnap_5 ok.1 ?_
  have ok := ok.2
  refine r_aload_n dX12_isSameSnap_6 rfl rfl ?_
  refine r_getA 57 fX12_348 (by decide) (by decide) dX12_isSameSnap_7 ?_
  refine r_iload_n dX12_isSameSnap_10 rfl rfl ?_
  refine r_iald (by decide) (by decide) dX12_isSameSnap_11 ok.1 ?_
  have ok := ok.2
  refine r_icmp_ne (tgt := 19) dX12_isSameSnap_12 (by decide) (fun c_12 => ?_) (fun c_12 => ?_)
  · have ok := ok.2 c_12
    have hx := xif_n c_12 hx
    refine r_iconst (v := nI 0) dX12_isSameSnap_19 (by decide) ?_
    exact rX.cutz (b_isSameSnap_20 hG hR ok hx) ⟨rfl, rfl, rfl, trivial⟩
  · have ok := ok.1 c_12
    have hx := xif_p c_12 hx
    refine r_iconst (v := nI 1) dX12_isSameSnap_15 (by decide) ?_
    refine r_goto (tgt := 20) dX12_isSameSnap_16 (by decide) ?_
    exact rX.cutz (b_isSameSnap_20 hG hR ok hx) ⟨rfl, rfl, rfl, trivial⟩
def f_isSameSnap (N : Nat) (S : rS) (x1 : Int32) (x2 : Int32) : Int32 := F_isSameSnap_0 N x1 x2 S
def o_isSameSnap (N : Nat) (S : rS) (x1 : Int32) (x2 : Int32) : Prop := O_isSameSnap_0 N x1 x2 S
set_option maxHeartbeats 4000000 in
theorem rc_X12_isSameSnap {G : zG} {E : rE} {S : rS} {N : Nat} (hG : zOK G) {x1 : Int32} {x2 : Int32} (ok : o_isSameSnap N S x1 x2) : rCi G E dX12_isSameSnap mX12_isSameSnap [.ref E.1, .int x1, .int x2] S (fun v S' => v = f_isSameSnap N S x1 x2 ∧ S' = S) := by
  refine rC.ofX rfl (Nat.le_of_ble_eq_true rfl) ?_
  show rX G E dX12_isSameSnap mX12_isSameSnap 0 [some (.ref E.1), some (.int x1), some (.int x2), none, none] [] S _
  exact rX.cutz (b_isSameSnap_0 (X := fun F => F = f_isSameSnap N S x1 x2) hG (fun v h => ⟨v, rfl, h, rfl⟩) ok rfl) ⟨rfl, rfl, rfl, trivial⟩
/-! snapshot -/
def F_snapshot_99 (N : Nat)  (S : rS) : Int32 := (-1)
def O_snapshot_99 (N : Nat)  (S : rS) : Prop := True
set_option maxHeartbeats 4000000 in
theorem b_snapshot_99 {G : zG} {E : rE} {S : rS} {N : Nat} {Q : Option Value → rS → Prop} {X : Int32 → Prop} (hG : zOK G) (hR : ∀ v, X v → Q (some (.int v)) S) (ok : O_snapshot_99 N S) (hx : X (F_snapshot_99 N S)) : rX G E dX12_snapshot mX12_snapshot 99 [none, none, none, none, none, none] [] S Q := by
  unfold O_snapshot_99 at ok
  unfold F_snapshot_99 at hx
  refine r_iconst (v := -1) dX12_snapshot_99 (by decide) ?_
  exact r_ireturn rfl rfl dX12_snapshot_100 (hR _ hx)
def F_snapshot_93 (N : Nat) (rec : Int32 → Int32 → Nat × Int32 × Unit) (x1 : Int32) (x2 : Int32) (S : rS) : Nat × Int32 × Unit := (rec x1 (x2 + nI 1))
def O_snapshot_93 (N : Nat) (rok : Int32 → Int32 → Prop) (x1 : Int32) (x2 : Int32) (S : rS) : Prop := rok x1 (x2 + nI 1)
set_option maxHeartbeats 4000000 in
theorem b_snapshot_93 {G : zG} {E : rE} {S : rS} {N : Nat} {Q : Option Value → rS → Prop} {X : Nat × Int32 × Unit → Prop} (hG : zOK G) (hX0 : ∀ (x3 : Int32) , X (0, x3, ()) → rX G E dX12_snapshot mX12_snapshot 91 [none, none, none, some (.int x3), none, none] [] S Q) (hX1 : ∀ (x3 : Int32) , X (1, x3, ()) → rX G E dX12_snapshot mX12_snapshot 99 [none, none, none, none, none, none] [] S Q) {rec : Int32 → Int32 → Nat × Int32 × Unit} {rok : Int32 → Int32 → Prop} (hrec : ∀ (x1 : Int32) (x2 : Int32), rok x1 x2 → X (rec x1 x2) → rX G E dX12_snapshot mX12_snapshot 2 [some (.ref E.1), some (.int x1), some (.int x2), none, none, none] [] S Q) {x1 : Int32} {x2 : Int32} (ok : O_snapshot_93 N rok x1 x2 S) (hx : X (F_snapshot_93 N rec x1 x2 S)) : rX G E dX12_snapshot mX12_snapshot 93 [some (.ref E.1), some (.int x1), some (.int x2), none, none, none] [] S Q := by
  unfold O_snapshot_93 at ok
  unfold F_snapshot_93 at hx
  refine r_iinc_2 (v := (x2 + nI 1)) dX12_snapshot_93 rfl (by first | rfl | (congr 1)) (by decide) rfl ?_
  refine r_goto (tgt := 2) dX12_snapshot_96 (by decide) ?_
  exact rX.cutz (hrec _ _ ok hx) ⟨rfl, rfl, rfl, trivial⟩
def F_snapshot_91 (N : Nat) (x3 : Int32) (S : rS) : Int32 := x3
def O_snapshot_91 (N : Nat) (x3 : Int32) (S : rS) : Prop := True
set_option maxHeartbeats 4000000 in
theorem b_snapshot_91 {G : zG} {E : rE} {S : rS} {N : Nat} {Q : Option Value → rS → Prop} {X : Int32 → Prop} (hG : zOK G) (hR : ∀ v, X v → Q (some (.int v)) S) {x3 : Int32} (ok : O_snapshot_91 N x3 S) (hx : X (F_snapshot_91 N x3 S)) : rX G E dX12_snapshot mX12_snapshot 91 [none, none, none, some (.int x3), none, none] [] S Q := by
  unfold O_snapshot_91 at ok
  unfold F_snapshot_91 at hx
  refine r_iload_n dX12_snapshot_91 rfl rfl ?_
  exact r_ireturn rfl rfl dX12_snapshot_92 (hR _ hx)
def F_snapshot_82 (N : Nat) (rec : Int32 → Int32 → Nat × Int32 × Unit) (x1 : Int32) (x2 : Int32) (x3 : Int32) (x4 : Int32) (S : rS) : Nat × Int32 × Unit := (if x4 ≤ (S.1 1) then (F_snapshot_93 N rec x1 x2 S) else (0, x3, ()))
def O_snapshot_82 (N : Nat) (rok : Int32 → Int32 → Prop) (x1 : Int32) (x2 : Int32) (x3 : Int32) (x4 : Int32) (S : rS) : Prop := ((x4 ≤ (S.1 1) → O_snapshot_93 N rok x1 x2 S) ∧ (¬ x4 ≤ (S.1 1) → True))
set_option maxHeartbeats 4000000 in
theorem b_snapshot_82 {G : zG} {E : rE} {S : rS} {N : Nat} {Q : Option Value → rS → Prop} {X : Nat × Int32 × Unit → Prop} (hG : zOK G) (hX0 : ∀ (x3 : Int32) , X (0, x3, ()) → rX G E dX12_snapshot mX12_snapshot 91 [none, none, none, some (.int x3), none, none] [] S Q) (hX1 : ∀ (x3 : Int32) , X (1, x3, ()) → rX G E dX12_snapshot mX12_snapshot 99 [none, none, none, none, none, none] [] S Q) {rec : Int32 → Int32 → Nat × Int32 × Unit} {rok : Int32 → Int32 → Prop} (hrec : ∀ (x1 : Int32) (x2 : Int32), rok x1 x2 → X (rec x1 x2) → rX G E dX12_snapshot mX12_snapshot 2 [some (.ref E.1), some (.int x1), some (.int x2), none, none, none] [] S Q) {x1 : Int32} {x2 : Int32} {x3 : Int32} {x4 : Int32} (ok : O_snapshot_82 N rok x1 x2 x3 x4 S) (hx : X (F_snapshot_82 N rec x1 x2 x3 x4 S)) : rX G E dX12_snapshot mX12_snapshot 82 [some (.ref E.1), some (.int x1), some (.int x2), some (.int x3), some (.int x4), none] [] S Q := by
  unfold O_snapshot_82 at ok
  unfold F_snapshot_82 at hx
  refine r_iload dX12_snapshot_82 rfl ?_
  refine r_aload_n dX12_snapshot_84 rfl rfl ?_
  refine r_getI 1 fX12_442 (by decide) (by decide) dX12_snapshot_85 ?_
  refine r_icmp_le (tgt := 93) dX12_snapshot_88 (by decide) (fun c_88 => ?_) (fun c_88 => ?_)
  · have ok := ok.1 c_88
    have hx := xif_p c_88 hx
    exact rX.cutz (b_snapshot_93 hG hX0 hX1 hrec ok hx) ⟨rfl, rfl, rfl, trivial⟩
  · have ok := ok.2 c_88
    have hx := xif_n c_88 hx
    exact rX.cutz (hX0 _  hx) ⟨rfl, trivial⟩
def F_snapshot_74 (N : Nat) (rec : Int32 → Int32 → Int32 → Int32 → Int32 → Nat × Int32 × Int32 × Int32 × Int32 × Unit) (x1 : Int32) (x2 : Int32) (x3 : Int32) (x5 : Int32) (s0 : Int32) (S : rS) : Nat × Int32 × Int32 × Int32 × Int32 × Unit := (rec x1 x2 x3 s0 (x5 + nI 1))
def O_snapshot_74 (N : Nat) (rok : Int32 → Int32 → Int32 → Int32 → Int32 → Prop) (x1 : Int32) (x2 : Int32) (x3 : Int32) (x5 : Int32) (s0 : Int32) (S : rS) : Prop := rok x1 x2 x3 s0 (x5 + nI 1)
set_option maxHeartbeats 4000000 in
theorem b_snapshot_74 {G : zG} {E : rE} {S : rS} {N : Nat} {Q : Option Value → rS → Prop} {X : Nat × Int32 × Int32 × Int32 × Int32 × Unit → Prop} (hG : zOK G) (hX0 : ∀ (x1 : Int32) (x2 : Int32) (x3 : Int32) (x4 : Int32) , X (0, x1, x2, x3, x4, ()) → rX G E dX12_snapshot mX12_snapshot 82 [some (.ref E.1), some (.int x1), some (.int x2), some (.int x3), some (.int x4), none] [] S Q) {rec : Int32 → Int32 → Int32 → Int32 → Int32 → Nat × Int32 × Int32 × Int32 × Int32 × Unit} {rok : Int32 → Int32 → Int32 → Int32 → Int32 → Prop} (hrec : ∀ (x1 : Int32) (x2 : Int32) (x3 : Int32) (x4 : Int32) (x5 : Int32), rok x1 x2 x3 x4 x5 → X (rec x1 x2 x3 x4 x5) → rX G E dX12_snapshot mX12_snapshot 41 [some (.ref E.1), some (.int x1), some (.int x2), some (.int x3), some (.int x4), some (.int x5)] [] S Q) {x1 : Int32} {x2 : Int32} {x3 : Int32} {x5 : Int32} {s0 : Int32} (ok : O_snapshot_74 N rok x1 x2 x3 x5 s0 S) (hx : X (F_snapshot_74 N rec x1 x2 x3 x5 s0 S)) : rX G E dX12_snapshot mX12_snapshot 74 [some (.ref E.1), some (.int x1), some (.int x2), some (.int x3), none, some (.int x5)] [.int s0] S Q := by
  unfold O_snapshot_74 at ok
  unfold F_snapshot_74 at hx
  refine r_istore_4 dX12_snapshot_74 (by decide) rfl ?_
  refine r_iinc_5 (v := (x5 + nI 1)) dX12_snapshot_76 rfl (by first | rfl | (congr 1)) (by decide) rfl ?_
  refine r_goto (tgt := 41) dX12_snapshot_79 (by decide) ?_
  exact rX.cutz (hrec _ _ _ _ _ ok hx) ⟨rfl, rfl, rfl, rfl, rfl, rfl, trivial⟩
def B_snapshot_41 (N : Nat) (rec : Int32 → Int32 → Int32 → Int32 → Int32 → Nat × Int32 × Int32 × Int32 × Int32 × Unit) (x1 : Int32) (x2 : Int32) (x3 : Int32) (x4 : Int32) (x5 : Int32) (S : rS) : Nat × Int32 × Int32 × Int32 × Int32 × Unit := (if (S.1 0) ≤ x5 then (0, x1, x2, x3, x4, ()) else (if (f_isSameSnap N S x3 (((nI 13) * x1) + x5)) = 0 then (F_snapshot_74 N rec x1 x2 x3 x5 x4 S) else (F_snapshot_74 N rec x1 x2 x3 x5 (x4 + (nI 1)) S)))
def OB_snapshot_41 (N : Nat) (rok : Int32 → Int32 → Int32 → Int32 → Int32 → Prop) (x1 : Int32) (x2 : Int32) (x3 : Int32) (x4 : Int32) (x5 : Int32) (S : rS) : Prop := (((S.1 0) ≤ x5 → True) ∧ (¬ (S.1 0) ≤ x5 → (o_isSameSnap N S x3 (((nI 13) * x1) + x5)) ∧ (((f_isSameSnap N S x3 (((nI 13) * x1) + x5)) = 0 → O_snapshot_74 N rok x1 x2 x3 x5 x4 S) ∧ (¬ (f_isSameSnap N S x3 (((nI 13) * x1) + x5)) = 0 → O_snapshot_74 N rok x1 x2 x3 x5 (x4 + (nI 1)) S))))
set_option maxHeartbeats 4000000 in
theorem bb_snapshot_41 {G : zG} {E : rE} {S : rS} {N : Nat} {Q : Option Value → rS → Prop} {X : Nat × Int32 × Int32 × Int32 × Int32 × Unit → Prop} (hG : zOK G) (hX0 : ∀ (x1 : Int32) (x2 : Int32) (x3 : Int32) (x4 : Int32) , X (0, x1, x2, x3, x4, ()) → rX G E dX12_snapshot mX12_snapshot 82 [some (.ref E.1), some (.int x1), some (.int x2), some (.int x3), some (.int x4), none] [] S Q) {rec : Int32 → Int32 → Int32 → Int32 → Int32 → Nat × Int32 × Int32 × Int32 × Int32 × Unit} {rok : Int32 → Int32 → Int32 → Int32 → Int32 → Prop} (hrec : ∀ (x1 : Int32) (x2 : Int32) (x3 : Int32) (x4 : Int32) (x5 : Int32), rok x1 x2 x3 x4 x5 → X (rec x1 x2 x3 x4 x5) → rX G E dX12_snapshot mX12_snapshot 41 [some (.ref E.1), some (.int x1), some (.int x2), some (.int x3), some (.int x4), some (.int x5)] [] S Q) {x1 : Int32} {x2 : Int32} {x3 : Int32} {x4 : Int32} {x5 : Int32} (ok : OB_snapshot_41 N rok x1 x2 x3 x4 x5 S) (hx : X (B_snapshot_41 N rec x1 x2 x3 x4 x5 S)) : rX G E dX12_snapshot mX12_snapshot 41 [some (.ref E.1), some (.int x1), some (.int x2), some (.int x3), some (.int x4), some (.int x5)] [] S Q := by
  unfold OB_snapshot_41 at ok
  unfold B_snapshot_41 at hx
  refine r_iload dX12_snapshot_41 rfl ?_
  refine r_aload_n dX12_snapshot_43 rfl rfl ?_
  refine r_getI 0 fX12_219 (by decide) (by decide) dX12_snapshot_44 ?_
  refine r_icmp_ge (tgt := 82) dX12_snapshot_47 (by decide) (fun c_47 => ?_) (fun c_47 => ?_)
  · have ok := ok.1 c_47
    have hx := xif_p c_47 hx
    exact rX.cutz (hX0 _ _ _ _  hx) ⟨rfl, rfl, rfl, rfl, rfl, trivial⟩
  · have ok := ok.2 c_47
    have hx := xif_n c_47 hx
    refine r_aload_n dX12_snapshot_50 rfl rfl ?_
    refine r_iload_n dX12_snapshot_51 rfl rfl ?_
    refine r_bipush (v := nI 13) dX12_snapshot_52 (by decide) ?_
    refine r_iload_n dX12_snapshot_54 rfl rfl ?_
    refine r_imul dX12_snapshot_55 ?_
    refine r_iload dX12_snapshot_56 rfl ?_
    refine r_iadd dX12_snapshot_58 ?_
    refine r_V2i (y' := mX12_isSameSnap) dX12_snapshot_59 lX12_585 kX12_isSameSnap ⟨by decide, by decide⟩ rfl (Nat.le_of_ble_eq_true rfl) (rc_X12_isSameSnap hG ok.1) (fun v_59 S_59 h_59 => ?_)
    obtain ⟨rfl, hS_59⟩ := h_59
    have hS_59 := hS_59.symm
    subst hS_59
    have ok := ok.2
    refine r_if_eq (tgt := 72) dX12_snapshot_62 (by decide) (fun c_62 => ?_) (fun c_62 => ?_)
    · have ok := ok.1 c_62
      have hx := xif_p c_62 hx
      refine r_iload dX12_snapshot_72 rfl ?_
      exact rX.cutz (b_snapshot_74 hG hX0 hrec ok hx) ⟨rfl, rfl, rfl, rfl, rfl, trivial⟩
    · have ok := ok.2 c_62
      have hx := xif_n c_62 hx
      refine r_iload dX12_snapshot_65 rfl ?_
      refine r_iconst (v := nI 1) dX12_snapshot_67 (by decide) ?_
      refine r_iadd dX12_snapshot_68 ?_
      refine r_goto (tgt := 74) dX12_snapshot_69 (by decide) ?_
      exact rX.cutz (b_snapshot_74 hG hX0 hrec ok hx) ⟨rfl, rfl, rfl, rfl, rfl, trivial⟩
def L_snapshot_41 (N : Nat) : Nat → Int32 → Int32 → Int32 → Int32 → Int32 → rS → Nat × Int32 × Int32 × Int32 × Int32 × Unit
  | 0, x1, x2, x3, x4, x5, S => (0, 0, 0, 0, 0, ())
  | n + 1, x1, x2, x3, x4, x5, S => B_snapshot_41 N (fun x1 x2 x3 x4 x5 => L_snapshot_41 N n x1 x2 x3 x4 x5 S) x1 x2 x3 x4 x5 S
def OL_snapshot_41 (N : Nat) : Nat → Int32 → Int32 → Int32 → Int32 → Int32 → rS → Prop
  | 0, _, _, _, _, _, _ => False
  | n + 1, x1, x2, x3, x4, x5, S => OB_snapshot_41 N (fun x1 x2 x3 x4 x5 => OL_snapshot_41 N n x1 x2 x3 x4 x5 S) x1 x2 x3 x4 x5 S
set_option maxHeartbeats 4000000 in
theorem l_snapshot_41 {G : zG} {E : rE} {S : rS} {N : Nat} {Q : Option Value → rS → Prop} {X : Nat × Int32 × Int32 × Int32 × Int32 × Unit → Prop} (hG : zOK G) (hX0 : ∀ (x1 : Int32) (x2 : Int32) (x3 : Int32) (x4 : Int32) , X (0, x1, x2, x3, x4, ()) → rX G E dX12_snapshot mX12_snapshot 82 [some (.ref E.1), some (.int x1), some (.int x2), some (.int x3), some (.int x4), none] [] S Q) : ∀ (n : Nat) (x1 : Int32) (x2 : Int32) (x3 : Int32) (x4 : Int32) (x5 : Int32) , OL_snapshot_41 N n x1 x2 x3 x4 x5 S → X (L_snapshot_41 N n x1 x2 x3 x4 x5 S) → rX G E dX12_snapshot mX12_snapshot 41 [some (.ref E.1), some (.int x1), some (.int x2), some (.int x3), some (.int x4), some (.int x5)] [] S Q := by
  intro n
  induction n with
  | zero => intro x1 x2 x3 x4 x5 ok; exact absurd ok id
  | succ n ih =>
    intro x1 x2 x3 x4 x5 ok hx
    exact bb_snapshot_41 hG hX0 (rec := fun x1 x2 x3 x4 x5 => L_snapshot_41 N n x1 x2 x3 x4 x5 S) (rok := fun x1 x2 x3 x4 x5 => OL_snapshot_41 N n x1 x2 x3 x4 x5 S) (fun x1 x2 x3 x4 x5 ok hx => ih x1 x2 x3 x4 x5 ok hx) ok hx
def A_snapshot_41 (N : Nat) (rec : Int32 → Int32 → Nat × Int32 × Unit) (x1 : Int32) (x2 : Int32) (x3 : Int32) (x4 : Int32) (x5 : Int32) (S : rS) (z : Nat × Int32 × Int32 × Int32 × Int32 × Unit) : Nat × Int32 × Unit := (F_snapshot_82 N rec (z.2.1) (z.2.2.1) (z.2.2.2.1) (z.2.2.2.2.1) S)
def OA_snapshot_41 (N : Nat) (rok : Int32 → Int32 → Prop) (x1 : Int32) (x2 : Int32) (x3 : Int32) (x4 : Int32) (x5 : Int32) (S : rS) (z : Nat × Int32 × Int32 × Int32 × Int32 × Unit) : Prop := O_snapshot_82 N rok (z.2.1) (z.2.2.1) (z.2.2.2.1) (z.2.2.2.2.1) S
set_option maxHeartbeats 4000000 in
theorem c_snapshot_41 {G : zG} {E : rE} {S : rS} {N : Nat} {Q : Option Value → rS → Prop} {X : Nat × Int32 × Unit → Prop} (hG : zOK G) (hX0 : ∀ (x3 : Int32) , X (0, x3, ()) → rX G E dX12_snapshot mX12_snapshot 91 [none, none, none, some (.int x3), none, none] [] S Q) (hX1 : ∀ (x3 : Int32) , X (1, x3, ()) → rX G E dX12_snapshot mX12_snapshot 99 [none, none, none, none, none, none] [] S Q) {rec : Int32 → Int32 → Nat × Int32 × Unit} {rok : Int32 → Int32 → Prop} (hrec : ∀ (x1 : Int32) (x2 : Int32), rok x1 x2 → X (rec x1 x2) → rX G E dX12_snapshot mX12_snapshot 2 [some (.ref E.1), some (.int x1), some (.int x2), none, none, none] [] S Q) {x1 : Int32} {x2 : Int32} {x3 : Int32} {x4 : Int32} {x5 : Int32} (ok : OL_snapshot_41 N N x1 x2 x3 x4 x5 S ∧ OA_snapshot_41 N rok x1 x2 x3 x4 x5 S (L_snapshot_41 N N x1 x2 x3 x4 x5 S)) (hx : X (A_snapshot_41 N rec x1 x2 x3 x4 x5 S (L_snapshot_41 N N x1 x2 x3 x4 x5 S))) : rX G E dX12_snapshot mX12_snapshot 41 [some (.ref E.1), some (.int x1), some (.int x2), some (.int x3), some (.int x4), some (.int x5)] [] S Q := by
  refine l_snapshot_41 hG ?_ N x1 x2 x3 x4 x5 ok.1 (X := fun z => OA_snapshot_41 N rok x1 x2 x3 x4 x5 S z ∧ X (A_snapshot_41 N rec x1 x2 x3 x4 x5 S z)) ⟨ok.2, hx⟩
  · intro x1' x2' x3' x4' hz
    obtain ⟨ok, hx⟩ := hz
    unfold OA_snapshot_41 at ok
    unfold A_snapshot_41 at hx
    exact rX.cutz (b_snapshot_82 hG hX0 hX1 hrec ok hx) ⟨rfl, rfl, rfl, rfl, rfl, trivial⟩
def B_snapshot_2 (N : Nat) (rec : Int32 → Int32 → Nat × Int32 × Unit) (x1 : Int32) (x2 : Int32) (S : rS) : Nat × Int32 × Unit := (if (S.1 0) ≤ x2 then (1, 0, ()) else (if (S.2.1 44 x1.toNatClampNeg) < (S.2.1 57 (((nI 13) * x1) + x2).toNatClampNeg) then (A_snapshot_41 N rec x1 x2 (((nI 13) * x1) + x2) (nI 0) (nI 0) S (L_snapshot_41 N N x1 x2 (((nI 13) * x1) + x2) (nI 0) (nI 0) S)) else (F_snapshot_93 N rec x1 x2 S)))
def OB_snapshot_2 (N : Nat) (rok : Int32 → Int32 → Prop) (x1 : Int32) (x2 : Int32) (S : rS) : Prop := (((S.1 0) ≤ x2 → True) ∧ (¬ (S.1 0) ≤ x2 → (vp_in (((nI 13) * x1) + x2) 169) ∧ (vp_in x1 13) ∧ (((S.2.1 44 x1.toNatClampNeg) < (S.2.1 57 (((nI 13) * x1) + x2).toNatClampNeg) → (OL_snapshot_41 N N x1 x2 (((nI 13) * x1) + x2) (nI 0) (nI 0) S ∧ OA_snapshot_41 N rok x1 x2 (((nI 13) * x1) + x2) (nI 0) (nI 0) S (L_snapshot_41 N N x1 x2 (((nI 13) * x1) + x2) (nI 0) (nI 0) S))) ∧ (¬ (S.2.1 44 x1.toNatClampNeg) < (S.2.1 57 (((nI 13) * x1) + x2).toNatClampNeg) → O_snapshot_93 N rok x1 x2 S))))
set_option maxHeartbeats 4000000 in
theorem bb_snapshot_2 {G : zG} {E : rE} {S : rS} {N : Nat} {Q : Option Value → rS → Prop} {X : Nat × Int32 × Unit → Prop} (hG : zOK G) (hX0 : ∀ (x3 : Int32) , X (0, x3, ()) → rX G E dX12_snapshot mX12_snapshot 91 [none, none, none, some (.int x3), none, none] [] S Q) (hX1 : ∀ (x3 : Int32) , X (1, x3, ()) → rX G E dX12_snapshot mX12_snapshot 99 [none, none, none, none, none, none] [] S Q) {rec : Int32 → Int32 → Nat × Int32 × Unit} {rok : Int32 → Int32 → Prop} (hrec : ∀ (x1 : Int32) (x2 : Int32), rok x1 x2 → X (rec x1 x2) → rX G E dX12_snapshot mX12_snapshot 2 [some (.ref E.1), some (.int x1), some (.int x2), none, none, none] [] S Q) {x1 : Int32} {x2 : Int32} (ok : OB_snapshot_2 N rok x1 x2 S) (hx : X (B_snapshot_2 N rec x1 x2 S)) : rX G E dX12_snapshot mX12_snapshot 2 [some (.ref E.1), some (.int x1), some (.int x2), none, none, none] [] S Q := by
  unfold OB_snapshot_2 at ok
  unfold B_snapshot_2 at hx
  refine r_iload_n dX12_snapshot_2 rfl rfl ?_
  refine r_aload_n dX12_snapshot_3 rfl rfl ?_
  refine r_getI 0 fX12_219 (by decide) (by decide) dX12_snapshot_4 ?_
  refine r_icmp_ge (tgt := 99) dX12_snapshot_7 (by decide) (fun c_7 => ?_) (fun c_7 => ?_)
  · have ok := ok.1 c_7
    have hx := xif_p c_7 hx
    exact rX.cutz (hX1 _  hx) trivial
  · have ok := ok.2 c_7
    have hx := xif_n c_7 hx
    refine r_bipush (v := nI 13) dX12_snapshot_10 (by decide) ?_
    refine r_iload_n dX12_snapshot_12 rfl rfl ?_
    refine r_imul dX12_snapshot_13 ?_
    refine r_iload_n dX12_snapshot_14 rfl rfl ?_
    refine r_iadd dX12_snapshot_15 ?_
    refine r_istore_3 dX12_snapshot_16 (by decide) rfl ?_
    refine r_aload_n dX12_snapshot_17 rfl rfl ?_
    refine r_getA 57 fX12_348 (by decide) (by decide) dX12_snapshot_18 ?_
    refine r_iload_n dX12_snapshot_21 rfl rfl ?_
    refine r_iald (by decide) (by decide) dX12_snapshot_22 ok.1 ?_
    have ok := ok.2
    refine r_aload_n dX12_snapshot_23 rfl rfl ?_
    refine r_getA 44 fX12_309 (by decide) (by decide) dX12_snapshot_24 ?_
    refine r_iload_n dX12_snapshot_27 rfl rfl ?_
    refine r_iald (by decide) (by decide) dX12_snapshot_28 ok.1 ?_
    have ok := ok.2
    refine r_icmp_gt (tgt := 35) dX12_snapshot_29 (by decide) (fun c_29 => ?_) (fun c_29 => ?_)
    · have ok := ok.1 c_29
      have hx := xif_p c_29 hx
      refine r_iconst (v := nI 0) dX12_snapshot_35 (by decide) ?_
      refine r_istore_4 dX12_snapshot_36 (by decide) rfl ?_
      refine r_iconst (v := nI 0) dX12_snapshot_38 (by decide) ?_
      refine r_istore_5 dX12_snapshot_39 (by decide) rfl ?_
      exact rX.cutz (c_snapshot_41 hG hX0 hX1 hrec ok hx) ⟨rfl, rfl, rfl, rfl, rfl, rfl, trivial⟩
    · have ok := ok.2 c_29
      have hx := xif_n c_29 hx
      refine r_goto (tgt := 93) dX12_snapshot_32 (by decide) ?_
      exact rX.cutz (b_snapshot_93 hG hX0 hX1 hrec ok hx) ⟨rfl, rfl, rfl, trivial⟩
def L_snapshot_2 (N : Nat) : Nat → Int32 → Int32 → rS → Nat × Int32 × Unit
  | 0, x1, x2, S => (0, 0, ())
  | n + 1, x1, x2, S => B_snapshot_2 N (fun x1 x2 => L_snapshot_2 N n x1 x2 S) x1 x2 S
def OL_snapshot_2 (N : Nat) : Nat → Int32 → Int32 → rS → Prop
  | 0, _, _, _ => False
  | n + 1, x1, x2, S => OB_snapshot_2 N (fun x1 x2 => OL_snapshot_2 N n x1 x2 S) x1 x2 S
set_option maxHeartbeats 4000000 in
theorem l_snapshot_2 {G : zG} {E : rE} {S : rS} {N : Nat} {Q : Option Value → rS → Prop} {X : Nat × Int32 × Unit → Prop} (hG : zOK G) (hX0 : ∀ (x3 : Int32) , X (0, x3, ()) → rX G E dX12_snapshot mX12_snapshot 91 [none, none, none, some (.int x3), none, none] [] S Q) (hX1 : ∀ (x3 : Int32) , X (1, x3, ()) → rX G E dX12_snapshot mX12_snapshot 99 [none, none, none, none, none, none] [] S Q) : ∀ (n : Nat) (x1 : Int32) (x2 : Int32) , OL_snapshot_2 N n x1 x2 S → X (L_snapshot_2 N n x1 x2 S) → rX G E dX12_snapshot mX12_snapshot 2 [some (.ref E.1), some (.int x1), some (.int x2), none, none, none] [] S Q := by
  intro n
  induction n with
  | zero => intro x1 x2 ok; exact absurd ok id
  | succ n ih =>
    intro x1 x2 ok hx
    exact bb_snapshot_2 hG hX0 hX1 (rec := fun x1 x2 => L_snapshot_2 N n x1 x2 S) (rok := fun x1 x2 => OL_snapshot_2 N n x1 x2 S) (fun x1 x2 ok hx => ih x1 x2 ok hx) ok hx
def A_snapshot_2 (N : Nat) (x1 : Int32) (x2 : Int32) (S : rS) (z : Nat × Int32 × Unit) : Int32 := (if z.1 = 0 then (F_snapshot_91 N (z.2.1) S) else (F_snapshot_99 N S))
def OA_snapshot_2 (N : Nat) (x1 : Int32) (x2 : Int32) (S : rS) (z : Nat × Int32 × Unit) : Prop := (if z.1 = 0 then O_snapshot_91 N (z.2.1) S else O_snapshot_99 N S)
set_option maxHeartbeats 4000000 in
theorem c_snapshot_2 {G : zG} {E : rE} {S : rS} {N : Nat} {Q : Option Value → rS → Prop} {X : Int32 → Prop} (hG : zOK G) (hR : ∀ v, X v → Q (some (.int v)) S) {x1 : Int32} {x2 : Int32} (ok : OL_snapshot_2 N N x1 x2 S ∧ OA_snapshot_2 N x1 x2 S (L_snapshot_2 N N x1 x2 S)) (hx : X (A_snapshot_2 N x1 x2 S (L_snapshot_2 N N x1 x2 S))) : rX G E dX12_snapshot mX12_snapshot 2 [some (.ref E.1), some (.int x1), some (.int x2), none, none, none] [] S Q := by
  refine l_snapshot_2 hG ?_ ?_ N x1 x2 ok.1 (X := fun z => OA_snapshot_2 N x1 x2 S z ∧ X (A_snapshot_2 N x1 x2 S z)) ⟨ok.2, hx⟩
  · intro x3' hz
    obtain ⟨ok, hx⟩ := hz
    unfold OA_snapshot_2 at ok
    unfold A_snapshot_2 at hx
    have ok := xif_P (show (0 : Nat) = 0 from rfl) ok
    have hx := xif_p (show (0 : Nat) = 0 from rfl) hx
    exact rX.cutz (b_snapshot_91 hG hR ok hx) ⟨rfl, trivial⟩
  · intro x3' hz
    obtain ⟨ok, hx⟩ := hz
    unfold OA_snapshot_2 at ok
    unfold A_snapshot_2 at hx
    have ok := xif_N (show ¬ (1 : Nat) = 0 by decide) ok
    have hx := xif_n (show ¬ (1 : Nat) = 0 by decide) hx
    exact rX.cutz (b_snapshot_99 hG hR ok hx) trivial
def F_snapshot_0 (N : Nat) (x1 : Int32) (S : rS) : Int32 := (A_snapshot_2 N x1 (nI 0) S (L_snapshot_2 N N x1 (nI 0) S))
def O_snapshot_0 (N : Nat) (x1 : Int32) (S : rS) : Prop := (OL_snapshot_2 N N x1 (nI 0) S ∧ OA_snapshot_2 N x1 (nI 0) S (L_snapshot_2 N N x1 (nI 0) S))
set_option maxHeartbeats 4000000 in
theorem b_snapshot_0 {G : zG} {E : rE} {S : rS} {N : Nat} {Q : Option Value → rS → Prop} {X : Int32 → Prop} (hG : zOK G) (hR : ∀ v, X v → Q (some (.int v)) S) {x1 : Int32} (ok : O_snapshot_0 N x1 S) (hx : X (F_snapshot_0 N x1 S)) : rX G E dX12_snapshot mX12_snapshot 0 [some (.ref E.1), some (.int x1), none, none, none, none] [] S Q := by
  unfold O_snapshot_0 at ok
  unfold F_snapshot_0 at hx
  refine r_iconst (v := nI 0) dX12_snapshot_0 (by decide) ?_
  refine r_istore_2 dX12_snapshot_1 (by decide) rfl ?_
  exact rX.cutz (c_snapshot_2 hG hR ok hx) ⟨rfl, rfl, rfl, trivial⟩
def f_snapshot (N : Nat) (S : rS) (x1 : Int32) : Int32 := F_snapshot_0 N x1 S
def o_snapshot (N : Nat) (S : rS) (x1 : Int32) : Prop := O_snapshot_0 N x1 S
set_option maxHeartbeats 4000000 in
theorem rc_X12_snapshot {G : zG} {E : rE} {S : rS} {N : Nat} (hG : zOK G) {x1 : Int32} (ok : o_snapshot N S x1) : rCi G E dX12_snapshot mX12_snapshot [.ref E.1, .int x1] S (fun v S' => v = f_snapshot N S x1 ∧ S' = S) := by
  refine rC.ofX rfl (Nat.le_of_ble_eq_true rfl) ?_
  show rX G E dX12_snapshot mX12_snapshot 0 [some (.ref E.1), some (.int x1), none, none, none, none] [] S _
  exact rX.cutz (b_snapshot_0 (X := fun F => F = f_snapshot N S x1) hG (fun v h => ⟨v, rfl, h, rfl⟩) ok rfl) ⟨rfl, rfl, trivial⟩
/-! rise -/
def F_rise_103 (N : Nat)  (S : rS) : rS := S
def O_rise_103 (N : Nat)  (S : rS) : Prop := True
set_option maxHeartbeats 4000000 in
theorem b_rise_103 {G : zG} {E : rE} {S : rS} {N : Nat} {Q : Option Value → rS → Prop} {X : rS → Prop} (hG : zOK G) (hR : ∀ S', X S' → Q none S') (ok : O_rise_103 N S) (hx : X (F_rise_103 N S)) : rX G E dX12_rise mX12_rise 103 [none, none, none] [] S Q := by
  unfold O_rise_103 at ok
  unfold F_rise_103 at hx
  exact r_return rfl dX12_rise_103 (hR _ hx)
def F_rise_91 (N : Nat) (x1 : Int32) (x2 : Int32) (S : rS) : rS := (if (nI 40) < x2 then (F_rise_103 N S) else (F_rise_103 N (f_begin N S x1 (nI 0))))
def O_rise_91 (N : Nat) (x1 : Int32) (x2 : Int32) (S : rS) : Prop := (((nI 40) < x2 → O_rise_103 N S) ∧ (¬ (nI 40) < x2 → (o_begin N S x1 (nI 0)) ∧ O_rise_103 N (f_begin N S x1 (nI 0))))
set_option maxHeartbeats 4000000 in
theorem b_rise_91 {G : zG} {E : rE} {S : rS} {N : Nat} {Q : Option Value → rS → Prop} {X : rS → Prop} (hG : zOK G) (hR : ∀ S', X S' → Q none S') {x1 : Int32} {x2 : Int32} (ok : O_rise_91 N x1 x2 S) (hx : X (F_rise_91 N x1 x2 S)) : rX G E dX12_rise mX12_rise 91 [some (.ref E.1), some (.int x1), some (.int x2)] [] S Q := by
  unfold O_rise_91 at ok
  unfold F_rise_91 at hx
  refine r_iload_n dX12_rise_91 rfl rfl ?_
  refine r_bipush (v := nI 40) dX12_rise_92 (by decide) ?_
  refine r_icmp_gt (tgt := 103) dX12_rise_94 (by decide) (fun c_94 => ?_) (fun c_94 => ?_)
  · have ok := ok.1 c_94
    have hx := xif_p c_94 hx
    exact rX.cutz (b_rise_103 hG hR ok hx) trivial
  · have ok := ok.2 c_94
    have hx := xif_n c_94 hx
    refine r_aload_n dX12_rise_97 rfl rfl ?_
    refine r_iload_n dX12_rise_98 rfl rfl ?_
    refine r_iconst (v := nI 0) dX12_rise_99 (by decide) ?_
    refine r_V2v (y' := mX12_begin) dX12_rise_100 lX12_457 kX12_begin ⟨by decide, by decide⟩ rfl (Nat.le_of_ble_eq_true rfl) (rc_X12_begin hG ok.1) (fun S_100 h_100 => ?_)
    subst h_100
    have ok := ok.2
    exact rX.cutz (b_rise_103 hG hR ok hx) trivial
def F_rise_86 (N : Nat) (x1 : Int32) (x2 : Int32) (S : rS) : rS := (F_rise_91 N x1 x2 (f_notBeen N S x1))
def O_rise_86 (N : Nat) (x1 : Int32) (x2 : Int32) (S : rS) : Prop := (o_notBeen N S x1) ∧ O_rise_91 N x1 x2 (f_notBeen N S x1)
set_option maxHeartbeats 4000000 in
theorem b_rise_86 {G : zG} {E : rE} {S : rS} {N : Nat} {Q : Option Value → rS → Prop} {X : rS → Prop} (hG : zOK G) (hR : ∀ S', X S' → Q none S') {x1 : Int32} {x2 : Int32} (ok : O_rise_86 N x1 x2 S) (hx : X (F_rise_86 N x1 x2 S)) : rX G E dX12_rise mX12_rise 86 [some (.ref E.1), some (.int x1), some (.int x2)] [] S Q := by
  unfold O_rise_86 at ok
  unfold F_rise_86 at hx
  refine r_aload_n dX12_rise_86 rfl rfl ?_
  refine r_iload_n dX12_rise_87 rfl rfl ?_
  refine r_V1v (y' := mX12_notBeen) dX12_rise_88 lX12_569 kX12_notBeen ⟨by decide, by decide⟩ rfl (Nat.le_of_ble_eq_true rfl) (rc_X12_notBeen hG ok.1) (fun S_88 h_88 => ?_)
  subst h_88
  have ok := ok.2
  exact rX.cutz (b_rise_91 hG hR ok hx) ⟨rfl, rfl, rfl, trivial⟩
def F_rise_72 (N : Nat) (x1 : Int32) (x2 : Int32) (S : rS) : rS := (F_rise_86 N x1 x2 (rsA (rsA S 45 x1.toNatClampNeg (nI 0)) 46 x1.toNatClampNeg (nI 0)))
def O_rise_72 (N : Nat) (x1 : Int32) (x2 : Int32) (S : rS) : Prop := (vp_in x1 13) ∧ (vp_in x1 13) ∧ O_rise_86 N x1 x2 (rsA (rsA S 45 x1.toNatClampNeg (nI 0)) 46 x1.toNatClampNeg (nI 0))
set_option maxHeartbeats 4000000 in
theorem b_rise_72 {G : zG} {E : rE} {S : rS} {N : Nat} {Q : Option Value → rS → Prop} {X : rS → Prop} (hG : zOK G) (hR : ∀ S', X S' → Q none S') {x1 : Int32} {x2 : Int32} (ok : O_rise_72 N x1 x2 S) (hx : X (F_rise_72 N x1 x2 S)) : rX G E dX12_rise mX12_rise 72 [some (.ref E.1), some (.int x1), some (.int x2)] [] S Q := by
  unfold O_rise_72 at ok
  unfold F_rise_72 at hx
  refine r_aload_n dX12_rise_72 rfl rfl ?_
  refine r_getA 45 fX12_312 (by decide) (by decide) dX12_rise_73 ?_
  refine r_iload_n dX12_rise_76 rfl rfl ?_
  refine r_iconst (v := nI 0) dX12_rise_77 (by decide) ?_
  refine r_iast hG (by decide) (by decide) dX12_rise_78 ok.1 ?_
  have ok := ok.2
  refine r_aload_n dX12_rise_79 rfl rfl ?_
  refine r_getA 46 fX12_315 (by decide) (by decide) dX12_rise_80 ?_
  refine r_iload_n dX12_rise_83 rfl rfl ?_
  refine r_iconst (v := nI 0) dX12_rise_84 (by decide) ?_
  refine r_iast hG (by decide) (by decide) dX12_rise_85 ok.1 ?_
  have ok := ok.2
  exact rX.cutz (b_rise_86 hG hR ok hx) ⟨rfl, rfl, rfl, trivial⟩
def F_rise_67 (N : Nat) (x1 : Int32) (x2 : Int32) (S : rS) : rS := (F_rise_72 N x1 x2 (f_noTimers N S x1))
def O_rise_67 (N : Nat) (x1 : Int32) (x2 : Int32) (S : rS) : Prop := (o_noTimers N S x1) ∧ O_rise_72 N x1 x2 (f_noTimers N S x1)
set_option maxHeartbeats 4000000 in
theorem b_rise_67 {G : zG} {E : rE} {S : rS} {N : Nat} {Q : Option Value → rS → Prop} {X : rS → Prop} (hG : zOK G) (hR : ∀ S', X S' → Q none S') {x1 : Int32} {x2 : Int32} (ok : O_rise_67 N x1 x2 S) (hx : X (F_rise_67 N x1 x2 S)) : rX G E dX12_rise mX12_rise 67 [some (.ref E.1), some (.int x1), some (.int x2)] [] S Q := by
  unfold O_rise_67 at ok
  unfold F_rise_67 at hx
  refine r_aload_n dX12_rise_67 rfl rfl ?_
  refine r_iload_n dX12_rise_68 rfl rfl ?_
  refine r_V1v (y' := mX12_noTimers) dX12_rise_69 lX12_454 kX12_noTimers ⟨by decide, by decide⟩ rfl (Nat.le_of_ble_eq_true rfl) (rc_X12_noTimers hG ok.1) (fun S_69 h_69 => ?_)
  subst h_69
  have ok := ok.2
  exact rX.cutz (b_rise_72 hG hR ok hx) ⟨rfl, rfl, rfl, trivial⟩
def F_rise_55 (N : Nat) (x1 : Int32) (x2 : Int32) (S : rS) : rS := (F_rise_67 N x1 x2 (f_unlock N (rsA S 78 x1.toNatClampNeg (nI 0)) x1))
def O_rise_55 (N : Nat) (x1 : Int32) (x2 : Int32) (S : rS) : Prop := (vp_in x1 13) ∧ (o_unlock N (rsA S 78 x1.toNatClampNeg (nI 0)) x1) ∧ O_rise_67 N x1 x2 (f_unlock N (rsA S 78 x1.toNatClampNeg (nI 0)) x1)
set_option maxHeartbeats 4000000 in
theorem b_rise_55 {G : zG} {E : rE} {S : rS} {N : Nat} {Q : Option Value → rS → Prop} {X : rS → Prop} (hG : zOK G) (hR : ∀ S', X S' → Q none S') {x1 : Int32} {x2 : Int32} (ok : O_rise_55 N x1 x2 S) (hx : X (F_rise_55 N x1 x2 S)) : rX G E dX12_rise mX12_rise 55 [some (.ref E.1), some (.int x1), some (.int x2)] [] S Q := by
  unfold O_rise_55 at ok
  unfold F_rise_55 at hx
  refine r_aload_n dX12_rise_55 rfl rfl ?_
  refine r_getA 78 fX12_409 (by decide) (by decide) dX12_rise_56 ?_
  refine r_iload_n dX12_rise_59 rfl rfl ?_
  refine r_iconst (v := nI 0) dX12_rise_60 (by decide) ?_
  refine r_iast hG (by decide) (by decide) dX12_rise_61 ok.1 ?_
  have ok := ok.2
  refine r_aload_n dX12_rise_62 rfl rfl ?_
  refine r_iload_n dX12_rise_63 rfl rfl ?_
  refine r_V1v (y' := mX12_unlock) dX12_rise_64 lX12_451 kX12_unlock ⟨by decide, by decide⟩ rfl (Nat.le_of_ble_eq_true rfl) (rc_X12_unlock hG ok.1) (fun S_64 h_64 => ?_)
  subst h_64
  have ok := ok.2
  exact rX.cutz (b_rise_67 hG hR ok hx) ⟨rfl, rfl, rfl, trivial⟩
def F_rise_41 (N : Nat) (x1 : Int32) (x2 : Int32) (S : rS) : rS := (F_rise_55 N x1 x2 (rsA (rsA S 44 x1.toNatClampNeg x2) 65 x1.toNatClampNeg (nI 0)))
def O_rise_41 (N : Nat) (x1 : Int32) (x2 : Int32) (S : rS) : Prop := (vp_in x1 13) ∧ (vp_in x1 13) ∧ O_rise_55 N x1 x2 (rsA (rsA S 44 x1.toNatClampNeg x2) 65 x1.toNatClampNeg (nI 0))
set_option maxHeartbeats 4000000 in
theorem b_rise_41 {G : zG} {E : rE} {S : rS} {N : Nat} {Q : Option Value → rS → Prop} {X : rS → Prop} (hG : zOK G) (hR : ∀ S', X S' → Q none S') {x1 : Int32} {x2 : Int32} (ok : O_rise_41 N x1 x2 S) (hx : X (F_rise_41 N x1 x2 S)) : rX G E dX12_rise mX12_rise 41 [some (.ref E.1), some (.int x1), some (.int x2)] [] S Q := by
  unfold O_rise_41 at ok
  unfold F_rise_41 at hx
  refine r_aload_n dX12_rise_41 rfl rfl ?_
  refine r_getA 44 fX12_309 (by decide) (by decide) dX12_rise_42 ?_
  refine r_iload_n dX12_rise_45 rfl rfl ?_
  refine r_iload_n dX12_rise_46 rfl rfl ?_
  refine r_iast hG (by decide) (by decide) dX12_rise_47 ok.1 ?_
  have ok := ok.2
  refine r_aload_n dX12_rise_48 rfl rfl ?_
  refine r_getA 65 fX12_372 (by decide) (by decide) dX12_rise_49 ?_
  refine r_iload_n dX12_rise_52 rfl rfl ?_
  refine r_iconst (v := nI 0) dX12_rise_53 (by decide) ?_
  refine r_iast hG (by decide) (by decide) dX12_rise_54 ok.1 ?_
  have ok := ok.2
  exact rX.cutz (b_rise_55 hG hR ok hx) ⟨rfl, rfl, rfl, trivial⟩
def F_rise_36 (N : Nat) (x1 : Int32) (x2 : Int32) (S : rS) : rS := (F_rise_41 N x1 x2 (f_forgetSaid N S x1))
def O_rise_36 (N : Nat) (x1 : Int32) (x2 : Int32) (S : rS) : Prop := (o_forgetSaid N S x1) ∧ O_rise_41 N x1 x2 (f_forgetSaid N S x1)
set_option maxHeartbeats 4000000 in
theorem b_rise_36 {G : zG} {E : rE} {S : rS} {N : Nat} {Q : Option Value → rS → Prop} {X : rS → Prop} (hG : zOK G) (hR : ∀ S', X S' → Q none S') {x1 : Int32} {x2 : Int32} (ok : O_rise_36 N x1 x2 S) (hx : X (F_rise_36 N x1 x2 S)) : rX G E dX12_rise mX12_rise 36 [some (.ref E.1), some (.int x1), some (.int x2)] [] S Q := by
  unfold O_rise_36 at ok
  unfold F_rise_36 at hx
  refine r_aload_n dX12_rise_36 rfl rfl ?_
  refine r_iload_n dX12_rise_37 rfl rfl ?_
  refine r_V1v (y' := mX12_forgetSaid) dX12_rise_38 lX12_477 kX12_forgetSaid ⟨by decide, by decide⟩ rfl (Nat.le_of_ble_eq_true rfl) (rc_X12_forgetSaid hG ok.1) (fun S_38 h_38 => ?_)
  subst h_38
  have ok := ok.2
  exact rX.cutz (b_rise_41 hG hR ok hx) ⟨rfl, rfl, rfl, trivial⟩
def F_rise_11 (N : Nat) (x1 : Int32) (x2 : Int32) (S : rS) : rS := (if x2 ≤ ((S.2.1 44 x1.toNatClampNeg) + (nI 1)) then (F_rise_36 N x1 x2 S) else (F_rise_36 N x1 x2 (f_forgetHeight N S x1 ((S.2.1 44 x1.toNatClampNeg) + (nI 1)))))
def O_rise_11 (N : Nat) (x1 : Int32) (x2 : Int32) (S : rS) : Prop := (vp_in x1 13) ∧ ((x2 ≤ ((S.2.1 44 x1.toNatClampNeg) + (nI 1)) → O_rise_36 N x1 x2 S) ∧ (¬ x2 ≤ ((S.2.1 44 x1.toNatClampNeg) + (nI 1)) → (vp_in x1 13) ∧ (o_forgetHeight N S x1 ((S.2.1 44 x1.toNatClampNeg) + (nI 1))) ∧ O_rise_36 N x1 x2 (f_forgetHeight N S x1 ((S.2.1 44 x1.toNatClampNeg) + (nI 1)))))
set_option maxHeartbeats 4000000 in
theorem b_rise_11 {G : zG} {E : rE} {S : rS} {N : Nat} {Q : Option Value → rS → Prop} {X : rS → Prop} (hG : zOK G) (hR : ∀ S', X S' → Q none S') {x1 : Int32} {x2 : Int32} (ok : O_rise_11 N x1 x2 S) (hx : X (F_rise_11 N x1 x2 S)) : rX G E dX12_rise mX12_rise 11 [some (.ref E.1), some (.int x1), some (.int x2)] [] S Q := by
  unfold O_rise_11 at ok
  unfold F_rise_11 at hx
  refine r_iload_n dX12_rise_11 rfl rfl ?_
  refine r_aload_n dX12_rise_12 rfl rfl ?_
  refine r_getA 44 fX12_309 (by decide) (by decide) dX12_rise_13 ?_
  refine r_iload_n dX12_rise_16 rfl rfl ?_
  refine r_iald (by decide) (by decide) dX12_rise_17 ok.1 ?_
  have ok := ok.2
  refine r_iconst (v := nI 1) dX12_rise_18 (by decide) ?_
  refine r_iadd dX12_rise_19 ?_
  refine r_icmp_le (tgt := 36) dX12_rise_20 (by decide) (fun c_20 => ?_) (fun c_20 => ?_)
  · have ok := ok.1 c_20
    have hx := xif_p c_20 hx
    exact rX.cutz (b_rise_36 hG hR ok hx) ⟨rfl, rfl, rfl, trivial⟩
  · have ok := ok.2 c_20
    have hx := xif_n c_20 hx
    refine r_aload_n dX12_rise_23 rfl rfl ?_
    refine r_iload_n dX12_rise_24 rfl rfl ?_
    refine r_aload_n dX12_rise_25 rfl rfl ?_
    refine r_getA 44 fX12_309 (by decide) (by decide) dX12_rise_26 ?_
    refine r_iload_n dX12_rise_29 rfl rfl ?_
    refine r_iald (by decide) (by decide) dX12_rise_30 ok.1 ?_
    have ok := ok.2
    refine r_iconst (v := nI 1) dX12_rise_31 (by decide) ?_
    refine r_iadd dX12_rise_32 ?_
    refine r_V2v (y' := mX12_forgetHeight) dX12_rise_33 lX12_474 kX12_forgetHeight ⟨by decide, by decide⟩ rfl (Nat.le_of_ble_eq_true rfl) (rc_X12_forgetHeight hG ok.1) (fun S_33 h_33 => ?_)
    subst h_33
    have ok := ok.2
    exact rX.cutz (b_rise_36 hG hR ok hx) ⟨rfl, rfl, rfl, trivial⟩
def F_rise_0 (N : Nat) (x1 : Int32) (x2 : Int32) (S : rS) : rS := (F_rise_11 N x1 x2 (f_forgetHeight N S x1 (S.2.1 44 x1.toNatClampNeg)))
def O_rise_0 (N : Nat) (x1 : Int32) (x2 : Int32) (S : rS) : Prop := (vp_in x1 13) ∧ (o_forgetHeight N S x1 (S.2.1 44 x1.toNatClampNeg)) ∧ O_rise_11 N x1 x2 (f_forgetHeight N S x1 (S.2.1 44 x1.toNatClampNeg))
set_option maxHeartbeats 4000000 in
theorem b_rise_0 {G : zG} {E : rE} {S : rS} {N : Nat} {Q : Option Value → rS → Prop} {X : rS → Prop} (hG : zOK G) (hR : ∀ S', X S' → Q none S') {x1 : Int32} {x2 : Int32} (ok : O_rise_0 N x1 x2 S) (hx : X (F_rise_0 N x1 x2 S)) : rX G E dX12_rise mX12_rise 0 [some (.ref E.1), some (.int x1), some (.int x2)] [] S Q := by
  unfold O_rise_0 at ok
  unfold F_rise_0 at hx
  refine r_aload_n dX12_rise_0 rfl rfl ?_
  refine r_iload_n dX12_rise_1 rfl rfl ?_
  refine r_aload_n dX12_rise_2 rfl rfl ?_
  refine r_getA 44 fX12_309 (by decide) (by decide) dX12_rise_3 ?_
  refine r_iload_n dX12_rise_6 rfl rfl ?_
  refine r_iald (by decide) (by decide) dX12_rise_7 ok.1 ?_
  have ok := ok.2
  refine r_V2v (y' := mX12_forgetHeight) dX12_rise_8 lX12_474 kX12_forgetHeight ⟨by decide, by decide⟩ rfl (Nat.le_of_ble_eq_true rfl) (rc_X12_forgetHeight hG ok.1) (fun S_8 h_8 => ?_)
  subst h_8
  have ok := ok.2
  exact rX.cutz (b_rise_11 hG hR ok hx) ⟨rfl, rfl, rfl, trivial⟩
def f_rise (N : Nat) (S : rS) (x1 : Int32) (x2 : Int32) : rS := F_rise_0 N x1 x2 S
def o_rise (N : Nat) (S : rS) (x1 : Int32) (x2 : Int32) : Prop := O_rise_0 N x1 x2 S
set_option maxHeartbeats 4000000 in
theorem rc_X12_rise {G : zG} {E : rE} {S : rS} {N : Nat} (hG : zOK G) {x1 : Int32} {x2 : Int32} (ok : o_rise N S x1 x2) : rCv G E dX12_rise mX12_rise [.ref E.1, .int x1, .int x2] S (fun S' => S' = f_rise N S x1 x2) := by
  refine rC.ofX rfl (Nat.le_of_ble_eq_true rfl) ?_
  show rX G E dX12_rise mX12_rise 0 [some (.ref E.1), some (.int x1), some (.int x2)] [] S _
  exact rX.cutz (b_rise_0 (X := fun F => F = f_rise N S x1 x2) hG (fun S' h => ⟨rfl, h⟩) ok rfl) ⟨rfl, rfl, rfl, trivial⟩
/-! take -/
def F_take_214 (N : Nat) (x1 : Int32) (x2 : Int32) (S : rS) : rS := (f_rise N S x1 (S.2.1 57 x2.toNatClampNeg))
def O_take_214 (N : Nat) (x1 : Int32) (x2 : Int32) (S : rS) : Prop := (vp_in x2 169) ∧ (o_rise N S x1 (S.2.1 57 x2.toNatClampNeg)) ∧ True
set_option maxHeartbeats 4000000 in
theorem b_take_214 {G : zG} {E : rE} {S : rS} {N : Nat} {Q : Option Value → rS → Prop} {X : rS → Prop} (hG : zOK G) (hR : ∀ S', X S' → Q none S') {x1 : Int32} {x2 : Int32} (ok : O_take_214 N x1 x2 S) (hx : X (F_take_214 N x1 x2 S)) : rX G E dX12_take mX12_take 214 [some (.ref E.1), some (.int x1), some (.int x2), none, none, none, none] [] S Q := by
  unfold O_take_214 at ok
  unfold F_take_214 at hx
  refine r_aload_n dX12_take_214 rfl rfl ?_
  refine r_iload_n dX12_take_215 rfl rfl ?_
  refine r_aload_n dX12_take_216 rfl rfl ?_
  refine r_getA 57 fX12_348 (by decide) (by decide) dX12_take_217 ?_
  refine r_iload_n dX12_take_220 rfl rfl ?_
  refine r_iald (by decide) (by decide) dX12_take_221 ok.1 ?_
  have ok := ok.2
  refine r_V2v (y' := mX12_rise) dX12_take_222 lX12_591 kX12_rise ⟨by decide, by decide⟩ rfl (Nat.le_of_ble_eq_true rfl) (rc_X12_rise hG ok.1) (fun S_222 h_222 => ?_)
  subst h_222
  have ok := ok.2
  exact r_return rfl dX12_take_225 (hR _ hx)
def F_take_207 (N : Nat) (rec : Int32 → Int32 → Int32 → rS → Nat × Int32 × Int32 × rS) (x1 : Int32) (x2 : Int32) (x3 : Int32) (s1 : Int32) (s2 : Int32) (S : rS) : Nat × Int32 × Int32 × rS := (rec x1 x2 (x3 + nI 1) (rsA S 84 s1.toNatClampNeg s2))
def O_take_207 (N : Nat) (rok : Int32 → Int32 → Int32 → rS → Prop) (x1 : Int32) (x2 : Int32) (x3 : Int32) (s1 : Int32) (s2 : Int32) (S : rS) : Prop := (vp_in s1 208 ∧ narrow .boolean (.int s2) = .int s2) ∧ rok x1 x2 (x3 + nI 1) (rsA S 84 s1.toNatClampNeg s2)
set_option maxHeartbeats 4000000 in
theorem b_take_207 {G : zG} {E : rE} {S : rS} {N : Nat} {Q : Option Value → rS → Prop} {X : Nat × Int32 × Int32 × rS → Prop} (hG : zOK G) (hX0 : ∀ (x1 : Int32) (x2 : Int32) (S' : rS), X (0, x1, x2, S') → rX G E dX12_take mX12_take 214 [some (.ref E.1), some (.int x1), some (.int x2), none, none, none, none] [] S' Q) {rec : Int32 → Int32 → Int32 → rS → Nat × Int32 × Int32 × rS} {rok : Int32 → Int32 → Int32 → rS → Prop} (hrec : ∀ (x1 : Int32) (x2 : Int32) (x3 : Int32) (S : rS), rok x1 x2 x3 S → X (rec x1 x2 x3 S) → rX G E dX12_take mX12_take 96 [some (.ref E.1), some (.int x1), some (.int x2), some (.int x3), none, none, none] [] S Q) {x1 : Int32} {x2 : Int32} {x3 : Int32} {s1 : Int32} {s2 : Int32} (ok : O_take_207 N rok x1 x2 x3 s1 s2 S) (hx : X (F_take_207 N rec x1 x2 x3 s1 s2 S)) : rX G E dX12_take mX12_take 207 [some (.ref E.1), some (.int x1), some (.int x2), some (.int x3), none, none, none] [.int s2, .int s1, .ref (E.2.1 84)] S Q := by
  unfold O_take_207 at ok
  unfold F_take_207 at hx
  refine r_zast hG ok.1.2 (by decide) (by decide) dX12_take_207 ok.1.1 ?_
  have ok := ok.2
  refine r_iinc_3 (v := (x3 + nI 1)) dX12_take_208 rfl (by first | rfl | (congr 1)) (by decide) rfl ?_
  refine r_goto (tgt := 96) dX12_take_211 (by decide) ?_
  exact rX.cutz (hrec _ _ _ (rsA S 84 s1.toNatClampNeg s2) ok hx) ⟨rfl, rfl, rfl, rfl, trivial⟩
def F_take_179 (N : Nat) (rec : Int32 → Int32 → Int32 → rS → Nat × Int32 × Int32 × rS) (x1 : Int32) (x2 : Int32) (x3 : Int32) (x4 : Int32) (S : rS) : Nat × Int32 × Int32 × rS := (if (S.2.1 58 (x4 + (nI 4)).toNatClampNeg) = (nI 1) then (F_take_207 N rec x1 x2 x3 (((nI 16) * x1) + x3) (nI 1) S) else (F_take_207 N rec x1 x2 x3 (((nI 16) * x1) + x3) (nI 0) S))
def O_take_179 (N : Nat) (rok : Int32 → Int32 → Int32 → rS → Prop) (x1 : Int32) (x2 : Int32) (x3 : Int32) (x4 : Int32) (S : rS) : Prop := (vp_in (x4 + (nI 4)) 19440) ∧ (((S.2.1 58 (x4 + (nI 4)).toNatClampNeg) = (nI 1) → O_take_207 N rok x1 x2 x3 (((nI 16) * x1) + x3) (nI 1) S) ∧ (¬ (S.2.1 58 (x4 + (nI 4)).toNatClampNeg) = (nI 1) → O_take_207 N rok x1 x2 x3 (((nI 16) * x1) + x3) (nI 0) S))
set_option maxHeartbeats 4000000 in
theorem b_take_179 {G : zG} {E : rE} {S : rS} {N : Nat} {Q : Option Value → rS → Prop} {X : Nat × Int32 × Int32 × rS → Prop} (hG : zOK G) (hX0 : ∀ (x1 : Int32) (x2 : Int32) (S' : rS), X (0, x1, x2, S') → rX G E dX12_take mX12_take 214 [some (.ref E.1), some (.int x1), some (.int x2), none, none, none, none] [] S' Q) {rec : Int32 → Int32 → Int32 → rS → Nat × Int32 × Int32 × rS} {rok : Int32 → Int32 → Int32 → rS → Prop} (hrec : ∀ (x1 : Int32) (x2 : Int32) (x3 : Int32) (S : rS), rok x1 x2 x3 S → X (rec x1 x2 x3 S) → rX G E dX12_take mX12_take 96 [some (.ref E.1), some (.int x1), some (.int x2), some (.int x3), none, none, none] [] S Q) {x1 : Int32} {x2 : Int32} {x3 : Int32} {x4 : Int32} (ok : O_take_179 N rok x1 x2 x3 x4 S) (hx : X (F_take_179 N rec x1 x2 x3 x4 S)) : rX G E dX12_take mX12_take 179 [some (.ref E.1), some (.int x1), some (.int x2), some (.int x3), some (.int x4), none, none] [] S Q := by
  unfold O_take_179 at ok
  unfold F_take_179 at hx
  refine r_aload_n dX12_take_179 rfl rfl ?_
  refine r_getA 84 fX12_427 (by decide) (by decide) dX12_take_180 ?_
  refine r_bipush (v := nI 16) dX12_take_183 (by decide) ?_
  refine r_iload_n dX12_take_185 rfl rfl ?_
  refine r_imul dX12_take_186 ?_
  refine r_iload_n dX12_take_187 rfl rfl ?_
  refine r_iadd dX12_take_188 ?_
  refine r_aload_n dX12_take_189 rfl rfl ?_
  refine r_getA 58 fX12_351 (by decide) (by decide) dX12_take_190 ?_
  refine r_iload dX12_take_193 rfl ?_
  refine r_iconst (v := nI 4) dX12_take_195 (by decide) ?_
  refine r_iadd dX12_take_196 ?_
  refine r_iald (by decide) (by decide) dX12_take_197 ok.1 ?_
  have ok := ok.2
  refine r_iconst (v := nI 1) dX12_take_198 (by decide) ?_
  refine r_icmp_ne (tgt := 206) dX12_take_199 (by decide) (fun c_199 => ?_) (fun c_199 => ?_)
  · have ok := ok.2 c_199
    have hx := xif_n c_199 hx
    refine r_iconst (v := nI 0) dX12_take_206 (by decide) ?_
    exact rX.cutz (b_take_207 hG hX0 hrec ok hx) ⟨rfl, rfl, rfl, rfl, trivial⟩
  · have ok := ok.1 c_199
    have hx := xif_p c_199 hx
    refine r_iconst (v := nI 1) dX12_take_202 (by decide) ?_
    refine r_goto (tgt := 207) dX12_take_203 (by decide) ?_
    exact rX.cutz (b_take_207 hG hX0 hrec ok hx) ⟨rfl, rfl, rfl, rfl, trivial⟩
def F_take_145 (N : Nat) (rec : Int32 → Int32 → Int32 → rS → Nat × Int32 × Int32 × rS) (x1 : Int32) (x2 : Int32) (x3 : Int32) (x4 : Int32) (s1 : Int32) (s2 : Int32) (S : rS) : Nat × Int32 × Int32 × rS := (F_take_179 N rec x1 x2 x3 x4 (rsA (rsA S 82 s1.toNatClampNeg s2) 83 (((nI 16) * x1) + x3).toNatClampNeg ((((rsA S 82 s1.toNatClampNeg s2).2.1 58 (x4 + (nI 2)).toNatClampNeg) <<< ((nI 8) &&& 31)) ||| ((rsA S 82 s1.toNatClampNeg s2).2.1 58 (x4 + (nI 3)).toNatClampNeg))))
def O_take_145 (N : Nat) (rok : Int32 → Int32 → Int32 → rS → Prop) (x1 : Int32) (x2 : Int32) (x3 : Int32) (x4 : Int32) (s1 : Int32) (s2 : Int32) (S : rS) : Prop := (vp_in s1 208) ∧ (vp_in (x4 + (nI 2)) 19440) ∧ (vp_in (x4 + (nI 3)) 19440) ∧ (vp_in (((nI 16) * x1) + x3) 208) ∧ O_take_179 N rok x1 x2 x3 x4 (rsA (rsA S 82 s1.toNatClampNeg s2) 83 (((nI 16) * x1) + x3).toNatClampNeg ((((rsA S 82 s1.toNatClampNeg s2).2.1 58 (x4 + (nI 2)).toNatClampNeg) <<< ((nI 8) &&& 31)) ||| ((rsA S 82 s1.toNatClampNeg s2).2.1 58 (x4 + (nI 3)).toNatClampNeg)))
set_option maxHeartbeats 4000000 in
theorem b_take_145 {G : zG} {E : rE} {S : rS} {N : Nat} {Q : Option Value → rS → Prop} {X : Nat × Int32 × Int32 × rS → Prop} (hG : zOK G) (hX0 : ∀ (x1 : Int32) (x2 : Int32) (S' : rS), X (0, x1, x2, S') → rX G E dX12_take mX12_take 214 [some (.ref E.1), some (.int x1), some (.int x2), none, none, none, none] [] S' Q) {rec : Int32 → Int32 → Int32 → rS → Nat × Int32 × Int32 × rS} {rok : Int32 → Int32 → Int32 → rS → Prop} (hrec : ∀ (x1 : Int32) (x2 : Int32) (x3 : Int32) (S : rS), rok x1 x2 x3 S → X (rec x1 x2 x3 S) → rX G E dX12_take mX12_take 96 [some (.ref E.1), some (.int x1), some (.int x2), some (.int x3), none, none, none] [] S Q) {x1 : Int32} {x2 : Int32} {x3 : Int32} {x4 : Int32} {s1 : Int32} {s2 : Int32} (ok : O_take_145 N rok x1 x2 x3 x4 s1 s2 S) (hx : X (F_take_145 N rec x1 x2 x3 x4 s1 s2 S)) : rX G E dX12_take mX12_take 145 [some (.ref E.1), some (.int x1), some (.int x2), some (.int x3), some (.int x4), none, none] [.int s2, .int s1, .ref (E.2.1 82)] S Q := by
  unfold O_take_145 at ok
  unfold F_take_145 at hx
  refine r_iast hG (by decide) (by decide) dX12_take_145 ok.1 ?_
  have ok := ok.2
  refine r_aload_n dX12_take_146 rfl rfl ?_
  refine r_getA 83 fX12_424 (by decide) (by decide) dX12_take_147 ?_
  refine r_bipush (v := nI 16) dX12_take_150 (by decide) ?_
  refine r_iload_n dX12_take_152 rfl rfl ?_
  refine r_imul dX12_take_153 ?_
  refine r_iload_n dX12_take_154 rfl rfl ?_
  refine r_iadd dX12_take_155 ?_
  refine r_aload_n dX12_take_156 rfl rfl ?_
  refine r_getA 58 fX12_351 (by decide) (by decide) dX12_take_157 ?_
  refine r_iload dX12_take_160 rfl ?_
  refine r_iconst (v := nI 2) dX12_take_162 (by decide) ?_
  refine r_iadd dX12_take_163 ?_
  refine r_iald (by decide) (by decide) dX12_take_164 ok.1 ?_
  have ok := ok.2
  refine r_bipush (v := nI 8) dX12_take_165 (by decide) ?_
  refine r_ishl dX12_take_167 ?_
  refine r_aload_n dX12_take_168 rfl rfl ?_
  refine r_getA 58 fX12_351 (by decide) (by decide) dX12_take_169 ?_
  refine r_iload dX12_take_172 rfl ?_
  refine r_iconst (v := nI 3) dX12_take_174 (by decide) ?_
  refine r_iadd dX12_take_175 ?_
  refine r_iald (by decide) (by decide) dX12_take_176 ok.1 ?_
  have ok := ok.2
  refine r_ior dX12_take_177 ?_
  refine r_iast hG (by decide) (by decide) dX12_take_178 ok.1 ?_
  have ok := ok.2
  exact rX.cutz (b_take_179 hG hX0 hrec ok hx) ⟨rfl, rfl, rfl, rfl, rfl, trivial⟩
def B_take_96 (N : Nat) (rec : Int32 → Int32 → Int32 → rS → Nat × Int32 × Int32 × rS) (x1 : Int32) (x2 : Int32) (x3 : Int32) (S : rS) : Nat × Int32 × Int32 × rS := (if (nI 16) ≤ x3 then (0, x1, x2, S) else (F_take_145 N rec x1 x2 x3 ((((nI 115) * x2) + (nI 35)) + ((nI 5) * x3)) (((nI 16) * x1) + x3) (((S.2.1 58 ((((nI 115) * x2) + (nI 35)) + ((nI 5) * x3)).toNatClampNeg) <<< ((nI 8) &&& 31)) ||| (S.2.1 58 (((((nI 115) * x2) + (nI 35)) + ((nI 5) * x3)) + (nI 1)).toNatClampNeg)) S))
def OB_take_96 (N : Nat) (rok : Int32 → Int32 → Int32 → rS → Prop) (x1 : Int32) (x2 : Int32) (x3 : Int32) (S : rS) : Prop := (((nI 16) ≤ x3 → True) ∧ (¬ (nI 16) ≤ x3 → (vp_in ((((nI 115) * x2) + (nI 35)) + ((nI 5) * x3)) 19440) ∧ (vp_in (((((nI 115) * x2) + (nI 35)) + ((nI 5) * x3)) + (nI 1)) 19440) ∧ O_take_145 N rok x1 x2 x3 ((((nI 115) * x2) + (nI 35)) + ((nI 5) * x3)) (((nI 16) * x1) + x3) (((S.2.1 58 ((((nI 115) * x2) + (nI 35)) + ((nI 5) * x3)).toNatClampNeg) <<< ((nI 8) &&& 31)) ||| (S.2.1 58 (((((nI 115) * x2) + (nI 35)) + ((nI 5) * x3)) + (nI 1)).toNatClampNeg)) S))
set_option maxHeartbeats 4000000 in
theorem bb_take_96 {G : zG} {E : rE} {S : rS} {N : Nat} {Q : Option Value → rS → Prop} {X : Nat × Int32 × Int32 × rS → Prop} (hG : zOK G) (hX0 : ∀ (x1 : Int32) (x2 : Int32) (S' : rS), X (0, x1, x2, S') → rX G E dX12_take mX12_take 214 [some (.ref E.1), some (.int x1), some (.int x2), none, none, none, none] [] S' Q) {rec : Int32 → Int32 → Int32 → rS → Nat × Int32 × Int32 × rS} {rok : Int32 → Int32 → Int32 → rS → Prop} (hrec : ∀ (x1 : Int32) (x2 : Int32) (x3 : Int32) (S : rS), rok x1 x2 x3 S → X (rec x1 x2 x3 S) → rX G E dX12_take mX12_take 96 [some (.ref E.1), some (.int x1), some (.int x2), some (.int x3), none, none, none] [] S Q) {x1 : Int32} {x2 : Int32} {x3 : Int32} (ok : OB_take_96 N rok x1 x2 x3 S) (hx : X (B_take_96 N rec x1 x2 x3 S)) : rX G E dX12_take mX12_take 96 [some (.ref E.1), some (.int x1), some (.int x2), some (.int x3), none, none, none] [] S Q := by
  unfold OB_take_96 at ok
  unfold B_take_96 at hx
  refine r_iload_n dX12_take_96 rfl rfl ?_
  refine r_bipush (v := nI 16) dX12_take_97 (by decide) ?_
  refine r_icmp_ge (tgt := 214) dX12_take_99 (by decide) (fun c_99 => ?_) (fun c_99 => ?_)
  · have ok := ok.1 c_99
    have hx := xif_p c_99 hx
    exact rX.cutz (hX0 _ _ S hx) ⟨rfl, rfl, rfl, trivial⟩
  · have ok := ok.2 c_99
    have hx := xif_n c_99 hx
    refine r_bipush (v := nI 115) dX12_take_102 (by decide) ?_
    refine r_iload_n dX12_take_104 rfl rfl ?_
    refine r_imul dX12_take_105 ?_
    refine r_bipush (v := nI 35) dX12_take_106 (by decide) ?_
    refine r_iadd dX12_take_108 ?_
    refine r_iconst (v := nI 5) dX12_take_109 (by decide) ?_
    refine r_iload_n dX12_take_110 rfl rfl ?_
    refine r_imul dX12_take_111 ?_
    refine r_iadd dX12_take_112 ?_
    refine r_istore_4 dX12_take_113 (by decide) rfl ?_
    refine r_aload_n dX12_take_115 rfl rfl ?_
    refine r_getA 82 fX12_421 (by decide) (by decide) dX12_take_116 ?_
    refine r_bipush (v := nI 16) dX12_take_119 (by decide) ?_
    refine r_iload_n dX12_take_121 rfl rfl ?_
    refine r_imul dX12_take_122 ?_
    refine r_iload_n dX12_take_123 rfl rfl ?_
    refine r_iadd dX12_take_124 ?_
    refine r_aload_n dX12_take_125 rfl rfl ?_
    refine r_getA 58 fX12_351 (by decide) (by decide) dX12_take_126 ?_
    refine r_iload dX12_take_129 rfl ?_
    refine r_iald (by decide) (by decide) dX12_take_131 ok.1 ?_
    have ok := ok.2
    refine r_bipush (v := nI 8) dX12_take_132 (by decide) ?_
    refine r_ishl dX12_take_134 ?_
    refine r_aload_n dX12_take_135 rfl rfl ?_
    refine r_getA 58 fX12_351 (by decide) (by decide) dX12_take_136 ?_
    refine r_iload dX12_take_139 rfl ?_
    refine r_iconst (v := nI 1) dX12_take_141 (by decide) ?_
    refine r_iadd dX12_take_142 ?_
    refine r_iald (by decide) (by decide) dX12_take_143 ok.1 ?_
    have ok := ok.2
    refine r_ior dX12_take_144 ?_
    exact rX.cutz (b_take_145 hG hX0 hrec ok hx) ⟨rfl, rfl, rfl, rfl, rfl, trivial⟩
def L_take_96 (N : Nat) : Nat → Int32 → Int32 → Int32 → rS → Nat × Int32 × Int32 × rS
  | 0, x1, x2, x3, S => (0, 0, 0, S)
  | n + 1, x1, x2, x3, S => B_take_96 N (L_take_96 N n) x1 x2 x3 S
def OL_take_96 (N : Nat) : Nat → Int32 → Int32 → Int32 → rS → Prop
  | 0, _, _, _, _ => False
  | n + 1, x1, x2, x3, S => OB_take_96 N (OL_take_96 N n) x1 x2 x3 S
set_option maxHeartbeats 4000000 in
theorem l_take_96 {G : zG} {E : rE} {N : Nat} {Q : Option Value → rS → Prop} {X : Nat × Int32 × Int32 × rS → Prop} (hG : zOK G) (hX0 : ∀ (x1 : Int32) (x2 : Int32) (S' : rS), X (0, x1, x2, S') → rX G E dX12_take mX12_take 214 [some (.ref E.1), some (.int x1), some (.int x2), none, none, none, none] [] S' Q) : ∀ (n : Nat) (x1 : Int32) (x2 : Int32) (x3 : Int32) (S : rS), OL_take_96 N n x1 x2 x3 S → X (L_take_96 N n x1 x2 x3 S) → rX G E dX12_take mX12_take 96 [some (.ref E.1), some (.int x1), some (.int x2), some (.int x3), none, none, none] [] S Q := by
  intro n
  induction n with
  | zero => intro x1 x2 x3 S ok; exact absurd ok id
  | succ n ih =>
    intro x1 x2 x3 S ok hx
    exact bb_take_96 hG hX0 (rec := L_take_96 N n) (rok := OL_take_96 N n) (fun x1 x2 x3 S ok hx => ih x1 x2 x3 S ok hx) ok hx
def A_take_96 (N : Nat) (x1 : Int32) (x2 : Int32) (x3 : Int32) (S : rS) (z : Nat × Int32 × Int32 × rS) : rS := (F_take_214 N (z.2.1) (z.2.2.1) z.2.2.2)
def OA_take_96 (N : Nat) (x1 : Int32) (x2 : Int32) (x3 : Int32) (S : rS) (z : Nat × Int32 × Int32 × rS) : Prop := O_take_214 N (z.2.1) (z.2.2.1) z.2.2.2
set_option maxHeartbeats 4000000 in
theorem c_take_96 {G : zG} {E : rE} {S : rS} {N : Nat} {Q : Option Value → rS → Prop} {X : rS → Prop} (hG : zOK G) (hR : ∀ S', X S' → Q none S') {x1 : Int32} {x2 : Int32} {x3 : Int32} (ok : OL_take_96 N N x1 x2 x3 S ∧ OA_take_96 N x1 x2 x3 S (L_take_96 N N x1 x2 x3 S)) (hx : X (A_take_96 N x1 x2 x3 S (L_take_96 N N x1 x2 x3 S))) : rX G E dX12_take mX12_take 96 [some (.ref E.1), some (.int x1), some (.int x2), some (.int x3), none, none, none] [] S Q := by
  refine l_take_96 hG ?_ N x1 x2 x3 S ok.1 (X := fun z => OA_take_96 N x1 x2 x3 S z ∧ X (A_take_96 N x1 x2 x3 S z)) ⟨ok.2, hx⟩
  · intro x1' x2' S' hz
    obtain ⟨ok, hx⟩ := hz
    unfold OA_take_96 at ok
    unfold A_take_96 at hx
    exact rX.cutz (b_take_214 hG hR ok hx) ⟨rfl, rfl, rfl, trivial⟩
def F_take_94 (N : Nat) (x1 : Int32) (x2 : Int32) (S : rS) : rS := (A_take_96 N x1 x2 (nI 0) S (L_take_96 N N x1 x2 (nI 0) S))
def O_take_94 (N : Nat) (x1 : Int32) (x2 : Int32) (S : rS) : Prop := (OL_take_96 N N x1 x2 (nI 0) S ∧ OA_take_96 N x1 x2 (nI 0) S (L_take_96 N N x1 x2 (nI 0) S))
set_option maxHeartbeats 4000000 in
theorem b_take_94 {G : zG} {E : rE} {S : rS} {N : Nat} {Q : Option Value → rS → Prop} {X : rS → Prop} (hG : zOK G) (hR : ∀ S', X S' → Q none S') {x1 : Int32} {x2 : Int32} (ok : O_take_94 N x1 x2 S) (hx : X (F_take_94 N x1 x2 S)) : rX G E dX12_take mX12_take 94 [some (.ref E.1), some (.int x1), some (.int x2), none, none, none, none] [] S Q := by
  unfold O_take_94 at ok
  unfold F_take_94 at hx
  refine r_iconst (v := nI 0) dX12_take_94 (by decide) ?_
  refine r_istore_3 dX12_take_95 (by decide) rfl ?_
  exact rX.cutz (c_take_96 hG hR ok hx) ⟨rfl, rfl, rfl, rfl, trivial⟩
def F_take_76 (N : Nat) (rec : Int32 → Int32 → Int32 → rS → Nat × Int32 × Int32 × rS) (x1 : Int32) (x2 : Int32) (x3 : Int32) (x4 : Int64) (S : rS) : Nat × Int32 × Int32 × rS := (rec x1 x2 (x3 + nI 1) (rsL S 81 (((nI 4) * x1) + x3).toNatClampNeg x4))
def O_take_76 (N : Nat) (rok : Int32 → Int32 → Int32 → rS → Prop) (x1 : Int32) (x2 : Int32) (x3 : Int32) (x4 : Int64) (S : rS) : Prop := (vp_in (((nI 4) * x1) + x3) 52) ∧ rok x1 x2 (x3 + nI 1) (rsL S 81 (((nI 4) * x1) + x3).toNatClampNeg x4)
set_option maxHeartbeats 4000000 in
theorem b_take_76 {G : zG} {E : rE} {S : rS} {N : Nat} {Q : Option Value → rS → Prop} {X : Nat × Int32 × Int32 × rS → Prop} (hG : zOK G) (hX0 : ∀ (x1 : Int32) (x2 : Int32) (S' : rS), X (0, x1, x2, S') → rX G E dX12_take mX12_take 94 [some (.ref E.1), some (.int x1), some (.int x2), none, none, none, none] [] S' Q) {rec : Int32 → Int32 → Int32 → rS → Nat × Int32 × Int32 × rS} {rok : Int32 → Int32 → Int32 → rS → Prop} (hrec : ∀ (x1 : Int32) (x2 : Int32) (x3 : Int32) (S : rS), rok x1 x2 x3 S → X (rec x1 x2 x3 S) → rX G E dX12_take mX12_take 24 [some (.ref E.1), some (.int x1), some (.int x2), some (.int x3), none, none, none] [] S Q) {x1 : Int32} {x2 : Int32} {x3 : Int32} {x4 : Int64} (ok : O_take_76 N rok x1 x2 x3 x4 S) (hx : X (F_take_76 N rec x1 x2 x3 x4 S)) : rX G E dX12_take mX12_take 76 [some (.ref E.1), some (.int x1), some (.int x2), some (.int x3), some (.long x4), none, none] [] S Q := by
  unfold O_take_76 at ok
  unfold F_take_76 at hx
  refine r_aload_n dX12_take_76 rfl rfl ?_
  refine r_getA 81 fX12_418 (by decide) (by decide) dX12_take_77 ?_
  refine r_iconst (v := nI 4) dX12_take_80 (by decide) ?_
  refine r_iload_n dX12_take_81 rfl rfl ?_
  refine r_imul dX12_take_82 ?_
  refine r_iload_n dX12_take_83 rfl rfl ?_
  refine r_iadd dX12_take_84 ?_
  refine r_lload dX12_take_85 rfl ?_
  refine r_last (by decide) (by decide) dX12_take_87 ok.1 ?_
  have ok := ok.2
  refine r_iinc_3 (v := (x3 + nI 1)) dX12_take_88 rfl (by first | rfl | (congr 1)) (by decide) rfl ?_
  refine r_goto (tgt := 24) dX12_take_91 (by decide) ?_
  exact rX.cutz (hrec _ _ _ (rsL S 81 (((nI 4) * x1) + x3).toNatClampNeg x4) ok hx) ⟨rfl, rfl, rfl, rfl, trivial⟩
def B_take_35 (N : Nat) (rec : Int32 → Int32 → Int32 → Int64 → Int32 → rS → Nat × Int32 × Int32 × Int32 × Int64 × rS) (x1 : Int32) (x2 : Int32) (x3 : Int32) (x4 : Int64) (x6 : Int32) (S : rS) : Nat × Int32 × Int32 × Int32 × Int64 × rS := (if (nI 8) ≤ x6 then (0, x1, x2, x3, x4, S) else (rec x1 x2 x3 ((x4 <<< (Int32.toInt64 (nI 8) &&& 63)) ||| (Int32.toInt64 (S.2.1 58 (((((nI 115) * x2) + (nI 3)) + ((nI 8) * x3)) + x6).toNatClampNeg))) (x6 + nI 1) S))
def OB_take_35 (N : Nat) (rok : Int32 → Int32 → Int32 → Int64 → Int32 → rS → Prop) (x1 : Int32) (x2 : Int32) (x3 : Int32) (x4 : Int64) (x6 : Int32) (S : rS) : Prop := (((nI 8) ≤ x6 → True) ∧ (¬ (nI 8) ≤ x6 → (vp_in (((((nI 115) * x2) + (nI 3)) + ((nI 8) * x3)) + x6) 19440) ∧ rok x1 x2 x3 ((x4 <<< (Int32.toInt64 (nI 8) &&& 63)) ||| (Int32.toInt64 (S.2.1 58 (((((nI 115) * x2) + (nI 3)) + ((nI 8) * x3)) + x6).toNatClampNeg))) (x6 + nI 1) S))
set_option maxHeartbeats 4000000 in
theorem bb_take_35 {G : zG} {E : rE} {S : rS} {N : Nat} {Q : Option Value → rS → Prop} {X : Nat × Int32 × Int32 × Int32 × Int64 × rS → Prop} (hG : zOK G) (hX0 : ∀ (x1 : Int32) (x2 : Int32) (x3 : Int32) (x4 : Int64) (S' : rS), X (0, x1, x2, x3, x4, S') → rX G E dX12_take mX12_take 76 [some (.ref E.1), some (.int x1), some (.int x2), some (.int x3), some (.long x4), none, none] [] S' Q) {rec : Int32 → Int32 → Int32 → Int64 → Int32 → rS → Nat × Int32 × Int32 × Int32 × Int64 × rS} {rok : Int32 → Int32 → Int32 → Int64 → Int32 → rS → Prop} (hrec : ∀ (x1 : Int32) (x2 : Int32) (x3 : Int32) (x4 : Int64) (x6 : Int32) (S : rS), rok x1 x2 x3 x4 x6 S → X (rec x1 x2 x3 x4 x6 S) → rX G E dX12_take mX12_take 35 [some (.ref E.1), some (.int x1), some (.int x2), some (.int x3), some (.long x4), none, some (.int x6)] [] S Q) {x1 : Int32} {x2 : Int32} {x3 : Int32} {x4 : Int64} {x6 : Int32} (ok : OB_take_35 N rok x1 x2 x3 x4 x6 S) (hx : X (B_take_35 N rec x1 x2 x3 x4 x6 S)) : rX G E dX12_take mX12_take 35 [some (.ref E.1), some (.int x1), some (.int x2), some (.int x3), some (.long x4), none, some (.int x6)] [] S Q := by
  unfold OB_take_35 at ok
  unfold B_take_35 at hx
  refine r_iload dX12_take_35 rfl ?_
  refine r_bipush (v := nI 8) dX12_take_37 (by decide) ?_
  refine r_icmp_ge (tgt := 76) dX12_take_39 (by decide) (fun c_39 => ?_) (fun c_39 => ?_)
  · have ok := ok.1 c_39
    have hx := xif_p c_39 hx
    exact rX.cutz (hX0 _ _ _ _ S hx) ⟨rfl, rfl, rfl, rfl, rfl, trivial⟩
  · have ok := ok.2 c_39
    have hx := xif_n c_39 hx
    refine r_lload dX12_take_42 rfl ?_
    refine r_bipush (v := nI 8) dX12_take_44 (by decide) ?_
    refine r_lshl dX12_take_46 ?_
    refine r_aload_n dX12_take_47 rfl rfl ?_
    refine r_getA 58 fX12_351 (by decide) (by decide) dX12_take_48 ?_
    refine r_bipush (v := nI 115) dX12_take_51 (by decide) ?_
    refine r_iload_n dX12_take_53 rfl rfl ?_
    refine r_imul dX12_take_54 ?_
    refine r_iconst (v := nI 3) dX12_take_55 (by decide) ?_
    refine r_iadd dX12_take_56 ?_
    refine r_bipush (v := nI 8) dX12_take_57 (by decide) ?_
    refine r_iload_n dX12_take_59 rfl rfl ?_
    refine r_imul dX12_take_60 ?_
    refine r_iadd dX12_take_61 ?_
    refine r_iload dX12_take_62 rfl ?_
    refine r_iadd dX12_take_64 ?_
    refine r_iald (by decide) (by decide) dX12_take_65 ok.1 ?_
    have ok := ok.2
    refine r_i2l dX12_take_66 ?_
    refine r_lor dX12_take_67 ?_
    refine r_lstore_4 dX12_take_68 (by decide) rfl ?_
    refine r_iinc_6 (v := (x6 + nI 1)) dX12_take_70 rfl (by first | rfl | (congr 1)) (by decide) rfl ?_
    refine r_goto (tgt := 35) dX12_take_73 (by decide) ?_
    exact rX.cutz (hrec _ _ _ _ _ S ok hx) ⟨rfl, rfl, rfl, rfl, rfl, rfl, trivial⟩
def L_take_35 (N : Nat) : Nat → Int32 → Int32 → Int32 → Int64 → Int32 → rS → Nat × Int32 × Int32 × Int32 × Int64 × rS
  | 0, x1, x2, x3, x4, x6, S => (0, 0, 0, 0, 0, S)
  | n + 1, x1, x2, x3, x4, x6, S => B_take_35 N (L_take_35 N n) x1 x2 x3 x4 x6 S
def OL_take_35 (N : Nat) : Nat → Int32 → Int32 → Int32 → Int64 → Int32 → rS → Prop
  | 0, _, _, _, _, _, _ => False
  | n + 1, x1, x2, x3, x4, x6, S => OB_take_35 N (OL_take_35 N n) x1 x2 x3 x4 x6 S
set_option maxHeartbeats 4000000 in
theorem l_take_35 {G : zG} {E : rE} {N : Nat} {Q : Option Value → rS → Prop} {X : Nat × Int32 × Int32 × Int32 × Int64 × rS → Prop} (hG : zOK G) (hX0 : ∀ (x1 : Int32) (x2 : Int32) (x3 : Int32) (x4 : Int64) (S' : rS), X (0, x1, x2, x3, x4, S') → rX G E dX12_take mX12_take 76 [some (.ref E.1), some (.int x1), some (.int x2), some (.int x3), some (.long x4), none, none] [] S' Q) : ∀ (n : Nat) (x1 : Int32) (x2 : Int32) (x3 : Int32) (x4 : Int64) (x6 : Int32) (S : rS), OL_take_35 N n x1 x2 x3 x4 x6 S → X (L_take_35 N n x1 x2 x3 x4 x6 S) → rX G E dX12_take mX12_take 35 [some (.ref E.1), some (.int x1), some (.int x2), some (.int x3), some (.long x4), none, some (.int x6)] [] S Q := by
  intro n
  induction n with
  | zero => intro x1 x2 x3 x4 x6 S ok; exact absurd ok id
  | succ n ih =>
    intro x1 x2 x3 x4 x6 S ok hx
    exact bb_take_35 hG hX0 (rec := L_take_35 N n) (rok := OL_take_35 N n) (fun x1 x2 x3 x4 x6 S ok hx => ih x1 x2 x3 x4 x6 S ok hx) ok hx
def A_take_35 (N : Nat) (rec : Int32 → Int32 → Int32 → rS → Nat × Int32 × Int32 × rS) (x1 : Int32) (x2 : Int32) (x3 : Int32) (x4 : Int64) (x6 : Int32) (S : rS) (z : Nat × Int32 × Int32 × Int32 × Int64 × rS) : Nat × Int32 × Int32 × rS := (F_take_76 N rec (z.2.1) (z.2.2.1) (z.2.2.2.1) (z.2.2.2.2.1) z.2.2.2.2.2)
def OA_take_35 (N : Nat) (rok : Int32 → Int32 → Int32 → rS → Prop) (x1 : Int32) (x2 : Int32) (x3 : Int32) (x4 : Int64) (x6 : Int32) (S : rS) (z : Nat × Int32 × Int32 × Int32 × Int64 × rS) : Prop := O_take_76 N rok (z.2.1) (z.2.2.1) (z.2.2.2.1) (z.2.2.2.2.1) z.2.2.2.2.2
set_option maxHeartbeats 4000000 in
theorem c_take_35 {G : zG} {E : rE} {S : rS} {N : Nat} {Q : Option Value → rS → Prop} {X : Nat × Int32 × Int32 × rS → Prop} (hG : zOK G) (hX0 : ∀ (x1 : Int32) (x2 : Int32) (S' : rS), X (0, x1, x2, S') → rX G E dX12_take mX12_take 94 [some (.ref E.1), some (.int x1), some (.int x2), none, none, none, none] [] S' Q) {rec : Int32 → Int32 → Int32 → rS → Nat × Int32 × Int32 × rS} {rok : Int32 → Int32 → Int32 → rS → Prop} (hrec : ∀ (x1 : Int32) (x2 : Int32) (x3 : Int32) (S : rS), rok x1 x2 x3 S → X (rec x1 x2 x3 S) → rX G E dX12_take mX12_take 24 [some (.ref E.1), some (.int x1), some (.int x2), some (.int x3), none, none, none] [] S Q) {x1 : Int32} {x2 : Int32} {x3 : Int32} {x4 : Int64} {x6 : Int32} (ok : OL_take_35 N N x1 x2 x3 x4 x6 S ∧ OA_take_35 N rok x1 x2 x3 x4 x6 S (L_take_35 N N x1 x2 x3 x4 x6 S)) (hx : X (A_take_35 N rec x1 x2 x3 x4 x6 S (L_take_35 N N x1 x2 x3 x4 x6 S))) : rX G E dX12_take mX12_take 35 [some (.ref E.1), some (.int x1), some (.int x2), some (.int x3), some (.long x4), none, some (.int x6)] [] S Q := by
  refine l_take_35 hG ?_ N x1 x2 x3 x4 x6 S ok.1 (X := fun z => OA_take_35 N rok x1 x2 x3 x4 x6 S z ∧ X (A_take_35 N rec x1 x2 x3 x4 x6 S z)) ⟨ok.2, hx⟩
  · intro x1' x2' x3' x4' S' hz
    obtain ⟨ok, hx⟩ := hz
    unfold OA_take_35 at ok
    unfold A_take_35 at hx
    exact rX.cutz (b_take_76 hG hX0 hrec ok hx) ⟨rfl, rfl, rfl, rfl, rfl, trivial⟩
def B_take_24 (N : Nat) (rec : Int32 → Int32 → Int32 → rS → Nat × Int32 × Int32 × rS) (x1 : Int32) (x2 : Int32) (x3 : Int32) (S : rS) : Nat × Int32 × Int32 × rS := (if (nI 4) ≤ x3 then (0, x1, x2, S) else (A_take_35 N rec x1 x2 x3 (0 : Int64) (nI 0) S (L_take_35 N N x1 x2 x3 (0 : Int64) (nI 0) S)))
def OB_take_24 (N : Nat) (rok : Int32 → Int32 → Int32 → rS → Prop) (x1 : Int32) (x2 : Int32) (x3 : Int32) (S : rS) : Prop := (((nI 4) ≤ x3 → True) ∧ (¬ (nI 4) ≤ x3 → (OL_take_35 N N x1 x2 x3 (0 : Int64) (nI 0) S ∧ OA_take_35 N rok x1 x2 x3 (0 : Int64) (nI 0) S (L_take_35 N N x1 x2 x3 (0 : Int64) (nI 0) S))))
set_option maxHeartbeats 4000000 in
theorem bb_take_24 {G : zG} {E : rE} {S : rS} {N : Nat} {Q : Option Value → rS → Prop} {X : Nat × Int32 × Int32 × rS → Prop} (hG : zOK G) (hX0 : ∀ (x1 : Int32) (x2 : Int32) (S' : rS), X (0, x1, x2, S') → rX G E dX12_take mX12_take 94 [some (.ref E.1), some (.int x1), some (.int x2), none, none, none, none] [] S' Q) {rec : Int32 → Int32 → Int32 → rS → Nat × Int32 × Int32 × rS} {rok : Int32 → Int32 → Int32 → rS → Prop} (hrec : ∀ (x1 : Int32) (x2 : Int32) (x3 : Int32) (S : rS), rok x1 x2 x3 S → X (rec x1 x2 x3 S) → rX G E dX12_take mX12_take 24 [some (.ref E.1), some (.int x1), some (.int x2), some (.int x3), none, none, none] [] S Q) {x1 : Int32} {x2 : Int32} {x3 : Int32} (ok : OB_take_24 N rok x1 x2 x3 S) (hx : X (B_take_24 N rec x1 x2 x3 S)) : rX G E dX12_take mX12_take 24 [some (.ref E.1), some (.int x1), some (.int x2), some (.int x3), none, none, none] [] S Q := by
  unfold OB_take_24 at ok
  unfold B_take_24 at hx
  refine r_iload_n dX12_take_24 rfl rfl ?_
  refine r_iconst (v := nI 4) dX12_take_25 (by decide) ?_
  refine r_icmp_ge (tgt := 94) dX12_take_26 (by decide) (fun c_26 => ?_) (fun c_26 => ?_)
  · have ok := ok.1 c_26
    have hx := xif_p c_26 hx
    exact rX.cutz (hX0 _ _ S hx) ⟨rfl, rfl, rfl, trivial⟩
  · have ok := ok.2 c_26
    have hx := xif_n c_26 hx
    refine r_lconst (v := 0) dX12_take_29 rfl ?_
    refine r_lstore_4 dX12_take_30 (by decide) rfl ?_
    refine r_iconst (v := nI 0) dX12_take_32 (by decide) ?_
    refine r_istore_6 dX12_take_33 (by decide) rfl ?_
    exact rX.cutz (c_take_35 hG hX0 hrec ok hx) ⟨rfl, rfl, rfl, rfl, rfl, rfl, trivial⟩
def L_take_24 (N : Nat) : Nat → Int32 → Int32 → Int32 → rS → Nat × Int32 × Int32 × rS
  | 0, x1, x2, x3, S => (0, 0, 0, S)
  | n + 1, x1, x2, x3, S => B_take_24 N (L_take_24 N n) x1 x2 x3 S
def OL_take_24 (N : Nat) : Nat → Int32 → Int32 → Int32 → rS → Prop
  | 0, _, _, _, _ => False
  | n + 1, x1, x2, x3, S => OB_take_24 N (OL_take_24 N n) x1 x2 x3 S
set_option maxHeartbeats 4000000 in
theorem l_take_24 {G : zG} {E : rE} {N : Nat} {Q : Option Value → rS → Prop} {X : Nat × Int32 × Int32 × rS → Prop} (hG : zOK G) (hX0 : ∀ (x1 : Int32) (x2 : Int32) (S' : rS), X (0, x1, x2, S') → rX G E dX12_take mX12_take 94 [some (.ref E.1), some (.int x1), some (.int x2), none, none, none, none] [] S' Q) : ∀ (n : Nat) (x1 : Int32) (x2 : Int32) (x3 : Int32) (S : rS), OL_take_24 N n x1 x2 x3 S → X (L_take_24 N n x1 x2 x3 S) → rX G E dX12_take mX12_take 24 [some (.ref E.1), some (.int x1), some (.int x2), some (.int x3), none, none, none] [] S Q := by
  intro n
  induction n with
  | zero => intro x1 x2 x3 S ok; exact absurd ok id
  | succ n ih =>
    intro x1 x2 x3 S ok hx
    exact bb_take_24 hG hX0 (rec := L_take_24 N n) (rok := OL_take_24 N n) (fun x1 x2 x3 S ok hx => ih x1 x2 x3 S ok hx) ok hx
def A_take_24 (N : Nat) (x1 : Int32) (x2 : Int32) (x3 : Int32) (S : rS) (z : Nat × Int32 × Int32 × rS) : rS := (F_take_94 N (z.2.1) (z.2.2.1) z.2.2.2)
def OA_take_24 (N : Nat) (x1 : Int32) (x2 : Int32) (x3 : Int32) (S : rS) (z : Nat × Int32 × Int32 × rS) : Prop := O_take_94 N (z.2.1) (z.2.2.1) z.2.2.2
set_option maxHeartbeats 4000000 in
theorem c_take_24 {G : zG} {E : rE} {S : rS} {N : Nat} {Q : Option Value → rS → Prop} {X : rS → Prop} (hG : zOK G) (hR : ∀ S', X S' → Q none S') {x1 : Int32} {x2 : Int32} {x3 : Int32} (ok : OL_take_24 N N x1 x2 x3 S ∧ OA_take_24 N x1 x2 x3 S (L_take_24 N N x1 x2 x3 S)) (hx : X (A_take_24 N x1 x2 x3 S (L_take_24 N N x1 x2 x3 S))) : rX G E dX12_take mX12_take 24 [some (.ref E.1), some (.int x1), some (.int x2), some (.int x3), none, none, none] [] S Q := by
  refine l_take_24 hG ?_ N x1 x2 x3 S ok.1 (X := fun z => OA_take_24 N x1 x2 x3 S z ∧ X (A_take_24 N x1 x2 x3 S z)) ⟨ok.2, hx⟩
  · intro x1' x2' S' hz
    obtain ⟨ok, hx⟩ := hz
    unfold OA_take_24 at ok
    unfold A_take_24 at hx
    exact rX.cutz (b_take_94 hG hR ok hx) ⟨rfl, rfl, rfl, trivial⟩
def F_take_6 (N : Nat) (x1 : Int32) (x2 : Int32) (s0 : Int32) (S : rS) : rS := (if s0 = 0 then S else (A_take_24 N x1 x2 (nI 0) (rsA S 80 x1.toNatClampNeg (S.2.1 57 x2.toNatClampNeg)) (L_take_24 N N x1 x2 (nI 0) (rsA S 80 x1.toNatClampNeg (S.2.1 57 x2.toNatClampNeg)))))
def O_take_6 (N : Nat) (x1 : Int32) (x2 : Int32) (s0 : Int32) (S : rS) : Prop := ((s0 = 0 → True) ∧ (¬ s0 = 0 → (vp_in x2 169) ∧ (vp_in x1 13) ∧ (OL_take_24 N N x1 x2 (nI 0) (rsA S 80 x1.toNatClampNeg (S.2.1 57 x2.toNatClampNeg)) ∧ OA_take_24 N x1 x2 (nI 0) (rsA S 80 x1.toNatClampNeg (S.2.1 57 x2.toNatClampNeg)) (L_take_24 N N x1 x2 (nI 0) (rsA S 80 x1.toNatClampNeg (S.2.1 57 x2.toNatClampNeg))))))
set_option maxHeartbeats 4000000 in
theorem b_take_6 {G : zG} {E : rE} {S : rS} {N : Nat} {Q : Option Value → rS → Prop} {X : rS → Prop} (hG : zOK G) (hR : ∀ S', X S' → Q none S') {x1 : Int32} {x2 : Int32} {s0 : Int32} (ok : O_take_6 N x1 x2 s0 S) (hx : X (F_take_6 N x1 x2 s0 S)) : rX G E dX12_take mX12_take 6 [some (.ref E.1), some (.int x1), some (.int x2), none, none, none, none] [.int s0] S Q := by
  unfold O_take_6 at ok
  unfold F_take_6 at hx
  refine r_if_ne (tgt := 10) dX12_take_6 (by decide) (fun c_6 => ?_) (fun c_6 => ?_)
  · have ok := ok.2 c_6
    have hx := xif_n c_6 hx
    refine r_aload_n dX12_take_10 rfl rfl ?_
    refine r_getA 80 fX12_415 (by decide) (by decide) dX12_take_11 ?_
    refine r_iload_n dX12_take_14 rfl rfl ?_
    refine r_aload_n dX12_take_15 rfl rfl ?_
    refine r_getA 57 fX12_348 (by decide) (by decide) dX12_take_16 ?_
    refine r_iload_n dX12_take_19 rfl rfl ?_
    refine r_iald (by decide) (by decide) dX12_take_20 ok.1 ?_
    have ok := ok.2
    refine r_iast hG (by decide) (by decide) dX12_take_21 ok.1 ?_
    have ok := ok.2
    refine r_iconst (v := nI 0) dX12_take_22 (by decide) ?_
    refine r_istore_3 dX12_take_23 (by decide) rfl ?_
    exact rX.cutz (c_take_24 hG hR ok hx) ⟨rfl, rfl, rfl, rfl, trivial⟩
  · have ok := ok.1 c_6
    have hx := xif_p c_6 hx
    exact r_return rfl dX12_take_9 (hR _ hx)
def F_take_0 (N : Nat) (x1 : Int32) (x2 : Int32) (S : rS) : rS := (F_take_6 N x1 x2 ((f_noteSnap N S x1 x2).1) (f_noteSnap N S x1 x2).2)
def O_take_0 (N : Nat) (x1 : Int32) (x2 : Int32) (S : rS) : Prop := (o_noteSnap N S x1 x2) ∧ O_take_6 N x1 x2 ((f_noteSnap N S x1 x2).1) (f_noteSnap N S x1 x2).2
set_option maxHeartbeats 4000000 in
theorem b_take_0 {G : zG} {E : rE} {S : rS} {N : Nat} {Q : Option Value → rS → Prop} {X : rS → Prop} (hG : zOK G) (hR : ∀ S', X S' → Q none S') {x1 : Int32} {x2 : Int32} (ok : O_take_0 N x1 x2 S) (hx : X (F_take_0 N x1 x2 S)) : rX G E dX12_take mX12_take 0 [some (.ref E.1), some (.int x1), some (.int x2), none, none, none, none] [] S Q := by
  unfold O_take_0 at ok
  unfold F_take_0 at hx
  refine r_aload_n dX12_take_0 rfl rfl ?_
  refine r_iload_n dX12_take_1 rfl rfl ?_
  refine r_iload_n dX12_take_2 rfl rfl ?_
  refine r_V2i (y' := mX12_noteSnap) dX12_take_3 lX12_588 kX12_noteSnap ⟨by decide, by decide⟩ rfl (Nat.le_of_ble_eq_true rfl) (rc_X12_noteSnap hG ok.1) (fun v_3 S_3 h_3 => ?_)
  obtain ⟨rfl, hS_3⟩ := h_3
  have hS_3 := hS_3.symm
  subst hS_3
  have ok := ok.2
  exact rX.cutz (b_take_6 hG hR ok hx) ⟨rfl, rfl, rfl, trivial⟩
def f_take (N : Nat) (S : rS) (x1 : Int32) (x2 : Int32) : rS := F_take_0 N x1 x2 S
def o_take (N : Nat) (S : rS) (x1 : Int32) (x2 : Int32) : Prop := O_take_0 N x1 x2 S
set_option maxHeartbeats 4000000 in
theorem rc_X12_take {G : zG} {E : rE} {S : rS} {N : Nat} (hG : zOK G) {x1 : Int32} {x2 : Int32} (ok : o_take N S x1 x2) : rCv G E dX12_take mX12_take [.ref E.1, .int x1, .int x2] S (fun S' => S' = f_take N S x1 x2) := by
  refine rC.ofX rfl (Nat.le_of_ble_eq_true rfl) ?_
  show rX G E dX12_take mX12_take 0 [some (.ref E.1), some (.int x1), some (.int x2), none, none, none, none] [] S _
  exact rX.cutz (b_take_0 (X := fun F => F = f_take N S x1 x2) hG (fun S' h => ⟨rfl, h⟩) ok rfl) ⟨rfl, rfl, rfl, trivial⟩
/-! decision -/
def F_decision_161 (N : Nat)  (S : rS) : Int32 × rS := ((-1), S)
def O_decision_161 (N : Nat)  (S : rS) : Prop := True
set_option maxHeartbeats 4000000 in
theorem b_decision_161 {G : zG} {E : rE} {S : rS} {N : Nat} {Q : Option Value → rS → Prop} {X : Int32 × rS → Prop} (hG : zOK G) (hR : ∀ v S', X (v, S') → Q (some (.int v)) S') (ok : O_decision_161 N S) (hx : X (F_decision_161 N S)) : rX G E dX12_decision mX12_decision 161 [none, none, none, none, none, none] [] S Q := by
  unfold O_decision_161 at ok
  unfold F_decision_161 at hx
  refine r_iconst (v := -1) dX12_decision_161 (by decide) ?_
  exact r_ireturn rfl rfl dX12_decision_162 (hR _ _ hx)
def F_decision_155 (N : Nat) (rec : Int32 → Int32 → rS → Nat × Int32 × rS) (x1 : Int32) (x2 : Int32) (S : rS) : Nat × Int32 × rS := (rec x1 (x2 + nI 1) S)
def O_decision_155 (N : Nat) (rok : Int32 → Int32 → rS → Prop) (x1 : Int32) (x2 : Int32) (S : rS) : Prop := rok x1 (x2 + nI 1) S
set_option maxHeartbeats 4000000 in
theorem b_decision_155 {G : zG} {E : rE} {S : rS} {N : Nat} {Q : Option Value → rS → Prop} {X : Nat × Int32 × rS → Prop} (hG : zOK G) (hX0 : ∀ (x3 : Int32) (S' : rS), X (0, x3, S') → rX G E dX12_decision mX12_decision 153 [none, none, none, some (.int x3), none, none] [] S' Q) (hX1 : ∀ (x3 : Int32) (S' : rS), X (1, x3, S') → rX G E dX12_decision mX12_decision 161 [none, none, none, none, none, none] [] S' Q) {rec : Int32 → Int32 → rS → Nat × Int32 × rS} {rok : Int32 → Int32 → rS → Prop} (hrec : ∀ (x1 : Int32) (x2 : Int32) (S : rS), rok x1 x2 S → X (rec x1 x2 S) → rX G E dX12_decision mX12_decision 100 [some (.ref E.1), some (.int x1), some (.int x2), none, none, none] [] S Q) {x1 : Int32} {x2 : Int32} (ok : O_decision_155 N rok x1 x2 S) (hx : X (F_decision_155 N rec x1 x2 S)) : rX G E dX12_decision mX12_decision 155 [some (.ref E.1), some (.int x1), some (.int x2), none, none, none] [] S Q := by
  unfold O_decision_155 at ok
  unfold F_decision_155 at hx
  refine r_iinc_2 (v := (x2 + nI 1)) dX12_decision_155 rfl (by first | rfl | (congr 1)) (by decide) rfl ?_
  refine r_goto (tgt := 100) dX12_decision_158 (by decide) ?_
  exact rX.cutz (hrec _ _ S ok hx) ⟨rfl, rfl, rfl, trivial⟩
def F_decision_153 (N : Nat) (x3 : Int32) (S : rS) : Int32 × rS := (x3, S)
def O_decision_153 (N : Nat) (x3 : Int32) (S : rS) : Prop := True
set_option maxHeartbeats 4000000 in
theorem b_decision_153 {G : zG} {E : rE} {S : rS} {N : Nat} {Q : Option Value → rS → Prop} {X : Int32 × rS → Prop} (hG : zOK G) (hR : ∀ v S', X (v, S') → Q (some (.int v)) S') {x3 : Int32} (ok : O_decision_153 N x3 S) (hx : X (F_decision_153 N x3 S)) : rX G E dX12_decision mX12_decision 153 [none, none, none, some (.int x3), none, none] [] S Q := by
  unfold O_decision_153 at ok
  unfold F_decision_153 at hx
  refine r_iload_n dX12_decision_153 rfl rfl ?_
  exact r_ireturn rfl rfl dX12_decision_154 (hR _ _ hx)
def F_decision_150 (N : Nat) (rec : Int32 → Int32 → rS → Nat × Int32 × rS) (x1 : Int32) (x2 : Int32) (x3 : Int32) (s0 : Int32) (S : rS) : Nat × Int32 × rS := (if s0 = 0 then (F_decision_155 N rec x1 x2 S) else (0, x3, S))
def O_decision_150 (N : Nat) (rok : Int32 → Int32 → rS → Prop) (x1 : Int32) (x2 : Int32) (x3 : Int32) (s0 : Int32) (S : rS) : Prop := ((s0 = 0 → O_decision_155 N rok x1 x2 S) ∧ (¬ s0 = 0 → True))
set_option maxHeartbeats 4000000 in
theorem b_decision_150 {G : zG} {E : rE} {S : rS} {N : Nat} {Q : Option Value → rS → Prop} {X : Nat × Int32 × rS → Prop} (hG : zOK G) (hX0 : ∀ (x3 : Int32) (S' : rS), X (0, x3, S') → rX G E dX12_decision mX12_decision 153 [none, none, none, some (.int x3), none, none] [] S' Q) (hX1 : ∀ (x3 : Int32) (S' : rS), X (1, x3, S') → rX G E dX12_decision mX12_decision 161 [none, none, none, none, none, none] [] S' Q) {rec : Int32 → Int32 → rS → Nat × Int32 × rS} {rok : Int32 → Int32 → rS → Prop} (hrec : ∀ (x1 : Int32) (x2 : Int32) (S : rS), rok x1 x2 S → X (rec x1 x2 S) → rX G E dX12_decision mX12_decision 100 [some (.ref E.1), some (.int x1), some (.int x2), none, none, none] [] S Q) {x1 : Int32} {x2 : Int32} {x3 : Int32} {s0 : Int32} (ok : O_decision_150 N rok x1 x2 x3 s0 S) (hx : X (F_decision_150 N rec x1 x2 x3 s0 S)) : rX G E dX12_decision mX12_decision 150 [some (.ref E.1), some (.int x1), some (.int x2), some (.int x3), none, none] [.int s0] S Q := by
  unfold O_decision_150 at ok
  unfold F_decision_150 at hx
  refine r_if_eq (tgt := 155) dX12_decision_150 (by decide) (fun c_150 => ?_) (fun c_150 => ?_)
  · have ok := ok.1 c_150
    have hx := xif_p c_150 hx
    exact rX.cutz (b_decision_155 hG hX0 hX1 hrec ok hx) ⟨rfl, rfl, rfl, trivial⟩
  · have ok := ok.2 c_150
    have hx := xif_n c_150 hx
    exact rX.cutz (hX0 _ S hx) ⟨rfl, trivial⟩
def B_decision_100 (N : Nat) (rec : Int32 → Int32 → rS → Nat × Int32 × rS) (x1 : Int32) (x2 : Int32) (S : rS) : Nat × Int32 × rS := (if (nI 16) ≤ x2 then (1, 0, S) else (if (f_isThere N S ((nI 0) + (f_heldAt N S x1 (S.2.1 44 x1.toNatClampNeg) x2))) = 0 then (F_decision_155 N rec x1 x2 S) else (if (f_count0 N S (nI 1) x1 x2 (nI 2) ((nI 0) + (f_heldAt N S x1 (S.2.1 44 x1.toNatClampNeg) x2))) < (f_quorum N S) then (F_decision_155 N rec x1 x2 S) else (F_decision_150 N rec x1 x2 ((nI 0) + (f_heldAt N S x1 (S.2.1 44 x1.toNatClampNeg) x2)) ((f_isValid N S x1 ((nI 0) + (f_heldAt N S x1 (S.2.1 44 x1.toNatClampNeg) x2))).1) (f_isValid N S x1 ((nI 0) + (f_heldAt N S x1 (S.2.1 44 x1.toNatClampNeg) x2))).2))))
def OB_decision_100 (N : Nat) (rok : Int32 → Int32 → rS → Prop) (x1 : Int32) (x2 : Int32) (S : rS) : Prop := (((nI 16) ≤ x2 → True) ∧ (¬ (nI 16) ≤ x2 → (vp_in x1 13) ∧ (o_heldAt N S x1 (S.2.1 44 x1.toNatClampNeg) x2) ∧ (o_isThere N S ((nI 0) + (f_heldAt N S x1 (S.2.1 44 x1.toNatClampNeg) x2))) ∧ (((f_isThere N S ((nI 0) + (f_heldAt N S x1 (S.2.1 44 x1.toNatClampNeg) x2))) = 0 → O_decision_155 N rok x1 x2 S) ∧ (¬ (f_isThere N S ((nI 0) + (f_heldAt N S x1 (S.2.1 44 x1.toNatClampNeg) x2))) = 0 → (o_count0 N S (nI 1) x1 x2 (nI 2) ((nI 0) + (f_heldAt N S x1 (S.2.1 44 x1.toNatClampNeg) x2))) ∧ (o_quorum N S) ∧ (((f_count0 N S (nI 1) x1 x2 (nI 2) ((nI 0) + (f_heldAt N S x1 (S.2.1 44 x1.toNatClampNeg) x2))) < (f_quorum N S) → O_decision_155 N rok x1 x2 S) ∧ (¬ (f_count0 N S (nI 1) x1 x2 (nI 2) ((nI 0) + (f_heldAt N S x1 (S.2.1 44 x1.toNatClampNeg) x2))) < (f_quorum N S) → (o_isValid N S x1 ((nI 0) + (f_heldAt N S x1 (S.2.1 44 x1.toNatClampNeg) x2))) ∧ O_decision_150 N rok x1 x2 ((nI 0) + (f_heldAt N S x1 (S.2.1 44 x1.toNatClampNeg) x2)) ((f_isValid N S x1 ((nI 0) + (f_heldAt N S x1 (S.2.1 44 x1.toNatClampNeg) x2))).1) (f_isValid N S x1 ((nI 0) + (f_heldAt N S x1 (S.2.1 44 x1.toNatClampNeg) x2))).2))))))
set_option maxHeartbeats 4000000 in
theorem bb_decision_100 {G : zG} {E : rE} {S : rS} {N : Nat} {Q : Option Value → rS → Prop} {X : Nat × Int32 × rS → Prop} (hG : zOK G) (hX0 : ∀ (x3 : Int32) (S' : rS), X (0, x3, S') → rX G E dX12_decision mX12_decision 153 [none, none, none, some (.int x3), none, none] [] S' Q) (hX1 : ∀ (x3 : Int32) (S' : rS), X (1, x3, S') → rX G E dX12_decision mX12_decision 161 [none, none, none, none, none, none] [] S' Q) {rec : Int32 → Int32 → rS → Nat × Int32 × rS} {rok : Int32 → Int32 → rS → Prop} (hrec : ∀ (x1 : Int32) (x2 : Int32) (S : rS), rok x1 x2 S → X (rec x1 x2 S) → rX G E dX12_decision mX12_decision 100 [some (.ref E.1), some (.int x1), some (.int x2), none, none, none] [] S Q) {x1 : Int32} {x2 : Int32} (ok : OB_decision_100 N rok x1 x2 S) (hx : X (B_decision_100 N rec x1 x2 S)) : rX G E dX12_decision mX12_decision 100 [some (.ref E.1), some (.int x1), some (.int x2), none, none, none] [] S Q := by
  unfold OB_decision_100 at ok
  unfold B_decision_100 at hx
  refine r_iload_n dX12_decision_100 rfl rfl ?_
  refine r_bipush (v := nI 16) dX12_decision_101 (by decide) ?_
  refine r_icmp_ge (tgt := 161) dX12_decision_103 (by decide) (fun c_103 => ?_) (fun c_103 => ?_)
  · have ok := ok.1 c_103
    have hx := xif_p c_103 hx
    exact rX.cutz (hX1 _ S hx) trivial
  · have ok := ok.2 c_103
    have hx := xif_n c_103 hx
    refine r_iconst (v := nI 0) dX12_decision_106 (by decide) ?_
    refine r_iload_n dX12_decision_107 rfl rfl ?_
    refine r_aload_n dX12_decision_108 rfl rfl ?_
    refine r_getA 44 fX12_309 (by decide) (by decide) dX12_decision_109 ?_
    refine r_iload_n dX12_decision_112 rfl rfl ?_
    refine r_iald (by decide) (by decide) dX12_decision_113 ok.1 ?_
    have ok := ok.2
    refine r_iload_n dX12_decision_114 rfl rfl ?_
    refine r_S3i (y' := mX12_heldAt) dX12_decision_115 lX12_466 kX12_heldAt ⟨by decide, by decide⟩ (Nat.le_of_ble_eq_true rfl) (rc_X12_heldAt hG ok.1) (fun v_115 S_115 h_115 => ?_)
    obtain ⟨rfl, hS_115⟩ := h_115
    have hS_115 := hS_115.symm
    subst hS_115
    have ok := ok.2
    refine r_iadd dX12_decision_118 ?_
    refine r_istore_3 dX12_decision_119 (by decide) rfl ?_
    refine r_aload_n dX12_decision_120 rfl rfl ?_
    refine r_iload_n dX12_decision_121 rfl rfl ?_
    refine r_V1i (y' := mX12_isThere) dX12_decision_122 lX12_63 kX12_isThere ⟨by decide, by decide⟩ rfl (Nat.le_of_ble_eq_true rfl) (rc_X12_isThere hG ok.1) (fun v_122 S_122 h_122 => ?_)
    obtain ⟨rfl, hS_122⟩ := h_122
    have hS_122 := hS_122.symm
    subst hS_122
    have ok := ok.2
    refine r_if_eq (tgt := 155) dX12_decision_125 (by decide) (fun c_125 => ?_) (fun c_125 => ?_)
    · have ok := ok.1 c_125
      have hx := xif_p c_125 hx
      exact rX.cutz (b_decision_155 hG hX0 hX1 hrec ok hx) ⟨rfl, rfl, rfl, trivial⟩
    · have ok := ok.2 c_125
      have hx := xif_n c_125 hx
      refine r_aload_n dX12_decision_128 rfl rfl ?_
      refine r_iconst (v := nI 1) dX12_decision_129 (by decide) ?_
      refine r_iload_n dX12_decision_130 rfl rfl ?_
      refine r_iload_n dX12_decision_131 rfl rfl ?_
      refine r_iconst (v := nI 2) dX12_decision_132 (by decide) ?_
      refine r_iload_n dX12_decision_133 rfl rfl ?_
      refine r_V5i (y' := mX12_count0) dX12_decision_134 lX12_600 kX12_count0 ⟨by decide, by decide⟩ rfl (Nat.le_of_ble_eq_true rfl) (rc_X12_count0 hG ok.1) (fun v_134 S_134 h_134 => ?_)
      obtain ⟨rfl, hS_134⟩ := h_134
      have hS_134 := hS_134.symm
      subst hS_134
      have ok := ok.2
      refine r_aload_n dX12_decision_137 rfl rfl ?_
      refine r_V0i (y' := mX12_quorum) dX12_decision_138 lX12_603 kX12_quorum ⟨by decide, by decide⟩ rfl (Nat.le_of_ble_eq_true rfl) (rc_X12_quorum hG ok.1) (fun v_138 S_138 h_138 => ?_)
      obtain ⟨rfl, hS_138⟩ := h_138
      have hS_138 := hS_138.symm
      subst hS_138
      have ok := ok.2
      refine r_icmp_lt (tgt := 155) dX12_decision_141 (by decide) (fun c_141 => ?_) (fun c_141 => ?_)
      · have ok := ok.1 c_141
        have hx := xif_p c_141 hx
        exact rX.cutz (b_decision_155 hG hX0 hX1 hrec ok hx) ⟨rfl, rfl, rfl, trivial⟩
      · have ok := ok.2 c_141
        have hx := xif_n c_141 hx
        refine r_aload_n dX12_decision_144 rfl rfl ?_
        refine r_iload_n dX12_decision_145 rfl rfl ?_
        refine r_iload_n dX12_decision_146 rfl rfl ?_
        refine r_V2i (y' := mX12_isValid) dX12_decision_147 lX12_597 kX12_isValid ⟨by decide, by decide⟩ rfl (Nat.le_of_ble_eq_true rfl) (rc_X12_isValid hG ok.1) (fun v_147 S_147 h_147 => ?_)
        obtain ⟨rfl, hS_147⟩ := h_147
        have hS_147 := hS_147.symm
        subst hS_147
        have ok := ok.2
        exact rX.cutz (b_decision_150 hG hX0 hX1 hrec ok hx) ⟨rfl, rfl, rfl, rfl, trivial⟩
def L_decision_100 (N : Nat) : Nat → Int32 → Int32 → rS → Nat × Int32 × rS
  | 0, x1, x2, S => (0, 0, S)
  | n + 1, x1, x2, S => B_decision_100 N (L_decision_100 N n) x1 x2 S
def OL_decision_100 (N : Nat) : Nat → Int32 → Int32 → rS → Prop
  | 0, _, _, _ => False
  | n + 1, x1, x2, S => OB_decision_100 N (OL_decision_100 N n) x1 x2 S
set_option maxHeartbeats 4000000 in
theorem l_decision_100 {G : zG} {E : rE} {N : Nat} {Q : Option Value → rS → Prop} {X : Nat × Int32 × rS → Prop} (hG : zOK G) (hX0 : ∀ (x3 : Int32) (S' : rS), X (0, x3, S') → rX G E dX12_decision mX12_decision 153 [none, none, none, some (.int x3), none, none] [] S' Q) (hX1 : ∀ (x3 : Int32) (S' : rS), X (1, x3, S') → rX G E dX12_decision mX12_decision 161 [none, none, none, none, none, none] [] S' Q) : ∀ (n : Nat) (x1 : Int32) (x2 : Int32) (S : rS), OL_decision_100 N n x1 x2 S → X (L_decision_100 N n x1 x2 S) → rX G E dX12_decision mX12_decision 100 [some (.ref E.1), some (.int x1), some (.int x2), none, none, none] [] S Q := by
  intro n
  induction n with
  | zero => intro x1 x2 S ok; exact absurd ok id
  | succ n ih =>
    intro x1 x2 S ok hx
    exact bb_decision_100 hG hX0 hX1 (rec := L_decision_100 N n) (rok := OL_decision_100 N n) (fun x1 x2 S ok hx => ih x1 x2 S ok hx) ok hx
def A_decision_100 (N : Nat) (x1 : Int32) (x2 : Int32) (S : rS) (z : Nat × Int32 × rS) : Int32 × rS := (if z.1 = 0 then (F_decision_153 N (z.2.1) z.2.2) else (F_decision_161 N z.2.2))
def OA_decision_100 (N : Nat) (x1 : Int32) (x2 : Int32) (S : rS) (z : Nat × Int32 × rS) : Prop := (if z.1 = 0 then O_decision_153 N (z.2.1) z.2.2 else O_decision_161 N z.2.2)
set_option maxHeartbeats 4000000 in
theorem c_decision_100 {G : zG} {E : rE} {S : rS} {N : Nat} {Q : Option Value → rS → Prop} {X : Int32 × rS → Prop} (hG : zOK G) (hR : ∀ v S', X (v, S') → Q (some (.int v)) S') {x1 : Int32} {x2 : Int32} (ok : OL_decision_100 N N x1 x2 S ∧ OA_decision_100 N x1 x2 S (L_decision_100 N N x1 x2 S)) (hx : X (A_decision_100 N x1 x2 S (L_decision_100 N N x1 x2 S))) : rX G E dX12_decision mX12_decision 100 [some (.ref E.1), some (.int x1), some (.int x2), none, none, none] [] S Q := by
  refine l_decision_100 hG ?_ ?_ N x1 x2 S ok.1 (X := fun z => OA_decision_100 N x1 x2 S z ∧ X (A_decision_100 N x1 x2 S z)) ⟨ok.2, hx⟩
  · intro x3' S' hz
    obtain ⟨ok, hx⟩ := hz
    unfold OA_decision_100 at ok
    unfold A_decision_100 at hx
    have ok := xif_P (show (0 : Nat) = 0 from rfl) ok
    have hx := xif_p (show (0 : Nat) = 0 from rfl) hx
    exact rX.cutz (b_decision_153 hG hR ok hx) ⟨rfl, trivial⟩
  · intro x3' S' hz
    obtain ⟨ok, hx⟩ := hz
    unfold OA_decision_100 at ok
    unfold A_decision_100 at hx
    have ok := xif_N (show ¬ (1 : Nat) = 0 by decide) ok
    have hx := xif_n (show ¬ (1 : Nat) = 0 by decide) hx
    exact rX.cutz (b_decision_161 hG hR ok hx) trivial
def F_decision_98 (N : Nat) (x1 : Int32) (S : rS) : Int32 × rS := (A_decision_100 N x1 (nI 0) S (L_decision_100 N N x1 (nI 0) S))
def O_decision_98 (N : Nat) (x1 : Int32) (S : rS) : Prop := (OL_decision_100 N N x1 (nI 0) S ∧ OA_decision_100 N x1 (nI 0) S (L_decision_100 N N x1 (nI 0) S))
set_option maxHeartbeats 4000000 in
theorem b_decision_98 {G : zG} {E : rE} {S : rS} {N : Nat} {Q : Option Value → rS → Prop} {X : Int32 × rS → Prop} (hG : zOK G) (hR : ∀ v S', X (v, S') → Q (some (.int v)) S') {x1 : Int32} (ok : O_decision_98 N x1 S) (hx : X (F_decision_98 N x1 S)) : rX G E dX12_decision mX12_decision 98 [some (.ref E.1), some (.int x1), none, none, none, none] [] S Q := by
  unfold O_decision_98 at ok
  unfold F_decision_98 at hx
  refine r_iconst (v := nI 0) dX12_decision_98 (by decide) ?_
  refine r_istore_2 dX12_decision_99 (by decide) rfl ?_
  exact rX.cutz (c_decision_100 hG hR ok hx) ⟨rfl, rfl, rfl, trivial⟩
def F_decision_92 (N : Nat) (rec : Int32 → Int32 → rS → Nat × Int32 × Int32 × rS) (x1 : Int32) (x2 : Int32) (S : rS) : Nat × Int32 × Int32 × rS := (rec x1 (x2 + nI 1) S)
def O_decision_92 (N : Nat) (rok : Int32 → Int32 → rS → Prop) (x1 : Int32) (x2 : Int32) (S : rS) : Prop := rok x1 (x2 + nI 1) S
set_option maxHeartbeats 4000000 in
theorem b_decision_92 {G : zG} {E : rE} {S : rS} {N : Nat} {Q : Option Value → rS → Prop} {X : Nat × Int32 × Int32 × rS → Prop} (hG : zOK G) (hX0 : ∀ (x1 : Int32) (x3 : Int32) (S' : rS), X (0, x1, x3, S') → rX G E dX12_decision mX12_decision 90 [none, none, none, some (.int x3), none, none] [] S' Q) (hX1 : ∀ (x1 : Int32) (x3 : Int32) (S' : rS), X (1, x1, x3, S') → rX G E dX12_decision mX12_decision 98 [some (.ref E.1), some (.int x1), none, none, none, none] [] S' Q) {rec : Int32 → Int32 → rS → Nat × Int32 × Int32 × rS} {rok : Int32 → Int32 → rS → Prop} (hrec : ∀ (x1 : Int32) (x2 : Int32) (S : rS), rok x1 x2 S → X (rec x1 x2 S) → rX G E dX12_decision mX12_decision 2 [some (.ref E.1), some (.int x1), some (.int x2), none, none, none] [] S Q) {x1 : Int32} {x2 : Int32} (ok : O_decision_92 N rok x1 x2 S) (hx : X (F_decision_92 N rec x1 x2 S)) : rX G E dX12_decision mX12_decision 92 [some (.ref E.1), some (.int x1), some (.int x2), none, none, none] [] S Q := by
  unfold O_decision_92 at ok
  unfold F_decision_92 at hx
  refine r_iinc_2 (v := (x2 + nI 1)) dX12_decision_92 rfl (by first | rfl | (congr 1)) (by decide) rfl ?_
  refine r_goto (tgt := 2) dX12_decision_95 (by decide) ?_
  exact rX.cutz (hrec _ _ S ok hx) ⟨rfl, rfl, rfl, trivial⟩
def F_decision_90 (N : Nat) (x3 : Int32) (S : rS) : Int32 × rS := (x3, S)
def O_decision_90 (N : Nat) (x3 : Int32) (S : rS) : Prop := True
set_option maxHeartbeats 4000000 in
theorem b_decision_90 {G : zG} {E : rE} {S : rS} {N : Nat} {Q : Option Value → rS → Prop} {X : Int32 × rS → Prop} (hG : zOK G) (hR : ∀ v S', X (v, S') → Q (some (.int v)) S') {x3 : Int32} (ok : O_decision_90 N x3 S) (hx : X (F_decision_90 N x3 S)) : rX G E dX12_decision mX12_decision 90 [none, none, none, some (.int x3), none, none] [] S Q := by
  unfold O_decision_90 at ok
  unfold F_decision_90 at hx
  refine r_iload_n dX12_decision_90 rfl rfl ?_
  exact r_ireturn rfl rfl dX12_decision_91 (hR _ _ hx)
def F_decision_87 (N : Nat) (rec : Int32 → Int32 → rS → Nat × Int32 × Int32 × rS) (x1 : Int32) (x2 : Int32) (x3 : Int32) (s0 : Int32) (S : rS) : Nat × Int32 × Int32 × rS := (if s0 = 0 then (F_decision_92 N rec x1 x2 S) else (0, 0, x3, S))
def O_decision_87 (N : Nat) (rok : Int32 → Int32 → rS → Prop) (x1 : Int32) (x2 : Int32) (x3 : Int32) (s0 : Int32) (S : rS) : Prop := ((s0 = 0 → O_decision_92 N rok x1 x2 S) ∧ (¬ s0 = 0 → True))
set_option maxHeartbeats 4000000 in
theorem b_decision_87 {G : zG} {E : rE} {S : rS} {N : Nat} {Q : Option Value → rS → Prop} {X : Nat × Int32 × Int32 × rS → Prop} (hG : zOK G) (hX0 : ∀ (x1 : Int32) (x3 : Int32) (S' : rS), X (0, x1, x3, S') → rX G E dX12_decision mX12_decision 90 [none, none, none, some (.int x3), none, none] [] S' Q) (hX1 : ∀ (x1 : Int32) (x3 : Int32) (S' : rS), X (1, x1, x3, S') → rX G E dX12_decision mX12_decision 98 [some (.ref E.1), some (.int x1), none, none, none, none] [] S' Q) {rec : Int32 → Int32 → rS → Nat × Int32 × Int32 × rS} {rok : Int32 → Int32 → rS → Prop} (hrec : ∀ (x1 : Int32) (x2 : Int32) (S : rS), rok x1 x2 S → X (rec x1 x2 S) → rX G E dX12_decision mX12_decision 2 [some (.ref E.1), some (.int x1), some (.int x2), none, none, none] [] S Q) {x1 : Int32} {x2 : Int32} {x3 : Int32} {s0 : Int32} (ok : O_decision_87 N rok x1 x2 x3 s0 S) (hx : X (F_decision_87 N rec x1 x2 x3 s0 S)) : rX G E dX12_decision mX12_decision 87 [some (.ref E.1), some (.int x1), some (.int x2), some (.int x3), none, none] [.int s0] S Q := by
  unfold O_decision_87 at ok
  unfold F_decision_87 at hx
  refine r_if_eq (tgt := 92) dX12_decision_87 (by decide) (fun c_87 => ?_) (fun c_87 => ?_)
  · have ok := ok.1 c_87
    have hx := xif_p c_87 hx
    exact rX.cutz (b_decision_92 hG hX0 hX1 hrec ok hx) ⟨rfl, rfl, rfl, trivial⟩
  · have ok := ok.2 c_87
    have hx := xif_n c_87 hx
    exact rX.cutz (hX0 _ _ S hx) ⟨rfl, trivial⟩
def F_decision_72 (N : Nat) (rec : Int32 → Int32 → rS → Nat × Int32 × Int32 × rS) (x1 : Int32) (x2 : Int32) (x3 : Int32) (x4 : Int32) (S : rS) : Nat × Int32 × Int32 × rS := (if x4 ≤ (S.1 1) then (F_decision_92 N rec x1 x2 S) else (F_decision_87 N rec x1 x2 x3 ((f_isValid N S x1 x3).1) (f_isValid N S x1 x3).2))
def O_decision_72 (N : Nat) (rok : Int32 → Int32 → rS → Prop) (x1 : Int32) (x2 : Int32) (x3 : Int32) (x4 : Int32) (S : rS) : Prop := ((x4 ≤ (S.1 1) → O_decision_92 N rok x1 x2 S) ∧ (¬ x4 ≤ (S.1 1) → (o_isValid N S x1 x3) ∧ O_decision_87 N rok x1 x2 x3 ((f_isValid N S x1 x3).1) (f_isValid N S x1 x3).2))
set_option maxHeartbeats 4000000 in
theorem b_decision_72 {G : zG} {E : rE} {S : rS} {N : Nat} {Q : Option Value → rS → Prop} {X : Nat × Int32 × Int32 × rS → Prop} (hG : zOK G) (hX0 : ∀ (x1 : Int32) (x3 : Int32) (S' : rS), X (0, x1, x3, S') → rX G E dX12_decision mX12_decision 90 [none, none, none, some (.int x3), none, none] [] S' Q) (hX1 : ∀ (x1 : Int32) (x3 : Int32) (S' : rS), X (1, x1, x3, S') → rX G E dX12_decision mX12_decision 98 [some (.ref E.1), some (.int x1), none, none, none, none] [] S' Q) {rec : Int32 → Int32 → rS → Nat × Int32 × Int32 × rS} {rok : Int32 → Int32 → rS → Prop} (hrec : ∀ (x1 : Int32) (x2 : Int32) (S : rS), rok x1 x2 S → X (rec x1 x2 S) → rX G E dX12_decision mX12_decision 2 [some (.ref E.1), some (.int x1), some (.int x2), none, none, none] [] S Q) {x1 : Int32} {x2 : Int32} {x3 : Int32} {x4 : Int32} (ok : O_decision_72 N rok x1 x2 x3 x4 S) (hx : X (F_decision_72 N rec x1 x2 x3 x4 S)) : rX G E dX12_decision mX12_decision 72 [some (.ref E.1), some (.int x1), some (.int x2), some (.int x3), some (.int x4), none] [] S Q := by
  unfold O_decision_72 at ok
  unfold F_decision_72 at hx
  refine r_iload dX12_decision_72 rfl ?_
  refine r_aload_n dX12_decision_74 rfl rfl ?_
  refine r_getI 1 fX12_442 (by decide) (by decide) dX12_decision_75 ?_
  refine r_icmp_le (tgt := 92) dX12_decision_78 (by decide) (fun c_78 => ?_) (fun c_78 => ?_)
  · have ok := ok.1 c_78
    have hx := xif_p c_78 hx
    exact rX.cutz (b_decision_92 hG hX0 hX1 hrec ok hx) ⟨rfl, rfl, rfl, trivial⟩
  · have ok := ok.2 c_78
    have hx := xif_n c_78 hx
    refine r_aload_n dX12_decision_81 rfl rfl ?_
    refine r_iload_n dX12_decision_82 rfl rfl ?_
    refine r_iload_n dX12_decision_83 rfl rfl ?_
    refine r_V2i (y' := mX12_isValid) dX12_decision_84 lX12_597 kX12_isValid ⟨by decide, by decide⟩ rfl (Nat.le_of_ble_eq_true rfl) (rc_X12_isValid hG ok.1) (fun v_84 S_84 h_84 => ?_)
    obtain ⟨rfl, hS_84⟩ := h_84
    have hS_84 := hS_84.symm
    subst hS_84
    have ok := ok.2
    exact rX.cutz (b_decision_87 hG hX0 hX1 hrec ok hx) ⟨rfl, rfl, rfl, rfl, trivial⟩
def F_decision_64 (N : Nat) (rec : Int32 → Int32 → Int32 → Int32 → Int32 → rS → Nat × Int32 × Int32 × Int32 × Int32 × rS) (x1 : Int32) (x2 : Int32) (x3 : Int32) (x5 : Int32) (s0 : Int32) (S : rS) : Nat × Int32 × Int32 × Int32 × Int32 × rS := (rec x1 x2 x3 s0 (x5 + nI 1) S)
def O_decision_64 (N : Nat) (rok : Int32 → Int32 → Int32 → Int32 → Int32 → rS → Prop) (x1 : Int32) (x2 : Int32) (x3 : Int32) (x5 : Int32) (s0 : Int32) (S : rS) : Prop := rok x1 x2 x3 s0 (x5 + nI 1) S
set_option maxHeartbeats 4000000 in
theorem b_decision_64 {G : zG} {E : rE} {S : rS} {N : Nat} {Q : Option Value → rS → Prop} {X : Nat × Int32 × Int32 × Int32 × Int32 × rS → Prop} (hG : zOK G) (hX0 : ∀ (x1 : Int32) (x2 : Int32) (x3 : Int32) (x4 : Int32) (S' : rS), X (0, x1, x2, x3, x4, S') → rX G E dX12_decision mX12_decision 72 [some (.ref E.1), some (.int x1), some (.int x2), some (.int x3), some (.int x4), none] [] S' Q) {rec : Int32 → Int32 → Int32 → Int32 → Int32 → rS → Nat × Int32 × Int32 × Int32 × Int32 × rS} {rok : Int32 → Int32 → Int32 → Int32 → Int32 → rS → Prop} (hrec : ∀ (x1 : Int32) (x2 : Int32) (x3 : Int32) (x4 : Int32) (x5 : Int32) (S : rS), rok x1 x2 x3 x4 x5 S → X (rec x1 x2 x3 x4 x5 S) → rX G E dX12_decision mX12_decision 27 [some (.ref E.1), some (.int x1), some (.int x2), some (.int x3), some (.int x4), some (.int x5)] [] S Q) {x1 : Int32} {x2 : Int32} {x3 : Int32} {x5 : Int32} {s0 : Int32} (ok : O_decision_64 N rok x1 x2 x3 x5 s0 S) (hx : X (F_decision_64 N rec x1 x2 x3 x5 s0 S)) : rX G E dX12_decision mX12_decision 64 [some (.ref E.1), some (.int x1), some (.int x2), some (.int x3), none, some (.int x5)] [.int s0] S Q := by
  unfold O_decision_64 at ok
  unfold F_decision_64 at hx
  refine r_istore_4 dX12_decision_64 (by decide) rfl ?_
  refine r_iinc_5 (v := (x5 + nI 1)) dX12_decision_66 rfl (by first | rfl | (congr 1)) (by decide) rfl ?_
  refine r_goto (tgt := 27) dX12_decision_69 (by decide) ?_
  exact rX.cutz (hrec _ _ _ _ _ S ok hx) ⟨rfl, rfl, rfl, rfl, rfl, rfl, trivial⟩
def B_decision_27 (N : Nat) (rec : Int32 → Int32 → Int32 → Int32 → Int32 → rS → Nat × Int32 × Int32 × Int32 × Int32 × rS) (x1 : Int32) (x2 : Int32) (x3 : Int32) (x4 : Int32) (x5 : Int32) (S : rS) : Nat × Int32 × Int32 × Int32 × Int32 × rS := (if (S.1 0) ≤ x5 then (0, x1, x2, x3, x4, S) else (if (f_sameBlock N S x3 (((nI 416) + ((nI 13) * x1)) + x5)) = 0 then (F_decision_64 N rec x1 x2 x3 x5 x4 S) else (F_decision_64 N rec x1 x2 x3 x5 (x4 + (nI 1)) S)))
def OB_decision_27 (N : Nat) (rok : Int32 → Int32 → Int32 → Int32 → Int32 → rS → Prop) (x1 : Int32) (x2 : Int32) (x3 : Int32) (x4 : Int32) (x5 : Int32) (S : rS) : Prop := (((S.1 0) ≤ x5 → True) ∧ (¬ (S.1 0) ≤ x5 → (o_sameBlock N S x3 (((nI 416) + ((nI 13) * x1)) + x5)) ∧ (((f_sameBlock N S x3 (((nI 416) + ((nI 13) * x1)) + x5)) = 0 → O_decision_64 N rok x1 x2 x3 x5 x4 S) ∧ (¬ (f_sameBlock N S x3 (((nI 416) + ((nI 13) * x1)) + x5)) = 0 → O_decision_64 N rok x1 x2 x3 x5 (x4 + (nI 1)) S))))
set_option maxHeartbeats 4000000 in
theorem bb_decision_27 {G : zG} {E : rE} {S : rS} {N : Nat} {Q : Option Value → rS → Prop} {X : Nat × Int32 × Int32 × Int32 × Int32 × rS → Prop} (hG : zOK G) (hX0 : ∀ (x1 : Int32) (x2 : Int32) (x3 : Int32) (x4 : Int32) (S' : rS), X (0, x1, x2, x3, x4, S') → rX G E dX12_decision mX12_decision 72 [some (.ref E.1), some (.int x1), some (.int x2), some (.int x3), some (.int x4), none] [] S' Q) {rec : Int32 → Int32 → Int32 → Int32 → Int32 → rS → Nat × Int32 × Int32 × Int32 × Int32 × rS} {rok : Int32 → Int32 → Int32 → Int32 → Int32 → rS → Prop} (hrec : ∀ (x1 : Int32) (x2 : Int32) (x3 : Int32) (x4 : Int32) (x5 : Int32) (S : rS), rok x1 x2 x3 x4 x5 S → X (rec x1 x2 x3 x4 x5 S) → rX G E dX12_decision mX12_decision 27 [some (.ref E.1), some (.int x1), some (.int x2), some (.int x3), some (.int x4), some (.int x5)] [] S Q) {x1 : Int32} {x2 : Int32} {x3 : Int32} {x4 : Int32} {x5 : Int32} (ok : OB_decision_27 N rok x1 x2 x3 x4 x5 S) (hx : X (B_decision_27 N rec x1 x2 x3 x4 x5 S)) : rX G E dX12_decision mX12_decision 27 [some (.ref E.1), some (.int x1), some (.int x2), some (.int x3), some (.int x4), some (.int x5)] [] S Q := by
  unfold OB_decision_27 at ok
  unfold B_decision_27 at hx
  refine r_iload dX12_decision_27 rfl ?_
  refine r_aload_n dX12_decision_29 rfl rfl ?_
  refine r_getI 0 fX12_219 (by decide) (by decide) dX12_decision_30 ?_
  refine r_icmp_ge (tgt := 72) dX12_decision_33 (by decide) (fun c_33 => ?_) (fun c_33 => ?_)
  · have ok := ok.1 c_33
    have hx := xif_p c_33 hx
    exact rX.cutz (hX0 _ _ _ _ S hx) ⟨rfl, rfl, rfl, rfl, rfl, trivial⟩
  · have ok := ok.2 c_33
    have hx := xif_n c_33 hx
    refine r_aload_n dX12_decision_36 rfl rfl ?_
    refine r_iload_n dX12_decision_37 rfl rfl ?_
    refine r_sipush (v := nI 416) dX12_decision_38 (by decide) ?_
    refine r_bipush (v := nI 13) dX12_decision_41 (by decide) ?_
    refine r_iload_n dX12_decision_43 rfl rfl ?_
    refine r_imul dX12_decision_44 ?_
    refine r_iadd dX12_decision_45 ?_
    refine r_iload dX12_decision_46 rfl ?_
    refine r_iadd dX12_decision_48 ?_
    refine r_V2i (y' := mX12_sameBlock) dX12_decision_49 lX12_594 kX12_sameBlock ⟨by decide, by decide⟩ rfl (Nat.le_of_ble_eq_true rfl) (rc_X12_sameBlock hG ok.1) (fun v_49 S_49 h_49 => ?_)
    obtain ⟨rfl, hS_49⟩ := h_49
    have hS_49 := hS_49.symm
    subst hS_49
    have ok := ok.2
    refine r_if_eq (tgt := 62) dX12_decision_52 (by decide) (fun c_52 => ?_) (fun c_52 => ?_)
    · have ok := ok.1 c_52
      have hx := xif_p c_52 hx
      refine r_iload dX12_decision_62 rfl ?_
      exact rX.cutz (b_decision_64 hG hX0 hrec ok hx) ⟨rfl, rfl, rfl, rfl, rfl, trivial⟩
    · have ok := ok.2 c_52
      have hx := xif_n c_52 hx
      refine r_iload dX12_decision_55 rfl ?_
      refine r_iconst (v := nI 1) dX12_decision_57 (by decide) ?_
      refine r_iadd dX12_decision_58 ?_
      refine r_goto (tgt := 64) dX12_decision_59 (by decide) ?_
      exact rX.cutz (b_decision_64 hG hX0 hrec ok hx) ⟨rfl, rfl, rfl, rfl, rfl, trivial⟩
def L_decision_27 (N : Nat) : Nat → Int32 → Int32 → Int32 → Int32 → Int32 → rS → Nat × Int32 × Int32 × Int32 × Int32 × rS
  | 0, x1, x2, x3, x4, x5, S => (0, 0, 0, 0, 0, S)
  | n + 1, x1, x2, x3, x4, x5, S => B_decision_27 N (L_decision_27 N n) x1 x2 x3 x4 x5 S
def OL_decision_27 (N : Nat) : Nat → Int32 → Int32 → Int32 → Int32 → Int32 → rS → Prop
  | 0, _, _, _, _, _, _ => False
  | n + 1, x1, x2, x3, x4, x5, S => OB_decision_27 N (OL_decision_27 N n) x1 x2 x3 x4 x5 S
set_option maxHeartbeats 4000000 in
theorem l_decision_27 {G : zG} {E : rE} {N : Nat} {Q : Option Value → rS → Prop} {X : Nat × Int32 × Int32 × Int32 × Int32 × rS → Prop} (hG : zOK G) (hX0 : ∀ (x1 : Int32) (x2 : Int32) (x3 : Int32) (x4 : Int32) (S' : rS), X (0, x1, x2, x3, x4, S') → rX G E dX12_decision mX12_decision 72 [some (.ref E.1), some (.int x1), some (.int x2), some (.int x3), some (.int x4), none] [] S' Q) : ∀ (n : Nat) (x1 : Int32) (x2 : Int32) (x3 : Int32) (x4 : Int32) (x5 : Int32) (S : rS), OL_decision_27 N n x1 x2 x3 x4 x5 S → X (L_decision_27 N n x1 x2 x3 x4 x5 S) → rX G E dX12_decision mX12_decision 27 [some (.ref E.1), some (.int x1), some (.int x2), some (.int x3), some (.int x4), some (.int x5)] [] S Q := by
  intro n
  induction n with
  | zero => intro x1 x2 x3 x4 x5 S ok; exact absurd ok id
  | succ n ih =>
    intro x1 x2 x3 x4 x5 S ok hx
    exact bb_decision_27 hG hX0 (rec := L_decision_27 N n) (rok := OL_decision_27 N n) (fun x1 x2 x3 x4 x5 S ok hx => ih x1 x2 x3 x4 x5 S ok hx) ok hx
def A_decision_27 (N : Nat) (rec : Int32 → Int32 → rS → Nat × Int32 × Int32 × rS) (x1 : Int32) (x2 : Int32) (x3 : Int32) (x4 : Int32) (x5 : Int32) (S : rS) (z : Nat × Int32 × Int32 × Int32 × Int32 × rS) : Nat × Int32 × Int32 × rS := (F_decision_72 N rec (z.2.1) (z.2.2.1) (z.2.2.2.1) (z.2.2.2.2.1) z.2.2.2.2.2)
def OA_decision_27 (N : Nat) (rok : Int32 → Int32 → rS → Prop) (x1 : Int32) (x2 : Int32) (x3 : Int32) (x4 : Int32) (x5 : Int32) (S : rS) (z : Nat × Int32 × Int32 × Int32 × Int32 × rS) : Prop := O_decision_72 N rok (z.2.1) (z.2.2.1) (z.2.2.2.1) (z.2.2.2.2.1) z.2.2.2.2.2
set_option maxHeartbeats 4000000 in
theorem c_decision_27 {G : zG} {E : rE} {S : rS} {N : Nat} {Q : Option Value → rS → Prop} {X : Nat × Int32 × Int32 × rS → Prop} (hG : zOK G) (hX0 : ∀ (x1 : Int32) (x3 : Int32) (S' : rS), X (0, x1, x3, S') → rX G E dX12_decision mX12_decision 90 [none, none, none, some (.int x3), none, none] [] S' Q) (hX1 : ∀ (x1 : Int32) (x3 : Int32) (S' : rS), X (1, x1, x3, S') → rX G E dX12_decision mX12_decision 98 [some (.ref E.1), some (.int x1), none, none, none, none] [] S' Q) {rec : Int32 → Int32 → rS → Nat × Int32 × Int32 × rS} {rok : Int32 → Int32 → rS → Prop} (hrec : ∀ (x1 : Int32) (x2 : Int32) (S : rS), rok x1 x2 S → X (rec x1 x2 S) → rX G E dX12_decision mX12_decision 2 [some (.ref E.1), some (.int x1), some (.int x2), none, none, none] [] S Q) {x1 : Int32} {x2 : Int32} {x3 : Int32} {x4 : Int32} {x5 : Int32} (ok : OL_decision_27 N N x1 x2 x3 x4 x5 S ∧ OA_decision_27 N rok x1 x2 x3 x4 x5 S (L_decision_27 N N x1 x2 x3 x4 x5 S)) (hx : X (A_decision_27 N rec x1 x2 x3 x4 x5 S (L_decision_27 N N x1 x2 x3 x4 x5 S))) : rX G E dX12_decision mX12_decision 27 [some (.ref E.1), some (.int x1), some (.int x2), some (.int x3), some (.int x4), some (.int x5)] [] S Q := by
  refine l_decision_27 hG ?_ N x1 x2 x3 x4 x5 S ok.1 (X := fun z => OA_decision_27 N rok x1 x2 x3 x4 x5 S z ∧ X (A_decision_27 N rec x1 x2 x3 x4 x5 S z)) ⟨ok.2, hx⟩
  · intro x1' x2' x3' x4' S' hz
    obtain ⟨ok, hx⟩ := hz
    unfold OA_decision_27 at ok
    unfold A_decision_27 at hx
    exact rX.cutz (b_decision_72 hG hX0 hX1 hrec ok hx) ⟨rfl, rfl, rfl, rfl, rfl, trivial⟩
def B_decision_2 (N : Nat) (rec : Int32 → Int32 → rS → Nat × Int32 × Int32 × rS) (x1 : Int32) (x2 : Int32) (S : rS) : Nat × Int32 × Int32 × rS := (if (S.1 0) ≤ x2 then (1, x1, 0, S) else (A_decision_27 N rec x1 x2 (((nI 416) + ((nI 13) * x1)) + x2) (nI 0) (nI 0) S (L_decision_27 N N x1 x2 (((nI 416) + ((nI 13) * x1)) + x2) (nI 0) (nI 0) S)))
def OB_decision_2 (N : Nat) (rok : Int32 → Int32 → rS → Prop) (x1 : Int32) (x2 : Int32) (S : rS) : Prop := (((S.1 0) ≤ x2 → True) ∧ (¬ (S.1 0) ≤ x2 → (OL_decision_27 N N x1 x2 (((nI 416) + ((nI 13) * x1)) + x2) (nI 0) (nI 0) S ∧ OA_decision_27 N rok x1 x2 (((nI 416) + ((nI 13) * x1)) + x2) (nI 0) (nI 0) S (L_decision_27 N N x1 x2 (((nI 416) + ((nI 13) * x1)) + x2) (nI 0) (nI 0) S))))
set_option maxHeartbeats 4000000 in
theorem bb_decision_2 {G : zG} {E : rE} {S : rS} {N : Nat} {Q : Option Value → rS → Prop} {X : Nat × Int32 × Int32 × rS → Prop} (hG : zOK G) (hX0 : ∀ (x1 : Int32) (x3 : Int32) (S' : rS), X (0, x1, x3, S') → rX G E dX12_decision mX12_decision 90 [none, none, none, some (.int x3), none, none] [] S' Q) (hX1 : ∀ (x1 : Int32) (x3 : Int32) (S' : rS), X (1, x1, x3, S') → rX G E dX12_decision mX12_decision 98 [some (.ref E.1), some (.int x1), none, none, none, none] [] S' Q) {rec : Int32 → Int32 → rS → Nat × Int32 × Int32 × rS} {rok : Int32 → Int32 → rS → Prop} (hrec : ∀ (x1 : Int32) (x2 : Int32) (S : rS), rok x1 x2 S → X (rec x1 x2 S) → rX G E dX12_decision mX12_decision 2 [some (.ref E.1), some (.int x1), some (.int x2), none, none, none] [] S Q) {x1 : Int32} {x2 : Int32} (ok : OB_decision_2 N rok x1 x2 S) (hx : X (B_decision_2 N rec x1 x2 S)) : rX G E dX12_decision mX12_decision 2 [some (.ref E.1), some (.int x1), some (.int x2), none, none, none] [] S Q := by
  unfold OB_decision_2 at ok
  unfold B_decision_2 at hx
  refine r_iload_n dX12_decision_2 rfl rfl ?_
  refine r_aload_n dX12_decision_3 rfl rfl ?_
  refine r_getI 0 fX12_219 (by decide) (by decide) dX12_decision_4 ?_
  refine r_icmp_ge (tgt := 98) dX12_decision_7 (by decide) (fun c_7 => ?_) (fun c_7 => ?_)
  · have ok := ok.1 c_7
    have hx := xif_p c_7 hx
    exact rX.cutz (hX1 _ _ S hx) ⟨rfl, rfl, trivial⟩
  · have ok := ok.2 c_7
    have hx := xif_n c_7 hx
    refine r_sipush (v := nI 416) dX12_decision_10 (by decide) ?_
    refine r_bipush (v := nI 13) dX12_decision_13 (by decide) ?_
    refine r_iload_n dX12_decision_15 rfl rfl ?_
    refine r_imul dX12_decision_16 ?_
    refine r_iadd dX12_decision_17 ?_
    refine r_iload_n dX12_decision_18 rfl rfl ?_
    refine r_iadd dX12_decision_19 ?_
    refine r_istore_3 dX12_decision_20 (by decide) rfl ?_
    refine r_iconst (v := nI 0) dX12_decision_21 (by decide) ?_
    refine r_istore_4 dX12_decision_22 (by decide) rfl ?_
    refine r_iconst (v := nI 0) dX12_decision_24 (by decide) ?_
    refine r_istore_5 dX12_decision_25 (by decide) rfl ?_
    exact rX.cutz (c_decision_27 hG hX0 hX1 hrec ok hx) ⟨rfl, rfl, rfl, rfl, rfl, rfl, trivial⟩
def L_decision_2 (N : Nat) : Nat → Int32 → Int32 → rS → Nat × Int32 × Int32 × rS
  | 0, x1, x2, S => (0, 0, 0, S)
  | n + 1, x1, x2, S => B_decision_2 N (L_decision_2 N n) x1 x2 S
def OL_decision_2 (N : Nat) : Nat → Int32 → Int32 → rS → Prop
  | 0, _, _, _ => False
  | n + 1, x1, x2, S => OB_decision_2 N (OL_decision_2 N n) x1 x2 S
set_option maxHeartbeats 4000000 in
theorem l_decision_2 {G : zG} {E : rE} {N : Nat} {Q : Option Value → rS → Prop} {X : Nat × Int32 × Int32 × rS → Prop} (hG : zOK G) (hX0 : ∀ (x1 : Int32) (x3 : Int32) (S' : rS), X (0, x1, x3, S') → rX G E dX12_decision mX12_decision 90 [none, none, none, some (.int x3), none, none] [] S' Q) (hX1 : ∀ (x1 : Int32) (x3 : Int32) (S' : rS), X (1, x1, x3, S') → rX G E dX12_decision mX12_decision 98 [some (.ref E.1), some (.int x1), none, none, none, none] [] S' Q) : ∀ (n : Nat) (x1 : Int32) (x2 : Int32) (S : rS), OL_decision_2 N n x1 x2 S → X (L_decision_2 N n x1 x2 S) → rX G E dX12_decision mX12_decision 2 [some (.ref E.1), some (.int x1), some (.int x2), none, none, none] [] S Q := by
  intro n
  induction n with
  | zero => intro x1 x2 S ok; exact absurd ok id
  | succ n ih =>
    intro x1 x2 S ok hx
    exact bb_decision_2 hG hX0 hX1 (rec := L_decision_2 N n) (rok := OL_decision_2 N n) (fun x1 x2 S ok hx => ih x1 x2 S ok hx) ok hx
def A_decision_2 (N : Nat) (x1 : Int32) (x2 : Int32) (S : rS) (z : Nat × Int32 × Int32 × rS) : Int32 × rS := (if z.1 = 0 then (F_decision_90 N (z.2.2.1) z.2.2.2) else (F_decision_98 N (z.2.1) z.2.2.2))
def OA_decision_2 (N : Nat) (x1 : Int32) (x2 : Int32) (S : rS) (z : Nat × Int32 × Int32 × rS) : Prop := (if z.1 = 0 then O_decision_90 N (z.2.2.1) z.2.2.2 else O_decision_98 N (z.2.1) z.2.2.2)
set_option maxHeartbeats 4000000 in
theorem c_decision_2 {G : zG} {E : rE} {S : rS} {N : Nat} {Q : Option Value → rS → Prop} {X : Int32 × rS → Prop} (hG : zOK G) (hR : ∀ v S', X (v, S') → Q (some (.int v)) S') {x1 : Int32} {x2 : Int32} (ok : OL_decision_2 N N x1 x2 S ∧ OA_decision_2 N x1 x2 S (L_decision_2 N N x1 x2 S)) (hx : X (A_decision_2 N x1 x2 S (L_decision_2 N N x1 x2 S))) : rX G E dX12_decision mX12_decision 2 [some (.ref E.1), some (.int x1), some (.int x2), none, none, none] [] S Q := by
  refine l_decision_2 hG ?_ ?_ N x1 x2 S ok.1 (X := fun z => OA_decision_2 N x1 x2 S z ∧ X (A_decision_2 N x1 x2 S z)) ⟨ok.2, hx⟩
  · intro x1' x3' S' hz
    obtain ⟨ok, hx⟩ := hz
    unfold OA_decision_2 at ok
    unfold A_decision_2 at hx
    have ok := xif_P (show (0 : Nat) = 0 from rfl) ok
    have hx := xif_p (show (0 : Nat) = 0 from rfl) hx
    exact rX.cutz (b_decision_90 hG hR ok hx) ⟨rfl, trivial⟩
  · intro x1' x3' S' hz
    obtain ⟨ok, hx⟩ := hz
    unfold OA_decision_2 at ok
    unfold A_decision_2 at hx
    have ok := xif_N (show ¬ (1 : Nat) = 0 by decide) ok
    have hx := xif_n (show ¬ (1 : Nat) = 0 by decide) hx
    exact rX.cutz (b_decision_98 hG hR ok hx) ⟨rfl, rfl, trivial⟩
def F_decision_0 (N : Nat) (x1 : Int32) (S : rS) : Int32 × rS := (A_decision_2 N x1 (nI 0) S (L_decision_2 N N x1 (nI 0) S))
def O_decision_0 (N : Nat) (x1 : Int32) (S : rS) : Prop := (OL_decision_2 N N x1 (nI 0) S ∧ OA_decision_2 N x1 (nI 0) S (L_decision_2 N N x1 (nI 0) S))
set_option maxHeartbeats 4000000 in
theorem b_decision_0 {G : zG} {E : rE} {S : rS} {N : Nat} {Q : Option Value → rS → Prop} {X : Int32 × rS → Prop} (hG : zOK G) (hR : ∀ v S', X (v, S') → Q (some (.int v)) S') {x1 : Int32} (ok : O_decision_0 N x1 S) (hx : X (F_decision_0 N x1 S)) : rX G E dX12_decision mX12_decision 0 [some (.ref E.1), some (.int x1), none, none, none, none] [] S Q := by
  unfold O_decision_0 at ok
  unfold F_decision_0 at hx
  refine r_iconst (v := nI 0) dX12_decision_0 (by decide) ?_
  refine r_istore_2 dX12_decision_1 (by decide) rfl ?_
  exact rX.cutz (c_decision_2 hG hR ok hx) ⟨rfl, rfl, rfl, trivial⟩
def f_decision (N : Nat) (S : rS) (x1 : Int32) : Int32 × rS := F_decision_0 N x1 S
def o_decision (N : Nat) (S : rS) (x1 : Int32) : Prop := O_decision_0 N x1 S
set_option maxHeartbeats 4000000 in
theorem rc_X12_decision {G : zG} {E : rE} {S : rS} {N : Nat} (hG : zOK G) {x1 : Int32} (ok : o_decision N S x1) : rCi G E dX12_decision mX12_decision [.ref E.1, .int x1] S (fun v S' => v = (f_decision N S x1).1 ∧ S' = (f_decision N S x1).2) := by
  refine rC.ofX rfl (Nat.le_of_ble_eq_true rfl) ?_
  show rX G E dX12_decision mX12_decision 0 [some (.ref E.1), some (.int x1), none, none, none, none] [] S _
  exact rX.cutz (b_decision_0 (X := fun F => F = f_decision N S x1) hG (fun v S' h => ⟨v, rfl, by rw [← h], by rw [← h]⟩) ok rfl) ⟨rfl, rfl, trivial⟩

/-! build -/
def F_build_504 (N : Nat)  (S : rS) : rS := (f_identify N S (nI 1353))
def O_build_504 (N : Nat)  (S : rS) : Prop := (o_identify N S (nI 1353)) ∧ True
set_option maxHeartbeats 4000000 in
theorem b_build_504 {G : zG} {E : rE} {S : rS} {N : Nat} {Q : Option Value → rS → Prop} {X : rS → Prop} (hG : zOK G) (hR : ∀ S', X S' → Q none S') (ok : O_build_504 N S) (hx : X (F_build_504 N S)) : rX G E dX12_build mX12_build 504 [some (.ref E.1), none, none, none, none, none, none, none] [] S Q := by
  unfold O_build_504 at ok
  unfold F_build_504 at hx
  refine r_aload_n dX12_build_504 rfl rfl ?_
  refine r_sipush (v := nI 1353) dX12_build_505 (by decide) ?_
  refine r_V1v (y' := mX12_identify) dX12_build_508 lX12_254 kX12_identify ⟨by decide, by decide⟩ rfl (Nat.le_of_ble_eq_true rfl) (rc_X12_identify hG ok.1) (fun S_508 h_508 => ?_)
  subst h_508
  have ok := ok.2
  exact r_return rfl dX12_build_511 (hR _ hx)
def F_build_494 (N : Nat) (x3 : Int32) (S : rS) : rS := (F_build_504 N (f_setByte N S (nI 1353) (nI 100) x3))
def O_build_494 (N : Nat) (x3 : Int32) (S : rS) : Prop := (o_setByte N S (nI 1353) (nI 100) x3) ∧ O_build_504 N (f_setByte N S (nI 1353) (nI 100) x3)
set_option maxHeartbeats 4000000 in
theorem b_build_494 {G : zG} {E : rE} {S : rS} {N : Nat} {Q : Option Value → rS → Prop} {X : rS → Prop} (hG : zOK G) (hR : ∀ S', X S' → Q none S') {x3 : Int32} (ok : O_build_494 N x3 S) (hx : X (F_build_494 N x3 S)) : rX G E dX12_build mX12_build 494 [some (.ref E.1), none, none, some (.int x3), none, none, none, none] [] S Q := by
  unfold O_build_494 at ok
  unfold F_build_494 at hx
  refine r_aload_n dX12_build_494 rfl rfl ?_
  refine r_sipush (v := nI 1353) dX12_build_495 (by decide) ?_
  refine r_bipush (v := nI 100) dX12_build_498 (by decide) ?_
  refine r_iload_n dX12_build_500 rfl rfl ?_
  refine r_V3v (y' := mX12_setByte) dX12_build_501 lX12_250 kX12_setByte ⟨by decide, by decide⟩ rfl (Nat.le_of_ble_eq_true rfl) (rc_X12_setByte hG ok.1) (fun S_501 h_501 => ?_)
  subst h_501
  have ok := ok.2
  exact rX.cutz (b_build_504 hG hR ok hx) ⟨rfl, trivial⟩
def F_build_483 (N : Nat) (x3 : Int32) (x4 : Int32) (S : rS) : rS := (F_build_494 N x3 (f_setByte N S (nI 1353) (nI 99) x4))
def O_build_483 (N : Nat) (x3 : Int32) (x4 : Int32) (S : rS) : Prop := (o_setByte N S (nI 1353) (nI 99) x4) ∧ O_build_494 N x3 (f_setByte N S (nI 1353) (nI 99) x4)
set_option maxHeartbeats 4000000 in
theorem b_build_483 {G : zG} {E : rE} {S : rS} {N : Nat} {Q : Option Value → rS → Prop} {X : rS → Prop} (hG : zOK G) (hR : ∀ S', X S' → Q none S') {x3 : Int32} {x4 : Int32} (ok : O_build_483 N x3 x4 S) (hx : X (F_build_483 N x3 x4 S)) : rX G E dX12_build mX12_build 483 [some (.ref E.1), none, none, some (.int x3), some (.int x4), none, none, none] [] S Q := by
  unfold O_build_483 at ok
  unfold F_build_483 at hx
  refine r_aload_n dX12_build_483 rfl rfl ?_
  refine r_sipush (v := nI 1353) dX12_build_484 (by decide) ?_
  refine r_bipush (v := nI 99) dX12_build_487 (by decide) ?_
  refine r_iload dX12_build_489 rfl ?_
  refine r_V3v (y' := mX12_setByte) dX12_build_491 lX12_250 kX12_setByte ⟨by decide, by decide⟩ rfl (Nat.le_of_ble_eq_true rfl) (rc_X12_setByte hG ok.1) (fun S_491 h_491 => ?_)
  subst h_491
  have ok := ok.2
  exact rX.cutz (b_build_494 hG hR ok hx) ⟨rfl, rfl, trivial⟩
def F_build_477 (N : Nat) (rec : Int32 → Int32 → Int32 → rS → Nat × Int32 × Int32 × rS) (x3 : Int32) (x4 : Int32) (x5 : Int32) (S : rS) : Nat × Int32 × Int32 × rS := (rec x3 x4 (x5 + nI 1) S)
def O_build_477 (N : Nat) (rok : Int32 → Int32 → Int32 → rS → Prop) (x3 : Int32) (x4 : Int32) (x5 : Int32) (S : rS) : Prop := rok x3 x4 (x5 + nI 1) S
set_option maxHeartbeats 4000000 in
theorem b_build_477 {G : zG} {E : rE} {S : rS} {N : Nat} {Q : Option Value → rS → Prop} {X : Nat × Int32 × Int32 × rS → Prop} (hG : zOK G) (hX0 : ∀ (x3 : Int32) (x4 : Int32) (S' : rS), X (0, x3, x4, S') → rX G E dX12_build mX12_build 483 [some (.ref E.1), none, none, some (.int x3), some (.int x4), none, none, none] [] S' Q) {rec : Int32 → Int32 → Int32 → rS → Nat × Int32 × Int32 × rS} {rok : Int32 → Int32 → Int32 → rS → Prop} (hrec : ∀ (x3 : Int32) (x4 : Int32) (x5 : Int32) (S : rS), rok x3 x4 x5 S → X (rec x3 x4 x5 S) → rX G E dX12_build mX12_build 452 [some (.ref E.1), none, none, some (.int x3), some (.int x4), some (.int x5), none, none] [] S Q) {x3 : Int32} {x4 : Int32} {x5 : Int32} (ok : O_build_477 N rok x3 x4 x5 S) (hx : X (F_build_477 N rec x3 x4 x5 S)) : rX G E dX12_build mX12_build 477 [some (.ref E.1), none, none, some (.int x3), some (.int x4), some (.int x5), none, none] [] S Q := by
  unfold O_build_477 at ok
  unfold F_build_477 at hx
  refine r_iinc_5 (v := (x5 + nI 1)) dX12_build_477 rfl (by first | rfl | (congr 1)) (by decide) rfl ?_
  refine r_goto (tgt := 452) dX12_build_480 (by decide) ?_
  exact rX.cutz (hrec _ _ _ S ok hx) ⟨rfl, rfl, rfl, rfl, trivial⟩
def B_build_452 (N : Nat) (rec : Int32 → Int32 → Int32 → rS → Nat × Int32 × Int32 × rS) (x3 : Int32) (x4 : Int32) (x5 : Int32) (S : rS) : Nat × Int32 × Int32 × rS := (if (nI 32) ≤ x5 then (0, x3, x4, S) else (F_build_477 N rec x3 x4 x5 (f_setByte N S (nI 1353) ((nI 67) + x5) (f_rootByte N S x5))))
def OB_build_452 (N : Nat) (rok : Int32 → Int32 → Int32 → rS → Prop) (x3 : Int32) (x4 : Int32) (x5 : Int32) (S : rS) : Prop := (((nI 32) ≤ x5 → True) ∧ (¬ (nI 32) ≤ x5 → (o_rootByte N S x5) ∧ (o_setByte N S (nI 1353) ((nI 67) + x5) (f_rootByte N S x5)) ∧ O_build_477 N rok x3 x4 x5 (f_setByte N S (nI 1353) ((nI 67) + x5) (f_rootByte N S x5))))
set_option maxHeartbeats 4000000 in
theorem bb_build_452 {G : zG} {E : rE} {S : rS} {N : Nat} {Q : Option Value → rS → Prop} {X : Nat × Int32 × Int32 × rS → Prop} (hG : zOK G) (hX0 : ∀ (x3 : Int32) (x4 : Int32) (S' : rS), X (0, x3, x4, S') → rX G E dX12_build mX12_build 483 [some (.ref E.1), none, none, some (.int x3), some (.int x4), none, none, none] [] S' Q) {rec : Int32 → Int32 → Int32 → rS → Nat × Int32 × Int32 × rS} {rok : Int32 → Int32 → Int32 → rS → Prop} (hrec : ∀ (x3 : Int32) (x4 : Int32) (x5 : Int32) (S : rS), rok x3 x4 x5 S → X (rec x3 x4 x5 S) → rX G E dX12_build mX12_build 452 [some (.ref E.1), none, none, some (.int x3), some (.int x4), some (.int x5), none, none] [] S Q) {x3 : Int32} {x4 : Int32} {x5 : Int32} (ok : OB_build_452 N rok x3 x4 x5 S) (hx : X (B_build_452 N rec x3 x4 x5 S)) : rX G E dX12_build mX12_build 452 [some (.ref E.1), none, none, some (.int x3), some (.int x4), some (.int x5), none, none] [] S Q := by
  unfold OB_build_452 at ok
  unfold B_build_452 at hx
  refine r_iload dX12_build_452 rfl ?_
  refine r_bipush (v := nI 32) dX12_build_454 (by decide) ?_
  refine r_icmp_ge (tgt := 483) dX12_build_456 (by decide) (fun c_456 => ?_) (fun c_456 => ?_)
  · have ok := ok.1 c_456
    have hx := xif_p c_456 hx
    exact rX.cutz (hX0 _ _ S hx) ⟨rfl, rfl, rfl, trivial⟩
  · have ok := ok.2 c_456
    have hx := xif_n c_456 hx
    refine r_aload_n dX12_build_459 rfl rfl ?_
    refine r_sipush (v := nI 1353) dX12_build_460 (by decide) ?_
    refine r_bipush (v := nI 67) dX12_build_463 (by decide) ?_
    refine r_iload dX12_build_465 rfl ?_
    refine r_iadd dX12_build_467 ?_
    refine r_aload_n dX12_build_468 rfl rfl ?_
    refine r_iload dX12_build_469 rfl ?_
    refine r_V1i (y' := mX12_rootByte) dX12_build_471 lX12_152 kX12_rootByte ⟨by decide, by decide⟩ rfl (Nat.le_of_ble_eq_true rfl) (rc_X12_rootByte hG ok.1) (fun v_471 S_471 h_471 => ?_)
    obtain ⟨rfl, hS_471⟩ := h_471
    have hS_471 := hS_471.symm
    subst hS_471
    have ok := ok.2
    refine r_V3v (y' := mX12_setByte) dX12_build_474 lX12_250 kX12_setByte ⟨by decide, by decide⟩ rfl (Nat.le_of_ble_eq_true rfl) (rc_X12_setByte hG ok.1) (fun S_474 h_474 => ?_)
    subst h_474
    have ok := ok.2
    exact rX.cutz (b_build_477 hG hX0 hrec ok hx) ⟨rfl, rfl, rfl, rfl, trivial⟩
def L_build_452 (N : Nat) : Nat → Int32 → Int32 → Int32 → rS → Nat × Int32 × Int32 × rS
  | 0, x3, x4, x5, S => (0, 0, 0, S)
  | n + 1, x3, x4, x5, S => B_build_452 N (L_build_452 N n) x3 x4 x5 S
def OL_build_452 (N : Nat) : Nat → Int32 → Int32 → Int32 → rS → Prop
  | 0, _, _, _, _ => False
  | n + 1, x3, x4, x5, S => OB_build_452 N (OL_build_452 N n) x3 x4 x5 S
set_option maxHeartbeats 4000000 in
theorem l_build_452 {G : zG} {E : rE} {N : Nat} {Q : Option Value → rS → Prop} {X : Nat × Int32 × Int32 × rS → Prop} (hG : zOK G) (hX0 : ∀ (x3 : Int32) (x4 : Int32) (S' : rS), X (0, x3, x4, S') → rX G E dX12_build mX12_build 483 [some (.ref E.1), none, none, some (.int x3), some (.int x4), none, none, none] [] S' Q) : ∀ (n : Nat) (x3 : Int32) (x4 : Int32) (x5 : Int32) (S : rS), OL_build_452 N n x3 x4 x5 S → X (L_build_452 N n x3 x4 x5 S) → rX G E dX12_build mX12_build 452 [some (.ref E.1), none, none, some (.int x3), some (.int x4), some (.int x5), none, none] [] S Q := by
  intro n
  induction n with
  | zero => intro x3 x4 x5 S ok; exact absurd ok id
  | succ n ih =>
    intro x3 x4 x5 S ok hx
    exact bb_build_452 hG hX0 (rec := L_build_452 N n) (rok := OL_build_452 N n) (fun x3 x4 x5 S ok hx => ih x3 x4 x5 S ok hx) ok hx
def A_build_452 (N : Nat) (x3 : Int32) (x4 : Int32) (x5 : Int32) (S : rS) (z : Nat × Int32 × Int32 × rS) : rS := (F_build_483 N (z.2.1) (z.2.2.1) z.2.2.2)
def OA_build_452 (N : Nat) (x3 : Int32) (x4 : Int32) (x5 : Int32) (S : rS) (z : Nat × Int32 × Int32 × rS) : Prop := O_build_483 N (z.2.1) (z.2.2.1) z.2.2.2
set_option maxHeartbeats 4000000 in
theorem c_build_452 {G : zG} {E : rE} {S : rS} {N : Nat} {Q : Option Value → rS → Prop} {X : rS → Prop} (hG : zOK G) (hR : ∀ S', X S' → Q none S') {x3 : Int32} {x4 : Int32} {x5 : Int32} (ok : OL_build_452 N N x3 x4 x5 S ∧ OA_build_452 N x3 x4 x5 S (L_build_452 N N x3 x4 x5 S)) (hx : X (A_build_452 N x3 x4 x5 S (L_build_452 N N x3 x4 x5 S))) : rX G E dX12_build mX12_build 452 [some (.ref E.1), none, none, some (.int x3), some (.int x4), some (.int x5), none, none] [] S Q := by
  refine l_build_452 hG ?_ N x3 x4 x5 S ok.1 (X := fun z => OA_build_452 N x3 x4 x5 S z ∧ X (A_build_452 N x3 x4 x5 S z)) ⟨ok.2, hx⟩
  · intro x3' x4' S' hz
    obtain ⟨ok, hx⟩ := hz
    unfold OA_build_452 at ok
    unfold A_build_452 at hx
    exact rX.cutz (b_build_483 hG hR ok hx) ⟨rfl, rfl, rfl, trivial⟩
def F_build_449 (N : Nat) (x3 : Int32) (x4 : Int32) (S : rS) : rS := (A_build_452 N x3 x4 (nI 0) S (L_build_452 N N x3 x4 (nI 0) S))
def O_build_449 (N : Nat) (x3 : Int32) (x4 : Int32) (S : rS) : Prop := (OL_build_452 N N x3 x4 (nI 0) S ∧ OA_build_452 N x3 x4 (nI 0) S (L_build_452 N N x3 x4 (nI 0) S))
set_option maxHeartbeats 4000000 in
theorem b_build_449 {G : zG} {E : rE} {S : rS} {N : Nat} {Q : Option Value → rS → Prop} {X : rS → Prop} (hG : zOK G) (hR : ∀ S', X S' → Q none S') {x3 : Int32} {x4 : Int32} (ok : O_build_449 N x3 x4 S) (hx : X (F_build_449 N x3 x4 S)) : rX G E dX12_build mX12_build 449 [some (.ref E.1), none, none, some (.int x3), some (.int x4), none, none, none] [] S Q := by
  unfold O_build_449 at ok
  unfold F_build_449 at hx
  refine r_iconst (v := nI 0) dX12_build_449 (by decide) ?_
  refine r_istore_5 dX12_build_450 (by decide) rfl ?_
  exact rX.cutz (c_build_452 hG hR ok hx) ⟨rfl, rfl, rfl, rfl, trivial⟩
def F_build_425 (N : Nat) (x3 : Int32) (x4 : Int32) (S : rS) : rS := (F_build_449 N x3 x4 (f_root_ N (rsA S 14 (nI 1353).toNatClampNeg ((nI 101) + (S.2.1 16 (S.1 17).toNatClampNeg)))))
def O_build_425 (N : Nat) (x3 : Int32) (x4 : Int32) (S : rS) : Prop := (vp_in (S.1 17) 68) ∧ (vp_in (nI 1353) 1354) ∧ (o_root_ N (rsA S 14 (nI 1353).toNatClampNeg ((nI 101) + (S.2.1 16 (S.1 17).toNatClampNeg)))) ∧ O_build_449 N x3 x4 (f_root_ N (rsA S 14 (nI 1353).toNatClampNeg ((nI 101) + (S.2.1 16 (S.1 17).toNatClampNeg))))
set_option maxHeartbeats 4000000 in
theorem b_build_425 {G : zG} {E : rE} {S : rS} {N : Nat} {Q : Option Value → rS → Prop} {X : rS → Prop} (hG : zOK G) (hR : ∀ S', X S' → Q none S') {x3 : Int32} {x4 : Int32} (ok : O_build_425 N x3 x4 S) (hx : X (F_build_425 N x3 x4 S)) : rX G E dX12_build mX12_build 425 [some (.ref E.1), none, none, some (.int x3), some (.int x4), none, none, none] [] S Q := by
  unfold O_build_425 at ok
  unfold F_build_425 at hx
  refine r_aload_n dX12_build_425 rfl rfl ?_
  refine r_getA 14 fX12_57 (by decide) (by decide) dX12_build_426 ?_
  refine r_sipush (v := nI 1353) dX12_build_429 (by decide) ?_
  refine r_bipush (v := nI 101) dX12_build_432 (by decide) ?_
  refine r_aload_n dX12_build_434 rfl rfl ?_
  refine r_getA 16 fX12_81 (by decide) (by decide) dX12_build_435 ?_
  refine r_aload_n dX12_build_438 rfl rfl ?_
  refine r_getI 17 fX12_78 (by decide) (by decide) dX12_build_439 ?_
  refine r_iald (by decide) (by decide) dX12_build_442 ok.1 ?_
  have ok := ok.2
  refine r_iadd dX12_build_443 ?_
  refine r_iast hG (by decide) (by decide) dX12_build_444 ok.1 ?_
  have ok := ok.2
  refine r_aload_n dX12_build_445 rfl rfl ?_
  refine r_V0v (y' := mX12_root_) dX12_build_446 lX12_150 kX12_root_ ⟨by decide, by decide⟩ rfl (Nat.le_of_ble_eq_true rfl) (rc_X12_root_ hG ok.1) (fun S_446 h_446 => ?_)
  subst h_446
  have ok := ok.2
  exact rX.cutz (b_build_449 hG hR ok hx) ⟨rfl, rfl, rfl, trivial⟩
def F_build_419 (N : Nat) (rec : Int32 → Int32 → Int32 → rS → Nat × Int32 × Int32 × rS) (x3 : Int32) (x4 : Int32) (x5 : Int32) (S : rS) : Nat × Int32 × Int32 × rS := (rec x3 x4 (x5 + nI 1) S)
def O_build_419 (N : Nat) (rok : Int32 → Int32 → Int32 → rS → Prop) (x3 : Int32) (x4 : Int32) (x5 : Int32) (S : rS) : Prop := rok x3 x4 (x5 + nI 1) S
set_option maxHeartbeats 4000000 in
theorem b_build_419 {G : zG} {E : rE} {S : rS} {N : Nat} {Q : Option Value → rS → Prop} {X : Nat × Int32 × Int32 × rS → Prop} (hG : zOK G) (hX0 : ∀ (x3 : Int32) (x4 : Int32) (S' : rS), X (0, x3, x4, S') → rX G E dX12_build mX12_build 425 [some (.ref E.1), none, none, some (.int x3), some (.int x4), none, none, none] [] S' Q) {rec : Int32 → Int32 → Int32 → rS → Nat × Int32 × Int32 × rS} {rok : Int32 → Int32 → Int32 → rS → Prop} (hrec : ∀ (x3 : Int32) (x4 : Int32) (x5 : Int32) (S : rS), rok x3 x4 x5 S → X (rec x3 x4 x5 S) → rX G E dX12_build mX12_build 386 [some (.ref E.1), none, none, some (.int x3), some (.int x4), some (.int x5), none, none] [] S Q) {x3 : Int32} {x4 : Int32} {x5 : Int32} (ok : O_build_419 N rok x3 x4 x5 S) (hx : X (F_build_419 N rec x3 x4 x5 S)) : rX G E dX12_build mX12_build 419 [some (.ref E.1), none, none, some (.int x3), some (.int x4), some (.int x5), none, none] [] S Q := by
  unfold O_build_419 at ok
  unfold F_build_419 at hx
  refine r_iinc_5 (v := (x5 + nI 1)) dX12_build_419 rfl (by first | rfl | (congr 1)) (by decide) rfl ?_
  refine r_goto (tgt := 386) dX12_build_422 (by decide) ?_
  exact rX.cutz (hrec _ _ _ S ok hx) ⟨rfl, rfl, rfl, rfl, trivial⟩
def B_build_386 (N : Nat) (rec : Int32 → Int32 → Int32 → rS → Nat × Int32 × Int32 × rS) (x3 : Int32) (x4 : Int32) (x5 : Int32) (S : rS) : Nat × Int32 × Int32 × rS := (if (S.2.1 16 (S.1 17).toNatClampNeg) ≤ x5 then (0, x3, x4, S) else (F_build_419 N rec x3 x4 x5 (f_setByte N S (nI 1353) ((nI 101) + x5) (S.2.1 15 x5.toNatClampNeg))))
def OB_build_386 (N : Nat) (rok : Int32 → Int32 → Int32 → rS → Prop) (x3 : Int32) (x4 : Int32) (x5 : Int32) (S : rS) : Prop := (vp_in (S.1 17) 68) ∧ (((S.2.1 16 (S.1 17).toNatClampNeg) ≤ x5 → True) ∧ (¬ (S.2.1 16 (S.1 17).toNatClampNeg) ≤ x5 → (vp_in x5 600) ∧ (o_setByte N S (nI 1353) ((nI 101) + x5) (S.2.1 15 x5.toNatClampNeg)) ∧ O_build_419 N rok x3 x4 x5 (f_setByte N S (nI 1353) ((nI 101) + x5) (S.2.1 15 x5.toNatClampNeg))))
set_option maxHeartbeats 4000000 in
theorem bb_build_386 {G : zG} {E : rE} {S : rS} {N : Nat} {Q : Option Value → rS → Prop} {X : Nat × Int32 × Int32 × rS → Prop} (hG : zOK G) (hX0 : ∀ (x3 : Int32) (x4 : Int32) (S' : rS), X (0, x3, x4, S') → rX G E dX12_build mX12_build 425 [some (.ref E.1), none, none, some (.int x3), some (.int x4), none, none, none] [] S' Q) {rec : Int32 → Int32 → Int32 → rS → Nat × Int32 × Int32 × rS} {rok : Int32 → Int32 → Int32 → rS → Prop} (hrec : ∀ (x3 : Int32) (x4 : Int32) (x5 : Int32) (S : rS), rok x3 x4 x5 S → X (rec x3 x4 x5 S) → rX G E dX12_build mX12_build 386 [some (.ref E.1), none, none, some (.int x3), some (.int x4), some (.int x5), none, none] [] S Q) {x3 : Int32} {x4 : Int32} {x5 : Int32} (ok : OB_build_386 N rok x3 x4 x5 S) (hx : X (B_build_386 N rec x3 x4 x5 S)) : rX G E dX12_build mX12_build 386 [some (.ref E.1), none, none, some (.int x3), some (.int x4), some (.int x5), none, none] [] S Q := by
  unfold OB_build_386 at ok
  unfold B_build_386 at hx
  refine r_iload dX12_build_386 rfl ?_
  refine r_aload_n dX12_build_388 rfl rfl ?_
  refine r_getA 16 fX12_81 (by decide) (by decide) dX12_build_389 ?_
  refine r_aload_n dX12_build_392 rfl rfl ?_
  refine r_getI 17 fX12_78 (by decide) (by decide) dX12_build_393 ?_
  refine r_iald (by decide) (by decide) dX12_build_396 ok.1 ?_
  have ok := ok.2
  refine r_icmp_ge (tgt := 425) dX12_build_397 (by decide) (fun c_397 => ?_) (fun c_397 => ?_)
  · have ok := ok.1 c_397
    have hx := xif_p c_397 hx
    exact rX.cutz (hX0 _ _ S hx) ⟨rfl, rfl, rfl, trivial⟩
  · have ok := ok.2 c_397
    have hx := xif_n c_397 hx
    refine r_aload_n dX12_build_400 rfl rfl ?_
    refine r_sipush (v := nI 1353) dX12_build_401 (by decide) ?_
    refine r_bipush (v := nI 101) dX12_build_404 (by decide) ?_
    refine r_iload dX12_build_406 rfl ?_
    refine r_iadd dX12_build_408 ?_
    refine r_aload_n dX12_build_409 rfl rfl ?_
    refine r_getA 15 fX12_84 (by decide) (by decide) dX12_build_410 ?_
    refine r_iload dX12_build_413 rfl ?_
    refine r_iald (by decide) (by decide) dX12_build_415 ok.1 ?_
    have ok := ok.2
    refine r_V3v (y' := mX12_setByte) dX12_build_416 lX12_250 kX12_setByte ⟨by decide, by decide⟩ rfl (Nat.le_of_ble_eq_true rfl) (rc_X12_setByte hG ok.1) (fun S_416 h_416 => ?_)
    subst h_416
    have ok := ok.2
    exact rX.cutz (b_build_419 hG hX0 hrec ok hx) ⟨rfl, rfl, rfl, rfl, trivial⟩
def L_build_386 (N : Nat) : Nat → Int32 → Int32 → Int32 → rS → Nat × Int32 × Int32 × rS
  | 0, x3, x4, x5, S => (0, 0, 0, S)
  | n + 1, x3, x4, x5, S => B_build_386 N (L_build_386 N n) x3 x4 x5 S
def OL_build_386 (N : Nat) : Nat → Int32 → Int32 → Int32 → rS → Prop
  | 0, _, _, _, _ => False
  | n + 1, x3, x4, x5, S => OB_build_386 N (OL_build_386 N n) x3 x4 x5 S
set_option maxHeartbeats 4000000 in
theorem l_build_386 {G : zG} {E : rE} {N : Nat} {Q : Option Value → rS → Prop} {X : Nat × Int32 × Int32 × rS → Prop} (hG : zOK G) (hX0 : ∀ (x3 : Int32) (x4 : Int32) (S' : rS), X (0, x3, x4, S') → rX G E dX12_build mX12_build 425 [some (.ref E.1), none, none, some (.int x3), some (.int x4), none, none, none] [] S' Q) : ∀ (n : Nat) (x3 : Int32) (x4 : Int32) (x5 : Int32) (S : rS), OL_build_386 N n x3 x4 x5 S → X (L_build_386 N n x3 x4 x5 S) → rX G E dX12_build mX12_build 386 [some (.ref E.1), none, none, some (.int x3), some (.int x4), some (.int x5), none, none] [] S Q := by
  intro n
  induction n with
  | zero => intro x3 x4 x5 S ok; exact absurd ok id
  | succ n ih =>
    intro x3 x4 x5 S ok hx
    exact bb_build_386 hG hX0 (rec := L_build_386 N n) (rok := OL_build_386 N n) (fun x3 x4 x5 S ok hx => ih x3 x4 x5 S ok hx) ok hx
def A_build_386 (N : Nat) (x3 : Int32) (x4 : Int32) (x5 : Int32) (S : rS) (z : Nat × Int32 × Int32 × rS) : rS := (F_build_425 N (z.2.1) (z.2.2.1) z.2.2.2)
def OA_build_386 (N : Nat) (x3 : Int32) (x4 : Int32) (x5 : Int32) (S : rS) (z : Nat × Int32 × Int32 × rS) : Prop := O_build_425 N (z.2.1) (z.2.2.1) z.2.2.2
set_option maxHeartbeats 4000000 in
theorem c_build_386 {G : zG} {E : rE} {S : rS} {N : Nat} {Q : Option Value → rS → Prop} {X : rS → Prop} (hG : zOK G) (hR : ∀ S', X S' → Q none S') {x3 : Int32} {x4 : Int32} {x5 : Int32} (ok : OL_build_386 N N x3 x4 x5 S ∧ OA_build_386 N x3 x4 x5 S (L_build_386 N N x3 x4 x5 S)) (hx : X (A_build_386 N x3 x4 x5 S (L_build_386 N N x3 x4 x5 S))) : rX G E dX12_build mX12_build 386 [some (.ref E.1), none, none, some (.int x3), some (.int x4), some (.int x5), none, none] [] S Q := by
  refine l_build_386 hG ?_ N x3 x4 x5 S ok.1 (X := fun z => OA_build_386 N x3 x4 x5 S z ∧ X (A_build_386 N x3 x4 x5 S z)) ⟨ok.2, hx⟩
  · intro x3' x4' S' hz
    obtain ⟨ok, hx⟩ := hz
    unfold OA_build_386 at ok
    unfold A_build_386 at hx
    exact rX.cutz (b_build_425 hG hR ok hx) ⟨rfl, rfl, rfl, trivial⟩
def F_build_383 (N : Nat) (x3 : Int32) (x4 : Int32) (S : rS) : rS := (A_build_386 N x3 x4 (nI 0) S (L_build_386 N N x3 x4 (nI 0) S))
def O_build_383 (N : Nat) (x3 : Int32) (x4 : Int32) (S : rS) : Prop := (OL_build_386 N N x3 x4 (nI 0) S ∧ OA_build_386 N x3 x4 (nI 0) S (L_build_386 N N x3 x4 (nI 0) S))
set_option maxHeartbeats 4000000 in
theorem b_build_383 {G : zG} {E : rE} {S : rS} {N : Nat} {Q : Option Value → rS → Prop} {X : rS → Prop} (hG : zOK G) (hR : ∀ S', X S' → Q none S') {x3 : Int32} {x4 : Int32} (ok : O_build_383 N x3 x4 S) (hx : X (F_build_383 N x3 x4 S)) : rX G E dX12_build mX12_build 383 [some (.ref E.1), none, none, some (.int x3), some (.int x4), none, none, none] [] S Q := by
  unfold O_build_383 at ok
  unfold F_build_383 at hx
  refine r_iconst (v := nI 0) dX12_build_383 (by decide) ?_
  refine r_istore_5 dX12_build_384 (by decide) rfl ?_
  exact rX.cutz (c_build_386 hG hR ok hx) ⟨rfl, rfl, rfl, rfl, trivial⟩
def F_build_377 (N : Nat) (rec : Int32 → Int32 → Int32 → Int32 → rS → Nat × Int32 × Int32 × rS) (x1 : Int32) (x3 : Int32) (x4 : Int32) (x5 : Int32) (S : rS) : Nat × Int32 × Int32 × rS := (rec x1 x3 x4 (x5 + nI 1) S)
def O_build_377 (N : Nat) (rok : Int32 → Int32 → Int32 → Int32 → rS → Prop) (x1 : Int32) (x3 : Int32) (x4 : Int32) (x5 : Int32) (S : rS) : Prop := rok x1 x3 x4 (x5 + nI 1) S
set_option maxHeartbeats 4000000 in
theorem b_build_377 {G : zG} {E : rE} {S : rS} {N : Nat} {Q : Option Value → rS → Prop} {X : Nat × Int32 × Int32 × rS → Prop} (hG : zOK G) (hX0 : ∀ (x3 : Int32) (x4 : Int32) (S' : rS), X (0, x3, x4, S') → rX G E dX12_build mX12_build 383 [some (.ref E.1), none, none, some (.int x3), some (.int x4), none, none, none] [] S' Q) {rec : Int32 → Int32 → Int32 → Int32 → rS → Nat × Int32 × Int32 × rS} {rok : Int32 → Int32 → Int32 → Int32 → rS → Prop} (hrec : ∀ (x1 : Int32) (x3 : Int32) (x4 : Int32) (x5 : Int32) (S : rS), rok x1 x3 x4 x5 S → X (rec x1 x3 x4 x5 S) → rX G E dX12_build mX12_build 225 [some (.ref E.1), some (.int x1), none, some (.int x3), some (.int x4), some (.int x5), none, none] [] S Q) {x1 : Int32} {x3 : Int32} {x4 : Int32} {x5 : Int32} (ok : O_build_377 N rok x1 x3 x4 x5 S) (hx : X (F_build_377 N rec x1 x3 x4 x5 S)) : rX G E dX12_build mX12_build 377 [some (.ref E.1), some (.int x1), none, some (.int x3), some (.int x4), some (.int x5), none, none] [] S Q := by
  unfold O_build_377 at ok
  unfold F_build_377 at hx
  refine r_iinc_5 (v := (x5 + nI 1)) dX12_build_377 rfl (by first | rfl | (congr 1)) (by decide) rfl ?_
  refine r_goto (tgt := 225) dX12_build_380 (by decide) ?_
  exact rX.cutz (hrec _ _ _ _ S ok hx) ⟨rfl, rfl, rfl, rfl, rfl, trivial⟩
def F_build_371 (N : Nat) (rec : Int32 → Int32 → Int32 → Int32 → rS → Nat × Int32 × Int32 × rS) (x1 : Int32) (x3 : Int32) (x4 : Int32) (x5 : Int32) (S : rS) : Nat × Int32 × Int32 × rS := (F_build_377 N rec x1 x3 (x4 + (nI 1)) x5 S)
def O_build_371 (N : Nat) (rok : Int32 → Int32 → Int32 → Int32 → rS → Prop) (x1 : Int32) (x3 : Int32) (x4 : Int32) (x5 : Int32) (S : rS) : Prop := O_build_377 N rok x1 x3 (x4 + (nI 1)) x5 S
set_option maxHeartbeats 4000000 in
theorem b_build_371 {G : zG} {E : rE} {S : rS} {N : Nat} {Q : Option Value → rS → Prop} {X : Nat × Int32 × Int32 × rS → Prop} (hG : zOK G) (hX0 : ∀ (x3 : Int32) (x4 : Int32) (S' : rS), X (0, x3, x4, S') → rX G E dX12_build mX12_build 383 [some (.ref E.1), none, none, some (.int x3), some (.int x4), none, none, none] [] S' Q) {rec : Int32 → Int32 → Int32 → Int32 → rS → Nat × Int32 × Int32 × rS} {rok : Int32 → Int32 → Int32 → Int32 → rS → Prop} (hrec : ∀ (x1 : Int32) (x3 : Int32) (x4 : Int32) (x5 : Int32) (S : rS), rok x1 x3 x4 x5 S → X (rec x1 x3 x4 x5 S) → rX G E dX12_build mX12_build 225 [some (.ref E.1), some (.int x1), none, some (.int x3), some (.int x4), some (.int x5), none, none] [] S Q) {x1 : Int32} {x3 : Int32} {x4 : Int32} {x5 : Int32} (ok : O_build_371 N rok x1 x3 x4 x5 S) (hx : X (F_build_371 N rec x1 x3 x4 x5 S)) : rX G E dX12_build mX12_build 371 [some (.ref E.1), some (.int x1), none, some (.int x3), some (.int x4), some (.int x5), none, none] [] S Q := by
  unfold O_build_371 at ok
  unfold F_build_371 at hx
  refine r_iload dX12_build_371 rfl ?_
  refine r_iconst (v := nI 1) dX12_build_373 (by decide) ?_
  refine r_iadd dX12_build_374 ?_
  refine r_istore_4 dX12_build_375 (by decide) rfl ?_
  exact rX.cutz (b_build_377 hG hX0 hrec ok hx) ⟨rfl, rfl, rfl, rfl, rfl, trivial⟩
def F_build_367 (N : Nat) (rec : Int32 → Int32 → Int32 → Int32 → rS → Nat × Int32 × Int32 × rS) (x1 : Int32) (x3 : Int32) (x4 : Int32) (x5 : Int32) (S : rS) : Nat × Int32 × Int32 × rS := (F_build_371 N rec x1 x3 x4 x5 (f_endPart N S))
def O_build_367 (N : Nat) (rok : Int32 → Int32 → Int32 → Int32 → rS → Prop) (x1 : Int32) (x3 : Int32) (x4 : Int32) (x5 : Int32) (S : rS) : Prop := (o_endPart N S) ∧ O_build_371 N rok x1 x3 x4 x5 (f_endPart N S)
set_option maxHeartbeats 4000000 in
theorem b_build_367 {G : zG} {E : rE} {S : rS} {N : Nat} {Q : Option Value → rS → Prop} {X : Nat × Int32 × Int32 × rS → Prop} (hG : zOK G) (hX0 : ∀ (x3 : Int32) (x4 : Int32) (S' : rS), X (0, x3, x4, S') → rX G E dX12_build mX12_build 383 [some (.ref E.1), none, none, some (.int x3), some (.int x4), none, none, none] [] S' Q) {rec : Int32 → Int32 → Int32 → Int32 → rS → Nat × Int32 × Int32 × rS} {rok : Int32 → Int32 → Int32 → Int32 → rS → Prop} (hrec : ∀ (x1 : Int32) (x3 : Int32) (x4 : Int32) (x5 : Int32) (S : rS), rok x1 x3 x4 x5 S → X (rec x1 x3 x4 x5 S) → rX G E dX12_build mX12_build 225 [some (.ref E.1), some (.int x1), none, some (.int x3), some (.int x4), some (.int x5), none, none] [] S Q) {x1 : Int32} {x3 : Int32} {x4 : Int32} {x5 : Int32} (ok : O_build_367 N rok x1 x3 x4 x5 S) (hx : X (F_build_367 N rec x1 x3 x4 x5 S)) : rX G E dX12_build mX12_build 367 [some (.ref E.1), some (.int x1), none, some (.int x3), some (.int x4), some (.int x5), none, none] [] S Q := by
  unfold O_build_367 at ok
  unfold F_build_367 at hx
  refine r_aload_n dX12_build_367 rfl rfl ?_
  refine r_V0v (y' := mX12_endPart) dX12_build_368 lX12_127 kX12_endPart ⟨by decide, by decide⟩ rfl (Nat.le_of_ble_eq_true rfl) (rc_X12_endPart hG ok.1) (fun S_368 h_368 => ?_)
  subst h_368
  have ok := ok.2
  exact rX.cutz (b_build_371 hG hX0 hrec ok hx) ⟨rfl, rfl, rfl, rfl, rfl, trivial⟩
def F_build_361 (N : Nat) (rec : Int32 → Int32 → Int32 → Int32 → Int32 → Int32 → rS → Nat × Int32 × Int32 × Int32 × Int32 × rS) (x1 : Int32) (x3 : Int32) (x4 : Int32) (x5 : Int32) (x6 : Int32) (x7 : Int32) (S : rS) : Nat × Int32 × Int32 × Int32 × Int32 × rS := (rec x1 x3 x4 x5 x6 (x7 + nI 1) S)
def O_build_361 (N : Nat) (rok : Int32 → Int32 → Int32 → Int32 → Int32 → Int32 → rS → Prop) (x1 : Int32) (x3 : Int32) (x4 : Int32) (x5 : Int32) (x6 : Int32) (x7 : Int32) (S : rS) : Prop := rok x1 x3 x4 x5 x6 (x7 + nI 1) S
set_option maxHeartbeats 4000000 in
theorem b_build_361 {G : zG} {E : rE} {S : rS} {N : Nat} {Q : Option Value → rS → Prop} {X : Nat × Int32 × Int32 × Int32 × Int32 × rS → Prop} (hG : zOK G) (hX0 : ∀ (x1 : Int32) (x3 : Int32) (x4 : Int32) (x5 : Int32) (S' : rS), X (0, x1, x3, x4, x5, S') → rX G E dX12_build mX12_build 367 [some (.ref E.1), some (.int x1), none, some (.int x3), some (.int x4), some (.int x5), none, none] [] S' Q) {rec : Int32 → Int32 → Int32 → Int32 → Int32 → Int32 → rS → Nat × Int32 × Int32 × Int32 × Int32 × rS} {rok : Int32 → Int32 → Int32 → Int32 → Int32 → Int32 → rS → Prop} (hrec : ∀ (x1 : Int32) (x3 : Int32) (x4 : Int32) (x5 : Int32) (x6 : Int32) (x7 : Int32) (S : rS), rok x1 x3 x4 x5 x6 x7 S → X (rec x1 x3 x4 x5 x6 x7 S) → rX G E dX12_build mX12_build 340 [some (.ref E.1), some (.int x1), none, some (.int x3), some (.int x4), some (.int x5), some (.int x6), some (.int x7)] [] S Q) {x1 : Int32} {x3 : Int32} {x4 : Int32} {x5 : Int32} {x6 : Int32} {x7 : Int32} (ok : O_build_361 N rok x1 x3 x4 x5 x6 x7 S) (hx : X (F_build_361 N rec x1 x3 x4 x5 x6 x7 S)) : rX G E dX12_build mX12_build 361 [some (.ref E.1), some (.int x1), none, some (.int x3), some (.int x4), some (.int x5), some (.int x6), some (.int x7)] [] S Q := by
  unfold O_build_361 at ok
  unfold F_build_361 at hx
  refine r_iinc_7 (v := (x7 + nI 1)) dX12_build_361 rfl (by first | rfl | (congr 1)) (by decide) rfl ?_
  refine r_goto (tgt := 340) dX12_build_364 (by decide) ?_
  exact rX.cutz (hrec _ _ _ _ _ _ S ok hx) ⟨rfl, rfl, rfl, rfl, rfl, rfl, rfl, trivial⟩
def B_build_340 (N : Nat) (rec : Int32 → Int32 → Int32 → Int32 → Int32 → Int32 → rS → Nat × Int32 × Int32 × Int32 × Int32 × rS) (x1 : Int32) (x3 : Int32) (x4 : Int32) (x5 : Int32) (x6 : Int32) (x7 : Int32) (S : rS) : Nat × Int32 × Int32 × Int32 × Int32 × rS := (if (nI 7) ≤ x7 then (0, x1, x3, x4, x5, S) else (F_build_361 N rec x1 x3 x4 x5 x6 x7 (f_partByte N S (S.2.1 54 (x6 + x7).toNatClampNeg))))
def OB_build_340 (N : Nat) (rok : Int32 → Int32 → Int32 → Int32 → Int32 → Int32 → rS → Prop) (x1 : Int32) (x3 : Int32) (x4 : Int32) (x5 : Int32) (x6 : Int32) (x7 : Int32) (S : rS) : Prop := (((nI 7) ≤ x7 → True) ∧ (¬ (nI 7) ≤ x7 → (vp_in (x6 + x7) 7280) ∧ (o_partByte N S (S.2.1 54 (x6 + x7).toNatClampNeg)) ∧ O_build_361 N rok x1 x3 x4 x5 x6 x7 (f_partByte N S (S.2.1 54 (x6 + x7).toNatClampNeg))))
set_option maxHeartbeats 4000000 in
theorem bb_build_340 {G : zG} {E : rE} {S : rS} {N : Nat} {Q : Option Value → rS → Prop} {X : Nat × Int32 × Int32 × Int32 × Int32 × rS → Prop} (hG : zOK G) (hX0 : ∀ (x1 : Int32) (x3 : Int32) (x4 : Int32) (x5 : Int32) (S' : rS), X (0, x1, x3, x4, x5, S') → rX G E dX12_build mX12_build 367 [some (.ref E.1), some (.int x1), none, some (.int x3), some (.int x4), some (.int x5), none, none] [] S' Q) {rec : Int32 → Int32 → Int32 → Int32 → Int32 → Int32 → rS → Nat × Int32 × Int32 × Int32 × Int32 × rS} {rok : Int32 → Int32 → Int32 → Int32 → Int32 → Int32 → rS → Prop} (hrec : ∀ (x1 : Int32) (x3 : Int32) (x4 : Int32) (x5 : Int32) (x6 : Int32) (x7 : Int32) (S : rS), rok x1 x3 x4 x5 x6 x7 S → X (rec x1 x3 x4 x5 x6 x7 S) → rX G E dX12_build mX12_build 340 [some (.ref E.1), some (.int x1), none, some (.int x3), some (.int x4), some (.int x5), some (.int x6), some (.int x7)] [] S Q) {x1 : Int32} {x3 : Int32} {x4 : Int32} {x5 : Int32} {x6 : Int32} {x7 : Int32} (ok : OB_build_340 N rok x1 x3 x4 x5 x6 x7 S) (hx : X (B_build_340 N rec x1 x3 x4 x5 x6 x7 S)) : rX G E dX12_build mX12_build 340 [some (.ref E.1), some (.int x1), none, some (.int x3), some (.int x4), some (.int x5), some (.int x6), some (.int x7)] [] S Q := by
  unfold OB_build_340 at ok
  unfold B_build_340 at hx
  refine r_iload dX12_build_340 rfl ?_
  refine r_bipush (v := nI 7) dX12_build_342 (by decide) ?_
  refine r_icmp_ge (tgt := 367) dX12_build_344 (by decide) (fun c_344 => ?_) (fun c_344 => ?_)
  · have ok := ok.1 c_344
    have hx := xif_p c_344 hx
    exact rX.cutz (hX0 _ _ _ _ S hx) ⟨rfl, rfl, rfl, rfl, rfl, trivial⟩
  · have ok := ok.2 c_344
    have hx := xif_n c_344 hx
    refine r_aload_n dX12_build_347 rfl rfl ?_
    refine r_aload_n dX12_build_348 rfl rfl ?_
    refine r_getA 54 fX12_339 (by decide) (by decide) dX12_build_349 ?_
    refine r_iload dX12_build_352 rfl ?_
    refine r_iload dX12_build_354 rfl ?_
    refine r_iadd dX12_build_356 ?_
    refine r_iald (by decide) (by decide) dX12_build_357 ok.1 ?_
    have ok := ok.2
    refine r_V1v (y' := mX12_partByte) dX12_build_358 lX12_124 kX12_partByte ⟨by decide, by decide⟩ rfl (Nat.le_of_ble_eq_true rfl) (rc_X12_partByte hG ok.1) (fun S_358 h_358 => ?_)
    subst h_358
    have ok := ok.2
    exact rX.cutz (b_build_361 hG hX0 hrec ok hx) ⟨rfl, rfl, rfl, rfl, rfl, rfl, rfl, trivial⟩
def L_build_340 (N : Nat) : Nat → Int32 → Int32 → Int32 → Int32 → Int32 → Int32 → rS → Nat × Int32 × Int32 × Int32 × Int32 × rS
  | 0, x1, x3, x4, x5, x6, x7, S => (0, 0, 0, 0, 0, S)
  | n + 1, x1, x3, x4, x5, x6, x7, S => B_build_340 N (L_build_340 N n) x1 x3 x4 x5 x6 x7 S
def OL_build_340 (N : Nat) : Nat → Int32 → Int32 → Int32 → Int32 → Int32 → Int32 → rS → Prop
  | 0, _, _, _, _, _, _, _ => False
  | n + 1, x1, x3, x4, x5, x6, x7, S => OB_build_340 N (OL_build_340 N n) x1 x3 x4 x5 x6 x7 S
set_option maxHeartbeats 4000000 in
theorem l_build_340 {G : zG} {E : rE} {N : Nat} {Q : Option Value → rS → Prop} {X : Nat × Int32 × Int32 × Int32 × Int32 × rS → Prop} (hG : zOK G) (hX0 : ∀ (x1 : Int32) (x3 : Int32) (x4 : Int32) (x5 : Int32) (S' : rS), X (0, x1, x3, x4, x5, S') → rX G E dX12_build mX12_build 367 [some (.ref E.1), some (.int x1), none, some (.int x3), some (.int x4), some (.int x5), none, none] [] S' Q) : ∀ (n : Nat) (x1 : Int32) (x3 : Int32) (x4 : Int32) (x5 : Int32) (x6 : Int32) (x7 : Int32) (S : rS), OL_build_340 N n x1 x3 x4 x5 x6 x7 S → X (L_build_340 N n x1 x3 x4 x5 x6 x7 S) → rX G E dX12_build mX12_build 340 [some (.ref E.1), some (.int x1), none, some (.int x3), some (.int x4), some (.int x5), some (.int x6), some (.int x7)] [] S Q := by
  intro n
  induction n with
  | zero => intro x1 x3 x4 x5 x6 x7 S ok; exact absurd ok id
  | succ n ih =>
    intro x1 x3 x4 x5 x6 x7 S ok hx
    exact bb_build_340 hG hX0 (rec := L_build_340 N n) (rok := OL_build_340 N n) (fun x1 x3 x4 x5 x6 x7 S ok hx => ih x1 x3 x4 x5 x6 x7 S ok hx) ok hx
def A_build_340 (N : Nat) (rec : Int32 → Int32 → Int32 → Int32 → rS → Nat × Int32 × Int32 × rS) (x1 : Int32) (x3 : Int32) (x4 : Int32) (x5 : Int32) (x6 : Int32) (x7 : Int32) (S : rS) (z : Nat × Int32 × Int32 × Int32 × Int32 × rS) : Nat × Int32 × Int32 × rS := (F_build_367 N rec (z.2.1) (z.2.2.1) (z.2.2.2.1) (z.2.2.2.2.1) z.2.2.2.2.2)
def OA_build_340 (N : Nat) (rok : Int32 → Int32 → Int32 → Int32 → rS → Prop) (x1 : Int32) (x3 : Int32) (x4 : Int32) (x5 : Int32) (x6 : Int32) (x7 : Int32) (S : rS) (z : Nat × Int32 × Int32 × Int32 × Int32 × rS) : Prop := O_build_367 N rok (z.2.1) (z.2.2.1) (z.2.2.2.1) (z.2.2.2.2.1) z.2.2.2.2.2
set_option maxHeartbeats 4000000 in
theorem c_build_340 {G : zG} {E : rE} {S : rS} {N : Nat} {Q : Option Value → rS → Prop} {X : Nat × Int32 × Int32 × rS → Prop} (hG : zOK G) (hX0 : ∀ (x3 : Int32) (x4 : Int32) (S' : rS), X (0, x3, x4, S') → rX G E dX12_build mX12_build 383 [some (.ref E.1), none, none, some (.int x3), some (.int x4), none, none, none] [] S' Q) {rec : Int32 → Int32 → Int32 → Int32 → rS → Nat × Int32 × Int32 × rS} {rok : Int32 → Int32 → Int32 → Int32 → rS → Prop} (hrec : ∀ (x1 : Int32) (x3 : Int32) (x4 : Int32) (x5 : Int32) (S : rS), rok x1 x3 x4 x5 S → X (rec x1 x3 x4 x5 S) → rX G E dX12_build mX12_build 225 [some (.ref E.1), some (.int x1), none, some (.int x3), some (.int x4), some (.int x5), none, none] [] S Q) {x1 : Int32} {x3 : Int32} {x4 : Int32} {x5 : Int32} {x6 : Int32} {x7 : Int32} (ok : OL_build_340 N N x1 x3 x4 x5 x6 x7 S ∧ OA_build_340 N rok x1 x3 x4 x5 x6 x7 S (L_build_340 N N x1 x3 x4 x5 x6 x7 S)) (hx : X (A_build_340 N rec x1 x3 x4 x5 x6 x7 S (L_build_340 N N x1 x3 x4 x5 x6 x7 S))) : rX G E dX12_build mX12_build 340 [some (.ref E.1), some (.int x1), none, some (.int x3), some (.int x4), some (.int x5), some (.int x6), some (.int x7)] [] S Q := by
  refine l_build_340 hG ?_ N x1 x3 x4 x5 x6 x7 S ok.1 (X := fun z => OA_build_340 N rok x1 x3 x4 x5 x6 x7 S z ∧ X (A_build_340 N rec x1 x3 x4 x5 x6 x7 S z)) ⟨ok.2, hx⟩
  · intro x1' x3' x4' x5' S' hz
    obtain ⟨ok, hx⟩ := hz
    unfold OA_build_340 at ok
    unfold A_build_340 at hx
    exact rX.cutz (b_build_367 hG hX0 hrec ok hx) ⟨rfl, rfl, rfl, rfl, rfl, trivial⟩
def F_build_331 (N : Nat) (rec : Int32 → Int32 → Int32 → Int32 → rS → Nat × Int32 × Int32 × rS) (x1 : Int32) (x3 : Int32) (x4 : Int32) (x5 : Int32) (x6 : Int32) (s0 : Int32) (S : rS) : Nat × Int32 × Int32 × rS := (if s0 = 0 then (F_build_377 N rec x1 x3 x4 x5 S) else (A_build_340 N rec x1 x3 x4 x5 x6 (nI 0) S (L_build_340 N N x1 x3 x4 x5 x6 (nI 0) S)))
def O_build_331 (N : Nat) (rok : Int32 → Int32 → Int32 → Int32 → rS → Prop) (x1 : Int32) (x3 : Int32) (x4 : Int32) (x5 : Int32) (x6 : Int32) (s0 : Int32) (S : rS) : Prop := ((s0 = 0 → O_build_377 N rok x1 x3 x4 x5 S) ∧ (¬ s0 = 0 → (OL_build_340 N N x1 x3 x4 x5 x6 (nI 0) S ∧ OA_build_340 N rok x1 x3 x4 x5 x6 (nI 0) S (L_build_340 N N x1 x3 x4 x5 x6 (nI 0) S))))
set_option maxHeartbeats 4000000 in
theorem b_build_331 {G : zG} {E : rE} {S : rS} {N : Nat} {Q : Option Value → rS → Prop} {X : Nat × Int32 × Int32 × rS → Prop} (hG : zOK G) (hX0 : ∀ (x3 : Int32) (x4 : Int32) (S' : rS), X (0, x3, x4, S') → rX G E dX12_build mX12_build 383 [some (.ref E.1), none, none, some (.int x3), some (.int x4), none, none, none] [] S' Q) {rec : Int32 → Int32 → Int32 → Int32 → rS → Nat × Int32 × Int32 × rS} {rok : Int32 → Int32 → Int32 → Int32 → rS → Prop} (hrec : ∀ (x1 : Int32) (x3 : Int32) (x4 : Int32) (x5 : Int32) (S : rS), rok x1 x3 x4 x5 S → X (rec x1 x3 x4 x5 S) → rX G E dX12_build mX12_build 225 [some (.ref E.1), some (.int x1), none, some (.int x3), some (.int x4), some (.int x5), none, none] [] S Q) {x1 : Int32} {x3 : Int32} {x4 : Int32} {x5 : Int32} {x6 : Int32} {s0 : Int32} (ok : O_build_331 N rok x1 x3 x4 x5 x6 s0 S) (hx : X (F_build_331 N rec x1 x3 x4 x5 x6 s0 S)) : rX G E dX12_build mX12_build 331 [some (.ref E.1), some (.int x1), none, some (.int x3), some (.int x4), some (.int x5), some (.int x6), none] [.int s0] S Q := by
  unfold O_build_331 at ok
  unfold F_build_331 at hx
  refine r_if_ne (tgt := 337) dX12_build_331 (by decide) (fun c_331 => ?_) (fun c_331 => ?_)
  · have ok := ok.2 c_331
    have hx := xif_n c_331 hx
    refine r_iconst (v := nI 0) dX12_build_337 (by decide) ?_
    refine r_istore_7 dX12_build_338 (by decide) rfl ?_
    exact rX.cutz (c_build_340 hG hX0 hrec ok hx) ⟨rfl, rfl, rfl, rfl, rfl, rfl, rfl, trivial⟩
  · have ok := ok.1 c_331
    have hx := xif_p c_331 hx
    refine r_goto (tgt := 377) dX12_build_334 (by decide) ?_
    exact rX.cutz (b_build_377 hG hX0 hrec ok hx) ⟨rfl, rfl, rfl, rfl, rfl, trivial⟩
def B_build_225 (N : Nat) (rec : Int32 → Int32 → Int32 → Int32 → rS → Nat × Int32 × Int32 × rS) (x1 : Int32) (x3 : Int32) (x4 : Int32) (x5 : Int32) (S : rS) : Nat × Int32 × Int32 × rS := (if (S.2.1 53 x1.toNatClampNeg) ≤ x5 then (0, x3, x4, S) else (if (nI 64) ≤ x4 then (0, x3, x4, S) else (F_build_331 N rec x1 x3 x4 x5 (((nI 560) * x1) + ((nI 7) * x5)) ((f_pay N S (S.2.1 54 (((nI 560) * x1) + ((nI 7) * x5)).toNatClampNeg) (S.2.1 54 ((((nI 560) * x1) + ((nI 7) * x5)) + (nI 1)).toNatClampNeg) (((S.2.1 54 ((((nI 560) * x1) + ((nI 7) * x5)) + (nI 2)).toNatClampNeg) <<< ((nI 8) &&& 31)) ||| (S.2.1 54 ((((nI 560) * x1) + ((nI 7) * x5)) + (nI 3)).toNatClampNeg)) (((S.2.1 54 ((((nI 560) * x1) + ((nI 7) * x5)) + (nI 4)).toNatClampNeg) <<< ((nI 8) &&& 31)) ||| (S.2.1 54 ((((nI 560) * x1) + ((nI 7) * x5)) + (nI 5)).toNatClampNeg)) (S.2.1 54 ((((nI 560) * x1) + ((nI 7) * x5)) + (nI 6)).toNatClampNeg) x1).1) (f_pay N S (S.2.1 54 (((nI 560) * x1) + ((nI 7) * x5)).toNatClampNeg) (S.2.1 54 ((((nI 560) * x1) + ((nI 7) * x5)) + (nI 1)).toNatClampNeg) (((S.2.1 54 ((((nI 560) * x1) + ((nI 7) * x5)) + (nI 2)).toNatClampNeg) <<< ((nI 8) &&& 31)) ||| (S.2.1 54 ((((nI 560) * x1) + ((nI 7) * x5)) + (nI 3)).toNatClampNeg)) (((S.2.1 54 ((((nI 560) * x1) + ((nI 7) * x5)) + (nI 4)).toNatClampNeg) <<< ((nI 8) &&& 31)) ||| (S.2.1 54 ((((nI 560) * x1) + ((nI 7) * x5)) + (nI 5)).toNatClampNeg)) (S.2.1 54 ((((nI 560) * x1) + ((nI 7) * x5)) + (nI 6)).toNatClampNeg) x1).2)))
def OB_build_225 (N : Nat) (rok : Int32 → Int32 → Int32 → Int32 → rS → Prop) (x1 : Int32) (x3 : Int32) (x4 : Int32) (x5 : Int32) (S : rS) : Prop := (vp_in x1 13) ∧ (((S.2.1 53 x1.toNatClampNeg) ≤ x5 → True) ∧ (¬ (S.2.1 53 x1.toNatClampNeg) ≤ x5 → (((nI 64) ≤ x4 → True) ∧ (¬ (nI 64) ≤ x4 → (vp_in (((nI 560) * x1) + ((nI 7) * x5)) 7280) ∧ (vp_in ((((nI 560) * x1) + ((nI 7) * x5)) + (nI 1)) 7280) ∧ (vp_in ((((nI 560) * x1) + ((nI 7) * x5)) + (nI 2)) 7280) ∧ (vp_in ((((nI 560) * x1) + ((nI 7) * x5)) + (nI 3)) 7280) ∧ (vp_in ((((nI 560) * x1) + ((nI 7) * x5)) + (nI 4)) 7280) ∧ (vp_in ((((nI 560) * x1) + ((nI 7) * x5)) + (nI 5)) 7280) ∧ (vp_in ((((nI 560) * x1) + ((nI 7) * x5)) + (nI 6)) 7280) ∧ (o_pay N S (S.2.1 54 (((nI 560) * x1) + ((nI 7) * x5)).toNatClampNeg) (S.2.1 54 ((((nI 560) * x1) + ((nI 7) * x5)) + (nI 1)).toNatClampNeg) (((S.2.1 54 ((((nI 560) * x1) + ((nI 7) * x5)) + (nI 2)).toNatClampNeg) <<< ((nI 8) &&& 31)) ||| (S.2.1 54 ((((nI 560) * x1) + ((nI 7) * x5)) + (nI 3)).toNatClampNeg)) (((S.2.1 54 ((((nI 560) * x1) + ((nI 7) * x5)) + (nI 4)).toNatClampNeg) <<< ((nI 8) &&& 31)) ||| (S.2.1 54 ((((nI 560) * x1) + ((nI 7) * x5)) + (nI 5)).toNatClampNeg)) (S.2.1 54 ((((nI 560) * x1) + ((nI 7) * x5)) + (nI 6)).toNatClampNeg) x1) ∧ O_build_331 N rok x1 x3 x4 x5 (((nI 560) * x1) + ((nI 7) * x5)) ((f_pay N S (S.2.1 54 (((nI 560) * x1) + ((nI 7) * x5)).toNatClampNeg) (S.2.1 54 ((((nI 560) * x1) + ((nI 7) * x5)) + (nI 1)).toNatClampNeg) (((S.2.1 54 ((((nI 560) * x1) + ((nI 7) * x5)) + (nI 2)).toNatClampNeg) <<< ((nI 8) &&& 31)) ||| (S.2.1 54 ((((nI 560) * x1) + ((nI 7) * x5)) + (nI 3)).toNatClampNeg)) (((S.2.1 54 ((((nI 560) * x1) + ((nI 7) * x5)) + (nI 4)).toNatClampNeg) <<< ((nI 8) &&& 31)) ||| (S.2.1 54 ((((nI 560) * x1) + ((nI 7) * x5)) + (nI 5)).toNatClampNeg)) (S.2.1 54 ((((nI 560) * x1) + ((nI 7) * x5)) + (nI 6)).toNatClampNeg) x1).1) (f_pay N S (S.2.1 54 (((nI 560) * x1) + ((nI 7) * x5)).toNatClampNeg) (S.2.1 54 ((((nI 560) * x1) + ((nI 7) * x5)) + (nI 1)).toNatClampNeg) (((S.2.1 54 ((((nI 560) * x1) + ((nI 7) * x5)) + (nI 2)).toNatClampNeg) <<< ((nI 8) &&& 31)) ||| (S.2.1 54 ((((nI 560) * x1) + ((nI 7) * x5)) + (nI 3)).toNatClampNeg)) (((S.2.1 54 ((((nI 560) * x1) + ((nI 7) * x5)) + (nI 4)).toNatClampNeg) <<< ((nI 8) &&& 31)) ||| (S.2.1 54 ((((nI 560) * x1) + ((nI 7) * x5)) + (nI 5)).toNatClampNeg)) (S.2.1 54 ((((nI 560) * x1) + ((nI 7) * x5)) + (nI 6)).toNatClampNeg) x1).2))))
set_option maxHeartbeats 4000000 in
theorem bb_build_225 {G : zG} {E : rE} {S : rS} {N : Nat} {Q : Option Value → rS → Prop} {X : Nat × Int32 × Int32 × rS → Prop} (hG : zOK G) (hX0 : ∀ (x3 : Int32) (x4 : Int32) (S' : rS), X (0, x3, x4, S') → rX G E dX12_build mX12_build 383 [some (.ref E.1), none, none, some (.int x3), some (.int x4), none, none, none] [] S' Q) {rec : Int32 → Int32 → Int32 → Int32 → rS → Nat × Int32 × Int32 × rS} {rok : Int32 → Int32 → Int32 → Int32 → rS → Prop} (hrec : ∀ (x1 : Int32) (x3 : Int32) (x4 : Int32) (x5 : Int32) (S : rS), rok x1 x3 x4 x5 S → X (rec x1 x3 x4 x5 S) → rX G E dX12_build mX12_build 225 [some (.ref E.1), some (.int x1), none, some (.int x3), some (.int x4), some (.int x5), none, none] [] S Q) {x1 : Int32} {x3 : Int32} {x4 : Int32} {x5 : Int32} (ok : OB_build_225 N rok x1 x3 x4 x5 S) (hx : X (B_build_225 N rec x1 x3 x4 x5 S)) : rX G E dX12_build mX12_build 225 [some (.ref E.1), some (.int x1), none, some (.int x3), some (.int x4), some (.int x5), none, none] [] S Q := by
  unfold OB_build_225 at ok
  unfold B_build_225 at hx
  refine r_iload dX12_build_225 rfl ?_
  refine r_aload_n dX12_build_227 rfl rfl ?_
  refine r_getA 53 fX12_336 (by decide) (by decide) dX12_build_228 ?_
  refine r_iload_n dX12_build_231 rfl rfl ?_
  refine r_iald (by decide) (by decide) dX12_build_232 ok.1 ?_
  have ok := ok.2
  refine r_icmp_ge (tgt := 383) dX12_build_233 (by decide) (fun c_233 => ?_) (fun c_233 => ?_)
  · have ok := ok.1 c_233
    have hx := xif_p c_233 hx
    exact rX.cutz (hX0 _ _ S hx) ⟨rfl, rfl, rfl, trivial⟩
  · have ok := ok.2 c_233
    have hx := xif_n c_233 hx
    refine r_iload dX12_build_236 rfl ?_
    refine r_bipush (v := nI 64) dX12_build_238 (by decide) ?_
    refine r_icmp_ge (tgt := 383) dX12_build_240 (by decide) (fun c_240 => ?_) (fun c_240 => ?_)
    · have ok := ok.1 c_240
      have hx := xif_p c_240 hx
      exact rX.cutz (hX0 _ _ S hx) ⟨rfl, rfl, rfl, trivial⟩
    · have ok := ok.2 c_240
      have hx := xif_n c_240 hx
      refine r_sipush (v := nI 560) dX12_build_243 (by decide) ?_
      refine r_iload_n dX12_build_246 rfl rfl ?_
      refine r_imul dX12_build_247 ?_
      refine r_bipush (v := nI 7) dX12_build_248 (by decide) ?_
      refine r_iload dX12_build_250 rfl ?_
      refine r_imul dX12_build_252 ?_
      refine r_iadd dX12_build_253 ?_
      refine r_istore_6 dX12_build_254 (by decide) rfl ?_
      refine r_aload_n dX12_build_256 rfl rfl ?_
      refine r_aload_n dX12_build_257 rfl rfl ?_
      refine r_getA 54 fX12_339 (by decide) (by decide) dX12_build_258 ?_
      refine r_iload dX12_build_261 rfl ?_
      refine r_iald (by decide) (by decide) dX12_build_263 ok.1 ?_
      have ok := ok.2
      refine r_aload_n dX12_build_264 rfl rfl ?_
      refine r_getA 54 fX12_339 (by decide) (by decide) dX12_build_265 ?_
      refine r_iload dX12_build_268 rfl ?_
      refine r_iconst (v := nI 1) dX12_build_270 (by decide) ?_
      refine r_iadd dX12_build_271 ?_
      refine r_iald (by decide) (by decide) dX12_build_272 ok.1 ?_
      have ok := ok.2
      refine r_aload_n dX12_build_273 rfl rfl ?_
      refine r_getA 54 fX12_339 (by decide) (by decide) dX12_build_274 ?_
      refine r_iload dX12_build_277 rfl ?_
      refine r_iconst (v := nI 2) dX12_build_279 (by decide) ?_
      refine r_iadd dX12_build_280 ?_
      refine r_iald (by decide) (by decide) dX12_build_281 ok.1 ?_
      have ok := ok.2
      refine r_bipush (v := nI 8) dX12_build_282 (by decide) ?_
      refine r_ishl dX12_build_284 ?_
      refine r_aload_n dX12_build_285 rfl rfl ?_
      refine r_getA 54 fX12_339 (by decide) (by decide) dX12_build_286 ?_
      refine r_iload dX12_build_289 rfl ?_
      refine r_iconst (v := nI 3) dX12_build_291 (by decide) ?_
      refine r_iadd dX12_build_292 ?_
      refine r_iald (by decide) (by decide) dX12_build_293 ok.1 ?_
      have ok := ok.2
      refine r_ior dX12_build_294 ?_
      refine r_aload_n dX12_build_295 rfl rfl ?_
      refine r_getA 54 fX12_339 (by decide) (by decide) dX12_build_296 ?_
      refine r_iload dX12_build_299 rfl ?_
      refine r_iconst (v := nI 4) dX12_build_301 (by decide) ?_
      refine r_iadd dX12_build_302 ?_
      refine r_iald (by decide) (by decide) dX12_build_303 ok.1 ?_
      have ok := ok.2
      refine r_bipush (v := nI 8) dX12_build_304 (by decide) ?_
      refine r_ishl dX12_build_306 ?_
      refine r_aload_n dX12_build_307 rfl rfl ?_
      refine r_getA 54 fX12_339 (by decide) (by decide) dX12_build_308 ?_
      refine r_iload dX12_build_311 rfl ?_
      refine r_iconst (v := nI 5) dX12_build_313 (by decide) ?_
      refine r_iadd dX12_build_314 ?_
      refine r_iald (by decide) (by decide) dX12_build_315 ok.1 ?_
      have ok := ok.2
      refine r_ior dX12_build_316 ?_
      refine r_aload_n dX12_build_317 rfl rfl ?_
      refine r_getA 54 fX12_339 (by decide) (by decide) dX12_build_318 ?_
      refine r_iload dX12_build_321 rfl ?_
      refine r_bipush (v := nI 6) dX12_build_323 (by decide) ?_
      refine r_iadd dX12_build_325 ?_
      refine r_iald (by decide) (by decide) dX12_build_326 ok.1 ?_
      have ok := ok.2
      refine r_iload_n dX12_build_327 rfl rfl ?_
      refine r_V6i (y' := mX12_pay) dX12_build_328 lX12_547 kX12_pay ⟨by decide, by decide⟩ rfl (Nat.le_of_ble_eq_true rfl) (rc_X12_pay hG ok.1) (fun v_328 S_328 h_328 => ?_)
      obtain ⟨rfl, hS_328⟩ := h_328
      have hS_328 := hS_328.symm
      subst hS_328
      have ok := ok.2
      exact rX.cutz (b_build_331 hG hX0 hrec ok hx) ⟨rfl, rfl, rfl, rfl, rfl, rfl, trivial⟩
def L_build_225 (N : Nat) : Nat → Int32 → Int32 → Int32 → Int32 → rS → Nat × Int32 × Int32 × rS
  | 0, x1, x3, x4, x5, S => (0, 0, 0, S)
  | n + 1, x1, x3, x4, x5, S => B_build_225 N (L_build_225 N n) x1 x3 x4 x5 S
def OL_build_225 (N : Nat) : Nat → Int32 → Int32 → Int32 → Int32 → rS → Prop
  | 0, _, _, _, _, _ => False
  | n + 1, x1, x3, x4, x5, S => OB_build_225 N (OL_build_225 N n) x1 x3 x4 x5 S
set_option maxHeartbeats 4000000 in
theorem l_build_225 {G : zG} {E : rE} {N : Nat} {Q : Option Value → rS → Prop} {X : Nat × Int32 × Int32 × rS → Prop} (hG : zOK G) (hX0 : ∀ (x3 : Int32) (x4 : Int32) (S' : rS), X (0, x3, x4, S') → rX G E dX12_build mX12_build 383 [some (.ref E.1), none, none, some (.int x3), some (.int x4), none, none, none] [] S' Q) : ∀ (n : Nat) (x1 : Int32) (x3 : Int32) (x4 : Int32) (x5 : Int32) (S : rS), OL_build_225 N n x1 x3 x4 x5 S → X (L_build_225 N n x1 x3 x4 x5 S) → rX G E dX12_build mX12_build 225 [some (.ref E.1), some (.int x1), none, some (.int x3), some (.int x4), some (.int x5), none, none] [] S Q := by
  intro n
  induction n with
  | zero => intro x1 x3 x4 x5 S ok; exact absurd ok id
  | succ n ih =>
    intro x1 x3 x4 x5 S ok hx
    exact bb_build_225 hG hX0 (rec := L_build_225 N n) (rok := OL_build_225 N n) (fun x1 x3 x4 x5 S ok hx => ih x1 x3 x4 x5 S ok hx) ok hx
def A_build_225 (N : Nat) (x1 : Int32) (x3 : Int32) (x4 : Int32) (x5 : Int32) (S : rS) (z : Nat × Int32 × Int32 × rS) : rS := (F_build_383 N (z.2.1) (z.2.2.1) z.2.2.2)
def OA_build_225 (N : Nat) (x1 : Int32) (x3 : Int32) (x4 : Int32) (x5 : Int32) (S : rS) (z : Nat × Int32 × Int32 × rS) : Prop := O_build_383 N (z.2.1) (z.2.2.1) z.2.2.2
set_option maxHeartbeats 4000000 in
theorem c_build_225 {G : zG} {E : rE} {S : rS} {N : Nat} {Q : Option Value → rS → Prop} {X : rS → Prop} (hG : zOK G) (hR : ∀ S', X S' → Q none S') {x1 : Int32} {x3 : Int32} {x4 : Int32} {x5 : Int32} (ok : OL_build_225 N N x1 x3 x4 x5 S ∧ OA_build_225 N x1 x3 x4 x5 S (L_build_225 N N x1 x3 x4 x5 S)) (hx : X (A_build_225 N x1 x3 x4 x5 S (L_build_225 N N x1 x3 x4 x5 S))) : rX G E dX12_build mX12_build 225 [some (.ref E.1), some (.int x1), none, some (.int x3), some (.int x4), some (.int x5), none, none] [] S Q := by
  refine l_build_225 hG ?_ N x1 x3 x4 x5 S ok.1 (X := fun z => OA_build_225 N x1 x3 x4 x5 S z ∧ X (A_build_225 N x1 x3 x4 x5 S z)) ⟨ok.2, hx⟩
  · intro x3' x4' S' hz
    obtain ⟨ok, hx⟩ := hz
    unfold OA_build_225 at ok
    unfold A_build_225 at hx
    exact rX.cutz (b_build_383 hG hR ok hx) ⟨rfl, rfl, rfl, trivial⟩
def F_build_219 (N : Nat) (x1 : Int32) (x3 : Int32) (S : rS) : rS := (A_build_225 N x1 x3 (nI 0) (nI 0) S (L_build_225 N N x1 x3 (nI 0) (nI 0) S))
def O_build_219 (N : Nat) (x1 : Int32) (x3 : Int32) (S : rS) : Prop := (OL_build_225 N N x1 x3 (nI 0) (nI 0) S ∧ OA_build_225 N x1 x3 (nI 0) (nI 0) S (L_build_225 N N x1 x3 (nI 0) (nI 0) S))
set_option maxHeartbeats 4000000 in
theorem b_build_219 {G : zG} {E : rE} {S : rS} {N : Nat} {Q : Option Value → rS → Prop} {X : rS → Prop} (hG : zOK G) (hR : ∀ S', X S' → Q none S') {x1 : Int32} {x3 : Int32} (ok : O_build_219 N x1 x3 S) (hx : X (F_build_219 N x1 x3 S)) : rX G E dX12_build mX12_build 219 [some (.ref E.1), some (.int x1), none, some (.int x3), none, none, none, none] [] S Q := by
  unfold O_build_219 at ok
  unfold F_build_219 at hx
  refine r_iconst (v := nI 0) dX12_build_219 (by decide) ?_
  refine r_istore_4 dX12_build_220 (by decide) rfl ?_
  refine r_iconst (v := nI 0) dX12_build_222 (by decide) ?_
  refine r_istore_5 dX12_build_223 (by decide) rfl ?_
  exact rX.cutz (c_build_225 hG hR ok hx) ⟨rfl, rfl, rfl, rfl, rfl, trivial⟩
def F_build_213 (N : Nat) (rec : Int32 → Int32 → Int32 → rS → Nat × Int32 × Int32 × rS) (x1 : Int32) (x3 : Int32) (x4 : Int32) (S : rS) : Nat × Int32 × Int32 × rS := (rec x1 x3 (x4 + nI 1) S)
def O_build_213 (N : Nat) (rok : Int32 → Int32 → Int32 → rS → Prop) (x1 : Int32) (x3 : Int32) (x4 : Int32) (S : rS) : Prop := rok x1 x3 (x4 + nI 1) S
set_option maxHeartbeats 4000000 in
theorem b_build_213 {G : zG} {E : rE} {S : rS} {N : Nat} {Q : Option Value → rS → Prop} {X : Nat × Int32 × Int32 × rS → Prop} (hG : zOK G) (hX0 : ∀ (x1 : Int32) (x3 : Int32) (S' : rS), X (0, x1, x3, S') → rX G E dX12_build mX12_build 219 [some (.ref E.1), some (.int x1), none, some (.int x3), none, none, none, none] [] S' Q) {rec : Int32 → Int32 → Int32 → rS → Nat × Int32 × Int32 × rS} {rok : Int32 → Int32 → Int32 → rS → Prop} (hrec : ∀ (x1 : Int32) (x3 : Int32) (x4 : Int32) (S : rS), rok x1 x3 x4 S → X (rec x1 x3 x4 S) → rX G E dX12_build mX12_build 121 [some (.ref E.1), some (.int x1), none, some (.int x3), some (.int x4), none, none, none] [] S Q) {x1 : Int32} {x3 : Int32} {x4 : Int32} (ok : O_build_213 N rok x1 x3 x4 S) (hx : X (F_build_213 N rec x1 x3 x4 S)) : rX G E dX12_build mX12_build 213 [some (.ref E.1), some (.int x1), none, some (.int x3), some (.int x4), none, none, none] [] S Q := by
  unfold O_build_213 at ok
  unfold F_build_213 at hx
  refine r_iinc_4 (v := (x4 + nI 1)) dX12_build_213 rfl (by first | rfl | (congr 1)) (by decide) rfl ?_
  refine r_goto (tgt := 121) dX12_build_216 (by decide) ?_
  exact rX.cutz (hrec _ _ _ S ok hx) ⟨rfl, rfl, rfl, rfl, trivial⟩
def F_build_209 (N : Nat) (rec : Int32 → Int32 → Int32 → rS → Nat × Int32 × Int32 × rS) (x1 : Int32) (x3 : Int32) (x4 : Int32) (S : rS) : Nat × Int32 × Int32 × rS := (F_build_213 N rec x1 (x3 + (nI 1)) x4 S)
def O_build_209 (N : Nat) (rok : Int32 → Int32 → Int32 → rS → Prop) (x1 : Int32) (x3 : Int32) (x4 : Int32) (S : rS) : Prop := O_build_213 N rok x1 (x3 + (nI 1)) x4 S
set_option maxHeartbeats 4000000 in
theorem b_build_209 {G : zG} {E : rE} {S : rS} {N : Nat} {Q : Option Value → rS → Prop} {X : Nat × Int32 × Int32 × rS → Prop} (hG : zOK G) (hX0 : ∀ (x1 : Int32) (x3 : Int32) (S' : rS), X (0, x1, x3, S') → rX G E dX12_build mX12_build 219 [some (.ref E.1), some (.int x1), none, some (.int x3), none, none, none, none] [] S' Q) {rec : Int32 → Int32 → Int32 → rS → Nat × Int32 × Int32 × rS} {rok : Int32 → Int32 → Int32 → rS → Prop} (hrec : ∀ (x1 : Int32) (x3 : Int32) (x4 : Int32) (S : rS), rok x1 x3 x4 S → X (rec x1 x3 x4 S) → rX G E dX12_build mX12_build 121 [some (.ref E.1), some (.int x1), none, some (.int x3), some (.int x4), none, none, none] [] S Q) {x1 : Int32} {x3 : Int32} {x4 : Int32} (ok : O_build_209 N rok x1 x3 x4 S) (hx : X (F_build_209 N rec x1 x3 x4 S)) : rX G E dX12_build mX12_build 209 [some (.ref E.1), some (.int x1), none, some (.int x3), some (.int x4), none, none, none] [] S Q := by
  unfold O_build_209 at ok
  unfold F_build_209 at hx
  refine r_iload_n dX12_build_209 rfl rfl ?_
  refine r_iconst (v := nI 1) dX12_build_210 (by decide) ?_
  refine r_iadd dX12_build_211 ?_
  refine r_istore_3 dX12_build_212 (by decide) rfl ?_
  exact rX.cutz (b_build_213 hG hX0 hrec ok hx) ⟨rfl, rfl, rfl, rfl, trivial⟩
def F_build_205 (N : Nat) (rec : Int32 → Int32 → Int32 → rS → Nat × Int32 × Int32 × rS) (x1 : Int32) (x3 : Int32) (x4 : Int32) (S : rS) : Nat × Int32 × Int32 × rS := (F_build_209 N rec x1 x3 x4 (f_endPart N S))
def O_build_205 (N : Nat) (rok : Int32 → Int32 → Int32 → rS → Prop) (x1 : Int32) (x3 : Int32) (x4 : Int32) (S : rS) : Prop := (o_endPart N S) ∧ O_build_209 N rok x1 x3 x4 (f_endPart N S)
set_option maxHeartbeats 4000000 in
theorem b_build_205 {G : zG} {E : rE} {S : rS} {N : Nat} {Q : Option Value → rS → Prop} {X : Nat × Int32 × Int32 × rS → Prop} (hG : zOK G) (hX0 : ∀ (x1 : Int32) (x3 : Int32) (S' : rS), X (0, x1, x3, S') → rX G E dX12_build mX12_build 219 [some (.ref E.1), some (.int x1), none, some (.int x3), none, none, none, none] [] S' Q) {rec : Int32 → Int32 → Int32 → rS → Nat × Int32 × Int32 × rS} {rok : Int32 → Int32 → Int32 → rS → Prop} (hrec : ∀ (x1 : Int32) (x3 : Int32) (x4 : Int32) (S : rS), rok x1 x3 x4 S → X (rec x1 x3 x4 S) → rX G E dX12_build mX12_build 121 [some (.ref E.1), some (.int x1), none, some (.int x3), some (.int x4), none, none, none] [] S Q) {x1 : Int32} {x3 : Int32} {x4 : Int32} (ok : O_build_205 N rok x1 x3 x4 S) (hx : X (F_build_205 N rec x1 x3 x4 S)) : rX G E dX12_build mX12_build 205 [some (.ref E.1), some (.int x1), none, some (.int x3), some (.int x4), none, none, none] [] S Q := by
  unfold O_build_205 at ok
  unfold F_build_205 at hx
  refine r_aload_n dX12_build_205 rfl rfl ?_
  refine r_V0v (y' := mX12_endPart) dX12_build_206 lX12_127 kX12_endPart ⟨by decide, by decide⟩ rfl (Nat.le_of_ble_eq_true rfl) (rc_X12_endPart hG ok.1) (fun S_206 h_206 => ?_)
  subst h_206
  have ok := ok.2
  exact rX.cutz (b_build_209 hG hX0 hrec ok hx) ⟨rfl, rfl, rfl, rfl, trivial⟩
def F_build_199 (N : Nat) (rec : Int32 → Int32 → Int32 → Int32 → Int32 → rS → Nat × Int32 × Int32 × Int32 × rS) (x1 : Int32) (x3 : Int32) (x4 : Int32) (x5 : Int32) (x6 : Int32) (S : rS) : Nat × Int32 × Int32 × Int32 × rS := (rec x1 x3 x4 x5 (x6 + nI 1) S)
def O_build_199 (N : Nat) (rok : Int32 → Int32 → Int32 → Int32 → Int32 → rS → Prop) (x1 : Int32) (x3 : Int32) (x4 : Int32) (x5 : Int32) (x6 : Int32) (S : rS) : Prop := rok x1 x3 x4 x5 (x6 + nI 1) S
set_option maxHeartbeats 4000000 in
theorem b_build_199 {G : zG} {E : rE} {S : rS} {N : Nat} {Q : Option Value → rS → Prop} {X : Nat × Int32 × Int32 × Int32 × rS → Prop} (hG : zOK G) (hX0 : ∀ (x1 : Int32) (x3 : Int32) (x4 : Int32) (S' : rS), X (0, x1, x3, x4, S') → rX G E dX12_build mX12_build 205 [some (.ref E.1), some (.int x1), none, some (.int x3), some (.int x4), none, none, none] [] S' Q) {rec : Int32 → Int32 → Int32 → Int32 → Int32 → rS → Nat × Int32 × Int32 × Int32 × rS} {rok : Int32 → Int32 → Int32 → Int32 → Int32 → rS → Prop} (hrec : ∀ (x1 : Int32) (x3 : Int32) (x4 : Int32) (x5 : Int32) (x6 : Int32) (S : rS), rok x1 x3 x4 x5 x6 S → X (rec x1 x3 x4 x5 x6 S) → rX G E dX12_build mX12_build 170 [some (.ref E.1), some (.int x1), none, some (.int x3), some (.int x4), some (.int x5), some (.int x6), none] [] S Q) {x1 : Int32} {x3 : Int32} {x4 : Int32} {x5 : Int32} {x6 : Int32} (ok : O_build_199 N rok x1 x3 x4 x5 x6 S) (hx : X (F_build_199 N rec x1 x3 x4 x5 x6 S)) : rX G E dX12_build mX12_build 199 [some (.ref E.1), some (.int x1), none, some (.int x3), some (.int x4), some (.int x5), some (.int x6), none] [] S Q := by
  unfold O_build_199 at ok
  unfold F_build_199 at hx
  refine r_iinc_6 (v := (x6 + nI 1)) dX12_build_199 rfl (by first | rfl | (congr 1)) (by decide) rfl ?_
  refine r_goto (tgt := 170) dX12_build_202 (by decide) ?_
  exact rX.cutz (hrec _ _ _ _ _ S ok hx) ⟨rfl, rfl, rfl, rfl, rfl, rfl, trivial⟩
def B_build_170 (N : Nat) (rec : Int32 → Int32 → Int32 → Int32 → Int32 → rS → Nat × Int32 × Int32 × Int32 × rS) (x1 : Int32) (x3 : Int32) (x4 : Int32) (x5 : Int32) (x6 : Int32) (S : rS) : Nat × Int32 × Int32 × Int32 × rS := (if x5 ≤ x6 then (0, x1, x3, x4, S) else (F_build_199 N rec x1 x3 x4 x5 x6 (f_partByte N S (S.2.1 56 (((nI 71) * (((nI 13) * x1) + x4)) + x6).toNatClampNeg))))
def OB_build_170 (N : Nat) (rok : Int32 → Int32 → Int32 → Int32 → Int32 → rS → Prop) (x1 : Int32) (x3 : Int32) (x4 : Int32) (x5 : Int32) (x6 : Int32) (S : rS) : Prop := ((x5 ≤ x6 → True) ∧ (¬ x5 ≤ x6 → (vp_in (((nI 71) * (((nI 13) * x1) + x4)) + x6) 12000) ∧ (o_partByte N S (S.2.1 56 (((nI 71) * (((nI 13) * x1) + x4)) + x6).toNatClampNeg)) ∧ O_build_199 N rok x1 x3 x4 x5 x6 (f_partByte N S (S.2.1 56 (((nI 71) * (((nI 13) * x1) + x4)) + x6).toNatClampNeg))))
set_option maxHeartbeats 4000000 in
theorem bb_build_170 {G : zG} {E : rE} {S : rS} {N : Nat} {Q : Option Value → rS → Prop} {X : Nat × Int32 × Int32 × Int32 × rS → Prop} (hG : zOK G) (hX0 : ∀ (x1 : Int32) (x3 : Int32) (x4 : Int32) (S' : rS), X (0, x1, x3, x4, S') → rX G E dX12_build mX12_build 205 [some (.ref E.1), some (.int x1), none, some (.int x3), some (.int x4), none, none, none] [] S' Q) {rec : Int32 → Int32 → Int32 → Int32 → Int32 → rS → Nat × Int32 × Int32 × Int32 × rS} {rok : Int32 → Int32 → Int32 → Int32 → Int32 → rS → Prop} (hrec : ∀ (x1 : Int32) (x3 : Int32) (x4 : Int32) (x5 : Int32) (x6 : Int32) (S : rS), rok x1 x3 x4 x5 x6 S → X (rec x1 x3 x4 x5 x6 S) → rX G E dX12_build mX12_build 170 [some (.ref E.1), some (.int x1), none, some (.int x3), some (.int x4), some (.int x5), some (.int x6), none] [] S Q) {x1 : Int32} {x3 : Int32} {x4 : Int32} {x5 : Int32} {x6 : Int32} (ok : OB_build_170 N rok x1 x3 x4 x5 x6 S) (hx : X (B_build_170 N rec x1 x3 x4 x5 x6 S)) : rX G E dX12_build mX12_build 170 [some (.ref E.1), some (.int x1), none, some (.int x3), some (.int x4), some (.int x5), some (.int x6), none] [] S Q := by
  unfold OB_build_170 at ok
  unfold B_build_170 at hx
  refine r_iload dX12_build_170 rfl ?_
  refine r_iload dX12_build_172 rfl ?_
  refine r_icmp_ge (tgt := 205) dX12_build_174 (by decide) (fun c_174 => ?_) (fun c_174 => ?_)
  · have ok := ok.1 c_174
    have hx := xif_p c_174 hx
    exact rX.cutz (hX0 _ _ _ S hx) ⟨rfl, rfl, rfl, rfl, trivial⟩
  · have ok := ok.2 c_174
    have hx := xif_n c_174 hx
    refine r_aload_n dX12_build_177 rfl rfl ?_
    refine r_aload_n dX12_build_178 rfl rfl ?_
    refine r_getA 56 fX12_345 (by decide) (by decide) dX12_build_179 ?_
    refine r_bipush (v := nI 71) dX12_build_182 (by decide) ?_
    refine r_bipush (v := nI 13) dX12_build_184 (by decide) ?_
    refine r_iload_n dX12_build_186 rfl rfl ?_
    refine r_imul dX12_build_187 ?_
    refine r_iload dX12_build_188 rfl ?_
    refine r_iadd dX12_build_190 ?_
    refine r_imul dX12_build_191 ?_
    refine r_iload dX12_build_192 rfl ?_
    refine r_iadd dX12_build_194 ?_
    refine r_iald (by decide) (by decide) dX12_build_195 ok.1 ?_
    have ok := ok.2
    refine r_V1v (y' := mX12_partByte) dX12_build_196 lX12_124 kX12_partByte ⟨by decide, by decide⟩ rfl (Nat.le_of_ble_eq_true rfl) (rc_X12_partByte hG ok.1) (fun S_196 h_196 => ?_)
    subst h_196
    have ok := ok.2
    exact rX.cutz (b_build_199 hG hX0 hrec ok hx) ⟨rfl, rfl, rfl, rfl, rfl, rfl, trivial⟩
def L_build_170 (N : Nat) : Nat → Int32 → Int32 → Int32 → Int32 → Int32 → rS → Nat × Int32 × Int32 × Int32 × rS
  | 0, x1, x3, x4, x5, x6, S => (0, 0, 0, 0, S)
  | n + 1, x1, x3, x4, x5, x6, S => B_build_170 N (L_build_170 N n) x1 x3 x4 x5 x6 S
def OL_build_170 (N : Nat) : Nat → Int32 → Int32 → Int32 → Int32 → Int32 → rS → Prop
  | 0, _, _, _, _, _, _ => False
  | n + 1, x1, x3, x4, x5, x6, S => OB_build_170 N (OL_build_170 N n) x1 x3 x4 x5 x6 S
set_option maxHeartbeats 4000000 in
theorem l_build_170 {G : zG} {E : rE} {N : Nat} {Q : Option Value → rS → Prop} {X : Nat × Int32 × Int32 × Int32 × rS → Prop} (hG : zOK G) (hX0 : ∀ (x1 : Int32) (x3 : Int32) (x4 : Int32) (S' : rS), X (0, x1, x3, x4, S') → rX G E dX12_build mX12_build 205 [some (.ref E.1), some (.int x1), none, some (.int x3), some (.int x4), none, none, none] [] S' Q) : ∀ (n : Nat) (x1 : Int32) (x3 : Int32) (x4 : Int32) (x5 : Int32) (x6 : Int32) (S : rS), OL_build_170 N n x1 x3 x4 x5 x6 S → X (L_build_170 N n x1 x3 x4 x5 x6 S) → rX G E dX12_build mX12_build 170 [some (.ref E.1), some (.int x1), none, some (.int x3), some (.int x4), some (.int x5), some (.int x6), none] [] S Q := by
  intro n
  induction n with
  | zero => intro x1 x3 x4 x5 x6 S ok; exact absurd ok id
  | succ n ih =>
    intro x1 x3 x4 x5 x6 S ok hx
    exact bb_build_170 hG hX0 (rec := L_build_170 N n) (rok := OL_build_170 N n) (fun x1 x3 x4 x5 x6 S ok hx => ih x1 x3 x4 x5 x6 S ok hx) ok hx
def A_build_170 (N : Nat) (rec : Int32 → Int32 → Int32 → rS → Nat × Int32 × Int32 × rS) (x1 : Int32) (x3 : Int32) (x4 : Int32) (x5 : Int32) (x6 : Int32) (S : rS) (z : Nat × Int32 × Int32 × Int32 × rS) : Nat × Int32 × Int32 × rS := (F_build_205 N rec (z.2.1) (z.2.2.1) (z.2.2.2.1) z.2.2.2.2)
def OA_build_170 (N : Nat) (rok : Int32 → Int32 → Int32 → rS → Prop) (x1 : Int32) (x3 : Int32) (x4 : Int32) (x5 : Int32) (x6 : Int32) (S : rS) (z : Nat × Int32 × Int32 × Int32 × rS) : Prop := O_build_205 N rok (z.2.1) (z.2.2.1) (z.2.2.2.1) z.2.2.2.2
set_option maxHeartbeats 4000000 in
theorem c_build_170 {G : zG} {E : rE} {S : rS} {N : Nat} {Q : Option Value → rS → Prop} {X : Nat × Int32 × Int32 × rS → Prop} (hG : zOK G) (hX0 : ∀ (x1 : Int32) (x3 : Int32) (S' : rS), X (0, x1, x3, S') → rX G E dX12_build mX12_build 219 [some (.ref E.1), some (.int x1), none, some (.int x3), none, none, none, none] [] S' Q) {rec : Int32 → Int32 → Int32 → rS → Nat × Int32 × Int32 × rS} {rok : Int32 → Int32 → Int32 → rS → Prop} (hrec : ∀ (x1 : Int32) (x3 : Int32) (x4 : Int32) (S : rS), rok x1 x3 x4 S → X (rec x1 x3 x4 S) → rX G E dX12_build mX12_build 121 [some (.ref E.1), some (.int x1), none, some (.int x3), some (.int x4), none, none, none] [] S Q) {x1 : Int32} {x3 : Int32} {x4 : Int32} {x5 : Int32} {x6 : Int32} (ok : OL_build_170 N N x1 x3 x4 x5 x6 S ∧ OA_build_170 N rok x1 x3 x4 x5 x6 S (L_build_170 N N x1 x3 x4 x5 x6 S)) (hx : X (A_build_170 N rec x1 x3 x4 x5 x6 S (L_build_170 N N x1 x3 x4 x5 x6 S))) : rX G E dX12_build mX12_build 170 [some (.ref E.1), some (.int x1), none, some (.int x3), some (.int x4), some (.int x5), some (.int x6), none] [] S Q := by
  refine l_build_170 hG ?_ N x1 x3 x4 x5 x6 S ok.1 (X := fun z => OA_build_170 N rok x1 x3 x4 x5 x6 S z ∧ X (A_build_170 N rec x1 x3 x4 x5 x6 S z)) ⟨ok.2, hx⟩
  · intro x1' x3' x4' S' hz
    obtain ⟨ok, hx⟩ := hz
    unfold OA_build_170 at ok
    unfold A_build_170 at hx
    exact rX.cutz (b_build_205 hG hX0 hrec ok hx) ⟨rfl, rfl, rfl, rfl, trivial⟩
def F_build_161 (N : Nat) (rec : Int32 → Int32 → Int32 → rS → Nat × Int32 × Int32 × rS) (x1 : Int32) (x3 : Int32) (x4 : Int32) (x5 : Int32) (s0 : Int32) (S : rS) : Nat × Int32 × Int32 × rS := (if s0 = 0 then (F_build_213 N rec x1 x3 x4 S) else (A_build_170 N rec x1 x3 x4 x5 (nI 0) S (L_build_170 N N x1 x3 x4 x5 (nI 0) S)))
def O_build_161 (N : Nat) (rok : Int32 → Int32 → Int32 → rS → Prop) (x1 : Int32) (x3 : Int32) (x4 : Int32) (x5 : Int32) (s0 : Int32) (S : rS) : Prop := ((s0 = 0 → O_build_213 N rok x1 x3 x4 S) ∧ (¬ s0 = 0 → (OL_build_170 N N x1 x3 x4 x5 (nI 0) S ∧ OA_build_170 N rok x1 x3 x4 x5 (nI 0) S (L_build_170 N N x1 x3 x4 x5 (nI 0) S))))
set_option maxHeartbeats 4000000 in
theorem b_build_161 {G : zG} {E : rE} {S : rS} {N : Nat} {Q : Option Value → rS → Prop} {X : Nat × Int32 × Int32 × rS → Prop} (hG : zOK G) (hX0 : ∀ (x1 : Int32) (x3 : Int32) (S' : rS), X (0, x1, x3, S') → rX G E dX12_build mX12_build 219 [some (.ref E.1), some (.int x1), none, some (.int x3), none, none, none, none] [] S' Q) {rec : Int32 → Int32 → Int32 → rS → Nat × Int32 × Int32 × rS} {rok : Int32 → Int32 → Int32 → rS → Prop} (hrec : ∀ (x1 : Int32) (x3 : Int32) (x4 : Int32) (S : rS), rok x1 x3 x4 S → X (rec x1 x3 x4 S) → rX G E dX12_build mX12_build 121 [some (.ref E.1), some (.int x1), none, some (.int x3), some (.int x4), none, none, none] [] S Q) {x1 : Int32} {x3 : Int32} {x4 : Int32} {x5 : Int32} {s0 : Int32} (ok : O_build_161 N rok x1 x3 x4 x5 s0 S) (hx : X (F_build_161 N rec x1 x3 x4 x5 s0 S)) : rX G E dX12_build mX12_build 161 [some (.ref E.1), some (.int x1), none, some (.int x3), some (.int x4), some (.int x5), none, none] [.int s0] S Q := by
  unfold O_build_161 at ok
  unfold F_build_161 at hx
  refine r_if_ne (tgt := 167) dX12_build_161 (by decide) (fun c_161 => ?_) (fun c_161 => ?_)
  · have ok := ok.2 c_161
    have hx := xif_n c_161 hx
    refine r_iconst (v := nI 0) dX12_build_167 (by decide) ?_
    refine r_istore_6 dX12_build_168 (by decide) rfl ?_
    exact rX.cutz (c_build_170 hG hX0 hrec ok hx) ⟨rfl, rfl, rfl, rfl, rfl, rfl, trivial⟩
  · have ok := ok.1 c_161
    have hx := xif_p c_161 hx
    refine r_goto (tgt := 213) dX12_build_164 (by decide) ?_
    exact rX.cutz (b_build_213 hG hX0 hrec ok hx) ⟨rfl, rfl, rfl, rfl, trivial⟩
def B_build_121 (N : Nat) (rec : Int32 → Int32 → Int32 → rS → Nat × Int32 × Int32 × rS) (x1 : Int32) (x3 : Int32) (x4 : Int32) (S : rS) : Nat × Int32 × Int32 × rS := (if (S.1 0) ≤ x4 then (0, x1, x3, S) else (if (nI 2) ≤ x3 then (0, x1, x3, S) else (if (S.2.1 55 (((nI 13) * x1) + x4).toNatClampNeg) = 0 then (F_build_213 N rec x1 x3 x4 S) else (F_build_161 N rec x1 x3 x4 (S.2.1 55 (((nI 13) * x1) + x4).toNatClampNeg) ((f_fine N S x4 x1).1) (f_fine N S x4 x1).2))))
def OB_build_121 (N : Nat) (rok : Int32 → Int32 → Int32 → rS → Prop) (x1 : Int32) (x3 : Int32) (x4 : Int32) (S : rS) : Prop := (((S.1 0) ≤ x4 → True) ∧ (¬ (S.1 0) ≤ x4 → (((nI 2) ≤ x3 → True) ∧ (¬ (nI 2) ≤ x3 → (vp_in (((nI 13) * x1) + x4) 169) ∧ (((S.2.1 55 (((nI 13) * x1) + x4).toNatClampNeg) = 0 → O_build_213 N rok x1 x3 x4 S) ∧ (¬ (S.2.1 55 (((nI 13) * x1) + x4).toNatClampNeg) = 0 → (o_fine N S x4 x1) ∧ O_build_161 N rok x1 x3 x4 (S.2.1 55 (((nI 13) * x1) + x4).toNatClampNeg) ((f_fine N S x4 x1).1) (f_fine N S x4 x1).2))))))
set_option maxHeartbeats 4000000 in
theorem bb_build_121 {G : zG} {E : rE} {S : rS} {N : Nat} {Q : Option Value → rS → Prop} {X : Nat × Int32 × Int32 × rS → Prop} (hG : zOK G) (hX0 : ∀ (x1 : Int32) (x3 : Int32) (S' : rS), X (0, x1, x3, S') → rX G E dX12_build mX12_build 219 [some (.ref E.1), some (.int x1), none, some (.int x3), none, none, none, none] [] S' Q) {rec : Int32 → Int32 → Int32 → rS → Nat × Int32 × Int32 × rS} {rok : Int32 → Int32 → Int32 → rS → Prop} (hrec : ∀ (x1 : Int32) (x3 : Int32) (x4 : Int32) (S : rS), rok x1 x3 x4 S → X (rec x1 x3 x4 S) → rX G E dX12_build mX12_build 121 [some (.ref E.1), some (.int x1), none, some (.int x3), some (.int x4), none, none, none] [] S Q) {x1 : Int32} {x3 : Int32} {x4 : Int32} (ok : OB_build_121 N rok x1 x3 x4 S) (hx : X (B_build_121 N rec x1 x3 x4 S)) : rX G E dX12_build mX12_build 121 [some (.ref E.1), some (.int x1), none, some (.int x3), some (.int x4), none, none, none] [] S Q := by
  unfold OB_build_121 at ok
  unfold B_build_121 at hx
  refine r_iload dX12_build_121 rfl ?_
  refine r_aload_n dX12_build_123 rfl rfl ?_
  refine r_getI 0 fX12_219 (by decide) (by decide) dX12_build_124 ?_
  refine r_icmp_ge (tgt := 219) dX12_build_127 (by decide) (fun c_127 => ?_) (fun c_127 => ?_)
  · have ok := ok.1 c_127
    have hx := xif_p c_127 hx
    exact rX.cutz (hX0 _ _ S hx) ⟨rfl, rfl, rfl, trivial⟩
  · have ok := ok.2 c_127
    have hx := xif_n c_127 hx
    refine r_iload_n dX12_build_130 rfl rfl ?_
    refine r_iconst (v := nI 2) dX12_build_131 (by decide) ?_
    refine r_icmp_ge (tgt := 219) dX12_build_132 (by decide) (fun c_132 => ?_) (fun c_132 => ?_)
    · have ok := ok.1 c_132
      have hx := xif_p c_132 hx
      exact rX.cutz (hX0 _ _ S hx) ⟨rfl, rfl, rfl, trivial⟩
    · have ok := ok.2 c_132
      have hx := xif_n c_132 hx
      refine r_aload_n dX12_build_135 rfl rfl ?_
      refine r_getA 55 fX12_342 (by decide) (by decide) dX12_build_136 ?_
      refine r_bipush (v := nI 13) dX12_build_139 (by decide) ?_
      refine r_iload_n dX12_build_141 rfl rfl ?_
      refine r_imul dX12_build_142 ?_
      refine r_iload dX12_build_143 rfl ?_
      refine r_iadd dX12_build_145 ?_
      refine r_iald (by decide) (by decide) dX12_build_146 ok.1 ?_
      have ok := ok.2
      refine r_istore_5 dX12_build_147 (by decide) rfl ?_
      refine r_iload dX12_build_149 rfl ?_
      refine r_if_eq (tgt := 213) dX12_build_151 (by decide) (fun c_151 => ?_) (fun c_151 => ?_)
      · have ok := ok.1 c_151
        have hx := xif_p c_151 hx
        exact rX.cutz (b_build_213 hG hX0 hrec ok hx) ⟨rfl, rfl, rfl, rfl, trivial⟩
      · have ok := ok.2 c_151
        have hx := xif_n c_151 hx
        refine r_aload_n dX12_build_154 rfl rfl ?_
        refine r_iload dX12_build_155 rfl ?_
        refine r_iload_n dX12_build_157 rfl rfl ?_
        refine r_V2i (y' := mX12_fine) dX12_build_158 lX12_544 kX12_fine ⟨by decide, by decide⟩ rfl (Nat.le_of_ble_eq_true rfl) (rc_X12_fine hG ok.1) (fun v_158 S_158 h_158 => ?_)
        obtain ⟨rfl, hS_158⟩ := h_158
        have hS_158 := hS_158.symm
        subst hS_158
        have ok := ok.2
        exact rX.cutz (b_build_161 hG hX0 hrec ok hx) ⟨rfl, rfl, rfl, rfl, rfl, trivial⟩
def L_build_121 (N : Nat) : Nat → Int32 → Int32 → Int32 → rS → Nat × Int32 × Int32 × rS
  | 0, x1, x3, x4, S => (0, 0, 0, S)
  | n + 1, x1, x3, x4, S => B_build_121 N (L_build_121 N n) x1 x3 x4 S
def OL_build_121 (N : Nat) : Nat → Int32 → Int32 → Int32 → rS → Prop
  | 0, _, _, _, _ => False
  | n + 1, x1, x3, x4, S => OB_build_121 N (OL_build_121 N n) x1 x3 x4 S
set_option maxHeartbeats 4000000 in
theorem l_build_121 {G : zG} {E : rE} {N : Nat} {Q : Option Value → rS → Prop} {X : Nat × Int32 × Int32 × rS → Prop} (hG : zOK G) (hX0 : ∀ (x1 : Int32) (x3 : Int32) (S' : rS), X (0, x1, x3, S') → rX G E dX12_build mX12_build 219 [some (.ref E.1), some (.int x1), none, some (.int x3), none, none, none, none] [] S' Q) : ∀ (n : Nat) (x1 : Int32) (x3 : Int32) (x4 : Int32) (S : rS), OL_build_121 N n x1 x3 x4 S → X (L_build_121 N n x1 x3 x4 S) → rX G E dX12_build mX12_build 121 [some (.ref E.1), some (.int x1), none, some (.int x3), some (.int x4), none, none, none] [] S Q := by
  intro n
  induction n with
  | zero => intro x1 x3 x4 S ok; exact absurd ok id
  | succ n ih =>
    intro x1 x3 x4 S ok hx
    exact bb_build_121 hG hX0 (rec := L_build_121 N n) (rok := OL_build_121 N n) (fun x1 x3 x4 S ok hx => ih x1 x3 x4 S ok hx) ok hx
def A_build_121 (N : Nat) (x1 : Int32) (x3 : Int32) (x4 : Int32) (S : rS) (z : Nat × Int32 × Int32 × rS) : rS := (F_build_219 N (z.2.1) (z.2.2.1) z.2.2.2)
def OA_build_121 (N : Nat) (x1 : Int32) (x3 : Int32) (x4 : Int32) (S : rS) (z : Nat × Int32 × Int32 × rS) : Prop := O_build_219 N (z.2.1) (z.2.2.1) z.2.2.2
set_option maxHeartbeats 4000000 in
theorem c_build_121 {G : zG} {E : rE} {S : rS} {N : Nat} {Q : Option Value → rS → Prop} {X : rS → Prop} (hG : zOK G) (hR : ∀ S', X S' → Q none S') {x1 : Int32} {x3 : Int32} {x4 : Int32} (ok : OL_build_121 N N x1 x3 x4 S ∧ OA_build_121 N x1 x3 x4 S (L_build_121 N N x1 x3 x4 S)) (hx : X (A_build_121 N x1 x3 x4 S (L_build_121 N N x1 x3 x4 S))) : rX G E dX12_build mX12_build 121 [some (.ref E.1), some (.int x1), none, some (.int x3), some (.int x4), none, none, none] [] S Q := by
  refine l_build_121 hG ?_ N x1 x3 x4 S ok.1 (X := fun z => OA_build_121 N x1 x3 x4 S z ∧ X (A_build_121 N x1 x3 x4 S z)) ⟨ok.2, hx⟩
  · intro x1' x3' S' hz
    obtain ⟨ok, hx⟩ := hz
    unfold OA_build_121 at ok
    unfold A_build_121 at hx
    exact rX.cutz (b_build_219 hG hR ok hx) ⟨rfl, rfl, rfl, trivial⟩
def F_build_113 (N : Nat) (x1 : Int32) (S : rS) : rS := (A_build_121 N x1 (nI 0) (nI 0) S (L_build_121 N N x1 (nI 0) (nI 0) S))
def O_build_113 (N : Nat) (x1 : Int32) (S : rS) : Prop := (OL_build_121 N N x1 (nI 0) (nI 0) S ∧ OA_build_121 N x1 (nI 0) (nI 0) S (L_build_121 N N x1 (nI 0) (nI 0) S))
set_option maxHeartbeats 4000000 in
theorem b_build_113 {G : zG} {E : rE} {S : rS} {N : Nat} {Q : Option Value → rS → Prop} {X : rS → Prop} (hG : zOK G) (hR : ∀ S', X S' → Q none S') {x1 : Int32} (ok : O_build_113 N x1 S) (hx : X (F_build_113 N x1 S)) : rX G E dX12_build mX12_build 113 [some (.ref E.1), some (.int x1), none, none, none, none, none, none] [] S Q := by
  unfold O_build_113 at ok
  unfold F_build_113 at hx
  refine r_bipush (v := nI 101) dX12_build_113 (by decide) ?_
  refine r_istore_2 dX12_build_115 (by decide) rfl ?_
  refine r_iconst (v := nI 0) dX12_build_116 (by decide) ?_
  refine r_istore_3 dX12_build_117 (by decide) rfl ?_
  refine r_iconst (v := nI 0) dX12_build_118 (by decide) ?_
  refine r_istore_4 dX12_build_119 (by decide) rfl ?_
  exact rX.cutz (c_build_121 hG hR ok hx) ⟨rfl, rfl, rfl, rfl, trivial⟩
def F_build_109 (N : Nat) (x1 : Int32) (S : rS) : rS := (F_build_113 N x1 (f_noParts N S))
def O_build_109 (N : Nat) (x1 : Int32) (S : rS) : Prop := (o_noParts N S) ∧ O_build_113 N x1 (f_noParts N S)
set_option maxHeartbeats 4000000 in
theorem b_build_109 {G : zG} {E : rE} {S : rS} {N : Nat} {Q : Option Value → rS → Prop} {X : rS → Prop} (hG : zOK G) (hR : ∀ S', X S' → Q none S') {x1 : Int32} (ok : O_build_109 N x1 S) (hx : X (F_build_109 N x1 S)) : rX G E dX12_build mX12_build 109 [some (.ref E.1), some (.int x1), none, none, none, none, none, none] [] S Q := by
  unfold O_build_109 at ok
  unfold F_build_109 at hx
  refine r_aload_n dX12_build_109 rfl rfl ?_
  refine r_V0v (y' := mX12_noParts) dX12_build_110 lX12_112 kX12_noParts ⟨by decide, by decide⟩ rfl (Nat.le_of_ble_eq_true rfl) (rc_X12_noParts hG ok.1) (fun S_110 h_110 => ?_)
  subst h_110
  have ok := ok.2
  exact rX.cutz (b_build_113 hG hR ok hx) ⟨rfl, rfl, trivial⟩
def F_build_103 (N : Nat) (rec : Int32 → Int32 → rS → Nat × Int32 × rS) (x1 : Int32) (x2 : Int32) (S : rS) : Nat × Int32 × rS := (rec x1 (x2 + nI 1) S)
def O_build_103 (N : Nat) (rok : Int32 → Int32 → rS → Prop) (x1 : Int32) (x2 : Int32) (S : rS) : Prop := rok x1 (x2 + nI 1) S
set_option maxHeartbeats 4000000 in
theorem b_build_103 {G : zG} {E : rE} {S : rS} {N : Nat} {Q : Option Value → rS → Prop} {X : Nat × Int32 × rS → Prop} (hG : zOK G) (hX0 : ∀ (x1 : Int32) (S' : rS), X (0, x1, S') → rX G E dX12_build mX12_build 109 [some (.ref E.1), some (.int x1), none, none, none, none, none, none] [] S' Q) {rec : Int32 → Int32 → rS → Nat × Int32 × rS} {rok : Int32 → Int32 → rS → Prop} (hrec : ∀ (x1 : Int32) (x2 : Int32) (S : rS), rok x1 x2 S → X (rec x1 x2 S) → rX G E dX12_build mX12_build 81 [some (.ref E.1), some (.int x1), some (.int x2), none, none, none, none, none] [] S Q) {x1 : Int32} {x2 : Int32} (ok : O_build_103 N rok x1 x2 S) (hx : X (F_build_103 N rec x1 x2 S)) : rX G E dX12_build mX12_build 103 [some (.ref E.1), some (.int x1), some (.int x2), none, none, none, none, none] [] S Q := by
  unfold O_build_103 at ok
  unfold F_build_103 at hx
  refine r_iinc_2 (v := (x2 + nI 1)) dX12_build_103 rfl (by first | rfl | (congr 1)) (by decide) rfl ?_
  refine r_goto (tgt := 81) dX12_build_106 (by decide) ?_
  exact rX.cutz (hrec _ _ S ok hx) ⟨rfl, rfl, rfl, trivial⟩
def B_build_81 (N : Nat) (rec : Int32 → Int32 → rS → Nat × Int32 × rS) (x1 : Int32) (x2 : Int32) (S : rS) : Nat × Int32 × rS := (if (nI 32) ≤ x2 then (0, x1, S) else (F_build_103 N rec x1 x2 (f_setByte N S (nI 1353) ((nI 35) + x2) (f_rootByte N S x2))))
def OB_build_81 (N : Nat) (rok : Int32 → Int32 → rS → Prop) (x1 : Int32) (x2 : Int32) (S : rS) : Prop := (((nI 32) ≤ x2 → True) ∧ (¬ (nI 32) ≤ x2 → (o_rootByte N S x2) ∧ (o_setByte N S (nI 1353) ((nI 35) + x2) (f_rootByte N S x2)) ∧ O_build_103 N rok x1 x2 (f_setByte N S (nI 1353) ((nI 35) + x2) (f_rootByte N S x2))))
set_option maxHeartbeats 4000000 in
theorem bb_build_81 {G : zG} {E : rE} {S : rS} {N : Nat} {Q : Option Value → rS → Prop} {X : Nat × Int32 × rS → Prop} (hG : zOK G) (hX0 : ∀ (x1 : Int32) (S' : rS), X (0, x1, S') → rX G E dX12_build mX12_build 109 [some (.ref E.1), some (.int x1), none, none, none, none, none, none] [] S' Q) {rec : Int32 → Int32 → rS → Nat × Int32 × rS} {rok : Int32 → Int32 → rS → Prop} (hrec : ∀ (x1 : Int32) (x2 : Int32) (S : rS), rok x1 x2 S → X (rec x1 x2 S) → rX G E dX12_build mX12_build 81 [some (.ref E.1), some (.int x1), some (.int x2), none, none, none, none, none] [] S Q) {x1 : Int32} {x2 : Int32} (ok : OB_build_81 N rok x1 x2 S) (hx : X (B_build_81 N rec x1 x2 S)) : rX G E dX12_build mX12_build 81 [some (.ref E.1), some (.int x1), some (.int x2), none, none, none, none, none] [] S Q := by
  unfold OB_build_81 at ok
  unfold B_build_81 at hx
  refine r_iload_n dX12_build_81 rfl rfl ?_
  refine r_bipush (v := nI 32) dX12_build_82 (by decide) ?_
  refine r_icmp_ge (tgt := 109) dX12_build_84 (by decide) (fun c_84 => ?_) (fun c_84 => ?_)
  · have ok := ok.1 c_84
    have hx := xif_p c_84 hx
    exact rX.cutz (hX0 _ S hx) ⟨rfl, rfl, trivial⟩
  · have ok := ok.2 c_84
    have hx := xif_n c_84 hx
    refine r_aload_n dX12_build_87 rfl rfl ?_
    refine r_sipush (v := nI 1353) dX12_build_88 (by decide) ?_
    refine r_bipush (v := nI 35) dX12_build_91 (by decide) ?_
    refine r_iload_n dX12_build_93 rfl rfl ?_
    refine r_iadd dX12_build_94 ?_
    refine r_aload_n dX12_build_95 rfl rfl ?_
    refine r_iload_n dX12_build_96 rfl rfl ?_
    refine r_V1i (y' := mX12_rootByte) dX12_build_97 lX12_152 kX12_rootByte ⟨by decide, by decide⟩ rfl (Nat.le_of_ble_eq_true rfl) (rc_X12_rootByte hG ok.1) (fun v_97 S_97 h_97 => ?_)
    obtain ⟨rfl, hS_97⟩ := h_97
    have hS_97 := hS_97.symm
    subst hS_97
    have ok := ok.2
    refine r_V3v (y' := mX12_setByte) dX12_build_100 lX12_250 kX12_setByte ⟨by decide, by decide⟩ rfl (Nat.le_of_ble_eq_true rfl) (rc_X12_setByte hG ok.1) (fun S_100 h_100 => ?_)
    subst h_100
    have ok := ok.2
    exact rX.cutz (b_build_103 hG hX0 hrec ok hx) ⟨rfl, rfl, rfl, trivial⟩
def L_build_81 (N : Nat) : Nat → Int32 → Int32 → rS → Nat × Int32 × rS
  | 0, x1, x2, S => (0, 0, S)
  | n + 1, x1, x2, S => B_build_81 N (L_build_81 N n) x1 x2 S
def OL_build_81 (N : Nat) : Nat → Int32 → Int32 → rS → Prop
  | 0, _, _, _ => False
  | n + 1, x1, x2, S => OB_build_81 N (OL_build_81 N n) x1 x2 S
set_option maxHeartbeats 4000000 in
theorem l_build_81 {G : zG} {E : rE} {N : Nat} {Q : Option Value → rS → Prop} {X : Nat × Int32 × rS → Prop} (hG : zOK G) (hX0 : ∀ (x1 : Int32) (S' : rS), X (0, x1, S') → rX G E dX12_build mX12_build 109 [some (.ref E.1), some (.int x1), none, none, none, none, none, none] [] S' Q) : ∀ (n : Nat) (x1 : Int32) (x2 : Int32) (S : rS), OL_build_81 N n x1 x2 S → X (L_build_81 N n x1 x2 S) → rX G E dX12_build mX12_build 81 [some (.ref E.1), some (.int x1), some (.int x2), none, none, none, none, none] [] S Q := by
  intro n
  induction n with
  | zero => intro x1 x2 S ok; exact absurd ok id
  | succ n ih =>
    intro x1 x2 S ok hx
    exact bb_build_81 hG hX0 (rec := L_build_81 N n) (rok := OL_build_81 N n) (fun x1 x2 S ok hx => ih x1 x2 S ok hx) ok hx
def A_build_81 (N : Nat) (x1 : Int32) (x2 : Int32) (S : rS) (z : Nat × Int32 × rS) : rS := (F_build_109 N (z.2.1) z.2.2)
def OA_build_81 (N : Nat) (x1 : Int32) (x2 : Int32) (S : rS) (z : Nat × Int32 × rS) : Prop := O_build_109 N (z.2.1) z.2.2
set_option maxHeartbeats 4000000 in
theorem c_build_81 {G : zG} {E : rE} {S : rS} {N : Nat} {Q : Option Value → rS → Prop} {X : rS → Prop} (hG : zOK G) (hR : ∀ S', X S' → Q none S') {x1 : Int32} {x2 : Int32} (ok : OL_build_81 N N x1 x2 S ∧ OA_build_81 N x1 x2 S (L_build_81 N N x1 x2 S)) (hx : X (A_build_81 N x1 x2 S (L_build_81 N N x1 x2 S))) : rX G E dX12_build mX12_build 81 [some (.ref E.1), some (.int x1), some (.int x2), none, none, none, none, none] [] S Q := by
  refine l_build_81 hG ?_ N x1 x2 S ok.1 (X := fun z => OA_build_81 N x1 x2 S z ∧ X (A_build_81 N x1 x2 S z)) ⟨ok.2, hx⟩
  · intro x1' S' hz
    obtain ⟨ok, hx⟩ := hz
    unfold OA_build_81 at ok
    unfold A_build_81 at hx
    exact rX.cutz (b_build_109 hG hR ok hx) ⟨rfl, rfl, trivial⟩
def F_build_79 (N : Nat) (x1 : Int32) (S : rS) : rS := (A_build_81 N x1 (nI 0) S (L_build_81 N N x1 (nI 0) S))
def O_build_79 (N : Nat) (x1 : Int32) (S : rS) : Prop := (OL_build_81 N N x1 (nI 0) S ∧ OA_build_81 N x1 (nI 0) S (L_build_81 N N x1 (nI 0) S))
set_option maxHeartbeats 4000000 in
theorem b_build_79 {G : zG} {E : rE} {S : rS} {N : Nat} {Q : Option Value → rS → Prop} {X : rS → Prop} (hG : zOK G) (hR : ∀ S', X S' → Q none S') {x1 : Int32} (ok : O_build_79 N x1 S) (hx : X (F_build_79 N x1 S)) : rX G E dX12_build mX12_build 79 [some (.ref E.1), some (.int x1), none, none, none, none, none, none] [] S Q := by
  unfold O_build_79 at ok
  unfold F_build_79 at hx
  refine r_iconst (v := nI 0) dX12_build_79 (by decide) ?_
  refine r_istore_2 dX12_build_80 (by decide) rfl ?_
  exact rX.cutz (c_build_81 hG hR ok hx) ⟨rfl, rfl, rfl, trivial⟩
def F_build_75 (N : Nat) (x1 : Int32) (S : rS) : rS := (F_build_79 N x1 (f_accountsRoot N S))
def O_build_75 (N : Nat) (x1 : Int32) (S : rS) : Prop := (o_accountsRoot N S) ∧ O_build_79 N x1 (f_accountsRoot N S)
set_option maxHeartbeats 4000000 in
theorem b_build_75 {G : zG} {E : rE} {S : rS} {N : Nat} {Q : Option Value → rS → Prop} {X : rS → Prop} (hG : zOK G) (hR : ∀ S', X S' → Q none S') {x1 : Int32} (ok : O_build_75 N x1 S) (hx : X (F_build_75 N x1 S)) : rX G E dX12_build mX12_build 75 [some (.ref E.1), some (.int x1), none, none, none, none, none, none] [] S Q := by
  unfold O_build_75 at ok
  unfold F_build_75 at hx
  refine r_aload_n dX12_build_75 rfl rfl ?_
  refine r_V0v (y' := mX12_accountsRoot) dX12_build_76 lX12_164 kX12_accountsRoot ⟨by decide, by decide⟩ rfl (Nat.le_of_ble_eq_true rfl) (rc_X12_accountsRoot hG ok.1) (fun S_76 h_76 => ?_)
  subst h_76
  have ok := ok.2
  exact rX.cutz (b_build_79 hG hR ok hx) ⟨rfl, rfl, trivial⟩
def F_build_70 (N : Nat) (x1 : Int32) (S : rS) : rS := (F_build_75 N x1 (f_reckon N S x1))
def O_build_70 (N : Nat) (x1 : Int32) (S : rS) : Prop := (o_reckon N S x1) ∧ O_build_75 N x1 (f_reckon N S x1)
set_option maxHeartbeats 4000000 in
theorem b_build_70 {G : zG} {E : rE} {S : rS} {N : Nat} {Q : Option Value → rS → Prop} {X : rS → Prop} (hG : zOK G) (hR : ∀ S', X S' → Q none S') {x1 : Int32} (ok : O_build_70 N x1 S) (hx : X (F_build_70 N x1 S)) : rX G E dX12_build mX12_build 70 [some (.ref E.1), some (.int x1), none, none, none, none, none, none] [] S Q := by
  unfold O_build_70 at ok
  unfold F_build_70 at hx
  refine r_aload_n dX12_build_70 rfl rfl ?_
  refine r_iload_n dX12_build_71 rfl rfl ?_
  refine r_V1v (y' := mX12_reckon) dX12_build_72 lX12_161 kX12_reckon ⟨by decide, by decide⟩ rfl (Nat.le_of_ble_eq_true rfl) (rc_X12_reckon hG ok.1) (fun S_72 h_72 => ?_)
  subst h_72
  have ok := ok.2
  exact rX.cutz (b_build_75 hG hR ok hx) ⟨rfl, rfl, trivial⟩
def F_build_64 (N : Nat) (rec : Int32 → Int32 → rS → Nat × Int32 × rS) (x1 : Int32) (x2 : Int32) (S : rS) : Nat × Int32 × rS := (rec x1 (x2 + nI 1) S)
def O_build_64 (N : Nat) (rok : Int32 → Int32 → rS → Prop) (x1 : Int32) (x2 : Int32) (S : rS) : Prop := rok x1 (x2 + nI 1) S
set_option maxHeartbeats 4000000 in
theorem b_build_64 {G : zG} {E : rE} {S : rS} {N : Nat} {Q : Option Value → rS → Prop} {X : Nat × Int32 × rS → Prop} (hG : zOK G) (hX0 : ∀ (x1 : Int32) (S' : rS), X (0, x1, S') → rX G E dX12_build mX12_build 70 [some (.ref E.1), some (.int x1), none, none, none, none, none, none] [] S' Q) {rec : Int32 → Int32 → rS → Nat × Int32 × rS} {rok : Int32 → Int32 → rS → Prop} (hrec : ∀ (x1 : Int32) (x2 : Int32) (S : rS), rok x1 x2 S → X (rec x1 x2 S) → rX G E dX12_build mX12_build 42 [some (.ref E.1), some (.int x1), some (.int x2), none, none, none, none, none] [] S Q) {x1 : Int32} {x2 : Int32} (ok : O_build_64 N rok x1 x2 S) (hx : X (F_build_64 N rec x1 x2 S)) : rX G E dX12_build mX12_build 64 [some (.ref E.1), some (.int x1), some (.int x2), none, none, none, none, none] [] S Q := by
  unfold O_build_64 at ok
  unfold F_build_64 at hx
  refine r_iinc_2 (v := (x2 + nI 1)) dX12_build_64 rfl (by first | rfl | (congr 1)) (by decide) rfl ?_
  refine r_goto (tgt := 42) dX12_build_67 (by decide) ?_
  exact rX.cutz (hrec _ _ S ok hx) ⟨rfl, rfl, rfl, trivial⟩
def B_build_42 (N : Nat) (rec : Int32 → Int32 → rS → Nat × Int32 × rS) (x1 : Int32) (x2 : Int32) (S : rS) : Nat × Int32 × rS := (if (nI 32) ≤ x2 then (0, x1, S) else (F_build_64 N rec x1 x2 (f_setByte N S (nI 1353) ((nI 3) + x2) (f_lastByte N S x1 x2))))
def OB_build_42 (N : Nat) (rok : Int32 → Int32 → rS → Prop) (x1 : Int32) (x2 : Int32) (S : rS) : Prop := (((nI 32) ≤ x2 → True) ∧ (¬ (nI 32) ≤ x2 → (o_lastByte N S x1 x2) ∧ (o_setByte N S (nI 1353) ((nI 3) + x2) (f_lastByte N S x1 x2)) ∧ O_build_64 N rok x1 x2 (f_setByte N S (nI 1353) ((nI 3) + x2) (f_lastByte N S x1 x2))))
set_option maxHeartbeats 4000000 in
theorem bb_build_42 {G : zG} {E : rE} {S : rS} {N : Nat} {Q : Option Value → rS → Prop} {X : Nat × Int32 × rS → Prop} (hG : zOK G) (hX0 : ∀ (x1 : Int32) (S' : rS), X (0, x1, S') → rX G E dX12_build mX12_build 70 [some (.ref E.1), some (.int x1), none, none, none, none, none, none] [] S' Q) {rec : Int32 → Int32 → rS → Nat × Int32 × rS} {rok : Int32 → Int32 → rS → Prop} (hrec : ∀ (x1 : Int32) (x2 : Int32) (S : rS), rok x1 x2 S → X (rec x1 x2 S) → rX G E dX12_build mX12_build 42 [some (.ref E.1), some (.int x1), some (.int x2), none, none, none, none, none] [] S Q) {x1 : Int32} {x2 : Int32} (ok : OB_build_42 N rok x1 x2 S) (hx : X (B_build_42 N rec x1 x2 S)) : rX G E dX12_build mX12_build 42 [some (.ref E.1), some (.int x1), some (.int x2), none, none, none, none, none] [] S Q := by
  unfold OB_build_42 at ok
  unfold B_build_42 at hx
  refine r_iload_n dX12_build_42 rfl rfl ?_
  refine r_bipush (v := nI 32) dX12_build_43 (by decide) ?_
  refine r_icmp_ge (tgt := 70) dX12_build_45 (by decide) (fun c_45 => ?_) (fun c_45 => ?_)
  · have ok := ok.1 c_45
    have hx := xif_p c_45 hx
    exact rX.cutz (hX0 _ S hx) ⟨rfl, rfl, trivial⟩
  · have ok := ok.2 c_45
    have hx := xif_n c_45 hx
    refine r_aload_n dX12_build_48 rfl rfl ?_
    refine r_sipush (v := nI 1353) dX12_build_49 (by decide) ?_
    refine r_iconst (v := nI 3) dX12_build_52 (by decide) ?_
    refine r_iload_n dX12_build_53 rfl rfl ?_
    refine r_iadd dX12_build_54 ?_
    refine r_aload_n dX12_build_55 rfl rfl ?_
    refine r_iload_n dX12_build_56 rfl rfl ?_
    refine r_iload_n dX12_build_57 rfl rfl ?_
    refine r_V2i (y' := mX12_lastByte) dX12_build_58 lX12_158 kX12_lastByte ⟨by decide, by decide⟩ rfl (Nat.le_of_ble_eq_true rfl) (rc_X12_lastByte hG ok.1) (fun v_58 S_58 h_58 => ?_)
    obtain ⟨rfl, hS_58⟩ := h_58
    have hS_58 := hS_58.symm
    subst hS_58
    have ok := ok.2
    refine r_V3v (y' := mX12_setByte) dX12_build_61 lX12_250 kX12_setByte ⟨by decide, by decide⟩ rfl (Nat.le_of_ble_eq_true rfl) (rc_X12_setByte hG ok.1) (fun S_61 h_61 => ?_)
    subst h_61
    have ok := ok.2
    exact rX.cutz (b_build_64 hG hX0 hrec ok hx) ⟨rfl, rfl, rfl, trivial⟩
def L_build_42 (N : Nat) : Nat → Int32 → Int32 → rS → Nat × Int32 × rS
  | 0, x1, x2, S => (0, 0, S)
  | n + 1, x1, x2, S => B_build_42 N (L_build_42 N n) x1 x2 S
def OL_build_42 (N : Nat) : Nat → Int32 → Int32 → rS → Prop
  | 0, _, _, _ => False
  | n + 1, x1, x2, S => OB_build_42 N (OL_build_42 N n) x1 x2 S
set_option maxHeartbeats 4000000 in
theorem l_build_42 {G : zG} {E : rE} {N : Nat} {Q : Option Value → rS → Prop} {X : Nat × Int32 × rS → Prop} (hG : zOK G) (hX0 : ∀ (x1 : Int32) (S' : rS), X (0, x1, S') → rX G E dX12_build mX12_build 70 [some (.ref E.1), some (.int x1), none, none, none, none, none, none] [] S' Q) : ∀ (n : Nat) (x1 : Int32) (x2 : Int32) (S : rS), OL_build_42 N n x1 x2 S → X (L_build_42 N n x1 x2 S) → rX G E dX12_build mX12_build 42 [some (.ref E.1), some (.int x1), some (.int x2), none, none, none, none, none] [] S Q := by
  intro n
  induction n with
  | zero => intro x1 x2 S ok; exact absurd ok id
  | succ n ih =>
    intro x1 x2 S ok hx
    exact bb_build_42 hG hX0 (rec := L_build_42 N n) (rok := OL_build_42 N n) (fun x1 x2 S ok hx => ih x1 x2 S ok hx) ok hx
def A_build_42 (N : Nat) (x1 : Int32) (x2 : Int32) (S : rS) (z : Nat × Int32 × rS) : rS := (F_build_70 N (z.2.1) z.2.2)
def OA_build_42 (N : Nat) (x1 : Int32) (x2 : Int32) (S : rS) (z : Nat × Int32 × rS) : Prop := O_build_70 N (z.2.1) z.2.2
set_option maxHeartbeats 4000000 in
theorem c_build_42 {G : zG} {E : rE} {S : rS} {N : Nat} {Q : Option Value → rS → Prop} {X : rS → Prop} (hG : zOK G) (hR : ∀ S', X S' → Q none S') {x1 : Int32} {x2 : Int32} (ok : OL_build_42 N N x1 x2 S ∧ OA_build_42 N x1 x2 S (L_build_42 N N x1 x2 S)) (hx : X (A_build_42 N x1 x2 S (L_build_42 N N x1 x2 S))) : rX G E dX12_build mX12_build 42 [some (.ref E.1), some (.int x1), some (.int x2), none, none, none, none, none] [] S Q := by
  refine l_build_42 hG ?_ N x1 x2 S ok.1 (X := fun z => OA_build_42 N x1 x2 S z ∧ X (A_build_42 N x1 x2 S z)) ⟨ok.2, hx⟩
  · intro x1' S' hz
    obtain ⟨ok, hx⟩ := hz
    unfold OA_build_42 at ok
    unfold A_build_42 at hx
    exact rX.cutz (b_build_70 hG hR ok hx) ⟨rfl, rfl, trivial⟩
def F_build_40 (N : Nat) (x1 : Int32) (S : rS) : rS := (A_build_42 N x1 (nI 0) S (L_build_42 N N x1 (nI 0) S))
def O_build_40 (N : Nat) (x1 : Int32) (S : rS) : Prop := (OL_build_42 N N x1 (nI 0) S ∧ OA_build_42 N x1 (nI 0) S (L_build_42 N N x1 (nI 0) S))
set_option maxHeartbeats 4000000 in
theorem b_build_40 {G : zG} {E : rE} {S : rS} {N : Nat} {Q : Option Value → rS → Prop} {X : rS → Prop} (hG : zOK G) (hR : ∀ S', X S' → Q none S') {x1 : Int32} (ok : O_build_40 N x1 S) (hx : X (F_build_40 N x1 S)) : rX G E dX12_build mX12_build 40 [some (.ref E.1), some (.int x1), none, none, none, none, none, none] [] S Q := by
  unfold O_build_40 at ok
  unfold F_build_40 at hx
  refine r_iconst (v := nI 0) dX12_build_40 (by decide) ?_
  refine r_istore_2 dX12_build_41 (by decide) rfl ?_
  exact rX.cutz (c_build_42 hG hR ok hx) ⟨rfl, rfl, rfl, trivial⟩
def F_build_31 (N : Nat) (x1 : Int32) (S : rS) : rS := (F_build_40 N x1 (f_setByte N S (nI 1353) (nI 2) x1))
def O_build_31 (N : Nat) (x1 : Int32) (S : rS) : Prop := (o_setByte N S (nI 1353) (nI 2) x1) ∧ O_build_40 N x1 (f_setByte N S (nI 1353) (nI 2) x1)
set_option maxHeartbeats 4000000 in
theorem b_build_31 {G : zG} {E : rE} {S : rS} {N : Nat} {Q : Option Value → rS → Prop} {X : rS → Prop} (hG : zOK G) (hR : ∀ S', X S' → Q none S') {x1 : Int32} (ok : O_build_31 N x1 S) (hx : X (F_build_31 N x1 S)) : rX G E dX12_build mX12_build 31 [some (.ref E.1), some (.int x1), none, none, none, none, none, none] [] S Q := by
  unfold O_build_31 at ok
  unfold F_build_31 at hx
  refine r_aload_n dX12_build_31 rfl rfl ?_
  refine r_sipush (v := nI 1353) dX12_build_32 (by decide) ?_
  refine r_iconst (v := nI 2) dX12_build_35 (by decide) ?_
  refine r_iload_n dX12_build_36 rfl rfl ?_
  refine r_V3v (y' := mX12_setByte) dX12_build_37 lX12_250 kX12_setByte ⟨by decide, by decide⟩ rfl (Nat.le_of_ble_eq_true rfl) (rc_X12_setByte hG ok.1) (fun S_37 h_37 => ?_)
  subst h_37
  have ok := ok.2
  exact rX.cutz (b_build_40 hG hR ok hx) ⟨rfl, rfl, trivial⟩
def F_build_17 (N : Nat) (x1 : Int32) (S : rS) : rS := (F_build_31 N x1 (f_setByte N S (nI 1353) (nI 1) (S.2.1 44 x1.toNatClampNeg)))
def O_build_17 (N : Nat) (x1 : Int32) (S : rS) : Prop := (vp_in x1 13) ∧ (o_setByte N S (nI 1353) (nI 1) (S.2.1 44 x1.toNatClampNeg)) ∧ O_build_31 N x1 (f_setByte N S (nI 1353) (nI 1) (S.2.1 44 x1.toNatClampNeg))
set_option maxHeartbeats 4000000 in
theorem b_build_17 {G : zG} {E : rE} {S : rS} {N : Nat} {Q : Option Value → rS → Prop} {X : rS → Prop} (hG : zOK G) (hR : ∀ S', X S' → Q none S') {x1 : Int32} (ok : O_build_17 N x1 S) (hx : X (F_build_17 N x1 S)) : rX G E dX12_build mX12_build 17 [some (.ref E.1), some (.int x1), none, none, none, none, none, none] [] S Q := by
  unfold O_build_17 at ok
  unfold F_build_17 at hx
  refine r_aload_n dX12_build_17 rfl rfl ?_
  refine r_sipush (v := nI 1353) dX12_build_18 (by decide) ?_
  refine r_iconst (v := nI 1) dX12_build_21 (by decide) ?_
  refine r_aload_n dX12_build_22 rfl rfl ?_
  refine r_getA 44 fX12_309 (by decide) (by decide) dX12_build_23 ?_
  refine r_iload_n dX12_build_26 rfl rfl ?_
  refine r_iald (by decide) (by decide) dX12_build_27 ok.1 ?_
  have ok := ok.2
  refine r_V3v (y' := mX12_setByte) dX12_build_28 lX12_250 kX12_setByte ⟨by decide, by decide⟩ rfl (Nat.le_of_ble_eq_true rfl) (rc_X12_setByte hG ok.1) (fun S_28 h_28 => ?_)
  subst h_28
  have ok := ok.2
  exact rX.cutz (b_build_31 hG hR ok hx) ⟨rfl, rfl, trivial⟩
def F_build_0 (N : Nat) (x1 : Int32) (S : rS) : rS := (F_build_17 N x1 (f_setByte N S (nI 1353) (nI 0) ((S.2.1 44 x1.toNatClampNeg) >>> ((nI 8) &&& 31))))
def O_build_0 (N : Nat) (x1 : Int32) (S : rS) : Prop := (vp_in x1 13) ∧ (o_setByte N S (nI 1353) (nI 0) ((S.2.1 44 x1.toNatClampNeg) >>> ((nI 8) &&& 31))) ∧ O_build_17 N x1 (f_setByte N S (nI 1353) (nI 0) ((S.2.1 44 x1.toNatClampNeg) >>> ((nI 8) &&& 31)))
set_option maxHeartbeats 4000000 in
theorem b_build_0 {G : zG} {E : rE} {S : rS} {N : Nat} {Q : Option Value → rS → Prop} {X : rS → Prop} (hG : zOK G) (hR : ∀ S', X S' → Q none S') {x1 : Int32} (ok : O_build_0 N x1 S) (hx : X (F_build_0 N x1 S)) : rX G E dX12_build mX12_build 0 [some (.ref E.1), some (.int x1), none, none, none, none, none, none] [] S Q := by
  unfold O_build_0 at ok
  unfold F_build_0 at hx
  refine r_aload_n dX12_build_0 rfl rfl ?_
  refine r_sipush (v := nI 1353) dX12_build_1 (by decide) ?_
  refine r_iconst (v := nI 0) dX12_build_4 (by decide) ?_
  refine r_aload_n dX12_build_5 rfl rfl ?_
  refine r_getA 44 fX12_309 (by decide) (by decide) dX12_build_6 ?_
  refine r_iload_n dX12_build_9 rfl rfl ?_
  refine r_iald (by decide) (by decide) dX12_build_10 ok.1 ?_
  have ok := ok.2
  refine r_bipush (v := nI 8) dX12_build_11 (by decide) ?_
  refine r_ishr dX12_build_13 ?_
  refine r_V3v (y' := mX12_setByte) dX12_build_14 lX12_250 kX12_setByte ⟨by decide, by decide⟩ rfl (Nat.le_of_ble_eq_true rfl) (rc_X12_setByte hG ok.1) (fun S_14 h_14 => ?_)
  subst h_14
  have ok := ok.2
  exact rX.cutz (b_build_17 hG hR ok hx) ⟨rfl, rfl, trivial⟩
def f_build (N : Nat) (S : rS) (x1 : Int32) : rS := F_build_0 N x1 S
def o_build (N : Nat) (S : rS) (x1 : Int32) : Prop := O_build_0 N x1 S
set_option maxHeartbeats 4000000 in
theorem rc_X12_build {G : zG} {E : rE} {S : rS} {N : Nat} (hG : zOK G) {x1 : Int32} (ok : o_build N S x1) : rCv G E dX12_build mX12_build [.ref E.1, .int x1] S (fun S' => S' = f_build N S x1) := by
  refine rC.ofX rfl (Nat.le_of_ble_eq_true rfl) ?_
  show rX G E dX12_build mX12_build 0 [some (.ref E.1), some (.int x1), none, none, none, none, none, none] [] S _
  exact rX.cutz (b_build_0 (X := fun F => F = f_build N S x1) hG (fun S' h => ⟨rfl, h⟩) ok rfl) ⟨rfl, rfl, trivial⟩
/-! setTimer -/
def F_setTimer_0 (N : Nat) (x1 : Int32) (x2 : Int32) (S : rS) : rS := (rsA S 52 (((nI 3) * x1) + x2).toNatClampNeg (((S.1 3) + (nI 4)) + (S.2.1 45 x1.toNatClampNeg)))
def O_setTimer_0 (N : Nat) (x1 : Int32) (x2 : Int32) (S : rS) : Prop := (vp_in x1 13) ∧ (vp_in (((nI 3) * x1) + x2) 39) ∧ True
set_option maxHeartbeats 4000000 in
theorem b_setTimer_0 {G : zG} {E : rE} {S : rS} {N : Nat} {Q : Option Value → rS → Prop} {X : rS → Prop} (hG : zOK G) (hR : ∀ S', X S' → Q none S') {x1 : Int32} {x2 : Int32} (ok : O_setTimer_0 N x1 x2 S) (hx : X (F_setTimer_0 N x1 x2 S)) : rX G E dX12_setTimer mX12_setTimer 0 [some (.ref E.1), some (.int x1), some (.int x2)] [] S Q := by
  unfold O_setTimer_0 at ok
  unfold F_setTimer_0 at hx
  refine r_aload_n dX12_setTimer_0 rfl rfl ?_
  refine r_getA 52 fX12_333 (by decide) (by decide) dX12_setTimer_1 ?_
  refine r_iconst (v := nI 3) dX12_setTimer_4 (by decide) ?_
  refine r_iload_n dX12_setTimer_5 rfl rfl ?_
  refine r_imul dX12_setTimer_6 ?_
  refine r_iload_n dX12_setTimer_7 rfl rfl ?_
  refine r_iadd dX12_setTimer_8 ?_
  refine r_aload_n dX12_setTimer_9 rfl rfl ?_
  refine r_getI 3 fX12_216 (by decide) (by decide) dX12_setTimer_10 ?_
  refine r_iconst (v := nI 4) dX12_setTimer_13 (by decide) ?_
  refine r_iadd dX12_setTimer_14 ?_
  refine r_aload_n dX12_setTimer_15 rfl rfl ?_
  refine r_getA 45 fX12_312 (by decide) (by decide) dX12_setTimer_16 ?_
  refine r_iload_n dX12_setTimer_19 rfl rfl ?_
  refine r_iald (by decide) (by decide) dX12_setTimer_20 ok.1 ?_
  have ok := ok.2
  refine r_iadd dX12_setTimer_21 ?_
  refine r_iast hG (by decide) (by decide) dX12_setTimer_22 ok.1 ?_
  have ok := ok.2
  exact r_return rfl dX12_setTimer_23 (hR _ hx)
def f_setTimer (N : Nat) (S : rS) (x1 : Int32) (x2 : Int32) : rS := F_setTimer_0 N x1 x2 S
def o_setTimer (N : Nat) (S : rS) (x1 : Int32) (x2 : Int32) : Prop := O_setTimer_0 N x1 x2 S
set_option maxHeartbeats 4000000 in
theorem rc_X12_setTimer {G : zG} {E : rE} {S : rS} {N : Nat} (hG : zOK G) {x1 : Int32} {x2 : Int32} (ok : o_setTimer N S x1 x2) : rCv G E dX12_setTimer mX12_setTimer [.ref E.1, .int x1, .int x2] S (fun S' => S' = f_setTimer N S x1 x2) := by
  refine rC.ofX rfl (Nat.le_of_ble_eq_true rfl) ?_
  show rX G E dX12_setTimer mX12_setTimer 0 [some (.ref E.1), some (.int x1), some (.int x2)] [] S _
  exact rX.cutz (b_setTimer_0 (X := fun F => F = f_setTimer N S x1 x2) hG (fun S' h => ⟨rfl, h⟩) ok rfl) ⟨rfl, rfl, rfl, trivial⟩
/-! notBeen -/
def F_notBeen_14 (N : Nat) (x1 : Int32) (S : rS) : rS := (rsA S 51 x1.toNatClampNeg (nI 0))
def O_notBeen_14 (N : Nat) (x1 : Int32) (S : rS) : Prop := (vp_in x1 13) ∧ True
set_option maxHeartbeats 4000000 in
theorem b_notBeen_14 {G : zG} {E : rE} {S : rS} {N : Nat} {Q : Option Value → rS → Prop} {X : rS → Prop} (hG : zOK G) (hR : ∀ S', X S' → Q none S') {x1 : Int32} (ok : O_notBeen_14 N x1 S) (hx : X (F_notBeen_14 N x1 S)) : rX G E dX12_notBeen mX12_notBeen 14 [some (.ref E.1), some (.int x1)] [] S Q := by
  unfold O_notBeen_14 at ok
  unfold F_notBeen_14 at hx
  refine r_aload_n dX12_notBeen_14 rfl rfl ?_
  refine r_getA 51 fX12_330 (by decide) (by decide) dX12_notBeen_15 ?_
  refine r_iload_n dX12_notBeen_18 rfl rfl ?_
  refine r_iconst (v := nI 0) dX12_notBeen_19 (by decide) ?_
  refine r_zast hG rfl (by decide) (by decide) dX12_notBeen_20 ok.1 ?_
  have ok := ok.2
  exact r_return rfl dX12_notBeen_21 (hR _ hx)
def F_notBeen_0 (N : Nat) (x1 : Int32) (S : rS) : rS := (F_notBeen_14 N x1 (rsA (rsA S 49 x1.toNatClampNeg (nI 0)) 50 x1.toNatClampNeg (nI 0)))
def O_notBeen_0 (N : Nat) (x1 : Int32) (S : rS) : Prop := (vp_in x1 13) ∧ (vp_in x1 13) ∧ O_notBeen_14 N x1 (rsA (rsA S 49 x1.toNatClampNeg (nI 0)) 50 x1.toNatClampNeg (nI 0))
set_option maxHeartbeats 4000000 in
theorem b_notBeen_0 {G : zG} {E : rE} {S : rS} {N : Nat} {Q : Option Value → rS → Prop} {X : rS → Prop} (hG : zOK G) (hR : ∀ S', X S' → Q none S') {x1 : Int32} (ok : O_notBeen_0 N x1 S) (hx : X (F_notBeen_0 N x1 S)) : rX G E dX12_notBeen mX12_notBeen 0 [some (.ref E.1), some (.int x1)] [] S Q := by
  unfold O_notBeen_0 at ok
  unfold F_notBeen_0 at hx
  refine r_aload_n dX12_notBeen_0 rfl rfl ?_
  refine r_getA 49 fX12_324 (by decide) (by decide) dX12_notBeen_1 ?_
  refine r_iload_n dX12_notBeen_4 rfl rfl ?_
  refine r_iconst (v := nI 0) dX12_notBeen_5 (by decide) ?_
  refine r_zast hG rfl (by decide) (by decide) dX12_notBeen_6 ok.1 ?_
  have ok := ok.2
  refine r_aload_n dX12_notBeen_7 rfl rfl ?_
  refine r_getA 50 fX12_327 (by decide) (by decide) dX12_notBeen_8 ?_
  refine r_iload_n dX12_notBeen_11 rfl rfl ?_
  refine r_iconst (v := nI 0) dX12_notBeen_12 (by decide) ?_
  refine r_zast hG rfl (by decide) (by decide) dX12_notBeen_13 ok.1 ?_
  have ok := ok.2
  exact rX.cutz (b_notBeen_14 hG hR ok hx) ⟨rfl, rfl, trivial⟩
def f_notBeen (N : Nat) (S : rS) (x1 : Int32) : rS := F_notBeen_0 N x1 S
def o_notBeen (N : Nat) (S : rS) (x1 : Int32) : Prop := O_notBeen_0 N x1 S
set_option maxHeartbeats 4000000 in
theorem rc_X12_notBeen {G : zG} {E : rE} {S : rS} {N : Nat} (hG : zOK G) {x1 : Int32} (ok : o_notBeen N S x1) : rCv G E dX12_notBeen mX12_notBeen [.ref E.1, .int x1] S (fun S' => S' = f_notBeen N S x1) := by
  refine rC.ofX rfl (Nat.le_of_ble_eq_true rfl) ?_
  show rX G E dX12_notBeen mX12_notBeen 0 [some (.ref E.1), some (.int x1)] [] S _
  exact rX.cutz (b_notBeen_0 (X := fun F => F = f_notBeen N S x1) hG (fun S' h => ⟨rfl, h⟩) ok rfl) ⟨rfl, rfl, trivial⟩
/-! begin -/
def F_begin_100 (N : Nat) (s0 : Int32) (S : rS) : rS := S
def O_begin_100 (N : Nat) (s0 : Int32) (S : rS) : Prop := True
set_option maxHeartbeats 4000000 in
theorem b_begin_100 {G : zG} {E : rE} {S : rS} {N : Nat} {Q : Option Value → rS → Prop} {X : rS → Prop} (hG : zOK G) (hR : ∀ S', X S' → Q none S') {s0 : Int32} (ok : O_begin_100 N s0 S) (hx : X (F_begin_100 N s0 S)) : rX G E dX12_begin mX12_begin 100 [none, none, none] [.int s0] S Q := by
  unfold O_begin_100 at ok
  unfold F_begin_100 at hx
  refine r_pop dX12_begin_100 rfl ?_
  exact r_return rfl dX12_begin_101 (hR _ hx)
def F_begin_91 (N : Nat) (x1 : Int32) (S : rS) : rS := (F_begin_100 N ((f_propose N S x1 (-1) (nI 1353)).1) (f_propose N S x1 (-1) (nI 1353)).2)
def O_begin_91 (N : Nat) (x1 : Int32) (S : rS) : Prop := (o_propose N S x1 (-1) (nI 1353)) ∧ O_begin_100 N ((f_propose N S x1 (-1) (nI 1353)).1) (f_propose N S x1 (-1) (nI 1353)).2
set_option maxHeartbeats 4000000 in
theorem b_begin_91 {G : zG} {E : rE} {S : rS} {N : Nat} {Q : Option Value → rS → Prop} {X : rS → Prop} (hG : zOK G) (hR : ∀ S', X S' → Q none S') {x1 : Int32} (ok : O_begin_91 N x1 S) (hx : X (F_begin_91 N x1 S)) : rX G E dX12_begin mX12_begin 91 [some (.ref E.1), some (.int x1), none] [] S Q := by
  unfold O_begin_91 at ok
  unfold F_begin_91 at hx
  refine r_aload_n dX12_begin_91 rfl rfl ?_
  refine r_iload_n dX12_begin_92 rfl rfl ?_
  refine r_iconst (v := -1) dX12_begin_93 (by decide) ?_
  refine r_sipush (v := nI 1353) dX12_begin_94 (by decide) ?_
  refine r_V3i (y' := mX12_propose) dX12_begin_97 lX12_578 kX12_propose ⟨by decide, by decide⟩ rfl (Nat.le_of_ble_eq_true rfl) (rc_X12_propose hG ok.1) (fun v_97 S_97 h_97 => ?_)
  obtain ⟨rfl, hS_97⟩ := h_97
  have hS_97 := hS_97.symm
  subst hS_97
  have ok := ok.2
  exact rX.cutz (b_begin_100 hG hR ok hx) trivial
def F_begin_84 (N : Nat) (s0 : Int32) (S : rS) : rS := S
def O_begin_84 (N : Nat) (s0 : Int32) (S : rS) : Prop := True
set_option maxHeartbeats 4000000 in
theorem b_begin_84 {G : zG} {E : rE} {S : rS} {N : Nat} {Q : Option Value → rS → Prop} {X : rS → Prop} (hG : zOK G) (hR : ∀ S', X S' → Q none S') {s0 : Int32} (ok : O_begin_84 N s0 S) (hx : X (F_begin_84 N s0 S)) : rX G E dX12_begin mX12_begin 84 [none, none, none] [.int s0] S Q := by
  unfold O_begin_84 at ok
  unfold F_begin_84 at hx
  refine r_pop dX12_begin_84 rfl ?_
  exact r_return rfl dX12_begin_85 (hR _ hx)
def F_begin_40 (N : Nat) (x1 : Int32) (x2 : Int32) (S : rS) : rS := (if (f_proposer N S (S.2.1 44 x1.toNatClampNeg) x2) = x1 then (if (f_isThere N S ((nI 1131) + x1)) = 0 then (F_begin_91 N x1 (f_build N S x1)) else (F_begin_84 N ((f_propose N S x1 (S.2.1 48 x1.toNatClampNeg) ((nI 1131) + x1)).1) (f_propose N S x1 (S.2.1 48 x1.toNatClampNeg) ((nI 1131) + x1)).2)) else S)
def O_begin_40 (N : Nat) (x1 : Int32) (x2 : Int32) (S : rS) : Prop := (vp_in x1 13) ∧ (o_proposer N S (S.2.1 44 x1.toNatClampNeg) x2) ∧ (((f_proposer N S (S.2.1 44 x1.toNatClampNeg) x2) = x1 → (o_isThere N S ((nI 1131) + x1)) ∧ (((f_isThere N S ((nI 1131) + x1)) = 0 → (o_build N S x1) ∧ O_begin_91 N x1 (f_build N S x1)) ∧ (¬ (f_isThere N S ((nI 1131) + x1)) = 0 → (vp_in x1 13) ∧ (o_propose N S x1 (S.2.1 48 x1.toNatClampNeg) ((nI 1131) + x1)) ∧ O_begin_84 N ((f_propose N S x1 (S.2.1 48 x1.toNatClampNeg) ((nI 1131) + x1)).1) (f_propose N S x1 (S.2.1 48 x1.toNatClampNeg) ((nI 1131) + x1)).2))) ∧ (¬ (f_proposer N S (S.2.1 44 x1.toNatClampNeg) x2) = x1 → True))
set_option maxHeartbeats 4000000 in
theorem b_begin_40 {G : zG} {E : rE} {S : rS} {N : Nat} {Q : Option Value → rS → Prop} {X : rS → Prop} (hG : zOK G) (hR : ∀ S', X S' → Q none S') {x1 : Int32} {x2 : Int32} (ok : O_begin_40 N x1 x2 S) (hx : X (F_begin_40 N x1 x2 S)) : rX G E dX12_begin mX12_begin 40 [some (.ref E.1), some (.int x1), some (.int x2)] [] S Q := by
  unfold O_begin_40 at ok
  unfold F_begin_40 at hx
  refine r_aload_n dX12_begin_40 rfl rfl ?_
  refine r_aload_n dX12_begin_41 rfl rfl ?_
  refine r_getA 44 fX12_309 (by decide) (by decide) dX12_begin_42 ?_
  refine r_iload_n dX12_begin_45 rfl rfl ?_
  refine r_iald (by decide) (by decide) dX12_begin_46 ok.1 ?_
  have ok := ok.2
  refine r_iload_n dX12_begin_47 rfl rfl ?_
  refine r_V2i (y' := mX12_proposer) dX12_begin_48 lX12_575 kX12_proposer ⟨by decide, by decide⟩ rfl (Nat.le_of_ble_eq_true rfl) (rc_X12_proposer hG ok.1) (fun v_48 S_48 h_48 => ?_)
  obtain ⟨rfl, hS_48⟩ := h_48
  have hS_48 := hS_48.symm
  subst hS_48
  have ok := ok.2
  refine r_iload_n dX12_begin_51 rfl rfl ?_
  refine r_icmp_eq (tgt := 56) dX12_begin_52 (by decide) (fun c_52 => ?_) (fun c_52 => ?_)
  · have ok := ok.1 c_52
    have hx := xif_p c_52 hx
    refine r_aload_n dX12_begin_56 rfl rfl ?_
    refine r_sipush (v := nI 1131) dX12_begin_57 (by decide) ?_
    refine r_iload_n dX12_begin_60 rfl rfl ?_
    refine r_iadd dX12_begin_61 ?_
    refine r_V1i (y' := mX12_isThere) dX12_begin_62 lX12_63 kX12_isThere ⟨by decide, by decide⟩ rfl (Nat.le_of_ble_eq_true rfl) (rc_X12_isThere hG ok.1) (fun v_62 S_62 h_62 => ?_)
    obtain ⟨rfl, hS_62⟩ := h_62
    have hS_62 := hS_62.symm
    subst hS_62
    have ok := ok.2
    refine r_if_eq (tgt := 86) dX12_begin_65 (by decide) (fun c_65 => ?_) (fun c_65 => ?_)
    · have ok := ok.1 c_65
      have hx := xif_p c_65 hx
      refine r_aload_n dX12_begin_86 rfl rfl ?_
      refine r_iload_n dX12_begin_87 rfl rfl ?_
      refine r_V1v (y' := mX12_build) dX12_begin_88 lX12_582 kX12_build ⟨by decide, by decide⟩ rfl (Nat.le_of_ble_eq_true rfl) (rc_X12_build hG ok.1) (fun S_88 h_88 => ?_)
      subst h_88
      have ok := ok.2
      exact rX.cutz (b_begin_91 hG hR ok hx) ⟨rfl, rfl, trivial⟩
    · have ok := ok.2 c_65
      have hx := xif_n c_65 hx
      refine r_aload_n dX12_begin_68 rfl rfl ?_
      refine r_iload_n dX12_begin_69 rfl rfl ?_
      refine r_aload_n dX12_begin_70 rfl rfl ?_
      refine r_getA 48 fX12_321 (by decide) (by decide) dX12_begin_71 ?_
      refine r_iload_n dX12_begin_74 rfl rfl ?_
      refine r_iald (by decide) (by decide) dX12_begin_75 ok.1 ?_
      have ok := ok.2
      refine r_sipush (v := nI 1131) dX12_begin_76 (by decide) ?_
      refine r_iload_n dX12_begin_79 rfl rfl ?_
      refine r_iadd dX12_begin_80 ?_
      refine r_V3i (y' := mX12_propose) dX12_begin_81 lX12_578 kX12_propose ⟨by decide, by decide⟩ rfl (Nat.le_of_ble_eq_true rfl) (rc_X12_propose hG ok.1) (fun v_81 S_81 h_81 => ?_)
      obtain ⟨rfl, hS_81⟩ := h_81
      have hS_81 := hS_81.symm
      subst hS_81
      have ok := ok.2
      exact rX.cutz (b_begin_84 hG hR ok hx) trivial
  · have ok := ok.2 c_52
    have hx := xif_n c_52 hx
    exact r_return rfl dX12_begin_55 (hR _ hx)
def F_begin_34 (N : Nat) (x1 : Int32) (x2 : Int32) (S : rS) : rS := (F_begin_40 N x1 x2 (f_setTimer N S x1 (nI 0)))
def O_begin_34 (N : Nat) (x1 : Int32) (x2 : Int32) (S : rS) : Prop := (o_setTimer N S x1 (nI 0)) ∧ O_begin_40 N x1 x2 (f_setTimer N S x1 (nI 0))
set_option maxHeartbeats 4000000 in
theorem b_begin_34 {G : zG} {E : rE} {S : rS} {N : Nat} {Q : Option Value → rS → Prop} {X : rS → Prop} (hG : zOK G) (hR : ∀ S', X S' → Q none S') {x1 : Int32} {x2 : Int32} (ok : O_begin_34 N x1 x2 S) (hx : X (F_begin_34 N x1 x2 S)) : rX G E dX12_begin mX12_begin 34 [some (.ref E.1), some (.int x1), some (.int x2)] [] S Q := by
  unfold O_begin_34 at ok
  unfold F_begin_34 at hx
  refine r_aload_n dX12_begin_34 rfl rfl ?_
  refine r_iload_n dX12_begin_35 rfl rfl ?_
  refine r_iconst (v := nI 0) dX12_begin_36 (by decide) ?_
  refine r_V2v (y' := mX12_setTimer) dX12_begin_37 lX12_572 kX12_setTimer ⟨by decide, by decide⟩ rfl (Nat.le_of_ble_eq_true rfl) (rc_X12_setTimer hG ok.1) (fun S_37 h_37 => ?_)
  subst h_37
  have ok := ok.2
  exact rX.cutz (b_begin_40 hG hR ok hx) ⟨rfl, rfl, rfl, trivial⟩
def F_begin_29 (N : Nat) (x1 : Int32) (x2 : Int32) (S : rS) : rS := (F_begin_34 N x1 x2 (f_notBeen N S x1))
def O_begin_29 (N : Nat) (x1 : Int32) (x2 : Int32) (S : rS) : Prop := (o_notBeen N S x1) ∧ O_begin_34 N x1 x2 (f_notBeen N S x1)
set_option maxHeartbeats 4000000 in
theorem b_begin_29 {G : zG} {E : rE} {S : rS} {N : Nat} {Q : Option Value → rS → Prop} {X : rS → Prop} (hG : zOK G) (hR : ∀ S', X S' → Q none S') {x1 : Int32} {x2 : Int32} (ok : O_begin_29 N x1 x2 S) (hx : X (F_begin_29 N x1 x2 S)) : rX G E dX12_begin mX12_begin 29 [some (.ref E.1), some (.int x1), some (.int x2)] [] S Q := by
  unfold O_begin_29 at ok
  unfold F_begin_29 at hx
  refine r_aload_n dX12_begin_29 rfl rfl ?_
  refine r_iload_n dX12_begin_30 rfl rfl ?_
  refine r_V1v (y' := mX12_notBeen) dX12_begin_31 lX12_569 kX12_notBeen ⟨by decide, by decide⟩ rfl (Nat.le_of_ble_eq_true rfl) (rc_X12_notBeen hG ok.1) (fun S_31 h_31 => ?_)
  subst h_31
  have ok := ok.2
  exact rX.cutz (b_begin_34 hG hR ok hx) ⟨rfl, rfl, rfl, trivial⟩
def F_begin_24 (N : Nat) (x1 : Int32) (x2 : Int32) (S : rS) : rS := (F_begin_29 N x1 x2 (f_noTimers N S x1))
def O_begin_24 (N : Nat) (x1 : Int32) (x2 : Int32) (S : rS) : Prop := (o_noTimers N S x1) ∧ O_begin_29 N x1 x2 (f_noTimers N S x1)
set_option maxHeartbeats 4000000 in
theorem b_begin_24 {G : zG} {E : rE} {S : rS} {N : Nat} {Q : Option Value → rS → Prop} {X : rS → Prop} (hG : zOK G) (hR : ∀ S', X S' → Q none S') {x1 : Int32} {x2 : Int32} (ok : O_begin_24 N x1 x2 S) (hx : X (F_begin_24 N x1 x2 S)) : rX G E dX12_begin mX12_begin 24 [some (.ref E.1), some (.int x1), some (.int x2)] [] S Q := by
  unfold O_begin_24 at ok
  unfold F_begin_24 at hx
  refine r_aload_n dX12_begin_24 rfl rfl ?_
  refine r_iload_n dX12_begin_25 rfl rfl ?_
  refine r_V1v (y' := mX12_noTimers) dX12_begin_26 lX12_454 kX12_noTimers ⟨by decide, by decide⟩ rfl (Nat.le_of_ble_eq_true rfl) (rc_X12_noTimers hG ok.1) (fun S_26 h_26 => ?_)
  subst h_26
  have ok := ok.2
  exact rX.cutz (b_begin_29 hG hR ok hx) ⟨rfl, rfl, rfl, trivial⟩
def F_begin_6 (N : Nat) (x1 : Int32) (x2 : Int32) (s0 : Int32) (S : rS) : rS := (if s0 = 0 then S else (F_begin_24 N x1 x2 (rsA (rsA S 45 x1.toNatClampNeg x2) 46 x1.toNatClampNeg (nI 0))))
def O_begin_6 (N : Nat) (x1 : Int32) (x2 : Int32) (s0 : Int32) (S : rS) : Prop := ((s0 = 0 → True) ∧ (¬ s0 = 0 → (vp_in x1 13) ∧ (vp_in x1 13) ∧ O_begin_24 N x1 x2 (rsA (rsA S 45 x1.toNatClampNeg x2) 46 x1.toNatClampNeg (nI 0))))
set_option maxHeartbeats 4000000 in
theorem b_begin_6 {G : zG} {E : rE} {S : rS} {N : Nat} {Q : Option Value → rS → Prop} {X : rS → Prop} (hG : zOK G) (hR : ∀ S', X S' → Q none S') {x1 : Int32} {x2 : Int32} {s0 : Int32} (ok : O_begin_6 N x1 x2 s0 S) (hx : X (F_begin_6 N x1 x2 s0 S)) : rX G E dX12_begin mX12_begin 6 [some (.ref E.1), some (.int x1), some (.int x2)] [.int s0] S Q := by
  unfold O_begin_6 at ok
  unfold F_begin_6 at hx
  refine r_if_ne (tgt := 10) dX12_begin_6 (by decide) (fun c_6 => ?_) (fun c_6 => ?_)
  · have ok := ok.2 c_6
    have hx := xif_n c_6 hx
    refine r_aload_n dX12_begin_10 rfl rfl ?_
    refine r_getA 45 fX12_312 (by decide) (by decide) dX12_begin_11 ?_
    refine r_iload_n dX12_begin_14 rfl rfl ?_
    refine r_iload_n dX12_begin_15 rfl rfl ?_
    refine r_iast hG (by decide) (by decide) dX12_begin_16 ok.1 ?_
    have ok := ok.2
    refine r_aload_n dX12_begin_17 rfl rfl ?_
    refine r_getA 46 fX12_315 (by decide) (by decide) dX12_begin_18 ?_
    refine r_iload_n dX12_begin_21 rfl rfl ?_
    refine r_iconst (v := nI 0) dX12_begin_22 (by decide) ?_
    refine r_iast hG (by decide) (by decide) dX12_begin_23 ok.1 ?_
    have ok := ok.2
    exact rX.cutz (b_begin_24 hG hR ok hx) ⟨rfl, rfl, rfl, trivial⟩
  · have ok := ok.1 c_6
    have hx := xif_p c_6 hx
    exact r_return rfl dX12_begin_9 (hR _ hx)
def F_begin_0 (N : Nat) (x1 : Int32) (x2 : Int32) (S : rS) : rS := (F_begin_6 N x1 x2 ((f_noteRound N S x1 x2).1) (f_noteRound N S x1 x2).2)
def O_begin_0 (N : Nat) (x1 : Int32) (x2 : Int32) (S : rS) : Prop := (o_noteRound N S x1 x2) ∧ O_begin_6 N x1 x2 ((f_noteRound N S x1 x2).1) (f_noteRound N S x1 x2).2
set_option maxHeartbeats 4000000 in
theorem b_begin_0 {G : zG} {E : rE} {S : rS} {N : Nat} {Q : Option Value → rS → Prop} {X : rS → Prop} (hG : zOK G) (hR : ∀ S', X S' → Q none S') {x1 : Int32} {x2 : Int32} (ok : O_begin_0 N x1 x2 S) (hx : X (F_begin_0 N x1 x2 S)) : rX G E dX12_begin mX12_begin 0 [some (.ref E.1), some (.int x1), some (.int x2)] [] S Q := by
  unfold O_begin_0 at ok
  unfold F_begin_0 at hx
  refine r_aload_n dX12_begin_0 rfl rfl ?_
  refine r_iload_n dX12_begin_1 rfl rfl ?_
  refine r_iload_n dX12_begin_2 rfl rfl ?_
  refine r_V2i (y' := mX12_noteRound) dX12_begin_3 lX12_566 kX12_noteRound ⟨by decide, by decide⟩ rfl (Nat.le_of_ble_eq_true rfl) (rc_X12_noteRound hG ok.1) (fun v_3 S_3 h_3 => ?_)
  obtain ⟨rfl, hS_3⟩ := h_3
  have hS_3 := hS_3.symm
  subst hS_3
  have ok := ok.2
  exact rX.cutz (b_begin_6 hG hR ok hx) ⟨rfl, rfl, rfl, trivial⟩
def f_begin (N : Nat) (S : rS) (x1 : Int32) (x2 : Int32) : rS := F_begin_0 N x1 x2 S
def o_begin (N : Nat) (S : rS) (x1 : Int32) (x2 : Int32) : Prop := O_begin_0 N x1 x2 S
set_option maxHeartbeats 4000000 in
theorem rc_X12_begin {G : zG} {E : rE} {S : rS} {N : Nat} (hG : zOK G) {x1 : Int32} {x2 : Int32} (ok : o_begin N S x1 x2) : rCv G E dX12_begin mX12_begin [.ref E.1, .int x1, .int x2] S (fun S' => S' = f_begin N S x1 x2) := by
  refine rC.ofX rfl (Nat.le_of_ble_eq_true rfl) ?_
  show rX G E dX12_begin mX12_begin 0 [some (.ref E.1), some (.int x1), some (.int x2)] [] S _
  exact rX.cutz (b_begin_0 (X := fun F => F = f_begin N S x1 x2) hG (fun S' h => ⟨rfl, h⟩) ok rfl) ⟨rfl, rfl, rfl, trivial⟩

/-! compress -/
def F_compress_473 (N : Nat) (x8 : Int32) (x9 : Int32) (S : rS) : rS := (rsA (rsA S 8 (nI 6).toNatClampNeg ((S.2.1 8 (nI 6).toNatClampNeg) + x8)) 8 (nI 7).toNatClampNeg (((rsA S 8 (nI 6).toNatClampNeg ((S.2.1 8 (nI 6).toNatClampNeg) + x8)).2.1 8 (nI 7).toNatClampNeg) + x9))
def O_compress_473 (N : Nat) (x8 : Int32) (x9 : Int32) (S : rS) : Prop := (vp_in (nI 6) 8) ∧ (vp_in (nI 6) 8) ∧ (vp_in (nI 7) 8) ∧ (vp_in (nI 7) 8) ∧ True
set_option maxHeartbeats 4000000 in
theorem b_compress_473 {G : zG} {E : rE} {S : rS} {N : Nat} {Q : Option Value → rS → Prop} {X : rS → Prop} (hG : zOK G) (hR : ∀ S', X S' → Q none S') {x8 : Int32} {x9 : Int32} (ok : O_compress_473 N x8 x9 S) (hx : X (F_compress_473 N x8 x9 S)) : rX G E dX12_compress mX12_compress 473 [some (.ref E.1), none, none, none, none, none, none, none, some (.int x8), some (.int x9), none, none, none] [] S Q := by
  unfold O_compress_473 at ok
  unfold F_compress_473 at hx
  refine r_aload_n dX12_compress_473 rfl rfl ?_
  refine r_getA 8 fX12_33 (by decide) (by decide) dX12_compress_474 ?_
  refine r_bipush (v := nI 6) dX12_compress_477 (by decide) ?_
  refine r_aload_n dX12_compress_479 rfl rfl ?_
  refine r_getA 8 fX12_33 (by decide) (by decide) dX12_compress_480 ?_
  refine r_bipush (v := nI 6) dX12_compress_483 (by decide) ?_
  refine r_iald (by decide) (by decide) dX12_compress_485 ok.1 ?_
  have ok := ok.2
  refine r_iload dX12_compress_486 rfl ?_
  refine r_iadd dX12_compress_488 ?_
  refine r_iast hG (by decide) (by decide) dX12_compress_489 ok.1 ?_
  have ok := ok.2
  refine r_aload_n dX12_compress_490 rfl rfl ?_
  refine r_getA 8 fX12_33 (by decide) (by decide) dX12_compress_491 ?_
  refine r_bipush (v := nI 7) dX12_compress_494 (by decide) ?_
  refine r_aload_n dX12_compress_496 rfl rfl ?_
  refine r_getA 8 fX12_33 (by decide) (by decide) dX12_compress_497 ?_
  refine r_bipush (v := nI 7) dX12_compress_500 (by decide) ?_
  refine r_iald (by decide) (by decide) dX12_compress_502 ok.1 ?_
  have ok := ok.2
  refine r_iload dX12_compress_503 rfl ?_
  refine r_iadd dX12_compress_505 ?_
  refine r_iast hG (by decide) (by decide) dX12_compress_506 ok.1 ?_
  have ok := ok.2
  exact r_return rfl dX12_compress_507 (hR _ hx)
def F_compress_443 (N : Nat) (x6 : Int32) (x7 : Int32) (x8 : Int32) (x9 : Int32) (S : rS) : rS := (F_compress_473 N x8 x9 (rsA (rsA S 8 (nI 4).toNatClampNeg ((S.2.1 8 (nI 4).toNatClampNeg) + x6)) 8 (nI 5).toNatClampNeg (((rsA S 8 (nI 4).toNatClampNeg ((S.2.1 8 (nI 4).toNatClampNeg) + x6)).2.1 8 (nI 5).toNatClampNeg) + x7)))
def O_compress_443 (N : Nat) (x6 : Int32) (x7 : Int32) (x8 : Int32) (x9 : Int32) (S : rS) : Prop := (vp_in (nI 4) 8) ∧ (vp_in (nI 4) 8) ∧ (vp_in (nI 5) 8) ∧ (vp_in (nI 5) 8) ∧ O_compress_473 N x8 x9 (rsA (rsA S 8 (nI 4).toNatClampNeg ((S.2.1 8 (nI 4).toNatClampNeg) + x6)) 8 (nI 5).toNatClampNeg (((rsA S 8 (nI 4).toNatClampNeg ((S.2.1 8 (nI 4).toNatClampNeg) + x6)).2.1 8 (nI 5).toNatClampNeg) + x7))
set_option maxHeartbeats 4000000 in
theorem b_compress_443 {G : zG} {E : rE} {S : rS} {N : Nat} {Q : Option Value → rS → Prop} {X : rS → Prop} (hG : zOK G) (hR : ∀ S', X S' → Q none S') {x6 : Int32} {x7 : Int32} {x8 : Int32} {x9 : Int32} (ok : O_compress_443 N x6 x7 x8 x9 S) (hx : X (F_compress_443 N x6 x7 x8 x9 S)) : rX G E dX12_compress mX12_compress 443 [some (.ref E.1), none, none, none, none, none, some (.int x6), some (.int x7), some (.int x8), some (.int x9), none, none, none] [] S Q := by
  unfold O_compress_443 at ok
  unfold F_compress_443 at hx
  refine r_aload_n dX12_compress_443 rfl rfl ?_
  refine r_getA 8 fX12_33 (by decide) (by decide) dX12_compress_444 ?_
  refine r_iconst (v := nI 4) dX12_compress_447 (by decide) ?_
  refine r_aload_n dX12_compress_448 rfl rfl ?_
  refine r_getA 8 fX12_33 (by decide) (by decide) dX12_compress_449 ?_
  refine r_iconst (v := nI 4) dX12_compress_452 (by decide) ?_
  refine r_iald (by decide) (by decide) dX12_compress_453 ok.1 ?_
  have ok := ok.2
  refine r_iload dX12_compress_454 rfl ?_
  refine r_iadd dX12_compress_456 ?_
  refine r_iast hG (by decide) (by decide) dX12_compress_457 ok.1 ?_
  have ok := ok.2
  refine r_aload_n dX12_compress_458 rfl rfl ?_
  refine r_getA 8 fX12_33 (by decide) (by decide) dX12_compress_459 ?_
  refine r_iconst (v := nI 5) dX12_compress_462 (by decide) ?_
  refine r_aload_n dX12_compress_463 rfl rfl ?_
  refine r_getA 8 fX12_33 (by decide) (by decide) dX12_compress_464 ?_
  refine r_iconst (v := nI 5) dX12_compress_467 (by decide) ?_
  refine r_iald (by decide) (by decide) dX12_compress_468 ok.1 ?_
  have ok := ok.2
  refine r_iload dX12_compress_469 rfl ?_
  refine r_iadd dX12_compress_471 ?_
  refine r_iast hG (by decide) (by decide) dX12_compress_472 ok.1 ?_
  have ok := ok.2
  exact rX.cutz (b_compress_473 hG hR ok hx) ⟨rfl, rfl, rfl, trivial⟩
def F_compress_413 (N : Nat) (x4 : Int32) (x5 : Int32) (x6 : Int32) (x7 : Int32) (x8 : Int32) (x9 : Int32) (S : rS) : rS := (F_compress_443 N x6 x7 x8 x9 (rsA (rsA S 8 (nI 2).toNatClampNeg ((S.2.1 8 (nI 2).toNatClampNeg) + x4)) 8 (nI 3).toNatClampNeg (((rsA S 8 (nI 2).toNatClampNeg ((S.2.1 8 (nI 2).toNatClampNeg) + x4)).2.1 8 (nI 3).toNatClampNeg) + x5)))
def O_compress_413 (N : Nat) (x4 : Int32) (x5 : Int32) (x6 : Int32) (x7 : Int32) (x8 : Int32) (x9 : Int32) (S : rS) : Prop := (vp_in (nI 2) 8) ∧ (vp_in (nI 2) 8) ∧ (vp_in (nI 3) 8) ∧ (vp_in (nI 3) 8) ∧ O_compress_443 N x6 x7 x8 x9 (rsA (rsA S 8 (nI 2).toNatClampNeg ((S.2.1 8 (nI 2).toNatClampNeg) + x4)) 8 (nI 3).toNatClampNeg (((rsA S 8 (nI 2).toNatClampNeg ((S.2.1 8 (nI 2).toNatClampNeg) + x4)).2.1 8 (nI 3).toNatClampNeg) + x5))
set_option maxHeartbeats 4000000 in
theorem b_compress_413 {G : zG} {E : rE} {S : rS} {N : Nat} {Q : Option Value → rS → Prop} {X : rS → Prop} (hG : zOK G) (hR : ∀ S', X S' → Q none S') {x4 : Int32} {x5 : Int32} {x6 : Int32} {x7 : Int32} {x8 : Int32} {x9 : Int32} (ok : O_compress_413 N x4 x5 x6 x7 x8 x9 S) (hx : X (F_compress_413 N x4 x5 x6 x7 x8 x9 S)) : rX G E dX12_compress mX12_compress 413 [some (.ref E.1), none, none, none, some (.int x4), some (.int x5), some (.int x6), some (.int x7), some (.int x8), some (.int x9), none, none, none] [] S Q := by
  unfold O_compress_413 at ok
  unfold F_compress_413 at hx
  refine r_aload_n dX12_compress_413 rfl rfl ?_
  refine r_getA 8 fX12_33 (by decide) (by decide) dX12_compress_414 ?_
  refine r_iconst (v := nI 2) dX12_compress_417 (by decide) ?_
  refine r_aload_n dX12_compress_418 rfl rfl ?_
  refine r_getA 8 fX12_33 (by decide) (by decide) dX12_compress_419 ?_
  refine r_iconst (v := nI 2) dX12_compress_422 (by decide) ?_
  refine r_iald (by decide) (by decide) dX12_compress_423 ok.1 ?_
  have ok := ok.2
  refine r_iload dX12_compress_424 rfl ?_
  refine r_iadd dX12_compress_426 ?_
  refine r_iast hG (by decide) (by decide) dX12_compress_427 ok.1 ?_
  have ok := ok.2
  refine r_aload_n dX12_compress_428 rfl rfl ?_
  refine r_getA 8 fX12_33 (by decide) (by decide) dX12_compress_429 ?_
  refine r_iconst (v := nI 3) dX12_compress_432 (by decide) ?_
  refine r_aload_n dX12_compress_433 rfl rfl ?_
  refine r_getA 8 fX12_33 (by decide) (by decide) dX12_compress_434 ?_
  refine r_iconst (v := nI 3) dX12_compress_437 (by decide) ?_
  refine r_iald (by decide) (by decide) dX12_compress_438 ok.1 ?_
  have ok := ok.2
  refine r_iload dX12_compress_439 rfl ?_
  refine r_iadd dX12_compress_441 ?_
  refine r_iast hG (by decide) (by decide) dX12_compress_442 ok.1 ?_
  have ok := ok.2
  exact rX.cutz (b_compress_443 hG hR ok hx) ⟨rfl, rfl, rfl, rfl, rfl, trivial⟩
def F_compress_385 (N : Nat) (x2 : Int32) (x3 : Int32) (x4 : Int32) (x5 : Int32) (x6 : Int32) (x7 : Int32) (x8 : Int32) (x9 : Int32) (S : rS) : rS := (F_compress_413 N x4 x5 x6 x7 x8 x9 (rsA (rsA S 8 (nI 0).toNatClampNeg ((S.2.1 8 (nI 0).toNatClampNeg) + x2)) 8 (nI 1).toNatClampNeg (((rsA S 8 (nI 0).toNatClampNeg ((S.2.1 8 (nI 0).toNatClampNeg) + x2)).2.1 8 (nI 1).toNatClampNeg) + x3)))
def O_compress_385 (N : Nat) (x2 : Int32) (x3 : Int32) (x4 : Int32) (x5 : Int32) (x6 : Int32) (x7 : Int32) (x8 : Int32) (x9 : Int32) (S : rS) : Prop := (vp_in (nI 0) 8) ∧ (vp_in (nI 0) 8) ∧ (vp_in (nI 1) 8) ∧ (vp_in (nI 1) 8) ∧ O_compress_413 N x4 x5 x6 x7 x8 x9 (rsA (rsA S 8 (nI 0).toNatClampNeg ((S.2.1 8 (nI 0).toNatClampNeg) + x2)) 8 (nI 1).toNatClampNeg (((rsA S 8 (nI 0).toNatClampNeg ((S.2.1 8 (nI 0).toNatClampNeg) + x2)).2.1 8 (nI 1).toNatClampNeg) + x3))
set_option maxHeartbeats 4000000 in
theorem b_compress_385 {G : zG} {E : rE} {S : rS} {N : Nat} {Q : Option Value → rS → Prop} {X : rS → Prop} (hG : zOK G) (hR : ∀ S', X S' → Q none S') {x2 : Int32} {x3 : Int32} {x4 : Int32} {x5 : Int32} {x6 : Int32} {x7 : Int32} {x8 : Int32} {x9 : Int32} (ok : O_compress_385 N x2 x3 x4 x5 x6 x7 x8 x9 S) (hx : X (F_compress_385 N x2 x3 x4 x5 x6 x7 x8 x9 S)) : rX G E dX12_compress mX12_compress 385 [some (.ref E.1), none, some (.int x2), some (.int x3), some (.int x4), some (.int x5), some (.int x6), some (.int x7), some (.int x8), some (.int x9), none, none, none] [] S Q := by
  unfold O_compress_385 at ok
  unfold F_compress_385 at hx
  refine r_aload_n dX12_compress_385 rfl rfl ?_
  refine r_getA 8 fX12_33 (by decide) (by decide) dX12_compress_386 ?_
  refine r_iconst (v := nI 0) dX12_compress_389 (by decide) ?_
  refine r_aload_n dX12_compress_390 rfl rfl ?_
  refine r_getA 8 fX12_33 (by decide) (by decide) dX12_compress_391 ?_
  refine r_iconst (v := nI 0) dX12_compress_394 (by decide) ?_
  refine r_iald (by decide) (by decide) dX12_compress_395 ok.1 ?_
  have ok := ok.2
  refine r_iload_n dX12_compress_396 rfl rfl ?_
  refine r_iadd dX12_compress_397 ?_
  refine r_iast hG (by decide) (by decide) dX12_compress_398 ok.1 ?_
  have ok := ok.2
  refine r_aload_n dX12_compress_399 rfl rfl ?_
  refine r_getA 8 fX12_33 (by decide) (by decide) dX12_compress_400 ?_
  refine r_iconst (v := nI 1) dX12_compress_403 (by decide) ?_
  refine r_aload_n dX12_compress_404 rfl rfl ?_
  refine r_getA 8 fX12_33 (by decide) (by decide) dX12_compress_405 ?_
  refine r_iconst (v := nI 1) dX12_compress_408 (by decide) ?_
  refine r_iald (by decide) (by decide) dX12_compress_409 ok.1 ?_
  have ok := ok.2
  refine r_iload_n dX12_compress_410 rfl rfl ?_
  refine r_iadd dX12_compress_411 ?_
  refine r_iast hG (by decide) (by decide) dX12_compress_412 ok.1 ?_
  have ok := ok.2
  exact rX.cutz (b_compress_413 hG hR ok hx) ⟨rfl, rfl, rfl, rfl, rfl, rfl, rfl, trivial⟩
def F_compress_308 (N : Nat) (rec : Int32 → Int32 → Int32 → Int32 → Int32 → Int32 → Int32 → Int32 → Int32 → rS → Nat × Int32 × Int32 × Int32 × Int32 × Int32 × Int32 × Int32 × Int32 × rS) (x2 : Int32) (x3 : Int32) (x4 : Int32) (x5 : Int32) (x6 : Int32) (x7 : Int32) (x8 : Int32) (x10 : Int32) (s0 : Int32) (S : rS) : Nat × Int32 × Int32 × Int32 × Int32 × Int32 × Int32 × Int32 × Int32 × rS := (rec (s0 + ((((f_turn N S x2 (nI 2)) ^^^ (f_turn N S x2 (nI 13))) ^^^ (f_turn N S x2 (nI 22))) + (((x2 &&& x3) ^^^ (x2 &&& x4)) ^^^ (x3 &&& x4)))) x2 x3 x4 (x5 + s0) x6 x7 x8 (x10 + nI 1) S)
def O_compress_308 (N : Nat) (rok : Int32 → Int32 → Int32 → Int32 → Int32 → Int32 → Int32 → Int32 → Int32 → rS → Prop) (x2 : Int32) (x3 : Int32) (x4 : Int32) (x5 : Int32) (x6 : Int32) (x7 : Int32) (x8 : Int32) (x10 : Int32) (s0 : Int32) (S : rS) : Prop := (o_turn N S x2 (nI 2)) ∧ (o_turn N S x2 (nI 13)) ∧ (o_turn N S x2 (nI 22)) ∧ rok (s0 + ((((f_turn N S x2 (nI 2)) ^^^ (f_turn N S x2 (nI 13))) ^^^ (f_turn N S x2 (nI 22))) + (((x2 &&& x3) ^^^ (x2 &&& x4)) ^^^ (x3 &&& x4)))) x2 x3 x4 (x5 + s0) x6 x7 x8 (x10 + nI 1) S
set_option maxHeartbeats 4000000 in
theorem b_compress_308 {G : zG} {E : rE} {S : rS} {N : Nat} {Q : Option Value → rS → Prop} {X : Nat × Int32 × Int32 × Int32 × Int32 × Int32 × Int32 × Int32 × Int32 × rS → Prop} (hG : zOK G) (hX0 : ∀ (x2 : Int32) (x3 : Int32) (x4 : Int32) (x5 : Int32) (x6 : Int32) (x7 : Int32) (x8 : Int32) (x9 : Int32) (S' : rS), X (0, x2, x3, x4, x5, x6, x7, x8, x9, S') → rX G E dX12_compress mX12_compress 385 [some (.ref E.1), none, some (.int x2), some (.int x3), some (.int x4), some (.int x5), some (.int x6), some (.int x7), some (.int x8), some (.int x9), none, none, none] [] S' Q) {rec : Int32 → Int32 → Int32 → Int32 → Int32 → Int32 → Int32 → Int32 → Int32 → rS → Nat × Int32 × Int32 × Int32 × Int32 × Int32 × Int32 × Int32 × Int32 × rS} {rok : Int32 → Int32 → Int32 → Int32 → Int32 → Int32 → Int32 → Int32 → Int32 → rS → Prop} (hrec : ∀ (x2 : Int32) (x3 : Int32) (x4 : Int32) (x5 : Int32) (x6 : Int32) (x7 : Int32) (x8 : Int32) (x9 : Int32) (x10 : Int32) (S : rS), rok x2 x3 x4 x5 x6 x7 x8 x9 x10 S → X (rec x2 x3 x4 x5 x6 x7 x8 x9 x10 S) → rX G E dX12_compress mX12_compress 245 [some (.ref E.1), none, some (.int x2), some (.int x3), some (.int x4), some (.int x5), some (.int x6), some (.int x7), some (.int x8), some (.int x9), some (.int x10), none, none] [] S Q) {x2 : Int32} {x3 : Int32} {x4 : Int32} {x5 : Int32} {x6 : Int32} {x7 : Int32} {x8 : Int32} {x10 : Int32} {s0 : Int32} (ok : O_compress_308 N rok x2 x3 x4 x5 x6 x7 x8 x10 s0 S) (hx : X (F_compress_308 N rec x2 x3 x4 x5 x6 x7 x8 x10 s0 S)) : rX G E dX12_compress mX12_compress 308 [some (.ref E.1), none, some (.int x2), some (.int x3), some (.int x4), some (.int x5), some (.int x6), some (.int x7), some (.int x8), none, some (.int x10), none, none] [.int s0] S Q := by
  unfold O_compress_308 at ok
  unfold F_compress_308 at hx
  refine r_istore_11 dX12_compress_308 (by decide) rfl ?_
  refine r_iload_n dX12_compress_310 rfl rfl ?_
  refine r_iconst (v := nI 2) dX12_compress_311 (by decide) ?_
  refine r_S2i (y' := mX12_turn) dX12_compress_312 lX12_42 kX12_turn ⟨by decide, by decide⟩ (Nat.le_of_ble_eq_true rfl) (rc_X12_turn hG ok.1) (fun v_312 S_312 h_312 => ?_)
  obtain ⟨rfl, hS_312⟩ := h_312
  have hS_312 := hS_312.symm
  subst hS_312
  have ok := ok.2
  refine r_iload_n dX12_compress_315 rfl rfl ?_
  refine r_bipush (v := nI 13) dX12_compress_316 (by decide) ?_
  refine r_S2i (y' := mX12_turn) dX12_compress_318 lX12_42 kX12_turn ⟨by decide, by decide⟩ (Nat.le_of_ble_eq_true rfl) (rc_X12_turn hG ok.1) (fun v_318 S_318 h_318 => ?_)
  obtain ⟨rfl, hS_318⟩ := h_318
  have hS_318 := hS_318.symm
  subst hS_318
  have ok := ok.2
  refine r_ixor dX12_compress_321 ?_
  refine r_iload_n dX12_compress_322 rfl rfl ?_
  refine r_bipush (v := nI 22) dX12_compress_323 (by decide) ?_
  refine r_S2i (y' := mX12_turn) dX12_compress_325 lX12_42 kX12_turn ⟨by decide, by decide⟩ (Nat.le_of_ble_eq_true rfl) (rc_X12_turn hG ok.1) (fun v_325 S_325 h_325 => ?_)
  obtain ⟨rfl, hS_325⟩ := h_325
  have hS_325 := hS_325.symm
  subst hS_325
  have ok := ok.2
  refine r_ixor dX12_compress_328 ?_
  refine r_iload_n dX12_compress_329 rfl rfl ?_
  refine r_iload_n dX12_compress_330 rfl rfl ?_
  refine r_iand dX12_compress_331 ?_
  refine r_iload_n dX12_compress_332 rfl rfl ?_
  refine r_iload dX12_compress_333 rfl ?_
  refine r_iand dX12_compress_335 ?_
  refine r_ixor dX12_compress_336 ?_
  refine r_iload_n dX12_compress_337 rfl rfl ?_
  refine r_iload dX12_compress_338 rfl ?_
  refine r_iand dX12_compress_340 ?_
  refine r_ixor dX12_compress_341 ?_
  refine r_iadd dX12_compress_342 ?_
  refine r_istore_12 dX12_compress_343 (by decide) rfl ?_
  refine r_iload dX12_compress_345 rfl ?_
  refine r_istore_9 dX12_compress_347 (by decide) rfl ?_
  refine r_iload dX12_compress_349 rfl ?_
  refine r_istore_8 dX12_compress_351 (by decide) rfl ?_
  refine r_iload dX12_compress_353 rfl ?_
  refine r_istore_7 dX12_compress_355 (by decide) rfl ?_
  refine r_iload dX12_compress_357 rfl ?_
  refine r_iload dX12_compress_359 rfl ?_
  refine r_iadd dX12_compress_361 ?_
  refine r_istore_6 dX12_compress_362 (by decide) rfl ?_
  refine r_iload dX12_compress_364 rfl ?_
  refine r_istore_5 dX12_compress_366 (by decide) rfl ?_
  refine r_iload_n dX12_compress_368 rfl rfl ?_
  refine r_istore_4 dX12_compress_369 (by decide) rfl ?_
  refine r_iload_n dX12_compress_371 rfl rfl ?_
  refine r_istore_3 dX12_compress_372 (by decide) rfl ?_
  refine r_iload dX12_compress_373 rfl ?_
  refine r_iload dX12_compress_375 rfl ?_
  refine r_iadd dX12_compress_377 ?_
  refine r_istore_2 dX12_compress_378 (by decide) rfl ?_
  refine r_iinc_10 (v := (x10 + nI 1)) dX12_compress_379 rfl (by first | rfl | (congr 1)) (by decide) rfl ?_
  refine r_goto (tgt := 245) dX12_compress_382 (by decide) ?_
  exact rX.cutz (hrec _ _ _ _ _ _ _ _ _ S ok hx) ⟨rfl, rfl, rfl, rfl, rfl, rfl, rfl, rfl, rfl, rfl, trivial⟩
def B_compress_245 (N : Nat) (rec : Int32 → Int32 → Int32 → Int32 → Int32 → Int32 → Int32 → Int32 → Int32 → rS → Nat × Int32 × Int32 × Int32 × Int32 × Int32 × Int32 × Int32 × Int32 × rS) (x2 : Int32) (x3 : Int32) (x4 : Int32) (x5 : Int32) (x6 : Int32) (x7 : Int32) (x8 : Int32) (x9 : Int32) (x10 : Int32) (S : rS) : Nat × Int32 × Int32 × Int32 × Int32 × Int32 × Int32 × Int32 × Int32 × rS := (if (nI 64) ≤ x10 then (0, x2, x3, x4, x5, x6, x7, x8, x9, S) else (F_compress_308 N rec x2 x3 x4 x5 x6 x7 x8 x10 ((((x9 + (((f_turn N S x6 (nI 6)) ^^^ (f_turn N S x6 (nI 11))) ^^^ (f_turn N S x6 (nI 25)))) + ((x6 &&& x7) ^^^ ((x6 ^^^ (-1)) &&& x8))) + (S.2.1 10 x10.toNatClampNeg)) + (S.2.1 9 x10.toNatClampNeg)) S))
def OB_compress_245 (N : Nat) (rok : Int32 → Int32 → Int32 → Int32 → Int32 → Int32 → Int32 → Int32 → Int32 → rS → Prop) (x2 : Int32) (x3 : Int32) (x4 : Int32) (x5 : Int32) (x6 : Int32) (x7 : Int32) (x8 : Int32) (x9 : Int32) (x10 : Int32) (S : rS) : Prop := (((nI 64) ≤ x10 → True) ∧ (¬ (nI 64) ≤ x10 → (o_turn N S x6 (nI 6)) ∧ (o_turn N S x6 (nI 11)) ∧ (o_turn N S x6 (nI 25)) ∧ (vp_in x10 64) ∧ (vp_in x10 64) ∧ O_compress_308 N rok x2 x3 x4 x5 x6 x7 x8 x10 ((((x9 + (((f_turn N S x6 (nI 6)) ^^^ (f_turn N S x6 (nI 11))) ^^^ (f_turn N S x6 (nI 25)))) + ((x6 &&& x7) ^^^ ((x6 ^^^ (-1)) &&& x8))) + (S.2.1 10 x10.toNatClampNeg)) + (S.2.1 9 x10.toNatClampNeg)) S))
set_option maxHeartbeats 4000000 in
theorem bb_compress_245 {G : zG} {E : rE} {S : rS} {N : Nat} {Q : Option Value → rS → Prop} {X : Nat × Int32 × Int32 × Int32 × Int32 × Int32 × Int32 × Int32 × Int32 × rS → Prop} (hG : zOK G) (hX0 : ∀ (x2 : Int32) (x3 : Int32) (x4 : Int32) (x5 : Int32) (x6 : Int32) (x7 : Int32) (x8 : Int32) (x9 : Int32) (S' : rS), X (0, x2, x3, x4, x5, x6, x7, x8, x9, S') → rX G E dX12_compress mX12_compress 385 [some (.ref E.1), none, some (.int x2), some (.int x3), some (.int x4), some (.int x5), some (.int x6), some (.int x7), some (.int x8), some (.int x9), none, none, none] [] S' Q) {rec : Int32 → Int32 → Int32 → Int32 → Int32 → Int32 → Int32 → Int32 → Int32 → rS → Nat × Int32 × Int32 × Int32 × Int32 × Int32 × Int32 × Int32 × Int32 × rS} {rok : Int32 → Int32 → Int32 → Int32 → Int32 → Int32 → Int32 → Int32 → Int32 → rS → Prop} (hrec : ∀ (x2 : Int32) (x3 : Int32) (x4 : Int32) (x5 : Int32) (x6 : Int32) (x7 : Int32) (x8 : Int32) (x9 : Int32) (x10 : Int32) (S : rS), rok x2 x3 x4 x5 x6 x7 x8 x9 x10 S → X (rec x2 x3 x4 x5 x6 x7 x8 x9 x10 S) → rX G E dX12_compress mX12_compress 245 [some (.ref E.1), none, some (.int x2), some (.int x3), some (.int x4), some (.int x5), some (.int x6), some (.int x7), some (.int x8), some (.int x9), some (.int x10), none, none] [] S Q) {x2 : Int32} {x3 : Int32} {x4 : Int32} {x5 : Int32} {x6 : Int32} {x7 : Int32} {x8 : Int32} {x9 : Int32} {x10 : Int32} (ok : OB_compress_245 N rok x2 x3 x4 x5 x6 x7 x8 x9 x10 S) (hx : X (B_compress_245 N rec x2 x3 x4 x5 x6 x7 x8 x9 x10 S)) : rX G E dX12_compress mX12_compress 245 [some (.ref E.1), none, some (.int x2), some (.int x3), some (.int x4), some (.int x5), some (.int x6), some (.int x7), some (.int x8), some (.int x9), some (.int x10), none, none] [] S Q := by
  unfold OB_compress_245 at ok
  unfold B_compress_245 at hx
  refine r_iload dX12_compress_245 rfl ?_
  refine r_bipush (v := nI 64) dX12_compress_247 (by decide) ?_
  refine r_icmp_ge (tgt := 385) dX12_compress_249 (by decide) (fun c_249 => ?_) (fun c_249 => ?_)
  · have ok := ok.1 c_249
    have hx := xif_p c_249 hx
    exact rX.cutz (hX0 _ _ _ _ _ _ _ _ S hx) ⟨rfl, rfl, rfl, rfl, rfl, rfl, rfl, rfl, rfl, trivial⟩
  · have ok := ok.2 c_249
    have hx := xif_n c_249 hx
    refine r_iload dX12_compress_252 rfl ?_
    refine r_iload dX12_compress_254 rfl ?_
    refine r_bipush (v := nI 6) dX12_compress_256 (by decide) ?_
    refine r_S2i (y' := mX12_turn) dX12_compress_258 lX12_42 kX12_turn ⟨by decide, by decide⟩ (Nat.le_of_ble_eq_true rfl) (rc_X12_turn hG ok.1) (fun v_258 S_258 h_258 => ?_)
    obtain ⟨rfl, hS_258⟩ := h_258
    have hS_258 := hS_258.symm
    subst hS_258
    have ok := ok.2
    refine r_iload dX12_compress_261 rfl ?_
    refine r_bipush (v := nI 11) dX12_compress_263 (by decide) ?_
    refine r_S2i (y' := mX12_turn) dX12_compress_265 lX12_42 kX12_turn ⟨by decide, by decide⟩ (Nat.le_of_ble_eq_true rfl) (rc_X12_turn hG ok.1) (fun v_265 S_265 h_265 => ?_)
    obtain ⟨rfl, hS_265⟩ := h_265
    have hS_265 := hS_265.symm
    subst hS_265
    have ok := ok.2
    refine r_ixor dX12_compress_268 ?_
    refine r_iload dX12_compress_269 rfl ?_
    refine r_bipush (v := nI 25) dX12_compress_271 (by decide) ?_
    refine r_S2i (y' := mX12_turn) dX12_compress_273 lX12_42 kX12_turn ⟨by decide, by decide⟩ (Nat.le_of_ble_eq_true rfl) (rc_X12_turn hG ok.1) (fun v_273 S_273 h_273 => ?_)
    obtain ⟨rfl, hS_273⟩ := h_273
    have hS_273 := hS_273.symm
    subst hS_273
    have ok := ok.2
    refine r_ixor dX12_compress_276 ?_
    refine r_iadd dX12_compress_277 ?_
    refine r_iload dX12_compress_278 rfl ?_
    refine r_iload dX12_compress_280 rfl ?_
    refine r_iand dX12_compress_282 ?_
    refine r_iload dX12_compress_283 rfl ?_
    refine r_iconst (v := -1) dX12_compress_285 (by decide) ?_
    refine r_ixor dX12_compress_286 ?_
    refine r_iload dX12_compress_287 rfl ?_
    refine r_iand dX12_compress_289 ?_
    refine r_ixor dX12_compress_290 ?_
    refine r_iadd dX12_compress_291 ?_
    refine r_aload_n dX12_compress_292 rfl rfl ?_
    refine r_getA 10 fX12_11 (by decide) (by decide) dX12_compress_293 ?_
    refine r_iload dX12_compress_296 rfl ?_
    refine r_iald (by decide) (by decide) dX12_compress_298 ok.1 ?_
    have ok := ok.2
    refine r_iadd dX12_compress_299 ?_
    refine r_aload_n dX12_compress_300 rfl rfl ?_
    refine r_getA 9 fX12_39 (by decide) (by decide) dX12_compress_301 ?_
    refine r_iload dX12_compress_304 rfl ?_
    refine r_iald (by decide) (by decide) dX12_compress_306 ok.1 ?_
    have ok := ok.2
    refine r_iadd dX12_compress_307 ?_
    exact rX.cutz (b_compress_308 hG hX0 hrec ok hx) ⟨rfl, rfl, rfl, rfl, rfl, rfl, rfl, rfl, rfl, trivial⟩
def L_compress_245 (N : Nat) : Nat → Int32 → Int32 → Int32 → Int32 → Int32 → Int32 → Int32 → Int32 → Int32 → rS → Nat × Int32 × Int32 × Int32 × Int32 × Int32 × Int32 × Int32 × Int32 × rS
  | 0, x2, x3, x4, x5, x6, x7, x8, x9, x10, S => (0, 0, 0, 0, 0, 0, 0, 0, 0, S)
  | n + 1, x2, x3, x4, x5, x6, x7, x8, x9, x10, S => B_compress_245 N (L_compress_245 N n) x2 x3 x4 x5 x6 x7 x8 x9 x10 S
def OL_compress_245 (N : Nat) : Nat → Int32 → Int32 → Int32 → Int32 → Int32 → Int32 → Int32 → Int32 → Int32 → rS → Prop
  | 0, _, _, _, _, _, _, _, _, _, _ => False
  | n + 1, x2, x3, x4, x5, x6, x7, x8, x9, x10, S => OB_compress_245 N (OL_compress_245 N n) x2 x3 x4 x5 x6 x7 x8 x9 x10 S
set_option maxHeartbeats 4000000 in
theorem l_compress_245 {G : zG} {E : rE} {N : Nat} {Q : Option Value → rS → Prop} {X : Nat × Int32 × Int32 × Int32 × Int32 × Int32 × Int32 × Int32 × Int32 × rS → Prop} (hG : zOK G) (hX0 : ∀ (x2 : Int32) (x3 : Int32) (x4 : Int32) (x5 : Int32) (x6 : Int32) (x7 : Int32) (x8 : Int32) (x9 : Int32) (S' : rS), X (0, x2, x3, x4, x5, x6, x7, x8, x9, S') → rX G E dX12_compress mX12_compress 385 [some (.ref E.1), none, some (.int x2), some (.int x3), some (.int x4), some (.int x5), some (.int x6), some (.int x7), some (.int x8), some (.int x9), none, none, none] [] S' Q) : ∀ (n : Nat) (x2 : Int32) (x3 : Int32) (x4 : Int32) (x5 : Int32) (x6 : Int32) (x7 : Int32) (x8 : Int32) (x9 : Int32) (x10 : Int32) (S : rS), OL_compress_245 N n x2 x3 x4 x5 x6 x7 x8 x9 x10 S → X (L_compress_245 N n x2 x3 x4 x5 x6 x7 x8 x9 x10 S) → rX G E dX12_compress mX12_compress 245 [some (.ref E.1), none, some (.int x2), some (.int x3), some (.int x4), some (.int x5), some (.int x6), some (.int x7), some (.int x8), some (.int x9), some (.int x10), none, none] [] S Q := by
  intro n
  induction n with
  | zero => intro x2 x3 x4 x5 x6 x7 x8 x9 x10 S ok; exact absurd ok id
  | succ n ih =>
    intro x2 x3 x4 x5 x6 x7 x8 x9 x10 S ok hx
    exact bb_compress_245 hG hX0 (rec := L_compress_245 N n) (rok := OL_compress_245 N n) (fun x2 x3 x4 x5 x6 x7 x8 x9 x10 S ok hx => ih x2 x3 x4 x5 x6 x7 x8 x9 x10 S ok hx) ok hx
def A_compress_245 (N : Nat) (x2 : Int32) (x3 : Int32) (x4 : Int32) (x5 : Int32) (x6 : Int32) (x7 : Int32) (x8 : Int32) (x9 : Int32) (x10 : Int32) (S : rS) (z : Nat × Int32 × Int32 × Int32 × Int32 × Int32 × Int32 × Int32 × Int32 × rS) : rS := (F_compress_385 N (z.2.1) (z.2.2.1) (z.2.2.2.1) (z.2.2.2.2.1) (z.2.2.2.2.2.1) (z.2.2.2.2.2.2.1) (z.2.2.2.2.2.2.2.1) (z.2.2.2.2.2.2.2.2.1) z.2.2.2.2.2.2.2.2.2)
def OA_compress_245 (N : Nat) (x2 : Int32) (x3 : Int32) (x4 : Int32) (x5 : Int32) (x6 : Int32) (x7 : Int32) (x8 : Int32) (x9 : Int32) (x10 : Int32) (S : rS) (z : Nat × Int32 × Int32 × Int32 × Int32 × Int32 × Int32 × Int32 × Int32 × rS) : Prop := O_compress_385 N (z.2.1) (z.2.2.1) (z.2.2.2.1) (z.2.2.2.2.1) (z.2.2.2.2.2.1) (z.2.2.2.2.2.2.1) (z.2.2.2.2.2.2.2.1) (z.2.2.2.2.2.2.2.2.1) z.2.2.2.2.2.2.2.2.2
set_option maxHeartbeats 4000000 in
theorem c_compress_245 {G : zG} {E : rE} {S : rS} {N : Nat} {Q : Option Value → rS → Prop} {X : rS → Prop} (hG : zOK G) (hR : ∀ S', X S' → Q none S') {x2 : Int32} {x3 : Int32} {x4 : Int32} {x5 : Int32} {x6 : Int32} {x7 : Int32} {x8 : Int32} {x9 : Int32} {x10 : Int32} (ok : OL_compress_245 N N x2 x3 x4 x5 x6 x7 x8 x9 x10 S ∧ OA_compress_245 N x2 x3 x4 x5 x6 x7 x8 x9 x10 S (L_compress_245 N N x2 x3 x4 x5 x6 x7 x8 x9 x10 S)) (hx : X (A_compress_245 N x2 x3 x4 x5 x6 x7 x8 x9 x10 S (L_compress_245 N N x2 x3 x4 x5 x6 x7 x8 x9 x10 S))) : rX G E dX12_compress mX12_compress 245 [some (.ref E.1), none, some (.int x2), some (.int x3), some (.int x4), some (.int x5), some (.int x6), some (.int x7), some (.int x8), some (.int x9), some (.int x10), none, none] [] S Q := by
  refine l_compress_245 hG ?_ N x2 x3 x4 x5 x6 x7 x8 x9 x10 S ok.1 (X := fun z => OA_compress_245 N x2 x3 x4 x5 x6 x7 x8 x9 x10 S z ∧ X (A_compress_245 N x2 x3 x4 x5 x6 x7 x8 x9 x10 S z)) ⟨ok.2, hx⟩
  · intro x2' x3' x4' x5' x6' x7' x8' x9' S' hz
    obtain ⟨ok, hx⟩ := hz
    unfold OA_compress_245 at ok
    unfold A_compress_245 at hx
    exact rX.cutz (b_compress_385 hG hR ok hx) ⟨rfl, rfl, rfl, rfl, rfl, rfl, rfl, rfl, rfl, trivial⟩
def F_compress_178 (N : Nat)  (S : rS) : rS := (A_compress_245 N (S.2.1 8 (nI 0).toNatClampNeg) (S.2.1 8 (nI 1).toNatClampNeg) (S.2.1 8 (nI 2).toNatClampNeg) (S.2.1 8 (nI 3).toNatClampNeg) (S.2.1 8 (nI 4).toNatClampNeg) (S.2.1 8 (nI 5).toNatClampNeg) (S.2.1 8 (nI 6).toNatClampNeg) (S.2.1 8 (nI 7).toNatClampNeg) (nI 0) S (L_compress_245 N N (S.2.1 8 (nI 0).toNatClampNeg) (S.2.1 8 (nI 1).toNatClampNeg) (S.2.1 8 (nI 2).toNatClampNeg) (S.2.1 8 (nI 3).toNatClampNeg) (S.2.1 8 (nI 4).toNatClampNeg) (S.2.1 8 (nI 5).toNatClampNeg) (S.2.1 8 (nI 6).toNatClampNeg) (S.2.1 8 (nI 7).toNatClampNeg) (nI 0) S))
def O_compress_178 (N : Nat)  (S : rS) : Prop := (vp_in (nI 0) 8) ∧ (vp_in (nI 1) 8) ∧ (vp_in (nI 2) 8) ∧ (vp_in (nI 3) 8) ∧ (vp_in (nI 4) 8) ∧ (vp_in (nI 5) 8) ∧ (vp_in (nI 6) 8) ∧ (vp_in (nI 7) 8) ∧ (OL_compress_245 N N (S.2.1 8 (nI 0).toNatClampNeg) (S.2.1 8 (nI 1).toNatClampNeg) (S.2.1 8 (nI 2).toNatClampNeg) (S.2.1 8 (nI 3).toNatClampNeg) (S.2.1 8 (nI 4).toNatClampNeg) (S.2.1 8 (nI 5).toNatClampNeg) (S.2.1 8 (nI 6).toNatClampNeg) (S.2.1 8 (nI 7).toNatClampNeg) (nI 0) S ∧ OA_compress_245 N (S.2.1 8 (nI 0).toNatClampNeg) (S.2.1 8 (nI 1).toNatClampNeg) (S.2.1 8 (nI 2).toNatClampNeg) (S.2.1 8 (nI 3).toNatClampNeg) (S.2.1 8 (nI 4).toNatClampNeg) (S.2.1 8 (nI 5).toNatClampNeg) (S.2.1 8 (nI 6).toNatClampNeg) (S.2.1 8 (nI 7).toNatClampNeg) (nI 0) S (L_compress_245 N N (S.2.1 8 (nI 0).toNatClampNeg) (S.2.1 8 (nI 1).toNatClampNeg) (S.2.1 8 (nI 2).toNatClampNeg) (S.2.1 8 (nI 3).toNatClampNeg) (S.2.1 8 (nI 4).toNatClampNeg) (S.2.1 8 (nI 5).toNatClampNeg) (S.2.1 8 (nI 6).toNatClampNeg) (S.2.1 8 (nI 7).toNatClampNeg) (nI 0) S))
set_option maxHeartbeats 4000000 in
theorem b_compress_178 {G : zG} {E : rE} {S : rS} {N : Nat} {Q : Option Value → rS → Prop} {X : rS → Prop} (hG : zOK G) (hR : ∀ S', X S' → Q none S') (ok : O_compress_178 N S) (hx : X (F_compress_178 N S)) : rX G E dX12_compress mX12_compress 178 [some (.ref E.1), none, none, none, none, none, none, none, none, none, none, none, none] [] S Q := by
  unfold O_compress_178 at ok
  unfold F_compress_178 at hx
  refine r_aload_n dX12_compress_178 rfl rfl ?_
  refine r_getA 8 fX12_33 (by decide) (by decide) dX12_compress_179 ?_
  refine r_iconst (v := nI 0) dX12_compress_182 (by decide) ?_
  refine r_iald (by decide) (by decide) dX12_compress_183 ok.1 ?_
  have ok := ok.2
  refine r_istore_2 dX12_compress_184 (by decide) rfl ?_
  refine r_aload_n dX12_compress_185 rfl rfl ?_
  refine r_getA 8 fX12_33 (by decide) (by decide) dX12_compress_186 ?_
  refine r_iconst (v := nI 1) dX12_compress_189 (by decide) ?_
  refine r_iald (by decide) (by decide) dX12_compress_190 ok.1 ?_
  have ok := ok.2
  refine r_istore_3 dX12_compress_191 (by decide) rfl ?_
  refine r_aload_n dX12_compress_192 rfl rfl ?_
  refine r_getA 8 fX12_33 (by decide) (by decide) dX12_compress_193 ?_
  refine r_iconst (v := nI 2) dX12_compress_196 (by decide) ?_
  refine r_iald (by decide) (by decide) dX12_compress_197 ok.1 ?_
  have ok := ok.2
  refine r_istore_4 dX12_compress_198 (by decide) rfl ?_
  refine r_aload_n dX12_compress_200 rfl rfl ?_
  refine r_getA 8 fX12_33 (by decide) (by decide) dX12_compress_201 ?_
  refine r_iconst (v := nI 3) dX12_compress_204 (by decide) ?_
  refine r_iald (by decide) (by decide) dX12_compress_205 ok.1 ?_
  have ok := ok.2
  refine r_istore_5 dX12_compress_206 (by decide) rfl ?_
  refine r_aload_n dX12_compress_208 rfl rfl ?_
  refine r_getA 8 fX12_33 (by decide) (by decide) dX12_compress_209 ?_
  refine r_iconst (v := nI 4) dX12_compress_212 (by decide) ?_
  refine r_iald (by decide) (by decide) dX12_compress_213 ok.1 ?_
  have ok := ok.2
  refine r_istore_6 dX12_compress_214 (by decide) rfl ?_
  refine r_aload_n dX12_compress_216 rfl rfl ?_
  refine r_getA 8 fX12_33 (by decide) (by decide) dX12_compress_217 ?_
  refine r_iconst (v := nI 5) dX12_compress_220 (by decide) ?_
  refine r_iald (by decide) (by decide) dX12_compress_221 ok.1 ?_
  have ok := ok.2
  refine r_istore_7 dX12_compress_222 (by decide) rfl ?_
  refine r_aload_n dX12_compress_224 rfl rfl ?_
  refine r_getA 8 fX12_33 (by decide) (by decide) dX12_compress_225 ?_
  refine r_bipush (v := nI 6) dX12_compress_228 (by decide) ?_
  refine r_iald (by decide) (by decide) dX12_compress_230 ok.1 ?_
  have ok := ok.2
  refine r_istore_8 dX12_compress_231 (by decide) rfl ?_
  refine r_aload_n dX12_compress_233 rfl rfl ?_
  refine r_getA 8 fX12_33 (by decide) (by decide) dX12_compress_234 ?_
  refine r_bipush (v := nI 7) dX12_compress_237 (by decide) ?_
  refine r_iald (by decide) (by decide) dX12_compress_239 ok.1 ?_
  have ok := ok.2
  refine r_istore_9 dX12_compress_240 (by decide) rfl ?_
  refine r_iconst (v := nI 0) dX12_compress_242 (by decide) ?_
  refine r_istore_10 dX12_compress_243 (by decide) rfl ?_
  exact rX.cutz (c_compress_245 hG hR ok hx) ⟨rfl, rfl, rfl, rfl, rfl, rfl, rfl, rfl, rfl, rfl, trivial⟩
def F_compress_171 (N : Nat) (rec : Int32 → rS → Nat × rS) (x2 : Int32) (s1 : Int32) (s2 : Int32) (S : rS) : Nat × rS := (rec (x2 + nI 1) (rsA S 9 s1.toNatClampNeg s2))
def O_compress_171 (N : Nat) (rok : Int32 → rS → Prop) (x2 : Int32) (s1 : Int32) (s2 : Int32) (S : rS) : Prop := (vp_in s1 64) ∧ rok (x2 + nI 1) (rsA S 9 s1.toNatClampNeg s2)
set_option maxHeartbeats 4000000 in
theorem b_compress_171 {G : zG} {E : rE} {S : rS} {N : Nat} {Q : Option Value → rS → Prop} {X : Nat × rS → Prop} (hG : zOK G) (hX0 : ∀ (S' : rS), X (0, S') → rX G E dX12_compress mX12_compress 178 [some (.ref E.1), none, none, none, none, none, none, none, none, none, none, none, none] [] S' Q) {rec : Int32 → rS → Nat × rS} {rok : Int32 → rS → Prop} (hrec : ∀ (x2 : Int32) (S : rS), rok x2 S → X (rec x2 S) → rX G E dX12_compress mX12_compress 81 [some (.ref E.1), none, some (.int x2), none, none, none, none, none, none, none, none, none, none] [] S Q) {x2 : Int32} {s1 : Int32} {s2 : Int32} (ok : O_compress_171 N rok x2 s1 s2 S) (hx : X (F_compress_171 N rec x2 s1 s2 S)) : rX G E dX12_compress mX12_compress 171 [some (.ref E.1), none, some (.int x2), none, none, none, none, none, none, none, none, none, none] [.int s2, .int s1, .ref (E.2.1 9)] S Q := by
  unfold O_compress_171 at ok
  unfold F_compress_171 at hx
  refine r_iast hG (by decide) (by decide) dX12_compress_171 ok.1 ?_
  have ok := ok.2
  refine r_iinc_2 (v := (x2 + nI 1)) dX12_compress_172 rfl (by first | rfl | (congr 1)) (by decide) rfl ?_
  refine r_goto (tgt := 81) dX12_compress_175 (by decide) ?_
  exact rX.cutz (hrec _ (rsA S 9 s1.toNatClampNeg s2) ok hx) ⟨rfl, rfl, trivial⟩
def F_compress_138 (N : Nat) (rec : Int32 → rS → Nat × rS) (x2 : Int32) (x4 : Int32) (s1 : Int32) (s2 : Int32) (s3 : Int32) (S : rS) : Nat × rS := (F_compress_171 N rec x2 s1 (((s2 + s3) + (S.2.1 9 (x2 - (nI 7)).toNatClampNeg)) + (((f_turn N S x4 (nI 17)) ^^^ (f_turn N S x4 (nI 19))) ^^^ ((Int32.toUInt32 x4 >>> (Int32.toUInt32 ((nI 10)) &&& Int32.toUInt32 31)).toInt32))) S)
def O_compress_138 (N : Nat) (rok : Int32 → rS → Prop) (x2 : Int32) (x4 : Int32) (s1 : Int32) (s2 : Int32) (s3 : Int32) (S : rS) : Prop := (vp_in (x2 - (nI 7)) 64) ∧ (o_turn N S x4 (nI 17)) ∧ (o_turn N S x4 (nI 19)) ∧ O_compress_171 N rok x2 s1 (((s2 + s3) + (S.2.1 9 (x2 - (nI 7)).toNatClampNeg)) + (((f_turn N S x4 (nI 17)) ^^^ (f_turn N S x4 (nI 19))) ^^^ ((Int32.toUInt32 x4 >>> (Int32.toUInt32 ((nI 10)) &&& Int32.toUInt32 31)).toInt32))) S
set_option maxHeartbeats 4000000 in
theorem b_compress_138 {G : zG} {E : rE} {S : rS} {N : Nat} {Q : Option Value → rS → Prop} {X : Nat × rS → Prop} (hG : zOK G) (hX0 : ∀ (S' : rS), X (0, S') → rX G E dX12_compress mX12_compress 178 [some (.ref E.1), none, none, none, none, none, none, none, none, none, none, none, none] [] S' Q) {rec : Int32 → rS → Nat × rS} {rok : Int32 → rS → Prop} (hrec : ∀ (x2 : Int32) (S : rS), rok x2 S → X (rec x2 S) → rX G E dX12_compress mX12_compress 81 [some (.ref E.1), none, some (.int x2), none, none, none, none, none, none, none, none, none, none] [] S Q) {x2 : Int32} {x4 : Int32} {s1 : Int32} {s2 : Int32} {s3 : Int32} (ok : O_compress_138 N rok x2 x4 s1 s2 s3 S) (hx : X (F_compress_138 N rec x2 x4 s1 s2 s3 S)) : rX G E dX12_compress mX12_compress 138 [some (.ref E.1), none, some (.int x2), none, some (.int x4), none, none, none, none, none, none, none, none] [.int s3, .int s2, .int s1, .ref (E.2.1 9)] S Q := by
  unfold O_compress_138 at ok
  unfold F_compress_138 at hx
  refine r_iadd dX12_compress_138 ?_
  refine r_aload_n dX12_compress_139 rfl rfl ?_
  refine r_getA 9 fX12_39 (by decide) (by decide) dX12_compress_140 ?_
  refine r_iload_n dX12_compress_143 rfl rfl ?_
  refine r_bipush (v := nI 7) dX12_compress_144 (by decide) ?_
  refine r_isub dX12_compress_146 ?_
  refine r_iald (by decide) (by decide) dX12_compress_147 ok.1 ?_
  have ok := ok.2
  refine r_iadd dX12_compress_148 ?_
  refine r_iload dX12_compress_149 rfl ?_
  refine r_bipush (v := nI 17) dX12_compress_151 (by decide) ?_
  refine r_S2i (y' := mX12_turn) dX12_compress_153 lX12_42 kX12_turn ⟨by decide, by decide⟩ (Nat.le_of_ble_eq_true rfl) (rc_X12_turn hG ok.1) (fun v_153 S_153 h_153 => ?_)
  obtain ⟨rfl, hS_153⟩ := h_153
  have hS_153 := hS_153.symm
  subst hS_153
  have ok := ok.2
  refine r_iload dX12_compress_156 rfl ?_
  refine r_bipush (v := nI 19) dX12_compress_158 (by decide) ?_
  refine r_S2i (y' := mX12_turn) dX12_compress_160 lX12_42 kX12_turn ⟨by decide, by decide⟩ (Nat.le_of_ble_eq_true rfl) (rc_X12_turn hG ok.1) (fun v_160 S_160 h_160 => ?_)
  obtain ⟨rfl, hS_160⟩ := h_160
  have hS_160 := hS_160.symm
  subst hS_160
  have ok := ok.2
  refine r_ixor dX12_compress_163 ?_
  refine r_iload dX12_compress_164 rfl ?_
  refine r_bipush (v := nI 10) dX12_compress_166 (by decide) ?_
  refine r_iushr dX12_compress_168 ?_
  refine r_ixor dX12_compress_169 ?_
  refine r_iadd dX12_compress_170 ?_
  exact rX.cutz (b_compress_171 hG hX0 hrec ok hx) ⟨rfl, rfl, trivial⟩
def B_compress_81 (N : Nat) (rec : Int32 → rS → Nat × rS) (x2 : Int32) (S : rS) : Nat × rS := (if (nI 64) ≤ x2 then (0, S) else (F_compress_138 N rec x2 (S.2.1 9 (x2 - (nI 2)).toNatClampNeg) x2 (S.2.1 9 (x2 - (nI 16)).toNatClampNeg) (((f_turn N S (S.2.1 9 (x2 - (nI 15)).toNatClampNeg) (nI 7)) ^^^ (f_turn N S (S.2.1 9 (x2 - (nI 15)).toNatClampNeg) (nI 18))) ^^^ ((Int32.toUInt32 (S.2.1 9 (x2 - (nI 15)).toNatClampNeg) >>> (Int32.toUInt32 ((nI 3)) &&& Int32.toUInt32 31)).toInt32)) S))
def OB_compress_81 (N : Nat) (rok : Int32 → rS → Prop) (x2 : Int32) (S : rS) : Prop := (((nI 64) ≤ x2 → True) ∧ (¬ (nI 64) ≤ x2 → (vp_in (x2 - (nI 15)) 64) ∧ (vp_in (x2 - (nI 2)) 64) ∧ (vp_in (x2 - (nI 16)) 64) ∧ (o_turn N S (S.2.1 9 (x2 - (nI 15)).toNatClampNeg) (nI 7)) ∧ (o_turn N S (S.2.1 9 (x2 - (nI 15)).toNatClampNeg) (nI 18)) ∧ O_compress_138 N rok x2 (S.2.1 9 (x2 - (nI 2)).toNatClampNeg) x2 (S.2.1 9 (x2 - (nI 16)).toNatClampNeg) (((f_turn N S (S.2.1 9 (x2 - (nI 15)).toNatClampNeg) (nI 7)) ^^^ (f_turn N S (S.2.1 9 (x2 - (nI 15)).toNatClampNeg) (nI 18))) ^^^ ((Int32.toUInt32 (S.2.1 9 (x2 - (nI 15)).toNatClampNeg) >>> (Int32.toUInt32 ((nI 3)) &&& Int32.toUInt32 31)).toInt32)) S))
set_option maxHeartbeats 4000000 in
theorem bb_compress_81 {G : zG} {E : rE} {S : rS} {N : Nat} {Q : Option Value → rS → Prop} {X : Nat × rS → Prop} (hG : zOK G) (hX0 : ∀ (S' : rS), X (0, S') → rX G E dX12_compress mX12_compress 178 [some (.ref E.1), none, none, none, none, none, none, none, none, none, none, none, none] [] S' Q) {rec : Int32 → rS → Nat × rS} {rok : Int32 → rS → Prop} (hrec : ∀ (x2 : Int32) (S : rS), rok x2 S → X (rec x2 S) → rX G E dX12_compress mX12_compress 81 [some (.ref E.1), none, some (.int x2), none, none, none, none, none, none, none, none, none, none] [] S Q) {x2 : Int32} (ok : OB_compress_81 N rok x2 S) (hx : X (B_compress_81 N rec x2 S)) : rX G E dX12_compress mX12_compress 81 [some (.ref E.1), none, some (.int x2), none, none, none, none, none, none, none, none, none, none] [] S Q := by
  unfold OB_compress_81 at ok
  unfold B_compress_81 at hx
  refine r_iload_n dX12_compress_81 rfl rfl ?_
  refine r_bipush (v := nI 64) dX12_compress_82 (by decide) ?_
  refine r_icmp_ge (tgt := 178) dX12_compress_84 (by decide) (fun c_84 => ?_) (fun c_84 => ?_)
  · have ok := ok.1 c_84
    have hx := xif_p c_84 hx
    exact rX.cutz (hX0 S hx) ⟨rfl, trivial⟩
  · have ok := ok.2 c_84
    have hx := xif_n c_84 hx
    refine r_aload_n dX12_compress_87 rfl rfl ?_
    refine r_getA 9 fX12_39 (by decide) (by decide) dX12_compress_88 ?_
    refine r_iload_n dX12_compress_91 rfl rfl ?_
    refine r_bipush (v := nI 15) dX12_compress_92 (by decide) ?_
    refine r_isub dX12_compress_94 ?_
    refine r_iald (by decide) (by decide) dX12_compress_95 ok.1 ?_
    have ok := ok.2
    refine r_istore_3 dX12_compress_96 (by decide) rfl ?_
    refine r_aload_n dX12_compress_97 rfl rfl ?_
    refine r_getA 9 fX12_39 (by decide) (by decide) dX12_compress_98 ?_
    refine r_iload_n dX12_compress_101 rfl rfl ?_
    refine r_iconst (v := nI 2) dX12_compress_102 (by decide) ?_
    refine r_isub dX12_compress_103 ?_
    refine r_iald (by decide) (by decide) dX12_compress_104 ok.1 ?_
    have ok := ok.2
    refine r_istore_4 dX12_compress_105 (by decide) rfl ?_
    refine r_aload_n dX12_compress_107 rfl rfl ?_
    refine r_getA 9 fX12_39 (by decide) (by decide) dX12_compress_108 ?_
    refine r_iload_n dX12_compress_111 rfl rfl ?_
    refine r_aload_n dX12_compress_112 rfl rfl ?_
    refine r_getA 9 fX12_39 (by decide) (by decide) dX12_compress_113 ?_
    refine r_iload_n dX12_compress_116 rfl rfl ?_
    refine r_bipush (v := nI 16) dX12_compress_117 (by decide) ?_
    refine r_isub dX12_compress_119 ?_
    refine r_iald (by decide) (by decide) dX12_compress_120 ok.1 ?_
    have ok := ok.2
    refine r_iload_n dX12_compress_121 rfl rfl ?_
    refine r_bipush (v := nI 7) dX12_compress_122 (by decide) ?_
    refine r_S2i (y' := mX12_turn) dX12_compress_124 lX12_42 kX12_turn ⟨by decide, by decide⟩ (Nat.le_of_ble_eq_true rfl) (rc_X12_turn hG ok.1) (fun v_124 S_124 h_124 => ?_)
    obtain ⟨rfl, hS_124⟩ := h_124
    have hS_124 := hS_124.symm
    subst hS_124
    have ok := ok.2
    refine r_iload_n dX12_compress_127 rfl rfl ?_
    refine r_bipush (v := nI 18) dX12_compress_128 (by decide) ?_
    refine r_S2i (y' := mX12_turn) dX12_compress_130 lX12_42 kX12_turn ⟨by decide, by decide⟩ (Nat.le_of_ble_eq_true rfl) (rc_X12_turn hG ok.1) (fun v_130 S_130 h_130 => ?_)
    obtain ⟨rfl, hS_130⟩ := h_130
    have hS_130 := hS_130.symm
    subst hS_130
    have ok := ok.2
    refine r_ixor dX12_compress_133 ?_
    refine r_iload_n dX12_compress_134 rfl rfl ?_
    refine r_iconst (v := nI 3) dX12_compress_135 (by decide) ?_
    refine r_iushr dX12_compress_136 ?_
    refine r_ixor dX12_compress_137 ?_
    exact rX.cutz (b_compress_138 hG hX0 hrec ok hx) ⟨rfl, rfl, rfl, trivial⟩
def L_compress_81 (N : Nat) : Nat → Int32 → rS → Nat × rS
  | 0, x2, S => (0, S)
  | n + 1, x2, S => B_compress_81 N (L_compress_81 N n) x2 S
def OL_compress_81 (N : Nat) : Nat → Int32 → rS → Prop
  | 0, _, _ => False
  | n + 1, x2, S => OB_compress_81 N (OL_compress_81 N n) x2 S
set_option maxHeartbeats 4000000 in
theorem l_compress_81 {G : zG} {E : rE} {N : Nat} {Q : Option Value → rS → Prop} {X : Nat × rS → Prop} (hG : zOK G) (hX0 : ∀ (S' : rS), X (0, S') → rX G E dX12_compress mX12_compress 178 [some (.ref E.1), none, none, none, none, none, none, none, none, none, none, none, none] [] S' Q) : ∀ (n : Nat) (x2 : Int32) (S : rS), OL_compress_81 N n x2 S → X (L_compress_81 N n x2 S) → rX G E dX12_compress mX12_compress 81 [some (.ref E.1), none, some (.int x2), none, none, none, none, none, none, none, none, none, none] [] S Q := by
  intro n
  induction n with
  | zero => intro x2 S ok; exact absurd ok id
  | succ n ih =>
    intro x2 S ok hx
    exact bb_compress_81 hG hX0 (rec := L_compress_81 N n) (rok := OL_compress_81 N n) (fun x2 S ok hx => ih x2 S ok hx) ok hx
def A_compress_81 (N : Nat) (x2 : Int32) (S : rS) (z : Nat × rS) : rS := (F_compress_178 N z.2)
def OA_compress_81 (N : Nat) (x2 : Int32) (S : rS) (z : Nat × rS) : Prop := O_compress_178 N z.2
set_option maxHeartbeats 4000000 in
theorem c_compress_81 {G : zG} {E : rE} {S : rS} {N : Nat} {Q : Option Value → rS → Prop} {X : rS → Prop} (hG : zOK G) (hR : ∀ S', X S' → Q none S') {x2 : Int32} (ok : OL_compress_81 N N x2 S ∧ OA_compress_81 N x2 S (L_compress_81 N N x2 S)) (hx : X (A_compress_81 N x2 S (L_compress_81 N N x2 S))) : rX G E dX12_compress mX12_compress 81 [some (.ref E.1), none, some (.int x2), none, none, none, none, none, none, none, none, none, none] [] S Q := by
  refine l_compress_81 hG ?_ N x2 S ok.1 (X := fun z => OA_compress_81 N x2 S z ∧ X (A_compress_81 N x2 S z)) ⟨ok.2, hx⟩
  · intro S' hz
    obtain ⟨ok, hx⟩ := hz
    unfold OA_compress_81 at ok
    unfold A_compress_81 at hx
    exact rX.cutz (b_compress_178 hG hR ok hx) ⟨rfl, trivial⟩
def F_compress_78 (N : Nat)  (S : rS) : rS := (A_compress_81 N (nI 16) S (L_compress_81 N N (nI 16) S))
def O_compress_78 (N : Nat)  (S : rS) : Prop := (OL_compress_81 N N (nI 16) S ∧ OA_compress_81 N (nI 16) S (L_compress_81 N N (nI 16) S))
set_option maxHeartbeats 4000000 in
theorem b_compress_78 {G : zG} {E : rE} {S : rS} {N : Nat} {Q : Option Value → rS → Prop} {X : rS → Prop} (hG : zOK G) (hR : ∀ S', X S' → Q none S') (ok : O_compress_78 N S) (hx : X (F_compress_78 N S)) : rX G E dX12_compress mX12_compress 78 [some (.ref E.1), none, none, none, none, none, none, none, none, none, none, none, none] [] S Q := by
  unfold O_compress_78 at ok
  unfold F_compress_78 at hx
  refine r_bipush (v := nI 16) dX12_compress_78 (by decide) ?_
  refine r_istore_2 dX12_compress_80 (by decide) rfl ?_
  exact rX.cutz (c_compress_81 hG hR ok hx) ⟨rfl, rfl, trivial⟩
def F_compress_58 (N : Nat) (rec : Int32 → Int32 → rS → Nat × rS) (x1 : Int32) (x2 : Int32) (s1 : Int32) (s2 : Int32) (S : rS) : Nat × rS := (rec x1 (x2 + nI 1) (rsA S 9 s1.toNatClampNeg (s2 ||| (S.2.1 6 ((x1 + ((nI 4) * x2)) + (nI 3)).toNatClampNeg))))
def O_compress_58 (N : Nat) (rok : Int32 → Int32 → rS → Prop) (x1 : Int32) (x2 : Int32) (s1 : Int32) (s2 : Int32) (S : rS) : Prop := (vp_in ((x1 + ((nI 4) * x2)) + (nI 3)) 1100) ∧ (vp_in s1 64) ∧ rok x1 (x2 + nI 1) (rsA S 9 s1.toNatClampNeg (s2 ||| (S.2.1 6 ((x1 + ((nI 4) * x2)) + (nI 3)).toNatClampNeg)))
set_option maxHeartbeats 4000000 in
theorem b_compress_58 {G : zG} {E : rE} {S : rS} {N : Nat} {Q : Option Value → rS → Prop} {X : Nat × rS → Prop} (hG : zOK G) (hX0 : ∀ (S' : rS), X (0, S') → rX G E dX12_compress mX12_compress 78 [some (.ref E.1), none, none, none, none, none, none, none, none, none, none, none, none] [] S' Q) {rec : Int32 → Int32 → rS → Nat × rS} {rok : Int32 → Int32 → rS → Prop} (hrec : ∀ (x1 : Int32) (x2 : Int32) (S : rS), rok x1 x2 S → X (rec x1 x2 S) → rX G E dX12_compress mX12_compress 2 [some (.ref E.1), some (.int x1), some (.int x2), none, none, none, none, none, none, none, none, none, none] [] S Q) {x1 : Int32} {x2 : Int32} {s1 : Int32} {s2 : Int32} (ok : O_compress_58 N rok x1 x2 s1 s2 S) (hx : X (F_compress_58 N rec x1 x2 s1 s2 S)) : rX G E dX12_compress mX12_compress 58 [some (.ref E.1), some (.int x1), some (.int x2), none, none, none, none, none, none, none, none, none, none] [.int s2, .int s1, .ref (E.2.1 9)] S Q := by
  unfold O_compress_58 at ok
  unfold F_compress_58 at hx
  refine r_aload_n dX12_compress_58 rfl rfl ?_
  refine r_getA 6 fX12_22 (by decide) (by decide) dX12_compress_59 ?_
  refine r_iload_n dX12_compress_62 rfl rfl ?_
  refine r_iconst (v := nI 4) dX12_compress_63 (by decide) ?_
  refine r_iload_n dX12_compress_64 rfl rfl ?_
  refine r_imul dX12_compress_65 ?_
  refine r_iadd dX12_compress_66 ?_
  refine r_iconst (v := nI 3) dX12_compress_67 (by decide) ?_
  refine r_iadd dX12_compress_68 ?_
  refine r_iald (by decide) (by decide) dX12_compress_69 ok.1 ?_
  have ok := ok.2
  refine r_ior dX12_compress_70 ?_
  refine r_iast hG (by decide) (by decide) dX12_compress_71 ok.1 ?_
  have ok := ok.2
  refine r_iinc_2 (v := (x2 + nI 1)) dX12_compress_72 rfl (by first | rfl | (congr 1)) (by decide) rfl ?_
  refine r_goto (tgt := 2) dX12_compress_75 (by decide) ?_
  exact rX.cutz (hrec _ _ (rsA S 9 s1.toNatClampNeg (s2 ||| (S.2.1 6 ((x1 + ((nI 4) * x2)) + (nI 3)).toNatClampNeg))) ok hx) ⟨rfl, rfl, rfl, trivial⟩
def B_compress_2 (N : Nat) (rec : Int32 → Int32 → rS → Nat × rS) (x1 : Int32) (x2 : Int32) (S : rS) : Nat × rS := (if (nI 16) ≤ x2 then (0, S) else (F_compress_58 N rec x1 x2 x2 ((((S.2.1 6 (x1 + ((nI 4) * x2)).toNatClampNeg) <<< ((nI 24) &&& 31)) ||| ((S.2.1 6 ((x1 + ((nI 4) * x2)) + (nI 1)).toNatClampNeg) <<< ((nI 16) &&& 31))) ||| ((S.2.1 6 ((x1 + ((nI 4) * x2)) + (nI 2)).toNatClampNeg) <<< ((nI 8) &&& 31))) S))
def OB_compress_2 (N : Nat) (rok : Int32 → Int32 → rS → Prop) (x1 : Int32) (x2 : Int32) (S : rS) : Prop := (((nI 16) ≤ x2 → True) ∧ (¬ (nI 16) ≤ x2 → (vp_in (x1 + ((nI 4) * x2)) 1100) ∧ (vp_in ((x1 + ((nI 4) * x2)) + (nI 1)) 1100) ∧ (vp_in ((x1 + ((nI 4) * x2)) + (nI 2)) 1100) ∧ O_compress_58 N rok x1 x2 x2 ((((S.2.1 6 (x1 + ((nI 4) * x2)).toNatClampNeg) <<< ((nI 24) &&& 31)) ||| ((S.2.1 6 ((x1 + ((nI 4) * x2)) + (nI 1)).toNatClampNeg) <<< ((nI 16) &&& 31))) ||| ((S.2.1 6 ((x1 + ((nI 4) * x2)) + (nI 2)).toNatClampNeg) <<< ((nI 8) &&& 31))) S))
set_option maxHeartbeats 4000000 in
theorem bb_compress_2 {G : zG} {E : rE} {S : rS} {N : Nat} {Q : Option Value → rS → Prop} {X : Nat × rS → Prop} (hG : zOK G) (hX0 : ∀ (S' : rS), X (0, S') → rX G E dX12_compress mX12_compress 78 [some (.ref E.1), none, none, none, none, none, none, none, none, none, none, none, none] [] S' Q) {rec : Int32 → Int32 → rS → Nat × rS} {rok : Int32 → Int32 → rS → Prop} (hrec : ∀ (x1 : Int32) (x2 : Int32) (S : rS), rok x1 x2 S → X (rec x1 x2 S) → rX G E dX12_compress mX12_compress 2 [some (.ref E.1), some (.int x1), some (.int x2), none, none, none, none, none, none, none, none, none, none] [] S Q) {x1 : Int32} {x2 : Int32} (ok : OB_compress_2 N rok x1 x2 S) (hx : X (B_compress_2 N rec x1 x2 S)) : rX G E dX12_compress mX12_compress 2 [some (.ref E.1), some (.int x1), some (.int x2), none, none, none, none, none, none, none, none, none, none] [] S Q := by
  unfold OB_compress_2 at ok
  unfold B_compress_2 at hx
  refine r_iload_n dX12_compress_2 rfl rfl ?_
  refine r_bipush (v := nI 16) dX12_compress_3 (by decide) ?_
  refine r_icmp_ge (tgt := 78) dX12_compress_5 (by decide) (fun c_5 => ?_) (fun c_5 => ?_)
  · have ok := ok.1 c_5
    have hx := xif_p c_5 hx
    exact rX.cutz (hX0 S hx) ⟨rfl, trivial⟩
  · have ok := ok.2 c_5
    have hx := xif_n c_5 hx
    refine r_aload_n dX12_compress_8 rfl rfl ?_
    refine r_getA 9 fX12_39 (by decide) (by decide) dX12_compress_9 ?_
    refine r_iload_n dX12_compress_12 rfl rfl ?_
    refine r_aload_n dX12_compress_13 rfl rfl ?_
    refine r_getA 6 fX12_22 (by decide) (by decide) dX12_compress_14 ?_
    refine r_iload_n dX12_compress_17 rfl rfl ?_
    refine r_iconst (v := nI 4) dX12_compress_18 (by decide) ?_
    refine r_iload_n dX12_compress_19 rfl rfl ?_
    refine r_imul dX12_compress_20 ?_
    refine r_iadd dX12_compress_21 ?_
    refine r_iald (by decide) (by decide) dX12_compress_22 ok.1 ?_
    have ok := ok.2
    refine r_bipush (v := nI 24) dX12_compress_23 (by decide) ?_
    refine r_ishl dX12_compress_25 ?_
    refine r_aload_n dX12_compress_26 rfl rfl ?_
    refine r_getA 6 fX12_22 (by decide) (by decide) dX12_compress_27 ?_
    refine r_iload_n dX12_compress_30 rfl rfl ?_
    refine r_iconst (v := nI 4) dX12_compress_31 (by decide) ?_
    refine r_iload_n dX12_compress_32 rfl rfl ?_
    refine r_imul dX12_compress_33 ?_
    refine r_iadd dX12_compress_34 ?_
    refine r_iconst (v := nI 1) dX12_compress_35 (by decide) ?_
    refine r_iadd dX12_compress_36 ?_
    refine r_iald (by decide) (by decide) dX12_compress_37 ok.1 ?_
    have ok := ok.2
    refine r_bipush (v := nI 16) dX12_compress_38 (by decide) ?_
    refine r_ishl dX12_compress_40 ?_
    refine r_ior dX12_compress_41 ?_
    refine r_aload_n dX12_compress_42 rfl rfl ?_
    refine r_getA 6 fX12_22 (by decide) (by decide) dX12_compress_43 ?_
    refine r_iload_n dX12_compress_46 rfl rfl ?_
    refine r_iconst (v := nI 4) dX12_compress_47 (by decide) ?_
    refine r_iload_n dX12_compress_48 rfl rfl ?_
    refine r_imul dX12_compress_49 ?_
    refine r_iadd dX12_compress_50 ?_
    refine r_iconst (v := nI 2) dX12_compress_51 (by decide) ?_
    refine r_iadd dX12_compress_52 ?_
    refine r_iald (by decide) (by decide) dX12_compress_53 ok.1 ?_
    have ok := ok.2
    refine r_bipush (v := nI 8) dX12_compress_54 (by decide) ?_
    refine r_ishl dX12_compress_56 ?_
    refine r_ior dX12_compress_57 ?_
    exact rX.cutz (b_compress_58 hG hX0 hrec ok hx) ⟨rfl, rfl, rfl, trivial⟩
def L_compress_2 (N : Nat) : Nat → Int32 → Int32 → rS → Nat × rS
  | 0, x1, x2, S => (0, S)
  | n + 1, x1, x2, S => B_compress_2 N (L_compress_2 N n) x1 x2 S
def OL_compress_2 (N : Nat) : Nat → Int32 → Int32 → rS → Prop
  | 0, _, _, _ => False
  | n + 1, x1, x2, S => OB_compress_2 N (OL_compress_2 N n) x1 x2 S
set_option maxHeartbeats 4000000 in
theorem l_compress_2 {G : zG} {E : rE} {N : Nat} {Q : Option Value → rS → Prop} {X : Nat × rS → Prop} (hG : zOK G) (hX0 : ∀ (S' : rS), X (0, S') → rX G E dX12_compress mX12_compress 78 [some (.ref E.1), none, none, none, none, none, none, none, none, none, none, none, none] [] S' Q) : ∀ (n : Nat) (x1 : Int32) (x2 : Int32) (S : rS), OL_compress_2 N n x1 x2 S → X (L_compress_2 N n x1 x2 S) → rX G E dX12_compress mX12_compress 2 [some (.ref E.1), some (.int x1), some (.int x2), none, none, none, none, none, none, none, none, none, none] [] S Q := by
  intro n
  induction n with
  | zero => intro x1 x2 S ok; exact absurd ok id
  | succ n ih =>
    intro x1 x2 S ok hx
    exact bb_compress_2 hG hX0 (rec := L_compress_2 N n) (rok := OL_compress_2 N n) (fun x1 x2 S ok hx => ih x1 x2 S ok hx) ok hx
def A_compress_2 (N : Nat) (x1 : Int32) (x2 : Int32) (S : rS) (z : Nat × rS) : rS := (F_compress_78 N z.2)
def OA_compress_2 (N : Nat) (x1 : Int32) (x2 : Int32) (S : rS) (z : Nat × rS) : Prop := O_compress_78 N z.2
set_option maxHeartbeats 4000000 in
theorem c_compress_2 {G : zG} {E : rE} {S : rS} {N : Nat} {Q : Option Value → rS → Prop} {X : rS → Prop} (hG : zOK G) (hR : ∀ S', X S' → Q none S') {x1 : Int32} {x2 : Int32} (ok : OL_compress_2 N N x1 x2 S ∧ OA_compress_2 N x1 x2 S (L_compress_2 N N x1 x2 S)) (hx : X (A_compress_2 N x1 x2 S (L_compress_2 N N x1 x2 S))) : rX G E dX12_compress mX12_compress 2 [some (.ref E.1), some (.int x1), some (.int x2), none, none, none, none, none, none, none, none, none, none] [] S Q := by
  refine l_compress_2 hG ?_ N x1 x2 S ok.1 (X := fun z => OA_compress_2 N x1 x2 S z ∧ X (A_compress_2 N x1 x2 S z)) ⟨ok.2, hx⟩
  · intro S' hz
    obtain ⟨ok, hx⟩ := hz
    unfold OA_compress_2 at ok
    unfold A_compress_2 at hx
    exact rX.cutz (b_compress_78 hG hR ok hx) ⟨rfl, trivial⟩
def F_compress_0 (N : Nat) (x1 : Int32) (S : rS) : rS := (A_compress_2 N x1 (nI 0) S (L_compress_2 N N x1 (nI 0) S))
def O_compress_0 (N : Nat) (x1 : Int32) (S : rS) : Prop := (OL_compress_2 N N x1 (nI 0) S ∧ OA_compress_2 N x1 (nI 0) S (L_compress_2 N N x1 (nI 0) S))
set_option maxHeartbeats 4000000 in
theorem b_compress_0 {G : zG} {E : rE} {S : rS} {N : Nat} {Q : Option Value → rS → Prop} {X : rS → Prop} (hG : zOK G) (hR : ∀ S', X S' → Q none S') {x1 : Int32} (ok : O_compress_0 N x1 S) (hx : X (F_compress_0 N x1 S)) : rX G E dX12_compress mX12_compress 0 [some (.ref E.1), some (.int x1), none, none, none, none, none, none, none, none, none, none, none] [] S Q := by
  unfold O_compress_0 at ok
  unfold F_compress_0 at hx
  refine r_iconst (v := nI 0) dX12_compress_0 (by decide) ?_
  refine r_istore_2 dX12_compress_1 (by decide) rfl ?_
  exact rX.cutz (c_compress_2 hG hR ok hx) ⟨rfl, rfl, rfl, trivial⟩
def f_compress (N : Nat) (S : rS) (x1 : Int32) : rS := F_compress_0 N x1 S
def o_compress (N : Nat) (S : rS) (x1 : Int32) : Prop := O_compress_0 N x1 S
set_option maxHeartbeats 4000000 in
theorem rc_X12_compress {G : zG} {E : rE} {S : rS} {N : Nat} (hG : zOK G) {x1 : Int32} (ok : o_compress N S x1) : rCv G E dX12_compress mX12_compress [.ref E.1, .int x1] S (fun S' => S' = f_compress N S x1) := by
  refine rC.ofX rfl (Nat.le_of_ble_eq_true rfl) ?_
  show rX G E dX12_compress mX12_compress 0 [some (.ref E.1), some (.int x1), none, none, none, none, none, none, none, none, none, none, none] [] S _
  exact rX.cutz (b_compress_0 (X := fun F => F = f_compress N S x1) hG (fun S' h => ⟨rfl, h⟩) ok rfl) ⟨rfl, rfl, trivial⟩
/-! digest -/
def F_digest_122 (N : Nat)  (S : rS) : rS := S
def O_digest_122 (N : Nat)  (S : rS) : Prop := True
set_option maxHeartbeats 4000000 in
theorem b_digest_122 {G : zG} {E : rE} {S : rS} {N : Nat} {Q : Option Value → rS → Prop} {X : rS → Prop} (hG : zOK G) (hR : ∀ S', X S' → Q none S') (ok : O_digest_122 N S) (hx : X (F_digest_122 N S)) : rX G E dX12_digest mX12_digest 122 [none, none, none] [] S Q := by
  unfold O_digest_122 at ok
  unfold F_digest_122 at hx
  exact r_return rfl dX12_digest_122 (hR _ hx)
def F_digest_116 (N : Nat) (rec : Int32 → rS → Nat × rS) (x2 : Int32) (S : rS) : Nat × rS := (rec (x2 + nI 64) S)
def O_digest_116 (N : Nat) (rok : Int32 → rS → Prop) (x2 : Int32) (S : rS) : Prop := rok (x2 + nI 64) S
set_option maxHeartbeats 4000000 in
theorem b_digest_116 {G : zG} {E : rE} {S : rS} {N : Nat} {Q : Option Value → rS → Prop} {X : Nat × rS → Prop} (hG : zOK G) (hX0 : ∀ (S' : rS), X (0, S') → rX G E dX12_digest mX12_digest 122 [none, none, none] [] S' Q) {rec : Int32 → rS → Nat × rS} {rok : Int32 → rS → Prop} (hrec : ∀ (x2 : Int32) (S : rS), rok x2 S → X (rec x2 S) → rX G E dX12_digest mX12_digest 103 [some (.ref E.1), none, some (.int x2)] [] S Q) {x2 : Int32} (ok : O_digest_116 N rok x2 S) (hx : X (F_digest_116 N rec x2 S)) : rX G E dX12_digest mX12_digest 116 [some (.ref E.1), none, some (.int x2)] [] S Q := by
  unfold O_digest_116 at ok
  unfold F_digest_116 at hx
  refine r_iinc_2 (v := (x2 + nI 64)) dX12_digest_116 rfl (by first | rfl | (congr 1)) (by decide) rfl ?_
  refine r_goto (tgt := 103) dX12_digest_119 (by decide) ?_
  exact rX.cutz (hrec _ S ok hx) ⟨rfl, rfl, trivial⟩
def B_digest_103 (N : Nat) (rec : Int32 → rS → Nat × rS) (x2 : Int32) (S : rS) : Nat × rS := (if (S.1 7) ≤ x2 then (0, S) else (F_digest_116 N rec x2 (f_compress N S x2)))
def OB_digest_103 (N : Nat) (rok : Int32 → rS → Prop) (x2 : Int32) (S : rS) : Prop := (((S.1 7) ≤ x2 → True) ∧ (¬ (S.1 7) ≤ x2 → (o_compress N S x2) ∧ O_digest_116 N rok x2 (f_compress N S x2)))
set_option maxHeartbeats 4000000 in
theorem bb_digest_103 {G : zG} {E : rE} {S : rS} {N : Nat} {Q : Option Value → rS → Prop} {X : Nat × rS → Prop} (hG : zOK G) (hX0 : ∀ (S' : rS), X (0, S') → rX G E dX12_digest mX12_digest 122 [none, none, none] [] S' Q) {rec : Int32 → rS → Nat × rS} {rok : Int32 → rS → Prop} (hrec : ∀ (x2 : Int32) (S : rS), rok x2 S → X (rec x2 S) → rX G E dX12_digest mX12_digest 103 [some (.ref E.1), none, some (.int x2)] [] S Q) {x2 : Int32} (ok : OB_digest_103 N rok x2 S) (hx : X (B_digest_103 N rec x2 S)) : rX G E dX12_digest mX12_digest 103 [some (.ref E.1), none, some (.int x2)] [] S Q := by
  unfold OB_digest_103 at ok
  unfold B_digest_103 at hx
  refine r_iload_n dX12_digest_103 rfl rfl ?_
  refine r_aload_n dX12_digest_104 rfl rfl ?_
  refine r_getI 7 fX12_25 (by decide) (by decide) dX12_digest_105 ?_
  refine r_icmp_ge (tgt := 122) dX12_digest_108 (by decide) (fun c_108 => ?_) (fun c_108 => ?_)
  · have ok := ok.1 c_108
    have hx := xif_p c_108 hx
    exact rX.cutz (hX0 S hx) trivial
  · have ok := ok.2 c_108
    have hx := xif_n c_108 hx
    refine r_aload_n dX12_digest_111 rfl rfl ?_
    refine r_iload_n dX12_digest_112 rfl rfl ?_
    refine r_V1v (y' := mX12_compress) dX12_digest_113 lX12_36 kX12_compress ⟨by decide, by decide⟩ rfl (Nat.le_of_ble_eq_true rfl) (rc_X12_compress hG ok.1) (fun S_113 h_113 => ?_)
    subst h_113
    have ok := ok.2
    exact rX.cutz (b_digest_116 hG hX0 hrec ok hx) ⟨rfl, rfl, trivial⟩
def L_digest_103 (N : Nat) : Nat → Int32 → rS → Nat × rS
  | 0, x2, S => (0, S)
  | n + 1, x2, S => B_digest_103 N (L_digest_103 N n) x2 S
def OL_digest_103 (N : Nat) : Nat → Int32 → rS → Prop
  | 0, _, _ => False
  | n + 1, x2, S => OB_digest_103 N (OL_digest_103 N n) x2 S
set_option maxHeartbeats 4000000 in
theorem l_digest_103 {G : zG} {E : rE} {N : Nat} {Q : Option Value → rS → Prop} {X : Nat × rS → Prop} (hG : zOK G) (hX0 : ∀ (S' : rS), X (0, S') → rX G E dX12_digest mX12_digest 122 [none, none, none] [] S' Q) : ∀ (n : Nat) (x2 : Int32) (S : rS), OL_digest_103 N n x2 S → X (L_digest_103 N n x2 S) → rX G E dX12_digest mX12_digest 103 [some (.ref E.1), none, some (.int x2)] [] S Q := by
  intro n
  induction n with
  | zero => intro x2 S ok; exact absurd ok id
  | succ n ih =>
    intro x2 S ok hx
    exact bb_digest_103 hG hX0 (rec := L_digest_103 N n) (rok := OL_digest_103 N n) (fun x2 S ok hx => ih x2 S ok hx) ok hx
def A_digest_103 (N : Nat) (x2 : Int32) (S : rS) (z : Nat × rS) : rS := (F_digest_122 N z.2)
def OA_digest_103 (N : Nat) (x2 : Int32) (S : rS) (z : Nat × rS) : Prop := O_digest_122 N z.2
set_option maxHeartbeats 4000000 in
theorem c_digest_103 {G : zG} {E : rE} {S : rS} {N : Nat} {Q : Option Value → rS → Prop} {X : rS → Prop} (hG : zOK G) (hR : ∀ S', X S' → Q none S') {x2 : Int32} (ok : OL_digest_103 N N x2 S ∧ OA_digest_103 N x2 S (L_digest_103 N N x2 S)) (hx : X (A_digest_103 N x2 S (L_digest_103 N N x2 S))) : rX G E dX12_digest mX12_digest 103 [some (.ref E.1), none, some (.int x2)] [] S Q := by
  refine l_digest_103 hG ?_ N x2 S ok.1 (X := fun z => OA_digest_103 N x2 S z ∧ X (A_digest_103 N x2 S z)) ⟨ok.2, hx⟩
  · intro S' hz
    obtain ⟨ok, hx⟩ := hz
    unfold OA_digest_103 at ok
    unfold A_digest_103 at hx
    exact rX.cutz (b_digest_122 hG hR ok hx) trivial
def F_digest_101 (N : Nat)  (S : rS) : rS := (A_digest_103 N (nI 0) S (L_digest_103 N N (nI 0) S))
def O_digest_101 (N : Nat)  (S : rS) : Prop := (OL_digest_103 N N (nI 0) S ∧ OA_digest_103 N (nI 0) S (L_digest_103 N N (nI 0) S))
set_option maxHeartbeats 4000000 in
theorem b_digest_101 {G : zG} {E : rE} {S : rS} {N : Nat} {Q : Option Value → rS → Prop} {X : rS → Prop} (hG : zOK G) (hR : ∀ S', X S' → Q none S') (ok : O_digest_101 N S) (hx : X (F_digest_101 N S)) : rX G E dX12_digest mX12_digest 101 [some (.ref E.1), none, none] [] S Q := by
  unfold O_digest_101 at ok
  unfold F_digest_101 at hx
  refine r_iconst (v := nI 0) dX12_digest_101 (by decide) ?_
  refine r_istore_2 dX12_digest_102 (by decide) rfl ?_
  exact rX.cutz (c_digest_103 hG hR ok hx) ⟨rfl, rfl, trivial⟩
def B_digest_77 (N : Nat) (rec : Int32 → rS → Nat × rS) (x2 : Int32) (S : rS) : Nat × rS := (if (nI 8) ≤ x2 then (0, S) else (rec (x2 + nI 1) (rsA S 8 x2.toNatClampNeg (S.2.1 11 x2.toNatClampNeg))))
def OB_digest_77 (N : Nat) (rok : Int32 → rS → Prop) (x2 : Int32) (S : rS) : Prop := (((nI 8) ≤ x2 → True) ∧ (¬ (nI 8) ≤ x2 → (vp_in x2 8) ∧ (vp_in x2 8) ∧ rok (x2 + nI 1) (rsA S 8 x2.toNatClampNeg (S.2.1 11 x2.toNatClampNeg))))
set_option maxHeartbeats 4000000 in
theorem bb_digest_77 {G : zG} {E : rE} {S : rS} {N : Nat} {Q : Option Value → rS → Prop} {X : Nat × rS → Prop} (hG : zOK G) (hX0 : ∀ (S' : rS), X (0, S') → rX G E dX12_digest mX12_digest 101 [some (.ref E.1), none, none] [] S' Q) {rec : Int32 → rS → Nat × rS} {rok : Int32 → rS → Prop} (hrec : ∀ (x2 : Int32) (S : rS), rok x2 S → X (rec x2 S) → rX G E dX12_digest mX12_digest 77 [some (.ref E.1), none, some (.int x2)] [] S Q) {x2 : Int32} (ok : OB_digest_77 N rok x2 S) (hx : X (B_digest_77 N rec x2 S)) : rX G E dX12_digest mX12_digest 77 [some (.ref E.1), none, some (.int x2)] [] S Q := by
  unfold OB_digest_77 at ok
  unfold B_digest_77 at hx
  refine r_iload_n dX12_digest_77 rfl rfl ?_
  refine r_bipush (v := nI 8) dX12_digest_78 (by decide) ?_
  refine r_icmp_ge (tgt := 101) dX12_digest_80 (by decide) (fun c_80 => ?_) (fun c_80 => ?_)
  · have ok := ok.1 c_80
    have hx := xif_p c_80 hx
    exact rX.cutz (hX0 S hx) ⟨rfl, trivial⟩
  · have ok := ok.2 c_80
    have hx := xif_n c_80 hx
    refine r_aload_n dX12_digest_83 rfl rfl ?_
    refine r_getA 8 fX12_33 (by decide) (by decide) dX12_digest_84 ?_
    refine r_iload_n dX12_digest_87 rfl rfl ?_
    refine r_aload_n dX12_digest_88 rfl rfl ?_
    refine r_getA 11 fX12_1 (by decide) (by decide) dX12_digest_89 ?_
    refine r_iload_n dX12_digest_92 rfl rfl ?_
    refine r_iald (by decide) (by decide) dX12_digest_93 ok.1 ?_
    have ok := ok.2
    refine r_iast hG (by decide) (by decide) dX12_digest_94 ok.1 ?_
    have ok := ok.2
    refine r_iinc_2 (v := (x2 + nI 1)) dX12_digest_95 rfl (by first | rfl | (congr 1)) (by decide) rfl ?_
    refine r_goto (tgt := 77) dX12_digest_98 (by decide) ?_
    exact rX.cutz (hrec _ (rsA S 8 x2.toNatClampNeg (S.2.1 11 x2.toNatClampNeg)) ok hx) ⟨rfl, rfl, trivial⟩
def L_digest_77 (N : Nat) : Nat → Int32 → rS → Nat × rS
  | 0, x2, S => (0, S)
  | n + 1, x2, S => B_digest_77 N (L_digest_77 N n) x2 S
def OL_digest_77 (N : Nat) : Nat → Int32 → rS → Prop
  | 0, _, _ => False
  | n + 1, x2, S => OB_digest_77 N (OL_digest_77 N n) x2 S
set_option maxHeartbeats 4000000 in
theorem l_digest_77 {G : zG} {E : rE} {N : Nat} {Q : Option Value → rS → Prop} {X : Nat × rS → Prop} (hG : zOK G) (hX0 : ∀ (S' : rS), X (0, S') → rX G E dX12_digest mX12_digest 101 [some (.ref E.1), none, none] [] S' Q) : ∀ (n : Nat) (x2 : Int32) (S : rS), OL_digest_77 N n x2 S → X (L_digest_77 N n x2 S) → rX G E dX12_digest mX12_digest 77 [some (.ref E.1), none, some (.int x2)] [] S Q := by
  intro n
  induction n with
  | zero => intro x2 S ok; exact absurd ok id
  | succ n ih =>
    intro x2 S ok hx
    exact bb_digest_77 hG hX0 (rec := L_digest_77 N n) (rok := OL_digest_77 N n) (fun x2 S ok hx => ih x2 S ok hx) ok hx
def A_digest_77 (N : Nat) (x2 : Int32) (S : rS) (z : Nat × rS) : rS := (F_digest_101 N z.2)
def OA_digest_77 (N : Nat) (x2 : Int32) (S : rS) (z : Nat × rS) : Prop := O_digest_101 N z.2
set_option maxHeartbeats 4000000 in
theorem c_digest_77 {G : zG} {E : rE} {S : rS} {N : Nat} {Q : Option Value → rS → Prop} {X : rS → Prop} (hG : zOK G) (hR : ∀ S', X S' → Q none S') {x2 : Int32} (ok : OL_digest_77 N N x2 S ∧ OA_digest_77 N x2 S (L_digest_77 N N x2 S)) (hx : X (A_digest_77 N x2 S (L_digest_77 N N x2 S))) : rX G E dX12_digest mX12_digest 77 [some (.ref E.1), none, some (.int x2)] [] S Q := by
  refine l_digest_77 hG ?_ N x2 S ok.1 (X := fun z => OA_digest_77 N x2 S z ∧ X (A_digest_77 N x2 S z)) ⟨ok.2, hx⟩
  · intro S' hz
    obtain ⟨ok, hx⟩ := hz
    unfold OA_digest_77 at ok
    unfold A_digest_77 at hx
    exact rX.cutz (b_digest_101 hG hR ok hx) ⟨rfl, trivial⟩
def F_digest_75 (N : Nat)  (S : rS) : rS := (A_digest_77 N (nI 0) S (L_digest_77 N N (nI 0) S))
def O_digest_75 (N : Nat)  (S : rS) : Prop := (OL_digest_77 N N (nI 0) S ∧ OA_digest_77 N (nI 0) S (L_digest_77 N N (nI 0) S))
set_option maxHeartbeats 4000000 in
theorem b_digest_75 {G : zG} {E : rE} {S : rS} {N : Nat} {Q : Option Value → rS → Prop} {X : rS → Prop} (hG : zOK G) (hR : ∀ S', X S' → Q none S') (ok : O_digest_75 N S) (hx : X (F_digest_75 N S)) : rX G E dX12_digest mX12_digest 75 [some (.ref E.1), none, none] [] S Q := by
  unfold O_digest_75 at ok
  unfold F_digest_75 at hx
  refine r_iconst (v := nI 0) dX12_digest_75 (by decide) ?_
  refine r_istore_2 dX12_digest_76 (by decide) rfl ?_
  exact rX.cutz (c_digest_77 hG hR ok hx) ⟨rfl, rfl, trivial⟩
def F_digest_69 (N : Nat) (rec : Int32 → Int32 → rS → Nat × rS) (x1 : Int32) (x2 : Int32) (S : rS) : Nat × rS := (rec x1 (x2 + (-1)) S)
def O_digest_69 (N : Nat) (rok : Int32 → Int32 → rS → Prop) (x1 : Int32) (x2 : Int32) (S : rS) : Prop := rok x1 (x2 + (-1)) S
set_option maxHeartbeats 4000000 in
theorem b_digest_69 {G : zG} {E : rE} {S : rS} {N : Nat} {Q : Option Value → rS → Prop} {X : Nat × rS → Prop} (hG : zOK G) (hX0 : ∀ (S' : rS), X (0, S') → rX G E dX12_digest mX12_digest 75 [some (.ref E.1), none, none] [] S' Q) {rec : Int32 → Int32 → rS → Nat × rS} {rok : Int32 → Int32 → rS → Prop} (hrec : ∀ (x1 : Int32) (x2 : Int32) (S : rS), rok x1 x2 S → X (rec x1 x2 S) → rX G E dX12_digest mX12_digest 52 [some (.ref E.1), some (.int x1), some (.int x2)] [] S Q) {x1 : Int32} {x2 : Int32} (ok : O_digest_69 N rok x1 x2 S) (hx : X (F_digest_69 N rec x1 x2 S)) : rX G E dX12_digest mX12_digest 69 [some (.ref E.1), some (.int x1), some (.int x2)] [] S Q := by
  unfold O_digest_69 at ok
  unfold F_digest_69 at hx
  refine r_iinc_2 (v := (x2 + (-1))) dX12_digest_69 rfl (by first | rfl | (congr 1)) (by decide) rfl ?_
  refine r_goto (tgt := 52) dX12_digest_72 (by decide) ?_
  exact rX.cutz (hrec _ _ S ok hx) ⟨rfl, rfl, rfl, trivial⟩
def B_digest_52 (N : Nat) (rec : Int32 → Int32 → rS → Nat × rS) (x1 : Int32) (x2 : Int32) (S : rS) : Nat × rS := (if x2 < 0 then (0, S) else (F_digest_69 N rec x1 x2 (f_hashByte N S ((Int32.toUInt32 ((nI 8) * x1) >>> (Int32.toUInt32 (((nI 8) * x2)) &&& Int32.toUInt32 31)).toInt32))))
def OB_digest_52 (N : Nat) (rok : Int32 → Int32 → rS → Prop) (x1 : Int32) (x2 : Int32) (S : rS) : Prop := ((x2 < 0 → True) ∧ (¬ x2 < 0 → (o_hashByte N S ((Int32.toUInt32 ((nI 8) * x1) >>> (Int32.toUInt32 (((nI 8) * x2)) &&& Int32.toUInt32 31)).toInt32)) ∧ O_digest_69 N rok x1 x2 (f_hashByte N S ((Int32.toUInt32 ((nI 8) * x1) >>> (Int32.toUInt32 (((nI 8) * x2)) &&& Int32.toUInt32 31)).toInt32))))
set_option maxHeartbeats 4000000 in
theorem bb_digest_52 {G : zG} {E : rE} {S : rS} {N : Nat} {Q : Option Value → rS → Prop} {X : Nat × rS → Prop} (hG : zOK G) (hX0 : ∀ (S' : rS), X (0, S') → rX G E dX12_digest mX12_digest 75 [some (.ref E.1), none, none] [] S' Q) {rec : Int32 → Int32 → rS → Nat × rS} {rok : Int32 → Int32 → rS → Prop} (hrec : ∀ (x1 : Int32) (x2 : Int32) (S : rS), rok x1 x2 S → X (rec x1 x2 S) → rX G E dX12_digest mX12_digest 52 [some (.ref E.1), some (.int x1), some (.int x2)] [] S Q) {x1 : Int32} {x2 : Int32} (ok : OB_digest_52 N rok x1 x2 S) (hx : X (B_digest_52 N rec x1 x2 S)) : rX G E dX12_digest mX12_digest 52 [some (.ref E.1), some (.int x1), some (.int x2)] [] S Q := by
  unfold OB_digest_52 at ok
  unfold B_digest_52 at hx
  refine r_iload_n dX12_digest_52 rfl rfl ?_
  refine r_if_lt (tgt := 75) dX12_digest_53 (by decide) (fun c_53 => ?_) (fun c_53 => ?_)
  · have ok := ok.1 c_53
    have hx := xif_p c_53 hx
    exact rX.cutz (hX0 S hx) ⟨rfl, trivial⟩
  · have ok := ok.2 c_53
    have hx := xif_n c_53 hx
    refine r_aload_n dX12_digest_56 rfl rfl ?_
    refine r_bipush (v := nI 8) dX12_digest_57 (by decide) ?_
    refine r_iload_n dX12_digest_59 rfl rfl ?_
    refine r_imul dX12_digest_60 ?_
    refine r_bipush (v := nI 8) dX12_digest_61 (by decide) ?_
    refine r_iload_n dX12_digest_63 rfl rfl ?_
    refine r_imul dX12_digest_64 ?_
    refine r_iushr dX12_digest_65 ?_
    refine r_V1v (y' := mX12_hashByte) dX12_digest_66 lX12_29 kX12_hashByte ⟨by decide, by decide⟩ rfl (Nat.le_of_ble_eq_true rfl) (rc_X12_hashByte hG ok.1) (fun S_66 h_66 => ?_)
    subst h_66
    have ok := ok.2
    exact rX.cutz (b_digest_69 hG hX0 hrec ok hx) ⟨rfl, rfl, rfl, trivial⟩
def L_digest_52 (N : Nat) : Nat → Int32 → Int32 → rS → Nat × rS
  | 0, x1, x2, S => (0, S)
  | n + 1, x1, x2, S => B_digest_52 N (L_digest_52 N n) x1 x2 S
def OL_digest_52 (N : Nat) : Nat → Int32 → Int32 → rS → Prop
  | 0, _, _, _ => False
  | n + 1, x1, x2, S => OB_digest_52 N (OL_digest_52 N n) x1 x2 S
set_option maxHeartbeats 4000000 in
theorem l_digest_52 {G : zG} {E : rE} {N : Nat} {Q : Option Value → rS → Prop} {X : Nat × rS → Prop} (hG : zOK G) (hX0 : ∀ (S' : rS), X (0, S') → rX G E dX12_digest mX12_digest 75 [some (.ref E.1), none, none] [] S' Q) : ∀ (n : Nat) (x1 : Int32) (x2 : Int32) (S : rS), OL_digest_52 N n x1 x2 S → X (L_digest_52 N n x1 x2 S) → rX G E dX12_digest mX12_digest 52 [some (.ref E.1), some (.int x1), some (.int x2)] [] S Q := by
  intro n
  induction n with
  | zero => intro x1 x2 S ok; exact absurd ok id
  | succ n ih =>
    intro x1 x2 S ok hx
    exact bb_digest_52 hG hX0 (rec := L_digest_52 N n) (rok := OL_digest_52 N n) (fun x1 x2 S ok hx => ih x1 x2 S ok hx) ok hx
def A_digest_52 (N : Nat) (x1 : Int32) (x2 : Int32) (S : rS) (z : Nat × rS) : rS := (F_digest_75 N z.2)
def OA_digest_52 (N : Nat) (x1 : Int32) (x2 : Int32) (S : rS) (z : Nat × rS) : Prop := O_digest_75 N z.2
set_option maxHeartbeats 4000000 in
theorem c_digest_52 {G : zG} {E : rE} {S : rS} {N : Nat} {Q : Option Value → rS → Prop} {X : rS → Prop} (hG : zOK G) (hR : ∀ S', X S' → Q none S') {x1 : Int32} {x2 : Int32} (ok : OL_digest_52 N N x1 x2 S ∧ OA_digest_52 N x1 x2 S (L_digest_52 N N x1 x2 S)) (hx : X (A_digest_52 N x1 x2 S (L_digest_52 N N x1 x2 S))) : rX G E dX12_digest mX12_digest 52 [some (.ref E.1), some (.int x1), some (.int x2)] [] S Q := by
  refine l_digest_52 hG ?_ N x1 x2 S ok.1 (X := fun z => OA_digest_52 N x1 x2 S z ∧ X (A_digest_52 N x1 x2 S z)) ⟨ok.2, hx⟩
  · intro S' hz
    obtain ⟨ok, hx⟩ := hz
    unfold OA_digest_52 at ok
    unfold A_digest_52 at hx
    exact rX.cutz (b_digest_75 hG hR ok hx) ⟨rfl, trivial⟩
def F_digest_50 (N : Nat) (x1 : Int32) (S : rS) : rS := (A_digest_52 N x1 (nI 3) S (L_digest_52 N N x1 (nI 3) S))
def O_digest_50 (N : Nat) (x1 : Int32) (S : rS) : Prop := (OL_digest_52 N N x1 (nI 3) S ∧ OA_digest_52 N x1 (nI 3) S (L_digest_52 N N x1 (nI 3) S))
set_option maxHeartbeats 4000000 in
theorem b_digest_50 {G : zG} {E : rE} {S : rS} {N : Nat} {Q : Option Value → rS → Prop} {X : rS → Prop} (hG : zOK G) (hR : ∀ S', X S' → Q none S') {x1 : Int32} (ok : O_digest_50 N x1 S) (hx : X (F_digest_50 N x1 S)) : rX G E dX12_digest mX12_digest 50 [some (.ref E.1), some (.int x1), none] [] S Q := by
  unfold O_digest_50 at ok
  unfold F_digest_50 at hx
  refine r_iconst (v := nI 3) dX12_digest_50 (by decide) ?_
  refine r_istore_2 dX12_digest_51 (by decide) rfl ?_
  exact rX.cutz (c_digest_52 hG hR ok hx) ⟨rfl, rfl, rfl, trivial⟩
def F_digest_44 (N : Nat) (rec : Int32 → Int32 → rS → Nat × Int32 × rS) (x1 : Int32) (x2 : Int32) (S : rS) : Nat × Int32 × rS := (rec x1 (x2 + nI 1) S)
def O_digest_44 (N : Nat) (rok : Int32 → Int32 → rS → Prop) (x1 : Int32) (x2 : Int32) (S : rS) : Prop := rok x1 (x2 + nI 1) S
set_option maxHeartbeats 4000000 in
theorem b_digest_44 {G : zG} {E : rE} {S : rS} {N : Nat} {Q : Option Value → rS → Prop} {X : Nat × Int32 × rS → Prop} (hG : zOK G) (hX0 : ∀ (x1 : Int32) (S' : rS), X (0, x1, S') → rX G E dX12_digest mX12_digest 50 [some (.ref E.1), some (.int x1), none] [] S' Q) {rec : Int32 → Int32 → rS → Nat × Int32 × rS} {rok : Int32 → Int32 → rS → Prop} (hrec : ∀ (x1 : Int32) (x2 : Int32) (S : rS), rok x1 x2 S → X (rec x1 x2 S) → rX G E dX12_digest mX12_digest 34 [some (.ref E.1), some (.int x1), some (.int x2)] [] S Q) {x1 : Int32} {x2 : Int32} (ok : O_digest_44 N rok x1 x2 S) (hx : X (F_digest_44 N rec x1 x2 S)) : rX G E dX12_digest mX12_digest 44 [some (.ref E.1), some (.int x1), some (.int x2)] [] S Q := by
  unfold O_digest_44 at ok
  unfold F_digest_44 at hx
  refine r_iinc_2 (v := (x2 + nI 1)) dX12_digest_44 rfl (by first | rfl | (congr 1)) (by decide) rfl ?_
  refine r_goto (tgt := 34) dX12_digest_47 (by decide) ?_
  exact rX.cutz (hrec _ _ S ok hx) ⟨rfl, rfl, rfl, trivial⟩
def B_digest_34 (N : Nat) (rec : Int32 → Int32 → rS → Nat × Int32 × rS) (x1 : Int32) (x2 : Int32) (S : rS) : Nat × Int32 × rS := (if (nI 4) ≤ x2 then (0, x1, S) else (F_digest_44 N rec x1 x2 (f_hashByte N S (nI 0))))
def OB_digest_34 (N : Nat) (rok : Int32 → Int32 → rS → Prop) (x1 : Int32) (x2 : Int32) (S : rS) : Prop := (((nI 4) ≤ x2 → True) ∧ (¬ (nI 4) ≤ x2 → (o_hashByte N S (nI 0)) ∧ O_digest_44 N rok x1 x2 (f_hashByte N S (nI 0))))
set_option maxHeartbeats 4000000 in
theorem bb_digest_34 {G : zG} {E : rE} {S : rS} {N : Nat} {Q : Option Value → rS → Prop} {X : Nat × Int32 × rS → Prop} (hG : zOK G) (hX0 : ∀ (x1 : Int32) (S' : rS), X (0, x1, S') → rX G E dX12_digest mX12_digest 50 [some (.ref E.1), some (.int x1), none] [] S' Q) {rec : Int32 → Int32 → rS → Nat × Int32 × rS} {rok : Int32 → Int32 → rS → Prop} (hrec : ∀ (x1 : Int32) (x2 : Int32) (S : rS), rok x1 x2 S → X (rec x1 x2 S) → rX G E dX12_digest mX12_digest 34 [some (.ref E.1), some (.int x1), some (.int x2)] [] S Q) {x1 : Int32} {x2 : Int32} (ok : OB_digest_34 N rok x1 x2 S) (hx : X (B_digest_34 N rec x1 x2 S)) : rX G E dX12_digest mX12_digest 34 [some (.ref E.1), some (.int x1), some (.int x2)] [] S Q := by
  unfold OB_digest_34 at ok
  unfold B_digest_34 at hx
  refine r_iload_n dX12_digest_34 rfl rfl ?_
  refine r_iconst (v := nI 4) dX12_digest_35 (by decide) ?_
  refine r_icmp_ge (tgt := 50) dX12_digest_36 (by decide) (fun c_36 => ?_) (fun c_36 => ?_)
  · have ok := ok.1 c_36
    have hx := xif_p c_36 hx
    exact rX.cutz (hX0 _ S hx) ⟨rfl, rfl, trivial⟩
  · have ok := ok.2 c_36
    have hx := xif_n c_36 hx
    refine r_aload_n dX12_digest_39 rfl rfl ?_
    refine r_iconst (v := nI 0) dX12_digest_40 (by decide) ?_
    refine r_V1v (y' := mX12_hashByte) dX12_digest_41 lX12_29 kX12_hashByte ⟨by decide, by decide⟩ rfl (Nat.le_of_ble_eq_true rfl) (rc_X12_hashByte hG ok.1) (fun S_41 h_41 => ?_)
    subst h_41
    have ok := ok.2
    exact rX.cutz (b_digest_44 hG hX0 hrec ok hx) ⟨rfl, rfl, rfl, trivial⟩
def L_digest_34 (N : Nat) : Nat → Int32 → Int32 → rS → Nat × Int32 × rS
  | 0, x1, x2, S => (0, 0, S)
  | n + 1, x1, x2, S => B_digest_34 N (L_digest_34 N n) x1 x2 S
def OL_digest_34 (N : Nat) : Nat → Int32 → Int32 → rS → Prop
  | 0, _, _, _ => False
  | n + 1, x1, x2, S => OB_digest_34 N (OL_digest_34 N n) x1 x2 S
set_option maxHeartbeats 4000000 in
theorem l_digest_34 {G : zG} {E : rE} {N : Nat} {Q : Option Value → rS → Prop} {X : Nat × Int32 × rS → Prop} (hG : zOK G) (hX0 : ∀ (x1 : Int32) (S' : rS), X (0, x1, S') → rX G E dX12_digest mX12_digest 50 [some (.ref E.1), some (.int x1), none] [] S' Q) : ∀ (n : Nat) (x1 : Int32) (x2 : Int32) (S : rS), OL_digest_34 N n x1 x2 S → X (L_digest_34 N n x1 x2 S) → rX G E dX12_digest mX12_digest 34 [some (.ref E.1), some (.int x1), some (.int x2)] [] S Q := by
  intro n
  induction n with
  | zero => intro x1 x2 S ok; exact absurd ok id
  | succ n ih =>
    intro x1 x2 S ok hx
    exact bb_digest_34 hG hX0 (rec := L_digest_34 N n) (rok := OL_digest_34 N n) (fun x1 x2 S ok hx => ih x1 x2 S ok hx) ok hx
def A_digest_34 (N : Nat) (x1 : Int32) (x2 : Int32) (S : rS) (z : Nat × Int32 × rS) : rS := (F_digest_50 N (z.2.1) z.2.2)
def OA_digest_34 (N : Nat) (x1 : Int32) (x2 : Int32) (S : rS) (z : Nat × Int32 × rS) : Prop := O_digest_50 N (z.2.1) z.2.2
set_option maxHeartbeats 4000000 in
theorem c_digest_34 {G : zG} {E : rE} {S : rS} {N : Nat} {Q : Option Value → rS → Prop} {X : rS → Prop} (hG : zOK G) (hR : ∀ S', X S' → Q none S') {x1 : Int32} {x2 : Int32} (ok : OL_digest_34 N N x1 x2 S ∧ OA_digest_34 N x1 x2 S (L_digest_34 N N x1 x2 S)) (hx : X (A_digest_34 N x1 x2 S (L_digest_34 N N x1 x2 S))) : rX G E dX12_digest mX12_digest 34 [some (.ref E.1), some (.int x1), some (.int x2)] [] S Q := by
  refine l_digest_34 hG ?_ N x1 x2 S ok.1 (X := fun z => OA_digest_34 N x1 x2 S z ∧ X (A_digest_34 N x1 x2 S z)) ⟨ok.2, hx⟩
  · intro x1' S' hz
    obtain ⟨ok, hx⟩ := hz
    unfold OA_digest_34 at ok
    unfold A_digest_34 at hx
    exact rX.cutz (b_digest_50 hG hR ok hx) ⟨rfl, rfl, trivial⟩
def F_digest_32 (N : Nat) (x1 : Int32) (S : rS) : rS := (A_digest_34 N x1 (nI 0) S (L_digest_34 N N x1 (nI 0) S))
def O_digest_32 (N : Nat) (x1 : Int32) (S : rS) : Prop := (OL_digest_34 N N x1 (nI 0) S ∧ OA_digest_34 N x1 (nI 0) S (L_digest_34 N N x1 (nI 0) S))
set_option maxHeartbeats 4000000 in
theorem b_digest_32 {G : zG} {E : rE} {S : rS} {N : Nat} {Q : Option Value → rS → Prop} {X : rS → Prop} (hG : zOK G) (hR : ∀ S', X S' → Q none S') {x1 : Int32} (ok : O_digest_32 N x1 S) (hx : X (F_digest_32 N x1 S)) : rX G E dX12_digest mX12_digest 32 [some (.ref E.1), some (.int x1), none] [] S Q := by
  unfold O_digest_32 at ok
  unfold F_digest_32 at hx
  refine r_iconst (v := nI 0) dX12_digest_32 (by decide) ?_
  refine r_istore_2 dX12_digest_33 (by decide) rfl ?_
  exact rX.cutz (c_digest_34 hG hR ok hx) ⟨rfl, rfl, rfl, trivial⟩
def F_digest_29 (N : Nat) (rec : Int32 → rS → Nat × Int32 × rS) (x1 : Int32) (S : rS) : Nat × Int32 × rS := (rec x1 S)
def O_digest_29 (N : Nat) (rok : Int32 → rS → Prop) (x1 : Int32) (S : rS) : Prop := rok x1 S
set_option maxHeartbeats 4000000 in
theorem b_digest_29 {G : zG} {E : rE} {S : rS} {N : Nat} {Q : Option Value → rS → Prop} {X : Nat × Int32 × rS → Prop} (hG : zOK G) (hX0 : ∀ (x1 : Int32) (S' : rS), X (0, x1, S') → rX G E dX12_digest mX12_digest 32 [some (.ref E.1), some (.int x1), none] [] S' Q) {rec : Int32 → rS → Nat × Int32 × rS} {rok : Int32 → rS → Prop} (hrec : ∀ (x1 : Int32) (S : rS), rok x1 S → X (rec x1 S) → rX G E dX12_digest mX12_digest 12 [some (.ref E.1), some (.int x1), none] [] S Q) {x1 : Int32} (ok : O_digest_29 N rok x1 S) (hx : X (F_digest_29 N rec x1 S)) : rX G E dX12_digest mX12_digest 29 [some (.ref E.1), some (.int x1), none] [] S Q := by
  unfold O_digest_29 at ok
  unfold F_digest_29 at hx
  refine r_goto (tgt := 12) dX12_digest_29 (by decide) ?_
  exact rX.cutz (hrec _ S ok hx) ⟨rfl, rfl, trivial⟩
def B_digest_12 (N : Nat) (rec : Int32 → rS → Nat × Int32 × rS) (x1 : Int32) (S : rS) : Nat × Int32 × rS := (if ((S.1 7) - (S.1 7) / (nI 64) * (nI 64)) = (nI 56) then (0, x1, S) else (F_digest_29 N rec x1 (f_hashByte N S (nI 0))))
def OB_digest_12 (N : Nat) (rok : Int32 → rS → Prop) (x1 : Int32) (S : rS) : Prop := ((((S.1 7) - (S.1 7) / (nI 64) * (nI 64)) = (nI 56) → True) ∧ (¬ ((S.1 7) - (S.1 7) / (nI 64) * (nI 64)) = (nI 56) → (o_hashByte N S (nI 0)) ∧ O_digest_29 N rok x1 (f_hashByte N S (nI 0))))
set_option maxHeartbeats 4000000 in
theorem bb_digest_12 {G : zG} {E : rE} {S : rS} {N : Nat} {Q : Option Value → rS → Prop} {X : Nat × Int32 × rS → Prop} (hG : zOK G) (hX0 : ∀ (x1 : Int32) (S' : rS), X (0, x1, S') → rX G E dX12_digest mX12_digest 32 [some (.ref E.1), some (.int x1), none] [] S' Q) {rec : Int32 → rS → Nat × Int32 × rS} {rok : Int32 → rS → Prop} (hrec : ∀ (x1 : Int32) (S : rS), rok x1 S → X (rec x1 S) → rX G E dX12_digest mX12_digest 12 [some (.ref E.1), some (.int x1), none] [] S Q) {x1 : Int32} (ok : OB_digest_12 N rok x1 S) (hx : X (B_digest_12 N rec x1 S)) : rX G E dX12_digest mX12_digest 12 [some (.ref E.1), some (.int x1), none] [] S Q := by
  unfold OB_digest_12 at ok
  unfold B_digest_12 at hx
  refine r_aload_n dX12_digest_12 rfl rfl ?_
  refine r_getI 7 fX12_25 (by decide) (by decide) dX12_digest_13 ?_
  refine r_bipush (v := nI 64) dX12_digest_16 (by decide) ?_
  refine r_irem dX12_digest_18 (by decide) ?_
  refine r_bipush (v := nI 56) dX12_digest_19 (by decide) ?_
  refine r_icmp_eq (tgt := 32) dX12_digest_21 (by decide) (fun c_21 => ?_) (fun c_21 => ?_)
  · have ok := ok.1 c_21
    have hx := xif_p c_21 hx
    exact rX.cutz (hX0 _ S hx) ⟨rfl, rfl, trivial⟩
  · have ok := ok.2 c_21
    have hx := xif_n c_21 hx
    refine r_aload_n dX12_digest_24 rfl rfl ?_
    refine r_iconst (v := nI 0) dX12_digest_25 (by decide) ?_
    refine r_V1v (y' := mX12_hashByte) dX12_digest_26 lX12_29 kX12_hashByte ⟨by decide, by decide⟩ rfl (Nat.le_of_ble_eq_true rfl) (rc_X12_hashByte hG ok.1) (fun S_26 h_26 => ?_)
    subst h_26
    have ok := ok.2
    exact rX.cutz (b_digest_29 hG hX0 hrec ok hx) ⟨rfl, rfl, trivial⟩
def L_digest_12 (N : Nat) : Nat → Int32 → rS → Nat × Int32 × rS
  | 0, x1, S => (0, 0, S)
  | n + 1, x1, S => B_digest_12 N (L_digest_12 N n) x1 S
def OL_digest_12 (N : Nat) : Nat → Int32 → rS → Prop
  | 0, _, _ => False
  | n + 1, x1, S => OB_digest_12 N (OL_digest_12 N n) x1 S
set_option maxHeartbeats 4000000 in
theorem l_digest_12 {G : zG} {E : rE} {N : Nat} {Q : Option Value → rS → Prop} {X : Nat × Int32 × rS → Prop} (hG : zOK G) (hX0 : ∀ (x1 : Int32) (S' : rS), X (0, x1, S') → rX G E dX12_digest mX12_digest 32 [some (.ref E.1), some (.int x1), none] [] S' Q) : ∀ (n : Nat) (x1 : Int32) (S : rS), OL_digest_12 N n x1 S → X (L_digest_12 N n x1 S) → rX G E dX12_digest mX12_digest 12 [some (.ref E.1), some (.int x1), none] [] S Q := by
  intro n
  induction n with
  | zero => intro x1 S ok; exact absurd ok id
  | succ n ih =>
    intro x1 S ok hx
    exact bb_digest_12 hG hX0 (rec := L_digest_12 N n) (rok := OL_digest_12 N n) (fun x1 S ok hx => ih x1 S ok hx) ok hx
def A_digest_12 (N : Nat) (x1 : Int32) (S : rS) (z : Nat × Int32 × rS) : rS := (F_digest_32 N (z.2.1) z.2.2)
def OA_digest_12 (N : Nat) (x1 : Int32) (S : rS) (z : Nat × Int32 × rS) : Prop := O_digest_32 N (z.2.1) z.2.2
set_option maxHeartbeats 4000000 in
theorem c_digest_12 {G : zG} {E : rE} {S : rS} {N : Nat} {Q : Option Value → rS → Prop} {X : rS → Prop} (hG : zOK G) (hR : ∀ S', X S' → Q none S') {x1 : Int32} (ok : OL_digest_12 N N x1 S ∧ OA_digest_12 N x1 S (L_digest_12 N N x1 S)) (hx : X (A_digest_12 N x1 S (L_digest_12 N N x1 S))) : rX G E dX12_digest mX12_digest 12 [some (.ref E.1), some (.int x1), none] [] S Q := by
  refine l_digest_12 hG ?_ N x1 S ok.1 (X := fun z => OA_digest_12 N x1 S z ∧ X (A_digest_12 N x1 S z)) ⟨ok.2, hx⟩
  · intro x1' S' hz
    obtain ⟨ok, hx⟩ := hz
    unfold OA_digest_12 at ok
    unfold A_digest_12 at hx
    exact rX.cutz (b_digest_32 hG hR ok hx) ⟨rfl, rfl, trivial⟩
def F_digest_0 (N : Nat)  (S : rS) : rS := (A_digest_12 N (S.1 7) (f_hashByte N S (nI 128)) (L_digest_12 N N (S.1 7) (f_hashByte N S (nI 128))))
def O_digest_0 (N : Nat)  (S : rS) : Prop := (o_hashByte N S (nI 128)) ∧ (OL_digest_12 N N (S.1 7) (f_hashByte N S (nI 128)) ∧ OA_digest_12 N (S.1 7) (f_hashByte N S (nI 128)) (L_digest_12 N N (S.1 7) (f_hashByte N S (nI 128))))
set_option maxHeartbeats 4000000 in
theorem b_digest_0 {G : zG} {E : rE} {S : rS} {N : Nat} {Q : Option Value → rS → Prop} {X : rS → Prop} (hG : zOK G) (hR : ∀ S', X S' → Q none S') (ok : O_digest_0 N S) (hx : X (F_digest_0 N S)) : rX G E dX12_digest mX12_digest 0 [some (.ref E.1), none, none] [] S Q := by
  unfold O_digest_0 at ok
  unfold F_digest_0 at hx
  refine r_aload_n dX12_digest_0 rfl rfl ?_
  refine r_getI 7 fX12_25 (by decide) (by decide) dX12_digest_1 ?_
  refine r_istore_1 dX12_digest_4 (by decide) rfl ?_
  refine r_aload_n dX12_digest_5 rfl rfl ?_
  refine r_sipush (v := nI 128) dX12_digest_6 (by decide) ?_
  refine r_V1v (y' := mX12_hashByte) dX12_digest_9 lX12_29 kX12_hashByte ⟨by decide, by decide⟩ rfl (Nat.le_of_ble_eq_true rfl) (rc_X12_hashByte hG ok.1) (fun S_9 h_9 => ?_)
  subst h_9
  have ok := ok.2
  exact rX.cutz (c_digest_12 hG hR ok hx) ⟨rfl, rfl, trivial⟩
def f_digest (N : Nat) (S : rS) : rS := F_digest_0 N S
def o_digest (N : Nat) (S : rS) : Prop := O_digest_0 N S
set_option maxHeartbeats 4000000 in
theorem rc_X12_digest {G : zG} {E : rE} {S : rS} {N : Nat} (hG : zOK G) (ok : o_digest N S ) : rCv G E dX12_digest mX12_digest [.ref E.1] S (fun S' => S' = f_digest N S) := by
  refine rC.ofX rfl (Nat.le_of_ble_eq_true rfl) ?_
  show rX G E dX12_digest mX12_digest 0 [some (.ref E.1), none, none] [] S _
  exact rX.cutz (b_digest_0 (X := fun F => F = f_digest N S) hG (fun S' h => ⟨rfl, h⟩) ok rfl) ⟨rfl, trivial⟩
/-! sum -/
def F_sum_0 (N : Nat) (x1 : Int32) (S : rS) : Int64 := (((Int32.toInt64 (S.2.1 8 ((nI 2) * x1).toNatClampNeg)) <<< (Int32.toInt64 (nI 32) &&& 63)) ||| ((Int32.toInt64 (S.2.1 8 (((nI 2) * x1) + (nI 1)).toNatClampNeg)) &&& (4294967295 : Int64)))
def O_sum_0 (N : Nat) (x1 : Int32) (S : rS) : Prop := (vp_in ((nI 2) * x1) 8) ∧ (vp_in (((nI 2) * x1) + (nI 1)) 8) ∧ True
set_option maxHeartbeats 4000000 in
theorem b_sum_0 {G : zG} {E : rE} {S : rS} {N : Nat} {Q : Option Value → rS → Prop} {X : Int64 → Prop} (hG : zOK G) (hR : ∀ v, X v → Q (some (.long v)) S) {x1 : Int32} (ok : O_sum_0 N x1 S) (hx : X (F_sum_0 N x1 S)) : rX G E dX12_sum mX12_sum 0 [some (.ref E.1), some (.int x1)] [] S Q := by
  unfold O_sum_0 at ok
  unfold F_sum_0 at hx
  refine r_aload_n dX12_sum_0 rfl rfl ?_
  refine r_getA 8 fX12_33 (by decide) (by decide) dX12_sum_1 ?_
  refine r_iconst (v := nI 2) dX12_sum_4 (by decide) ?_
  refine r_iload_n dX12_sum_5 rfl rfl ?_
  refine r_imul dX12_sum_6 ?_
  refine r_iald (by decide) (by decide) dX12_sum_7 ok.1 ?_
  have ok := ok.2
  refine r_i2l dX12_sum_8 ?_
  refine r_bipush (v := nI 32) dX12_sum_9 (by decide) ?_
  refine r_lshl dX12_sum_11 ?_
  refine r_aload_n dX12_sum_12 rfl rfl ?_
  refine r_getA 8 fX12_33 (by decide) (by decide) dX12_sum_13 ?_
  refine r_iconst (v := nI 2) dX12_sum_16 (by decide) ?_
  refine r_iload_n dX12_sum_17 rfl rfl ?_
  refine r_imul dX12_sum_18 ?_
  refine r_iconst (v := nI 1) dX12_sum_19 (by decide) ?_
  refine r_iadd dX12_sum_20 ?_
  refine r_iald (by decide) (by decide) dX12_sum_21 ok.1 ?_
  have ok := ok.2
  refine r_i2l dX12_sum_22 ?_
  refine r_ldc2 dX12_sum_23 nX12_18 ?_
  refine r_land dX12_sum_26 ?_
  refine r_lor dX12_sum_27 ?_
  exact r_lreturn rfl dX12_sum_28 (hR _ hx)
def f_sum (N : Nat) (S : rS) (x1 : Int32) : Int64 := F_sum_0 N x1 S
def o_sum (N : Nat) (S : rS) (x1 : Int32) : Prop := O_sum_0 N x1 S
set_option maxHeartbeats 4000000 in
theorem rc_X12_sum {G : zG} {E : rE} {S : rS} {N : Nat} (hG : zOK G) {x1 : Int32} (ok : o_sum N S x1) : rCl G E dX12_sum mX12_sum [.ref E.1, .int x1] S (fun v S' => v = f_sum N S x1 ∧ S' = S) := by
  refine rC.ofX rfl (Nat.le_of_ble_eq_true rfl) ?_
  show rX G E dX12_sum mX12_sum 0 [some (.ref E.1), some (.int x1)] [] S _
  exact rX.cutz (b_sum_0 (X := fun F => F = f_sum N S x1) hG (fun v h => ⟨v, rfl, h, rfl⟩) ok rfl) ⟨rfl, rfl, trivial⟩
/-! byteIn -/
def F_byteIn_0 (N : Nat) (x0 : Int64) (x2 : Int32) (S : rS) : Int32 := ((Int64.toInt32 (x0 >>> (Int32.toInt64 ((nI 56) - ((nI 8) * x2)) &&& 63))) &&& (nI 255))
def O_byteIn_0 (N : Nat) (x0 : Int64) (x2 : Int32) (S : rS) : Prop := True
set_option maxHeartbeats 4000000 in
theorem b_byteIn_0 {G : zG} {E : rE} {S : rS} {N : Nat} {Q : Option Value → rS → Prop} {X : Int32 → Prop} (hG : zOK G) (hR : ∀ v, X v → Q (some (.int v)) S) {x0 : Int64} {x2 : Int32} (ok : O_byteIn_0 N x0 x2 S) (hx : X (F_byteIn_0 N x0 x2 S)) : rX G E dX12_byteIn mX12_byteIn 0 [some (.long x0), none, some (.int x2)] [] S Q := by
  unfold O_byteIn_0 at ok
  unfold F_byteIn_0 at hx
  refine r_lload_n dX12_byteIn_0 rfl rfl ?_
  refine r_bipush (v := nI 56) dX12_byteIn_1 (by decide) ?_
  refine r_bipush (v := nI 8) dX12_byteIn_3 (by decide) ?_
  refine r_iload_n dX12_byteIn_5 rfl rfl ?_
  refine r_imul dX12_byteIn_6 ?_
  refine r_isub dX12_byteIn_7 ?_
  refine r_lshr dX12_byteIn_8 ?_
  refine r_l2i dX12_byteIn_9 ?_
  refine r_sipush (v := nI 255) dX12_byteIn_10 (by decide) ?_
  refine r_iand dX12_byteIn_13 ?_
  exact r_ireturn rfl rfl dX12_byteIn_14 (hR _ hx)
def f_byteIn (N : Nat) (S : rS) (x0 : Int64) (x2 : Int32) : Int32 := F_byteIn_0 N x0 x2 S
def o_byteIn (N : Nat) (S : rS) (x0 : Int64) (x2 : Int32) : Prop := O_byteIn_0 N x0 x2 S
set_option maxHeartbeats 4000000 in
theorem rc_X12_byteIn {G : zG} {E : rE} {S : rS} {N : Nat} (hG : zOK G) {x0 : Int64} {x2 : Int32} (ok : o_byteIn N S x0 x2) : rCi G E dX12_byteIn mX12_byteIn [.long x0, .int x2] S (fun v S' => v = f_byteIn N S x0 x2 ∧ S' = S) := by
  refine rC.ofX rfl (Nat.le_of_ble_eq_true rfl) ?_
  show rX G E dX12_byteIn mX12_byteIn 0 [some (.long x0), none, some (.int x2)] [] S _
  exact rX.cutz (b_byteIn_0 (X := fun F => F = f_byteIn N S x0 x2) hG (fun v h => ⟨v, rfl, h, rfl⟩) ok rfl) ⟨rfl, rfl, trivial⟩
/-! blockByte -/
def F_blockByte_0 (N : Nat) (x1 : Int32) (x2 : Int32) (S : rS) : Int32 := (f_byteIn N S (S.2.2 12 (((nI 87) * x1) + (x2 / (nI 8))).toNatClampNeg) (x2 - x2 / (nI 8) * (nI 8)))
def O_blockByte_0 (N : Nat) (x1 : Int32) (x2 : Int32) (S : rS) : Prop := (vp_in (((nI 87) * x1) + (x2 / (nI 8))) 117798) ∧ (o_byteIn N S (S.2.2 12 (((nI 87) * x1) + (x2 / (nI 8))).toNatClampNeg) (x2 - x2 / (nI 8) * (nI 8))) ∧ True
set_option maxHeartbeats 4000000 in
theorem b_blockByte_0 {G : zG} {E : rE} {S : rS} {N : Nat} {Q : Option Value → rS → Prop} {X : Int32 → Prop} (hG : zOK G) (hR : ∀ v, X v → Q (some (.int v)) S) {x1 : Int32} {x2 : Int32} (ok : O_blockByte_0 N x1 x2 S) (hx : X (F_blockByte_0 N x1 x2 S)) : rX G E dX12_blockByte mX12_blockByte 0 [some (.ref E.1), some (.int x1), some (.int x2)] [] S Q := by
  unfold O_blockByte_0 at ok
  unfold F_blockByte_0 at hx
  refine r_aload_n dX12_blockByte_0 rfl rfl ?_
  refine r_getA 12 fX12_45 (by decide) (by decide) dX12_blockByte_1 ?_
  refine r_bipush (v := nI 87) dX12_blockByte_4 (by decide) ?_
  refine r_iload_n dX12_blockByte_6 rfl rfl ?_
  refine r_imul dX12_blockByte_7 ?_
  refine r_iload_n dX12_blockByte_8 rfl rfl ?_
  refine r_bipush (v := nI 8) dX12_blockByte_9 (by decide) ?_
  refine r_idiv dX12_blockByte_11 (by decide) ?_
  refine r_iadd dX12_blockByte_12 ?_
  refine r_lald (by decide) (by decide) dX12_blockByte_13 ok.1 ?_
  have ok := ok.2
  refine r_iload_n dX12_blockByte_14 rfl rfl ?_
  refine r_bipush (v := nI 8) dX12_blockByte_15 (by decide) ?_
  refine r_irem dX12_blockByte_17 (by decide) ?_
  refine r_S2i (y' := mX12_byteIn) dX12_blockByte_18 lX12_49 kX12_byteIn ⟨by decide, by decide⟩ (Nat.le_of_ble_eq_true rfl) (rc_X12_byteIn hG ok.1) (fun v_18 S_18 h_18 => ?_)
  obtain ⟨rfl, hS_18⟩ := h_18
  have hS_18 := hS_18.symm
  subst hS_18
  have ok := ok.2
  exact r_ireturn rfl rfl dX12_blockByte_21 (hR _ hx)
def f_blockByte (N : Nat) (S : rS) (x1 : Int32) (x2 : Int32) : Int32 := F_blockByte_0 N x1 x2 S
def o_blockByte (N : Nat) (S : rS) (x1 : Int32) (x2 : Int32) : Prop := O_blockByte_0 N x1 x2 S
set_option maxHeartbeats 4000000 in
theorem rc_X12_blockByte {G : zG} {E : rE} {S : rS} {N : Nat} (hG : zOK G) {x1 : Int32} {x2 : Int32} (ok : o_blockByte N S x1 x2) : rCi G E dX12_blockByte mX12_blockByte [.ref E.1, .int x1, .int x2] S (fun v S' => v = f_blockByte N S x1 x2 ∧ S' = S) := by
  refine rC.ofX rfl (Nat.le_of_ble_eq_true rfl) ?_
  show rX G E dX12_blockByte mX12_blockByte 0 [some (.ref E.1), some (.int x1), some (.int x2)] [] S _
  exact rX.cutz (b_blockByte_0 (X := fun F => F = f_blockByte N S x1 x2) hG (fun v h => ⟨v, rfl, h, rfl⟩) ok rfl) ⟨rfl, rfl, rfl, trivial⟩
/-! setByte -/
def F_setByte_47 (N : Nat) (x3 : Int32) (x4 : Int32) (s1 : Int32) (s2 : Int64) (S : rS) : rS := (rsL S 12 s1.toNatClampNeg (s2 ||| ((Int32.toInt64 (x3 &&& (nI 255))) <<< (Int32.toInt64 x4 &&& 63))))
def O_setByte_47 (N : Nat) (x3 : Int32) (x4 : Int32) (s1 : Int32) (s2 : Int64) (S : rS) : Prop := (vp_in s1 117798) ∧ True
set_option maxHeartbeats 4000000 in
theorem b_setByte_47 {G : zG} {E : rE} {S : rS} {N : Nat} {Q : Option Value → rS → Prop} {X : rS → Prop} (hG : zOK G) (hR : ∀ S', X S' → Q none S') {x3 : Int32} {x4 : Int32} {s1 : Int32} {s2 : Int64} (ok : O_setByte_47 N x3 x4 s1 s2 S) (hx : X (F_setByte_47 N x3 x4 s1 s2 S)) : rX G E dX12_setByte mX12_setByte 47 [none, none, none, some (.int x3), some (.int x4), none] [.long s2, .int s1, .ref (E.2.1 12)] S Q := by
  unfold O_setByte_47 at ok
  unfold F_setByte_47 at hx
  refine r_iload_n dX12_setByte_47 rfl rfl ?_
  refine r_sipush (v := nI 255) dX12_setByte_48 (by decide) ?_
  refine r_iand dX12_setByte_51 ?_
  refine r_i2l dX12_setByte_52 ?_
  refine r_iload dX12_setByte_53 rfl ?_
  refine r_lshl dX12_setByte_55 ?_
  refine r_lor dX12_setByte_56 ?_
  refine r_last (by decide) (by decide) dX12_setByte_57 ok.1 ?_
  have ok := ok.2
  exact r_return rfl dX12_setByte_58 (hR _ hx)
def F_setByte_0 (N : Nat) (x1 : Int32) (x2 : Int32) (x3 : Int32) (S : rS) : rS := (F_setByte_47 N x3 ((nI 56) - ((nI 8) * (x2 - x2 / (nI 8) * (nI 8)))) (((nI 87) * x1) + (x2 / (nI 8))) ((S.2.2 12 (((nI 87) * x1) + (x2 / (nI 8))).toNatClampNeg) &&& (((255 : Int64) <<< (Int32.toInt64 ((nI 56) - ((nI 8) * (x2 - x2 / (nI 8) * (nI 8)))) &&& 63)) ^^^ (-1 : Int64))) S)
def O_setByte_0 (N : Nat) (x1 : Int32) (x2 : Int32) (x3 : Int32) (S : rS) : Prop := (vp_in (((nI 87) * x1) + (x2 / (nI 8))) 117798) ∧ O_setByte_47 N x3 ((nI 56) - ((nI 8) * (x2 - x2 / (nI 8) * (nI 8)))) (((nI 87) * x1) + (x2 / (nI 8))) ((S.2.2 12 (((nI 87) * x1) + (x2 / (nI 8))).toNatClampNeg) &&& (((255 : Int64) <<< (Int32.toInt64 ((nI 56) - ((nI 8) * (x2 - x2 / (nI 8) * (nI 8)))) &&& 63)) ^^^ (-1 : Int64))) S
set_option maxHeartbeats 4000000 in
theorem b_setByte_0 {G : zG} {E : rE} {S : rS} {N : Nat} {Q : Option Value → rS → Prop} {X : rS → Prop} (hG : zOK G) (hR : ∀ S', X S' → Q none S') {x1 : Int32} {x2 : Int32} {x3 : Int32} (ok : O_setByte_0 N x1 x2 x3 S) (hx : X (F_setByte_0 N x1 x2 x3 S)) : rX G E dX12_setByte mX12_setByte 0 [some (.ref E.1), some (.int x1), some (.int x2), some (.int x3), none, none] [] S Q := by
  unfold O_setByte_0 at ok
  unfold F_setByte_0 at hx
  refine r_bipush (v := nI 56) dX12_setByte_0 (by decide) ?_
  refine r_bipush (v := nI 8) dX12_setByte_2 (by decide) ?_
  refine r_iload_n dX12_setByte_4 rfl rfl ?_
  refine r_bipush (v := nI 8) dX12_setByte_5 (by decide) ?_
  refine r_irem dX12_setByte_7 (by decide) ?_
  refine r_imul dX12_setByte_8 ?_
  refine r_isub dX12_setByte_9 ?_
  refine r_istore_4 dX12_setByte_10 (by decide) rfl ?_
  refine r_bipush (v := nI 87) dX12_setByte_12 (by decide) ?_
  refine r_iload_n dX12_setByte_14 rfl rfl ?_
  refine r_imul dX12_setByte_15 ?_
  refine r_iload_n dX12_setByte_16 rfl rfl ?_
  refine r_bipush (v := nI 8) dX12_setByte_17 (by decide) ?_
  refine r_idiv dX12_setByte_19 (by decide) ?_
  refine r_iadd dX12_setByte_20 ?_
  refine r_istore_5 dX12_setByte_21 (by decide) rfl ?_
  refine r_aload_n dX12_setByte_23 rfl rfl ?_
  refine r_getA 12 fX12_45 (by decide) (by decide) dX12_setByte_24 ?_
  refine r_iload dX12_setByte_27 rfl ?_
  refine r_aload_n dX12_setByte_29 rfl rfl ?_
  refine r_getA 12 fX12_45 (by decide) (by decide) dX12_setByte_30 ?_
  refine r_iload dX12_setByte_33 rfl ?_
  refine r_lald (by decide) (by decide) dX12_setByte_35 ok.1 ?_
  have ok := ok.2
  refine r_ldc2 dX12_setByte_36 nX12_53 ?_
  refine r_iload dX12_setByte_39 rfl ?_
  refine r_lshl dX12_setByte_41 ?_
  refine r_ldc2 dX12_setByte_42 nX12_55 ?_
  refine r_lxor dX12_setByte_45 ?_
  refine r_land dX12_setByte_46 ?_
  exact rX.cutz (b_setByte_47 hG hR ok hx) ⟨rfl, rfl, trivial⟩
def f_setByte (N : Nat) (S : rS) (x1 : Int32) (x2 : Int32) (x3 : Int32) : rS := F_setByte_0 N x1 x2 x3 S
def o_setByte (N : Nat) (S : rS) (x1 : Int32) (x2 : Int32) (x3 : Int32) : Prop := O_setByte_0 N x1 x2 x3 S
set_option maxHeartbeats 4000000 in
theorem rc_X12_setByte {G : zG} {E : rE} {S : rS} {N : Nat} (hG : zOK G) {x1 : Int32} {x2 : Int32} {x3 : Int32} (ok : o_setByte N S x1 x2 x3) : rCv G E dX12_setByte mX12_setByte [.ref E.1, .int x1, .int x2, .int x3] S (fun S' => S' = f_setByte N S x1 x2 x3) := by
  refine rC.ofX rfl (Nat.le_of_ble_eq_true rfl) ?_
  show rX G E dX12_setByte mX12_setByte 0 [some (.ref E.1), some (.int x1), some (.int x2), some (.int x3), none, none] [] S _
  exact rX.cutz (b_setByte_0 (X := fun F => F = f_setByte N S x1 x2 x3) hG (fun S' h => ⟨rfl, h⟩) ok rfl) ⟨rfl, rfl, rfl, rfl, trivial⟩
/-! isThere -/
def F_isThere_14 (N : Nat) (s0 : Int32) (S : rS) : Int32 := s0
def O_isThere_14 (N : Nat) (s0 : Int32) (S : rS) : Prop := narrow .boolean (.int s0) = .int s0
set_option maxHeartbeats 4000000 in
theorem b_isThere_14 {G : zG} {E : rE} {S : rS} {N : Nat} {Q : Option Value → rS → Prop} {X : Int32 → Prop} (hG : zOK G) (hR : ∀ v, X v → Q (some (.int v)) S) {s0 : Int32} (ok : O_isThere_14 N s0 S) (hx : X (F_isThere_14 N s0 S)) : rX G E dX12_isThere mX12_isThere 14 [none, none] [.int s0] S Q := by
  unfold O_isThere_14 at ok
  unfold F_isThere_14 at hx
  exact r_ireturn rfl ok dX12_isThere_14 (hR _ hx)
def F_isThere_0 (N : Nat) (x1 : Int32) (S : rS) : Int32 := (if (S.2.1 14 x1.toNatClampNeg) ≤ 0 then (F_isThere_14 N (nI 0) S) else (F_isThere_14 N (nI 1) S))
def O_isThere_0 (N : Nat) (x1 : Int32) (S : rS) : Prop := (vp_in x1 1354) ∧ (((S.2.1 14 x1.toNatClampNeg) ≤ 0 → O_isThere_14 N (nI 0) S) ∧ (¬ (S.2.1 14 x1.toNatClampNeg) ≤ 0 → O_isThere_14 N (nI 1) S))
set_option maxHeartbeats 4000000 in
theorem b_isThere_0 {G : zG} {E : rE} {S : rS} {N : Nat} {Q : Option Value → rS → Prop} {X : Int32 → Prop} (hG : zOK G) (hR : ∀ v, X v → Q (some (.int v)) S) {x1 : Int32} (ok : O_isThere_0 N x1 S) (hx : X (F_isThere_0 N x1 S)) : rX G E dX12_isThere mX12_isThere 0 [some (.ref E.1), some (.int x1)] [] S Q := by
  unfold O_isThere_0 at ok
  unfold F_isThere_0 at hx
  refine r_aload_n dX12_isThere_0 rfl rfl ?_
  refine r_getA 14 fX12_57 (by decide) (by decide) dX12_isThere_1 ?_
  refine r_iload_n dX12_isThere_4 rfl rfl ?_
  refine r_iald (by decide) (by decide) dX12_isThere_5 ok.1 ?_
  have ok := ok.2
  refine r_if_le (tgt := 13) dX12_isThere_6 (by decide) (fun c_6 => ?_) (fun c_6 => ?_)
  · have ok := ok.1 c_6
    have hx := xif_p c_6 hx
    refine r_iconst (v := nI 0) dX12_isThere_13 (by decide) ?_
    exact rX.cutz (b_isThere_14 hG hR ok hx) trivial
  · have ok := ok.2 c_6
    have hx := xif_n c_6 hx
    refine r_iconst (v := nI 1) dX12_isThere_9 (by decide) ?_
    refine r_goto (tgt := 14) dX12_isThere_10 (by decide) ?_
    exact rX.cutz (b_isThere_14 hG hR ok hx) trivial
def f_isThere (N : Nat) (S : rS) (x1 : Int32) : Int32 := F_isThere_0 N x1 S
def o_isThere (N : Nat) (S : rS) (x1 : Int32) : Prop := O_isThere_0 N x1 S
set_option maxHeartbeats 4000000 in
theorem rc_X12_isThere {G : zG} {E : rE} {S : rS} {N : Nat} (hG : zOK G) {x1 : Int32} (ok : o_isThere N S x1) : rCi G E dX12_isThere mX12_isThere [.ref E.1, .int x1] S (fun v S' => v = f_isThere N S x1 ∧ S' = S) := by
  refine rC.ofX rfl (Nat.le_of_ble_eq_true rfl) ?_
  show rX G E dX12_isThere mX12_isThere 0 [some (.ref E.1), some (.int x1)] [] S _
  exact rX.cutz (b_isThere_0 (X := fun F => F = f_isThere N S x1) hG (fun v h => ⟨v, rfl, h, rfl⟩) ok rfl) ⟨rfl, rfl, trivial⟩
/-! clear -/
def F_clear_0 (N : Nat) (x1 : Int32) (S : rS) : rS := (rsA S 14 x1.toNatClampNeg (nI 0))
def O_clear_0 (N : Nat) (x1 : Int32) (S : rS) : Prop := (vp_in x1 1354) ∧ True
set_option maxHeartbeats 4000000 in
theorem b_clear_0 {G : zG} {E : rE} {S : rS} {N : Nat} {Q : Option Value → rS → Prop} {X : rS → Prop} (hG : zOK G) (hR : ∀ S', X S' → Q none S') {x1 : Int32} (ok : O_clear_0 N x1 S) (hx : X (F_clear_0 N x1 S)) : rX G E dX12_clear mX12_clear 0 [some (.ref E.1), some (.int x1)] [] S Q := by
  unfold O_clear_0 at ok
  unfold F_clear_0 at hx
  refine r_aload_n dX12_clear_0 rfl rfl ?_
  refine r_getA 14 fX12_57 (by decide) (by decide) dX12_clear_1 ?_
  refine r_iload_n dX12_clear_4 rfl rfl ?_
  refine r_iconst (v := nI 0) dX12_clear_5 (by decide) ?_
  refine r_iast hG (by decide) (by decide) dX12_clear_6 ok.1 ?_
  have ok := ok.2
  exact r_return rfl dX12_clear_7 (hR _ hx)
def f_clear (N : Nat) (S : rS) (x1 : Int32) : rS := F_clear_0 N x1 S
def o_clear (N : Nat) (S : rS) (x1 : Int32) : Prop := O_clear_0 N x1 S
set_option maxHeartbeats 4000000 in
theorem rc_X12_clear {G : zG} {E : rE} {S : rS} {N : Nat} (hG : zOK G) {x1 : Int32} (ok : o_clear N S x1) : rCv G E dX12_clear mX12_clear [.ref E.1, .int x1] S (fun S' => S' = f_clear N S x1) := by
  refine rC.ofX rfl (Nat.le_of_ble_eq_true rfl) ?_
  show rX G E dX12_clear mX12_clear 0 [some (.ref E.1), some (.int x1)] [] S _
  exact rX.cutz (b_clear_0 (X := fun F => F = f_clear N S x1) hG (fun S' h => ⟨rfl, h⟩) ok rfl) ⟨rfl, rfl, trivial⟩

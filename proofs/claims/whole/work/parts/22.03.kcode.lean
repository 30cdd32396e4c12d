/-! X2_squeeze -/
def KF_X2_squeeze_480 (N g H T : Nat) (x0 : Nat) (x9 : Int32) (x10 : Int32) (S : cS) : cS := (csA (csA S (x0 + 3) (nI 6).toNatClampNeg ((cA S (x0 + 3) (nI 6).toNatClampNeg) + x9)) (x0 + 3) (nI 7).toNatClampNeg ((cA (csA S (x0 + 3) (nI 6).toNatClampNeg ((cA S (x0 + 3) (nI 6).toNatClampNeg) + x9)) (x0 + 3) (nI 7).toNatClampNeg) + x10))
def KO_X2_squeeze_480 (N g H T : Nat) (x0 : Nat) (x9 : Int32) (x10 : Int32) (S : cS) : Prop := (vp_in (nI 6) 8) ∧ (vp_in (nI 6) 8) ∧ (vp_in (nI 7) 8) ∧ (vp_in (nI 7) 8) ∧ True
set_option maxRecDepth 100000 in
set_option maxHeartbeats 4000000 in
theorem kb_X2_squeeze_480 {G : zG} {o : cO} {u g H T N : Nat} {S : cS} {S0 : cS} {Q : Option Value → cS → Prop} {X : cS → Prop} (hG : zOK G) (hR : ∀ S', St u g H T S' → Mono S0 S' → X S' → Q none S') {x0 : Nat} {x9 : Int32} {x10 : Int32} (hS : St u g H T S) (hM : Mono S0 S) (t_x0 : isO g H 2 x0) (ok : KO_X2_squeeze_480 N g H T x0 x9 x10 S) (hx : X (KF_X2_squeeze_480 N g H T x0 x9 x10 S)) : cX G o dX2_squeeze mX2_squeeze 480 [some (va_rf (some x0)), none, none, none, none, none, none, none, none, some (.int x9), some (.int x10), none, none, none] [] S Q := by
  unfold KO_X2_squeeze_480 at ok
  unfold KF_X2_squeeze_480 at hx
  refine c_aload_nQ dX2_squeeze_480 rfl rfl ?_
  refine c_getS (C := RX2) (T := TX2) (N := 6) (ci := 2) (k := 2) ⟨rfl, inT2, by decide, fX2_19⟩ (by decide) (by decide) (by decide) dX2_squeeze_481 (hS.k t_x0) (hS.r (c := 2) t_x0 rfl (by omega)) ?_
  refine c_bipush (v := nI 6) dX2_squeeze_484 (by decide) ?_
  refine c_dup2 dX2_squeeze_486 rfl (zcat_rf _) ?_
  refine c_iald dX2_squeeze_487 ⟨(tK.cis (hS.rk (c := 2) (k := 2) t_x0 rfl (by omega)) (Option.some_ne_none _)), (vk_cast (hS.rl (c := 2) (k := 2) t_x0 rfl (by decide) (by omega)) ok.1)⟩ ?_
  have ok := ok.2
  refine c_iload dX2_squeeze_488 rfl ?_
  refine c_iadd dX2_squeeze_490 ?_
  have tq_491 : tK S 21 (some (x0 + 3)) := tK_some (tK.cis (hS.rk (c := 2) (k := 2) t_x0 rfl (by omega)) (Option.some_ne_none _)).2
  refine c_iast hG dX2_squeeze_491 ⟨(tK.cis (hS.rk (c := 2) (k := 2) t_x0 rfl (by omega)) (Option.some_ne_none _)), (vk_cast (hS.rl (c := 2) (k := 2) t_x0 rfl (by decide) (by omega)) ok.1)⟩ ?_
  have hS := hS.Aw (k := 21) (x0 + 3) (nI 6).toNatClampNeg ((cA S (x0 + 3) (nI 6).toNatClampNeg) + x9) tq_491 (by decide)
  have hM := hM.A (x0 + 3) (nI 6).toNatClampNeg ((cA S (x0 + 3) (nI 6).toNatClampNeg) + x9)
  have ok := ok.2
  refine c_aload_nQ dX2_squeeze_492 rfl rfl ?_
  refine c_getS (C := RX2) (T := TX2) (N := 6) (ci := 2) (k := 2) ⟨rfl, inT2, by decide, fX2_19⟩ (by decide) (by decide) (by decide) dX2_squeeze_493 (hS.k t_x0) (hS.r (c := 2) t_x0 rfl (by omega)) ?_
  refine c_bipush (v := nI 7) dX2_squeeze_496 (by decide) ?_
  refine c_dup2 dX2_squeeze_498 rfl (zcat_rf _) ?_
  refine c_iald dX2_squeeze_499 ⟨(tK.cis (hS.rk (c := 2) (k := 2) t_x0 rfl (by omega)) (Option.some_ne_none _)), (vk_cast (hS.rl (c := 2) (k := 2) t_x0 rfl (by decide) (by omega)) ok.1)⟩ ?_
  have ok := ok.2
  refine c_iload dX2_squeeze_500 rfl ?_
  refine c_iadd dX2_squeeze_502 ?_
  have tq_503 : tK (csA S (x0 + 3) (nI 6).toNatClampNeg ((cA S (x0 + 3) (nI 6).toNatClampNeg) + x9)) 21 (some (x0 + 3)) := tK_some (tK.cis (hS.rk (c := 2) (k := 2) t_x0 rfl (by omega)) (Option.some_ne_none _)).2
  refine c_iast hG dX2_squeeze_503 ⟨(tK.cis (hS.rk (c := 2) (k := 2) t_x0 rfl (by omega)) (Option.some_ne_none _)), (vk_cast (hS.rl (c := 2) (k := 2) t_x0 rfl (by decide) (by omega)) ok.1)⟩ ?_
  have hS := hS.Aw (k := 21) (x0 + 3) (nI 7).toNatClampNeg ((cA (csA S (x0 + 3) (nI 6).toNatClampNeg ((cA S (x0 + 3) (nI 6).toNatClampNeg) + x9)) (x0 + 3) (nI 7).toNatClampNeg) + x10) tq_503 (by decide)
  have hM := hM.A (x0 + 3) (nI 7).toNatClampNeg ((cA (csA S (x0 + 3) (nI 6).toNatClampNeg ((cA S (x0 + 3) (nI 6).toNatClampNeg) + x9)) (x0 + 3) (nI 7).toNatClampNeg) + x10)
  have ok := ok.2
  exact c_return rfl dX2_squeeze_504 (hR _ hS hM hx)
def KF_X2_squeeze_458 (N g H T : Nat) (x0 : Nat) (x7 : Int32) (x8 : Int32) (x9 : Int32) (x10 : Int32) (S : cS) : cS := (KF_X2_squeeze_480 N g H T x0 x9 x10 (csA (csA S (x0 + 3) (nI 4).toNatClampNeg ((cA S (x0 + 3) (nI 4).toNatClampNeg) + x7)) (x0 + 3) (nI 5).toNatClampNeg ((cA (csA S (x0 + 3) (nI 4).toNatClampNeg ((cA S (x0 + 3) (nI 4).toNatClampNeg) + x7)) (x0 + 3) (nI 5).toNatClampNeg) + x8)))
def KO_X2_squeeze_458 (N g H T : Nat) (x0 : Nat) (x7 : Int32) (x8 : Int32) (x9 : Int32) (x10 : Int32) (S : cS) : Prop := (vp_in (nI 4) 8) ∧ (vp_in (nI 4) 8) ∧ (vp_in (nI 5) 8) ∧ (vp_in (nI 5) 8) ∧ KO_X2_squeeze_480 N g H T x0 x9 x10 (csA (csA S (x0 + 3) (nI 4).toNatClampNeg ((cA S (x0 + 3) (nI 4).toNatClampNeg) + x7)) (x0 + 3) (nI 5).toNatClampNeg ((cA (csA S (x0 + 3) (nI 4).toNatClampNeg ((cA S (x0 + 3) (nI 4).toNatClampNeg) + x7)) (x0 + 3) (nI 5).toNatClampNeg) + x8))
set_option maxRecDepth 100000 in
set_option maxHeartbeats 4000000 in
theorem kb_X2_squeeze_458 {G : zG} {o : cO} {u g H T N : Nat} {S : cS} {S0 : cS} {Q : Option Value → cS → Prop} {X : cS → Prop} (hG : zOK G) (hR : ∀ S', St u g H T S' → Mono S0 S' → X S' → Q none S') {x0 : Nat} {x7 : Int32} {x8 : Int32} {x9 : Int32} {x10 : Int32} (hS : St u g H T S) (hM : Mono S0 S) (t_x0 : isO g H 2 x0) (ok : KO_X2_squeeze_458 N g H T x0 x7 x8 x9 x10 S) (hx : X (KF_X2_squeeze_458 N g H T x0 x7 x8 x9 x10 S)) : cX G o dX2_squeeze mX2_squeeze 458 [some (va_rf (some x0)), none, none, none, none, none, none, some (.int x7), some (.int x8), some (.int x9), some (.int x10), none, none, none] [] S Q := by
  unfold KO_X2_squeeze_458 at ok
  unfold KF_X2_squeeze_458 at hx
  refine c_aload_nQ dX2_squeeze_458 rfl rfl ?_
  refine c_getS (C := RX2) (T := TX2) (N := 6) (ci := 2) (k := 2) ⟨rfl, inT2, by decide, fX2_19⟩ (by decide) (by decide) (by decide) dX2_squeeze_459 (hS.k t_x0) (hS.r (c := 2) t_x0 rfl (by omega)) ?_
  refine c_iconst (v := nI 4) dX2_squeeze_462 (by decide) ?_
  refine c_dup2 dX2_squeeze_463 rfl (zcat_rf _) ?_
  refine c_iald dX2_squeeze_464 ⟨(tK.cis (hS.rk (c := 2) (k := 2) t_x0 rfl (by omega)) (Option.some_ne_none _)), (vk_cast (hS.rl (c := 2) (k := 2) t_x0 rfl (by decide) (by omega)) ok.1)⟩ ?_
  have ok := ok.2
  refine c_iload dX2_squeeze_465 rfl ?_
  refine c_iadd dX2_squeeze_467 ?_
  have tq_468 : tK S 21 (some (x0 + 3)) := tK_some (tK.cis (hS.rk (c := 2) (k := 2) t_x0 rfl (by omega)) (Option.some_ne_none _)).2
  refine c_iast hG dX2_squeeze_468 ⟨(tK.cis (hS.rk (c := 2) (k := 2) t_x0 rfl (by omega)) (Option.some_ne_none _)), (vk_cast (hS.rl (c := 2) (k := 2) t_x0 rfl (by decide) (by omega)) ok.1)⟩ ?_
  have hS := hS.Aw (k := 21) (x0 + 3) (nI 4).toNatClampNeg ((cA S (x0 + 3) (nI 4).toNatClampNeg) + x7) tq_468 (by decide)
  have hM := hM.A (x0 + 3) (nI 4).toNatClampNeg ((cA S (x0 + 3) (nI 4).toNatClampNeg) + x7)
  have ok := ok.2
  refine c_aload_nQ dX2_squeeze_469 rfl rfl ?_
  refine c_getS (C := RX2) (T := TX2) (N := 6) (ci := 2) (k := 2) ⟨rfl, inT2, by decide, fX2_19⟩ (by decide) (by decide) (by decide) dX2_squeeze_470 (hS.k t_x0) (hS.r (c := 2) t_x0 rfl (by omega)) ?_
  refine c_iconst (v := nI 5) dX2_squeeze_473 (by decide) ?_
  refine c_dup2 dX2_squeeze_474 rfl (zcat_rf _) ?_
  refine c_iald dX2_squeeze_475 ⟨(tK.cis (hS.rk (c := 2) (k := 2) t_x0 rfl (by omega)) (Option.some_ne_none _)), (vk_cast (hS.rl (c := 2) (k := 2) t_x0 rfl (by decide) (by omega)) ok.1)⟩ ?_
  have ok := ok.2
  refine c_iload dX2_squeeze_476 rfl ?_
  refine c_iadd dX2_squeeze_478 ?_
  have tq_479 : tK (csA S (x0 + 3) (nI 4).toNatClampNeg ((cA S (x0 + 3) (nI 4).toNatClampNeg) + x7)) 21 (some (x0 + 3)) := tK_some (tK.cis (hS.rk (c := 2) (k := 2) t_x0 rfl (by omega)) (Option.some_ne_none _)).2
  refine c_iast hG dX2_squeeze_479 ⟨(tK.cis (hS.rk (c := 2) (k := 2) t_x0 rfl (by omega)) (Option.some_ne_none _)), (vk_cast (hS.rl (c := 2) (k := 2) t_x0 rfl (by decide) (by omega)) ok.1)⟩ ?_
  have hS := hS.Aw (k := 21) (x0 + 3) (nI 5).toNatClampNeg ((cA (csA S (x0 + 3) (nI 4).toNatClampNeg ((cA S (x0 + 3) (nI 4).toNatClampNeg) + x7)) (x0 + 3) (nI 5).toNatClampNeg) + x8) tq_479 (by decide)
  have hM := hM.A (x0 + 3) (nI 5).toNatClampNeg ((cA (csA S (x0 + 3) (nI 4).toNatClampNeg ((cA S (x0 + 3) (nI 4).toNatClampNeg) + x7)) (x0 + 3) (nI 5).toNatClampNeg) + x8)
  have ok := ok.2
  exact cX.cutz (kb_X2_squeeze_480 hG hR hS hM t_x0 ok hx) ⟨rfl, rfl, rfl, trivial⟩
def KF_X2_squeeze_436 (N g H T : Nat) (x0 : Nat) (x5 : Int32) (x6 : Int32) (x7 : Int32) (x8 : Int32) (x9 : Int32) (x10 : Int32) (S : cS) : cS := (KF_X2_squeeze_458 N g H T x0 x7 x8 x9 x10 (csA (csA S (x0 + 3) (nI 2).toNatClampNeg ((cA S (x0 + 3) (nI 2).toNatClampNeg) + x5)) (x0 + 3) (nI 3).toNatClampNeg ((cA (csA S (x0 + 3) (nI 2).toNatClampNeg ((cA S (x0 + 3) (nI 2).toNatClampNeg) + x5)) (x0 + 3) (nI 3).toNatClampNeg) + x6)))
def KO_X2_squeeze_436 (N g H T : Nat) (x0 : Nat) (x5 : Int32) (x6 : Int32) (x7 : Int32) (x8 : Int32) (x9 : Int32) (x10 : Int32) (S : cS) : Prop := (vp_in (nI 2) 8) ∧ (vp_in (nI 2) 8) ∧ (vp_in (nI 3) 8) ∧ (vp_in (nI 3) 8) ∧ KO_X2_squeeze_458 N g H T x0 x7 x8 x9 x10 (csA (csA S (x0 + 3) (nI 2).toNatClampNeg ((cA S (x0 + 3) (nI 2).toNatClampNeg) + x5)) (x0 + 3) (nI 3).toNatClampNeg ((cA (csA S (x0 + 3) (nI 2).toNatClampNeg ((cA S (x0 + 3) (nI 2).toNatClampNeg) + x5)) (x0 + 3) (nI 3).toNatClampNeg) + x6))
set_option maxRecDepth 100000 in
set_option maxHeartbeats 4000000 in
theorem kb_X2_squeeze_436 {G : zG} {o : cO} {u g H T N : Nat} {S : cS} {S0 : cS} {Q : Option Value → cS → Prop} {X : cS → Prop} (hG : zOK G) (hR : ∀ S', St u g H T S' → Mono S0 S' → X S' → Q none S') {x0 : Nat} {x5 : Int32} {x6 : Int32} {x7 : Int32} {x8 : Int32} {x9 : Int32} {x10 : Int32} (hS : St u g H T S) (hM : Mono S0 S) (t_x0 : isO g H 2 x0) (ok : KO_X2_squeeze_436 N g H T x0 x5 x6 x7 x8 x9 x10 S) (hx : X (KF_X2_squeeze_436 N g H T x0 x5 x6 x7 x8 x9 x10 S)) : cX G o dX2_squeeze mX2_squeeze 436 [some (va_rf (some x0)), none, none, none, none, some (.int x5), some (.int x6), some (.int x7), some (.int x8), some (.int x9), some (.int x10), none, none, none] [] S Q := by
  unfold KO_X2_squeeze_436 at ok
  unfold KF_X2_squeeze_436 at hx
  refine c_aload_nQ dX2_squeeze_436 rfl rfl ?_
  refine c_getS (C := RX2) (T := TX2) (N := 6) (ci := 2) (k := 2) ⟨rfl, inT2, by decide, fX2_19⟩ (by decide) (by decide) (by decide) dX2_squeeze_437 (hS.k t_x0) (hS.r (c := 2) t_x0 rfl (by omega)) ?_
  refine c_iconst (v := nI 2) dX2_squeeze_440 (by decide) ?_
  refine c_dup2 dX2_squeeze_441 rfl (zcat_rf _) ?_
  refine c_iald dX2_squeeze_442 ⟨(tK.cis (hS.rk (c := 2) (k := 2) t_x0 rfl (by omega)) (Option.some_ne_none _)), (vk_cast (hS.rl (c := 2) (k := 2) t_x0 rfl (by decide) (by omega)) ok.1)⟩ ?_
  have ok := ok.2
  refine c_iload dX2_squeeze_443 rfl ?_
  refine c_iadd dX2_squeeze_445 ?_
  have tq_446 : tK S 21 (some (x0 + 3)) := tK_some (tK.cis (hS.rk (c := 2) (k := 2) t_x0 rfl (by omega)) (Option.some_ne_none _)).2
  refine c_iast hG dX2_squeeze_446 ⟨(tK.cis (hS.rk (c := 2) (k := 2) t_x0 rfl (by omega)) (Option.some_ne_none _)), (vk_cast (hS.rl (c := 2) (k := 2) t_x0 rfl (by decide) (by omega)) ok.1)⟩ ?_
  have hS := hS.Aw (k := 21) (x0 + 3) (nI 2).toNatClampNeg ((cA S (x0 + 3) (nI 2).toNatClampNeg) + x5) tq_446 (by decide)
  have hM := hM.A (x0 + 3) (nI 2).toNatClampNeg ((cA S (x0 + 3) (nI 2).toNatClampNeg) + x5)
  have ok := ok.2
  refine c_aload_nQ dX2_squeeze_447 rfl rfl ?_
  refine c_getS (C := RX2) (T := TX2) (N := 6) (ci := 2) (k := 2) ⟨rfl, inT2, by decide, fX2_19⟩ (by decide) (by decide) (by decide) dX2_squeeze_448 (hS.k t_x0) (hS.r (c := 2) t_x0 rfl (by omega)) ?_
  refine c_iconst (v := nI 3) dX2_squeeze_451 (by decide) ?_
  refine c_dup2 dX2_squeeze_452 rfl (zcat_rf _) ?_
  refine c_iald dX2_squeeze_453 ⟨(tK.cis (hS.rk (c := 2) (k := 2) t_x0 rfl (by omega)) (Option.some_ne_none _)), (vk_cast (hS.rl (c := 2) (k := 2) t_x0 rfl (by decide) (by omega)) ok.1)⟩ ?_
  have ok := ok.2
  refine c_iload dX2_squeeze_454 rfl ?_
  refine c_iadd dX2_squeeze_456 ?_
  have tq_457 : tK (csA S (x0 + 3) (nI 2).toNatClampNeg ((cA S (x0 + 3) (nI 2).toNatClampNeg) + x5)) 21 (some (x0 + 3)) := tK_some (tK.cis (hS.rk (c := 2) (k := 2) t_x0 rfl (by omega)) (Option.some_ne_none _)).2
  refine c_iast hG dX2_squeeze_457 ⟨(tK.cis (hS.rk (c := 2) (k := 2) t_x0 rfl (by omega)) (Option.some_ne_none _)), (vk_cast (hS.rl (c := 2) (k := 2) t_x0 rfl (by decide) (by omega)) ok.1)⟩ ?_
  have hS := hS.Aw (k := 21) (x0 + 3) (nI 3).toNatClampNeg ((cA (csA S (x0 + 3) (nI 2).toNatClampNeg ((cA S (x0 + 3) (nI 2).toNatClampNeg) + x5)) (x0 + 3) (nI 3).toNatClampNeg) + x6) tq_457 (by decide)
  have hM := hM.A (x0 + 3) (nI 3).toNatClampNeg ((cA (csA S (x0 + 3) (nI 2).toNatClampNeg ((cA S (x0 + 3) (nI 2).toNatClampNeg) + x5)) (x0 + 3) (nI 3).toNatClampNeg) + x6)
  have ok := ok.2
  exact cX.cutz (kb_X2_squeeze_458 hG hR hS hM t_x0 ok hx) ⟨rfl, rfl, rfl, rfl, rfl, trivial⟩
def KF_X2_squeeze_415 (N g H T : Nat) (x0 : Nat) (x3 : Int32) (x4 : Int32) (x5 : Int32) (x6 : Int32) (x7 : Int32) (x8 : Int32) (x9 : Int32) (x10 : Int32) (S : cS) : cS := (KF_X2_squeeze_436 N g H T x0 x5 x6 x7 x8 x9 x10 (csA (csA S (x0 + 3) (nI 0).toNatClampNeg ((cA S (x0 + 3) (nI 0).toNatClampNeg) + x3)) (x0 + 3) (nI 1).toNatClampNeg ((cA (csA S (x0 + 3) (nI 0).toNatClampNeg ((cA S (x0 + 3) (nI 0).toNatClampNeg) + x3)) (x0 + 3) (nI 1).toNatClampNeg) + x4)))
def KO_X2_squeeze_415 (N g H T : Nat) (x0 : Nat) (x3 : Int32) (x4 : Int32) (x5 : Int32) (x6 : Int32) (x7 : Int32) (x8 : Int32) (x9 : Int32) (x10 : Int32) (S : cS) : Prop := (vp_in (nI 0) 8) ∧ (vp_in (nI 0) 8) ∧ (vp_in (nI 1) 8) ∧ (vp_in (nI 1) 8) ∧ KO_X2_squeeze_436 N g H T x0 x5 x6 x7 x8 x9 x10 (csA (csA S (x0 + 3) (nI 0).toNatClampNeg ((cA S (x0 + 3) (nI 0).toNatClampNeg) + x3)) (x0 + 3) (nI 1).toNatClampNeg ((cA (csA S (x0 + 3) (nI 0).toNatClampNeg ((cA S (x0 + 3) (nI 0).toNatClampNeg) + x3)) (x0 + 3) (nI 1).toNatClampNeg) + x4))
set_option maxRecDepth 100000 in
set_option maxHeartbeats 4000000 in
theorem kb_X2_squeeze_415 {G : zG} {o : cO} {u g H T N : Nat} {S : cS} {S0 : cS} {Q : Option Value → cS → Prop} {X : cS → Prop} (hG : zOK G) (hR : ∀ S', St u g H T S' → Mono S0 S' → X S' → Q none S') {x0 : Nat} {x3 : Int32} {x4 : Int32} {x5 : Int32} {x6 : Int32} {x7 : Int32} {x8 : Int32} {x9 : Int32} {x10 : Int32} (hS : St u g H T S) (hM : Mono S0 S) (t_x0 : isO g H 2 x0) (ok : KO_X2_squeeze_415 N g H T x0 x3 x4 x5 x6 x7 x8 x9 x10 S) (hx : X (KF_X2_squeeze_415 N g H T x0 x3 x4 x5 x6 x7 x8 x9 x10 S)) : cX G o dX2_squeeze mX2_squeeze 415 [some (va_rf (some x0)), none, none, some (.int x3), some (.int x4), some (.int x5), some (.int x6), some (.int x7), some (.int x8), some (.int x9), some (.int x10), none, none, none] [] S Q := by
  unfold KO_X2_squeeze_415 at ok
  unfold KF_X2_squeeze_415 at hx
  refine c_aload_nQ dX2_squeeze_415 rfl rfl ?_
  refine c_getS (C := RX2) (T := TX2) (N := 6) (ci := 2) (k := 2) ⟨rfl, inT2, by decide, fX2_19⟩ (by decide) (by decide) (by decide) dX2_squeeze_416 (hS.k t_x0) (hS.r (c := 2) t_x0 rfl (by omega)) ?_
  refine c_iconst (v := nI 0) dX2_squeeze_419 (by decide) ?_
  refine c_dup2 dX2_squeeze_420 rfl (zcat_rf _) ?_
  refine c_iald dX2_squeeze_421 ⟨(tK.cis (hS.rk (c := 2) (k := 2) t_x0 rfl (by omega)) (Option.some_ne_none _)), (vk_cast (hS.rl (c := 2) (k := 2) t_x0 rfl (by decide) (by omega)) ok.1)⟩ ?_
  have ok := ok.2
  refine c_iload_n dX2_squeeze_422 rfl rfl ?_
  refine c_iadd dX2_squeeze_423 ?_
  have tq_424 : tK S 21 (some (x0 + 3)) := tK_some (tK.cis (hS.rk (c := 2) (k := 2) t_x0 rfl (by omega)) (Option.some_ne_none _)).2
  refine c_iast hG dX2_squeeze_424 ⟨(tK.cis (hS.rk (c := 2) (k := 2) t_x0 rfl (by omega)) (Option.some_ne_none _)), (vk_cast (hS.rl (c := 2) (k := 2) t_x0 rfl (by decide) (by omega)) ok.1)⟩ ?_
  have hS := hS.Aw (k := 21) (x0 + 3) (nI 0).toNatClampNeg ((cA S (x0 + 3) (nI 0).toNatClampNeg) + x3) tq_424 (by decide)
  have hM := hM.A (x0 + 3) (nI 0).toNatClampNeg ((cA S (x0 + 3) (nI 0).toNatClampNeg) + x3)
  have ok := ok.2
  refine c_aload_nQ dX2_squeeze_425 rfl rfl ?_
  refine c_getS (C := RX2) (T := TX2) (N := 6) (ci := 2) (k := 2) ⟨rfl, inT2, by decide, fX2_19⟩ (by decide) (by decide) (by decide) dX2_squeeze_426 (hS.k t_x0) (hS.r (c := 2) t_x0 rfl (by omega)) ?_
  refine c_iconst (v := nI 1) dX2_squeeze_429 (by decide) ?_
  refine c_dup2 dX2_squeeze_430 rfl (zcat_rf _) ?_
  refine c_iald dX2_squeeze_431 ⟨(tK.cis (hS.rk (c := 2) (k := 2) t_x0 rfl (by omega)) (Option.some_ne_none _)), (vk_cast (hS.rl (c := 2) (k := 2) t_x0 rfl (by decide) (by omega)) ok.1)⟩ ?_
  have ok := ok.2
  refine c_iload dX2_squeeze_432 rfl ?_
  refine c_iadd dX2_squeeze_434 ?_
  have tq_435 : tK (csA S (x0 + 3) (nI 0).toNatClampNeg ((cA S (x0 + 3) (nI 0).toNatClampNeg) + x3)) 21 (some (x0 + 3)) := tK_some (tK.cis (hS.rk (c := 2) (k := 2) t_x0 rfl (by omega)) (Option.some_ne_none _)).2
  refine c_iast hG dX2_squeeze_435 ⟨(tK.cis (hS.rk (c := 2) (k := 2) t_x0 rfl (by omega)) (Option.some_ne_none _)), (vk_cast (hS.rl (c := 2) (k := 2) t_x0 rfl (by decide) (by omega)) ok.1)⟩ ?_
  have hS := hS.Aw (k := 21) (x0 + 3) (nI 1).toNatClampNeg ((cA (csA S (x0 + 3) (nI 0).toNatClampNeg ((cA S (x0 + 3) (nI 0).toNatClampNeg) + x3)) (x0 + 3) (nI 1).toNatClampNeg) + x4) tq_435 (by decide)
  have hM := hM.A (x0 + 3) (nI 1).toNatClampNeg ((cA (csA S (x0 + 3) (nI 0).toNatClampNeg ((cA S (x0 + 3) (nI 0).toNatClampNeg) + x3)) (x0 + 3) (nI 1).toNatClampNeg) + x4)
  have ok := ok.2
  exact cX.cutz (kb_X2_squeeze_436 hG hR hS hM t_x0 ok hx) ⟨rfl, rfl, rfl, rfl, rfl, rfl, rfl, trivial⟩
def KF_X2_squeeze_408 (N g H T : Nat) (rec : Nat → Option Nat → Int32 → Int32 → Int32 → Int32 → Int32 → Int32 → Int32 → Int32 → Int32 → cS → Nat × Nat × Int32 × Int32 × Int32 × Int32 × Int32 × Int32 × Int32 × Int32 × cS) (x0 : Nat) (x2 : Option Nat) (x4 : Int32) (x5 : Int32) (x6 : Int32) (x7 : Int32) (x8 : Int32) (x9 : Int32) (x10 : Int32) (x11 : Int32) (s0 : Int32) (S : cS) : Nat × Nat × Int32 × Int32 × Int32 × Int32 × Int32 × Int32 × Int32 × Int32 × cS := (rec x0 x2 s0 x4 x5 x6 x7 x8 x9 x10 (x11 + nI 1) S)
def KO_X2_squeeze_408 (N g H T : Nat) (rok : Nat → Option Nat → Int32 → Int32 → Int32 → Int32 → Int32 → Int32 → Int32 → Int32 → Int32 → cS → Prop) (x0 : Nat) (x2 : Option Nat) (x4 : Int32) (x5 : Int32) (x6 : Int32) (x7 : Int32) (x8 : Int32) (x9 : Int32) (x10 : Int32) (x11 : Int32) (s0 : Int32) (S : cS) : Prop := rok x0 x2 s0 x4 x5 x6 x7 x8 x9 x10 (x11 + nI 1) S
set_option maxRecDepth 100000 in
set_option maxHeartbeats 4000000 in
theorem kb_X2_squeeze_408 {G : zG} {o : cO} {u g H T N : Nat} {S : cS} {S0 : cS} {Q : Option Value → cS → Prop} {X : Nat × Nat × Int32 × Int32 × Int32 × Int32 × Int32 × Int32 × Int32 × Int32 × cS → Prop} (hG : zOK G) (hX0 : ∀ (x0 : Nat) (x3 : Int32) (x4 : Int32) (x5 : Int32) (x6 : Int32) (x7 : Int32) (x8 : Int32) (x9 : Int32) (x10 : Int32) (S' : cS), St u g H T S' → Mono S0 S' → isO g H 2 x0 → X (0, x0, x3, x4, x5, x6, x7, x8, x9, x10, S') → cX G o dX2_squeeze mX2_squeeze 415 [some (va_rf (some x0)), none, none, some (.int x3), some (.int x4), some (.int x5), some (.int x6), some (.int x7), some (.int x8), some (.int x9), some (.int x10), none, none, none] [] S' Q) {rec : Nat → Option Nat → Int32 → Int32 → Int32 → Int32 → Int32 → Int32 → Int32 → Int32 → Int32 → cS → Nat × Nat × Int32 × Int32 × Int32 × Int32 × Int32 × Int32 × Int32 × Int32 × cS} {rok : Nat → Option Nat → Int32 → Int32 → Int32 → Int32 → Int32 → Int32 → Int32 → Int32 → Int32 → cS → Prop} (hrec : ∀ (x0 : Nat) (x2 : Option Nat) (x3 : Int32) (x4 : Int32) (x5 : Int32) (x6 : Int32) (x7 : Int32) (x8 : Int32) (x9 : Int32) (x10 : Int32) (x11 : Int32) (S : cS), St u g H T S → Mono S0 S → isO g H 2 x0 → tK S 21 x2 → rok x0 x2 x3 x4 x5 x6 x7 x8 x9 x10 x11 S → X (rec x0 x2 x3 x4 x5 x6 x7 x8 x9 x10 x11 S) → cX G o dX2_squeeze mX2_squeeze 259 [some (va_rf (some x0)), none, some (va_rf x2), some (.int x3), some (.int x4), some (.int x5), some (.int x6), some (.int x7), some (.int x8), some (.int x9), some (.int x10), some (.int x11), none, none] [] S Q) {x0 : Nat} {x2 : Option Nat} {x4 : Int32} {x5 : Int32} {x6 : Int32} {x7 : Int32} {x8 : Int32} {x9 : Int32} {x10 : Int32} {x11 : Int32} {s0 : Int32} (hS : St u g H T S) (hM : Mono S0 S) (t_x0 : isO g H 2 x0) (t_x2 : tK S 21 x2) (ok : KO_X2_squeeze_408 N g H T rok x0 x2 x4 x5 x6 x7 x8 x9 x10 x11 s0 S) (hx : X (KF_X2_squeeze_408 N g H T rec x0 x2 x4 x5 x6 x7 x8 x9 x10 x11 s0 S)) : cX G o dX2_squeeze mX2_squeeze 408 [some (va_rf (some x0)), none, some (va_rf x2), none, some (.int x4), some (.int x5), some (.int x6), some (.int x7), some (.int x8), some (.int x9), some (.int x10), some (.int x11), none, none] [.int s0] S Q := by
  unfold KO_X2_squeeze_408 at ok
  unfold KF_X2_squeeze_408 at hx
  refine c_istore_3 dX2_squeeze_408 (by decide) (by simp [zok, zg, zcat_rf]) ?_
  refine c_iinc_11 (v := (x11 + nI 1)) dX2_squeeze_409 rfl (by first | rfl | (congr 1)) (by decide) rfl ?_
  refine c_goto (tgt := 259) dX2_squeeze_412 (by decide) ?_
  exact cX.cutz (hrec _ _ _ _ _ _ _ _ _ _ _ S hS hM t_x0 t_x2 ok hx) ⟨rfl, rfl, rfl, rfl, rfl, rfl, rfl, rfl, rfl, rfl, rfl, trivial⟩
def KF_X2_squeeze_348 (N g H T : Nat) (rec : Nat → Option Nat → Int32 → Int32 → Int32 → Int32 → Int32 → Int32 → Int32 → Int32 → Int32 → cS → Nat × Nat × Int32 × Int32 × Int32 × Int32 × Int32 × Int32 × Int32 × Int32 × cS) (x0 : Nat) (x2 : Option Nat) (x3 : Int32) (x4 : Int32) (x5 : Int32) (x6 : Int32) (x7 : Int32) (x8 : Int32) (x9 : Int32) (x11 : Int32) (x12 : Int32) (s0 : Int32) (S : cS) : Nat × Nat × Int32 × Int32 × Int32 × Int32 × Int32 × Int32 × Int32 × Int32 × cS := (KF_X2_squeeze_408 N g H T rec x0 x2 x3 x4 x5 (x6 + x12) x7 x8 x9 x11 (x12 + ((s0 ^^^ (((Int32.toUInt32 x3 >>> (Int32.toUInt32 ((nI 22)) &&& Int32.toUInt32 31)).toInt32) ||| (x3 <<< ((nI 10) &&& 31)))) + ((x3 &&& x4) ||| (x5 &&& (x3 ||| x4))))) S)
def KO_X2_squeeze_348 (N g H T : Nat) (rok : Nat → Option Nat → Int32 → Int32 → Int32 → Int32 → Int32 → Int32 → Int32 → Int32 → Int32 → cS → Prop) (x0 : Nat) (x2 : Option Nat) (x3 : Int32) (x4 : Int32) (x5 : Int32) (x6 : Int32) (x7 : Int32) (x8 : Int32) (x9 : Int32) (x11 : Int32) (x12 : Int32) (s0 : Int32) (S : cS) : Prop := KO_X2_squeeze_408 N g H T rok x0 x2 x3 x4 x5 (x6 + x12) x7 x8 x9 x11 (x12 + ((s0 ^^^ (((Int32.toUInt32 x3 >>> (Int32.toUInt32 ((nI 22)) &&& Int32.toUInt32 31)).toInt32) ||| (x3 <<< ((nI 10) &&& 31)))) + ((x3 &&& x4) ||| (x5 &&& (x3 ||| x4))))) S
set_option maxRecDepth 100000 in
set_option maxHeartbeats 4000000 in
theorem kb_X2_squeeze_348 {G : zG} {o : cO} {u g H T N : Nat} {S : cS} {S0 : cS} {Q : Option Value → cS → Prop} {X : Nat × Nat × Int32 × Int32 × Int32 × Int32 × Int32 × Int32 × Int32 × Int32 × cS → Prop} (hG : zOK G) (hX0 : ∀ (x0 : Nat) (x3 : Int32) (x4 : Int32) (x5 : Int32) (x6 : Int32) (x7 : Int32) (x8 : Int32) (x9 : Int32) (x10 : Int32) (S' : cS), St u g H T S' → Mono S0 S' → isO g H 2 x0 → X (0, x0, x3, x4, x5, x6, x7, x8, x9, x10, S') → cX G o dX2_squeeze mX2_squeeze 415 [some (va_rf (some x0)), none, none, some (.int x3), some (.int x4), some (.int x5), some (.int x6), some (.int x7), some (.int x8), some (.int x9), some (.int x10), none, none, none] [] S' Q) {rec : Nat → Option Nat → Int32 → Int32 → Int32 → Int32 → Int32 → Int32 → Int32 → Int32 → Int32 → cS → Nat × Nat × Int32 × Int32 × Int32 × Int32 × Int32 × Int32 × Int32 × Int32 × cS} {rok : Nat → Option Nat → Int32 → Int32 → Int32 → Int32 → Int32 → Int32 → Int32 → Int32 → Int32 → cS → Prop} (hrec : ∀ (x0 : Nat) (x2 : Option Nat) (x3 : Int32) (x4 : Int32) (x5 : Int32) (x6 : Int32) (x7 : Int32) (x8 : Int32) (x9 : Int32) (x10 : Int32) (x11 : Int32) (S : cS), St u g H T S → Mono S0 S → isO g H 2 x0 → tK S 21 x2 → rok x0 x2 x3 x4 x5 x6 x7 x8 x9 x10 x11 S → X (rec x0 x2 x3 x4 x5 x6 x7 x8 x9 x10 x11 S) → cX G o dX2_squeeze mX2_squeeze 259 [some (va_rf (some x0)), none, some (va_rf x2), some (.int x3), some (.int x4), some (.int x5), some (.int x6), some (.int x7), some (.int x8), some (.int x9), some (.int x10), some (.int x11), none, none] [] S Q) {x0 : Nat} {x2 : Option Nat} {x3 : Int32} {x4 : Int32} {x5 : Int32} {x6 : Int32} {x7 : Int32} {x8 : Int32} {x9 : Int32} {x11 : Int32} {x12 : Int32} {s0 : Int32} (hS : St u g H T S) (hM : Mono S0 S) (t_x0 : isO g H 2 x0) (t_x2 : tK S 21 x2) (ok : KO_X2_squeeze_348 N g H T rok x0 x2 x3 x4 x5 x6 x7 x8 x9 x11 x12 s0 S) (hx : X (KF_X2_squeeze_348 N g H T rec x0 x2 x3 x4 x5 x6 x7 x8 x9 x11 x12 s0 S)) : cX G o dX2_squeeze mX2_squeeze 348 [some (va_rf (some x0)), none, some (va_rf x2), some (.int x3), some (.int x4), some (.int x5), some (.int x6), some (.int x7), some (.int x8), some (.int x9), none, some (.int x11), some (.int x12), none] [.int s0] S Q := by
  unfold KO_X2_squeeze_348 at ok
  unfold KF_X2_squeeze_348 at hx
  refine c_iload_n dX2_squeeze_348 rfl rfl ?_
  refine c_bipush (v := nI 22) dX2_squeeze_349 (by decide) ?_
  refine c_iushr dX2_squeeze_351 ?_
  refine c_iload_n dX2_squeeze_352 rfl rfl ?_
  refine c_bipush (v := nI 10) dX2_squeeze_353 (by decide) ?_
  refine c_ishl dX2_squeeze_355 ?_
  refine c_ior dX2_squeeze_356 ?_
  refine c_ixor dX2_squeeze_357 ?_
  refine c_iload_n dX2_squeeze_358 rfl rfl ?_
  refine c_iload dX2_squeeze_359 rfl ?_
  refine c_iand dX2_squeeze_361 ?_
  refine c_iload dX2_squeeze_362 rfl ?_
  refine c_iload_n dX2_squeeze_364 rfl rfl ?_
  refine c_iload dX2_squeeze_365 rfl ?_
  refine c_ior dX2_squeeze_367 ?_
  refine c_iand dX2_squeeze_368 ?_
  refine c_ior dX2_squeeze_369 ?_
  refine c_iadd dX2_squeeze_370 ?_
  refine c_istore_13 dX2_squeeze_371 (by decide) rfl ?_
  refine c_iload dX2_squeeze_373 rfl ?_
  refine c_istore_10 dX2_squeeze_375 (by decide) rfl ?_
  refine c_iload dX2_squeeze_377 rfl ?_
  refine c_istore_9 dX2_squeeze_379 (by decide) rfl ?_
  refine c_iload dX2_squeeze_381 rfl ?_
  refine c_istore_8 dX2_squeeze_383 (by decide) rfl ?_
  refine c_iload dX2_squeeze_385 rfl ?_
  refine c_iload dX2_squeeze_387 rfl ?_
  refine c_iadd dX2_squeeze_389 ?_
  refine c_istore_7 dX2_squeeze_390 (by decide) rfl ?_
  refine c_iload dX2_squeeze_392 rfl ?_
  refine c_istore_6 dX2_squeeze_394 (by decide) rfl ?_
  refine c_iload dX2_squeeze_396 rfl ?_
  refine c_istore_5 dX2_squeeze_398 (by decide) rfl ?_
  refine c_iload_n dX2_squeeze_400 rfl rfl ?_
  refine c_istore_4 dX2_squeeze_401 (by decide) rfl ?_
  refine c_iload dX2_squeeze_403 rfl ?_
  refine c_iload dX2_squeeze_405 rfl ?_
  refine c_iadd dX2_squeeze_407 ?_
  exact cX.cutz (kb_X2_squeeze_408 hG hX0 hrec hS hM t_x0 t_x2 ok hx) ⟨rfl, rfl, rfl, rfl, rfl, rfl, rfl, rfl, rfl, rfl, trivial⟩
def KF_X2_squeeze_323 (N g H T : Nat) (rec : Nat → Option Nat → Int32 → Int32 → Int32 → Int32 → Int32 → Int32 → Int32 → Int32 → Int32 → cS → Nat × Nat × Int32 × Int32 × Int32 × Int32 × Int32 × Int32 × Int32 × Int32 × cS) (x0 : Nat) (x2 : Option Nat) (x3 : Int32) (x4 : Int32) (x5 : Int32) (x6 : Int32) (x7 : Int32) (x8 : Int32) (x9 : Int32) (x11 : Int32) (s0 : Int32) (S : cS) : Nat × Nat × Int32 × Int32 × Int32 × Int32 × Int32 × Int32 × Int32 × Int32 × cS := (KF_X2_squeeze_348 N g H T rec x0 x2 x3 x4 x5 x6 x7 x8 x9 x11 (s0 + (cA S (za x2) x11.toNatClampNeg)) ((((Int32.toUInt32 x3 >>> (Int32.toUInt32 ((nI 2)) &&& Int32.toUInt32 31)).toInt32) ||| (x3 <<< ((nI 30) &&& 31))) ^^^ (((Int32.toUInt32 x3 >>> (Int32.toUInt32 ((nI 13)) &&& Int32.toUInt32 31)).toInt32) ||| (x3 <<< ((nI 19) &&& 31)))) S)
def KO_X2_squeeze_323 (N g H T : Nat) (rok : Nat → Option Nat → Int32 → Int32 → Int32 → Int32 → Int32 → Int32 → Int32 → Int32 → Int32 → cS → Prop) (x0 : Nat) (x2 : Option Nat) (x3 : Int32) (x4 : Int32) (x5 : Int32) (x6 : Int32) (x7 : Int32) (x8 : Int32) (x9 : Int32) (x11 : Int32) (s0 : Int32) (S : cS) : Prop := (¬ x2 = none ∧ vp_in x11 (cL S (za x2))) ∧ KO_X2_squeeze_348 N g H T rok x0 x2 x3 x4 x5 x6 x7 x8 x9 x11 (s0 + (cA S (za x2) x11.toNatClampNeg)) ((((Int32.toUInt32 x3 >>> (Int32.toUInt32 ((nI 2)) &&& Int32.toUInt32 31)).toInt32) ||| (x3 <<< ((nI 30) &&& 31))) ^^^ (((Int32.toUInt32 x3 >>> (Int32.toUInt32 ((nI 13)) &&& Int32.toUInt32 31)).toInt32) ||| (x3 <<< ((nI 19) &&& 31)))) S
set_option maxRecDepth 100000 in
set_option maxHeartbeats 4000000 in
theorem kb_X2_squeeze_323 {G : zG} {o : cO} {u g H T N : Nat} {S : cS} {S0 : cS} {Q : Option Value → cS → Prop} {X : Nat × Nat × Int32 × Int32 × Int32 × Int32 × Int32 × Int32 × Int32 × Int32 × cS → Prop} (hG : zOK G) (hX0 : ∀ (x0 : Nat) (x3 : Int32) (x4 : Int32) (x5 : Int32) (x6 : Int32) (x7 : Int32) (x8 : Int32) (x9 : Int32) (x10 : Int32) (S' : cS), St u g H T S' → Mono S0 S' → isO g H 2 x0 → X (0, x0, x3, x4, x5, x6, x7, x8, x9, x10, S') → cX G o dX2_squeeze mX2_squeeze 415 [some (va_rf (some x0)), none, none, some (.int x3), some (.int x4), some (.int x5), some (.int x6), some (.int x7), some (.int x8), some (.int x9), some (.int x10), none, none, none] [] S' Q) {rec : Nat → Option Nat → Int32 → Int32 → Int32 → Int32 → Int32 → Int32 → Int32 → Int32 → Int32 → cS → Nat × Nat × Int32 × Int32 × Int32 × Int32 × Int32 × Int32 × Int32 × Int32 × cS} {rok : Nat → Option Nat → Int32 → Int32 → Int32 → Int32 → Int32 → Int32 → Int32 → Int32 → Int32 → cS → Prop} (hrec : ∀ (x0 : Nat) (x2 : Option Nat) (x3 : Int32) (x4 : Int32) (x5 : Int32) (x6 : Int32) (x7 : Int32) (x8 : Int32) (x9 : Int32) (x10 : Int32) (x11 : Int32) (S : cS), St u g H T S → Mono S0 S → isO g H 2 x0 → tK S 21 x2 → rok x0 x2 x3 x4 x5 x6 x7 x8 x9 x10 x11 S → X (rec x0 x2 x3 x4 x5 x6 x7 x8 x9 x10 x11 S) → cX G o dX2_squeeze mX2_squeeze 259 [some (va_rf (some x0)), none, some (va_rf x2), some (.int x3), some (.int x4), some (.int x5), some (.int x6), some (.int x7), some (.int x8), some (.int x9), some (.int x10), some (.int x11), none, none] [] S Q) {x0 : Nat} {x2 : Option Nat} {x3 : Int32} {x4 : Int32} {x5 : Int32} {x6 : Int32} {x7 : Int32} {x8 : Int32} {x9 : Int32} {x11 : Int32} {s0 : Int32} (hS : St u g H T S) (hM : Mono S0 S) (t_x0 : isO g H 2 x0) (t_x2 : tK S 21 x2) (ok : KO_X2_squeeze_323 N g H T rok x0 x2 x3 x4 x5 x6 x7 x8 x9 x11 s0 S) (hx : X (KF_X2_squeeze_323 N g H T rec x0 x2 x3 x4 x5 x6 x7 x8 x9 x11 s0 S)) : cX G o dX2_squeeze mX2_squeeze 323 [some (va_rf (some x0)), none, some (va_rf x2), some (.int x3), some (.int x4), some (.int x5), some (.int x6), some (.int x7), some (.int x8), some (.int x9), none, some (.int x11), none, none] [.int s0] S Q := by
  unfold KO_X2_squeeze_323 at ok
  unfold KF_X2_squeeze_323 at hx
  refine c_aload_nQ dX2_squeeze_323 rfl rfl ?_
  refine c_iload dX2_squeeze_324 rfl ?_
  refine c_iald dX2_squeeze_326 ⟨(tK.cis t_x2 ok.1.1), ok.1.2⟩ ?_
  have ok := ok.2
  refine c_iadd dX2_squeeze_327 ?_
  refine c_istore_12 dX2_squeeze_328 (by decide) rfl ?_
  refine c_iload_n dX2_squeeze_330 rfl rfl ?_
  refine c_iconst (v := nI 2) dX2_squeeze_331 (by decide) ?_
  refine c_iushr dX2_squeeze_332 ?_
  refine c_iload_n dX2_squeeze_333 rfl rfl ?_
  refine c_bipush (v := nI 30) dX2_squeeze_334 (by decide) ?_
  refine c_ishl dX2_squeeze_336 ?_
  refine c_ior dX2_squeeze_337 ?_
  refine c_iload_n dX2_squeeze_338 rfl rfl ?_
  refine c_bipush (v := nI 13) dX2_squeeze_339 (by decide) ?_
  refine c_iushr dX2_squeeze_341 ?_
  refine c_iload_n dX2_squeeze_342 rfl rfl ?_
  refine c_bipush (v := nI 19) dX2_squeeze_343 (by decide) ?_
  refine c_ishl dX2_squeeze_345 ?_
  refine c_ior dX2_squeeze_346 ?_
  refine c_ixor dX2_squeeze_347 ?_
  exact cX.cutz (kb_X2_squeeze_348 hG hX0 hrec hS hM t_x0 t_x2 ok hx) ⟨rfl, rfl, rfl, rfl, rfl, rfl, rfl, rfl, rfl, rfl, rfl, trivial⟩
def KF_X2_squeeze_291 (N g H T : Nat) (rec : Nat → Option Nat → Int32 → Int32 → Int32 → Int32 → Int32 → Int32 → Int32 → Int32 → Int32 → cS → Nat × Nat × Int32 × Int32 × Int32 × Int32 × Int32 × Int32 × Int32 × Int32 × cS) (x0 : Nat) (x2 : Option Nat) (x3 : Int32) (x4 : Int32) (x5 : Int32) (x6 : Int32) (x7 : Int32) (x8 : Int32) (x9 : Int32) (x11 : Int32) (s0 : Int32) (s1 : Int32) (S : cS) : Nat × Nat × Int32 × Int32 × Int32 × Int32 × Int32 × Int32 × Int32 × Int32 × cS := (KF_X2_squeeze_323 N g H T rec x0 x2 x3 x4 x5 x6 x7 x8 x9 x11 (((s0 + (s1 ^^^ (((Int32.toUInt32 x7 >>> (Int32.toUInt32 ((nI 25)) &&& Int32.toUInt32 31)).toInt32) ||| (x7 <<< ((nI 7) &&& 31))))) + (x9 ^^^ (x7 &&& (x8 ^^^ x9)))) + (zADDED.getD x11.toNatClampNeg 0)) S)
def KO_X2_squeeze_291 (N g H T : Nat) (rok : Nat → Option Nat → Int32 → Int32 → Int32 → Int32 → Int32 → Int32 → Int32 → Int32 → Int32 → cS → Prop) (x0 : Nat) (x2 : Option Nat) (x3 : Int32) (x4 : Int32) (x5 : Int32) (x6 : Int32) (x7 : Int32) (x8 : Int32) (x9 : Int32) (x11 : Int32) (s0 : Int32) (s1 : Int32) (S : cS) : Prop := (vp_in x11 64) ∧ KO_X2_squeeze_323 N g H T rok x0 x2 x3 x4 x5 x6 x7 x8 x9 x11 (((s0 + (s1 ^^^ (((Int32.toUInt32 x7 >>> (Int32.toUInt32 ((nI 25)) &&& Int32.toUInt32 31)).toInt32) ||| (x7 <<< ((nI 7) &&& 31))))) + (x9 ^^^ (x7 &&& (x8 ^^^ x9)))) + (zADDED.getD x11.toNatClampNeg 0)) S
set_option maxRecDepth 100000 in
set_option maxHeartbeats 4000000 in
theorem kb_X2_squeeze_291 {G : zG} {o : cO} {u g H T N : Nat} {S : cS} {S0 : cS} {Q : Option Value → cS → Prop} {X : Nat × Nat × Int32 × Int32 × Int32 × Int32 × Int32 × Int32 × Int32 × Int32 × cS → Prop} (hG : zOK G) (hX0 : ∀ (x0 : Nat) (x3 : Int32) (x4 : Int32) (x5 : Int32) (x6 : Int32) (x7 : Int32) (x8 : Int32) (x9 : Int32) (x10 : Int32) (S' : cS), St u g H T S' → Mono S0 S' → isO g H 2 x0 → X (0, x0, x3, x4, x5, x6, x7, x8, x9, x10, S') → cX G o dX2_squeeze mX2_squeeze 415 [some (va_rf (some x0)), none, none, some (.int x3), some (.int x4), some (.int x5), some (.int x6), some (.int x7), some (.int x8), some (.int x9), some (.int x10), none, none, none] [] S' Q) {rec : Nat → Option Nat → Int32 → Int32 → Int32 → Int32 → Int32 → Int32 → Int32 → Int32 → Int32 → cS → Nat × Nat × Int32 × Int32 × Int32 × Int32 × Int32 × Int32 × Int32 × Int32 × cS} {rok : Nat → Option Nat → Int32 → Int32 → Int32 → Int32 → Int32 → Int32 → Int32 → Int32 → Int32 → cS → Prop} (hrec : ∀ (x0 : Nat) (x2 : Option Nat) (x3 : Int32) (x4 : Int32) (x5 : Int32) (x6 : Int32) (x7 : Int32) (x8 : Int32) (x9 : Int32) (x10 : Int32) (x11 : Int32) (S : cS), St u g H T S → Mono S0 S → isO g H 2 x0 → tK S 21 x2 → rok x0 x2 x3 x4 x5 x6 x7 x8 x9 x10 x11 S → X (rec x0 x2 x3 x4 x5 x6 x7 x8 x9 x10 x11 S) → cX G o dX2_squeeze mX2_squeeze 259 [some (va_rf (some x0)), none, some (va_rf x2), some (.int x3), some (.int x4), some (.int x5), some (.int x6), some (.int x7), some (.int x8), some (.int x9), some (.int x10), some (.int x11), none, none] [] S Q) {x0 : Nat} {x2 : Option Nat} {x3 : Int32} {x4 : Int32} {x5 : Int32} {x6 : Int32} {x7 : Int32} {x8 : Int32} {x9 : Int32} {x11 : Int32} {s0 : Int32} {s1 : Int32} (hS : St u g H T S) (hM : Mono S0 S) (t_x0 : isO g H 2 x0) (t_x2 : tK S 21 x2) (ok : KO_X2_squeeze_291 N g H T rok x0 x2 x3 x4 x5 x6 x7 x8 x9 x11 s0 s1 S) (hx : X (KF_X2_squeeze_291 N g H T rec x0 x2 x3 x4 x5 x6 x7 x8 x9 x11 s0 s1 S)) : cX G o dX2_squeeze mX2_squeeze 291 [some (va_rf (some x0)), none, some (va_rf x2), some (.int x3), some (.int x4), some (.int x5), some (.int x6), some (.int x7), some (.int x8), some (.int x9), none, some (.int x11), none, none] [.int s1, .int s0] S Q := by
  unfold KO_X2_squeeze_291 at ok
  unfold KF_X2_squeeze_291 at hx
  refine c_iload dX2_squeeze_291 rfl ?_
  refine c_bipush (v := nI 25) dX2_squeeze_293 (by decide) ?_
  refine c_iushr dX2_squeeze_295 ?_
  refine c_iload dX2_squeeze_296 rfl ?_
  refine c_bipush (v := nI 7) dX2_squeeze_298 (by decide) ?_
  refine c_ishl dX2_squeeze_300 ?_
  refine c_ior dX2_squeeze_301 ?_
  refine c_ixor dX2_squeeze_302 ?_
  refine c_iadd dX2_squeeze_303 ?_
  refine c_iload dX2_squeeze_304 rfl ?_
  refine c_iload dX2_squeeze_306 rfl ?_
  refine c_iload dX2_squeeze_308 rfl ?_
  refine c_iload dX2_squeeze_310 rfl ?_
  refine c_ixor dX2_squeeze_312 ?_
  refine c_iand dX2_squeeze_313 ?_
  refine c_ixor dX2_squeeze_314 ?_
  refine c_iadd dX2_squeeze_315 ?_
  refine c_gets2 fX2_48 dX2_squeeze_316 ?_
  refine c_iload dX2_squeeze_319 rfl ?_
  refine c_sald2 dX2_squeeze_321 ok.1 ?_
  have ok := ok.2
  refine c_iadd dX2_squeeze_322 ?_
  exact cX.cutz (kb_X2_squeeze_323 hG hX0 hrec hS hM t_x0 t_x2 ok hx) ⟨rfl, rfl, rfl, rfl, rfl, rfl, rfl, rfl, rfl, rfl, trivial⟩
def KB_X2_squeeze_259 (N g H T : Nat) (rec : Nat → Option Nat → Int32 → Int32 → Int32 → Int32 → Int32 → Int32 → Int32 → Int32 → Int32 → cS → Nat × Nat × Int32 × Int32 × Int32 × Int32 × Int32 × Int32 × Int32 × Int32 × cS) (x0 : Nat) (x2 : Option Nat) (x3 : Int32) (x4 : Int32) (x5 : Int32) (x6 : Int32) (x7 : Int32) (x8 : Int32) (x9 : Int32) (x10 : Int32) (x11 : Int32) (S : cS) : Nat × Nat × Int32 × Int32 × Int32 × Int32 × Int32 × Int32 × Int32 × Int32 × cS := (if (nI 64) ≤ x11 then (0, x0, x3, x4, x5, x6, x7, x8, x9, x10, S) else (KF_X2_squeeze_291 N g H T rec x0 x2 x3 x4 x5 x6 x7 x8 x9 x11 x10 ((((Int32.toUInt32 x7 >>> (Int32.toUInt32 ((nI 6)) &&& Int32.toUInt32 31)).toInt32) ||| (x7 <<< ((nI 26) &&& 31))) ^^^ (((Int32.toUInt32 x7 >>> (Int32.toUInt32 ((nI 11)) &&& Int32.toUInt32 31)).toInt32) ||| (x7 <<< ((nI 21) &&& 31)))) S))
def KOB_X2_squeeze_259 (N g H T : Nat) (rok : Nat → Option Nat → Int32 → Int32 → Int32 → Int32 → Int32 → Int32 → Int32 → Int32 → Int32 → cS → Prop) (x0 : Nat) (x2 : Option Nat) (x3 : Int32) (x4 : Int32) (x5 : Int32) (x6 : Int32) (x7 : Int32) (x8 : Int32) (x9 : Int32) (x10 : Int32) (x11 : Int32) (S : cS) : Prop := (((nI 64) ≤ x11 → True) ∧ (¬ (nI 64) ≤ x11 → KO_X2_squeeze_291 N g H T rok x0 x2 x3 x4 x5 x6 x7 x8 x9 x11 x10 ((((Int32.toUInt32 x7 >>> (Int32.toUInt32 ((nI 6)) &&& Int32.toUInt32 31)).toInt32) ||| (x7 <<< ((nI 26) &&& 31))) ^^^ (((Int32.toUInt32 x7 >>> (Int32.toUInt32 ((nI 11)) &&& Int32.toUInt32 31)).toInt32) ||| (x7 <<< ((nI 21) &&& 31)))) S))
set_option maxRecDepth 100000 in
set_option maxHeartbeats 4000000 in
theorem kbb_X2_squeeze_259 {G : zG} {o : cO} {u g H T N : Nat} {S : cS} {S0 : cS} {Q : Option Value → cS → Prop} {X : Nat × Nat × Int32 × Int32 × Int32 × Int32 × Int32 × Int32 × Int32 × Int32 × cS → Prop} (hG : zOK G) (hX0 : ∀ (x0 : Nat) (x3 : Int32) (x4 : Int32) (x5 : Int32) (x6 : Int32) (x7 : Int32) (x8 : Int32) (x9 : Int32) (x10 : Int32) (S' : cS), St u g H T S' → Mono S0 S' → isO g H 2 x0 → X (0, x0, x3, x4, x5, x6, x7, x8, x9, x10, S') → cX G o dX2_squeeze mX2_squeeze 415 [some (va_rf (some x0)), none, none, some (.int x3), some (.int x4), some (.int x5), some (.int x6), some (.int x7), some (.int x8), some (.int x9), some (.int x10), none, none, none] [] S' Q) {rec : Nat → Option Nat → Int32 → Int32 → Int32 → Int32 → Int32 → Int32 → Int32 → Int32 → Int32 → cS → Nat × Nat × Int32 × Int32 × Int32 × Int32 × Int32 × Int32 × Int32 × Int32 × cS} {rok : Nat → Option Nat → Int32 → Int32 → Int32 → Int32 → Int32 → Int32 → Int32 → Int32 → Int32 → cS → Prop} (hrec : ∀ (x0 : Nat) (x2 : Option Nat) (x3 : Int32) (x4 : Int32) (x5 : Int32) (x6 : Int32) (x7 : Int32) (x8 : Int32) (x9 : Int32) (x10 : Int32) (x11 : Int32) (S : cS), St u g H T S → Mono S0 S → isO g H 2 x0 → tK S 21 x2 → rok x0 x2 x3 x4 x5 x6 x7 x8 x9 x10 x11 S → X (rec x0 x2 x3 x4 x5 x6 x7 x8 x9 x10 x11 S) → cX G o dX2_squeeze mX2_squeeze 259 [some (va_rf (some x0)), none, some (va_rf x2), some (.int x3), some (.int x4), some (.int x5), some (.int x6), some (.int x7), some (.int x8), some (.int x9), some (.int x10), some (.int x11), none, none] [] S Q) {x0 : Nat} {x2 : Option Nat} {x3 : Int32} {x4 : Int32} {x5 : Int32} {x6 : Int32} {x7 : Int32} {x8 : Int32} {x9 : Int32} {x10 : Int32} {x11 : Int32} (hS : St u g H T S) (hM : Mono S0 S) (t_x0 : isO g H 2 x0) (t_x2 : tK S 21 x2) (ok : KOB_X2_squeeze_259 N g H T rok x0 x2 x3 x4 x5 x6 x7 x8 x9 x10 x11 S) (hx : X (KB_X2_squeeze_259 N g H T rec x0 x2 x3 x4 x5 x6 x7 x8 x9 x10 x11 S)) : cX G o dX2_squeeze mX2_squeeze 259 [some (va_rf (some x0)), none, some (va_rf x2), some (.int x3), some (.int x4), some (.int x5), some (.int x6), some (.int x7), some (.int x8), some (.int x9), some (.int x10), some (.int x11), none, none] [] S Q := by
  unfold KOB_X2_squeeze_259 at ok
  unfold KB_X2_squeeze_259 at hx
  refine c_iload dX2_squeeze_259 rfl ?_
  refine c_bipush (v := nI 64) dX2_squeeze_261 (by decide) ?_
  refine c_icmp_ge (tgt := 415) dX2_squeeze_263 (by decide) (fun c_263 => ?_) (fun c_263 => ?_)
  · have ok := ok.1 c_263
    have hx := xif_p c_263 hx
    exact cX.cutz (hX0 _ _ _ _ _ _ _ _ _ S hS hM t_x0 hx) ⟨rfl, rfl, rfl, rfl, rfl, rfl, rfl, rfl, rfl, trivial⟩
  · have ok := ok.2 c_263
    have hx := xif_n c_263 hx
    refine c_iload dX2_squeeze_266 rfl ?_
    refine c_iload dX2_squeeze_268 rfl ?_
    refine c_bipush (v := nI 6) dX2_squeeze_270 (by decide) ?_
    refine c_iushr dX2_squeeze_272 ?_
    refine c_iload dX2_squeeze_273 rfl ?_
    refine c_bipush (v := nI 26) dX2_squeeze_275 (by decide) ?_
    refine c_ishl dX2_squeeze_277 ?_
    refine c_ior dX2_squeeze_278 ?_
    refine c_iload dX2_squeeze_279 rfl ?_
    refine c_bipush (v := nI 11) dX2_squeeze_281 (by decide) ?_
    refine c_iushr dX2_squeeze_283 ?_
    refine c_iload dX2_squeeze_284 rfl ?_
    refine c_bipush (v := nI 21) dX2_squeeze_286 (by decide) ?_
    refine c_ishl dX2_squeeze_288 ?_
    refine c_ior dX2_squeeze_289 ?_
    refine c_ixor dX2_squeeze_290 ?_
    exact cX.cutz (kb_X2_squeeze_291 hG hX0 hrec hS hM t_x0 t_x2 ok hx) ⟨rfl, rfl, rfl, rfl, rfl, rfl, rfl, rfl, rfl, rfl, trivial⟩
def KL_X2_squeeze_259 (N g H T : Nat) : Nat → Nat → Option Nat → Int32 → Int32 → Int32 → Int32 → Int32 → Int32 → Int32 → Int32 → Int32 → cS → Nat × Nat × Int32 × Int32 × Int32 × Int32 × Int32 × Int32 × Int32 × Int32 × cS
  | 0, x0, x2, x3, x4, x5, x6, x7, x8, x9, x10, x11, S => (0, 0, 0, 0, 0, 0, 0, 0, 0, 0, S)
  | n + 1, x0, x2, x3, x4, x5, x6, x7, x8, x9, x10, x11, S => KB_X2_squeeze_259 N g H T (KL_X2_squeeze_259 N g H T n) x0 x2 x3 x4 x5 x6 x7 x8 x9 x10 x11 S
def KOL_X2_squeeze_259 (N g H T : Nat) : Nat → Nat → Option Nat → Int32 → Int32 → Int32 → Int32 → Int32 → Int32 → Int32 → Int32 → Int32 → cS → Prop
  | 0, _, _, _, _, _, _, _, _, _, _, _, _ => False
  | n + 1, x0, x2, x3, x4, x5, x6, x7, x8, x9, x10, x11, S => KOB_X2_squeeze_259 N g H T (KOL_X2_squeeze_259 N g H T n) x0 x2 x3 x4 x5 x6 x7 x8 x9 x10 x11 S
set_option maxRecDepth 100000 in
set_option maxHeartbeats 4000000 in
theorem kl_X2_squeeze_259 {G : zG} {o : cO} {u g H T N : Nat} {S0 : cS} {Q : Option Value → cS → Prop} {X : Nat × Nat × Int32 × Int32 × Int32 × Int32 × Int32 × Int32 × Int32 × Int32 × cS → Prop} (hG : zOK G) (hX0 : ∀ (x0 : Nat) (x3 : Int32) (x4 : Int32) (x5 : Int32) (x6 : Int32) (x7 : Int32) (x8 : Int32) (x9 : Int32) (x10 : Int32) (S' : cS), St u g H T S' → Mono S0 S' → isO g H 2 x0 → X (0, x0, x3, x4, x5, x6, x7, x8, x9, x10, S') → cX G o dX2_squeeze mX2_squeeze 415 [some (va_rf (some x0)), none, none, some (.int x3), some (.int x4), some (.int x5), some (.int x6), some (.int x7), some (.int x8), some (.int x9), some (.int x10), none, none, none] [] S' Q) : ∀ (n : Nat) (x0 : Nat) (x2 : Option Nat) (x3 : Int32) (x4 : Int32) (x5 : Int32) (x6 : Int32) (x7 : Int32) (x8 : Int32) (x9 : Int32) (x10 : Int32) (x11 : Int32) (S : cS), St u g H T S → Mono S0 S → isO g H 2 x0 → tK S 21 x2 → KOL_X2_squeeze_259 N g H T n x0 x2 x3 x4 x5 x6 x7 x8 x9 x10 x11 S → X (KL_X2_squeeze_259 N g H T n x0 x2 x3 x4 x5 x6 x7 x8 x9 x10 x11 S) → cX G o dX2_squeeze mX2_squeeze 259 [some (va_rf (some x0)), none, some (va_rf x2), some (.int x3), some (.int x4), some (.int x5), some (.int x6), some (.int x7), some (.int x8), some (.int x9), some (.int x10), some (.int x11), none, none] [] S Q := by
  intro n
  induction n with
  | zero => intro x0 x2 x3 x4 x5 x6 x7 x8 x9 x10 x11 S hS hM t_x0 t_x2 ok; exact absurd ok id
  | succ n ih =>
    intro x0 x2 x3 x4 x5 x6 x7 x8 x9 x10 x11 S hS hM t_x0 t_x2 ok hx
    exact kbb_X2_squeeze_259 hG hX0 (rec := KL_X2_squeeze_259 N g H T n) (rok := KOL_X2_squeeze_259 N g H T n) (fun x0 x2 x3 x4 x5 x6 x7 x8 x9 x10 x11 S hS hM t_x0 t_x2 ok hx => ih x0 x2 x3 x4 x5 x6 x7 x8 x9 x10 x11 S hS hM t_x0 t_x2 ok hx) hS hM t_x0 t_x2 ok hx
def KA_X2_squeeze_259 (N g H T : Nat) (x0 : Nat) (x2 : Option Nat) (x3 : Int32) (x4 : Int32) (x5 : Int32) (x6 : Int32) (x7 : Int32) (x8 : Int32) (x9 : Int32) (x10 : Int32) (x11 : Int32) (S : cS) (z : Nat × Nat × Int32 × Int32 × Int32 × Int32 × Int32 × Int32 × Int32 × Int32 × cS) : cS := (KF_X2_squeeze_415 N g H T (z.2.1) (z.2.2.1) (z.2.2.2.1) (z.2.2.2.2.1) (z.2.2.2.2.2.1) (z.2.2.2.2.2.2.1) (z.2.2.2.2.2.2.2.1) (z.2.2.2.2.2.2.2.2.1) (z.2.2.2.2.2.2.2.2.2.1) z.2.2.2.2.2.2.2.2.2.2)
def KOA_X2_squeeze_259 (N g H T : Nat) (x0 : Nat) (x2 : Option Nat) (x3 : Int32) (x4 : Int32) (x5 : Int32) (x6 : Int32) (x7 : Int32) (x8 : Int32) (x9 : Int32) (x10 : Int32) (x11 : Int32) (S : cS) (z : Nat × Nat × Int32 × Int32 × Int32 × Int32 × Int32 × Int32 × Int32 × Int32 × cS) : Prop := KO_X2_squeeze_415 N g H T (z.2.1) (z.2.2.1) (z.2.2.2.1) (z.2.2.2.2.1) (z.2.2.2.2.2.1) (z.2.2.2.2.2.2.1) (z.2.2.2.2.2.2.2.1) (z.2.2.2.2.2.2.2.2.1) (z.2.2.2.2.2.2.2.2.2.1) z.2.2.2.2.2.2.2.2.2.2
set_option maxRecDepth 100000 in
set_option maxHeartbeats 4000000 in
theorem kd_X2_squeeze_259 {G : zG} {o : cO} {u g H T N : Nat} {S : cS} {S0 : cS} {Q : Option Value → cS → Prop} {X : cS → Prop} (hG : zOK G) (hR : ∀ S', St u g H T S' → Mono S0 S' → X S' → Q none S') {x0 : Nat} {x2 : Option Nat} {x3 : Int32} {x4 : Int32} {x5 : Int32} {x6 : Int32} {x7 : Int32} {x8 : Int32} {x9 : Int32} {x10 : Int32} {x11 : Int32} (hS : St u g H T S) (hM : Mono S0 S) (t_x0 : isO g H 2 x0) (t_x2 : tK S 21 x2) (ok : KOL_X2_squeeze_259 N g H T N x0 x2 x3 x4 x5 x6 x7 x8 x9 x10 x11 S ∧ KOA_X2_squeeze_259 N g H T x0 x2 x3 x4 x5 x6 x7 x8 x9 x10 x11 S (KL_X2_squeeze_259 N g H T N x0 x2 x3 x4 x5 x6 x7 x8 x9 x10 x11 S)) (hx : X (KA_X2_squeeze_259 N g H T x0 x2 x3 x4 x5 x6 x7 x8 x9 x10 x11 S (KL_X2_squeeze_259 N g H T N x0 x2 x3 x4 x5 x6 x7 x8 x9 x10 x11 S))) : cX G o dX2_squeeze mX2_squeeze 259 [some (va_rf (some x0)), none, some (va_rf x2), some (.int x3), some (.int x4), some (.int x5), some (.int x6), some (.int x7), some (.int x8), some (.int x9), some (.int x10), some (.int x11), none, none] [] S Q := by
  refine kl_X2_squeeze_259 hG ?_ N x0 x2 x3 x4 x5 x6 x7 x8 x9 x10 x11 S hS hM t_x0 t_x2 ok.1 (X := fun z => KOA_X2_squeeze_259 N g H T x0 x2 x3 x4 x5 x6 x7 x8 x9 x10 x11 S z ∧ X (KA_X2_squeeze_259 N g H T x0 x2 x3 x4 x5 x6 x7 x8 x9 x10 x11 S z)) ⟨ok.2, hx⟩
  · intro x0' x3' x4' x5' x6' x7' x8' x9' x10' S' hS hM t_x0 hz
    obtain ⟨ok, hx⟩ := hz
    unfold KOA_X2_squeeze_259 at ok
    unfold KA_X2_squeeze_259 at hx
    exact cX.cutz (kb_X2_squeeze_415 hG hR hS hM t_x0 ok hx) ⟨rfl, rfl, rfl, rfl, rfl, rfl, rfl, rfl, rfl, trivial⟩
def KF_X2_squeeze_191 (N g H T : Nat) (x0 : Nat) (x2 : Option Nat) (S : cS) : cS := (KA_X2_squeeze_259 N g H T x0 x2 (cA S (x0 + 3) (nI 0).toNatClampNeg) (cA S (x0 + 3) (nI 1).toNatClampNeg) (cA S (x0 + 3) (nI 2).toNatClampNeg) (cA S (x0 + 3) (nI 3).toNatClampNeg) (cA S (x0 + 3) (nI 4).toNatClampNeg) (cA S (x0 + 3) (nI 5).toNatClampNeg) (cA S (x0 + 3) (nI 6).toNatClampNeg) (cA S (x0 + 3) (nI 7).toNatClampNeg) (nI 0) S (KL_X2_squeeze_259 N g H T N x0 x2 (cA S (x0 + 3) (nI 0).toNatClampNeg) (cA S (x0 + 3) (nI 1).toNatClampNeg) (cA S (x0 + 3) (nI 2).toNatClampNeg) (cA S (x0 + 3) (nI 3).toNatClampNeg) (cA S (x0 + 3) (nI 4).toNatClampNeg) (cA S (x0 + 3) (nI 5).toNatClampNeg) (cA S (x0 + 3) (nI 6).toNatClampNeg) (cA S (x0 + 3) (nI 7).toNatClampNeg) (nI 0) S))
def KO_X2_squeeze_191 (N g H T : Nat) (x0 : Nat) (x2 : Option Nat) (S : cS) : Prop := (vp_in (nI 0) 8) ∧ (vp_in (nI 1) 8) ∧ (vp_in (nI 2) 8) ∧ (vp_in (nI 3) 8) ∧ (vp_in (nI 4) 8) ∧ (vp_in (nI 5) 8) ∧ (vp_in (nI 6) 8) ∧ (vp_in (nI 7) 8) ∧ (KOL_X2_squeeze_259 N g H T N x0 x2 (cA S (x0 + 3) (nI 0).toNatClampNeg) (cA S (x0 + 3) (nI 1).toNatClampNeg) (cA S (x0 + 3) (nI 2).toNatClampNeg) (cA S (x0 + 3) (nI 3).toNatClampNeg) (cA S (x0 + 3) (nI 4).toNatClampNeg) (cA S (x0 + 3) (nI 5).toNatClampNeg) (cA S (x0 + 3) (nI 6).toNatClampNeg) (cA S (x0 + 3) (nI 7).toNatClampNeg) (nI 0) S ∧ KOA_X2_squeeze_259 N g H T x0 x2 (cA S (x0 + 3) (nI 0).toNatClampNeg) (cA S (x0 + 3) (nI 1).toNatClampNeg) (cA S (x0 + 3) (nI 2).toNatClampNeg) (cA S (x0 + 3) (nI 3).toNatClampNeg) (cA S (x0 + 3) (nI 4).toNatClampNeg) (cA S (x0 + 3) (nI 5).toNatClampNeg) (cA S (x0 + 3) (nI 6).toNatClampNeg) (cA S (x0 + 3) (nI 7).toNatClampNeg) (nI 0) S (KL_X2_squeeze_259 N g H T N x0 x2 (cA S (x0 + 3) (nI 0).toNatClampNeg) (cA S (x0 + 3) (nI 1).toNatClampNeg) (cA S (x0 + 3) (nI 2).toNatClampNeg) (cA S (x0 + 3) (nI 3).toNatClampNeg) (cA S (x0 + 3) (nI 4).toNatClampNeg) (cA S (x0 + 3) (nI 5).toNatClampNeg) (cA S (x0 + 3) (nI 6).toNatClampNeg) (cA S (x0 + 3) (nI 7).toNatClampNeg) (nI 0) S))
set_option maxRecDepth 100000 in
set_option maxHeartbeats 4000000 in
theorem kb_X2_squeeze_191 {G : zG} {o : cO} {u g H T N : Nat} {S : cS} {S0 : cS} {Q : Option Value → cS → Prop} {X : cS → Prop} (hG : zOK G) (hR : ∀ S', St u g H T S' → Mono S0 S' → X S' → Q none S') {x0 : Nat} {x2 : Option Nat} (hS : St u g H T S) (hM : Mono S0 S) (t_x0 : isO g H 2 x0) (t_x2 : tK S 21 x2) (ok : KO_X2_squeeze_191 N g H T x0 x2 S) (hx : X (KF_X2_squeeze_191 N g H T x0 x2 S)) : cX G o dX2_squeeze mX2_squeeze 191 [some (va_rf (some x0)), none, some (va_rf x2), none, none, none, none, none, none, none, none, none, none, none] [] S Q := by
  unfold KO_X2_squeeze_191 at ok
  unfold KF_X2_squeeze_191 at hx
  refine c_aload_nQ dX2_squeeze_191 rfl rfl ?_
  refine c_getS (C := RX2) (T := TX2) (N := 6) (ci := 2) (k := 2) ⟨rfl, inT2, by decide, fX2_19⟩ (by decide) (by decide) (by decide) dX2_squeeze_192 (hS.k t_x0) (hS.r (c := 2) t_x0 rfl (by omega)) ?_
  refine c_iconst (v := nI 0) dX2_squeeze_195 (by decide) ?_
  refine c_iald dX2_squeeze_196 ⟨(tK.cis (hS.rk (c := 2) (k := 2) t_x0 rfl (by omega)) (Option.some_ne_none _)), (vk_cast (hS.rl (c := 2) (k := 2) t_x0 rfl (by decide) (by omega)) ok.1)⟩ ?_
  have ok := ok.2
  refine c_istore_3 dX2_squeeze_197 (by decide) (by simp [zok, zg, zcat_rf]) ?_
  refine c_aload_nQ dX2_squeeze_198 rfl rfl ?_
  refine c_getS (C := RX2) (T := TX2) (N := 6) (ci := 2) (k := 2) ⟨rfl, inT2, by decide, fX2_19⟩ (by decide) (by decide) (by decide) dX2_squeeze_199 (hS.k t_x0) (hS.r (c := 2) t_x0 rfl (by omega)) ?_
  refine c_iconst (v := nI 1) dX2_squeeze_202 (by decide) ?_
  refine c_iald dX2_squeeze_203 ⟨(tK.cis (hS.rk (c := 2) (k := 2) t_x0 rfl (by omega)) (Option.some_ne_none _)), (vk_cast (hS.rl (c := 2) (k := 2) t_x0 rfl (by decide) (by omega)) ok.1)⟩ ?_
  have ok := ok.2
  refine c_istore_4 dX2_squeeze_204 (by decide) rfl ?_
  refine c_aload_nQ dX2_squeeze_206 rfl rfl ?_
  refine c_getS (C := RX2) (T := TX2) (N := 6) (ci := 2) (k := 2) ⟨rfl, inT2, by decide, fX2_19⟩ (by decide) (by decide) (by decide) dX2_squeeze_207 (hS.k t_x0) (hS.r (c := 2) t_x0 rfl (by omega)) ?_
  refine c_iconst (v := nI 2) dX2_squeeze_210 (by decide) ?_
  refine c_iald dX2_squeeze_211 ⟨(tK.cis (hS.rk (c := 2) (k := 2) t_x0 rfl (by omega)) (Option.some_ne_none _)), (vk_cast (hS.rl (c := 2) (k := 2) t_x0 rfl (by decide) (by omega)) ok.1)⟩ ?_
  have ok := ok.2
  refine c_istore_5 dX2_squeeze_212 (by decide) rfl ?_
  refine c_aload_nQ dX2_squeeze_214 rfl rfl ?_
  refine c_getS (C := RX2) (T := TX2) (N := 6) (ci := 2) (k := 2) ⟨rfl, inT2, by decide, fX2_19⟩ (by decide) (by decide) (by decide) dX2_squeeze_215 (hS.k t_x0) (hS.r (c := 2) t_x0 rfl (by omega)) ?_
  refine c_iconst (v := nI 3) dX2_squeeze_218 (by decide) ?_
  refine c_iald dX2_squeeze_219 ⟨(tK.cis (hS.rk (c := 2) (k := 2) t_x0 rfl (by omega)) (Option.some_ne_none _)), (vk_cast (hS.rl (c := 2) (k := 2) t_x0 rfl (by decide) (by omega)) ok.1)⟩ ?_
  have ok := ok.2
  refine c_istore_6 dX2_squeeze_220 (by decide) rfl ?_
  refine c_aload_nQ dX2_squeeze_222 rfl rfl ?_
  refine c_getS (C := RX2) (T := TX2) (N := 6) (ci := 2) (k := 2) ⟨rfl, inT2, by decide, fX2_19⟩ (by decide) (by decide) (by decide) dX2_squeeze_223 (hS.k t_x0) (hS.r (c := 2) t_x0 rfl (by omega)) ?_
  refine c_iconst (v := nI 4) dX2_squeeze_226 (by decide) ?_
  refine c_iald dX2_squeeze_227 ⟨(tK.cis (hS.rk (c := 2) (k := 2) t_x0 rfl (by omega)) (Option.some_ne_none _)), (vk_cast (hS.rl (c := 2) (k := 2) t_x0 rfl (by decide) (by omega)) ok.1)⟩ ?_
  have ok := ok.2
  refine c_istore_7 dX2_squeeze_228 (by decide) rfl ?_
  refine c_aload_nQ dX2_squeeze_230 rfl rfl ?_
  refine c_getS (C := RX2) (T := TX2) (N := 6) (ci := 2) (k := 2) ⟨rfl, inT2, by decide, fX2_19⟩ (by decide) (by decide) (by decide) dX2_squeeze_231 (hS.k t_x0) (hS.r (c := 2) t_x0 rfl (by omega)) ?_
  refine c_iconst (v := nI 5) dX2_squeeze_234 (by decide) ?_
  refine c_iald dX2_squeeze_235 ⟨(tK.cis (hS.rk (c := 2) (k := 2) t_x0 rfl (by omega)) (Option.some_ne_none _)), (vk_cast (hS.rl (c := 2) (k := 2) t_x0 rfl (by decide) (by omega)) ok.1)⟩ ?_
  have ok := ok.2
  refine c_istore_8 dX2_squeeze_236 (by decide) rfl ?_
  refine c_aload_nQ dX2_squeeze_238 rfl rfl ?_
  refine c_getS (C := RX2) (T := TX2) (N := 6) (ci := 2) (k := 2) ⟨rfl, inT2, by decide, fX2_19⟩ (by decide) (by decide) (by decide) dX2_squeeze_239 (hS.k t_x0) (hS.r (c := 2) t_x0 rfl (by omega)) ?_
  refine c_bipush (v := nI 6) dX2_squeeze_242 (by decide) ?_
  refine c_iald dX2_squeeze_244 ⟨(tK.cis (hS.rk (c := 2) (k := 2) t_x0 rfl (by omega)) (Option.some_ne_none _)), (vk_cast (hS.rl (c := 2) (k := 2) t_x0 rfl (by decide) (by omega)) ok.1)⟩ ?_
  have ok := ok.2
  refine c_istore_9 dX2_squeeze_245 (by decide) rfl ?_
  refine c_aload_nQ dX2_squeeze_247 rfl rfl ?_
  refine c_getS (C := RX2) (T := TX2) (N := 6) (ci := 2) (k := 2) ⟨rfl, inT2, by decide, fX2_19⟩ (by decide) (by decide) (by decide) dX2_squeeze_248 (hS.k t_x0) (hS.r (c := 2) t_x0 rfl (by omega)) ?_
  refine c_bipush (v := nI 7) dX2_squeeze_251 (by decide) ?_
  refine c_iald dX2_squeeze_253 ⟨(tK.cis (hS.rk (c := 2) (k := 2) t_x0 rfl (by omega)) (Option.some_ne_none _)), (vk_cast (hS.rl (c := 2) (k := 2) t_x0 rfl (by decide) (by omega)) ok.1)⟩ ?_
  have ok := ok.2
  refine c_istore_10 dX2_squeeze_254 (by decide) rfl ?_
  refine c_iconst (v := nI 0) dX2_squeeze_256 (by decide) ?_
  refine c_istore_11 dX2_squeeze_257 (by decide) rfl ?_
  exact cX.cutz (kd_X2_squeeze_259 hG hR hS hM t_x0 t_x2 ok hx) ⟨rfl, rfl, rfl, rfl, rfl, rfl, rfl, rfl, rfl, rfl, rfl, trivial⟩
def KF_X2_squeeze_177 (N g H T : Nat) (rec : Nat → Option Nat → Int32 → cS → Nat × Nat × Option Nat × cS) (x0 : Nat) (x2 : Option Nat) (x3 : Int32) (x5 : Int32) (s0 : Option Nat) (s1 : Int32) (s2 : Int32) (s3 : Int32) (S : cS) : Nat × Nat × Option Nat × cS := (rec x0 x2 (x3 + nI 1) (csA S (za s0) s1.toNatClampNeg (s2 + (s3 ^^^ ((Int32.toUInt32 x5 >>> (Int32.toUInt32 ((nI 10)) &&& Int32.toUInt32 31)).toInt32)))))
def KO_X2_squeeze_177 (N g H T : Nat) (rok : Nat → Option Nat → Int32 → cS → Prop) (x0 : Nat) (x2 : Option Nat) (x3 : Int32) (x5 : Int32) (s0 : Option Nat) (s1 : Int32) (s2 : Int32) (s3 : Int32) (S : cS) : Prop := (¬ s0 = none ∧ vp_in s1 (cL S (za s0))) ∧ rok x0 x2 (x3 + nI 1) (csA S (za s0) s1.toNatClampNeg (s2 + (s3 ^^^ ((Int32.toUInt32 x5 >>> (Int32.toUInt32 ((nI 10)) &&& Int32.toUInt32 31)).toInt32))))
set_option maxRecDepth 100000 in
set_option maxHeartbeats 4000000 in
theorem kb_X2_squeeze_177 {G : zG} {o : cO} {u g H T N : Nat} {S : cS} {S0 : cS} {Q : Option Value → cS → Prop} {X : Nat × Nat × Option Nat × cS → Prop} (hG : zOK G) (hX0 : ∀ (x0 : Nat) (x2 : Option Nat) (S' : cS), St u g H T S' → Mono S0 S' → isO g H 2 x0 → tK S' 21 x2 → X (0, x0, x2, S') → cX G o dX2_squeeze mX2_squeeze 191 [some (va_rf (some x0)), none, some (va_rf x2), none, none, none, none, none, none, none, none, none, none, none] [] S' Q) {rec : Nat → Option Nat → Int32 → cS → Nat × Nat × Option Nat × cS} {rok : Nat → Option Nat → Int32 → cS → Prop} (hrec : ∀ (x0 : Nat) (x2 : Option Nat) (x3 : Int32) (S : cS), St u g H T S → Mono S0 S → isO g H 2 x0 → tK S 21 x2 → rok x0 x2 x3 S → X (rec x0 x2 x3 S) → cX G o dX2_squeeze mX2_squeeze 89 [some (va_rf (some x0)), none, some (va_rf x2), some (.int x3), none, none, none, none, none, none, none, none, none, none] [] S Q) {x0 : Nat} {x2 : Option Nat} {x3 : Int32} {x5 : Int32} {s0 : Option Nat} {s1 : Int32} {s2 : Int32} {s3 : Int32} (hS : St u g H T S) (hM : Mono S0 S) (t_x0 : isO g H 2 x0) (t_x2 : tK S 21 x2) (t_s0 : tK S 21 s0) (ok : KO_X2_squeeze_177 N g H T rok x0 x2 x3 x5 s0 s1 s2 s3 S) (hx : X (KF_X2_squeeze_177 N g H T rec x0 x2 x3 x5 s0 s1 s2 s3 S)) : cX G o dX2_squeeze mX2_squeeze 177 [some (va_rf (some x0)), none, some (va_rf x2), some (.int x3), none, some (.int x5), none, none, none, none, none, none, none, none] [.int s3, .int s2, .int s1, va_rf s0] S Q := by
  unfold KO_X2_squeeze_177 at ok
  unfold KF_X2_squeeze_177 at hx
  refine c_iload dX2_squeeze_177 rfl ?_
  refine c_bipush (v := nI 10) dX2_squeeze_179 (by decide) ?_
  refine c_iushr dX2_squeeze_181 ?_
  refine c_ixor dX2_squeeze_182 ?_
  refine c_iadd dX2_squeeze_183 ?_
  have tq_184 : tK S 21 (some (za s0)) := tK_some (tK.cis t_s0 ok.1.1).2
  refine c_iast hG dX2_squeeze_184 ⟨(tK.cis t_s0 ok.1.1), ok.1.2⟩ ?_
  have hS := hS.Aw (k := 21) (za s0) s1.toNatClampNeg (s2 + (s3 ^^^ ((Int32.toUInt32 x5 >>> (Int32.toUInt32 ((nI 10)) &&& Int32.toUInt32 31)).toInt32))) tq_184 (by decide)
  have hM := hM.A (za s0) s1.toNatClampNeg (s2 + (s3 ^^^ ((Int32.toUInt32 x5 >>> (Int32.toUInt32 ((nI 10)) &&& Int32.toUInt32 31)).toInt32)))
  have ok := ok.2
  refine c_iinc_3 (v := (x3 + nI 1)) dX2_squeeze_185 rfl (by first | rfl | (congr 1)) (by decide) (by simp [zok, zg, zcat_rf]) ?_
  refine c_goto (tgt := 89) dX2_squeeze_188 (by decide) ?_
  exact cX.cutz (hrec _ _ _ (csA S (za s0) s1.toNatClampNeg (s2 + (s3 ^^^ ((Int32.toUInt32 x5 >>> (Int32.toUInt32 ((nI 10)) &&& Int32.toUInt32 31)).toInt32)))) hS hM t_x0 (tK_A t_x2) ok hx) ⟨rfl, rfl, rfl, trivial⟩
def KF_X2_squeeze_153 (N g H T : Nat) (rec : Nat → Option Nat → Int32 → cS → Nat × Nat × Option Nat × cS) (x0 : Nat) (x2 : Option Nat) (x3 : Int32) (x5 : Int32) (s0 : Option Nat) (s1 : Int32) (s2 : Int32) (s3 : Int32) (S : cS) : Nat × Nat × Option Nat × cS := (KF_X2_squeeze_177 N g H T rec x0 x2 x3 x5 s0 s1 (s2 + s3) ((((Int32.toUInt32 x5 >>> (Int32.toUInt32 ((nI 17)) &&& Int32.toUInt32 31)).toInt32) ||| (x5 <<< ((nI 15) &&& 31))) ^^^ (((Int32.toUInt32 x5 >>> (Int32.toUInt32 ((nI 19)) &&& Int32.toUInt32 31)).toInt32) ||| (x5 <<< ((nI 13) &&& 31)))) S)
def KO_X2_squeeze_153 (N g H T : Nat) (rok : Nat → Option Nat → Int32 → cS → Prop) (x0 : Nat) (x2 : Option Nat) (x3 : Int32) (x5 : Int32) (s0 : Option Nat) (s1 : Int32) (s2 : Int32) (s3 : Int32) (S : cS) : Prop := KO_X2_squeeze_177 N g H T rok x0 x2 x3 x5 s0 s1 (s2 + s3) ((((Int32.toUInt32 x5 >>> (Int32.toUInt32 ((nI 17)) &&& Int32.toUInt32 31)).toInt32) ||| (x5 <<< ((nI 15) &&& 31))) ^^^ (((Int32.toUInt32 x5 >>> (Int32.toUInt32 ((nI 19)) &&& Int32.toUInt32 31)).toInt32) ||| (x5 <<< ((nI 13) &&& 31)))) S
set_option maxRecDepth 100000 in
set_option maxHeartbeats 4000000 in
theorem kb_X2_squeeze_153 {G : zG} {o : cO} {u g H T N : Nat} {S : cS} {S0 : cS} {Q : Option Value → cS → Prop} {X : Nat × Nat × Option Nat × cS → Prop} (hG : zOK G) (hX0 : ∀ (x0 : Nat) (x2 : Option Nat) (S' : cS), St u g H T S' → Mono S0 S' → isO g H 2 x0 → tK S' 21 x2 → X (0, x0, x2, S') → cX G o dX2_squeeze mX2_squeeze 191 [some (va_rf (some x0)), none, some (va_rf x2), none, none, none, none, none, none, none, none, none, none, none] [] S' Q) {rec : Nat → Option Nat → Int32 → cS → Nat × Nat × Option Nat × cS} {rok : Nat → Option Nat → Int32 → cS → Prop} (hrec : ∀ (x0 : Nat) (x2 : Option Nat) (x3 : Int32) (S : cS), St u g H T S → Mono S0 S → isO g H 2 x0 → tK S 21 x2 → rok x0 x2 x3 S → X (rec x0 x2 x3 S) → cX G o dX2_squeeze mX2_squeeze 89 [some (va_rf (some x0)), none, some (va_rf x2), some (.int x3), none, none, none, none, none, none, none, none, none, none] [] S Q) {x0 : Nat} {x2 : Option Nat} {x3 : Int32} {x5 : Int32} {s0 : Option Nat} {s1 : Int32} {s2 : Int32} {s3 : Int32} (hS : St u g H T S) (hM : Mono S0 S) (t_x0 : isO g H 2 x0) (t_x2 : tK S 21 x2) (t_s0 : tK S 21 s0) (ok : KO_X2_squeeze_153 N g H T rok x0 x2 x3 x5 s0 s1 s2 s3 S) (hx : X (KF_X2_squeeze_153 N g H T rec x0 x2 x3 x5 s0 s1 s2 s3 S)) : cX G o dX2_squeeze mX2_squeeze 153 [some (va_rf (some x0)), none, some (va_rf x2), some (.int x3), none, some (.int x5), none, none, none, none, none, none, none, none] [.int s3, .int s2, .int s1, va_rf s0] S Q := by
  unfold KO_X2_squeeze_153 at ok
  unfold KF_X2_squeeze_153 at hx
  refine c_iadd dX2_squeeze_153 ?_
  refine c_iload dX2_squeeze_154 rfl ?_
  refine c_bipush (v := nI 17) dX2_squeeze_156 (by decide) ?_
  refine c_iushr dX2_squeeze_158 ?_
  refine c_iload dX2_squeeze_159 rfl ?_
  refine c_bipush (v := nI 15) dX2_squeeze_161 (by decide) ?_
  refine c_ishl dX2_squeeze_163 ?_
  refine c_ior dX2_squeeze_164 ?_
  refine c_iload dX2_squeeze_165 rfl ?_
  refine c_bipush (v := nI 19) dX2_squeeze_167 (by decide) ?_
  refine c_iushr dX2_squeeze_169 ?_
  refine c_iload dX2_squeeze_170 rfl ?_
  refine c_bipush (v := nI 13) dX2_squeeze_172 (by decide) ?_
  refine c_ishl dX2_squeeze_174 ?_
  refine c_ior dX2_squeeze_175 ?_
  refine c_ixor dX2_squeeze_176 ?_
  exact cX.cutz (kb_X2_squeeze_177 hG hX0 hrec hS hM t_x0 t_x2 t_s0 ok hx) ⟨rfl, rfl, rfl, rfl, trivial⟩
def KF_X2_squeeze_136 (N g H T : Nat) (rec : Nat → Option Nat → Int32 → cS → Nat × Nat × Option Nat × cS) (x0 : Nat) (x2 : Option Nat) (x3 : Int32) (x4 : Int32) (x5 : Int32) (s0 : Option Nat) (s1 : Int32) (s2 : Int32) (s3 : Int32) (S : cS) : Nat × Nat × Option Nat × cS := (KF_X2_squeeze_153 N g H T rec x0 x2 x3 x5 s0 s1 s2 ((s3 ^^^ (((Int32.toUInt32 x4 >>> (Int32.toUInt32 ((nI 18)) &&& Int32.toUInt32 31)).toInt32) ||| (x4 <<< ((nI 14) &&& 31)))) ^^^ ((Int32.toUInt32 x4 >>> (Int32.toUInt32 ((nI 3)) &&& Int32.toUInt32 31)).toInt32)) S)
def KO_X2_squeeze_136 (N g H T : Nat) (rok : Nat → Option Nat → Int32 → cS → Prop) (x0 : Nat) (x2 : Option Nat) (x3 : Int32) (x4 : Int32) (x5 : Int32) (s0 : Option Nat) (s1 : Int32) (s2 : Int32) (s3 : Int32) (S : cS) : Prop := KO_X2_squeeze_153 N g H T rok x0 x2 x3 x5 s0 s1 s2 ((s3 ^^^ (((Int32.toUInt32 x4 >>> (Int32.toUInt32 ((nI 18)) &&& Int32.toUInt32 31)).toInt32) ||| (x4 <<< ((nI 14) &&& 31)))) ^^^ ((Int32.toUInt32 x4 >>> (Int32.toUInt32 ((nI 3)) &&& Int32.toUInt32 31)).toInt32)) S
set_option maxRecDepth 100000 in
set_option maxHeartbeats 4000000 in
theorem kb_X2_squeeze_136 {G : zG} {o : cO} {u g H T N : Nat} {S : cS} {S0 : cS} {Q : Option Value → cS → Prop} {X : Nat × Nat × Option Nat × cS → Prop} (hG : zOK G) (hX0 : ∀ (x0 : Nat) (x2 : Option Nat) (S' : cS), St u g H T S' → Mono S0 S' → isO g H 2 x0 → tK S' 21 x2 → X (0, x0, x2, S') → cX G o dX2_squeeze mX2_squeeze 191 [some (va_rf (some x0)), none, some (va_rf x2), none, none, none, none, none, none, none, none, none, none, none] [] S' Q) {rec : Nat → Option Nat → Int32 → cS → Nat × Nat × Option Nat × cS} {rok : Nat → Option Nat → Int32 → cS → Prop} (hrec : ∀ (x0 : Nat) (x2 : Option Nat) (x3 : Int32) (S : cS), St u g H T S → Mono S0 S → isO g H 2 x0 → tK S 21 x2 → rok x0 x2 x3 S → X (rec x0 x2 x3 S) → cX G o dX2_squeeze mX2_squeeze 89 [some (va_rf (some x0)), none, some (va_rf x2), some (.int x3), none, none, none, none, none, none, none, none, none, none] [] S Q) {x0 : Nat} {x2 : Option Nat} {x3 : Int32} {x4 : Int32} {x5 : Int32} {s0 : Option Nat} {s1 : Int32} {s2 : Int32} {s3 : Int32} (hS : St u g H T S) (hM : Mono S0 S) (t_x0 : isO g H 2 x0) (t_x2 : tK S 21 x2) (t_s0 : tK S 21 s0) (ok : KO_X2_squeeze_136 N g H T rok x0 x2 x3 x4 x5 s0 s1 s2 s3 S) (hx : X (KF_X2_squeeze_136 N g H T rec x0 x2 x3 x4 x5 s0 s1 s2 s3 S)) : cX G o dX2_squeeze mX2_squeeze 136 [some (va_rf (some x0)), none, some (va_rf x2), some (.int x3), some (.int x4), some (.int x5), none, none, none, none, none, none, none, none] [.int s3, .int s2, .int s1, va_rf s0] S Q := by
  unfold KO_X2_squeeze_136 at ok
  unfold KF_X2_squeeze_136 at hx
  refine c_iload dX2_squeeze_136 rfl ?_
  refine c_bipush (v := nI 18) dX2_squeeze_138 (by decide) ?_
  refine c_iushr dX2_squeeze_140 ?_
  refine c_iload dX2_squeeze_141 rfl ?_
  refine c_bipush (v := nI 14) dX2_squeeze_143 (by decide) ?_
  refine c_ishl dX2_squeeze_145 ?_
  refine c_ior dX2_squeeze_146 ?_
  refine c_ixor dX2_squeeze_147 ?_
  refine c_iload dX2_squeeze_148 rfl ?_
  refine c_iconst (v := nI 3) dX2_squeeze_150 (by decide) ?_
  refine c_iushr dX2_squeeze_151 ?_
  refine c_ixor dX2_squeeze_152 ?_
  exact cX.cutz (kb_X2_squeeze_153 hG hX0 hrec hS hM t_x0 t_x2 t_s0 ok hx) ⟨rfl, rfl, rfl, rfl, trivial⟩
def KB_X2_squeeze_89 (N g H T : Nat) (rec : Nat → Option Nat → Int32 → cS → Nat × Nat × Option Nat × cS) (x0 : Nat) (x2 : Option Nat) (x3 : Int32) (S : cS) : Nat × Nat × Option Nat × cS := (if (nI 64) ≤ x3 then (0, x0, x2, S) else (KF_X2_squeeze_136 N g H T rec x0 x2 x3 (cA S (za x2) (x3 - (nI 15)).toNatClampNeg) (cA S (za x2) (x3 - (nI 2)).toNatClampNeg) x2 x3 ((cA S (za x2) (x3 - (nI 16)).toNatClampNeg) + (cA S (za x2) (x3 - (nI 7)).toNatClampNeg)) (((Int32.toUInt32 (cA S (za x2) (x3 - (nI 15)).toNatClampNeg) >>> (Int32.toUInt32 ((nI 7)) &&& Int32.toUInt32 31)).toInt32) ||| ((cA S (za x2) (x3 - (nI 15)).toNatClampNeg) <<< ((nI 25) &&& 31))) S))
def KOB_X2_squeeze_89 (N g H T : Nat) (rok : Nat → Option Nat → Int32 → cS → Prop) (x0 : Nat) (x2 : Option Nat) (x3 : Int32) (S : cS) : Prop := (((nI 64) ≤ x3 → True) ∧ (¬ (nI 64) ≤ x3 → (¬ x2 = none ∧ vp_in (x3 - (nI 15)) (cL S (za x2))) ∧ (¬ x2 = none ∧ vp_in (x3 - (nI 2)) (cL S (za x2))) ∧ (¬ x2 = none ∧ vp_in (x3 - (nI 16)) (cL S (za x2))) ∧ (¬ x2 = none ∧ vp_in (x3 - (nI 7)) (cL S (za x2))) ∧ KO_X2_squeeze_136 N g H T rok x0 x2 x3 (cA S (za x2) (x3 - (nI 15)).toNatClampNeg) (cA S (za x2) (x3 - (nI 2)).toNatClampNeg) x2 x3 ((cA S (za x2) (x3 - (nI 16)).toNatClampNeg) + (cA S (za x2) (x3 - (nI 7)).toNatClampNeg)) (((Int32.toUInt32 (cA S (za x2) (x3 - (nI 15)).toNatClampNeg) >>> (Int32.toUInt32 ((nI 7)) &&& Int32.toUInt32 31)).toInt32) ||| ((cA S (za x2) (x3 - (nI 15)).toNatClampNeg) <<< ((nI 25) &&& 31))) S))
set_option maxRecDepth 100000 in
set_option maxHeartbeats 4000000 in
theorem kbb_X2_squeeze_89 {G : zG} {o : cO} {u g H T N : Nat} {S : cS} {S0 : cS} {Q : Option Value → cS → Prop} {X : Nat × Nat × Option Nat × cS → Prop} (hG : zOK G) (hX0 : ∀ (x0 : Nat) (x2 : Option Nat) (S' : cS), St u g H T S' → Mono S0 S' → isO g H 2 x0 → tK S' 21 x2 → X (0, x0, x2, S') → cX G o dX2_squeeze mX2_squeeze 191 [some (va_rf (some x0)), none, some (va_rf x2), none, none, none, none, none, none, none, none, none, none, none] [] S' Q) {rec : Nat → Option Nat → Int32 → cS → Nat × Nat × Option Nat × cS} {rok : Nat → Option Nat → Int32 → cS → Prop} (hrec : ∀ (x0 : Nat) (x2 : Option Nat) (x3 : Int32) (S : cS), St u g H T S → Mono S0 S → isO g H 2 x0 → tK S 21 x2 → rok x0 x2 x3 S → X (rec x0 x2 x3 S) → cX G o dX2_squeeze mX2_squeeze 89 [some (va_rf (some x0)), none, some (va_rf x2), some (.int x3), none, none, none, none, none, none, none, none, none, none] [] S Q) {x0 : Nat} {x2 : Option Nat} {x3 : Int32} (hS : St u g H T S) (hM : Mono S0 S) (t_x0 : isO g H 2 x0) (t_x2 : tK S 21 x2) (ok : KOB_X2_squeeze_89 N g H T rok x0 x2 x3 S) (hx : X (KB_X2_squeeze_89 N g H T rec x0 x2 x3 S)) : cX G o dX2_squeeze mX2_squeeze 89 [some (va_rf (some x0)), none, some (va_rf x2), some (.int x3), none, none, none, none, none, none, none, none, none, none] [] S Q := by
  unfold KOB_X2_squeeze_89 at ok
  unfold KB_X2_squeeze_89 at hx
  refine c_iload_n dX2_squeeze_89 rfl rfl ?_
  refine c_bipush (v := nI 64) dX2_squeeze_90 (by decide) ?_
  refine c_icmp_ge (tgt := 191) dX2_squeeze_92 (by decide) (fun c_92 => ?_) (fun c_92 => ?_)
  · have ok := ok.1 c_92
    have hx := xif_p c_92 hx
    exact cX.cutz (hX0 _ _ S hS hM t_x0 t_x2 hx) ⟨rfl, rfl, trivial⟩
  · have ok := ok.2 c_92
    have hx := xif_n c_92 hx
    refine c_aload_nQ dX2_squeeze_95 rfl rfl ?_
    refine c_iload_n dX2_squeeze_96 rfl rfl ?_
    refine c_bipush (v := nI 15) dX2_squeeze_97 (by decide) ?_
    refine c_isub dX2_squeeze_99 ?_
    refine c_iald dX2_squeeze_100 ⟨(tK.cis t_x2 ok.1.1), ok.1.2⟩ ?_
    have ok := ok.2
    refine c_istore_4 dX2_squeeze_101 (by decide) rfl ?_
    refine c_aload_nQ dX2_squeeze_103 rfl rfl ?_
    refine c_iload_n dX2_squeeze_104 rfl rfl ?_
    refine c_iconst (v := nI 2) dX2_squeeze_105 (by decide) ?_
    refine c_isub dX2_squeeze_106 ?_
    refine c_iald dX2_squeeze_107 ⟨(tK.cis t_x2 ok.1.1), ok.1.2⟩ ?_
    have ok := ok.2
    refine c_istore_5 dX2_squeeze_108 (by decide) rfl ?_
    refine c_aload_nQ dX2_squeeze_110 rfl rfl ?_
    refine c_iload_n dX2_squeeze_111 rfl rfl ?_
    refine c_aload_nQ dX2_squeeze_112 rfl rfl ?_
    refine c_iload_n dX2_squeeze_113 rfl rfl ?_
    refine c_bipush (v := nI 16) dX2_squeeze_114 (by decide) ?_
    refine c_isub dX2_squeeze_116 ?_
    refine c_iald dX2_squeeze_117 ⟨(tK.cis t_x2 ok.1.1), ok.1.2⟩ ?_
    have ok := ok.2
    refine c_aload_nQ dX2_squeeze_118 rfl rfl ?_
    refine c_iload_n dX2_squeeze_119 rfl rfl ?_
    refine c_bipush (v := nI 7) dX2_squeeze_120 (by decide) ?_
    refine c_isub dX2_squeeze_122 ?_
    refine c_iald dX2_squeeze_123 ⟨(tK.cis t_x2 ok.1.1), ok.1.2⟩ ?_
    have ok := ok.2
    refine c_iadd dX2_squeeze_124 ?_
    refine c_iload dX2_squeeze_125 rfl ?_
    refine c_bipush (v := nI 7) dX2_squeeze_127 (by decide) ?_
    refine c_iushr dX2_squeeze_129 ?_
    refine c_iload dX2_squeeze_130 rfl ?_
    refine c_bipush (v := nI 25) dX2_squeeze_132 (by decide) ?_
    refine c_ishl dX2_squeeze_134 ?_
    refine c_ior dX2_squeeze_135 ?_
    exact cX.cutz (kb_X2_squeeze_136 hG hX0 hrec hS hM t_x0 t_x2 t_x2 ok hx) ⟨rfl, rfl, rfl, rfl, rfl, trivial⟩
def KL_X2_squeeze_89 (N g H T : Nat) : Nat → Nat → Option Nat → Int32 → cS → Nat × Nat × Option Nat × cS
  | 0, x0, x2, x3, S => (0, 0, none, S)
  | n + 1, x0, x2, x3, S => KB_X2_squeeze_89 N g H T (KL_X2_squeeze_89 N g H T n) x0 x2 x3 S
def KOL_X2_squeeze_89 (N g H T : Nat) : Nat → Nat → Option Nat → Int32 → cS → Prop
  | 0, _, _, _, _ => False
  | n + 1, x0, x2, x3, S => KOB_X2_squeeze_89 N g H T (KOL_X2_squeeze_89 N g H T n) x0 x2 x3 S
set_option maxRecDepth 100000 in
set_option maxHeartbeats 4000000 in
theorem kl_X2_squeeze_89 {G : zG} {o : cO} {u g H T N : Nat} {S0 : cS} {Q : Option Value → cS → Prop} {X : Nat × Nat × Option Nat × cS → Prop} (hG : zOK G) (hX0 : ∀ (x0 : Nat) (x2 : Option Nat) (S' : cS), St u g H T S' → Mono S0 S' → isO g H 2 x0 → tK S' 21 x2 → X (0, x0, x2, S') → cX G o dX2_squeeze mX2_squeeze 191 [some (va_rf (some x0)), none, some (va_rf x2), none, none, none, none, none, none, none, none, none, none, none] [] S' Q) : ∀ (n : Nat) (x0 : Nat) (x2 : Option Nat) (x3 : Int32) (S : cS), St u g H T S → Mono S0 S → isO g H 2 x0 → tK S 21 x2 → KOL_X2_squeeze_89 N g H T n x0 x2 x3 S → X (KL_X2_squeeze_89 N g H T n x0 x2 x3 S) → cX G o dX2_squeeze mX2_squeeze 89 [some (va_rf (some x0)), none, some (va_rf x2), some (.int x3), none, none, none, none, none, none, none, none, none, none] [] S Q := by
  intro n
  induction n with
  | zero => intro x0 x2 x3 S hS hM t_x0 t_x2 ok; exact absurd ok id
  | succ n ih =>
    intro x0 x2 x3 S hS hM t_x0 t_x2 ok hx
    exact kbb_X2_squeeze_89 hG hX0 (rec := KL_X2_squeeze_89 N g H T n) (rok := KOL_X2_squeeze_89 N g H T n) (fun x0 x2 x3 S hS hM t_x0 t_x2 ok hx => ih x0 x2 x3 S hS hM t_x0 t_x2 ok hx) hS hM t_x0 t_x2 ok hx
def KA_X2_squeeze_89 (N g H T : Nat) (x0 : Nat) (x2 : Option Nat) (x3 : Int32) (S : cS) (z : Nat × Nat × Option Nat × cS) : cS := (KF_X2_squeeze_191 N g H T (z.2.1) (z.2.2.1) z.2.2.2)
def KOA_X2_squeeze_89 (N g H T : Nat) (x0 : Nat) (x2 : Option Nat) (x3 : Int32) (S : cS) (z : Nat × Nat × Option Nat × cS) : Prop := KO_X2_squeeze_191 N g H T (z.2.1) (z.2.2.1) z.2.2.2
set_option maxRecDepth 100000 in
set_option maxHeartbeats 4000000 in
theorem kd_X2_squeeze_89 {G : zG} {o : cO} {u g H T N : Nat} {S : cS} {S0 : cS} {Q : Option Value → cS → Prop} {X : cS → Prop} (hG : zOK G) (hR : ∀ S', St u g H T S' → Mono S0 S' → X S' → Q none S') {x0 : Nat} {x2 : Option Nat} {x3 : Int32} (hS : St u g H T S) (hM : Mono S0 S) (t_x0 : isO g H 2 x0) (t_x2 : tK S 21 x2) (ok : KOL_X2_squeeze_89 N g H T N x0 x2 x3 S ∧ KOA_X2_squeeze_89 N g H T x0 x2 x3 S (KL_X2_squeeze_89 N g H T N x0 x2 x3 S)) (hx : X (KA_X2_squeeze_89 N g H T x0 x2 x3 S (KL_X2_squeeze_89 N g H T N x0 x2 x3 S))) : cX G o dX2_squeeze mX2_squeeze 89 [some (va_rf (some x0)), none, some (va_rf x2), some (.int x3), none, none, none, none, none, none, none, none, none, none] [] S Q := by
  refine kl_X2_squeeze_89 hG ?_ N x0 x2 x3 S hS hM t_x0 t_x2 ok.1 (X := fun z => KOA_X2_squeeze_89 N g H T x0 x2 x3 S z ∧ X (KA_X2_squeeze_89 N g H T x0 x2 x3 S z)) ⟨ok.2, hx⟩
  · intro x0' x2' S' hS hM t_x0 t_x2 hz
    obtain ⟨ok, hx⟩ := hz
    unfold KOA_X2_squeeze_89 at ok
    unfold KA_X2_squeeze_89 at hx
    exact cX.cutz (kb_X2_squeeze_191 hG hR hS hM t_x0 t_x2 ok hx) ⟨rfl, rfl, trivial⟩
def KF_X2_squeeze_86 (N g H T : Nat) (x0 : Nat) (x2 : Option Nat) (S : cS) : cS := (KA_X2_squeeze_89 N g H T x0 x2 (nI 16) S (KL_X2_squeeze_89 N g H T N x0 x2 (nI 16) S))
def KO_X2_squeeze_86 (N g H T : Nat) (x0 : Nat) (x2 : Option Nat) (S : cS) : Prop := (KOL_X2_squeeze_89 N g H T N x0 x2 (nI 16) S ∧ KOA_X2_squeeze_89 N g H T x0 x2 (nI 16) S (KL_X2_squeeze_89 N g H T N x0 x2 (nI 16) S))
set_option maxRecDepth 100000 in
set_option maxHeartbeats 4000000 in
theorem kb_X2_squeeze_86 {G : zG} {o : cO} {u g H T N : Nat} {S : cS} {S0 : cS} {Q : Option Value → cS → Prop} {X : cS → Prop} (hG : zOK G) (hR : ∀ S', St u g H T S' → Mono S0 S' → X S' → Q none S') {x0 : Nat} {x2 : Option Nat} (hS : St u g H T S) (hM : Mono S0 S) (t_x0 : isO g H 2 x0) (t_x2 : tK S 21 x2) (ok : KO_X2_squeeze_86 N g H T x0 x2 S) (hx : X (KF_X2_squeeze_86 N g H T x0 x2 S)) : cX G o dX2_squeeze mX2_squeeze 86 [some (va_rf (some x0)), none, some (va_rf x2), none, none, none, none, none, none, none, none, none, none, none] [] S Q := by
  unfold KO_X2_squeeze_86 at ok
  unfold KF_X2_squeeze_86 at hx
  refine c_bipush (v := nI 16) dX2_squeeze_86 (by decide) ?_
  refine c_istore_3 dX2_squeeze_88 (by decide) (by simp [zok, zg, zcat_rf]) ?_
  exact cX.cutz (kd_X2_squeeze_89 hG hR hS hM t_x0 t_x2 ok hx) ⟨rfl, rfl, rfl, trivial⟩
def KF_X2_squeeze_62 (N g H T : Nat) (rec : Nat → Option Nat → Int32 → Int32 → cS → Nat × Nat × Option Nat × cS) (x0 : Nat) (x2 : Option Nat) (x3 : Int32) (x4 : Int32) (s0 : Option Nat) (s1 : Int32) (s2 : Int32) (S : cS) : Nat × Nat × Option Nat × cS := (rec x0 x2 (x3 + nI 1) (x4 + nI 4) (csA S (za s0) s1.toNatClampNeg (s2 ||| ((cA S (x0 + 1) (x4 + (nI 3)).toNatClampNeg) &&& (nI 255)))))
def KO_X2_squeeze_62 (N g H T : Nat) (rok : Nat → Option Nat → Int32 → Int32 → cS → Prop) (x0 : Nat) (x2 : Option Nat) (x3 : Int32) (x4 : Int32) (s0 : Option Nat) (s1 : Int32) (s2 : Int32) (S : cS) : Prop := (vp_in (x4 + (nI 3)) 1088) ∧ (¬ s0 = none ∧ vp_in s1 (cL S (za s0))) ∧ rok x0 x2 (x3 + nI 1) (x4 + nI 4) (csA S (za s0) s1.toNatClampNeg (s2 ||| ((cA S (x0 + 1) (x4 + (nI 3)).toNatClampNeg) &&& (nI 255))))
set_option maxRecDepth 100000 in
set_option maxHeartbeats 4000000 in
theorem kb_X2_squeeze_62 {G : zG} {o : cO} {u g H T N : Nat} {S : cS} {S0 : cS} {Q : Option Value → cS → Prop} {X : Nat × Nat × Option Nat × cS → Prop} (hG : zOK G) (hX0 : ∀ (x0 : Nat) (x2 : Option Nat) (S' : cS), St u g H T S' → Mono S0 S' → isO g H 2 x0 → tK S' 21 x2 → X (0, x0, x2, S') → cX G o dX2_squeeze mX2_squeeze 86 [some (va_rf (some x0)), none, some (va_rf x2), none, none, none, none, none, none, none, none, none, none, none] [] S' Q) {rec : Nat → Option Nat → Int32 → Int32 → cS → Nat × Nat × Option Nat × cS} {rok : Nat → Option Nat → Int32 → Int32 → cS → Prop} (hrec : ∀ (x0 : Nat) (x2 : Option Nat) (x3 : Int32) (x4 : Int32) (S : cS), St u g H T S → Mono S0 S → isO g H 2 x0 → tK S 21 x2 → rok x0 x2 x3 x4 S → X (rec x0 x2 x3 x4 S) → cX G o dX2_squeeze mX2_squeeze 10 [some (va_rf (some x0)), none, some (va_rf x2), some (.int x3), some (.int x4), none, none, none, none, none, none, none, none, none] [] S Q) {x0 : Nat} {x2 : Option Nat} {x3 : Int32} {x4 : Int32} {s0 : Option Nat} {s1 : Int32} {s2 : Int32} (hS : St u g H T S) (hM : Mono S0 S) (t_x0 : isO g H 2 x0) (t_x2 : tK S 21 x2) (t_s0 : tK S 21 s0) (ok : KO_X2_squeeze_62 N g H T rok x0 x2 x3 x4 s0 s1 s2 S) (hx : X (KF_X2_squeeze_62 N g H T rec x0 x2 x3 x4 s0 s1 s2 S)) : cX G o dX2_squeeze mX2_squeeze 62 [some (va_rf (some x0)), none, some (va_rf x2), some (.int x3), some (.int x4), none, none, none, none, none, none, none, none, none] [.int s2, .int s1, va_rf s0] S Q := by
  unfold KO_X2_squeeze_62 at ok
  unfold KF_X2_squeeze_62 at hx
  refine c_aload_nQ dX2_squeeze_62 rfl rfl ?_
  refine c_getS (C := RX2) (T := TX2) (N := 6) (ci := 2) (k := 0) ⟨rfl, inT2, by decide, fX2_11⟩ (by decide) (by decide) (by decide) dX2_squeeze_63 (hS.k t_x0) (hS.r (c := 2) t_x0 rfl (by omega)) ?_
  refine c_iload dX2_squeeze_66 rfl ?_
  refine c_iconst (v := nI 3) dX2_squeeze_68 (by decide) ?_
  refine c_iadd dX2_squeeze_69 ?_
  refine c_bald dX2_squeeze_70 ⟨(tK.cis (hS.rk (c := 2) (k := 0) t_x0 rfl (by omega)) (Option.some_ne_none _)), (vk_cast (hS.rl (c := 2) (k := 0) t_x0 rfl (by decide) (by omega)) ok.1)⟩ ?_
  have ok := ok.2
  refine c_sipush (v := nI 255) dX2_squeeze_71 (by decide) ?_
  refine c_iand dX2_squeeze_74 ?_
  refine c_ior dX2_squeeze_75 ?_
  have tq_76 : tK S 21 (some (za s0)) := tK_some (tK.cis t_s0 ok.1.1).2
  refine c_iast hG dX2_squeeze_76 ⟨(tK.cis t_s0 ok.1.1), ok.1.2⟩ ?_
  have hS := hS.Aw (k := 21) (za s0) s1.toNatClampNeg (s2 ||| ((cA S (x0 + 1) (x4 + (nI 3)).toNatClampNeg) &&& (nI 255))) tq_76 (by decide)
  have hM := hM.A (za s0) s1.toNatClampNeg (s2 ||| ((cA S (x0 + 1) (x4 + (nI 3)).toNatClampNeg) &&& (nI 255)))
  have ok := ok.2
  refine c_iinc_3 (v := (x3 + nI 1)) dX2_squeeze_77 rfl (by first | rfl | (congr 1)) (by decide) (by simp [zok, zg, zcat_rf]) ?_
  refine c_iinc_4 (v := (x4 + nI 4)) dX2_squeeze_80 rfl (by first | rfl | (congr 1)) (by decide) rfl ?_
  refine c_goto (tgt := 10) dX2_squeeze_83 (by decide) ?_
  exact cX.cutz (hrec _ _ _ _ (csA S (za s0) s1.toNatClampNeg (s2 ||| ((cA S (x0 + 1) (x4 + (nI 3)).toNatClampNeg) &&& (nI 255)))) hS hM t_x0 (tK_A t_x2) ok hx) ⟨rfl, rfl, rfl, rfl, trivial⟩
def KB_X2_squeeze_10 (N g H T : Nat) (rec : Nat → Option Nat → Int32 → Int32 → cS → Nat × Nat × Option Nat × cS) (x0 : Nat) (x2 : Option Nat) (x3 : Int32) (x4 : Int32) (S : cS) : Nat × Nat × Option Nat × cS := (if (nI 16) ≤ x3 then (0, x0, x2, S) else (KF_X2_squeeze_62 N g H T rec x0 x2 x3 x4 x2 x3 ((((cA S (x0 + 1) x4.toNatClampNeg) <<< ((nI 24) &&& 31)) ||| (((cA S (x0 + 1) (x4 + (nI 1)).toNatClampNeg) &&& (nI 255)) <<< ((nI 16) &&& 31))) ||| (((cA S (x0 + 1) (x4 + (nI 2)).toNatClampNeg) &&& (nI 255)) <<< ((nI 8) &&& 31))) S))
def KOB_X2_squeeze_10 (N g H T : Nat) (rok : Nat → Option Nat → Int32 → Int32 → cS → Prop) (x0 : Nat) (x2 : Option Nat) (x3 : Int32) (x4 : Int32) (S : cS) : Prop := (((nI 16) ≤ x3 → True) ∧ (¬ (nI 16) ≤ x3 → (vp_in x4 1088) ∧ (vp_in (x4 + (nI 1)) 1088) ∧ (vp_in (x4 + (nI 2)) 1088) ∧ KO_X2_squeeze_62 N g H T rok x0 x2 x3 x4 x2 x3 ((((cA S (x0 + 1) x4.toNatClampNeg) <<< ((nI 24) &&& 31)) ||| (((cA S (x0 + 1) (x4 + (nI 1)).toNatClampNeg) &&& (nI 255)) <<< ((nI 16) &&& 31))) ||| (((cA S (x0 + 1) (x4 + (nI 2)).toNatClampNeg) &&& (nI 255)) <<< ((nI 8) &&& 31))) S))
set_option maxRecDepth 100000 in
set_option maxHeartbeats 4000000 in
theorem kbb_X2_squeeze_10 {G : zG} {o : cO} {u g H T N : Nat} {S : cS} {S0 : cS} {Q : Option Value → cS → Prop} {X : Nat × Nat × Option Nat × cS → Prop} (hG : zOK G) (hX0 : ∀ (x0 : Nat) (x2 : Option Nat) (S' : cS), St u g H T S' → Mono S0 S' → isO g H 2 x0 → tK S' 21 x2 → X (0, x0, x2, S') → cX G o dX2_squeeze mX2_squeeze 86 [some (va_rf (some x0)), none, some (va_rf x2), none, none, none, none, none, none, none, none, none, none, none] [] S' Q) {rec : Nat → Option Nat → Int32 → Int32 → cS → Nat × Nat × Option Nat × cS} {rok : Nat → Option Nat → Int32 → Int32 → cS → Prop} (hrec : ∀ (x0 : Nat) (x2 : Option Nat) (x3 : Int32) (x4 : Int32) (S : cS), St u g H T S → Mono S0 S → isO g H 2 x0 → tK S 21 x2 → rok x0 x2 x3 x4 S → X (rec x0 x2 x3 x4 S) → cX G o dX2_squeeze mX2_squeeze 10 [some (va_rf (some x0)), none, some (va_rf x2), some (.int x3), some (.int x4), none, none, none, none, none, none, none, none, none] [] S Q) {x0 : Nat} {x2 : Option Nat} {x3 : Int32} {x4 : Int32} (hS : St u g H T S) (hM : Mono S0 S) (t_x0 : isO g H 2 x0) (t_x2 : tK S 21 x2) (ok : KOB_X2_squeeze_10 N g H T rok x0 x2 x3 x4 S) (hx : X (KB_X2_squeeze_10 N g H T rec x0 x2 x3 x4 S)) : cX G o dX2_squeeze mX2_squeeze 10 [some (va_rf (some x0)), none, some (va_rf x2), some (.int x3), some (.int x4), none, none, none, none, none, none, none, none, none] [] S Q := by
  unfold KOB_X2_squeeze_10 at ok
  unfold KB_X2_squeeze_10 at hx
  refine c_iload_n dX2_squeeze_10 rfl rfl ?_
  refine c_bipush (v := nI 16) dX2_squeeze_11 (by decide) ?_
  refine c_icmp_ge (tgt := 86) dX2_squeeze_13 (by decide) (fun c_13 => ?_) (fun c_13 => ?_)
  · have ok := ok.1 c_13
    have hx := xif_p c_13 hx
    exact cX.cutz (hX0 _ _ S hS hM t_x0 t_x2 hx) ⟨rfl, rfl, trivial⟩
  · have ok := ok.2 c_13
    have hx := xif_n c_13 hx
    refine c_aload_nQ dX2_squeeze_16 rfl rfl ?_
    refine c_iload_n dX2_squeeze_17 rfl rfl ?_
    refine c_aload_nQ dX2_squeeze_18 rfl rfl ?_
    refine c_getS (C := RX2) (T := TX2) (N := 6) (ci := 2) (k := 0) ⟨rfl, inT2, by decide, fX2_11⟩ (by decide) (by decide) (by decide) dX2_squeeze_19 (hS.k t_x0) (hS.r (c := 2) t_x0 rfl (by omega)) ?_
    refine c_iload dX2_squeeze_22 rfl ?_
    refine c_bald dX2_squeeze_24 ⟨(tK.cis (hS.rk (c := 2) (k := 0) t_x0 rfl (by omega)) (Option.some_ne_none _)), (vk_cast (hS.rl (c := 2) (k := 0) t_x0 rfl (by decide) (by omega)) ok.1)⟩ ?_
    have ok := ok.2
    refine c_bipush (v := nI 24) dX2_squeeze_25 (by decide) ?_
    refine c_ishl dX2_squeeze_27 ?_
    refine c_aload_nQ dX2_squeeze_28 rfl rfl ?_
    refine c_getS (C := RX2) (T := TX2) (N := 6) (ci := 2) (k := 0) ⟨rfl, inT2, by decide, fX2_11⟩ (by decide) (by decide) (by decide) dX2_squeeze_29 (hS.k t_x0) (hS.r (c := 2) t_x0 rfl (by omega)) ?_
    refine c_iload dX2_squeeze_32 rfl ?_
    refine c_iconst (v := nI 1) dX2_squeeze_34 (by decide) ?_
    refine c_iadd dX2_squeeze_35 ?_
    refine c_bald dX2_squeeze_36 ⟨(tK.cis (hS.rk (c := 2) (k := 0) t_x0 rfl (by omega)) (Option.some_ne_none _)), (vk_cast (hS.rl (c := 2) (k := 0) t_x0 rfl (by decide) (by omega)) ok.1)⟩ ?_
    have ok := ok.2
    refine c_sipush (v := nI 255) dX2_squeeze_37 (by decide) ?_
    refine c_iand dX2_squeeze_40 ?_
    refine c_bipush (v := nI 16) dX2_squeeze_41 (by decide) ?_
    refine c_ishl dX2_squeeze_43 ?_
    refine c_ior dX2_squeeze_44 ?_
    refine c_aload_nQ dX2_squeeze_45 rfl rfl ?_
    refine c_getS (C := RX2) (T := TX2) (N := 6) (ci := 2) (k := 0) ⟨rfl, inT2, by decide, fX2_11⟩ (by decide) (by decide) (by decide) dX2_squeeze_46 (hS.k t_x0) (hS.r (c := 2) t_x0 rfl (by omega)) ?_
    refine c_iload dX2_squeeze_49 rfl ?_
    refine c_iconst (v := nI 2) dX2_squeeze_51 (by decide) ?_
    refine c_iadd dX2_squeeze_52 ?_
    refine c_bald dX2_squeeze_53 ⟨(tK.cis (hS.rk (c := 2) (k := 0) t_x0 rfl (by omega)) (Option.some_ne_none _)), (vk_cast (hS.rl (c := 2) (k := 0) t_x0 rfl (by decide) (by omega)) ok.1)⟩ ?_
    have ok := ok.2
    refine c_sipush (v := nI 255) dX2_squeeze_54 (by decide) ?_
    refine c_iand dX2_squeeze_57 ?_
    refine c_bipush (v := nI 8) dX2_squeeze_58 (by decide) ?_
    refine c_ishl dX2_squeeze_60 ?_
    refine c_ior dX2_squeeze_61 ?_
    exact cX.cutz (kb_X2_squeeze_62 hG hX0 hrec hS hM t_x0 t_x2 t_x2 ok hx) ⟨rfl, rfl, rfl, rfl, trivial⟩
def KL_X2_squeeze_10 (N g H T : Nat) : Nat → Nat → Option Nat → Int32 → Int32 → cS → Nat × Nat × Option Nat × cS
  | 0, x0, x2, x3, x4, S => (0, 0, none, S)
  | n + 1, x0, x2, x3, x4, S => KB_X2_squeeze_10 N g H T (KL_X2_squeeze_10 N g H T n) x0 x2 x3 x4 S
def KOL_X2_squeeze_10 (N g H T : Nat) : Nat → Nat → Option Nat → Int32 → Int32 → cS → Prop
  | 0, _, _, _, _, _ => False
  | n + 1, x0, x2, x3, x4, S => KOB_X2_squeeze_10 N g H T (KOL_X2_squeeze_10 N g H T n) x0 x2 x3 x4 S
set_option maxRecDepth 100000 in
set_option maxHeartbeats 4000000 in
theorem kl_X2_squeeze_10 {G : zG} {o : cO} {u g H T N : Nat} {S0 : cS} {Q : Option Value → cS → Prop} {X : Nat × Nat × Option Nat × cS → Prop} (hG : zOK G) (hX0 : ∀ (x0 : Nat) (x2 : Option Nat) (S' : cS), St u g H T S' → Mono S0 S' → isO g H 2 x0 → tK S' 21 x2 → X (0, x0, x2, S') → cX G o dX2_squeeze mX2_squeeze 86 [some (va_rf (some x0)), none, some (va_rf x2), none, none, none, none, none, none, none, none, none, none, none] [] S' Q) : ∀ (n : Nat) (x0 : Nat) (x2 : Option Nat) (x3 : Int32) (x4 : Int32) (S : cS), St u g H T S → Mono S0 S → isO g H 2 x0 → tK S 21 x2 → KOL_X2_squeeze_10 N g H T n x0 x2 x3 x4 S → X (KL_X2_squeeze_10 N g H T n x0 x2 x3 x4 S) → cX G o dX2_squeeze mX2_squeeze 10 [some (va_rf (some x0)), none, some (va_rf x2), some (.int x3), some (.int x4), none, none, none, none, none, none, none, none, none] [] S Q := by
  intro n
  induction n with
  | zero => intro x0 x2 x3 x4 S hS hM t_x0 t_x2 ok; exact absurd ok id
  | succ n ih =>
    intro x0 x2 x3 x4 S hS hM t_x0 t_x2 ok hx
    exact kbb_X2_squeeze_10 hG hX0 (rec := KL_X2_squeeze_10 N g H T n) (rok := KOL_X2_squeeze_10 N g H T n) (fun x0 x2 x3 x4 S hS hM t_x0 t_x2 ok hx => ih x0 x2 x3 x4 S hS hM t_x0 t_x2 ok hx) hS hM t_x0 t_x2 ok hx
def KA_X2_squeeze_10 (N g H T : Nat) (x0 : Nat) (x2 : Option Nat) (x3 : Int32) (x4 : Int32) (S : cS) (z : Nat × Nat × Option Nat × cS) : cS := (KF_X2_squeeze_86 N g H T (z.2.1) (z.2.2.1) z.2.2.2)
def KOA_X2_squeeze_10 (N g H T : Nat) (x0 : Nat) (x2 : Option Nat) (x3 : Int32) (x4 : Int32) (S : cS) (z : Nat × Nat × Option Nat × cS) : Prop := KO_X2_squeeze_86 N g H T (z.2.1) (z.2.2.1) z.2.2.2
set_option maxRecDepth 100000 in
set_option maxHeartbeats 4000000 in
theorem kd_X2_squeeze_10 {G : zG} {o : cO} {u g H T N : Nat} {S : cS} {S0 : cS} {Q : Option Value → cS → Prop} {X : cS → Prop} (hG : zOK G) (hR : ∀ S', St u g H T S' → Mono S0 S' → X S' → Q none S') {x0 : Nat} {x2 : Option Nat} {x3 : Int32} {x4 : Int32} (hS : St u g H T S) (hM : Mono S0 S) (t_x0 : isO g H 2 x0) (t_x2 : tK S 21 x2) (ok : KOL_X2_squeeze_10 N g H T N x0 x2 x3 x4 S ∧ KOA_X2_squeeze_10 N g H T x0 x2 x3 x4 S (KL_X2_squeeze_10 N g H T N x0 x2 x3 x4 S)) (hx : X (KA_X2_squeeze_10 N g H T x0 x2 x3 x4 S (KL_X2_squeeze_10 N g H T N x0 x2 x3 x4 S))) : cX G o dX2_squeeze mX2_squeeze 10 [some (va_rf (some x0)), none, some (va_rf x2), some (.int x3), some (.int x4), none, none, none, none, none, none, none, none, none] [] S Q := by
  refine kl_X2_squeeze_10 hG ?_ N x0 x2 x3 x4 S hS hM t_x0 t_x2 ok.1 (X := fun z => KOA_X2_squeeze_10 N g H T x0 x2 x3 x4 S z ∧ X (KA_X2_squeeze_10 N g H T x0 x2 x3 x4 S z)) ⟨ok.2, hx⟩
  · intro x0' x2' S' hS hM t_x0 t_x2 hz
    obtain ⟨ok, hx⟩ := hz
    unfold KOA_X2_squeeze_10 at ok
    unfold KA_X2_squeeze_10 at hx
    exact cX.cutz (kb_X2_squeeze_86 hG hR hS hM t_x0 t_x2 ok hx) ⟨rfl, rfl, trivial⟩
def KF_X2_squeeze_0 (N g H T : Nat) (x0 : Nat) (x1 : Int32) (S : cS) : cS := (KA_X2_squeeze_10 N g H T x0 (some (x0 + 2)) (nI 0) x1 S (KL_X2_squeeze_10 N g H T N x0 (some (x0 + 2)) (nI 0) x1 S))
def KO_X2_squeeze_0 (N g H T : Nat) (x0 : Nat) (x1 : Int32) (S : cS) : Prop := (KOL_X2_squeeze_10 N g H T N x0 (some (x0 + 2)) (nI 0) x1 S ∧ KOA_X2_squeeze_10 N g H T x0 (some (x0 + 2)) (nI 0) x1 S (KL_X2_squeeze_10 N g H T N x0 (some (x0 + 2)) (nI 0) x1 S))
set_option maxRecDepth 100000 in
set_option maxHeartbeats 4000000 in
theorem kb_X2_squeeze_0 {G : zG} {o : cO} {u g H T N : Nat} {S : cS} {S0 : cS} {Q : Option Value → cS → Prop} {X : cS → Prop} (hG : zOK G) (hR : ∀ S', St u g H T S' → Mono S0 S' → X S' → Q none S') {x0 : Nat} {x1 : Int32} (hS : St u g H T S) (hM : Mono S0 S) (t_x0 : isO g H 2 x0) (ok : KO_X2_squeeze_0 N g H T x0 x1 S) (hx : X (KF_X2_squeeze_0 N g H T x0 x1 S)) : cX G o dX2_squeeze mX2_squeeze 0 [some (va_rf (some x0)), some (.int x1), none, none, none, none, none, none, none, none, none, none, none, none] [] S Q := by
  unfold KO_X2_squeeze_0 at ok
  unfold KF_X2_squeeze_0 at hx
  refine c_aload_nQ dX2_squeeze_0 rfl rfl ?_
  refine c_getS (C := RX2) (T := TX2) (N := 6) (ci := 2) (k := 1) ⟨rfl, inT2, by decide, fX2_15⟩ (by decide) (by decide) (by decide) dX2_squeeze_1 (hS.k t_x0) (hS.r (c := 2) t_x0 rfl (by omega)) ?_
  refine c_astore_2Q dX2_squeeze_4 (by decide) rfl ?_
  refine c_iconst (v := nI 0) dX2_squeeze_5 (by decide) ?_
  refine c_istore_3 dX2_squeeze_6 (by decide) (by simp [zok, zg, zcat_rf]) ?_
  refine c_iload_n dX2_squeeze_7 rfl rfl ?_
  refine c_istore_4 dX2_squeeze_8 (by decide) rfl ?_
  exact cX.cutz (kd_X2_squeeze_10 hG hR hS hM t_x0 (hS.rk (c := 2) (k := 1) t_x0 rfl (by omega)) ok hx) ⟨rfl, rfl, rfl, rfl, trivial⟩
def k_X2_squeeze (N g H T : Nat) (S : cS) (a0 : Nat) (x1 : Int32) : cS := KF_X2_squeeze_0 N g H T a0 x1 S
def p_X2_squeeze (N g H T : Nat) (S : cS) (a0 : Nat) (x1 : Int32) : Prop := KO_X2_squeeze_0 N g H T a0 x1 S
set_option maxRecDepth 100000 in
set_option maxHeartbeats 4000000 in
theorem kc_X2_squeeze {G : zG} {o : cO} {u g H T N : Nat} {S : cS} (hG : zOK G) {a0 : Nat} {x1 : Int32} (hS : St u g H T S) (t_x0 : isO g H 2 a0) (ok : p_X2_squeeze N g H T S a0 x1) : cCv G o dX2_squeeze mX2_squeeze [.ref a0, .int x1] S (fun S' => S' = k_X2_squeeze N g H T S a0 x1 ∧ St u g H T S' ∧ Mono S S') := by
  refine cC.ofX rfl (by exact Nat.le_of_ble_eq_true rfl) ?_
  show cX G o dX2_squeeze mX2_squeeze 0 [some (va_rf (some a0)), some (.int x1), none, none, none, none, none, none, none, none, none, none, none, none] [] S _
  exact cX.cutz (kb_X2_squeeze_0 (X := fun F => F = k_X2_squeeze N g H T S a0 x1) hG (fun S' h1 h2 h => ⟨rfl, h, h1, h2⟩) hS Mono.rfl' t_x0 ok rfl) ⟨rfl, rfl, trivial⟩
/-! X2_close -/
def KF_X2_close_165 (N g H T : Nat)  (S : cS) : cS := S
def KO_X2_close_165 (N g H T : Nat)  (S : cS) : Prop := True
set_option maxRecDepth 100000 in
set_option maxHeartbeats 4000000 in
theorem kb_X2_close_165 {G : zG} {o : cO} {u g H T N : Nat} {S : cS} {S0 : cS} {Q : Option Value → cS → Prop} {X : cS → Prop} (hG : zOK G) (hR : ∀ S', St u g H T S' → Mono S0 S' → X S' → Q none S') (hS : St u g H T S) (hM : Mono S0 S) (ok : KO_X2_close_165 N g H T S) (hx : X (KF_X2_close_165 N g H T S)) : cX G o dX2_close mX2_close 165 [none, none, none, none, none, none] [] S Q := by
  unfold KO_X2_close_165 at ok
  unfold KF_X2_close_165 at hx
  exact c_return rfl dX2_close_165 (hR _ hS hM hx)
def KF_X2_close_159 (N g H T : Nat) (rec : Nat → Option Nat → Int32 → Int32 → cS → Nat × cS) (x0 : Nat) (x1 : Option Nat) (x2 : Int32) (x5 : Int32) (S : cS) : Nat × cS := (rec x0 x1 x2 (x5 + nI 1) S)
def KO_X2_close_159 (N g H T : Nat) (rok : Nat → Option Nat → Int32 → Int32 → cS → Prop) (x0 : Nat) (x1 : Option Nat) (x2 : Int32) (x5 : Int32) (S : cS) : Prop := rok x0 x1 x2 (x5 + nI 1) S
set_option maxRecDepth 100000 in
set_option maxHeartbeats 4000000 in
theorem kb_X2_close_159 {G : zG} {o : cO} {u g H T N : Nat} {S : cS} {S0 : cS} {Q : Option Value → cS → Prop} {X : Nat × cS → Prop} (hG : zOK G) (hX0 : ∀ (S' : cS), St u g H T S' → Mono S0 S' → X (0, S') → cX G o dX2_close mX2_close 165 [none, none, none, none, none, none] [] S' Q) {rec : Nat → Option Nat → Int32 → Int32 → cS → Nat × cS} {rok : Nat → Option Nat → Int32 → Int32 → cS → Prop} (hrec : ∀ (x0 : Nat) (x1 : Option Nat) (x2 : Int32) (x5 : Int32) (S : cS), St u g H T S → Mono S0 S → isO g H 2 x0 → tK S 20 x1 → rok x0 x1 x2 x5 S → X (rec x0 x1 x2 x5 S) → cX G o dX2_close mX2_close 125 [some (va_rf (some x0)), some (va_rf x1), some (.int x2), none, none, some (.int x5)] [] S Q) {x0 : Nat} {x1 : Option Nat} {x2 : Int32} {x5 : Int32} (hS : St u g H T S) (hM : Mono S0 S) (t_x0 : isO g H 2 x0) (t_x1 : tK S 20 x1) (ok : KO_X2_close_159 N g H T rok x0 x1 x2 x5 S) (hx : X (KF_X2_close_159 N g H T rec x0 x1 x2 x5 S)) : cX G o dX2_close mX2_close 159 [some (va_rf (some x0)), some (va_rf x1), some (.int x2), none, none, some (.int x5)] [] S Q := by
  unfold KO_X2_close_159 at ok
  unfold KF_X2_close_159 at hx
  refine c_iinc_5 (v := (x5 + nI 1)) dX2_close_159 rfl (by first | rfl | (congr 1)) (by decide) rfl ?_
  refine c_goto (tgt := 125) dX2_close_162 (by decide) ?_
  exact cX.cutz (hrec _ _ _ _ S hS hM t_x0 t_x1 ok hx) ⟨rfl, rfl, rfl, rfl, trivial⟩
def KB_X2_close_125 (N g H T : Nat) (rec : Nat → Option Nat → Int32 → Int32 → cS → Nat × cS) (x0 : Nat) (x1 : Option Nat) (x2 : Int32) (x5 : Int32) (S : cS) : Nat × cS := (if (nI 32) ≤ x5 then (0, S) else (KF_X2_close_159 N g H T rec x0 x1 x2 x5 (csA S (za x1) (x2 + x5).toNatClampNeg ((((cA S (x0 + 3) (x5 >>> ((nI 2) &&& 31)).toNatClampNeg) >>> (((nI 24) - ((nI 8) * (x5 &&& (nI 3)))) &&& 31)).toInt8.toInt32).toInt8.toInt32))))
def KOB_X2_close_125 (N g H T : Nat) (rok : Nat → Option Nat → Int32 → Int32 → cS → Prop) (x0 : Nat) (x1 : Option Nat) (x2 : Int32) (x5 : Int32) (S : cS) : Prop := (((nI 32) ≤ x5 → True) ∧ (¬ (nI 32) ≤ x5 → (vp_in (x5 >>> ((nI 2) &&& 31)) 8) ∧ (¬ x1 = none ∧ vp_in (x2 + x5) (cL S (za x1))) ∧ KO_X2_close_159 N g H T rok x0 x1 x2 x5 (csA S (za x1) (x2 + x5).toNatClampNeg ((((cA S (x0 + 3) (x5 >>> ((nI 2) &&& 31)).toNatClampNeg) >>> (((nI 24) - ((nI 8) * (x5 &&& (nI 3)))) &&& 31)).toInt8.toInt32).toInt8.toInt32))))
set_option maxRecDepth 100000 in
set_option maxHeartbeats 4000000 in
theorem kbb_X2_close_125 {G : zG} {o : cO} {u g H T N : Nat} {S : cS} {S0 : cS} {Q : Option Value → cS → Prop} {X : Nat × cS → Prop} (hG : zOK G) (hX0 : ∀ (S' : cS), St u g H T S' → Mono S0 S' → X (0, S') → cX G o dX2_close mX2_close 165 [none, none, none, none, none, none] [] S' Q) {rec : Nat → Option Nat → Int32 → Int32 → cS → Nat × cS} {rok : Nat → Option Nat → Int32 → Int32 → cS → Prop} (hrec : ∀ (x0 : Nat) (x1 : Option Nat) (x2 : Int32) (x5 : Int32) (S : cS), St u g H T S → Mono S0 S → isO g H 2 x0 → tK S 20 x1 → rok x0 x1 x2 x5 S → X (rec x0 x1 x2 x5 S) → cX G o dX2_close mX2_close 125 [some (va_rf (some x0)), some (va_rf x1), some (.int x2), none, none, some (.int x5)] [] S Q) {x0 : Nat} {x1 : Option Nat} {x2 : Int32} {x5 : Int32} (hS : St u g H T S) (hM : Mono S0 S) (t_x0 : isO g H 2 x0) (t_x1 : tK S 20 x1) (ok : KOB_X2_close_125 N g H T rok x0 x1 x2 x5 S) (hx : X (KB_X2_close_125 N g H T rec x0 x1 x2 x5 S)) : cX G o dX2_close mX2_close 125 [some (va_rf (some x0)), some (va_rf x1), some (.int x2), none, none, some (.int x5)] [] S Q := by
  unfold KOB_X2_close_125 at ok
  unfold KB_X2_close_125 at hx
  refine c_iload dX2_close_125 rfl ?_
  refine c_bipush (v := nI 32) dX2_close_127 (by decide) ?_
  refine c_icmp_ge (tgt := 165) dX2_close_129 (by decide) (fun c_129 => ?_) (fun c_129 => ?_)
  · have ok := ok.1 c_129
    have hx := xif_p c_129 hx
    exact cX.cutz (hX0 S hS hM  hx) trivial
  · have ok := ok.2 c_129
    have hx := xif_n c_129 hx
    refine c_aload_nQ dX2_close_132 rfl rfl ?_
    refine c_iload_n dX2_close_133 rfl rfl ?_
    refine c_iload dX2_close_134 rfl ?_
    refine c_iadd dX2_close_136 ?_
    refine c_aload_nQ dX2_close_137 rfl rfl ?_
    refine c_getS (C := RX2) (T := TX2) (N := 6) (ci := 2) (k := 2) ⟨rfl, inT2, by decide, fX2_19⟩ (by decide) (by decide) (by decide) dX2_close_138 (hS.k t_x0) (hS.r (c := 2) t_x0 rfl (by omega)) ?_
    refine c_iload dX2_close_141 rfl ?_
    refine c_iconst (v := nI 2) dX2_close_143 (by decide) ?_
    refine c_ishr dX2_close_144 ?_
    refine c_iald dX2_close_145 ⟨(tK.cis (hS.rk (c := 2) (k := 2) t_x0 rfl (by omega)) (Option.some_ne_none _)), (vk_cast (hS.rl (c := 2) (k := 2) t_x0 rfl (by decide) (by omega)) ok.1)⟩ ?_
    have ok := ok.2
    refine c_bipush (v := nI 24) dX2_close_146 (by decide) ?_
    refine c_bipush (v := nI 8) dX2_close_148 (by decide) ?_
    refine c_iload dX2_close_150 rfl ?_
    refine c_iconst (v := nI 3) dX2_close_152 (by decide) ?_
    refine c_iand dX2_close_153 ?_
    refine c_imul dX2_close_154 ?_
    refine c_isub dX2_close_155 ?_
    refine c_ishr dX2_close_156 ?_
    refine c_i2b dX2_close_157 ?_
    refine c_bast dX2_close_158 ⟨(tK.cis t_x1 ok.1.1), ok.1.2⟩ ?_
    have hS := hS.Ab (za x1) (x2 + x5).toNatClampNeg (((cA S (x0 + 3) (x5 >>> ((nI 2) &&& 31)).toNatClampNeg) >>> (((nI 24) - ((nI 8) * (x5 &&& (nI 3)))) &&& 31)).toInt8.toInt32)
    have hM := hM.A (za x1) (x2 + x5).toNatClampNeg ((((cA S (x0 + 3) (x5 >>> ((nI 2) &&& 31)).toNatClampNeg) >>> (((nI 24) - ((nI 8) * (x5 &&& (nI 3)))) &&& 31)).toInt8.toInt32).toInt8.toInt32)
    have ok := ok.2
    exact cX.cutz (kb_X2_close_159 hG hX0 hrec hS hM t_x0 (tK_A t_x1) ok hx) ⟨rfl, rfl, rfl, rfl, trivial⟩
def KL_X2_close_125 (N g H T : Nat) : Nat → Nat → Option Nat → Int32 → Int32 → cS → Nat × cS
  | 0, x0, x1, x2, x5, S => (0, S)
  | n + 1, x0, x1, x2, x5, S => KB_X2_close_125 N g H T (KL_X2_close_125 N g H T n) x0 x1 x2 x5 S
def KOL_X2_close_125 (N g H T : Nat) : Nat → Nat → Option Nat → Int32 → Int32 → cS → Prop
  | 0, _, _, _, _, _ => False
  | n + 1, x0, x1, x2, x5, S => KOB_X2_close_125 N g H T (KOL_X2_close_125 N g H T n) x0 x1 x2 x5 S
set_option maxRecDepth 100000 in
set_option maxHeartbeats 4000000 in
theorem kl_X2_close_125 {G : zG} {o : cO} {u g H T N : Nat} {S0 : cS} {Q : Option Value → cS → Prop} {X : Nat × cS → Prop} (hG : zOK G) (hX0 : ∀ (S' : cS), St u g H T S' → Mono S0 S' → X (0, S') → cX G o dX2_close mX2_close 165 [none, none, none, none, none, none] [] S' Q) : ∀ (n : Nat) (x0 : Nat) (x1 : Option Nat) (x2 : Int32) (x5 : Int32) (S : cS), St u g H T S → Mono S0 S → isO g H 2 x0 → tK S 20 x1 → KOL_X2_close_125 N g H T n x0 x1 x2 x5 S → X (KL_X2_close_125 N g H T n x0 x1 x2 x5 S) → cX G o dX2_close mX2_close 125 [some (va_rf (some x0)), some (va_rf x1), some (.int x2), none, none, some (.int x5)] [] S Q := by
  intro n
  induction n with
  | zero => intro x0 x1 x2 x5 S hS hM t_x0 t_x1 ok; exact absurd ok id
  | succ n ih =>
    intro x0 x1 x2 x5 S hS hM t_x0 t_x1 ok hx
    exact kbb_X2_close_125 hG hX0 (rec := KL_X2_close_125 N g H T n) (rok := KOL_X2_close_125 N g H T n) (fun x0 x1 x2 x5 S hS hM t_x0 t_x1 ok hx => ih x0 x1 x2 x5 S hS hM t_x0 t_x1 ok hx) hS hM t_x0 t_x1 ok hx
def KA_X2_close_125 (N g H T : Nat) (x0 : Nat) (x1 : Option Nat) (x2 : Int32) (x5 : Int32) (S : cS) (z : Nat × cS) : cS := (KF_X2_close_165 N g H T z.2)
def KOA_X2_close_125 (N g H T : Nat) (x0 : Nat) (x1 : Option Nat) (x2 : Int32) (x5 : Int32) (S : cS) (z : Nat × cS) : Prop := KO_X2_close_165 N g H T z.2
set_option maxRecDepth 100000 in
set_option maxHeartbeats 4000000 in
theorem kd_X2_close_125 {G : zG} {o : cO} {u g H T N : Nat} {S : cS} {S0 : cS} {Q : Option Value → cS → Prop} {X : cS → Prop} (hG : zOK G) (hR : ∀ S', St u g H T S' → Mono S0 S' → X S' → Q none S') {x0 : Nat} {x1 : Option Nat} {x2 : Int32} {x5 : Int32} (hS : St u g H T S) (hM : Mono S0 S) (t_x0 : isO g H 2 x0) (t_x1 : tK S 20 x1) (ok : KOL_X2_close_125 N g H T N x0 x1 x2 x5 S ∧ KOA_X2_close_125 N g H T x0 x1 x2 x5 S (KL_X2_close_125 N g H T N x0 x1 x2 x5 S)) (hx : X (KA_X2_close_125 N g H T x0 x1 x2 x5 S (KL_X2_close_125 N g H T N x0 x1 x2 x5 S))) : cX G o dX2_close mX2_close 125 [some (va_rf (some x0)), some (va_rf x1), some (.int x2), none, none, some (.int x5)] [] S Q := by
  refine kl_X2_close_125 hG ?_ N x0 x1 x2 x5 S hS hM t_x0 t_x1 ok.1 (X := fun z => KOA_X2_close_125 N g H T x0 x1 x2 x5 S z ∧ X (KA_X2_close_125 N g H T x0 x1 x2 x5 S z)) ⟨ok.2, hx⟩
  · intro S' hS hM hz
    obtain ⟨ok, hx⟩ := hz
    unfold KOA_X2_close_125 at ok
    unfold KA_X2_close_125 at hx
    exact cX.cutz (kb_X2_close_165 hG hR hS hM  ok hx) trivial
def KF_X2_close_109 (N g H T : Nat) (x0 : Nat) (x1 : Option Nat) (x2 : Int32) (S : cS) : cS := (if x2 < 0 then (KF_X2_close_165 N g H T S) else (if ((nI (cL S (za x1))) - (nI 32)) < x2 then (KF_X2_close_165 N g H T S) else (KA_X2_close_125 N g H T x0 x1 x2 (nI 0) S (KL_X2_close_125 N g H T N x0 x1 x2 (nI 0) S))))
def KO_X2_close_109 (N g H T : Nat) (x0 : Nat) (x1 : Option Nat) (x2 : Int32) (S : cS) : Prop := ((x2 < 0 → KO_X2_close_165 N g H T S) ∧ (¬ x2 < 0 → (¬ x1 = none) ∧ ((((nI (cL S (za x1))) - (nI 32)) < x2 → KO_X2_close_165 N g H T S) ∧ (¬ ((nI (cL S (za x1))) - (nI 32)) < x2 → (KOL_X2_close_125 N g H T N x0 x1 x2 (nI 0) S ∧ KOA_X2_close_125 N g H T x0 x1 x2 (nI 0) S (KL_X2_close_125 N g H T N x0 x1 x2 (nI 0) S))))))
set_option maxRecDepth 100000 in
set_option maxHeartbeats 4000000 in
theorem kb_X2_close_109 {G : zG} {o : cO} {u g H T N : Nat} {S : cS} {S0 : cS} {Q : Option Value → cS → Prop} {X : cS → Prop} (hG : zOK G) (hR : ∀ S', St u g H T S' → Mono S0 S' → X S' → Q none S') {x0 : Nat} {x1 : Option Nat} {x2 : Int32} (hS : St u g H T S) (hM : Mono S0 S) (t_x0 : isO g H 2 x0) (t_x1 : tK S 20 x1) (ok : KO_X2_close_109 N g H T x0 x1 x2 S) (hx : X (KF_X2_close_109 N g H T x0 x1 x2 S)) : cX G o dX2_close mX2_close 109 [some (va_rf (some x0)), some (va_rf x1), some (.int x2), none, none, none] [] S Q := by
  unfold KO_X2_close_109 at ok
  unfold KF_X2_close_109 at hx
  refine c_iload_n dX2_close_109 rfl rfl ?_
  refine c_if_lt (tgt := 165) dX2_close_110 (by decide) (fun c_110 => ?_) (fun c_110 => ?_)
  · have ok := ok.1 c_110
    have hx := xif_p c_110 hx
    exact cX.cutz (kb_X2_close_165 hG hR hS hM  ok hx) trivial
  · have ok := ok.2 c_110
    have hx := xif_n c_110 hx
    refine c_iload_n dX2_close_113 rfl rfl ?_
    refine c_aload_nQ dX2_close_114 rfl rfl ?_
    refine c_alenS (t := 0) (ty := .byte) rfl dX2_close_115 (tK.cis t_x1 ok.1) rfl ?_
    have ok := ok.2
    refine c_bipush (v := nI 32) dX2_close_116 (by decide) ?_
    refine c_isub dX2_close_118 ?_
    refine c_icmp_gt (tgt := 165) dX2_close_119 (by decide) (fun c_119 => ?_) (fun c_119 => ?_)
    · have ok := ok.1 c_119
      have hx := xif_p c_119 hx
      exact cX.cutz (kb_X2_close_165 hG hR hS hM  ok hx) trivial
    · have ok := ok.2 c_119
      have hx := xif_n c_119 hx
      refine c_iconst (v := nI 0) dX2_close_122 (by decide) ?_
      refine c_istore_5 dX2_close_123 (by decide) rfl ?_
      exact cX.cutz (kd_X2_close_125 hG hR hS hM t_x0 t_x1 ok hx) ⟨rfl, rfl, rfl, rfl, trivial⟩
def KF_X2_close_103 (N g H T : Nat) (rec : Nat → Option Nat → Int32 → Int32 → Int32 → cS → Nat × Nat × Option Nat × Int32 × cS) (x0 : Nat) (x1 : Option Nat) (x2 : Int32) (x4 : Int32) (x5 : Int32) (S : cS) : Nat × Nat × Option Nat × Int32 × cS := (rec x0 x1 x2 x4 (x5 + nI 64) S)
def KO_X2_close_103 (N g H T : Nat) (rok : Nat → Option Nat → Int32 → Int32 → Int32 → cS → Prop) (x0 : Nat) (x1 : Option Nat) (x2 : Int32) (x4 : Int32) (x5 : Int32) (S : cS) : Prop := rok x0 x1 x2 x4 (x5 + nI 64) S
set_option maxRecDepth 100000 in
set_option maxHeartbeats 4000000 in
theorem kb_X2_close_103 {G : zG} {o : cO} {u g H T N : Nat} {S : cS} {S0 : cS} {Q : Option Value → cS → Prop} {X : Nat × Nat × Option Nat × Int32 × cS → Prop} (hG : zOK G) (hX0 : ∀ (x0 : Nat) (x1 : Option Nat) (x2 : Int32) (S' : cS), St u g H T S' → Mono S0 S' → isO g H 2 x0 → tK S' 20 x1 → X (0, x0, x1, x2, S') → cX G o dX2_close mX2_close 109 [some (va_rf (some x0)), some (va_rf x1), some (.int x2), none, none, none] [] S' Q) {rec : Nat → Option Nat → Int32 → Int32 → Int32 → cS → Nat × Nat × Option Nat × Int32 × cS} {rok : Nat → Option Nat → Int32 → Int32 → Int32 → cS → Prop} (hrec : ∀ (x0 : Nat) (x1 : Option Nat) (x2 : Int32) (x4 : Int32) (x5 : Int32) (S : cS), St u g H T S → Mono S0 S → isO g H 2 x0 → tK S 20 x1 → rok x0 x1 x2 x4 x5 S → X (rec x0 x1 x2 x4 x5 S) → cX G o dX2_close mX2_close 90 [some (va_rf (some x0)), some (va_rf x1), some (.int x2), none, some (.int x4), some (.int x5)] [] S Q) {x0 : Nat} {x1 : Option Nat} {x2 : Int32} {x4 : Int32} {x5 : Int32} (hS : St u g H T S) (hM : Mono S0 S) (t_x0 : isO g H 2 x0) (t_x1 : tK S 20 x1) (ok : KO_X2_close_103 N g H T rok x0 x1 x2 x4 x5 S) (hx : X (KF_X2_close_103 N g H T rec x0 x1 x2 x4 x5 S)) : cX G o dX2_close mX2_close 103 [some (va_rf (some x0)), some (va_rf x1), some (.int x2), none, some (.int x4), some (.int x5)] [] S Q := by
  unfold KO_X2_close_103 at ok
  unfold KF_X2_close_103 at hx
  refine c_iinc_5 (v := (x5 + nI 64)) dX2_close_103 rfl (by first | rfl | (congr 1)) (by decide) rfl ?_
  refine c_goto (tgt := 90) dX2_close_106 (by decide) ?_
  exact cX.cutz (hrec _ _ _ _ _ S hS hM t_x0 t_x1 ok hx) ⟨rfl, rfl, rfl, rfl, rfl, trivial⟩
def KB_X2_close_90 (N g H T : Nat) (rec : Nat → Option Nat → Int32 → Int32 → Int32 → cS → Nat × Nat × Option Nat × Int32 × cS) (x0 : Nat) (x1 : Option Nat) (x2 : Int32) (x4 : Int32) (x5 : Int32) (S : cS) : Nat × Nat × Option Nat × Int32 × cS := (if x4 ≤ x5 then (0, x0, x1, x2, S) else (KF_X2_close_103 N g H T rec x0 x1 x2 x4 x5 (k_X2_squeeze N g H T S x0 x5)))
def KOB_X2_close_90 (N g H T : Nat) (rok : Nat → Option Nat → Int32 → Int32 → Int32 → cS → Prop) (x0 : Nat) (x1 : Option Nat) (x2 : Int32) (x4 : Int32) (x5 : Int32) (S : cS) : Prop := ((x4 ≤ x5 → True) ∧ (¬ x4 ≤ x5 → (p_X2_squeeze N g H T S x0 x5) ∧ KO_X2_close_103 N g H T rok x0 x1 x2 x4 x5 (k_X2_squeeze N g H T S x0 x5)))
set_option maxRecDepth 100000 in
set_option maxHeartbeats 4000000 in
theorem kbb_X2_close_90 {G : zG} {o : cO} {u g H T N : Nat} {S : cS} {S0 : cS} {Q : Option Value → cS → Prop} {X : Nat × Nat × Option Nat × Int32 × cS → Prop} (hG : zOK G) (hX0 : ∀ (x0 : Nat) (x1 : Option Nat) (x2 : Int32) (S' : cS), St u g H T S' → Mono S0 S' → isO g H 2 x0 → tK S' 20 x1 → X (0, x0, x1, x2, S') → cX G o dX2_close mX2_close 109 [some (va_rf (some x0)), some (va_rf x1), some (.int x2), none, none, none] [] S' Q) {rec : Nat → Option Nat → Int32 → Int32 → Int32 → cS → Nat × Nat × Option Nat × Int32 × cS} {rok : Nat → Option Nat → Int32 → Int32 → Int32 → cS → Prop} (hrec : ∀ (x0 : Nat) (x1 : Option Nat) (x2 : Int32) (x4 : Int32) (x5 : Int32) (S : cS), St u g H T S → Mono S0 S → isO g H 2 x0 → tK S 20 x1 → rok x0 x1 x2 x4 x5 S → X (rec x0 x1 x2 x4 x5 S) → cX G o dX2_close mX2_close 90 [some (va_rf (some x0)), some (va_rf x1), some (.int x2), none, some (.int x4), some (.int x5)] [] S Q) {x0 : Nat} {x1 : Option Nat} {x2 : Int32} {x4 : Int32} {x5 : Int32} (hS : St u g H T S) (hM : Mono S0 S) (t_x0 : isO g H 2 x0) (t_x1 : tK S 20 x1) (ok : KOB_X2_close_90 N g H T rok x0 x1 x2 x4 x5 S) (hx : X (KB_X2_close_90 N g H T rec x0 x1 x2 x4 x5 S)) : cX G o dX2_close mX2_close 90 [some (va_rf (some x0)), some (va_rf x1), some (.int x2), none, some (.int x4), some (.int x5)] [] S Q := by
  unfold KOB_X2_close_90 at ok
  unfold KB_X2_close_90 at hx
  refine c_iload dX2_close_90 rfl ?_
  refine c_iload dX2_close_92 rfl ?_
  refine c_icmp_ge (tgt := 109) dX2_close_94 (by decide) (fun c_94 => ?_) (fun c_94 => ?_)
  · have ok := ok.1 c_94
    have hx := xif_p c_94 hx
    exact cX.cutz (hX0 _ _ _ S hS hM t_x0 t_x1 hx) ⟨rfl, rfl, rfl, trivial⟩
  · have ok := ok.2 c_94
    have hx := xif_n c_94 hx
    refine c_aload_nQ dX2_close_97 rfl rfl ?_
    refine c_iload dX2_close_98 rfl ?_
    refine c_V1vK (ci := 2) (rr := (RX2, TX2, 6)) (y' := mX2_squeeze) dX2_close_100 lX2_44 kX2_squeeze ⟨by decide, by decide⟩ rfl rfl (by decide) (hS.k t_x0) (Nat.le_of_ble_eq_true rfl) (kc_X2_squeeze hG hS t_x0 ok.1) (fun ⟨hS, hm_100⟩ => ?_)
    have hM := hM.trans hm_100
    have ok := ok.2
    exact cX.cutz (kb_X2_close_103 hG hX0 hrec hS hM t_x0 (hm_100.tK t_x1 (by decide)) ok hx) ⟨rfl, rfl, rfl, rfl, rfl, trivial⟩
def KL_X2_close_90 (N g H T : Nat) : Nat → Nat → Option Nat → Int32 → Int32 → Int32 → cS → Nat × Nat × Option Nat × Int32 × cS
  | 0, x0, x1, x2, x4, x5, S => (0, 0, none, 0, S)
  | n + 1, x0, x1, x2, x4, x5, S => KB_X2_close_90 N g H T (KL_X2_close_90 N g H T n) x0 x1 x2 x4 x5 S
def KOL_X2_close_90 (N g H T : Nat) : Nat → Nat → Option Nat → Int32 → Int32 → Int32 → cS → Prop
  | 0, _, _, _, _, _, _ => False
  | n + 1, x0, x1, x2, x4, x5, S => KOB_X2_close_90 N g H T (KOL_X2_close_90 N g H T n) x0 x1 x2 x4 x5 S
set_option maxRecDepth 100000 in
set_option maxHeartbeats 4000000 in
theorem kl_X2_close_90 {G : zG} {o : cO} {u g H T N : Nat} {S0 : cS} {Q : Option Value → cS → Prop} {X : Nat × Nat × Option Nat × Int32 × cS → Prop} (hG : zOK G) (hX0 : ∀ (x0 : Nat) (x1 : Option Nat) (x2 : Int32) (S' : cS), St u g H T S' → Mono S0 S' → isO g H 2 x0 → tK S' 20 x1 → X (0, x0, x1, x2, S') → cX G o dX2_close mX2_close 109 [some (va_rf (some x0)), some (va_rf x1), some (.int x2), none, none, none] [] S' Q) : ∀ (n : Nat) (x0 : Nat) (x1 : Option Nat) (x2 : Int32) (x4 : Int32) (x5 : Int32) (S : cS), St u g H T S → Mono S0 S → isO g H 2 x0 → tK S 20 x1 → KOL_X2_close_90 N g H T n x0 x1 x2 x4 x5 S → X (KL_X2_close_90 N g H T n x0 x1 x2 x4 x5 S) → cX G o dX2_close mX2_close 90 [some (va_rf (some x0)), some (va_rf x1), some (.int x2), none, some (.int x4), some (.int x5)] [] S Q := by
  intro n
  induction n with
  | zero => intro x0 x1 x2 x4 x5 S hS hM t_x0 t_x1 ok; exact absurd ok id
  | succ n ih =>
    intro x0 x1 x2 x4 x5 S hS hM t_x0 t_x1 ok hx
    exact kbb_X2_close_90 hG hX0 (rec := KL_X2_close_90 N g H T n) (rok := KOL_X2_close_90 N g H T n) (fun x0 x1 x2 x4 x5 S hS hM t_x0 t_x1 ok hx => ih x0 x1 x2 x4 x5 S hS hM t_x0 t_x1 ok hx) hS hM t_x0 t_x1 ok hx
def KA_X2_close_90 (N g H T : Nat) (x0 : Nat) (x1 : Option Nat) (x2 : Int32) (x4 : Int32) (x5 : Int32) (S : cS) (z : Nat × Nat × Option Nat × Int32 × cS) : cS := (KF_X2_close_109 N g H T (z.2.1) (z.2.2.1) (z.2.2.2.1) z.2.2.2.2)
def KOA_X2_close_90 (N g H T : Nat) (x0 : Nat) (x1 : Option Nat) (x2 : Int32) (x4 : Int32) (x5 : Int32) (S : cS) (z : Nat × Nat × Option Nat × Int32 × cS) : Prop := KO_X2_close_109 N g H T (z.2.1) (z.2.2.1) (z.2.2.2.1) z.2.2.2.2
set_option maxRecDepth 100000 in
set_option maxHeartbeats 4000000 in
theorem kd_X2_close_90 {G : zG} {o : cO} {u g H T N : Nat} {S : cS} {S0 : cS} {Q : Option Value → cS → Prop} {X : cS → Prop} (hG : zOK G) (hR : ∀ S', St u g H T S' → Mono S0 S' → X S' → Q none S') {x0 : Nat} {x1 : Option Nat} {x2 : Int32} {x4 : Int32} {x5 : Int32} (hS : St u g H T S) (hM : Mono S0 S) (t_x0 : isO g H 2 x0) (t_x1 : tK S 20 x1) (ok : KOL_X2_close_90 N g H T N x0 x1 x2 x4 x5 S ∧ KOA_X2_close_90 N g H T x0 x1 x2 x4 x5 S (KL_X2_close_90 N g H T N x0 x1 x2 x4 x5 S)) (hx : X (KA_X2_close_90 N g H T x0 x1 x2 x4 x5 S (KL_X2_close_90 N g H T N x0 x1 x2 x4 x5 S))) : cX G o dX2_close mX2_close 90 [some (va_rf (some x0)), some (va_rf x1), some (.int x2), none, some (.int x4), some (.int x5)] [] S Q := by
  refine kl_X2_close_90 hG ?_ N x0 x1 x2 x4 x5 S hS hM t_x0 t_x1 ok.1 (X := fun z => KOA_X2_close_90 N g H T x0 x1 x2 x4 x5 S z ∧ X (KA_X2_close_90 N g H T x0 x1 x2 x4 x5 S z)) ⟨ok.2, hx⟩
  · intro x0' x1' x2' S' hS hM t_x0 t_x1 hz
    obtain ⟨ok, hx⟩ := hz
    unfold KOA_X2_close_90 at ok
    unfold KA_X2_close_90 at hx
    exact cX.cutz (kb_X2_close_109 hG hR hS hM t_x0 t_x1 ok hx) ⟨rfl, rfl, rfl, trivial⟩
def KF_X2_close_87 (N g H T : Nat) (x0 : Nat) (x1 : Option Nat) (x2 : Int32) (x4 : Int32) (S : cS) : cS := (KA_X2_close_90 N g H T x0 x1 x2 x4 (nI 0) S (KL_X2_close_90 N g H T N x0 x1 x2 x4 (nI 0) S))
def KO_X2_close_87 (N g H T : Nat) (x0 : Nat) (x1 : Option Nat) (x2 : Int32) (x4 : Int32) (S : cS) : Prop := (KOL_X2_close_90 N g H T N x0 x1 x2 x4 (nI 0) S ∧ KOA_X2_close_90 N g H T x0 x1 x2 x4 (nI 0) S (KL_X2_close_90 N g H T N x0 x1 x2 x4 (nI 0) S))
set_option maxRecDepth 100000 in
set_option maxHeartbeats 4000000 in
theorem kb_X2_close_87 {G : zG} {o : cO} {u g H T N : Nat} {S : cS} {S0 : cS} {Q : Option Value → cS → Prop} {X : cS → Prop} (hG : zOK G) (hR : ∀ S', St u g H T S' → Mono S0 S' → X S' → Q none S') {x0 : Nat} {x1 : Option Nat} {x2 : Int32} {x4 : Int32} (hS : St u g H T S) (hM : Mono S0 S) (t_x0 : isO g H 2 x0) (t_x1 : tK S 20 x1) (ok : KO_X2_close_87 N g H T x0 x1 x2 x4 S) (hx : X (KF_X2_close_87 N g H T x0 x1 x2 x4 S)) : cX G o dX2_close mX2_close 87 [some (va_rf (some x0)), some (va_rf x1), some (.int x2), none, some (.int x4), none] [] S Q := by
  unfold KO_X2_close_87 at ok
  unfold KF_X2_close_87 at hx
  refine c_iconst (v := nI 0) dX2_close_87 (by decide) ?_
  refine c_istore_5 dX2_close_88 (by decide) rfl ?_
  exact cX.cutz (kd_X2_close_90 hG hR hS hM t_x0 t_x1 ok hx) ⟨rfl, rfl, rfl, rfl, rfl, trivial⟩
def KF_X2_close_62 (N g H T : Nat) (x0 : Nat) (x1 : Option Nat) (x2 : Int32) (x3 : Int32) (x4 : Int32) (S : cS) : cS := (KF_X2_close_87 N g H T x0 x1 x2 x4 (csArow (csA S (x0 + 1) (x4 - (nI 1)).toNatClampNeg ((x3.toInt8.toInt32).toInt8.toInt32)) (x0 + 3) (va_cpy (fun j => zFIRST.getD j 0) (cA (csA S (x0 + 1) (x4 - (nI 1)).toNatClampNeg ((x3.toInt8.toInt32).toInt8.toInt32)) (x0 + 3)) (nI 0).toNatClampNeg (nI 0).toNatClampNeg (nI 8).toNatClampNeg)))
def KO_X2_close_62 (N g H T : Nat) (x0 : Nat) (x1 : Option Nat) (x2 : Int32) (x3 : Int32) (x4 : Int32) (S : cS) : Prop := (vp_in (x4 - (nI 1)) 1088) ∧ ((¬ (nI 0) < 0 ∧ ¬ (nI 0) < 0 ∧ ¬ (nI 8) < 0) ∧ (nI 0).toNatClampNeg + (nI 8).toNatClampNeg ≤ 8 ∧ (nI 0).toNatClampNeg + (nI 8).toNatClampNeg ≤ 8) ∧ KO_X2_close_87 N g H T x0 x1 x2 x4 (csArow (csA S (x0 + 1) (x4 - (nI 1)).toNatClampNeg ((x3.toInt8.toInt32).toInt8.toInt32)) (x0 + 3) (va_cpy (fun j => zFIRST.getD j 0) (cA (csA S (x0 + 1) (x4 - (nI 1)).toNatClampNeg ((x3.toInt8.toInt32).toInt8.toInt32)) (x0 + 3)) (nI 0).toNatClampNeg (nI 0).toNatClampNeg (nI 8).toNatClampNeg))
set_option maxRecDepth 100000 in
set_option maxHeartbeats 4000000 in
theorem kb_X2_close_62 {G : zG} {o : cO} {u g H T N : Nat} {S : cS} {S0 : cS} {Q : Option Value → cS → Prop} {X : cS → Prop} (hG : zOK G) (hR : ∀ S', St u g H T S' → Mono S0 S' → X S' → Q none S') {x0 : Nat} {x1 : Option Nat} {x2 : Int32} {x3 : Int32} {x4 : Int32} (hS : St u g H T S) (hM : Mono S0 S) (t_x0 : isO g H 2 x0) (t_x1 : tK S 20 x1) (ok : KO_X2_close_62 N g H T x0 x1 x2 x3 x4 S) (hx : X (KF_X2_close_62 N g H T x0 x1 x2 x3 x4 S)) : cX G o dX2_close mX2_close 62 [some (va_rf (some x0)), some (va_rf x1), some (.int x2), some (.int x3), some (.int x4), none] [] S Q := by
  unfold KO_X2_close_62 at ok
  unfold KF_X2_close_62 at hx
  refine c_aload_nQ dX2_close_62 rfl rfl ?_
  refine c_getS (C := RX2) (T := TX2) (N := 6) (ci := 2) (k := 0) ⟨rfl, inT2, by decide, fX2_11⟩ (by decide) (by decide) (by decide) dX2_close_63 (hS.k t_x0) (hS.r (c := 2) t_x0 rfl (by omega)) ?_
  refine c_iload dX2_close_66 rfl ?_
  refine c_iconst (v := nI 1) dX2_close_68 (by decide) ?_
  refine c_isub dX2_close_69 ?_
  refine c_iload_n dX2_close_70 rfl rfl ?_
  refine c_i2b dX2_close_71 ?_
  refine c_bast dX2_close_72 ⟨(tK.cis (hS.rk (c := 2) (k := 0) t_x0 rfl (by omega)) (Option.some_ne_none _)), (vk_cast (hS.rl (c := 2) (k := 0) t_x0 rfl (by decide) (by omega)) ok.1)⟩ ?_
  have hS := hS.Ab (x0 + 1) (x4 - (nI 1)).toNatClampNeg (x3.toInt8.toInt32)
  have hM := hM.A (x0 + 1) (x4 - (nI 1)).toNatClampNeg ((x3.toInt8.toInt32).toInt8.toInt32)
  have ok := ok.2
  refine c_gets1 fX2_41 dX2_close_73 ?_
  refine c_iconst (v := nI 0) dX2_close_76 (by decide) ?_
  refine c_aload_nQ dX2_close_77 rfl rfl ?_
  refine c_getS (C := RX2) (T := TX2) (N := 6) (ci := 2) (k := 2) ⟨rfl, inT2, by decide, fX2_19⟩ (by decide) (by decide) (by decide) dX2_close_78 (hS.k t_x0) (hS.r (c := 2) t_x0 rfl (by omega)) ?_
  refine c_iconst (v := nI 0) dX2_close_81 (by decide) ?_
  refine c_bipush (v := nI 8) dX2_close_82 (by decide) ?_
  have tq_84 : tK (csA S (x0 + 1) (x4 - (nI 1)).toNatClampNeg ((x3.toInt8.toInt32).toInt8.toInt32)) 21 (some (x0 + 3)) := tK_some (tK.cis (hS.rk (c := 2) (k := 2) t_x0 rfl (by omega)) (Option.some_ne_none _)).2
  refine c_copyS hG dX2_close_84 qX2_29 (by decide) (by decide) ⟨tK.cis (hS.rk (c := 2) (k := 2) t_x0 rfl (by omega)) (Option.some_ne_none _), ok.1.1, ok.1.2.1, (le_cast (hS.rl (c := 2) (k := 2) t_x0 rfl (by decide) (by omega)) ok.1.2.2)⟩ ?_
  have hS := hS.Ad (k := 21) (x0 + 3) (va_cpy (fun j => zFIRST.getD j 0) (cA (csA S (x0 + 1) (x4 - (nI 1)).toNatClampNeg ((x3.toInt8.toInt32).toInt8.toInt32)) (x0 + 3)) (nI 0).toNatClampNeg (nI 0).toNatClampNeg (nI 8).toNatClampNeg) tq_84 (by decide)
  have hM := hM.Ar (x0 + 3) (va_cpy (fun j => zFIRST.getD j 0) (cA (csA S (x0 + 1) (x4 - (nI 1)).toNatClampNeg ((x3.toInt8.toInt32).toInt8.toInt32)) (x0 + 3)) (nI 0).toNatClampNeg (nI 0).toNatClampNeg (nI 8).toNatClampNeg)
  have ok := ok.2
  exact cX.cutz (kb_X2_close_87 hG hR hS hM t_x0 (tK_Ar (tK_A t_x1)) ok hx) ⟨rfl, rfl, rfl, rfl, trivial⟩
def KF_X2_close_37 (N g H T : Nat) (x0 : Nat) (x1 : Option Nat) (x2 : Int32) (x3 : Int32) (x4 : Int32) (S : cS) : cS := (KF_X2_close_62 N g H T x0 x1 x2 x3 x4 (csA (csA S (x0 + 1) (cI S 4 x0).toNatClampNeg ((-128).toInt8.toInt32)) (x0 + 1) (x4 - (nI 2)).toNatClampNeg (((x3 >>> ((nI 8) &&& 31)).toInt8.toInt32).toInt8.toInt32)))
def KO_X2_close_37 (N g H T : Nat) (x0 : Nat) (x1 : Option Nat) (x2 : Int32) (x3 : Int32) (x4 : Int32) (S : cS) : Prop := (vp_in (cI S 4 x0) 1088) ∧ (vp_in (x4 - (nI 2)) 1088) ∧ KO_X2_close_62 N g H T x0 x1 x2 x3 x4 (csA (csA S (x0 + 1) (cI S 4 x0).toNatClampNeg ((-128).toInt8.toInt32)) (x0 + 1) (x4 - (nI 2)).toNatClampNeg (((x3 >>> ((nI 8) &&& 31)).toInt8.toInt32).toInt8.toInt32))
set_option maxRecDepth 100000 in
set_option maxHeartbeats 4000000 in
theorem kb_X2_close_37 {G : zG} {o : cO} {u g H T N : Nat} {S : cS} {S0 : cS} {Q : Option Value → cS → Prop} {X : cS → Prop} (hG : zOK G) (hR : ∀ S', St u g H T S' → Mono S0 S' → X S' → Q none S') {x0 : Nat} {x1 : Option Nat} {x2 : Int32} {x3 : Int32} {x4 : Int32} (hS : St u g H T S) (hM : Mono S0 S) (t_x0 : isO g H 2 x0) (t_x1 : tK S 20 x1) (ok : KO_X2_close_37 N g H T x0 x1 x2 x3 x4 S) (hx : X (KF_X2_close_37 N g H T x0 x1 x2 x3 x4 S)) : cX G o dX2_close mX2_close 37 [some (va_rf (some x0)), some (va_rf x1), some (.int x2), some (.int x3), some (.int x4), none] [] S Q := by
  unfold KO_X2_close_37 at ok
  unfold KF_X2_close_37 at hx
  refine c_aload_nQ dX2_close_37 rfl rfl ?_
  refine c_getS (C := RX2) (T := TX2) (N := 6) (ci := 2) (k := 0) ⟨rfl, inT2, by decide, fX2_11⟩ (by decide) (by decide) (by decide) dX2_close_38 (hS.k t_x0) (hS.r (c := 2) t_x0 rfl (by omega)) ?_
  refine c_aload_nQ dX2_close_41 rfl rfl ?_
  refine c_getI (C := RX2) (T := TX2) (N := 6) (ci := 2) (k := 4) ⟨rfl, inT2, by decide, fX2_25⟩ (by decide) (by decide) (by decide) dX2_close_42 (hS.k t_x0) ?_
  refine c_bipush (v := -128) dX2_close_45 (by decide) ?_
  refine c_bast dX2_close_47 ⟨(tK.cis (hS.rk (c := 2) (k := 0) t_x0 rfl (by omega)) (Option.some_ne_none _)), (vk_cast (hS.rl (c := 2) (k := 0) t_x0 rfl (by decide) (by omega)) ok.1)⟩ ?_
  have hS := hS.Ab (x0 + 1) (cI S 4 x0).toNatClampNeg (-128)
  have hM := hM.A (x0 + 1) (cI S 4 x0).toNatClampNeg ((-128).toInt8.toInt32)
  have ok := ok.2
  refine c_aload_nQ dX2_close_48 rfl rfl ?_
  refine c_getS (C := RX2) (T := TX2) (N := 6) (ci := 2) (k := 0) ⟨rfl, inT2, by decide, fX2_11⟩ (by decide) (by decide) (by decide) dX2_close_49 (hS.k t_x0) (hS.r (c := 2) t_x0 rfl (by omega)) ?_
  refine c_iload dX2_close_52 rfl ?_
  refine c_iconst (v := nI 2) dX2_close_54 (by decide) ?_
  refine c_isub dX2_close_55 ?_
  refine c_iload_n dX2_close_56 rfl rfl ?_
  refine c_bipush (v := nI 8) dX2_close_57 (by decide) ?_
  refine c_ishr dX2_close_59 ?_
  refine c_i2b dX2_close_60 ?_
  refine c_bast dX2_close_61 ⟨(tK.cis (hS.rk (c := 2) (k := 0) t_x0 rfl (by omega)) (Option.some_ne_none _)), (vk_cast (hS.rl (c := 2) (k := 0) t_x0 rfl (by decide) (by omega)) ok.1)⟩ ?_
  have hS := hS.Ab (x0 + 1) (x4 - (nI 2)).toNatClampNeg ((x3 >>> ((nI 8) &&& 31)).toInt8.toInt32)
  have hM := hM.A (x0 + 1) (x4 - (nI 2)).toNatClampNeg (((x3 >>> ((nI 8) &&& 31)).toInt8.toInt32).toInt8.toInt32)
  have ok := ok.2
  exact cX.cutz (kb_X2_close_62 hG hR hS hM t_x0 (tK_A (tK_A t_x1)) ok hx) ⟨rfl, rfl, rfl, rfl, rfl, trivial⟩
def KF_X2_close_0 (N g H T : Nat) (x0 : Nat) (x1 : Option Nat) (x2 : Int32) (S : cS) : cS := (KF_X2_close_37 N g H T x0 x1 x2 ((nI 8) * (cI S 4 x0)) ((((cI S 4 x0) + (nI 72)) / (nI 64)) * (nI 64)) (k_J7_fill_eb02e N g H T S (some (x0 + 1)) (cI S 4 x0) ((((cI S 4 x0) + (nI 72)) / (nI 64)) * (nI 64)) (nI 0)))
def KO_X2_close_0 (N g H T : Nat) (x0 : Nat) (x1 : Option Nat) (x2 : Int32) (S : cS) : Prop := (p_J7_fill_eb02e N g H T S (some (x0 + 1)) (cI S 4 x0) ((((cI S 4 x0) + (nI 72)) / (nI 64)) * (nI 64)) (nI 0)) ∧ KO_X2_close_37 N g H T x0 x1 x2 ((nI 8) * (cI S 4 x0)) ((((cI S 4 x0) + (nI 72)) / (nI 64)) * (nI 64)) (k_J7_fill_eb02e N g H T S (some (x0 + 1)) (cI S 4 x0) ((((cI S 4 x0) + (nI 72)) / (nI 64)) * (nI 64)) (nI 0))
set_option maxRecDepth 100000 in
set_option maxHeartbeats 4000000 in
theorem kb_X2_close_0 {G : zG} {o : cO} {u g H T N : Nat} {S : cS} {S0 : cS} {Q : Option Value → cS → Prop} {X : cS → Prop} (hG : zOK G) (hR : ∀ S', St u g H T S' → Mono S0 S' → X S' → Q none S') {x0 : Nat} {x1 : Option Nat} {x2 : Int32} (hS : St u g H T S) (hM : Mono S0 S) (t_x0 : isO g H 2 x0) (t_x1 : tK S 20 x1) (ok : KO_X2_close_0 N g H T x0 x1 x2 S) (hx : X (KF_X2_close_0 N g H T x0 x1 x2 S)) : cX G o dX2_close mX2_close 0 [some (va_rf (some x0)), some (va_rf x1), some (.int x2), none, none, none] [] S Q := by
  unfold KO_X2_close_0 at ok
  unfold KF_X2_close_0 at hx
  refine c_bipush (v := nI 8) dX2_close_0 (by decide) ?_
  refine c_aload_nQ dX2_close_2 rfl rfl ?_
  refine c_getI (C := RX2) (T := TX2) (N := 6) (ci := 2) (k := 4) ⟨rfl, inT2, by decide, fX2_25⟩ (by decide) (by decide) (by decide) dX2_close_3 (hS.k t_x0) ?_
  refine c_imul dX2_close_6 ?_
  refine c_istore_3 dX2_close_7 (by decide) rfl ?_
  refine c_aload_nQ dX2_close_8 rfl rfl ?_
  refine c_getI (C := RX2) (T := TX2) (N := 6) (ci := 2) (k := 4) ⟨rfl, inT2, by decide, fX2_25⟩ (by decide) (by decide) (by decide) dX2_close_9 (hS.k t_x0) ?_
  refine c_bipush (v := nI 72) dX2_close_12 (by decide) ?_
  refine c_iadd dX2_close_14 ?_
  refine c_bipush (v := nI 64) dX2_close_15 (by decide) ?_
  refine c_idiv dX2_close_17 (by decide) ?_
  refine c_bipush (v := nI 64) dX2_close_18 (by decide) ?_
  refine c_imul dX2_close_20 ?_
  refine c_istore_4 dX2_close_21 (by decide) rfl ?_
  refine c_aload_nQ dX2_close_23 rfl rfl ?_
  refine c_getS (C := RX2) (T := TX2) (N := 6) (ci := 2) (k := 0) ⟨rfl, inT2, by decide, fX2_11⟩ (by decide) (by decide) (by decide) dX2_close_24 (hS.k t_x0) (hS.r (c := 2) t_x0 rfl (by omega)) ?_
  refine c_aload_nQ dX2_close_27 rfl rfl ?_
  refine c_getI (C := RX2) (T := TX2) (N := 6) (ci := 2) (k := 4) ⟨rfl, inT2, by decide, fX2_25⟩ (by decide) (by decide) (by decide) dX2_close_28 (hS.k t_x0) ?_
  refine c_iload dX2_close_31 rfl ?_
  refine c_iconst (v := nI 0) dX2_close_33 (by decide) ?_
  refine c_S4vK (y' := mJ7_fill_eb02e) dX2_close_34 lX2_35 kJ7_fill_eb02e ⟨by decide, by decide⟩ (Nat.le_of_ble_eq_true rfl) (kc_J7_fill_eb02e hG hS (hS.rk (c := 2) (k := 0) t_x0 rfl (by omega)) ok.1) (fun ⟨hS, hm_34⟩ => ?_)
  have hM := hM.trans hm_34
  have ok := ok.2
  exact cX.cutz (kb_X2_close_37 hG hR hS hM t_x0 (hm_34.tK t_x1 (by decide)) ok hx) ⟨rfl, rfl, rfl, rfl, rfl, trivial⟩
def k_X2_close (N g H T : Nat) (S : cS) (a0 : Nat) (x1 : Option Nat) (x2 : Int32) : cS := KF_X2_close_0 N g H T a0 x1 x2 S
def p_X2_close (N g H T : Nat) (S : cS) (a0 : Nat) (x1 : Option Nat) (x2 : Int32) : Prop := KO_X2_close_0 N g H T a0 x1 x2 S
set_option maxRecDepth 100000 in
set_option maxHeartbeats 4000000 in
theorem kc_X2_close {G : zG} {o : cO} {u g H T N : Nat} {S : cS} (hG : zOK G) {a0 : Nat} {x1 : Option Nat} {x2 : Int32} (hS : St u g H T S) (t_x0 : isO g H 2 a0) (t_x1 : tK S 20 x1) (ok : p_X2_close N g H T S a0 x1 x2) : cCv G o dX2_close mX2_close [.ref a0, va_rf x1, .int x2] S (fun S' => S' = k_X2_close N g H T S a0 x1 x2 ∧ St u g H T S' ∧ Mono S S') := by
  refine cC.ofX rfl (by cases x1 <;> exact Nat.le_of_ble_eq_true rfl) ?_
  rw [show zargs mX2_close.2.2.1 [.ref a0, va_rf x1, .int x2] = [some (va_rf (some a0)), some (va_rf x1), some (.int x2), none, none, none] from by cases x1 <;> rfl]
  exact cX.cutz (kb_X2_close_0 (X := fun F => F = k_X2_close N g H T S a0 x1 x2) hG (fun S' h1 h2 h => ⟨rfl, h, h1, h2⟩) hS Mono.rfl' t_x0 t_x1 ok rfl) ⟨rfl, rfl, rfl, trivial⟩
/-! X2_leaf -/
def KF_X2_leaf_50 (N g H T : Nat)  (S : cS) : cS := S
def KO_X2_leaf_50 (N g H T : Nat)  (S : cS) : Prop := True
set_option maxRecDepth 100000 in
set_option maxHeartbeats 4000000 in
theorem kb_X2_leaf_50 {G : zG} {o : cO} {u g H T N : Nat} {S : cS} {S0 : cS} {Q : Option Value → cS → Prop} {X : cS → Prop} (hG : zOK G) (hR : ∀ S', St u g H T S' → Mono S0 S' → X S' → Q none S') (hS : St u g H T S) (hM : Mono S0 S) (ok : KO_X2_leaf_50 N g H T S) (hx : X (KF_X2_leaf_50 N g H T S)) : cX G o dX2_leaf mX2_leaf 50 [none, none, none, none] [] S Q := by
  unfold KO_X2_leaf_50 at ok
  unfold KF_X2_leaf_50 at hx
  exact c_return rfl dX2_leaf_50 (hR _ hS hM hx)
def KF_X2_leaf_40 (N g H T : Nat) (x0 : Nat) (S : cS) : cS := (KF_X2_leaf_50 N g H T (csI S 5 x0 ((cI S 5 x0) + (nI 1))))
def KO_X2_leaf_40 (N g H T : Nat) (x0 : Nat) (S : cS) : Prop := KO_X2_leaf_50 N g H T (csI S 5 x0 ((cI S 5 x0) + (nI 1)))
set_option maxRecDepth 100000 in
set_option maxHeartbeats 4000000 in
theorem kb_X2_leaf_40 {G : zG} {o : cO} {u g H T N : Nat} {S : cS} {S0 : cS} {Q : Option Value → cS → Prop} {X : cS → Prop} (hG : zOK G) (hR : ∀ S', St u g H T S' → Mono S0 S' → X S' → Q none S') {x0 : Nat} (hS : St u g H T S) (hM : Mono S0 S) (t_x0 : isO g H 2 x0) (ok : KO_X2_leaf_40 N g H T x0 S) (hx : X (KF_X2_leaf_40 N g H T x0 S)) : cX G o dX2_leaf mX2_leaf 40 [some (va_rf (some x0)), none, none, none] [] S Q := by
  unfold KO_X2_leaf_40 at ok
  unfold KF_X2_leaf_40 at hx
  refine c_aload_nQ dX2_leaf_40 rfl rfl ?_
  refine c_dup dX2_leaf_41 (zcat_rf _) ?_
  refine c_getI (C := RX2) (T := TX2) (N := 6) (ci := 2) (k := 5) ⟨rfl, inT2, by decide, fX2_62⟩ (by decide) (by decide) (by decide) dX2_leaf_42 (hS.k t_x0) ?_
  refine c_iconst (v := nI 1) dX2_leaf_45 (by decide) ?_
  refine c_iadd dX2_leaf_46 ?_
  refine c_putI (C := RX2) (T := TX2) (N := 6) (ci := 2) (k := 5) ⟨rfl, inT2, by decide, fX2_62⟩ ftT2 rfl (by decide) (by decide) (by decide) rfl rfl dX2_leaf_47 (hS.k t_x0) ?_
  have hS := hS.I 5 x0 ((cI S 5 x0) + (nI 1))
  have hM := hM.I 5 x0 ((cI S 5 x0) + (nI 1))
  exact cX.cutz (kb_X2_leaf_50 hG hR hS hM  ok hx) trivial
def KF_X2_leaf_25 (N g H T : Nat) (x0 : Nat) (S : cS) : cS := (KF_X2_leaf_40 N g H T x0 (k_X2_close N g H T S x0 (some (x0 + 4)) ((cI S 5 x0) * (nI 32))))
def KO_X2_leaf_25 (N g H T : Nat) (x0 : Nat) (S : cS) : Prop := (p_X2_close N g H T S x0 (some (x0 + 4)) ((cI S 5 x0) * (nI 32))) ∧ KO_X2_leaf_40 N g H T x0 (k_X2_close N g H T S x0 (some (x0 + 4)) ((cI S 5 x0) * (nI 32)))
set_option maxRecDepth 100000 in
set_option maxHeartbeats 4000000 in
theorem kb_X2_leaf_25 {G : zG} {o : cO} {u g H T N : Nat} {S : cS} {S0 : cS} {Q : Option Value → cS → Prop} {X : cS → Prop} (hG : zOK G) (hR : ∀ S', St u g H T S' → Mono S0 S' → X S' → Q none S') {x0 : Nat} (hS : St u g H T S) (hM : Mono S0 S) (t_x0 : isO g H 2 x0) (ok : KO_X2_leaf_25 N g H T x0 S) (hx : X (KF_X2_leaf_25 N g H T x0 S)) : cX G o dX2_leaf mX2_leaf 25 [some (va_rf (some x0)), none, none, none] [] S Q := by
  unfold KO_X2_leaf_25 at ok
  unfold KF_X2_leaf_25 at hx
  refine c_aload_nQ dX2_leaf_25 rfl rfl ?_
  refine c_aload_nQ dX2_leaf_26 rfl rfl ?_
  refine c_getS (C := RX2) (T := TX2) (N := 6) (ci := 2) (k := 3) ⟨rfl, inT2, by decide, fX2_22⟩ (by decide) (by decide) (by decide) dX2_leaf_27 (hS.k t_x0) (hS.r (c := 2) t_x0 rfl (by omega)) ?_
  refine c_aload_nQ dX2_leaf_30 rfl rfl ?_
  refine c_getI (C := RX2) (T := TX2) (N := 6) (ci := 2) (k := 5) ⟨rfl, inT2, by decide, fX2_62⟩ (by decide) (by decide) (by decide) dX2_leaf_31 (hS.k t_x0) ?_
  refine c_bipush (v := nI 32) dX2_leaf_34 (by decide) ?_
  refine c_imul dX2_leaf_36 ?_
  refine c_V2vK (ci := 2) (rr := (RX2, TX2, 6)) (y' := mX2_close) dX2_leaf_37 lX2_58 kX2_close ⟨by decide, by decide⟩ rfl rfl (by decide) (hS.k t_x0) (Nat.le_of_ble_eq_true rfl) (kc_X2_close hG hS t_x0 (hS.rk (c := 2) (k := 3) t_x0 rfl (by omega)) ok.1) (fun ⟨hS, hm_37⟩ => ?_)
  have hM := hM.trans hm_37
  have ok := ok.2
  exact cX.cutz (kb_X2_leaf_40 hG hR hS hM t_x0 ok hx) ⟨rfl, trivial⟩
def KF_X2_leaf_18 (N g H T : Nat) (x0 : Nat) (x1 : Option Nat) (x2 : Int32) (x3 : Int32) (S : cS) : cS := (KF_X2_leaf_25 N g H T x0 (k_X2_add_ N g H T S x0 x1 x2 x3))
def KO_X2_leaf_18 (N g H T : Nat) (x0 : Nat) (x1 : Option Nat) (x2 : Int32) (x3 : Int32) (S : cS) : Prop := (p_X2_add_ N g H T S x0 x1 x2 x3) ∧ KO_X2_leaf_25 N g H T x0 (k_X2_add_ N g H T S x0 x1 x2 x3)
set_option maxRecDepth 100000 in
set_option maxHeartbeats 4000000 in
theorem kb_X2_leaf_18 {G : zG} {o : cO} {u g H T N : Nat} {S : cS} {S0 : cS} {Q : Option Value → cS → Prop} {X : cS → Prop} (hG : zOK G) (hR : ∀ S', St u g H T S' → Mono S0 S' → X S' → Q none S') {x0 : Nat} {x1 : Option Nat} {x2 : Int32} {x3 : Int32} (hS : St u g H T S) (hM : Mono S0 S) (t_x0 : isO g H 2 x0) (t_x1 : tK S 20 x1) (ok : KO_X2_leaf_18 N g H T x0 x1 x2 x3 S) (hx : X (KF_X2_leaf_18 N g H T x0 x1 x2 x3 S)) : cX G o dX2_leaf mX2_leaf 18 [some (va_rf (some x0)), some (va_rf x1), some (.int x2), some (.int x3)] [] S Q := by
  unfold KO_X2_leaf_18 at ok
  unfold KF_X2_leaf_18 at hx
  refine c_aload_nQ dX2_leaf_18 rfl rfl ?_
  refine c_aload_nQ dX2_leaf_19 rfl rfl ?_
  refine c_iload_n dX2_leaf_20 rfl rfl ?_
  refine c_iload_n dX2_leaf_21 rfl rfl ?_
  refine c_V3vK (ci := 2) (rr := (RX2, TX2, 6)) (y' := mX2_add_) dX2_leaf_22 lX2_54 kX2_add_ ⟨by decide, by decide⟩ rfl rfl (by decide) (hS.k t_x0) (Nat.le_of_ble_eq_true rfl) (kc_X2_add_ hG hS t_x0 t_x1 ok.1) (fun ⟨hS, hm_22⟩ => ?_)
  have hM := hM.trans hm_22
  have ok := ok.2
  exact cX.cutz (kb_X2_leaf_25 hG hR hS hM t_x0 ok hx) ⟨rfl, trivial⟩
def KF_X2_leaf_13 (N g H T : Nat) (x0 : Nat) (x1 : Option Nat) (x2 : Int32) (x3 : Int32) (S : cS) : cS := (KF_X2_leaf_18 N g H T x0 x1 x2 x3 (k_X2_add N g H T S x0 (nI 0)))
def KO_X2_leaf_13 (N g H T : Nat) (x0 : Nat) (x1 : Option Nat) (x2 : Int32) (x3 : Int32) (S : cS) : Prop := (p_X2_add N g H T S x0 (nI 0)) ∧ KO_X2_leaf_18 N g H T x0 x1 x2 x3 (k_X2_add N g H T S x0 (nI 0))
set_option maxRecDepth 100000 in
set_option maxHeartbeats 4000000 in
theorem kb_X2_leaf_13 {G : zG} {o : cO} {u g H T N : Nat} {S : cS} {S0 : cS} {Q : Option Value → cS → Prop} {X : cS → Prop} (hG : zOK G) (hR : ∀ S', St u g H T S' → Mono S0 S' → X S' → Q none S') {x0 : Nat} {x1 : Option Nat} {x2 : Int32} {x3 : Int32} (hS : St u g H T S) (hM : Mono S0 S) (t_x0 : isO g H 2 x0) (t_x1 : tK S 20 x1) (ok : KO_X2_leaf_13 N g H T x0 x1 x2 x3 S) (hx : X (KF_X2_leaf_13 N g H T x0 x1 x2 x3 S)) : cX G o dX2_leaf mX2_leaf 13 [some (va_rf (some x0)), some (va_rf x1), some (.int x2), some (.int x3)] [] S Q := by
  unfold KO_X2_leaf_13 at ok
  unfold KF_X2_leaf_13 at hx
  refine c_aload_nQ dX2_leaf_13 rfl rfl ?_
  refine c_iconst (v := nI 0) dX2_leaf_14 (by decide) ?_
  refine c_V1vK (ci := 2) (rr := (RX2, TX2, 6)) (y' := mX2_add) dX2_leaf_15 lX2_65 kX2_add ⟨by decide, by decide⟩ rfl rfl (by decide) (hS.k t_x0) (Nat.le_of_ble_eq_true rfl) (kc_X2_add hG hS t_x0 ok.1) (fun ⟨hS, hm_15⟩ => ?_)
  have hM := hM.trans hm_15
  have ok := ok.2
  exact cX.cutz (kb_X2_leaf_18 hG hR hS hM t_x0 (hm_15.tK t_x1 (by decide)) ok hx) ⟨rfl, rfl, rfl, rfl, trivial⟩
def KF_X2_leaf_0 (N g H T : Nat) (x0 : Nat) (x1 : Option Nat) (x2 : Int32) (x3 : Int32) (S : cS) : cS := (if (nI 66) ≤ (cI S 5 x0) then (KF_X2_leaf_50 N g H T S) else (KF_X2_leaf_13 N g H T x0 x1 x2 x3 (k_X2_open N g H T S x0)))
def KO_X2_leaf_0 (N g H T : Nat) (x0 : Nat) (x1 : Option Nat) (x2 : Int32) (x3 : Int32) (S : cS) : Prop := (((nI 66) ≤ (cI S 5 x0) → KO_X2_leaf_50 N g H T S) ∧ (¬ (nI 66) ≤ (cI S 5 x0) → (p_X2_open N g H T S x0) ∧ KO_X2_leaf_13 N g H T x0 x1 x2 x3 (k_X2_open N g H T S x0)))
set_option maxRecDepth 100000 in
set_option maxHeartbeats 4000000 in
theorem kb_X2_leaf_0 {G : zG} {o : cO} {u g H T N : Nat} {S : cS} {S0 : cS} {Q : Option Value → cS → Prop} {X : cS → Prop} (hG : zOK G) (hR : ∀ S', St u g H T S' → Mono S0 S' → X S' → Q none S') {x0 : Nat} {x1 : Option Nat} {x2 : Int32} {x3 : Int32} (hS : St u g H T S) (hM : Mono S0 S) (t_x0 : isO g H 2 x0) (t_x1 : tK S 20 x1) (ok : KO_X2_leaf_0 N g H T x0 x1 x2 x3 S) (hx : X (KF_X2_leaf_0 N g H T x0 x1 x2 x3 S)) : cX G o dX2_leaf mX2_leaf 0 [some (va_rf (some x0)), some (va_rf x1), some (.int x2), some (.int x3)] [] S Q := by
  unfold KO_X2_leaf_0 at ok
  unfold KF_X2_leaf_0 at hx
  refine c_aload_nQ dX2_leaf_0 rfl rfl ?_
  refine c_getI (C := RX2) (T := TX2) (N := 6) (ci := 2) (k := 5) ⟨rfl, inT2, by decide, fX2_62⟩ (by decide) (by decide) (by decide) dX2_leaf_1 (hS.k t_x0) ?_
  refine c_bipush (v := nI 66) dX2_leaf_4 (by decide) ?_
  refine c_icmp_ge (tgt := 50) dX2_leaf_6 (by decide) (fun c_6 => ?_) (fun c_6 => ?_)
  · have ok := ok.1 c_6
    have hx := xif_p c_6 hx
    exact cX.cutz (kb_X2_leaf_50 hG hR hS hM  ok hx) trivial
  · have ok := ok.2 c_6
    have hx := xif_n c_6 hx
    refine c_aload_nQ dX2_leaf_9 rfl rfl ?_
    refine c_V0vK (ci := 2) (rr := (RX2, TX2, 6)) (y' := mX2_open) dX2_leaf_10 lX2_51 kX2_open ⟨by decide, by decide⟩ rfl rfl (by decide) (hS.k t_x0) (Nat.le_of_ble_eq_true rfl) (kc_X2_open hG hS t_x0 ok.1) (fun ⟨hS, hm_10⟩ => ?_)
    have hM := hM.trans hm_10
    have ok := ok.2
    exact cX.cutz (kb_X2_leaf_13 hG hR hS hM t_x0 (hm_10.tK t_x1 (by decide)) ok hx) ⟨rfl, rfl, rfl, rfl, trivial⟩
def k_X2_leaf (N g H T : Nat) (S : cS) (a0 : Nat) (x1 : Option Nat) (x2 : Int32) (x3 : Int32) : cS := KF_X2_leaf_0 N g H T a0 x1 x2 x3 S
def p_X2_leaf (N g H T : Nat) (S : cS) (a0 : Nat) (x1 : Option Nat) (x2 : Int32) (x3 : Int32) : Prop := KO_X2_leaf_0 N g H T a0 x1 x2 x3 S
set_option maxRecDepth 100000 in
set_option maxHeartbeats 4000000 in
theorem kc_X2_leaf {G : zG} {o : cO} {u g H T N : Nat} {S : cS} (hG : zOK G) {a0 : Nat} {x1 : Option Nat} {x2 : Int32} {x3 : Int32} (hS : St u g H T S) (t_x0 : isO g H 2 a0) (t_x1 : tK S 20 x1) (ok : p_X2_leaf N g H T S a0 x1 x2 x3) : cCv G o dX2_leaf mX2_leaf [.ref a0, va_rf x1, .int x2, .int x3] S (fun S' => S' = k_X2_leaf N g H T S a0 x1 x2 x3 ∧ St u g H T S' ∧ Mono S S') := by
  refine cC.ofX rfl (by cases x1 <;> exact Nat.le_of_ble_eq_true rfl) ?_
  rw [show zargs mX2_leaf.2.2.1 [.ref a0, va_rf x1, .int x2, .int x3] = [some (va_rf (some a0)), some (va_rf x1), some (.int x2), some (.int x3)] from by cases x1 <;> rfl]
  exact cX.cutz (kb_X2_leaf_0 (X := fun F => F = k_X2_leaf N g H T S a0 x1 x2 x3) hG (fun S' h1 h2 h => ⟨rfl, h, h1, h2⟩) hS Mono.rfl' t_x0 t_x1 ok rfl) ⟨rfl, rfl, rfl, rfl, trivial⟩
/-! X0_plant -/
def KF_X0_plant_39 (N g H T : Nat)  (S : cS) : cS := S
def KO_X0_plant_39 (N g H T : Nat)  (S : cS) : Prop := True
set_option maxRecDepth 100000 in
set_option maxHeartbeats 4000000 in
theorem kb_X0_plant_39 {G : zG} {o : cO} {u g H T N : Nat} {S : cS} {S0 : cS} {Q : Option Value → cS → Prop} {X : cS → Prop} (hG : zOK G) (hR : ∀ S', St u g H T S' → Mono S0 S' → X S' → Q none S') (hS : St u g H T S) (hM : Mono S0 S) (ok : KO_X0_plant_39 N g H T S) (hx : X (KF_X0_plant_39 N g H T S)) : cX G o dX0_plant mX0_plant 39 [none, none, none] [] S Q := by
  unfold KO_X0_plant_39 at ok
  unfold KF_X0_plant_39 at hx
  exact c_return rfl dX0_plant_39 (hR _ hS hM hx)
def KF_X0_plant_33 (N g H T : Nat) (rec : Nat → Nat → Int32 → cS → Nat × cS) (x0 : Nat) (x1 : Nat) (x2 : Int32) (S : cS) : Nat × cS := (rec x0 x1 (x2 + nI 1) S)
def KO_X0_plant_33 (N g H T : Nat) (rok : Nat → Nat → Int32 → cS → Prop) (x0 : Nat) (x1 : Nat) (x2 : Int32) (S : cS) : Prop := rok x0 x1 (x2 + nI 1) S
set_option maxRecDepth 100000 in
set_option maxHeartbeats 4000000 in
theorem kb_X0_plant_33 {G : zG} {o : cO} {u g H T N : Nat} {S : cS} {S0 : cS} {Q : Option Value → cS → Prop} {X : Nat × cS → Prop} (hG : zOK G) (hX0 : ∀ (S' : cS), St u g H T S' → Mono S0 S' → X (0, S') → cX G o dX0_plant mX0_plant 39 [none, none, none] [] S' Q) {rec : Nat → Nat → Int32 → cS → Nat × cS} {rok : Nat → Nat → Int32 → cS → Prop} (hrec : ∀ (x0 : Nat) (x1 : Nat) (x2 : Int32) (S : cS), St u g H T S → Mono S0 S → isO g H 0 x0 → isO g H 2 x1 → rok x0 x1 x2 S → X (rec x0 x1 x2 S) → cX G o dX0_plant mX0_plant 6 [some (va_rf (some x0)), some (va_rf (some x1)), some (.int x2)] [] S Q) {x0 : Nat} {x1 : Nat} {x2 : Int32} (hS : St u g H T S) (hM : Mono S0 S) (t_x0 : isO g H 0 x0) (t_x1 : isO g H 2 x1) (ok : KO_X0_plant_33 N g H T rok x0 x1 x2 S) (hx : X (KF_X0_plant_33 N g H T rec x0 x1 x2 S)) : cX G o dX0_plant mX0_plant 33 [some (va_rf (some x0)), some (va_rf (some x1)), some (.int x2)] [] S Q := by
  unfold KO_X0_plant_33 at ok
  unfold KF_X0_plant_33 at hx
  refine c_iinc_2 (v := (x2 + nI 1)) dX0_plant_33 rfl (by first | rfl | (congr 1)) (by decide) (by simp [zok, zg, zcat_rf]) ?_
  refine c_goto (tgt := 6) dX0_plant_36 (by decide) ?_
  exact cX.cutz (hrec _ _ _ S hS hM t_x0 t_x1 ok hx) ⟨rfl, rfl, rfl, trivial⟩
def KF_X0_plant_22 (N g H T : Nat) (rec : Nat → Nat → Int32 → cS → Nat × cS) (x0 : Nat) (x1 : Nat) (x2 : Int32) (S : cS) : Nat × cS := (KF_X0_plant_33 N g H T rec x0 x1 x2 (k_X2_leaf N g H T S x1 (some (x0 + 4)) (nI 0) (nI 6)))
def KO_X0_plant_22 (N g H T : Nat) (rok : Nat → Nat → Int32 → cS → Prop) (x0 : Nat) (x1 : Nat) (x2 : Int32) (S : cS) : Prop := (p_X2_leaf N g H T S x1 (some (x0 + 4)) (nI 0) (nI 6)) ∧ KO_X0_plant_33 N g H T rok x0 x1 x2 (k_X2_leaf N g H T S x1 (some (x0 + 4)) (nI 0) (nI 6))
set_option maxRecDepth 100000 in
set_option maxHeartbeats 4000000 in
theorem kb_X0_plant_22 {G : zG} {o : cO} {u g H T N : Nat} {S : cS} {S0 : cS} {Q : Option Value → cS → Prop} {X : Nat × cS → Prop} (hG : zOK G) (hX0 : ∀ (S' : cS), St u g H T S' → Mono S0 S' → X (0, S') → cX G o dX0_plant mX0_plant 39 [none, none, none] [] S' Q) {rec : Nat → Nat → Int32 → cS → Nat × cS} {rok : Nat → Nat → Int32 → cS → Prop} (hrec : ∀ (x0 : Nat) (x1 : Nat) (x2 : Int32) (S : cS), St u g H T S → Mono S0 S → isO g H 0 x0 → isO g H 2 x1 → rok x0 x1 x2 S → X (rec x0 x1 x2 S) → cX G o dX0_plant mX0_plant 6 [some (va_rf (some x0)), some (va_rf (some x1)), some (.int x2)] [] S Q) {x0 : Nat} {x1 : Nat} {x2 : Int32} (hS : St u g H T S) (hM : Mono S0 S) (t_x0 : isO g H 0 x0) (t_x1 : isO g H 2 x1) (ok : KO_X0_plant_22 N g H T rok x0 x1 x2 S) (hx : X (KF_X0_plant_22 N g H T rec x0 x1 x2 S)) : cX G o dX0_plant mX0_plant 22 [some (va_rf (some x0)), some (va_rf (some x1)), some (.int x2)] [] S Q := by
  unfold KO_X0_plant_22 at ok
  unfold KF_X0_plant_22 at hx
  refine c_aload_nQ dX0_plant_22 rfl rfl ?_
  refine c_aload_nQ dX0_plant_23 rfl rfl ?_
  refine c_getS (C := RX0) (T := TX0) (N := 6) (ci := 0) (k := 4) ⟨rfl, inT0, by decide, fX0_22⟩ (by decide) (by decide) (by decide) dX0_plant_24 (hS.k t_x0) (hS.r (c := 0) t_x0 rfl (by omega)) ?_
  refine c_iconst (v := nI 0) dX0_plant_27 (by decide) ?_
  refine c_bipush (v := nI 6) dX0_plant_28 (by decide) ?_
  refine c_V3vK (ci := 2) (rr := (RX2, TX2, 6)) (y' := mX2_leaf) dX0_plant_30 lX0_85 kX2_leaf ⟨by decide, by decide⟩ rfl rfl (by decide) (hS.k t_x1) (Nat.le_of_ble_eq_true rfl) (kc_X2_leaf hG hS t_x1 (hS.rk (c := 0) (k := 4) t_x0 rfl (by omega)) ok.1) (fun ⟨hS, hm_30⟩ => ?_)
  have hM := hM.trans hm_30
  have ok := ok.2
  exact cX.cutz (kb_X0_plant_33 hG hX0 hrec hS hM t_x0 t_x1 ok hx) ⟨rfl, rfl, rfl, trivial⟩
def KB_X0_plant_6 (N g H T : Nat) (rec : Nat → Nat → Int32 → cS → Nat × cS) (x0 : Nat) (x1 : Nat) (x2 : Int32) (S : cS) : Nat × cS := (if (nI 16) ≤ x2 then (0, S) else (KF_X0_plant_22 N g H T rec x0 x1 x2 (k_X0_encode N g H T S x0 x2 (some (x0 + 4)) (nI 0))))
def KOB_X0_plant_6 (N g H T : Nat) (rok : Nat → Nat → Int32 → cS → Prop) (x0 : Nat) (x1 : Nat) (x2 : Int32) (S : cS) : Prop := (((nI 16) ≤ x2 → True) ∧ (¬ (nI 16) ≤ x2 → (p_X0_encode N g H T S x0 x2 (some (x0 + 4)) (nI 0)) ∧ KO_X0_plant_22 N g H T rok x0 x1 x2 (k_X0_encode N g H T S x0 x2 (some (x0 + 4)) (nI 0))))
set_option maxRecDepth 100000 in
set_option maxHeartbeats 4000000 in
theorem kbb_X0_plant_6 {G : zG} {o : cO} {u g H T N : Nat} {S : cS} {S0 : cS} {Q : Option Value → cS → Prop} {X : Nat × cS → Prop} (hG : zOK G) (hX0 : ∀ (S' : cS), St u g H T S' → Mono S0 S' → X (0, S') → cX G o dX0_plant mX0_plant 39 [none, none, none] [] S' Q) {rec : Nat → Nat → Int32 → cS → Nat × cS} {rok : Nat → Nat → Int32 → cS → Prop} (hrec : ∀ (x0 : Nat) (x1 : Nat) (x2 : Int32) (S : cS), St u g H T S → Mono S0 S → isO g H 0 x0 → isO g H 2 x1 → rok x0 x1 x2 S → X (rec x0 x1 x2 S) → cX G o dX0_plant mX0_plant 6 [some (va_rf (some x0)), some (va_rf (some x1)), some (.int x2)] [] S Q) {x0 : Nat} {x1 : Nat} {x2 : Int32} (hS : St u g H T S) (hM : Mono S0 S) (t_x0 : isO g H 0 x0) (t_x1 : isO g H 2 x1) (ok : KOB_X0_plant_6 N g H T rok x0 x1 x2 S) (hx : X (KB_X0_plant_6 N g H T rec x0 x1 x2 S)) : cX G o dX0_plant mX0_plant 6 [some (va_rf (some x0)), some (va_rf (some x1)), some (.int x2)] [] S Q := by
  unfold KOB_X0_plant_6 at ok
  unfold KB_X0_plant_6 at hx
  refine c_iload_n dX0_plant_6 rfl rfl ?_
  refine c_bipush (v := nI 16) dX0_plant_7 (by decide) ?_
  refine c_icmp_ge (tgt := 39) dX0_plant_9 (by decide) (fun c_9 => ?_) (fun c_9 => ?_)
  · have ok := ok.1 c_9
    have hx := xif_p c_9 hx
    exact cX.cutz (hX0 S hS hM  hx) trivial
  · have ok := ok.2 c_9
    have hx := xif_n c_9 hx
    refine c_aload_nQ dX0_plant_12 rfl rfl ?_
    refine c_iload_n dX0_plant_13 rfl rfl ?_
    refine c_aload_nQ dX0_plant_14 rfl rfl ?_
    refine c_getS (C := RX0) (T := TX0) (N := 6) (ci := 0) (k := 4) ⟨rfl, inT0, by decide, fX0_22⟩ (by decide) (by decide) (by decide) dX0_plant_15 (hS.k t_x0) (hS.r (c := 0) t_x0 rfl (by omega)) ?_
    refine c_iconst (v := nI 0) dX0_plant_18 (by decide) ?_
    refine c_V3vK (ci := 0) (rr := (RX0, TX0, 6)) (y' := mX0_encode) dX0_plant_19 lX0_81 kX0_encode ⟨by decide, by decide⟩ rfl rfl (by decide) (hS.k t_x0) (Nat.le_of_ble_eq_true rfl) (kc_X0_encode hG hS t_x0 (hS.rk (c := 0) (k := 4) t_x0 rfl (by omega)) ok.1) (fun ⟨hS, hm_19⟩ => ?_)
    have hM := hM.trans hm_19
    have ok := ok.2
    exact cX.cutz (kb_X0_plant_22 hG hX0 hrec hS hM t_x0 t_x1 ok hx) ⟨rfl, rfl, rfl, trivial⟩
def KL_X0_plant_6 (N g H T : Nat) : Nat → Nat → Nat → Int32 → cS → Nat × cS
  | 0, x0, x1, x2, S => (0, S)
  | n + 1, x0, x1, x2, S => KB_X0_plant_6 N g H T (KL_X0_plant_6 N g H T n) x0 x1 x2 S
def KOL_X0_plant_6 (N g H T : Nat) : Nat → Nat → Nat → Int32 → cS → Prop
  | 0, _, _, _, _ => False
  | n + 1, x0, x1, x2, S => KOB_X0_plant_6 N g H T (KOL_X0_plant_6 N g H T n) x0 x1 x2 S
set_option maxRecDepth 100000 in
set_option maxHeartbeats 4000000 in
theorem kl_X0_plant_6 {G : zG} {o : cO} {u g H T N : Nat} {S0 : cS} {Q : Option Value → cS → Prop} {X : Nat × cS → Prop} (hG : zOK G) (hX0 : ∀ (S' : cS), St u g H T S' → Mono S0 S' → X (0, S') → cX G o dX0_plant mX0_plant 39 [none, none, none] [] S' Q) : ∀ (n : Nat) (x0 : Nat) (x1 : Nat) (x2 : Int32) (S : cS), St u g H T S → Mono S0 S → isO g H 0 x0 → isO g H 2 x1 → KOL_X0_plant_6 N g H T n x0 x1 x2 S → X (KL_X0_plant_6 N g H T n x0 x1 x2 S) → cX G o dX0_plant mX0_plant 6 [some (va_rf (some x0)), some (va_rf (some x1)), some (.int x2)] [] S Q := by
  intro n
  induction n with
  | zero => intro x0 x1 x2 S hS hM t_x0 t_x1 ok; exact absurd ok id
  | succ n ih =>
    intro x0 x1 x2 S hS hM t_x0 t_x1 ok hx
    exact kbb_X0_plant_6 hG hX0 (rec := KL_X0_plant_6 N g H T n) (rok := KOL_X0_plant_6 N g H T n) (fun x0 x1 x2 S hS hM t_x0 t_x1 ok hx => ih x0 x1 x2 S hS hM t_x0 t_x1 ok hx) hS hM t_x0 t_x1 ok hx
def KA_X0_plant_6 (N g H T : Nat) (x0 : Nat) (x1 : Nat) (x2 : Int32) (S : cS) (z : Nat × cS) : cS := (KF_X0_plant_39 N g H T z.2)
def KOA_X0_plant_6 (N g H T : Nat) (x0 : Nat) (x1 : Nat) (x2 : Int32) (S : cS) (z : Nat × cS) : Prop := KO_X0_plant_39 N g H T z.2
set_option maxRecDepth 100000 in
set_option maxHeartbeats 4000000 in
theorem kd_X0_plant_6 {G : zG} {o : cO} {u g H T N : Nat} {S : cS} {S0 : cS} {Q : Option Value → cS → Prop} {X : cS → Prop} (hG : zOK G) (hR : ∀ S', St u g H T S' → Mono S0 S' → X S' → Q none S') {x0 : Nat} {x1 : Nat} {x2 : Int32} (hS : St u g H T S) (hM : Mono S0 S) (t_x0 : isO g H 0 x0) (t_x1 : isO g H 2 x1) (ok : KOL_X0_plant_6 N g H T N x0 x1 x2 S ∧ KOA_X0_plant_6 N g H T x0 x1 x2 S (KL_X0_plant_6 N g H T N x0 x1 x2 S)) (hx : X (KA_X0_plant_6 N g H T x0 x1 x2 S (KL_X0_plant_6 N g H T N x0 x1 x2 S))) : cX G o dX0_plant mX0_plant 6 [some (va_rf (some x0)), some (va_rf (some x1)), some (.int x2)] [] S Q := by
  refine kl_X0_plant_6 hG ?_ N x0 x1 x2 S hS hM t_x0 t_x1 ok.1 (X := fun z => KOA_X0_plant_6 N g H T x0 x1 x2 S z ∧ X (KA_X0_plant_6 N g H T x0 x1 x2 S z)) ⟨ok.2, hx⟩
  · intro S' hS hM hz
    obtain ⟨ok, hx⟩ := hz
    unfold KOA_X0_plant_6 at ok
    unfold KA_X0_plant_6 at hx
    exact cX.cutz (kb_X0_plant_39 hG hR hS hM  ok hx) trivial
def KF_X0_plant_4 (N g H T : Nat) (x0 : Nat) (x1 : Nat) (S : cS) : cS := (KA_X0_plant_6 N g H T x0 x1 (nI 0) S (KL_X0_plant_6 N g H T N x0 x1 (nI 0) S))
def KO_X0_plant_4 (N g H T : Nat) (x0 : Nat) (x1 : Nat) (S : cS) : Prop := (KOL_X0_plant_6 N g H T N x0 x1 (nI 0) S ∧ KOA_X0_plant_6 N g H T x0 x1 (nI 0) S (KL_X0_plant_6 N g H T N x0 x1 (nI 0) S))
set_option maxRecDepth 100000 in
set_option maxHeartbeats 4000000 in
theorem kb_X0_plant_4 {G : zG} {o : cO} {u g H T N : Nat} {S : cS} {S0 : cS} {Q : Option Value → cS → Prop} {X : cS → Prop} (hG : zOK G) (hR : ∀ S', St u g H T S' → Mono S0 S' → X S' → Q none S') {x0 : Nat} {x1 : Nat} (hS : St u g H T S) (hM : Mono S0 S) (t_x0 : isO g H 0 x0) (t_x1 : isO g H 2 x1) (ok : KO_X0_plant_4 N g H T x0 x1 S) (hx : X (KF_X0_plant_4 N g H T x0 x1 S)) : cX G o dX0_plant mX0_plant 4 [some (va_rf (some x0)), some (va_rf (some x1)), none] [] S Q := by
  unfold KO_X0_plant_4 at ok
  unfold KF_X0_plant_4 at hx
  refine c_iconst (v := nI 0) dX0_plant_4 (by decide) ?_
  refine c_istore_2 dX0_plant_5 (by decide) (by simp [zok, zg, zcat_rf]) ?_
  exact cX.cutz (kd_X0_plant_6 hG hR hS hM t_x0 t_x1 ok hx) ⟨rfl, rfl, rfl, trivial⟩
def KF_X0_plant_0 (N g H T : Nat) (x0 : Nat) (x1 : Nat) (S : cS) : cS := (KF_X0_plant_4 N g H T x0 x1 (k_X2_clear N g H T S x1))
def KO_X0_plant_0 (N g H T : Nat) (x0 : Nat) (x1 : Nat) (S : cS) : Prop := (p_X2_clear N g H T S x1) ∧ KO_X0_plant_4 N g H T x0 x1 (k_X2_clear N g H T S x1)
set_option maxRecDepth 100000 in
set_option maxHeartbeats 4000000 in
theorem kb_X0_plant_0 {G : zG} {o : cO} {u g H T N : Nat} {S : cS} {S0 : cS} {Q : Option Value → cS → Prop} {X : cS → Prop} (hG : zOK G) (hR : ∀ S', St u g H T S' → Mono S0 S' → X S' → Q none S') {x0 : Nat} {x1 : Nat} (hS : St u g H T S) (hM : Mono S0 S) (t_x0 : isO g H 0 x0) (t_x1 : isO g H 2 x1) (ok : KO_X0_plant_0 N g H T x0 x1 S) (hx : X (KF_X0_plant_0 N g H T x0 x1 S)) : cX G o dX0_plant mX0_plant 0 [some (va_rf (some x0)), some (va_rf (some x1)), none] [] S Q := by
  unfold KO_X0_plant_0 at ok
  unfold KF_X0_plant_0 at hx
  refine c_aload_nQ dX0_plant_0 rfl rfl ?_
  refine c_V0vK (ci := 2) (rr := (RX2, TX2, 6)) (y' := mX2_clear) dX0_plant_1 lX0_76 kX2_clear ⟨by decide, by decide⟩ rfl rfl (by decide) (hS.k t_x1) (Nat.le_of_ble_eq_true rfl) (kc_X2_clear hG hS t_x1 ok.1) (fun ⟨hS, hm_1⟩ => ?_)
  have hM := hM.trans hm_1
  have ok := ok.2
  exact cX.cutz (kb_X0_plant_4 hG hR hS hM t_x0 t_x1 ok hx) ⟨rfl, rfl, trivial⟩
def k_X0_plant (N g H T : Nat) (S : cS) (a0 : Nat) (x1 : Nat) : cS := KF_X0_plant_0 N g H T a0 x1 S
def p_X0_plant (N g H T : Nat) (S : cS) (a0 : Nat) (x1 : Nat) : Prop := KO_X0_plant_0 N g H T a0 x1 S
set_option maxRecDepth 100000 in
set_option maxHeartbeats 4000000 in
theorem kc_X0_plant {G : zG} {o : cO} {u g H T N : Nat} {S : cS} (hG : zOK G) {a0 : Nat} {x1 : Nat} (hS : St u g H T S) (t_x0 : isO g H 0 a0) (t_x1 : isO g H 2 x1) (ok : p_X0_plant N g H T S a0 x1) : cCv G o dX0_plant mX0_plant [.ref a0, va_rf (some x1)] S (fun S' => S' = k_X0_plant N g H T S a0 x1 ∧ St u g H T S' ∧ Mono S S') := by
  refine cC.ofX rfl (by exact Nat.le_of_ble_eq_true rfl) ?_
  show cX G o dX0_plant mX0_plant 0 [some (va_rf (some a0)), some (va_rf (some x1)), none] [] S _
  exact cX.cutz (kb_X0_plant_0 (X := fun F => F = k_X0_plant N g H T S a0 x1) hG (fun S' h1 h2 h => ⟨rfl, h, h1, h2⟩) hS Mono.rfl' t_x0 t_x1 ok rfl) ⟨rfl, rfl, trivial⟩

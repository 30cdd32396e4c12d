/-! X0_mirror -/
def KF_X0_mirror_30 (N g H T : Nat) (x0 : Nat) (x1 : Nat) (S : cS) : cS := (csI S 2 x0 (cI S 2 x1))
def KO_X0_mirror_30 (N g H T : Nat) (x0 : Nat) (x1 : Nat) (S : cS) : Prop := True
set_option maxRecDepth 100000 in
set_option maxHeartbeats 4000000 in
theorem kb_X0_mirror_30 {G : zG} {o : cO} {u g H T N : Nat} {S : cS} {S0 : cS} {Q : Option Value → cS → Prop} {X : cS → Prop} (hG : zOK G) (hR : ∀ S', St u g H T S' → Mono S0 S' → X S' → Q none S') {x0 : Nat} {x1 : Nat} (hS : St u g H T S) (hM : Mono S0 S) (t_x0 : isO g H 0 x0) (t_x1 : isO g H 0 x1) (ok : KO_X0_mirror_30 N g H T x0 x1 S) (hx : X (KF_X0_mirror_30 N g H T x0 x1 S)) : cX G o dX0_mirror mX0_mirror 30 [some (va_rf (some x0)), some (va_rf (some x1))] [] S Q := by
  unfold KO_X0_mirror_30 at ok
  unfold KF_X0_mirror_30 at hx
  refine c_aload_nQ dX0_mirror_30 rfl rfl ?_
  refine c_aload_nQ dX0_mirror_31 rfl rfl ?_
  refine c_getI (C := RX0) (T := TX0) (N := 6) (ci := 0) (k := 2) ⟨rfl, inT0, by decide, fX0_41⟩ (by decide) (by decide) (by decide) dX0_mirror_32 (hS.k t_x1) ?_
  refine c_putI (C := RX0) (T := TX0) (N := 6) (ci := 0) (k := 2) ⟨rfl, inT0, by decide, fX0_41⟩ ftT0 rfl (by decide) (by decide) (by decide) rfl rfl dX0_mirror_35 (hS.k t_x0) ?_
  have hS := hS.I 2 x0 (cI S 2 x1)
  have hM := hM.I 2 x0 (cI S 2 x1)
  exact c_return rfl dX0_mirror_38 (hR _ hS hM hx)
def KF_X0_mirror_15 (N g H T : Nat) (x0 : Nat) (x1 : Nat) (S : cS) : cS := (KF_X0_mirror_30 N g H T x0 x1 (csArow S (x0 + 2) (va_cpy (cA S (x1 + 2)) (cA S (x0 + 2)) (nI 0).toNatClampNeg (nI 0).toNatClampNeg (nI 16).toNatClampNeg)))
def KO_X0_mirror_15 (N g H T : Nat) (x0 : Nat) (x1 : Nat) (S : cS) : Prop := ((¬ (nI 0) < 0 ∧ ¬ (nI 0) < 0 ∧ ¬ (nI 16) < 0) ∧ (nI 0).toNatClampNeg + (nI 16).toNatClampNeg ≤ 16 ∧ (nI 0).toNatClampNeg + (nI 16).toNatClampNeg ≤ 16) ∧ KO_X0_mirror_30 N g H T x0 x1 (csArow S (x0 + 2) (va_cpy (cA S (x1 + 2)) (cA S (x0 + 2)) (nI 0).toNatClampNeg (nI 0).toNatClampNeg (nI 16).toNatClampNeg))
set_option maxRecDepth 100000 in
set_option maxHeartbeats 4000000 in
theorem kb_X0_mirror_15 {G : zG} {o : cO} {u g H T N : Nat} {S : cS} {S0 : cS} {Q : Option Value → cS → Prop} {X : cS → Prop} (hG : zOK G) (hR : ∀ S', St u g H T S' → Mono S0 S' → X S' → Q none S') {x0 : Nat} {x1 : Nat} (hS : St u g H T S) (hM : Mono S0 S) (t_x0 : isO g H 0 x0) (t_x1 : isO g H 0 x1) (ok : KO_X0_mirror_15 N g H T x0 x1 S) (hx : X (KF_X0_mirror_15 N g H T x0 x1 S)) : cX G o dX0_mirror mX0_mirror 15 [some (va_rf (some x0)), some (va_rf (some x1))] [] S Q := by
  unfold KO_X0_mirror_15 at ok
  unfold KF_X0_mirror_15 at hx
  refine c_aload_nQ dX0_mirror_15 rfl rfl ?_
  refine c_getS (C := RX0) (T := TX0) (N := 6) (ci := 0) (k := 1) ⟨rfl, inT0, by decide, fX0_15⟩ (by decide) (by decide) (by decide) dX0_mirror_16 (hS.k t_x1) (hS.r (c := 0) t_x1 rfl (by omega)) ?_
  refine c_iconst (v := nI 0) dX0_mirror_19 (by decide) ?_
  refine c_aload_nQ dX0_mirror_20 rfl rfl ?_
  refine c_getS (C := RX0) (T := TX0) (N := 6) (ci := 0) (k := 1) ⟨rfl, inT0, by decide, fX0_15⟩ (by decide) (by decide) (by decide) dX0_mirror_21 (hS.k t_x0) (hS.r (c := 0) t_x0 rfl (by omega)) ?_
  refine c_iconst (v := nI 0) dX0_mirror_24 (by decide) ?_
  refine c_bipush (v := nI 16) dX0_mirror_25 (by decide) ?_
  have tq_27 : tK S 21 (some (x0 + 2)) := tK_some (tK.cis (hS.rk (c := 0) (k := 1) t_x0 rfl (by omega)) (Option.some_ne_none _)).2
  refine c_copy1 hG dX0_mirror_27 qX0_35 (by decide) (by decide) ⟨tK.cis (hS.rk (c := 0) (k := 1) t_x1 rfl (by omega)) (Option.some_ne_none _), tK.cis (hS.rk (c := 0) (k := 1) t_x0 rfl (by omega)) (Option.some_ne_none _), ok.1.1, (le_cast (hS.rl (c := 0) (k := 1) t_x1 rfl (by decide) (by omega)) ok.1.2.1), (le_cast (hS.rl (c := 0) (k := 1) t_x0 rfl (by decide) (by omega)) ok.1.2.2)⟩ ?_
  have hS := hS.Ad (k := 21) (x0 + 2) (va_cpy (cA S (x1 + 2)) (cA S (x0 + 2)) (nI 0).toNatClampNeg (nI 0).toNatClampNeg (nI 16).toNatClampNeg) tq_27 (by decide)
  have hM := hM.Ar (x0 + 2) (va_cpy (cA S (x1 + 2)) (cA S (x0 + 2)) (nI 0).toNatClampNeg (nI 0).toNatClampNeg (nI 16).toNatClampNeg)
  have ok := ok.2
  exact cX.cutz (kb_X0_mirror_30 hG hR hS hM t_x0 t_x1 ok hx) ⟨rfl, rfl, trivial⟩
def KF_X0_mirror_0 (N g H T : Nat) (x0 : Nat) (x1 : Nat) (S : cS) : cS := (KF_X0_mirror_15 N g H T x0 x1 (csArow S (x0 + 1) (va_cpy (cA S (x1 + 1)) (cA S (x0 + 1)) (nI 0).toNatClampNeg (nI 0).toNatClampNeg (nI 16).toNatClampNeg)))
def KO_X0_mirror_0 (N g H T : Nat) (x0 : Nat) (x1 : Nat) (S : cS) : Prop := ((¬ (nI 0) < 0 ∧ ¬ (nI 0) < 0 ∧ ¬ (nI 16) < 0) ∧ (nI 0).toNatClampNeg + (nI 16).toNatClampNeg ≤ 16 ∧ (nI 0).toNatClampNeg + (nI 16).toNatClampNeg ≤ 16) ∧ KO_X0_mirror_15 N g H T x0 x1 (csArow S (x0 + 1) (va_cpy (cA S (x1 + 1)) (cA S (x0 + 1)) (nI 0).toNatClampNeg (nI 0).toNatClampNeg (nI 16).toNatClampNeg))
set_option maxRecDepth 100000 in
set_option maxHeartbeats 4000000 in
theorem kb_X0_mirror_0 {G : zG} {o : cO} {u g H T N : Nat} {S : cS} {S0 : cS} {Q : Option Value → cS → Prop} {X : cS → Prop} (hG : zOK G) (hR : ∀ S', St u g H T S' → Mono S0 S' → X S' → Q none S') {x0 : Nat} {x1 : Nat} (hS : St u g H T S) (hM : Mono S0 S) (t_x0 : isO g H 0 x0) (t_x1 : isO g H 0 x1) (ok : KO_X0_mirror_0 N g H T x0 x1 S) (hx : X (KF_X0_mirror_0 N g H T x0 x1 S)) : cX G o dX0_mirror mX0_mirror 0 [some (va_rf (some x0)), some (va_rf (some x1))] [] S Q := by
  unfold KO_X0_mirror_0 at ok
  unfold KF_X0_mirror_0 at hx
  refine c_aload_nQ dX0_mirror_0 rfl rfl ?_
  refine c_getS (C := RX0) (T := TX0) (N := 6) (ci := 0) (k := 0) ⟨rfl, inT0, by decide, fX0_9⟩ (by decide) (by decide) (by decide) dX0_mirror_1 (hS.k t_x1) (hS.r (c := 0) t_x1 rfl (by omega)) ?_
  refine c_iconst (v := nI 0) dX0_mirror_4 (by decide) ?_
  refine c_aload_nQ dX0_mirror_5 rfl rfl ?_
  refine c_getS (C := RX0) (T := TX0) (N := 6) (ci := 0) (k := 0) ⟨rfl, inT0, by decide, fX0_9⟩ (by decide) (by decide) (by decide) dX0_mirror_6 (hS.k t_x0) (hS.r (c := 0) t_x0 rfl (by omega)) ?_
  refine c_iconst (v := nI 0) dX0_mirror_9 (by decide) ?_
  refine c_bipush (v := nI 16) dX0_mirror_10 (by decide) ?_
  have tq_12 : tK S 21 (some (x0 + 1)) := tK_some (tK.cis (hS.rk (c := 0) (k := 0) t_x0 rfl (by omega)) (Option.some_ne_none _)).2
  refine c_copy1 hG dX0_mirror_12 qX0_35 (by decide) (by decide) ⟨tK.cis (hS.rk (c := 0) (k := 0) t_x1 rfl (by omega)) (Option.some_ne_none _), tK.cis (hS.rk (c := 0) (k := 0) t_x0 rfl (by omega)) (Option.some_ne_none _), ok.1.1, (le_cast (hS.rl (c := 0) (k := 0) t_x1 rfl (by decide) (by omega)) ok.1.2.1), (le_cast (hS.rl (c := 0) (k := 0) t_x0 rfl (by decide) (by omega)) ok.1.2.2)⟩ ?_
  have hS := hS.Ad (k := 21) (x0 + 1) (va_cpy (cA S (x1 + 1)) (cA S (x0 + 1)) (nI 0).toNatClampNeg (nI 0).toNatClampNeg (nI 16).toNatClampNeg) tq_12 (by decide)
  have hM := hM.Ar (x0 + 1) (va_cpy (cA S (x1 + 1)) (cA S (x0 + 1)) (nI 0).toNatClampNeg (nI 0).toNatClampNeg (nI 16).toNatClampNeg)
  have ok := ok.2
  exact cX.cutz (kb_X0_mirror_15 hG hR hS hM t_x0 t_x1 ok hx) ⟨rfl, rfl, trivial⟩
def k_X0_mirror (N g H T : Nat) (S : cS) (a0 : Nat) (x1 : Nat) : cS := KF_X0_mirror_0 N g H T a0 x1 S
def p_X0_mirror (N g H T : Nat) (S : cS) (a0 : Nat) (x1 : Nat) : Prop := KO_X0_mirror_0 N g H T a0 x1 S
set_option maxRecDepth 100000 in
set_option maxHeartbeats 4000000 in
theorem kc_X0_mirror {G : zG} {o : cO} {u g H T N : Nat} {S : cS} (hG : zOK G) {a0 : Nat} {x1 : Nat} (hS : St u g H T S) (t_x0 : isO g H 0 a0) (t_x1 : isO g H 0 x1) (ok : p_X0_mirror N g H T S a0 x1) : cCv G o dX0_mirror mX0_mirror [.ref a0, va_rf (some x1)] S (fun S' => S' = k_X0_mirror N g H T S a0 x1 ∧ St u g H T S' ∧ Mono S S') := by
  refine cC.ofX rfl (by exact Nat.le_of_ble_eq_true rfl) ?_
  show cX G o dX0_mirror mX0_mirror 0 [some (va_rf (some a0)), some (va_rf (some x1))] [] S _
  exact cX.cutz (kb_X0_mirror_0 (X := fun F => F = k_X0_mirror N g H T S a0 x1) hG (fun S' h1 h2 h => ⟨rfl, h, h1, h2⟩) hS Mono.rfl' t_x0 t_x1 ok rfl) ⟨rfl, rfl, trivial⟩
/-! X0_hasPaid -/
def KF_X0_hasPaid_17 (N g H T : Nat) (s0 : Int32) (S : cS) : Int32 := s0
def KO_X0_hasPaid_17 (N g H T : Nat) (s0 : Int32) (S : cS) : Prop := narrow .boolean (.int s0) = .int s0
set_option maxRecDepth 100000 in
set_option maxHeartbeats 4000000 in
theorem kb_X0_hasPaid_17 {G : zG} {o : cO} {u g H T N : Nat} {S : cS} {Q : Option Value → cS → Prop} {X : Int32 → Prop} (hG : zOK G) (hR : ∀ v, X v → Q (some (.int v)) S) {s0 : Int32} (hS : St u g H T S) (ok : KO_X0_hasPaid_17 N g H T s0 S) (hx : X (KF_X0_hasPaid_17 N g H T s0 S)) : cX G o dX0_hasPaid mX0_hasPaid 17 [none, none] [.int s0] S Q := by
  unfold KO_X0_hasPaid_17 at ok
  unfold KF_X0_hasPaid_17 at hx
  exact c_ireturn rfl ok dX0_hasPaid_17 (hR _ hx)
def KF_X0_hasPaid_0 (N g H T : Nat) (x0 : Nat) (x1 : Int32) (S : cS) : Int32 := (if (((cI S 2 x0) >>> (x1 &&& 31)) &&& (nI 1)) = (nI 1) then (KF_X0_hasPaid_17 N g H T (nI 1) S) else (KF_X0_hasPaid_17 N g H T (nI 0) S))
def KO_X0_hasPaid_0 (N g H T : Nat) (x0 : Nat) (x1 : Int32) (S : cS) : Prop := (((((cI S 2 x0) >>> (x1 &&& 31)) &&& (nI 1)) = (nI 1) → KO_X0_hasPaid_17 N g H T (nI 1) S) ∧ (¬ (((cI S 2 x0) >>> (x1 &&& 31)) &&& (nI 1)) = (nI 1) → KO_X0_hasPaid_17 N g H T (nI 0) S))
set_option maxRecDepth 100000 in
set_option maxHeartbeats 4000000 in
theorem kb_X0_hasPaid_0 {G : zG} {o : cO} {u g H T N : Nat} {S : cS} {Q : Option Value → cS → Prop} {X : Int32 → Prop} (hG : zOK G) (hR : ∀ v, X v → Q (some (.int v)) S) {x0 : Nat} {x1 : Int32} (hS : St u g H T S) (t_x0 : isO g H 0 x0) (ok : KO_X0_hasPaid_0 N g H T x0 x1 S) (hx : X (KF_X0_hasPaid_0 N g H T x0 x1 S)) : cX G o dX0_hasPaid mX0_hasPaid 0 [some (va_rf (some x0)), some (.int x1)] [] S Q := by
  unfold KO_X0_hasPaid_0 at ok
  unfold KF_X0_hasPaid_0 at hx
  refine c_aload_nQ dX0_hasPaid_0 rfl rfl ?_
  refine c_getI (C := RX0) (T := TX0) (N := 6) (ci := 0) (k := 2) ⟨rfl, inT0, by decide, fX0_41⟩ (by decide) (by decide) (by decide) dX0_hasPaid_1 (hS.k t_x0) ?_
  refine c_iload_n dX0_hasPaid_4 rfl rfl ?_
  refine c_ishr dX0_hasPaid_5 ?_
  refine c_iconst (v := nI 1) dX0_hasPaid_6 (by decide) ?_
  refine c_iand dX0_hasPaid_7 ?_
  refine c_iconst (v := nI 1) dX0_hasPaid_8 (by decide) ?_
  refine c_icmp_ne (tgt := 16) dX0_hasPaid_9 (by decide) (fun c_9 => ?_) (fun c_9 => ?_)
  · have ok := ok.2 c_9
    have hx := xif_n c_9 hx
    refine c_iconst (v := nI 0) dX0_hasPaid_16 (by decide) ?_
    exact cX.cutz (kb_X0_hasPaid_17 hG hR hS  ok hx) trivial
  · have ok := ok.1 c_9
    have hx := xif_p c_9 hx
    refine c_iconst (v := nI 1) dX0_hasPaid_12 (by decide) ?_
    refine c_goto (tgt := 17) dX0_hasPaid_13 (by decide) ?_
    exact cX.cutz (kb_X0_hasPaid_17 hG hR hS  ok hx) trivial
def k_X0_hasPaid (N g H T : Nat) (S : cS) (a0 : Nat) (x1 : Int32) : Int32 := KF_X0_hasPaid_0 N g H T a0 x1 S
def p_X0_hasPaid (N g H T : Nat) (S : cS) (a0 : Nat) (x1 : Int32) : Prop := KO_X0_hasPaid_0 N g H T a0 x1 S
set_option maxRecDepth 100000 in
set_option maxHeartbeats 4000000 in
theorem kc_X0_hasPaid {G : zG} {o : cO} {u g H T N : Nat} {S : cS} (hG : zOK G) {a0 : Nat} {x1 : Int32} (hS : St u g H T S) (t_x0 : isO g H 0 a0) (ok : p_X0_hasPaid N g H T S a0 x1) : cCi G o dX0_hasPaid mX0_hasPaid [.ref a0, .int x1] S (fun v S' => (v = k_X0_hasPaid N g H T S a0 x1 ∧ S' = S)) := by
  refine cC.ofX rfl (by exact Nat.le_of_ble_eq_true rfl) ?_
  show cX G o dX0_hasPaid mX0_hasPaid 0 [some (va_rf (some a0)), some (.int x1)] [] S _
  exact cX.cutz (kb_X0_hasPaid_0 (X := fun F => F = k_X0_hasPaid N g H T S a0 x1) hG (fun v h => ⟨v, rfl, h, rfl⟩) hS t_x0 ok rfl) ⟨rfl, rfl, trivial⟩
/-! X0_punish -/
def KF_X0_punish_81 (N g H T : Nat) (x0 : Nat) (x2 : Int32) (x3 : Int32) (S : cS) : Int32 × cS := ((nI 1), (csA S (x0 + 1) x2.toNatClampNeg ((cA S (x0 + 1) x2.toNatClampNeg) + x3)))
def KO_X0_punish_81 (N g H T : Nat) (x0 : Nat) (x2 : Int32) (x3 : Int32) (S : cS) : Prop := (vp_in x2 16) ∧ (vp_in x2 16) ∧ True
set_option maxRecDepth 100000 in
set_option maxHeartbeats 4000000 in
theorem kb_X0_punish_81 {G : zG} {o : cO} {u g H T N : Nat} {S : cS} {S0 : cS} {Q : Option Value → cS → Prop} {X : Int32 × cS → Prop} (hG : zOK G) (hR : ∀ v S', St u g H T S' → Mono S0 S' → X (v, S') → Q (some (.int v)) S') {x0 : Nat} {x2 : Int32} {x3 : Int32} (hS : St u g H T S) (hM : Mono S0 S) (t_x0 : isO g H 0 x0) (ok : KO_X0_punish_81 N g H T x0 x2 x3 S) (hx : X (KF_X0_punish_81 N g H T x0 x2 x3 S)) : cX G o dX0_punish mX0_punish 81 [some (va_rf (some x0)), none, some (.int x2), some (.int x3)] [] S Q := by
  unfold KO_X0_punish_81 at ok
  unfold KF_X0_punish_81 at hx
  refine c_aload_nQ dX0_punish_81 rfl rfl ?_
  refine c_getS (C := RX0) (T := TX0) (N := 6) (ci := 0) (k := 0) ⟨rfl, inT0, by decide, fX0_9⟩ (by decide) (by decide) (by decide) dX0_punish_82 (hS.k t_x0) (hS.r (c := 0) t_x0 rfl (by omega)) ?_
  refine c_iload_n dX0_punish_85 rfl rfl ?_
  refine c_dup2 dX0_punish_86 rfl (zcat_rf _) ?_
  refine c_iald dX0_punish_87 ⟨(tK.cis (hS.rk (c := 0) (k := 0) t_x0 rfl (by omega)) (Option.some_ne_none _)), (vk_cast (hS.rl (c := 0) (k := 0) t_x0 rfl (by decide) (by omega)) ok.1)⟩ ?_
  have ok := ok.2
  refine c_iload_n dX0_punish_88 rfl rfl ?_
  refine c_iadd dX0_punish_89 ?_
  have tq_90 : tK S 21 (some (x0 + 1)) := tK_some (tK.cis (hS.rk (c := 0) (k := 0) t_x0 rfl (by omega)) (Option.some_ne_none _)).2
  refine c_iast hG dX0_punish_90 ⟨(tK.cis (hS.rk (c := 0) (k := 0) t_x0 rfl (by omega)) (Option.some_ne_none _)), (vk_cast (hS.rl (c := 0) (k := 0) t_x0 rfl (by decide) (by omega)) ok.1)⟩ ?_
  have hS := hS.Aw (k := 21) (x0 + 1) x2.toNatClampNeg ((cA S (x0 + 1) x2.toNatClampNeg) + x3) tq_90 (by decide)
  have hM := hM.A (x0 + 1) x2.toNatClampNeg ((cA S (x0 + 1) x2.toNatClampNeg) + x3)
  have ok := ok.2
  refine c_iconst (v := nI 1) dX0_punish_91 (by decide) ?_
  exact c_ireturn rfl rfl dX0_punish_92 (hR _ _ hS hM hx)
def KF_X0_punish_58 (N g H T : Nat) (x0 : Nat) (x1 : Int32) (x2 : Int32) (s0 : Int32) (S : cS) : Int32 × cS := (KF_X0_punish_81 N g H T x0 x2 s0 (csA (csI S 2 x0 ((cI S 2 x0) ||| ((nI 1) <<< (x1 &&& 31)))) (x0 + 1) x1.toNatClampNeg ((cA (csI S 2 x0 ((cI S 2 x0) ||| ((nI 1) <<< (x1 &&& 31)))) (x0 + 1) x1.toNatClampNeg) - s0)))
def KO_X0_punish_58 (N g H T : Nat) (x0 : Nat) (x1 : Int32) (x2 : Int32) (s0 : Int32) (S : cS) : Prop := (vp_in x1 16) ∧ (vp_in x1 16) ∧ KO_X0_punish_81 N g H T x0 x2 s0 (csA (csI S 2 x0 ((cI S 2 x0) ||| ((nI 1) <<< (x1 &&& 31)))) (x0 + 1) x1.toNatClampNeg ((cA (csI S 2 x0 ((cI S 2 x0) ||| ((nI 1) <<< (x1 &&& 31)))) (x0 + 1) x1.toNatClampNeg) - s0))
set_option maxRecDepth 100000 in
set_option maxHeartbeats 4000000 in
theorem kb_X0_punish_58 {G : zG} {o : cO} {u g H T N : Nat} {S : cS} {S0 : cS} {Q : Option Value → cS → Prop} {X : Int32 × cS → Prop} (hG : zOK G) (hR : ∀ v S', St u g H T S' → Mono S0 S' → X (v, S') → Q (some (.int v)) S') {x0 : Nat} {x1 : Int32} {x2 : Int32} {s0 : Int32} (hS : St u g H T S) (hM : Mono S0 S) (t_x0 : isO g H 0 x0) (ok : KO_X0_punish_58 N g H T x0 x1 x2 s0 S) (hx : X (KF_X0_punish_58 N g H T x0 x1 x2 s0 S)) : cX G o dX0_punish mX0_punish 58 [some (va_rf (some x0)), some (.int x1), some (.int x2), none] [.int s0] S Q := by
  unfold KO_X0_punish_58 at ok
  unfold KF_X0_punish_58 at hx
  refine c_istore_3 dX0_punish_58 (by decide) rfl ?_
  refine c_aload_nQ dX0_punish_59 rfl rfl ?_
  refine c_dup dX0_punish_60 (zcat_rf _) ?_
  refine c_getI (C := RX0) (T := TX0) (N := 6) (ci := 0) (k := 2) ⟨rfl, inT0, by decide, fX0_41⟩ (by decide) (by decide) (by decide) dX0_punish_61 (hS.k t_x0) ?_
  refine c_iconst (v := nI 1) dX0_punish_64 (by decide) ?_
  refine c_iload_n dX0_punish_65 rfl rfl ?_
  refine c_ishl dX0_punish_66 ?_
  refine c_ior dX0_punish_67 ?_
  refine c_putI (C := RX0) (T := TX0) (N := 6) (ci := 0) (k := 2) ⟨rfl, inT0, by decide, fX0_41⟩ ftT0 rfl (by decide) (by decide) (by decide) rfl rfl dX0_punish_68 (hS.k t_x0) ?_
  have hS := hS.I 2 x0 ((cI S 2 x0) ||| ((nI 1) <<< (x1 &&& 31)))
  have hM := hM.I 2 x0 ((cI S 2 x0) ||| ((nI 1) <<< (x1 &&& 31)))
  refine c_aload_nQ dX0_punish_71 rfl rfl ?_
  refine c_getS (C := RX0) (T := TX0) (N := 6) (ci := 0) (k := 0) ⟨rfl, inT0, by decide, fX0_9⟩ (by decide) (by decide) (by decide) dX0_punish_72 (hS.k t_x0) (hS.r (c := 0) t_x0 rfl (by omega)) ?_
  refine c_iload_n dX0_punish_75 rfl rfl ?_
  refine c_dup2 dX0_punish_76 rfl (zcat_rf _) ?_
  refine c_iald dX0_punish_77 ⟨(tK.cis (hS.rk (c := 0) (k := 0) t_x0 rfl (by omega)) (Option.some_ne_none _)), (vk_cast (hS.rl (c := 0) (k := 0) t_x0 rfl (by decide) (by omega)) ok.1)⟩ ?_
  have ok := ok.2
  refine c_iload_n dX0_punish_78 rfl rfl ?_
  refine c_isub dX0_punish_79 ?_
  have tq_80 : tK (csI S 2 x0 ((cI S 2 x0) ||| ((nI 1) <<< (x1 &&& 31)))) 21 (some (x0 + 1)) := tK_some (tK.cis (hS.rk (c := 0) (k := 0) t_x0 rfl (by omega)) (Option.some_ne_none _)).2
  refine c_iast hG dX0_punish_80 ⟨(tK.cis (hS.rk (c := 0) (k := 0) t_x0 rfl (by omega)) (Option.some_ne_none _)), (vk_cast (hS.rl (c := 0) (k := 0) t_x0 rfl (by decide) (by omega)) ok.1)⟩ ?_
  have hS := hS.Aw (k := 21) (x0 + 1) x1.toNatClampNeg ((cA (csI S 2 x0 ((cI S 2 x0) ||| ((nI 1) <<< (x1 &&& 31)))) (x0 + 1) x1.toNatClampNeg) - s0) tq_80 (by decide)
  have hM := hM.A (x0 + 1) x1.toNatClampNeg ((cA (csI S 2 x0 ((cI S 2 x0) ||| ((nI 1) <<< (x1 &&& 31)))) (x0 + 1) x1.toNatClampNeg) - s0)
  have ok := ok.2
  exact cX.cutz (kb_X0_punish_81 hG hR hS hM t_x0 ok hx) ⟨rfl, rfl, rfl, trivial⟩
def KF_X0_punish_20 (N g H T : Nat)  (S : cS) : Int32 × cS := ((nI 0), S)
def KO_X0_punish_20 (N g H T : Nat)  (S : cS) : Prop := True
set_option maxRecDepth 100000 in
set_option maxHeartbeats 4000000 in
theorem kb_X0_punish_20 {G : zG} {o : cO} {u g H T N : Nat} {S : cS} {S0 : cS} {Q : Option Value → cS → Prop} {X : Int32 × cS → Prop} (hG : zOK G) (hR : ∀ v S', St u g H T S' → Mono S0 S' → X (v, S') → Q (some (.int v)) S') (hS : St u g H T S) (hM : Mono S0 S) (ok : KO_X0_punish_20 N g H T S) (hx : X (KF_X0_punish_20 N g H T S)) : cX G o dX0_punish mX0_punish 20 [none, none, none, none] [] S Q := by
  unfold KO_X0_punish_20 at ok
  unfold KF_X0_punish_20 at hx
  refine c_iconst (v := nI 0) dX0_punish_20 (by decide) ?_
  exact c_ireturn rfl rfl dX0_punish_21 (hR _ _ hS hM hx)
def KF_X0_punish_0 (N g H T : Nat) (x0 : Nat) (x1 : Int32) (x2 : Int32) (S : cS) : Int32 × cS := (if x1 < 0 then (KF_X0_punish_20 N g H T S) else (if (nI 16) ≤ x1 then (KF_X0_punish_20 N g H T S) else (if x2 < 0 then (KF_X0_punish_20 N g H T S) else (if x2 < (nI 16) then (if (((cI S 2 x0) >>> (x1 &&& 31)) &&& (nI 1)) = (nI 1) then ((nI 0), S) else (if (nI 100) ≤ (cA S (x0 + 1) x1.toNatClampNeg) then (KF_X0_punish_58 N g H T x0 x1 x2 (nI 100) S) else (KF_X0_punish_58 N g H T x0 x1 x2 (cA S (x0 + 1) x1.toNatClampNeg) S))) else (KF_X0_punish_20 N g H T S)))))
def KO_X0_punish_0 (N g H T : Nat) (x0 : Nat) (x1 : Int32) (x2 : Int32) (S : cS) : Prop := ((x1 < 0 → KO_X0_punish_20 N g H T S) ∧ (¬ x1 < 0 → (((nI 16) ≤ x1 → KO_X0_punish_20 N g H T S) ∧ (¬ (nI 16) ≤ x1 → ((x2 < 0 → KO_X0_punish_20 N g H T S) ∧ (¬ x2 < 0 → ((x2 < (nI 16) → (((((cI S 2 x0) >>> (x1 &&& 31)) &&& (nI 1)) = (nI 1) → True) ∧ (¬ (((cI S 2 x0) >>> (x1 &&& 31)) &&& (nI 1)) = (nI 1) → (vp_in x1 16) ∧ (((nI 100) ≤ (cA S (x0 + 1) x1.toNatClampNeg) → KO_X0_punish_58 N g H T x0 x1 x2 (nI 100) S) ∧ (¬ (nI 100) ≤ (cA S (x0 + 1) x1.toNatClampNeg) → (vp_in x1 16) ∧ KO_X0_punish_58 N g H T x0 x1 x2 (cA S (x0 + 1) x1.toNatClampNeg) S))))) ∧ (¬ x2 < (nI 16) → KO_X0_punish_20 N g H T S))))))))
set_option maxRecDepth 100000 in
set_option maxHeartbeats 4000000 in
theorem kb_X0_punish_0 {G : zG} {o : cO} {u g H T N : Nat} {S : cS} {S0 : cS} {Q : Option Value → cS → Prop} {X : Int32 × cS → Prop} (hG : zOK G) (hR : ∀ v S', St u g H T S' → Mono S0 S' → X (v, S') → Q (some (.int v)) S') {x0 : Nat} {x1 : Int32} {x2 : Int32} (hS : St u g H T S) (hM : Mono S0 S) (t_x0 : isO g H 0 x0) (ok : KO_X0_punish_0 N g H T x0 x1 x2 S) (hx : X (KF_X0_punish_0 N g H T x0 x1 x2 S)) : cX G o dX0_punish mX0_punish 0 [some (va_rf (some x0)), some (.int x1), some (.int x2), none] [] S Q := by
  unfold KO_X0_punish_0 at ok
  unfold KF_X0_punish_0 at hx
  refine c_iload_n dX0_punish_0 rfl rfl ?_
  refine c_if_lt (tgt := 20) dX0_punish_1 (by decide) (fun c_1 => ?_) (fun c_1 => ?_)
  · have ok := ok.1 c_1
    have hx := xif_p c_1 hx
    exact cX.cutz (kb_X0_punish_20 hG hR hS hM  ok hx) trivial
  · have ok := ok.2 c_1
    have hx := xif_n c_1 hx
    refine c_iload_n dX0_punish_4 rfl rfl ?_
    refine c_bipush (v := nI 16) dX0_punish_5 (by decide) ?_
    refine c_icmp_ge (tgt := 20) dX0_punish_7 (by decide) (fun c_7 => ?_) (fun c_7 => ?_)
    · have ok := ok.1 c_7
      have hx := xif_p c_7 hx
      exact cX.cutz (kb_X0_punish_20 hG hR hS hM  ok hx) trivial
    · have ok := ok.2 c_7
      have hx := xif_n c_7 hx
      refine c_iload_n dX0_punish_10 rfl rfl ?_
      refine c_if_lt (tgt := 20) dX0_punish_11 (by decide) (fun c_11 => ?_) (fun c_11 => ?_)
      · have ok := ok.1 c_11
        have hx := xif_p c_11 hx
        exact cX.cutz (kb_X0_punish_20 hG hR hS hM  ok hx) trivial
      · have ok := ok.2 c_11
        have hx := xif_n c_11 hx
        refine c_iload_n dX0_punish_14 rfl rfl ?_
        refine c_bipush (v := nI 16) dX0_punish_15 (by decide) ?_
        refine c_icmp_lt (tgt := 22) dX0_punish_17 (by decide) (fun c_17 => ?_) (fun c_17 => ?_)
        · have ok := ok.1 c_17
          have hx := xif_p c_17 hx
          refine c_aload_nQ dX0_punish_22 rfl rfl ?_
          refine c_getI (C := RX0) (T := TX0) (N := 6) (ci := 0) (k := 2) ⟨rfl, inT0, by decide, fX0_41⟩ (by decide) (by decide) (by decide) dX0_punish_23 (hS.k t_x0) ?_
          refine c_iload_n dX0_punish_26 rfl rfl ?_
          refine c_ishr dX0_punish_27 ?_
          refine c_iconst (v := nI 1) dX0_punish_28 (by decide) ?_
          refine c_iand dX0_punish_29 ?_
          refine c_iconst (v := nI 1) dX0_punish_30 (by decide) ?_
          refine c_icmp_ne (tgt := 36) dX0_punish_31 (by decide) (fun c_31 => ?_) (fun c_31 => ?_)
          · have ok := ok.2 c_31
            have hx := xif_n c_31 hx
            refine c_aload_nQ dX0_punish_36 rfl rfl ?_
            refine c_getS (C := RX0) (T := TX0) (N := 6) (ci := 0) (k := 0) ⟨rfl, inT0, by decide, fX0_9⟩ (by decide) (by decide) (by decide) dX0_punish_37 (hS.k t_x0) (hS.r (c := 0) t_x0 rfl (by omega)) ?_
            refine c_iload_n dX0_punish_40 rfl rfl ?_
            refine c_iald dX0_punish_41 ⟨(tK.cis (hS.rk (c := 0) (k := 0) t_x0 rfl (by omega)) (Option.some_ne_none _)), (vk_cast (hS.rl (c := 0) (k := 0) t_x0 rfl (by decide) (by omega)) ok.1)⟩ ?_
            have ok := ok.2
            refine c_bipush (v := nI 100) dX0_punish_42 (by decide) ?_
            refine c_icmp_ge (tgt := 56) dX0_punish_44 (by decide) (fun c_44 => ?_) (fun c_44 => ?_)
            · have ok := ok.1 c_44
              have hx := xif_p c_44 hx
              refine c_bipush (v := nI 100) dX0_punish_56 (by decide) ?_
              exact cX.cutz (kb_X0_punish_58 hG hR hS hM t_x0 ok hx) ⟨rfl, rfl, rfl, trivial⟩
            · have ok := ok.2 c_44
              have hx := xif_n c_44 hx
              refine c_aload_nQ dX0_punish_47 rfl rfl ?_
              refine c_getS (C := RX0) (T := TX0) (N := 6) (ci := 0) (k := 0) ⟨rfl, inT0, by decide, fX0_9⟩ (by decide) (by decide) (by decide) dX0_punish_48 (hS.k t_x0) (hS.r (c := 0) t_x0 rfl (by omega)) ?_
              refine c_iload_n dX0_punish_51 rfl rfl ?_
              refine c_iald dX0_punish_52 ⟨(tK.cis (hS.rk (c := 0) (k := 0) t_x0 rfl (by omega)) (Option.some_ne_none _)), (vk_cast (hS.rl (c := 0) (k := 0) t_x0 rfl (by decide) (by omega)) ok.1)⟩ ?_
              have ok := ok.2
              refine c_goto (tgt := 58) dX0_punish_53 (by decide) ?_
              exact cX.cutz (kb_X0_punish_58 hG hR hS hM t_x0 ok hx) ⟨rfl, rfl, rfl, trivial⟩
          · have ok := ok.1 c_31
            have hx := xif_p c_31 hx
            refine c_iconst (v := nI 0) dX0_punish_34 (by decide) ?_
            exact c_ireturn rfl rfl dX0_punish_35 (hR _ _ hS hM hx)
        · have ok := ok.2 c_17
          have hx := xif_n c_17 hx
          exact cX.cutz (kb_X0_punish_20 hG hR hS hM  ok hx) trivial
def k_X0_punish (N g H T : Nat) (S : cS) (a0 : Nat) (x1 : Int32) (x2 : Int32) : Int32 × cS := KF_X0_punish_0 N g H T a0 x1 x2 S
def p_X0_punish (N g H T : Nat) (S : cS) (a0 : Nat) (x1 : Int32) (x2 : Int32) : Prop := KO_X0_punish_0 N g H T a0 x1 x2 S
set_option maxRecDepth 100000 in
set_option maxHeartbeats 4000000 in
theorem kc_X0_punish {G : zG} {o : cO} {u g H T N : Nat} {S : cS} (hG : zOK G) {a0 : Nat} {x1 : Int32} {x2 : Int32} (hS : St u g H T S) (t_x0 : isO g H 0 a0) (ok : p_X0_punish N g H T S a0 x1 x2) : cCi G o dX0_punish mX0_punish [.ref a0, .int x1, .int x2] S (fun v S' => (v = (k_X0_punish N g H T S a0 x1 x2).1 ∧ S' = (k_X0_punish N g H T S a0 x1 x2).2) ∧ St u g H T S' ∧ Mono S S') := by
  refine cC.ofX rfl (by exact Nat.le_of_ble_eq_true rfl) ?_
  show cX G o dX0_punish mX0_punish 0 [some (va_rf (some a0)), some (.int x1), some (.int x2), none] [] S _
  exact cX.cutz (kb_X0_punish_0 (X := fun F => F = k_X0_punish N g H T S a0 x1 x2) hG (fun v S' h1 h2 h => ⟨v, rfl, ⟨by rw [← h], by rw [← h]⟩, h1, h2⟩) hS Mono.rfl' t_x0 ok rfl) ⟨rfl, rfl, rfl, trivial⟩
/-! X0_pay -/
def KF_X0_pay_154 (N g H T : Nat)  (S : cS) : Int32 × cS := ((nI 1), S)
def KO_X0_pay_154 (N g H T : Nat)  (S : cS) : Prop := True
set_option maxRecDepth 100000 in
set_option maxHeartbeats 4000000 in
theorem kb_X0_pay_154 {G : zG} {o : cO} {u g H T N : Nat} {S : cS} {S0 : cS} {Q : Option Value → cS → Prop} {X : Int32 × cS → Prop} (hG : zOK G) (hR : ∀ v S', St u g H T S' → Mono S0 S' → X (v, S') → Q (some (.int v)) S') (hS : St u g H T S) (hM : Mono S0 S) (ok : KO_X0_pay_154 N g H T S) (hx : X (KF_X0_pay_154 N g H T S)) : cX G o dX0_pay mX0_pay 154 [none, none, none, none, none, none, none, none, none] [] S Q := by
  unfold KO_X0_pay_154 at ok
  unfold KF_X0_pay_154 at hx
  refine c_iconst (v := nI 1) dX0_pay_154 (by decide) ?_
  exact c_ireturn rfl rfl dX0_pay_155 (hR _ _ hS hM hx)
def KF_X0_pay_131 (N g H T : Nat) (x0 : Nat) (x3 : Int32) (x5 : Int32) (x6 : Int32) (x8 : Int32) (S : cS) : Int32 × cS := (KF_X0_pay_154 N g H T (csA (csA S (x0 + 1) x5.toNatClampNeg ((cA S (x0 + 1) x5.toNatClampNeg) + x6)) (x0 + 1) x3.toNatClampNeg ((cA (csA S (x0 + 1) x5.toNatClampNeg ((cA S (x0 + 1) x5.toNatClampNeg) + x6)) (x0 + 1) x3.toNatClampNeg) + x8)))
def KO_X0_pay_131 (N g H T : Nat) (x0 : Nat) (x3 : Int32) (x5 : Int32) (x6 : Int32) (x8 : Int32) (S : cS) : Prop := (vp_in x5 16) ∧ (vp_in x5 16) ∧ (vp_in x3 16) ∧ (vp_in x3 16) ∧ KO_X0_pay_154 N g H T (csA (csA S (x0 + 1) x5.toNatClampNeg ((cA S (x0 + 1) x5.toNatClampNeg) + x6)) (x0 + 1) x3.toNatClampNeg ((cA (csA S (x0 + 1) x5.toNatClampNeg ((cA S (x0 + 1) x5.toNatClampNeg) + x6)) (x0 + 1) x3.toNatClampNeg) + x8))
set_option maxRecDepth 100000 in
set_option maxHeartbeats 4000000 in
theorem kb_X0_pay_131 {G : zG} {o : cO} {u g H T N : Nat} {S : cS} {S0 : cS} {Q : Option Value → cS → Prop} {X : Int32 × cS → Prop} (hG : zOK G) (hR : ∀ v S', St u g H T S' → Mono S0 S' → X (v, S') → Q (some (.int v)) S') {x0 : Nat} {x3 : Int32} {x5 : Int32} {x6 : Int32} {x8 : Int32} (hS : St u g H T S) (hM : Mono S0 S) (t_x0 : isO g H 0 x0) (ok : KO_X0_pay_131 N g H T x0 x3 x5 x6 x8 S) (hx : X (KF_X0_pay_131 N g H T x0 x3 x5 x6 x8 S)) : cX G o dX0_pay mX0_pay 131 [some (va_rf (some x0)), none, none, some (.int x3), none, some (.int x5), some (.int x6), none, some (.int x8)] [] S Q := by
  unfold KO_X0_pay_131 at ok
  unfold KF_X0_pay_131 at hx
  refine c_aload_nQ dX0_pay_131 rfl rfl ?_
  refine c_getS (C := RX0) (T := TX0) (N := 6) (ci := 0) (k := 0) ⟨rfl, inT0, by decide, fX0_9⟩ (by decide) (by decide) (by decide) dX0_pay_132 (hS.k t_x0) (hS.r (c := 0) t_x0 rfl (by omega)) ?_
  refine c_iload dX0_pay_135 rfl ?_
  refine c_dup2 dX0_pay_137 rfl (zcat_rf _) ?_
  refine c_iald dX0_pay_138 ⟨(tK.cis (hS.rk (c := 0) (k := 0) t_x0 rfl (by omega)) (Option.some_ne_none _)), (vk_cast (hS.rl (c := 0) (k := 0) t_x0 rfl (by decide) (by omega)) ok.1)⟩ ?_
  have ok := ok.2
  refine c_iload dX0_pay_139 rfl ?_
  refine c_iadd dX0_pay_141 ?_
  have tq_142 : tK S 21 (some (x0 + 1)) := tK_some (tK.cis (hS.rk (c := 0) (k := 0) t_x0 rfl (by omega)) (Option.some_ne_none _)).2
  refine c_iast hG dX0_pay_142 ⟨(tK.cis (hS.rk (c := 0) (k := 0) t_x0 rfl (by omega)) (Option.some_ne_none _)), (vk_cast (hS.rl (c := 0) (k := 0) t_x0 rfl (by decide) (by omega)) ok.1)⟩ ?_
  have hS := hS.Aw (k := 21) (x0 + 1) x5.toNatClampNeg ((cA S (x0 + 1) x5.toNatClampNeg) + x6) tq_142 (by decide)
  have hM := hM.A (x0 + 1) x5.toNatClampNeg ((cA S (x0 + 1) x5.toNatClampNeg) + x6)
  have ok := ok.2
  refine c_aload_nQ dX0_pay_143 rfl rfl ?_
  refine c_getS (C := RX0) (T := TX0) (N := 6) (ci := 0) (k := 0) ⟨rfl, inT0, by decide, fX0_9⟩ (by decide) (by decide) (by decide) dX0_pay_144 (hS.k t_x0) (hS.r (c := 0) t_x0 rfl (by omega)) ?_
  refine c_iload_n dX0_pay_147 rfl rfl ?_
  refine c_dup2 dX0_pay_148 rfl (zcat_rf _) ?_
  refine c_iald dX0_pay_149 ⟨(tK.cis (hS.rk (c := 0) (k := 0) t_x0 rfl (by omega)) (Option.some_ne_none _)), (vk_cast (hS.rl (c := 0) (k := 0) t_x0 rfl (by decide) (by omega)) ok.1)⟩ ?_
  have ok := ok.2
  refine c_iload dX0_pay_150 rfl ?_
  refine c_iadd dX0_pay_152 ?_
  have tq_153 : tK (csA S (x0 + 1) x5.toNatClampNeg ((cA S (x0 + 1) x5.toNatClampNeg) + x6)) 21 (some (x0 + 1)) := tK_some (tK.cis (hS.rk (c := 0) (k := 0) t_x0 rfl (by omega)) (Option.some_ne_none _)).2
  refine c_iast hG dX0_pay_153 ⟨(tK.cis (hS.rk (c := 0) (k := 0) t_x0 rfl (by omega)) (Option.some_ne_none _)), (vk_cast (hS.rl (c := 0) (k := 0) t_x0 rfl (by decide) (by omega)) ok.1)⟩ ?_
  have hS := hS.Aw (k := 21) (x0 + 1) x3.toNatClampNeg ((cA (csA S (x0 + 1) x5.toNatClampNeg ((cA S (x0 + 1) x5.toNatClampNeg) + x6)) (x0 + 1) x3.toNatClampNeg) + x8) tq_153 (by decide)
  have hM := hM.A (x0 + 1) x3.toNatClampNeg ((cA (csA S (x0 + 1) x5.toNatClampNeg ((cA S (x0 + 1) x5.toNatClampNeg) + x6)) (x0 + 1) x3.toNatClampNeg) + x8)
  have ok := ok.2
  exact cX.cutz (kb_X0_pay_154 hG hR hS hM  ok hx) trivial
def KF_X0_pay_116 (N g H T : Nat) (x0 : Nat) (x3 : Int32) (x4 : Int32) (x5 : Int32) (x6 : Int32) (x8 : Int32) (S : cS) : Int32 × cS := (KF_X0_pay_131 N g H T x0 x3 x5 x6 x8 (csA S (x0 + 1) x4.toNatClampNeg ((cA S (x0 + 1) x4.toNatClampNeg) - (x6 + x8))))
def KO_X0_pay_116 (N g H T : Nat) (x0 : Nat) (x3 : Int32) (x4 : Int32) (x5 : Int32) (x6 : Int32) (x8 : Int32) (S : cS) : Prop := (vp_in x4 16) ∧ (vp_in x4 16) ∧ KO_X0_pay_131 N g H T x0 x3 x5 x6 x8 (csA S (x0 + 1) x4.toNatClampNeg ((cA S (x0 + 1) x4.toNatClampNeg) - (x6 + x8)))
set_option maxRecDepth 100000 in
set_option maxHeartbeats 4000000 in
theorem kb_X0_pay_116 {G : zG} {o : cO} {u g H T N : Nat} {S : cS} {S0 : cS} {Q : Option Value → cS → Prop} {X : Int32 × cS → Prop} (hG : zOK G) (hR : ∀ v S', St u g H T S' → Mono S0 S' → X (v, S') → Q (some (.int v)) S') {x0 : Nat} {x3 : Int32} {x4 : Int32} {x5 : Int32} {x6 : Int32} {x8 : Int32} (hS : St u g H T S) (hM : Mono S0 S) (t_x0 : isO g H 0 x0) (ok : KO_X0_pay_116 N g H T x0 x3 x4 x5 x6 x8 S) (hx : X (KF_X0_pay_116 N g H T x0 x3 x4 x5 x6 x8 S)) : cX G o dX0_pay mX0_pay 116 [some (va_rf (some x0)), none, none, some (.int x3), some (.int x4), some (.int x5), some (.int x6), none, some (.int x8)] [] S Q := by
  unfold KO_X0_pay_116 at ok
  unfold KF_X0_pay_116 at hx
  refine c_aload_nQ dX0_pay_116 rfl rfl ?_
  refine c_getS (C := RX0) (T := TX0) (N := 6) (ci := 0) (k := 0) ⟨rfl, inT0, by decide, fX0_9⟩ (by decide) (by decide) (by decide) dX0_pay_117 (hS.k t_x0) (hS.r (c := 0) t_x0 rfl (by omega)) ?_
  refine c_iload dX0_pay_120 rfl ?_
  refine c_dup2 dX0_pay_122 rfl (zcat_rf _) ?_
  refine c_iald dX0_pay_123 ⟨(tK.cis (hS.rk (c := 0) (k := 0) t_x0 rfl (by omega)) (Option.some_ne_none _)), (vk_cast (hS.rl (c := 0) (k := 0) t_x0 rfl (by decide) (by omega)) ok.1)⟩ ?_
  have ok := ok.2
  refine c_iload dX0_pay_124 rfl ?_
  refine c_iload dX0_pay_126 rfl ?_
  refine c_iadd dX0_pay_128 ?_
  refine c_isub dX0_pay_129 ?_
  have tq_130 : tK S 21 (some (x0 + 1)) := tK_some (tK.cis (hS.rk (c := 0) (k := 0) t_x0 rfl (by omega)) (Option.some_ne_none _)).2
  refine c_iast hG dX0_pay_130 ⟨(tK.cis (hS.rk (c := 0) (k := 0) t_x0 rfl (by omega)) (Option.some_ne_none _)), (vk_cast (hS.rl (c := 0) (k := 0) t_x0 rfl (by decide) (by omega)) ok.1)⟩ ?_
  have hS := hS.Aw (k := 21) (x0 + 1) x4.toNatClampNeg ((cA S (x0 + 1) x4.toNatClampNeg) - (x6 + x8)) tq_130 (by decide)
  have hM := hM.A (x0 + 1) x4.toNatClampNeg ((cA S (x0 + 1) x4.toNatClampNeg) - (x6 + x8))
  have ok := ok.2
  exact cX.cutz (kb_X0_pay_131 hG hR hS hM t_x0 ok hx) ⟨rfl, rfl, rfl, rfl, rfl, trivial⟩
def KF_X0_pay_103 (N g H T : Nat)  (S : cS) : Int32 × cS := ((nI 0), S)
def KO_X0_pay_103 (N g H T : Nat)  (S : cS) : Prop := True
set_option maxRecDepth 100000 in
set_option maxHeartbeats 4000000 in
theorem kb_X0_pay_103 {G : zG} {o : cO} {u g H T N : Nat} {S : cS} {S0 : cS} {Q : Option Value → cS → Prop} {X : Int32 × cS → Prop} (hG : zOK G) (hR : ∀ v S', St u g H T S' → Mono S0 S' → X (v, S') → Q (some (.int v)) S') (hS : St u g H T S) (hM : Mono S0 S) (ok : KO_X0_pay_103 N g H T S) (hx : X (KF_X0_pay_103 N g H T S)) : cX G o dX0_pay mX0_pay 103 [none, none, none, none, none, none, none, none, none] [] S Q := by
  unfold KO_X0_pay_103 at ok
  unfold KF_X0_pay_103 at hx
  refine c_iconst (v := nI 0) dX0_pay_103 (by decide) ?_
  exact c_ireturn rfl rfl dX0_pay_104 (hR _ _ hS hM hx)
def KF_X0_pay_74 (N g H T : Nat)  (S : cS) : Int32 × cS := ((nI 0), S)
def KO_X0_pay_74 (N g H T : Nat)  (S : cS) : Prop := True
set_option maxRecDepth 100000 in
set_option maxHeartbeats 4000000 in
theorem kb_X0_pay_74 {G : zG} {o : cO} {u g H T N : Nat} {S : cS} {S0 : cS} {Q : Option Value → cS → Prop} {X : Int32 × cS → Prop} (hG : zOK G) (hR : ∀ v S', St u g H T S' → Mono S0 S' → X (v, S') → Q (some (.int v)) S') (hS : St u g H T S) (hM : Mono S0 S) (ok : KO_X0_pay_74 N g H T S) (hx : X (KF_X0_pay_74 N g H T S)) : cX G o dX0_pay mX0_pay 74 [none, none, none, none, none, none, none, none, none] [] S Q := by
  unfold KO_X0_pay_74 at ok
  unfold KF_X0_pay_74 at hx
  refine c_iconst (v := nI 0) dX0_pay_74 (by decide) ?_
  exact c_ireturn rfl rfl dX0_pay_75 (hR _ _ hS hM hx)
def KF_X0_pay_0 (N g H T : Nat) (x0 : Nat) (x1 : Int64) (x3 : Int32) (S : cS) : Int32 × cS := (if (nI 16) ≤ ((Int64.toInt32 (x1 >>> (Int32.toInt64 (nI 48) &&& 63))) &&& (nI 255)) then (KF_X0_pay_74 N g H T S) else (if (nI 16) ≤ ((Int64.toInt32 (x1 >>> (Int32.toInt64 (nI 40) &&& 63))) &&& (nI 255)) then (KF_X0_pay_74 N g H T S) else (if x3 < 0 then (KF_X0_pay_74 N g H T S) else (if x3 < (nI 16) then (if ((Int64.toInt32 (x1 >>> (Int32.toInt64 (nI 8) &&& 63))) &&& (65535 : Int32)) = (cA S (x0 + 2) ((Int64.toInt32 (x1 >>> (Int32.toInt64 (nI 48) &&& 63))) &&& (nI 255)).toNatClampNeg) then (if (((Int64.toInt32 (x1 >>> (Int32.toInt64 (nI 24) &&& 63))) &&& (65535 : Int32)) + ((Int64.toInt32 x1) &&& (nI 255))) ≤ (cA S (x0 + 1) ((Int64.toInt32 (x1 >>> (Int32.toInt64 (nI 48) &&& 63))) &&& (nI 255)).toNatClampNeg) then (KF_X0_pay_116 N g H T x0 x3 ((Int64.toInt32 (x1 >>> (Int32.toInt64 (nI 48) &&& 63))) &&& (nI 255)) ((Int64.toInt32 (x1 >>> (Int32.toInt64 (nI 40) &&& 63))) &&& (nI 255)) ((Int64.toInt32 (x1 >>> (Int32.toInt64 (nI 24) &&& 63))) &&& (65535 : Int32)) ((Int64.toInt32 x1) &&& (nI 255)) (csA S (x0 + 2) ((Int64.toInt32 (x1 >>> (Int32.toInt64 (nI 48) &&& 63))) &&& (nI 255)).toNatClampNeg ((cA S (x0 + 2) ((Int64.toInt32 (x1 >>> (Int32.toInt64 (nI 48) &&& 63))) &&& (nI 255)).toNatClampNeg) + (nI 1)))) else (KF_X0_pay_103 N g H T S)) else (KF_X0_pay_103 N g H T S)) else (KF_X0_pay_74 N g H T S)))))
def KO_X0_pay_0 (N g H T : Nat) (x0 : Nat) (x1 : Int64) (x3 : Int32) (S : cS) : Prop := (((nI 16) ≤ ((Int64.toInt32 (x1 >>> (Int32.toInt64 (nI 48) &&& 63))) &&& (nI 255)) → KO_X0_pay_74 N g H T S) ∧ (¬ (nI 16) ≤ ((Int64.toInt32 (x1 >>> (Int32.toInt64 (nI 48) &&& 63))) &&& (nI 255)) → (((nI 16) ≤ ((Int64.toInt32 (x1 >>> (Int32.toInt64 (nI 40) &&& 63))) &&& (nI 255)) → KO_X0_pay_74 N g H T S) ∧ (¬ (nI 16) ≤ ((Int64.toInt32 (x1 >>> (Int32.toInt64 (nI 40) &&& 63))) &&& (nI 255)) → ((x3 < 0 → KO_X0_pay_74 N g H T S) ∧ (¬ x3 < 0 → ((x3 < (nI 16) → (vp_in ((Int64.toInt32 (x1 >>> (Int32.toInt64 (nI 48) &&& 63))) &&& (nI 255)) 16) ∧ ((((Int64.toInt32 (x1 >>> (Int32.toInt64 (nI 8) &&& 63))) &&& (65535 : Int32)) = (cA S (x0 + 2) ((Int64.toInt32 (x1 >>> (Int32.toInt64 (nI 48) &&& 63))) &&& (nI 255)).toNatClampNeg) → (vp_in ((Int64.toInt32 (x1 >>> (Int32.toInt64 (nI 48) &&& 63))) &&& (nI 255)) 16) ∧ (((((Int64.toInt32 (x1 >>> (Int32.toInt64 (nI 24) &&& 63))) &&& (65535 : Int32)) + ((Int64.toInt32 x1) &&& (nI 255))) ≤ (cA S (x0 + 1) ((Int64.toInt32 (x1 >>> (Int32.toInt64 (nI 48) &&& 63))) &&& (nI 255)).toNatClampNeg) → (vp_in ((Int64.toInt32 (x1 >>> (Int32.toInt64 (nI 48) &&& 63))) &&& (nI 255)) 16) ∧ (vp_in ((Int64.toInt32 (x1 >>> (Int32.toInt64 (nI 48) &&& 63))) &&& (nI 255)) 16) ∧ KO_X0_pay_116 N g H T x0 x3 ((Int64.toInt32 (x1 >>> (Int32.toInt64 (nI 48) &&& 63))) &&& (nI 255)) ((Int64.toInt32 (x1 >>> (Int32.toInt64 (nI 40) &&& 63))) &&& (nI 255)) ((Int64.toInt32 (x1 >>> (Int32.toInt64 (nI 24) &&& 63))) &&& (65535 : Int32)) ((Int64.toInt32 x1) &&& (nI 255)) (csA S (x0 + 2) ((Int64.toInt32 (x1 >>> (Int32.toInt64 (nI 48) &&& 63))) &&& (nI 255)).toNatClampNeg ((cA S (x0 + 2) ((Int64.toInt32 (x1 >>> (Int32.toInt64 (nI 48) &&& 63))) &&& (nI 255)).toNatClampNeg) + (nI 1)))) ∧ (¬ (((Int64.toInt32 (x1 >>> (Int32.toInt64 (nI 24) &&& 63))) &&& (65535 : Int32)) + ((Int64.toInt32 x1) &&& (nI 255))) ≤ (cA S (x0 + 1) ((Int64.toInt32 (x1 >>> (Int32.toInt64 (nI 48) &&& 63))) &&& (nI 255)).toNatClampNeg) → KO_X0_pay_103 N g H T S))) ∧ (¬ ((Int64.toInt32 (x1 >>> (Int32.toInt64 (nI 8) &&& 63))) &&& (65535 : Int32)) = (cA S (x0 + 2) ((Int64.toInt32 (x1 >>> (Int32.toInt64 (nI 48) &&& 63))) &&& (nI 255)).toNatClampNeg) → KO_X0_pay_103 N g H T S))) ∧ (¬ x3 < (nI 16) → KO_X0_pay_74 N g H T S))))))))
set_option maxRecDepth 100000 in
set_option maxHeartbeats 4000000 in
theorem kb_X0_pay_0 {G : zG} {o : cO} {u g H T N : Nat} {S : cS} {S0 : cS} {Q : Option Value → cS → Prop} {X : Int32 × cS → Prop} (hG : zOK G) (hR : ∀ v S', St u g H T S' → Mono S0 S' → X (v, S') → Q (some (.int v)) S') {x0 : Nat} {x1 : Int64} {x3 : Int32} (hS : St u g H T S) (hM : Mono S0 S) (t_x0 : isO g H 0 x0) (ok : KO_X0_pay_0 N g H T x0 x1 x3 S) (hx : X (KF_X0_pay_0 N g H T x0 x1 x3 S)) : cX G o dX0_pay mX0_pay 0 [some (va_rf (some x0)), some (.long x1), none, some (.int x3), none, none, none, none, none] [] S Q := by
  unfold KO_X0_pay_0 at ok
  unfold KF_X0_pay_0 at hx
  refine c_lload_n dX0_pay_0 rfl rfl ?_
  refine c_bipush (v := nI 48) dX0_pay_1 (by decide) ?_
  refine c_lshr dX0_pay_3 ?_
  refine c_l2i dX0_pay_4 ?_
  refine c_sipush (v := nI 255) dX0_pay_5 (by decide) ?_
  refine c_iand dX0_pay_8 ?_
  refine c_istore_4 dX0_pay_9 (by decide) rfl ?_
  refine c_lload_n dX0_pay_11 rfl rfl ?_
  refine c_bipush (v := nI 40) dX0_pay_12 (by decide) ?_
  refine c_lshr dX0_pay_14 ?_
  refine c_l2i dX0_pay_15 ?_
  refine c_sipush (v := nI 255) dX0_pay_16 (by decide) ?_
  refine c_iand dX0_pay_19 ?_
  refine c_istore_5 dX0_pay_20 (by decide) rfl ?_
  refine c_lload_n dX0_pay_22 rfl rfl ?_
  refine c_bipush (v := nI 24) dX0_pay_23 (by decide) ?_
  refine c_lshr dX0_pay_25 ?_
  refine c_l2i dX0_pay_26 ?_
  refine c_ldc dX0_pay_27 nX0_45 ?_
  refine c_iand dX0_pay_29 ?_
  refine c_istore_6 dX0_pay_30 (by decide) rfl ?_
  refine c_lload_n dX0_pay_32 rfl rfl ?_
  refine c_bipush (v := nI 8) dX0_pay_33 (by decide) ?_
  refine c_lshr dX0_pay_35 ?_
  refine c_l2i dX0_pay_36 ?_
  refine c_ldc dX0_pay_37 nX0_45 ?_
  refine c_iand dX0_pay_39 ?_
  refine c_istore_7 dX0_pay_40 (by decide) rfl ?_
  refine c_lload_n dX0_pay_42 rfl rfl ?_
  refine c_l2i dX0_pay_43 ?_
  refine c_sipush (v := nI 255) dX0_pay_44 (by decide) ?_
  refine c_iand dX0_pay_47 ?_
  refine c_istore_8 dX0_pay_48 (by decide) rfl ?_
  refine c_iload dX0_pay_50 rfl ?_
  refine c_bipush (v := nI 16) dX0_pay_52 (by decide) ?_
  refine c_icmp_ge (tgt := 74) dX0_pay_54 (by decide) (fun c_54 => ?_) (fun c_54 => ?_)
  · have ok := ok.1 c_54
    have hx := xif_p c_54 hx
    exact cX.cutz (kb_X0_pay_74 hG hR hS hM  ok hx) trivial
  · have ok := ok.2 c_54
    have hx := xif_n c_54 hx
    refine c_iload dX0_pay_57 rfl ?_
    refine c_bipush (v := nI 16) dX0_pay_59 (by decide) ?_
    refine c_icmp_ge (tgt := 74) dX0_pay_61 (by decide) (fun c_61 => ?_) (fun c_61 => ?_)
    · have ok := ok.1 c_61
      have hx := xif_p c_61 hx
      exact cX.cutz (kb_X0_pay_74 hG hR hS hM  ok hx) trivial
    · have ok := ok.2 c_61
      have hx := xif_n c_61 hx
      refine c_iload_n dX0_pay_64 rfl rfl ?_
      refine c_if_lt (tgt := 74) dX0_pay_65 (by decide) (fun c_65 => ?_) (fun c_65 => ?_)
      · have ok := ok.1 c_65
        have hx := xif_p c_65 hx
        exact cX.cutz (kb_X0_pay_74 hG hR hS hM  ok hx) trivial
      · have ok := ok.2 c_65
        have hx := xif_n c_65 hx
        refine c_iload_n dX0_pay_68 rfl rfl ?_
        refine c_bipush (v := nI 16) dX0_pay_69 (by decide) ?_
        refine c_icmp_lt (tgt := 76) dX0_pay_71 (by decide) (fun c_71 => ?_) (fun c_71 => ?_)
        · have ok := ok.1 c_71
          have hx := xif_p c_71 hx
          refine c_iload dX0_pay_76 rfl ?_
          refine c_aload_nQ dX0_pay_78 rfl rfl ?_
          refine c_getS (C := RX0) (T := TX0) (N := 6) (ci := 0) (k := 1) ⟨rfl, inT0, by decide, fX0_15⟩ (by decide) (by decide) (by decide) dX0_pay_79 (hS.k t_x0) (hS.r (c := 0) t_x0 rfl (by omega)) ?_
          refine c_iload dX0_pay_82 rfl ?_
          refine c_iald dX0_pay_84 ⟨(tK.cis (hS.rk (c := 0) (k := 1) t_x0 rfl (by omega)) (Option.some_ne_none _)), (vk_cast (hS.rl (c := 0) (k := 1) t_x0 rfl (by decide) (by omega)) ok.1)⟩ ?_
          have ok := ok.2
          refine c_icmp_ne (tgt := 103) dX0_pay_85 (by decide) (fun c_85 => ?_) (fun c_85 => ?_)
          · have ok := ok.2 c_85
            have hx := xif_n c_85 hx
            exact cX.cutz (kb_X0_pay_103 hG hR hS hM  ok hx) trivial
          · have ok := ok.1 c_85
            have hx := xif_p c_85 hx
            refine c_aload_nQ dX0_pay_88 rfl rfl ?_
            refine c_getS (C := RX0) (T := TX0) (N := 6) (ci := 0) (k := 0) ⟨rfl, inT0, by decide, fX0_9⟩ (by decide) (by decide) (by decide) dX0_pay_89 (hS.k t_x0) (hS.r (c := 0) t_x0 rfl (by omega)) ?_
            refine c_iload dX0_pay_92 rfl ?_
            refine c_iald dX0_pay_94 ⟨(tK.cis (hS.rk (c := 0) (k := 0) t_x0 rfl (by omega)) (Option.some_ne_none _)), (vk_cast (hS.rl (c := 0) (k := 0) t_x0 rfl (by decide) (by omega)) ok.1)⟩ ?_
            have ok := ok.2
            refine c_iload dX0_pay_95 rfl ?_
            refine c_iload dX0_pay_97 rfl ?_
            refine c_iadd dX0_pay_99 ?_
            refine c_icmp_ge (tgt := 105) dX0_pay_100 (by decide) (fun c_100 => ?_) (fun c_100 => ?_)
            · have ok := ok.1 c_100
              have hx := xif_p c_100 hx
              refine c_aload_nQ dX0_pay_105 rfl rfl ?_
              refine c_getS (C := RX0) (T := TX0) (N := 6) (ci := 0) (k := 1) ⟨rfl, inT0, by decide, fX0_15⟩ (by decide) (by decide) (by decide) dX0_pay_106 (hS.k t_x0) (hS.r (c := 0) t_x0 rfl (by omega)) ?_
              refine c_iload dX0_pay_109 rfl ?_
              refine c_dup2 dX0_pay_111 rfl (zcat_rf _) ?_
              refine c_iald dX0_pay_112 ⟨(tK.cis (hS.rk (c := 0) (k := 1) t_x0 rfl (by omega)) (Option.some_ne_none _)), (vk_cast (hS.rl (c := 0) (k := 1) t_x0 rfl (by decide) (by omega)) ok.1)⟩ ?_
              have ok := ok.2
              refine c_iconst (v := nI 1) dX0_pay_113 (by decide) ?_
              refine c_iadd dX0_pay_114 ?_
              have tq_115 : tK S 21 (some (x0 + 2)) := tK_some (tK.cis (hS.rk (c := 0) (k := 1) t_x0 rfl (by omega)) (Option.some_ne_none _)).2
              refine c_iast hG dX0_pay_115 ⟨(tK.cis (hS.rk (c := 0) (k := 1) t_x0 rfl (by omega)) (Option.some_ne_none _)), (vk_cast (hS.rl (c := 0) (k := 1) t_x0 rfl (by decide) (by omega)) ok.1)⟩ ?_
              have hS := hS.Aw (k := 21) (x0 + 2) ((Int64.toInt32 (x1 >>> (Int32.toInt64 (nI 48) &&& 63))) &&& (nI 255)).toNatClampNeg ((cA S (x0 + 2) ((Int64.toInt32 (x1 >>> (Int32.toInt64 (nI 48) &&& 63))) &&& (nI 255)).toNatClampNeg) + (nI 1)) tq_115 (by decide)
              have hM := hM.A (x0 + 2) ((Int64.toInt32 (x1 >>> (Int32.toInt64 (nI 48) &&& 63))) &&& (nI 255)).toNatClampNeg ((cA S (x0 + 2) ((Int64.toInt32 (x1 >>> (Int32.toInt64 (nI 48) &&& 63))) &&& (nI 255)).toNatClampNeg) + (nI 1))
              have ok := ok.2
              exact cX.cutz (kb_X0_pay_116 hG hR hS hM t_x0 ok hx) ⟨rfl, rfl, rfl, rfl, rfl, rfl, trivial⟩
            · have ok := ok.2 c_100
              have hx := xif_n c_100 hx
              exact cX.cutz (kb_X0_pay_103 hG hR hS hM  ok hx) trivial
        · have ok := ok.2 c_71
          have hx := xif_n c_71 hx
          exact cX.cutz (kb_X0_pay_74 hG hR hS hM  ok hx) trivial
def k_X0_pay (N g H T : Nat) (S : cS) (a0 : Nat) (x1 : Int64) (x3 : Int32) : Int32 × cS := KF_X0_pay_0 N g H T a0 x1 x3 S
def p_X0_pay (N g H T : Nat) (S : cS) (a0 : Nat) (x1 : Int64) (x3 : Int32) : Prop := KO_X0_pay_0 N g H T a0 x1 x3 S
set_option maxRecDepth 100000 in
set_option maxHeartbeats 4000000 in
theorem kc_X0_pay {G : zG} {o : cO} {u g H T N : Nat} {S : cS} (hG : zOK G) {a0 : Nat} {x1 : Int64} {x3 : Int32} (hS : St u g H T S) (t_x0 : isO g H 0 a0) (ok : p_X0_pay N g H T S a0 x1 x3) : cCi G o dX0_pay mX0_pay [.ref a0, .long x1, .int x3] S (fun v S' => (v = (k_X0_pay N g H T S a0 x1 x3).1 ∧ S' = (k_X0_pay N g H T S a0 x1 x3).2) ∧ St u g H T S' ∧ Mono S S') := by
  refine cC.ofX rfl (by exact Nat.le_of_ble_eq_true rfl) ?_
  show cX G o dX0_pay mX0_pay 0 [some (va_rf (some a0)), some (.long x1), none, some (.int x3), none, none, none, none, none] [] S _
  exact cX.cutz (kb_X0_pay_0 (X := fun F => F = k_X0_pay N g H T S a0 x1 x3) hG (fun v S' h1 h2 h => ⟨v, rfl, ⟨by rw [← h], by rw [← h]⟩, h1, h2⟩) hS Mono.rfl' t_x0 ok rfl) ⟨rfl, rfl, rfl, trivial⟩
/-! X1_evidenceSize -/
def KF_X1_evidenceSize_91 (N g H T : Nat) (s0 : Int32) (S : cS) : Int32 := s0
def KO_X1_evidenceSize_91 (N g H T : Nat) (s0 : Int32) (S : cS) : Prop := True
set_option maxRecDepth 100000 in
set_option maxHeartbeats 4000000 in
theorem kb_X1_evidenceSize_91 {G : zG} {o : cO} {u g H T N : Nat} {S : cS} {Q : Option Value → cS → Prop} {X : Int32 → Prop} (hG : zOK G) (hR : ∀ v, X v → Q (some (.int v)) S) {s0 : Int32} (hS : St u g H T S) (ok : KO_X1_evidenceSize_91 N g H T s0 S) (hx : X (KF_X1_evidenceSize_91 N g H T s0 S)) : cX G o dX1_evidenceSize mX1_evidenceSize 91 [none, none, none, none] [.int s0] S Q := by
  unfold KO_X1_evidenceSize_91 at ok
  unfold KF_X1_evidenceSize_91 at hx
  exact c_ireturn rfl rfl dX1_evidenceSize_91 (hR _ hx)
def KF_X1_evidenceSize_80 (N g H T : Nat) (s0 : Int32) (S : cS) : Int32 := (if s0 = 0 then (KF_X1_evidenceSize_91 N g H T (-1) S) else (KF_X1_evidenceSize_91 N g H T (nI 71) S))
def KO_X1_evidenceSize_80 (N g H T : Nat) (s0 : Int32) (S : cS) : Prop := ((s0 = 0 → KO_X1_evidenceSize_91 N g H T (-1) S) ∧ (¬ s0 = 0 → KO_X1_evidenceSize_91 N g H T (nI 71) S))
set_option maxRecDepth 100000 in
set_option maxHeartbeats 4000000 in
theorem kb_X1_evidenceSize_80 {G : zG} {o : cO} {u g H T N : Nat} {S : cS} {Q : Option Value → cS → Prop} {X : Int32 → Prop} (hG : zOK G) (hR : ∀ v, X v → Q (some (.int v)) S) {s0 : Int32} (hS : St u g H T S) (ok : KO_X1_evidenceSize_80 N g H T s0 S) (hx : X (KF_X1_evidenceSize_80 N g H T s0 S)) : cX G o dX1_evidenceSize mX1_evidenceSize 80 [none, none, none, none] [.int s0] S Q := by
  unfold KO_X1_evidenceSize_80 at ok
  unfold KF_X1_evidenceSize_80 at hx
  refine c_istore_3 dX1_evidenceSize_80 (by decide) rfl ?_
  refine c_iload_n dX1_evidenceSize_81 rfl rfl ?_
  refine c_if_eq (tgt := 90) dX1_evidenceSize_82 (by decide) (fun c_82 => ?_) (fun c_82 => ?_)
  · have ok := ok.1 c_82
    have hx := xif_p c_82 hx
    refine c_iconst (v := -1) dX1_evidenceSize_90 (by decide) ?_
    exact cX.cutz (kb_X1_evidenceSize_91 hG hR hS  ok hx) trivial
  · have ok := ok.2 c_82
    have hx := xif_n c_82 hx
    refine c_bipush (v := nI 71) dX1_evidenceSize_85 (by decide) ?_
    refine c_goto (tgt := 91) dX1_evidenceSize_87 (by decide) ?_
    exact cX.cutz (kb_X1_evidenceSize_91 hG hR hS  ok hx) trivial
def KF_X1_evidenceSize_79 (N g H T : Nat)  (S : cS) : Int32 := (KF_X1_evidenceSize_80 N g H T (nI 0) S)
def KO_X1_evidenceSize_79 (N g H T : Nat)  (S : cS) : Prop := KO_X1_evidenceSize_80 N g H T (nI 0) S
set_option maxRecDepth 100000 in
set_option maxHeartbeats 4000000 in
theorem kb_X1_evidenceSize_79 {G : zG} {o : cO} {u g H T N : Nat} {S : cS} {Q : Option Value → cS → Prop} {X : Int32 → Prop} (hG : zOK G) (hR : ∀ v, X v → Q (some (.int v)) S) (hS : St u g H T S) (ok : KO_X1_evidenceSize_79 N g H T S) (hx : X (KF_X1_evidenceSize_79 N g H T S)) : cX G o dX1_evidenceSize mX1_evidenceSize 79 [none, none, none, none] [] S Q := by
  unfold KO_X1_evidenceSize_79 at ok
  unfold KF_X1_evidenceSize_79 at hx
  refine c_iconst (v := nI 0) dX1_evidenceSize_79 (by decide) ?_
  exact cX.cutz (kb_X1_evidenceSize_80 hG hR hS  ok hx) trivial
def KF_X1_evidenceSize_44 (N g H T : Nat) (s0 : Int32) (S : cS) : Int32 := s0
def KO_X1_evidenceSize_44 (N g H T : Nat) (s0 : Int32) (S : cS) : Prop := True
set_option maxRecDepth 100000 in
set_option maxHeartbeats 4000000 in
theorem kb_X1_evidenceSize_44 {G : zG} {o : cO} {u g H T N : Nat} {S : cS} {Q : Option Value → cS → Prop} {X : Int32 → Prop} (hG : zOK G) (hR : ∀ v, X v → Q (some (.int v)) S) {s0 : Int32} (hS : St u g H T S) (ok : KO_X1_evidenceSize_44 N g H T s0 S) (hx : X (KF_X1_evidenceSize_44 N g H T s0 S)) : cX G o dX1_evidenceSize mX1_evidenceSize 44 [none, none, none, none] [.int s0] S Q := by
  unfold KO_X1_evidenceSize_44 at ok
  unfold KF_X1_evidenceSize_44 at hx
  exact c_ireturn rfl rfl dX1_evidenceSize_44 (hR _ hx)
def KF_X1_evidenceSize_18 (N g H T : Nat)  (S : cS) : Int32 := (-1)
def KO_X1_evidenceSize_18 (N g H T : Nat)  (S : cS) : Prop := True
set_option maxRecDepth 100000 in
set_option maxHeartbeats 4000000 in
theorem kb_X1_evidenceSize_18 {G : zG} {o : cO} {u g H T N : Nat} {S : cS} {Q : Option Value → cS → Prop} {X : Int32 → Prop} (hG : zOK G) (hR : ∀ v, X v → Q (some (.int v)) S) (hS : St u g H T S) (ok : KO_X1_evidenceSize_18 N g H T S) (hx : X (KF_X1_evidenceSize_18 N g H T S)) : cX G o dX1_evidenceSize mX1_evidenceSize 18 [none, none, none, none] [] S Q := by
  unfold KO_X1_evidenceSize_18 at ok
  unfold KF_X1_evidenceSize_18 at hx
  refine c_iconst (v := -1) dX1_evidenceSize_18 (by decide) ?_
  exact c_ireturn rfl rfl dX1_evidenceSize_19 (hR _ hx)
def KF_X1_evidenceSize_0 (N g H T : Nat) (x0 : Option Nat) (x1 : Int32) (x2 : Int32) (S : cS) : Int32 := (if x1 < 0 then (KF_X1_evidenceSize_18 N g H T S) else (if (nI (cL S (za x0))) < x2 then (KF_X1_evidenceSize_18 N g H T S) else (if (nI 39) ≤ (x2 - x1) then (if (cA S (za x0) (x1 + (nI 5)).toNatClampNeg) = 0 then (if (cA S (za x0) (x1 + (nI 6)).toNatClampNeg) = (nI 1) then (KF_X1_evidenceSize_44 N g H T (nI 39) S) else (KF_X1_evidenceSize_44 N g H T (-1) S)) else (if (cA S (za x0) (x1 + (nI 5)).toNatClampNeg) = (nI 1) then (if (x2 - x1) < (nI 71) then (KF_X1_evidenceSize_79 N g H T S) else (if (cA S (za x0) ((x1 + (nI 6)) + (nI 32)).toNatClampNeg) = (nI 1) then (KF_X1_evidenceSize_80 N g H T (nI 1) S) else (KF_X1_evidenceSize_79 N g H T S))) else (KF_X1_evidenceSize_79 N g H T S))) else (KF_X1_evidenceSize_18 N g H T S))))
def KO_X1_evidenceSize_0 (N g H T : Nat) (x0 : Option Nat) (x1 : Int32) (x2 : Int32) (S : cS) : Prop := ((x1 < 0 → KO_X1_evidenceSize_18 N g H T S) ∧ (¬ x1 < 0 → (¬ x0 = none) ∧ (((nI (cL S (za x0))) < x2 → KO_X1_evidenceSize_18 N g H T S) ∧ (¬ (nI (cL S (za x0))) < x2 → (((nI 39) ≤ (x2 - x1) → (¬ x0 = none ∧ vp_in (x1 + (nI 5)) (cL S (za x0))) ∧ (((cA S (za x0) (x1 + (nI 5)).toNatClampNeg) = 0 → (¬ x0 = none ∧ vp_in (x1 + (nI 6)) (cL S (za x0))) ∧ (((cA S (za x0) (x1 + (nI 6)).toNatClampNeg) = (nI 1) → KO_X1_evidenceSize_44 N g H T (nI 39) S) ∧ (¬ (cA S (za x0) (x1 + (nI 6)).toNatClampNeg) = (nI 1) → KO_X1_evidenceSize_44 N g H T (-1) S))) ∧ (¬ (cA S (za x0) (x1 + (nI 5)).toNatClampNeg) = 0 → (¬ x0 = none ∧ vp_in (x1 + (nI 5)) (cL S (za x0))) ∧ (((cA S (za x0) (x1 + (nI 5)).toNatClampNeg) = (nI 1) → (((x2 - x1) < (nI 71) → KO_X1_evidenceSize_79 N g H T S) ∧ (¬ (x2 - x1) < (nI 71) → (¬ x0 = none ∧ vp_in ((x1 + (nI 6)) + (nI 32)) (cL S (za x0))) ∧ (((cA S (za x0) ((x1 + (nI 6)) + (nI 32)).toNatClampNeg) = (nI 1) → KO_X1_evidenceSize_80 N g H T (nI 1) S) ∧ (¬ (cA S (za x0) ((x1 + (nI 6)) + (nI 32)).toNatClampNeg) = (nI 1) → KO_X1_evidenceSize_79 N g H T S))))) ∧ (¬ (cA S (za x0) (x1 + (nI 5)).toNatClampNeg) = (nI 1) → KO_X1_evidenceSize_79 N g H T S))))) ∧ (¬ (nI 39) ≤ (x2 - x1) → KO_X1_evidenceSize_18 N g H T S))))))
set_option maxRecDepth 100000 in
set_option maxHeartbeats 4000000 in
theorem kb_X1_evidenceSize_0 {G : zG} {o : cO} {u g H T N : Nat} {S : cS} {Q : Option Value → cS → Prop} {X : Int32 → Prop} (hG : zOK G) (hR : ∀ v, X v → Q (some (.int v)) S) {x0 : Option Nat} {x1 : Int32} {x2 : Int32} (hS : St u g H T S) (t_x0 : tK S 20 x0) (ok : KO_X1_evidenceSize_0 N g H T x0 x1 x2 S) (hx : X (KF_X1_evidenceSize_0 N g H T x0 x1 x2 S)) : cX G o dX1_evidenceSize mX1_evidenceSize 0 [some (va_rf x0), some (.int x1), some (.int x2), none] [] S Q := by
  unfold KO_X1_evidenceSize_0 at ok
  unfold KF_X1_evidenceSize_0 at hx
  refine c_iload_n dX1_evidenceSize_0 rfl rfl ?_
  refine c_if_lt (tgt := 18) dX1_evidenceSize_1 (by decide) (fun c_1 => ?_) (fun c_1 => ?_)
  · have ok := ok.1 c_1
    have hx := xif_p c_1 hx
    exact cX.cutz (kb_X1_evidenceSize_18 hG hR hS  ok hx) trivial
  · have ok := ok.2 c_1
    have hx := xif_n c_1 hx
    refine c_iload_n dX1_evidenceSize_4 rfl rfl ?_
    refine c_aload_nQ dX1_evidenceSize_5 rfl rfl ?_
    refine c_alenS (t := 0) (ty := .byte) rfl dX1_evidenceSize_6 (tK.cis t_x0 ok.1) rfl ?_
    have ok := ok.2
    refine c_icmp_gt (tgt := 18) dX1_evidenceSize_7 (by decide) (fun c_7 => ?_) (fun c_7 => ?_)
    · have ok := ok.1 c_7
      have hx := xif_p c_7 hx
      exact cX.cutz (kb_X1_evidenceSize_18 hG hR hS  ok hx) trivial
    · have ok := ok.2 c_7
      have hx := xif_n c_7 hx
      refine c_iload_n dX1_evidenceSize_10 rfl rfl ?_
      refine c_iload_n dX1_evidenceSize_11 rfl rfl ?_
      refine c_isub dX1_evidenceSize_12 ?_
      refine c_bipush (v := nI 39) dX1_evidenceSize_13 (by decide) ?_
      refine c_icmp_ge (tgt := 20) dX1_evidenceSize_15 (by decide) (fun c_15 => ?_) (fun c_15 => ?_)
      · have ok := ok.1 c_15
        have hx := xif_p c_15 hx
        refine c_aload_nQ dX1_evidenceSize_20 rfl rfl ?_
        refine c_iload_n dX1_evidenceSize_21 rfl rfl ?_
        refine c_iconst (v := nI 5) dX1_evidenceSize_22 (by decide) ?_
        refine c_iadd dX1_evidenceSize_23 ?_
        refine c_bald dX1_evidenceSize_24 ⟨(tK.cis t_x0 ok.1.1), ok.1.2⟩ ?_
        have ok := ok.2
        refine c_if_ne (tgt := 45) dX1_evidenceSize_25 (by decide) (fun c_25 => ?_) (fun c_25 => ?_)
        · have ok := ok.2 c_25
          have hx := xif_n c_25 hx
          refine c_aload_nQ dX1_evidenceSize_45 rfl rfl ?_
          refine c_iload_n dX1_evidenceSize_46 rfl rfl ?_
          refine c_iconst (v := nI 5) dX1_evidenceSize_47 (by decide) ?_
          refine c_iadd dX1_evidenceSize_48 ?_
          refine c_bald dX1_evidenceSize_49 ⟨(tK.cis t_x0 ok.1.1), ok.1.2⟩ ?_
          have ok := ok.2
          refine c_iconst (v := nI 1) dX1_evidenceSize_50 (by decide) ?_
          refine c_icmp_ne (tgt := 79) dX1_evidenceSize_51 (by decide) (fun c_51 => ?_) (fun c_51 => ?_)
          · have ok := ok.2 c_51
            have hx := xif_n c_51 hx
            exact cX.cutz (kb_X1_evidenceSize_79 hG hR hS  ok hx) trivial
          · have ok := ok.1 c_51
            have hx := xif_p c_51 hx
            refine c_iload_n dX1_evidenceSize_54 rfl rfl ?_
            refine c_iload_n dX1_evidenceSize_55 rfl rfl ?_
            refine c_isub dX1_evidenceSize_56 ?_
            refine c_bipush (v := nI 71) dX1_evidenceSize_57 (by decide) ?_
            refine c_icmp_lt (tgt := 79) dX1_evidenceSize_59 (by decide) (fun c_59 => ?_) (fun c_59 => ?_)
            · have ok := ok.1 c_59
              have hx := xif_p c_59 hx
              exact cX.cutz (kb_X1_evidenceSize_79 hG hR hS  ok hx) trivial
            · have ok := ok.2 c_59
              have hx := xif_n c_59 hx
              refine c_aload_nQ dX1_evidenceSize_62 rfl rfl ?_
              refine c_iload_n dX1_evidenceSize_63 rfl rfl ?_
              refine c_bipush (v := nI 6) dX1_evidenceSize_64 (by decide) ?_
              refine c_iadd dX1_evidenceSize_66 ?_
              refine c_bipush (v := nI 32) dX1_evidenceSize_67 (by decide) ?_
              refine c_iadd dX1_evidenceSize_69 ?_
              refine c_bald dX1_evidenceSize_70 ⟨(tK.cis t_x0 ok.1.1), ok.1.2⟩ ?_
              have ok := ok.2
              refine c_iconst (v := nI 1) dX1_evidenceSize_71 (by decide) ?_
              refine c_icmp_ne (tgt := 79) dX1_evidenceSize_72 (by decide) (fun c_72 => ?_) (fun c_72 => ?_)
              · have ok := ok.2 c_72
                have hx := xif_n c_72 hx
                exact cX.cutz (kb_X1_evidenceSize_79 hG hR hS  ok hx) trivial
              · have ok := ok.1 c_72
                have hx := xif_p c_72 hx
                refine c_iconst (v := nI 1) dX1_evidenceSize_75 (by decide) ?_
                refine c_goto (tgt := 80) dX1_evidenceSize_76 (by decide) ?_
                exact cX.cutz (kb_X1_evidenceSize_80 hG hR hS  ok hx) trivial
        · have ok := ok.1 c_25
          have hx := xif_p c_25 hx
          refine c_aload_nQ dX1_evidenceSize_28 rfl rfl ?_
          refine c_iload_n dX1_evidenceSize_29 rfl rfl ?_
          refine c_bipush (v := nI 6) dX1_evidenceSize_30 (by decide) ?_
          refine c_iadd dX1_evidenceSize_32 ?_
          refine c_bald dX1_evidenceSize_33 ⟨(tK.cis t_x0 ok.1.1), ok.1.2⟩ ?_
          have ok := ok.2
          refine c_iconst (v := nI 1) dX1_evidenceSize_34 (by decide) ?_
          refine c_icmp_ne (tgt := 43) dX1_evidenceSize_35 (by decide) (fun c_35 => ?_) (fun c_35 => ?_)
          · have ok := ok.2 c_35
            have hx := xif_n c_35 hx
            refine c_iconst (v := -1) dX1_evidenceSize_43 (by decide) ?_
            exact cX.cutz (kb_X1_evidenceSize_44 hG hR hS  ok hx) trivial
          · have ok := ok.1 c_35
            have hx := xif_p c_35 hx
            refine c_bipush (v := nI 39) dX1_evidenceSize_38 (by decide) ?_
            refine c_goto (tgt := 44) dX1_evidenceSize_40 (by decide) ?_
            exact cX.cutz (kb_X1_evidenceSize_44 hG hR hS  ok hx) trivial
      · have ok := ok.2 c_15
        have hx := xif_n c_15 hx
        exact cX.cutz (kb_X1_evidenceSize_18 hG hR hS  ok hx) trivial
def k_X1_evidenceSize (N g H T : Nat) (S : cS) (x0 : Option Nat) (x1 : Int32) (x2 : Int32) : Int32 := KF_X1_evidenceSize_0 N g H T x0 x1 x2 S
def p_X1_evidenceSize (N g H T : Nat) (S : cS) (x0 : Option Nat) (x1 : Int32) (x2 : Int32) : Prop := KO_X1_evidenceSize_0 N g H T x0 x1 x2 S
set_option maxRecDepth 100000 in
set_option maxHeartbeats 4000000 in
theorem kc_X1_evidenceSize {G : zG} {o : cO} {u g H T N : Nat} {S : cS} (hG : zOK G) {x0 : Option Nat} {x1 : Int32} {x2 : Int32} (hS : St u g H T S) (t_x0 : tK S 20 x0) (ok : p_X1_evidenceSize N g H T S x0 x1 x2) : cCi G o dX1_evidenceSize mX1_evidenceSize [va_rf x0, .int x1, .int x2] S (fun v S' => (v = k_X1_evidenceSize N g H T S x0 x1 x2 ∧ S' = S)) := by
  refine cC.ofX rfl (by cases x0 <;> exact Nat.le_of_ble_eq_true rfl) ?_
  rw [show zargs mX1_evidenceSize.2.2.1 [va_rf x0, .int x1, .int x2] = [some (va_rf x0), some (.int x1), some (.int x2), none] from by cases x0 <;> rfl]
  exact cX.cutz (kb_X1_evidenceSize_0 (X := fun F => F = k_X1_evidenceSize N g H T S x0 x1 x2) hG (fun v h => ⟨v, rfl, h, rfl⟩) hS t_x0 ok rfl) ⟨rfl, rfl, rfl, trivial⟩
/-! X0_codeAt -/
def KF_X0_codeAt_47 (N g H T : Nat) (x2 : Int64) (S : cS) : Int64 := x2
def KO_X0_codeAt_47 (N g H T : Nat) (x2 : Int64) (S : cS) : Prop := True
set_option maxRecDepth 100000 in
set_option maxHeartbeats 4000000 in
theorem kb_X0_codeAt_47 {G : zG} {o : cO} {u g H T N : Nat} {S : cS} {Q : Option Value → cS → Prop} {X : Int64 → Prop} (hG : zOK G) (hR : ∀ v, X v → Q (some (.long v)) S) {x2 : Int64} (hS : St u g H T S) (ok : KO_X0_codeAt_47 N g H T x2 S) (hx : X (KF_X0_codeAt_47 N g H T x2 S)) : cX G o dX0_codeAt mX0_codeAt 47 [none, none, some (.long x2), none, none] [] S Q := by
  unfold KO_X0_codeAt_47 at ok
  unfold KF_X0_codeAt_47 at hx
  refine c_lload_n dX0_codeAt_47 rfl rfl ?_
  exact c_lreturn rfl dX0_codeAt_48 (hR _ hx)
def KB_X0_codeAt_5 (N g H T : Nat) (rec : Option Nat → Int32 → Int64 → Int32 → Nat × Int64 × Unit) (x0 : Option Nat) (x1 : Int32) (x2 : Int64) (x4 : Int32) (S : cS) : Nat × Int64 × Unit := (if x4 < 0 then (0, x2, ()) else (if (x1 + (nI 7)) ≤ x4 then (0, x2, ()) else (if (nI (cL S (za x0))) ≤ x4 then (0, x2, ()) else (rec x0 x1 ((x2 <<< (Int32.toInt64 (nI 8) &&& 63)) ||| (Int32.toInt64 ((cA S (za x0) x4.toNatClampNeg) &&& (nI 255)))) (x4 + nI 1)))))
def KOB_X0_codeAt_5 (N g H T : Nat) (rok : Option Nat → Int32 → Int64 → Int32 → Prop) (x0 : Option Nat) (x1 : Int32) (x2 : Int64) (x4 : Int32) (S : cS) : Prop := ((x4 < 0 → True) ∧ (¬ x4 < 0 → (((x1 + (nI 7)) ≤ x4 → True) ∧ (¬ (x1 + (nI 7)) ≤ x4 → (¬ x0 = none) ∧ (((nI (cL S (za x0))) ≤ x4 → True) ∧ (¬ (nI (cL S (za x0))) ≤ x4 → (¬ x0 = none ∧ vp_in x4 (cL S (za x0))) ∧ rok x0 x1 ((x2 <<< (Int32.toInt64 (nI 8) &&& 63)) ||| (Int32.toInt64 ((cA S (za x0) x4.toNatClampNeg) &&& (nI 255)))) (x4 + nI 1)))))))
set_option maxRecDepth 100000 in
set_option maxHeartbeats 4000000 in
theorem kbb_X0_codeAt_5 {G : zG} {o : cO} {u g H T N : Nat} {S : cS} {Q : Option Value → cS → Prop} {X : Nat × Int64 × Unit → Prop} (hG : zOK G) (hX0 : ∀ (x2 : Int64) , X (0, x2, ()) → cX G o dX0_codeAt mX0_codeAt 47 [none, none, some (.long x2), none, none] [] S Q) {rec : Option Nat → Int32 → Int64 → Int32 → Nat × Int64 × Unit} {rok : Option Nat → Int32 → Int64 → Int32 → Prop} (hrec : ∀ (x0 : Option Nat) (x1 : Int32) (x2 : Int64) (x4 : Int32), tK S 20 x0 → rok x0 x1 x2 x4 → X (rec x0 x1 x2 x4) → cX G o dX0_codeAt mX0_codeAt 5 [some (va_rf x0), some (.int x1), some (.long x2), none, some (.int x4)] [] S Q) {x0 : Option Nat} {x1 : Int32} {x2 : Int64} {x4 : Int32} (hS : St u g H T S) (t_x0 : tK S 20 x0) (ok : KOB_X0_codeAt_5 N g H T rok x0 x1 x2 x4 S) (hx : X (KB_X0_codeAt_5 N g H T rec x0 x1 x2 x4 S)) : cX G o dX0_codeAt mX0_codeAt 5 [some (va_rf x0), some (.int x1), some (.long x2), none, some (.int x4)] [] S Q := by
  unfold KOB_X0_codeAt_5 at ok
  unfold KB_X0_codeAt_5 at hx
  refine c_iload dX0_codeAt_5 rfl ?_
  refine c_if_lt (tgt := 47) dX0_codeAt_7 (by decide) (fun c_7 => ?_) (fun c_7 => ?_)
  · have ok := ok.1 c_7
    have hx := xif_p c_7 hx
    exact cX.cutz (hX0 _   hx) ⟨rfl, trivial⟩
  · have ok := ok.2 c_7
    have hx := xif_n c_7 hx
    refine c_iload dX0_codeAt_10 rfl ?_
    refine c_iload_n dX0_codeAt_12 rfl rfl ?_
    refine c_bipush (v := nI 7) dX0_codeAt_13 (by decide) ?_
    refine c_iadd dX0_codeAt_15 ?_
    refine c_icmp_ge (tgt := 47) dX0_codeAt_16 (by decide) (fun c_16 => ?_) (fun c_16 => ?_)
    · have ok := ok.1 c_16
      have hx := xif_p c_16 hx
      exact cX.cutz (hX0 _   hx) ⟨rfl, trivial⟩
    · have ok := ok.2 c_16
      have hx := xif_n c_16 hx
      refine c_iload dX0_codeAt_19 rfl ?_
      refine c_aload_nQ dX0_codeAt_21 rfl rfl ?_
      refine c_alenS (t := 0) (ty := .byte) rfl dX0_codeAt_22 (tK.cis t_x0 ok.1) rfl ?_
      have ok := ok.2
      refine c_icmp_ge (tgt := 47) dX0_codeAt_23 (by decide) (fun c_23 => ?_) (fun c_23 => ?_)
      · have ok := ok.1 c_23
        have hx := xif_p c_23 hx
        exact cX.cutz (hX0 _   hx) ⟨rfl, trivial⟩
      · have ok := ok.2 c_23
        have hx := xif_n c_23 hx
        refine c_lload_n dX0_codeAt_26 rfl rfl ?_
        refine c_bipush (v := nI 8) dX0_codeAt_27 (by decide) ?_
        refine c_lshl dX0_codeAt_29 ?_
        refine c_aload_nQ dX0_codeAt_30 rfl rfl ?_
        refine c_iload dX0_codeAt_31 rfl ?_
        refine c_bald dX0_codeAt_33 ⟨(tK.cis t_x0 ok.1.1), ok.1.2⟩ ?_
        have ok := ok.2
        refine c_sipush (v := nI 255) dX0_codeAt_34 (by decide) ?_
        refine c_iand dX0_codeAt_37 ?_
        refine c_i2l dX0_codeAt_38 ?_
        refine c_lor dX0_codeAt_39 ?_
        refine c_lstore_2 dX0_codeAt_40 (by decide) rfl ?_
        refine c_iinc_4 (v := (x4 + nI 1)) dX0_codeAt_41 rfl (by first | rfl | (congr 1)) (by decide) rfl ?_
        refine c_goto (tgt := 5) dX0_codeAt_44 (by decide) ?_
        exact cX.cutz (hrec _ _ _ _ t_x0 ok hx) ⟨rfl, rfl, rfl, rfl, trivial⟩
def KL_X0_codeAt_5 (N g H T : Nat) : Nat → Option Nat → Int32 → Int64 → Int32 → cS → Nat × Int64 × Unit
  | 0, x0, x1, x2, x4, S => (0, 0, ())
  | n + 1, x0, x1, x2, x4, S => KB_X0_codeAt_5 N g H T (fun x0 x1 x2 x4 => KL_X0_codeAt_5 N g H T n x0 x1 x2 x4 S) x0 x1 x2 x4 S
def KOL_X0_codeAt_5 (N g H T : Nat) : Nat → Option Nat → Int32 → Int64 → Int32 → cS → Prop
  | 0, _, _, _, _, _ => False
  | n + 1, x0, x1, x2, x4, S => KOB_X0_codeAt_5 N g H T (fun x0 x1 x2 x4 => KOL_X0_codeAt_5 N g H T n x0 x1 x2 x4 S) x0 x1 x2 x4 S
set_option maxRecDepth 100000 in
set_option maxHeartbeats 4000000 in
theorem kl_X0_codeAt_5 {G : zG} {o : cO} {u g H T N : Nat} {S : cS} {Q : Option Value → cS → Prop} {X : Nat × Int64 × Unit → Prop} (hG : zOK G) (hX0 : ∀ (x2 : Int64) , X (0, x2, ()) → cX G o dX0_codeAt mX0_codeAt 47 [none, none, some (.long x2), none, none] [] S Q) (hS : St u g H T S) : ∀ (n : Nat) (x0 : Option Nat) (x1 : Int32) (x2 : Int64) (x4 : Int32) , tK S 20 x0 → KOL_X0_codeAt_5 N g H T n x0 x1 x2 x4 S → X (KL_X0_codeAt_5 N g H T n x0 x1 x2 x4 S) → cX G o dX0_codeAt mX0_codeAt 5 [some (va_rf x0), some (.int x1), some (.long x2), none, some (.int x4)] [] S Q := by
  intro n
  induction n with
  | zero => intro x0 x1 x2 x4 t_x0 ok; exact absurd ok id
  | succ n ih =>
    intro x0 x1 x2 x4 t_x0 ok hx
    exact kbb_X0_codeAt_5 hG hX0 (rec := fun x0 x1 x2 x4 => KL_X0_codeAt_5 N g H T n x0 x1 x2 x4 S) (rok := fun x0 x1 x2 x4 => KOL_X0_codeAt_5 N g H T n x0 x1 x2 x4 S) (fun x0 x1 x2 x4 t_x0 ok hx => ih x0 x1 x2 x4 t_x0 ok hx) hS t_x0 ok hx
def KA_X0_codeAt_5 (N g H T : Nat) (x0 : Option Nat) (x1 : Int32) (x2 : Int64) (x4 : Int32) (S : cS) (z : Nat × Int64 × Unit) : Int64 := (KF_X0_codeAt_47 N g H T (z.2.1) S)
def KOA_X0_codeAt_5 (N g H T : Nat) (x0 : Option Nat) (x1 : Int32) (x2 : Int64) (x4 : Int32) (S : cS) (z : Nat × Int64 × Unit) : Prop := KO_X0_codeAt_47 N g H T (z.2.1) S
set_option maxRecDepth 100000 in
set_option maxHeartbeats 4000000 in
theorem kd_X0_codeAt_5 {G : zG} {o : cO} {u g H T N : Nat} {S : cS} {Q : Option Value → cS → Prop} {X : Int64 → Prop} (hG : zOK G) (hR : ∀ v, X v → Q (some (.long v)) S) {x0 : Option Nat} {x1 : Int32} {x2 : Int64} {x4 : Int32} (hS : St u g H T S) (t_x0 : tK S 20 x0) (ok : KOL_X0_codeAt_5 N g H T N x0 x1 x2 x4 S ∧ KOA_X0_codeAt_5 N g H T x0 x1 x2 x4 S (KL_X0_codeAt_5 N g H T N x0 x1 x2 x4 S)) (hx : X (KA_X0_codeAt_5 N g H T x0 x1 x2 x4 S (KL_X0_codeAt_5 N g H T N x0 x1 x2 x4 S))) : cX G o dX0_codeAt mX0_codeAt 5 [some (va_rf x0), some (.int x1), some (.long x2), none, some (.int x4)] [] S Q := by
  refine kl_X0_codeAt_5 hG ?_ hS N x0 x1 x2 x4 t_x0 ok.1 (X := fun z => KOA_X0_codeAt_5 N g H T x0 x1 x2 x4 S z ∧ X (KA_X0_codeAt_5 N g H T x0 x1 x2 x4 S z)) ⟨ok.2, hx⟩
  · intro x2' hz
    obtain ⟨ok, hx⟩ := hz
    unfold KOA_X0_codeAt_5 at ok
    unfold KA_X0_codeAt_5 at hx
    exact cX.cutz (kb_X0_codeAt_47 hG hR hS  ok hx) ⟨rfl, trivial⟩
def KF_X0_codeAt_0 (N g H T : Nat) (x0 : Option Nat) (x1 : Int32) (S : cS) : Int64 := (KA_X0_codeAt_5 N g H T x0 x1 (0 : Int64) x1 S (KL_X0_codeAt_5 N g H T N x0 x1 (0 : Int64) x1 S))
def KO_X0_codeAt_0 (N g H T : Nat) (x0 : Option Nat) (x1 : Int32) (S : cS) : Prop := (KOL_X0_codeAt_5 N g H T N x0 x1 (0 : Int64) x1 S ∧ KOA_X0_codeAt_5 N g H T x0 x1 (0 : Int64) x1 S (KL_X0_codeAt_5 N g H T N x0 x1 (0 : Int64) x1 S))
set_option maxRecDepth 100000 in
set_option maxHeartbeats 4000000 in
theorem kb_X0_codeAt_0 {G : zG} {o : cO} {u g H T N : Nat} {S : cS} {Q : Option Value → cS → Prop} {X : Int64 → Prop} (hG : zOK G) (hR : ∀ v, X v → Q (some (.long v)) S) {x0 : Option Nat} {x1 : Int32} (hS : St u g H T S) (t_x0 : tK S 20 x0) (ok : KO_X0_codeAt_0 N g H T x0 x1 S) (hx : X (KF_X0_codeAt_0 N g H T x0 x1 S)) : cX G o dX0_codeAt mX0_codeAt 0 [some (va_rf x0), some (.int x1), none, none, none] [] S Q := by
  unfold KO_X0_codeAt_0 at ok
  unfold KF_X0_codeAt_0 at hx
  refine c_lconst (v := 0) dX0_codeAt_0 rfl ?_
  refine c_lstore_2 dX0_codeAt_1 (by decide) rfl ?_
  refine c_iload_n dX0_codeAt_2 rfl rfl ?_
  refine c_istore_4 dX0_codeAt_3 (by decide) rfl ?_
  exact cX.cutz (kd_X0_codeAt_5 hG hR hS t_x0 ok hx) ⟨rfl, rfl, rfl, rfl, trivial⟩
def k_X0_codeAt (N g H T : Nat) (S : cS) (x0 : Option Nat) (x1 : Int32) : Int64 := KF_X0_codeAt_0 N g H T x0 x1 S
def p_X0_codeAt (N g H T : Nat) (S : cS) (x0 : Option Nat) (x1 : Int32) : Prop := KO_X0_codeAt_0 N g H T x0 x1 S
set_option maxRecDepth 100000 in
set_option maxHeartbeats 4000000 in
theorem kc_X0_codeAt {G : zG} {o : cO} {u g H T N : Nat} {S : cS} (hG : zOK G) {x0 : Option Nat} {x1 : Int32} (hS : St u g H T S) (t_x0 : tK S 20 x0) (ok : p_X0_codeAt N g H T S x0 x1) : cCl G o dX0_codeAt mX0_codeAt [va_rf x0, .int x1] S (fun v S' => (v = k_X0_codeAt N g H T S x0 x1 ∧ S' = S)) := by
  refine cC.ofX rfl (by cases x0 <;> exact Nat.le_of_ble_eq_true rfl) ?_
  rw [show zargs mX0_codeAt.2.2.1 [va_rf x0, .int x1] = [some (va_rf x0), some (.int x1), none, none, none] from by cases x0 <;> rfl]
  exact cX.cutz (kb_X0_codeAt_0 (X := fun F => F = k_X0_codeAt N g H T S x0 x1) hG (fun v h => ⟨v, rfl, h, rfl⟩) hS t_x0 ok rfl) ⟨rfl, rfl, trivial⟩
/-! X0_play -/
def KF_X0_play_148 (N g H T : Nat)  (S : cS) : Int32 × cS := ((nI 1), S)
def KO_X0_play_148 (N g H T : Nat)  (S : cS) : Prop := True
set_option maxRecDepth 100000 in
set_option maxHeartbeats 4000000 in
theorem kb_X0_play_148 {G : zG} {o : cO} {u g H T N : Nat} {S : cS} {S0 : cS} {Q : Option Value → cS → Prop} {X : Int32 × cS → Prop} (hG : zOK G) (hR : ∀ v S', St u g H T S' → Mono S0 S' → X (v, S') → Q (some (.int v)) S') (hS : St u g H T S) (hM : Mono S0 S) (ok : KO_X0_play_148 N g H T S) (hx : X (KF_X0_play_148 N g H T S)) : cX G o dX0_play mX0_play 148 [none, none, none, none, none, none, none, none, none] [] S Q := by
  unfold KO_X0_play_148 at ok
  unfold KF_X0_play_148 at hx
  refine c_iconst (v := nI 1) dX0_play_148 (by decide) ?_
  exact c_ireturn rfl rfl dX0_play_149 (hR _ _ hS hM hx)
def KF_X0_play_140 (N g H T : Nat)  (S : cS) : Int32 × cS := ((nI 0), S)
def KO_X0_play_140 (N g H T : Nat)  (S : cS) : Prop := True
set_option maxRecDepth 100000 in
set_option maxHeartbeats 4000000 in
theorem kb_X0_play_140 {G : zG} {o : cO} {u g H T N : Nat} {S : cS} {S0 : cS} {Q : Option Value → cS → Prop} {X : Int32 × cS → Prop} (hG : zOK G) (hR : ∀ v S', St u g H T S' → Mono S0 S' → X (v, S') → Q (some (.int v)) S') (hS : St u g H T S) (hM : Mono S0 S) (ok : KO_X0_play_140 N g H T S) (hx : X (KF_X0_play_140 N g H T S)) : cX G o dX0_play mX0_play 140 [none, none, none, none, none, none, none, none, none] [] S Q := by
  unfold KO_X0_play_140 at ok
  unfold KF_X0_play_140 at hx
  refine c_iconst (v := nI 0) dX0_play_140 (by decide) ?_
  exact c_ireturn rfl rfl dX0_play_141 (hR _ _ hS hM hx)
def KF_X0_play_137 (N g H T : Nat) (rec : Nat → Option Nat → Int32 → Int32 → Int32 → cS → Nat × cS) (x0 : Nat) (x1 : Option Nat) (x3 : Int32) (x4 : Int32) (x5 : Int32) (s0 : Int32) (S : cS) : Nat × cS := (if s0 = 0 then (0, S) else (rec x0 x1 x3 x4 (x5 + nI 7) S))
def KO_X0_play_137 (N g H T : Nat) (rok : Nat → Option Nat → Int32 → Int32 → Int32 → cS → Prop) (x0 : Nat) (x1 : Option Nat) (x3 : Int32) (x4 : Int32) (x5 : Int32) (s0 : Int32) (S : cS) : Prop := ((s0 = 0 → True) ∧ (¬ s0 = 0 → rok x0 x1 x3 x4 (x5 + nI 7) S))
set_option maxRecDepth 100000 in
set_option maxHeartbeats 4000000 in
theorem kb_X0_play_137 {G : zG} {o : cO} {u g H T N : Nat} {S : cS} {S0 : cS} {Q : Option Value → cS → Prop} {X : Nat × cS → Prop} (hG : zOK G) (hX0 : ∀ (S' : cS), St u g H T S' → Mono S0 S' → X (0, S') → cX G o dX0_play mX0_play 140 [none, none, none, none, none, none, none, none, none] [] S' Q) (hX1 : ∀ (S' : cS), St u g H T S' → Mono S0 S' → X (1, S') → cX G o dX0_play mX0_play 148 [none, none, none, none, none, none, none, none, none] [] S' Q) {rec : Nat → Option Nat → Int32 → Int32 → Int32 → cS → Nat × cS} {rok : Nat → Option Nat → Int32 → Int32 → Int32 → cS → Prop} (hrec : ∀ (x0 : Nat) (x1 : Option Nat) (x3 : Int32) (x4 : Int32) (x5 : Int32) (S : cS), St u g H T S → Mono S0 S → isO g H 0 x0 → tK S 20 x1 → rok x0 x1 x3 x4 x5 S → X (rec x0 x1 x3 x4 x5 S) → cX G o dX0_play mX0_play 116 [some (va_rf (some x0)), some (va_rf x1), none, some (.int x3), some (.int x4), some (.int x5), none, none, none] [] S Q) {x0 : Nat} {x1 : Option Nat} {x3 : Int32} {x4 : Int32} {x5 : Int32} {s0 : Int32} (hS : St u g H T S) (hM : Mono S0 S) (t_x0 : isO g H 0 x0) (t_x1 : tK S 20 x1) (ok : KO_X0_play_137 N g H T rok x0 x1 x3 x4 x5 s0 S) (hx : X (KF_X0_play_137 N g H T rec x0 x1 x3 x4 x5 s0 S)) : cX G o dX0_play mX0_play 137 [some (va_rf (some x0)), some (va_rf x1), none, some (.int x3), some (.int x4), some (.int x5), none, none, none] [.int s0] S Q := by
  unfold KO_X0_play_137 at ok
  unfold KF_X0_play_137 at hx
  refine c_if_ne (tgt := 142) dX0_play_137 (by decide) (fun c_137 => ?_) (fun c_137 => ?_)
  · have ok := ok.2 c_137
    have hx := xif_n c_137 hx
    refine c_iinc_5 (v := (x5 + nI 7)) dX0_play_142 rfl (by first | rfl | (congr 1)) (by decide) rfl ?_
    refine c_goto (tgt := 116) dX0_play_145 (by decide) ?_
    exact cX.cutz (hrec _ _ _ _ _ S hS hM t_x0 t_x1 ok hx) ⟨rfl, rfl, rfl, rfl, rfl, trivial⟩
  · have ok := ok.1 c_137
    have hx := xif_p c_137 hx
    exact cX.cutz (hX0 S hS hM  hx) trivial
def KB_X0_play_116 (N g H T : Nat) (rec : Nat → Option Nat → Int32 → Int32 → Int32 → cS → Nat × cS) (x0 : Nat) (x1 : Option Nat) (x3 : Int32) (x4 : Int32) (x5 : Int32) (S : cS) : Nat × cS := (if (x3 - (nI 7)) < x5 then (1, S) else (KF_X0_play_137 N g H T rec x0 x1 x3 x4 x5 ((k_X0_pay N g H T S x0 (k_X0_codeAt N g H T S x1 x5) x4).1) (k_X0_pay N g H T S x0 (k_X0_codeAt N g H T S x1 x5) x4).2))
def KOB_X0_play_116 (N g H T : Nat) (rok : Nat → Option Nat → Int32 → Int32 → Int32 → cS → Prop) (x0 : Nat) (x1 : Option Nat) (x3 : Int32) (x4 : Int32) (x5 : Int32) (S : cS) : Prop := (((x3 - (nI 7)) < x5 → True) ∧ (¬ (x3 - (nI 7)) < x5 → (p_X0_codeAt N g H T S x1 x5) ∧ (p_X0_pay N g H T S x0 (k_X0_codeAt N g H T S x1 x5) x4) ∧ KO_X0_play_137 N g H T rok x0 x1 x3 x4 x5 ((k_X0_pay N g H T S x0 (k_X0_codeAt N g H T S x1 x5) x4).1) (k_X0_pay N g H T S x0 (k_X0_codeAt N g H T S x1 x5) x4).2))
set_option maxRecDepth 100000 in
set_option maxHeartbeats 4000000 in
theorem kbb_X0_play_116 {G : zG} {o : cO} {u g H T N : Nat} {S : cS} {S0 : cS} {Q : Option Value → cS → Prop} {X : Nat × cS → Prop} (hG : zOK G) (hX0 : ∀ (S' : cS), St u g H T S' → Mono S0 S' → X (0, S') → cX G o dX0_play mX0_play 140 [none, none, none, none, none, none, none, none, none] [] S' Q) (hX1 : ∀ (S' : cS), St u g H T S' → Mono S0 S' → X (1, S') → cX G o dX0_play mX0_play 148 [none, none, none, none, none, none, none, none, none] [] S' Q) {rec : Nat → Option Nat → Int32 → Int32 → Int32 → cS → Nat × cS} {rok : Nat → Option Nat → Int32 → Int32 → Int32 → cS → Prop} (hrec : ∀ (x0 : Nat) (x1 : Option Nat) (x3 : Int32) (x4 : Int32) (x5 : Int32) (S : cS), St u g H T S → Mono S0 S → isO g H 0 x0 → tK S 20 x1 → rok x0 x1 x3 x4 x5 S → X (rec x0 x1 x3 x4 x5 S) → cX G o dX0_play mX0_play 116 [some (va_rf (some x0)), some (va_rf x1), none, some (.int x3), some (.int x4), some (.int x5), none, none, none] [] S Q) {x0 : Nat} {x1 : Option Nat} {x3 : Int32} {x4 : Int32} {x5 : Int32} (hS : St u g H T S) (hM : Mono S0 S) (t_x0 : isO g H 0 x0) (t_x1 : tK S 20 x1) (ok : KOB_X0_play_116 N g H T rok x0 x1 x3 x4 x5 S) (hx : X (KB_X0_play_116 N g H T rec x0 x1 x3 x4 x5 S)) : cX G o dX0_play mX0_play 116 [some (va_rf (some x0)), some (va_rf x1), none, some (.int x3), some (.int x4), some (.int x5), none, none, none] [] S Q := by
  unfold KOB_X0_play_116 at ok
  unfold KB_X0_play_116 at hx
  refine c_iload dX0_play_116 rfl ?_
  refine c_iload_n dX0_play_118 rfl rfl ?_
  refine c_bipush (v := nI 7) dX0_play_119 (by decide) ?_
  refine c_isub dX0_play_121 ?_
  refine c_icmp_gt (tgt := 148) dX0_play_122 (by decide) (fun c_122 => ?_) (fun c_122 => ?_)
  · have ok := ok.1 c_122
    have hx := xif_p c_122 hx
    exact cX.cutz (hX1 S hS hM  hx) trivial
  · have ok := ok.2 c_122
    have hx := xif_n c_122 hx
    refine c_aload_nQ dX0_play_125 rfl rfl ?_
    refine c_aload_nQ dX0_play_126 rfl rfl ?_
    refine c_iload dX0_play_127 rfl ?_
    refine c_S2lE (y' := mX0_codeAt) dX0_play_129 lX0_56 kX0_codeAt ⟨by decide, by decide⟩ (by simp only [List.map_cons, List.map_nil, List.sum_cons, List.sum_nil, zcat_rf, zcat_i, zcat_l, zcat_r] <;> decide) (kc_X0_codeAt hG hS t_x1 ok.1) ?_
    have ok := ok.2
    refine c_iload dX0_play_132 rfl ?_
    refine c_V2iK (ci := 0) (rr := (RX0, TX0, 6)) (y' := mX0_pay) dX0_play_134 lX0_60 kX0_pay ⟨by decide, by decide⟩ rfl rfl (by decide) (hS.k t_x0) (Nat.le_of_ble_eq_true rfl) (kc_X0_pay hG hS t_x0 ok.1) (fun ⟨hS, hm_134⟩ => ?_)
    have hM := hM.trans hm_134
    have ok := ok.2
    exact cX.cutz (kb_X0_play_137 hG hX0 hX1 hrec hS hM t_x0 (hm_134.tK t_x1 (by decide)) ok hx) ⟨rfl, rfl, rfl, rfl, rfl, trivial⟩
def KL_X0_play_116 (N g H T : Nat) : Nat → Nat → Option Nat → Int32 → Int32 → Int32 → cS → Nat × cS
  | 0, x0, x1, x3, x4, x5, S => (0, S)
  | n + 1, x0, x1, x3, x4, x5, S => KB_X0_play_116 N g H T (KL_X0_play_116 N g H T n) x0 x1 x3 x4 x5 S
def KOL_X0_play_116 (N g H T : Nat) : Nat → Nat → Option Nat → Int32 → Int32 → Int32 → cS → Prop
  | 0, _, _, _, _, _, _ => False
  | n + 1, x0, x1, x3, x4, x5, S => KOB_X0_play_116 N g H T (KOL_X0_play_116 N g H T n) x0 x1 x3 x4 x5 S
set_option maxRecDepth 100000 in
set_option maxHeartbeats 4000000 in
theorem kl_X0_play_116 {G : zG} {o : cO} {u g H T N : Nat} {S0 : cS} {Q : Option Value → cS → Prop} {X : Nat × cS → Prop} (hG : zOK G) (hX0 : ∀ (S' : cS), St u g H T S' → Mono S0 S' → X (0, S') → cX G o dX0_play mX0_play 140 [none, none, none, none, none, none, none, none, none] [] S' Q) (hX1 : ∀ (S' : cS), St u g H T S' → Mono S0 S' → X (1, S') → cX G o dX0_play mX0_play 148 [none, none, none, none, none, none, none, none, none] [] S' Q) : ∀ (n : Nat) (x0 : Nat) (x1 : Option Nat) (x3 : Int32) (x4 : Int32) (x5 : Int32) (S : cS), St u g H T S → Mono S0 S → isO g H 0 x0 → tK S 20 x1 → KOL_X0_play_116 N g H T n x0 x1 x3 x4 x5 S → X (KL_X0_play_116 N g H T n x0 x1 x3 x4 x5 S) → cX G o dX0_play mX0_play 116 [some (va_rf (some x0)), some (va_rf x1), none, some (.int x3), some (.int x4), some (.int x5), none, none, none] [] S Q := by
  intro n
  induction n with
  | zero => intro x0 x1 x3 x4 x5 S hS hM t_x0 t_x1 ok; exact absurd ok id
  | succ n ih =>
    intro x0 x1 x3 x4 x5 S hS hM t_x0 t_x1 ok hx
    exact kbb_X0_play_116 hG hX0 hX1 (rec := KL_X0_play_116 N g H T n) (rok := KOL_X0_play_116 N g H T n) (fun x0 x1 x3 x4 x5 S hS hM t_x0 t_x1 ok hx => ih x0 x1 x3 x4 x5 S hS hM t_x0 t_x1 ok hx) hS hM t_x0 t_x1 ok hx
def KA_X0_play_116 (N g H T : Nat) (x0 : Nat) (x1 : Option Nat) (x3 : Int32) (x4 : Int32) (x5 : Int32) (S : cS) (z : Nat × cS) : Int32 × cS := (if z.1 = 0 then (KF_X0_play_140 N g H T z.2) else (KF_X0_play_148 N g H T z.2))
def KOA_X0_play_116 (N g H T : Nat) (x0 : Nat) (x1 : Option Nat) (x3 : Int32) (x4 : Int32) (x5 : Int32) (S : cS) (z : Nat × cS) : Prop := (if z.1 = 0 then KO_X0_play_140 N g H T z.2 else KO_X0_play_148 N g H T z.2)
set_option maxRecDepth 100000 in
set_option maxHeartbeats 4000000 in
theorem kd_X0_play_116 {G : zG} {o : cO} {u g H T N : Nat} {S : cS} {S0 : cS} {Q : Option Value → cS → Prop} {X : Int32 × cS → Prop} (hG : zOK G) (hR : ∀ v S', St u g H T S' → Mono S0 S' → X (v, S') → Q (some (.int v)) S') {x0 : Nat} {x1 : Option Nat} {x3 : Int32} {x4 : Int32} {x5 : Int32} (hS : St u g H T S) (hM : Mono S0 S) (t_x0 : isO g H 0 x0) (t_x1 : tK S 20 x1) (ok : KOL_X0_play_116 N g H T N x0 x1 x3 x4 x5 S ∧ KOA_X0_play_116 N g H T x0 x1 x3 x4 x5 S (KL_X0_play_116 N g H T N x0 x1 x3 x4 x5 S)) (hx : X (KA_X0_play_116 N g H T x0 x1 x3 x4 x5 S (KL_X0_play_116 N g H T N x0 x1 x3 x4 x5 S))) : cX G o dX0_play mX0_play 116 [some (va_rf (some x0)), some (va_rf x1), none, some (.int x3), some (.int x4), some (.int x5), none, none, none] [] S Q := by
  refine kl_X0_play_116 hG ?_ ?_ N x0 x1 x3 x4 x5 S hS hM t_x0 t_x1 ok.1 (X := fun z => KOA_X0_play_116 N g H T x0 x1 x3 x4 x5 S z ∧ X (KA_X0_play_116 N g H T x0 x1 x3 x4 x5 S z)) ⟨ok.2, hx⟩
  · intro S' hS hM hz
    obtain ⟨ok, hx⟩ := hz
    unfold KOA_X0_play_116 at ok
    unfold KA_X0_play_116 at hx
    have ok := xif_P (show (0 : Nat) = 0 from rfl) ok
    have hx := xif_p (show (0 : Nat) = 0 from rfl) hx
    exact cX.cutz (kb_X0_play_140 hG hR hS hM  ok hx) trivial
  · intro S' hS hM hz
    obtain ⟨ok, hx⟩ := hz
    unfold KOA_X0_play_116 at ok
    unfold KA_X0_play_116 at hx
    have ok := xif_N (show ¬ (1 : Nat) = 0 by decide) ok
    have hx := xif_n (show ¬ (1 : Nat) = 0 by decide) hx
    exact cX.cutz (kb_X0_play_148 hG hR hS hM  ok hx) trivial
def KF_X0_play_101 (N g H T : Nat)  (S : cS) : Int32 × cS := ((nI 0), S)
def KO_X0_play_101 (N g H T : Nat)  (S : cS) : Prop := True
set_option maxRecDepth 100000 in
set_option maxHeartbeats 4000000 in
theorem kb_X0_play_101 {G : zG} {o : cO} {u g H T N : Nat} {S : cS} {S0 : cS} {Q : Option Value → cS → Prop} {X : Int32 × cS → Prop} (hG : zOK G) (hR : ∀ v S', St u g H T S' → Mono S0 S' → X (v, S') → Q (some (.int v)) S') (hS : St u g H T S) (hM : Mono S0 S) (ok : KO_X0_play_101 N g H T S) (hx : X (KF_X0_play_101 N g H T S)) : cX G o dX0_play mX0_play 101 [none, none, none, none, none, none, none, none, none] [] S Q := by
  unfold KO_X0_play_101 at ok
  unfold KF_X0_play_101 at hx
  refine c_iconst (v := nI 0) dX0_play_101 (by decide) ?_
  exact c_ireturn rfl rfl dX0_play_102 (hR _ _ hS hM hx)
def KF_X0_play_98 (N g H T : Nat) (rec : Nat → Option Nat → Int32 → Int32 → Int32 → Int32 → Int32 → cS → Nat × Nat × Option Nat × Int32 × Int32 × Int32 × cS) (x0 : Nat) (x1 : Option Nat) (x3 : Int32) (x4 : Int32) (x5 : Int32) (x6 : Int32) (x7 : Int32) (x8 : Int32) (s0 : Int32) (S : cS) : Nat × Nat × Option Nat × Int32 × Int32 × Int32 × cS := (if s0 = 0 then (0, 0, none, 0, 0, 0, S) else (rec x0 x1 x3 x4 (x5 + x8) x6 (x7 + nI 1) S))
def KO_X0_play_98 (N g H T : Nat) (rok : Nat → Option Nat → Int32 → Int32 → Int32 → Int32 → Int32 → cS → Prop) (x0 : Nat) (x1 : Option Nat) (x3 : Int32) (x4 : Int32) (x5 : Int32) (x6 : Int32) (x7 : Int32) (x8 : Int32) (s0 : Int32) (S : cS) : Prop := ((s0 = 0 → True) ∧ (¬ s0 = 0 → rok x0 x1 x3 x4 (x5 + x8) x6 (x7 + nI 1) S))
set_option maxRecDepth 100000 in
set_option maxHeartbeats 4000000 in
theorem kb_X0_play_98 {G : zG} {o : cO} {u g H T N : Nat} {S : cS} {S0 : cS} {Q : Option Value → cS → Prop} {X : Nat × Nat × Option Nat × Int32 × Int32 × Int32 × cS → Prop} (hG : zOK G) (hX0 : ∀ (x0 : Nat) (x1 : Option Nat) (x3 : Int32) (x4 : Int32) (x5 : Int32) (S' : cS), St u g H T S' → Mono S0 S' → X (0, x0, x1, x3, x4, x5, S') → cX G o dX0_play mX0_play 101 [none, none, none, none, none, none, none, none, none] [] S' Q) (hX1 : ∀ (x0 : Nat) (x1 : Option Nat) (x3 : Int32) (x4 : Int32) (x5 : Int32) (S' : cS), St u g H T S' → Mono S0 S' → isO g H 0 x0 → tK S' 20 x1 → X (1, x0, x1, x3, x4, x5, S') → cX G o dX0_play mX0_play 116 [some (va_rf (some x0)), some (va_rf x1), none, some (.int x3), some (.int x4), some (.int x5), none, none, none] [] S' Q) {rec : Nat → Option Nat → Int32 → Int32 → Int32 → Int32 → Int32 → cS → Nat × Nat × Option Nat × Int32 × Int32 × Int32 × cS} {rok : Nat → Option Nat → Int32 → Int32 → Int32 → Int32 → Int32 → cS → Prop} (hrec : ∀ (x0 : Nat) (x1 : Option Nat) (x3 : Int32) (x4 : Int32) (x5 : Int32) (x6 : Int32) (x7 : Int32) (S : cS), St u g H T S → Mono S0 S → isO g H 0 x0 → tK S 20 x1 → rok x0 x1 x3 x4 x5 x6 x7 S → X (rec x0 x1 x3 x4 x5 x6 x7 S) → cX G o dX0_play mX0_play 57 [some (va_rf (some x0)), some (va_rf x1), none, some (.int x3), some (.int x4), some (.int x5), some (.int x6), some (.int x7), none] [] S Q) {x0 : Nat} {x1 : Option Nat} {x3 : Int32} {x4 : Int32} {x5 : Int32} {x6 : Int32} {x7 : Int32} {x8 : Int32} {s0 : Int32} (hS : St u g H T S) (hM : Mono S0 S) (t_x0 : isO g H 0 x0) (t_x1 : tK S 20 x1) (ok : KO_X0_play_98 N g H T rok x0 x1 x3 x4 x5 x6 x7 x8 s0 S) (hx : X (KF_X0_play_98 N g H T rec x0 x1 x3 x4 x5 x6 x7 x8 s0 S)) : cX G o dX0_play mX0_play 98 [some (va_rf (some x0)), some (va_rf x1), none, some (.int x3), some (.int x4), some (.int x5), some (.int x6), some (.int x7), some (.int x8)] [.int s0] S Q := by
  unfold KO_X0_play_98 at ok
  unfold KF_X0_play_98 at hx
  refine c_if_ne (tgt := 103) dX0_play_98 (by decide) (fun c_98 => ?_) (fun c_98 => ?_)
  · have ok := ok.2 c_98
    have hx := xif_n c_98 hx
    refine c_iload dX0_play_103 rfl ?_
    refine c_iload dX0_play_105 rfl ?_
    refine c_iadd dX0_play_107 ?_
    refine c_istore_5 dX0_play_108 (by decide) rfl ?_
    refine c_iinc_7 (v := (x7 + nI 1)) dX0_play_110 rfl (by first | rfl | (congr 1)) (by decide) rfl ?_
    refine c_goto (tgt := 57) dX0_play_113 (by decide) ?_
    exact cX.cutz (hrec _ _ _ _ _ _ _ S hS hM t_x0 t_x1 ok hx) ⟨rfl, rfl, rfl, rfl, rfl, rfl, rfl, trivial⟩
  · have ok := ok.1 c_98
    have hx := xif_p c_98 hx
    exact cX.cutz (hX0 _ _ _ _ _ S hS hM  hx) trivial
def KB_X0_play_57 (N g H T : Nat) (rec : Nat → Option Nat → Int32 → Int32 → Int32 → Int32 → Int32 → cS → Nat × Nat × Option Nat × Int32 × Int32 × Int32 × cS) (x0 : Nat) (x1 : Option Nat) (x3 : Int32) (x4 : Int32) (x5 : Int32) (x6 : Int32) (x7 : Int32) (S : cS) : Nat × Nat × Option Nat × Int32 × Int32 × Int32 × cS := (if x6 ≤ x7 then (1, x0, x1, x3, x4, x5, S) else (if (nI 2) ≤ x7 then (1, x0, x1, x3, x4, x5, S) else (if (k_X1_evidenceSize N g H T S x1 x5 x3) < 0 then (0, 0, none, 0, 0, 0, S) else (KF_X0_play_98 N g H T rec x0 x1 x3 x4 x5 x6 x7 (k_X1_evidenceSize N g H T S x1 x5 x3) ((k_X0_punish N g H T S x0 ((cA S (za x1) x5.toNatClampNeg) &&& (nI 255)) x4).1) (k_X0_punish N g H T S x0 ((cA S (za x1) x5.toNatClampNeg) &&& (nI 255)) x4).2))))
def KOB_X0_play_57 (N g H T : Nat) (rok : Nat → Option Nat → Int32 → Int32 → Int32 → Int32 → Int32 → cS → Prop) (x0 : Nat) (x1 : Option Nat) (x3 : Int32) (x4 : Int32) (x5 : Int32) (x6 : Int32) (x7 : Int32) (S : cS) : Prop := ((x6 ≤ x7 → True) ∧ (¬ x6 ≤ x7 → (((nI 2) ≤ x7 → True) ∧ (¬ (nI 2) ≤ x7 → (p_X1_evidenceSize N g H T S x1 x5 x3) ∧ (((k_X1_evidenceSize N g H T S x1 x5 x3) < 0 → True) ∧ (¬ (k_X1_evidenceSize N g H T S x1 x5 x3) < 0 → (¬ x1 = none ∧ vp_in x5 (cL S (za x1))) ∧ (p_X0_punish N g H T S x0 ((cA S (za x1) x5.toNatClampNeg) &&& (nI 255)) x4) ∧ KO_X0_play_98 N g H T rok x0 x1 x3 x4 x5 x6 x7 (k_X1_evidenceSize N g H T S x1 x5 x3) ((k_X0_punish N g H T S x0 ((cA S (za x1) x5.toNatClampNeg) &&& (nI 255)) x4).1) (k_X0_punish N g H T S x0 ((cA S (za x1) x5.toNatClampNeg) &&& (nI 255)) x4).2))))))
set_option maxRecDepth 100000 in
set_option maxHeartbeats 4000000 in
theorem kbb_X0_play_57 {G : zG} {o : cO} {u g H T N : Nat} {S : cS} {S0 : cS} {Q : Option Value → cS → Prop} {X : Nat × Nat × Option Nat × Int32 × Int32 × Int32 × cS → Prop} (hG : zOK G) (hX0 : ∀ (x0 : Nat) (x1 : Option Nat) (x3 : Int32) (x4 : Int32) (x5 : Int32) (S' : cS), St u g H T S' → Mono S0 S' → X (0, x0, x1, x3, x4, x5, S') → cX G o dX0_play mX0_play 101 [none, none, none, none, none, none, none, none, none] [] S' Q) (hX1 : ∀ (x0 : Nat) (x1 : Option Nat) (x3 : Int32) (x4 : Int32) (x5 : Int32) (S' : cS), St u g H T S' → Mono S0 S' → isO g H 0 x0 → tK S' 20 x1 → X (1, x0, x1, x3, x4, x5, S') → cX G o dX0_play mX0_play 116 [some (va_rf (some x0)), some (va_rf x1), none, some (.int x3), some (.int x4), some (.int x5), none, none, none] [] S' Q) {rec : Nat → Option Nat → Int32 → Int32 → Int32 → Int32 → Int32 → cS → Nat × Nat × Option Nat × Int32 × Int32 × Int32 × cS} {rok : Nat → Option Nat → Int32 → Int32 → Int32 → Int32 → Int32 → cS → Prop} (hrec : ∀ (x0 : Nat) (x1 : Option Nat) (x3 : Int32) (x4 : Int32) (x5 : Int32) (x6 : Int32) (x7 : Int32) (S : cS), St u g H T S → Mono S0 S → isO g H 0 x0 → tK S 20 x1 → rok x0 x1 x3 x4 x5 x6 x7 S → X (rec x0 x1 x3 x4 x5 x6 x7 S) → cX G o dX0_play mX0_play 57 [some (va_rf (some x0)), some (va_rf x1), none, some (.int x3), some (.int x4), some (.int x5), some (.int x6), some (.int x7), none] [] S Q) {x0 : Nat} {x1 : Option Nat} {x3 : Int32} {x4 : Int32} {x5 : Int32} {x6 : Int32} {x7 : Int32} (hS : St u g H T S) (hM : Mono S0 S) (t_x0 : isO g H 0 x0) (t_x1 : tK S 20 x1) (ok : KOB_X0_play_57 N g H T rok x0 x1 x3 x4 x5 x6 x7 S) (hx : X (KB_X0_play_57 N g H T rec x0 x1 x3 x4 x5 x6 x7 S)) : cX G o dX0_play mX0_play 57 [some (va_rf (some x0)), some (va_rf x1), none, some (.int x3), some (.int x4), some (.int x5), some (.int x6), some (.int x7), none] [] S Q := by
  unfold KOB_X0_play_57 at ok
  unfold KB_X0_play_57 at hx
  refine c_iload dX0_play_57 rfl ?_
  refine c_iload dX0_play_59 rfl ?_
  refine c_icmp_ge (tgt := 116) dX0_play_61 (by decide) (fun c_61 => ?_) (fun c_61 => ?_)
  · have ok := ok.1 c_61
    have hx := xif_p c_61 hx
    exact cX.cutz (hX1 _ _ _ _ _ S hS hM t_x0 t_x1 hx) ⟨rfl, rfl, rfl, rfl, rfl, trivial⟩
  · have ok := ok.2 c_61
    have hx := xif_n c_61 hx
    refine c_iload dX0_play_64 rfl ?_
    refine c_iconst (v := nI 2) dX0_play_66 (by decide) ?_
    refine c_icmp_ge (tgt := 116) dX0_play_67 (by decide) (fun c_67 => ?_) (fun c_67 => ?_)
    · have ok := ok.1 c_67
      have hx := xif_p c_67 hx
      exact cX.cutz (hX1 _ _ _ _ _ S hS hM t_x0 t_x1 hx) ⟨rfl, rfl, rfl, rfl, rfl, trivial⟩
    · have ok := ok.2 c_67
      have hx := xif_n c_67 hx
      refine c_aload_nQ dX0_play_70 rfl rfl ?_
      refine c_iload dX0_play_71 rfl ?_
      refine c_iload_n dX0_play_73 rfl rfl ?_
      refine c_S3iE (y' := mX1_evidenceSize) dX0_play_74 lX0_46 kX1_evidenceSize ⟨by decide, by decide⟩ (Nat.le_of_ble_eq_true rfl) (kc_X1_evidenceSize hG hS t_x1 ok.1) ?_
      have ok := ok.2
      refine c_istore_8 dX0_play_77 (by decide) rfl ?_
      refine c_iload dX0_play_79 rfl ?_
      refine c_if_lt (tgt := 101) dX0_play_81 (by decide) (fun c_81 => ?_) (fun c_81 => ?_)
      · have ok := ok.1 c_81
        have hx := xif_p c_81 hx
        exact cX.cutz (hX0 _ _ _ _ _ S hS hM  hx) trivial
      · have ok := ok.2 c_81
        have hx := xif_n c_81 hx
        refine c_aload_nQ dX0_play_84 rfl rfl ?_
        refine c_aload_nQ dX0_play_85 rfl rfl ?_
        refine c_iload dX0_play_86 rfl ?_
        refine c_bald dX0_play_88 ⟨(tK.cis t_x1 ok.1.1), ok.1.2⟩ ?_
        have ok := ok.2
        refine c_sipush (v := nI 255) dX0_play_89 (by decide) ?_
        refine c_iand dX0_play_92 ?_
        refine c_iload dX0_play_93 rfl ?_
        refine c_V2iK (ci := 0) (rr := (RX0, TX0, 6)) (y' := mX0_punish) dX0_play_95 lX0_52 kX0_punish ⟨by decide, by decide⟩ rfl rfl (by decide) (hS.k t_x0) (Nat.le_of_ble_eq_true rfl) (kc_X0_punish hG hS t_x0 ok.1) (fun ⟨hS, hm_95⟩ => ?_)
        have hM := hM.trans hm_95
        have ok := ok.2
        exact cX.cutz (kb_X0_play_98 hG hX0 hX1 hrec hS hM t_x0 (hm_95.tK t_x1 (by decide)) ok hx) ⟨rfl, rfl, rfl, rfl, rfl, rfl, rfl, rfl, trivial⟩
def KL_X0_play_57 (N g H T : Nat) : Nat → Nat → Option Nat → Int32 → Int32 → Int32 → Int32 → Int32 → cS → Nat × Nat × Option Nat × Int32 × Int32 × Int32 × cS
  | 0, x0, x1, x3, x4, x5, x6, x7, S => (0, 0, none, 0, 0, 0, S)
  | n + 1, x0, x1, x3, x4, x5, x6, x7, S => KB_X0_play_57 N g H T (KL_X0_play_57 N g H T n) x0 x1 x3 x4 x5 x6 x7 S
def KOL_X0_play_57 (N g H T : Nat) : Nat → Nat → Option Nat → Int32 → Int32 → Int32 → Int32 → Int32 → cS → Prop
  | 0, _, _, _, _, _, _, _, _ => False
  | n + 1, x0, x1, x3, x4, x5, x6, x7, S => KOB_X0_play_57 N g H T (KOL_X0_play_57 N g H T n) x0 x1 x3 x4 x5 x6 x7 S
set_option maxRecDepth 100000 in
set_option maxHeartbeats 4000000 in
theorem kl_X0_play_57 {G : zG} {o : cO} {u g H T N : Nat} {S0 : cS} {Q : Option Value → cS → Prop} {X : Nat × Nat × Option Nat × Int32 × Int32 × Int32 × cS → Prop} (hG : zOK G) (hX0 : ∀ (x0 : Nat) (x1 : Option Nat) (x3 : Int32) (x4 : Int32) (x5 : Int32) (S' : cS), St u g H T S' → Mono S0 S' → X (0, x0, x1, x3, x4, x5, S') → cX G o dX0_play mX0_play 101 [none, none, none, none, none, none, none, none, none] [] S' Q) (hX1 : ∀ (x0 : Nat) (x1 : Option Nat) (x3 : Int32) (x4 : Int32) (x5 : Int32) (S' : cS), St u g H T S' → Mono S0 S' → isO g H 0 x0 → tK S' 20 x1 → X (1, x0, x1, x3, x4, x5, S') → cX G o dX0_play mX0_play 116 [some (va_rf (some x0)), some (va_rf x1), none, some (.int x3), some (.int x4), some (.int x5), none, none, none] [] S' Q) : ∀ (n : Nat) (x0 : Nat) (x1 : Option Nat) (x3 : Int32) (x4 : Int32) (x5 : Int32) (x6 : Int32) (x7 : Int32) (S : cS), St u g H T S → Mono S0 S → isO g H 0 x0 → tK S 20 x1 → KOL_X0_play_57 N g H T n x0 x1 x3 x4 x5 x6 x7 S → X (KL_X0_play_57 N g H T n x0 x1 x3 x4 x5 x6 x7 S) → cX G o dX0_play mX0_play 57 [some (va_rf (some x0)), some (va_rf x1), none, some (.int x3), some (.int x4), some (.int x5), some (.int x6), some (.int x7), none] [] S Q := by
  intro n
  induction n with
  | zero => intro x0 x1 x3 x4 x5 x6 x7 S hS hM t_x0 t_x1 ok; exact absurd ok id
  | succ n ih =>
    intro x0 x1 x3 x4 x5 x6 x7 S hS hM t_x0 t_x1 ok hx
    exact kbb_X0_play_57 hG hX0 hX1 (rec := KL_X0_play_57 N g H T n) (rok := KOL_X0_play_57 N g H T n) (fun x0 x1 x3 x4 x5 x6 x7 S hS hM t_x0 t_x1 ok hx => ih x0 x1 x3 x4 x5 x6 x7 S hS hM t_x0 t_x1 ok hx) hS hM t_x0 t_x1 ok hx
def KA_X0_play_57 (N g H T : Nat) (x0 : Nat) (x1 : Option Nat) (x3 : Int32) (x4 : Int32) (x5 : Int32) (x6 : Int32) (x7 : Int32) (S : cS) (z : Nat × Nat × Option Nat × Int32 × Int32 × Int32 × cS) : Int32 × cS := (if z.1 = 0 then (KF_X0_play_101 N g H T z.2.2.2.2.2.2) else (KA_X0_play_116 N g H T (z.2.1) (z.2.2.1) (z.2.2.2.1) (z.2.2.2.2.1) (z.2.2.2.2.2.1) z.2.2.2.2.2.2 (KL_X0_play_116 N g H T N (z.2.1) (z.2.2.1) (z.2.2.2.1) (z.2.2.2.2.1) (z.2.2.2.2.2.1) z.2.2.2.2.2.2)))
def KOA_X0_play_57 (N g H T : Nat) (x0 : Nat) (x1 : Option Nat) (x3 : Int32) (x4 : Int32) (x5 : Int32) (x6 : Int32) (x7 : Int32) (S : cS) (z : Nat × Nat × Option Nat × Int32 × Int32 × Int32 × cS) : Prop := (if z.1 = 0 then KO_X0_play_101 N g H T z.2.2.2.2.2.2 else (KOL_X0_play_116 N g H T N (z.2.1) (z.2.2.1) (z.2.2.2.1) (z.2.2.2.2.1) (z.2.2.2.2.2.1) z.2.2.2.2.2.2 ∧ KOA_X0_play_116 N g H T (z.2.1) (z.2.2.1) (z.2.2.2.1) (z.2.2.2.2.1) (z.2.2.2.2.2.1) z.2.2.2.2.2.2 (KL_X0_play_116 N g H T N (z.2.1) (z.2.2.1) (z.2.2.2.1) (z.2.2.2.2.1) (z.2.2.2.2.2.1) z.2.2.2.2.2.2)))
set_option maxRecDepth 100000 in
set_option maxHeartbeats 4000000 in
theorem kd_X0_play_57 {G : zG} {o : cO} {u g H T N : Nat} {S : cS} {S0 : cS} {Q : Option Value → cS → Prop} {X : Int32 × cS → Prop} (hG : zOK G) (hR : ∀ v S', St u g H T S' → Mono S0 S' → X (v, S') → Q (some (.int v)) S') {x0 : Nat} {x1 : Option Nat} {x3 : Int32} {x4 : Int32} {x5 : Int32} {x6 : Int32} {x7 : Int32} (hS : St u g H T S) (hM : Mono S0 S) (t_x0 : isO g H 0 x0) (t_x1 : tK S 20 x1) (ok : KOL_X0_play_57 N g H T N x0 x1 x3 x4 x5 x6 x7 S ∧ KOA_X0_play_57 N g H T x0 x1 x3 x4 x5 x6 x7 S (KL_X0_play_57 N g H T N x0 x1 x3 x4 x5 x6 x7 S)) (hx : X (KA_X0_play_57 N g H T x0 x1 x3 x4 x5 x6 x7 S (KL_X0_play_57 N g H T N x0 x1 x3 x4 x5 x6 x7 S))) : cX G o dX0_play mX0_play 57 [some (va_rf (some x0)), some (va_rf x1), none, some (.int x3), some (.int x4), some (.int x5), some (.int x6), some (.int x7), none] [] S Q := by
  refine kl_X0_play_57 hG ?_ ?_ N x0 x1 x3 x4 x5 x6 x7 S hS hM t_x0 t_x1 ok.1 (X := fun z => KOA_X0_play_57 N g H T x0 x1 x3 x4 x5 x6 x7 S z ∧ X (KA_X0_play_57 N g H T x0 x1 x3 x4 x5 x6 x7 S z)) ⟨ok.2, hx⟩
  · intro x0' x1' x3' x4' x5' S' hS hM hz
    obtain ⟨ok, hx⟩ := hz
    unfold KOA_X0_play_57 at ok
    unfold KA_X0_play_57 at hx
    have ok := xif_P (show (0 : Nat) = 0 from rfl) ok
    have hx := xif_p (show (0 : Nat) = 0 from rfl) hx
    exact cX.cutz (kb_X0_play_101 hG hR hS hM  ok hx) trivial
  · intro x0' x1' x3' x4' x5' S' hS hM t_x0 t_x1 hz
    obtain ⟨ok, hx⟩ := hz
    unfold KOA_X0_play_57 at ok
    unfold KA_X0_play_57 at hx
    have ok := xif_N (show ¬ (1 : Nat) = 0 by decide) ok
    have hx := xif_n (show ¬ (1 : Nat) = 0 by decide) hx
    exact cX.cutz (kd_X0_play_116 hG hR hS hM t_x0 t_x1 ok hx) ⟨rfl, rfl, rfl, rfl, rfl, trivial⟩
def KF_X0_play_23 (N g H T : Nat)  (S : cS) : Int32 × cS := ((nI 0), S)
def KO_X0_play_23 (N g H T : Nat)  (S : cS) : Prop := True
set_option maxRecDepth 100000 in
set_option maxHeartbeats 4000000 in
theorem kb_X0_play_23 {G : zG} {o : cO} {u g H T N : Nat} {S : cS} {S0 : cS} {Q : Option Value → cS → Prop} {X : Int32 × cS → Prop} (hG : zOK G) (hR : ∀ v S', St u g H T S' → Mono S0 S' → X (v, S') → Q (some (.int v)) S') (hS : St u g H T S) (hM : Mono S0 S) (ok : KO_X0_play_23 N g H T S) (hx : X (KF_X0_play_23 N g H T S)) : cX G o dX0_play mX0_play 23 [none, none, none, none, none, none, none, none, none] [] S Q := by
  unfold KO_X0_play_23 at ok
  unfold KF_X0_play_23 at hx
  refine c_iconst (v := nI 0) dX0_play_23 (by decide) ?_
  exact c_ireturn rfl rfl dX0_play_24 (hR _ _ hS hM hx)
def KF_X0_play_0 (N g H T : Nat) (x0 : Nat) (x1 : Option Nat) (x2 : Int32) (x3 : Int32) (S : cS) : Int32 × cS := (if x2 < 0 then (KF_X0_play_23 N g H T (csI S 5 x0 (nI 1))) else (if (nI (cL (csI S 5 x0 (nI 1)) (za x1))) < x3 then (KF_X0_play_23 N g H T (csI S 5 x0 (nI 1))) else (if (nI 101) ≤ (x3 - x2) then (KA_X0_play_57 N g H T x0 x1 x3 ((cA (csI S 5 x0 (nI 1)) (za x1) (x2 + (nI 2)).toNatClampNeg) &&& (nI 255)) (x2 + (nI 101)) ((cA (csI S 5 x0 (nI 1)) (za x1) (x2 + (nI 100)).toNatClampNeg) &&& (nI 255)) (nI 0) (csI S 5 x0 (nI 1)) (KL_X0_play_57 N g H T N x0 x1 x3 ((cA (csI S 5 x0 (nI 1)) (za x1) (x2 + (nI 2)).toNatClampNeg) &&& (nI 255)) (x2 + (nI 101)) ((cA (csI S 5 x0 (nI 1)) (za x1) (x2 + (nI 100)).toNatClampNeg) &&& (nI 255)) (nI 0) (csI S 5 x0 (nI 1)))) else (KF_X0_play_23 N g H T (csI S 5 x0 (nI 1))))))
def KO_X0_play_0 (N g H T : Nat) (x0 : Nat) (x1 : Option Nat) (x2 : Int32) (x3 : Int32) (S : cS) : Prop := ((x2 < 0 → KO_X0_play_23 N g H T (csI S 5 x0 (nI 1))) ∧ (¬ x2 < 0 → (¬ x1 = none) ∧ (((nI (cL (csI S 5 x0 (nI 1)) (za x1))) < x3 → KO_X0_play_23 N g H T (csI S 5 x0 (nI 1))) ∧ (¬ (nI (cL (csI S 5 x0 (nI 1)) (za x1))) < x3 → (((nI 101) ≤ (x3 - x2) → (¬ x1 = none ∧ vp_in (x2 + (nI 2)) (cL (csI S 5 x0 (nI 1)) (za x1))) ∧ (¬ x1 = none ∧ vp_in (x2 + (nI 100)) (cL (csI S 5 x0 (nI 1)) (za x1))) ∧ (KOL_X0_play_57 N g H T N x0 x1 x3 ((cA (csI S 5 x0 (nI 1)) (za x1) (x2 + (nI 2)).toNatClampNeg) &&& (nI 255)) (x2 + (nI 101)) ((cA (csI S 5 x0 (nI 1)) (za x1) (x2 + (nI 100)).toNatClampNeg) &&& (nI 255)) (nI 0) (csI S 5 x0 (nI 1)) ∧ KOA_X0_play_57 N g H T x0 x1 x3 ((cA (csI S 5 x0 (nI 1)) (za x1) (x2 + (nI 2)).toNatClampNeg) &&& (nI 255)) (x2 + (nI 101)) ((cA (csI S 5 x0 (nI 1)) (za x1) (x2 + (nI 100)).toNatClampNeg) &&& (nI 255)) (nI 0) (csI S 5 x0 (nI 1)) (KL_X0_play_57 N g H T N x0 x1 x3 ((cA (csI S 5 x0 (nI 1)) (za x1) (x2 + (nI 2)).toNatClampNeg) &&& (nI 255)) (x2 + (nI 101)) ((cA (csI S 5 x0 (nI 1)) (za x1) (x2 + (nI 100)).toNatClampNeg) &&& (nI 255)) (nI 0) (csI S 5 x0 (nI 1))))) ∧ (¬ (nI 101) ≤ (x3 - x2) → KO_X0_play_23 N g H T (csI S 5 x0 (nI 1))))))))
set_option maxRecDepth 100000 in
set_option maxHeartbeats 4000000 in
theorem kb_X0_play_0 {G : zG} {o : cO} {u g H T N : Nat} {S : cS} {S0 : cS} {Q : Option Value → cS → Prop} {X : Int32 × cS → Prop} (hG : zOK G) (hR : ∀ v S', St u g H T S' → Mono S0 S' → X (v, S') → Q (some (.int v)) S') {x0 : Nat} {x1 : Option Nat} {x2 : Int32} {x3 : Int32} (hS : St u g H T S) (hM : Mono S0 S) (t_x0 : isO g H 0 x0) (t_x1 : tK S 20 x1) (ok : KO_X0_play_0 N g H T x0 x1 x2 x3 S) (hx : X (KF_X0_play_0 N g H T x0 x1 x2 x3 S)) : cX G o dX0_play mX0_play 0 [some (va_rf (some x0)), some (va_rf x1), some (.int x2), some (.int x3), none, none, none, none, none] [] S Q := by
  unfold KO_X0_play_0 at ok
  unfold KF_X0_play_0 at hx
  refine c_aload_nQ dX0_play_0 rfl rfl ?_
  refine c_iconst (v := nI 1) dX0_play_1 (by decide) ?_
  refine c_putI (C := RX0) (T := TX0) (N := 6) (ci := 0) (k := 5) ⟨rfl, inT0, by decide, fX0_25⟩ ftT0 rfl (by decide) (by decide) (by decide) rfl rfl dX0_play_2 (hS.k t_x0) ?_
  have hS := hS.I 5 x0 (nI 1)
  have hM := hM.I 5 x0 (nI 1)
  refine c_iload_n dX0_play_5 rfl rfl ?_
  refine c_if_lt (tgt := 23) dX0_play_6 (by decide) (fun c_6 => ?_) (fun c_6 => ?_)
  · have ok := ok.1 c_6
    have hx := xif_p c_6 hx
    exact cX.cutz (kb_X0_play_23 hG hR hS hM  ok hx) trivial
  · have ok := ok.2 c_6
    have hx := xif_n c_6 hx
    refine c_iload_n dX0_play_9 rfl rfl ?_
    refine c_aload_nQ dX0_play_10 rfl rfl ?_
    refine c_alenS (t := 0) (ty := .byte) rfl dX0_play_11 (tK.cis (tK_I t_x1) ok.1) rfl ?_
    have ok := ok.2
    refine c_icmp_gt (tgt := 23) dX0_play_12 (by decide) (fun c_12 => ?_) (fun c_12 => ?_)
    · have ok := ok.1 c_12
      have hx := xif_p c_12 hx
      exact cX.cutz (kb_X0_play_23 hG hR hS hM  ok hx) trivial
    · have ok := ok.2 c_12
      have hx := xif_n c_12 hx
      refine c_iload_n dX0_play_15 rfl rfl ?_
      refine c_iload_n dX0_play_16 rfl rfl ?_
      refine c_isub dX0_play_17 ?_
      refine c_bipush (v := nI 101) dX0_play_18 (by decide) ?_
      refine c_icmp_ge (tgt := 25) dX0_play_20 (by decide) (fun c_20 => ?_) (fun c_20 => ?_)
      · have ok := ok.1 c_20
        have hx := xif_p c_20 hx
        refine c_aload_nQ dX0_play_25 rfl rfl ?_
        refine c_iload_n dX0_play_26 rfl rfl ?_
        refine c_iconst (v := nI 2) dX0_play_27 (by decide) ?_
        refine c_iadd dX0_play_28 ?_
        refine c_bald dX0_play_29 ⟨(tK.cis (tK_I t_x1) ok.1.1), ok.1.2⟩ ?_
        have ok := ok.2
        refine c_sipush (v := nI 255) dX0_play_30 (by decide) ?_
        refine c_iand dX0_play_33 ?_
        refine c_istore_4 dX0_play_34 (by decide) rfl ?_
        refine c_iload_n dX0_play_36 rfl rfl ?_
        refine c_bipush (v := nI 101) dX0_play_37 (by decide) ?_
        refine c_iadd dX0_play_39 ?_
        refine c_istore_5 dX0_play_40 (by decide) rfl ?_
        refine c_aload_nQ dX0_play_42 rfl rfl ?_
        refine c_iload_n dX0_play_43 rfl rfl ?_
        refine c_bipush (v := nI 100) dX0_play_44 (by decide) ?_
        refine c_iadd dX0_play_46 ?_
        refine c_bald dX0_play_47 ⟨(tK.cis (tK_I t_x1) ok.1.1), ok.1.2⟩ ?_
        have ok := ok.2
        refine c_sipush (v := nI 255) dX0_play_48 (by decide) ?_
        refine c_iand dX0_play_51 ?_
        refine c_istore_6 dX0_play_52 (by decide) rfl ?_
        refine c_iconst (v := nI 0) dX0_play_54 (by decide) ?_
        refine c_istore_7 dX0_play_55 (by decide) rfl ?_
        exact cX.cutz (kd_X0_play_57 hG hR hS hM t_x0 (tK_I t_x1) ok hx) ⟨rfl, rfl, rfl, rfl, rfl, rfl, rfl, trivial⟩
      · have ok := ok.2 c_20
        have hx := xif_n c_20 hx
        exact cX.cutz (kb_X0_play_23 hG hR hS hM  ok hx) trivial
def k_X0_play (N g H T : Nat) (S : cS) (a0 : Nat) (x1 : Option Nat) (x2 : Int32) (x3 : Int32) : Int32 × cS := KF_X0_play_0 N g H T a0 x1 x2 x3 S
def p_X0_play (N g H T : Nat) (S : cS) (a0 : Nat) (x1 : Option Nat) (x2 : Int32) (x3 : Int32) : Prop := KO_X0_play_0 N g H T a0 x1 x2 x3 S
set_option maxRecDepth 100000 in
set_option maxHeartbeats 4000000 in
theorem kc_X0_play {G : zG} {o : cO} {u g H T N : Nat} {S : cS} (hG : zOK G) {a0 : Nat} {x1 : Option Nat} {x2 : Int32} {x3 : Int32} (hS : St u g H T S) (t_x0 : isO g H 0 a0) (t_x1 : tK S 20 x1) (ok : p_X0_play N g H T S a0 x1 x2 x3) : cCi G o dX0_play mX0_play [.ref a0, va_rf x1, .int x2, .int x3] S (fun v S' => (v = (k_X0_play N g H T S a0 x1 x2 x3).1 ∧ S' = (k_X0_play N g H T S a0 x1 x2 x3).2) ∧ St u g H T S' ∧ Mono S S') := by
  refine cC.ofX rfl (by cases x1 <;> exact Nat.le_of_ble_eq_true rfl) ?_
  rw [show zargs mX0_play.2.2.1 [.ref a0, va_rf x1, .int x2, .int x3] = [some (va_rf (some a0)), some (va_rf x1), some (.int x2), some (.int x3), none, none, none, none, none] from by cases x1 <;> rfl]
  exact cX.cutz (kb_X0_play_0 (X := fun F => F = k_X0_play N g H T S a0 x1 x2 x3) hG (fun v S' h1 h2 h => ⟨v, rfl, ⟨by rw [← h], by rw [← h]⟩, h1, h2⟩) hS Mono.rfl' t_x0 t_x1 ok rfl) ⟨rfl, rfl, rfl, rfl, trivial⟩
/-! X0_putCode -/
def KF_X0_putCode_47 (N g H T : Nat)  (S : cS) : cS := S
def KO_X0_putCode_47 (N g H T : Nat)  (S : cS) : Prop := True
set_option maxRecDepth 100000 in
set_option maxHeartbeats 4000000 in
theorem kb_X0_putCode_47 {G : zG} {o : cO} {u g H T N : Nat} {S : cS} {S0 : cS} {Q : Option Value → cS → Prop} {X : cS → Prop} (hG : zOK G) (hR : ∀ S', St u g H T S' → Mono S0 S' → X S' → Q none S') (hS : St u g H T S) (hM : Mono S0 S) (ok : KO_X0_putCode_47 N g H T S) (hx : X (KF_X0_putCode_47 N g H T S)) : cX G o dX0_putCode mX0_putCode 47 [none, none, none, none, none] [] S Q := by
  unfold KO_X0_putCode_47 at ok
  unfold KF_X0_putCode_47 at hx
  exact c_return rfl dX0_putCode_47 (hR _ hS hM hx)
def KB_X0_putCode_3 (N g H T : Nat) (rec : Int64 → Option Nat → Int32 → Int32 → cS → Nat × cS) (x0 : Int64) (x2 : Option Nat) (x3 : Int32) (x4 : Int32) (S : cS) : Nat × cS := (if (nI 7) ≤ x4 then (0, S) else (if x3 < 0 then (0, S) else (if (nI (cL S (za x2))) ≤ (x3 + x4) then (0, S) else (rec x0 x2 x3 (x4 + nI 1) (csA S (za x2) (x3 + x4).toNatClampNeg (((Int64.toInt32 (x0 >>> (Int32.toInt64 ((nI 48) - ((nI 8) * x4)) &&& 63))).toInt8.toInt32).toInt8.toInt32))))))
def KOB_X0_putCode_3 (N g H T : Nat) (rok : Int64 → Option Nat → Int32 → Int32 → cS → Prop) (x0 : Int64) (x2 : Option Nat) (x3 : Int32) (x4 : Int32) (S : cS) : Prop := (((nI 7) ≤ x4 → True) ∧ (¬ (nI 7) ≤ x4 → ((x3 < 0 → True) ∧ (¬ x3 < 0 → (¬ x2 = none) ∧ (((nI (cL S (za x2))) ≤ (x3 + x4) → True) ∧ (¬ (nI (cL S (za x2))) ≤ (x3 + x4) → (¬ x2 = none ∧ vp_in (x3 + x4) (cL S (za x2))) ∧ rok x0 x2 x3 (x4 + nI 1) (csA S (za x2) (x3 + x4).toNatClampNeg (((Int64.toInt32 (x0 >>> (Int32.toInt64 ((nI 48) - ((nI 8) * x4)) &&& 63))).toInt8.toInt32).toInt8.toInt32))))))))
set_option maxRecDepth 100000 in
set_option maxHeartbeats 4000000 in
theorem kbb_X0_putCode_3 {G : zG} {o : cO} {u g H T N : Nat} {S : cS} {S0 : cS} {Q : Option Value → cS → Prop} {X : Nat × cS → Prop} (hG : zOK G) (hX0 : ∀ (S' : cS), St u g H T S' → Mono S0 S' → X (0, S') → cX G o dX0_putCode mX0_putCode 47 [none, none, none, none, none] [] S' Q) {rec : Int64 → Option Nat → Int32 → Int32 → cS → Nat × cS} {rok : Int64 → Option Nat → Int32 → Int32 → cS → Prop} (hrec : ∀ (x0 : Int64) (x2 : Option Nat) (x3 : Int32) (x4 : Int32) (S : cS), St u g H T S → Mono S0 S → tK S 20 x2 → rok x0 x2 x3 x4 S → X (rec x0 x2 x3 x4 S) → cX G o dX0_putCode mX0_putCode 3 [some (.long x0), none, some (va_rf x2), some (.int x3), some (.int x4)] [] S Q) {x0 : Int64} {x2 : Option Nat} {x3 : Int32} {x4 : Int32} (hS : St u g H T S) (hM : Mono S0 S) (t_x2 : tK S 20 x2) (ok : KOB_X0_putCode_3 N g H T rok x0 x2 x3 x4 S) (hx : X (KB_X0_putCode_3 N g H T rec x0 x2 x3 x4 S)) : cX G o dX0_putCode mX0_putCode 3 [some (.long x0), none, some (va_rf x2), some (.int x3), some (.int x4)] [] S Q := by
  unfold KOB_X0_putCode_3 at ok
  unfold KB_X0_putCode_3 at hx
  refine c_iload dX0_putCode_3 rfl ?_
  refine c_bipush (v := nI 7) dX0_putCode_5 (by decide) ?_
  refine c_icmp_ge (tgt := 47) dX0_putCode_7 (by decide) (fun c_7 => ?_) (fun c_7 => ?_)
  · have ok := ok.1 c_7
    have hx := xif_p c_7 hx
    exact cX.cutz (hX0 S hS hM  hx) trivial
  · have ok := ok.2 c_7
    have hx := xif_n c_7 hx
    refine c_iload_n dX0_putCode_10 rfl rfl ?_
    refine c_if_lt (tgt := 47) dX0_putCode_11 (by decide) (fun c_11 => ?_) (fun c_11 => ?_)
    · have ok := ok.1 c_11
      have hx := xif_p c_11 hx
      exact cX.cutz (hX0 S hS hM  hx) trivial
    · have ok := ok.2 c_11
      have hx := xif_n c_11 hx
      refine c_iload_n dX0_putCode_14 rfl rfl ?_
      refine c_iload dX0_putCode_15 rfl ?_
      refine c_iadd dX0_putCode_17 ?_
      refine c_aload_nQ dX0_putCode_18 rfl rfl ?_
      refine c_alenS (t := 0) (ty := .byte) rfl dX0_putCode_19 (tK.cis t_x2 ok.1) rfl ?_
      have ok := ok.2
      refine c_icmp_ge (tgt := 47) dX0_putCode_20 (by decide) (fun c_20 => ?_) (fun c_20 => ?_)
      · have ok := ok.1 c_20
        have hx := xif_p c_20 hx
        exact cX.cutz (hX0 S hS hM  hx) trivial
      · have ok := ok.2 c_20
        have hx := xif_n c_20 hx
        refine c_aload_nQ dX0_putCode_23 rfl rfl ?_
        refine c_iload_n dX0_putCode_24 rfl rfl ?_
        refine c_iload dX0_putCode_25 rfl ?_
        refine c_iadd dX0_putCode_27 ?_
        refine c_lload_n dX0_putCode_28 rfl rfl ?_
        refine c_bipush (v := nI 48) dX0_putCode_29 (by decide) ?_
        refine c_bipush (v := nI 8) dX0_putCode_31 (by decide) ?_
        refine c_iload dX0_putCode_33 rfl ?_
        refine c_imul dX0_putCode_35 ?_
        refine c_isub dX0_putCode_36 ?_
        refine c_lshr dX0_putCode_37 ?_
        refine c_l2i dX0_putCode_38 ?_
        refine c_i2b dX0_putCode_39 ?_
        refine c_bast dX0_putCode_40 ⟨(tK.cis t_x2 ok.1.1), ok.1.2⟩ ?_
        have hS := hS.Ab (za x2) (x3 + x4).toNatClampNeg ((Int64.toInt32 (x0 >>> (Int32.toInt64 ((nI 48) - ((nI 8) * x4)) &&& 63))).toInt8.toInt32)
        have hM := hM.A (za x2) (x3 + x4).toNatClampNeg (((Int64.toInt32 (x0 >>> (Int32.toInt64 ((nI 48) - ((nI 8) * x4)) &&& 63))).toInt8.toInt32).toInt8.toInt32)
        have ok := ok.2
        refine c_iinc_4 (v := (x4 + nI 1)) dX0_putCode_41 rfl (by first | rfl | (congr 1)) (by decide) rfl ?_
        refine c_goto (tgt := 3) dX0_putCode_44 (by decide) ?_
        exact cX.cutz (hrec _ _ _ _ (csA S (za x2) (x3 + x4).toNatClampNeg (((Int64.toInt32 (x0 >>> (Int32.toInt64 ((nI 48) - ((nI 8) * x4)) &&& 63))).toInt8.toInt32).toInt8.toInt32)) hS hM (tK_A t_x2) ok hx) ⟨rfl, rfl, rfl, rfl, trivial⟩
def KL_X0_putCode_3 (N g H T : Nat) : Nat → Int64 → Option Nat → Int32 → Int32 → cS → Nat × cS
  | 0, x0, x2, x3, x4, S => (0, S)
  | n + 1, x0, x2, x3, x4, S => KB_X0_putCode_3 N g H T (KL_X0_putCode_3 N g H T n) x0 x2 x3 x4 S
def KOL_X0_putCode_3 (N g H T : Nat) : Nat → Int64 → Option Nat → Int32 → Int32 → cS → Prop
  | 0, _, _, _, _, _ => False
  | n + 1, x0, x2, x3, x4, S => KOB_X0_putCode_3 N g H T (KOL_X0_putCode_3 N g H T n) x0 x2 x3 x4 S
set_option maxRecDepth 100000 in
set_option maxHeartbeats 4000000 in
theorem kl_X0_putCode_3 {G : zG} {o : cO} {u g H T N : Nat} {S0 : cS} {Q : Option Value → cS → Prop} {X : Nat × cS → Prop} (hG : zOK G) (hX0 : ∀ (S' : cS), St u g H T S' → Mono S0 S' → X (0, S') → cX G o dX0_putCode mX0_putCode 47 [none, none, none, none, none] [] S' Q) : ∀ (n : Nat) (x0 : Int64) (x2 : Option Nat) (x3 : Int32) (x4 : Int32) (S : cS), St u g H T S → Mono S0 S → tK S 20 x2 → KOL_X0_putCode_3 N g H T n x0 x2 x3 x4 S → X (KL_X0_putCode_3 N g H T n x0 x2 x3 x4 S) → cX G o dX0_putCode mX0_putCode 3 [some (.long x0), none, some (va_rf x2), some (.int x3), some (.int x4)] [] S Q := by
  intro n
  induction n with
  | zero => intro x0 x2 x3 x4 S hS hM t_x2 ok; exact absurd ok id
  | succ n ih =>
    intro x0 x2 x3 x4 S hS hM t_x2 ok hx
    exact kbb_X0_putCode_3 hG hX0 (rec := KL_X0_putCode_3 N g H T n) (rok := KOL_X0_putCode_3 N g H T n) (fun x0 x2 x3 x4 S hS hM t_x2 ok hx => ih x0 x2 x3 x4 S hS hM t_x2 ok hx) hS hM t_x2 ok hx
def KA_X0_putCode_3 (N g H T : Nat) (x0 : Int64) (x2 : Option Nat) (x3 : Int32) (x4 : Int32) (S : cS) (z : Nat × cS) : cS := (KF_X0_putCode_47 N g H T z.2)
def KOA_X0_putCode_3 (N g H T : Nat) (x0 : Int64) (x2 : Option Nat) (x3 : Int32) (x4 : Int32) (S : cS) (z : Nat × cS) : Prop := KO_X0_putCode_47 N g H T z.2
set_option maxRecDepth 100000 in
set_option maxHeartbeats 4000000 in
theorem kd_X0_putCode_3 {G : zG} {o : cO} {u g H T N : Nat} {S : cS} {S0 : cS} {Q : Option Value → cS → Prop} {X : cS → Prop} (hG : zOK G) (hR : ∀ S', St u g H T S' → Mono S0 S' → X S' → Q none S') {x0 : Int64} {x2 : Option Nat} {x3 : Int32} {x4 : Int32} (hS : St u g H T S) (hM : Mono S0 S) (t_x2 : tK S 20 x2) (ok : KOL_X0_putCode_3 N g H T N x0 x2 x3 x4 S ∧ KOA_X0_putCode_3 N g H T x0 x2 x3 x4 S (KL_X0_putCode_3 N g H T N x0 x2 x3 x4 S)) (hx : X (KA_X0_putCode_3 N g H T x0 x2 x3 x4 S (KL_X0_putCode_3 N g H T N x0 x2 x3 x4 S))) : cX G o dX0_putCode mX0_putCode 3 [some (.long x0), none, some (va_rf x2), some (.int x3), some (.int x4)] [] S Q := by
  refine kl_X0_putCode_3 hG ?_ N x0 x2 x3 x4 S hS hM t_x2 ok.1 (X := fun z => KOA_X0_putCode_3 N g H T x0 x2 x3 x4 S z ∧ X (KA_X0_putCode_3 N g H T x0 x2 x3 x4 S z)) ⟨ok.2, hx⟩
  · intro S' hS hM hz
    obtain ⟨ok, hx⟩ := hz
    unfold KOA_X0_putCode_3 at ok
    unfold KA_X0_putCode_3 at hx
    exact cX.cutz (kb_X0_putCode_47 hG hR hS hM  ok hx) trivial
def KF_X0_putCode_0 (N g H T : Nat) (x0 : Int64) (x2 : Option Nat) (x3 : Int32) (S : cS) : cS := (KA_X0_putCode_3 N g H T x0 x2 x3 (nI 0) S (KL_X0_putCode_3 N g H T N x0 x2 x3 (nI 0) S))
def KO_X0_putCode_0 (N g H T : Nat) (x0 : Int64) (x2 : Option Nat) (x3 : Int32) (S : cS) : Prop := (KOL_X0_putCode_3 N g H T N x0 x2 x3 (nI 0) S ∧ KOA_X0_putCode_3 N g H T x0 x2 x3 (nI 0) S (KL_X0_putCode_3 N g H T N x0 x2 x3 (nI 0) S))
set_option maxRecDepth 100000 in
set_option maxHeartbeats 4000000 in
theorem kb_X0_putCode_0 {G : zG} {o : cO} {u g H T N : Nat} {S : cS} {S0 : cS} {Q : Option Value → cS → Prop} {X : cS → Prop} (hG : zOK G) (hR : ∀ S', St u g H T S' → Mono S0 S' → X S' → Q none S') {x0 : Int64} {x2 : Option Nat} {x3 : Int32} (hS : St u g H T S) (hM : Mono S0 S) (t_x2 : tK S 20 x2) (ok : KO_X0_putCode_0 N g H T x0 x2 x3 S) (hx : X (KF_X0_putCode_0 N g H T x0 x2 x3 S)) : cX G o dX0_putCode mX0_putCode 0 [some (.long x0), none, some (va_rf x2), some (.int x3), none] [] S Q := by
  unfold KO_X0_putCode_0 at ok
  unfold KF_X0_putCode_0 at hx
  refine c_iconst (v := nI 0) dX0_putCode_0 (by decide) ?_
  refine c_istore_4 dX0_putCode_1 (by decide) rfl ?_
  exact cX.cutz (kd_X0_putCode_3 hG hR hS hM t_x2 ok hx) ⟨rfl, rfl, rfl, rfl, trivial⟩
def k_X0_putCode (N g H T : Nat) (S : cS) (x0 : Int64) (x2 : Option Nat) (x3 : Int32) : cS := KF_X0_putCode_0 N g H T x0 x2 x3 S
def p_X0_putCode (N g H T : Nat) (S : cS) (x0 : Int64) (x2 : Option Nat) (x3 : Int32) : Prop := KO_X0_putCode_0 N g H T x0 x2 x3 S
set_option maxRecDepth 100000 in
set_option maxHeartbeats 4000000 in
theorem kc_X0_putCode {G : zG} {o : cO} {u g H T N : Nat} {S : cS} (hG : zOK G) {x0 : Int64} {x2 : Option Nat} {x3 : Int32} (hS : St u g H T S) (t_x2 : tK S 20 x2) (ok : p_X0_putCode N g H T S x0 x2 x3) : cCv G o dX0_putCode mX0_putCode [.long x0, va_rf x2, .int x3] S (fun S' => S' = k_X0_putCode N g H T S x0 x2 x3 ∧ St u g H T S' ∧ Mono S S') := by
  refine cC.ofX rfl (by cases x2 <;> exact Nat.le_of_ble_eq_true rfl) ?_
  rw [show zargs mX0_putCode.2.2.1 [.long x0, va_rf x2, .int x3] = [some (.long x0), none, some (va_rf x2), some (.int x3), none] from by cases x2 <;> rfl]
  exact cX.cutz (kb_X0_putCode_0 (X := fun F => F = k_X0_putCode N g H T S x0 x2 x3) hG (fun S' h1 h2 h => ⟨rfl, h, h1, h2⟩) hS Mono.rfl' t_x2 ok rfl) ⟨rfl, rfl, rfl, trivial⟩
/-! X11_putTwo -/
def KF_X11_putTwo_27 (N g H T : Nat)  (S : cS) : cS := S
def KO_X11_putTwo_27 (N g H T : Nat)  (S : cS) : Prop := True
set_option maxRecDepth 100000 in
set_option maxHeartbeats 4000000 in
theorem kb_X11_putTwo_27 {G : zG} {o : cO} {u g H T N : Nat} {S : cS} {S0 : cS} {Q : Option Value → cS → Prop} {X : cS → Prop} (hG : zOK G) (hR : ∀ S', St u g H T S' → Mono S0 S' → X S' → Q none S') (hS : St u g H T S) (hM : Mono S0 S) (ok : KO_X11_putTwo_27 N g H T S) (hx : X (KF_X11_putTwo_27 N g H T S)) : cX G o dX11_putTwo mX11_putTwo 27 [none, none, none] [] S Q := by
  unfold KO_X11_putTwo_27 at ok
  unfold KF_X11_putTwo_27 at hx
  exact c_return rfl dX11_putTwo_27 (hR _ hS hM hx)
def KF_X11_putTwo_0 (N g H T : Nat) (x0 : Option Nat) (x1 : Int32) (x2 : Int32) (S : cS) : cS := (if x1 < 0 then (KF_X11_putTwo_27 N g H T S) else (if ((nI (cL S (za x0))) - (nI 2)) < x1 then (KF_X11_putTwo_27 N g H T S) else (KF_X11_putTwo_27 N g H T (csA (csA S (za x0) x1.toNatClampNeg (((x2 >>> ((nI 8) &&& 31)).toInt8.toInt32).toInt8.toInt32)) (za x0) (x1 + (nI 1)).toNatClampNeg ((x2.toInt8.toInt32).toInt8.toInt32)))))
def KO_X11_putTwo_0 (N g H T : Nat) (x0 : Option Nat) (x1 : Int32) (x2 : Int32) (S : cS) : Prop := ((x1 < 0 → KO_X11_putTwo_27 N g H T S) ∧ (¬ x1 < 0 → (¬ x0 = none) ∧ ((((nI (cL S (za x0))) - (nI 2)) < x1 → KO_X11_putTwo_27 N g H T S) ∧ (¬ ((nI (cL S (za x0))) - (nI 2)) < x1 → (¬ x0 = none ∧ vp_in x1 (cL S (za x0))) ∧ (¬ x0 = none ∧ vp_in (x1 + (nI 1)) (cL (csA S (za x0) x1.toNatClampNeg (((x2 >>> ((nI 8) &&& 31)).toInt8.toInt32).toInt8.toInt32)) (za x0))) ∧ KO_X11_putTwo_27 N g H T (csA (csA S (za x0) x1.toNatClampNeg (((x2 >>> ((nI 8) &&& 31)).toInt8.toInt32).toInt8.toInt32)) (za x0) (x1 + (nI 1)).toNatClampNeg ((x2.toInt8.toInt32).toInt8.toInt32))))))
set_option maxRecDepth 100000 in
set_option maxHeartbeats 4000000 in
theorem kb_X11_putTwo_0 {G : zG} {o : cO} {u g H T N : Nat} {S : cS} {S0 : cS} {Q : Option Value → cS → Prop} {X : cS → Prop} (hG : zOK G) (hR : ∀ S', St u g H T S' → Mono S0 S' → X S' → Q none S') {x0 : Option Nat} {x1 : Int32} {x2 : Int32} (hS : St u g H T S) (hM : Mono S0 S) (t_x0 : tK S 20 x0) (ok : KO_X11_putTwo_0 N g H T x0 x1 x2 S) (hx : X (KF_X11_putTwo_0 N g H T x0 x1 x2 S)) : cX G o dX11_putTwo mX11_putTwo 0 [some (va_rf x0), some (.int x1), some (.int x2)] [] S Q := by
  unfold KO_X11_putTwo_0 at ok
  unfold KF_X11_putTwo_0 at hx
  refine c_iload_n dX11_putTwo_0 rfl rfl ?_
  refine c_if_lt (tgt := 27) dX11_putTwo_1 (by decide) (fun c_1 => ?_) (fun c_1 => ?_)
  · have ok := ok.1 c_1
    have hx := xif_p c_1 hx
    exact cX.cutz (kb_X11_putTwo_27 hG hR hS hM  ok hx) trivial
  · have ok := ok.2 c_1
    have hx := xif_n c_1 hx
    refine c_iload_n dX11_putTwo_4 rfl rfl ?_
    refine c_aload_nQ dX11_putTwo_5 rfl rfl ?_
    refine c_alenS (t := 0) (ty := .byte) rfl dX11_putTwo_6 (tK.cis t_x0 ok.1) rfl ?_
    have ok := ok.2
    refine c_iconst (v := nI 2) dX11_putTwo_7 (by decide) ?_
    refine c_isub dX11_putTwo_8 ?_
    refine c_icmp_gt (tgt := 27) dX11_putTwo_9 (by decide) (fun c_9 => ?_) (fun c_9 => ?_)
    · have ok := ok.1 c_9
      have hx := xif_p c_9 hx
      exact cX.cutz (kb_X11_putTwo_27 hG hR hS hM  ok hx) trivial
    · have ok := ok.2 c_9
      have hx := xif_n c_9 hx
      refine c_aload_nQ dX11_putTwo_12 rfl rfl ?_
      refine c_iload_n dX11_putTwo_13 rfl rfl ?_
      refine c_iload_n dX11_putTwo_14 rfl rfl ?_
      refine c_bipush (v := nI 8) dX11_putTwo_15 (by decide) ?_
      refine c_ishr dX11_putTwo_17 ?_
      refine c_i2b dX11_putTwo_18 ?_
      refine c_bast dX11_putTwo_19 ⟨(tK.cis t_x0 ok.1.1), ok.1.2⟩ ?_
      have hS := hS.Ab (za x0) x1.toNatClampNeg ((x2 >>> ((nI 8) &&& 31)).toInt8.toInt32)
      have hM := hM.A (za x0) x1.toNatClampNeg (((x2 >>> ((nI 8) &&& 31)).toInt8.toInt32).toInt8.toInt32)
      have ok := ok.2
      refine c_aload_nQ dX11_putTwo_20 rfl rfl ?_
      refine c_iload_n dX11_putTwo_21 rfl rfl ?_
      refine c_iconst (v := nI 1) dX11_putTwo_22 (by decide) ?_
      refine c_iadd dX11_putTwo_23 ?_
      refine c_iload_n dX11_putTwo_24 rfl rfl ?_
      refine c_i2b dX11_putTwo_25 ?_
      refine c_bast dX11_putTwo_26 ⟨(tK.cis (tK_A t_x0) ok.1.1), ok.1.2⟩ ?_
      have hS := hS.Ab (za x0) (x1 + (nI 1)).toNatClampNeg (x2.toInt8.toInt32)
      have hM := hM.A (za x0) (x1 + (nI 1)).toNatClampNeg ((x2.toInt8.toInt32).toInt8.toInt32)
      have ok := ok.2
      exact cX.cutz (kb_X11_putTwo_27 hG hR hS hM  ok hx) trivial
def k_X11_putTwo (N g H T : Nat) (S : cS) (x0 : Option Nat) (x1 : Int32) (x2 : Int32) : cS := KF_X11_putTwo_0 N g H T x0 x1 x2 S
def p_X11_putTwo (N g H T : Nat) (S : cS) (x0 : Option Nat) (x1 : Int32) (x2 : Int32) : Prop := KO_X11_putTwo_0 N g H T x0 x1 x2 S
set_option maxRecDepth 100000 in
set_option maxHeartbeats 4000000 in
theorem kc_X11_putTwo {G : zG} {o : cO} {u g H T N : Nat} {S : cS} (hG : zOK G) {x0 : Option Nat} {x1 : Int32} {x2 : Int32} (hS : St u g H T S) (t_x0 : tK S 20 x0) (ok : p_X11_putTwo N g H T S x0 x1 x2) : cCv G o dX11_putTwo mX11_putTwo [va_rf x0, .int x1, .int x2] S (fun S' => S' = k_X11_putTwo N g H T S x0 x1 x2 ∧ St u g H T S' ∧ Mono S S') := by
  refine cC.ofX rfl (by cases x0 <;> exact Nat.le_of_ble_eq_true rfl) ?_
  rw [show zargs mX11_putTwo.2.2.1 [va_rf x0, .int x1, .int x2] = [some (va_rf x0), some (.int x1), some (.int x2)] from by cases x0 <;> rfl]
  exact cX.cutz (kb_X11_putTwo_0 (X := fun F => F = k_X11_putTwo N g H T S x0 x1 x2) hG (fun S' h1 h2 h => ⟨rfl, h, h1, h2⟩) hS Mono.rfl' t_x0 ok rfl) ⟨rfl, rfl, rfl, trivial⟩

/-! X7_take -/
def KF_X7_take_48 (N g H T : Nat) (x0 : Option Nat) (x1 : Option Nat) (S : cS) : cS := (k_X6_enter N g H T S (za x0) (k_X5_two N g H T S (za x1) (nI 1)))
def KO_X7_take_48 (N g H T : Nat) (x0 : Option Nat) (x1 : Option Nat) (S : cS) : Prop := (¬ x1 = none ∧ p_X5_two N g H T S (za x1) (nI 1)) ∧ (¬ x0 = none ∧ p_X6_enter N g H T S (za x0) (k_X5_two N g H T S (za x1) (nI 1))) ∧ True
set_option maxRecDepth 100000 in
set_option maxHeartbeats 4000000 in
theorem kb_X7_take_48 {G : zG} {o : cO} {u g H T N : Nat} {S : cS} {S0 : cS} {Q : Option Value → cS → Prop} {X : cS → Prop} (hG : zOK G) (hR : ∀ S', St u g H T S' → Mono S0 S' → X S' → Q none S') {x0 : Option Nat} {x1 : Option Nat} (hS : St u g H T S) (hM : Mono S0 S) (t_x0 : tN g H x0) (t_x1 : tK S 5 x1) (ok : KO_X7_take_48 N g H T x0 x1 S) (hx : X (KF_X7_take_48 N g H T x0 x1 S)) : cX G o dX7_take mX7_take 48 [some (va_rf x0), some (va_rf x1)] [] S Q := by
  unfold KO_X7_take_48 at ok
  unfold KF_X7_take_48 at hx
  refine c_aload_nQ dX7_take_48 rfl rfl ?_
  refine c_aload_nQ dX7_take_49 rfl rfl ?_
  refine c_iconst (v := nI 1) dX7_take_50 (by decide) ?_
  have nn_51 := ok.1.1
  refine c_V1iE (ci := 4) (rr := (RX5, TX5, 7)) (y' := mX5_two) dX7_take_51 lX7_93 kX5_two ⟨by decide, by decide⟩ rfl rfl (by decide) (tK.cis t_x1 nn_51) (by simp only [List.map_cons, List.map_nil, List.sum_cons, List.sum_nil, zcat_rf, zcat_i, zcat_l, zcat_r] <;> decide) (kc_X5_two hG hS (t_x1 _ (za_of nn_51)) ok.1.2) ?_
  have ok := ok.2
  have nn_54 := ok.1.1
  refine c_V1vK (ci := 5) (rr := (RX6, TX6, 19)) (y' := mX6_enter) dX7_take_54 lX7_144 kX6_enter ⟨by decide, by decide⟩ rfl rfl (by decide) (hS.kN t_x0 nn_54) (Nat.le_of_ble_eq_true rfl) (kc_X6_enter hG hS (tN.o t_x0 nn_54) ok.1.2) (fun ⟨hS, hm_54⟩ => ?_)
  have hM := hM.trans hm_54
  have ok := ok.2
  exact c_return rfl dX7_take_57 (hR _ hS hM hx)
def KF_X7_take_42 (N g H T : Nat) (x0 : Option Nat) (x1 : Option Nat) (S : cS) : cS := (KF_X7_take_48 N g H T x0 x1 (k_X6_forgetAnswers N g H T S (za x0) (nI 0) (nI 4)))
def KO_X7_take_42 (N g H T : Nat) (x0 : Option Nat) (x1 : Option Nat) (S : cS) : Prop := (¬ x0 = none ∧ p_X6_forgetAnswers N g H T S (za x0) (nI 0) (nI 4)) ∧ KO_X7_take_48 N g H T x0 x1 (k_X6_forgetAnswers N g H T S (za x0) (nI 0) (nI 4))
set_option maxRecDepth 100000 in
set_option maxHeartbeats 4000000 in
theorem kb_X7_take_42 {G : zG} {o : cO} {u g H T N : Nat} {S : cS} {S0 : cS} {Q : Option Value → cS → Prop} {X : cS → Prop} (hG : zOK G) (hR : ∀ S', St u g H T S' → Mono S0 S' → X S' → Q none S') {x0 : Option Nat} {x1 : Option Nat} (hS : St u g H T S) (hM : Mono S0 S) (t_x0 : tN g H x0) (t_x1 : tK S 5 x1) (ok : KO_X7_take_42 N g H T x0 x1 S) (hx : X (KF_X7_take_42 N g H T x0 x1 S)) : cX G o dX7_take mX7_take 42 [some (va_rf x0), some (va_rf x1)] [] S Q := by
  unfold KO_X7_take_42 at ok
  unfold KF_X7_take_42 at hx
  refine c_aload_nQ dX7_take_42 rfl rfl ?_
  refine c_iconst (v := nI 0) dX7_take_43 (by decide) ?_
  refine c_iconst (v := nI 4) dX7_take_44 (by decide) ?_
  have nn_45 := ok.1.1
  refine c_V2vK (ci := 5) (rr := (RX6, TX6, 19)) (y' := mX6_forgetAnswers) dX7_take_45 lX7_140 kX6_forgetAnswers ⟨by decide, by decide⟩ rfl rfl (by decide) (hS.kN t_x0 nn_45) (Nat.le_of_ble_eq_true rfl) (kc_X6_forgetAnswers hG hS (tN.o t_x0 nn_45) ok.1.2) (fun ⟨hS, hm_45⟩ => ?_)
  have hM := hM.trans hm_45
  have ok := ok.2
  exact cX.cutz (kb_X7_take_48 hG hR hS hM t_x0 (hm_45.tK t_x1 (by decide)) ok hx) ⟨rfl, rfl, trivial⟩
def KF_X7_take_31 (N g H T : Nat) (x0 : Option Nat) (x1 : Option Nat) (S : cS) : cS := (KF_X7_take_42 N g H T x0 x1 (k_X0_load N g H T S ((za x0) + 6) (some ((za x1) + 2))))
def KO_X7_take_31 (N g H T : Nat) (x0 : Option Nat) (x1 : Option Nat) (S : cS) : Prop := (¬ x0 = none) ∧ (¬ x1 = none) ∧ (p_X0_load N g H T S ((za x0) + 6) (some ((za x1) + 2))) ∧ KO_X7_take_42 N g H T x0 x1 (k_X0_load N g H T S ((za x0) + 6) (some ((za x1) + 2)))
set_option maxRecDepth 100000 in
set_option maxHeartbeats 4000000 in
theorem kb_X7_take_31 {G : zG} {o : cO} {u g H T N : Nat} {S : cS} {S0 : cS} {Q : Option Value → cS → Prop} {X : cS → Prop} (hG : zOK G) (hR : ∀ S', St u g H T S' → Mono S0 S' → X S' → Q none S') {x0 : Option Nat} {x1 : Option Nat} (hS : St u g H T S) (hM : Mono S0 S) (t_x0 : tN g H x0) (t_x1 : tK S 5 x1) (ok : KO_X7_take_31 N g H T x0 x1 S) (hx : X (KF_X7_take_31 N g H T x0 x1 S)) : cX G o dX7_take mX7_take 31 [some (va_rf x0), some (va_rf x1)] [] S Q := by
  unfold KO_X7_take_31 at ok
  unfold KF_X7_take_31 at hx
  refine c_aload_nQ dX7_take_31 rfl rfl ?_
  have nn_32 := ok.1
  refine c_getS (C := RX6) (T := TX6) (N := 19) (ci := 5) (k := 4) ⟨rfl, inT6, by decide, fX7_22⟩ (by decide) (by decide) (by decide) dX7_take_32 (hS.kN t_x0 ok.1) (hS.r (c := 5) (tN.o t_x0 ok.1) rfl (by omega)) ?_
  have ok := ok.2
  refine c_aload_nQ dX7_take_35 rfl rfl ?_
  have nn_36 := ok.1
  have p_36 := hS.m0k t_x1 ok.1
  refine c_getS (C := RX5) (T := TX5) (N := 7) (ci := 4) (k := 0) ⟨rfl, inT5, by decide, fX7_123⟩ (by decide) (by decide) (by decide) dX7_take_36 (tK.cis t_x1 ok.1) (hS.m0 t_x1 ok.1) ?_
  have ok := ok.2
  refine c_V1vK (ci := 0) (rr := (RX0, TX0, 6)) (y' := mX0_load) dX7_take_39 lX7_136 kX0_load ⟨by decide, by decide⟩ rfl rfl (by decide) (hS.k (o54 (tN.o t_x0 nn_32))) (Nat.le_of_ble_eq_true rfl) (kc_X0_load hG hS (o54 (tN.o t_x0 nn_32)) p_36 ok.1) (fun ⟨hS, hm_39⟩ => ?_)
  have hM := hM.trans hm_39
  have ok := ok.2
  exact cX.cutz (kb_X7_take_42 hG hR hS hM t_x0 (hm_39.tK t_x1 (by decide)) ok hx) ⟨rfl, rfl, trivial⟩
def KF_X7_take_8 (N g H T : Nat) (x0 : Option Nat) (x1 : Option Nat) (s0 : Int32) (S : cS) : cS := (if s0 = 0 then (k_X6_fall N g H T S (za x0)) else (KF_X7_take_31 N g H T x0 x1 (csArow S ((za x0) + 11) (va_cpy (cA S ((za x1) + 2)) (cA S ((za x0) + 11)) (nI 3).toNatClampNeg (nI 0).toNatClampNeg (nI 32).toNatClampNeg))))
def KO_X7_take_8 (N g H T : Nat) (x0 : Option Nat) (x1 : Option Nat) (s0 : Int32) (S : cS) : Prop := ((s0 = 0 → (¬ x0 = none ∧ p_X6_fall N g H T S (za x0)) ∧ True) ∧ (¬ s0 = 0 → (¬ x1 = none) ∧ (¬ x0 = none) ∧ ((¬ (nI 3) < 0 ∧ ¬ (nI 0) < 0 ∧ ¬ (nI 32) < 0) ∧ (nI 3).toNatClampNeg + (nI 32).toNatClampNeg ≤ (cL S ((za x1) + 2)) ∧ (nI 0).toNatClampNeg + (nI 32).toNatClampNeg ≤ 32) ∧ KO_X7_take_31 N g H T x0 x1 (csArow S ((za x0) + 11) (va_cpy (cA S ((za x1) + 2)) (cA S ((za x0) + 11)) (nI 3).toNatClampNeg (nI 0).toNatClampNeg (nI 32).toNatClampNeg))))
set_option maxRecDepth 100000 in
set_option maxHeartbeats 4000000 in
theorem kb_X7_take_8 {G : zG} {o : cO} {u g H T N : Nat} {S : cS} {S0 : cS} {Q : Option Value → cS → Prop} {X : cS → Prop} (hG : zOK G) (hR : ∀ S', St u g H T S' → Mono S0 S' → X S' → Q none S') {x0 : Option Nat} {x1 : Option Nat} {s0 : Int32} (hS : St u g H T S) (hM : Mono S0 S) (t_x0 : tN g H x0) (t_x1 : tK S 5 x1) (ok : KO_X7_take_8 N g H T x0 x1 s0 S) (hx : X (KF_X7_take_8 N g H T x0 x1 s0 S)) : cX G o dX7_take mX7_take 8 [some (va_rf x0), some (va_rf x1)] [.int s0] S Q := by
  unfold KO_X7_take_8 at ok
  unfold KF_X7_take_8 at hx
  refine c_if_ne (tgt := 16) dX7_take_8 (by decide) (fun c_8 => ?_) (fun c_8 => ?_)
  · have ok := ok.2 c_8
    have hx := xif_n c_8 hx
    refine c_aload_nQ dX7_take_16 rfl rfl ?_
    have nn_17 := ok.1
    have p_17 := hS.m0k t_x1 ok.1
    refine c_getS (C := RX5) (T := TX5) (N := 7) (ci := 4) (k := 0) ⟨rfl, inT5, by decide, fX7_123⟩ (by decide) (by decide) (by decide) dX7_take_17 (tK.cis t_x1 ok.1) (hS.m0 t_x1 ok.1) ?_
    have ok := ok.2
    refine c_iconst (v := nI 3) dX7_take_20 (by decide) ?_
    refine c_aload_nQ dX7_take_21 rfl rfl ?_
    have nn_22 := ok.1
    refine c_getS (C := RX6) (T := TX6) (N := 19) (ci := 5) (k := 5) ⟨rfl, inT6, by decide, fX7_127⟩ (by decide) (by decide) (by decide) dX7_take_22 (hS.kN t_x0 ok.1) (hS.r (c := 5) (tN.o t_x0 ok.1) rfl (by omega)) ?_
    have ok := ok.2
    refine c_iconst (v := nI 0) dX7_take_25 (by decide) ?_
    refine c_bipush (v := nI 32) dX7_take_26 (by decide) ?_
    have tq_28 : tK S 20 (some ((za x1) + 2)) := tK_some (tK.cis p_17 (Option.some_ne_none _)).2
    refine c_copy0 hG dX7_take_28 qX7_130 (by decide) (by decide) ⟨tK.cis p_17 (Option.some_ne_none _), tK.cis (hS.rk (c := 5) (k := 5) (tN.o t_x0 nn_22) rfl (by omega)) (Option.some_ne_none _), ok.1.1, ok.1.2.1, (le_cast (hS.rl (c := 5) (k := 5) (tN.o t_x0 nn_22) rfl (by decide) (by omega)) ok.1.2.2)⟩ ?_
    have hS := hS.Ac ((za x0) + 11) ((za x1) + 2) (nI 3).toNatClampNeg (nI 0).toNatClampNeg (nI 32).toNatClampNeg tq_28
    have hM := hM.Ar ((za x0) + 11) (va_cpy (cA S ((za x1) + 2)) (cA S ((za x0) + 11)) (nI 3).toNatClampNeg (nI 0).toNatClampNeg (nI 32).toNatClampNeg)
    have ok := ok.2
    exact cX.cutz (kb_X7_take_31 hG hR hS hM t_x0 (tK_Ar t_x1) ok hx) ⟨rfl, rfl, trivial⟩
  · have ok := ok.1 c_8
    have hx := xif_p c_8 hx
    refine c_aload_nQ dX7_take_11 rfl rfl ?_
    have nn_12 := ok.1.1
    refine c_V0vK (ci := 5) (rr := (RX6, TX6, 19)) (y' := mX6_fall) dX7_take_12 lX7_120 kX6_fall ⟨by decide, by decide⟩ rfl rfl (by decide) (hS.kN t_x0 nn_12) (Nat.le_of_ble_eq_true rfl) (kc_X6_fall hG hS (tN.o t_x0 nn_12) ok.1.2) (fun ⟨hS, hm_12⟩ => ?_)
    have hM := hM.trans hm_12
    have ok := ok.2
    exact c_return rfl dX7_take_15 (hR _ hS hM hx)
def KF_X7_take_0 (N g H T : Nat) (x0 : Option Nat) (x1 : Option Nat) (S : cS) : cS := (KF_X7_take_8 N g H T x0 x1 ((k_X4_noteSnap N g H T S ((za x0) + 1) x1).1) (k_X4_noteSnap N g H T S ((za x0) + 1) x1).2)
def KO_X7_take_0 (N g H T : Nat) (x0 : Option Nat) (x1 : Option Nat) (S : cS) : Prop := (¬ x0 = none) ∧ (p_X4_noteSnap N g H T S ((za x0) + 1) x1) ∧ KO_X7_take_8 N g H T x0 x1 ((k_X4_noteSnap N g H T S ((za x0) + 1) x1).1) (k_X4_noteSnap N g H T S ((za x0) + 1) x1).2
set_option maxRecDepth 100000 in
set_option maxHeartbeats 4000000 in
theorem kb_X7_take_0 {G : zG} {o : cO} {u g H T N : Nat} {S : cS} {S0 : cS} {Q : Option Value → cS → Prop} {X : cS → Prop} (hG : zOK G) (hR : ∀ S', St u g H T S' → Mono S0 S' → X S' → Q none S') {x0 : Option Nat} {x1 : Option Nat} (hS : St u g H T S) (hM : Mono S0 S) (t_x0 : tN g H x0) (t_x1 : tK S 5 x1) (ok : KO_X7_take_0 N g H T x0 x1 S) (hx : X (KF_X7_take_0 N g H T x0 x1 S)) : cX G o dX7_take mX7_take 0 [some (va_rf x0), some (va_rf x1)] [] S Q := by
  unfold KO_X7_take_0 at ok
  unfold KF_X7_take_0 at hx
  refine c_aload_nQ dX7_take_0 rfl rfl ?_
  have nn_1 := ok.1
  refine c_getS (C := RX6) (T := TX6) (N := 19) (ci := 5) (k := 2) ⟨rfl, inT6, by decide, fX7_110⟩ (by decide) (by decide) (by decide) dX7_take_1 (hS.kN t_x0 ok.1) (hS.r (c := 5) (tN.o t_x0 ok.1) rfl (by omega)) ?_
  have ok := ok.2
  refine c_aload_nQ dX7_take_4 rfl rfl ?_
  refine c_V1iK (ci := 3) (rr := (RX4, TX4, 10)) (y' := mX4_noteSnap) dX7_take_5 lX7_114 kX4_noteSnap ⟨by decide, by decide⟩ rfl rfl (by decide) (hS.k (o52 (tN.o t_x0 nn_1))) (Nat.le_of_ble_eq_true rfl) (kc_X4_noteSnap hG hS (o52 (tN.o t_x0 nn_1)) t_x1 ok.1) (fun ⟨hS, hm_5⟩ => ?_)
  have hM := hM.trans hm_5
  have ok := ok.2
  exact cX.cutz (kb_X7_take_8 hG hR hS hM t_x0 (hm_5.tK t_x1 (by decide)) ok hx) ⟨rfl, rfl, trivial⟩
def k_X7_take (N g H T : Nat) (S : cS) (x0 : Option Nat) (x1 : Option Nat) : cS := KF_X7_take_0 N g H T x0 x1 S
def p_X7_take (N g H T : Nat) (S : cS) (x0 : Option Nat) (x1 : Option Nat) : Prop := KO_X7_take_0 N g H T x0 x1 S
set_option maxRecDepth 100000 in
set_option maxHeartbeats 4000000 in
theorem kc_X7_take {G : zG} {o : cO} {u g H T N : Nat} {S : cS} (hG : zOK G) {x0 : Option Nat} {x1 : Option Nat} (hS : St u g H T S) (t_x0 : tN g H x0) (t_x1 : tK S 5 x1) (ok : p_X7_take N g H T S x0 x1) : cCv G o dX7_take mX7_take [va_rf x0, va_rf x1] S (fun S' => S' = k_X7_take N g H T S x0 x1 ∧ St u g H T S' ∧ Mono S S') := by
  refine cC.ofX rfl (by cases x0 <;> cases x1 <;> exact Nat.le_of_ble_eq_true rfl) ?_
  rw [show zargs mX7_take.2.2.1 [va_rf x0, va_rf x1] = [some (va_rf x0), some (va_rf x1)] from by cases x0 <;> cases x1 <;> rfl]
  exact cX.cutz (kb_X7_take_0 (X := fun F => F = k_X7_take N g H T S x0 x1) hG (fun S' h1 h2 h => ⟨rfl, h, h1, h2⟩) hS Mono.rfl' t_x0 t_x1 ok rfl) ⟨rfl, rfl, trivial⟩
/-! X7_takes -/
def KF_X7_takes_69 (N g H T : Nat)  (S : cS) : Int32 × cS := ((nI 0), S)
def KO_X7_takes_69 (N g H T : Nat)  (S : cS) : Prop := True
set_option maxRecDepth 100000 in
set_option maxHeartbeats 4000000 in
theorem kb_X7_takes_69 {G : zG} {o : cO} {u g H T N : Nat} {S : cS} {S0 : cS} {Q : Option Value → cS → Prop} {X : Int32 × cS → Prop} (hG : zOK G) (hR : ∀ v S', St u g H T S' → Mono S0 S' → X (v, S') → Q (some (.int v)) S') (hS : St u g H T S) (hM : Mono S0 S) (ok : KO_X7_takes_69 N g H T S) (hx : X (KF_X7_takes_69 N g H T S)) : cX G o dX7_takes mX7_takes 69 [none, none, none, none] [] S Q := by
  unfold KO_X7_takes_69 at ok
  unfold KF_X7_takes_69 at hx
  refine c_iconst (v := nI 0) dX7_takes_69 (by decide) ?_
  exact c_ireturn rfl rfl dX7_takes_70 (hR _ _ hS hM hx)
def KF_X7_takes_63 (N g H T : Nat) (rec : Option Nat → Nat → Int32 → cS → Nat × Option Nat × Option Nat × cS) (x0 : Option Nat) (x1 : Nat) (x2 : Int32) (S : cS) : Nat × Option Nat × Option Nat × cS := (rec x0 x1 (x2 + nI 1) S)
def KO_X7_takes_63 (N g H T : Nat) (rok : Option Nat → Nat → Int32 → cS → Prop) (x0 : Option Nat) (x1 : Nat) (x2 : Int32) (S : cS) : Prop := rok x0 x1 (x2 + nI 1) S
set_option maxRecDepth 100000 in
set_option maxHeartbeats 4000000 in
theorem kb_X7_takes_63 {G : zG} {o : cO} {u g H T N : Nat} {S : cS} {S0 : cS} {Q : Option Value → cS → Prop} {X : Nat × Option Nat × Option Nat × cS → Prop} (hG : zOK G) (hX0 : ∀ (x0 : Option Nat) (x3 : Option Nat) (S' : cS), St u g H T S' → Mono S0 S' → tN g H x0 → tK S' 5 x3 → X (0, x0, x3, S') → cX G o dX7_takes mX7_takes 56 [some (va_rf x0), none, none, some (va_rf x3)] [] S' Q) (hX1 : ∀ (x0 : Option Nat) (x3 : Option Nat) (S' : cS), St u g H T S' → Mono S0 S' → X (1, x0, x3, S') → cX G o dX7_takes mX7_takes 69 [none, none, none, none] [] S' Q) {rec : Option Nat → Nat → Int32 → cS → Nat × Option Nat × Option Nat × cS} {rok : Option Nat → Nat → Int32 → cS → Prop} (hrec : ∀ (x0 : Option Nat) (x1 : Nat) (x2 : Int32) (S : cS), St u g H T S → Mono S0 S → tN g H x0 → isO g H 6 x1 → rok x0 x1 x2 S → X (rec x0 x1 x2 S) → cX G o dX7_takes mX7_takes 7 [some (va_rf x0), some (va_rf (some x1)), some (.int x2), none] [] S Q) {x0 : Option Nat} {x1 : Nat} {x2 : Int32} (hS : St u g H T S) (hM : Mono S0 S) (t_x0 : tN g H x0) (t_x1 : isO g H 6 x1) (ok : KO_X7_takes_63 N g H T rok x0 x1 x2 S) (hx : X (KF_X7_takes_63 N g H T rec x0 x1 x2 S)) : cX G o dX7_takes mX7_takes 63 [some (va_rf x0), some (va_rf (some x1)), some (.int x2), none] [] S Q := by
  unfold KO_X7_takes_63 at ok
  unfold KF_X7_takes_63 at hx
  refine c_iinc_2 (v := (x2 + nI 1)) dX7_takes_63 rfl (by first | rfl | (congr 1)) (by decide) (by simp [zok, zg, zcat_rf]) ?_
  refine c_goto (tgt := 7) dX7_takes_66 (by decide) ?_
  exact cX.cutz (hrec _ _ _ S hS hM t_x0 t_x1 ok hx) ⟨rfl, rfl, rfl, trivial⟩
def KF_X7_takes_61 (N g H T : Nat)  (S : cS) : Int32 × cS := ((nI 1), S)
def KO_X7_takes_61 (N g H T : Nat)  (S : cS) : Prop := True
set_option maxRecDepth 100000 in
set_option maxHeartbeats 4000000 in
theorem kb_X7_takes_61 {G : zG} {o : cO} {u g H T N : Nat} {S : cS} {S0 : cS} {Q : Option Value → cS → Prop} {X : Int32 × cS → Prop} (hG : zOK G) (hR : ∀ v S', St u g H T S' → Mono S0 S' → X (v, S') → Q (some (.int v)) S') (hS : St u g H T S) (hM : Mono S0 S) (ok : KO_X7_takes_61 N g H T S) (hx : X (KF_X7_takes_61 N g H T S)) : cX G o dX7_takes mX7_takes 61 [none, none, none, none] [] S Q := by
  unfold KO_X7_takes_61 at ok
  unfold KF_X7_takes_61 at hx
  refine c_iconst (v := nI 1) dX7_takes_61 (by decide) ?_
  exact c_ireturn rfl rfl dX7_takes_62 (hR _ _ hS hM hx)
def KF_X7_takes_56 (N g H T : Nat) (x0 : Option Nat) (x3 : Option Nat) (S : cS) : Int32 × cS := (KF_X7_takes_61 N g H T (k_X7_take N g H T S x0 x3))
def KO_X7_takes_56 (N g H T : Nat) (x0 : Option Nat) (x3 : Option Nat) (S : cS) : Prop := (p_X7_take N g H T S x0 x3) ∧ KO_X7_takes_61 N g H T (k_X7_take N g H T S x0 x3)
set_option maxRecDepth 100000 in
set_option maxHeartbeats 4000000 in
theorem kb_X7_takes_56 {G : zG} {o : cO} {u g H T N : Nat} {S : cS} {S0 : cS} {Q : Option Value → cS → Prop} {X : Int32 × cS → Prop} (hG : zOK G) (hR : ∀ v S', St u g H T S' → Mono S0 S' → X (v, S') → Q (some (.int v)) S') {x0 : Option Nat} {x3 : Option Nat} (hS : St u g H T S) (hM : Mono S0 S) (t_x0 : tN g H x0) (t_x3 : tK S 5 x3) (ok : KO_X7_takes_56 N g H T x0 x3 S) (hx : X (KF_X7_takes_56 N g H T x0 x3 S)) : cX G o dX7_takes mX7_takes 56 [some (va_rf x0), none, none, some (va_rf x3)] [] S Q := by
  unfold KO_X7_takes_56 at ok
  unfold KF_X7_takes_56 at hx
  refine c_aload_nQ dX7_takes_56 rfl rfl ?_
  refine c_aload_nQ dX7_takes_57 rfl rfl ?_
  refine c_S2vK (y' := mX7_take) dX7_takes_58 lX7_106 kX7_take ⟨by decide, by decide⟩ (Nat.le_of_ble_eq_true rfl) (kc_X7_take hG hS t_x0 t_x3 ok.1) (fun ⟨hS, hm_58⟩ => ?_)
  have hM := hM.trans hm_58
  have ok := ok.2
  exact cX.cutz (kb_X7_takes_61 hG hR hS hM  ok hx) trivial
def KB_X7_takes_7 (N g H T : Nat) (rec : Option Nat → Nat → Int32 → cS → Nat × Option Nat × Option Nat × cS) (x0 : Option Nat) (x1 : Nat) (x2 : Int32) (S : cS) : Nat × Option Nat × Option Nat × cS := (if (cI S 1 (g + 8)) ≤ x2 then (1, none, none, S) else (if (cP S (x1 + 8) x2.toNatClampNeg) = none then (KF_X7_takes_63 N g H T rec x0 x1 x2 S) else (if (k_X5_two N g H T S (za (cP S (x1 + 8) x2.toNatClampNeg)) (nI 1)) ≤ (cI S 9 (za x0)) then (KF_X7_takes_63 N g H T rec x0 x1 x2 S) else (if (k_X8_snapshotsLike N g H T S x1 (cP S (x1 + 8) x2.toNatClampNeg)) ≤ (cI S 0 (g + 8)) then (KF_X7_takes_63 N g H T rec x0 x1 x2 S) else (0, x0, (cP S (x1 + 8) x2.toNatClampNeg), S)))))
def KOB_X7_takes_7 (N g H T : Nat) (rok : Option Nat → Nat → Int32 → cS → Prop) (x0 : Option Nat) (x1 : Nat) (x2 : Int32) (S : cS) : Prop := (¬ x0 = none) ∧ (((cI S 1 (g + 8)) ≤ x2 → True) ∧ (¬ (cI S 1 (g + 8)) ≤ x2 → (vp_in x2 T) ∧ (((cP S (x1 + 8) x2.toNatClampNeg) = none → KO_X7_takes_63 N g H T rok x0 x1 x2 S) ∧ (¬ (cP S (x1 + 8) x2.toNatClampNeg) = none → (p_X5_two N g H T S (za (cP S (x1 + 8) x2.toNatClampNeg)) (nI 1)) ∧ (((k_X5_two N g H T S (za (cP S (x1 + 8) x2.toNatClampNeg)) (nI 1)) ≤ (cI S 9 (za x0)) → KO_X7_takes_63 N g H T rok x0 x1 x2 S) ∧ (¬ (k_X5_two N g H T S (za (cP S (x1 + 8) x2.toNatClampNeg)) (nI 1)) ≤ (cI S 9 (za x0)) → (p_X8_snapshotsLike N g H T S x1 (cP S (x1 + 8) x2.toNatClampNeg)) ∧ (((k_X8_snapshotsLike N g H T S x1 (cP S (x1 + 8) x2.toNatClampNeg)) ≤ (cI S 0 (g + 8)) → KO_X7_takes_63 N g H T rok x0 x1 x2 S) ∧ (¬ (k_X8_snapshotsLike N g H T S x1 (cP S (x1 + 8) x2.toNatClampNeg)) ≤ (cI S 0 (g + 8)) → True))))))))
set_option maxRecDepth 100000 in
set_option maxHeartbeats 4000000 in
theorem kbb_X7_takes_7 {G : zG} {o : cO} {u g H T N : Nat} {S : cS} {S0 : cS} {Q : Option Value → cS → Prop} {X : Nat × Option Nat × Option Nat × cS → Prop} (hG : zOK G) (hX0 : ∀ (x0 : Option Nat) (x3 : Option Nat) (S' : cS), St u g H T S' → Mono S0 S' → tN g H x0 → tK S' 5 x3 → X (0, x0, x3, S') → cX G o dX7_takes mX7_takes 56 [some (va_rf x0), none, none, some (va_rf x3)] [] S' Q) (hX1 : ∀ (x0 : Option Nat) (x3 : Option Nat) (S' : cS), St u g H T S' → Mono S0 S' → X (1, x0, x3, S') → cX G o dX7_takes mX7_takes 69 [none, none, none, none] [] S' Q) {rec : Option Nat → Nat → Int32 → cS → Nat × Option Nat × Option Nat × cS} {rok : Option Nat → Nat → Int32 → cS → Prop} (hrec : ∀ (x0 : Option Nat) (x1 : Nat) (x2 : Int32) (S : cS), St u g H T S → Mono S0 S → tN g H x0 → isO g H 6 x1 → rok x0 x1 x2 S → X (rec x0 x1 x2 S) → cX G o dX7_takes mX7_takes 7 [some (va_rf x0), some (va_rf (some x1)), some (.int x2), none] [] S Q) {x0 : Option Nat} {x1 : Nat} {x2 : Int32} (hS : St u g H T S) (hM : Mono S0 S) (t_x0 : tN g H x0) (t_x1 : isO g H 6 x1) (ok : KOB_X7_takes_7 N g H T rok x0 x1 x2 S) (hx : X (KB_X7_takes_7 N g H T rec x0 x1 x2 S)) : cX G o dX7_takes mX7_takes 7 [some (va_rf x0), some (va_rf (some x1)), some (.int x2), none] [] S Q := by
  unfold KOB_X7_takes_7 at ok
  unfold KB_X7_takes_7 at hx
  refine c_iload_n dX7_takes_7 rfl rfl ?_
  refine c_aload_nQ dX7_takes_8 rfl rfl ?_
  have nn_9 := ok.1
  refine c_getS (C := RX6) (T := TX6) (N := 19) (ci := 5) (k := 0) ⟨rfl, inT6, by decide, fX7_26⟩ (by decide) (by decide) (by decide) dX7_takes_9 (hS.kN t_x0 ok.1) (hS.r (c := 5) (tN.o t_x0 ok.1) rfl (by omega)) ?_
  have ok := ok.2
  refine c_getI (C := RX10) (T := TX10) (N := 12) (ci := 8) (k := 1) ⟨rfl, inT10, by decide, fX7_84⟩ (by decide) (by decide) (by decide) dX7_takes_12 (hS.k (o50 (tN.o t_x0 nn_9))) ?_
  refine c_icmp_ge (tgt := 69) dX7_takes_15 (by decide) (fun c_15 => ?_) (fun c_15 => ?_)
  · have ok := ok.1 c_15
    have hx := xif_p c_15 hx
    exact cX.cutz (hX1 _ _ S hS hM  hx) trivial
  · have ok := ok.2 c_15
    have hx := xif_n c_15 hx
    refine c_aload_nQ dX7_takes_18 rfl rfl ?_
    refine c_getS (C := RX8) (T := TX8) (N := 14) (ci := 6) (k := 8) ⟨rfl, inT8, by decide, fX7_87⟩ (by decide) (by decide) (by decide) dX7_takes_19 (hS.k t_x1) (hS.r (c := 6) t_x1 rfl (by omega)) ?_
    refine c_iload_n dX7_takes_22 rfl rfl ?_
    have p_23 := hS.row24 (hS.rk (c := 6) (k := 8) t_x1 rfl (by omega)) x2.toNatClampNeg
    refine c_aald (t := 4) (ty := (.object "QuorumLedger$Message")) rfl rfl (by decide) dX7_takes_23 ⟨(tK.cis (hS.rk (c := 6) (k := 8) t_x1 rfl (by omega)) (Option.some_ne_none _)), (vk_cast (hS.rl (c := 6) (k := 8) t_x1 rfl (by decide) (by omega)) ok.1)⟩ ?_
    have ok := ok.2
    refine c_astore_3Q dX7_takes_24 (by decide) rfl ?_
    refine c_aload_nQ dX7_takes_25 rfl rfl ?_
    refine c_ifnullI (tgt := 63) dX7_takes_26 (by decide) (fun c_26 => ?_) (fun c_26 => ?_)
    · have ok := ok.1 c_26
      have hx := xif_p c_26 hx
      exact cX.cutz (kb_X7_takes_63 hG hX0 hX1 hrec hS hM t_x0 t_x1 ok hx) ⟨rfl, rfl, rfl, trivial⟩
    · have ok := ok.2 c_26
      have hx := xif_n c_26 hx
      refine c_aload_nQ dX7_takes_29 rfl rfl ?_
      refine c_iconst (v := nI 1) dX7_takes_30 (by decide) ?_
      refine c_V1iE (ci := 4) (rr := (RX5, TX5, 7)) (y' := mX5_two) dX7_takes_31 lX7_93 kX5_two ⟨by decide, by decide⟩ rfl rfl (by decide) (tK.cis p_23 c_26) (Nat.le_of_ble_eq_true rfl) (kc_X5_two hG hS (p_23 _ (za_of c_26)) ok.1) ?_
      have ok := ok.2
      refine c_aload_nQ dX7_takes_34 rfl rfl ?_
      refine c_getI (C := RX6) (T := TX6) (N := 19) (ci := 5) (k := 9) ⟨rfl, inT6, by decide, fX7_18⟩ (by decide) (by decide) (by decide) dX7_takes_35 (hS.kN t_x0 nn_9) ?_
      refine c_icmp_le (tgt := 63) dX7_takes_38 (by decide) (fun c_38 => ?_) (fun c_38 => ?_)
      · have ok := ok.1 c_38
        have hx := xif_p c_38 hx
        exact cX.cutz (kb_X7_takes_63 hG hX0 hX1 hrec hS hM t_x0 t_x1 ok hx) ⟨rfl, rfl, rfl, trivial⟩
      · have ok := ok.2 c_38
        have hx := xif_n c_38 hx
        refine c_aload_nQ dX7_takes_41 rfl rfl ?_
        refine c_aload_nQ dX7_takes_42 rfl rfl ?_
        refine c_V1iE (ci := 6) (rr := (RX8, TX8, 14)) (y' := mX8_snapshotsLike) dX7_takes_43 lX7_99 kX8_snapshotsLike ⟨by decide, by decide⟩ rfl rfl (by decide) (hS.k t_x1) (Nat.le_of_ble_eq_true rfl) (kc_X8_snapshotsLike hG hS t_x1 p_23 ok.1) ?_
        have ok := ok.2
        refine c_aload_nQ dX7_takes_46 rfl rfl ?_
        refine c_getS (C := RX6) (T := TX6) (N := 19) (ci := 5) (k := 0) ⟨rfl, inT6, by decide, fX7_26⟩ (by decide) (by decide) (by decide) dX7_takes_47 (hS.kN t_x0 nn_9) (hS.r (c := 5) (tN.o t_x0 nn_9) rfl (by omega)) ?_
        refine c_getI (C := RX10) (T := TX10) (N := 12) (ci := 8) (k := 0) ⟨rfl, inT10, by decide, fX7_103⟩ (by decide) (by decide) (by decide) dX7_takes_50 (hS.k (o50 (tN.o t_x0 nn_9))) ?_
        refine c_icmp_le (tgt := 63) dX7_takes_53 (by decide) (fun c_53 => ?_) (fun c_53 => ?_)
        · have ok := ok.1 c_53
          have hx := xif_p c_53 hx
          exact cX.cutz (kb_X7_takes_63 hG hX0 hX1 hrec hS hM t_x0 t_x1 ok hx) ⟨rfl, rfl, rfl, trivial⟩
        · have ok := ok.2 c_53
          have hx := xif_n c_53 hx
          exact cX.cutz (hX0 _ _ S hS hM t_x0 p_23 hx) ⟨rfl, rfl, trivial⟩
def KL_X7_takes_7 (N g H T : Nat) : Nat → Option Nat → Nat → Int32 → cS → Nat × Option Nat × Option Nat × cS
  | 0, x0, x1, x2, S => (0, none, none, S)
  | n + 1, x0, x1, x2, S => KB_X7_takes_7 N g H T (KL_X7_takes_7 N g H T n) x0 x1 x2 S
def KOL_X7_takes_7 (N g H T : Nat) : Nat → Option Nat → Nat → Int32 → cS → Prop
  | 0, _, _, _, _ => False
  | n + 1, x0, x1, x2, S => KOB_X7_takes_7 N g H T (KOL_X7_takes_7 N g H T n) x0 x1 x2 S
set_option maxRecDepth 100000 in
set_option maxHeartbeats 4000000 in
theorem kl_X7_takes_7 {G : zG} {o : cO} {u g H T N : Nat} {S0 : cS} {Q : Option Value → cS → Prop} {X : Nat × Option Nat × Option Nat × cS → Prop} (hG : zOK G) (hX0 : ∀ (x0 : Option Nat) (x3 : Option Nat) (S' : cS), St u g H T S' → Mono S0 S' → tN g H x0 → tK S' 5 x3 → X (0, x0, x3, S') → cX G o dX7_takes mX7_takes 56 [some (va_rf x0), none, none, some (va_rf x3)] [] S' Q) (hX1 : ∀ (x0 : Option Nat) (x3 : Option Nat) (S' : cS), St u g H T S' → Mono S0 S' → X (1, x0, x3, S') → cX G o dX7_takes mX7_takes 69 [none, none, none, none] [] S' Q) : ∀ (n : Nat) (x0 : Option Nat) (x1 : Nat) (x2 : Int32) (S : cS), St u g H T S → Mono S0 S → tN g H x0 → isO g H 6 x1 → KOL_X7_takes_7 N g H T n x0 x1 x2 S → X (KL_X7_takes_7 N g H T n x0 x1 x2 S) → cX G o dX7_takes mX7_takes 7 [some (va_rf x0), some (va_rf (some x1)), some (.int x2), none] [] S Q := by
  intro n
  induction n with
  | zero => intro x0 x1 x2 S hS hM t_x0 t_x1 ok; exact absurd ok id
  | succ n ih =>
    intro x0 x1 x2 S hS hM t_x0 t_x1 ok hx
    exact kbb_X7_takes_7 hG hX0 hX1 (rec := KL_X7_takes_7 N g H T n) (rok := KOL_X7_takes_7 N g H T n) (fun x0 x1 x2 S hS hM t_x0 t_x1 ok hx => ih x0 x1 x2 S hS hM t_x0 t_x1 ok hx) hS hM t_x0 t_x1 ok hx
def KA_X7_takes_7 (N g H T : Nat) (x0 : Option Nat) (x1 : Nat) (x2 : Int32) (S : cS) (z : Nat × Option Nat × Option Nat × cS) : Int32 × cS := (if z.1 = 0 then (KF_X7_takes_56 N g H T (z.2.1) (z.2.2.1) z.2.2.2) else (KF_X7_takes_69 N g H T z.2.2.2))
def KOA_X7_takes_7 (N g H T : Nat) (x0 : Option Nat) (x1 : Nat) (x2 : Int32) (S : cS) (z : Nat × Option Nat × Option Nat × cS) : Prop := (if z.1 = 0 then KO_X7_takes_56 N g H T (z.2.1) (z.2.2.1) z.2.2.2 else KO_X7_takes_69 N g H T z.2.2.2)
set_option maxRecDepth 100000 in
set_option maxHeartbeats 4000000 in
theorem kd_X7_takes_7 {G : zG} {o : cO} {u g H T N : Nat} {S : cS} {S0 : cS} {Q : Option Value → cS → Prop} {X : Int32 × cS → Prop} (hG : zOK G) (hR : ∀ v S', St u g H T S' → Mono S0 S' → X (v, S') → Q (some (.int v)) S') {x0 : Option Nat} {x1 : Nat} {x2 : Int32} (hS : St u g H T S) (hM : Mono S0 S) (t_x0 : tN g H x0) (t_x1 : isO g H 6 x1) (ok : KOL_X7_takes_7 N g H T N x0 x1 x2 S ∧ KOA_X7_takes_7 N g H T x0 x1 x2 S (KL_X7_takes_7 N g H T N x0 x1 x2 S)) (hx : X (KA_X7_takes_7 N g H T x0 x1 x2 S (KL_X7_takes_7 N g H T N x0 x1 x2 S))) : cX G o dX7_takes mX7_takes 7 [some (va_rf x0), some (va_rf (some x1)), some (.int x2), none] [] S Q := by
  refine kl_X7_takes_7 hG ?_ ?_ N x0 x1 x2 S hS hM t_x0 t_x1 ok.1 (X := fun z => KOA_X7_takes_7 N g H T x0 x1 x2 S z ∧ X (KA_X7_takes_7 N g H T x0 x1 x2 S z)) ⟨ok.2, hx⟩
  · intro x0' x3' S' hS hM t_x0 t_x3 hz
    obtain ⟨ok, hx⟩ := hz
    unfold KOA_X7_takes_7 at ok
    unfold KA_X7_takes_7 at hx
    have ok := xif_P (show (0 : Nat) = 0 from rfl) ok
    have hx := xif_p (show (0 : Nat) = 0 from rfl) hx
    exact cX.cutz (kb_X7_takes_56 hG hR hS hM t_x0 t_x3 ok hx) ⟨rfl, rfl, trivial⟩
  · intro x0' x3' S' hS hM hz
    obtain ⟨ok, hx⟩ := hz
    unfold KOA_X7_takes_7 at ok
    unfold KA_X7_takes_7 at hx
    have ok := xif_N (show ¬ (1 : Nat) = 0 by decide) ok
    have hx := xif_n (show ¬ (1 : Nat) = 0 by decide) hx
    exact cX.cutz (kb_X7_takes_69 hG hR hS hM  ok hx) trivial
def KF_X7_takes_0 (N g H T : Nat) (x0 : Option Nat) (S : cS) : Int32 × cS := (KA_X7_takes_7 N g H T x0 ((za x0) + 14) (nI 0) S (KL_X7_takes_7 N g H T N x0 ((za x0) + 14) (nI 0) S))
def KO_X7_takes_0 (N g H T : Nat) (x0 : Option Nat) (S : cS) : Prop := (¬ x0 = none) ∧ (KOL_X7_takes_7 N g H T N x0 ((za x0) + 14) (nI 0) S ∧ KOA_X7_takes_7 N g H T x0 ((za x0) + 14) (nI 0) S (KL_X7_takes_7 N g H T N x0 ((za x0) + 14) (nI 0) S))
set_option maxRecDepth 100000 in
set_option maxHeartbeats 4000000 in
theorem kb_X7_takes_0 {G : zG} {o : cO} {u g H T N : Nat} {S : cS} {S0 : cS} {Q : Option Value → cS → Prop} {X : Int32 × cS → Prop} (hG : zOK G) (hR : ∀ v S', St u g H T S' → Mono S0 S' → X (v, S') → Q (some (.int v)) S') {x0 : Option Nat} (hS : St u g H T S) (hM : Mono S0 S) (t_x0 : tN g H x0) (ok : KO_X7_takes_0 N g H T x0 S) (hx : X (KF_X7_takes_0 N g H T x0 S)) : cX G o dX7_takes mX7_takes 0 [some (va_rf x0), none, none, none] [] S Q := by
  unfold KO_X7_takes_0 at ok
  unfold KF_X7_takes_0 at hx
  refine c_aload_nQ dX7_takes_0 rfl rfl ?_
  have nn_1 := ok.1
  refine c_getS (C := RX6) (T := TX6) (N := 19) (ci := 5) (k := 3) ⟨rfl, inT6, by decide, fX7_80⟩ (by decide) (by decide) (by decide) dX7_takes_1 (hS.kN t_x0 ok.1) (hS.r (c := 5) (tN.o t_x0 ok.1) rfl (by omega)) ?_
  have ok := ok.2
  refine c_astore_1Q dX7_takes_4 (by decide) (by simp [zok, zg, zcat_rf]) ?_
  refine c_iconst (v := nI 0) dX7_takes_5 (by decide) ?_
  refine c_istore_2 dX7_takes_6 (by decide) (by simp [zok, zg, zcat_rf]) ?_
  exact cX.cutz (kd_X7_takes_7 hG hR hS hM t_x0 (o53 (tN.o t_x0 nn_1)) ok hx) ⟨rfl, rfl, rfl, trivial⟩
def k_X7_takes (N g H T : Nat) (S : cS) (x0 : Option Nat) : Int32 × cS := KF_X7_takes_0 N g H T x0 S
def p_X7_takes (N g H T : Nat) (S : cS) (x0 : Option Nat) : Prop := KO_X7_takes_0 N g H T x0 S
set_option maxRecDepth 100000 in
set_option maxHeartbeats 4000000 in
theorem kc_X7_takes {G : zG} {o : cO} {u g H T N : Nat} {S : cS} (hG : zOK G) {x0 : Option Nat} (hS : St u g H T S) (t_x0 : tN g H x0) (ok : p_X7_takes N g H T S x0) : cCi G o dX7_takes mX7_takes [va_rf x0] S (fun v S' => (v = (k_X7_takes N g H T S x0).1 ∧ S' = (k_X7_takes N g H T S x0).2) ∧ St u g H T S' ∧ Mono S S') := by
  refine cC.ofX rfl (by cases x0 <;> exact Nat.le_of_ble_eq_true rfl) ?_
  rw [show zargs mX7_takes.2.2.1 [va_rf x0] = [some (va_rf x0), none, none, none] from by cases x0 <;> rfl]
  exact cX.cutz (kb_X7_takes_0 (X := fun F => F = k_X7_takes N g H T S x0) hG (fun v S' h1 h2 h => ⟨v, rfl, ⟨by rw [← h], by rw [← h]⟩, h1, h2⟩) hS Mono.rfl' t_x0 ok rfl) ⟨rfl, trivial⟩
/-! X8_decisionsFor -/
def KF_X8_decisionsFor_43 (N g H T : Nat) (x2 : Int32) (S : cS) : Int32 := x2
def KO_X8_decisionsFor_43 (N g H T : Nat) (x2 : Int32) (S : cS) : Prop := True
set_option maxRecDepth 100000 in
set_option maxHeartbeats 4000000 in
theorem kb_X8_decisionsFor_43 {G : zG} {o : cO} {u g H T N : Nat} {S : cS} {Q : Option Value → cS → Prop} {X : Int32 → Prop} (hG : zOK G) (hR : ∀ v, X v → Q (some (.int v)) S) {x2 : Int32} (hS : St u g H T S) (ok : KO_X8_decisionsFor_43 N g H T x2 S) (hx : X (KF_X8_decisionsFor_43 N g H T x2 S)) : cX G o dX8_decisionsFor mX8_decisionsFor 43 [none, none, some (.int x2), none] [] S Q := by
  unfold KO_X8_decisionsFor_43 at ok
  unfold KF_X8_decisionsFor_43 at hx
  refine c_iload_n dX8_decisionsFor_43 rfl rfl ?_
  exact c_ireturn rfl rfl dX8_decisionsFor_44 (hR _ hx)
def KF_X8_decisionsFor_37 (N g H T : Nat) (rec : Nat → Option Nat → Int32 → Int32 → Nat × Int32 × Unit) (x0 : Nat) (x1 : Option Nat) (x2 : Int32) (x3 : Int32) (S : cS) : Nat × Int32 × Unit := (rec x0 x1 x2 (x3 + nI 1))
def KO_X8_decisionsFor_37 (N g H T : Nat) (rok : Nat → Option Nat → Int32 → Int32 → Prop) (x0 : Nat) (x1 : Option Nat) (x2 : Int32) (x3 : Int32) (S : cS) : Prop := rok x0 x1 x2 (x3 + nI 1)
set_option maxRecDepth 100000 in
set_option maxHeartbeats 4000000 in
theorem kb_X8_decisionsFor_37 {G : zG} {o : cO} {u g H T N : Nat} {S : cS} {Q : Option Value → cS → Prop} {X : Nat × Int32 × Unit → Prop} (hG : zOK G) (hX0 : ∀ (x2 : Int32) , X (0, x2, ()) → cX G o dX8_decisionsFor mX8_decisionsFor 43 [none, none, some (.int x2), none] [] S Q) {rec : Nat → Option Nat → Int32 → Int32 → Nat × Int32 × Unit} {rok : Nat → Option Nat → Int32 → Int32 → Prop} (hrec : ∀ (x0 : Nat) (x1 : Option Nat) (x2 : Int32) (x3 : Int32), isO g H 6 x0 → tK S 5 x1 → rok x0 x1 x2 x3 → X (rec x0 x1 x2 x3) → cX G o dX8_decisionsFor mX8_decisionsFor 4 [some (va_rf (some x0)), some (va_rf x1), some (.int x2), some (.int x3)] [] S Q) {x0 : Nat} {x1 : Option Nat} {x2 : Int32} {x3 : Int32} (hS : St u g H T S) (t_x0 : isO g H 6 x0) (t_x1 : tK S 5 x1) (ok : KO_X8_decisionsFor_37 N g H T rok x0 x1 x2 x3 S) (hx : X (KF_X8_decisionsFor_37 N g H T rec x0 x1 x2 x3 S)) : cX G o dX8_decisionsFor mX8_decisionsFor 37 [some (va_rf (some x0)), some (va_rf x1), some (.int x2), some (.int x3)] [] S Q := by
  unfold KO_X8_decisionsFor_37 at ok
  unfold KF_X8_decisionsFor_37 at hx
  refine c_iinc_3 (v := (x3 + nI 1)) dX8_decisionsFor_37 rfl (by first | rfl | (congr 1)) (by decide) rfl ?_
  refine c_goto (tgt := 4) dX8_decisionsFor_40 (by decide) ?_
  exact cX.cutz (hrec _ _ _ _ t_x0 t_x1 ok hx) ⟨rfl, rfl, rfl, rfl, trivial⟩
def KB_X8_decisionsFor_4 (N g H T : Nat) (rec : Nat → Option Nat → Int32 → Int32 → Nat × Int32 × Unit) (x0 : Nat) (x1 : Option Nat) (x2 : Int32) (x3 : Int32) (S : cS) : Nat × Int32 × Unit := (if (cI S 1 x0) ≤ x3 then (0, x2, ()) else (if (cP S (x0 + 6) x3.toNatClampNeg) = none then (KF_X8_decisionsFor_37 N g H T rec x0 x1 x2 x3 S) else (if (k_X5_isFor N g H T S (za (cP S (x0 + 6) x3.toNatClampNeg)) x1) = 0 then (KF_X8_decisionsFor_37 N g H T rec x0 x1 x2 x3 S) else (KF_X8_decisionsFor_37 N g H T rec x0 x1 (x2 + nI 1) x3 S))))
def KOB_X8_decisionsFor_4 (N g H T : Nat) (rok : Nat → Option Nat → Int32 → Int32 → Prop) (x0 : Nat) (x1 : Option Nat) (x2 : Int32) (x3 : Int32) (S : cS) : Prop := (((cI S 1 x0) ≤ x3 → True) ∧ (¬ (cI S 1 x0) ≤ x3 → (vp_in x3 T) ∧ (((cP S (x0 + 6) x3.toNatClampNeg) = none → KO_X8_decisionsFor_37 N g H T rok x0 x1 x2 x3 S) ∧ (¬ (cP S (x0 + 6) x3.toNatClampNeg) = none → (vp_in x3 T) ∧ (p_X5_isFor N g H T S (za (cP S (x0 + 6) x3.toNatClampNeg)) x1) ∧ (((k_X5_isFor N g H T S (za (cP S (x0 + 6) x3.toNatClampNeg)) x1) = 0 → KO_X8_decisionsFor_37 N g H T rok x0 x1 x2 x3 S) ∧ (¬ (k_X5_isFor N g H T S (za (cP S (x0 + 6) x3.toNatClampNeg)) x1) = 0 → KO_X8_decisionsFor_37 N g H T rok x0 x1 (x2 + nI 1) x3 S))))))
set_option maxRecDepth 100000 in
set_option maxHeartbeats 4000000 in
theorem kbb_X8_decisionsFor_4 {G : zG} {o : cO} {u g H T N : Nat} {S : cS} {Q : Option Value → cS → Prop} {X : Nat × Int32 × Unit → Prop} (hG : zOK G) (hX0 : ∀ (x2 : Int32) , X (0, x2, ()) → cX G o dX8_decisionsFor mX8_decisionsFor 43 [none, none, some (.int x2), none] [] S Q) {rec : Nat → Option Nat → Int32 → Int32 → Nat × Int32 × Unit} {rok : Nat → Option Nat → Int32 → Int32 → Prop} (hrec : ∀ (x0 : Nat) (x1 : Option Nat) (x2 : Int32) (x3 : Int32), isO g H 6 x0 → tK S 5 x1 → rok x0 x1 x2 x3 → X (rec x0 x1 x2 x3) → cX G o dX8_decisionsFor mX8_decisionsFor 4 [some (va_rf (some x0)), some (va_rf x1), some (.int x2), some (.int x3)] [] S Q) {x0 : Nat} {x1 : Option Nat} {x2 : Int32} {x3 : Int32} (hS : St u g H T S) (t_x0 : isO g H 6 x0) (t_x1 : tK S 5 x1) (ok : KOB_X8_decisionsFor_4 N g H T rok x0 x1 x2 x3 S) (hx : X (KB_X8_decisionsFor_4 N g H T rec x0 x1 x2 x3 S)) : cX G o dX8_decisionsFor mX8_decisionsFor 4 [some (va_rf (some x0)), some (va_rf x1), some (.int x2), some (.int x3)] [] S Q := by
  unfold KOB_X8_decisionsFor_4 at ok
  unfold KB_X8_decisionsFor_4 at hx
  refine c_iload_n dX8_decisionsFor_4 rfl rfl ?_
  refine c_aload_nQ dX8_decisionsFor_5 rfl rfl ?_
  refine c_getI (C := RX8) (T := TX8) (N := 14) (ci := 6) (k := 1) ⟨rfl, inT8, by decide, fX8_32⟩ (by decide) (by decide) (by decide) dX8_decisionsFor_6 (hS.k t_x0) ?_
  refine c_icmp_ge (tgt := 43) dX8_decisionsFor_9 (by decide) (fun c_9 => ?_) (fun c_9 => ?_)
  · have ok := ok.1 c_9
    have hx := xif_p c_9 hx
    exact cX.cutz (hX0 _   hx) ⟨rfl, trivial⟩
  · have ok := ok.2 c_9
    have hx := xif_n c_9 hx
    refine c_aload_nQ dX8_decisionsFor_12 rfl rfl ?_
    refine c_getS (C := RX8) (T := TX8) (N := 14) (ci := 6) (k := 6) ⟨rfl, inT8, by decide, fX8_39⟩ (by decide) (by decide) (by decide) dX8_decisionsFor_13 (hS.k t_x0) (hS.r (c := 6) t_x0 rfl (by omega)) ?_
    refine c_iload_n dX8_decisionsFor_16 rfl rfl ?_
    have p_17 := hS.row24 (hS.rk (c := 6) (k := 6) t_x0 rfl (by omega)) x3.toNatClampNeg
    refine c_aald (t := 4) (ty := (.object "QuorumLedger$Message")) rfl rfl (by decide) dX8_decisionsFor_17 ⟨(tK.cis (hS.rk (c := 6) (k := 6) t_x0 rfl (by omega)) (Option.some_ne_none _)), (vk_cast (hS.rl (c := 6) (k := 6) t_x0 rfl (by decide) (by omega)) ok.1)⟩ ?_
    have ok := ok.2
    refine c_ifnullI (tgt := 37) dX8_decisionsFor_18 (by decide) (fun c_18 => ?_) (fun c_18 => ?_)
    · have ok := ok.1 c_18
      have hx := xif_p c_18 hx
      exact cX.cutz (kb_X8_decisionsFor_37 hG hX0 hrec hS t_x0 t_x1 ok hx) ⟨rfl, rfl, rfl, rfl, trivial⟩
    · have ok := ok.2 c_18
      have hx := xif_n c_18 hx
      refine c_aload_nQ dX8_decisionsFor_21 rfl rfl ?_
      refine c_getS (C := RX8) (T := TX8) (N := 14) (ci := 6) (k := 6) ⟨rfl, inT8, by decide, fX8_39⟩ (by decide) (by decide) (by decide) dX8_decisionsFor_22 (hS.k t_x0) (hS.r (c := 6) t_x0 rfl (by omega)) ?_
      refine c_iload_n dX8_decisionsFor_25 rfl rfl ?_
      have p_26 := hS.row24 (hS.rk (c := 6) (k := 6) t_x0 rfl (by omega)) x3.toNatClampNeg
      refine c_aald (t := 4) (ty := (.object "QuorumLedger$Message")) rfl rfl (by decide) dX8_decisionsFor_26 ⟨(tK.cis (hS.rk (c := 6) (k := 6) t_x0 rfl (by omega)) (Option.some_ne_none _)), (vk_cast (hS.rl (c := 6) (k := 6) t_x0 rfl (by decide) (by omega)) ok.1)⟩ ?_
      have ok := ok.2
      refine c_aload_nQ dX8_decisionsFor_27 rfl rfl ?_
      refine c_V1iE (ci := 4) (rr := (RX5, TX5, 7)) (y' := mX5_isFor) dX8_decisionsFor_28 lX8_84 kX5_isFor ⟨by decide, by decide⟩ rfl rfl (by decide) (tK.cis p_26 c_18) (Nat.le_of_ble_eq_true rfl) (kc_X5_isFor hG hS (p_26 _ (za_of c_18)) t_x1 ok.1) ?_
      have ok := ok.2
      refine c_if_eq (tgt := 37) dX8_decisionsFor_31 (by decide) (fun c_31 => ?_) (fun c_31 => ?_)
      · have ok := ok.1 c_31
        have hx := xif_p c_31 hx
        exact cX.cutz (kb_X8_decisionsFor_37 hG hX0 hrec hS t_x0 t_x1 ok hx) ⟨rfl, rfl, rfl, rfl, trivial⟩
      · have ok := ok.2 c_31
        have hx := xif_n c_31 hx
        refine c_iinc_2 (v := (x2 + nI 1)) dX8_decisionsFor_34 rfl (by first | rfl | (congr 1)) (by decide) (by simp [zok, zg, zcat_rf]) ?_
        exact cX.cutz (kb_X8_decisionsFor_37 hG hX0 hrec hS t_x0 t_x1 ok hx) ⟨rfl, rfl, rfl, rfl, trivial⟩
def KL_X8_decisionsFor_4 (N g H T : Nat) : Nat → Nat → Option Nat → Int32 → Int32 → cS → Nat × Int32 × Unit
  | 0, x0, x1, x2, x3, S => (0, 0, ())
  | n + 1, x0, x1, x2, x3, S => KB_X8_decisionsFor_4 N g H T (fun x0 x1 x2 x3 => KL_X8_decisionsFor_4 N g H T n x0 x1 x2 x3 S) x0 x1 x2 x3 S
def KOL_X8_decisionsFor_4 (N g H T : Nat) : Nat → Nat → Option Nat → Int32 → Int32 → cS → Prop
  | 0, _, _, _, _, _ => False
  | n + 1, x0, x1, x2, x3, S => KOB_X8_decisionsFor_4 N g H T (fun x0 x1 x2 x3 => KOL_X8_decisionsFor_4 N g H T n x0 x1 x2 x3 S) x0 x1 x2 x3 S
set_option maxRecDepth 100000 in
set_option maxHeartbeats 4000000 in
theorem kl_X8_decisionsFor_4 {G : zG} {o : cO} {u g H T N : Nat} {S : cS} {Q : Option Value → cS → Prop} {X : Nat × Int32 × Unit → Prop} (hG : zOK G) (hX0 : ∀ (x2 : Int32) , X (0, x2, ()) → cX G o dX8_decisionsFor mX8_decisionsFor 43 [none, none, some (.int x2), none] [] S Q) (hS : St u g H T S) : ∀ (n : Nat) (x0 : Nat) (x1 : Option Nat) (x2 : Int32) (x3 : Int32) , isO g H 6 x0 → tK S 5 x1 → KOL_X8_decisionsFor_4 N g H T n x0 x1 x2 x3 S → X (KL_X8_decisionsFor_4 N g H T n x0 x1 x2 x3 S) → cX G o dX8_decisionsFor mX8_decisionsFor 4 [some (va_rf (some x0)), some (va_rf x1), some (.int x2), some (.int x3)] [] S Q := by
  intro n
  induction n with
  | zero => intro x0 x1 x2 x3 t_x0 t_x1 ok; exact absurd ok id
  | succ n ih =>
    intro x0 x1 x2 x3 t_x0 t_x1 ok hx
    exact kbb_X8_decisionsFor_4 hG hX0 (rec := fun x0 x1 x2 x3 => KL_X8_decisionsFor_4 N g H T n x0 x1 x2 x3 S) (rok := fun x0 x1 x2 x3 => KOL_X8_decisionsFor_4 N g H T n x0 x1 x2 x3 S) (fun x0 x1 x2 x3 t_x0 t_x1 ok hx => ih x0 x1 x2 x3 t_x0 t_x1 ok hx) hS t_x0 t_x1 ok hx
def KA_X8_decisionsFor_4 (N g H T : Nat) (x0 : Nat) (x1 : Option Nat) (x2 : Int32) (x3 : Int32) (S : cS) (z : Nat × Int32 × Unit) : Int32 := (KF_X8_decisionsFor_43 N g H T (z.2.1) S)
def KOA_X8_decisionsFor_4 (N g H T : Nat) (x0 : Nat) (x1 : Option Nat) (x2 : Int32) (x3 : Int32) (S : cS) (z : Nat × Int32 × Unit) : Prop := KO_X8_decisionsFor_43 N g H T (z.2.1) S
set_option maxRecDepth 100000 in
set_option maxHeartbeats 4000000 in
theorem kd_X8_decisionsFor_4 {G : zG} {o : cO} {u g H T N : Nat} {S : cS} {Q : Option Value → cS → Prop} {X : Int32 → Prop} (hG : zOK G) (hR : ∀ v, X v → Q (some (.int v)) S) {x0 : Nat} {x1 : Option Nat} {x2 : Int32} {x3 : Int32} (hS : St u g H T S) (t_x0 : isO g H 6 x0) (t_x1 : tK S 5 x1) (ok : KOL_X8_decisionsFor_4 N g H T N x0 x1 x2 x3 S ∧ KOA_X8_decisionsFor_4 N g H T x0 x1 x2 x3 S (KL_X8_decisionsFor_4 N g H T N x0 x1 x2 x3 S)) (hx : X (KA_X8_decisionsFor_4 N g H T x0 x1 x2 x3 S (KL_X8_decisionsFor_4 N g H T N x0 x1 x2 x3 S))) : cX G o dX8_decisionsFor mX8_decisionsFor 4 [some (va_rf (some x0)), some (va_rf x1), some (.int x2), some (.int x3)] [] S Q := by
  refine kl_X8_decisionsFor_4 hG ?_ hS N x0 x1 x2 x3 t_x0 t_x1 ok.1 (X := fun z => KOA_X8_decisionsFor_4 N g H T x0 x1 x2 x3 S z ∧ X (KA_X8_decisionsFor_4 N g H T x0 x1 x2 x3 S z)) ⟨ok.2, hx⟩
  · intro x2' hz
    obtain ⟨ok, hx⟩ := hz
    unfold KOA_X8_decisionsFor_4 at ok
    unfold KA_X8_decisionsFor_4 at hx
    exact cX.cutz (kb_X8_decisionsFor_43 hG hR hS  ok hx) ⟨rfl, trivial⟩
def KF_X8_decisionsFor_0 (N g H T : Nat) (x0 : Nat) (x1 : Option Nat) (S : cS) : Int32 := (KA_X8_decisionsFor_4 N g H T x0 x1 (nI 0) (nI 0) S (KL_X8_decisionsFor_4 N g H T N x0 x1 (nI 0) (nI 0) S))
def KO_X8_decisionsFor_0 (N g H T : Nat) (x0 : Nat) (x1 : Option Nat) (S : cS) : Prop := (KOL_X8_decisionsFor_4 N g H T N x0 x1 (nI 0) (nI 0) S ∧ KOA_X8_decisionsFor_4 N g H T x0 x1 (nI 0) (nI 0) S (KL_X8_decisionsFor_4 N g H T N x0 x1 (nI 0) (nI 0) S))
set_option maxRecDepth 100000 in
set_option maxHeartbeats 4000000 in
theorem kb_X8_decisionsFor_0 {G : zG} {o : cO} {u g H T N : Nat} {S : cS} {Q : Option Value → cS → Prop} {X : Int32 → Prop} (hG : zOK G) (hR : ∀ v, X v → Q (some (.int v)) S) {x0 : Nat} {x1 : Option Nat} (hS : St u g H T S) (t_x0 : isO g H 6 x0) (t_x1 : tK S 5 x1) (ok : KO_X8_decisionsFor_0 N g H T x0 x1 S) (hx : X (KF_X8_decisionsFor_0 N g H T x0 x1 S)) : cX G o dX8_decisionsFor mX8_decisionsFor 0 [some (va_rf (some x0)), some (va_rf x1), none, none] [] S Q := by
  unfold KO_X8_decisionsFor_0 at ok
  unfold KF_X8_decisionsFor_0 at hx
  refine c_iconst (v := nI 0) dX8_decisionsFor_0 (by decide) ?_
  refine c_istore_2 dX8_decisionsFor_1 (by decide) (by simp [zok, zg, zcat_rf]) ?_
  refine c_iconst (v := nI 0) dX8_decisionsFor_2 (by decide) ?_
  refine c_istore_3 dX8_decisionsFor_3 (by decide) rfl ?_
  exact cX.cutz (kd_X8_decisionsFor_4 hG hR hS t_x0 t_x1 ok hx) ⟨rfl, rfl, rfl, rfl, trivial⟩
def k_X8_decisionsFor (N g H T : Nat) (S : cS) (a0 : Nat) (x1 : Option Nat) : Int32 := KF_X8_decisionsFor_0 N g H T a0 x1 S
def p_X8_decisionsFor (N g H T : Nat) (S : cS) (a0 : Nat) (x1 : Option Nat) : Prop := KO_X8_decisionsFor_0 N g H T a0 x1 S
set_option maxRecDepth 100000 in
set_option maxHeartbeats 4000000 in
theorem kc_X8_decisionsFor {G : zG} {o : cO} {u g H T N : Nat} {S : cS} (hG : zOK G) {a0 : Nat} {x1 : Option Nat} (hS : St u g H T S) (t_x0 : isO g H 6 a0) (t_x1 : tK S 5 x1) (ok : p_X8_decisionsFor N g H T S a0 x1) : cCi G o dX8_decisionsFor mX8_decisionsFor [.ref a0, va_rf x1] S (fun v S' => (v = k_X8_decisionsFor N g H T S a0 x1 ∧ S' = S)) := by
  refine cC.ofX rfl (by cases x1 <;> exact Nat.le_of_ble_eq_true rfl) ?_
  rw [show zargs mX8_decisionsFor.2.2.1 [.ref a0, va_rf x1] = [some (va_rf (some a0)), some (va_rf x1), none, none] from by cases x1 <;> rfl]
  exact cX.cutz (kb_X8_decisionsFor_0 (X := fun F => F = k_X8_decisionsFor N g H T S a0 x1) hG (fun v h => ⟨v, rfl, h, rfl⟩) hS t_x0 t_x1 ok rfl) ⟨rfl, rfl, trivial⟩
/-! X7_isValid -/
def KF_X7_isValid_91 (N g H T : Nat) (s0 : Int32) (S : cS) : Int32 × cS := (s0, S)
def KO_X7_isValid_91 (N g H T : Nat) (s0 : Int32) (S : cS) : Prop := narrow .boolean (.int s0) = .int s0
set_option maxRecDepth 100000 in
set_option maxHeartbeats 4000000 in
theorem kb_X7_isValid_91 {G : zG} {o : cO} {u g H T N : Nat} {S : cS} {S0 : cS} {Q : Option Value → cS → Prop} {X : Int32 × cS → Prop} (hG : zOK G) (hR : ∀ v S', St u g H T S' → Mono S0 S' → X (v, S') → Q (some (.int v)) S') {s0 : Int32} (hS : St u g H T S) (hM : Mono S0 S) (ok : KO_X7_isValid_91 N g H T s0 S) (hx : X (KF_X7_isValid_91 N g H T s0 S)) : cX G o dX7_isValid mX7_isValid 91 [none, none, none] [.int s0] S Q := by
  unfold KO_X7_isValid_91 at ok
  unfold KF_X7_isValid_91 at hx
  exact c_ireturn rfl ok dX7_isValid_91 (hR _ _ hS hM hx)
def KF_X7_isValid_72 (N g H T : Nat) (x0 : Option Nat) (x1 : Option Nat) (x2 : Int32) (S : cS) : Int32 × cS := (KF_X7_isValid_91 N g H T ((k_X0_play N g H T S (g + 18) (some ((za x1) + 2)) x2 (cI S 2 (za x1))).1) (k_X0_play N g H T S (g + 18) (some ((za x1) + 2)) x2 (cI S 2 (za x1))).2)
def KO_X7_isValid_72 (N g H T : Nat) (x0 : Option Nat) (x1 : Option Nat) (x2 : Int32) (S : cS) : Prop := (¬ x0 = none) ∧ (¬ x1 = none) ∧ (p_X0_play N g H T S (g + 18) (some ((za x1) + 2)) x2 (cI S 2 (za x1))) ∧ KO_X7_isValid_91 N g H T ((k_X0_play N g H T S (g + 18) (some ((za x1) + 2)) x2 (cI S 2 (za x1))).1) (k_X0_play N g H T S (g + 18) (some ((za x1) + 2)) x2 (cI S 2 (za x1))).2
set_option maxRecDepth 100000 in
set_option maxHeartbeats 4000000 in
theorem kb_X7_isValid_72 {G : zG} {o : cO} {u g H T N : Nat} {S : cS} {S0 : cS} {Q : Option Value → cS → Prop} {X : Int32 × cS → Prop} (hG : zOK G) (hR : ∀ v S', St u g H T S' → Mono S0 S' → X (v, S') → Q (some (.int v)) S') {x0 : Option Nat} {x1 : Option Nat} {x2 : Int32} (hS : St u g H T S) (hM : Mono S0 S) (t_x0 : tN g H x0) (t_x1 : tK S 5 x1) (ok : KO_X7_isValid_72 N g H T x0 x1 x2 S) (hx : X (KF_X7_isValid_72 N g H T x0 x1 x2 S)) : cX G o dX7_isValid mX7_isValid 72 [some (va_rf x0), some (va_rf x1), some (.int x2)] [] S Q := by
  unfold KO_X7_isValid_72 at ok
  unfold KF_X7_isValid_72 at hx
  refine c_aload_nQ dX7_isValid_72 rfl rfl ?_
  have nn_73 := ok.1
  refine c_getS (C := RX6) (T := TX6) (N := 19) (ci := 5) (k := 0) ⟨rfl, inT6, by decide, fX7_26⟩ (by decide) (by decide) (by decide) dX7_isValid_73 (hS.kN t_x0 ok.1) (hS.r (c := 5) (tN.o t_x0 ok.1) rfl (by omega)) ?_
  have ok := ok.2
  refine c_getS (C := RX10) (T := TX10) (N := 12) (ci := 8) (k := 8) ⟨rfl, inT10, by decide, fX7_338⟩ (by decide) (by decide) (by decide) dX7_isValid_76 (hS.k (o50 (tN.o t_x0 nn_73))) (hS.r (c := 8) (o50 (tN.o t_x0 nn_73)) rfl (by omega)) ?_
  refine c_aload_nQ dX7_isValid_79 rfl rfl ?_
  have nn_80 := ok.1
  have p_80 := hS.m0k t_x1 ok.1
  refine c_getS (C := RX5) (T := TX5) (N := 7) (ci := 4) (k := 0) ⟨rfl, inT5, by decide, fX7_123⟩ (by decide) (by decide) (by decide) dX7_isValid_80 (tK.cis t_x1 ok.1) (hS.m0 t_x1 ok.1) ?_
  have ok := ok.2
  refine c_iload_n dX7_isValid_83 rfl rfl ?_
  refine c_aload_nQ dX7_isValid_84 rfl rfl ?_
  refine c_getI (C := RX5) (T := TX5) (N := 7) (ci := 4) (k := 2) ⟨rfl, inT5, by decide, fX7_187⟩ (by decide) (by decide) (by decide) dX7_isValid_85 (tK.cis t_x1 nn_80) ?_
  refine c_V3iK (ci := 0) (rr := (RX0, TX0, 6)) (y' := mX0_play) dX7_isValid_88 lX7_194 kX0_play ⟨by decide, by decide⟩ rfl rfl (by decide) (hS.k (o88 (o50 (tN.o t_x0 nn_73)))) (Nat.le_of_ble_eq_true rfl) (kc_X0_play hG hS (o88 (o50 (tN.o t_x0 nn_73))) p_80 ok.1) (fun ⟨hS, hm_88⟩ => ?_)
  have hM := hM.trans hm_88
  have ok := ok.2
  exact cX.cutz (kb_X7_isValid_91 hG hR hS hM  ok hx) trivial
def KF_X7_isValid_56 (N g H T : Nat)  (S : cS) : Int32 × cS := ((nI 0), S)
def KO_X7_isValid_56 (N g H T : Nat)  (S : cS) : Prop := True
set_option maxRecDepth 100000 in
set_option maxHeartbeats 4000000 in
theorem kb_X7_isValid_56 {G : zG} {o : cO} {u g H T N : Nat} {S : cS} {S0 : cS} {Q : Option Value → cS → Prop} {X : Int32 × cS → Prop} (hG : zOK G) (hR : ∀ v S', St u g H T S' → Mono S0 S' → X (v, S') → Q (some (.int v)) S') (hS : St u g H T S) (hM : Mono S0 S) (ok : KO_X7_isValid_56 N g H T S) (hx : X (KF_X7_isValid_56 N g H T S)) : cX G o dX7_isValid mX7_isValid 56 [none, none, none] [] S Q := by
  unfold KO_X7_isValid_56 at ok
  unfold KF_X7_isValid_56 at hx
  refine c_iconst (v := nI 0) dX7_isValid_56 (by decide) ?_
  exact c_ireturn rfl rfl dX7_isValid_57 (hR _ _ hS hM hx)
def KF_X7_isValid_0 (N g H T : Nat) (x0 : Option Nat) (x1 : Option Nat) (x2 : Int32) (S : cS) : Int32 × cS := (if (k_X5_two N g H T S (za x1) x2) = (cI S 9 (za x0)) then (if (k_X11_sameBytes N g H T S (some ((za x1) + 2)) (x2 + (nI 3)) (some ((za x0) + 11)) (nI 0) (nI 32)) = 0 then (KF_X7_isValid_56 N g H T S) else (if (k_X11_sameBytes N g H T S (some ((za x1) + 2)) (x2 + (nI 35)) (some (((za x0) + 6) + 3)) (nI 0) (nI 32)) = 0 then (KF_X7_isValid_56 N g H T S) else (KF_X7_isValid_72 N g H T x0 x1 x2 (k_X0_mirror N g H T S (g + 18) ((za x0) + 6))))) else (KF_X7_isValid_56 N g H T S))
def KO_X7_isValid_0 (N g H T : Nat) (x0 : Option Nat) (x1 : Option Nat) (x2 : Int32) (S : cS) : Prop := (¬ x1 = none ∧ p_X5_two N g H T S (za x1) x2) ∧ (¬ x0 = none) ∧ (((k_X5_two N g H T S (za x1) x2) = (cI S 9 (za x0)) → (p_X11_sameBytes N g H T S (some ((za x1) + 2)) (x2 + (nI 3)) (some ((za x0) + 11)) (nI 0) (nI 32)) ∧ (((k_X11_sameBytes N g H T S (some ((za x1) + 2)) (x2 + (nI 3)) (some ((za x0) + 11)) (nI 0) (nI 32)) = 0 → KO_X7_isValid_56 N g H T S) ∧ (¬ (k_X11_sameBytes N g H T S (some ((za x1) + 2)) (x2 + (nI 3)) (some ((za x0) + 11)) (nI 0) (nI 32)) = 0 → (p_X11_sameBytes N g H T S (some ((za x1) + 2)) (x2 + (nI 35)) (some (((za x0) + 6) + 3)) (nI 0) (nI 32)) ∧ (((k_X11_sameBytes N g H T S (some ((za x1) + 2)) (x2 + (nI 35)) (some (((za x0) + 6) + 3)) (nI 0) (nI 32)) = 0 → KO_X7_isValid_56 N g H T S) ∧ (¬ (k_X11_sameBytes N g H T S (some ((za x1) + 2)) (x2 + (nI 35)) (some (((za x0) + 6) + 3)) (nI 0) (nI 32)) = 0 → (p_X0_mirror N g H T S (g + 18) ((za x0) + 6)) ∧ KO_X7_isValid_72 N g H T x0 x1 x2 (k_X0_mirror N g H T S (g + 18) ((za x0) + 6))))))) ∧ (¬ (k_X5_two N g H T S (za x1) x2) = (cI S 9 (za x0)) → KO_X7_isValid_56 N g H T S))
set_option maxRecDepth 100000 in
set_option maxHeartbeats 4000000 in
theorem kb_X7_isValid_0 {G : zG} {o : cO} {u g H T N : Nat} {S : cS} {S0 : cS} {Q : Option Value → cS → Prop} {X : Int32 × cS → Prop} (hG : zOK G) (hR : ∀ v S', St u g H T S' → Mono S0 S' → X (v, S') → Q (some (.int v)) S') {x0 : Option Nat} {x1 : Option Nat} {x2 : Int32} (hS : St u g H T S) (hM : Mono S0 S) (t_x0 : tN g H x0) (t_x1 : tK S 5 x1) (ok : KO_X7_isValid_0 N g H T x0 x1 x2 S) (hx : X (KF_X7_isValid_0 N g H T x0 x1 x2 S)) : cX G o dX7_isValid mX7_isValid 0 [some (va_rf x0), some (va_rf x1), some (.int x2)] [] S Q := by
  unfold KO_X7_isValid_0 at ok
  unfold KF_X7_isValid_0 at hx
  refine c_aload_nQ dX7_isValid_0 rfl rfl ?_
  refine c_iload_n dX7_isValid_1 rfl rfl ?_
  have nn_2 := ok.1.1
  refine c_V1iE (ci := 4) (rr := (RX5, TX5, 7)) (y' := mX5_two) dX7_isValid_2 lX7_93 kX5_two ⟨by decide, by decide⟩ rfl rfl (by decide) (tK.cis t_x1 nn_2) (Nat.le_of_ble_eq_true rfl) (kc_X5_two hG hS (t_x1 _ (za_of nn_2)) ok.1.2) ?_
  have ok := ok.2
  refine c_aload_nQ dX7_isValid_5 rfl rfl ?_
  have nn_6 := ok.1
  refine c_getI (C := RX6) (T := TX6) (N := 19) (ci := 5) (k := 9) ⟨rfl, inT6, by decide, fX7_18⟩ (by decide) (by decide) (by decide) dX7_isValid_6 (hS.kN t_x0 ok.1) ?_
  have ok := ok.2
  refine c_icmp_ne (tgt := 56) dX7_isValid_9 (by decide) (fun c_9 => ?_) (fun c_9 => ?_)
  · have ok := ok.2 c_9
    have hx := xif_n c_9 hx
    exact cX.cutz (kb_X7_isValid_56 hG hR hS hM  ok hx) trivial
  · have ok := ok.1 c_9
    have hx := xif_p c_9 hx
    refine c_aload_nQ dX7_isValid_12 rfl rfl ?_
    have p_13 := hS.m0k t_x1 nn_2
    refine c_getS (C := RX5) (T := TX5) (N := 7) (ci := 4) (k := 0) ⟨rfl, inT5, by decide, fX7_123⟩ (by decide) (by decide) (by decide) dX7_isValid_13 (tK.cis t_x1 nn_2) (hS.m0 t_x1 nn_2) ?_
    refine c_iload_n dX7_isValid_16 rfl rfl ?_
    refine c_iconst (v := nI 3) dX7_isValid_17 (by decide) ?_
    refine c_iadd dX7_isValid_18 ?_
    refine c_aload_nQ dX7_isValid_19 rfl rfl ?_
    refine c_getS (C := RX6) (T := TX6) (N := 19) (ci := 5) (k := 5) ⟨rfl, inT6, by decide, fX7_127⟩ (by decide) (by decide) (by decide) dX7_isValid_20 (hS.kN t_x0 nn_6) (hS.r (c := 5) (tN.o t_x0 nn_6) rfl (by omega)) ?_
    refine c_iconst (v := nI 0) dX7_isValid_23 (by decide) ?_
    refine c_bipush (v := nI 32) dX7_isValid_24 (by decide) ?_
    refine c_SN5iE (y' := mX11_sameBytes) dX7_isValid_26 lX7_401 kX11_sameBytes ⟨by decide, by decide⟩ (Nat.le_of_ble_eq_true rfl) (kc_X11_sameBytes hG hS p_13 (hS.rk (c := 5) (k := 5) (tN.o t_x0 nn_6) rfl (by omega)) ok.1) ?_
    have ok := ok.2
    refine c_if_eq (tgt := 56) dX7_isValid_29 (by decide) (fun c_29 => ?_) (fun c_29 => ?_)
    · have ok := ok.1 c_29
      have hx := xif_p c_29 hx
      exact cX.cutz (kb_X7_isValid_56 hG hR hS hM  ok hx) trivial
    · have ok := ok.2 c_29
      have hx := xif_n c_29 hx
      refine c_aload_nQ dX7_isValid_32 rfl rfl ?_
      have p_33 := hS.m0k t_x1 nn_2
      refine c_getS (C := RX5) (T := TX5) (N := 7) (ci := 4) (k := 0) ⟨rfl, inT5, by decide, fX7_123⟩ (by decide) (by decide) (by decide) dX7_isValid_33 (tK.cis t_x1 nn_2) (hS.m0 t_x1 nn_2) ?_
      refine c_iload_n dX7_isValid_36 rfl rfl ?_
      refine c_bipush (v := nI 35) dX7_isValid_37 (by decide) ?_
      refine c_iadd dX7_isValid_39 ?_
      refine c_aload_nQ dX7_isValid_40 rfl rfl ?_
      refine c_getS (C := RX6) (T := TX6) (N := 19) (ci := 5) (k := 4) ⟨rfl, inT6, by decide, fX7_22⟩ (by decide) (by decide) (by decide) dX7_isValid_41 (hS.kN t_x0 nn_6) (hS.r (c := 5) (tN.o t_x0 nn_6) rfl (by omega)) ?_
      refine c_getS (C := RX0) (T := TX0) (N := 6) (ci := 0) (k := 3) ⟨rfl, inT0, by decide, fX7_335⟩ (by decide) (by decide) (by decide) dX7_isValid_44 (hS.k (o54 (tN.o t_x0 nn_6))) (hS.r (c := 0) (o54 (tN.o t_x0 nn_6)) rfl (by omega)) ?_
      refine c_iconst (v := nI 0) dX7_isValid_47 (by decide) ?_
      refine c_bipush (v := nI 32) dX7_isValid_48 (by decide) ?_
      refine c_SN5iE (y' := mX11_sameBytes) dX7_isValid_50 lX7_401 kX11_sameBytes ⟨by decide, by decide⟩ (Nat.le_of_ble_eq_true rfl) (kc_X11_sameBytes hG hS p_33 (hS.rk (c := 0) (k := 3) (o54 (tN.o t_x0 nn_6)) rfl (by omega)) ok.1) ?_
      have ok := ok.2
      refine c_if_ne (tgt := 58) dX7_isValid_53 (by decide) (fun c_53 => ?_) (fun c_53 => ?_)
      · have ok := ok.2 c_53
        have hx := xif_n c_53 hx
        refine c_aload_nQ dX7_isValid_58 rfl rfl ?_
        refine c_getS (C := RX6) (T := TX6) (N := 19) (ci := 5) (k := 0) ⟨rfl, inT6, by decide, fX7_26⟩ (by decide) (by decide) (by decide) dX7_isValid_59 (hS.kN t_x0 nn_6) (hS.r (c := 5) (tN.o t_x0 nn_6) rfl (by omega)) ?_
        refine c_getS (C := RX10) (T := TX10) (N := 12) (ci := 8) (k := 8) ⟨rfl, inT10, by decide, fX7_338⟩ (by decide) (by decide) (by decide) dX7_isValid_62 (hS.k (o50 (tN.o t_x0 nn_6))) (hS.r (c := 8) (o50 (tN.o t_x0 nn_6)) rfl (by omega)) ?_
        refine c_aload_nQ dX7_isValid_65 rfl rfl ?_
        refine c_getS (C := RX6) (T := TX6) (N := 19) (ci := 5) (k := 4) ⟨rfl, inT6, by decide, fX7_22⟩ (by decide) (by decide) (by decide) dX7_isValid_66 (hS.kN t_x0 nn_6) (hS.r (c := 5) (tN.o t_x0 nn_6) rfl (by omega)) ?_
        refine c_V1vK (ci := 0) (rr := (RX0, TX0, 6)) (y' := mX0_mirror) dX7_isValid_69 lX7_341 kX0_mirror ⟨by decide, by decide⟩ rfl rfl (by decide) (hS.k (o88 (o50 (tN.o t_x0 nn_6)))) (Nat.le_of_ble_eq_true rfl) (kc_X0_mirror hG hS (o88 (o50 (tN.o t_x0 nn_6))) (o54 (tN.o t_x0 nn_6)) ok.1) (fun ⟨hS, hm_69⟩ => ?_)
        have hM := hM.trans hm_69
        have ok := ok.2
        exact cX.cutz (kb_X7_isValid_72 hG hR hS hM t_x0 (hm_69.tK t_x1 (by decide)) ok hx) ⟨rfl, rfl, rfl, trivial⟩
      · have ok := ok.1 c_53
        have hx := xif_p c_53 hx
        exact cX.cutz (kb_X7_isValid_56 hG hR hS hM  ok hx) trivial
def k_X7_isValid (N g H T : Nat) (S : cS) (x0 : Option Nat) (x1 : Option Nat) (x2 : Int32) : Int32 × cS := KF_X7_isValid_0 N g H T x0 x1 x2 S
def p_X7_isValid (N g H T : Nat) (S : cS) (x0 : Option Nat) (x1 : Option Nat) (x2 : Int32) : Prop := KO_X7_isValid_0 N g H T x0 x1 x2 S
set_option maxRecDepth 100000 in
set_option maxHeartbeats 4000000 in
theorem kc_X7_isValid {G : zG} {o : cO} {u g H T N : Nat} {S : cS} (hG : zOK G) {x0 : Option Nat} {x1 : Option Nat} {x2 : Int32} (hS : St u g H T S) (t_x0 : tN g H x0) (t_x1 : tK S 5 x1) (ok : p_X7_isValid N g H T S x0 x1 x2) : cCi G o dX7_isValid mX7_isValid [va_rf x0, va_rf x1, .int x2] S (fun v S' => (v = (k_X7_isValid N g H T S x0 x1 x2).1 ∧ S' = (k_X7_isValid N g H T S x0 x1 x2).2) ∧ St u g H T S' ∧ Mono S S') := by
  refine cC.ofX rfl (by cases x0 <;> cases x1 <;> exact Nat.le_of_ble_eq_true rfl) ?_
  rw [show zargs mX7_isValid.2.2.1 [va_rf x0, va_rf x1, .int x2] = [some (va_rf x0), some (va_rf x1), some (.int x2)] from by cases x0 <;> cases x1 <;> rfl]
  exact cX.cutz (kb_X7_isValid_0 (X := fun F => F = k_X7_isValid N g H T S x0 x1 x2) hG (fun v S' h1 h2 h => ⟨v, rfl, ⟨by rw [← h], by rw [← h]⟩, h1, h2⟩) hS Mono.rfl' t_x0 t_x1 ok rfl) ⟨rfl, rfl, rfl, trivial⟩
/-! X8_removePayment -/
def KF_X8_removePayment_43 (N g H T : Nat)  (S : cS) : cS := S
def KO_X8_removePayment_43 (N g H T : Nat)  (S : cS) : Prop := True
set_option maxRecDepth 100000 in
set_option maxHeartbeats 4000000 in
theorem kb_X8_removePayment_43 {G : zG} {o : cO} {u g H T N : Nat} {S : cS} {S0 : cS} {Q : Option Value → cS → Prop} {X : cS → Prop} (hG : zOK G) (hR : ∀ S', St u g H T S' → Mono S0 S' → X S' → Q none S') (hS : St u g H T S) (hM : Mono S0 S) (ok : KO_X8_removePayment_43 N g H T S) (hx : X (KF_X8_removePayment_43 N g H T S)) : cX G o dX8_removePayment mX8_removePayment 43 [none, none, none, none] [] S Q := by
  unfold KO_X8_removePayment_43 at ok
  unfold KF_X8_removePayment_43 at hx
  exact c_return rfl dX8_removePayment_43 (hR _ hS hM hx)
def KF_X8_removePayment_33 (N g H T : Nat) (x0 : Nat) (S : cS) : cS := (KF_X8_removePayment_43 N g H T (csI S 12 x0 ((cI S 12 x0) - (nI 1))))
def KO_X8_removePayment_33 (N g H T : Nat) (x0 : Nat) (S : cS) : Prop := KO_X8_removePayment_43 N g H T (csI S 12 x0 ((cI S 12 x0) - (nI 1)))
set_option maxRecDepth 100000 in
set_option maxHeartbeats 4000000 in
theorem kb_X8_removePayment_33 {G : zG} {o : cO} {u g H T N : Nat} {S : cS} {S0 : cS} {Q : Option Value → cS → Prop} {X : cS → Prop} (hG : zOK G) (hR : ∀ S', St u g H T S' → Mono S0 S' → X S' → Q none S') {x0 : Nat} (hS : St u g H T S) (hM : Mono S0 S) (t_x0 : isO g H 6 x0) (ok : KO_X8_removePayment_33 N g H T x0 S) (hx : X (KF_X8_removePayment_33 N g H T x0 S)) : cX G o dX8_removePayment mX8_removePayment 33 [some (va_rf (some x0)), none, none, none] [] S Q := by
  unfold KO_X8_removePayment_33 at ok
  unfold KF_X8_removePayment_33 at hx
  refine c_aload_nQ dX8_removePayment_33 rfl rfl ?_
  refine c_dup dX8_removePayment_34 (zcat_rf _) ?_
  refine c_getI (C := RX8) (T := TX8) (N := 14) (ci := 6) (k := 12) ⟨rfl, inT8, by decide, fX8_108⟩ (by decide) (by decide) (by decide) dX8_removePayment_35 (hS.k t_x0) ?_
  refine c_iconst (v := nI 1) dX8_removePayment_38 (by decide) ?_
  refine c_isub dX8_removePayment_39 ?_
  refine c_putI (C := RX8) (T := TX8) (N := 14) (ci := 6) (k := 12) ⟨rfl, inT8, by decide, fX8_108⟩ ftT8 rfl (by decide) (by decide) (by decide) rfl rfl dX8_removePayment_40 (hS.k t_x0) ?_
  have hS := hS.I 12 x0 ((cI S 12 x0) - (nI 1))
  have hM := hM.I 12 x0 ((cI S 12 x0) - (nI 1))
  exact cX.cutz (kb_X8_removePayment_43 hG hR hS hM  ok hx) trivial
def KF_X8_removePayment_0 (N g H T : Nat) (x0 : Nat) (x1 : Int64) (S : cS) : cS := (if (k_X8_find N g H T S x0 x1) < 0 then (KF_X8_removePayment_43 N g H T S) else (KF_X8_removePayment_33 N g H T x0 (csJrow S (x0 + 4) (va_cpy (cJ S (x0 + 4)) (cJ S (x0 + 4)) ((k_X8_find N g H T S x0 x1) + (nI 1)).toNatClampNeg (k_X8_find N g H T S x0 x1).toNatClampNeg (((cI S 12 x0) - (k_X8_find N g H T S x0 x1)) - (nI 1)).toNatClampNeg))))
def KO_X8_removePayment_0 (N g H T : Nat) (x0 : Nat) (x1 : Int64) (S : cS) : Prop := (p_X8_find N g H T S x0 x1) ∧ (((k_X8_find N g H T S x0 x1) < 0 → KO_X8_removePayment_43 N g H T S) ∧ (¬ (k_X8_find N g H T S x0 x1) < 0 → ((¬ ((k_X8_find N g H T S x0 x1) + (nI 1)) < 0 ∧ ¬ (k_X8_find N g H T S x0 x1) < 0 ∧ ¬ (((cI S 12 x0) - (k_X8_find N g H T S x0 x1)) - (nI 1)) < 0) ∧ ((k_X8_find N g H T S x0 x1) + (nI 1)).toNatClampNeg + (((cI S 12 x0) - (k_X8_find N g H T S x0 x1)) - (nI 1)).toNatClampNeg ≤ 80 ∧ (k_X8_find N g H T S x0 x1).toNatClampNeg + (((cI S 12 x0) - (k_X8_find N g H T S x0 x1)) - (nI 1)).toNatClampNeg ≤ 80) ∧ KO_X8_removePayment_33 N g H T x0 (csJrow S (x0 + 4) (va_cpy (cJ S (x0 + 4)) (cJ S (x0 + 4)) ((k_X8_find N g H T S x0 x1) + (nI 1)).toNatClampNeg (k_X8_find N g H T S x0 x1).toNatClampNeg (((cI S 12 x0) - (k_X8_find N g H T S x0 x1)) - (nI 1)).toNatClampNeg))))
set_option maxRecDepth 100000 in
set_option maxHeartbeats 4000000 in
theorem kb_X8_removePayment_0 {G : zG} {o : cO} {u g H T N : Nat} {S : cS} {S0 : cS} {Q : Option Value → cS → Prop} {X : cS → Prop} (hG : zOK G) (hR : ∀ S', St u g H T S' → Mono S0 S' → X S' → Q none S') {x0 : Nat} {x1 : Int64} (hS : St u g H T S) (hM : Mono S0 S) (t_x0 : isO g H 6 x0) (ok : KO_X8_removePayment_0 N g H T x0 x1 S) (hx : X (KF_X8_removePayment_0 N g H T x0 x1 S)) : cX G o dX8_removePayment mX8_removePayment 0 [some (va_rf (some x0)), some (.long x1), none, none] [] S Q := by
  unfold KO_X8_removePayment_0 at ok
  unfold KF_X8_removePayment_0 at hx
  refine c_aload_nQ dX8_removePayment_0 rfl rfl ?_
  refine c_lload_n dX8_removePayment_1 rfl rfl ?_
  refine c_V1iE (ci := 6) (rr := (RX8, TX8, 14)) (y' := mX8_find) dX8_removePayment_2 lX8_111 kX8_find ⟨by decide, by decide⟩ rfl rfl (by decide) (hS.k t_x0) (Nat.le_of_ble_eq_true rfl) (kc_X8_find hG hS t_x0 ok.1) ?_
  have ok := ok.2
  refine c_istore_3 dX8_removePayment_5 (by decide) rfl ?_
  refine c_iload_n dX8_removePayment_6 rfl rfl ?_
  refine c_if_lt (tgt := 43) dX8_removePayment_7 (by decide) (fun c_7 => ?_) (fun c_7 => ?_)
  · have ok := ok.1 c_7
    have hx := xif_p c_7 hx
    exact cX.cutz (kb_X8_removePayment_43 hG hR hS hM  ok hx) trivial
  · have ok := ok.2 c_7
    have hx := xif_n c_7 hx
    refine c_aload_nQ dX8_removePayment_10 rfl rfl ?_
    refine c_getS (C := RX8) (T := TX8) (N := 14) (ci := 6) (k := 10) ⟨rfl, inT8, by decide, fX8_24⟩ (by decide) (by decide) (by decide) dX8_removePayment_11 (hS.k t_x0) (hS.r (c := 6) t_x0 rfl (by omega)) ?_
    refine c_iload_n dX8_removePayment_14 rfl rfl ?_
    refine c_iconst (v := nI 1) dX8_removePayment_15 (by decide) ?_
    refine c_iadd dX8_removePayment_16 ?_
    refine c_aload_nQ dX8_removePayment_17 rfl rfl ?_
    refine c_getS (C := RX8) (T := TX8) (N := 14) (ci := 6) (k := 10) ⟨rfl, inT8, by decide, fX8_24⟩ (by decide) (by decide) (by decide) dX8_removePayment_18 (hS.k t_x0) (hS.r (c := 6) t_x0 rfl (by omega)) ?_
    refine c_iload_n dX8_removePayment_21 rfl rfl ?_
    refine c_aload_nQ dX8_removePayment_22 rfl rfl ?_
    refine c_getI (C := RX8) (T := TX8) (N := 14) (ci := 6) (k := 12) ⟨rfl, inT8, by decide, fX8_108⟩ (by decide) (by decide) (by decide) dX8_removePayment_23 (hS.k t_x0) ?_
    refine c_iload_n dX8_removePayment_26 rfl rfl ?_
    refine c_isub dX8_removePayment_27 ?_
    refine c_iconst (v := nI 1) dX8_removePayment_28 (by decide) ?_
    refine c_isub dX8_removePayment_29 ?_
    refine c_copy2 hG dX8_removePayment_30 qX8_115 (by decide) (by decide) ⟨tK.cis (hS.rk (c := 6) (k := 10) t_x0 rfl (by omega)) (Option.some_ne_none _), tK.cis (hS.rk (c := 6) (k := 10) t_x0 rfl (by omega)) (Option.some_ne_none _), ok.1.1, (le_cast (hS.rl (c := 6) (k := 10) t_x0 rfl (by decide) (by omega)) ok.1.2.1), (le_cast (hS.rl (c := 6) (k := 10) t_x0 rfl (by decide) (by omega)) ok.1.2.2)⟩ ?_
    have hS := hS.Jr (x0 + 4) (va_cpy (cJ S (x0 + 4)) (cJ S (x0 + 4)) ((k_X8_find N g H T S x0 x1) + (nI 1)).toNatClampNeg (k_X8_find N g H T S x0 x1).toNatClampNeg (((cI S 12 x0) - (k_X8_find N g H T S x0 x1)) - (nI 1)).toNatClampNeg)
    have hM := hM.Jr (x0 + 4) (va_cpy (cJ S (x0 + 4)) (cJ S (x0 + 4)) ((k_X8_find N g H T S x0 x1) + (nI 1)).toNatClampNeg (k_X8_find N g H T S x0 x1).toNatClampNeg (((cI S 12 x0) - (k_X8_find N g H T S x0 x1)) - (nI 1)).toNatClampNeg)
    have ok := ok.2
    exact cX.cutz (kb_X8_removePayment_33 hG hR hS hM t_x0 ok hx) ⟨rfl, trivial⟩
def k_X8_removePayment (N g H T : Nat) (S : cS) (a0 : Nat) (x1 : Int64) : cS := KF_X8_removePayment_0 N g H T a0 x1 S
def p_X8_removePayment (N g H T : Nat) (S : cS) (a0 : Nat) (x1 : Int64) : Prop := KO_X8_removePayment_0 N g H T a0 x1 S
set_option maxRecDepth 100000 in
set_option maxHeartbeats 4000000 in
theorem kc_X8_removePayment {G : zG} {o : cO} {u g H T N : Nat} {S : cS} (hG : zOK G) {a0 : Nat} {x1 : Int64} (hS : St u g H T S) (t_x0 : isO g H 6 a0) (ok : p_X8_removePayment N g H T S a0 x1) : cCv G o dX8_removePayment mX8_removePayment [.ref a0, .long x1] S (fun S' => S' = k_X8_removePayment N g H T S a0 x1 ∧ St u g H T S' ∧ Mono S S') := by
  refine cC.ofX rfl (by exact Nat.le_of_ble_eq_true rfl) ?_
  show cX G o dX8_removePayment mX8_removePayment 0 [some (va_rf (some a0)), some (.long x1), none, none] [] S _
  exact cX.cutz (kb_X8_removePayment_0 (X := fun F => F = k_X8_removePayment N g H T S a0 x1) hG (fun S' h1 h2 h => ⟨rfl, h, h1, h2⟩) hS Mono.rfl' t_x0 ok rfl) ⟨rfl, rfl, trivial⟩
/-! X7_adopt -/
def KF_X7_adopt_116 (N g H T : Nat) (x0 : Option Nat) (S : cS) : cS := (k_X6_enter N g H T S (za x0) ((cI S 9 (za x0)) + (nI 1)))
def KO_X7_adopt_116 (N g H T : Nat) (x0 : Option Nat) (S : cS) : Prop := (¬ x0 = none) ∧ (p_X6_enter N g H T S (za x0) ((cI S 9 (za x0)) + (nI 1))) ∧ True
set_option maxRecDepth 100000 in
set_option maxHeartbeats 4000000 in
theorem kb_X7_adopt_116 {G : zG} {o : cO} {u g H T N : Nat} {S : cS} {S0 : cS} {Q : Option Value → cS → Prop} {X : cS → Prop} (hG : zOK G) (hR : ∀ S', St u g H T S' → Mono S0 S' → X S' → Q none S') {x0 : Option Nat} (hS : St u g H T S) (hM : Mono S0 S) (t_x0 : tN g H x0) (ok : KO_X7_adopt_116 N g H T x0 S) (hx : X (KF_X7_adopt_116 N g H T x0 S)) : cX G o dX7_adopt mX7_adopt 116 [some (va_rf x0), none, none, none, none] [] S Q := by
  unfold KO_X7_adopt_116 at ok
  unfold KF_X7_adopt_116 at hx
  refine c_aload_nQ dX7_adopt_116 rfl rfl ?_
  refine c_aload_nQ dX7_adopt_117 rfl rfl ?_
  have nn_118 := ok.1
  refine c_getI (C := RX6) (T := TX6) (N := 19) (ci := 5) (k := 9) ⟨rfl, inT6, by decide, fX7_18⟩ (by decide) (by decide) (by decide) dX7_adopt_118 (hS.kN t_x0 ok.1) ?_
  have ok := ok.2
  refine c_iconst (v := nI 1) dX7_adopt_121 (by decide) ?_
  refine c_iadd dX7_adopt_122 ?_
  refine c_V1vK (ci := 5) (rr := (RX6, TX6, 19)) (y' := mX6_enter) dX7_adopt_123 lX7_144 kX6_enter ⟨by decide, by decide⟩ rfl rfl (by decide) (hS.kN t_x0 nn_118) (Nat.le_of_ble_eq_true rfl) (kc_X6_enter hG hS (tN.o t_x0 nn_118) ok.1) (fun ⟨hS, hm_123⟩ => ?_)
  have hM := hM.trans hm_123
  have ok := ok.2
  exact c_return rfl dX7_adopt_126 (hR _ hS hM hx)
def KF_X7_adopt_102 (N g H T : Nat) (x0 : Option Nat) (S : cS) : cS := (KF_X7_adopt_116 N g H T x0 (k_X6_forgetAnswers N g H T S (za x0) (cI S 9 (za x0)) ((cI S 9 (za x0)) + (nI 1))))
def KO_X7_adopt_102 (N g H T : Nat) (x0 : Option Nat) (S : cS) : Prop := (¬ x0 = none) ∧ (p_X6_forgetAnswers N g H T S (za x0) (cI S 9 (za x0)) ((cI S 9 (za x0)) + (nI 1))) ∧ KO_X7_adopt_116 N g H T x0 (k_X6_forgetAnswers N g H T S (za x0) (cI S 9 (za x0)) ((cI S 9 (za x0)) + (nI 1)))
set_option maxRecDepth 100000 in
set_option maxHeartbeats 4000000 in
theorem kb_X7_adopt_102 {G : zG} {o : cO} {u g H T N : Nat} {S : cS} {S0 : cS} {Q : Option Value → cS → Prop} {X : cS → Prop} (hG : zOK G) (hR : ∀ S', St u g H T S' → Mono S0 S' → X S' → Q none S') {x0 : Option Nat} (hS : St u g H T S) (hM : Mono S0 S) (t_x0 : tN g H x0) (ok : KO_X7_adopt_102 N g H T x0 S) (hx : X (KF_X7_adopt_102 N g H T x0 S)) : cX G o dX7_adopt mX7_adopt 102 [some (va_rf x0), none, none, none, none] [] S Q := by
  unfold KO_X7_adopt_102 at ok
  unfold KF_X7_adopt_102 at hx
  refine c_aload_nQ dX7_adopt_102 rfl rfl ?_
  refine c_aload_nQ dX7_adopt_103 rfl rfl ?_
  have nn_104 := ok.1
  refine c_getI (C := RX6) (T := TX6) (N := 19) (ci := 5) (k := 9) ⟨rfl, inT6, by decide, fX7_18⟩ (by decide) (by decide) (by decide) dX7_adopt_104 (hS.kN t_x0 ok.1) ?_
  have ok := ok.2
  refine c_aload_nQ dX7_adopt_107 rfl rfl ?_
  refine c_getI (C := RX6) (T := TX6) (N := 19) (ci := 5) (k := 9) ⟨rfl, inT6, by decide, fX7_18⟩ (by decide) (by decide) (by decide) dX7_adopt_108 (hS.kN t_x0 nn_104) ?_
  refine c_iconst (v := nI 1) dX7_adopt_111 (by decide) ?_
  refine c_iadd dX7_adopt_112 ?_
  refine c_V2vK (ci := 5) (rr := (RX6, TX6, 19)) (y' := mX6_forgetAnswers) dX7_adopt_113 lX7_140 kX6_forgetAnswers ⟨by decide, by decide⟩ rfl rfl (by decide) (hS.kN t_x0 nn_104) (Nat.le_of_ble_eq_true rfl) (kc_X6_forgetAnswers hG hS (tN.o t_x0 nn_104) ok.1) (fun ⟨hS, hm_113⟩ => ?_)
  have hM := hM.trans hm_113
  have ok := ok.2
  exact cX.cutz (kb_X7_adopt_116 hG hR hS hM t_x0 ok hx) ⟨rfl, trivial⟩
def KF_X7_adopt_96 (N g H T : Nat) (rec : Option Nat → Option Nat → Int32 → Int32 → cS → Nat × Option Nat × cS) (x0 : Option Nat) (x1 : Option Nat) (x3 : Int32) (x4 : Int32) (S : cS) : Nat × Option Nat × cS := (rec x0 x1 x3 (x4 + nI 1) S)
def KO_X7_adopt_96 (N g H T : Nat) (rok : Option Nat → Option Nat → Int32 → Int32 → cS → Prop) (x0 : Option Nat) (x1 : Option Nat) (x3 : Int32) (x4 : Int32) (S : cS) : Prop := rok x0 x1 x3 (x4 + nI 1) S
set_option maxRecDepth 100000 in
set_option maxHeartbeats 4000000 in
theorem kb_X7_adopt_96 {G : zG} {o : cO} {u g H T N : Nat} {S : cS} {S0 : cS} {Q : Option Value → cS → Prop} {X : Nat × Option Nat × cS → Prop} (hG : zOK G) (hX0 : ∀ (x0 : Option Nat) (S' : cS), St u g H T S' → Mono S0 S' → tN g H x0 → X (0, x0, S') → cX G o dX7_adopt mX7_adopt 102 [some (va_rf x0), none, none, none, none] [] S' Q) {rec : Option Nat → Option Nat → Int32 → Int32 → cS → Nat × Option Nat × cS} {rok : Option Nat → Option Nat → Int32 → Int32 → cS → Prop} (hrec : ∀ (x0 : Option Nat) (x1 : Option Nat) (x3 : Int32) (x4 : Int32) (S : cS), St u g H T S → Mono S0 S → tN g H x0 → tK S 5 x1 → rok x0 x1 x3 x4 S → X (rec x0 x1 x3 x4 S) → cX G o dX7_adopt mX7_adopt 66 [some (va_rf x0), some (va_rf x1), none, some (.int x3), some (.int x4)] [] S Q) {x0 : Option Nat} {x1 : Option Nat} {x3 : Int32} {x4 : Int32} (hS : St u g H T S) (hM : Mono S0 S) (t_x0 : tN g H x0) (t_x1 : tK S 5 x1) (ok : KO_X7_adopt_96 N g H T rok x0 x1 x3 x4 S) (hx : X (KF_X7_adopt_96 N g H T rec x0 x1 x3 x4 S)) : cX G o dX7_adopt mX7_adopt 96 [some (va_rf x0), some (va_rf x1), none, some (.int x3), some (.int x4)] [] S Q := by
  unfold KO_X7_adopt_96 at ok
  unfold KF_X7_adopt_96 at hx
  refine c_iinc_4 (v := (x4 + nI 1)) dX7_adopt_96 rfl (by first | rfl | (congr 1)) (by decide) rfl ?_
  refine c_goto (tgt := 66) dX7_adopt_99 (by decide) ?_
  exact cX.cutz (hrec _ _ _ _ S hS hM t_x0 t_x1 ok hx) ⟨rfl, rfl, rfl, rfl, trivial⟩
def KB_X7_adopt_66 (N g H T : Nat) (rec : Option Nat → Option Nat → Int32 → Int32 → cS → Nat × Option Nat × cS) (x0 : Option Nat) (x1 : Option Nat) (x3 : Int32) (x4 : Int32) (S : cS) : Nat × Option Nat × cS := (if x3 < x4 then (0, x0, S) else (KF_X7_adopt_96 N g H T rec x0 x1 x3 x4 (k_X8_removePayment N g H T S ((za x0) + 14) (k_X0_codeAt N g H T S (some ((za x1) + 2)) ((cI S 2 (za x1)) - (x4 * (nI 7)))))))
def KOB_X7_adopt_66 (N g H T : Nat) (rok : Option Nat → Option Nat → Int32 → Int32 → cS → Prop) (x0 : Option Nat) (x1 : Option Nat) (x3 : Int32) (x4 : Int32) (S : cS) : Prop := ((x3 < x4 → True) ∧ (¬ x3 < x4 → (¬ x0 = none) ∧ (¬ x1 = none) ∧ (p_X0_codeAt N g H T S (some ((za x1) + 2)) ((cI S 2 (za x1)) - (x4 * (nI 7)))) ∧ (p_X8_removePayment N g H T S ((za x0) + 14) (k_X0_codeAt N g H T S (some ((za x1) + 2)) ((cI S 2 (za x1)) - (x4 * (nI 7))))) ∧ KO_X7_adopt_96 N g H T rok x0 x1 x3 x4 (k_X8_removePayment N g H T S ((za x0) + 14) (k_X0_codeAt N g H T S (some ((za x1) + 2)) ((cI S 2 (za x1)) - (x4 * (nI 7)))))))
set_option maxRecDepth 100000 in
set_option maxHeartbeats 4000000 in
theorem kbb_X7_adopt_66 {G : zG} {o : cO} {u g H T N : Nat} {S : cS} {S0 : cS} {Q : Option Value → cS → Prop} {X : Nat × Option Nat × cS → Prop} (hG : zOK G) (hX0 : ∀ (x0 : Option Nat) (S' : cS), St u g H T S' → Mono S0 S' → tN g H x0 → X (0, x0, S') → cX G o dX7_adopt mX7_adopt 102 [some (va_rf x0), none, none, none, none] [] S' Q) {rec : Option Nat → Option Nat → Int32 → Int32 → cS → Nat × Option Nat × cS} {rok : Option Nat → Option Nat → Int32 → Int32 → cS → Prop} (hrec : ∀ (x0 : Option Nat) (x1 : Option Nat) (x3 : Int32) (x4 : Int32) (S : cS), St u g H T S → Mono S0 S → tN g H x0 → tK S 5 x1 → rok x0 x1 x3 x4 S → X (rec x0 x1 x3 x4 S) → cX G o dX7_adopt mX7_adopt 66 [some (va_rf x0), some (va_rf x1), none, some (.int x3), some (.int x4)] [] S Q) {x0 : Option Nat} {x1 : Option Nat} {x3 : Int32} {x4 : Int32} (hS : St u g H T S) (hM : Mono S0 S) (t_x0 : tN g H x0) (t_x1 : tK S 5 x1) (ok : KOB_X7_adopt_66 N g H T rok x0 x1 x3 x4 S) (hx : X (KB_X7_adopt_66 N g H T rec x0 x1 x3 x4 S)) : cX G o dX7_adopt mX7_adopt 66 [some (va_rf x0), some (va_rf x1), none, some (.int x3), some (.int x4)] [] S Q := by
  unfold KOB_X7_adopt_66 at ok
  unfold KB_X7_adopt_66 at hx
  refine c_iload dX7_adopt_66 rfl ?_
  refine c_iload_n dX7_adopt_68 rfl rfl ?_
  refine c_icmp_gt (tgt := 102) dX7_adopt_69 (by decide) (fun c_69 => ?_) (fun c_69 => ?_)
  · have ok := ok.1 c_69
    have hx := xif_p c_69 hx
    exact cX.cutz (hX0 _ S hS hM t_x0 hx) ⟨rfl, trivial⟩
  · have ok := ok.2 c_69
    have hx := xif_n c_69 hx
    refine c_aload_nQ dX7_adopt_72 rfl rfl ?_
    have nn_73 := ok.1
    refine c_getS (C := RX6) (T := TX6) (N := 19) (ci := 5) (k := 3) ⟨rfl, inT6, by decide, fX7_80⟩ (by decide) (by decide) (by decide) dX7_adopt_73 (hS.kN t_x0 ok.1) (hS.r (c := 5) (tN.o t_x0 ok.1) rfl (by omega)) ?_
    have ok := ok.2
    refine c_aload_nQ dX7_adopt_76 rfl rfl ?_
    have nn_77 := ok.1
    have p_77 := hS.m0k t_x1 ok.1
    refine c_getS (C := RX5) (T := TX5) (N := 7) (ci := 4) (k := 0) ⟨rfl, inT5, by decide, fX7_123⟩ (by decide) (by decide) (by decide) dX7_adopt_77 (tK.cis t_x1 ok.1) (hS.m0 t_x1 ok.1) ?_
    have ok := ok.2
    refine c_aload_nQ dX7_adopt_80 rfl rfl ?_
    refine c_getI (C := RX5) (T := TX5) (N := 7) (ci := 4) (k := 2) ⟨rfl, inT5, by decide, fX7_187⟩ (by decide) (by decide) (by decide) dX7_adopt_81 (tK.cis t_x1 nn_77) ?_
    refine c_iload dX7_adopt_84 rfl ?_
    refine c_bipush (v := nI 7) dX7_adopt_86 (by decide) ?_
    refine c_imul dX7_adopt_88 ?_
    refine c_isub dX7_adopt_89 ?_
    refine c_S2lE (y' := mX0_codeAt) dX7_adopt_90 lX7_205 kX0_codeAt ⟨by decide, by decide⟩ (by simp only [List.map_cons, List.map_nil, List.sum_cons, List.sum_nil, zcat_rf, zcat_i, zcat_l, zcat_r] <;> decide) (kc_X0_codeAt hG hS p_77 ok.1) ?_
    have ok := ok.2
    refine c_V1vK (ci := 6) (rr := (RX8, TX8, 14)) (y' := mX8_removePayment) dX7_adopt_93 lX7_209 kX8_removePayment ⟨by decide, by decide⟩ rfl rfl (by decide) (hS.k (o53 (tN.o t_x0 nn_73))) (Nat.le_of_ble_eq_true rfl) (kc_X8_removePayment hG hS (o53 (tN.o t_x0 nn_73)) ok.1) (fun ⟨hS, hm_93⟩ => ?_)
    have hM := hM.trans hm_93
    have ok := ok.2
    exact cX.cutz (kb_X7_adopt_96 hG hX0 hrec hS hM t_x0 (hm_93.tK t_x1 (by decide)) ok hx) ⟨rfl, rfl, rfl, rfl, trivial⟩
def KL_X7_adopt_66 (N g H T : Nat) : Nat → Option Nat → Option Nat → Int32 → Int32 → cS → Nat × Option Nat × cS
  | 0, x0, x1, x3, x4, S => (0, none, S)
  | n + 1, x0, x1, x3, x4, S => KB_X7_adopt_66 N g H T (KL_X7_adopt_66 N g H T n) x0 x1 x3 x4 S
def KOL_X7_adopt_66 (N g H T : Nat) : Nat → Option Nat → Option Nat → Int32 → Int32 → cS → Prop
  | 0, _, _, _, _, _ => False
  | n + 1, x0, x1, x3, x4, S => KOB_X7_adopt_66 N g H T (KOL_X7_adopt_66 N g H T n) x0 x1 x3 x4 S
set_option maxRecDepth 100000 in
set_option maxHeartbeats 4000000 in
theorem kl_X7_adopt_66 {G : zG} {o : cO} {u g H T N : Nat} {S0 : cS} {Q : Option Value → cS → Prop} {X : Nat × Option Nat × cS → Prop} (hG : zOK G) (hX0 : ∀ (x0 : Option Nat) (S' : cS), St u g H T S' → Mono S0 S' → tN g H x0 → X (0, x0, S') → cX G o dX7_adopt mX7_adopt 102 [some (va_rf x0), none, none, none, none] [] S' Q) : ∀ (n : Nat) (x0 : Option Nat) (x1 : Option Nat) (x3 : Int32) (x4 : Int32) (S : cS), St u g H T S → Mono S0 S → tN g H x0 → tK S 5 x1 → KOL_X7_adopt_66 N g H T n x0 x1 x3 x4 S → X (KL_X7_adopt_66 N g H T n x0 x1 x3 x4 S) → cX G o dX7_adopt mX7_adopt 66 [some (va_rf x0), some (va_rf x1), none, some (.int x3), some (.int x4)] [] S Q := by
  intro n
  induction n with
  | zero => intro x0 x1 x3 x4 S hS hM t_x0 t_x1 ok; exact absurd ok id
  | succ n ih =>
    intro x0 x1 x3 x4 S hS hM t_x0 t_x1 ok hx
    exact kbb_X7_adopt_66 hG hX0 (rec := KL_X7_adopt_66 N g H T n) (rok := KOL_X7_adopt_66 N g H T n) (fun x0 x1 x3 x4 S hS hM t_x0 t_x1 ok hx => ih x0 x1 x3 x4 S hS hM t_x0 t_x1 ok hx) hS hM t_x0 t_x1 ok hx
def KA_X7_adopt_66 (N g H T : Nat) (x0 : Option Nat) (x1 : Option Nat) (x3 : Int32) (x4 : Int32) (S : cS) (z : Nat × Option Nat × cS) : cS := (KF_X7_adopt_102 N g H T (z.2.1) z.2.2)
def KOA_X7_adopt_66 (N g H T : Nat) (x0 : Option Nat) (x1 : Option Nat) (x3 : Int32) (x4 : Int32) (S : cS) (z : Nat × Option Nat × cS) : Prop := KO_X7_adopt_102 N g H T (z.2.1) z.2.2
set_option maxRecDepth 100000 in
set_option maxHeartbeats 4000000 in
theorem kd_X7_adopt_66 {G : zG} {o : cO} {u g H T N : Nat} {S : cS} {S0 : cS} {Q : Option Value → cS → Prop} {X : cS → Prop} (hG : zOK G) (hR : ∀ S', St u g H T S' → Mono S0 S' → X S' → Q none S') {x0 : Option Nat} {x1 : Option Nat} {x3 : Int32} {x4 : Int32} (hS : St u g H T S) (hM : Mono S0 S) (t_x0 : tN g H x0) (t_x1 : tK S 5 x1) (ok : KOL_X7_adopt_66 N g H T N x0 x1 x3 x4 S ∧ KOA_X7_adopt_66 N g H T x0 x1 x3 x4 S (KL_X7_adopt_66 N g H T N x0 x1 x3 x4 S)) (hx : X (KA_X7_adopt_66 N g H T x0 x1 x3 x4 S (KL_X7_adopt_66 N g H T N x0 x1 x3 x4 S))) : cX G o dX7_adopt mX7_adopt 66 [some (va_rf x0), some (va_rf x1), none, some (.int x3), some (.int x4)] [] S Q := by
  refine kl_X7_adopt_66 hG ?_ N x0 x1 x3 x4 S hS hM t_x0 t_x1 ok.1 (X := fun z => KOA_X7_adopt_66 N g H T x0 x1 x3 x4 S z ∧ X (KA_X7_adopt_66 N g H T x0 x1 x3 x4 S z)) ⟨ok.2, hx⟩
  · intro x0' S' hS hM t_x0 hz
    obtain ⟨ok, hx⟩ := hz
    unfold KOA_X7_adopt_66 at ok
    unfold KA_X7_adopt_66 at hx
    exact cX.cutz (kb_X7_adopt_102 hG hR hS hM t_x0 ok hx) ⟨rfl, trivial⟩
def KF_X7_adopt_54 (N g H T : Nat) (x0 : Option Nat) (x1 : Option Nat) (x2 : Int32) (S : cS) : cS := (KA_X7_adopt_66 N g H T x0 x1 (k_X5_at N g H T S (za x1) (x2 + (nI 99))) (nI 1) S (KL_X7_adopt_66 N g H T N x0 x1 (k_X5_at N g H T S (za x1) (x2 + (nI 99))) (nI 1) S))
def KO_X7_adopt_54 (N g H T : Nat) (x0 : Option Nat) (x1 : Option Nat) (x2 : Int32) (S : cS) : Prop := (¬ x1 = none ∧ p_X5_at N g H T S (za x1) (x2 + (nI 99))) ∧ (KOL_X7_adopt_66 N g H T N x0 x1 (k_X5_at N g H T S (za x1) (x2 + (nI 99))) (nI 1) S ∧ KOA_X7_adopt_66 N g H T x0 x1 (k_X5_at N g H T S (za x1) (x2 + (nI 99))) (nI 1) S (KL_X7_adopt_66 N g H T N x0 x1 (k_X5_at N g H T S (za x1) (x2 + (nI 99))) (nI 1) S))
set_option maxRecDepth 100000 in
set_option maxHeartbeats 4000000 in
theorem kb_X7_adopt_54 {G : zG} {o : cO} {u g H T N : Nat} {S : cS} {S0 : cS} {Q : Option Value → cS → Prop} {X : cS → Prop} (hG : zOK G) (hR : ∀ S', St u g H T S' → Mono S0 S' → X S' → Q none S') {x0 : Option Nat} {x1 : Option Nat} {x2 : Int32} (hS : St u g H T S) (hM : Mono S0 S) (t_x0 : tN g H x0) (t_x1 : tK S 5 x1) (ok : KO_X7_adopt_54 N g H T x0 x1 x2 S) (hx : X (KF_X7_adopt_54 N g H T x0 x1 x2 S)) : cX G o dX7_adopt mX7_adopt 54 [some (va_rf x0), some (va_rf x1), some (.int x2), none, none] [] S Q := by
  unfold KO_X7_adopt_54 at ok
  unfold KF_X7_adopt_54 at hx
  refine c_aload_nQ dX7_adopt_54 rfl rfl ?_
  refine c_iload_n dX7_adopt_55 rfl rfl ?_
  refine c_bipush (v := nI 99) dX7_adopt_56 (by decide) ?_
  refine c_iadd dX7_adopt_58 ?_
  have nn_59 := ok.1.1
  refine c_V1iE (ci := 4) (rr := (RX5, TX5, 7)) (y' := mX5_at) dX7_adopt_59 lX7_202 kX5_at ⟨by decide, by decide⟩ rfl rfl (by decide) (tK.cis t_x1 nn_59) (Nat.le_of_ble_eq_true rfl) (kc_X5_at hG hS (t_x1 _ (za_of nn_59)) ok.1.2) ?_
  have ok := ok.2
  refine c_istore_3 dX7_adopt_62 (by decide) rfl ?_
  refine c_iconst (v := nI 1) dX7_adopt_63 (by decide) ?_
  refine c_istore_4 dX7_adopt_64 (by decide) rfl ?_
  exact cX.cutz (kd_X7_adopt_66 hG hR hS hM t_x0 t_x1 ok hx) ⟨rfl, rfl, rfl, rfl, trivial⟩
def KF_X7_adopt_44 (N g H T : Nat) (x0 : Option Nat) (x1 : Option Nat) (x2 : Int32) (s0 : Int32) (S : cS) : cS := (KF_X7_adopt_54 N g H T x0 x1 x2 (k_X5_writeId N g H T S (za x1) (some ((za x0) + 11)) (nI 0)))
def KO_X7_adopt_44 (N g H T : Nat) (x0 : Option Nat) (x1 : Option Nat) (x2 : Int32) (s0 : Int32) (S : cS) : Prop := (¬ x0 = none) ∧ (¬ x1 = none ∧ p_X5_writeId N g H T S (za x1) (some ((za x0) + 11)) (nI 0)) ∧ KO_X7_adopt_54 N g H T x0 x1 x2 (k_X5_writeId N g H T S (za x1) (some ((za x0) + 11)) (nI 0))
set_option maxRecDepth 100000 in
set_option maxHeartbeats 4000000 in
theorem kb_X7_adopt_44 {G : zG} {o : cO} {u g H T N : Nat} {S : cS} {S0 : cS} {Q : Option Value → cS → Prop} {X : cS → Prop} (hG : zOK G) (hR : ∀ S', St u g H T S' → Mono S0 S' → X S' → Q none S') {x0 : Option Nat} {x1 : Option Nat} {x2 : Int32} {s0 : Int32} (hS : St u g H T S) (hM : Mono S0 S) (t_x0 : tN g H x0) (t_x1 : tK S 5 x1) (ok : KO_X7_adopt_44 N g H T x0 x1 x2 s0 S) (hx : X (KF_X7_adopt_44 N g H T x0 x1 x2 s0 S)) : cX G o dX7_adopt mX7_adopt 44 [some (va_rf x0), some (va_rf x1), some (.int x2), none, none] [.int s0] S Q := by
  unfold KO_X7_adopt_44 at ok
  unfold KF_X7_adopt_44 at hx
  refine c_pop dX7_adopt_44 rfl ?_
  refine c_aload_nQ dX7_adopt_45 rfl rfl ?_
  refine c_aload_nQ dX7_adopt_46 rfl rfl ?_
  have nn_47 := ok.1
  refine c_getS (C := RX6) (T := TX6) (N := 19) (ci := 5) (k := 5) ⟨rfl, inT6, by decide, fX7_127⟩ (by decide) (by decide) (by decide) dX7_adopt_47 (hS.kN t_x0 ok.1) (hS.r (c := 5) (tN.o t_x0 ok.1) rfl (by omega)) ?_
  have ok := ok.2
  refine c_iconst (v := nI 0) dX7_adopt_50 (by decide) ?_
  have nn_51 := ok.1.1
  refine c_V2vK (ci := 4) (rr := (RX5, TX5, 7)) (y' := mX5_writeId) dX7_adopt_51 lX7_198 kX5_writeId ⟨by decide, by decide⟩ rfl rfl (by decide) (tK.cis t_x1 nn_51) (Nat.le_of_ble_eq_true rfl) (kc_X5_writeId hG hS (t_x1 _ (za_of nn_51)) (hS.rk (c := 5) (k := 5) (tN.o t_x0 nn_47) rfl (by omega)) ok.1.2) (fun ⟨hS, hm_51⟩ => ?_)
  have hM := hM.trans hm_51
  have ok := ok.2
  exact cX.cutz (kb_X7_adopt_54 hG hR hS hM t_x0 (hm_51.tK t_x1 (by decide)) ok hx) ⟨rfl, rfl, rfl, trivial⟩
def KF_X7_adopt_20 (N g H T : Nat) (x0 : Option Nat) (x1 : Option Nat) (x2 : Int32) (s0 : Int32) (S : cS) : cS := (if s0 = 0 then (k_X6_fall N g H T S (za x0)) else (KF_X7_adopt_44 N g H T x0 x1 x2 ((k_X0_play N g H T S ((za x0) + 6) (some ((za x1) + 2)) x2 (cI S 2 (za x1))).1) (k_X0_play N g H T S ((za x0) + 6) (some ((za x1) + 2)) x2 (cI S 2 (za x1))).2))
def KO_X7_adopt_20 (N g H T : Nat) (x0 : Option Nat) (x1 : Option Nat) (x2 : Int32) (s0 : Int32) (S : cS) : Prop := ((s0 = 0 → (¬ x0 = none ∧ p_X6_fall N g H T S (za x0)) ∧ True) ∧ (¬ s0 = 0 → (¬ x0 = none) ∧ (¬ x1 = none) ∧ (p_X0_play N g H T S ((za x0) + 6) (some ((za x1) + 2)) x2 (cI S 2 (za x1))) ∧ KO_X7_adopt_44 N g H T x0 x1 x2 ((k_X0_play N g H T S ((za x0) + 6) (some ((za x1) + 2)) x2 (cI S 2 (za x1))).1) (k_X0_play N g H T S ((za x0) + 6) (some ((za x1) + 2)) x2 (cI S 2 (za x1))).2))
set_option maxRecDepth 100000 in
set_option maxHeartbeats 4000000 in
theorem kb_X7_adopt_20 {G : zG} {o : cO} {u g H T N : Nat} {S : cS} {S0 : cS} {Q : Option Value → cS → Prop} {X : cS → Prop} (hG : zOK G) (hR : ∀ S', St u g H T S' → Mono S0 S' → X S' → Q none S') {x0 : Option Nat} {x1 : Option Nat} {x2 : Int32} {s0 : Int32} (hS : St u g H T S) (hM : Mono S0 S) (t_x0 : tN g H x0) (t_x1 : tK S 5 x1) (ok : KO_X7_adopt_20 N g H T x0 x1 x2 s0 S) (hx : X (KF_X7_adopt_20 N g H T x0 x1 x2 s0 S)) : cX G o dX7_adopt mX7_adopt 20 [some (va_rf x0), some (va_rf x1), some (.int x2), none, none] [.int s0] S Q := by
  unfold KO_X7_adopt_20 at ok
  unfold KF_X7_adopt_20 at hx
  refine c_if_ne (tgt := 28) dX7_adopt_20 (by decide) (fun c_20 => ?_) (fun c_20 => ?_)
  · have ok := ok.2 c_20
    have hx := xif_n c_20 hx
    refine c_aload_nQ dX7_adopt_28 rfl rfl ?_
    have nn_29 := ok.1
    refine c_getS (C := RX6) (T := TX6) (N := 19) (ci := 5) (k := 4) ⟨rfl, inT6, by decide, fX7_22⟩ (by decide) (by decide) (by decide) dX7_adopt_29 (hS.kN t_x0 ok.1) (hS.r (c := 5) (tN.o t_x0 ok.1) rfl (by omega)) ?_
    have ok := ok.2
    refine c_aload_nQ dX7_adopt_32 rfl rfl ?_
    have nn_33 := ok.1
    have p_33 := hS.m0k t_x1 ok.1
    refine c_getS (C := RX5) (T := TX5) (N := 7) (ci := 4) (k := 0) ⟨rfl, inT5, by decide, fX7_123⟩ (by decide) (by decide) (by decide) dX7_adopt_33 (tK.cis t_x1 ok.1) (hS.m0 t_x1 ok.1) ?_
    have ok := ok.2
    refine c_iload_n dX7_adopt_36 rfl rfl ?_
    refine c_aload_nQ dX7_adopt_37 rfl rfl ?_
    refine c_getI (C := RX5) (T := TX5) (N := 7) (ci := 4) (k := 2) ⟨rfl, inT5, by decide, fX7_187⟩ (by decide) (by decide) (by decide) dX7_adopt_38 (tK.cis t_x1 nn_33) ?_
    refine c_V3iK (ci := 0) (rr := (RX0, TX0, 6)) (y' := mX0_play) dX7_adopt_41 lX7_194 kX0_play ⟨by decide, by decide⟩ rfl rfl (by decide) (hS.k (o54 (tN.o t_x0 nn_29))) (Nat.le_of_ble_eq_true rfl) (kc_X0_play hG hS (o54 (tN.o t_x0 nn_29)) p_33 ok.1) (fun ⟨hS, hm_41⟩ => ?_)
    have hM := hM.trans hm_41
    have ok := ok.2
    exact cX.cutz (kb_X7_adopt_44 hG hR hS hM t_x0 (hm_41.tK t_x1 (by decide)) ok hx) ⟨rfl, rfl, rfl, trivial⟩
  · have ok := ok.1 c_20
    have hx := xif_p c_20 hx
    refine c_aload_nQ dX7_adopt_23 rfl rfl ?_
    have nn_24 := ok.1.1
    refine c_V0vK (ci := 5) (rr := (RX6, TX6, 19)) (y' := mX6_fall) dX7_adopt_24 lX7_120 kX6_fall ⟨by decide, by decide⟩ rfl rfl (by decide) (hS.kN t_x0 nn_24) (Nat.le_of_ble_eq_true rfl) (kc_X6_fall hG hS (tN.o t_x0 nn_24) ok.1.2) (fun ⟨hS, hm_24⟩ => ?_)
    have hM := hM.trans hm_24
    have ok := ok.2
    exact c_return rfl dX7_adopt_27 (hR _ hS hM hx)
def KF_X7_adopt_0 (N g H T : Nat) (x0 : Option Nat) (x1 : Option Nat) (x2 : Int32) (S : cS) : cS := (KF_X7_adopt_20 N g H T x0 x1 x2 ((k_X4_noteChain N g H T S ((za x0) + 1) (cI S 9 (za x0)) (some ((za x1) + 2)) x2 (cI S 2 (za x1))).1) (k_X4_noteChain N g H T S ((za x0) + 1) (cI S 9 (za x0)) (some ((za x1) + 2)) x2 (cI S 2 (za x1))).2)
def KO_X7_adopt_0 (N g H T : Nat) (x0 : Option Nat) (x1 : Option Nat) (x2 : Int32) (S : cS) : Prop := (¬ x0 = none) ∧ (¬ x1 = none) ∧ (p_X4_noteChain N g H T S ((za x0) + 1) (cI S 9 (za x0)) (some ((za x1) + 2)) x2 (cI S 2 (za x1))) ∧ KO_X7_adopt_20 N g H T x0 x1 x2 ((k_X4_noteChain N g H T S ((za x0) + 1) (cI S 9 (za x0)) (some ((za x1) + 2)) x2 (cI S 2 (za x1))).1) (k_X4_noteChain N g H T S ((za x0) + 1) (cI S 9 (za x0)) (some ((za x1) + 2)) x2 (cI S 2 (za x1))).2
set_option maxRecDepth 100000 in
set_option maxHeartbeats 4000000 in
theorem kb_X7_adopt_0 {G : zG} {o : cO} {u g H T N : Nat} {S : cS} {S0 : cS} {Q : Option Value → cS → Prop} {X : cS → Prop} (hG : zOK G) (hR : ∀ S', St u g H T S' → Mono S0 S' → X S' → Q none S') {x0 : Option Nat} {x1 : Option Nat} {x2 : Int32} (hS : St u g H T S) (hM : Mono S0 S) (t_x0 : tN g H x0) (t_x1 : tK S 5 x1) (ok : KO_X7_adopt_0 N g H T x0 x1 x2 S) (hx : X (KF_X7_adopt_0 N g H T x0 x1 x2 S)) : cX G o dX7_adopt mX7_adopt 0 [some (va_rf x0), some (va_rf x1), some (.int x2), none, none] [] S Q := by
  unfold KO_X7_adopt_0 at ok
  unfold KF_X7_adopt_0 at hx
  refine c_aload_nQ dX7_adopt_0 rfl rfl ?_
  have nn_1 := ok.1
  refine c_getS (C := RX6) (T := TX6) (N := 19) (ci := 5) (k := 2) ⟨rfl, inT6, by decide, fX7_110⟩ (by decide) (by decide) (by decide) dX7_adopt_1 (hS.kN t_x0 ok.1) (hS.r (c := 5) (tN.o t_x0 ok.1) rfl (by omega)) ?_
  have ok := ok.2
  refine c_aload_nQ dX7_adopt_4 rfl rfl ?_
  refine c_getI (C := RX6) (T := TX6) (N := 19) (ci := 5) (k := 9) ⟨rfl, inT6, by decide, fX7_18⟩ (by decide) (by decide) (by decide) dX7_adopt_5 (hS.kN t_x0 nn_1) ?_
  refine c_aload_nQ dX7_adopt_8 rfl rfl ?_
  have nn_9 := ok.1
  have p_9 := hS.m0k t_x1 ok.1
  refine c_getS (C := RX5) (T := TX5) (N := 7) (ci := 4) (k := 0) ⟨rfl, inT5, by decide, fX7_123⟩ (by decide) (by decide) (by decide) dX7_adopt_9 (tK.cis t_x1 ok.1) (hS.m0 t_x1 ok.1) ?_
  have ok := ok.2
  refine c_iload_n dX7_adopt_12 rfl rfl ?_
  refine c_aload_nQ dX7_adopt_13 rfl rfl ?_
  refine c_getI (C := RX5) (T := TX5) (N := 7) (ci := 4) (k := 2) ⟨rfl, inT5, by decide, fX7_187⟩ (by decide) (by decide) (by decide) dX7_adopt_14 (tK.cis t_x1 nn_9) ?_
  refine c_V4iK (ci := 3) (rr := (RX4, TX4, 10)) (y' := mX4_noteChain) dX7_adopt_17 lX7_190 kX4_noteChain ⟨by decide, by decide⟩ rfl rfl (by decide) (hS.k (o52 (tN.o t_x0 nn_1))) (Nat.le_of_ble_eq_true rfl) (kc_X4_noteChain hG hS (o52 (tN.o t_x0 nn_1)) p_9 ok.1) (fun ⟨hS, hm_17⟩ => ?_)
  have hM := hM.trans hm_17
  have ok := ok.2
  exact cX.cutz (kb_X7_adopt_20 hG hR hS hM t_x0 (hm_17.tK t_x1 (by decide)) ok hx) ⟨rfl, rfl, rfl, trivial⟩
def k_X7_adopt (N g H T : Nat) (S : cS) (x0 : Option Nat) (x1 : Option Nat) (x2 : Int32) : cS := KF_X7_adopt_0 N g H T x0 x1 x2 S
def p_X7_adopt (N g H T : Nat) (S : cS) (x0 : Option Nat) (x1 : Option Nat) (x2 : Int32) : Prop := KO_X7_adopt_0 N g H T x0 x1 x2 S
set_option maxRecDepth 100000 in
set_option maxHeartbeats 4000000 in
theorem kc_X7_adopt {G : zG} {o : cO} {u g H T N : Nat} {S : cS} (hG : zOK G) {x0 : Option Nat} {x1 : Option Nat} {x2 : Int32} (hS : St u g H T S) (t_x0 : tN g H x0) (t_x1 : tK S 5 x1) (ok : p_X7_adopt N g H T S x0 x1 x2) : cCv G o dX7_adopt mX7_adopt [va_rf x0, va_rf x1, .int x2] S (fun S' => S' = k_X7_adopt N g H T S x0 x1 x2 ∧ St u g H T S' ∧ Mono S S') := by
  refine cC.ofX rfl (by cases x0 <;> cases x1 <;> exact Nat.le_of_ble_eq_true rfl) ?_
  rw [show zargs mX7_adopt.2.2.1 [va_rf x0, va_rf x1, .int x2] = [some (va_rf x0), some (va_rf x1), some (.int x2), none, none] from by cases x0 <;> cases x1 <;> rfl]
  exact cX.cutz (kb_X7_adopt_0 (X := fun F => F = k_X7_adopt N g H T S x0 x1 x2) hG (fun S' h1 h2 h => ⟨rfl, h, h1, h2⟩) hS Mono.rfl' t_x0 t_x1 ok rfl) ⟨rfl, rfl, rfl, trivial⟩
/-! X8_proposal -/
def KF_X8_proposal_21 (N g H T : Nat) (s0 : Option Nat) (S : cS) : Option Nat := s0
def KO_X8_proposal_21 (N g H T : Nat) (s0 : Option Nat) (S : cS) : Prop := True
set_option maxRecDepth 100000 in
set_option maxHeartbeats 4000000 in
theorem kb_X8_proposal_21 {G : zG} {o : cO} {u g H T N : Nat} {S : cS} {Q : Option Value → cS → Prop} {X : Option Nat → Prop} (hG : zOK G) (hR : ∀ v, tK S 5 v → X v → Q (some (va_rf v)) S) {s0 : Option Nat} (hS : St u g H T S) (t_s0 : tK S 5 s0) (ok : KO_X8_proposal_21 N g H T s0 S) (hx : X (KF_X8_proposal_21 N g H T s0 S)) : cX G o dX8_proposal mX8_proposal 21 [none, none, none, none] [va_rf s0] S Q := by
  unfold KO_X8_proposal_21 at ok
  unfold KF_X8_proposal_21 at hx
  exact c_areturn rfl (Or.inl ⟨_, rfl⟩) dX8_proposal_21 (hR _ t_s0 hx)
def KF_X8_proposal_0 (N g H T : Nat) (x0 : Nat) (x1 : Int32) (x2 : Int32) (S : cS) : Option Nat := (if 0 ≤ (k_X8_page N g H T S x0 x1 x2) then (KF_X8_proposal_21 N g H T (cP S (x0 + 1) (k_X8_page N g H T S x0 x1 x2).toNatClampNeg) S) else (KF_X8_proposal_21 N g H T (none : Option Nat) S))
def KO_X8_proposal_0 (N g H T : Nat) (x0 : Nat) (x1 : Int32) (x2 : Int32) (S : cS) : Prop := (p_X8_page N g H T S x0 x1 x2) ∧ ((0 ≤ (k_X8_page N g H T S x0 x1 x2) → (vp_in (k_X8_page N g H T S x0 x1 x2) 32) ∧ KO_X8_proposal_21 N g H T (cP S (x0 + 1) (k_X8_page N g H T S x0 x1 x2).toNatClampNeg) S) ∧ (¬ 0 ≤ (k_X8_page N g H T S x0 x1 x2) → KO_X8_proposal_21 N g H T (none : Option Nat) S))
set_option maxRecDepth 100000 in
set_option maxHeartbeats 4000000 in
theorem kb_X8_proposal_0 {G : zG} {o : cO} {u g H T N : Nat} {S : cS} {Q : Option Value → cS → Prop} {X : Option Nat → Prop} (hG : zOK G) (hR : ∀ v, tK S 5 v → X v → Q (some (va_rf v)) S) {x0 : Nat} {x1 : Int32} {x2 : Int32} (hS : St u g H T S) (t_x0 : isO g H 6 x0) (ok : KO_X8_proposal_0 N g H T x0 x1 x2 S) (hx : X (KF_X8_proposal_0 N g H T x0 x1 x2 S)) : cX G o dX8_proposal mX8_proposal 0 [some (va_rf (some x0)), some (.int x1), some (.int x2), none] [] S Q := by
  unfold KO_X8_proposal_0 at ok
  unfold KF_X8_proposal_0 at hx
  refine c_aload_nQ dX8_proposal_0 rfl rfl ?_
  refine c_iload_n dX8_proposal_1 rfl rfl ?_
  refine c_iload_n dX8_proposal_2 rfl rfl ?_
  refine c_V2iE (ci := 6) (rr := (RX8, TX8, 14)) (y' := mX8_page) dX8_proposal_3 lX8_51 kX8_page ⟨by decide, by decide⟩ rfl rfl (by decide) (hS.k t_x0) (Nat.le_of_ble_eq_true rfl) (kc_X8_page hG hS t_x0 ok.1) ?_
  have ok := ok.2
  refine c_istore_3 dX8_proposal_6 (by decide) rfl ?_
  refine c_iload_n dX8_proposal_7 rfl rfl ?_
  refine c_if_ge (tgt := 15) dX8_proposal_8 (by decide) (fun c_8 => ?_) (fun c_8 => ?_)
  · have ok := ok.1 c_8
    have hx := xif_p c_8 hx
    refine c_aload_nQ dX8_proposal_15 rfl rfl ?_
    refine c_getS (C := RX8) (T := TX8) (N := 14) (ci := 6) (k := 2) ⟨rfl, inT8, by decide, fX8_11⟩ (by decide) (by decide) (by decide) dX8_proposal_16 (hS.k t_x0) (hS.r (c := 6) t_x0 rfl (by omega)) ?_
    refine c_iload_n dX8_proposal_19 rfl rfl ?_
    have p_20 := hS.row24 (hS.rk (c := 6) (k := 2) t_x0 rfl (by omega)) (k_X8_page N g H T S x0 x1 x2).toNatClampNeg
    refine c_aald (t := 4) (ty := (.object "QuorumLedger$Message")) rfl rfl (by decide) dX8_proposal_20 ⟨(tK.cis (hS.rk (c := 6) (k := 2) t_x0 rfl (by omega)) (Option.some_ne_none _)), (vk_cast (hS.rl (c := 6) (k := 2) t_x0 rfl (by decide) (by omega)) ok.1)⟩ ?_
    have ok := ok.2
    exact cX.cutz (kb_X8_proposal_21 hG hR hS p_20 ok hx) trivial
  · have ok := ok.2 c_8
    have hx := xif_n c_8 hx
    refine c_null' dX8_proposal_11 ?_
    refine c_goto (tgt := 21) dX8_proposal_12 (by decide) ?_
    exact cX.cutz (kb_X8_proposal_21 hG hR hS tK_none ok hx) trivial
def k_X8_proposal (N g H T : Nat) (S : cS) (a0 : Nat) (x1 : Int32) (x2 : Int32) : Option Nat := KF_X8_proposal_0 N g H T a0 x1 x2 S
def p_X8_proposal (N g H T : Nat) (S : cS) (a0 : Nat) (x1 : Int32) (x2 : Int32) : Prop := KO_X8_proposal_0 N g H T a0 x1 x2 S
set_option maxRecDepth 100000 in
set_option maxHeartbeats 4000000 in
theorem kc_X8_proposal {G : zG} {o : cO} {u g H T N : Nat} {S : cS} (hG : zOK G) {a0 : Nat} {x1 : Int32} {x2 : Int32} (hS : St u g H T S) (t_x0 : isO g H 6 a0) (ok : p_X8_proposal N g H T S a0 x1 x2) : cCq G o dX8_proposal mX8_proposal [.ref a0, .int x1, .int x2] S (fun v S' => (v = k_X8_proposal N g H T S a0 x1 x2 ∧ S' = S) ∧ tK S 5 v) := by
  refine cC.ofX rfl (by exact Nat.le_of_ble_eq_true rfl) ?_
  show cX G o dX8_proposal mX8_proposal 0 [some (va_rf (some a0)), some (.int x1), some (.int x2), none] [] S _
  exact cX.cutz (kb_X8_proposal_0 (X := fun F => F = k_X8_proposal N g H T S a0 x1 x2) hG (fun v h3 h => ⟨v, rfl, ⟨h, rfl⟩, h3⟩) hS t_x0 ok rfl) ⟨rfl, rfl, rfl, trivial⟩
/-! X8_votesFor -/
def KF_X8_votesFor_98 (N g H T : Nat) (x7 : Int32) (S : cS) : Int32 := x7
def KO_X8_votesFor_98 (N g H T : Nat) (x7 : Int32) (S : cS) : Prop := True
set_option maxRecDepth 100000 in
set_option maxHeartbeats 4000000 in
theorem kb_X8_votesFor_98 {G : zG} {o : cO} {u g H T N : Nat} {S : cS} {Q : Option Value → cS → Prop} {X : Int32 → Prop} (hG : zOK G) (hR : ∀ v, X v → Q (some (.int v)) S) {x7 : Int32} (hS : St u g H T S) (ok : KO_X8_votesFor_98 N g H T x7 S) (hx : X (KF_X8_votesFor_98 N g H T x7 S)) : cX G o dX8_votesFor mX8_votesFor 98 [none, none, none, none, none, none, none, some (.int x7), none, none] [] S Q := by
  unfold KO_X8_votesFor_98 at ok
  unfold KF_X8_votesFor_98 at hx
  refine c_iload dX8_votesFor_98 rfl ?_
  exact c_ireturn rfl rfl dX8_votesFor_100 (hR _ hx)
def KF_X8_votesFor_92 (N g H T : Nat) (rec : Nat → Option Nat → Int32 → Int32 → Int32 → Int32 → Nat × Int32 × Unit) (x0 : Nat) (x4 : Option Nat) (x5 : Int32) (x6 : Int32) (x7 : Int32) (x8 : Int32) (S : cS) : Nat × Int32 × Unit := (rec x0 x4 x5 x6 x7 (x8 + nI 1))
def KO_X8_votesFor_92 (N g H T : Nat) (rok : Nat → Option Nat → Int32 → Int32 → Int32 → Int32 → Prop) (x0 : Nat) (x4 : Option Nat) (x5 : Int32) (x6 : Int32) (x7 : Int32) (x8 : Int32) (S : cS) : Prop := rok x0 x4 x5 x6 x7 (x8 + nI 1)
set_option maxRecDepth 100000 in
set_option maxHeartbeats 4000000 in
theorem kb_X8_votesFor_92 {G : zG} {o : cO} {u g H T N : Nat} {S : cS} {Q : Option Value → cS → Prop} {X : Nat × Int32 × Unit → Prop} (hG : zOK G) (hX0 : ∀ (x7 : Int32) , X (0, x7, ()) → cX G o dX8_votesFor mX8_votesFor 98 [none, none, none, none, none, none, none, some (.int x7), none, none] [] S Q) {rec : Nat → Option Nat → Int32 → Int32 → Int32 → Int32 → Nat × Int32 × Unit} {rok : Nat → Option Nat → Int32 → Int32 → Int32 → Int32 → Prop} (hrec : ∀ (x0 : Nat) (x4 : Option Nat) (x5 : Int32) (x6 : Int32) (x7 : Int32) (x8 : Int32), isO g H 6 x0 → tK S 5 x4 → rok x0 x4 x5 x6 x7 x8 → X (rec x0 x4 x5 x6 x7 x8) → cX G o dX8_votesFor mX8_votesFor 32 [some (va_rf (some x0)), none, none, none, some (va_rf x4), some (.int x5), some (.int x6), some (.int x7), some (.int x8), none] [] S Q) {x0 : Nat} {x4 : Option Nat} {x5 : Int32} {x6 : Int32} {x7 : Int32} {x8 : Int32} (hS : St u g H T S) (t_x0 : isO g H 6 x0) (t_x4 : tK S 5 x4) (ok : KO_X8_votesFor_92 N g H T rok x0 x4 x5 x6 x7 x8 S) (hx : X (KF_X8_votesFor_92 N g H T rec x0 x4 x5 x6 x7 x8 S)) : cX G o dX8_votesFor mX8_votesFor 92 [some (va_rf (some x0)), none, none, none, some (va_rf x4), some (.int x5), some (.int x6), some (.int x7), some (.int x8), none] [] S Q := by
  unfold KO_X8_votesFor_92 at ok
  unfold KF_X8_votesFor_92 at hx
  refine c_iinc_8 (v := (x8 + nI 1)) dX8_votesFor_92 rfl (by first | rfl | (congr 1)) (by decide) rfl ?_
  refine c_goto (tgt := 32) dX8_votesFor_95 (by decide) ?_
  exact cX.cutz (hrec _ _ _ _ _ _ t_x0 t_x4 ok hx) ⟨rfl, rfl, rfl, rfl, rfl, rfl, trivial⟩
def KF_X8_votesFor_89 (N g H T : Nat) (rec : Nat → Option Nat → Int32 → Int32 → Int32 → Int32 → Nat × Int32 × Unit) (x0 : Nat) (x4 : Option Nat) (x5 : Int32) (x6 : Int32) (x7 : Int32) (x8 : Int32) (S : cS) : Nat × Int32 × Unit := (KF_X8_votesFor_92 N g H T rec x0 x4 x5 x6 (x7 + nI 1) x8 S)
def KO_X8_votesFor_89 (N g H T : Nat) (rok : Nat → Option Nat → Int32 → Int32 → Int32 → Int32 → Prop) (x0 : Nat) (x4 : Option Nat) (x5 : Int32) (x6 : Int32) (x7 : Int32) (x8 : Int32) (S : cS) : Prop := KO_X8_votesFor_92 N g H T rok x0 x4 x5 x6 (x7 + nI 1) x8 S
set_option maxRecDepth 100000 in
set_option maxHeartbeats 4000000 in
theorem kb_X8_votesFor_89 {G : zG} {o : cO} {u g H T N : Nat} {S : cS} {Q : Option Value → cS → Prop} {X : Nat × Int32 × Unit → Prop} (hG : zOK G) (hX0 : ∀ (x7 : Int32) , X (0, x7, ()) → cX G o dX8_votesFor mX8_votesFor 98 [none, none, none, none, none, none, none, some (.int x7), none, none] [] S Q) {rec : Nat → Option Nat → Int32 → Int32 → Int32 → Int32 → Nat × Int32 × Unit} {rok : Nat → Option Nat → Int32 → Int32 → Int32 → Int32 → Prop} (hrec : ∀ (x0 : Nat) (x4 : Option Nat) (x5 : Int32) (x6 : Int32) (x7 : Int32) (x8 : Int32), isO g H 6 x0 → tK S 5 x4 → rok x0 x4 x5 x6 x7 x8 → X (rec x0 x4 x5 x6 x7 x8) → cX G o dX8_votesFor mX8_votesFor 32 [some (va_rf (some x0)), none, none, none, some (va_rf x4), some (.int x5), some (.int x6), some (.int x7), some (.int x8), none] [] S Q) {x0 : Nat} {x4 : Option Nat} {x5 : Int32} {x6 : Int32} {x7 : Int32} {x8 : Int32} (hS : St u g H T S) (t_x0 : isO g H 6 x0) (t_x4 : tK S 5 x4) (ok : KO_X8_votesFor_89 N g H T rok x0 x4 x5 x6 x7 x8 S) (hx : X (KF_X8_votesFor_89 N g H T rec x0 x4 x5 x6 x7 x8 S)) : cX G o dX8_votesFor mX8_votesFor 89 [some (va_rf (some x0)), none, none, none, some (va_rf x4), some (.int x5), some (.int x6), some (.int x7), some (.int x8), none] [] S Q := by
  unfold KO_X8_votesFor_89 at ok
  unfold KF_X8_votesFor_89 at hx
  refine c_iinc_7 (v := (x7 + nI 1)) dX8_votesFor_89 rfl (by first | rfl | (congr 1)) (by decide) rfl ?_
  exact cX.cutz (kb_X8_votesFor_92 hG hX0 hrec hS t_x0 t_x4 ok hx) ⟨rfl, rfl, rfl, rfl, rfl, rfl, trivial⟩
def KB_X8_votesFor_32 (N g H T : Nat) (rec : Nat → Option Nat → Int32 → Int32 → Int32 → Int32 → Nat × Int32 × Unit) (x0 : Nat) (x4 : Option Nat) (x5 : Int32) (x6 : Int32) (x7 : Int32) (x8 : Int32) (S : cS) : Nat × Int32 × Unit := (if (cI S 1 x0) ≤ x8 then (0, x7, ()) else (if x5 < 0 then (0, x7, ()) else (if (cP S (x0 + 5) (x6 + x8).toNatClampNeg) = none then (KF_X8_votesFor_92 N g H T rec x0 x4 x5 x6 x7 x8 S) else (if x4 = none then (if (cI S 5 (za (cP S (x0 + 5) (x6 + x8).toNatClampNeg))) = 0 then (KF_X8_votesFor_89 N g H T rec x0 x4 x5 x6 x7 x8 S) else (KF_X8_votesFor_92 N g H T rec x0 x4 x5 x6 x7 x8 S)) else (if (k_X5_isFor N g H T S (za (cP S (x0 + 5) (x6 + x8).toNatClampNeg)) x4) = 0 then (KF_X8_votesFor_92 N g H T rec x0 x4 x5 x6 x7 x8 S) else (KF_X8_votesFor_89 N g H T rec x0 x4 x5 x6 x7 x8 S))))))
def KOB_X8_votesFor_32 (N g H T : Nat) (rok : Nat → Option Nat → Int32 → Int32 → Int32 → Int32 → Prop) (x0 : Nat) (x4 : Option Nat) (x5 : Int32) (x6 : Int32) (x7 : Int32) (x8 : Int32) (S : cS) : Prop := (((cI S 1 x0) ≤ x8 → True) ∧ (¬ (cI S 1 x0) ≤ x8 → ((x5 < 0 → True) ∧ (¬ x5 < 0 → (vp_in (x6 + x8) (64 * T)) ∧ (((cP S (x0 + 5) (x6 + x8).toNatClampNeg) = none → KO_X8_votesFor_92 N g H T rok x0 x4 x5 x6 x7 x8 S) ∧ (¬ (cP S (x0 + 5) (x6 + x8).toNatClampNeg) = none → ((x4 = none → (((cI S 5 (za (cP S (x0 + 5) (x6 + x8).toNatClampNeg))) = 0 → KO_X8_votesFor_89 N g H T rok x0 x4 x5 x6 x7 x8 S) ∧ (¬ (cI S 5 (za (cP S (x0 + 5) (x6 + x8).toNatClampNeg))) = 0 → KO_X8_votesFor_92 N g H T rok x0 x4 x5 x6 x7 x8 S))) ∧ (¬ x4 = none → (p_X5_isFor N g H T S (za (cP S (x0 + 5) (x6 + x8).toNatClampNeg)) x4) ∧ (((k_X5_isFor N g H T S (za (cP S (x0 + 5) (x6 + x8).toNatClampNeg)) x4) = 0 → KO_X8_votesFor_92 N g H T rok x0 x4 x5 x6 x7 x8 S) ∧ (¬ (k_X5_isFor N g H T S (za (cP S (x0 + 5) (x6 + x8).toNatClampNeg)) x4) = 0 → KO_X8_votesFor_89 N g H T rok x0 x4 x5 x6 x7 x8 S))))))))))
set_option maxRecDepth 100000 in
set_option maxHeartbeats 4000000 in
theorem kbb_X8_votesFor_32 {G : zG} {o : cO} {u g H T N : Nat} {S : cS} {Q : Option Value → cS → Prop} {X : Nat × Int32 × Unit → Prop} (hG : zOK G) (hX0 : ∀ (x7 : Int32) , X (0, x7, ()) → cX G o dX8_votesFor mX8_votesFor 98 [none, none, none, none, none, none, none, some (.int x7), none, none] [] S Q) {rec : Nat → Option Nat → Int32 → Int32 → Int32 → Int32 → Nat × Int32 × Unit} {rok : Nat → Option Nat → Int32 → Int32 → Int32 → Int32 → Prop} (hrec : ∀ (x0 : Nat) (x4 : Option Nat) (x5 : Int32) (x6 : Int32) (x7 : Int32) (x8 : Int32), isO g H 6 x0 → tK S 5 x4 → rok x0 x4 x5 x6 x7 x8 → X (rec x0 x4 x5 x6 x7 x8) → cX G o dX8_votesFor mX8_votesFor 32 [some (va_rf (some x0)), none, none, none, some (va_rf x4), some (.int x5), some (.int x6), some (.int x7), some (.int x8), none] [] S Q) {x0 : Nat} {x4 : Option Nat} {x5 : Int32} {x6 : Int32} {x7 : Int32} {x8 : Int32} (hS : St u g H T S) (t_x0 : isO g H 6 x0) (t_x4 : tK S 5 x4) (ok : KOB_X8_votesFor_32 N g H T rok x0 x4 x5 x6 x7 x8 S) (hx : X (KB_X8_votesFor_32 N g H T rec x0 x4 x5 x6 x7 x8 S)) : cX G o dX8_votesFor mX8_votesFor 32 [some (va_rf (some x0)), none, none, none, some (va_rf x4), some (.int x5), some (.int x6), some (.int x7), some (.int x8), none] [] S Q := by
  unfold KOB_X8_votesFor_32 at ok
  unfold KB_X8_votesFor_32 at hx
  refine c_iload dX8_votesFor_32 rfl ?_
  refine c_aload_nQ dX8_votesFor_34 rfl rfl ?_
  refine c_getI (C := RX8) (T := TX8) (N := 14) (ci := 6) (k := 1) ⟨rfl, inT8, by decide, fX8_32⟩ (by decide) (by decide) (by decide) dX8_votesFor_35 (hS.k t_x0) ?_
  refine c_icmp_ge (tgt := 98) dX8_votesFor_38 (by decide) (fun c_38 => ?_) (fun c_38 => ?_)
  · have ok := ok.1 c_38
    have hx := xif_p c_38 hx
    exact cX.cutz (hX0 _   hx) ⟨rfl, trivial⟩
  · have ok := ok.2 c_38
    have hx := xif_n c_38 hx
    refine c_iload dX8_votesFor_41 rfl ?_
    refine c_if_lt (tgt := 98) dX8_votesFor_43 (by decide) (fun c_43 => ?_) (fun c_43 => ?_)
    · have ok := ok.1 c_43
      have hx := xif_p c_43 hx
      exact cX.cutz (hX0 _   hx) ⟨rfl, trivial⟩
    · have ok := ok.2 c_43
      have hx := xif_n c_43 hx
      refine c_aload_nQ dX8_votesFor_46 rfl rfl ?_
      refine c_getS (C := RX8) (T := TX8) (N := 14) (ci := 6) (k := 4) ⟨rfl, inT8, by decide, fX8_36⟩ (by decide) (by decide) (by decide) dX8_votesFor_47 (hS.k t_x0) (hS.r (c := 6) t_x0 rfl (by omega)) ?_
      refine c_iload dX8_votesFor_50 rfl ?_
      refine c_iload dX8_votesFor_52 rfl ?_
      refine c_iadd dX8_votesFor_54 ?_
      have p_55 := hS.row24 (hS.rk (c := 6) (k := 4) t_x0 rfl (by omega)) (x6 + x8).toNatClampNeg
      refine c_aald (t := 4) (ty := (.object "QuorumLedger$Message")) rfl rfl (by decide) dX8_votesFor_55 ⟨(tK.cis (hS.rk (c := 6) (k := 4) t_x0 rfl (by omega)) (Option.some_ne_none _)), (vk_cast (hS.rl (c := 6) (k := 4) t_x0 rfl (by decide) (by omega)) ok.1)⟩ ?_
      have ok := ok.2
      refine c_astore_9Q dX8_votesFor_56 (by decide) rfl ?_
      refine c_aloadQ dX8_votesFor_58 rfl ?_
      refine c_ifnullI (tgt := 92) dX8_votesFor_60 (by decide) (fun c_60 => ?_) (fun c_60 => ?_)
      · have ok := ok.1 c_60
        have hx := xif_p c_60 hx
        exact cX.cutz (kb_X8_votesFor_92 hG hX0 hrec hS t_x0 t_x4 ok hx) ⟨rfl, rfl, rfl, rfl, rfl, rfl, trivial⟩
      · have ok := ok.2 c_60
        have hx := xif_n c_60 hx
        refine c_aloadQ dX8_votesFor_63 rfl ?_
        refine c_ifnonnullI (tgt := 79) dX8_votesFor_65 (by decide) (fun c_65 => ?_) (fun c_65 => ?_)
        · have ok := ok.2 c_65
          have hx := xif_n c_65 hx
          refine c_aloadQ dX8_votesFor_79 rfl ?_
          refine c_aloadQ dX8_votesFor_81 rfl ?_
          refine c_V1iE (ci := 4) (rr := (RX5, TX5, 7)) (y' := mX5_isFor) dX8_votesFor_83 lX8_84 kX5_isFor ⟨by decide, by decide⟩ rfl rfl (by decide) (tK.cis p_55 c_60) (Nat.le_of_ble_eq_true rfl) (kc_X5_isFor hG hS (p_55 _ (za_of c_60)) t_x4 ok.1) ?_
          have ok := ok.2
          refine c_if_eq (tgt := 92) dX8_votesFor_86 (by decide) (fun c_86 => ?_) (fun c_86 => ?_)
          · have ok := ok.1 c_86
            have hx := xif_p c_86 hx
            exact cX.cutz (kb_X8_votesFor_92 hG hX0 hrec hS t_x0 t_x4 ok hx) ⟨rfl, rfl, rfl, rfl, rfl, rfl, trivial⟩
          · have ok := ok.2 c_86
            have hx := xif_n c_86 hx
            exact cX.cutz (kb_X8_votesFor_89 hG hX0 hrec hS t_x0 t_x4 ok hx) ⟨rfl, rfl, rfl, rfl, rfl, rfl, trivial⟩
        · have ok := ok.1 c_65
          have hx := xif_p c_65 hx
          refine c_aloadQ dX8_votesFor_68 rfl ?_
          refine c_getI (C := RX5) (T := TX5) (N := 7) (ci := 4) (k := 5) ⟨rfl, inT5, by decide, fX8_80⟩ (by decide) (by decide) (by decide) dX8_votesFor_70 (tK.cis p_55 c_60) ?_
          refine c_if_ne (tgt := 92) dX8_votesFor_73 (by decide) (fun c_73 => ?_) (fun c_73 => ?_)
          · have ok := ok.2 c_73
            have hx := xif_n c_73 hx
            exact cX.cutz (kb_X8_votesFor_92 hG hX0 hrec hS t_x0 t_x4 ok hx) ⟨rfl, rfl, rfl, rfl, rfl, rfl, trivial⟩
          · have ok := ok.1 c_73
            have hx := xif_p c_73 hx
            refine c_goto (tgt := 89) dX8_votesFor_76 (by decide) ?_
            exact cX.cutz (kb_X8_votesFor_89 hG hX0 hrec hS t_x0 t_x4 ok hx) ⟨rfl, rfl, rfl, rfl, rfl, rfl, trivial⟩
def KL_X8_votesFor_32 (N g H T : Nat) : Nat → Nat → Option Nat → Int32 → Int32 → Int32 → Int32 → cS → Nat × Int32 × Unit
  | 0, x0, x4, x5, x6, x7, x8, S => (0, 0, ())
  | n + 1, x0, x4, x5, x6, x7, x8, S => KB_X8_votesFor_32 N g H T (fun x0 x4 x5 x6 x7 x8 => KL_X8_votesFor_32 N g H T n x0 x4 x5 x6 x7 x8 S) x0 x4 x5 x6 x7 x8 S
def KOL_X8_votesFor_32 (N g H T : Nat) : Nat → Nat → Option Nat → Int32 → Int32 → Int32 → Int32 → cS → Prop
  | 0, _, _, _, _, _, _, _ => False
  | n + 1, x0, x4, x5, x6, x7, x8, S => KOB_X8_votesFor_32 N g H T (fun x0 x4 x5 x6 x7 x8 => KOL_X8_votesFor_32 N g H T n x0 x4 x5 x6 x7 x8 S) x0 x4 x5 x6 x7 x8 S
set_option maxRecDepth 100000 in
set_option maxHeartbeats 4000000 in
theorem kl_X8_votesFor_32 {G : zG} {o : cO} {u g H T N : Nat} {S : cS} {Q : Option Value → cS → Prop} {X : Nat × Int32 × Unit → Prop} (hG : zOK G) (hX0 : ∀ (x7 : Int32) , X (0, x7, ()) → cX G o dX8_votesFor mX8_votesFor 98 [none, none, none, none, none, none, none, some (.int x7), none, none] [] S Q) (hS : St u g H T S) : ∀ (n : Nat) (x0 : Nat) (x4 : Option Nat) (x5 : Int32) (x6 : Int32) (x7 : Int32) (x8 : Int32) , isO g H 6 x0 → tK S 5 x4 → KOL_X8_votesFor_32 N g H T n x0 x4 x5 x6 x7 x8 S → X (KL_X8_votesFor_32 N g H T n x0 x4 x5 x6 x7 x8 S) → cX G o dX8_votesFor mX8_votesFor 32 [some (va_rf (some x0)), none, none, none, some (va_rf x4), some (.int x5), some (.int x6), some (.int x7), some (.int x8), none] [] S Q := by
  intro n
  induction n with
  | zero => intro x0 x4 x5 x6 x7 x8 t_x0 t_x4 ok; exact absurd ok id
  | succ n ih =>
    intro x0 x4 x5 x6 x7 x8 t_x0 t_x4 ok hx
    exact kbb_X8_votesFor_32 hG hX0 (rec := fun x0 x4 x5 x6 x7 x8 => KL_X8_votesFor_32 N g H T n x0 x4 x5 x6 x7 x8 S) (rok := fun x0 x4 x5 x6 x7 x8 => KOL_X8_votesFor_32 N g H T n x0 x4 x5 x6 x7 x8 S) (fun x0 x4 x5 x6 x7 x8 t_x0 t_x4 ok hx => ih x0 x4 x5 x6 x7 x8 t_x0 t_x4 ok hx) hS t_x0 t_x4 ok hx
def KA_X8_votesFor_32 (N g H T : Nat) (x0 : Nat) (x4 : Option Nat) (x5 : Int32) (x6 : Int32) (x7 : Int32) (x8 : Int32) (S : cS) (z : Nat × Int32 × Unit) : Int32 := (KF_X8_votesFor_98 N g H T (z.2.1) S)
def KOA_X8_votesFor_32 (N g H T : Nat) (x0 : Nat) (x4 : Option Nat) (x5 : Int32) (x6 : Int32) (x7 : Int32) (x8 : Int32) (S : cS) (z : Nat × Int32 × Unit) : Prop := KO_X8_votesFor_98 N g H T (z.2.1) S
set_option maxRecDepth 100000 in
set_option maxHeartbeats 4000000 in
theorem kd_X8_votesFor_32 {G : zG} {o : cO} {u g H T N : Nat} {S : cS} {Q : Option Value → cS → Prop} {X : Int32 → Prop} (hG : zOK G) (hR : ∀ v, X v → Q (some (.int v)) S) {x0 : Nat} {x4 : Option Nat} {x5 : Int32} {x6 : Int32} {x7 : Int32} {x8 : Int32} (hS : St u g H T S) (t_x0 : isO g H 6 x0) (t_x4 : tK S 5 x4) (ok : KOL_X8_votesFor_32 N g H T N x0 x4 x5 x6 x7 x8 S ∧ KOA_X8_votesFor_32 N g H T x0 x4 x5 x6 x7 x8 S (KL_X8_votesFor_32 N g H T N x0 x4 x5 x6 x7 x8 S)) (hx : X (KA_X8_votesFor_32 N g H T x0 x4 x5 x6 x7 x8 S (KL_X8_votesFor_32 N g H T N x0 x4 x5 x6 x7 x8 S))) : cX G o dX8_votesFor mX8_votesFor 32 [some (va_rf (some x0)), none, none, none, some (va_rf x4), some (.int x5), some (.int x6), some (.int x7), some (.int x8), none] [] S Q := by
  refine kl_X8_votesFor_32 hG ?_ hS N x0 x4 x5 x6 x7 x8 t_x0 t_x4 ok.1 (X := fun z => KOA_X8_votesFor_32 N g H T x0 x4 x5 x6 x7 x8 S z ∧ X (KA_X8_votesFor_32 N g H T x0 x4 x5 x6 x7 x8 S z)) ⟨ok.2, hx⟩
  · intro x7' hz
    obtain ⟨ok, hx⟩ := hz
    unfold KOA_X8_votesFor_32 at ok
    unfold KA_X8_votesFor_32 at hx
    exact cX.cutz (kb_X8_votesFor_98 hG hR hS  ok hx) ⟨rfl, trivial⟩
def KF_X8_votesFor_24 (N g H T : Nat) (x0 : Nat) (x4 : Option Nat) (x5 : Int32) (s0 : Int32) (S : cS) : Int32 := (KA_X8_votesFor_32 N g H T x0 x4 x5 s0 (nI 0) (nI 0) S (KL_X8_votesFor_32 N g H T N x0 x4 x5 s0 (nI 0) (nI 0) S))
def KO_X8_votesFor_24 (N g H T : Nat) (x0 : Nat) (x4 : Option Nat) (x5 : Int32) (s0 : Int32) (S : cS) : Prop := (KOL_X8_votesFor_32 N g H T N x0 x4 x5 s0 (nI 0) (nI 0) S ∧ KOA_X8_votesFor_32 N g H T x0 x4 x5 s0 (nI 0) (nI 0) S (KL_X8_votesFor_32 N g H T N x0 x4 x5 s0 (nI 0) (nI 0) S))
set_option maxRecDepth 100000 in
set_option maxHeartbeats 4000000 in
theorem kb_X8_votesFor_24 {G : zG} {o : cO} {u g H T N : Nat} {S : cS} {Q : Option Value → cS → Prop} {X : Int32 → Prop} (hG : zOK G) (hR : ∀ v, X v → Q (some (.int v)) S) {x0 : Nat} {x4 : Option Nat} {x5 : Int32} {s0 : Int32} (hS : St u g H T S) (t_x0 : isO g H 6 x0) (t_x4 : tK S 5 x4) (ok : KO_X8_votesFor_24 N g H T x0 x4 x5 s0 S) (hx : X (KF_X8_votesFor_24 N g H T x0 x4 x5 s0 S)) : cX G o dX8_votesFor mX8_votesFor 24 [some (va_rf (some x0)), none, none, none, some (va_rf x4), some (.int x5), none, none, none, none] [.int s0] S Q := by
  unfold KO_X8_votesFor_24 at ok
  unfold KF_X8_votesFor_24 at hx
  refine c_istore_6 dX8_votesFor_24 (by decide) rfl ?_
  refine c_iconst (v := nI 0) dX8_votesFor_26 (by decide) ?_
  refine c_istore_7 dX8_votesFor_27 (by decide) rfl ?_
  refine c_iconst (v := nI 0) dX8_votesFor_29 (by decide) ?_
  refine c_istore_8 dX8_votesFor_30 (by decide) rfl ?_
  exact cX.cutz (kd_X8_votesFor_32 hG hR hS t_x0 t_x4 ok hx) ⟨rfl, rfl, rfl, rfl, rfl, rfl, trivial⟩
def KF_X8_votesFor_0 (N g H T : Nat) (x0 : Nat) (x1 : Int32) (x2 : Int32) (x3 : Int32) (x4 : Option Nat) (S : cS) : Int32 := (if 0 ≤ (k_X8_page N g H T S x0 x2 x3) then (KF_X8_votesFor_24 N g H T x0 x4 (k_X8_page N g H T S x0 x2 x3) (k_X8_ballots N g H T S x0 (k_X8_page N g H T S x0 x2 x3) x1) S) else (KF_X8_votesFor_24 N g H T x0 x4 (k_X8_page N g H T S x0 x2 x3) (nI 0) S))
def KO_X8_votesFor_0 (N g H T : Nat) (x0 : Nat) (x1 : Int32) (x2 : Int32) (x3 : Int32) (x4 : Option Nat) (S : cS) : Prop := (p_X8_page N g H T S x0 x2 x3) ∧ ((0 ≤ (k_X8_page N g H T S x0 x2 x3) → (p_X8_ballots N g H T S x0 (k_X8_page N g H T S x0 x2 x3) x1) ∧ KO_X8_votesFor_24 N g H T x0 x4 (k_X8_page N g H T S x0 x2 x3) (k_X8_ballots N g H T S x0 (k_X8_page N g H T S x0 x2 x3) x1) S) ∧ (¬ 0 ≤ (k_X8_page N g H T S x0 x2 x3) → KO_X8_votesFor_24 N g H T x0 x4 (k_X8_page N g H T S x0 x2 x3) (nI 0) S))
set_option maxRecDepth 100000 in
set_option maxHeartbeats 4000000 in
theorem kb_X8_votesFor_0 {G : zG} {o : cO} {u g H T N : Nat} {S : cS} {Q : Option Value → cS → Prop} {X : Int32 → Prop} (hG : zOK G) (hR : ∀ v, X v → Q (some (.int v)) S) {x0 : Nat} {x1 : Int32} {x2 : Int32} {x3 : Int32} {x4 : Option Nat} (hS : St u g H T S) (t_x0 : isO g H 6 x0) (t_x4 : tK S 5 x4) (ok : KO_X8_votesFor_0 N g H T x0 x1 x2 x3 x4 S) (hx : X (KF_X8_votesFor_0 N g H T x0 x1 x2 x3 x4 S)) : cX G o dX8_votesFor mX8_votesFor 0 [some (va_rf (some x0)), some (.int x1), some (.int x2), some (.int x3), some (va_rf x4), none, none, none, none, none] [] S Q := by
  unfold KO_X8_votesFor_0 at ok
  unfold KF_X8_votesFor_0 at hx
  refine c_aload_nQ dX8_votesFor_0 rfl rfl ?_
  refine c_iload_n dX8_votesFor_1 rfl rfl ?_
  refine c_iload_n dX8_votesFor_2 rfl rfl ?_
  refine c_V2iE (ci := 6) (rr := (RX8, TX8, 14)) (y' := mX8_page) dX8_votesFor_3 lX8_51 kX8_page ⟨by decide, by decide⟩ rfl rfl (by decide) (hS.k t_x0) (Nat.le_of_ble_eq_true rfl) (kc_X8_page hG hS t_x0 ok.1) ?_
  have ok := ok.2
  refine c_istore_5 dX8_votesFor_6 (by decide) (by simp [zok, zg, zcat_rf]) ?_
  refine c_iload dX8_votesFor_8 rfl ?_
  refine c_if_ge (tgt := 17) dX8_votesFor_10 (by decide) (fun c_10 => ?_) (fun c_10 => ?_)
  · have ok := ok.1 c_10
    have hx := xif_p c_10 hx
    refine c_aload_nQ dX8_votesFor_17 rfl rfl ?_
    refine c_iload dX8_votesFor_18 rfl ?_
    refine c_iload_n dX8_votesFor_20 rfl rfl ?_
    refine c_V2iE (ci := 6) (rr := (RX8, TX8, 14)) (y' := mX8_ballots) dX8_votesFor_21 lX8_69 kX8_ballots ⟨by decide, by decide⟩ rfl rfl (by decide) (hS.k t_x0) (Nat.le_of_ble_eq_true rfl) (kc_X8_ballots hG hS t_x0 ok.1) ?_
    have ok := ok.2
    exact cX.cutz (kb_X8_votesFor_24 hG hR hS t_x0 t_x4 ok hx) ⟨rfl, rfl, rfl, trivial⟩
  · have ok := ok.2 c_10
    have hx := xif_n c_10 hx
    refine c_iconst (v := nI 0) dX8_votesFor_13 (by decide) ?_
    refine c_goto (tgt := 24) dX8_votesFor_14 (by decide) ?_
    exact cX.cutz (kb_X8_votesFor_24 hG hR hS t_x0 t_x4 ok hx) ⟨rfl, rfl, rfl, trivial⟩
def k_X8_votesFor (N g H T : Nat) (S : cS) (a0 : Nat) (x1 : Int32) (x2 : Int32) (x3 : Int32) (x4 : Option Nat) : Int32 := KF_X8_votesFor_0 N g H T a0 x1 x2 x3 x4 S
def p_X8_votesFor (N g H T : Nat) (S : cS) (a0 : Nat) (x1 : Int32) (x2 : Int32) (x3 : Int32) (x4 : Option Nat) : Prop := KO_X8_votesFor_0 N g H T a0 x1 x2 x3 x4 S
set_option maxRecDepth 100000 in
set_option maxHeartbeats 4000000 in
theorem kc_X8_votesFor {G : zG} {o : cO} {u g H T N : Nat} {S : cS} (hG : zOK G) {a0 : Nat} {x1 : Int32} {x2 : Int32} {x3 : Int32} {x4 : Option Nat} (hS : St u g H T S) (t_x0 : isO g H 6 a0) (t_x4 : tK S 5 x4) (ok : p_X8_votesFor N g H T S a0 x1 x2 x3 x4) : cCi G o dX8_votesFor mX8_votesFor [.ref a0, .int x1, .int x2, .int x3, va_rf x4] S (fun v S' => (v = k_X8_votesFor N g H T S a0 x1 x2 x3 x4 ∧ S' = S)) := by
  refine cC.ofX rfl (by cases x4 <;> exact Nat.le_of_ble_eq_true rfl) ?_
  rw [show zargs mX8_votesFor.2.2.1 [.ref a0, .int x1, .int x2, .int x3, va_rf x4] = [some (va_rf (some a0)), some (.int x1), some (.int x2), some (.int x3), some (va_rf x4), none, none, none, none, none] from by cases x4 <;> rfl]
  exact cX.cutz (kb_X8_votesFor_0 (X := fun F => F = k_X8_votesFor N g H T S a0 x1 x2 x3 x4) hG (fun v h => ⟨v, rfl, h, rfl⟩) hS t_x0 t_x4 ok rfl) ⟨rfl, rfl, rfl, rfl, rfl, trivial⟩
/-! X8_verdict -/
def KF_X8_verdict_21 (N g H T : Nat) (s0 : Int32) (S : cS) : Int32 := s0
def KO_X8_verdict_21 (N g H T : Nat) (s0 : Int32) (S : cS) : Prop := True
set_option maxRecDepth 100000 in
set_option maxHeartbeats 4000000 in
theorem kb_X8_verdict_21 {G : zG} {o : cO} {u g H T N : Nat} {S : cS} {Q : Option Value → cS → Prop} {X : Int32 → Prop} (hG : zOK G) (hR : ∀ v, X v → Q (some (.int v)) S) {s0 : Int32} (hS : St u g H T S) (ok : KO_X8_verdict_21 N g H T s0 S) (hx : X (KF_X8_verdict_21 N g H T s0 S)) : cX G o dX8_verdict mX8_verdict 21 [none, none, none, none] [.int s0] S Q := by
  unfold KO_X8_verdict_21 at ok
  unfold KF_X8_verdict_21 at hx
  exact c_ireturn rfl rfl dX8_verdict_21 (hR _ hx)
def KF_X8_verdict_0 (N g H T : Nat) (x0 : Nat) (x1 : Int32) (x2 : Int32) (S : cS) : Int32 := (if 0 ≤ (k_X8_page N g H T S x0 x1 x2) then (KF_X8_verdict_21 N g H T (cA S (x0 + 2) (k_X8_page N g H T S x0 x1 x2).toNatClampNeg) S) else (KF_X8_verdict_21 N g H T (nI 2) S))
def KO_X8_verdict_0 (N g H T : Nat) (x0 : Nat) (x1 : Int32) (x2 : Int32) (S : cS) : Prop := (p_X8_page N g H T S x0 x1 x2) ∧ ((0 ≤ (k_X8_page N g H T S x0 x1 x2) → (vp_in (k_X8_page N g H T S x0 x1 x2) 32) ∧ KO_X8_verdict_21 N g H T (cA S (x0 + 2) (k_X8_page N g H T S x0 x1 x2).toNatClampNeg) S) ∧ (¬ 0 ≤ (k_X8_page N g H T S x0 x1 x2) → KO_X8_verdict_21 N g H T (nI 2) S))
set_option maxRecDepth 100000 in
set_option maxHeartbeats 4000000 in
theorem kb_X8_verdict_0 {G : zG} {o : cO} {u g H T N : Nat} {S : cS} {Q : Option Value → cS → Prop} {X : Int32 → Prop} (hG : zOK G) (hR : ∀ v, X v → Q (some (.int v)) S) {x0 : Nat} {x1 : Int32} {x2 : Int32} (hS : St u g H T S) (t_x0 : isO g H 6 x0) (ok : KO_X8_verdict_0 N g H T x0 x1 x2 S) (hx : X (KF_X8_verdict_0 N g H T x0 x1 x2 S)) : cX G o dX8_verdict mX8_verdict 0 [some (va_rf (some x0)), some (.int x1), some (.int x2), none] [] S Q := by
  unfold KO_X8_verdict_0 at ok
  unfold KF_X8_verdict_0 at hx
  refine c_aload_nQ dX8_verdict_0 rfl rfl ?_
  refine c_iload_n dX8_verdict_1 rfl rfl ?_
  refine c_iload_n dX8_verdict_2 rfl rfl ?_
  refine c_V2iE (ci := 6) (rr := (RX8, TX8, 14)) (y' := mX8_page) dX8_verdict_3 lX8_51 kX8_page ⟨by decide, by decide⟩ rfl rfl (by decide) (hS.k t_x0) (Nat.le_of_ble_eq_true rfl) (kc_X8_page hG hS t_x0 ok.1) ?_
  have ok := ok.2
  refine c_istore_3 dX8_verdict_6 (by decide) rfl ?_
  refine c_iload_n dX8_verdict_7 rfl rfl ?_
  refine c_if_ge (tgt := 15) dX8_verdict_8 (by decide) (fun c_8 => ?_) (fun c_8 => ?_)
  · have ok := ok.1 c_8
    have hx := xif_p c_8 hx
    refine c_aload_nQ dX8_verdict_15 rfl rfl ?_
    refine c_getS (C := RX8) (T := TX8) (N := 14) (ci := 6) (k := 3) ⟨rfl, inT8, by decide, fX8_17⟩ (by decide) (by decide) (by decide) dX8_verdict_16 (hS.k t_x0) (hS.r (c := 6) t_x0 rfl (by omega)) ?_
    refine c_iload_n dX8_verdict_19 rfl rfl ?_
    refine c_iald dX8_verdict_20 ⟨(tK.cis (hS.rk (c := 6) (k := 3) t_x0 rfl (by omega)) (Option.some_ne_none _)), (vk_cast (hS.rl (c := 6) (k := 3) t_x0 rfl (by decide) (by omega)) ok.1)⟩ ?_
    have ok := ok.2
    exact cX.cutz (kb_X8_verdict_21 hG hR hS  ok hx) trivial
  · have ok := ok.2 c_8
    have hx := xif_n c_8 hx
    refine c_iconst (v := nI 2) dX8_verdict_11 (by decide) ?_
    refine c_goto (tgt := 21) dX8_verdict_12 (by decide) ?_
    exact cX.cutz (kb_X8_verdict_21 hG hR hS  ok hx) trivial
def k_X8_verdict (N g H T : Nat) (S : cS) (a0 : Nat) (x1 : Int32) (x2 : Int32) : Int32 := KF_X8_verdict_0 N g H T a0 x1 x2 S
def p_X8_verdict (N g H T : Nat) (S : cS) (a0 : Nat) (x1 : Int32) (x2 : Int32) : Prop := KO_X8_verdict_0 N g H T a0 x1 x2 S
set_option maxRecDepth 100000 in
set_option maxHeartbeats 4000000 in
theorem kc_X8_verdict {G : zG} {o : cO} {u g H T N : Nat} {S : cS} (hG : zOK G) {a0 : Nat} {x1 : Int32} {x2 : Int32} (hS : St u g H T S) (t_x0 : isO g H 6 a0) (ok : p_X8_verdict N g H T S a0 x1 x2) : cCi G o dX8_verdict mX8_verdict [.ref a0, .int x1, .int x2] S (fun v S' => (v = k_X8_verdict N g H T S a0 x1 x2 ∧ S' = S)) := by
  refine cC.ofX rfl (by exact Nat.le_of_ble_eq_true rfl) ?_
  show cX G o dX8_verdict mX8_verdict 0 [some (va_rf (some a0)), some (.int x1), some (.int x2), none] [] S _
  exact cX.cutz (kb_X8_verdict_0 (X := fun F => F = k_X8_verdict N g H T S a0 x1 x2) hG (fun v h => ⟨v, rfl, h, rfl⟩) hS t_x0 ok rfl) ⟨rfl, rfl, rfl, trivial⟩
/-! X8_judge -/
def KF_X8_judge_29 (N g H T : Nat)  (S : cS) : cS := S
def KO_X8_judge_29 (N g H T : Nat)  (S : cS) : Prop := True
set_option maxRecDepth 100000 in
set_option maxHeartbeats 4000000 in
theorem kb_X8_judge_29 {G : zG} {o : cO} {u g H T N : Nat} {S : cS} {S0 : cS} {Q : Option Value → cS → Prop} {X : cS → Prop} (hG : zOK G) (hR : ∀ S', St u g H T S' → Mono S0 S' → X S' → Q none S') (hS : St u g H T S) (hM : Mono S0 S) (ok : KO_X8_judge_29 N g H T S) (hx : X (KF_X8_judge_29 N g H T S)) : cX G o dX8_judge mX8_judge 29 [none, none, none, none, none] [] S Q := by
  unfold KO_X8_judge_29 at ok
  unfold KF_X8_judge_29 at hx
  exact c_return rfl dX8_judge_29 (hR _ hS hM hx)
def KF_X8_judge_28 (N g H T : Nat) (s0 : Option Nat) (s1 : Int32) (s2 : Int32) (S : cS) : cS := (KF_X8_judge_29 N g H T (csA S (za s0) s1.toNatClampNeg s2))
def KO_X8_judge_28 (N g H T : Nat) (s0 : Option Nat) (s1 : Int32) (s2 : Int32) (S : cS) : Prop := (¬ s0 = none ∧ vp_in s1 (cL S (za s0))) ∧ KO_X8_judge_29 N g H T (csA S (za s0) s1.toNatClampNeg s2)
set_option maxRecDepth 100000 in
set_option maxHeartbeats 4000000 in
theorem kb_X8_judge_28 {G : zG} {o : cO} {u g H T N : Nat} {S : cS} {S0 : cS} {Q : Option Value → cS → Prop} {X : cS → Prop} (hG : zOK G) (hR : ∀ S', St u g H T S' → Mono S0 S' → X S' → Q none S') {s0 : Option Nat} {s1 : Int32} {s2 : Int32} (hS : St u g H T S) (hM : Mono S0 S) (t_s0 : tK S 21 s0) (ok : KO_X8_judge_28 N g H T s0 s1 s2 S) (hx : X (KF_X8_judge_28 N g H T s0 s1 s2 S)) : cX G o dX8_judge mX8_judge 28 [none, none, none, none, none] [.int s2, .int s1, va_rf s0] S Q := by
  unfold KO_X8_judge_28 at ok
  unfold KF_X8_judge_28 at hx
  have tq_28 : tK S 21 (some (za s0)) := tK_some (tK.cis t_s0 ok.1.1).2
  refine c_iast hG dX8_judge_28 ⟨(tK.cis t_s0 ok.1.1), ok.1.2⟩ ?_
  have hS := hS.Aw (k := 21) (za s0) s1.toNatClampNeg s2 tq_28 (by decide)
  have hM := hM.A (za s0) s1.toNatClampNeg s2
  have ok := ok.2
  exact cX.cutz (kb_X8_judge_29 hG hR hS hM  ok hx) trivial
def KF_X8_judge_0 (N g H T : Nat) (x0 : Nat) (x1 : Int32) (x2 : Int32) (x3 : Int32) (S : cS) : cS := (if (k_X8_page N g H T S x0 x1 x2) < 0 then (KF_X8_judge_29 N g H T S) else (if x3 = 0 then (KF_X8_judge_28 N g H T (some (x0 + 2)) (k_X8_page N g H T S x0 x1 x2) (nI 2) S) else (KF_X8_judge_28 N g H T (some (x0 + 2)) (k_X8_page N g H T S x0 x1 x2) (nI 1) S)))
def KO_X8_judge_0 (N g H T : Nat) (x0 : Nat) (x1 : Int32) (x2 : Int32) (x3 : Int32) (S : cS) : Prop := (p_X8_page N g H T S x0 x1 x2) ∧ (((k_X8_page N g H T S x0 x1 x2) < 0 → KO_X8_judge_29 N g H T S) ∧ (¬ (k_X8_page N g H T S x0 x1 x2) < 0 → ((x3 = 0 → KO_X8_judge_28 N g H T (some (x0 + 2)) (k_X8_page N g H T S x0 x1 x2) (nI 2) S) ∧ (¬ x3 = 0 → KO_X8_judge_28 N g H T (some (x0 + 2)) (k_X8_page N g H T S x0 x1 x2) (nI 1) S))))
set_option maxRecDepth 100000 in
set_option maxHeartbeats 4000000 in
theorem kb_X8_judge_0 {G : zG} {o : cO} {u g H T N : Nat} {S : cS} {S0 : cS} {Q : Option Value → cS → Prop} {X : cS → Prop} (hG : zOK G) (hR : ∀ S', St u g H T S' → Mono S0 S' → X S' → Q none S') {x0 : Nat} {x1 : Int32} {x2 : Int32} {x3 : Int32} (hS : St u g H T S) (hM : Mono S0 S) (t_x0 : isO g H 6 x0) (ok : KO_X8_judge_0 N g H T x0 x1 x2 x3 S) (hx : X (KF_X8_judge_0 N g H T x0 x1 x2 x3 S)) : cX G o dX8_judge mX8_judge 0 [some (va_rf (some x0)), some (.int x1), some (.int x2), some (.int x3), none] [] S Q := by
  unfold KO_X8_judge_0 at ok
  unfold KF_X8_judge_0 at hx
  refine c_aload_nQ dX8_judge_0 rfl rfl ?_
  refine c_iload_n dX8_judge_1 rfl rfl ?_
  refine c_iload_n dX8_judge_2 rfl rfl ?_
  refine c_V2iE (ci := 6) (rr := (RX8, TX8, 14)) (y' := mX8_page) dX8_judge_3 lX8_51 kX8_page ⟨by decide, by decide⟩ rfl rfl (by decide) (hS.k t_x0) (Nat.le_of_ble_eq_true rfl) (kc_X8_page hG hS t_x0 ok.1) ?_
  have ok := ok.2
  refine c_istore_4 dX8_judge_6 (by decide) rfl ?_
  refine c_iload dX8_judge_8 rfl ?_
  refine c_if_lt (tgt := 29) dX8_judge_10 (by decide) (fun c_10 => ?_) (fun c_10 => ?_)
  · have ok := ok.1 c_10
    have hx := xif_p c_10 hx
    exact cX.cutz (kb_X8_judge_29 hG hR hS hM  ok hx) trivial
  · have ok := ok.2 c_10
    have hx := xif_n c_10 hx
    refine c_aload_nQ dX8_judge_13 rfl rfl ?_
    refine c_getS (C := RX8) (T := TX8) (N := 14) (ci := 6) (k := 3) ⟨rfl, inT8, by decide, fX8_17⟩ (by decide) (by decide) (by decide) dX8_judge_14 (hS.k t_x0) (hS.r (c := 6) t_x0 rfl (by omega)) ?_
    refine c_iload dX8_judge_17 rfl ?_
    refine c_iload_n dX8_judge_19 rfl rfl ?_
    refine c_if_eq (tgt := 27) dX8_judge_20 (by decide) (fun c_20 => ?_) (fun c_20 => ?_)
    · have ok := ok.1 c_20
      have hx := xif_p c_20 hx
      refine c_iconst (v := nI 2) dX8_judge_27 (by decide) ?_
      exact cX.cutz (kb_X8_judge_28 hG hR hS hM (hS.rk (c := 6) (k := 3) t_x0 rfl (by omega)) ok hx) trivial
    · have ok := ok.2 c_20
      have hx := xif_n c_20 hx
      refine c_iconst (v := nI 1) dX8_judge_23 (by decide) ?_
      refine c_goto (tgt := 28) dX8_judge_24 (by decide) ?_
      exact cX.cutz (kb_X8_judge_28 hG hR hS hM (hS.rk (c := 6) (k := 3) t_x0 rfl (by omega)) ok hx) trivial
def k_X8_judge (N g H T : Nat) (S : cS) (a0 : Nat) (x1 : Int32) (x2 : Int32) (x3 : Int32) : cS := KF_X8_judge_0 N g H T a0 x1 x2 x3 S
def p_X8_judge (N g H T : Nat) (S : cS) (a0 : Nat) (x1 : Int32) (x2 : Int32) (x3 : Int32) : Prop := KO_X8_judge_0 N g H T a0 x1 x2 x3 S
set_option maxRecDepth 100000 in
set_option maxHeartbeats 4000000 in
theorem kc_X8_judge {G : zG} {o : cO} {u g H T N : Nat} {S : cS} (hG : zOK G) {a0 : Nat} {x1 : Int32} {x2 : Int32} {x3 : Int32} (hS : St u g H T S) (t_x0 : isO g H 6 a0) (ok : p_X8_judge N g H T S a0 x1 x2 x3) : cCv G o dX8_judge mX8_judge [.ref a0, .int x1, .int x2, .int x3] S (fun S' => S' = k_X8_judge N g H T S a0 x1 x2 x3 ∧ St u g H T S' ∧ Mono S S') := by
  refine cC.ofX rfl (by exact Nat.le_of_ble_eq_true rfl) ?_
  show cX G o dX8_judge mX8_judge 0 [some (va_rf (some a0)), some (.int x1), some (.int x2), some (.int x3), none] [] S _
  exact cX.cutz (kb_X8_judge_0 (X := fun F => F = k_X8_judge N g H T S a0 x1 x2 x3) hG (fun S' h1 h2 h => ⟨rfl, h, h1, h2⟩) hS Mono.rfl' t_x0 ok rfl) ⟨rfl, rfl, rfl, rfl, trivial⟩

set_option maxRecDepth 100000 in
set_option maxHeartbeats 4000000 in
theorem k5b_X7_isValid_91 {u g H T N : Nat} {S : cS} {S0 : cS} {R_ : Prop} {X : Int32 × cS → Prop} (hR : ∀ v S', St u g H T S' → M5 g H S0 S' → X (v, S') → R_) {s0 : Int32} (hS : St u g H T S) (hM : M5 g H S0 S) (ok : KO_X7_isValid_91 N g H T s0 S) (hx : X (KF_X7_isValid_91 N g H T s0 S)) : R_ := by
  unfold KO_X7_isValid_91 at ok
  unfold KF_X7_isValid_91 at hx
  exact hR _ _ hS hM hx
set_option maxRecDepth 100000 in
set_option maxHeartbeats 4000000 in
theorem k5b_X7_isValid_72 {u g H T N : Nat} {S : cS} {S0 : cS} {R_ : Prop} {X : Int32 × cS → Prop} (hR : ∀ v S', St u g H T S' → M5 g H S0 S' → X (v, S') → R_) {x0 : Option Nat} {x1 : Option Nat} {x2 : Int32} (hS : St u g H T S) (hM : M5 g H S0 S) (t_x0 : tN g H x0) (t_x1 : tK S 5 x1) (ok : KO_X7_isValid_72 N g H T x0 x1 x2 S) (hx : X (KF_X7_isValid_72 N g H T x0 x1 x2 S)) : R_ := by
  unfold KO_X7_isValid_72 at ok
  unfold KF_X7_isValid_72 at hx
  have nn_73 := ok.1
  have ok := ok.2
  have nn_80 := ok.1
  have p_80 := hS.m0k t_x1 ok.1
  have ok := ok.2
  obtain ⟨hS, hm_88⟩ := k5c_X0_play hS (o88 (o50 (tN.o t_x0 nn_73))) (fun m _ => by unfold nd; omega) p_80 ok.1
  have hM := hM.trans hm_88
  have ok := ok.2
  exact k5b_X7_isValid_91 hR hS hM  ok hx
set_option maxRecDepth 100000 in
set_option maxHeartbeats 4000000 in
theorem k5b_X7_isValid_56 {u g H T N : Nat} {S : cS} {S0 : cS} {R_ : Prop} {X : Int32 × cS → Prop} (hR : ∀ v S', St u g H T S' → M5 g H S0 S' → X (v, S') → R_) (hS : St u g H T S) (hM : M5 g H S0 S) (ok : KO_X7_isValid_56 N g H T S) (hx : X (KF_X7_isValid_56 N g H T S)) : R_ := by
  unfold KO_X7_isValid_56 at ok
  unfold KF_X7_isValid_56 at hx
  exact hR _ _ hS hM hx
set_option maxRecDepth 100000 in
set_option maxHeartbeats 4000000 in
theorem k5b_X7_isValid_0 {u g H T N : Nat} {S : cS} {S0 : cS} {R_ : Prop} {X : Int32 × cS → Prop} (hR : ∀ v S', St u g H T S' → M5 g H S0 S' → X (v, S') → R_) {x0 : Option Nat} {x1 : Option Nat} {x2 : Int32} (hS : St u g H T S) (hM : M5 g H S0 S) (t_x0 : tN g H x0) (t_x1 : tK S 5 x1) (ok : KO_X7_isValid_0 N g H T x0 x1 x2 S) (hx : X (KF_X7_isValid_0 N g H T x0 x1 x2 S)) : R_ := by
  unfold KO_X7_isValid_0 at ok
  unfold KF_X7_isValid_0 at hx
  have nn_2 := ok.1.1
  have ok := ok.2
  have nn_6 := ok.1
  have ok := ok.2
  refine pif_n ok (fun c_9 => ?_) (fun c_9 => ?_)
  · have ok := ok.2 c_9
    have hx := xif_n c_9 hx
    exact k5b_X7_isValid_56 hR hS hM  ok hx
  · have ok := ok.1 c_9
    have hx := xif_p c_9 hx
    have p_13 := hS.m0k t_x1 nn_2
    have ok := ok.2
    refine pif_p ok (fun c_29 => ?_) (fun c_29 => ?_)
    · have ok := ok.1 c_29
      have hx := xif_p c_29 hx
      exact k5b_X7_isValid_56 hR hS hM  ok hx
    · have ok := ok.2 c_29
      have hx := xif_n c_29 hx
      have p_33 := hS.m0k t_x1 nn_2
      have ok := ok.2
      refine pif_n ok (fun c_53 => ?_) (fun c_53 => ?_)
      · have ok := ok.2 c_53
        have hx := xif_n c_53 hx
        obtain ⟨hS, hm_69⟩ := k5c_X0_mirror hS (o88 (o50 (tN.o t_x0 nn_6))) (o54 (tN.o t_x0 nn_6)) ok.1
        have hM := hM.trans hm_69
        have ok := ok.2
        exact k5b_X7_isValid_72 hR hS hM t_x0 (hm_69.tK t_x1 (by decide)) ok hx
      · have ok := ok.1 c_53
        have hx := xif_p c_53 hx
        exact k5b_X7_isValid_56 hR hS hM  ok hx
set_option maxRecDepth 100000 in
set_option maxHeartbeats 4000000 in
theorem k5c_X7_isValid {u g H T N : Nat} {S : cS} {x0 : Option Nat} {x1 : Option Nat} {x2 : Int32} (hS : St u g H T S) (t_x0 : tN g H x0) (t_x1 : tK S 5 x1) (ok : p_X7_isValid N g H T S x0 x1 x2) : St u g H T (k_X7_isValid N g H T S x0 x1 x2).2 ∧ M5 g H S (k_X7_isValid N g H T S x0 x1 x2).2 := by
  exact k5b_X7_isValid_0 (X := fun F => F = k_X7_isValid N g H T S x0 x1 x2) (fun v S' h1 h2 h => by rw [← h]; exact ⟨h1, h2⟩) hS M5.rfl' t_x0 t_x1 ok rfl
set_option maxRecDepth 100000 in
set_option maxHeartbeats 4000000 in
theorem k5b_X8_removePayment_43 {u g H T N : Nat} {S : cS} {S0 : cS} {R_ : Prop} {X : cS → Prop} (hR : ∀ S', St u g H T S' → M5 g H S0 S' → X S' → R_) (hS : St u g H T S) (hM : M5 g H S0 S) (ok : KO_X8_removePayment_43 N g H T S) (hx : X (KF_X8_removePayment_43 N g H T S)) : R_ := by
  unfold KO_X8_removePayment_43 at ok
  unfold KF_X8_removePayment_43 at hx
  exact hR _ hS hM hx
set_option maxRecDepth 100000 in
set_option maxHeartbeats 4000000 in
theorem k5b_X8_removePayment_33 {u g H T N : Nat} {S : cS} {S0 : cS} {R_ : Prop} {X : cS → Prop} (hR : ∀ S', St u g H T S' → M5 g H S0 S' → X S' → R_) {x0 : Nat} (hS : St u g H T S) (hM : M5 g H S0 S) (t_x0 : isO g H 6 x0) (ok : KO_X8_removePayment_33 N g H T x0 S) (hx : X (KF_X8_removePayment_33 N g H T x0 S)) : R_ := by
  unfold KO_X8_removePayment_33 at ok
  unfold KF_X8_removePayment_33 at hx
  have hS := hS.I 12 x0 ((cI S 12 x0) - (nI 1))
  have hM := hM.I 12 x0 ((cI S 12 x0) - (nI 1))
  exact k5b_X8_removePayment_43 hR hS hM  ok hx
set_option maxRecDepth 100000 in
set_option maxHeartbeats 4000000 in
theorem k5b_X8_removePayment_0 {u g H T N : Nat} {S : cS} {S0 : cS} {R_ : Prop} {X : cS → Prop} (hR : ∀ S', St u g H T S' → M5 g H S0 S' → X S' → R_) {x0 : Nat} {x1 : Int64} (hS : St u g H T S) (hM : M5 g H S0 S) (t_x0 : isO g H 6 x0) (ok : KO_X8_removePayment_0 N g H T x0 x1 S) (hx : X (KF_X8_removePayment_0 N g H T x0 x1 S)) : R_ := by
  unfold KO_X8_removePayment_0 at ok
  unfold KF_X8_removePayment_0 at hx
  have ok := ok.2
  refine pif_p ok (fun c_7 => ?_) (fun c_7 => ?_)
  · have ok := ok.1 c_7
    have hx := xif_p c_7 hx
    exact k5b_X8_removePayment_43 hR hS hM  ok hx
  · have ok := ok.2 c_7
    have hx := xif_n c_7 hx
    have hS := hS.Jr (x0 + 4) (va_cpy (cJ S (x0 + 4)) (cJ S (x0 + 4)) ((k_X8_find N g H T S x0 x1) + (nI 1)).toNatClampNeg (k_X8_find N g H T S x0 x1).toNatClampNeg (((cI S 12 x0) - (k_X8_find N g H T S x0 x1)) - (nI 1)).toNatClampNeg)
    have hM := hM.Jr (x0 + 4) (va_cpy (cJ S (x0 + 4)) (cJ S (x0 + 4)) ((k_X8_find N g H T S x0 x1) + (nI 1)).toNatClampNeg (k_X8_find N g H T S x0 x1).toNatClampNeg (((cI S 12 x0) - (k_X8_find N g H T S x0 x1)) - (nI 1)).toNatClampNeg)
    have ok := ok.2
    exact k5b_X8_removePayment_33 hR hS hM t_x0 ok hx
set_option maxRecDepth 100000 in
set_option maxHeartbeats 4000000 in
theorem k5c_X8_removePayment {u g H T N : Nat} {S : cS} {a0 : Nat} {x1 : Int64} (hS : St u g H T S) (t_x0 : isO g H 6 a0) (ok : p_X8_removePayment N g H T S a0 x1) : St u g H T (k_X8_removePayment N g H T S a0 x1) ∧ M5 g H S (k_X8_removePayment N g H T S a0 x1) := by
  exact k5b_X8_removePayment_0 (X := fun F => F = k_X8_removePayment N g H T S a0 x1) (fun S' h1 h2 h => by rw [← h]; exact ⟨h1, h2⟩) hS M5.rfl' t_x0 ok rfl
set_option maxRecDepth 100000 in
set_option maxHeartbeats 4000000 in
theorem k5b_X8_judge_29 {u g H T N : Nat} {S : cS} {S0 : cS} {R_ : Prop} {X : cS → Prop} (hR : ∀ S', St u g H T S' → M5 g H S0 S' → X S' → R_) (hS : St u g H T S) (hM : M5 g H S0 S) (ok : KO_X8_judge_29 N g H T S) (hx : X (KF_X8_judge_29 N g H T S)) : R_ := by
  unfold KO_X8_judge_29 at ok
  unfold KF_X8_judge_29 at hx
  exact hR _ hS hM hx
set_option maxRecDepth 100000 in
set_option maxHeartbeats 4000000 in
theorem k5b_X8_judge_28 {u g H T N : Nat} {S : cS} {S0 : cS} {R_ : Prop} {X : cS → Prop} (hR : ∀ S', St u g H T S' → M5 g H S0 S' → X S' → R_) {s0 : Option Nat} {s1 : Int32} {s2 : Int32} (hS : St u g H T S) (hM : M5 g H S0 S) (t_s0 : tK S 21 s0) (ok : KO_X8_judge_28 N g H T s0 s1 s2 S) (hx : X (KF_X8_judge_28 N g H T s0 s1 s2 S)) : R_ := by
  unfold KO_X8_judge_28 at ok
  unfold KF_X8_judge_28 at hx
  have tq_28 : tK S 21 (some (za s0)) := tK_some (tK.cis t_s0 ok.1.1).2
  have hS := hS.Aw (k := 21) (za s0) s1.toNatClampNeg s2 tq_28 (by decide)
  have hM := hM.A (za s0) s1.toNatClampNeg s2
  have ok := ok.2
  exact k5b_X8_judge_29 hR hS hM  ok hx
set_option maxRecDepth 100000 in
set_option maxHeartbeats 4000000 in
theorem k5b_X8_judge_0 {u g H T N : Nat} {S : cS} {S0 : cS} {R_ : Prop} {X : cS → Prop} (hR : ∀ S', St u g H T S' → M5 g H S0 S' → X S' → R_) {x0 : Nat} {x1 : Int32} {x2 : Int32} {x3 : Int32} (hS : St u g H T S) (hM : M5 g H S0 S) (t_x0 : isO g H 6 x0) (ok : KO_X8_judge_0 N g H T x0 x1 x2 x3 S) (hx : X (KF_X8_judge_0 N g H T x0 x1 x2 x3 S)) : R_ := by
  unfold KO_X8_judge_0 at ok
  unfold KF_X8_judge_0 at hx
  have ok := ok.2
  refine pif_p ok (fun c_10 => ?_) (fun c_10 => ?_)
  · have ok := ok.1 c_10
    have hx := xif_p c_10 hx
    exact k5b_X8_judge_29 hR hS hM  ok hx
  · have ok := ok.2 c_10
    have hx := xif_n c_10 hx
    refine pif_p ok (fun c_20 => ?_) (fun c_20 => ?_)
    · have ok := ok.1 c_20
      have hx := xif_p c_20 hx
      exact k5b_X8_judge_28 hR hS hM (hS.rk (c := 6) (k := 3) t_x0 rfl (by omega)) ok hx
    · have ok := ok.2 c_20
      have hx := xif_n c_20 hx
      exact k5b_X8_judge_28 hR hS hM (hS.rk (c := 6) (k := 3) t_x0 rfl (by omega)) ok hx
set_option maxRecDepth 100000 in
set_option maxHeartbeats 4000000 in
theorem k5c_X8_judge {u g H T N : Nat} {S : cS} {a0 : Nat} {x1 : Int32} {x2 : Int32} {x3 : Int32} (hS : St u g H T S) (t_x0 : isO g H 6 a0) (ok : p_X8_judge N g H T S a0 x1 x2 x3) : St u g H T (k_X8_judge N g H T S a0 x1 x2 x3) ∧ M5 g H S (k_X8_judge N g H T S a0 x1 x2 x3) := by
  exact k5b_X8_judge_0 (X := fun F => F = k_X8_judge N g H T S a0 x1 x2 x3) (fun S' h1 h2 h => by rw [← h]; exact ⟨h1, h2⟩) hS M5.rfl' t_x0 ok rfl

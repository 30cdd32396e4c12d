set_option maxRecDepth 100000 in
set_option maxHeartbeats 4000000 in
theorem k5b_X0_encode_72 {u g H T N : Nat} {S : cS} {S0 : cS} {R_ : Prop} {X : cS → Prop} (hR : ∀ S', St u g H T S' → M5 g H S0 S' → X S' → R_) {s0 : Option Nat} {s1 : Int32} {s2 : Int32} (hS : St u g H T S) (hM : M5 g H S0 S) (t_s0 : tK S 20 s0) (ok : KO_X0_encode_72 N g H T s0 s1 s2 S) (hx : X (KF_X0_encode_72 N g H T s0 s1 s2 S)) : R_ := by
  unfold KO_X0_encode_72 at ok
  unfold KF_X0_encode_72 at hx
  have hS := hS.Ab (za s0) s1.toNatClampNeg (s2.toInt8.toInt32)
  have hM := hM.A (za s0) s1.toNatClampNeg ((s2.toInt8.toInt32).toInt8.toInt32)
  have ok := ok.2
  exact hR _ hS hM hx
set_option maxRecDepth 100000 in
set_option maxHeartbeats 4000000 in
theorem k5b_X0_encode_55 {u g H T N : Nat} {S : cS} {S0 : cS} {R_ : Prop} {X : cS → Prop} (hR : ∀ S', St u g H T S' → M5 g H S0 S' → X S' → R_) {x0 : Nat} {x1 : Int32} {x2 : Option Nat} {x3 : Int32} (hS : St u g H T S) (hM : M5 g H S0 S) (t_x0 : isO g H 0 x0) (t_x2 : tK S 20 x2) (ok : KO_X0_encode_55 N g H T x0 x1 x2 x3 S) (hx : X (KF_X0_encode_55 N g H T x0 x1 x2 x3 S)) : R_ := by
  unfold KO_X0_encode_55 at ok
  unfold KF_X0_encode_55 at hx
  have ok := ok.2
  refine pif_p ok (fun c_64 => ?_) (fun c_64 => ?_)
  · have ok := ok.1 c_64
    have hx := xif_p c_64 hx
    exact k5b_X0_encode_72 hR hS hM t_x2 ok hx
  · have ok := ok.2 c_64
    have hx := xif_n c_64 hx
    exact k5b_X0_encode_72 hR hS hM t_x2 ok hx
set_option maxRecDepth 100000 in
set_option maxHeartbeats 4000000 in
theorem k5b_X0_encode_42 {u g H T N : Nat} {S : cS} {S0 : cS} {R_ : Prop} {X : cS → Prop} (hR : ∀ S', St u g H T S' → M5 g H S0 S' → X S' → R_) {x0 : Nat} {x1 : Int32} {x2 : Option Nat} {x3 : Int32} (hS : St u g H T S) (hM : M5 g H S0 S) (t_x0 : isO g H 0 x0) (t_x2 : tK S 20 x2) (ok : KO_X0_encode_42 N g H T x0 x1 x2 x3 S) (hx : X (KF_X0_encode_42 N g H T x0 x1 x2 x3 S)) : R_ := by
  unfold KO_X0_encode_42 at ok
  unfold KF_X0_encode_42 at hx
  have ok := ok.2
  obtain ⟨hS, hm_52⟩ := k5c_X11_putTwo hS t_x2 ok.1
  have hM := hM.trans hm_52
  have ok := ok.2
  exact k5b_X0_encode_55 hR hS hM t_x0 (hm_52.tK t_x2 (by decide)) ok hx
set_option maxRecDepth 100000 in
set_option maxHeartbeats 4000000 in
theorem k5b_X0_encode_23 {u g H T N : Nat} {S : cS} {S0 : cS} {R_ : Prop} {X : cS → Prop} (hR : ∀ S', St u g H T S' → M5 g H S0 S' → X S' → R_) (hS : St u g H T S) (hM : M5 g H S0 S) (ok : KO_X0_encode_23 N g H T S) (hx : X (KF_X0_encode_23 N g H T S)) : R_ := by
  unfold KO_X0_encode_23 at ok
  unfold KF_X0_encode_23 at hx
  exact hR _ hS hM hx
set_option maxRecDepth 100000 in
set_option maxHeartbeats 4000000 in
theorem k5b_X0_encode_0 {u g H T N : Nat} {S : cS} {S0 : cS} {R_ : Prop} {X : cS → Prop} (hR : ∀ S', St u g H T S' → M5 g H S0 S' → X S' → R_) {x0 : Nat} {x1 : Int32} {x2 : Option Nat} {x3 : Int32} (hS : St u g H T S) (hM : M5 g H S0 S) (t_x0 : isO g H 0 x0) (t_x2 : tK S 20 x2) (ok : KO_X0_encode_0 N g H T x0 x1 x2 x3 S) (hx : X (KF_X0_encode_0 N g H T x0 x1 x2 x3 S)) : R_ := by
  unfold KO_X0_encode_0 at ok
  unfold KF_X0_encode_0 at hx
  refine pif_p ok (fun c_1 => ?_) (fun c_1 => ?_)
  · have ok := ok.1 c_1
    have hx := xif_p c_1 hx
    exact k5b_X0_encode_23 hR hS hM  ok hx
  · have ok := ok.2 c_1
    have hx := xif_n c_1 hx
    refine pif_p ok (fun c_7 => ?_) (fun c_7 => ?_)
    · have ok := ok.1 c_7
      have hx := xif_p c_7 hx
      exact k5b_X0_encode_23 hR hS hM  ok hx
    · have ok := ok.2 c_7
      have hx := xif_n c_7 hx
      refine pif_p ok (fun c_11 => ?_) (fun c_11 => ?_)
      · have ok := ok.1 c_11
        have hx := xif_p c_11 hx
        exact k5b_X0_encode_23 hR hS hM  ok hx
      · have ok := ok.2 c_11
        have hx := xif_n c_11 hx
        have ok := ok.2
        refine pif_p ok (fun c_20 => ?_) (fun c_20 => ?_)
        · have ok := ok.1 c_20
          have hx := xif_p c_20 hx
          have hS := hS.Ab (za x2) x3.toNatClampNeg (x1.toInt8.toInt32)
          have hM := hM.A (za x2) x3.toNatClampNeg ((x1.toInt8.toInt32).toInt8.toInt32)
          have ok := ok.2
          have ok := ok.2
          obtain ⟨hS, hm_39⟩ := k5c_X11_putTwo hS (tK_A t_x2) ok.1
          have hM := hM.trans hm_39
          have ok := ok.2
          exact k5b_X0_encode_42 hR hS hM t_x0 (hm_39.tK (tK_A t_x2) (by decide)) ok hx
        · have ok := ok.2 c_20
          have hx := xif_n c_20 hx
          exact k5b_X0_encode_23 hR hS hM  ok hx
set_option maxRecDepth 100000 in
set_option maxHeartbeats 4000000 in
theorem k5c_X0_encode {u g H T N : Nat} {S : cS} {a0 : Nat} {x1 : Int32} {x2 : Option Nat} {x3 : Int32} (hS : St u g H T S) (t_x0 : isO g H 0 a0) (t_x2 : tK S 20 x2) (ok : p_X0_encode N g H T S a0 x1 x2 x3) : St u g H T (k_X0_encode N g H T S a0 x1 x2 x3) ∧ M5 g H S (k_X0_encode N g H T S a0 x1 x2 x3) := by
  exact k5b_X0_encode_0 (X := fun F => F = k_X0_encode N g H T S a0 x1 x2 x3) (fun S' h1 h2 h => by rw [← h]; exact ⟨h1, h2⟩) hS M5.rfl' t_x0 t_x2 ok rfl
set_option maxRecDepth 100000 in
set_option maxHeartbeats 4000000 in
theorem k5b_X2_clear_0 {u g H T N : Nat} {S : cS} {S0 : cS} {R_ : Prop} {X : cS → Prop} (hR : ∀ S', St u g H T S' → M5 g H S0 S' → X S' → R_) {x0 : Nat} (hS : St u g H T S) (hM : M5 g H S0 S) (t_x0 : isO g H 2 x0) (ok : KO_X2_clear_0 N g H T x0 S) (hx : X (KF_X2_clear_0 N g H T x0 S)) : R_ := by
  unfold KO_X2_clear_0 at ok
  unfold KF_X2_clear_0 at hx
  have hS0 := hS
  have hS := hS.I 5 x0 (nI 0)
  have hM := hM.I5 x0 (nI 0) (ne5O hS0 t_x0 (by decide))
  exact hR _ hS hM hx
set_option maxRecDepth 100000 in
set_option maxHeartbeats 4000000 in
theorem k5c_X2_clear {u g H T N : Nat} {S : cS} {a0 : Nat} (hS : St u g H T S) (t_x0 : isO g H 2 a0) (ok : p_X2_clear N g H T S a0) : St u g H T (k_X2_clear N g H T S a0) ∧ M5 g H S (k_X2_clear N g H T S a0) := by
  exact k5b_X2_clear_0 (X := fun F => F = k_X2_clear N g H T S a0) (fun S' h1 h2 h => by rw [← h]; exact ⟨h1, h2⟩) hS M5.rfl' t_x0 ok rfl
set_option maxRecDepth 100000 in
set_option maxHeartbeats 4000000 in
theorem k5b_X2_open_0 {u g H T N : Nat} {S : cS} {S0 : cS} {R_ : Prop} {X : cS → Prop} (hR : ∀ S', St u g H T S' → M5 g H S0 S' → X S' → R_) {x0 : Nat} (hS : St u g H T S) (hM : M5 g H S0 S) (t_x0 : isO g H 2 x0) (ok : KO_X2_open_0 N g H T x0 S) (hx : X (KF_X2_open_0 N g H T x0 S)) : R_ := by
  unfold KO_X2_open_0 at ok
  unfold KF_X2_open_0 at hx
  have hS := hS.I 4 x0 (nI 0)
  have hM := hM.I 4 x0 (nI 0)
  exact hR _ hS hM hx
set_option maxRecDepth 100000 in
set_option maxHeartbeats 4000000 in
theorem k5c_X2_open {u g H T N : Nat} {S : cS} {a0 : Nat} (hS : St u g H T S) (t_x0 : isO g H 2 a0) (ok : p_X2_open N g H T S a0) : St u g H T (k_X2_open N g H T S a0) ∧ M5 g H S (k_X2_open N g H T S a0) := by
  exact k5b_X2_open_0 (X := fun F => F = k_X2_open N g H T S a0) (fun S' h1 h2 h => by rw [← h]; exact ⟨h1, h2⟩) hS M5.rfl' t_x0 ok rfl
set_option maxRecDepth 100000 in
set_option maxHeartbeats 4000000 in
theorem k5b_X2_add_31 {u g H T N : Nat} {S : cS} {S0 : cS} {R_ : Prop} {X : cS → Prop} (hR : ∀ S', St u g H T S' → M5 g H S0 S' → X S' → R_) (hS : St u g H T S) (hM : M5 g H S0 S) (ok : KO_X2_add_31 N g H T S) (hx : X (KF_X2_add_31 N g H T S)) : R_ := by
  unfold KO_X2_add_31 at ok
  unfold KF_X2_add_31 at hx
  exact hR _ hS hM hx
set_option maxRecDepth 100000 in
set_option maxHeartbeats 4000000 in
theorem k5b_X2_add_0 {u g H T N : Nat} {S : cS} {S0 : cS} {R_ : Prop} {X : cS → Prop} (hR : ∀ S', St u g H T S' → M5 g H S0 S' → X S' → R_) {x0 : Nat} {x1 : Int32} (hS : St u g H T S) (hM : M5 g H S0 S) (t_x0 : isO g H 2 x0) (ok : KO_X2_add_0 N g H T x0 x1 S) (hx : X (KF_X2_add_0 N g H T x0 x1 S)) : R_ := by
  unfold KO_X2_add_0 at ok
  unfold KF_X2_add_0 at hx
  refine pif_p ok (fun c_7 => ?_) (fun c_7 => ?_)
  · have ok := ok.1 c_7
    have hx := xif_p c_7 hx
    exact k5b_X2_add_31 hR hS hM  ok hx
  · have ok := ok.2 c_7
    have hx := xif_n c_7 hx
    have hS := hS.Ab (x0 + 1) (cI S 4 x0).toNatClampNeg (x1.toInt8.toInt32)
    have hM := hM.A (x0 + 1) (cI S 4 x0).toNatClampNeg ((x1.toInt8.toInt32).toInt8.toInt32)
    have ok := ok.2
    have hS := hS.I 4 x0 ((cI (csA S (x0 + 1) (cI S 4 x0).toNatClampNeg ((x1.toInt8.toInt32).toInt8.toInt32)) 4 x0) + (nI 1))
    have hM := hM.I 4 x0 ((cI (csA S (x0 + 1) (cI S 4 x0).toNatClampNeg ((x1.toInt8.toInt32).toInt8.toInt32)) 4 x0) + (nI 1))
    exact k5b_X2_add_31 hR hS hM  ok hx
set_option maxRecDepth 100000 in
set_option maxHeartbeats 4000000 in
theorem k5c_X2_add {u g H T N : Nat} {S : cS} {a0 : Nat} {x1 : Int32} (hS : St u g H T S) (t_x0 : isO g H 2 a0) (ok : p_X2_add N g H T S a0 x1) : St u g H T (k_X2_add N g H T S a0 x1) ∧ M5 g H S (k_X2_add N g H T S a0 x1) := by
  exact k5b_X2_add_0 (X := fun F => F = k_X2_add N g H T S a0 x1) (fun S' h1 h2 h => by rw [← h]; exact ⟨h1, h2⟩) hS M5.rfl' t_x0 ok rfl
set_option maxRecDepth 100000 in
set_option maxHeartbeats 4000000 in
theorem k5b_X2_add__57 {u g H T N : Nat} {S : cS} {S0 : cS} {R_ : Prop} {X : cS → Prop} (hR : ∀ S', St u g H T S' → M5 g H S0 S' → X S' → R_) (hS : St u g H T S) (hM : M5 g H S0 S) (ok : KO_X2_add__57 N g H T S) (hx : X (KF_X2_add__57 N g H T S)) : R_ := by
  unfold KO_X2_add__57 at ok
  unfold KF_X2_add__57 at hx
  exact hR _ hS hM hx
set_option maxRecDepth 100000 in
set_option maxHeartbeats 4000000 in
theorem k5b_X2_add__45 {u g H T N : Nat} {S : cS} {S0 : cS} {R_ : Prop} {X : cS → Prop} (hR : ∀ S', St u g H T S' → M5 g H S0 S' → X S' → R_) {x0 : Nat} {x2 : Int32} {x3 : Int32} (hS : St u g H T S) (hM : M5 g H S0 S) (t_x0 : isO g H 2 x0) (ok : KO_X2_add__45 N g H T x0 x2 x3 S) (hx : X (KF_X2_add__45 N g H T x0 x2 x3 S)) : R_ := by
  unfold KO_X2_add__45 at ok
  unfold KF_X2_add__45 at hx
  have hS := hS.I 4 x0 ((cI S 4 x0) + (x3 - x2))
  have hM := hM.I 4 x0 ((cI S 4 x0) + (x3 - x2))
  exact k5b_X2_add__57 hR hS hM  ok hx
set_option maxRecDepth 100000 in
set_option maxHeartbeats 4000000 in
theorem k5b_X2_add__0 {u g H T N : Nat} {S : cS} {S0 : cS} {R_ : Prop} {X : cS → Prop} (hR : ∀ S', St u g H T S' → M5 g H S0 S' → X S' → R_) {x0 : Nat} {x1 : Option Nat} {x2 : Int32} {x3 : Int32} (hS : St u g H T S) (hM : M5 g H S0 S) (t_x0 : isO g H 2 x0) (t_x1 : tK S 20 x1) (ok : KO_X2_add__0 N g H T x0 x1 x2 x3 S) (hx : X (KF_X2_add__0 N g H T x0 x1 x2 x3 S)) : R_ := by
  unfold KO_X2_add__0 at ok
  unfold KF_X2_add__0 at hx
  refine pif_p ok (fun c_1 => ?_) (fun c_1 => ?_)
  · have ok := ok.1 c_1
    have hx := xif_p c_1 hx
    exact k5b_X2_add__57 hR hS hM  ok hx
  · have ok := ok.2 c_1
    have hx := xif_n c_1 hx
    refine pif_p ok (fun c_6 => ?_) (fun c_6 => ?_)
    · have ok := ok.1 c_6
      have hx := xif_p c_6 hx
      exact k5b_X2_add__57 hR hS hM  ok hx
    · have ok := ok.2 c_6
      have hx := xif_n c_6 hx
      have ok := ok.2
      refine pif_p ok (fun c_12 => ?_) (fun c_12 => ?_)
      · have ok := ok.1 c_12
        have hx := xif_p c_12 hx
        exact k5b_X2_add__57 hR hS hM  ok hx
      · have ok := ok.2 c_12
        have hx := xif_n c_12 hx
        refine pif_p ok (fun c_26 => ?_) (fun c_26 => ?_)
        · have ok := ok.1 c_26
          have hx := xif_p c_26 hx
          exact k5b_X2_add__57 hR hS hM  ok hx
        · have ok := ok.2 c_26
          have hx := xif_n c_26 hx
          have tq_42 : tK S 20 (some (za x1)) := tK_some (tK.cis t_x1 ok.1.1).2
          have hS := hS.Ac (x0 + 1) (za x1) x2.toNatClampNeg (cI S 4 x0).toNatClampNeg (x3 - x2).toNatClampNeg tq_42
          have hM := hM.Ar (x0 + 1) (va_cpy (cA S (za x1)) (cA S (x0 + 1)) x2.toNatClampNeg (cI S 4 x0).toNatClampNeg (x3 - x2).toNatClampNeg)
          have ok := ok.2
          exact k5b_X2_add__45 hR hS hM t_x0 ok hx
set_option maxRecDepth 100000 in
set_option maxHeartbeats 4000000 in
theorem k5c_X2_add_ {u g H T N : Nat} {S : cS} {a0 : Nat} {x1 : Option Nat} {x2 : Int32} {x3 : Int32} (hS : St u g H T S) (t_x0 : isO g H 2 a0) (t_x1 : tK S 20 x1) (ok : p_X2_add_ N g H T S a0 x1 x2 x3) : St u g H T (k_X2_add_ N g H T S a0 x1 x2 x3) ∧ M5 g H S (k_X2_add_ N g H T S a0 x1 x2 x3) := by
  exact k5b_X2_add__0 (X := fun F => F = k_X2_add_ N g H T S a0 x1 x2 x3) (fun S' h1 h2 h => by rw [← h]; exact ⟨h1, h2⟩) hS M5.rfl' t_x0 t_x1 ok rfl
set_option maxRecDepth 100000 in
set_option maxHeartbeats 4000000 in
theorem k5b_J7_rangeCheck_23922_67 {u g H T N : Nat} {S : cS} {S0 : cS} {R_ : Prop} {X : cS → Prop} (hR : ∀ S', St u g H T S' → M5 g H S0 S' → X S' → R_) {x2 : Int32} {s0 : Option Nat} (hS : St u g H T S) (hM : M5 g H S0 S) (ok : KO_J7_rangeCheck_23922_67 N g H T x2 s0 S) (hx : X (KF_J7_rangeCheck_23922_67 N g H T x2 s0 S)) : R_ := by
  unfold KO_J7_rangeCheck_23922_67 at ok
  unfold KF_J7_rangeCheck_23922_67 at hx
  exact absurd ok id
set_option maxRecDepth 100000 in
set_option maxHeartbeats 4000000 in
theorem k5b_J7_rangeCheck_23922_12 {u g H T N : Nat} {S : cS} {S0 : cS} {R_ : Prop} {X : cS → Prop} (hR : ∀ S', St u g H T S' → M5 g H S0 S' → X S' → R_) {x1 : Int32} {x2 : Int32} {s0 : Option Nat} {s1 : Option Nat} {s2 : Option Nat} (hS : St u g H T S) (hM : M5 g H S0 S) (ok : KO_J7_rangeCheck_23922_12 N g H T x1 x2 s0 s1 s2 S) (hx : X (KF_J7_rangeCheck_23922_12 N g H T x1 x2 s0 s1 s2 S)) : R_ := by
  unfold KO_J7_rangeCheck_23922_12 at ok
  unfold KF_J7_rangeCheck_23922_12 at hx
  exact absurd ok id
set_option maxRecDepth 100000 in
set_option maxHeartbeats 4000000 in
theorem k5b_J7_rangeCheck_23922_0 {u g H T N : Nat} {S : cS} {S0 : cS} {R_ : Prop} {X : cS → Prop} (hR : ∀ S', St u g H T S' → M5 g H S0 S' → X S' → R_) {x0 : Int32} {x1 : Int32} {x2 : Int32} (hS : St u g H T S) (hM : M5 g H S0 S) (ok : KO_J7_rangeCheck_23922_0 N g H T x0 x1 x2 S) (hx : X (KF_J7_rangeCheck_23922_0 N g H T x0 x1 x2 S)) : R_ := by
  unfold KO_J7_rangeCheck_23922_0 at ok
  unfold KF_J7_rangeCheck_23922_0 at hx
  refine pif_p ok (fun c_2 => ?_) (fun c_2 => ?_)
  · have ok := ok.1 c_2
    have hx := xif_p c_2 hx
    refine pif_p ok (fun c_47 => ?_) (fun c_47 => ?_)
    · have ok := ok.1 c_47
      have hx := xif_p c_47 hx
      refine pif_p ok (fun c_61 => ?_) (fun c_61 => ?_)
      · have ok := ok.1 c_61
        have hx := xif_p c_61 hx
        exact hR _ hS hM hx
      · have ok := ok.2 c_61
        have hx := xif_n c_61 hx
        exact absurd ok id
    · have ok := ok.2 c_47
      have hx := xif_n c_47 hx
      exact absurd ok id
  · have ok := ok.2 c_2
    have hx := xif_n c_2 hx
    exact absurd ok id
set_option maxRecDepth 100000 in
set_option maxHeartbeats 4000000 in
theorem k5c_J7_rangeCheck_23922 {u g H T N : Nat} {S : cS} {x0 : Int32} {x1 : Int32} {x2 : Int32} (hS : St u g H T S) (ok : p_J7_rangeCheck_23922 N g H T S x0 x1 x2) : St u g H T (k_J7_rangeCheck_23922 N g H T S x0 x1 x2) ∧ M5 g H S (k_J7_rangeCheck_23922 N g H T S x0 x1 x2) := by
  exact k5b_J7_rangeCheck_23922_0 (X := fun F => F = k_J7_rangeCheck_23922 N g H T S x0 x1 x2) (fun S' h1 h2 h => by rw [← h]; exact ⟨h1, h2⟩) hS M5.rfl'  ok rfl
set_option maxRecDepth 100000 in
set_option maxHeartbeats 4000000 in
theorem k5b_J7_fill_eb02e_27 {u g H T N : Nat} {S : cS} {S0 : cS} {R_ : Prop} {X : cS → Prop} (hR : ∀ S', St u g H T S' → M5 g H S0 S' → X S' → R_) (hS : St u g H T S) (hM : M5 g H S0 S) (ok : KO_J7_fill_eb02e_27 N g H T S) (hx : X (KF_J7_fill_eb02e_27 N g H T S)) : R_ := by
  unfold KO_J7_fill_eb02e_27 at ok
  unfold KF_J7_fill_eb02e_27 at hx
  exact hR _ hS hM hx
set_option maxRecDepth 100000 in
set_option maxHeartbeats 4000000 in
theorem k5bb_J7_fill_eb02e_10 {u g H T N : Nat} {S : cS} {S0 : cS} {R_ : Prop} {X : Nat × cS → Prop} (hX0 : ∀ (S' : cS), St u g H T S' → M5 g H S0 S' → X (0, S') → R_) {rec : Option Nat → Int32 → Int32 → Int32 → cS → Nat × cS} {rok : Option Nat → Int32 → Int32 → Int32 → cS → Prop} (hrec : ∀ (x0 : Option Nat) (x2 : Int32) (x3 : Int32) (x4 : Int32) (S : cS), St u g H T S → M5 g H S0 S → tK S 20 x0 → rok x0 x2 x3 x4 S → X (rec x0 x2 x3 x4 S) → R_) {x0 : Option Nat} {x2 : Int32} {x3 : Int32} {x4 : Int32} (hS : St u g H T S) (hM : M5 g H S0 S) (t_x0 : tK S 20 x0) (ok : KOB_J7_fill_eb02e_10 N g H T rok x0 x2 x3 x4 S) (hx : X (KB_J7_fill_eb02e_10 N g H T rec x0 x2 x3 x4 S)) : R_ := by
  unfold KOB_J7_fill_eb02e_10 at ok
  unfold KB_J7_fill_eb02e_10 at hx
  refine pif_p ok (fun c_13 => ?_) (fun c_13 => ?_)
  · have ok := ok.1 c_13
    have hx := xif_p c_13 hx
    exact hX0 S hS hM  hx
  · have ok := ok.2 c_13
    have hx := xif_n c_13 hx
    have hS := hS.Ab (za x0) x4.toNatClampNeg x3
    have hM := hM.A (za x0) x4.toNatClampNeg (x3.toInt8.toInt32)
    have ok := ok.2
    exact hrec _ _ _ _ (csA S (za x0) x4.toNatClampNeg (x3.toInt8.toInt32)) hS hM (tK_A t_x0) ok hx
set_option maxRecDepth 100000 in
set_option maxHeartbeats 4000000 in
theorem k5l_J7_fill_eb02e_10 {u g H T N : Nat} {S0 : cS} {R_ : Prop} {X : Nat × cS → Prop} (hX0 : ∀ (S' : cS), St u g H T S' → M5 g H S0 S' → X (0, S') → R_) : ∀ (n : Nat) (x0 : Option Nat) (x2 : Int32) (x3 : Int32) (x4 : Int32) (S : cS), St u g H T S → M5 g H S0 S → tK S 20 x0 → KOL_J7_fill_eb02e_10 N g H T n x0 x2 x3 x4 S → X (KL_J7_fill_eb02e_10 N g H T n x0 x2 x3 x4 S) → R_ := by
  intro n
  induction n with
  | zero => intro x0 x2 x3 x4 S hS hM t_x0 ok; exact absurd ok id
  | succ n ih =>
    intro x0 x2 x3 x4 S hS hM t_x0 ok hx
    exact k5bb_J7_fill_eb02e_10 hX0 (rec := KL_J7_fill_eb02e_10 N g H T n) (rok := KOL_J7_fill_eb02e_10 N g H T n) (fun x0 x2 x3 x4 S hS hM t_x0 ok hx => ih x0 x2 x3 x4 S hS hM t_x0 ok hx) hS hM t_x0 ok hx
set_option maxRecDepth 100000 in
set_option maxHeartbeats 4000000 in
theorem k5d_J7_fill_eb02e_10 {u g H T N : Nat} {S : cS} {S0 : cS} {R_ : Prop} {X : cS → Prop} (hR : ∀ S', St u g H T S' → M5 g H S0 S' → X S' → R_) {x0 : Option Nat} {x2 : Int32} {x3 : Int32} {x4 : Int32} (hS : St u g H T S) (hM : M5 g H S0 S) (t_x0 : tK S 20 x0) (ok : KOL_J7_fill_eb02e_10 N g H T N x0 x2 x3 x4 S ∧ KOA_J7_fill_eb02e_10 N g H T x0 x2 x3 x4 S (KL_J7_fill_eb02e_10 N g H T N x0 x2 x3 x4 S)) (hx : X (KA_J7_fill_eb02e_10 N g H T x0 x2 x3 x4 S (KL_J7_fill_eb02e_10 N g H T N x0 x2 x3 x4 S))) : R_ := by
  refine k5l_J7_fill_eb02e_10 ?_ N x0 x2 x3 x4 S hS hM t_x0 ok.1 (X := fun z => KOA_J7_fill_eb02e_10 N g H T x0 x2 x3 x4 S z ∧ X (KA_J7_fill_eb02e_10 N g H T x0 x2 x3 x4 S z)) ⟨ok.2, hx⟩
  · intro S' hS hM hz
    obtain ⟨ok, hx⟩ := hz
    unfold KOA_J7_fill_eb02e_10 at ok
    unfold KA_J7_fill_eb02e_10 at hx
    exact k5b_J7_fill_eb02e_27 hR hS hM  ok hx
set_option maxRecDepth 100000 in
set_option maxHeartbeats 4000000 in
theorem k5b_J7_fill_eb02e_7 {u g H T N : Nat} {S : cS} {S0 : cS} {R_ : Prop} {X : cS → Prop} (hR : ∀ S', St u g H T S' → M5 g H S0 S' → X S' → R_) {x0 : Option Nat} {x1 : Int32} {x2 : Int32} {x3 : Int32} (hS : St u g H T S) (hM : M5 g H S0 S) (t_x0 : tK S 20 x0) (ok : KO_J7_fill_eb02e_7 N g H T x0 x1 x2 x3 S) (hx : X (KF_J7_fill_eb02e_7 N g H T x0 x1 x2 x3 S)) : R_ := by
  unfold KO_J7_fill_eb02e_7 at ok
  unfold KF_J7_fill_eb02e_7 at hx
  exact k5d_J7_fill_eb02e_10 hR hS hM t_x0 ok hx
set_option maxRecDepth 100000 in
set_option maxHeartbeats 4000000 in
theorem k5b_J7_fill_eb02e_0 {u g H T N : Nat} {S : cS} {S0 : cS} {R_ : Prop} {X : cS → Prop} (hR : ∀ S', St u g H T S' → M5 g H S0 S' → X S' → R_) {x0 : Option Nat} {x1 : Int32} {x2 : Int32} {x3 : Int32} (hS : St u g H T S) (hM : M5 g H S0 S) (t_x0 : tK S 20 x0) (ok : KO_J7_fill_eb02e_0 N g H T x0 x1 x2 x3 S) (hx : X (KF_J7_fill_eb02e_0 N g H T x0 x1 x2 x3 S)) : R_ := by
  unfold KO_J7_fill_eb02e_0 at ok
  unfold KF_J7_fill_eb02e_0 at hx
  have ok := ok.2
  obtain ⟨hS, hm_4⟩ := k5c_J7_rangeCheck_23922 hS ok.1
  have hM := hM.trans hm_4
  have ok := ok.2
  exact k5b_J7_fill_eb02e_7 hR hS hM (hm_4.tK t_x0 (by decide)) ok hx
set_option maxRecDepth 100000 in
set_option maxHeartbeats 4000000 in
theorem k5c_J7_fill_eb02e {u g H T N : Nat} {S : cS} {x0 : Option Nat} {x1 : Int32} {x2 : Int32} {x3 : Int32} (hS : St u g H T S) (t_x0 : tK S 20 x0) (ok : p_J7_fill_eb02e N g H T S x0 x1 x2 x3) : St u g H T (k_J7_fill_eb02e N g H T S x0 x1 x2 x3) ∧ M5 g H S (k_J7_fill_eb02e N g H T S x0 x1 x2 x3) := by
  exact k5b_J7_fill_eb02e_0 (X := fun F => F = k_J7_fill_eb02e N g H T S x0 x1 x2 x3) (fun S' h1 h2 h => by rw [← h]; exact ⟨h1, h2⟩) hS M5.rfl' t_x0 ok rfl

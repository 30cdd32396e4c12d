set_option maxRecDepth 100000 in
set_option maxHeartbeats 4000000 in
theorem k5b_X1_name_77 {u g H T N : Nat} {S : cS} {S0 : cS} {R_ : Prop} {X : cS → Prop} (hR : ∀ S', St u g H T S' → M5 g H S0 S' → X S' → R_) (hS : St u g H T S) (hM : M5 g H S0 S) (ok : KO_X1_name_77 N g H T S) (hx : X (KF_X1_name_77 N g H T S)) : R_ := by
  unfold KO_X1_name_77 at ok
  unfold KF_X1_name_77 at hx
  exact hR _ hS hM hx
set_option maxRecDepth 100000 in
set_option maxHeartbeats 4000000 in
theorem k5b_X1_name_58 {u g H T N : Nat} {S : cS} {S0 : cS} {R_ : Prop} {X : cS → Prop} (hR : ∀ S', St u g H T S' → M5 g H S0 S' → X S' → R_) {x1 : Option Nat} (hS : St u g H T S) (hM : M5 g H S0 S) (t_x1 : tK S 5 x1) (ok : KO_X1_name_58 N g H T x1 S) (hx : X (KF_X1_name_58 N g H T x1 S)) : R_ := by
  unfold KO_X1_name_58 at ok
  unfold KF_X1_name_58 at hx
  have nn_60 := ok.1.1
  have ok := ok.2
  refine pif_n ok (fun c_64 => ?_) (fun c_64 => ?_)
  · have ok := ok.2 c_64
    have hx := xif_n c_64 hx
    exact k5b_X1_name_77 hR hS hM  ok hx
  · have ok := ok.1 c_64
    have hx := xif_p c_64 hx
    have p_69 := hS.m0k t_x1 nn_60
    obtain ⟨hS, hm_74⟩ := k5c_X5_readId hS (t_x1 _ (za_of nn_60)) p_69 ok.1
    have hM := hM.trans hm_74
    have ok := ok.2
    exact k5b_X1_name_77 hR hS hM  ok hx
set_option maxRecDepth 100000 in
set_option maxHeartbeats 4000000 in
theorem k5b_X1_name_39 {u g H T N : Nat} {S : cS} {S0 : cS} {R_ : Prop} {X : cS → Prop} (hR : ∀ S', St u g H T S' → M5 g H S0 S' → X S' → R_) (hS : St u g H T S) (hM : M5 g H S0 S) (ok : KO_X1_name_39 N g H T S) (hx : X (KF_X1_name_39 N g H T S)) : R_ := by
  unfold KO_X1_name_39 at ok
  unfold KF_X1_name_39 at hx
  exact k5b_X1_name_77 hR hS hM  ok hx
set_option maxRecDepth 100000 in
set_option maxHeartbeats 4000000 in
theorem k5b_X1_name_30 {u g H T N : Nat} {S : cS} {S0 : cS} {R_ : Prop} {X : cS → Prop} (hR : ∀ S', St u g H T S' → M5 g H S0 S' → X S' → R_) {x0 : Nat} {x1 : Option Nat} (hS : St u g H T S) (hM : M5 g H S0 S) (t_x0 : isO g H 1 x0) (t_x1 : tK S 5 x1) (ok : KO_X1_name_30 N g H T x0 x1 S) (hx : X (KF_X1_name_30 N g H T x0 x1 S)) : R_ := by
  unfold KO_X1_name_30 at ok
  unfold KF_X1_name_30 at hx
  have nn_36 := ok.1.1
  obtain ⟨hS, hm_36⟩ := k5c_X5_readId hS (t_x1 _ (za_of nn_36)) (hS.rk (c := 1) (k := 2) t_x0 rfl (by omega)) ok.1.2
  have hM := hM.trans hm_36
  have ok := ok.2
  exact k5b_X1_name_39 hR hS hM  ok hx
set_option maxRecDepth 100000 in
set_option maxHeartbeats 4000000 in
theorem k5b_X1_name_0 {u g H T N : Nat} {S : cS} {S0 : cS} {R_ : Prop} {X : cS → Prop} (hR : ∀ S', St u g H T S' → M5 g H S0 S' → X S' → R_) {x0 : Nat} {x1 : Option Nat} (hS : St u g H T S) (hM : M5 g H S0 S) (t_x0 : isO g H 1 x0) (t_x1 : tK S 5 x1) (ok : KO_X1_name_0 N g H T x0 x1 S) (hx : X (KF_X1_name_0 N g H T x0 x1 S)) : R_ := by
  unfold KO_X1_name_0 at ok
  unfold KF_X1_name_0 at hx
  have nn_1 := ok.1.1
  have ok := ok.2
  refine pif_p ok (fun c_6 => ?_) (fun c_6 => ?_)
  · have ok := ok.1 c_6
    have hx := xif_p c_6 hx
    have ok := ok.2
    refine pif_p ok (fun c_47 => ?_) (fun c_47 => ?_)
    · have ok := ok.1 c_47
      have hx := xif_p c_47 hx
      exact k5b_X1_name_58 hR hS hM t_x1 ok hx
    · have ok := ok.2 c_47
      have hx := xif_n c_47 hx
      have ok := ok.2
      refine pif_n ok (fun c_55 => ?_) (fun c_55 => ?_)
      · have ok := ok.2 c_55
        have hx := xif_n c_55 hx
        exact k5b_X1_name_77 hR hS hM  ok hx
      · have ok := ok.1 c_55
        have hx := xif_p c_55 hx
        exact k5b_X1_name_58 hR hS hM t_x1 ok hx
  · have ok := ok.2 c_6
    have hx := xif_n c_6 hx
    have p_14 := hS.m0k t_x1 nn_1
    obtain ⟨hS, hm_27⟩ := k5c_X2_digest hS (o10 t_x0) p_14 (hS.rk (c := 1) (k := 2) t_x0 rfl (by omega)) ok.1
    have hM := hM.trans hm_27
    have ok := ok.2
    exact k5b_X1_name_30 hR hS hM t_x0 (hm_27.tK t_x1 (by decide)) ok hx
set_option maxRecDepth 100000 in
set_option maxHeartbeats 4000000 in
theorem k5c_X1_name {u g H T N : Nat} {S : cS} {a0 : Nat} {x1 : Option Nat} (hS : St u g H T S) (t_x0 : isO g H 1 a0) (t_x1 : tK S 5 x1) (ok : p_X1_name N g H T S a0 x1) : St u g H T (k_X1_name N g H T S a0 x1) ∧ M5 g H S (k_X1_name N g H T S a0 x1) := by
  exact k5b_X1_name_0 (X := fun F => F = k_X1_name N g H T S a0 x1) (fun S' h1 h2 h => by rw [← h]; exact ⟨h1, h2⟩) hS M5.rfl' t_x0 t_x1 ok rfl
set_option maxRecDepth 100000 in
set_option maxHeartbeats 4000000 in
theorem k5b_X1_look_64 {u g H T N : Nat} {S : cS} {S0 : cS} {R_ : Prop} {X : Int32 × cS → Prop} (hR : ∀ v S', St u g H T S' → M5 g H S0 S' → X (v, S') → R_) {s0 : Int32} (hS : St u g H T S) (hM : M5 g H S0 S) (ok : KO_X1_look_64 N g H T s0 S) (hx : X (KF_X1_look_64 N g H T s0 S)) : R_ := by
  unfold KO_X1_look_64 at ok
  unfold KF_X1_look_64 at hx
  exact hR _ _ hS hM hx
set_option maxRecDepth 100000 in
set_option maxHeartbeats 4000000 in
theorem k5b_X1_look_51 {u g H T N : Nat} {S : cS} {S0 : cS} {R_ : Prop} {X : Int32 × cS → Prop} (hR : ∀ v S', St u g H T S' → M5 g H S0 S' → X (v, S') → R_) {x1 : Option Nat} (hS : St u g H T S) (hM : M5 g H S0 S) (t_x1 : tK S 5 x1) (ok : KO_X1_look_51 N g H T x1 S) (hx : X (KF_X1_look_51 N g H T x1 S)) : R_ := by
  unfold KO_X1_look_51 at ok
  unfold KF_X1_look_51 at hx
  have nn_52 := ok.1
  have ok := ok.2
  refine pif_n ok (fun c_56 => ?_) (fun c_56 => ?_)
  · have ok := ok.2 c_56
    have hx := xif_n c_56 hx
    exact k5b_X1_look_64 hR hS hM  ok hx
  · have ok := ok.1 c_56
    have hx := xif_p c_56 hx
    exact k5b_X1_look_64 hR hS hM  ok hx
set_option maxRecDepth 100000 in
set_option maxHeartbeats 4000000 in
theorem k5b_X1_look_35 {u g H T N : Nat} {S : cS} {S0 : cS} {R_ : Prop} {X : Int32 × cS → Prop} (hR : ∀ v S', St u g H T S' → M5 g H S0 S' → X (v, S') → R_) {x0 : Nat} {x1 : Option Nat} {s0 : Option Nat} {s1 : Int32} (hS : St u g H T S) (hM : M5 g H S0 S) (t_x0 : isO g H 1 x0) (t_x1 : tK S 5 x1) (t_s0 : tK S 5 s0) (ok : KO_X1_look_35 N g H T x0 x1 s0 s1 S) (hx : X (KF_X1_look_35 N g H T x0 x1 s0 s1 S)) : R_ := by
  unfold KO_X1_look_35 at ok
  unfold KF_X1_look_35 at hx
  have nn_35 := ok.1
  have hS := hS.I 4 (za s0) s1
  have hM := hM.I 4 (za s0) s1
  have ok := ok.2
  have nn_39 := ok.1
  have ok := ok.2
  refine pif_n ok (fun c_43 => ?_) (fun c_43 => ?_)
  · have ok := ok.2 c_43
    have hx := xif_n c_43 hx
    exact k5b_X1_look_51 hR hS hM (tK_I t_x1) ok hx
  · have ok := ok.1 c_43
    have hx := xif_p c_43 hx
    obtain ⟨hS, hm_48⟩ := k5c_X1_name hS t_x0 (tK_I t_x1) ok.1
    have hM := hM.trans hm_48
    have ok := ok.2
    exact k5b_X1_look_51 hR hS hM (hm_48.tK (tK_I t_x1) (by decide)) ok hx
set_option maxRecDepth 100000 in
set_option maxHeartbeats 4000000 in
theorem k5b_X1_look_34 {u g H T N : Nat} {S : cS} {S0 : cS} {R_ : Prop} {X : Int32 × cS → Prop} (hR : ∀ v S', St u g H T S' → M5 g H S0 S' → X (v, S') → R_) {x0 : Nat} {x1 : Option Nat} {s0 : Option Nat} (hS : St u g H T S) (hM : M5 g H S0 S) (t_x0 : isO g H 1 x0) (t_x1 : tK S 5 x1) (t_s0 : tK S 5 s0) (ok : KO_X1_look_34 N g H T x0 x1 s0 S) (hx : X (KF_X1_look_34 N g H T x0 x1 s0 S)) : R_ := by
  unfold KO_X1_look_34 at ok
  unfold KF_X1_look_34 at hx
  exact k5b_X1_look_35 hR hS hM t_x0 t_x1 t_s0 ok hx
set_option maxRecDepth 100000 in
set_option maxHeartbeats 4000000 in
theorem k5b_X1_look_27 {u g H T N : Nat} {S : cS} {S0 : cS} {R_ : Prop} {X : Int32 × cS → Prop} (hR : ∀ v S', St u g H T S' → M5 g H S0 S' → X (v, S') → R_) {x0 : Nat} {x1 : Option Nat} {s0 : Option Nat} {s1 : Int32} (hS : St u g H T S) (hM : M5 g H S0 S) (t_x0 : isO g H 1 x0) (t_x1 : tK S 5 x1) (t_s0 : tK S 5 s0) (ok : KO_X1_look_27 N g H T x0 x1 s0 s1 S) (hx : X (KF_X1_look_27 N g H T x0 x1 s0 s1 S)) : R_ := by
  unfold KO_X1_look_27 at ok
  unfold KF_X1_look_27 at hx
  refine pif_p ok (fun c_27 => ?_) (fun c_27 => ?_)
  · have ok := ok.1 c_27
    have hx := xif_p c_27 hx
    exact k5b_X1_look_34 hR hS hM t_x0 t_x1 t_s0 ok hx
  · have ok := ok.2 c_27
    have hx := xif_n c_27 hx
    exact k5b_X1_look_35 hR hS hM t_x0 t_x1 t_s0 ok hx
set_option maxRecDepth 100000 in
set_option maxHeartbeats 4000000 in
theorem k5b_X1_look_0 {u g H T N : Nat} {S : cS} {S0 : cS} {R_ : Prop} {X : Int32 × cS → Prop} (hR : ∀ v S', St u g H T S' → M5 g H S0 S' → X (v, S') → R_) {x0 : Nat} {x1 : Option Nat} (hS : St u g H T S) (hM : M5 g H S0 S) (t_x0 : isO g H 1 x0) (t_x1 : tK S 5 x1) (ok : KO_X1_look_0 N g H T x0 x1 S) (hx : X (KF_X1_look_0 N g H T x0 x1 S)) : R_ := by
  unfold KO_X1_look_0 at ok
  unfold KF_X1_look_0 at hx
  have nn_1 := ok.1
  have ok := ok.2
  refine pif_n ok (fun c_4 => ?_) (fun c_4 => ?_)
  · have ok := ok.2 c_4
    have hx := xif_n c_4 hx
    exact k5b_X1_look_51 hR hS hM t_x1 ok hx
  · have ok := ok.1 c_4
    have hx := xif_p c_4 hx
    refine pif_p ok (fun c_12 => ?_) (fun c_12 => ?_)
    · have ok := ok.1 c_12
      have hx := xif_p c_12 hx
      exact k5b_X1_look_34 hR hS hM t_x0 t_x1 t_x1 ok hx
    · have ok := ok.2 c_12
      have hx := xif_n c_12 hx
      have p_17 := hS.m0k t_x1 nn_1
      obtain ⟨hS, hm_24⟩ := k5c_X1_fits hS t_x0 p_17 ok.1
      have hM := hM.trans hm_24
      have ok := ok.2
      exact k5b_X1_look_27 hR hS hM t_x0 (hm_24.tK t_x1 (by decide)) (hm_24.tK t_x1 (by decide)) ok hx
set_option maxRecDepth 100000 in
set_option maxHeartbeats 4000000 in
theorem k5c_X1_look {u g H T N : Nat} {S : cS} {a0 : Nat} {x1 : Option Nat} (hS : St u g H T S) (t_x0 : isO g H 1 a0) (t_x1 : tK S 5 x1) (ok : p_X1_look N g H T S a0 x1) : St u g H T (k_X1_look N g H T S a0 x1).2 ∧ M5 g H S (k_X1_look N g H T S a0 x1).2 := by
  exact k5b_X1_look_0 (X := fun F => F = k_X1_look N g H T S a0 x1) (fun v S' h1 h2 h => by rw [← h]; exact ⟨h1, h2⟩) hS M5.rfl' t_x0 t_x1 ok rfl
set_option maxRecDepth 100000 in
set_option maxHeartbeats 4000000 in
theorem k5b_X8_addPayment_39 {u g H T N : Nat} {S : cS} {S0 : cS} {R_ : Prop} {X : Int32 × cS → Prop} (hR : ∀ v S', St u g H T S' → M5 g H S0 S' → X (v, S') → R_) (hS : St u g H T S) (hM : M5 g H S0 S) (ok : KO_X8_addPayment_39 N g H T S) (hx : X (KF_X8_addPayment_39 N g H T S)) : R_ := by
  unfold KO_X8_addPayment_39 at ok
  unfold KF_X8_addPayment_39 at hx
  exact hR _ _ hS hM hx
set_option maxRecDepth 100000 in
set_option maxHeartbeats 4000000 in
theorem k5b_X8_addPayment_17 {u g H T N : Nat} {S : cS} {S0 : cS} {R_ : Prop} {X : Int32 × cS → Prop} (hR : ∀ v S', St u g H T S' → M5 g H S0 S' → X (v, S') → R_) (hS : St u g H T S) (hM : M5 g H S0 S) (ok : KO_X8_addPayment_17 N g H T S) (hx : X (KF_X8_addPayment_17 N g H T S)) : R_ := by
  unfold KO_X8_addPayment_17 at ok
  unfold KF_X8_addPayment_17 at hx
  exact hR _ _ hS hM hx
set_option maxRecDepth 100000 in
set_option maxHeartbeats 4000000 in
theorem k5b_X8_addPayment_0 {u g H T N : Nat} {S : cS} {S0 : cS} {R_ : Prop} {X : Int32 × cS → Prop} (hR : ∀ v S', St u g H T S' → M5 g H S0 S' → X (v, S') → R_) {x0 : Nat} {x1 : Int64} (hS : St u g H T S) (hM : M5 g H S0 S) (t_x0 : isO g H 6 x0) (ok : KO_X8_addPayment_0 N g H T x0 x1 S) (hx : X (KF_X8_addPayment_0 N g H T x0 x1 S)) : R_ := by
  unfold KO_X8_addPayment_0 at ok
  unfold KF_X8_addPayment_0 at hx
  refine pif_p ok (fun c_6 => ?_) (fun c_6 => ?_)
  · have ok := ok.1 c_6
    have hx := xif_p c_6 hx
    exact k5b_X8_addPayment_17 hR hS hM  ok hx
  · have ok := ok.2 c_6
    have hx := xif_n c_6 hx
    have ok := ok.2
    refine pif_p ok (fun c_14 => ?_) (fun c_14 => ?_)
    · have ok := ok.1 c_14
      have hx := xif_p c_14 hx
      have hS := hS.J (x0 + 4) (cI S 12 x0).toNatClampNeg x1
      have hM := hM.J (x0 + 4) (cI S 12 x0).toNatClampNeg x1
      have ok := ok.2
      have hS := hS.I 12 x0 ((cI (csJ S (x0 + 4) (cI S 12 x0).toNatClampNeg x1) 12 x0) + (nI 1))
      have hM := hM.I 12 x0 ((cI (csJ S (x0 + 4) (cI S 12 x0).toNatClampNeg x1) 12 x0) + (nI 1))
      exact k5b_X8_addPayment_39 hR hS hM  ok hx
    · have ok := ok.2 c_14
      have hx := xif_n c_14 hx
      exact k5b_X8_addPayment_17 hR hS hM  ok hx
set_option maxRecDepth 100000 in
set_option maxHeartbeats 4000000 in
theorem k5c_X8_addPayment {u g H T N : Nat} {S : cS} {a0 : Nat} {x1 : Int64} (hS : St u g H T S) (t_x0 : isO g H 6 a0) (ok : p_X8_addPayment N g H T S a0 x1) : St u g H T (k_X8_addPayment N g H T S a0 x1).2 ∧ M5 g H S (k_X8_addPayment N g H T S a0 x1).2 := by
  exact k5b_X8_addPayment_0 (X := fun F => F = k_X8_addPayment N g H T S a0 x1) (fun v S' h1 h2 h => by rw [← h]; exact ⟨h1, h2⟩) hS M5.rfl' t_x0 ok rfl
set_option maxRecDepth 100000 in
set_option maxHeartbeats 4000000 in
theorem k5b_X9_launch_87 {u g H T N : Nat} {S : cS} {S0 : cS} {R_ : Prop} {X : cS → Prop} (hR : ∀ S', St u g H T S' → M5 g H S0 S' → X S' → R_) {x3 : Option Nat} (hS : St u g H T S) (hM : M5 g H S0 S) (t_x3 : tK S 5 x3) (ok : KO_X9_launch_87 N g H T x3 S) (hx : X (KF_X9_launch_87 N g H T x3 S)) : R_ := by
  unfold KO_X9_launch_87 at ok
  unfold KF_X9_launch_87 at hx
  have nn_89 := ok.1
  have ok := ok.2
  have hS := hS.I 3 (za x3) ((cI S 3 (za x3)) + (nI 1))
  have hM := hM.I 3 (za x3) ((cI S 3 (za x3)) + (nI 1))
  exact hR _ hS hM hx
set_option maxRecDepth 100000 in
set_option maxHeartbeats 4000000 in
theorem k5b_X9_launch_68 {u g H T N : Nat} {S : cS} {S0 : cS} {R_ : Prop} {X : cS → Prop} (hR : ∀ S', St u g H T S' → M5 g H S0 S' → X S' → R_) {x0 : Nat} {x3 : Option Nat} {x4 : Int32} (hS : St u g H T S) (hM : M5 g H S0 S) (t_x0 : isO g H 7 x0) (t_x3 : tK S 5 x3) (ok : KO_X9_launch_68 N g H T x0 x3 x4 S) (hx : X (KF_X9_launch_68 N g H T x0 x3 x4 S)) : R_ := by
  unfold KO_X9_launch_68 at ok
  unfold KF_X9_launch_68 at hx
  have tq_78 : tK S 21 (some (x0 + 5)) := tK_some (tK.cis (hS.rk (c := 7) (k := 4) t_x0 rfl (by omega)) (Option.some_ne_none _)).2
  have hS := hS.Aw (k := 21) (x0 + 5) x4.toNatClampNeg (cI S 10 x0) tq_78 (by decide)
  have hM := hM.A (x0 + 5) x4.toNatClampNeg (cI S 10 x0)
  have ok := ok.2
  have hS2 := hS.P24 (i := x4.toNatClampNeg) ((hS.rk (c := 7) (k := 5) t_x0 rfl (by omega)) _ rfl) (tK_A t_x3)
  have hS := hS2
  have hM := hM.P (x0 + 6) x4.toNatClampNeg x3
  have ok := ok.2
  exact k5b_X9_launch_87 hR hS hM (tK_P (tK_A t_x3)) ok hx
set_option maxRecDepth 100000 in
set_option maxHeartbeats 4000000 in
theorem k5b_X9_launch_52 {u g H T N : Nat} {S : cS} {S0 : cS} {R_ : Prop} {X : cS → Prop} (hR : ∀ S', St u g H T S' → M5 g H S0 S' → X S' → R_) {x0 : Nat} {x1 : Int32} {x2 : Int32} {x3 : Option Nat} {x4 : Int32} (hS : St u g H T S) (hM : M5 g H S0 S) (t_x0 : isO g H 7 x0) (t_x3 : tK S 5 x3) (ok : KO_X9_launch_52 N g H T x0 x1 x2 x3 x4 S) (hx : X (KF_X9_launch_52 N g H T x0 x1 x2 x3 x4 S)) : R_ := by
  unfold KO_X9_launch_52 at ok
  unfold KF_X9_launch_52 at hx
  have tq_59 : tK S 21 (some (x0 + 3)) := tK_some (tK.cis (hS.rk (c := 7) (k := 2) t_x0 rfl (by omega)) (Option.some_ne_none _)).2
  have hS := hS.Aw (k := 21) (x0 + 3) x4.toNatClampNeg x1 tq_59 (by decide)
  have hM := hM.A (x0 + 3) x4.toNatClampNeg x1
  have ok := ok.2
  have tq_67 : tK (csA S (x0 + 3) x4.toNatClampNeg x1) 21 (some (x0 + 4)) := tK_some (tK.cis (hS.rk (c := 7) (k := 3) t_x0 rfl (by omega)) (Option.some_ne_none _)).2
  have hS := hS.Aw (k := 21) (x0 + 4) x4.toNatClampNeg x2 tq_67 (by decide)
  have hM := hM.A (x0 + 4) x4.toNatClampNeg x2
  have ok := ok.2
  exact k5b_X9_launch_68 hR hS hM t_x0 (tK_A (tK_A t_x3)) ok hx
set_option maxRecDepth 100000 in
set_option maxHeartbeats 4000000 in
theorem k5b_X9_launch_0 {u g H T N : Nat} {S : cS} {S0 : cS} {R_ : Prop} {X : cS → Prop} (hR : ∀ S', St u g H T S' → M5 g H S0 S' → X S' → R_) {x0 : Nat} {x1 : Int32} {x2 : Int32} {x3 : Option Nat} (hS : St u g H T S) (hM : M5 g H S0 S) (t_x0 : isO g H 7 x0) (t_x3 : tK S 5 x3) (ok : KO_X9_launch_0 N g H T x0 x1 x2 x3 S) (hx : X (KF_X9_launch_0 N g H T x0 x1 x2 x3 S)) : R_ := by
  unfold KO_X9_launch_0 at ok
  unfold KF_X9_launch_0 at hx
  refine pif_p ok (fun c_7 => ?_) (fun c_7 => ?_)
  · have ok := ok.1 c_7
    have hx := xif_p c_7 hx
    have ok := ok.2
    have tq_41 : tK S 21 (some (x0 + 1)) := tK_some (tK.cis (hS.rk (c := 7) (k := 0) t_x0 rfl (by omega)) (Option.some_ne_none _)).2
    have hS := hS.Aw (k := 21) (x0 + 1) (((cI S 6 x0) + (cI S 9 x0)) &&& (nI 1023)).toNatClampNeg (cA S (x0 + 2) (cI S 9 x0).toNatClampNeg) tq_41 (by decide)
    have hM := hM.A (x0 + 1) (((cI S 6 x0) + (cI S 9 x0)) &&& (nI 1023)).toNatClampNeg (cA S (x0 + 2) (cI S 9 x0).toNatClampNeg)
    have ok := ok.2
    have hS := hS.I 9 x0 ((cI (csA S (x0 + 1) (((cI S 6 x0) + (cI S 9 x0)) &&& (nI 1023)).toNatClampNeg (cA S (x0 + 2) (cI S 9 x0).toNatClampNeg)) 9 x0) + (nI 1))
    have hM := hM.I 9 x0 ((cI (csA S (x0 + 1) (((cI S 6 x0) + (cI S 9 x0)) &&& (nI 1023)).toNatClampNeg (cA S (x0 + 2) (cI S 9 x0).toNatClampNeg)) 9 x0) + (nI 1))
    exact k5b_X9_launch_52 hR hS hM t_x0 (tK_I (tK_A t_x3)) ok hx
  · have ok := ok.2 c_7
    have hx := xif_n c_7 hx
    exact hR _ hS hM hx
set_option maxRecDepth 100000 in
set_option maxHeartbeats 4000000 in
theorem k5c_X9_launch {u g H T N : Nat} {S : cS} {a0 : Nat} {x1 : Int32} {x2 : Int32} {x3 : Option Nat} (hS : St u g H T S) (t_x0 : isO g H 7 a0) (t_x3 : tK S 5 x3) (ok : p_X9_launch N g H T S a0 x1 x2 x3) : St u g H T (k_X9_launch N g H T S a0 x1 x2 x3) ∧ M5 g H S (k_X9_launch N g H T S a0 x1 x2 x3) := by
  exact k5b_X9_launch_0 (X := fun F => F = k_X9_launch N g H T S a0 x1 x2 x3) (fun S' h1 h2 h => by rw [← h]; exact ⟨h1, h2⟩) hS M5.rfl' t_x0 t_x3 ok rfl
set_option maxRecDepth 100000 in
set_option maxHeartbeats 4000000 in
theorem k5b_X9_post_40 {u g H T N : Nat} {S : cS} {S0 : cS} {R_ : Prop} {X : cS → Prop} (hR : ∀ S', St u g H T S' → M5 g H S0 S' → X S' → R_) (hS : St u g H T S) (hM : M5 g H S0 S) (ok : KO_X9_post_40 N g H T S) (hx : X (KF_X9_post_40 N g H T S)) : R_ := by
  unfold KO_X9_post_40 at ok
  unfold KF_X9_post_40 at hx
  exact hR _ hS hM hx
set_option maxRecDepth 100000 in
set_option maxHeartbeats 4000000 in
theorem k5b_X9_post_27 {u g H T N : Nat} {S : cS} {S0 : cS} {R_ : Prop} {X : cS → Prop} (hR : ∀ S', St u g H T S' → M5 g H S0 S' → X S' → R_) (hS : St u g H T S) (hM : M5 g H S0 S) (ok : KO_X9_post_27 N g H T S) (hx : X (KF_X9_post_27 N g H T S)) : R_ := by
  unfold KO_X9_post_27 at ok
  unfold KF_X9_post_27 at hx
  exact k5b_X9_post_40 hR hS hM  ok hx
set_option maxRecDepth 100000 in
set_option maxHeartbeats 4000000 in
theorem k5b_X9_post_0 {u g H T N : Nat} {S : cS} {S0 : cS} {R_ : Prop} {X : cS → Prop} (hR : ∀ S', St u g H T S' → M5 g H S0 S' → X S' → R_) {x0 : Nat} {x1 : Int32} {x2 : Int32} {x3 : Option Nat} (hS : St u g H T S) (hM : M5 g H S0 S) (t_x0 : isO g H 7 x0) (t_x3 : tK S 5 x3) (ok : KO_X9_post_0 N g H T x0 x1 x2 x3 S) (hx : X (KF_X9_post_0 N g H T x0 x1 x2 x3 S)) : R_ := by
  unfold KO_X9_post_0 at ok
  unfold KF_X9_post_0 at hx
  have hS := hS.I 11 x0 ((cI S 11 x0) + (nI 1))
  have hM := hM.I 11 x0 ((cI S 11 x0) + (nI 1))
  refine pif_p ok (fun c_17 => ?_) (fun c_17 => ?_)
  · have ok := ok.1 c_17
    have hx := xif_p c_17 hx
    have hS := hS.I 12 x0 ((cI (csI S 11 x0 ((cI S 11 x0) + (nI 1))) 12 x0) + (nI 1))
    have hM := hM.I 12 x0 ((cI (csI S 11 x0 ((cI S 11 x0) + (nI 1))) 12 x0) + (nI 1))
    exact k5b_X9_post_40 hR hS hM  ok hx
  · have ok := ok.2 c_17
    have hx := xif_n c_17 hx
    obtain ⟨hS, hm_24⟩ := k5c_X9_launch hS t_x0 (tK_I t_x3) ok.1
    have hM := hM.trans hm_24
    have ok := ok.2
    exact k5b_X9_post_27 hR hS hM  ok hx
set_option maxRecDepth 100000 in
set_option maxHeartbeats 4000000 in
theorem k5c_X9_post {u g H T N : Nat} {S : cS} {a0 : Nat} {x1 : Int32} {x2 : Int32} {x3 : Option Nat} (hS : St u g H T S) (t_x0 : isO g H 7 a0) (t_x3 : tK S 5 x3) (ok : p_X9_post N g H T S a0 x1 x2 x3) : St u g H T (k_X9_post N g H T S a0 x1 x2 x3) ∧ M5 g H S (k_X9_post N g H T S a0 x1 x2 x3) := by
  exact k5b_X9_post_0 (X := fun F => F = k_X9_post N g H T S a0 x1 x2 x3) (fun S' h1 h2 h => by rw [← h]; exact ⟨h1, h2⟩) hS M5.rfl' t_x0 t_x3 ok rfl
set_option maxRecDepth 100000 in
set_option maxHeartbeats 4000000 in
theorem k5b_X10_spread_48 {u g H T N : Nat} {S : cS} {S0 : cS} {R_ : Prop} {X : cS → Prop} (hR : ∀ S', St u g H T S' → M5 g H S0 S' → X S' → R_) (hS : St u g H T S) (hM : M5 g H S0 S) (ok : KO_X10_spread_48 N g H T S) (hx : X (KF_X10_spread_48 N g H T S)) : R_ := by
  unfold KO_X10_spread_48 at ok
  unfold KF_X10_spread_48 at hx
  exact hR _ hS hM hx
set_option maxRecDepth 100000 in
set_option maxHeartbeats 4000000 in
theorem k5b_X10_spread_42 {u g H T N : Nat} {S : cS} {S0 : cS} {R_ : Prop} {X : Nat × cS → Prop} (hX0 : ∀ (S' : cS), St u g H T S' → M5 g H S0 S' → X (0, S') → R_) {rec : Nat → Int32 → Option Nat → Int32 → Int32 → Int32 → cS → Nat × cS} {rok : Nat → Int32 → Option Nat → Int32 → Int32 → Int32 → cS → Prop} (hrec : ∀ (x0 : Nat) (x1 : Int32) (x2 : Option Nat) (x3 : Int32) (x4 : Int32) (x5 : Int32) (S : cS), St u g H T S → M5 g H S0 S → isO g H 8 x0 → tK S 5 x2 → rok x0 x1 x2 x3 x4 x5 S → X (rec x0 x1 x2 x3 x4 x5 S) → R_) {x0 : Nat} {x1 : Int32} {x2 : Option Nat} {x3 : Int32} {x4 : Int32} {x5 : Int32} (hS : St u g H T S) (hM : M5 g H S0 S) (t_x0 : isO g H 8 x0) (t_x2 : tK S 5 x2) (ok : KO_X10_spread_42 N g H T rok x0 x1 x2 x3 x4 x5 S) (hx : X (KF_X10_spread_42 N g H T rec x0 x1 x2 x3 x4 x5 S)) : R_ := by
  unfold KO_X10_spread_42 at ok
  unfold KF_X10_spread_42 at hx
  exact hrec _ _ _ _ _ _ S hS hM t_x0 t_x2 ok hx
set_option maxRecDepth 100000 in
set_option maxHeartbeats 4000000 in
theorem k5bb_X10_spread_3 {u g H T N : Nat} {S : cS} {S0 : cS} {R_ : Prop} {X : Nat × cS → Prop} (hX0 : ∀ (S' : cS), St u g H T S' → M5 g H S0 S' → X (0, S') → R_) {rec : Nat → Int32 → Option Nat → Int32 → Int32 → Int32 → cS → Nat × cS} {rok : Nat → Int32 → Option Nat → Int32 → Int32 → Int32 → cS → Prop} (hrec : ∀ (x0 : Nat) (x1 : Int32) (x2 : Option Nat) (x3 : Int32) (x4 : Int32) (x5 : Int32) (S : cS), St u g H T S → M5 g H S0 S → isO g H 8 x0 → tK S 5 x2 → rok x0 x1 x2 x3 x4 x5 S → X (rec x0 x1 x2 x3 x4 x5 S) → R_) {x0 : Nat} {x1 : Int32} {x2 : Option Nat} {x3 : Int32} {x4 : Int32} {x5 : Int32} (hS : St u g H T S) (hM : M5 g H S0 S) (t_x0 : isO g H 8 x0) (t_x2 : tK S 5 x2) (ok : KOB_X10_spread_3 N g H T rok x0 x1 x2 x3 x4 x5 S) (hx : X (KB_X10_spread_3 N g H T rec x0 x1 x2 x3 x4 x5 S)) : R_ := by
  unfold KOB_X10_spread_3 at ok
  unfold KB_X10_spread_3 at hx
  refine pif_p ok (fun c_9 => ?_) (fun c_9 => ?_)
  · have ok := ok.1 c_9
    have hx := xif_p c_9 hx
    exact hX0 S hS hM  hx
  · have ok := ok.2 c_9
    have hx := xif_n c_9 hx
    refine pif_p ok (fun c_15 => ?_) (fun c_15 => ?_)
    · have ok := ok.1 c_15
      have hx := xif_p c_15 hx
      exact k5b_X10_spread_42 hX0 hrec hS hM t_x0 t_x2 ok hx
    · have ok := ok.2 c_15
      have hx := xif_n c_15 hx
      refine pif_p ok (fun c_21 => ?_) (fun c_21 => ?_)
      · have ok := ok.1 c_21
        have hx := xif_p c_21 hx
        exact k5b_X10_spread_42 hX0 hrec hS hM t_x0 t_x2 ok hx
      · have ok := ok.2 c_21
        have hx := xif_n c_21 hx
        refine pif_p ok (fun c_28 => ?_) (fun c_28 => ?_)
        · have ok := ok.1 c_28
          have hx := xif_p c_28 hx
          exact k5b_X10_spread_42 hX0 hrec hS hM t_x0 t_x2 ok hx
        · have ok := ok.2 c_28
          have hx := xif_n c_28 hx
          obtain ⟨hS, hm_39⟩ := k5c_X9_post hS (o86 t_x0) t_x2 ok.1
          have hM := hM.trans hm_39
          have ok := ok.2
          exact k5b_X10_spread_42 hX0 hrec hS hM t_x0 (hm_39.tK t_x2 (by decide)) ok hx
set_option maxRecDepth 100000 in
set_option maxHeartbeats 4000000 in
theorem k5l_X10_spread_3 {u g H T N : Nat} {S0 : cS} {R_ : Prop} {X : Nat × cS → Prop} (hX0 : ∀ (S' : cS), St u g H T S' → M5 g H S0 S' → X (0, S') → R_) : ∀ (n : Nat) (x0 : Nat) (x1 : Int32) (x2 : Option Nat) (x3 : Int32) (x4 : Int32) (x5 : Int32) (S : cS), St u g H T S → M5 g H S0 S → isO g H 8 x0 → tK S 5 x2 → KOL_X10_spread_3 N g H T n x0 x1 x2 x3 x4 x5 S → X (KL_X10_spread_3 N g H T n x0 x1 x2 x3 x4 x5 S) → R_ := by
  intro n
  induction n with
  | zero => intro x0 x1 x2 x3 x4 x5 S hS hM t_x0 t_x2 ok; exact absurd ok id
  | succ n ih =>
    intro x0 x1 x2 x3 x4 x5 S hS hM t_x0 t_x2 ok hx
    exact k5bb_X10_spread_3 hX0 (rec := KL_X10_spread_3 N g H T n) (rok := KOL_X10_spread_3 N g H T n) (fun x0 x1 x2 x3 x4 x5 S hS hM t_x0 t_x2 ok hx => ih x0 x1 x2 x3 x4 x5 S hS hM t_x0 t_x2 ok hx) hS hM t_x0 t_x2 ok hx
set_option maxRecDepth 100000 in
set_option maxHeartbeats 4000000 in
theorem k5d_X10_spread_3 {u g H T N : Nat} {S : cS} {S0 : cS} {R_ : Prop} {X : cS → Prop} (hR : ∀ S', St u g H T S' → M5 g H S0 S' → X S' → R_) {x0 : Nat} {x1 : Int32} {x2 : Option Nat} {x3 : Int32} {x4 : Int32} {x5 : Int32} (hS : St u g H T S) (hM : M5 g H S0 S) (t_x0 : isO g H 8 x0) (t_x2 : tK S 5 x2) (ok : KOL_X10_spread_3 N g H T N x0 x1 x2 x3 x4 x5 S ∧ KOA_X10_spread_3 N g H T x0 x1 x2 x3 x4 x5 S (KL_X10_spread_3 N g H T N x0 x1 x2 x3 x4 x5 S)) (hx : X (KA_X10_spread_3 N g H T x0 x1 x2 x3 x4 x5 S (KL_X10_spread_3 N g H T N x0 x1 x2 x3 x4 x5 S))) : R_ := by
  refine k5l_X10_spread_3 ?_ N x0 x1 x2 x3 x4 x5 S hS hM t_x0 t_x2 ok.1 (X := fun z => KOA_X10_spread_3 N g H T x0 x1 x2 x3 x4 x5 S z ∧ X (KA_X10_spread_3 N g H T x0 x1 x2 x3 x4 x5 S z)) ⟨ok.2, hx⟩
  · intro S' hS hM hz
    obtain ⟨ok, hx⟩ := hz
    unfold KOA_X10_spread_3 at ok
    unfold KA_X10_spread_3 at hx
    exact k5b_X10_spread_48 hR hS hM  ok hx
set_option maxRecDepth 100000 in
set_option maxHeartbeats 4000000 in
theorem k5b_X10_spread_0 {u g H T N : Nat} {S : cS} {S0 : cS} {R_ : Prop} {X : cS → Prop} (hR : ∀ S', St u g H T S' → M5 g H S0 S' → X S' → R_) {x0 : Nat} {x1 : Int32} {x2 : Option Nat} {x3 : Int32} {x4 : Int32} (hS : St u g H T S) (hM : M5 g H S0 S) (t_x0 : isO g H 8 x0) (t_x2 : tK S 5 x2) (ok : KO_X10_spread_0 N g H T x0 x1 x2 x3 x4 S) (hx : X (KF_X10_spread_0 N g H T x0 x1 x2 x3 x4 S)) : R_ := by
  unfold KO_X10_spread_0 at ok
  unfold KF_X10_spread_0 at hx
  exact k5d_X10_spread_3 hR hS hM t_x0 t_x2 ok hx
set_option maxRecDepth 100000 in
set_option maxHeartbeats 4000000 in
theorem k5c_X10_spread {u g H T N : Nat} {S : cS} {a0 : Nat} {x1 : Int32} {x2 : Option Nat} {x3 : Int32} {x4 : Int32} (hS : St u g H T S) (t_x0 : isO g H 8 a0) (t_x2 : tK S 5 x2) (ok : p_X10_spread N g H T S a0 x1 x2 x3 x4) : St u g H T (k_X10_spread N g H T S a0 x1 x2 x3 x4) ∧ M5 g H S (k_X10_spread N g H T S a0 x1 x2 x3 x4) := by
  exact k5b_X10_spread_0 (X := fun F => F = k_X10_spread N g H T S a0 x1 x2 x3 x4) (fun S' h1 h2 h => by rw [← h]; exact ⟨h1, h2⟩) hS M5.rfl' t_x0 t_x2 ok rfl
set_option maxRecDepth 100000 in
set_option maxHeartbeats 4000000 in
theorem k5b_X3_takePayment_32 {u g H T N : Nat} {S : cS} {S0 : cS} {R_ : Prop} {X : cS → Prop} (hR : ∀ S', St u g H T S' → M5 g H S0 S' → X S' → R_) (hS : St u g H T S) (hM : M5 g H S0 S) (ok : KO_X3_takePayment_32 N g H T S) (hx : X (KF_X3_takePayment_32 N g H T S)) : R_ := by
  unfold KO_X3_takePayment_32 at ok
  unfold KF_X3_takePayment_32 at hx
  exact hR _ hS hM hx
set_option maxRecDepth 100000 in
set_option maxHeartbeats 4000000 in
theorem k5b_X3_takePayment_15 {u g H T N : Nat} {S : cS} {S0 : cS} {R_ : Prop} {X : cS → Prop} (hR : ∀ S', St u g H T S' → M5 g H S0 S' → X S' → R_) {x0 : Option Nat} {x1 : Int32} {x2 : Option Nat} {s0 : Int32} (hS : St u g H T S) (hM : M5 g H S0 S) (t_x0 : tN g H x0) (t_x2 : tK S 5 x2) (ok : KO_X3_takePayment_15 N g H T x0 x1 x2 s0 S) (hx : X (KF_X3_takePayment_15 N g H T x0 x1 x2 s0 S)) : R_ := by
  unfold KO_X3_takePayment_15 at ok
  unfold KF_X3_takePayment_15 at hx
  refine pif_p ok (fun c_15 => ?_) (fun c_15 => ?_)
  · have ok := ok.1 c_15
    have hx := xif_p c_15 hx
    exact k5b_X3_takePayment_32 hR hS hM  ok hx
  · have ok := ok.2 c_15
    have hx := xif_n c_15 hx
    have nn_19 := ok.1
    have ok := ok.2
    obtain ⟨hS, hm_29⟩ := k5c_X10_spread hS (o50 (tN.o t_x0 nn_19)) t_x2 ok.1
    have hM := hM.trans hm_29
    have ok := ok.2
    exact k5b_X3_takePayment_32 hR hS hM  ok hx
set_option maxRecDepth 100000 in
set_option maxHeartbeats 4000000 in
theorem k5b_X3_takePayment_0 {u g H T N : Nat} {S : cS} {S0 : cS} {R_ : Prop} {X : cS → Prop} (hR : ∀ S', St u g H T S' → M5 g H S0 S' → X S' → R_) {x0 : Option Nat} {x1 : Int32} {x2 : Option Nat} (hS : St u g H T S) (hM : M5 g H S0 S) (t_x0 : tN g H x0) (t_x2 : tK S 5 x2) (ok : KO_X3_takePayment_0 N g H T x0 x1 x2 S) (hx : X (KF_X3_takePayment_0 N g H T x0 x1 x2 S)) : R_ := by
  unfold KO_X3_takePayment_0 at ok
  unfold KF_X3_takePayment_0 at hx
  have nn_1 := ok.1
  have ok := ok.2
  have nn_5 := ok.1
  have p_5 := hS.m0k t_x2 ok.1
  have ok := ok.2
  have ok := ok.2
  obtain ⟨hS, hm_12⟩ := k5c_X8_addPayment hS (o53 (tN.o t_x0 nn_1)) ok.1
  have hM := hM.trans hm_12
  have ok := ok.2
  exact k5b_X3_takePayment_15 hR hS hM t_x0 (hm_12.tK t_x2 (by decide)) ok hx
set_option maxRecDepth 100000 in
set_option maxHeartbeats 4000000 in
theorem k5c_X3_takePayment {u g H T N : Nat} {S : cS} {x0 : Option Nat} {x1 : Int32} {x2 : Option Nat} (hS : St u g H T S) (t_x0 : tN g H x0) (t_x2 : tK S 5 x2) (ok : p_X3_takePayment N g H T S x0 x1 x2) : St u g H T (k_X3_takePayment N g H T S x0 x1 x2) ∧ M5 g H S (k_X3_takePayment N g H T S x0 x1 x2) := by
  exact k5b_X3_takePayment_0 (X := fun F => F = k_X3_takePayment N g H T S x0 x1 x2) (fun S' h1 h2 h => by rw [← h]; exact ⟨h1, h2⟩) hS M5.rfl' t_x0 t_x2 ok rfl
set_option maxRecDepth 100000 in
set_option maxHeartbeats 4000000 in
theorem k5b_X8_addProof_41 {u g H T N : Nat} {S : cS} {S0 : cS} {R_ : Prop} {X : Int32 × cS → Prop} (hR : ∀ v S', St u g H T S' → M5 g H S0 S' → X (v, S') → R_) {x0 : Nat} (hS : St u g H T S) (hM : M5 g H S0 S) (t_x0 : isO g H 6 x0) (ok : KO_X8_addProof_41 N g H T x0 S) (hx : X (KF_X8_addProof_41 N g H T x0 S)) : R_ := by
  unfold KO_X8_addProof_41 at ok
  unfold KF_X8_addProof_41 at hx
  have hS := hS.I 13 x0 ((cI S 13 x0) + (nI 1))
  have hM := hM.I 13 x0 ((cI S 13 x0) + (nI 1))
  exact hR _ _ hS hM hx
set_option maxRecDepth 100000 in
set_option maxHeartbeats 4000000 in
theorem k5b_X8_addProof_22 {u g H T N : Nat} {S : cS} {S0 : cS} {R_ : Prop} {X : Int32 × cS → Prop} (hR : ∀ v S', St u g H T S' → M5 g H S0 S' → X (v, S') → R_) (hS : St u g H T S) (hM : M5 g H S0 S) (ok : KO_X8_addProof_22 N g H T S) (hx : X (KF_X8_addProof_22 N g H T S)) : R_ := by
  unfold KO_X8_addProof_22 at ok
  unfold KF_X8_addProof_22 at hx
  exact hR _ _ hS hM hx
set_option maxRecDepth 100000 in
set_option maxHeartbeats 4000000 in
theorem k5b_X8_addProof_0 {u g H T N : Nat} {S : cS} {S0 : cS} {R_ : Prop} {X : Int32 × cS → Prop} (hR : ∀ v S', St u g H T S' → M5 g H S0 S' → X (v, S') → R_) {x0 : Nat} {x1 : Option Nat} (hS : St u g H T S) (hM : M5 g H S0 S) (t_x0 : isO g H 6 x0) (t_x1 : tK S 5 x1) (ok : KO_X8_addProof_0 N g H T x0 x1 S) (hx : X (KF_X8_addProof_0 N g H T x0 x1 S)) : R_ := by
  unfold KO_X8_addProof_0 at ok
  unfold KF_X8_addProof_0 at hx
  have nn_1 := ok.1.1
  have ok := ok.2
  refine pif_p ok (fun c_10 => ?_) (fun c_10 => ?_)
  · have ok := ok.1 c_10
    have hx := xif_p c_10 hx
    exact k5b_X8_addProof_22 hR hS hM  ok hx
  · have ok := ok.2 c_10
    have hx := xif_n c_10 hx
    have p_18 := hS.row24 (hS.rk (c := 6) (k := 9) t_x0 rfl (by omega)) (k_X5_signer N g H T S (za x1)).toNatClampNeg
    have ok := ok.2
    refine pif_p ok (fun c_19 => ?_) (fun c_19 => ?_)
    · have ok := ok.1 c_19
      have hx := xif_p c_19 hx
      have hS2 := hS.P24 (i := (k_X5_signer N g H T S (za x1)).toNatClampNeg) ((hS.rk (c := 6) (k := 9) t_x0 rfl (by omega)) _ rfl) t_x1
      have hS := hS2
      have hM := hM.P (x0 + 9) (k_X5_signer N g H T S (za x1)).toNatClampNeg x1
      have ok := ok.2
      have hS := hS.I 3 (za x1) ((cI (csP S (x0 + 9) (k_X5_signer N g H T S (za x1)).toNatClampNeg x1) 3 (za x1)) + (nI 1))
      have hM := hM.I 3 (za x1) ((cI (csP S (x0 + 9) (k_X5_signer N g H T S (za x1)).toNatClampNeg x1) 3 (za x1)) + (nI 1))
      exact k5b_X8_addProof_41 hR hS hM t_x0 ok hx
    · have ok := ok.2 c_19
      have hx := xif_n c_19 hx
      exact k5b_X8_addProof_22 hR hS hM  ok hx
set_option maxRecDepth 100000 in
set_option maxHeartbeats 4000000 in
theorem k5c_X8_addProof {u g H T N : Nat} {S : cS} {a0 : Nat} {x1 : Option Nat} (hS : St u g H T S) (t_x0 : isO g H 6 a0) (t_x1 : tK S 5 x1) (ok : p_X8_addProof N g H T S a0 x1) : St u g H T (k_X8_addProof N g H T S a0 x1).2 ∧ M5 g H S (k_X8_addProof N g H T S a0 x1).2 := by
  exact k5b_X8_addProof_0 (X := fun F => F = k_X8_addProof N g H T S a0 x1) (fun v S' h1 h2 h => by rw [← h]; exact ⟨h1, h2⟩) hS M5.rfl' t_x0 t_x1 ok rfl

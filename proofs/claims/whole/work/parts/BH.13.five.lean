set_option maxRecDepth 100000 in
set_option maxHeartbeats 4000000 in
theorem k5b_X6_fall_54 {u g H T N : Nat} {S : cS} {S0 : cS} {R_ : Prop} {X : cS → Prop} (hR : ∀ S', St u g H T S' → M5 g H S0 S' → X S' → R_) {x0 : Option Nat} (hS : St u g H T S) (hM : M5 g H S0 S) (t_x0 : tN g H x0) (ok : KO_X6_fall_54 N g H T x0 S) (hx : X (KF_X6_fall_54 N g H T x0 S)) : R_ := by
  unfold KO_X6_fall_54 at ok
  unfold KF_X6_fall_54 at hx
  have nn_55 := ok.1
  have ok := ok.2
  obtain ⟨hS, hm_58⟩ := k5c_X8_clearRest hS (o53 (tN.o t_x0 nn_55)) ok.1
  have hM := hM.trans hm_58
  have ok := ok.2
  exact hR _ hS hM hx
set_option maxRecDepth 100000 in
set_option maxHeartbeats 4000000 in
theorem k5b_X6_fall_47 {u g H T N : Nat} {S : cS} {S0 : cS} {R_ : Prop} {X : cS → Prop} (hR : ∀ S', St u g H T S' → M5 g H S0 S' → X S' → R_) {x0 : Option Nat} (hS : St u g H T S) (hM : M5 g H S0 S) (t_x0 : tN g H x0) (ok : KO_X6_fall_47 N g H T x0 S) (hx : X (KF_X6_fall_47 N g H T x0 S)) : R_ := by
  unfold KO_X6_fall_47 at ok
  unfold KF_X6_fall_47 at hx
  have nn_48 := ok.1
  have ok := ok.2
  obtain ⟨hS, hm_51⟩ := k5c_X8_clearDecided hS (o53 (tN.o t_x0 nn_48)) ok.1
  have hM := hM.trans hm_51
  have ok := ok.2
  exact k5b_X6_fall_54 hR hS hM t_x0 ok hx
set_option maxRecDepth 100000 in
set_option maxHeartbeats 4000000 in
theorem k5b_X6_fall_33 {u g H T N : Nat} {S : cS} {S0 : cS} {R_ : Prop} {X : cS → Prop} (hR : ∀ S', St u g H T S' → M5 g H S0 S' → X S' → R_) {x0 : Option Nat} (hS : St u g H T S) (hM : M5 g H S0 S) (t_x0 : tN g H x0) (ok : KO_X6_fall_33 N g H T x0 S) (hx : X (KF_X6_fall_33 N g H T x0 S)) : R_ := by
  unfold KO_X6_fall_33 at ok
  unfold KF_X6_fall_33 at hx
  have nn_34 := ok.1
  have ok := ok.2
  obtain ⟨hS, hm_44⟩ := k5c_X8_clear hS (o53 (tN.o t_x0 nn_34)) ok.1
  have hM := hM.trans hm_44
  have ok := ok.2
  exact k5b_X6_fall_47 hR hS hM t_x0 ok hx
set_option maxRecDepth 100000 in
set_option maxHeartbeats 4000000 in
theorem k5b_X6_fall_18 {u g H T N : Nat} {S : cS} {S0 : cS} {R_ : Prop} {X : cS → Prop} (hR : ∀ S', St u g H T S' → M5 g H S0 S' → X S' → R_) {x0 : Option Nat} (hS : St u g H T S) (hM : M5 g H S0 S) (t_x0 : tN g H x0) (ok : KO_X6_fall_18 N g H T x0 S) (hx : X (KF_X6_fall_18 N g H T x0 S)) : R_ := by
  unfold KO_X6_fall_18 at ok
  unfold KF_X6_fall_18 at hx
  have nn_19 := ok.1
  have ok := ok.2
  obtain ⟨hS, hm_30⟩ := k5c_X8_clear hS (o53 (tN.o t_x0 nn_19)) ok.1
  have hM := hM.trans hm_30
  have ok := ok.2
  exact k5b_X6_fall_33 hR hS hM t_x0 ok hx
set_option maxRecDepth 100000 in
set_option maxHeartbeats 4000000 in
theorem k5b_X6_fall_10 {u g H T N : Nat} {S : cS} {S0 : cS} {R_ : Prop} {X : cS → Prop} (hR : ∀ S', St u g H T S' → M5 g H S0 S' → X S' → R_) {x0 : Option Nat} (hS : St u g H T S) (hM : M5 g H S0 S) (t_x0 : tN g H x0) (ok : KO_X6_fall_10 N g H T x0 S) (hx : X (KF_X6_fall_10 N g H T x0 S)) : R_ := by
  unfold KO_X6_fall_10 at ok
  unfold KF_X6_fall_10 at hx
  have nn_11 := ok.1
  have ok := ok.2
  obtain ⟨hS, hm_15⟩ := k5c_J7_fill_53178 hS (hS.rk (c := 5) (k := 6) (tN.o t_x0 nn_11) rfl (by omega)) ok.1
  have hM := hM.trans hm_15
  have ok := ok.2
  exact k5b_X6_fall_18 hR hS hM t_x0 ok hx
set_option maxRecDepth 100000 in
set_option maxHeartbeats 4000000 in
theorem k5b_X6_fall_0 {u g H T N : Nat} {S : cS} {S0 : cS} {R_ : Prop} {X : cS → Prop} (hR : ∀ S', St u g H T S' → M5 g H S0 S' → X S' → R_) {x0 : Option Nat} (hS : St u g H T S) (hM : M5 g H S0 S) (t_x0 : tN g H x0) (ok : KO_X6_fall_0 N g H T x0 S) (hx : X (KF_X6_fall_0 N g H T x0 S)) : R_ := by
  unfold KO_X6_fall_0 at ok
  unfold KF_X6_fall_0 at hx
  have nn_2 := ok.1
  have hS := hS.I 8 (za x0) (nI 0)
  have hM := hM.I 8 (za x0) (nI 0)
  have ok := ok.2
  have hS := hS.I 18 (za x0) (-1)
  have hM := hM.I 18 (za x0) (-1)
  exact k5b_X6_fall_10 hR hS hM t_x0 ok hx
set_option maxRecDepth 100000 in
set_option maxHeartbeats 4000000 in
theorem k5c_X6_fall {u g H T N : Nat} {S : cS} {a0 : Nat} (hS : St u g H T S) (t_x0 : isO g H 5 a0) (ok : p_X6_fall N g H T S a0) : St u g H T (k_X6_fall N g H T S a0) ∧ M5 g H S (k_X6_fall N g H T S a0) := by
  exact k5b_X6_fall_0 (X := fun F => F = k_X6_fall N g H T S a0) (fun S' h1 h2 h => by rw [← h]; exact ⟨h1, h2⟩) hS M5.rfl' (tN_some t_x0) ok rfl
set_option maxRecDepth 100000 in
set_option maxHeartbeats 4000000 in
theorem k5b_X6_wake_52 {u g H T N : Nat} {S : cS} {S0 : cS} {R_ : Prop} {X : cS → Prop} (hR : ∀ S', St u g H T S' → M5 g H S0 S' → X S' → R_) {x0 : Option Nat} {x1 : Option Nat} (hS : St u g H T S) (hM : M5 g H S0 S) (t_x0 : tN g H x0) (t_x1 : tK S 5 x1) (ok : KO_X6_wake_52 N g H T x0 x1 S) (hx : X (KF_X6_wake_52 N g H T x0 x1 S)) : R_ := by
  unfold KO_X6_wake_52 at ok
  unfold KF_X6_wake_52 at hx
  have nn_53 := ok.1
  have ok := ok.2
  obtain ⟨hS, hm_60⟩ := k5c_X9_drop hS (o86 (o50 (tN.o t_x0 nn_53))) t_x1 ok.1
  have hM := hM.trans hm_60
  have ok := ok.2
  exact hR _ hS hM hx
set_option maxRecDepth 100000 in
set_option maxHeartbeats 4000000 in
theorem k5b_X6_wake_31 {u g H T N : Nat} {S : cS} {S0 : cS} {R_ : Prop} {X : cS → Prop} (hR : ∀ S', St u g H T S' → M5 g H S0 S' → X S' → R_) {x0 : Option Nat} {s0 : Option Nat} (hS : St u g H T S) (hM : M5 g H S0 S) (t_x0 : tN g H x0) (t_s0 : tK S 5 s0) (ok : KO_X6_wake_31 N g H T x0 s0 S) (hx : X (KF_X6_wake_31 N g H T x0 s0 S)) : R_ := by
  unfold KO_X6_wake_31 at ok
  unfold KF_X6_wake_31 at hx
  have nn_33 := ok.1
  have ok := ok.2
  obtain ⟨hS, hm_49⟩ := k5c_X10_spread hS (o50 (tN.o t_x0 nn_33)) t_s0 ok.1
  have hM := hM.trans hm_49
  have ok := ok.2
  exact k5b_X6_wake_52 hR hS hM t_x0 (hm_49.tK t_s0 (by decide)) ok hx
set_option maxRecDepth 100000 in
set_option maxHeartbeats 4000000 in
theorem k5b_X6_wake_27 {u g H T N : Nat} {S : cS} {S0 : cS} {R_ : Prop} {X : cS → Prop} (hR : ∀ S', St u g H T S' → M5 g H S0 S' → X S' → R_) {x0 : Option Nat} (hS : St u g H T S) (hM : M5 g H S0 S) (t_x0 : tN g H x0) (ok : KO_X6_wake_27 N g H T x0 S) (hx : X (KF_X6_wake_27 N g H T x0 S)) : R_ := by
  unfold KO_X6_wake_27 at ok
  unfold KF_X6_wake_27 at hx
  have nn_28 := ok.1.1
  obtain ⟨hS, hm_28, tv_28⟩ := k5c_X6_ask hS (tN.o t_x0 nn_28) ok.1.2
  have hM := hM.trans hm_28
  have ok := ok.2
  exact k5b_X6_wake_31 hR hS hM t_x0 tv_28 ok hx
set_option maxRecDepth 100000 in
set_option maxHeartbeats 4000000 in
theorem k5b_X6_wake_10 {u g H T N : Nat} {S : cS} {S0 : cS} {R_ : Prop} {X : cS → Prop} (hR : ∀ S', St u g H T S' → M5 g H S0 S' → X S' → R_) {x0 : Option Nat} (hS : St u g H T S) (hM : M5 g H S0 S) (t_x0 : tN g H x0) (ok : KO_X6_wake_10 N g H T x0 S) (hx : X (KF_X6_wake_10 N g H T x0 S)) : R_ := by
  unfold KO_X6_wake_10 at ok
  unfold KF_X6_wake_10 at hx
  have nn_11 := ok.1
  have ok := ok.2
  refine pif_p ok (fun c_16 => ?_) (fun c_16 => ?_)
  · have ok := ok.1 c_16
    have hx := xif_p c_16 hx
    exact k5b_X6_wake_27 hR hS hM t_x0 ok hx
  · have ok := ok.2 c_16
    have hx := xif_n c_16 hx
    obtain ⟨hS, hm_24⟩ := k5c_X6_setTimer hS (tN.o t_x0 nn_11) ok.1
    have hM := hM.trans hm_24
    have ok := ok.2
    exact k5b_X6_wake_27 hR hS hM t_x0 ok hx
set_option maxRecDepth 100000 in
set_option maxHeartbeats 4000000 in
theorem k5b_X6_wake_0 {u g H T N : Nat} {S : cS} {S0 : cS} {R_ : Prop} {X : cS → Prop} (hR : ∀ S', St u g H T S' → M5 g H S0 S' → X S' → R_) {x0 : Option Nat} (hS : St u g H T S) (hM : M5 g H S0 S) (t_x0 : tN g H x0) (ok : KO_X6_wake_0 N g H T x0 S) (hx : X (KF_X6_wake_0 N g H T x0 S)) : R_ := by
  unfold KO_X6_wake_0 at ok
  unfold KF_X6_wake_0 at hx
  have nn_2 := ok.1
  have hS := hS.I 8 (za x0) (nI 1)
  have hM := hM.I 8 (za x0) (nI 1)
  have ok := ok.2
  have hS := hS.I 16 (za x0) (nI 0)
  have hM := hM.I 16 (za x0) (nI 0)
  exact k5b_X6_wake_10 hR hS hM t_x0 ok hx
set_option maxRecDepth 100000 in
set_option maxHeartbeats 4000000 in
theorem k5c_X6_wake {u g H T N : Nat} {S : cS} {a0 : Nat} (hS : St u g H T S) (t_x0 : isO g H 5 a0) (ok : p_X6_wake N g H T S a0) : St u g H T (k_X6_wake N g H T S a0) ∧ M5 g H S (k_X6_wake N g H T S a0) := by
  exact k5b_X6_wake_0 (X := fun F => F = k_X6_wake N g H T S a0) (fun S' h1 h2 h => by rw [← h]; exact ⟨h1, h2⟩) hS M5.rfl' (tN_some t_x0) ok rfl
set_option maxRecDepth 100000 in
set_option maxHeartbeats 4000000 in
theorem k5b_X6_setLocked_28 {u g H T N : Nat} {S : cS} {S0 : cS} {R_ : Prop} {X : cS → Prop} (hR : ∀ S', St u g H T S' → M5 g H S0 S' → X S' → R_) {x0 : Option Nat} {x1 : Option Nat} {x2 : Int32} (hS : St u g H T S) (hM : M5 g H S0 S) (t_x0 : tN g H x0) (t_x1 : tK S 5 x1) (ok : KO_X6_setLocked_28 N g H T x0 x1 x2 S) (hx : X (KF_X6_setLocked_28 N g H T x0 x1 x2 S)) : R_ := by
  unfold KO_X6_setLocked_28 at ok
  unfold KF_X6_setLocked_28 at hx
  have nn_30 := ok.1
  have hS := hS.R5 (tN.o t_x0 nn_30) (k := 14) (by decide) t_x1
  have hM := hM.R 14 (za x0) x1
  have ok := ok.2
  have hS := hS.I 12 (za x0) x2
  have hM := hM.I 12 (za x0) x2
  exact hR _ hS hM hx
set_option maxRecDepth 100000 in
set_option maxHeartbeats 4000000 in
theorem k5b_X6_setLocked_14 {u g H T N : Nat} {S : cS} {S0 : cS} {R_ : Prop} {X : cS → Prop} (hR : ∀ S', St u g H T S' → M5 g H S0 S' → X S' → R_) {x0 : Option Nat} {x1 : Option Nat} {x2 : Int32} (hS : St u g H T S) (hM : M5 g H S0 S) (t_x0 : tN g H x0) (t_x1 : tK S 5 x1) (ok : KO_X6_setLocked_14 N g H T x0 x1 x2 S) (hx : X (KF_X6_setLocked_14 N g H T x0 x1 x2 S)) : R_ := by
  unfold KO_X6_setLocked_14 at ok
  unfold KF_X6_setLocked_14 at hx
  have nn_15 := ok.1
  have ok := ok.2
  have p_22 := hS.lk (tN.o t_x0 nn_15) (Or.inl rfl)
  obtain ⟨hS, hm_25⟩ := k5c_X9_drop hS (o86 (o50 (tN.o t_x0 nn_15))) p_22 ok.1
  have hM := hM.trans hm_25
  have ok := ok.2
  exact k5b_X6_setLocked_28 hR hS hM t_x0 (hm_25.tK t_x1 (by decide)) ok hx
set_option maxRecDepth 100000 in
set_option maxHeartbeats 4000000 in
theorem k5b_X6_setLocked_0 {u g H T N : Nat} {S : cS} {S0 : cS} {R_ : Prop} {X : cS → Prop} (hR : ∀ S', St u g H T S' → M5 g H S0 S' → X S' → R_) {x0 : Option Nat} {x1 : Option Nat} {x2 : Int32} (hS : St u g H T S) (hM : M5 g H S0 S) (t_x0 : tN g H x0) (t_x1 : tK S 5 x1) (ok : KO_X6_setLocked_0 N g H T x0 x1 x2 S) (hx : X (KF_X6_setLocked_0 N g H T x0 x1 x2 S)) : R_ := by
  unfold KO_X6_setLocked_0 at ok
  unfold KF_X6_setLocked_0 at hx
  refine pif_p ok (fun c_1 => ?_) (fun c_1 => ?_)
  · have ok := ok.1 c_1
    have hx := xif_p c_1 hx
    exact k5b_X6_setLocked_14 hR hS hM t_x0 t_x1 ok hx
  · have ok := ok.2 c_1
    have hx := xif_n c_1 hx
    have hS := hS.I 3 (za x1) ((cI S 3 (za x1)) + (nI 1))
    have hM := hM.I 3 (za x1) ((cI S 3 (za x1)) + (nI 1))
    exact k5b_X6_setLocked_14 hR hS hM t_x0 (tK_I t_x1) ok hx
set_option maxRecDepth 100000 in
set_option maxHeartbeats 4000000 in
theorem k5c_X6_setLocked {u g H T N : Nat} {S : cS} {a0 : Nat} {x1 : Option Nat} {x2 : Int32} (hS : St u g H T S) (t_x0 : isO g H 5 a0) (t_x1 : tK S 5 x1) (ok : p_X6_setLocked N g H T S a0 x1 x2) : St u g H T (k_X6_setLocked N g H T S a0 x1 x2) ∧ M5 g H S (k_X6_setLocked N g H T S a0 x1 x2) := by
  exact k5b_X6_setLocked_0 (X := fun F => F = k_X6_setLocked N g H T S a0 x1 x2) (fun S' h1 h2 h => by rw [← h]; exact ⟨h1, h2⟩) hS M5.rfl' (tN_some t_x0) t_x1 ok rfl
set_option maxRecDepth 100000 in
set_option maxHeartbeats 4000000 in
theorem k5b_X6_setValid_28 {u g H T N : Nat} {S : cS} {S0 : cS} {R_ : Prop} {X : cS → Prop} (hR : ∀ S', St u g H T S' → M5 g H S0 S' → X S' → R_) {x0 : Option Nat} {x1 : Option Nat} {x2 : Int32} (hS : St u g H T S) (hM : M5 g H S0 S) (t_x0 : tN g H x0) (t_x1 : tK S 5 x1) (ok : KO_X6_setValid_28 N g H T x0 x1 x2 S) (hx : X (KF_X6_setValid_28 N g H T x0 x1 x2 S)) : R_ := by
  unfold KO_X6_setValid_28 at ok
  unfold KF_X6_setValid_28 at hx
  have nn_30 := ok.1
  have hS := hS.R5 (tN.o t_x0 nn_30) (k := 15) (by decide) t_x1
  have hM := hM.R 15 (za x0) x1
  have ok := ok.2
  have hS := hS.I 13 (za x0) x2
  have hM := hM.I 13 (za x0) x2
  exact hR _ hS hM hx
set_option maxRecDepth 100000 in
set_option maxHeartbeats 4000000 in
theorem k5b_X6_setValid_14 {u g H T N : Nat} {S : cS} {S0 : cS} {R_ : Prop} {X : cS → Prop} (hR : ∀ S', St u g H T S' → M5 g H S0 S' → X S' → R_) {x0 : Option Nat} {x1 : Option Nat} {x2 : Int32} (hS : St u g H T S) (hM : M5 g H S0 S) (t_x0 : tN g H x0) (t_x1 : tK S 5 x1) (ok : KO_X6_setValid_14 N g H T x0 x1 x2 S) (hx : X (KF_X6_setValid_14 N g H T x0 x1 x2 S)) : R_ := by
  unfold KO_X6_setValid_14 at ok
  unfold KF_X6_setValid_14 at hx
  have nn_15 := ok.1
  have ok := ok.2
  have p_22 := hS.lk (tN.o t_x0 nn_15) (Or.inr rfl)
  obtain ⟨hS, hm_25⟩ := k5c_X9_drop hS (o86 (o50 (tN.o t_x0 nn_15))) p_22 ok.1
  have hM := hM.trans hm_25
  have ok := ok.2
  exact k5b_X6_setValid_28 hR hS hM t_x0 (hm_25.tK t_x1 (by decide)) ok hx
set_option maxRecDepth 100000 in
set_option maxHeartbeats 4000000 in
theorem k5b_X6_setValid_0 {u g H T N : Nat} {S : cS} {S0 : cS} {R_ : Prop} {X : cS → Prop} (hR : ∀ S', St u g H T S' → M5 g H S0 S' → X S' → R_) {x0 : Option Nat} {x1 : Option Nat} {x2 : Int32} (hS : St u g H T S) (hM : M5 g H S0 S) (t_x0 : tN g H x0) (t_x1 : tK S 5 x1) (ok : KO_X6_setValid_0 N g H T x0 x1 x2 S) (hx : X (KF_X6_setValid_0 N g H T x0 x1 x2 S)) : R_ := by
  unfold KO_X6_setValid_0 at ok
  unfold KF_X6_setValid_0 at hx
  refine pif_p ok (fun c_1 => ?_) (fun c_1 => ?_)
  · have ok := ok.1 c_1
    have hx := xif_p c_1 hx
    exact k5b_X6_setValid_14 hR hS hM t_x0 t_x1 ok hx
  · have ok := ok.2 c_1
    have hx := xif_n c_1 hx
    have hS := hS.I 3 (za x1) ((cI S 3 (za x1)) + (nI 1))
    have hM := hM.I 3 (za x1) ((cI S 3 (za x1)) + (nI 1))
    exact k5b_X6_setValid_14 hR hS hM t_x0 (tK_I t_x1) ok hx
set_option maxRecDepth 100000 in
set_option maxHeartbeats 4000000 in
theorem k5c_X6_setValid {u g H T N : Nat} {S : cS} {a0 : Nat} {x1 : Option Nat} {x2 : Int32} (hS : St u g H T S) (t_x0 : isO g H 5 a0) (t_x1 : tK S 5 x1) (ok : p_X6_setValid N g H T S a0 x1 x2) : St u g H T (k_X6_setValid N g H T S a0 x1 x2) ∧ M5 g H S (k_X6_setValid N g H T S a0 x1 x2) := by
  exact k5b_X6_setValid_0 (X := fun F => F = k_X6_setValid N g H T S a0 x1 x2) (fun S' h1 h2 h => by rw [← h]; exact ⟨h1, h2⟩) hS M5.rfl' (tN_some t_x0) t_x1 ok rfl
set_option maxRecDepth 100000 in
set_option maxHeartbeats 4000000 in
theorem k5b_X6_enter_108 {u g H T N : Nat} {S : cS} {S0 : cS} {R_ : Prop} {X : cS → Prop} (hR : ∀ S', St u g H T S' → M5 g H S0 S' → X S' → R_) {s0 : Option Nat} {s1 : Int32} (hS : St u g H T S) (hM : M5 g H S0 S) (t_s0 : tN g H s0) (ok : KO_X6_enter_108 N g H T s0 s1 S) (hx : X (KF_X6_enter_108 N g H T s0 s1 S)) : R_ := by
  unfold KO_X6_enter_108 at ok
  unfold KF_X6_enter_108 at hx
  have nn_108 := ok.1
  have hS := hS.I 18 (za s0) s1
  have hM := hM.I 18 (za s0) s1
  have ok := ok.2
  exact hR _ hS hM hx
set_option maxRecDepth 100000 in
set_option maxHeartbeats 4000000 in
theorem k5b_X6_enter_96 {u g H T N : Nat} {S : cS} {S0 : cS} {R_ : Prop} {X : cS → Prop} (hR : ∀ S', St u g H T S' → M5 g H S0 S' → X S' → R_) {x0 : Option Nat} {x1 : Int32} (hS : St u g H T S) (hM : M5 g H S0 S) (t_x0 : tN g H x0) (ok : KO_X6_enter_96 N g H T x0 x1 S) (hx : X (KF_X6_enter_96 N g H T x0 x1 S)) : R_ := by
  unfold KO_X6_enter_96 at ok
  unfold KF_X6_enter_96 at hx
  refine pif_p ok (fun c_100 => ?_) (fun c_100 => ?_)
  · have ok := ok.1 c_100
    have hx := xif_p c_100 hx
    exact k5b_X6_enter_108 hR hS hM t_x0 ok hx
  · have ok := ok.2 c_100
    have hx := xif_n c_100 hx
    exact k5b_X6_enter_108 hR hS hM t_x0 ok hx
set_option maxRecDepth 100000 in
set_option maxHeartbeats 4000000 in
theorem k5b_X6_enter_83 {u g H T N : Nat} {S : cS} {S0 : cS} {R_ : Prop} {X : cS → Prop} (hR : ∀ S', St u g H T S' → M5 g H S0 S' → X S' → R_) {x0 : Option Nat} {x1 : Int32} (hS : St u g H T S) (hM : M5 g H S0 S) (t_x0 : tN g H x0) (ok : KO_X6_enter_83 N g H T x0 x1 S) (hx : X (KF_X6_enter_83 N g H T x0 x1 S)) : R_ := by
  unfold KO_X6_enter_83 at ok
  unfold KF_X6_enter_83 at hx
  have nn_85 := ok.1
  have hS := hS.I 17 (za x0) (nI 0)
  have hM := hM.I 17 (za x0) (nI 0)
  have ok := ok.2
  have hS := hS.I 6 ((za x0) + 1) (nI 0)
  have hM := hM.I 6 ((za x0) + 1) (nI 0)
  exact k5b_X6_enter_96 hR hS hM t_x0 ok hx
set_option maxRecDepth 100000 in
set_option maxHeartbeats 4000000 in
theorem k5b_X6_enter_73 {u g H T N : Nat} {S : cS} {S0 : cS} {R_ : Prop} {X : cS → Prop} (hR : ∀ S', St u g H T S' → M5 g H S0 S' → X S' → R_) {x0 : Option Nat} {x1 : Int32} (hS : St u g H T S) (hM : M5 g H S0 S) (t_x0 : tN g H x0) (ok : KO_X6_enter_73 N g H T x0 x1 S) (hx : X (KF_X6_enter_73 N g H T x0 x1 S)) : R_ := by
  unfold KO_X6_enter_73 at ok
  unfold KF_X6_enter_73 at hx
  have nn_75 := ok.1
  have hS := hS.I 11 (za x0) (nI 0)
  have hM := hM.I 11 (za x0) (nI 0)
  have ok := ok.2
  have hS := hS.I 16 (za x0) (nI 0)
  have hM := hM.I 16 (za x0) (nI 0)
  exact k5b_X6_enter_83 hR hS hM t_x0 ok hx
set_option maxRecDepth 100000 in
set_option maxHeartbeats 4000000 in
theorem k5b_X6_enter_63 {u g H T N : Nat} {S : cS} {S0 : cS} {R_ : Prop} {X : cS → Prop} (hR : ∀ S', St u g H T S' → M5 g H S0 S' → X S' → R_) {x0 : Option Nat} {x1 : Int32} (hS : St u g H T S) (hM : M5 g H S0 S) (t_x0 : tN g H x0) (ok : KO_X6_enter_63 N g H T x0 x1 S) (hx : X (KF_X6_enter_63 N g H T x0 x1 S)) : R_ := by
  unfold KO_X6_enter_63 at ok
  unfold KF_X6_enter_63 at hx
  have nn_65 := ok.1
  have hS := hS.I 9 (za x0) x1
  have hM := hM.I 9 (za x0) x1
  have ok := ok.2
  have hS := hS.I 10 (za x0) (nI 0)
  have hM := hM.I 10 (za x0) (nI 0)
  exact k5b_X6_enter_73 hR hS hM t_x0 ok hx
set_option maxRecDepth 100000 in
set_option maxHeartbeats 4000000 in
theorem k5b_X6_enter_55 {u g H T N : Nat} {S : cS} {S0 : cS} {R_ : Prop} {X : cS → Prop} (hR : ∀ S', St u g H T S' → M5 g H S0 S' → X S' → R_) {x0 : Option Nat} {x1 : Int32} (hS : St u g H T S) (hM : M5 g H S0 S) (t_x0 : tN g H x0) (ok : KO_X6_enter_55 N g H T x0 x1 S) (hx : X (KF_X6_enter_55 N g H T x0 x1 S)) : R_ := by
  unfold KO_X6_enter_55 at ok
  unfold KF_X6_enter_55 at hx
  have nn_56 := ok.1
  have ok := ok.2
  obtain ⟨hS, hm_60⟩ := k5c_J7_fill_53178 hS (hS.rk (c := 5) (k := 6) (tN.o t_x0 nn_56) rfl (by omega)) ok.1
  have hM := hM.trans hm_60
  have ok := ok.2
  exact k5b_X6_enter_63 hR hS hM t_x0 ok hx
set_option maxRecDepth 100000 in
set_option maxHeartbeats 4000000 in
theorem k5b_X6_enter_49 {u g H T N : Nat} {S : cS} {S0 : cS} {R_ : Prop} {X : cS → Prop} (hR : ∀ S', St u g H T S' → M5 g H S0 S' → X S' → R_) {x0 : Option Nat} {x1 : Int32} (hS : St u g H T S) (hM : M5 g H S0 S) (t_x0 : tN g H x0) (ok : KO_X6_enter_49 N g H T x0 x1 S) (hx : X (KF_X6_enter_49 N g H T x0 x1 S)) : R_ := by
  unfold KO_X6_enter_49 at ok
  unfold KF_X6_enter_49 at hx
  have nn_52 := ok.1.1
  obtain ⟨hS, hm_52⟩ := k5c_X6_setValid hS (tN.o t_x0 nn_52) tK_none ok.1.2
  have hM := hM.trans hm_52
  have ok := ok.2
  exact k5b_X6_enter_55 hR hS hM t_x0 ok hx
set_option maxRecDepth 100000 in
set_option maxHeartbeats 4000000 in
theorem k5b_X6_enter_43 {u g H T N : Nat} {S : cS} {S0 : cS} {R_ : Prop} {X : cS → Prop} (hR : ∀ S', St u g H T S' → M5 g H S0 S' → X S' → R_) {x0 : Option Nat} {x1 : Int32} (hS : St u g H T S) (hM : M5 g H S0 S) (t_x0 : tN g H x0) (ok : KO_X6_enter_43 N g H T x0 x1 S) (hx : X (KF_X6_enter_43 N g H T x0 x1 S)) : R_ := by
  unfold KO_X6_enter_43 at ok
  unfold KF_X6_enter_43 at hx
  have nn_46 := ok.1.1
  obtain ⟨hS, hm_46⟩ := k5c_X6_setLocked hS (tN.o t_x0 nn_46) tK_none ok.1.2
  have hM := hM.trans hm_46
  have ok := ok.2
  exact k5b_X6_enter_49 hR hS hM t_x0 ok hx
set_option maxRecDepth 100000 in
set_option maxHeartbeats 4000000 in
theorem k5b_X6_enter_36 {u g H T N : Nat} {S : cS} {S0 : cS} {R_ : Prop} {X : cS → Prop} (hR : ∀ S', St u g H T S' → M5 g H S0 S' → X S' → R_) {x0 : Option Nat} {x1 : Int32} (hS : St u g H T S) (hM : M5 g H S0 S) (t_x0 : tN g H x0) (ok : KO_X6_enter_36 N g H T x0 x1 S) (hx : X (KF_X6_enter_36 N g H T x0 x1 S)) : R_ := by
  unfold KO_X6_enter_36 at ok
  unfold KF_X6_enter_36 at hx
  have nn_37 := ok.1
  have ok := ok.2
  obtain ⟨hS, hm_40⟩ := k5c_X8_clearDecided hS (o53 (tN.o t_x0 nn_37)) ok.1
  have hM := hM.trans hm_40
  have ok := ok.2
  exact k5b_X6_enter_43 hR hS hM t_x0 ok hx
set_option maxRecDepth 100000 in
set_option maxHeartbeats 4000000 in
theorem k5b_X6_enter_12 {u g H T N : Nat} {S : cS} {S0 : cS} {R_ : Prop} {X : cS → Prop} (hR : ∀ S', St u g H T S' → M5 g H S0 S' → X S' → R_) {x0 : Option Nat} {x1 : Int32} (hS : St u g H T S) (hM : M5 g H S0 S) (t_x0 : tN g H x0) (ok : KO_X6_enter_12 N g H T x0 x1 S) (hx : X (KF_X6_enter_12 N g H T x0 x1 S)) : R_ := by
  unfold KO_X6_enter_12 at ok
  unfold KF_X6_enter_12 at hx
  have nn_14 := ok.1
  have ok := ok.2
  refine pif_p ok (fun c_19 => ?_) (fun c_19 => ?_)
  · have ok := ok.1 c_19
    have hx := xif_p c_19 hx
    exact k5b_X6_enter_36 hR hS hM t_x0 ok hx
  · have ok := ok.2 c_19
    have hx := xif_n c_19 hx
    obtain ⟨hS, hm_33⟩ := k5c_X8_clear hS (o53 (tN.o t_x0 nn_14)) ok.1
    have hM := hM.trans hm_33
    have ok := ok.2
    exact k5b_X6_enter_36 hR hS hM t_x0 ok hx
set_option maxRecDepth 100000 in
set_option maxHeartbeats 4000000 in
theorem k5b_X6_enter_0 {u g H T N : Nat} {S : cS} {S0 : cS} {R_ : Prop} {X : cS → Prop} (hR : ∀ S', St u g H T S' → M5 g H S0 S' → X S' → R_) {x0 : Option Nat} {x1 : Int32} (hS : St u g H T S) (hM : M5 g H S0 S) (t_x0 : tN g H x0) (ok : KO_X6_enter_0 N g H T x0 x1 S) (hx : X (KF_X6_enter_0 N g H T x0 x1 S)) : R_ := by
  unfold KO_X6_enter_0 at ok
  unfold KF_X6_enter_0 at hx
  have nn_1 := ok.1
  have ok := ok.2
  obtain ⟨hS, hm_9⟩ := k5c_X8_clear hS (o53 (tN.o t_x0 nn_1)) ok.1
  have hM := hM.trans hm_9
  have ok := ok.2
  exact k5b_X6_enter_12 hR hS hM t_x0 ok hx
set_option maxRecDepth 100000 in
set_option maxHeartbeats 4000000 in
theorem k5c_X6_enter {u g H T N : Nat} {S : cS} {a0 : Nat} {x1 : Int32} (hS : St u g H T S) (t_x0 : isO g H 5 a0) (ok : p_X6_enter N g H T S a0 x1) : St u g H T (k_X6_enter N g H T S a0 x1) ∧ M5 g H S (k_X6_enter N g H T S a0 x1) := by
  exact k5b_X6_enter_0 (X := fun F => F = k_X6_enter N g H T S a0 x1) (fun S' h1 h2 h => by rw [← h]; exact ⟨h1, h2⟩) hS M5.rfl' (tN_some t_x0) ok rfl
set_option maxRecDepth 100000 in
set_option maxHeartbeats 4000000 in
theorem k5b_X6_vote_118 {u g H T N : Nat} {S : cS} {S0 : cS} {R_ : Prop} {X : Option Nat × cS → Prop} (hR : ∀ v S', St u g H T S' → M5 g H S0 S' → tK S' 5 v → X (v, S') → R_) {x3 : Option Nat} (hS : St u g H T S) (hM : M5 g H S0 S) (t_x3 : tK S 5 x3) (ok : KO_X6_vote_118 N g H T x3 S) (hx : X (KF_X6_vote_118 N g H T x3 S)) : R_ := by
  unfold KO_X6_vote_118 at ok
  unfold KF_X6_vote_118 at hx
  exact hR _ _ hS hM t_x3 hx
set_option maxRecDepth 100000 in
set_option maxHeartbeats 4000000 in
theorem k5b_X6_vote_103 {u g H T N : Nat} {S : cS} {S0 : cS} {R_ : Prop} {X : Option Nat × cS → Prop} (hR : ∀ v S', St u g H T S' → M5 g H S0 S' → tK S' 5 v → X (v, S') → R_) {x3 : Option Nat} (hS : St u g H T S) (hM : M5 g H S0 S) (t_x3 : tK S 5 x3) (ok : KO_X6_vote_103 N g H T x3 S) (hx : X (KF_X6_vote_103 N g H T x3 S)) : R_ := by
  unfold KO_X6_vote_103 at ok
  unfold KF_X6_vote_103 at hx
  have nn_105 := ok.1
  have hS0 := hS
  have hS := hS.I 5 (za x3) (nI 1)
  have hM := hM.I5 (za x3) (nI 1) (ne5M hS0 t_x3 (by first | exact nn_105 | exact ok.1 | exact ok.1.1))
  have ok := ok.2
  have p_110 := hS.m0k (tK_I t_x3) nn_105
  obtain ⟨hS, hm_115⟩ := k5c_X5_writeId hS ((tK_I t_x3) _ (za_of nn_105)) p_110 ok.1
  have hM := hM.trans hm_115
  have ok := ok.2
  exact k5b_X6_vote_118 hR hS hM (hm_115.tK (tK_I t_x3) (by decide)) ok hx
set_option maxRecDepth 100000 in
set_option maxHeartbeats 4000000 in
theorem k5b_X6_vote_85 {u g H T N : Nat} {S : cS} {S0 : cS} {R_ : Prop} {X : Option Nat × cS → Prop} (hR : ∀ v S', St u g H T S' → M5 g H S0 S' → tK S' 5 v → X (v, S') → R_) {x2 : Option Nat} {x3 : Option Nat} (hS : St u g H T S) (hM : M5 g H S0 S) (t_x2 : tK S 5 x2) (t_x3 : tK S 5 x3) (ok : KO_X6_vote_85 N g H T x2 x3 S) (hx : X (KF_X6_vote_85 N g H T x2 x3 S)) : R_ := by
  unfold KO_X6_vote_85 at ok
  unfold KF_X6_vote_85 at hx
  refine pif_p ok (fun c_86 => ?_) (fun c_86 => ?_)
  · have ok := ok.1 c_86
    have hx := xif_p c_86 hx
    exact k5b_X6_vote_118 hR hS hM t_x3 ok hx
  · have ok := ok.2 c_86
    have hx := xif_n c_86 hx
    have p_90 := hS.m1k t_x2 c_86
    have q_90 := hS.m1l t_x2 c_86
    have nn_95 := ok.1
    have p_95 := hS.m1k t_x3 ok.1
    have q_95 := hS.m1l t_x3 ok.1
    have ok := ok.2
    have hS := hS.Jr ((za x3) + 1) (va_cpy (cJ S ((za x2) + 1)) (cJ S ((za x3) + 1)) (nI 0).toNatClampNeg (nI 0).toNatClampNeg (nI 4).toNatClampNeg)
    have hM := hM.Jr ((za x3) + 1) (va_cpy (cJ S ((za x2) + 1)) (cJ S ((za x3) + 1)) (nI 0).toNatClampNeg (nI 0).toNatClampNeg (nI 4).toNatClampNeg)
    have ok := ok.2
    exact k5b_X6_vote_103 hR hS hM (tK_Jr t_x3) ok hx
set_option maxRecDepth 100000 in
set_option maxHeartbeats 4000000 in
theorem k5b_X6_vote_78 {u g H T N : Nat} {S : cS} {S0 : cS} {R_ : Prop} {X : Option Nat × cS → Prop} (hR : ∀ v S', St u g H T S' → M5 g H S0 S' → tK S' 5 v → X (v, S') → R_) {x2 : Option Nat} {x3 : Option Nat} {s0 : Option Nat} {s1 : Int32} {s2 : Int32} (hS : St u g H T S) (hM : M5 g H S0 S) (t_x2 : tK S 5 x2) (t_x3 : tK S 5 x3) (t_s0 : tK S 20 s0) (ok : KO_X6_vote_78 N g H T x2 x3 s0 s1 s2 S) (hx : X (KF_X6_vote_78 N g H T x2 x3 s0 s1 s2 S)) : R_ := by
  unfold KO_X6_vote_78 at ok
  unfold KF_X6_vote_78 at hx
  have hS := hS.Ab (za s0) s1.toNatClampNeg (s2.toInt8.toInt32)
  have hM := hM.A (za s0) s1.toNatClampNeg ((s2.toInt8.toInt32).toInt8.toInt32)
  have ok := ok.2
  have nn_82 := ok.1
  have hS := hS.I 4 (za x3) (nI 1)
  have hM := hM.I 4 (za x3) (nI 1)
  have ok := ok.2
  exact k5b_X6_vote_85 hR hS hM (tK_I (tK_A t_x2)) (tK_I (tK_A t_x3)) ok hx
set_option maxRecDepth 100000 in
set_option maxHeartbeats 4000000 in
theorem k5b_X6_vote_53 {u g H T N : Nat} {S : cS} {S0 : cS} {R_ : Prop} {X : Option Nat × cS → Prop} (hR : ∀ v S', St u g H T S' → M5 g H S0 S' → tK S' 5 v → X (v, S') → R_) {x0 : Option Nat} {x2 : Option Nat} {x3 : Option Nat} (hS : St u g H T S) (hM : M5 g H S0 S) (t_x0 : tN g H x0) (t_x2 : tK S 5 x2) (t_x3 : tK S 5 x3) (ok : KO_X6_vote_53 N g H T x0 x2 x3 S) (hx : X (KF_X6_vote_53 N g H T x0 x2 x3 S)) : R_ := by
  unfold KO_X6_vote_53 at ok
  unfold KF_X6_vote_53 at hx
  have nn_54 := ok.1
  have p_54 := hS.m0k t_x3 ok.1
  have ok := ok.2
  have nn_59 := ok.1
  have ok := ok.2
  have hS := hS.Ab ((za x3) + 2) (nI 4).toNatClampNeg ((cI S 10 (za x0)).toInt8.toInt32)
  have hM := hM.A ((za x3) + 2) (nI 4).toNatClampNeg (((cI S 10 (za x0)).toInt8.toInt32).toInt8.toInt32)
  have ok := ok.2
  have p_65 := hS.m0k (tK_A t_x3) nn_54
  refine pif_n ok (fun c_70 => ?_) (fun c_70 => ?_)
  · have ok := ok.2 c_70
    have hx := xif_n c_70 hx
    exact k5b_X6_vote_78 hR hS hM (tK_A t_x2) (tK_A t_x3) p_65 ok hx
  · have ok := ok.1 c_70
    have hx := xif_p c_70 hx
    exact k5b_X6_vote_78 hR hS hM (tK_A t_x2) (tK_A t_x3) p_65 ok hx
set_option maxRecDepth 100000 in
set_option maxHeartbeats 4000000 in
theorem k5b_X6_vote_41 {u g H T N : Nat} {S : cS} {S0 : cS} {R_ : Prop} {X : Option Nat × cS → Prop} (hR : ∀ v S', St u g H T S' → M5 g H S0 S' → tK S' 5 v → X (v, S') → R_) {x0 : Option Nat} {x2 : Option Nat} {x3 : Option Nat} (hS : St u g H T S) (hM : M5 g H S0 S) (t_x0 : tN g H x0) (t_x2 : tK S 5 x2) (t_x3 : tK S 5 x3) (ok : KO_X6_vote_41 N g H T x0 x2 x3 S) (hx : X (KF_X6_vote_41 N g H T x0 x2 x3 S)) : R_ := by
  unfold KO_X6_vote_41 at ok
  unfold KF_X6_vote_41 at hx
  have nn_42 := ok.1
  have p_42 := hS.m0k t_x3 ok.1
  have ok := ok.2
  have nn_47 := ok.1
  have ok := ok.2
  obtain ⟨hS, hm_50⟩ := k5c_X11_putTwo hS p_42 ok.1
  have hM := hM.trans hm_50
  have ok := ok.2
  exact k5b_X6_vote_53 hR hS hM t_x0 (hm_50.tK t_x2 (by decide)) (hm_50.tK t_x3 (by decide)) ok hx
set_option maxRecDepth 100000 in
set_option maxHeartbeats 4000000 in
theorem k5b_X6_vote_21 {u g H T N : Nat} {S : cS} {S0 : cS} {R_ : Prop} {X : Option Nat × cS → Prop} (hR : ∀ v S', St u g H T S' → M5 g H S0 S' → tK S' 5 v → X (v, S') → R_) {x0 : Option Nat} {x1 : Int32} {x2 : Option Nat} {s0 : Option Nat} (hS : St u g H T S) (hM : M5 g H S0 S) (t_x0 : tN g H x0) (t_x2 : tK S 5 x2) (t_s0 : tK S 5 s0) (ok : KO_X6_vote_21 N g H T x0 x1 x2 s0 S) (hx : X (KF_X6_vote_21 N g H T x0 x1 x2 s0 S)) : R_ := by
  unfold KO_X6_vote_21 at ok
  unfold KF_X6_vote_21 at hx
  have nn_23 := ok.1
  have p_23 := hS.m0k t_s0 ok.1
  have ok := ok.2
  have hS := hS.Ab ((za s0) + 2) (nI 0).toNatClampNeg (x1.toInt8.toInt32)
  have hM := hM.A ((za s0) + 2) (nI 0).toNatClampNeg ((x1.toInt8.toInt32).toInt8.toInt32)
  have ok := ok.2
  have p_31 := hS.m0k (tK_A t_s0) nn_23
  have nn_36 := ok.1
  have ok := ok.2
  have hS := hS.Ab ((za s0) + 2) (nI 1).toNatClampNeg ((cI (csA S ((za s0) + 2) (nI 0).toNatClampNeg ((x1.toInt8.toInt32).toInt8.toInt32)) 1 (za x0)).toInt8.toInt32)
  have hM := hM.A ((za s0) + 2) (nI 1).toNatClampNeg (((cI (csA S ((za s0) + 2) (nI 0).toNatClampNeg ((x1.toInt8.toInt32).toInt8.toInt32)) 1 (za x0)).toInt8.toInt32).toInt8.toInt32)
  have ok := ok.2
  exact k5b_X6_vote_41 hR hS hM t_x0 (tK_A (tK_A t_x2)) (tK_A (tK_A t_s0)) ok hx
set_option maxRecDepth 100000 in
set_option maxHeartbeats 4000000 in
theorem k5b_X6_vote_18 {u g H T N : Nat} {S : cS} {S0 : cS} {R_ : Prop} {X : Option Nat × cS → Prop} (hR : ∀ v S', St u g H T S' → M5 g H S0 S' → tK S' 5 v → X (v, S') → R_) {x0 : Option Nat} {x1 : Int32} {x2 : Option Nat} {s0 : Nat} {s1 : Int32} (hS : St u g H T S) (hM : M5 g H S0 S) (t_x0 : tN g H x0) (t_x2 : tK S 5 x2) (t_s0 : isO g H 7 s0) (ok : KO_X6_vote_18 N g H T x0 x1 x2 s0 s1 S) (hx : X (KF_X6_vote_18 N g H T x0 x1 x2 s0 s1 S)) : R_ := by
  unfold KO_X6_vote_18 at ok
  unfold KF_X6_vote_18 at hx
  obtain ⟨hS, hm_18, tv_18⟩ := k5c_X9_fresh hS t_s0 ok.1
  have hM := hM.trans hm_18
  have ok := ok.2
  exact k5b_X6_vote_21 hR hS hM t_x0 (hm_18.tK t_x2 (by decide)) tv_18 ok hx
set_option maxRecDepth 100000 in
set_option maxHeartbeats 4000000 in
theorem k5b_X6_vote_0 {u g H T N : Nat} {S : cS} {S0 : cS} {R_ : Prop} {X : Option Nat × cS → Prop} (hR : ∀ v S', St u g H T S' → M5 g H S0 S' → tK S' 5 v → X (v, S') → R_) {x0 : Option Nat} {x1 : Int32} {x2 : Option Nat} (hS : St u g H T S) (hM : M5 g H S0 S) (t_x0 : tN g H x0) (t_x2 : tK S 5 x2) (ok : KO_X6_vote_0 N g H T x0 x1 x2 S) (hx : X (KF_X6_vote_0 N g H T x0 x1 x2 S)) : R_ := by
  unfold KO_X6_vote_0 at ok
  unfold KF_X6_vote_0 at hx
  have nn_1 := ok.1
  have ok := ok.2
  refine pif_n ok (fun c_8 => ?_) (fun c_8 => ?_)
  · have ok := ok.2 c_8
    have hx := xif_n c_8 hx
    exact k5b_X6_vote_18 hR hS hM t_x0 t_x2 (o86 (o50 (tN.o t_x0 nn_1))) ok hx
  · have ok := ok.1 c_8
    have hx := xif_p c_8 hx
    exact k5b_X6_vote_18 hR hS hM t_x0 t_x2 (o86 (o50 (tN.o t_x0 nn_1))) ok hx
set_option maxRecDepth 100000 in
set_option maxHeartbeats 4000000 in
theorem k5c_X6_vote {u g H T N : Nat} {S : cS} {a0 : Nat} {x1 : Int32} {x2 : Option Nat} (hS : St u g H T S) (t_x0 : isO g H 5 a0) (t_x2 : tK S 5 x2) (ok : p_X6_vote N g H T S a0 x1 x2) : St u g H T (k_X6_vote N g H T S a0 x1 x2).2 ∧ M5 g H S (k_X6_vote N g H T S a0 x1 x2).2 ∧ tK (k_X6_vote N g H T S a0 x1 x2).2 5 (k_X6_vote N g H T S a0 x1 x2).1 := by
  exact k5b_X6_vote_0 (X := fun F => F = k_X6_vote N g H T S a0 x1 x2) (fun v S' h1 h2 h3 h => by rw [← h]; exact ⟨h1, h2, h3⟩) hS M5.rfl' (tN_some t_x0) t_x2 ok rfl
set_option maxRecDepth 100000 in
set_option maxHeartbeats 4000000 in
theorem k5b_X6_forgetAnswers_47 {u g H T N : Nat} {S : cS} {S0 : cS} {R_ : Prop} {X : cS → Prop} (hR : ∀ S', St u g H T S' → M5 g H S0 S' → X S' → R_) (hS : St u g H T S) (hM : M5 g H S0 S) (ok : KO_X6_forgetAnswers_47 N g H T S) (hx : X (KF_X6_forgetAnswers_47 N g H T S)) : R_ := by
  unfold KO_X6_forgetAnswers_47 at ok
  unfold KF_X6_forgetAnswers_47 at hx
  exact hR _ hS hM hx
set_option maxRecDepth 100000 in
set_option maxHeartbeats 4000000 in
theorem k5b_X6_forgetAnswers_32 {u g H T N : Nat} {S : cS} {S0 : cS} {R_ : Prop} {X : Nat × cS → Prop} (hX0 : ∀ (S' : cS), St u g H T S' → M5 g H S0 S' → X (0, S') → R_) {rec : Option Nat → Int32 → Int32 → Int32 → cS → Nat × cS} {rok : Option Nat → Int32 → Int32 → Int32 → cS → Prop} (hrec : ∀ (x0 : Option Nat) (x1 : Int32) (x2 : Int32) (x3 : Int32) (S : cS), St u g H T S → M5 g H S0 S → tN g H x0 → rok x0 x1 x2 x3 S → X (rec x0 x1 x2 x3 S) → R_) {x0 : Option Nat} {x1 : Int32} {x2 : Int32} {x3 : Int32} (hS : St u g H T S) (hM : M5 g H S0 S) (t_x0 : tN g H x0) (ok : KO_X6_forgetAnswers_32 N g H T rok x0 x1 x2 x3 S) (hx : X (KF_X6_forgetAnswers_32 N g H T rec x0 x1 x2 x3 S)) : R_ := by
  unfold KO_X6_forgetAnswers_32 at ok
  unfold KF_X6_forgetAnswers_32 at hx
  have nn_33 := ok.1
  have ok := ok.2
  have hS2 := hS.P24 (i := (x3 &&& (nI 3)).toNatClampNeg) ((hS.rk (c := 5) (k := 7) (tN.o t_x0 nn_33) rfl (by omega)) _ rfl) tK_none
  have hS := hS2
  have hM := hM.P ((za x0) + 13) (x3 &&& (nI 3)).toNatClampNeg (none : Option Nat)
  have ok := ok.2
  exact hrec _ _ _ _ (csP S ((za x0) + 13) (x3 &&& (nI 3)).toNatClampNeg (none : Option Nat)) hS hM t_x0 ok hx
set_option maxRecDepth 100000 in
set_option maxHeartbeats 4000000 in
theorem k5bb_X6_forgetAnswers_2 {u g H T N : Nat} {S : cS} {S0 : cS} {R_ : Prop} {X : Nat × cS → Prop} (hX0 : ∀ (S' : cS), St u g H T S' → M5 g H S0 S' → X (0, S') → R_) {rec : Option Nat → Int32 → Int32 → Int32 → cS → Nat × cS} {rok : Option Nat → Int32 → Int32 → Int32 → cS → Prop} (hrec : ∀ (x0 : Option Nat) (x1 : Int32) (x2 : Int32) (x3 : Int32) (S : cS), St u g H T S → M5 g H S0 S → tN g H x0 → rok x0 x1 x2 x3 S → X (rec x0 x1 x2 x3 S) → R_) {x0 : Option Nat} {x1 : Int32} {x2 : Int32} {x3 : Int32} (hS : St u g H T S) (hM : M5 g H S0 S) (t_x0 : tN g H x0) (ok : KOB_X6_forgetAnswers_2 N g H T rok x0 x1 x2 x3 S) (hx : X (KB_X6_forgetAnswers_2 N g H T rec x0 x1 x2 x3 S)) : R_ := by
  unfold KOB_X6_forgetAnswers_2 at ok
  unfold KB_X6_forgetAnswers_2 at hx
  refine pif_p ok (fun c_4 => ?_) (fun c_4 => ?_)
  · have ok := ok.1 c_4
    have hx := xif_p c_4 hx
    exact hX0 S hS hM  hx
  · have ok := ok.2 c_4
    have hx := xif_n c_4 hx
    refine pif_p ok (fun c_11 => ?_) (fun c_11 => ?_)
    · have ok := ok.1 c_11
      have hx := xif_p c_11 hx
      exact hX0 S hS hM  hx
    · have ok := ok.2 c_11
      have hx := xif_n c_11 hx
      have nn_15 := ok.1
      have ok := ok.2
      have p_28 := hS.row24 (hS.rk (c := 5) (k := 7) (tN.o t_x0 nn_15) rfl (by omega)) (x3 &&& (nI 3)).toNatClampNeg
      have ok := ok.2
      obtain ⟨hS, hm_29⟩ := k5c_X9_drop hS (o86 (o50 (tN.o t_x0 nn_15))) p_28 ok.1
      have hM := hM.trans hm_29
      have ok := ok.2
      exact k5b_X6_forgetAnswers_32 hX0 hrec hS hM t_x0 ok hx
set_option maxRecDepth 100000 in
set_option maxHeartbeats 4000000 in
theorem k5l_X6_forgetAnswers_2 {u g H T N : Nat} {S0 : cS} {R_ : Prop} {X : Nat × cS → Prop} (hX0 : ∀ (S' : cS), St u g H T S' → M5 g H S0 S' → X (0, S') → R_) : ∀ (n : Nat) (x0 : Option Nat) (x1 : Int32) (x2 : Int32) (x3 : Int32) (S : cS), St u g H T S → M5 g H S0 S → tN g H x0 → KOL_X6_forgetAnswers_2 N g H T n x0 x1 x2 x3 S → X (KL_X6_forgetAnswers_2 N g H T n x0 x1 x2 x3 S) → R_ := by
  intro n
  induction n with
  | zero => intro x0 x1 x2 x3 S hS hM t_x0 ok; exact absurd ok id
  | succ n ih =>
    intro x0 x1 x2 x3 S hS hM t_x0 ok hx
    exact k5bb_X6_forgetAnswers_2 hX0 (rec := KL_X6_forgetAnswers_2 N g H T n) (rok := KOL_X6_forgetAnswers_2 N g H T n) (fun x0 x1 x2 x3 S hS hM t_x0 ok hx => ih x0 x1 x2 x3 S hS hM t_x0 ok hx) hS hM t_x0 ok hx
set_option maxRecDepth 100000 in
set_option maxHeartbeats 4000000 in
theorem k5d_X6_forgetAnswers_2 {u g H T N : Nat} {S : cS} {S0 : cS} {R_ : Prop} {X : cS → Prop} (hR : ∀ S', St u g H T S' → M5 g H S0 S' → X S' → R_) {x0 : Option Nat} {x1 : Int32} {x2 : Int32} {x3 : Int32} (hS : St u g H T S) (hM : M5 g H S0 S) (t_x0 : tN g H x0) (ok : KOL_X6_forgetAnswers_2 N g H T N x0 x1 x2 x3 S ∧ KOA_X6_forgetAnswers_2 N g H T x0 x1 x2 x3 S (KL_X6_forgetAnswers_2 N g H T N x0 x1 x2 x3 S)) (hx : X (KA_X6_forgetAnswers_2 N g H T x0 x1 x2 x3 S (KL_X6_forgetAnswers_2 N g H T N x0 x1 x2 x3 S))) : R_ := by
  refine k5l_X6_forgetAnswers_2 ?_ N x0 x1 x2 x3 S hS hM t_x0 ok.1 (X := fun z => KOA_X6_forgetAnswers_2 N g H T x0 x1 x2 x3 S z ∧ X (KA_X6_forgetAnswers_2 N g H T x0 x1 x2 x3 S z)) ⟨ok.2, hx⟩
  · intro S' hS hM hz
    obtain ⟨ok, hx⟩ := hz
    unfold KOA_X6_forgetAnswers_2 at ok
    unfold KA_X6_forgetAnswers_2 at hx
    exact k5b_X6_forgetAnswers_47 hR hS hM  ok hx
set_option maxRecDepth 100000 in
set_option maxHeartbeats 4000000 in
theorem k5b_X6_forgetAnswers_0 {u g H T N : Nat} {S : cS} {S0 : cS} {R_ : Prop} {X : cS → Prop} (hR : ∀ S', St u g H T S' → M5 g H S0 S' → X S' → R_) {x0 : Option Nat} {x1 : Int32} {x2 : Int32} (hS : St u g H T S) (hM : M5 g H S0 S) (t_x0 : tN g H x0) (ok : KO_X6_forgetAnswers_0 N g H T x0 x1 x2 S) (hx : X (KF_X6_forgetAnswers_0 N g H T x0 x1 x2 S)) : R_ := by
  unfold KO_X6_forgetAnswers_0 at ok
  unfold KF_X6_forgetAnswers_0 at hx
  exact k5d_X6_forgetAnswers_2 hR hS hM t_x0 ok hx
set_option maxRecDepth 100000 in
set_option maxHeartbeats 4000000 in
theorem k5c_X6_forgetAnswers {u g H T N : Nat} {S : cS} {a0 : Nat} {x1 : Int32} {x2 : Int32} (hS : St u g H T S) (t_x0 : isO g H 5 a0) (ok : p_X6_forgetAnswers N g H T S a0 x1 x2) : St u g H T (k_X6_forgetAnswers N g H T S a0 x1 x2) ∧ M5 g H S (k_X6_forgetAnswers N g H T S a0 x1 x2) := by
  exact k5b_X6_forgetAnswers_0 (X := fun F => F = k_X6_forgetAnswers N g H T S a0 x1 x2) (fun S' h1 h2 h => by rw [← h]; exact ⟨h1, h2⟩) hS M5.rfl' (tN_some t_x0) ok rfl
set_option maxRecDepth 100000 in
set_option maxHeartbeats 4000000 in
theorem k5b_X7_signProposal_21 {u g H T N : Nat} {S : cS} {S0 : cS} {R_ : Prop} {X : cS → Prop} (hR : ∀ S', St u g H T S' → M5 g H S0 S' → X S' → R_) {x0 : Option Nat} {x1 : Option Nat} {x2 : Int32} (hS : St u g H T S) (hM : M5 g H S0 S) (t_x0 : tN g H x0) (t_x1 : tK S 20 x1) (ok : KO_X7_signProposal_21 N g H T x0 x1 x2 S) (hx : X (KF_X7_signProposal_21 N g H T x0 x1 x2 S)) : R_ := by
  unfold KO_X7_signProposal_21 at ok
  unfold KF_X7_signProposal_21 at hx
  have nn_24 := ok.1
  have ok := ok.2
  have hS := hS.Ab (za x1) (nI 4).toNatClampNeg ((cI S 10 (za x0)).toInt8.toInt32)
  have hM := hM.A (za x1) (nI 4).toNatClampNeg (((cI S 10 (za x0)).toInt8.toInt32).toInt8.toInt32)
  have ok := ok.2
  have hS := hS.Ab (za x1) (nI 5).toNatClampNeg (x2.toInt8.toInt32)
  have hM := hM.A (za x1) (nI 5).toNatClampNeg ((x2.toInt8.toInt32).toInt8.toInt32)
  have ok := ok.2
  exact hR _ hS hM hx
set_option maxRecDepth 100000 in
set_option maxHeartbeats 4000000 in
theorem k5b_X7_signProposal_12 {u g H T N : Nat} {S : cS} {S0 : cS} {R_ : Prop} {X : cS → Prop} (hR : ∀ S', St u g H T S' → M5 g H S0 S' → X S' → R_) {x0 : Option Nat} {x1 : Option Nat} {x2 : Int32} (hS : St u g H T S) (hM : M5 g H S0 S) (t_x0 : tN g H x0) (t_x1 : tK S 20 x1) (ok : KO_X7_signProposal_12 N g H T x0 x1 x2 S) (hx : X (KF_X7_signProposal_12 N g H T x0 x1 x2 S)) : R_ := by
  unfold KO_X7_signProposal_12 at ok
  unfold KF_X7_signProposal_12 at hx
  have nn_15 := ok.1
  have ok := ok.2
  obtain ⟨hS, hm_18⟩ := k5c_X11_putTwo hS t_x1 ok.1
  have hM := hM.trans hm_18
  have ok := ok.2
  exact k5b_X7_signProposal_21 hR hS hM t_x0 (hm_18.tK t_x1 (by decide)) ok hx
set_option maxRecDepth 100000 in
set_option maxHeartbeats 4000000 in
theorem k5b_X7_signProposal_0 {u g H T N : Nat} {S : cS} {S0 : cS} {R_ : Prop} {X : cS → Prop} (hR : ∀ S', St u g H T S' → M5 g H S0 S' → X S' → R_) {x0 : Option Nat} {x1 : Option Nat} {x2 : Int32} (hS : St u g H T S) (hM : M5 g H S0 S) (t_x0 : tN g H x0) (t_x1 : tK S 20 x1) (ok : KO_X7_signProposal_0 N g H T x0 x1 x2 S) (hx : X (KF_X7_signProposal_0 N g H T x0 x1 x2 S)) : R_ := by
  unfold KO_X7_signProposal_0 at ok
  unfold KF_X7_signProposal_0 at hx
  have hS := hS.Ab (za x1) (nI 0).toNatClampNeg (nI 1)
  have hM := hM.A (za x1) (nI 0).toNatClampNeg ((nI 1).toInt8.toInt32)
  have ok := ok.2
  have nn_7 := ok.1
  have ok := ok.2
  have hS := hS.Ab (za x1) (nI 1).toNatClampNeg ((cI (csA S (za x1) (nI 0).toNatClampNeg ((nI 1).toInt8.toInt32)) 1 (za x0)).toInt8.toInt32)
  have hM := hM.A (za x1) (nI 1).toNatClampNeg (((cI (csA S (za x1) (nI 0).toNatClampNeg ((nI 1).toInt8.toInt32)) 1 (za x0)).toInt8.toInt32).toInt8.toInt32)
  have ok := ok.2
  exact k5b_X7_signProposal_12 hR hS hM t_x0 (tK_A (tK_A t_x1)) ok hx
set_option maxRecDepth 100000 in
set_option maxHeartbeats 4000000 in
theorem k5c_X7_signProposal {u g H T N : Nat} {S : cS} {x0 : Option Nat} {x1 : Option Nat} {x2 : Int32} (hS : St u g H T S) (t_x0 : tN g H x0) (t_x1 : tK S 20 x1) (ok : p_X7_signProposal N g H T S x0 x1 x2) : St u g H T (k_X7_signProposal N g H T S x0 x1 x2) ∧ M5 g H S (k_X7_signProposal N g H T S x0 x1 x2) := by
  exact k5b_X7_signProposal_0 (X := fun F => F = k_X7_signProposal N g H T S x0 x1 x2) (fun S' h1 h2 h => by rw [← h]; exact ⟨h1, h2⟩) hS M5.rfl' t_x0 t_x1 ok rfl
set_option maxRecDepth 100000 in
set_option maxHeartbeats 4000000 in
theorem k5b_X7_again_73 {u g H T N : Nat} {S : cS} {S0 : cS} {R_ : Prop} {X : Option Nat × cS → Prop} (hR : ∀ v S', St u g H T S' → M5 g H S0 S' → tK S' 5 v → X (v, S') → R_) {x2 : Option Nat} (hS : St u g H T S) (hM : M5 g H S0 S) (t_x2 : tK S 5 x2) (ok : KO_X7_again_73 N g H T x2 S) (hx : X (KF_X7_again_73 N g H T x2 S)) : R_ := by
  unfold KO_X7_again_73 at ok
  unfold KF_X7_again_73 at hx
  exact hR _ _ hS hM t_x2 hx
set_option maxRecDepth 100000 in
set_option maxHeartbeats 4000000 in
theorem k5b_X7_again_63 {u g H T N : Nat} {S : cS} {S0 : cS} {R_ : Prop} {X : Option Nat × cS → Prop} (hR : ∀ v S', St u g H T S' → M5 g H S0 S' → tK S' 5 v → X (v, S') → R_) {x2 : Option Nat} (hS : St u g H T S) (hM : M5 g H S0 S) (t_x2 : tK S 5 x2) (ok : KO_X7_again_63 N g H T x2 S) (hx : X (KF_X7_again_63 N g H T x2 S)) : R_ := by
  unfold KO_X7_again_63 at ok
  unfold KF_X7_again_63 at hx
  have nn_65 := ok.1
  have hS0 := hS
  have hS := hS.I 5 (za x2) (nI 1)
  have hM := hM.I5 (za x2) (nI 1) (ne5M hS0 t_x2 (by first | exact nn_65 | exact ok.1 | exact ok.1.1))
  have ok := ok.2
  have hS := hS.I 4 (za x2) (nI 1)
  have hM := hM.I 4 (za x2) (nI 1)
  exact k5b_X7_again_73 hR hS hM (tK_I (tK_I t_x2)) ok hx
set_option maxRecDepth 100000 in
set_option maxHeartbeats 4000000 in
theorem k5b_X7_again_49 {u g H T N : Nat} {S : cS} {S0 : cS} {R_ : Prop} {X : Option Nat × cS → Prop} (hR : ∀ v S', St u g H T S' → M5 g H S0 S' → tK S' 5 v → X (v, S') → R_) {x1 : Option Nat} {x2 : Option Nat} (hS : St u g H T S) (hM : M5 g H S0 S) (t_x1 : tK S 5 x1) (t_x2 : tK S 5 x2) (ok : KO_X7_again_49 N g H T x1 x2 S) (hx : X (KF_X7_again_49 N g H T x1 x2 S)) : R_ := by
  unfold KO_X7_again_49 at ok
  unfold KF_X7_again_49 at hx
  have nn_50 := ok.1
  have p_50 := hS.m1k t_x1 ok.1
  have q_50 := hS.m1l t_x1 ok.1
  have ok := ok.2
  have nn_55 := ok.1
  have p_55 := hS.m1k t_x2 ok.1
  have q_55 := hS.m1l t_x2 ok.1
  have ok := ok.2
  have hS := hS.Jr ((za x2) + 1) (va_cpy (cJ S ((za x1) + 1)) (cJ S ((za x2) + 1)) (nI 0).toNatClampNeg (nI 0).toNatClampNeg (nI 4).toNatClampNeg)
  have hM := hM.Jr ((za x2) + 1) (va_cpy (cJ S ((za x1) + 1)) (cJ S ((za x2) + 1)) (nI 0).toNatClampNeg (nI 0).toNatClampNeg (nI 4).toNatClampNeg)
  have ok := ok.2
  exact k5b_X7_again_63 hR hS hM (tK_Jr t_x2) ok hx
set_option maxRecDepth 100000 in
set_option maxHeartbeats 4000000 in
theorem k5b_X7_again_27 {u g H T N : Nat} {S : cS} {S0 : cS} {R_ : Prop} {X : Option Nat × cS → Prop} (hR : ∀ v S', St u g H T S' → M5 g H S0 S' → tK S' 5 v → X (v, S') → R_) {x1 : Option Nat} {x2 : Option Nat} (hS : St u g H T S) (hM : M5 g H S0 S) (t_x1 : tK S 5 x1) (t_x2 : tK S 5 x2) (ok : KO_X7_again_27 N g H T x1 x2 S) (hx : X (KF_X7_again_27 N g H T x1 x2 S)) : R_ := by
  unfold KO_X7_again_27 at ok
  unfold KF_X7_again_27 at hx
  have nn_28 := ok.1
  have p_28 := hS.m0k t_x1 ok.1
  have ok := ok.2
  have nn_34 := ok.1
  have p_34 := hS.m0k t_x2 ok.1
  have ok := ok.2
  have tq_46 : tK S 20 (some ((za x1) + 2)) := tK_some (tK.cis p_28 (Option.some_ne_none _)).2
  have hS := hS.Ac ((za x2) + 2) ((za x1) + 2) (nI 6).toNatClampNeg (nI 6).toNatClampNeg ((cI S 2 (za x2)) - (nI 6)).toNatClampNeg tq_46
  have hM := hM.Ar ((za x2) + 2) (va_cpy (cA S ((za x1) + 2)) (cA S ((za x2) + 2)) (nI 6).toNatClampNeg (nI 6).toNatClampNeg ((cI S 2 (za x2)) - (nI 6)).toNatClampNeg)
  have ok := ok.2
  exact k5b_X7_again_49 hR hS hM (tK_Ar t_x1) (tK_Ar t_x2) ok hx
set_option maxRecDepth 100000 in
set_option maxHeartbeats 4000000 in
theorem k5b_X7_again_14 {u g H T N : Nat} {S : cS} {S0 : cS} {R_ : Prop} {X : Option Nat × cS → Prop} (hR : ∀ v S', St u g H T S' → M5 g H S0 S' → tK S' 5 v → X (v, S') → R_) {x0 : Option Nat} {x1 : Option Nat} {s0 : Option Nat} (hS : St u g H T S) (hM : M5 g H S0 S) (t_x0 : tN g H x0) (t_x1 : tK S 5 x1) (t_s0 : tK S 5 s0) (ok : KO_X7_again_14 N g H T x0 x1 s0 S) (hx : X (KF_X7_again_14 N g H T x0 x1 s0 S)) : R_ := by
  unfold KO_X7_again_14 at ok
  unfold KF_X7_again_14 at hx
  have nn_17 := ok.1
  have p_17 := hS.m0k t_s0 ok.1
  have ok := ok.2
  have nn_21 := ok.1
  have ok := ok.2
  obtain ⟨hS, hm_24⟩ := k5c_X7_signProposal hS t_x0 p_17 ok.1
  have hM := hM.trans hm_24
  have ok := ok.2
  exact k5b_X7_again_27 hR hS hM (hm_24.tK t_x1 (by decide)) (hm_24.tK t_s0 (by decide)) ok hx
set_option maxRecDepth 100000 in
set_option maxHeartbeats 4000000 in
theorem k5b_X7_again_0 {u g H T N : Nat} {S : cS} {S0 : cS} {R_ : Prop} {X : Option Nat × cS → Prop} (hR : ∀ v S', St u g H T S' → M5 g H S0 S' → tK S' 5 v → X (v, S') → R_) {x0 : Option Nat} {x1 : Option Nat} (hS : St u g H T S) (hM : M5 g H S0 S) (t_x0 : tN g H x0) (t_x1 : tK S 5 x1) (ok : KO_X7_again_0 N g H T x0 x1 S) (hx : X (KF_X7_again_0 N g H T x0 x1 S)) : R_ := by
  unfold KO_X7_again_0 at ok
  unfold KF_X7_again_0 at hx
  have nn_1 := ok.1
  have ok := ok.2
  have nn_8 := ok.1
  have ok := ok.2
  obtain ⟨hS, hm_11, tv_11⟩ := k5c_X9_fresh hS (o86 (o50 (tN.o t_x0 nn_1))) ok.1
  have hM := hM.trans hm_11
  have ok := ok.2
  exact k5b_X7_again_14 hR hS hM t_x0 (hm_11.tK t_x1 (by decide)) tv_11 ok hx
set_option maxRecDepth 100000 in
set_option maxHeartbeats 4000000 in
theorem k5c_X7_again {u g H T N : Nat} {S : cS} {x0 : Option Nat} {x1 : Option Nat} (hS : St u g H T S) (t_x0 : tN g H x0) (t_x1 : tK S 5 x1) (ok : p_X7_again N g H T S x0 x1) : St u g H T (k_X7_again N g H T S x0 x1).2 ∧ M5 g H S (k_X7_again N g H T S x0 x1).2 ∧ tK (k_X7_again N g H T S x0 x1).2 5 (k_X7_again N g H T S x0 x1).1 := by
  exact k5b_X7_again_0 (X := fun F => F = k_X7_again N g H T S x0 x1) (fun v S' h1 h2 h3 h => by rw [← h]; exact ⟨h1, h2, h3⟩) hS M5.rfl' t_x0 t_x1 ok rfl

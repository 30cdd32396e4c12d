set_option maxRecDepth 100000 in
set_option maxHeartbeats 4000000 in
theorem k5b_X11_stamp_146 {g H T N : Nat} {S : cS} {S0 : cS} {R_ : Prop} {X : Int32 × cS → Prop} (hR : ∀ v S', St 1 g H T S' → M5 g H S0 S' → X (v, S') → R_) (hS : St 1 g H T S) (hM : M5 g H S0 S) (ok : KO_X11_stamp_146 N g H T S) (hx : X (KF_X11_stamp_146 N g H T S)) : R_ := by
  unfold KO_X11_stamp_146 at ok
  unfold KF_X11_stamp_146 at hx
  exact hR _ _ hS hM hx
set_option maxRecDepth 100000 in
set_option maxHeartbeats 4000000 in
theorem k5b_X11_stamp_117 {g H T N : Nat} {S : cS} {S0 : cS} {R_ : Prop} {X : Int32 × cS → Prop} (hR : ∀ v S', St 1 g H T S' → M5 g H S0 S' → X (v, S') → R_) (hS : St 1 g H T S) (hM : M5 g H S0 S) (ok : KO_X11_stamp_117 N g H T S) (hx : X (KF_X11_stamp_117 N g H T S)) : R_ := by
  unfold KO_X11_stamp_117 at ok
  unfold KF_X11_stamp_117 at hx
  exact hR _ _ hS hM hx
set_option maxRecDepth 100000 in
set_option maxHeartbeats 4000000 in
theorem k5b_X11_stamp_92 {g H T N : Nat} {S : cS} {S0 : cS} {R_ : Prop} {X : Int32 × cS → Prop} (hR : ∀ v S', St 1 g H T S' → M5 g H S0 S' → X (v, S') → R_) {x0 : Nat} {x1 : Int32} {x4 : Option Nat} {s0 : Int32} (hS : St 1 g H T S) (hM : M5 g H S0 S) (t_x0 : isO g H 9 x0) (t_x4 : tK S 5 x4) (ok : KO_X11_stamp_92 N g H T x0 x1 x4 s0 S) (hx : X (KF_X11_stamp_92 N g H T x0 x1 x4 s0 S)) : R_ := by
  unfold KO_X11_stamp_92 at ok
  unfold KF_X11_stamp_92 at hx
  refine pif_p ok (fun c_96 => ?_) (fun c_96 => ?_)
  · have ok := ok.1 c_96
    have hx := xif_p c_96 hx
    exact k5b_X11_stamp_117 hR hS hM  ok hx
  · have ok := ok.2 c_96
    have hx := xif_n c_96 hx
    refine pif_p ok (fun c_101 => ?_) (fun c_101 => ?_)
    · have ok := ok.1 c_101
      have hx := xif_p c_101 hx
      exact k5b_X11_stamp_117 hR hS hM  ok hx
    · have ok := ok.2 c_101
      have hx := xif_n c_101 hx
      refine pif_p ok (fun c_114 => ?_) (fun c_114 => ?_)
      · have ok := ok.1 c_114
        have hx := xif_p c_114 hx
        have p_128 := hS.m0k t_x4 c_96
        obtain ⟨hS, hm_143⟩ := k5c_X2_digest hS (o85 (o90 t_x0)) p_128 (hS.rk (c := 9) (k := 1) t_x0 rfl (by omega)) ok.1
        have hM := hM.trans hm_143
        have ok := ok.2
        exact k5b_X11_stamp_146 hR hS hM  ok hx
      · have ok := ok.2 c_114
        have hx := xif_n c_114 hx
        exact k5b_X11_stamp_117 hR hS hM  ok hx
set_option maxRecDepth 100000 in
set_option maxHeartbeats 4000000 in
theorem k5b_X11_stamp_63 {g H T N : Nat} {S : cS} {S0 : cS} {R_ : Prop} {X : Int32 × cS → Prop} (hR : ∀ v S', St 1 g H T S' → M5 g H S0 S' → X (v, S') → R_) (hS : St 1 g H T S) (hM : M5 g H S0 S) (ok : KO_X11_stamp_63 N g H T S) (hx : X (KF_X11_stamp_63 N g H T S)) : R_ := by
  unfold KO_X11_stamp_63 at ok
  unfold KF_X11_stamp_63 at hx
  exact hR _ _ hS hM hx
set_option maxRecDepth 100000 in
set_option maxHeartbeats 4000000 in
theorem k5b_X11_stamp_37 {g H T N : Nat} {S : cS} {S0 : cS} {R_ : Prop} {X : Int32 × cS → Prop} (hR : ∀ v S', St 1 g H T S' → M5 g H S0 S' → X (v, S') → R_) (hS : St 1 g H T S) (hM : M5 g H S0 S) (ok : KO_X11_stamp_37 N g H T S) (hx : X (KF_X11_stamp_37 N g H T S)) : R_ := by
  unfold KO_X11_stamp_37 at ok
  unfold KF_X11_stamp_37 at hx
  exact hR _ _ hS hM hx
set_option maxRecDepth 100000 in
set_option maxHeartbeats 4000000 in
theorem k5b_X11_stamp_15 {g H T N : Nat} {S : cS} {S0 : cS} {R_ : Prop} {X : Int32 × cS → Prop} (hR : ∀ v S', St 1 g H T S' → M5 g H S0 S' → X (v, S') → R_) (hS : St 1 g H T S) (hM : M5 g H S0 S) (ok : KO_X11_stamp_15 N g H T S) (hx : X (KF_X11_stamp_15 N g H T S)) : R_ := by
  unfold KO_X11_stamp_15 at ok
  unfold KF_X11_stamp_15 at hx
  exact hR _ _ hS hM hx
set_option maxRecDepth 100000 in
set_option maxHeartbeats 4000000 in
theorem k5b_X11_stamp_0 {g H T N : Nat} {S : cS} {S0 : cS} {R_ : Prop} {X : Int32 × cS → Prop} (hR : ∀ v S', St 1 g H T S' → M5 g H S0 S' → X (v, S') → R_) {x0 : Nat} {x1 : Int32} {x2 : Int32} {x3 : Int32} (hS : St 1 g H T S) (hM : M5 g H S0 S) (t_x0 : isO g H 9 x0) (ok : KO_X11_stamp_0 N g H T x0 x1 x2 x3 S) (hx : X (KF_X11_stamp_0 N g H T x0 x1 x2 x3 S)) : R_ := by
  unfold KO_X11_stamp_0 at ok
  unfold KF_X11_stamp_0 at hx
  refine pif_p ok (fun c_1 => ?_) (fun c_1 => ?_)
  · have ok := ok.1 c_1
    have hx := xif_p c_1 hx
    exact k5b_X11_stamp_15 hR hS hM  ok hx
  · have ok := ok.2 c_1
    have hx := xif_n c_1 hx
    refine pif_p ok (fun c_12 => ?_) (fun c_12 => ?_)
    · have ok := ok.1 c_12
      have hx := xif_p c_12 hx
      refine pif_n ok (fun c_19 => ?_) (fun c_19 => ?_)
      · have ok := ok.2 c_19
        have hx := xif_n c_19 hx
        have tv_73 := kpc_X9_loadOf hS (o86 (o90 t_x0)) ok.1
        have ok := ok.2
        refine pif_n ok (fun c_80 => ?_) (fun c_80 => ?_)
        · have ok := ok.2 c_80
          have hx := xif_n c_80 hx
          have ok := ok.2
          exact k5b_X11_stamp_92 hR hS hM t_x0 tv_73 ok hx
        · have ok := ok.1 c_80
          have hx := xif_p c_80 hx
          exact k5b_X11_stamp_92 hR hS hM t_x0 tv_73 ok hx
      · have ok := ok.1 c_19
        have hx := xif_p c_19 hx
        refine pif_p ok (fun c_23 => ?_) (fun c_23 => ?_)
        · have ok := ok.1 c_23
          have hx := xif_p c_23 hx
          exact k5b_X11_stamp_37 hR hS hM  ok hx
        · have ok := ok.2 c_23
          have hx := xif_n c_23 hx
          refine pif_p ok (fun c_34 => ?_) (fun c_34 => ?_)
          · have ok := ok.1 c_34
            have hx := xif_p c_34 hx
            obtain ⟨hS, hm_60⟩ := k5c_X2_digest hS (o85 (o90 t_x0)) (hS.rk (c := 9) (k := 1) t_x0 rfl (by omega)) (hS.rk (c := 9) (k := 1) t_x0 rfl (by omega)) ok.1
            have hM := hM.trans hm_60
            have ok := ok.2
            exact k5b_X11_stamp_63 hR hS hM  ok hx
          · have ok := ok.2 c_34
            have hx := xif_n c_34 hx
            exact k5b_X11_stamp_37 hR hS hM  ok hx
    · have ok := ok.2 c_12
      have hx := xif_n c_12 hx
      exact k5b_X11_stamp_15 hR hS hM  ok hx
set_option maxRecDepth 100000 in
set_option maxHeartbeats 4000000 in
theorem k5c_X11_stamp {g H T N : Nat} {S : cS} {a0 : Nat} {x1 : Int32} {x2 : Int32} {x3 : Int32} (hS : St 1 g H T S) (t_x0 : isO g H 9 a0) (ok : p_X11_stamp N g H T S a0 x1 x2 x3) : St 1 g H T (k_X11_stamp N g H T S a0 x1 x2 x3).2 ∧ M5 g H S (k_X11_stamp N g H T S a0 x1 x2 x3).2 := by
  exact k5b_X11_stamp_0 (X := fun F => F = k_X11_stamp N g H T S a0 x1 x2 x3) (fun v S' h1 h2 h => by rw [← h]; exact ⟨h1, h2⟩) hS M5.rfl' t_x0 ok rfl
set_option maxRecDepth 100000 in
set_option maxHeartbeats 4000000 in
theorem k5b_X11_hash_44 {g H T N : Nat} {S : cS} {S0 : cS} {R_ : Prop} {X : Int64 × cS → Prop} (hR : ∀ v S', St 1 g H T S' → M5 g H S0 S' → X (v, S') → R_) {x0 : Nat} {x2 : Int32} (hS : St 1 g H T S) (hM : M5 g H S0 S) (t_x0 : isO g H 9 x0) (ok : KO_X11_hash_44 N g H T x0 x2 S) (hx : X (KF_X11_hash_44 N g H T x0 x2 S)) : R_ := by
  unfold KO_X11_hash_44 at ok
  unfold KF_X11_hash_44 at hx
  have ok := ok.2
  exact hR _ _ hS hM hx
set_option maxRecDepth 100000 in
set_option maxHeartbeats 4000000 in
theorem k5b_X11_hash_21 {g H T N : Nat} {S : cS} {S0 : cS} {R_ : Prop} {X : Int64 × cS → Prop} (hR : ∀ v S', St 1 g H T S' → M5 g H S0 S' → X (v, S') → R_) (hS : St 1 g H T S) (hM : M5 g H S0 S) (ok : KO_X11_hash_21 N g H T S) (hx : X (KF_X11_hash_21 N g H T S)) : R_ := by
  unfold KO_X11_hash_21 at ok
  unfold KF_X11_hash_21 at hx
  exact hR _ _ hS hM hx
set_option maxRecDepth 100000 in
set_option maxHeartbeats 4000000 in
theorem k5b_X11_hash_0 {g H T N : Nat} {S : cS} {S0 : cS} {R_ : Prop} {X : Int64 × cS → Prop} (hR : ∀ v S', St 1 g H T S' → M5 g H S0 S' → X (v, S') → R_) {x0 : Nat} {x1 : Int32} {x2 : Int32} (hS : St 1 g H T S) (hM : M5 g H S0 S) (t_x0 : isO g H 9 x0) (ok : KO_X11_hash_0 N g H T x0 x1 x2 S) (hx : X (KF_X11_hash_0 N g H T x0 x1 x2 S)) : R_ := by
  unfold KO_X11_hash_0 at ok
  unfold KF_X11_hash_0 at hx
  refine pif_p ok (fun c_1 => ?_) (fun c_1 => ?_)
  · have ok := ok.1 c_1
    have hx := xif_p c_1 hx
    exact k5b_X11_hash_21 hR hS hM  ok hx
  · have ok := ok.2 c_1
    have hx := xif_n c_1 hx
    refine pif_p ok (fun c_9 => ?_) (fun c_9 => ?_)
    · have ok := ok.1 c_9
      have hx := xif_p c_9 hx
      exact k5b_X11_hash_21 hR hS hM  ok hx
    · have ok := ok.2 c_9
      have hx := xif_n c_9 hx
      refine pif_p ok (fun c_13 => ?_) (fun c_13 => ?_)
      · have ok := ok.1 c_13
        have hx := xif_p c_13 hx
        exact k5b_X11_hash_21 hR hS hM  ok hx
      · have ok := ok.2 c_13
        have hx := xif_n c_13 hx
        refine pif_p ok (fun c_18 => ?_) (fun c_18 => ?_)
        · have ok := ok.1 c_18
          have hx := xif_p c_18 hx
          obtain ⟨hS, hm_41⟩ := k5c_X2_digest hS (o85 (o90 t_x0)) (hS.rk (c := 9) (k := 1) t_x0 rfl (by omega)) (hS.rk (c := 9) (k := 2) t_x0 rfl (by omega)) ok.1
          have hM := hM.trans hm_41
          have ok := ok.2
          exact k5b_X11_hash_44 hR hS hM t_x0 ok hx
        · have ok := ok.2 c_18
          have hx := xif_n c_18 hx
          exact k5b_X11_hash_21 hR hS hM  ok hx
set_option maxRecDepth 100000 in
set_option maxHeartbeats 4000000 in
theorem k5c_X11_hash {g H T N : Nat} {S : cS} {a0 : Nat} {x1 : Int32} {x2 : Int32} (hS : St 1 g H T S) (t_x0 : isO g H 9 a0) (ok : p_X11_hash N g H T S a0 x1 x2) : St 1 g H T (k_X11_hash N g H T S a0 x1 x2).2 ∧ M5 g H S (k_X11_hash N g H T S a0 x1 x2).2 := by
  exact k5b_X11_hash_0 (X := fun F => F = k_X11_hash N g H T S a0 x1 x2) (fun v S' h1 h2 h => by rw [← h]; exact ⟨h1, h2⟩) hS M5.rfl' t_x0 ok rfl
set_option maxRecDepth 100000 in
set_option maxHeartbeats 4000000 in
theorem k5b_X11_submit_191 {g H T N : Nat} {S : cS} {S0 : cS} {R_ : Prop} {X : Int32 × cS → Prop} (hR : ∀ v S', St 1 g H T S' → M5 g H S0 S' → X (v, S') → R_) (hS : St 1 g H T S) (hM : M5 g H S0 S) (ok : KO_X11_submit_191 N g H T S) (hx : X (KF_X11_submit_191 N g H T S)) : R_ := by
  unfold KO_X11_submit_191 at ok
  unfold KF_X11_submit_191 at hx
  exact hR _ _ hS hM hx
set_option maxRecDepth 100000 in
set_option maxHeartbeats 4000000 in
theorem k5b_X11_submit_179 {g H T N : Nat} {S : cS} {S0 : cS} {R_ : Prop} {X : Int32 × cS → Prop} (hR : ∀ v S', St 1 g H T S' → M5 g H S0 S' → X (v, S') → R_) {x0 : Nat} {x10 : Option Nat} (hS : St 1 g H T S) (hM : M5 g H S0 S) (t_x0 : isO g H 9 x0) (t_x10 : tK S 5 x10) (ok : KO_X11_submit_179 N g H T x0 x10 S) (hx : X (KF_X11_submit_179 N g H T x0 x10 S)) : R_ := by
  unfold KO_X11_submit_179 at ok
  unfold KF_X11_submit_179 at hx
  obtain ⟨hS, hm_188⟩ := k5c_X9_drop hS (o86 (o90 t_x0)) t_x10 ok.1
  have hM := hM.trans hm_188
  have ok := ok.2
  exact k5b_X11_submit_191 hR hS hM  ok hx
set_option maxRecDepth 100000 in
set_option maxHeartbeats 4000000 in
theorem k5b_X11_submit_167 {g H T N : Nat} {S : cS} {S0 : cS} {R_ : Prop} {X : Int32 × cS → Prop} (hR : ∀ v S', St 1 g H T S' → M5 g H S0 S' → X (v, S') → R_) {x0 : Nat} {x1 : Int32} {x10 : Option Nat} (hS : St 1 g H T S) (hM : M5 g H S0 S) (t_x0 : isO g H 9 x0) (t_x10 : tK S 5 x10) (ok : KO_X11_submit_167 N g H T x0 x1 x10 S) (hx : X (KF_X11_submit_167 N g H T x0 x1 x10 S)) : R_ := by
  unfold KO_X11_submit_167 at ok
  unfold KF_X11_submit_167 at hx
  obtain ⟨hS, hm_176⟩ := k5c_X10_spread hS (o90 t_x0) t_x10 ok.1
  have hM := hM.trans hm_176
  have ok := ok.2
  exact k5b_X11_submit_179 hR hS hM t_x0 (hm_176.tK t_x10 (by decide)) ok hx
set_option maxRecDepth 100000 in
set_option maxHeartbeats 4000000 in
theorem k5b_X11_submit_146 {g H T N : Nat} {S : cS} {S0 : cS} {R_ : Prop} {X : Int32 × cS → Prop} (hR : ∀ v S', St 1 g H T S' → M5 g H S0 S' → X (v, S') → R_) {x0 : Nat} {x1 : Int32} {x8 : Int64} {s0 : Option Nat} (hS : St 1 g H T S) (hM : M5 g H S0 S) (t_x0 : isO g H 9 x0) (t_s0 : tK S 5 s0) (ok : KO_X11_submit_146 N g H T x0 x1 x8 s0 S) (hx : X (KF_X11_submit_146 N g H T x0 x1 x8 s0 S)) : R_ := by
  unfold KO_X11_submit_146 at ok
  unfold KF_X11_submit_146 at hx
  have nn_150 := ok.1
  have p_150 := hS.m0k t_s0 ok.1
  have ok := ok.2
  have hS := hS.Ab ((za s0) + 2) (nI 0).toNatClampNeg (nI 0)
  have hM := hM.A ((za s0) + 2) (nI 0).toNatClampNeg ((nI 0).toInt8.toInt32)
  have ok := ok.2
  have p_160 := hS.m0k (tK_A t_s0) nn_150
  obtain ⟨hS, hm_164⟩ := k5c_X0_putCode hS p_160 ok.1
  have hM := hM.trans hm_164
  have ok := ok.2
  exact k5b_X11_submit_167 hR hS hM t_x0 (hm_164.tK (tK_A t_s0) (by decide)) ok hx
set_option maxRecDepth 100000 in
set_option maxHeartbeats 4000000 in
theorem k5b_X11_submit_129 {g H T N : Nat} {S : cS} {S0 : cS} {R_ : Prop} {X : Int32 × cS → Prop} (hR : ∀ v S', St 1 g H T S' → M5 g H S0 S' → X (v, S') → R_) {x0 : Nat} {x1 : Int32} {x8 : Int64} {s0 : Int32} (hS : St 1 g H T S) (hM : M5 g H S0 S) (t_x0 : isO g H 9 x0) (ok : KO_X11_submit_129 N g H T x0 x1 x8 s0 S) (hx : X (KF_X11_submit_129 N g H T x0 x1 x8 s0 S)) : R_ := by
  unfold KO_X11_submit_129 at ok
  unfold KF_X11_submit_129 at hx
  refine pif_n ok (fun c_129 => ?_) (fun c_129 => ?_)
  · have ok := ok.2 c_129
    have hx := xif_n c_129 hx
    obtain ⟨hS, hm_143, tv_143⟩ := k5c_X9_fresh hS (o86 (o90 t_x0)) ok.1
    have hM := hM.trans hm_143
    have ok := ok.2
    exact k5b_X11_submit_146 hR hS hM t_x0 tv_143 ok hx
  · have ok := ok.1 c_129
    have hx := xif_p c_129 hx
    exact hR _ _ hS hM hx
set_option maxRecDepth 100000 in
set_option maxHeartbeats 4000000 in
theorem k5b_X11_submit_106 {g H T N : Nat} {S : cS} {S0 : cS} {R_ : Prop} {X : Int32 × cS → Prop} (hR : ∀ v S', St 1 g H T S' → M5 g H S0 S' → X (v, S') → R_) {x0 : Nat} {x1 : Int32} {x5 : Int32} {x6 : Int32} {x7 : Option Nat} {s0 : Int64} (hS : St 1 g H T S) (hM : M5 g H S0 S) (t_x0 : isO g H 9 x0) (t_x7 : tN g H x7) (ok : KO_X11_submit_106 N g H T x0 x1 x5 x6 x7 s0 S) (hx : X (KF_X11_submit_106 N g H T x0 x1 x5 x6 x7 s0 S)) : R_ := by
  unfold KO_X11_submit_106 at ok
  unfold KF_X11_submit_106 at hx
  have nn_121 := ok.1
  have ok := ok.2
  obtain ⟨hS, hm_126⟩ := k5c_X8_addPayment hS (o53 (tN.o t_x7 nn_121)) ok.1
  have hM := hM.trans hm_126
  have ok := ok.2
  exact k5b_X11_submit_129 hR hS hM t_x0 ok hx
set_option maxRecDepth 100000 in
set_option maxHeartbeats 4000000 in
theorem k5b_X11_submit_86 {g H T N : Nat} {S : cS} {S0 : cS} {R_ : Prop} {X : Int32 × cS → Prop} (hR : ∀ v S', St 1 g H T S' → M5 g H S0 S' → X (v, S') → R_) (hS : St 1 g H T S) (hM : M5 g H S0 S) (ok : KO_X11_submit_86 N g H T S) (hx : X (KF_X11_submit_86 N g H T S)) : R_ := by
  unfold KO_X11_submit_86 at ok
  unfold KF_X11_submit_86 at hx
  exact hR _ _ hS hM hx
set_option maxRecDepth 100000 in
set_option maxHeartbeats 4000000 in
theorem k5b_X11_submit_45 {g H T N : Nat} {S : cS} {S0 : cS} {R_ : Prop} {X : Int32 × cS → Prop} (hR : ∀ v S', St 1 g H T S' → M5 g H S0 S' → X (v, S') → R_) (hS : St 1 g H T S) (hM : M5 g H S0 S) (ok : KO_X11_submit_45 N g H T S) (hx : X (KF_X11_submit_45 N g H T S)) : R_ := by
  unfold KO_X11_submit_45 at ok
  unfold KF_X11_submit_45 at hx
  exact hR _ _ hS hM hx
set_option maxRecDepth 100000 in
set_option maxHeartbeats 4000000 in
theorem k5b_X11_submit_0 {g H T N : Nat} {S : cS} {S0 : cS} {R_ : Prop} {X : Int32 × cS → Prop} (hR : ∀ v S', St 1 g H T S' → M5 g H S0 S' → X (v, S') → R_) {x0 : Nat} {x1 : Int32} {x2 : Int32} {x3 : Int32} {x4 : Int32} {x5 : Int32} {x6 : Int32} (hS : St 1 g H T S) (hM : M5 g H S0 S) (t_x0 : isO g H 9 x0) (ok : KO_X11_submit_0 N g H T x0 x1 x2 x3 x4 x5 x6 S) (hx : X (KF_X11_submit_0 N g H T x0 x1 x2 x3 x4 x5 x6 S)) : R_ := by
  unfold KO_X11_submit_0 at ok
  unfold KF_X11_submit_0 at hx
  have tv_2 := kpc_X11_honestNode hS t_x0 ok.1
  have ok := ok.2
  refine pif_p ok (fun c_9 => ?_) (fun c_9 => ?_)
  · have ok := ok.1 c_9
    have hx := xif_p c_9 hx
    exact k5b_X11_submit_45 hR hS hM  ok hx
  · have ok := ok.2 c_9
    have hx := xif_n c_9 hx
    refine pif_p ok (fun c_17 => ?_) (fun c_17 => ?_)
    · have ok := ok.1 c_17
      have hx := xif_p c_17 hx
      exact k5b_X11_submit_45 hR hS hM  ok hx
    · have ok := ok.2 c_17
      have hx := xif_n c_17 hx
      refine pif_p ok (fun c_21 => ?_) (fun c_21 => ?_)
      · have ok := ok.1 c_21
        have hx := xif_p c_21 hx
        exact k5b_X11_submit_45 hR hS hM  ok hx
      · have ok := ok.2 c_21
        have hx := xif_n c_21 hx
        refine pif_p ok (fun c_27 => ?_) (fun c_27 => ?_)
        · have ok := ok.1 c_27
          have hx := xif_p c_27 hx
          exact k5b_X11_submit_45 hR hS hM  ok hx
        · have ok := ok.2 c_27
          have hx := xif_n c_27 hx
          refine pif_p ok (fun c_31 => ?_) (fun c_31 => ?_)
          · have ok := ok.1 c_31
            have hx := xif_p c_31 hx
            exact k5b_X11_submit_45 hR hS hM  ok hx
          · have ok := ok.2 c_31
            have hx := xif_n c_31 hx
            refine pif_p ok (fun c_37 => ?_) (fun c_37 => ?_)
            · have ok := ok.1 c_37
              have hx := xif_p c_37 hx
              exact k5b_X11_submit_45 hR hS hM  ok hx
            · have ok := ok.2 c_37
              have hx := xif_n c_37 hx
              refine pif_n ok (fun c_42 => ?_) (fun c_42 => ?_)
              · have ok := ok.2 c_42
                have hx := xif_n c_42 hx
                refine pif_p ok (fun c_50 => ?_) (fun c_50 => ?_)
                · have ok := ok.1 c_50
                  have hx := xif_p c_50 hx
                  exact k5b_X11_submit_86 hR hS hM  ok hx
                · have ok := ok.2 c_50
                  have hx := xif_n c_50 hx
                  refine pif_p ok (fun c_58 => ?_) (fun c_58 => ?_)
                  · have ok := ok.1 c_58
                    have hx := xif_p c_58 hx
                    exact k5b_X11_submit_86 hR hS hM  ok hx
                  · have ok := ok.2 c_58
                    have hx := xif_n c_58 hx
                    refine pif_p ok (fun c_63 => ?_) (fun c_63 => ?_)
                    · have ok := ok.1 c_63
                      have hx := xif_p c_63 hx
                      exact k5b_X11_submit_86 hR hS hM  ok hx
                    · have ok := ok.2 c_63
                      have hx := xif_n c_63 hx
                      refine pif_p ok (fun c_70 => ?_) (fun c_70 => ?_)
                      · have ok := ok.1 c_70
                        have hx := xif_p c_70 hx
                        exact k5b_X11_submit_86 hR hS hM  ok hx
                      · have ok := ok.2 c_70
                        have hx := xif_n c_70 hx
                        refine pif_p ok (fun c_76 => ?_) (fun c_76 => ?_)
                        · have ok := ok.1 c_76
                          have hx := xif_p c_76 hx
                          exact k5b_X11_submit_86 hR hS hM  ok hx
                        · have ok := ok.2 c_76
                          have hx := xif_n c_76 hx
                          refine pif_p ok (fun c_83 => ?_) (fun c_83 => ?_)
                          · have ok := ok.1 c_83
                            have hx := xif_p c_83 hx
                            exact k5b_X11_submit_106 hR hS hM t_x0 tv_2 ok hx
                          · have ok := ok.2 c_83
                            have hx := xif_n c_83 hx
                            exact k5b_X11_submit_86 hR hS hM  ok hx
              · have ok := ok.1 c_42
                have hx := xif_p c_42 hx
                exact k5b_X11_submit_45 hR hS hM  ok hx
set_option maxRecDepth 100000 in
set_option maxHeartbeats 4000000 in
theorem k5c_X11_submit {g H T N : Nat} {S : cS} {a0 : Nat} {x1 : Int32} {x2 : Int32} {x3 : Int32} {x4 : Int32} {x5 : Int32} {x6 : Int32} (hS : St 1 g H T S) (t_x0 : isO g H 9 a0) (ok : p_X11_submit N g H T S a0 x1 x2 x3 x4 x5 x6) : St 1 g H T (k_X11_submit N g H T S a0 x1 x2 x3 x4 x5 x6).2 ∧ M5 g H S (k_X11_submit N g H T S a0 x1 x2 x3 x4 x5 x6).2 := by
  exact k5b_X11_submit_0 (X := fun F => F = k_X11_submit N g H T S a0 x1 x2 x3 x4 x5 x6) (fun v S' h1 h2 h => by rw [← h]; exact ⟨h1, h2⟩) hS M5.rfl' t_x0 ok rfl
set_option maxRecDepth 100000 in
set_option maxHeartbeats 4000000 in
theorem k5b_X11_copy_42 {g H T N : Nat} {S : cS} {S0 : cS} {R_ : Prop} {X : Int32 × cS → Prop} (hR : ∀ v S', St 1 g H T S' → M5 g H S0 S' → X (v, S') → R_) (hS : St 1 g H T S) (hM : M5 g H S0 S) (ok : KO_X11_copy_42 N g H T S) (hx : X (KF_X11_copy_42 N g H T S)) : R_ := by
  unfold KO_X11_copy_42 at ok
  unfold KF_X11_copy_42 at hx
  exact hR _ _ hS hM hx
set_option maxRecDepth 100000 in
set_option maxHeartbeats 4000000 in
theorem k5b_X11_copy_25 {g H T N : Nat} {S : cS} {S0 : cS} {R_ : Prop} {X : Int32 × cS → Prop} (hR : ∀ v S', St 1 g H T S' → M5 g H S0 S' → X (v, S') → R_) (hS : St 1 g H T S) (hM : M5 g H S0 S) (ok : KO_X11_copy_25 N g H T S) (hx : X (KF_X11_copy_25 N g H T S)) : R_ := by
  unfold KO_X11_copy_25 at ok
  unfold KF_X11_copy_25 at hx
  exact hR _ _ hS hM hx
set_option maxRecDepth 100000 in
set_option maxHeartbeats 4000000 in
theorem k5b_X11_copy_0 {g H T N : Nat} {S : cS} {S0 : cS} {R_ : Prop} {X : Int32 × cS → Prop} (hR : ∀ v S', St 1 g H T S' → M5 g H S0 S' → X (v, S') → R_) {x0 : Nat} {x1 : Int32} (hS : St 1 g H T S) (hM : M5 g H S0 S) (t_x0 : isO g H 9 x0) (ok : KO_X11_copy_0 N g H T x0 x1 S) (hx : X (KF_X11_copy_0 N g H T x0 x1 S)) : R_ := by
  unfold KO_X11_copy_0 at ok
  unfold KF_X11_copy_0 at hx
  have tv_10 := kpc_X9_loadOf hS (o86 (o90 t_x0)) ok.1
  have ok := ok.2
  refine pif_p ok (fun c_15 => ?_) (fun c_15 => ?_)
  · have ok := ok.1 c_15
    have hx := xif_p c_15 hx
    exact k5b_X11_copy_25 hR hS hM  ok hx
  · have ok := ok.2 c_15
    have hx := xif_n c_15 hx
    have ok := ok.2
    refine pif_n ok (fun c_22 => ?_) (fun c_22 => ?_)
    · have ok := ok.2 c_22
      have hx := xif_n c_22 hx
      have ok := ok.2
      have ok := ok.2
      obtain ⟨hS, hm_39⟩ := k5c_X9_launch hS (o86 (o90 t_x0)) tv_10 ok.1
      have hM := hM.trans hm_39
      have ok := ok.2
      exact k5b_X11_copy_42 hR hS hM  ok hx
    · have ok := ok.1 c_22
      have hx := xif_p c_22 hx
      exact k5b_X11_copy_25 hR hS hM  ok hx
set_option maxRecDepth 100000 in
set_option maxHeartbeats 4000000 in
theorem k5c_X11_copy {g H T N : Nat} {S : cS} {a0 : Nat} {x1 : Int32} (hS : St 1 g H T S) (t_x0 : isO g H 9 a0) (ok : p_X11_copy N g H T S a0 x1) : St 1 g H T (k_X11_copy N g H T S a0 x1).2 ∧ M5 g H S (k_X11_copy N g H T S a0 x1).2 := by
  exact k5b_X11_copy_0 (X := fun F => F = k_X11_copy N g H T S a0 x1) (fun v S' h1 h2 h => by rw [← h]; exact ⟨h1, h2⟩) hS M5.rfl' t_x0 ok rfl
set_option maxRecDepth 100000 in
set_option maxHeartbeats 4000000 in
theorem k5b_X11_crash_23 {g H T N : Nat} {S : cS} {S0 : cS} {R_ : Prop} {X : Int32 × cS → Prop} (hR : ∀ v S', St 1 g H T S' → M5 g H S0 S' → X (v, S') → R_) (hS : St 1 g H T S) (hM : M5 g H S0 S) (ok : KO_X11_crash_23 N g H T S) (hx : X (KF_X11_crash_23 N g H T S)) : R_ := by
  unfold KO_X11_crash_23 at ok
  unfold KF_X11_crash_23 at hx
  exact hR _ _ hS hM hx
set_option maxRecDepth 100000 in
set_option maxHeartbeats 4000000 in
theorem k5b_X11_crash_17 {g H T N : Nat} {S : cS} {S0 : cS} {R_ : Prop} {X : Int32 × cS → Prop} (hR : ∀ v S', St 1 g H T S' → M5 g H S0 S' → X (v, S') → R_) (hS : St 1 g H T S) (hM : M5 g H S0 S) (ok : KO_X11_crash_17 N g H T S) (hx : X (KF_X11_crash_17 N g H T S)) : R_ := by
  unfold KO_X11_crash_17 at ok
  unfold KF_X11_crash_17 at hx
  exact hR _ _ hS hM hx
set_option maxRecDepth 100000 in
set_option maxHeartbeats 4000000 in
theorem k5b_X11_crash_0 {g H T N : Nat} {S : cS} {S0 : cS} {R_ : Prop} {X : Int32 × cS → Prop} (hR : ∀ v S', St 1 g H T S' → M5 g H S0 S' → X (v, S') → R_) {x0 : Nat} {x1 : Int32} (hS : St 1 g H T S) (hM : M5 g H S0 S) (t_x0 : isO g H 9 x0) (ok : KO_X11_crash_0 N g H T x0 x1 S) (hx : X (KF_X11_crash_0 N g H T x0 x1 S)) : R_ := by
  unfold KO_X11_crash_0 at ok
  unfold KF_X11_crash_0 at hx
  have tv_2 := kpc_X11_honestNode hS t_x0 ok.1
  have ok := ok.2
  refine pif_p ok (fun c_7 => ?_) (fun c_7 => ?_)
  · have ok := ok.1 c_7
    have hx := xif_p c_7 hx
    exact k5b_X11_crash_17 hR hS hM  ok hx
  · have ok := ok.2 c_7
    have hx := xif_n c_7 hx
    refine pif_n ok (fun c_14 => ?_) (fun c_14 => ?_)
    · have ok := ok.2 c_14
      have hx := xif_n c_14 hx
      obtain ⟨hS, hm_20⟩ := k5c_X6_fall hS (tN.o tv_2 c_7) ok.1
      have hM := hM.trans hm_20
      have ok := ok.2
      exact k5b_X11_crash_23 hR hS hM  ok hx
    · have ok := ok.1 c_14
      have hx := xif_p c_14 hx
      exact k5b_X11_crash_17 hR hS hM  ok hx
set_option maxRecDepth 100000 in
set_option maxHeartbeats 4000000 in
theorem k5c_X11_crash {g H T N : Nat} {S : cS} {a0 : Nat} {x1 : Int32} (hS : St 1 g H T S) (t_x0 : isO g H 9 a0) (ok : p_X11_crash N g H T S a0 x1) : St 1 g H T (k_X11_crash N g H T S a0 x1).2 ∧ M5 g H S (k_X11_crash N g H T S a0 x1).2 := by
  exact k5b_X11_crash_0 (X := fun F => F = k_X11_crash N g H T S a0 x1) (fun v S' h1 h2 h => by rw [← h]; exact ⟨h1, h2⟩) hS M5.rfl' t_x0 ok rfl
set_option maxRecDepth 100000 in
set_option maxHeartbeats 4000000 in
theorem k5b_X11_cut_21 {g H T N : Nat} {S : cS} {S0 : cS} {R_ : Prop} {X : Int32 × cS → Prop} (hR : ∀ v S', St 1 g H T S' → M5 g H S0 S' → X (v, S') → R_) (hS : St 1 g H T S) (hM : M5 g H S0 S) (ok : KO_X11_cut_21 N g H T S) (hx : X (KF_X11_cut_21 N g H T S)) : R_ := by
  unfold KO_X11_cut_21 at ok
  unfold KF_X11_cut_21 at hx
  exact hR _ _ hS hM hx
set_option maxRecDepth 100000 in
set_option maxHeartbeats 4000000 in
theorem k5b_X11_cut_0 {g H T N : Nat} {S : cS} {S0 : cS} {R_ : Prop} {X : Int32 × cS → Prop} (hR : ∀ v S', St 1 g H T S' → M5 g H S0 S' → X (v, S') → R_) {x0 : Nat} {x1 : Int32} {x2 : Int32} (hS : St 1 g H T S) (hM : M5 g H S0 S) (t_x0 : isO g H 9 x0) (ok : KO_X11_cut_0 N g H T x0 x1 x2 S) (hx : X (KF_X11_cut_0 N g H T x0 x1 x2 S)) : R_ := by
  unfold KO_X11_cut_0 at ok
  unfold KF_X11_cut_0 at hx
  have tv_2 := kpc_X11_honestNode hS t_x0 ok.1
  have ok := ok.2
  refine pif_p ok (fun c_7 => ?_) (fun c_7 => ?_)
  · have ok := ok.1 c_7
    have hx := xif_p c_7 hx
    exact k5b_X11_cut_21 hR hS hM  ok hx
  · have ok := ok.2 c_7
    have hx := xif_n c_7 hx
    refine pif_p ok (fun c_11 => ?_) (fun c_11 => ?_)
    · have ok := ok.1 c_11
      have hx := xif_p c_11 hx
      exact k5b_X11_cut_21 hR hS hM  ok hx
    · have ok := ok.2 c_11
      have hx := xif_n c_11 hx
      refine pif_p ok (fun c_18 => ?_) (fun c_18 => ?_)
      · have ok := ok.1 c_18
        have hx := xif_p c_18 hx
        have hS := hS.I 9 ((za (k_X11_honestNode N g H T S x0 x1)) + 1) x2
        have hM := hM.I 9 ((za (k_X11_honestNode N g H T S x0 x1)) + 1) x2
        exact hR _ _ hS hM hx
      · have ok := ok.2 c_18
        have hx := xif_n c_18 hx
        exact k5b_X11_cut_21 hR hS hM  ok hx
set_option maxRecDepth 100000 in
set_option maxHeartbeats 4000000 in
theorem k5c_X11_cut {g H T N : Nat} {S : cS} {a0 : Nat} {x1 : Int32} {x2 : Int32} (hS : St 1 g H T S) (t_x0 : isO g H 9 a0) (ok : p_X11_cut N g H T S a0 x1 x2) : St 1 g H T (k_X11_cut N g H T S a0 x1 x2).2 ∧ M5 g H S (k_X11_cut N g H T S a0 x1 x2).2 := by
  exact k5b_X11_cut_0 (X := fun F => F = k_X11_cut N g H T S a0 x1 x2) (fun v S' h1 h2 h => by rw [← h]; exact ⟨h1, h2⟩) hS M5.rfl' t_x0 ok rfl

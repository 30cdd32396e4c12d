set_option maxRecDepth 100000 in
set_option maxHeartbeats 4000000 in
theorem k5b_X11_block_137 {g H T N : Nat} {S : cS} {S0 : cS} {R_ : Prop} {X : Int64 × cS → Prop} (hR : ∀ v S', St 1 g H T S' → M5 g H S0 S' → X (v, S') → R_) {s0 : Int64} (hS : St 1 g H T S) (hM : M5 g H S0 S) (ok : KO_X11_block_137 N g H T s0 S) (hx : X (KF_X11_block_137 N g H T s0 S)) : R_ := by
  unfold KO_X11_block_137 at ok
  unfold KF_X11_block_137 at hx
  exact hR _ _ hS hM hx
set_option maxRecDepth 100000 in
set_option maxHeartbeats 4000000 in
theorem k5b_X11_block_96 {g H T N : Nat} {S : cS} {S0 : cS} {R_ : Prop} {X : Int64 × cS → Prop} (hR : ∀ v S', St 1 g H T S' → M5 g H S0 S' → X (v, S') → R_) {x3 : Int32} {s0 : Option Nat} (hS : St 1 g H T S) (hM : M5 g H S0 S) (t_s0 : tK S 5 s0) (ok : KO_X11_block_96 N g H T x3 s0 S) (hx : X (KF_X11_block_96 N g H T x3 s0 S)) : R_ := by
  unfold KO_X11_block_96 at ok
  unfold KF_X11_block_96 at hx
  refine pif_n ok (fun c_100 => ?_) (fun c_100 => ?_)
  · have ok := ok.2 c_100
    have hx := xif_n c_100 hx
    refine pif_p ok (fun c_113 => ?_) (fun c_113 => ?_)
    · have ok := ok.1 c_113
      have hx := xif_p c_113 hx
      have p_122 := hS.m0k t_s0 c_100
      have ok := ok.2
      exact k5b_X11_block_137 hR hS hM  ok hx
    · have ok := ok.2 c_113
      have hx := xif_n c_113 hx
      exact k5b_X11_block_137 hR hS hM  ok hx
  · have ok := ok.1 c_100
    have hx := xif_p c_100 hx
    exact hR _ _ hS hM hx
set_option maxRecDepth 100000 in
set_option maxHeartbeats 4000000 in
theorem k5b_X11_block_78 {g H T N : Nat} {S : cS} {S0 : cS} {R_ : Prop} {X : Int64 × cS → Prop} (hR : ∀ v S', St 1 g H T S' → M5 g H S0 S' → X (v, S') → R_) {s0 : Int64} (hS : St 1 g H T S) (hM : M5 g H S0 S) (ok : KO_X11_block_78 N g H T s0 S) (hx : X (KF_X11_block_78 N g H T s0 S)) : R_ := by
  unfold KO_X11_block_78 at ok
  unfold KF_X11_block_78 at hx
  exact hR _ _ hS hM hx
set_option maxRecDepth 100000 in
set_option maxHeartbeats 4000000 in
theorem k5b_X11_block_52 {g H T N : Nat} {S : cS} {S0 : cS} {R_ : Prop} {X : Int64 × cS → Prop} (hR : ∀ v S', St 1 g H T S' → M5 g H S0 S' → X (v, S') → R_) {x0 : Nat} {x3 : Int32} {s0 : Int32} (hS : St 1 g H T S) (hM : M5 g H S0 S) (t_x0 : isO g H 9 x0) (ok : KO_X11_block_52 N g H T x0 x3 s0 S) (hx : X (KF_X11_block_52 N g H T x0 x3 s0 S)) : R_ := by
  unfold KO_X11_block_52 at ok
  unfold KF_X11_block_52 at hx
  refine pif_p ok (fun c_56 => ?_) (fun c_56 => ?_)
  · have ok := ok.1 c_56
    have hx := xif_p c_56 hx
    have ok := ok.2
    exact k5b_X11_block_78 hR hS hM  ok hx
  · have ok := ok.2 c_56
    have hx := xif_n c_56 hx
    exact k5b_X11_block_78 hR hS hM  ok hx
set_option maxRecDepth 100000 in
set_option maxHeartbeats 4000000 in
theorem k5b_X11_block_27 {g H T N : Nat} {S : cS} {S0 : cS} {R_ : Prop} {X : Int64 × cS → Prop} (hR : ∀ v S', St 1 g H T S' → M5 g H S0 S' → X (v, S') → R_) (hS : St 1 g H T S) (hM : M5 g H S0 S) (ok : KO_X11_block_27 N g H T S) (hx : X (KF_X11_block_27 N g H T S)) : R_ := by
  unfold KO_X11_block_27 at ok
  unfold KF_X11_block_27 at hx
  exact hR _ _ hS hM hx
set_option maxRecDepth 100000 in
set_option maxHeartbeats 4000000 in
theorem k5b_X11_block_0 {g H T N : Nat} {S : cS} {S0 : cS} {R_ : Prop} {X : Int64 × cS → Prop} (hR : ∀ v S', St 1 g H T S' → M5 g H S0 S' → X (v, S') → R_) {x0 : Nat} {x1 : Int32} {x2 : Int32} {x3 : Int32} (hS : St 1 g H T S) (hM : M5 g H S0 S) (t_x0 : isO g H 9 x0) (ok : KO_X11_block_0 N g H T x0 x1 x2 x3 S) (hx : X (KF_X11_block_0 N g H T x0 x1 x2 x3 S)) : R_ := by
  unfold KO_X11_block_0 at ok
  unfold KF_X11_block_0 at hx
  have tv_2 := kpc_X11_honestNode hS t_x0 ok.1
  have ok := ok.2
  refine pif_p ok (fun c_9 => ?_) (fun c_9 => ?_)
  · have ok := ok.1 c_9
    have hx := xif_p c_9 hx
    exact k5b_X11_block_27 hR hS hM  ok hx
  · have ok := ok.2 c_9
    have hx := xif_n c_9 hx
    refine pif_p ok (fun c_13 => ?_) (fun c_13 => ?_)
    · have ok := ok.1 c_13
      have hx := xif_p c_13 hx
      exact k5b_X11_block_27 hR hS hM  ok hx
    · have ok := ok.2 c_13
      have hx := xif_n c_13 hx
      refine pif_p ok (fun c_18 => ?_) (fun c_18 => ?_)
      · have ok := ok.1 c_18
        have hx := xif_p c_18 hx
        exact k5b_X11_block_27 hR hS hM  ok hx
      · have ok := ok.2 c_18
        have hx := xif_n c_18 hx
        refine pif_p ok (fun c_24 => ?_) (fun c_24 => ?_)
        · have ok := ok.1 c_24
          have hx := xif_p c_24 hx
          refine pif_p ok (fun c_32 => ?_) (fun c_32 => ?_)
          · have ok := ok.1 c_32
            have hx := xif_p c_32 hx
            refine pif_n ok (fun c_80 => ?_) (fun c_80 => ?_)
            · have ok := ok.2 c_80
              have hx := xif_n c_80 hx
              have p_93 := hS.lk (tN.o tv_2 c_9) (Or.inr rfl)
              exact k5b_X11_block_96 hR hS hM p_93 ok hx
            · have ok := ok.1 c_80
              have hx := xif_p c_80 hx
              have p_85 := hS.lk (tN.o tv_2 c_9) (Or.inl rfl)
              exact k5b_X11_block_96 hR hS hM p_85 ok hx
          · have ok := ok.2 c_32
            have hx := xif_n c_32 hx
            obtain ⟨hS, hm_49⟩ := k5c_X4_fetch hS (o52 (tN.o tv_2 c_9)) (hS.rk (c := 8) (k := 10) (o90 t_x0) rfl (by omega)) ok.1
            have hM := hM.trans hm_49
            have ok := ok.2
            exact k5b_X11_block_52 hR hS hM t_x0 ok hx
        · have ok := ok.2 c_24
          have hx := xif_n c_24 hx
          exact k5b_X11_block_27 hR hS hM  ok hx
set_option maxRecDepth 100000 in
set_option maxHeartbeats 4000000 in
theorem k5c_X11_block {g H T N : Nat} {S : cS} {a0 : Nat} {x1 : Int32} {x2 : Int32} {x3 : Int32} (hS : St 1 g H T S) (t_x0 : isO g H 9 a0) (ok : p_X11_block N g H T S a0 x1 x2 x3) : St 1 g H T (k_X11_block N g H T S a0 x1 x2 x3).2 ∧ M5 g H S (k_X11_block N g H T S a0 x1 x2 x3).2 := by
  exact k5b_X11_block_0 (X := fun F => F = k_X11_block N g H T S a0 x1 x2 x3) (fun v S' h1 h2 h => by rw [← h]; exact ⟨h1, h2⟩) hS M5.rfl' t_x0 ok rfl
set_option maxRecDepth 100000 in
set_option maxHeartbeats 4000000 in
theorem k5b_X11_path_116 {g H T N : Nat} {S : cS} {S0 : cS} {R_ : Prop} {X : Int64 × cS → Prop} (hR : ∀ v S', St 1 g H T S' → M5 g H S0 S' → X (v, S') → R_) {x4 : Int32} {s0 : Option Nat} {s1 : Int32} (hS : St 1 g H T S) (hM : M5 g H S0 S) (t_s0 : tK S 20 s0) (ok : KO_X11_path_116 N g H T x4 s0 s1 S) (hx : X (KF_X11_path_116 N g H T x4 s0 s1 S)) : R_ := by
  unfold KO_X11_path_116 at ok
  unfold KF_X11_path_116 at hx
  have ok := ok.2
  exact hR _ _ hS hM hx
set_option maxRecDepth 100000 in
set_option maxHeartbeats 4000000 in
theorem k5b_X11_path_78 {g H T N : Nat} {S : cS} {S0 : cS} {R_ : Prop} {X : Int64 × cS → Prop} (hR : ∀ v S', St 1 g H T S' → M5 g H S0 S' → X (v, S') → R_) {x0 : Nat} {x3 : Int32} {x4 : Int32} (hS : St 1 g H T S) (hM : M5 g H S0 S) (t_x0 : isO g H 9 x0) (ok : KO_X11_path_78 N g H T x0 x3 x4 S) (hx : X (KF_X11_path_78 N g H T x0 x3 x4 S)) : R_ := by
  unfold KO_X11_path_78 at ok
  unfold KF_X11_path_78 at hx
  refine pif_p ok (fun c_89 => ?_) (fun c_89 => ?_)
  · have ok := ok.1 c_89
    have hx := xif_p c_89 hx
    obtain ⟨hS, hm_113⟩ := k5c_X2_climb hS (o85 (o90 t_x0)) (hS.rk (c := 9) (k := 2) t_x0 rfl (by omega)) ok.1
    have hM := hM.trans hm_113
    have ok := ok.2
    exact k5b_X11_path_116 hR hS hM (hS.rk (c := 9) (k := 2) t_x0 rfl (by omega)) ok hx
  · have ok := ok.2 c_89
    have hx := xif_n c_89 hx
    exact hR _ _ hS hM hx
set_option maxRecDepth 100000 in
set_option maxHeartbeats 4000000 in
theorem k5b_X11_path_53 {g H T N : Nat} {S : cS} {S0 : cS} {R_ : Prop} {X : Int64 × cS → Prop} (hR : ∀ v S', St 1 g H T S' → M5 g H S0 S' → X (v, S') → R_) {x0 : Nat} {x3 : Int32} {x4 : Int32} {s0 : Int32} (hS : St 1 g H T S) (hM : M5 g H S0 S) (t_x0 : isO g H 9 x0) (ok : KO_X11_path_53 N g H T x0 x3 x4 s0 S) (hx : X (KF_X11_path_53 N g H T x0 x3 x4 s0 S)) : R_ := by
  unfold KO_X11_path_53 at ok
  unfold KF_X11_path_53 at hx
  refine pif_p ok (fun c_53 => ?_) (fun c_53 => ?_)
  · have ok := ok.1 c_53
    have hx := xif_p c_53 hx
    obtain ⟨hS, hm_75⟩ := k5c_X2_plant hS (o85 (o90 t_x0)) (hS.rk (c := 8) (k := 10) (o90 t_x0) rfl (by omega)) ok.1
    have hM := hM.trans hm_75
    have ok := ok.2
    exact k5b_X11_path_78 hR hS hM t_x0 ok hx
  · have ok := ok.2 c_53
    have hx := xif_n c_53 hx
    exact hR _ _ hS hM hx
set_option maxRecDepth 100000 in
set_option maxHeartbeats 4000000 in
theorem k5b_X11_path_32 {g H T N : Nat} {S : cS} {S0 : cS} {R_ : Prop} {X : Int64 × cS → Prop} (hR : ∀ v S', St 1 g H T S' → M5 g H S0 S' → X (v, S') → R_) (hS : St 1 g H T S) (hM : M5 g H S0 S) (ok : KO_X11_path_32 N g H T S) (hx : X (KF_X11_path_32 N g H T S)) : R_ := by
  unfold KO_X11_path_32 at ok
  unfold KF_X11_path_32 at hx
  exact hR _ _ hS hM hx
set_option maxRecDepth 100000 in
set_option maxHeartbeats 4000000 in
theorem k5b_X11_path_0 {g H T N : Nat} {S : cS} {S0 : cS} {R_ : Prop} {X : Int64 × cS → Prop} (hR : ∀ v S', St 1 g H T S' → M5 g H S0 S' → X (v, S') → R_) {x0 : Nat} {x1 : Int32} {x2 : Int32} {x3 : Int32} {x4 : Int32} (hS : St 1 g H T S) (hM : M5 g H S0 S) (t_x0 : isO g H 9 x0) (ok : KO_X11_path_0 N g H T x0 x1 x2 x3 x4 S) (hx : X (KF_X11_path_0 N g H T x0 x1 x2 x3 x4 S)) : R_ := by
  unfold KO_X11_path_0 at ok
  unfold KF_X11_path_0 at hx
  have tv_2 := kpc_X11_honestNode hS t_x0 ok.1
  have ok := ok.2
  refine pif_p ok (fun c_9 => ?_) (fun c_9 => ?_)
  · have ok := ok.1 c_9
    have hx := xif_p c_9 hx
    exact k5b_X11_path_32 hR hS hM  ok hx
  · have ok := ok.2 c_9
    have hx := xif_n c_9 hx
    refine pif_p ok (fun c_14 => ?_) (fun c_14 => ?_)
    · have ok := ok.1 c_14
      have hx := xif_p c_14 hx
      exact k5b_X11_path_32 hR hS hM  ok hx
    · have ok := ok.2 c_14
      have hx := xif_n c_14 hx
      refine pif_p ok (fun c_20 => ?_) (fun c_20 => ?_)
      · have ok := ok.1 c_20
        have hx := xif_p c_20 hx
        exact k5b_X11_path_32 hR hS hM  ok hx
      · have ok := ok.2 c_20
        have hx := xif_n c_20 hx
        refine pif_p ok (fun c_24 => ?_) (fun c_24 => ?_)
        · have ok := ok.1 c_24
          have hx := xif_p c_24 hx
          exact k5b_X11_path_32 hR hS hM  ok hx
        · have ok := ok.2 c_24
          have hx := xif_n c_24 hx
          refine pif_p ok (fun c_29 => ?_) (fun c_29 => ?_)
          · have ok := ok.1 c_29
            have hx := xif_p c_29 hx
            obtain ⟨hS, hm_50⟩ := k5c_X4_fetch hS (o52 (tN.o tv_2 c_9)) (hS.rk (c := 8) (k := 10) (o90 t_x0) rfl (by omega)) ok.1
            have hM := hM.trans hm_50
            have ok := ok.2
            exact k5b_X11_path_53 hR hS hM t_x0 ok hx
          · have ok := ok.2 c_29
            have hx := xif_n c_29 hx
            exact k5b_X11_path_32 hR hS hM  ok hx
set_option maxRecDepth 100000 in
set_option maxHeartbeats 4000000 in
theorem k5c_X11_path {g H T N : Nat} {S : cS} {a0 : Nat} {x1 : Int32} {x2 : Int32} {x3 : Int32} {x4 : Int32} (hS : St 1 g H T S) (t_x0 : isO g H 9 a0) (ok : p_X11_path N g H T S a0 x1 x2 x3 x4) : St 1 g H T (k_X11_path N g H T S a0 x1 x2 x3 x4).2 ∧ M5 g H S (k_X11_path N g H T S a0 x1 x2 x3 x4).2 := by
  exact k5b_X11_path_0 (X := fun F => F = k_X11_path N g H T S a0 x1 x2 x3 x4) (fun v S' h1 h2 h => by rw [← h]; exact ⟨h1, h2⟩) hS M5.rfl' t_x0 ok rfl
set_option maxRecDepth 100000 in
set_option maxHeartbeats 4000000 in
theorem k5b_X11_account_82 {g H T N : Nat} {S : cS} {S0 : cS} {R_ : Prop} {X : Int64 × cS → Prop} (hR : ∀ v S', St 1 g H T S' → M5 g H S0 S' → X (v, S') → R_) {x3 : Int32} {s0 : Option Nat} {s1 : Int32} {s2 : Int32} (hS : St 1 g H T S) (hM : M5 g H S0 S) (t_s0 : tK S 20 s0) (ok : KO_X11_account_82 N g H T x3 s0 s1 s2 S) (hx : X (KF_X11_account_82 N g H T x3 s0 s1 s2 S)) : R_ := by
  unfold KO_X11_account_82 at ok
  unfold KF_X11_account_82 at hx
  have ok := ok.2
  exact hR _ _ hS hM hx
set_option maxRecDepth 100000 in
set_option maxHeartbeats 4000000 in
theorem k5b_X11_account_59 {g H T N : Nat} {S : cS} {S0 : cS} {R_ : Prop} {X : Int64 × cS → Prop} (hR : ∀ v S', St 1 g H T S' → M5 g H S0 S' → X (v, S') → R_) {x0 : Nat} {x2 : Int32} {x3 : Int32} (hS : St 1 g H T S) (hM : M5 g H S0 S) (t_x0 : isO g H 9 x0) (ok : KO_X11_account_59 N g H T x0 x2 x3 S) (hx : X (KF_X11_account_59 N g H T x0 x2 x3 S)) : R_ := by
  unfold KO_X11_account_59 at ok
  unfold KF_X11_account_59 at hx
  obtain ⟨hS, hm_79⟩ := k5c_X2_climb hS (o85 (o90 t_x0)) (hS.rk (c := 9) (k := 2) t_x0 rfl (by omega)) ok.1
  have hM := hM.trans hm_79
  have ok := ok.2
  exact k5b_X11_account_82 hR hS hM (hS.rk (c := 9) (k := 2) t_x0 rfl (by omega)) ok hx
set_option maxRecDepth 100000 in
set_option maxHeartbeats 4000000 in
theorem k5b_X11_account_45 {g H T N : Nat} {S : cS} {S0 : cS} {R_ : Prop} {X : Int64 × cS → Prop} (hR : ∀ v S', St 1 g H T S' → M5 g H S0 S' → X (v, S') → R_) {x0 : Nat} {x2 : Int32} {x3 : Int32} {x4 : Option Nat} (hS : St 1 g H T S) (hM : M5 g H S0 S) (t_x0 : isO g H 9 x0) (t_x4 : tN g H x4) (ok : KO_X11_account_45 N g H T x0 x2 x3 x4 S) (hx : X (KF_X11_account_45 N g H T x0 x2 x3 x4 S)) : R_ := by
  unfold KO_X11_account_45 at ok
  unfold KF_X11_account_45 at hx
  have nn_47 := ok.1
  have ok := ok.2
  obtain ⟨hS, hm_56⟩ := k5c_X0_encode hS (o54 (tN.o t_x4 nn_47)) (hS.rk (c := 9) (k := 2) t_x0 rfl (by omega)) ok.1
  have hM := hM.trans hm_56
  have ok := ok.2
  exact k5b_X11_account_59 hR hS hM t_x0 ok hx
set_option maxRecDepth 100000 in
set_option maxHeartbeats 4000000 in
theorem k5b_X11_account_26 {g H T N : Nat} {S : cS} {S0 : cS} {R_ : Prop} {X : Int64 × cS → Prop} (hR : ∀ v S', St 1 g H T S' → M5 g H S0 S' → X (v, S') → R_) (hS : St 1 g H T S) (hM : M5 g H S0 S) (ok : KO_X11_account_26 N g H T S) (hx : X (KF_X11_account_26 N g H T S)) : R_ := by
  unfold KO_X11_account_26 at ok
  unfold KF_X11_account_26 at hx
  exact hR _ _ hS hM hx
set_option maxRecDepth 100000 in
set_option maxHeartbeats 4000000 in
theorem k5b_X11_account_0 {g H T N : Nat} {S : cS} {S0 : cS} {R_ : Prop} {X : Int64 × cS → Prop} (hR : ∀ v S', St 1 g H T S' → M5 g H S0 S' → X (v, S') → R_) {x0 : Nat} {x1 : Int32} {x2 : Int32} {x3 : Int32} (hS : St 1 g H T S) (hM : M5 g H S0 S) (t_x0 : isO g H 9 x0) (ok : KO_X11_account_0 N g H T x0 x1 x2 x3 S) (hx : X (KF_X11_account_0 N g H T x0 x1 x2 x3 S)) : R_ := by
  unfold KO_X11_account_0 at ok
  unfold KF_X11_account_0 at hx
  have tv_2 := kpc_X11_honestNode hS t_x0 ok.1
  have ok := ok.2
  refine pif_p ok (fun c_9 => ?_) (fun c_9 => ?_)
  · have ok := ok.1 c_9
    have hx := xif_p c_9 hx
    exact k5b_X11_account_26 hR hS hM  ok hx
  · have ok := ok.2 c_9
    have hx := xif_n c_9 hx
    refine pif_p ok (fun c_13 => ?_) (fun c_13 => ?_)
    · have ok := ok.1 c_13
      have hx := xif_p c_13 hx
      exact k5b_X11_account_26 hR hS hM  ok hx
    · have ok := ok.2 c_13
      have hx := xif_n c_13 hx
      refine pif_p ok (fun c_19 => ?_) (fun c_19 => ?_)
      · have ok := ok.1 c_19
        have hx := xif_p c_19 hx
        exact k5b_X11_account_26 hR hS hM  ok hx
      · have ok := ok.2 c_19
        have hx := xif_n c_19 hx
        refine pif_p ok (fun c_23 => ?_) (fun c_23 => ?_)
        · have ok := ok.1 c_23
          have hx := xif_p c_23 hx
          obtain ⟨hS, hm_42⟩ := k5c_X0_plant hS (o54 (tN.o tv_2 c_9)) (o85 (o90 t_x0)) ok.1
          have hM := hM.trans hm_42
          have ok := ok.2
          exact k5b_X11_account_45 hR hS hM t_x0 tv_2 ok hx
        · have ok := ok.2 c_23
          have hx := xif_n c_23 hx
          exact k5b_X11_account_26 hR hS hM  ok hx
set_option maxRecDepth 100000 in
set_option maxHeartbeats 4000000 in
theorem k5c_X11_account {g H T N : Nat} {S : cS} {a0 : Nat} {x1 : Int32} {x2 : Int32} {x3 : Int32} (hS : St 1 g H T S) (t_x0 : isO g H 9 a0) (ok : p_X11_account N g H T S a0 x1 x2 x3) : St 1 g H T (k_X11_account N g H T S a0 x1 x2 x3).2 ∧ M5 g H S (k_X11_account N g H T S a0 x1 x2 x3).2 := by
  exact k5b_X11_account_0 (X := fun F => F = k_X11_account N g H T S a0 x1 x2 x3) (fun v S' h1 h2 h => by rw [← h]; exact ⟨h1, h2⟩) hS M5.rfl' t_x0 ok rfl

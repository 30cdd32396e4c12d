set_option maxRecDepth 100000 in
set_option maxHeartbeats 4000000 in
theorem k5b_X7_prevotesOld_139 {u g H T N : Nat} {S : cS} {S0 : cS} {R_ : Prop} {X : Int32 × cS → Prop} (hR : ∀ v S', St u g H T S' → M5 g H S0 S' → X (v, S') → R_) (hS : St u g H T S) (hM : M5 g H S0 S) (ok : KO_X7_prevotesOld_139 N g H T S) (hx : X (KF_X7_prevotesOld_139 N g H T S)) : R_ := by
  unfold KO_X7_prevotesOld_139 at ok
  unfold KF_X7_prevotesOld_139 at hx
  exact hR _ _ hS hM hx
set_option maxRecDepth 100000 in
set_option maxHeartbeats 4000000 in
theorem k5b_X7_prevotesOld_135 {u g H T N : Nat} {S : cS} {S0 : cS} {R_ : Prop} {X : Int32 × cS → Prop} (hR : ∀ v S', St u g H T S' → M5 g H S0 S' → X (v, S') → R_) {s0 : Option Nat} {s1 : Option Nat} (hS : St u g H T S) (hM : M5 g H S0 S) (t_s0 : tN g H s0) (t_s1 : tK S 5 s1) (ok : KO_X7_prevotesOld_135 N g H T s0 s1 S) (hx : X (KF_X7_prevotesOld_135 N g H T s0 s1 S)) : R_ := by
  unfold KO_X7_prevotesOld_135 at ok
  unfold KF_X7_prevotesOld_135 at hx
  obtain ⟨hS, hm_136⟩ := k5c_X7_utter hS t_s0 t_s1 ok.1
  have hM := hM.trans hm_136
  have ok := ok.2
  exact k5b_X7_prevotesOld_139 hR hS hM  ok hx
set_option maxRecDepth 100000 in
set_option maxHeartbeats 4000000 in
theorem k5b_X7_prevotesOld_132 {u g H T N : Nat} {S : cS} {S0 : cS} {R_ : Prop} {X : Int32 × cS → Prop} (hR : ∀ v S', St u g H T S' → M5 g H S0 S' → X (v, S') → R_) {s0 : Option Nat} {s1 : Option Nat} {s2 : Int32} {s3 : Option Nat} (hS : St u g H T S) (hM : M5 g H S0 S) (t_s0 : tN g H s0) (t_s1 : tN g H s1) (t_s3 : tK S 5 s3) (ok : KO_X7_prevotesOld_132 N g H T s0 s1 s2 s3 S) (hx : X (KF_X7_prevotesOld_132 N g H T s0 s1 s2 s3 S)) : R_ := by
  unfold KO_X7_prevotesOld_132 at ok
  unfold KF_X7_prevotesOld_132 at hx
  have nn_132 := ok.1.1
  obtain ⟨hS, hm_132, tv_132⟩ := k5c_X6_vote hS (tN.o t_s1 nn_132) t_s3 ok.1.2
  have hM := hM.trans hm_132
  have ok := ok.2
  exact k5b_X7_prevotesOld_135 hR hS hM t_s0 tv_132 ok hx
set_option maxRecDepth 100000 in
set_option maxHeartbeats 4000000 in
theorem k5b_X7_prevotesOld_119 {u g H T N : Nat} {S : cS} {S0 : cS} {R_ : Prop} {X : Int32 × cS → Prop} (hR : ∀ v S', St u g H T S' → M5 g H S0 S' → X (v, S') → R_) {x0 : Option Nat} {x1 : Option Nat} {s0 : Int32} (hS : St u g H T S) (hM : M5 g H S0 S) (t_x0 : tN g H x0) (t_x1 : tK S 5 x1) (ok : KO_X7_prevotesOld_119 N g H T x0 x1 s0 S) (hx : X (KF_X7_prevotesOld_119 N g H T x0 x1 s0 S)) : R_ := by
  unfold KO_X7_prevotesOld_119 at ok
  unfold KF_X7_prevotesOld_119 at hx
  refine pif_p ok (fun c_124 => ?_) (fun c_124 => ?_)
  · have ok := ok.1 c_124
    have hx := xif_p c_124 hx
    exact k5b_X7_prevotesOld_132 hR hS hM t_x0 t_x0 tK_none ok hx
  · have ok := ok.2 c_124
    have hx := xif_n c_124 hx
    exact k5b_X7_prevotesOld_132 hR hS hM t_x0 t_x0 t_x1 ok hx
set_option maxRecDepth 100000 in
set_option maxHeartbeats 4000000 in
theorem k5b_X7_prevotesOld_118 {u g H T N : Nat} {S : cS} {S0 : cS} {R_ : Prop} {X : Int32 × cS → Prop} (hR : ∀ v S', St u g H T S' → M5 g H S0 S' → X (v, S') → R_) {x0 : Option Nat} {x1 : Option Nat} (hS : St u g H T S) (hM : M5 g H S0 S) (t_x0 : tN g H x0) (t_x1 : tK S 5 x1) (ok : KO_X7_prevotesOld_118 N g H T x0 x1 S) (hx : X (KF_X7_prevotesOld_118 N g H T x0 x1 S)) : R_ := by
  unfold KO_X7_prevotesOld_118 at ok
  unfold KF_X7_prevotesOld_118 at hx
  exact k5b_X7_prevotesOld_119 hR hS hM t_x0 t_x1 ok hx
set_option maxRecDepth 100000 in
set_option maxHeartbeats 4000000 in
theorem k5b_X7_prevotesOld_114 {u g H T N : Nat} {S : cS} {S0 : cS} {R_ : Prop} {X : Int32 × cS → Prop} (hR : ∀ v S', St u g H T S' → M5 g H S0 S' → X (v, S') → R_) {x0 : Option Nat} {x1 : Option Nat} (hS : St u g H T S) (hM : M5 g H S0 S) (t_x0 : tN g H x0) (t_x1 : tK S 5 x1) (ok : KO_X7_prevotesOld_114 N g H T x0 x1 S) (hx : X (KF_X7_prevotesOld_114 N g H T x0 x1 S)) : R_ := by
  unfold KO_X7_prevotesOld_114 at ok
  unfold KF_X7_prevotesOld_114 at hx
  exact k5b_X7_prevotesOld_119 hR hS hM t_x0 t_x1 ok hx
set_option maxRecDepth 100000 in
set_option maxHeartbeats 4000000 in
theorem k5b_X7_prevotesOld_85 {u g H T N : Nat} {S : cS} {S0 : cS} {R_ : Prop} {X : Int32 × cS → Prop} (hR : ∀ v S', St u g H T S' → M5 g H S0 S' → X (v, S') → R_) {x0 : Option Nat} {x1 : Option Nat} {x2 : Int32} {s0 : Int32} (hS : St u g H T S) (hM : M5 g H S0 S) (t_x0 : tN g H x0) (t_x1 : tK S 5 x1) (ok : KO_X7_prevotesOld_85 N g H T x0 x1 x2 s0 S) (hx : X (KF_X7_prevotesOld_85 N g H T x0 x1 x2 s0 S)) : R_ := by
  unfold KO_X7_prevotesOld_85 at ok
  unfold KF_X7_prevotesOld_85 at hx
  refine pif_p ok (fun c_85 => ?_) (fun c_85 => ?_)
  · have ok := ok.1 c_85
    have hx := xif_p c_85 hx
    exact k5b_X7_prevotesOld_118 hR hS hM t_x0 t_x1 ok hx
  · have ok := ok.2 c_85
    have hx := xif_n c_85 hx
    have nn_89 := ok.1
    have ok := ok.2
    refine pif_p ok (fun c_93 => ?_) (fun c_93 => ?_)
    · have ok := ok.1 c_93
      have hx := xif_p c_93 hx
      exact k5b_X7_prevotesOld_114 hR hS hM t_x0 t_x1 ok hx
    · have ok := ok.2 c_93
      have hx := xif_n c_93 hx
      have p_97 := hS.lk (tN.o t_x0 nn_89) (Or.inl rfl)
      refine pif_p ok (fun c_100 => ?_) (fun c_100 => ?_)
      · have ok := ok.1 c_100
        have hx := xif_p c_100 hx
        exact k5b_X7_prevotesOld_118 hR hS hM t_x0 t_x1 ok hx
      · have ok := ok.2 c_100
        have hx := xif_n c_100 hx
        have p_104 := hS.lk (tN.o t_x0 nn_89) (Or.inl rfl)
        have ok := ok.2
        refine pif_p ok (fun c_111 => ?_) (fun c_111 => ?_)
        · have ok := ok.1 c_111
          have hx := xif_p c_111 hx
          exact k5b_X7_prevotesOld_118 hR hS hM t_x0 t_x1 ok hx
        · have ok := ok.2 c_111
          have hx := xif_n c_111 hx
          exact k5b_X7_prevotesOld_114 hR hS hM t_x0 t_x1 ok hx
set_option maxRecDepth 100000 in
set_option maxHeartbeats 4000000 in
theorem k5b_X7_prevotesOld_43 {u g H T N : Nat} {S : cS} {S0 : cS} {R_ : Prop} {X : Int32 × cS → Prop} (hR : ∀ v S', St u g H T S' → M5 g H S0 S' → X (v, S') → R_) (hS : St u g H T S) (hM : M5 g H S0 S) (ok : KO_X7_prevotesOld_43 N g H T S) (hx : X (KF_X7_prevotesOld_43 N g H T S)) : R_ := by
  unfold KO_X7_prevotesOld_43 at ok
  unfold KF_X7_prevotesOld_43 at hx
  exact hR _ _ hS hM hx
set_option maxRecDepth 100000 in
set_option maxHeartbeats 4000000 in
theorem k5b_X7_prevotesOld_26 {u g H T N : Nat} {S : cS} {S0 : cS} {R_ : Prop} {X : Int32 × cS → Prop} (hR : ∀ v S', St u g H T S' → M5 g H S0 S' → X (v, S') → R_) {x0 : Option Nat} {s0 : Option Nat} (hS : St u g H T S) (hM : M5 g H S0 S) (t_x0 : tN g H x0) (t_s0 : tK S 5 s0) (ok : KO_X7_prevotesOld_26 N g H T x0 s0 S) (hx : X (KF_X7_prevotesOld_26 N g H T x0 s0 S)) : R_ := by
  unfold KO_X7_prevotesOld_26 at ok
  unfold KF_X7_prevotesOld_26 at hx
  refine pif_p ok (fun c_28 => ?_) (fun c_28 => ?_)
  · have ok := ok.1 c_28
    have hx := xif_p c_28 hx
    exact k5b_X7_prevotesOld_43 hR hS hM  ok hx
  · have ok := ok.2 c_28
    have hx := xif_n c_28 hx
    have ok := ok.2
    have nn_37 := ok.1
    have ok := ok.2
    refine pif_p ok (fun c_40 => ?_) (fun c_40 => ?_)
    · have ok := ok.1 c_40
      have hx := xif_p c_40 hx
      have ok := ok.2
      have ok := ok.2
      refine pif_p ok (fun c_72 => ?_) (fun c_72 => ?_)
      · have ok := ok.1 c_72
        have hx := xif_p c_72 hx
        obtain ⟨hS, hm_82⟩ := k5c_X7_approves hS t_x0 ok.1
        have hM := hM.trans hm_82
        have ok := ok.2
        exact k5b_X7_prevotesOld_85 hR hS hM t_x0 (hm_82.tK t_s0 (by decide)) ok hx
      · have ok := ok.2 c_72
        have hx := xif_n c_72 hx
        exact hR _ _ hS hM hx
    · have ok := ok.2 c_40
      have hx := xif_n c_40 hx
      exact k5b_X7_prevotesOld_43 hR hS hM  ok hx
set_option maxRecDepth 100000 in
set_option maxHeartbeats 4000000 in
theorem k5b_X7_prevotesOld_0 {u g H T N : Nat} {S : cS} {S0 : cS} {R_ : Prop} {X : Int32 × cS → Prop} (hR : ∀ v S', St u g H T S' → M5 g H S0 S' → X (v, S') → R_) {x0 : Option Nat} (hS : St u g H T S) (hM : M5 g H S0 S) (t_x0 : tN g H x0) (ok : KO_X7_prevotesOld_0 N g H T x0 S) (hx : X (KF_X7_prevotesOld_0 N g H T x0 S)) : R_ := by
  unfold KO_X7_prevotesOld_0 at ok
  unfold KF_X7_prevotesOld_0 at hx
  have nn_1 := ok.1
  have ok := ok.2
  refine pif_n ok (fun c_4 => ?_) (fun c_4 => ?_)
  · have ok := ok.2 c_4
    have hx := xif_n c_4 hx
    exact k5b_X7_prevotesOld_26 hR hS hM t_x0 tK_none ok hx
  · have ok := ok.1 c_4
    have hx := xif_p c_4 hx
    have tv_19 := kpc_X8_proposal hS (o53 (tN.o t_x0 nn_1)) ok.1
    have ok := ok.2
    exact k5b_X7_prevotesOld_26 hR hS hM t_x0 tv_19 ok hx
set_option maxRecDepth 100000 in
set_option maxHeartbeats 4000000 in
theorem k5c_X7_prevotesOld {u g H T N : Nat} {S : cS} {x0 : Option Nat} (hS : St u g H T S) (t_x0 : tN g H x0) (ok : p_X7_prevotesOld N g H T S x0) : St u g H T (k_X7_prevotesOld N g H T S x0).2 ∧ M5 g H S (k_X7_prevotesOld N g H T S x0).2 := by
  exact k5b_X7_prevotesOld_0 (X := fun F => F = k_X7_prevotesOld N g H T S x0) (fun v S' h1 h2 h => by rw [← h]; exact ⟨h1, h2⟩) hS M5.rfl' t_x0 ok rfl
set_option maxRecDepth 100000 in
set_option maxHeartbeats 4000000 in
theorem k5b_X7_locks_215 {u g H T N : Nat} {S : cS} {S0 : cS} {R_ : Prop} {X : Int32 × cS → Prop} (hR : ∀ v S', St u g H T S' → M5 g H S0 S' → X (v, S') → R_) (hS : St u g H T S) (hM : M5 g H S0 S) (ok : KO_X7_locks_215 N g H T S) (hx : X (KF_X7_locks_215 N g H T S)) : R_ := by
  unfold KO_X7_locks_215 at ok
  unfold KF_X7_locks_215 at hx
  exact hR _ _ hS hM hx
set_option maxRecDepth 100000 in
set_option maxHeartbeats 4000000 in
theorem k5b_X7_locks_204 {u g H T N : Nat} {S : cS} {S0 : cS} {R_ : Prop} {X : Int32 × cS → Prop} (hR : ∀ v S', St u g H T S' → M5 g H S0 S' → X (v, S') → R_) (hS : St u g H T S) (hM : M5 g H S0 S) (ok : KO_X7_locks_204 N g H T S) (hx : X (KF_X7_locks_204 N g H T S)) : R_ := by
  unfold KO_X7_locks_204 at ok
  unfold KF_X7_locks_204 at hx
  exact hR _ _ hS hM hx
set_option maxRecDepth 100000 in
set_option maxHeartbeats 4000000 in
theorem k5b_X7_locks_197 {u g H T N : Nat} {S : cS} {S0 : cS} {R_ : Prop} {X : Int32 × cS → Prop} (hR : ∀ v S', St u g H T S' → M5 g H S0 S' → X (v, S') → R_) {x0 : Option Nat} {x1 : Option Nat} {s0 : Int32} (hS : St u g H T S) (hM : M5 g H S0 S) (t_x0 : tN g H x0) (t_x1 : tK S 5 x1) (ok : KO_X7_locks_197 N g H T x0 x1 s0 S) (hx : X (KF_X7_locks_197 N g H T x0 x1 s0 S)) : R_ := by
  unfold KO_X7_locks_197 at ok
  unfold KF_X7_locks_197 at hx
  refine pif_n ok (fun c_197 => ?_) (fun c_197 => ?_)
  · have ok := ok.2 c_197
    have hx := xif_n c_197 hx
    have nn_209 := ok.1
    have ok := ok.2
    obtain ⟨hS, hm_212⟩ := k5c_X6_setValid hS (tN.o t_x0 nn_209) t_x1 ok.1
    have hM := hM.trans hm_212
    have ok := ok.2
    exact k5b_X7_locks_215 hR hS hM  ok hx
  · have ok := ok.1 c_197
    have hx := xif_p c_197 hx
    have nn_201 := ok.1.1
    obtain ⟨hS, hm_201⟩ := k5c_X6_fall hS (tN.o t_x0 nn_201) ok.1.2
    have hM := hM.trans hm_201
    have ok := ok.2
    exact k5b_X7_locks_204 hR hS hM  ok hx
set_option maxRecDepth 100000 in
set_option maxHeartbeats 4000000 in
theorem k5b_X7_locks_164 {u g H T N : Nat} {S : cS} {S0 : cS} {R_ : Prop} {X : Int32 × cS → Prop} (hR : ∀ v S', St u g H T S' → M5 g H S0 S' → X (v, S') → R_) (hS : St u g H T S) (hM : M5 g H S0 S) (ok : KO_X7_locks_164 N g H T S) (hx : X (KF_X7_locks_164 N g H T S)) : R_ := by
  unfold KO_X7_locks_164 at ok
  unfold KF_X7_locks_164 at hx
  exact k5b_X7_locks_215 hR hS hM  ok hx
set_option maxRecDepth 100000 in
set_option maxHeartbeats 4000000 in
theorem k5b_X7_locks_160 {u g H T N : Nat} {S : cS} {S0 : cS} {R_ : Prop} {X : Int32 × cS → Prop} (hR : ∀ v S', St u g H T S' → M5 g H S0 S' → X (v, S') → R_) {s0 : Option Nat} {s1 : Option Nat} (hS : St u g H T S) (hM : M5 g H S0 S) (t_s0 : tN g H s0) (t_s1 : tK S 5 s1) (ok : KO_X7_locks_160 N g H T s0 s1 S) (hx : X (KF_X7_locks_160 N g H T s0 s1 S)) : R_ := by
  unfold KO_X7_locks_160 at ok
  unfold KF_X7_locks_160 at hx
  obtain ⟨hS, hm_161⟩ := k5c_X7_utter hS t_s0 t_s1 ok.1
  have hM := hM.trans hm_161
  have ok := ok.2
  exact k5b_X7_locks_164 hR hS hM  ok hx
set_option maxRecDepth 100000 in
set_option maxHeartbeats 4000000 in
theorem k5b_X7_locks_153 {u g H T N : Nat} {S : cS} {S0 : cS} {R_ : Prop} {X : Int32 × cS → Prop} (hR : ∀ v S', St u g H T S' → M5 g H S0 S' → X (v, S') → R_) {x0 : Option Nat} {x1 : Option Nat} (hS : St u g H T S) (hM : M5 g H S0 S) (t_x0 : tN g H x0) (t_x1 : tK S 5 x1) (ok : KO_X7_locks_153 N g H T x0 x1 S) (hx : X (KF_X7_locks_153 N g H T x0 x1 S)) : R_ := by
  unfold KO_X7_locks_153 at ok
  unfold KF_X7_locks_153 at hx
  have nn_157 := ok.1.1
  obtain ⟨hS, hm_157, tv_157⟩ := k5c_X6_vote hS (tN.o t_x0 nn_157) t_x1 ok.1.2
  have hM := hM.trans hm_157
  have ok := ok.2
  exact k5b_X7_locks_160 hR hS hM t_x0 tv_157 ok hx
set_option maxRecDepth 100000 in
set_option maxHeartbeats 4000000 in
theorem k5b_X7_locks_144 {u g H T N : Nat} {S : cS} {S0 : cS} {R_ : Prop} {X : Int32 × cS → Prop} (hR : ∀ v S', St u g H T S' → M5 g H S0 S' → X (v, S') → R_) {x0 : Option Nat} {x1 : Option Nat} (hS : St u g H T S) (hM : M5 g H S0 S) (t_x0 : tN g H x0) (t_x1 : tK S 5 x1) (ok : KO_X7_locks_144 N g H T x0 x1 S) (hx : X (KF_X7_locks_144 N g H T x0 x1 S)) : R_ := by
  unfold KO_X7_locks_144 at ok
  unfold KF_X7_locks_144 at hx
  have nn_147 := ok.1
  have ok := ok.2
  obtain ⟨hS, hm_150⟩ := k5c_X6_setValid hS (tN.o t_x0 nn_147) t_x1 ok.1
  have hM := hM.trans hm_150
  have ok := ok.2
  exact k5b_X7_locks_153 hR hS hM t_x0 (hm_150.tK t_x1 (by decide)) ok hx
set_option maxRecDepth 100000 in
set_option maxHeartbeats 4000000 in
theorem k5b_X7_locks_133 {u g H T N : Nat} {S : cS} {S0 : cS} {R_ : Prop} {X : Int32 × cS → Prop} (hR : ∀ v S', St u g H T S' → M5 g H S0 S' → X (v, S') → R_) (hS : St u g H T S) (hM : M5 g H S0 S) (ok : KO_X7_locks_133 N g H T S) (hx : X (KF_X7_locks_133 N g H T S)) : R_ := by
  unfold KO_X7_locks_133 at ok
  unfold KF_X7_locks_133 at hx
  exact hR _ _ hS hM hx
set_option maxRecDepth 100000 in
set_option maxHeartbeats 4000000 in
theorem k5b_X7_locks_126 {u g H T N : Nat} {S : cS} {S0 : cS} {R_ : Prop} {X : Int32 × cS → Prop} (hR : ∀ v S', St u g H T S' → M5 g H S0 S' → X (v, S') → R_) {x0 : Option Nat} {x1 : Option Nat} {s0 : Int32} (hS : St u g H T S) (hM : M5 g H S0 S) (t_x0 : tN g H x0) (t_x1 : tK S 5 x1) (ok : KO_X7_locks_126 N g H T x0 x1 s0 S) (hx : X (KF_X7_locks_126 N g H T x0 x1 s0 S)) : R_ := by
  unfold KO_X7_locks_126 at ok
  unfold KF_X7_locks_126 at hx
  refine pif_n ok (fun c_126 => ?_) (fun c_126 => ?_)
  · have ok := ok.2 c_126
    have hx := xif_n c_126 hx
    have nn_138 := ok.1
    have ok := ok.2
    obtain ⟨hS, hm_141⟩ := k5c_X6_setLocked hS (tN.o t_x0 nn_138) t_x1 ok.1
    have hM := hM.trans hm_141
    have ok := ok.2
    exact k5b_X7_locks_144 hR hS hM t_x0 (hm_141.tK t_x1 (by decide)) ok hx
  · have ok := ok.1 c_126
    have hx := xif_p c_126 hx
    have nn_130 := ok.1.1
    obtain ⟨hS, hm_130⟩ := k5c_X6_fall hS (tN.o t_x0 nn_130) ok.1.2
    have hM := hM.trans hm_130
    have ok := ok.2
    exact k5b_X7_locks_133 hR hS hM  ok hx
set_option maxRecDepth 100000 in
set_option maxHeartbeats 4000000 in
theorem k5b_X7_locks_76 {u g H T N : Nat} {S : cS} {S0 : cS} {R_ : Prop} {X : Int32 × cS → Prop} (hR : ∀ v S', St u g H T S' → M5 g H S0 S' → X (v, S') → R_) (hS : St u g H T S) (hM : M5 g H S0 S) (ok : KO_X7_locks_76 N g H T S) (hx : X (KF_X7_locks_76 N g H T S)) : R_ := by
  unfold KO_X7_locks_76 at ok
  unfold KF_X7_locks_76 at hx
  exact hR _ _ hS hM hx
set_option maxRecDepth 100000 in
set_option maxHeartbeats 4000000 in
theorem k5b_X7_locks_73 {u g H T N : Nat} {S : cS} {S0 : cS} {R_ : Prop} {X : Int32 × cS → Prop} (hR : ∀ v S', St u g H T S' → M5 g H S0 S' → X (v, S') → R_) {x0 : Option Nat} {x1 : Option Nat} {s0 : Int32} (hS : St u g H T S) (hM : M5 g H S0 S) (t_x0 : tN g H x0) (t_x1 : tK S 5 x1) (ok : KO_X7_locks_73 N g H T x0 x1 s0 S) (hx : X (KF_X7_locks_73 N g H T x0 x1 s0 S)) : R_ := by
  unfold KO_X7_locks_73 at ok
  unfold KF_X7_locks_73 at hx
  refine pif_n ok (fun c_73 => ?_) (fun c_73 => ?_)
  · have ok := ok.2 c_73
    have hx := xif_n c_73 hx
    have nn_80 := ok.1
    have ok := ok.2
    have hS := hS.I 16 (za x0) ((cI S 16 (za x0)) ||| (nI 1))
    have hM := hM.I 16 (za x0) ((cI S 16 (za x0)) ||| (nI 1))
    refine pif_n ok (fun c_93 => ?_) (fun c_93 => ?_)
    · have ok := ok.2 c_93
      have hx := xif_n c_93 hx
      refine pif_p ok (fun c_175 => ?_) (fun c_175 => ?_)
      · have ok := ok.1 c_175
        have hx := xif_p c_175 hx
        exact k5b_X7_locks_215 hR hS hM  ok hx
      · have ok := ok.2 c_175
        have hx := xif_n c_175 hx
        obtain ⟨hS, hm_194⟩ := k5c_X4_jot hS (o52 (tN.o t_x0 nn_80)) (tK_I t_x1) ok.1
        have hM := hM.trans hm_194
        have ok := ok.2
        exact k5b_X7_locks_197 hR hS hM t_x0 (hm_194.tK (tK_I t_x1) (by decide)) ok hx
    · have ok := ok.1 c_93
      have hx := xif_p c_93 hx
      refine pif_p ok (fun c_104 => ?_) (fun c_104 => ?_)
      · have ok := ok.1 c_104
        have hx := xif_p c_104 hx
        exact k5b_X7_locks_153 hR hS hM t_x0 (tK_I t_x1) ok hx
      · have ok := ok.2 c_104
        have hx := xif_n c_104 hx
        obtain ⟨hS, hm_123⟩ := k5c_X4_jot hS (o52 (tN.o t_x0 nn_80)) (tK_I t_x1) ok.1
        have hM := hM.trans hm_123
        have ok := ok.2
        exact k5b_X7_locks_126 hR hS hM t_x0 (hm_123.tK (tK_I t_x1) (by decide)) ok hx
  · have ok := ok.1 c_73
    have hx := xif_p c_73 hx
    exact k5b_X7_locks_76 hR hS hM  ok hx
set_option maxRecDepth 100000 in
set_option maxHeartbeats 4000000 in
theorem k5b_X7_locks_16 {u g H T N : Nat} {S : cS} {S0 : cS} {R_ : Prop} {X : Int32 × cS → Prop} (hR : ∀ v S', St u g H T S' → M5 g H S0 S' → X (v, S') → R_) (hS : St u g H T S) (hM : M5 g H S0 S) (ok : KO_X7_locks_16 N g H T S) (hx : X (KF_X7_locks_16 N g H T S)) : R_ := by
  unfold KO_X7_locks_16 at ok
  unfold KF_X7_locks_16 at hx
  exact hR _ _ hS hM hx
set_option maxRecDepth 100000 in
set_option maxHeartbeats 4000000 in
theorem k5b_X7_locks_0 {u g H T N : Nat} {S : cS} {S0 : cS} {R_ : Prop} {X : Int32 × cS → Prop} (hR : ∀ v S', St u g H T S' → M5 g H S0 S' → X (v, S') → R_) {x0 : Option Nat} (hS : St u g H T S) (hM : M5 g H S0 S) (t_x0 : tN g H x0) (ok : KO_X7_locks_0 N g H T x0 S) (hx : X (KF_X7_locks_0 N g H T x0 S)) : R_ := by
  unfold KO_X7_locks_0 at ok
  unfold KF_X7_locks_0 at hx
  have nn_1 := ok.1
  have ok := ok.2
  refine pif_p ok (fun c_4 => ?_) (fun c_4 => ?_)
  · have ok := ok.1 c_4
    have hx := xif_p c_4 hx
    exact k5b_X7_locks_16 hR hS hM  ok hx
  · have ok := ok.2 c_4
    have hx := xif_n c_4 hx
    refine pif_p ok (fun c_13 => ?_) (fun c_13 => ?_)
    · have ok := ok.1 c_13
      have hx := xif_p c_13 hx
      have tv_30 := kpc_X8_proposal hS (o53 (tN.o t_x0 nn_1)) ok.1
      have ok := ok.2
      refine pif_p ok (fun c_35 => ?_) (fun c_35 => ?_)
      · have ok := ok.1 c_35
        have hx := xif_p c_35 hx
        exact k5b_X7_locks_76 hR hS hM  ok hx
      · have ok := ok.2 c_35
        have hx := xif_n c_35 hx
        have ok := ok.2
        refine pif_p ok (fun c_62 => ?_) (fun c_62 => ?_)
        · have ok := ok.1 c_62
          have hx := xif_p c_62 hx
          exact k5b_X7_locks_76 hR hS hM  ok hx
        · have ok := ok.2 c_62
          have hx := xif_n c_62 hx
          obtain ⟨hS, hm_70⟩ := k5c_X7_approves hS t_x0 ok.1
          have hM := hM.trans hm_70
          have ok := ok.2
          exact k5b_X7_locks_73 hR hS hM t_x0 (hm_70.tK tv_30 (by decide)) ok hx
    · have ok := ok.2 c_13
      have hx := xif_n c_13 hx
      exact k5b_X7_locks_16 hR hS hM  ok hx
set_option maxRecDepth 100000 in
set_option maxHeartbeats 4000000 in
theorem k5c_X7_locks {u g H T N : Nat} {S : cS} {x0 : Option Nat} (hS : St u g H T S) (t_x0 : tN g H x0) (ok : p_X7_locks N g H T S x0) : St u g H T (k_X7_locks N g H T S x0).2 ∧ M5 g H S (k_X7_locks N g H T S x0).2 := by
  exact k5b_X7_locks_0 (X := fun F => F = k_X7_locks N g H T S x0) (fun v S' h1 h2 h => by rw [← h]; exact ⟨h1, h2⟩) hS M5.rfl' t_x0 ok rfl
set_option maxRecDepth 100000 in
set_option maxHeartbeats 4000000 in
theorem k5b_X7_precommitsNone_48 {u g H T N : Nat} {S : cS} {S0 : cS} {R_ : Prop} {X : Int32 × cS → Prop} (hR : ∀ v S', St u g H T S' → M5 g H S0 S' → X (v, S') → R_) (hS : St u g H T S) (hM : M5 g H S0 S) (ok : KO_X7_precommitsNone_48 N g H T S) (hx : X (KF_X7_precommitsNone_48 N g H T S)) : R_ := by
  unfold KO_X7_precommitsNone_48 at ok
  unfold KF_X7_precommitsNone_48 at hx
  exact hR _ _ hS hM hx
set_option maxRecDepth 100000 in
set_option maxHeartbeats 4000000 in
theorem k5b_X7_precommitsNone_44 {u g H T N : Nat} {S : cS} {S0 : cS} {R_ : Prop} {X : Int32 × cS → Prop} (hR : ∀ v S', St u g H T S' → M5 g H S0 S' → X (v, S') → R_) {s0 : Option Nat} {s1 : Option Nat} (hS : St u g H T S) (hM : M5 g H S0 S) (t_s0 : tN g H s0) (t_s1 : tK S 5 s1) (ok : KO_X7_precommitsNone_44 N g H T s0 s1 S) (hx : X (KF_X7_precommitsNone_44 N g H T s0 s1 S)) : R_ := by
  unfold KO_X7_precommitsNone_44 at ok
  unfold KF_X7_precommitsNone_44 at hx
  obtain ⟨hS, hm_45⟩ := k5c_X7_utter hS t_s0 t_s1 ok.1
  have hM := hM.trans hm_45
  have ok := ok.2
  exact k5b_X7_precommitsNone_48 hR hS hM  ok hx
set_option maxRecDepth 100000 in
set_option maxHeartbeats 4000000 in
theorem k5b_X7_precommitsNone_35 {u g H T N : Nat} {S : cS} {S0 : cS} {R_ : Prop} {X : Int32 × cS → Prop} (hR : ∀ v S', St u g H T S' → M5 g H S0 S' → X (v, S') → R_) (hS : St u g H T S) (hM : M5 g H S0 S) (ok : KO_X7_precommitsNone_35 N g H T S) (hx : X (KF_X7_precommitsNone_35 N g H T S)) : R_ := by
  unfold KO_X7_precommitsNone_35 at ok
  unfold KF_X7_precommitsNone_35 at hx
  exact hR _ _ hS hM hx
set_option maxRecDepth 100000 in
set_option maxHeartbeats 4000000 in
theorem k5b_X7_precommitsNone_0 {u g H T N : Nat} {S : cS} {S0 : cS} {R_ : Prop} {X : Int32 × cS → Prop} (hR : ∀ v S', St u g H T S' → M5 g H S0 S' → X (v, S') → R_) {x0 : Option Nat} (hS : St u g H T S) (hM : M5 g H S0 S) (t_x0 : tN g H x0) (ok : KO_X7_precommitsNone_0 N g H T x0 S) (hx : X (KF_X7_precommitsNone_0 N g H T x0 S)) : R_ := by
  unfold KO_X7_precommitsNone_0 at ok
  unfold KF_X7_precommitsNone_0 at hx
  have nn_1 := ok.1
  have ok := ok.2
  refine pif_n ok (fun c_5 => ?_) (fun c_5 => ?_)
  · have ok := ok.2 c_5
    have hx := xif_n c_5 hx
    exact k5b_X7_precommitsNone_35 hR hS hM  ok hx
  · have ok := ok.1 c_5
    have hx := xif_p c_5 hx
    have ok := ok.2
    refine pif_p ok (fun c_32 => ?_) (fun c_32 => ?_)
    · have ok := ok.1 c_32
      have hx := xif_p c_32 hx
      obtain ⟨hS, hm_41, tv_41⟩ := k5c_X6_vote hS (tN.o t_x0 nn_1) tK_none ok.1
      have hM := hM.trans hm_41
      have ok := ok.2
      exact k5b_X7_precommitsNone_44 hR hS hM t_x0 tv_41 ok hx
    · have ok := ok.2 c_32
      have hx := xif_n c_32 hx
      exact k5b_X7_precommitsNone_35 hR hS hM  ok hx
set_option maxRecDepth 100000 in
set_option maxHeartbeats 4000000 in
theorem k5c_X7_precommitsNone {u g H T N : Nat} {S : cS} {x0 : Option Nat} (hS : St u g H T S) (t_x0 : tN g H x0) (ok : p_X7_precommitsNone N g H T S x0) : St u g H T (k_X7_precommitsNone N g H T S x0).2 ∧ M5 g H S (k_X7_precommitsNone N g H T S x0).2 := by
  exact k5b_X7_precommitsNone_0 (X := fun F => F = k_X7_precommitsNone N g H T S x0) (fun v S' h1 h2 h => by rw [← h]; exact ⟨h1, h2⟩) hS M5.rfl' t_x0 ok rfl
set_option maxRecDepth 100000 in
set_option maxHeartbeats 4000000 in
theorem k5b_X7_awaitsPrevotes_62 {u g H T N : Nat} {S : cS} {S0 : cS} {R_ : Prop} {X : Int32 × cS → Prop} (hR : ∀ v S', St u g H T S' → M5 g H S0 S' → X (v, S') → R_) (hS : St u g H T S) (hM : M5 g H S0 S) (ok : KO_X7_awaitsPrevotes_62 N g H T S) (hx : X (KF_X7_awaitsPrevotes_62 N g H T S)) : R_ := by
  unfold KO_X7_awaitsPrevotes_62 at ok
  unfold KF_X7_awaitsPrevotes_62 at hx
  exact hR _ _ hS hM hx
set_option maxRecDepth 100000 in
set_option maxHeartbeats 4000000 in
theorem k5b_X7_awaitsPrevotes_17 {u g H T N : Nat} {S : cS} {S0 : cS} {R_ : Prop} {X : Int32 × cS → Prop} (hR : ∀ v S', St u g H T S' → M5 g H S0 S' → X (v, S') → R_) (hS : St u g H T S) (hM : M5 g H S0 S) (ok : KO_X7_awaitsPrevotes_17 N g H T S) (hx : X (KF_X7_awaitsPrevotes_17 N g H T S)) : R_ := by
  unfold KO_X7_awaitsPrevotes_17 at ok
  unfold KF_X7_awaitsPrevotes_17 at hx
  exact hR _ _ hS hM hx
set_option maxRecDepth 100000 in
set_option maxHeartbeats 4000000 in
theorem k5b_X7_awaitsPrevotes_0 {u g H T N : Nat} {S : cS} {S0 : cS} {R_ : Prop} {X : Int32 × cS → Prop} (hR : ∀ v S', St u g H T S' → M5 g H S0 S' → X (v, S') → R_) {x0 : Option Nat} (hS : St u g H T S) (hM : M5 g H S0 S) (t_x0 : tN g H x0) (ok : KO_X7_awaitsPrevotes_0 N g H T x0 S) (hx : X (KF_X7_awaitsPrevotes_0 N g H T x0 S)) : R_ := by
  unfold KO_X7_awaitsPrevotes_0 at ok
  unfold KF_X7_awaitsPrevotes_0 at hx
  have nn_1 := ok.1
  have ok := ok.2
  refine pif_n ok (fun c_5 => ?_) (fun c_5 => ?_)
  · have ok := ok.2 c_5
    have hx := xif_n c_5 hx
    exact k5b_X7_awaitsPrevotes_17 hR hS hM  ok hx
  · have ok := ok.1 c_5
    have hx := xif_p c_5 hx
    refine pif_p ok (fun c_14 => ?_) (fun c_14 => ?_)
    · have ok := ok.1 c_14
      have hx := xif_p c_14 hx
      have ok := ok.2
      refine pif_p ok (fun c_42 => ?_) (fun c_42 => ?_)
      · have ok := ok.1 c_42
        have hx := xif_p c_42 hx
        have hS := hS.I 16 (za x0) ((cI S 16 (za x0)) ||| (nI 2))
        have hM := hM.I 16 (za x0) ((cI S 16 (za x0)) ||| (nI 2))
        obtain ⟨hS, hm_59⟩ := k5c_X6_setTimer hS (tN.o t_x0 nn_1) ok.1
        have hM := hM.trans hm_59
        have ok := ok.2
        exact k5b_X7_awaitsPrevotes_62 hR hS hM  ok hx
      · have ok := ok.2 c_42
        have hx := xif_n c_42 hx
        exact hR _ _ hS hM hx
    · have ok := ok.2 c_14
      have hx := xif_n c_14 hx
      exact k5b_X7_awaitsPrevotes_17 hR hS hM  ok hx
set_option maxRecDepth 100000 in
set_option maxHeartbeats 4000000 in
theorem k5c_X7_awaitsPrevotes {u g H T N : Nat} {S : cS} {x0 : Option Nat} (hS : St u g H T S) (t_x0 : tN g H x0) (ok : p_X7_awaitsPrevotes N g H T S x0) : St u g H T (k_X7_awaitsPrevotes N g H T S x0).2 ∧ M5 g H S (k_X7_awaitsPrevotes N g H T S x0).2 := by
  exact k5b_X7_awaitsPrevotes_0 (X := fun F => F = k_X7_awaitsPrevotes N g H T S x0) (fun v S' h1 h2 h => by rw [← h]; exact ⟨h1, h2⟩) hS M5.rfl' t_x0 ok rfl
set_option maxRecDepth 100000 in
set_option maxHeartbeats 4000000 in
theorem k5b_X7_awaitsPrecommits_54 {u g H T N : Nat} {S : cS} {S0 : cS} {R_ : Prop} {X : Int32 × cS → Prop} (hR : ∀ v S', St u g H T S' → M5 g H S0 S' → X (v, S') → R_) (hS : St u g H T S) (hM : M5 g H S0 S) (ok : KO_X7_awaitsPrecommits_54 N g H T S) (hx : X (KF_X7_awaitsPrecommits_54 N g H T S)) : R_ := by
  unfold KO_X7_awaitsPrecommits_54 at ok
  unfold KF_X7_awaitsPrecommits_54 at hx
  exact hR _ _ hS hM hx
set_option maxRecDepth 100000 in
set_option maxHeartbeats 4000000 in
theorem k5b_X7_awaitsPrecommits_0 {u g H T N : Nat} {S : cS} {S0 : cS} {R_ : Prop} {X : Int32 × cS → Prop} (hR : ∀ v S', St u g H T S' → M5 g H S0 S' → X (v, S') → R_) {x0 : Option Nat} (hS : St u g H T S) (hM : M5 g H S0 S) (t_x0 : tN g H x0) (ok : KO_X7_awaitsPrecommits_0 N g H T x0 S) (hx : X (KF_X7_awaitsPrecommits_0 N g H T x0 S)) : R_ := by
  unfold KO_X7_awaitsPrecommits_0 at ok
  unfold KF_X7_awaitsPrecommits_0 at hx
  have nn_1 := ok.1
  have ok := ok.2
  refine pif_p ok (fun c_6 => ?_) (fun c_6 => ?_)
  · have ok := ok.1 c_6
    have hx := xif_p c_6 hx
    have ok := ok.2
    refine pif_p ok (fun c_34 => ?_) (fun c_34 => ?_)
    · have ok := ok.1 c_34
      have hx := xif_p c_34 hx
      have hS := hS.I 16 (za x0) ((cI S 16 (za x0)) ||| (nI 4))
      have hM := hM.I 16 (za x0) ((cI S 16 (za x0)) ||| (nI 4))
      obtain ⟨hS, hm_51⟩ := k5c_X6_setTimer hS (tN.o t_x0 nn_1) ok.1
      have hM := hM.trans hm_51
      have ok := ok.2
      exact k5b_X7_awaitsPrecommits_54 hR hS hM  ok hx
    · have ok := ok.2 c_34
      have hx := xif_n c_34 hx
      exact hR _ _ hS hM hx
  · have ok := ok.2 c_6
    have hx := xif_n c_6 hx
    exact hR _ _ hS hM hx
set_option maxRecDepth 100000 in
set_option maxHeartbeats 4000000 in
theorem k5c_X7_awaitsPrecommits {u g H T N : Nat} {S : cS} {x0 : Option Nat} (hS : St u g H T S) (t_x0 : tN g H x0) (ok : p_X7_awaitsPrecommits N g H T S x0) : St u g H T (k_X7_awaitsPrecommits N g H T S x0).2 ∧ M5 g H S (k_X7_awaitsPrecommits N g H T S x0).2 := by
  exact k5b_X7_awaitsPrecommits_0 (X := fun F => F = k_X7_awaitsPrecommits N g H T S x0) (fun v S' h1 h2 h => by rw [← h]; exact ⟨h1, h2⟩) hS M5.rfl' t_x0 ok rfl

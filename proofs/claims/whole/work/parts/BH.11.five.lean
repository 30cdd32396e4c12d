set_option maxRecDepth 100000 in
set_option maxHeartbeats 4000000 in
theorem k5b_X3_receive_285 {u g H T N : Nat} {S : cS} {S0 : cS} {R_ : Prop} {X : Int32 × cS → Prop} (hR : ∀ v S', St u g H T S' → M5 g H S0 S' → X (v, S') → R_) {s0 : Int32} (hS : St u g H T S) (hM : M5 g H S0 S) (ok : KO_X3_receive_285 N g H T s0 S) (hx : X (KF_X3_receive_285 N g H T s0 S)) : R_ := by
  unfold KO_X3_receive_285 at ok
  unfold KF_X3_receive_285 at hx
  exact hR _ _ hS hM hx
set_option maxRecDepth 100000 in
set_option maxHeartbeats 4000000 in
theorem k5b_X3_receive_284 {u g H T N : Nat} {S : cS} {S0 : cS} {R_ : Prop} {X : Int32 × cS → Prop} (hR : ∀ v S', St u g H T S' → M5 g H S0 S' → X (v, S') → R_) (hS : St u g H T S) (hM : M5 g H S0 S) (ok : KO_X3_receive_284 N g H T S) (hx : X (KF_X3_receive_284 N g H T S)) : R_ := by
  unfold KO_X3_receive_284 at ok
  unfold KF_X3_receive_284 at hx
  exact k5b_X3_receive_285 hR hS hM  ok hx
set_option maxRecDepth 100000 in
set_option maxHeartbeats 4000000 in
theorem k5b_X3_receive_277 {u g H T N : Nat} {S : cS} {S0 : cS} {R_ : Prop} {X : Int32 × cS → Prop} (hR : ∀ v S', St u g H T S' → M5 g H S0 S' → X (v, S') → R_) {s0 : Int32} (hS : St u g H T S) (hM : M5 g H S0 S) (ok : KO_X3_receive_277 N g H T s0 S) (hx : X (KF_X3_receive_277 N g H T s0 S)) : R_ := by
  unfold KO_X3_receive_277 at ok
  unfold KF_X3_receive_277 at hx
  refine pif_p ok (fun c_277 => ?_) (fun c_277 => ?_)
  · have ok := ok.1 c_277
    have hx := xif_p c_277 hx
    exact k5b_X3_receive_284 hR hS hM  ok hx
  · have ok := ok.2 c_277
    have hx := xif_n c_277 hx
    exact k5b_X3_receive_285 hR hS hM  ok hx
set_option maxRecDepth 100000 in
set_option maxHeartbeats 4000000 in
theorem k5b_X3_receive_259 {u g H T N : Nat} {S : cS} {S0 : cS} {R_ : Prop} {X : Int32 × cS → Prop} (hR : ∀ v S', St u g H T S' → M5 g H S0 S' → X (v, S') → R_) {s0 : Int32} (hS : St u g H T S) (hM : M5 g H S0 S) (ok : KO_X3_receive_259 N g H T s0 S) (hx : X (KF_X3_receive_259 N g H T s0 S)) : R_ := by
  unfold KO_X3_receive_259 at ok
  unfold KF_X3_receive_259 at hx
  exact hR _ _ hS hM hx
set_option maxRecDepth 100000 in
set_option maxHeartbeats 4000000 in
theorem k5b_X3_receive_258 {u g H T N : Nat} {S : cS} {S0 : cS} {R_ : Prop} {X : Int32 × cS → Prop} (hR : ∀ v S', St u g H T S' → M5 g H S0 S' → X (v, S') → R_) (hS : St u g H T S) (hM : M5 g H S0 S) (ok : KO_X3_receive_258 N g H T S) (hx : X (KF_X3_receive_258 N g H T S)) : R_ := by
  unfold KO_X3_receive_258 at ok
  unfold KF_X3_receive_258 at hx
  exact k5b_X3_receive_259 hR hS hM  ok hx
set_option maxRecDepth 100000 in
set_option maxHeartbeats 4000000 in
theorem k5b_X3_receive_251 {u g H T N : Nat} {S : cS} {S0 : cS} {R_ : Prop} {X : Int32 × cS → Prop} (hR : ∀ v S', St u g H T S' → M5 g H S0 S' → X (v, S') → R_) {s0 : Int32} (hS : St u g H T S) (hM : M5 g H S0 S) (ok : KO_X3_receive_251 N g H T s0 S) (hx : X (KF_X3_receive_251 N g H T s0 S)) : R_ := by
  unfold KO_X3_receive_251 at ok
  unfold KF_X3_receive_251 at hx
  refine pif_p ok (fun c_251 => ?_) (fun c_251 => ?_)
  · have ok := ok.1 c_251
    have hx := xif_p c_251 hx
    exact k5b_X3_receive_258 hR hS hM  ok hx
  · have ok := ok.2 c_251
    have hx := xif_n c_251 hx
    exact k5b_X3_receive_259 hR hS hM  ok hx
set_option maxRecDepth 100000 in
set_option maxHeartbeats 4000000 in
theorem k5b_X3_receive_228 {u g H T N : Nat} {S : cS} {S0 : cS} {R_ : Prop} {X : Int32 × cS → Prop} (hR : ∀ v S', St u g H T S' → M5 g H S0 S' → X (v, S') → R_) {x0 : Option Nat} {x1 : Int32} {x2 : Option Nat} {x4 : Int32} {x5 : Int32} (hS : St u g H T S) (hM : M5 g H S0 S) (t_x0 : tN g H x0) (t_x2 : tK S 5 x2) (ok : KO_X3_receive_228 N g H T x0 x1 x2 x4 x5 S) (hx : X (KF_X3_receive_228 N g H T x0 x1 x2 x4 x5 S)) : R_ := by
  unfold KO_X3_receive_228 at ok
  unfold KF_X3_receive_228 at hx
  refine pif_n ok (fun c_230 => ?_) (fun c_230 => ?_)
  · have ok := ok.2 c_230
    have hx := xif_n c_230 hx
    have nn_263 := ok.1
    have ok := ok.2
    refine pif_p ok (fun c_268 => ?_) (fun c_268 => ?_)
    · have ok := ok.1 c_268
      have hx := xif_p c_268 hx
      exact k5b_X3_receive_284 hR hS hM  ok hx
    · have ok := ok.2 c_268
      have hx := xif_n c_268 hx
      obtain ⟨hS, hm_274⟩ := k5c_X3_takeSigned hS t_x0 t_x2 ok.1
      have hM := hM.trans hm_274
      have ok := ok.2
      exact k5b_X3_receive_277 hR hS hM  ok hx
  · have ok := ok.1 c_230
    have hx := xif_p c_230 hx
    have nn_236 := ok.1
    have ok := ok.2
    refine pif_n ok (fun c_239 => ?_) (fun c_239 => ?_)
    · have ok := ok.2 c_239
      have hx := xif_n c_239 hx
      exact k5b_X3_receive_258 hR hS hM  ok hx
    · have ok := ok.1 c_239
      have hx := xif_p c_239 hx
      obtain ⟨hS, hm_248⟩ := k5c_X8_holdDecided hS (o53 (tN.o t_x0 nn_236)) t_x2 ok.1
      have hM := hM.trans hm_248
      have ok := ok.2
      exact k5b_X3_receive_251 hR hS hM  ok hx
set_option maxRecDepth 100000 in
set_option maxHeartbeats 4000000 in
theorem k5b_X3_receive_216 {u g H T N : Nat} {S : cS} {S0 : cS} {R_ : Prop} {X : Int32 × cS → Prop} (hR : ∀ v S', St u g H T S' → M5 g H S0 S' → X (v, S') → R_) {x0 : Option Nat} {x1 : Int32} {x2 : Option Nat} {x4 : Int32} {x5 : Int32} {x6 : Option Nat} (hS : St u g H T S) (hM : M5 g H S0 S) (t_x0 : tN g H x0) (t_x2 : tK S 5 x2) (t_x6 : tK S 5 x6) (ok : KO_X3_receive_216 N g H T x0 x1 x2 x4 x5 x6 S) (hx : X (KF_X3_receive_216 N g H T x0 x1 x2 x4 x5 x6 S)) : R_ := by
  unfold KO_X3_receive_216 at ok
  unfold KF_X3_receive_216 at hx
  have nn_217 := ok.1
  have ok := ok.2
  obtain ⟨hS, hm_225⟩ := k5c_X9_drop hS (o86 (o50 (tN.o t_x0 nn_217))) t_x6 ok.1
  have hM := hM.trans hm_225
  have ok := ok.2
  exact k5b_X3_receive_228 hR hS hM t_x0 (hm_225.tK t_x2 (by decide)) ok hx
set_option maxRecDepth 100000 in
set_option maxHeartbeats 4000000 in
theorem k5b_X3_receive_197 {u g H T N : Nat} {S : cS} {S0 : cS} {R_ : Prop} {X : Int32 × cS → Prop} (hR : ∀ v S', St u g H T S' → M5 g H S0 S' → X (v, S') → R_) {x0 : Option Nat} {x1 : Int32} {x2 : Option Nat} {x4 : Int32} {x5 : Int32} {s0 : Option Nat} (hS : St u g H T S) (hM : M5 g H S0 S) (t_x0 : tN g H x0) (t_x2 : tK S 5 x2) (t_s0 : tK S 5 s0) (ok : KO_X3_receive_197 N g H T x0 x1 x2 x4 x5 s0 S) (hx : X (KF_X3_receive_197 N g H T x0 x1 x2 x4 x5 s0 S)) : R_ := by
  unfold KO_X3_receive_197 at ok
  unfold KF_X3_receive_197 at hx
  have nn_200 := ok.1
  have ok := ok.2
  obtain ⟨hS, hm_213⟩ := k5c_X9_post hS (o86 (o50 (tN.o t_x0 nn_200))) t_s0 ok.1
  have hM := hM.trans hm_213
  have ok := ok.2
  exact k5b_X3_receive_216 hR hS hM t_x0 (hm_213.tK t_x2 (by decide)) (hm_213.tK t_s0 (by decide)) ok hx
set_option maxRecDepth 100000 in
set_option maxHeartbeats 4000000 in
theorem k5b_X3_receive_182 {u g H T N : Nat} {S : cS} {S0 : cS} {R_ : Prop} {X : Int32 × cS → Prop} (hR : ∀ v S', St u g H T S' → M5 g H S0 S' → X (v, S') → R_) (hS : St u g H T S) (hM : M5 g H S0 S) (ok : KO_X3_receive_182 N g H T S) (hx : X (KF_X3_receive_182 N g H T S)) : R_ := by
  unfold KO_X3_receive_182 at ok
  unfold KF_X3_receive_182 at hx
  exact hR _ _ hS hM hx
set_option maxRecDepth 100000 in
set_option maxHeartbeats 4000000 in
theorem k5b_X3_receive_161 {u g H T N : Nat} {S : cS} {S0 : cS} {R_ : Prop} {X : Int32 × cS → Prop} (hR : ∀ v S', St u g H T S' → M5 g H S0 S' → X (v, S') → R_) (hS : St u g H T S) (hM : M5 g H S0 S) (ok : KO_X3_receive_161 N g H T S) (hx : X (KF_X3_receive_161 N g H T S)) : R_ := by
  unfold KO_X3_receive_161 at ok
  unfold KF_X3_receive_161 at hx
  exact hR _ _ hS hM hx
set_option maxRecDepth 100000 in
set_option maxHeartbeats 4000000 in
theorem k5b_X3_receive_154 {u g H T N : Nat} {S : cS} {S0 : cS} {R_ : Prop} {X : Int32 × cS → Prop} (hR : ∀ v S', St u g H T S' → M5 g H S0 S' → X (v, S') → R_) {x0 : Option Nat} {x1 : Int32} {x5 : Int32} (hS : St u g H T S) (hM : M5 g H S0 S) (t_x0 : tN g H x0) (ok : KO_X3_receive_154 N g H T x0 x1 x5 S) (hx : X (KF_X3_receive_154 N g H T x0 x1 x5 S)) : R_ := by
  unfold KO_X3_receive_154 at ok
  unfold KF_X3_receive_154 at hx
  obtain ⟨hS, hm_158⟩ := k5c_X3_answerBelow hS t_x0 ok.1
  have hM := hM.trans hm_158
  have ok := ok.2
  exact k5b_X3_receive_161 hR hS hM  ok hx
set_option maxRecDepth 100000 in
set_option maxHeartbeats 4000000 in
theorem k5b_X3_receive_122 {u g H T N : Nat} {S : cS} {S0 : cS} {R_ : Prop} {X : Int32 × cS → Prop} (hR : ∀ v S', St u g H T S' → M5 g H S0 S' → X (v, S') → R_) {x0 : Option Nat} {x1 : Int32} {x2 : Option Nat} {x3 : Int32} {x4 : Int32} {s0 : Option Nat} {s1 : Int32} (hS : St u g H T S) (hM : M5 g H S0 S) (t_x0 : tN g H x0) (t_x2 : tK S 5 x2) (t_s0 : tK S 5 s0) (ok : KO_X3_receive_122 N g H T x0 x1 x2 x3 x4 s0 s1 S) (hx : X (KF_X3_receive_122 N g H T x0 x1 x2 x3 x4 s0 s1 S)) : R_ := by
  unfold KO_X3_receive_122 at ok
  unfold KF_X3_receive_122 at hx
  have nn_122 := ok.1.1
  have ok := ok.2
  have nn_130 := ok.1
  have ok := ok.2
  refine pif_p ok (fun c_133 => ?_) (fun c_133 => ?_)
  · have ok := ok.1 c_133
    have hx := xif_p c_133 hx
    refine pif_n ok (fun c_165 => ?_) (fun c_165 => ?_)
    · have ok := ok.2 c_165
      have hx := xif_n c_165 hx
      refine pif_p ok (fun c_190 => ?_) (fun c_190 => ?_)
      · have ok := ok.1 c_190
        have hx := xif_p c_190 hx
        exact k5b_X3_receive_228 hR hS hM t_x0 t_x2 ok hx
      · have ok := ok.2 c_190
        have hx := xif_n c_190 hx
        obtain ⟨hS, hm_194, tv_194⟩ := k5c_X6_ask hS (tN.o t_x0 nn_130) ok.1
        have hM := hM.trans hm_194
        have ok := ok.2
        exact k5b_X3_receive_197 hR hS hM t_x0 (hm_194.tK t_x2 (by decide)) tv_194 ok hx
    · have ok := ok.1 c_165
      have hx := xif_p c_165 hx
      refine pif_n ok (fun c_174 => ?_) (fun c_174 => ?_)
      · have ok := ok.2 c_174
        have hx := xif_n c_174 hx
        exact k5b_X3_receive_182 hR hS hM  ok hx
      · have ok := ok.1 c_174
        have hx := xif_p c_174 hx
        obtain ⟨hS, hm_179⟩ := k5c_X3_answerAll hS t_x0 ok.1
        have hM := hM.trans hm_179
        have ok := ok.2
        exact k5b_X3_receive_182 hR hS hM  ok hx
  · have ok := ok.2 c_133
    have hx := xif_n c_133 hx
    refine pif_p ok (fun c_138 => ?_) (fun c_138 => ?_)
    · have ok := ok.1 c_138
      have hx := xif_p c_138 hx
      exact k5b_X3_receive_154 hR hS hM t_x0 ok hx
    · have ok := ok.2 c_138
      have hx := xif_n c_138 hx
      refine pif_p ok (fun c_143 => ?_) (fun c_143 => ?_)
      · have ok := ok.1 c_143
        have hx := xif_p c_143 hx
        exact k5b_X3_receive_161 hR hS hM  ok hx
      · have ok := ok.2 c_143
        have hx := xif_n c_143 hx
        have nn_147 := ok.1.1
        have ok := ok.2
        refine pif_n ok (fun c_151 => ?_) (fun c_151 => ?_)
        · have ok := ok.2 c_151
          have hx := xif_n c_151 hx
          exact k5b_X3_receive_161 hR hS hM  ok hx
        · have ok := ok.1 c_151
          have hx := xif_p c_151 hx
          exact k5b_X3_receive_154 hR hS hM t_x0 ok hx
set_option maxRecDepth 100000 in
set_option maxHeartbeats 4000000 in
theorem k5b_X3_receive_109 {u g H T N : Nat} {S : cS} {S0 : cS} {R_ : Prop} {X : Int32 × cS → Prop} (hR : ∀ v S', St u g H T S' → M5 g H S0 S' → X (v, S') → R_) {x0 : Option Nat} {x1 : Int32} {x2 : Option Nat} {x3 : Int32} {s0 : Int32} (hS : St u g H T S) (hM : M5 g H S0 S) (t_x0 : tN g H x0) (t_x2 : tK S 5 x2) (ok : KO_X3_receive_109 N g H T x0 x1 x2 x3 s0 S) (hx : X (KF_X3_receive_109 N g H T x0 x1 x2 x3 s0 S)) : R_ := by
  unfold KO_X3_receive_109 at ok
  unfold KF_X3_receive_109 at hx
  refine pif_p ok (fun c_114 => ?_) (fun c_114 => ?_)
  · have ok := ok.1 c_114
    have hx := xif_p c_114 hx
    exact k5b_X3_receive_122 hR hS hM t_x0 t_x2 t_x2 ok hx
  · have ok := ok.2 c_114
    have hx := xif_n c_114 hx
    exact k5b_X3_receive_122 hR hS hM t_x0 t_x2 t_x2 ok hx
set_option maxRecDepth 100000 in
set_option maxHeartbeats 4000000 in
theorem k5b_X3_receive_104 {u g H T N : Nat} {S : cS} {S0 : cS} {R_ : Prop} {X : Int32 × cS → Prop} (hR : ∀ v S', St u g H T S' → M5 g H S0 S' → X (v, S') → R_) {x0 : Option Nat} {x1 : Int32} {x2 : Option Nat} {x3 : Int32} (hS : St u g H T S) (hM : M5 g H S0 S) (t_x0 : tN g H x0) (t_x2 : tK S 5 x2) (ok : KO_X3_receive_104 N g H T x0 x1 x2 x3 S) (hx : X (KF_X3_receive_104 N g H T x0 x1 x2 x3 S)) : R_ := by
  unfold KO_X3_receive_104 at ok
  unfold KF_X3_receive_104 at hx
  exact k5b_X3_receive_109 hR hS hM t_x0 t_x2 ok hx
set_option maxRecDepth 100000 in
set_option maxHeartbeats 4000000 in
theorem k5b_X3_receive_88 {u g H T N : Nat} {S : cS} {S0 : cS} {R_ : Prop} {X : Int32 × cS → Prop} (hR : ∀ v S', St u g H T S' → M5 g H S0 S' → X (v, S') → R_) {s0 : Int32} (hS : St u g H T S) (hM : M5 g H S0 S) (ok : KO_X3_receive_88 N g H T s0 S) (hx : X (KF_X3_receive_88 N g H T s0 S)) : R_ := by
  unfold KO_X3_receive_88 at ok
  unfold KF_X3_receive_88 at hx
  exact hR _ _ hS hM hx
set_option maxRecDepth 100000 in
set_option maxHeartbeats 4000000 in
theorem k5b_X3_receive_87 {u g H T N : Nat} {S : cS} {S0 : cS} {R_ : Prop} {X : Int32 × cS → Prop} (hR : ∀ v S', St u g H T S' → M5 g H S0 S' → X (v, S') → R_) (hS : St u g H T S) (hM : M5 g H S0 S) (ok : KO_X3_receive_87 N g H T S) (hx : X (KF_X3_receive_87 N g H T S)) : R_ := by
  unfold KO_X3_receive_87 at ok
  unfold KF_X3_receive_87 at hx
  exact k5b_X3_receive_88 hR hS hM  ok hx
set_option maxRecDepth 100000 in
set_option maxHeartbeats 4000000 in
theorem k5b_X3_receive_80 {u g H T N : Nat} {S : cS} {S0 : cS} {R_ : Prop} {X : Int32 × cS → Prop} (hR : ∀ v S', St u g H T S' → M5 g H S0 S' → X (v, S') → R_) {s0 : Int32} (hS : St u g H T S) (hM : M5 g H S0 S) (ok : KO_X3_receive_80 N g H T s0 S) (hx : X (KF_X3_receive_80 N g H T s0 S)) : R_ := by
  unfold KO_X3_receive_80 at ok
  unfold KF_X3_receive_80 at hx
  refine pif_p ok (fun c_80 => ?_) (fun c_80 => ?_)
  · have ok := ok.1 c_80
    have hx := xif_p c_80 hx
    exact k5b_X3_receive_87 hR hS hM  ok hx
  · have ok := ok.2 c_80
    have hx := xif_n c_80 hx
    exact k5b_X3_receive_88 hR hS hM  ok hx
set_option maxRecDepth 100000 in
set_option maxHeartbeats 4000000 in
theorem k5b_X3_receive_51 {u g H T N : Nat} {S : cS} {S0 : cS} {R_ : Prop} {X : Int32 × cS → Prop} (hR : ∀ v S', St u g H T S' → M5 g H S0 S' → X (v, S') → R_) (hS : St u g H T S) (hM : M5 g H S0 S) (ok : KO_X3_receive_51 N g H T S) (hx : X (KF_X3_receive_51 N g H T S)) : R_ := by
  unfold KO_X3_receive_51 at ok
  unfold KF_X3_receive_51 at hx
  exact hR _ _ hS hM hx
set_option maxRecDepth 100000 in
set_option maxHeartbeats 4000000 in
theorem k5b_X3_receive_31 {u g H T N : Nat} {S : cS} {S0 : cS} {R_ : Prop} {X : Int32 × cS → Prop} (hR : ∀ v S', St u g H T S' → M5 g H S0 S' → X (v, S') → R_) {x0 : Option Nat} {x1 : Int32} {x2 : Option Nat} {s0 : Int32} (hS : St u g H T S) (hM : M5 g H S0 S) (t_x0 : tN g H x0) (t_x2 : tK S 5 x2) (ok : KO_X3_receive_31 N g H T x0 x1 x2 s0 S) (hx : X (KF_X3_receive_31 N g H T x0 x1 x2 s0 S)) : R_ := by
  unfold KO_X3_receive_31 at ok
  unfold KF_X3_receive_31 at hx
  refine pif_p ok (fun c_31 => ?_) (fun c_31 => ?_)
  · have ok := ok.1 c_31
    have hx := xif_p c_31 hx
    exact k5b_X3_receive_51 hR hS hM  ok hx
  · have ok := ok.2 c_31
    have hx := xif_n c_31 hx
    have nn_35 := ok.1
    have ok := ok.2
    have nn_45 := ok.1.1
    have ok := ok.2
    obtain ⟨hS, hm_48⟩ := k5c_X10_spread hS (o50 (tN.o t_x0 nn_35)) t_x2 ok.1
    have hM := hM.trans hm_48
    have ok := ok.2
    exact k5b_X3_receive_51 hR hS hM  ok hx
set_option maxRecDepth 100000 in
set_option maxHeartbeats 4000000 in
theorem k5b_X3_receive_15 {u g H T N : Nat} {S : cS} {S0 : cS} {R_ : Prop} {X : Int32 × cS → Prop} (hR : ∀ v S', St u g H T S' → M5 g H S0 S' → X (v, S') → R_) (hS : St u g H T S) (hM : M5 g H S0 S) (ok : KO_X3_receive_15 N g H T S) (hx : X (KF_X3_receive_15 N g H T S)) : R_ := by
  unfold KO_X3_receive_15 at ok
  unfold KF_X3_receive_15 at hx
  exact hR _ _ hS hM hx
set_option maxRecDepth 100000 in
set_option maxHeartbeats 4000000 in
theorem k5b_X3_receive_0 {u g H T N : Nat} {S : cS} {S0 : cS} {R_ : Prop} {X : Int32 × cS → Prop} (hR : ∀ v S', St u g H T S' → M5 g H S0 S' → X (v, S') → R_) {x0 : Option Nat} {x1 : Int32} {x2 : Option Nat} (hS : St u g H T S) (hM : M5 g H S0 S) (t_x0 : tN g H x0) (t_x2 : tK S 5 x2) (ok : KO_X3_receive_0 N g H T x0 x1 x2 S) (hx : X (KF_X3_receive_0 N g H T x0 x1 x2 S)) : R_ := by
  unfold KO_X3_receive_0 at ok
  unfold KF_X3_receive_0 at hx
  have nn_1 := ok.1.1
  have ok := ok.2
  refine pif_n ok (fun c_6 => ?_) (fun c_6 => ?_)
  · have ok := ok.2 c_6
    have hx := xif_n c_6 hx
    refine pif_n ok (fun c_20 => ?_) (fun c_20 => ?_)
    · have ok := ok.2 c_20
      have hx := xif_n c_20 hx
      refine pif_n ok (fun c_56 => ?_) (fun c_56 => ?_)
      · have ok := ok.2 c_56
        have hx := xif_n c_56 hx
        refine pif_p ok (fun c_91 => ?_) (fun c_91 => ?_)
        · have ok := ok.1 c_91
          have hx := xif_p c_91 hx
          exact k5b_X3_receive_104 hR hS hM t_x0 t_x2 ok hx
        · have ok := ok.2 c_91
          have hx := xif_n c_91 hx
          refine pif_p ok (fun c_96 => ?_) (fun c_96 => ?_)
          · have ok := ok.1 c_96
            have hx := xif_p c_96 hx
            exact k5b_X3_receive_104 hR hS hM t_x0 t_x2 ok hx
          · have ok := ok.2 c_96
            have hx := xif_n c_96 hx
            refine pif_n ok (fun c_101 => ?_) (fun c_101 => ?_)
            · have ok := ok.2 c_101
              have hx := xif_n c_101 hx
              exact k5b_X3_receive_109 hR hS hM t_x0 t_x2 ok hx
            · have ok := ok.1 c_101
              have hx := xif_p c_101 hx
              exact k5b_X3_receive_104 hR hS hM t_x0 t_x2 ok hx
      · have ok := ok.1 c_56
        have hx := xif_p c_56 hx
        have ok := ok.2
        have nn_65 := ok.1
        have ok := ok.2
        refine pif_p ok (fun c_68 => ?_) (fun c_68 => ?_)
        · have ok := ok.1 c_68
          have hx := xif_p c_68 hx
          exact k5b_X3_receive_87 hR hS hM  ok hx
        · have ok := ok.2 c_68
          have hx := xif_n c_68 hx
          obtain ⟨hS, hm_77⟩ := k5c_X8_holdSnapshot hS (o53 (tN.o t_x0 nn_65)) t_x2 ok.1
          have hM := hM.trans hm_77
          have ok := ok.2
          exact k5b_X3_receive_80 hR hS hM  ok hx
    · have ok := ok.1 c_20
      have hx := xif_p c_20 hx
      have nn_24 := ok.1
      have ok := ok.2
      obtain ⟨hS, hm_28⟩ := k5c_X8_addProof hS (o53 (tN.o t_x0 nn_24)) t_x2 ok.1
      have hM := hM.trans hm_28
      have ok := ok.2
      exact k5b_X3_receive_31 hR hS hM t_x0 (hm_28.tK t_x2 (by decide)) ok hx
  · have ok := ok.1 c_6
    have hx := xif_p c_6 hx
    obtain ⟨hS, hm_12⟩ := k5c_X3_takePayment hS t_x0 t_x2 ok.1
    have hM := hM.trans hm_12
    have ok := ok.2
    exact k5b_X3_receive_15 hR hS hM  ok hx
set_option maxRecDepth 100000 in
set_option maxHeartbeats 4000000 in
theorem k5c_X3_receive {u g H T N : Nat} {S : cS} {x0 : Option Nat} {x1 : Int32} {x2 : Option Nat} (hS : St u g H T S) (t_x0 : tN g H x0) (t_x2 : tK S 5 x2) (ok : p_X3_receive N g H T S x0 x1 x2) : St u g H T (k_X3_receive N g H T S x0 x1 x2).2 ∧ M5 g H S (k_X3_receive N g H T S x0 x1 x2).2 := by
  exact k5b_X3_receive_0 (X := fun F => F = k_X3_receive N g H T S x0 x1 x2) (fun v S' h1 h2 h => by rw [← h]; exact ⟨h1, h2⟩) hS M5.rfl' t_x0 t_x2 ok rfl
set_option maxRecDepth 100000 in
set_option maxHeartbeats 4000000 in
theorem k5b_X4_open_17 {u g H T N : Nat} {S : cS} {S0 : cS} {R_ : Prop} {X : cS → Prop} (hR : ∀ S', St u g H T S' → M5 g H S0 S' → X S' → R_) {x0 : Nat} {x3 : Int32} (hS : St u g H T S) (hM : M5 g H S0 S) (t_x0 : isO g H 3 x0) (ok : KO_X4_open_17 N g H T x0 x3 S) (hx : X (KF_X4_open_17 N g H T x0 x3 S)) : R_ := by
  unfold KO_X4_open_17 at ok
  unfold KF_X4_open_17 at hx
  have hS := hS.Ab (x0 + 3) (nI 3).toNatClampNeg (x3.toInt8.toInt32)
  have hM := hM.A (x0 + 3) (nI 3).toNatClampNeg ((x3.toInt8.toInt32).toInt8.toInt32)
  have ok := ok.2
  have hS := hS.I 4 x0 (nI 8)
  have hM := hM.I 4 x0 (nI 8)
  exact hR _ hS hM hx
set_option maxRecDepth 100000 in
set_option maxHeartbeats 4000000 in
theorem k5b_X4_open_0 {u g H T N : Nat} {S : cS} {S0 : cS} {R_ : Prop} {X : cS → Prop} (hR : ∀ S', St u g H T S' → M5 g H S0 S' → X S' → R_) {x0 : Nat} {x1 : Int32} {x2 : Int32} {x3 : Int32} (hS : St u g H T S) (hM : M5 g H S0 S) (t_x0 : isO g H 3 x0) (ok : KO_X4_open_0 N g H T x0 x1 x2 x3 S) (hx : X (KF_X4_open_0 N g H T x0 x1 x2 x3 S)) : R_ := by
  unfold KO_X4_open_0 at ok
  unfold KF_X4_open_0 at hx
  have hS := hS.Ab (x0 + 3) (nI 0).toNatClampNeg (x1.toInt8.toInt32)
  have hM := hM.A (x0 + 3) (nI 0).toNatClampNeg ((x1.toInt8.toInt32).toInt8.toInt32)
  have ok := ok.2
  obtain ⟨hS, hm_14⟩ := k5c_X11_putTwo hS (hS.rk (c := 3) (k := 2) t_x0 rfl (by omega)) ok.1
  have hM := hM.trans hm_14
  have ok := ok.2
  exact k5b_X4_open_17 hR hS hM t_x0 ok hx
set_option maxRecDepth 100000 in
set_option maxHeartbeats 4000000 in
theorem k5c_X4_open {u g H T N : Nat} {S : cS} {a0 : Nat} {x1 : Int32} {x2 : Int32} {x3 : Int32} (hS : St u g H T S) (t_x0 : isO g H 3 a0) (ok : p_X4_open N g H T S a0 x1 x2 x3) : St u g H T (k_X4_open N g H T S a0 x1 x2 x3) ∧ M5 g H S (k_X4_open N g H T S a0 x1 x2 x3) := by
  exact k5b_X4_open_0 (X := fun F => F = k_X4_open N g H T S a0 x1 x2 x3) (fun S' h1 h2 h => by rw [← h]; exact ⟨h1, h2⟩) hS M5.rfl' t_x0 ok rfl
set_option maxRecDepth 100000 in
set_option maxHeartbeats 4000000 in
theorem k5b_X4_add_59 {u g H T N : Nat} {S : cS} {S0 : cS} {R_ : Prop} {X : cS → Prop} (hR : ∀ S', St u g H T S' → M5 g H S0 S' → X S' → R_) (hS : St u g H T S) (hM : M5 g H S0 S) (ok : KO_X4_add_59 N g H T S) (hx : X (KF_X4_add_59 N g H T S)) : R_ := by
  unfold KO_X4_add_59 at ok
  unfold KF_X4_add_59 at hx
  exact hR _ hS hM hx
set_option maxRecDepth 100000 in
set_option maxHeartbeats 4000000 in
theorem k5b_X4_add_47 {u g H T N : Nat} {S : cS} {S0 : cS} {R_ : Prop} {X : cS → Prop} (hR : ∀ S', St u g H T S' → M5 g H S0 S' → X S' → R_) {x0 : Nat} {x2 : Int32} {x3 : Int32} (hS : St u g H T S) (hM : M5 g H S0 S) (t_x0 : isO g H 3 x0) (ok : KO_X4_add_47 N g H T x0 x2 x3 S) (hx : X (KF_X4_add_47 N g H T x0 x2 x3 S)) : R_ := by
  unfold KO_X4_add_47 at ok
  unfold KF_X4_add_47 at hx
  have hS := hS.I 4 x0 ((cI S 4 x0) + (x3 - x2))
  have hM := hM.I 4 x0 ((cI S 4 x0) + (x3 - x2))
  exact k5b_X4_add_59 hR hS hM  ok hx
set_option maxRecDepth 100000 in
set_option maxHeartbeats 4000000 in
theorem k5b_X4_add_0 {u g H T N : Nat} {S : cS} {S0 : cS} {R_ : Prop} {X : cS → Prop} (hR : ∀ S', St u g H T S' → M5 g H S0 S' → X S' → R_) {x0 : Nat} {x1 : Option Nat} {x2 : Int32} {x3 : Int32} (hS : St u g H T S) (hM : M5 g H S0 S) (t_x0 : isO g H 3 x0) (t_x1 : tK S 20 x1) (ok : KO_X4_add_0 N g H T x0 x1 x2 x3 S) (hx : X (KF_X4_add_0 N g H T x0 x1 x2 x3 S)) : R_ := by
  unfold KO_X4_add_0 at ok
  unfold KF_X4_add_0 at hx
  refine pif_p ok (fun c_1 => ?_) (fun c_1 => ?_)
  · have ok := ok.1 c_1
    have hx := xif_p c_1 hx
    exact k5b_X4_add_59 hR hS hM  ok hx
  · have ok := ok.2 c_1
    have hx := xif_n c_1 hx
    refine pif_p ok (fun c_6 => ?_) (fun c_6 => ?_)
    · have ok := ok.1 c_6
      have hx := xif_p c_6 hx
      exact k5b_X4_add_59 hR hS hM  ok hx
    · have ok := ok.2 c_6
      have hx := xif_n c_6 hx
      have ok := ok.2
      refine pif_p ok (fun c_12 => ?_) (fun c_12 => ?_)
      · have ok := ok.1 c_12
        have hx := xif_p c_12 hx
        exact k5b_X4_add_59 hR hS hM  ok hx
      · have ok := ok.2 c_12
        have hx := xif_n c_12 hx
        refine pif_p ok (fun c_28 => ?_) (fun c_28 => ?_)
        · have ok := ok.1 c_28
          have hx := xif_p c_28 hx
          exact k5b_X4_add_59 hR hS hM  ok hx
        · have ok := ok.2 c_28
          have hx := xif_n c_28 hx
          have tq_44 : tK S 20 (some (za x1)) := tK_some (tK.cis t_x1 ok.1.1).2
          have hS := hS.Ac (x0 + 3) (za x1) x2.toNatClampNeg (cI S 4 x0).toNatClampNeg (x3 - x2).toNatClampNeg tq_44
          have hM := hM.Ar (x0 + 3) (va_cpy (cA S (za x1)) (cA S (x0 + 3)) x2.toNatClampNeg (cI S 4 x0).toNatClampNeg (x3 - x2).toNatClampNeg)
          have ok := ok.2
          exact k5b_X4_add_47 hR hS hM t_x0 ok hx
set_option maxRecDepth 100000 in
set_option maxHeartbeats 4000000 in
theorem k5c_X4_add {u g H T N : Nat} {S : cS} {a0 : Nat} {x1 : Option Nat} {x2 : Int32} {x3 : Int32} (hS : St u g H T S) (t_x0 : isO g H 3 a0) (t_x1 : tK S 20 x1) (ok : p_X4_add N g H T S a0 x1 x2 x3) : St u g H T (k_X4_add N g H T S a0 x1 x2 x3) ∧ M5 g H S (k_X4_add N g H T S a0 x1 x2 x3) := by
  exact k5b_X4_add_0 (X := fun F => F = k_X4_add N g H T S a0 x1 x2 x3) (fun S' h1 h2 h => by rw [← h]; exact ⟨h1, h2⟩) hS M5.rfl' t_x0 t_x1 ok rfl
set_option maxRecDepth 100000 in
set_option maxHeartbeats 4000000 in
theorem k5b_X4_write_225 {u g H T N : Nat} {S : cS} {S0 : cS} {R_ : Prop} {X : Int32 × cS → Prop} (hR : ∀ v S', St u g H T S' → M5 g H S0 S' → X (v, S') → R_) {s0 : Int32} (hS : St u g H T S) (hM : M5 g H S0 S) (ok : KO_X4_write_225 N g H T s0 S) (hx : X (KF_X4_write_225 N g H T s0 S)) : R_ := by
  unfold KO_X4_write_225 at ok
  unfold KF_X4_write_225 at hx
  exact hR _ _ hS hM hx
set_option maxRecDepth 100000 in
set_option maxHeartbeats 4000000 in
theorem k5b_X4_write_216 {u g H T N : Nat} {S : cS} {S0 : cS} {R_ : Prop} {X : Int32 × cS → Prop} (hR : ∀ v S', St u g H T S' → M5 g H S0 S' → X (v, S') → R_) {x2 : Int32} (hS : St u g H T S) (hM : M5 g H S0 S) (ok : KO_X4_write_216 N g H T x2 S) (hx : X (KF_X4_write_216 N g H T x2 S)) : R_ := by
  unfold KO_X4_write_216 at ok
  unfold KF_X4_write_216 at hx
  refine pif_n ok (fun c_217 => ?_) (fun c_217 => ?_)
  · have ok := ok.2 c_217
    have hx := xif_n c_217 hx
    exact k5b_X4_write_225 hR hS hM  ok hx
  · have ok := ok.1 c_217
    have hx := xif_p c_217 hx
    exact k5b_X4_write_225 hR hS hM  ok hx
set_option maxRecDepth 100000 in
set_option maxHeartbeats 4000000 in
theorem k5b_X4_write_202 {u g H T N : Nat} {S : cS} {S0 : cS} {R_ : Prop} {X : Int32 × cS → Prop} (hR : ∀ v S', St u g H T S' → M5 g H S0 S' → X (v, S') → R_) {x0 : Nat} {x2 : Int32} (hS : St u g H T S) (hM : M5 g H S0 S) (t_x0 : isO g H 3 x0) (ok : KO_X4_write_202 N g H T x0 x2 S) (hx : X (KF_X4_write_202 N g H T x0 x2 S)) : R_ := by
  unfold KO_X4_write_202 at ok
  unfold KF_X4_write_202 at hx
  refine pif_n ok (fun c_203 => ?_) (fun c_203 => ?_)
  · have ok := ok.2 c_203
    have hx := xif_n c_203 hx
    exact k5b_X4_write_216 hR hS hM  ok hx
  · have ok := ok.1 c_203
    have hx := xif_p c_203 hx
    have hS := hS.I 7 x0 ((cI S 7 x0) + (nI 1))
    have hM := hM.I 7 x0 ((cI S 7 x0) + (nI 1))
    exact k5b_X4_write_216 hR hS hM  ok hx
set_option maxRecDepth 100000 in
set_option maxHeartbeats 4000000 in
theorem k5b_X4_write_190 {u g H T N : Nat} {S : cS} {S0 : cS} {R_ : Prop} {X : Nat × Nat × Int32 × cS → Prop} (hX0 : ∀ (x0 : Nat) (x2 : Int32) (S' : cS), St u g H T S' → M5 g H S0 S' → isO g H 3 x0 → X (0, x0, x2, S') → R_) {rec : Nat → Int32 → Int32 → Int32 → cS → Nat × Nat × Int32 × cS} {rok : Nat → Int32 → Int32 → Int32 → cS → Prop} (hrec : ∀ (x0 : Nat) (x2 : Int32) (x3 : Int32) (x4 : Int32) (S : cS), St u g H T S → M5 g H S0 S → isO g H 3 x0 → rok x0 x2 x3 x4 S → X (rec x0 x2 x3 x4 S) → R_) {x0 : Nat} {x2 : Int32} {x3 : Int32} {x4 : Int32} (hS : St u g H T S) (hM : M5 g H S0 S) (t_x0 : isO g H 3 x0) (ok : KO_X4_write_190 N g H T rok x0 x2 x3 x4 S) (hx : X (KF_X4_write_190 N g H T rec x0 x2 x3 x4 S)) : R_ := by
  unfold KO_X4_write_190 at ok
  unfold KF_X4_write_190 at hx
  exact hrec _ _ _ _ S hS hM t_x0 ok hx
set_option maxRecDepth 100000 in
set_option maxHeartbeats 4000000 in
theorem k5b_X4_write_174 {u g H T N : Nat} {S : cS} {S0 : cS} {R_ : Prop} {X : Nat × Nat × Int32 × cS → Prop} (hX0 : ∀ (x0 : Nat) (x2 : Int32) (S' : cS), St u g H T S' → M5 g H S0 S' → isO g H 3 x0 → X (0, x0, x2, S') → R_) {rec : Nat → Int32 → Int32 → Int32 → cS → Nat × Nat × Int32 × cS} {rok : Nat → Int32 → Int32 → Int32 → cS → Prop} (hrec : ∀ (x0 : Nat) (x2 : Int32) (x3 : Int32) (x4 : Int32) (S : cS), St u g H T S → M5 g H S0 S → isO g H 3 x0 → rok x0 x2 x3 x4 S → X (rec x0 x2 x3 x4 S) → R_) {x0 : Nat} {x2 : Int32} {x3 : Int32} {x4 : Int32} {x6 : Int32} {s0 : Option Nat} {s1 : Int32} {s2 : Int32} (hS : St u g H T S) (hM : M5 g H S0 S) (t_x0 : isO g H 3 x0) (t_s0 : tK S 23 s0) (ok : KO_X4_write_174 N g H T rok x0 x2 x3 x4 x6 s0 s1 s2 S) (hx : X (KF_X4_write_174 N g H T rec x0 x2 x3 x4 x6 s0 s1 s2 S)) : R_ := by
  unfold KO_X4_write_174 at ok
  unfold KF_X4_write_174 at hx
  have tq_174 : tK S 23 (some (za s0)) := tK_some (tK.cis t_s0 ok.1.1).2
  have hS := hS.Aw (k := 23) (za s0) s1.toNatClampNeg s2 tq_174 (by decide)
  have hM := hM.A (za s0) s1.toNatClampNeg s2
  have ok := ok.2
  refine pif_n ok (fun c_177 => ?_) (fun c_177 => ?_)
  · have ok := ok.2 c_177
    have hx := xif_n c_177 hx
    exact k5b_X4_write_190 hX0 hrec hS hM t_x0 ok hx
  · have ok := ok.1 c_177
    have hx := xif_p c_177 hx
    have hS := hS.I 8 x0 ((cI (csA S (za s0) s1.toNatClampNeg s2) 8 x0) + (nI 1))
    have hM := hM.I 8 x0 ((cI (csA S (za s0) s1.toNatClampNeg s2) 8 x0) + (nI 1))
    exact k5b_X4_write_190 hX0 hrec hS hM t_x0 ok hx
set_option maxRecDepth 100000 in
set_option maxHeartbeats 4000000 in
theorem k5b_X4_write_158 {u g H T N : Nat} {S : cS} {S0 : cS} {R_ : Prop} {X : Nat × Nat × Int32 × cS → Prop} (hX0 : ∀ (x0 : Nat) (x2 : Int32) (S' : cS), St u g H T S' → M5 g H S0 S' → isO g H 3 x0 → X (0, x0, x2, S') → R_) {rec : Nat → Int32 → Int32 → Int32 → cS → Nat × Nat × Int32 × cS} {rok : Nat → Int32 → Int32 → Int32 → cS → Prop} (hrec : ∀ (x0 : Nat) (x2 : Int32) (x3 : Int32) (x4 : Int32) (S : cS), St u g H T S → M5 g H S0 S → isO g H 3 x0 → rok x0 x2 x3 x4 S → X (rec x0 x2 x3 x4 S) → R_) {x0 : Nat} {x2 : Int32} {x3 : Int32} {x4 : Int32} {x6 : Int32} (hS : St u g H T S) (hM : M5 g H S0 S) (t_x0 : isO g H 3 x0) (ok : KO_X4_write_158 N g H T rok x0 x2 x3 x4 x6 S) (hx : X (KF_X4_write_158 N g H T rec x0 x2 x3 x4 x6 S)) : R_ := by
  unfold KO_X4_write_158 at ok
  unfold KF_X4_write_158 at hx
  refine pif_n ok (fun c_166 => ?_) (fun c_166 => ?_)
  · have ok := ok.2 c_166
    have hx := xif_n c_166 hx
    exact k5b_X4_write_174 hX0 hrec hS hM t_x0 (hS.rk (c := 3) (k := 1) t_x0 rfl (by omega)) ok hx
  · have ok := ok.1 c_166
    have hx := xif_p c_166 hx
    exact k5b_X4_write_174 hX0 hrec hS hM t_x0 (hS.rk (c := 3) (k := 1) t_x0 rfl (by omega)) ok hx
set_option maxRecDepth 100000 in
set_option maxHeartbeats 4000000 in
theorem k5b_X4_write_155 {u g H T N : Nat} {S : cS} {S0 : cS} {R_ : Prop} {X : Nat × Nat × Int32 × cS → Prop} (hX0 : ∀ (x0 : Nat) (x2 : Int32) (S' : cS), St u g H T S' → M5 g H S0 S' → isO g H 3 x0 → X (0, x0, x2, S') → R_) {rec : Nat → Int32 → Int32 → Int32 → cS → Nat × Nat × Int32 × cS} {rok : Nat → Int32 → Int32 → Int32 → cS → Prop} (hrec : ∀ (x0 : Nat) (x2 : Int32) (x3 : Int32) (x4 : Int32) (S : cS), St u g H T S → M5 g H S0 S → isO g H 3 x0 → rok x0 x2 x3 x4 S → X (rec x0 x2 x3 x4 S) → R_) {x0 : Nat} {x2 : Int32} {x3 : Int32} {x4 : Int32} {x6 : Int32} {s0 : Option Nat} {s1 : Int32} {s2 : Option Nat} {s3 : Int32} {s4 : Int32} (hS : St u g H T S) (hM : M5 g H S0 S) (t_x0 : isO g H 3 x0) (t_s0 : tK S 20 s0) (t_s2 : tK S 20 s2) (ok : KO_X4_write_155 N g H T rok x0 x2 x3 x4 x6 s0 s1 s2 s3 s4 S) (hx : X (KF_X4_write_155 N g H T rec x0 x2 x3 x4 x6 s0 s1 s2 s3 s4 S)) : R_ := by
  unfold KO_X4_write_155 at ok
  unfold KF_X4_write_155 at hx
  have tq_155 : tK S 20 (some (za s0)) := tK_some (tK.cis t_s0 ok.1.2.1).2
  have hS := hS.Ac (za s2) (za s0) s1.toNatClampNeg s3.toNatClampNeg s4.toNatClampNeg tq_155
  have hM := hM.Ar (za s2) (va_cpy (cA S (za s0)) (cA S (za s2)) s1.toNatClampNeg s3.toNatClampNeg s4.toNatClampNeg)
  have ok := ok.2
  exact k5b_X4_write_158 hX0 hrec hS hM t_x0 ok hx
set_option maxRecDepth 100000 in
set_option maxHeartbeats 4000000 in
theorem k5b_X4_write_128 {u g H T N : Nat} {S : cS} {S0 : cS} {R_ : Prop} {X : Nat × Nat × Int32 × cS → Prop} (hX0 : ∀ (x0 : Nat) (x2 : Int32) (S' : cS), St u g H T S' → M5 g H S0 S' → isO g H 3 x0 → X (0, x0, x2, S') → R_) {rec : Nat → Int32 → Int32 → Int32 → cS → Nat × Nat × Int32 × cS} {rok : Nat → Int32 → Int32 → Int32 → cS → Prop} (hrec : ∀ (x0 : Nat) (x2 : Int32) (x3 : Int32) (x4 : Int32) (S : cS), St u g H T S → M5 g H S0 S → isO g H 3 x0 → rok x0 x2 x3 x4 S → X (rec x0 x2 x3 x4 S) → R_) {x0 : Nat} {x2 : Int32} {x3 : Int32} {x4 : Int32} {x5 : Int32} {x6 : Int32} (hS : St u g H T S) (hM : M5 g H S0 S) (t_x0 : isO g H 3 x0) (ok : KO_X4_write_128 N g H T rok x0 x2 x3 x4 x5 x6 S) (hx : X (KF_X4_write_128 N g H T rec x0 x2 x3 x4 x5 x6 S)) : R_ := by
  unfold KO_X4_write_128 at ok
  unfold KF_X4_write_128 at hx
  have p_139 := hS.row26 (hS.rk (c := 3) (k := 0) t_x0 rfl (by omega)) x4.toNatClampNeg
  have ok := ok.2
  refine pif_p ok (fun c_143 => ?_) (fun c_143 => ?_)
  · have ok := ok.1 c_143
    have hx := xif_p c_143 hx
    exact k5b_X4_write_155 hX0 hrec hS hM t_x0 (hS.rk (c := 3) (k := 2) t_x0 rfl (by omega)) p_139 ok hx
  · have ok := ok.2 c_143
    have hx := xif_n c_143 hx
    exact k5b_X4_write_155 hX0 hrec hS hM t_x0 (hS.rk (c := 3) (k := 2) t_x0 rfl (by omega)) p_139 ok hx
set_option maxRecDepth 100000 in
set_option maxHeartbeats 4000000 in
theorem k5b_X4_write_127 {u g H T N : Nat} {S : cS} {S0 : cS} {R_ : Prop} {X : Nat × Nat × Int32 × cS → Prop} (hX0 : ∀ (x0 : Nat) (x2 : Int32) (S' : cS), St u g H T S' → M5 g H S0 S' → isO g H 3 x0 → X (0, x0, x2, S') → R_) {rec : Nat → Int32 → Int32 → Int32 → cS → Nat × Nat × Int32 × cS} {rok : Nat → Int32 → Int32 → Int32 → cS → Prop} (hrec : ∀ (x0 : Nat) (x2 : Int32) (x3 : Int32) (x4 : Int32) (S : cS), St u g H T S → M5 g H S0 S → isO g H 3 x0 → rok x0 x2 x3 x4 S → X (rec x0 x2 x3 x4 S) → R_) {x0 : Nat} {x2 : Int32} {x3 : Int32} {x4 : Int32} {x5 : Int32} {x6 : Int32} {s0 : Option Nat} {s1 : Int32} {s2 : Option Nat} (hS : St u g H T S) (hM : M5 g H S0 S) (t_x0 : isO g H 3 x0) (t_s0 : tK S 26 s0) (t_s2 : tK S 20 s2) (ok : KO_X4_write_127 N g H T rok x0 x2 x3 x4 x5 x6 s0 s1 s2 S) (hx : X (KF_X4_write_127 N g H T rec x0 x2 x3 x4 x5 x6 s0 s1 s2 S)) : R_ := by
  unfold KO_X4_write_127 at ok
  unfold KF_X4_write_127 at hx
  have hS2 := hS.P26 (i := s1.toNatClampNeg) (t_s0 _ (za_of ok.1.1)) t_s2
  have hS := hS2
  have hM := hM.P (za s0) s1.toNatClampNeg s2
  have ok := ok.2
  exact k5b_X4_write_128 hX0 hrec hS hM t_x0 ok hx
set_option maxRecDepth 100000 in
set_option maxHeartbeats 4000000 in
theorem k5b_X4_write_104 {u g H T N : Nat} {S : cS} {S0 : cS} {R_ : Prop} {X : Nat × Nat × Int32 × cS → Prop} (hX0 : ∀ (x0 : Nat) (x2 : Int32) (S' : cS), St u g H T S' → M5 g H S0 S' → isO g H 3 x0 → X (0, x0, x2, S') → R_) {rec : Nat → Int32 → Int32 → Int32 → cS → Nat × Nat × Int32 × cS} {rok : Nat → Int32 → Int32 → Int32 → cS → Prop} (hrec : ∀ (x0 : Nat) (x2 : Int32) (x3 : Int32) (x4 : Int32) (S : cS), St u g H T S → M5 g H S0 S → isO g H 3 x0 → rok x0 x2 x3 x4 S → X (rec x0 x2 x3 x4 S) → R_) {x0 : Nat} {x2 : Int32} {x3 : Int32} {x4 : Int32} {x5 : Int32} {s0 : Int32} (hS : St u g H T S) (hM : M5 g H S0 S) (t_x0 : isO g H 3 x0) (ok : KO_X4_write_104 N g H T rok x0 x2 x3 x4 x5 s0 S) (hx : X (KF_X4_write_104 N g H T rec x0 x2 x3 x4 x5 s0 S)) : R_ := by
  unfold KO_X4_write_104 at ok
  unfold KF_X4_write_104 at hx
  have p_112 := hS.row26 (hS.rk (c := 3) (k := 0) t_x0 rfl (by omega)) x4.toNatClampNeg
  have ok := ok.2
  refine pif_n ok (fun c_113 => ?_) (fun c_113 => ?_)
  · have ok := ok.2 c_113
    have hx := xif_n c_113 hx
    exact k5b_X4_write_128 hX0 hrec hS hM t_x0 ok hx
  · have ok := ok.1 c_113
    have hx := xif_p c_113 hx
    have hm_125 := m5_new hS 20 (nI 512).toNatClampNeg
    have hS := hS.new (c := 20) (n := (nI 512).toNatClampNeg) (by decide)
    have hM := hM.trans hm_125
    have ok := ok.2
    exact k5b_X4_write_127 hX0 hrec hS hM t_x0 (hS.rk (c := 3) (k := 0) t_x0 rfl (by omega)) (tK_some (new_self _ _ _)) ok hx
set_option maxRecDepth 100000 in
set_option maxHeartbeats 4000000 in
theorem k5b_X4_write_103 {u g H T N : Nat} {S : cS} {S0 : cS} {R_ : Prop} {X : Nat × Nat × Int32 × cS → Prop} (hX0 : ∀ (x0 : Nat) (x2 : Int32) (S' : cS), St u g H T S' → M5 g H S0 S' → isO g H 3 x0 → X (0, x0, x2, S') → R_) {rec : Nat → Int32 → Int32 → Int32 → cS → Nat × Nat × Int32 × cS} {rok : Nat → Int32 → Int32 → Int32 → cS → Prop} (hrec : ∀ (x0 : Nat) (x2 : Int32) (x3 : Int32) (x4 : Int32) (S : cS), St u g H T S → M5 g H S0 S → isO g H 3 x0 → rok x0 x2 x3 x4 S → X (rec x0 x2 x3 x4 S) → R_) {x0 : Nat} {x2 : Int32} {x3 : Int32} {x4 : Int32} {x5 : Int32} (hS : St u g H T S) (hM : M5 g H S0 S) (t_x0 : isO g H 3 x0) (ok : KO_X4_write_103 N g H T rok x0 x2 x3 x4 x5 S) (hx : X (KF_X4_write_103 N g H T rec x0 x2 x3 x4 x5 S)) : R_ := by
  unfold KO_X4_write_103 at ok
  unfold KF_X4_write_103 at hx
  exact k5b_X4_write_104 hX0 hrec hS hM t_x0 ok hx
set_option maxRecDepth 100000 in
set_option maxHeartbeats 4000000 in
theorem k5bb_X4_write_48 {u g H T N : Nat} {S : cS} {S0 : cS} {R_ : Prop} {X : Nat × Nat × Int32 × cS → Prop} (hX0 : ∀ (x0 : Nat) (x2 : Int32) (S' : cS), St u g H T S' → M5 g H S0 S' → isO g H 3 x0 → X (0, x0, x2, S') → R_) {rec : Nat → Int32 → Int32 → Int32 → cS → Nat × Nat × Int32 × cS} {rok : Nat → Int32 → Int32 → Int32 → cS → Prop} (hrec : ∀ (x0 : Nat) (x2 : Int32) (x3 : Int32) (x4 : Int32) (S : cS), St u g H T S → M5 g H S0 S → isO g H 3 x0 → rok x0 x2 x3 x4 S → X (rec x0 x2 x3 x4 S) → R_) {x0 : Nat} {x2 : Int32} {x3 : Int32} {x4 : Int32} (hS : St u g H T S) (hM : M5 g H S0 S) (t_x0 : isO g H 3 x0) (ok : KOB_X4_write_48 N g H T rok x0 x2 x3 x4 S) (hx : X (KB_X4_write_48 N g H T rec x0 x2 x3 x4 S)) : R_ := by
  unfold KOB_X4_write_48 at ok
  unfold KB_X4_write_48 at hx
  refine pif_p ok (fun c_53 => ?_) (fun c_53 => ?_)
  · have ok := ok.1 c_53
    have hx := xif_p c_53 hx
    exact hX0 _ _ S hS hM t_x0 hx
  · have ok := ok.2 c_53
    have hx := xif_n c_53 hx
    refine pif_p ok (fun c_58 => ?_) (fun c_58 => ?_)
    · have ok := ok.1 c_58
      have hx := xif_p c_58 hx
      exact hX0 _ _ S hS hM t_x0 hx
    · have ok := ok.2 c_58
      have hx := xif_n c_58 hx
      refine pif_p ok (fun c_66 => ?_) (fun c_66 => ?_)
      · have ok := ok.1 c_66
        have hx := xif_p c_66 hx
        exact hX0 _ _ S hS hM t_x0 hx
      · have ok := ok.2 c_66
        have hx := xif_n c_66 hx
        refine pif_p ok (fun c_84 => ?_) (fun c_84 => ?_)
        · have ok := ok.1 c_84
          have hx := xif_p c_84 hx
          exact k5b_X4_write_103 hX0 hrec hS hM t_x0 ok hx
        · have ok := ok.2 c_84
          have hx := xif_n c_84 hx
          refine pif_p ok (fun c_96 => ?_) (fun c_96 => ?_)
          · have ok := ok.1 c_96
            have hx := xif_p c_96 hx
            exact k5b_X4_write_103 hX0 hrec hS hM t_x0 ok hx
          · have ok := ok.2 c_96
            have hx := xif_n c_96 hx
            exact k5b_X4_write_104 hX0 hrec hS hM t_x0 ok hx
set_option maxRecDepth 100000 in
set_option maxHeartbeats 4000000 in
theorem k5l_X4_write_48 {u g H T N : Nat} {S0 : cS} {R_ : Prop} {X : Nat × Nat × Int32 × cS → Prop} (hX0 : ∀ (x0 : Nat) (x2 : Int32) (S' : cS), St u g H T S' → M5 g H S0 S' → isO g H 3 x0 → X (0, x0, x2, S') → R_) : ∀ (n : Nat) (x0 : Nat) (x2 : Int32) (x3 : Int32) (x4 : Int32) (S : cS), St u g H T S → M5 g H S0 S → isO g H 3 x0 → KOL_X4_write_48 N g H T n x0 x2 x3 x4 S → X (KL_X4_write_48 N g H T n x0 x2 x3 x4 S) → R_ := by
  intro n
  induction n with
  | zero => intro x0 x2 x3 x4 S hS hM t_x0 ok; exact absurd ok id
  | succ n ih =>
    intro x0 x2 x3 x4 S hS hM t_x0 ok hx
    exact k5bb_X4_write_48 hX0 (rec := KL_X4_write_48 N g H T n) (rok := KOL_X4_write_48 N g H T n) (fun x0 x2 x3 x4 S hS hM t_x0 ok hx => ih x0 x2 x3 x4 S hS hM t_x0 ok hx) hS hM t_x0 ok hx
set_option maxRecDepth 100000 in
set_option maxHeartbeats 4000000 in
theorem k5d_X4_write_48 {u g H T N : Nat} {S : cS} {S0 : cS} {R_ : Prop} {X : Int32 × cS → Prop} (hR : ∀ v S', St u g H T S' → M5 g H S0 S' → X (v, S') → R_) {x0 : Nat} {x2 : Int32} {x3 : Int32} {x4 : Int32} (hS : St u g H T S) (hM : M5 g H S0 S) (t_x0 : isO g H 3 x0) (ok : KOL_X4_write_48 N g H T N x0 x2 x3 x4 S ∧ KOA_X4_write_48 N g H T x0 x2 x3 x4 S (KL_X4_write_48 N g H T N x0 x2 x3 x4 S)) (hx : X (KA_X4_write_48 N g H T x0 x2 x3 x4 S (KL_X4_write_48 N g H T N x0 x2 x3 x4 S))) : R_ := by
  refine k5l_X4_write_48 ?_ N x0 x2 x3 x4 S hS hM t_x0 ok.1 (X := fun z => KOA_X4_write_48 N g H T x0 x2 x3 x4 S z ∧ X (KA_X4_write_48 N g H T x0 x2 x3 x4 S z)) ⟨ok.2, hx⟩
  · intro x0' x2' S' hS hM t_x0 hz
    obtain ⟨ok, hx⟩ := hz
    unfold KOA_X4_write_48 at ok
    unfold KA_X4_write_48 at hx
    exact k5b_X4_write_202 hR hS hM t_x0 ok hx
set_option maxRecDepth 100000 in
set_option maxHeartbeats 4000000 in
theorem k5b_X4_write_43 {u g H T N : Nat} {S : cS} {S0 : cS} {R_ : Prop} {X : Int32 × cS → Prop} (hR : ∀ v S', St u g H T S' → M5 g H S0 S' → X (v, S') → R_) {x0 : Nat} {x1 : Int32} {x2 : Int32} (hS : St u g H T S) (hM : M5 g H S0 S) (t_x0 : isO g H 3 x0) (ok : KO_X4_write_43 N g H T x0 x1 x2 S) (hx : X (KF_X4_write_43 N g H T x0 x1 x2 S)) : R_ := by
  unfold KO_X4_write_43 at ok
  unfold KF_X4_write_43 at hx
  exact k5d_X4_write_48 hR hS hM t_x0 ok hx
set_option maxRecDepth 100000 in
set_option maxHeartbeats 4000000 in
theorem k5b_X4_write_31 {u g H T N : Nat} {S : cS} {S0 : cS} {R_ : Prop} {X : Int32 × cS → Prop} (hR : ∀ v S', St u g H T S' → M5 g H S0 S' → X (v, S') → R_) {x0 : Nat} {x1 : Int32} {x2 : Int32} (hS : St u g H T S) (hM : M5 g H S0 S) (t_x0 : isO g H 3 x0) (ok : KO_X4_write_31 N g H T x0 x1 x2 S) (hx : X (KF_X4_write_31 N g H T x0 x1 x2 S)) : R_ := by
  unfold KO_X4_write_31 at ok
  unfold KF_X4_write_31 at hx
  obtain ⟨hS, hm_40⟩ := k5c_X11_putTwo hS (hS.rk (c := 3) (k := 2) t_x0 rfl (by omega)) ok.1
  have hM := hM.trans hm_40
  have ok := ok.2
  exact k5b_X4_write_43 hR hS hM t_x0 ok hx
set_option maxRecDepth 100000 in
set_option maxHeartbeats 4000000 in
theorem k5b_X4_write_13 {u g H T N : Nat} {S : cS} {S0 : cS} {R_ : Prop} {X : Int32 × cS → Prop} (hR : ∀ v S', St u g H T S' → M5 g H S0 S' → X (v, S') → R_) {x0 : Nat} {x1 : Int32} {s0 : Int32} (hS : St u g H T S) (hM : M5 g H S0 S) (t_x0 : isO g H 3 x0) (ok : KO_X4_write_13 N g H T x0 x1 s0 S) (hx : X (KF_X4_write_13 N g H T x0 x1 s0 S)) : R_ := by
  unfold KO_X4_write_13 at ok
  unfold KF_X4_write_13 at hx
  refine pif_p ok (fun c_18 => ?_) (fun c_18 => ?_)
  · have ok := ok.1 c_18
    have hx := xif_p c_18 hx
    exact k5b_X4_write_31 hR hS hM t_x0 ok hx
  · have ok := ok.2 c_18
    have hx := xif_n c_18 hx
    have hS := hS.I 9 x0 ((cI S 9 x0) - (nI 1))
    have hM := hM.I 9 x0 ((cI S 9 x0) - (nI 1))
    exact k5b_X4_write_31 hR hS hM t_x0 ok hx
set_option maxRecDepth 100000 in
set_option maxHeartbeats 4000000 in
theorem k5b_X4_write_0 {u g H T N : Nat} {S : cS} {S0 : cS} {R_ : Prop} {X : Int32 × cS → Prop} (hR : ∀ v S', St u g H T S' → M5 g H S0 S' → X (v, S') → R_) {x0 : Nat} {x1 : Int32} (hS : St u g H T S) (hM : M5 g H S0 S) (t_x0 : isO g H 3 x0) (ok : KO_X4_write_0 N g H T x0 x1 S) (hx : X (KF_X4_write_0 N g H T x0 x1 S)) : R_ := by
  unfold KO_X4_write_0 at ok
  unfold KF_X4_write_0 at hx
  refine pif_n ok (fun c_5 => ?_) (fun c_5 => ?_)
  · have ok := ok.2 c_5
    have hx := xif_n c_5 hx
    exact k5b_X4_write_13 hR hS hM t_x0 ok hx
  · have ok := ok.1 c_5
    have hx := xif_p c_5 hx
    exact k5b_X4_write_13 hR hS hM t_x0 ok hx
set_option maxRecDepth 100000 in
set_option maxHeartbeats 4000000 in
theorem k5c_X4_write {u g H T N : Nat} {S : cS} {a0 : Nat} {x1 : Int32} (hS : St u g H T S) (t_x0 : isO g H 3 a0) (ok : p_X4_write N g H T S a0 x1) : St u g H T (k_X4_write N g H T S a0 x1).2 ∧ M5 g H S (k_X4_write N g H T S a0 x1).2 := by
  exact k5b_X4_write_0 (X := fun F => F = k_X4_write N g H T S a0 x1) (fun v S' h1 h2 h => by rw [← h]; exact ⟨h1, h2⟩) hS M5.rfl' t_x0 ok rfl
set_option maxRecDepth 100000 in
set_option maxHeartbeats 4000000 in
theorem k5b_X4_noteChain_37 {u g H T N : Nat} {S : cS} {S0 : cS} {R_ : Prop} {X : Int32 × cS → Prop} (hR : ∀ v S', St u g H T S' → M5 g H S0 S' → X (v, S') → R_) {x0 : Nat} {x1 : Int32} {x3 : Int32} {x4 : Int32} {s0 : Int32} (hS : St u g H T S) (hM : M5 g H S0 S) (t_x0 : isO g H 3 x0) (ok : KO_X4_noteChain_37 N g H T x0 x1 x3 x4 s0 S) (hx : X (KF_X4_noteChain_37 N g H T x0 x1 x3 x4 s0 S)) : R_ := by
  unfold KO_X4_noteChain_37 at ok
  unfold KF_X4_noteChain_37 at hx
  refine pif_n ok (fun c_37 => ?_) (fun c_37 => ?_)
  · have ok := ok.2 c_37
    have hx := xif_n c_37 hx
    have tq_51 : tK S 21 (some (x0 + 4)) := tK_some (tK.cis (hS.rk (c := 3) (k := 3) t_x0 rfl (by omega)) (Option.some_ne_none _)).2
    have hS := hS.Aw (k := 21) (x0 + 4) x1.toNatClampNeg (x4 - x3) tq_51 (by decide)
    have hM := hM.A (x0 + 4) x1.toNatClampNeg (x4 - x3)
    have ok := ok.2
    exact hR _ _ hS hM hx
  · have ok := ok.1 c_37
    have hx := xif_p c_37 hx
    exact hR _ _ hS hM hx
set_option maxRecDepth 100000 in
set_option maxHeartbeats 4000000 in
theorem k5b_X4_noteChain_28 {u g H T N : Nat} {S : cS} {S0 : cS} {R_ : Prop} {X : Int32 × cS → Prop} (hR : ∀ v S', St u g H T S' → M5 g H S0 S' → X (v, S') → R_) {x0 : Nat} {x1 : Int32} {x3 : Int32} {x4 : Int32} (hS : St u g H T S) (hM : M5 g H S0 S) (t_x0 : isO g H 3 x0) (ok : KO_X4_noteChain_28 N g H T x0 x1 x3 x4 S) (hx : X (KF_X4_noteChain_28 N g H T x0 x1 x3 x4 S)) : R_ := by
  unfold KO_X4_noteChain_28 at ok
  unfold KF_X4_noteChain_28 at hx
  obtain ⟨hS, hm_34⟩ := k5c_X4_write hS t_x0 ok.1
  have hM := hM.trans hm_34
  have ok := ok.2
  exact k5b_X4_noteChain_37 hR hS hM t_x0 ok hx
set_option maxRecDepth 100000 in
set_option maxHeartbeats 4000000 in
theorem k5b_X4_noteChain_20 {u g H T N : Nat} {S : cS} {S0 : cS} {R_ : Prop} {X : Int32 × cS → Prop} (hR : ∀ v S', St u g H T S' → M5 g H S0 S' → X (v, S') → R_) {x0 : Nat} {x1 : Int32} {x2 : Option Nat} {x3 : Int32} {x4 : Int32} (hS : St u g H T S) (hM : M5 g H S0 S) (t_x0 : isO g H 3 x0) (t_x2 : tK S 20 x2) (ok : KO_X4_noteChain_20 N g H T x0 x1 x2 x3 x4 S) (hx : X (KF_X4_noteChain_20 N g H T x0 x1 x2 x3 x4 S)) : R_ := by
  unfold KO_X4_noteChain_20 at ok
  unfold KF_X4_noteChain_20 at hx
  obtain ⟨hS, hm_25⟩ := k5c_X4_add hS t_x0 t_x2 ok.1
  have hM := hM.trans hm_25
  have ok := ok.2
  exact k5b_X4_noteChain_28 hR hS hM t_x0 ok hx
set_option maxRecDepth 100000 in
set_option maxHeartbeats 4000000 in
theorem k5b_X4_noteChain_11 {u g H T N : Nat} {S : cS} {S0 : cS} {R_ : Prop} {X : Int32 × cS → Prop} (hR : ∀ v S', St u g H T S' → M5 g H S0 S' → X (v, S') → R_) (hS : St u g H T S) (hM : M5 g H S0 S) (ok : KO_X4_noteChain_11 N g H T S) (hx : X (KF_X4_noteChain_11 N g H T S)) : R_ := by
  unfold KO_X4_noteChain_11 at ok
  unfold KF_X4_noteChain_11 at hx
  exact hR _ _ hS hM hx
set_option maxRecDepth 100000 in
set_option maxHeartbeats 4000000 in
theorem k5b_X4_noteChain_0 {u g H T N : Nat} {S : cS} {S0 : cS} {R_ : Prop} {X : Int32 × cS → Prop} (hR : ∀ v S', St u g H T S' → M5 g H S0 S' → X (v, S') → R_) {x0 : Nat} {x1 : Int32} {x2 : Option Nat} {x3 : Int32} {x4 : Int32} (hS : St u g H T S) (hM : M5 g H S0 S) (t_x0 : isO g H 3 x0) (t_x2 : tK S 20 x2) (ok : KO_X4_noteChain_0 N g H T x0 x1 x2 x3 x4 S) (hx : X (KF_X4_noteChain_0 N g H T x0 x1 x2 x3 x4 S)) : R_ := by
  unfold KO_X4_noteChain_0 at ok
  unfold KF_X4_noteChain_0 at hx
  refine pif_p ok (fun c_2 => ?_) (fun c_2 => ?_)
  · have ok := ok.1 c_2
    have hx := xif_p c_2 hx
    exact k5b_X4_noteChain_11 hR hS hM  ok hx
  · have ok := ok.2 c_2
    have hx := xif_n c_2 hx
    refine pif_p ok (fun c_8 => ?_) (fun c_8 => ?_)
    · have ok := ok.1 c_8
      have hx := xif_p c_8 hx
      obtain ⟨hS, hm_17⟩ := k5c_X4_open hS t_x0 ok.1
      have hM := hM.trans hm_17
      have ok := ok.2
      exact k5b_X4_noteChain_20 hR hS hM t_x0 (hm_17.tK t_x2 (by decide)) ok hx
    · have ok := ok.2 c_8
      have hx := xif_n c_8 hx
      exact k5b_X4_noteChain_11 hR hS hM  ok hx
set_option maxRecDepth 100000 in
set_option maxHeartbeats 4000000 in
theorem k5c_X4_noteChain {u g H T N : Nat} {S : cS} {a0 : Nat} {x1 : Int32} {x2 : Option Nat} {x3 : Int32} {x4 : Int32} (hS : St u g H T S) (t_x0 : isO g H 3 a0) (t_x2 : tK S 20 x2) (ok : p_X4_noteChain N g H T S a0 x1 x2 x3 x4) : St u g H T (k_X4_noteChain N g H T S a0 x1 x2 x3 x4).2 ∧ M5 g H S (k_X4_noteChain N g H T S a0 x1 x2 x3 x4).2 := by
  exact k5b_X4_noteChain_0 (X := fun F => F = k_X4_noteChain N g H T S a0 x1 x2 x3 x4) (fun v S' h1 h2 h => by rw [← h]; exact ⟨h1, h2⟩) hS M5.rfl' t_x0 t_x2 ok rfl

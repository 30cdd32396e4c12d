set_option maxRecDepth 100000 in
set_option maxHeartbeats 4000000 in
theorem k5b_X1_fits_239 {u g H T N : Nat} {S : cS} {S0 : cS} {R_ : Prop} {X : Int32 × cS → Prop} (hR : ∀ v S', St u g H T S' → M5 g H S0 S' → X (v, S') → R_) {s0 : Int32} (hS : St u g H T S) (hM : M5 g H S0 S) (ok : KO_X1_fits_239 N g H T s0 S) (hx : X (KF_X1_fits_239 N g H T s0 S)) : R_ := by
  unfold KO_X1_fits_239 at ok
  unfold KF_X1_fits_239 at hx
  exact hR _ _ hS hM hx
set_option maxRecDepth 100000 in
set_option maxHeartbeats 4000000 in
theorem k5b_X1_fits_238 {u g H T N : Nat} {S : cS} {S0 : cS} {R_ : Prop} {X : Int32 × cS → Prop} (hR : ∀ v S', St u g H T S' → M5 g H S0 S' → X (v, S') → R_) (hS : St u g H T S) (hM : M5 g H S0 S) (ok : KO_X1_fits_238 N g H T S) (hx : X (KF_X1_fits_238 N g H T S)) : R_ := by
  unfold KO_X1_fits_238 at ok
  unfold KF_X1_fits_238 at hx
  exact k5b_X1_fits_239 hR hS hM  ok hx
set_option maxRecDepth 100000 in
set_option maxHeartbeats 4000000 in
theorem k5b_X1_fits_220 {u g H T N : Nat} {S : cS} {S0 : cS} {R_ : Prop} {X : Int32 × cS → Prop} (hR : ∀ v S', St u g H T S' → M5 g H S0 S' → X (v, S') → R_) {s0 : Int32} (hS : St u g H T S) (hM : M5 g H S0 S) (ok : KO_X1_fits_220 N g H T s0 S) (hx : X (KF_X1_fits_220 N g H T s0 S)) : R_ := by
  unfold KO_X1_fits_220 at ok
  unfold KF_X1_fits_220 at hx
  exact hR _ _ hS hM hx
set_option maxRecDepth 100000 in
set_option maxHeartbeats 4000000 in
theorem k5b_X1_fits_203 {u g H T N : Nat} {S : cS} {S0 : cS} {R_ : Prop} {X : Int32 × cS → Prop} (hR : ∀ v S', St u g H T S' → M5 g H S0 S' → X (v, S') → R_) {s0 : Int32} (hS : St u g H T S) (hM : M5 g H S0 S) (ok : KO_X1_fits_203 N g H T s0 S) (hx : X (KF_X1_fits_203 N g H T s0 S)) : R_ := by
  unfold KO_X1_fits_203 at ok
  unfold KF_X1_fits_203 at hx
  exact hR _ _ hS hM hx
set_option maxRecDepth 100000 in
set_option maxHeartbeats 4000000 in
theorem k5b_X1_fits_202 {u g H T N : Nat} {S : cS} {S0 : cS} {R_ : Prop} {X : Int32 × cS → Prop} (hR : ∀ v S', St u g H T S' → M5 g H S0 S' → X (v, S') → R_) (hS : St u g H T S) (hM : M5 g H S0 S) (ok : KO_X1_fits_202 N g H T S) (hx : X (KF_X1_fits_202 N g H T S)) : R_ := by
  unfold KO_X1_fits_202 at ok
  unfold KF_X1_fits_202 at hx
  exact k5b_X1_fits_203 hR hS hM  ok hx
set_option maxRecDepth 100000 in
set_option maxHeartbeats 4000000 in
theorem k5b_X1_fits_184 {u g H T N : Nat} {S : cS} {S0 : cS} {R_ : Prop} {X : Int32 × cS → Prop} (hR : ∀ v S', St u g H T S' → M5 g H S0 S' → X (v, S') → R_) {s0 : Int32} (hS : St u g H T S) (hM : M5 g H S0 S) (ok : KO_X1_fits_184 N g H T s0 S) (hx : X (KF_X1_fits_184 N g H T s0 S)) : R_ := by
  unfold KO_X1_fits_184 at ok
  unfold KF_X1_fits_184 at hx
  exact hR _ _ hS hM hx
set_option maxRecDepth 100000 in
set_option maxHeartbeats 4000000 in
theorem k5b_X1_fits_176 {u g H T N : Nat} {S : cS} {S0 : cS} {R_ : Prop} {X : Int32 × cS → Prop} (hR : ∀ v S', St u g H T S' → M5 g H S0 S' → X (v, S') → R_) {s0 : Int32} (hS : St u g H T S) (hM : M5 g H S0 S) (ok : KO_X1_fits_176 N g H T s0 S) (hx : X (KF_X1_fits_176 N g H T s0 S)) : R_ := by
  unfold KO_X1_fits_176 at ok
  unfold KF_X1_fits_176 at hx
  exact hR _ _ hS hM hx
set_option maxRecDepth 100000 in
set_option maxHeartbeats 4000000 in
theorem k5b_X1_fits_175 {u g H T N : Nat} {S : cS} {S0 : cS} {R_ : Prop} {X : Int32 × cS → Prop} (hR : ∀ v S', St u g H T S' → M5 g H S0 S' → X (v, S') → R_) (hS : St u g H T S) (hM : M5 g H S0 S) (ok : KO_X1_fits_175 N g H T S) (hx : X (KF_X1_fits_175 N g H T S)) : R_ := by
  unfold KO_X1_fits_175 at ok
  unfold KF_X1_fits_175 at hx
  exact k5b_X1_fits_176 hR hS hM  ok hx
set_option maxRecDepth 100000 in
set_option maxHeartbeats 4000000 in
theorem k5b_X1_fits_163 {u g H T N : Nat} {S : cS} {S0 : cS} {R_ : Prop} {X : Int32 × cS → Prop} (hR : ∀ v S', St u g H T S' → M5 g H S0 S' → X (v, S') → R_) {x0 : Nat} {x1 : Option Nat} (hS : St u g H T S) (hM : M5 g H S0 S) (t_x0 : isO g H 1 x0) (t_x1 : tK S 20 x1) (ok : KO_X1_fits_163 N g H T x0 x1 S) (hx : X (KF_X1_fits_163 N g H T x0 x1 S)) : R_ := by
  unfold KO_X1_fits_163 at ok
  unfold KF_X1_fits_163 at hx
  have ok := ok.2
  refine pif_p ok (fun c_168 => ?_) (fun c_168 => ?_)
  · have ok := ok.1 c_168
    have hx := xif_p c_168 hx
    exact k5b_X1_fits_175 hR hS hM  ok hx
  · have ok := ok.2 c_168
    have hx := xif_n c_168 hx
    exact k5b_X1_fits_176 hR hS hM  ok hx
set_option maxRecDepth 100000 in
set_option maxHeartbeats 4000000 in
theorem k5b_X1_fits_150 {u g H T N : Nat} {S : cS} {S0 : cS} {R_ : Prop} {X : Int32 × cS → Prop} (hR : ∀ v S', St u g H T S' → M5 g H S0 S' → X (v, S') → R_) {x0 : Nat} {x1 : Option Nat} {x2 : Int32} (hS : St u g H T S) (hM : M5 g H S0 S) (t_x0 : isO g H 1 x0) (t_x1 : tK S 20 x1) (ok : KO_X1_fits_150 N g H T x0 x1 x2 S) (hx : X (KF_X1_fits_150 N g H T x0 x1 x2 S)) : R_ := by
  unfold KO_X1_fits_150 at ok
  unfold KF_X1_fits_150 at hx
  refine pif_n ok (fun c_153 => ?_) (fun c_153 => ?_)
  · have ok := ok.2 c_153
    have hx := xif_n c_153 hx
    exact k5b_X1_fits_175 hR hS hM  ok hx
  · have ok := ok.1 c_153
    have hx := xif_p c_153 hx
    have ok := ok.2
    refine pif_n ok (fun c_160 => ?_) (fun c_160 => ?_)
    · have ok := ok.2 c_160
      have hx := xif_n c_160 hx
      exact k5b_X1_fits_175 hR hS hM  ok hx
    · have ok := ok.1 c_160
      have hx := xif_p c_160 hx
      exact k5b_X1_fits_163 hR hS hM t_x0 t_x1 ok hx
set_option maxRecDepth 100000 in
set_option maxHeartbeats 4000000 in
theorem k5b_X1_fits_137 {u g H T N : Nat} {S : cS} {S0 : cS} {R_ : Prop} {X : Int32 × cS → Prop} (hR : ∀ v S', St u g H T S' → M5 g H S0 S' → X (v, S') → R_) {s0 : Int32} (hS : St u g H T S) (hM : M5 g H S0 S) (ok : KO_X1_fits_137 N g H T s0 S) (hx : X (KF_X1_fits_137 N g H T s0 S)) : R_ := by
  unfold KO_X1_fits_137 at ok
  unfold KF_X1_fits_137 at hx
  exact hR _ _ hS hM hx
set_option maxRecDepth 100000 in
set_option maxHeartbeats 4000000 in
theorem k5b_X1_fits_136 {u g H T N : Nat} {S : cS} {S0 : cS} {R_ : Prop} {X : Int32 × cS → Prop} (hR : ∀ v S', St u g H T S' → M5 g H S0 S' → X (v, S') → R_) (hS : St u g H T S) (hM : M5 g H S0 S) (ok : KO_X1_fits_136 N g H T S) (hx : X (KF_X1_fits_136 N g H T S)) : R_ := by
  unfold KO_X1_fits_136 at ok
  unfold KF_X1_fits_136 at hx
  exact k5b_X1_fits_137 hR hS hM  ok hx
set_option maxRecDepth 100000 in
set_option maxHeartbeats 4000000 in
theorem k5b_X1_fits_129 {u g H T N : Nat} {S : cS} {S0 : cS} {R_ : Prop} {X : Int32 × cS → Prop} (hR : ∀ v S', St u g H T S' → M5 g H S0 S' → X (v, S') → R_) {s0 : Int32} (hS : St u g H T S) (hM : M5 g H S0 S) (ok : KO_X1_fits_129 N g H T s0 S) (hx : X (KF_X1_fits_129 N g H T s0 S)) : R_ := by
  unfold KO_X1_fits_129 at ok
  unfold KF_X1_fits_129 at hx
  refine pif_p ok (fun c_129 => ?_) (fun c_129 => ?_)
  · have ok := ok.1 c_129
    have hx := xif_p c_129 hx
    exact k5b_X1_fits_136 hR hS hM  ok hx
  · have ok := ok.2 c_129
    have hx := xif_n c_129 hx
    exact k5b_X1_fits_137 hR hS hM  ok hx
set_option maxRecDepth 100000 in
set_option maxHeartbeats 4000000 in
theorem k5b_X1_fits_107 {u g H T N : Nat} {S : cS} {S0 : cS} {R_ : Prop} {X : Int32 × cS → Prop} (hR : ∀ v S', St u g H T S' → M5 g H S0 S' → X (v, S') → R_) {x0 : Nat} {x1 : Option Nat} {x2 : Int32} (hS : St u g H T S) (hM : M5 g H S0 S) (t_x0 : isO g H 1 x0) (t_x1 : tK S 20 x1) (ok : KO_X1_fits_107 N g H T x0 x1 x2 S) (hx : X (KF_X1_fits_107 N g H T x0 x1 x2 S)) : R_ := by
  unfold KO_X1_fits_107 at ok
  unfold KF_X1_fits_107 at hx
  have ok := ok.2
  have ok := ok.2
  refine pif_n ok (fun c_118 => ?_) (fun c_118 => ?_)
  · have ok := ok.2 c_118
    have hx := xif_n c_118 hx
    exact k5b_X1_fits_136 hR hS hM  ok hx
  · have ok := ok.1 c_118
    have hx := xif_p c_118 hx
    obtain ⟨hS, hm_126⟩ := k5c_X1_blockFits hS t_x0 t_x1 ok.1
    have hM := hM.trans hm_126
    have ok := ok.2
    exact k5b_X1_fits_129 hR hS hM  ok hx
set_option maxRecDepth 100000 in
set_option maxHeartbeats 4000000 in
theorem k5b_X1_fits_67 {u g H T N : Nat} {S : cS} {S0 : cS} {R_ : Prop} {X : Int32 × cS → Prop} (hR : ∀ v S', St u g H T S' → M5 g H S0 S' → X (v, S') → R_) {s0 : Int32} (hS : St u g H T S) (hM : M5 g H S0 S) (ok : KO_X1_fits_67 N g H T s0 S) (hx : X (KF_X1_fits_67 N g H T s0 S)) : R_ := by
  unfold KO_X1_fits_67 at ok
  unfold KF_X1_fits_67 at hx
  exact hR _ _ hS hM hx
set_option maxRecDepth 100000 in
set_option maxHeartbeats 4000000 in
theorem k5b_X1_fits_66 {u g H T N : Nat} {S : cS} {S0 : cS} {R_ : Prop} {X : Int32 × cS → Prop} (hR : ∀ v S', St u g H T S' → M5 g H S0 S' → X (v, S') → R_) (hS : St u g H T S) (hM : M5 g H S0 S) (ok : KO_X1_fits_66 N g H T S) (hx : X (KF_X1_fits_66 N g H T S)) : R_ := by
  unfold KO_X1_fits_66 at ok
  unfold KF_X1_fits_66 at hx
  exact k5b_X1_fits_67 hR hS hM  ok hx
set_option maxRecDepth 100000 in
set_option maxHeartbeats 4000000 in
theorem k5b_X1_fits_0 {u g H T N : Nat} {S : cS} {S0 : cS} {R_ : Prop} {X : Int32 × cS → Prop} (hR : ∀ v S', St u g H T S' → M5 g H S0 S' → X (v, S') → R_) {x0 : Nat} {x1 : Option Nat} {x2 : Int32} (hS : St u g H T S) (hM : M5 g H S0 S) (t_x0 : isO g H 1 x0) (t_x1 : tK S 20 x1) (ok : KO_X1_fits_0 N g H T x0 x1 x2 S) (hx : X (KF_X1_fits_0 N g H T x0 x1 x2 S)) : R_ := by
  unfold KO_X1_fits_0 at ok
  unfold KF_X1_fits_0 at hx
  have ok := ok.2
  by_cases c_3_0 : (cA S (za x1) (nI 0).toNatClampNeg) = nI 0
  · have ok := ok.1 c_3_0
    have hx := xif_p c_3_0 hx
    refine pif_n ok (fun c_51 => ?_) (fun c_51 => ?_)
    · have ok := ok.2 c_51
      have hx := xif_n c_51 hx
      exact k5b_X1_fits_66 hR hS hM  ok hx
    · have ok := ok.1 c_51
      have hx := xif_p c_51 hx
      have ok := ok.2
      refine pif_p ok (fun c_59 => ?_) (fun c_59 => ?_)
      · have ok := ok.1 c_59
        have hx := xif_p c_59 hx
        exact k5b_X1_fits_66 hR hS hM  ok hx
      · have ok := ok.2 c_59
        have hx := xif_n c_59 hx
        exact k5b_X1_fits_67 hR hS hM  ok hx
  · have ok := ok.2 c_3_0
    have hx := xif_n c_3_0 hx
    by_cases c_3_1 : (cA S (za x1) (nI 0).toNatClampNeg) = nI 1
    · have ok := ok.1 c_3_1
      have hx := xif_p c_3_1 hx
      refine pif_p ok (fun c_71 => ?_) (fun c_71 => ?_)
      · have ok := ok.1 c_71
        have hx := xif_p c_71 hx
        exact k5b_X1_fits_136 hR hS hM  ok hx
      · have ok := ok.2 c_71
        have hx := xif_n c_71 hx
        have ok := ok.2
        refine pif_p ok (fun c_79 => ?_) (fun c_79 => ?_)
        · have ok := ok.1 c_79
          have hx := xif_p c_79 hx
          exact k5b_X1_fits_136 hR hS hM  ok hx
        · have ok := ok.2 c_79
          have hx := xif_n c_79 hx
          have ok := ok.2
          refine pif_p ok (fun c_91 => ?_) (fun c_91 => ?_)
          · have ok := ok.1 c_91
            have hx := xif_p c_91 hx
            exact k5b_X1_fits_107 hR hS hM t_x0 t_x1 ok hx
          · have ok := ok.2 c_91
            have hx := xif_n c_91 hx
            have ok := ok.2
            refine pif_n ok (fun c_104 => ?_) (fun c_104 => ?_)
            · have ok := ok.2 c_104
              have hx := xif_n c_104 hx
              exact k5b_X1_fits_136 hR hS hM  ok hx
            · have ok := ok.1 c_104
              have hx := xif_p c_104 hx
              exact k5b_X1_fits_107 hR hS hM t_x0 t_x1 ok hx
    · have ok := ok.2 c_3_1
      have hx := xif_n c_3_1 hx
      by_cases c_3_2 : (cA S (za x1) (nI 0).toNatClampNeg) = nI 2
      · have ok := ok.1 c_3_2
        have hx := xif_p c_3_2 hx
        refine pif_n ok (fun c_141 => ?_) (fun c_141 => ?_)
        · have ok := ok.2 c_141
          have hx := xif_n c_141 hx
          exact k5b_X1_fits_150 hR hS hM t_x0 t_x1 ok hx
        · have ok := ok.1 c_141
          have hx := xif_p c_141 hx
          have ok := ok.2
          refine pif_p ok (fun c_147 => ?_) (fun c_147 => ?_)
          · have ok := ok.1 c_147
            have hx := xif_p c_147 hx
            exact k5b_X1_fits_163 hR hS hM t_x0 t_x1 ok hx
          · have ok := ok.2 c_147
            have hx := xif_n c_147 hx
            exact k5b_X1_fits_150 hR hS hM t_x0 t_x1 ok hx
      · have ok := ok.2 c_3_2
        have hx := xif_n c_3_2 hx
        by_cases c_3_3 : (cA S (za x1) (nI 0).toNatClampNeg) = nI 3
        · have ok := ok.1 c_3_3
          have hx := xif_p c_3_3 hx
          refine pif_n ok (fun c_141 => ?_) (fun c_141 => ?_)
          · have ok := ok.2 c_141
            have hx := xif_n c_141 hx
            exact k5b_X1_fits_150 hR hS hM t_x0 t_x1 ok hx
          · have ok := ok.1 c_141
            have hx := xif_p c_141 hx
            have ok := ok.2
            refine pif_p ok (fun c_147 => ?_) (fun c_147 => ?_)
            · have ok := ok.1 c_147
              have hx := xif_p c_147 hx
              exact k5b_X1_fits_163 hR hS hM t_x0 t_x1 ok hx
            · have ok := ok.2 c_147
              have hx := xif_n c_147 hx
              exact k5b_X1_fits_150 hR hS hM t_x0 t_x1 ok hx
        · have ok := ok.2 c_3_3
          have hx := xif_n c_3_3 hx
          by_cases c_3_4 : (cA S (za x1) (nI 0).toNatClampNeg) = nI 4
          · have ok := ok.1 c_3_4
            have hx := xif_p c_3_4 hx
            obtain ⟨hS, hm_181⟩ := k5c_X1_blockFits hS t_x0 t_x1 ok.1
            have hM := hM.trans hm_181
            have ok := ok.2
            exact k5b_X1_fits_184 hR hS hM  ok hx
          · have ok := ok.2 c_3_4
            have hx := xif_n c_3_4 hx
            by_cases c_3_5 : (cA S (za x1) (nI 0).toNatClampNeg) = nI 5
            · have ok := ok.1 c_3_5
              have hx := xif_p c_3_5 hx
              refine pif_n ok (fun c_187 => ?_) (fun c_187 => ?_)
              · have ok := ok.2 c_187
                have hx := xif_n c_187 hx
                exact k5b_X1_fits_202 hR hS hM  ok hx
              · have ok := ok.1 c_187
                have hx := xif_p c_187 hx
                have ok := ok.2
                refine pif_p ok (fun c_195 => ?_) (fun c_195 => ?_)
                · have ok := ok.1 c_195
                  have hx := xif_p c_195 hx
                  exact k5b_X1_fits_202 hR hS hM  ok hx
                · have ok := ok.2 c_195
                  have hx := xif_n c_195 hx
                  exact k5b_X1_fits_203 hR hS hM  ok hx
            · have ok := ok.2 c_3_5
              have hx := xif_n c_3_5 hx
              by_cases c_3_6 : (cA S (za x1) (nI 0).toNatClampNeg) = nI 6
              · have ok := ok.1 c_3_6
                have hx := xif_p c_3_6 hx
                have ok := ok.2
                refine pif_n ok (fun c_212 => ?_) (fun c_212 => ?_)
                · have ok := ok.2 c_212
                  have hx := xif_n c_212 hx
                  exact k5b_X1_fits_220 hR hS hM  ok hx
                · have ok := ok.1 c_212
                  have hx := xif_p c_212 hx
                  exact k5b_X1_fits_220 hR hS hM  ok hx
              · have ok := ok.2 c_3_6
                have hx := xif_n c_3_6 hx
                by_cases c_3_7 : (cA S (za x1) (nI 0).toNatClampNeg) = nI 7
                · have ok := ok.1 c_3_7
                  have hx := xif_p c_3_7 hx
                  refine pif_n ok (fun c_224 => ?_) (fun c_224 => ?_)
                  · have ok := ok.2 c_224
                    have hx := xif_n c_224 hx
                    exact k5b_X1_fits_238 hR hS hM  ok hx
                  · have ok := ok.1 c_224
                    have hx := xif_p c_224 hx
                    have ok := ok.2
                    refine pif_p ok (fun c_231 => ?_) (fun c_231 => ?_)
                    · have ok := ok.1 c_231
                      have hx := xif_p c_231 hx
                      exact k5b_X1_fits_238 hR hS hM  ok hx
                    · have ok := ok.2 c_231
                      have hx := xif_n c_231 hx
                      exact k5b_X1_fits_239 hR hS hM  ok hx
                · have ok := ok.2 c_3_7
                  have hx := xif_n c_3_7 hx
                  exact hR _ _ hS hM hx
set_option maxRecDepth 100000 in
set_option maxHeartbeats 4000000 in
theorem k5c_X1_fits {u g H T N : Nat} {S : cS} {a0 : Nat} {x1 : Option Nat} {x2 : Int32} (hS : St u g H T S) (t_x0 : isO g H 1 a0) (t_x1 : tK S 20 x1) (ok : p_X1_fits N g H T S a0 x1 x2) : St u g H T (k_X1_fits N g H T S a0 x1 x2).2 ∧ M5 g H S (k_X1_fits N g H T S a0 x1 x2).2 := by
  exact k5b_X1_fits_0 (X := fun F => F = k_X1_fits N g H T S a0 x1 x2) (fun v S' h1 h2 h => by rw [← h]; exact ⟨h1, h2⟩) hS M5.rfl' t_x0 t_x1 ok rfl
set_option maxRecDepth 100000 in
set_option maxHeartbeats 4000000 in
theorem k5b_X2_digest_11 {u g H T N : Nat} {S : cS} {S0 : cS} {R_ : Prop} {X : cS → Prop} (hR : ∀ S', St u g H T S' → M5 g H S0 S' → X S' → R_) {x0 : Nat} {x4 : Option Nat} {x5 : Int32} (hS : St u g H T S) (hM : M5 g H S0 S) (t_x0 : isO g H 2 x0) (t_x4 : tK S 20 x4) (ok : KO_X2_digest_11 N g H T x0 x4 x5 S) (hx : X (KF_X2_digest_11 N g H T x0 x4 x5 S)) : R_ := by
  unfold KO_X2_digest_11 at ok
  unfold KF_X2_digest_11 at hx
  obtain ⟨hS, hm_16⟩ := k5c_X2_close hS t_x0 t_x4 ok.1
  have hM := hM.trans hm_16
  have ok := ok.2
  exact hR _ hS hM hx
set_option maxRecDepth 100000 in
set_option maxHeartbeats 4000000 in
theorem k5b_X2_digest_4 {u g H T N : Nat} {S : cS} {S0 : cS} {R_ : Prop} {X : cS → Prop} (hR : ∀ S', St u g H T S' → M5 g H S0 S' → X S' → R_) {x0 : Nat} {x1 : Option Nat} {x2 : Int32} {x3 : Int32} {x4 : Option Nat} {x5 : Int32} (hS : St u g H T S) (hM : M5 g H S0 S) (t_x0 : isO g H 2 x0) (t_x1 : tK S 20 x1) (t_x4 : tK S 20 x4) (ok : KO_X2_digest_4 N g H T x0 x1 x2 x3 x4 x5 S) (hx : X (KF_X2_digest_4 N g H T x0 x1 x2 x3 x4 x5 S)) : R_ := by
  unfold KO_X2_digest_4 at ok
  unfold KF_X2_digest_4 at hx
  obtain ⟨hS, hm_8⟩ := k5c_X2_add_ hS t_x0 t_x1 ok.1
  have hM := hM.trans hm_8
  have ok := ok.2
  exact k5b_X2_digest_11 hR hS hM t_x0 (hm_8.tK t_x4 (by decide)) ok hx
set_option maxRecDepth 100000 in
set_option maxHeartbeats 4000000 in
theorem k5b_X2_digest_0 {u g H T N : Nat} {S : cS} {S0 : cS} {R_ : Prop} {X : cS → Prop} (hR : ∀ S', St u g H T S' → M5 g H S0 S' → X S' → R_) {x0 : Nat} {x1 : Option Nat} {x2 : Int32} {x3 : Int32} {x4 : Option Nat} {x5 : Int32} (hS : St u g H T S) (hM : M5 g H S0 S) (t_x0 : isO g H 2 x0) (t_x1 : tK S 20 x1) (t_x4 : tK S 20 x4) (ok : KO_X2_digest_0 N g H T x0 x1 x2 x3 x4 x5 S) (hx : X (KF_X2_digest_0 N g H T x0 x1 x2 x3 x4 x5 S)) : R_ := by
  unfold KO_X2_digest_0 at ok
  unfold KF_X2_digest_0 at hx
  obtain ⟨hS, hm_1⟩ := k5c_X2_open hS t_x0 ok.1
  have hM := hM.trans hm_1
  have ok := ok.2
  exact k5b_X2_digest_4 hR hS hM t_x0 (hm_1.tK t_x1 (by decide)) (hm_1.tK t_x4 (by decide)) ok hx
set_option maxRecDepth 100000 in
set_option maxHeartbeats 4000000 in
theorem k5c_X2_digest {u g H T N : Nat} {S : cS} {a0 : Nat} {x1 : Option Nat} {x2 : Int32} {x3 : Int32} {x4 : Option Nat} {x5 : Int32} (hS : St u g H T S) (t_x0 : isO g H 2 a0) (t_x1 : tK S 20 x1) (t_x4 : tK S 20 x4) (ok : p_X2_digest N g H T S a0 x1 x2 x3 x4 x5) : St u g H T (k_X2_digest N g H T S a0 x1 x2 x3 x4 x5) ∧ M5 g H S (k_X2_digest N g H T S a0 x1 x2 x3 x4 x5) := by
  exact k5b_X2_digest_0 (X := fun F => F = k_X2_digest N g H T S a0 x1 x2 x3 x4 x5) (fun S' h1 h2 h => by rw [← h]; exact ⟨h1, h2⟩) hS M5.rfl' t_x0 t_x1 t_x4 ok rfl
set_option maxRecDepth 100000 in
set_option maxHeartbeats 4000000 in
theorem k5b_X5_readId_60 {u g H T N : Nat} {S : cS} {S0 : cS} {R_ : Prop} {X : cS → Prop} (hR : ∀ S', St u g H T S' → M5 g H S0 S' → X S' → R_) (hS : St u g H T S) (hM : M5 g H S0 S) (ok : KO_X5_readId_60 N g H T S) (hx : X (KF_X5_readId_60 N g H T S)) : R_ := by
  unfold KO_X5_readId_60 at ok
  unfold KF_X5_readId_60 at hx
  exact hR _ hS hM hx
set_option maxRecDepth 100000 in
set_option maxHeartbeats 4000000 in
theorem k5bb_X5_readId_24 {u g H T N : Nat} {S : cS} {S0 : cS} {R_ : Prop} {X : Nat × cS → Prop} (hX0 : ∀ (S' : cS), St u g H T S' → M5 g H S0 S' → X (0, S') → R_) {rec : Option Nat → Option Nat → Int32 → Int32 → cS → Nat × cS} {rok : Option Nat → Option Nat → Int32 → Int32 → cS → Prop} (hrec : ∀ (x0 : Option Nat) (x1 : Option Nat) (x2 : Int32) (x3 : Int32) (S : cS), St u g H T S → M5 g H S0 S → tK S 5 x0 → tK S 20 x1 → rok x0 x1 x2 x3 S → X (rec x0 x1 x2 x3 S) → R_) {x0 : Option Nat} {x1 : Option Nat} {x2 : Int32} {x3 : Int32} (hS : St u g H T S) (hM : M5 g H S0 S) (t_x0 : tK S 5 x0) (t_x1 : tK S 20 x1) (ok : KOB_X5_readId_24 N g H T rok x0 x1 x2 x3 S) (hx : X (KB_X5_readId_24 N g H T rec x0 x1 x2 x3 S)) : R_ := by
  unfold KOB_X5_readId_24 at ok
  unfold KB_X5_readId_24 at hx
  refine pif_p ok (fun c_26 => ?_) (fun c_26 => ?_)
  · have ok := ok.1 c_26
    have hx := xif_p c_26 hx
    exact hX0 S hS hM  hx
  · have ok := ok.2 c_26
    have hx := xif_n c_26 hx
    have nn_30 := ok.1
    have ok := ok.2
    refine pif_p ok (fun c_33 => ?_) (fun c_33 => ?_)
    · have ok := ok.1 c_33
      have hx := xif_p c_33 hx
      exact hX0 S hS hM  hx
    · have ok := ok.2 c_33
      have hx := xif_n c_33 hx
      have p_37 := hS.m1k t_x0 nn_30
      have q_37 := hS.m1l t_x0 nn_30
      have ok := ok.2
      have ok := ok.2
      have hS := hS.J ((za x0) + 1) x3.toNatClampNeg (k_X11_eight N g H T S x1 (nI (cL S (za x1))) (x2 + ((nI 8) * x3)))
      have hM := hM.J ((za x0) + 1) x3.toNatClampNeg (k_X11_eight N g H T S x1 (nI (cL S (za x1))) (x2 + ((nI 8) * x3)))
      have ok := ok.2
      exact hrec _ _ _ _ (csJ S ((za x0) + 1) x3.toNatClampNeg (k_X11_eight N g H T S x1 (nI (cL S (za x1))) (x2 + ((nI 8) * x3)))) hS hM (tK_J t_x0) (tK_J t_x1) ok hx
set_option maxRecDepth 100000 in
set_option maxHeartbeats 4000000 in
theorem k5l_X5_readId_24 {u g H T N : Nat} {S0 : cS} {R_ : Prop} {X : Nat × cS → Prop} (hX0 : ∀ (S' : cS), St u g H T S' → M5 g H S0 S' → X (0, S') → R_) : ∀ (n : Nat) (x0 : Option Nat) (x1 : Option Nat) (x2 : Int32) (x3 : Int32) (S : cS), St u g H T S → M5 g H S0 S → tK S 5 x0 → tK S 20 x1 → KOL_X5_readId_24 N g H T n x0 x1 x2 x3 S → X (KL_X5_readId_24 N g H T n x0 x1 x2 x3 S) → R_ := by
  intro n
  induction n with
  | zero => intro x0 x1 x2 x3 S hS hM t_x0 t_x1 ok; exact absurd ok id
  | succ n ih =>
    intro x0 x1 x2 x3 S hS hM t_x0 t_x1 ok hx
    exact k5bb_X5_readId_24 hX0 (rec := KL_X5_readId_24 N g H T n) (rok := KOL_X5_readId_24 N g H T n) (fun x0 x1 x2 x3 S hS hM t_x0 t_x1 ok hx => ih x0 x1 x2 x3 S hS hM t_x0 t_x1 ok hx) hS hM t_x0 t_x1 ok hx
set_option maxRecDepth 100000 in
set_option maxHeartbeats 4000000 in
theorem k5d_X5_readId_24 {u g H T N : Nat} {S : cS} {S0 : cS} {R_ : Prop} {X : cS → Prop} (hR : ∀ S', St u g H T S' → M5 g H S0 S' → X S' → R_) {x0 : Option Nat} {x1 : Option Nat} {x2 : Int32} {x3 : Int32} (hS : St u g H T S) (hM : M5 g H S0 S) (t_x0 : tK S 5 x0) (t_x1 : tK S 20 x1) (ok : KOL_X5_readId_24 N g H T N x0 x1 x2 x3 S ∧ KOA_X5_readId_24 N g H T x0 x1 x2 x3 S (KL_X5_readId_24 N g H T N x0 x1 x2 x3 S)) (hx : X (KA_X5_readId_24 N g H T x0 x1 x2 x3 S (KL_X5_readId_24 N g H T N x0 x1 x2 x3 S))) : R_ := by
  refine k5l_X5_readId_24 ?_ N x0 x1 x2 x3 S hS hM t_x0 t_x1 ok.1 (X := fun z => KOA_X5_readId_24 N g H T x0 x1 x2 x3 S z ∧ X (KA_X5_readId_24 N g H T x0 x1 x2 x3 S z)) ⟨ok.2, hx⟩
  · intro S' hS hM hz
    obtain ⟨ok, hx⟩ := hz
    unfold KOA_X5_readId_24 at ok
    unfold KA_X5_readId_24 at hx
    exact k5b_X5_readId_60 hR hS hM  ok hx
set_option maxRecDepth 100000 in
set_option maxHeartbeats 4000000 in
theorem k5b_X5_readId_19 {u g H T N : Nat} {S : cS} {S0 : cS} {R_ : Prop} {X : cS → Prop} (hR : ∀ S', St u g H T S' → M5 g H S0 S' → X S' → R_) {x0 : Option Nat} {x1 : Option Nat} {x2 : Int32} {s0 : Option Nat} {s1 : Int32} (hS : St u g H T S) (hM : M5 g H S0 S) (t_x0 : tK S 5 x0) (t_x1 : tK S 20 x1) (t_s0 : tK S 5 s0) (ok : KO_X5_readId_19 N g H T x0 x1 x2 s0 s1 S) (hx : X (KF_X5_readId_19 N g H T x0 x1 x2 s0 s1 S)) : R_ := by
  unfold KO_X5_readId_19 at ok
  unfold KF_X5_readId_19 at hx
  have hS0 := hS
  have hS := hS.I 5 (za s0) s1
  have hM := hM.I5 (za s0) s1 (ne5M hS0 t_s0 (by first | exact ok.1 | exact ok.1.1))
  have ok := ok.2
  exact k5d_X5_readId_24 hR hS hM (tK_I t_x0) (tK_I t_x1) ok hx
set_option maxRecDepth 100000 in
set_option maxHeartbeats 4000000 in
theorem k5b_X5_readId_18 {u g H T N : Nat} {S : cS} {S0 : cS} {R_ : Prop} {X : cS → Prop} (hR : ∀ S', St u g H T S' → M5 g H S0 S' → X S' → R_) {x0 : Option Nat} {x1 : Option Nat} {x2 : Int32} {s0 : Option Nat} (hS : St u g H T S) (hM : M5 g H S0 S) (t_x0 : tK S 5 x0) (t_x1 : tK S 20 x1) (t_s0 : tK S 5 s0) (ok : KO_X5_readId_18 N g H T x0 x1 x2 s0 S) (hx : X (KF_X5_readId_18 N g H T x0 x1 x2 s0 S)) : R_ := by
  unfold KO_X5_readId_18 at ok
  unfold KF_X5_readId_18 at hx
  exact k5b_X5_readId_19 hR hS hM t_x0 t_x1 t_s0 ok hx
set_option maxRecDepth 100000 in
set_option maxHeartbeats 4000000 in
theorem k5b_X5_readId_0 {u g H T N : Nat} {S : cS} {S0 : cS} {R_ : Prop} {X : cS → Prop} (hR : ∀ S', St u g H T S' → M5 g H S0 S' → X S' → R_) {x0 : Option Nat} {x1 : Option Nat} {x2 : Int32} (hS : St u g H T S) (hM : M5 g H S0 S) (t_x0 : tK S 5 x0) (t_x1 : tK S 20 x1) (ok : KO_X5_readId_0 N g H T x0 x1 x2 S) (hx : X (KF_X5_readId_0 N g H T x0 x1 x2 S)) : R_ := by
  unfold KO_X5_readId_0 at ok
  unfold KF_X5_readId_0 at hx
  refine pif_p ok (fun c_2 => ?_) (fun c_2 => ?_)
  · have ok := ok.1 c_2
    have hx := xif_p c_2 hx
    exact k5b_X5_readId_18 hR hS hM t_x0 t_x1 t_x0 ok hx
  · have ok := ok.2 c_2
    have hx := xif_n c_2 hx
    have ok := ok.2
    refine pif_p ok (fun c_11 => ?_) (fun c_11 => ?_)
    · have ok := ok.1 c_11
      have hx := xif_p c_11 hx
      exact k5b_X5_readId_18 hR hS hM t_x0 t_x1 t_x0 ok hx
    · have ok := ok.2 c_11
      have hx := xif_n c_11 hx
      exact k5b_X5_readId_19 hR hS hM t_x0 t_x1 t_x0 ok hx
set_option maxRecDepth 100000 in
set_option maxHeartbeats 4000000 in
theorem k5c_X5_readId {u g H T N : Nat} {S : cS} {a0 : Nat} {x1 : Option Nat} {x2 : Int32} (hS : St u g H T S) (t_x0 : cK S a0 = 5) (t_x1 : tK S 20 x1) (ok : p_X5_readId N g H T S a0 x1 x2) : St u g H T (k_X5_readId N g H T S a0 x1 x2) ∧ M5 g H S (k_X5_readId N g H T S a0 x1 x2) := by
  exact k5b_X5_readId_0 (X := fun F => F = k_X5_readId N g H T S a0 x1 x2) (fun S' h1 h2 h => by rw [← h]; exact ⟨h1, h2⟩) hS M5.rfl' (tK_some t_x0) t_x1 ok rfl

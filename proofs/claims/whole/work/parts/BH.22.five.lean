set_option maxRecDepth 100000 in
set_option maxHeartbeats 4000000 in
theorem k5b_X11_proof_271 {g H T N : Nat} {S : cS} {S0 : cS} {R_ : Prop} {X : Int32 × cS → Prop} (hR : ∀ v S', St 1 g H T S' → M5 g H S0 S' → X (v, S') → R_) {s0 : Option Nat} {s1 : Int32} {s2 : Option Nat} {s3 : Int32} (hS : St 1 g H T S) (hM : M5 g H S0 S) (t_s0 : tK S 20 s0) (t_s2 : tK S 20 s2) (ok : KO_X11_proof_271 N g H T s0 s1 s2 s3 S) (hx : X (KF_X11_proof_271 N g H T s0 s1 s2 s3 S)) : R_ := by
  unfold KO_X11_proof_271 at ok
  unfold KF_X11_proof_271 at hx
  have ok := ok.2
  exact hR _ _ hS hM hx
set_option maxRecDepth 100000 in
set_option maxHeartbeats 4000000 in
theorem k5b_X11_proof_251 {g H T N : Nat} {S : cS} {S0 : cS} {R_ : Prop} {X : Int32 × cS → Prop} (hR : ∀ v S', St 1 g H T S' → M5 g H S0 S' → X (v, S') → R_) {x0 : Nat} {x1 : Int32} (hS : St 1 g H T S) (hM : M5 g H S0 S) (t_x0 : isO g H 9 x0) (ok : KO_X11_proof_251 N g H T x0 x1 S) (hx : X (KF_X11_proof_251 N g H T x0 x1 S)) : R_ := by
  unfold KO_X11_proof_251 at ok
  unfold KF_X11_proof_251 at hx
  refine pif_n ok (fun c_261 => ?_) (fun c_261 => ?_)
  · have ok := ok.2 c_261
    have hx := xif_n c_261 hx
    exact k5b_X11_proof_271 hR hS hM (hS.rk (c := 9) (k := 2) t_x0 rfl (by omega)) (hS.rk (c := 9) (k := 1) t_x0 rfl (by omega)) ok hx
  · have ok := ok.1 c_261
    have hx := xif_p c_261 hx
    exact k5b_X11_proof_271 hR hS hM (hS.rk (c := 9) (k := 2) t_x0 rfl (by omega)) (hS.rk (c := 9) (k := 1) t_x0 rfl (by omega)) ok hx
set_option maxRecDepth 100000 in
set_option maxHeartbeats 4000000 in
theorem k5b_X11_proof_245 {g H T N : Nat} {S : cS} {S0 : cS} {R_ : Prop} {X : Nat × Nat × Int32 × cS → Prop} (hX0 : ∀ (x0 : Nat) (x1 : Int32) (S' : cS), St 1 g H T S' → M5 g H S0 S' → X (0, x0, x1, S') → R_) (hX1 : ∀ (x0 : Nat) (x1 : Int32) (S' : cS), St 1 g H T S' → M5 g H S0 S' → isO g H 9 x0 → X (1, x0, x1, S') → R_) {rec : Nat → Int32 → Int32 → Nat → Int32 → cS → Nat × Nat × Int32 × cS} {rok : Nat → Int32 → Int32 → Nat → Int32 → cS → Prop} (hrec : ∀ (x0 : Nat) (x1 : Int32) (x3 : Int32) (x4 : Nat) (x5 : Int32) (S : cS), St 1 g H T S → M5 g H S0 S → isO g H 9 x0 → isO g H 2 x4 → rok x0 x1 x3 x4 x5 S → X (rec x0 x1 x3 x4 x5 S) → R_) {x0 : Nat} {x1 : Int32} {x3 : Int32} {x4 : Nat} {x5 : Int32} (hS : St 1 g H T S) (hM : M5 g H S0 S) (t_x0 : isO g H 9 x0) (t_x4 : isO g H 2 x4) (ok : KO_X11_proof_245 N g H T rok x0 x1 x3 x4 x5 S) (hx : X (KF_X11_proof_245 N g H T rec x0 x1 x3 x4 x5 S)) : R_ := by
  unfold KO_X11_proof_245 at ok
  unfold KF_X11_proof_245 at hx
  exact hrec _ _ _ _ _ S hS hM t_x0 t_x4 ok hx
set_option maxRecDepth 100000 in
set_option maxHeartbeats 4000000 in
theorem k5b_X11_proof_235 {g H T N : Nat} {S : cS} {S0 : cS} {R_ : Prop} {X : Nat × Nat × Int32 × cS → Prop} (hX0 : ∀ (x0 : Nat) (x1 : Int32) (S' : cS), St 1 g H T S' → M5 g H S0 S' → X (0, x0, x1, S') → R_) (hX1 : ∀ (x0 : Nat) (x1 : Int32) (S' : cS), St 1 g H T S' → M5 g H S0 S' → isO g H 9 x0 → X (1, x0, x1, S') → R_) {rec : Nat → Int32 → Int32 → Nat → Int32 → cS → Nat × Nat × Int32 × cS} {rok : Nat → Int32 → Int32 → Nat → Int32 → cS → Prop} (hrec : ∀ (x0 : Nat) (x1 : Int32) (x3 : Int32) (x4 : Nat) (x5 : Int32) (S : cS), St 1 g H T S → M5 g H S0 S → isO g H 9 x0 → isO g H 2 x4 → rok x0 x1 x3 x4 x5 S → X (rec x0 x1 x3 x4 x5 S) → R_) {x0 : Nat} {x1 : Int32} {x3 : Int32} {x4 : Nat} {x5 : Int32} (hS : St 1 g H T S) (hM : M5 g H S0 S) (t_x0 : isO g H 9 x0) (t_x4 : isO g H 2 x4) (ok : KO_X11_proof_235 N g H T rok x0 x1 x3 x4 x5 S) (hx : X (KF_X11_proof_235 N g H T rec x0 x1 x3 x4 x5 S)) : R_ := by
  unfold KO_X11_proof_235 at ok
  unfold KF_X11_proof_235 at hx
  obtain ⟨hS, hm_242⟩ := k5c_X2_close hS t_x4 (hS.rk (c := 9) (k := 2) t_x0 rfl (by omega)) ok.1
  have hM := hM.trans hm_242
  have ok := ok.2
  exact k5b_X11_proof_245 hX0 hX1 hrec hS hM t_x0 t_x4 ok hx
set_option maxRecDepth 100000 in
set_option maxHeartbeats 4000000 in
theorem k5b_X11_proof_232 {g H T N : Nat} {S : cS} {S0 : cS} {R_ : Prop} {X : Nat × Nat × Int32 × cS → Prop} (hX0 : ∀ (x0 : Nat) (x1 : Int32) (S' : cS), St 1 g H T S' → M5 g H S0 S' → X (0, x0, x1, S') → R_) (hX1 : ∀ (x0 : Nat) (x1 : Int32) (S' : cS), St 1 g H T S' → M5 g H S0 S' → isO g H 9 x0 → X (1, x0, x1, S') → R_) {rec : Nat → Int32 → Int32 → Nat → Int32 → cS → Nat × Nat × Int32 × cS} {rok : Nat → Int32 → Int32 → Nat → Int32 → cS → Prop} (hrec : ∀ (x0 : Nat) (x1 : Int32) (x3 : Int32) (x4 : Nat) (x5 : Int32) (S : cS), St 1 g H T S → M5 g H S0 S → isO g H 9 x0 → isO g H 2 x4 → rok x0 x1 x3 x4 x5 S → X (rec x0 x1 x3 x4 x5 S) → R_) {x0 : Nat} {x1 : Int32} {x3 : Int32} {x4 : Nat} {x5 : Int32} {s0 : Nat} {s1 : Option Nat} {s2 : Int32} {s3 : Int32} (hS : St 1 g H T S) (hM : M5 g H S0 S) (t_x0 : isO g H 9 x0) (t_x4 : isO g H 2 x4) (t_s0 : isO g H 2 s0) (t_s1 : tK S 20 s1) (ok : KO_X11_proof_232 N g H T rok x0 x1 x3 x4 x5 s0 s1 s2 s3 S) (hx : X (KF_X11_proof_232 N g H T rec x0 x1 x3 x4 x5 s0 s1 s2 s3 S)) : R_ := by
  unfold KO_X11_proof_232 at ok
  unfold KF_X11_proof_232 at hx
  obtain ⟨hS, hm_232⟩ := k5c_X2_add_ hS t_s0 t_s1 ok.1
  have hM := hM.trans hm_232
  have ok := ok.2
  exact k5b_X11_proof_235 hX0 hX1 hrec hS hM t_x0 t_x4 ok hx
set_option maxRecDepth 100000 in
set_option maxHeartbeats 4000000 in
theorem k5b_X11_proof_216 {g H T N : Nat} {S : cS} {S0 : cS} {R_ : Prop} {X : Nat × Nat × Int32 × cS → Prop} (hX0 : ∀ (x0 : Nat) (x1 : Int32) (S' : cS), St 1 g H T S' → M5 g H S0 S' → X (0, x0, x1, S') → R_) (hX1 : ∀ (x0 : Nat) (x1 : Int32) (S' : cS), St 1 g H T S' → M5 g H S0 S' → isO g H 9 x0 → X (1, x0, x1, S') → R_) {rec : Nat → Int32 → Int32 → Nat → Int32 → cS → Nat × Nat × Int32 × cS} {rok : Nat → Int32 → Int32 → Nat → Int32 → cS → Prop} (hrec : ∀ (x0 : Nat) (x1 : Int32) (x3 : Int32) (x4 : Nat) (x5 : Int32) (S : cS), St 1 g H T S → M5 g H S0 S → isO g H 9 x0 → isO g H 2 x4 → rok x0 x1 x3 x4 x5 S → X (rec x0 x1 x3 x4 x5 S) → R_) {x0 : Nat} {x1 : Int32} {x3 : Int32} {x4 : Nat} {x5 : Int32} {x6 : Int32} {s0 : Nat} {s1 : Option Nat} {s2 : Int32} (hS : St 1 g H T S) (hM : M5 g H S0 S) (t_x0 : isO g H 9 x0) (t_x4 : isO g H 2 x4) (t_s0 : isO g H 2 s0) (t_s1 : tK S 20 s1) (ok : KO_X11_proof_216 N g H T rok x0 x1 x3 x4 x5 x6 s0 s1 s2 S) (hx : X (KF_X11_proof_216 N g H T rec x0 x1 x3 x4 x5 x6 s0 s1 s2 S)) : R_ := by
  unfold KO_X11_proof_216 at ok
  unfold KF_X11_proof_216 at hx
  refine pif_n ok (fun c_219 => ?_) (fun c_219 => ?_)
  · have ok := ok.2 c_219
    have hx := xif_n c_219 hx
    exact k5b_X11_proof_232 hX0 hX1 hrec hS hM t_x0 t_x4 t_s0 t_s1 ok hx
  · have ok := ok.1 c_219
    have hx := xif_p c_219 hx
    exact k5b_X11_proof_232 hX0 hX1 hrec hS hM t_x0 t_x4 t_s0 t_s1 ok hx
set_option maxRecDepth 100000 in
set_option maxHeartbeats 4000000 in
theorem k5b_X11_proof_204 {g H T N : Nat} {S : cS} {S0 : cS} {R_ : Prop} {X : Nat × Nat × Int32 × cS → Prop} (hX0 : ∀ (x0 : Nat) (x1 : Int32) (S' : cS), St 1 g H T S' → M5 g H S0 S' → X (0, x0, x1, S') → R_) (hX1 : ∀ (x0 : Nat) (x1 : Int32) (S' : cS), St 1 g H T S' → M5 g H S0 S' → isO g H 9 x0 → X (1, x0, x1, S') → R_) {rec : Nat → Int32 → Int32 → Nat → Int32 → cS → Nat × Nat × Int32 × cS} {rok : Nat → Int32 → Int32 → Nat → Int32 → cS → Prop} (hrec : ∀ (x0 : Nat) (x1 : Int32) (x3 : Int32) (x4 : Nat) (x5 : Int32) (S : cS), St 1 g H T S → M5 g H S0 S → isO g H 9 x0 → isO g H 2 x4 → rok x0 x1 x3 x4 x5 S → X (rec x0 x1 x3 x4 x5 S) → R_) {x0 : Nat} {x1 : Int32} {x3 : Int32} {x4 : Nat} {x5 : Int32} {x6 : Int32} {s0 : Nat} {s1 : Option Nat} (hS : St 1 g H T S) (hM : M5 g H S0 S) (t_x0 : isO g H 9 x0) (t_x4 : isO g H 2 x4) (t_s0 : isO g H 2 s0) (t_s1 : tK S 20 s1) (ok : KO_X11_proof_204 N g H T rok x0 x1 x3 x4 x5 x6 s0 s1 S) (hx : X (KF_X11_proof_204 N g H T rec x0 x1 x3 x4 x5 x6 s0 s1 S)) : R_ := by
  unfold KO_X11_proof_204 at ok
  unfold KF_X11_proof_204 at hx
  refine pif_n ok (fun c_207 => ?_) (fun c_207 => ?_)
  · have ok := ok.2 c_207
    have hx := xif_n c_207 hx
    exact k5b_X11_proof_216 hX0 hX1 hrec hS hM t_x0 t_x4 t_s0 t_s1 ok hx
  · have ok := ok.1 c_207
    have hx := xif_p c_207 hx
    exact k5b_X11_proof_216 hX0 hX1 hrec hS hM t_x0 t_x4 t_s0 t_s1 ok hx
set_option maxRecDepth 100000 in
set_option maxHeartbeats 4000000 in
theorem k5b_X11_proof_185 {g H T N : Nat} {S : cS} {S0 : cS} {R_ : Prop} {X : Nat × Nat × Int32 × cS → Prop} (hX0 : ∀ (x0 : Nat) (x1 : Int32) (S' : cS), St 1 g H T S' → M5 g H S0 S' → X (0, x0, x1, S') → R_) (hX1 : ∀ (x0 : Nat) (x1 : Int32) (S' : cS), St 1 g H T S' → M5 g H S0 S' → isO g H 9 x0 → X (1, x0, x1, S') → R_) {rec : Nat → Int32 → Int32 → Nat → Int32 → cS → Nat × Nat × Int32 × cS} {rok : Nat → Int32 → Int32 → Nat → Int32 → cS → Prop} (hrec : ∀ (x0 : Nat) (x1 : Int32) (x3 : Int32) (x4 : Nat) (x5 : Int32) (S : cS), St 1 g H T S → M5 g H S0 S → isO g H 9 x0 → isO g H 2 x4 → rok x0 x1 x3 x4 x5 S → X (rec x0 x1 x3 x4 x5 S) → R_) {x0 : Nat} {x1 : Int32} {x3 : Int32} {x4 : Nat} {x5 : Int32} {x6 : Int32} (hS : St 1 g H T S) (hM : M5 g H S0 S) (t_x0 : isO g H 9 x0) (t_x4 : isO g H 2 x4) (ok : KO_X11_proof_185 N g H T rok x0 x1 x3 x4 x5 x6 S) (hx : X (KF_X11_proof_185 N g H T rec x0 x1 x3 x4 x5 x6 S)) : R_ := by
  unfold KO_X11_proof_185 at ok
  unfold KF_X11_proof_185 at hx
  refine pif_n ok (fun c_190 => ?_) (fun c_190 => ?_)
  · have ok := ok.2 c_190
    have hx := xif_n c_190 hx
    exact k5b_X11_proof_204 hX0 hX1 hrec hS hM t_x0 t_x4 t_x4 (hS.rk (c := 9) (k := 1) t_x0 rfl (by omega)) ok hx
  · have ok := ok.1 c_190
    have hx := xif_p c_190 hx
    exact k5b_X11_proof_204 hX0 hX1 hrec hS hM t_x0 t_x4 t_x4 (hS.rk (c := 9) (k := 2) t_x0 rfl (by omega)) ok hx
set_option maxRecDepth 100000 in
set_option maxHeartbeats 4000000 in
theorem k5b_X11_proof_182 {g H T N : Nat} {S : cS} {S0 : cS} {R_ : Prop} {X : Nat × Nat × Int32 × cS → Prop} (hX0 : ∀ (x0 : Nat) (x1 : Int32) (S' : cS), St 1 g H T S' → M5 g H S0 S' → X (0, x0, x1, S') → R_) (hX1 : ∀ (x0 : Nat) (x1 : Int32) (S' : cS), St 1 g H T S' → M5 g H S0 S' → isO g H 9 x0 → X (1, x0, x1, S') → R_) {rec : Nat → Int32 → Int32 → Nat → Int32 → cS → Nat × Nat × Int32 × cS} {rok : Nat → Int32 → Int32 → Nat → Int32 → cS → Prop} (hrec : ∀ (x0 : Nat) (x1 : Int32) (x3 : Int32) (x4 : Nat) (x5 : Int32) (S : cS), St 1 g H T S → M5 g H S0 S → isO g H 9 x0 → isO g H 2 x4 → rok x0 x1 x3 x4 x5 S → X (rec x0 x1 x3 x4 x5 S) → R_) {x0 : Nat} {x1 : Int32} {x3 : Int32} {x4 : Nat} {x5 : Int32} {x6 : Int32} {s0 : Nat} {s1 : Option Nat} {s2 : Int32} {s3 : Int32} (hS : St 1 g H T S) (hM : M5 g H S0 S) (t_x0 : isO g H 9 x0) (t_x4 : isO g H 2 x4) (t_s0 : isO g H 2 s0) (t_s1 : tK S 20 s1) (ok : KO_X11_proof_182 N g H T rok x0 x1 x3 x4 x5 x6 s0 s1 s2 s3 S) (hx : X (KF_X11_proof_182 N g H T rec x0 x1 x3 x4 x5 x6 s0 s1 s2 s3 S)) : R_ := by
  unfold KO_X11_proof_182 at ok
  unfold KF_X11_proof_182 at hx
  obtain ⟨hS, hm_182⟩ := k5c_X2_add_ hS t_s0 t_s1 ok.1
  have hM := hM.trans hm_182
  have ok := ok.2
  exact k5b_X11_proof_185 hX0 hX1 hrec hS hM t_x0 t_x4 ok hx
set_option maxRecDepth 100000 in
set_option maxHeartbeats 4000000 in
theorem k5b_X11_proof_166 {g H T N : Nat} {S : cS} {S0 : cS} {R_ : Prop} {X : Nat × Nat × Int32 × cS → Prop} (hX0 : ∀ (x0 : Nat) (x1 : Int32) (S' : cS), St 1 g H T S' → M5 g H S0 S' → X (0, x0, x1, S') → R_) (hX1 : ∀ (x0 : Nat) (x1 : Int32) (S' : cS), St 1 g H T S' → M5 g H S0 S' → isO g H 9 x0 → X (1, x0, x1, S') → R_) {rec : Nat → Int32 → Int32 → Nat → Int32 → cS → Nat × Nat × Int32 × cS} {rok : Nat → Int32 → Int32 → Nat → Int32 → cS → Prop} (hrec : ∀ (x0 : Nat) (x1 : Int32) (x3 : Int32) (x4 : Nat) (x5 : Int32) (S : cS), St 1 g H T S → M5 g H S0 S → isO g H 9 x0 → isO g H 2 x4 → rok x0 x1 x3 x4 x5 S → X (rec x0 x1 x3 x4 x5 S) → R_) {x0 : Nat} {x1 : Int32} {x3 : Int32} {x4 : Nat} {x5 : Int32} {x6 : Int32} {s0 : Nat} {s1 : Option Nat} {s2 : Int32} (hS : St 1 g H T S) (hM : M5 g H S0 S) (t_x0 : isO g H 9 x0) (t_x4 : isO g H 2 x4) (t_s0 : isO g H 2 s0) (t_s1 : tK S 20 s1) (ok : KO_X11_proof_166 N g H T rok x0 x1 x3 x4 x5 x6 s0 s1 s2 S) (hx : X (KF_X11_proof_166 N g H T rec x0 x1 x3 x4 x5 x6 s0 s1 s2 S)) : R_ := by
  unfold KO_X11_proof_166 at ok
  unfold KF_X11_proof_166 at hx
  refine pif_n ok (fun c_169 => ?_) (fun c_169 => ?_)
  · have ok := ok.2 c_169
    have hx := xif_n c_169 hx
    exact k5b_X11_proof_182 hX0 hX1 hrec hS hM t_x0 t_x4 t_s0 t_s1 ok hx
  · have ok := ok.1 c_169
    have hx := xif_p c_169 hx
    exact k5b_X11_proof_182 hX0 hX1 hrec hS hM t_x0 t_x4 t_s0 t_s1 ok hx
set_option maxRecDepth 100000 in
set_option maxHeartbeats 4000000 in
theorem k5b_X11_proof_154 {g H T N : Nat} {S : cS} {S0 : cS} {R_ : Prop} {X : Nat × Nat × Int32 × cS → Prop} (hX0 : ∀ (x0 : Nat) (x1 : Int32) (S' : cS), St 1 g H T S' → M5 g H S0 S' → X (0, x0, x1, S') → R_) (hX1 : ∀ (x0 : Nat) (x1 : Int32) (S' : cS), St 1 g H T S' → M5 g H S0 S' → isO g H 9 x0 → X (1, x0, x1, S') → R_) {rec : Nat → Int32 → Int32 → Nat → Int32 → cS → Nat × Nat × Int32 × cS} {rok : Nat → Int32 → Int32 → Nat → Int32 → cS → Prop} (hrec : ∀ (x0 : Nat) (x1 : Int32) (x3 : Int32) (x4 : Nat) (x5 : Int32) (S : cS), St 1 g H T S → M5 g H S0 S → isO g H 9 x0 → isO g H 2 x4 → rok x0 x1 x3 x4 x5 S → X (rec x0 x1 x3 x4 x5 S) → R_) {x0 : Nat} {x1 : Int32} {x3 : Int32} {x4 : Nat} {x5 : Int32} {x6 : Int32} {s0 : Nat} {s1 : Option Nat} (hS : St 1 g H T S) (hM : M5 g H S0 S) (t_x0 : isO g H 9 x0) (t_x4 : isO g H 2 x4) (t_s0 : isO g H 2 s0) (t_s1 : tK S 20 s1) (ok : KO_X11_proof_154 N g H T rok x0 x1 x3 x4 x5 x6 s0 s1 S) (hx : X (KF_X11_proof_154 N g H T rec x0 x1 x3 x4 x5 x6 s0 s1 S)) : R_ := by
  unfold KO_X11_proof_154 at ok
  unfold KF_X11_proof_154 at hx
  refine pif_n ok (fun c_157 => ?_) (fun c_157 => ?_)
  · have ok := ok.2 c_157
    have hx := xif_n c_157 hx
    exact k5b_X11_proof_166 hX0 hX1 hrec hS hM t_x0 t_x4 t_s0 t_s1 ok hx
  · have ok := ok.1 c_157
    have hx := xif_p c_157 hx
    exact k5b_X11_proof_166 hX0 hX1 hrec hS hM t_x0 t_x4 t_s0 t_s1 ok hx
set_option maxRecDepth 100000 in
set_option maxHeartbeats 4000000 in
theorem k5b_X11_proof_135 {g H T N : Nat} {S : cS} {S0 : cS} {R_ : Prop} {X : Nat × Nat × Int32 × cS → Prop} (hX0 : ∀ (x0 : Nat) (x1 : Int32) (S' : cS), St 1 g H T S' → M5 g H S0 S' → X (0, x0, x1, S') → R_) (hX1 : ∀ (x0 : Nat) (x1 : Int32) (S' : cS), St 1 g H T S' → M5 g H S0 S' → isO g H 9 x0 → X (1, x0, x1, S') → R_) {rec : Nat → Int32 → Int32 → Nat → Int32 → cS → Nat × Nat × Int32 × cS} {rok : Nat → Int32 → Int32 → Nat → Int32 → cS → Prop} (hrec : ∀ (x0 : Nat) (x1 : Int32) (x3 : Int32) (x4 : Nat) (x5 : Int32) (S : cS), St 1 g H T S → M5 g H S0 S → isO g H 9 x0 → isO g H 2 x4 → rok x0 x1 x3 x4 x5 S → X (rec x0 x1 x3 x4 x5 S) → R_) {x0 : Nat} {x1 : Int32} {x3 : Int32} {x4 : Nat} {x5 : Int32} {x6 : Int32} (hS : St 1 g H T S) (hM : M5 g H S0 S) (t_x0 : isO g H 9 x0) (t_x4 : isO g H 2 x4) (ok : KO_X11_proof_135 N g H T rok x0 x1 x3 x4 x5 x6 S) (hx : X (KF_X11_proof_135 N g H T rec x0 x1 x3 x4 x5 x6 S)) : R_ := by
  unfold KO_X11_proof_135 at ok
  unfold KF_X11_proof_135 at hx
  refine pif_n ok (fun c_140 => ?_) (fun c_140 => ?_)
  · have ok := ok.2 c_140
    have hx := xif_n c_140 hx
    exact k5b_X11_proof_154 hX0 hX1 hrec hS hM t_x0 t_x4 t_x4 (hS.rk (c := 9) (k := 2) t_x0 rfl (by omega)) ok hx
  · have ok := ok.1 c_140
    have hx := xif_p c_140 hx
    exact k5b_X11_proof_154 hX0 hX1 hrec hS hM t_x0 t_x4 t_x4 (hS.rk (c := 9) (k := 1) t_x0 rfl (by omega)) ok hx
set_option maxRecDepth 100000 in
set_option maxHeartbeats 4000000 in
theorem k5b_X11_proof_129 {g H T N : Nat} {S : cS} {S0 : cS} {R_ : Prop} {X : Nat × Nat × Int32 × cS → Prop} (hX0 : ∀ (x0 : Nat) (x1 : Int32) (S' : cS), St 1 g H T S' → M5 g H S0 S' → X (0, x0, x1, S') → R_) (hX1 : ∀ (x0 : Nat) (x1 : Int32) (S' : cS), St 1 g H T S' → M5 g H S0 S' → isO g H 9 x0 → X (1, x0, x1, S') → R_) {rec : Nat → Int32 → Int32 → Nat → Int32 → cS → Nat × Nat × Int32 × cS} {rok : Nat → Int32 → Int32 → Nat → Int32 → cS → Prop} (hrec : ∀ (x0 : Nat) (x1 : Int32) (x3 : Int32) (x4 : Nat) (x5 : Int32) (S : cS), St 1 g H T S → M5 g H S0 S → isO g H 9 x0 → isO g H 2 x4 → rok x0 x1 x3 x4 x5 S → X (rec x0 x1 x3 x4 x5 S) → R_) {x0 : Nat} {x1 : Int32} {x3 : Int32} {x4 : Nat} {x5 : Int32} {x6 : Int32} (hS : St 1 g H T S) (hM : M5 g H S0 S) (t_x0 : isO g H 9 x0) (t_x4 : isO g H 2 x4) (ok : KO_X11_proof_129 N g H T rok x0 x1 x3 x4 x5 x6 S) (hx : X (KF_X11_proof_129 N g H T rec x0 x1 x3 x4 x5 x6 S)) : R_ := by
  unfold KO_X11_proof_129 at ok
  unfold KF_X11_proof_129 at hx
  obtain ⟨hS, hm_132⟩ := k5c_X2_add hS t_x4 ok.1
  have hM := hM.trans hm_132
  have ok := ok.2
  exact k5b_X11_proof_135 hX0 hX1 hrec hS hM t_x0 t_x4 ok hx
set_option maxRecDepth 100000 in
set_option maxHeartbeats 4000000 in
theorem k5b_X11_proof_122 {g H T N : Nat} {S : cS} {S0 : cS} {R_ : Prop} {X : Int32 × cS → Prop} (hR : ∀ v S', St 1 g H T S' → M5 g H S0 S' → X (v, S') → R_) (hS : St 1 g H T S) (hM : M5 g H S0 S) (ok : KO_X11_proof_122 N g H T S) (hx : X (KF_X11_proof_122 N g H T S)) : R_ := by
  unfold KO_X11_proof_122 at ok
  unfold KF_X11_proof_122 at hx
  exact hR _ _ hS hM hx
set_option maxRecDepth 100000 in
set_option maxHeartbeats 4000000 in
theorem k5b_X11_proof_113 {g H T N : Nat} {S : cS} {S0 : cS} {R_ : Prop} {X : Nat × Nat × Int32 × cS → Prop} (hX0 : ∀ (x0 : Nat) (x1 : Int32) (S' : cS), St 1 g H T S' → M5 g H S0 S' → X (0, x0, x1, S') → R_) (hX1 : ∀ (x0 : Nat) (x1 : Int32) (S' : cS), St 1 g H T S' → M5 g H S0 S' → isO g H 9 x0 → X (1, x0, x1, S') → R_) {rec : Nat → Int32 → Int32 → Nat → Int32 → cS → Nat × Nat × Int32 × cS} {rok : Nat → Int32 → Int32 → Nat → Int32 → cS → Prop} (hrec : ∀ (x0 : Nat) (x1 : Int32) (x3 : Int32) (x4 : Nat) (x5 : Int32) (S : cS), St 1 g H T S → M5 g H S0 S → isO g H 9 x0 → isO g H 2 x4 → rok x0 x1 x3 x4 x5 S → X (rec x0 x1 x3 x4 x5 S) → R_) {x0 : Nat} {x1 : Int32} {x3 : Int32} {x4 : Nat} {x5 : Int32} {x6 : Int32} (hS : St 1 g H T S) (hM : M5 g H S0 S) (t_x0 : isO g H 9 x0) (t_x4 : isO g H 2 x4) (ok : KO_X11_proof_113 N g H T rok x0 x1 x3 x4 x5 x6 S) (hx : X (KF_X11_proof_113 N g H T rec x0 x1 x3 x4 x5 x6 S)) : R_ := by
  unfold KO_X11_proof_113 at ok
  unfold KF_X11_proof_113 at hx
  refine pif_p ok (fun c_119 => ?_) (fun c_119 => ?_)
  · have ok := ok.1 c_119
    have hx := xif_p c_119 hx
    obtain ⟨hS, hm_126⟩ := k5c_X2_open hS t_x4 ok.1
    have hM := hM.trans hm_126
    have ok := ok.2
    exact k5b_X11_proof_129 hX0 hX1 hrec hS hM t_x0 t_x4 ok hx
  · have ok := ok.2 c_119
    have hx := xif_n c_119 hx
    exact hX0 _ _ S hS hM  hx
set_option maxRecDepth 100000 in
set_option maxHeartbeats 4000000 in
theorem k5bb_X11_proof_75 {g H T N : Nat} {S : cS} {S0 : cS} {R_ : Prop} {X : Nat × Nat × Int32 × cS → Prop} (hX0 : ∀ (x0 : Nat) (x1 : Int32) (S' : cS), St 1 g H T S' → M5 g H S0 S' → X (0, x0, x1, S') → R_) (hX1 : ∀ (x0 : Nat) (x1 : Int32) (S' : cS), St 1 g H T S' → M5 g H S0 S' → isO g H 9 x0 → X (1, x0, x1, S') → R_) {rec : Nat → Int32 → Int32 → Nat → Int32 → cS → Nat × Nat × Int32 × cS} {rok : Nat → Int32 → Int32 → Nat → Int32 → cS → Prop} (hrec : ∀ (x0 : Nat) (x1 : Int32) (x3 : Int32) (x4 : Nat) (x5 : Int32) (S : cS), St 1 g H T S → M5 g H S0 S → isO g H 9 x0 → isO g H 2 x4 → rok x0 x1 x3 x4 x5 S → X (rec x0 x1 x3 x4 x5 S) → R_) {x0 : Nat} {x1 : Int32} {x3 : Int32} {x4 : Nat} {x5 : Int32} (hS : St 1 g H T S) (hM : M5 g H S0 S) (t_x0 : isO g H 9 x0) (t_x4 : isO g H 2 x4) (ok : KOB_X11_proof_75 N g H T rok x0 x1 x3 x4 x5 S) (hx : X (KB_X11_proof_75 N g H T rec x0 x1 x3 x4 x5 S)) : R_ := by
  unfold KOB_X11_proof_75 at ok
  unfold KB_X11_proof_75 at hx
  refine pif_p ok (fun c_78 => ?_) (fun c_78 => ?_)
  · have ok := ok.1 c_78
    have hx := xif_p c_78 hx
    exact hX1 _ _ S hS hM t_x0 hx
  · have ok := ok.2 c_78
    have hx := xif_n c_78 hx
    have ok := ok.2
    refine pif_n ok (fun c_95 => ?_) (fun c_95 => ?_)
    · have ok := ok.2 c_95
      have hx := xif_n c_95 hx
      refine pif_p ok (fun c_104 => ?_) (fun c_104 => ?_)
      · have ok := ok.1 c_104
        have hx := xif_p c_104 hx
        exact k5b_X11_proof_113 hX0 hX1 hrec hS hM t_x0 t_x4 ok hx
      · have ok := ok.2 c_104
        have hx := xif_n c_104 hx
        refine pif_n ok (fun c_110 => ?_) (fun c_110 => ?_)
        · have ok := ok.2 c_110
          have hx := xif_n c_110 hx
          exact hX0 _ _ S hS hM  hx
        · have ok := ok.1 c_110
          have hx := xif_p c_110 hx
          exact k5b_X11_proof_113 hX0 hX1 hrec hS hM t_x0 t_x4 ok hx
    · have ok := ok.1 c_95
      have hx := xif_p c_95 hx
      exact hrec _ _ _ _ _ S hS hM t_x0 t_x4 ok hx
set_option maxRecDepth 100000 in
set_option maxHeartbeats 4000000 in
theorem k5l_X11_proof_75 {g H T N : Nat} {S0 : cS} {R_ : Prop} {X : Nat × Nat × Int32 × cS → Prop} (hX0 : ∀ (x0 : Nat) (x1 : Int32) (S' : cS), St 1 g H T S' → M5 g H S0 S' → X (0, x0, x1, S') → R_) (hX1 : ∀ (x0 : Nat) (x1 : Int32) (S' : cS), St 1 g H T S' → M5 g H S0 S' → isO g H 9 x0 → X (1, x0, x1, S') → R_) : ∀ (n : Nat) (x0 : Nat) (x1 : Int32) (x3 : Int32) (x4 : Nat) (x5 : Int32) (S : cS), St 1 g H T S → M5 g H S0 S → isO g H 9 x0 → isO g H 2 x4 → KOL_X11_proof_75 N g H T n x0 x1 x3 x4 x5 S → X (KL_X11_proof_75 N g H T n x0 x1 x3 x4 x5 S) → R_ := by
  intro n
  induction n with
  | zero => intro x0 x1 x3 x4 x5 S hS hM t_x0 t_x4 ok; exact absurd ok id
  | succ n ih =>
    intro x0 x1 x3 x4 x5 S hS hM t_x0 t_x4 ok hx
    exact k5bb_X11_proof_75 hX0 hX1 (rec := KL_X11_proof_75 N g H T n) (rok := KOL_X11_proof_75 N g H T n) (fun x0 x1 x3 x4 x5 S hS hM t_x0 t_x4 ok hx => ih x0 x1 x3 x4 x5 S hS hM t_x0 t_x4 ok hx) hS hM t_x0 t_x4 ok hx
set_option maxRecDepth 100000 in
set_option maxHeartbeats 4000000 in
theorem k5d_X11_proof_75 {g H T N : Nat} {S : cS} {S0 : cS} {R_ : Prop} {X : Int32 × cS → Prop} (hR : ∀ v S', St 1 g H T S' → M5 g H S0 S' → X (v, S') → R_) {x0 : Nat} {x1 : Int32} {x3 : Int32} {x4 : Nat} {x5 : Int32} (hS : St 1 g H T S) (hM : M5 g H S0 S) (t_x0 : isO g H 9 x0) (t_x4 : isO g H 2 x4) (ok : KOL_X11_proof_75 N g H T N x0 x1 x3 x4 x5 S ∧ KOA_X11_proof_75 N g H T x0 x1 x3 x4 x5 S (KL_X11_proof_75 N g H T N x0 x1 x3 x4 x5 S)) (hx : X (KA_X11_proof_75 N g H T x0 x1 x3 x4 x5 S (KL_X11_proof_75 N g H T N x0 x1 x3 x4 x5 S))) : R_ := by
  refine k5l_X11_proof_75 ?_ ?_ N x0 x1 x3 x4 x5 S hS hM t_x0 t_x4 ok.1 (X := fun z => KOA_X11_proof_75 N g H T x0 x1 x3 x4 x5 S z ∧ X (KA_X11_proof_75 N g H T x0 x1 x3 x4 x5 S z)) ⟨ok.2, hx⟩
  · intro x0' x1' S' hS hM hz
    obtain ⟨ok, hx⟩ := hz
    unfold KOA_X11_proof_75 at ok
    unfold KA_X11_proof_75 at hx
    have ok := xif_P (show (0 : Nat) = 0 from rfl) ok
    have hx := xif_p (show (0 : Nat) = 0 from rfl) hx
    exact k5b_X11_proof_122 hR hS hM  ok hx
  · intro x0' x1' S' hS hM t_x0 hz
    obtain ⟨ok, hx⟩ := hz
    unfold KOA_X11_proof_75 at ok
    unfold KA_X11_proof_75 at hx
    have ok := xif_N (show ¬ (1 : Nat) = 0 by decide) ok
    have hx := xif_n (show ¬ (1 : Nat) = 0 by decide) hx
    exact k5b_X11_proof_251 hR hS hM t_x0 ok hx
set_option maxRecDepth 100000 in
set_option maxHeartbeats 4000000 in
theorem k5b_X11_proof_72 {g H T N : Nat} {S : cS} {S0 : cS} {R_ : Prop} {X : Int32 × cS → Prop} (hR : ∀ v S', St 1 g H T S' → M5 g H S0 S' → X (v, S') → R_) {x0 : Nat} {x1 : Int32} {x2 : Int32} {x3 : Int32} {x4 : Nat} (hS : St 1 g H T S) (hM : M5 g H S0 S) (t_x0 : isO g H 9 x0) (t_x4 : isO g H 2 x4) (ok : KO_X11_proof_72 N g H T x0 x1 x2 x3 x4 S) (hx : X (KF_X11_proof_72 N g H T x0 x1 x2 x3 x4 S)) : R_ := by
  unfold KO_X11_proof_72 at ok
  unfold KF_X11_proof_72 at hx
  exact k5d_X11_proof_75 hR hS hM t_x0 t_x4 ok hx
set_option maxRecDepth 100000 in
set_option maxHeartbeats 4000000 in
theorem k5b_X11_proof_62 {g H T N : Nat} {S : cS} {S0 : cS} {R_ : Prop} {X : Int32 × cS → Prop} (hR : ∀ v S', St 1 g H T S' → M5 g H S0 S' → X (v, S') → R_) {x0 : Nat} {x1 : Int32} {x2 : Int32} {x3 : Int32} {x4 : Nat} (hS : St 1 g H T S) (hM : M5 g H S0 S) (t_x0 : isO g H 9 x0) (t_x4 : isO g H 2 x4) (ok : KO_X11_proof_62 N g H T x0 x1 x2 x3 x4 S) (hx : X (KF_X11_proof_62 N g H T x0 x1 x2 x3 x4 S)) : R_ := by
  unfold KO_X11_proof_62 at ok
  unfold KF_X11_proof_62 at hx
  obtain ⟨hS, hm_69⟩ := k5c_X2_close hS t_x4 (hS.rk (c := 9) (k := 2) t_x0 rfl (by omega)) ok.1
  have hM := hM.trans hm_69
  have ok := ok.2
  exact k5b_X11_proof_72 hR hS hM t_x0 t_x4 ok hx
set_option maxRecDepth 100000 in
set_option maxHeartbeats 4000000 in
theorem k5b_X11_proof_50 {g H T N : Nat} {S : cS} {S0 : cS} {R_ : Prop} {X : Int32 × cS → Prop} (hR : ∀ v S', St 1 g H T S' → M5 g H S0 S' → X (v, S') → R_) {x0 : Nat} {x1 : Int32} {x2 : Int32} {x3 : Int32} {x4 : Nat} (hS : St 1 g H T S) (hM : M5 g H S0 S) (t_x0 : isO g H 9 x0) (t_x4 : isO g H 2 x4) (ok : KO_X11_proof_50 N g H T x0 x1 x2 x3 x4 S) (hx : X (KF_X11_proof_50 N g H T x0 x1 x2 x3 x4 S)) : R_ := by
  unfold KO_X11_proof_50 at ok
  unfold KF_X11_proof_50 at hx
  obtain ⟨hS, hm_59⟩ := k5c_X2_add_ hS t_x4 (hS.rk (c := 9) (k := 1) t_x0 rfl (by omega)) ok.1
  have hM := hM.trans hm_59
  have ok := ok.2
  exact k5b_X11_proof_62 hR hS hM t_x0 t_x4 ok hx
set_option maxRecDepth 100000 in
set_option maxHeartbeats 4000000 in
theorem k5b_X11_proof_44 {g H T N : Nat} {S : cS} {S0 : cS} {R_ : Prop} {X : Int32 × cS → Prop} (hR : ∀ v S', St 1 g H T S' → M5 g H S0 S' → X (v, S') → R_) {x0 : Nat} {x1 : Int32} {x2 : Int32} {x3 : Int32} {x4 : Nat} (hS : St 1 g H T S) (hM : M5 g H S0 S) (t_x0 : isO g H 9 x0) (t_x4 : isO g H 2 x4) (ok : KO_X11_proof_44 N g H T x0 x1 x2 x3 x4 S) (hx : X (KF_X11_proof_44 N g H T x0 x1 x2 x3 x4 S)) : R_ := by
  unfold KO_X11_proof_44 at ok
  unfold KF_X11_proof_44 at hx
  obtain ⟨hS, hm_47⟩ := k5c_X2_add hS t_x4 ok.1
  have hM := hM.trans hm_47
  have ok := ok.2
  exact k5b_X11_proof_50 hR hS hM t_x0 t_x4 ok hx
set_option maxRecDepth 100000 in
set_option maxHeartbeats 4000000 in
theorem k5b_X11_proof_28 {g H T N : Nat} {S : cS} {S0 : cS} {R_ : Prop} {X : Int32 × cS → Prop} (hR : ∀ v S', St 1 g H T S' → M5 g H S0 S' → X (v, S') → R_) (hS : St 1 g H T S) (hM : M5 g H S0 S) (ok : KO_X11_proof_28 N g H T S) (hx : X (KF_X11_proof_28 N g H T S)) : R_ := by
  unfold KO_X11_proof_28 at ok
  unfold KF_X11_proof_28 at hx
  exact hR _ _ hS hM hx
set_option maxRecDepth 100000 in
set_option maxHeartbeats 4000000 in
theorem k5b_X11_proof_0 {g H T N : Nat} {S : cS} {S0 : cS} {R_ : Prop} {X : Int32 × cS → Prop} (hR : ∀ v S', St 1 g H T S' → M5 g H S0 S' → X (v, S') → R_) {x0 : Nat} {x1 : Int32} {x2 : Int32} {x3 : Int32} (hS : St 1 g H T S) (hM : M5 g H S0 S) (t_x0 : isO g H 9 x0) (ok : KO_X11_proof_0 N g H T x0 x1 x2 x3 S) (hx : X (KF_X11_proof_0 N g H T x0 x1 x2 x3 S)) : R_ := by
  unfold KO_X11_proof_0 at ok
  unfold KF_X11_proof_0 at hx
  refine pif_p ok (fun c_1 => ?_) (fun c_1 => ?_)
  · have ok := ok.1 c_1
    have hx := xif_p c_1 hx
    exact k5b_X11_proof_28 hR hS hM  ok hx
  · have ok := ok.2 c_1
    have hx := xif_n c_1 hx
    refine pif_p ok (fun c_6 => ?_) (fun c_6 => ?_)
    · have ok := ok.1 c_6
      have hx := xif_p c_6 hx
      exact k5b_X11_proof_28 hR hS hM  ok hx
    · have ok := ok.2 c_6
      have hx := xif_n c_6 hx
      refine pif_p ok (fun c_12 => ?_) (fun c_12 => ?_)
      · have ok := ok.1 c_12
        have hx := xif_p c_12 hx
        exact k5b_X11_proof_28 hR hS hM  ok hx
      · have ok := ok.2 c_12
        have hx := xif_n c_12 hx
        refine pif_p ok (fun c_17 => ?_) (fun c_17 => ?_)
        · have ok := ok.1 c_17
          have hx := xif_p c_17 hx
          exact k5b_X11_proof_28 hR hS hM  ok hx
        · have ok := ok.2 c_17
          have hx := xif_n c_17 hx
          refine pif_p ok (fun c_25 => ?_) (fun c_25 => ?_)
          · have ok := ok.1 c_25
            have hx := xif_p c_25 hx
            obtain ⟨hS, hm_41⟩ := k5c_X2_open hS (o85 (o90 t_x0)) ok.1
            have hM := hM.trans hm_41
            have ok := ok.2
            exact k5b_X11_proof_44 hR hS hM t_x0 (o85 (o90 t_x0)) ok hx
          · have ok := ok.2 c_25
            have hx := xif_n c_25 hx
            exact k5b_X11_proof_28 hR hS hM  ok hx
set_option maxRecDepth 100000 in
set_option maxHeartbeats 4000000 in
theorem k5c_X11_proof {g H T N : Nat} {S : cS} {a0 : Nat} {x1 : Int32} {x2 : Int32} {x3 : Int32} (hS : St 1 g H T S) (t_x0 : isO g H 9 a0) (ok : p_X11_proof N g H T S a0 x1 x2 x3) : St 1 g H T (k_X11_proof N g H T S a0 x1 x2 x3).2 ∧ M5 g H S (k_X11_proof N g H T S a0 x1 x2 x3).2 := by
  exact k5b_X11_proof_0 (X := fun F => F = k_X11_proof N g H T S a0 x1 x2 x3) (fun v S' h1 h2 h => by rw [← h]; exact ⟨h1, h2⟩) hS M5.rfl' t_x0 ok rfl

/-! X11_proof -/
def KF_X11_proof_271 (N g H T : Nat) (s0 : Option Nat) (s1 : Int32) (s2 : Option Nat) (s3 : Int32) (S : cS) : Int32 × cS := ((k_X11_sameBytes N g H T S s0 s1 s2 s3 (nI 32)), S)
def KO_X11_proof_271 (N g H T : Nat) (s0 : Option Nat) (s1 : Int32) (s2 : Option Nat) (s3 : Int32) (S : cS) : Prop := (p_X11_sameBytes N g H T S s0 s1 s2 s3 (nI 32)) ∧ narrow .boolean (.int (k_X11_sameBytes N g H T S s0 s1 s2 s3 (nI 32))) = .int (k_X11_sameBytes N g H T S s0 s1 s2 s3 (nI 32))
set_option maxRecDepth 100000 in
set_option maxHeartbeats 4000000 in
theorem kb_X11_proof_271 {G : zG} {o : cO} {g H T N : Nat} {S : cS} {S0 : cS} {Q : Option Value → cS → Prop} {X : Int32 × cS → Prop} (hG : zOK G) (hR : ∀ v S', St 1 g H T S' → Mono S0 S' → X (v, S') → Q (some (.int v)) S') {s0 : Option Nat} {s1 : Int32} {s2 : Option Nat} {s3 : Int32} (hS : St 1 g H T S) (hM : Mono S0 S) (t_s0 : tK S 20 s0) (t_s2 : tK S 20 s2) (ok : KO_X11_proof_271 N g H T s0 s1 s2 s3 S) (hx : X (KF_X11_proof_271 N g H T s0 s1 s2 s3 S)) : cX G o dX11_proof mX11_proof 271 [none, none, none, none, none, none, none] [.int s3, va_rf s2, .int s1, va_rf s0] S Q := by
  unfold KO_X11_proof_271 at ok
  unfold KF_X11_proof_271 at hx
  refine c_bipush (v := nI 32) dX11_proof_271 (by decide) ?_
  refine c_S5iE (y' := mX11_sameBytes) dX11_proof_273 lX11_304 kX11_sameBytes ⟨by decide, by decide⟩ (Nat.le_of_ble_eq_true rfl) (kc_X11_sameBytes hG hS t_s0 t_s2 ok.1) ?_
  have ok := ok.2
  exact c_ireturn rfl ok dX11_proof_276 (hR _ _ hS hM hx)
def KF_X11_proof_251 (N g H T : Nat) (x0 : Nat) (x1 : Int32) (S : cS) : Int32 × cS := (if x1 = 0 then (KF_X11_proof_271 N g H T (some (g + 2)) (nI 0) (some (g + 1)) (nI 67) S) else (KF_X11_proof_271 N g H T (some (g + 2)) (nI 0) (some (g + 1)) (nI 35) S))
def KO_X11_proof_251 (N g H T : Nat) (x0 : Nat) (x1 : Int32) (S : cS) : Prop := ((x1 = 0 → KO_X11_proof_271 N g H T (some (g + 2)) (nI 0) (some (g + 1)) (nI 67) S) ∧ (¬ x1 = 0 → KO_X11_proof_271 N g H T (some (g + 2)) (nI 0) (some (g + 1)) (nI 35) S))
set_option maxRecDepth 100000 in
set_option maxHeartbeats 4000000 in
theorem kb_X11_proof_251 {G : zG} {o : cO} {g H T N : Nat} {S : cS} {S0 : cS} {Q : Option Value → cS → Prop} {X : Int32 × cS → Prop} (hG : zOK G) (hR : ∀ v S', St 1 g H T S' → Mono S0 S' → X (v, S') → Q (some (.int v)) S') {x0 : Nat} {x1 : Int32} (hS : St 1 g H T S) (hM : Mono S0 S) (t_x0 : isO g H 9 x0) (ok : KO_X11_proof_251 N g H T x0 x1 S) (hx : X (KF_X11_proof_251 N g H T x0 x1 S)) : cX G o dX11_proof mX11_proof 251 [some (va_rf (some x0)), some (.int x1), none, none, none, none, none] [] S Q := by
  unfold KO_X11_proof_251 at ok
  unfold KF_X11_proof_251 at hx
  refine c_aload_nQ dX11_proof_251 rfl rfl ?_
  refine c_getS (C := RX11) (T := TX11) (N := 4) (ci := 9) (k := 2) ⟨rfl, inT11, by decide, fX11_13⟩ (by decide) (by decide) (by decide) dX11_proof_252 (hS.k t_x0) (hS.r (c := 9) t_x0 rfl (by omega)) ?_
  refine c_iconst (v := nI 0) dX11_proof_255 (by decide) ?_
  refine c_aload_nQ dX11_proof_256 rfl rfl ?_
  refine c_getS (C := RX11) (T := TX11) (N := 4) (ci := 9) (k := 1) ⟨rfl, inT11, by decide, fX11_9⟩ (by decide) (by decide) (by decide) dX11_proof_257 (hS.k t_x0) (hS.r (c := 9) t_x0 rfl (by omega)) ?_
  refine c_iload_n dX11_proof_260 rfl rfl ?_
  refine c_if_ne (tgt := 269) dX11_proof_261 (by decide) (fun c_261 => ?_) (fun c_261 => ?_)
  · have ok := ok.2 c_261
    have hx := xif_n c_261 hx
    refine c_bipush (v := nI 35) dX11_proof_269 (by decide) ?_
    exact cX.cutz (kb_X11_proof_271 hG hR hS hM (hS.rk (c := 9) (k := 2) t_x0 rfl (by omega)) (hS.rk (c := 9) (k := 1) t_x0 rfl (by omega)) ok hx) trivial
  · have ok := ok.1 c_261
    have hx := xif_p c_261 hx
    refine c_bipush (v := nI 67) dX11_proof_264 (by decide) ?_
    refine c_goto (tgt := 271) dX11_proof_266 (by decide) ?_
    exact cX.cutz (kb_X11_proof_271 hG hR hS hM (hS.rk (c := 9) (k := 2) t_x0 rfl (by omega)) (hS.rk (c := 9) (k := 1) t_x0 rfl (by omega)) ok hx) trivial
def KF_X11_proof_245 (N g H T : Nat) (rec : Nat → Int32 → Int32 → Nat → Int32 → cS → Nat × Nat × Int32 × cS) (x0 : Nat) (x1 : Int32) (x3 : Int32) (x4 : Nat) (x5 : Int32) (S : cS) : Nat × Nat × Int32 × cS := (rec x0 x1 x3 x4 (x5 + nI 32) S)
def KO_X11_proof_245 (N g H T : Nat) (rok : Nat → Int32 → Int32 → Nat → Int32 → cS → Prop) (x0 : Nat) (x1 : Int32) (x3 : Int32) (x4 : Nat) (x5 : Int32) (S : cS) : Prop := rok x0 x1 x3 x4 (x5 + nI 32) S
set_option maxRecDepth 100000 in
set_option maxHeartbeats 4000000 in
theorem kb_X11_proof_245 {G : zG} {o : cO} {g H T N : Nat} {S : cS} {S0 : cS} {Q : Option Value → cS → Prop} {X : Nat × Nat × Int32 × cS → Prop} (hG : zOK G) (hX0 : ∀ (x0 : Nat) (x1 : Int32) (S' : cS), St 1 g H T S' → Mono S0 S' → X (0, x0, x1, S') → cX G o dX11_proof mX11_proof 122 [none, none, none, none, none, none, none] [] S' Q) (hX1 : ∀ (x0 : Nat) (x1 : Int32) (S' : cS), St 1 g H T S' → Mono S0 S' → isO g H 9 x0 → X (1, x0, x1, S') → cX G o dX11_proof mX11_proof 251 [some (va_rf (some x0)), some (.int x1), none, none, none, none, none] [] S' Q) {rec : Nat → Int32 → Int32 → Nat → Int32 → cS → Nat × Nat × Int32 × cS} {rok : Nat → Int32 → Int32 → Nat → Int32 → cS → Prop} (hrec : ∀ (x0 : Nat) (x1 : Int32) (x3 : Int32) (x4 : Nat) (x5 : Int32) (S : cS), St 1 g H T S → Mono S0 S → isO g H 9 x0 → isO g H 2 x4 → rok x0 x1 x3 x4 x5 S → X (rec x0 x1 x3 x4 x5 S) → cX G o dX11_proof mX11_proof 75 [some (va_rf (some x0)), some (.int x1), none, some (.int x3), some (va_rf (some x4)), some (.int x5), none] [] S Q) {x0 : Nat} {x1 : Int32} {x3 : Int32} {x4 : Nat} {x5 : Int32} (hS : St 1 g H T S) (hM : Mono S0 S) (t_x0 : isO g H 9 x0) (t_x4 : isO g H 2 x4) (ok : KO_X11_proof_245 N g H T rok x0 x1 x3 x4 x5 S) (hx : X (KF_X11_proof_245 N g H T rec x0 x1 x3 x4 x5 S)) : cX G o dX11_proof mX11_proof 245 [some (va_rf (some x0)), some (.int x1), none, some (.int x3), some (va_rf (some x4)), some (.int x5), none] [] S Q := by
  unfold KO_X11_proof_245 at ok
  unfold KF_X11_proof_245 at hx
  refine c_iinc_5 (v := (x5 + nI 32)) dX11_proof_245 rfl (by first | rfl | (congr 1)) (by decide) (by simp [zok, zg, zcat_rf]) ?_
  refine c_goto (tgt := 75) dX11_proof_248 (by decide) ?_
  exact cX.cutz (hrec _ _ _ _ _ S hS hM t_x0 t_x4 ok hx) ⟨rfl, rfl, rfl, rfl, rfl, trivial⟩
def KF_X11_proof_235 (N g H T : Nat) (rec : Nat → Int32 → Int32 → Nat → Int32 → cS → Nat × Nat × Int32 × cS) (x0 : Nat) (x1 : Int32) (x3 : Int32) (x4 : Nat) (x5 : Int32) (S : cS) : Nat × Nat × Int32 × cS := (KF_X11_proof_245 N g H T rec x0 x1 x3 x4 x5 (k_X2_close N g H T S x4 (some (g + 2)) (nI 0)))
def KO_X11_proof_235 (N g H T : Nat) (rok : Nat → Int32 → Int32 → Nat → Int32 → cS → Prop) (x0 : Nat) (x1 : Int32) (x3 : Int32) (x4 : Nat) (x5 : Int32) (S : cS) : Prop := (p_X2_close N g H T S x4 (some (g + 2)) (nI 0)) ∧ KO_X11_proof_245 N g H T rok x0 x1 x3 x4 x5 (k_X2_close N g H T S x4 (some (g + 2)) (nI 0))
set_option maxRecDepth 100000 in
set_option maxHeartbeats 4000000 in
theorem kb_X11_proof_235 {G : zG} {o : cO} {g H T N : Nat} {S : cS} {S0 : cS} {Q : Option Value → cS → Prop} {X : Nat × Nat × Int32 × cS → Prop} (hG : zOK G) (hX0 : ∀ (x0 : Nat) (x1 : Int32) (S' : cS), St 1 g H T S' → Mono S0 S' → X (0, x0, x1, S') → cX G o dX11_proof mX11_proof 122 [none, none, none, none, none, none, none] [] S' Q) (hX1 : ∀ (x0 : Nat) (x1 : Int32) (S' : cS), St 1 g H T S' → Mono S0 S' → isO g H 9 x0 → X (1, x0, x1, S') → cX G o dX11_proof mX11_proof 251 [some (va_rf (some x0)), some (.int x1), none, none, none, none, none] [] S' Q) {rec : Nat → Int32 → Int32 → Nat → Int32 → cS → Nat × Nat × Int32 × cS} {rok : Nat → Int32 → Int32 → Nat → Int32 → cS → Prop} (hrec : ∀ (x0 : Nat) (x1 : Int32) (x3 : Int32) (x4 : Nat) (x5 : Int32) (S : cS), St 1 g H T S → Mono S0 S → isO g H 9 x0 → isO g H 2 x4 → rok x0 x1 x3 x4 x5 S → X (rec x0 x1 x3 x4 x5 S) → cX G o dX11_proof mX11_proof 75 [some (va_rf (some x0)), some (.int x1), none, some (.int x3), some (va_rf (some x4)), some (.int x5), none] [] S Q) {x0 : Nat} {x1 : Int32} {x3 : Int32} {x4 : Nat} {x5 : Int32} (hS : St 1 g H T S) (hM : Mono S0 S) (t_x0 : isO g H 9 x0) (t_x4 : isO g H 2 x4) (ok : KO_X11_proof_235 N g H T rok x0 x1 x3 x4 x5 S) (hx : X (KF_X11_proof_235 N g H T rec x0 x1 x3 x4 x5 S)) : cX G o dX11_proof mX11_proof 235 [some (va_rf (some x0)), some (.int x1), none, some (.int x3), some (va_rf (some x4)), some (.int x5), none] [] S Q := by
  unfold KO_X11_proof_235 at ok
  unfold KF_X11_proof_235 at hx
  refine c_aloadQ dX11_proof_235 rfl ?_
  refine c_aload_nQ dX11_proof_237 rfl rfl ?_
  refine c_getS (C := RX11) (T := TX11) (N := 4) (ci := 9) (k := 2) ⟨rfl, inT11, by decide, fX11_13⟩ (by decide) (by decide) (by decide) dX11_proof_238 (hS.k t_x0) (hS.r (c := 9) t_x0 rfl (by omega)) ?_
  refine c_iconst (v := nI 0) dX11_proof_241 (by decide) ?_
  refine c_V2vK (ci := 2) (rr := (RX2, TX2, 6)) (y' := mX2_close) dX11_proof_242 lX11_301 kX2_close ⟨by decide, by decide⟩ rfl rfl (by decide) (hS.k t_x4) (Nat.le_of_ble_eq_true rfl) (kc_X2_close hG hS t_x4 (hS.rk (c := 9) (k := 2) t_x0 rfl (by omega)) ok.1) (fun ⟨hS, hm_242⟩ => ?_)
  have hM := hM.trans hm_242
  have ok := ok.2
  exact cX.cutz (kb_X11_proof_245 hG hX0 hX1 hrec hS hM t_x0 t_x4 ok hx) ⟨rfl, rfl, rfl, rfl, rfl, trivial⟩
def KF_X11_proof_232 (N g H T : Nat) (rec : Nat → Int32 → Int32 → Nat → Int32 → cS → Nat × Nat × Int32 × cS) (x0 : Nat) (x1 : Int32) (x3 : Int32) (x4 : Nat) (x5 : Int32) (s0 : Nat) (s1 : Option Nat) (s2 : Int32) (s3 : Int32) (S : cS) : Nat × Nat × Int32 × cS := (KF_X11_proof_235 N g H T rec x0 x1 x3 x4 x5 (k_X2_add_ N g H T S s0 s1 s2 s3))
def KO_X11_proof_232 (N g H T : Nat) (rok : Nat → Int32 → Int32 → Nat → Int32 → cS → Prop) (x0 : Nat) (x1 : Int32) (x3 : Int32) (x4 : Nat) (x5 : Int32) (s0 : Nat) (s1 : Option Nat) (s2 : Int32) (s3 : Int32) (S : cS) : Prop := (p_X2_add_ N g H T S s0 s1 s2 s3) ∧ KO_X11_proof_235 N g H T rok x0 x1 x3 x4 x5 (k_X2_add_ N g H T S s0 s1 s2 s3)
set_option maxRecDepth 100000 in
set_option maxHeartbeats 4000000 in
theorem kb_X11_proof_232 {G : zG} {o : cO} {g H T N : Nat} {S : cS} {S0 : cS} {Q : Option Value → cS → Prop} {X : Nat × Nat × Int32 × cS → Prop} (hG : zOK G) (hX0 : ∀ (x0 : Nat) (x1 : Int32) (S' : cS), St 1 g H T S' → Mono S0 S' → X (0, x0, x1, S') → cX G o dX11_proof mX11_proof 122 [none, none, none, none, none, none, none] [] S' Q) (hX1 : ∀ (x0 : Nat) (x1 : Int32) (S' : cS), St 1 g H T S' → Mono S0 S' → isO g H 9 x0 → X (1, x0, x1, S') → cX G o dX11_proof mX11_proof 251 [some (va_rf (some x0)), some (.int x1), none, none, none, none, none] [] S' Q) {rec : Nat → Int32 → Int32 → Nat → Int32 → cS → Nat × Nat × Int32 × cS} {rok : Nat → Int32 → Int32 → Nat → Int32 → cS → Prop} (hrec : ∀ (x0 : Nat) (x1 : Int32) (x3 : Int32) (x4 : Nat) (x5 : Int32) (S : cS), St 1 g H T S → Mono S0 S → isO g H 9 x0 → isO g H 2 x4 → rok x0 x1 x3 x4 x5 S → X (rec x0 x1 x3 x4 x5 S) → cX G o dX11_proof mX11_proof 75 [some (va_rf (some x0)), some (.int x1), none, some (.int x3), some (va_rf (some x4)), some (.int x5), none] [] S Q) {x0 : Nat} {x1 : Int32} {x3 : Int32} {x4 : Nat} {x5 : Int32} {s0 : Nat} {s1 : Option Nat} {s2 : Int32} {s3 : Int32} (hS : St 1 g H T S) (hM : Mono S0 S) (t_x0 : isO g H 9 x0) (t_x4 : isO g H 2 x4) (t_s0 : isO g H 2 s0) (t_s1 : tK S 20 s1) (ok : KO_X11_proof_232 N g H T rok x0 x1 x3 x4 x5 s0 s1 s2 s3 S) (hx : X (KF_X11_proof_232 N g H T rec x0 x1 x3 x4 x5 s0 s1 s2 s3 S)) : cX G o dX11_proof mX11_proof 232 [some (va_rf (some x0)), some (.int x1), none, some (.int x3), some (va_rf (some x4)), some (.int x5), none] [.int s3, .int s2, va_rf s1, va_rf (some s0)] S Q := by
  unfold KO_X11_proof_232 at ok
  unfold KF_X11_proof_232 at hx
  refine c_V3vK (ci := 2) (rr := (RX2, TX2, 6)) (y' := mX2_add_) dX11_proof_232 lX11_298 kX2_add_ ⟨by decide, by decide⟩ rfl rfl (by decide) (hS.k t_s0) (Nat.le_of_ble_eq_true rfl) (kc_X2_add_ hG hS t_s0 t_s1 ok.1) (fun ⟨hS, hm_232⟩ => ?_)
  have hM := hM.trans hm_232
  have ok := ok.2
  exact cX.cutz (kb_X11_proof_235 hG hX0 hX1 hrec hS hM t_x0 t_x4 ok hx) ⟨rfl, rfl, rfl, rfl, rfl, trivial⟩
def KF_X11_proof_216 (N g H T : Nat) (rec : Nat → Int32 → Int32 → Nat → Int32 → cS → Nat × Nat × Int32 × cS) (x0 : Nat) (x1 : Int32) (x3 : Int32) (x4 : Nat) (x5 : Int32) (x6 : Int32) (s0 : Nat) (s1 : Option Nat) (s2 : Int32) (S : cS) : Nat × Nat × Int32 × cS := (if x6 = (nI 1) then (KF_X11_proof_232 N g H T rec x0 x1 x3 x4 x5 s0 s1 s2 (nI 32) S) else (KF_X11_proof_232 N g H T rec x0 x1 x3 x4 x5 s0 s1 s2 (x5 + (nI 32)) S))
def KO_X11_proof_216 (N g H T : Nat) (rok : Nat → Int32 → Int32 → Nat → Int32 → cS → Prop) (x0 : Nat) (x1 : Int32) (x3 : Int32) (x4 : Nat) (x5 : Int32) (x6 : Int32) (s0 : Nat) (s1 : Option Nat) (s2 : Int32) (S : cS) : Prop := ((x6 = (nI 1) → KO_X11_proof_232 N g H T rok x0 x1 x3 x4 x5 s0 s1 s2 (nI 32) S) ∧ (¬ x6 = (nI 1) → KO_X11_proof_232 N g H T rok x0 x1 x3 x4 x5 s0 s1 s2 (x5 + (nI 32)) S))
set_option maxRecDepth 100000 in
set_option maxHeartbeats 4000000 in
theorem kb_X11_proof_216 {G : zG} {o : cO} {g H T N : Nat} {S : cS} {S0 : cS} {Q : Option Value → cS → Prop} {X : Nat × Nat × Int32 × cS → Prop} (hG : zOK G) (hX0 : ∀ (x0 : Nat) (x1 : Int32) (S' : cS), St 1 g H T S' → Mono S0 S' → X (0, x0, x1, S') → cX G o dX11_proof mX11_proof 122 [none, none, none, none, none, none, none] [] S' Q) (hX1 : ∀ (x0 : Nat) (x1 : Int32) (S' : cS), St 1 g H T S' → Mono S0 S' → isO g H 9 x0 → X (1, x0, x1, S') → cX G o dX11_proof mX11_proof 251 [some (va_rf (some x0)), some (.int x1), none, none, none, none, none] [] S' Q) {rec : Nat → Int32 → Int32 → Nat → Int32 → cS → Nat × Nat × Int32 × cS} {rok : Nat → Int32 → Int32 → Nat → Int32 → cS → Prop} (hrec : ∀ (x0 : Nat) (x1 : Int32) (x3 : Int32) (x4 : Nat) (x5 : Int32) (S : cS), St 1 g H T S → Mono S0 S → isO g H 9 x0 → isO g H 2 x4 → rok x0 x1 x3 x4 x5 S → X (rec x0 x1 x3 x4 x5 S) → cX G o dX11_proof mX11_proof 75 [some (va_rf (some x0)), some (.int x1), none, some (.int x3), some (va_rf (some x4)), some (.int x5), none] [] S Q) {x0 : Nat} {x1 : Int32} {x3 : Int32} {x4 : Nat} {x5 : Int32} {x6 : Int32} {s0 : Nat} {s1 : Option Nat} {s2 : Int32} (hS : St 1 g H T S) (hM : Mono S0 S) (t_x0 : isO g H 9 x0) (t_x4 : isO g H 2 x4) (t_s0 : isO g H 2 s0) (t_s1 : tK S 20 s1) (ok : KO_X11_proof_216 N g H T rok x0 x1 x3 x4 x5 x6 s0 s1 s2 S) (hx : X (KF_X11_proof_216 N g H T rec x0 x1 x3 x4 x5 x6 s0 s1 s2 S)) : cX G o dX11_proof mX11_proof 216 [some (va_rf (some x0)), some (.int x1), none, some (.int x3), some (va_rf (some x4)), some (.int x5), some (.int x6)] [.int s2, va_rf s1, va_rf (some s0)] S Q := by
  unfold KO_X11_proof_216 at ok
  unfold KF_X11_proof_216 at hx
  refine c_iload dX11_proof_216 rfl ?_
  refine c_iconst (v := nI 1) dX11_proof_218 (by decide) ?_
  refine c_icmp_ne (tgt := 227) dX11_proof_219 (by decide) (fun c_219 => ?_) (fun c_219 => ?_)
  · have ok := ok.2 c_219
    have hx := xif_n c_219 hx
    refine c_iload dX11_proof_227 rfl ?_
    refine c_bipush (v := nI 32) dX11_proof_229 (by decide) ?_
    refine c_iadd dX11_proof_231 ?_
    exact cX.cutz (kb_X11_proof_232 hG hX0 hX1 hrec hS hM t_x0 t_x4 t_s0 t_s1 ok hx) ⟨rfl, rfl, rfl, rfl, rfl, trivial⟩
  · have ok := ok.1 c_219
    have hx := xif_p c_219 hx
    refine c_bipush (v := nI 32) dX11_proof_222 (by decide) ?_
    refine c_goto (tgt := 232) dX11_proof_224 (by decide) ?_
    exact cX.cutz (kb_X11_proof_232 hG hX0 hX1 hrec hS hM t_x0 t_x4 t_s0 t_s1 ok hx) ⟨rfl, rfl, rfl, rfl, rfl, trivial⟩
def KF_X11_proof_204 (N g H T : Nat) (rec : Nat → Int32 → Int32 → Nat → Int32 → cS → Nat × Nat × Int32 × cS) (x0 : Nat) (x1 : Int32) (x3 : Int32) (x4 : Nat) (x5 : Int32) (x6 : Int32) (s0 : Nat) (s1 : Option Nat) (S : cS) : Nat × Nat × Int32 × cS := (if x6 = (nI 1) then (KF_X11_proof_216 N g H T rec x0 x1 x3 x4 x5 x6 s0 s1 (nI 0) S) else (KF_X11_proof_216 N g H T rec x0 x1 x3 x4 x5 x6 s0 s1 x5 S))
def KO_X11_proof_204 (N g H T : Nat) (rok : Nat → Int32 → Int32 → Nat → Int32 → cS → Prop) (x0 : Nat) (x1 : Int32) (x3 : Int32) (x4 : Nat) (x5 : Int32) (x6 : Int32) (s0 : Nat) (s1 : Option Nat) (S : cS) : Prop := ((x6 = (nI 1) → KO_X11_proof_216 N g H T rok x0 x1 x3 x4 x5 x6 s0 s1 (nI 0) S) ∧ (¬ x6 = (nI 1) → KO_X11_proof_216 N g H T rok x0 x1 x3 x4 x5 x6 s0 s1 x5 S))
set_option maxRecDepth 100000 in
set_option maxHeartbeats 4000000 in
theorem kb_X11_proof_204 {G : zG} {o : cO} {g H T N : Nat} {S : cS} {S0 : cS} {Q : Option Value → cS → Prop} {X : Nat × Nat × Int32 × cS → Prop} (hG : zOK G) (hX0 : ∀ (x0 : Nat) (x1 : Int32) (S' : cS), St 1 g H T S' → Mono S0 S' → X (0, x0, x1, S') → cX G o dX11_proof mX11_proof 122 [none, none, none, none, none, none, none] [] S' Q) (hX1 : ∀ (x0 : Nat) (x1 : Int32) (S' : cS), St 1 g H T S' → Mono S0 S' → isO g H 9 x0 → X (1, x0, x1, S') → cX G o dX11_proof mX11_proof 251 [some (va_rf (some x0)), some (.int x1), none, none, none, none, none] [] S' Q) {rec : Nat → Int32 → Int32 → Nat → Int32 → cS → Nat × Nat × Int32 × cS} {rok : Nat → Int32 → Int32 → Nat → Int32 → cS → Prop} (hrec : ∀ (x0 : Nat) (x1 : Int32) (x3 : Int32) (x4 : Nat) (x5 : Int32) (S : cS), St 1 g H T S → Mono S0 S → isO g H 9 x0 → isO g H 2 x4 → rok x0 x1 x3 x4 x5 S → X (rec x0 x1 x3 x4 x5 S) → cX G o dX11_proof mX11_proof 75 [some (va_rf (some x0)), some (.int x1), none, some (.int x3), some (va_rf (some x4)), some (.int x5), none] [] S Q) {x0 : Nat} {x1 : Int32} {x3 : Int32} {x4 : Nat} {x5 : Int32} {x6 : Int32} {s0 : Nat} {s1 : Option Nat} (hS : St 1 g H T S) (hM : Mono S0 S) (t_x0 : isO g H 9 x0) (t_x4 : isO g H 2 x4) (t_s0 : isO g H 2 s0) (t_s1 : tK S 20 s1) (ok : KO_X11_proof_204 N g H T rok x0 x1 x3 x4 x5 x6 s0 s1 S) (hx : X (KF_X11_proof_204 N g H T rec x0 x1 x3 x4 x5 x6 s0 s1 S)) : cX G o dX11_proof mX11_proof 204 [some (va_rf (some x0)), some (.int x1), none, some (.int x3), some (va_rf (some x4)), some (.int x5), some (.int x6)] [va_rf s1, va_rf (some s0)] S Q := by
  unfold KO_X11_proof_204 at ok
  unfold KF_X11_proof_204 at hx
  refine c_iload dX11_proof_204 rfl ?_
  refine c_iconst (v := nI 1) dX11_proof_206 (by decide) ?_
  refine c_icmp_ne (tgt := 214) dX11_proof_207 (by decide) (fun c_207 => ?_) (fun c_207 => ?_)
  · have ok := ok.2 c_207
    have hx := xif_n c_207 hx
    refine c_iload dX11_proof_214 rfl ?_
    exact cX.cutz (kb_X11_proof_216 hG hX0 hX1 hrec hS hM t_x0 t_x4 t_s0 t_s1 ok hx) ⟨rfl, rfl, rfl, rfl, rfl, rfl, trivial⟩
  · have ok := ok.1 c_207
    have hx := xif_p c_207 hx
    refine c_iconst (v := nI 0) dX11_proof_210 (by decide) ?_
    refine c_goto (tgt := 216) dX11_proof_211 (by decide) ?_
    exact cX.cutz (kb_X11_proof_216 hG hX0 hX1 hrec hS hM t_x0 t_x4 t_s0 t_s1 ok hx) ⟨rfl, rfl, rfl, rfl, rfl, rfl, trivial⟩
def KF_X11_proof_185 (N g H T : Nat) (rec : Nat → Int32 → Int32 → Nat → Int32 → cS → Nat × Nat × Int32 × cS) (x0 : Nat) (x1 : Int32) (x3 : Int32) (x4 : Nat) (x5 : Int32) (x6 : Int32) (S : cS) : Nat × Nat × Int32 × cS := (if x6 = (nI 1) then (KF_X11_proof_204 N g H T rec x0 x1 x3 x4 x5 x6 x4 (some (g + 2)) S) else (KF_X11_proof_204 N g H T rec x0 x1 x3 x4 x5 x6 x4 (some (g + 1)) S))
def KO_X11_proof_185 (N g H T : Nat) (rok : Nat → Int32 → Int32 → Nat → Int32 → cS → Prop) (x0 : Nat) (x1 : Int32) (x3 : Int32) (x4 : Nat) (x5 : Int32) (x6 : Int32) (S : cS) : Prop := ((x6 = (nI 1) → KO_X11_proof_204 N g H T rok x0 x1 x3 x4 x5 x6 x4 (some (g + 2)) S) ∧ (¬ x6 = (nI 1) → KO_X11_proof_204 N g H T rok x0 x1 x3 x4 x5 x6 x4 (some (g + 1)) S))
set_option maxRecDepth 100000 in
set_option maxHeartbeats 4000000 in
theorem kb_X11_proof_185 {G : zG} {o : cO} {g H T N : Nat} {S : cS} {S0 : cS} {Q : Option Value → cS → Prop} {X : Nat × Nat × Int32 × cS → Prop} (hG : zOK G) (hX0 : ∀ (x0 : Nat) (x1 : Int32) (S' : cS), St 1 g H T S' → Mono S0 S' → X (0, x0, x1, S') → cX G o dX11_proof mX11_proof 122 [none, none, none, none, none, none, none] [] S' Q) (hX1 : ∀ (x0 : Nat) (x1 : Int32) (S' : cS), St 1 g H T S' → Mono S0 S' → isO g H 9 x0 → X (1, x0, x1, S') → cX G o dX11_proof mX11_proof 251 [some (va_rf (some x0)), some (.int x1), none, none, none, none, none] [] S' Q) {rec : Nat → Int32 → Int32 → Nat → Int32 → cS → Nat × Nat × Int32 × cS} {rok : Nat → Int32 → Int32 → Nat → Int32 → cS → Prop} (hrec : ∀ (x0 : Nat) (x1 : Int32) (x3 : Int32) (x4 : Nat) (x5 : Int32) (S : cS), St 1 g H T S → Mono S0 S → isO g H 9 x0 → isO g H 2 x4 → rok x0 x1 x3 x4 x5 S → X (rec x0 x1 x3 x4 x5 S) → cX G o dX11_proof mX11_proof 75 [some (va_rf (some x0)), some (.int x1), none, some (.int x3), some (va_rf (some x4)), some (.int x5), none] [] S Q) {x0 : Nat} {x1 : Int32} {x3 : Int32} {x4 : Nat} {x5 : Int32} {x6 : Int32} (hS : St 1 g H T S) (hM : Mono S0 S) (t_x0 : isO g H 9 x0) (t_x4 : isO g H 2 x4) (ok : KO_X11_proof_185 N g H T rok x0 x1 x3 x4 x5 x6 S) (hx : X (KF_X11_proof_185 N g H T rec x0 x1 x3 x4 x5 x6 S)) : cX G o dX11_proof mX11_proof 185 [some (va_rf (some x0)), some (.int x1), none, some (.int x3), some (va_rf (some x4)), some (.int x5), some (.int x6)] [] S Q := by
  unfold KO_X11_proof_185 at ok
  unfold KF_X11_proof_185 at hx
  refine c_aloadQ dX11_proof_185 rfl ?_
  refine c_iload dX11_proof_187 rfl ?_
  refine c_iconst (v := nI 1) dX11_proof_189 (by decide) ?_
  refine c_icmp_ne (tgt := 200) dX11_proof_190 (by decide) (fun c_190 => ?_) (fun c_190 => ?_)
  · have ok := ok.2 c_190
    have hx := xif_n c_190 hx
    refine c_aload_nQ dX11_proof_200 rfl rfl ?_
    refine c_getS (C := RX11) (T := TX11) (N := 4) (ci := 9) (k := 1) ⟨rfl, inT11, by decide, fX11_9⟩ (by decide) (by decide) (by decide) dX11_proof_201 (hS.k t_x0) (hS.r (c := 9) t_x0 rfl (by omega)) ?_
    exact cX.cutz (kb_X11_proof_204 hG hX0 hX1 hrec hS hM t_x0 t_x4 t_x4 (hS.rk (c := 9) (k := 1) t_x0 rfl (by omega)) ok hx) ⟨rfl, rfl, rfl, rfl, rfl, rfl, trivial⟩
  · have ok := ok.1 c_190
    have hx := xif_p c_190 hx
    refine c_aload_nQ dX11_proof_193 rfl rfl ?_
    refine c_getS (C := RX11) (T := TX11) (N := 4) (ci := 9) (k := 2) ⟨rfl, inT11, by decide, fX11_13⟩ (by decide) (by decide) (by decide) dX11_proof_194 (hS.k t_x0) (hS.r (c := 9) t_x0 rfl (by omega)) ?_
    refine c_goto (tgt := 204) dX11_proof_197 (by decide) ?_
    exact cX.cutz (kb_X11_proof_204 hG hX0 hX1 hrec hS hM t_x0 t_x4 t_x4 (hS.rk (c := 9) (k := 2) t_x0 rfl (by omega)) ok hx) ⟨rfl, rfl, rfl, rfl, rfl, rfl, trivial⟩
def KF_X11_proof_182 (N g H T : Nat) (rec : Nat → Int32 → Int32 → Nat → Int32 → cS → Nat × Nat × Int32 × cS) (x0 : Nat) (x1 : Int32) (x3 : Int32) (x4 : Nat) (x5 : Int32) (x6 : Int32) (s0 : Nat) (s1 : Option Nat) (s2 : Int32) (s3 : Int32) (S : cS) : Nat × Nat × Int32 × cS := (KF_X11_proof_185 N g H T rec x0 x1 x3 x4 x5 x6 (k_X2_add_ N g H T S s0 s1 s2 s3))
def KO_X11_proof_182 (N g H T : Nat) (rok : Nat → Int32 → Int32 → Nat → Int32 → cS → Prop) (x0 : Nat) (x1 : Int32) (x3 : Int32) (x4 : Nat) (x5 : Int32) (x6 : Int32) (s0 : Nat) (s1 : Option Nat) (s2 : Int32) (s3 : Int32) (S : cS) : Prop := (p_X2_add_ N g H T S s0 s1 s2 s3) ∧ KO_X11_proof_185 N g H T rok x0 x1 x3 x4 x5 x6 (k_X2_add_ N g H T S s0 s1 s2 s3)
set_option maxRecDepth 100000 in
set_option maxHeartbeats 4000000 in
theorem kb_X11_proof_182 {G : zG} {o : cO} {g H T N : Nat} {S : cS} {S0 : cS} {Q : Option Value → cS → Prop} {X : Nat × Nat × Int32 × cS → Prop} (hG : zOK G) (hX0 : ∀ (x0 : Nat) (x1 : Int32) (S' : cS), St 1 g H T S' → Mono S0 S' → X (0, x0, x1, S') → cX G o dX11_proof mX11_proof 122 [none, none, none, none, none, none, none] [] S' Q) (hX1 : ∀ (x0 : Nat) (x1 : Int32) (S' : cS), St 1 g H T S' → Mono S0 S' → isO g H 9 x0 → X (1, x0, x1, S') → cX G o dX11_proof mX11_proof 251 [some (va_rf (some x0)), some (.int x1), none, none, none, none, none] [] S' Q) {rec : Nat → Int32 → Int32 → Nat → Int32 → cS → Nat × Nat × Int32 × cS} {rok : Nat → Int32 → Int32 → Nat → Int32 → cS → Prop} (hrec : ∀ (x0 : Nat) (x1 : Int32) (x3 : Int32) (x4 : Nat) (x5 : Int32) (S : cS), St 1 g H T S → Mono S0 S → isO g H 9 x0 → isO g H 2 x4 → rok x0 x1 x3 x4 x5 S → X (rec x0 x1 x3 x4 x5 S) → cX G o dX11_proof mX11_proof 75 [some (va_rf (some x0)), some (.int x1), none, some (.int x3), some (va_rf (some x4)), some (.int x5), none] [] S Q) {x0 : Nat} {x1 : Int32} {x3 : Int32} {x4 : Nat} {x5 : Int32} {x6 : Int32} {s0 : Nat} {s1 : Option Nat} {s2 : Int32} {s3 : Int32} (hS : St 1 g H T S) (hM : Mono S0 S) (t_x0 : isO g H 9 x0) (t_x4 : isO g H 2 x4) (t_s0 : isO g H 2 s0) (t_s1 : tK S 20 s1) (ok : KO_X11_proof_182 N g H T rok x0 x1 x3 x4 x5 x6 s0 s1 s2 s3 S) (hx : X (KF_X11_proof_182 N g H T rec x0 x1 x3 x4 x5 x6 s0 s1 s2 s3 S)) : cX G o dX11_proof mX11_proof 182 [some (va_rf (some x0)), some (.int x1), none, some (.int x3), some (va_rf (some x4)), some (.int x5), some (.int x6)] [.int s3, .int s2, va_rf s1, va_rf (some s0)] S Q := by
  unfold KO_X11_proof_182 at ok
  unfold KF_X11_proof_182 at hx
  refine c_V3vK (ci := 2) (rr := (RX2, TX2, 6)) (y' := mX2_add_) dX11_proof_182 lX11_298 kX2_add_ ⟨by decide, by decide⟩ rfl rfl (by decide) (hS.k t_s0) (Nat.le_of_ble_eq_true rfl) (kc_X2_add_ hG hS t_s0 t_s1 ok.1) (fun ⟨hS, hm_182⟩ => ?_)
  have hM := hM.trans hm_182
  have ok := ok.2
  exact cX.cutz (kb_X11_proof_185 hG hX0 hX1 hrec hS hM t_x0 t_x4 ok hx) ⟨rfl, rfl, rfl, rfl, rfl, rfl, trivial⟩
def KF_X11_proof_166 (N g H T : Nat) (rec : Nat → Int32 → Int32 → Nat → Int32 → cS → Nat × Nat × Int32 × cS) (x0 : Nat) (x1 : Int32) (x3 : Int32) (x4 : Nat) (x5 : Int32) (x6 : Int32) (s0 : Nat) (s1 : Option Nat) (s2 : Int32) (S : cS) : Nat × Nat × Int32 × cS := (if x6 = (nI 1) then (KF_X11_proof_182 N g H T rec x0 x1 x3 x4 x5 x6 s0 s1 s2 (x5 + (nI 32)) S) else (KF_X11_proof_182 N g H T rec x0 x1 x3 x4 x5 x6 s0 s1 s2 (nI 32) S))
def KO_X11_proof_166 (N g H T : Nat) (rok : Nat → Int32 → Int32 → Nat → Int32 → cS → Prop) (x0 : Nat) (x1 : Int32) (x3 : Int32) (x4 : Nat) (x5 : Int32) (x6 : Int32) (s0 : Nat) (s1 : Option Nat) (s2 : Int32) (S : cS) : Prop := ((x6 = (nI 1) → KO_X11_proof_182 N g H T rok x0 x1 x3 x4 x5 x6 s0 s1 s2 (x5 + (nI 32)) S) ∧ (¬ x6 = (nI 1) → KO_X11_proof_182 N g H T rok x0 x1 x3 x4 x5 x6 s0 s1 s2 (nI 32) S))
set_option maxRecDepth 100000 in
set_option maxHeartbeats 4000000 in
theorem kb_X11_proof_166 {G : zG} {o : cO} {g H T N : Nat} {S : cS} {S0 : cS} {Q : Option Value → cS → Prop} {X : Nat × Nat × Int32 × cS → Prop} (hG : zOK G) (hX0 : ∀ (x0 : Nat) (x1 : Int32) (S' : cS), St 1 g H T S' → Mono S0 S' → X (0, x0, x1, S') → cX G o dX11_proof mX11_proof 122 [none, none, none, none, none, none, none] [] S' Q) (hX1 : ∀ (x0 : Nat) (x1 : Int32) (S' : cS), St 1 g H T S' → Mono S0 S' → isO g H 9 x0 → X (1, x0, x1, S') → cX G o dX11_proof mX11_proof 251 [some (va_rf (some x0)), some (.int x1), none, none, none, none, none] [] S' Q) {rec : Nat → Int32 → Int32 → Nat → Int32 → cS → Nat × Nat × Int32 × cS} {rok : Nat → Int32 → Int32 → Nat → Int32 → cS → Prop} (hrec : ∀ (x0 : Nat) (x1 : Int32) (x3 : Int32) (x4 : Nat) (x5 : Int32) (S : cS), St 1 g H T S → Mono S0 S → isO g H 9 x0 → isO g H 2 x4 → rok x0 x1 x3 x4 x5 S → X (rec x0 x1 x3 x4 x5 S) → cX G o dX11_proof mX11_proof 75 [some (va_rf (some x0)), some (.int x1), none, some (.int x3), some (va_rf (some x4)), some (.int x5), none] [] S Q) {x0 : Nat} {x1 : Int32} {x3 : Int32} {x4 : Nat} {x5 : Int32} {x6 : Int32} {s0 : Nat} {s1 : Option Nat} {s2 : Int32} (hS : St 1 g H T S) (hM : Mono S0 S) (t_x0 : isO g H 9 x0) (t_x4 : isO g H 2 x4) (t_s0 : isO g H 2 s0) (t_s1 : tK S 20 s1) (ok : KO_X11_proof_166 N g H T rok x0 x1 x3 x4 x5 x6 s0 s1 s2 S) (hx : X (KF_X11_proof_166 N g H T rec x0 x1 x3 x4 x5 x6 s0 s1 s2 S)) : cX G o dX11_proof mX11_proof 166 [some (va_rf (some x0)), some (.int x1), none, some (.int x3), some (va_rf (some x4)), some (.int x5), some (.int x6)] [.int s2, va_rf s1, va_rf (some s0)] S Q := by
  unfold KO_X11_proof_166 at ok
  unfold KF_X11_proof_166 at hx
  refine c_iload dX11_proof_166 rfl ?_
  refine c_iconst (v := nI 1) dX11_proof_168 (by decide) ?_
  refine c_icmp_ne (tgt := 180) dX11_proof_169 (by decide) (fun c_169 => ?_) (fun c_169 => ?_)
  · have ok := ok.2 c_169
    have hx := xif_n c_169 hx
    refine c_bipush (v := nI 32) dX11_proof_180 (by decide) ?_
    exact cX.cutz (kb_X11_proof_182 hG hX0 hX1 hrec hS hM t_x0 t_x4 t_s0 t_s1 ok hx) ⟨rfl, rfl, rfl, rfl, rfl, rfl, trivial⟩
  · have ok := ok.1 c_169
    have hx := xif_p c_169 hx
    refine c_iload dX11_proof_172 rfl ?_
    refine c_bipush (v := nI 32) dX11_proof_174 (by decide) ?_
    refine c_iadd dX11_proof_176 ?_
    refine c_goto (tgt := 182) dX11_proof_177 (by decide) ?_
    exact cX.cutz (kb_X11_proof_182 hG hX0 hX1 hrec hS hM t_x0 t_x4 t_s0 t_s1 ok hx) ⟨rfl, rfl, rfl, rfl, rfl, rfl, trivial⟩
def KF_X11_proof_154 (N g H T : Nat) (rec : Nat → Int32 → Int32 → Nat → Int32 → cS → Nat × Nat × Int32 × cS) (x0 : Nat) (x1 : Int32) (x3 : Int32) (x4 : Nat) (x5 : Int32) (x6 : Int32) (s0 : Nat) (s1 : Option Nat) (S : cS) : Nat × Nat × Int32 × cS := (if x6 = (nI 1) then (KF_X11_proof_166 N g H T rec x0 x1 x3 x4 x5 x6 s0 s1 x5 S) else (KF_X11_proof_166 N g H T rec x0 x1 x3 x4 x5 x6 s0 s1 (nI 0) S))
def KO_X11_proof_154 (N g H T : Nat) (rok : Nat → Int32 → Int32 → Nat → Int32 → cS → Prop) (x0 : Nat) (x1 : Int32) (x3 : Int32) (x4 : Nat) (x5 : Int32) (x6 : Int32) (s0 : Nat) (s1 : Option Nat) (S : cS) : Prop := ((x6 = (nI 1) → KO_X11_proof_166 N g H T rok x0 x1 x3 x4 x5 x6 s0 s1 x5 S) ∧ (¬ x6 = (nI 1) → KO_X11_proof_166 N g H T rok x0 x1 x3 x4 x5 x6 s0 s1 (nI 0) S))
set_option maxRecDepth 100000 in
set_option maxHeartbeats 4000000 in
theorem kb_X11_proof_154 {G : zG} {o : cO} {g H T N : Nat} {S : cS} {S0 : cS} {Q : Option Value → cS → Prop} {X : Nat × Nat × Int32 × cS → Prop} (hG : zOK G) (hX0 : ∀ (x0 : Nat) (x1 : Int32) (S' : cS), St 1 g H T S' → Mono S0 S' → X (0, x0, x1, S') → cX G o dX11_proof mX11_proof 122 [none, none, none, none, none, none, none] [] S' Q) (hX1 : ∀ (x0 : Nat) (x1 : Int32) (S' : cS), St 1 g H T S' → Mono S0 S' → isO g H 9 x0 → X (1, x0, x1, S') → cX G o dX11_proof mX11_proof 251 [some (va_rf (some x0)), some (.int x1), none, none, none, none, none] [] S' Q) {rec : Nat → Int32 → Int32 → Nat → Int32 → cS → Nat × Nat × Int32 × cS} {rok : Nat → Int32 → Int32 → Nat → Int32 → cS → Prop} (hrec : ∀ (x0 : Nat) (x1 : Int32) (x3 : Int32) (x4 : Nat) (x5 : Int32) (S : cS), St 1 g H T S → Mono S0 S → isO g H 9 x0 → isO g H 2 x4 → rok x0 x1 x3 x4 x5 S → X (rec x0 x1 x3 x4 x5 S) → cX G o dX11_proof mX11_proof 75 [some (va_rf (some x0)), some (.int x1), none, some (.int x3), some (va_rf (some x4)), some (.int x5), none] [] S Q) {x0 : Nat} {x1 : Int32} {x3 : Int32} {x4 : Nat} {x5 : Int32} {x6 : Int32} {s0 : Nat} {s1 : Option Nat} (hS : St 1 g H T S) (hM : Mono S0 S) (t_x0 : isO g H 9 x0) (t_x4 : isO g H 2 x4) (t_s0 : isO g H 2 s0) (t_s1 : tK S 20 s1) (ok : KO_X11_proof_154 N g H T rok x0 x1 x3 x4 x5 x6 s0 s1 S) (hx : X (KF_X11_proof_154 N g H T rec x0 x1 x3 x4 x5 x6 s0 s1 S)) : cX G o dX11_proof mX11_proof 154 [some (va_rf (some x0)), some (.int x1), none, some (.int x3), some (va_rf (some x4)), some (.int x5), some (.int x6)] [va_rf s1, va_rf (some s0)] S Q := by
  unfold KO_X11_proof_154 at ok
  unfold KF_X11_proof_154 at hx
  refine c_iload dX11_proof_154 rfl ?_
  refine c_iconst (v := nI 1) dX11_proof_156 (by decide) ?_
  refine c_icmp_ne (tgt := 165) dX11_proof_157 (by decide) (fun c_157 => ?_) (fun c_157 => ?_)
  · have ok := ok.2 c_157
    have hx := xif_n c_157 hx
    refine c_iconst (v := nI 0) dX11_proof_165 (by decide) ?_
    exact cX.cutz (kb_X11_proof_166 hG hX0 hX1 hrec hS hM t_x0 t_x4 t_s0 t_s1 ok hx) ⟨rfl, rfl, rfl, rfl, rfl, rfl, trivial⟩
  · have ok := ok.1 c_157
    have hx := xif_p c_157 hx
    refine c_iload dX11_proof_160 rfl ?_
    refine c_goto (tgt := 166) dX11_proof_162 (by decide) ?_
    exact cX.cutz (kb_X11_proof_166 hG hX0 hX1 hrec hS hM t_x0 t_x4 t_s0 t_s1 ok hx) ⟨rfl, rfl, rfl, rfl, rfl, rfl, trivial⟩
def KF_X11_proof_135 (N g H T : Nat) (rec : Nat → Int32 → Int32 → Nat → Int32 → cS → Nat × Nat × Int32 × cS) (x0 : Nat) (x1 : Int32) (x3 : Int32) (x4 : Nat) (x5 : Int32) (x6 : Int32) (S : cS) : Nat × Nat × Int32 × cS := (if x6 = (nI 1) then (KF_X11_proof_154 N g H T rec x0 x1 x3 x4 x5 x6 x4 (some (g + 1)) S) else (KF_X11_proof_154 N g H T rec x0 x1 x3 x4 x5 x6 x4 (some (g + 2)) S))
def KO_X11_proof_135 (N g H T : Nat) (rok : Nat → Int32 → Int32 → Nat → Int32 → cS → Prop) (x0 : Nat) (x1 : Int32) (x3 : Int32) (x4 : Nat) (x5 : Int32) (x6 : Int32) (S : cS) : Prop := ((x6 = (nI 1) → KO_X11_proof_154 N g H T rok x0 x1 x3 x4 x5 x6 x4 (some (g + 1)) S) ∧ (¬ x6 = (nI 1) → KO_X11_proof_154 N g H T rok x0 x1 x3 x4 x5 x6 x4 (some (g + 2)) S))
set_option maxRecDepth 100000 in
set_option maxHeartbeats 4000000 in
theorem kb_X11_proof_135 {G : zG} {o : cO} {g H T N : Nat} {S : cS} {S0 : cS} {Q : Option Value → cS → Prop} {X : Nat × Nat × Int32 × cS → Prop} (hG : zOK G) (hX0 : ∀ (x0 : Nat) (x1 : Int32) (S' : cS), St 1 g H T S' → Mono S0 S' → X (0, x0, x1, S') → cX G o dX11_proof mX11_proof 122 [none, none, none, none, none, none, none] [] S' Q) (hX1 : ∀ (x0 : Nat) (x1 : Int32) (S' : cS), St 1 g H T S' → Mono S0 S' → isO g H 9 x0 → X (1, x0, x1, S') → cX G o dX11_proof mX11_proof 251 [some (va_rf (some x0)), some (.int x1), none, none, none, none, none] [] S' Q) {rec : Nat → Int32 → Int32 → Nat → Int32 → cS → Nat × Nat × Int32 × cS} {rok : Nat → Int32 → Int32 → Nat → Int32 → cS → Prop} (hrec : ∀ (x0 : Nat) (x1 : Int32) (x3 : Int32) (x4 : Nat) (x5 : Int32) (S : cS), St 1 g H T S → Mono S0 S → isO g H 9 x0 → isO g H 2 x4 → rok x0 x1 x3 x4 x5 S → X (rec x0 x1 x3 x4 x5 S) → cX G o dX11_proof mX11_proof 75 [some (va_rf (some x0)), some (.int x1), none, some (.int x3), some (va_rf (some x4)), some (.int x5), none] [] S Q) {x0 : Nat} {x1 : Int32} {x3 : Int32} {x4 : Nat} {x5 : Int32} {x6 : Int32} (hS : St 1 g H T S) (hM : Mono S0 S) (t_x0 : isO g H 9 x0) (t_x4 : isO g H 2 x4) (ok : KO_X11_proof_135 N g H T rok x0 x1 x3 x4 x5 x6 S) (hx : X (KF_X11_proof_135 N g H T rec x0 x1 x3 x4 x5 x6 S)) : cX G o dX11_proof mX11_proof 135 [some (va_rf (some x0)), some (.int x1), none, some (.int x3), some (va_rf (some x4)), some (.int x5), some (.int x6)] [] S Q := by
  unfold KO_X11_proof_135 at ok
  unfold KF_X11_proof_135 at hx
  refine c_aloadQ dX11_proof_135 rfl ?_
  refine c_iload dX11_proof_137 rfl ?_
  refine c_iconst (v := nI 1) dX11_proof_139 (by decide) ?_
  refine c_icmp_ne (tgt := 150) dX11_proof_140 (by decide) (fun c_140 => ?_) (fun c_140 => ?_)
  · have ok := ok.2 c_140
    have hx := xif_n c_140 hx
    refine c_aload_nQ dX11_proof_150 rfl rfl ?_
    refine c_getS (C := RX11) (T := TX11) (N := 4) (ci := 9) (k := 2) ⟨rfl, inT11, by decide, fX11_13⟩ (by decide) (by decide) (by decide) dX11_proof_151 (hS.k t_x0) (hS.r (c := 9) t_x0 rfl (by omega)) ?_
    exact cX.cutz (kb_X11_proof_154 hG hX0 hX1 hrec hS hM t_x0 t_x4 t_x4 (hS.rk (c := 9) (k := 2) t_x0 rfl (by omega)) ok hx) ⟨rfl, rfl, rfl, rfl, rfl, rfl, trivial⟩
  · have ok := ok.1 c_140
    have hx := xif_p c_140 hx
    refine c_aload_nQ dX11_proof_143 rfl rfl ?_
    refine c_getS (C := RX11) (T := TX11) (N := 4) (ci := 9) (k := 1) ⟨rfl, inT11, by decide, fX11_9⟩ (by decide) (by decide) (by decide) dX11_proof_144 (hS.k t_x0) (hS.r (c := 9) t_x0 rfl (by omega)) ?_
    refine c_goto (tgt := 154) dX11_proof_147 (by decide) ?_
    exact cX.cutz (kb_X11_proof_154 hG hX0 hX1 hrec hS hM t_x0 t_x4 t_x4 (hS.rk (c := 9) (k := 1) t_x0 rfl (by omega)) ok hx) ⟨rfl, rfl, rfl, rfl, rfl, rfl, trivial⟩
def KF_X11_proof_129 (N g H T : Nat) (rec : Nat → Int32 → Int32 → Nat → Int32 → cS → Nat × Nat × Int32 × cS) (x0 : Nat) (x1 : Int32) (x3 : Int32) (x4 : Nat) (x5 : Int32) (x6 : Int32) (S : cS) : Nat × Nat × Int32 × cS := (KF_X11_proof_135 N g H T rec x0 x1 x3 x4 x5 x6 (k_X2_add N g H T S x4 (nI 1)))
def KO_X11_proof_129 (N g H T : Nat) (rok : Nat → Int32 → Int32 → Nat → Int32 → cS → Prop) (x0 : Nat) (x1 : Int32) (x3 : Int32) (x4 : Nat) (x5 : Int32) (x6 : Int32) (S : cS) : Prop := (p_X2_add N g H T S x4 (nI 1)) ∧ KO_X11_proof_135 N g H T rok x0 x1 x3 x4 x5 x6 (k_X2_add N g H T S x4 (nI 1))
set_option maxRecDepth 100000 in
set_option maxHeartbeats 4000000 in
theorem kb_X11_proof_129 {G : zG} {o : cO} {g H T N : Nat} {S : cS} {S0 : cS} {Q : Option Value → cS → Prop} {X : Nat × Nat × Int32 × cS → Prop} (hG : zOK G) (hX0 : ∀ (x0 : Nat) (x1 : Int32) (S' : cS), St 1 g H T S' → Mono S0 S' → X (0, x0, x1, S') → cX G o dX11_proof mX11_proof 122 [none, none, none, none, none, none, none] [] S' Q) (hX1 : ∀ (x0 : Nat) (x1 : Int32) (S' : cS), St 1 g H T S' → Mono S0 S' → isO g H 9 x0 → X (1, x0, x1, S') → cX G o dX11_proof mX11_proof 251 [some (va_rf (some x0)), some (.int x1), none, none, none, none, none] [] S' Q) {rec : Nat → Int32 → Int32 → Nat → Int32 → cS → Nat × Nat × Int32 × cS} {rok : Nat → Int32 → Int32 → Nat → Int32 → cS → Prop} (hrec : ∀ (x0 : Nat) (x1 : Int32) (x3 : Int32) (x4 : Nat) (x5 : Int32) (S : cS), St 1 g H T S → Mono S0 S → isO g H 9 x0 → isO g H 2 x4 → rok x0 x1 x3 x4 x5 S → X (rec x0 x1 x3 x4 x5 S) → cX G o dX11_proof mX11_proof 75 [some (va_rf (some x0)), some (.int x1), none, some (.int x3), some (va_rf (some x4)), some (.int x5), none] [] S Q) {x0 : Nat} {x1 : Int32} {x3 : Int32} {x4 : Nat} {x5 : Int32} {x6 : Int32} (hS : St 1 g H T S) (hM : Mono S0 S) (t_x0 : isO g H 9 x0) (t_x4 : isO g H 2 x4) (ok : KO_X11_proof_129 N g H T rok x0 x1 x3 x4 x5 x6 S) (hx : X (KF_X11_proof_129 N g H T rec x0 x1 x3 x4 x5 x6 S)) : cX G o dX11_proof mX11_proof 129 [some (va_rf (some x0)), some (.int x1), none, some (.int x3), some (va_rf (some x4)), some (.int x5), some (.int x6)] [] S Q := by
  unfold KO_X11_proof_129 at ok
  unfold KF_X11_proof_129 at hx
  refine c_aloadQ dX11_proof_129 rfl ?_
  refine c_iconst (v := nI 1) dX11_proof_131 (by decide) ?_
  refine c_V1vK (ci := 2) (rr := (RX2, TX2, 6)) (y' := mX2_add) dX11_proof_132 lX11_295 kX2_add ⟨by decide, by decide⟩ rfl rfl (by decide) (hS.k t_x4) (Nat.le_of_ble_eq_true rfl) (kc_X2_add hG hS t_x4 ok.1) (fun ⟨hS, hm_132⟩ => ?_)
  have hM := hM.trans hm_132
  have ok := ok.2
  exact cX.cutz (kb_X11_proof_135 hG hX0 hX1 hrec hS hM t_x0 t_x4 ok hx) ⟨rfl, rfl, rfl, rfl, rfl, rfl, trivial⟩
def KF_X11_proof_122 (N g H T : Nat)  (S : cS) : Int32 × cS := ((nI 0), S)
def KO_X11_proof_122 (N g H T : Nat)  (S : cS) : Prop := True
set_option maxRecDepth 100000 in
set_option maxHeartbeats 4000000 in
theorem kb_X11_proof_122 {G : zG} {o : cO} {g H T N : Nat} {S : cS} {S0 : cS} {Q : Option Value → cS → Prop} {X : Int32 × cS → Prop} (hG : zOK G) (hR : ∀ v S', St 1 g H T S' → Mono S0 S' → X (v, S') → Q (some (.int v)) S') (hS : St 1 g H T S) (hM : Mono S0 S) (ok : KO_X11_proof_122 N g H T S) (hx : X (KF_X11_proof_122 N g H T S)) : cX G o dX11_proof mX11_proof 122 [none, none, none, none, none, none, none] [] S Q := by
  unfold KO_X11_proof_122 at ok
  unfold KF_X11_proof_122 at hx
  refine c_iconst (v := nI 0) dX11_proof_122 (by decide) ?_
  exact c_ireturn rfl rfl dX11_proof_123 (hR _ _ hS hM hx)
def KF_X11_proof_113 (N g H T : Nat) (rec : Nat → Int32 → Int32 → Nat → Int32 → cS → Nat × Nat × Int32 × cS) (x0 : Nat) (x1 : Int32) (x3 : Int32) (x4 : Nat) (x5 : Int32) (x6 : Int32) (S : cS) : Nat × Nat × Int32 × cS := (if (nI 32) ≤ (x3 - x5) then (KF_X11_proof_129 N g H T rec x0 x1 x3 x4 x5 x6 (k_X2_open N g H T S x4)) else (0, 0, 0, S))
def KO_X11_proof_113 (N g H T : Nat) (rok : Nat → Int32 → Int32 → Nat → Int32 → cS → Prop) (x0 : Nat) (x1 : Int32) (x3 : Int32) (x4 : Nat) (x5 : Int32) (x6 : Int32) (S : cS) : Prop := (((nI 32) ≤ (x3 - x5) → (p_X2_open N g H T S x4) ∧ KO_X11_proof_129 N g H T rok x0 x1 x3 x4 x5 x6 (k_X2_open N g H T S x4)) ∧ (¬ (nI 32) ≤ (x3 - x5) → True))
set_option maxRecDepth 100000 in
set_option maxHeartbeats 4000000 in
theorem kb_X11_proof_113 {G : zG} {o : cO} {g H T N : Nat} {S : cS} {S0 : cS} {Q : Option Value → cS → Prop} {X : Nat × Nat × Int32 × cS → Prop} (hG : zOK G) (hX0 : ∀ (x0 : Nat) (x1 : Int32) (S' : cS), St 1 g H T S' → Mono S0 S' → X (0, x0, x1, S') → cX G o dX11_proof mX11_proof 122 [none, none, none, none, none, none, none] [] S' Q) (hX1 : ∀ (x0 : Nat) (x1 : Int32) (S' : cS), St 1 g H T S' → Mono S0 S' → isO g H 9 x0 → X (1, x0, x1, S') → cX G o dX11_proof mX11_proof 251 [some (va_rf (some x0)), some (.int x1), none, none, none, none, none] [] S' Q) {rec : Nat → Int32 → Int32 → Nat → Int32 → cS → Nat × Nat × Int32 × cS} {rok : Nat → Int32 → Int32 → Nat → Int32 → cS → Prop} (hrec : ∀ (x0 : Nat) (x1 : Int32) (x3 : Int32) (x4 : Nat) (x5 : Int32) (S : cS), St 1 g H T S → Mono S0 S → isO g H 9 x0 → isO g H 2 x4 → rok x0 x1 x3 x4 x5 S → X (rec x0 x1 x3 x4 x5 S) → cX G o dX11_proof mX11_proof 75 [some (va_rf (some x0)), some (.int x1), none, some (.int x3), some (va_rf (some x4)), some (.int x5), none] [] S Q) {x0 : Nat} {x1 : Int32} {x3 : Int32} {x4 : Nat} {x5 : Int32} {x6 : Int32} (hS : St 1 g H T S) (hM : Mono S0 S) (t_x0 : isO g H 9 x0) (t_x4 : isO g H 2 x4) (ok : KO_X11_proof_113 N g H T rok x0 x1 x3 x4 x5 x6 S) (hx : X (KF_X11_proof_113 N g H T rec x0 x1 x3 x4 x5 x6 S)) : cX G o dX11_proof mX11_proof 113 [some (va_rf (some x0)), some (.int x1), none, some (.int x3), some (va_rf (some x4)), some (.int x5), some (.int x6)] [] S Q := by
  unfold KO_X11_proof_113 at ok
  unfold KF_X11_proof_113 at hx
  refine c_iload_n dX11_proof_113 rfl rfl ?_
  refine c_iload dX11_proof_114 rfl ?_
  refine c_isub dX11_proof_116 ?_
  refine c_bipush (v := nI 32) dX11_proof_117 (by decide) ?_
  refine c_icmp_ge (tgt := 124) dX11_proof_119 (by decide) (fun c_119 => ?_) (fun c_119 => ?_)
  · have ok := ok.1 c_119
    have hx := xif_p c_119 hx
    refine c_aloadQ dX11_proof_124 rfl ?_
    refine c_V0vK (ci := 2) (rr := (RX2, TX2, 6)) (y' := mX2_open) dX11_proof_126 lX11_292 kX2_open ⟨by decide, by decide⟩ rfl rfl (by decide) (hS.k t_x4) (Nat.le_of_ble_eq_true rfl) (kc_X2_open hG hS t_x4 ok.1) (fun ⟨hS, hm_126⟩ => ?_)
    have hM := hM.trans hm_126
    have ok := ok.2
    exact cX.cutz (kb_X11_proof_129 hG hX0 hX1 hrec hS hM t_x0 t_x4 ok hx) ⟨rfl, rfl, rfl, rfl, rfl, rfl, trivial⟩
  · have ok := ok.2 c_119
    have hx := xif_n c_119 hx
    exact cX.cutz (hX0 _ _ S hS hM  hx) trivial
def KB_X11_proof_75 (N g H T : Nat) (rec : Nat → Int32 → Int32 → Nat → Int32 → cS → Nat × Nat × Int32 × cS) (x0 : Nat) (x1 : Int32) (x3 : Int32) (x4 : Nat) (x5 : Int32) (S : cS) : Nat × Nat × Int32 × cS := (if x3 ≤ x5 then (1, x0, x1, S) else (if (cA S (g + 1) x5.toNatClampNeg) = 0 then (rec x0 x1 x3 x4 (x5 + nI 1) S) else (if (cA S (g + 1) x5.toNatClampNeg) = (nI 1) then (KF_X11_proof_113 N g H T rec x0 x1 x3 x4 (x5 + nI 1) (cA S (g + 1) x5.toNatClampNeg) S) else (if (cA S (g + 1) x5.toNatClampNeg) = (nI 2) then (KF_X11_proof_113 N g H T rec x0 x1 x3 x4 (x5 + nI 1) (cA S (g + 1) x5.toNatClampNeg) S) else (0, 0, 0, S)))))
def KOB_X11_proof_75 (N g H T : Nat) (rok : Nat → Int32 → Int32 → Nat → Int32 → cS → Prop) (x0 : Nat) (x1 : Int32) (x3 : Int32) (x4 : Nat) (x5 : Int32) (S : cS) : Prop := ((x3 ≤ x5 → True) ∧ (¬ x3 ≤ x5 → (vp_in x5 1000) ∧ (((cA S (g + 1) x5.toNatClampNeg) = 0 → rok x0 x1 x3 x4 (x5 + nI 1) S) ∧ (¬ (cA S (g + 1) x5.toNatClampNeg) = 0 → (((cA S (g + 1) x5.toNatClampNeg) = (nI 1) → KO_X11_proof_113 N g H T rok x0 x1 x3 x4 (x5 + nI 1) (cA S (g + 1) x5.toNatClampNeg) S) ∧ (¬ (cA S (g + 1) x5.toNatClampNeg) = (nI 1) → (((cA S (g + 1) x5.toNatClampNeg) = (nI 2) → KO_X11_proof_113 N g H T rok x0 x1 x3 x4 (x5 + nI 1) (cA S (g + 1) x5.toNatClampNeg) S) ∧ (¬ (cA S (g + 1) x5.toNatClampNeg) = (nI 2) → True))))))))
set_option maxRecDepth 100000 in
set_option maxHeartbeats 4000000 in
theorem kbb_X11_proof_75 {G : zG} {o : cO} {g H T N : Nat} {S : cS} {S0 : cS} {Q : Option Value → cS → Prop} {X : Nat × Nat × Int32 × cS → Prop} (hG : zOK G) (hX0 : ∀ (x0 : Nat) (x1 : Int32) (S' : cS), St 1 g H T S' → Mono S0 S' → X (0, x0, x1, S') → cX G o dX11_proof mX11_proof 122 [none, none, none, none, none, none, none] [] S' Q) (hX1 : ∀ (x0 : Nat) (x1 : Int32) (S' : cS), St 1 g H T S' → Mono S0 S' → isO g H 9 x0 → X (1, x0, x1, S') → cX G o dX11_proof mX11_proof 251 [some (va_rf (some x0)), some (.int x1), none, none, none, none, none] [] S' Q) {rec : Nat → Int32 → Int32 → Nat → Int32 → cS → Nat × Nat × Int32 × cS} {rok : Nat → Int32 → Int32 → Nat → Int32 → cS → Prop} (hrec : ∀ (x0 : Nat) (x1 : Int32) (x3 : Int32) (x4 : Nat) (x5 : Int32) (S : cS), St 1 g H T S → Mono S0 S → isO g H 9 x0 → isO g H 2 x4 → rok x0 x1 x3 x4 x5 S → X (rec x0 x1 x3 x4 x5 S) → cX G o dX11_proof mX11_proof 75 [some (va_rf (some x0)), some (.int x1), none, some (.int x3), some (va_rf (some x4)), some (.int x5), none] [] S Q) {x0 : Nat} {x1 : Int32} {x3 : Int32} {x4 : Nat} {x5 : Int32} (hS : St 1 g H T S) (hM : Mono S0 S) (t_x0 : isO g H 9 x0) (t_x4 : isO g H 2 x4) (ok : KOB_X11_proof_75 N g H T rok x0 x1 x3 x4 x5 S) (hx : X (KB_X11_proof_75 N g H T rec x0 x1 x3 x4 x5 S)) : cX G o dX11_proof mX11_proof 75 [some (va_rf (some x0)), some (.int x1), none, some (.int x3), some (va_rf (some x4)), some (.int x5), none] [] S Q := by
  unfold KOB_X11_proof_75 at ok
  unfold KB_X11_proof_75 at hx
  refine c_iload dX11_proof_75 rfl ?_
  refine c_iload_n dX11_proof_77 rfl rfl ?_
  refine c_icmp_ge (tgt := 251) dX11_proof_78 (by decide) (fun c_78 => ?_) (fun c_78 => ?_)
  · have ok := ok.1 c_78
    have hx := xif_p c_78 hx
    exact cX.cutz (hX1 _ _ S hS hM t_x0 hx) ⟨rfl, rfl, trivial⟩
  · have ok := ok.2 c_78
    have hx := xif_n c_78 hx
    refine c_aload_nQ dX11_proof_81 rfl rfl ?_
    refine c_getS (C := RX11) (T := TX11) (N := 4) (ci := 9) (k := 1) ⟨rfl, inT11, by decide, fX11_9⟩ (by decide) (by decide) (by decide) dX11_proof_82 (hS.k t_x0) (hS.r (c := 9) t_x0 rfl (by omega)) ?_
    refine c_iload dX11_proof_85 rfl ?_
    refine c_bald dX11_proof_87 ⟨(tK.cis (hS.rk (c := 9) (k := 1) t_x0 rfl (by omega)) (Option.some_ne_none _)), (vk_cast (hS.rl (c := 9) (k := 1) t_x0 rfl (by decide) (by omega)) ok.1)⟩ ?_
    have ok := ok.2
    refine c_istore_6 dX11_proof_88 (by decide) rfl ?_
    refine c_iinc_5 (v := (x5 + nI 1)) dX11_proof_90 rfl (by first | rfl | (congr 1)) (by decide) (by simp [zok, zg, zcat_rf]) ?_
    refine c_iload dX11_proof_93 rfl ?_
    refine c_if_ne (tgt := 101) dX11_proof_95 (by decide) (fun c_95 => ?_) (fun c_95 => ?_)
    · have ok := ok.2 c_95
      have hx := xif_n c_95 hx
      refine c_iload dX11_proof_101 rfl ?_
      refine c_iconst (v := nI 1) dX11_proof_103 (by decide) ?_
      refine c_icmp_eq (tgt := 113) dX11_proof_104 (by decide) (fun c_104 => ?_) (fun c_104 => ?_)
      · have ok := ok.1 c_104
        have hx := xif_p c_104 hx
        exact cX.cutz (kb_X11_proof_113 hG hX0 hX1 hrec hS hM t_x0 t_x4 ok hx) ⟨rfl, rfl, rfl, rfl, rfl, rfl, trivial⟩
      · have ok := ok.2 c_104
        have hx := xif_n c_104 hx
        refine c_iload dX11_proof_107 rfl ?_
        refine c_iconst (v := nI 2) dX11_proof_109 (by decide) ?_
        refine c_icmp_ne (tgt := 122) dX11_proof_110 (by decide) (fun c_110 => ?_) (fun c_110 => ?_)
        · have ok := ok.2 c_110
          have hx := xif_n c_110 hx
          exact cX.cutz (hX0 _ _ S hS hM  hx) trivial
        · have ok := ok.1 c_110
          have hx := xif_p c_110 hx
          exact cX.cutz (kb_X11_proof_113 hG hX0 hX1 hrec hS hM t_x0 t_x4 ok hx) ⟨rfl, rfl, rfl, rfl, rfl, rfl, trivial⟩
    · have ok := ok.1 c_95
      have hx := xif_p c_95 hx
      refine c_goto (tgt := 75) dX11_proof_98 (by decide) ?_
      exact cX.cutz (hrec _ _ _ _ _ S hS hM t_x0 t_x4 ok hx) ⟨rfl, rfl, rfl, rfl, rfl, trivial⟩
def KL_X11_proof_75 (N g H T : Nat) : Nat → Nat → Int32 → Int32 → Nat → Int32 → cS → Nat × Nat × Int32 × cS
  | 0, x0, x1, x3, x4, x5, S => (0, 0, 0, S)
  | n + 1, x0, x1, x3, x4, x5, S => KB_X11_proof_75 N g H T (KL_X11_proof_75 N g H T n) x0 x1 x3 x4 x5 S
def KOL_X11_proof_75 (N g H T : Nat) : Nat → Nat → Int32 → Int32 → Nat → Int32 → cS → Prop
  | 0, _, _, _, _, _, _ => False
  | n + 1, x0, x1, x3, x4, x5, S => KOB_X11_proof_75 N g H T (KOL_X11_proof_75 N g H T n) x0 x1 x3 x4 x5 S
set_option maxRecDepth 100000 in
set_option maxHeartbeats 4000000 in
theorem kl_X11_proof_75 {G : zG} {o : cO} {g H T N : Nat} {S0 : cS} {Q : Option Value → cS → Prop} {X : Nat × Nat × Int32 × cS → Prop} (hG : zOK G) (hX0 : ∀ (x0 : Nat) (x1 : Int32) (S' : cS), St 1 g H T S' → Mono S0 S' → X (0, x0, x1, S') → cX G o dX11_proof mX11_proof 122 [none, none, none, none, none, none, none] [] S' Q) (hX1 : ∀ (x0 : Nat) (x1 : Int32) (S' : cS), St 1 g H T S' → Mono S0 S' → isO g H 9 x0 → X (1, x0, x1, S') → cX G o dX11_proof mX11_proof 251 [some (va_rf (some x0)), some (.int x1), none, none, none, none, none] [] S' Q) : ∀ (n : Nat) (x0 : Nat) (x1 : Int32) (x3 : Int32) (x4 : Nat) (x5 : Int32) (S : cS), St 1 g H T S → Mono S0 S → isO g H 9 x0 → isO g H 2 x4 → KOL_X11_proof_75 N g H T n x0 x1 x3 x4 x5 S → X (KL_X11_proof_75 N g H T n x0 x1 x3 x4 x5 S) → cX G o dX11_proof mX11_proof 75 [some (va_rf (some x0)), some (.int x1), none, some (.int x3), some (va_rf (some x4)), some (.int x5), none] [] S Q := by
  intro n
  induction n with
  | zero => intro x0 x1 x3 x4 x5 S hS hM t_x0 t_x4 ok; exact absurd ok id
  | succ n ih =>
    intro x0 x1 x3 x4 x5 S hS hM t_x0 t_x4 ok hx
    exact kbb_X11_proof_75 hG hX0 hX1 (rec := KL_X11_proof_75 N g H T n) (rok := KOL_X11_proof_75 N g H T n) (fun x0 x1 x3 x4 x5 S hS hM t_x0 t_x4 ok hx => ih x0 x1 x3 x4 x5 S hS hM t_x0 t_x4 ok hx) hS hM t_x0 t_x4 ok hx
def KA_X11_proof_75 (N g H T : Nat) (x0 : Nat) (x1 : Int32) (x3 : Int32) (x4 : Nat) (x5 : Int32) (S : cS) (z : Nat × Nat × Int32 × cS) : Int32 × cS := (if z.1 = 0 then (KF_X11_proof_122 N g H T z.2.2.2) else (KF_X11_proof_251 N g H T (z.2.1) (z.2.2.1) z.2.2.2))
def KOA_X11_proof_75 (N g H T : Nat) (x0 : Nat) (x1 : Int32) (x3 : Int32) (x4 : Nat) (x5 : Int32) (S : cS) (z : Nat × Nat × Int32 × cS) : Prop := (if z.1 = 0 then KO_X11_proof_122 N g H T z.2.2.2 else KO_X11_proof_251 N g H T (z.2.1) (z.2.2.1) z.2.2.2)
set_option maxRecDepth 100000 in
set_option maxHeartbeats 4000000 in
theorem kd_X11_proof_75 {G : zG} {o : cO} {g H T N : Nat} {S : cS} {S0 : cS} {Q : Option Value → cS → Prop} {X : Int32 × cS → Prop} (hG : zOK G) (hR : ∀ v S', St 1 g H T S' → Mono S0 S' → X (v, S') → Q (some (.int v)) S') {x0 : Nat} {x1 : Int32} {x3 : Int32} {x4 : Nat} {x5 : Int32} (hS : St 1 g H T S) (hM : Mono S0 S) (t_x0 : isO g H 9 x0) (t_x4 : isO g H 2 x4) (ok : KOL_X11_proof_75 N g H T N x0 x1 x3 x4 x5 S ∧ KOA_X11_proof_75 N g H T x0 x1 x3 x4 x5 S (KL_X11_proof_75 N g H T N x0 x1 x3 x4 x5 S)) (hx : X (KA_X11_proof_75 N g H T x0 x1 x3 x4 x5 S (KL_X11_proof_75 N g H T N x0 x1 x3 x4 x5 S))) : cX G o dX11_proof mX11_proof 75 [some (va_rf (some x0)), some (.int x1), none, some (.int x3), some (va_rf (some x4)), some (.int x5), none] [] S Q := by
  refine kl_X11_proof_75 hG ?_ ?_ N x0 x1 x3 x4 x5 S hS hM t_x0 t_x4 ok.1 (X := fun z => KOA_X11_proof_75 N g H T x0 x1 x3 x4 x5 S z ∧ X (KA_X11_proof_75 N g H T x0 x1 x3 x4 x5 S z)) ⟨ok.2, hx⟩
  · intro x0' x1' S' hS hM hz
    obtain ⟨ok, hx⟩ := hz
    unfold KOA_X11_proof_75 at ok
    unfold KA_X11_proof_75 at hx
    have ok := xif_P (show (0 : Nat) = 0 from rfl) ok
    have hx := xif_p (show (0 : Nat) = 0 from rfl) hx
    exact cX.cutz (kb_X11_proof_122 hG hR hS hM  ok hx) trivial
  · intro x0' x1' S' hS hM t_x0 hz
    obtain ⟨ok, hx⟩ := hz
    unfold KOA_X11_proof_75 at ok
    unfold KA_X11_proof_75 at hx
    have ok := xif_N (show ¬ (1 : Nat) = 0 by decide) ok
    have hx := xif_n (show ¬ (1 : Nat) = 0 by decide) hx
    exact cX.cutz (kb_X11_proof_251 hG hR hS hM t_x0 ok hx) ⟨rfl, rfl, trivial⟩
def KF_X11_proof_72 (N g H T : Nat) (x0 : Nat) (x1 : Int32) (x2 : Int32) (x3 : Int32) (x4 : Nat) (S : cS) : Int32 × cS := (KA_X11_proof_75 N g H T x0 x1 x3 x4 x2 S (KL_X11_proof_75 N g H T N x0 x1 x3 x4 x2 S))
def KO_X11_proof_72 (N g H T : Nat) (x0 : Nat) (x1 : Int32) (x2 : Int32) (x3 : Int32) (x4 : Nat) (S : cS) : Prop := (KOL_X11_proof_75 N g H T N x0 x1 x3 x4 x2 S ∧ KOA_X11_proof_75 N g H T x0 x1 x3 x4 x2 S (KL_X11_proof_75 N g H T N x0 x1 x3 x4 x2 S))
set_option maxRecDepth 100000 in
set_option maxHeartbeats 4000000 in
theorem kb_X11_proof_72 {G : zG} {o : cO} {g H T N : Nat} {S : cS} {S0 : cS} {Q : Option Value → cS → Prop} {X : Int32 × cS → Prop} (hG : zOK G) (hR : ∀ v S', St 1 g H T S' → Mono S0 S' → X (v, S') → Q (some (.int v)) S') {x0 : Nat} {x1 : Int32} {x2 : Int32} {x3 : Int32} {x4 : Nat} (hS : St 1 g H T S) (hM : Mono S0 S) (t_x0 : isO g H 9 x0) (t_x4 : isO g H 2 x4) (ok : KO_X11_proof_72 N g H T x0 x1 x2 x3 x4 S) (hx : X (KF_X11_proof_72 N g H T x0 x1 x2 x3 x4 S)) : cX G o dX11_proof mX11_proof 72 [some (va_rf (some x0)), some (.int x1), some (.int x2), some (.int x3), some (va_rf (some x4)), none, none] [] S Q := by
  unfold KO_X11_proof_72 at ok
  unfold KF_X11_proof_72 at hx
  refine c_iload_n dX11_proof_72 rfl rfl ?_
  refine c_istore_5 dX11_proof_73 (by decide) (by simp [zok, zg, zcat_rf]) ?_
  exact cX.cutz (kd_X11_proof_75 hG hR hS hM t_x0 t_x4 ok hx) ⟨rfl, rfl, rfl, rfl, rfl, trivial⟩
def KF_X11_proof_62 (N g H T : Nat) (x0 : Nat) (x1 : Int32) (x2 : Int32) (x3 : Int32) (x4 : Nat) (S : cS) : Int32 × cS := (KF_X11_proof_72 N g H T x0 x1 x2 x3 x4 (k_X2_close N g H T S x4 (some (g + 2)) (nI 0)))
def KO_X11_proof_62 (N g H T : Nat) (x0 : Nat) (x1 : Int32) (x2 : Int32) (x3 : Int32) (x4 : Nat) (S : cS) : Prop := (p_X2_close N g H T S x4 (some (g + 2)) (nI 0)) ∧ KO_X11_proof_72 N g H T x0 x1 x2 x3 x4 (k_X2_close N g H T S x4 (some (g + 2)) (nI 0))
set_option maxRecDepth 100000 in
set_option maxHeartbeats 4000000 in
theorem kb_X11_proof_62 {G : zG} {o : cO} {g H T N : Nat} {S : cS} {S0 : cS} {Q : Option Value → cS → Prop} {X : Int32 × cS → Prop} (hG : zOK G) (hR : ∀ v S', St 1 g H T S' → Mono S0 S' → X (v, S') → Q (some (.int v)) S') {x0 : Nat} {x1 : Int32} {x2 : Int32} {x3 : Int32} {x4 : Nat} (hS : St 1 g H T S) (hM : Mono S0 S) (t_x0 : isO g H 9 x0) (t_x4 : isO g H 2 x4) (ok : KO_X11_proof_62 N g H T x0 x1 x2 x3 x4 S) (hx : X (KF_X11_proof_62 N g H T x0 x1 x2 x3 x4 S)) : cX G o dX11_proof mX11_proof 62 [some (va_rf (some x0)), some (.int x1), some (.int x2), some (.int x3), some (va_rf (some x4)), none, none] [] S Q := by
  unfold KO_X11_proof_62 at ok
  unfold KF_X11_proof_62 at hx
  refine c_aloadQ dX11_proof_62 rfl ?_
  refine c_aload_nQ dX11_proof_64 rfl rfl ?_
  refine c_getS (C := RX11) (T := TX11) (N := 4) (ci := 9) (k := 2) ⟨rfl, inT11, by decide, fX11_13⟩ (by decide) (by decide) (by decide) dX11_proof_65 (hS.k t_x0) (hS.r (c := 9) t_x0 rfl (by omega)) ?_
  refine c_iconst (v := nI 0) dX11_proof_68 (by decide) ?_
  refine c_V2vK (ci := 2) (rr := (RX2, TX2, 6)) (y' := mX2_close) dX11_proof_69 lX11_301 kX2_close ⟨by decide, by decide⟩ rfl rfl (by decide) (hS.k t_x4) (Nat.le_of_ble_eq_true rfl) (kc_X2_close hG hS t_x4 (hS.rk (c := 9) (k := 2) t_x0 rfl (by omega)) ok.1) (fun ⟨hS, hm_69⟩ => ?_)
  have hM := hM.trans hm_69
  have ok := ok.2
  exact cX.cutz (kb_X11_proof_72 hG hR hS hM t_x0 t_x4 ok hx) ⟨rfl, rfl, rfl, rfl, rfl, trivial⟩
def KF_X11_proof_50 (N g H T : Nat) (x0 : Nat) (x1 : Int32) (x2 : Int32) (x3 : Int32) (x4 : Nat) (S : cS) : Int32 × cS := (KF_X11_proof_62 N g H T x0 x1 x2 x3 x4 (k_X2_add_ N g H T S x4 (some (g + 1)) (nI 101) x2))
def KO_X11_proof_50 (N g H T : Nat) (x0 : Nat) (x1 : Int32) (x2 : Int32) (x3 : Int32) (x4 : Nat) (S : cS) : Prop := (p_X2_add_ N g H T S x4 (some (g + 1)) (nI 101) x2) ∧ KO_X11_proof_62 N g H T x0 x1 x2 x3 x4 (k_X2_add_ N g H T S x4 (some (g + 1)) (nI 101) x2)
set_option maxRecDepth 100000 in
set_option maxHeartbeats 4000000 in
theorem kb_X11_proof_50 {G : zG} {o : cO} {g H T N : Nat} {S : cS} {S0 : cS} {Q : Option Value → cS → Prop} {X : Int32 × cS → Prop} (hG : zOK G) (hR : ∀ v S', St 1 g H T S' → Mono S0 S' → X (v, S') → Q (some (.int v)) S') {x0 : Nat} {x1 : Int32} {x2 : Int32} {x3 : Int32} {x4 : Nat} (hS : St 1 g H T S) (hM : Mono S0 S) (t_x0 : isO g H 9 x0) (t_x4 : isO g H 2 x4) (ok : KO_X11_proof_50 N g H T x0 x1 x2 x3 x4 S) (hx : X (KF_X11_proof_50 N g H T x0 x1 x2 x3 x4 S)) : cX G o dX11_proof mX11_proof 50 [some (va_rf (some x0)), some (.int x1), some (.int x2), some (.int x3), some (va_rf (some x4)), none, none] [] S Q := by
  unfold KO_X11_proof_50 at ok
  unfold KF_X11_proof_50 at hx
  refine c_aloadQ dX11_proof_50 rfl ?_
  refine c_aload_nQ dX11_proof_52 rfl rfl ?_
  refine c_getS (C := RX11) (T := TX11) (N := 4) (ci := 9) (k := 1) ⟨rfl, inT11, by decide, fX11_9⟩ (by decide) (by decide) (by decide) dX11_proof_53 (hS.k t_x0) (hS.r (c := 9) t_x0 rfl (by omega)) ?_
  refine c_bipush (v := nI 101) dX11_proof_56 (by decide) ?_
  refine c_iload_n dX11_proof_58 rfl rfl ?_
  refine c_V3vK (ci := 2) (rr := (RX2, TX2, 6)) (y' := mX2_add_) dX11_proof_59 lX11_298 kX2_add_ ⟨by decide, by decide⟩ rfl rfl (by decide) (hS.k t_x4) (Nat.le_of_ble_eq_true rfl) (kc_X2_add_ hG hS t_x4 (hS.rk (c := 9) (k := 1) t_x0 rfl (by omega)) ok.1) (fun ⟨hS, hm_59⟩ => ?_)
  have hM := hM.trans hm_59
  have ok := ok.2
  exact cX.cutz (kb_X11_proof_62 hG hR hS hM t_x0 t_x4 ok hx) ⟨rfl, rfl, rfl, rfl, rfl, trivial⟩
def KF_X11_proof_44 (N g H T : Nat) (x0 : Nat) (x1 : Int32) (x2 : Int32) (x3 : Int32) (x4 : Nat) (S : cS) : Int32 × cS := (KF_X11_proof_50 N g H T x0 x1 x2 x3 x4 (k_X2_add N g H T S x4 (nI 0)))
def KO_X11_proof_44 (N g H T : Nat) (x0 : Nat) (x1 : Int32) (x2 : Int32) (x3 : Int32) (x4 : Nat) (S : cS) : Prop := (p_X2_add N g H T S x4 (nI 0)) ∧ KO_X11_proof_50 N g H T x0 x1 x2 x3 x4 (k_X2_add N g H T S x4 (nI 0))
set_option maxRecDepth 100000 in
set_option maxHeartbeats 4000000 in
theorem kb_X11_proof_44 {G : zG} {o : cO} {g H T N : Nat} {S : cS} {S0 : cS} {Q : Option Value → cS → Prop} {X : Int32 × cS → Prop} (hG : zOK G) (hR : ∀ v S', St 1 g H T S' → Mono S0 S' → X (v, S') → Q (some (.int v)) S') {x0 : Nat} {x1 : Int32} {x2 : Int32} {x3 : Int32} {x4 : Nat} (hS : St 1 g H T S) (hM : Mono S0 S) (t_x0 : isO g H 9 x0) (t_x4 : isO g H 2 x4) (ok : KO_X11_proof_44 N g H T x0 x1 x2 x3 x4 S) (hx : X (KF_X11_proof_44 N g H T x0 x1 x2 x3 x4 S)) : cX G o dX11_proof mX11_proof 44 [some (va_rf (some x0)), some (.int x1), some (.int x2), some (.int x3), some (va_rf (some x4)), none, none] [] S Q := by
  unfold KO_X11_proof_44 at ok
  unfold KF_X11_proof_44 at hx
  refine c_aloadQ dX11_proof_44 rfl ?_
  refine c_iconst (v := nI 0) dX11_proof_46 (by decide) ?_
  refine c_V1vK (ci := 2) (rr := (RX2, TX2, 6)) (y' := mX2_add) dX11_proof_47 lX11_295 kX2_add ⟨by decide, by decide⟩ rfl rfl (by decide) (hS.k t_x4) (Nat.le_of_ble_eq_true rfl) (kc_X2_add hG hS t_x4 ok.1) (fun ⟨hS, hm_47⟩ => ?_)
  have hM := hM.trans hm_47
  have ok := ok.2
  exact cX.cutz (kb_X11_proof_50 hG hR hS hM t_x0 t_x4 ok hx) ⟨rfl, rfl, rfl, rfl, rfl, trivial⟩
def KF_X11_proof_28 (N g H T : Nat)  (S : cS) : Int32 × cS := ((nI 0), S)
def KO_X11_proof_28 (N g H T : Nat)  (S : cS) : Prop := True
set_option maxRecDepth 100000 in
set_option maxHeartbeats 4000000 in
theorem kb_X11_proof_28 {G : zG} {o : cO} {g H T N : Nat} {S : cS} {S0 : cS} {Q : Option Value → cS → Prop} {X : Int32 × cS → Prop} (hG : zOK G) (hR : ∀ v S', St 1 g H T S' → Mono S0 S' → X (v, S') → Q (some (.int v)) S') (hS : St 1 g H T S) (hM : Mono S0 S) (ok : KO_X11_proof_28 N g H T S) (hx : X (KF_X11_proof_28 N g H T S)) : cX G o dX11_proof mX11_proof 28 [none, none, none, none, none, none, none] [] S Q := by
  unfold KO_X11_proof_28 at ok
  unfold KF_X11_proof_28 at hx
  refine c_iconst (v := nI 0) dX11_proof_28 (by decide) ?_
  exact c_ireturn rfl rfl dX11_proof_29 (hR _ _ hS hM hx)
def KF_X11_proof_0 (N g H T : Nat) (x0 : Nat) (x1 : Int32) (x2 : Int32) (x3 : Int32) (S : cS) : Int32 × cS := (if x1 < 0 then (KF_X11_proof_28 N g H T S) else (if (nI 1) < x1 then (KF_X11_proof_28 N g H T S) else (if x2 < (nI 102) then (KF_X11_proof_28 N g H T S) else (if x3 < x2 then (KF_X11_proof_28 N g H T S) else (if x3 ≤ (cI S 3 x0) then (KF_X11_proof_44 N g H T x0 x1 x2 x3 (g + 3) (k_X2_open N g H T S (g + 3))) else (KF_X11_proof_28 N g H T S))))))
def KO_X11_proof_0 (N g H T : Nat) (x0 : Nat) (x1 : Int32) (x2 : Int32) (x3 : Int32) (S : cS) : Prop := ((x1 < 0 → KO_X11_proof_28 N g H T S) ∧ (¬ x1 < 0 → (((nI 1) < x1 → KO_X11_proof_28 N g H T S) ∧ (¬ (nI 1) < x1 → ((x2 < (nI 102) → KO_X11_proof_28 N g H T S) ∧ (¬ x2 < (nI 102) → ((x3 < x2 → KO_X11_proof_28 N g H T S) ∧ (¬ x3 < x2 → ((x3 ≤ (cI S 3 x0) → (p_X2_open N g H T S (g + 3)) ∧ KO_X11_proof_44 N g H T x0 x1 x2 x3 (g + 3) (k_X2_open N g H T S (g + 3))) ∧ (¬ x3 ≤ (cI S 3 x0) → KO_X11_proof_28 N g H T S))))))))))
set_option maxRecDepth 100000 in
set_option maxHeartbeats 4000000 in
theorem kb_X11_proof_0 {G : zG} {o : cO} {g H T N : Nat} {S : cS} {S0 : cS} {Q : Option Value → cS → Prop} {X : Int32 × cS → Prop} (hG : zOK G) (hR : ∀ v S', St 1 g H T S' → Mono S0 S' → X (v, S') → Q (some (.int v)) S') {x0 : Nat} {x1 : Int32} {x2 : Int32} {x3 : Int32} (hS : St 1 g H T S) (hM : Mono S0 S) (t_x0 : isO g H 9 x0) (ok : KO_X11_proof_0 N g H T x0 x1 x2 x3 S) (hx : X (KF_X11_proof_0 N g H T x0 x1 x2 x3 S)) : cX G o dX11_proof mX11_proof 0 [some (va_rf (some x0)), some (.int x1), some (.int x2), some (.int x3), none, none, none] [] S Q := by
  unfold KO_X11_proof_0 at ok
  unfold KF_X11_proof_0 at hx
  refine c_iload_n dX11_proof_0 rfl rfl ?_
  refine c_if_lt (tgt := 28) dX11_proof_1 (by decide) (fun c_1 => ?_) (fun c_1 => ?_)
  · have ok := ok.1 c_1
    have hx := xif_p c_1 hx
    exact cX.cutz (kb_X11_proof_28 hG hR hS hM  ok hx) trivial
  · have ok := ok.2 c_1
    have hx := xif_n c_1 hx
    refine c_iload_n dX11_proof_4 rfl rfl ?_
    refine c_iconst (v := nI 1) dX11_proof_5 (by decide) ?_
    refine c_icmp_gt (tgt := 28) dX11_proof_6 (by decide) (fun c_6 => ?_) (fun c_6 => ?_)
    · have ok := ok.1 c_6
      have hx := xif_p c_6 hx
      exact cX.cutz (kb_X11_proof_28 hG hR hS hM  ok hx) trivial
    · have ok := ok.2 c_6
      have hx := xif_n c_6 hx
      refine c_iload_n dX11_proof_9 rfl rfl ?_
      refine c_bipush (v := nI 102) dX11_proof_10 (by decide) ?_
      refine c_icmp_lt (tgt := 28) dX11_proof_12 (by decide) (fun c_12 => ?_) (fun c_12 => ?_)
      · have ok := ok.1 c_12
        have hx := xif_p c_12 hx
        exact cX.cutz (kb_X11_proof_28 hG hR hS hM  ok hx) trivial
      · have ok := ok.2 c_12
        have hx := xif_n c_12 hx
        refine c_iload_n dX11_proof_15 rfl rfl ?_
        refine c_iload_n dX11_proof_16 rfl rfl ?_
        refine c_icmp_lt (tgt := 28) dX11_proof_17 (by decide) (fun c_17 => ?_) (fun c_17 => ?_)
        · have ok := ok.1 c_17
          have hx := xif_p c_17 hx
          exact cX.cutz (kb_X11_proof_28 hG hR hS hM  ok hx) trivial
        · have ok := ok.2 c_17
          have hx := xif_n c_17 hx
          refine c_iload_n dX11_proof_20 rfl rfl ?_
          refine c_aload_nQ dX11_proof_21 rfl rfl ?_
          refine c_getI (C := RX11) (T := TX11) (N := 4) (ci := 9) (k := 3) ⟨rfl, inT11, by decide, fX11_26⟩ (by decide) (by decide) (by decide) dX11_proof_22 (hS.k t_x0) ?_
          refine c_icmp_le (tgt := 30) dX11_proof_25 (by decide) (fun c_25 => ?_) (fun c_25 => ?_)
          · have ok := ok.1 c_25
            have hx := xif_p c_25 hx
            refine c_aload_nQ dX11_proof_30 rfl rfl ?_
            refine c_getS (C := RX11) (T := TX11) (N := 4) (ci := 9) (k := 0) ⟨rfl, inT11, by decide, fX11_22⟩ (by decide) (by decide) (by decide) dX11_proof_31 (hS.k t_x0) (hS.r (c := 9) t_x0 rfl (by omega)) ?_
            refine c_getS (C := RX10) (T := TX10) (N := 12) (ci := 8) (k := 5) ⟨rfl, inT10, by decide, fX11_103⟩ (by decide) (by decide) (by decide) dX11_proof_34 (hS.k (o90 t_x0)) (hS.r (c := 8) (o90 t_x0) rfl (by omega)) ?_
            refine c_astore_4Q dX11_proof_37 (by decide) rfl ?_
            refine c_aloadQ dX11_proof_39 rfl ?_
            refine c_V0vK (ci := 2) (rr := (RX2, TX2, 6)) (y' := mX2_open) dX11_proof_41 lX11_292 kX2_open ⟨by decide, by decide⟩ rfl rfl (by decide) (hS.k (o85 (o90 t_x0))) (Nat.le_of_ble_eq_true rfl) (kc_X2_open hG hS (o85 (o90 t_x0)) ok.1) (fun ⟨hS, hm_41⟩ => ?_)
            have hM := hM.trans hm_41
            have ok := ok.2
            exact cX.cutz (kb_X11_proof_44 hG hR hS hM t_x0 (o85 (o90 t_x0)) ok hx) ⟨rfl, rfl, rfl, rfl, rfl, trivial⟩
          · have ok := ok.2 c_25
            have hx := xif_n c_25 hx
            exact cX.cutz (kb_X11_proof_28 hG hR hS hM  ok hx) trivial
def k_X11_proof (N g H T : Nat) (S : cS) (a0 : Nat) (x1 : Int32) (x2 : Int32) (x3 : Int32) : Int32 × cS := KF_X11_proof_0 N g H T a0 x1 x2 x3 S
def p_X11_proof (N g H T : Nat) (S : cS) (a0 : Nat) (x1 : Int32) (x2 : Int32) (x3 : Int32) : Prop := KO_X11_proof_0 N g H T a0 x1 x2 x3 S
set_option maxRecDepth 100000 in
set_option maxHeartbeats 4000000 in
theorem kc_X11_proof {G : zG} {o : cO} {g H T N : Nat} {S : cS} (hG : zOK G) {a0 : Nat} {x1 : Int32} {x2 : Int32} {x3 : Int32} (hS : St 1 g H T S) (t_x0 : isO g H 9 a0) (ok : p_X11_proof N g H T S a0 x1 x2 x3) : cCi G o dX11_proof mX11_proof [.ref a0, .int x1, .int x2, .int x3] S (fun v S' => (v = (k_X11_proof N g H T S a0 x1 x2 x3).1 ∧ S' = (k_X11_proof N g H T S a0 x1 x2 x3).2) ∧ St 1 g H T S' ∧ Mono S S') := by
  refine cC.ofX rfl (by exact Nat.le_of_ble_eq_true rfl) ?_
  show cX G o dX11_proof mX11_proof 0 [some (va_rf (some a0)), some (.int x1), some (.int x2), some (.int x3), none, none, none] [] S _
  exact cX.cutz (kb_X11_proof_0 (X := fun F => F = k_X11_proof N g H T S a0 x1 x2 x3) hG (fun v S' h1 h2 h => ⟨v, rfl, ⟨by rw [← h], by rw [← h]⟩, h1, h2⟩) hS Mono.rfl' t_x0 ok rfl) ⟨rfl, rfl, rfl, rfl, trivial⟩
/-! X11_balance -/
def KF_X11_balance_33 (N g H T : Nat) (s0 : Int32) (S : cS) : Int32 := s0
def KO_X11_balance_33 (N g H T : Nat) (s0 : Int32) (S : cS) : Prop := True
set_option maxRecDepth 100000 in
set_option maxHeartbeats 4000000 in
theorem kb_X11_balance_33 {G : zG} {o : cO} {g H T N : Nat} {S : cS} {Q : Option Value → cS → Prop} {X : Int32 → Prop} (hG : zOK G) (hR : ∀ v, X v → Q (some (.int v)) S) {s0 : Int32} (hS : St 1 g H T S) (ok : KO_X11_balance_33 N g H T s0 S) (hx : X (KF_X11_balance_33 N g H T s0 S)) : cX G o dX11_balance mX11_balance 33 [none, none, none, none] [.int s0] S Q := by
  unfold KO_X11_balance_33 at ok
  unfold KF_X11_balance_33 at hx
  exact c_ireturn rfl rfl dX11_balance_33 (hR _ hx)
def KF_X11_balance_20 (N g H T : Nat)  (S : cS) : Int32 := (KF_X11_balance_33 N g H T (-1) S)
def KO_X11_balance_20 (N g H T : Nat)  (S : cS) : Prop := KO_X11_balance_33 N g H T (-1) S
set_option maxRecDepth 100000 in
set_option maxHeartbeats 4000000 in
theorem kb_X11_balance_20 {G : zG} {o : cO} {g H T N : Nat} {S : cS} {Q : Option Value → cS → Prop} {X : Int32 → Prop} (hG : zOK G) (hR : ∀ v, X v → Q (some (.int v)) S) (hS : St 1 g H T S) (ok : KO_X11_balance_20 N g H T S) (hx : X (KF_X11_balance_20 N g H T S)) : cX G o dX11_balance mX11_balance 20 [none, none, none, none] [] S Q := by
  unfold KO_X11_balance_20 at ok
  unfold KF_X11_balance_20 at hx
  refine c_iconst (v := -1) dX11_balance_20 (by decide) ?_
  refine c_goto (tgt := 33) dX11_balance_21 (by decide) ?_
  exact cX.cutz (kb_X11_balance_33 hG hR hS  ok hx) trivial
def KF_X11_balance_0 (N g H T : Nat) (x0 : Nat) (x1 : Int32) (x2 : Int32) (S : cS) : Int32 := (if (k_X11_honestNode N g H T S x0 x1) = none then (KF_X11_balance_20 N g H T S) else (if x2 < 0 then (KF_X11_balance_20 N g H T S) else (if x2 < (nI 16) then (KF_X11_balance_33 N g H T (cA S (((za (k_X11_honestNode N g H T S x0 x1)) + 6) + 1) x2.toNatClampNeg) S) else (KF_X11_balance_20 N g H T S))))
def KO_X11_balance_0 (N g H T : Nat) (x0 : Nat) (x1 : Int32) (x2 : Int32) (S : cS) : Prop := (p_X11_honestNode N g H T S x0 x1) ∧ (((k_X11_honestNode N g H T S x0 x1) = none → KO_X11_balance_20 N g H T S) ∧ (¬ (k_X11_honestNode N g H T S x0 x1) = none → ((x2 < 0 → KO_X11_balance_20 N g H T S) ∧ (¬ x2 < 0 → ((x2 < (nI 16) → (vp_in x2 16) ∧ KO_X11_balance_33 N g H T (cA S (((za (k_X11_honestNode N g H T S x0 x1)) + 6) + 1) x2.toNatClampNeg) S) ∧ (¬ x2 < (nI 16) → KO_X11_balance_20 N g H T S))))))
set_option maxRecDepth 100000 in
set_option maxHeartbeats 4000000 in
theorem kb_X11_balance_0 {G : zG} {o : cO} {g H T N : Nat} {S : cS} {Q : Option Value → cS → Prop} {X : Int32 → Prop} (hG : zOK G) (hR : ∀ v, X v → Q (some (.int v)) S) {x0 : Nat} {x1 : Int32} {x2 : Int32} (hS : St 1 g H T S) (t_x0 : isO g H 9 x0) (ok : KO_X11_balance_0 N g H T x0 x1 x2 S) (hx : X (KF_X11_balance_0 N g H T x0 x1 x2 S)) : cX G o dX11_balance mX11_balance 0 [some (va_rf (some x0)), some (.int x1), some (.int x2), none] [] S Q := by
  unfold KO_X11_balance_0 at ok
  unfold KF_X11_balance_0 at hx
  refine c_aload_nQ dX11_balance_0 rfl rfl ?_
  refine c_iload_n dX11_balance_1 rfl rfl ?_
  refine c_V1qK (ci := 9) (rr := (RX11, TX11, 4)) (y' := mX11_honestNode) dX11_balance_2 lX11_120 kX11_honestNode ⟨by decide, by decide⟩ rfl rfl (by decide) (hS.k t_x0) (Nat.le_of_ble_eq_true rfl) (kc_X11_honestNode hG hS t_x0 ok.1) (fun tv_2 => ?_)
  have ok := ok.2
  refine c_astore_3Q dX11_balance_5 (by decide) rfl ?_
  refine c_aload_nQ dX11_balance_6 rfl rfl ?_
  refine c_ifnullI (tgt := 20) dX11_balance_7 (by decide) (fun c_7 => ?_) (fun c_7 => ?_)
  · have ok := ok.1 c_7
    have hx := xif_p c_7 hx
    exact cX.cutz (kb_X11_balance_20 hG hR hS  ok hx) trivial
  · have ok := ok.2 c_7
    have hx := xif_n c_7 hx
    refine c_iload_n dX11_balance_10 rfl rfl ?_
    refine c_if_lt (tgt := 20) dX11_balance_11 (by decide) (fun c_11 => ?_) (fun c_11 => ?_)
    · have ok := ok.1 c_11
      have hx := xif_p c_11 hx
      exact cX.cutz (kb_X11_balance_20 hG hR hS  ok hx) trivial
    · have ok := ok.2 c_11
      have hx := xif_n c_11 hx
      refine c_iload_n dX11_balance_14 rfl rfl ?_
      refine c_bipush (v := nI 16) dX11_balance_15 (by decide) ?_
      refine c_icmp_lt (tgt := 24) dX11_balance_17 (by decide) (fun c_17 => ?_) (fun c_17 => ?_)
      · have ok := ok.1 c_17
        have hx := xif_p c_17 hx
        refine c_aload_nQ dX11_balance_24 rfl rfl ?_
        refine c_getS (C := RX6) (T := TX6) (N := 19) (ci := 5) (k := 4) ⟨rfl, inT6, by decide, fX11_129⟩ (by decide) (by decide) (by decide) dX11_balance_25 (hS.kN tv_2 c_7) (hS.r (c := 5) (tN.o tv_2 c_7) rfl (by omega)) ?_
        refine c_getS (C := RX0) (T := TX0) (N := 6) (ci := 0) (k := 0) ⟨rfl, inT0, by decide, fX11_308⟩ (by decide) (by decide) (by decide) dX11_balance_28 (hS.k (o54 (tN.o tv_2 c_7))) (hS.r (c := 0) (o54 (tN.o tv_2 c_7)) rfl (by omega)) ?_
        refine c_iload_n dX11_balance_31 rfl rfl ?_
        refine c_iald dX11_balance_32 ⟨(tK.cis (hS.rk (c := 0) (k := 0) (o54 (tN.o tv_2 c_7)) rfl (by omega)) (Option.some_ne_none _)), (vk_cast (hS.rl (c := 0) (k := 0) (o54 (tN.o tv_2 c_7)) rfl (by decide) (by omega)) ok.1)⟩ ?_
        have ok := ok.2
        exact cX.cutz (kb_X11_balance_33 hG hR hS  ok hx) trivial
      · have ok := ok.2 c_17
        have hx := xif_n c_17 hx
        exact cX.cutz (kb_X11_balance_20 hG hR hS  ok hx) trivial
def k_X11_balance (N g H T : Nat) (S : cS) (a0 : Nat) (x1 : Int32) (x2 : Int32) : Int32 := KF_X11_balance_0 N g H T a0 x1 x2 S
def p_X11_balance (N g H T : Nat) (S : cS) (a0 : Nat) (x1 : Int32) (x2 : Int32) : Prop := KO_X11_balance_0 N g H T a0 x1 x2 S
set_option maxRecDepth 100000 in
set_option maxHeartbeats 4000000 in
theorem kc_X11_balance {G : zG} {o : cO} {g H T N : Nat} {S : cS} (hG : zOK G) {a0 : Nat} {x1 : Int32} {x2 : Int32} (hS : St 1 g H T S) (t_x0 : isO g H 9 a0) (ok : p_X11_balance N g H T S a0 x1 x2) : cCi G o dX11_balance mX11_balance [.ref a0, .int x1, .int x2] S (fun v S' => (v = k_X11_balance N g H T S a0 x1 x2 ∧ S' = S)) := by
  refine cC.ofX rfl (by exact Nat.le_of_ble_eq_true rfl) ?_
  show cX G o dX11_balance mX11_balance 0 [some (va_rf (some a0)), some (.int x1), some (.int x2), none] [] S _
  exact cX.cutz (kb_X11_balance_0 (X := fun F => F = k_X11_balance N g H T S a0 x1 x2) hG (fun v h => ⟨v, rfl, h, rfl⟩) hS t_x0 ok rfl) ⟨rfl, rfl, rfl, trivial⟩
/-! X11_count -/
def KF_X11_count_0 (N g H T : Nat) (x0 : Nat) (x1 : Int32) (S : cS) : Int32 := (if x1 = nI 0 then (cI S 9 (g + 11)) else (if x1 = nI 1 then (cI S 1 (g + 8)) else (if x1 = nI 2 then (cI S 10 (g + 11)) else (if x1 = nI 3 then (cI S 11 (g + 11)) else (if x1 = nI 4 then (cI S 12 (g + 11)) else (if x1 = nI 5 then (cI S 3 x0) else (if x1 = nI 6 then ((cI S 1 (g + 8)) - (cI S 2 (g + 8))) else (-1))))))))
def KO_X11_count_0 (N g H T : Nat) (x0 : Nat) (x1 : Int32) (S : cS) : Prop := ((x1 = nI 0 → True) ∧ (¬ x1 = nI 0 → ((x1 = nI 1 → True) ∧ (¬ x1 = nI 1 → ((x1 = nI 2 → True) ∧ (¬ x1 = nI 2 → ((x1 = nI 3 → True) ∧ (¬ x1 = nI 3 → ((x1 = nI 4 → True) ∧ (¬ x1 = nI 4 → ((x1 = nI 5 → True) ∧ (¬ x1 = nI 5 → ((x1 = nI 6 → True) ∧ (¬ x1 = nI 6 → True))))))))))))))
set_option maxRecDepth 100000 in
set_option maxHeartbeats 4000000 in
theorem kb_X11_count_0 {G : zG} {o : cO} {g H T N : Nat} {S : cS} {Q : Option Value → cS → Prop} {X : Int32 → Prop} (hG : zOK G) (hR : ∀ v, X v → Q (some (.int v)) S) {x0 : Nat} {x1 : Int32} (hS : St 1 g H T S) (t_x0 : isO g H 9 x0) (ok : KO_X11_count_0 N g H T x0 x1 S) (hx : X (KF_X11_count_0 N g H T x0 x1 S)) : cX G o dX11_count mX11_count 0 [some (va_rf (some x0)), some (.int x1)] [] S Q := by
  unfold KO_X11_count_0 at ok
  unfold KF_X11_count_0 at hx
  refine c_iload_n dX11_count_0 rfl rfl ?_
  by_cases c_1_0 : x1 = nI 0
  · have ok := ok.1 c_1_0
    have hx := xif_p c_1_0 hx
    refine c_tableIn (off := 43) (tgt := 44) dX11_count_1 (by rw [c_1_0]; decide) (by rw [c_1_0]; decide) (by rw [c_1_0]; rfl) (by decide) ?_
    refine c_aload_nQ dX11_count_44 rfl rfl ?_
    refine c_getS (C := RX11) (T := TX11) (N := 4) (ci := 9) (k := 0) ⟨rfl, inT11, by decide, fX11_22⟩ (by decide) (by decide) (by decide) dX11_count_45 (hS.k t_x0) (hS.r (c := 9) t_x0 rfl (by omega)) ?_
    refine c_getS (C := RX10) (T := TX10) (N := 12) (ci := 8) (k := 6) ⟨rfl, inT10, by decide, fX11_38⟩ (by decide) (by decide) (by decide) dX11_count_48 (hS.k (o90 t_x0)) (hS.r (c := 8) (o90 t_x0) rfl (by omega)) ?_
    refine c_getI (C := RX9) (T := TX9) (N := 13) (ci := 7) (k := 9) ⟨rfl, inT9, by decide, fX11_312⟩ (by decide) (by decide) (by decide) dX11_count_51 (hS.k (o86 (o90 t_x0))) ?_
    exact c_ireturn rfl rfl dX11_count_54 (hR _ hx)
  · have ok := ok.2 c_1_0
    have hx := xif_n c_1_0 hx
    by_cases c_1_1 : x1 = nI 1
    · have ok := ok.1 c_1_1
      have hx := xif_p c_1_1 hx
      refine c_tableIn (off := 54) (tgt := 55) dX11_count_1 (by rw [c_1_1]; decide) (by rw [c_1_1]; decide) (by rw [c_1_1]; rfl) (by decide) ?_
      refine c_aload_nQ dX11_count_55 rfl rfl ?_
      refine c_getS (C := RX11) (T := TX11) (N := 4) (ci := 9) (k := 0) ⟨rfl, inT11, by decide, fX11_22⟩ (by decide) (by decide) (by decide) dX11_count_56 (hS.k t_x0) (hS.r (c := 9) t_x0 rfl (by omega)) ?_
      refine c_getI (C := RX10) (T := TX10) (N := 12) (ci := 8) (k := 1) ⟨rfl, inT10, by decide, fX11_87⟩ (by decide) (by decide) (by decide) dX11_count_59 (hS.k (o90 t_x0)) ?_
      exact c_ireturn rfl rfl dX11_count_62 (hR _ hx)
    · have ok := ok.2 c_1_1
      have hx := xif_n c_1_1 hx
      by_cases c_1_2 : x1 = nI 2
      · have ok := ok.1 c_1_2
        have hx := xif_p c_1_2 hx
        refine c_tableIn (off := 62) (tgt := 63) dX11_count_1 (by rw [c_1_2]; decide) (by rw [c_1_2]; decide) (by rw [c_1_2]; rfl) (by decide) ?_
        refine c_aload_nQ dX11_count_63 rfl rfl ?_
        refine c_getS (C := RX11) (T := TX11) (N := 4) (ci := 9) (k := 0) ⟨rfl, inT11, by decide, fX11_22⟩ (by decide) (by decide) (by decide) dX11_count_64 (hS.k t_x0) (hS.r (c := 9) t_x0 rfl (by omega)) ?_
        refine c_getS (C := RX10) (T := TX10) (N := 12) (ci := 8) (k := 6) ⟨rfl, inT10, by decide, fX11_38⟩ (by decide) (by decide) (by decide) dX11_count_67 (hS.k (o90 t_x0)) (hS.r (c := 8) (o90 t_x0) rfl (by omega)) ?_
        refine c_getI (C := RX9) (T := TX9) (N := 13) (ci := 7) (k := 10) ⟨rfl, inT9, by decide, fX11_315⟩ (by decide) (by decide) (by decide) dX11_count_70 (hS.k (o86 (o90 t_x0))) ?_
        exact c_ireturn rfl rfl dX11_count_73 (hR _ hx)
      · have ok := ok.2 c_1_2
        have hx := xif_n c_1_2 hx
        by_cases c_1_3 : x1 = nI 3
        · have ok := ok.1 c_1_3
          have hx := xif_p c_1_3 hx
          refine c_tableIn (off := 73) (tgt := 74) dX11_count_1 (by rw [c_1_3]; decide) (by rw [c_1_3]; decide) (by rw [c_1_3]; rfl) (by decide) ?_
          refine c_aload_nQ dX11_count_74 rfl rfl ?_
          refine c_getS (C := RX11) (T := TX11) (N := 4) (ci := 9) (k := 0) ⟨rfl, inT11, by decide, fX11_22⟩ (by decide) (by decide) (by decide) dX11_count_75 (hS.k t_x0) (hS.r (c := 9) t_x0 rfl (by omega)) ?_
          refine c_getS (C := RX10) (T := TX10) (N := 12) (ci := 8) (k := 6) ⟨rfl, inT10, by decide, fX11_38⟩ (by decide) (by decide) (by decide) dX11_count_78 (hS.k (o90 t_x0)) (hS.r (c := 8) (o90 t_x0) rfl (by omega)) ?_
          refine c_getI (C := RX9) (T := TX9) (N := 13) (ci := 7) (k := 11) ⟨rfl, inT9, by decide, fX11_318⟩ (by decide) (by decide) (by decide) dX11_count_81 (hS.k (o86 (o90 t_x0))) ?_
          exact c_ireturn rfl rfl dX11_count_84 (hR _ hx)
        · have ok := ok.2 c_1_3
          have hx := xif_n c_1_3 hx
          by_cases c_1_4 : x1 = nI 4
          · have ok := ok.1 c_1_4
            have hx := xif_p c_1_4 hx
            refine c_tableIn (off := 84) (tgt := 85) dX11_count_1 (by rw [c_1_4]; decide) (by rw [c_1_4]; decide) (by rw [c_1_4]; rfl) (by decide) ?_
            refine c_aload_nQ dX11_count_85 rfl rfl ?_
            refine c_getS (C := RX11) (T := TX11) (N := 4) (ci := 9) (k := 0) ⟨rfl, inT11, by decide, fX11_22⟩ (by decide) (by decide) (by decide) dX11_count_86 (hS.k t_x0) (hS.r (c := 9) t_x0 rfl (by omega)) ?_
            refine c_getS (C := RX10) (T := TX10) (N := 12) (ci := 8) (k := 6) ⟨rfl, inT10, by decide, fX11_38⟩ (by decide) (by decide) (by decide) dX11_count_89 (hS.k (o90 t_x0)) (hS.r (c := 8) (o90 t_x0) rfl (by omega)) ?_
            refine c_getI (C := RX9) (T := TX9) (N := 13) (ci := 7) (k := 12) ⟨rfl, inT9, by decide, fX11_319⟩ (by decide) (by decide) (by decide) dX11_count_92 (hS.k (o86 (o90 t_x0))) ?_
            exact c_ireturn rfl rfl dX11_count_95 (hR _ hx)
          · have ok := ok.2 c_1_4
            have hx := xif_n c_1_4 hx
            by_cases c_1_5 : x1 = nI 5
            · have ok := ok.1 c_1_5
              have hx := xif_p c_1_5 hx
              refine c_tableIn (off := 95) (tgt := 96) dX11_count_1 (by rw [c_1_5]; decide) (by rw [c_1_5]; decide) (by rw [c_1_5]; rfl) (by decide) ?_
              refine c_aload_nQ dX11_count_96 rfl rfl ?_
              refine c_getI (C := RX11) (T := TX11) (N := 4) (ci := 9) (k := 3) ⟨rfl, inT11, by decide, fX11_26⟩ (by decide) (by decide) (by decide) dX11_count_97 (hS.k t_x0) ?_
              exact c_ireturn rfl rfl dX11_count_100 (hR _ hx)
            · have ok := ok.2 c_1_5
              have hx := xif_n c_1_5 hx
              by_cases c_1_6 : x1 = nI 6
              · have ok := ok.1 c_1_6
                have hx := xif_p c_1_6 hx
                refine c_tableIn (off := 100) (tgt := 101) dX11_count_1 (by rw [c_1_6]; decide) (by rw [c_1_6]; decide) (by rw [c_1_6]; rfl) (by decide) ?_
                refine c_aload_nQ dX11_count_101 rfl rfl ?_
                refine c_getS (C := RX11) (T := TX11) (N := 4) (ci := 9) (k := 0) ⟨rfl, inT11, by decide, fX11_22⟩ (by decide) (by decide) (by decide) dX11_count_102 (hS.k t_x0) (hS.r (c := 9) t_x0 rfl (by omega)) ?_
                refine c_getI (C := RX10) (T := TX10) (N := 12) (ci := 8) (k := 1) ⟨rfl, inT10, by decide, fX11_87⟩ (by decide) (by decide) (by decide) dX11_count_105 (hS.k (o90 t_x0)) ?_
                refine c_aload_nQ dX11_count_108 rfl rfl ?_
                refine c_getS (C := RX11) (T := TX11) (N := 4) (ci := 9) (k := 0) ⟨rfl, inT11, by decide, fX11_22⟩ (by decide) (by decide) (by decide) dX11_count_109 (hS.k t_x0) (hS.r (c := 9) t_x0 rfl (by omega)) ?_
                refine c_getI (C := RX10) (T := TX10) (N := 12) (ci := 8) (k := 2) ⟨rfl, inT10, by decide, fX11_69⟩ (by decide) (by decide) (by decide) dX11_count_112 (hS.k (o90 t_x0)) ?_
                refine c_isub dX11_count_115 ?_
                exact c_ireturn rfl rfl dX11_count_116 (hR _ hx)
              · have ok := ok.2 c_1_6
                have hx := xif_n c_1_6 hx
                refine c_tableOut (tgt := 117) dX11_count_1 (zsw 7 (by intro k hk; rcases (show k = 0 ∨ k = 1 ∨ k = 2 ∨ k = 3 ∨ k = 4 ∨ k = 5 ∨ k = 6 by omega) with rfl | rfl | rfl | rfl | rfl | rfl | rfl <;> assumption) (by decide) (by decide)) (by decide) ?_
                refine c_iconst (v := -1) dX11_count_117 (by decide) ?_
                exact c_ireturn rfl rfl dX11_count_118 (hR _ hx)
def k_X11_count (N g H T : Nat) (S : cS) (a0 : Nat) (x1 : Int32) : Int32 := KF_X11_count_0 N g H T a0 x1 S
def p_X11_count (N g H T : Nat) (S : cS) (a0 : Nat) (x1 : Int32) : Prop := KO_X11_count_0 N g H T a0 x1 S
set_option maxRecDepth 100000 in
set_option maxHeartbeats 4000000 in
theorem kc_X11_count {G : zG} {o : cO} {g H T N : Nat} {S : cS} (hG : zOK G) {a0 : Nat} {x1 : Int32} (hS : St 1 g H T S) (t_x0 : isO g H 9 a0) (ok : p_X11_count N g H T S a0 x1) : cCi G o dX11_count mX11_count [.ref a0, .int x1] S (fun v S' => (v = k_X11_count N g H T S a0 x1 ∧ S' = S)) := by
  refine cC.ofX rfl (by exact Nat.le_of_ble_eq_true rfl) ?_
  show cX G o dX11_count mX11_count 0 [some (va_rf (some a0)), some (.int x1)] [] S _
  exact cX.cutz (kb_X11_count_0 (X := fun F => F = k_X11_count N g H T S a0 x1) hG (fun v h => ⟨v, rfl, h, rfl⟩) hS t_x0 ok rfl) ⟨rfl, rfl, trivial⟩

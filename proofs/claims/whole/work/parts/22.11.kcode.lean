/-! X3_receive -/
def KF_X3_receive_285 (N g H T : Nat) (s0 : Int32) (S : cS) : Int32 × cS := (s0, S)
def KO_X3_receive_285 (N g H T : Nat) (s0 : Int32) (S : cS) : Prop := narrow .boolean (.int s0) = .int s0
set_option maxRecDepth 100000 in
set_option maxHeartbeats 4000000 in
theorem kb_X3_receive_285 {G : zG} {o : cO} {u g H T N : Nat} {S : cS} {S0 : cS} {Q : Option Value → cS → Prop} {X : Int32 × cS → Prop} (hG : zOK G) (hR : ∀ v S', St u g H T S' → Mono S0 S' → X (v, S') → Q (some (.int v)) S') {s0 : Int32} (hS : St u g H T S) (hM : Mono S0 S) (ok : KO_X3_receive_285 N g H T s0 S) (hx : X (KF_X3_receive_285 N g H T s0 S)) : cX G o dX3_receive mX3_receive 285 [none, none, none, none, none, none, none] [.int s0] S Q := by
  unfold KO_X3_receive_285 at ok
  unfold KF_X3_receive_285 at hx
  exact c_ireturn rfl ok dX3_receive_285 (hR _ _ hS hM hx)
def KF_X3_receive_284 (N g H T : Nat)  (S : cS) : Int32 × cS := (KF_X3_receive_285 N g H T (nI 0) S)
def KO_X3_receive_284 (N g H T : Nat)  (S : cS) : Prop := KO_X3_receive_285 N g H T (nI 0) S
set_option maxRecDepth 100000 in
set_option maxHeartbeats 4000000 in
theorem kb_X3_receive_284 {G : zG} {o : cO} {u g H T N : Nat} {S : cS} {S0 : cS} {Q : Option Value → cS → Prop} {X : Int32 × cS → Prop} (hG : zOK G) (hR : ∀ v S', St u g H T S' → Mono S0 S' → X (v, S') → Q (some (.int v)) S') (hS : St u g H T S) (hM : Mono S0 S) (ok : KO_X3_receive_284 N g H T S) (hx : X (KF_X3_receive_284 N g H T S)) : cX G o dX3_receive mX3_receive 284 [none, none, none, none, none, none, none] [] S Q := by
  unfold KO_X3_receive_284 at ok
  unfold KF_X3_receive_284 at hx
  refine c_iconst (v := nI 0) dX3_receive_284 (by decide) ?_
  exact cX.cutz (kb_X3_receive_285 hG hR hS hM  ok hx) trivial
def KF_X3_receive_277 (N g H T : Nat) (s0 : Int32) (S : cS) : Int32 × cS := (if s0 = 0 then (KF_X3_receive_284 N g H T S) else (KF_X3_receive_285 N g H T (nI 1) S))
def KO_X3_receive_277 (N g H T : Nat) (s0 : Int32) (S : cS) : Prop := ((s0 = 0 → KO_X3_receive_284 N g H T S) ∧ (¬ s0 = 0 → KO_X3_receive_285 N g H T (nI 1) S))
set_option maxRecDepth 100000 in
set_option maxHeartbeats 4000000 in
theorem kb_X3_receive_277 {G : zG} {o : cO} {u g H T N : Nat} {S : cS} {S0 : cS} {Q : Option Value → cS → Prop} {X : Int32 × cS → Prop} (hG : zOK G) (hR : ∀ v S', St u g H T S' → Mono S0 S' → X (v, S') → Q (some (.int v)) S') {s0 : Int32} (hS : St u g H T S) (hM : Mono S0 S) (ok : KO_X3_receive_277 N g H T s0 S) (hx : X (KF_X3_receive_277 N g H T s0 S)) : cX G o dX3_receive mX3_receive 277 [none, none, none, none, none, none, none] [.int s0] S Q := by
  unfold KO_X3_receive_277 at ok
  unfold KF_X3_receive_277 at hx
  refine c_if_eq (tgt := 284) dX3_receive_277 (by decide) (fun c_277 => ?_) (fun c_277 => ?_)
  · have ok := ok.1 c_277
    have hx := xif_p c_277 hx
    exact cX.cutz (kb_X3_receive_284 hG hR hS hM  ok hx) trivial
  · have ok := ok.2 c_277
    have hx := xif_n c_277 hx
    refine c_iconst (v := nI 1) dX3_receive_280 (by decide) ?_
    refine c_goto (tgt := 285) dX3_receive_281 (by decide) ?_
    exact cX.cutz (kb_X3_receive_285 hG hR hS hM  ok hx) trivial
def KF_X3_receive_259 (N g H T : Nat) (s0 : Int32) (S : cS) : Int32 × cS := (s0, S)
def KO_X3_receive_259 (N g H T : Nat) (s0 : Int32) (S : cS) : Prop := narrow .boolean (.int s0) = .int s0
set_option maxRecDepth 100000 in
set_option maxHeartbeats 4000000 in
theorem kb_X3_receive_259 {G : zG} {o : cO} {u g H T N : Nat} {S : cS} {S0 : cS} {Q : Option Value → cS → Prop} {X : Int32 × cS → Prop} (hG : zOK G) (hR : ∀ v S', St u g H T S' → Mono S0 S' → X (v, S') → Q (some (.int v)) S') {s0 : Int32} (hS : St u g H T S) (hM : Mono S0 S) (ok : KO_X3_receive_259 N g H T s0 S) (hx : X (KF_X3_receive_259 N g H T s0 S)) : cX G o dX3_receive mX3_receive 259 [none, none, none, none, none, none, none] [.int s0] S Q := by
  unfold KO_X3_receive_259 at ok
  unfold KF_X3_receive_259 at hx
  exact c_ireturn rfl ok dX3_receive_259 (hR _ _ hS hM hx)
def KF_X3_receive_258 (N g H T : Nat)  (S : cS) : Int32 × cS := (KF_X3_receive_259 N g H T (nI 0) S)
def KO_X3_receive_258 (N g H T : Nat)  (S : cS) : Prop := KO_X3_receive_259 N g H T (nI 0) S
set_option maxRecDepth 100000 in
set_option maxHeartbeats 4000000 in
theorem kb_X3_receive_258 {G : zG} {o : cO} {u g H T N : Nat} {S : cS} {S0 : cS} {Q : Option Value → cS → Prop} {X : Int32 × cS → Prop} (hG : zOK G) (hR : ∀ v S', St u g H T S' → Mono S0 S' → X (v, S') → Q (some (.int v)) S') (hS : St u g H T S) (hM : Mono S0 S) (ok : KO_X3_receive_258 N g H T S) (hx : X (KF_X3_receive_258 N g H T S)) : cX G o dX3_receive mX3_receive 258 [none, none, none, none, none, none, none] [] S Q := by
  unfold KO_X3_receive_258 at ok
  unfold KF_X3_receive_258 at hx
  refine c_iconst (v := nI 0) dX3_receive_258 (by decide) ?_
  exact cX.cutz (kb_X3_receive_259 hG hR hS hM  ok hx) trivial
def KF_X3_receive_251 (N g H T : Nat) (s0 : Int32) (S : cS) : Int32 × cS := (if s0 = 0 then (KF_X3_receive_258 N g H T S) else (KF_X3_receive_259 N g H T (nI 1) S))
def KO_X3_receive_251 (N g H T : Nat) (s0 : Int32) (S : cS) : Prop := ((s0 = 0 → KO_X3_receive_258 N g H T S) ∧ (¬ s0 = 0 → KO_X3_receive_259 N g H T (nI 1) S))
set_option maxRecDepth 100000 in
set_option maxHeartbeats 4000000 in
theorem kb_X3_receive_251 {G : zG} {o : cO} {u g H T N : Nat} {S : cS} {S0 : cS} {Q : Option Value → cS → Prop} {X : Int32 × cS → Prop} (hG : zOK G) (hR : ∀ v S', St u g H T S' → Mono S0 S' → X (v, S') → Q (some (.int v)) S') {s0 : Int32} (hS : St u g H T S) (hM : Mono S0 S) (ok : KO_X3_receive_251 N g H T s0 S) (hx : X (KF_X3_receive_251 N g H T s0 S)) : cX G o dX3_receive mX3_receive 251 [none, none, none, none, none, none, none] [.int s0] S Q := by
  unfold KO_X3_receive_251 at ok
  unfold KF_X3_receive_251 at hx
  refine c_if_eq (tgt := 258) dX3_receive_251 (by decide) (fun c_251 => ?_) (fun c_251 => ?_)
  · have ok := ok.1 c_251
    have hx := xif_p c_251 hx
    exact cX.cutz (kb_X3_receive_258 hG hR hS hM  ok hx) trivial
  · have ok := ok.2 c_251
    have hx := xif_n c_251 hx
    refine c_iconst (v := nI 1) dX3_receive_254 (by decide) ?_
    refine c_goto (tgt := 259) dX3_receive_255 (by decide) ?_
    exact cX.cutz (kb_X3_receive_259 hG hR hS hM  ok hx) trivial
def KF_X3_receive_228 (N g H T : Nat) (x0 : Option Nat) (x1 : Int32) (x2 : Option Nat) (x4 : Int32) (x5 : Int32) (S : cS) : Int32 × cS := (if x4 = 0 then (if x5 = (cI S 9 (za x0)) then (KF_X3_receive_251 N g H T ((k_X8_holdDecided N g H T S ((za x0) + 14) x1 x2).1) (k_X8_holdDecided N g H T S ((za x0) + 14) x1 x2).2) else (KF_X3_receive_258 N g H T S)) else (if ((cI S 9 (za x0)) + (nI 1)) < x5 then (KF_X3_receive_284 N g H T S) else (KF_X3_receive_277 N g H T ((k_X3_takeSigned N g H T S x0 x1 x2).1) (k_X3_takeSigned N g H T S x0 x1 x2).2)))
def KO_X3_receive_228 (N g H T : Nat) (x0 : Option Nat) (x1 : Int32) (x2 : Option Nat) (x4 : Int32) (x5 : Int32) (S : cS) : Prop := ((x4 = 0 → (¬ x0 = none) ∧ ((x5 = (cI S 9 (za x0)) → (p_X8_holdDecided N g H T S ((za x0) + 14) x1 x2) ∧ KO_X3_receive_251 N g H T ((k_X8_holdDecided N g H T S ((za x0) + 14) x1 x2).1) (k_X8_holdDecided N g H T S ((za x0) + 14) x1 x2).2) ∧ (¬ x5 = (cI S 9 (za x0)) → KO_X3_receive_258 N g H T S))) ∧ (¬ x4 = 0 → (¬ x0 = none) ∧ ((((cI S 9 (za x0)) + (nI 1)) < x5 → KO_X3_receive_284 N g H T S) ∧ (¬ ((cI S 9 (za x0)) + (nI 1)) < x5 → (p_X3_takeSigned N g H T S x0 x1 x2) ∧ KO_X3_receive_277 N g H T ((k_X3_takeSigned N g H T S x0 x1 x2).1) (k_X3_takeSigned N g H T S x0 x1 x2).2))))
set_option maxRecDepth 100000 in
set_option maxHeartbeats 4000000 in
theorem kb_X3_receive_228 {G : zG} {o : cO} {u g H T N : Nat} {S : cS} {S0 : cS} {Q : Option Value → cS → Prop} {X : Int32 × cS → Prop} (hG : zOK G) (hR : ∀ v S', St u g H T S' → Mono S0 S' → X (v, S') → Q (some (.int v)) S') {x0 : Option Nat} {x1 : Int32} {x2 : Option Nat} {x4 : Int32} {x5 : Int32} (hS : St u g H T S) (hM : Mono S0 S) (t_x0 : tN g H x0) (t_x2 : tK S 5 x2) (ok : KO_X3_receive_228 N g H T x0 x1 x2 x4 x5 S) (hx : X (KF_X3_receive_228 N g H T x0 x1 x2 x4 x5 S)) : cX G o dX3_receive mX3_receive 228 [some (va_rf x0), some (.int x1), some (va_rf x2), none, some (.int x4), some (.int x5), none] [] S Q := by
  unfold KO_X3_receive_228 at ok
  unfold KF_X3_receive_228 at hx
  refine c_iload dX3_receive_228 rfl ?_
  refine c_if_ne (tgt := 260) dX3_receive_230 (by decide) (fun c_230 => ?_) (fun c_230 => ?_)
  · have ok := ok.2 c_230
    have hx := xif_n c_230 hx
    refine c_iload dX3_receive_260 rfl ?_
    refine c_aload_nQ dX3_receive_262 rfl rfl ?_
    have nn_263 := ok.1
    refine c_getI (C := RX6) (T := TX6) (N := 19) (ci := 5) (k := 9) ⟨rfl, inT6, by decide, fX3_54⟩ (by decide) (by decide) (by decide) dX3_receive_263 (hS.kN t_x0 ok.1) ?_
    have ok := ok.2
    refine c_iconst (v := nI 1) dX3_receive_266 (by decide) ?_
    refine c_iadd dX3_receive_267 ?_
    refine c_icmp_gt (tgt := 284) dX3_receive_268 (by decide) (fun c_268 => ?_) (fun c_268 => ?_)
    · have ok := ok.1 c_268
      have hx := xif_p c_268 hx
      exact cX.cutz (kb_X3_receive_284 hG hR hS hM  ok hx) trivial
    · have ok := ok.2 c_268
      have hx := xif_n c_268 hx
      refine c_aload_nQ dX3_receive_271 rfl rfl ?_
      refine c_iload_n dX3_receive_272 rfl rfl ?_
      refine c_aload_nQ dX3_receive_273 rfl rfl ?_
      refine c_S3iK (y' := mX3_takeSigned) dX3_receive_274 lX3_90 kX3_takeSigned ⟨by decide, by decide⟩ (Nat.le_of_ble_eq_true rfl) (kc_X3_takeSigned hG hS t_x0 t_x2 ok.1) (fun ⟨hS, hm_274⟩ => ?_)
      have hM := hM.trans hm_274
      have ok := ok.2
      exact cX.cutz (kb_X3_receive_277 hG hR hS hM  ok hx) trivial
  · have ok := ok.1 c_230
    have hx := xif_p c_230 hx
    refine c_iload dX3_receive_233 rfl ?_
    refine c_aload_nQ dX3_receive_235 rfl rfl ?_
    have nn_236 := ok.1
    refine c_getI (C := RX6) (T := TX6) (N := 19) (ci := 5) (k := 9) ⟨rfl, inT6, by decide, fX3_54⟩ (by decide) (by decide) (by decide) dX3_receive_236 (hS.kN t_x0 ok.1) ?_
    have ok := ok.2
    refine c_icmp_ne (tgt := 258) dX3_receive_239 (by decide) (fun c_239 => ?_) (fun c_239 => ?_)
    · have ok := ok.2 c_239
      have hx := xif_n c_239 hx
      exact cX.cutz (kb_X3_receive_258 hG hR hS hM  ok hx) trivial
    · have ok := ok.1 c_239
      have hx := xif_p c_239 hx
      refine c_aload_nQ dX3_receive_242 rfl rfl ?_
      refine c_getS (C := RX6) (T := TX6) (N := 19) (ci := 5) (k := 3) ⟨rfl, inT6, by decide, fX3_21⟩ (by decide) (by decide) (by decide) dX3_receive_243 (hS.kN t_x0 nn_236) (hS.r (c := 5) (tN.o t_x0 nn_236) rfl (by omega)) ?_
      refine c_iload_n dX3_receive_246 rfl rfl ?_
      refine c_aload_nQ dX3_receive_247 rfl rfl ?_
      refine c_V2iK (ci := 6) (rr := (RX8, TX8, 14)) (y' := mX8_holdDecided) dX3_receive_248 lX3_87 kX8_holdDecided ⟨by decide, by decide⟩ rfl rfl (by decide) (hS.k (o53 (tN.o t_x0 nn_236))) (Nat.le_of_ble_eq_true rfl) (kc_X8_holdDecided hG hS (o53 (tN.o t_x0 nn_236)) t_x2 ok.1) (fun ⟨hS, hm_248⟩ => ?_)
      have hM := hM.trans hm_248
      have ok := ok.2
      exact cX.cutz (kb_X3_receive_251 hG hR hS hM  ok hx) trivial
def KF_X3_receive_216 (N g H T : Nat) (x0 : Option Nat) (x1 : Int32) (x2 : Option Nat) (x4 : Int32) (x5 : Int32) (x6 : Option Nat) (S : cS) : Int32 × cS := (KF_X3_receive_228 N g H T x0 x1 x2 x4 x5 (k_X9_drop N g H T S (g + 11) x6))
def KO_X3_receive_216 (N g H T : Nat) (x0 : Option Nat) (x1 : Int32) (x2 : Option Nat) (x4 : Int32) (x5 : Int32) (x6 : Option Nat) (S : cS) : Prop := (¬ x0 = none) ∧ (p_X9_drop N g H T S (g + 11) x6) ∧ KO_X3_receive_228 N g H T x0 x1 x2 x4 x5 (k_X9_drop N g H T S (g + 11) x6)
set_option maxRecDepth 100000 in
set_option maxHeartbeats 4000000 in
theorem kb_X3_receive_216 {G : zG} {o : cO} {u g H T N : Nat} {S : cS} {S0 : cS} {Q : Option Value → cS → Prop} {X : Int32 × cS → Prop} (hG : zOK G) (hR : ∀ v S', St u g H T S' → Mono S0 S' → X (v, S') → Q (some (.int v)) S') {x0 : Option Nat} {x1 : Int32} {x2 : Option Nat} {x4 : Int32} {x5 : Int32} {x6 : Option Nat} (hS : St u g H T S) (hM : Mono S0 S) (t_x0 : tN g H x0) (t_x2 : tK S 5 x2) (t_x6 : tK S 5 x6) (ok : KO_X3_receive_216 N g H T x0 x1 x2 x4 x5 x6 S) (hx : X (KF_X3_receive_216 N g H T x0 x1 x2 x4 x5 x6 S)) : cX G o dX3_receive mX3_receive 216 [some (va_rf x0), some (.int x1), some (va_rf x2), none, some (.int x4), some (.int x5), some (va_rf x6)] [] S Q := by
  unfold KO_X3_receive_216 at ok
  unfold KF_X3_receive_216 at hx
  refine c_aload_nQ dX3_receive_216 rfl rfl ?_
  have nn_217 := ok.1
  refine c_getS (C := RX6) (T := TX6) (N := 19) (ci := 5) (k := 0) ⟨rfl, inT6, by decide, fX3_33⟩ (by decide) (by decide) (by decide) dX3_receive_217 (hS.kN t_x0 ok.1) (hS.r (c := 5) (tN.o t_x0 ok.1) rfl (by omega)) ?_
  have ok := ok.2
  refine c_getS (C := RX10) (T := TX10) (N := 12) (ci := 8) (k := 6) ⟨rfl, inT10, by decide, fX3_73⟩ (by decide) (by decide) (by decide) dX3_receive_220 (hS.k (o50 (tN.o t_x0 nn_217))) (hS.r (c := 8) (o50 (tN.o t_x0 nn_217)) rfl (by omega)) ?_
  refine c_aloadQ dX3_receive_223 rfl ?_
  refine c_V1vK (ci := 7) (rr := (RX9, TX9, 13)) (y' := mX9_drop) dX3_receive_225 lX3_83 kX9_drop ⟨by decide, by decide⟩ rfl rfl (by decide) (hS.k (o86 (o50 (tN.o t_x0 nn_217)))) (Nat.le_of_ble_eq_true rfl) (kc_X9_drop hG hS (o86 (o50 (tN.o t_x0 nn_217))) t_x6 ok.1) (fun ⟨hS, hm_225⟩ => ?_)
  have hM := hM.trans hm_225
  have ok := ok.2
  exact cX.cutz (kb_X3_receive_228 hG hR hS hM t_x0 (hm_225.tK t_x2 (by decide)) ok hx) ⟨rfl, rfl, rfl, rfl, rfl, trivial⟩
def KF_X3_receive_197 (N g H T : Nat) (x0 : Option Nat) (x1 : Int32) (x2 : Option Nat) (x4 : Int32) (x5 : Int32) (s0 : Option Nat) (S : cS) : Int32 × cS := (KF_X3_receive_216 N g H T x0 x1 x2 x4 x5 s0 (k_X9_post N g H T S (g + 11) (cI S 1 (za x0)) x1 s0))
def KO_X3_receive_197 (N g H T : Nat) (x0 : Option Nat) (x1 : Int32) (x2 : Option Nat) (x4 : Int32) (x5 : Int32) (s0 : Option Nat) (S : cS) : Prop := (¬ x0 = none) ∧ (p_X9_post N g H T S (g + 11) (cI S 1 (za x0)) x1 s0) ∧ KO_X3_receive_216 N g H T x0 x1 x2 x4 x5 s0 (k_X9_post N g H T S (g + 11) (cI S 1 (za x0)) x1 s0)
set_option maxRecDepth 100000 in
set_option maxHeartbeats 4000000 in
theorem kb_X3_receive_197 {G : zG} {o : cO} {u g H T N : Nat} {S : cS} {S0 : cS} {Q : Option Value → cS → Prop} {X : Int32 × cS → Prop} (hG : zOK G) (hR : ∀ v S', St u g H T S' → Mono S0 S' → X (v, S') → Q (some (.int v)) S') {x0 : Option Nat} {x1 : Int32} {x2 : Option Nat} {x4 : Int32} {x5 : Int32} {s0 : Option Nat} (hS : St u g H T S) (hM : Mono S0 S) (t_x0 : tN g H x0) (t_x2 : tK S 5 x2) (t_s0 : tK S 5 s0) (ok : KO_X3_receive_197 N g H T x0 x1 x2 x4 x5 s0 S) (hx : X (KF_X3_receive_197 N g H T x0 x1 x2 x4 x5 s0 S)) : cX G o dX3_receive mX3_receive 197 [some (va_rf x0), some (.int x1), some (va_rf x2), none, some (.int x4), some (.int x5), none] [va_rf s0] S Q := by
  unfold KO_X3_receive_197 at ok
  unfold KF_X3_receive_197 at hx
  refine c_astore_6Q dX3_receive_197 (by decide) rfl ?_
  refine c_aload_nQ dX3_receive_199 rfl rfl ?_
  have nn_200 := ok.1
  refine c_getS (C := RX6) (T := TX6) (N := 19) (ci := 5) (k := 0) ⟨rfl, inT6, by decide, fX3_33⟩ (by decide) (by decide) (by decide) dX3_receive_200 (hS.kN t_x0 ok.1) (hS.r (c := 5) (tN.o t_x0 ok.1) rfl (by omega)) ?_
  have ok := ok.2
  refine c_getS (C := RX10) (T := TX10) (N := 12) (ci := 8) (k := 6) ⟨rfl, inT10, by decide, fX3_73⟩ (by decide) (by decide) (by decide) dX3_receive_203 (hS.k (o50 (tN.o t_x0 nn_200))) (hS.r (c := 8) (o50 (tN.o t_x0 nn_200)) rfl (by omega)) ?_
  refine c_aload_nQ dX3_receive_206 rfl rfl ?_
  refine c_getI (C := RX6) (T := TX6) (N := 19) (ci := 5) (k := 1) ⟨rfl, inT6, by decide, fX3_37⟩ (by decide) (by decide) (by decide) dX3_receive_207 (hS.kN t_x0 nn_200) ?_
  refine c_iload_n dX3_receive_210 rfl rfl ?_
  refine c_aloadQ dX3_receive_211 rfl ?_
  refine c_V3vK (ci := 7) (rr := (RX9, TX9, 13)) (y' := mX9_post) dX3_receive_213 lX3_77 kX9_post ⟨by decide, by decide⟩ rfl rfl (by decide) (hS.k (o86 (o50 (tN.o t_x0 nn_200)))) (Nat.le_of_ble_eq_true rfl) (kc_X9_post hG hS (o86 (o50 (tN.o t_x0 nn_200))) t_s0 ok.1) (fun ⟨hS, hm_213⟩ => ?_)
  have hM := hM.trans hm_213
  have ok := ok.2
  exact cX.cutz (kb_X3_receive_216 hG hR hS hM t_x0 (hm_213.tK t_x2 (by decide)) (hm_213.tK t_s0 (by decide)) ok hx) ⟨rfl, rfl, rfl, rfl, rfl, rfl, trivial⟩
def KF_X3_receive_182 (N g H T : Nat)  (S : cS) : Int32 × cS := ((nI 0), S)
def KO_X3_receive_182 (N g H T : Nat)  (S : cS) : Prop := True
set_option maxRecDepth 100000 in
set_option maxHeartbeats 4000000 in
theorem kb_X3_receive_182 {G : zG} {o : cO} {u g H T N : Nat} {S : cS} {S0 : cS} {Q : Option Value → cS → Prop} {X : Int32 × cS → Prop} (hG : zOK G) (hR : ∀ v S', St u g H T S' → Mono S0 S' → X (v, S') → Q (some (.int v)) S') (hS : St u g H T S) (hM : Mono S0 S) (ok : KO_X3_receive_182 N g H T S) (hx : X (KF_X3_receive_182 N g H T S)) : cX G o dX3_receive mX3_receive 182 [none, none, none, none, none, none, none] [] S Q := by
  unfold KO_X3_receive_182 at ok
  unfold KF_X3_receive_182 at hx
  refine c_iconst (v := nI 0) dX3_receive_182 (by decide) ?_
  exact c_ireturn rfl rfl dX3_receive_183 (hR _ _ hS hM hx)
def KF_X3_receive_161 (N g H T : Nat)  (S : cS) : Int32 × cS := ((nI 0), S)
def KO_X3_receive_161 (N g H T : Nat)  (S : cS) : Prop := True
set_option maxRecDepth 100000 in
set_option maxHeartbeats 4000000 in
theorem kb_X3_receive_161 {G : zG} {o : cO} {u g H T N : Nat} {S : cS} {S0 : cS} {Q : Option Value → cS → Prop} {X : Int32 × cS → Prop} (hG : zOK G) (hR : ∀ v S', St u g H T S' → Mono S0 S' → X (v, S') → Q (some (.int v)) S') (hS : St u g H T S) (hM : Mono S0 S) (ok : KO_X3_receive_161 N g H T S) (hx : X (KF_X3_receive_161 N g H T S)) : cX G o dX3_receive mX3_receive 161 [none, none, none, none, none, none, none] [] S Q := by
  unfold KO_X3_receive_161 at ok
  unfold KF_X3_receive_161 at hx
  refine c_iconst (v := nI 0) dX3_receive_161 (by decide) ?_
  exact c_ireturn rfl rfl dX3_receive_162 (hR _ _ hS hM hx)
def KF_X3_receive_154 (N g H T : Nat) (x0 : Option Nat) (x1 : Int32) (x5 : Int32) (S : cS) : Int32 × cS := (KF_X3_receive_161 N g H T (k_X3_answerBelow N g H T S x0 x1 x5))
def KO_X3_receive_154 (N g H T : Nat) (x0 : Option Nat) (x1 : Int32) (x5 : Int32) (S : cS) : Prop := (p_X3_answerBelow N g H T S x0 x1 x5) ∧ KO_X3_receive_161 N g H T (k_X3_answerBelow N g H T S x0 x1 x5)
set_option maxRecDepth 100000 in
set_option maxHeartbeats 4000000 in
theorem kb_X3_receive_154 {G : zG} {o : cO} {u g H T N : Nat} {S : cS} {S0 : cS} {Q : Option Value → cS → Prop} {X : Int32 × cS → Prop} (hG : zOK G) (hR : ∀ v S', St u g H T S' → Mono S0 S' → X (v, S') → Q (some (.int v)) S') {x0 : Option Nat} {x1 : Int32} {x5 : Int32} (hS : St u g H T S) (hM : Mono S0 S) (t_x0 : tN g H x0) (ok : KO_X3_receive_154 N g H T x0 x1 x5 S) (hx : X (KF_X3_receive_154 N g H T x0 x1 x5 S)) : cX G o dX3_receive mX3_receive 154 [some (va_rf x0), some (.int x1), none, none, none, some (.int x5), none] [] S Q := by
  unfold KO_X3_receive_154 at ok
  unfold KF_X3_receive_154 at hx
  refine c_aload_nQ dX3_receive_154 rfl rfl ?_
  refine c_iload_n dX3_receive_155 rfl rfl ?_
  refine c_iload dX3_receive_156 rfl ?_
  refine c_S3vK (y' := mX3_answerBelow) dX3_receive_158 lX3_61 kX3_answerBelow ⟨by decide, by decide⟩ (Nat.le_of_ble_eq_true rfl) (kc_X3_answerBelow hG hS t_x0 ok.1) (fun ⟨hS, hm_158⟩ => ?_)
  have hM := hM.trans hm_158
  have ok := ok.2
  exact cX.cutz (kb_X3_receive_161 hG hR hS hM  ok hx) trivial
def KF_X3_receive_122 (N g H T : Nat) (x0 : Option Nat) (x1 : Int32) (x2 : Option Nat) (x3 : Int32) (x4 : Int32) (s0 : Option Nat) (s1 : Int32) (S : cS) : Int32 × cS := (if (cI S 9 (za x0)) ≤ (k_X5_two N g H T S (za s0) s1) then (if x3 = (nI 5) then (if (k_X5_two N g H T S (za s0) s1) = (cI S 9 (za x0)) then (KF_X3_receive_182 N g H T (k_X3_answerAll N g H T S x0 x1)) else (KF_X3_receive_182 N g H T S)) else (if (k_X5_two N g H T S (za s0) s1) ≤ (cI S 9 (za x0)) then (KF_X3_receive_228 N g H T x0 x1 x2 x4 (k_X5_two N g H T S (za s0) s1) S) else (KF_X3_receive_197 N g H T x0 x1 x2 x4 (k_X5_two N g H T S (za s0) s1) ((k_X6_ask N g H T S (za x0)).1) (k_X6_ask N g H T S (za x0)).2))) else (if x3 = (nI 5) then (KF_X3_receive_154 N g H T x0 x1 (k_X5_two N g H T S (za s0) s1) S) else (if x4 = 0 then (KF_X3_receive_161 N g H T S) else (if (k_X5_signer N g H T S (za x2)) = x1 then (KF_X3_receive_154 N g H T x0 x1 (k_X5_two N g H T S (za s0) s1) S) else (KF_X3_receive_161 N g H T S)))))
def KO_X3_receive_122 (N g H T : Nat) (x0 : Option Nat) (x1 : Int32) (x2 : Option Nat) (x3 : Int32) (x4 : Int32) (s0 : Option Nat) (s1 : Int32) (S : cS) : Prop := (¬ s0 = none ∧ p_X5_two N g H T S (za s0) s1) ∧ (¬ x0 = none) ∧ (((cI S 9 (za x0)) ≤ (k_X5_two N g H T S (za s0) s1) → ((x3 = (nI 5) → (((k_X5_two N g H T S (za s0) s1) = (cI S 9 (za x0)) → (p_X3_answerAll N g H T S x0 x1) ∧ KO_X3_receive_182 N g H T (k_X3_answerAll N g H T S x0 x1)) ∧ (¬ (k_X5_two N g H T S (za s0) s1) = (cI S 9 (za x0)) → KO_X3_receive_182 N g H T S))) ∧ (¬ x3 = (nI 5) → (((k_X5_two N g H T S (za s0) s1) ≤ (cI S 9 (za x0)) → KO_X3_receive_228 N g H T x0 x1 x2 x4 (k_X5_two N g H T S (za s0) s1) S) ∧ (¬ (k_X5_two N g H T S (za s0) s1) ≤ (cI S 9 (za x0)) → (p_X6_ask N g H T S (za x0)) ∧ KO_X3_receive_197 N g H T x0 x1 x2 x4 (k_X5_two N g H T S (za s0) s1) ((k_X6_ask N g H T S (za x0)).1) (k_X6_ask N g H T S (za x0)).2))))) ∧ (¬ (cI S 9 (za x0)) ≤ (k_X5_two N g H T S (za s0) s1) → ((x3 = (nI 5) → KO_X3_receive_154 N g H T x0 x1 (k_X5_two N g H T S (za s0) s1) S) ∧ (¬ x3 = (nI 5) → ((x4 = 0 → KO_X3_receive_161 N g H T S) ∧ (¬ x4 = 0 → (¬ x2 = none ∧ p_X5_signer N g H T S (za x2)) ∧ (((k_X5_signer N g H T S (za x2)) = x1 → KO_X3_receive_154 N g H T x0 x1 (k_X5_two N g H T S (za s0) s1) S) ∧ (¬ (k_X5_signer N g H T S (za x2)) = x1 → KO_X3_receive_161 N g H T S))))))))
set_option maxRecDepth 100000 in
set_option maxHeartbeats 4000000 in
theorem kb_X3_receive_122 {G : zG} {o : cO} {u g H T N : Nat} {S : cS} {S0 : cS} {Q : Option Value → cS → Prop} {X : Int32 × cS → Prop} (hG : zOK G) (hR : ∀ v S', St u g H T S' → Mono S0 S' → X (v, S') → Q (some (.int v)) S') {x0 : Option Nat} {x1 : Int32} {x2 : Option Nat} {x3 : Int32} {x4 : Int32} {s0 : Option Nat} {s1 : Int32} (hS : St u g H T S) (hM : Mono S0 S) (t_x0 : tN g H x0) (t_x2 : tK S 5 x2) (t_s0 : tK S 5 s0) (ok : KO_X3_receive_122 N g H T x0 x1 x2 x3 x4 s0 s1 S) (hx : X (KF_X3_receive_122 N g H T x0 x1 x2 x3 x4 s0 s1 S)) : cX G o dX3_receive mX3_receive 122 [some (va_rf x0), some (.int x1), some (va_rf x2), some (.int x3), some (.int x4), none, none] [.int s1, va_rf s0] S Q := by
  unfold KO_X3_receive_122 at ok
  unfold KF_X3_receive_122 at hx
  have nn_122 := ok.1.1
  refine c_V1iE (ci := 4) (rr := (RX5, TX5, 7)) (y' := mX5_two) dX3_receive_122 lX3_50 kX5_two ⟨by decide, by decide⟩ rfl rfl (by decide) (tK.cis t_s0 nn_122) (Nat.le_of_ble_eq_true rfl) (kc_X5_two hG hS (t_s0 _ (za_of nn_122)) ok.1.2) ?_
  have ok := ok.2
  refine c_istore_5 dX3_receive_125 (by decide) rfl ?_
  refine c_iload dX3_receive_127 rfl ?_
  refine c_aload_nQ dX3_receive_129 rfl rfl ?_
  have nn_130 := ok.1
  refine c_getI (C := RX6) (T := TX6) (N := 19) (ci := 5) (k := 9) ⟨rfl, inT6, by decide, fX3_54⟩ (by decide) (by decide) (by decide) dX3_receive_130 (hS.kN t_x0 ok.1) ?_
  have ok := ok.2
  refine c_icmp_ge (tgt := 163) dX3_receive_133 (by decide) (fun c_133 => ?_) (fun c_133 => ?_)
  · have ok := ok.1 c_133
    have hx := xif_p c_133 hx
    refine c_iload_n dX3_receive_163 rfl rfl ?_
    refine c_iconst (v := nI 5) dX3_receive_164 (by decide) ?_
    refine c_icmp_ne (tgt := 184) dX3_receive_165 (by decide) (fun c_165 => ?_) (fun c_165 => ?_)
    · have ok := ok.2 c_165
      have hx := xif_n c_165 hx
      refine c_iload dX3_receive_184 rfl ?_
      refine c_aload_nQ dX3_receive_186 rfl rfl ?_
      refine c_getI (C := RX6) (T := TX6) (N := 19) (ci := 5) (k := 9) ⟨rfl, inT6, by decide, fX3_54⟩ (by decide) (by decide) (by decide) dX3_receive_187 (hS.kN t_x0 nn_130) ?_
      refine c_icmp_le (tgt := 228) dX3_receive_190 (by decide) (fun c_190 => ?_) (fun c_190 => ?_)
      · have ok := ok.1 c_190
        have hx := xif_p c_190 hx
        exact cX.cutz (kb_X3_receive_228 hG hR hS hM t_x0 t_x2 ok hx) ⟨rfl, rfl, rfl, rfl, rfl, trivial⟩
      · have ok := ok.2 c_190
        have hx := xif_n c_190 hx
        refine c_aload_nQ dX3_receive_193 rfl rfl ?_
        refine c_V0qK (ci := 5) (rr := (RX6, TX6, 19)) (y' := mX6_ask) dX3_receive_194 lX3_69 kX6_ask ⟨by decide, by decide⟩ rfl rfl (by decide) (hS.kN t_x0 nn_130) (Nat.le_of_ble_eq_true rfl) (kc_X6_ask hG hS (tN.o t_x0 nn_130) ok.1) (fun ⟨hS, hm_194, tv_194⟩ => ?_)
        have hM := hM.trans hm_194
        have ok := ok.2
        exact cX.cutz (kb_X3_receive_197 hG hR hS hM t_x0 (hm_194.tK t_x2 (by decide)) tv_194 ok hx) ⟨rfl, rfl, rfl, rfl, rfl, trivial⟩
    · have ok := ok.1 c_165
      have hx := xif_p c_165 hx
      refine c_iload dX3_receive_168 rfl ?_
      refine c_aload_nQ dX3_receive_170 rfl rfl ?_
      refine c_getI (C := RX6) (T := TX6) (N := 19) (ci := 5) (k := 9) ⟨rfl, inT6, by decide, fX3_54⟩ (by decide) (by decide) (by decide) dX3_receive_171 (hS.kN t_x0 nn_130) ?_
      refine c_icmp_ne (tgt := 182) dX3_receive_174 (by decide) (fun c_174 => ?_) (fun c_174 => ?_)
      · have ok := ok.2 c_174
        have hx := xif_n c_174 hx
        exact cX.cutz (kb_X3_receive_182 hG hR hS hM  ok hx) trivial
      · have ok := ok.1 c_174
        have hx := xif_p c_174 hx
        refine c_aload_nQ dX3_receive_177 rfl rfl ?_
        refine c_iload_n dX3_receive_178 rfl rfl ?_
        refine c_S2vK (y' := mX3_answerAll) dX3_receive_179 lX3_65 kX3_answerAll ⟨by decide, by decide⟩ (Nat.le_of_ble_eq_true rfl) (kc_X3_answerAll hG hS t_x0 ok.1) (fun ⟨hS, hm_179⟩ => ?_)
        have hM := hM.trans hm_179
        have ok := ok.2
        exact cX.cutz (kb_X3_receive_182 hG hR hS hM  ok hx) trivial
  · have ok := ok.2 c_133
    have hx := xif_n c_133 hx
    refine c_iload_n dX3_receive_136 rfl rfl ?_
    refine c_iconst (v := nI 5) dX3_receive_137 (by decide) ?_
    refine c_icmp_eq (tgt := 154) dX3_receive_138 (by decide) (fun c_138 => ?_) (fun c_138 => ?_)
    · have ok := ok.1 c_138
      have hx := xif_p c_138 hx
      exact cX.cutz (kb_X3_receive_154 hG hR hS hM t_x0 ok hx) ⟨rfl, rfl, rfl, trivial⟩
    · have ok := ok.2 c_138
      have hx := xif_n c_138 hx
      refine c_iload dX3_receive_141 rfl ?_
      refine c_if_eq (tgt := 161) dX3_receive_143 (by decide) (fun c_143 => ?_) (fun c_143 => ?_)
      · have ok := ok.1 c_143
        have hx := xif_p c_143 hx
        exact cX.cutz (kb_X3_receive_161 hG hR hS hM  ok hx) trivial
      · have ok := ok.2 c_143
        have hx := xif_n c_143 hx
        refine c_aload_nQ dX3_receive_146 rfl rfl ?_
        have nn_147 := ok.1.1
        refine c_V0iE (ci := 4) (rr := (RX5, TX5, 7)) (y' := mX5_signer) dX3_receive_147 lX3_41 kX5_signer ⟨by decide, by decide⟩ rfl rfl (by decide) (tK.cis t_x2 nn_147) (Nat.le_of_ble_eq_true rfl) (kc_X5_signer hG hS (t_x2 _ (za_of nn_147)) ok.1.2) ?_
        have ok := ok.2
        refine c_iload_n dX3_receive_150 rfl rfl ?_
        refine c_icmp_ne (tgt := 161) dX3_receive_151 (by decide) (fun c_151 => ?_) (fun c_151 => ?_)
        · have ok := ok.2 c_151
          have hx := xif_n c_151 hx
          exact cX.cutz (kb_X3_receive_161 hG hR hS hM  ok hx) trivial
        · have ok := ok.1 c_151
          have hx := xif_p c_151 hx
          exact cX.cutz (kb_X3_receive_154 hG hR hS hM t_x0 ok hx) ⟨rfl, rfl, rfl, trivial⟩
def KF_X3_receive_109 (N g H T : Nat) (x0 : Option Nat) (x1 : Int32) (x2 : Option Nat) (x3 : Int32) (s0 : Int32) (S : cS) : Int32 × cS := (if s0 = 0 then (KF_X3_receive_122 N g H T x0 x1 x2 x3 s0 x2 (nI 1) S) else (KF_X3_receive_122 N g H T x0 x1 x2 x3 s0 x2 (nI 2) S))
def KO_X3_receive_109 (N g H T : Nat) (x0 : Option Nat) (x1 : Int32) (x2 : Option Nat) (x3 : Int32) (s0 : Int32) (S : cS) : Prop := ((s0 = 0 → KO_X3_receive_122 N g H T x0 x1 x2 x3 s0 x2 (nI 1) S) ∧ (¬ s0 = 0 → KO_X3_receive_122 N g H T x0 x1 x2 x3 s0 x2 (nI 2) S))
set_option maxRecDepth 100000 in
set_option maxHeartbeats 4000000 in
theorem kb_X3_receive_109 {G : zG} {o : cO} {u g H T N : Nat} {S : cS} {S0 : cS} {Q : Option Value → cS → Prop} {X : Int32 × cS → Prop} (hG : zOK G) (hR : ∀ v S', St u g H T S' → Mono S0 S' → X (v, S') → Q (some (.int v)) S') {x0 : Option Nat} {x1 : Int32} {x2 : Option Nat} {x3 : Int32} {s0 : Int32} (hS : St u g H T S) (hM : Mono S0 S) (t_x0 : tN g H x0) (t_x2 : tK S 5 x2) (ok : KO_X3_receive_109 N g H T x0 x1 x2 x3 s0 S) (hx : X (KF_X3_receive_109 N g H T x0 x1 x2 x3 s0 S)) : cX G o dX3_receive mX3_receive 109 [some (va_rf x0), some (.int x1), some (va_rf x2), some (.int x3), none, none, none] [.int s0] S Q := by
  unfold KO_X3_receive_109 at ok
  unfold KF_X3_receive_109 at hx
  refine c_istore_4 dX3_receive_109 (by decide) rfl ?_
  refine c_aload_nQ dX3_receive_111 rfl rfl ?_
  refine c_iload dX3_receive_112 rfl ?_
  refine c_if_eq (tgt := 121) dX3_receive_114 (by decide) (fun c_114 => ?_) (fun c_114 => ?_)
  · have ok := ok.1 c_114
    have hx := xif_p c_114 hx
    refine c_iconst (v := nI 1) dX3_receive_121 (by decide) ?_
    exact cX.cutz (kb_X3_receive_122 hG hR hS hM t_x0 t_x2 t_x2 ok hx) ⟨rfl, rfl, rfl, rfl, rfl, trivial⟩
  · have ok := ok.2 c_114
    have hx := xif_n c_114 hx
    refine c_iconst (v := nI 2) dX3_receive_117 (by decide) ?_
    refine c_goto (tgt := 122) dX3_receive_118 (by decide) ?_
    exact cX.cutz (kb_X3_receive_122 hG hR hS hM t_x0 t_x2 t_x2 ok hx) ⟨rfl, rfl, rfl, rfl, rfl, trivial⟩
def KF_X3_receive_104 (N g H T : Nat) (x0 : Option Nat) (x1 : Int32) (x2 : Option Nat) (x3 : Int32) (S : cS) : Int32 × cS := (KF_X3_receive_109 N g H T x0 x1 x2 x3 (nI 1) S)
def KO_X3_receive_104 (N g H T : Nat) (x0 : Option Nat) (x1 : Int32) (x2 : Option Nat) (x3 : Int32) (S : cS) : Prop := KO_X3_receive_109 N g H T x0 x1 x2 x3 (nI 1) S
set_option maxRecDepth 100000 in
set_option maxHeartbeats 4000000 in
theorem kb_X3_receive_104 {G : zG} {o : cO} {u g H T N : Nat} {S : cS} {S0 : cS} {Q : Option Value → cS → Prop} {X : Int32 × cS → Prop} (hG : zOK G) (hR : ∀ v S', St u g H T S' → Mono S0 S' → X (v, S') → Q (some (.int v)) S') {x0 : Option Nat} {x1 : Int32} {x2 : Option Nat} {x3 : Int32} (hS : St u g H T S) (hM : Mono S0 S) (t_x0 : tN g H x0) (t_x2 : tK S 5 x2) (ok : KO_X3_receive_104 N g H T x0 x1 x2 x3 S) (hx : X (KF_X3_receive_104 N g H T x0 x1 x2 x3 S)) : cX G o dX3_receive mX3_receive 104 [some (va_rf x0), some (.int x1), some (va_rf x2), some (.int x3), none, none, none] [] S Q := by
  unfold KO_X3_receive_104 at ok
  unfold KF_X3_receive_104 at hx
  refine c_iconst (v := nI 1) dX3_receive_104 (by decide) ?_
  refine c_goto (tgt := 109) dX3_receive_105 (by decide) ?_
  exact cX.cutz (kb_X3_receive_109 hG hR hS hM t_x0 t_x2 ok hx) ⟨rfl, rfl, rfl, rfl, trivial⟩
def KF_X3_receive_88 (N g H T : Nat) (s0 : Int32) (S : cS) : Int32 × cS := (s0, S)
def KO_X3_receive_88 (N g H T : Nat) (s0 : Int32) (S : cS) : Prop := narrow .boolean (.int s0) = .int s0
set_option maxRecDepth 100000 in
set_option maxHeartbeats 4000000 in
theorem kb_X3_receive_88 {G : zG} {o : cO} {u g H T N : Nat} {S : cS} {S0 : cS} {Q : Option Value → cS → Prop} {X : Int32 × cS → Prop} (hG : zOK G) (hR : ∀ v S', St u g H T S' → Mono S0 S' → X (v, S') → Q (some (.int v)) S') {s0 : Int32} (hS : St u g H T S) (hM : Mono S0 S) (ok : KO_X3_receive_88 N g H T s0 S) (hx : X (KF_X3_receive_88 N g H T s0 S)) : cX G o dX3_receive mX3_receive 88 [none, none, none, none, none, none, none] [.int s0] S Q := by
  unfold KO_X3_receive_88 at ok
  unfold KF_X3_receive_88 at hx
  exact c_ireturn rfl ok dX3_receive_88 (hR _ _ hS hM hx)
def KF_X3_receive_87 (N g H T : Nat)  (S : cS) : Int32 × cS := (KF_X3_receive_88 N g H T (nI 0) S)
def KO_X3_receive_87 (N g H T : Nat)  (S : cS) : Prop := KO_X3_receive_88 N g H T (nI 0) S
set_option maxRecDepth 100000 in
set_option maxHeartbeats 4000000 in
theorem kb_X3_receive_87 {G : zG} {o : cO} {u g H T N : Nat} {S : cS} {S0 : cS} {Q : Option Value → cS → Prop} {X : Int32 × cS → Prop} (hG : zOK G) (hR : ∀ v S', St u g H T S' → Mono S0 S' → X (v, S') → Q (some (.int v)) S') (hS : St u g H T S) (hM : Mono S0 S) (ok : KO_X3_receive_87 N g H T S) (hx : X (KF_X3_receive_87 N g H T S)) : cX G o dX3_receive mX3_receive 87 [none, none, none, none, none, none, none] [] S Q := by
  unfold KO_X3_receive_87 at ok
  unfold KF_X3_receive_87 at hx
  refine c_iconst (v := nI 0) dX3_receive_87 (by decide) ?_
  exact cX.cutz (kb_X3_receive_88 hG hR hS hM  ok hx) trivial
def KF_X3_receive_80 (N g H T : Nat) (s0 : Int32) (S : cS) : Int32 × cS := (if s0 = 0 then (KF_X3_receive_87 N g H T S) else (KF_X3_receive_88 N g H T (nI 1) S))
def KO_X3_receive_80 (N g H T : Nat) (s0 : Int32) (S : cS) : Prop := ((s0 = 0 → KO_X3_receive_87 N g H T S) ∧ (¬ s0 = 0 → KO_X3_receive_88 N g H T (nI 1) S))
set_option maxRecDepth 100000 in
set_option maxHeartbeats 4000000 in
theorem kb_X3_receive_80 {G : zG} {o : cO} {u g H T N : Nat} {S : cS} {S0 : cS} {Q : Option Value → cS → Prop} {X : Int32 × cS → Prop} (hG : zOK G) (hR : ∀ v S', St u g H T S' → Mono S0 S' → X (v, S') → Q (some (.int v)) S') {s0 : Int32} (hS : St u g H T S) (hM : Mono S0 S) (ok : KO_X3_receive_80 N g H T s0 S) (hx : X (KF_X3_receive_80 N g H T s0 S)) : cX G o dX3_receive mX3_receive 80 [none, none, none, none, none, none, none] [.int s0] S Q := by
  unfold KO_X3_receive_80 at ok
  unfold KF_X3_receive_80 at hx
  refine c_if_eq (tgt := 87) dX3_receive_80 (by decide) (fun c_80 => ?_) (fun c_80 => ?_)
  · have ok := ok.1 c_80
    have hx := xif_p c_80 hx
    exact cX.cutz (kb_X3_receive_87 hG hR hS hM  ok hx) trivial
  · have ok := ok.2 c_80
    have hx := xif_n c_80 hx
    refine c_iconst (v := nI 1) dX3_receive_83 (by decide) ?_
    refine c_goto (tgt := 88) dX3_receive_84 (by decide) ?_
    exact cX.cutz (kb_X3_receive_88 hG hR hS hM  ok hx) trivial
def KF_X3_receive_51 (N g H T : Nat)  (S : cS) : Int32 × cS := ((nI 0), S)
def KO_X3_receive_51 (N g H T : Nat)  (S : cS) : Prop := True
set_option maxRecDepth 100000 in
set_option maxHeartbeats 4000000 in
theorem kb_X3_receive_51 {G : zG} {o : cO} {u g H T N : Nat} {S : cS} {S0 : cS} {Q : Option Value → cS → Prop} {X : Int32 × cS → Prop} (hG : zOK G) (hR : ∀ v S', St u g H T S' → Mono S0 S' → X (v, S') → Q (some (.int v)) S') (hS : St u g H T S) (hM : Mono S0 S) (ok : KO_X3_receive_51 N g H T S) (hx : X (KF_X3_receive_51 N g H T S)) : cX G o dX3_receive mX3_receive 51 [none, none, none, none, none, none, none] [] S Q := by
  unfold KO_X3_receive_51 at ok
  unfold KF_X3_receive_51 at hx
  refine c_iconst (v := nI 0) dX3_receive_51 (by decide) ?_
  exact c_ireturn rfl rfl dX3_receive_52 (hR _ _ hS hM hx)
def KF_X3_receive_31 (N g H T : Nat) (x0 : Option Nat) (x1 : Int32) (x2 : Option Nat) (s0 : Int32) (S : cS) : Int32 × cS := (if s0 = 0 then (KF_X3_receive_51 N g H T S) else (KF_X3_receive_51 N g H T (k_X10_spread N g H T S (g + 8) (cI S 1 (za x0)) x2 x1 (k_X5_signer N g H T S (za x2)))))
def KO_X3_receive_31 (N g H T : Nat) (x0 : Option Nat) (x1 : Int32) (x2 : Option Nat) (s0 : Int32) (S : cS) : Prop := ((s0 = 0 → KO_X3_receive_51 N g H T S) ∧ (¬ s0 = 0 → (¬ x0 = none) ∧ (¬ x2 = none ∧ p_X5_signer N g H T S (za x2)) ∧ (p_X10_spread N g H T S (g + 8) (cI S 1 (za x0)) x2 x1 (k_X5_signer N g H T S (za x2))) ∧ KO_X3_receive_51 N g H T (k_X10_spread N g H T S (g + 8) (cI S 1 (za x0)) x2 x1 (k_X5_signer N g H T S (za x2)))))
set_option maxRecDepth 100000 in
set_option maxHeartbeats 4000000 in
theorem kb_X3_receive_31 {G : zG} {o : cO} {u g H T N : Nat} {S : cS} {S0 : cS} {Q : Option Value → cS → Prop} {X : Int32 × cS → Prop} (hG : zOK G) (hR : ∀ v S', St u g H T S' → Mono S0 S' → X (v, S') → Q (some (.int v)) S') {x0 : Option Nat} {x1 : Int32} {x2 : Option Nat} {s0 : Int32} (hS : St u g H T S) (hM : Mono S0 S) (t_x0 : tN g H x0) (t_x2 : tK S 5 x2) (ok : KO_X3_receive_31 N g H T x0 x1 x2 s0 S) (hx : X (KF_X3_receive_31 N g H T x0 x1 x2 s0 S)) : cX G o dX3_receive mX3_receive 31 [some (va_rf x0), some (.int x1), some (va_rf x2), none, none, none, none] [.int s0] S Q := by
  unfold KO_X3_receive_31 at ok
  unfold KF_X3_receive_31 at hx
  refine c_if_eq (tgt := 51) dX3_receive_31 (by decide) (fun c_31 => ?_) (fun c_31 => ?_)
  · have ok := ok.1 c_31
    have hx := xif_p c_31 hx
    exact cX.cutz (kb_X3_receive_51 hG hR hS hM  ok hx) trivial
  · have ok := ok.2 c_31
    have hx := xif_n c_31 hx
    refine c_aload_nQ dX3_receive_34 rfl rfl ?_
    have nn_35 := ok.1
    refine c_getS (C := RX6) (T := TX6) (N := 19) (ci := 5) (k := 0) ⟨rfl, inT6, by decide, fX3_33⟩ (by decide) (by decide) (by decide) dX3_receive_35 (hS.kN t_x0 ok.1) (hS.r (c := 5) (tN.o t_x0 ok.1) rfl (by omega)) ?_
    have ok := ok.2
    refine c_aload_nQ dX3_receive_38 rfl rfl ?_
    refine c_getI (C := RX6) (T := TX6) (N := 19) (ci := 5) (k := 1) ⟨rfl, inT6, by decide, fX3_37⟩ (by decide) (by decide) (by decide) dX3_receive_39 (hS.kN t_x0 nn_35) ?_
    refine c_aload_nQ dX3_receive_42 rfl rfl ?_
    refine c_iload_n dX3_receive_43 rfl rfl ?_
    refine c_aload_nQ dX3_receive_44 rfl rfl ?_
    have nn_45 := ok.1.1
    refine c_V0iE (ci := 4) (rr := (RX5, TX5, 7)) (y' := mX5_signer) dX3_receive_45 lX3_41 kX5_signer ⟨by decide, by decide⟩ rfl rfl (by decide) (tK.cis t_x2 nn_45) (by simp only [List.map_cons, List.map_nil, List.sum_cons, List.sum_nil, zcat_rf, zcat_i, zcat_l, zcat_r] <;> decide) (kc_X5_signer hG hS (t_x2 _ (za_of nn_45)) ok.1.2) ?_
    have ok := ok.2
    refine c_V4vK (ci := 8) (rr := (RX10, TX10, 12)) (y' := mX10_spread) dX3_receive_48 lX3_44 kX10_spread ⟨by decide, by decide⟩ rfl rfl (by decide) (hS.k (o50 (tN.o t_x0 nn_35))) (Nat.le_of_ble_eq_true rfl) (kc_X10_spread hG hS (o50 (tN.o t_x0 nn_35)) t_x2 ok.1) (fun ⟨hS, hm_48⟩ => ?_)
    have hM := hM.trans hm_48
    have ok := ok.2
    exact cX.cutz (kb_X3_receive_51 hG hR hS hM  ok hx) trivial
def KF_X3_receive_15 (N g H T : Nat)  (S : cS) : Int32 × cS := ((nI 0), S)
def KO_X3_receive_15 (N g H T : Nat)  (S : cS) : Prop := True
set_option maxRecDepth 100000 in
set_option maxHeartbeats 4000000 in
theorem kb_X3_receive_15 {G : zG} {o : cO} {u g H T N : Nat} {S : cS} {S0 : cS} {Q : Option Value → cS → Prop} {X : Int32 × cS → Prop} (hG : zOK G) (hR : ∀ v S', St u g H T S' → Mono S0 S' → X (v, S') → Q (some (.int v)) S') (hS : St u g H T S) (hM : Mono S0 S) (ok : KO_X3_receive_15 N g H T S) (hx : X (KF_X3_receive_15 N g H T S)) : cX G o dX3_receive mX3_receive 15 [none, none, none, none, none, none, none] [] S Q := by
  unfold KO_X3_receive_15 at ok
  unfold KF_X3_receive_15 at hx
  refine c_iconst (v := nI 0) dX3_receive_15 (by decide) ?_
  exact c_ireturn rfl rfl dX3_receive_16 (hR _ _ hS hM hx)
def KF_X3_receive_0 (N g H T : Nat) (x0 : Option Nat) (x1 : Int32) (x2 : Option Nat) (S : cS) : Int32 × cS := (if (k_X5_kind N g H T S (za x2)) = 0 then (KF_X3_receive_15 N g H T (k_X3_takePayment N g H T S x0 x1 x2)) else (if (k_X5_kind N g H T S (za x2)) = (nI 6) then (KF_X3_receive_31 N g H T x0 x1 x2 ((k_X8_addProof N g H T S ((za x0) + 14) x2).1) (k_X8_addProof N g H T S ((za x0) + 14) x2).2) else (if (k_X5_kind N g H T S (za x2)) = (nI 7) then (if (k_X5_two N g H T S (za x2) (nI 1)) ≤ (cI S 9 (za x0)) then (KF_X3_receive_87 N g H T S) else (KF_X3_receive_80 N g H T ((k_X8_holdSnapshot N g H T S ((za x0) + 14) x1 x2).1) (k_X8_holdSnapshot N g H T S ((za x0) + 14) x1 x2).2)) else (if (k_X5_kind N g H T S (za x2)) = (nI 1) then (KF_X3_receive_104 N g H T x0 x1 x2 (k_X5_kind N g H T S (za x2)) S) else (if (k_X5_kind N g H T S (za x2)) = (nI 2) then (KF_X3_receive_104 N g H T x0 x1 x2 (k_X5_kind N g H T S (za x2)) S) else (if (k_X5_kind N g H T S (za x2)) = (nI 3) then (KF_X3_receive_104 N g H T x0 x1 x2 (k_X5_kind N g H T S (za x2)) S) else (KF_X3_receive_109 N g H T x0 x1 x2 (k_X5_kind N g H T S (za x2)) (nI 0) S)))))))
def KO_X3_receive_0 (N g H T : Nat) (x0 : Option Nat) (x1 : Int32) (x2 : Option Nat) (S : cS) : Prop := (¬ x2 = none ∧ p_X5_kind N g H T S (za x2)) ∧ (((k_X5_kind N g H T S (za x2)) = 0 → (p_X3_takePayment N g H T S x0 x1 x2) ∧ KO_X3_receive_15 N g H T (k_X3_takePayment N g H T S x0 x1 x2)) ∧ (¬ (k_X5_kind N g H T S (za x2)) = 0 → (((k_X5_kind N g H T S (za x2)) = (nI 6) → (¬ x0 = none) ∧ (p_X8_addProof N g H T S ((za x0) + 14) x2) ∧ KO_X3_receive_31 N g H T x0 x1 x2 ((k_X8_addProof N g H T S ((za x0) + 14) x2).1) (k_X8_addProof N g H T S ((za x0) + 14) x2).2) ∧ (¬ (k_X5_kind N g H T S (za x2)) = (nI 6) → (((k_X5_kind N g H T S (za x2)) = (nI 7) → (p_X5_two N g H T S (za x2) (nI 1)) ∧ (¬ x0 = none) ∧ (((k_X5_two N g H T S (za x2) (nI 1)) ≤ (cI S 9 (za x0)) → KO_X3_receive_87 N g H T S) ∧ (¬ (k_X5_two N g H T S (za x2) (nI 1)) ≤ (cI S 9 (za x0)) → (p_X8_holdSnapshot N g H T S ((za x0) + 14) x1 x2) ∧ KO_X3_receive_80 N g H T ((k_X8_holdSnapshot N g H T S ((za x0) + 14) x1 x2).1) (k_X8_holdSnapshot N g H T S ((za x0) + 14) x1 x2).2))) ∧ (¬ (k_X5_kind N g H T S (za x2)) = (nI 7) → (((k_X5_kind N g H T S (za x2)) = (nI 1) → KO_X3_receive_104 N g H T x0 x1 x2 (k_X5_kind N g H T S (za x2)) S) ∧ (¬ (k_X5_kind N g H T S (za x2)) = (nI 1) → (((k_X5_kind N g H T S (za x2)) = (nI 2) → KO_X3_receive_104 N g H T x0 x1 x2 (k_X5_kind N g H T S (za x2)) S) ∧ (¬ (k_X5_kind N g H T S (za x2)) = (nI 2) → (((k_X5_kind N g H T S (za x2)) = (nI 3) → KO_X3_receive_104 N g H T x0 x1 x2 (k_X5_kind N g H T S (za x2)) S) ∧ (¬ (k_X5_kind N g H T S (za x2)) = (nI 3) → KO_X3_receive_109 N g H T x0 x1 x2 (k_X5_kind N g H T S (za x2)) (nI 0) S))))))))))))
set_option maxRecDepth 100000 in
set_option maxHeartbeats 4000000 in
theorem kb_X3_receive_0 {G : zG} {o : cO} {u g H T N : Nat} {S : cS} {S0 : cS} {Q : Option Value → cS → Prop} {X : Int32 × cS → Prop} (hG : zOK G) (hR : ∀ v S', St u g H T S' → Mono S0 S' → X (v, S') → Q (some (.int v)) S') {x0 : Option Nat} {x1 : Int32} {x2 : Option Nat} (hS : St u g H T S) (hM : Mono S0 S) (t_x0 : tN g H x0) (t_x2 : tK S 5 x2) (ok : KO_X3_receive_0 N g H T x0 x1 x2 S) (hx : X (KF_X3_receive_0 N g H T x0 x1 x2 S)) : cX G o dX3_receive mX3_receive 0 [some (va_rf x0), some (.int x1), some (va_rf x2), none, none, none, none] [] S Q := by
  unfold KO_X3_receive_0 at ok
  unfold KF_X3_receive_0 at hx
  refine c_aload_nQ dX3_receive_0 rfl rfl ?_
  have nn_1 := ok.1.1
  refine c_V0iE (ci := 4) (rr := (RX5, TX5, 7)) (y' := mX5_kind) dX3_receive_1 lX3_9 kX5_kind ⟨by decide, by decide⟩ rfl rfl (by decide) (tK.cis t_x2 nn_1) (Nat.le_of_ble_eq_true rfl) (kc_X5_kind hG hS (t_x2 _ (za_of nn_1)) ok.1.2) ?_
  have ok := ok.2
  refine c_istore_3 dX3_receive_4 (by decide) (by simp [zok, zg, zcat_rf]) ?_
  refine c_iload_n dX3_receive_5 rfl rfl ?_
  refine c_if_ne (tgt := 17) dX3_receive_6 (by decide) (fun c_6 => ?_) (fun c_6 => ?_)
  · have ok := ok.2 c_6
    have hx := xif_n c_6 hx
    refine c_iload_n dX3_receive_17 rfl rfl ?_
    refine c_bipush (v := nI 6) dX3_receive_18 (by decide) ?_
    refine c_icmp_ne (tgt := 53) dX3_receive_20 (by decide) (fun c_20 => ?_) (fun c_20 => ?_)
    · have ok := ok.2 c_20
      have hx := xif_n c_20 hx
      refine c_iload_n dX3_receive_53 rfl rfl ?_
      refine c_bipush (v := nI 7) dX3_receive_54 (by decide) ?_
      refine c_icmp_ne (tgt := 89) dX3_receive_56 (by decide) (fun c_56 => ?_) (fun c_56 => ?_)
      · have ok := ok.2 c_56
        have hx := xif_n c_56 hx
        refine c_iload_n dX3_receive_89 rfl rfl ?_
        refine c_iconst (v := nI 1) dX3_receive_90 (by decide) ?_
        refine c_icmp_eq (tgt := 104) dX3_receive_91 (by decide) (fun c_91 => ?_) (fun c_91 => ?_)
        · have ok := ok.1 c_91
          have hx := xif_p c_91 hx
          exact cX.cutz (kb_X3_receive_104 hG hR hS hM t_x0 t_x2 ok hx) ⟨rfl, rfl, rfl, rfl, trivial⟩
        · have ok := ok.2 c_91
          have hx := xif_n c_91 hx
          refine c_iload_n dX3_receive_94 rfl rfl ?_
          refine c_iconst (v := nI 2) dX3_receive_95 (by decide) ?_
          refine c_icmp_eq (tgt := 104) dX3_receive_96 (by decide) (fun c_96 => ?_) (fun c_96 => ?_)
          · have ok := ok.1 c_96
            have hx := xif_p c_96 hx
            exact cX.cutz (kb_X3_receive_104 hG hR hS hM t_x0 t_x2 ok hx) ⟨rfl, rfl, rfl, rfl, trivial⟩
          · have ok := ok.2 c_96
            have hx := xif_n c_96 hx
            refine c_iload_n dX3_receive_99 rfl rfl ?_
            refine c_iconst (v := nI 3) dX3_receive_100 (by decide) ?_
            refine c_icmp_ne (tgt := 108) dX3_receive_101 (by decide) (fun c_101 => ?_) (fun c_101 => ?_)
            · have ok := ok.2 c_101
              have hx := xif_n c_101 hx
              refine c_iconst (v := nI 0) dX3_receive_108 (by decide) ?_
              exact cX.cutz (kb_X3_receive_109 hG hR hS hM t_x0 t_x2 ok hx) ⟨rfl, rfl, rfl, rfl, trivial⟩
            · have ok := ok.1 c_101
              have hx := xif_p c_101 hx
              exact cX.cutz (kb_X3_receive_104 hG hR hS hM t_x0 t_x2 ok hx) ⟨rfl, rfl, rfl, rfl, trivial⟩
      · have ok := ok.1 c_56
        have hx := xif_p c_56 hx
        refine c_aload_nQ dX3_receive_59 rfl rfl ?_
        refine c_iconst (v := nI 1) dX3_receive_60 (by decide) ?_
        refine c_V1iE (ci := 4) (rr := (RX5, TX5, 7)) (y' := mX5_two) dX3_receive_61 lX3_50 kX5_two ⟨by decide, by decide⟩ rfl rfl (by decide) (tK.cis t_x2 nn_1) (Nat.le_of_ble_eq_true rfl) (kc_X5_two hG hS (t_x2 _ (za_of nn_1)) ok.1) ?_
        have ok := ok.2
        refine c_aload_nQ dX3_receive_64 rfl rfl ?_
        have nn_65 := ok.1
        refine c_getI (C := RX6) (T := TX6) (N := 19) (ci := 5) (k := 9) ⟨rfl, inT6, by decide, fX3_54⟩ (by decide) (by decide) (by decide) dX3_receive_65 (hS.kN t_x0 ok.1) ?_
        have ok := ok.2
        refine c_icmp_le (tgt := 87) dX3_receive_68 (by decide) (fun c_68 => ?_) (fun c_68 => ?_)
        · have ok := ok.1 c_68
          have hx := xif_p c_68 hx
          exact cX.cutz (kb_X3_receive_87 hG hR hS hM  ok hx) trivial
        · have ok := ok.2 c_68
          have hx := xif_n c_68 hx
          refine c_aload_nQ dX3_receive_71 rfl rfl ?_
          refine c_getS (C := RX6) (T := TX6) (N := 19) (ci := 5) (k := 3) ⟨rfl, inT6, by decide, fX3_21⟩ (by decide) (by decide) (by decide) dX3_receive_72 (hS.kN t_x0 nn_65) (hS.r (c := 5) (tN.o t_x0 nn_65) rfl (by omega)) ?_
          refine c_iload_n dX3_receive_75 rfl rfl ?_
          refine c_aload_nQ dX3_receive_76 rfl rfl ?_
          refine c_V2iK (ci := 6) (rr := (RX8, TX8, 14)) (y' := mX8_holdSnapshot) dX3_receive_77 lX3_57 kX8_holdSnapshot ⟨by decide, by decide⟩ rfl rfl (by decide) (hS.k (o53 (tN.o t_x0 nn_65))) (Nat.le_of_ble_eq_true rfl) (kc_X8_holdSnapshot hG hS (o53 (tN.o t_x0 nn_65)) t_x2 ok.1) (fun ⟨hS, hm_77⟩ => ?_)
          have hM := hM.trans hm_77
          have ok := ok.2
          exact cX.cutz (kb_X3_receive_80 hG hR hS hM  ok hx) trivial
    · have ok := ok.1 c_20
      have hx := xif_p c_20 hx
      refine c_aload_nQ dX3_receive_23 rfl rfl ?_
      have nn_24 := ok.1
      refine c_getS (C := RX6) (T := TX6) (N := 19) (ci := 5) (k := 3) ⟨rfl, inT6, by decide, fX3_21⟩ (by decide) (by decide) (by decide) dX3_receive_24 (hS.kN t_x0 ok.1) (hS.r (c := 5) (tN.o t_x0 ok.1) rfl (by omega)) ?_
      have ok := ok.2
      refine c_aload_nQ dX3_receive_27 rfl rfl ?_
      refine c_V1iK (ci := 6) (rr := (RX8, TX8, 14)) (y' := mX8_addProof) dX3_receive_28 lX3_27 kX8_addProof ⟨by decide, by decide⟩ rfl rfl (by decide) (hS.k (o53 (tN.o t_x0 nn_24))) (Nat.le_of_ble_eq_true rfl) (kc_X8_addProof hG hS (o53 (tN.o t_x0 nn_24)) t_x2 ok.1) (fun ⟨hS, hm_28⟩ => ?_)
      have hM := hM.trans hm_28
      have ok := ok.2
      exact cX.cutz (kb_X3_receive_31 hG hR hS hM t_x0 (hm_28.tK t_x2 (by decide)) ok hx) ⟨rfl, rfl, rfl, trivial⟩
  · have ok := ok.1 c_6
    have hx := xif_p c_6 hx
    refine c_aload_nQ dX3_receive_9 rfl rfl ?_
    refine c_iload_n dX3_receive_10 rfl rfl ?_
    refine c_aload_nQ dX3_receive_11 rfl rfl ?_
    refine c_S3vK (y' := mX3_takePayment) dX3_receive_12 lX3_15 kX3_takePayment ⟨by decide, by decide⟩ (Nat.le_of_ble_eq_true rfl) (kc_X3_takePayment hG hS t_x0 t_x2 ok.1) (fun ⟨hS, hm_12⟩ => ?_)
    have hM := hM.trans hm_12
    have ok := ok.2
    exact cX.cutz (kb_X3_receive_15 hG hR hS hM  ok hx) trivial
def k_X3_receive (N g H T : Nat) (S : cS) (x0 : Option Nat) (x1 : Int32) (x2 : Option Nat) : Int32 × cS := KF_X3_receive_0 N g H T x0 x1 x2 S
def p_X3_receive (N g H T : Nat) (S : cS) (x0 : Option Nat) (x1 : Int32) (x2 : Option Nat) : Prop := KO_X3_receive_0 N g H T x0 x1 x2 S
set_option maxRecDepth 100000 in
set_option maxHeartbeats 4000000 in
theorem kc_X3_receive {G : zG} {o : cO} {u g H T N : Nat} {S : cS} (hG : zOK G) {x0 : Option Nat} {x1 : Int32} {x2 : Option Nat} (hS : St u g H T S) (t_x0 : tN g H x0) (t_x2 : tK S 5 x2) (ok : p_X3_receive N g H T S x0 x1 x2) : cCi G o dX3_receive mX3_receive [va_rf x0, .int x1, va_rf x2] S (fun v S' => (v = (k_X3_receive N g H T S x0 x1 x2).1 ∧ S' = (k_X3_receive N g H T S x0 x1 x2).2) ∧ St u g H T S' ∧ Mono S S') := by
  refine cC.ofX rfl (by cases x0 <;> cases x2 <;> exact Nat.le_of_ble_eq_true rfl) ?_
  rw [show zargs mX3_receive.2.2.1 [va_rf x0, .int x1, va_rf x2] = [some (va_rf x0), some (.int x1), some (va_rf x2), none, none, none, none] from by cases x0 <;> cases x2 <;> rfl]
  exact cX.cutz (kb_X3_receive_0 (X := fun F => F = k_X3_receive N g H T S x0 x1 x2) hG (fun v S' h1 h2 h => ⟨v, rfl, ⟨by rw [← h], by rw [← h]⟩, h1, h2⟩) hS Mono.rfl' t_x0 t_x2 ok rfl) ⟨rfl, rfl, rfl, trivial⟩
/-! X4_open -/
def KF_X4_open_17 (N g H T : Nat) (x0 : Nat) (x3 : Int32) (S : cS) : cS := (csI (csA S (x0 + 3) (nI 3).toNatClampNeg ((x3.toInt8.toInt32).toInt8.toInt32)) 4 x0 (nI 8))
def KO_X4_open_17 (N g H T : Nat) (x0 : Nat) (x3 : Int32) (S : cS) : Prop := (vp_in (nI 3) 1024) ∧ True
set_option maxRecDepth 100000 in
set_option maxHeartbeats 4000000 in
theorem kb_X4_open_17 {G : zG} {o : cO} {u g H T N : Nat} {S : cS} {S0 : cS} {Q : Option Value → cS → Prop} {X : cS → Prop} (hG : zOK G) (hR : ∀ S', St u g H T S' → Mono S0 S' → X S' → Q none S') {x0 : Nat} {x3 : Int32} (hS : St u g H T S) (hM : Mono S0 S) (t_x0 : isO g H 3 x0) (ok : KO_X4_open_17 N g H T x0 x3 S) (hx : X (KF_X4_open_17 N g H T x0 x3 S)) : cX G o dX4_open mX4_open 17 [some (va_rf (some x0)), none, none, some (.int x3)] [] S Q := by
  unfold KO_X4_open_17 at ok
  unfold KF_X4_open_17 at hx
  refine c_aload_nQ dX4_open_17 rfl rfl ?_
  refine c_getS (C := RX4) (T := TX4) (N := 10) (ci := 3) (k := 2) ⟨rfl, inT4, by decide, fX4_21⟩ (by decide) (by decide) (by decide) dX4_open_18 (hS.k t_x0) (hS.r (c := 3) t_x0 rfl (by omega)) ?_
  refine c_iconst (v := nI 3) dX4_open_21 (by decide) ?_
  refine c_iload_n dX4_open_22 rfl rfl ?_
  refine c_i2b dX4_open_23 ?_
  refine c_bast dX4_open_24 ⟨(tK.cis (hS.rk (c := 3) (k := 2) t_x0 rfl (by omega)) (Option.some_ne_none _)), (vk_cast (hS.rl (c := 3) (k := 2) t_x0 rfl (by decide) (by omega)) ok.1)⟩ ?_
  have hS := hS.Ab (x0 + 3) (nI 3).toNatClampNeg (x3.toInt8.toInt32)
  have hM := hM.A (x0 + 3) (nI 3).toNatClampNeg ((x3.toInt8.toInt32).toInt8.toInt32)
  have ok := ok.2
  refine c_aload_nQ dX4_open_25 rfl rfl ?_
  refine c_bipush (v := nI 8) dX4_open_26 (by decide) ?_
  refine c_putI (C := RX4) (T := TX4) (N := 10) (ci := 3) (k := 4) ⟨rfl, inT4, by decide, fX4_32⟩ ftT4 rfl (by decide) (by decide) (by decide) rfl rfl dX4_open_28 (hS.k t_x0) ?_
  have hS := hS.I 4 x0 (nI 8)
  have hM := hM.I 4 x0 (nI 8)
  exact c_return rfl dX4_open_31 (hR _ hS hM hx)
def KF_X4_open_0 (N g H T : Nat) (x0 : Nat) (x1 : Int32) (x2 : Int32) (x3 : Int32) (S : cS) : cS := (KF_X4_open_17 N g H T x0 x3 (k_X11_putTwo N g H T (csA S (x0 + 3) (nI 0).toNatClampNeg ((x1.toInt8.toInt32).toInt8.toInt32)) (some (x0 + 3)) (nI 1) x2))
def KO_X4_open_0 (N g H T : Nat) (x0 : Nat) (x1 : Int32) (x2 : Int32) (x3 : Int32) (S : cS) : Prop := (vp_in (nI 0) 1024) ∧ (p_X11_putTwo N g H T (csA S (x0 + 3) (nI 0).toNatClampNeg ((x1.toInt8.toInt32).toInt8.toInt32)) (some (x0 + 3)) (nI 1) x2) ∧ KO_X4_open_17 N g H T x0 x3 (k_X11_putTwo N g H T (csA S (x0 + 3) (nI 0).toNatClampNeg ((x1.toInt8.toInt32).toInt8.toInt32)) (some (x0 + 3)) (nI 1) x2)
set_option maxRecDepth 100000 in
set_option maxHeartbeats 4000000 in
theorem kb_X4_open_0 {G : zG} {o : cO} {u g H T N : Nat} {S : cS} {S0 : cS} {Q : Option Value → cS → Prop} {X : cS → Prop} (hG : zOK G) (hR : ∀ S', St u g H T S' → Mono S0 S' → X S' → Q none S') {x0 : Nat} {x1 : Int32} {x2 : Int32} {x3 : Int32} (hS : St u g H T S) (hM : Mono S0 S) (t_x0 : isO g H 3 x0) (ok : KO_X4_open_0 N g H T x0 x1 x2 x3 S) (hx : X (KF_X4_open_0 N g H T x0 x1 x2 x3 S)) : cX G o dX4_open mX4_open 0 [some (va_rf (some x0)), some (.int x1), some (.int x2), some (.int x3)] [] S Q := by
  unfold KO_X4_open_0 at ok
  unfold KF_X4_open_0 at hx
  refine c_aload_nQ dX4_open_0 rfl rfl ?_
  refine c_getS (C := RX4) (T := TX4) (N := 10) (ci := 3) (k := 2) ⟨rfl, inT4, by decide, fX4_21⟩ (by decide) (by decide) (by decide) dX4_open_1 (hS.k t_x0) (hS.r (c := 3) t_x0 rfl (by omega)) ?_
  refine c_iconst (v := nI 0) dX4_open_4 (by decide) ?_
  refine c_iload_n dX4_open_5 rfl rfl ?_
  refine c_i2b dX4_open_6 ?_
  refine c_bast dX4_open_7 ⟨(tK.cis (hS.rk (c := 3) (k := 2) t_x0 rfl (by omega)) (Option.some_ne_none _)), (vk_cast (hS.rl (c := 3) (k := 2) t_x0 rfl (by decide) (by omega)) ok.1)⟩ ?_
  have hS := hS.Ab (x0 + 3) (nI 0).toNatClampNeg (x1.toInt8.toInt32)
  have hM := hM.A (x0 + 3) (nI 0).toNatClampNeg ((x1.toInt8.toInt32).toInt8.toInt32)
  have ok := ok.2
  refine c_aload_nQ dX4_open_8 rfl rfl ?_
  refine c_getS (C := RX4) (T := TX4) (N := 10) (ci := 3) (k := 2) ⟨rfl, inT4, by decide, fX4_21⟩ (by decide) (by decide) (by decide) dX4_open_9 (hS.k t_x0) (hS.r (c := 3) t_x0 rfl (by omega)) ?_
  refine c_iconst (v := nI 1) dX4_open_12 (by decide) ?_
  refine c_iload_n dX4_open_13 rfl rfl ?_
  refine c_SN3vK (y' := mX11_putTwo) dX4_open_14 lX4_28 kX11_putTwo ⟨by decide, by decide⟩ (Nat.le_of_ble_eq_true rfl) (kc_X11_putTwo hG hS (hS.rk (c := 3) (k := 2) t_x0 rfl (by omega)) ok.1) (fun ⟨hS, hm_14⟩ => ?_)
  have hM := hM.trans hm_14
  have ok := ok.2
  exact cX.cutz (kb_X4_open_17 hG hR hS hM t_x0 ok hx) ⟨rfl, rfl, trivial⟩
def k_X4_open (N g H T : Nat) (S : cS) (a0 : Nat) (x1 : Int32) (x2 : Int32) (x3 : Int32) : cS := KF_X4_open_0 N g H T a0 x1 x2 x3 S
def p_X4_open (N g H T : Nat) (S : cS) (a0 : Nat) (x1 : Int32) (x2 : Int32) (x3 : Int32) : Prop := KO_X4_open_0 N g H T a0 x1 x2 x3 S
set_option maxRecDepth 100000 in
set_option maxHeartbeats 4000000 in
theorem kc_X4_open {G : zG} {o : cO} {u g H T N : Nat} {S : cS} (hG : zOK G) {a0 : Nat} {x1 : Int32} {x2 : Int32} {x3 : Int32} (hS : St u g H T S) (t_x0 : isO g H 3 a0) (ok : p_X4_open N g H T S a0 x1 x2 x3) : cCv G o dX4_open mX4_open [.ref a0, .int x1, .int x2, .int x3] S (fun S' => S' = k_X4_open N g H T S a0 x1 x2 x3 ∧ St u g H T S' ∧ Mono S S') := by
  refine cC.ofX rfl (by exact Nat.le_of_ble_eq_true rfl) ?_
  show cX G o dX4_open mX4_open 0 [some (va_rf (some a0)), some (.int x1), some (.int x2), some (.int x3)] [] S _
  exact cX.cutz (kb_X4_open_0 (X := fun F => F = k_X4_open N g H T S a0 x1 x2 x3) hG (fun S' h1 h2 h => ⟨rfl, h, h1, h2⟩) hS Mono.rfl' t_x0 ok rfl) ⟨rfl, rfl, rfl, rfl, trivial⟩
/-! X4_add -/
def KF_X4_add_59 (N g H T : Nat)  (S : cS) : cS := S
def KO_X4_add_59 (N g H T : Nat)  (S : cS) : Prop := True
set_option maxRecDepth 100000 in
set_option maxHeartbeats 4000000 in
theorem kb_X4_add_59 {G : zG} {o : cO} {u g H T N : Nat} {S : cS} {S0 : cS} {Q : Option Value → cS → Prop} {X : cS → Prop} (hG : zOK G) (hR : ∀ S', St u g H T S' → Mono S0 S' → X S' → Q none S') (hS : St u g H T S) (hM : Mono S0 S) (ok : KO_X4_add_59 N g H T S) (hx : X (KF_X4_add_59 N g H T S)) : cX G o dX4_add mX4_add 59 [none, none, none, none] [] S Q := by
  unfold KO_X4_add_59 at ok
  unfold KF_X4_add_59 at hx
  exact c_return rfl dX4_add_59 (hR _ hS hM hx)
def KF_X4_add_47 (N g H T : Nat) (x0 : Nat) (x2 : Int32) (x3 : Int32) (S : cS) : cS := (KF_X4_add_59 N g H T (csI S 4 x0 ((cI S 4 x0) + (x3 - x2))))
def KO_X4_add_47 (N g H T : Nat) (x0 : Nat) (x2 : Int32) (x3 : Int32) (S : cS) : Prop := KO_X4_add_59 N g H T (csI S 4 x0 ((cI S 4 x0) + (x3 - x2)))
set_option maxRecDepth 100000 in
set_option maxHeartbeats 4000000 in
theorem kb_X4_add_47 {G : zG} {o : cO} {u g H T N : Nat} {S : cS} {S0 : cS} {Q : Option Value → cS → Prop} {X : cS → Prop} (hG : zOK G) (hR : ∀ S', St u g H T S' → Mono S0 S' → X S' → Q none S') {x0 : Nat} {x2 : Int32} {x3 : Int32} (hS : St u g H T S) (hM : Mono S0 S) (t_x0 : isO g H 3 x0) (ok : KO_X4_add_47 N g H T x0 x2 x3 S) (hx : X (KF_X4_add_47 N g H T x0 x2 x3 S)) : cX G o dX4_add mX4_add 47 [some (va_rf (some x0)), none, some (.int x2), some (.int x3)] [] S Q := by
  unfold KO_X4_add_47 at ok
  unfold KF_X4_add_47 at hx
  refine c_aload_nQ dX4_add_47 rfl rfl ?_
  refine c_dup dX4_add_48 (zcat_rf _) ?_
  refine c_getI (C := RX4) (T := TX4) (N := 10) (ci := 3) (k := 4) ⟨rfl, inT4, by decide, fX4_32⟩ (by decide) (by decide) (by decide) dX4_add_49 (hS.k t_x0) ?_
  refine c_iload_n dX4_add_52 rfl rfl ?_
  refine c_iload_n dX4_add_53 rfl rfl ?_
  refine c_isub dX4_add_54 ?_
  refine c_iadd dX4_add_55 ?_
  refine c_putI (C := RX4) (T := TX4) (N := 10) (ci := 3) (k := 4) ⟨rfl, inT4, by decide, fX4_32⟩ ftT4 rfl (by decide) (by decide) (by decide) rfl rfl dX4_add_56 (hS.k t_x0) ?_
  have hS := hS.I 4 x0 ((cI S 4 x0) + (x3 - x2))
  have hM := hM.I 4 x0 ((cI S 4 x0) + (x3 - x2))
  exact cX.cutz (kb_X4_add_59 hG hR hS hM  ok hx) trivial
def KF_X4_add_0 (N g H T : Nat) (x0 : Nat) (x1 : Option Nat) (x2 : Int32) (x3 : Int32) (S : cS) : cS := (if x2 < 0 then (KF_X4_add_59 N g H T S) else (if x3 < x2 then (KF_X4_add_59 N g H T S) else (if (nI (cL S (za x1))) < x3 then (KF_X4_add_59 N g H T S) else (if (nI 1024) < (((cI S 4 x0) + x3) - x2) then (KF_X4_add_59 N g H T S) else (KF_X4_add_47 N g H T x0 x2 x3 (csArow S (x0 + 3) (va_cpy (cA S (za x1)) (cA S (x0 + 3)) x2.toNatClampNeg (cI S 4 x0).toNatClampNeg (x3 - x2).toNatClampNeg)))))))
def KO_X4_add_0 (N g H T : Nat) (x0 : Nat) (x1 : Option Nat) (x2 : Int32) (x3 : Int32) (S : cS) : Prop := ((x2 < 0 → KO_X4_add_59 N g H T S) ∧ (¬ x2 < 0 → ((x3 < x2 → KO_X4_add_59 N g H T S) ∧ (¬ x3 < x2 → (¬ x1 = none) ∧ (((nI (cL S (za x1))) < x3 → KO_X4_add_59 N g H T S) ∧ (¬ (nI (cL S (za x1))) < x3 → (((nI 1024) < (((cI S 4 x0) + x3) - x2) → KO_X4_add_59 N g H T S) ∧ (¬ (nI 1024) < (((cI S 4 x0) + x3) - x2) → (¬ x1 = none ∧ (¬ x2 < 0 ∧ ¬ (cI S 4 x0) < 0 ∧ ¬ (x3 - x2) < 0) ∧ x2.toNatClampNeg + (x3 - x2).toNatClampNeg ≤ (cL S (za x1)) ∧ (cI S 4 x0).toNatClampNeg + (x3 - x2).toNatClampNeg ≤ 1024) ∧ KO_X4_add_47 N g H T x0 x2 x3 (csArow S (x0 + 3) (va_cpy (cA S (za x1)) (cA S (x0 + 3)) x2.toNatClampNeg (cI S 4 x0).toNatClampNeg (x3 - x2).toNatClampNeg))))))))))
set_option maxRecDepth 100000 in
set_option maxHeartbeats 4000000 in
theorem kb_X4_add_0 {G : zG} {o : cO} {u g H T N : Nat} {S : cS} {S0 : cS} {Q : Option Value → cS → Prop} {X : cS → Prop} (hG : zOK G) (hR : ∀ S', St u g H T S' → Mono S0 S' → X S' → Q none S') {x0 : Nat} {x1 : Option Nat} {x2 : Int32} {x3 : Int32} (hS : St u g H T S) (hM : Mono S0 S) (t_x0 : isO g H 3 x0) (t_x1 : tK S 20 x1) (ok : KO_X4_add_0 N g H T x0 x1 x2 x3 S) (hx : X (KF_X4_add_0 N g H T x0 x1 x2 x3 S)) : cX G o dX4_add mX4_add 0 [some (va_rf (some x0)), some (va_rf x1), some (.int x2), some (.int x3)] [] S Q := by
  unfold KO_X4_add_0 at ok
  unfold KF_X4_add_0 at hx
  refine c_iload_n dX4_add_0 rfl rfl ?_
  refine c_if_lt (tgt := 59) dX4_add_1 (by decide) (fun c_1 => ?_) (fun c_1 => ?_)
  · have ok := ok.1 c_1
    have hx := xif_p c_1 hx
    exact cX.cutz (kb_X4_add_59 hG hR hS hM  ok hx) trivial
  · have ok := ok.2 c_1
    have hx := xif_n c_1 hx
    refine c_iload_n dX4_add_4 rfl rfl ?_
    refine c_iload_n dX4_add_5 rfl rfl ?_
    refine c_icmp_lt (tgt := 59) dX4_add_6 (by decide) (fun c_6 => ?_) (fun c_6 => ?_)
    · have ok := ok.1 c_6
      have hx := xif_p c_6 hx
      exact cX.cutz (kb_X4_add_59 hG hR hS hM  ok hx) trivial
    · have ok := ok.2 c_6
      have hx := xif_n c_6 hx
      refine c_iload_n dX4_add_9 rfl rfl ?_
      refine c_aload_nQ dX4_add_10 rfl rfl ?_
      refine c_alenS (t := 0) (ty := .byte) rfl dX4_add_11 (tK.cis t_x1 ok.1) rfl ?_
      have ok := ok.2
      refine c_icmp_gt (tgt := 59) dX4_add_12 (by decide) (fun c_12 => ?_) (fun c_12 => ?_)
      · have ok := ok.1 c_12
        have hx := xif_p c_12 hx
        exact cX.cutz (kb_X4_add_59 hG hR hS hM  ok hx) trivial
      · have ok := ok.2 c_12
        have hx := xif_n c_12 hx
        refine c_aload_nQ dX4_add_15 rfl rfl ?_
        refine c_getI (C := RX4) (T := TX4) (N := 10) (ci := 3) (k := 4) ⟨rfl, inT4, by decide, fX4_32⟩ (by decide) (by decide) (by decide) dX4_add_16 (hS.k t_x0) ?_
        refine c_iload_n dX4_add_19 rfl rfl ?_
        refine c_iadd dX4_add_20 ?_
        refine c_iload_n dX4_add_21 rfl rfl ?_
        refine c_isub dX4_add_22 ?_
        refine c_aload_nQ dX4_add_23 rfl rfl ?_
        refine c_getS (C := RX4) (T := TX4) (N := 10) (ci := 3) (k := 2) ⟨rfl, inT4, by decide, fX4_21⟩ (by decide) (by decide) (by decide) dX4_add_24 (hS.k t_x0) (hS.r (c := 3) t_x0 rfl (by omega)) ?_
        refine c_alenS (t := 0) (ty := .byte) rfl dX4_add_27 (tK.cis (hS.rk (c := 3) (k := 2) t_x0 rfl (by omega)) (Option.some_ne_none _)) (hS.rl (c := 3) (k := 2) t_x0 rfl (by decide) (by omega)) ?_
        refine c_icmp_gt (tgt := 59) dX4_add_28 (by decide) (fun c_28 => ?_) (fun c_28 => ?_)
        · have ok := ok.1 c_28
          have hx := xif_p c_28 hx
          exact cX.cutz (kb_X4_add_59 hG hR hS hM  ok hx) trivial
        · have ok := ok.2 c_28
          have hx := xif_n c_28 hx
          refine c_aload_nQ dX4_add_31 rfl rfl ?_
          refine c_iload_n dX4_add_32 rfl rfl ?_
          refine c_aload_nQ dX4_add_33 rfl rfl ?_
          refine c_getS (C := RX4) (T := TX4) (N := 10) (ci := 3) (k := 2) ⟨rfl, inT4, by decide, fX4_21⟩ (by decide) (by decide) (by decide) dX4_add_34 (hS.k t_x0) (hS.r (c := 3) t_x0 rfl (by omega)) ?_
          refine c_aload_nQ dX4_add_37 rfl rfl ?_
          refine c_getI (C := RX4) (T := TX4) (N := 10) (ci := 3) (k := 4) ⟨rfl, inT4, by decide, fX4_32⟩ (by decide) (by decide) (by decide) dX4_add_38 (hS.k t_x0) ?_
          refine c_iload_n dX4_add_41 rfl rfl ?_
          refine c_iload_n dX4_add_42 rfl rfl ?_
          refine c_isub dX4_add_43 ?_
          have tq_44 : tK S 20 (some (za x1)) := tK_some (tK.cis t_x1 ok.1.1).2
          refine c_copy0 hG dX4_add_44 qX4_36 (by decide) (by decide) ⟨tK.cis t_x1 ok.1.1, tK.cis (hS.rk (c := 3) (k := 2) t_x0 rfl (by omega)) (Option.some_ne_none _), ok.1.2.1, ok.1.2.2.1, (le_cast (hS.rl (c := 3) (k := 2) t_x0 rfl (by decide) (by omega)) ok.1.2.2.2)⟩ ?_
          have hS := hS.Ac (x0 + 3) (za x1) x2.toNatClampNeg (cI S 4 x0).toNatClampNeg (x3 - x2).toNatClampNeg tq_44
          have hM := hM.Ar (x0 + 3) (va_cpy (cA S (za x1)) (cA S (x0 + 3)) x2.toNatClampNeg (cI S 4 x0).toNatClampNeg (x3 - x2).toNatClampNeg)
          have ok := ok.2
          exact cX.cutz (kb_X4_add_47 hG hR hS hM t_x0 ok hx) ⟨rfl, rfl, rfl, trivial⟩
def k_X4_add (N g H T : Nat) (S : cS) (a0 : Nat) (x1 : Option Nat) (x2 : Int32) (x3 : Int32) : cS := KF_X4_add_0 N g H T a0 x1 x2 x3 S
def p_X4_add (N g H T : Nat) (S : cS) (a0 : Nat) (x1 : Option Nat) (x2 : Int32) (x3 : Int32) : Prop := KO_X4_add_0 N g H T a0 x1 x2 x3 S
set_option maxRecDepth 100000 in
set_option maxHeartbeats 4000000 in
theorem kc_X4_add {G : zG} {o : cO} {u g H T N : Nat} {S : cS} (hG : zOK G) {a0 : Nat} {x1 : Option Nat} {x2 : Int32} {x3 : Int32} (hS : St u g H T S) (t_x0 : isO g H 3 a0) (t_x1 : tK S 20 x1) (ok : p_X4_add N g H T S a0 x1 x2 x3) : cCv G o dX4_add mX4_add [.ref a0, va_rf x1, .int x2, .int x3] S (fun S' => S' = k_X4_add N g H T S a0 x1 x2 x3 ∧ St u g H T S' ∧ Mono S S') := by
  refine cC.ofX rfl (by cases x1 <;> exact Nat.le_of_ble_eq_true rfl) ?_
  rw [show zargs mX4_add.2.2.1 [.ref a0, va_rf x1, .int x2, .int x3] = [some (va_rf (some a0)), some (va_rf x1), some (.int x2), some (.int x3)] from by cases x1 <;> rfl]
  exact cX.cutz (kb_X4_add_0 (X := fun F => F = k_X4_add N g H T S a0 x1 x2 x3) hG (fun S' h1 h2 h => ⟨rfl, h, h1, h2⟩) hS Mono.rfl' t_x0 t_x1 ok rfl) ⟨rfl, rfl, rfl, rfl, trivial⟩
/-! X4_write -/
def KF_X4_write_225 (N g H T : Nat) (s0 : Int32) (S : cS) : Int32 × cS := (s0, S)
def KO_X4_write_225 (N g H T : Nat) (s0 : Int32) (S : cS) : Prop := narrow .boolean (.int s0) = .int s0
set_option maxRecDepth 100000 in
set_option maxHeartbeats 4000000 in
theorem kb_X4_write_225 {G : zG} {o : cO} {u g H T N : Nat} {S : cS} {S0 : cS} {Q : Option Value → cS → Prop} {X : Int32 × cS → Prop} (hG : zOK G) (hR : ∀ v S', St u g H T S' → Mono S0 S' → X (v, S') → Q (some (.int v)) S') {s0 : Int32} (hS : St u g H T S) (hM : Mono S0 S) (ok : KO_X4_write_225 N g H T s0 S) (hx : X (KF_X4_write_225 N g H T s0 S)) : cX G o dX4_write mX4_write 225 [none, none, none, none, none, none, none] [.int s0] S Q := by
  unfold KO_X4_write_225 at ok
  unfold KF_X4_write_225 at hx
  exact c_ireturn rfl ok dX4_write_225 (hR _ _ hS hM hx)
def KF_X4_write_216 (N g H T : Nat) (x2 : Int32) (S : cS) : Int32 × cS := (if x2 = 0 then (KF_X4_write_225 N g H T (nI 1) S) else (KF_X4_write_225 N g H T (nI 0) S))
def KO_X4_write_216 (N g H T : Nat) (x2 : Int32) (S : cS) : Prop := ((x2 = 0 → KO_X4_write_225 N g H T (nI 1) S) ∧ (¬ x2 = 0 → KO_X4_write_225 N g H T (nI 0) S))
set_option maxRecDepth 100000 in
set_option maxHeartbeats 4000000 in
theorem kb_X4_write_216 {G : zG} {o : cO} {u g H T N : Nat} {S : cS} {S0 : cS} {Q : Option Value → cS → Prop} {X : Int32 × cS → Prop} (hG : zOK G) (hR : ∀ v S', St u g H T S' → Mono S0 S' → X (v, S') → Q (some (.int v)) S') {x2 : Int32} (hS : St u g H T S) (hM : Mono S0 S) (ok : KO_X4_write_216 N g H T x2 S) (hx : X (KF_X4_write_216 N g H T x2 S)) : cX G o dX4_write mX4_write 216 [none, none, some (.int x2), none, none, none, none] [] S Q := by
  unfold KO_X4_write_216 at ok
  unfold KF_X4_write_216 at hx
  refine c_iload_n dX4_write_216 rfl rfl ?_
  refine c_if_ne (tgt := 224) dX4_write_217 (by decide) (fun c_217 => ?_) (fun c_217 => ?_)
  · have ok := ok.2 c_217
    have hx := xif_n c_217 hx
    refine c_iconst (v := nI 0) dX4_write_224 (by decide) ?_
    exact cX.cutz (kb_X4_write_225 hG hR hS hM  ok hx) trivial
  · have ok := ok.1 c_217
    have hx := xif_p c_217 hx
    refine c_iconst (v := nI 1) dX4_write_220 (by decide) ?_
    refine c_goto (tgt := 225) dX4_write_221 (by decide) ?_
    exact cX.cutz (kb_X4_write_225 hG hR hS hM  ok hx) trivial
def KF_X4_write_202 (N g H T : Nat) (x0 : Nat) (x2 : Int32) (S : cS) : Int32 × cS := (if x2 = 0 then (KF_X4_write_216 N g H T x2 (csI S 7 x0 ((cI S 7 x0) + (nI 1)))) else (KF_X4_write_216 N g H T x2 S))
def KO_X4_write_202 (N g H T : Nat) (x0 : Nat) (x2 : Int32) (S : cS) : Prop := ((x2 = 0 → KO_X4_write_216 N g H T x2 (csI S 7 x0 ((cI S 7 x0) + (nI 1)))) ∧ (¬ x2 = 0 → KO_X4_write_216 N g H T x2 S))
set_option maxRecDepth 100000 in
set_option maxHeartbeats 4000000 in
theorem kb_X4_write_202 {G : zG} {o : cO} {u g H T N : Nat} {S : cS} {S0 : cS} {Q : Option Value → cS → Prop} {X : Int32 × cS → Prop} (hG : zOK G) (hR : ∀ v S', St u g H T S' → Mono S0 S' → X (v, S') → Q (some (.int v)) S') {x0 : Nat} {x2 : Int32} (hS : St u g H T S) (hM : Mono S0 S) (t_x0 : isO g H 3 x0) (ok : KO_X4_write_202 N g H T x0 x2 S) (hx : X (KF_X4_write_202 N g H T x0 x2 S)) : cX G o dX4_write mX4_write 202 [some (va_rf (some x0)), none, some (.int x2), none, none, none, none] [] S Q := by
  unfold KO_X4_write_202 at ok
  unfold KF_X4_write_202 at hx
  refine c_iload_n dX4_write_202 rfl rfl ?_
  refine c_if_ne (tgt := 216) dX4_write_203 (by decide) (fun c_203 => ?_) (fun c_203 => ?_)
  · have ok := ok.2 c_203
    have hx := xif_n c_203 hx
    exact cX.cutz (kb_X4_write_216 hG hR hS hM  ok hx) ⟨rfl, trivial⟩
  · have ok := ok.1 c_203
    have hx := xif_p c_203 hx
    refine c_aload_nQ dX4_write_206 rfl rfl ?_
    refine c_dup dX4_write_207 (zcat_rf _) ?_
    refine c_getI (C := RX4) (T := TX4) (N := 10) (ci := 3) (k := 7) ⟨rfl, inT4, by decide, fX4_54⟩ (by decide) (by decide) (by decide) dX4_write_208 (hS.k t_x0) ?_
    refine c_iconst (v := nI 1) dX4_write_211 (by decide) ?_
    refine c_iadd dX4_write_212 ?_
    refine c_putI (C := RX4) (T := TX4) (N := 10) (ci := 3) (k := 7) ⟨rfl, inT4, by decide, fX4_54⟩ ftT4 rfl (by decide) (by decide) (by decide) rfl rfl dX4_write_213 (hS.k t_x0) ?_
    have hS := hS.I 7 x0 ((cI S 7 x0) + (nI 1))
    have hM := hM.I 7 x0 ((cI S 7 x0) + (nI 1))
    exact cX.cutz (kb_X4_write_216 hG hR hS hM  ok hx) ⟨rfl, trivial⟩
def KF_X4_write_190 (N g H T : Nat) (rec : Nat → Int32 → Int32 → Int32 → cS → Nat × Nat × Int32 × cS) (x0 : Nat) (x2 : Int32) (x3 : Int32) (x4 : Int32) (S : cS) : Nat × Nat × Int32 × cS := (rec x0 x2 (x3 + nI 512) (x4 + nI 1) S)
def KO_X4_write_190 (N g H T : Nat) (rok : Nat → Int32 → Int32 → Int32 → cS → Prop) (x0 : Nat) (x2 : Int32) (x3 : Int32) (x4 : Int32) (S : cS) : Prop := rok x0 x2 (x3 + nI 512) (x4 + nI 1) S
set_option maxRecDepth 100000 in
set_option maxHeartbeats 4000000 in
theorem kb_X4_write_190 {G : zG} {o : cO} {u g H T N : Nat} {S : cS} {S0 : cS} {Q : Option Value → cS → Prop} {X : Nat × Nat × Int32 × cS → Prop} (hG : zOK G) (hX0 : ∀ (x0 : Nat) (x2 : Int32) (S' : cS), St u g H T S' → Mono S0 S' → isO g H 3 x0 → X (0, x0, x2, S') → cX G o dX4_write mX4_write 202 [some (va_rf (some x0)), none, some (.int x2), none, none, none, none] [] S' Q) {rec : Nat → Int32 → Int32 → Int32 → cS → Nat × Nat × Int32 × cS} {rok : Nat → Int32 → Int32 → Int32 → cS → Prop} (hrec : ∀ (x0 : Nat) (x2 : Int32) (x3 : Int32) (x4 : Int32) (S : cS), St u g H T S → Mono S0 S → isO g H 3 x0 → rok x0 x2 x3 x4 S → X (rec x0 x2 x3 x4 S) → cX G o dX4_write mX4_write 48 [some (va_rf (some x0)), none, some (.int x2), some (.int x3), some (.int x4), none, none] [] S Q) {x0 : Nat} {x2 : Int32} {x3 : Int32} {x4 : Int32} (hS : St u g H T S) (hM : Mono S0 S) (t_x0 : isO g H 3 x0) (ok : KO_X4_write_190 N g H T rok x0 x2 x3 x4 S) (hx : X (KF_X4_write_190 N g H T rec x0 x2 x3 x4 S)) : cX G o dX4_write mX4_write 190 [some (va_rf (some x0)), none, some (.int x2), some (.int x3), some (.int x4), none, none] [] S Q := by
  unfold KO_X4_write_190 at ok
  unfold KF_X4_write_190 at hx
  refine c_iincW_3 (v := (x3 + nI 512)) dX4_write_190 rfl (by first | rfl | (congr 1)) (by decide) rfl ?_
  refine c_iinc_4 (v := (x4 + nI 1)) dX4_write_196 rfl (by first | rfl | (congr 1)) (by decide) rfl ?_
  refine c_goto (tgt := 48) dX4_write_199 (by decide) ?_
  exact cX.cutz (hrec _ _ _ _ S hS hM t_x0 ok hx) ⟨rfl, rfl, rfl, rfl, trivial⟩
def KF_X4_write_174 (N g H T : Nat) (rec : Nat → Int32 → Int32 → Int32 → cS → Nat × Nat × Int32 × cS) (x0 : Nat) (x2 : Int32) (x3 : Int32) (x4 : Int32) (x6 : Int32) (s0 : Option Nat) (s1 : Int32) (s2 : Int32) (S : cS) : Nat × Nat × Int32 × cS := (if x6 = 0 then (KF_X4_write_190 N g H T rec x0 x2 x3 x4 (csI (csA S (za s0) s1.toNatClampNeg s2) 8 x0 ((cI (csA S (za s0) s1.toNatClampNeg s2) 8 x0) + (nI 1)))) else (KF_X4_write_190 N g H T rec x0 x2 x3 x4 (csA S (za s0) s1.toNatClampNeg s2)))
def KO_X4_write_174 (N g H T : Nat) (rok : Nat → Int32 → Int32 → Int32 → cS → Prop) (x0 : Nat) (x2 : Int32) (x3 : Int32) (x4 : Int32) (x6 : Int32) (s0 : Option Nat) (s1 : Int32) (s2 : Int32) (S : cS) : Prop := (¬ s0 = none ∧ vp_in s1 (cL S (za s0)) ∧ narrow .boolean (.int s2) = .int s2) ∧ ((x6 = 0 → KO_X4_write_190 N g H T rok x0 x2 x3 x4 (csI (csA S (za s0) s1.toNatClampNeg s2) 8 x0 ((cI (csA S (za s0) s1.toNatClampNeg s2) 8 x0) + (nI 1)))) ∧ (¬ x6 = 0 → KO_X4_write_190 N g H T rok x0 x2 x3 x4 (csA S (za s0) s1.toNatClampNeg s2)))
set_option maxRecDepth 100000 in
set_option maxHeartbeats 4000000 in
theorem kb_X4_write_174 {G : zG} {o : cO} {u g H T N : Nat} {S : cS} {S0 : cS} {Q : Option Value → cS → Prop} {X : Nat × Nat × Int32 × cS → Prop} (hG : zOK G) (hX0 : ∀ (x0 : Nat) (x2 : Int32) (S' : cS), St u g H T S' → Mono S0 S' → isO g H 3 x0 → X (0, x0, x2, S') → cX G o dX4_write mX4_write 202 [some (va_rf (some x0)), none, some (.int x2), none, none, none, none] [] S' Q) {rec : Nat → Int32 → Int32 → Int32 → cS → Nat × Nat × Int32 × cS} {rok : Nat → Int32 → Int32 → Int32 → cS → Prop} (hrec : ∀ (x0 : Nat) (x2 : Int32) (x3 : Int32) (x4 : Int32) (S : cS), St u g H T S → Mono S0 S → isO g H 3 x0 → rok x0 x2 x3 x4 S → X (rec x0 x2 x3 x4 S) → cX G o dX4_write mX4_write 48 [some (va_rf (some x0)), none, some (.int x2), some (.int x3), some (.int x4), none, none] [] S Q) {x0 : Nat} {x2 : Int32} {x3 : Int32} {x4 : Int32} {x6 : Int32} {s0 : Option Nat} {s1 : Int32} {s2 : Int32} (hS : St u g H T S) (hM : Mono S0 S) (t_x0 : isO g H 3 x0) (t_s0 : tK S 23 s0) (ok : KO_X4_write_174 N g H T rok x0 x2 x3 x4 x6 s0 s1 s2 S) (hx : X (KF_X4_write_174 N g H T rec x0 x2 x3 x4 x6 s0 s1 s2 S)) : cX G o dX4_write mX4_write 174 [some (va_rf (some x0)), none, some (.int x2), some (.int x3), some (.int x4), none, some (.int x6)] [.int s2, .int s1, va_rf s0] S Q := by
  unfold KO_X4_write_174 at ok
  unfold KF_X4_write_174 at hx
  have tq_174 : tK S 23 (some (za s0)) := tK_some (tK.cis t_s0 ok.1.1).2
  refine c_zast hG ok.1.2.2 dX4_write_174 ⟨(tK.cis t_s0 ok.1.1), ok.1.2.1⟩ ?_
  have hS := hS.Aw (k := 23) (za s0) s1.toNatClampNeg s2 tq_174 (by decide)
  have hM := hM.A (za s0) s1.toNatClampNeg s2
  have ok := ok.2
  refine c_iload dX4_write_175 rfl ?_
  refine c_if_ne (tgt := 190) dX4_write_177 (by decide) (fun c_177 => ?_) (fun c_177 => ?_)
  · have ok := ok.2 c_177
    have hx := xif_n c_177 hx
    exact cX.cutz (kb_X4_write_190 hG hX0 hrec hS hM t_x0 ok hx) ⟨rfl, rfl, rfl, rfl, trivial⟩
  · have ok := ok.1 c_177
    have hx := xif_p c_177 hx
    refine c_aload_nQ dX4_write_180 rfl rfl ?_
    refine c_dup dX4_write_181 (zcat_rf _) ?_
    refine c_getI (C := RX4) (T := TX4) (N := 10) (ci := 3) (k := 8) ⟨rfl, inT4, by decide, fX4_51⟩ (by decide) (by decide) (by decide) dX4_write_182 (hS.k t_x0) ?_
    refine c_iconst (v := nI 1) dX4_write_185 (by decide) ?_
    refine c_iadd dX4_write_186 ?_
    refine c_putI (C := RX4) (T := TX4) (N := 10) (ci := 3) (k := 8) ⟨rfl, inT4, by decide, fX4_51⟩ ftT4 rfl (by decide) (by decide) (by decide) rfl rfl dX4_write_187 (hS.k t_x0) ?_
    have hS := hS.I 8 x0 ((cI (csA S (za s0) s1.toNatClampNeg s2) 8 x0) + (nI 1))
    have hM := hM.I 8 x0 ((cI (csA S (za s0) s1.toNatClampNeg s2) 8 x0) + (nI 1))
    exact cX.cutz (kb_X4_write_190 hG hX0 hrec hS hM t_x0 ok hx) ⟨rfl, rfl, rfl, rfl, trivial⟩
def KF_X4_write_158 (N g H T : Nat) (rec : Nat → Int32 → Int32 → Int32 → cS → Nat × Nat × Int32 × cS) (x0 : Nat) (x2 : Int32) (x3 : Int32) (x4 : Int32) (x6 : Int32) (S : cS) : Nat × Nat × Int32 × cS := (if x6 = 0 then (KF_X4_write_174 N g H T rec x0 x2 x3 x4 x6 (some (x0 + 2)) x4 (nI 1) S) else (KF_X4_write_174 N g H T rec x0 x2 x3 x4 x6 (some (x0 + 2)) x4 (nI 0) S))
def KO_X4_write_158 (N g H T : Nat) (rok : Nat → Int32 → Int32 → Int32 → cS → Prop) (x0 : Nat) (x2 : Int32) (x3 : Int32) (x4 : Int32) (x6 : Int32) (S : cS) : Prop := ((x6 = 0 → KO_X4_write_174 N g H T rok x0 x2 x3 x4 x6 (some (x0 + 2)) x4 (nI 1) S) ∧ (¬ x6 = 0 → KO_X4_write_174 N g H T rok x0 x2 x3 x4 x6 (some (x0 + 2)) x4 (nI 0) S))
set_option maxRecDepth 100000 in
set_option maxHeartbeats 4000000 in
theorem kb_X4_write_158 {G : zG} {o : cO} {u g H T N : Nat} {S : cS} {S0 : cS} {Q : Option Value → cS → Prop} {X : Nat × Nat × Int32 × cS → Prop} (hG : zOK G) (hX0 : ∀ (x0 : Nat) (x2 : Int32) (S' : cS), St u g H T S' → Mono S0 S' → isO g H 3 x0 → X (0, x0, x2, S') → cX G o dX4_write mX4_write 202 [some (va_rf (some x0)), none, some (.int x2), none, none, none, none] [] S' Q) {rec : Nat → Int32 → Int32 → Int32 → cS → Nat × Nat × Int32 × cS} {rok : Nat → Int32 → Int32 → Int32 → cS → Prop} (hrec : ∀ (x0 : Nat) (x2 : Int32) (x3 : Int32) (x4 : Int32) (S : cS), St u g H T S → Mono S0 S → isO g H 3 x0 → rok x0 x2 x3 x4 S → X (rec x0 x2 x3 x4 S) → cX G o dX4_write mX4_write 48 [some (va_rf (some x0)), none, some (.int x2), some (.int x3), some (.int x4), none, none] [] S Q) {x0 : Nat} {x2 : Int32} {x3 : Int32} {x4 : Int32} {x6 : Int32} (hS : St u g H T S) (hM : Mono S0 S) (t_x0 : isO g H 3 x0) (ok : KO_X4_write_158 N g H T rok x0 x2 x3 x4 x6 S) (hx : X (KF_X4_write_158 N g H T rec x0 x2 x3 x4 x6 S)) : cX G o dX4_write mX4_write 158 [some (va_rf (some x0)), none, some (.int x2), some (.int x3), some (.int x4), none, some (.int x6)] [] S Q := by
  unfold KO_X4_write_158 at ok
  unfold KF_X4_write_158 at hx
  refine c_aload_nQ dX4_write_158 rfl rfl ?_
  refine c_getS (C := RX4) (T := TX4) (N := 10) (ci := 3) (k := 1) ⟨rfl, inT4, by decide, fX4_17⟩ (by decide) (by decide) (by decide) dX4_write_159 (hS.k t_x0) (hS.r (c := 3) t_x0 rfl (by omega)) ?_
  refine c_iload dX4_write_162 rfl ?_
  refine c_iload dX4_write_164 rfl ?_
  refine c_if_ne (tgt := 173) dX4_write_166 (by decide) (fun c_166 => ?_) (fun c_166 => ?_)
  · have ok := ok.2 c_166
    have hx := xif_n c_166 hx
    refine c_iconst (v := nI 0) dX4_write_173 (by decide) ?_
    exact cX.cutz (kb_X4_write_174 hG hX0 hrec hS hM t_x0 (hS.rk (c := 3) (k := 1) t_x0 rfl (by omega)) ok hx) ⟨rfl, rfl, rfl, rfl, rfl, trivial⟩
  · have ok := ok.1 c_166
    have hx := xif_p c_166 hx
    refine c_iconst (v := nI 1) dX4_write_169 (by decide) ?_
    refine c_goto (tgt := 174) dX4_write_170 (by decide) ?_
    exact cX.cutz (kb_X4_write_174 hG hX0 hrec hS hM t_x0 (hS.rk (c := 3) (k := 1) t_x0 rfl (by omega)) ok hx) ⟨rfl, rfl, rfl, rfl, rfl, trivial⟩
def KF_X4_write_155 (N g H T : Nat) (rec : Nat → Int32 → Int32 → Int32 → cS → Nat × Nat × Int32 × cS) (x0 : Nat) (x2 : Int32) (x3 : Int32) (x4 : Int32) (x6 : Int32) (s0 : Option Nat) (s1 : Int32) (s2 : Option Nat) (s3 : Int32) (s4 : Int32) (S : cS) : Nat × Nat × Int32 × cS := (KF_X4_write_158 N g H T rec x0 x2 x3 x4 x6 (csArow S (za s2) (va_cpy (cA S (za s0)) (cA S (za s2)) s1.toNatClampNeg s3.toNatClampNeg s4.toNatClampNeg)))
def KO_X4_write_155 (N g H T : Nat) (rok : Nat → Int32 → Int32 → Int32 → cS → Prop) (x0 : Nat) (x2 : Int32) (x3 : Int32) (x4 : Int32) (x6 : Int32) (s0 : Option Nat) (s1 : Int32) (s2 : Option Nat) (s3 : Int32) (s4 : Int32) (S : cS) : Prop := (¬ s2 = none ∧ ¬ s0 = none ∧ (¬ s1 < 0 ∧ ¬ s3 < 0 ∧ ¬ s4 < 0) ∧ s1.toNatClampNeg + s4.toNatClampNeg ≤ (cL S (za s0)) ∧ s3.toNatClampNeg + s4.toNatClampNeg ≤ (cL S (za s2))) ∧ KO_X4_write_158 N g H T rok x0 x2 x3 x4 x6 (csArow S (za s2) (va_cpy (cA S (za s0)) (cA S (za s2)) s1.toNatClampNeg s3.toNatClampNeg s4.toNatClampNeg))
set_option maxRecDepth 100000 in
set_option maxHeartbeats 4000000 in
theorem kb_X4_write_155 {G : zG} {o : cO} {u g H T N : Nat} {S : cS} {S0 : cS} {Q : Option Value → cS → Prop} {X : Nat × Nat × Int32 × cS → Prop} (hG : zOK G) (hX0 : ∀ (x0 : Nat) (x2 : Int32) (S' : cS), St u g H T S' → Mono S0 S' → isO g H 3 x0 → X (0, x0, x2, S') → cX G o dX4_write mX4_write 202 [some (va_rf (some x0)), none, some (.int x2), none, none, none, none] [] S' Q) {rec : Nat → Int32 → Int32 → Int32 → cS → Nat × Nat × Int32 × cS} {rok : Nat → Int32 → Int32 → Int32 → cS → Prop} (hrec : ∀ (x0 : Nat) (x2 : Int32) (x3 : Int32) (x4 : Int32) (S : cS), St u g H T S → Mono S0 S → isO g H 3 x0 → rok x0 x2 x3 x4 S → X (rec x0 x2 x3 x4 S) → cX G o dX4_write mX4_write 48 [some (va_rf (some x0)), none, some (.int x2), some (.int x3), some (.int x4), none, none] [] S Q) {x0 : Nat} {x2 : Int32} {x3 : Int32} {x4 : Int32} {x6 : Int32} {s0 : Option Nat} {s1 : Int32} {s2 : Option Nat} {s3 : Int32} {s4 : Int32} (hS : St u g H T S) (hM : Mono S0 S) (t_x0 : isO g H 3 x0) (t_s0 : tK S 20 s0) (t_s2 : tK S 20 s2) (ok : KO_X4_write_155 N g H T rok x0 x2 x3 x4 x6 s0 s1 s2 s3 s4 S) (hx : X (KF_X4_write_155 N g H T rec x0 x2 x3 x4 x6 s0 s1 s2 s3 s4 S)) : cX G o dX4_write mX4_write 155 [some (va_rf (some x0)), none, some (.int x2), some (.int x3), some (.int x4), none, some (.int x6)] [.int s4, .int s3, va_rf s2, .int s1, va_rf s0] S Q := by
  unfold KO_X4_write_155 at ok
  unfold KF_X4_write_155 at hx
  have tq_155 : tK S 20 (some (za s0)) := tK_some (tK.cis t_s0 ok.1.2.1).2
  refine c_copy0 hG dX4_write_155 qX4_36 (by decide) (by decide) ⟨tK.cis t_s0 ok.1.2.1, tK.cis t_s2 ok.1.1, ok.1.2.2.1, ok.1.2.2.2.1, ok.1.2.2.2.2⟩ ?_
  have hS := hS.Ac (za s2) (za s0) s1.toNatClampNeg s3.toNatClampNeg s4.toNatClampNeg tq_155
  have hM := hM.Ar (za s2) (va_cpy (cA S (za s0)) (cA S (za s2)) s1.toNatClampNeg s3.toNatClampNeg s4.toNatClampNeg)
  have ok := ok.2
  exact cX.cutz (kb_X4_write_158 hG hX0 hrec hS hM t_x0 ok hx) ⟨rfl, rfl, rfl, rfl, rfl, trivial⟩
def KF_X4_write_128 (N g H T : Nat) (rec : Nat → Int32 → Int32 → Int32 → cS → Nat × Nat × Int32 × cS) (x0 : Nat) (x2 : Int32) (x3 : Int32) (x4 : Int32) (x5 : Int32) (x6 : Int32) (S : cS) : Nat × Nat × Int32 × cS := (if x6 = 0 then (KF_X4_write_155 N g H T rec x0 x2 x3 x4 x6 (some (x0 + 3)) x3 (cP S (x0 + 1) x4.toNatClampNeg) (nI 0) x5 S) else (KF_X4_write_155 N g H T rec x0 x2 x3 x4 x6 (some (x0 + 3)) x3 (cP S (x0 + 1) x4.toNatClampNeg) (nI 0) (x5 / (nI 2)) S))
def KO_X4_write_128 (N g H T : Nat) (rok : Nat → Int32 → Int32 → Int32 → cS → Prop) (x0 : Nat) (x2 : Int32) (x3 : Int32) (x4 : Int32) (x5 : Int32) (x6 : Int32) (S : cS) : Prop := (vp_in x4 284) ∧ ((x6 = 0 → KO_X4_write_155 N g H T rok x0 x2 x3 x4 x6 (some (x0 + 3)) x3 (cP S (x0 + 1) x4.toNatClampNeg) (nI 0) x5 S) ∧ (¬ x6 = 0 → KO_X4_write_155 N g H T rok x0 x2 x3 x4 x6 (some (x0 + 3)) x3 (cP S (x0 + 1) x4.toNatClampNeg) (nI 0) (x5 / (nI 2)) S))
set_option maxRecDepth 100000 in
set_option maxHeartbeats 4000000 in
theorem kb_X4_write_128 {G : zG} {o : cO} {u g H T N : Nat} {S : cS} {S0 : cS} {Q : Option Value → cS → Prop} {X : Nat × Nat × Int32 × cS → Prop} (hG : zOK G) (hX0 : ∀ (x0 : Nat) (x2 : Int32) (S' : cS), St u g H T S' → Mono S0 S' → isO g H 3 x0 → X (0, x0, x2, S') → cX G o dX4_write mX4_write 202 [some (va_rf (some x0)), none, some (.int x2), none, none, none, none] [] S' Q) {rec : Nat → Int32 → Int32 → Int32 → cS → Nat × Nat × Int32 × cS} {rok : Nat → Int32 → Int32 → Int32 → cS → Prop} (hrec : ∀ (x0 : Nat) (x2 : Int32) (x3 : Int32) (x4 : Int32) (S : cS), St u g H T S → Mono S0 S → isO g H 3 x0 → rok x0 x2 x3 x4 S → X (rec x0 x2 x3 x4 S) → cX G o dX4_write mX4_write 48 [some (va_rf (some x0)), none, some (.int x2), some (.int x3), some (.int x4), none, none] [] S Q) {x0 : Nat} {x2 : Int32} {x3 : Int32} {x4 : Int32} {x5 : Int32} {x6 : Int32} (hS : St u g H T S) (hM : Mono S0 S) (t_x0 : isO g H 3 x0) (ok : KO_X4_write_128 N g H T rok x0 x2 x3 x4 x5 x6 S) (hx : X (KF_X4_write_128 N g H T rec x0 x2 x3 x4 x5 x6 S)) : cX G o dX4_write mX4_write 128 [some (va_rf (some x0)), none, some (.int x2), some (.int x3), some (.int x4), some (.int x5), some (.int x6)] [] S Q := by
  unfold KO_X4_write_128 at ok
  unfold KF_X4_write_128 at hx
  refine c_aload_nQ dX4_write_128 rfl rfl ?_
  refine c_getS (C := RX4) (T := TX4) (N := 10) (ci := 3) (k := 2) ⟨rfl, inT4, by decide, fX4_21⟩ (by decide) (by decide) (by decide) dX4_write_129 (hS.k t_x0) (hS.r (c := 3) t_x0 rfl (by omega)) ?_
  refine c_iload_n dX4_write_132 rfl rfl ?_
  refine c_aload_nQ dX4_write_133 rfl rfl ?_
  refine c_getS (C := RX4) (T := TX4) (N := 10) (ci := 3) (k := 0) ⟨rfl, inT4, by decide, fX4_13⟩ (by decide) (by decide) (by decide) dX4_write_134 (hS.k t_x0) (hS.r (c := 3) t_x0 rfl (by omega)) ?_
  refine c_iload dX4_write_137 rfl ?_
  have p_139 := hS.row26 (hS.rk (c := 3) (k := 0) t_x0 rfl (by omega)) x4.toNatClampNeg
  refine c_aald (t := 6) (ty := (.array .byte)) rfl rfl (by decide) dX4_write_139 ⟨(tK.cis (hS.rk (c := 3) (k := 0) t_x0 rfl (by omega)) (Option.some_ne_none _)), (vk_cast (hS.rl (c := 3) (k := 0) t_x0 rfl (by decide) (by omega)) ok.1)⟩ ?_
  have ok := ok.2
  refine c_iconst (v := nI 0) dX4_write_140 (by decide) ?_
  refine c_iload dX4_write_141 rfl ?_
  refine c_if_eq (tgt := 153) dX4_write_143 (by decide) (fun c_143 => ?_) (fun c_143 => ?_)
  · have ok := ok.1 c_143
    have hx := xif_p c_143 hx
    refine c_iload dX4_write_153 rfl ?_
    exact cX.cutz (kb_X4_write_155 hG hX0 hrec hS hM t_x0 (hS.rk (c := 3) (k := 2) t_x0 rfl (by omega)) p_139 ok hx) ⟨rfl, rfl, rfl, rfl, rfl, trivial⟩
  · have ok := ok.2 c_143
    have hx := xif_n c_143 hx
    refine c_iload dX4_write_146 rfl ?_
    refine c_iconst (v := nI 2) dX4_write_148 (by decide) ?_
    refine c_idiv dX4_write_149 (by decide) ?_
    refine c_goto (tgt := 155) dX4_write_150 (by decide) ?_
    exact cX.cutz (kb_X4_write_155 hG hX0 hrec hS hM t_x0 (hS.rk (c := 3) (k := 2) t_x0 rfl (by omega)) p_139 ok hx) ⟨rfl, rfl, rfl, rfl, rfl, trivial⟩
def KF_X4_write_127 (N g H T : Nat) (rec : Nat → Int32 → Int32 → Int32 → cS → Nat × Nat × Int32 × cS) (x0 : Nat) (x2 : Int32) (x3 : Int32) (x4 : Int32) (x5 : Int32) (x6 : Int32) (s0 : Option Nat) (s1 : Int32) (s2 : Option Nat) (S : cS) : Nat × Nat × Int32 × cS := (KF_X4_write_128 N g H T rec x0 x2 x3 x4 x5 x6 (csP S (za s0) s1.toNatClampNeg s2))
def KO_X4_write_127 (N g H T : Nat) (rok : Nat → Int32 → Int32 → Int32 → cS → Prop) (x0 : Nat) (x2 : Int32) (x3 : Int32) (x4 : Int32) (x5 : Int32) (x6 : Int32) (s0 : Option Nat) (s1 : Int32) (s2 : Option Nat) (S : cS) : Prop := (¬ s0 = none ∧ vp_in s1 (cL S (za s0)) ∧ ¬ s2 = none) ∧ KO_X4_write_128 N g H T rok x0 x2 x3 x4 x5 x6 (csP S (za s0) s1.toNatClampNeg s2)
set_option maxRecDepth 100000 in
set_option maxHeartbeats 4000000 in
theorem kb_X4_write_127 {G : zG} {o : cO} {u g H T N : Nat} {S : cS} {S0 : cS} {Q : Option Value → cS → Prop} {X : Nat × Nat × Int32 × cS → Prop} (hG : zOK G) (hX0 : ∀ (x0 : Nat) (x2 : Int32) (S' : cS), St u g H T S' → Mono S0 S' → isO g H 3 x0 → X (0, x0, x2, S') → cX G o dX4_write mX4_write 202 [some (va_rf (some x0)), none, some (.int x2), none, none, none, none] [] S' Q) {rec : Nat → Int32 → Int32 → Int32 → cS → Nat × Nat × Int32 × cS} {rok : Nat → Int32 → Int32 → Int32 → cS → Prop} (hrec : ∀ (x0 : Nat) (x2 : Int32) (x3 : Int32) (x4 : Int32) (S : cS), St u g H T S → Mono S0 S → isO g H 3 x0 → rok x0 x2 x3 x4 S → X (rec x0 x2 x3 x4 S) → cX G o dX4_write mX4_write 48 [some (va_rf (some x0)), none, some (.int x2), some (.int x3), some (.int x4), none, none] [] S Q) {x0 : Nat} {x2 : Int32} {x3 : Int32} {x4 : Int32} {x5 : Int32} {x6 : Int32} {s0 : Option Nat} {s1 : Int32} {s2 : Option Nat} (hS : St u g H T S) (hM : Mono S0 S) (t_x0 : isO g H 3 x0) (t_s0 : tK S 26 s0) (t_s2 : tK S 20 s2) (ok : KO_X4_write_127 N g H T rok x0 x2 x3 x4 x5 x6 s0 s1 s2 S) (hx : X (KF_X4_write_127 N g H T rec x0 x2 x3 x4 x5 x6 s0 s1 s2 S)) : cX G o dX4_write mX4_write 127 [some (va_rf (some x0)), none, some (.int x2), some (.int x3), some (.int x4), some (.int x5), some (.int x6)] [va_rf s2, .int s1, va_rf s0] S Q := by
  unfold KO_X4_write_127 at ok
  unfold KF_X4_write_127 at hx
  have hS2 := hS.P26 (i := s1.toNatClampNeg) (t_s0 _ (za_of ok.1.1)) t_s2
  refine c_aastB dX4_write_127 ⟨(tK.cis t_s0 ok.1.1), ok.1.2.1, tK.cis t_s2 ok.1.2.2⟩ ?_
  have hS := hS2
  have hM := hM.P (za s0) s1.toNatClampNeg s2
  have ok := ok.2
  exact cX.cutz (kb_X4_write_128 hG hX0 hrec hS hM t_x0 ok hx) ⟨rfl, rfl, rfl, rfl, rfl, rfl, trivial⟩
def KF_X4_write_104 (N g H T : Nat) (rec : Nat → Int32 → Int32 → Int32 → cS → Nat × Nat × Int32 × cS) (x0 : Nat) (x2 : Int32) (x3 : Int32) (x4 : Int32) (x5 : Int32) (s0 : Int32) (S : cS) : Nat × Nat × Int32 × cS := (if (cP S (x0 + 1) x4.toNatClampNeg) = none then (KF_X4_write_127 N g H T rec x0 x2 x3 x4 x5 s0 (some (x0 + 1)) x4 (some (cn S)) (csNew S 20 (nI 512).toNatClampNeg)) else (KF_X4_write_128 N g H T rec x0 x2 x3 x4 x5 s0 S))
def KO_X4_write_104 (N g H T : Nat) (rok : Nat → Int32 → Int32 → Int32 → cS → Prop) (x0 : Nat) (x2 : Int32) (x3 : Int32) (x4 : Int32) (x5 : Int32) (s0 : Int32) (S : cS) : Prop := (vp_in x4 284) ∧ (((cP S (x0 + 1) x4.toNatClampNeg) = none → (¬ (nI 512) < 0 ∧ (nI 512).toNatClampNeg ≤ 1000000) ∧ KO_X4_write_127 N g H T rok x0 x2 x3 x4 x5 s0 (some (x0 + 1)) x4 (some (cn S)) (csNew S 20 (nI 512).toNatClampNeg)) ∧ (¬ (cP S (x0 + 1) x4.toNatClampNeg) = none → KO_X4_write_128 N g H T rok x0 x2 x3 x4 x5 s0 S))
set_option maxRecDepth 100000 in
set_option maxHeartbeats 4000000 in
theorem kb_X4_write_104 {G : zG} {o : cO} {u g H T N : Nat} {S : cS} {S0 : cS} {Q : Option Value → cS → Prop} {X : Nat × Nat × Int32 × cS → Prop} (hG : zOK G) (hX0 : ∀ (x0 : Nat) (x2 : Int32) (S' : cS), St u g H T S' → Mono S0 S' → isO g H 3 x0 → X (0, x0, x2, S') → cX G o dX4_write mX4_write 202 [some (va_rf (some x0)), none, some (.int x2), none, none, none, none] [] S' Q) {rec : Nat → Int32 → Int32 → Int32 → cS → Nat × Nat × Int32 × cS} {rok : Nat → Int32 → Int32 → Int32 → cS → Prop} (hrec : ∀ (x0 : Nat) (x2 : Int32) (x3 : Int32) (x4 : Int32) (S : cS), St u g H T S → Mono S0 S → isO g H 3 x0 → rok x0 x2 x3 x4 S → X (rec x0 x2 x3 x4 S) → cX G o dX4_write mX4_write 48 [some (va_rf (some x0)), none, some (.int x2), some (.int x3), some (.int x4), none, none] [] S Q) {x0 : Nat} {x2 : Int32} {x3 : Int32} {x4 : Int32} {x5 : Int32} {s0 : Int32} (hS : St u g H T S) (hM : Mono S0 S) (t_x0 : isO g H 3 x0) (ok : KO_X4_write_104 N g H T rok x0 x2 x3 x4 x5 s0 S) (hx : X (KF_X4_write_104 N g H T rec x0 x2 x3 x4 x5 s0 S)) : cX G o dX4_write mX4_write 104 [some (va_rf (some x0)), none, some (.int x2), some (.int x3), some (.int x4), some (.int x5), none] [.int s0] S Q := by
  unfold KO_X4_write_104 at ok
  unfold KF_X4_write_104 at hx
  refine c_istore_6 dX4_write_104 (by decide) rfl ?_
  refine c_aload_nQ dX4_write_106 rfl rfl ?_
  refine c_getS (C := RX4) (T := TX4) (N := 10) (ci := 3) (k := 0) ⟨rfl, inT4, by decide, fX4_13⟩ (by decide) (by decide) (by decide) dX4_write_107 (hS.k t_x0) (hS.r (c := 3) t_x0 rfl (by omega)) ?_
  refine c_iload dX4_write_110 rfl ?_
  have p_112 := hS.row26 (hS.rk (c := 3) (k := 0) t_x0 rfl (by omega)) x4.toNatClampNeg
  refine c_aald (t := 6) (ty := (.array .byte)) rfl rfl (by decide) dX4_write_112 ⟨(tK.cis (hS.rk (c := 3) (k := 0) t_x0 rfl (by omega)) (Option.some_ne_none _)), (vk_cast (hS.rl (c := 3) (k := 0) t_x0 rfl (by decide) (by omega)) ok.1)⟩ ?_
  have ok := ok.2
  refine c_ifnonnullI (tgt := 128) dX4_write_113 (by decide) (fun c_113 => ?_) (fun c_113 => ?_)
  · have ok := ok.2 c_113
    have hx := xif_n c_113 hx
    exact cX.cutz (kb_X4_write_128 hG hX0 hrec hS hM t_x0 ok hx) ⟨rfl, rfl, rfl, rfl, rfl, rfl, trivial⟩
  · have ok := ok.1 c_113
    have hx := xif_p c_113 hx
    refine c_aload_nQ dX4_write_116 rfl rfl ?_
    refine c_getS (C := RX4) (T := TX4) (N := 10) (ci := 3) (k := 0) ⟨rfl, inT4, by decide, fX4_13⟩ (by decide) (by decide) (by decide) dX4_write_117 (hS.k t_x0) (hS.r (c := 3) t_x0 rfl (by omega)) ?_
    refine c_iload dX4_write_120 rfl ?_
    refine c_sipush (v := nI 512) dX4_write_122 (by decide) ?_
    have hm_125 := mono_new hS 20 (nI 512).toNatClampNeg
    refine c_newa0 dX4_write_125 ok.1.1 ok.1.2 ?_
    have hS := hS.new (c := 20) (n := (nI 512).toNatClampNeg) (by decide)
    have hM := hM.trans hm_125
    have ok := ok.2
    exact cX.cutz (kb_X4_write_127 hG hX0 hrec hS hM t_x0 (hS.rk (c := 3) (k := 0) t_x0 rfl (by omega)) (tK_some (new_self _ _ _)) ok hx) ⟨rfl, rfl, rfl, rfl, rfl, rfl, trivial⟩
def KF_X4_write_103 (N g H T : Nat) (rec : Nat → Int32 → Int32 → Int32 → cS → Nat × Nat × Int32 × cS) (x0 : Nat) (x2 : Int32) (x3 : Int32) (x4 : Int32) (x5 : Int32) (S : cS) : Nat × Nat × Int32 × cS := (KF_X4_write_104 N g H T rec x0 x2 x3 x4 x5 (nI 0) S)
def KO_X4_write_103 (N g H T : Nat) (rok : Nat → Int32 → Int32 → Int32 → cS → Prop) (x0 : Nat) (x2 : Int32) (x3 : Int32) (x4 : Int32) (x5 : Int32) (S : cS) : Prop := KO_X4_write_104 N g H T rok x0 x2 x3 x4 x5 (nI 0) S
set_option maxRecDepth 100000 in
set_option maxHeartbeats 4000000 in
theorem kb_X4_write_103 {G : zG} {o : cO} {u g H T N : Nat} {S : cS} {S0 : cS} {Q : Option Value → cS → Prop} {X : Nat × Nat × Int32 × cS → Prop} (hG : zOK G) (hX0 : ∀ (x0 : Nat) (x2 : Int32) (S' : cS), St u g H T S' → Mono S0 S' → isO g H 3 x0 → X (0, x0, x2, S') → cX G o dX4_write mX4_write 202 [some (va_rf (some x0)), none, some (.int x2), none, none, none, none] [] S' Q) {rec : Nat → Int32 → Int32 → Int32 → cS → Nat × Nat × Int32 × cS} {rok : Nat → Int32 → Int32 → Int32 → cS → Prop} (hrec : ∀ (x0 : Nat) (x2 : Int32) (x3 : Int32) (x4 : Int32) (S : cS), St u g H T S → Mono S0 S → isO g H 3 x0 → rok x0 x2 x3 x4 S → X (rec x0 x2 x3 x4 S) → cX G o dX4_write mX4_write 48 [some (va_rf (some x0)), none, some (.int x2), some (.int x3), some (.int x4), none, none] [] S Q) {x0 : Nat} {x2 : Int32} {x3 : Int32} {x4 : Int32} {x5 : Int32} (hS : St u g H T S) (hM : Mono S0 S) (t_x0 : isO g H 3 x0) (ok : KO_X4_write_103 N g H T rok x0 x2 x3 x4 x5 S) (hx : X (KF_X4_write_103 N g H T rec x0 x2 x3 x4 x5 S)) : cX G o dX4_write mX4_write 103 [some (va_rf (some x0)), none, some (.int x2), some (.int x3), some (.int x4), some (.int x5), none] [] S Q := by
  unfold KO_X4_write_103 at ok
  unfold KF_X4_write_103 at hx
  refine c_iconst (v := nI 0) dX4_write_103 (by decide) ?_
  exact cX.cutz (kb_X4_write_104 hG hX0 hrec hS hM t_x0 ok hx) ⟨rfl, rfl, rfl, rfl, rfl, trivial⟩
def KB_X4_write_48 (N g H T : Nat) (rec : Nat → Int32 → Int32 → Int32 → cS → Nat × Nat × Int32 × cS) (x0 : Nat) (x2 : Int32) (x3 : Int32) (x4 : Int32) (S : cS) : Nat × Nat × Int32 × cS := (if (cI S 4 x0) ≤ x3 then (0, x0, x2, S) else (if x4 < 0 then (0, x0, x2, S) else (if (nI 284) ≤ x4 then (0, x0, x2, S) else (if x2 = 0 then (KF_X4_write_103 N g H T rec x0 x2 x3 x4 (if ((cI S 4 x0) - x3) < (nI 512) then ((cI S 4 x0) - x3) else (nI 512)) S) else (if (nI 512) < ((cI S 4 x0) - x3) then (KF_X4_write_103 N g H T rec x0 x2 x3 x4 (if ((cI S 4 x0) - x3) < (nI 512) then ((cI S 4 x0) - x3) else (nI 512)) S) else (KF_X4_write_104 N g H T rec x0 x2 x3 x4 (if ((cI S 4 x0) - x3) < (nI 512) then ((cI S 4 x0) - x3) else (nI 512)) (nI 1) S))))))
def KOB_X4_write_48 (N g H T : Nat) (rok : Nat → Int32 → Int32 → Int32 → cS → Prop) (x0 : Nat) (x2 : Int32) (x3 : Int32) (x4 : Int32) (S : cS) : Prop := (((cI S 4 x0) ≤ x3 → True) ∧ (¬ (cI S 4 x0) ≤ x3 → ((x4 < 0 → True) ∧ (¬ x4 < 0 → (((nI 284) ≤ x4 → True) ∧ (¬ (nI 284) ≤ x4 → ((x2 = 0 → KO_X4_write_103 N g H T rok x0 x2 x3 x4 (if ((cI S 4 x0) - x3) < (nI 512) then ((cI S 4 x0) - x3) else (nI 512)) S) ∧ (¬ x2 = 0 → (((nI 512) < ((cI S 4 x0) - x3) → KO_X4_write_103 N g H T rok x0 x2 x3 x4 (if ((cI S 4 x0) - x3) < (nI 512) then ((cI S 4 x0) - x3) else (nI 512)) S) ∧ (¬ (nI 512) < ((cI S 4 x0) - x3) → KO_X4_write_104 N g H T rok x0 x2 x3 x4 (if ((cI S 4 x0) - x3) < (nI 512) then ((cI S 4 x0) - x3) else (nI 512)) (nI 1) S))))))))))
set_option maxRecDepth 100000 in
set_option maxHeartbeats 4000000 in
theorem kbb_X4_write_48 {G : zG} {o : cO} {u g H T N : Nat} {S : cS} {S0 : cS} {Q : Option Value → cS → Prop} {X : Nat × Nat × Int32 × cS → Prop} (hG : zOK G) (hX0 : ∀ (x0 : Nat) (x2 : Int32) (S' : cS), St u g H T S' → Mono S0 S' → isO g H 3 x0 → X (0, x0, x2, S') → cX G o dX4_write mX4_write 202 [some (va_rf (some x0)), none, some (.int x2), none, none, none, none] [] S' Q) {rec : Nat → Int32 → Int32 → Int32 → cS → Nat × Nat × Int32 × cS} {rok : Nat → Int32 → Int32 → Int32 → cS → Prop} (hrec : ∀ (x0 : Nat) (x2 : Int32) (x3 : Int32) (x4 : Int32) (S : cS), St u g H T S → Mono S0 S → isO g H 3 x0 → rok x0 x2 x3 x4 S → X (rec x0 x2 x3 x4 S) → cX G o dX4_write mX4_write 48 [some (va_rf (some x0)), none, some (.int x2), some (.int x3), some (.int x4), none, none] [] S Q) {x0 : Nat} {x2 : Int32} {x3 : Int32} {x4 : Int32} (hS : St u g H T S) (hM : Mono S0 S) (t_x0 : isO g H 3 x0) (ok : KOB_X4_write_48 N g H T rok x0 x2 x3 x4 S) (hx : X (KB_X4_write_48 N g H T rec x0 x2 x3 x4 S)) : cX G o dX4_write mX4_write 48 [some (va_rf (some x0)), none, some (.int x2), some (.int x3), some (.int x4), none, none] [] S Q := by
  unfold KOB_X4_write_48 at ok
  unfold KB_X4_write_48 at hx
  refine c_iload_n dX4_write_48 rfl rfl ?_
  refine c_aload_nQ dX4_write_49 rfl rfl ?_
  refine c_getI (C := RX4) (T := TX4) (N := 10) (ci := 3) (k := 4) ⟨rfl, inT4, by decide, fX4_32⟩ (by decide) (by decide) (by decide) dX4_write_50 (hS.k t_x0) ?_
  refine c_icmp_ge (tgt := 202) dX4_write_53 (by decide) (fun c_53 => ?_) (fun c_53 => ?_)
  · have ok := ok.1 c_53
    have hx := xif_p c_53 hx
    exact cX.cutz (hX0 _ _ S hS hM t_x0 hx) ⟨rfl, rfl, trivial⟩
  · have ok := ok.2 c_53
    have hx := xif_n c_53 hx
    refine c_iload dX4_write_56 rfl ?_
    refine c_if_lt (tgt := 202) dX4_write_58 (by decide) (fun c_58 => ?_) (fun c_58 => ?_)
    · have ok := ok.1 c_58
      have hx := xif_p c_58 hx
      exact cX.cutz (hX0 _ _ S hS hM t_x0 hx) ⟨rfl, rfl, trivial⟩
    · have ok := ok.2 c_58
      have hx := xif_n c_58 hx
      refine c_iload dX4_write_61 rfl ?_
      refine c_sipush (v := nI 284) dX4_write_63 (by decide) ?_
      refine c_icmp_ge (tgt := 202) dX4_write_66 (by decide) (fun c_66 => ?_) (fun c_66 => ?_)
      · have ok := ok.1 c_66
        have hx := xif_p c_66 hx
        exact cX.cutz (hX0 _ _ S hS hM t_x0 hx) ⟨rfl, rfl, trivial⟩
      · have ok := ok.2 c_66
        have hx := xif_n c_66 hx
        refine c_sipush (v := nI 512) dX4_write_69 (by decide) ?_
        refine c_aload_nQ dX4_write_72 rfl rfl ?_
        refine c_getI (C := RX4) (T := TX4) (N := 10) (ci := 3) (k := 4) ⟨rfl, inT4, by decide, fX4_32⟩ (by decide) (by decide) (by decide) dX4_write_73 (hS.k t_x0) ?_
        refine c_iload_n dX4_write_76 rfl rfl ?_
        refine c_isub dX4_write_77 ?_
        refine c_mmin dX4_write_78 lX4_45.1 (by decide) (by decide) ?_
        refine c_istore_5 dX4_write_81 (by decide) rfl ?_
        refine c_iload_n dX4_write_83 rfl rfl ?_
        refine c_if_eq (tgt := 103) dX4_write_84 (by decide) (fun c_84 => ?_) (fun c_84 => ?_)
        · have ok := ok.1 c_84
          have hx := xif_p c_84 hx
          exact cX.cutz (kb_X4_write_103 hG hX0 hrec hS hM t_x0 ok hx) ⟨rfl, rfl, rfl, rfl, rfl, trivial⟩
        · have ok := ok.2 c_84
          have hx := xif_n c_84 hx
          refine c_aload_nQ dX4_write_87 rfl rfl ?_
          refine c_getI (C := RX4) (T := TX4) (N := 10) (ci := 3) (k := 4) ⟨rfl, inT4, by decide, fX4_32⟩ (by decide) (by decide) (by decide) dX4_write_88 (hS.k t_x0) ?_
          refine c_iload_n dX4_write_91 rfl rfl ?_
          refine c_isub dX4_write_92 ?_
          refine c_sipush (v := nI 512) dX4_write_93 (by decide) ?_
          refine c_icmp_gt (tgt := 103) dX4_write_96 (by decide) (fun c_96 => ?_) (fun c_96 => ?_)
          · have ok := ok.1 c_96
            have hx := xif_p c_96 hx
            exact cX.cutz (kb_X4_write_103 hG hX0 hrec hS hM t_x0 ok hx) ⟨rfl, rfl, rfl, rfl, rfl, trivial⟩
          · have ok := ok.2 c_96
            have hx := xif_n c_96 hx
            refine c_iconst (v := nI 1) dX4_write_99 (by decide) ?_
            refine c_goto (tgt := 104) dX4_write_100 (by decide) ?_
            exact cX.cutz (kb_X4_write_104 hG hX0 hrec hS hM t_x0 ok hx) ⟨rfl, rfl, rfl, rfl, rfl, trivial⟩
def KL_X4_write_48 (N g H T : Nat) : Nat → Nat → Int32 → Int32 → Int32 → cS → Nat × Nat × Int32 × cS
  | 0, x0, x2, x3, x4, S => (0, 0, 0, S)
  | n + 1, x0, x2, x3, x4, S => KB_X4_write_48 N g H T (KL_X4_write_48 N g H T n) x0 x2 x3 x4 S
def KOL_X4_write_48 (N g H T : Nat) : Nat → Nat → Int32 → Int32 → Int32 → cS → Prop
  | 0, _, _, _, _, _ => False
  | n + 1, x0, x2, x3, x4, S => KOB_X4_write_48 N g H T (KOL_X4_write_48 N g H T n) x0 x2 x3 x4 S
set_option maxRecDepth 100000 in
set_option maxHeartbeats 4000000 in
theorem kl_X4_write_48 {G : zG} {o : cO} {u g H T N : Nat} {S0 : cS} {Q : Option Value → cS → Prop} {X : Nat × Nat × Int32 × cS → Prop} (hG : zOK G) (hX0 : ∀ (x0 : Nat) (x2 : Int32) (S' : cS), St u g H T S' → Mono S0 S' → isO g H 3 x0 → X (0, x0, x2, S') → cX G o dX4_write mX4_write 202 [some (va_rf (some x0)), none, some (.int x2), none, none, none, none] [] S' Q) : ∀ (n : Nat) (x0 : Nat) (x2 : Int32) (x3 : Int32) (x4 : Int32) (S : cS), St u g H T S → Mono S0 S → isO g H 3 x0 → KOL_X4_write_48 N g H T n x0 x2 x3 x4 S → X (KL_X4_write_48 N g H T n x0 x2 x3 x4 S) → cX G o dX4_write mX4_write 48 [some (va_rf (some x0)), none, some (.int x2), some (.int x3), some (.int x4), none, none] [] S Q := by
  intro n
  induction n with
  | zero => intro x0 x2 x3 x4 S hS hM t_x0 ok; exact absurd ok id
  | succ n ih =>
    intro x0 x2 x3 x4 S hS hM t_x0 ok hx
    exact kbb_X4_write_48 hG hX0 (rec := KL_X4_write_48 N g H T n) (rok := KOL_X4_write_48 N g H T n) (fun x0 x2 x3 x4 S hS hM t_x0 ok hx => ih x0 x2 x3 x4 S hS hM t_x0 ok hx) hS hM t_x0 ok hx
def KA_X4_write_48 (N g H T : Nat) (x0 : Nat) (x2 : Int32) (x3 : Int32) (x4 : Int32) (S : cS) (z : Nat × Nat × Int32 × cS) : Int32 × cS := (KF_X4_write_202 N g H T (z.2.1) (z.2.2.1) z.2.2.2)
def KOA_X4_write_48 (N g H T : Nat) (x0 : Nat) (x2 : Int32) (x3 : Int32) (x4 : Int32) (S : cS) (z : Nat × Nat × Int32 × cS) : Prop := KO_X4_write_202 N g H T (z.2.1) (z.2.2.1) z.2.2.2
set_option maxRecDepth 100000 in
set_option maxHeartbeats 4000000 in
theorem kd_X4_write_48 {G : zG} {o : cO} {u g H T N : Nat} {S : cS} {S0 : cS} {Q : Option Value → cS → Prop} {X : Int32 × cS → Prop} (hG : zOK G) (hR : ∀ v S', St u g H T S' → Mono S0 S' → X (v, S') → Q (some (.int v)) S') {x0 : Nat} {x2 : Int32} {x3 : Int32} {x4 : Int32} (hS : St u g H T S) (hM : Mono S0 S) (t_x0 : isO g H 3 x0) (ok : KOL_X4_write_48 N g H T N x0 x2 x3 x4 S ∧ KOA_X4_write_48 N g H T x0 x2 x3 x4 S (KL_X4_write_48 N g H T N x0 x2 x3 x4 S)) (hx : X (KA_X4_write_48 N g H T x0 x2 x3 x4 S (KL_X4_write_48 N g H T N x0 x2 x3 x4 S))) : cX G o dX4_write mX4_write 48 [some (va_rf (some x0)), none, some (.int x2), some (.int x3), some (.int x4), none, none] [] S Q := by
  refine kl_X4_write_48 hG ?_ N x0 x2 x3 x4 S hS hM t_x0 ok.1 (X := fun z => KOA_X4_write_48 N g H T x0 x2 x3 x4 S z ∧ X (KA_X4_write_48 N g H T x0 x2 x3 x4 S z)) ⟨ok.2, hx⟩
  · intro x0' x2' S' hS hM t_x0 hz
    obtain ⟨ok, hx⟩ := hz
    unfold KOA_X4_write_48 at ok
    unfold KA_X4_write_48 at hx
    exact cX.cutz (kb_X4_write_202 hG hR hS hM t_x0 ok hx) ⟨rfl, rfl, trivial⟩
def KF_X4_write_43 (N g H T : Nat) (x0 : Nat) (x1 : Int32) (x2 : Int32) (S : cS) : Int32 × cS := (KA_X4_write_48 N g H T x0 x2 (nI 0) x1 S (KL_X4_write_48 N g H T N x0 x2 (nI 0) x1 S))
def KO_X4_write_43 (N g H T : Nat) (x0 : Nat) (x1 : Int32) (x2 : Int32) (S : cS) : Prop := (KOL_X4_write_48 N g H T N x0 x2 (nI 0) x1 S ∧ KOA_X4_write_48 N g H T x0 x2 (nI 0) x1 S (KL_X4_write_48 N g H T N x0 x2 (nI 0) x1 S))
set_option maxRecDepth 100000 in
set_option maxHeartbeats 4000000 in
theorem kb_X4_write_43 {G : zG} {o : cO} {u g H T N : Nat} {S : cS} {S0 : cS} {Q : Option Value → cS → Prop} {X : Int32 × cS → Prop} (hG : zOK G) (hR : ∀ v S', St u g H T S' → Mono S0 S' → X (v, S') → Q (some (.int v)) S') {x0 : Nat} {x1 : Int32} {x2 : Int32} (hS : St u g H T S) (hM : Mono S0 S) (t_x0 : isO g H 3 x0) (ok : KO_X4_write_43 N g H T x0 x1 x2 S) (hx : X (KF_X4_write_43 N g H T x0 x1 x2 S)) : cX G o dX4_write mX4_write 43 [some (va_rf (some x0)), some (.int x1), some (.int x2), none, none, none, none] [] S Q := by
  unfold KO_X4_write_43 at ok
  unfold KF_X4_write_43 at hx
  refine c_iconst (v := nI 0) dX4_write_43 (by decide) ?_
  refine c_istore_3 dX4_write_44 (by decide) rfl ?_
  refine c_iload_n dX4_write_45 rfl rfl ?_
  refine c_istore_4 dX4_write_46 (by decide) rfl ?_
  exact cX.cutz (kd_X4_write_48 hG hR hS hM t_x0 ok hx) ⟨rfl, rfl, rfl, rfl, trivial⟩
def KF_X4_write_31 (N g H T : Nat) (x0 : Nat) (x1 : Int32) (x2 : Int32) (S : cS) : Int32 × cS := (KF_X4_write_43 N g H T x0 x1 x2 (k_X11_putTwo N g H T S (some (x0 + 3)) (nI 4) (cI S 4 x0)))
def KO_X4_write_31 (N g H T : Nat) (x0 : Nat) (x1 : Int32) (x2 : Int32) (S : cS) : Prop := (p_X11_putTwo N g H T S (some (x0 + 3)) (nI 4) (cI S 4 x0)) ∧ KO_X4_write_43 N g H T x0 x1 x2 (k_X11_putTwo N g H T S (some (x0 + 3)) (nI 4) (cI S 4 x0))
set_option maxRecDepth 100000 in
set_option maxHeartbeats 4000000 in
theorem kb_X4_write_31 {G : zG} {o : cO} {u g H T N : Nat} {S : cS} {S0 : cS} {Q : Option Value → cS → Prop} {X : Int32 × cS → Prop} (hG : zOK G) (hR : ∀ v S', St u g H T S' → Mono S0 S' → X (v, S') → Q (some (.int v)) S') {x0 : Nat} {x1 : Int32} {x2 : Int32} (hS : St u g H T S) (hM : Mono S0 S) (t_x0 : isO g H 3 x0) (ok : KO_X4_write_31 N g H T x0 x1 x2 S) (hx : X (KF_X4_write_31 N g H T x0 x1 x2 S)) : cX G o dX4_write mX4_write 31 [some (va_rf (some x0)), some (.int x1), some (.int x2), none, none, none, none] [] S Q := by
  unfold KO_X4_write_31 at ok
  unfold KF_X4_write_31 at hx
  refine c_aload_nQ dX4_write_31 rfl rfl ?_
  refine c_getS (C := RX4) (T := TX4) (N := 10) (ci := 3) (k := 2) ⟨rfl, inT4, by decide, fX4_21⟩ (by decide) (by decide) (by decide) dX4_write_32 (hS.k t_x0) (hS.r (c := 3) t_x0 rfl (by omega)) ?_
  refine c_iconst (v := nI 4) dX4_write_35 (by decide) ?_
  refine c_aload_nQ dX4_write_36 rfl rfl ?_
  refine c_getI (C := RX4) (T := TX4) (N := 10) (ci := 3) (k := 4) ⟨rfl, inT4, by decide, fX4_32⟩ (by decide) (by decide) (by decide) dX4_write_37 (hS.k t_x0) ?_
  refine c_SN3vK (y' := mX11_putTwo) dX4_write_40 lX4_28 kX11_putTwo ⟨by decide, by decide⟩ (Nat.le_of_ble_eq_true rfl) (kc_X11_putTwo hG hS (hS.rk (c := 3) (k := 2) t_x0 rfl (by omega)) ok.1) (fun ⟨hS, hm_40⟩ => ?_)
  have hM := hM.trans hm_40
  have ok := ok.2
  exact cX.cutz (kb_X4_write_43 hG hR hS hM t_x0 ok hx) ⟨rfl, rfl, rfl, trivial⟩
def KF_X4_write_13 (N g H T : Nat) (x0 : Nat) (x1 : Int32) (s0 : Int32) (S : cS) : Int32 × cS := (if (cI S 9 x0) ≤ 0 then (KF_X4_write_31 N g H T x0 x1 s0 S) else (KF_X4_write_31 N g H T x0 x1 s0 (csI S 9 x0 ((cI S 9 x0) - (nI 1)))))
def KO_X4_write_13 (N g H T : Nat) (x0 : Nat) (x1 : Int32) (s0 : Int32) (S : cS) : Prop := (((cI S 9 x0) ≤ 0 → KO_X4_write_31 N g H T x0 x1 s0 S) ∧ (¬ (cI S 9 x0) ≤ 0 → KO_X4_write_31 N g H T x0 x1 s0 (csI S 9 x0 ((cI S 9 x0) - (nI 1)))))
set_option maxRecDepth 100000 in
set_option maxHeartbeats 4000000 in
theorem kb_X4_write_13 {G : zG} {o : cO} {u g H T N : Nat} {S : cS} {S0 : cS} {Q : Option Value → cS → Prop} {X : Int32 × cS → Prop} (hG : zOK G) (hR : ∀ v S', St u g H T S' → Mono S0 S' → X (v, S') → Q (some (.int v)) S') {x0 : Nat} {x1 : Int32} {s0 : Int32} (hS : St u g H T S) (hM : Mono S0 S) (t_x0 : isO g H 3 x0) (ok : KO_X4_write_13 N g H T x0 x1 s0 S) (hx : X (KF_X4_write_13 N g H T x0 x1 s0 S)) : cX G o dX4_write mX4_write 13 [some (va_rf (some x0)), some (.int x1), none, none, none, none, none] [.int s0] S Q := by
  unfold KO_X4_write_13 at ok
  unfold KF_X4_write_13 at hx
  refine c_istore_2 dX4_write_13 (by decide) rfl ?_
  refine c_aload_nQ dX4_write_14 rfl rfl ?_
  refine c_getI (C := RX4) (T := TX4) (N := 10) (ci := 3) (k := 9) ⟨rfl, inT4, by decide, fX4_42⟩ (by decide) (by decide) (by decide) dX4_write_15 (hS.k t_x0) ?_
  refine c_if_le (tgt := 31) dX4_write_18 (by decide) (fun c_18 => ?_) (fun c_18 => ?_)
  · have ok := ok.1 c_18
    have hx := xif_p c_18 hx
    exact cX.cutz (kb_X4_write_31 hG hR hS hM t_x0 ok hx) ⟨rfl, rfl, rfl, trivial⟩
  · have ok := ok.2 c_18
    have hx := xif_n c_18 hx
    refine c_aload_nQ dX4_write_21 rfl rfl ?_
    refine c_dup dX4_write_22 (zcat_rf _) ?_
    refine c_getI (C := RX4) (T := TX4) (N := 10) (ci := 3) (k := 9) ⟨rfl, inT4, by decide, fX4_42⟩ (by decide) (by decide) (by decide) dX4_write_23 (hS.k t_x0) ?_
    refine c_iconst (v := nI 1) dX4_write_26 (by decide) ?_
    refine c_isub dX4_write_27 ?_
    refine c_putI (C := RX4) (T := TX4) (N := 10) (ci := 3) (k := 9) ⟨rfl, inT4, by decide, fX4_42⟩ ftT4 rfl (by decide) (by decide) (by decide) rfl rfl dX4_write_28 (hS.k t_x0) ?_
    have hS := hS.I 9 x0 ((cI S 9 x0) - (nI 1))
    have hM := hM.I 9 x0 ((cI S 9 x0) - (nI 1))
    exact cX.cutz (kb_X4_write_31 hG hR hS hM t_x0 ok hx) ⟨rfl, rfl, rfl, trivial⟩
def KF_X4_write_0 (N g H T : Nat) (x0 : Nat) (x1 : Int32) (S : cS) : Int32 × cS := (if (cI S 9 x0) = (nI 1) then (KF_X4_write_13 N g H T x0 x1 (nI 1) S) else (KF_X4_write_13 N g H T x0 x1 (nI 0) S))
def KO_X4_write_0 (N g H T : Nat) (x0 : Nat) (x1 : Int32) (S : cS) : Prop := (((cI S 9 x0) = (nI 1) → KO_X4_write_13 N g H T x0 x1 (nI 1) S) ∧ (¬ (cI S 9 x0) = (nI 1) → KO_X4_write_13 N g H T x0 x1 (nI 0) S))
set_option maxRecDepth 100000 in
set_option maxHeartbeats 4000000 in
theorem kb_X4_write_0 {G : zG} {o : cO} {u g H T N : Nat} {S : cS} {S0 : cS} {Q : Option Value → cS → Prop} {X : Int32 × cS → Prop} (hG : zOK G) (hR : ∀ v S', St u g H T S' → Mono S0 S' → X (v, S') → Q (some (.int v)) S') {x0 : Nat} {x1 : Int32} (hS : St u g H T S) (hM : Mono S0 S) (t_x0 : isO g H 3 x0) (ok : KO_X4_write_0 N g H T x0 x1 S) (hx : X (KF_X4_write_0 N g H T x0 x1 S)) : cX G o dX4_write mX4_write 0 [some (va_rf (some x0)), some (.int x1), none, none, none, none, none] [] S Q := by
  unfold KO_X4_write_0 at ok
  unfold KF_X4_write_0 at hx
  refine c_aload_nQ dX4_write_0 rfl rfl ?_
  refine c_getI (C := RX4) (T := TX4) (N := 10) (ci := 3) (k := 9) ⟨rfl, inT4, by decide, fX4_42⟩ (by decide) (by decide) (by decide) dX4_write_1 (hS.k t_x0) ?_
  refine c_iconst (v := nI 1) dX4_write_4 (by decide) ?_
  refine c_icmp_ne (tgt := 12) dX4_write_5 (by decide) (fun c_5 => ?_) (fun c_5 => ?_)
  · have ok := ok.2 c_5
    have hx := xif_n c_5 hx
    refine c_iconst (v := nI 0) dX4_write_12 (by decide) ?_
    exact cX.cutz (kb_X4_write_13 hG hR hS hM t_x0 ok hx) ⟨rfl, rfl, trivial⟩
  · have ok := ok.1 c_5
    have hx := xif_p c_5 hx
    refine c_iconst (v := nI 1) dX4_write_8 (by decide) ?_
    refine c_goto (tgt := 13) dX4_write_9 (by decide) ?_
    exact cX.cutz (kb_X4_write_13 hG hR hS hM t_x0 ok hx) ⟨rfl, rfl, trivial⟩
def k_X4_write (N g H T : Nat) (S : cS) (a0 : Nat) (x1 : Int32) : Int32 × cS := KF_X4_write_0 N g H T a0 x1 S
def p_X4_write (N g H T : Nat) (S : cS) (a0 : Nat) (x1 : Int32) : Prop := KO_X4_write_0 N g H T a0 x1 S
set_option maxRecDepth 100000 in
set_option maxHeartbeats 4000000 in
theorem kc_X4_write {G : zG} {o : cO} {u g H T N : Nat} {S : cS} (hG : zOK G) {a0 : Nat} {x1 : Int32} (hS : St u g H T S) (t_x0 : isO g H 3 a0) (ok : p_X4_write N g H T S a0 x1) : cCi G o dX4_write mX4_write [.ref a0, .int x1] S (fun v S' => (v = (k_X4_write N g H T S a0 x1).1 ∧ S' = (k_X4_write N g H T S a0 x1).2) ∧ St u g H T S' ∧ Mono S S') := by
  refine cC.ofX rfl (by exact Nat.le_of_ble_eq_true rfl) ?_
  show cX G o dX4_write mX4_write 0 [some (va_rf (some a0)), some (.int x1), none, none, none, none, none] [] S _
  exact cX.cutz (kb_X4_write_0 (X := fun F => F = k_X4_write N g H T S a0 x1) hG (fun v S' h1 h2 h => ⟨v, rfl, ⟨by rw [← h], by rw [← h]⟩, h1, h2⟩) hS Mono.rfl' t_x0 ok rfl) ⟨rfl, rfl, trivial⟩
/-! X4_noteChain -/
def KF_X4_noteChain_37 (N g H T : Nat) (x0 : Nat) (x1 : Int32) (x3 : Int32) (x4 : Int32) (s0 : Int32) (S : cS) : Int32 × cS := (if s0 = 0 then ((nI 0), S) else ((nI 1), (csA S (x0 + 4) x1.toNatClampNeg (x4 - x3))))
def KO_X4_noteChain_37 (N g H T : Nat) (x0 : Nat) (x1 : Int32) (x3 : Int32) (x4 : Int32) (s0 : Int32) (S : cS) : Prop := ((s0 = 0 → True) ∧ (¬ s0 = 0 → (vp_in x1 41) ∧ True))
set_option maxRecDepth 100000 in
set_option maxHeartbeats 4000000 in
theorem kb_X4_noteChain_37 {G : zG} {o : cO} {u g H T N : Nat} {S : cS} {S0 : cS} {Q : Option Value → cS → Prop} {X : Int32 × cS → Prop} (hG : zOK G) (hR : ∀ v S', St u g H T S' → Mono S0 S' → X (v, S') → Q (some (.int v)) S') {x0 : Nat} {x1 : Int32} {x3 : Int32} {x4 : Int32} {s0 : Int32} (hS : St u g H T S) (hM : Mono S0 S) (t_x0 : isO g H 3 x0) (ok : KO_X4_noteChain_37 N g H T x0 x1 x3 x4 s0 S) (hx : X (KF_X4_noteChain_37 N g H T x0 x1 x3 x4 s0 S)) : cX G o dX4_noteChain mX4_noteChain 37 [some (va_rf (some x0)), some (.int x1), none, some (.int x3), some (.int x4)] [.int s0] S Q := by
  unfold KO_X4_noteChain_37 at ok
  unfold KF_X4_noteChain_37 at hx
  refine c_if_ne (tgt := 42) dX4_noteChain_37 (by decide) (fun c_37 => ?_) (fun c_37 => ?_)
  · have ok := ok.2 c_37
    have hx := xif_n c_37 hx
    refine c_aload_nQ dX4_noteChain_42 rfl rfl ?_
    refine c_getS (C := RX4) (T := TX4) (N := 10) (ci := 3) (k := 3) ⟨rfl, inT4, by decide, fX4_24⟩ (by decide) (by decide) (by decide) dX4_noteChain_43 (hS.k t_x0) (hS.r (c := 3) t_x0 rfl (by omega)) ?_
    refine c_iload_n dX4_noteChain_46 rfl rfl ?_
    refine c_iload dX4_noteChain_47 rfl ?_
    refine c_iload_n dX4_noteChain_49 rfl rfl ?_
    refine c_isub dX4_noteChain_50 ?_
    have tq_51 : tK S 21 (some (x0 + 4)) := tK_some (tK.cis (hS.rk (c := 3) (k := 3) t_x0 rfl (by omega)) (Option.some_ne_none _)).2
    refine c_iast hG dX4_noteChain_51 ⟨(tK.cis (hS.rk (c := 3) (k := 3) t_x0 rfl (by omega)) (Option.some_ne_none _)), (vk_cast (hS.rl (c := 3) (k := 3) t_x0 rfl (by decide) (by omega)) ok.1)⟩ ?_
    have hS := hS.Aw (k := 21) (x0 + 4) x1.toNatClampNeg (x4 - x3) tq_51 (by decide)
    have hM := hM.A (x0 + 4) x1.toNatClampNeg (x4 - x3)
    have ok := ok.2
    refine c_iconst (v := nI 1) dX4_noteChain_52 (by decide) ?_
    exact c_ireturn rfl rfl dX4_noteChain_53 (hR _ _ hS hM hx)
  · have ok := ok.1 c_37
    have hx := xif_p c_37 hx
    refine c_iconst (v := nI 0) dX4_noteChain_40 (by decide) ?_
    exact c_ireturn rfl rfl dX4_noteChain_41 (hR _ _ hS hM hx)
def KF_X4_noteChain_28 (N g H T : Nat) (x0 : Nat) (x1 : Int32) (x3 : Int32) (x4 : Int32) (S : cS) : Int32 × cS := (KF_X4_noteChain_37 N g H T x0 x1 x3 x4 ((k_X4_write N g H T S x0 (((nI 2) * x1) - (nI 2))).1) (k_X4_write N g H T S x0 (((nI 2) * x1) - (nI 2))).2)
def KO_X4_noteChain_28 (N g H T : Nat) (x0 : Nat) (x1 : Int32) (x3 : Int32) (x4 : Int32) (S : cS) : Prop := (p_X4_write N g H T S x0 (((nI 2) * x1) - (nI 2))) ∧ KO_X4_noteChain_37 N g H T x0 x1 x3 x4 ((k_X4_write N g H T S x0 (((nI 2) * x1) - (nI 2))).1) (k_X4_write N g H T S x0 (((nI 2) * x1) - (nI 2))).2
set_option maxRecDepth 100000 in
set_option maxHeartbeats 4000000 in
theorem kb_X4_noteChain_28 {G : zG} {o : cO} {u g H T N : Nat} {S : cS} {S0 : cS} {Q : Option Value → cS → Prop} {X : Int32 × cS → Prop} (hG : zOK G) (hR : ∀ v S', St u g H T S' → Mono S0 S' → X (v, S') → Q (some (.int v)) S') {x0 : Nat} {x1 : Int32} {x3 : Int32} {x4 : Int32} (hS : St u g H T S) (hM : Mono S0 S) (t_x0 : isO g H 3 x0) (ok : KO_X4_noteChain_28 N g H T x0 x1 x3 x4 S) (hx : X (KF_X4_noteChain_28 N g H T x0 x1 x3 x4 S)) : cX G o dX4_noteChain mX4_noteChain 28 [some (va_rf (some x0)), some (.int x1), none, some (.int x3), some (.int x4)] [] S Q := by
  unfold KO_X4_noteChain_28 at ok
  unfold KF_X4_noteChain_28 at hx
  refine c_aload_nQ dX4_noteChain_28 rfl rfl ?_
  refine c_iconst (v := nI 2) dX4_noteChain_29 (by decide) ?_
  refine c_iload_n dX4_noteChain_30 rfl rfl ?_
  refine c_imul dX4_noteChain_31 ?_
  refine c_iconst (v := nI 2) dX4_noteChain_32 (by decide) ?_
  refine c_isub dX4_noteChain_33 ?_
  refine c_V1iK (ci := 3) (rr := (RX4, TX4, 10)) (y' := mX4_write) dX4_noteChain_34 lX4_64 kX4_write ⟨by decide, by decide⟩ rfl rfl (by decide) (hS.k t_x0) (Nat.le_of_ble_eq_true rfl) (kc_X4_write hG hS t_x0 ok.1) (fun ⟨hS, hm_34⟩ => ?_)
  have hM := hM.trans hm_34
  have ok := ok.2
  exact cX.cutz (kb_X4_noteChain_37 hG hR hS hM t_x0 ok hx) ⟨rfl, rfl, rfl, rfl, trivial⟩
def KF_X4_noteChain_20 (N g H T : Nat) (x0 : Nat) (x1 : Int32) (x2 : Option Nat) (x3 : Int32) (x4 : Int32) (S : cS) : Int32 × cS := (KF_X4_noteChain_28 N g H T x0 x1 x3 x4 (k_X4_add N g H T S x0 x2 x3 x4))
def KO_X4_noteChain_20 (N g H T : Nat) (x0 : Nat) (x1 : Int32) (x2 : Option Nat) (x3 : Int32) (x4 : Int32) (S : cS) : Prop := (p_X4_add N g H T S x0 x2 x3 x4) ∧ KO_X4_noteChain_28 N g H T x0 x1 x3 x4 (k_X4_add N g H T S x0 x2 x3 x4)
set_option maxRecDepth 100000 in
set_option maxHeartbeats 4000000 in
theorem kb_X4_noteChain_20 {G : zG} {o : cO} {u g H T N : Nat} {S : cS} {S0 : cS} {Q : Option Value → cS → Prop} {X : Int32 × cS → Prop} (hG : zOK G) (hR : ∀ v S', St u g H T S' → Mono S0 S' → X (v, S') → Q (some (.int v)) S') {x0 : Nat} {x1 : Int32} {x2 : Option Nat} {x3 : Int32} {x4 : Int32} (hS : St u g H T S) (hM : Mono S0 S) (t_x0 : isO g H 3 x0) (t_x2 : tK S 20 x2) (ok : KO_X4_noteChain_20 N g H T x0 x1 x2 x3 x4 S) (hx : X (KF_X4_noteChain_20 N g H T x0 x1 x2 x3 x4 S)) : cX G o dX4_noteChain mX4_noteChain 20 [some (va_rf (some x0)), some (.int x1), some (va_rf x2), some (.int x3), some (.int x4)] [] S Q := by
  unfold KO_X4_noteChain_20 at ok
  unfold KF_X4_noteChain_20 at hx
  refine c_aload_nQ dX4_noteChain_20 rfl rfl ?_
  refine c_aload_nQ dX4_noteChain_21 rfl rfl ?_
  refine c_iload_n dX4_noteChain_22 rfl rfl ?_
  refine c_iload dX4_noteChain_23 rfl ?_
  refine c_V3vK (ci := 3) (rr := (RX4, TX4, 10)) (y' := mX4_add) dX4_noteChain_25 lX4_61 kX4_add ⟨by decide, by decide⟩ rfl rfl (by decide) (hS.k t_x0) (Nat.le_of_ble_eq_true rfl) (kc_X4_add hG hS t_x0 t_x2 ok.1) (fun ⟨hS, hm_25⟩ => ?_)
  have hM := hM.trans hm_25
  have ok := ok.2
  exact cX.cutz (kb_X4_noteChain_28 hG hR hS hM t_x0 ok hx) ⟨rfl, rfl, rfl, rfl, trivial⟩
def KF_X4_noteChain_11 (N g H T : Nat)  (S : cS) : Int32 × cS := ((nI 0), S)
def KO_X4_noteChain_11 (N g H T : Nat)  (S : cS) : Prop := True
set_option maxRecDepth 100000 in
set_option maxHeartbeats 4000000 in
theorem kb_X4_noteChain_11 {G : zG} {o : cO} {u g H T N : Nat} {S : cS} {S0 : cS} {Q : Option Value → cS → Prop} {X : Int32 × cS → Prop} (hG : zOK G) (hR : ∀ v S', St u g H T S' → Mono S0 S' → X (v, S') → Q (some (.int v)) S') (hS : St u g H T S) (hM : Mono S0 S) (ok : KO_X4_noteChain_11 N g H T S) (hx : X (KF_X4_noteChain_11 N g H T S)) : cX G o dX4_noteChain mX4_noteChain 11 [none, none, none, none, none] [] S Q := by
  unfold KO_X4_noteChain_11 at ok
  unfold KF_X4_noteChain_11 at hx
  refine c_iconst (v := nI 0) dX4_noteChain_11 (by decide) ?_
  exact c_ireturn rfl rfl dX4_noteChain_12 (hR _ _ hS hM hx)
def KF_X4_noteChain_0 (N g H T : Nat) (x0 : Nat) (x1 : Int32) (x2 : Option Nat) (x3 : Int32) (x4 : Int32) (S : cS) : Int32 × cS := (if x1 < (nI 1) then (KF_X4_noteChain_11 N g H T S) else (if x1 ≤ (nI 40) then (KF_X4_noteChain_20 N g H T x0 x1 x2 x3 x4 (k_X4_open N g H T S x0 (nI 1) x1 (nI 0))) else (KF_X4_noteChain_11 N g H T S)))
def KO_X4_noteChain_0 (N g H T : Nat) (x0 : Nat) (x1 : Int32) (x2 : Option Nat) (x3 : Int32) (x4 : Int32) (S : cS) : Prop := ((x1 < (nI 1) → KO_X4_noteChain_11 N g H T S) ∧ (¬ x1 < (nI 1) → ((x1 ≤ (nI 40) → (p_X4_open N g H T S x0 (nI 1) x1 (nI 0)) ∧ KO_X4_noteChain_20 N g H T x0 x1 x2 x3 x4 (k_X4_open N g H T S x0 (nI 1) x1 (nI 0))) ∧ (¬ x1 ≤ (nI 40) → KO_X4_noteChain_11 N g H T S))))
set_option maxRecDepth 100000 in
set_option maxHeartbeats 4000000 in
theorem kb_X4_noteChain_0 {G : zG} {o : cO} {u g H T N : Nat} {S : cS} {S0 : cS} {Q : Option Value → cS → Prop} {X : Int32 × cS → Prop} (hG : zOK G) (hR : ∀ v S', St u g H T S' → Mono S0 S' → X (v, S') → Q (some (.int v)) S') {x0 : Nat} {x1 : Int32} {x2 : Option Nat} {x3 : Int32} {x4 : Int32} (hS : St u g H T S) (hM : Mono S0 S) (t_x0 : isO g H 3 x0) (t_x2 : tK S 20 x2) (ok : KO_X4_noteChain_0 N g H T x0 x1 x2 x3 x4 S) (hx : X (KF_X4_noteChain_0 N g H T x0 x1 x2 x3 x4 S)) : cX G o dX4_noteChain mX4_noteChain 0 [some (va_rf (some x0)), some (.int x1), some (va_rf x2), some (.int x3), some (.int x4)] [] S Q := by
  unfold KO_X4_noteChain_0 at ok
  unfold KF_X4_noteChain_0 at hx
  refine c_iload_n dX4_noteChain_0 rfl rfl ?_
  refine c_iconst (v := nI 1) dX4_noteChain_1 (by decide) ?_
  refine c_icmp_lt (tgt := 11) dX4_noteChain_2 (by decide) (fun c_2 => ?_) (fun c_2 => ?_)
  · have ok := ok.1 c_2
    have hx := xif_p c_2 hx
    exact cX.cutz (kb_X4_noteChain_11 hG hR hS hM  ok hx) trivial
  · have ok := ok.2 c_2
    have hx := xif_n c_2 hx
    refine c_iload_n dX4_noteChain_5 rfl rfl ?_
    refine c_bipush (v := nI 40) dX4_noteChain_6 (by decide) ?_
    refine c_icmp_le (tgt := 13) dX4_noteChain_8 (by decide) (fun c_8 => ?_) (fun c_8 => ?_)
    · have ok := ok.1 c_8
      have hx := xif_p c_8 hx
      refine c_aload_nQ dX4_noteChain_13 rfl rfl ?_
      refine c_iconst (v := nI 1) dX4_noteChain_14 (by decide) ?_
      refine c_iload_n dX4_noteChain_15 rfl rfl ?_
      refine c_iconst (v := nI 0) dX4_noteChain_16 (by decide) ?_
      refine c_V3vK (ci := 3) (rr := (RX4, TX4, 10)) (y' := mX4_open) dX4_noteChain_17 lX4_57 kX4_open ⟨by decide, by decide⟩ rfl rfl (by decide) (hS.k t_x0) (Nat.le_of_ble_eq_true rfl) (kc_X4_open hG hS t_x0 ok.1) (fun ⟨hS, hm_17⟩ => ?_)
      have hM := hM.trans hm_17
      have ok := ok.2
      exact cX.cutz (kb_X4_noteChain_20 hG hR hS hM t_x0 (hm_17.tK t_x2 (by decide)) ok hx) ⟨rfl, rfl, rfl, rfl, rfl, trivial⟩
    · have ok := ok.2 c_8
      have hx := xif_n c_8 hx
      exact cX.cutz (kb_X4_noteChain_11 hG hR hS hM  ok hx) trivial
def k_X4_noteChain (N g H T : Nat) (S : cS) (a0 : Nat) (x1 : Int32) (x2 : Option Nat) (x3 : Int32) (x4 : Int32) : Int32 × cS := KF_X4_noteChain_0 N g H T a0 x1 x2 x3 x4 S
def p_X4_noteChain (N g H T : Nat) (S : cS) (a0 : Nat) (x1 : Int32) (x2 : Option Nat) (x3 : Int32) (x4 : Int32) : Prop := KO_X4_noteChain_0 N g H T a0 x1 x2 x3 x4 S
set_option maxRecDepth 100000 in
set_option maxHeartbeats 4000000 in
theorem kc_X4_noteChain {G : zG} {o : cO} {u g H T N : Nat} {S : cS} (hG : zOK G) {a0 : Nat} {x1 : Int32} {x2 : Option Nat} {x3 : Int32} {x4 : Int32} (hS : St u g H T S) (t_x0 : isO g H 3 a0) (t_x2 : tK S 20 x2) (ok : p_X4_noteChain N g H T S a0 x1 x2 x3 x4) : cCi G o dX4_noteChain mX4_noteChain [.ref a0, .int x1, va_rf x2, .int x3, .int x4] S (fun v S' => (v = (k_X4_noteChain N g H T S a0 x1 x2 x3 x4).1 ∧ S' = (k_X4_noteChain N g H T S a0 x1 x2 x3 x4).2) ∧ St u g H T S' ∧ Mono S S') := by
  refine cC.ofX rfl (by cases x2 <;> exact Nat.le_of_ble_eq_true rfl) ?_
  rw [show zargs mX4_noteChain.2.2.1 [.ref a0, .int x1, va_rf x2, .int x3, .int x4] = [some (va_rf (some a0)), some (.int x1), some (va_rf x2), some (.int x3), some (.int x4)] from by cases x2 <;> rfl]
  exact cX.cutz (kb_X4_noteChain_0 (X := fun F => F = k_X4_noteChain N g H T S a0 x1 x2 x3 x4) hG (fun v S' h1 h2 h => ⟨v, rfl, ⟨by rw [← h], by rw [← h]⟩, h1, h2⟩) hS Mono.rfl' t_x0 t_x2 ok rfl) ⟨rfl, rfl, rfl, rfl, rfl, trivial⟩

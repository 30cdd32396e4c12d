/-! rule -/
def F_rule_294 (N : Nat) (s0 : Int32) (S : rS) : Int32 × rS := (s0, S)
def O_rule_294 (N : Nat) (s0 : Int32) (S : rS) : Prop := narrow .boolean (.int s0) = .int s0
set_option maxHeartbeats 4000000 in
theorem b_rule_294 {G : zG} {E : rE} {S : rS} {N : Nat} {Q : Option Value → rS → Prop} {X : Int32 × rS → Prop} (hG : zOK G) (hR : ∀ v S', X (v, S') → Q (some (.int v)) S') {s0 : Int32} (ok : O_rule_294 N s0 S) (hx : X (F_rule_294 N s0 S)) : rX G E dX12_rule mX12_rule 294 [none, none, none, none, none, none] [.int s0] S Q := by
  unfold O_rule_294 at ok
  unfold F_rule_294 at hx
  exact r_ireturn rfl ok dX12_rule_294 (hR _ _ hx)
def F_rule_289 (N : Nat) (x1 : Int32) (S : rS) : Int32 × rS := (F_rule_294 N ((f_rule8 N S x1).1) (f_rule8 N S x1).2)
def O_rule_289 (N : Nat) (x1 : Int32) (S : rS) : Prop := (o_rule8 N S x1) ∧ O_rule_294 N ((f_rule8 N S x1).1) (f_rule8 N S x1).2
set_option maxHeartbeats 4000000 in
theorem b_rule_289 {G : zG} {E : rE} {S : rS} {N : Nat} {Q : Option Value → rS → Prop} {X : Int32 × rS → Prop} (hG : zOK G) (hR : ∀ v S', X (v, S') → Q (some (.int v)) S') {x1 : Int32} (ok : O_rule_289 N x1 S) (hx : X (F_rule_289 N x1 S)) : rX G E dX12_rule mX12_rule 289 [some (.ref E.1), some (.int x1), none, none, none, none] [] S Q := by
  unfold O_rule_289 at ok
  unfold F_rule_289 at hx
  refine r_aload_n dX12_rule_289 rfl rfl ?_
  refine r_iload_n dX12_rule_290 rfl rfl ?_
  refine r_V1i (y' := mX12_rule8) dX12_rule_291 lX12_633 kX12_rule8 ⟨by decide, by decide⟩ rfl (Nat.le_of_ble_eq_true rfl) (rc_X12_rule8 hG ok.1) (fun v_291 S_291 h_291 => ?_)
  obtain ⟨rfl, hS_291⟩ := h_291
  have hS_291 := hS_291.symm
  subst hS_291
  have ok := ok.2
  exact rX.cutz (b_rule_294 hG hR ok hx) trivial
def F_rule_287 (N : Nat)  (S : rS) : Int32 × rS := ((nI 1), S)
def O_rule_287 (N : Nat)  (S : rS) : Prop := True
set_option maxHeartbeats 4000000 in
theorem b_rule_287 {G : zG} {E : rE} {S : rS} {N : Nat} {Q : Option Value → rS → Prop} {X : Int32 × rS → Prop} (hG : zOK G) (hR : ∀ v S', X (v, S') → Q (some (.int v)) S') (ok : O_rule_287 N S) (hx : X (F_rule_287 N S)) : rX G E dX12_rule mX12_rule 287 [none, none, none, none, none, none] [] S Q := by
  unfold O_rule_287 at ok
  unfold F_rule_287 at hx
  refine r_iconst (v := nI 1) dX12_rule_287 (by decide) ?_
  exact r_ireturn rfl rfl dX12_rule_288 (hR _ _ hx)
def F_rule_234 (N : Nat) (x1 : Int32) (S : rS) : Int32 × rS := (if (S.2.1 46 x1.toNatClampNeg) = (nI 1) then (if (S.2.1 50 x1.toNatClampNeg) = 0 then (if (f_count0 N S (nI 0) x1 (S.2.1 45 x1.toNatClampNeg) (nI 0) (-1)) < (f_quorum N S) then (F_rule_289 N x1 S) else (F_rule_287 N (f_setTimer N (rsA S 50 x1.toNatClampNeg (nI 1)) x1 (nI 1)))) else (F_rule_289 N x1 S)) else (F_rule_289 N x1 S))
def O_rule_234 (N : Nat) (x1 : Int32) (S : rS) : Prop := (vp_in x1 13) ∧ (((S.2.1 46 x1.toNatClampNeg) = (nI 1) → (vp_in x1 13) ∧ (((S.2.1 50 x1.toNatClampNeg) = 0 → (vp_in x1 13) ∧ (o_count0 N S (nI 0) x1 (S.2.1 45 x1.toNatClampNeg) (nI 0) (-1)) ∧ (o_quorum N S) ∧ (((f_count0 N S (nI 0) x1 (S.2.1 45 x1.toNatClampNeg) (nI 0) (-1)) < (f_quorum N S) → O_rule_289 N x1 S) ∧ (¬ (f_count0 N S (nI 0) x1 (S.2.1 45 x1.toNatClampNeg) (nI 0) (-1)) < (f_quorum N S) → (vp_in x1 13) ∧ (o_setTimer N (rsA S 50 x1.toNatClampNeg (nI 1)) x1 (nI 1)) ∧ O_rule_287 N (f_setTimer N (rsA S 50 x1.toNatClampNeg (nI 1)) x1 (nI 1))))) ∧ (¬ (S.2.1 50 x1.toNatClampNeg) = 0 → O_rule_289 N x1 S))) ∧ (¬ (S.2.1 46 x1.toNatClampNeg) = (nI 1) → O_rule_289 N x1 S))
set_option maxHeartbeats 4000000 in
theorem b_rule_234 {G : zG} {E : rE} {S : rS} {N : Nat} {Q : Option Value → rS → Prop} {X : Int32 × rS → Prop} (hG : zOK G) (hR : ∀ v S', X (v, S') → Q (some (.int v)) S') {x1 : Int32} (ok : O_rule_234 N x1 S) (hx : X (F_rule_234 N x1 S)) : rX G E dX12_rule mX12_rule 234 [some (.ref E.1), some (.int x1), none, none, none, none] [] S Q := by
  unfold O_rule_234 at ok
  unfold F_rule_234 at hx
  refine r_aload_n dX12_rule_234 rfl rfl ?_
  refine r_getA 46 fX12_315 (by decide) (by decide) dX12_rule_235 ?_
  refine r_iload_n dX12_rule_238 rfl rfl ?_
  refine r_iald (by decide) (by decide) dX12_rule_239 ok.1 ?_
  have ok := ok.2
  refine r_iconst (v := nI 1) dX12_rule_240 (by decide) ?_
  refine r_icmp_ne (tgt := 289) dX12_rule_241 (by decide) (fun c_241 => ?_) (fun c_241 => ?_)
  · have ok := ok.2 c_241
    have hx := xif_n c_241 hx
    exact rX.cutz (b_rule_289 hG hR ok hx) ⟨rfl, rfl, trivial⟩
  · have ok := ok.1 c_241
    have hx := xif_p c_241 hx
    refine r_aload_n dX12_rule_244 rfl rfl ?_
    refine r_getA 50 fX12_327 (by decide) (by decide) dX12_rule_245 ?_
    refine r_iload_n dX12_rule_248 rfl rfl ?_
    refine r_zald (by decide) (by decide) dX12_rule_249 ok.1 ?_
    have ok := ok.2
    refine r_if_ne (tgt := 289) dX12_rule_250 (by decide) (fun c_250 => ?_) (fun c_250 => ?_)
    · have ok := ok.2 c_250
      have hx := xif_n c_250 hx
      exact rX.cutz (b_rule_289 hG hR ok hx) ⟨rfl, rfl, trivial⟩
    · have ok := ok.1 c_250
      have hx := xif_p c_250 hx
      refine r_aload_n dX12_rule_253 rfl rfl ?_
      refine r_iconst (v := nI 0) dX12_rule_254 (by decide) ?_
      refine r_iload_n dX12_rule_255 rfl rfl ?_
      refine r_aload_n dX12_rule_256 rfl rfl ?_
      refine r_getA 45 fX12_312 (by decide) (by decide) dX12_rule_257 ?_
      refine r_iload_n dX12_rule_260 rfl rfl ?_
      refine r_iald (by decide) (by decide) dX12_rule_261 ok.1 ?_
      have ok := ok.2
      refine r_iconst (v := nI 0) dX12_rule_262 (by decide) ?_
      refine r_iconst (v := -1) dX12_rule_263 (by decide) ?_
      refine r_V5i (y' := mX12_count0) dX12_rule_264 lX12_600 kX12_count0 ⟨by decide, by decide⟩ rfl (Nat.le_of_ble_eq_true rfl) (rc_X12_count0 hG ok.1) (fun v_264 S_264 h_264 => ?_)
      obtain ⟨rfl, hS_264⟩ := h_264
      have hS_264 := hS_264.symm
      subst hS_264
      have ok := ok.2
      refine r_aload_n dX12_rule_267 rfl rfl ?_
      refine r_V0i (y' := mX12_quorum) dX12_rule_268 lX12_603 kX12_quorum ⟨by decide, by decide⟩ rfl (Nat.le_of_ble_eq_true rfl) (rc_X12_quorum hG ok.1) (fun v_268 S_268 h_268 => ?_)
      obtain ⟨rfl, hS_268⟩ := h_268
      have hS_268 := hS_268.symm
      subst hS_268
      have ok := ok.2
      refine r_icmp_lt (tgt := 289) dX12_rule_271 (by decide) (fun c_271 => ?_) (fun c_271 => ?_)
      · have ok := ok.1 c_271
        have hx := xif_p c_271 hx
        exact rX.cutz (b_rule_289 hG hR ok hx) ⟨rfl, rfl, trivial⟩
      · have ok := ok.2 c_271
        have hx := xif_n c_271 hx
        refine r_aload_n dX12_rule_274 rfl rfl ?_
        refine r_getA 50 fX12_327 (by decide) (by decide) dX12_rule_275 ?_
        refine r_iload_n dX12_rule_278 rfl rfl ?_
        refine r_iconst (v := nI 1) dX12_rule_279 (by decide) ?_
        refine r_zast hG rfl (by decide) (by decide) dX12_rule_280 ok.1 ?_
        have ok := ok.2
        refine r_aload_n dX12_rule_281 rfl rfl ?_
        refine r_iload_n dX12_rule_282 rfl rfl ?_
        refine r_iconst (v := nI 1) dX12_rule_283 (by decide) ?_
        refine r_V2v (y' := mX12_setTimer) dX12_rule_284 lX12_572 kX12_setTimer ⟨by decide, by decide⟩ rfl (Nat.le_of_ble_eq_true rfl) (rc_X12_setTimer hG ok.1) (fun S_284 h_284 => ?_)
        subst h_284
        have ok := ok.2
        exact rX.cutz (b_rule_287 hG hR ok hx) trivial
def F_rule_233 (N : Nat) (s0 : Int32) (S : rS) : Int32 × rS := (s0, S)
def O_rule_233 (N : Nat) (s0 : Int32) (S : rS) : Prop := narrow .boolean (.int s0) = .int s0
set_option maxHeartbeats 4000000 in
theorem b_rule_233 {G : zG} {E : rE} {S : rS} {N : Nat} {Q : Option Value → rS → Prop} {X : Int32 × rS → Prop} (hG : zOK G) (hR : ∀ v S', X (v, S') → Q (some (.int v)) S') {s0 : Int32} (ok : O_rule_233 N s0 S) (hx : X (F_rule_233 N s0 S)) : rX G E dX12_rule mX12_rule 233 [none, none, none, none, none, none] [.int s0] S Q := by
  unfold O_rule_233 at ok
  unfold F_rule_233 at hx
  exact r_ireturn rfl ok dX12_rule_233 (hR _ _ hx)
def F_rule_194 (N : Nat) (x1 : Int32) (S : rS) : Int32 × rS := (if (S.2.1 46 x1.toNatClampNeg) = (nI 1) then (if (f_count0 N S (nI 0) x1 (S.2.1 45 x1.toNatClampNeg) (nI 1) (-1)) < (f_quorum N S) then (F_rule_234 N x1 S) else (F_rule_233 N ((f_vote N S x1 (nI 3) (-1) (nI 2)).1) (f_vote N S x1 (nI 3) (-1) (nI 2)).2)) else (F_rule_234 N x1 S))
def O_rule_194 (N : Nat) (x1 : Int32) (S : rS) : Prop := (vp_in x1 13) ∧ (((S.2.1 46 x1.toNatClampNeg) = (nI 1) → (vp_in x1 13) ∧ (o_count0 N S (nI 0) x1 (S.2.1 45 x1.toNatClampNeg) (nI 1) (-1)) ∧ (o_quorum N S) ∧ (((f_count0 N S (nI 0) x1 (S.2.1 45 x1.toNatClampNeg) (nI 1) (-1)) < (f_quorum N S) → O_rule_234 N x1 S) ∧ (¬ (f_count0 N S (nI 0) x1 (S.2.1 45 x1.toNatClampNeg) (nI 1) (-1)) < (f_quorum N S) → (o_vote N S x1 (nI 3) (-1) (nI 2)) ∧ O_rule_233 N ((f_vote N S x1 (nI 3) (-1) (nI 2)).1) (f_vote N S x1 (nI 3) (-1) (nI 2)).2))) ∧ (¬ (S.2.1 46 x1.toNatClampNeg) = (nI 1) → O_rule_234 N x1 S))
set_option maxHeartbeats 4000000 in
theorem b_rule_194 {G : zG} {E : rE} {S : rS} {N : Nat} {Q : Option Value → rS → Prop} {X : Int32 × rS → Prop} (hG : zOK G) (hR : ∀ v S', X (v, S') → Q (some (.int v)) S') {x1 : Int32} (ok : O_rule_194 N x1 S) (hx : X (F_rule_194 N x1 S)) : rX G E dX12_rule mX12_rule 194 [some (.ref E.1), some (.int x1), none, none, none, none] [] S Q := by
  unfold O_rule_194 at ok
  unfold F_rule_194 at hx
  refine r_aload_n dX12_rule_194 rfl rfl ?_
  refine r_getA 46 fX12_315 (by decide) (by decide) dX12_rule_195 ?_
  refine r_iload_n dX12_rule_198 rfl rfl ?_
  refine r_iald (by decide) (by decide) dX12_rule_199 ok.1 ?_
  have ok := ok.2
  refine r_iconst (v := nI 1) dX12_rule_200 (by decide) ?_
  refine r_icmp_ne (tgt := 234) dX12_rule_201 (by decide) (fun c_201 => ?_) (fun c_201 => ?_)
  · have ok := ok.2 c_201
    have hx := xif_n c_201 hx
    exact rX.cutz (b_rule_234 hG hR ok hx) ⟨rfl, rfl, trivial⟩
  · have ok := ok.1 c_201
    have hx := xif_p c_201 hx
    refine r_aload_n dX12_rule_204 rfl rfl ?_
    refine r_iconst (v := nI 0) dX12_rule_205 (by decide) ?_
    refine r_iload_n dX12_rule_206 rfl rfl ?_
    refine r_aload_n dX12_rule_207 rfl rfl ?_
    refine r_getA 45 fX12_312 (by decide) (by decide) dX12_rule_208 ?_
    refine r_iload_n dX12_rule_211 rfl rfl ?_
    refine r_iald (by decide) (by decide) dX12_rule_212 ok.1 ?_
    have ok := ok.2
    refine r_iconst (v := nI 1) dX12_rule_213 (by decide) ?_
    refine r_iconst (v := -1) dX12_rule_214 (by decide) ?_
    refine r_V5i (y' := mX12_count0) dX12_rule_215 lX12_600 kX12_count0 ⟨by decide, by decide⟩ rfl (Nat.le_of_ble_eq_true rfl) (rc_X12_count0 hG ok.1) (fun v_215 S_215 h_215 => ?_)
    obtain ⟨rfl, hS_215⟩ := h_215
    have hS_215 := hS_215.symm
    subst hS_215
    have ok := ok.2
    refine r_aload_n dX12_rule_218 rfl rfl ?_
    refine r_V0i (y' := mX12_quorum) dX12_rule_219 lX12_603 kX12_quorum ⟨by decide, by decide⟩ rfl (Nat.le_of_ble_eq_true rfl) (rc_X12_quorum hG ok.1) (fun v_219 S_219 h_219 => ?_)
    obtain ⟨rfl, hS_219⟩ := h_219
    have hS_219 := hS_219.symm
    subst hS_219
    have ok := ok.2
    refine r_icmp_lt (tgt := 234) dX12_rule_222 (by decide) (fun c_222 => ?_) (fun c_222 => ?_)
    · have ok := ok.1 c_222
      have hx := xif_p c_222 hx
      exact rX.cutz (b_rule_234 hG hR ok hx) ⟨rfl, rfl, trivial⟩
    · have ok := ok.2 c_222
      have hx := xif_n c_222 hx
      refine r_aload_n dX12_rule_225 rfl rfl ?_
      refine r_iload_n dX12_rule_226 rfl rfl ?_
      refine r_iconst (v := nI 3) dX12_rule_227 (by decide) ?_
      refine r_iconst (v := -1) dX12_rule_228 (by decide) ?_
      refine r_iconst (v := nI 2) dX12_rule_229 (by decide) ?_
      refine r_V4i (y' := mX12_vote) dX12_rule_230 lX12_639 kX12_vote ⟨by decide, by decide⟩ rfl (Nat.le_of_ble_eq_true rfl) (rc_X12_vote hG ok.1) (fun v_230 S_230 h_230 => ?_)
      obtain ⟨rfl, hS_230⟩ := h_230
      have hS_230 := hS_230.symm
      subst hS_230
      have ok := ok.2
      exact rX.cutz (b_rule_233 hG hR ok hx) trivial
def F_rule_193 (N : Nat) (s0 : Int32) (S : rS) : Int32 × rS := (s0, S)
def O_rule_193 (N : Nat) (s0 : Int32) (S : rS) : Prop := narrow .boolean (.int s0) = .int s0
set_option maxHeartbeats 4000000 in
theorem b_rule_193 {G : zG} {E : rE} {S : rS} {N : Nat} {Q : Option Value → rS → Prop} {X : Int32 × rS → Prop} (hG : zOK G) (hR : ∀ v S', X (v, S') → Q (some (.int v)) S') {s0 : Int32} (ok : O_rule_193 N s0 S) (hx : X (F_rule_193 N s0 S)) : rX G E dX12_rule mX12_rule 193 [none, none, none, none, none, none] [.int s0] S Q := by
  unfold O_rule_193 at ok
  unfold F_rule_193 at hx
  exact r_ireturn rfl ok dX12_rule_193 (hR _ _ hx)
def F_rule_183 (N : Nat) (x1 : Int32) (x5 : Int32) (s0 : Int32) (S : rS) : Int32 × rS := (if s0 = 0 then (F_rule_194 N x1 S) else (F_rule_193 N ((f_rule5 N S x1 x5).1) (f_rule5 N S x1 x5).2))
def O_rule_183 (N : Nat) (x1 : Int32) (x5 : Int32) (s0 : Int32) (S : rS) : Prop := ((s0 = 0 → O_rule_194 N x1 S) ∧ (¬ s0 = 0 → (o_rule5 N S x1 x5) ∧ O_rule_193 N ((f_rule5 N S x1 x5).1) (f_rule5 N S x1 x5).2))
set_option maxHeartbeats 4000000 in
theorem b_rule_183 {G : zG} {E : rE} {S : rS} {N : Nat} {Q : Option Value → rS → Prop} {X : Int32 × rS → Prop} (hG : zOK G) (hR : ∀ v S', X (v, S') → Q (some (.int v)) S') {x1 : Int32} {x5 : Int32} {s0 : Int32} (ok : O_rule_183 N x1 x5 s0 S) (hx : X (F_rule_183 N x1 x5 s0 S)) : rX G E dX12_rule mX12_rule 183 [some (.ref E.1), some (.int x1), none, none, none, some (.int x5)] [.int s0] S Q := by
  unfold O_rule_183 at ok
  unfold F_rule_183 at hx
  refine r_if_eq (tgt := 194) dX12_rule_183 (by decide) (fun c_183 => ?_) (fun c_183 => ?_)
  · have ok := ok.1 c_183
    have hx := xif_p c_183 hx
    exact rX.cutz (b_rule_194 hG hR ok hx) ⟨rfl, rfl, trivial⟩
  · have ok := ok.2 c_183
    have hx := xif_n c_183 hx
    refine r_aload_n dX12_rule_186 rfl rfl ?_
    refine r_iload_n dX12_rule_187 rfl rfl ?_
    refine r_iload dX12_rule_188 rfl ?_
    refine r_V2i (y' := mX12_rule5) dX12_rule_190 lX12_636 kX12_rule5 ⟨by decide, by decide⟩ rfl (Nat.le_of_ble_eq_true rfl) (rc_X12_rule5 hG ok.1) (fun v_190 S_190 h_190 => ?_)
    obtain ⟨rfl, hS_190⟩ := h_190
    have hS_190 := hS_190.symm
    subst hS_190
    have ok := ok.2
    exact rX.cutz (b_rule_193 hG hR ok hx) trivial
def F_rule_135 (N : Nat) (s0 : Int32) (S : rS) : Int32 × rS := (s0, S)
def O_rule_135 (N : Nat) (s0 : Int32) (S : rS) : Prop := narrow .boolean (.int s0) = .int s0
set_option maxHeartbeats 4000000 in
theorem b_rule_135 {G : zG} {E : rE} {S : rS} {N : Nat} {Q : Option Value → rS → Prop} {X : Int32 × rS → Prop} (hG : zOK G) (hR : ∀ v S', X (v, S') → Q (some (.int v)) S') {s0 : Int32} (ok : O_rule_135 N s0 S) (hx : X (F_rule_135 N s0 S)) : rX G E dX12_rule mX12_rule 135 [none, none, none, none, none, none] [.int s0] S Q := by
  unfold O_rule_135 at ok
  unfold F_rule_135 at hx
  exact r_ireturn rfl ok dX12_rule_135 (hR _ _ hx)
def F_rule_130 (N : Nat) (x1 : Int32) (S : rS) : Int32 × rS := (F_rule_135 N ((f_rule8 N S x1).1) (f_rule8 N S x1).2)
def O_rule_130 (N : Nat) (x1 : Int32) (S : rS) : Prop := (o_rule8 N S x1) ∧ O_rule_135 N ((f_rule8 N S x1).1) (f_rule8 N S x1).2
set_option maxHeartbeats 4000000 in
theorem b_rule_130 {G : zG} {E : rE} {S : rS} {N : Nat} {Q : Option Value → rS → Prop} {X : Int32 × rS → Prop} (hG : zOK G) (hR : ∀ v S', X (v, S') → Q (some (.int v)) S') {x1 : Int32} (ok : O_rule_130 N x1 S) (hx : X (F_rule_130 N x1 S)) : rX G E dX12_rule mX12_rule 130 [some (.ref E.1), some (.int x1), none, none, none, none] [] S Q := by
  unfold O_rule_130 at ok
  unfold F_rule_130 at hx
  refine r_aload_n dX12_rule_130 rfl rfl ?_
  refine r_iload_n dX12_rule_131 rfl rfl ?_
  refine r_V1i (y' := mX12_rule8) dX12_rule_132 lX12_633 kX12_rule8 ⟨by decide, by decide⟩ rfl (Nat.le_of_ble_eq_true rfl) (rc_X12_rule8 hG ok.1) (fun v_132 S_132 h_132 => ?_)
  obtain ⟨rfl, hS_132⟩ := h_132
  have hS_132 := hS_132.symm
  subst hS_132
  have ok := ok.2
  exact rX.cutz (b_rule_135 hG hR ok hx) trivial
def F_rule_127 (N : Nat) (s0 : Int32) (S : rS) : Int32 × rS := (F_rule_135 N s0 S)
def O_rule_127 (N : Nat) (s0 : Int32) (S : rS) : Prop := O_rule_135 N s0 S
set_option maxHeartbeats 4000000 in
theorem b_rule_127 {G : zG} {E : rE} {S : rS} {N : Nat} {Q : Option Value → rS → Prop} {X : Int32 × rS → Prop} (hG : zOK G) (hR : ∀ v S', X (v, S') → Q (some (.int v)) S') {s0 : Int32} (ok : O_rule_127 N s0 S) (hx : X (F_rule_127 N s0 S)) : rX G E dX12_rule mX12_rule 127 [none, none, none, none, none, none] [.int s0] S Q := by
  unfold O_rule_127 at ok
  unfold F_rule_127 at hx
  refine r_goto (tgt := 135) dX12_rule_127 (by decide) ?_
  exact rX.cutz (b_rule_135 hG hR ok hx) trivial
def F_rule_65 (N : Nat) (x1 : Int32) (S : rS) : Int32 × rS := ((S.2.1 43 x1.toNatClampNeg), S)
def O_rule_65 (N : Nat) (x1 : Int32) (S : rS) : Prop := (vp_in x1 13) ∧ narrow .boolean (.int (S.2.1 43 x1.toNatClampNeg)) = .int (S.2.1 43 x1.toNatClampNeg)
set_option maxHeartbeats 4000000 in
theorem b_rule_65 {G : zG} {E : rE} {S : rS} {N : Nat} {Q : Option Value → rS → Prop} {X : Int32 × rS → Prop} (hG : zOK G) (hR : ∀ v S', X (v, S') → Q (some (.int v)) S') {x1 : Int32} (ok : O_rule_65 N x1 S) (hx : X (F_rule_65 N x1 S)) : rX G E dX12_rule mX12_rule 65 [some (.ref E.1), some (.int x1), none, none, none, none] [] S Q := by
  unfold O_rule_65 at ok
  unfold F_rule_65 at hx
  refine r_aload_n dX12_rule_65 rfl rfl ?_
  refine r_getA 43 fX12_305 (by decide) (by decide) dX12_rule_66 ?_
  refine r_iload_n dX12_rule_69 rfl rfl ?_
  refine r_zald (by decide) (by decide) dX12_rule_70 ok.1 ?_
  have ok := ok.2
  exact r_ireturn rfl ok dX12_rule_71 (hR _ _ hx)
def F_rule_39 (N : Nat) (x1 : Int32) (S : rS) : Int32 × rS := ((S.2.1 43 x1.toNatClampNeg), S)
def O_rule_39 (N : Nat) (x1 : Int32) (S : rS) : Prop := (vp_in x1 13) ∧ narrow .boolean (.int (S.2.1 43 x1.toNatClampNeg)) = .int (S.2.1 43 x1.toNatClampNeg)
set_option maxHeartbeats 4000000 in
theorem b_rule_39 {G : zG} {E : rE} {S : rS} {N : Nat} {Q : Option Value → rS → Prop} {X : Int32 × rS → Prop} (hG : zOK G) (hR : ∀ v S', X (v, S') → Q (some (.int v)) S') {x1 : Int32} (ok : O_rule_39 N x1 S) (hx : X (F_rule_39 N x1 S)) : rX G E dX12_rule mX12_rule 39 [some (.ref E.1), some (.int x1), none, none, none, none] [] S Q := by
  unfold O_rule_39 at ok
  unfold F_rule_39 at hx
  refine r_aload_n dX12_rule_39 rfl rfl ?_
  refine r_getA 43 fX12_305 (by decide) (by decide) dX12_rule_40 ?_
  refine r_iload_n dX12_rule_43 rfl rfl ?_
  refine r_zald (by decide) (by decide) dX12_rule_44 ok.1 ?_
  have ok := ok.2
  exact r_ireturn rfl ok dX12_rule_45 (hR _ _ hx)
def F_rule_28 (N : Nat) (x1 : Int32) (s0 : Int32) (S : rS) : Int32 × rS := (if s0 < 0 then (if (f_ahead N S x1) < 0 then (if (S.2.1 46 x1.toNatClampNeg) = 0 then (if (f_isThere N S ((nI 0) + (f_heldAt N S x1 (S.2.1 44 x1.toNatClampNeg) (S.2.1 45 x1.toNatClampNeg)))) = 0 then (F_rule_130 N x1 S) else (if (f_mayVote N S x1 ((nI 0) + (f_heldAt N S x1 (S.2.1 44 x1.toNatClampNeg) (S.2.1 45 x1.toNatClampNeg)))) = 0 then (F_rule_130 N x1 S) else (F_rule_127 N ((f_prevote N S x1 ((nI 0) + (f_heldAt N S x1 (S.2.1 44 x1.toNatClampNeg) (S.2.1 45 x1.toNatClampNeg)))).1) (f_prevote N S x1 ((nI 0) + (f_heldAt N S x1 (S.2.1 44 x1.toNatClampNeg) (S.2.1 45 x1.toNatClampNeg)))).2))) else (if (S.2.1 49 x1.toNatClampNeg) = 0 then (if (f_isThere N S ((nI 0) + (f_heldAt N S x1 (S.2.1 44 x1.toNatClampNeg) (S.2.1 45 x1.toNatClampNeg)))) = 0 then (F_rule_194 N x1 S) else (if (f_count0 N S (nI 0) x1 (S.2.1 45 x1.toNatClampNeg) (nI 2) ((nI 0) + (f_heldAt N S x1 (S.2.1 44 x1.toNatClampNeg) (S.2.1 45 x1.toNatClampNeg)))) < (f_quorum N S) then (F_rule_194 N x1 S) else (F_rule_183 N x1 ((nI 0) + (f_heldAt N S x1 (S.2.1 44 x1.toNatClampNeg) (S.2.1 45 x1.toNatClampNeg))) ((f_isValid N S x1 ((nI 0) + (f_heldAt N S x1 (S.2.1 44 x1.toNatClampNeg) (S.2.1 45 x1.toNatClampNeg)))).1) (f_isValid N S x1 ((nI 0) + (f_heldAt N S x1 (S.2.1 44 x1.toNatClampNeg) (S.2.1 45 x1.toNatClampNeg)))).2))) else (F_rule_194 N x1 S))) else (F_rule_65 N x1 (f_begin N S x1 (f_ahead N S x1)))) else (F_rule_39 N x1 (f_decide N S x1 s0)))
def O_rule_28 (N : Nat) (x1 : Int32) (s0 : Int32) (S : rS) : Prop := ((s0 < 0 → (o_ahead N S x1) ∧ (((f_ahead N S x1) < 0 → (vp_in x1 13) ∧ (vp_in x1 13) ∧ (o_heldAt N S x1 (S.2.1 44 x1.toNatClampNeg) (S.2.1 45 x1.toNatClampNeg)) ∧ (vp_in x1 13) ∧ (((S.2.1 46 x1.toNatClampNeg) = 0 → (o_isThere N S ((nI 0) + (f_heldAt N S x1 (S.2.1 44 x1.toNatClampNeg) (S.2.1 45 x1.toNatClampNeg)))) ∧ (((f_isThere N S ((nI 0) + (f_heldAt N S x1 (S.2.1 44 x1.toNatClampNeg) (S.2.1 45 x1.toNatClampNeg)))) = 0 → O_rule_130 N x1 S) ∧ (¬ (f_isThere N S ((nI 0) + (f_heldAt N S x1 (S.2.1 44 x1.toNatClampNeg) (S.2.1 45 x1.toNatClampNeg)))) = 0 → (o_mayVote N S x1 ((nI 0) + (f_heldAt N S x1 (S.2.1 44 x1.toNatClampNeg) (S.2.1 45 x1.toNatClampNeg)))) ∧ (((f_mayVote N S x1 ((nI 0) + (f_heldAt N S x1 (S.2.1 44 x1.toNatClampNeg) (S.2.1 45 x1.toNatClampNeg)))) = 0 → O_rule_130 N x1 S) ∧ (¬ (f_mayVote N S x1 ((nI 0) + (f_heldAt N S x1 (S.2.1 44 x1.toNatClampNeg) (S.2.1 45 x1.toNatClampNeg)))) = 0 → (o_prevote N S x1 ((nI 0) + (f_heldAt N S x1 (S.2.1 44 x1.toNatClampNeg) (S.2.1 45 x1.toNatClampNeg)))) ∧ O_rule_127 N ((f_prevote N S x1 ((nI 0) + (f_heldAt N S x1 (S.2.1 44 x1.toNatClampNeg) (S.2.1 45 x1.toNatClampNeg)))).1) (f_prevote N S x1 ((nI 0) + (f_heldAt N S x1 (S.2.1 44 x1.toNatClampNeg) (S.2.1 45 x1.toNatClampNeg)))).2))))) ∧ (¬ (S.2.1 46 x1.toNatClampNeg) = 0 → (vp_in x1 13) ∧ (((S.2.1 49 x1.toNatClampNeg) = 0 → (o_isThere N S ((nI 0) + (f_heldAt N S x1 (S.2.1 44 x1.toNatClampNeg) (S.2.1 45 x1.toNatClampNeg)))) ∧ (((f_isThere N S ((nI 0) + (f_heldAt N S x1 (S.2.1 44 x1.toNatClampNeg) (S.2.1 45 x1.toNatClampNeg)))) = 0 → O_rule_194 N x1 S) ∧ (¬ (f_isThere N S ((nI 0) + (f_heldAt N S x1 (S.2.1 44 x1.toNatClampNeg) (S.2.1 45 x1.toNatClampNeg)))) = 0 → (vp_in x1 13) ∧ (o_count0 N S (nI 0) x1 (S.2.1 45 x1.toNatClampNeg) (nI 2) ((nI 0) + (f_heldAt N S x1 (S.2.1 44 x1.toNatClampNeg) (S.2.1 45 x1.toNatClampNeg)))) ∧ (o_quorum N S) ∧ (((f_count0 N S (nI 0) x1 (S.2.1 45 x1.toNatClampNeg) (nI 2) ((nI 0) + (f_heldAt N S x1 (S.2.1 44 x1.toNatClampNeg) (S.2.1 45 x1.toNatClampNeg)))) < (f_quorum N S) → O_rule_194 N x1 S) ∧ (¬ (f_count0 N S (nI 0) x1 (S.2.1 45 x1.toNatClampNeg) (nI 2) ((nI 0) + (f_heldAt N S x1 (S.2.1 44 x1.toNatClampNeg) (S.2.1 45 x1.toNatClampNeg)))) < (f_quorum N S) → (o_isValid N S x1 ((nI 0) + (f_heldAt N S x1 (S.2.1 44 x1.toNatClampNeg) (S.2.1 45 x1.toNatClampNeg)))) ∧ O_rule_183 N x1 ((nI 0) + (f_heldAt N S x1 (S.2.1 44 x1.toNatClampNeg) (S.2.1 45 x1.toNatClampNeg))) ((f_isValid N S x1 ((nI 0) + (f_heldAt N S x1 (S.2.1 44 x1.toNatClampNeg) (S.2.1 45 x1.toNatClampNeg)))).1) (f_isValid N S x1 ((nI 0) + (f_heldAt N S x1 (S.2.1 44 x1.toNatClampNeg) (S.2.1 45 x1.toNatClampNeg)))).2))))) ∧ (¬ (S.2.1 49 x1.toNatClampNeg) = 0 → O_rule_194 N x1 S))))) ∧ (¬ (f_ahead N S x1) < 0 → (o_begin N S x1 (f_ahead N S x1)) ∧ O_rule_65 N x1 (f_begin N S x1 (f_ahead N S x1))))) ∧ (¬ s0 < 0 → (o_decide N S x1 s0) ∧ O_rule_39 N x1 (f_decide N S x1 s0)))
set_option maxHeartbeats 4000000 in
theorem b_rule_28 {G : zG} {E : rE} {S : rS} {N : Nat} {Q : Option Value → rS → Prop} {X : Int32 × rS → Prop} (hG : zOK G) (hR : ∀ v S', X (v, S') → Q (some (.int v)) S') {x1 : Int32} {s0 : Int32} (ok : O_rule_28 N x1 s0 S) (hx : X (F_rule_28 N x1 s0 S)) : rX G E dX12_rule mX12_rule 28 [some (.ref E.1), some (.int x1), none, none, none, none] [.int s0] S Q := by
  unfold O_rule_28 at ok
  unfold F_rule_28 at hx
  refine r_istore_3 dX12_rule_28 (by decide) rfl ?_
  refine r_iload_n dX12_rule_29 rfl rfl ?_
  refine r_if_lt (tgt := 46) dX12_rule_30 (by decide) (fun c_30 => ?_) (fun c_30 => ?_)
  · have ok := ok.1 c_30
    have hx := xif_p c_30 hx
    refine r_aload_n dX12_rule_46 rfl rfl ?_
    refine r_iload_n dX12_rule_47 rfl rfl ?_
    refine r_V1i (y' := mX12_ahead) dX12_rule_48 lX12_624 kX12_ahead ⟨by decide, by decide⟩ rfl (Nat.le_of_ble_eq_true rfl) (rc_X12_ahead hG ok.1) (fun v_48 S_48 h_48 => ?_)
    obtain ⟨rfl, hS_48⟩ := h_48
    have hS_48 := hS_48.symm
    subst hS_48
    have ok := ok.2
    refine r_istore_4 dX12_rule_51 (by decide) rfl ?_
    refine r_iload dX12_rule_53 rfl ?_
    refine r_if_lt (tgt := 72) dX12_rule_55 (by decide) (fun c_55 => ?_) (fun c_55 => ?_)
    · have ok := ok.1 c_55
      have hx := xif_p c_55 hx
      refine r_iconst (v := nI 0) dX12_rule_72 (by decide) ?_
      refine r_iload_n dX12_rule_73 rfl rfl ?_
      refine r_aload_n dX12_rule_74 rfl rfl ?_
      refine r_getA 44 fX12_309 (by decide) (by decide) dX12_rule_75 ?_
      refine r_iload_n dX12_rule_78 rfl rfl ?_
      refine r_iald (by decide) (by decide) dX12_rule_79 ok.1 ?_
      have ok := ok.2
      refine r_aload_n dX12_rule_80 rfl rfl ?_
      refine r_getA 45 fX12_312 (by decide) (by decide) dX12_rule_81 ?_
      refine r_iload_n dX12_rule_84 rfl rfl ?_
      refine r_iald (by decide) (by decide) dX12_rule_85 ok.1 ?_
      have ok := ok.2
      refine r_S3i (y' := mX12_heldAt) dX12_rule_86 lX12_466 kX12_heldAt ⟨by decide, by decide⟩ (Nat.le_of_ble_eq_true rfl) (rc_X12_heldAt hG ok.1) (fun v_86 S_86 h_86 => ?_)
      obtain ⟨rfl, hS_86⟩ := h_86
      have hS_86 := hS_86.symm
      subst hS_86
      have ok := ok.2
      refine r_iadd dX12_rule_89 ?_
      refine r_istore_5 dX12_rule_90 (by decide) rfl ?_
      refine r_aload_n dX12_rule_92 rfl rfl ?_
      refine r_getA 46 fX12_315 (by decide) (by decide) dX12_rule_93 ?_
      refine r_iload_n dX12_rule_96 rfl rfl ?_
      refine r_iald (by decide) (by decide) dX12_rule_97 ok.1 ?_
      have ok := ok.2
      refine r_if_ne (tgt := 136) dX12_rule_98 (by decide) (fun c_98 => ?_) (fun c_98 => ?_)
      · have ok := ok.2 c_98
        have hx := xif_n c_98 hx
        refine r_aload_n dX12_rule_136 rfl rfl ?_
        refine r_getA 49 fX12_324 (by decide) (by decide) dX12_rule_137 ?_
        refine r_iload_n dX12_rule_140 rfl rfl ?_
        refine r_zald (by decide) (by decide) dX12_rule_141 ok.1 ?_
        have ok := ok.2
        refine r_if_ne (tgt := 194) dX12_rule_142 (by decide) (fun c_142 => ?_) (fun c_142 => ?_)
        · have ok := ok.2 c_142
          have hx := xif_n c_142 hx
          exact rX.cutz (b_rule_194 hG hR ok hx) ⟨rfl, rfl, trivial⟩
        · have ok := ok.1 c_142
          have hx := xif_p c_142 hx
          refine r_aload_n dX12_rule_145 rfl rfl ?_
          refine r_iload dX12_rule_146 rfl ?_
          refine r_V1i (y' := mX12_isThere) dX12_rule_148 lX12_63 kX12_isThere ⟨by decide, by decide⟩ rfl (Nat.le_of_ble_eq_true rfl) (rc_X12_isThere hG ok.1) (fun v_148 S_148 h_148 => ?_)
          obtain ⟨rfl, hS_148⟩ := h_148
          have hS_148 := hS_148.symm
          subst hS_148
          have ok := ok.2
          refine r_if_eq (tgt := 194) dX12_rule_151 (by decide) (fun c_151 => ?_) (fun c_151 => ?_)
          · have ok := ok.1 c_151
            have hx := xif_p c_151 hx
            exact rX.cutz (b_rule_194 hG hR ok hx) ⟨rfl, rfl, trivial⟩
          · have ok := ok.2 c_151
            have hx := xif_n c_151 hx
            refine r_aload_n dX12_rule_154 rfl rfl ?_
            refine r_iconst (v := nI 0) dX12_rule_155 (by decide) ?_
            refine r_iload_n dX12_rule_156 rfl rfl ?_
            refine r_aload_n dX12_rule_157 rfl rfl ?_
            refine r_getA 45 fX12_312 (by decide) (by decide) dX12_rule_158 ?_
            refine r_iload_n dX12_rule_161 rfl rfl ?_
            refine r_iald (by decide) (by decide) dX12_rule_162 ok.1 ?_
            have ok := ok.2
            refine r_iconst (v := nI 2) dX12_rule_163 (by decide) ?_
            refine r_iload dX12_rule_164 rfl ?_
            refine r_V5i (y' := mX12_count0) dX12_rule_166 lX12_600 kX12_count0 ⟨by decide, by decide⟩ rfl (Nat.le_of_ble_eq_true rfl) (rc_X12_count0 hG ok.1) (fun v_166 S_166 h_166 => ?_)
            obtain ⟨rfl, hS_166⟩ := h_166
            have hS_166 := hS_166.symm
            subst hS_166
            have ok := ok.2
            refine r_aload_n dX12_rule_169 rfl rfl ?_
            refine r_V0i (y' := mX12_quorum) dX12_rule_170 lX12_603 kX12_quorum ⟨by decide, by decide⟩ rfl (Nat.le_of_ble_eq_true rfl) (rc_X12_quorum hG ok.1) (fun v_170 S_170 h_170 => ?_)
            obtain ⟨rfl, hS_170⟩ := h_170
            have hS_170 := hS_170.symm
            subst hS_170
            have ok := ok.2
            refine r_icmp_lt (tgt := 194) dX12_rule_173 (by decide) (fun c_173 => ?_) (fun c_173 => ?_)
            · have ok := ok.1 c_173
              have hx := xif_p c_173 hx
              exact rX.cutz (b_rule_194 hG hR ok hx) ⟨rfl, rfl, trivial⟩
            · have ok := ok.2 c_173
              have hx := xif_n c_173 hx
              refine r_aload_n dX12_rule_176 rfl rfl ?_
              refine r_iload_n dX12_rule_177 rfl rfl ?_
              refine r_iload dX12_rule_178 rfl ?_
              refine r_V2i (y' := mX12_isValid) dX12_rule_180 lX12_597 kX12_isValid ⟨by decide, by decide⟩ rfl (Nat.le_of_ble_eq_true rfl) (rc_X12_isValid hG ok.1) (fun v_180 S_180 h_180 => ?_)
              obtain ⟨rfl, hS_180⟩ := h_180
              have hS_180 := hS_180.symm
              subst hS_180
              have ok := ok.2
              exact rX.cutz (b_rule_183 hG hR ok hx) ⟨rfl, rfl, rfl, trivial⟩
      · have ok := ok.1 c_98
        have hx := xif_p c_98 hx
        refine r_aload_n dX12_rule_101 rfl rfl ?_
        refine r_iload dX12_rule_102 rfl ?_
        refine r_V1i (y' := mX12_isThere) dX12_rule_104 lX12_63 kX12_isThere ⟨by decide, by decide⟩ rfl (Nat.le_of_ble_eq_true rfl) (rc_X12_isThere hG ok.1) (fun v_104 S_104 h_104 => ?_)
        obtain ⟨rfl, hS_104⟩ := h_104
        have hS_104 := hS_104.symm
        subst hS_104
        have ok := ok.2
        refine r_if_eq (tgt := 130) dX12_rule_107 (by decide) (fun c_107 => ?_) (fun c_107 => ?_)
        · have ok := ok.1 c_107
          have hx := xif_p c_107 hx
          exact rX.cutz (b_rule_130 hG hR ok hx) ⟨rfl, rfl, trivial⟩
        · have ok := ok.2 c_107
          have hx := xif_n c_107 hx
          refine r_aload_n dX12_rule_110 rfl rfl ?_
          refine r_iload_n dX12_rule_111 rfl rfl ?_
          refine r_iload dX12_rule_112 rfl ?_
          refine r_V2i (y' := mX12_mayVote) dX12_rule_114 lX12_627 kX12_mayVote ⟨by decide, by decide⟩ rfl (Nat.le_of_ble_eq_true rfl) (rc_X12_mayVote hG ok.1) (fun v_114 S_114 h_114 => ?_)
          obtain ⟨rfl, hS_114⟩ := h_114
          have hS_114 := hS_114.symm
          subst hS_114
          have ok := ok.2
          refine r_if_eq (tgt := 130) dX12_rule_117 (by decide) (fun c_117 => ?_) (fun c_117 => ?_)
          · have ok := ok.1 c_117
            have hx := xif_p c_117 hx
            exact rX.cutz (b_rule_130 hG hR ok hx) ⟨rfl, rfl, trivial⟩
          · have ok := ok.2 c_117
            have hx := xif_n c_117 hx
            refine r_aload_n dX12_rule_120 rfl rfl ?_
            refine r_iload_n dX12_rule_121 rfl rfl ?_
            refine r_iload dX12_rule_122 rfl ?_
            refine r_V2i (y' := mX12_prevote) dX12_rule_124 lX12_630 kX12_prevote ⟨by decide, by decide⟩ rfl (Nat.le_of_ble_eq_true rfl) (rc_X12_prevote hG ok.1) (fun v_124 S_124 h_124 => ?_)
            obtain ⟨rfl, hS_124⟩ := h_124
            have hS_124 := hS_124.symm
            subst hS_124
            have ok := ok.2
            exact rX.cutz (b_rule_127 hG hR ok hx) trivial
    · have ok := ok.2 c_55
      have hx := xif_n c_55 hx
      refine r_aload_n dX12_rule_58 rfl rfl ?_
      refine r_iload_n dX12_rule_59 rfl rfl ?_
      refine r_iload dX12_rule_60 rfl ?_
      refine r_V2v (y' := mX12_begin) dX12_rule_62 lX12_457 kX12_begin ⟨by decide, by decide⟩ rfl (Nat.le_of_ble_eq_true rfl) (rc_X12_begin hG ok.1) (fun S_62 h_62 => ?_)
      subst h_62
      have ok := ok.2
      exact rX.cutz (b_rule_65 hG hR ok hx) ⟨rfl, rfl, trivial⟩
  · have ok := ok.2 c_30
    have hx := xif_n c_30 hx
    refine r_aload_n dX12_rule_33 rfl rfl ?_
    refine r_iload_n dX12_rule_34 rfl rfl ?_
    refine r_iload_n dX12_rule_35 rfl rfl ?_
    refine r_V2v (y' := mX12_decide) dX12_rule_36 lX12_621 kX12_decide ⟨by decide, by decide⟩ rfl (Nat.le_of_ble_eq_true rfl) (rc_X12_decide hG ok.1) (fun S_36 h_36 => ?_)
    subst h_36
    have ok := ok.2
    exact rX.cutz (b_rule_39 hG hR ok hx) ⟨rfl, rfl, trivial⟩
def F_rule_16 (N : Nat) (x1 : Int32) (S : rS) : Int32 × rS := ((S.2.1 43 x1.toNatClampNeg), S)
def O_rule_16 (N : Nat) (x1 : Int32) (S : rS) : Prop := (vp_in x1 13) ∧ narrow .boolean (.int (S.2.1 43 x1.toNatClampNeg)) = .int (S.2.1 43 x1.toNatClampNeg)
set_option maxHeartbeats 4000000 in
theorem b_rule_16 {G : zG} {E : rE} {S : rS} {N : Nat} {Q : Option Value → rS → Prop} {X : Int32 × rS → Prop} (hG : zOK G) (hR : ∀ v S', X (v, S') → Q (some (.int v)) S') {x1 : Int32} (ok : O_rule_16 N x1 S) (hx : X (F_rule_16 N x1 S)) : rX G E dX12_rule mX12_rule 16 [some (.ref E.1), some (.int x1), none, none, none, none] [] S Q := by
  unfold O_rule_16 at ok
  unfold F_rule_16 at hx
  refine r_aload_n dX12_rule_16 rfl rfl ?_
  refine r_getA 43 fX12_305 (by decide) (by decide) dX12_rule_17 ?_
  refine r_iload_n dX12_rule_20 rfl rfl ?_
  refine r_zald (by decide) (by decide) dX12_rule_21 ok.1 ?_
  have ok := ok.2
  exact r_ireturn rfl ok dX12_rule_22 (hR _ _ hx)
def F_rule_0 (N : Nat) (x1 : Int32) (S : rS) : Int32 × rS := (if (f_snapshot N S x1) < 0 then (F_rule_28 N x1 ((f_decision N S x1).1) (f_decision N S x1).2) else (F_rule_16 N x1 (f_take N S x1 (f_snapshot N S x1))))
def O_rule_0 (N : Nat) (x1 : Int32) (S : rS) : Prop := (o_snapshot N S x1) ∧ (((f_snapshot N S x1) < 0 → (o_decision N S x1) ∧ O_rule_28 N x1 ((f_decision N S x1).1) (f_decision N S x1).2) ∧ (¬ (f_snapshot N S x1) < 0 → (o_take N S x1 (f_snapshot N S x1)) ∧ O_rule_16 N x1 (f_take N S x1 (f_snapshot N S x1))))
set_option maxHeartbeats 4000000 in
theorem b_rule_0 {G : zG} {E : rE} {S : rS} {N : Nat} {Q : Option Value → rS → Prop} {X : Int32 × rS → Prop} (hG : zOK G) (hR : ∀ v S', X (v, S') → Q (some (.int v)) S') {x1 : Int32} (ok : O_rule_0 N x1 S) (hx : X (F_rule_0 N x1 S)) : rX G E dX12_rule mX12_rule 0 [some (.ref E.1), some (.int x1), none, none, none, none] [] S Q := by
  unfold O_rule_0 at ok
  unfold F_rule_0 at hx
  refine r_aload_n dX12_rule_0 rfl rfl ?_
  refine r_iload_n dX12_rule_1 rfl rfl ?_
  refine r_V1i (y' := mX12_snapshot) dX12_rule_2 lX12_612 kX12_snapshot ⟨by decide, by decide⟩ rfl (Nat.le_of_ble_eq_true rfl) (rc_X12_snapshot hG ok.1) (fun v_2 S_2 h_2 => ?_)
  obtain ⟨rfl, hS_2⟩ := h_2
  have hS_2 := hS_2.symm
  subst hS_2
  have ok := ok.2
  refine r_istore_2 dX12_rule_5 (by decide) rfl ?_
  refine r_iload_n dX12_rule_6 rfl rfl ?_
  refine r_if_lt (tgt := 23) dX12_rule_7 (by decide) (fun c_7 => ?_) (fun c_7 => ?_)
  · have ok := ok.1 c_7
    have hx := xif_p c_7 hx
    refine r_aload_n dX12_rule_23 rfl rfl ?_
    refine r_iload_n dX12_rule_24 rfl rfl ?_
    refine r_V1i (y' := mX12_decision) dX12_rule_25 lX12_618 kX12_decision ⟨by decide, by decide⟩ rfl (Nat.le_of_ble_eq_true rfl) (rc_X12_decision hG ok.1) (fun v_25 S_25 h_25 => ?_)
    obtain ⟨rfl, hS_25⟩ := h_25
    have hS_25 := hS_25.symm
    subst hS_25
    have ok := ok.2
    exact rX.cutz (b_rule_28 hG hR ok hx) ⟨rfl, rfl, trivial⟩
  · have ok := ok.2 c_7
    have hx := xif_n c_7 hx
    refine r_aload_n dX12_rule_10 rfl rfl ?_
    refine r_iload_n dX12_rule_11 rfl rfl ?_
    refine r_iload_n dX12_rule_12 rfl rfl ?_
    refine r_V2v (y' := mX12_take) dX12_rule_13 lX12_615 kX12_take ⟨by decide, by decide⟩ rfl (Nat.le_of_ble_eq_true rfl) (rc_X12_take hG ok.1) (fun S_13 h_13 => ?_)
    subst h_13
    have ok := ok.2
    exact rX.cutz (b_rule_16 hG hR ok hx) ⟨rfl, rfl, trivial⟩
def f_rule (N : Nat) (S : rS) (x1 : Int32) : Int32 × rS := F_rule_0 N x1 S
def o_rule (N : Nat) (S : rS) (x1 : Int32) : Prop := O_rule_0 N x1 S
set_option maxHeartbeats 4000000 in
theorem rc_X12_rule {G : zG} {E : rE} {S : rS} {N : Nat} (hG : zOK G) {x1 : Int32} (ok : o_rule N S x1) : rCi G E dX12_rule mX12_rule [.ref E.1, .int x1] S (fun v S' => v = (f_rule N S x1).1 ∧ S' = (f_rule N S x1).2) := by
  refine rC.ofX rfl (Nat.le_of_ble_eq_true rfl) ?_
  show rX G E dX12_rule mX12_rule 0 [some (.ref E.1), some (.int x1), none, none, none, none] [] S _
  exact rX.cutz (b_rule_0 (X := fun F => F = f_rule N S x1) hG (fun v S' h => ⟨v, rfl, by rw [← h], by rw [← h]⟩) ok rfl) ⟨rfl, rfl, trivial⟩
/-! rules -/
def F_rules_58 (N : Nat)  (S : rS) : rS := S
def O_rules_58 (N : Nat)  (S : rS) : Prop := True
set_option maxHeartbeats 4000000 in
theorem b_rules_58 {G : zG} {E : rE} {S : rS} {N : Nat} {Q : Option Value → rS → Prop} {X : rS → Prop} (hG : zOK G) (hR : ∀ S', X S' → Q none S') (ok : O_rules_58 N S) (hx : X (F_rules_58 N S)) : rX G E dX12_rules mX12_rules 58 [none, none, none] [] S Q := by
  unfold O_rules_58 at ok
  unfold F_rules_58 at hx
  exact r_return rfl dX12_rules_58 (hR _ hx)
def F_rules_54 (N : Nat) (rec : Int32 → Int32 → rS → Nat × rS) (x1 : Int32) (s0 : Int32) (S : rS) : Nat × rS := (rec x1 s0 S)
def O_rules_54 (N : Nat) (rok : Int32 → Int32 → rS → Prop) (x1 : Int32) (s0 : Int32) (S : rS) : Prop := rok x1 s0 S
set_option maxHeartbeats 4000000 in
theorem b_rules_54 {G : zG} {E : rE} {S : rS} {N : Nat} {Q : Option Value → rS → Prop} {X : Nat × rS → Prop} (hG : zOK G) (hX0 : ∀ (S' : rS), X (0, S') → rX G E dX12_rules mX12_rules 58 [none, none, none] [] S' Q) {rec : Int32 → Int32 → rS → Nat × rS} {rok : Int32 → Int32 → rS → Prop} (hrec : ∀ (x1 : Int32) (x2 : Int32) (S : rS), rok x1 x2 S → X (rec x1 x2 S) → rX G E dX12_rules mX12_rules 26 [some (.ref E.1), some (.int x1), some (.int x2)] [] S Q) {x1 : Int32} {s0 : Int32} (ok : O_rules_54 N rok x1 s0 S) (hx : X (F_rules_54 N rec x1 s0 S)) : rX G E dX12_rules mX12_rules 54 [some (.ref E.1), some (.int x1), none] [.int s0] S Q := by
  unfold O_rules_54 at ok
  unfold F_rules_54 at hx
  refine r_istore_2 dX12_rules_54 (by decide) rfl ?_
  refine r_goto (tgt := 26) dX12_rules_55 (by decide) ?_
  exact rX.cutz (hrec _ _ S ok hx) ⟨rfl, rfl, rfl, trivial⟩
def F_rules_53 (N : Nat) (rec : Int32 → Int32 → rS → Nat × rS) (x1 : Int32) (S : rS) : Nat × rS := (F_rules_54 N rec x1 (nI 0) S)
def O_rules_53 (N : Nat) (rok : Int32 → Int32 → rS → Prop) (x1 : Int32) (S : rS) : Prop := O_rules_54 N rok x1 (nI 0) S
set_option maxHeartbeats 4000000 in
theorem b_rules_53 {G : zG} {E : rE} {S : rS} {N : Nat} {Q : Option Value → rS → Prop} {X : Nat × rS → Prop} (hG : zOK G) (hX0 : ∀ (S' : rS), X (0, S') → rX G E dX12_rules mX12_rules 58 [none, none, none] [] S' Q) {rec : Int32 → Int32 → rS → Nat × rS} {rok : Int32 → Int32 → rS → Prop} (hrec : ∀ (x1 : Int32) (x2 : Int32) (S : rS), rok x1 x2 S → X (rec x1 x2 S) → rX G E dX12_rules mX12_rules 26 [some (.ref E.1), some (.int x1), some (.int x2)] [] S Q) {x1 : Int32} (ok : O_rules_53 N rok x1 S) (hx : X (F_rules_53 N rec x1 S)) : rX G E dX12_rules mX12_rules 53 [some (.ref E.1), some (.int x1), none] [] S Q := by
  unfold O_rules_53 at ok
  unfold F_rules_53 at hx
  refine r_iconst (v := nI 0) dX12_rules_53 (by decide) ?_
  exact rX.cutz (b_rules_54 hG hX0 hrec ok hx) ⟨rfl, rfl, trivial⟩
def F_rules_35 (N : Nat) (rec : Int32 → Int32 → rS → Nat × rS) (x1 : Int32) (s0 : Int32) (S : rS) : Nat × rS := (if s0 = 0 then (F_rules_53 N rec x1 S) else (if (nI 40) < (S.2.1 44 x1.toNatClampNeg) then (F_rules_53 N rec x1 S) else (F_rules_54 N rec x1 (nI 1) S)))
def O_rules_35 (N : Nat) (rok : Int32 → Int32 → rS → Prop) (x1 : Int32) (s0 : Int32) (S : rS) : Prop := ((s0 = 0 → O_rules_53 N rok x1 S) ∧ (¬ s0 = 0 → (vp_in x1 13) ∧ (((nI 40) < (S.2.1 44 x1.toNatClampNeg) → O_rules_53 N rok x1 S) ∧ (¬ (nI 40) < (S.2.1 44 x1.toNatClampNeg) → O_rules_54 N rok x1 (nI 1) S))))
set_option maxHeartbeats 4000000 in
theorem b_rules_35 {G : zG} {E : rE} {S : rS} {N : Nat} {Q : Option Value → rS → Prop} {X : Nat × rS → Prop} (hG : zOK G) (hX0 : ∀ (S' : rS), X (0, S') → rX G E dX12_rules mX12_rules 58 [none, none, none] [] S' Q) {rec : Int32 → Int32 → rS → Nat × rS} {rok : Int32 → Int32 → rS → Prop} (hrec : ∀ (x1 : Int32) (x2 : Int32) (S : rS), rok x1 x2 S → X (rec x1 x2 S) → rX G E dX12_rules mX12_rules 26 [some (.ref E.1), some (.int x1), some (.int x2)] [] S Q) {x1 : Int32} {s0 : Int32} (ok : O_rules_35 N rok x1 s0 S) (hx : X (F_rules_35 N rec x1 s0 S)) : rX G E dX12_rules mX12_rules 35 [some (.ref E.1), some (.int x1), none] [.int s0] S Q := by
  unfold O_rules_35 at ok
  unfold F_rules_35 at hx
  refine r_if_eq (tgt := 53) dX12_rules_35 (by decide) (fun c_35 => ?_) (fun c_35 => ?_)
  · have ok := ok.1 c_35
    have hx := xif_p c_35 hx
    exact rX.cutz (b_rules_53 hG hX0 hrec ok hx) ⟨rfl, rfl, trivial⟩
  · have ok := ok.2 c_35
    have hx := xif_n c_35 hx
    refine r_aload_n dX12_rules_38 rfl rfl ?_
    refine r_getA 44 fX12_309 (by decide) (by decide) dX12_rules_39 ?_
    refine r_iload_n dX12_rules_42 rfl rfl ?_
    refine r_iald (by decide) (by decide) dX12_rules_43 ok.1 ?_
    have ok := ok.2
    refine r_bipush (v := nI 40) dX12_rules_44 (by decide) ?_
    refine r_icmp_gt (tgt := 53) dX12_rules_46 (by decide) (fun c_46 => ?_) (fun c_46 => ?_)
    · have ok := ok.1 c_46
      have hx := xif_p c_46 hx
      exact rX.cutz (b_rules_53 hG hX0 hrec ok hx) ⟨rfl, rfl, trivial⟩
    · have ok := ok.2 c_46
      have hx := xif_n c_46 hx
      refine r_iconst (v := nI 1) dX12_rules_49 (by decide) ?_
      refine r_goto (tgt := 54) dX12_rules_50 (by decide) ?_
      exact rX.cutz (b_rules_54 hG hX0 hrec ok hx) ⟨rfl, rfl, trivial⟩
def B_rules_26 (N : Nat) (rec : Int32 → Int32 → rS → Nat × rS) (x1 : Int32) (x2 : Int32) (S : rS) : Nat × rS := (if x2 = 0 then (0, S) else (F_rules_35 N rec x1 ((f_rule N S x1).1) (f_rule N S x1).2))
def OB_rules_26 (N : Nat) (rok : Int32 → Int32 → rS → Prop) (x1 : Int32) (x2 : Int32) (S : rS) : Prop := ((x2 = 0 → True) ∧ (¬ x2 = 0 → (o_rule N S x1) ∧ O_rules_35 N rok x1 ((f_rule N S x1).1) (f_rule N S x1).2))
set_option maxHeartbeats 4000000 in
theorem bb_rules_26 {G : zG} {E : rE} {S : rS} {N : Nat} {Q : Option Value → rS → Prop} {X : Nat × rS → Prop} (hG : zOK G) (hX0 : ∀ (S' : rS), X (0, S') → rX G E dX12_rules mX12_rules 58 [none, none, none] [] S' Q) {rec : Int32 → Int32 → rS → Nat × rS} {rok : Int32 → Int32 → rS → Prop} (hrec : ∀ (x1 : Int32) (x2 : Int32) (S : rS), rok x1 x2 S → X (rec x1 x2 S) → rX G E dX12_rules mX12_rules 26 [some (.ref E.1), some (.int x1), some (.int x2)] [] S Q) {x1 : Int32} {x2 : Int32} (ok : OB_rules_26 N rok x1 x2 S) (hx : X (B_rules_26 N rec x1 x2 S)) : rX G E dX12_rules mX12_rules 26 [some (.ref E.1), some (.int x1), some (.int x2)] [] S Q := by
  unfold OB_rules_26 at ok
  unfold B_rules_26 at hx
  refine r_iload_n dX12_rules_26 rfl rfl ?_
  refine r_if_eq (tgt := 58) dX12_rules_27 (by decide) (fun c_27 => ?_) (fun c_27 => ?_)
  · have ok := ok.1 c_27
    have hx := xif_p c_27 hx
    exact rX.cutz (hX0 S hx) trivial
  · have ok := ok.2 c_27
    have hx := xif_n c_27 hx
    refine r_aload_n dX12_rules_30 rfl rfl ?_
    refine r_iload_n dX12_rules_31 rfl rfl ?_
    refine r_V1i (y' := mX12_rule) dX12_rules_32 lX12_646 kX12_rule ⟨by decide, by decide⟩ rfl (Nat.le_of_ble_eq_true rfl) (rc_X12_rule hG ok.1) (fun v_32 S_32 h_32 => ?_)
    obtain ⟨rfl, hS_32⟩ := h_32
    have hS_32 := hS_32.symm
    subst hS_32
    have ok := ok.2
    exact rX.cutz (b_rules_35 hG hX0 hrec ok hx) ⟨rfl, rfl, trivial⟩
def L_rules_26 (N : Nat) : Nat → Int32 → Int32 → rS → Nat × rS
  | 0, x1, x2, S => (0, S)
  | n + 1, x1, x2, S => B_rules_26 N (L_rules_26 N n) x1 x2 S
def OL_rules_26 (N : Nat) : Nat → Int32 → Int32 → rS → Prop
  | 0, _, _, _ => False
  | n + 1, x1, x2, S => OB_rules_26 N (OL_rules_26 N n) x1 x2 S
set_option maxHeartbeats 4000000 in
theorem l_rules_26 {G : zG} {E : rE} {N : Nat} {Q : Option Value → rS → Prop} {X : Nat × rS → Prop} (hG : zOK G) (hX0 : ∀ (S' : rS), X (0, S') → rX G E dX12_rules mX12_rules 58 [none, none, none] [] S' Q) : ∀ (n : Nat) (x1 : Int32) (x2 : Int32) (S : rS), OL_rules_26 N n x1 x2 S → X (L_rules_26 N n x1 x2 S) → rX G E dX12_rules mX12_rules 26 [some (.ref E.1), some (.int x1), some (.int x2)] [] S Q := by
  intro n
  induction n with
  | zero => intro x1 x2 S ok; exact absurd ok id
  | succ n ih =>
    intro x1 x2 S ok hx
    exact bb_rules_26 hG hX0 (rec := L_rules_26 N n) (rok := OL_rules_26 N n) (fun x1 x2 S ok hx => ih x1 x2 S ok hx) ok hx
def A_rules_26 (N : Nat) (x1 : Int32) (x2 : Int32) (S : rS) (z : Nat × rS) : rS := (F_rules_58 N z.2)
def OA_rules_26 (N : Nat) (x1 : Int32) (x2 : Int32) (S : rS) (z : Nat × rS) : Prop := O_rules_58 N z.2
set_option maxHeartbeats 4000000 in
theorem c_rules_26 {G : zG} {E : rE} {S : rS} {N : Nat} {Q : Option Value → rS → Prop} {X : rS → Prop} (hG : zOK G) (hR : ∀ S', X S' → Q none S') {x1 : Int32} {x2 : Int32} (ok : OL_rules_26 N N x1 x2 S ∧ OA_rules_26 N x1 x2 S (L_rules_26 N N x1 x2 S)) (hx : X (A_rules_26 N x1 x2 S (L_rules_26 N N x1 x2 S))) : rX G E dX12_rules mX12_rules 26 [some (.ref E.1), some (.int x1), some (.int x2)] [] S Q := by
  refine l_rules_26 hG ?_ N x1 x2 S ok.1 (X := fun z => OA_rules_26 N x1 x2 S z ∧ X (A_rules_26 N x1 x2 S z)) ⟨ok.2, hx⟩
  · intro S' hz
    obtain ⟨ok, hx⟩ := hz
    unfold OA_rules_26 at ok
    unfold A_rules_26 at hx
    exact rX.cutz (b_rules_58 hG hR ok hx) trivial
def F_rules_25 (N : Nat) (x1 : Int32) (s0 : Int32) (S : rS) : rS := (A_rules_26 N x1 s0 S (L_rules_26 N N x1 s0 S))
def O_rules_25 (N : Nat) (x1 : Int32) (s0 : Int32) (S : rS) : Prop := (OL_rules_26 N N x1 s0 S ∧ OA_rules_26 N x1 s0 S (L_rules_26 N N x1 s0 S))
set_option maxHeartbeats 4000000 in
theorem b_rules_25 {G : zG} {E : rE} {S : rS} {N : Nat} {Q : Option Value → rS → Prop} {X : rS → Prop} (hG : zOK G) (hR : ∀ S', X S' → Q none S') {x1 : Int32} {s0 : Int32} (ok : O_rules_25 N x1 s0 S) (hx : X (F_rules_25 N x1 s0 S)) : rX G E dX12_rules mX12_rules 25 [some (.ref E.1), some (.int x1), none] [.int s0] S Q := by
  unfold O_rules_25 at ok
  unfold F_rules_25 at hx
  refine r_istore_2 dX12_rules_25 (by decide) rfl ?_
  exact rX.cutz (c_rules_26 hG hR ok hx) ⟨rfl, rfl, rfl, trivial⟩
def F_rules_24 (N : Nat) (x1 : Int32) (S : rS) : rS := (F_rules_25 N x1 (nI 0) S)
def O_rules_24 (N : Nat) (x1 : Int32) (S : rS) : Prop := O_rules_25 N x1 (nI 0) S
set_option maxHeartbeats 4000000 in
theorem b_rules_24 {G : zG} {E : rE} {S : rS} {N : Nat} {Q : Option Value → rS → Prop} {X : rS → Prop} (hG : zOK G) (hR : ∀ S', X S' → Q none S') {x1 : Int32} (ok : O_rules_24 N x1 S) (hx : X (F_rules_24 N x1 S)) : rX G E dX12_rules mX12_rules 24 [some (.ref E.1), some (.int x1), none] [] S Q := by
  unfold O_rules_24 at ok
  unfold F_rules_24 at hx
  refine r_iconst (v := nI 0) dX12_rules_24 (by decide) ?_
  exact rX.cutz (b_rules_25 hG hR ok hx) ⟨rfl, rfl, trivial⟩
def F_rules_0 (N : Nat) (x1 : Int32) (S : rS) : rS := (if (S.2.1 43 x1.toNatClampNeg) = 0 then (F_rules_24 N x1 S) else (if (nI 40) < (S.2.1 44 x1.toNatClampNeg) then (F_rules_24 N x1 S) else (F_rules_25 N x1 (nI 1) S)))
def O_rules_0 (N : Nat) (x1 : Int32) (S : rS) : Prop := (vp_in x1 13) ∧ (((S.2.1 43 x1.toNatClampNeg) = 0 → O_rules_24 N x1 S) ∧ (¬ (S.2.1 43 x1.toNatClampNeg) = 0 → (vp_in x1 13) ∧ (((nI 40) < (S.2.1 44 x1.toNatClampNeg) → O_rules_24 N x1 S) ∧ (¬ (nI 40) < (S.2.1 44 x1.toNatClampNeg) → O_rules_25 N x1 (nI 1) S))))
set_option maxHeartbeats 4000000 in
theorem b_rules_0 {G : zG} {E : rE} {S : rS} {N : Nat} {Q : Option Value → rS → Prop} {X : rS → Prop} (hG : zOK G) (hR : ∀ S', X S' → Q none S') {x1 : Int32} (ok : O_rules_0 N x1 S) (hx : X (F_rules_0 N x1 S)) : rX G E dX12_rules mX12_rules 0 [some (.ref E.1), some (.int x1), none] [] S Q := by
  unfold O_rules_0 at ok
  unfold F_rules_0 at hx
  refine r_aload_n dX12_rules_0 rfl rfl ?_
  refine r_getA 43 fX12_305 (by decide) (by decide) dX12_rules_1 ?_
  refine r_iload_n dX12_rules_4 rfl rfl ?_
  refine r_zald (by decide) (by decide) dX12_rules_5 ok.1 ?_
  have ok := ok.2
  refine r_if_eq (tgt := 24) dX12_rules_6 (by decide) (fun c_6 => ?_) (fun c_6 => ?_)
  · have ok := ok.1 c_6
    have hx := xif_p c_6 hx
    exact rX.cutz (b_rules_24 hG hR ok hx) ⟨rfl, rfl, trivial⟩
  · have ok := ok.2 c_6
    have hx := xif_n c_6 hx
    refine r_aload_n dX12_rules_9 rfl rfl ?_
    refine r_getA 44 fX12_309 (by decide) (by decide) dX12_rules_10 ?_
    refine r_iload_n dX12_rules_13 rfl rfl ?_
    refine r_iald (by decide) (by decide) dX12_rules_14 ok.1 ?_
    have ok := ok.2
    refine r_bipush (v := nI 40) dX12_rules_15 (by decide) ?_
    refine r_icmp_gt (tgt := 24) dX12_rules_17 (by decide) (fun c_17 => ?_) (fun c_17 => ?_)
    · have ok := ok.1 c_17
      have hx := xif_p c_17 hx
      exact rX.cutz (b_rules_24 hG hR ok hx) ⟨rfl, rfl, trivial⟩
    · have ok := ok.2 c_17
      have hx := xif_n c_17 hx
      refine r_iconst (v := nI 1) dX12_rules_20 (by decide) ?_
      refine r_goto (tgt := 25) dX12_rules_21 (by decide) ?_
      exact rX.cutz (b_rules_25 hG hR ok hx) ⟨rfl, rfl, trivial⟩
def f_rules (N : Nat) (S : rS) (x1 : Int32) : rS := F_rules_0 N x1 S
def o_rules (N : Nat) (S : rS) (x1 : Int32) : Prop := O_rules_0 N x1 S
set_option maxHeartbeats 4000000 in
theorem rc_X12_rules {G : zG} {E : rE} {S : rS} {N : Nat} (hG : zOK G) {x1 : Int32} (ok : o_rules N S x1) : rCv G E dX12_rules mX12_rules [.ref E.1, .int x1] S (fun S' => S' = f_rules N S x1) := by
  refine rC.ofX rfl (Nat.le_of_ble_eq_true rfl) ?_
  show rX G E dX12_rules mX12_rules 0 [some (.ref E.1), some (.int x1), none] [] S _
  exact rX.cutz (b_rules_0 (X := fun F => F = f_rules N S x1) hG (fun S' h => ⟨rfl, h⟩) ok rfl) ⟨rfl, rfl, trivial⟩
/-! keepProof -/
def F_keepProof_70 (N : Nat)  (S : rS) : Int32 × rS := ((nI 1), S)
def O_keepProof_70 (N : Nat)  (S : rS) : Prop := True
set_option maxHeartbeats 4000000 in
theorem b_keepProof_70 {G : zG} {E : rE} {S : rS} {N : Nat} {Q : Option Value → rS → Prop} {X : Int32 × rS → Prop} (hG : zOK G) (hR : ∀ v S', X (v, S') → Q (some (.int v)) S') (ok : O_keepProof_70 N S) (hx : X (F_keepProof_70 N S)) : rX G E dX12_keepProof mX12_keepProof 70 [none, none, none, none] [] S Q := by
  unfold O_keepProof_70 at ok
  unfold F_keepProof_70 at hx
  refine r_iconst (v := nI 1) dX12_keepProof_70 (by decide) ?_
  exact r_ireturn rfl rfl dX12_keepProof_71 (hR _ _ hx)
def B_keepProof_37 (N : Nat) (rec : Int32 → Int32 → rS → Nat × rS) (x2 : Int32) (x3 : Int32) (S : rS) : Nat × rS := (if (S.1 33) ≤ x3 then (0, S) else (rec x2 (x3 + nI 1) (rsA S 56 ((((nI 71) * x2) + x3) - (nI 1)).toNatClampNeg (S.2.1 32 x3.toNatClampNeg))))
def OB_keepProof_37 (N : Nat) (rok : Int32 → Int32 → rS → Prop) (x2 : Int32) (x3 : Int32) (S : rS) : Prop := (((S.1 33) ≤ x3 → True) ∧ (¬ (S.1 33) ≤ x3 → (vp_in x3 1010) ∧ (vp_in ((((nI 71) * x2) + x3) - (nI 1)) 12000) ∧ rok x2 (x3 + nI 1) (rsA S 56 ((((nI 71) * x2) + x3) - (nI 1)).toNatClampNeg (S.2.1 32 x3.toNatClampNeg))))
set_option maxHeartbeats 4000000 in
theorem bb_keepProof_37 {G : zG} {E : rE} {S : rS} {N : Nat} {Q : Option Value → rS → Prop} {X : Nat × rS → Prop} (hG : zOK G) (hX0 : ∀ (S' : rS), X (0, S') → rX G E dX12_keepProof mX12_keepProof 70 [none, none, none, none] [] S' Q) {rec : Int32 → Int32 → rS → Nat × rS} {rok : Int32 → Int32 → rS → Prop} (hrec : ∀ (x2 : Int32) (x3 : Int32) (S : rS), rok x2 x3 S → X (rec x2 x3 S) → rX G E dX12_keepProof mX12_keepProof 37 [some (.ref E.1), none, some (.int x2), some (.int x3)] [] S Q) {x2 : Int32} {x3 : Int32} (ok : OB_keepProof_37 N rok x2 x3 S) (hx : X (B_keepProof_37 N rec x2 x3 S)) : rX G E dX12_keepProof mX12_keepProof 37 [some (.ref E.1), none, some (.int x2), some (.int x3)] [] S Q := by
  unfold OB_keepProof_37 at ok
  unfold B_keepProof_37 at hx
  refine r_iload_n dX12_keepProof_37 rfl rfl ?_
  refine r_aload_n dX12_keepProof_38 rfl rfl ?_
  refine r_getI 33 fX12_201 (by decide) (by decide) dX12_keepProof_39 ?_
  refine r_icmp_ge (tgt := 70) dX12_keepProof_42 (by decide) (fun c_42 => ?_) (fun c_42 => ?_)
  · have ok := ok.1 c_42
    have hx := xif_p c_42 hx
    exact rX.cutz (hX0 S hx) trivial
  · have ok := ok.2 c_42
    have hx := xif_n c_42 hx
    refine r_aload_n dX12_keepProof_45 rfl rfl ?_
    refine r_getA 56 fX12_345 (by decide) (by decide) dX12_keepProof_46 ?_
    refine r_bipush (v := nI 71) dX12_keepProof_49 (by decide) ?_
    refine r_iload_n dX12_keepProof_51 rfl rfl ?_
    refine r_imul dX12_keepProof_52 ?_
    refine r_iload_n dX12_keepProof_53 rfl rfl ?_
    refine r_iadd dX12_keepProof_54 ?_
    refine r_iconst (v := nI 1) dX12_keepProof_55 (by decide) ?_
    refine r_isub dX12_keepProof_56 ?_
    refine r_aload_n dX12_keepProof_57 rfl rfl ?_
    refine r_getA 32 fX12_204 (by decide) (by decide) dX12_keepProof_58 ?_
    refine r_iload_n dX12_keepProof_61 rfl rfl ?_
    refine r_iald (by decide) (by decide) dX12_keepProof_62 ok.1 ?_
    have ok := ok.2
    refine r_iast hG (by decide) (by decide) dX12_keepProof_63 ok.1 ?_
    have ok := ok.2
    refine r_iinc_3 (v := (x3 + nI 1)) dX12_keepProof_64 rfl (by first | rfl | (congr 1)) (by decide) rfl ?_
    refine r_goto (tgt := 37) dX12_keepProof_67 (by decide) ?_
    exact rX.cutz (hrec _ _ (rsA S 56 ((((nI 71) * x2) + x3) - (nI 1)).toNatClampNeg (S.2.1 32 x3.toNatClampNeg)) ok hx) ⟨rfl, rfl, rfl, trivial⟩
def L_keepProof_37 (N : Nat) : Nat → Int32 → Int32 → rS → Nat × rS
  | 0, x2, x3, S => (0, S)
  | n + 1, x2, x3, S => B_keepProof_37 N (L_keepProof_37 N n) x2 x3 S
def OL_keepProof_37 (N : Nat) : Nat → Int32 → Int32 → rS → Prop
  | 0, _, _, _ => False
  | n + 1, x2, x3, S => OB_keepProof_37 N (OL_keepProof_37 N n) x2 x3 S
set_option maxHeartbeats 4000000 in
theorem l_keepProof_37 {G : zG} {E : rE} {N : Nat} {Q : Option Value → rS → Prop} {X : Nat × rS → Prop} (hG : zOK G) (hX0 : ∀ (S' : rS), X (0, S') → rX G E dX12_keepProof mX12_keepProof 70 [none, none, none, none] [] S' Q) : ∀ (n : Nat) (x2 : Int32) (x3 : Int32) (S : rS), OL_keepProof_37 N n x2 x3 S → X (L_keepProof_37 N n x2 x3 S) → rX G E dX12_keepProof mX12_keepProof 37 [some (.ref E.1), none, some (.int x2), some (.int x3)] [] S Q := by
  intro n
  induction n with
  | zero => intro x2 x3 S ok; exact absurd ok id
  | succ n ih =>
    intro x2 x3 S ok hx
    exact bb_keepProof_37 hG hX0 (rec := L_keepProof_37 N n) (rok := OL_keepProof_37 N n) (fun x2 x3 S ok hx => ih x2 x3 S ok hx) ok hx
def A_keepProof_37 (N : Nat) (x2 : Int32) (x3 : Int32) (S : rS) (z : Nat × rS) : Int32 × rS := (F_keepProof_70 N z.2)
def OA_keepProof_37 (N : Nat) (x2 : Int32) (x3 : Int32) (S : rS) (z : Nat × rS) : Prop := O_keepProof_70 N z.2
set_option maxHeartbeats 4000000 in
theorem c_keepProof_37 {G : zG} {E : rE} {S : rS} {N : Nat} {Q : Option Value → rS → Prop} {X : Int32 × rS → Prop} (hG : zOK G) (hR : ∀ v S', X (v, S') → Q (some (.int v)) S') {x2 : Int32} {x3 : Int32} (ok : OL_keepProof_37 N N x2 x3 S ∧ OA_keepProof_37 N x2 x3 S (L_keepProof_37 N N x2 x3 S)) (hx : X (A_keepProof_37 N x2 x3 S (L_keepProof_37 N N x2 x3 S))) : rX G E dX12_keepProof mX12_keepProof 37 [some (.ref E.1), none, some (.int x2), some (.int x3)] [] S Q := by
  refine l_keepProof_37 hG ?_ N x2 x3 S ok.1 (X := fun z => OA_keepProof_37 N x2 x3 S z ∧ X (A_keepProof_37 N x2 x3 S z)) ⟨ok.2, hx⟩
  · intro S' hz
    obtain ⟨ok, hx⟩ := hz
    unfold OA_keepProof_37 at ok
    unfold A_keepProof_37 at hx
    exact rX.cutz (b_keepProof_70 hG hR ok hx) trivial
def F_keepProof_0 (N : Nat) (x1 : Int32) (S : rS) : Int32 × rS := (if (S.2.1 55 (((nI 13) * x1) + (S.2.1 32 (nI 1).toNatClampNeg)).toNatClampNeg) ≤ 0 then (A_keepProof_37 N (((nI 13) * x1) + (S.2.1 32 (nI 1).toNatClampNeg)) (nI 1) (rsA S 55 (((nI 13) * x1) + (S.2.1 32 (nI 1).toNatClampNeg)).toNatClampNeg ((S.1 33) - (nI 1))) (L_keepProof_37 N N (((nI 13) * x1) + (S.2.1 32 (nI 1).toNatClampNeg)) (nI 1) (rsA S 55 (((nI 13) * x1) + (S.2.1 32 (nI 1).toNatClampNeg)).toNatClampNeg ((S.1 33) - (nI 1))))) else ((nI 0), S))
def O_keepProof_0 (N : Nat) (x1 : Int32) (S : rS) : Prop := (vp_in (nI 1) 1010) ∧ (vp_in (((nI 13) * x1) + (S.2.1 32 (nI 1).toNatClampNeg)) 169) ∧ (((S.2.1 55 (((nI 13) * x1) + (S.2.1 32 (nI 1).toNatClampNeg)).toNatClampNeg) ≤ 0 → (vp_in (((nI 13) * x1) + (S.2.1 32 (nI 1).toNatClampNeg)) 169) ∧ (OL_keepProof_37 N N (((nI 13) * x1) + (S.2.1 32 (nI 1).toNatClampNeg)) (nI 1) (rsA S 55 (((nI 13) * x1) + (S.2.1 32 (nI 1).toNatClampNeg)).toNatClampNeg ((S.1 33) - (nI 1))) ∧ OA_keepProof_37 N (((nI 13) * x1) + (S.2.1 32 (nI 1).toNatClampNeg)) (nI 1) (rsA S 55 (((nI 13) * x1) + (S.2.1 32 (nI 1).toNatClampNeg)).toNatClampNeg ((S.1 33) - (nI 1))) (L_keepProof_37 N N (((nI 13) * x1) + (S.2.1 32 (nI 1).toNatClampNeg)) (nI 1) (rsA S 55 (((nI 13) * x1) + (S.2.1 32 (nI 1).toNatClampNeg)).toNatClampNeg ((S.1 33) - (nI 1)))))) ∧ (¬ (S.2.1 55 (((nI 13) * x1) + (S.2.1 32 (nI 1).toNatClampNeg)).toNatClampNeg) ≤ 0 → True))
set_option maxHeartbeats 4000000 in
theorem b_keepProof_0 {G : zG} {E : rE} {S : rS} {N : Nat} {Q : Option Value → rS → Prop} {X : Int32 × rS → Prop} (hG : zOK G) (hR : ∀ v S', X (v, S') → Q (some (.int v)) S') {x1 : Int32} (ok : O_keepProof_0 N x1 S) (hx : X (F_keepProof_0 N x1 S)) : rX G E dX12_keepProof mX12_keepProof 0 [some (.ref E.1), some (.int x1), none, none] [] S Q := by
  unfold O_keepProof_0 at ok
  unfold F_keepProof_0 at hx
  refine r_bipush (v := nI 13) dX12_keepProof_0 (by decide) ?_
  refine r_iload_n dX12_keepProof_2 rfl rfl ?_
  refine r_imul dX12_keepProof_3 ?_
  refine r_aload_n dX12_keepProof_4 rfl rfl ?_
  refine r_getA 32 fX12_204 (by decide) (by decide) dX12_keepProof_5 ?_
  refine r_iconst (v := nI 1) dX12_keepProof_8 (by decide) ?_
  refine r_iald (by decide) (by decide) dX12_keepProof_9 ok.1 ?_
  have ok := ok.2
  refine r_iadd dX12_keepProof_10 ?_
  refine r_istore_2 dX12_keepProof_11 (by decide) rfl ?_
  refine r_aload_n dX12_keepProof_12 rfl rfl ?_
  refine r_getA 55 fX12_342 (by decide) (by decide) dX12_keepProof_13 ?_
  refine r_iload_n dX12_keepProof_16 rfl rfl ?_
  refine r_iald (by decide) (by decide) dX12_keepProof_17 ok.1 ?_
  have ok := ok.2
  refine r_if_le (tgt := 23) dX12_keepProof_18 (by decide) (fun c_18 => ?_) (fun c_18 => ?_)
  · have ok := ok.1 c_18
    have hx := xif_p c_18 hx
    refine r_aload_n dX12_keepProof_23 rfl rfl ?_
    refine r_getA 55 fX12_342 (by decide) (by decide) dX12_keepProof_24 ?_
    refine r_iload_n dX12_keepProof_27 rfl rfl ?_
    refine r_aload_n dX12_keepProof_28 rfl rfl ?_
    refine r_getI 33 fX12_201 (by decide) (by decide) dX12_keepProof_29 ?_
    refine r_iconst (v := nI 1) dX12_keepProof_32 (by decide) ?_
    refine r_isub dX12_keepProof_33 ?_
    refine r_iast hG (by decide) (by decide) dX12_keepProof_34 ok.1 ?_
    have ok := ok.2
    refine r_iconst (v := nI 1) dX12_keepProof_35 (by decide) ?_
    refine r_istore_3 dX12_keepProof_36 (by decide) rfl ?_
    exact rX.cutz (c_keepProof_37 hG hR ok hx) ⟨rfl, rfl, rfl, trivial⟩
  · have ok := ok.2 c_18
    have hx := xif_n c_18 hx
    refine r_iconst (v := nI 0) dX12_keepProof_21 (by decide) ?_
    exact r_ireturn rfl rfl dX12_keepProof_22 (hR _ _ hx)
def f_keepProof (N : Nat) (S : rS) (x1 : Int32) : Int32 × rS := F_keepProof_0 N x1 S
def o_keepProof (N : Nat) (S : rS) (x1 : Int32) : Prop := O_keepProof_0 N x1 S
set_option maxHeartbeats 4000000 in
theorem rc_X12_keepProof {G : zG} {E : rE} {S : rS} {N : Nat} (hG : zOK G) {x1 : Int32} (ok : o_keepProof N S x1) : rCi G E dX12_keepProof mX12_keepProof [.ref E.1, .int x1] S (fun v S' => v = (f_keepProof N S x1).1 ∧ S' = (f_keepProof N S x1).2) := by
  refine rC.ofX rfl (Nat.le_of_ble_eq_true rfl) ?_
  show rX G E dX12_keepProof mX12_keepProof 0 [some (.ref E.1), some (.int x1), none, none] [] S _
  exact rX.cutz (b_keepProof_0 (X := fun F => F = f_keepProof N S x1) hG (fun v S' h => ⟨v, rfl, by rw [← h], by rw [← h]⟩) ok rfl) ⟨rfl, rfl, trivial⟩
/-! keepSnap -/
def F_keepSnap_41 (N : Nat)  (S : rS) : rS := S
def O_keepSnap_41 (N : Nat)  (S : rS) : Prop := True
set_option maxHeartbeats 4000000 in
theorem b_keepSnap_41 {G : zG} {E : rE} {S : rS} {N : Nat} {Q : Option Value → rS → Prop} {X : rS → Prop} (hG : zOK G) (hR : ∀ S', X S' → Q none S') (ok : O_keepSnap_41 N S) (hx : X (F_keepSnap_41 N S)) : rX G E dX12_keepSnap mX12_keepSnap 41 [none, none, none] [] S Q := by
  unfold O_keepSnap_41 at ok
  unfold F_keepSnap_41 at hx
  exact r_return rfl dX12_keepSnap_41 (hR _ hx)
def B_keepSnap_12 (N : Nat) (rec : Int32 → Int32 → rS → Nat × rS) (x1 : Int32) (x2 : Int32) (S : rS) : Nat × rS := (if (nI 115) ≤ x2 then (0, S) else (rec x1 (x2 + nI 1) (rsA S 58 (((nI 115) * x1) + x2).toNatClampNeg (S.2.1 32 x2.toNatClampNeg))))
def OB_keepSnap_12 (N : Nat) (rok : Int32 → Int32 → rS → Prop) (x1 : Int32) (x2 : Int32) (S : rS) : Prop := (((nI 115) ≤ x2 → True) ∧ (¬ (nI 115) ≤ x2 → (vp_in x2 1010) ∧ (vp_in (((nI 115) * x1) + x2) 19440) ∧ rok x1 (x2 + nI 1) (rsA S 58 (((nI 115) * x1) + x2).toNatClampNeg (S.2.1 32 x2.toNatClampNeg))))
set_option maxHeartbeats 4000000 in
theorem bb_keepSnap_12 {G : zG} {E : rE} {S : rS} {N : Nat} {Q : Option Value → rS → Prop} {X : Nat × rS → Prop} (hG : zOK G) (hX0 : ∀ (S' : rS), X (0, S') → rX G E dX12_keepSnap mX12_keepSnap 41 [none, none, none] [] S' Q) {rec : Int32 → Int32 → rS → Nat × rS} {rok : Int32 → Int32 → rS → Prop} (hrec : ∀ (x1 : Int32) (x2 : Int32) (S : rS), rok x1 x2 S → X (rec x1 x2 S) → rX G E dX12_keepSnap mX12_keepSnap 12 [some (.ref E.1), some (.int x1), some (.int x2)] [] S Q) {x1 : Int32} {x2 : Int32} (ok : OB_keepSnap_12 N rok x1 x2 S) (hx : X (B_keepSnap_12 N rec x1 x2 S)) : rX G E dX12_keepSnap mX12_keepSnap 12 [some (.ref E.1), some (.int x1), some (.int x2)] [] S Q := by
  unfold OB_keepSnap_12 at ok
  unfold B_keepSnap_12 at hx
  refine r_iload_n dX12_keepSnap_12 rfl rfl ?_
  refine r_bipush (v := nI 115) dX12_keepSnap_13 (by decide) ?_
  refine r_icmp_ge (tgt := 41) dX12_keepSnap_15 (by decide) (fun c_15 => ?_) (fun c_15 => ?_)
  · have ok := ok.1 c_15
    have hx := xif_p c_15 hx
    exact rX.cutz (hX0 S hx) trivial
  · have ok := ok.2 c_15
    have hx := xif_n c_15 hx
    refine r_aload_n dX12_keepSnap_18 rfl rfl ?_
    refine r_getA 58 fX12_351 (by decide) (by decide) dX12_keepSnap_19 ?_
    refine r_bipush (v := nI 115) dX12_keepSnap_22 (by decide) ?_
    refine r_iload_n dX12_keepSnap_24 rfl rfl ?_
    refine r_imul dX12_keepSnap_25 ?_
    refine r_iload_n dX12_keepSnap_26 rfl rfl ?_
    refine r_iadd dX12_keepSnap_27 ?_
    refine r_aload_n dX12_keepSnap_28 rfl rfl ?_
    refine r_getA 32 fX12_204 (by decide) (by decide) dX12_keepSnap_29 ?_
    refine r_iload_n dX12_keepSnap_32 rfl rfl ?_
    refine r_iald (by decide) (by decide) dX12_keepSnap_33 ok.1 ?_
    have ok := ok.2
    refine r_iast hG (by decide) (by decide) dX12_keepSnap_34 ok.1 ?_
    have ok := ok.2
    refine r_iinc_2 (v := (x2 + nI 1)) dX12_keepSnap_35 rfl (by first | rfl | (congr 1)) (by decide) rfl ?_
    refine r_goto (tgt := 12) dX12_keepSnap_38 (by decide) ?_
    exact rX.cutz (hrec _ _ (rsA S 58 (((nI 115) * x1) + x2).toNatClampNeg (S.2.1 32 x2.toNatClampNeg)) ok hx) ⟨rfl, rfl, rfl, trivial⟩
def L_keepSnap_12 (N : Nat) : Nat → Int32 → Int32 → rS → Nat × rS
  | 0, x1, x2, S => (0, S)
  | n + 1, x1, x2, S => B_keepSnap_12 N (L_keepSnap_12 N n) x1 x2 S
def OL_keepSnap_12 (N : Nat) : Nat → Int32 → Int32 → rS → Prop
  | 0, _, _, _ => False
  | n + 1, x1, x2, S => OB_keepSnap_12 N (OL_keepSnap_12 N n) x1 x2 S
set_option maxHeartbeats 4000000 in
theorem l_keepSnap_12 {G : zG} {E : rE} {N : Nat} {Q : Option Value → rS → Prop} {X : Nat × rS → Prop} (hG : zOK G) (hX0 : ∀ (S' : rS), X (0, S') → rX G E dX12_keepSnap mX12_keepSnap 41 [none, none, none] [] S' Q) : ∀ (n : Nat) (x1 : Int32) (x2 : Int32) (S : rS), OL_keepSnap_12 N n x1 x2 S → X (L_keepSnap_12 N n x1 x2 S) → rX G E dX12_keepSnap mX12_keepSnap 12 [some (.ref E.1), some (.int x1), some (.int x2)] [] S Q := by
  intro n
  induction n with
  | zero => intro x1 x2 S ok; exact absurd ok id
  | succ n ih =>
    intro x1 x2 S ok hx
    exact bb_keepSnap_12 hG hX0 (rec := L_keepSnap_12 N n) (rok := OL_keepSnap_12 N n) (fun x1 x2 S ok hx => ih x1 x2 S ok hx) ok hx
def A_keepSnap_12 (N : Nat) (x1 : Int32) (x2 : Int32) (S : rS) (z : Nat × rS) : rS := (F_keepSnap_41 N z.2)
def OA_keepSnap_12 (N : Nat) (x1 : Int32) (x2 : Int32) (S : rS) (z : Nat × rS) : Prop := O_keepSnap_41 N z.2
set_option maxHeartbeats 4000000 in
theorem c_keepSnap_12 {G : zG} {E : rE} {S : rS} {N : Nat} {Q : Option Value → rS → Prop} {X : rS → Prop} (hG : zOK G) (hR : ∀ S', X S' → Q none S') {x1 : Int32} {x2 : Int32} (ok : OL_keepSnap_12 N N x1 x2 S ∧ OA_keepSnap_12 N x1 x2 S (L_keepSnap_12 N N x1 x2 S)) (hx : X (A_keepSnap_12 N x1 x2 S (L_keepSnap_12 N N x1 x2 S))) : rX G E dX12_keepSnap mX12_keepSnap 12 [some (.ref E.1), some (.int x1), some (.int x2)] [] S Q := by
  refine l_keepSnap_12 hG ?_ N x1 x2 S ok.1 (X := fun z => OA_keepSnap_12 N x1 x2 S z ∧ X (A_keepSnap_12 N x1 x2 S z)) ⟨ok.2, hx⟩
  · intro S' hz
    obtain ⟨ok, hx⟩ := hz
    unfold OA_keepSnap_12 at ok
    unfold A_keepSnap_12 at hx
    exact rX.cutz (b_keepSnap_41 hG hR ok hx) trivial
def F_keepSnap_0 (N : Nat) (x1 : Int32) (S : rS) : rS := (A_keepSnap_12 N x1 (nI 0) (rsA S 57 x1.toNatClampNeg (S.1 38)) (L_keepSnap_12 N N x1 (nI 0) (rsA S 57 x1.toNatClampNeg (S.1 38))))
def O_keepSnap_0 (N : Nat) (x1 : Int32) (S : rS) : Prop := (vp_in x1 169) ∧ (OL_keepSnap_12 N N x1 (nI 0) (rsA S 57 x1.toNatClampNeg (S.1 38)) ∧ OA_keepSnap_12 N x1 (nI 0) (rsA S 57 x1.toNatClampNeg (S.1 38)) (L_keepSnap_12 N N x1 (nI 0) (rsA S 57 x1.toNatClampNeg (S.1 38))))
set_option maxHeartbeats 4000000 in
theorem b_keepSnap_0 {G : zG} {E : rE} {S : rS} {N : Nat} {Q : Option Value → rS → Prop} {X : rS → Prop} (hG : zOK G) (hR : ∀ S', X S' → Q none S') {x1 : Int32} (ok : O_keepSnap_0 N x1 S) (hx : X (F_keepSnap_0 N x1 S)) : rX G E dX12_keepSnap mX12_keepSnap 0 [some (.ref E.1), some (.int x1), none] [] S Q := by
  unfold O_keepSnap_0 at ok
  unfold F_keepSnap_0 at hx
  refine r_aload_n dX12_keepSnap_0 rfl rfl ?_
  refine r_getA 57 fX12_348 (by decide) (by decide) dX12_keepSnap_1 ?_
  refine r_iload_n dX12_keepSnap_4 rfl rfl ?_
  refine r_aload_n dX12_keepSnap_5 rfl rfl ?_
  refine r_getI 38 fX12_257 (by decide) (by decide) dX12_keepSnap_6 ?_
  refine r_iast hG (by decide) (by decide) dX12_keepSnap_9 ok.1 ?_
  have ok := ok.2
  refine r_iconst (v := nI 0) dX12_keepSnap_10 (by decide) ?_
  refine r_istore_2 dX12_keepSnap_11 (by decide) rfl ?_
  exact rX.cutz (c_keepSnap_12 hG hR ok hx) ⟨rfl, rfl, rfl, trivial⟩
def f_keepSnap (N : Nat) (S : rS) (x1 : Int32) : rS := F_keepSnap_0 N x1 S
def o_keepSnap (N : Nat) (S : rS) (x1 : Int32) : Prop := O_keepSnap_0 N x1 S
set_option maxHeartbeats 4000000 in
theorem rc_X12_keepSnap {G : zG} {E : rE} {S : rS} {N : Nat} (hG : zOK G) {x1 : Int32} (ok : o_keepSnap N S x1) : rCv G E dX12_keepSnap mX12_keepSnap [.ref E.1, .int x1] S (fun S' => S' = f_keepSnap N S x1) := by
  refine rC.ofX rfl (Nat.le_of_ble_eq_true rfl) ?_
  show rX G E dX12_keepSnap mX12_keepSnap 0 [some (.ref E.1), some (.int x1), none] [] S _
  exact rX.cutz (b_keepSnap_0 (X := fun F => F = f_keepSnap N S x1) hG (fun S' h => ⟨rfl, h⟩) ok rfl) ⟨rfl, rfl, trivial⟩
/-! answer -/
def F_answer_163 (N : Nat) (s0 : Int32) (S : rS) : rS := S
def O_answer_163 (N : Nat) (s0 : Int32) (S : rS) : Prop := True
set_option maxHeartbeats 4000000 in
theorem b_answer_163 {G : zG} {E : rE} {S : rS} {N : Nat} {Q : Option Value → rS → Prop} {X : rS → Prop} (hG : zOK G) (hR : ∀ S', X S' → Q none S') {s0 : Int32} (ok : O_answer_163 N s0 S) (hx : X (F_answer_163 N s0 S)) : rX G E dX12_answer mX12_answer 163 [none, none, none, none, none, none] [.int s0] S Q := by
  unfold O_answer_163 at ok
  unfold F_answer_163 at hx
  refine r_pop dX12_answer_163 rfl ?_
  exact r_return rfl dX12_answer_164 (hR _ hx)
def F_answer_157 (N : Nat) (x1 : Int32) (x2 : Int32) (S : rS) : rS := (F_answer_163 N ((f_fly N S x1 x2).1) (f_fly N S x1 x2).2)
def O_answer_157 (N : Nat) (x1 : Int32) (x2 : Int32) (S : rS) : Prop := (o_fly N S x1 x2) ∧ O_answer_163 N ((f_fly N S x1 x2).1) (f_fly N S x1 x2).2
set_option maxHeartbeats 4000000 in
theorem b_answer_157 {G : zG} {E : rE} {S : rS} {N : Nat} {Q : Option Value → rS → Prop} {X : rS → Prop} (hG : zOK G) (hR : ∀ S', X S' → Q none S') {x1 : Int32} {x2 : Int32} (ok : O_answer_157 N x1 x2 S) (hx : X (F_answer_157 N x1 x2 S)) : rX G E dX12_answer mX12_answer 157 [some (.ref E.1), some (.int x1), some (.int x2), none, none, none] [] S Q := by
  unfold O_answer_157 at ok
  unfold F_answer_157 at hx
  refine r_aload_n dX12_answer_157 rfl rfl ?_
  refine r_iload_n dX12_answer_158 rfl rfl ?_
  refine r_iload_n dX12_answer_159 rfl rfl ?_
  refine r_V2i (y' := mX12_fly) dX12_answer_160 lX12_222 kX12_fly ⟨by decide, by decide⟩ rfl (Nat.le_of_ble_eq_true rfl) (rc_X12_fly hG ok.1) (fun v_160 S_160 h_160 => ?_)
  obtain ⟨rfl, hS_160⟩ := h_160
  have hS_160 := hS_160.symm
  subst hS_160
  have ok := ok.2
  exact rX.cutz (b_answer_163 hG hR ok hx) trivial
def F_answer_151 (N : Nat) (rec : Int32 → Int32 → Int32 → rS → Nat × Int32 × Int32 × rS) (x1 : Int32) (x2 : Int32) (x5 : Int32) (S : rS) : Nat × Int32 × Int32 × rS := (rec x1 x2 (x5 + nI 1) S)
def O_answer_151 (N : Nat) (rok : Int32 → Int32 → Int32 → rS → Prop) (x1 : Int32) (x2 : Int32) (x5 : Int32) (S : rS) : Prop := rok x1 x2 (x5 + nI 1) S
set_option maxHeartbeats 4000000 in
theorem b_answer_151 {G : zG} {E : rE} {S : rS} {N : Nat} {Q : Option Value → rS → Prop} {X : Nat × Int32 × Int32 × rS → Prop} (hG : zOK G) (hX0 : ∀ (x1 : Int32) (x2 : Int32) (S' : rS), X (0, x1, x2, S') → rX G E dX12_answer mX12_answer 157 [some (.ref E.1), some (.int x1), some (.int x2), none, none, none] [] S' Q) {rec : Int32 → Int32 → Int32 → rS → Nat × Int32 × Int32 × rS} {rok : Int32 → Int32 → Int32 → rS → Prop} (hrec : ∀ (x1 : Int32) (x2 : Int32) (x5 : Int32) (S : rS), rok x1 x2 x5 S → X (rec x1 x2 x5 S) → rX G E dX12_answer mX12_answer 103 [some (.ref E.1), some (.int x1), some (.int x2), none, none, some (.int x5)] [] S Q) {x1 : Int32} {x2 : Int32} {x5 : Int32} (ok : O_answer_151 N rok x1 x2 x5 S) (hx : X (F_answer_151 N rec x1 x2 x5 S)) : rX G E dX12_answer mX12_answer 151 [some (.ref E.1), some (.int x1), some (.int x2), none, none, some (.int x5)] [] S Q := by
  unfold O_answer_151 at ok
  unfold F_answer_151 at hx
  refine r_iinc_5 (v := (x5 + nI 1)) dX12_answer_151 rfl (by first | rfl | (congr 1)) (by decide) rfl ?_
  refine r_goto (tgt := 103) dX12_answer_154 (by decide) ?_
  exact rX.cutz (hrec _ _ _ S ok hx) ⟨rfl, rfl, rfl, rfl, trivial⟩
def F_answer_148 (N : Nat) (rec : Int32 → Int32 → Int32 → rS → Nat × Int32 × Int32 × rS) (x1 : Int32) (x2 : Int32) (x5 : Int32) (s1 : Int32) (S : rS) : Nat × Int32 × Int32 × rS := (F_answer_151 N rec x1 x2 x5 (f_write N S s1))
def O_answer_148 (N : Nat) (rok : Int32 → Int32 → Int32 → rS → Prop) (x1 : Int32) (x2 : Int32) (x5 : Int32) (s1 : Int32) (S : rS) : Prop := (o_write N S s1) ∧ O_answer_151 N rok x1 x2 x5 (f_write N S s1)
set_option maxHeartbeats 4000000 in
theorem b_answer_148 {G : zG} {E : rE} {S : rS} {N : Nat} {Q : Option Value → rS → Prop} {X : Nat × Int32 × Int32 × rS → Prop} (hG : zOK G) (hX0 : ∀ (x1 : Int32) (x2 : Int32) (S' : rS), X (0, x1, x2, S') → rX G E dX12_answer mX12_answer 157 [some (.ref E.1), some (.int x1), some (.int x2), none, none, none] [] S' Q) {rec : Int32 → Int32 → Int32 → rS → Nat × Int32 × Int32 × rS} {rok : Int32 → Int32 → Int32 → rS → Prop} (hrec : ∀ (x1 : Int32) (x2 : Int32) (x5 : Int32) (S : rS), rok x1 x2 x5 S → X (rec x1 x2 x5 S) → rX G E dX12_answer mX12_answer 103 [some (.ref E.1), some (.int x1), some (.int x2), none, none, some (.int x5)] [] S Q) {x1 : Int32} {x2 : Int32} {x5 : Int32} {s1 : Int32} (ok : O_answer_148 N rok x1 x2 x5 s1 S) (hx : X (F_answer_148 N rec x1 x2 x5 s1 S)) : rX G E dX12_answer mX12_answer 148 [some (.ref E.1), some (.int x1), some (.int x2), none, none, some (.int x5)] [.int s1, .ref E.1] S Q := by
  unfold O_answer_148 at ok
  unfold F_answer_148 at hx
  refine r_V1v (y' := mX12_write) dX12_answer_148 lX12_226 kX12_write ⟨by decide, by decide⟩ rfl (Nat.le_of_ble_eq_true rfl) (rc_X12_write hG ok.1) (fun S_148 h_148 => ?_)
  subst h_148
  have ok := ok.2
  exact rX.cutz (b_answer_151 hG hX0 hrec ok hx) ⟨rfl, rfl, rfl, rfl, trivial⟩
def F_answer_132 (N : Nat) (rec : Int32 → Int32 → Int32 → rS → Nat × Int32 × Int32 × rS) (x1 : Int32) (x2 : Int32) (x5 : Int32) (S : rS) : Nat × Int32 × Int32 × rS := (if (S.2.1 87 x5.toNatClampNeg) = 0 then (F_answer_148 N rec x1 x2 x5 (nI 0) S) else (F_answer_148 N rec x1 x2 x5 (nI 1) S))
def O_answer_132 (N : Nat) (rok : Int32 → Int32 → Int32 → rS → Prop) (x1 : Int32) (x2 : Int32) (x5 : Int32) (S : rS) : Prop := (vp_in x5 16) ∧ (((S.2.1 87 x5.toNatClampNeg) = 0 → O_answer_148 N rok x1 x2 x5 (nI 0) S) ∧ (¬ (S.2.1 87 x5.toNatClampNeg) = 0 → O_answer_148 N rok x1 x2 x5 (nI 1) S))
set_option maxHeartbeats 4000000 in
theorem b_answer_132 {G : zG} {E : rE} {S : rS} {N : Nat} {Q : Option Value → rS → Prop} {X : Nat × Int32 × Int32 × rS → Prop} (hG : zOK G) (hX0 : ∀ (x1 : Int32) (x2 : Int32) (S' : rS), X (0, x1, x2, S') → rX G E dX12_answer mX12_answer 157 [some (.ref E.1), some (.int x1), some (.int x2), none, none, none] [] S' Q) {rec : Int32 → Int32 → Int32 → rS → Nat × Int32 × Int32 × rS} {rok : Int32 → Int32 → Int32 → rS → Prop} (hrec : ∀ (x1 : Int32) (x2 : Int32) (x5 : Int32) (S : rS), rok x1 x2 x5 S → X (rec x1 x2 x5 S) → rX G E dX12_answer mX12_answer 103 [some (.ref E.1), some (.int x1), some (.int x2), none, none, some (.int x5)] [] S Q) {x1 : Int32} {x2 : Int32} {x5 : Int32} (ok : O_answer_132 N rok x1 x2 x5 S) (hx : X (F_answer_132 N rec x1 x2 x5 S)) : rX G E dX12_answer mX12_answer 132 [some (.ref E.1), some (.int x1), some (.int x2), none, none, some (.int x5)] [] S Q := by
  unfold O_answer_132 at ok
  unfold F_answer_132 at hx
  refine r_aload_n dX12_answer_132 rfl rfl ?_
  refine r_aload_n dX12_answer_133 rfl rfl ?_
  refine r_getA 87 fX12_436 (by decide) (by decide) dX12_answer_134 ?_
  refine r_iload dX12_answer_137 rfl ?_
  refine r_zald (by decide) (by decide) dX12_answer_139 ok.1 ?_
  have ok := ok.2
  refine r_if_eq (tgt := 147) dX12_answer_140 (by decide) (fun c_140 => ?_) (fun c_140 => ?_)
  · have ok := ok.1 c_140
    have hx := xif_p c_140 hx
    refine r_iconst (v := nI 0) dX12_answer_147 (by decide) ?_
    exact rX.cutz (b_answer_148 hG hX0 hrec ok hx) ⟨rfl, rfl, rfl, rfl, trivial⟩
  · have ok := ok.2 c_140
    have hx := xif_n c_140 hx
    refine r_iconst (v := nI 1) dX12_answer_143 (by decide) ?_
    refine r_goto (tgt := 148) dX12_answer_144 (by decide) ?_
    exact rX.cutz (b_answer_148 hG hX0 hrec ok hx) ⟨rfl, rfl, rfl, rfl, trivial⟩
def F_answer_121 (N : Nat) (rec : Int32 → Int32 → Int32 → rS → Nat × Int32 × Int32 × rS) (x1 : Int32) (x2 : Int32) (x5 : Int32) (S : rS) : Nat × Int32 × Int32 × rS := (F_answer_132 N rec x1 x2 x5 (f_writeTwo N S (S.2.1 86 x5.toNatClampNeg)))
def O_answer_121 (N : Nat) (rok : Int32 → Int32 → Int32 → rS → Prop) (x1 : Int32) (x2 : Int32) (x5 : Int32) (S : rS) : Prop := (vp_in x5 16) ∧ (o_writeTwo N S (S.2.1 86 x5.toNatClampNeg)) ∧ O_answer_132 N rok x1 x2 x5 (f_writeTwo N S (S.2.1 86 x5.toNatClampNeg))
set_option maxHeartbeats 4000000 in
theorem b_answer_121 {G : zG} {E : rE} {S : rS} {N : Nat} {Q : Option Value → rS → Prop} {X : Nat × Int32 × Int32 × rS → Prop} (hG : zOK G) (hX0 : ∀ (x1 : Int32) (x2 : Int32) (S' : rS), X (0, x1, x2, S') → rX G E dX12_answer mX12_answer 157 [some (.ref E.1), some (.int x1), some (.int x2), none, none, none] [] S' Q) {rec : Int32 → Int32 → Int32 → rS → Nat × Int32 × Int32 × rS} {rok : Int32 → Int32 → Int32 → rS → Prop} (hrec : ∀ (x1 : Int32) (x2 : Int32) (x5 : Int32) (S : rS), rok x1 x2 x5 S → X (rec x1 x2 x5 S) → rX G E dX12_answer mX12_answer 103 [some (.ref E.1), some (.int x1), some (.int x2), none, none, some (.int x5)] [] S Q) {x1 : Int32} {x2 : Int32} {x5 : Int32} (ok : O_answer_121 N rok x1 x2 x5 S) (hx : X (F_answer_121 N rec x1 x2 x5 S)) : rX G E dX12_answer mX12_answer 121 [some (.ref E.1), some (.int x1), some (.int x2), none, none, some (.int x5)] [] S Q := by
  unfold O_answer_121 at ok
  unfold F_answer_121 at hx
  refine r_aload_n dX12_answer_121 rfl rfl ?_
  refine r_aload_n dX12_answer_122 rfl rfl ?_
  refine r_getA 86 fX12_433 (by decide) (by decide) dX12_answer_123 ?_
  refine r_iload dX12_answer_126 rfl ?_
  refine r_iald (by decide) (by decide) dX12_answer_128 ok.1 ?_
  have ok := ok.2
  refine r_V1v (y' := mX12_writeTwo) dX12_answer_129 lX12_229 kX12_writeTwo ⟨by decide, by decide⟩ rfl (Nat.le_of_ble_eq_true rfl) (rc_X12_writeTwo hG ok.1) (fun S_129 h_129 => ?_)
  subst h_129
  have ok := ok.2
  exact rX.cutz (b_answer_132 hG hX0 hrec ok hx) ⟨rfl, rfl, rfl, rfl, trivial⟩
def B_answer_103 (N : Nat) (rec : Int32 → Int32 → Int32 → rS → Nat × Int32 × Int32 × rS) (x1 : Int32) (x2 : Int32) (x5 : Int32) (S : rS) : Nat × Int32 × Int32 × rS := (if (nI 16) ≤ x5 then (0, x1, x2, S) else (F_answer_121 N rec x1 x2 x5 (f_writeTwo N S (S.2.1 85 x5.toNatClampNeg))))
def OB_answer_103 (N : Nat) (rok : Int32 → Int32 → Int32 → rS → Prop) (x1 : Int32) (x2 : Int32) (x5 : Int32) (S : rS) : Prop := (((nI 16) ≤ x5 → True) ∧ (¬ (nI 16) ≤ x5 → (vp_in x5 16) ∧ (o_writeTwo N S (S.2.1 85 x5.toNatClampNeg)) ∧ O_answer_121 N rok x1 x2 x5 (f_writeTwo N S (S.2.1 85 x5.toNatClampNeg))))
set_option maxHeartbeats 4000000 in
theorem bb_answer_103 {G : zG} {E : rE} {S : rS} {N : Nat} {Q : Option Value → rS → Prop} {X : Nat × Int32 × Int32 × rS → Prop} (hG : zOK G) (hX0 : ∀ (x1 : Int32) (x2 : Int32) (S' : rS), X (0, x1, x2, S') → rX G E dX12_answer mX12_answer 157 [some (.ref E.1), some (.int x1), some (.int x2), none, none, none] [] S' Q) {rec : Int32 → Int32 → Int32 → rS → Nat × Int32 × Int32 × rS} {rok : Int32 → Int32 → Int32 → rS → Prop} (hrec : ∀ (x1 : Int32) (x2 : Int32) (x5 : Int32) (S : rS), rok x1 x2 x5 S → X (rec x1 x2 x5 S) → rX G E dX12_answer mX12_answer 103 [some (.ref E.1), some (.int x1), some (.int x2), none, none, some (.int x5)] [] S Q) {x1 : Int32} {x2 : Int32} {x5 : Int32} (ok : OB_answer_103 N rok x1 x2 x5 S) (hx : X (B_answer_103 N rec x1 x2 x5 S)) : rX G E dX12_answer mX12_answer 103 [some (.ref E.1), some (.int x1), some (.int x2), none, none, some (.int x5)] [] S Q := by
  unfold OB_answer_103 at ok
  unfold B_answer_103 at hx
  refine r_iload dX12_answer_103 rfl ?_
  refine r_bipush (v := nI 16) dX12_answer_105 (by decide) ?_
  refine r_icmp_ge (tgt := 157) dX12_answer_107 (by decide) (fun c_107 => ?_) (fun c_107 => ?_)
  · have ok := ok.1 c_107
    have hx := xif_p c_107 hx
    exact rX.cutz (hX0 _ _ S hx) ⟨rfl, rfl, rfl, trivial⟩
  · have ok := ok.2 c_107
    have hx := xif_n c_107 hx
    refine r_aload_n dX12_answer_110 rfl rfl ?_
    refine r_aload_n dX12_answer_111 rfl rfl ?_
    refine r_getA 85 fX12_430 (by decide) (by decide) dX12_answer_112 ?_
    refine r_iload dX12_answer_115 rfl ?_
    refine r_iald (by decide) (by decide) dX12_answer_117 ok.1 ?_
    have ok := ok.2
    refine r_V1v (y' := mX12_writeTwo) dX12_answer_118 lX12_229 kX12_writeTwo ⟨by decide, by decide⟩ rfl (Nat.le_of_ble_eq_true rfl) (rc_X12_writeTwo hG ok.1) (fun S_118 h_118 => ?_)
    subst h_118
    have ok := ok.2
    exact rX.cutz (b_answer_121 hG hX0 hrec ok hx) ⟨rfl, rfl, rfl, rfl, trivial⟩
def L_answer_103 (N : Nat) : Nat → Int32 → Int32 → Int32 → rS → Nat × Int32 × Int32 × rS
  | 0, x1, x2, x5, S => (0, 0, 0, S)
  | n + 1, x1, x2, x5, S => B_answer_103 N (L_answer_103 N n) x1 x2 x5 S
def OL_answer_103 (N : Nat) : Nat → Int32 → Int32 → Int32 → rS → Prop
  | 0, _, _, _, _ => False
  | n + 1, x1, x2, x5, S => OB_answer_103 N (OL_answer_103 N n) x1 x2 x5 S
set_option maxHeartbeats 4000000 in
theorem l_answer_103 {G : zG} {E : rE} {N : Nat} {Q : Option Value → rS → Prop} {X : Nat × Int32 × Int32 × rS → Prop} (hG : zOK G) (hX0 : ∀ (x1 : Int32) (x2 : Int32) (S' : rS), X (0, x1, x2, S') → rX G E dX12_answer mX12_answer 157 [some (.ref E.1), some (.int x1), some (.int x2), none, none, none] [] S' Q) : ∀ (n : Nat) (x1 : Int32) (x2 : Int32) (x5 : Int32) (S : rS), OL_answer_103 N n x1 x2 x5 S → X (L_answer_103 N n x1 x2 x5 S) → rX G E dX12_answer mX12_answer 103 [some (.ref E.1), some (.int x1), some (.int x2), none, none, some (.int x5)] [] S Q := by
  intro n
  induction n with
  | zero => intro x1 x2 x5 S ok; exact absurd ok id
  | succ n ih =>
    intro x1 x2 x5 S ok hx
    exact bb_answer_103 hG hX0 (rec := L_answer_103 N n) (rok := OL_answer_103 N n) (fun x1 x2 x5 S ok hx => ih x1 x2 x5 S ok hx) ok hx
def A_answer_103 (N : Nat) (x1 : Int32) (x2 : Int32) (x5 : Int32) (S : rS) (z : Nat × Int32 × Int32 × rS) : rS := (F_answer_157 N (z.2.1) (z.2.2.1) z.2.2.2)
def OA_answer_103 (N : Nat) (x1 : Int32) (x2 : Int32) (x5 : Int32) (S : rS) (z : Nat × Int32 × Int32 × rS) : Prop := O_answer_157 N (z.2.1) (z.2.2.1) z.2.2.2
set_option maxHeartbeats 4000000 in
theorem c_answer_103 {G : zG} {E : rE} {S : rS} {N : Nat} {Q : Option Value → rS → Prop} {X : rS → Prop} (hG : zOK G) (hR : ∀ S', X S' → Q none S') {x1 : Int32} {x2 : Int32} {x5 : Int32} (ok : OL_answer_103 N N x1 x2 x5 S ∧ OA_answer_103 N x1 x2 x5 S (L_answer_103 N N x1 x2 x5 S)) (hx : X (A_answer_103 N x1 x2 x5 S (L_answer_103 N N x1 x2 x5 S))) : rX G E dX12_answer mX12_answer 103 [some (.ref E.1), some (.int x1), some (.int x2), none, none, some (.int x5)] [] S Q := by
  refine l_answer_103 hG ?_ N x1 x2 x5 S ok.1 (X := fun z => OA_answer_103 N x1 x2 x5 S z ∧ X (A_answer_103 N x1 x2 x5 S z)) ⟨ok.2, hx⟩
  · intro x1' x2' S' hz
    obtain ⟨ok, hx⟩ := hz
    unfold OA_answer_103 at ok
    unfold A_answer_103 at hx
    exact rX.cutz (b_answer_157 hG hR ok hx) ⟨rfl, rfl, rfl, trivial⟩
def F_answer_100 (N : Nat) (x1 : Int32) (x2 : Int32) (S : rS) : rS := (A_answer_103 N x1 x2 (nI 0) S (L_answer_103 N N x1 x2 (nI 0) S))
def O_answer_100 (N : Nat) (x1 : Int32) (x2 : Int32) (S : rS) : Prop := (OL_answer_103 N N x1 x2 (nI 0) S ∧ OA_answer_103 N x1 x2 (nI 0) S (L_answer_103 N N x1 x2 (nI 0) S))
set_option maxHeartbeats 4000000 in
theorem b_answer_100 {G : zG} {E : rE} {S : rS} {N : Nat} {Q : Option Value → rS → Prop} {X : rS → Prop} (hG : zOK G) (hR : ∀ S', X S' → Q none S') {x1 : Int32} {x2 : Int32} (ok : O_answer_100 N x1 x2 S) (hx : X (F_answer_100 N x1 x2 S)) : rX G E dX12_answer mX12_answer 100 [some (.ref E.1), some (.int x1), some (.int x2), none, none, none] [] S Q := by
  unfold O_answer_100 at ok
  unfold F_answer_100 at hx
  refine r_iconst (v := nI 0) dX12_answer_100 (by decide) ?_
  refine r_istore_5 dX12_answer_101 (by decide) rfl ?_
  exact rX.cutz (c_answer_103 hG hR ok hx) ⟨rfl, rfl, rfl, rfl, trivial⟩
def F_answer_95 (N : Nat) (x1 : Int32) (x2 : Int32) (S : rS) : rS := (F_answer_100 N x1 x2 (f_reckon N S x1))
def O_answer_95 (N : Nat) (x1 : Int32) (x2 : Int32) (S : rS) : Prop := (o_reckon N S x1) ∧ O_answer_100 N x1 x2 (f_reckon N S x1)
set_option maxHeartbeats 4000000 in
theorem b_answer_95 {G : zG} {E : rE} {S : rS} {N : Nat} {Q : Option Value → rS → Prop} {X : rS → Prop} (hG : zOK G) (hR : ∀ S', X S' → Q none S') {x1 : Int32} {x2 : Int32} (ok : O_answer_95 N x1 x2 S) (hx : X (F_answer_95 N x1 x2 S)) : rX G E dX12_answer mX12_answer 95 [some (.ref E.1), some (.int x1), some (.int x2), none, none, none] [] S Q := by
  unfold O_answer_95 at ok
  unfold F_answer_95 at hx
  refine r_aload_n dX12_answer_95 rfl rfl ?_
  refine r_iload_n dX12_answer_96 rfl rfl ?_
  refine r_V1v (y' := mX12_reckon) dX12_answer_97 lX12_161 kX12_reckon ⟨by decide, by decide⟩ rfl (Nat.le_of_ble_eq_true rfl) (rc_X12_reckon hG ok.1) (fun S_97 h_97 => ?_)
  subst h_97
  have ok := ok.2
  exact rX.cutz (b_answer_100 hG hR ok hx) ⟨rfl, rfl, rfl, trivial⟩
def F_answer_89 (N : Nat) (rec : Int32 → Int32 → Int32 → rS → Nat × Int32 × Int32 × rS) (x1 : Int32) (x2 : Int32) (x5 : Int32) (S : rS) : Nat × Int32 × Int32 × rS := (rec x1 x2 (x5 + nI 1) S)
def O_answer_89 (N : Nat) (rok : Int32 → Int32 → Int32 → rS → Prop) (x1 : Int32) (x2 : Int32) (x5 : Int32) (S : rS) : Prop := rok x1 x2 (x5 + nI 1) S
set_option maxHeartbeats 4000000 in
theorem b_answer_89 {G : zG} {E : rE} {S : rS} {N : Nat} {Q : Option Value → rS → Prop} {X : Nat × Int32 × Int32 × rS → Prop} (hG : zOK G) (hX0 : ∀ (x1 : Int32) (x2 : Int32) (S' : rS), X (0, x1, x2, S') → rX G E dX12_answer mX12_answer 95 [some (.ref E.1), some (.int x1), some (.int x2), none, none, none] [] S' Q) {rec : Int32 → Int32 → Int32 → rS → Nat × Int32 × Int32 × rS} {rok : Int32 → Int32 → Int32 → rS → Prop} (hrec : ∀ (x1 : Int32) (x2 : Int32) (x5 : Int32) (S : rS), rok x1 x2 x5 S → X (rec x1 x2 x5 S) → rX G E dX12_answer mX12_answer 71 [some (.ref E.1), some (.int x1), some (.int x2), none, none, some (.int x5)] [] S Q) {x1 : Int32} {x2 : Int32} {x5 : Int32} (ok : O_answer_89 N rok x1 x2 x5 S) (hx : X (F_answer_89 N rec x1 x2 x5 S)) : rX G E dX12_answer mX12_answer 89 [some (.ref E.1), some (.int x1), some (.int x2), none, none, some (.int x5)] [] S Q := by
  unfold O_answer_89 at ok
  unfold F_answer_89 at hx
  refine r_iinc_5 (v := (x5 + nI 1)) dX12_answer_89 rfl (by first | rfl | (congr 1)) (by decide) rfl ?_
  refine r_goto (tgt := 71) dX12_answer_92 (by decide) ?_
  exact rX.cutz (hrec _ _ _ S ok hx) ⟨rfl, rfl, rfl, rfl, trivial⟩
def B_answer_71 (N : Nat) (rec : Int32 → Int32 → Int32 → rS → Nat × Int32 × Int32 × rS) (x1 : Int32) (x2 : Int32) (x5 : Int32) (S : rS) : Nat × Int32 × Int32 × rS := (if (nI 32) ≤ x5 then (0, x1, x2, S) else (F_answer_89 N rec x1 x2 x5 (f_write N S (f_lastByte N S x1 x5))))
def OB_answer_71 (N : Nat) (rok : Int32 → Int32 → Int32 → rS → Prop) (x1 : Int32) (x2 : Int32) (x5 : Int32) (S : rS) : Prop := (((nI 32) ≤ x5 → True) ∧ (¬ (nI 32) ≤ x5 → (o_lastByte N S x1 x5) ∧ (o_write N S (f_lastByte N S x1 x5)) ∧ O_answer_89 N rok x1 x2 x5 (f_write N S (f_lastByte N S x1 x5))))
set_option maxHeartbeats 4000000 in
theorem bb_answer_71 {G : zG} {E : rE} {S : rS} {N : Nat} {Q : Option Value → rS → Prop} {X : Nat × Int32 × Int32 × rS → Prop} (hG : zOK G) (hX0 : ∀ (x1 : Int32) (x2 : Int32) (S' : rS), X (0, x1, x2, S') → rX G E dX12_answer mX12_answer 95 [some (.ref E.1), some (.int x1), some (.int x2), none, none, none] [] S' Q) {rec : Int32 → Int32 → Int32 → rS → Nat × Int32 × Int32 × rS} {rok : Int32 → Int32 → Int32 → rS → Prop} (hrec : ∀ (x1 : Int32) (x2 : Int32) (x5 : Int32) (S : rS), rok x1 x2 x5 S → X (rec x1 x2 x5 S) → rX G E dX12_answer mX12_answer 71 [some (.ref E.1), some (.int x1), some (.int x2), none, none, some (.int x5)] [] S Q) {x1 : Int32} {x2 : Int32} {x5 : Int32} (ok : OB_answer_71 N rok x1 x2 x5 S) (hx : X (B_answer_71 N rec x1 x2 x5 S)) : rX G E dX12_answer mX12_answer 71 [some (.ref E.1), some (.int x1), some (.int x2), none, none, some (.int x5)] [] S Q := by
  unfold OB_answer_71 at ok
  unfold B_answer_71 at hx
  refine r_iload dX12_answer_71 rfl ?_
  refine r_bipush (v := nI 32) dX12_answer_73 (by decide) ?_
  refine r_icmp_ge (tgt := 95) dX12_answer_75 (by decide) (fun c_75 => ?_) (fun c_75 => ?_)
  · have ok := ok.1 c_75
    have hx := xif_p c_75 hx
    exact rX.cutz (hX0 _ _ S hx) ⟨rfl, rfl, rfl, trivial⟩
  · have ok := ok.2 c_75
    have hx := xif_n c_75 hx
    refine r_aload_n dX12_answer_78 rfl rfl ?_
    refine r_aload_n dX12_answer_79 rfl rfl ?_
    refine r_iload_n dX12_answer_80 rfl rfl ?_
    refine r_iload dX12_answer_81 rfl ?_
    refine r_V2i (y' := mX12_lastByte) dX12_answer_83 lX12_158 kX12_lastByte ⟨by decide, by decide⟩ rfl (Nat.le_of_ble_eq_true rfl) (rc_X12_lastByte hG ok.1) (fun v_83 S_83 h_83 => ?_)
    obtain ⟨rfl, hS_83⟩ := h_83
    have hS_83 := hS_83.symm
    subst hS_83
    have ok := ok.2
    refine r_V1v (y' := mX12_write) dX12_answer_86 lX12_226 kX12_write ⟨by decide, by decide⟩ rfl (Nat.le_of_ble_eq_true rfl) (rc_X12_write hG ok.1) (fun S_86 h_86 => ?_)
    subst h_86
    have ok := ok.2
    exact rX.cutz (b_answer_89 hG hX0 hrec ok hx) ⟨rfl, rfl, rfl, rfl, trivial⟩
def L_answer_71 (N : Nat) : Nat → Int32 → Int32 → Int32 → rS → Nat × Int32 × Int32 × rS
  | 0, x1, x2, x5, S => (0, 0, 0, S)
  | n + 1, x1, x2, x5, S => B_answer_71 N (L_answer_71 N n) x1 x2 x5 S
def OL_answer_71 (N : Nat) : Nat → Int32 → Int32 → Int32 → rS → Prop
  | 0, _, _, _, _ => False
  | n + 1, x1, x2, x5, S => OB_answer_71 N (OL_answer_71 N n) x1 x2 x5 S
set_option maxHeartbeats 4000000 in
theorem l_answer_71 {G : zG} {E : rE} {N : Nat} {Q : Option Value → rS → Prop} {X : Nat × Int32 × Int32 × rS → Prop} (hG : zOK G) (hX0 : ∀ (x1 : Int32) (x2 : Int32) (S' : rS), X (0, x1, x2, S') → rX G E dX12_answer mX12_answer 95 [some (.ref E.1), some (.int x1), some (.int x2), none, none, none] [] S' Q) : ∀ (n : Nat) (x1 : Int32) (x2 : Int32) (x5 : Int32) (S : rS), OL_answer_71 N n x1 x2 x5 S → X (L_answer_71 N n x1 x2 x5 S) → rX G E dX12_answer mX12_answer 71 [some (.ref E.1), some (.int x1), some (.int x2), none, none, some (.int x5)] [] S Q := by
  intro n
  induction n with
  | zero => intro x1 x2 x5 S ok; exact absurd ok id
  | succ n ih =>
    intro x1 x2 x5 S ok hx
    exact bb_answer_71 hG hX0 (rec := L_answer_71 N n) (rok := OL_answer_71 N n) (fun x1 x2 x5 S ok hx => ih x1 x2 x5 S ok hx) ok hx
def A_answer_71 (N : Nat) (x1 : Int32) (x2 : Int32) (x5 : Int32) (S : rS) (z : Nat × Int32 × Int32 × rS) : rS := (F_answer_95 N (z.2.1) (z.2.2.1) z.2.2.2)
def OA_answer_71 (N : Nat) (x1 : Int32) (x2 : Int32) (x5 : Int32) (S : rS) (z : Nat × Int32 × Int32 × rS) : Prop := O_answer_95 N (z.2.1) (z.2.2.1) z.2.2.2
set_option maxHeartbeats 4000000 in
theorem c_answer_71 {G : zG} {E : rE} {S : rS} {N : Nat} {Q : Option Value → rS → Prop} {X : rS → Prop} (hG : zOK G) (hR : ∀ S', X S' → Q none S') {x1 : Int32} {x2 : Int32} {x5 : Int32} (ok : OL_answer_71 N N x1 x2 x5 S ∧ OA_answer_71 N x1 x2 x5 S (L_answer_71 N N x1 x2 x5 S)) (hx : X (A_answer_71 N x1 x2 x5 S (L_answer_71 N N x1 x2 x5 S))) : rX G E dX12_answer mX12_answer 71 [some (.ref E.1), some (.int x1), some (.int x2), none, none, some (.int x5)] [] S Q := by
  refine l_answer_71 hG ?_ N x1 x2 x5 S ok.1 (X := fun z => OA_answer_71 N x1 x2 x5 S z ∧ X (A_answer_71 N x1 x2 x5 S z)) ⟨ok.2, hx⟩
  · intro x1' x2' S' hz
    obtain ⟨ok, hx⟩ := hz
    unfold OA_answer_71 at ok
    unfold A_answer_71 at hx
    exact rX.cutz (b_answer_95 hG hR ok hx) ⟨rfl, rfl, rfl, trivial⟩
def F_answer_68 (N : Nat) (x1 : Int32) (x2 : Int32) (S : rS) : rS := (A_answer_71 N x1 x2 (nI 0) S (L_answer_71 N N x1 x2 (nI 0) S))
def O_answer_68 (N : Nat) (x1 : Int32) (x2 : Int32) (S : rS) : Prop := (OL_answer_71 N N x1 x2 (nI 0) S ∧ OA_answer_71 N x1 x2 (nI 0) S (L_answer_71 N N x1 x2 (nI 0) S))
set_option maxHeartbeats 4000000 in
theorem b_answer_68 {G : zG} {E : rE} {S : rS} {N : Nat} {Q : Option Value → rS → Prop} {X : rS → Prop} (hG : zOK G) (hR : ∀ S', X S' → Q none S') {x1 : Int32} {x2 : Int32} (ok : O_answer_68 N x1 x2 S) (hx : X (F_answer_68 N x1 x2 S)) : rX G E dX12_answer mX12_answer 68 [some (.ref E.1), some (.int x1), some (.int x2), none, none, none] [] S Q := by
  unfold O_answer_68 at ok
  unfold F_answer_68 at hx
  refine r_iconst (v := nI 0) dX12_answer_68 (by decide) ?_
  refine r_istore_5 dX12_answer_69 (by decide) rfl ?_
  exact rX.cutz (c_answer_71 hG hR ok hx) ⟨rfl, rfl, rfl, rfl, trivial⟩
def F_answer_58 (N : Nat) (x1 : Int32) (x2 : Int32) (S : rS) : rS := (F_answer_68 N x1 x2 (f_writeTwo N S (S.2.1 44 x1.toNatClampNeg)))
def O_answer_58 (N : Nat) (x1 : Int32) (x2 : Int32) (S : rS) : Prop := (vp_in x1 13) ∧ (o_writeTwo N S (S.2.1 44 x1.toNatClampNeg)) ∧ O_answer_68 N x1 x2 (f_writeTwo N S (S.2.1 44 x1.toNatClampNeg))
set_option maxHeartbeats 4000000 in
theorem b_answer_58 {G : zG} {E : rE} {S : rS} {N : Nat} {Q : Option Value → rS → Prop} {X : rS → Prop} (hG : zOK G) (hR : ∀ S', X S' → Q none S') {x1 : Int32} {x2 : Int32} (ok : O_answer_58 N x1 x2 S) (hx : X (F_answer_58 N x1 x2 S)) : rX G E dX12_answer mX12_answer 58 [some (.ref E.1), some (.int x1), some (.int x2), none, none, none] [] S Q := by
  unfold O_answer_58 at ok
  unfold F_answer_58 at hx
  refine r_aload_n dX12_answer_58 rfl rfl ?_
  refine r_aload_n dX12_answer_59 rfl rfl ?_
  refine r_getA 44 fX12_309 (by decide) (by decide) dX12_answer_60 ?_
  refine r_iload_n dX12_answer_63 rfl rfl ?_
  refine r_iald (by decide) (by decide) dX12_answer_64 ok.1 ?_
  have ok := ok.2
  refine r_V1v (y' := mX12_writeTwo) dX12_answer_65 lX12_229 kX12_writeTwo ⟨by decide, by decide⟩ rfl (Nat.le_of_ble_eq_true rfl) (rc_X12_writeTwo hG ok.1) (fun S_65 h_65 => ?_)
  subst h_65
  have ok := ok.2
  exact rX.cutz (b_answer_68 hG hR ok hx) ⟨rfl, rfl, rfl, trivial⟩
def F_answer_52 (N : Nat) (x1 : Int32) (x2 : Int32) (S : rS) : rS := (F_answer_58 N x1 x2 (f_write N S (nI 7)))
def O_answer_52 (N : Nat) (x1 : Int32) (x2 : Int32) (S : rS) : Prop := (o_write N S (nI 7)) ∧ O_answer_58 N x1 x2 (f_write N S (nI 7))
set_option maxHeartbeats 4000000 in
theorem b_answer_52 {G : zG} {E : rE} {S : rS} {N : Nat} {Q : Option Value → rS → Prop} {X : rS → Prop} (hG : zOK G) (hR : ∀ S', X S' → Q none S') {x1 : Int32} {x2 : Int32} (ok : O_answer_52 N x1 x2 S) (hx : X (F_answer_52 N x1 x2 S)) : rX G E dX12_answer mX12_answer 52 [some (.ref E.1), some (.int x1), some (.int x2), none, none, none] [] S Q := by
  unfold O_answer_52 at ok
  unfold F_answer_52 at hx
  refine r_aload_n dX12_answer_52 rfl rfl ?_
  refine r_bipush (v := nI 7) dX12_answer_53 (by decide) ?_
  refine r_V1v (y' := mX12_write) dX12_answer_55 lX12_226 kX12_write ⟨by decide, by decide⟩ rfl (Nat.le_of_ble_eq_true rfl) (rc_X12_write hG ok.1) (fun S_55 h_55 => ?_)
  subst h_55
  have ok := ok.2
  exact rX.cutz (b_answer_58 hG hR ok hx) ⟨rfl, rfl, rfl, trivial⟩
def F_answer_49 (N : Nat) (x1 : Int32) (x2 : Int32) (S : rS) : rS := (F_answer_157 N x1 x2 S)
def O_answer_49 (N : Nat) (x1 : Int32) (x2 : Int32) (S : rS) : Prop := O_answer_157 N x1 x2 S
set_option maxHeartbeats 4000000 in
theorem b_answer_49 {G : zG} {E : rE} {S : rS} {N : Nat} {Q : Option Value → rS → Prop} {X : rS → Prop} (hG : zOK G) (hR : ∀ S', X S' → Q none S') {x1 : Int32} {x2 : Int32} (ok : O_answer_49 N x1 x2 S) (hx : X (F_answer_49 N x1 x2 S)) : rX G E dX12_answer mX12_answer 49 [some (.ref E.1), some (.int x1), some (.int x2), none, none, none] [] S Q := by
  unfold O_answer_49 at ok
  unfold F_answer_49 at hx
  refine r_goto (tgt := 157) dX12_answer_49 (by decide) ?_
  exact rX.cutz (b_answer_157 hG hR ok hx) ⟨rfl, rfl, rfl, trivial⟩
def F_answer_43 (N : Nat) (x1 : Int32) (x2 : Int32) (x4 : Int32) (S : rS) : rS := (F_answer_49 N x1 x2 (f_writeBlock N S x4))
def O_answer_43 (N : Nat) (x1 : Int32) (x2 : Int32) (x4 : Int32) (S : rS) : Prop := (o_writeBlock N S x4) ∧ O_answer_49 N x1 x2 (f_writeBlock N S x4)
set_option maxHeartbeats 4000000 in
theorem b_answer_43 {G : zG} {E : rE} {S : rS} {N : Nat} {Q : Option Value → rS → Prop} {X : rS → Prop} (hG : zOK G) (hR : ∀ S', X S' → Q none S') {x1 : Int32} {x2 : Int32} {x4 : Int32} (ok : O_answer_43 N x1 x2 x4 S) (hx : X (F_answer_43 N x1 x2 x4 S)) : rX G E dX12_answer mX12_answer 43 [some (.ref E.1), some (.int x1), some (.int x2), none, some (.int x4), none] [] S Q := by
  unfold O_answer_43 at ok
  unfold F_answer_43 at hx
  refine r_aload_n dX12_answer_43 rfl rfl ?_
  refine r_iload dX12_answer_44 rfl ?_
  refine r_V1v (y' := mX12_writeBlock) dX12_answer_46 lX12_524 kX12_writeBlock ⟨by decide, by decide⟩ rfl (Nat.le_of_ble_eq_true rfl) (rc_X12_writeBlock hG ok.1) (fun S_46 h_46 => ?_)
  subst h_46
  have ok := ok.2
  exact rX.cutz (b_answer_49 hG hR ok hx) ⟨rfl, rfl, rfl, trivial⟩
def F_answer_0 (N : Nat) (x1 : Int32) (x2 : Int32) (x3 : Int32) (S : rS) : rS := (if x3 < (((rsI S 33 (nI 0)).2.1 44 x1.toNatClampNeg) - (nI 4)) then (F_answer_52 N x1 x2 (rsI S 33 (nI 0))) else (if (f_isThere N (rsI S 33 (nI 0)) (((nI 585) + ((nI 41) * x1)) + x3)) = 0 then (F_answer_52 N x1 x2 (rsI S 33 (nI 0))) else (F_answer_43 N x1 x2 (((nI 585) + ((nI 41) * x1)) + x3) (f_write N (rsI S 33 (nI 0)) (nI 4)))))
def O_answer_0 (N : Nat) (x1 : Int32) (x2 : Int32) (x3 : Int32) (S : rS) : Prop := (vp_in x1 13) ∧ ((x3 < (((rsI S 33 (nI 0)).2.1 44 x1.toNatClampNeg) - (nI 4)) → O_answer_52 N x1 x2 (rsI S 33 (nI 0))) ∧ (¬ x3 < (((rsI S 33 (nI 0)).2.1 44 x1.toNatClampNeg) - (nI 4)) → (o_isThere N (rsI S 33 (nI 0)) (((nI 585) + ((nI 41) * x1)) + x3)) ∧ (((f_isThere N (rsI S 33 (nI 0)) (((nI 585) + ((nI 41) * x1)) + x3)) = 0 → O_answer_52 N x1 x2 (rsI S 33 (nI 0))) ∧ (¬ (f_isThere N (rsI S 33 (nI 0)) (((nI 585) + ((nI 41) * x1)) + x3)) = 0 → (o_write N (rsI S 33 (nI 0)) (nI 4)) ∧ O_answer_43 N x1 x2 (((nI 585) + ((nI 41) * x1)) + x3) (f_write N (rsI S 33 (nI 0)) (nI 4))))))
set_option maxHeartbeats 4000000 in
theorem b_answer_0 {G : zG} {E : rE} {S : rS} {N : Nat} {Q : Option Value → rS → Prop} {X : rS → Prop} (hG : zOK G) (hR : ∀ S', X S' → Q none S') {x1 : Int32} {x2 : Int32} {x3 : Int32} (ok : O_answer_0 N x1 x2 x3 S) (hx : X (F_answer_0 N x1 x2 x3 S)) : rX G E dX12_answer mX12_answer 0 [some (.ref E.1), some (.int x1), some (.int x2), some (.int x3), none, none] [] S Q := by
  unfold O_answer_0 at ok
  unfold F_answer_0 at hx
  refine r_sipush (v := nI 585) dX12_answer_0 (by decide) ?_
  refine r_bipush (v := nI 41) dX12_answer_3 (by decide) ?_
  refine r_iload_n dX12_answer_5 rfl rfl ?_
  refine r_imul dX12_answer_6 ?_
  refine r_iadd dX12_answer_7 ?_
  refine r_iload_n dX12_answer_8 rfl rfl ?_
  refine r_iadd dX12_answer_9 ?_
  refine r_istore_4 dX12_answer_10 (by decide) rfl ?_
  refine r_aload_n dX12_answer_12 rfl rfl ?_
  refine r_iconst (v := nI 0) dX12_answer_13 (by decide) ?_
  refine r_putI 33 fX12_201 (by decide) (by decide) rfl rfl rfl dX12_answer_14 ?_
  refine r_iload_n dX12_answer_17 rfl rfl ?_
  refine r_aload_n dX12_answer_18 rfl rfl ?_
  refine r_getA 44 fX12_309 (by decide) (by decide) dX12_answer_19 ?_
  refine r_iload_n dX12_answer_22 rfl rfl ?_
  refine r_iald (by decide) (by decide) dX12_answer_23 ok.1 ?_
  have ok := ok.2
  refine r_iconst (v := nI 4) dX12_answer_24 (by decide) ?_
  refine r_isub dX12_answer_25 ?_
  refine r_icmp_lt (tgt := 52) dX12_answer_26 (by decide) (fun c_26 => ?_) (fun c_26 => ?_)
  · have ok := ok.1 c_26
    have hx := xif_p c_26 hx
    exact rX.cutz (b_answer_52 hG hR ok hx) ⟨rfl, rfl, rfl, trivial⟩
  · have ok := ok.2 c_26
    have hx := xif_n c_26 hx
    refine r_aload_n dX12_answer_29 rfl rfl ?_
    refine r_iload dX12_answer_30 rfl ?_
    refine r_V1i (y' := mX12_isThere) dX12_answer_32 lX12_63 kX12_isThere ⟨by decide, by decide⟩ rfl (Nat.le_of_ble_eq_true rfl) (rc_X12_isThere hG ok.1) (fun v_32 S_32 h_32 => ?_)
    obtain ⟨rfl, hS_32⟩ := h_32
    have hS_32 := hS_32.symm
    subst hS_32
    have ok := ok.2
    refine r_if_eq (tgt := 52) dX12_answer_35 (by decide) (fun c_35 => ?_) (fun c_35 => ?_)
    · have ok := ok.1 c_35
      have hx := xif_p c_35 hx
      exact rX.cutz (b_answer_52 hG hR ok hx) ⟨rfl, rfl, rfl, trivial⟩
    · have ok := ok.2 c_35
      have hx := xif_n c_35 hx
      refine r_aload_n dX12_answer_38 rfl rfl ?_
      refine r_iconst (v := nI 4) dX12_answer_39 (by decide) ?_
      refine r_V1v (y' := mX12_write) dX12_answer_40 lX12_226 kX12_write ⟨by decide, by decide⟩ rfl (Nat.le_of_ble_eq_true rfl) (rc_X12_write hG ok.1) (fun S_40 h_40 => ?_)
      subst h_40
      have ok := ok.2
      exact rX.cutz (b_answer_43 hG hR ok hx) ⟨rfl, rfl, rfl, rfl, trivial⟩
def f_answer (N : Nat) (S : rS) (x1 : Int32) (x2 : Int32) (x3 : Int32) : rS := F_answer_0 N x1 x2 x3 S
def o_answer (N : Nat) (S : rS) (x1 : Int32) (x2 : Int32) (x3 : Int32) : Prop := O_answer_0 N x1 x2 x3 S
set_option maxHeartbeats 4000000 in
theorem rc_X12_answer {G : zG} {E : rE} {S : rS} {N : Nat} (hG : zOK G) {x1 : Int32} {x2 : Int32} {x3 : Int32} (ok : o_answer N S x1 x2 x3) : rCv G E dX12_answer mX12_answer [.ref E.1, .int x1, .int x2, .int x3] S (fun S' => S' = f_answer N S x1 x2 x3) := by
  refine rC.ofX rfl (Nat.le_of_ble_eq_true rfl) ?_
  show rX G E dX12_answer mX12_answer 0 [some (.ref E.1), some (.int x1), some (.int x2), some (.int x3), none, none] [] S _
  exact rX.cutz (b_answer_0 (X := fun F => F = f_answer N S x1 x2 x3) hG (fun S' h => ⟨rfl, h⟩) ok rfl) ⟨rfl, rfl, rfl, rfl, trivial⟩

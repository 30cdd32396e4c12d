/-! answerHeld -/
def F_answerHeld_233 (N : Nat)  (S : rS) : rS := S
def O_answerHeld_233 (N : Nat)  (S : rS) : Prop := True
set_option maxHeartbeats 4000000 in
theorem b_answerHeld_233 {G : zG} {E : rE} {S : rS} {N : Nat} {Q : Option Value → rS → Prop} {X : rS → Prop} (hG : zOK G) (hR : ∀ S', X S' → Q none S') (ok : O_answerHeld_233 N S) (hx : X (F_answerHeld_233 N S)) : rX G E dX12_answerHeld mX12_answerHeld 233 [none, none, none, none, none, none, none, none, none, none] [] S Q := by
  unfold O_answerHeld_233 at ok
  unfold F_answerHeld_233 at hx
  exact r_return rfl dX12_answerHeld_233 (hR _ hx)
def F_answerHeld_227 (N : Nat) (rec : Int32 → Int32 → Int32 → Int32 → rS → Nat × rS) (x1 : Int32) (x2 : Int32) (x3 : Int32) (x4 : Int32) (S : rS) : Nat × rS := (rec x1 x2 x3 (x4 + nI 1) S)
def O_answerHeld_227 (N : Nat) (rok : Int32 → Int32 → Int32 → Int32 → rS → Prop) (x1 : Int32) (x2 : Int32) (x3 : Int32) (x4 : Int32) (S : rS) : Prop := rok x1 x2 x3 (x4 + nI 1) S
set_option maxHeartbeats 4000000 in
theorem b_answerHeld_227 {G : zG} {E : rE} {S : rS} {N : Nat} {Q : Option Value → rS → Prop} {X : Nat × rS → Prop} (hG : zOK G) (hX0 : ∀ (S' : rS), X (0, S') → rX G E dX12_answerHeld mX12_answerHeld 233 [none, none, none, none, none, none, none, none, none, none] [] S' Q) {rec : Int32 → Int32 → Int32 → Int32 → rS → Nat × rS} {rok : Int32 → Int32 → Int32 → Int32 → rS → Prop} (hrec : ∀ (x1 : Int32) (x2 : Int32) (x3 : Int32) (x4 : Int32) (S : rS), rok x1 x2 x3 x4 S → X (rec x1 x2 x3 x4 S) → rX G E dX12_answerHeld mX12_answerHeld 10 [some (.ref E.1), some (.int x1), some (.int x2), some (.int x3), some (.int x4), none, none, none, none, none] [] S Q) {x1 : Int32} {x2 : Int32} {x3 : Int32} {x4 : Int32} (ok : O_answerHeld_227 N rok x1 x2 x3 x4 S) (hx : X (F_answerHeld_227 N rec x1 x2 x3 x4 S)) : rX G E dX12_answerHeld mX12_answerHeld 227 [some (.ref E.1), some (.int x1), some (.int x2), some (.int x3), some (.int x4), none, none, none, none, none] [] S Q := by
  unfold O_answerHeld_227 at ok
  unfold F_answerHeld_227 at hx
  refine r_iinc_4 (v := (x4 + nI 1)) dX12_answerHeld_227 rfl (by first | rfl | (congr 1)) (by decide) rfl ?_
  refine r_goto (tgt := 10) dX12_answerHeld_230 (by decide) ?_
  exact rX.cutz (hrec _ _ _ _ S ok hx) ⟨rfl, rfl, rfl, rfl, rfl, trivial⟩
def F_answerHeld_221 (N : Nat) (rec : Int32 → Int32 → Int32 → Int32 → Int32 → rS → Nat × Int32 × Int32 × Int32 × Int32 × rS) (x1 : Int32) (x2 : Int32) (x3 : Int32) (x4 : Int32) (x6 : Int32) (S : rS) : Nat × Int32 × Int32 × Int32 × Int32 × rS := (rec x1 x2 x3 x4 (x6 + nI 1) S)
def O_answerHeld_221 (N : Nat) (rok : Int32 → Int32 → Int32 → Int32 → Int32 → rS → Prop) (x1 : Int32) (x2 : Int32) (x3 : Int32) (x4 : Int32) (x6 : Int32) (S : rS) : Prop := rok x1 x2 x3 x4 (x6 + nI 1) S
set_option maxHeartbeats 4000000 in
theorem b_answerHeld_221 {G : zG} {E : rE} {S : rS} {N : Nat} {Q : Option Value → rS → Prop} {X : Nat × Int32 × Int32 × Int32 × Int32 × rS → Prop} (hG : zOK G) (hX0 : ∀ (x1 : Int32) (x2 : Int32) (x3 : Int32) (x4 : Int32) (S' : rS), X (0, x1, x2, x3, x4, S') → rX G E dX12_answerHeld mX12_answerHeld 227 [some (.ref E.1), some (.int x1), some (.int x2), some (.int x3), some (.int x4), none, none, none, none, none] [] S' Q) {rec : Int32 → Int32 → Int32 → Int32 → Int32 → rS → Nat × Int32 × Int32 × Int32 × Int32 × rS} {rok : Int32 → Int32 → Int32 → Int32 → Int32 → rS → Prop} (hrec : ∀ (x1 : Int32) (x2 : Int32) (x3 : Int32) (x4 : Int32) (x6 : Int32) (S : rS), rok x1 x2 x3 x4 x6 S → X (rec x1 x2 x3 x4 x6 S) → rX G E dX12_answerHeld mX12_answerHeld 72 [some (.ref E.1), some (.int x1), some (.int x2), some (.int x3), some (.int x4), none, some (.int x6), none, none, none] [] S Q) {x1 : Int32} {x2 : Int32} {x3 : Int32} {x4 : Int32} {x6 : Int32} (ok : O_answerHeld_221 N rok x1 x2 x3 x4 x6 S) (hx : X (F_answerHeld_221 N rec x1 x2 x3 x4 x6 S)) : rX G E dX12_answerHeld mX12_answerHeld 221 [some (.ref E.1), some (.int x1), some (.int x2), some (.int x3), some (.int x4), none, some (.int x6), none, none, none] [] S Q := by
  unfold O_answerHeld_221 at ok
  unfold F_answerHeld_221 at hx
  refine r_iinc_6 (v := (x6 + nI 1)) dX12_answerHeld_221 rfl (by first | rfl | (congr 1)) (by decide) rfl ?_
  refine r_goto (tgt := 72) dX12_answerHeld_224 (by decide) ?_
  exact rX.cutz (hrec _ _ _ _ _ S ok hx) ⟨rfl, rfl, rfl, rfl, rfl, rfl, trivial⟩
def F_answerHeld_220 (N : Nat) (rec : Int32 → Int32 → Int32 → Int32 → Int32 → rS → Nat × Int32 × Int32 × Int32 × Int32 × rS) (x1 : Int32) (x2 : Int32) (x3 : Int32) (x4 : Int32) (x6 : Int32) (s0 : Int32) (S : rS) : Nat × Int32 × Int32 × Int32 × Int32 × rS := (F_answerHeld_221 N rec x1 x2 x3 x4 x6 S)
def O_answerHeld_220 (N : Nat) (rok : Int32 → Int32 → Int32 → Int32 → Int32 → rS → Prop) (x1 : Int32) (x2 : Int32) (x3 : Int32) (x4 : Int32) (x6 : Int32) (s0 : Int32) (S : rS) : Prop := O_answerHeld_221 N rok x1 x2 x3 x4 x6 S
set_option maxHeartbeats 4000000 in
theorem b_answerHeld_220 {G : zG} {E : rE} {S : rS} {N : Nat} {Q : Option Value → rS → Prop} {X : Nat × Int32 × Int32 × Int32 × Int32 × rS → Prop} (hG : zOK G) (hX0 : ∀ (x1 : Int32) (x2 : Int32) (x3 : Int32) (x4 : Int32) (S' : rS), X (0, x1, x2, x3, x4, S') → rX G E dX12_answerHeld mX12_answerHeld 227 [some (.ref E.1), some (.int x1), some (.int x2), some (.int x3), some (.int x4), none, none, none, none, none] [] S' Q) {rec : Int32 → Int32 → Int32 → Int32 → Int32 → rS → Nat × Int32 × Int32 × Int32 × Int32 × rS} {rok : Int32 → Int32 → Int32 → Int32 → Int32 → rS → Prop} (hrec : ∀ (x1 : Int32) (x2 : Int32) (x3 : Int32) (x4 : Int32) (x6 : Int32) (S : rS), rok x1 x2 x3 x4 x6 S → X (rec x1 x2 x3 x4 x6 S) → rX G E dX12_answerHeld mX12_answerHeld 72 [some (.ref E.1), some (.int x1), some (.int x2), some (.int x3), some (.int x4), none, some (.int x6), none, none, none] [] S Q) {x1 : Int32} {x2 : Int32} {x3 : Int32} {x4 : Int32} {x6 : Int32} {s0 : Int32} (ok : O_answerHeld_220 N rok x1 x2 x3 x4 x6 s0 S) (hx : X (F_answerHeld_220 N rec x1 x2 x3 x4 x6 s0 S)) : rX G E dX12_answerHeld mX12_answerHeld 220 [some (.ref E.1), some (.int x1), some (.int x2), some (.int x3), some (.int x4), none, some (.int x6), none, none, none] [.int s0] S Q := by
  unfold O_answerHeld_220 at ok
  unfold F_answerHeld_220 at hx
  refine r_pop dX12_answerHeld_220 rfl ?_
  exact rX.cutz (b_answerHeld_221 hG hX0 hrec ok hx) ⟨rfl, rfl, rfl, rfl, rfl, rfl, trivial⟩
def F_answerHeld_214 (N : Nat) (rec : Int32 → Int32 → Int32 → Int32 → Int32 → rS → Nat × Int32 × Int32 × Int32 × Int32 × rS) (x1 : Int32) (x2 : Int32) (x3 : Int32) (x4 : Int32) (x6 : Int32) (S : rS) : Nat × Int32 × Int32 × Int32 × Int32 × rS := (F_answerHeld_220 N rec x1 x2 x3 x4 x6 ((f_fly N S x1 x2).1) (f_fly N S x1 x2).2)
def O_answerHeld_214 (N : Nat) (rok : Int32 → Int32 → Int32 → Int32 → Int32 → rS → Prop) (x1 : Int32) (x2 : Int32) (x3 : Int32) (x4 : Int32) (x6 : Int32) (S : rS) : Prop := (o_fly N S x1 x2) ∧ O_answerHeld_220 N rok x1 x2 x3 x4 x6 ((f_fly N S x1 x2).1) (f_fly N S x1 x2).2
set_option maxHeartbeats 4000000 in
theorem b_answerHeld_214 {G : zG} {E : rE} {S : rS} {N : Nat} {Q : Option Value → rS → Prop} {X : Nat × Int32 × Int32 × Int32 × Int32 × rS → Prop} (hG : zOK G) (hX0 : ∀ (x1 : Int32) (x2 : Int32) (x3 : Int32) (x4 : Int32) (S' : rS), X (0, x1, x2, x3, x4, S') → rX G E dX12_answerHeld mX12_answerHeld 227 [some (.ref E.1), some (.int x1), some (.int x2), some (.int x3), some (.int x4), none, none, none, none, none] [] S' Q) {rec : Int32 → Int32 → Int32 → Int32 → Int32 → rS → Nat × Int32 × Int32 × Int32 × Int32 × rS} {rok : Int32 → Int32 → Int32 → Int32 → Int32 → rS → Prop} (hrec : ∀ (x1 : Int32) (x2 : Int32) (x3 : Int32) (x4 : Int32) (x6 : Int32) (S : rS), rok x1 x2 x3 x4 x6 S → X (rec x1 x2 x3 x4 x6 S) → rX G E dX12_answerHeld mX12_answerHeld 72 [some (.ref E.1), some (.int x1), some (.int x2), some (.int x3), some (.int x4), none, some (.int x6), none, none, none] [] S Q) {x1 : Int32} {x2 : Int32} {x3 : Int32} {x4 : Int32} {x6 : Int32} (ok : O_answerHeld_214 N rok x1 x2 x3 x4 x6 S) (hx : X (F_answerHeld_214 N rec x1 x2 x3 x4 x6 S)) : rX G E dX12_answerHeld mX12_answerHeld 214 [some (.ref E.1), some (.int x1), some (.int x2), some (.int x3), some (.int x4), none, some (.int x6), none, none, none] [] S Q := by
  unfold O_answerHeld_214 at ok
  unfold F_answerHeld_214 at hx
  refine r_aload_n dX12_answerHeld_214 rfl rfl ?_
  refine r_iload_n dX12_answerHeld_215 rfl rfl ?_
  refine r_iload_n dX12_answerHeld_216 rfl rfl ?_
  refine r_V2i (y' := mX12_fly) dX12_answerHeld_217 lX12_222 kX12_fly ⟨by decide, by decide⟩ rfl (Nat.le_of_ble_eq_true rfl) (rc_X12_fly hG ok.1) (fun v_217 S_217 h_217 => ?_)
  obtain ⟨rfl, hS_217⟩ := h_217
  have hS_217 := hS_217.symm
  subst hS_217
  have ok := ok.2
  exact rX.cutz (b_answerHeld_220 hG hX0 hrec ok hx) ⟨rfl, rfl, rfl, rfl, rfl, rfl, trivial⟩
def F_answerHeld_206 (N : Nat) (rec : Int32 → Int32 → Int32 → Int32 → Int32 → rS → Nat × Int32 × Int32 × Int32 × Int32 × rS) (x1 : Int32) (x2 : Int32) (x3 : Int32) (x4 : Int32) (x6 : Int32) (S : rS) : Nat × Int32 × Int32 × Int32 × Int32 × rS := (F_answerHeld_214 N rec x1 x2 x3 x4 x6 S)
def O_answerHeld_206 (N : Nat) (rok : Int32 → Int32 → Int32 → Int32 → Int32 → rS → Prop) (x1 : Int32) (x2 : Int32) (x3 : Int32) (x4 : Int32) (x6 : Int32) (S : rS) : Prop := O_answerHeld_214 N rok x1 x2 x3 x4 x6 S
set_option maxHeartbeats 4000000 in
theorem b_answerHeld_206 {G : zG} {E : rE} {S : rS} {N : Nat} {Q : Option Value → rS → Prop} {X : Nat × Int32 × Int32 × Int32 × Int32 × rS → Prop} (hG : zOK G) (hX0 : ∀ (x1 : Int32) (x2 : Int32) (x3 : Int32) (x4 : Int32) (S' : rS), X (0, x1, x2, x3, x4, S') → rX G E dX12_answerHeld mX12_answerHeld 227 [some (.ref E.1), some (.int x1), some (.int x2), some (.int x3), some (.int x4), none, none, none, none, none] [] S' Q) {rec : Int32 → Int32 → Int32 → Int32 → Int32 → rS → Nat × Int32 × Int32 × Int32 × Int32 × rS} {rok : Int32 → Int32 → Int32 → Int32 → Int32 → rS → Prop} (hrec : ∀ (x1 : Int32) (x2 : Int32) (x3 : Int32) (x4 : Int32) (x6 : Int32) (S : rS), rok x1 x2 x3 x4 x6 S → X (rec x1 x2 x3 x4 x6 S) → rX G E dX12_answerHeld mX12_answerHeld 72 [some (.ref E.1), some (.int x1), some (.int x2), some (.int x3), some (.int x4), none, some (.int x6), none, none, none] [] S Q) {x1 : Int32} {x2 : Int32} {x3 : Int32} {x4 : Int32} {x6 : Int32} (ok : O_answerHeld_206 N rok x1 x2 x3 x4 x6 S) (hx : X (F_answerHeld_206 N rec x1 x2 x3 x4 x6 S)) : rX G E dX12_answerHeld mX12_answerHeld 206 [some (.ref E.1), some (.int x1), some (.int x2), some (.int x3), some (.int x4), none, some (.int x6), none, none, none] [] S Q := by
  unfold O_answerHeld_206 at ok
  unfold F_answerHeld_206 at hx
  refine r_goto (tgt := 214) dX12_answerHeld_206 (by decide) ?_
  exact rX.cutz (b_answerHeld_214 hG hX0 hrec ok hx) ⟨rfl, rfl, rfl, rfl, rfl, rfl, trivial⟩
def F_answerHeld_163 (N : Nat) (rec : Int32 → Int32 → Int32 → Int32 → Int32 → rS → Nat × Int32 × Int32 × Int32 × Int32 × rS) (x1 : Int32) (x2 : Int32) (x3 : Int32) (x4 : Int32) (x6 : Int32) (x9 : Int32) (S : rS) : Nat × Int32 × Int32 × Int32 × Int32 × rS := (if (S.2.1 60 x9.toNatClampNeg) = (nI 2) then (F_answerHeld_206 N rec x1 x2 x3 x4 x6 (f_writeId N S (S.2.2 61 x9.toNatClampNeg) (S.2.2 62 x9.toNatClampNeg) (S.2.2 63 x9.toNatClampNeg) (S.2.2 64 x9.toNatClampNeg))) else (F_answerHeld_214 N rec x1 x2 x3 x4 x6 (f_write N S (nI 0))))
def O_answerHeld_163 (N : Nat) (rok : Int32 → Int32 → Int32 → Int32 → Int32 → rS → Prop) (x1 : Int32) (x2 : Int32) (x3 : Int32) (x4 : Int32) (x6 : Int32) (x9 : Int32) (S : rS) : Prop := (vp_in x9 10816) ∧ (((S.2.1 60 x9.toNatClampNeg) = (nI 2) → (vp_in x9 10816) ∧ (vp_in x9 10816) ∧ (vp_in x9 10816) ∧ (vp_in x9 10816) ∧ (o_writeId N S (S.2.2 61 x9.toNatClampNeg) (S.2.2 62 x9.toNatClampNeg) (S.2.2 63 x9.toNatClampNeg) (S.2.2 64 x9.toNatClampNeg)) ∧ O_answerHeld_206 N rok x1 x2 x3 x4 x6 (f_writeId N S (S.2.2 61 x9.toNatClampNeg) (S.2.2 62 x9.toNatClampNeg) (S.2.2 63 x9.toNatClampNeg) (S.2.2 64 x9.toNatClampNeg))) ∧ (¬ (S.2.1 60 x9.toNatClampNeg) = (nI 2) → (o_write N S (nI 0)) ∧ O_answerHeld_214 N rok x1 x2 x3 x4 x6 (f_write N S (nI 0))))
set_option maxHeartbeats 4000000 in
theorem b_answerHeld_163 {G : zG} {E : rE} {S : rS} {N : Nat} {Q : Option Value → rS → Prop} {X : Nat × Int32 × Int32 × Int32 × Int32 × rS → Prop} (hG : zOK G) (hX0 : ∀ (x1 : Int32) (x2 : Int32) (x3 : Int32) (x4 : Int32) (S' : rS), X (0, x1, x2, x3, x4, S') → rX G E dX12_answerHeld mX12_answerHeld 227 [some (.ref E.1), some (.int x1), some (.int x2), some (.int x3), some (.int x4), none, none, none, none, none] [] S' Q) {rec : Int32 → Int32 → Int32 → Int32 → Int32 → rS → Nat × Int32 × Int32 × Int32 × Int32 × rS} {rok : Int32 → Int32 → Int32 → Int32 → Int32 → rS → Prop} (hrec : ∀ (x1 : Int32) (x2 : Int32) (x3 : Int32) (x4 : Int32) (x6 : Int32) (S : rS), rok x1 x2 x3 x4 x6 S → X (rec x1 x2 x3 x4 x6 S) → rX G E dX12_answerHeld mX12_answerHeld 72 [some (.ref E.1), some (.int x1), some (.int x2), some (.int x3), some (.int x4), none, some (.int x6), none, none, none] [] S Q) {x1 : Int32} {x2 : Int32} {x3 : Int32} {x4 : Int32} {x6 : Int32} {x9 : Int32} (ok : O_answerHeld_163 N rok x1 x2 x3 x4 x6 x9 S) (hx : X (F_answerHeld_163 N rec x1 x2 x3 x4 x6 x9 S)) : rX G E dX12_answerHeld mX12_answerHeld 163 [some (.ref E.1), some (.int x1), some (.int x2), some (.int x3), some (.int x4), none, some (.int x6), none, none, some (.int x9)] [] S Q := by
  unfold O_answerHeld_163 at ok
  unfold F_answerHeld_163 at hx
  refine r_aload_n dX12_answerHeld_163 rfl rfl ?_
  refine r_getA 60 fX12_357 (by decide) (by decide) dX12_answerHeld_164 ?_
  refine r_iload dX12_answerHeld_167 rfl ?_
  refine r_iald (by decide) (by decide) dX12_answerHeld_169 ok.1 ?_
  have ok := ok.2
  refine r_iconst (v := nI 2) dX12_answerHeld_170 (by decide) ?_
  refine r_icmp_ne (tgt := 209) dX12_answerHeld_171 (by decide) (fun c_171 => ?_) (fun c_171 => ?_)
  · have ok := ok.2 c_171
    have hx := xif_n c_171 hx
    refine r_aload_n dX12_answerHeld_209 rfl rfl ?_
    refine r_iconst (v := nI 0) dX12_answerHeld_210 (by decide) ?_
    refine r_V1v (y' := mX12_write) dX12_answerHeld_211 lX12_226 kX12_write ⟨by decide, by decide⟩ rfl (Nat.le_of_ble_eq_true rfl) (rc_X12_write hG ok.1) (fun S_211 h_211 => ?_)
    subst h_211
    have ok := ok.2
    exact rX.cutz (b_answerHeld_214 hG hX0 hrec ok hx) ⟨rfl, rfl, rfl, rfl, rfl, rfl, trivial⟩
  · have ok := ok.1 c_171
    have hx := xif_p c_171 hx
    refine r_aload_n dX12_answerHeld_174 rfl rfl ?_
    refine r_aload_n dX12_answerHeld_175 rfl rfl ?_
    refine r_getA 61 fX12_360 (by decide) (by decide) dX12_answerHeld_176 ?_
    refine r_iload dX12_answerHeld_179 rfl ?_
    refine r_lald (by decide) (by decide) dX12_answerHeld_181 ok.1 ?_
    have ok := ok.2
    refine r_aload_n dX12_answerHeld_182 rfl rfl ?_
    refine r_getA 62 fX12_363 (by decide) (by decide) dX12_answerHeld_183 ?_
    refine r_iload dX12_answerHeld_186 rfl ?_
    refine r_lald (by decide) (by decide) dX12_answerHeld_188 ok.1 ?_
    have ok := ok.2
    refine r_aload_n dX12_answerHeld_189 rfl rfl ?_
    refine r_getA 63 fX12_366 (by decide) (by decide) dX12_answerHeld_190 ?_
    refine r_iload dX12_answerHeld_193 rfl ?_
    refine r_lald (by decide) (by decide) dX12_answerHeld_195 ok.1 ?_
    have ok := ok.2
    refine r_aload_n dX12_answerHeld_196 rfl rfl ?_
    refine r_getA 64 fX12_369 (by decide) (by decide) dX12_answerHeld_197 ?_
    refine r_iload dX12_answerHeld_200 rfl ?_
    refine r_lald (by decide) (by decide) dX12_answerHeld_202 ok.1 ?_
    have ok := ok.2
    refine r_V4v (y' := mX12_writeId) dX12_answerHeld_203 lX12_537 kX12_writeId ⟨by decide, by decide⟩ rfl (Nat.le_of_ble_eq_true rfl) (rc_X12_writeId hG ok.1) (fun S_203 h_203 => ?_)
    subst h_203
    have ok := ok.2
    exact rX.cutz (b_answerHeld_206 hG hX0 hrec ok hx) ⟨rfl, rfl, rfl, rfl, rfl, rfl, trivial⟩
def F_answerHeld_155 (N : Nat) (rec : Int32 → Int32 → Int32 → Int32 → Int32 → rS → Nat × Int32 × Int32 × Int32 × Int32 × rS) (x1 : Int32) (x2 : Int32) (x3 : Int32) (x4 : Int32) (x6 : Int32) (x8 : Int32) (x9 : Int32) (s1 : Int32) (S : rS) : Nat × Int32 × Int32 × Int32 × Int32 × rS := (F_answerHeld_163 N rec x1 x2 x3 x4 x6 x9 (f_writeHead N S s1 x8 x3 x4))
def O_answerHeld_155 (N : Nat) (rok : Int32 → Int32 → Int32 → Int32 → Int32 → rS → Prop) (x1 : Int32) (x2 : Int32) (x3 : Int32) (x4 : Int32) (x6 : Int32) (x8 : Int32) (x9 : Int32) (s1 : Int32) (S : rS) : Prop := (o_writeHead N S s1 x8 x3 x4) ∧ O_answerHeld_163 N rok x1 x2 x3 x4 x6 x9 (f_writeHead N S s1 x8 x3 x4)
set_option maxHeartbeats 4000000 in
theorem b_answerHeld_155 {G : zG} {E : rE} {S : rS} {N : Nat} {Q : Option Value → rS → Prop} {X : Nat × Int32 × Int32 × Int32 × Int32 × rS → Prop} (hG : zOK G) (hX0 : ∀ (x1 : Int32) (x2 : Int32) (x3 : Int32) (x4 : Int32) (S' : rS), X (0, x1, x2, x3, x4, S') → rX G E dX12_answerHeld mX12_answerHeld 227 [some (.ref E.1), some (.int x1), some (.int x2), some (.int x3), some (.int x4), none, none, none, none, none] [] S' Q) {rec : Int32 → Int32 → Int32 → Int32 → Int32 → rS → Nat × Int32 × Int32 × Int32 × Int32 × rS} {rok : Int32 → Int32 → Int32 → Int32 → Int32 → rS → Prop} (hrec : ∀ (x1 : Int32) (x2 : Int32) (x3 : Int32) (x4 : Int32) (x6 : Int32) (S : rS), rok x1 x2 x3 x4 x6 S → X (rec x1 x2 x3 x4 x6 S) → rX G E dX12_answerHeld mX12_answerHeld 72 [some (.ref E.1), some (.int x1), some (.int x2), some (.int x3), some (.int x4), none, some (.int x6), none, none, none] [] S Q) {x1 : Int32} {x2 : Int32} {x3 : Int32} {x4 : Int32} {x6 : Int32} {x8 : Int32} {x9 : Int32} {s1 : Int32} (ok : O_answerHeld_155 N rok x1 x2 x3 x4 x6 x8 x9 s1 S) (hx : X (F_answerHeld_155 N rec x1 x2 x3 x4 x6 x8 x9 s1 S)) : rX G E dX12_answerHeld mX12_answerHeld 155 [some (.ref E.1), some (.int x1), some (.int x2), some (.int x3), some (.int x4), none, some (.int x6), none, some (.int x8), some (.int x9)] [.int s1, .ref E.1] S Q := by
  unfold O_answerHeld_155 at ok
  unfold F_answerHeld_155 at hx
  refine r_iload dX12_answerHeld_155 rfl ?_
  refine r_iload_n dX12_answerHeld_157 rfl rfl ?_
  refine r_iload dX12_answerHeld_158 rfl ?_
  refine r_V4v (y' := mX12_writeHead) dX12_answerHeld_160 lX12_520 kX12_writeHead ⟨by decide, by decide⟩ rfl (Nat.le_of_ble_eq_true rfl) (rc_X12_writeHead hG ok.1) (fun S_160 h_160 => ?_)
  subst h_160
  have ok := ok.2
  exact rX.cutz (b_answerHeld_163 hG hX0 hrec ok hx) ⟨rfl, rfl, rfl, rfl, rfl, rfl, rfl, trivial⟩
def F_answerHeld_116 (N : Nat) (rec : Int32 → Int32 → Int32 → Int32 → Int32 → rS → Nat × Int32 × Int32 × Int32 × Int32 × rS) (x1 : Int32) (x2 : Int32) (x3 : Int32) (x4 : Int32) (x6 : Int32) (x7 : Int32) (s0 : Int32) (S : rS) : Nat × Int32 × Int32 × Int32 × Int32 × rS := (if (S.2.1 60 (f_voteAt N S x7 x1 x3 x4 s0).toNatClampNeg) = 0 then (F_answerHeld_221 N rec x1 x2 x3 x4 x6 S) else (if x7 = 0 then (F_answerHeld_155 N rec x1 x2 x3 x4 x6 s0 (f_voteAt N S x7 x1 x3 x4 s0) (nI 2) S) else (F_answerHeld_155 N rec x1 x2 x3 x4 x6 s0 (f_voteAt N S x7 x1 x3 x4 s0) (nI 3) S)))
def O_answerHeld_116 (N : Nat) (rok : Int32 → Int32 → Int32 → Int32 → Int32 → rS → Prop) (x1 : Int32) (x2 : Int32) (x3 : Int32) (x4 : Int32) (x6 : Int32) (x7 : Int32) (s0 : Int32) (S : rS) : Prop := (o_voteAt N S x7 x1 x3 x4 s0) ∧ (vp_in (f_voteAt N S x7 x1 x3 x4 s0) 10816) ∧ (((S.2.1 60 (f_voteAt N S x7 x1 x3 x4 s0).toNatClampNeg) = 0 → O_answerHeld_221 N rok x1 x2 x3 x4 x6 S) ∧ (¬ (S.2.1 60 (f_voteAt N S x7 x1 x3 x4 s0).toNatClampNeg) = 0 → ((x7 = 0 → O_answerHeld_155 N rok x1 x2 x3 x4 x6 s0 (f_voteAt N S x7 x1 x3 x4 s0) (nI 2) S) ∧ (¬ x7 = 0 → O_answerHeld_155 N rok x1 x2 x3 x4 x6 s0 (f_voteAt N S x7 x1 x3 x4 s0) (nI 3) S))))
set_option maxHeartbeats 4000000 in
theorem b_answerHeld_116 {G : zG} {E : rE} {S : rS} {N : Nat} {Q : Option Value → rS → Prop} {X : Nat × Int32 × Int32 × Int32 × Int32 × rS → Prop} (hG : zOK G) (hX0 : ∀ (x1 : Int32) (x2 : Int32) (x3 : Int32) (x4 : Int32) (S' : rS), X (0, x1, x2, x3, x4, S') → rX G E dX12_answerHeld mX12_answerHeld 227 [some (.ref E.1), some (.int x1), some (.int x2), some (.int x3), some (.int x4), none, none, none, none, none] [] S' Q) {rec : Int32 → Int32 → Int32 → Int32 → Int32 → rS → Nat × Int32 × Int32 × Int32 × Int32 × rS} {rok : Int32 → Int32 → Int32 → Int32 → Int32 → rS → Prop} (hrec : ∀ (x1 : Int32) (x2 : Int32) (x3 : Int32) (x4 : Int32) (x6 : Int32) (S : rS), rok x1 x2 x3 x4 x6 S → X (rec x1 x2 x3 x4 x6 S) → rX G E dX12_answerHeld mX12_answerHeld 72 [some (.ref E.1), some (.int x1), some (.int x2), some (.int x3), some (.int x4), none, some (.int x6), none, none, none] [] S Q) {x1 : Int32} {x2 : Int32} {x3 : Int32} {x4 : Int32} {x6 : Int32} {x7 : Int32} {s0 : Int32} (ok : O_answerHeld_116 N rok x1 x2 x3 x4 x6 x7 s0 S) (hx : X (F_answerHeld_116 N rec x1 x2 x3 x4 x6 x7 s0 S)) : rX G E dX12_answerHeld mX12_answerHeld 116 [some (.ref E.1), some (.int x1), some (.int x2), some (.int x3), some (.int x4), none, some (.int x6), some (.int x7), none, none] [.int s0] S Q := by
  unfold O_answerHeld_116 at ok
  unfold F_answerHeld_116 at hx
  refine r_istore_8 dX12_answerHeld_116 (by decide) rfl ?_
  refine r_iload dX12_answerHeld_118 rfl ?_
  refine r_iload_n dX12_answerHeld_120 rfl rfl ?_
  refine r_iload_n dX12_answerHeld_121 rfl rfl ?_
  refine r_iload dX12_answerHeld_122 rfl ?_
  refine r_iload dX12_answerHeld_124 rfl ?_
  refine r_S5i (y' := mX12_voteAt) dX12_answerHeld_126 lX12_470 kX12_voteAt ⟨by decide, by decide⟩ (Nat.le_of_ble_eq_true rfl) (rc_X12_voteAt hG ok.1) (fun v_126 S_126 h_126 => ?_)
  obtain ⟨rfl, hS_126⟩ := h_126
  have hS_126 := hS_126.symm
  subst hS_126
  have ok := ok.2
  refine r_istore_9 dX12_answerHeld_129 (by decide) rfl ?_
  refine r_aload_n dX12_answerHeld_131 rfl rfl ?_
  refine r_getA 60 fX12_357 (by decide) (by decide) dX12_answerHeld_132 ?_
  refine r_iload dX12_answerHeld_135 rfl ?_
  refine r_iald (by decide) (by decide) dX12_answerHeld_137 ok.1 ?_
  have ok := ok.2
  refine r_if_ne (tgt := 144) dX12_answerHeld_138 (by decide) (fun c_138 => ?_) (fun c_138 => ?_)
  · have ok := ok.2 c_138
    have hx := xif_n c_138 hx
    refine r_aload_n dX12_answerHeld_144 rfl rfl ?_
    refine r_iload dX12_answerHeld_145 rfl ?_
    refine r_if_eq (tgt := 154) dX12_answerHeld_147 (by decide) (fun c_147 => ?_) (fun c_147 => ?_)
    · have ok := ok.1 c_147
      have hx := xif_p c_147 hx
      refine r_iconst (v := nI 2) dX12_answerHeld_154 (by decide) ?_
      exact rX.cutz (b_answerHeld_155 hG hX0 hrec ok hx) ⟨rfl, rfl, rfl, rfl, rfl, rfl, rfl, rfl, trivial⟩
    · have ok := ok.2 c_147
      have hx := xif_n c_147 hx
      refine r_iconst (v := nI 3) dX12_answerHeld_150 (by decide) ?_
      refine r_goto (tgt := 155) dX12_answerHeld_151 (by decide) ?_
      exact rX.cutz (b_answerHeld_155 hG hX0 hrec ok hx) ⟨rfl, rfl, rfl, rfl, rfl, rfl, rfl, rfl, trivial⟩
  · have ok := ok.1 c_138
    have hx := xif_p c_138 hx
    refine r_goto (tgt := 221) dX12_answerHeld_141 (by decide) ?_
    exact rX.cutz (b_answerHeld_221 hG hX0 hrec ok hx) ⟨rfl, rfl, rfl, rfl, rfl, rfl, trivial⟩
def F_answerHeld_97 (N : Nat) (rec : Int32 → Int32 → Int32 → Int32 → Int32 → rS → Nat × Int32 × Int32 × Int32 × Int32 × rS) (x1 : Int32) (x2 : Int32) (x3 : Int32) (x4 : Int32) (x6 : Int32) (s0 : Int32) (S : rS) : Nat × Int32 × Int32 × Int32 × Int32 × rS := (if s0 = 0 then (F_answerHeld_116 N rec x1 x2 x3 x4 x6 s0 x6 S) else (F_answerHeld_116 N rec x1 x2 x3 x4 x6 s0 (x6 - (S.1 0)) S))
def O_answerHeld_97 (N : Nat) (rok : Int32 → Int32 → Int32 → Int32 → Int32 → rS → Prop) (x1 : Int32) (x2 : Int32) (x3 : Int32) (x4 : Int32) (x6 : Int32) (s0 : Int32) (S : rS) : Prop := ((s0 = 0 → O_answerHeld_116 N rok x1 x2 x3 x4 x6 s0 x6 S) ∧ (¬ s0 = 0 → O_answerHeld_116 N rok x1 x2 x3 x4 x6 s0 (x6 - (S.1 0)) S))
set_option maxHeartbeats 4000000 in
theorem b_answerHeld_97 {G : zG} {E : rE} {S : rS} {N : Nat} {Q : Option Value → rS → Prop} {X : Nat × Int32 × Int32 × Int32 × Int32 × rS → Prop} (hG : zOK G) (hX0 : ∀ (x1 : Int32) (x2 : Int32) (x3 : Int32) (x4 : Int32) (S' : rS), X (0, x1, x2, x3, x4, S') → rX G E dX12_answerHeld mX12_answerHeld 227 [some (.ref E.1), some (.int x1), some (.int x2), some (.int x3), some (.int x4), none, none, none, none, none] [] S' Q) {rec : Int32 → Int32 → Int32 → Int32 → Int32 → rS → Nat × Int32 × Int32 × Int32 × Int32 × rS} {rok : Int32 → Int32 → Int32 → Int32 → Int32 → rS → Prop} (hrec : ∀ (x1 : Int32) (x2 : Int32) (x3 : Int32) (x4 : Int32) (x6 : Int32) (S : rS), rok x1 x2 x3 x4 x6 S → X (rec x1 x2 x3 x4 x6 S) → rX G E dX12_answerHeld mX12_answerHeld 72 [some (.ref E.1), some (.int x1), some (.int x2), some (.int x3), some (.int x4), none, some (.int x6), none, none, none] [] S Q) {x1 : Int32} {x2 : Int32} {x3 : Int32} {x4 : Int32} {x6 : Int32} {s0 : Int32} (ok : O_answerHeld_97 N rok x1 x2 x3 x4 x6 s0 S) (hx : X (F_answerHeld_97 N rec x1 x2 x3 x4 x6 s0 S)) : rX G E dX12_answerHeld mX12_answerHeld 97 [some (.ref E.1), some (.int x1), some (.int x2), some (.int x3), some (.int x4), none, some (.int x6), none, none, none] [.int s0] S Q := by
  unfold O_answerHeld_97 at ok
  unfold F_answerHeld_97 at hx
  refine r_istore_7 dX12_answerHeld_97 (by decide) rfl ?_
  refine r_iload dX12_answerHeld_99 rfl ?_
  refine r_if_eq (tgt := 114) dX12_answerHeld_101 (by decide) (fun c_101 => ?_) (fun c_101 => ?_)
  · have ok := ok.1 c_101
    have hx := xif_p c_101 hx
    refine r_iload dX12_answerHeld_114 rfl ?_
    exact rX.cutz (b_answerHeld_116 hG hX0 hrec ok hx) ⟨rfl, rfl, rfl, rfl, rfl, rfl, rfl, trivial⟩
  · have ok := ok.2 c_101
    have hx := xif_n c_101 hx
    refine r_iload dX12_answerHeld_104 rfl ?_
    refine r_aload_n dX12_answerHeld_106 rfl rfl ?_
    refine r_getI 0 fX12_219 (by decide) (by decide) dX12_answerHeld_107 ?_
    refine r_isub dX12_answerHeld_110 ?_
    refine r_goto (tgt := 116) dX12_answerHeld_111 (by decide) ?_
    exact rX.cutz (b_answerHeld_116 hG hX0 hrec ok hx) ⟨rfl, rfl, rfl, rfl, rfl, rfl, rfl, trivial⟩
def B_answerHeld_72 (N : Nat) (rec : Int32 → Int32 → Int32 → Int32 → Int32 → rS → Nat × Int32 × Int32 × Int32 × Int32 × rS) (x1 : Int32) (x2 : Int32) (x3 : Int32) (x4 : Int32) (x6 : Int32) (S : rS) : Nat × Int32 × Int32 × Int32 × Int32 × rS := (if ((nI 2) * (S.1 0)) ≤ x6 then (0, x1, x2, x3, x4, S) else (if x6 < (S.1 0) then (F_answerHeld_97 N rec x1 x2 x3 x4 x6 (nI 0) S) else (F_answerHeld_97 N rec x1 x2 x3 x4 x6 (nI 1) S)))
def OB_answerHeld_72 (N : Nat) (rok : Int32 → Int32 → Int32 → Int32 → Int32 → rS → Prop) (x1 : Int32) (x2 : Int32) (x3 : Int32) (x4 : Int32) (x6 : Int32) (S : rS) : Prop := ((((nI 2) * (S.1 0)) ≤ x6 → True) ∧ (¬ ((nI 2) * (S.1 0)) ≤ x6 → ((x6 < (S.1 0) → O_answerHeld_97 N rok x1 x2 x3 x4 x6 (nI 0) S) ∧ (¬ x6 < (S.1 0) → O_answerHeld_97 N rok x1 x2 x3 x4 x6 (nI 1) S))))
set_option maxHeartbeats 4000000 in
theorem bb_answerHeld_72 {G : zG} {E : rE} {S : rS} {N : Nat} {Q : Option Value → rS → Prop} {X : Nat × Int32 × Int32 × Int32 × Int32 × rS → Prop} (hG : zOK G) (hX0 : ∀ (x1 : Int32) (x2 : Int32) (x3 : Int32) (x4 : Int32) (S' : rS), X (0, x1, x2, x3, x4, S') → rX G E dX12_answerHeld mX12_answerHeld 227 [some (.ref E.1), some (.int x1), some (.int x2), some (.int x3), some (.int x4), none, none, none, none, none] [] S' Q) {rec : Int32 → Int32 → Int32 → Int32 → Int32 → rS → Nat × Int32 × Int32 × Int32 × Int32 × rS} {rok : Int32 → Int32 → Int32 → Int32 → Int32 → rS → Prop} (hrec : ∀ (x1 : Int32) (x2 : Int32) (x3 : Int32) (x4 : Int32) (x6 : Int32) (S : rS), rok x1 x2 x3 x4 x6 S → X (rec x1 x2 x3 x4 x6 S) → rX G E dX12_answerHeld mX12_answerHeld 72 [some (.ref E.1), some (.int x1), some (.int x2), some (.int x3), some (.int x4), none, some (.int x6), none, none, none] [] S Q) {x1 : Int32} {x2 : Int32} {x3 : Int32} {x4 : Int32} {x6 : Int32} (ok : OB_answerHeld_72 N rok x1 x2 x3 x4 x6 S) (hx : X (B_answerHeld_72 N rec x1 x2 x3 x4 x6 S)) : rX G E dX12_answerHeld mX12_answerHeld 72 [some (.ref E.1), some (.int x1), some (.int x2), some (.int x3), some (.int x4), none, some (.int x6), none, none, none] [] S Q := by
  unfold OB_answerHeld_72 at ok
  unfold B_answerHeld_72 at hx
  refine r_iload dX12_answerHeld_72 rfl ?_
  refine r_iconst (v := nI 2) dX12_answerHeld_74 (by decide) ?_
  refine r_aload_n dX12_answerHeld_75 rfl rfl ?_
  refine r_getI 0 fX12_219 (by decide) (by decide) dX12_answerHeld_76 ?_
  refine r_imul dX12_answerHeld_79 ?_
  refine r_icmp_ge (tgt := 227) dX12_answerHeld_80 (by decide) (fun c_80 => ?_) (fun c_80 => ?_)
  · have ok := ok.1 c_80
    have hx := xif_p c_80 hx
    exact rX.cutz (hX0 _ _ _ _ S hx) ⟨rfl, rfl, rfl, rfl, rfl, trivial⟩
  · have ok := ok.2 c_80
    have hx := xif_n c_80 hx
    refine r_iload dX12_answerHeld_83 rfl ?_
    refine r_aload_n dX12_answerHeld_85 rfl rfl ?_
    refine r_getI 0 fX12_219 (by decide) (by decide) dX12_answerHeld_86 ?_
    refine r_icmp_lt (tgt := 96) dX12_answerHeld_89 (by decide) (fun c_89 => ?_) (fun c_89 => ?_)
    · have ok := ok.1 c_89
      have hx := xif_p c_89 hx
      refine r_iconst (v := nI 0) dX12_answerHeld_96 (by decide) ?_
      exact rX.cutz (b_answerHeld_97 hG hX0 hrec ok hx) ⟨rfl, rfl, rfl, rfl, rfl, rfl, trivial⟩
    · have ok := ok.2 c_89
      have hx := xif_n c_89 hx
      refine r_iconst (v := nI 1) dX12_answerHeld_92 (by decide) ?_
      refine r_goto (tgt := 97) dX12_answerHeld_93 (by decide) ?_
      exact rX.cutz (b_answerHeld_97 hG hX0 hrec ok hx) ⟨rfl, rfl, rfl, rfl, rfl, rfl, trivial⟩
def L_answerHeld_72 (N : Nat) : Nat → Int32 → Int32 → Int32 → Int32 → Int32 → rS → Nat × Int32 × Int32 × Int32 × Int32 × rS
  | 0, x1, x2, x3, x4, x6, S => (0, 0, 0, 0, 0, S)
  | n + 1, x1, x2, x3, x4, x6, S => B_answerHeld_72 N (L_answerHeld_72 N n) x1 x2 x3 x4 x6 S
def OL_answerHeld_72 (N : Nat) : Nat → Int32 → Int32 → Int32 → Int32 → Int32 → rS → Prop
  | 0, _, _, _, _, _, _ => False
  | n + 1, x1, x2, x3, x4, x6, S => OB_answerHeld_72 N (OL_answerHeld_72 N n) x1 x2 x3 x4 x6 S
set_option maxHeartbeats 4000000 in
theorem l_answerHeld_72 {G : zG} {E : rE} {N : Nat} {Q : Option Value → rS → Prop} {X : Nat × Int32 × Int32 × Int32 × Int32 × rS → Prop} (hG : zOK G) (hX0 : ∀ (x1 : Int32) (x2 : Int32) (x3 : Int32) (x4 : Int32) (S' : rS), X (0, x1, x2, x3, x4, S') → rX G E dX12_answerHeld mX12_answerHeld 227 [some (.ref E.1), some (.int x1), some (.int x2), some (.int x3), some (.int x4), none, none, none, none, none] [] S' Q) : ∀ (n : Nat) (x1 : Int32) (x2 : Int32) (x3 : Int32) (x4 : Int32) (x6 : Int32) (S : rS), OL_answerHeld_72 N n x1 x2 x3 x4 x6 S → X (L_answerHeld_72 N n x1 x2 x3 x4 x6 S) → rX G E dX12_answerHeld mX12_answerHeld 72 [some (.ref E.1), some (.int x1), some (.int x2), some (.int x3), some (.int x4), none, some (.int x6), none, none, none] [] S Q := by
  intro n
  induction n with
  | zero => intro x1 x2 x3 x4 x6 S ok; exact absurd ok id
  | succ n ih =>
    intro x1 x2 x3 x4 x6 S ok hx
    exact bb_answerHeld_72 hG hX0 (rec := L_answerHeld_72 N n) (rok := OL_answerHeld_72 N n) (fun x1 x2 x3 x4 x6 S ok hx => ih x1 x2 x3 x4 x6 S ok hx) ok hx
def A_answerHeld_72 (N : Nat) (rec : Int32 → Int32 → Int32 → Int32 → rS → Nat × rS) (x1 : Int32) (x2 : Int32) (x3 : Int32) (x4 : Int32) (x6 : Int32) (S : rS) (z : Nat × Int32 × Int32 × Int32 × Int32 × rS) : Nat × rS := (F_answerHeld_227 N rec (z.2.1) (z.2.2.1) (z.2.2.2.1) (z.2.2.2.2.1) z.2.2.2.2.2)
def OA_answerHeld_72 (N : Nat) (rok : Int32 → Int32 → Int32 → Int32 → rS → Prop) (x1 : Int32) (x2 : Int32) (x3 : Int32) (x4 : Int32) (x6 : Int32) (S : rS) (z : Nat × Int32 × Int32 × Int32 × Int32 × rS) : Prop := O_answerHeld_227 N rok (z.2.1) (z.2.2.1) (z.2.2.2.1) (z.2.2.2.2.1) z.2.2.2.2.2
set_option maxHeartbeats 4000000 in
theorem c_answerHeld_72 {G : zG} {E : rE} {S : rS} {N : Nat} {Q : Option Value → rS → Prop} {X : Nat × rS → Prop} (hG : zOK G) (hX0 : ∀ (S' : rS), X (0, S') → rX G E dX12_answerHeld mX12_answerHeld 233 [none, none, none, none, none, none, none, none, none, none] [] S' Q) {rec : Int32 → Int32 → Int32 → Int32 → rS → Nat × rS} {rok : Int32 → Int32 → Int32 → Int32 → rS → Prop} (hrec : ∀ (x1 : Int32) (x2 : Int32) (x3 : Int32) (x4 : Int32) (S : rS), rok x1 x2 x3 x4 S → X (rec x1 x2 x3 x4 S) → rX G E dX12_answerHeld mX12_answerHeld 10 [some (.ref E.1), some (.int x1), some (.int x2), some (.int x3), some (.int x4), none, none, none, none, none] [] S Q) {x1 : Int32} {x2 : Int32} {x3 : Int32} {x4 : Int32} {x6 : Int32} (ok : OL_answerHeld_72 N N x1 x2 x3 x4 x6 S ∧ OA_answerHeld_72 N rok x1 x2 x3 x4 x6 S (L_answerHeld_72 N N x1 x2 x3 x4 x6 S)) (hx : X (A_answerHeld_72 N rec x1 x2 x3 x4 x6 S (L_answerHeld_72 N N x1 x2 x3 x4 x6 S))) : rX G E dX12_answerHeld mX12_answerHeld 72 [some (.ref E.1), some (.int x1), some (.int x2), some (.int x3), some (.int x4), none, some (.int x6), none, none, none] [] S Q := by
  refine l_answerHeld_72 hG ?_ N x1 x2 x3 x4 x6 S ok.1 (X := fun z => OA_answerHeld_72 N rok x1 x2 x3 x4 x6 S z ∧ X (A_answerHeld_72 N rec x1 x2 x3 x4 x6 S z)) ⟨ok.2, hx⟩
  · intro x1' x2' x3' x4' S' hz
    obtain ⟨ok, hx⟩ := hz
    unfold OA_answerHeld_72 at ok
    unfold A_answerHeld_72 at hx
    exact rX.cutz (b_answerHeld_227 hG hX0 hrec ok hx) ⟨rfl, rfl, rfl, rfl, rfl, trivial⟩
def F_answerHeld_69 (N : Nat) (rec : Int32 → Int32 → Int32 → Int32 → rS → Nat × rS) (x1 : Int32) (x2 : Int32) (x3 : Int32) (x4 : Int32) (S : rS) : Nat × rS := (A_answerHeld_72 N rec x1 x2 x3 x4 (nI 0) S (L_answerHeld_72 N N x1 x2 x3 x4 (nI 0) S))
def O_answerHeld_69 (N : Nat) (rok : Int32 → Int32 → Int32 → Int32 → rS → Prop) (x1 : Int32) (x2 : Int32) (x3 : Int32) (x4 : Int32) (S : rS) : Prop := (OL_answerHeld_72 N N x1 x2 x3 x4 (nI 0) S ∧ OA_answerHeld_72 N rok x1 x2 x3 x4 (nI 0) S (L_answerHeld_72 N N x1 x2 x3 x4 (nI 0) S))
set_option maxHeartbeats 4000000 in
theorem b_answerHeld_69 {G : zG} {E : rE} {S : rS} {N : Nat} {Q : Option Value → rS → Prop} {X : Nat × rS → Prop} (hG : zOK G) (hX0 : ∀ (S' : rS), X (0, S') → rX G E dX12_answerHeld mX12_answerHeld 233 [none, none, none, none, none, none, none, none, none, none] [] S' Q) {rec : Int32 → Int32 → Int32 → Int32 → rS → Nat × rS} {rok : Int32 → Int32 → Int32 → Int32 → rS → Prop} (hrec : ∀ (x1 : Int32) (x2 : Int32) (x3 : Int32) (x4 : Int32) (S : rS), rok x1 x2 x3 x4 S → X (rec x1 x2 x3 x4 S) → rX G E dX12_answerHeld mX12_answerHeld 10 [some (.ref E.1), some (.int x1), some (.int x2), some (.int x3), some (.int x4), none, none, none, none, none] [] S Q) {x1 : Int32} {x2 : Int32} {x3 : Int32} {x4 : Int32} (ok : O_answerHeld_69 N rok x1 x2 x3 x4 S) (hx : X (F_answerHeld_69 N rec x1 x2 x3 x4 S)) : rX G E dX12_answerHeld mX12_answerHeld 69 [some (.ref E.1), some (.int x1), some (.int x2), some (.int x3), some (.int x4), none, none, none, none, none] [] S Q := by
  unfold O_answerHeld_69 at ok
  unfold F_answerHeld_69 at hx
  refine r_iconst (v := nI 0) dX12_answerHeld_69 (by decide) ?_
  refine r_istore_6 dX12_answerHeld_70 (by decide) rfl ?_
  exact rX.cutz (c_answerHeld_72 hG hX0 hrec ok hx) ⟨rfl, rfl, rfl, rfl, rfl, rfl, trivial⟩
def F_answerHeld_68 (N : Nat) (rec : Int32 → Int32 → Int32 → Int32 → rS → Nat × rS) (x1 : Int32) (x2 : Int32) (x3 : Int32) (x4 : Int32) (s0 : Int32) (S : rS) : Nat × rS := (F_answerHeld_69 N rec x1 x2 x3 x4 S)
def O_answerHeld_68 (N : Nat) (rok : Int32 → Int32 → Int32 → Int32 → rS → Prop) (x1 : Int32) (x2 : Int32) (x3 : Int32) (x4 : Int32) (s0 : Int32) (S : rS) : Prop := O_answerHeld_69 N rok x1 x2 x3 x4 S
set_option maxHeartbeats 4000000 in
theorem b_answerHeld_68 {G : zG} {E : rE} {S : rS} {N : Nat} {Q : Option Value → rS → Prop} {X : Nat × rS → Prop} (hG : zOK G) (hX0 : ∀ (S' : rS), X (0, S') → rX G E dX12_answerHeld mX12_answerHeld 233 [none, none, none, none, none, none, none, none, none, none] [] S' Q) {rec : Int32 → Int32 → Int32 → Int32 → rS → Nat × rS} {rok : Int32 → Int32 → Int32 → Int32 → rS → Prop} (hrec : ∀ (x1 : Int32) (x2 : Int32) (x3 : Int32) (x4 : Int32) (S : rS), rok x1 x2 x3 x4 S → X (rec x1 x2 x3 x4 S) → rX G E dX12_answerHeld mX12_answerHeld 10 [some (.ref E.1), some (.int x1), some (.int x2), some (.int x3), some (.int x4), none, none, none, none, none] [] S Q) {x1 : Int32} {x2 : Int32} {x3 : Int32} {x4 : Int32} {s0 : Int32} (ok : O_answerHeld_68 N rok x1 x2 x3 x4 s0 S) (hx : X (F_answerHeld_68 N rec x1 x2 x3 x4 s0 S)) : rX G E dX12_answerHeld mX12_answerHeld 68 [some (.ref E.1), some (.int x1), some (.int x2), some (.int x3), some (.int x4), none, none, none, none, none] [.int s0] S Q := by
  unfold O_answerHeld_68 at ok
  unfold F_answerHeld_68 at hx
  refine r_pop dX12_answerHeld_68 rfl ?_
  exact rX.cutz (b_answerHeld_69 hG hX0 hrec ok hx) ⟨rfl, rfl, rfl, rfl, rfl, trivial⟩
def F_answerHeld_62 (N : Nat) (rec : Int32 → Int32 → Int32 → Int32 → rS → Nat × rS) (x1 : Int32) (x2 : Int32) (x3 : Int32) (x4 : Int32) (S : rS) : Nat × rS := (F_answerHeld_68 N rec x1 x2 x3 x4 ((f_fly N S x1 x2).1) (f_fly N S x1 x2).2)
def O_answerHeld_62 (N : Nat) (rok : Int32 → Int32 → Int32 → Int32 → rS → Prop) (x1 : Int32) (x2 : Int32) (x3 : Int32) (x4 : Int32) (S : rS) : Prop := (o_fly N S x1 x2) ∧ O_answerHeld_68 N rok x1 x2 x3 x4 ((f_fly N S x1 x2).1) (f_fly N S x1 x2).2
set_option maxHeartbeats 4000000 in
theorem b_answerHeld_62 {G : zG} {E : rE} {S : rS} {N : Nat} {Q : Option Value → rS → Prop} {X : Nat × rS → Prop} (hG : zOK G) (hX0 : ∀ (S' : rS), X (0, S') → rX G E dX12_answerHeld mX12_answerHeld 233 [none, none, none, none, none, none, none, none, none, none] [] S' Q) {rec : Int32 → Int32 → Int32 → Int32 → rS → Nat × rS} {rok : Int32 → Int32 → Int32 → Int32 → rS → Prop} (hrec : ∀ (x1 : Int32) (x2 : Int32) (x3 : Int32) (x4 : Int32) (S : rS), rok x1 x2 x3 x4 S → X (rec x1 x2 x3 x4 S) → rX G E dX12_answerHeld mX12_answerHeld 10 [some (.ref E.1), some (.int x1), some (.int x2), some (.int x3), some (.int x4), none, none, none, none, none] [] S Q) {x1 : Int32} {x2 : Int32} {x3 : Int32} {x4 : Int32} (ok : O_answerHeld_62 N rok x1 x2 x3 x4 S) (hx : X (F_answerHeld_62 N rec x1 x2 x3 x4 S)) : rX G E dX12_answerHeld mX12_answerHeld 62 [some (.ref E.1), some (.int x1), some (.int x2), some (.int x3), some (.int x4), none, none, none, none, none] [] S Q := by
  unfold O_answerHeld_62 at ok
  unfold F_answerHeld_62 at hx
  refine r_aload_n dX12_answerHeld_62 rfl rfl ?_
  refine r_iload_n dX12_answerHeld_63 rfl rfl ?_
  refine r_iload_n dX12_answerHeld_64 rfl rfl ?_
  refine r_V2i (y' := mX12_fly) dX12_answerHeld_65 lX12_222 kX12_fly ⟨by decide, by decide⟩ rfl (Nat.le_of_ble_eq_true rfl) (rc_X12_fly hG ok.1) (fun v_65 S_65 h_65 => ?_)
  obtain ⟨rfl, hS_65⟩ := h_65
  have hS_65 := hS_65.symm
  subst hS_65
  have ok := ok.2
  exact rX.cutz (b_answerHeld_68 hG hX0 hrec ok hx) ⟨rfl, rfl, rfl, rfl, rfl, trivial⟩
def B_answerHeld_10 (N : Nat) (rec : Int32 → Int32 → Int32 → Int32 → rS → Nat × rS) (x1 : Int32) (x2 : Int32) (x3 : Int32) (x4 : Int32) (S : rS) : Nat × rS := (if (nI 16) ≤ x4 then (0, S) else (if (f_isThere N S ((nI 0) + (f_heldAt N S x1 x3 x4))) = 0 then (F_answerHeld_69 N rec x1 x2 x3 x4 S) else (F_answerHeld_62 N rec x1 x2 x3 x4 (f_writeProposal N S (f_proposer N S x3 x4) x3 x4 (S.2.1 59 (((nI 0) + (f_heldAt N S x1 x3 x4)) - (nI 0)).toNatClampNeg) ((nI 0) + (f_heldAt N S x1 x3 x4))))))
def OB_answerHeld_10 (N : Nat) (rok : Int32 → Int32 → Int32 → Int32 → rS → Prop) (x1 : Int32) (x2 : Int32) (x3 : Int32) (x4 : Int32) (S : rS) : Prop := (((nI 16) ≤ x4 → True) ∧ (¬ (nI 16) ≤ x4 → (o_heldAt N S x1 x3 x4) ∧ (o_isThere N S ((nI 0) + (f_heldAt N S x1 x3 x4))) ∧ (((f_isThere N S ((nI 0) + (f_heldAt N S x1 x3 x4))) = 0 → O_answerHeld_69 N rok x1 x2 x3 x4 S) ∧ (¬ (f_isThere N S ((nI 0) + (f_heldAt N S x1 x3 x4))) = 0 → (o_proposer N S x3 x4) ∧ (vp_in (((nI 0) + (f_heldAt N S x1 x3 x4)) - (nI 0)) 416) ∧ (o_writeProposal N S (f_proposer N S x3 x4) x3 x4 (S.2.1 59 (((nI 0) + (f_heldAt N S x1 x3 x4)) - (nI 0)).toNatClampNeg) ((nI 0) + (f_heldAt N S x1 x3 x4))) ∧ O_answerHeld_62 N rok x1 x2 x3 x4 (f_writeProposal N S (f_proposer N S x3 x4) x3 x4 (S.2.1 59 (((nI 0) + (f_heldAt N S x1 x3 x4)) - (nI 0)).toNatClampNeg) ((nI 0) + (f_heldAt N S x1 x3 x4)))))))
set_option maxHeartbeats 4000000 in
theorem bb_answerHeld_10 {G : zG} {E : rE} {S : rS} {N : Nat} {Q : Option Value → rS → Prop} {X : Nat × rS → Prop} (hG : zOK G) (hX0 : ∀ (S' : rS), X (0, S') → rX G E dX12_answerHeld mX12_answerHeld 233 [none, none, none, none, none, none, none, none, none, none] [] S' Q) {rec : Int32 → Int32 → Int32 → Int32 → rS → Nat × rS} {rok : Int32 → Int32 → Int32 → Int32 → rS → Prop} (hrec : ∀ (x1 : Int32) (x2 : Int32) (x3 : Int32) (x4 : Int32) (S : rS), rok x1 x2 x3 x4 S → X (rec x1 x2 x3 x4 S) → rX G E dX12_answerHeld mX12_answerHeld 10 [some (.ref E.1), some (.int x1), some (.int x2), some (.int x3), some (.int x4), none, none, none, none, none] [] S Q) {x1 : Int32} {x2 : Int32} {x3 : Int32} {x4 : Int32} (ok : OB_answerHeld_10 N rok x1 x2 x3 x4 S) (hx : X (B_answerHeld_10 N rec x1 x2 x3 x4 S)) : rX G E dX12_answerHeld mX12_answerHeld 10 [some (.ref E.1), some (.int x1), some (.int x2), some (.int x3), some (.int x4), none, none, none, none, none] [] S Q := by
  unfold OB_answerHeld_10 at ok
  unfold B_answerHeld_10 at hx
  refine r_iload dX12_answerHeld_10 rfl ?_
  refine r_bipush (v := nI 16) dX12_answerHeld_12 (by decide) ?_
  refine r_icmp_ge (tgt := 233) dX12_answerHeld_14 (by decide) (fun c_14 => ?_) (fun c_14 => ?_)
  · have ok := ok.1 c_14
    have hx := xif_p c_14 hx
    exact rX.cutz (hX0 S hx) trivial
  · have ok := ok.2 c_14
    have hx := xif_n c_14 hx
    refine r_iconst (v := nI 0) dX12_answerHeld_17 (by decide) ?_
    refine r_iload_n dX12_answerHeld_18 rfl rfl ?_
    refine r_iload_n dX12_answerHeld_19 rfl rfl ?_
    refine r_iload dX12_answerHeld_20 rfl ?_
    refine r_S3i (y' := mX12_heldAt) dX12_answerHeld_22 lX12_466 kX12_heldAt ⟨by decide, by decide⟩ (Nat.le_of_ble_eq_true rfl) (rc_X12_heldAt hG ok.1) (fun v_22 S_22 h_22 => ?_)
    obtain ⟨rfl, hS_22⟩ := h_22
    have hS_22 := hS_22.symm
    subst hS_22
    have ok := ok.2
    refine r_iadd dX12_answerHeld_25 ?_
    refine r_istore_5 dX12_answerHeld_26 (by decide) rfl ?_
    refine r_aload_n dX12_answerHeld_28 rfl rfl ?_
    refine r_iload dX12_answerHeld_29 rfl ?_
    refine r_V1i (y' := mX12_isThere) dX12_answerHeld_31 lX12_63 kX12_isThere ⟨by decide, by decide⟩ rfl (Nat.le_of_ble_eq_true rfl) (rc_X12_isThere hG ok.1) (fun v_31 S_31 h_31 => ?_)
    obtain ⟨rfl, hS_31⟩ := h_31
    have hS_31 := hS_31.symm
    subst hS_31
    have ok := ok.2
    refine r_if_eq (tgt := 69) dX12_answerHeld_34 (by decide) (fun c_34 => ?_) (fun c_34 => ?_)
    · have ok := ok.1 c_34
      have hx := xif_p c_34 hx
      exact rX.cutz (b_answerHeld_69 hG hX0 hrec ok hx) ⟨rfl, rfl, rfl, rfl, rfl, trivial⟩
    · have ok := ok.2 c_34
      have hx := xif_n c_34 hx
      refine r_aload_n dX12_answerHeld_37 rfl rfl ?_
      refine r_aload_n dX12_answerHeld_38 rfl rfl ?_
      refine r_iload_n dX12_answerHeld_39 rfl rfl ?_
      refine r_iload dX12_answerHeld_40 rfl ?_
      refine r_V2i (y' := mX12_proposer) dX12_answerHeld_42 lX12_575 kX12_proposer ⟨by decide, by decide⟩ rfl (Nat.le_of_ble_eq_true rfl) (rc_X12_proposer hG ok.1) (fun v_42 S_42 h_42 => ?_)
      obtain ⟨rfl, hS_42⟩ := h_42
      have hS_42 := hS_42.symm
      subst hS_42
      have ok := ok.2
      refine r_iload_n dX12_answerHeld_45 rfl rfl ?_
      refine r_iload dX12_answerHeld_46 rfl ?_
      refine r_aload_n dX12_answerHeld_48 rfl rfl ?_
      refine r_getA 59 fX12_354 (by decide) (by decide) dX12_answerHeld_49 ?_
      refine r_iload dX12_answerHeld_52 rfl ?_
      refine r_iconst (v := nI 0) dX12_answerHeld_54 (by decide) ?_
      refine r_isub dX12_answerHeld_55 ?_
      refine r_iald (by decide) (by decide) dX12_answerHeld_56 ok.1 ?_
      have ok := ok.2
      refine r_iload dX12_answerHeld_57 rfl ?_
      refine r_V5v (y' := mX12_writeProposal) dX12_answerHeld_59 lX12_527 kX12_writeProposal ⟨by decide, by decide⟩ rfl (Nat.le_of_ble_eq_true rfl) (rc_X12_writeProposal hG ok.1) (fun S_59 h_59 => ?_)
      subst h_59
      have ok := ok.2
      exact rX.cutz (b_answerHeld_62 hG hX0 hrec ok hx) ⟨rfl, rfl, rfl, rfl, rfl, trivial⟩
def L_answerHeld_10 (N : Nat) : Nat → Int32 → Int32 → Int32 → Int32 → rS → Nat × rS
  | 0, x1, x2, x3, x4, S => (0, S)
  | n + 1, x1, x2, x3, x4, S => B_answerHeld_10 N (L_answerHeld_10 N n) x1 x2 x3 x4 S
def OL_answerHeld_10 (N : Nat) : Nat → Int32 → Int32 → Int32 → Int32 → rS → Prop
  | 0, _, _, _, _, _ => False
  | n + 1, x1, x2, x3, x4, S => OB_answerHeld_10 N (OL_answerHeld_10 N n) x1 x2 x3 x4 S
set_option maxHeartbeats 4000000 in
theorem l_answerHeld_10 {G : zG} {E : rE} {N : Nat} {Q : Option Value → rS → Prop} {X : Nat × rS → Prop} (hG : zOK G) (hX0 : ∀ (S' : rS), X (0, S') → rX G E dX12_answerHeld mX12_answerHeld 233 [none, none, none, none, none, none, none, none, none, none] [] S' Q) : ∀ (n : Nat) (x1 : Int32) (x2 : Int32) (x3 : Int32) (x4 : Int32) (S : rS), OL_answerHeld_10 N n x1 x2 x3 x4 S → X (L_answerHeld_10 N n x1 x2 x3 x4 S) → rX G E dX12_answerHeld mX12_answerHeld 10 [some (.ref E.1), some (.int x1), some (.int x2), some (.int x3), some (.int x4), none, none, none, none, none] [] S Q := by
  intro n
  induction n with
  | zero => intro x1 x2 x3 x4 S ok; exact absurd ok id
  | succ n ih =>
    intro x1 x2 x3 x4 S ok hx
    exact bb_answerHeld_10 hG hX0 (rec := L_answerHeld_10 N n) (rok := OL_answerHeld_10 N n) (fun x1 x2 x3 x4 S ok hx => ih x1 x2 x3 x4 S ok hx) ok hx
def A_answerHeld_10 (N : Nat) (x1 : Int32) (x2 : Int32) (x3 : Int32) (x4 : Int32) (S : rS) (z : Nat × rS) : rS := (F_answerHeld_233 N z.2)
def OA_answerHeld_10 (N : Nat) (x1 : Int32) (x2 : Int32) (x3 : Int32) (x4 : Int32) (S : rS) (z : Nat × rS) : Prop := O_answerHeld_233 N z.2
set_option maxHeartbeats 4000000 in
theorem c_answerHeld_10 {G : zG} {E : rE} {S : rS} {N : Nat} {Q : Option Value → rS → Prop} {X : rS → Prop} (hG : zOK G) (hR : ∀ S', X S' → Q none S') {x1 : Int32} {x2 : Int32} {x3 : Int32} {x4 : Int32} (ok : OL_answerHeld_10 N N x1 x2 x3 x4 S ∧ OA_answerHeld_10 N x1 x2 x3 x4 S (L_answerHeld_10 N N x1 x2 x3 x4 S)) (hx : X (A_answerHeld_10 N x1 x2 x3 x4 S (L_answerHeld_10 N N x1 x2 x3 x4 S))) : rX G E dX12_answerHeld mX12_answerHeld 10 [some (.ref E.1), some (.int x1), some (.int x2), some (.int x3), some (.int x4), none, none, none, none, none] [] S Q := by
  refine l_answerHeld_10 hG ?_ N x1 x2 x3 x4 S ok.1 (X := fun z => OA_answerHeld_10 N x1 x2 x3 x4 S z ∧ X (A_answerHeld_10 N x1 x2 x3 x4 S z)) ⟨ok.2, hx⟩
  · intro S' hz
    obtain ⟨ok, hx⟩ := hz
    unfold OA_answerHeld_10 at ok
    unfold A_answerHeld_10 at hx
    exact rX.cutz (b_answerHeld_233 hG hR ok hx) trivial
def F_answerHeld_0 (N : Nat) (x1 : Int32) (x2 : Int32) (S : rS) : rS := (A_answerHeld_10 N x1 x2 (S.2.1 44 x1.toNatClampNeg) (nI 0) S (L_answerHeld_10 N N x1 x2 (S.2.1 44 x1.toNatClampNeg) (nI 0) S))
def O_answerHeld_0 (N : Nat) (x1 : Int32) (x2 : Int32) (S : rS) : Prop := (vp_in x1 13) ∧ (OL_answerHeld_10 N N x1 x2 (S.2.1 44 x1.toNatClampNeg) (nI 0) S ∧ OA_answerHeld_10 N x1 x2 (S.2.1 44 x1.toNatClampNeg) (nI 0) S (L_answerHeld_10 N N x1 x2 (S.2.1 44 x1.toNatClampNeg) (nI 0) S))
set_option maxHeartbeats 4000000 in
theorem b_answerHeld_0 {G : zG} {E : rE} {S : rS} {N : Nat} {Q : Option Value → rS → Prop} {X : rS → Prop} (hG : zOK G) (hR : ∀ S', X S' → Q none S') {x1 : Int32} {x2 : Int32} (ok : O_answerHeld_0 N x1 x2 S) (hx : X (F_answerHeld_0 N x1 x2 S)) : rX G E dX12_answerHeld mX12_answerHeld 0 [some (.ref E.1), some (.int x1), some (.int x2), none, none, none, none, none, none, none] [] S Q := by
  unfold O_answerHeld_0 at ok
  unfold F_answerHeld_0 at hx
  refine r_aload_n dX12_answerHeld_0 rfl rfl ?_
  refine r_getA 44 fX12_309 (by decide) (by decide) dX12_answerHeld_1 ?_
  refine r_iload_n dX12_answerHeld_4 rfl rfl ?_
  refine r_iald (by decide) (by decide) dX12_answerHeld_5 ok.1 ?_
  have ok := ok.2
  refine r_istore_3 dX12_answerHeld_6 (by decide) rfl ?_
  refine r_iconst (v := nI 0) dX12_answerHeld_7 (by decide) ?_
  refine r_istore_4 dX12_answerHeld_8 (by decide) rfl ?_
  exact rX.cutz (c_answerHeld_10 hG hR ok hx) ⟨rfl, rfl, rfl, rfl, rfl, trivial⟩
def f_answerHeld (N : Nat) (S : rS) (x1 : Int32) (x2 : Int32) : rS := F_answerHeld_0 N x1 x2 S
def o_answerHeld (N : Nat) (S : rS) (x1 : Int32) (x2 : Int32) : Prop := O_answerHeld_0 N x1 x2 S
set_option maxHeartbeats 4000000 in
theorem rc_X12_answerHeld {G : zG} {E : rE} {S : rS} {N : Nat} (hG : zOK G) {x1 : Int32} {x2 : Int32} (ok : o_answerHeld N S x1 x2) : rCv G E dX12_answerHeld mX12_answerHeld [.ref E.1, .int x1, .int x2] S (fun S' => S' = f_answerHeld N S x1 x2) := by
  refine rC.ofX rfl (Nat.le_of_ble_eq_true rfl) ?_
  show rX G E dX12_answerHeld mX12_answerHeld 0 [some (.ref E.1), some (.int x1), some (.int x2), none, none, none, none, none, none, none] [] S _
  exact rX.cutz (b_answerHeld_0 (X := fun F => F = f_answerHeld N S x1 x2) hG (fun S' h => ⟨rfl, h⟩) ok rfl) ⟨rfl, rfl, rfl, trivial⟩
/-! writeAsk -/
def F_writeAsk_10 (N : Nat) (x1 : Int32) (S : rS) : rS := (f_writeTwo N S (S.2.1 44 x1.toNatClampNeg))
def O_writeAsk_10 (N : Nat) (x1 : Int32) (S : rS) : Prop := (vp_in x1 13) ∧ (o_writeTwo N S (S.2.1 44 x1.toNatClampNeg)) ∧ True
set_option maxHeartbeats 4000000 in
theorem b_writeAsk_10 {G : zG} {E : rE} {S : rS} {N : Nat} {Q : Option Value → rS → Prop} {X : rS → Prop} (hG : zOK G) (hR : ∀ S', X S' → Q none S') {x1 : Int32} (ok : O_writeAsk_10 N x1 S) (hx : X (F_writeAsk_10 N x1 S)) : rX G E dX12_writeAsk mX12_writeAsk 10 [some (.ref E.1), some (.int x1)] [] S Q := by
  unfold O_writeAsk_10 at ok
  unfold F_writeAsk_10 at hx
  refine r_aload_n dX12_writeAsk_10 rfl rfl ?_
  refine r_aload_n dX12_writeAsk_11 rfl rfl ?_
  refine r_getA 44 fX12_309 (by decide) (by decide) dX12_writeAsk_12 ?_
  refine r_iload_n dX12_writeAsk_15 rfl rfl ?_
  refine r_iald (by decide) (by decide) dX12_writeAsk_16 ok.1 ?_
  have ok := ok.2
  refine r_V1v (y' := mX12_writeTwo) dX12_writeAsk_17 lX12_229 kX12_writeTwo ⟨by decide, by decide⟩ rfl (Nat.le_of_ble_eq_true rfl) (rc_X12_writeTwo hG ok.1) (fun S_17 h_17 => ?_)
  subst h_17
  have ok := ok.2
  exact r_return rfl dX12_writeAsk_20 (hR _ hx)
def F_writeAsk_0 (N : Nat) (x1 : Int32) (S : rS) : rS := (F_writeAsk_10 N x1 (f_write N (rsI S 33 (nI 0)) (nI 5)))
def O_writeAsk_0 (N : Nat) (x1 : Int32) (S : rS) : Prop := (o_write N (rsI S 33 (nI 0)) (nI 5)) ∧ O_writeAsk_10 N x1 (f_write N (rsI S 33 (nI 0)) (nI 5))
set_option maxHeartbeats 4000000 in
theorem b_writeAsk_0 {G : zG} {E : rE} {S : rS} {N : Nat} {Q : Option Value → rS → Prop} {X : rS → Prop} (hG : zOK G) (hR : ∀ S', X S' → Q none S') {x1 : Int32} (ok : O_writeAsk_0 N x1 S) (hx : X (F_writeAsk_0 N x1 S)) : rX G E dX12_writeAsk mX12_writeAsk 0 [some (.ref E.1), some (.int x1)] [] S Q := by
  unfold O_writeAsk_0 at ok
  unfold F_writeAsk_0 at hx
  refine r_aload_n dX12_writeAsk_0 rfl rfl ?_
  refine r_iconst (v := nI 0) dX12_writeAsk_1 (by decide) ?_
  refine r_putI 33 fX12_201 (by decide) (by decide) rfl rfl rfl dX12_writeAsk_2 ?_
  refine r_aload_n dX12_writeAsk_5 rfl rfl ?_
  refine r_iconst (v := nI 5) dX12_writeAsk_6 (by decide) ?_
  refine r_V1v (y' := mX12_write) dX12_writeAsk_7 lX12_226 kX12_write ⟨by decide, by decide⟩ rfl (Nat.le_of_ble_eq_true rfl) (rc_X12_write hG ok.1) (fun S_7 h_7 => ?_)
  subst h_7
  have ok := ok.2
  exact rX.cutz (b_writeAsk_10 hG hR ok hx) ⟨rfl, rfl, trivial⟩
def f_writeAsk (N : Nat) (S : rS) (x1 : Int32) : rS := F_writeAsk_0 N x1 S
def o_writeAsk (N : Nat) (S : rS) (x1 : Int32) : Prop := O_writeAsk_0 N x1 S
set_option maxHeartbeats 4000000 in
theorem rc_X12_writeAsk {G : zG} {E : rE} {S : rS} {N : Nat} (hG : zOK G) {x1 : Int32} (ok : o_writeAsk N S x1) : rCv G E dX12_writeAsk mX12_writeAsk [.ref E.1, .int x1] S (fun S' => S' = f_writeAsk N S x1) := by
  refine rC.ofX rfl (Nat.le_of_ble_eq_true rfl) ?_
  show rX G E dX12_writeAsk mX12_writeAsk 0 [some (.ref E.1), some (.int x1)] [] S _
  exact rX.cutz (b_writeAsk_0 (X := fun F => F = f_writeAsk N S x1) hG (fun S' h => ⟨rfl, h⟩) ok rfl) ⟨rfl, rfl, trivial⟩
/-! ask -/
def F_ask_84 (N : Nat)  (S : rS) : rS := S
def O_ask_84 (N : Nat)  (S : rS) : Prop := True
set_option maxHeartbeats 4000000 in
theorem b_ask_84 {G : zG} {E : rE} {S : rS} {N : Nat} {Q : Option Value → rS → Prop} {X : rS → Prop} (hG : zOK G) (hR : ∀ S', X S' → Q none S') (ok : O_ask_84 N S) (hx : X (F_ask_84 N S)) : rX G E dX12_ask mX12_ask 84 [none, none, none, none] [] S Q := by
  unfold O_ask_84 at ok
  unfold F_ask_84 at hx
  exact r_return rfl dX12_ask_84 (hR _ hx)
def B_ask_58 (N : Nat) (rec : Int32 → rS → Nat × rS) (x3 : Int32) (S : rS) : Nat × rS := (if (S.1 35) ≤ x3 then (0, S) else (rec (x3 + nI 1) (rsA S 32 x3.toNatClampNeg (S.2.1 34 x3.toNatClampNeg))))
def OB_ask_58 (N : Nat) (rok : Int32 → rS → Prop) (x3 : Int32) (S : rS) : Prop := (((S.1 35) ≤ x3 → True) ∧ (¬ (S.1 35) ≤ x3 → (vp_in x3 1010) ∧ (vp_in x3 1010) ∧ rok (x3 + nI 1) (rsA S 32 x3.toNatClampNeg (S.2.1 34 x3.toNatClampNeg))))
set_option maxHeartbeats 4000000 in
theorem bb_ask_58 {G : zG} {E : rE} {S : rS} {N : Nat} {Q : Option Value → rS → Prop} {X : Nat × rS → Prop} (hG : zOK G) (hX0 : ∀ (S' : rS), X (0, S') → rX G E dX12_ask mX12_ask 84 [none, none, none, none] [] S' Q) {rec : Int32 → rS → Nat × rS} {rok : Int32 → rS → Prop} (hrec : ∀ (x3 : Int32) (S : rS), rok x3 S → X (rec x3 S) → rX G E dX12_ask mX12_ask 58 [some (.ref E.1), none, none, some (.int x3)] [] S Q) {x3 : Int32} (ok : OB_ask_58 N rok x3 S) (hx : X (B_ask_58 N rec x3 S)) : rX G E dX12_ask mX12_ask 58 [some (.ref E.1), none, none, some (.int x3)] [] S Q := by
  unfold OB_ask_58 at ok
  unfold B_ask_58 at hx
  refine r_iload_n dX12_ask_58 rfl rfl ?_
  refine r_aload_n dX12_ask_59 rfl rfl ?_
  refine r_getI 35 fX12_673 (by decide) (by decide) dX12_ask_60 ?_
  refine r_icmp_ge (tgt := 84) dX12_ask_63 (by decide) (fun c_63 => ?_) (fun c_63 => ?_)
  · have ok := ok.1 c_63
    have hx := xif_p c_63 hx
    exact rX.cutz (hX0 S hx) trivial
  · have ok := ok.2 c_63
    have hx := xif_n c_63 hx
    refine r_aload_n dX12_ask_66 rfl rfl ?_
    refine r_getA 32 fX12_204 (by decide) (by decide) dX12_ask_67 ?_
    refine r_iload_n dX12_ask_70 rfl rfl ?_
    refine r_aload_n dX12_ask_71 rfl rfl ?_
    refine r_getA 34 fX12_302 (by decide) (by decide) dX12_ask_72 ?_
    refine r_iload_n dX12_ask_75 rfl rfl ?_
    refine r_iald (by decide) (by decide) dX12_ask_76 ok.1 ?_
    have ok := ok.2
    refine r_iast hG (by decide) (by decide) dX12_ask_77 ok.1 ?_
    have ok := ok.2
    refine r_iinc_3 (v := (x3 + nI 1)) dX12_ask_78 rfl (by first | rfl | (congr 1)) (by decide) rfl ?_
    refine r_goto (tgt := 58) dX12_ask_81 (by decide) ?_
    exact rX.cutz (hrec _ (rsA S 32 x3.toNatClampNeg (S.2.1 34 x3.toNatClampNeg)) ok hx) ⟨rfl, rfl, trivial⟩
def L_ask_58 (N : Nat) : Nat → Int32 → rS → Nat × rS
  | 0, x3, S => (0, S)
  | n + 1, x3, S => B_ask_58 N (L_ask_58 N n) x3 S
def OL_ask_58 (N : Nat) : Nat → Int32 → rS → Prop
  | 0, _, _ => False
  | n + 1, x3, S => OB_ask_58 N (OL_ask_58 N n) x3 S
set_option maxHeartbeats 4000000 in
theorem l_ask_58 {G : zG} {E : rE} {N : Nat} {Q : Option Value → rS → Prop} {X : Nat × rS → Prop} (hG : zOK G) (hX0 : ∀ (S' : rS), X (0, S') → rX G E dX12_ask mX12_ask 84 [none, none, none, none] [] S' Q) : ∀ (n : Nat) (x3 : Int32) (S : rS), OL_ask_58 N n x3 S → X (L_ask_58 N n x3 S) → rX G E dX12_ask mX12_ask 58 [some (.ref E.1), none, none, some (.int x3)] [] S Q := by
  intro n
  induction n with
  | zero => intro x3 S ok; exact absurd ok id
  | succ n ih =>
    intro x3 S ok hx
    exact bb_ask_58 hG hX0 (rec := L_ask_58 N n) (rok := OL_ask_58 N n) (fun x3 S ok hx => ih x3 S ok hx) ok hx
def A_ask_58 (N : Nat) (x3 : Int32) (S : rS) (z : Nat × rS) : rS := (F_ask_84 N z.2)
def OA_ask_58 (N : Nat) (x3 : Int32) (S : rS) (z : Nat × rS) : Prop := O_ask_84 N z.2
set_option maxHeartbeats 4000000 in
theorem c_ask_58 {G : zG} {E : rE} {S : rS} {N : Nat} {Q : Option Value → rS → Prop} {X : rS → Prop} (hG : zOK G) (hR : ∀ S', X S' → Q none S') {x3 : Int32} (ok : OL_ask_58 N N x3 S ∧ OA_ask_58 N x3 S (L_ask_58 N N x3 S)) (hx : X (A_ask_58 N x3 S (L_ask_58 N N x3 S))) : rX G E dX12_ask mX12_ask 58 [some (.ref E.1), none, none, some (.int x3)] [] S Q := by
  refine l_ask_58 hG ?_ N x3 S ok.1 (X := fun z => OA_ask_58 N x3 S z ∧ X (A_ask_58 N x3 S z)) ⟨ok.2, hx⟩
  · intro S' hz
    obtain ⟨ok, hx⟩ := hz
    unfold OA_ask_58 at ok
    unfold A_ask_58 at hx
    exact rX.cutz (b_ask_84 hG hR ok hx) trivial
def F_ask_47 (N : Nat) (s0 : Int32) (S : rS) : rS := (A_ask_58 N (nI 0) (rsI S 33 (S.1 35)) (L_ask_58 N N (nI 0) (rsI S 33 (S.1 35))))
def O_ask_47 (N : Nat) (s0 : Int32) (S : rS) : Prop := (OL_ask_58 N N (nI 0) (rsI S 33 (S.1 35)) ∧ OA_ask_58 N (nI 0) (rsI S 33 (S.1 35)) (L_ask_58 N N (nI 0) (rsI S 33 (S.1 35))))
set_option maxHeartbeats 4000000 in
theorem b_ask_47 {G : zG} {E : rE} {S : rS} {N : Nat} {Q : Option Value → rS → Prop} {X : rS → Prop} (hG : zOK G) (hR : ∀ S', X S' → Q none S') {s0 : Int32} (ok : O_ask_47 N s0 S) (hx : X (F_ask_47 N s0 S)) : rX G E dX12_ask mX12_ask 47 [some (.ref E.1), none, none, none] [.int s0] S Q := by
  unfold O_ask_47 at ok
  unfold F_ask_47 at hx
  refine r_pop dX12_ask_47 rfl ?_
  refine r_aload_n dX12_ask_48 rfl rfl ?_
  refine r_aload_n dX12_ask_49 rfl rfl ?_
  refine r_getI 35 fX12_673 (by decide) (by decide) dX12_ask_50 ?_
  refine r_putI 33 fX12_201 (by decide) (by decide) rfl rfl rfl dX12_ask_53 ?_
  refine r_iconst (v := nI 0) dX12_ask_56 (by decide) ?_
  refine r_istore_3 dX12_ask_57 (by decide) rfl ?_
  exact rX.cutz (c_ask_58 hG hR ok hx) ⟨rfl, rfl, trivial⟩
def F_ask_41 (N : Nat) (x1 : Int32) (x2 : Int32) (S : rS) : rS := (F_ask_47 N ((f_fly N S x1 x2).1) (f_fly N S x1 x2).2)
def O_ask_41 (N : Nat) (x1 : Int32) (x2 : Int32) (S : rS) : Prop := (o_fly N S x1 x2) ∧ O_ask_47 N ((f_fly N S x1 x2).1) (f_fly N S x1 x2).2
set_option maxHeartbeats 4000000 in
theorem b_ask_41 {G : zG} {E : rE} {S : rS} {N : Nat} {Q : Option Value → rS → Prop} {X : rS → Prop} (hG : zOK G) (hR : ∀ S', X S' → Q none S') {x1 : Int32} {x2 : Int32} (ok : O_ask_41 N x1 x2 S) (hx : X (F_ask_41 N x1 x2 S)) : rX G E dX12_ask mX12_ask 41 [some (.ref E.1), some (.int x1), some (.int x2), none] [] S Q := by
  unfold O_ask_41 at ok
  unfold F_ask_41 at hx
  refine r_aload_n dX12_ask_41 rfl rfl ?_
  refine r_iload_n dX12_ask_42 rfl rfl ?_
  refine r_iload_n dX12_ask_43 rfl rfl ?_
  refine r_V2i (y' := mX12_fly) dX12_ask_44 lX12_222 kX12_fly ⟨by decide, by decide⟩ rfl (Nat.le_of_ble_eq_true rfl) (rc_X12_fly hG ok.1) (fun v_44 S_44 h_44 => ?_)
  obtain ⟨rfl, hS_44⟩ := h_44
  have hS_44 := hS_44.symm
  subst hS_44
  have ok := ok.2
  exact rX.cutz (b_ask_47 hG hR ok hx) ⟨rfl, trivial⟩
def F_ask_36 (N : Nat) (x1 : Int32) (x2 : Int32) (S : rS) : rS := (F_ask_41 N x1 x2 (f_writeAsk N S x1))
def O_ask_36 (N : Nat) (x1 : Int32) (x2 : Int32) (S : rS) : Prop := (o_writeAsk N S x1) ∧ O_ask_41 N x1 x2 (f_writeAsk N S x1)
set_option maxHeartbeats 4000000 in
theorem b_ask_36 {G : zG} {E : rE} {S : rS} {N : Nat} {Q : Option Value → rS → Prop} {X : rS → Prop} (hG : zOK G) (hR : ∀ S', X S' → Q none S') {x1 : Int32} {x2 : Int32} (ok : O_ask_36 N x1 x2 S) (hx : X (F_ask_36 N x1 x2 S)) : rX G E dX12_ask mX12_ask 36 [some (.ref E.1), some (.int x1), some (.int x2), none] [] S Q := by
  unfold O_ask_36 at ok
  unfold F_ask_36 at hx
  refine r_aload_n dX12_ask_36 rfl rfl ?_
  refine r_iload_n dX12_ask_37 rfl rfl ?_
  refine r_V1v (y' := mX12_writeAsk) dX12_ask_38 lX12_676 kX12_writeAsk ⟨by decide, by decide⟩ rfl (Nat.le_of_ble_eq_true rfl) (rc_X12_writeAsk hG ok.1) (fun S_38 h_38 => ?_)
  subst h_38
  have ok := ok.2
  exact rX.cutz (b_ask_41 hG hR ok hx) ⟨rfl, rfl, rfl, trivial⟩
def B_ask_10 (N : Nat) (rec : Int32 → Int32 → Int32 → rS → Nat × Int32 × Int32 × rS) (x1 : Int32) (x2 : Int32) (x3 : Int32) (S : rS) : Nat × Int32 × Int32 × rS := (if (S.1 35) ≤ x3 then (0, x1, x2, S) else (rec x1 x2 (x3 + nI 1) (rsA S 34 x3.toNatClampNeg (S.2.1 32 x3.toNatClampNeg))))
def OB_ask_10 (N : Nat) (rok : Int32 → Int32 → Int32 → rS → Prop) (x1 : Int32) (x2 : Int32) (x3 : Int32) (S : rS) : Prop := (((S.1 35) ≤ x3 → True) ∧ (¬ (S.1 35) ≤ x3 → (vp_in x3 1010) ∧ (vp_in x3 1010) ∧ rok x1 x2 (x3 + nI 1) (rsA S 34 x3.toNatClampNeg (S.2.1 32 x3.toNatClampNeg))))
set_option maxHeartbeats 4000000 in
theorem bb_ask_10 {G : zG} {E : rE} {S : rS} {N : Nat} {Q : Option Value → rS → Prop} {X : Nat × Int32 × Int32 × rS → Prop} (hG : zOK G) (hX0 : ∀ (x1 : Int32) (x2 : Int32) (S' : rS), X (0, x1, x2, S') → rX G E dX12_ask mX12_ask 36 [some (.ref E.1), some (.int x1), some (.int x2), none] [] S' Q) {rec : Int32 → Int32 → Int32 → rS → Nat × Int32 × Int32 × rS} {rok : Int32 → Int32 → Int32 → rS → Prop} (hrec : ∀ (x1 : Int32) (x2 : Int32) (x3 : Int32) (S : rS), rok x1 x2 x3 S → X (rec x1 x2 x3 S) → rX G E dX12_ask mX12_ask 10 [some (.ref E.1), some (.int x1), some (.int x2), some (.int x3)] [] S Q) {x1 : Int32} {x2 : Int32} {x3 : Int32} (ok : OB_ask_10 N rok x1 x2 x3 S) (hx : X (B_ask_10 N rec x1 x2 x3 S)) : rX G E dX12_ask mX12_ask 10 [some (.ref E.1), some (.int x1), some (.int x2), some (.int x3)] [] S Q := by
  unfold OB_ask_10 at ok
  unfold B_ask_10 at hx
  refine r_iload_n dX12_ask_10 rfl rfl ?_
  refine r_aload_n dX12_ask_11 rfl rfl ?_
  refine r_getI 35 fX12_673 (by decide) (by decide) dX12_ask_12 ?_
  refine r_icmp_ge (tgt := 36) dX12_ask_15 (by decide) (fun c_15 => ?_) (fun c_15 => ?_)
  · have ok := ok.1 c_15
    have hx := xif_p c_15 hx
    exact rX.cutz (hX0 _ _ S hx) ⟨rfl, rfl, rfl, trivial⟩
  · have ok := ok.2 c_15
    have hx := xif_n c_15 hx
    refine r_aload_n dX12_ask_18 rfl rfl ?_
    refine r_getA 34 fX12_302 (by decide) (by decide) dX12_ask_19 ?_
    refine r_iload_n dX12_ask_22 rfl rfl ?_
    refine r_aload_n dX12_ask_23 rfl rfl ?_
    refine r_getA 32 fX12_204 (by decide) (by decide) dX12_ask_24 ?_
    refine r_iload_n dX12_ask_27 rfl rfl ?_
    refine r_iald (by decide) (by decide) dX12_ask_28 ok.1 ?_
    have ok := ok.2
    refine r_iast hG (by decide) (by decide) dX12_ask_29 ok.1 ?_
    have ok := ok.2
    refine r_iinc_3 (v := (x3 + nI 1)) dX12_ask_30 rfl (by first | rfl | (congr 1)) (by decide) rfl ?_
    refine r_goto (tgt := 10) dX12_ask_33 (by decide) ?_
    exact rX.cutz (hrec _ _ _ (rsA S 34 x3.toNatClampNeg (S.2.1 32 x3.toNatClampNeg)) ok hx) ⟨rfl, rfl, rfl, rfl, trivial⟩
def L_ask_10 (N : Nat) : Nat → Int32 → Int32 → Int32 → rS → Nat × Int32 × Int32 × rS
  | 0, x1, x2, x3, S => (0, 0, 0, S)
  | n + 1, x1, x2, x3, S => B_ask_10 N (L_ask_10 N n) x1 x2 x3 S
def OL_ask_10 (N : Nat) : Nat → Int32 → Int32 → Int32 → rS → Prop
  | 0, _, _, _, _ => False
  | n + 1, x1, x2, x3, S => OB_ask_10 N (OL_ask_10 N n) x1 x2 x3 S
set_option maxHeartbeats 4000000 in
theorem l_ask_10 {G : zG} {E : rE} {N : Nat} {Q : Option Value → rS → Prop} {X : Nat × Int32 × Int32 × rS → Prop} (hG : zOK G) (hX0 : ∀ (x1 : Int32) (x2 : Int32) (S' : rS), X (0, x1, x2, S') → rX G E dX12_ask mX12_ask 36 [some (.ref E.1), some (.int x1), some (.int x2), none] [] S' Q) : ∀ (n : Nat) (x1 : Int32) (x2 : Int32) (x3 : Int32) (S : rS), OL_ask_10 N n x1 x2 x3 S → X (L_ask_10 N n x1 x2 x3 S) → rX G E dX12_ask mX12_ask 10 [some (.ref E.1), some (.int x1), some (.int x2), some (.int x3)] [] S Q := by
  intro n
  induction n with
  | zero => intro x1 x2 x3 S ok; exact absurd ok id
  | succ n ih =>
    intro x1 x2 x3 S ok hx
    exact bb_ask_10 hG hX0 (rec := L_ask_10 N n) (rok := OL_ask_10 N n) (fun x1 x2 x3 S ok hx => ih x1 x2 x3 S ok hx) ok hx
def A_ask_10 (N : Nat) (x1 : Int32) (x2 : Int32) (x3 : Int32) (S : rS) (z : Nat × Int32 × Int32 × rS) : rS := (F_ask_36 N (z.2.1) (z.2.2.1) z.2.2.2)
def OA_ask_10 (N : Nat) (x1 : Int32) (x2 : Int32) (x3 : Int32) (S : rS) (z : Nat × Int32 × Int32 × rS) : Prop := O_ask_36 N (z.2.1) (z.2.2.1) z.2.2.2
set_option maxHeartbeats 4000000 in
theorem c_ask_10 {G : zG} {E : rE} {S : rS} {N : Nat} {Q : Option Value → rS → Prop} {X : rS → Prop} (hG : zOK G) (hR : ∀ S', X S' → Q none S') {x1 : Int32} {x2 : Int32} {x3 : Int32} (ok : OL_ask_10 N N x1 x2 x3 S ∧ OA_ask_10 N x1 x2 x3 S (L_ask_10 N N x1 x2 x3 S)) (hx : X (A_ask_10 N x1 x2 x3 S (L_ask_10 N N x1 x2 x3 S))) : rX G E dX12_ask mX12_ask 10 [some (.ref E.1), some (.int x1), some (.int x2), some (.int x3)] [] S Q := by
  refine l_ask_10 hG ?_ N x1 x2 x3 S ok.1 (X := fun z => OA_ask_10 N x1 x2 x3 S z ∧ X (A_ask_10 N x1 x2 x3 S z)) ⟨ok.2, hx⟩
  · intro x1' x2' S' hz
    obtain ⟨ok, hx⟩ := hz
    unfold OA_ask_10 at ok
    unfold A_ask_10 at hx
    exact rX.cutz (b_ask_36 hG hR ok hx) ⟨rfl, rfl, rfl, trivial⟩
def F_ask_0 (N : Nat) (x1 : Int32) (x2 : Int32) (S : rS) : rS := (A_ask_10 N x1 x2 (nI 0) (rsI S 35 (S.1 33)) (L_ask_10 N N x1 x2 (nI 0) (rsI S 35 (S.1 33))))
def O_ask_0 (N : Nat) (x1 : Int32) (x2 : Int32) (S : rS) : Prop := (OL_ask_10 N N x1 x2 (nI 0) (rsI S 35 (S.1 33)) ∧ OA_ask_10 N x1 x2 (nI 0) (rsI S 35 (S.1 33)) (L_ask_10 N N x1 x2 (nI 0) (rsI S 35 (S.1 33))))
set_option maxHeartbeats 4000000 in
theorem b_ask_0 {G : zG} {E : rE} {S : rS} {N : Nat} {Q : Option Value → rS → Prop} {X : rS → Prop} (hG : zOK G) (hR : ∀ S', X S' → Q none S') {x1 : Int32} {x2 : Int32} (ok : O_ask_0 N x1 x2 S) (hx : X (F_ask_0 N x1 x2 S)) : rX G E dX12_ask mX12_ask 0 [some (.ref E.1), some (.int x1), some (.int x2), none] [] S Q := by
  unfold O_ask_0 at ok
  unfold F_ask_0 at hx
  refine r_aload_n dX12_ask_0 rfl rfl ?_
  refine r_aload_n dX12_ask_1 rfl rfl ?_
  refine r_getI 33 fX12_201 (by decide) (by decide) dX12_ask_2 ?_
  refine r_putI 35 fX12_673 (by decide) (by decide) rfl rfl rfl dX12_ask_5 ?_
  refine r_iconst (v := nI 0) dX12_ask_8 (by decide) ?_
  refine r_istore_3 dX12_ask_9 (by decide) rfl ?_
  exact rX.cutz (c_ask_10 hG hR ok hx) ⟨rfl, rfl, rfl, rfl, trivial⟩
def f_ask (N : Nat) (S : rS) (x1 : Int32) (x2 : Int32) : rS := F_ask_0 N x1 x2 S
def o_ask (N : Nat) (S : rS) (x1 : Int32) (x2 : Int32) : Prop := O_ask_0 N x1 x2 S
set_option maxHeartbeats 4000000 in
theorem rc_X12_ask {G : zG} {E : rE} {S : rS} {N : Nat} (hG : zOK G) {x1 : Int32} {x2 : Int32} (ok : o_ask N S x1 x2) : rCv G E dX12_ask mX12_ask [.ref E.1, .int x1, .int x2] S (fun S' => S' = f_ask N S x1 x2) := by
  refine rC.ofX rfl (Nat.le_of_ble_eq_true rfl) ?_
  show rX G E dX12_ask mX12_ask 0 [some (.ref E.1), some (.int x1), some (.int x2), none] [] S _
  exact rX.cutz (b_ask_0 (X := fun F => F = f_ask N S x1 x2) hG (fun S' h => ⟨rfl, h⟩) ok rfl) ⟨rfl, rfl, rfl, trivial⟩
/-! isLessId -/
def F_isLessId_58 (N : Nat) (s0 : Int32) (S : rS) : Int32 := s0
def O_isLessId_58 (N : Nat) (s0 : Int32) (S : rS) : Prop := narrow .boolean (.int s0) = .int s0
set_option maxHeartbeats 4000000 in
theorem b_isLessId_58 {G : zG} {E : rE} {S : rS} {N : Nat} {Q : Option Value → rS → Prop} {X : Int32 → Prop} (hG : zOK G) (hR : ∀ v, X v → Q (some (.int v)) S) {s0 : Int32} (ok : O_isLessId_58 N s0 S) (hx : X (F_isLessId_58 N s0 S)) : rX G E dX12_isLessId mX12_isLessId 58 [none, none] [.int s0] S Q := by
  unfold O_isLessId_58 at ok
  unfold F_isLessId_58 at hx
  exact r_ireturn rfl ok dX12_isLessId_58 (hR _ hx)
def F_isLessId_29 (N : Nat) (x1 : Int32) (S : rS) : Int32 := (if 0 ≤ (lg_cmp ((S.2.2 42 x1.toNatClampNeg) ^^^ (-9223372036854775808 : Int64)) ((S.2.2 88 x1.toNatClampNeg) ^^^ (-9223372036854775808 : Int64))) then (F_isLessId_58 N (nI 0) S) else (F_isLessId_58 N (nI 1) S))
def O_isLessId_29 (N : Nat) (x1 : Int32) (S : rS) : Prop := (vp_in x1 4) ∧ (vp_in x1 4) ∧ ((0 ≤ (lg_cmp ((S.2.2 42 x1.toNatClampNeg) ^^^ (-9223372036854775808 : Int64)) ((S.2.2 88 x1.toNatClampNeg) ^^^ (-9223372036854775808 : Int64))) → O_isLessId_58 N (nI 0) S) ∧ (¬ 0 ≤ (lg_cmp ((S.2.2 42 x1.toNatClampNeg) ^^^ (-9223372036854775808 : Int64)) ((S.2.2 88 x1.toNatClampNeg) ^^^ (-9223372036854775808 : Int64))) → O_isLessId_58 N (nI 1) S))
set_option maxHeartbeats 4000000 in
theorem b_isLessId_29 {G : zG} {E : rE} {S : rS} {N : Nat} {Q : Option Value → rS → Prop} {X : Int32 → Prop} (hG : zOK G) (hR : ∀ v, X v → Q (some (.int v)) S) {x1 : Int32} (ok : O_isLessId_29 N x1 S) (hx : X (F_isLessId_29 N x1 S)) : rX G E dX12_isLessId mX12_isLessId 29 [some (.ref E.1), some (.int x1)] [] S Q := by
  unfold O_isLessId_29 at ok
  unfold F_isLessId_29 at hx
  refine r_aload_n dX12_isLessId_29 rfl rfl ?_
  refine r_getA 42 fX12_270 (by decide) (by decide) dX12_isLessId_30 ?_
  refine r_iload_n dX12_isLessId_33 rfl rfl ?_
  refine r_lald (by decide) (by decide) dX12_isLessId_34 ok.1 ?_
  have ok := ok.2
  refine r_ldc2 dX12_isLessId_35 nX12_692 ?_
  refine r_lxor dX12_isLessId_38 ?_
  refine r_aload_n dX12_isLessId_39 rfl rfl ?_
  refine r_getA 88 fX12_439 (by decide) (by decide) dX12_isLessId_40 ?_
  refine r_iload_n dX12_isLessId_43 rfl rfl ?_
  refine r_lald (by decide) (by decide) dX12_isLessId_44 ok.1 ?_
  have ok := ok.2
  refine r_ldc2 dX12_isLessId_45 nX12_692 ?_
  refine r_lxor dX12_isLessId_48 ?_
  refine r_lcmp dX12_isLessId_49 ?_
  refine r_if_ge (tgt := 57) dX12_isLessId_50 (by decide) (fun c_50 => ?_) (fun c_50 => ?_)
  · have ok := ok.1 c_50
    have hx := xif_p c_50 hx
    refine r_iconst (v := nI 0) dX12_isLessId_57 (by decide) ?_
    exact rX.cutz (b_isLessId_58 hG hR ok hx) trivial
  · have ok := ok.2 c_50
    have hx := xif_n c_50 hx
    refine r_iconst (v := nI 1) dX12_isLessId_53 (by decide) ?_
    refine r_goto (tgt := 58) dX12_isLessId_54 (by decide) ?_
    exact rX.cutz (b_isLessId_58 hG hR ok hx) trivial
def B_isLessId_2 (N : Nat) (rec : Int32 → Nat × Int32 × Unit) (x1 : Int32) (S : rS) : Nat × Int32 × Unit := (if (nI 3) ≤ x1 then (0, x1, ()) else (if (lg_cmp (S.2.2 42 x1.toNatClampNeg) (S.2.2 88 x1.toNatClampNeg)) = 0 then (rec (x1 + nI 1)) else (0, x1, ())))
def OB_isLessId_2 (N : Nat) (rok : Int32 → Prop) (x1 : Int32) (S : rS) : Prop := (((nI 3) ≤ x1 → True) ∧ (¬ (nI 3) ≤ x1 → (vp_in x1 4) ∧ (vp_in x1 4) ∧ (((lg_cmp (S.2.2 42 x1.toNatClampNeg) (S.2.2 88 x1.toNatClampNeg)) = 0 → rok (x1 + nI 1)) ∧ (¬ (lg_cmp (S.2.2 42 x1.toNatClampNeg) (S.2.2 88 x1.toNatClampNeg)) = 0 → True))))
set_option maxHeartbeats 4000000 in
theorem bb_isLessId_2 {G : zG} {E : rE} {S : rS} {N : Nat} {Q : Option Value → rS → Prop} {X : Nat × Int32 × Unit → Prop} (hG : zOK G) (hX0 : ∀ (x1 : Int32) , X (0, x1, ()) → rX G E dX12_isLessId mX12_isLessId 29 [some (.ref E.1), some (.int x1)] [] S Q) {rec : Int32 → Nat × Int32 × Unit} {rok : Int32 → Prop} (hrec : ∀ (x1 : Int32), rok x1 → X (rec x1) → rX G E dX12_isLessId mX12_isLessId 2 [some (.ref E.1), some (.int x1)] [] S Q) {x1 : Int32} (ok : OB_isLessId_2 N rok x1 S) (hx : X (B_isLessId_2 N rec x1 S)) : rX G E dX12_isLessId mX12_isLessId 2 [some (.ref E.1), some (.int x1)] [] S Q := by
  unfold OB_isLessId_2 at ok
  unfold B_isLessId_2 at hx
  refine r_iload_n dX12_isLessId_2 rfl rfl ?_
  refine r_iconst (v := nI 3) dX12_isLessId_3 (by decide) ?_
  refine r_icmp_ge (tgt := 29) dX12_isLessId_4 (by decide) (fun c_4 => ?_) (fun c_4 => ?_)
  · have ok := ok.1 c_4
    have hx := xif_p c_4 hx
    exact rX.cutz (hX0 _  hx) ⟨rfl, rfl, trivial⟩
  · have ok := ok.2 c_4
    have hx := xif_n c_4 hx
    refine r_aload_n dX12_isLessId_7 rfl rfl ?_
    refine r_getA 42 fX12_270 (by decide) (by decide) dX12_isLessId_8 ?_
    refine r_iload_n dX12_isLessId_11 rfl rfl ?_
    refine r_lald (by decide) (by decide) dX12_isLessId_12 ok.1 ?_
    have ok := ok.2
    refine r_aload_n dX12_isLessId_13 rfl rfl ?_
    refine r_getA 88 fX12_439 (by decide) (by decide) dX12_isLessId_14 ?_
    refine r_iload_n dX12_isLessId_17 rfl rfl ?_
    refine r_lald (by decide) (by decide) dX12_isLessId_18 ok.1 ?_
    have ok := ok.2
    refine r_lcmp dX12_isLessId_19 ?_
    refine r_if_ne (tgt := 29) dX12_isLessId_20 (by decide) (fun c_20 => ?_) (fun c_20 => ?_)
    · have ok := ok.2 c_20
      have hx := xif_n c_20 hx
      exact rX.cutz (hX0 _  hx) ⟨rfl, rfl, trivial⟩
    · have ok := ok.1 c_20
      have hx := xif_p c_20 hx
      refine r_iinc_1 (v := (x1 + nI 1)) dX12_isLessId_23 rfl (by first | rfl | (congr 1)) (by decide) rfl ?_
      refine r_goto (tgt := 2) dX12_isLessId_26 (by decide) ?_
      exact rX.cutz (hrec _ ok hx) ⟨rfl, rfl, trivial⟩
def L_isLessId_2 (N : Nat) : Nat → Int32 → rS → Nat × Int32 × Unit
  | 0, x1, S => (0, 0, ())
  | n + 1, x1, S => B_isLessId_2 N (fun x1 => L_isLessId_2 N n x1 S) x1 S
def OL_isLessId_2 (N : Nat) : Nat → Int32 → rS → Prop
  | 0, _, _ => False
  | n + 1, x1, S => OB_isLessId_2 N (fun x1 => OL_isLessId_2 N n x1 S) x1 S
set_option maxHeartbeats 4000000 in
theorem l_isLessId_2 {G : zG} {E : rE} {S : rS} {N : Nat} {Q : Option Value → rS → Prop} {X : Nat × Int32 × Unit → Prop} (hG : zOK G) (hX0 : ∀ (x1 : Int32) , X (0, x1, ()) → rX G E dX12_isLessId mX12_isLessId 29 [some (.ref E.1), some (.int x1)] [] S Q) : ∀ (n : Nat) (x1 : Int32) , OL_isLessId_2 N n x1 S → X (L_isLessId_2 N n x1 S) → rX G E dX12_isLessId mX12_isLessId 2 [some (.ref E.1), some (.int x1)] [] S Q := by
  intro n
  induction n with
  | zero => intro x1 ok; exact absurd ok id
  | succ n ih =>
    intro x1 ok hx
    exact bb_isLessId_2 hG hX0 (rec := fun x1 => L_isLessId_2 N n x1 S) (rok := fun x1 => OL_isLessId_2 N n x1 S) (fun x1 ok hx => ih x1 ok hx) ok hx
def A_isLessId_2 (N : Nat) (x1 : Int32) (S : rS) (z : Nat × Int32 × Unit) : Int32 := (F_isLessId_29 N (z.2.1) S)
def OA_isLessId_2 (N : Nat) (x1 : Int32) (S : rS) (z : Nat × Int32 × Unit) : Prop := O_isLessId_29 N (z.2.1) S
set_option maxHeartbeats 4000000 in
theorem c_isLessId_2 {G : zG} {E : rE} {S : rS} {N : Nat} {Q : Option Value → rS → Prop} {X : Int32 → Prop} (hG : zOK G) (hR : ∀ v, X v → Q (some (.int v)) S) {x1 : Int32} (ok : OL_isLessId_2 N N x1 S ∧ OA_isLessId_2 N x1 S (L_isLessId_2 N N x1 S)) (hx : X (A_isLessId_2 N x1 S (L_isLessId_2 N N x1 S))) : rX G E dX12_isLessId mX12_isLessId 2 [some (.ref E.1), some (.int x1)] [] S Q := by
  refine l_isLessId_2 hG ?_ N x1 ok.1 (X := fun z => OA_isLessId_2 N x1 S z ∧ X (A_isLessId_2 N x1 S z)) ⟨ok.2, hx⟩
  · intro x1' hz
    obtain ⟨ok, hx⟩ := hz
    unfold OA_isLessId_2 at ok
    unfold A_isLessId_2 at hx
    exact rX.cutz (b_isLessId_29 hG hR ok hx) ⟨rfl, rfl, trivial⟩
def F_isLessId_0 (N : Nat)  (S : rS) : Int32 := (A_isLessId_2 N (nI 0) S (L_isLessId_2 N N (nI 0) S))
def O_isLessId_0 (N : Nat)  (S : rS) : Prop := (OL_isLessId_2 N N (nI 0) S ∧ OA_isLessId_2 N (nI 0) S (L_isLessId_2 N N (nI 0) S))
set_option maxHeartbeats 4000000 in
theorem b_isLessId_0 {G : zG} {E : rE} {S : rS} {N : Nat} {Q : Option Value → rS → Prop} {X : Int32 → Prop} (hG : zOK G) (hR : ∀ v, X v → Q (some (.int v)) S) (ok : O_isLessId_0 N S) (hx : X (F_isLessId_0 N S)) : rX G E dX12_isLessId mX12_isLessId 0 [some (.ref E.1), none] [] S Q := by
  unfold O_isLessId_0 at ok
  unfold F_isLessId_0 at hx
  refine r_iconst (v := nI 0) dX12_isLessId_0 (by decide) ?_
  refine r_istore_1 dX12_isLessId_1 (by decide) rfl ?_
  exact rX.cutz (c_isLessId_2 hG hR ok hx) ⟨rfl, rfl, trivial⟩
def f_isLessId (N : Nat) (S : rS) : Int32 := F_isLessId_0 N S
def o_isLessId (N : Nat) (S : rS) : Prop := O_isLessId_0 N S
set_option maxHeartbeats 4000000 in
theorem rc_X12_isLessId {G : zG} {E : rE} {S : rS} {N : Nat} (hG : zOK G) (ok : o_isLessId N S ) : rCi G E dX12_isLessId mX12_isLessId [.ref E.1] S (fun v S' => v = f_isLessId N S ∧ S' = S) := by
  refine rC.ofX rfl (Nat.le_of_ble_eq_true rfl) ?_
  show rX G E dX12_isLessId mX12_isLessId 0 [some (.ref E.1), none] [] S _
  exact rX.cutz (b_isLessId_0 (X := fun F => F = f_isLessId N S) hG (fun v h => ⟨v, rfl, h, rfl⟩) ok rfl) ⟨rfl, trivial⟩
/-! evidence -/
def F_evidence_204 (N : Nat)  (S : rS) : rS := S
def O_evidence_204 (N : Nat)  (S : rS) : Prop := True
set_option maxHeartbeats 4000000 in
theorem b_evidence_204 {G : zG} {E : rE} {S : rS} {N : Nat} {Q : Option Value → rS → Prop} {X : rS → Prop} (hG : zOK G) (hR : ∀ S', X S' → Q none S') (ok : O_evidence_204 N S) (hx : X (F_evidence_204 N S)) : rX G E dX12_evidence mX12_evidence 204 [none, none, none, none, none, none] [] S Q := by
  unfold O_evidence_204 at ok
  unfold F_evidence_204 at hx
  exact r_return rfl dX12_evidence_204 (hR _ hx)
def F_evidence_196 (N : Nat) (x1 : Int32) (s0 : Int32) (S : rS) : rS := (if s0 = 0 then (F_evidence_204 N S) else (F_evidence_204 N (f_flyAll N S x1)))
def O_evidence_196 (N : Nat) (x1 : Int32) (s0 : Int32) (S : rS) : Prop := ((s0 = 0 → O_evidence_204 N S) ∧ (¬ s0 = 0 → (o_flyAll N S x1) ∧ O_evidence_204 N (f_flyAll N S x1)))
set_option maxHeartbeats 4000000 in
theorem b_evidence_196 {G : zG} {E : rE} {S : rS} {N : Nat} {Q : Option Value → rS → Prop} {X : rS → Prop} (hG : zOK G) (hR : ∀ S', X S' → Q none S') {x1 : Int32} {s0 : Int32} (ok : O_evidence_196 N x1 s0 S) (hx : X (F_evidence_196 N x1 s0 S)) : rX G E dX12_evidence mX12_evidence 196 [some (.ref E.1), some (.int x1), none, none, none, none] [.int s0] S Q := by
  unfold O_evidence_196 at ok
  unfold F_evidence_196 at hx
  refine r_if_eq (tgt := 204) dX12_evidence_196 (by decide) (fun c_196 => ?_) (fun c_196 => ?_)
  · have ok := ok.1 c_196
    have hx := xif_p c_196 hx
    exact rX.cutz (b_evidence_204 hG hR ok hx) trivial
  · have ok := ok.2 c_196
    have hx := xif_n c_196 hx
    refine r_aload_n dX12_evidence_199 rfl rfl ?_
    refine r_iload_n dX12_evidence_200 rfl rfl ?_
    refine r_V1v (y' := mX12_flyAll) dX12_evidence_201 lX12_514 kX12_flyAll ⟨by decide, by decide⟩ rfl (Nat.le_of_ble_eq_true rfl) (rc_X12_flyAll hG ok.1) (fun S_201 h_201 => ?_)
    subst h_201
    have ok := ok.2
    exact rX.cutz (b_evidence_204 hG hR ok hx) trivial
def F_evidence_191 (N : Nat) (x1 : Int32) (S : rS) : rS := (F_evidence_196 N x1 ((f_keepProof N S x1).1) (f_keepProof N S x1).2)
def O_evidence_191 (N : Nat) (x1 : Int32) (S : rS) : Prop := (o_keepProof N S x1) ∧ O_evidence_196 N x1 ((f_keepProof N S x1).1) (f_keepProof N S x1).2
set_option maxHeartbeats 4000000 in
theorem b_evidence_191 {G : zG} {E : rE} {S : rS} {N : Nat} {Q : Option Value → rS → Prop} {X : rS → Prop} (hG : zOK G) (hR : ∀ S', X S' → Q none S') {x1 : Int32} (ok : O_evidence_191 N x1 S) (hx : X (F_evidence_191 N x1 S)) : rX G E dX12_evidence mX12_evidence 191 [some (.ref E.1), some (.int x1), none, none, none, none] [] S Q := by
  unfold O_evidence_191 at ok
  unfold F_evidence_191 at hx
  refine r_aload_n dX12_evidence_191 rfl rfl ?_
  refine r_iload_n dX12_evidence_192 rfl rfl ?_
  refine r_V1i (y' := mX12_keepProof) dX12_evidence_193 lX12_658 kX12_keepProof ⟨by decide, by decide⟩ rfl (Nat.le_of_ble_eq_true rfl) (rc_X12_keepProof hG ok.1) (fun v_193 S_193 h_193 => ?_)
  obtain ⟨rfl, hS_193⟩ := h_193
  have hS_193 := hS_193.symm
  subst hS_193
  have ok := ok.2
  exact rX.cutz (b_evidence_196 hG hR ok hx) ⟨rfl, rfl, trivial⟩
def F_evidence_185 (N : Nat) (rec : Int32 → Int32 → Int32 → Int32 → rS → Nat × Int32 × rS) (x1 : Int32) (x2 : Int32) (x3 : Int32) (x4 : Int32) (S : rS) : Nat × Int32 × rS := (rec x1 x2 x3 (x4 + nI 1) S)
def O_evidence_185 (N : Nat) (rok : Int32 → Int32 → Int32 → Int32 → rS → Prop) (x1 : Int32) (x2 : Int32) (x3 : Int32) (x4 : Int32) (S : rS) : Prop := rok x1 x2 x3 (x4 + nI 1) S
set_option maxHeartbeats 4000000 in
theorem b_evidence_185 {G : zG} {E : rE} {S : rS} {N : Nat} {Q : Option Value → rS → Prop} {X : Nat × Int32 × rS → Prop} (hG : zOK G) (hX0 : ∀ (x1 : Int32) (S' : rS), X (0, x1, S') → rX G E dX12_evidence mX12_evidence 191 [some (.ref E.1), some (.int x1), none, none, none, none] [] S' Q) {rec : Int32 → Int32 → Int32 → Int32 → rS → Nat × Int32 × rS} {rok : Int32 → Int32 → Int32 → Int32 → rS → Prop} (hrec : ∀ (x1 : Int32) (x2 : Int32) (x3 : Int32) (x4 : Int32) (S : rS), rok x1 x2 x3 x4 S → X (rec x1 x2 x3 x4 S) → rX G E dX12_evidence mX12_evidence 70 [some (.ref E.1), some (.int x1), some (.int x2), some (.int x3), some (.int x4), none] [] S Q) {x1 : Int32} {x2 : Int32} {x3 : Int32} {x4 : Int32} (ok : O_evidence_185 N rok x1 x2 x3 x4 S) (hx : X (F_evidence_185 N rec x1 x2 x3 x4 S)) : rX G E dX12_evidence mX12_evidence 185 [some (.ref E.1), some (.int x1), some (.int x2), some (.int x3), some (.int x4), none] [] S Q := by
  unfold O_evidence_185 at ok
  unfold F_evidence_185 at hx
  refine r_iinc_4 (v := (x4 + nI 1)) dX12_evidence_185 rfl (by first | rfl | (congr 1)) (by decide) rfl ?_
  refine r_goto (tgt := 70) dX12_evidence_188 (by decide) ?_
  exact rX.cutz (hrec _ _ _ _ S ok hx) ⟨rfl, rfl, rfl, rfl, rfl, trivial⟩
def F_evidence_180 (N : Nat) (rec : Int32 → Int32 → Int32 → Int32 → rS → Nat × Int32 × rS) (x1 : Int32) (x2 : Int32) (x3 : Int32) (x4 : Int32) (S : rS) : Nat × Int32 × rS := (F_evidence_185 N rec x1 x2 x3 x4 (f_write N S (nI 0)))
def O_evidence_180 (N : Nat) (rok : Int32 → Int32 → Int32 → Int32 → rS → Prop) (x1 : Int32) (x2 : Int32) (x3 : Int32) (x4 : Int32) (S : rS) : Prop := (o_write N S (nI 0)) ∧ O_evidence_185 N rok x1 x2 x3 x4 (f_write N S (nI 0))
set_option maxHeartbeats 4000000 in
theorem b_evidence_180 {G : zG} {E : rE} {S : rS} {N : Nat} {Q : Option Value → rS → Prop} {X : Nat × Int32 × rS → Prop} (hG : zOK G) (hX0 : ∀ (x1 : Int32) (S' : rS), X (0, x1, S') → rX G E dX12_evidence mX12_evidence 191 [some (.ref E.1), some (.int x1), none, none, none, none] [] S' Q) {rec : Int32 → Int32 → Int32 → Int32 → rS → Nat × Int32 × rS} {rok : Int32 → Int32 → Int32 → Int32 → rS → Prop} (hrec : ∀ (x1 : Int32) (x2 : Int32) (x3 : Int32) (x4 : Int32) (S : rS), rok x1 x2 x3 x4 S → X (rec x1 x2 x3 x4 S) → rX G E dX12_evidence mX12_evidence 70 [some (.ref E.1), some (.int x1), some (.int x2), some (.int x3), some (.int x4), none] [] S Q) {x1 : Int32} {x2 : Int32} {x3 : Int32} {x4 : Int32} (ok : O_evidence_180 N rok x1 x2 x3 x4 S) (hx : X (F_evidence_180 N rec x1 x2 x3 x4 S)) : rX G E dX12_evidence mX12_evidence 180 [some (.ref E.1), some (.int x1), some (.int x2), some (.int x3), some (.int x4), none] [] S Q := by
  unfold O_evidence_180 at ok
  unfold F_evidence_180 at hx
  refine r_aload_n dX12_evidence_180 rfl rfl ?_
  refine r_iconst (v := nI 0) dX12_evidence_181 (by decide) ?_
  refine r_V1v (y' := mX12_write) dX12_evidence_182 lX12_226 kX12_write ⟨by decide, by decide⟩ rfl (Nat.le_of_ble_eq_true rfl) (rc_X12_write hG ok.1) (fun S_182 h_182 => ?_)
  subst h_182
  have ok := ok.2
  exact rX.cutz (b_evidence_185 hG hX0 hrec ok hx) ⟨rfl, rfl, rfl, rfl, rfl, trivial⟩
def F_evidence_177 (N : Nat) (rec : Int32 → Int32 → Int32 → Int32 → rS → Nat × Int32 × rS) (x1 : Int32) (x2 : Int32) (x3 : Int32) (x4 : Int32) (S : rS) : Nat × Int32 × rS := (F_evidence_185 N rec x1 x2 x3 x4 S)
def O_evidence_177 (N : Nat) (rok : Int32 → Int32 → Int32 → Int32 → rS → Prop) (x1 : Int32) (x2 : Int32) (x3 : Int32) (x4 : Int32) (S : rS) : Prop := O_evidence_185 N rok x1 x2 x3 x4 S
set_option maxHeartbeats 4000000 in
theorem b_evidence_177 {G : zG} {E : rE} {S : rS} {N : Nat} {Q : Option Value → rS → Prop} {X : Nat × Int32 × rS → Prop} (hG : zOK G) (hX0 : ∀ (x1 : Int32) (S' : rS), X (0, x1, S') → rX G E dX12_evidence mX12_evidence 191 [some (.ref E.1), some (.int x1), none, none, none, none] [] S' Q) {rec : Int32 → Int32 → Int32 → Int32 → rS → Nat × Int32 × rS} {rok : Int32 → Int32 → Int32 → Int32 → rS → Prop} (hrec : ∀ (x1 : Int32) (x2 : Int32) (x3 : Int32) (x4 : Int32) (S : rS), rok x1 x2 x3 x4 S → X (rec x1 x2 x3 x4 S) → rX G E dX12_evidence mX12_evidence 70 [some (.ref E.1), some (.int x1), some (.int x2), some (.int x3), some (.int x4), none] [] S Q) {x1 : Int32} {x2 : Int32} {x3 : Int32} {x4 : Int32} (ok : O_evidence_177 N rok x1 x2 x3 x4 S) (hx : X (F_evidence_177 N rec x1 x2 x3 x4 S)) : rX G E dX12_evidence mX12_evidence 177 [some (.ref E.1), some (.int x1), some (.int x2), some (.int x3), some (.int x4), none] [] S Q := by
  unfold O_evidence_177 at ok
  unfold F_evidence_177 at hx
  refine r_goto (tgt := 185) dX12_evidence_177 (by decide) ?_
  exact rX.cutz (b_evidence_185 hG hX0 hrec ok hx) ⟨rfl, rfl, rfl, rfl, rfl, trivial⟩
def F_evidence_140 (N : Nat) (rec : Int32 → Int32 → Int32 → Int32 → rS → Nat × Int32 × rS) (x1 : Int32) (x2 : Int32) (x3 : Int32) (x4 : Int32) (x5 : Int32) (S : rS) : Nat × Int32 × rS := (if x5 = 0 then (if x2 = 0 then (F_evidence_180 N rec x1 x2 x3 x4 S) else (F_evidence_177 N rec x1 x2 x3 x4 (f_writeId N S (S.2.2 88 (nI 0).toNatClampNeg) (S.2.2 88 (nI 1).toNatClampNeg) (S.2.2 88 (nI 2).toNatClampNeg) (S.2.2 88 (nI 3).toNatClampNeg)))) else (F_evidence_180 N rec x1 x2 x3 x4 S))
def O_evidence_140 (N : Nat) (rok : Int32 → Int32 → Int32 → Int32 → rS → Prop) (x1 : Int32) (x2 : Int32) (x3 : Int32) (x4 : Int32) (x5 : Int32) (S : rS) : Prop := ((x5 = 0 → ((x2 = 0 → O_evidence_180 N rok x1 x2 x3 x4 S) ∧ (¬ x2 = 0 → (vp_in (nI 0) 4) ∧ (vp_in (nI 1) 4) ∧ (vp_in (nI 2) 4) ∧ (vp_in (nI 3) 4) ∧ (o_writeId N S (S.2.2 88 (nI 0).toNatClampNeg) (S.2.2 88 (nI 1).toNatClampNeg) (S.2.2 88 (nI 2).toNatClampNeg) (S.2.2 88 (nI 3).toNatClampNeg)) ∧ O_evidence_177 N rok x1 x2 x3 x4 (f_writeId N S (S.2.2 88 (nI 0).toNatClampNeg) (S.2.2 88 (nI 1).toNatClampNeg) (S.2.2 88 (nI 2).toNatClampNeg) (S.2.2 88 (nI 3).toNatClampNeg))))) ∧ (¬ x5 = 0 → O_evidence_180 N rok x1 x2 x3 x4 S))
set_option maxHeartbeats 4000000 in
theorem b_evidence_140 {G : zG} {E : rE} {S : rS} {N : Nat} {Q : Option Value → rS → Prop} {X : Nat × Int32 × rS → Prop} (hG : zOK G) (hX0 : ∀ (x1 : Int32) (S' : rS), X (0, x1, S') → rX G E dX12_evidence mX12_evidence 191 [some (.ref E.1), some (.int x1), none, none, none, none] [] S' Q) {rec : Int32 → Int32 → Int32 → Int32 → rS → Nat × Int32 × rS} {rok : Int32 → Int32 → Int32 → Int32 → rS → Prop} (hrec : ∀ (x1 : Int32) (x2 : Int32) (x3 : Int32) (x4 : Int32) (S : rS), rok x1 x2 x3 x4 S → X (rec x1 x2 x3 x4 S) → rX G E dX12_evidence mX12_evidence 70 [some (.ref E.1), some (.int x1), some (.int x2), some (.int x3), some (.int x4), none] [] S Q) {x1 : Int32} {x2 : Int32} {x3 : Int32} {x4 : Int32} {x5 : Int32} (ok : O_evidence_140 N rok x1 x2 x3 x4 x5 S) (hx : X (F_evidence_140 N rec x1 x2 x3 x4 x5 S)) : rX G E dX12_evidence mX12_evidence 140 [some (.ref E.1), some (.int x1), some (.int x2), some (.int x3), some (.int x4), some (.int x5)] [] S Q := by
  unfold O_evidence_140 at ok
  unfold F_evidence_140 at hx
  refine r_iload dX12_evidence_140 rfl ?_
  refine r_if_ne (tgt := 180) dX12_evidence_142 (by decide) (fun c_142 => ?_) (fun c_142 => ?_)
  · have ok := ok.2 c_142
    have hx := xif_n c_142 hx
    exact rX.cutz (b_evidence_180 hG hX0 hrec ok hx) ⟨rfl, rfl, rfl, rfl, rfl, trivial⟩
  · have ok := ok.1 c_142
    have hx := xif_p c_142 hx
    refine r_iload_n dX12_evidence_145 rfl rfl ?_
    refine r_if_eq (tgt := 180) dX12_evidence_146 (by decide) (fun c_146 => ?_) (fun c_146 => ?_)
    · have ok := ok.1 c_146
      have hx := xif_p c_146 hx
      exact rX.cutz (b_evidence_180 hG hX0 hrec ok hx) ⟨rfl, rfl, rfl, rfl, rfl, trivial⟩
    · have ok := ok.2 c_146
      have hx := xif_n c_146 hx
      refine r_aload_n dX12_evidence_149 rfl rfl ?_
      refine r_aload_n dX12_evidence_150 rfl rfl ?_
      refine r_getA 88 fX12_439 (by decide) (by decide) dX12_evidence_151 ?_
      refine r_iconst (v := nI 0) dX12_evidence_154 (by decide) ?_
      refine r_lald (by decide) (by decide) dX12_evidence_155 ok.1 ?_
      have ok := ok.2
      refine r_aload_n dX12_evidence_156 rfl rfl ?_
      refine r_getA 88 fX12_439 (by decide) (by decide) dX12_evidence_157 ?_
      refine r_iconst (v := nI 1) dX12_evidence_160 (by decide) ?_
      refine r_lald (by decide) (by decide) dX12_evidence_161 ok.1 ?_
      have ok := ok.2
      refine r_aload_n dX12_evidence_162 rfl rfl ?_
      refine r_getA 88 fX12_439 (by decide) (by decide) dX12_evidence_163 ?_
      refine r_iconst (v := nI 2) dX12_evidence_166 (by decide) ?_
      refine r_lald (by decide) (by decide) dX12_evidence_167 ok.1 ?_
      have ok := ok.2
      refine r_aload_n dX12_evidence_168 rfl rfl ?_
      refine r_getA 88 fX12_439 (by decide) (by decide) dX12_evidence_169 ?_
      refine r_iconst (v := nI 3) dX12_evidence_172 (by decide) ?_
      refine r_lald (by decide) (by decide) dX12_evidence_173 ok.1 ?_
      have ok := ok.2
      refine r_V4v (y' := mX12_writeId) dX12_evidence_174 lX12_537 kX12_writeId ⟨by decide, by decide⟩ rfl (Nat.le_of_ble_eq_true rfl) (rc_X12_writeId hG ok.1) (fun S_174 h_174 => ?_)
      subst h_174
      have ok := ok.2
      exact rX.cutz (b_evidence_177 hG hX0 hrec ok hx) ⟨rfl, rfl, rfl, rfl, rfl, trivial⟩
def F_evidence_137 (N : Nat) (rec : Int32 → Int32 → Int32 → Int32 → rS → Nat × Int32 × rS) (x1 : Int32) (x2 : Int32) (x3 : Int32) (x4 : Int32) (S : rS) : Nat × Int32 × rS := (F_evidence_185 N rec x1 x2 x3 x4 S)
def O_evidence_137 (N : Nat) (rok : Int32 → Int32 → Int32 → Int32 → rS → Prop) (x1 : Int32) (x2 : Int32) (x3 : Int32) (x4 : Int32) (S : rS) : Prop := O_evidence_185 N rok x1 x2 x3 x4 S
set_option maxHeartbeats 4000000 in
theorem b_evidence_137 {G : zG} {E : rE} {S : rS} {N : Nat} {Q : Option Value → rS → Prop} {X : Nat × Int32 × rS → Prop} (hG : zOK G) (hX0 : ∀ (x1 : Int32) (S' : rS), X (0, x1, S') → rX G E dX12_evidence mX12_evidence 191 [some (.ref E.1), some (.int x1), none, none, none, none] [] S' Q) {rec : Int32 → Int32 → Int32 → Int32 → rS → Nat × Int32 × rS} {rok : Int32 → Int32 → Int32 → Int32 → rS → Prop} (hrec : ∀ (x1 : Int32) (x2 : Int32) (x3 : Int32) (x4 : Int32) (S : rS), rok x1 x2 x3 x4 S → X (rec x1 x2 x3 x4 S) → rX G E dX12_evidence mX12_evidence 70 [some (.ref E.1), some (.int x1), some (.int x2), some (.int x3), some (.int x4), none] [] S Q) {x1 : Int32} {x2 : Int32} {x3 : Int32} {x4 : Int32} (ok : O_evidence_137 N rok x1 x2 x3 x4 S) (hx : X (F_evidence_137 N rec x1 x2 x3 x4 S)) : rX G E dX12_evidence mX12_evidence 137 [some (.ref E.1), some (.int x1), some (.int x2), some (.int x3), some (.int x4), none] [] S Q := by
  unfold O_evidence_137 at ok
  unfold F_evidence_137 at hx
  refine r_goto (tgt := 185) dX12_evidence_137 (by decide) ?_
  exact rX.cutz (b_evidence_185 hG hX0 hrec ok hx) ⟨rfl, rfl, rfl, rfl, rfl, trivial⟩
def F_evidence_95 (N : Nat) (rec : Int32 → Int32 → Int32 → Int32 → rS → Nat × Int32 × rS) (x1 : Int32) (x2 : Int32) (x3 : Int32) (x4 : Int32) (s0 : Int32) (S : rS) : Nat × Int32 × rS := (if s0 = 0 then (F_evidence_140 N rec x1 x2 x3 x4 s0 S) else (if (S.1 41) = 0 then (F_evidence_140 N rec x1 x2 x3 x4 s0 S) else (F_evidence_137 N rec x1 x2 x3 x4 (f_writeId N S (S.2.2 42 (nI 0).toNatClampNeg) (S.2.2 42 (nI 1).toNatClampNeg) (S.2.2 42 (nI 2).toNatClampNeg) (S.2.2 42 (nI 3).toNatClampNeg)))))
def O_evidence_95 (N : Nat) (rok : Int32 → Int32 → Int32 → Int32 → rS → Prop) (x1 : Int32) (x2 : Int32) (x3 : Int32) (x4 : Int32) (s0 : Int32) (S : rS) : Prop := ((s0 = 0 → O_evidence_140 N rok x1 x2 x3 x4 s0 S) ∧ (¬ s0 = 0 → (((S.1 41) = 0 → O_evidence_140 N rok x1 x2 x3 x4 s0 S) ∧ (¬ (S.1 41) = 0 → (vp_in (nI 0) 4) ∧ (vp_in (nI 1) 4) ∧ (vp_in (nI 2) 4) ∧ (vp_in (nI 3) 4) ∧ (o_writeId N S (S.2.2 42 (nI 0).toNatClampNeg) (S.2.2 42 (nI 1).toNatClampNeg) (S.2.2 42 (nI 2).toNatClampNeg) (S.2.2 42 (nI 3).toNatClampNeg)) ∧ O_evidence_137 N rok x1 x2 x3 x4 (f_writeId N S (S.2.2 42 (nI 0).toNatClampNeg) (S.2.2 42 (nI 1).toNatClampNeg) (S.2.2 42 (nI 2).toNatClampNeg) (S.2.2 42 (nI 3).toNatClampNeg))))))
set_option maxHeartbeats 4000000 in
theorem b_evidence_95 {G : zG} {E : rE} {S : rS} {N : Nat} {Q : Option Value → rS → Prop} {X : Nat × Int32 × rS → Prop} (hG : zOK G) (hX0 : ∀ (x1 : Int32) (S' : rS), X (0, x1, S') → rX G E dX12_evidence mX12_evidence 191 [some (.ref E.1), some (.int x1), none, none, none, none] [] S' Q) {rec : Int32 → Int32 → Int32 → Int32 → rS → Nat × Int32 × rS} {rok : Int32 → Int32 → Int32 → Int32 → rS → Prop} (hrec : ∀ (x1 : Int32) (x2 : Int32) (x3 : Int32) (x4 : Int32) (S : rS), rok x1 x2 x3 x4 S → X (rec x1 x2 x3 x4 S) → rX G E dX12_evidence mX12_evidence 70 [some (.ref E.1), some (.int x1), some (.int x2), some (.int x3), some (.int x4), none] [] S Q) {x1 : Int32} {x2 : Int32} {x3 : Int32} {x4 : Int32} {s0 : Int32} (ok : O_evidence_95 N rok x1 x2 x3 x4 s0 S) (hx : X (F_evidence_95 N rec x1 x2 x3 x4 s0 S)) : rX G E dX12_evidence mX12_evidence 95 [some (.ref E.1), some (.int x1), some (.int x2), some (.int x3), some (.int x4), none] [.int s0] S Q := by
  unfold O_evidence_95 at ok
  unfold F_evidence_95 at hx
  refine r_istore_5 dX12_evidence_95 (by decide) rfl ?_
  refine r_iload dX12_evidence_97 rfl ?_
  refine r_if_eq (tgt := 140) dX12_evidence_99 (by decide) (fun c_99 => ?_) (fun c_99 => ?_)
  · have ok := ok.1 c_99
    have hx := xif_p c_99 hx
    exact rX.cutz (b_evidence_140 hG hX0 hrec ok hx) ⟨rfl, rfl, rfl, rfl, rfl, rfl, trivial⟩
  · have ok := ok.2 c_99
    have hx := xif_n c_99 hx
    refine r_aload_n dX12_evidence_102 rfl rfl ?_
    refine r_getI 41 fX12_266 (by decide) (by decide) dX12_evidence_103 ?_
    refine r_if_eq (tgt := 140) dX12_evidence_106 (by decide) (fun c_106 => ?_) (fun c_106 => ?_)
    · have ok := ok.1 c_106
      have hx := xif_p c_106 hx
      exact rX.cutz (b_evidence_140 hG hX0 hrec ok hx) ⟨rfl, rfl, rfl, rfl, rfl, rfl, trivial⟩
    · have ok := ok.2 c_106
      have hx := xif_n c_106 hx
      refine r_aload_n dX12_evidence_109 rfl rfl ?_
      refine r_aload_n dX12_evidence_110 rfl rfl ?_
      refine r_getA 42 fX12_270 (by decide) (by decide) dX12_evidence_111 ?_
      refine r_iconst (v := nI 0) dX12_evidence_114 (by decide) ?_
      refine r_lald (by decide) (by decide) dX12_evidence_115 ok.1 ?_
      have ok := ok.2
      refine r_aload_n dX12_evidence_116 rfl rfl ?_
      refine r_getA 42 fX12_270 (by decide) (by decide) dX12_evidence_117 ?_
      refine r_iconst (v := nI 1) dX12_evidence_120 (by decide) ?_
      refine r_lald (by decide) (by decide) dX12_evidence_121 ok.1 ?_
      have ok := ok.2
      refine r_aload_n dX12_evidence_122 rfl rfl ?_
      refine r_getA 42 fX12_270 (by decide) (by decide) dX12_evidence_123 ?_
      refine r_iconst (v := nI 2) dX12_evidence_126 (by decide) ?_
      refine r_lald (by decide) (by decide) dX12_evidence_127 ok.1 ?_
      have ok := ok.2
      refine r_aload_n dX12_evidence_128 rfl rfl ?_
      refine r_getA 42 fX12_270 (by decide) (by decide) dX12_evidence_129 ?_
      refine r_iconst (v := nI 3) dX12_evidence_132 (by decide) ?_
      refine r_lald (by decide) (by decide) dX12_evidence_133 ok.1 ?_
      have ok := ok.2
      refine r_V4v (y' := mX12_writeId) dX12_evidence_134 lX12_537 kX12_writeId ⟨by decide, by decide⟩ rfl (Nat.le_of_ble_eq_true rfl) (rc_X12_writeId hG ok.1) (fun S_134 h_134 => ?_)
      subst h_134
      have ok := ok.2
      exact rX.cutz (b_evidence_137 hG hX0 hrec ok hx) ⟨rfl, rfl, rfl, rfl, rfl, trivial⟩
def F_evidence_87 (N : Nat) (rec : Int32 → Int32 → Int32 → Int32 → rS → Nat × Int32 × rS) (x1 : Int32) (x2 : Int32) (x3 : Int32) (x4 : Int32) (s0 : Int32) (s1 : Int32) (S : rS) : Nat × Int32 × rS := (if s0 = s1 then (F_evidence_95 N rec x1 x2 x3 x4 (nI 1) S) else (F_evidence_95 N rec x1 x2 x3 x4 (nI 0) S))
def O_evidence_87 (N : Nat) (rok : Int32 → Int32 → Int32 → Int32 → rS → Prop) (x1 : Int32) (x2 : Int32) (x3 : Int32) (x4 : Int32) (s0 : Int32) (s1 : Int32) (S : rS) : Prop := ((s0 = s1 → O_evidence_95 N rok x1 x2 x3 x4 (nI 1) S) ∧ (¬ s0 = s1 → O_evidence_95 N rok x1 x2 x3 x4 (nI 0) S))
set_option maxHeartbeats 4000000 in
theorem b_evidence_87 {G : zG} {E : rE} {S : rS} {N : Nat} {Q : Option Value → rS → Prop} {X : Nat × Int32 × rS → Prop} (hG : zOK G) (hX0 : ∀ (x1 : Int32) (S' : rS), X (0, x1, S') → rX G E dX12_evidence mX12_evidence 191 [some (.ref E.1), some (.int x1), none, none, none, none] [] S' Q) {rec : Int32 → Int32 → Int32 → Int32 → rS → Nat × Int32 × rS} {rok : Int32 → Int32 → Int32 → Int32 → rS → Prop} (hrec : ∀ (x1 : Int32) (x2 : Int32) (x3 : Int32) (x4 : Int32) (S : rS), rok x1 x2 x3 x4 S → X (rec x1 x2 x3 x4 S) → rX G E dX12_evidence mX12_evidence 70 [some (.ref E.1), some (.int x1), some (.int x2), some (.int x3), some (.int x4), none] [] S Q) {x1 : Int32} {x2 : Int32} {x3 : Int32} {x4 : Int32} {s0 : Int32} {s1 : Int32} (ok : O_evidence_87 N rok x1 x2 x3 x4 s0 s1 S) (hx : X (F_evidence_87 N rec x1 x2 x3 x4 s0 s1 S)) : rX G E dX12_evidence mX12_evidence 87 [some (.ref E.1), some (.int x1), some (.int x2), some (.int x3), some (.int x4), none] [.int s1, .int s0] S Q := by
  unfold O_evidence_87 at ok
  unfold F_evidence_87 at hx
  refine r_icmp_ne (tgt := 94) dX12_evidence_87 (by decide) (fun c_87 => ?_) (fun c_87 => ?_)
  · have ok := ok.2 c_87
    have hx := xif_n c_87 hx
    refine r_iconst (v := nI 0) dX12_evidence_94 (by decide) ?_
    exact rX.cutz (b_evidence_95 hG hX0 hrec ok hx) ⟨rfl, rfl, rfl, rfl, rfl, trivial⟩
  · have ok := ok.1 c_87
    have hx := xif_p c_87 hx
    refine r_iconst (v := nI 1) dX12_evidence_90 (by decide) ?_
    refine r_goto (tgt := 95) dX12_evidence_91 (by decide) ?_
    exact rX.cutz (b_evidence_95 hG hX0 hrec ok hx) ⟨rfl, rfl, rfl, rfl, rfl, trivial⟩
def B_evidence_70 (N : Nat) (rec : Int32 → Int32 → Int32 → Int32 → rS → Nat × Int32 × rS) (x1 : Int32) (x2 : Int32) (x3 : Int32) (x4 : Int32) (S : rS) : Nat × Int32 × rS := (if (nI 2) ≤ x4 then (0, x1, S) else (if x4 = 0 then (F_evidence_87 N rec x1 x2 x3 x4 x3 (nI 1) S) else (F_evidence_87 N rec x1 x2 x3 x4 x3 (nI 0) S)))
def OB_evidence_70 (N : Nat) (rok : Int32 → Int32 → Int32 → Int32 → rS → Prop) (x1 : Int32) (x2 : Int32) (x3 : Int32) (x4 : Int32) (S : rS) : Prop := (((nI 2) ≤ x4 → True) ∧ (¬ (nI 2) ≤ x4 → ((x4 = 0 → O_evidence_87 N rok x1 x2 x3 x4 x3 (nI 1) S) ∧ (¬ x4 = 0 → O_evidence_87 N rok x1 x2 x3 x4 x3 (nI 0) S))))
set_option maxHeartbeats 4000000 in
theorem bb_evidence_70 {G : zG} {E : rE} {S : rS} {N : Nat} {Q : Option Value → rS → Prop} {X : Nat × Int32 × rS → Prop} (hG : zOK G) (hX0 : ∀ (x1 : Int32) (S' : rS), X (0, x1, S') → rX G E dX12_evidence mX12_evidence 191 [some (.ref E.1), some (.int x1), none, none, none, none] [] S' Q) {rec : Int32 → Int32 → Int32 → Int32 → rS → Nat × Int32 × rS} {rok : Int32 → Int32 → Int32 → Int32 → rS → Prop} (hrec : ∀ (x1 : Int32) (x2 : Int32) (x3 : Int32) (x4 : Int32) (S : rS), rok x1 x2 x3 x4 S → X (rec x1 x2 x3 x4 S) → rX G E dX12_evidence mX12_evidence 70 [some (.ref E.1), some (.int x1), some (.int x2), some (.int x3), some (.int x4), none] [] S Q) {x1 : Int32} {x2 : Int32} {x3 : Int32} {x4 : Int32} (ok : OB_evidence_70 N rok x1 x2 x3 x4 S) (hx : X (B_evidence_70 N rec x1 x2 x3 x4 S)) : rX G E dX12_evidence mX12_evidence 70 [some (.ref E.1), some (.int x1), some (.int x2), some (.int x3), some (.int x4), none] [] S Q := by
  unfold OB_evidence_70 at ok
  unfold B_evidence_70 at hx
  refine r_iload dX12_evidence_70 rfl ?_
  refine r_iconst (v := nI 2) dX12_evidence_72 (by decide) ?_
  refine r_icmp_ge (tgt := 191) dX12_evidence_73 (by decide) (fun c_73 => ?_) (fun c_73 => ?_)
  · have ok := ok.1 c_73
    have hx := xif_p c_73 hx
    exact rX.cutz (hX0 _ S hx) ⟨rfl, rfl, trivial⟩
  · have ok := ok.2 c_73
    have hx := xif_n c_73 hx
    refine r_iload_n dX12_evidence_76 rfl rfl ?_
    refine r_iload dX12_evidence_77 rfl ?_
    refine r_if_ne (tgt := 86) dX12_evidence_79 (by decide) (fun c_79 => ?_) (fun c_79 => ?_)
    · have ok := ok.2 c_79
      have hx := xif_n c_79 hx
      refine r_iconst (v := nI 0) dX12_evidence_86 (by decide) ?_
      exact rX.cutz (b_evidence_87 hG hX0 hrec ok hx) ⟨rfl, rfl, rfl, rfl, rfl, trivial⟩
    · have ok := ok.1 c_79
      have hx := xif_p c_79 hx
      refine r_iconst (v := nI 1) dX12_evidence_82 (by decide) ?_
      refine r_goto (tgt := 87) dX12_evidence_83 (by decide) ?_
      exact rX.cutz (b_evidence_87 hG hX0 hrec ok hx) ⟨rfl, rfl, rfl, rfl, rfl, trivial⟩
def L_evidence_70 (N : Nat) : Nat → Int32 → Int32 → Int32 → Int32 → rS → Nat × Int32 × rS
  | 0, x1, x2, x3, x4, S => (0, 0, S)
  | n + 1, x1, x2, x3, x4, S => B_evidence_70 N (L_evidence_70 N n) x1 x2 x3 x4 S
def OL_evidence_70 (N : Nat) : Nat → Int32 → Int32 → Int32 → Int32 → rS → Prop
  | 0, _, _, _, _, _ => False
  | n + 1, x1, x2, x3, x4, S => OB_evidence_70 N (OL_evidence_70 N n) x1 x2 x3 x4 S
set_option maxHeartbeats 4000000 in
theorem l_evidence_70 {G : zG} {E : rE} {N : Nat} {Q : Option Value → rS → Prop} {X : Nat × Int32 × rS → Prop} (hG : zOK G) (hX0 : ∀ (x1 : Int32) (S' : rS), X (0, x1, S') → rX G E dX12_evidence mX12_evidence 191 [some (.ref E.1), some (.int x1), none, none, none, none] [] S' Q) : ∀ (n : Nat) (x1 : Int32) (x2 : Int32) (x3 : Int32) (x4 : Int32) (S : rS), OL_evidence_70 N n x1 x2 x3 x4 S → X (L_evidence_70 N n x1 x2 x3 x4 S) → rX G E dX12_evidence mX12_evidence 70 [some (.ref E.1), some (.int x1), some (.int x2), some (.int x3), some (.int x4), none] [] S Q := by
  intro n
  induction n with
  | zero => intro x1 x2 x3 x4 S ok; exact absurd ok id
  | succ n ih =>
    intro x1 x2 x3 x4 S ok hx
    exact bb_evidence_70 hG hX0 (rec := L_evidence_70 N n) (rok := OL_evidence_70 N n) (fun x1 x2 x3 x4 S ok hx => ih x1 x2 x3 x4 S ok hx) ok hx
def A_evidence_70 (N : Nat) (x1 : Int32) (x2 : Int32) (x3 : Int32) (x4 : Int32) (S : rS) (z : Nat × Int32 × rS) : rS := (F_evidence_191 N (z.2.1) z.2.2)
def OA_evidence_70 (N : Nat) (x1 : Int32) (x2 : Int32) (x3 : Int32) (x4 : Int32) (S : rS) (z : Nat × Int32 × rS) : Prop := O_evidence_191 N (z.2.1) z.2.2
set_option maxHeartbeats 4000000 in
theorem c_evidence_70 {G : zG} {E : rE} {S : rS} {N : Nat} {Q : Option Value → rS → Prop} {X : rS → Prop} (hG : zOK G) (hR : ∀ S', X S' → Q none S') {x1 : Int32} {x2 : Int32} {x3 : Int32} {x4 : Int32} (ok : OL_evidence_70 N N x1 x2 x3 x4 S ∧ OA_evidence_70 N x1 x2 x3 x4 S (L_evidence_70 N N x1 x2 x3 x4 S)) (hx : X (A_evidence_70 N x1 x2 x3 x4 S (L_evidence_70 N N x1 x2 x3 x4 S))) : rX G E dX12_evidence mX12_evidence 70 [some (.ref E.1), some (.int x1), some (.int x2), some (.int x3), some (.int x4), none] [] S Q := by
  refine l_evidence_70 hG ?_ N x1 x2 x3 x4 S ok.1 (X := fun z => OA_evidence_70 N x1 x2 x3 x4 S z ∧ X (A_evidence_70 N x1 x2 x3 x4 S z)) ⟨ok.2, hx⟩
  · intro x1' S' hz
    obtain ⟨ok, hx⟩ := hz
    unfold OA_evidence_70 at ok
    unfold A_evidence_70 at hx
    exact rX.cutz (b_evidence_191 hG hR ok hx) ⟨rfl, rfl, trivial⟩
def F_evidence_66 (N : Nat) (x1 : Int32) (x2 : Int32) (s0 : Int32) (S : rS) : rS := (A_evidence_70 N x1 x2 s0 (nI 0) S (L_evidence_70 N N x1 x2 s0 (nI 0) S))
def O_evidence_66 (N : Nat) (x1 : Int32) (x2 : Int32) (s0 : Int32) (S : rS) : Prop := (OL_evidence_70 N N x1 x2 s0 (nI 0) S ∧ OA_evidence_70 N x1 x2 s0 (nI 0) S (L_evidence_70 N N x1 x2 s0 (nI 0) S))
set_option maxHeartbeats 4000000 in
theorem b_evidence_66 {G : zG} {E : rE} {S : rS} {N : Nat} {Q : Option Value → rS → Prop} {X : rS → Prop} (hG : zOK G) (hR : ∀ S', X S' → Q none S') {x1 : Int32} {x2 : Int32} {s0 : Int32} (ok : O_evidence_66 N x1 x2 s0 S) (hx : X (F_evidence_66 N x1 x2 s0 S)) : rX G E dX12_evidence mX12_evidence 66 [some (.ref E.1), some (.int x1), some (.int x2), none, none, none] [.int s0] S Q := by
  unfold O_evidence_66 at ok
  unfold F_evidence_66 at hx
  refine r_istore_3 dX12_evidence_66 (by decide) rfl ?_
  refine r_iconst (v := nI 0) dX12_evidence_67 (by decide) ?_
  refine r_istore_4 dX12_evidence_68 (by decide) rfl ?_
  exact rX.cutz (c_evidence_70 hG hR ok hx) ⟨rfl, rfl, rfl, rfl, rfl, trivial⟩
def F_evidence_65 (N : Nat) (x1 : Int32) (x2 : Int32) (S : rS) : rS := (F_evidence_66 N x1 x2 (nI 0) S)
def O_evidence_65 (N : Nat) (x1 : Int32) (x2 : Int32) (S : rS) : Prop := O_evidence_66 N x1 x2 (nI 0) S
set_option maxHeartbeats 4000000 in
theorem b_evidence_65 {G : zG} {E : rE} {S : rS} {N : Nat} {Q : Option Value → rS → Prop} {X : rS → Prop} (hG : zOK G) (hR : ∀ S', X S' → Q none S') {x1 : Int32} {x2 : Int32} (ok : O_evidence_65 N x1 x2 S) (hx : X (F_evidence_65 N x1 x2 S)) : rX G E dX12_evidence mX12_evidence 65 [some (.ref E.1), some (.int x1), some (.int x2), none, none, none] [] S Q := by
  unfold O_evidence_65 at ok
  unfold F_evidence_65 at hx
  refine r_iconst (v := nI 0) dX12_evidence_65 (by decide) ?_
  exact rX.cutz (b_evidence_66 hG hR ok hx) ⟨rfl, rfl, rfl, trivial⟩
def F_evidence_61 (N : Nat) (x1 : Int32) (x2 : Int32) (S : rS) : rS := (F_evidence_66 N x1 x2 (nI 1) S)
def O_evidence_61 (N : Nat) (x1 : Int32) (x2 : Int32) (S : rS) : Prop := O_evidence_66 N x1 x2 (nI 1) S
set_option maxHeartbeats 4000000 in
theorem b_evidence_61 {G : zG} {E : rE} {S : rS} {N : Nat} {Q : Option Value → rS → Prop} {X : rS → Prop} (hG : zOK G) (hR : ∀ S', X S' → Q none S') {x1 : Int32} {x2 : Int32} (ok : O_evidence_61 N x1 x2 S) (hx : X (F_evidence_61 N x1 x2 S)) : rX G E dX12_evidence mX12_evidence 61 [some (.ref E.1), some (.int x1), some (.int x2), none, none, none] [] S Q := by
  unfold O_evidence_61 at ok
  unfold F_evidence_61 at hx
  refine r_iconst (v := nI 1) dX12_evidence_61 (by decide) ?_
  refine r_goto (tgt := 66) dX12_evidence_62 (by decide) ?_
  exact rX.cutz (b_evidence_66 hG hR ok hx) ⟨rfl, rfl, rfl, trivial⟩
def F_evidence_43 (N : Nat) (x1 : Int32) (x2 : Int32) (S : rS) : rS := (if (S.1 41) = 0 then (F_evidence_61 N x1 x2 S) else (if x2 = 0 then (F_evidence_65 N x1 x2 S) else (if (f_isLessId N S) = 0 then (F_evidence_65 N x1 x2 S) else (F_evidence_61 N x1 x2 S))))
def O_evidence_43 (N : Nat) (x1 : Int32) (x2 : Int32) (S : rS) : Prop := (((S.1 41) = 0 → O_evidence_61 N x1 x2 S) ∧ (¬ (S.1 41) = 0 → ((x2 = 0 → O_evidence_65 N x1 x2 S) ∧ (¬ x2 = 0 → (o_isLessId N S) ∧ (((f_isLessId N S) = 0 → O_evidence_65 N x1 x2 S) ∧ (¬ (f_isLessId N S) = 0 → O_evidence_61 N x1 x2 S))))))
set_option maxHeartbeats 4000000 in
theorem b_evidence_43 {G : zG} {E : rE} {S : rS} {N : Nat} {Q : Option Value → rS → Prop} {X : rS → Prop} (hG : zOK G) (hR : ∀ S', X S' → Q none S') {x1 : Int32} {x2 : Int32} (ok : O_evidence_43 N x1 x2 S) (hx : X (F_evidence_43 N x1 x2 S)) : rX G E dX12_evidence mX12_evidence 43 [some (.ref E.1), some (.int x1), some (.int x2), none, none, none] [] S Q := by
  unfold O_evidence_43 at ok
  unfold F_evidence_43 at hx
  refine r_aload_n dX12_evidence_43 rfl rfl ?_
  refine r_getI 41 fX12_266 (by decide) (by decide) dX12_evidence_44 ?_
  refine r_if_eq (tgt := 61) dX12_evidence_47 (by decide) (fun c_47 => ?_) (fun c_47 => ?_)
  · have ok := ok.1 c_47
    have hx := xif_p c_47 hx
    exact rX.cutz (b_evidence_61 hG hR ok hx) ⟨rfl, rfl, rfl, trivial⟩
  · have ok := ok.2 c_47
    have hx := xif_n c_47 hx
    refine r_iload_n dX12_evidence_50 rfl rfl ?_
    refine r_if_eq (tgt := 65) dX12_evidence_51 (by decide) (fun c_51 => ?_) (fun c_51 => ?_)
    · have ok := ok.1 c_51
      have hx := xif_p c_51 hx
      exact rX.cutz (b_evidence_65 hG hR ok hx) ⟨rfl, rfl, rfl, trivial⟩
    · have ok := ok.2 c_51
      have hx := xif_n c_51 hx
      refine r_aload_n dX12_evidence_54 rfl rfl ?_
      refine r_V0i (y' := mX12_isLessId) dX12_evidence_55 lX12_694 kX12_isLessId ⟨by decide, by decide⟩ rfl (Nat.le_of_ble_eq_true rfl) (rc_X12_isLessId hG ok.1) (fun v_55 S_55 h_55 => ?_)
      obtain ⟨rfl, hS_55⟩ := h_55
      have hS_55 := hS_55.symm
      subst hS_55
      have ok := ok.2
      refine r_if_eq (tgt := 65) dX12_evidence_58 (by decide) (fun c_58 => ?_) (fun c_58 => ?_)
      · have ok := ok.1 c_58
        have hx := xif_p c_58 hx
        exact rX.cutz (b_evidence_65 hG hR ok hx) ⟨rfl, rfl, rfl, trivial⟩
      · have ok := ok.2 c_58
        have hx := xif_n c_58 hx
        exact rX.cutz (b_evidence_61 hG hR ok hx) ⟨rfl, rfl, rfl, trivial⟩
def F_evidence_35 (N : Nat) (x1 : Int32) (x2 : Int32) (S : rS) : rS := (F_evidence_43 N x1 x2 (f_write N S (S.1 39)))
def O_evidence_35 (N : Nat) (x1 : Int32) (x2 : Int32) (S : rS) : Prop := (o_write N S (S.1 39)) ∧ O_evidence_43 N x1 x2 (f_write N S (S.1 39))
set_option maxHeartbeats 4000000 in
theorem b_evidence_35 {G : zG} {E : rE} {S : rS} {N : Nat} {Q : Option Value → rS → Prop} {X : rS → Prop} (hG : zOK G) (hR : ∀ S', X S' → Q none S') {x1 : Int32} {x2 : Int32} (ok : O_evidence_35 N x1 x2 S) (hx : X (F_evidence_35 N x1 x2 S)) : rX G E dX12_evidence mX12_evidence 35 [some (.ref E.1), some (.int x1), some (.int x2), none, none, none] [] S Q := by
  unfold O_evidence_35 at ok
  unfold F_evidence_35 at hx
  refine r_aload_n dX12_evidence_35 rfl rfl ?_
  refine r_aload_n dX12_evidence_36 rfl rfl ?_
  refine r_getI 39 fX12_263 (by decide) (by decide) dX12_evidence_37 ?_
  refine r_V1v (y' := mX12_write) dX12_evidence_40 lX12_226 kX12_write ⟨by decide, by decide⟩ rfl (Nat.le_of_ble_eq_true rfl) (rc_X12_write hG ok.1) (fun S_40 h_40 => ?_)
  subst h_40
  have ok := ok.2
  exact rX.cutz (b_evidence_43 hG hR ok hx) ⟨rfl, rfl, rfl, trivial⟩
def F_evidence_27 (N : Nat) (x1 : Int32) (x2 : Int32) (S : rS) : rS := (F_evidence_35 N x1 x2 (f_writeTwo N S (S.1 38)))
def O_evidence_27 (N : Nat) (x1 : Int32) (x2 : Int32) (S : rS) : Prop := (o_writeTwo N S (S.1 38)) ∧ O_evidence_35 N x1 x2 (f_writeTwo N S (S.1 38))
set_option maxHeartbeats 4000000 in
theorem b_evidence_27 {G : zG} {E : rE} {S : rS} {N : Nat} {Q : Option Value → rS → Prop} {X : rS → Prop} (hG : zOK G) (hR : ∀ S', X S' → Q none S') {x1 : Int32} {x2 : Int32} (ok : O_evidence_27 N x1 x2 S) (hx : X (F_evidence_27 N x1 x2 S)) : rX G E dX12_evidence mX12_evidence 27 [some (.ref E.1), some (.int x1), some (.int x2), none, none, none] [] S Q := by
  unfold O_evidence_27 at ok
  unfold F_evidence_27 at hx
  refine r_aload_n dX12_evidence_27 rfl rfl ?_
  refine r_aload_n dX12_evidence_28 rfl rfl ?_
  refine r_getI 38 fX12_257 (by decide) (by decide) dX12_evidence_29 ?_
  refine r_V1v (y' := mX12_writeTwo) dX12_evidence_32 lX12_229 kX12_writeTwo ⟨by decide, by decide⟩ rfl (Nat.le_of_ble_eq_true rfl) (rc_X12_writeTwo hG ok.1) (fun S_32 h_32 => ?_)
  subst h_32
  have ok := ok.2
  exact rX.cutz (b_evidence_35 hG hR ok hx) ⟨rfl, rfl, rfl, trivial⟩
def F_evidence_19 (N : Nat) (x1 : Int32) (x2 : Int32) (S : rS) : rS := (F_evidence_27 N x1 x2 (f_write N S (S.1 36)))
def O_evidence_19 (N : Nat) (x1 : Int32) (x2 : Int32) (S : rS) : Prop := (o_write N S (S.1 36)) ∧ O_evidence_27 N x1 x2 (f_write N S (S.1 36))
set_option maxHeartbeats 4000000 in
theorem b_evidence_19 {G : zG} {E : rE} {S : rS} {N : Nat} {Q : Option Value → rS → Prop} {X : rS → Prop} (hG : zOK G) (hR : ∀ S', X S' → Q none S') {x1 : Int32} {x2 : Int32} (ok : O_evidence_19 N x1 x2 S) (hx : X (F_evidence_19 N x1 x2 S)) : rX G E dX12_evidence mX12_evidence 19 [some (.ref E.1), some (.int x1), some (.int x2), none, none, none] [] S Q := by
  unfold O_evidence_19 at ok
  unfold F_evidence_19 at hx
  refine r_aload_n dX12_evidence_19 rfl rfl ?_
  refine r_aload_n dX12_evidence_20 rfl rfl ?_
  refine r_getI 36 fX12_282 (by decide) (by decide) dX12_evidence_21 ?_
  refine r_V1v (y' := mX12_write) dX12_evidence_24 lX12_226 kX12_write ⟨by decide, by decide⟩ rfl (Nat.le_of_ble_eq_true rfl) (rc_X12_write hG ok.1) (fun S_24 h_24 => ?_)
  subst h_24
  have ok := ok.2
  exact rX.cutz (b_evidence_27 hG hR ok hx) ⟨rfl, rfl, rfl, trivial⟩
def F_evidence_11 (N : Nat) (x1 : Int32) (x2 : Int32) (S : rS) : rS := (F_evidence_19 N x1 x2 (f_write N S (S.1 37)))
def O_evidence_11 (N : Nat) (x1 : Int32) (x2 : Int32) (S : rS) : Prop := (o_write N S (S.1 37)) ∧ O_evidence_19 N x1 x2 (f_write N S (S.1 37))
set_option maxHeartbeats 4000000 in
theorem b_evidence_11 {G : zG} {E : rE} {S : rS} {N : Nat} {Q : Option Value → rS → Prop} {X : rS → Prop} (hG : zOK G) (hR : ∀ S', X S' → Q none S') {x1 : Int32} {x2 : Int32} (ok : O_evidence_11 N x1 x2 S) (hx : X (F_evidence_11 N x1 x2 S)) : rX G E dX12_evidence mX12_evidence 11 [some (.ref E.1), some (.int x1), some (.int x2), none, none, none] [] S Q := by
  unfold O_evidence_11 at ok
  unfold F_evidence_11 at hx
  refine r_aload_n dX12_evidence_11 rfl rfl ?_
  refine r_aload_n dX12_evidence_12 rfl rfl ?_
  refine r_getI 37 fX12_260 (by decide) (by decide) dX12_evidence_13 ?_
  refine r_V1v (y' := mX12_write) dX12_evidence_16 lX12_226 kX12_write ⟨by decide, by decide⟩ rfl (Nat.le_of_ble_eq_true rfl) (rc_X12_write hG ok.1) (fun S_16 h_16 => ?_)
  subst h_16
  have ok := ok.2
  exact rX.cutz (b_evidence_19 hG hR ok hx) ⟨rfl, rfl, rfl, trivial⟩
def F_evidence_0 (N : Nat) (x1 : Int32) (x2 : Int32) (S : rS) : rS := (F_evidence_11 N x1 x2 (f_write N (rsI S 33 (nI 0)) (nI 6)))
def O_evidence_0 (N : Nat) (x1 : Int32) (x2 : Int32) (S : rS) : Prop := (o_write N (rsI S 33 (nI 0)) (nI 6)) ∧ O_evidence_11 N x1 x2 (f_write N (rsI S 33 (nI 0)) (nI 6))
set_option maxHeartbeats 4000000 in
theorem b_evidence_0 {G : zG} {E : rE} {S : rS} {N : Nat} {Q : Option Value → rS → Prop} {X : rS → Prop} (hG : zOK G) (hR : ∀ S', X S' → Q none S') {x1 : Int32} {x2 : Int32} (ok : O_evidence_0 N x1 x2 S) (hx : X (F_evidence_0 N x1 x2 S)) : rX G E dX12_evidence mX12_evidence 0 [some (.ref E.1), some (.int x1), some (.int x2), none, none, none] [] S Q := by
  unfold O_evidence_0 at ok
  unfold F_evidence_0 at hx
  refine r_aload_n dX12_evidence_0 rfl rfl ?_
  refine r_iconst (v := nI 0) dX12_evidence_1 (by decide) ?_
  refine r_putI 33 fX12_201 (by decide) (by decide) rfl rfl rfl dX12_evidence_2 ?_
  refine r_aload_n dX12_evidence_5 rfl rfl ?_
  refine r_bipush (v := nI 6) dX12_evidence_6 (by decide) ?_
  refine r_V1v (y' := mX12_write) dX12_evidence_8 lX12_226 kX12_write ⟨by decide, by decide⟩ rfl (Nat.le_of_ble_eq_true rfl) (rc_X12_write hG ok.1) (fun S_8 h_8 => ?_)
  subst h_8
  have ok := ok.2
  exact rX.cutz (b_evidence_11 hG hR ok hx) ⟨rfl, rfl, rfl, trivial⟩
def f_evidence (N : Nat) (S : rS) (x1 : Int32) (x2 : Int32) : rS := F_evidence_0 N x1 x2 S
def o_evidence (N : Nat) (S : rS) (x1 : Int32) (x2 : Int32) : Prop := O_evidence_0 N x1 x2 S
set_option maxHeartbeats 4000000 in
theorem rc_X12_evidence {G : zG} {E : rE} {S : rS} {N : Nat} (hG : zOK G) {x1 : Int32} {x2 : Int32} (ok : o_evidence N S x1 x2) : rCv G E dX12_evidence mX12_evidence [.ref E.1, .int x1, .int x2] S (fun S' => S' = f_evidence N S x1 x2) := by
  refine rC.ofX rfl (Nat.le_of_ble_eq_true rfl) ?_
  show rX G E dX12_evidence mX12_evidence 0 [some (.ref E.1), some (.int x1), some (.int x2), none, none, none] [] S _
  exact rX.cutz (b_evidence_0 (X := fun F => F = f_evidence N S x1 x2) hG (fun S' h => ⟨rfl, h⟩) ok rfl) ⟨rfl, rfl, rfl, trivial⟩

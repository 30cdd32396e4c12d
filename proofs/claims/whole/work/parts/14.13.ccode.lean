/-! X8_clear -/
def F_X8_clear_231 (N : Nat) (x0 : Option Nat) (x3 : Int32) (x4 : Int32) (S : cS) : cS := (csA S (za (cR S 5 (za x0))) x3.toNatClampNeg x4)
def O_X8_clear_231 (N : Nat) (x0 : Option Nat) (x3 : Int32) (x4 : Int32) (S : cS) : Prop := (cis S x0 7) ∧ (cis S (cR S 5 (za x0)) 21 ∧ vp_in x3 (cL S (za (cR S 5 (za x0))))) ∧ True
set_option maxRecDepth 100000 in
set_option maxHeartbeats 4000000 in
theorem b_X8_clear_231 {G : zG} {o : Nat → Option va_E} {S : cS} {N : Nat} {Q : Option Value → cS → Prop} {X : cS → Prop} (hG : zOK G) (hR : ∀ S', X S' → Q none S') {x0 : Option Nat} {x3 : Int32} {x4 : Int32} (ok : O_X8_clear_231 N x0 x3 x4 S) (hx : X (F_X8_clear_231 N x0 x3 x4 S)) : cX G o dX8_clear mX8_clear 231 [some (va_rf x0), none, none, some (.int x3), some (.int x4), none, none, none, none, none] [] S Q := by
  unfold O_X8_clear_231 at ok
  unfold F_X8_clear_231 at hx
  refine c_aload_nQ dX8_clear_231 rfl rfl ?_
  refine c_getR (C := RX8) (T := TX8) (N := 14) (ci := 6) (k := 5) ⟨rfl, inT8, by decide, fX8_21⟩ (by decide) (by decide) (by decide) dX8_clear_232 ok.1 ?_
  have ok := ok.2
  refine c_iload_n dX8_clear_235 rfl rfl ?_
  refine c_iload dX8_clear_236 rfl ?_
  refine c_iast hG dX8_clear_238 ok.1 ?_
  have ok := ok.2
  exact c_return rfl dX8_clear_239 (hR _ hx)
def F_X8_clear_223 (N : Nat) (rec : Option Nat → Int32 → Int32 → Int32 → Int32 → cS → Nat × Option Nat × Int32 × Int32 × cS) (x0 : Option Nat) (x2 : Int32) (x3 : Int32) (x5 : Int32) (s0 : Int32) (S : cS) : Nat × Option Nat × Int32 × Int32 × cS := (rec x0 x2 x3 s0 (x5 + nI 1) S)
def O_X8_clear_223 (N : Nat) (rok : Option Nat → Int32 → Int32 → Int32 → Int32 → cS → Prop) (x0 : Option Nat) (x2 : Int32) (x3 : Int32) (x5 : Int32) (s0 : Int32) (S : cS) : Prop := rok x0 x2 x3 s0 (x5 + nI 1) S
set_option maxRecDepth 100000 in
set_option maxHeartbeats 4000000 in
theorem b_X8_clear_223 {G : zG} {o : Nat → Option va_E} {S : cS} {N : Nat} {Q : Option Value → cS → Prop} {X : Nat × Option Nat × Int32 × Int32 × cS → Prop} (hG : zOK G) (hX0 : ∀ (x0 : Option Nat) (x3 : Int32) (x4 : Int32) (S' : cS), X (0, x0, x3, x4, S') → cX G o dX8_clear mX8_clear 231 [some (va_rf x0), none, none, some (.int x3), some (.int x4), none, none, none, none, none] [] S' Q) {rec : Option Nat → Int32 → Int32 → Int32 → Int32 → cS → Nat × Option Nat × Int32 × Int32 × cS} {rok : Option Nat → Int32 → Int32 → Int32 → Int32 → cS → Prop} (hrec : ∀ (x0 : Option Nat) (x2 : Int32) (x3 : Int32) (x4 : Int32) (x5 : Int32) (S : cS), rok x0 x2 x3 x4 x5 S → X (rec x0 x2 x3 x4 x5 S) → cX G o dX8_clear mX8_clear 10 [some (va_rf x0), none, some (.int x2), some (.int x3), some (.int x4), some (.int x5), none, none, none, none] [] S Q) {x0 : Option Nat} {x2 : Int32} {x3 : Int32} {x5 : Int32} {s0 : Int32} (ok : O_X8_clear_223 N rok x0 x2 x3 x5 s0 S) (hx : X (F_X8_clear_223 N rec x0 x2 x3 x5 s0 S)) : cX G o dX8_clear mX8_clear 223 [some (va_rf x0), none, some (.int x2), some (.int x3), none, some (.int x5), none, none, none, none] [.int s0] S Q := by
  unfold O_X8_clear_223 at ok
  unfold F_X8_clear_223 at hx
  refine c_istore_4 dX8_clear_223 (by decide) rfl ?_
  refine c_iinc_5 (v := (x5 + nI 1)) dX8_clear_225 rfl (by first | rfl | (congr 1)) (by decide) rfl ?_
  refine c_goto (tgt := 10) dX8_clear_228 (by decide) ?_
  exact cX.cutz (hrec _ _ _ _ _ S ok hx) ⟨rfl, rfl, rfl, rfl, rfl, trivial⟩
def F_X8_clear_209 (N : Nat) (rec : Option Nat → Int32 → Int32 → Int32 → Int32 → cS → Nat × Option Nat × Int32 × Int32 × cS) (x0 : Option Nat) (x2 : Int32) (x3 : Int32) (x4 : Int32) (x5 : Int32) (x7 : Int32) (S : cS) : Nat × Option Nat × Int32 × Int32 × cS := (if x7 = 0 then (F_X8_clear_223 N rec x0 x2 x3 x5 x4 S) else (F_X8_clear_223 N rec x0 x2 x3 x5 (x5 + (nI 1)) S))
def O_X8_clear_209 (N : Nat) (rok : Option Nat → Int32 → Int32 → Int32 → Int32 → cS → Prop) (x0 : Option Nat) (x2 : Int32) (x3 : Int32) (x4 : Int32) (x5 : Int32) (x7 : Int32) (S : cS) : Prop := ((x7 = 0 → O_X8_clear_223 N rok x0 x2 x3 x5 x4 S) ∧ (¬ x7 = 0 → O_X8_clear_223 N rok x0 x2 x3 x5 (x5 + (nI 1)) S))
set_option maxRecDepth 100000 in
set_option maxHeartbeats 4000000 in
theorem b_X8_clear_209 {G : zG} {o : Nat → Option va_E} {S : cS} {N : Nat} {Q : Option Value → cS → Prop} {X : Nat × Option Nat × Int32 × Int32 × cS → Prop} (hG : zOK G) (hX0 : ∀ (x0 : Option Nat) (x3 : Int32) (x4 : Int32) (S' : cS), X (0, x0, x3, x4, S') → cX G o dX8_clear mX8_clear 231 [some (va_rf x0), none, none, some (.int x3), some (.int x4), none, none, none, none, none] [] S' Q) {rec : Option Nat → Int32 → Int32 → Int32 → Int32 → cS → Nat × Option Nat × Int32 × Int32 × cS} {rok : Option Nat → Int32 → Int32 → Int32 → Int32 → cS → Prop} (hrec : ∀ (x0 : Option Nat) (x2 : Int32) (x3 : Int32) (x4 : Int32) (x5 : Int32) (S : cS), rok x0 x2 x3 x4 x5 S → X (rec x0 x2 x3 x4 x5 S) → cX G o dX8_clear mX8_clear 10 [some (va_rf x0), none, some (.int x2), some (.int x3), some (.int x4), some (.int x5), none, none, none, none] [] S Q) {x0 : Option Nat} {x2 : Int32} {x3 : Int32} {x4 : Int32} {x5 : Int32} {x7 : Int32} (ok : O_X8_clear_209 N rok x0 x2 x3 x4 x5 x7 S) (hx : X (F_X8_clear_209 N rec x0 x2 x3 x4 x5 x7 S)) : cX G o dX8_clear mX8_clear 209 [some (va_rf x0), none, some (.int x2), some (.int x3), some (.int x4), some (.int x5), none, some (.int x7), none, none] [] S Q := by
  unfold O_X8_clear_209 at ok
  unfold F_X8_clear_209 at hx
  refine c_iload dX8_clear_209 rfl ?_
  refine c_if_eq (tgt := 221) dX8_clear_211 (by decide) (fun c_211 => ?_) (fun c_211 => ?_)
  · have ok := ok.1 c_211
    have hx := xif_p c_211 hx
    refine c_iload dX8_clear_221 rfl ?_
    exact cX.cutz (b_X8_clear_223 hG hX0 hrec ok hx) ⟨rfl, rfl, rfl, rfl, trivial⟩
  · have ok := ok.2 c_211
    have hx := xif_n c_211 hx
    refine c_iload dX8_clear_214 rfl ?_
    refine c_iconst (v := nI 1) dX8_clear_216 (by decide) ?_
    refine c_iadd dX8_clear_217 ?_
    refine c_goto (tgt := 223) dX8_clear_218 (by decide) ?_
    exact cX.cutz (b_X8_clear_223 hG hX0 hrec ok hx) ⟨rfl, rfl, rfl, rfl, trivial⟩
def F_X8_clear_201 (N : Nat) (rec : Option Nat → Int32 → Int32 → Int32 → Int32 → Int32 → Int32 → Int32 → cS → Nat × Option Nat × Int32 × Int32 × Int32 × Int32 × Int32 × cS) (x0 : Option Nat) (x2 : Int32) (x3 : Int32) (x4 : Int32) (x5 : Int32) (x8 : Int32) (x9 : Int32) (s0 : Int32) (S : cS) : Nat × Option Nat × Int32 × Int32 × Int32 × Int32 × Int32 × cS := (rec x0 x2 x3 x4 x5 s0 x8 (x9 + nI 1) S)
def O_X8_clear_201 (N : Nat) (rok : Option Nat → Int32 → Int32 → Int32 → Int32 → Int32 → Int32 → Int32 → cS → Prop) (x0 : Option Nat) (x2 : Int32) (x3 : Int32) (x4 : Int32) (x5 : Int32) (x8 : Int32) (x9 : Int32) (s0 : Int32) (S : cS) : Prop := rok x0 x2 x3 x4 x5 s0 x8 (x9 + nI 1) S
set_option maxRecDepth 100000 in
set_option maxHeartbeats 4000000 in
theorem b_X8_clear_201 {G : zG} {o : Nat → Option va_E} {S : cS} {N : Nat} {Q : Option Value → cS → Prop} {X : Nat × Option Nat × Int32 × Int32 × Int32 × Int32 × Int32 × cS → Prop} (hG : zOK G) (hX0 : ∀ (x0 : Option Nat) (x2 : Int32) (x3 : Int32) (x4 : Int32) (x5 : Int32) (x7 : Int32) (S' : cS), X (0, x0, x2, x3, x4, x5, x7, S') → cX G o dX8_clear mX8_clear 209 [some (va_rf x0), none, some (.int x2), some (.int x3), some (.int x4), some (.int x5), none, some (.int x7), none, none] [] S' Q) {rec : Option Nat → Int32 → Int32 → Int32 → Int32 → Int32 → Int32 → Int32 → cS → Nat × Option Nat × Int32 × Int32 × Int32 × Int32 × Int32 × cS} {rok : Option Nat → Int32 → Int32 → Int32 → Int32 → Int32 → Int32 → Int32 → cS → Prop} (hrec : ∀ (x0 : Option Nat) (x2 : Int32) (x3 : Int32) (x4 : Int32) (x5 : Int32) (x7 : Int32) (x8 : Int32) (x9 : Int32) (S : cS), rok x0 x2 x3 x4 x5 x7 x8 x9 S → X (rec x0 x2 x3 x4 x5 x7 x8 x9 S) → cX G o dX8_clear mX8_clear 121 [some (va_rf x0), none, some (.int x2), some (.int x3), some (.int x4), some (.int x5), none, some (.int x7), some (.int x8), some (.int x9)] [] S Q) {x0 : Option Nat} {x2 : Int32} {x3 : Int32} {x4 : Int32} {x5 : Int32} {x8 : Int32} {x9 : Int32} {s0 : Int32} (ok : O_X8_clear_201 N rok x0 x2 x3 x4 x5 x8 x9 s0 S) (hx : X (F_X8_clear_201 N rec x0 x2 x3 x4 x5 x8 x9 s0 S)) : cX G o dX8_clear mX8_clear 201 [some (va_rf x0), none, some (.int x2), some (.int x3), some (.int x4), some (.int x5), none, none, some (.int x8), some (.int x9)] [.int s0] S Q := by
  unfold O_X8_clear_201 at ok
  unfold F_X8_clear_201 at hx
  refine c_istore_7 dX8_clear_201 (by decide) rfl ?_
  refine c_iinc_9 (v := (x9 + nI 1)) dX8_clear_203 rfl (by first | rfl | (congr 1)) (by decide) rfl ?_
  refine c_goto (tgt := 121) dX8_clear_206 (by decide) ?_
  exact cX.cutz (hrec _ _ _ _ _ _ _ _ S ok hx) ⟨rfl, rfl, rfl, rfl, rfl, rfl, rfl, rfl, trivial⟩
def F_X8_clear_196 (N : Nat) (rec : Option Nat → Int32 → Int32 → Int32 → Int32 → Int32 → Int32 → Int32 → cS → Nat × Option Nat × Int32 × Int32 × Int32 × Int32 × Int32 × cS) (x0 : Option Nat) (x2 : Int32) (x3 : Int32) (x4 : Int32) (x5 : Int32) (x8 : Int32) (x9 : Int32) (S : cS) : Nat × Option Nat × Int32 × Int32 × Int32 × Int32 × Int32 × cS := (F_X8_clear_201 N rec x0 x2 x3 x4 x5 x8 x9 (nI 1) S)
def O_X8_clear_196 (N : Nat) (rok : Option Nat → Int32 → Int32 → Int32 → Int32 → Int32 → Int32 → Int32 → cS → Prop) (x0 : Option Nat) (x2 : Int32) (x3 : Int32) (x4 : Int32) (x5 : Int32) (x8 : Int32) (x9 : Int32) (S : cS) : Prop := O_X8_clear_201 N rok x0 x2 x3 x4 x5 x8 x9 (nI 1) S
set_option maxRecDepth 100000 in
set_option maxHeartbeats 4000000 in
theorem b_X8_clear_196 {G : zG} {o : Nat → Option va_E} {S : cS} {N : Nat} {Q : Option Value → cS → Prop} {X : Nat × Option Nat × Int32 × Int32 × Int32 × Int32 × Int32 × cS → Prop} (hG : zOK G) (hX0 : ∀ (x0 : Option Nat) (x2 : Int32) (x3 : Int32) (x4 : Int32) (x5 : Int32) (x7 : Int32) (S' : cS), X (0, x0, x2, x3, x4, x5, x7, S') → cX G o dX8_clear mX8_clear 209 [some (va_rf x0), none, some (.int x2), some (.int x3), some (.int x4), some (.int x5), none, some (.int x7), none, none] [] S' Q) {rec : Option Nat → Int32 → Int32 → Int32 → Int32 → Int32 → Int32 → Int32 → cS → Nat × Option Nat × Int32 × Int32 × Int32 × Int32 × Int32 × cS} {rok : Option Nat → Int32 → Int32 → Int32 → Int32 → Int32 → Int32 → Int32 → cS → Prop} (hrec : ∀ (x0 : Option Nat) (x2 : Int32) (x3 : Int32) (x4 : Int32) (x5 : Int32) (x7 : Int32) (x8 : Int32) (x9 : Int32) (S : cS), rok x0 x2 x3 x4 x5 x7 x8 x9 S → X (rec x0 x2 x3 x4 x5 x7 x8 x9 S) → cX G o dX8_clear mX8_clear 121 [some (va_rf x0), none, some (.int x2), some (.int x3), some (.int x4), some (.int x5), none, some (.int x7), some (.int x8), some (.int x9)] [] S Q) {x0 : Option Nat} {x2 : Int32} {x3 : Int32} {x4 : Int32} {x5 : Int32} {x8 : Int32} {x9 : Int32} (ok : O_X8_clear_196 N rok x0 x2 x3 x4 x5 x8 x9 S) (hx : X (F_X8_clear_196 N rec x0 x2 x3 x4 x5 x8 x9 S)) : cX G o dX8_clear mX8_clear 196 [some (va_rf x0), none, some (.int x2), some (.int x3), some (.int x4), some (.int x5), none, none, some (.int x8), some (.int x9)] [] S Q := by
  unfold O_X8_clear_196 at ok
  unfold F_X8_clear_196 at hx
  refine c_iconst (v := nI 1) dX8_clear_196 (by decide) ?_
  refine c_goto (tgt := 201) dX8_clear_197 (by decide) ?_
  exact cX.cutz (b_X8_clear_201 hG hX0 hrec ok hx) ⟨rfl, rfl, rfl, rfl, rfl, rfl, rfl, trivial⟩
def F_X8_clear_181 (N : Nat) (rec : Option Nat → Int32 → Int32 → Int32 → Int32 → Int32 → Int32 → Int32 → cS → Nat × Option Nat × Int32 × Int32 × Int32 × Int32 × Int32 × cS) (x0 : Option Nat) (x2 : Int32) (x3 : Int32) (x4 : Int32) (x5 : Int32) (x7 : Int32) (x8 : Int32) (x9 : Int32) (S : cS) : Nat × Option Nat × Int32 × Int32 × Int32 × Int32 × Int32 × cS := (if x7 = 0 then (if (cP S (za (cR S 4 (za x0))) x9.toNatClampNeg) = none then (F_X8_clear_201 N rec x0 x2 x3 x4 x5 x8 x9 (nI 0) S) else (F_X8_clear_196 N rec x0 x2 x3 x4 x5 x8 x9 S)) else (F_X8_clear_196 N rec x0 x2 x3 x4 x5 x8 x9 S))
def O_X8_clear_181 (N : Nat) (rok : Option Nat → Int32 → Int32 → Int32 → Int32 → Int32 → Int32 → Int32 → cS → Prop) (x0 : Option Nat) (x2 : Int32) (x3 : Int32) (x4 : Int32) (x5 : Int32) (x7 : Int32) (x8 : Int32) (x9 : Int32) (S : cS) : Prop := ((x7 = 0 → (cis S x0 7) ∧ (cis S (cR S 4 (za x0)) 24 ∧ vp_in x9 (cL S (za (cR S 4 (za x0))))) ∧ (((cP S (za (cR S 4 (za x0))) x9.toNatClampNeg) = none → O_X8_clear_201 N rok x0 x2 x3 x4 x5 x8 x9 (nI 0) S) ∧ (¬ (cP S (za (cR S 4 (za x0))) x9.toNatClampNeg) = none → O_X8_clear_196 N rok x0 x2 x3 x4 x5 x8 x9 S))) ∧ (¬ x7 = 0 → O_X8_clear_196 N rok x0 x2 x3 x4 x5 x8 x9 S))
set_option maxRecDepth 100000 in
set_option maxHeartbeats 4000000 in
theorem b_X8_clear_181 {G : zG} {o : Nat → Option va_E} {S : cS} {N : Nat} {Q : Option Value → cS → Prop} {X : Nat × Option Nat × Int32 × Int32 × Int32 × Int32 × Int32 × cS → Prop} (hG : zOK G) (hX0 : ∀ (x0 : Option Nat) (x2 : Int32) (x3 : Int32) (x4 : Int32) (x5 : Int32) (x7 : Int32) (S' : cS), X (0, x0, x2, x3, x4, x5, x7, S') → cX G o dX8_clear mX8_clear 209 [some (va_rf x0), none, some (.int x2), some (.int x3), some (.int x4), some (.int x5), none, some (.int x7), none, none] [] S' Q) {rec : Option Nat → Int32 → Int32 → Int32 → Int32 → Int32 → Int32 → Int32 → cS → Nat × Option Nat × Int32 × Int32 × Int32 × Int32 × Int32 × cS} {rok : Option Nat → Int32 → Int32 → Int32 → Int32 → Int32 → Int32 → Int32 → cS → Prop} (hrec : ∀ (x0 : Option Nat) (x2 : Int32) (x3 : Int32) (x4 : Int32) (x5 : Int32) (x7 : Int32) (x8 : Int32) (x9 : Int32) (S : cS), rok x0 x2 x3 x4 x5 x7 x8 x9 S → X (rec x0 x2 x3 x4 x5 x7 x8 x9 S) → cX G o dX8_clear mX8_clear 121 [some (va_rf x0), none, some (.int x2), some (.int x3), some (.int x4), some (.int x5), none, some (.int x7), some (.int x8), some (.int x9)] [] S Q) {x0 : Option Nat} {x2 : Int32} {x3 : Int32} {x4 : Int32} {x5 : Int32} {x7 : Int32} {x8 : Int32} {x9 : Int32} (ok : O_X8_clear_181 N rok x0 x2 x3 x4 x5 x7 x8 x9 S) (hx : X (F_X8_clear_181 N rec x0 x2 x3 x4 x5 x7 x8 x9 S)) : cX G o dX8_clear mX8_clear 181 [some (va_rf x0), none, some (.int x2), some (.int x3), some (.int x4), some (.int x5), none, some (.int x7), some (.int x8), some (.int x9)] [] S Q := by
  unfold O_X8_clear_181 at ok
  unfold F_X8_clear_181 at hx
  refine c_iload dX8_clear_181 rfl ?_
  refine c_if_ne (tgt := 196) dX8_clear_183 (by decide) (fun c_183 => ?_) (fun c_183 => ?_)
  · have ok := ok.2 c_183
    have hx := xif_n c_183 hx
    exact cX.cutz (b_X8_clear_196 hG hX0 hrec ok hx) ⟨rfl, rfl, rfl, rfl, rfl, rfl, rfl, trivial⟩
  · have ok := ok.1 c_183
    have hx := xif_p c_183 hx
    refine c_aload_nQ dX8_clear_186 rfl rfl ?_
    refine c_getR (C := RX8) (T := TX8) (N := 14) (ci := 6) (k := 4) ⟨rfl, inT8, by decide, fX8_36⟩ (by decide) (by decide) (by decide) dX8_clear_187 ok.1 ?_
    have ok := ok.2
    refine c_iload dX8_clear_190 rfl ?_
    refine c_aald (t := 4) (ty := (.object "QuorumLedger$Message")) rfl rfl (by decide) dX8_clear_192 ok.1 ?_
    have ok := ok.2
    refine c_ifnullI (tgt := 200) dX8_clear_193 (by decide) (fun c_193 => ?_) (fun c_193 => ?_)
    · have ok := ok.1 c_193
      have hx := xif_p c_193 hx
      refine c_iconst (v := nI 0) dX8_clear_200 (by decide) ?_
      exact cX.cutz (b_X8_clear_201 hG hX0 hrec ok hx) ⟨rfl, rfl, rfl, rfl, rfl, rfl, rfl, trivial⟩
    · have ok := ok.2 c_193
      have hx := xif_n c_193 hx
      exact cX.cutz (b_X8_clear_196 hG hX0 hrec ok hx) ⟨rfl, rfl, rfl, rfl, rfl, rfl, rfl, trivial⟩
def F_X8_clear_173 (N : Nat) (rec : Option Nat → Int32 → Int32 → Int32 → Int32 → Int32 → Int32 → Int32 → cS → Nat × Option Nat × Int32 × Int32 × Int32 × Int32 × Int32 × cS) (x0 : Option Nat) (x2 : Int32) (x3 : Int32) (x4 : Int32) (x5 : Int32) (x7 : Int32) (x8 : Int32) (x9 : Int32) (S : cS) : Nat × Option Nat × Int32 × Int32 × Int32 × Int32 × Int32 × cS := (F_X8_clear_181 N rec x0 x2 x3 x4 x5 x7 x8 x9 (csP S (za (cR S 4 (za x0))) x9.toNatClampNeg (none)))
def O_X8_clear_173 (N : Nat) (rok : Option Nat → Int32 → Int32 → Int32 → Int32 → Int32 → Int32 → Int32 → cS → Prop) (x0 : Option Nat) (x2 : Int32) (x3 : Int32) (x4 : Int32) (x5 : Int32) (x7 : Int32) (x8 : Int32) (x9 : Int32) (S : cS) : Prop := (cis S x0 7) ∧ (cis S (cR S 4 (za x0)) 24 ∧ vp_in x9 (cL S (za (cR S 4 (za x0)))) ∧ ((none) = none ∨ cis S (none) 5)) ∧ O_X8_clear_181 N rok x0 x2 x3 x4 x5 x7 x8 x9 (csP S (za (cR S 4 (za x0))) x9.toNatClampNeg (none))
set_option maxRecDepth 100000 in
set_option maxHeartbeats 4000000 in
theorem b_X8_clear_173 {G : zG} {o : Nat → Option va_E} {S : cS} {N : Nat} {Q : Option Value → cS → Prop} {X : Nat × Option Nat × Int32 × Int32 × Int32 × Int32 × Int32 × cS → Prop} (hG : zOK G) (hX0 : ∀ (x0 : Option Nat) (x2 : Int32) (x3 : Int32) (x4 : Int32) (x5 : Int32) (x7 : Int32) (S' : cS), X (0, x0, x2, x3, x4, x5, x7, S') → cX G o dX8_clear mX8_clear 209 [some (va_rf x0), none, some (.int x2), some (.int x3), some (.int x4), some (.int x5), none, some (.int x7), none, none] [] S' Q) {rec : Option Nat → Int32 → Int32 → Int32 → Int32 → Int32 → Int32 → Int32 → cS → Nat × Option Nat × Int32 × Int32 × Int32 × Int32 × Int32 × cS} {rok : Option Nat → Int32 → Int32 → Int32 → Int32 → Int32 → Int32 → Int32 → cS → Prop} (hrec : ∀ (x0 : Option Nat) (x2 : Int32) (x3 : Int32) (x4 : Int32) (x5 : Int32) (x7 : Int32) (x8 : Int32) (x9 : Int32) (S : cS), rok x0 x2 x3 x4 x5 x7 x8 x9 S → X (rec x0 x2 x3 x4 x5 x7 x8 x9 S) → cX G o dX8_clear mX8_clear 121 [some (va_rf x0), none, some (.int x2), some (.int x3), some (.int x4), some (.int x5), none, some (.int x7), some (.int x8), some (.int x9)] [] S Q) {x0 : Option Nat} {x2 : Int32} {x3 : Int32} {x4 : Int32} {x5 : Int32} {x7 : Int32} {x8 : Int32} {x9 : Int32} (ok : O_X8_clear_173 N rok x0 x2 x3 x4 x5 x7 x8 x9 S) (hx : X (F_X8_clear_173 N rec x0 x2 x3 x4 x5 x7 x8 x9 S)) : cX G o dX8_clear mX8_clear 173 [some (va_rf x0), none, some (.int x2), some (.int x3), some (.int x4), some (.int x5), none, some (.int x7), some (.int x8), some (.int x9)] [] S Q := by
  unfold O_X8_clear_173 at ok
  unfold F_X8_clear_173 at hx
  refine c_aload_nQ dX8_clear_173 rfl rfl ?_
  refine c_getR (C := RX8) (T := TX8) (N := 14) (ci := 6) (k := 4) ⟨rfl, inT8, by decide, fX8_36⟩ (by decide) (by decide) (by decide) dX8_clear_174 ok.1 ?_
  have ok := ok.2
  refine c_iload dX8_clear_177 rfl ?_
  refine c_null' dX8_clear_179 ?_
  refine c_aast (t := 4) (ci := 4) (rr := (RX5, TX5, 7)) rfl rfl (by decide) (by decide) dX8_clear_180 ok.1 ?_
  have ok := ok.2
  exact cX.cutz (b_X8_clear_181 hG hX0 hrec ok hx) ⟨rfl, rfl, rfl, rfl, rfl, rfl, rfl, rfl, trivial⟩
def B_X8_clear_121 (N : Nat) (rec : Option Nat → Int32 → Int32 → Int32 → Int32 → Int32 → Int32 → Int32 → cS → Nat × Option Nat × Int32 × Int32 × Int32 × Int32 × Int32 × cS) (x0 : Option Nat) (x2 : Int32) (x3 : Int32) (x4 : Int32) (x5 : Int32) (x7 : Int32) (x8 : Int32) (x9 : Int32) (S : cS) : Nat × Option Nat × Int32 × Int32 × Int32 × Int32 × Int32 × cS := (if (x8 + ((nI 2) * (cI S 1 (za x0)))) ≤ x9 then (0, x0, x2, x3, x4, x5, x7, S) else (if (cP S (za (cR S 4 (za x0))) x9.toNatClampNeg) = none then (F_X8_clear_181 N rec x0 x2 x3 x4 x5 x7 x8 x9 S) else (if (f_X5_signer N S (za (cP S (za (cR S 4 (za x0))) x9.toNatClampNeg))) = x2 then (F_X8_clear_181 N rec x0 x2 x3 x4 x5 x7 x8 x9 S) else (F_X8_clear_173 N rec x0 x2 x3 x4 x5 x7 x8 x9 (f_X9_drop N S (za (cR S 0 (za x0))) (cP S (za (cR S 4 (za x0))) x9.toNatClampNeg))))))
def OB_X8_clear_121 (N : Nat) (rok : Option Nat → Int32 → Int32 → Int32 → Int32 → Int32 → Int32 → Int32 → cS → Prop) (x0 : Option Nat) (x2 : Int32) (x3 : Int32) (x4 : Int32) (x5 : Int32) (x7 : Int32) (x8 : Int32) (x9 : Int32) (S : cS) : Prop := (cis S x0 7) ∧ (((x8 + ((nI 2) * (cI S 1 (za x0)))) ≤ x9 → True) ∧ (¬ (x8 + ((nI 2) * (cI S 1 (za x0)))) ≤ x9 → (cis S x0 7) ∧ (cis S (cR S 4 (za x0)) 24 ∧ vp_in x9 (cL S (za (cR S 4 (za x0))))) ∧ (((cP S (za (cR S 4 (za x0))) x9.toNatClampNeg) = none → O_X8_clear_181 N rok x0 x2 x3 x4 x5 x7 x8 x9 S) ∧ (¬ (cP S (za (cR S 4 (za x0))) x9.toNatClampNeg) = none → (cis S x0 7) ∧ (cis S (cR S 4 (za x0)) 24 ∧ vp_in x9 (cL S (za (cR S 4 (za x0))))) ∧ (cis S (cP S (za (cR S 4 (za x0))) x9.toNatClampNeg) 5 ∧ o_X5_signer N S (za (cP S (za (cR S 4 (za x0))) x9.toNatClampNeg))) ∧ (((f_X5_signer N S (za (cP S (za (cR S 4 (za x0))) x9.toNatClampNeg))) = x2 → O_X8_clear_181 N rok x0 x2 x3 x4 x5 x7 x8 x9 S) ∧ (¬ (f_X5_signer N S (za (cP S (za (cR S 4 (za x0))) x9.toNatClampNeg))) = x2 → (cis S x0 7) ∧ (cis S x0 7) ∧ (cis S (cR S 4 (za x0)) 24 ∧ vp_in x9 (cL S (za (cR S 4 (za x0))))) ∧ (cis S (cR S 0 (za x0)) 8 ∧ o_X9_drop N S (za (cR S 0 (za x0))) (cP S (za (cR S 4 (za x0))) x9.toNatClampNeg)) ∧ O_X8_clear_173 N rok x0 x2 x3 x4 x5 x7 x8 x9 (f_X9_drop N S (za (cR S 0 (za x0))) (cP S (za (cR S 4 (za x0))) x9.toNatClampNeg))))))))
set_option maxRecDepth 100000 in
set_option maxHeartbeats 4000000 in
theorem bb_X8_clear_121 {G : zG} {o : Nat → Option va_E} {S : cS} {N : Nat} {Q : Option Value → cS → Prop} {X : Nat × Option Nat × Int32 × Int32 × Int32 × Int32 × Int32 × cS → Prop} (hG : zOK G) (hX0 : ∀ (x0 : Option Nat) (x2 : Int32) (x3 : Int32) (x4 : Int32) (x5 : Int32) (x7 : Int32) (S' : cS), X (0, x0, x2, x3, x4, x5, x7, S') → cX G o dX8_clear mX8_clear 209 [some (va_rf x0), none, some (.int x2), some (.int x3), some (.int x4), some (.int x5), none, some (.int x7), none, none] [] S' Q) {rec : Option Nat → Int32 → Int32 → Int32 → Int32 → Int32 → Int32 → Int32 → cS → Nat × Option Nat × Int32 × Int32 × Int32 × Int32 × Int32 × cS} {rok : Option Nat → Int32 → Int32 → Int32 → Int32 → Int32 → Int32 → Int32 → cS → Prop} (hrec : ∀ (x0 : Option Nat) (x2 : Int32) (x3 : Int32) (x4 : Int32) (x5 : Int32) (x7 : Int32) (x8 : Int32) (x9 : Int32) (S : cS), rok x0 x2 x3 x4 x5 x7 x8 x9 S → X (rec x0 x2 x3 x4 x5 x7 x8 x9 S) → cX G o dX8_clear mX8_clear 121 [some (va_rf x0), none, some (.int x2), some (.int x3), some (.int x4), some (.int x5), none, some (.int x7), some (.int x8), some (.int x9)] [] S Q) {x0 : Option Nat} {x2 : Int32} {x3 : Int32} {x4 : Int32} {x5 : Int32} {x7 : Int32} {x8 : Int32} {x9 : Int32} (ok : OB_X8_clear_121 N rok x0 x2 x3 x4 x5 x7 x8 x9 S) (hx : X (B_X8_clear_121 N rec x0 x2 x3 x4 x5 x7 x8 x9 S)) : cX G o dX8_clear mX8_clear 121 [some (va_rf x0), none, some (.int x2), some (.int x3), some (.int x4), some (.int x5), none, some (.int x7), some (.int x8), some (.int x9)] [] S Q := by
  unfold OB_X8_clear_121 at ok
  unfold B_X8_clear_121 at hx
  refine c_iload dX8_clear_121 rfl ?_
  refine c_iload dX8_clear_123 rfl ?_
  refine c_iconst (v := nI 2) dX8_clear_125 (by decide) ?_
  refine c_aload_nQ dX8_clear_126 rfl rfl ?_
  refine c_getI (C := RX8) (T := TX8) (N := 14) (ci := 6) (k := 1) ⟨rfl, inT8, by decide, fX8_32⟩ (by decide) (by decide) (by decide) dX8_clear_127 ok.1 ?_
  have ok := ok.2
  refine c_imul dX8_clear_130 ?_
  refine c_iadd dX8_clear_131 ?_
  refine c_icmp_ge (tgt := 209) dX8_clear_132 (by decide) (fun c_132 => ?_) (fun c_132 => ?_)
  · have ok := ok.1 c_132
    have hx := xif_p c_132 hx
    exact cX.cutz (hX0 _ _ _ _ _ _ S hx) ⟨rfl, rfl, rfl, rfl, rfl, rfl, trivial⟩
  · have ok := ok.2 c_132
    have hx := xif_n c_132 hx
    refine c_aload_nQ dX8_clear_135 rfl rfl ?_
    refine c_getR (C := RX8) (T := TX8) (N := 14) (ci := 6) (k := 4) ⟨rfl, inT8, by decide, fX8_36⟩ (by decide) (by decide) (by decide) dX8_clear_136 ok.1 ?_
    have ok := ok.2
    refine c_iload dX8_clear_139 rfl ?_
    refine c_aald (t := 4) (ty := (.object "QuorumLedger$Message")) rfl rfl (by decide) dX8_clear_141 ok.1 ?_
    have ok := ok.2
    refine c_ifnullI (tgt := 181) dX8_clear_142 (by decide) (fun c_142 => ?_) (fun c_142 => ?_)
    · have ok := ok.1 c_142
      have hx := xif_p c_142 hx
      exact cX.cutz (b_X8_clear_181 hG hX0 hrec ok hx) ⟨rfl, rfl, rfl, rfl, rfl, rfl, rfl, rfl, trivial⟩
    · have ok := ok.2 c_142
      have hx := xif_n c_142 hx
      refine c_aload_nQ dX8_clear_145 rfl rfl ?_
      refine c_getR (C := RX8) (T := TX8) (N := 14) (ci := 6) (k := 4) ⟨rfl, inT8, by decide, fX8_36⟩ (by decide) (by decide) (by decide) dX8_clear_146 ok.1 ?_
      have ok := ok.2
      refine c_iload dX8_clear_149 rfl ?_
      refine c_aald (t := 4) (ty := (.object "QuorumLedger$Message")) rfl rfl (by decide) dX8_clear_151 ok.1 ?_
      have ok := ok.2
      refine c_V0i (ci := 4) (rr := (RX5, TX5, 7)) (y' := mX5_signer) dX8_clear_152 lX8_62 kX5_signer ⟨by decide, by decide⟩ rfl rfl (by decide) ok.1.1 (Nat.le_of_ble_eq_true rfl) (cc_X5_signer hG ok.1.2) (fun v_152 S_152 h_152 => ?_)
      obtain ⟨hv_152, hS_152⟩ := h_152
      subst hv_152
      have hS_152 := hS_152.symm
      subst hS_152
      have ok := ok.2
      refine c_iload_n dX8_clear_155 rfl rfl ?_
      refine c_icmp_eq (tgt := 181) dX8_clear_156 (by decide) (fun c_156 => ?_) (fun c_156 => ?_)
      · have ok := ok.1 c_156
        have hx := xif_p c_156 hx
        exact cX.cutz (b_X8_clear_181 hG hX0 hrec ok hx) ⟨rfl, rfl, rfl, rfl, rfl, rfl, rfl, rfl, trivial⟩
      · have ok := ok.2 c_156
        have hx := xif_n c_156 hx
        refine c_aload_nQ dX8_clear_159 rfl rfl ?_
        refine c_getR (C := RX8) (T := TX8) (N := 14) (ci := 6) (k := 0) ⟨rfl, inT8, by decide, fX8_28⟩ (by decide) (by decide) (by decide) dX8_clear_160 ok.1 ?_
        have ok := ok.2
        refine c_aload_nQ dX8_clear_163 rfl rfl ?_
        refine c_getR (C := RX8) (T := TX8) (N := 14) (ci := 6) (k := 4) ⟨rfl, inT8, by decide, fX8_36⟩ (by decide) (by decide) (by decide) dX8_clear_164 ok.1 ?_
        have ok := ok.2
        refine c_iload dX8_clear_167 rfl ?_
        refine c_aald (t := 4) (ty := (.object "QuorumLedger$Message")) rfl rfl (by decide) dX8_clear_169 ok.1 ?_
        have ok := ok.2
        refine c_V1v (ci := 7) (rr := (RX9, TX9, 13)) (y' := mX9_drop) dX8_clear_170 lX8_91 kX9_drop ⟨by decide, by decide⟩ rfl rfl (by decide) ok.1.1 (Nat.le_of_ble_eq_true rfl) (cc_X9_drop hG ok.1.2) (fun S_170 h_170 => ?_)
        subst h_170
        have ok := ok.2
        exact cX.cutz (b_X8_clear_173 hG hX0 hrec ok hx) ⟨rfl, rfl, rfl, rfl, rfl, rfl, rfl, rfl, trivial⟩
def L_X8_clear_121 (N : Nat) : Nat → Option Nat → Int32 → Int32 → Int32 → Int32 → Int32 → Int32 → Int32 → cS → Nat × Option Nat × Int32 × Int32 × Int32 × Int32 × Int32 × cS
  | 0, x0, x2, x3, x4, x5, x7, x8, x9, S => (0, none, 0, 0, 0, 0, 0, S)
  | n + 1, x0, x2, x3, x4, x5, x7, x8, x9, S => B_X8_clear_121 N (L_X8_clear_121 N n) x0 x2 x3 x4 x5 x7 x8 x9 S
def OL_X8_clear_121 (N : Nat) : Nat → Option Nat → Int32 → Int32 → Int32 → Int32 → Int32 → Int32 → Int32 → cS → Prop
  | 0, _, _, _, _, _, _, _, _, _ => False
  | n + 1, x0, x2, x3, x4, x5, x7, x8, x9, S => OB_X8_clear_121 N (OL_X8_clear_121 N n) x0 x2 x3 x4 x5 x7 x8 x9 S
set_option maxRecDepth 100000 in
set_option maxHeartbeats 4000000 in
theorem l_X8_clear_121 {G : zG} {o : Nat → Option va_E} {N : Nat} {Q : Option Value → cS → Prop} {X : Nat × Option Nat × Int32 × Int32 × Int32 × Int32 × Int32 × cS → Prop} (hG : zOK G) (hX0 : ∀ (x0 : Option Nat) (x2 : Int32) (x3 : Int32) (x4 : Int32) (x5 : Int32) (x7 : Int32) (S' : cS), X (0, x0, x2, x3, x4, x5, x7, S') → cX G o dX8_clear mX8_clear 209 [some (va_rf x0), none, some (.int x2), some (.int x3), some (.int x4), some (.int x5), none, some (.int x7), none, none] [] S' Q) : ∀ (n : Nat) (x0 : Option Nat) (x2 : Int32) (x3 : Int32) (x4 : Int32) (x5 : Int32) (x7 : Int32) (x8 : Int32) (x9 : Int32) (S : cS), OL_X8_clear_121 N n x0 x2 x3 x4 x5 x7 x8 x9 S → X (L_X8_clear_121 N n x0 x2 x3 x4 x5 x7 x8 x9 S) → cX G o dX8_clear mX8_clear 121 [some (va_rf x0), none, some (.int x2), some (.int x3), some (.int x4), some (.int x5), none, some (.int x7), some (.int x8), some (.int x9)] [] S Q := by
  intro n
  induction n with
  | zero => intro x0 x2 x3 x4 x5 x7 x8 x9 S ok; exact absurd ok id
  | succ n ih =>
    intro x0 x2 x3 x4 x5 x7 x8 x9 S ok hx
    exact bb_X8_clear_121 hG hX0 (rec := L_X8_clear_121 N n) (rok := OL_X8_clear_121 N n) (fun x0 x2 x3 x4 x5 x7 x8 x9 S ok hx => ih x0 x2 x3 x4 x5 x7 x8 x9 S ok hx) ok hx
def A_X8_clear_121 (N : Nat) (rec : Option Nat → Int32 → Int32 → Int32 → Int32 → cS → Nat × Option Nat × Int32 × Int32 × cS) (x0 : Option Nat) (x2 : Int32) (x3 : Int32) (x4 : Int32) (x5 : Int32) (x7 : Int32) (x8 : Int32) (x9 : Int32) (S : cS) (z : Nat × Option Nat × Int32 × Int32 × Int32 × Int32 × Int32 × cS) : Nat × Option Nat × Int32 × Int32 × cS := (F_X8_clear_209 N rec (z.2.1) (z.2.2.1) (z.2.2.2.1) (z.2.2.2.2.1) (z.2.2.2.2.2.1) (z.2.2.2.2.2.2.1) z.2.2.2.2.2.2.2)
def OA_X8_clear_121 (N : Nat) (rok : Option Nat → Int32 → Int32 → Int32 → Int32 → cS → Prop) (x0 : Option Nat) (x2 : Int32) (x3 : Int32) (x4 : Int32) (x5 : Int32) (x7 : Int32) (x8 : Int32) (x9 : Int32) (S : cS) (z : Nat × Option Nat × Int32 × Int32 × Int32 × Int32 × Int32 × cS) : Prop := O_X8_clear_209 N rok (z.2.1) (z.2.2.1) (z.2.2.2.1) (z.2.2.2.2.1) (z.2.2.2.2.2.1) (z.2.2.2.2.2.2.1) z.2.2.2.2.2.2.2
set_option maxRecDepth 100000 in
set_option maxHeartbeats 4000000 in
theorem c_X8_clear_121 {G : zG} {o : Nat → Option va_E} {S : cS} {N : Nat} {Q : Option Value → cS → Prop} {X : Nat × Option Nat × Int32 × Int32 × cS → Prop} (hG : zOK G) (hX0 : ∀ (x0 : Option Nat) (x3 : Int32) (x4 : Int32) (S' : cS), X (0, x0, x3, x4, S') → cX G o dX8_clear mX8_clear 231 [some (va_rf x0), none, none, some (.int x3), some (.int x4), none, none, none, none, none] [] S' Q) {rec : Option Nat → Int32 → Int32 → Int32 → Int32 → cS → Nat × Option Nat × Int32 × Int32 × cS} {rok : Option Nat → Int32 → Int32 → Int32 → Int32 → cS → Prop} (hrec : ∀ (x0 : Option Nat) (x2 : Int32) (x3 : Int32) (x4 : Int32) (x5 : Int32) (S : cS), rok x0 x2 x3 x4 x5 S → X (rec x0 x2 x3 x4 x5 S) → cX G o dX8_clear mX8_clear 10 [some (va_rf x0), none, some (.int x2), some (.int x3), some (.int x4), some (.int x5), none, none, none, none] [] S Q) {x0 : Option Nat} {x2 : Int32} {x3 : Int32} {x4 : Int32} {x5 : Int32} {x7 : Int32} {x8 : Int32} {x9 : Int32} (ok : OL_X8_clear_121 N N x0 x2 x3 x4 x5 x7 x8 x9 S ∧ OA_X8_clear_121 N rok x0 x2 x3 x4 x5 x7 x8 x9 S (L_X8_clear_121 N N x0 x2 x3 x4 x5 x7 x8 x9 S)) (hx : X (A_X8_clear_121 N rec x0 x2 x3 x4 x5 x7 x8 x9 S (L_X8_clear_121 N N x0 x2 x3 x4 x5 x7 x8 x9 S))) : cX G o dX8_clear mX8_clear 121 [some (va_rf x0), none, some (.int x2), some (.int x3), some (.int x4), some (.int x5), none, some (.int x7), some (.int x8), some (.int x9)] [] S Q := by
  refine l_X8_clear_121 hG ?_ N x0 x2 x3 x4 x5 x7 x8 x9 S ok.1 (X := fun z => OA_X8_clear_121 N rok x0 x2 x3 x4 x5 x7 x8 x9 S z ∧ X (A_X8_clear_121 N rec x0 x2 x3 x4 x5 x7 x8 x9 S z)) ⟨ok.2, hx⟩
  · intro x0' x2' x3' x4' x5' x7' S' hz
    obtain ⟨ok, hx⟩ := hz
    unfold OA_X8_clear_121 at ok
    unfold A_X8_clear_121 at hx
    exact cX.cutz (b_X8_clear_209 hG hX0 hrec ok hx) ⟨rfl, rfl, rfl, rfl, rfl, rfl, trivial⟩
def F_X8_clear_106 (N : Nat) (rec : Option Nat → Int32 → Int32 → Int32 → Int32 → cS → Nat × Option Nat × Int32 × Int32 × cS) (x0 : Option Nat) (x2 : Int32) (x3 : Int32) (x4 : Int32) (x5 : Int32) (x6 : Int32) (s0 : Int32) (S : cS) : Nat × Option Nat × Int32 × Int32 × cS := (A_X8_clear_121 N rec x0 x2 x3 x4 x5 s0 (f_X8_ballots N S (za x0) x6 (nI 2)) (f_X8_ballots N S (za x0) x6 (nI 2)) S (L_X8_clear_121 N N x0 x2 x3 x4 x5 s0 (f_X8_ballots N S (za x0) x6 (nI 2)) (f_X8_ballots N S (za x0) x6 (nI 2)) S))
def O_X8_clear_106 (N : Nat) (rok : Option Nat → Int32 → Int32 → Int32 → Int32 → cS → Prop) (x0 : Option Nat) (x2 : Int32) (x3 : Int32) (x4 : Int32) (x5 : Int32) (x6 : Int32) (s0 : Int32) (S : cS) : Prop := (cis S x0 7 ∧ o_X8_ballots N S (za x0) x6 (nI 2)) ∧ (OL_X8_clear_121 N N x0 x2 x3 x4 x5 s0 (f_X8_ballots N S (za x0) x6 (nI 2)) (f_X8_ballots N S (za x0) x6 (nI 2)) S ∧ OA_X8_clear_121 N rok x0 x2 x3 x4 x5 s0 (f_X8_ballots N S (za x0) x6 (nI 2)) (f_X8_ballots N S (za x0) x6 (nI 2)) S (L_X8_clear_121 N N x0 x2 x3 x4 x5 s0 (f_X8_ballots N S (za x0) x6 (nI 2)) (f_X8_ballots N S (za x0) x6 (nI 2)) S))
set_option maxRecDepth 100000 in
set_option maxHeartbeats 4000000 in
theorem b_X8_clear_106 {G : zG} {o : Nat → Option va_E} {S : cS} {N : Nat} {Q : Option Value → cS → Prop} {X : Nat × Option Nat × Int32 × Int32 × cS → Prop} (hG : zOK G) (hX0 : ∀ (x0 : Option Nat) (x3 : Int32) (x4 : Int32) (S' : cS), X (0, x0, x3, x4, S') → cX G o dX8_clear mX8_clear 231 [some (va_rf x0), none, none, some (.int x3), some (.int x4), none, none, none, none, none] [] S' Q) {rec : Option Nat → Int32 → Int32 → Int32 → Int32 → cS → Nat × Option Nat × Int32 × Int32 × cS} {rok : Option Nat → Int32 → Int32 → Int32 → Int32 → cS → Prop} (hrec : ∀ (x0 : Option Nat) (x2 : Int32) (x3 : Int32) (x4 : Int32) (x5 : Int32) (S : cS), rok x0 x2 x3 x4 x5 S → X (rec x0 x2 x3 x4 x5 S) → cX G o dX8_clear mX8_clear 10 [some (va_rf x0), none, some (.int x2), some (.int x3), some (.int x4), some (.int x5), none, none, none, none] [] S Q) {x0 : Option Nat} {x2 : Int32} {x3 : Int32} {x4 : Int32} {x5 : Int32} {x6 : Int32} {s0 : Int32} (ok : O_X8_clear_106 N rok x0 x2 x3 x4 x5 x6 s0 S) (hx : X (F_X8_clear_106 N rec x0 x2 x3 x4 x5 x6 s0 S)) : cX G o dX8_clear mX8_clear 106 [some (va_rf x0), none, some (.int x2), some (.int x3), some (.int x4), some (.int x5), some (.int x6), none, none, none] [.int s0] S Q := by
  unfold O_X8_clear_106 at ok
  unfold F_X8_clear_106 at hx
  refine c_istore_7 dX8_clear_106 (by decide) rfl ?_
  refine c_aload_nQ dX8_clear_108 rfl rfl ?_
  refine c_iload dX8_clear_109 rfl ?_
  refine c_iconst (v := nI 2) dX8_clear_111 (by decide) ?_
  refine c_V2i (ci := 6) (rr := (RX8, TX8, 14)) (y' := mX8_ballots) dX8_clear_112 lX8_69 kX8_ballots ⟨by decide, by decide⟩ rfl rfl (by decide) ok.1.1 (Nat.le_of_ble_eq_true rfl) (cc_X8_ballots hG ok.1.2) (fun v_112 S_112 h_112 => ?_)
  obtain ⟨hv_112, hS_112⟩ := h_112
  subst hv_112
  have hS_112 := hS_112.symm
  subst hS_112
  have ok := ok.2
  refine c_istore_8 dX8_clear_115 (by decide) rfl ?_
  refine c_iload dX8_clear_117 rfl ?_
  refine c_istore_9 dX8_clear_119 (by decide) rfl ?_
  exact cX.cutz (c_X8_clear_121 hG hX0 hrec ok hx) ⟨rfl, rfl, rfl, rfl, rfl, rfl, rfl, rfl, trivial⟩
def F_X8_clear_83 (N : Nat) (rec : Option Nat → Int32 → Int32 → Int32 → Int32 → cS → Nat × Option Nat × Int32 × Int32 × cS) (x0 : Option Nat) (x2 : Int32) (x3 : Int32) (x4 : Int32) (x5 : Int32) (x6 : Int32) (S : cS) : Nat × Option Nat × Int32 × Int32 × cS := (if (cP (csA S (za (cR S 3 (za x0))) x6.toNatClampNeg (nI 0)) (za (cR (csA S (za (cR S 3 (za x0))) x6.toNatClampNeg (nI 0)) 2 (za x0))) x6.toNatClampNeg) = none then (F_X8_clear_106 N rec x0 x2 x3 x4 x5 x6 (nI 0) (csA S (za (cR S 3 (za x0))) x6.toNatClampNeg (nI 0))) else (F_X8_clear_106 N rec x0 x2 x3 x4 x5 x6 (nI 1) (csA S (za (cR S 3 (za x0))) x6.toNatClampNeg (nI 0))))
def O_X8_clear_83 (N : Nat) (rok : Option Nat → Int32 → Int32 → Int32 → Int32 → cS → Prop) (x0 : Option Nat) (x2 : Int32) (x3 : Int32) (x4 : Int32) (x5 : Int32) (x6 : Int32) (S : cS) : Prop := (cis S x0 7) ∧ (cis S (cR S 3 (za x0)) 21 ∧ vp_in x6 (cL S (za (cR S 3 (za x0))))) ∧ (cis (csA S (za (cR S 3 (za x0))) x6.toNatClampNeg (nI 0)) x0 7) ∧ (cis (csA S (za (cR S 3 (za x0))) x6.toNatClampNeg (nI 0)) (cR (csA S (za (cR S 3 (za x0))) x6.toNatClampNeg (nI 0)) 2 (za x0)) 24 ∧ vp_in x6 (cL (csA S (za (cR S 3 (za x0))) x6.toNatClampNeg (nI 0)) (za (cR (csA S (za (cR S 3 (za x0))) x6.toNatClampNeg (nI 0)) 2 (za x0))))) ∧ (((cP (csA S (za (cR S 3 (za x0))) x6.toNatClampNeg (nI 0)) (za (cR (csA S (za (cR S 3 (za x0))) x6.toNatClampNeg (nI 0)) 2 (za x0))) x6.toNatClampNeg) = none → O_X8_clear_106 N rok x0 x2 x3 x4 x5 x6 (nI 0) (csA S (za (cR S 3 (za x0))) x6.toNatClampNeg (nI 0))) ∧ (¬ (cP (csA S (za (cR S 3 (za x0))) x6.toNatClampNeg (nI 0)) (za (cR (csA S (za (cR S 3 (za x0))) x6.toNatClampNeg (nI 0)) 2 (za x0))) x6.toNatClampNeg) = none → O_X8_clear_106 N rok x0 x2 x3 x4 x5 x6 (nI 1) (csA S (za (cR S 3 (za x0))) x6.toNatClampNeg (nI 0))))
set_option maxRecDepth 100000 in
set_option maxHeartbeats 4000000 in
theorem b_X8_clear_83 {G : zG} {o : Nat → Option va_E} {S : cS} {N : Nat} {Q : Option Value → cS → Prop} {X : Nat × Option Nat × Int32 × Int32 × cS → Prop} (hG : zOK G) (hX0 : ∀ (x0 : Option Nat) (x3 : Int32) (x4 : Int32) (S' : cS), X (0, x0, x3, x4, S') → cX G o dX8_clear mX8_clear 231 [some (va_rf x0), none, none, some (.int x3), some (.int x4), none, none, none, none, none] [] S' Q) {rec : Option Nat → Int32 → Int32 → Int32 → Int32 → cS → Nat × Option Nat × Int32 × Int32 × cS} {rok : Option Nat → Int32 → Int32 → Int32 → Int32 → cS → Prop} (hrec : ∀ (x0 : Option Nat) (x2 : Int32) (x3 : Int32) (x4 : Int32) (x5 : Int32) (S : cS), rok x0 x2 x3 x4 x5 S → X (rec x0 x2 x3 x4 x5 S) → cX G o dX8_clear mX8_clear 10 [some (va_rf x0), none, some (.int x2), some (.int x3), some (.int x4), some (.int x5), none, none, none, none] [] S Q) {x0 : Option Nat} {x2 : Int32} {x3 : Int32} {x4 : Int32} {x5 : Int32} {x6 : Int32} (ok : O_X8_clear_83 N rok x0 x2 x3 x4 x5 x6 S) (hx : X (F_X8_clear_83 N rec x0 x2 x3 x4 x5 x6 S)) : cX G o dX8_clear mX8_clear 83 [some (va_rf x0), none, some (.int x2), some (.int x3), some (.int x4), some (.int x5), some (.int x6), none, none, none] [] S Q := by
  unfold O_X8_clear_83 at ok
  unfold F_X8_clear_83 at hx
  refine c_aload_nQ dX8_clear_83 rfl rfl ?_
  refine c_getR (C := RX8) (T := TX8) (N := 14) (ci := 6) (k := 3) ⟨rfl, inT8, by decide, fX8_17⟩ (by decide) (by decide) (by decide) dX8_clear_84 ok.1 ?_
  have ok := ok.2
  refine c_iload dX8_clear_87 rfl ?_
  refine c_iconst (v := nI 0) dX8_clear_89 (by decide) ?_
  refine c_iast hG dX8_clear_90 ok.1 ?_
  have ok := ok.2
  refine c_aload_nQ dX8_clear_91 rfl rfl ?_
  refine c_getR (C := RX8) (T := TX8) (N := 14) (ci := 6) (k := 2) ⟨rfl, inT8, by decide, fX8_11⟩ (by decide) (by decide) (by decide) dX8_clear_92 ok.1 ?_
  have ok := ok.2
  refine c_iload dX8_clear_95 rfl ?_
  refine c_aald (t := 4) (ty := (.object "QuorumLedger$Message")) rfl rfl (by decide) dX8_clear_97 ok.1 ?_
  have ok := ok.2
  refine c_ifnullI (tgt := 105) dX8_clear_98 (by decide) (fun c_98 => ?_) (fun c_98 => ?_)
  · have ok := ok.1 c_98
    have hx := xif_p c_98 hx
    refine c_iconst (v := nI 0) dX8_clear_105 (by decide) ?_
    exact cX.cutz (b_X8_clear_106 hG hX0 hrec ok hx) ⟨rfl, rfl, rfl, rfl, rfl, rfl, trivial⟩
  · have ok := ok.2 c_98
    have hx := xif_n c_98 hx
    refine c_iconst (v := nI 1) dX8_clear_101 (by decide) ?_
    refine c_goto (tgt := 106) dX8_clear_102 (by decide) ?_
    exact cX.cutz (b_X8_clear_106 hG hX0 hrec ok hx) ⟨rfl, rfl, rfl, rfl, rfl, rfl, trivial⟩
def F_X8_clear_75 (N : Nat) (rec : Option Nat → Int32 → Int32 → Int32 → Int32 → cS → Nat × Option Nat × Int32 × Int32 × cS) (x0 : Option Nat) (x2 : Int32) (x3 : Int32) (x4 : Int32) (x5 : Int32) (x6 : Int32) (S : cS) : Nat × Option Nat × Int32 × Int32 × cS := (F_X8_clear_83 N rec x0 x2 x3 x4 x5 x6 (csP S (za (cR S 2 (za x0))) x6.toNatClampNeg (none)))
def O_X8_clear_75 (N : Nat) (rok : Option Nat → Int32 → Int32 → Int32 → Int32 → cS → Prop) (x0 : Option Nat) (x2 : Int32) (x3 : Int32) (x4 : Int32) (x5 : Int32) (x6 : Int32) (S : cS) : Prop := (cis S x0 7) ∧ (cis S (cR S 2 (za x0)) 24 ∧ vp_in x6 (cL S (za (cR S 2 (za x0)))) ∧ ((none) = none ∨ cis S (none) 5)) ∧ O_X8_clear_83 N rok x0 x2 x3 x4 x5 x6 (csP S (za (cR S 2 (za x0))) x6.toNatClampNeg (none))
set_option maxRecDepth 100000 in
set_option maxHeartbeats 4000000 in
theorem b_X8_clear_75 {G : zG} {o : Nat → Option va_E} {S : cS} {N : Nat} {Q : Option Value → cS → Prop} {X : Nat × Option Nat × Int32 × Int32 × cS → Prop} (hG : zOK G) (hX0 : ∀ (x0 : Option Nat) (x3 : Int32) (x4 : Int32) (S' : cS), X (0, x0, x3, x4, S') → cX G o dX8_clear mX8_clear 231 [some (va_rf x0), none, none, some (.int x3), some (.int x4), none, none, none, none, none] [] S' Q) {rec : Option Nat → Int32 → Int32 → Int32 → Int32 → cS → Nat × Option Nat × Int32 × Int32 × cS} {rok : Option Nat → Int32 → Int32 → Int32 → Int32 → cS → Prop} (hrec : ∀ (x0 : Option Nat) (x2 : Int32) (x3 : Int32) (x4 : Int32) (x5 : Int32) (S : cS), rok x0 x2 x3 x4 x5 S → X (rec x0 x2 x3 x4 x5 S) → cX G o dX8_clear mX8_clear 10 [some (va_rf x0), none, some (.int x2), some (.int x3), some (.int x4), some (.int x5), none, none, none, none] [] S Q) {x0 : Option Nat} {x2 : Int32} {x3 : Int32} {x4 : Int32} {x5 : Int32} {x6 : Int32} (ok : O_X8_clear_75 N rok x0 x2 x3 x4 x5 x6 S) (hx : X (F_X8_clear_75 N rec x0 x2 x3 x4 x5 x6 S)) : cX G o dX8_clear mX8_clear 75 [some (va_rf x0), none, some (.int x2), some (.int x3), some (.int x4), some (.int x5), some (.int x6), none, none, none] [] S Q := by
  unfold O_X8_clear_75 at ok
  unfold F_X8_clear_75 at hx
  refine c_aload_nQ dX8_clear_75 rfl rfl ?_
  refine c_getR (C := RX8) (T := TX8) (N := 14) (ci := 6) (k := 2) ⟨rfl, inT8, by decide, fX8_11⟩ (by decide) (by decide) (by decide) dX8_clear_76 ok.1 ?_
  have ok := ok.2
  refine c_iload dX8_clear_79 rfl ?_
  refine c_null' dX8_clear_81 ?_
  refine c_aast (t := 4) (ci := 4) (rr := (RX5, TX5, 7)) rfl rfl (by decide) (by decide) dX8_clear_82 ok.1 ?_
  have ok := ok.2
  exact cX.cutz (b_X8_clear_83 hG hX0 hrec ok hx) ⟨rfl, rfl, rfl, rfl, rfl, rfl, trivial⟩
def B_X8_clear_10 (N : Nat) (rec : Option Nat → Int32 → Int32 → Int32 → Int32 → cS → Nat × Option Nat × Int32 × Int32 × cS) (x0 : Option Nat) (x2 : Int32) (x3 : Int32) (x4 : Int32) (x5 : Int32) (S : cS) : Nat × Option Nat × Int32 × Int32 × cS := (if (cA S (za (cR S 5 (za x0))) x3.toNatClampNeg) ≤ x5 then (0, x0, x3, x4, S) else (if (nI 16) ≤ x5 then (0, x0, x3, x4, S) else (if (cP S (za (cR S 2 (za x0))) ((x3 * (nI 16)) + x5).toNatClampNeg) = none then (F_X8_clear_83 N rec x0 x2 x3 x4 x5 ((x3 * (nI 16)) + x5) S) else (if (f_X5_signer N S (za (cP S (za (cR S 2 (za x0))) ((x3 * (nI 16)) + x5).toNatClampNeg))) = x2 then (F_X8_clear_83 N rec x0 x2 x3 x4 x5 ((x3 * (nI 16)) + x5) S) else (F_X8_clear_75 N rec x0 x2 x3 x4 x5 ((x3 * (nI 16)) + x5) (f_X9_drop N S (za (cR S 0 (za x0))) (cP S (za (cR S 2 (za x0))) ((x3 * (nI 16)) + x5).toNatClampNeg)))))))
def OB_X8_clear_10 (N : Nat) (rok : Option Nat → Int32 → Int32 → Int32 → Int32 → cS → Prop) (x0 : Option Nat) (x2 : Int32) (x3 : Int32) (x4 : Int32) (x5 : Int32) (S : cS) : Prop := (cis S x0 7) ∧ (cis S (cR S 5 (za x0)) 21 ∧ vp_in x3 (cL S (za (cR S 5 (za x0))))) ∧ (((cA S (za (cR S 5 (za x0))) x3.toNatClampNeg) ≤ x5 → True) ∧ (¬ (cA S (za (cR S 5 (za x0))) x3.toNatClampNeg) ≤ x5 → (((nI 16) ≤ x5 → True) ∧ (¬ (nI 16) ≤ x5 → (cis S x0 7) ∧ (cis S (cR S 2 (za x0)) 24 ∧ vp_in ((x3 * (nI 16)) + x5) (cL S (za (cR S 2 (za x0))))) ∧ (((cP S (za (cR S 2 (za x0))) ((x3 * (nI 16)) + x5).toNatClampNeg) = none → O_X8_clear_83 N rok x0 x2 x3 x4 x5 ((x3 * (nI 16)) + x5) S) ∧ (¬ (cP S (za (cR S 2 (za x0))) ((x3 * (nI 16)) + x5).toNatClampNeg) = none → (cis S x0 7) ∧ (cis S (cR S 2 (za x0)) 24 ∧ vp_in ((x3 * (nI 16)) + x5) (cL S (za (cR S 2 (za x0))))) ∧ (cis S (cP S (za (cR S 2 (za x0))) ((x3 * (nI 16)) + x5).toNatClampNeg) 5 ∧ o_X5_signer N S (za (cP S (za (cR S 2 (za x0))) ((x3 * (nI 16)) + x5).toNatClampNeg))) ∧ (((f_X5_signer N S (za (cP S (za (cR S 2 (za x0))) ((x3 * (nI 16)) + x5).toNatClampNeg))) = x2 → O_X8_clear_83 N rok x0 x2 x3 x4 x5 ((x3 * (nI 16)) + x5) S) ∧ (¬ (f_X5_signer N S (za (cP S (za (cR S 2 (za x0))) ((x3 * (nI 16)) + x5).toNatClampNeg))) = x2 → (cis S x0 7) ∧ (cis S x0 7) ∧ (cis S (cR S 2 (za x0)) 24 ∧ vp_in ((x3 * (nI 16)) + x5) (cL S (za (cR S 2 (za x0))))) ∧ (cis S (cR S 0 (za x0)) 8 ∧ o_X9_drop N S (za (cR S 0 (za x0))) (cP S (za (cR S 2 (za x0))) ((x3 * (nI 16)) + x5).toNatClampNeg)) ∧ O_X8_clear_75 N rok x0 x2 x3 x4 x5 ((x3 * (nI 16)) + x5) (f_X9_drop N S (za (cR S 0 (za x0))) (cP S (za (cR S 2 (za x0))) ((x3 * (nI 16)) + x5).toNatClampNeg))))))))))
set_option maxRecDepth 100000 in
set_option maxHeartbeats 4000000 in
theorem bb_X8_clear_10 {G : zG} {o : Nat → Option va_E} {S : cS} {N : Nat} {Q : Option Value → cS → Prop} {X : Nat × Option Nat × Int32 × Int32 × cS → Prop} (hG : zOK G) (hX0 : ∀ (x0 : Option Nat) (x3 : Int32) (x4 : Int32) (S' : cS), X (0, x0, x3, x4, S') → cX G o dX8_clear mX8_clear 231 [some (va_rf x0), none, none, some (.int x3), some (.int x4), none, none, none, none, none] [] S' Q) {rec : Option Nat → Int32 → Int32 → Int32 → Int32 → cS → Nat × Option Nat × Int32 × Int32 × cS} {rok : Option Nat → Int32 → Int32 → Int32 → Int32 → cS → Prop} (hrec : ∀ (x0 : Option Nat) (x2 : Int32) (x3 : Int32) (x4 : Int32) (x5 : Int32) (S : cS), rok x0 x2 x3 x4 x5 S → X (rec x0 x2 x3 x4 x5 S) → cX G o dX8_clear mX8_clear 10 [some (va_rf x0), none, some (.int x2), some (.int x3), some (.int x4), some (.int x5), none, none, none, none] [] S Q) {x0 : Option Nat} {x2 : Int32} {x3 : Int32} {x4 : Int32} {x5 : Int32} (ok : OB_X8_clear_10 N rok x0 x2 x3 x4 x5 S) (hx : X (B_X8_clear_10 N rec x0 x2 x3 x4 x5 S)) : cX G o dX8_clear mX8_clear 10 [some (va_rf x0), none, some (.int x2), some (.int x3), some (.int x4), some (.int x5), none, none, none, none] [] S Q := by
  unfold OB_X8_clear_10 at ok
  unfold B_X8_clear_10 at hx
  refine c_iload dX8_clear_10 rfl ?_
  refine c_aload_nQ dX8_clear_12 rfl rfl ?_
  refine c_getR (C := RX8) (T := TX8) (N := 14) (ci := 6) (k := 5) ⟨rfl, inT8, by decide, fX8_21⟩ (by decide) (by decide) (by decide) dX8_clear_13 ok.1 ?_
  have ok := ok.2
  refine c_iload_n dX8_clear_16 rfl rfl ?_
  refine c_iald dX8_clear_17 ok.1 ?_
  have ok := ok.2
  refine c_icmp_ge (tgt := 231) dX8_clear_18 (by decide) (fun c_18 => ?_) (fun c_18 => ?_)
  · have ok := ok.1 c_18
    have hx := xif_p c_18 hx
    exact cX.cutz (hX0 _ _ _ S hx) ⟨rfl, rfl, rfl, trivial⟩
  · have ok := ok.2 c_18
    have hx := xif_n c_18 hx
    refine c_iload dX8_clear_21 rfl ?_
    refine c_bipush (v := nI 16) dX8_clear_23 (by decide) ?_
    refine c_icmp_ge (tgt := 231) dX8_clear_25 (by decide) (fun c_25 => ?_) (fun c_25 => ?_)
    · have ok := ok.1 c_25
      have hx := xif_p c_25 hx
      exact cX.cutz (hX0 _ _ _ S hx) ⟨rfl, rfl, rfl, trivial⟩
    · have ok := ok.2 c_25
      have hx := xif_n c_25 hx
      refine c_iload_n dX8_clear_28 rfl rfl ?_
      refine c_bipush (v := nI 16) dX8_clear_29 (by decide) ?_
      refine c_imul dX8_clear_31 ?_
      refine c_iload dX8_clear_32 rfl ?_
      refine c_iadd dX8_clear_34 ?_
      refine c_istore_6 dX8_clear_35 (by decide) rfl ?_
      refine c_aload_nQ dX8_clear_37 rfl rfl ?_
      refine c_getR (C := RX8) (T := TX8) (N := 14) (ci := 6) (k := 2) ⟨rfl, inT8, by decide, fX8_11⟩ (by decide) (by decide) (by decide) dX8_clear_38 ok.1 ?_
      have ok := ok.2
      refine c_iload dX8_clear_41 rfl ?_
      refine c_aald (t := 4) (ty := (.object "QuorumLedger$Message")) rfl rfl (by decide) dX8_clear_43 ok.1 ?_
      have ok := ok.2
      refine c_ifnullI (tgt := 83) dX8_clear_44 (by decide) (fun c_44 => ?_) (fun c_44 => ?_)
      · have ok := ok.1 c_44
        have hx := xif_p c_44 hx
        exact cX.cutz (b_X8_clear_83 hG hX0 hrec ok hx) ⟨rfl, rfl, rfl, rfl, rfl, rfl, trivial⟩
      · have ok := ok.2 c_44
        have hx := xif_n c_44 hx
        refine c_aload_nQ dX8_clear_47 rfl rfl ?_
        refine c_getR (C := RX8) (T := TX8) (N := 14) (ci := 6) (k := 2) ⟨rfl, inT8, by decide, fX8_11⟩ (by decide) (by decide) (by decide) dX8_clear_48 ok.1 ?_
        have ok := ok.2
        refine c_iload dX8_clear_51 rfl ?_
        refine c_aald (t := 4) (ty := (.object "QuorumLedger$Message")) rfl rfl (by decide) dX8_clear_53 ok.1 ?_
        have ok := ok.2
        refine c_V0i (ci := 4) (rr := (RX5, TX5, 7)) (y' := mX5_signer) dX8_clear_54 lX8_62 kX5_signer ⟨by decide, by decide⟩ rfl rfl (by decide) ok.1.1 (Nat.le_of_ble_eq_true rfl) (cc_X5_signer hG ok.1.2) (fun v_54 S_54 h_54 => ?_)
        obtain ⟨hv_54, hS_54⟩ := h_54
        subst hv_54
        have hS_54 := hS_54.symm
        subst hS_54
        have ok := ok.2
        refine c_iload_n dX8_clear_57 rfl rfl ?_
        refine c_icmp_eq (tgt := 83) dX8_clear_58 (by decide) (fun c_58 => ?_) (fun c_58 => ?_)
        · have ok := ok.1 c_58
          have hx := xif_p c_58 hx
          exact cX.cutz (b_X8_clear_83 hG hX0 hrec ok hx) ⟨rfl, rfl, rfl, rfl, rfl, rfl, trivial⟩
        · have ok := ok.2 c_58
          have hx := xif_n c_58 hx
          refine c_aload_nQ dX8_clear_61 rfl rfl ?_
          refine c_getR (C := RX8) (T := TX8) (N := 14) (ci := 6) (k := 0) ⟨rfl, inT8, by decide, fX8_28⟩ (by decide) (by decide) (by decide) dX8_clear_62 ok.1 ?_
          have ok := ok.2
          refine c_aload_nQ dX8_clear_65 rfl rfl ?_
          refine c_getR (C := RX8) (T := TX8) (N := 14) (ci := 6) (k := 2) ⟨rfl, inT8, by decide, fX8_11⟩ (by decide) (by decide) (by decide) dX8_clear_66 ok.1 ?_
          have ok := ok.2
          refine c_iload dX8_clear_69 rfl ?_
          refine c_aald (t := 4) (ty := (.object "QuorumLedger$Message")) rfl rfl (by decide) dX8_clear_71 ok.1 ?_
          have ok := ok.2
          refine c_V1v (ci := 7) (rr := (RX9, TX9, 13)) (y' := mX9_drop) dX8_clear_72 lX8_91 kX9_drop ⟨by decide, by decide⟩ rfl rfl (by decide) ok.1.1 (Nat.le_of_ble_eq_true rfl) (cc_X9_drop hG ok.1.2) (fun S_72 h_72 => ?_)
          subst h_72
          have ok := ok.2
          exact cX.cutz (b_X8_clear_75 hG hX0 hrec ok hx) ⟨rfl, rfl, rfl, rfl, rfl, rfl, trivial⟩
def L_X8_clear_10 (N : Nat) : Nat → Option Nat → Int32 → Int32 → Int32 → Int32 → cS → Nat × Option Nat × Int32 × Int32 × cS
  | 0, x0, x2, x3, x4, x5, S => (0, none, 0, 0, S)
  | n + 1, x0, x2, x3, x4, x5, S => B_X8_clear_10 N (L_X8_clear_10 N n) x0 x2 x3 x4 x5 S
def OL_X8_clear_10 (N : Nat) : Nat → Option Nat → Int32 → Int32 → Int32 → Int32 → cS → Prop
  | 0, _, _, _, _, _, _ => False
  | n + 1, x0, x2, x3, x4, x5, S => OB_X8_clear_10 N (OL_X8_clear_10 N n) x0 x2 x3 x4 x5 S
set_option maxRecDepth 100000 in
set_option maxHeartbeats 4000000 in
theorem l_X8_clear_10 {G : zG} {o : Nat → Option va_E} {N : Nat} {Q : Option Value → cS → Prop} {X : Nat × Option Nat × Int32 × Int32 × cS → Prop} (hG : zOK G) (hX0 : ∀ (x0 : Option Nat) (x3 : Int32) (x4 : Int32) (S' : cS), X (0, x0, x3, x4, S') → cX G o dX8_clear mX8_clear 231 [some (va_rf x0), none, none, some (.int x3), some (.int x4), none, none, none, none, none] [] S' Q) : ∀ (n : Nat) (x0 : Option Nat) (x2 : Int32) (x3 : Int32) (x4 : Int32) (x5 : Int32) (S : cS), OL_X8_clear_10 N n x0 x2 x3 x4 x5 S → X (L_X8_clear_10 N n x0 x2 x3 x4 x5 S) → cX G o dX8_clear mX8_clear 10 [some (va_rf x0), none, some (.int x2), some (.int x3), some (.int x4), some (.int x5), none, none, none, none] [] S Q := by
  intro n
  induction n with
  | zero => intro x0 x2 x3 x4 x5 S ok; exact absurd ok id
  | succ n ih =>
    intro x0 x2 x3 x4 x5 S ok hx
    exact bb_X8_clear_10 hG hX0 (rec := L_X8_clear_10 N n) (rok := OL_X8_clear_10 N n) (fun x0 x2 x3 x4 x5 S ok hx => ih x0 x2 x3 x4 x5 S ok hx) ok hx
def A_X8_clear_10 (N : Nat) (x0 : Option Nat) (x2 : Int32) (x3 : Int32) (x4 : Int32) (x5 : Int32) (S : cS) (z : Nat × Option Nat × Int32 × Int32 × cS) : cS := (F_X8_clear_231 N (z.2.1) (z.2.2.1) (z.2.2.2.1) z.2.2.2.2)
def OA_X8_clear_10 (N : Nat) (x0 : Option Nat) (x2 : Int32) (x3 : Int32) (x4 : Int32) (x5 : Int32) (S : cS) (z : Nat × Option Nat × Int32 × Int32 × cS) : Prop := O_X8_clear_231 N (z.2.1) (z.2.2.1) (z.2.2.2.1) z.2.2.2.2
set_option maxRecDepth 100000 in
set_option maxHeartbeats 4000000 in
theorem c_X8_clear_10 {G : zG} {o : Nat → Option va_E} {S : cS} {N : Nat} {Q : Option Value → cS → Prop} {X : cS → Prop} (hG : zOK G) (hR : ∀ S', X S' → Q none S') {x0 : Option Nat} {x2 : Int32} {x3 : Int32} {x4 : Int32} {x5 : Int32} (ok : OL_X8_clear_10 N N x0 x2 x3 x4 x5 S ∧ OA_X8_clear_10 N x0 x2 x3 x4 x5 S (L_X8_clear_10 N N x0 x2 x3 x4 x5 S)) (hx : X (A_X8_clear_10 N x0 x2 x3 x4 x5 S (L_X8_clear_10 N N x0 x2 x3 x4 x5 S))) : cX G o dX8_clear mX8_clear 10 [some (va_rf x0), none, some (.int x2), some (.int x3), some (.int x4), some (.int x5), none, none, none, none] [] S Q := by
  refine l_X8_clear_10 hG ?_ N x0 x2 x3 x4 x5 S ok.1 (X := fun z => OA_X8_clear_10 N x0 x2 x3 x4 x5 S z ∧ X (A_X8_clear_10 N x0 x2 x3 x4 x5 S z)) ⟨ok.2, hx⟩
  · intro x0' x3' x4' S' hz
    obtain ⟨ok, hx⟩ := hz
    unfold OA_X8_clear_10 at ok
    unfold A_X8_clear_10 at hx
    exact cX.cutz (b_X8_clear_231 hG hR ok hx) ⟨rfl, rfl, rfl, trivial⟩
def F_X8_clear_0 (N : Nat) (x0 : Option Nat) (x1 : Int32) (x2 : Int32) (S : cS) : cS := (A_X8_clear_10 N x0 x2 (x1 &&& (nI 1)) (nI 0) (nI 0) S (L_X8_clear_10 N N x0 x2 (x1 &&& (nI 1)) (nI 0) (nI 0) S))
def O_X8_clear_0 (N : Nat) (x0 : Option Nat) (x1 : Int32) (x2 : Int32) (S : cS) : Prop := (OL_X8_clear_10 N N x0 x2 (x1 &&& (nI 1)) (nI 0) (nI 0) S ∧ OA_X8_clear_10 N x0 x2 (x1 &&& (nI 1)) (nI 0) (nI 0) S (L_X8_clear_10 N N x0 x2 (x1 &&& (nI 1)) (nI 0) (nI 0) S))
set_option maxRecDepth 100000 in
set_option maxHeartbeats 4000000 in
theorem b_X8_clear_0 {G : zG} {o : Nat → Option va_E} {S : cS} {N : Nat} {Q : Option Value → cS → Prop} {X : cS → Prop} (hG : zOK G) (hR : ∀ S', X S' → Q none S') {x0 : Option Nat} {x1 : Int32} {x2 : Int32} (ok : O_X8_clear_0 N x0 x1 x2 S) (hx : X (F_X8_clear_0 N x0 x1 x2 S)) : cX G o dX8_clear mX8_clear 0 [some (va_rf x0), some (.int x1), some (.int x2), none, none, none, none, none, none, none] [] S Q := by
  unfold O_X8_clear_0 at ok
  unfold F_X8_clear_0 at hx
  refine c_iload_n dX8_clear_0 rfl rfl ?_
  refine c_iconst (v := nI 1) dX8_clear_1 (by decide) ?_
  refine c_iand dX8_clear_2 ?_
  refine c_istore_3 dX8_clear_3 (by decide) rfl ?_
  refine c_iconst (v := nI 0) dX8_clear_4 (by decide) ?_
  refine c_istore_4 dX8_clear_5 (by decide) rfl ?_
  refine c_iconst (v := nI 0) dX8_clear_7 (by decide) ?_
  refine c_istore_5 dX8_clear_8 (by decide) rfl ?_
  exact cX.cutz (c_X8_clear_10 hG hR ok hx) ⟨rfl, rfl, rfl, rfl, rfl, trivial⟩
def f_X8_clear (N : Nat) (S : cS) (a0 : Nat) (x1 : Int32) (x2 : Int32) : cS := F_X8_clear_0 N (some a0) x1 x2 S
def o_X8_clear (N : Nat) (S : cS) (a0 : Nat) (x1 : Int32) (x2 : Int32) : Prop := O_X8_clear_0 N (some a0) x1 x2 S
set_option maxRecDepth 100000 in
set_option maxHeartbeats 4000000 in
theorem cc_X8_clear {G : zG} {o : Nat → Option va_E} {S : cS} {N : Nat} (hG : zOK G) {a0 : Nat} {x1 : Int32} {x2 : Int32} (ok : o_X8_clear N S a0 x1 x2) : cCv G o dX8_clear mX8_clear [.ref a0, .int x1, .int x2] S (fun S' => S' = f_X8_clear N S a0 x1 x2) := by
  refine cC.ofX rfl (by exact Nat.le_of_ble_eq_true rfl) ?_
  show cX G o dX8_clear mX8_clear 0 [some (.ref a0), some (.int x1), some (.int x2), none, none, none, none, none, none, none] [] S _
  exact cX.cutz (b_X8_clear_0 (X := fun F => F = f_X8_clear N S a0 x1 x2) hG (fun S' h => ⟨rfl, h⟩) ok rfl) ⟨rfl, rfl, rfl, trivial⟩
/-! X8_clearDecided -/
def F_X8_clearDecided_62 (N : Nat)  (S : cS) : cS := S
def O_X8_clearDecided_62 (N : Nat)  (S : cS) : Prop := True
set_option maxRecDepth 100000 in
set_option maxHeartbeats 4000000 in
theorem b_X8_clearDecided_62 {G : zG} {o : Nat → Option va_E} {S : cS} {N : Nat} {Q : Option Value → cS → Prop} {X : cS → Prop} (hG : zOK G) (hR : ∀ S', X S' → Q none S') (ok : O_X8_clearDecided_62 N S) (hx : X (F_X8_clearDecided_62 N S)) : cX G o dX8_clearDecided mX8_clearDecided 62 [none, none] [] S Q := by
  unfold O_X8_clearDecided_62 at ok
  unfold F_X8_clearDecided_62 at hx
  exact c_return rfl dX8_clearDecided_62 (hR _ hx)
def F_X8_clearDecided_56 (N : Nat) (rec : Option Nat → Int32 → cS → Nat × cS) (x0 : Option Nat) (x1 : Int32) (S : cS) : Nat × cS := (rec x0 (x1 + nI 1) S)
def O_X8_clearDecided_56 (N : Nat) (rok : Option Nat → Int32 → cS → Prop) (x0 : Option Nat) (x1 : Int32) (S : cS) : Prop := rok x0 (x1 + nI 1) S
set_option maxRecDepth 100000 in
set_option maxHeartbeats 4000000 in
theorem b_X8_clearDecided_56 {G : zG} {o : Nat → Option va_E} {S : cS} {N : Nat} {Q : Option Value → cS → Prop} {X : Nat × cS → Prop} (hG : zOK G) (hX0 : ∀ (S' : cS), X (0, S') → cX G o dX8_clearDecided mX8_clearDecided 62 [none, none] [] S' Q) {rec : Option Nat → Int32 → cS → Nat × cS} {rok : Option Nat → Int32 → cS → Prop} (hrec : ∀ (x0 : Option Nat) (x1 : Int32) (S : cS), rok x0 x1 S → X (rec x0 x1 S) → cX G o dX8_clearDecided mX8_clearDecided 2 [some (va_rf x0), some (.int x1)] [] S Q) {x0 : Option Nat} {x1 : Int32} (ok : O_X8_clearDecided_56 N rok x0 x1 S) (hx : X (F_X8_clearDecided_56 N rec x0 x1 S)) : cX G o dX8_clearDecided mX8_clearDecided 56 [some (va_rf x0), some (.int x1)] [] S Q := by
  unfold O_X8_clearDecided_56 at ok
  unfold F_X8_clearDecided_56 at hx
  refine c_iinc_1 (v := (x1 + nI 1)) dX8_clearDecided_56 rfl (by first | rfl | (congr 1)) (by decide) (by simp [zok, zg, zcat_rf]) ?_
  refine c_goto (tgt := 2) dX8_clearDecided_59 (by decide) ?_
  exact cX.cutz (hrec _ _ S ok hx) ⟨rfl, rfl, trivial⟩
def F_X8_clearDecided_39 (N : Nat) (rec : Option Nat → Int32 → cS → Nat × cS) (x0 : Option Nat) (x1 : Int32) (S : cS) : Nat × cS := (F_X8_clearDecided_56 N rec x0 x1 (csI (csP S (za (cR S 6 (za x0))) x1.toNatClampNeg (none)) 11 (za x0) ((cI (csP S (za (cR S 6 (za x0))) x1.toNatClampNeg (none)) 11 (za x0)) - (nI 1))))
def O_X8_clearDecided_39 (N : Nat) (rok : Option Nat → Int32 → cS → Prop) (x0 : Option Nat) (x1 : Int32) (S : cS) : Prop := (cis S x0 7) ∧ (cis S (cR S 6 (za x0)) 24 ∧ vp_in x1 (cL S (za (cR S 6 (za x0)))) ∧ ((none) = none ∨ cis S (none) 5)) ∧ (cis (csP S (za (cR S 6 (za x0))) x1.toNatClampNeg (none)) x0 7) ∧ (cis (csP S (za (cR S 6 (za x0))) x1.toNatClampNeg (none)) x0 7) ∧ O_X8_clearDecided_56 N rok x0 x1 (csI (csP S (za (cR S 6 (za x0))) x1.toNatClampNeg (none)) 11 (za x0) ((cI (csP S (za (cR S 6 (za x0))) x1.toNatClampNeg (none)) 11 (za x0)) - (nI 1)))
set_option maxRecDepth 100000 in
set_option maxHeartbeats 4000000 in
theorem b_X8_clearDecided_39 {G : zG} {o : Nat → Option va_E} {S : cS} {N : Nat} {Q : Option Value → cS → Prop} {X : Nat × cS → Prop} (hG : zOK G) (hX0 : ∀ (S' : cS), X (0, S') → cX G o dX8_clearDecided mX8_clearDecided 62 [none, none] [] S' Q) {rec : Option Nat → Int32 → cS → Nat × cS} {rok : Option Nat → Int32 → cS → Prop} (hrec : ∀ (x0 : Option Nat) (x1 : Int32) (S : cS), rok x0 x1 S → X (rec x0 x1 S) → cX G o dX8_clearDecided mX8_clearDecided 2 [some (va_rf x0), some (.int x1)] [] S Q) {x0 : Option Nat} {x1 : Int32} (ok : O_X8_clearDecided_39 N rok x0 x1 S) (hx : X (F_X8_clearDecided_39 N rec x0 x1 S)) : cX G o dX8_clearDecided mX8_clearDecided 39 [some (va_rf x0), some (.int x1)] [] S Q := by
  unfold O_X8_clearDecided_39 at ok
  unfold F_X8_clearDecided_39 at hx
  refine c_aload_nQ dX8_clearDecided_39 rfl rfl ?_
  refine c_getR (C := RX8) (T := TX8) (N := 14) (ci := 6) (k := 6) ⟨rfl, inT8, by decide, fX8_39⟩ (by decide) (by decide) (by decide) dX8_clearDecided_40 ok.1 ?_
  have ok := ok.2
  refine c_iload_n dX8_clearDecided_43 rfl rfl ?_
  refine c_null' dX8_clearDecided_44 ?_
  refine c_aast (t := 4) (ci := 4) (rr := (RX5, TX5, 7)) rfl rfl (by decide) (by decide) dX8_clearDecided_45 ok.1 ?_
  have ok := ok.2
  refine c_aload_nQ dX8_clearDecided_46 rfl rfl ?_
  refine c_dup dX8_clearDecided_47 (zcat_rf _) ?_
  refine c_getI (C := RX8) (T := TX8) (N := 14) (ci := 6) (k := 11) ⟨rfl, inT8, by decide, fX8_88⟩ (by decide) (by decide) (by decide) dX8_clearDecided_48 ok.1 ?_
  have ok := ok.2
  refine c_iconst (v := nI 1) dX8_clearDecided_51 (by decide) ?_
  refine c_isub dX8_clearDecided_52 ?_
  refine c_putI (C := RX8) (T := TX8) (N := 14) (ci := 6) (k := 11) ⟨rfl, inT8, by decide, fX8_88⟩ ftT8 rfl (by decide) (by decide) (by decide) rfl rfl dX8_clearDecided_53 ok.1 ?_
  have ok := ok.2
  exact cX.cutz (b_X8_clearDecided_56 hG hX0 hrec ok hx) ⟨rfl, rfl, trivial⟩
def B_X8_clearDecided_2 (N : Nat) (rec : Option Nat → Int32 → cS → Nat × cS) (x0 : Option Nat) (x1 : Int32) (S : cS) : Nat × cS := (if (cI S 1 (za x0)) ≤ x1 then (0, S) else (if (cI S 11 (za x0)) ≤ 0 then (0, S) else (if (cP S (za (cR S 6 (za x0))) x1.toNatClampNeg) = none then (F_X8_clearDecided_56 N rec x0 x1 S) else (F_X8_clearDecided_39 N rec x0 x1 (f_X9_drop N S (za (cR S 0 (za x0))) (cP S (za (cR S 6 (za x0))) x1.toNatClampNeg))))))
def OB_X8_clearDecided_2 (N : Nat) (rok : Option Nat → Int32 → cS → Prop) (x0 : Option Nat) (x1 : Int32) (S : cS) : Prop := (cis S x0 7) ∧ (((cI S 1 (za x0)) ≤ x1 → True) ∧ (¬ (cI S 1 (za x0)) ≤ x1 → (cis S x0 7) ∧ (((cI S 11 (za x0)) ≤ 0 → True) ∧ (¬ (cI S 11 (za x0)) ≤ 0 → (cis S x0 7) ∧ (cis S (cR S 6 (za x0)) 24 ∧ vp_in x1 (cL S (za (cR S 6 (za x0))))) ∧ (((cP S (za (cR S 6 (za x0))) x1.toNatClampNeg) = none → O_X8_clearDecided_56 N rok x0 x1 S) ∧ (¬ (cP S (za (cR S 6 (za x0))) x1.toNatClampNeg) = none → (cis S x0 7) ∧ (cis S x0 7) ∧ (cis S (cR S 6 (za x0)) 24 ∧ vp_in x1 (cL S (za (cR S 6 (za x0))))) ∧ (cis S (cR S 0 (za x0)) 8 ∧ o_X9_drop N S (za (cR S 0 (za x0))) (cP S (za (cR S 6 (za x0))) x1.toNatClampNeg)) ∧ O_X8_clearDecided_39 N rok x0 x1 (f_X9_drop N S (za (cR S 0 (za x0))) (cP S (za (cR S 6 (za x0))) x1.toNatClampNeg))))))))
set_option maxRecDepth 100000 in
set_option maxHeartbeats 4000000 in
theorem bb_X8_clearDecided_2 {G : zG} {o : Nat → Option va_E} {S : cS} {N : Nat} {Q : Option Value → cS → Prop} {X : Nat × cS → Prop} (hG : zOK G) (hX0 : ∀ (S' : cS), X (0, S') → cX G o dX8_clearDecided mX8_clearDecided 62 [none, none] [] S' Q) {rec : Option Nat → Int32 → cS → Nat × cS} {rok : Option Nat → Int32 → cS → Prop} (hrec : ∀ (x0 : Option Nat) (x1 : Int32) (S : cS), rok x0 x1 S → X (rec x0 x1 S) → cX G o dX8_clearDecided mX8_clearDecided 2 [some (va_rf x0), some (.int x1)] [] S Q) {x0 : Option Nat} {x1 : Int32} (ok : OB_X8_clearDecided_2 N rok x0 x1 S) (hx : X (B_X8_clearDecided_2 N rec x0 x1 S)) : cX G o dX8_clearDecided mX8_clearDecided 2 [some (va_rf x0), some (.int x1)] [] S Q := by
  unfold OB_X8_clearDecided_2 at ok
  unfold B_X8_clearDecided_2 at hx
  refine c_iload_n dX8_clearDecided_2 rfl rfl ?_
  refine c_aload_nQ dX8_clearDecided_3 rfl rfl ?_
  refine c_getI (C := RX8) (T := TX8) (N := 14) (ci := 6) (k := 1) ⟨rfl, inT8, by decide, fX8_32⟩ (by decide) (by decide) (by decide) dX8_clearDecided_4 ok.1 ?_
  have ok := ok.2
  refine c_icmp_ge (tgt := 62) dX8_clearDecided_7 (by decide) (fun c_7 => ?_) (fun c_7 => ?_)
  · have ok := ok.1 c_7
    have hx := xif_p c_7 hx
    exact cX.cutz (hX0 S hx) trivial
  · have ok := ok.2 c_7
    have hx := xif_n c_7 hx
    refine c_aload_nQ dX8_clearDecided_10 rfl rfl ?_
    refine c_getI (C := RX8) (T := TX8) (N := 14) (ci := 6) (k := 11) ⟨rfl, inT8, by decide, fX8_88⟩ (by decide) (by decide) (by decide) dX8_clearDecided_11 ok.1 ?_
    have ok := ok.2
    refine c_if_le (tgt := 62) dX8_clearDecided_14 (by decide) (fun c_14 => ?_) (fun c_14 => ?_)
    · have ok := ok.1 c_14
      have hx := xif_p c_14 hx
      exact cX.cutz (hX0 S hx) trivial
    · have ok := ok.2 c_14
      have hx := xif_n c_14 hx
      refine c_aload_nQ dX8_clearDecided_17 rfl rfl ?_
      refine c_getR (C := RX8) (T := TX8) (N := 14) (ci := 6) (k := 6) ⟨rfl, inT8, by decide, fX8_39⟩ (by decide) (by decide) (by decide) dX8_clearDecided_18 ok.1 ?_
      have ok := ok.2
      refine c_iload_n dX8_clearDecided_21 rfl rfl ?_
      refine c_aald (t := 4) (ty := (.object "QuorumLedger$Message")) rfl rfl (by decide) dX8_clearDecided_22 ok.1 ?_
      have ok := ok.2
      refine c_ifnullI (tgt := 56) dX8_clearDecided_23 (by decide) (fun c_23 => ?_) (fun c_23 => ?_)
      · have ok := ok.1 c_23
        have hx := xif_p c_23 hx
        exact cX.cutz (b_X8_clearDecided_56 hG hX0 hrec ok hx) ⟨rfl, rfl, trivial⟩
      · have ok := ok.2 c_23
        have hx := xif_n c_23 hx
        refine c_aload_nQ dX8_clearDecided_26 rfl rfl ?_
        refine c_getR (C := RX8) (T := TX8) (N := 14) (ci := 6) (k := 0) ⟨rfl, inT8, by decide, fX8_28⟩ (by decide) (by decide) (by decide) dX8_clearDecided_27 ok.1 ?_
        have ok := ok.2
        refine c_aload_nQ dX8_clearDecided_30 rfl rfl ?_
        refine c_getR (C := RX8) (T := TX8) (N := 14) (ci := 6) (k := 6) ⟨rfl, inT8, by decide, fX8_39⟩ (by decide) (by decide) (by decide) dX8_clearDecided_31 ok.1 ?_
        have ok := ok.2
        refine c_iload_n dX8_clearDecided_34 rfl rfl ?_
        refine c_aald (t := 4) (ty := (.object "QuorumLedger$Message")) rfl rfl (by decide) dX8_clearDecided_35 ok.1 ?_
        have ok := ok.2
        refine c_V1v (ci := 7) (rr := (RX9, TX9, 13)) (y' := mX9_drop) dX8_clearDecided_36 lX8_91 kX9_drop ⟨by decide, by decide⟩ rfl rfl (by decide) ok.1.1 (Nat.le_of_ble_eq_true rfl) (cc_X9_drop hG ok.1.2) (fun S_36 h_36 => ?_)
        subst h_36
        have ok := ok.2
        exact cX.cutz (b_X8_clearDecided_39 hG hX0 hrec ok hx) ⟨rfl, rfl, trivial⟩
def L_X8_clearDecided_2 (N : Nat) : Nat → Option Nat → Int32 → cS → Nat × cS
  | 0, x0, x1, S => (0, S)
  | n + 1, x0, x1, S => B_X8_clearDecided_2 N (L_X8_clearDecided_2 N n) x0 x1 S
def OL_X8_clearDecided_2 (N : Nat) : Nat → Option Nat → Int32 → cS → Prop
  | 0, _, _, _ => False
  | n + 1, x0, x1, S => OB_X8_clearDecided_2 N (OL_X8_clearDecided_2 N n) x0 x1 S
set_option maxRecDepth 100000 in
set_option maxHeartbeats 4000000 in
theorem l_X8_clearDecided_2 {G : zG} {o : Nat → Option va_E} {N : Nat} {Q : Option Value → cS → Prop} {X : Nat × cS → Prop} (hG : zOK G) (hX0 : ∀ (S' : cS), X (0, S') → cX G o dX8_clearDecided mX8_clearDecided 62 [none, none] [] S' Q) : ∀ (n : Nat) (x0 : Option Nat) (x1 : Int32) (S : cS), OL_X8_clearDecided_2 N n x0 x1 S → X (L_X8_clearDecided_2 N n x0 x1 S) → cX G o dX8_clearDecided mX8_clearDecided 2 [some (va_rf x0), some (.int x1)] [] S Q := by
  intro n
  induction n with
  | zero => intro x0 x1 S ok; exact absurd ok id
  | succ n ih =>
    intro x0 x1 S ok hx
    exact bb_X8_clearDecided_2 hG hX0 (rec := L_X8_clearDecided_2 N n) (rok := OL_X8_clearDecided_2 N n) (fun x0 x1 S ok hx => ih x0 x1 S ok hx) ok hx
def A_X8_clearDecided_2 (N : Nat) (x0 : Option Nat) (x1 : Int32) (S : cS) (z : Nat × cS) : cS := (F_X8_clearDecided_62 N z.2)
def OA_X8_clearDecided_2 (N : Nat) (x0 : Option Nat) (x1 : Int32) (S : cS) (z : Nat × cS) : Prop := O_X8_clearDecided_62 N z.2
set_option maxRecDepth 100000 in
set_option maxHeartbeats 4000000 in
theorem c_X8_clearDecided_2 {G : zG} {o : Nat → Option va_E} {S : cS} {N : Nat} {Q : Option Value → cS → Prop} {X : cS → Prop} (hG : zOK G) (hR : ∀ S', X S' → Q none S') {x0 : Option Nat} {x1 : Int32} (ok : OL_X8_clearDecided_2 N N x0 x1 S ∧ OA_X8_clearDecided_2 N x0 x1 S (L_X8_clearDecided_2 N N x0 x1 S)) (hx : X (A_X8_clearDecided_2 N x0 x1 S (L_X8_clearDecided_2 N N x0 x1 S))) : cX G o dX8_clearDecided mX8_clearDecided 2 [some (va_rf x0), some (.int x1)] [] S Q := by
  refine l_X8_clearDecided_2 hG ?_ N x0 x1 S ok.1 (X := fun z => OA_X8_clearDecided_2 N x0 x1 S z ∧ X (A_X8_clearDecided_2 N x0 x1 S z)) ⟨ok.2, hx⟩
  · intro S' hz
    obtain ⟨ok, hx⟩ := hz
    unfold OA_X8_clearDecided_2 at ok
    unfold A_X8_clearDecided_2 at hx
    exact cX.cutz (b_X8_clearDecided_62 hG hR ok hx) trivial
def F_X8_clearDecided_0 (N : Nat) (x0 : Option Nat) (S : cS) : cS := (A_X8_clearDecided_2 N x0 (nI 0) S (L_X8_clearDecided_2 N N x0 (nI 0) S))
def O_X8_clearDecided_0 (N : Nat) (x0 : Option Nat) (S : cS) : Prop := (OL_X8_clearDecided_2 N N x0 (nI 0) S ∧ OA_X8_clearDecided_2 N x0 (nI 0) S (L_X8_clearDecided_2 N N x0 (nI 0) S))
set_option maxRecDepth 100000 in
set_option maxHeartbeats 4000000 in
theorem b_X8_clearDecided_0 {G : zG} {o : Nat → Option va_E} {S : cS} {N : Nat} {Q : Option Value → cS → Prop} {X : cS → Prop} (hG : zOK G) (hR : ∀ S', X S' → Q none S') {x0 : Option Nat} (ok : O_X8_clearDecided_0 N x0 S) (hx : X (F_X8_clearDecided_0 N x0 S)) : cX G o dX8_clearDecided mX8_clearDecided 0 [some (va_rf x0), none] [] S Q := by
  unfold O_X8_clearDecided_0 at ok
  unfold F_X8_clearDecided_0 at hx
  refine c_iconst (v := nI 0) dX8_clearDecided_0 (by decide) ?_
  refine c_istore_1 dX8_clearDecided_1 (by decide) (by simp [zok, zg, zcat_rf]) ?_
  exact cX.cutz (c_X8_clearDecided_2 hG hR ok hx) ⟨rfl, rfl, trivial⟩
def f_X8_clearDecided (N : Nat) (S : cS) (a0 : Nat) : cS := F_X8_clearDecided_0 N (some a0) S
def o_X8_clearDecided (N : Nat) (S : cS) (a0 : Nat) : Prop := O_X8_clearDecided_0 N (some a0) S
set_option maxRecDepth 100000 in
set_option maxHeartbeats 4000000 in
theorem cc_X8_clearDecided {G : zG} {o : Nat → Option va_E} {S : cS} {N : Nat} (hG : zOK G) {a0 : Nat} (ok : o_X8_clearDecided N S a0) : cCv G o dX8_clearDecided mX8_clearDecided [.ref a0] S (fun S' => S' = f_X8_clearDecided N S a0) := by
  refine cC.ofX rfl (by exact Nat.le_of_ble_eq_true rfl) ?_
  show cX G o dX8_clearDecided mX8_clearDecided 0 [some (.ref a0), none] [] S _
  exact cX.cutz (b_X8_clearDecided_0 (X := fun F => F = f_X8_clearDecided N S a0) hG (fun S' h => ⟨rfl, h⟩) ok rfl) ⟨rfl, trivial⟩
/-! X8_clearRest -/
def F_X8_clearRest_56 (N : Nat) (x0 : Option Nat) (S : cS) : cS := (csI (csI S 13 (za x0) (nI 0)) 12 (za x0) (nI 0))
def O_X8_clearRest_56 (N : Nat) (x0 : Option Nat) (S : cS) : Prop := (cis S x0 7) ∧ (cis (csI S 13 (za x0) (nI 0)) x0 7) ∧ True
set_option maxRecDepth 100000 in
set_option maxHeartbeats 4000000 in
theorem b_X8_clearRest_56 {G : zG} {o : Nat → Option va_E} {S : cS} {N : Nat} {Q : Option Value → cS → Prop} {X : cS → Prop} (hG : zOK G) (hR : ∀ S', X S' → Q none S') {x0 : Option Nat} (ok : O_X8_clearRest_56 N x0 S) (hx : X (F_X8_clearRest_56 N x0 S)) : cX G o dX8_clearRest mX8_clearRest 56 [some (va_rf x0), none] [] S Q := by
  unfold O_X8_clearRest_56 at ok
  unfold F_X8_clearRest_56 at hx
  refine c_aload_nQ dX8_clearRest_56 rfl rfl ?_
  refine c_iconst (v := nI 0) dX8_clearRest_57 (by decide) ?_
  refine c_putI (C := RX8) (T := TX8) (N := 14) (ci := 6) (k := 13) ⟨rfl, inT8, by decide, fX8_105⟩ ftT8 rfl (by decide) (by decide) (by decide) rfl rfl dX8_clearRest_58 ok.1 ?_
  have ok := ok.2
  refine c_aload_nQ dX8_clearRest_61 rfl rfl ?_
  refine c_iconst (v := nI 0) dX8_clearRest_62 (by decide) ?_
  refine c_putI (C := RX8) (T := TX8) (N := 14) (ci := 6) (k := 12) ⟨rfl, inT8, by decide, fX8_108⟩ ftT8 rfl (by decide) (by decide) (by decide) rfl rfl dX8_clearRest_63 ok.1 ?_
  have ok := ok.2
  exact c_return rfl dX8_clearRest_66 (hR _ hx)
def F_X8_clearRest_50 (N : Nat) (rec : Option Nat → Int32 → cS → Nat × Option Nat × cS) (x0 : Option Nat) (x1 : Int32) (S : cS) : Nat × Option Nat × cS := (rec x0 (x1 + nI 1) S)
def O_X8_clearRest_50 (N : Nat) (rok : Option Nat → Int32 → cS → Prop) (x0 : Option Nat) (x1 : Int32) (S : cS) : Prop := rok x0 (x1 + nI 1) S
set_option maxRecDepth 100000 in
set_option maxHeartbeats 4000000 in
theorem b_X8_clearRest_50 {G : zG} {o : Nat → Option va_E} {S : cS} {N : Nat} {Q : Option Value → cS → Prop} {X : Nat × Option Nat × cS → Prop} (hG : zOK G) (hX0 : ∀ (x0 : Option Nat) (S' : cS), X (0, x0, S') → cX G o dX8_clearRest mX8_clearRest 56 [some (va_rf x0), none] [] S' Q) {rec : Option Nat → Int32 → cS → Nat × Option Nat × cS} {rok : Option Nat → Int32 → cS → Prop} (hrec : ∀ (x0 : Option Nat) (x1 : Int32) (S : cS), rok x0 x1 S → X (rec x0 x1 S) → cX G o dX8_clearRest mX8_clearRest 2 [some (va_rf x0), some (.int x1)] [] S Q) {x0 : Option Nat} {x1 : Int32} (ok : O_X8_clearRest_50 N rok x0 x1 S) (hx : X (F_X8_clearRest_50 N rec x0 x1 S)) : cX G o dX8_clearRest mX8_clearRest 50 [some (va_rf x0), some (.int x1)] [] S Q := by
  unfold O_X8_clearRest_50 at ok
  unfold F_X8_clearRest_50 at hx
  refine c_iinc_1 (v := (x1 + nI 1)) dX8_clearRest_50 rfl (by first | rfl | (congr 1)) (by decide) (by simp [zok, zg, zcat_rf]) ?_
  refine c_goto (tgt := 2) dX8_clearRest_53 (by decide) ?_
  exact cX.cutz (hrec _ _ S ok hx) ⟨rfl, rfl, trivial⟩
def F_X8_clearRest_36 (N : Nat) (rec : Option Nat → Int32 → cS → Nat × Option Nat × cS) (x0 : Option Nat) (x1 : Int32) (S : cS) : Nat × Option Nat × cS := (F_X8_clearRest_50 N rec x0 x1 (csP (csP S (za (cR S 8 (za x0))) x1.toNatClampNeg (none)) (za (cR (csP S (za (cR S 8 (za x0))) x1.toNatClampNeg (none)) 9 (za x0))) x1.toNatClampNeg (none)))
def O_X8_clearRest_36 (N : Nat) (rok : Option Nat → Int32 → cS → Prop) (x0 : Option Nat) (x1 : Int32) (S : cS) : Prop := (cis S x0 7) ∧ (cis S (cR S 8 (za x0)) 24 ∧ vp_in x1 (cL S (za (cR S 8 (za x0)))) ∧ ((none) = none ∨ cis S (none) 5)) ∧ (cis (csP S (za (cR S 8 (za x0))) x1.toNatClampNeg (none)) x0 7) ∧ (cis (csP S (za (cR S 8 (za x0))) x1.toNatClampNeg (none)) (cR (csP S (za (cR S 8 (za x0))) x1.toNatClampNeg (none)) 9 (za x0)) 24 ∧ vp_in x1 (cL (csP S (za (cR S 8 (za x0))) x1.toNatClampNeg (none)) (za (cR (csP S (za (cR S 8 (za x0))) x1.toNatClampNeg (none)) 9 (za x0)))) ∧ ((none) = none ∨ cis (csP S (za (cR S 8 (za x0))) x1.toNatClampNeg (none)) (none) 5)) ∧ O_X8_clearRest_50 N rok x0 x1 (csP (csP S (za (cR S 8 (za x0))) x1.toNatClampNeg (none)) (za (cR (csP S (za (cR S 8 (za x0))) x1.toNatClampNeg (none)) 9 (za x0))) x1.toNatClampNeg (none))
set_option maxRecDepth 100000 in
set_option maxHeartbeats 4000000 in
theorem b_X8_clearRest_36 {G : zG} {o : Nat → Option va_E} {S : cS} {N : Nat} {Q : Option Value → cS → Prop} {X : Nat × Option Nat × cS → Prop} (hG : zOK G) (hX0 : ∀ (x0 : Option Nat) (S' : cS), X (0, x0, S') → cX G o dX8_clearRest mX8_clearRest 56 [some (va_rf x0), none] [] S' Q) {rec : Option Nat → Int32 → cS → Nat × Option Nat × cS} {rok : Option Nat → Int32 → cS → Prop} (hrec : ∀ (x0 : Option Nat) (x1 : Int32) (S : cS), rok x0 x1 S → X (rec x0 x1 S) → cX G o dX8_clearRest mX8_clearRest 2 [some (va_rf x0), some (.int x1)] [] S Q) {x0 : Option Nat} {x1 : Int32} (ok : O_X8_clearRest_36 N rok x0 x1 S) (hx : X (F_X8_clearRest_36 N rec x0 x1 S)) : cX G o dX8_clearRest mX8_clearRest 36 [some (va_rf x0), some (.int x1)] [] S Q := by
  unfold O_X8_clearRest_36 at ok
  unfold F_X8_clearRest_36 at hx
  refine c_aload_nQ dX8_clearRest_36 rfl rfl ?_
  refine c_getR (C := RX8) (T := TX8) (N := 14) (ci := 6) (k := 8) ⟨rfl, inT8, by decide, fX8_45⟩ (by decide) (by decide) (by decide) dX8_clearRest_37 ok.1 ?_
  have ok := ok.2
  refine c_iload_n dX8_clearRest_40 rfl rfl ?_
  refine c_null' dX8_clearRest_41 ?_
  refine c_aast (t := 4) (ci := 4) (rr := (RX5, TX5, 7)) rfl rfl (by decide) (by decide) dX8_clearRest_42 ok.1 ?_
  have ok := ok.2
  refine c_aload_nQ dX8_clearRest_43 rfl rfl ?_
  refine c_getR (C := RX8) (T := TX8) (N := 14) (ci := 6) (k := 9) ⟨rfl, inT8, by decide, fX8_48⟩ (by decide) (by decide) (by decide) dX8_clearRest_44 ok.1 ?_
  have ok := ok.2
  refine c_iload_n dX8_clearRest_47 rfl rfl ?_
  refine c_null' dX8_clearRest_48 ?_
  refine c_aast (t := 4) (ci := 4) (rr := (RX5, TX5, 7)) rfl rfl (by decide) (by decide) dX8_clearRest_49 ok.1 ?_
  have ok := ok.2
  exact cX.cutz (b_X8_clearRest_50 hG hX0 hrec ok hx) ⟨rfl, rfl, trivial⟩
def F_X8_clearRest_23 (N : Nat) (rec : Option Nat → Int32 → cS → Nat × Option Nat × cS) (x0 : Option Nat) (x1 : Int32) (S : cS) : Nat × Option Nat × cS := (F_X8_clearRest_36 N rec x0 x1 (f_X9_drop N S (za (cR S 0 (za x0))) (cP S (za (cR S 9 (za x0))) x1.toNatClampNeg)))
def O_X8_clearRest_23 (N : Nat) (rok : Option Nat → Int32 → cS → Prop) (x0 : Option Nat) (x1 : Int32) (S : cS) : Prop := (cis S x0 7) ∧ (cis S x0 7) ∧ (cis S (cR S 9 (za x0)) 24 ∧ vp_in x1 (cL S (za (cR S 9 (za x0))))) ∧ (cis S (cR S 0 (za x0)) 8 ∧ o_X9_drop N S (za (cR S 0 (za x0))) (cP S (za (cR S 9 (za x0))) x1.toNatClampNeg)) ∧ O_X8_clearRest_36 N rok x0 x1 (f_X9_drop N S (za (cR S 0 (za x0))) (cP S (za (cR S 9 (za x0))) x1.toNatClampNeg))
set_option maxRecDepth 100000 in
set_option maxHeartbeats 4000000 in
theorem b_X8_clearRest_23 {G : zG} {o : Nat → Option va_E} {S : cS} {N : Nat} {Q : Option Value → cS → Prop} {X : Nat × Option Nat × cS → Prop} (hG : zOK G) (hX0 : ∀ (x0 : Option Nat) (S' : cS), X (0, x0, S') → cX G o dX8_clearRest mX8_clearRest 56 [some (va_rf x0), none] [] S' Q) {rec : Option Nat → Int32 → cS → Nat × Option Nat × cS} {rok : Option Nat → Int32 → cS → Prop} (hrec : ∀ (x0 : Option Nat) (x1 : Int32) (S : cS), rok x0 x1 S → X (rec x0 x1 S) → cX G o dX8_clearRest mX8_clearRest 2 [some (va_rf x0), some (.int x1)] [] S Q) {x0 : Option Nat} {x1 : Int32} (ok : O_X8_clearRest_23 N rok x0 x1 S) (hx : X (F_X8_clearRest_23 N rec x0 x1 S)) : cX G o dX8_clearRest mX8_clearRest 23 [some (va_rf x0), some (.int x1)] [] S Q := by
  unfold O_X8_clearRest_23 at ok
  unfold F_X8_clearRest_23 at hx
  refine c_aload_nQ dX8_clearRest_23 rfl rfl ?_
  refine c_getR (C := RX8) (T := TX8) (N := 14) (ci := 6) (k := 0) ⟨rfl, inT8, by decide, fX8_28⟩ (by decide) (by decide) (by decide) dX8_clearRest_24 ok.1 ?_
  have ok := ok.2
  refine c_aload_nQ dX8_clearRest_27 rfl rfl ?_
  refine c_getR (C := RX8) (T := TX8) (N := 14) (ci := 6) (k := 9) ⟨rfl, inT8, by decide, fX8_48⟩ (by decide) (by decide) (by decide) dX8_clearRest_28 ok.1 ?_
  have ok := ok.2
  refine c_iload_n dX8_clearRest_31 rfl rfl ?_
  refine c_aald (t := 4) (ty := (.object "QuorumLedger$Message")) rfl rfl (by decide) dX8_clearRest_32 ok.1 ?_
  have ok := ok.2
  refine c_V1v (ci := 7) (rr := (RX9, TX9, 13)) (y' := mX9_drop) dX8_clearRest_33 lX8_91 kX9_drop ⟨by decide, by decide⟩ rfl rfl (by decide) ok.1.1 (Nat.le_of_ble_eq_true rfl) (cc_X9_drop hG ok.1.2) (fun S_33 h_33 => ?_)
  subst h_33
  have ok := ok.2
  exact cX.cutz (b_X8_clearRest_36 hG hX0 hrec ok hx) ⟨rfl, rfl, trivial⟩
def B_X8_clearRest_2 (N : Nat) (rec : Option Nat → Int32 → cS → Nat × Option Nat × cS) (x0 : Option Nat) (x1 : Int32) (S : cS) : Nat × Option Nat × cS := (if (cI S 1 (za x0)) ≤ x1 then (0, x0, S) else (F_X8_clearRest_23 N rec x0 x1 (f_X9_drop N S (za (cR S 0 (za x0))) (cP S (za (cR S 8 (za x0))) x1.toNatClampNeg))))
def OB_X8_clearRest_2 (N : Nat) (rok : Option Nat → Int32 → cS → Prop) (x0 : Option Nat) (x1 : Int32) (S : cS) : Prop := (cis S x0 7) ∧ (((cI S 1 (za x0)) ≤ x1 → True) ∧ (¬ (cI S 1 (za x0)) ≤ x1 → (cis S x0 7) ∧ (cis S x0 7) ∧ (cis S (cR S 8 (za x0)) 24 ∧ vp_in x1 (cL S (za (cR S 8 (za x0))))) ∧ (cis S (cR S 0 (za x0)) 8 ∧ o_X9_drop N S (za (cR S 0 (za x0))) (cP S (za (cR S 8 (za x0))) x1.toNatClampNeg)) ∧ O_X8_clearRest_23 N rok x0 x1 (f_X9_drop N S (za (cR S 0 (za x0))) (cP S (za (cR S 8 (za x0))) x1.toNatClampNeg))))
set_option maxRecDepth 100000 in
set_option maxHeartbeats 4000000 in
theorem bb_X8_clearRest_2 {G : zG} {o : Nat → Option va_E} {S : cS} {N : Nat} {Q : Option Value → cS → Prop} {X : Nat × Option Nat × cS → Prop} (hG : zOK G) (hX0 : ∀ (x0 : Option Nat) (S' : cS), X (0, x0, S') → cX G o dX8_clearRest mX8_clearRest 56 [some (va_rf x0), none] [] S' Q) {rec : Option Nat → Int32 → cS → Nat × Option Nat × cS} {rok : Option Nat → Int32 → cS → Prop} (hrec : ∀ (x0 : Option Nat) (x1 : Int32) (S : cS), rok x0 x1 S → X (rec x0 x1 S) → cX G o dX8_clearRest mX8_clearRest 2 [some (va_rf x0), some (.int x1)] [] S Q) {x0 : Option Nat} {x1 : Int32} (ok : OB_X8_clearRest_2 N rok x0 x1 S) (hx : X (B_X8_clearRest_2 N rec x0 x1 S)) : cX G o dX8_clearRest mX8_clearRest 2 [some (va_rf x0), some (.int x1)] [] S Q := by
  unfold OB_X8_clearRest_2 at ok
  unfold B_X8_clearRest_2 at hx
  refine c_iload_n dX8_clearRest_2 rfl rfl ?_
  refine c_aload_nQ dX8_clearRest_3 rfl rfl ?_
  refine c_getI (C := RX8) (T := TX8) (N := 14) (ci := 6) (k := 1) ⟨rfl, inT8, by decide, fX8_32⟩ (by decide) (by decide) (by decide) dX8_clearRest_4 ok.1 ?_
  have ok := ok.2
  refine c_icmp_ge (tgt := 56) dX8_clearRest_7 (by decide) (fun c_7 => ?_) (fun c_7 => ?_)
  · have ok := ok.1 c_7
    have hx := xif_p c_7 hx
    exact cX.cutz (hX0 _ S hx) ⟨rfl, trivial⟩
  · have ok := ok.2 c_7
    have hx := xif_n c_7 hx
    refine c_aload_nQ dX8_clearRest_10 rfl rfl ?_
    refine c_getR (C := RX8) (T := TX8) (N := 14) (ci := 6) (k := 0) ⟨rfl, inT8, by decide, fX8_28⟩ (by decide) (by decide) (by decide) dX8_clearRest_11 ok.1 ?_
    have ok := ok.2
    refine c_aload_nQ dX8_clearRest_14 rfl rfl ?_
    refine c_getR (C := RX8) (T := TX8) (N := 14) (ci := 6) (k := 8) ⟨rfl, inT8, by decide, fX8_45⟩ (by decide) (by decide) (by decide) dX8_clearRest_15 ok.1 ?_
    have ok := ok.2
    refine c_iload_n dX8_clearRest_18 rfl rfl ?_
    refine c_aald (t := 4) (ty := (.object "QuorumLedger$Message")) rfl rfl (by decide) dX8_clearRest_19 ok.1 ?_
    have ok := ok.2
    refine c_V1v (ci := 7) (rr := (RX9, TX9, 13)) (y' := mX9_drop) dX8_clearRest_20 lX8_91 kX9_drop ⟨by decide, by decide⟩ rfl rfl (by decide) ok.1.1 (Nat.le_of_ble_eq_true rfl) (cc_X9_drop hG ok.1.2) (fun S_20 h_20 => ?_)
    subst h_20
    have ok := ok.2
    exact cX.cutz (b_X8_clearRest_23 hG hX0 hrec ok hx) ⟨rfl, rfl, trivial⟩
def L_X8_clearRest_2 (N : Nat) : Nat → Option Nat → Int32 → cS → Nat × Option Nat × cS
  | 0, x0, x1, S => (0, none, S)
  | n + 1, x0, x1, S => B_X8_clearRest_2 N (L_X8_clearRest_2 N n) x0 x1 S
def OL_X8_clearRest_2 (N : Nat) : Nat → Option Nat → Int32 → cS → Prop
  | 0, _, _, _ => False
  | n + 1, x0, x1, S => OB_X8_clearRest_2 N (OL_X8_clearRest_2 N n) x0 x1 S
set_option maxRecDepth 100000 in
set_option maxHeartbeats 4000000 in
theorem l_X8_clearRest_2 {G : zG} {o : Nat → Option va_E} {N : Nat} {Q : Option Value → cS → Prop} {X : Nat × Option Nat × cS → Prop} (hG : zOK G) (hX0 : ∀ (x0 : Option Nat) (S' : cS), X (0, x0, S') → cX G o dX8_clearRest mX8_clearRest 56 [some (va_rf x0), none] [] S' Q) : ∀ (n : Nat) (x0 : Option Nat) (x1 : Int32) (S : cS), OL_X8_clearRest_2 N n x0 x1 S → X (L_X8_clearRest_2 N n x0 x1 S) → cX G o dX8_clearRest mX8_clearRest 2 [some (va_rf x0), some (.int x1)] [] S Q := by
  intro n
  induction n with
  | zero => intro x0 x1 S ok; exact absurd ok id
  | succ n ih =>
    intro x0 x1 S ok hx
    exact bb_X8_clearRest_2 hG hX0 (rec := L_X8_clearRest_2 N n) (rok := OL_X8_clearRest_2 N n) (fun x0 x1 S ok hx => ih x0 x1 S ok hx) ok hx
def A_X8_clearRest_2 (N : Nat) (x0 : Option Nat) (x1 : Int32) (S : cS) (z : Nat × Option Nat × cS) : cS := (F_X8_clearRest_56 N (z.2.1) z.2.2)
def OA_X8_clearRest_2 (N : Nat) (x0 : Option Nat) (x1 : Int32) (S : cS) (z : Nat × Option Nat × cS) : Prop := O_X8_clearRest_56 N (z.2.1) z.2.2
set_option maxRecDepth 100000 in
set_option maxHeartbeats 4000000 in
theorem c_X8_clearRest_2 {G : zG} {o : Nat → Option va_E} {S : cS} {N : Nat} {Q : Option Value → cS → Prop} {X : cS → Prop} (hG : zOK G) (hR : ∀ S', X S' → Q none S') {x0 : Option Nat} {x1 : Int32} (ok : OL_X8_clearRest_2 N N x0 x1 S ∧ OA_X8_clearRest_2 N x0 x1 S (L_X8_clearRest_2 N N x0 x1 S)) (hx : X (A_X8_clearRest_2 N x0 x1 S (L_X8_clearRest_2 N N x0 x1 S))) : cX G o dX8_clearRest mX8_clearRest 2 [some (va_rf x0), some (.int x1)] [] S Q := by
  refine l_X8_clearRest_2 hG ?_ N x0 x1 S ok.1 (X := fun z => OA_X8_clearRest_2 N x0 x1 S z ∧ X (A_X8_clearRest_2 N x0 x1 S z)) ⟨ok.2, hx⟩
  · intro x0' S' hz
    obtain ⟨ok, hx⟩ := hz
    unfold OA_X8_clearRest_2 at ok
    unfold A_X8_clearRest_2 at hx
    exact cX.cutz (b_X8_clearRest_56 hG hR ok hx) ⟨rfl, trivial⟩
def F_X8_clearRest_0 (N : Nat) (x0 : Option Nat) (S : cS) : cS := (A_X8_clearRest_2 N x0 (nI 0) S (L_X8_clearRest_2 N N x0 (nI 0) S))
def O_X8_clearRest_0 (N : Nat) (x0 : Option Nat) (S : cS) : Prop := (OL_X8_clearRest_2 N N x0 (nI 0) S ∧ OA_X8_clearRest_2 N x0 (nI 0) S (L_X8_clearRest_2 N N x0 (nI 0) S))
set_option maxRecDepth 100000 in
set_option maxHeartbeats 4000000 in
theorem b_X8_clearRest_0 {G : zG} {o : Nat → Option va_E} {S : cS} {N : Nat} {Q : Option Value → cS → Prop} {X : cS → Prop} (hG : zOK G) (hR : ∀ S', X S' → Q none S') {x0 : Option Nat} (ok : O_X8_clearRest_0 N x0 S) (hx : X (F_X8_clearRest_0 N x0 S)) : cX G o dX8_clearRest mX8_clearRest 0 [some (va_rf x0), none] [] S Q := by
  unfold O_X8_clearRest_0 at ok
  unfold F_X8_clearRest_0 at hx
  refine c_iconst (v := nI 0) dX8_clearRest_0 (by decide) ?_
  refine c_istore_1 dX8_clearRest_1 (by decide) (by simp [zok, zg, zcat_rf]) ?_
  exact cX.cutz (c_X8_clearRest_2 hG hR ok hx) ⟨rfl, rfl, trivial⟩
def f_X8_clearRest (N : Nat) (S : cS) (a0 : Nat) : cS := F_X8_clearRest_0 N (some a0) S
def o_X8_clearRest (N : Nat) (S : cS) (a0 : Nat) : Prop := O_X8_clearRest_0 N (some a0) S
set_option maxRecDepth 100000 in
set_option maxHeartbeats 4000000 in
theorem cc_X8_clearRest {G : zG} {o : Nat → Option va_E} {S : cS} {N : Nat} (hG : zOK G) {a0 : Nat} (ok : o_X8_clearRest N S a0) : cCv G o dX8_clearRest mX8_clearRest [.ref a0] S (fun S' => S' = f_X8_clearRest N S a0) := by
  refine cC.ofX rfl (by exact Nat.le_of_ble_eq_true rfl) ?_
  show cX G o dX8_clearRest mX8_clearRest 0 [some (.ref a0), none] [] S _
  exact cX.cutz (b_X8_clearRest_0 (X := fun F => F = f_X8_clearRest N S a0) hG (fun S' h => ⟨rfl, h⟩) ok rfl) ⟨rfl, trivial⟩
/-! X6_fall -/
def F_X6_fall_54 (N : Nat) (x0 : Option Nat) (S : cS) : cS := (f_X8_clearRest N S (za (cR S 3 (za x0))))
def O_X6_fall_54 (N : Nat) (x0 : Option Nat) (S : cS) : Prop := (cis S x0 6) ∧ (cis S (cR S 3 (za x0)) 7 ∧ o_X8_clearRest N S (za (cR S 3 (za x0)))) ∧ True
set_option maxRecDepth 100000 in
set_option maxHeartbeats 4000000 in
theorem b_X6_fall_54 {G : zG} {o : Nat → Option va_E} {S : cS} {N : Nat} {Q : Option Value → cS → Prop} {X : cS → Prop} (hG : zOK G) (hR : ∀ S', X S' → Q none S') {x0 : Option Nat} (ok : O_X6_fall_54 N x0 S) (hx : X (F_X6_fall_54 N x0 S)) : cX G o dX6_fall mX6_fall 54 [some (va_rf x0)] [] S Q := by
  unfold O_X6_fall_54 at ok
  unfold F_X6_fall_54 at hx
  refine c_aload_nQ dX6_fall_54 rfl rfl ?_
  refine c_getR (C := RX6) (T := TX6) (N := 19) (ci := 5) (k := 3) ⟨rfl, inT6, by decide, fX6_77⟩ (by decide) (by decide) (by decide) dX6_fall_55 ok.1 ?_
  have ok := ok.2
  refine c_V0v (ci := 6) (rr := (RX8, TX8, 14)) (y' := mX8_clearRest) dX6_fall_58 lX6_102 kX8_clearRest ⟨by decide, by decide⟩ rfl rfl (by decide) ok.1.1 (Nat.le_of_ble_eq_true rfl) (cc_X8_clearRest hG ok.1.2) (fun S_58 h_58 => ?_)
  subst h_58
  have ok := ok.2
  exact c_return rfl dX6_fall_61 (hR _ hx)
def F_X6_fall_47 (N : Nat) (x0 : Option Nat) (S : cS) : cS := (F_X6_fall_54 N x0 (f_X8_clearDecided N S (za (cR S 3 (za x0)))))
def O_X6_fall_47 (N : Nat) (x0 : Option Nat) (S : cS) : Prop := (cis S x0 6) ∧ (cis S (cR S 3 (za x0)) 7 ∧ o_X8_clearDecided N S (za (cR S 3 (za x0)))) ∧ O_X6_fall_54 N x0 (f_X8_clearDecided N S (za (cR S 3 (za x0))))
set_option maxRecDepth 100000 in
set_option maxHeartbeats 4000000 in
theorem b_X6_fall_47 {G : zG} {o : Nat → Option va_E} {S : cS} {N : Nat} {Q : Option Value → cS → Prop} {X : cS → Prop} (hG : zOK G) (hR : ∀ S', X S' → Q none S') {x0 : Option Nat} (ok : O_X6_fall_47 N x0 S) (hx : X (F_X6_fall_47 N x0 S)) : cX G o dX6_fall mX6_fall 47 [some (va_rf x0)] [] S Q := by
  unfold O_X6_fall_47 at ok
  unfold F_X6_fall_47 at hx
  refine c_aload_nQ dX6_fall_47 rfl rfl ?_
  refine c_getR (C := RX6) (T := TX6) (N := 19) (ci := 5) (k := 3) ⟨rfl, inT6, by decide, fX6_77⟩ (by decide) (by decide) (by decide) dX6_fall_48 ok.1 ?_
  have ok := ok.2
  refine c_V0v (ci := 6) (rr := (RX8, TX8, 14)) (y' := mX8_clearDecided) dX6_fall_51 lX6_99 kX8_clearDecided ⟨by decide, by decide⟩ rfl rfl (by decide) ok.1.1 (Nat.le_of_ble_eq_true rfl) (cc_X8_clearDecided hG ok.1.2) (fun S_51 h_51 => ?_)
  subst h_51
  have ok := ok.2
  exact cX.cutz (b_X6_fall_54 hG hR ok hx) ⟨rfl, trivial⟩
def F_X6_fall_33 (N : Nat) (x0 : Option Nat) (S : cS) : cS := (F_X6_fall_47 N x0 (f_X8_clear N S (za (cR S 3 (za x0))) ((cI S 9 (za x0)) + (nI 1)) (-1)))
def O_X6_fall_33 (N : Nat) (x0 : Option Nat) (S : cS) : Prop := (cis S x0 6) ∧ (cis S x0 6) ∧ (cis S (cR S 3 (za x0)) 7 ∧ o_X8_clear N S (za (cR S 3 (za x0))) ((cI S 9 (za x0)) + (nI 1)) (-1)) ∧ O_X6_fall_47 N x0 (f_X8_clear N S (za (cR S 3 (za x0))) ((cI S 9 (za x0)) + (nI 1)) (-1))
set_option maxRecDepth 100000 in
set_option maxHeartbeats 4000000 in
theorem b_X6_fall_33 {G : zG} {o : Nat → Option va_E} {S : cS} {N : Nat} {Q : Option Value → cS → Prop} {X : cS → Prop} (hG : zOK G) (hR : ∀ S', X S' → Q none S') {x0 : Option Nat} (ok : O_X6_fall_33 N x0 S) (hx : X (F_X6_fall_33 N x0 S)) : cX G o dX6_fall mX6_fall 33 [some (va_rf x0)] [] S Q := by
  unfold O_X6_fall_33 at ok
  unfold F_X6_fall_33 at hx
  refine c_aload_nQ dX6_fall_33 rfl rfl ?_
  refine c_getR (C := RX6) (T := TX6) (N := 19) (ci := 5) (k := 3) ⟨rfl, inT6, by decide, fX6_77⟩ (by decide) (by decide) (by decide) dX6_fall_34 ok.1 ?_
  have ok := ok.2
  refine c_aload_nQ dX6_fall_37 rfl rfl ?_
  refine c_getI (C := RX6) (T := TX6) (N := 19) (ci := 5) (k := 9) ⟨rfl, inT6, by decide, fX6_43⟩ (by decide) (by decide) (by decide) dX6_fall_38 ok.1 ?_
  have ok := ok.2
  refine c_iconst (v := nI 1) dX6_fall_41 (by decide) ?_
  refine c_iadd dX6_fall_42 ?_
  refine c_iconst (v := -1) dX6_fall_43 (by decide) ?_
  refine c_V2v (ci := 6) (rr := (RX8, TX8, 14)) (y' := mX8_clear) dX6_fall_44 lX6_95 kX8_clear ⟨by decide, by decide⟩ rfl rfl (by decide) ok.1.1 (Nat.le_of_ble_eq_true rfl) (cc_X8_clear hG ok.1.2) (fun S_44 h_44 => ?_)
  subst h_44
  have ok := ok.2
  exact cX.cutz (b_X6_fall_47 hG hR ok hx) ⟨rfl, trivial⟩
def F_X6_fall_18 (N : Nat) (x0 : Option Nat) (S : cS) : cS := (F_X6_fall_33 N x0 (f_X8_clear N S (za (cR S 3 (za x0))) (cI S 9 (za x0)) (cI S 1 (za x0))))
def O_X6_fall_18 (N : Nat) (x0 : Option Nat) (S : cS) : Prop := (cis S x0 6) ∧ (cis S x0 6) ∧ (cis S x0 6) ∧ (cis S (cR S 3 (za x0)) 7 ∧ o_X8_clear N S (za (cR S 3 (za x0))) (cI S 9 (za x0)) (cI S 1 (za x0))) ∧ O_X6_fall_33 N x0 (f_X8_clear N S (za (cR S 3 (za x0))) (cI S 9 (za x0)) (cI S 1 (za x0)))
set_option maxRecDepth 100000 in
set_option maxHeartbeats 4000000 in
theorem b_X6_fall_18 {G : zG} {o : Nat → Option va_E} {S : cS} {N : Nat} {Q : Option Value → cS → Prop} {X : cS → Prop} (hG : zOK G) (hR : ∀ S', X S' → Q none S') {x0 : Option Nat} (ok : O_X6_fall_18 N x0 S) (hx : X (F_X6_fall_18 N x0 S)) : cX G o dX6_fall mX6_fall 18 [some (va_rf x0)] [] S Q := by
  unfold O_X6_fall_18 at ok
  unfold F_X6_fall_18 at hx
  refine c_aload_nQ dX6_fall_18 rfl rfl ?_
  refine c_getR (C := RX6) (T := TX6) (N := 19) (ci := 5) (k := 3) ⟨rfl, inT6, by decide, fX6_77⟩ (by decide) (by decide) (by decide) dX6_fall_19 ok.1 ?_
  have ok := ok.2
  refine c_aload_nQ dX6_fall_22 rfl rfl ?_
  refine c_getI (C := RX6) (T := TX6) (N := 19) (ci := 5) (k := 9) ⟨rfl, inT6, by decide, fX6_43⟩ (by decide) (by decide) (by decide) dX6_fall_23 ok.1 ?_
  have ok := ok.2
  refine c_aload_nQ dX6_fall_26 rfl rfl ?_
  refine c_getI (C := RX6) (T := TX6) (N := 19) (ci := 5) (k := 1) ⟨rfl, inT6, by decide, fX6_60⟩ (by decide) (by decide) (by decide) dX6_fall_27 ok.1 ?_
  have ok := ok.2
  refine c_V2v (ci := 6) (rr := (RX8, TX8, 14)) (y' := mX8_clear) dX6_fall_30 lX6_95 kX8_clear ⟨by decide, by decide⟩ rfl rfl (by decide) ok.1.1 (Nat.le_of_ble_eq_true rfl) (cc_X8_clear hG ok.1.2) (fun S_30 h_30 => ?_)
  subst h_30
  have ok := ok.2
  exact cX.cutz (b_X6_fall_33 hG hR ok hx) ⟨rfl, trivial⟩
def F_X6_fall_10 (N : Nat) (x0 : Option Nat) (S : cS) : cS := (F_X6_fall_18 N x0 (f_J7_fill_53178 N S (cR S 6 (za x0)) (nI 0)))
def O_X6_fall_10 (N : Nat) (x0 : Option Nat) (S : cS) : Prop := (cis S x0 6) ∧ (o_J7_fill_53178 N S (cR S 6 (za x0)) (nI 0)) ∧ O_X6_fall_18 N x0 (f_J7_fill_53178 N S (cR S 6 (za x0)) (nI 0))
set_option maxRecDepth 100000 in
set_option maxHeartbeats 4000000 in
theorem b_X6_fall_10 {G : zG} {o : Nat → Option va_E} {S : cS} {N : Nat} {Q : Option Value → cS → Prop} {X : cS → Prop} (hG : zOK G) (hR : ∀ S', X S' → Q none S') {x0 : Option Nat} (ok : O_X6_fall_10 N x0 S) (hx : X (F_X6_fall_10 N x0 S)) : cX G o dX6_fall mX6_fall 10 [some (va_rf x0)] [] S Q := by
  unfold O_X6_fall_10 at ok
  unfold F_X6_fall_10 at hx
  refine c_aload_nQ dX6_fall_10 rfl rfl ?_
  refine c_getR (C := RX6) (T := TX6) (N := 19) (ci := 5) (k := 6) ⟨rfl, inT6, by decide, fX6_29⟩ (by decide) (by decide) (by decide) dX6_fall_11 ok.1 ?_
  have ok := ok.2
  refine c_iconst (v := nI 0) dX6_fall_14 (by decide) ?_
  refine c_S2v (y' := mJ7_fill_53178) dX6_fall_15 lX6_89 kJ7_fill_53178 ⟨by decide, by decide⟩ (Nat.le_of_ble_eq_true rfl) (cc_J7_fill_53178 hG ok.1) (fun S_15 h_15 => ?_)
  subst h_15
  have ok := ok.2
  exact cX.cutz (b_X6_fall_18 hG hR ok hx) ⟨rfl, trivial⟩
def F_X6_fall_0 (N : Nat) (x0 : Option Nat) (S : cS) : cS := (F_X6_fall_10 N x0 (csI (csI S 8 (za x0) (nI 0)) 18 (za x0) (-1)))
def O_X6_fall_0 (N : Nat) (x0 : Option Nat) (S : cS) : Prop := (cis S x0 6) ∧ (cis (csI S 8 (za x0) (nI 0)) x0 6) ∧ O_X6_fall_10 N x0 (csI (csI S 8 (za x0) (nI 0)) 18 (za x0) (-1))
set_option maxRecDepth 100000 in
set_option maxHeartbeats 4000000 in
theorem b_X6_fall_0 {G : zG} {o : Nat → Option va_E} {S : cS} {N : Nat} {Q : Option Value → cS → Prop} {X : cS → Prop} (hG : zOK G) (hR : ∀ S', X S' → Q none S') {x0 : Option Nat} (ok : O_X6_fall_0 N x0 S) (hx : X (F_X6_fall_0 N x0 S)) : cX G o dX6_fall mX6_fall 0 [some (va_rf x0)] [] S Q := by
  unfold O_X6_fall_0 at ok
  unfold F_X6_fall_0 at hx
  refine c_aload_nQ dX6_fall_0 rfl rfl ?_
  refine c_iconst (v := nI 0) dX6_fall_1 (by decide) ?_
  refine c_putI (C := RX6) (T := TX6) (N := 19) (ci := 5) (k := 8) ⟨rfl, inT6, by decide, fX6_39⟩ ftT6 rfl (by decide) (by decide) (by decide) rfl rfl dX6_fall_2 ok.1 ?_
  have ok := ok.2
  refine c_aload_nQ dX6_fall_5 rfl rfl ?_
  refine c_iconst (v := -1) dX6_fall_6 (by decide) ?_
  refine c_putI (C := RX6) (T := TX6) (N := 19) (ci := 5) (k := 18) ⟨rfl, inT6, by decide, fX6_53⟩ ftT6 rfl (by decide) (by decide) (by decide) rfl rfl dX6_fall_7 ok.1 ?_
  have ok := ok.2
  exact cX.cutz (b_X6_fall_10 hG hR ok hx) ⟨rfl, trivial⟩
def f_X6_fall (N : Nat) (S : cS) (a0 : Nat) : cS := F_X6_fall_0 N (some a0) S
def o_X6_fall (N : Nat) (S : cS) (a0 : Nat) : Prop := O_X6_fall_0 N (some a0) S
set_option maxRecDepth 100000 in
set_option maxHeartbeats 4000000 in
theorem cc_X6_fall {G : zG} {o : Nat → Option va_E} {S : cS} {N : Nat} (hG : zOK G) {a0 : Nat} (ok : o_X6_fall N S a0) : cCv G o dX6_fall mX6_fall [.ref a0] S (fun S' => S' = f_X6_fall N S a0) := by
  refine cC.ofX rfl (by exact Nat.le_of_ble_eq_true rfl) ?_
  show cX G o dX6_fall mX6_fall 0 [some (.ref a0)] [] S _
  exact cX.cutz (b_X6_fall_0 (X := fun F => F = f_X6_fall N S a0) hG (fun S' h => ⟨rfl, h⟩) ok rfl) ⟨rfl, trivial⟩
/-! X6_wake -/
def F_X6_wake_52 (N : Nat) (x0 : Option Nat) (x1 : Option Nat) (S : cS) : cS := (f_X9_drop N S (za (cR S 6 (za (cR S 0 (za x0))))) x1)
def O_X6_wake_52 (N : Nat) (x0 : Option Nat) (x1 : Option Nat) (S : cS) : Prop := (cis S x0 6) ∧ (cis S (cR S 0 (za x0)) 9) ∧ (cis S (cR S 6 (za (cR S 0 (za x0)))) 8 ∧ o_X9_drop N S (za (cR S 6 (za (cR S 0 (za x0))))) x1) ∧ True
set_option maxRecDepth 100000 in
set_option maxHeartbeats 4000000 in
theorem b_X6_wake_52 {G : zG} {o : Nat → Option va_E} {S : cS} {N : Nat} {Q : Option Value → cS → Prop} {X : cS → Prop} (hG : zOK G) (hR : ∀ S', X S' → Q none S') {x0 : Option Nat} {x1 : Option Nat} (ok : O_X6_wake_52 N x0 x1 S) (hx : X (F_X6_wake_52 N x0 x1 S)) : cX G o dX6_wake mX6_wake 52 [some (va_rf x0), some (va_rf x1)] [] S Q := by
  unfold O_X6_wake_52 at ok
  unfold F_X6_wake_52 at hx
  refine c_aload_nQ dX6_wake_52 rfl rfl ?_
  refine c_getR (C := RX6) (T := TX6) (N := 19) (ci := 5) (k := 0) ⟨rfl, inT6, by decide, fX6_56⟩ (by decide) (by decide) (by decide) dX6_wake_53 ok.1 ?_
  have ok := ok.2
  refine c_getR (C := RX10) (T := TX10) (N := 12) (ci := 8) (k := 6) ⟨rfl, inT10, by decide, fX6_65⟩ (by decide) (by decide) (by decide) dX6_wake_56 ok.1 ?_
  have ok := ok.2
  refine c_aload_nQ dX6_wake_59 rfl rfl ?_
  refine c_V1v (ci := 7) (rr := (RX9, TX9, 13)) (y' := mX9_drop) dX6_wake_60 lX6_123 kX9_drop ⟨by decide, by decide⟩ rfl rfl (by decide) ok.1.1 (Nat.le_of_ble_eq_true rfl) (cc_X9_drop hG ok.1.2) (fun S_60 h_60 => ?_)
  subst h_60
  have ok := ok.2
  exact c_return rfl dX6_wake_63 (hR _ hx)
def F_X6_wake_31 (N : Nat) (x0 : Option Nat) (s0 : Option Nat) (S : cS) : cS := (F_X6_wake_52 N x0 s0 (f_X10_spread N S (za (cR S 0 (za x0))) (cI S 1 (za x0)) s0 (cI S 1 (za x0)) (cI S 1 (za x0))))
def O_X6_wake_31 (N : Nat) (x0 : Option Nat) (s0 : Option Nat) (S : cS) : Prop := (cis S x0 6) ∧ (cis S x0 6) ∧ (cis S x0 6) ∧ (cis S x0 6) ∧ (cis S (cR S 0 (za x0)) 9 ∧ o_X10_spread N S (za (cR S 0 (za x0))) (cI S 1 (za x0)) s0 (cI S 1 (za x0)) (cI S 1 (za x0))) ∧ O_X6_wake_52 N x0 s0 (f_X10_spread N S (za (cR S 0 (za x0))) (cI S 1 (za x0)) s0 (cI S 1 (za x0)) (cI S 1 (za x0)))
set_option maxRecDepth 100000 in
set_option maxHeartbeats 4000000 in
theorem b_X6_wake_31 {G : zG} {o : Nat → Option va_E} {S : cS} {N : Nat} {Q : Option Value → cS → Prop} {X : cS → Prop} (hG : zOK G) (hR : ∀ S', X S' → Q none S') {x0 : Option Nat} {s0 : Option Nat} (ok : O_X6_wake_31 N x0 s0 S) (hx : X (F_X6_wake_31 N x0 s0 S)) : cX G o dX6_wake mX6_wake 31 [some (va_rf x0), none] [va_rf s0] S Q := by
  unfold O_X6_wake_31 at ok
  unfold F_X6_wake_31 at hx
  refine c_astore_1Q dX6_wake_31 (by decide) (by simp [zok, zg, zcat_rf]) ?_
  refine c_aload_nQ dX6_wake_32 rfl rfl ?_
  refine c_getR (C := RX6) (T := TX6) (N := 19) (ci := 5) (k := 0) ⟨rfl, inT6, by decide, fX6_56⟩ (by decide) (by decide) (by decide) dX6_wake_33 ok.1 ?_
  have ok := ok.2
  refine c_aload_nQ dX6_wake_36 rfl rfl ?_
  refine c_getI (C := RX6) (T := TX6) (N := 19) (ci := 5) (k := 1) ⟨rfl, inT6, by decide, fX6_60⟩ (by decide) (by decide) (by decide) dX6_wake_37 ok.1 ?_
  have ok := ok.2
  refine c_aload_nQ dX6_wake_40 rfl rfl ?_
  refine c_aload_nQ dX6_wake_41 rfl rfl ?_
  refine c_getI (C := RX6) (T := TX6) (N := 19) (ci := 5) (k := 1) ⟨rfl, inT6, by decide, fX6_60⟩ (by decide) (by decide) (by decide) dX6_wake_42 ok.1 ?_
  have ok := ok.2
  refine c_aload_nQ dX6_wake_45 rfl rfl ?_
  refine c_getI (C := RX6) (T := TX6) (N := 19) (ci := 5) (k := 1) ⟨rfl, inT6, by decide, fX6_60⟩ (by decide) (by decide) (by decide) dX6_wake_46 ok.1 ?_
  have ok := ok.2
  refine c_V4v (ci := 8) (rr := (RX10, TX10, 12)) (y' := mX10_spread) dX6_wake_49 lX6_119 kX10_spread ⟨by decide, by decide⟩ rfl rfl (by decide) ok.1.1 (Nat.le_of_ble_eq_true rfl) (cc_X10_spread hG ok.1.2) (fun S_49 h_49 => ?_)
  subst h_49
  have ok := ok.2
  exact cX.cutz (b_X6_wake_52 hG hR ok hx) ⟨rfl, rfl, trivial⟩
def F_X6_wake_27 (N : Nat) (x0 : Option Nat) (S : cS) : cS := (F_X6_wake_31 N x0 ((f_X6_ask N S (za x0)).1) (f_X6_ask N S (za x0)).2)
def O_X6_wake_27 (N : Nat) (x0 : Option Nat) (S : cS) : Prop := (cis S x0 6 ∧ o_X6_ask N S (za x0)) ∧ O_X6_wake_31 N x0 ((f_X6_ask N S (za x0)).1) (f_X6_ask N S (za x0)).2
set_option maxRecDepth 100000 in
set_option maxHeartbeats 4000000 in
theorem b_X6_wake_27 {G : zG} {o : Nat → Option va_E} {S : cS} {N : Nat} {Q : Option Value → cS → Prop} {X : cS → Prop} (hG : zOK G) (hR : ∀ S', X S' → Q none S') {x0 : Option Nat} (ok : O_X6_wake_27 N x0 S) (hx : X (F_X6_wake_27 N x0 S)) : cX G o dX6_wake mX6_wake 27 [some (va_rf x0), none] [] S Q := by
  unfold O_X6_wake_27 at ok
  unfold F_X6_wake_27 at hx
  refine c_aload_nQ dX6_wake_27 rfl rfl ?_
  refine c_V0q (ci := 5) (rr := (RX6, TX6, 19)) (y' := mX6_ask) dX6_wake_28 lX6_115 kX6_ask ⟨by decide, by decide⟩ rfl rfl (by decide) ok.1.1 (Nat.le_of_ble_eq_true rfl) (cc_X6_ask hG ok.1.2) (fun v_28 S_28 h_28 => ?_)
  obtain ⟨hv_28, hS_28⟩ := h_28
  subst hv_28
  have hS_28 := hS_28.symm
  subst hS_28
  have ok := ok.2
  exact cX.cutz (b_X6_wake_31 hG hR ok hx) ⟨rfl, trivial⟩
def F_X6_wake_10 (N : Nat) (x0 : Option Nat) (S : cS) : cS := (if (nI 40) < (cI S 9 (za x0)) then (F_X6_wake_27 N x0 S) else (F_X6_wake_27 N x0 (f_X6_setTimer N S (za x0) (cI S 11 (za x0)))))
def O_X6_wake_10 (N : Nat) (x0 : Option Nat) (S : cS) : Prop := (cis S x0 6) ∧ (((nI 40) < (cI S 9 (za x0)) → O_X6_wake_27 N x0 S) ∧ (¬ (nI 40) < (cI S 9 (za x0)) → (cis S x0 6) ∧ (cis S x0 6 ∧ o_X6_setTimer N S (za x0) (cI S 11 (za x0))) ∧ O_X6_wake_27 N x0 (f_X6_setTimer N S (za x0) (cI S 11 (za x0)))))
set_option maxRecDepth 100000 in
set_option maxHeartbeats 4000000 in
theorem b_X6_wake_10 {G : zG} {o : Nat → Option va_E} {S : cS} {N : Nat} {Q : Option Value → cS → Prop} {X : cS → Prop} (hG : zOK G) (hR : ∀ S', X S' → Q none S') {x0 : Option Nat} (ok : O_X6_wake_10 N x0 S) (hx : X (F_X6_wake_10 N x0 S)) : cX G o dX6_wake mX6_wake 10 [some (va_rf x0), none] [] S Q := by
  unfold O_X6_wake_10 at ok
  unfold F_X6_wake_10 at hx
  refine c_aload_nQ dX6_wake_10 rfl rfl ?_
  refine c_getI (C := RX6) (T := TX6) (N := 19) (ci := 5) (k := 9) ⟨rfl, inT6, by decide, fX6_43⟩ (by decide) (by decide) (by decide) dX6_wake_11 ok.1 ?_
  have ok := ok.2
  refine c_bipush (v := nI 40) dX6_wake_14 (by decide) ?_
  refine c_icmp_gt (tgt := 27) dX6_wake_16 (by decide) (fun c_16 => ?_) (fun c_16 => ?_)
  · have ok := ok.1 c_16
    have hx := xif_p c_16 hx
    exact cX.cutz (b_X6_wake_27 hG hR ok hx) ⟨rfl, trivial⟩
  · have ok := ok.2 c_16
    have hx := xif_n c_16 hx
    refine c_aload_nQ dX6_wake_19 rfl rfl ?_
    refine c_aload_nQ dX6_wake_20 rfl rfl ?_
    refine c_getI (C := RX6) (T := TX6) (N := 19) (ci := 5) (k := 11) ⟨rfl, inT6, by decide, fX6_108⟩ (by decide) (by decide) (by decide) dX6_wake_21 ok.1 ?_
    have ok := ok.2
    refine c_V1v (ci := 5) (rr := (RX6, TX6, 19)) (y' := mX6_setTimer) dX6_wake_24 lX6_111 kX6_setTimer ⟨by decide, by decide⟩ rfl rfl (by decide) ok.1.1 (Nat.le_of_ble_eq_true rfl) (cc_X6_setTimer hG ok.1.2) (fun S_24 h_24 => ?_)
    subst h_24
    have ok := ok.2
    exact cX.cutz (b_X6_wake_27 hG hR ok hx) ⟨rfl, trivial⟩
def F_X6_wake_0 (N : Nat) (x0 : Option Nat) (S : cS) : cS := (F_X6_wake_10 N x0 (csI (csI S 8 (za x0) (nI 1)) 16 (za x0) (nI 0)))
def O_X6_wake_0 (N : Nat) (x0 : Option Nat) (S : cS) : Prop := (cis S x0 6) ∧ (cis (csI S 8 (za x0) (nI 1)) x0 6) ∧ O_X6_wake_10 N x0 (csI (csI S 8 (za x0) (nI 1)) 16 (za x0) (nI 0))
set_option maxRecDepth 100000 in
set_option maxHeartbeats 4000000 in
theorem b_X6_wake_0 {G : zG} {o : Nat → Option va_E} {S : cS} {N : Nat} {Q : Option Value → cS → Prop} {X : cS → Prop} (hG : zOK G) (hR : ∀ S', X S' → Q none S') {x0 : Option Nat} (ok : O_X6_wake_0 N x0 S) (hx : X (F_X6_wake_0 N x0 S)) : cX G o dX6_wake mX6_wake 0 [some (va_rf x0), none] [] S Q := by
  unfold O_X6_wake_0 at ok
  unfold F_X6_wake_0 at hx
  refine c_aload_nQ dX6_wake_0 rfl rfl ?_
  refine c_iconst (v := nI 1) dX6_wake_1 (by decide) ?_
  refine c_putI (C := RX6) (T := TX6) (N := 19) (ci := 5) (k := 8) ⟨rfl, inT6, by decide, fX6_39⟩ ftT6 rfl (by decide) (by decide) (by decide) rfl rfl dX6_wake_2 ok.1 ?_
  have ok := ok.2
  refine c_aload_nQ dX6_wake_5 rfl rfl ?_
  refine c_iconst (v := nI 0) dX6_wake_6 (by decide) ?_
  refine c_putI (C := RX6) (T := TX6) (N := 19) (ci := 5) (k := 16) ⟨rfl, inT6, by decide, fX6_105⟩ ftT6 rfl (by decide) (by decide) (by decide) rfl rfl dX6_wake_7 ok.1 ?_
  have ok := ok.2
  exact cX.cutz (b_X6_wake_10 hG hR ok hx) ⟨rfl, trivial⟩
def f_X6_wake (N : Nat) (S : cS) (a0 : Nat) : cS := F_X6_wake_0 N (some a0) S
def o_X6_wake (N : Nat) (S : cS) (a0 : Nat) : Prop := O_X6_wake_0 N (some a0) S
set_option maxRecDepth 100000 in
set_option maxHeartbeats 4000000 in
theorem cc_X6_wake {G : zG} {o : Nat → Option va_E} {S : cS} {N : Nat} (hG : zOK G) {a0 : Nat} (ok : o_X6_wake N S a0) : cCv G o dX6_wake mX6_wake [.ref a0] S (fun S' => S' = f_X6_wake N S a0) := by
  refine cC.ofX rfl (by exact Nat.le_of_ble_eq_true rfl) ?_
  show cX G o dX6_wake mX6_wake 0 [some (.ref a0), none] [] S _
  exact cX.cutz (b_X6_wake_0 (X := fun F => F = f_X6_wake N S a0) hG (fun S' h => ⟨rfl, h⟩) ok rfl) ⟨rfl, trivial⟩
/-! X6_setLocked -/
def F_X6_setLocked_28 (N : Nat) (x0 : Option Nat) (x1 : Option Nat) (x2 : Int32) (S : cS) : cS := (csI (csR S 14 (za x0) x1) 12 (za x0) x2)
def O_X6_setLocked_28 (N : Nat) (x0 : Option Nat) (x1 : Option Nat) (x2 : Int32) (S : cS) : Prop := (cis S x0 6) ∧ (cis (csR S 14 (za x0) x1) x0 6) ∧ True
set_option maxRecDepth 100000 in
set_option maxHeartbeats 4000000 in
theorem b_X6_setLocked_28 {G : zG} {o : Nat → Option va_E} {S : cS} {N : Nat} {Q : Option Value → cS → Prop} {X : cS → Prop} (hG : zOK G) (hR : ∀ S', X S' → Q none S') {x0 : Option Nat} {x1 : Option Nat} {x2 : Int32} (ok : O_X6_setLocked_28 N x0 x1 x2 S) (hx : X (F_X6_setLocked_28 N x0 x1 x2 S)) : cX G o dX6_setLocked mX6_setLocked 28 [some (va_rf x0), some (va_rf x1), some (.int x2)] [] S Q := by
  unfold O_X6_setLocked_28 at ok
  unfold F_X6_setLocked_28 at hx
  refine c_aload_nQ dX6_setLocked_28 rfl rfl ?_
  refine c_aload_nQ dX6_setLocked_29 rfl rfl ?_
  refine c_putR (C := RX6) (T := TX6) (N := 19) (ci := 5) (k := 14) ⟨rfl, inT6, by decide, fX6_152⟩ ftT6 rfl (by decide) (by decide) (by decide) (fun v => by cases v <;> rfl) (fun v => by cases v <;> rfl) dX6_setLocked_30 ok.1 ?_
  have ok := ok.2
  refine c_aload_nQ dX6_setLocked_33 rfl rfl ?_
  refine c_iload_n dX6_setLocked_34 rfl rfl ?_
  refine c_putI (C := RX6) (T := TX6) (N := 19) (ci := 5) (k := 12) ⟨rfl, inT6, by decide, fX6_47⟩ ftT6 rfl (by decide) (by decide) (by decide) rfl rfl dX6_setLocked_35 ok.1 ?_
  have ok := ok.2
  exact c_return rfl dX6_setLocked_38 (hR _ hx)
def F_X6_setLocked_14 (N : Nat) (x0 : Option Nat) (x1 : Option Nat) (x2 : Int32) (S : cS) : cS := (F_X6_setLocked_28 N x0 x1 x2 (f_X9_drop N S (za (cR S 6 (za (cR S 0 (za x0))))) (cR S 14 (za x0))))
def O_X6_setLocked_14 (N : Nat) (x0 : Option Nat) (x1 : Option Nat) (x2 : Int32) (S : cS) : Prop := (cis S x0 6) ∧ (cis S (cR S 0 (za x0)) 9) ∧ (cis S x0 6) ∧ (cis S (cR S 6 (za (cR S 0 (za x0)))) 8 ∧ o_X9_drop N S (za (cR S 6 (za (cR S 0 (za x0))))) (cR S 14 (za x0))) ∧ O_X6_setLocked_28 N x0 x1 x2 (f_X9_drop N S (za (cR S 6 (za (cR S 0 (za x0))))) (cR S 14 (za x0)))
set_option maxRecDepth 100000 in
set_option maxHeartbeats 4000000 in
theorem b_X6_setLocked_14 {G : zG} {o : Nat → Option va_E} {S : cS} {N : Nat} {Q : Option Value → cS → Prop} {X : cS → Prop} (hG : zOK G) (hR : ∀ S', X S' → Q none S') {x0 : Option Nat} {x1 : Option Nat} {x2 : Int32} (ok : O_X6_setLocked_14 N x0 x1 x2 S) (hx : X (F_X6_setLocked_14 N x0 x1 x2 S)) : cX G o dX6_setLocked mX6_setLocked 14 [some (va_rf x0), some (va_rf x1), some (.int x2)] [] S Q := by
  unfold O_X6_setLocked_14 at ok
  unfold F_X6_setLocked_14 at hx
  refine c_aload_nQ dX6_setLocked_14 rfl rfl ?_
  refine c_getR (C := RX6) (T := TX6) (N := 19) (ci := 5) (k := 0) ⟨rfl, inT6, by decide, fX6_56⟩ (by decide) (by decide) (by decide) dX6_setLocked_15 ok.1 ?_
  have ok := ok.2
  refine c_getR (C := RX10) (T := TX10) (N := 12) (ci := 8) (k := 6) ⟨rfl, inT10, by decide, fX6_65⟩ (by decide) (by decide) (by decide) dX6_setLocked_18 ok.1 ?_
  have ok := ok.2
  refine c_aload_nQ dX6_setLocked_21 rfl rfl ?_
  refine c_getR (C := RX6) (T := TX6) (N := 19) (ci := 5) (k := 14) ⟨rfl, inT6, by decide, fX6_152⟩ (by decide) (by decide) (by decide) dX6_setLocked_22 ok.1 ?_
  have ok := ok.2
  refine c_V1v (ci := 7) (rr := (RX9, TX9, 13)) (y' := mX9_drop) dX6_setLocked_25 lX6_123 kX9_drop ⟨by decide, by decide⟩ rfl rfl (by decide) ok.1.1 (Nat.le_of_ble_eq_true rfl) (cc_X9_drop hG ok.1.2) (fun S_25 h_25 => ?_)
  subst h_25
  have ok := ok.2
  exact cX.cutz (b_X6_setLocked_28 hG hR ok hx) ⟨rfl, rfl, rfl, trivial⟩
def F_X6_setLocked_0 (N : Nat) (x0 : Option Nat) (x1 : Option Nat) (x2 : Int32) (S : cS) : cS := (if x1 = none then (F_X6_setLocked_14 N x0 x1 x2 S) else (F_X6_setLocked_14 N x0 x1 x2 (csI S 3 (za x1) ((cI S 3 (za x1)) + (nI 1)))))
def O_X6_setLocked_0 (N : Nat) (x0 : Option Nat) (x1 : Option Nat) (x2 : Int32) (S : cS) : Prop := ((x1 = none → O_X6_setLocked_14 N x0 x1 x2 S) ∧ (¬ x1 = none → (cis S x1 5) ∧ (cis S x1 5) ∧ O_X6_setLocked_14 N x0 x1 x2 (csI S 3 (za x1) ((cI S 3 (za x1)) + (nI 1)))))
set_option maxRecDepth 100000 in
set_option maxHeartbeats 4000000 in
theorem b_X6_setLocked_0 {G : zG} {o : Nat → Option va_E} {S : cS} {N : Nat} {Q : Option Value → cS → Prop} {X : cS → Prop} (hG : zOK G) (hR : ∀ S', X S' → Q none S') {x0 : Option Nat} {x1 : Option Nat} {x2 : Int32} (ok : O_X6_setLocked_0 N x0 x1 x2 S) (hx : X (F_X6_setLocked_0 N x0 x1 x2 S)) : cX G o dX6_setLocked mX6_setLocked 0 [some (va_rf x0), some (va_rf x1), some (.int x2)] [] S Q := by
  unfold O_X6_setLocked_0 at ok
  unfold F_X6_setLocked_0 at hx
  refine c_aload_nQ dX6_setLocked_0 rfl rfl ?_
  refine c_ifnullI (tgt := 14) dX6_setLocked_1 (by decide) (fun c_1 => ?_) (fun c_1 => ?_)
  · have ok := ok.1 c_1
    have hx := xif_p c_1 hx
    exact cX.cutz (b_X6_setLocked_14 hG hR ok hx) ⟨rfl, rfl, rfl, trivial⟩
  · have ok := ok.2 c_1
    have hx := xif_n c_1 hx
    refine c_aload_nQ dX6_setLocked_4 rfl rfl ?_
    refine c_dup dX6_setLocked_5 (zcat_rf _) ?_
    refine c_getI (C := RX5) (T := TX5) (N := 7) (ci := 4) (k := 3) ⟨rfl, inT5, by decide, fX6_149⟩ (by decide) (by decide) (by decide) dX6_setLocked_6 ok.1 ?_
    have ok := ok.2
    refine c_iconst (v := nI 1) dX6_setLocked_9 (by decide) ?_
    refine c_iadd dX6_setLocked_10 ?_
    refine c_putI (C := RX5) (T := TX5) (N := 7) (ci := 4) (k := 3) ⟨rfl, inT5, by decide, fX6_149⟩ ftT5 rfl (by decide) (by decide) (by decide) rfl rfl dX6_setLocked_11 ok.1 ?_
    have ok := ok.2
    exact cX.cutz (b_X6_setLocked_14 hG hR ok hx) ⟨rfl, rfl, rfl, trivial⟩
def f_X6_setLocked (N : Nat) (S : cS) (a0 : Nat) (x1 : Option Nat) (x2 : Int32) : cS := F_X6_setLocked_0 N (some a0) x1 x2 S
def o_X6_setLocked (N : Nat) (S : cS) (a0 : Nat) (x1 : Option Nat) (x2 : Int32) : Prop := O_X6_setLocked_0 N (some a0) x1 x2 S
set_option maxRecDepth 100000 in
set_option maxHeartbeats 4000000 in
theorem cc_X6_setLocked {G : zG} {o : Nat → Option va_E} {S : cS} {N : Nat} (hG : zOK G) {a0 : Nat} {x1 : Option Nat} {x2 : Int32} (ok : o_X6_setLocked N S a0 x1 x2) : cCv G o dX6_setLocked mX6_setLocked [.ref a0, va_rf x1, .int x2] S (fun S' => S' = f_X6_setLocked N S a0 x1 x2) := by
  refine cC.ofX rfl (by cases x1 <;> exact Nat.le_of_ble_eq_true rfl) ?_
  rw [show zargs mX6_setLocked.2.2.1 [.ref a0, va_rf x1, .int x2] = [some (.ref a0), some (va_rf x1), some (.int x2)] from by cases x1 <;> rfl]
  exact cX.cutz (b_X6_setLocked_0 (X := fun F => F = f_X6_setLocked N S a0 x1 x2) hG (fun S' h => ⟨rfl, h⟩) ok rfl) ⟨rfl, rfl, rfl, trivial⟩
/-! X6_setValid -/
def F_X6_setValid_28 (N : Nat) (x0 : Option Nat) (x1 : Option Nat) (x2 : Int32) (S : cS) : cS := (csI (csR S 15 (za x0) x1) 13 (za x0) x2)
def O_X6_setValid_28 (N : Nat) (x0 : Option Nat) (x1 : Option Nat) (x2 : Int32) (S : cS) : Prop := (cis S x0 6) ∧ (cis (csR S 15 (za x0) x1) x0 6) ∧ True
set_option maxRecDepth 100000 in
set_option maxHeartbeats 4000000 in
theorem b_X6_setValid_28 {G : zG} {o : Nat → Option va_E} {S : cS} {N : Nat} {Q : Option Value → cS → Prop} {X : cS → Prop} (hG : zOK G) (hR : ∀ S', X S' → Q none S') {x0 : Option Nat} {x1 : Option Nat} {x2 : Int32} (ok : O_X6_setValid_28 N x0 x1 x2 S) (hx : X (F_X6_setValid_28 N x0 x1 x2 S)) : cX G o dX6_setValid mX6_setValid 28 [some (va_rf x0), some (va_rf x1), some (.int x2)] [] S Q := by
  unfold O_X6_setValid_28 at ok
  unfold F_X6_setValid_28 at hx
  refine c_aload_nQ dX6_setValid_28 rfl rfl ?_
  refine c_aload_nQ dX6_setValid_29 rfl rfl ?_
  refine c_putR (C := RX6) (T := TX6) (N := 19) (ci := 5) (k := 15) ⟨rfl, inT6, by decide, fX6_156⟩ ftT6 rfl (by decide) (by decide) (by decide) (fun v => by cases v <;> rfl) (fun v => by cases v <;> rfl) dX6_setValid_30 ok.1 ?_
  have ok := ok.2
  refine c_aload_nQ dX6_setValid_33 rfl rfl ?_
  refine c_iload_n dX6_setValid_34 rfl rfl ?_
  refine c_putI (C := RX6) (T := TX6) (N := 19) (ci := 5) (k := 13) ⟨rfl, inT6, by decide, fX6_50⟩ ftT6 rfl (by decide) (by decide) (by decide) rfl rfl dX6_setValid_35 ok.1 ?_
  have ok := ok.2
  exact c_return rfl dX6_setValid_38 (hR _ hx)
def F_X6_setValid_14 (N : Nat) (x0 : Option Nat) (x1 : Option Nat) (x2 : Int32) (S : cS) : cS := (F_X6_setValid_28 N x0 x1 x2 (f_X9_drop N S (za (cR S 6 (za (cR S 0 (za x0))))) (cR S 15 (za x0))))
def O_X6_setValid_14 (N : Nat) (x0 : Option Nat) (x1 : Option Nat) (x2 : Int32) (S : cS) : Prop := (cis S x0 6) ∧ (cis S (cR S 0 (za x0)) 9) ∧ (cis S x0 6) ∧ (cis S (cR S 6 (za (cR S 0 (za x0)))) 8 ∧ o_X9_drop N S (za (cR S 6 (za (cR S 0 (za x0))))) (cR S 15 (za x0))) ∧ O_X6_setValid_28 N x0 x1 x2 (f_X9_drop N S (za (cR S 6 (za (cR S 0 (za x0))))) (cR S 15 (za x0)))
set_option maxRecDepth 100000 in
set_option maxHeartbeats 4000000 in
theorem b_X6_setValid_14 {G : zG} {o : Nat → Option va_E} {S : cS} {N : Nat} {Q : Option Value → cS → Prop} {X : cS → Prop} (hG : zOK G) (hR : ∀ S', X S' → Q none S') {x0 : Option Nat} {x1 : Option Nat} {x2 : Int32} (ok : O_X6_setValid_14 N x0 x1 x2 S) (hx : X (F_X6_setValid_14 N x0 x1 x2 S)) : cX G o dX6_setValid mX6_setValid 14 [some (va_rf x0), some (va_rf x1), some (.int x2)] [] S Q := by
  unfold O_X6_setValid_14 at ok
  unfold F_X6_setValid_14 at hx
  refine c_aload_nQ dX6_setValid_14 rfl rfl ?_
  refine c_getR (C := RX6) (T := TX6) (N := 19) (ci := 5) (k := 0) ⟨rfl, inT6, by decide, fX6_56⟩ (by decide) (by decide) (by decide) dX6_setValid_15 ok.1 ?_
  have ok := ok.2
  refine c_getR (C := RX10) (T := TX10) (N := 12) (ci := 8) (k := 6) ⟨rfl, inT10, by decide, fX6_65⟩ (by decide) (by decide) (by decide) dX6_setValid_18 ok.1 ?_
  have ok := ok.2
  refine c_aload_nQ dX6_setValid_21 rfl rfl ?_
  refine c_getR (C := RX6) (T := TX6) (N := 19) (ci := 5) (k := 15) ⟨rfl, inT6, by decide, fX6_156⟩ (by decide) (by decide) (by decide) dX6_setValid_22 ok.1 ?_
  have ok := ok.2
  refine c_V1v (ci := 7) (rr := (RX9, TX9, 13)) (y' := mX9_drop) dX6_setValid_25 lX6_123 kX9_drop ⟨by decide, by decide⟩ rfl rfl (by decide) ok.1.1 (Nat.le_of_ble_eq_true rfl) (cc_X9_drop hG ok.1.2) (fun S_25 h_25 => ?_)
  subst h_25
  have ok := ok.2
  exact cX.cutz (b_X6_setValid_28 hG hR ok hx) ⟨rfl, rfl, rfl, trivial⟩
def F_X6_setValid_0 (N : Nat) (x0 : Option Nat) (x1 : Option Nat) (x2 : Int32) (S : cS) : cS := (if x1 = none then (F_X6_setValid_14 N x0 x1 x2 S) else (F_X6_setValid_14 N x0 x1 x2 (csI S 3 (za x1) ((cI S 3 (za x1)) + (nI 1)))))
def O_X6_setValid_0 (N : Nat) (x0 : Option Nat) (x1 : Option Nat) (x2 : Int32) (S : cS) : Prop := ((x1 = none → O_X6_setValid_14 N x0 x1 x2 S) ∧ (¬ x1 = none → (cis S x1 5) ∧ (cis S x1 5) ∧ O_X6_setValid_14 N x0 x1 x2 (csI S 3 (za x1) ((cI S 3 (za x1)) + (nI 1)))))
set_option maxRecDepth 100000 in
set_option maxHeartbeats 4000000 in
theorem b_X6_setValid_0 {G : zG} {o : Nat → Option va_E} {S : cS} {N : Nat} {Q : Option Value → cS → Prop} {X : cS → Prop} (hG : zOK G) (hR : ∀ S', X S' → Q none S') {x0 : Option Nat} {x1 : Option Nat} {x2 : Int32} (ok : O_X6_setValid_0 N x0 x1 x2 S) (hx : X (F_X6_setValid_0 N x0 x1 x2 S)) : cX G o dX6_setValid mX6_setValid 0 [some (va_rf x0), some (va_rf x1), some (.int x2)] [] S Q := by
  unfold O_X6_setValid_0 at ok
  unfold F_X6_setValid_0 at hx
  refine c_aload_nQ dX6_setValid_0 rfl rfl ?_
  refine c_ifnullI (tgt := 14) dX6_setValid_1 (by decide) (fun c_1 => ?_) (fun c_1 => ?_)
  · have ok := ok.1 c_1
    have hx := xif_p c_1 hx
    exact cX.cutz (b_X6_setValid_14 hG hR ok hx) ⟨rfl, rfl, rfl, trivial⟩
  · have ok := ok.2 c_1
    have hx := xif_n c_1 hx
    refine c_aload_nQ dX6_setValid_4 rfl rfl ?_
    refine c_dup dX6_setValid_5 (zcat_rf _) ?_
    refine c_getI (C := RX5) (T := TX5) (N := 7) (ci := 4) (k := 3) ⟨rfl, inT5, by decide, fX6_149⟩ (by decide) (by decide) (by decide) dX6_setValid_6 ok.1 ?_
    have ok := ok.2
    refine c_iconst (v := nI 1) dX6_setValid_9 (by decide) ?_
    refine c_iadd dX6_setValid_10 ?_
    refine c_putI (C := RX5) (T := TX5) (N := 7) (ci := 4) (k := 3) ⟨rfl, inT5, by decide, fX6_149⟩ ftT5 rfl (by decide) (by decide) (by decide) rfl rfl dX6_setValid_11 ok.1 ?_
    have ok := ok.2
    exact cX.cutz (b_X6_setValid_14 hG hR ok hx) ⟨rfl, rfl, rfl, trivial⟩
def f_X6_setValid (N : Nat) (S : cS) (a0 : Nat) (x1 : Option Nat) (x2 : Int32) : cS := F_X6_setValid_0 N (some a0) x1 x2 S
def o_X6_setValid (N : Nat) (S : cS) (a0 : Nat) (x1 : Option Nat) (x2 : Int32) : Prop := O_X6_setValid_0 N (some a0) x1 x2 S
set_option maxRecDepth 100000 in
set_option maxHeartbeats 4000000 in
theorem cc_X6_setValid {G : zG} {o : Nat → Option va_E} {S : cS} {N : Nat} (hG : zOK G) {a0 : Nat} {x1 : Option Nat} {x2 : Int32} (ok : o_X6_setValid N S a0 x1 x2) : cCv G o dX6_setValid mX6_setValid [.ref a0, va_rf x1, .int x2] S (fun S' => S' = f_X6_setValid N S a0 x1 x2) := by
  refine cC.ofX rfl (by cases x1 <;> exact Nat.le_of_ble_eq_true rfl) ?_
  rw [show zargs mX6_setValid.2.2.1 [.ref a0, va_rf x1, .int x2] = [some (.ref a0), some (va_rf x1), some (.int x2)] from by cases x1 <;> rfl]
  exact cX.cutz (b_X6_setValid_0 (X := fun F => F = f_X6_setValid N S a0 x1 x2) hG (fun S' h => ⟨rfl, h⟩) ok rfl) ⟨rfl, rfl, rfl, trivial⟩

/-! isAbove -/
def F_isAbove_266 (N : Nat) (s0 : Int32) (S : rS) : Int32 := s0
def O_isAbove_266 (N : Nat) (s0 : Int32) (S : rS) : Prop := narrow .boolean (.int s0) = .int s0
set_option maxHeartbeats 4000000 in
theorem b_isAbove_266 {G : zG} {E : rE} {S : rS} {N : Nat} {Q : Option Value → rS → Prop} {X : Int32 → Prop} (hG : zOK G) (hR : ∀ v, X v → Q (some (.int v)) S) {s0 : Int32} (ok : O_isAbove_266 N s0 S) (hx : X (F_isAbove_266 N s0 S)) : rX G E dX12_isAbove mX12_isAbove 266 [none, none, none, none, none, none, none, none, none, none, none, none, none, none, none, none, none, none, none, none, none, none, none, none, none, none, none, none, none, none] [.int s0] S Q := by
  unfold O_isAbove_266 at ok
  unfold F_isAbove_266 at hx
  exact r_ireturn rfl ok dX12_isAbove_266 (hR _ hx)
def F_isAbove_265 (N : Nat)  (S : rS) : Int32 := (F_isAbove_266 N (nI 0) S)
def O_isAbove_265 (N : Nat)  (S : rS) : Prop := O_isAbove_266 N (nI 0) S
set_option maxHeartbeats 4000000 in
theorem b_isAbove_265 {G : zG} {E : rE} {S : rS} {N : Nat} {Q : Option Value → rS → Prop} {X : Int32 → Prop} (hG : zOK G) (hR : ∀ v, X v → Q (some (.int v)) S) (ok : O_isAbove_265 N S) (hx : X (F_isAbove_265 N S)) : rX G E dX12_isAbove mX12_isAbove 265 [none, none, none, none, none, none, none, none, none, none, none, none, none, none, none, none, none, none, none, none, none, none, none, none, none, none, none, none, none, none] [] S Q := by
  unfold O_isAbove_265 at ok
  unfold F_isAbove_265 at hx
  refine r_iconst (v := nI 0) dX12_isAbove_265 (by decide) ?_
  exact rX.cutz (b_isAbove_266 hG hR ok hx) trivial
def F_isAbove_261 (N : Nat)  (S : rS) : Int32 := (F_isAbove_266 N (nI 1) S)
def O_isAbove_261 (N : Nat)  (S : rS) : Prop := O_isAbove_266 N (nI 1) S
set_option maxHeartbeats 4000000 in
theorem b_isAbove_261 {G : zG} {E : rE} {S : rS} {N : Nat} {Q : Option Value → rS → Prop} {X : Int32 → Prop} (hG : zOK G) (hR : ∀ v, X v → Q (some (.int v)) S) (ok : O_isAbove_261 N S) (hx : X (F_isAbove_261 N S)) : rX G E dX12_isAbove mX12_isAbove 261 [none, none, none, none, none, none, none, none, none, none, none, none, none, none, none, none, none, none, none, none, none, none, none, none, none, none, none, none, none, none] [] S Q := by
  unfold O_isAbove_261 at ok
  unfold F_isAbove_261 at hx
  refine r_iconst (v := nI 1) dX12_isAbove_261 (by decide) ?_
  refine r_goto (tgt := 266) dX12_isAbove_262 (by decide) ?_
  exact rX.cutz (b_isAbove_266 hG hR ok hx) trivial
def F_isAbove_193 (N : Nat) (x2 : Int32) (x4 : Int64) (x14 : Int64) (x22 : Int64) (x24 : Int64) (s0 : Int64) (S : rS) : Int32 := (if 0 < (lg_cmp ((x14 * x4) + ((Int64.toUInt64 s0 >>> ((Int32.toInt64 (nI 32)).toUInt64 &&& Int64.toUInt64 63)).toInt64)) (Int32.toInt64 x2)) then (F_isAbove_261 N S) else (if (lg_cmp ((x14 * x4) + ((Int64.toUInt64 s0 >>> ((Int32.toInt64 (nI 32)).toUInt64 &&& Int64.toUInt64 63)).toInt64)) (Int32.toInt64 x2)) = 0 then (if 0 < (lg_cmp (s0 &&& (4294967295 : Int64)) (0 : Int64)) then (F_isAbove_261 N S) else (if 0 < (lg_cmp (x24 &&& (4294967295 : Int64)) (0 : Int64)) then (F_isAbove_261 N S) else (if (lg_cmp x22 (0 : Int64)) ≤ 0 then (F_isAbove_265 N S) else (F_isAbove_261 N S)))) else (F_isAbove_265 N S)))
def O_isAbove_193 (N : Nat) (x2 : Int32) (x4 : Int64) (x14 : Int64) (x22 : Int64) (x24 : Int64) (s0 : Int64) (S : rS) : Prop := ((0 < (lg_cmp ((x14 * x4) + ((Int64.toUInt64 s0 >>> ((Int32.toInt64 (nI 32)).toUInt64 &&& Int64.toUInt64 63)).toInt64)) (Int32.toInt64 x2)) → O_isAbove_261 N S) ∧ (¬ 0 < (lg_cmp ((x14 * x4) + ((Int64.toUInt64 s0 >>> ((Int32.toInt64 (nI 32)).toUInt64 &&& Int64.toUInt64 63)).toInt64)) (Int32.toInt64 x2)) → (((lg_cmp ((x14 * x4) + ((Int64.toUInt64 s0 >>> ((Int32.toInt64 (nI 32)).toUInt64 &&& Int64.toUInt64 63)).toInt64)) (Int32.toInt64 x2)) = 0 → ((0 < (lg_cmp (s0 &&& (4294967295 : Int64)) (0 : Int64)) → O_isAbove_261 N S) ∧ (¬ 0 < (lg_cmp (s0 &&& (4294967295 : Int64)) (0 : Int64)) → ((0 < (lg_cmp (x24 &&& (4294967295 : Int64)) (0 : Int64)) → O_isAbove_261 N S) ∧ (¬ 0 < (lg_cmp (x24 &&& (4294967295 : Int64)) (0 : Int64)) → (((lg_cmp x22 (0 : Int64)) ≤ 0 → O_isAbove_265 N S) ∧ (¬ (lg_cmp x22 (0 : Int64)) ≤ 0 → O_isAbove_261 N S))))))) ∧ (¬ (lg_cmp ((x14 * x4) + ((Int64.toUInt64 s0 >>> ((Int32.toInt64 (nI 32)).toUInt64 &&& Int64.toUInt64 63)).toInt64)) (Int32.toInt64 x2)) = 0 → O_isAbove_265 N S))))
set_option maxHeartbeats 4000000 in
theorem b_isAbove_193 {G : zG} {E : rE} {S : rS} {N : Nat} {Q : Option Value → rS → Prop} {X : Int32 → Prop} (hG : zOK G) (hR : ∀ v, X v → Q (some (.int v)) S) {x2 : Int32} {x4 : Int64} {x14 : Int64} {x22 : Int64} {x24 : Int64} {s0 : Int64} (ok : O_isAbove_193 N x2 x4 x14 x22 x24 s0 S) (hx : X (F_isAbove_193 N x2 x4 x14 x22 x24 s0 S)) : rX G E dX12_isAbove mX12_isAbove 193 [none, none, some (.int x2), none, some (.long x4), none, none, none, none, none, none, none, none, none, some (.long x14), none, none, none, none, none, none, none, some (.long x22), none, some (.long x24), none, none, none, none, none] [.long s0] S Q := by
  unfold O_isAbove_193 at ok
  unfold F_isAbove_193 at hx
  refine r_lstore_26 dX12_isAbove_193 (by decide) rfl ?_
  refine r_lload dX12_isAbove_195 rfl ?_
  refine r_lload dX12_isAbove_197 rfl ?_
  refine r_lmul dX12_isAbove_199 ?_
  refine r_lload dX12_isAbove_200 rfl ?_
  refine r_bipush (v := nI 32) dX12_isAbove_202 (by decide) ?_
  refine r_lushr dX12_isAbove_204 ?_
  refine r_ladd dX12_isAbove_205 ?_
  refine r_lstore_28 dX12_isAbove_206 (by decide) rfl ?_
  refine r_lload dX12_isAbove_208 rfl ?_
  refine r_ldc2 dX12_isAbove_210 nX12_18 ?_
  refine r_land dX12_isAbove_213 ?_
  refine r_lstore_24 dX12_isAbove_214 (by decide) rfl ?_
  refine r_lload dX12_isAbove_216 rfl ?_
  refine r_ldc2 dX12_isAbove_218 nX12_18 ?_
  refine r_land dX12_isAbove_221 ?_
  refine r_lstore_26 dX12_isAbove_222 (by decide) rfl ?_
  refine r_lload dX12_isAbove_224 rfl ?_
  refine r_iload_n dX12_isAbove_226 rfl rfl ?_
  refine r_i2l dX12_isAbove_227 ?_
  refine r_lcmp dX12_isAbove_228 ?_
  refine r_if_gt (tgt := 261) dX12_isAbove_229 (by decide) (fun c_229 => ?_) (fun c_229 => ?_)
  · have ok := ok.1 c_229
    have hx := xif_p c_229 hx
    exact rX.cutz (b_isAbove_261 hG hR ok hx) trivial
  · have ok := ok.2 c_229
    have hx := xif_n c_229 hx
    refine r_lload dX12_isAbove_232 rfl ?_
    refine r_iload_n dX12_isAbove_234 rfl rfl ?_
    refine r_i2l dX12_isAbove_235 ?_
    refine r_lcmp dX12_isAbove_236 ?_
    refine r_if_ne (tgt := 265) dX12_isAbove_237 (by decide) (fun c_237 => ?_) (fun c_237 => ?_)
    · have ok := ok.2 c_237
      have hx := xif_n c_237 hx
      exact rX.cutz (b_isAbove_265 hG hR ok hx) trivial
    · have ok := ok.1 c_237
      have hx := xif_p c_237 hx
      refine r_lload dX12_isAbove_240 rfl ?_
      refine r_lconst (v := 0) dX12_isAbove_242 rfl ?_
      refine r_lcmp dX12_isAbove_243 ?_
      refine r_if_gt (tgt := 261) dX12_isAbove_244 (by decide) (fun c_244 => ?_) (fun c_244 => ?_)
      · have ok := ok.1 c_244
        have hx := xif_p c_244 hx
        exact rX.cutz (b_isAbove_261 hG hR ok hx) trivial
      · have ok := ok.2 c_244
        have hx := xif_n c_244 hx
        refine r_lload dX12_isAbove_247 rfl ?_
        refine r_lconst (v := 0) dX12_isAbove_249 rfl ?_
        refine r_lcmp dX12_isAbove_250 ?_
        refine r_if_gt (tgt := 261) dX12_isAbove_251 (by decide) (fun c_251 => ?_) (fun c_251 => ?_)
        · have ok := ok.1 c_251
          have hx := xif_p c_251 hx
          exact rX.cutz (b_isAbove_261 hG hR ok hx) trivial
        · have ok := ok.2 c_251
          have hx := xif_n c_251 hx
          refine r_lload dX12_isAbove_254 rfl ?_
          refine r_lconst (v := 0) dX12_isAbove_256 rfl ?_
          refine r_lcmp dX12_isAbove_257 ?_
          refine r_if_le (tgt := 265) dX12_isAbove_258 (by decide) (fun c_258 => ?_) (fun c_258 => ?_)
          · have ok := ok.1 c_258
            have hx := xif_p c_258 hx
            exact rX.cutz (b_isAbove_265 hG hR ok hx) trivial
          · have ok := ok.2 c_258
            have hx := xif_n c_258 hx
            exact rX.cutz (b_isAbove_261 hG hR ok hx) trivial
def F_isAbove_171 (N : Nat) (x2 : Int32) (x4 : Int64) (x12 : Int64) (x14 : Int64) (x18 : Int64) (x20 : Int64) (x22 : Int64) (s0 : Int64) (S : rS) : Int32 := (F_isAbove_193 N x2 x4 x14 x22 s0 (((((Int64.toUInt64 x18 >>> ((Int32.toInt64 (nI 32)).toUInt64 &&& Int64.toUInt64 63)).toInt64) + x20) + (x12 * x4)) + ((Int64.toUInt64 s0 >>> ((Int32.toInt64 (nI 32)).toUInt64 &&& Int64.toUInt64 63)).toInt64)) S)
def O_isAbove_171 (N : Nat) (x2 : Int32) (x4 : Int64) (x12 : Int64) (x14 : Int64) (x18 : Int64) (x20 : Int64) (x22 : Int64) (s0 : Int64) (S : rS) : Prop := O_isAbove_193 N x2 x4 x14 x22 s0 (((((Int64.toUInt64 x18 >>> ((Int32.toInt64 (nI 32)).toUInt64 &&& Int64.toUInt64 63)).toInt64) + x20) + (x12 * x4)) + ((Int64.toUInt64 s0 >>> ((Int32.toInt64 (nI 32)).toUInt64 &&& Int64.toUInt64 63)).toInt64)) S
set_option maxHeartbeats 4000000 in
theorem b_isAbove_171 {G : zG} {E : rE} {S : rS} {N : Nat} {Q : Option Value → rS → Prop} {X : Int32 → Prop} (hG : zOK G) (hR : ∀ v, X v → Q (some (.int v)) S) {x2 : Int32} {x4 : Int64} {x12 : Int64} {x14 : Int64} {x18 : Int64} {x20 : Int64} {x22 : Int64} {s0 : Int64} (ok : O_isAbove_171 N x2 x4 x12 x14 x18 x20 x22 s0 S) (hx : X (F_isAbove_171 N x2 x4 x12 x14 x18 x20 x22 s0 S)) : rX G E dX12_isAbove mX12_isAbove 171 [none, none, some (.int x2), none, some (.long x4), none, none, none, none, none, none, none, some (.long x12), none, some (.long x14), none, none, none, some (.long x18), none, some (.long x20), none, some (.long x22), none, none, none, none, none, none, none] [.long s0] S Q := by
  unfold O_isAbove_171 at ok
  unfold F_isAbove_171 at hx
  refine r_lstore_24 dX12_isAbove_171 (by decide) rfl ?_
  refine r_lload dX12_isAbove_173 rfl ?_
  refine r_bipush (v := nI 32) dX12_isAbove_175 (by decide) ?_
  refine r_lushr dX12_isAbove_177 ?_
  refine r_lload dX12_isAbove_178 rfl ?_
  refine r_ladd dX12_isAbove_180 ?_
  refine r_lload dX12_isAbove_181 rfl ?_
  refine r_lload dX12_isAbove_183 rfl ?_
  refine r_lmul dX12_isAbove_185 ?_
  refine r_ladd dX12_isAbove_186 ?_
  refine r_lload dX12_isAbove_187 rfl ?_
  refine r_bipush (v := nI 32) dX12_isAbove_189 (by decide) ?_
  refine r_lushr dX12_isAbove_191 ?_
  refine r_ladd dX12_isAbove_192 ?_
  exact rX.cutz (b_isAbove_193 hG hR ok hx) ⟨rfl, rfl, rfl, rfl, rfl, trivial⟩
def F_isAbove_123 (N : Nat) (s0 : Int32) (S : rS) : Int32 := s0
def O_isAbove_123 (N : Nat) (s0 : Int32) (S : rS) : Prop := narrow .boolean (.int s0) = .int s0
set_option maxHeartbeats 4000000 in
theorem b_isAbove_123 {G : zG} {E : rE} {S : rS} {N : Nat} {Q : Option Value → rS → Prop} {X : Int32 → Prop} (hG : zOK G) (hR : ∀ v, X v → Q (some (.int v)) S) {s0 : Int32} (ok : O_isAbove_123 N s0 S) (hx : X (F_isAbove_123 N s0 S)) : rX G E dX12_isAbove mX12_isAbove 123 [none, none, none, none, none, none, none, none, none, none, none, none, none, none, none, none, none, none, none, none, none, none, none, none, none, none, none, none, none, none] [.int s0] S Q := by
  unfold O_isAbove_123 at ok
  unfold F_isAbove_123 at hx
  exact r_ireturn rfl ok dX12_isAbove_123 (hR _ hx)
def F_isAbove_122 (N : Nat)  (S : rS) : Int32 := (F_isAbove_123 N (nI 0) S)
def O_isAbove_122 (N : Nat)  (S : rS) : Prop := O_isAbove_123 N (nI 0) S
set_option maxHeartbeats 4000000 in
theorem b_isAbove_122 {G : zG} {E : rE} {S : rS} {N : Nat} {Q : Option Value → rS → Prop} {X : Int32 → Prop} (hG : zOK G) (hR : ∀ v, X v → Q (some (.int v)) S) (ok : O_isAbove_122 N S) (hx : X (F_isAbove_122 N S)) : rX G E dX12_isAbove mX12_isAbove 122 [none, none, none, none, none, none, none, none, none, none, none, none, none, none, none, none, none, none, none, none, none, none, none, none, none, none, none, none, none, none] [] S Q := by
  unfold O_isAbove_122 at ok
  unfold F_isAbove_122 at hx
  refine r_iconst (v := nI 0) dX12_isAbove_122 (by decide) ?_
  exact rX.cutz (b_isAbove_123 hG hR ok hx) trivial
def F_isAbove_118 (N : Nat)  (S : rS) : Int32 := (F_isAbove_123 N (nI 1) S)
def O_isAbove_118 (N : Nat)  (S : rS) : Prop := O_isAbove_123 N (nI 1) S
set_option maxHeartbeats 4000000 in
theorem b_isAbove_118 {G : zG} {E : rE} {S : rS} {N : Nat} {Q : Option Value → rS → Prop} {X : Int32 → Prop} (hG : zOK G) (hR : ∀ v, X v → Q (some (.int v)) S) (ok : O_isAbove_118 N S) (hx : X (F_isAbove_118 N S)) : rX G E dX12_isAbove mX12_isAbove 118 [none, none, none, none, none, none, none, none, none, none, none, none, none, none, none, none, none, none, none, none, none, none, none, none, none, none, none, none, none, none] [] S Q := by
  unfold O_isAbove_118 at ok
  unfold F_isAbove_118 at hx
  refine r_iconst (v := nI 1) dX12_isAbove_118 (by decide) ?_
  refine r_goto (tgt := 123) dX12_isAbove_119 (by decide) ?_
  exact rX.cutz (b_isAbove_123 hG hR ok hx) trivial
def F_isAbove_73 (N : Nat) (x2 : Int32) (x3 : Int32) (x4 : Int64) (x6 : Int64) (x10 : Int64) (x12 : Int64) (s0 : Int64) (S : rS) : Int32 := (if x3 = (nI 2) then (if 0 < (lg_cmp s0 (Int32.toInt64 x2)) then (F_isAbove_118 N S) else (if (lg_cmp s0 (Int32.toInt64 x2)) = 0 then (if 0 < (lg_cmp (x12 &&& (4294967295 : Int64)) (0 : Int64)) then (F_isAbove_118 N S) else (if (lg_cmp x10 (0 : Int64)) ≤ 0 then (F_isAbove_122 N S) else (F_isAbove_118 N S))) else (F_isAbove_122 N S))) else (F_isAbove_171 N x2 x4 (x12 &&& (4294967295 : Int64)) s0 ((x12 &&& (4294967295 : Int64)) * x6) (s0 * x6) ((x10 * x6) &&& (4294967295 : Int64)) ((((Int64.toUInt64 (x10 * x6) >>> ((Int32.toInt64 (nI 32)).toUInt64 &&& Int64.toUInt64 63)).toInt64) + (((x12 &&& (4294967295 : Int64)) * x6) &&& (4294967295 : Int64))) + (x10 * x4)) S))
def O_isAbove_73 (N : Nat) (x2 : Int32) (x3 : Int32) (x4 : Int64) (x6 : Int64) (x10 : Int64) (x12 : Int64) (s0 : Int64) (S : rS) : Prop := ((x3 = (nI 2) → ((0 < (lg_cmp s0 (Int32.toInt64 x2)) → O_isAbove_118 N S) ∧ (¬ 0 < (lg_cmp s0 (Int32.toInt64 x2)) → (((lg_cmp s0 (Int32.toInt64 x2)) = 0 → ((0 < (lg_cmp (x12 &&& (4294967295 : Int64)) (0 : Int64)) → O_isAbove_118 N S) ∧ (¬ 0 < (lg_cmp (x12 &&& (4294967295 : Int64)) (0 : Int64)) → (((lg_cmp x10 (0 : Int64)) ≤ 0 → O_isAbove_122 N S) ∧ (¬ (lg_cmp x10 (0 : Int64)) ≤ 0 → O_isAbove_118 N S))))) ∧ (¬ (lg_cmp s0 (Int32.toInt64 x2)) = 0 → O_isAbove_122 N S))))) ∧ (¬ x3 = (nI 2) → O_isAbove_171 N x2 x4 (x12 &&& (4294967295 : Int64)) s0 ((x12 &&& (4294967295 : Int64)) * x6) (s0 * x6) ((x10 * x6) &&& (4294967295 : Int64)) ((((Int64.toUInt64 (x10 * x6) >>> ((Int32.toInt64 (nI 32)).toUInt64 &&& Int64.toUInt64 63)).toInt64) + (((x12 &&& (4294967295 : Int64)) * x6) &&& (4294967295 : Int64))) + (x10 * x4)) S))
set_option maxHeartbeats 4000000 in
theorem b_isAbove_73 {G : zG} {E : rE} {S : rS} {N : Nat} {Q : Option Value → rS → Prop} {X : Int32 → Prop} (hG : zOK G) (hR : ∀ v, X v → Q (some (.int v)) S) {x2 : Int32} {x3 : Int32} {x4 : Int64} {x6 : Int64} {x10 : Int64} {x12 : Int64} {s0 : Int64} (ok : O_isAbove_73 N x2 x3 x4 x6 x10 x12 s0 S) (hx : X (F_isAbove_73 N x2 x3 x4 x6 x10 x12 s0 S)) : rX G E dX12_isAbove mX12_isAbove 73 [none, none, some (.int x2), some (.int x3), some (.long x4), none, some (.long x6), none, none, none, some (.long x10), none, some (.long x12), none, none, none, none, none, none, none, none, none, none, none, none, none, none, none, none, none] [.long s0] S Q := by
  unfold O_isAbove_73 at ok
  unfold F_isAbove_73 at hx
  refine r_lstore_14 dX12_isAbove_73 (by decide) rfl ?_
  refine r_lload dX12_isAbove_75 rfl ?_
  refine r_ldc2 dX12_isAbove_77 nX12_18 ?_
  refine r_land dX12_isAbove_80 ?_
  refine r_lstore_12 dX12_isAbove_81 (by decide) rfl ?_
  refine r_iload_n dX12_isAbove_83 rfl rfl ?_
  refine r_iconst (v := nI 2) dX12_isAbove_84 (by decide) ?_
  refine r_icmp_ne (tgt := 124) dX12_isAbove_85 (by decide) (fun c_85 => ?_) (fun c_85 => ?_)
  · have ok := ok.2 c_85
    have hx := xif_n c_85 hx
    refine r_lload dX12_isAbove_124 rfl ?_
    refine r_lload dX12_isAbove_126 rfl ?_
    refine r_lmul dX12_isAbove_128 ?_
    refine r_lstore_16 dX12_isAbove_129 (by decide) rfl ?_
    refine r_lload dX12_isAbove_131 rfl ?_
    refine r_lload dX12_isAbove_133 rfl ?_
    refine r_lmul dX12_isAbove_135 ?_
    refine r_lstore_18 dX12_isAbove_136 (by decide) rfl ?_
    refine r_lload dX12_isAbove_138 rfl ?_
    refine r_lload dX12_isAbove_140 rfl ?_
    refine r_lmul dX12_isAbove_142 ?_
    refine r_lstore_20 dX12_isAbove_143 (by decide) rfl ?_
    refine r_lload dX12_isAbove_145 rfl ?_
    refine r_ldc2 dX12_isAbove_147 nX12_18 ?_
    refine r_land dX12_isAbove_150 ?_
    refine r_lstore_22 dX12_isAbove_151 (by decide) rfl ?_
    refine r_lload dX12_isAbove_153 rfl ?_
    refine r_bipush (v := nI 32) dX12_isAbove_155 (by decide) ?_
    refine r_lushr dX12_isAbove_157 ?_
    refine r_lload dX12_isAbove_158 rfl ?_
    refine r_ldc2 dX12_isAbove_160 nX12_18 ?_
    refine r_land dX12_isAbove_163 ?_
    refine r_ladd dX12_isAbove_164 ?_
    refine r_lload dX12_isAbove_165 rfl ?_
    refine r_lload dX12_isAbove_167 rfl ?_
    refine r_lmul dX12_isAbove_169 ?_
    refine r_ladd dX12_isAbove_170 ?_
    exact rX.cutz (b_isAbove_171 hG hR ok hx) ⟨rfl, rfl, rfl, rfl, rfl, rfl, rfl, trivial⟩
  · have ok := ok.1 c_85
    have hx := xif_p c_85 hx
    refine r_lload dX12_isAbove_88 rfl ?_
    refine r_iload_n dX12_isAbove_90 rfl rfl ?_
    refine r_i2l dX12_isAbove_91 ?_
    refine r_lcmp dX12_isAbove_92 ?_
    refine r_if_gt (tgt := 118) dX12_isAbove_93 (by decide) (fun c_93 => ?_) (fun c_93 => ?_)
    · have ok := ok.1 c_93
      have hx := xif_p c_93 hx
      exact rX.cutz (b_isAbove_118 hG hR ok hx) trivial
    · have ok := ok.2 c_93
      have hx := xif_n c_93 hx
      refine r_lload dX12_isAbove_96 rfl ?_
      refine r_iload_n dX12_isAbove_98 rfl rfl ?_
      refine r_i2l dX12_isAbove_99 ?_
      refine r_lcmp dX12_isAbove_100 ?_
      refine r_if_ne (tgt := 122) dX12_isAbove_101 (by decide) (fun c_101 => ?_) (fun c_101 => ?_)
      · have ok := ok.2 c_101
        have hx := xif_n c_101 hx
        exact rX.cutz (b_isAbove_122 hG hR ok hx) trivial
      · have ok := ok.1 c_101
        have hx := xif_p c_101 hx
        refine r_lload dX12_isAbove_104 rfl ?_
        refine r_lconst (v := 0) dX12_isAbove_106 rfl ?_
        refine r_lcmp dX12_isAbove_107 ?_
        refine r_if_gt (tgt := 118) dX12_isAbove_108 (by decide) (fun c_108 => ?_) (fun c_108 => ?_)
        · have ok := ok.1 c_108
          have hx := xif_p c_108 hx
          exact rX.cutz (b_isAbove_118 hG hR ok hx) trivial
        · have ok := ok.2 c_108
          have hx := xif_n c_108 hx
          refine r_lload dX12_isAbove_111 rfl ?_
          refine r_lconst (v := 0) dX12_isAbove_113 rfl ?_
          refine r_lcmp dX12_isAbove_114 ?_
          refine r_if_le (tgt := 122) dX12_isAbove_115 (by decide) (fun c_115 => ?_) (fun c_115 => ?_)
          · have ok := ok.1 c_115
            have hx := xif_p c_115 hx
            exact rX.cutz (b_isAbove_122 hG hR ok hx) trivial
          · have ok := ok.2 c_115
            have hx := xif_n c_115 hx
            exact rX.cutz (b_isAbove_118 hG hR ok hx) trivial
def F_isAbove_47 (N : Nat) (x2 : Int32) (x3 : Int32) (x4 : Int64) (x6 : Int64) (x10 : Int64) (s0 : Int64) (S : rS) : Int32 := (F_isAbove_73 N x2 x3 x4 x6 x10 s0 (((x4 * x4) + ((Int64.toUInt64 (((2 : Int64) * x4) * x6) >>> ((Int32.toInt64 (nI 32)).toUInt64 &&& Int64.toUInt64 63)).toInt64)) + ((Int64.toUInt64 s0 >>> ((Int32.toInt64 (nI 32)).toUInt64 &&& Int64.toUInt64 63)).toInt64)) S)
def O_isAbove_47 (N : Nat) (x2 : Int32) (x3 : Int32) (x4 : Int64) (x6 : Int64) (x10 : Int64) (s0 : Int64) (S : rS) : Prop := O_isAbove_73 N x2 x3 x4 x6 x10 s0 (((x4 * x4) + ((Int64.toUInt64 (((2 : Int64) * x4) * x6) >>> ((Int32.toInt64 (nI 32)).toUInt64 &&& Int64.toUInt64 63)).toInt64)) + ((Int64.toUInt64 s0 >>> ((Int32.toInt64 (nI 32)).toUInt64 &&& Int64.toUInt64 63)).toInt64)) S
set_option maxHeartbeats 4000000 in
theorem b_isAbove_47 {G : zG} {E : rE} {S : rS} {N : Nat} {Q : Option Value → rS → Prop} {X : Int32 → Prop} (hG : zOK G) (hR : ∀ v, X v → Q (some (.int v)) S) {x2 : Int32} {x3 : Int32} {x4 : Int64} {x6 : Int64} {x10 : Int64} {s0 : Int64} (ok : O_isAbove_47 N x2 x3 x4 x6 x10 s0 S) (hx : X (F_isAbove_47 N x2 x3 x4 x6 x10 s0 S)) : rX G E dX12_isAbove mX12_isAbove 47 [none, none, some (.int x2), some (.int x3), some (.long x4), none, some (.long x6), none, none, none, some (.long x10), none, none, none, none, none, none, none, none, none, none, none, none, none, none, none, none, none, none, none] [.long s0] S Q := by
  unfold O_isAbove_47 at ok
  unfold F_isAbove_47 at hx
  refine r_lstore_12 dX12_isAbove_47 (by decide) rfl ?_
  refine r_lload dX12_isAbove_49 rfl ?_
  refine r_lload dX12_isAbove_51 rfl ?_
  refine r_lmul dX12_isAbove_53 ?_
  refine r_ldc2 dX12_isAbove_54 nX12_20 ?_
  refine r_lload dX12_isAbove_57 rfl ?_
  refine r_lmul dX12_isAbove_59 ?_
  refine r_lload dX12_isAbove_60 rfl ?_
  refine r_lmul dX12_isAbove_62 ?_
  refine r_bipush (v := nI 32) dX12_isAbove_63 (by decide) ?_
  refine r_lushr dX12_isAbove_65 ?_
  refine r_ladd dX12_isAbove_66 ?_
  refine r_lload dX12_isAbove_67 rfl ?_
  refine r_bipush (v := nI 32) dX12_isAbove_69 (by decide) ?_
  refine r_lushr dX12_isAbove_71 ?_
  refine r_ladd dX12_isAbove_72 ?_
  exact rX.cutz (b_isAbove_73 hG hR ok hx) ⟨rfl, rfl, rfl, rfl, rfl, rfl, trivial⟩
def F_isAbove_0 (N : Nat) (x0 : Int64) (x2 : Int32) (x3 : Int32) (S : rS) : Int32 := (F_isAbove_47 N x2 x3 (x0 >>> (Int32.toInt64 (nI 32) &&& 63)) (x0 &&& (4294967295 : Int64)) (((x0 &&& (4294967295 : Int64)) * (x0 &&& (4294967295 : Int64))) &&& (4294967295 : Int64)) (((Int64.toUInt64 ((x0 &&& (4294967295 : Int64)) * (x0 &&& (4294967295 : Int64))) >>> ((Int32.toInt64 (nI 32)).toUInt64 &&& Int64.toUInt64 63)).toInt64) + ((((2 : Int64) * (x0 >>> (Int32.toInt64 (nI 32) &&& 63))) * (x0 &&& (4294967295 : Int64))) &&& (4294967295 : Int64))) S)
def O_isAbove_0 (N : Nat) (x0 : Int64) (x2 : Int32) (x3 : Int32) (S : rS) : Prop := O_isAbove_47 N x2 x3 (x0 >>> (Int32.toInt64 (nI 32) &&& 63)) (x0 &&& (4294967295 : Int64)) (((x0 &&& (4294967295 : Int64)) * (x0 &&& (4294967295 : Int64))) &&& (4294967295 : Int64)) (((Int64.toUInt64 ((x0 &&& (4294967295 : Int64)) * (x0 &&& (4294967295 : Int64))) >>> ((Int32.toInt64 (nI 32)).toUInt64 &&& Int64.toUInt64 63)).toInt64) + ((((2 : Int64) * (x0 >>> (Int32.toInt64 (nI 32) &&& 63))) * (x0 &&& (4294967295 : Int64))) &&& (4294967295 : Int64))) S
set_option maxHeartbeats 4000000 in
theorem b_isAbove_0 {G : zG} {E : rE} {S : rS} {N : Nat} {Q : Option Value → rS → Prop} {X : Int32 → Prop} (hG : zOK G) (hR : ∀ v, X v → Q (some (.int v)) S) {x0 : Int64} {x2 : Int32} {x3 : Int32} (ok : O_isAbove_0 N x0 x2 x3 S) (hx : X (F_isAbove_0 N x0 x2 x3 S)) : rX G E dX12_isAbove mX12_isAbove 0 [some (.long x0), none, some (.int x2), some (.int x3), none, none, none, none, none, none, none, none, none, none, none, none, none, none, none, none, none, none, none, none, none, none, none, none, none, none] [] S Q := by
  unfold O_isAbove_0 at ok
  unfold F_isAbove_0 at hx
  refine r_lload_n dX12_isAbove_0 rfl rfl ?_
  refine r_bipush (v := nI 32) dX12_isAbove_1 (by decide) ?_
  refine r_lshr dX12_isAbove_3 ?_
  refine r_lstore_4 dX12_isAbove_4 (by decide) rfl ?_
  refine r_lload_n dX12_isAbove_6 rfl rfl ?_
  refine r_ldc2 dX12_isAbove_7 nX12_18 ?_
  refine r_land dX12_isAbove_10 ?_
  refine r_lstore_6 dX12_isAbove_11 (by decide) rfl ?_
  refine r_lload dX12_isAbove_13 rfl ?_
  refine r_lload dX12_isAbove_15 rfl ?_
  refine r_lmul dX12_isAbove_17 ?_
  refine r_lstore_8 dX12_isAbove_18 (by decide) rfl ?_
  refine r_lload dX12_isAbove_20 rfl ?_
  refine r_ldc2 dX12_isAbove_22 nX12_18 ?_
  refine r_land dX12_isAbove_25 ?_
  refine r_lstore_10 dX12_isAbove_26 (by decide) rfl ?_
  refine r_lload dX12_isAbove_28 rfl ?_
  refine r_bipush (v := nI 32) dX12_isAbove_30 (by decide) ?_
  refine r_lushr dX12_isAbove_32 ?_
  refine r_ldc2 dX12_isAbove_33 nX12_20 ?_
  refine r_lload dX12_isAbove_36 rfl ?_
  refine r_lmul dX12_isAbove_38 ?_
  refine r_lload dX12_isAbove_39 rfl ?_
  refine r_lmul dX12_isAbove_41 ?_
  refine r_ldc2 dX12_isAbove_42 nX12_18 ?_
  refine r_land dX12_isAbove_45 ?_
  refine r_ladd dX12_isAbove_46 ?_
  exact rX.cutz (b_isAbove_47 hG hR ok hx) ⟨rfl, rfl, rfl, rfl, rfl, trivial⟩
def f_isAbove (N : Nat) (S : rS) (x0 : Int64) (x2 : Int32) (x3 : Int32) : Int32 := F_isAbove_0 N x0 x2 x3 S
def o_isAbove (N : Nat) (S : rS) (x0 : Int64) (x2 : Int32) (x3 : Int32) : Prop := O_isAbove_0 N x0 x2 x3 S
set_option maxHeartbeats 4000000 in
theorem rc_X12_isAbove {G : zG} {E : rE} {S : rS} {N : Nat} (hG : zOK G) {x0 : Int64} {x2 : Int32} {x3 : Int32} (ok : o_isAbove N S x0 x2 x3) : rCi G E dX12_isAbove mX12_isAbove [.long x0, .int x2, .int x3] S (fun v S' => v = f_isAbove N S x0 x2 x3 ∧ S' = S) := by
  refine rC.ofX rfl (Nat.le_of_ble_eq_true rfl) ?_
  show rX G E dX12_isAbove mX12_isAbove 0 [some (.long x0), none, some (.int x2), some (.int x3), none, none, none, none, none, none, none, none, none, none, none, none, none, none, none, none, none, none, none, none, none, none, none, none, none, none] [] S _
  exact rX.cutz (b_isAbove_0 (X := fun F => F = f_isAbove N S x0 x2 x3) hG (fun v h => ⟨v, rfl, h, rfl⟩) ok rfl) ⟨rfl, rfl, rfl, trivial⟩
/-! root -/
def F_root_38 (N : Nat) (x2 : Int64) (S : rS) : Int32 := (Int64.toInt32 x2)
def O_root_38 (N : Nat) (x2 : Int64) (S : rS) : Prop := True
set_option maxHeartbeats 4000000 in
theorem b_root_38 {G : zG} {E : rE} {S : rS} {N : Nat} {Q : Option Value → rS → Prop} {X : Int32 → Prop} (hG : zOK G) (hR : ∀ v, X v → Q (some (.int v)) S) {x2 : Int64} (ok : O_root_38 N x2 S) (hx : X (F_root_38 N x2 S)) : rX G E dX12_root mX12_root 38 [none, none, some (.long x2), none, none, none, none] [] S Q := by
  unfold O_root_38 at ok
  unfold F_root_38 at hx
  refine r_lload_n dX12_root_38 rfl rfl ?_
  refine r_l2i dX12_root_39 ?_
  exact r_ireturn rfl rfl dX12_root_40 (hR _ hx)
def F_root_32 (N : Nat) (rec : Int32 → Int32 → Int64 → Int32 → Nat × Int64 × Unit) (x0 : Int32) (x1 : Int32) (x2 : Int64) (x4 : Int32) (S : rS) : Nat × Int64 × Unit := (rec x0 x1 x2 (x4 + (-1)))
def O_root_32 (N : Nat) (rok : Int32 → Int32 → Int64 → Int32 → Prop) (x0 : Int32) (x1 : Int32) (x2 : Int64) (x4 : Int32) (S : rS) : Prop := rok x0 x1 x2 (x4 + (-1))
set_option maxHeartbeats 4000000 in
theorem b_root_32 {G : zG} {E : rE} {S : rS} {N : Nat} {Q : Option Value → rS → Prop} {X : Nat × Int64 × Unit → Prop} (hG : zOK G) (hX0 : ∀ (x2 : Int64) , X (0, x2, ()) → rX G E dX12_root mX12_root 38 [none, none, some (.long x2), none, none, none, none] [] S Q) {rec : Int32 → Int32 → Int64 → Int32 → Nat × Int64 × Unit} {rok : Int32 → Int32 → Int64 → Int32 → Prop} (hrec : ∀ (x0 : Int32) (x1 : Int32) (x2 : Int64) (x4 : Int32), rok x0 x1 x2 x4 → X (rec x0 x1 x2 x4) → rX G E dX12_root mX12_root 6 [some (.int x0), some (.int x1), some (.long x2), none, some (.int x4), none, none] [] S Q) {x0 : Int32} {x1 : Int32} {x2 : Int64} {x4 : Int32} (ok : O_root_32 N rok x0 x1 x2 x4 S) (hx : X (F_root_32 N rec x0 x1 x2 x4 S)) : rX G E dX12_root mX12_root 32 [some (.int x0), some (.int x1), some (.long x2), none, some (.int x4), none, none] [] S Q := by
  unfold O_root_32 at ok
  unfold F_root_32 at hx
  refine r_iinc_4 (v := (x4 + (-1))) dX12_root_32 rfl (by first | rfl | (congr 1)) (by decide) rfl ?_
  refine r_goto (tgt := 6) dX12_root_35 (by decide) ?_
  exact rX.cutz (hrec _ _ _ _ ok hx) ⟨rfl, rfl, rfl, rfl, trivial⟩
def B_root_6 (N : Nat) (rec : Int32 → Int32 → Int64 → Int32 → Nat × Int64 × Unit) (x0 : Int32) (x1 : Int32) (x2 : Int64) (x4 : Int32) (S : rS) : Nat × Int64 × Unit := (if x4 < 0 then (0, x2, ()) else (if (f_isAbove N S (x2 ||| ((1 : Int64) <<< (Int32.toInt64 x4 &&& 63))) x0 x1) = 0 then (F_root_32 N rec x0 x1 (x2 ||| ((1 : Int64) <<< (Int32.toInt64 x4 &&& 63))) x4 S) else (F_root_32 N rec x0 x1 x2 x4 S)))
def OB_root_6 (N : Nat) (rok : Int32 → Int32 → Int64 → Int32 → Prop) (x0 : Int32) (x1 : Int32) (x2 : Int64) (x4 : Int32) (S : rS) : Prop := ((x4 < 0 → True) ∧ (¬ x4 < 0 → (o_isAbove N S (x2 ||| ((1 : Int64) <<< (Int32.toInt64 x4 &&& 63))) x0 x1) ∧ (((f_isAbove N S (x2 ||| ((1 : Int64) <<< (Int32.toInt64 x4 &&& 63))) x0 x1) = 0 → O_root_32 N rok x0 x1 (x2 ||| ((1 : Int64) <<< (Int32.toInt64 x4 &&& 63))) x4 S) ∧ (¬ (f_isAbove N S (x2 ||| ((1 : Int64) <<< (Int32.toInt64 x4 &&& 63))) x0 x1) = 0 → O_root_32 N rok x0 x1 x2 x4 S))))
set_option maxHeartbeats 4000000 in
theorem bb_root_6 {G : zG} {E : rE} {S : rS} {N : Nat} {Q : Option Value → rS → Prop} {X : Nat × Int64 × Unit → Prop} (hG : zOK G) (hX0 : ∀ (x2 : Int64) , X (0, x2, ()) → rX G E dX12_root mX12_root 38 [none, none, some (.long x2), none, none, none, none] [] S Q) {rec : Int32 → Int32 → Int64 → Int32 → Nat × Int64 × Unit} {rok : Int32 → Int32 → Int64 → Int32 → Prop} (hrec : ∀ (x0 : Int32) (x1 : Int32) (x2 : Int64) (x4 : Int32), rok x0 x1 x2 x4 → X (rec x0 x1 x2 x4) → rX G E dX12_root mX12_root 6 [some (.int x0), some (.int x1), some (.long x2), none, some (.int x4), none, none] [] S Q) {x0 : Int32} {x1 : Int32} {x2 : Int64} {x4 : Int32} (ok : OB_root_6 N rok x0 x1 x2 x4 S) (hx : X (B_root_6 N rec x0 x1 x2 x4 S)) : rX G E dX12_root mX12_root 6 [some (.int x0), some (.int x1), some (.long x2), none, some (.int x4), none, none] [] S Q := by
  unfold OB_root_6 at ok
  unfold B_root_6 at hx
  refine r_iload dX12_root_6 rfl ?_
  refine r_if_lt (tgt := 38) dX12_root_8 (by decide) (fun c_8 => ?_) (fun c_8 => ?_)
  · have ok := ok.1 c_8
    have hx := xif_p c_8 hx
    exact rX.cutz (hX0 _  hx) ⟨rfl, trivial⟩
  · have ok := ok.2 c_8
    have hx := xif_n c_8 hx
    refine r_lload_n dX12_root_11 rfl rfl ?_
    refine r_lconst (v := 1) dX12_root_12 rfl ?_
    refine r_iload dX12_root_13 rfl ?_
    refine r_lshl dX12_root_15 ?_
    refine r_lor dX12_root_16 ?_
    refine r_lstore_5 dX12_root_17 (by decide) rfl ?_
    refine r_lload dX12_root_19 rfl ?_
    refine r_iload_n dX12_root_21 rfl rfl ?_
    refine r_iload_n dX12_root_22 rfl rfl ?_
    refine r_S3i (y' := mX12_isAbove) dX12_root_23 lX12_14 kX12_isAbove ⟨by decide, by decide⟩ (Nat.le_of_ble_eq_true rfl) (rc_X12_isAbove hG ok.1) (fun v_23 S_23 h_23 => ?_)
    obtain ⟨rfl, hS_23⟩ := h_23
    have hS_23 := hS_23.symm
    subst hS_23
    have ok := ok.2
    refine r_if_ne (tgt := 32) dX12_root_26 (by decide) (fun c_26 => ?_) (fun c_26 => ?_)
    · have ok := ok.2 c_26
      have hx := xif_n c_26 hx
      exact rX.cutz (b_root_32 hG hX0 hrec ok hx) ⟨rfl, rfl, rfl, rfl, trivial⟩
    · have ok := ok.1 c_26
      have hx := xif_p c_26 hx
      refine r_lload dX12_root_29 rfl ?_
      refine r_lstore_2 dX12_root_31 (by decide) rfl ?_
      exact rX.cutz (b_root_32 hG hX0 hrec ok hx) ⟨rfl, rfl, rfl, rfl, trivial⟩
def L_root_6 (N : Nat) : Nat → Int32 → Int32 → Int64 → Int32 → rS → Nat × Int64 × Unit
  | 0, x0, x1, x2, x4, S => (0, 0, ())
  | n + 1, x0, x1, x2, x4, S => B_root_6 N (fun x0 x1 x2 x4 => L_root_6 N n x0 x1 x2 x4 S) x0 x1 x2 x4 S
def OL_root_6 (N : Nat) : Nat → Int32 → Int32 → Int64 → Int32 → rS → Prop
  | 0, _, _, _, _, _ => False
  | n + 1, x0, x1, x2, x4, S => OB_root_6 N (fun x0 x1 x2 x4 => OL_root_6 N n x0 x1 x2 x4 S) x0 x1 x2 x4 S
set_option maxHeartbeats 4000000 in
theorem l_root_6 {G : zG} {E : rE} {S : rS} {N : Nat} {Q : Option Value → rS → Prop} {X : Nat × Int64 × Unit → Prop} (hG : zOK G) (hX0 : ∀ (x2 : Int64) , X (0, x2, ()) → rX G E dX12_root mX12_root 38 [none, none, some (.long x2), none, none, none, none] [] S Q) : ∀ (n : Nat) (x0 : Int32) (x1 : Int32) (x2 : Int64) (x4 : Int32) , OL_root_6 N n x0 x1 x2 x4 S → X (L_root_6 N n x0 x1 x2 x4 S) → rX G E dX12_root mX12_root 6 [some (.int x0), some (.int x1), some (.long x2), none, some (.int x4), none, none] [] S Q := by
  intro n
  induction n with
  | zero => intro x0 x1 x2 x4 ok; exact absurd ok id
  | succ n ih =>
    intro x0 x1 x2 x4 ok hx
    exact bb_root_6 hG hX0 (rec := fun x0 x1 x2 x4 => L_root_6 N n x0 x1 x2 x4 S) (rok := fun x0 x1 x2 x4 => OL_root_6 N n x0 x1 x2 x4 S) (fun x0 x1 x2 x4 ok hx => ih x0 x1 x2 x4 ok hx) ok hx
def A_root_6 (N : Nat) (x0 : Int32) (x1 : Int32) (x2 : Int64) (x4 : Int32) (S : rS) (z : Nat × Int64 × Unit) : Int32 := (F_root_38 N (z.2.1) S)
def OA_root_6 (N : Nat) (x0 : Int32) (x1 : Int32) (x2 : Int64) (x4 : Int32) (S : rS) (z : Nat × Int64 × Unit) : Prop := O_root_38 N (z.2.1) S
set_option maxHeartbeats 4000000 in
theorem c_root_6 {G : zG} {E : rE} {S : rS} {N : Nat} {Q : Option Value → rS → Prop} {X : Int32 → Prop} (hG : zOK G) (hR : ∀ v, X v → Q (some (.int v)) S) {x0 : Int32} {x1 : Int32} {x2 : Int64} {x4 : Int32} (ok : OL_root_6 N N x0 x1 x2 x4 S ∧ OA_root_6 N x0 x1 x2 x4 S (L_root_6 N N x0 x1 x2 x4 S)) (hx : X (A_root_6 N x0 x1 x2 x4 S (L_root_6 N N x0 x1 x2 x4 S))) : rX G E dX12_root mX12_root 6 [some (.int x0), some (.int x1), some (.long x2), none, some (.int x4), none, none] [] S Q := by
  refine l_root_6 hG ?_ N x0 x1 x2 x4 ok.1 (X := fun z => OA_root_6 N x0 x1 x2 x4 S z ∧ X (A_root_6 N x0 x1 x2 x4 S z)) ⟨ok.2, hx⟩
  · intro x2' hz
    obtain ⟨ok, hx⟩ := hz
    unfold OA_root_6 at ok
    unfold A_root_6 at hx
    exact rX.cutz (b_root_38 hG hR ok hx) ⟨rfl, trivial⟩
def F_root_0 (N : Nat) (x0 : Int32) (x1 : Int32) (S : rS) : Int32 := (A_root_6 N x0 x1 (0 : Int64) (nI 35) S (L_root_6 N N x0 x1 (0 : Int64) (nI 35) S))
def O_root_0 (N : Nat) (x0 : Int32) (x1 : Int32) (S : rS) : Prop := (OL_root_6 N N x0 x1 (0 : Int64) (nI 35) S ∧ OA_root_6 N x0 x1 (0 : Int64) (nI 35) S (L_root_6 N N x0 x1 (0 : Int64) (nI 35) S))
set_option maxHeartbeats 4000000 in
theorem b_root_0 {G : zG} {E : rE} {S : rS} {N : Nat} {Q : Option Value → rS → Prop} {X : Int32 → Prop} (hG : zOK G) (hR : ∀ v, X v → Q (some (.int v)) S) {x0 : Int32} {x1 : Int32} (ok : O_root_0 N x0 x1 S) (hx : X (F_root_0 N x0 x1 S)) : rX G E dX12_root mX12_root 0 [some (.int x0), some (.int x1), none, none, none, none, none] [] S Q := by
  unfold O_root_0 at ok
  unfold F_root_0 at hx
  refine r_lconst (v := 0) dX12_root_0 rfl ?_
  refine r_lstore_2 dX12_root_1 (by decide) rfl ?_
  refine r_bipush (v := nI 35) dX12_root_2 (by decide) ?_
  refine r_istore_4 dX12_root_4 (by decide) rfl ?_
  exact rX.cutz (c_root_6 hG hR ok hx) ⟨rfl, rfl, rfl, rfl, trivial⟩
def f_root (N : Nat) (S : rS) (x0 : Int32) (x1 : Int32) : Int32 := F_root_0 N x0 x1 S
def o_root (N : Nat) (S : rS) (x0 : Int32) (x1 : Int32) : Prop := O_root_0 N x0 x1 S
set_option maxHeartbeats 4000000 in
theorem rc_X12_root {G : zG} {E : rE} {S : rS} {N : Nat} (hG : zOK G) {x0 : Int32} {x1 : Int32} (ok : o_root N S x0 x1) : rCi G E dX12_root mX12_root [.int x0, .int x1] S (fun v S' => v = f_root N S x0 x1 ∧ S' = S) := by
  refine rC.ofX rfl (Nat.le_of_ble_eq_true rfl) ?_
  show rX G E dX12_root mX12_root 0 [some (.int x0), some (.int x1), none, none, none, none, none] [] S _
  exact rX.cutz (b_root_0 (X := fun F => F = f_root N S x0 x1) hG (fun v h => ⟨v, rfl, h, rfl⟩) ok rfl) ⟨rfl, rfl, trivial⟩
/-! primes -/
def F_primes_92 (N : Nat)  (S : rS) : rS := S
def O_primes_92 (N : Nat)  (S : rS) : Prop := True
set_option maxHeartbeats 4000000 in
theorem b_primes_92 {G : zG} {E : rE} {S : rS} {N : Nat} {Q : Option Value → rS → Prop} {X : rS → Prop} (hG : zOK G) (hR : ∀ S', X S' → Q none S') (ok : O_primes_92 N S) (hx : X (F_primes_92 N S)) : rX G E dX12_primes mX12_primes 92 [none, none, none, none, none] [] S Q := by
  unfold O_primes_92 at ok
  unfold F_primes_92 at hx
  exact r_return rfl dX12_primes_92 (hR _ hx)
def F_primes_86 (N : Nat) (rec : Int32 → Int32 → rS → Nat × rS) (x1 : Int32) (x2 : Int32) (S : rS) : Nat × rS := (rec x1 (x2 + nI 1) S)
def O_primes_86 (N : Nat) (rok : Int32 → Int32 → rS → Prop) (x1 : Int32) (x2 : Int32) (S : rS) : Prop := rok x1 (x2 + nI 1) S
set_option maxHeartbeats 4000000 in
theorem b_primes_86 {G : zG} {E : rE} {S : rS} {N : Nat} {Q : Option Value → rS → Prop} {X : Nat × rS → Prop} (hG : zOK G) (hX0 : ∀ (S' : rS), X (0, S') → rX G E dX12_primes mX12_primes 92 [none, none, none, none, none] [] S' Q) {rec : Int32 → Int32 → rS → Nat × rS} {rok : Int32 → Int32 → rS → Prop} (hrec : ∀ (x1 : Int32) (x2 : Int32) (S : rS), rok x1 x2 S → X (rec x1 x2 S) → rX G E dX12_primes mX12_primes 4 [some (.ref E.1), some (.int x1), some (.int x2), none, none] [] S Q) {x1 : Int32} {x2 : Int32} (ok : O_primes_86 N rok x1 x2 S) (hx : X (F_primes_86 N rec x1 x2 S)) : rX G E dX12_primes mX12_primes 86 [some (.ref E.1), some (.int x1), some (.int x2), none, none] [] S Q := by
  unfold O_primes_86 at ok
  unfold F_primes_86 at hx
  refine r_iinc_2 (v := (x2 + nI 1)) dX12_primes_86 rfl (by first | rfl | (congr 1)) (by decide) rfl ?_
  refine r_goto (tgt := 4) dX12_primes_89 (by decide) ?_
  exact rX.cutz (hrec _ _ S ok hx) ⟨rfl, rfl, rfl, trivial⟩
def F_primes_71 (N : Nat) (rec : Int32 → Int32 → rS → Nat × rS) (x1 : Int32) (x2 : Int32) (S : rS) : Nat × rS := (F_primes_86 N rec (x1 + (nI 1)) x2 (rsA S 10 x1.toNatClampNeg (f_root N S x2 (nI 3))))
def O_primes_71 (N : Nat) (rok : Int32 → Int32 → rS → Prop) (x1 : Int32) (x2 : Int32) (S : rS) : Prop := (o_root N S x2 (nI 3)) ∧ (vp_in x1 64) ∧ O_primes_86 N rok (x1 + (nI 1)) x2 (rsA S 10 x1.toNatClampNeg (f_root N S x2 (nI 3)))
set_option maxHeartbeats 4000000 in
theorem b_primes_71 {G : zG} {E : rE} {S : rS} {N : Nat} {Q : Option Value → rS → Prop} {X : Nat × rS → Prop} (hG : zOK G) (hX0 : ∀ (S' : rS), X (0, S') → rX G E dX12_primes mX12_primes 92 [none, none, none, none, none] [] S' Q) {rec : Int32 → Int32 → rS → Nat × rS} {rok : Int32 → Int32 → rS → Prop} (hrec : ∀ (x1 : Int32) (x2 : Int32) (S : rS), rok x1 x2 S → X (rec x1 x2 S) → rX G E dX12_primes mX12_primes 4 [some (.ref E.1), some (.int x1), some (.int x2), none, none] [] S Q) {x1 : Int32} {x2 : Int32} (ok : O_primes_71 N rok x1 x2 S) (hx : X (F_primes_71 N rec x1 x2 S)) : rX G E dX12_primes mX12_primes 71 [some (.ref E.1), some (.int x1), some (.int x2), none, none] [] S Q := by
  unfold O_primes_71 at ok
  unfold F_primes_71 at hx
  refine r_aload_n dX12_primes_71 rfl rfl ?_
  refine r_getA 10 fX12_11 (by decide) (by decide) dX12_primes_72 ?_
  refine r_iload_n dX12_primes_75 rfl rfl ?_
  refine r_iload_n dX12_primes_76 rfl rfl ?_
  refine r_iconst (v := nI 3) dX12_primes_77 (by decide) ?_
  refine r_S2i (y' := mX12_root) dX12_primes_78 lX12_7 kX12_root ⟨by decide, by decide⟩ (Nat.le_of_ble_eq_true rfl) (rc_X12_root hG ok.1) (fun v_78 S_78 h_78 => ?_)
  obtain ⟨rfl, hS_78⟩ := h_78
  have hS_78 := hS_78.symm
  subst hS_78
  have ok := ok.2
  refine r_iast hG (by decide) (by decide) dX12_primes_81 ok.1 ?_
  have ok := ok.2
  refine r_iload_n dX12_primes_82 rfl rfl ?_
  refine r_iconst (v := nI 1) dX12_primes_83 (by decide) ?_
  refine r_iadd dX12_primes_84 ?_
  refine r_istore_1 dX12_primes_85 (by decide) rfl ?_
  exact rX.cutz (b_primes_86 hG hX0 hrec ok hx) ⟨rfl, rfl, rfl, trivial⟩
def F_primes_47 (N : Nat) (rec : Int32 → Int32 → rS → Nat × rS) (x1 : Int32) (x2 : Int32) (x3 : Int32) (S : rS) : Nat × rS := (if x3 = 0 then (F_primes_86 N rec x1 x2 S) else (if (nI 8) ≤ x1 then (F_primes_71 N rec x1 x2 S) else (F_primes_71 N rec x1 x2 (rsA S 11 x1.toNatClampNeg (f_root N S x2 (nI 2))))))
def O_primes_47 (N : Nat) (rok : Int32 → Int32 → rS → Prop) (x1 : Int32) (x2 : Int32) (x3 : Int32) (S : rS) : Prop := ((x3 = 0 → O_primes_86 N rok x1 x2 S) ∧ (¬ x3 = 0 → (((nI 8) ≤ x1 → O_primes_71 N rok x1 x2 S) ∧ (¬ (nI 8) ≤ x1 → (o_root N S x2 (nI 2)) ∧ (vp_in x1 8) ∧ O_primes_71 N rok x1 x2 (rsA S 11 x1.toNatClampNeg (f_root N S x2 (nI 2)))))))
set_option maxHeartbeats 4000000 in
theorem b_primes_47 {G : zG} {E : rE} {S : rS} {N : Nat} {Q : Option Value → rS → Prop} {X : Nat × rS → Prop} (hG : zOK G) (hX0 : ∀ (S' : rS), X (0, S') → rX G E dX12_primes mX12_primes 92 [none, none, none, none, none] [] S' Q) {rec : Int32 → Int32 → rS → Nat × rS} {rok : Int32 → Int32 → rS → Prop} (hrec : ∀ (x1 : Int32) (x2 : Int32) (S : rS), rok x1 x2 S → X (rec x1 x2 S) → rX G E dX12_primes mX12_primes 4 [some (.ref E.1), some (.int x1), some (.int x2), none, none] [] S Q) {x1 : Int32} {x2 : Int32} {x3 : Int32} (ok : O_primes_47 N rok x1 x2 x3 S) (hx : X (F_primes_47 N rec x1 x2 x3 S)) : rX G E dX12_primes mX12_primes 47 [some (.ref E.1), some (.int x1), some (.int x2), some (.int x3), none] [] S Q := by
  unfold O_primes_47 at ok
  unfold F_primes_47 at hx
  refine r_iload_n dX12_primes_47 rfl rfl ?_
  refine r_if_ne (tgt := 54) dX12_primes_48 (by decide) (fun c_48 => ?_) (fun c_48 => ?_)
  · have ok := ok.2 c_48
    have hx := xif_n c_48 hx
    refine r_iload_n dX12_primes_54 rfl rfl ?_
    refine r_bipush (v := nI 8) dX12_primes_55 (by decide) ?_
    refine r_icmp_ge (tgt := 71) dX12_primes_57 (by decide) (fun c_57 => ?_) (fun c_57 => ?_)
    · have ok := ok.1 c_57
      have hx := xif_p c_57 hx
      exact rX.cutz (b_primes_71 hG hX0 hrec ok hx) ⟨rfl, rfl, rfl, trivial⟩
    · have ok := ok.2 c_57
      have hx := xif_n c_57 hx
      refine r_aload_n dX12_primes_60 rfl rfl ?_
      refine r_getA 11 fX12_1 (by decide) (by decide) dX12_primes_61 ?_
      refine r_iload_n dX12_primes_64 rfl rfl ?_
      refine r_iload_n dX12_primes_65 rfl rfl ?_
      refine r_iconst (v := nI 2) dX12_primes_66 (by decide) ?_
      refine r_S2i (y' := mX12_root) dX12_primes_67 lX12_7 kX12_root ⟨by decide, by decide⟩ (Nat.le_of_ble_eq_true rfl) (rc_X12_root hG ok.1) (fun v_67 S_67 h_67 => ?_)
      obtain ⟨rfl, hS_67⟩ := h_67
      have hS_67 := hS_67.symm
      subst hS_67
      have ok := ok.2
      refine r_iast hG (by decide) (by decide) dX12_primes_70 ok.1 ?_
      have ok := ok.2
      exact rX.cutz (b_primes_71 hG hX0 hrec ok hx) ⟨rfl, rfl, rfl, trivial⟩
  · have ok := ok.1 c_48
    have hx := xif_p c_48 hx
    refine r_goto (tgt := 86) dX12_primes_51 (by decide) ?_
    exact rX.cutz (b_primes_86 hG hX0 hrec ok hx) ⟨rfl, rfl, rfl, trivial⟩
def F_primes_40 (N : Nat) (rec : Int32 → Int32 → Int32 → Int32 → rS → Nat × Int32 × Int32 × Int32 × rS) (x1 : Int32) (x2 : Int32) (x4 : Int32) (s0 : Int32) (S : rS) : Nat × Int32 × Int32 × Int32 × rS := (rec x1 x2 s0 (x4 + nI 1) S)
def O_primes_40 (N : Nat) (rok : Int32 → Int32 → Int32 → Int32 → rS → Prop) (x1 : Int32) (x2 : Int32) (x4 : Int32) (s0 : Int32) (S : rS) : Prop := rok x1 x2 s0 (x4 + nI 1) S
set_option maxHeartbeats 4000000 in
theorem b_primes_40 {G : zG} {E : rE} {S : rS} {N : Nat} {Q : Option Value → rS → Prop} {X : Nat × Int32 × Int32 × Int32 × rS → Prop} (hG : zOK G) (hX0 : ∀ (x1 : Int32) (x2 : Int32) (x3 : Int32) (S' : rS), X (0, x1, x2, x3, S') → rX G E dX12_primes mX12_primes 47 [some (.ref E.1), some (.int x1), some (.int x2), some (.int x3), none] [] S' Q) {rec : Int32 → Int32 → Int32 → Int32 → rS → Nat × Int32 × Int32 × Int32 × rS} {rok : Int32 → Int32 → Int32 → Int32 → rS → Prop} (hrec : ∀ (x1 : Int32) (x2 : Int32) (x3 : Int32) (x4 : Int32) (S : rS), rok x1 x2 x3 x4 S → X (rec x1 x2 x3 x4 S) → rX G E dX12_primes mX12_primes 15 [some (.ref E.1), some (.int x1), some (.int x2), some (.int x3), some (.int x4)] [] S Q) {x1 : Int32} {x2 : Int32} {x4 : Int32} {s0 : Int32} (ok : O_primes_40 N rok x1 x2 x4 s0 S) (hx : X (F_primes_40 N rec x1 x2 x4 s0 S)) : rX G E dX12_primes mX12_primes 40 [some (.ref E.1), some (.int x1), some (.int x2), none, some (.int x4)] [.int s0] S Q := by
  unfold O_primes_40 at ok
  unfold F_primes_40 at hx
  refine r_istore_3 dX12_primes_40 (by decide) rfl ?_
  refine r_iinc_4 (v := (x4 + nI 1)) dX12_primes_41 rfl (by first | rfl | (congr 1)) (by decide) rfl ?_
  refine r_goto (tgt := 15) dX12_primes_44 (by decide) ?_
  exact rX.cutz (hrec _ _ _ _ S ok hx) ⟨rfl, rfl, rfl, rfl, rfl, trivial⟩
def F_primes_39 (N : Nat) (rec : Int32 → Int32 → Int32 → Int32 → rS → Nat × Int32 × Int32 × Int32 × rS) (x1 : Int32) (x2 : Int32) (x4 : Int32) (S : rS) : Nat × Int32 × Int32 × Int32 × rS := (F_primes_40 N rec x1 x2 x4 (nI 0) S)
def O_primes_39 (N : Nat) (rok : Int32 → Int32 → Int32 → Int32 → rS → Prop) (x1 : Int32) (x2 : Int32) (x4 : Int32) (S : rS) : Prop := O_primes_40 N rok x1 x2 x4 (nI 0) S
set_option maxHeartbeats 4000000 in
theorem b_primes_39 {G : zG} {E : rE} {S : rS} {N : Nat} {Q : Option Value → rS → Prop} {X : Nat × Int32 × Int32 × Int32 × rS → Prop} (hG : zOK G) (hX0 : ∀ (x1 : Int32) (x2 : Int32) (x3 : Int32) (S' : rS), X (0, x1, x2, x3, S') → rX G E dX12_primes mX12_primes 47 [some (.ref E.1), some (.int x1), some (.int x2), some (.int x3), none] [] S' Q) {rec : Int32 → Int32 → Int32 → Int32 → rS → Nat × Int32 × Int32 × Int32 × rS} {rok : Int32 → Int32 → Int32 → Int32 → rS → Prop} (hrec : ∀ (x1 : Int32) (x2 : Int32) (x3 : Int32) (x4 : Int32) (S : rS), rok x1 x2 x3 x4 S → X (rec x1 x2 x3 x4 S) → rX G E dX12_primes mX12_primes 15 [some (.ref E.1), some (.int x1), some (.int x2), some (.int x3), some (.int x4)] [] S Q) {x1 : Int32} {x2 : Int32} {x4 : Int32} (ok : O_primes_39 N rok x1 x2 x4 S) (hx : X (F_primes_39 N rec x1 x2 x4 S)) : rX G E dX12_primes mX12_primes 39 [some (.ref E.1), some (.int x1), some (.int x2), none, some (.int x4)] [] S Q := by
  unfold O_primes_39 at ok
  unfold F_primes_39 at hx
  refine r_iconst (v := nI 0) dX12_primes_39 (by decide) ?_
  exact rX.cutz (b_primes_40 hG hX0 hrec ok hx) ⟨rfl, rfl, rfl, rfl, trivial⟩
def B_primes_15 (N : Nat) (rec : Int32 → Int32 → Int32 → Int32 → rS → Nat × Int32 × Int32 × Int32 × rS) (x1 : Int32) (x2 : Int32) (x3 : Int32) (x4 : Int32) (S : rS) : Nat × Int32 × Int32 × Int32 × rS := (if x2 < (x4 * x4) then (0, x1, x2, x3, S) else (if x3 = 0 then (F_primes_39 N rec x1 x2 x4 S) else (if (x2 - x2 / x4 * x4) = 0 then (F_primes_39 N rec x1 x2 x4 S) else (F_primes_40 N rec x1 x2 x4 (nI 1) S))))
def OB_primes_15 (N : Nat) (rok : Int32 → Int32 → Int32 → Int32 → rS → Prop) (x1 : Int32) (x2 : Int32) (x3 : Int32) (x4 : Int32) (S : rS) : Prop := ((x2 < (x4 * x4) → True) ∧ (¬ x2 < (x4 * x4) → ((x3 = 0 → O_primes_39 N rok x1 x2 x4 S) ∧ (¬ x3 = 0 → (¬ x4 = 0) ∧ (((x2 - x2 / x4 * x4) = 0 → O_primes_39 N rok x1 x2 x4 S) ∧ (¬ (x2 - x2 / x4 * x4) = 0 → O_primes_40 N rok x1 x2 x4 (nI 1) S))))))
set_option maxHeartbeats 4000000 in
theorem bb_primes_15 {G : zG} {E : rE} {S : rS} {N : Nat} {Q : Option Value → rS → Prop} {X : Nat × Int32 × Int32 × Int32 × rS → Prop} (hG : zOK G) (hX0 : ∀ (x1 : Int32) (x2 : Int32) (x3 : Int32) (S' : rS), X (0, x1, x2, x3, S') → rX G E dX12_primes mX12_primes 47 [some (.ref E.1), some (.int x1), some (.int x2), some (.int x3), none] [] S' Q) {rec : Int32 → Int32 → Int32 → Int32 → rS → Nat × Int32 × Int32 × Int32 × rS} {rok : Int32 → Int32 → Int32 → Int32 → rS → Prop} (hrec : ∀ (x1 : Int32) (x2 : Int32) (x3 : Int32) (x4 : Int32) (S : rS), rok x1 x2 x3 x4 S → X (rec x1 x2 x3 x4 S) → rX G E dX12_primes mX12_primes 15 [some (.ref E.1), some (.int x1), some (.int x2), some (.int x3), some (.int x4)] [] S Q) {x1 : Int32} {x2 : Int32} {x3 : Int32} {x4 : Int32} (ok : OB_primes_15 N rok x1 x2 x3 x4 S) (hx : X (B_primes_15 N rec x1 x2 x3 x4 S)) : rX G E dX12_primes mX12_primes 15 [some (.ref E.1), some (.int x1), some (.int x2), some (.int x3), some (.int x4)] [] S Q := by
  unfold OB_primes_15 at ok
  unfold B_primes_15 at hx
  refine r_iload dX12_primes_15 rfl ?_
  refine r_iload dX12_primes_17 rfl ?_
  refine r_imul dX12_primes_19 ?_
  refine r_iload_n dX12_primes_20 rfl rfl ?_
  refine r_icmp_gt (tgt := 47) dX12_primes_21 (by decide) (fun c_21 => ?_) (fun c_21 => ?_)
  · have ok := ok.1 c_21
    have hx := xif_p c_21 hx
    exact rX.cutz (hX0 _ _ _ S hx) ⟨rfl, rfl, rfl, rfl, trivial⟩
  · have ok := ok.2 c_21
    have hx := xif_n c_21 hx
    refine r_iload_n dX12_primes_24 rfl rfl ?_
    refine r_if_eq (tgt := 39) dX12_primes_25 (by decide) (fun c_25 => ?_) (fun c_25 => ?_)
    · have ok := ok.1 c_25
      have hx := xif_p c_25 hx
      exact rX.cutz (b_primes_39 hG hX0 hrec ok hx) ⟨rfl, rfl, rfl, rfl, trivial⟩
    · have ok := ok.2 c_25
      have hx := xif_n c_25 hx
      refine r_iload_n dX12_primes_28 rfl rfl ?_
      refine r_iload dX12_primes_29 rfl ?_
      refine r_irem dX12_primes_31 ok.1 ?_
      have ok := ok.2
      refine r_if_eq (tgt := 39) dX12_primes_32 (by decide) (fun c_32 => ?_) (fun c_32 => ?_)
      · have ok := ok.1 c_32
        have hx := xif_p c_32 hx
        exact rX.cutz (b_primes_39 hG hX0 hrec ok hx) ⟨rfl, rfl, rfl, rfl, trivial⟩
      · have ok := ok.2 c_32
        have hx := xif_n c_32 hx
        refine r_iconst (v := nI 1) dX12_primes_35 (by decide) ?_
        refine r_goto (tgt := 40) dX12_primes_36 (by decide) ?_
        exact rX.cutz (b_primes_40 hG hX0 hrec ok hx) ⟨rfl, rfl, rfl, rfl, trivial⟩
def L_primes_15 (N : Nat) : Nat → Int32 → Int32 → Int32 → Int32 → rS → Nat × Int32 × Int32 × Int32 × rS
  | 0, x1, x2, x3, x4, S => (0, 0, 0, 0, S)
  | n + 1, x1, x2, x3, x4, S => B_primes_15 N (L_primes_15 N n) x1 x2 x3 x4 S
def OL_primes_15 (N : Nat) : Nat → Int32 → Int32 → Int32 → Int32 → rS → Prop
  | 0, _, _, _, _, _ => False
  | n + 1, x1, x2, x3, x4, S => OB_primes_15 N (OL_primes_15 N n) x1 x2 x3 x4 S
set_option maxHeartbeats 4000000 in
theorem l_primes_15 {G : zG} {E : rE} {N : Nat} {Q : Option Value → rS → Prop} {X : Nat × Int32 × Int32 × Int32 × rS → Prop} (hG : zOK G) (hX0 : ∀ (x1 : Int32) (x2 : Int32) (x3 : Int32) (S' : rS), X (0, x1, x2, x3, S') → rX G E dX12_primes mX12_primes 47 [some (.ref E.1), some (.int x1), some (.int x2), some (.int x3), none] [] S' Q) : ∀ (n : Nat) (x1 : Int32) (x2 : Int32) (x3 : Int32) (x4 : Int32) (S : rS), OL_primes_15 N n x1 x2 x3 x4 S → X (L_primes_15 N n x1 x2 x3 x4 S) → rX G E dX12_primes mX12_primes 15 [some (.ref E.1), some (.int x1), some (.int x2), some (.int x3), some (.int x4)] [] S Q := by
  intro n
  induction n with
  | zero => intro x1 x2 x3 x4 S ok; exact absurd ok id
  | succ n ih =>
    intro x1 x2 x3 x4 S ok hx
    exact bb_primes_15 hG hX0 (rec := L_primes_15 N n) (rok := OL_primes_15 N n) (fun x1 x2 x3 x4 S ok hx => ih x1 x2 x3 x4 S ok hx) ok hx
def A_primes_15 (N : Nat) (rec : Int32 → Int32 → rS → Nat × rS) (x1 : Int32) (x2 : Int32) (x3 : Int32) (x4 : Int32) (S : rS) (z : Nat × Int32 × Int32 × Int32 × rS) : Nat × rS := (F_primes_47 N rec (z.2.1) (z.2.2.1) (z.2.2.2.1) z.2.2.2.2)
def OA_primes_15 (N : Nat) (rok : Int32 → Int32 → rS → Prop) (x1 : Int32) (x2 : Int32) (x3 : Int32) (x4 : Int32) (S : rS) (z : Nat × Int32 × Int32 × Int32 × rS) : Prop := O_primes_47 N rok (z.2.1) (z.2.2.1) (z.2.2.2.1) z.2.2.2.2
set_option maxHeartbeats 4000000 in
theorem c_primes_15 {G : zG} {E : rE} {S : rS} {N : Nat} {Q : Option Value → rS → Prop} {X : Nat × rS → Prop} (hG : zOK G) (hX0 : ∀ (S' : rS), X (0, S') → rX G E dX12_primes mX12_primes 92 [none, none, none, none, none] [] S' Q) {rec : Int32 → Int32 → rS → Nat × rS} {rok : Int32 → Int32 → rS → Prop} (hrec : ∀ (x1 : Int32) (x2 : Int32) (S : rS), rok x1 x2 S → X (rec x1 x2 S) → rX G E dX12_primes mX12_primes 4 [some (.ref E.1), some (.int x1), some (.int x2), none, none] [] S Q) {x1 : Int32} {x2 : Int32} {x3 : Int32} {x4 : Int32} (ok : OL_primes_15 N N x1 x2 x3 x4 S ∧ OA_primes_15 N rok x1 x2 x3 x4 S (L_primes_15 N N x1 x2 x3 x4 S)) (hx : X (A_primes_15 N rec x1 x2 x3 x4 S (L_primes_15 N N x1 x2 x3 x4 S))) : rX G E dX12_primes mX12_primes 15 [some (.ref E.1), some (.int x1), some (.int x2), some (.int x3), some (.int x4)] [] S Q := by
  refine l_primes_15 hG ?_ N x1 x2 x3 x4 S ok.1 (X := fun z => OA_primes_15 N rok x1 x2 x3 x4 S z ∧ X (A_primes_15 N rec x1 x2 x3 x4 S z)) ⟨ok.2, hx⟩
  · intro x1' x2' x3' S' hz
    obtain ⟨ok, hx⟩ := hz
    unfold OA_primes_15 at ok
    unfold A_primes_15 at hx
    exact rX.cutz (b_primes_47 hG hX0 hrec ok hx) ⟨rfl, rfl, rfl, rfl, trivial⟩
def B_primes_4 (N : Nat) (rec : Int32 → Int32 → rS → Nat × rS) (x1 : Int32) (x2 : Int32) (S : rS) : Nat × rS := (if (nI 64) ≤ x1 then (0, S) else (A_primes_15 N rec x1 x2 (nI 1) (nI 2) S (L_primes_15 N N x1 x2 (nI 1) (nI 2) S)))
def OB_primes_4 (N : Nat) (rok : Int32 → Int32 → rS → Prop) (x1 : Int32) (x2 : Int32) (S : rS) : Prop := (((nI 64) ≤ x1 → True) ∧ (¬ (nI 64) ≤ x1 → (OL_primes_15 N N x1 x2 (nI 1) (nI 2) S ∧ OA_primes_15 N rok x1 x2 (nI 1) (nI 2) S (L_primes_15 N N x1 x2 (nI 1) (nI 2) S))))
set_option maxHeartbeats 4000000 in
theorem bb_primes_4 {G : zG} {E : rE} {S : rS} {N : Nat} {Q : Option Value → rS → Prop} {X : Nat × rS → Prop} (hG : zOK G) (hX0 : ∀ (S' : rS), X (0, S') → rX G E dX12_primes mX12_primes 92 [none, none, none, none, none] [] S' Q) {rec : Int32 → Int32 → rS → Nat × rS} {rok : Int32 → Int32 → rS → Prop} (hrec : ∀ (x1 : Int32) (x2 : Int32) (S : rS), rok x1 x2 S → X (rec x1 x2 S) → rX G E dX12_primes mX12_primes 4 [some (.ref E.1), some (.int x1), some (.int x2), none, none] [] S Q) {x1 : Int32} {x2 : Int32} (ok : OB_primes_4 N rok x1 x2 S) (hx : X (B_primes_4 N rec x1 x2 S)) : rX G E dX12_primes mX12_primes 4 [some (.ref E.1), some (.int x1), some (.int x2), none, none] [] S Q := by
  unfold OB_primes_4 at ok
  unfold B_primes_4 at hx
  refine r_iload_n dX12_primes_4 rfl rfl ?_
  refine r_bipush (v := nI 64) dX12_primes_5 (by decide) ?_
  refine r_icmp_ge (tgt := 92) dX12_primes_7 (by decide) (fun c_7 => ?_) (fun c_7 => ?_)
  · have ok := ok.1 c_7
    have hx := xif_p c_7 hx
    exact rX.cutz (hX0 S hx) trivial
  · have ok := ok.2 c_7
    have hx := xif_n c_7 hx
    refine r_iconst (v := nI 1) dX12_primes_10 (by decide) ?_
    refine r_istore_3 dX12_primes_11 (by decide) rfl ?_
    refine r_iconst (v := nI 2) dX12_primes_12 (by decide) ?_
    refine r_istore_4 dX12_primes_13 (by decide) rfl ?_
    exact rX.cutz (c_primes_15 hG hX0 hrec ok hx) ⟨rfl, rfl, rfl, rfl, rfl, trivial⟩
def L_primes_4 (N : Nat) : Nat → Int32 → Int32 → rS → Nat × rS
  | 0, x1, x2, S => (0, S)
  | n + 1, x1, x2, S => B_primes_4 N (L_primes_4 N n) x1 x2 S
def OL_primes_4 (N : Nat) : Nat → Int32 → Int32 → rS → Prop
  | 0, _, _, _ => False
  | n + 1, x1, x2, S => OB_primes_4 N (OL_primes_4 N n) x1 x2 S
set_option maxHeartbeats 4000000 in
theorem l_primes_4 {G : zG} {E : rE} {N : Nat} {Q : Option Value → rS → Prop} {X : Nat × rS → Prop} (hG : zOK G) (hX0 : ∀ (S' : rS), X (0, S') → rX G E dX12_primes mX12_primes 92 [none, none, none, none, none] [] S' Q) : ∀ (n : Nat) (x1 : Int32) (x2 : Int32) (S : rS), OL_primes_4 N n x1 x2 S → X (L_primes_4 N n x1 x2 S) → rX G E dX12_primes mX12_primes 4 [some (.ref E.1), some (.int x1), some (.int x2), none, none] [] S Q := by
  intro n
  induction n with
  | zero => intro x1 x2 S ok; exact absurd ok id
  | succ n ih =>
    intro x1 x2 S ok hx
    exact bb_primes_4 hG hX0 (rec := L_primes_4 N n) (rok := OL_primes_4 N n) (fun x1 x2 S ok hx => ih x1 x2 S ok hx) ok hx
def A_primes_4 (N : Nat) (x1 : Int32) (x2 : Int32) (S : rS) (z : Nat × rS) : rS := (F_primes_92 N z.2)
def OA_primes_4 (N : Nat) (x1 : Int32) (x2 : Int32) (S : rS) (z : Nat × rS) : Prop := O_primes_92 N z.2
set_option maxHeartbeats 4000000 in
theorem c_primes_4 {G : zG} {E : rE} {S : rS} {N : Nat} {Q : Option Value → rS → Prop} {X : rS → Prop} (hG : zOK G) (hR : ∀ S', X S' → Q none S') {x1 : Int32} {x2 : Int32} (ok : OL_primes_4 N N x1 x2 S ∧ OA_primes_4 N x1 x2 S (L_primes_4 N N x1 x2 S)) (hx : X (A_primes_4 N x1 x2 S (L_primes_4 N N x1 x2 S))) : rX G E dX12_primes mX12_primes 4 [some (.ref E.1), some (.int x1), some (.int x2), none, none] [] S Q := by
  refine l_primes_4 hG ?_ N x1 x2 S ok.1 (X := fun z => OA_primes_4 N x1 x2 S z ∧ X (A_primes_4 N x1 x2 S z)) ⟨ok.2, hx⟩
  · intro S' hz
    obtain ⟨ok, hx⟩ := hz
    unfold OA_primes_4 at ok
    unfold A_primes_4 at hx
    exact rX.cutz (b_primes_92 hG hR ok hx) trivial
def F_primes_0 (N : Nat)  (S : rS) : rS := (A_primes_4 N (nI 0) (nI 2) S (L_primes_4 N N (nI 0) (nI 2) S))
def O_primes_0 (N : Nat)  (S : rS) : Prop := (OL_primes_4 N N (nI 0) (nI 2) S ∧ OA_primes_4 N (nI 0) (nI 2) S (L_primes_4 N N (nI 0) (nI 2) S))
set_option maxHeartbeats 4000000 in
theorem b_primes_0 {G : zG} {E : rE} {S : rS} {N : Nat} {Q : Option Value → rS → Prop} {X : rS → Prop} (hG : zOK G) (hR : ∀ S', X S' → Q none S') (ok : O_primes_0 N S) (hx : X (F_primes_0 N S)) : rX G E dX12_primes mX12_primes 0 [some (.ref E.1), none, none, none, none] [] S Q := by
  unfold O_primes_0 at ok
  unfold F_primes_0 at hx
  refine r_iconst (v := nI 0) dX12_primes_0 (by decide) ?_
  refine r_istore_1 dX12_primes_1 (by decide) rfl ?_
  refine r_iconst (v := nI 2) dX12_primes_2 (by decide) ?_
  refine r_istore_2 dX12_primes_3 (by decide) rfl ?_
  exact rX.cutz (c_primes_4 hG hR ok hx) ⟨rfl, rfl, rfl, trivial⟩
def f_primes (N : Nat) (S : rS) : rS := F_primes_0 N S
def o_primes (N : Nat) (S : rS) : Prop := O_primes_0 N S
set_option maxHeartbeats 4000000 in
theorem rc_X12_primes {G : zG} {E : rE} {S : rS} {N : Nat} (hG : zOK G) (ok : o_primes N S ) : rCv G E dX12_primes mX12_primes [.ref E.1] S (fun S' => S' = f_primes N S) := by
  refine rC.ofX rfl (Nat.le_of_ble_eq_true rfl) ?_
  show rX G E dX12_primes mX12_primes 0 [some (.ref E.1), none, none, none, none] [] S _
  exact rX.cutz (b_primes_0 (X := fun F => F = f_primes N S) hG (fun S' h => ⟨rfl, h⟩) ok rfl) ⟨rfl, trivial⟩
/-! turn -/
def F_turn_0 (N : Nat) (x0 : Int32) (x1 : Int32) (S : rS) : Int32 := (((Int32.toUInt32 x0 >>> (Int32.toUInt32 (x1) &&& Int32.toUInt32 31)).toInt32) ||| (x0 <<< (((nI 32) - x1) &&& 31)))
def O_turn_0 (N : Nat) (x0 : Int32) (x1 : Int32) (S : rS) : Prop := True
set_option maxHeartbeats 4000000 in
theorem b_turn_0 {G : zG} {E : rE} {S : rS} {N : Nat} {Q : Option Value → rS → Prop} {X : Int32 → Prop} (hG : zOK G) (hR : ∀ v, X v → Q (some (.int v)) S) {x0 : Int32} {x1 : Int32} (ok : O_turn_0 N x0 x1 S) (hx : X (F_turn_0 N x0 x1 S)) : rX G E dX12_turn mX12_turn 0 [some (.int x0), some (.int x1)] [] S Q := by
  unfold O_turn_0 at ok
  unfold F_turn_0 at hx
  refine r_iload_n dX12_turn_0 rfl rfl ?_
  refine r_iload_n dX12_turn_1 rfl rfl ?_
  refine r_iushr dX12_turn_2 ?_
  refine r_iload_n dX12_turn_3 rfl rfl ?_
  refine r_bipush (v := nI 32) dX12_turn_4 (by decide) ?_
  refine r_iload_n dX12_turn_6 rfl rfl ?_
  refine r_isub dX12_turn_7 ?_
  refine r_ishl dX12_turn_8 ?_
  refine r_ior dX12_turn_9 ?_
  exact r_ireturn rfl rfl dX12_turn_10 (hR _ hx)
def f_turn (N : Nat) (S : rS) (x0 : Int32) (x1 : Int32) : Int32 := F_turn_0 N x0 x1 S
def o_turn (N : Nat) (S : rS) (x0 : Int32) (x1 : Int32) : Prop := O_turn_0 N x0 x1 S
set_option maxHeartbeats 4000000 in
theorem rc_X12_turn {G : zG} {E : rE} {S : rS} {N : Nat} (hG : zOK G) {x0 : Int32} {x1 : Int32} (ok : o_turn N S x0 x1) : rCi G E dX12_turn mX12_turn [.int x0, .int x1] S (fun v S' => v = f_turn N S x0 x1 ∧ S' = S) := by
  refine rC.ofX rfl (Nat.le_of_ble_eq_true rfl) ?_
  show rX G E dX12_turn mX12_turn 0 [some (.int x0), some (.int x1)] [] S _
  exact rX.cutz (b_turn_0 (X := fun F => F = f_turn N S x0 x1) hG (fun v h => ⟨v, rfl, h, rfl⟩) ok rfl) ⟨rfl, rfl, trivial⟩
/-! hashByte -/
def F_hashByte_0 (N : Nat) (x1 : Int32) (S : rS) : rS := (rsI (rsA S 6 (S.1 7).toNatClampNeg (x1 &&& (nI 255))) 7 (((rsA S 6 (S.1 7).toNatClampNeg (x1 &&& (nI 255))).1 7) + (nI 1)))
def O_hashByte_0 (N : Nat) (x1 : Int32) (S : rS) : Prop := (vp_in (S.1 7) 1100) ∧ True
set_option maxHeartbeats 4000000 in
theorem b_hashByte_0 {G : zG} {E : rE} {S : rS} {N : Nat} {Q : Option Value → rS → Prop} {X : rS → Prop} (hG : zOK G) (hR : ∀ S', X S' → Q none S') {x1 : Int32} (ok : O_hashByte_0 N x1 S) (hx : X (F_hashByte_0 N x1 S)) : rX G E dX12_hashByte mX12_hashByte 0 [some (.ref E.1), some (.int x1)] [] S Q := by
  unfold O_hashByte_0 at ok
  unfold F_hashByte_0 at hx
  refine r_aload_n dX12_hashByte_0 rfl rfl ?_
  refine r_getA 6 fX12_22 (by decide) (by decide) dX12_hashByte_1 ?_
  refine r_aload_n dX12_hashByte_4 rfl rfl ?_
  refine r_getI 7 fX12_25 (by decide) (by decide) dX12_hashByte_5 ?_
  refine r_iload_n dX12_hashByte_8 rfl rfl ?_
  refine r_sipush (v := nI 255) dX12_hashByte_9 (by decide) ?_
  refine r_iand dX12_hashByte_12 ?_
  refine r_iast hG (by decide) (by decide) dX12_hashByte_13 ok.1 ?_
  have ok := ok.2
  refine r_aload_n dX12_hashByte_14 rfl rfl ?_
  refine r_aload_n dX12_hashByte_15 rfl rfl ?_
  refine r_getI 7 fX12_25 (by decide) (by decide) dX12_hashByte_16 ?_
  refine r_iconst (v := nI 1) dX12_hashByte_19 (by decide) ?_
  refine r_iadd dX12_hashByte_20 ?_
  refine r_putI 7 fX12_25 (by decide) (by decide) rfl rfl rfl dX12_hashByte_21 ?_
  exact r_return rfl dX12_hashByte_24 (hR _ hx)
def f_hashByte (N : Nat) (S : rS) (x1 : Int32) : rS := F_hashByte_0 N x1 S
def o_hashByte (N : Nat) (S : rS) (x1 : Int32) : Prop := O_hashByte_0 N x1 S
set_option maxHeartbeats 4000000 in
theorem rc_X12_hashByte {G : zG} {E : rE} {S : rS} {N : Nat} (hG : zOK G) {x1 : Int32} (ok : o_hashByte N S x1) : rCv G E dX12_hashByte mX12_hashByte [.ref E.1, .int x1] S (fun S' => S' = f_hashByte N S x1) := by
  refine rC.ofX rfl (Nat.le_of_ble_eq_true rfl) ?_
  show rX G E dX12_hashByte mX12_hashByte 0 [some (.ref E.1), some (.int x1)] [] S _
  exact rX.cutz (b_hashByte_0 (X := fun F => F = f_hashByte N S x1) hG (fun S' h => ⟨rfl, h⟩) ok rfl) ⟨rfl, rfl, trivial⟩

/-! state -/
def F_state_229 (N : Nat) (s0 : Int32) (s1 : Int32) (S : rS) : Int32 := (s0 + s1)
def O_state_229 (N : Nat) (s0 : Int32) (s1 : Int32) (S : rS) : Prop := True
set_option maxHeartbeats 4000000 in
theorem b_state_229 {G : zG} {E : rE} {S : rS} {N : Nat} {Q : Option Value → rS → Prop} {X : Int32 → Prop} (hG : zOK G) (hR : ∀ v, X v → Q (some (.int v)) S) {s0 : Int32} {s1 : Int32} (ok : O_state_229 N s0 s1 S) (hx : X (F_state_229 N s0 s1 S)) : rX G E dX12_state mX12_state 229 [none, none, none, none, none] [.int s1, .int s0] S Q := by
  unfold O_state_229 at ok
  unfold F_state_229 at hx
  refine r_iadd dX12_state_229 ?_
  exact r_ireturn rfl rfl dX12_state_230 (hR _ hx)
def F_state_209 (N : Nat) (x1 : Int32) (s0 : Int32) (s1 : Int32) (S : rS) : Int32 := (if (S.2.1 52 (((nI 3) * x1) + (nI 2)).toNatClampNeg) = (-1) then (F_state_229 N (s0 + s1) (nI 0) S) else (F_state_229 N (s0 + s1) (nI 4) S))
def O_state_209 (N : Nat) (x1 : Int32) (s0 : Int32) (s1 : Int32) (S : rS) : Prop := (vp_in (((nI 3) * x1) + (nI 2)) 39) ∧ (((S.2.1 52 (((nI 3) * x1) + (nI 2)).toNatClampNeg) = (-1) → O_state_229 N (s0 + s1) (nI 0) S) ∧ (¬ (S.2.1 52 (((nI 3) * x1) + (nI 2)).toNatClampNeg) = (-1) → O_state_229 N (s0 + s1) (nI 4) S))
set_option maxHeartbeats 4000000 in
theorem b_state_209 {G : zG} {E : rE} {S : rS} {N : Nat} {Q : Option Value → rS → Prop} {X : Int32 → Prop} (hG : zOK G) (hR : ∀ v, X v → Q (some (.int v)) S) {x1 : Int32} {s0 : Int32} {s1 : Int32} (ok : O_state_209 N x1 s0 s1 S) (hx : X (F_state_209 N x1 s0 s1 S)) : rX G E dX12_state mX12_state 209 [some (.ref E.1), some (.int x1), none, none, none] [.int s1, .int s0] S Q := by
  unfold O_state_209 at ok
  unfold F_state_209 at hx
  refine r_iadd dX12_state_209 ?_
  refine r_aload_n dX12_state_210 rfl rfl ?_
  refine r_getA 52 fX12_333 (by decide) (by decide) dX12_state_211 ?_
  refine r_iconst (v := nI 3) dX12_state_214 (by decide) ?_
  refine r_iload_n dX12_state_215 rfl rfl ?_
  refine r_imul dX12_state_216 ?_
  refine r_iconst (v := nI 2) dX12_state_217 (by decide) ?_
  refine r_iadd dX12_state_218 ?_
  refine r_iald (by decide) (by decide) dX12_state_219 ok.1 ?_
  have ok := ok.2
  refine r_iconst (v := -1) dX12_state_220 (by decide) ?_
  refine r_icmp_eq (tgt := 228) dX12_state_221 (by decide) (fun c_221 => ?_) (fun c_221 => ?_)
  · have ok := ok.1 c_221
    have hx := xif_p c_221 hx
    refine r_iconst (v := nI 0) dX12_state_228 (by decide) ?_
    exact rX.cutz (b_state_229 hG hR ok hx) trivial
  · have ok := ok.2 c_221
    have hx := xif_n c_221 hx
    refine r_iconst (v := nI 4) dX12_state_224 (by decide) ?_
    refine r_goto (tgt := 229) dX12_state_225 (by decide) ?_
    exact rX.cutz (b_state_229 hG hR ok hx) trivial
def F_state_190 (N : Nat) (x1 : Int32) (s0 : Int32) (S : rS) : Int32 := (if (S.2.1 52 (((nI 3) * x1) + (nI 1)).toNatClampNeg) = (-1) then (F_state_209 N x1 s0 (nI 0) S) else (F_state_209 N x1 s0 (nI 2) S))
def O_state_190 (N : Nat) (x1 : Int32) (s0 : Int32) (S : rS) : Prop := (vp_in (((nI 3) * x1) + (nI 1)) 39) ∧ (((S.2.1 52 (((nI 3) * x1) + (nI 1)).toNatClampNeg) = (-1) → O_state_209 N x1 s0 (nI 0) S) ∧ (¬ (S.2.1 52 (((nI 3) * x1) + (nI 1)).toNatClampNeg) = (-1) → O_state_209 N x1 s0 (nI 2) S))
set_option maxHeartbeats 4000000 in
theorem b_state_190 {G : zG} {E : rE} {S : rS} {N : Nat} {Q : Option Value → rS → Prop} {X : Int32 → Prop} (hG : zOK G) (hR : ∀ v, X v → Q (some (.int v)) S) {x1 : Int32} {s0 : Int32} (ok : O_state_190 N x1 s0 S) (hx : X (F_state_190 N x1 s0 S)) : rX G E dX12_state mX12_state 190 [some (.ref E.1), some (.int x1), none, none, none] [.int s0] S Q := by
  unfold O_state_190 at ok
  unfold F_state_190 at hx
  refine r_aload_n dX12_state_190 rfl rfl ?_
  refine r_getA 52 fX12_333 (by decide) (by decide) dX12_state_191 ?_
  refine r_iconst (v := nI 3) dX12_state_194 (by decide) ?_
  refine r_iload_n dX12_state_195 rfl rfl ?_
  refine r_imul dX12_state_196 ?_
  refine r_iconst (v := nI 1) dX12_state_197 (by decide) ?_
  refine r_iadd dX12_state_198 ?_
  refine r_iald (by decide) (by decide) dX12_state_199 ok.1 ?_
  have ok := ok.2
  refine r_iconst (v := -1) dX12_state_200 (by decide) ?_
  refine r_icmp_eq (tgt := 208) dX12_state_201 (by decide) (fun c_201 => ?_) (fun c_201 => ?_)
  · have ok := ok.1 c_201
    have hx := xif_p c_201 hx
    refine r_iconst (v := nI 0) dX12_state_208 (by decide) ?_
    exact rX.cutz (b_state_209 hG hR ok hx) ⟨rfl, rfl, trivial⟩
  · have ok := ok.2 c_201
    have hx := xif_n c_201 hx
    refine r_iconst (v := nI 2) dX12_state_204 (by decide) ?_
    refine r_goto (tgt := 209) dX12_state_205 (by decide) ?_
    exact rX.cutz (b_state_209 hG hR ok hx) ⟨rfl, rfl, trivial⟩
def F_state_165 (N : Nat) (s0 : Int32) (S : rS) : Int32 := s0
def O_state_165 (N : Nat) (s0 : Int32) (S : rS) : Prop := True
set_option maxHeartbeats 4000000 in
theorem b_state_165 {G : zG} {E : rE} {S : rS} {N : Nat} {Q : Option Value → rS → Prop} {X : Int32 → Prop} (hG : zOK G) (hR : ∀ v, X v → Q (some (.int v)) S) {s0 : Int32} (ok : O_state_165 N s0 S) (hx : X (F_state_165 N s0 S)) : rX G E dX12_state mX12_state 165 [none, none, none, none, none] [.int s0] S Q := by
  unfold O_state_165 at ok
  unfold F_state_165 at hx
  exact r_ireturn rfl rfl dX12_state_165 (hR _ hx)
def F_state_53 (N : Nat) (x1 : Int32) (x2 : Int32) (x3 : Int32) (S : rS) : Int32 := (if x2 = nI 0 then (S.2.1 44 x1.toNatClampNeg) else (if x2 = nI 1 then (S.2.1 45 x1.toNatClampNeg) else (if x2 = nI 2 then (S.2.1 46 x1.toNatClampNeg) else (if x2 = nI 3 then (S.2.1 47 x1.toNatClampNeg) else (if x2 = nI 4 then (S.2.1 48 x1.toNatClampNeg) else (if x2 = nI 5 then (if (S.2.1 43 x1.toNatClampNeg) = 0 then (F_state_165 N (nI 0) S) else (F_state_165 N (nI 1) S)) else (if x2 = nI 6 then (S.2.1 53 x1.toNatClampNeg) else (if x2 = nI 7 then (if (S.2.1 52 ((nI 3) * x1).toNatClampNeg) = (-1) then (F_state_190 N x1 (nI 0) S) else (F_state_190 N x1 (nI 1) S)) else (if x2 = nI 8 then (S.2.1 65 x1.toNatClampNeg) else (if x2 = nI 9 then (S.2.1 76 x1.toNatClampNeg) else (if x2 = nI 10 then (S.2.1 77 x1.toNatClampNeg) else (if x2 = nI 11 then x3 else (-1)))))))))))))
def O_state_53 (N : Nat) (x1 : Int32) (x2 : Int32) (x3 : Int32) (S : rS) : Prop := ((x2 = nI 0 → (vp_in x1 13) ∧ True) ∧ (¬ x2 = nI 0 → ((x2 = nI 1 → (vp_in x1 13) ∧ True) ∧ (¬ x2 = nI 1 → ((x2 = nI 2 → (vp_in x1 13) ∧ True) ∧ (¬ x2 = nI 2 → ((x2 = nI 3 → (vp_in x1 13) ∧ True) ∧ (¬ x2 = nI 3 → ((x2 = nI 4 → (vp_in x1 13) ∧ True) ∧ (¬ x2 = nI 4 → ((x2 = nI 5 → (vp_in x1 13) ∧ (((S.2.1 43 x1.toNatClampNeg) = 0 → O_state_165 N (nI 0) S) ∧ (¬ (S.2.1 43 x1.toNatClampNeg) = 0 → O_state_165 N (nI 1) S))) ∧ (¬ x2 = nI 5 → ((x2 = nI 6 → (vp_in x1 13) ∧ True) ∧ (¬ x2 = nI 6 → ((x2 = nI 7 → (vp_in ((nI 3) * x1) 39) ∧ (((S.2.1 52 ((nI 3) * x1).toNatClampNeg) = (-1) → O_state_190 N x1 (nI 0) S) ∧ (¬ (S.2.1 52 ((nI 3) * x1).toNatClampNeg) = (-1) → O_state_190 N x1 (nI 1) S))) ∧ (¬ x2 = nI 7 → ((x2 = nI 8 → (vp_in x1 13) ∧ True) ∧ (¬ x2 = nI 8 → ((x2 = nI 9 → (vp_in x1 13) ∧ True) ∧ (¬ x2 = nI 9 → ((x2 = nI 10 → (vp_in x1 13) ∧ True) ∧ (¬ x2 = nI 10 → ((x2 = nI 11 → True) ∧ (¬ x2 = nI 11 → True))))))))))))))))))))))))
set_option maxHeartbeats 4000000 in
theorem b_state_53 {G : zG} {E : rE} {S : rS} {N : Nat} {Q : Option Value → rS → Prop} {X : Int32 → Prop} (hG : zOK G) (hR : ∀ v, X v → Q (some (.int v)) S) {x1 : Int32} {x2 : Int32} {x3 : Int32} (ok : O_state_53 N x1 x2 x3 S) (hx : X (F_state_53 N x1 x2 x3 S)) : rX G E dX12_state mX12_state 53 [some (.ref E.1), some (.int x1), some (.int x2), some (.int x3), none] [] S Q := by
  unfold O_state_53 at ok
  unfold F_state_53 at hx
  refine r_iload_n dX12_state_53 rfl rfl ?_
  by_cases c_54_0 : x2 = nI 0
  · have ok := ok.1 c_54_0
    have hx := xif_p c_54_0 hx
    refine r_tableIn (off := 62) (tgt := 116) dX12_state_54 (by rw [c_54_0]; decide) (by rw [c_54_0]; decide) (by rw [c_54_0]; rfl) (by decide) ?_
    refine r_aload_n dX12_state_116 rfl rfl ?_
    refine r_getA 44 fX12_309 (by decide) (by decide) dX12_state_117 ?_
    refine r_iload_n dX12_state_120 rfl rfl ?_
    refine r_iald (by decide) (by decide) dX12_state_121 ok.1 ?_
    have ok := ok.2
    exact r_ireturn rfl rfl dX12_state_122 (hR _ hx)
  · have ok := ok.2 c_54_0
    have hx := xif_n c_54_0 hx
    by_cases c_54_1 : x2 = nI 1
    · have ok := ok.1 c_54_1
      have hx := xif_p c_54_1 hx
      refine r_tableIn (off := 69) (tgt := 123) dX12_state_54 (by rw [c_54_1]; decide) (by rw [c_54_1]; decide) (by rw [c_54_1]; rfl) (by decide) ?_
      refine r_aload_n dX12_state_123 rfl rfl ?_
      refine r_getA 45 fX12_312 (by decide) (by decide) dX12_state_124 ?_
      refine r_iload_n dX12_state_127 rfl rfl ?_
      refine r_iald (by decide) (by decide) dX12_state_128 ok.1 ?_
      have ok := ok.2
      exact r_ireturn rfl rfl dX12_state_129 (hR _ hx)
    · have ok := ok.2 c_54_1
      have hx := xif_n c_54_1 hx
      by_cases c_54_2 : x2 = nI 2
      · have ok := ok.1 c_54_2
        have hx := xif_p c_54_2 hx
        refine r_tableIn (off := 76) (tgt := 130) dX12_state_54 (by rw [c_54_2]; decide) (by rw [c_54_2]; decide) (by rw [c_54_2]; rfl) (by decide) ?_
        refine r_aload_n dX12_state_130 rfl rfl ?_
        refine r_getA 46 fX12_315 (by decide) (by decide) dX12_state_131 ?_
        refine r_iload_n dX12_state_134 rfl rfl ?_
        refine r_iald (by decide) (by decide) dX12_state_135 ok.1 ?_
        have ok := ok.2
        exact r_ireturn rfl rfl dX12_state_136 (hR _ hx)
      · have ok := ok.2 c_54_2
        have hx := xif_n c_54_2 hx
        by_cases c_54_3 : x2 = nI 3
        · have ok := ok.1 c_54_3
          have hx := xif_p c_54_3 hx
          refine r_tableIn (off := 83) (tgt := 137) dX12_state_54 (by rw [c_54_3]; decide) (by rw [c_54_3]; decide) (by rw [c_54_3]; rfl) (by decide) ?_
          refine r_aload_n dX12_state_137 rfl rfl ?_
          refine r_getA 47 fX12_318 (by decide) (by decide) dX12_state_138 ?_
          refine r_iload_n dX12_state_141 rfl rfl ?_
          refine r_iald (by decide) (by decide) dX12_state_142 ok.1 ?_
          have ok := ok.2
          exact r_ireturn rfl rfl dX12_state_143 (hR _ hx)
        · have ok := ok.2 c_54_3
          have hx := xif_n c_54_3 hx
          by_cases c_54_4 : x2 = nI 4
          · have ok := ok.1 c_54_4
            have hx := xif_p c_54_4 hx
            refine r_tableIn (off := 90) (tgt := 144) dX12_state_54 (by rw [c_54_4]; decide) (by rw [c_54_4]; decide) (by rw [c_54_4]; rfl) (by decide) ?_
            refine r_aload_n dX12_state_144 rfl rfl ?_
            refine r_getA 48 fX12_321 (by decide) (by decide) dX12_state_145 ?_
            refine r_iload_n dX12_state_148 rfl rfl ?_
            refine r_iald (by decide) (by decide) dX12_state_149 ok.1 ?_
            have ok := ok.2
            exact r_ireturn rfl rfl dX12_state_150 (hR _ hx)
          · have ok := ok.2 c_54_4
            have hx := xif_n c_54_4 hx
            by_cases c_54_5 : x2 = nI 5
            · have ok := ok.1 c_54_5
              have hx := xif_p c_54_5 hx
              refine r_tableIn (off := 97) (tgt := 151) dX12_state_54 (by rw [c_54_5]; decide) (by rw [c_54_5]; decide) (by rw [c_54_5]; rfl) (by decide) ?_
              refine r_aload_n dX12_state_151 rfl rfl ?_
              refine r_getA 43 fX12_305 (by decide) (by decide) dX12_state_152 ?_
              refine r_iload_n dX12_state_155 rfl rfl ?_
              refine r_zald (by decide) (by decide) dX12_state_156 ok.1 ?_
              have ok := ok.2
              refine r_if_eq (tgt := 164) dX12_state_157 (by decide) (fun c_157 => ?_) (fun c_157 => ?_)
              · have ok := ok.1 c_157
                have hx := xif_p c_157 hx
                refine r_iconst (v := nI 0) dX12_state_164 (by decide) ?_
                exact rX.cutz (b_state_165 hG hR ok hx) trivial
              · have ok := ok.2 c_157
                have hx := xif_n c_157 hx
                refine r_iconst (v := nI 1) dX12_state_160 (by decide) ?_
                refine r_goto (tgt := 165) dX12_state_161 (by decide) ?_
                exact rX.cutz (b_state_165 hG hR ok hx) trivial
            · have ok := ok.2 c_54_5
              have hx := xif_n c_54_5 hx
              by_cases c_54_6 : x2 = nI 6
              · have ok := ok.1 c_54_6
                have hx := xif_p c_54_6 hx
                refine r_tableIn (off := 112) (tgt := 166) dX12_state_54 (by rw [c_54_6]; decide) (by rw [c_54_6]; decide) (by rw [c_54_6]; rfl) (by decide) ?_
                refine r_aload_n dX12_state_166 rfl rfl ?_
                refine r_getA 53 fX12_336 (by decide) (by decide) dX12_state_167 ?_
                refine r_iload_n dX12_state_170 rfl rfl ?_
                refine r_iald (by decide) (by decide) dX12_state_171 ok.1 ?_
                have ok := ok.2
                exact r_ireturn rfl rfl dX12_state_172 (hR _ hx)
              · have ok := ok.2 c_54_6
                have hx := xif_n c_54_6 hx
                by_cases c_54_7 : x2 = nI 7
                · have ok := ok.1 c_54_7
                  have hx := xif_p c_54_7 hx
                  refine r_tableIn (off := 119) (tgt := 173) dX12_state_54 (by rw [c_54_7]; decide) (by rw [c_54_7]; decide) (by rw [c_54_7]; rfl) (by decide) ?_
                  refine r_aload_n dX12_state_173 rfl rfl ?_
                  refine r_getA 52 fX12_333 (by decide) (by decide) dX12_state_174 ?_
                  refine r_iconst (v := nI 3) dX12_state_177 (by decide) ?_
                  refine r_iload_n dX12_state_178 rfl rfl ?_
                  refine r_imul dX12_state_179 ?_
                  refine r_iald (by decide) (by decide) dX12_state_180 ok.1 ?_
                  have ok := ok.2
                  refine r_iconst (v := -1) dX12_state_181 (by decide) ?_
                  refine r_icmp_eq (tgt := 189) dX12_state_182 (by decide) (fun c_182 => ?_) (fun c_182 => ?_)
                  · have ok := ok.1 c_182
                    have hx := xif_p c_182 hx
                    refine r_iconst (v := nI 0) dX12_state_189 (by decide) ?_
                    exact rX.cutz (b_state_190 hG hR ok hx) ⟨rfl, rfl, trivial⟩
                  · have ok := ok.2 c_182
                    have hx := xif_n c_182 hx
                    refine r_iconst (v := nI 1) dX12_state_185 (by decide) ?_
                    refine r_goto (tgt := 190) dX12_state_186 (by decide) ?_
                    exact rX.cutz (b_state_190 hG hR ok hx) ⟨rfl, rfl, trivial⟩
                · have ok := ok.2 c_54_7
                  have hx := xif_n c_54_7 hx
                  by_cases c_54_8 : x2 = nI 8
                  · have ok := ok.1 c_54_8
                    have hx := xif_p c_54_8 hx
                    refine r_tableIn (off := 177) (tgt := 231) dX12_state_54 (by rw [c_54_8]; decide) (by rw [c_54_8]; decide) (by rw [c_54_8]; rfl) (by decide) ?_
                    refine r_aload_n dX12_state_231 rfl rfl ?_
                    refine r_getA 65 fX12_372 (by decide) (by decide) dX12_state_232 ?_
                    refine r_iload_n dX12_state_235 rfl rfl ?_
                    refine r_iald (by decide) (by decide) dX12_state_236 ok.1 ?_
                    have ok := ok.2
                    exact r_ireturn rfl rfl dX12_state_237 (hR _ hx)
                  · have ok := ok.2 c_54_8
                    have hx := xif_n c_54_8 hx
                    by_cases c_54_9 : x2 = nI 9
                    · have ok := ok.1 c_54_9
                      have hx := xif_p c_54_9 hx
                      refine r_tableIn (off := 184) (tgt := 238) dX12_state_54 (by rw [c_54_9]; decide) (by rw [c_54_9]; decide) (by rw [c_54_9]; rfl) (by decide) ?_
                      refine r_aload_n dX12_state_238 rfl rfl ?_
                      refine r_getA 76 fX12_403 (by decide) (by decide) dX12_state_239 ?_
                      refine r_iload_n dX12_state_242 rfl rfl ?_
                      refine r_iald (by decide) (by decide) dX12_state_243 ok.1 ?_
                      have ok := ok.2
                      exact r_ireturn rfl rfl dX12_state_244 (hR _ hx)
                    · have ok := ok.2 c_54_9
                      have hx := xif_n c_54_9 hx
                      by_cases c_54_10 : x2 = nI 10
                      · have ok := ok.1 c_54_10
                        have hx := xif_p c_54_10 hx
                        refine r_tableIn (off := 191) (tgt := 245) dX12_state_54 (by rw [c_54_10]; decide) (by rw [c_54_10]; decide) (by rw [c_54_10]; rfl) (by decide) ?_
                        refine r_aload_n dX12_state_245 rfl rfl ?_
                        refine r_getA 77 fX12_406 (by decide) (by decide) dX12_state_246 ?_
                        refine r_iload_n dX12_state_249 rfl rfl ?_
                        refine r_iald (by decide) (by decide) dX12_state_250 ok.1 ?_
                        have ok := ok.2
                        exact r_ireturn rfl rfl dX12_state_251 (hR _ hx)
                      · have ok := ok.2 c_54_10
                        have hx := xif_n c_54_10 hx
                        by_cases c_54_11 : x2 = nI 11
                        · have ok := ok.1 c_54_11
                          have hx := xif_p c_54_11 hx
                          refine r_tableIn (off := 198) (tgt := 252) dX12_state_54 (by rw [c_54_11]; decide) (by rw [c_54_11]; decide) (by rw [c_54_11]; rfl) (by decide) ?_
                          refine r_iload_n dX12_state_252 rfl rfl ?_
                          exact r_ireturn rfl rfl dX12_state_253 (hR _ hx)
                        · have ok := ok.2 c_54_11
                          have hx := xif_n c_54_11 hx
                          refine r_tableOut (tgt := 254) dX12_state_54 (zsw 12 (by intro k hk; rcases (show k = 0 ∨ k = 1 ∨ k = 2 ∨ k = 3 ∨ k = 4 ∨ k = 5 ∨ k = 6 ∨ k = 7 ∨ k = 8 ∨ k = 9 ∨ k = 10 ∨ k = 11 by omega) with rfl | rfl | rfl | rfl | rfl | rfl | rfl | rfl | rfl | rfl | rfl | rfl <;> assumption) (by decide) (by decide)) (by decide) ?_
                          refine r_iconst (v := -1) dX12_state_254 (by decide) ?_
                          exact r_ireturn rfl rfl dX12_state_255 (hR _ hx)
def F_state_46 (N : Nat) (rec : Int32 → Int32 → Int32 → Int32 → Nat × Int32 × Int32 × Int32 × Unit) (x1 : Int32) (x2 : Int32) (x4 : Int32) (s0 : Int32) (S : rS) : Nat × Int32 × Int32 × Int32 × Unit := (rec x1 x2 s0 (x4 + nI 1))
def O_state_46 (N : Nat) (rok : Int32 → Int32 → Int32 → Int32 → Prop) (x1 : Int32) (x2 : Int32) (x4 : Int32) (s0 : Int32) (S : rS) : Prop := rok x1 x2 s0 (x4 + nI 1)
set_option maxHeartbeats 4000000 in
theorem b_state_46 {G : zG} {E : rE} {S : rS} {N : Nat} {Q : Option Value → rS → Prop} {X : Nat × Int32 × Int32 × Int32 × Unit → Prop} (hG : zOK G) (hX0 : ∀ (x1 : Int32) (x2 : Int32) (x3 : Int32) , X (0, x1, x2, x3, ()) → rX G E dX12_state mX12_state 53 [some (.ref E.1), some (.int x1), some (.int x2), some (.int x3), none] [] S Q) {rec : Int32 → Int32 → Int32 → Int32 → Nat × Int32 × Int32 × Int32 × Unit} {rok : Int32 → Int32 → Int32 → Int32 → Prop} (hrec : ∀ (x1 : Int32) (x2 : Int32) (x3 : Int32) (x4 : Int32), rok x1 x2 x3 x4 → X (rec x1 x2 x3 x4) → rX G E dX12_state mX12_state 15 [some (.ref E.1), some (.int x1), some (.int x2), some (.int x3), some (.int x4)] [] S Q) {x1 : Int32} {x2 : Int32} {x4 : Int32} {s0 : Int32} (ok : O_state_46 N rok x1 x2 x4 s0 S) (hx : X (F_state_46 N rec x1 x2 x4 s0 S)) : rX G E dX12_state mX12_state 46 [some (.ref E.1), some (.int x1), some (.int x2), none, some (.int x4)] [.int s0] S Q := by
  unfold O_state_46 at ok
  unfold F_state_46 at hx
  refine r_istore_3 dX12_state_46 (by decide) rfl ?_
  refine r_iinc_4 (v := (x4 + nI 1)) dX12_state_47 rfl (by first | rfl | (congr 1)) (by decide) rfl ?_
  refine r_goto (tgt := 15) dX12_state_50 (by decide) ?_
  exact rX.cutz (hrec _ _ _ _ ok hx) ⟨rfl, rfl, rfl, rfl, rfl, trivial⟩
def B_state_15 (N : Nat) (rec : Int32 → Int32 → Int32 → Int32 → Nat × Int32 × Int32 × Int32 × Unit) (x1 : Int32) (x2 : Int32) (x3 : Int32) (x4 : Int32) (S : rS) : Nat × Int32 × Int32 × Int32 × Unit := (if (S.1 0) ≤ x4 then (0, x1, x2, x3, ()) else (if (S.2.1 55 (((nI 13) * x1) + x4).toNatClampNeg) ≤ 0 then (F_state_46 N rec x1 x2 x4 x3 S) else (F_state_46 N rec x1 x2 x4 (x3 + (nI 1)) S)))
def OB_state_15 (N : Nat) (rok : Int32 → Int32 → Int32 → Int32 → Prop) (x1 : Int32) (x2 : Int32) (x3 : Int32) (x4 : Int32) (S : rS) : Prop := (((S.1 0) ≤ x4 → True) ∧ (¬ (S.1 0) ≤ x4 → (vp_in (((nI 13) * x1) + x4) 169) ∧ (((S.2.1 55 (((nI 13) * x1) + x4).toNatClampNeg) ≤ 0 → O_state_46 N rok x1 x2 x4 x3 S) ∧ (¬ (S.2.1 55 (((nI 13) * x1) + x4).toNatClampNeg) ≤ 0 → O_state_46 N rok x1 x2 x4 (x3 + (nI 1)) S))))
set_option maxHeartbeats 4000000 in
theorem bb_state_15 {G : zG} {E : rE} {S : rS} {N : Nat} {Q : Option Value → rS → Prop} {X : Nat × Int32 × Int32 × Int32 × Unit → Prop} (hG : zOK G) (hX0 : ∀ (x1 : Int32) (x2 : Int32) (x3 : Int32) , X (0, x1, x2, x3, ()) → rX G E dX12_state mX12_state 53 [some (.ref E.1), some (.int x1), some (.int x2), some (.int x3), none] [] S Q) {rec : Int32 → Int32 → Int32 → Int32 → Nat × Int32 × Int32 × Int32 × Unit} {rok : Int32 → Int32 → Int32 → Int32 → Prop} (hrec : ∀ (x1 : Int32) (x2 : Int32) (x3 : Int32) (x4 : Int32), rok x1 x2 x3 x4 → X (rec x1 x2 x3 x4) → rX G E dX12_state mX12_state 15 [some (.ref E.1), some (.int x1), some (.int x2), some (.int x3), some (.int x4)] [] S Q) {x1 : Int32} {x2 : Int32} {x3 : Int32} {x4 : Int32} (ok : OB_state_15 N rok x1 x2 x3 x4 S) (hx : X (B_state_15 N rec x1 x2 x3 x4 S)) : rX G E dX12_state mX12_state 15 [some (.ref E.1), some (.int x1), some (.int x2), some (.int x3), some (.int x4)] [] S Q := by
  unfold OB_state_15 at ok
  unfold B_state_15 at hx
  refine r_iload dX12_state_15 rfl ?_
  refine r_aload_n dX12_state_17 rfl rfl ?_
  refine r_getI 0 fX12_219 (by decide) (by decide) dX12_state_18 ?_
  refine r_icmp_ge (tgt := 53) dX12_state_21 (by decide) (fun c_21 => ?_) (fun c_21 => ?_)
  · have ok := ok.1 c_21
    have hx := xif_p c_21 hx
    exact rX.cutz (hX0 _ _ _  hx) ⟨rfl, rfl, rfl, rfl, trivial⟩
  · have ok := ok.2 c_21
    have hx := xif_n c_21 hx
    refine r_aload_n dX12_state_24 rfl rfl ?_
    refine r_getA 55 fX12_342 (by decide) (by decide) dX12_state_25 ?_
    refine r_bipush (v := nI 13) dX12_state_28 (by decide) ?_
    refine r_iload_n dX12_state_30 rfl rfl ?_
    refine r_imul dX12_state_31 ?_
    refine r_iload dX12_state_32 rfl ?_
    refine r_iadd dX12_state_34 ?_
    refine r_iald (by decide) (by decide) dX12_state_35 ok.1 ?_
    have ok := ok.2
    refine r_if_le (tgt := 45) dX12_state_36 (by decide) (fun c_36 => ?_) (fun c_36 => ?_)
    · have ok := ok.1 c_36
      have hx := xif_p c_36 hx
      refine r_iload_n dX12_state_45 rfl rfl ?_
      exact rX.cutz (b_state_46 hG hX0 hrec ok hx) ⟨rfl, rfl, rfl, rfl, trivial⟩
    · have ok := ok.2 c_36
      have hx := xif_n c_36 hx
      refine r_iload_n dX12_state_39 rfl rfl ?_
      refine r_iconst (v := nI 1) dX12_state_40 (by decide) ?_
      refine r_iadd dX12_state_41 ?_
      refine r_goto (tgt := 46) dX12_state_42 (by decide) ?_
      exact rX.cutz (b_state_46 hG hX0 hrec ok hx) ⟨rfl, rfl, rfl, rfl, trivial⟩
def L_state_15 (N : Nat) : Nat → Int32 → Int32 → Int32 → Int32 → rS → Nat × Int32 × Int32 × Int32 × Unit
  | 0, x1, x2, x3, x4, S => (0, 0, 0, 0, ())
  | n + 1, x1, x2, x3, x4, S => B_state_15 N (fun x1 x2 x3 x4 => L_state_15 N n x1 x2 x3 x4 S) x1 x2 x3 x4 S
def OL_state_15 (N : Nat) : Nat → Int32 → Int32 → Int32 → Int32 → rS → Prop
  | 0, _, _, _, _, _ => False
  | n + 1, x1, x2, x3, x4, S => OB_state_15 N (fun x1 x2 x3 x4 => OL_state_15 N n x1 x2 x3 x4 S) x1 x2 x3 x4 S
set_option maxHeartbeats 4000000 in
theorem l_state_15 {G : zG} {E : rE} {S : rS} {N : Nat} {Q : Option Value → rS → Prop} {X : Nat × Int32 × Int32 × Int32 × Unit → Prop} (hG : zOK G) (hX0 : ∀ (x1 : Int32) (x2 : Int32) (x3 : Int32) , X (0, x1, x2, x3, ()) → rX G E dX12_state mX12_state 53 [some (.ref E.1), some (.int x1), some (.int x2), some (.int x3), none] [] S Q) : ∀ (n : Nat) (x1 : Int32) (x2 : Int32) (x3 : Int32) (x4 : Int32) , OL_state_15 N n x1 x2 x3 x4 S → X (L_state_15 N n x1 x2 x3 x4 S) → rX G E dX12_state mX12_state 15 [some (.ref E.1), some (.int x1), some (.int x2), some (.int x3), some (.int x4)] [] S Q := by
  intro n
  induction n with
  | zero => intro x1 x2 x3 x4 ok; exact absurd ok id
  | succ n ih =>
    intro x1 x2 x3 x4 ok hx
    exact bb_state_15 hG hX0 (rec := fun x1 x2 x3 x4 => L_state_15 N n x1 x2 x3 x4 S) (rok := fun x1 x2 x3 x4 => OL_state_15 N n x1 x2 x3 x4 S) (fun x1 x2 x3 x4 ok hx => ih x1 x2 x3 x4 ok hx) ok hx
def A_state_15 (N : Nat) (x1 : Int32) (x2 : Int32) (x3 : Int32) (x4 : Int32) (S : rS) (z : Nat × Int32 × Int32 × Int32 × Unit) : Int32 := (F_state_53 N (z.2.1) (z.2.2.1) (z.2.2.2.1) S)
def OA_state_15 (N : Nat) (x1 : Int32) (x2 : Int32) (x3 : Int32) (x4 : Int32) (S : rS) (z : Nat × Int32 × Int32 × Int32 × Unit) : Prop := O_state_53 N (z.2.1) (z.2.2.1) (z.2.2.2.1) S
set_option maxHeartbeats 4000000 in
theorem c_state_15 {G : zG} {E : rE} {S : rS} {N : Nat} {Q : Option Value → rS → Prop} {X : Int32 → Prop} (hG : zOK G) (hR : ∀ v, X v → Q (some (.int v)) S) {x1 : Int32} {x2 : Int32} {x3 : Int32} {x4 : Int32} (ok : OL_state_15 N N x1 x2 x3 x4 S ∧ OA_state_15 N x1 x2 x3 x4 S (L_state_15 N N x1 x2 x3 x4 S)) (hx : X (A_state_15 N x1 x2 x3 x4 S (L_state_15 N N x1 x2 x3 x4 S))) : rX G E dX12_state mX12_state 15 [some (.ref E.1), some (.int x1), some (.int x2), some (.int x3), some (.int x4)] [] S Q := by
  refine l_state_15 hG ?_ N x1 x2 x3 x4 ok.1 (X := fun z => OA_state_15 N x1 x2 x3 x4 S z ∧ X (A_state_15 N x1 x2 x3 x4 S z)) ⟨ok.2, hx⟩
  · intro x1' x2' x3' hz
    obtain ⟨ok, hx⟩ := hz
    unfold OA_state_15 at ok
    unfold A_state_15 at hx
    exact rX.cutz (b_state_53 hG hR ok hx) ⟨rfl, rfl, rfl, rfl, trivial⟩
def F_state_0 (N : Nat) (x1 : Int32) (x2 : Int32) (S : rS) : Int32 := (if (f_isHonest N S x1) = 0 then (-1) else (A_state_15 N x1 x2 (nI 0) (nI 0) S (L_state_15 N N x1 x2 (nI 0) (nI 0) S)))
def O_state_0 (N : Nat) (x1 : Int32) (x2 : Int32) (S : rS) : Prop := (o_isHonest N S x1) ∧ (((f_isHonest N S x1) = 0 → True) ∧ (¬ (f_isHonest N S x1) = 0 → (OL_state_15 N N x1 x2 (nI 0) (nI 0) S ∧ OA_state_15 N x1 x2 (nI 0) (nI 0) S (L_state_15 N N x1 x2 (nI 0) (nI 0) S))))
set_option maxHeartbeats 4000000 in
theorem b_state_0 {G : zG} {E : rE} {S : rS} {N : Nat} {Q : Option Value → rS → Prop} {X : Int32 → Prop} (hG : zOK G) (hR : ∀ v, X v → Q (some (.int v)) S) {x1 : Int32} {x2 : Int32} (ok : O_state_0 N x1 x2 S) (hx : X (F_state_0 N x1 x2 S)) : rX G E dX12_state mX12_state 0 [some (.ref E.1), some (.int x1), some (.int x2), none, none] [] S Q := by
  unfold O_state_0 at ok
  unfold F_state_0 at hx
  refine r_aload_n dX12_state_0 rfl rfl ?_
  refine r_iload_n dX12_state_1 rfl rfl ?_
  refine r_V1i (y' := mX12_isHonest) dX12_state_2 lX12_155 kX12_isHonest ⟨by decide, by decide⟩ rfl (Nat.le_of_ble_eq_true rfl) (rc_X12_isHonest hG ok.1) (fun v_2 S_2 h_2 => ?_)
  obtain ⟨rfl, hS_2⟩ := h_2
  have hS_2 := hS_2.symm
  subst hS_2
  have ok := ok.2
  refine r_if_ne (tgt := 10) dX12_state_5 (by decide) (fun c_5 => ?_) (fun c_5 => ?_)
  · have ok := ok.2 c_5
    have hx := xif_n c_5 hx
    refine r_iconst (v := nI 0) dX12_state_10 (by decide) ?_
    refine r_istore_3 dX12_state_11 (by decide) rfl ?_
    refine r_iconst (v := nI 0) dX12_state_12 (by decide) ?_
    refine r_istore_4 dX12_state_13 (by decide) rfl ?_
    exact rX.cutz (c_state_15 hG hR ok hx) ⟨rfl, rfl, rfl, rfl, rfl, trivial⟩
  · have ok := ok.1 c_5
    have hx := xif_p c_5 hx
    refine r_iconst (v := -1) dX12_state_8 (by decide) ?_
    exact r_ireturn rfl rfl dX12_state_9 (hR _ hx)
def f_state (N : Nat) (S : rS) (x1 : Int32) (x2 : Int32) : Int32 := F_state_0 N x1 x2 S
def o_state (N : Nat) (S : rS) (x1 : Int32) (x2 : Int32) : Prop := O_state_0 N x1 x2 S
set_option maxHeartbeats 4000000 in
theorem rc_X12_state {G : zG} {E : rE} {S : rS} {N : Nat} (hG : zOK G) {x1 : Int32} {x2 : Int32} (ok : o_state N S x1 x2) : rCi G E dX12_state mX12_state [.ref E.1, .int x1, .int x2] S (fun v S' => v = f_state N S x1 x2 ∧ S' = S) := by
  refine rC.ofX rfl (Nat.le_of_ble_eq_true rfl) ?_
  show rX G E dX12_state mX12_state 0 [some (.ref E.1), some (.int x1), some (.int x2), none, none] [] S _
  exact rX.cutz (b_state_0 (X := fun F => F = f_state N S x1 x2) hG (fun v h => ⟨v, rfl, h, rfl⟩) ok rfl) ⟨rfl, rfl, rfl, trivial⟩
/-! block -/
def F_block_144 (N : Nat) (x5 : Int64) (S : rS) : Int64 := x5
def O_block_144 (N : Nat) (x5 : Int64) (S : rS) : Prop := True
set_option maxHeartbeats 4000000 in
theorem b_block_144 {G : zG} {E : rE} {S : rS} {N : Nat} {Q : Option Value → rS → Prop} {X : Int64 → Prop} (hG : zOK G) (hR : ∀ v, X v → Q (some (.long v)) S) {x5 : Int64} (ok : O_block_144 N x5 S) (hx : X (F_block_144 N x5 S)) : rX G E dX12_block mX12_block 144 [none, none, none, none, none, some (.long x5), none, none] [] S Q := by
  unfold O_block_144 at ok
  unfold F_block_144 at hx
  refine r_lload dX12_block_144 rfl ?_
  exact r_lreturn rfl dX12_block_146 (hR _ hx)
def F_block_134 (N : Nat) (rec : Int32 → Int32 → Int64 → Int32 → Nat × Int64 × Unit) (x3 : Int32) (x4 : Int32) (x7 : Int32) (s0 : Int64) (s1 : Int32) (S : rS) : Nat × Int64 × Unit := (rec x3 x4 (s0 ||| (Int32.toInt64 s1)) (x7 + nI 1))
def O_block_134 (N : Nat) (rok : Int32 → Int32 → Int64 → Int32 → Prop) (x3 : Int32) (x4 : Int32) (x7 : Int32) (s0 : Int64) (s1 : Int32) (S : rS) : Prop := rok x3 x4 (s0 ||| (Int32.toInt64 s1)) (x7 + nI 1)
set_option maxHeartbeats 4000000 in
theorem b_block_134 {G : zG} {E : rE} {S : rS} {N : Nat} {Q : Option Value → rS → Prop} {X : Nat × Int64 × Unit → Prop} (hG : zOK G) (hX0 : ∀ (x5 : Int64) , X (0, x5, ()) → rX G E dX12_block mX12_block 144 [none, none, none, none, none, some (.long x5), none, none] [] S Q) {rec : Int32 → Int32 → Int64 → Int32 → Nat × Int64 × Unit} {rok : Int32 → Int32 → Int64 → Int32 → Prop} (hrec : ∀ (x3 : Int32) (x4 : Int32) (x5 : Int64) (x7 : Int32), rok x3 x4 x5 x7 → X (rec x3 x4 x5 x7) → rX G E dX12_block mX12_block 83 [some (.ref E.1), none, none, some (.int x3), some (.int x4), some (.long x5), none, some (.int x7)] [] S Q) {x3 : Int32} {x4 : Int32} {x7 : Int32} {s0 : Int64} {s1 : Int32} (ok : O_block_134 N rok x3 x4 x7 s0 s1 S) (hx : X (F_block_134 N rec x3 x4 x7 s0 s1 S)) : rX G E dX12_block mX12_block 134 [some (.ref E.1), none, none, some (.int x3), some (.int x4), none, none, some (.int x7)] [.int s1, .long s0] S Q := by
  unfold O_block_134 at ok
  unfold F_block_134 at hx
  refine r_i2l dX12_block_134 ?_
  refine r_lor dX12_block_135 ?_
  refine r_lstore_5 dX12_block_136 (by decide) rfl ?_
  refine r_iinc_7 (v := (x7 + nI 1)) dX12_block_138 rfl (by first | rfl | (congr 1)) (by decide) rfl ?_
  refine r_goto (tgt := 83) dX12_block_141 (by decide) ?_
  exact rX.cutz (hrec _ _ _ _ ok hx) ⟨rfl, rfl, rfl, rfl, rfl, trivial⟩
def F_block_133 (N : Nat) (rec : Int32 → Int32 → Int64 → Int32 → Nat × Int64 × Unit) (x3 : Int32) (x4 : Int32) (x7 : Int32) (s0 : Int64) (S : rS) : Nat × Int64 × Unit := (F_block_134 N rec x3 x4 x7 s0 (nI 0) S)
def O_block_133 (N : Nat) (rok : Int32 → Int32 → Int64 → Int32 → Prop) (x3 : Int32) (x4 : Int32) (x7 : Int32) (s0 : Int64) (S : rS) : Prop := O_block_134 N rok x3 x4 x7 s0 (nI 0) S
set_option maxHeartbeats 4000000 in
theorem b_block_133 {G : zG} {E : rE} {S : rS} {N : Nat} {Q : Option Value → rS → Prop} {X : Nat × Int64 × Unit → Prop} (hG : zOK G) (hX0 : ∀ (x5 : Int64) , X (0, x5, ()) → rX G E dX12_block mX12_block 144 [none, none, none, none, none, some (.long x5), none, none] [] S Q) {rec : Int32 → Int32 → Int64 → Int32 → Nat × Int64 × Unit} {rok : Int32 → Int32 → Int64 → Int32 → Prop} (hrec : ∀ (x3 : Int32) (x4 : Int32) (x5 : Int64) (x7 : Int32), rok x3 x4 x5 x7 → X (rec x3 x4 x5 x7) → rX G E dX12_block mX12_block 83 [some (.ref E.1), none, none, some (.int x3), some (.int x4), some (.long x5), none, some (.int x7)] [] S Q) {x3 : Int32} {x4 : Int32} {x7 : Int32} {s0 : Int64} (ok : O_block_133 N rok x3 x4 x7 s0 S) (hx : X (F_block_133 N rec x3 x4 x7 s0 S)) : rX G E dX12_block mX12_block 133 [some (.ref E.1), none, none, some (.int x3), some (.int x4), none, none, some (.int x7)] [.long s0] S Q := by
  unfold O_block_133 at ok
  unfold F_block_133 at hx
  refine r_iconst (v := nI 0) dX12_block_133 (by decide) ?_
  exact rX.cutz (b_block_134 hG hX0 hrec ok hx) ⟨rfl, rfl, rfl, rfl, trivial⟩
def B_block_83 (N : Nat) (rec : Int32 → Int32 → Int64 → Int32 → Nat × Int64 × Unit) (x3 : Int32) (x4 : Int32) (x5 : Int64) (x7 : Int32) (S : rS) : Nat × Int64 × Unit := (if (nI 8) ≤ x7 then (0, x5, ()) else (if (S.2.1 14 x4.toNatClampNeg) ≤ x3 then (F_block_133 N rec x3 x4 x7 (x5 <<< (Int32.toInt64 (nI 8) &&& 63)) S) else (if ((S.2.1 14 x4.toNatClampNeg) - x3) ≤ x7 then (F_block_133 N rec x3 x4 x7 (x5 <<< (Int32.toInt64 (nI 8) &&& 63)) S) else (F_block_134 N rec x3 x4 x7 (x5 <<< (Int32.toInt64 (nI 8) &&& 63)) (f_blockByte N S x4 (x3 + x7)) S))))
def OB_block_83 (N : Nat) (rok : Int32 → Int32 → Int64 → Int32 → Prop) (x3 : Int32) (x4 : Int32) (x5 : Int64) (x7 : Int32) (S : rS) : Prop := (((nI 8) ≤ x7 → True) ∧ (¬ (nI 8) ≤ x7 → (vp_in x4 1354) ∧ (((S.2.1 14 x4.toNatClampNeg) ≤ x3 → O_block_133 N rok x3 x4 x7 (x5 <<< (Int32.toInt64 (nI 8) &&& 63)) S) ∧ (¬ (S.2.1 14 x4.toNatClampNeg) ≤ x3 → (vp_in x4 1354) ∧ ((((S.2.1 14 x4.toNatClampNeg) - x3) ≤ x7 → O_block_133 N rok x3 x4 x7 (x5 <<< (Int32.toInt64 (nI 8) &&& 63)) S) ∧ (¬ ((S.2.1 14 x4.toNatClampNeg) - x3) ≤ x7 → (o_blockByte N S x4 (x3 + x7)) ∧ O_block_134 N rok x3 x4 x7 (x5 <<< (Int32.toInt64 (nI 8) &&& 63)) (f_blockByte N S x4 (x3 + x7)) S))))))
set_option maxHeartbeats 4000000 in
theorem bb_block_83 {G : zG} {E : rE} {S : rS} {N : Nat} {Q : Option Value → rS → Prop} {X : Nat × Int64 × Unit → Prop} (hG : zOK G) (hX0 : ∀ (x5 : Int64) , X (0, x5, ()) → rX G E dX12_block mX12_block 144 [none, none, none, none, none, some (.long x5), none, none] [] S Q) {rec : Int32 → Int32 → Int64 → Int32 → Nat × Int64 × Unit} {rok : Int32 → Int32 → Int64 → Int32 → Prop} (hrec : ∀ (x3 : Int32) (x4 : Int32) (x5 : Int64) (x7 : Int32), rok x3 x4 x5 x7 → X (rec x3 x4 x5 x7) → rX G E dX12_block mX12_block 83 [some (.ref E.1), none, none, some (.int x3), some (.int x4), some (.long x5), none, some (.int x7)] [] S Q) {x3 : Int32} {x4 : Int32} {x5 : Int64} {x7 : Int32} (ok : OB_block_83 N rok x3 x4 x5 x7 S) (hx : X (B_block_83 N rec x3 x4 x5 x7 S)) : rX G E dX12_block mX12_block 83 [some (.ref E.1), none, none, some (.int x3), some (.int x4), some (.long x5), none, some (.int x7)] [] S Q := by
  unfold OB_block_83 at ok
  unfold B_block_83 at hx
  refine r_iload dX12_block_83 rfl ?_
  refine r_bipush (v := nI 8) dX12_block_85 (by decide) ?_
  refine r_icmp_ge (tgt := 144) dX12_block_87 (by decide) (fun c_87 => ?_) (fun c_87 => ?_)
  · have ok := ok.1 c_87
    have hx := xif_p c_87 hx
    exact rX.cutz (hX0 _  hx) ⟨rfl, trivial⟩
  · have ok := ok.2 c_87
    have hx := xif_n c_87 hx
    refine r_lload dX12_block_90 rfl ?_
    refine r_bipush (v := nI 8) dX12_block_92 (by decide) ?_
    refine r_lshl dX12_block_94 ?_
    refine r_iload_n dX12_block_95 rfl rfl ?_
    refine r_aload_n dX12_block_96 rfl rfl ?_
    refine r_getA 14 fX12_57 (by decide) (by decide) dX12_block_97 ?_
    refine r_iload dX12_block_100 rfl ?_
    refine r_iald (by decide) (by decide) dX12_block_102 ok.1 ?_
    have ok := ok.2
    refine r_icmp_ge (tgt := 133) dX12_block_103 (by decide) (fun c_103 => ?_) (fun c_103 => ?_)
    · have ok := ok.1 c_103
      have hx := xif_p c_103 hx
      exact rX.cutz (b_block_133 hG hX0 hrec ok hx) ⟨rfl, rfl, rfl, rfl, trivial⟩
    · have ok := ok.2 c_103
      have hx := xif_n c_103 hx
      refine r_iload dX12_block_106 rfl ?_
      refine r_aload_n dX12_block_108 rfl rfl ?_
      refine r_getA 14 fX12_57 (by decide) (by decide) dX12_block_109 ?_
      refine r_iload dX12_block_112 rfl ?_
      refine r_iald (by decide) (by decide) dX12_block_114 ok.1 ?_
      have ok := ok.2
      refine r_iload_n dX12_block_115 rfl rfl ?_
      refine r_isub dX12_block_116 ?_
      refine r_icmp_ge (tgt := 133) dX12_block_117 (by decide) (fun c_117 => ?_) (fun c_117 => ?_)
      · have ok := ok.1 c_117
        have hx := xif_p c_117 hx
        exact rX.cutz (b_block_133 hG hX0 hrec ok hx) ⟨rfl, rfl, rfl, rfl, trivial⟩
      · have ok := ok.2 c_117
        have hx := xif_n c_117 hx
        refine r_aload_n dX12_block_120 rfl rfl ?_
        refine r_iload dX12_block_121 rfl ?_
        refine r_iload_n dX12_block_123 rfl rfl ?_
        refine r_iload dX12_block_124 rfl ?_
        refine r_iadd dX12_block_126 ?_
        refine r_V2i (y' := mX12_blockByte) dX12_block_127 lX12_67 kX12_blockByte ⟨by decide, by decide⟩ rfl (Nat.le_of_ble_eq_true rfl) (rc_X12_blockByte hG ok.1) (fun v_127 S_127 h_127 => ?_)
        obtain ⟨rfl, hS_127⟩ := h_127
        have hS_127 := hS_127.symm
        subst hS_127
        have ok := ok.2
        refine r_goto (tgt := 134) dX12_block_130 (by decide) ?_
        exact rX.cutz (b_block_134 hG hX0 hrec ok hx) ⟨rfl, rfl, rfl, rfl, trivial⟩
def L_block_83 (N : Nat) : Nat → Int32 → Int32 → Int64 → Int32 → rS → Nat × Int64 × Unit
  | 0, x3, x4, x5, x7, S => (0, 0, ())
  | n + 1, x3, x4, x5, x7, S => B_block_83 N (fun x3 x4 x5 x7 => L_block_83 N n x3 x4 x5 x7 S) x3 x4 x5 x7 S
def OL_block_83 (N : Nat) : Nat → Int32 → Int32 → Int64 → Int32 → rS → Prop
  | 0, _, _, _, _, _ => False
  | n + 1, x3, x4, x5, x7, S => OB_block_83 N (fun x3 x4 x5 x7 => OL_block_83 N n x3 x4 x5 x7 S) x3 x4 x5 x7 S
set_option maxHeartbeats 4000000 in
theorem l_block_83 {G : zG} {E : rE} {S : rS} {N : Nat} {Q : Option Value → rS → Prop} {X : Nat × Int64 × Unit → Prop} (hG : zOK G) (hX0 : ∀ (x5 : Int64) , X (0, x5, ()) → rX G E dX12_block mX12_block 144 [none, none, none, none, none, some (.long x5), none, none] [] S Q) : ∀ (n : Nat) (x3 : Int32) (x4 : Int32) (x5 : Int64) (x7 : Int32) , OL_block_83 N n x3 x4 x5 x7 S → X (L_block_83 N n x3 x4 x5 x7 S) → rX G E dX12_block mX12_block 83 [some (.ref E.1), none, none, some (.int x3), some (.int x4), some (.long x5), none, some (.int x7)] [] S Q := by
  intro n
  induction n with
  | zero => intro x3 x4 x5 x7 ok; exact absurd ok id
  | succ n ih =>
    intro x3 x4 x5 x7 ok hx
    exact bb_block_83 hG hX0 (rec := fun x3 x4 x5 x7 => L_block_83 N n x3 x4 x5 x7 S) (rok := fun x3 x4 x5 x7 => OL_block_83 N n x3 x4 x5 x7 S) (fun x3 x4 x5 x7 ok hx => ih x3 x4 x5 x7 ok hx) ok hx
def A_block_83 (N : Nat) (x3 : Int32) (x4 : Int32) (x5 : Int64) (x7 : Int32) (S : rS) (z : Nat × Int64 × Unit) : Int64 := (F_block_144 N (z.2.1) S)
def OA_block_83 (N : Nat) (x3 : Int32) (x4 : Int32) (x5 : Int64) (x7 : Int32) (S : rS) (z : Nat × Int64 × Unit) : Prop := O_block_144 N (z.2.1) S
set_option maxHeartbeats 4000000 in
theorem c_block_83 {G : zG} {E : rE} {S : rS} {N : Nat} {Q : Option Value → rS → Prop} {X : Int64 → Prop} (hG : zOK G) (hR : ∀ v, X v → Q (some (.long v)) S) {x3 : Int32} {x4 : Int32} {x5 : Int64} {x7 : Int32} (ok : OL_block_83 N N x3 x4 x5 x7 S ∧ OA_block_83 N x3 x4 x5 x7 S (L_block_83 N N x3 x4 x5 x7 S)) (hx : X (A_block_83 N x3 x4 x5 x7 S (L_block_83 N N x3 x4 x5 x7 S))) : rX G E dX12_block mX12_block 83 [some (.ref E.1), none, none, some (.int x3), some (.int x4), some (.long x5), none, some (.int x7)] [] S Q := by
  refine l_block_83 hG ?_ N x3 x4 x5 x7 ok.1 (X := fun z => OA_block_83 N x3 x4 x5 x7 S z ∧ X (A_block_83 N x3 x4 x5 x7 S z)) ⟨ok.2, hx⟩
  · intro x5' hz
    obtain ⟨ok, hx⟩ := hz
    unfold OA_block_83 at ok
    unfold A_block_83 at hx
    exact rX.cutz (b_block_144 hG hR ok hx) ⟨rfl, trivial⟩
def F_block_62 (N : Nat) (x3 : Int32) (s0 : Int32) (S : rS) : Int64 := (if (f_isThere N S s0) = 0 then (-1 : Int64) else (A_block_83 N x3 s0 (0 : Int64) (nI 0) S (L_block_83 N N x3 s0 (0 : Int64) (nI 0) S)))
def O_block_62 (N : Nat) (x3 : Int32) (s0 : Int32) (S : rS) : Prop := (o_isThere N S s0) ∧ (((f_isThere N S s0) = 0 → True) ∧ (¬ (f_isThere N S s0) = 0 → (OL_block_83 N N x3 s0 (0 : Int64) (nI 0) S ∧ OA_block_83 N x3 s0 (0 : Int64) (nI 0) S (L_block_83 N N x3 s0 (0 : Int64) (nI 0) S))))
set_option maxHeartbeats 4000000 in
theorem b_block_62 {G : zG} {E : rE} {S : rS} {N : Nat} {Q : Option Value → rS → Prop} {X : Int64 → Prop} (hG : zOK G) (hR : ∀ v, X v → Q (some (.long v)) S) {x3 : Int32} {s0 : Int32} (ok : O_block_62 N x3 s0 S) (hx : X (F_block_62 N x3 s0 S)) : rX G E dX12_block mX12_block 62 [some (.ref E.1), none, none, some (.int x3), none, none, none, none] [.int s0] S Q := by
  unfold O_block_62 at ok
  unfold F_block_62 at hx
  refine r_istore_4 dX12_block_62 (by decide) rfl ?_
  refine r_aload_n dX12_block_64 rfl rfl ?_
  refine r_iload dX12_block_65 rfl ?_
  refine r_V1i (y' := mX12_isThere) dX12_block_67 lX12_63 kX12_isThere ⟨by decide, by decide⟩ rfl (Nat.le_of_ble_eq_true rfl) (rc_X12_isThere hG ok.1) (fun v_67 S_67 h_67 => ?_)
  obtain ⟨rfl, hS_67⟩ := h_67
  have hS_67 := hS_67.symm
  subst hS_67
  have ok := ok.2
  refine r_if_ne (tgt := 77) dX12_block_70 (by decide) (fun c_70 => ?_) (fun c_70 => ?_)
  · have ok := ok.2 c_70
    have hx := xif_n c_70 hx
    refine r_lconst (v := 0) dX12_block_77 rfl ?_
    refine r_lstore_5 dX12_block_78 (by decide) rfl ?_
    refine r_iconst (v := nI 0) dX12_block_80 (by decide) ?_
    refine r_istore_7 dX12_block_81 (by decide) rfl ?_
    exact rX.cutz (c_block_83 hG hR ok hx) ⟨rfl, rfl, rfl, rfl, rfl, trivial⟩
  · have ok := ok.1 c_70
    have hx := xif_p c_70 hx
    refine r_ldc2 dX12_block_73 nX12_55 ?_
    exact r_lreturn rfl dX12_block_76 (hR _ hx)
def F_block_23 (N : Nat)  (S : rS) : Int64 := (-1 : Int64)
def O_block_23 (N : Nat)  (S : rS) : Prop := True
set_option maxHeartbeats 4000000 in
theorem b_block_23 {G : zG} {E : rE} {S : rS} {N : Nat} {Q : Option Value → rS → Prop} {X : Int64 → Prop} (hG : zOK G) (hR : ∀ v, X v → Q (some (.long v)) S) (ok : O_block_23 N S) (hx : X (F_block_23 N S)) : rX G E dX12_block mX12_block 23 [none, none, none, none, none, none, none, none] [] S Q := by
  unfold O_block_23 at ok
  unfold F_block_23 at hx
  refine r_ldc2 dX12_block_23 nX12_55 ?_
  exact r_lreturn rfl dX12_block_26 (hR _ hx)
def F_block_0 (N : Nat) (x1 : Int32) (x2 : Int32) (x3 : Int32) (S : rS) : Int64 := (if (f_isHonest N S x1) = 0 then (F_block_23 N S) else (if x3 < 0 then (F_block_23 N S) else (if x2 < (-1) then (F_block_23 N S) else (if x2 ≤ (nI 40) then (if x2 = 0 then (F_block_62 N x3 ((nI 1118) + x1) S) else (if x2 = (-1) then (F_block_62 N x3 ((nI 1131) + x1) S) else (F_block_62 N x3 (((nI 585) + ((nI 41) * x1)) + x2) S))) else (F_block_23 N S)))))
def O_block_0 (N : Nat) (x1 : Int32) (x2 : Int32) (x3 : Int32) (S : rS) : Prop := (o_isHonest N S x1) ∧ (((f_isHonest N S x1) = 0 → O_block_23 N S) ∧ (¬ (f_isHonest N S x1) = 0 → ((x3 < 0 → O_block_23 N S) ∧ (¬ x3 < 0 → ((x2 < (-1) → O_block_23 N S) ∧ (¬ x2 < (-1) → ((x2 ≤ (nI 40) → ((x2 = 0 → O_block_62 N x3 ((nI 1118) + x1) S) ∧ (¬ x2 = 0 → ((x2 = (-1) → O_block_62 N x3 ((nI 1131) + x1) S) ∧ (¬ x2 = (-1) → O_block_62 N x3 (((nI 585) + ((nI 41) * x1)) + x2) S))))) ∧ (¬ x2 ≤ (nI 40) → O_block_23 N S))))))))
set_option maxHeartbeats 4000000 in
theorem b_block_0 {G : zG} {E : rE} {S : rS} {N : Nat} {Q : Option Value → rS → Prop} {X : Int64 → Prop} (hG : zOK G) (hR : ∀ v, X v → Q (some (.long v)) S) {x1 : Int32} {x2 : Int32} {x3 : Int32} (ok : O_block_0 N x1 x2 x3 S) (hx : X (F_block_0 N x1 x2 x3 S)) : rX G E dX12_block mX12_block 0 [some (.ref E.1), some (.int x1), some (.int x2), some (.int x3), none, none, none, none] [] S Q := by
  unfold O_block_0 at ok
  unfold F_block_0 at hx
  refine r_aload_n dX12_block_0 rfl rfl ?_
  refine r_iload_n dX12_block_1 rfl rfl ?_
  refine r_V1i (y' := mX12_isHonest) dX12_block_2 lX12_155 kX12_isHonest ⟨by decide, by decide⟩ rfl (Nat.le_of_ble_eq_true rfl) (rc_X12_isHonest hG ok.1) (fun v_2 S_2 h_2 => ?_)
  obtain ⟨rfl, hS_2⟩ := h_2
  have hS_2 := hS_2.symm
  subst hS_2
  have ok := ok.2
  refine r_if_eq (tgt := 23) dX12_block_5 (by decide) (fun c_5 => ?_) (fun c_5 => ?_)
  · have ok := ok.1 c_5
    have hx := xif_p c_5 hx
    exact rX.cutz (b_block_23 hG hR ok hx) trivial
  · have ok := ok.2 c_5
    have hx := xif_n c_5 hx
    refine r_iload_n dX12_block_8 rfl rfl ?_
    refine r_if_lt (tgt := 23) dX12_block_9 (by decide) (fun c_9 => ?_) (fun c_9 => ?_)
    · have ok := ok.1 c_9
      have hx := xif_p c_9 hx
      exact rX.cutz (b_block_23 hG hR ok hx) trivial
    · have ok := ok.2 c_9
      have hx := xif_n c_9 hx
      refine r_iload_n dX12_block_12 rfl rfl ?_
      refine r_iconst (v := -1) dX12_block_13 (by decide) ?_
      refine r_icmp_lt (tgt := 23) dX12_block_14 (by decide) (fun c_14 => ?_) (fun c_14 => ?_)
      · have ok := ok.1 c_14
        have hx := xif_p c_14 hx
        exact rX.cutz (b_block_23 hG hR ok hx) trivial
      · have ok := ok.2 c_14
        have hx := xif_n c_14 hx
        refine r_iload_n dX12_block_17 rfl rfl ?_
        refine r_bipush (v := nI 40) dX12_block_18 (by decide) ?_
        refine r_icmp_le (tgt := 27) dX12_block_20 (by decide) (fun c_20 => ?_) (fun c_20 => ?_)
        · have ok := ok.1 c_20
          have hx := xif_p c_20 hx
          refine r_iload_n dX12_block_27 rfl rfl ?_
          refine r_if_ne (tgt := 39) dX12_block_28 (by decide) (fun c_28 => ?_) (fun c_28 => ?_)
          · have ok := ok.2 c_28
            have hx := xif_n c_28 hx
            refine r_iload_n dX12_block_39 rfl rfl ?_
            refine r_iconst (v := -1) dX12_block_40 (by decide) ?_
            refine r_icmp_ne (tgt := 52) dX12_block_41 (by decide) (fun c_41 => ?_) (fun c_41 => ?_)
            · have ok := ok.2 c_41
              have hx := xif_n c_41 hx
              refine r_sipush (v := nI 585) dX12_block_52 (by decide) ?_
              refine r_bipush (v := nI 41) dX12_block_55 (by decide) ?_
              refine r_iload_n dX12_block_57 rfl rfl ?_
              refine r_imul dX12_block_58 ?_
              refine r_iadd dX12_block_59 ?_
              refine r_iload_n dX12_block_60 rfl rfl ?_
              refine r_iadd dX12_block_61 ?_
              exact rX.cutz (b_block_62 hG hR ok hx) ⟨rfl, rfl, trivial⟩
            · have ok := ok.1 c_41
              have hx := xif_p c_41 hx
              refine r_sipush (v := nI 1131) dX12_block_44 (by decide) ?_
              refine r_iload_n dX12_block_47 rfl rfl ?_
              refine r_iadd dX12_block_48 ?_
              refine r_goto (tgt := 62) dX12_block_49 (by decide) ?_
              exact rX.cutz (b_block_62 hG hR ok hx) ⟨rfl, rfl, trivial⟩
          · have ok := ok.1 c_28
            have hx := xif_p c_28 hx
            refine r_sipush (v := nI 1118) dX12_block_31 (by decide) ?_
            refine r_iload_n dX12_block_34 rfl rfl ?_
            refine r_iadd dX12_block_35 ?_
            refine r_goto (tgt := 62) dX12_block_36 (by decide) ?_
            exact rX.cutz (b_block_62 hG hR ok hx) ⟨rfl, rfl, trivial⟩
        · have ok := ok.2 c_20
          have hx := xif_n c_20 hx
          exact rX.cutz (b_block_23 hG hR ok hx) trivial
def f_block (N : Nat) (S : rS) (x1 : Int32) (x2 : Int32) (x3 : Int32) : Int64 := F_block_0 N x1 x2 x3 S
def o_block (N : Nat) (S : rS) (x1 : Int32) (x2 : Int32) (x3 : Int32) : Prop := O_block_0 N x1 x2 x3 S
set_option maxHeartbeats 4000000 in
theorem rc_X12_block {G : zG} {E : rE} {S : rS} {N : Nat} (hG : zOK G) {x1 : Int32} {x2 : Int32} {x3 : Int32} (ok : o_block N S x1 x2 x3) : rCl G E dX12_block mX12_block [.ref E.1, .int x1, .int x2, .int x3] S (fun v S' => v = f_block N S x1 x2 x3 ∧ S' = S) := by
  refine rC.ofX rfl (Nat.le_of_ble_eq_true rfl) ?_
  show rX G E dX12_block mX12_block 0 [some (.ref E.1), some (.int x1), some (.int x2), some (.int x3), none, none, none, none] [] S _
  exact rX.cutz (b_block_0 (X := fun F => F = f_block N S x1 x2 x3) hG (fun v h => ⟨v, rfl, h, rfl⟩) ok rfl) ⟨rfl, rfl, rfl, rfl, trivial⟩
/-! paid -/
def F_paid_60 (N : Nat) (s0 : Int32) (s1 : Int32) (S : rS) : Int32 × rS := ((s0 + s1), S)
def O_paid_60 (N : Nat) (s0 : Int32) (s1 : Int32) (S : rS) : Prop := True
set_option maxHeartbeats 4000000 in
theorem b_paid_60 {G : zG} {E : rE} {S : rS} {N : Nat} {Q : Option Value → rS → Prop} {X : Int32 × rS → Prop} (hG : zOK G) (hR : ∀ v S', X (v, S') → Q (some (.int v)) S') {s0 : Int32} {s1 : Int32} (ok : O_paid_60 N s0 s1 S) (hx : X (F_paid_60 N s0 s1 S)) : rX G E dX12_paid mX12_paid 60 [none, none, none] [.int s1, .int s0] S Q := by
  unfold O_paid_60 at ok
  unfold F_paid_60 at hx
  refine r_iadd dX12_paid_60 ?_
  exact r_ireturn rfl rfl dX12_paid_61 (hR _ _ hx)
def F_paid_41 (N : Nat) (x1 : Int32) (x2 : Int32) (s0 : Int32) (S : rS) : Int32 × rS := (if (S.2.1 55 (((nI 13) * x1) + x2).toNatClampNeg) ≤ 0 then (F_paid_60 N s0 (nI 0) S) else (F_paid_60 N s0 (nI 2) S))
def O_paid_41 (N : Nat) (x1 : Int32) (x2 : Int32) (s0 : Int32) (S : rS) : Prop := (vp_in (((nI 13) * x1) + x2) 169) ∧ (((S.2.1 55 (((nI 13) * x1) + x2).toNatClampNeg) ≤ 0 → O_paid_60 N s0 (nI 0) S) ∧ (¬ (S.2.1 55 (((nI 13) * x1) + x2).toNatClampNeg) ≤ 0 → O_paid_60 N s0 (nI 2) S))
set_option maxHeartbeats 4000000 in
theorem b_paid_41 {G : zG} {E : rE} {S : rS} {N : Nat} {Q : Option Value → rS → Prop} {X : Int32 × rS → Prop} (hG : zOK G) (hR : ∀ v S', X (v, S') → Q (some (.int v)) S') {x1 : Int32} {x2 : Int32} {s0 : Int32} (ok : O_paid_41 N x1 x2 s0 S) (hx : X (F_paid_41 N x1 x2 s0 S)) : rX G E dX12_paid mX12_paid 41 [some (.ref E.1), some (.int x1), some (.int x2)] [.int s0] S Q := by
  unfold O_paid_41 at ok
  unfold F_paid_41 at hx
  refine r_aload_n dX12_paid_41 rfl rfl ?_
  refine r_getA 55 fX12_342 (by decide) (by decide) dX12_paid_42 ?_
  refine r_bipush (v := nI 13) dX12_paid_45 (by decide) ?_
  refine r_iload_n dX12_paid_47 rfl rfl ?_
  refine r_imul dX12_paid_48 ?_
  refine r_iload_n dX12_paid_49 rfl rfl ?_
  refine r_iadd dX12_paid_50 ?_
  refine r_iald (by decide) (by decide) dX12_paid_51 ok.1 ?_
  have ok := ok.2
  refine r_if_le (tgt := 59) dX12_paid_52 (by decide) (fun c_52 => ?_) (fun c_52 => ?_)
  · have ok := ok.1 c_52
    have hx := xif_p c_52 hx
    refine r_iconst (v := nI 0) dX12_paid_59 (by decide) ?_
    exact rX.cutz (b_paid_60 hG hR ok hx) trivial
  · have ok := ok.2 c_52
    have hx := xif_n c_52 hx
    refine r_iconst (v := nI 2) dX12_paid_55 (by decide) ?_
    refine r_goto (tgt := 60) dX12_paid_56 (by decide) ?_
    exact rX.cutz (b_paid_60 hG hR ok hx) trivial
def F_paid_27 (N : Nat) (x1 : Int32) (x2 : Int32) (S : rS) : Int32 × rS := (if (S.2.1 87 x2.toNatClampNeg) = 0 then (F_paid_41 N x1 x2 (nI 0) S) else (F_paid_41 N x1 x2 (nI 1) S))
def O_paid_27 (N : Nat) (x1 : Int32) (x2 : Int32) (S : rS) : Prop := (vp_in x2 16) ∧ (((S.2.1 87 x2.toNatClampNeg) = 0 → O_paid_41 N x1 x2 (nI 0) S) ∧ (¬ (S.2.1 87 x2.toNatClampNeg) = 0 → O_paid_41 N x1 x2 (nI 1) S))
set_option maxHeartbeats 4000000 in
theorem b_paid_27 {G : zG} {E : rE} {S : rS} {N : Nat} {Q : Option Value → rS → Prop} {X : Int32 × rS → Prop} (hG : zOK G) (hR : ∀ v S', X (v, S') → Q (some (.int v)) S') {x1 : Int32} {x2 : Int32} (ok : O_paid_27 N x1 x2 S) (hx : X (F_paid_27 N x1 x2 S)) : rX G E dX12_paid mX12_paid 27 [some (.ref E.1), some (.int x1), some (.int x2)] [] S Q := by
  unfold O_paid_27 at ok
  unfold F_paid_27 at hx
  refine r_aload_n dX12_paid_27 rfl rfl ?_
  refine r_getA 87 fX12_436 (by decide) (by decide) dX12_paid_28 ?_
  refine r_iload_n dX12_paid_31 rfl rfl ?_
  refine r_zald (by decide) (by decide) dX12_paid_32 ok.1 ?_
  have ok := ok.2
  refine r_if_eq (tgt := 40) dX12_paid_33 (by decide) (fun c_33 => ?_) (fun c_33 => ?_)
  · have ok := ok.1 c_33
    have hx := xif_p c_33 hx
    refine r_iconst (v := nI 0) dX12_paid_40 (by decide) ?_
    exact rX.cutz (b_paid_41 hG hR ok hx) ⟨rfl, rfl, rfl, trivial⟩
  · have ok := ok.2 c_33
    have hx := xif_n c_33 hx
    refine r_iconst (v := nI 1) dX12_paid_36 (by decide) ?_
    refine r_goto (tgt := 41) dX12_paid_37 (by decide) ?_
    exact rX.cutz (b_paid_41 hG hR ok hx) ⟨rfl, rfl, rfl, trivial⟩
def F_paid_20 (N : Nat)  (S : rS) : Int32 × rS := ((-1), S)
def O_paid_20 (N : Nat)  (S : rS) : Prop := True
set_option maxHeartbeats 4000000 in
theorem b_paid_20 {G : zG} {E : rE} {S : rS} {N : Nat} {Q : Option Value → rS → Prop} {X : Int32 × rS → Prop} (hG : zOK G) (hR : ∀ v S', X (v, S') → Q (some (.int v)) S') (ok : O_paid_20 N S) (hx : X (F_paid_20 N S)) : rX G E dX12_paid mX12_paid 20 [none, none, none] [] S Q := by
  unfold O_paid_20 at ok
  unfold F_paid_20 at hx
  refine r_iconst (v := -1) dX12_paid_20 (by decide) ?_
  exact r_ireturn rfl rfl dX12_paid_21 (hR _ _ hx)
def F_paid_0 (N : Nat) (x1 : Int32) (x2 : Int32) (S : rS) : Int32 × rS := (if (f_isHonest N S x1) = 0 then (F_paid_20 N S) else (if x2 < 0 then (F_paid_20 N S) else (if x2 < (S.1 0) then (F_paid_27 N x1 x2 (f_reckon N S x1)) else (F_paid_20 N S))))
def O_paid_0 (N : Nat) (x1 : Int32) (x2 : Int32) (S : rS) : Prop := (o_isHonest N S x1) ∧ (((f_isHonest N S x1) = 0 → O_paid_20 N S) ∧ (¬ (f_isHonest N S x1) = 0 → ((x2 < 0 → O_paid_20 N S) ∧ (¬ x2 < 0 → ((x2 < (S.1 0) → (o_reckon N S x1) ∧ O_paid_27 N x1 x2 (f_reckon N S x1)) ∧ (¬ x2 < (S.1 0) → O_paid_20 N S))))))
set_option maxHeartbeats 4000000 in
theorem b_paid_0 {G : zG} {E : rE} {S : rS} {N : Nat} {Q : Option Value → rS → Prop} {X : Int32 × rS → Prop} (hG : zOK G) (hR : ∀ v S', X (v, S') → Q (some (.int v)) S') {x1 : Int32} {x2 : Int32} (ok : O_paid_0 N x1 x2 S) (hx : X (F_paid_0 N x1 x2 S)) : rX G E dX12_paid mX12_paid 0 [some (.ref E.1), some (.int x1), some (.int x2)] [] S Q := by
  unfold O_paid_0 at ok
  unfold F_paid_0 at hx
  refine r_aload_n dX12_paid_0 rfl rfl ?_
  refine r_iload_n dX12_paid_1 rfl rfl ?_
  refine r_V1i (y' := mX12_isHonest) dX12_paid_2 lX12_155 kX12_isHonest ⟨by decide, by decide⟩ rfl (Nat.le_of_ble_eq_true rfl) (rc_X12_isHonest hG ok.1) (fun v_2 S_2 h_2 => ?_)
  obtain ⟨rfl, hS_2⟩ := h_2
  have hS_2 := hS_2.symm
  subst hS_2
  have ok := ok.2
  refine r_if_eq (tgt := 20) dX12_paid_5 (by decide) (fun c_5 => ?_) (fun c_5 => ?_)
  · have ok := ok.1 c_5
    have hx := xif_p c_5 hx
    exact rX.cutz (b_paid_20 hG hR ok hx) trivial
  · have ok := ok.2 c_5
    have hx := xif_n c_5 hx
    refine r_iload_n dX12_paid_8 rfl rfl ?_
    refine r_if_lt (tgt := 20) dX12_paid_9 (by decide) (fun c_9 => ?_) (fun c_9 => ?_)
    · have ok := ok.1 c_9
      have hx := xif_p c_9 hx
      exact rX.cutz (b_paid_20 hG hR ok hx) trivial
    · have ok := ok.2 c_9
      have hx := xif_n c_9 hx
      refine r_iload_n dX12_paid_12 rfl rfl ?_
      refine r_aload_n dX12_paid_13 rfl rfl ?_
      refine r_getI 0 fX12_219 (by decide) (by decide) dX12_paid_14 ?_
      refine r_icmp_lt (tgt := 22) dX12_paid_17 (by decide) (fun c_17 => ?_) (fun c_17 => ?_)
      · have ok := ok.1 c_17
        have hx := xif_p c_17 hx
        refine r_aload_n dX12_paid_22 rfl rfl ?_
        refine r_iload_n dX12_paid_23 rfl rfl ?_
        refine r_V1v (y' := mX12_reckon) dX12_paid_24 lX12_161 kX12_reckon ⟨by decide, by decide⟩ rfl (Nat.le_of_ble_eq_true rfl) (rc_X12_reckon hG ok.1) (fun S_24 h_24 => ?_)
        subst h_24
        have ok := ok.2
        exact rX.cutz (b_paid_27 hG hR ok hx) ⟨rfl, rfl, rfl, trivial⟩
      · have ok := ok.2 c_17
        have hx := xif_n c_17 hx
        exact rX.cutz (b_paid_20 hG hR ok hx) trivial
def f_paid (N : Nat) (S : rS) (x1 : Int32) (x2 : Int32) : Int32 × rS := F_paid_0 N x1 x2 S
def o_paid (N : Nat) (S : rS) (x1 : Int32) (x2 : Int32) : Prop := O_paid_0 N x1 x2 S
set_option maxHeartbeats 4000000 in
theorem rc_X12_paid {G : zG} {E : rE} {S : rS} {N : Nat} (hG : zOK G) {x1 : Int32} {x2 : Int32} (ok : o_paid N S x1 x2) : rCi G E dX12_paid mX12_paid [.ref E.1, .int x1, .int x2] S (fun v S' => v = (f_paid N S x1 x2).1 ∧ S' = (f_paid N S x1 x2).2) := by
  refine rC.ofX rfl (Nat.le_of_ble_eq_true rfl) ?_
  show rX G E dX12_paid mX12_paid 0 [some (.ref E.1), some (.int x1), some (.int x2)] [] S _
  exact rX.cutz (b_paid_0 (X := fun F => F = f_paid N S x1 x2) hG (fun v S' h => ⟨v, rfl, by rw [← h], by rw [← h]⟩) ok rfl) ⟨rfl, rfl, rfl, trivial⟩
/-! path_ -/
def F_path__85 (N : Nat) (x4 : Int32) (S : rS) : Int64 × rS := ((f_told N S x4), S)
def O_path__85 (N : Nat) (x4 : Int32) (S : rS) : Prop := (o_told N S x4) ∧ True
set_option maxHeartbeats 4000000 in
theorem b_path__85 {G : zG} {E : rE} {S : rS} {N : Nat} {Q : Option Value → rS → Prop} {X : Int64 × rS → Prop} (hG : zOK G) (hR : ∀ v S', X (v, S') → Q (some (.long v)) S') {x4 : Int32} (ok : O_path__85 N x4 S) (hx : X (F_path__85 N x4 S)) : rX G E dX12_path_ mX12_path_ 85 [some (.ref E.1), none, none, none, some (.int x4)] [] S Q := by
  unfold O_path__85 at ok
  unfold F_path__85 at hx
  refine r_aload_n dX12_path__85 rfl rfl ?_
  refine r_iload dX12_path__86 rfl ?_
  refine r_V1l (y' := mX12_told) dX12_path__88 lX12_728 kX12_told ⟨by decide, by decide⟩ rfl (Nat.le_of_ble_eq_true rfl) (rc_X12_told hG ok.1) (fun v_88 S_88 h_88 => ?_)
  obtain ⟨rfl, hS_88⟩ := h_88
  have hS_88 := hS_88.symm
  subst hS_88
  have ok := ok.2
  exact r_lreturn rfl dX12_path__91 (hR _ _ hx)
def F_path__71 (N : Nat)  (S : rS) : Int64 × rS := ((-1 : Int64), S)
def O_path__71 (N : Nat)  (S : rS) : Prop := True
set_option maxHeartbeats 4000000 in
theorem b_path__71 {G : zG} {E : rE} {S : rS} {N : Nat} {Q : Option Value → rS → Prop} {X : Int64 × rS → Prop} (hG : zOK G) (hR : ∀ v S', X (v, S') → Q (some (.long v)) S') (ok : O_path__71 N S) (hx : X (F_path__71 N S)) : rX G E dX12_path_ mX12_path_ 71 [none, none, none, none, none] [] S Q := by
  unfold O_path__71 at ok
  unfold F_path__71 at hx
  refine r_ldc2 dX12_path__71 nX12_55 ?_
  exact r_lreturn rfl dX12_path__74 (hR _ _ hx)
def F_path__59 (N : Nat) (x3 : Int32) (x4 : Int32) (S : rS) : Int64 × rS := (if x3 < 0 then (F_path__71 N S) else (if x3 < (S.1 17) then (F_path__85 N x4 (f_path N (rsI S 20 (nI 0)) x3)) else (F_path__71 N S)))
def O_path__59 (N : Nat) (x3 : Int32) (x4 : Int32) (S : rS) : Prop := ((x3 < 0 → O_path__71 N S) ∧ (¬ x3 < 0 → ((x3 < (S.1 17) → (o_path N (rsI S 20 (nI 0)) x3) ∧ O_path__85 N x4 (f_path N (rsI S 20 (nI 0)) x3)) ∧ (¬ x3 < (S.1 17) → O_path__71 N S))))
set_option maxHeartbeats 4000000 in
theorem b_path__59 {G : zG} {E : rE} {S : rS} {N : Nat} {Q : Option Value → rS → Prop} {X : Int64 × rS → Prop} (hG : zOK G) (hR : ∀ v S', X (v, S') → Q (some (.long v)) S') {x3 : Int32} {x4 : Int32} (ok : O_path__59 N x3 x4 S) (hx : X (F_path__59 N x3 x4 S)) : rX G E dX12_path_ mX12_path_ 59 [some (.ref E.1), none, none, some (.int x3), some (.int x4)] [] S Q := by
  unfold O_path__59 at ok
  unfold F_path__59 at hx
  refine r_iload_n dX12_path__59 rfl rfl ?_
  refine r_if_lt (tgt := 71) dX12_path__60 (by decide) (fun c_60 => ?_) (fun c_60 => ?_)
  · have ok := ok.1 c_60
    have hx := xif_p c_60 hx
    exact rX.cutz (b_path__71 hG hR ok hx) trivial
  · have ok := ok.2 c_60
    have hx := xif_n c_60 hx
    refine r_iload_n dX12_path__63 rfl rfl ?_
    refine r_aload_n dX12_path__64 rfl rfl ?_
    refine r_getI 17 fX12_78 (by decide) (by decide) dX12_path__65 ?_
    refine r_icmp_lt (tgt := 75) dX12_path__68 (by decide) (fun c_68 => ?_) (fun c_68 => ?_)
    · have ok := ok.1 c_68
      have hx := xif_p c_68 hx
      refine r_aload_n dX12_path__75 rfl rfl ?_
      refine r_iconst (v := nI 0) dX12_path__76 (by decide) ?_
      refine r_putI 20 fX12_106 (by decide) (by decide) rfl rfl rfl dX12_path__77 ?_
      refine r_aload_n dX12_path__80 rfl rfl ?_
      refine r_iload_n dX12_path__81 rfl rfl ?_
      refine r_V1v (y' := mX12_path) dX12_path__82 lX12_725 kX12_path ⟨by decide, by decide⟩ rfl (Nat.le_of_ble_eq_true rfl) (rc_X12_path hG ok.1) (fun S_82 h_82 => ?_)
      subst h_82
      have ok := ok.2
      exact rX.cutz (b_path__85 hG hR ok hx) ⟨rfl, rfl, trivial⟩
    · have ok := ok.2 c_68
      have hx := xif_n c_68 hx
      exact rX.cutz (b_path__71 hG hR ok hx) trivial
def F_path__41 (N : Nat)  (S : rS) : Int64 × rS := ((-1 : Int64), S)
def O_path__41 (N : Nat)  (S : rS) : Prop := True
set_option maxHeartbeats 4000000 in
theorem b_path__41 {G : zG} {E : rE} {S : rS} {N : Nat} {Q : Option Value → rS → Prop} {X : Int64 × rS → Prop} (hG : zOK G) (hR : ∀ v S', X (v, S') → Q (some (.long v)) S') (ok : O_path__41 N S) (hx : X (F_path__41 N S)) : rX G E dX12_path_ mX12_path_ 41 [none, none, none, none, none] [] S Q := by
  unfold O_path__41 at ok
  unfold F_path__41 at hx
  refine r_ldc2 dX12_path__41 nX12_55 ?_
  exact r_lreturn rfl dX12_path__44 (hR _ _ hx)
def F_path__0 (N : Nat) (x1 : Int32) (x2 : Int32) (x3 : Int32) (x4 : Int32) (S : rS) : Int64 × rS := (if (f_isHonest N S x1) = 0 then (F_path__41 N S) else (if x4 < 0 then (F_path__41 N S) else (if x2 < (nI 1) then (F_path__41 N S) else (if (nI 40) < x2 then (F_path__41 N S) else (if (f_isThere N S (((nI 585) + ((nI 41) * x1)) + x2)) = 0 then (F_path__41 N S) else (F_path__59 N x3 x4 (f_partsOf N S (((nI 585) + ((nI 41) * x1)) + x2))))))))
def O_path__0 (N : Nat) (x1 : Int32) (x2 : Int32) (x3 : Int32) (x4 : Int32) (S : rS) : Prop := (o_isHonest N S x1) ∧ (((f_isHonest N S x1) = 0 → O_path__41 N S) ∧ (¬ (f_isHonest N S x1) = 0 → ((x4 < 0 → O_path__41 N S) ∧ (¬ x4 < 0 → ((x2 < (nI 1) → O_path__41 N S) ∧ (¬ x2 < (nI 1) → (((nI 40) < x2 → O_path__41 N S) ∧ (¬ (nI 40) < x2 → (o_isThere N S (((nI 585) + ((nI 41) * x1)) + x2)) ∧ (((f_isThere N S (((nI 585) + ((nI 41) * x1)) + x2)) = 0 → O_path__41 N S) ∧ (¬ (f_isThere N S (((nI 585) + ((nI 41) * x1)) + x2)) = 0 → (o_partsOf N S (((nI 585) + ((nI 41) * x1)) + x2)) ∧ O_path__59 N x3 x4 (f_partsOf N S (((nI 585) + ((nI 41) * x1)) + x2))))))))))))
set_option maxHeartbeats 4000000 in
theorem b_path__0 {G : zG} {E : rE} {S : rS} {N : Nat} {Q : Option Value → rS → Prop} {X : Int64 × rS → Prop} (hG : zOK G) (hR : ∀ v S', X (v, S') → Q (some (.long v)) S') {x1 : Int32} {x2 : Int32} {x3 : Int32} {x4 : Int32} (ok : O_path__0 N x1 x2 x3 x4 S) (hx : X (F_path__0 N x1 x2 x3 x4 S)) : rX G E dX12_path_ mX12_path_ 0 [some (.ref E.1), some (.int x1), some (.int x2), some (.int x3), some (.int x4)] [] S Q := by
  unfold O_path__0 at ok
  unfold F_path__0 at hx
  refine r_aload_n dX12_path__0 rfl rfl ?_
  refine r_iload_n dX12_path__1 rfl rfl ?_
  refine r_V1i (y' := mX12_isHonest) dX12_path__2 lX12_155 kX12_isHonest ⟨by decide, by decide⟩ rfl (Nat.le_of_ble_eq_true rfl) (rc_X12_isHonest hG ok.1) (fun v_2 S_2 h_2 => ?_)
  obtain ⟨rfl, hS_2⟩ := h_2
  have hS_2 := hS_2.symm
  subst hS_2
  have ok := ok.2
  refine r_if_eq (tgt := 41) dX12_path__5 (by decide) (fun c_5 => ?_) (fun c_5 => ?_)
  · have ok := ok.1 c_5
    have hx := xif_p c_5 hx
    exact rX.cutz (b_path__41 hG hR ok hx) trivial
  · have ok := ok.2 c_5
    have hx := xif_n c_5 hx
    refine r_iload dX12_path__8 rfl ?_
    refine r_if_lt (tgt := 41) dX12_path__10 (by decide) (fun c_10 => ?_) (fun c_10 => ?_)
    · have ok := ok.1 c_10
      have hx := xif_p c_10 hx
      exact rX.cutz (b_path__41 hG hR ok hx) trivial
    · have ok := ok.2 c_10
      have hx := xif_n c_10 hx
      refine r_iload_n dX12_path__13 rfl rfl ?_
      refine r_iconst (v := nI 1) dX12_path__14 (by decide) ?_
      refine r_icmp_lt (tgt := 41) dX12_path__15 (by decide) (fun c_15 => ?_) (fun c_15 => ?_)
      · have ok := ok.1 c_15
        have hx := xif_p c_15 hx
        exact rX.cutz (b_path__41 hG hR ok hx) trivial
      · have ok := ok.2 c_15
        have hx := xif_n c_15 hx
        refine r_iload_n dX12_path__18 rfl rfl ?_
        refine r_bipush (v := nI 40) dX12_path__19 (by decide) ?_
        refine r_icmp_gt (tgt := 41) dX12_path__21 (by decide) (fun c_21 => ?_) (fun c_21 => ?_)
        · have ok := ok.1 c_21
          have hx := xif_p c_21 hx
          exact rX.cutz (b_path__41 hG hR ok hx) trivial
        · have ok := ok.2 c_21
          have hx := xif_n c_21 hx
          refine r_aload_n dX12_path__24 rfl rfl ?_
          refine r_sipush (v := nI 585) dX12_path__25 (by decide) ?_
          refine r_bipush (v := nI 41) dX12_path__28 (by decide) ?_
          refine r_iload_n dX12_path__30 rfl rfl ?_
          refine r_imul dX12_path__31 ?_
          refine r_iadd dX12_path__32 ?_
          refine r_iload_n dX12_path__33 rfl rfl ?_
          refine r_iadd dX12_path__34 ?_
          refine r_V1i (y' := mX12_isThere) dX12_path__35 lX12_63 kX12_isThere ⟨by decide, by decide⟩ rfl (Nat.le_of_ble_eq_true rfl) (rc_X12_isThere hG ok.1) (fun v_35 S_35 h_35 => ?_)
          obtain ⟨rfl, hS_35⟩ := h_35
          have hS_35 := hS_35.symm
          subst hS_35
          have ok := ok.2
          refine r_if_ne (tgt := 45) dX12_path__38 (by decide) (fun c_38 => ?_) (fun c_38 => ?_)
          · have ok := ok.2 c_38
            have hx := xif_n c_38 hx
            refine r_aload_n dX12_path__45 rfl rfl ?_
            refine r_sipush (v := nI 585) dX12_path__46 (by decide) ?_
            refine r_bipush (v := nI 41) dX12_path__49 (by decide) ?_
            refine r_iload_n dX12_path__51 rfl rfl ?_
            refine r_imul dX12_path__52 ?_
            refine r_iadd dX12_path__53 ?_
            refine r_iload_n dX12_path__54 rfl rfl ?_
            refine r_iadd dX12_path__55 ?_
            refine r_V1v (y' := mX12_partsOf) dX12_path__56 lX12_722 kX12_partsOf ⟨by decide, by decide⟩ rfl (Nat.le_of_ble_eq_true rfl) (rc_X12_partsOf hG ok.1) (fun S_56 h_56 => ?_)
            subst h_56
            have ok := ok.2
            exact rX.cutz (b_path__59 hG hR ok hx) ⟨rfl, rfl, rfl, trivial⟩
          · have ok := ok.1 c_38
            have hx := xif_p c_38 hx
            exact rX.cutz (b_path__41 hG hR ok hx) trivial
def f_path_ (N : Nat) (S : rS) (x1 : Int32) (x2 : Int32) (x3 : Int32) (x4 : Int32) : Int64 × rS := F_path__0 N x1 x2 x3 x4 S
def o_path_ (N : Nat) (S : rS) (x1 : Int32) (x2 : Int32) (x3 : Int32) (x4 : Int32) : Prop := O_path__0 N x1 x2 x3 x4 S
set_option maxHeartbeats 4000000 in
theorem rc_X12_path_ {G : zG} {E : rE} {S : rS} {N : Nat} (hG : zOK G) {x1 : Int32} {x2 : Int32} {x3 : Int32} {x4 : Int32} (ok : o_path_ N S x1 x2 x3 x4) : rCl G E dX12_path_ mX12_path_ [.ref E.1, .int x1, .int x2, .int x3, .int x4] S (fun v S' => v = (f_path_ N S x1 x2 x3 x4).1 ∧ S' = (f_path_ N S x1 x2 x3 x4).2) := by
  refine rC.ofX rfl (Nat.le_of_ble_eq_true rfl) ?_
  show rX G E dX12_path_ mX12_path_ 0 [some (.ref E.1), some (.int x1), some (.int x2), some (.int x3), some (.int x4)] [] S _
  exact rX.cutz (b_path__0 (X := fun F => F = f_path_ N S x1 x2 x3 x4) hG (fun v S' h => ⟨v, rfl, by rw [← h], by rw [← h]⟩) ok rfl) ⟨rfl, rfl, rfl, rfl, rfl, trivial⟩
/-! account -/
def F_account_77 (N : Nat) (x3 : Int32) (S : rS) : Int64 × rS := ((f_told N S x3), S)
def O_account_77 (N : Nat) (x3 : Int32) (S : rS) : Prop := (o_told N S x3) ∧ True
set_option maxHeartbeats 4000000 in
theorem b_account_77 {G : zG} {E : rE} {S : rS} {N : Nat} {Q : Option Value → rS → Prop} {X : Int64 × rS → Prop} (hG : zOK G) (hR : ∀ v S', X (v, S') → Q (some (.long v)) S') {x3 : Int32} (ok : O_account_77 N x3 S) (hx : X (F_account_77 N x3 S)) : rX G E dX12_account mX12_account 77 [some (.ref E.1), none, none, some (.int x3), none] [] S Q := by
  unfold O_account_77 at ok
  unfold F_account_77 at hx
  refine r_aload_n dX12_account_77 rfl rfl ?_
  refine r_iload_n dX12_account_78 rfl rfl ?_
  refine r_V1l (y' := mX12_told) dX12_account_79 lX12_728 kX12_told ⟨by decide, by decide⟩ rfl (Nat.le_of_ble_eq_true rfl) (rc_X12_told hG ok.1) (fun v_79 S_79 h_79 => ?_)
  obtain ⟨rfl, hS_79⟩ := h_79
  have hS_79 := hS_79.symm
  subst hS_79
  have ok := ok.2
  exact r_lreturn rfl dX12_account_82 (hR _ _ hx)
def F_account_72 (N : Nat) (x2 : Int32) (x3 : Int32) (S : rS) : Int64 × rS := (F_account_77 N x3 (f_path N S x2))
def O_account_72 (N : Nat) (x2 : Int32) (x3 : Int32) (S : rS) : Prop := (o_path N S x2) ∧ O_account_77 N x3 (f_path N S x2)
set_option maxHeartbeats 4000000 in
theorem b_account_72 {G : zG} {E : rE} {S : rS} {N : Nat} {Q : Option Value → rS → Prop} {X : Int64 × rS → Prop} (hG : zOK G) (hR : ∀ v S', X (v, S') → Q (some (.long v)) S') {x2 : Int32} {x3 : Int32} (ok : O_account_72 N x2 x3 S) (hx : X (F_account_72 N x2 x3 S)) : rX G E dX12_account mX12_account 72 [some (.ref E.1), none, some (.int x2), some (.int x3), none] [] S Q := by
  unfold O_account_72 at ok
  unfold F_account_72 at hx
  refine r_aload_n dX12_account_72 rfl rfl ?_
  refine r_iload_n dX12_account_73 rfl rfl ?_
  refine r_V1v (y' := mX12_path) dX12_account_74 lX12_725 kX12_path ⟨by decide, by decide⟩ rfl (Nat.le_of_ble_eq_true rfl) (rc_X12_path hG ok.1) (fun S_74 h_74 => ?_)
  subst h_74
  have ok := ok.2
  exact rX.cutz (b_account_77 hG hR ok hx) ⟨rfl, rfl, trivial⟩
def F_account_66 (N : Nat) (rec : Int32 → Int32 → Int32 → rS → Nat × Int32 × Int32 × rS) (x2 : Int32) (x3 : Int32) (x4 : Int32) (S : rS) : Nat × Int32 × Int32 × rS := (rec x2 x3 (x4 + nI 1) S)
def O_account_66 (N : Nat) (rok : Int32 → Int32 → Int32 → rS → Prop) (x2 : Int32) (x3 : Int32) (x4 : Int32) (S : rS) : Prop := rok x2 x3 (x4 + nI 1) S
set_option maxHeartbeats 4000000 in
theorem b_account_66 {G : zG} {E : rE} {S : rS} {N : Nat} {Q : Option Value → rS → Prop} {X : Nat × Int32 × Int32 × rS → Prop} (hG : zOK G) (hX0 : ∀ (x2 : Int32) (x3 : Int32) (S' : rS), X (0, x2, x3, S') → rX G E dX12_account mX12_account 72 [some (.ref E.1), none, some (.int x2), some (.int x3), none] [] S' Q) {rec : Int32 → Int32 → Int32 → rS → Nat × Int32 × Int32 × rS} {rok : Int32 → Int32 → Int32 → rS → Prop} (hrec : ∀ (x2 : Int32) (x3 : Int32) (x4 : Int32) (S : rS), rok x2 x3 x4 S → X (rec x2 x3 x4 S) → rX G E dX12_account mX12_account 43 [some (.ref E.1), none, some (.int x2), some (.int x3), some (.int x4)] [] S Q) {x2 : Int32} {x3 : Int32} {x4 : Int32} (ok : O_account_66 N rok x2 x3 x4 S) (hx : X (F_account_66 N rec x2 x3 x4 S)) : rX G E dX12_account mX12_account 66 [some (.ref E.1), none, some (.int x2), some (.int x3), some (.int x4)] [] S Q := by
  unfold O_account_66 at ok
  unfold F_account_66 at hx
  refine r_iinc_4 (v := (x4 + nI 1)) dX12_account_66 rfl (by first | rfl | (congr 1)) (by decide) rfl ?_
  refine r_goto (tgt := 43) dX12_account_69 (by decide) ?_
  exact rX.cutz (hrec _ _ _ S ok hx) ⟨rfl, rfl, rfl, rfl, trivial⟩
def B_account_43 (N : Nat) (rec : Int32 → Int32 → Int32 → rS → Nat × Int32 × Int32 × rS) (x2 : Int32) (x3 : Int32) (x4 : Int32) (S : rS) : Nat × Int32 × Int32 × rS := (if (nI 6) ≤ x4 then (0, x2, x3, S) else (F_account_66 N rec x2 x3 x4 (f_tell N S (S.2.1 15 (((nI 6) * x2) + x4).toNatClampNeg))))
def OB_account_43 (N : Nat) (rok : Int32 → Int32 → Int32 → rS → Prop) (x2 : Int32) (x3 : Int32) (x4 : Int32) (S : rS) : Prop := (((nI 6) ≤ x4 → True) ∧ (¬ (nI 6) ≤ x4 → (vp_in (((nI 6) * x2) + x4) 600) ∧ (o_tell N S (S.2.1 15 (((nI 6) * x2) + x4).toNatClampNeg)) ∧ O_account_66 N rok x2 x3 x4 (f_tell N S (S.2.1 15 (((nI 6) * x2) + x4).toNatClampNeg))))
set_option maxHeartbeats 4000000 in
theorem bb_account_43 {G : zG} {E : rE} {S : rS} {N : Nat} {Q : Option Value → rS → Prop} {X : Nat × Int32 × Int32 × rS → Prop} (hG : zOK G) (hX0 : ∀ (x2 : Int32) (x3 : Int32) (S' : rS), X (0, x2, x3, S') → rX G E dX12_account mX12_account 72 [some (.ref E.1), none, some (.int x2), some (.int x3), none] [] S' Q) {rec : Int32 → Int32 → Int32 → rS → Nat × Int32 × Int32 × rS} {rok : Int32 → Int32 → Int32 → rS → Prop} (hrec : ∀ (x2 : Int32) (x3 : Int32) (x4 : Int32) (S : rS), rok x2 x3 x4 S → X (rec x2 x3 x4 S) → rX G E dX12_account mX12_account 43 [some (.ref E.1), none, some (.int x2), some (.int x3), some (.int x4)] [] S Q) {x2 : Int32} {x3 : Int32} {x4 : Int32} (ok : OB_account_43 N rok x2 x3 x4 S) (hx : X (B_account_43 N rec x2 x3 x4 S)) : rX G E dX12_account mX12_account 43 [some (.ref E.1), none, some (.int x2), some (.int x3), some (.int x4)] [] S Q := by
  unfold OB_account_43 at ok
  unfold B_account_43 at hx
  refine r_iload dX12_account_43 rfl ?_
  refine r_bipush (v := nI 6) dX12_account_45 (by decide) ?_
  refine r_icmp_ge (tgt := 72) dX12_account_47 (by decide) (fun c_47 => ?_) (fun c_47 => ?_)
  · have ok := ok.1 c_47
    have hx := xif_p c_47 hx
    exact rX.cutz (hX0 _ _ S hx) ⟨rfl, rfl, rfl, trivial⟩
  · have ok := ok.2 c_47
    have hx := xif_n c_47 hx
    refine r_aload_n dX12_account_50 rfl rfl ?_
    refine r_aload_n dX12_account_51 rfl rfl ?_
    refine r_getA 15 fX12_84 (by decide) (by decide) dX12_account_52 ?_
    refine r_bipush (v := nI 6) dX12_account_55 (by decide) ?_
    refine r_iload_n dX12_account_57 rfl rfl ?_
    refine r_imul dX12_account_58 ?_
    refine r_iload dX12_account_59 rfl ?_
    refine r_iadd dX12_account_61 ?_
    refine r_iald (by decide) (by decide) dX12_account_62 ok.1 ?_
    have ok := ok.2
    refine r_V1v (y' := mX12_tell) dX12_account_63 lX12_109 kX12_tell ⟨by decide, by decide⟩ rfl (Nat.le_of_ble_eq_true rfl) (rc_X12_tell hG ok.1) (fun S_63 h_63 => ?_)
    subst h_63
    have ok := ok.2
    exact rX.cutz (b_account_66 hG hX0 hrec ok hx) ⟨rfl, rfl, rfl, rfl, trivial⟩
def L_account_43 (N : Nat) : Nat → Int32 → Int32 → Int32 → rS → Nat × Int32 × Int32 × rS
  | 0, x2, x3, x4, S => (0, 0, 0, S)
  | n + 1, x2, x3, x4, S => B_account_43 N (L_account_43 N n) x2 x3 x4 S
def OL_account_43 (N : Nat) : Nat → Int32 → Int32 → Int32 → rS → Prop
  | 0, _, _, _, _ => False
  | n + 1, x2, x3, x4, S => OB_account_43 N (OL_account_43 N n) x2 x3 x4 S
set_option maxHeartbeats 4000000 in
theorem l_account_43 {G : zG} {E : rE} {N : Nat} {Q : Option Value → rS → Prop} {X : Nat × Int32 × Int32 × rS → Prop} (hG : zOK G) (hX0 : ∀ (x2 : Int32) (x3 : Int32) (S' : rS), X (0, x2, x3, S') → rX G E dX12_account mX12_account 72 [some (.ref E.1), none, some (.int x2), some (.int x3), none] [] S' Q) : ∀ (n : Nat) (x2 : Int32) (x3 : Int32) (x4 : Int32) (S : rS), OL_account_43 N n x2 x3 x4 S → X (L_account_43 N n x2 x3 x4 S) → rX G E dX12_account mX12_account 43 [some (.ref E.1), none, some (.int x2), some (.int x3), some (.int x4)] [] S Q := by
  intro n
  induction n with
  | zero => intro x2 x3 x4 S ok; exact absurd ok id
  | succ n ih =>
    intro x2 x3 x4 S ok hx
    exact bb_account_43 hG hX0 (rec := L_account_43 N n) (rok := OL_account_43 N n) (fun x2 x3 x4 S ok hx => ih x2 x3 x4 S ok hx) ok hx
def A_account_43 (N : Nat) (x2 : Int32) (x3 : Int32) (x4 : Int32) (S : rS) (z : Nat × Int32 × Int32 × rS) : Int64 × rS := (F_account_72 N (z.2.1) (z.2.2.1) z.2.2.2)
def OA_account_43 (N : Nat) (x2 : Int32) (x3 : Int32) (x4 : Int32) (S : rS) (z : Nat × Int32 × Int32 × rS) : Prop := O_account_72 N (z.2.1) (z.2.2.1) z.2.2.2
set_option maxHeartbeats 4000000 in
theorem c_account_43 {G : zG} {E : rE} {S : rS} {N : Nat} {Q : Option Value → rS → Prop} {X : Int64 × rS → Prop} (hG : zOK G) (hR : ∀ v S', X (v, S') → Q (some (.long v)) S') {x2 : Int32} {x3 : Int32} {x4 : Int32} (ok : OL_account_43 N N x2 x3 x4 S ∧ OA_account_43 N x2 x3 x4 S (L_account_43 N N x2 x3 x4 S)) (hx : X (A_account_43 N x2 x3 x4 S (L_account_43 N N x2 x3 x4 S))) : rX G E dX12_account mX12_account 43 [some (.ref E.1), none, some (.int x2), some (.int x3), some (.int x4)] [] S Q := by
  refine l_account_43 hG ?_ N x2 x3 x4 S ok.1 (X := fun z => OA_account_43 N x2 x3 x4 S z ∧ X (A_account_43 N x2 x3 x4 S z)) ⟨ok.2, hx⟩
  · intro x2' x3' S' hz
    obtain ⟨ok, hx⟩ := hz
    unfold OA_account_43 at ok
    unfold A_account_43 at hx
    exact rX.cutz (b_account_72 hG hR ok hx) ⟨rfl, rfl, rfl, trivial⟩
def F_account_35 (N : Nat) (x2 : Int32) (x3 : Int32) (S : rS) : Int64 × rS := (A_account_43 N x2 x3 (nI 0) (rsI S 20 (nI 0)) (L_account_43 N N x2 x3 (nI 0) (rsI S 20 (nI 0))))
def O_account_35 (N : Nat) (x2 : Int32) (x3 : Int32) (S : rS) : Prop := (OL_account_43 N N x2 x3 (nI 0) (rsI S 20 (nI 0)) ∧ OA_account_43 N x2 x3 (nI 0) (rsI S 20 (nI 0)) (L_account_43 N N x2 x3 (nI 0) (rsI S 20 (nI 0))))
set_option maxHeartbeats 4000000 in
theorem b_account_35 {G : zG} {E : rE} {S : rS} {N : Nat} {Q : Option Value → rS → Prop} {X : Int64 × rS → Prop} (hG : zOK G) (hR : ∀ v S', X (v, S') → Q (some (.long v)) S') {x2 : Int32} {x3 : Int32} (ok : O_account_35 N x2 x3 S) (hx : X (F_account_35 N x2 x3 S)) : rX G E dX12_account mX12_account 35 [some (.ref E.1), none, some (.int x2), some (.int x3), none] [] S Q := by
  unfold O_account_35 at ok
  unfold F_account_35 at hx
  refine r_aload_n dX12_account_35 rfl rfl ?_
  refine r_iconst (v := nI 0) dX12_account_36 (by decide) ?_
  refine r_putI 20 fX12_106 (by decide) (by decide) rfl rfl rfl dX12_account_37 ?_
  refine r_iconst (v := nI 0) dX12_account_40 (by decide) ?_
  refine r_istore_4 dX12_account_41 (by decide) rfl ?_
  exact rX.cutz (c_account_43 hG hR ok hx) ⟨rfl, rfl, rfl, rfl, trivial⟩
def F_account_31 (N : Nat) (x2 : Int32) (x3 : Int32) (S : rS) : Int64 × rS := (F_account_35 N x2 x3 (f_accountParts N S))
def O_account_31 (N : Nat) (x2 : Int32) (x3 : Int32) (S : rS) : Prop := (o_accountParts N S) ∧ O_account_35 N x2 x3 (f_accountParts N S)
set_option maxHeartbeats 4000000 in
theorem b_account_31 {G : zG} {E : rE} {S : rS} {N : Nat} {Q : Option Value → rS → Prop} {X : Int64 × rS → Prop} (hG : zOK G) (hR : ∀ v S', X (v, S') → Q (some (.long v)) S') {x2 : Int32} {x3 : Int32} (ok : O_account_31 N x2 x3 S) (hx : X (F_account_31 N x2 x3 S)) : rX G E dX12_account mX12_account 31 [some (.ref E.1), none, some (.int x2), some (.int x3), none] [] S Q := by
  unfold O_account_31 at ok
  unfold F_account_31 at hx
  refine r_aload_n dX12_account_31 rfl rfl ?_
  refine r_V0v (y' := mX12_accountParts) dX12_account_32 lX12_557 kX12_accountParts ⟨by decide, by decide⟩ rfl (Nat.le_of_ble_eq_true rfl) (rc_X12_accountParts hG ok.1) (fun S_32 h_32 => ?_)
  subst h_32
  have ok := ok.2
  exact rX.cutz (b_account_35 hG hR ok hx) ⟨rfl, rfl, rfl, trivial⟩
def F_account_22 (N : Nat)  (S : rS) : Int64 × rS := ((-1 : Int64), S)
def O_account_22 (N : Nat)  (S : rS) : Prop := True
set_option maxHeartbeats 4000000 in
theorem b_account_22 {G : zG} {E : rE} {S : rS} {N : Nat} {Q : Option Value → rS → Prop} {X : Int64 × rS → Prop} (hG : zOK G) (hR : ∀ v S', X (v, S') → Q (some (.long v)) S') (ok : O_account_22 N S) (hx : X (F_account_22 N S)) : rX G E dX12_account mX12_account 22 [none, none, none, none, none] [] S Q := by
  unfold O_account_22 at ok
  unfold F_account_22 at hx
  refine r_ldc2 dX12_account_22 nX12_55 ?_
  exact r_lreturn rfl dX12_account_25 (hR _ _ hx)
def F_account_0 (N : Nat) (x1 : Int32) (x2 : Int32) (x3 : Int32) (S : rS) : Int64 × rS := (if (f_isHonest N S x1) = 0 then (F_account_22 N S) else (if x2 < 0 then (F_account_22 N S) else (if (nI 15) < x2 then (F_account_22 N S) else (if 0 ≤ x3 then (F_account_31 N x2 x3 (f_reckon N S x1)) else (F_account_22 N S)))))
def O_account_0 (N : Nat) (x1 : Int32) (x2 : Int32) (x3 : Int32) (S : rS) : Prop := (o_isHonest N S x1) ∧ (((f_isHonest N S x1) = 0 → O_account_22 N S) ∧ (¬ (f_isHonest N S x1) = 0 → ((x2 < 0 → O_account_22 N S) ∧ (¬ x2 < 0 → (((nI 15) < x2 → O_account_22 N S) ∧ (¬ (nI 15) < x2 → ((0 ≤ x3 → (o_reckon N S x1) ∧ O_account_31 N x2 x3 (f_reckon N S x1)) ∧ (¬ 0 ≤ x3 → O_account_22 N S))))))))
set_option maxHeartbeats 4000000 in
theorem b_account_0 {G : zG} {E : rE} {S : rS} {N : Nat} {Q : Option Value → rS → Prop} {X : Int64 × rS → Prop} (hG : zOK G) (hR : ∀ v S', X (v, S') → Q (some (.long v)) S') {x1 : Int32} {x2 : Int32} {x3 : Int32} (ok : O_account_0 N x1 x2 x3 S) (hx : X (F_account_0 N x1 x2 x3 S)) : rX G E dX12_account mX12_account 0 [some (.ref E.1), some (.int x1), some (.int x2), some (.int x3), none] [] S Q := by
  unfold O_account_0 at ok
  unfold F_account_0 at hx
  refine r_aload_n dX12_account_0 rfl rfl ?_
  refine r_iload_n dX12_account_1 rfl rfl ?_
  refine r_V1i (y' := mX12_isHonest) dX12_account_2 lX12_155 kX12_isHonest ⟨by decide, by decide⟩ rfl (Nat.le_of_ble_eq_true rfl) (rc_X12_isHonest hG ok.1) (fun v_2 S_2 h_2 => ?_)
  obtain ⟨rfl, hS_2⟩ := h_2
  have hS_2 := hS_2.symm
  subst hS_2
  have ok := ok.2
  refine r_if_eq (tgt := 22) dX12_account_5 (by decide) (fun c_5 => ?_) (fun c_5 => ?_)
  · have ok := ok.1 c_5
    have hx := xif_p c_5 hx
    exact rX.cutz (b_account_22 hG hR ok hx) trivial
  · have ok := ok.2 c_5
    have hx := xif_n c_5 hx
    refine r_iload_n dX12_account_8 rfl rfl ?_
    refine r_if_lt (tgt := 22) dX12_account_9 (by decide) (fun c_9 => ?_) (fun c_9 => ?_)
    · have ok := ok.1 c_9
      have hx := xif_p c_9 hx
      exact rX.cutz (b_account_22 hG hR ok hx) trivial
    · have ok := ok.2 c_9
      have hx := xif_n c_9 hx
      refine r_iload_n dX12_account_12 rfl rfl ?_
      refine r_bipush (v := nI 15) dX12_account_13 (by decide) ?_
      refine r_icmp_gt (tgt := 22) dX12_account_15 (by decide) (fun c_15 => ?_) (fun c_15 => ?_)
      · have ok := ok.1 c_15
        have hx := xif_p c_15 hx
        exact rX.cutz (b_account_22 hG hR ok hx) trivial
      · have ok := ok.2 c_15
        have hx := xif_n c_15 hx
        refine r_iload_n dX12_account_18 rfl rfl ?_
        refine r_if_ge (tgt := 26) dX12_account_19 (by decide) (fun c_19 => ?_) (fun c_19 => ?_)
        · have ok := ok.1 c_19
          have hx := xif_p c_19 hx
          refine r_aload_n dX12_account_26 rfl rfl ?_
          refine r_iload_n dX12_account_27 rfl rfl ?_
          refine r_V1v (y' := mX12_reckon) dX12_account_28 lX12_161 kX12_reckon ⟨by decide, by decide⟩ rfl (Nat.le_of_ble_eq_true rfl) (rc_X12_reckon hG ok.1) (fun S_28 h_28 => ?_)
          subst h_28
          have ok := ok.2
          exact rX.cutz (b_account_31 hG hR ok hx) ⟨rfl, rfl, rfl, trivial⟩
        · have ok := ok.2 c_19
          have hx := xif_n c_19 hx
          exact rX.cutz (b_account_22 hG hR ok hx) trivial
def f_account (N : Nat) (S : rS) (x1 : Int32) (x2 : Int32) (x3 : Int32) : Int64 × rS := F_account_0 N x1 x2 x3 S
def o_account (N : Nat) (S : rS) (x1 : Int32) (x2 : Int32) (x3 : Int32) : Prop := O_account_0 N x1 x2 x3 S
set_option maxHeartbeats 4000000 in
theorem rc_X12_account {G : zG} {E : rE} {S : rS} {N : Nat} (hG : zOK G) {x1 : Int32} {x2 : Int32} {x3 : Int32} (ok : o_account N S x1 x2 x3) : rCl G E dX12_account mX12_account [.ref E.1, .int x1, .int x2, .int x3] S (fun v S' => v = (f_account N S x1 x2 x3).1 ∧ S' = (f_account N S x1 x2 x3).2) := by
  refine rC.ofX rfl (Nat.le_of_ble_eq_true rfl) ?_
  show rX G E dX12_account mX12_account 0 [some (.ref E.1), some (.int x1), some (.int x2), some (.int x3), none] [] S _
  exact rX.cutz (b_account_0 (X := fun F => F = f_account N S x1 x2 x3) hG (fun v S' h => ⟨v, rfl, by rw [← h], by rw [← h]⟩) ok rfl) ⟨rfl, rfl, rfl, rfl, trivial⟩
/-! sector -/
def F_sector_124 (N : Nat) (x4 : Int64) (S : rS) : Int64 := x4
def O_sector_124 (N : Nat) (x4 : Int64) (S : rS) : Prop := True
set_option maxHeartbeats 4000000 in
theorem b_sector_124 {G : zG} {E : rE} {S : rS} {N : Nat} {Q : Option Value → rS → Prop} {X : Int64 → Prop} (hG : zOK G) (hR : ∀ v, X v → Q (some (.long v)) S) {x4 : Int64} (ok : O_sector_124 N x4 S) (hx : X (F_sector_124 N x4 S)) : rX G E dX12_sector mX12_sector 124 [none, none, none, none, some (.long x4), none, none] [] S Q := by
  unfold O_sector_124 at ok
  unfold F_sector_124 at hx
  refine r_lload dX12_sector_124 rfl ?_
  exact r_lreturn rfl dX12_sector_126 (hR _ hx)
def F_sector_114 (N : Nat) (rec : Int32 → Int32 → Int32 → Int64 → Int32 → Nat × Int64 × Unit) (x1 : Int32) (x2 : Int32) (x3 : Int32) (x6 : Int32) (s0 : Int64) (s1 : Int32) (S : rS) : Nat × Int64 × Unit := (rec x1 x2 x3 (s0 ||| (Int32.toInt64 s1)) (x6 + nI 1))
def O_sector_114 (N : Nat) (rok : Int32 → Int32 → Int32 → Int64 → Int32 → Prop) (x1 : Int32) (x2 : Int32) (x3 : Int32) (x6 : Int32) (s0 : Int64) (s1 : Int32) (S : rS) : Prop := rok x1 x2 x3 (s0 ||| (Int32.toInt64 s1)) (x6 + nI 1)
set_option maxHeartbeats 4000000 in
theorem b_sector_114 {G : zG} {E : rE} {S : rS} {N : Nat} {Q : Option Value → rS → Prop} {X : Nat × Int64 × Unit → Prop} (hG : zOK G) (hX0 : ∀ (x4 : Int64) , X (0, x4, ()) → rX G E dX12_sector mX12_sector 124 [none, none, none, none, some (.long x4), none, none] [] S Q) {rec : Int32 → Int32 → Int32 → Int64 → Int32 → Nat × Int64 × Unit} {rok : Int32 → Int32 → Int32 → Int64 → Int32 → Prop} (hrec : ∀ (x1 : Int32) (x2 : Int32) (x3 : Int32) (x4 : Int64) (x6 : Int32), rok x1 x2 x3 x4 x6 → X (rec x1 x2 x3 x4 x6) → rX G E dX12_sector mX12_sector 48 [some (.ref E.1), some (.int x1), some (.int x2), some (.int x3), some (.long x4), none, some (.int x6)] [] S Q) {x1 : Int32} {x2 : Int32} {x3 : Int32} {x6 : Int32} {s0 : Int64} {s1 : Int32} (ok : O_sector_114 N rok x1 x2 x3 x6 s0 s1 S) (hx : X (F_sector_114 N rec x1 x2 x3 x6 s0 s1 S)) : rX G E dX12_sector mX12_sector 114 [some (.ref E.1), some (.int x1), some (.int x2), some (.int x3), none, none, some (.int x6)] [.int s1, .long s0] S Q := by
  unfold O_sector_114 at ok
  unfold F_sector_114 at hx
  refine r_i2l dX12_sector_114 ?_
  refine r_lor dX12_sector_115 ?_
  refine r_lstore_4 dX12_sector_116 (by decide) rfl ?_
  refine r_iinc_6 (v := (x6 + nI 1)) dX12_sector_118 rfl (by first | rfl | (congr 1)) (by decide) rfl ?_
  refine r_goto (tgt := 48) dX12_sector_121 (by decide) ?_
  exact rX.cutz (hrec _ _ _ _ _ ok hx) ⟨rfl, rfl, rfl, rfl, rfl, rfl, trivial⟩
def F_sector_113 (N : Nat) (rec : Int32 → Int32 → Int32 → Int64 → Int32 → Nat × Int64 × Unit) (x1 : Int32) (x2 : Int32) (x3 : Int32) (x6 : Int32) (s0 : Int64) (S : rS) : Nat × Int64 × Unit := (F_sector_114 N rec x1 x2 x3 x6 s0 (nI 0) S)
def O_sector_113 (N : Nat) (rok : Int32 → Int32 → Int32 → Int64 → Int32 → Prop) (x1 : Int32) (x2 : Int32) (x3 : Int32) (x6 : Int32) (s0 : Int64) (S : rS) : Prop := O_sector_114 N rok x1 x2 x3 x6 s0 (nI 0) S
set_option maxHeartbeats 4000000 in
theorem b_sector_113 {G : zG} {E : rE} {S : rS} {N : Nat} {Q : Option Value → rS → Prop} {X : Nat × Int64 × Unit → Prop} (hG : zOK G) (hX0 : ∀ (x4 : Int64) , X (0, x4, ()) → rX G E dX12_sector mX12_sector 124 [none, none, none, none, some (.long x4), none, none] [] S Q) {rec : Int32 → Int32 → Int32 → Int64 → Int32 → Nat × Int64 × Unit} {rok : Int32 → Int32 → Int32 → Int64 → Int32 → Prop} (hrec : ∀ (x1 : Int32) (x2 : Int32) (x3 : Int32) (x4 : Int64) (x6 : Int32), rok x1 x2 x3 x4 x6 → X (rec x1 x2 x3 x4 x6) → rX G E dX12_sector mX12_sector 48 [some (.ref E.1), some (.int x1), some (.int x2), some (.int x3), some (.long x4), none, some (.int x6)] [] S Q) {x1 : Int32} {x2 : Int32} {x3 : Int32} {x6 : Int32} {s0 : Int64} (ok : O_sector_113 N rok x1 x2 x3 x6 s0 S) (hx : X (F_sector_113 N rec x1 x2 x3 x6 s0 S)) : rX G E dX12_sector mX12_sector 113 [some (.ref E.1), some (.int x1), some (.int x2), some (.int x3), none, none, some (.int x6)] [.long s0] S Q := by
  unfold O_sector_113 at ok
  unfold F_sector_113 at hx
  refine r_iconst (v := nI 0) dX12_sector_113 (by decide) ?_
  exact rX.cutz (b_sector_114 hG hX0 hrec ok hx) ⟨rfl, rfl, rfl, rfl, rfl, trivial⟩
def B_sector_48 (N : Nat) (rec : Int32 → Int32 → Int32 → Int64 → Int32 → Nat × Int64 × Unit) (x1 : Int32) (x2 : Int32) (x3 : Int32) (x4 : Int64) (x6 : Int32) (S : rS) : Nat × Int64 × Unit := (if (nI 8) ≤ x6 then (0, x4, ()) else (if (nI 512) ≤ x3 then (F_sector_113 N rec x1 x2 x3 x6 (x4 <<< (Int32.toInt64 (nI 8) &&& 63)) S) else (if ((nI 512) - x3) ≤ x6 then (F_sector_113 N rec x1 x2 x3 x6 (x4 <<< (Int32.toInt64 (nI 8) &&& 63)) S) else (F_sector_114 N rec x1 x2 x3 x6 (x4 <<< (Int32.toInt64 (nI 8) &&& 63)) (f_byteIn N S (S.2.2 73 (((nI 64) * (((nI 284) * x1) + x2)) + ((x3 + x6) / (nI 8))).toNatClampNeg) ((x3 + x6) - (x3 + x6) / (nI 8) * (nI 8))) S))))
def OB_sector_48 (N : Nat) (rok : Int32 → Int32 → Int32 → Int64 → Int32 → Prop) (x1 : Int32) (x2 : Int32) (x3 : Int32) (x4 : Int64) (x6 : Int32) (S : rS) : Prop := (((nI 8) ≤ x6 → True) ∧ (¬ (nI 8) ≤ x6 → (((nI 512) ≤ x3 → O_sector_113 N rok x1 x2 x3 x6 (x4 <<< (Int32.toInt64 (nI 8) &&& 63)) S) ∧ (¬ (nI 512) ≤ x3 → ((((nI 512) - x3) ≤ x6 → O_sector_113 N rok x1 x2 x3 x6 (x4 <<< (Int32.toInt64 (nI 8) &&& 63)) S) ∧ (¬ ((nI 512) - x3) ≤ x6 → (vp_in (((nI 64) * (((nI 284) * x1) + x2)) + ((x3 + x6) / (nI 8))) 236288) ∧ (o_byteIn N S (S.2.2 73 (((nI 64) * (((nI 284) * x1) + x2)) + ((x3 + x6) / (nI 8))).toNatClampNeg) ((x3 + x6) - (x3 + x6) / (nI 8) * (nI 8))) ∧ O_sector_114 N rok x1 x2 x3 x6 (x4 <<< (Int32.toInt64 (nI 8) &&& 63)) (f_byteIn N S (S.2.2 73 (((nI 64) * (((nI 284) * x1) + x2)) + ((x3 + x6) / (nI 8))).toNatClampNeg) ((x3 + x6) - (x3 + x6) / (nI 8) * (nI 8))) S))))))
set_option maxHeartbeats 4000000 in
theorem bb_sector_48 {G : zG} {E : rE} {S : rS} {N : Nat} {Q : Option Value → rS → Prop} {X : Nat × Int64 × Unit → Prop} (hG : zOK G) (hX0 : ∀ (x4 : Int64) , X (0, x4, ()) → rX G E dX12_sector mX12_sector 124 [none, none, none, none, some (.long x4), none, none] [] S Q) {rec : Int32 → Int32 → Int32 → Int64 → Int32 → Nat × Int64 × Unit} {rok : Int32 → Int32 → Int32 → Int64 → Int32 → Prop} (hrec : ∀ (x1 : Int32) (x2 : Int32) (x3 : Int32) (x4 : Int64) (x6 : Int32), rok x1 x2 x3 x4 x6 → X (rec x1 x2 x3 x4 x6) → rX G E dX12_sector mX12_sector 48 [some (.ref E.1), some (.int x1), some (.int x2), some (.int x3), some (.long x4), none, some (.int x6)] [] S Q) {x1 : Int32} {x2 : Int32} {x3 : Int32} {x4 : Int64} {x6 : Int32} (ok : OB_sector_48 N rok x1 x2 x3 x4 x6 S) (hx : X (B_sector_48 N rec x1 x2 x3 x4 x6 S)) : rX G E dX12_sector mX12_sector 48 [some (.ref E.1), some (.int x1), some (.int x2), some (.int x3), some (.long x4), none, some (.int x6)] [] S Q := by
  unfold OB_sector_48 at ok
  unfold B_sector_48 at hx
  refine r_iload dX12_sector_48 rfl ?_
  refine r_bipush (v := nI 8) dX12_sector_50 (by decide) ?_
  refine r_icmp_ge (tgt := 124) dX12_sector_52 (by decide) (fun c_52 => ?_) (fun c_52 => ?_)
  · have ok := ok.1 c_52
    have hx := xif_p c_52 hx
    exact rX.cutz (hX0 _  hx) ⟨rfl, trivial⟩
  · have ok := ok.2 c_52
    have hx := xif_n c_52 hx
    refine r_lload dX12_sector_55 rfl ?_
    refine r_bipush (v := nI 8) dX12_sector_57 (by decide) ?_
    refine r_lshl dX12_sector_59 ?_
    refine r_iload_n dX12_sector_60 rfl rfl ?_
    refine r_sipush (v := nI 512) dX12_sector_61 (by decide) ?_
    refine r_icmp_ge (tgt := 113) dX12_sector_64 (by decide) (fun c_64 => ?_) (fun c_64 => ?_)
    · have ok := ok.1 c_64
      have hx := xif_p c_64 hx
      exact rX.cutz (b_sector_113 hG hX0 hrec ok hx) ⟨rfl, rfl, rfl, rfl, rfl, trivial⟩
    · have ok := ok.2 c_64
      have hx := xif_n c_64 hx
      refine r_iload dX12_sector_67 rfl ?_
      refine r_sipush (v := nI 512) dX12_sector_69 (by decide) ?_
      refine r_iload_n dX12_sector_72 rfl rfl ?_
      refine r_isub dX12_sector_73 ?_
      refine r_icmp_ge (tgt := 113) dX12_sector_74 (by decide) (fun c_74 => ?_) (fun c_74 => ?_)
      · have ok := ok.1 c_74
        have hx := xif_p c_74 hx
        exact rX.cutz (b_sector_113 hG hX0 hrec ok hx) ⟨rfl, rfl, rfl, rfl, rfl, trivial⟩
      · have ok := ok.2 c_74
        have hx := xif_n c_74 hx
        refine r_aload_n dX12_sector_77 rfl rfl ?_
        refine r_getA 73 fX12_394 (by decide) (by decide) dX12_sector_78 ?_
        refine r_bipush (v := nI 64) dX12_sector_81 (by decide) ?_
        refine r_sipush (v := nI 284) dX12_sector_83 (by decide) ?_
        refine r_iload_n dX12_sector_86 rfl rfl ?_
        refine r_imul dX12_sector_87 ?_
        refine r_iload_n dX12_sector_88 rfl rfl ?_
        refine r_iadd dX12_sector_89 ?_
        refine r_imul dX12_sector_90 ?_
        refine r_iload_n dX12_sector_91 rfl rfl ?_
        refine r_iload dX12_sector_92 rfl ?_
        refine r_iadd dX12_sector_94 ?_
        refine r_bipush (v := nI 8) dX12_sector_95 (by decide) ?_
        refine r_idiv dX12_sector_97 (by decide) ?_
        refine r_iadd dX12_sector_98 ?_
        refine r_lald (by decide) (by decide) dX12_sector_99 ok.1 ?_
        have ok := ok.2
        refine r_iload_n dX12_sector_100 rfl rfl ?_
        refine r_iload dX12_sector_101 rfl ?_
        refine r_iadd dX12_sector_103 ?_
        refine r_bipush (v := nI 8) dX12_sector_104 (by decide) ?_
        refine r_irem dX12_sector_106 (by decide) ?_
        refine r_S2i (y' := mX12_byteIn) dX12_sector_107 lX12_49 kX12_byteIn ⟨by decide, by decide⟩ (Nat.le_of_ble_eq_true rfl) (rc_X12_byteIn hG ok.1) (fun v_107 S_107 h_107 => ?_)
        obtain ⟨rfl, hS_107⟩ := h_107
        have hS_107 := hS_107.symm
        subst hS_107
        have ok := ok.2
        refine r_goto (tgt := 114) dX12_sector_110 (by decide) ?_
        exact rX.cutz (b_sector_114 hG hX0 hrec ok hx) ⟨rfl, rfl, rfl, rfl, rfl, trivial⟩
def L_sector_48 (N : Nat) : Nat → Int32 → Int32 → Int32 → Int64 → Int32 → rS → Nat × Int64 × Unit
  | 0, x1, x2, x3, x4, x6, S => (0, 0, ())
  | n + 1, x1, x2, x3, x4, x6, S => B_sector_48 N (fun x1 x2 x3 x4 x6 => L_sector_48 N n x1 x2 x3 x4 x6 S) x1 x2 x3 x4 x6 S
def OL_sector_48 (N : Nat) : Nat → Int32 → Int32 → Int32 → Int64 → Int32 → rS → Prop
  | 0, _, _, _, _, _, _ => False
  | n + 1, x1, x2, x3, x4, x6, S => OB_sector_48 N (fun x1 x2 x3 x4 x6 => OL_sector_48 N n x1 x2 x3 x4 x6 S) x1 x2 x3 x4 x6 S
set_option maxHeartbeats 4000000 in
theorem l_sector_48 {G : zG} {E : rE} {S : rS} {N : Nat} {Q : Option Value → rS → Prop} {X : Nat × Int64 × Unit → Prop} (hG : zOK G) (hX0 : ∀ (x4 : Int64) , X (0, x4, ()) → rX G E dX12_sector mX12_sector 124 [none, none, none, none, some (.long x4), none, none] [] S Q) : ∀ (n : Nat) (x1 : Int32) (x2 : Int32) (x3 : Int32) (x4 : Int64) (x6 : Int32) , OL_sector_48 N n x1 x2 x3 x4 x6 S → X (L_sector_48 N n x1 x2 x3 x4 x6 S) → rX G E dX12_sector mX12_sector 48 [some (.ref E.1), some (.int x1), some (.int x2), some (.int x3), some (.long x4), none, some (.int x6)] [] S Q := by
  intro n
  induction n with
  | zero => intro x1 x2 x3 x4 x6 ok; exact absurd ok id
  | succ n ih =>
    intro x1 x2 x3 x4 x6 ok hx
    exact bb_sector_48 hG hX0 (rec := fun x1 x2 x3 x4 x6 => L_sector_48 N n x1 x2 x3 x4 x6 S) (rok := fun x1 x2 x3 x4 x6 => OL_sector_48 N n x1 x2 x3 x4 x6 S) (fun x1 x2 x3 x4 x6 ok hx => ih x1 x2 x3 x4 x6 ok hx) ok hx
def A_sector_48 (N : Nat) (x1 : Int32) (x2 : Int32) (x3 : Int32) (x4 : Int64) (x6 : Int32) (S : rS) (z : Nat × Int64 × Unit) : Int64 := (F_sector_124 N (z.2.1) S)
def OA_sector_48 (N : Nat) (x1 : Int32) (x2 : Int32) (x3 : Int32) (x4 : Int64) (x6 : Int32) (S : rS) (z : Nat × Int64 × Unit) : Prop := O_sector_124 N (z.2.1) S
set_option maxHeartbeats 4000000 in
theorem c_sector_48 {G : zG} {E : rE} {S : rS} {N : Nat} {Q : Option Value → rS → Prop} {X : Int64 → Prop} (hG : zOK G) (hR : ∀ v, X v → Q (some (.long v)) S) {x1 : Int32} {x2 : Int32} {x3 : Int32} {x4 : Int64} {x6 : Int32} (ok : OL_sector_48 N N x1 x2 x3 x4 x6 S ∧ OA_sector_48 N x1 x2 x3 x4 x6 S (L_sector_48 N N x1 x2 x3 x4 x6 S)) (hx : X (A_sector_48 N x1 x2 x3 x4 x6 S (L_sector_48 N N x1 x2 x3 x4 x6 S))) : rX G E dX12_sector mX12_sector 48 [some (.ref E.1), some (.int x1), some (.int x2), some (.int x3), some (.long x4), none, some (.int x6)] [] S Q := by
  refine l_sector_48 hG ?_ N x1 x2 x3 x4 x6 ok.1 (X := fun z => OA_sector_48 N x1 x2 x3 x4 x6 S z ∧ X (A_sector_48 N x1 x2 x3 x4 x6 S z)) ⟨ok.2, hx⟩
  · intro x4' hz
    obtain ⟨ok, hx⟩ := hz
    unfold OA_sector_48 at ok
    unfold A_sector_48 at hx
    exact rX.cutz (b_sector_124 hG hR ok hx) ⟨rfl, trivial⟩
def F_sector_38 (N : Nat)  (S : rS) : Int64 := (-1 : Int64)
def O_sector_38 (N : Nat)  (S : rS) : Prop := True
set_option maxHeartbeats 4000000 in
theorem b_sector_38 {G : zG} {E : rE} {S : rS} {N : Nat} {Q : Option Value → rS → Prop} {X : Int64 → Prop} (hG : zOK G) (hR : ∀ v, X v → Q (some (.long v)) S) (ok : O_sector_38 N S) (hx : X (F_sector_38 N S)) : rX G E dX12_sector mX12_sector 38 [none, none, none, none, none, none, none] [] S Q := by
  unfold O_sector_38 at ok
  unfold F_sector_38 at hx
  refine r_ldc2 dX12_sector_38 nX12_55 ?_
  exact r_lreturn rfl dX12_sector_41 (hR _ hx)
def F_sector_0 (N : Nat) (x1 : Int32) (x2 : Int32) (x3 : Int32) (S : rS) : Int64 := (if (f_isHonest N S x1) = 0 then (F_sector_38 N S) else (if x2 < 0 then (F_sector_38 N S) else (if (nI 284) ≤ x2 then (F_sector_38 N S) else (if x3 < 0 then (F_sector_38 N S) else (if (S.2.1 74 (((nI 284) * x1) + x2).toNatClampNeg) = 0 then (F_sector_38 N S) else (A_sector_48 N x1 x2 x3 (0 : Int64) (nI 0) S (L_sector_48 N N x1 x2 x3 (0 : Int64) (nI 0) S)))))))
def O_sector_0 (N : Nat) (x1 : Int32) (x2 : Int32) (x3 : Int32) (S : rS) : Prop := (o_isHonest N S x1) ∧ (((f_isHonest N S x1) = 0 → O_sector_38 N S) ∧ (¬ (f_isHonest N S x1) = 0 → ((x2 < 0 → O_sector_38 N S) ∧ (¬ x2 < 0 → (((nI 284) ≤ x2 → O_sector_38 N S) ∧ (¬ (nI 284) ≤ x2 → ((x3 < 0 → O_sector_38 N S) ∧ (¬ x3 < 0 → (vp_in (((nI 284) * x1) + x2) 3692) ∧ (((S.2.1 74 (((nI 284) * x1) + x2).toNatClampNeg) = 0 → O_sector_38 N S) ∧ (¬ (S.2.1 74 (((nI 284) * x1) + x2).toNatClampNeg) = 0 → (OL_sector_48 N N x1 x2 x3 (0 : Int64) (nI 0) S ∧ OA_sector_48 N x1 x2 x3 (0 : Int64) (nI 0) S (L_sector_48 N N x1 x2 x3 (0 : Int64) (nI 0) S))))))))))))
set_option maxHeartbeats 4000000 in
theorem b_sector_0 {G : zG} {E : rE} {S : rS} {N : Nat} {Q : Option Value → rS → Prop} {X : Int64 → Prop} (hG : zOK G) (hR : ∀ v, X v → Q (some (.long v)) S) {x1 : Int32} {x2 : Int32} {x3 : Int32} (ok : O_sector_0 N x1 x2 x3 S) (hx : X (F_sector_0 N x1 x2 x3 S)) : rX G E dX12_sector mX12_sector 0 [some (.ref E.1), some (.int x1), some (.int x2), some (.int x3), none, none, none] [] S Q := by
  unfold O_sector_0 at ok
  unfold F_sector_0 at hx
  refine r_aload_n dX12_sector_0 rfl rfl ?_
  refine r_iload_n dX12_sector_1 rfl rfl ?_
  refine r_V1i (y' := mX12_isHonest) dX12_sector_2 lX12_155 kX12_isHonest ⟨by decide, by decide⟩ rfl (Nat.le_of_ble_eq_true rfl) (rc_X12_isHonest hG ok.1) (fun v_2 S_2 h_2 => ?_)
  obtain ⟨rfl, hS_2⟩ := h_2
  have hS_2 := hS_2.symm
  subst hS_2
  have ok := ok.2
  refine r_if_eq (tgt := 38) dX12_sector_5 (by decide) (fun c_5 => ?_) (fun c_5 => ?_)
  · have ok := ok.1 c_5
    have hx := xif_p c_5 hx
    exact rX.cutz (b_sector_38 hG hR ok hx) trivial
  · have ok := ok.2 c_5
    have hx := xif_n c_5 hx
    refine r_iload_n dX12_sector_8 rfl rfl ?_
    refine r_if_lt (tgt := 38) dX12_sector_9 (by decide) (fun c_9 => ?_) (fun c_9 => ?_)
    · have ok := ok.1 c_9
      have hx := xif_p c_9 hx
      exact rX.cutz (b_sector_38 hG hR ok hx) trivial
    · have ok := ok.2 c_9
      have hx := xif_n c_9 hx
      refine r_iload_n dX12_sector_12 rfl rfl ?_
      refine r_sipush (v := nI 284) dX12_sector_13 (by decide) ?_
      refine r_icmp_ge (tgt := 38) dX12_sector_16 (by decide) (fun c_16 => ?_) (fun c_16 => ?_)
      · have ok := ok.1 c_16
        have hx := xif_p c_16 hx
        exact rX.cutz (b_sector_38 hG hR ok hx) trivial
      · have ok := ok.2 c_16
        have hx := xif_n c_16 hx
        refine r_iload_n dX12_sector_19 rfl rfl ?_
        refine r_if_lt (tgt := 38) dX12_sector_20 (by decide) (fun c_20 => ?_) (fun c_20 => ?_)
        · have ok := ok.1 c_20
          have hx := xif_p c_20 hx
          exact rX.cutz (b_sector_38 hG hR ok hx) trivial
        · have ok := ok.2 c_20
          have hx := xif_n c_20 hx
          refine r_aload_n dX12_sector_23 rfl rfl ?_
          refine r_getA 74 fX12_397 (by decide) (by decide) dX12_sector_24 ?_
          refine r_sipush (v := nI 284) dX12_sector_27 (by decide) ?_
          refine r_iload_n dX12_sector_30 rfl rfl ?_
          refine r_imul dX12_sector_31 ?_
          refine r_iload_n dX12_sector_32 rfl rfl ?_
          refine r_iadd dX12_sector_33 ?_
          refine r_zald (by decide) (by decide) dX12_sector_34 ok.1 ?_
          have ok := ok.2
          refine r_if_ne (tgt := 42) dX12_sector_35 (by decide) (fun c_35 => ?_) (fun c_35 => ?_)
          · have ok := ok.2 c_35
            have hx := xif_n c_35 hx
            refine r_lconst (v := 0) dX12_sector_42 rfl ?_
            refine r_lstore_4 dX12_sector_43 (by decide) rfl ?_
            refine r_iconst (v := nI 0) dX12_sector_45 (by decide) ?_
            refine r_istore_6 dX12_sector_46 (by decide) rfl ?_
            exact rX.cutz (c_sector_48 hG hR ok hx) ⟨rfl, rfl, rfl, rfl, rfl, rfl, trivial⟩
          · have ok := ok.1 c_35
            have hx := xif_p c_35 hx
            exact rX.cutz (b_sector_38 hG hR ok hx) trivial
def f_sector (N : Nat) (S : rS) (x1 : Int32) (x2 : Int32) (x3 : Int32) : Int64 := F_sector_0 N x1 x2 x3 S
def o_sector (N : Nat) (S : rS) (x1 : Int32) (x2 : Int32) (x3 : Int32) : Prop := O_sector_0 N x1 x2 x3 S
set_option maxHeartbeats 4000000 in
theorem rc_X12_sector {G : zG} {E : rE} {S : rS} {N : Nat} (hG : zOK G) {x1 : Int32} {x2 : Int32} {x3 : Int32} (ok : o_sector N S x1 x2 x3) : rCl G E dX12_sector mX12_sector [.ref E.1, .int x1, .int x2, .int x3] S (fun v S' => v = f_sector N S x1 x2 x3 ∧ S' = S) := by
  refine rC.ofX rfl (Nat.le_of_ble_eq_true rfl) ?_
  show rX G E dX12_sector mX12_sector 0 [some (.ref E.1), some (.int x1), some (.int x2), some (.int x3), none, none, none] [] S _
  exact rX.cutz (b_sector_0 (X := fun F => F = f_sector N S x1 x2 x3) hG (fun v h => ⟨v, rfl, h, rfl⟩) ok rfl) ⟨rfl, rfl, rfl, rfl, trivial⟩

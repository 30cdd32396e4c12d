/-! toPool -/
def F_toPool_202 (N : Nat)  (S : rS) : Int32 × rS := ((nI 1), S)
def O_toPool_202 (N : Nat)  (S : rS) : Prop := True
set_option maxHeartbeats 4000000 in
theorem b_toPool_202 {G : zG} {E : rE} {S : rS} {N : Nat} {Q : Option Value → rS → Prop} {X : Int32 × rS → Prop} (hG : zOK G) (hR : ∀ v S', X (v, S') → Q (some (.int v)) S') (ok : O_toPool_202 N S) (hx : X (F_toPool_202 N S)) : rX G E dX12_toPool mX12_toPool 202 [none, none, none, none, none, none, none, none, none] [] S Q := by
  unfold O_toPool_202 at ok
  unfold F_toPool_202 at hx
  refine r_iconst (v := nI 1) dX12_toPool_202 (by decide) ?_
  exact r_ireturn rfl rfl dX12_toPool_203 (hR _ _ hx)
def F_toPool_176 (N : Nat) (x1 : Int32) (x6 : Int32) (x8 : Int32) (S : rS) : Int32 × rS := (F_toPool_202 N (rsA (rsA S 54 (x8 + (nI 6)).toNatClampNeg x6) 53 x1.toNatClampNeg (((rsA S 54 (x8 + (nI 6)).toNatClampNeg x6).2.1 53 x1.toNatClampNeg) + (nI 1))))
def O_toPool_176 (N : Nat) (x1 : Int32) (x6 : Int32) (x8 : Int32) (S : rS) : Prop := (vp_in (x8 + (nI 6)) 7280) ∧ (vp_in x1 13) ∧ (vp_in x1 13) ∧ O_toPool_202 N (rsA (rsA S 54 (x8 + (nI 6)).toNatClampNeg x6) 53 x1.toNatClampNeg (((rsA S 54 (x8 + (nI 6)).toNatClampNeg x6).2.1 53 x1.toNatClampNeg) + (nI 1)))
set_option maxHeartbeats 4000000 in
theorem b_toPool_176 {G : zG} {E : rE} {S : rS} {N : Nat} {Q : Option Value → rS → Prop} {X : Int32 × rS → Prop} (hG : zOK G) (hR : ∀ v S', X (v, S') → Q (some (.int v)) S') {x1 : Int32} {x6 : Int32} {x8 : Int32} (ok : O_toPool_176 N x1 x6 x8 S) (hx : X (F_toPool_176 N x1 x6 x8 S)) : rX G E dX12_toPool mX12_toPool 176 [some (.ref E.1), some (.int x1), none, none, none, none, some (.int x6), none, some (.int x8)] [] S Q := by
  unfold O_toPool_176 at ok
  unfold F_toPool_176 at hx
  refine r_aload_n dX12_toPool_176 rfl rfl ?_
  refine r_getA 54 fX12_339 (by decide) (by decide) dX12_toPool_177 ?_
  refine r_iload dX12_toPool_180 rfl ?_
  refine r_bipush (v := nI 6) dX12_toPool_182 (by decide) ?_
  refine r_iadd dX12_toPool_184 ?_
  refine r_iload dX12_toPool_185 rfl ?_
  refine r_iast hG (by decide) (by decide) dX12_toPool_187 ok.1 ?_
  have ok := ok.2
  refine r_aload_n dX12_toPool_188 rfl rfl ?_
  refine r_getA 53 fX12_336 (by decide) (by decide) dX12_toPool_189 ?_
  refine r_iload_n dX12_toPool_192 rfl rfl ?_
  refine r_aload_n dX12_toPool_193 rfl rfl ?_
  refine r_getA 53 fX12_336 (by decide) (by decide) dX12_toPool_194 ?_
  refine r_iload_n dX12_toPool_197 rfl rfl ?_
  refine r_iald (by decide) (by decide) dX12_toPool_198 ok.1 ?_
  have ok := ok.2
  refine r_iconst (v := nI 1) dX12_toPool_199 (by decide) ?_
  refine r_iadd dX12_toPool_200 ?_
  refine r_iast hG (by decide) (by decide) dX12_toPool_201 ok.1 ?_
  have ok := ok.2
  exact rX.cutz (b_toPool_202 hG hR ok hx) trivial
def F_toPool_147 (N : Nat) (x1 : Int32) (x5 : Int32) (x6 : Int32) (x8 : Int32) (S : rS) : Int32 × rS := (F_toPool_176 N x1 x6 x8 (rsA (rsA S 54 (x8 + (nI 4)).toNatClampNeg (x5 >>> ((nI 8) &&& 31))) 54 (x8 + (nI 5)).toNatClampNeg (x5 &&& (nI 255))))
def O_toPool_147 (N : Nat) (x1 : Int32) (x5 : Int32) (x6 : Int32) (x8 : Int32) (S : rS) : Prop := (vp_in (x8 + (nI 4)) 7280) ∧ (vp_in (x8 + (nI 5)) 7280) ∧ O_toPool_176 N x1 x6 x8 (rsA (rsA S 54 (x8 + (nI 4)).toNatClampNeg (x5 >>> ((nI 8) &&& 31))) 54 (x8 + (nI 5)).toNatClampNeg (x5 &&& (nI 255)))
set_option maxHeartbeats 4000000 in
theorem b_toPool_147 {G : zG} {E : rE} {S : rS} {N : Nat} {Q : Option Value → rS → Prop} {X : Int32 × rS → Prop} (hG : zOK G) (hR : ∀ v S', X (v, S') → Q (some (.int v)) S') {x1 : Int32} {x5 : Int32} {x6 : Int32} {x8 : Int32} (ok : O_toPool_147 N x1 x5 x6 x8 S) (hx : X (F_toPool_147 N x1 x5 x6 x8 S)) : rX G E dX12_toPool mX12_toPool 147 [some (.ref E.1), some (.int x1), none, none, none, some (.int x5), some (.int x6), none, some (.int x8)] [] S Q := by
  unfold O_toPool_147 at ok
  unfold F_toPool_147 at hx
  refine r_aload_n dX12_toPool_147 rfl rfl ?_
  refine r_getA 54 fX12_339 (by decide) (by decide) dX12_toPool_148 ?_
  refine r_iload dX12_toPool_151 rfl ?_
  refine r_iconst (v := nI 4) dX12_toPool_153 (by decide) ?_
  refine r_iadd dX12_toPool_154 ?_
  refine r_iload dX12_toPool_155 rfl ?_
  refine r_bipush (v := nI 8) dX12_toPool_157 (by decide) ?_
  refine r_ishr dX12_toPool_159 ?_
  refine r_iast hG (by decide) (by decide) dX12_toPool_160 ok.1 ?_
  have ok := ok.2
  refine r_aload_n dX12_toPool_161 rfl rfl ?_
  refine r_getA 54 fX12_339 (by decide) (by decide) dX12_toPool_162 ?_
  refine r_iload dX12_toPool_165 rfl ?_
  refine r_iconst (v := nI 5) dX12_toPool_167 (by decide) ?_
  refine r_iadd dX12_toPool_168 ?_
  refine r_iload dX12_toPool_169 rfl ?_
  refine r_sipush (v := nI 255) dX12_toPool_171 (by decide) ?_
  refine r_iand dX12_toPool_174 ?_
  refine r_iast hG (by decide) (by decide) dX12_toPool_175 ok.1 ?_
  have ok := ok.2
  exact rX.cutz (b_toPool_176 hG hR ok hx) ⟨rfl, rfl, rfl, rfl, trivial⟩
def F_toPool_118 (N : Nat) (x1 : Int32) (x4 : Int32) (x5 : Int32) (x6 : Int32) (x8 : Int32) (S : rS) : Int32 × rS := (F_toPool_147 N x1 x5 x6 x8 (rsA (rsA S 54 (x8 + (nI 2)).toNatClampNeg (x4 >>> ((nI 8) &&& 31))) 54 (x8 + (nI 3)).toNatClampNeg (x4 &&& (nI 255))))
def O_toPool_118 (N : Nat) (x1 : Int32) (x4 : Int32) (x5 : Int32) (x6 : Int32) (x8 : Int32) (S : rS) : Prop := (vp_in (x8 + (nI 2)) 7280) ∧ (vp_in (x8 + (nI 3)) 7280) ∧ O_toPool_147 N x1 x5 x6 x8 (rsA (rsA S 54 (x8 + (nI 2)).toNatClampNeg (x4 >>> ((nI 8) &&& 31))) 54 (x8 + (nI 3)).toNatClampNeg (x4 &&& (nI 255)))
set_option maxHeartbeats 4000000 in
theorem b_toPool_118 {G : zG} {E : rE} {S : rS} {N : Nat} {Q : Option Value → rS → Prop} {X : Int32 × rS → Prop} (hG : zOK G) (hR : ∀ v S', X (v, S') → Q (some (.int v)) S') {x1 : Int32} {x4 : Int32} {x5 : Int32} {x6 : Int32} {x8 : Int32} (ok : O_toPool_118 N x1 x4 x5 x6 x8 S) (hx : X (F_toPool_118 N x1 x4 x5 x6 x8 S)) : rX G E dX12_toPool mX12_toPool 118 [some (.ref E.1), some (.int x1), none, none, some (.int x4), some (.int x5), some (.int x6), none, some (.int x8)] [] S Q := by
  unfold O_toPool_118 at ok
  unfold F_toPool_118 at hx
  refine r_aload_n dX12_toPool_118 rfl rfl ?_
  refine r_getA 54 fX12_339 (by decide) (by decide) dX12_toPool_119 ?_
  refine r_iload dX12_toPool_122 rfl ?_
  refine r_iconst (v := nI 2) dX12_toPool_124 (by decide) ?_
  refine r_iadd dX12_toPool_125 ?_
  refine r_iload dX12_toPool_126 rfl ?_
  refine r_bipush (v := nI 8) dX12_toPool_128 (by decide) ?_
  refine r_ishr dX12_toPool_130 ?_
  refine r_iast hG (by decide) (by decide) dX12_toPool_131 ok.1 ?_
  have ok := ok.2
  refine r_aload_n dX12_toPool_132 rfl rfl ?_
  refine r_getA 54 fX12_339 (by decide) (by decide) dX12_toPool_133 ?_
  refine r_iload dX12_toPool_136 rfl ?_
  refine r_iconst (v := nI 3) dX12_toPool_138 (by decide) ?_
  refine r_iadd dX12_toPool_139 ?_
  refine r_iload dX12_toPool_140 rfl ?_
  refine r_sipush (v := nI 255) dX12_toPool_142 (by decide) ?_
  refine r_iand dX12_toPool_145 ?_
  refine r_iast hG (by decide) (by decide) dX12_toPool_146 ok.1 ?_
  have ok := ok.2
  exact rX.cutz (b_toPool_147 hG hR ok hx) ⟨rfl, rfl, rfl, rfl, rfl, trivial⟩
def F_toPool_76 (N : Nat) (x1 : Int32) (x2 : Int32) (x3 : Int32) (x4 : Int32) (x5 : Int32) (x6 : Int32) (x7 : Int32) (S : rS) : Int32 × rS := (if x7 = 0 then (F_toPool_118 N x1 x4 x5 x6 (((nI 560) * x1) + ((nI 7) * (S.2.1 53 x1.toNatClampNeg))) (rsA (rsA S 54 (((nI 560) * x1) + ((nI 7) * (S.2.1 53 x1.toNatClampNeg))).toNatClampNeg x2) 54 ((((nI 560) * x1) + ((nI 7) * (S.2.1 53 x1.toNatClampNeg))) + (nI 1)).toNatClampNeg x3)) else ((nI 0), S))
def O_toPool_76 (N : Nat) (x1 : Int32) (x2 : Int32) (x3 : Int32) (x4 : Int32) (x5 : Int32) (x6 : Int32) (x7 : Int32) (S : rS) : Prop := ((x7 = 0 → (vp_in x1 13) ∧ (vp_in (((nI 560) * x1) + ((nI 7) * (S.2.1 53 x1.toNatClampNeg))) 7280) ∧ (vp_in ((((nI 560) * x1) + ((nI 7) * (S.2.1 53 x1.toNatClampNeg))) + (nI 1)) 7280) ∧ O_toPool_118 N x1 x4 x5 x6 (((nI 560) * x1) + ((nI 7) * (S.2.1 53 x1.toNatClampNeg))) (rsA (rsA S 54 (((nI 560) * x1) + ((nI 7) * (S.2.1 53 x1.toNatClampNeg))).toNatClampNeg x2) 54 ((((nI 560) * x1) + ((nI 7) * (S.2.1 53 x1.toNatClampNeg))) + (nI 1)).toNatClampNeg x3)) ∧ (¬ x7 = 0 → True))
set_option maxHeartbeats 4000000 in
theorem b_toPool_76 {G : zG} {E : rE} {S : rS} {N : Nat} {Q : Option Value → rS → Prop} {X : Int32 × rS → Prop} (hG : zOK G) (hR : ∀ v S', X (v, S') → Q (some (.int v)) S') {x1 : Int32} {x2 : Int32} {x3 : Int32} {x4 : Int32} {x5 : Int32} {x6 : Int32} {x7 : Int32} (ok : O_toPool_76 N x1 x2 x3 x4 x5 x6 x7 S) (hx : X (F_toPool_76 N x1 x2 x3 x4 x5 x6 x7 S)) : rX G E dX12_toPool mX12_toPool 76 [some (.ref E.1), some (.int x1), some (.int x2), some (.int x3), some (.int x4), some (.int x5), some (.int x6), some (.int x7), none] [] S Q := by
  unfold O_toPool_76 at ok
  unfold F_toPool_76 at hx
  refine r_iload dX12_toPool_76 rfl ?_
  refine r_if_eq (tgt := 83) dX12_toPool_78 (by decide) (fun c_78 => ?_) (fun c_78 => ?_)
  · have ok := ok.1 c_78
    have hx := xif_p c_78 hx
    refine r_sipush (v := nI 560) dX12_toPool_83 (by decide) ?_
    refine r_iload_n dX12_toPool_86 rfl rfl ?_
    refine r_imul dX12_toPool_87 ?_
    refine r_bipush (v := nI 7) dX12_toPool_88 (by decide) ?_
    refine r_aload_n dX12_toPool_90 rfl rfl ?_
    refine r_getA 53 fX12_336 (by decide) (by decide) dX12_toPool_91 ?_
    refine r_iload_n dX12_toPool_94 rfl rfl ?_
    refine r_iald (by decide) (by decide) dX12_toPool_95 ok.1 ?_
    have ok := ok.2
    refine r_imul dX12_toPool_96 ?_
    refine r_iadd dX12_toPool_97 ?_
    refine r_istore_8 dX12_toPool_98 (by decide) rfl ?_
    refine r_aload_n dX12_toPool_100 rfl rfl ?_
    refine r_getA 54 fX12_339 (by decide) (by decide) dX12_toPool_101 ?_
    refine r_iload dX12_toPool_104 rfl ?_
    refine r_iload_n dX12_toPool_106 rfl rfl ?_
    refine r_iast hG (by decide) (by decide) dX12_toPool_107 ok.1 ?_
    have ok := ok.2
    refine r_aload_n dX12_toPool_108 rfl rfl ?_
    refine r_getA 54 fX12_339 (by decide) (by decide) dX12_toPool_109 ?_
    refine r_iload dX12_toPool_112 rfl ?_
    refine r_iconst (v := nI 1) dX12_toPool_114 (by decide) ?_
    refine r_iadd dX12_toPool_115 ?_
    refine r_iload_n dX12_toPool_116 rfl rfl ?_
    refine r_iast hG (by decide) (by decide) dX12_toPool_117 ok.1 ?_
    have ok := ok.2
    exact rX.cutz (b_toPool_118 hG hR ok hx) ⟨rfl, rfl, rfl, rfl, rfl, rfl, trivial⟩
  · have ok := ok.2 c_78
    have hx := xif_n c_78 hx
    refine r_iconst (v := nI 0) dX12_toPool_81 (by decide) ?_
    exact r_ireturn rfl rfl dX12_toPool_82 (hR _ _ hx)
def F_toPool_68 (N : Nat) (rec : Int32 → Int32 → Int32 → Int32 → Int32 → Int32 → Int32 → Int32 → rS → Nat × Int32 × Int32 × Int32 × Int32 × Int32 × Int32 × Int32 × rS) (x1 : Int32) (x2 : Int32) (x3 : Int32) (x4 : Int32) (x5 : Int32) (x6 : Int32) (x8 : Int32) (s0 : Int32) (S : rS) : Nat × Int32 × Int32 × Int32 × Int32 × Int32 × Int32 × Int32 × rS := (rec x1 x2 x3 x4 x5 x6 s0 (x8 + nI 1) S)
def O_toPool_68 (N : Nat) (rok : Int32 → Int32 → Int32 → Int32 → Int32 → Int32 → Int32 → Int32 → rS → Prop) (x1 : Int32) (x2 : Int32) (x3 : Int32) (x4 : Int32) (x5 : Int32) (x6 : Int32) (x8 : Int32) (s0 : Int32) (S : rS) : Prop := rok x1 x2 x3 x4 x5 x6 s0 (x8 + nI 1) S
set_option maxHeartbeats 4000000 in
theorem b_toPool_68 {G : zG} {E : rE} {S : rS} {N : Nat} {Q : Option Value → rS → Prop} {X : Nat × Int32 × Int32 × Int32 × Int32 × Int32 × Int32 × Int32 × rS → Prop} (hG : zOK G) (hX0 : ∀ (x1 : Int32) (x2 : Int32) (x3 : Int32) (x4 : Int32) (x5 : Int32) (x6 : Int32) (x7 : Int32) (S' : rS), X (0, x1, x2, x3, x4, x5, x6, x7, S') → rX G E dX12_toPool mX12_toPool 76 [some (.ref E.1), some (.int x1), some (.int x2), some (.int x3), some (.int x4), some (.int x5), some (.int x6), some (.int x7), none] [] S' Q) {rec : Int32 → Int32 → Int32 → Int32 → Int32 → Int32 → Int32 → Int32 → rS → Nat × Int32 × Int32 × Int32 × Int32 × Int32 × Int32 × Int32 × rS} {rok : Int32 → Int32 → Int32 → Int32 → Int32 → Int32 → Int32 → Int32 → rS → Prop} (hrec : ∀ (x1 : Int32) (x2 : Int32) (x3 : Int32) (x4 : Int32) (x5 : Int32) (x6 : Int32) (x7 : Int32) (x8 : Int32) (S : rS), rok x1 x2 x3 x4 x5 x6 x7 x8 S → X (rec x1 x2 x3 x4 x5 x6 x7 x8 S) → rX G E dX12_toPool mX12_toPool 21 [some (.ref E.1), some (.int x1), some (.int x2), some (.int x3), some (.int x4), some (.int x5), some (.int x6), some (.int x7), some (.int x8)] [] S Q) {x1 : Int32} {x2 : Int32} {x3 : Int32} {x4 : Int32} {x5 : Int32} {x6 : Int32} {x8 : Int32} {s0 : Int32} (ok : O_toPool_68 N rok x1 x2 x3 x4 x5 x6 x8 s0 S) (hx : X (F_toPool_68 N rec x1 x2 x3 x4 x5 x6 x8 s0 S)) : rX G E dX12_toPool mX12_toPool 68 [some (.ref E.1), some (.int x1), some (.int x2), some (.int x3), some (.int x4), some (.int x5), some (.int x6), none, some (.int x8)] [.int s0] S Q := by
  unfold O_toPool_68 at ok
  unfold F_toPool_68 at hx
  refine r_istore_7 dX12_toPool_68 (by decide) rfl ?_
  refine r_iinc_8 (v := (x8 + nI 1)) dX12_toPool_70 rfl (by first | rfl | (congr 1)) (by decide) rfl ?_
  refine r_goto (tgt := 21) dX12_toPool_73 (by decide) ?_
  exact rX.cutz (hrec _ _ _ _ _ _ _ _ S ok hx) ⟨rfl, rfl, rfl, rfl, rfl, rfl, rfl, rfl, rfl, trivial⟩
def F_toPool_63 (N : Nat) (rec : Int32 → Int32 → Int32 → Int32 → Int32 → Int32 → Int32 → Int32 → rS → Nat × Int32 × Int32 × Int32 × Int32 × Int32 × Int32 × Int32 × rS) (x1 : Int32) (x2 : Int32) (x3 : Int32) (x4 : Int32) (x5 : Int32) (x6 : Int32) (x8 : Int32) (S : rS) : Nat × Int32 × Int32 × Int32 × Int32 × Int32 × Int32 × Int32 × rS := (F_toPool_68 N rec x1 x2 x3 x4 x5 x6 x8 (nI 1) S)
def O_toPool_63 (N : Nat) (rok : Int32 → Int32 → Int32 → Int32 → Int32 → Int32 → Int32 → Int32 → rS → Prop) (x1 : Int32) (x2 : Int32) (x3 : Int32) (x4 : Int32) (x5 : Int32) (x6 : Int32) (x8 : Int32) (S : rS) : Prop := O_toPool_68 N rok x1 x2 x3 x4 x5 x6 x8 (nI 1) S
set_option maxHeartbeats 4000000 in
theorem b_toPool_63 {G : zG} {E : rE} {S : rS} {N : Nat} {Q : Option Value → rS → Prop} {X : Nat × Int32 × Int32 × Int32 × Int32 × Int32 × Int32 × Int32 × rS → Prop} (hG : zOK G) (hX0 : ∀ (x1 : Int32) (x2 : Int32) (x3 : Int32) (x4 : Int32) (x5 : Int32) (x6 : Int32) (x7 : Int32) (S' : rS), X (0, x1, x2, x3, x4, x5, x6, x7, S') → rX G E dX12_toPool mX12_toPool 76 [some (.ref E.1), some (.int x1), some (.int x2), some (.int x3), some (.int x4), some (.int x5), some (.int x6), some (.int x7), none] [] S' Q) {rec : Int32 → Int32 → Int32 → Int32 → Int32 → Int32 → Int32 → Int32 → rS → Nat × Int32 × Int32 × Int32 × Int32 × Int32 × Int32 × Int32 × rS} {rok : Int32 → Int32 → Int32 → Int32 → Int32 → Int32 → Int32 → Int32 → rS → Prop} (hrec : ∀ (x1 : Int32) (x2 : Int32) (x3 : Int32) (x4 : Int32) (x5 : Int32) (x6 : Int32) (x7 : Int32) (x8 : Int32) (S : rS), rok x1 x2 x3 x4 x5 x6 x7 x8 S → X (rec x1 x2 x3 x4 x5 x6 x7 x8 S) → rX G E dX12_toPool mX12_toPool 21 [some (.ref E.1), some (.int x1), some (.int x2), some (.int x3), some (.int x4), some (.int x5), some (.int x6), some (.int x7), some (.int x8)] [] S Q) {x1 : Int32} {x2 : Int32} {x3 : Int32} {x4 : Int32} {x5 : Int32} {x6 : Int32} {x8 : Int32} (ok : O_toPool_63 N rok x1 x2 x3 x4 x5 x6 x8 S) (hx : X (F_toPool_63 N rec x1 x2 x3 x4 x5 x6 x8 S)) : rX G E dX12_toPool mX12_toPool 63 [some (.ref E.1), some (.int x1), some (.int x2), some (.int x3), some (.int x4), some (.int x5), some (.int x6), none, some (.int x8)] [] S Q := by
  unfold O_toPool_63 at ok
  unfold F_toPool_63 at hx
  refine r_iconst (v := nI 1) dX12_toPool_63 (by decide) ?_
  refine r_goto (tgt := 68) dX12_toPool_64 (by decide) ?_
  exact rX.cutz (b_toPool_68 hG hX0 hrec ok hx) ⟨rfl, rfl, rfl, rfl, rfl, rfl, rfl, rfl, trivial⟩
def B_toPool_21 (N : Nat) (rec : Int32 → Int32 → Int32 → Int32 → Int32 → Int32 → Int32 → Int32 → rS → Nat × Int32 × Int32 × Int32 × Int32 × Int32 × Int32 × Int32 × rS) (x1 : Int32) (x2 : Int32) (x3 : Int32) (x4 : Int32) (x5 : Int32) (x6 : Int32) (x7 : Int32) (x8 : Int32) (S : rS) : Nat × Int32 × Int32 × Int32 × Int32 × Int32 × Int32 × Int32 × rS := (if (S.2.1 53 x1.toNatClampNeg) ≤ x8 then (0, x1, x2, x3, x4, x5, x6, x7, S) else (if x7 = 0 then (if (f_isPoolAt N S (((nI 560) * x1) + ((nI 7) * x8)) x2 x3 x4 x5 x6) = 0 then (F_toPool_68 N rec x1 x2 x3 x4 x5 x6 x8 (nI 0) S) else (F_toPool_63 N rec x1 x2 x3 x4 x5 x6 x8 S)) else (F_toPool_63 N rec x1 x2 x3 x4 x5 x6 x8 S)))
def OB_toPool_21 (N : Nat) (rok : Int32 → Int32 → Int32 → Int32 → Int32 → Int32 → Int32 → Int32 → rS → Prop) (x1 : Int32) (x2 : Int32) (x3 : Int32) (x4 : Int32) (x5 : Int32) (x6 : Int32) (x7 : Int32) (x8 : Int32) (S : rS) : Prop := (vp_in x1 13) ∧ (((S.2.1 53 x1.toNatClampNeg) ≤ x8 → True) ∧ (¬ (S.2.1 53 x1.toNatClampNeg) ≤ x8 → ((x7 = 0 → (o_isPoolAt N S (((nI 560) * x1) + ((nI 7) * x8)) x2 x3 x4 x5 x6) ∧ (((f_isPoolAt N S (((nI 560) * x1) + ((nI 7) * x8)) x2 x3 x4 x5 x6) = 0 → O_toPool_68 N rok x1 x2 x3 x4 x5 x6 x8 (nI 0) S) ∧ (¬ (f_isPoolAt N S (((nI 560) * x1) + ((nI 7) * x8)) x2 x3 x4 x5 x6) = 0 → O_toPool_63 N rok x1 x2 x3 x4 x5 x6 x8 S))) ∧ (¬ x7 = 0 → O_toPool_63 N rok x1 x2 x3 x4 x5 x6 x8 S))))
set_option maxHeartbeats 4000000 in
theorem bb_toPool_21 {G : zG} {E : rE} {S : rS} {N : Nat} {Q : Option Value → rS → Prop} {X : Nat × Int32 × Int32 × Int32 × Int32 × Int32 × Int32 × Int32 × rS → Prop} (hG : zOK G) (hX0 : ∀ (x1 : Int32) (x2 : Int32) (x3 : Int32) (x4 : Int32) (x5 : Int32) (x6 : Int32) (x7 : Int32) (S' : rS), X (0, x1, x2, x3, x4, x5, x6, x7, S') → rX G E dX12_toPool mX12_toPool 76 [some (.ref E.1), some (.int x1), some (.int x2), some (.int x3), some (.int x4), some (.int x5), some (.int x6), some (.int x7), none] [] S' Q) {rec : Int32 → Int32 → Int32 → Int32 → Int32 → Int32 → Int32 → Int32 → rS → Nat × Int32 × Int32 × Int32 × Int32 × Int32 × Int32 × Int32 × rS} {rok : Int32 → Int32 → Int32 → Int32 → Int32 → Int32 → Int32 → Int32 → rS → Prop} (hrec : ∀ (x1 : Int32) (x2 : Int32) (x3 : Int32) (x4 : Int32) (x5 : Int32) (x6 : Int32) (x7 : Int32) (x8 : Int32) (S : rS), rok x1 x2 x3 x4 x5 x6 x7 x8 S → X (rec x1 x2 x3 x4 x5 x6 x7 x8 S) → rX G E dX12_toPool mX12_toPool 21 [some (.ref E.1), some (.int x1), some (.int x2), some (.int x3), some (.int x4), some (.int x5), some (.int x6), some (.int x7), some (.int x8)] [] S Q) {x1 : Int32} {x2 : Int32} {x3 : Int32} {x4 : Int32} {x5 : Int32} {x6 : Int32} {x7 : Int32} {x8 : Int32} (ok : OB_toPool_21 N rok x1 x2 x3 x4 x5 x6 x7 x8 S) (hx : X (B_toPool_21 N rec x1 x2 x3 x4 x5 x6 x7 x8 S)) : rX G E dX12_toPool mX12_toPool 21 [some (.ref E.1), some (.int x1), some (.int x2), some (.int x3), some (.int x4), some (.int x5), some (.int x6), some (.int x7), some (.int x8)] [] S Q := by
  unfold OB_toPool_21 at ok
  unfold B_toPool_21 at hx
  refine r_iload dX12_toPool_21 rfl ?_
  refine r_aload_n dX12_toPool_23 rfl rfl ?_
  refine r_getA 53 fX12_336 (by decide) (by decide) dX12_toPool_24 ?_
  refine r_iload_n dX12_toPool_27 rfl rfl ?_
  refine r_iald (by decide) (by decide) dX12_toPool_28 ok.1 ?_
  have ok := ok.2
  refine r_icmp_ge (tgt := 76) dX12_toPool_29 (by decide) (fun c_29 => ?_) (fun c_29 => ?_)
  · have ok := ok.1 c_29
    have hx := xif_p c_29 hx
    exact rX.cutz (hX0 _ _ _ _ _ _ _ S hx) ⟨rfl, rfl, rfl, rfl, rfl, rfl, rfl, rfl, trivial⟩
  · have ok := ok.2 c_29
    have hx := xif_n c_29 hx
    refine r_iload dX12_toPool_32 rfl ?_
    refine r_if_ne (tgt := 63) dX12_toPool_34 (by decide) (fun c_34 => ?_) (fun c_34 => ?_)
    · have ok := ok.2 c_34
      have hx := xif_n c_34 hx
      exact rX.cutz (b_toPool_63 hG hX0 hrec ok hx) ⟨rfl, rfl, rfl, rfl, rfl, rfl, rfl, rfl, trivial⟩
    · have ok := ok.1 c_34
      have hx := xif_p c_34 hx
      refine r_aload_n dX12_toPool_37 rfl rfl ?_
      refine r_sipush (v := nI 560) dX12_toPool_38 (by decide) ?_
      refine r_iload_n dX12_toPool_41 rfl rfl ?_
      refine r_imul dX12_toPool_42 ?_
      refine r_bipush (v := nI 7) dX12_toPool_43 (by decide) ?_
      refine r_iload dX12_toPool_45 rfl ?_
      refine r_imul dX12_toPool_47 ?_
      refine r_iadd dX12_toPool_48 ?_
      refine r_iload_n dX12_toPool_49 rfl rfl ?_
      refine r_iload_n dX12_toPool_50 rfl rfl ?_
      refine r_iload dX12_toPool_51 rfl ?_
      refine r_iload dX12_toPool_53 rfl ?_
      refine r_iload dX12_toPool_55 rfl ?_
      refine r_V6i (y' := mX12_isPoolAt) dX12_toPool_57 lX12_560 kX12_isPoolAt ⟨by decide, by decide⟩ rfl (Nat.le_of_ble_eq_true rfl) (rc_X12_isPoolAt hG ok.1) (fun v_57 S_57 h_57 => ?_)
      obtain ⟨rfl, hS_57⟩ := h_57
      have hS_57 := hS_57.symm
      subst hS_57
      have ok := ok.2
      refine r_if_eq (tgt := 67) dX12_toPool_60 (by decide) (fun c_60 => ?_) (fun c_60 => ?_)
      · have ok := ok.1 c_60
        have hx := xif_p c_60 hx
        refine r_iconst (v := nI 0) dX12_toPool_67 (by decide) ?_
        exact rX.cutz (b_toPool_68 hG hX0 hrec ok hx) ⟨rfl, rfl, rfl, rfl, rfl, rfl, rfl, rfl, trivial⟩
      · have ok := ok.2 c_60
        have hx := xif_n c_60 hx
        exact rX.cutz (b_toPool_63 hG hX0 hrec ok hx) ⟨rfl, rfl, rfl, rfl, rfl, rfl, rfl, rfl, trivial⟩
def L_toPool_21 (N : Nat) : Nat → Int32 → Int32 → Int32 → Int32 → Int32 → Int32 → Int32 → Int32 → rS → Nat × Int32 × Int32 × Int32 × Int32 × Int32 × Int32 × Int32 × rS
  | 0, x1, x2, x3, x4, x5, x6, x7, x8, S => (0, 0, 0, 0, 0, 0, 0, 0, S)
  | n + 1, x1, x2, x3, x4, x5, x6, x7, x8, S => B_toPool_21 N (L_toPool_21 N n) x1 x2 x3 x4 x5 x6 x7 x8 S
def OL_toPool_21 (N : Nat) : Nat → Int32 → Int32 → Int32 → Int32 → Int32 → Int32 → Int32 → Int32 → rS → Prop
  | 0, _, _, _, _, _, _, _, _, _ => False
  | n + 1, x1, x2, x3, x4, x5, x6, x7, x8, S => OB_toPool_21 N (OL_toPool_21 N n) x1 x2 x3 x4 x5 x6 x7 x8 S
set_option maxHeartbeats 4000000 in
theorem l_toPool_21 {G : zG} {E : rE} {N : Nat} {Q : Option Value → rS → Prop} {X : Nat × Int32 × Int32 × Int32 × Int32 × Int32 × Int32 × Int32 × rS → Prop} (hG : zOK G) (hX0 : ∀ (x1 : Int32) (x2 : Int32) (x3 : Int32) (x4 : Int32) (x5 : Int32) (x6 : Int32) (x7 : Int32) (S' : rS), X (0, x1, x2, x3, x4, x5, x6, x7, S') → rX G E dX12_toPool mX12_toPool 76 [some (.ref E.1), some (.int x1), some (.int x2), some (.int x3), some (.int x4), some (.int x5), some (.int x6), some (.int x7), none] [] S' Q) : ∀ (n : Nat) (x1 : Int32) (x2 : Int32) (x3 : Int32) (x4 : Int32) (x5 : Int32) (x6 : Int32) (x7 : Int32) (x8 : Int32) (S : rS), OL_toPool_21 N n x1 x2 x3 x4 x5 x6 x7 x8 S → X (L_toPool_21 N n x1 x2 x3 x4 x5 x6 x7 x8 S) → rX G E dX12_toPool mX12_toPool 21 [some (.ref E.1), some (.int x1), some (.int x2), some (.int x3), some (.int x4), some (.int x5), some (.int x6), some (.int x7), some (.int x8)] [] S Q := by
  intro n
  induction n with
  | zero => intro x1 x2 x3 x4 x5 x6 x7 x8 S ok; exact absurd ok id
  | succ n ih =>
    intro x1 x2 x3 x4 x5 x6 x7 x8 S ok hx
    exact bb_toPool_21 hG hX0 (rec := L_toPool_21 N n) (rok := OL_toPool_21 N n) (fun x1 x2 x3 x4 x5 x6 x7 x8 S ok hx => ih x1 x2 x3 x4 x5 x6 x7 x8 S ok hx) ok hx
def A_toPool_21 (N : Nat) (x1 : Int32) (x2 : Int32) (x3 : Int32) (x4 : Int32) (x5 : Int32) (x6 : Int32) (x7 : Int32) (x8 : Int32) (S : rS) (z : Nat × Int32 × Int32 × Int32 × Int32 × Int32 × Int32 × Int32 × rS) : Int32 × rS := (F_toPool_76 N (z.2.1) (z.2.2.1) (z.2.2.2.1) (z.2.2.2.2.1) (z.2.2.2.2.2.1) (z.2.2.2.2.2.2.1) (z.2.2.2.2.2.2.2.1) z.2.2.2.2.2.2.2.2)
def OA_toPool_21 (N : Nat) (x1 : Int32) (x2 : Int32) (x3 : Int32) (x4 : Int32) (x5 : Int32) (x6 : Int32) (x7 : Int32) (x8 : Int32) (S : rS) (z : Nat × Int32 × Int32 × Int32 × Int32 × Int32 × Int32 × Int32 × rS) : Prop := O_toPool_76 N (z.2.1) (z.2.2.1) (z.2.2.2.1) (z.2.2.2.2.1) (z.2.2.2.2.2.1) (z.2.2.2.2.2.2.1) (z.2.2.2.2.2.2.2.1) z.2.2.2.2.2.2.2.2
set_option maxHeartbeats 4000000 in
theorem c_toPool_21 {G : zG} {E : rE} {S : rS} {N : Nat} {Q : Option Value → rS → Prop} {X : Int32 × rS → Prop} (hG : zOK G) (hR : ∀ v S', X (v, S') → Q (some (.int v)) S') {x1 : Int32} {x2 : Int32} {x3 : Int32} {x4 : Int32} {x5 : Int32} {x6 : Int32} {x7 : Int32} {x8 : Int32} (ok : OL_toPool_21 N N x1 x2 x3 x4 x5 x6 x7 x8 S ∧ OA_toPool_21 N x1 x2 x3 x4 x5 x6 x7 x8 S (L_toPool_21 N N x1 x2 x3 x4 x5 x6 x7 x8 S)) (hx : X (A_toPool_21 N x1 x2 x3 x4 x5 x6 x7 x8 S (L_toPool_21 N N x1 x2 x3 x4 x5 x6 x7 x8 S))) : rX G E dX12_toPool mX12_toPool 21 [some (.ref E.1), some (.int x1), some (.int x2), some (.int x3), some (.int x4), some (.int x5), some (.int x6), some (.int x7), some (.int x8)] [] S Q := by
  refine l_toPool_21 hG ?_ N x1 x2 x3 x4 x5 x6 x7 x8 S ok.1 (X := fun z => OA_toPool_21 N x1 x2 x3 x4 x5 x6 x7 x8 S z ∧ X (A_toPool_21 N x1 x2 x3 x4 x5 x6 x7 x8 S z)) ⟨ok.2, hx⟩
  · intro x1' x2' x3' x4' x5' x6' x7' S' hz
    obtain ⟨ok, hx⟩ := hz
    unfold OA_toPool_21 at ok
    unfold A_toPool_21 at hx
    exact rX.cutz (b_toPool_76 hG hR ok hx) ⟨rfl, rfl, rfl, rfl, rfl, rfl, rfl, rfl, trivial⟩
def F_toPool_16 (N : Nat) (x1 : Int32) (x2 : Int32) (x3 : Int32) (x4 : Int32) (x5 : Int32) (x6 : Int32) (s0 : Int32) (S : rS) : Int32 × rS := (A_toPool_21 N x1 x2 x3 x4 x5 x6 s0 (nI 0) S (L_toPool_21 N N x1 x2 x3 x4 x5 x6 s0 (nI 0) S))
def O_toPool_16 (N : Nat) (x1 : Int32) (x2 : Int32) (x3 : Int32) (x4 : Int32) (x5 : Int32) (x6 : Int32) (s0 : Int32) (S : rS) : Prop := (OL_toPool_21 N N x1 x2 x3 x4 x5 x6 s0 (nI 0) S ∧ OA_toPool_21 N x1 x2 x3 x4 x5 x6 s0 (nI 0) S (L_toPool_21 N N x1 x2 x3 x4 x5 x6 s0 (nI 0) S))
set_option maxHeartbeats 4000000 in
theorem b_toPool_16 {G : zG} {E : rE} {S : rS} {N : Nat} {Q : Option Value → rS → Prop} {X : Int32 × rS → Prop} (hG : zOK G) (hR : ∀ v S', X (v, S') → Q (some (.int v)) S') {x1 : Int32} {x2 : Int32} {x3 : Int32} {x4 : Int32} {x5 : Int32} {x6 : Int32} {s0 : Int32} (ok : O_toPool_16 N x1 x2 x3 x4 x5 x6 s0 S) (hx : X (F_toPool_16 N x1 x2 x3 x4 x5 x6 s0 S)) : rX G E dX12_toPool mX12_toPool 16 [some (.ref E.1), some (.int x1), some (.int x2), some (.int x3), some (.int x4), some (.int x5), some (.int x6), none, none] [.int s0] S Q := by
  unfold O_toPool_16 at ok
  unfold F_toPool_16 at hx
  refine r_istore_7 dX12_toPool_16 (by decide) rfl ?_
  refine r_iconst (v := nI 0) dX12_toPool_18 (by decide) ?_
  refine r_istore_8 dX12_toPool_19 (by decide) rfl ?_
  exact rX.cutz (c_toPool_21 hG hR ok hx) ⟨rfl, rfl, rfl, rfl, rfl, rfl, rfl, rfl, rfl, trivial⟩
def F_toPool_0 (N : Nat) (x1 : Int32) (x2 : Int32) (x3 : Int32) (x4 : Int32) (x5 : Int32) (x6 : Int32) (S : rS) : Int32 × rS := (if (S.2.1 53 x1.toNatClampNeg) = (nI 80) then (F_toPool_16 N x1 x2 x3 x4 x5 x6 (nI 1) S) else (F_toPool_16 N x1 x2 x3 x4 x5 x6 (nI 0) S))
def O_toPool_0 (N : Nat) (x1 : Int32) (x2 : Int32) (x3 : Int32) (x4 : Int32) (x5 : Int32) (x6 : Int32) (S : rS) : Prop := (vp_in x1 13) ∧ (((S.2.1 53 x1.toNatClampNeg) = (nI 80) → O_toPool_16 N x1 x2 x3 x4 x5 x6 (nI 1) S) ∧ (¬ (S.2.1 53 x1.toNatClampNeg) = (nI 80) → O_toPool_16 N x1 x2 x3 x4 x5 x6 (nI 0) S))
set_option maxHeartbeats 4000000 in
theorem b_toPool_0 {G : zG} {E : rE} {S : rS} {N : Nat} {Q : Option Value → rS → Prop} {X : Int32 × rS → Prop} (hG : zOK G) (hR : ∀ v S', X (v, S') → Q (some (.int v)) S') {x1 : Int32} {x2 : Int32} {x3 : Int32} {x4 : Int32} {x5 : Int32} {x6 : Int32} (ok : O_toPool_0 N x1 x2 x3 x4 x5 x6 S) (hx : X (F_toPool_0 N x1 x2 x3 x4 x5 x6 S)) : rX G E dX12_toPool mX12_toPool 0 [some (.ref E.1), some (.int x1), some (.int x2), some (.int x3), some (.int x4), some (.int x5), some (.int x6), none, none] [] S Q := by
  unfold O_toPool_0 at ok
  unfold F_toPool_0 at hx
  refine r_aload_n dX12_toPool_0 rfl rfl ?_
  refine r_getA 53 fX12_336 (by decide) (by decide) dX12_toPool_1 ?_
  refine r_iload_n dX12_toPool_4 rfl rfl ?_
  refine r_iald (by decide) (by decide) dX12_toPool_5 ok.1 ?_
  have ok := ok.2
  refine r_bipush (v := nI 80) dX12_toPool_6 (by decide) ?_
  refine r_icmp_ne (tgt := 15) dX12_toPool_8 (by decide) (fun c_8 => ?_) (fun c_8 => ?_)
  · have ok := ok.2 c_8
    have hx := xif_n c_8 hx
    refine r_iconst (v := nI 0) dX12_toPool_15 (by decide) ?_
    exact rX.cutz (b_toPool_16 hG hR ok hx) ⟨rfl, rfl, rfl, rfl, rfl, rfl, rfl, trivial⟩
  · have ok := ok.1 c_8
    have hx := xif_p c_8 hx
    refine r_iconst (v := nI 1) dX12_toPool_11 (by decide) ?_
    refine r_goto (tgt := 16) dX12_toPool_12 (by decide) ?_
    exact rX.cutz (b_toPool_16 hG hR ok hx) ⟨rfl, rfl, rfl, rfl, rfl, rfl, rfl, trivial⟩
def f_toPool (N : Nat) (S : rS) (x1 : Int32) (x2 : Int32) (x3 : Int32) (x4 : Int32) (x5 : Int32) (x6 : Int32) : Int32 × rS := F_toPool_0 N x1 x2 x3 x4 x5 x6 S
def o_toPool (N : Nat) (S : rS) (x1 : Int32) (x2 : Int32) (x3 : Int32) (x4 : Int32) (x5 : Int32) (x6 : Int32) : Prop := O_toPool_0 N x1 x2 x3 x4 x5 x6 S
set_option maxHeartbeats 4000000 in
theorem rc_X12_toPool {G : zG} {E : rE} {S : rS} {N : Nat} (hG : zOK G) {x1 : Int32} {x2 : Int32} {x3 : Int32} {x4 : Int32} {x5 : Int32} {x6 : Int32} (ok : o_toPool N S x1 x2 x3 x4 x5 x6) : rCi G E dX12_toPool mX12_toPool [.ref E.1, .int x1, .int x2, .int x3, .int x4, .int x5, .int x6] S (fun v S' => v = (f_toPool N S x1 x2 x3 x4 x5 x6).1 ∧ S' = (f_toPool N S x1 x2 x3 x4 x5 x6).2) := by
  refine rC.ofX rfl (Nat.le_of_ble_eq_true rfl) ?_
  show rX G E dX12_toPool mX12_toPool 0 [some (.ref E.1), some (.int x1), some (.int x2), some (.int x3), some (.int x4), some (.int x5), some (.int x6), none, none] [] S _
  exact rX.cutz (b_toPool_0 (X := fun F => F = f_toPool N S x1 x2 x3 x4 x5 x6) hG (fun v S' h => ⟨v, rfl, by rw [← h], by rw [← h]⟩) ok rfl) ⟨rfl, rfl, rfl, rfl, rfl, rfl, rfl, trivial⟩
/-! isIn -/
def F_isIn_105 (N : Nat) (x4 : Int32) (S : rS) : Int32 := x4
def O_isIn_105 (N : Nat) (x4 : Int32) (S : rS) : Prop := narrow .boolean (.int x4) = .int x4
set_option maxHeartbeats 4000000 in
theorem b_isIn_105 {G : zG} {E : rE} {S : rS} {N : Nat} {Q : Option Value → rS → Prop} {X : Int32 → Prop} (hG : zOK G) (hR : ∀ v, X v → Q (some (.int v)) S) {x4 : Int32} (ok : O_isIn_105 N x4 S) (hx : X (F_isIn_105 N x4 S)) : rX G E dX12_isIn mX12_isIn 105 [none, none, none, none, some (.int x4), none, none, none] [] S Q := by
  unfold O_isIn_105 at ok
  unfold F_isIn_105 at hx
  refine r_iload dX12_isIn_105 rfl ?_
  exact r_ireturn rfl ok dX12_isIn_107 (hR _ hx)
def F_isIn_95 (N : Nat) (rec : Int32 → Int32 → Int32 → Int32 → Int32 → Nat × Int32 × Unit) (x1 : Int32) (x2 : Int32) (x3 : Int32) (x5 : Int32) (x6 : Int32) (S : rS) : Nat × Int32 × Unit := (rec x1 x2 x3 x6 (x5 + nI 1))
def O_isIn_95 (N : Nat) (rok : Int32 → Int32 → Int32 → Int32 → Int32 → Prop) (x1 : Int32) (x2 : Int32) (x3 : Int32) (x5 : Int32) (x6 : Int32) (S : rS) : Prop := rok x1 x2 x3 x6 (x5 + nI 1)
set_option maxHeartbeats 4000000 in
theorem b_isIn_95 {G : zG} {E : rE} {S : rS} {N : Nat} {Q : Option Value → rS → Prop} {X : Nat × Int32 × Unit → Prop} (hG : zOK G) (hX0 : ∀ (x4 : Int32) , X (0, x4, ()) → rX G E dX12_isIn mX12_isIn 105 [none, none, none, none, some (.int x4), none, none, none] [] S Q) {rec : Int32 → Int32 → Int32 → Int32 → Int32 → Nat × Int32 × Unit} {rok : Int32 → Int32 → Int32 → Int32 → Int32 → Prop} (hrec : ∀ (x1 : Int32) (x2 : Int32) (x3 : Int32) (x4 : Int32) (x5 : Int32), rok x1 x2 x3 x4 x5 → X (rec x1 x2 x3 x4 x5) → rX G E dX12_isIn mX12_isIn 22 [some (.ref E.1), some (.int x1), some (.int x2), some (.int x3), some (.int x4), some (.int x5), none, none] [] S Q) {x1 : Int32} {x2 : Int32} {x3 : Int32} {x5 : Int32} {x6 : Int32} (ok : O_isIn_95 N rok x1 x2 x3 x5 x6 S) (hx : X (F_isIn_95 N rec x1 x2 x3 x5 x6 S)) : rX G E dX12_isIn mX12_isIn 95 [some (.ref E.1), some (.int x1), some (.int x2), some (.int x3), none, some (.int x5), some (.int x6), none] [] S Q := by
  unfold O_isIn_95 at ok
  unfold F_isIn_95 at hx
  refine r_iload dX12_isIn_95 rfl ?_
  refine r_istore_4 dX12_isIn_97 (by decide) rfl ?_
  refine r_iinc_5 (v := (x5 + nI 1)) dX12_isIn_99 rfl (by first | rfl | (congr 1)) (by decide) rfl ?_
  refine r_goto (tgt := 22) dX12_isIn_102 (by decide) ?_
  exact rX.cutz (hrec _ _ _ _ _ ok hx) ⟨rfl, rfl, rfl, rfl, rfl, rfl, trivial⟩
def F_isIn_87 (N : Nat) (rec : Int32 → Int32 → Int32 → Int32 → Int32 → Int32 → Nat × Int32 × Int32 × Int32 × Int32 × Int32 × Unit) (x1 : Int32) (x2 : Int32) (x3 : Int32) (x5 : Int32) (x7 : Int32) (s0 : Int32) (S : rS) : Nat × Int32 × Int32 × Int32 × Int32 × Int32 × Unit := (rec x1 x2 x3 x5 s0 (x7 + nI 1))
def O_isIn_87 (N : Nat) (rok : Int32 → Int32 → Int32 → Int32 → Int32 → Int32 → Prop) (x1 : Int32) (x2 : Int32) (x3 : Int32) (x5 : Int32) (x7 : Int32) (s0 : Int32) (S : rS) : Prop := rok x1 x2 x3 x5 s0 (x7 + nI 1)
set_option maxHeartbeats 4000000 in
theorem b_isIn_87 {G : zG} {E : rE} {S : rS} {N : Nat} {Q : Option Value → rS → Prop} {X : Nat × Int32 × Int32 × Int32 × Int32 × Int32 × Unit → Prop} (hG : zOK G) (hX0 : ∀ (x1 : Int32) (x2 : Int32) (x3 : Int32) (x5 : Int32) (x6 : Int32) , X (0, x1, x2, x3, x5, x6, ()) → rX G E dX12_isIn mX12_isIn 95 [some (.ref E.1), some (.int x1), some (.int x2), some (.int x3), none, some (.int x5), some (.int x6), none] [] S Q) {rec : Int32 → Int32 → Int32 → Int32 → Int32 → Int32 → Nat × Int32 × Int32 × Int32 × Int32 × Int32 × Unit} {rok : Int32 → Int32 → Int32 → Int32 → Int32 → Int32 → Prop} (hrec : ∀ (x1 : Int32) (x2 : Int32) (x3 : Int32) (x5 : Int32) (x6 : Int32) (x7 : Int32), rok x1 x2 x3 x5 x6 x7 → X (rec x1 x2 x3 x5 x6 x7) → rX G E dX12_isIn mX12_isIn 43 [some (.ref E.1), some (.int x1), some (.int x2), some (.int x3), none, some (.int x5), some (.int x6), some (.int x7)] [] S Q) {x1 : Int32} {x2 : Int32} {x3 : Int32} {x5 : Int32} {x7 : Int32} {s0 : Int32} (ok : O_isIn_87 N rok x1 x2 x3 x5 x7 s0 S) (hx : X (F_isIn_87 N rec x1 x2 x3 x5 x7 s0 S)) : rX G E dX12_isIn mX12_isIn 87 [some (.ref E.1), some (.int x1), some (.int x2), some (.int x3), none, some (.int x5), none, some (.int x7)] [.int s0] S Q := by
  unfold O_isIn_87 at ok
  unfold F_isIn_87 at hx
  refine r_istore_6 dX12_isIn_87 (by decide) rfl ?_
  refine r_iinc_7 (v := (x7 + nI 1)) dX12_isIn_89 rfl (by first | rfl | (congr 1)) (by decide) rfl ?_
  refine r_goto (tgt := 43) dX12_isIn_92 (by decide) ?_
  exact rX.cutz (hrec _ _ _ _ _ _ ok hx) ⟨rfl, rfl, rfl, rfl, rfl, rfl, rfl, trivial⟩
def B_isIn_43 (N : Nat) (rec : Int32 → Int32 → Int32 → Int32 → Int32 → Int32 → Nat × Int32 × Int32 × Int32 × Int32 × Int32 × Unit) (x1 : Int32) (x2 : Int32) (x3 : Int32) (x5 : Int32) (x6 : Int32) (x7 : Int32) (S : rS) : Nat × Int32 × Int32 × Int32 × Int32 × Int32 × Unit := (if (nI 7) ≤ x7 then (0, x1, x2, x3, x5, x6, ()) else (if x6 = 0 then (0, x1, x2, x3, x5, x6, ()) else (if (f_blockByte N S x1 ((x3 + ((nI 7) * x5)) + x7)) = (S.2.1 54 (x2 + x7).toNatClampNeg) then (F_isIn_87 N rec x1 x2 x3 x5 x7 (nI 1) S) else (F_isIn_87 N rec x1 x2 x3 x5 x7 (nI 0) S))))
def OB_isIn_43 (N : Nat) (rok : Int32 → Int32 → Int32 → Int32 → Int32 → Int32 → Prop) (x1 : Int32) (x2 : Int32) (x3 : Int32) (x5 : Int32) (x6 : Int32) (x7 : Int32) (S : rS) : Prop := (((nI 7) ≤ x7 → True) ∧ (¬ (nI 7) ≤ x7 → ((x6 = 0 → True) ∧ (¬ x6 = 0 → (o_blockByte N S x1 ((x3 + ((nI 7) * x5)) + x7)) ∧ (vp_in (x2 + x7) 7280) ∧ (((f_blockByte N S x1 ((x3 + ((nI 7) * x5)) + x7)) = (S.2.1 54 (x2 + x7).toNatClampNeg) → O_isIn_87 N rok x1 x2 x3 x5 x7 (nI 1) S) ∧ (¬ (f_blockByte N S x1 ((x3 + ((nI 7) * x5)) + x7)) = (S.2.1 54 (x2 + x7).toNatClampNeg) → O_isIn_87 N rok x1 x2 x3 x5 x7 (nI 0) S))))))
set_option maxHeartbeats 4000000 in
theorem bb_isIn_43 {G : zG} {E : rE} {S : rS} {N : Nat} {Q : Option Value → rS → Prop} {X : Nat × Int32 × Int32 × Int32 × Int32 × Int32 × Unit → Prop} (hG : zOK G) (hX0 : ∀ (x1 : Int32) (x2 : Int32) (x3 : Int32) (x5 : Int32) (x6 : Int32) , X (0, x1, x2, x3, x5, x6, ()) → rX G E dX12_isIn mX12_isIn 95 [some (.ref E.1), some (.int x1), some (.int x2), some (.int x3), none, some (.int x5), some (.int x6), none] [] S Q) {rec : Int32 → Int32 → Int32 → Int32 → Int32 → Int32 → Nat × Int32 × Int32 × Int32 × Int32 × Int32 × Unit} {rok : Int32 → Int32 → Int32 → Int32 → Int32 → Int32 → Prop} (hrec : ∀ (x1 : Int32) (x2 : Int32) (x3 : Int32) (x5 : Int32) (x6 : Int32) (x7 : Int32), rok x1 x2 x3 x5 x6 x7 → X (rec x1 x2 x3 x5 x6 x7) → rX G E dX12_isIn mX12_isIn 43 [some (.ref E.1), some (.int x1), some (.int x2), some (.int x3), none, some (.int x5), some (.int x6), some (.int x7)] [] S Q) {x1 : Int32} {x2 : Int32} {x3 : Int32} {x5 : Int32} {x6 : Int32} {x7 : Int32} (ok : OB_isIn_43 N rok x1 x2 x3 x5 x6 x7 S) (hx : X (B_isIn_43 N rec x1 x2 x3 x5 x6 x7 S)) : rX G E dX12_isIn mX12_isIn 43 [some (.ref E.1), some (.int x1), some (.int x2), some (.int x3), none, some (.int x5), some (.int x6), some (.int x7)] [] S Q := by
  unfold OB_isIn_43 at ok
  unfold B_isIn_43 at hx
  refine r_iload dX12_isIn_43 rfl ?_
  refine r_bipush (v := nI 7) dX12_isIn_45 (by decide) ?_
  refine r_icmp_ge (tgt := 95) dX12_isIn_47 (by decide) (fun c_47 => ?_) (fun c_47 => ?_)
  · have ok := ok.1 c_47
    have hx := xif_p c_47 hx
    exact rX.cutz (hX0 _ _ _ _ _  hx) ⟨rfl, rfl, rfl, rfl, rfl, rfl, trivial⟩
  · have ok := ok.2 c_47
    have hx := xif_n c_47 hx
    refine r_iload dX12_isIn_50 rfl ?_
    refine r_if_eq (tgt := 95) dX12_isIn_52 (by decide) (fun c_52 => ?_) (fun c_52 => ?_)
    · have ok := ok.1 c_52
      have hx := xif_p c_52 hx
      exact rX.cutz (hX0 _ _ _ _ _  hx) ⟨rfl, rfl, rfl, rfl, rfl, rfl, trivial⟩
    · have ok := ok.2 c_52
      have hx := xif_n c_52 hx
      refine r_aload_n dX12_isIn_55 rfl rfl ?_
      refine r_iload_n dX12_isIn_56 rfl rfl ?_
      refine r_iload_n dX12_isIn_57 rfl rfl ?_
      refine r_bipush (v := nI 7) dX12_isIn_58 (by decide) ?_
      refine r_iload dX12_isIn_60 rfl ?_
      refine r_imul dX12_isIn_62 ?_
      refine r_iadd dX12_isIn_63 ?_
      refine r_iload dX12_isIn_64 rfl ?_
      refine r_iadd dX12_isIn_66 ?_
      refine r_V2i (y' := mX12_blockByte) dX12_isIn_67 lX12_67 kX12_blockByte ⟨by decide, by decide⟩ rfl (Nat.le_of_ble_eq_true rfl) (rc_X12_blockByte hG ok.1) (fun v_67 S_67 h_67 => ?_)
      obtain ⟨rfl, hS_67⟩ := h_67
      have hS_67 := hS_67.symm
      subst hS_67
      have ok := ok.2
      refine r_aload_n dX12_isIn_70 rfl rfl ?_
      refine r_getA 54 fX12_339 (by decide) (by decide) dX12_isIn_71 ?_
      refine r_iload_n dX12_isIn_74 rfl rfl ?_
      refine r_iload dX12_isIn_75 rfl ?_
      refine r_iadd dX12_isIn_77 ?_
      refine r_iald (by decide) (by decide) dX12_isIn_78 ok.1 ?_
      have ok := ok.2
      refine r_icmp_ne (tgt := 86) dX12_isIn_79 (by decide) (fun c_79 => ?_) (fun c_79 => ?_)
      · have ok := ok.2 c_79
        have hx := xif_n c_79 hx
        refine r_iconst (v := nI 0) dX12_isIn_86 (by decide) ?_
        exact rX.cutz (b_isIn_87 hG hX0 hrec ok hx) ⟨rfl, rfl, rfl, rfl, rfl, rfl, trivial⟩
      · have ok := ok.1 c_79
        have hx := xif_p c_79 hx
        refine r_iconst (v := nI 1) dX12_isIn_82 (by decide) ?_
        refine r_goto (tgt := 87) dX12_isIn_83 (by decide) ?_
        exact rX.cutz (b_isIn_87 hG hX0 hrec ok hx) ⟨rfl, rfl, rfl, rfl, rfl, rfl, trivial⟩
def L_isIn_43 (N : Nat) : Nat → Int32 → Int32 → Int32 → Int32 → Int32 → Int32 → rS → Nat × Int32 × Int32 × Int32 × Int32 × Int32 × Unit
  | 0, x1, x2, x3, x5, x6, x7, S => (0, 0, 0, 0, 0, 0, ())
  | n + 1, x1, x2, x3, x5, x6, x7, S => B_isIn_43 N (fun x1 x2 x3 x5 x6 x7 => L_isIn_43 N n x1 x2 x3 x5 x6 x7 S) x1 x2 x3 x5 x6 x7 S
def OL_isIn_43 (N : Nat) : Nat → Int32 → Int32 → Int32 → Int32 → Int32 → Int32 → rS → Prop
  | 0, _, _, _, _, _, _, _ => False
  | n + 1, x1, x2, x3, x5, x6, x7, S => OB_isIn_43 N (fun x1 x2 x3 x5 x6 x7 => OL_isIn_43 N n x1 x2 x3 x5 x6 x7 S) x1 x2 x3 x5 x6 x7 S
set_option maxHeartbeats 4000000 in
theorem l_isIn_43 {G : zG} {E : rE} {S : rS} {N : Nat} {Q : Option Value → rS → Prop} {X : Nat × Int32 × Int32 × Int32 × Int32 × Int32 × Unit → Prop} (hG : zOK G) (hX0 : ∀ (x1 : Int32) (x2 : Int32) (x3 : Int32) (x5 : Int32) (x6 : Int32) , X (0, x1, x2, x3, x5, x6, ()) → rX G E dX12_isIn mX12_isIn 95 [some (.ref E.1), some (.int x1), some (.int x2), some (.int x3), none, some (.int x5), some (.int x6), none] [] S Q) : ∀ (n : Nat) (x1 : Int32) (x2 : Int32) (x3 : Int32) (x5 : Int32) (x6 : Int32) (x7 : Int32) , OL_isIn_43 N n x1 x2 x3 x5 x6 x7 S → X (L_isIn_43 N n x1 x2 x3 x5 x6 x7 S) → rX G E dX12_isIn mX12_isIn 43 [some (.ref E.1), some (.int x1), some (.int x2), some (.int x3), none, some (.int x5), some (.int x6), some (.int x7)] [] S Q := by
  intro n
  induction n with
  | zero => intro x1 x2 x3 x5 x6 x7 ok; exact absurd ok id
  | succ n ih =>
    intro x1 x2 x3 x5 x6 x7 ok hx
    exact bb_isIn_43 hG hX0 (rec := fun x1 x2 x3 x5 x6 x7 => L_isIn_43 N n x1 x2 x3 x5 x6 x7 S) (rok := fun x1 x2 x3 x5 x6 x7 => OL_isIn_43 N n x1 x2 x3 x5 x6 x7 S) (fun x1 x2 x3 x5 x6 x7 ok hx => ih x1 x2 x3 x5 x6 x7 ok hx) ok hx
def A_isIn_43 (N : Nat) (rec : Int32 → Int32 → Int32 → Int32 → Int32 → Nat × Int32 × Unit) (x1 : Int32) (x2 : Int32) (x3 : Int32) (x5 : Int32) (x6 : Int32) (x7 : Int32) (S : rS) (z : Nat × Int32 × Int32 × Int32 × Int32 × Int32 × Unit) : Nat × Int32 × Unit := (F_isIn_95 N rec (z.2.1) (z.2.2.1) (z.2.2.2.1) (z.2.2.2.2.1) (z.2.2.2.2.2.1) S)
def OA_isIn_43 (N : Nat) (rok : Int32 → Int32 → Int32 → Int32 → Int32 → Prop) (x1 : Int32) (x2 : Int32) (x3 : Int32) (x5 : Int32) (x6 : Int32) (x7 : Int32) (S : rS) (z : Nat × Int32 × Int32 × Int32 × Int32 × Int32 × Unit) : Prop := O_isIn_95 N rok (z.2.1) (z.2.2.1) (z.2.2.2.1) (z.2.2.2.2.1) (z.2.2.2.2.2.1) S
set_option maxHeartbeats 4000000 in
theorem c_isIn_43 {G : zG} {E : rE} {S : rS} {N : Nat} {Q : Option Value → rS → Prop} {X : Nat × Int32 × Unit → Prop} (hG : zOK G) (hX0 : ∀ (x4 : Int32) , X (0, x4, ()) → rX G E dX12_isIn mX12_isIn 105 [none, none, none, none, some (.int x4), none, none, none] [] S Q) {rec : Int32 → Int32 → Int32 → Int32 → Int32 → Nat × Int32 × Unit} {rok : Int32 → Int32 → Int32 → Int32 → Int32 → Prop} (hrec : ∀ (x1 : Int32) (x2 : Int32) (x3 : Int32) (x4 : Int32) (x5 : Int32), rok x1 x2 x3 x4 x5 → X (rec x1 x2 x3 x4 x5) → rX G E dX12_isIn mX12_isIn 22 [some (.ref E.1), some (.int x1), some (.int x2), some (.int x3), some (.int x4), some (.int x5), none, none] [] S Q) {x1 : Int32} {x2 : Int32} {x3 : Int32} {x5 : Int32} {x6 : Int32} {x7 : Int32} (ok : OL_isIn_43 N N x1 x2 x3 x5 x6 x7 S ∧ OA_isIn_43 N rok x1 x2 x3 x5 x6 x7 S (L_isIn_43 N N x1 x2 x3 x5 x6 x7 S)) (hx : X (A_isIn_43 N rec x1 x2 x3 x5 x6 x7 S (L_isIn_43 N N x1 x2 x3 x5 x6 x7 S))) : rX G E dX12_isIn mX12_isIn 43 [some (.ref E.1), some (.int x1), some (.int x2), some (.int x3), none, some (.int x5), some (.int x6), some (.int x7)] [] S Q := by
  refine l_isIn_43 hG ?_ N x1 x2 x3 x5 x6 x7 ok.1 (X := fun z => OA_isIn_43 N rok x1 x2 x3 x5 x6 x7 S z ∧ X (A_isIn_43 N rec x1 x2 x3 x5 x6 x7 S z)) ⟨ok.2, hx⟩
  · intro x1' x2' x3' x5' x6' hz
    obtain ⟨ok, hx⟩ := hz
    unfold OA_isIn_43 at ok
    unfold A_isIn_43 at hx
    exact rX.cutz (b_isIn_95 hG hX0 hrec ok hx) ⟨rfl, rfl, rfl, rfl, rfl, rfl, trivial⟩
def B_isIn_22 (N : Nat) (rec : Int32 → Int32 → Int32 → Int32 → Int32 → Nat × Int32 × Unit) (x1 : Int32) (x2 : Int32) (x3 : Int32) (x4 : Int32) (x5 : Int32) (S : rS) : Nat × Int32 × Unit := (if (f_paymentsOf N S x1) ≤ x5 then (0, x4, ()) else (if x4 = 0 then (A_isIn_43 N rec x1 x2 x3 x5 (nI 1) (nI 0) S (L_isIn_43 N N x1 x2 x3 x5 (nI 1) (nI 0) S)) else (0, x4, ())))
def OB_isIn_22 (N : Nat) (rok : Int32 → Int32 → Int32 → Int32 → Int32 → Prop) (x1 : Int32) (x2 : Int32) (x3 : Int32) (x4 : Int32) (x5 : Int32) (S : rS) : Prop := (o_paymentsOf N S x1) ∧ (((f_paymentsOf N S x1) ≤ x5 → True) ∧ (¬ (f_paymentsOf N S x1) ≤ x5 → ((x4 = 0 → (OL_isIn_43 N N x1 x2 x3 x5 (nI 1) (nI 0) S ∧ OA_isIn_43 N rok x1 x2 x3 x5 (nI 1) (nI 0) S (L_isIn_43 N N x1 x2 x3 x5 (nI 1) (nI 0) S))) ∧ (¬ x4 = 0 → True))))
set_option maxHeartbeats 4000000 in
theorem bb_isIn_22 {G : zG} {E : rE} {S : rS} {N : Nat} {Q : Option Value → rS → Prop} {X : Nat × Int32 × Unit → Prop} (hG : zOK G) (hX0 : ∀ (x4 : Int32) , X (0, x4, ()) → rX G E dX12_isIn mX12_isIn 105 [none, none, none, none, some (.int x4), none, none, none] [] S Q) {rec : Int32 → Int32 → Int32 → Int32 → Int32 → Nat × Int32 × Unit} {rok : Int32 → Int32 → Int32 → Int32 → Int32 → Prop} (hrec : ∀ (x1 : Int32) (x2 : Int32) (x3 : Int32) (x4 : Int32) (x5 : Int32), rok x1 x2 x3 x4 x5 → X (rec x1 x2 x3 x4 x5) → rX G E dX12_isIn mX12_isIn 22 [some (.ref E.1), some (.int x1), some (.int x2), some (.int x3), some (.int x4), some (.int x5), none, none] [] S Q) {x1 : Int32} {x2 : Int32} {x3 : Int32} {x4 : Int32} {x5 : Int32} (ok : OB_isIn_22 N rok x1 x2 x3 x4 x5 S) (hx : X (B_isIn_22 N rec x1 x2 x3 x4 x5 S)) : rX G E dX12_isIn mX12_isIn 22 [some (.ref E.1), some (.int x1), some (.int x2), some (.int x3), some (.int x4), some (.int x5), none, none] [] S Q := by
  unfold OB_isIn_22 at ok
  unfold B_isIn_22 at hx
  refine r_iload dX12_isIn_22 rfl ?_
  refine r_aload_n dX12_isIn_24 rfl rfl ?_
  refine r_iload_n dX12_isIn_25 rfl rfl ?_
  refine r_V1i (y' := mX12_paymentsOf) dX12_isIn_26 lX12_118 kX12_paymentsOf ⟨by decide, by decide⟩ rfl (Nat.le_of_ble_eq_true rfl) (rc_X12_paymentsOf hG ok.1) (fun v_26 S_26 h_26 => ?_)
  obtain ⟨rfl, hS_26⟩ := h_26
  have hS_26 := hS_26.symm
  subst hS_26
  have ok := ok.2
  refine r_icmp_ge (tgt := 105) dX12_isIn_29 (by decide) (fun c_29 => ?_) (fun c_29 => ?_)
  · have ok := ok.1 c_29
    have hx := xif_p c_29 hx
    exact rX.cutz (hX0 _  hx) ⟨rfl, trivial⟩
  · have ok := ok.2 c_29
    have hx := xif_n c_29 hx
    refine r_iload dX12_isIn_32 rfl ?_
    refine r_if_ne (tgt := 105) dX12_isIn_34 (by decide) (fun c_34 => ?_) (fun c_34 => ?_)
    · have ok := ok.2 c_34
      have hx := xif_n c_34 hx
      exact rX.cutz (hX0 _  hx) ⟨rfl, trivial⟩
    · have ok := ok.1 c_34
      have hx := xif_p c_34 hx
      refine r_iconst (v := nI 1) dX12_isIn_37 (by decide) ?_
      refine r_istore_6 dX12_isIn_38 (by decide) rfl ?_
      refine r_iconst (v := nI 0) dX12_isIn_40 (by decide) ?_
      refine r_istore_7 dX12_isIn_41 (by decide) rfl ?_
      exact rX.cutz (c_isIn_43 hG hX0 hrec ok hx) ⟨rfl, rfl, rfl, rfl, rfl, rfl, rfl, trivial⟩
def L_isIn_22 (N : Nat) : Nat → Int32 → Int32 → Int32 → Int32 → Int32 → rS → Nat × Int32 × Unit
  | 0, x1, x2, x3, x4, x5, S => (0, 0, ())
  | n + 1, x1, x2, x3, x4, x5, S => B_isIn_22 N (fun x1 x2 x3 x4 x5 => L_isIn_22 N n x1 x2 x3 x4 x5 S) x1 x2 x3 x4 x5 S
def OL_isIn_22 (N : Nat) : Nat → Int32 → Int32 → Int32 → Int32 → Int32 → rS → Prop
  | 0, _, _, _, _, _, _ => False
  | n + 1, x1, x2, x3, x4, x5, S => OB_isIn_22 N (fun x1 x2 x3 x4 x5 => OL_isIn_22 N n x1 x2 x3 x4 x5 S) x1 x2 x3 x4 x5 S
set_option maxHeartbeats 4000000 in
theorem l_isIn_22 {G : zG} {E : rE} {S : rS} {N : Nat} {Q : Option Value → rS → Prop} {X : Nat × Int32 × Unit → Prop} (hG : zOK G) (hX0 : ∀ (x4 : Int32) , X (0, x4, ()) → rX G E dX12_isIn mX12_isIn 105 [none, none, none, none, some (.int x4), none, none, none] [] S Q) : ∀ (n : Nat) (x1 : Int32) (x2 : Int32) (x3 : Int32) (x4 : Int32) (x5 : Int32) , OL_isIn_22 N n x1 x2 x3 x4 x5 S → X (L_isIn_22 N n x1 x2 x3 x4 x5 S) → rX G E dX12_isIn mX12_isIn 22 [some (.ref E.1), some (.int x1), some (.int x2), some (.int x3), some (.int x4), some (.int x5), none, none] [] S Q := by
  intro n
  induction n with
  | zero => intro x1 x2 x3 x4 x5 ok; exact absurd ok id
  | succ n ih =>
    intro x1 x2 x3 x4 x5 ok hx
    exact bb_isIn_22 hG hX0 (rec := fun x1 x2 x3 x4 x5 => L_isIn_22 N n x1 x2 x3 x4 x5 S) (rok := fun x1 x2 x3 x4 x5 => OL_isIn_22 N n x1 x2 x3 x4 x5 S) (fun x1 x2 x3 x4 x5 ok hx => ih x1 x2 x3 x4 x5 ok hx) ok hx
def A_isIn_22 (N : Nat) (x1 : Int32) (x2 : Int32) (x3 : Int32) (x4 : Int32) (x5 : Int32) (S : rS) (z : Nat × Int32 × Unit) : Int32 := (F_isIn_105 N (z.2.1) S)
def OA_isIn_22 (N : Nat) (x1 : Int32) (x2 : Int32) (x3 : Int32) (x4 : Int32) (x5 : Int32) (S : rS) (z : Nat × Int32 × Unit) : Prop := O_isIn_105 N (z.2.1) S
set_option maxHeartbeats 4000000 in
theorem c_isIn_22 {G : zG} {E : rE} {S : rS} {N : Nat} {Q : Option Value → rS → Prop} {X : Int32 → Prop} (hG : zOK G) (hR : ∀ v, X v → Q (some (.int v)) S) {x1 : Int32} {x2 : Int32} {x3 : Int32} {x4 : Int32} {x5 : Int32} (ok : OL_isIn_22 N N x1 x2 x3 x4 x5 S ∧ OA_isIn_22 N x1 x2 x3 x4 x5 S (L_isIn_22 N N x1 x2 x3 x4 x5 S)) (hx : X (A_isIn_22 N x1 x2 x3 x4 x5 S (L_isIn_22 N N x1 x2 x3 x4 x5 S))) : rX G E dX12_isIn mX12_isIn 22 [some (.ref E.1), some (.int x1), some (.int x2), some (.int x3), some (.int x4), some (.int x5), none, none] [] S Q := by
  refine l_isIn_22 hG ?_ N x1 x2 x3 x4 x5 ok.1 (X := fun z => OA_isIn_22 N x1 x2 x3 x4 x5 S z ∧ X (A_isIn_22 N x1 x2 x3 x4 x5 S z)) ⟨ok.2, hx⟩
  · intro x4' hz
    obtain ⟨ok, hx⟩ := hz
    unfold OA_isIn_22 at ok
    unfold A_isIn_22 at hx
    exact rX.cutz (b_isIn_105 hG hR ok hx) ⟨rfl, trivial⟩
def F_isIn_0 (N : Nat) (x1 : Int32) (x2 : Int32) (S : rS) : Int32 := (A_isIn_22 N x1 x2 ((S.2.1 14 x1.toNatClampNeg) - ((nI 7) * (f_paymentsOf N S x1))) (nI 0) (nI 0) S (L_isIn_22 N N x1 x2 ((S.2.1 14 x1.toNatClampNeg) - ((nI 7) * (f_paymentsOf N S x1))) (nI 0) (nI 0) S))
def O_isIn_0 (N : Nat) (x1 : Int32) (x2 : Int32) (S : rS) : Prop := (vp_in x1 1354) ∧ (o_paymentsOf N S x1) ∧ (OL_isIn_22 N N x1 x2 ((S.2.1 14 x1.toNatClampNeg) - ((nI 7) * (f_paymentsOf N S x1))) (nI 0) (nI 0) S ∧ OA_isIn_22 N x1 x2 ((S.2.1 14 x1.toNatClampNeg) - ((nI 7) * (f_paymentsOf N S x1))) (nI 0) (nI 0) S (L_isIn_22 N N x1 x2 ((S.2.1 14 x1.toNatClampNeg) - ((nI 7) * (f_paymentsOf N S x1))) (nI 0) (nI 0) S))
set_option maxHeartbeats 4000000 in
theorem b_isIn_0 {G : zG} {E : rE} {S : rS} {N : Nat} {Q : Option Value → rS → Prop} {X : Int32 → Prop} (hG : zOK G) (hR : ∀ v, X v → Q (some (.int v)) S) {x1 : Int32} {x2 : Int32} (ok : O_isIn_0 N x1 x2 S) (hx : X (F_isIn_0 N x1 x2 S)) : rX G E dX12_isIn mX12_isIn 0 [some (.ref E.1), some (.int x1), some (.int x2), none, none, none, none, none] [] S Q := by
  unfold O_isIn_0 at ok
  unfold F_isIn_0 at hx
  refine r_aload_n dX12_isIn_0 rfl rfl ?_
  refine r_getA 14 fX12_57 (by decide) (by decide) dX12_isIn_1 ?_
  refine r_iload_n dX12_isIn_4 rfl rfl ?_
  refine r_iald (by decide) (by decide) dX12_isIn_5 ok.1 ?_
  have ok := ok.2
  refine r_bipush (v := nI 7) dX12_isIn_6 (by decide) ?_
  refine r_aload_n dX12_isIn_8 rfl rfl ?_
  refine r_iload_n dX12_isIn_9 rfl rfl ?_
  refine r_V1i (y' := mX12_paymentsOf) dX12_isIn_10 lX12_118 kX12_paymentsOf ⟨by decide, by decide⟩ rfl (Nat.le_of_ble_eq_true rfl) (rc_X12_paymentsOf hG ok.1) (fun v_10 S_10 h_10 => ?_)
  obtain ⟨rfl, hS_10⟩ := h_10
  have hS_10 := hS_10.symm
  subst hS_10
  have ok := ok.2
  refine r_imul dX12_isIn_13 ?_
  refine r_isub dX12_isIn_14 ?_
  refine r_istore_3 dX12_isIn_15 (by decide) rfl ?_
  refine r_iconst (v := nI 0) dX12_isIn_16 (by decide) ?_
  refine r_istore_4 dX12_isIn_17 (by decide) rfl ?_
  refine r_iconst (v := nI 0) dX12_isIn_19 (by decide) ?_
  refine r_istore_5 dX12_isIn_20 (by decide) rfl ?_
  exact rX.cutz (c_isIn_22 hG hR ok hx) ⟨rfl, rfl, rfl, rfl, rfl, rfl, trivial⟩
def f_isIn (N : Nat) (S : rS) (x1 : Int32) (x2 : Int32) : Int32 := F_isIn_0 N x1 x2 S
def o_isIn (N : Nat) (S : rS) (x1 : Int32) (x2 : Int32) : Prop := O_isIn_0 N x1 x2 S
set_option maxHeartbeats 4000000 in
theorem rc_X12_isIn {G : zG} {E : rE} {S : rS} {N : Nat} (hG : zOK G) {x1 : Int32} {x2 : Int32} (ok : o_isIn N S x1 x2) : rCi G E dX12_isIn mX12_isIn [.ref E.1, .int x1, .int x2] S (fun v S' => v = f_isIn N S x1 x2 ∧ S' = S) := by
  refine rC.ofX rfl (Nat.le_of_ble_eq_true rfl) ?_
  show rX G E dX12_isIn mX12_isIn 0 [some (.ref E.1), some (.int x1), some (.int x2), none, none, none, none, none] [] S _
  exact rX.cutz (b_isIn_0 (X := fun F => F = f_isIn N S x1 x2) hG (fun v h => ⟨v, rfl, h, rfl⟩) ok rfl) ⟨rfl, rfl, rfl, trivial⟩
/-! fromPool -/
def F_fromPool_111 (N : Nat) (x1 : Int32) (x3 : Int32) (S : rS) : rS := (rsA S 53 x1.toNatClampNeg x3)
def O_fromPool_111 (N : Nat) (x1 : Int32) (x3 : Int32) (S : rS) : Prop := (vp_in x1 13) ∧ True
set_option maxHeartbeats 4000000 in
theorem b_fromPool_111 {G : zG} {E : rE} {S : rS} {N : Nat} {Q : Option Value → rS → Prop} {X : rS → Prop} (hG : zOK G) (hR : ∀ S', X S' → Q none S') {x1 : Int32} {x3 : Int32} (ok : O_fromPool_111 N x1 x3 S) (hx : X (F_fromPool_111 N x1 x3 S)) : rX G E dX12_fromPool mX12_fromPool 111 [some (.ref E.1), some (.int x1), none, some (.int x3), none, none, none] [] S Q := by
  unfold O_fromPool_111 at ok
  unfold F_fromPool_111 at hx
  refine r_aload_n dX12_fromPool_111 rfl rfl ?_
  refine r_getA 53 fX12_336 (by decide) (by decide) dX12_fromPool_112 ?_
  refine r_iload_n dX12_fromPool_115 rfl rfl ?_
  refine r_iload_n dX12_fromPool_116 rfl rfl ?_
  refine r_iast hG (by decide) (by decide) dX12_fromPool_117 ok.1 ?_
  have ok := ok.2
  exact r_return rfl dX12_fromPool_118 (hR _ hx)
def F_fromPool_104 (N : Nat) (rec : Int32 → Int32 → Int32 → Int32 → rS → Nat × Int32 × Int32 × rS) (x1 : Int32) (x2 : Int32) (x4 : Int32) (s0 : Int32) (S : rS) : Nat × Int32 × Int32 × rS := (rec x1 x2 s0 (x4 + nI 1) S)
def O_fromPool_104 (N : Nat) (rok : Int32 → Int32 → Int32 → Int32 → rS → Prop) (x1 : Int32) (x2 : Int32) (x4 : Int32) (s0 : Int32) (S : rS) : Prop := rok x1 x2 s0 (x4 + nI 1) S
set_option maxHeartbeats 4000000 in
theorem b_fromPool_104 {G : zG} {E : rE} {S : rS} {N : Nat} {Q : Option Value → rS → Prop} {X : Nat × Int32 × Int32 × rS → Prop} (hG : zOK G) (hX0 : ∀ (x1 : Int32) (x3 : Int32) (S' : rS), X (0, x1, x3, S') → rX G E dX12_fromPool mX12_fromPool 111 [some (.ref E.1), some (.int x1), none, some (.int x3), none, none, none] [] S' Q) {rec : Int32 → Int32 → Int32 → Int32 → rS → Nat × Int32 × Int32 × rS} {rok : Int32 → Int32 → Int32 → Int32 → rS → Prop} (hrec : ∀ (x1 : Int32) (x2 : Int32) (x3 : Int32) (x4 : Int32) (S : rS), rok x1 x2 x3 x4 S → X (rec x1 x2 x3 x4 S) → rX G E dX12_fromPool mX12_fromPool 5 [some (.ref E.1), some (.int x1), some (.int x2), some (.int x3), some (.int x4), none, none] [] S Q) {x1 : Int32} {x2 : Int32} {x4 : Int32} {s0 : Int32} (ok : O_fromPool_104 N rok x1 x2 x4 s0 S) (hx : X (F_fromPool_104 N rec x1 x2 x4 s0 S)) : rX G E dX12_fromPool mX12_fromPool 104 [some (.ref E.1), some (.int x1), some (.int x2), none, some (.int x4), none, none] [.int s0] S Q := by
  unfold O_fromPool_104 at ok
  unfold F_fromPool_104 at hx
  refine r_istore_3 dX12_fromPool_104 (by decide) rfl ?_
  refine r_iinc_4 (v := (x4 + nI 1)) dX12_fromPool_105 rfl (by first | rfl | (congr 1)) (by decide) rfl ?_
  refine r_goto (tgt := 5) dX12_fromPool_108 (by decide) ?_
  exact rX.cutz (hrec _ _ _ _ S ok hx) ⟨rfl, rfl, rfl, rfl, rfl, trivial⟩
def F_fromPool_92 (N : Nat) (rec : Int32 → Int32 → Int32 → Int32 → rS → Nat × Int32 × Int32 × rS) (x1 : Int32) (x2 : Int32) (x3 : Int32) (x4 : Int32) (x5 : Int32) (S : rS) : Nat × Int32 × Int32 × rS := (if x5 = 0 then (F_fromPool_104 N rec x1 x2 x4 (x3 + (nI 1)) S) else (F_fromPool_104 N rec x1 x2 x4 x3 S))
def O_fromPool_92 (N : Nat) (rok : Int32 → Int32 → Int32 → Int32 → rS → Prop) (x1 : Int32) (x2 : Int32) (x3 : Int32) (x4 : Int32) (x5 : Int32) (S : rS) : Prop := ((x5 = 0 → O_fromPool_104 N rok x1 x2 x4 (x3 + (nI 1)) S) ∧ (¬ x5 = 0 → O_fromPool_104 N rok x1 x2 x4 x3 S))
set_option maxHeartbeats 4000000 in
theorem b_fromPool_92 {G : zG} {E : rE} {S : rS} {N : Nat} {Q : Option Value → rS → Prop} {X : Nat × Int32 × Int32 × rS → Prop} (hG : zOK G) (hX0 : ∀ (x1 : Int32) (x3 : Int32) (S' : rS), X (0, x1, x3, S') → rX G E dX12_fromPool mX12_fromPool 111 [some (.ref E.1), some (.int x1), none, some (.int x3), none, none, none] [] S' Q) {rec : Int32 → Int32 → Int32 → Int32 → rS → Nat × Int32 × Int32 × rS} {rok : Int32 → Int32 → Int32 → Int32 → rS → Prop} (hrec : ∀ (x1 : Int32) (x2 : Int32) (x3 : Int32) (x4 : Int32) (S : rS), rok x1 x2 x3 x4 S → X (rec x1 x2 x3 x4 S) → rX G E dX12_fromPool mX12_fromPool 5 [some (.ref E.1), some (.int x1), some (.int x2), some (.int x3), some (.int x4), none, none] [] S Q) {x1 : Int32} {x2 : Int32} {x3 : Int32} {x4 : Int32} {x5 : Int32} (ok : O_fromPool_92 N rok x1 x2 x3 x4 x5 S) (hx : X (F_fromPool_92 N rec x1 x2 x3 x4 x5 S)) : rX G E dX12_fromPool mX12_fromPool 92 [some (.ref E.1), some (.int x1), some (.int x2), some (.int x3), some (.int x4), some (.int x5), none] [] S Q := by
  unfold O_fromPool_92 at ok
  unfold F_fromPool_92 at hx
  refine r_iload dX12_fromPool_92 rfl ?_
  refine r_if_eq (tgt := 101) dX12_fromPool_94 (by decide) (fun c_94 => ?_) (fun c_94 => ?_)
  · have ok := ok.1 c_94
    have hx := xif_p c_94 hx
    refine r_iload_n dX12_fromPool_101 rfl rfl ?_
    refine r_iconst (v := nI 1) dX12_fromPool_102 (by decide) ?_
    refine r_iadd dX12_fromPool_103 ?_
    exact rX.cutz (b_fromPool_104 hG hX0 hrec ok hx) ⟨rfl, rfl, rfl, rfl, trivial⟩
  · have ok := ok.2 c_94
    have hx := xif_n c_94 hx
    refine r_iload_n dX12_fromPool_97 rfl rfl ?_
    refine r_goto (tgt := 104) dX12_fromPool_98 (by decide) ?_
    exact rX.cutz (b_fromPool_104 hG hX0 hrec ok hx) ⟨rfl, rfl, rfl, rfl, trivial⟩
def B_fromPool_37 (N : Nat) (rec : Int32 → Int32 → Int32 → Int32 → Int32 → Int32 → rS → Nat × Int32 × Int32 × Int32 × Int32 × Int32 × rS) (x1 : Int32) (x2 : Int32) (x3 : Int32) (x4 : Int32) (x5 : Int32) (x6 : Int32) (S : rS) : Nat × Int32 × Int32 × Int32 × Int32 × Int32 × rS := (if x5 = 0 then (if (nI 7) ≤ x6 then (0, x1, x2, x3, x4, x5, S) else (rec x1 x2 x3 x4 x5 (x6 + nI 1) (rsA S 54 ((((nI 560) * x1) + ((nI 7) * x3)) + x6).toNatClampNeg (S.2.1 54 ((((nI 560) * x1) + ((nI 7) * x4)) + x6).toNatClampNeg)))) else (0, x1, x2, x3, x4, x5, S))
def OB_fromPool_37 (N : Nat) (rok : Int32 → Int32 → Int32 → Int32 → Int32 → Int32 → rS → Prop) (x1 : Int32) (x2 : Int32) (x3 : Int32) (x4 : Int32) (x5 : Int32) (x6 : Int32) (S : rS) : Prop := ((x5 = 0 → (((nI 7) ≤ x6 → True) ∧ (¬ (nI 7) ≤ x6 → (vp_in ((((nI 560) * x1) + ((nI 7) * x4)) + x6) 7280) ∧ (vp_in ((((nI 560) * x1) + ((nI 7) * x3)) + x6) 7280) ∧ rok x1 x2 x3 x4 x5 (x6 + nI 1) (rsA S 54 ((((nI 560) * x1) + ((nI 7) * x3)) + x6).toNatClampNeg (S.2.1 54 ((((nI 560) * x1) + ((nI 7) * x4)) + x6).toNatClampNeg))))) ∧ (¬ x5 = 0 → True))
set_option maxHeartbeats 4000000 in
theorem bb_fromPool_37 {G : zG} {E : rE} {S : rS} {N : Nat} {Q : Option Value → rS → Prop} {X : Nat × Int32 × Int32 × Int32 × Int32 × Int32 × rS → Prop} (hG : zOK G) (hX0 : ∀ (x1 : Int32) (x2 : Int32) (x3 : Int32) (x4 : Int32) (x5 : Int32) (S' : rS), X (0, x1, x2, x3, x4, x5, S') → rX G E dX12_fromPool mX12_fromPool 92 [some (.ref E.1), some (.int x1), some (.int x2), some (.int x3), some (.int x4), some (.int x5), none] [] S' Q) {rec : Int32 → Int32 → Int32 → Int32 → Int32 → Int32 → rS → Nat × Int32 × Int32 × Int32 × Int32 × Int32 × rS} {rok : Int32 → Int32 → Int32 → Int32 → Int32 → Int32 → rS → Prop} (hrec : ∀ (x1 : Int32) (x2 : Int32) (x3 : Int32) (x4 : Int32) (x5 : Int32) (x6 : Int32) (S : rS), rok x1 x2 x3 x4 x5 x6 S → X (rec x1 x2 x3 x4 x5 x6 S) → rX G E dX12_fromPool mX12_fromPool 37 [some (.ref E.1), some (.int x1), some (.int x2), some (.int x3), some (.int x4), some (.int x5), some (.int x6)] [] S Q) {x1 : Int32} {x2 : Int32} {x3 : Int32} {x4 : Int32} {x5 : Int32} {x6 : Int32} (ok : OB_fromPool_37 N rok x1 x2 x3 x4 x5 x6 S) (hx : X (B_fromPool_37 N rec x1 x2 x3 x4 x5 x6 S)) : rX G E dX12_fromPool mX12_fromPool 37 [some (.ref E.1), some (.int x1), some (.int x2), some (.int x3), some (.int x4), some (.int x5), some (.int x6)] [] S Q := by
  unfold OB_fromPool_37 at ok
  unfold B_fromPool_37 at hx
  refine r_iload dX12_fromPool_37 rfl ?_
  refine r_if_ne (tgt := 92) dX12_fromPool_39 (by decide) (fun c_39 => ?_) (fun c_39 => ?_)
  · have ok := ok.2 c_39
    have hx := xif_n c_39 hx
    exact rX.cutz (hX0 _ _ _ _ _ S hx) ⟨rfl, rfl, rfl, rfl, rfl, rfl, trivial⟩
  · have ok := ok.1 c_39
    have hx := xif_p c_39 hx
    refine r_iload dX12_fromPool_42 rfl ?_
    refine r_bipush (v := nI 7) dX12_fromPool_44 (by decide) ?_
    refine r_icmp_ge (tgt := 92) dX12_fromPool_46 (by decide) (fun c_46 => ?_) (fun c_46 => ?_)
    · have ok := ok.1 c_46
      have hx := xif_p c_46 hx
      exact rX.cutz (hX0 _ _ _ _ _ S hx) ⟨rfl, rfl, rfl, rfl, rfl, rfl, trivial⟩
    · have ok := ok.2 c_46
      have hx := xif_n c_46 hx
      refine r_aload_n dX12_fromPool_49 rfl rfl ?_
      refine r_getA 54 fX12_339 (by decide) (by decide) dX12_fromPool_50 ?_
      refine r_sipush (v := nI 560) dX12_fromPool_53 (by decide) ?_
      refine r_iload_n dX12_fromPool_56 rfl rfl ?_
      refine r_imul dX12_fromPool_57 ?_
      refine r_bipush (v := nI 7) dX12_fromPool_58 (by decide) ?_
      refine r_iload_n dX12_fromPool_60 rfl rfl ?_
      refine r_imul dX12_fromPool_61 ?_
      refine r_iadd dX12_fromPool_62 ?_
      refine r_iload dX12_fromPool_63 rfl ?_
      refine r_iadd dX12_fromPool_65 ?_
      refine r_aload_n dX12_fromPool_66 rfl rfl ?_
      refine r_getA 54 fX12_339 (by decide) (by decide) dX12_fromPool_67 ?_
      refine r_sipush (v := nI 560) dX12_fromPool_70 (by decide) ?_
      refine r_iload_n dX12_fromPool_73 rfl rfl ?_
      refine r_imul dX12_fromPool_74 ?_
      refine r_bipush (v := nI 7) dX12_fromPool_75 (by decide) ?_
      refine r_iload dX12_fromPool_77 rfl ?_
      refine r_imul dX12_fromPool_79 ?_
      refine r_iadd dX12_fromPool_80 ?_
      refine r_iload dX12_fromPool_81 rfl ?_
      refine r_iadd dX12_fromPool_83 ?_
      refine r_iald (by decide) (by decide) dX12_fromPool_84 ok.1 ?_
      have ok := ok.2
      refine r_iast hG (by decide) (by decide) dX12_fromPool_85 ok.1 ?_
      have ok := ok.2
      refine r_iinc_6 (v := (x6 + nI 1)) dX12_fromPool_86 rfl (by first | rfl | (congr 1)) (by decide) rfl ?_
      refine r_goto (tgt := 37) dX12_fromPool_89 (by decide) ?_
      exact rX.cutz (hrec _ _ _ _ _ _ (rsA S 54 ((((nI 560) * x1) + ((nI 7) * x3)) + x6).toNatClampNeg (S.2.1 54 ((((nI 560) * x1) + ((nI 7) * x4)) + x6).toNatClampNeg)) ok hx) ⟨rfl, rfl, rfl, rfl, rfl, rfl, rfl, trivial⟩
def L_fromPool_37 (N : Nat) : Nat → Int32 → Int32 → Int32 → Int32 → Int32 → Int32 → rS → Nat × Int32 × Int32 × Int32 × Int32 × Int32 × rS
  | 0, x1, x2, x3, x4, x5, x6, S => (0, 0, 0, 0, 0, 0, S)
  | n + 1, x1, x2, x3, x4, x5, x6, S => B_fromPool_37 N (L_fromPool_37 N n) x1 x2 x3 x4 x5 x6 S
def OL_fromPool_37 (N : Nat) : Nat → Int32 → Int32 → Int32 → Int32 → Int32 → Int32 → rS → Prop
  | 0, _, _, _, _, _, _, _ => False
  | n + 1, x1, x2, x3, x4, x5, x6, S => OB_fromPool_37 N (OL_fromPool_37 N n) x1 x2 x3 x4 x5 x6 S
set_option maxHeartbeats 4000000 in
theorem l_fromPool_37 {G : zG} {E : rE} {N : Nat} {Q : Option Value → rS → Prop} {X : Nat × Int32 × Int32 × Int32 × Int32 × Int32 × rS → Prop} (hG : zOK G) (hX0 : ∀ (x1 : Int32) (x2 : Int32) (x3 : Int32) (x4 : Int32) (x5 : Int32) (S' : rS), X (0, x1, x2, x3, x4, x5, S') → rX G E dX12_fromPool mX12_fromPool 92 [some (.ref E.1), some (.int x1), some (.int x2), some (.int x3), some (.int x4), some (.int x5), none] [] S' Q) : ∀ (n : Nat) (x1 : Int32) (x2 : Int32) (x3 : Int32) (x4 : Int32) (x5 : Int32) (x6 : Int32) (S : rS), OL_fromPool_37 N n x1 x2 x3 x4 x5 x6 S → X (L_fromPool_37 N n x1 x2 x3 x4 x5 x6 S) → rX G E dX12_fromPool mX12_fromPool 37 [some (.ref E.1), some (.int x1), some (.int x2), some (.int x3), some (.int x4), some (.int x5), some (.int x6)] [] S Q := by
  intro n
  induction n with
  | zero => intro x1 x2 x3 x4 x5 x6 S ok; exact absurd ok id
  | succ n ih =>
    intro x1 x2 x3 x4 x5 x6 S ok hx
    exact bb_fromPool_37 hG hX0 (rec := L_fromPool_37 N n) (rok := OL_fromPool_37 N n) (fun x1 x2 x3 x4 x5 x6 S ok hx => ih x1 x2 x3 x4 x5 x6 S ok hx) ok hx
def A_fromPool_37 (N : Nat) (rec : Int32 → Int32 → Int32 → Int32 → rS → Nat × Int32 × Int32 × rS) (x1 : Int32) (x2 : Int32) (x3 : Int32) (x4 : Int32) (x5 : Int32) (x6 : Int32) (S : rS) (z : Nat × Int32 × Int32 × Int32 × Int32 × Int32 × rS) : Nat × Int32 × Int32 × rS := (F_fromPool_92 N rec (z.2.1) (z.2.2.1) (z.2.2.2.1) (z.2.2.2.2.1) (z.2.2.2.2.2.1) z.2.2.2.2.2.2)
def OA_fromPool_37 (N : Nat) (rok : Int32 → Int32 → Int32 → Int32 → rS → Prop) (x1 : Int32) (x2 : Int32) (x3 : Int32) (x4 : Int32) (x5 : Int32) (x6 : Int32) (S : rS) (z : Nat × Int32 × Int32 × Int32 × Int32 × Int32 × rS) : Prop := O_fromPool_92 N rok (z.2.1) (z.2.2.1) (z.2.2.2.1) (z.2.2.2.2.1) (z.2.2.2.2.2.1) z.2.2.2.2.2.2
set_option maxHeartbeats 4000000 in
theorem c_fromPool_37 {G : zG} {E : rE} {S : rS} {N : Nat} {Q : Option Value → rS → Prop} {X : Nat × Int32 × Int32 × rS → Prop} (hG : zOK G) (hX0 : ∀ (x1 : Int32) (x3 : Int32) (S' : rS), X (0, x1, x3, S') → rX G E dX12_fromPool mX12_fromPool 111 [some (.ref E.1), some (.int x1), none, some (.int x3), none, none, none] [] S' Q) {rec : Int32 → Int32 → Int32 → Int32 → rS → Nat × Int32 × Int32 × rS} {rok : Int32 → Int32 → Int32 → Int32 → rS → Prop} (hrec : ∀ (x1 : Int32) (x2 : Int32) (x3 : Int32) (x4 : Int32) (S : rS), rok x1 x2 x3 x4 S → X (rec x1 x2 x3 x4 S) → rX G E dX12_fromPool mX12_fromPool 5 [some (.ref E.1), some (.int x1), some (.int x2), some (.int x3), some (.int x4), none, none] [] S Q) {x1 : Int32} {x2 : Int32} {x3 : Int32} {x4 : Int32} {x5 : Int32} {x6 : Int32} (ok : OL_fromPool_37 N N x1 x2 x3 x4 x5 x6 S ∧ OA_fromPool_37 N rok x1 x2 x3 x4 x5 x6 S (L_fromPool_37 N N x1 x2 x3 x4 x5 x6 S)) (hx : X (A_fromPool_37 N rec x1 x2 x3 x4 x5 x6 S (L_fromPool_37 N N x1 x2 x3 x4 x5 x6 S))) : rX G E dX12_fromPool mX12_fromPool 37 [some (.ref E.1), some (.int x1), some (.int x2), some (.int x3), some (.int x4), some (.int x5), some (.int x6)] [] S Q := by
  refine l_fromPool_37 hG ?_ N x1 x2 x3 x4 x5 x6 S ok.1 (X := fun z => OA_fromPool_37 N rok x1 x2 x3 x4 x5 x6 S z ∧ X (A_fromPool_37 N rec x1 x2 x3 x4 x5 x6 S z)) ⟨ok.2, hx⟩
  · intro x1' x2' x3' x4' x5' S' hz
    obtain ⟨ok, hx⟩ := hz
    unfold OA_fromPool_37 at ok
    unfold A_fromPool_37 at hx
    exact rX.cutz (b_fromPool_92 hG hX0 hrec ok hx) ⟨rfl, rfl, rfl, rfl, rfl, rfl, trivial⟩
def B_fromPool_5 (N : Nat) (rec : Int32 → Int32 → Int32 → Int32 → rS → Nat × Int32 × Int32 × rS) (x1 : Int32) (x2 : Int32) (x3 : Int32) (x4 : Int32) (S : rS) : Nat × Int32 × Int32 × rS := (if (S.2.1 53 x1.toNatClampNeg) ≤ x4 then (0, x1, x3, S) else (A_fromPool_37 N rec x1 x2 x3 x4 (f_isIn N S x2 (((nI 560) * x1) + ((nI 7) * x4))) (nI 0) S (L_fromPool_37 N N x1 x2 x3 x4 (f_isIn N S x2 (((nI 560) * x1) + ((nI 7) * x4))) (nI 0) S)))
def OB_fromPool_5 (N : Nat) (rok : Int32 → Int32 → Int32 → Int32 → rS → Prop) (x1 : Int32) (x2 : Int32) (x3 : Int32) (x4 : Int32) (S : rS) : Prop := (vp_in x1 13) ∧ (((S.2.1 53 x1.toNatClampNeg) ≤ x4 → True) ∧ (¬ (S.2.1 53 x1.toNatClampNeg) ≤ x4 → (o_isIn N S x2 (((nI 560) * x1) + ((nI 7) * x4))) ∧ (OL_fromPool_37 N N x1 x2 x3 x4 (f_isIn N S x2 (((nI 560) * x1) + ((nI 7) * x4))) (nI 0) S ∧ OA_fromPool_37 N rok x1 x2 x3 x4 (f_isIn N S x2 (((nI 560) * x1) + ((nI 7) * x4))) (nI 0) S (L_fromPool_37 N N x1 x2 x3 x4 (f_isIn N S x2 (((nI 560) * x1) + ((nI 7) * x4))) (nI 0) S))))
set_option maxHeartbeats 4000000 in
theorem bb_fromPool_5 {G : zG} {E : rE} {S : rS} {N : Nat} {Q : Option Value → rS → Prop} {X : Nat × Int32 × Int32 × rS → Prop} (hG : zOK G) (hX0 : ∀ (x1 : Int32) (x3 : Int32) (S' : rS), X (0, x1, x3, S') → rX G E dX12_fromPool mX12_fromPool 111 [some (.ref E.1), some (.int x1), none, some (.int x3), none, none, none] [] S' Q) {rec : Int32 → Int32 → Int32 → Int32 → rS → Nat × Int32 × Int32 × rS} {rok : Int32 → Int32 → Int32 → Int32 → rS → Prop} (hrec : ∀ (x1 : Int32) (x2 : Int32) (x3 : Int32) (x4 : Int32) (S : rS), rok x1 x2 x3 x4 S → X (rec x1 x2 x3 x4 S) → rX G E dX12_fromPool mX12_fromPool 5 [some (.ref E.1), some (.int x1), some (.int x2), some (.int x3), some (.int x4), none, none] [] S Q) {x1 : Int32} {x2 : Int32} {x3 : Int32} {x4 : Int32} (ok : OB_fromPool_5 N rok x1 x2 x3 x4 S) (hx : X (B_fromPool_5 N rec x1 x2 x3 x4 S)) : rX G E dX12_fromPool mX12_fromPool 5 [some (.ref E.1), some (.int x1), some (.int x2), some (.int x3), some (.int x4), none, none] [] S Q := by
  unfold OB_fromPool_5 at ok
  unfold B_fromPool_5 at hx
  refine r_iload dX12_fromPool_5 rfl ?_
  refine r_aload_n dX12_fromPool_7 rfl rfl ?_
  refine r_getA 53 fX12_336 (by decide) (by decide) dX12_fromPool_8 ?_
  refine r_iload_n dX12_fromPool_11 rfl rfl ?_
  refine r_iald (by decide) (by decide) dX12_fromPool_12 ok.1 ?_
  have ok := ok.2
  refine r_icmp_ge (tgt := 111) dX12_fromPool_13 (by decide) (fun c_13 => ?_) (fun c_13 => ?_)
  · have ok := ok.1 c_13
    have hx := xif_p c_13 hx
    exact rX.cutz (hX0 _ _ S hx) ⟨rfl, rfl, rfl, trivial⟩
  · have ok := ok.2 c_13
    have hx := xif_n c_13 hx
    refine r_aload_n dX12_fromPool_16 rfl rfl ?_
    refine r_iload_n dX12_fromPool_17 rfl rfl ?_
    refine r_sipush (v := nI 560) dX12_fromPool_18 (by decide) ?_
    refine r_iload_n dX12_fromPool_21 rfl rfl ?_
    refine r_imul dX12_fromPool_22 ?_
    refine r_bipush (v := nI 7) dX12_fromPool_23 (by decide) ?_
    refine r_iload dX12_fromPool_25 rfl ?_
    refine r_imul dX12_fromPool_27 ?_
    refine r_iadd dX12_fromPool_28 ?_
    refine r_V2i (y' := mX12_isIn) dX12_fromPool_29 lX12_563 kX12_isIn ⟨by decide, by decide⟩ rfl (Nat.le_of_ble_eq_true rfl) (rc_X12_isIn hG ok.1) (fun v_29 S_29 h_29 => ?_)
    obtain ⟨rfl, hS_29⟩ := h_29
    have hS_29 := hS_29.symm
    subst hS_29
    have ok := ok.2
    refine r_istore_5 dX12_fromPool_32 (by decide) rfl ?_
    refine r_iconst (v := nI 0) dX12_fromPool_34 (by decide) ?_
    refine r_istore_6 dX12_fromPool_35 (by decide) rfl ?_
    exact rX.cutz (c_fromPool_37 hG hX0 hrec ok hx) ⟨rfl, rfl, rfl, rfl, rfl, rfl, rfl, trivial⟩
def L_fromPool_5 (N : Nat) : Nat → Int32 → Int32 → Int32 → Int32 → rS → Nat × Int32 × Int32 × rS
  | 0, x1, x2, x3, x4, S => (0, 0, 0, S)
  | n + 1, x1, x2, x3, x4, S => B_fromPool_5 N (L_fromPool_5 N n) x1 x2 x3 x4 S
def OL_fromPool_5 (N : Nat) : Nat → Int32 → Int32 → Int32 → Int32 → rS → Prop
  | 0, _, _, _, _, _ => False
  | n + 1, x1, x2, x3, x4, S => OB_fromPool_5 N (OL_fromPool_5 N n) x1 x2 x3 x4 S
set_option maxHeartbeats 4000000 in
theorem l_fromPool_5 {G : zG} {E : rE} {N : Nat} {Q : Option Value → rS → Prop} {X : Nat × Int32 × Int32 × rS → Prop} (hG : zOK G) (hX0 : ∀ (x1 : Int32) (x3 : Int32) (S' : rS), X (0, x1, x3, S') → rX G E dX12_fromPool mX12_fromPool 111 [some (.ref E.1), some (.int x1), none, some (.int x3), none, none, none] [] S' Q) : ∀ (n : Nat) (x1 : Int32) (x2 : Int32) (x3 : Int32) (x4 : Int32) (S : rS), OL_fromPool_5 N n x1 x2 x3 x4 S → X (L_fromPool_5 N n x1 x2 x3 x4 S) → rX G E dX12_fromPool mX12_fromPool 5 [some (.ref E.1), some (.int x1), some (.int x2), some (.int x3), some (.int x4), none, none] [] S Q := by
  intro n
  induction n with
  | zero => intro x1 x2 x3 x4 S ok; exact absurd ok id
  | succ n ih =>
    intro x1 x2 x3 x4 S ok hx
    exact bb_fromPool_5 hG hX0 (rec := L_fromPool_5 N n) (rok := OL_fromPool_5 N n) (fun x1 x2 x3 x4 S ok hx => ih x1 x2 x3 x4 S ok hx) ok hx
def A_fromPool_5 (N : Nat) (x1 : Int32) (x2 : Int32) (x3 : Int32) (x4 : Int32) (S : rS) (z : Nat × Int32 × Int32 × rS) : rS := (F_fromPool_111 N (z.2.1) (z.2.2.1) z.2.2.2)
def OA_fromPool_5 (N : Nat) (x1 : Int32) (x2 : Int32) (x3 : Int32) (x4 : Int32) (S : rS) (z : Nat × Int32 × Int32 × rS) : Prop := O_fromPool_111 N (z.2.1) (z.2.2.1) z.2.2.2
set_option maxHeartbeats 4000000 in
theorem c_fromPool_5 {G : zG} {E : rE} {S : rS} {N : Nat} {Q : Option Value → rS → Prop} {X : rS → Prop} (hG : zOK G) (hR : ∀ S', X S' → Q none S') {x1 : Int32} {x2 : Int32} {x3 : Int32} {x4 : Int32} (ok : OL_fromPool_5 N N x1 x2 x3 x4 S ∧ OA_fromPool_5 N x1 x2 x3 x4 S (L_fromPool_5 N N x1 x2 x3 x4 S)) (hx : X (A_fromPool_5 N x1 x2 x3 x4 S (L_fromPool_5 N N x1 x2 x3 x4 S))) : rX G E dX12_fromPool mX12_fromPool 5 [some (.ref E.1), some (.int x1), some (.int x2), some (.int x3), some (.int x4), none, none] [] S Q := by
  refine l_fromPool_5 hG ?_ N x1 x2 x3 x4 S ok.1 (X := fun z => OA_fromPool_5 N x1 x2 x3 x4 S z ∧ X (A_fromPool_5 N x1 x2 x3 x4 S z)) ⟨ok.2, hx⟩
  · intro x1' x3' S' hz
    obtain ⟨ok, hx⟩ := hz
    unfold OA_fromPool_5 at ok
    unfold A_fromPool_5 at hx
    exact rX.cutz (b_fromPool_111 hG hR ok hx) ⟨rfl, rfl, rfl, trivial⟩
def F_fromPool_0 (N : Nat) (x1 : Int32) (x2 : Int32) (S : rS) : rS := (A_fromPool_5 N x1 x2 (nI 0) (nI 0) S (L_fromPool_5 N N x1 x2 (nI 0) (nI 0) S))
def O_fromPool_0 (N : Nat) (x1 : Int32) (x2 : Int32) (S : rS) : Prop := (OL_fromPool_5 N N x1 x2 (nI 0) (nI 0) S ∧ OA_fromPool_5 N x1 x2 (nI 0) (nI 0) S (L_fromPool_5 N N x1 x2 (nI 0) (nI 0) S))
set_option maxHeartbeats 4000000 in
theorem b_fromPool_0 {G : zG} {E : rE} {S : rS} {N : Nat} {Q : Option Value → rS → Prop} {X : rS → Prop} (hG : zOK G) (hR : ∀ S', X S' → Q none S') {x1 : Int32} {x2 : Int32} (ok : O_fromPool_0 N x1 x2 S) (hx : X (F_fromPool_0 N x1 x2 S)) : rX G E dX12_fromPool mX12_fromPool 0 [some (.ref E.1), some (.int x1), some (.int x2), none, none, none, none] [] S Q := by
  unfold O_fromPool_0 at ok
  unfold F_fromPool_0 at hx
  refine r_iconst (v := nI 0) dX12_fromPool_0 (by decide) ?_
  refine r_istore_3 dX12_fromPool_1 (by decide) rfl ?_
  refine r_iconst (v := nI 0) dX12_fromPool_2 (by decide) ?_
  refine r_istore_4 dX12_fromPool_3 (by decide) rfl ?_
  exact rX.cutz (c_fromPool_5 hG hR ok hx) ⟨rfl, rfl, rfl, rfl, rfl, trivial⟩
def f_fromPool (N : Nat) (S : rS) (x1 : Int32) (x2 : Int32) : rS := F_fromPool_0 N x1 x2 S
def o_fromPool (N : Nat) (S : rS) (x1 : Int32) (x2 : Int32) : Prop := O_fromPool_0 N x1 x2 S
set_option maxHeartbeats 4000000 in
theorem rc_X12_fromPool {G : zG} {E : rE} {S : rS} {N : Nat} (hG : zOK G) {x1 : Int32} {x2 : Int32} (ok : o_fromPool N S x1 x2) : rCv G E dX12_fromPool mX12_fromPool [.ref E.1, .int x1, .int x2] S (fun S' => S' = f_fromPool N S x1 x2) := by
  refine rC.ofX rfl (Nat.le_of_ble_eq_true rfl) ?_
  show rX G E dX12_fromPool mX12_fromPool 0 [some (.ref E.1), some (.int x1), some (.int x2), none, none, none, none] [] S _
  exact rX.cutz (b_fromPool_0 (X := fun F => F = f_fromPool N S x1 x2) hG (fun S' h => ⟨rfl, h⟩) ok rfl) ⟨rfl, rfl, rfl, trivial⟩

/-! takeSlot -/
def F_takeSlot_50 (N : Nat) (x1 : Int32) (S : rS) : Int32 × rS := (x1, S)
def O_takeSlot_50 (N : Nat) (x1 : Int32) (S : rS) : Prop := True
set_option maxHeartbeats 4000000 in
theorem b_takeSlot_50 {G : zG} {E : rE} {S : rS} {N : Nat} {Q : Option Value → rS → Prop} {X : Int32 × rS → Prop} (hG : zOK G) (hR : ∀ v S', X (v, S') → Q (some (.int v)) S') {x1 : Int32} (ok : O_takeSlot_50 N x1 S) (hx : X (F_takeSlot_50 N x1 S)) : rX G E dX12_takeSlot mX12_takeSlot 50 [none, some (.int x1)] [] S Q := by
  unfold O_takeSlot_50 at ok
  unfold F_takeSlot_50 at hx
  refine r_iload_n dX12_takeSlot_50 rfl rfl ?_
  exact r_ireturn rfl rfl dX12_takeSlot_51 (hR _ _ hx)
def F_takeSlot_30 (N : Nat) (x1 : Int32) (S : rS) : Int32 × rS := (F_takeSlot_50 N x1 (rsA (rsI S 23 ((S.1 23) + (nI 1))) 30 x1.toNatClampNeg ((rsI S 23 ((S.1 23) + (nI 1))).1 3)))
def O_takeSlot_30 (N : Nat) (x1 : Int32) (S : rS) : Prop := (vp_in x1 1000) ∧ O_takeSlot_50 N x1 (rsA (rsI S 23 ((S.1 23) + (nI 1))) 30 x1.toNatClampNeg ((rsI S 23 ((S.1 23) + (nI 1))).1 3))
set_option maxHeartbeats 4000000 in
theorem b_takeSlot_30 {G : zG} {E : rE} {S : rS} {N : Nat} {Q : Option Value → rS → Prop} {X : Int32 × rS → Prop} (hG : zOK G) (hR : ∀ v S', X (v, S') → Q (some (.int v)) S') {x1 : Int32} (ok : O_takeSlot_30 N x1 S) (hx : X (F_takeSlot_30 N x1 S)) : rX G E dX12_takeSlot mX12_takeSlot 30 [some (.ref E.1), some (.int x1)] [] S Q := by
  unfold O_takeSlot_30 at ok
  unfold F_takeSlot_30 at hx
  refine r_aload_n dX12_takeSlot_30 rfl rfl ?_
  refine r_aload_n dX12_takeSlot_31 rfl rfl ?_
  refine r_getI 23 fX12_182 (by decide) (by decide) dX12_takeSlot_32 ?_
  refine r_iconst (v := nI 1) dX12_takeSlot_35 (by decide) ?_
  refine r_iadd dX12_takeSlot_36 ?_
  refine r_putI 23 fX12_182 (by decide) (by decide) rfl rfl rfl dX12_takeSlot_37 ?_
  refine r_aload_n dX12_takeSlot_40 rfl rfl ?_
  refine r_getA 30 fX12_213 (by decide) (by decide) dX12_takeSlot_41 ?_
  refine r_iload_n dX12_takeSlot_44 rfl rfl ?_
  refine r_aload_n dX12_takeSlot_45 rfl rfl ?_
  refine r_getI 3 fX12_216 (by decide) (by decide) dX12_takeSlot_46 ?_
  refine r_iast hG (by decide) (by decide) dX12_takeSlot_49 ok.1 ?_
  have ok := ok.2
  exact rX.cutz (b_takeSlot_50 hG hR ok hx) ⟨rfl, trivial⟩
def F_takeSlot_0 (N : Nat)  (S : rS) : Int32 × rS := (F_takeSlot_30 N ((rsI S 25 ((S.1 25) - (nI 1))).2.1 26 ((rsI S 25 ((S.1 25) - (nI 1))).1 25).toNatClampNeg) (rsA (rsI S 25 ((S.1 25) - (nI 1))) 24 ((rsI S 25 ((S.1 25) - (nI 1))).1 23).toNatClampNeg ((rsI S 25 ((S.1 25) - (nI 1))).2.1 26 ((rsI S 25 ((S.1 25) - (nI 1))).1 25).toNatClampNeg)))
def O_takeSlot_0 (N : Nat)  (S : rS) : Prop := (vp_in ((rsI S 25 ((S.1 25) - (nI 1))).1 25) 1000) ∧ (vp_in ((rsI S 25 ((S.1 25) - (nI 1))).1 23) 1000) ∧ O_takeSlot_30 N ((rsI S 25 ((S.1 25) - (nI 1))).2.1 26 ((rsI S 25 ((S.1 25) - (nI 1))).1 25).toNatClampNeg) (rsA (rsI S 25 ((S.1 25) - (nI 1))) 24 ((rsI S 25 ((S.1 25) - (nI 1))).1 23).toNatClampNeg ((rsI S 25 ((S.1 25) - (nI 1))).2.1 26 ((rsI S 25 ((S.1 25) - (nI 1))).1 25).toNatClampNeg))
set_option maxHeartbeats 4000000 in
theorem b_takeSlot_0 {G : zG} {E : rE} {S : rS} {N : Nat} {Q : Option Value → rS → Prop} {X : Int32 × rS → Prop} (hG : zOK G) (hR : ∀ v S', X (v, S') → Q (some (.int v)) S') (ok : O_takeSlot_0 N S) (hx : X (F_takeSlot_0 N S)) : rX G E dX12_takeSlot mX12_takeSlot 0 [some (.ref E.1), none] [] S Q := by
  unfold O_takeSlot_0 at ok
  unfold F_takeSlot_0 at hx
  refine r_aload_n dX12_takeSlot_0 rfl rfl ?_
  refine r_aload_n dX12_takeSlot_1 rfl rfl ?_
  refine r_getI 25 fX12_207 (by decide) (by decide) dX12_takeSlot_2 ?_
  refine r_iconst (v := nI 1) dX12_takeSlot_5 (by decide) ?_
  refine r_isub dX12_takeSlot_6 ?_
  refine r_putI 25 fX12_207 (by decide) (by decide) rfl rfl rfl dX12_takeSlot_7 ?_
  refine r_aload_n dX12_takeSlot_10 rfl rfl ?_
  refine r_getA 26 fX12_210 (by decide) (by decide) dX12_takeSlot_11 ?_
  refine r_aload_n dX12_takeSlot_14 rfl rfl ?_
  refine r_getI 25 fX12_207 (by decide) (by decide) dX12_takeSlot_15 ?_
  refine r_iald (by decide) (by decide) dX12_takeSlot_18 ok.1 ?_
  have ok := ok.2
  refine r_istore_1 dX12_takeSlot_19 (by decide) rfl ?_
  refine r_aload_n dX12_takeSlot_20 rfl rfl ?_
  refine r_getA 24 fX12_176 (by decide) (by decide) dX12_takeSlot_21 ?_
  refine r_aload_n dX12_takeSlot_24 rfl rfl ?_
  refine r_getI 23 fX12_182 (by decide) (by decide) dX12_takeSlot_25 ?_
  refine r_iload_n dX12_takeSlot_28 rfl rfl ?_
  refine r_iast hG (by decide) (by decide) dX12_takeSlot_29 ok.1 ?_
  have ok := ok.2
  exact rX.cutz (b_takeSlot_30 hG hR ok hx) ⟨rfl, rfl, trivial⟩
def f_takeSlot (N : Nat) (S : rS) : Int32 × rS := F_takeSlot_0 N S
def o_takeSlot (N : Nat) (S : rS) : Prop := O_takeSlot_0 N S
set_option maxHeartbeats 4000000 in
theorem rc_X12_takeSlot {G : zG} {E : rE} {S : rS} {N : Nat} (hG : zOK G) (ok : o_takeSlot N S ) : rCi G E dX12_takeSlot mX12_takeSlot [.ref E.1] S (fun v S' => v = (f_takeSlot N S).1 ∧ S' = (f_takeSlot N S).2) := by
  refine rC.ofX rfl (Nat.le_of_ble_eq_true rfl) ?_
  show rX G E dX12_takeSlot mX12_takeSlot 0 [some (.ref E.1), none] [] S _
  exact rX.cutz (b_takeSlot_0 (X := fun F => F = f_takeSlot N S) hG (fun v S' h => ⟨v, rfl, by rw [← h], by rw [← h]⟩) ok rfl) ⟨rfl, trivial⟩
/-! fly -/
def F_fly_156 (N : Nat)  (S : rS) : Int32 × rS := ((nI 1), S)
def O_fly_156 (N : Nat)  (S : rS) : Prop := True
set_option maxHeartbeats 4000000 in
theorem b_fly_156 {G : zG} {E : rE} {S : rS} {N : Nat} {Q : Option Value → rS → Prop} {X : Int32 × rS → Prop} (hG : zOK G) (hR : ∀ v S', X (v, S') → Q (some (.int v)) S') (ok : O_fly_156 N S) (hx : X (F_fly_156 N S)) : rX G E dX12_fly mX12_fly 156 [none, none, none, none, none, none, none, none] [] S Q := by
  unfold O_fly_156 at ok
  unfold F_fly_156 at hx
  refine r_iconst (v := nI 1) dX12_fly_156 (by decide) ?_
  exact r_ireturn rfl rfl dX12_fly_157 (hR _ _ hx)
def F_fly_136 (N : Nat) (rec : Int32 → Int32 → rS → Nat × rS) (x3 : Int32) (x4 : Int32) (x5 : Int64) (S : rS) : Nat × rS := (rec x3 (x4 + nI 1) (rsL S 31 (((nI 125) * x3) + x4).toNatClampNeg x5))
def O_fly_136 (N : Nat) (rok : Int32 → Int32 → rS → Prop) (x3 : Int32) (x4 : Int32) (x5 : Int64) (S : rS) : Prop := (vp_in (((nI 125) * x3) + x4) 125000) ∧ rok x3 (x4 + nI 1) (rsL S 31 (((nI 125) * x3) + x4).toNatClampNeg x5)
set_option maxHeartbeats 4000000 in
theorem b_fly_136 {G : zG} {E : rE} {S : rS} {N : Nat} {Q : Option Value → rS → Prop} {X : Nat × rS → Prop} (hG : zOK G) (hX0 : ∀ (S' : rS), X (0, S') → rX G E dX12_fly mX12_fly 156 [none, none, none, none, none, none, none, none] [] S' Q) {rec : Int32 → Int32 → rS → Nat × rS} {rok : Int32 → Int32 → rS → Prop} (hrec : ∀ (x3 : Int32) (x4 : Int32) (S : rS), rok x3 x4 S → X (rec x3 x4 S) → rX G E dX12_fly mX12_fly 64 [some (.ref E.1), none, none, some (.int x3), some (.int x4), none, none, none] [] S Q) {x3 : Int32} {x4 : Int32} {x5 : Int64} (ok : O_fly_136 N rok x3 x4 x5 S) (hx : X (F_fly_136 N rec x3 x4 x5 S)) : rX G E dX12_fly mX12_fly 136 [some (.ref E.1), none, none, some (.int x3), some (.int x4), some (.long x5), none, none] [] S Q := by
  unfold O_fly_136 at ok
  unfold F_fly_136 at hx
  refine r_aload_n dX12_fly_136 rfl rfl ?_
  refine r_getA 31 fX12_179 (by decide) (by decide) dX12_fly_137 ?_
  refine r_bipush (v := nI 125) dX12_fly_140 (by decide) ?_
  refine r_iload_n dX12_fly_142 rfl rfl ?_
  refine r_imul dX12_fly_143 ?_
  refine r_iload dX12_fly_144 rfl ?_
  refine r_iadd dX12_fly_146 ?_
  refine r_lload dX12_fly_147 rfl ?_
  refine r_last (by decide) (by decide) dX12_fly_149 ok.1 ?_
  have ok := ok.2
  refine r_iinc_4 (v := (x4 + nI 1)) dX12_fly_150 rfl (by first | rfl | (congr 1)) (by decide) rfl ?_
  refine r_goto (tgt := 64) dX12_fly_153 (by decide) ?_
  exact rX.cutz (hrec _ _ (rsL S 31 (((nI 125) * x3) + x4).toNatClampNeg x5) ok hx) ⟨rfl, rfl, rfl, trivial⟩
def F_fly_126 (N : Nat) (rec : Int32 → Int32 → Int64 → Int32 → rS → Nat × Int32 × Int32 × Int64 × rS) (x3 : Int32) (x4 : Int32) (x7 : Int32) (s0 : Int64) (s1 : Int32) (S : rS) : Nat × Int32 × Int32 × Int64 × rS := (rec x3 x4 (s0 ||| (Int32.toInt64 s1)) (x7 + nI 1) S)
def O_fly_126 (N : Nat) (rok : Int32 → Int32 → Int64 → Int32 → rS → Prop) (x3 : Int32) (x4 : Int32) (x7 : Int32) (s0 : Int64) (s1 : Int32) (S : rS) : Prop := rok x3 x4 (s0 ||| (Int32.toInt64 s1)) (x7 + nI 1) S
set_option maxHeartbeats 4000000 in
theorem b_fly_126 {G : zG} {E : rE} {S : rS} {N : Nat} {Q : Option Value → rS → Prop} {X : Nat × Int32 × Int32 × Int64 × rS → Prop} (hG : zOK G) (hX0 : ∀ (x3 : Int32) (x4 : Int32) (x5 : Int64) (S' : rS), X (0, x3, x4, x5, S') → rX G E dX12_fly mX12_fly 136 [some (.ref E.1), none, none, some (.int x3), some (.int x4), some (.long x5), none, none] [] S' Q) {rec : Int32 → Int32 → Int64 → Int32 → rS → Nat × Int32 × Int32 × Int64 × rS} {rok : Int32 → Int32 → Int64 → Int32 → rS → Prop} (hrec : ∀ (x3 : Int32) (x4 : Int32) (x5 : Int64) (x7 : Int32) (S : rS), rok x3 x4 x5 x7 S → X (rec x3 x4 x5 x7 S) → rX G E dX12_fly mX12_fly 82 [some (.ref E.1), none, none, some (.int x3), some (.int x4), some (.long x5), none, some (.int x7)] [] S Q) {x3 : Int32} {x4 : Int32} {x7 : Int32} {s0 : Int64} {s1 : Int32} (ok : O_fly_126 N rok x3 x4 x7 s0 s1 S) (hx : X (F_fly_126 N rec x3 x4 x7 s0 s1 S)) : rX G E dX12_fly mX12_fly 126 [some (.ref E.1), none, none, some (.int x3), some (.int x4), none, none, some (.int x7)] [.int s1, .long s0] S Q := by
  unfold O_fly_126 at ok
  unfold F_fly_126 at hx
  refine r_i2l dX12_fly_126 ?_
  refine r_lor dX12_fly_127 ?_
  refine r_lstore_5 dX12_fly_128 (by decide) rfl ?_
  refine r_iinc_7 (v := (x7 + nI 1)) dX12_fly_130 rfl (by first | rfl | (congr 1)) (by decide) rfl ?_
  refine r_goto (tgt := 82) dX12_fly_133 (by decide) ?_
  exact rX.cutz (hrec _ _ _ _ S ok hx) ⟨rfl, rfl, rfl, rfl, rfl, trivial⟩
def B_fly_82 (N : Nat) (rec : Int32 → Int32 → Int64 → Int32 → rS → Nat × Int32 × Int32 × Int64 × rS) (x3 : Int32) (x4 : Int32) (x5 : Int64) (x7 : Int32) (S : rS) : Nat × Int32 × Int32 × Int64 × rS := (if (nI 8) ≤ x7 then (0, x3, x4, x5, S) else (if (S.1 33) ≤ (((nI 8) * x4) + x7) then (F_fly_126 N rec x3 x4 x7 (x5 <<< (Int32.toInt64 (nI 8) &&& 63)) (nI 0) S) else (F_fly_126 N rec x3 x4 x7 (x5 <<< (Int32.toInt64 (nI 8) &&& 63)) (S.2.1 32 (((nI 8) * x4) + x7).toNatClampNeg) S)))
def OB_fly_82 (N : Nat) (rok : Int32 → Int32 → Int64 → Int32 → rS → Prop) (x3 : Int32) (x4 : Int32) (x5 : Int64) (x7 : Int32) (S : rS) : Prop := (((nI 8) ≤ x7 → True) ∧ (¬ (nI 8) ≤ x7 → (((S.1 33) ≤ (((nI 8) * x4) + x7) → O_fly_126 N rok x3 x4 x7 (x5 <<< (Int32.toInt64 (nI 8) &&& 63)) (nI 0) S) ∧ (¬ (S.1 33) ≤ (((nI 8) * x4) + x7) → (vp_in (((nI 8) * x4) + x7) 1010) ∧ O_fly_126 N rok x3 x4 x7 (x5 <<< (Int32.toInt64 (nI 8) &&& 63)) (S.2.1 32 (((nI 8) * x4) + x7).toNatClampNeg) S))))
set_option maxHeartbeats 4000000 in
theorem bb_fly_82 {G : zG} {E : rE} {S : rS} {N : Nat} {Q : Option Value → rS → Prop} {X : Nat × Int32 × Int32 × Int64 × rS → Prop} (hG : zOK G) (hX0 : ∀ (x3 : Int32) (x4 : Int32) (x5 : Int64) (S' : rS), X (0, x3, x4, x5, S') → rX G E dX12_fly mX12_fly 136 [some (.ref E.1), none, none, some (.int x3), some (.int x4), some (.long x5), none, none] [] S' Q) {rec : Int32 → Int32 → Int64 → Int32 → rS → Nat × Int32 × Int32 × Int64 × rS} {rok : Int32 → Int32 → Int64 → Int32 → rS → Prop} (hrec : ∀ (x3 : Int32) (x4 : Int32) (x5 : Int64) (x7 : Int32) (S : rS), rok x3 x4 x5 x7 S → X (rec x3 x4 x5 x7 S) → rX G E dX12_fly mX12_fly 82 [some (.ref E.1), none, none, some (.int x3), some (.int x4), some (.long x5), none, some (.int x7)] [] S Q) {x3 : Int32} {x4 : Int32} {x5 : Int64} {x7 : Int32} (ok : OB_fly_82 N rok x3 x4 x5 x7 S) (hx : X (B_fly_82 N rec x3 x4 x5 x7 S)) : rX G E dX12_fly mX12_fly 82 [some (.ref E.1), none, none, some (.int x3), some (.int x4), some (.long x5), none, some (.int x7)] [] S Q := by
  unfold OB_fly_82 at ok
  unfold B_fly_82 at hx
  refine r_iload dX12_fly_82 rfl ?_
  refine r_bipush (v := nI 8) dX12_fly_84 (by decide) ?_
  refine r_icmp_ge (tgt := 136) dX12_fly_86 (by decide) (fun c_86 => ?_) (fun c_86 => ?_)
  · have ok := ok.1 c_86
    have hx := xif_p c_86 hx
    exact rX.cutz (hX0 _ _ _ S hx) ⟨rfl, rfl, rfl, rfl, trivial⟩
  · have ok := ok.2 c_86
    have hx := xif_n c_86 hx
    refine r_lload dX12_fly_89 rfl ?_
    refine r_bipush (v := nI 8) dX12_fly_91 (by decide) ?_
    refine r_lshl dX12_fly_93 ?_
    refine r_bipush (v := nI 8) dX12_fly_94 (by decide) ?_
    refine r_iload dX12_fly_96 rfl ?_
    refine r_imul dX12_fly_98 ?_
    refine r_iload dX12_fly_99 rfl ?_
    refine r_iadd dX12_fly_101 ?_
    refine r_aload_n dX12_fly_102 rfl rfl ?_
    refine r_getI 33 fX12_201 (by decide) (by decide) dX12_fly_103 ?_
    refine r_icmp_ge (tgt := 125) dX12_fly_106 (by decide) (fun c_106 => ?_) (fun c_106 => ?_)
    · have ok := ok.1 c_106
      have hx := xif_p c_106 hx
      refine r_iconst (v := nI 0) dX12_fly_125 (by decide) ?_
      exact rX.cutz (b_fly_126 hG hX0 hrec ok hx) ⟨rfl, rfl, rfl, rfl, trivial⟩
    · have ok := ok.2 c_106
      have hx := xif_n c_106 hx
      refine r_aload_n dX12_fly_109 rfl rfl ?_
      refine r_getA 32 fX12_204 (by decide) (by decide) dX12_fly_110 ?_
      refine r_bipush (v := nI 8) dX12_fly_113 (by decide) ?_
      refine r_iload dX12_fly_115 rfl ?_
      refine r_imul dX12_fly_117 ?_
      refine r_iload dX12_fly_118 rfl ?_
      refine r_iadd dX12_fly_120 ?_
      refine r_iald (by decide) (by decide) dX12_fly_121 ok.1 ?_
      have ok := ok.2
      refine r_goto (tgt := 126) dX12_fly_122 (by decide) ?_
      exact rX.cutz (b_fly_126 hG hX0 hrec ok hx) ⟨rfl, rfl, rfl, rfl, trivial⟩
def L_fly_82 (N : Nat) : Nat → Int32 → Int32 → Int64 → Int32 → rS → Nat × Int32 × Int32 × Int64 × rS
  | 0, x3, x4, x5, x7, S => (0, 0, 0, 0, S)
  | n + 1, x3, x4, x5, x7, S => B_fly_82 N (L_fly_82 N n) x3 x4 x5 x7 S
def OL_fly_82 (N : Nat) : Nat → Int32 → Int32 → Int64 → Int32 → rS → Prop
  | 0, _, _, _, _, _ => False
  | n + 1, x3, x4, x5, x7, S => OB_fly_82 N (OL_fly_82 N n) x3 x4 x5 x7 S
set_option maxHeartbeats 4000000 in
theorem l_fly_82 {G : zG} {E : rE} {N : Nat} {Q : Option Value → rS → Prop} {X : Nat × Int32 × Int32 × Int64 × rS → Prop} (hG : zOK G) (hX0 : ∀ (x3 : Int32) (x4 : Int32) (x5 : Int64) (S' : rS), X (0, x3, x4, x5, S') → rX G E dX12_fly mX12_fly 136 [some (.ref E.1), none, none, some (.int x3), some (.int x4), some (.long x5), none, none] [] S' Q) : ∀ (n : Nat) (x3 : Int32) (x4 : Int32) (x5 : Int64) (x7 : Int32) (S : rS), OL_fly_82 N n x3 x4 x5 x7 S → X (L_fly_82 N n x3 x4 x5 x7 S) → rX G E dX12_fly mX12_fly 82 [some (.ref E.1), none, none, some (.int x3), some (.int x4), some (.long x5), none, some (.int x7)] [] S Q := by
  intro n
  induction n with
  | zero => intro x3 x4 x5 x7 S ok; exact absurd ok id
  | succ n ih =>
    intro x3 x4 x5 x7 S ok hx
    exact bb_fly_82 hG hX0 (rec := L_fly_82 N n) (rok := OL_fly_82 N n) (fun x3 x4 x5 x7 S ok hx => ih x3 x4 x5 x7 S ok hx) ok hx
def A_fly_82 (N : Nat) (rec : Int32 → Int32 → rS → Nat × rS) (x3 : Int32) (x4 : Int32) (x5 : Int64) (x7 : Int32) (S : rS) (z : Nat × Int32 × Int32 × Int64 × rS) : Nat × rS := (F_fly_136 N rec (z.2.1) (z.2.2.1) (z.2.2.2.1) z.2.2.2.2)
def OA_fly_82 (N : Nat) (rok : Int32 → Int32 → rS → Prop) (x3 : Int32) (x4 : Int32) (x5 : Int64) (x7 : Int32) (S : rS) (z : Nat × Int32 × Int32 × Int64 × rS) : Prop := O_fly_136 N rok (z.2.1) (z.2.2.1) (z.2.2.2.1) z.2.2.2.2
set_option maxHeartbeats 4000000 in
theorem c_fly_82 {G : zG} {E : rE} {S : rS} {N : Nat} {Q : Option Value → rS → Prop} {X : Nat × rS → Prop} (hG : zOK G) (hX0 : ∀ (S' : rS), X (0, S') → rX G E dX12_fly mX12_fly 156 [none, none, none, none, none, none, none, none] [] S' Q) {rec : Int32 → Int32 → rS → Nat × rS} {rok : Int32 → Int32 → rS → Prop} (hrec : ∀ (x3 : Int32) (x4 : Int32) (S : rS), rok x3 x4 S → X (rec x3 x4 S) → rX G E dX12_fly mX12_fly 64 [some (.ref E.1), none, none, some (.int x3), some (.int x4), none, none, none] [] S Q) {x3 : Int32} {x4 : Int32} {x5 : Int64} {x7 : Int32} (ok : OL_fly_82 N N x3 x4 x5 x7 S ∧ OA_fly_82 N rok x3 x4 x5 x7 S (L_fly_82 N N x3 x4 x5 x7 S)) (hx : X (A_fly_82 N rec x3 x4 x5 x7 S (L_fly_82 N N x3 x4 x5 x7 S))) : rX G E dX12_fly mX12_fly 82 [some (.ref E.1), none, none, some (.int x3), some (.int x4), some (.long x5), none, some (.int x7)] [] S Q := by
  refine l_fly_82 hG ?_ N x3 x4 x5 x7 S ok.1 (X := fun z => OA_fly_82 N rok x3 x4 x5 x7 S z ∧ X (A_fly_82 N rec x3 x4 x5 x7 S z)) ⟨ok.2, hx⟩
  · intro x3' x4' x5' S' hz
    obtain ⟨ok, hx⟩ := hz
    unfold OA_fly_82 at ok
    unfold A_fly_82 at hx
    exact rX.cutz (b_fly_136 hG hX0 hrec ok hx) ⟨rfl, rfl, rfl, rfl, trivial⟩
def B_fly_64 (N : Nat) (rec : Int32 → Int32 → rS → Nat × rS) (x3 : Int32) (x4 : Int32) (S : rS) : Nat × rS := (if (S.1 33) ≤ ((nI 8) * x4) then (0, S) else (A_fly_82 N rec x3 x4 (0 : Int64) (nI 0) S (L_fly_82 N N x3 x4 (0 : Int64) (nI 0) S)))
def OB_fly_64 (N : Nat) (rok : Int32 → Int32 → rS → Prop) (x3 : Int32) (x4 : Int32) (S : rS) : Prop := (((S.1 33) ≤ ((nI 8) * x4) → True) ∧ (¬ (S.1 33) ≤ ((nI 8) * x4) → (OL_fly_82 N N x3 x4 (0 : Int64) (nI 0) S ∧ OA_fly_82 N rok x3 x4 (0 : Int64) (nI 0) S (L_fly_82 N N x3 x4 (0 : Int64) (nI 0) S))))
set_option maxHeartbeats 4000000 in
theorem bb_fly_64 {G : zG} {E : rE} {S : rS} {N : Nat} {Q : Option Value → rS → Prop} {X : Nat × rS → Prop} (hG : zOK G) (hX0 : ∀ (S' : rS), X (0, S') → rX G E dX12_fly mX12_fly 156 [none, none, none, none, none, none, none, none] [] S' Q) {rec : Int32 → Int32 → rS → Nat × rS} {rok : Int32 → Int32 → rS → Prop} (hrec : ∀ (x3 : Int32) (x4 : Int32) (S : rS), rok x3 x4 S → X (rec x3 x4 S) → rX G E dX12_fly mX12_fly 64 [some (.ref E.1), none, none, some (.int x3), some (.int x4), none, none, none] [] S Q) {x3 : Int32} {x4 : Int32} (ok : OB_fly_64 N rok x3 x4 S) (hx : X (B_fly_64 N rec x3 x4 S)) : rX G E dX12_fly mX12_fly 64 [some (.ref E.1), none, none, some (.int x3), some (.int x4), none, none, none] [] S Q := by
  unfold OB_fly_64 at ok
  unfold B_fly_64 at hx
  refine r_bipush (v := nI 8) dX12_fly_64 (by decide) ?_
  refine r_iload dX12_fly_66 rfl ?_
  refine r_imul dX12_fly_68 ?_
  refine r_aload_n dX12_fly_69 rfl rfl ?_
  refine r_getI 33 fX12_201 (by decide) (by decide) dX12_fly_70 ?_
  refine r_icmp_ge (tgt := 156) dX12_fly_73 (by decide) (fun c_73 => ?_) (fun c_73 => ?_)
  · have ok := ok.1 c_73
    have hx := xif_p c_73 hx
    exact rX.cutz (hX0 S hx) trivial
  · have ok := ok.2 c_73
    have hx := xif_n c_73 hx
    refine r_lconst (v := 0) dX12_fly_76 rfl ?_
    refine r_lstore_5 dX12_fly_77 (by decide) rfl ?_
    refine r_iconst (v := nI 0) dX12_fly_79 (by decide) ?_
    refine r_istore_7 dX12_fly_80 (by decide) rfl ?_
    exact rX.cutz (c_fly_82 hG hX0 hrec ok hx) ⟨rfl, rfl, rfl, rfl, rfl, trivial⟩
def L_fly_64 (N : Nat) : Nat → Int32 → Int32 → rS → Nat × rS
  | 0, x3, x4, S => (0, S)
  | n + 1, x3, x4, S => B_fly_64 N (L_fly_64 N n) x3 x4 S
def OL_fly_64 (N : Nat) : Nat → Int32 → Int32 → rS → Prop
  | 0, _, _, _ => False
  | n + 1, x3, x4, S => OB_fly_64 N (OL_fly_64 N n) x3 x4 S
set_option maxHeartbeats 4000000 in
theorem l_fly_64 {G : zG} {E : rE} {N : Nat} {Q : Option Value → rS → Prop} {X : Nat × rS → Prop} (hG : zOK G) (hX0 : ∀ (S' : rS), X (0, S') → rX G E dX12_fly mX12_fly 156 [none, none, none, none, none, none, none, none] [] S' Q) : ∀ (n : Nat) (x3 : Int32) (x4 : Int32) (S : rS), OL_fly_64 N n x3 x4 S → X (L_fly_64 N n x3 x4 S) → rX G E dX12_fly mX12_fly 64 [some (.ref E.1), none, none, some (.int x3), some (.int x4), none, none, none] [] S Q := by
  intro n
  induction n with
  | zero => intro x3 x4 S ok; exact absurd ok id
  | succ n ih =>
    intro x3 x4 S ok hx
    exact bb_fly_64 hG hX0 (rec := L_fly_64 N n) (rok := OL_fly_64 N n) (fun x3 x4 S ok hx => ih x3 x4 S ok hx) ok hx
def A_fly_64 (N : Nat) (x3 : Int32) (x4 : Int32) (S : rS) (z : Nat × rS) : Int32 × rS := (F_fly_156 N z.2)
def OA_fly_64 (N : Nat) (x3 : Int32) (x4 : Int32) (S : rS) (z : Nat × rS) : Prop := O_fly_156 N z.2
set_option maxHeartbeats 4000000 in
theorem c_fly_64 {G : zG} {E : rE} {S : rS} {N : Nat} {Q : Option Value → rS → Prop} {X : Int32 × rS → Prop} (hG : zOK G) (hR : ∀ v S', X (v, S') → Q (some (.int v)) S') {x3 : Int32} {x4 : Int32} (ok : OL_fly_64 N N x3 x4 S ∧ OA_fly_64 N x3 x4 S (L_fly_64 N N x3 x4 S)) (hx : X (A_fly_64 N x3 x4 S (L_fly_64 N N x3 x4 S))) : rX G E dX12_fly mX12_fly 64 [some (.ref E.1), none, none, some (.int x3), some (.int x4), none, none, none] [] S Q := by
  refine l_fly_64 hG ?_ N x3 x4 S ok.1 (X := fun z => OA_fly_64 N x3 x4 S z ∧ X (A_fly_64 N x3 x4 S z)) ⟨ok.2, hx⟩
  · intro S' hz
    obtain ⟨ok, hx⟩ := hz
    unfold OA_fly_64 at ok
    unfold A_fly_64 at hx
    exact rX.cutz (b_fly_156 hG hR ok hx) trivial
def F_fly_51 (N : Nat) (x3 : Int32) (S : rS) : Int32 × rS := (A_fly_64 N x3 (nI 0) (rsA S 29 x3.toNatClampNeg (S.1 33)) (L_fly_64 N N x3 (nI 0) (rsA S 29 x3.toNatClampNeg (S.1 33))))
def O_fly_51 (N : Nat) (x3 : Int32) (S : rS) : Prop := (vp_in x3 1000) ∧ (OL_fly_64 N N x3 (nI 0) (rsA S 29 x3.toNatClampNeg (S.1 33)) ∧ OA_fly_64 N x3 (nI 0) (rsA S 29 x3.toNatClampNeg (S.1 33)) (L_fly_64 N N x3 (nI 0) (rsA S 29 x3.toNatClampNeg (S.1 33))))
set_option maxHeartbeats 4000000 in
theorem b_fly_51 {G : zG} {E : rE} {S : rS} {N : Nat} {Q : Option Value → rS → Prop} {X : Int32 × rS → Prop} (hG : zOK G) (hR : ∀ v S', X (v, S') → Q (some (.int v)) S') {x3 : Int32} (ok : O_fly_51 N x3 S) (hx : X (F_fly_51 N x3 S)) : rX G E dX12_fly mX12_fly 51 [some (.ref E.1), none, none, some (.int x3), none, none, none, none] [] S Q := by
  unfold O_fly_51 at ok
  unfold F_fly_51 at hx
  refine r_aload_n dX12_fly_51 rfl rfl ?_
  refine r_getA 29 fX12_173 (by decide) (by decide) dX12_fly_52 ?_
  refine r_iload_n dX12_fly_55 rfl rfl ?_
  refine r_aload_n dX12_fly_56 rfl rfl ?_
  refine r_getI 33 fX12_201 (by decide) (by decide) dX12_fly_57 ?_
  refine r_iast hG (by decide) (by decide) dX12_fly_60 ok.1 ?_
  have ok := ok.2
  refine r_iconst (v := nI 0) dX12_fly_61 (by decide) ?_
  refine r_istore_4 dX12_fly_62 (by decide) rfl ?_
  exact rX.cutz (c_fly_64 hG hR ok hx) ⟨rfl, rfl, rfl, trivial⟩
def F_fly_36 (N : Nat) (x1 : Int32) (x2 : Int32) (s0 : Int32) (S : rS) : Int32 × rS := (F_fly_51 N s0 (rsA (rsA S 27 s0.toNatClampNeg x1) 28 s0.toNatClampNeg x2))
def O_fly_36 (N : Nat) (x1 : Int32) (x2 : Int32) (s0 : Int32) (S : rS) : Prop := (vp_in s0 1000) ∧ (vp_in s0 1000) ∧ O_fly_51 N s0 (rsA (rsA S 27 s0.toNatClampNeg x1) 28 s0.toNatClampNeg x2)
set_option maxHeartbeats 4000000 in
theorem b_fly_36 {G : zG} {E : rE} {S : rS} {N : Nat} {Q : Option Value → rS → Prop} {X : Int32 × rS → Prop} (hG : zOK G) (hR : ∀ v S', X (v, S') → Q (some (.int v)) S') {x1 : Int32} {x2 : Int32} {s0 : Int32} (ok : O_fly_36 N x1 x2 s0 S) (hx : X (F_fly_36 N x1 x2 s0 S)) : rX G E dX12_fly mX12_fly 36 [some (.ref E.1), some (.int x1), some (.int x2), none, none, none, none, none] [.int s0] S Q := by
  unfold O_fly_36 at ok
  unfold F_fly_36 at hx
  refine r_istore_3 dX12_fly_36 (by decide) rfl ?_
  refine r_aload_n dX12_fly_37 rfl rfl ?_
  refine r_getA 27 fX12_195 (by decide) (by decide) dX12_fly_38 ?_
  refine r_iload_n dX12_fly_41 rfl rfl ?_
  refine r_iload_n dX12_fly_42 rfl rfl ?_
  refine r_iast hG (by decide) (by decide) dX12_fly_43 ok.1 ?_
  have ok := ok.2
  refine r_aload_n dX12_fly_44 rfl rfl ?_
  refine r_getA 28 fX12_198 (by decide) (by decide) dX12_fly_45 ?_
  refine r_iload_n dX12_fly_48 rfl rfl ?_
  refine r_iload_n dX12_fly_49 rfl rfl ?_
  refine r_iast hG (by decide) (by decide) dX12_fly_50 ok.1 ?_
  have ok := ok.2
  exact rX.cutz (b_fly_51 hG hR ok hx) ⟨rfl, rfl, trivial⟩
def F_fly_30 (N : Nat)  (S : rS) : Int32 × rS := ((nI 0), S)
def O_fly_30 (N : Nat)  (S : rS) : Prop := True
set_option maxHeartbeats 4000000 in
theorem b_fly_30 {G : zG} {E : rE} {S : rS} {N : Nat} {Q : Option Value → rS → Prop} {X : Int32 × rS → Prop} (hG : zOK G) (hR : ∀ v S', X (v, S') → Q (some (.int v)) S') (ok : O_fly_30 N S) (hx : X (F_fly_30 N S)) : rX G E dX12_fly mX12_fly 30 [none, none, none, none, none, none, none, none] [] S Q := by
  unfold O_fly_30 at ok
  unfold F_fly_30 at hx
  refine r_iconst (v := nI 0) dX12_fly_30 (by decide) ?_
  exact r_ireturn rfl rfl dX12_fly_31 (hR _ _ hx)
def F_fly_0 (N : Nat) (x1 : Int32) (x2 : Int32) (S : rS) : Int32 × rS := (if ((rsI S 4 ((S.1 4) + (nI 1))).1 23) = (nI 1000) then (F_fly_30 N (rsI (rsI S 4 ((S.1 4) + (nI 1))) 5 (((rsI S 4 ((S.1 4) + (nI 1))).1 5) + (nI 1)))) else (F_fly_36 N x1 x2 ((f_takeSlot N (rsI S 4 ((S.1 4) + (nI 1)))).1) (f_takeSlot N (rsI S 4 ((S.1 4) + (nI 1)))).2))
def O_fly_0 (N : Nat) (x1 : Int32) (x2 : Int32) (S : rS) : Prop := ((((rsI S 4 ((S.1 4) + (nI 1))).1 23) = (nI 1000) → O_fly_30 N (rsI (rsI S 4 ((S.1 4) + (nI 1))) 5 (((rsI S 4 ((S.1 4) + (nI 1))).1 5) + (nI 1)))) ∧ (¬ ((rsI S 4 ((S.1 4) + (nI 1))).1 23) = (nI 1000) → (o_takeSlot N (rsI S 4 ((S.1 4) + (nI 1)))) ∧ O_fly_36 N x1 x2 ((f_takeSlot N (rsI S 4 ((S.1 4) + (nI 1)))).1) (f_takeSlot N (rsI S 4 ((S.1 4) + (nI 1)))).2))
set_option maxHeartbeats 4000000 in
theorem b_fly_0 {G : zG} {E : rE} {S : rS} {N : Nat} {Q : Option Value → rS → Prop} {X : Int32 × rS → Prop} (hG : zOK G) (hR : ∀ v S', X (v, S') → Q (some (.int v)) S') {x1 : Int32} {x2 : Int32} (ok : O_fly_0 N x1 x2 S) (hx : X (F_fly_0 N x1 x2 S)) : rX G E dX12_fly mX12_fly 0 [some (.ref E.1), some (.int x1), some (.int x2), none, none, none, none, none] [] S Q := by
  unfold O_fly_0 at ok
  unfold F_fly_0 at hx
  refine r_aload_n dX12_fly_0 rfl rfl ?_
  refine r_aload_n dX12_fly_1 rfl rfl ?_
  refine r_getI 4 fX12_185 (by decide) (by decide) dX12_fly_2 ?_
  refine r_iconst (v := nI 1) dX12_fly_5 (by decide) ?_
  refine r_iadd dX12_fly_6 ?_
  refine r_putI 4 fX12_185 (by decide) (by decide) rfl rfl rfl dX12_fly_7 ?_
  refine r_aload_n dX12_fly_10 rfl rfl ?_
  refine r_getI 23 fX12_182 (by decide) (by decide) dX12_fly_11 ?_
  refine r_sipush (v := nI 1000) dX12_fly_14 (by decide) ?_
  refine r_icmp_ne (tgt := 32) dX12_fly_17 (by decide) (fun c_17 => ?_) (fun c_17 => ?_)
  · have ok := ok.2 c_17
    have hx := xif_n c_17 hx
    refine r_aload_n dX12_fly_32 rfl rfl ?_
    refine r_V0i (y' := mX12_takeSlot) dX12_fly_33 lX12_191 kX12_takeSlot ⟨by decide, by decide⟩ rfl (Nat.le_of_ble_eq_true rfl) (rc_X12_takeSlot hG ok.1) (fun v_33 S_33 h_33 => ?_)
    obtain ⟨rfl, hS_33⟩ := h_33
    have hS_33 := hS_33.symm
    subst hS_33
    have ok := ok.2
    exact rX.cutz (b_fly_36 hG hR ok hx) ⟨rfl, rfl, rfl, trivial⟩
  · have ok := ok.1 c_17
    have hx := xif_p c_17 hx
    refine r_aload_n dX12_fly_20 rfl rfl ?_
    refine r_aload_n dX12_fly_21 rfl rfl ?_
    refine r_getI 5 fX12_188 (by decide) (by decide) dX12_fly_22 ?_
    refine r_iconst (v := nI 1) dX12_fly_25 (by decide) ?_
    refine r_iadd dX12_fly_26 ?_
    refine r_putI 5 fX12_188 (by decide) (by decide) rfl rfl rfl dX12_fly_27 ?_
    exact rX.cutz (b_fly_30 hG hR ok hx) trivial
def f_fly (N : Nat) (S : rS) (x1 : Int32) (x2 : Int32) : Int32 × rS := F_fly_0 N x1 x2 S
def o_fly (N : Nat) (S : rS) (x1 : Int32) (x2 : Int32) : Prop := O_fly_0 N x1 x2 S
set_option maxHeartbeats 4000000 in
theorem rc_X12_fly {G : zG} {E : rE} {S : rS} {N : Nat} (hG : zOK G) {x1 : Int32} {x2 : Int32} (ok : o_fly N S x1 x2) : rCi G E dX12_fly mX12_fly [.ref E.1, .int x1, .int x2] S (fun v S' => v = (f_fly N S x1 x2).1 ∧ S' = (f_fly N S x1 x2).2) := by
  refine rC.ofX rfl (Nat.le_of_ble_eq_true rfl) ?_
  show rX G E dX12_fly mX12_fly 0 [some (.ref E.1), some (.int x1), some (.int x2), none, none, none, none, none] [] S _
  exact rX.cutz (b_fly_0 (X := fun F => F = f_fly N S x1 x2) hG (fun v S' h => ⟨v, rfl, by rw [← h], by rw [← h]⟩) ok rfl) ⟨rfl, rfl, rfl, trivial⟩
/-! flyAll -/
def F_flyAll_28 (N : Nat)  (S : rS) : rS := S
def O_flyAll_28 (N : Nat)  (S : rS) : Prop := True
set_option maxHeartbeats 4000000 in
theorem b_flyAll_28 {G : zG} {E : rE} {S : rS} {N : Nat} {Q : Option Value → rS → Prop} {X : rS → Prop} (hG : zOK G) (hR : ∀ S', X S' → Q none S') (ok : O_flyAll_28 N S) (hx : X (F_flyAll_28 N S)) : rX G E dX12_flyAll mX12_flyAll 28 [none, none, none] [] S Q := by
  unfold O_flyAll_28 at ok
  unfold F_flyAll_28 at hx
  exact r_return rfl dX12_flyAll_28 (hR _ hx)
def F_flyAll_22 (N : Nat) (rec : Int32 → Int32 → rS → Nat × rS) (x1 : Int32) (x2 : Int32) (S : rS) : Nat × rS := (rec x1 (x2 + nI 1) S)
def O_flyAll_22 (N : Nat) (rok : Int32 → Int32 → rS → Prop) (x1 : Int32) (x2 : Int32) (S : rS) : Prop := rok x1 (x2 + nI 1) S
set_option maxHeartbeats 4000000 in
theorem b_flyAll_22 {G : zG} {E : rE} {S : rS} {N : Nat} {Q : Option Value → rS → Prop} {X : Nat × rS → Prop} (hG : zOK G) (hX0 : ∀ (S' : rS), X (0, S') → rX G E dX12_flyAll mX12_flyAll 28 [none, none, none] [] S' Q) {rec : Int32 → Int32 → rS → Nat × rS} {rok : Int32 → Int32 → rS → Prop} (hrec : ∀ (x1 : Int32) (x2 : Int32) (S : rS), rok x1 x2 S → X (rec x1 x2 S) → rX G E dX12_flyAll mX12_flyAll 2 [some (.ref E.1), some (.int x1), some (.int x2)] [] S Q) {x1 : Int32} {x2 : Int32} (ok : O_flyAll_22 N rok x1 x2 S) (hx : X (F_flyAll_22 N rec x1 x2 S)) : rX G E dX12_flyAll mX12_flyAll 22 [some (.ref E.1), some (.int x1), some (.int x2)] [] S Q := by
  unfold O_flyAll_22 at ok
  unfold F_flyAll_22 at hx
  refine r_iinc_2 (v := (x2 + nI 1)) dX12_flyAll_22 rfl (by first | rfl | (congr 1)) (by decide) rfl ?_
  refine r_goto (tgt := 2) dX12_flyAll_25 (by decide) ?_
  exact rX.cutz (hrec _ _ S ok hx) ⟨rfl, rfl, rfl, trivial⟩
def F_flyAll_21 (N : Nat) (rec : Int32 → Int32 → rS → Nat × rS) (x1 : Int32) (x2 : Int32) (s0 : Int32) (S : rS) : Nat × rS := (F_flyAll_22 N rec x1 x2 S)
def O_flyAll_21 (N : Nat) (rok : Int32 → Int32 → rS → Prop) (x1 : Int32) (x2 : Int32) (s0 : Int32) (S : rS) : Prop := O_flyAll_22 N rok x1 x2 S
set_option maxHeartbeats 4000000 in
theorem b_flyAll_21 {G : zG} {E : rE} {S : rS} {N : Nat} {Q : Option Value → rS → Prop} {X : Nat × rS → Prop} (hG : zOK G) (hX0 : ∀ (S' : rS), X (0, S') → rX G E dX12_flyAll mX12_flyAll 28 [none, none, none] [] S' Q) {rec : Int32 → Int32 → rS → Nat × rS} {rok : Int32 → Int32 → rS → Prop} (hrec : ∀ (x1 : Int32) (x2 : Int32) (S : rS), rok x1 x2 S → X (rec x1 x2 S) → rX G E dX12_flyAll mX12_flyAll 2 [some (.ref E.1), some (.int x1), some (.int x2)] [] S Q) {x1 : Int32} {x2 : Int32} {s0 : Int32} (ok : O_flyAll_21 N rok x1 x2 s0 S) (hx : X (F_flyAll_21 N rec x1 x2 s0 S)) : rX G E dX12_flyAll mX12_flyAll 21 [some (.ref E.1), some (.int x1), some (.int x2)] [.int s0] S Q := by
  unfold O_flyAll_21 at ok
  unfold F_flyAll_21 at hx
  refine r_pop dX12_flyAll_21 rfl ?_
  exact rX.cutz (b_flyAll_22 hG hX0 hrec ok hx) ⟨rfl, rfl, rfl, trivial⟩
def B_flyAll_2 (N : Nat) (rec : Int32 → Int32 → rS → Nat × rS) (x1 : Int32) (x2 : Int32) (S : rS) : Nat × rS := (if (S.1 0) ≤ x2 then (0, S) else (if x2 = x1 then (F_flyAll_22 N rec x1 x2 S) else (F_flyAll_21 N rec x1 x2 ((f_fly N S x1 x2).1) (f_fly N S x1 x2).2)))
def OB_flyAll_2 (N : Nat) (rok : Int32 → Int32 → rS → Prop) (x1 : Int32) (x2 : Int32) (S : rS) : Prop := (((S.1 0) ≤ x2 → True) ∧ (¬ (S.1 0) ≤ x2 → ((x2 = x1 → O_flyAll_22 N rok x1 x2 S) ∧ (¬ x2 = x1 → (o_fly N S x1 x2) ∧ O_flyAll_21 N rok x1 x2 ((f_fly N S x1 x2).1) (f_fly N S x1 x2).2))))
set_option maxHeartbeats 4000000 in
theorem bb_flyAll_2 {G : zG} {E : rE} {S : rS} {N : Nat} {Q : Option Value → rS → Prop} {X : Nat × rS → Prop} (hG : zOK G) (hX0 : ∀ (S' : rS), X (0, S') → rX G E dX12_flyAll mX12_flyAll 28 [none, none, none] [] S' Q) {rec : Int32 → Int32 → rS → Nat × rS} {rok : Int32 → Int32 → rS → Prop} (hrec : ∀ (x1 : Int32) (x2 : Int32) (S : rS), rok x1 x2 S → X (rec x1 x2 S) → rX G E dX12_flyAll mX12_flyAll 2 [some (.ref E.1), some (.int x1), some (.int x2)] [] S Q) {x1 : Int32} {x2 : Int32} (ok : OB_flyAll_2 N rok x1 x2 S) (hx : X (B_flyAll_2 N rec x1 x2 S)) : rX G E dX12_flyAll mX12_flyAll 2 [some (.ref E.1), some (.int x1), some (.int x2)] [] S Q := by
  unfold OB_flyAll_2 at ok
  unfold B_flyAll_2 at hx
  refine r_iload_n dX12_flyAll_2 rfl rfl ?_
  refine r_aload_n dX12_flyAll_3 rfl rfl ?_
  refine r_getI 0 fX12_219 (by decide) (by decide) dX12_flyAll_4 ?_
  refine r_icmp_ge (tgt := 28) dX12_flyAll_7 (by decide) (fun c_7 => ?_) (fun c_7 => ?_)
  · have ok := ok.1 c_7
    have hx := xif_p c_7 hx
    exact rX.cutz (hX0 S hx) trivial
  · have ok := ok.2 c_7
    have hx := xif_n c_7 hx
    refine r_iload_n dX12_flyAll_10 rfl rfl ?_
    refine r_iload_n dX12_flyAll_11 rfl rfl ?_
    refine r_icmp_eq (tgt := 22) dX12_flyAll_12 (by decide) (fun c_12 => ?_) (fun c_12 => ?_)
    · have ok := ok.1 c_12
      have hx := xif_p c_12 hx
      exact rX.cutz (b_flyAll_22 hG hX0 hrec ok hx) ⟨rfl, rfl, rfl, trivial⟩
    · have ok := ok.2 c_12
      have hx := xif_n c_12 hx
      refine r_aload_n dX12_flyAll_15 rfl rfl ?_
      refine r_iload_n dX12_flyAll_16 rfl rfl ?_
      refine r_iload_n dX12_flyAll_17 rfl rfl ?_
      refine r_V2i (y' := mX12_fly) dX12_flyAll_18 lX12_222 kX12_fly ⟨by decide, by decide⟩ rfl (Nat.le_of_ble_eq_true rfl) (rc_X12_fly hG ok.1) (fun v_18 S_18 h_18 => ?_)
      obtain ⟨rfl, hS_18⟩ := h_18
      have hS_18 := hS_18.symm
      subst hS_18
      have ok := ok.2
      exact rX.cutz (b_flyAll_21 hG hX0 hrec ok hx) ⟨rfl, rfl, rfl, trivial⟩
def L_flyAll_2 (N : Nat) : Nat → Int32 → Int32 → rS → Nat × rS
  | 0, x1, x2, S => (0, S)
  | n + 1, x1, x2, S => B_flyAll_2 N (L_flyAll_2 N n) x1 x2 S
def OL_flyAll_2 (N : Nat) : Nat → Int32 → Int32 → rS → Prop
  | 0, _, _, _ => False
  | n + 1, x1, x2, S => OB_flyAll_2 N (OL_flyAll_2 N n) x1 x2 S
set_option maxHeartbeats 4000000 in
theorem l_flyAll_2 {G : zG} {E : rE} {N : Nat} {Q : Option Value → rS → Prop} {X : Nat × rS → Prop} (hG : zOK G) (hX0 : ∀ (S' : rS), X (0, S') → rX G E dX12_flyAll mX12_flyAll 28 [none, none, none] [] S' Q) : ∀ (n : Nat) (x1 : Int32) (x2 : Int32) (S : rS), OL_flyAll_2 N n x1 x2 S → X (L_flyAll_2 N n x1 x2 S) → rX G E dX12_flyAll mX12_flyAll 2 [some (.ref E.1), some (.int x1), some (.int x2)] [] S Q := by
  intro n
  induction n with
  | zero => intro x1 x2 S ok; exact absurd ok id
  | succ n ih =>
    intro x1 x2 S ok hx
    exact bb_flyAll_2 hG hX0 (rec := L_flyAll_2 N n) (rok := OL_flyAll_2 N n) (fun x1 x2 S ok hx => ih x1 x2 S ok hx) ok hx
def A_flyAll_2 (N : Nat) (x1 : Int32) (x2 : Int32) (S : rS) (z : Nat × rS) : rS := (F_flyAll_28 N z.2)
def OA_flyAll_2 (N : Nat) (x1 : Int32) (x2 : Int32) (S : rS) (z : Nat × rS) : Prop := O_flyAll_28 N z.2
set_option maxHeartbeats 4000000 in
theorem c_flyAll_2 {G : zG} {E : rE} {S : rS} {N : Nat} {Q : Option Value → rS → Prop} {X : rS → Prop} (hG : zOK G) (hR : ∀ S', X S' → Q none S') {x1 : Int32} {x2 : Int32} (ok : OL_flyAll_2 N N x1 x2 S ∧ OA_flyAll_2 N x1 x2 S (L_flyAll_2 N N x1 x2 S)) (hx : X (A_flyAll_2 N x1 x2 S (L_flyAll_2 N N x1 x2 S))) : rX G E dX12_flyAll mX12_flyAll 2 [some (.ref E.1), some (.int x1), some (.int x2)] [] S Q := by
  refine l_flyAll_2 hG ?_ N x1 x2 S ok.1 (X := fun z => OA_flyAll_2 N x1 x2 S z ∧ X (A_flyAll_2 N x1 x2 S z)) ⟨ok.2, hx⟩
  · intro S' hz
    obtain ⟨ok, hx⟩ := hz
    unfold OA_flyAll_2 at ok
    unfold A_flyAll_2 at hx
    exact rX.cutz (b_flyAll_28 hG hR ok hx) trivial
def F_flyAll_0 (N : Nat) (x1 : Int32) (S : rS) : rS := (A_flyAll_2 N x1 (nI 0) S (L_flyAll_2 N N x1 (nI 0) S))
def O_flyAll_0 (N : Nat) (x1 : Int32) (S : rS) : Prop := (OL_flyAll_2 N N x1 (nI 0) S ∧ OA_flyAll_2 N x1 (nI 0) S (L_flyAll_2 N N x1 (nI 0) S))
set_option maxHeartbeats 4000000 in
theorem b_flyAll_0 {G : zG} {E : rE} {S : rS} {N : Nat} {Q : Option Value → rS → Prop} {X : rS → Prop} (hG : zOK G) (hR : ∀ S', X S' → Q none S') {x1 : Int32} (ok : O_flyAll_0 N x1 S) (hx : X (F_flyAll_0 N x1 S)) : rX G E dX12_flyAll mX12_flyAll 0 [some (.ref E.1), some (.int x1), none] [] S Q := by
  unfold O_flyAll_0 at ok
  unfold F_flyAll_0 at hx
  refine r_iconst (v := nI 0) dX12_flyAll_0 (by decide) ?_
  refine r_istore_2 dX12_flyAll_1 (by decide) rfl ?_
  exact rX.cutz (c_flyAll_2 hG hR ok hx) ⟨rfl, rfl, rfl, trivial⟩
def f_flyAll (N : Nat) (S : rS) (x1 : Int32) : rS := F_flyAll_0 N x1 S
def o_flyAll (N : Nat) (S : rS) (x1 : Int32) : Prop := O_flyAll_0 N x1 S
set_option maxHeartbeats 4000000 in
theorem rc_X12_flyAll {G : zG} {E : rE} {S : rS} {N : Nat} (hG : zOK G) {x1 : Int32} (ok : o_flyAll N S x1) : rCv G E dX12_flyAll mX12_flyAll [.ref E.1, .int x1] S (fun S' => S' = f_flyAll N S x1) := by
  refine rC.ofX rfl (Nat.le_of_ble_eq_true rfl) ?_
  show rX G E dX12_flyAll mX12_flyAll 0 [some (.ref E.1), some (.int x1), none] [] S _
  exact rX.cutz (b_flyAll_0 (X := fun F => F = f_flyAll N S x1) hG (fun S' h => ⟨rfl, h⟩) ok rfl) ⟨rfl, rfl, trivial⟩
/-! sendOn -/
def F_sendOn_44 (N : Nat)  (S : rS) : rS := S
def O_sendOn_44 (N : Nat)  (S : rS) : Prop := True
set_option maxHeartbeats 4000000 in
theorem b_sendOn_44 {G : zG} {E : rE} {S : rS} {N : Nat} {Q : Option Value → rS → Prop} {X : rS → Prop} (hG : zOK G) (hR : ∀ S', X S' → Q none S') (ok : O_sendOn_44 N S) (hx : X (F_sendOn_44 N S)) : rX G E dX12_sendOn mX12_sendOn 44 [none, none, none, none, none] [] S Q := by
  unfold O_sendOn_44 at ok
  unfold F_sendOn_44 at hx
  exact r_return rfl dX12_sendOn_44 (hR _ hx)
def F_sendOn_38 (N : Nat) (rec : Int32 → Int32 → Int32 → Int32 → rS → Nat × rS) (x1 : Int32) (x2 : Int32) (x3 : Int32) (x4 : Int32) (S : rS) : Nat × rS := (rec x1 x2 x3 (x4 + nI 1) S)
def O_sendOn_38 (N : Nat) (rok : Int32 → Int32 → Int32 → Int32 → rS → Prop) (x1 : Int32) (x2 : Int32) (x3 : Int32) (x4 : Int32) (S : rS) : Prop := rok x1 x2 x3 (x4 + nI 1) S
set_option maxHeartbeats 4000000 in
theorem b_sendOn_38 {G : zG} {E : rE} {S : rS} {N : Nat} {Q : Option Value → rS → Prop} {X : Nat × rS → Prop} (hG : zOK G) (hX0 : ∀ (S' : rS), X (0, S') → rX G E dX12_sendOn mX12_sendOn 44 [none, none, none, none, none] [] S' Q) {rec : Int32 → Int32 → Int32 → Int32 → rS → Nat × rS} {rok : Int32 → Int32 → Int32 → Int32 → rS → Prop} (hrec : ∀ (x1 : Int32) (x2 : Int32) (x3 : Int32) (x4 : Int32) (S : rS), rok x1 x2 x3 x4 S → X (rec x1 x2 x3 x4 S) → rX G E dX12_sendOn mX12_sendOn 3 [some (.ref E.1), some (.int x1), some (.int x2), some (.int x3), some (.int x4)] [] S Q) {x1 : Int32} {x2 : Int32} {x3 : Int32} {x4 : Int32} (ok : O_sendOn_38 N rok x1 x2 x3 x4 S) (hx : X (F_sendOn_38 N rec x1 x2 x3 x4 S)) : rX G E dX12_sendOn mX12_sendOn 38 [some (.ref E.1), some (.int x1), some (.int x2), some (.int x3), some (.int x4)] [] S Q := by
  unfold O_sendOn_38 at ok
  unfold F_sendOn_38 at hx
  refine r_iinc_4 (v := (x4 + nI 1)) dX12_sendOn_38 rfl (by first | rfl | (congr 1)) (by decide) rfl ?_
  refine r_goto (tgt := 3) dX12_sendOn_41 (by decide) ?_
  exact rX.cutz (hrec _ _ _ _ S ok hx) ⟨rfl, rfl, rfl, rfl, rfl, trivial⟩
def F_sendOn_37 (N : Nat) (rec : Int32 → Int32 → Int32 → Int32 → rS → Nat × rS) (x1 : Int32) (x2 : Int32) (x3 : Int32) (x4 : Int32) (s0 : Int32) (S : rS) : Nat × rS := (F_sendOn_38 N rec x1 x2 x3 x4 S)
def O_sendOn_37 (N : Nat) (rok : Int32 → Int32 → Int32 → Int32 → rS → Prop) (x1 : Int32) (x2 : Int32) (x3 : Int32) (x4 : Int32) (s0 : Int32) (S : rS) : Prop := O_sendOn_38 N rok x1 x2 x3 x4 S
set_option maxHeartbeats 4000000 in
theorem b_sendOn_37 {G : zG} {E : rE} {S : rS} {N : Nat} {Q : Option Value → rS → Prop} {X : Nat × rS → Prop} (hG : zOK G) (hX0 : ∀ (S' : rS), X (0, S') → rX G E dX12_sendOn mX12_sendOn 44 [none, none, none, none, none] [] S' Q) {rec : Int32 → Int32 → Int32 → Int32 → rS → Nat × rS} {rok : Int32 → Int32 → Int32 → Int32 → rS → Prop} (hrec : ∀ (x1 : Int32) (x2 : Int32) (x3 : Int32) (x4 : Int32) (S : rS), rok x1 x2 x3 x4 S → X (rec x1 x2 x3 x4 S) → rX G E dX12_sendOn mX12_sendOn 3 [some (.ref E.1), some (.int x1), some (.int x2), some (.int x3), some (.int x4)] [] S Q) {x1 : Int32} {x2 : Int32} {x3 : Int32} {x4 : Int32} {s0 : Int32} (ok : O_sendOn_37 N rok x1 x2 x3 x4 s0 S) (hx : X (F_sendOn_37 N rec x1 x2 x3 x4 s0 S)) : rX G E dX12_sendOn mX12_sendOn 37 [some (.ref E.1), some (.int x1), some (.int x2), some (.int x3), some (.int x4)] [.int s0] S Q := by
  unfold O_sendOn_37 at ok
  unfold F_sendOn_37 at hx
  refine r_pop dX12_sendOn_37 rfl ?_
  exact rX.cutz (b_sendOn_38 hG hX0 hrec ok hx) ⟨rfl, rfl, rfl, rfl, rfl, trivial⟩
def B_sendOn_3 (N : Nat) (rec : Int32 → Int32 → Int32 → Int32 → rS → Nat × rS) (x1 : Int32) (x2 : Int32) (x3 : Int32) (x4 : Int32) (S : rS) : Nat × rS := (if (S.1 0) ≤ x4 then (0, S) else (if x4 = x1 then (F_sendOn_38 N rec x1 x2 x3 x4 S) else (if x4 = x2 then (F_sendOn_38 N rec x1 x2 x3 x4 S) else (if x4 = x3 then (F_sendOn_38 N rec x1 x2 x3 x4 S) else (F_sendOn_37 N rec x1 x2 x3 x4 ((f_fly N S x1 x4).1) (f_fly N S x1 x4).2)))))
def OB_sendOn_3 (N : Nat) (rok : Int32 → Int32 → Int32 → Int32 → rS → Prop) (x1 : Int32) (x2 : Int32) (x3 : Int32) (x4 : Int32) (S : rS) : Prop := (((S.1 0) ≤ x4 → True) ∧ (¬ (S.1 0) ≤ x4 → ((x4 = x1 → O_sendOn_38 N rok x1 x2 x3 x4 S) ∧ (¬ x4 = x1 → ((x4 = x2 → O_sendOn_38 N rok x1 x2 x3 x4 S) ∧ (¬ x4 = x2 → ((x4 = x3 → O_sendOn_38 N rok x1 x2 x3 x4 S) ∧ (¬ x4 = x3 → (o_fly N S x1 x4) ∧ O_sendOn_37 N rok x1 x2 x3 x4 ((f_fly N S x1 x4).1) (f_fly N S x1 x4).2))))))))
set_option maxHeartbeats 4000000 in
theorem bb_sendOn_3 {G : zG} {E : rE} {S : rS} {N : Nat} {Q : Option Value → rS → Prop} {X : Nat × rS → Prop} (hG : zOK G) (hX0 : ∀ (S' : rS), X (0, S') → rX G E dX12_sendOn mX12_sendOn 44 [none, none, none, none, none] [] S' Q) {rec : Int32 → Int32 → Int32 → Int32 → rS → Nat × rS} {rok : Int32 → Int32 → Int32 → Int32 → rS → Prop} (hrec : ∀ (x1 : Int32) (x2 : Int32) (x3 : Int32) (x4 : Int32) (S : rS), rok x1 x2 x3 x4 S → X (rec x1 x2 x3 x4 S) → rX G E dX12_sendOn mX12_sendOn 3 [some (.ref E.1), some (.int x1), some (.int x2), some (.int x3), some (.int x4)] [] S Q) {x1 : Int32} {x2 : Int32} {x3 : Int32} {x4 : Int32} (ok : OB_sendOn_3 N rok x1 x2 x3 x4 S) (hx : X (B_sendOn_3 N rec x1 x2 x3 x4 S)) : rX G E dX12_sendOn mX12_sendOn 3 [some (.ref E.1), some (.int x1), some (.int x2), some (.int x3), some (.int x4)] [] S Q := by
  unfold OB_sendOn_3 at ok
  unfold B_sendOn_3 at hx
  refine r_iload dX12_sendOn_3 rfl ?_
  refine r_aload_n dX12_sendOn_5 rfl rfl ?_
  refine r_getI 0 fX12_219 (by decide) (by decide) dX12_sendOn_6 ?_
  refine r_icmp_ge (tgt := 44) dX12_sendOn_9 (by decide) (fun c_9 => ?_) (fun c_9 => ?_)
  · have ok := ok.1 c_9
    have hx := xif_p c_9 hx
    exact rX.cutz (hX0 S hx) trivial
  · have ok := ok.2 c_9
    have hx := xif_n c_9 hx
    refine r_iload dX12_sendOn_12 rfl ?_
    refine r_iload_n dX12_sendOn_14 rfl rfl ?_
    refine r_icmp_eq (tgt := 38) dX12_sendOn_15 (by decide) (fun c_15 => ?_) (fun c_15 => ?_)
    · have ok := ok.1 c_15
      have hx := xif_p c_15 hx
      exact rX.cutz (b_sendOn_38 hG hX0 hrec ok hx) ⟨rfl, rfl, rfl, rfl, rfl, trivial⟩
    · have ok := ok.2 c_15
      have hx := xif_n c_15 hx
      refine r_iload dX12_sendOn_18 rfl ?_
      refine r_iload_n dX12_sendOn_20 rfl rfl ?_
      refine r_icmp_eq (tgt := 38) dX12_sendOn_21 (by decide) (fun c_21 => ?_) (fun c_21 => ?_)
      · have ok := ok.1 c_21
        have hx := xif_p c_21 hx
        exact rX.cutz (b_sendOn_38 hG hX0 hrec ok hx) ⟨rfl, rfl, rfl, rfl, rfl, trivial⟩
      · have ok := ok.2 c_21
        have hx := xif_n c_21 hx
        refine r_iload dX12_sendOn_24 rfl ?_
        refine r_iload_n dX12_sendOn_26 rfl rfl ?_
        refine r_icmp_eq (tgt := 38) dX12_sendOn_27 (by decide) (fun c_27 => ?_) (fun c_27 => ?_)
        · have ok := ok.1 c_27
          have hx := xif_p c_27 hx
          exact rX.cutz (b_sendOn_38 hG hX0 hrec ok hx) ⟨rfl, rfl, rfl, rfl, rfl, trivial⟩
        · have ok := ok.2 c_27
          have hx := xif_n c_27 hx
          refine r_aload_n dX12_sendOn_30 rfl rfl ?_
          refine r_iload_n dX12_sendOn_31 rfl rfl ?_
          refine r_iload dX12_sendOn_32 rfl ?_
          refine r_V2i (y' := mX12_fly) dX12_sendOn_34 lX12_222 kX12_fly ⟨by decide, by decide⟩ rfl (Nat.le_of_ble_eq_true rfl) (rc_X12_fly hG ok.1) (fun v_34 S_34 h_34 => ?_)
          obtain ⟨rfl, hS_34⟩ := h_34
          have hS_34 := hS_34.symm
          subst hS_34
          have ok := ok.2
          exact rX.cutz (b_sendOn_37 hG hX0 hrec ok hx) ⟨rfl, rfl, rfl, rfl, rfl, trivial⟩
def L_sendOn_3 (N : Nat) : Nat → Int32 → Int32 → Int32 → Int32 → rS → Nat × rS
  | 0, x1, x2, x3, x4, S => (0, S)
  | n + 1, x1, x2, x3, x4, S => B_sendOn_3 N (L_sendOn_3 N n) x1 x2 x3 x4 S
def OL_sendOn_3 (N : Nat) : Nat → Int32 → Int32 → Int32 → Int32 → rS → Prop
  | 0, _, _, _, _, _ => False
  | n + 1, x1, x2, x3, x4, S => OB_sendOn_3 N (OL_sendOn_3 N n) x1 x2 x3 x4 S
set_option maxHeartbeats 4000000 in
theorem l_sendOn_3 {G : zG} {E : rE} {N : Nat} {Q : Option Value → rS → Prop} {X : Nat × rS → Prop} (hG : zOK G) (hX0 : ∀ (S' : rS), X (0, S') → rX G E dX12_sendOn mX12_sendOn 44 [none, none, none, none, none] [] S' Q) : ∀ (n : Nat) (x1 : Int32) (x2 : Int32) (x3 : Int32) (x4 : Int32) (S : rS), OL_sendOn_3 N n x1 x2 x3 x4 S → X (L_sendOn_3 N n x1 x2 x3 x4 S) → rX G E dX12_sendOn mX12_sendOn 3 [some (.ref E.1), some (.int x1), some (.int x2), some (.int x3), some (.int x4)] [] S Q := by
  intro n
  induction n with
  | zero => intro x1 x2 x3 x4 S ok; exact absurd ok id
  | succ n ih =>
    intro x1 x2 x3 x4 S ok hx
    exact bb_sendOn_3 hG hX0 (rec := L_sendOn_3 N n) (rok := OL_sendOn_3 N n) (fun x1 x2 x3 x4 S ok hx => ih x1 x2 x3 x4 S ok hx) ok hx
def A_sendOn_3 (N : Nat) (x1 : Int32) (x2 : Int32) (x3 : Int32) (x4 : Int32) (S : rS) (z : Nat × rS) : rS := (F_sendOn_44 N z.2)
def OA_sendOn_3 (N : Nat) (x1 : Int32) (x2 : Int32) (x3 : Int32) (x4 : Int32) (S : rS) (z : Nat × rS) : Prop := O_sendOn_44 N z.2
set_option maxHeartbeats 4000000 in
theorem c_sendOn_3 {G : zG} {E : rE} {S : rS} {N : Nat} {Q : Option Value → rS → Prop} {X : rS → Prop} (hG : zOK G) (hR : ∀ S', X S' → Q none S') {x1 : Int32} {x2 : Int32} {x3 : Int32} {x4 : Int32} (ok : OL_sendOn_3 N N x1 x2 x3 x4 S ∧ OA_sendOn_3 N x1 x2 x3 x4 S (L_sendOn_3 N N x1 x2 x3 x4 S)) (hx : X (A_sendOn_3 N x1 x2 x3 x4 S (L_sendOn_3 N N x1 x2 x3 x4 S))) : rX G E dX12_sendOn mX12_sendOn 3 [some (.ref E.1), some (.int x1), some (.int x2), some (.int x3), some (.int x4)] [] S Q := by
  refine l_sendOn_3 hG ?_ N x1 x2 x3 x4 S ok.1 (X := fun z => OA_sendOn_3 N x1 x2 x3 x4 S z ∧ X (A_sendOn_3 N x1 x2 x3 x4 S z)) ⟨ok.2, hx⟩
  · intro S' hz
    obtain ⟨ok, hx⟩ := hz
    unfold OA_sendOn_3 at ok
    unfold A_sendOn_3 at hx
    exact rX.cutz (b_sendOn_44 hG hR ok hx) trivial
def F_sendOn_0 (N : Nat) (x1 : Int32) (x2 : Int32) (x3 : Int32) (S : rS) : rS := (A_sendOn_3 N x1 x2 x3 (nI 0) S (L_sendOn_3 N N x1 x2 x3 (nI 0) S))
def O_sendOn_0 (N : Nat) (x1 : Int32) (x2 : Int32) (x3 : Int32) (S : rS) : Prop := (OL_sendOn_3 N N x1 x2 x3 (nI 0) S ∧ OA_sendOn_3 N x1 x2 x3 (nI 0) S (L_sendOn_3 N N x1 x2 x3 (nI 0) S))
set_option maxHeartbeats 4000000 in
theorem b_sendOn_0 {G : zG} {E : rE} {S : rS} {N : Nat} {Q : Option Value → rS → Prop} {X : rS → Prop} (hG : zOK G) (hR : ∀ S', X S' → Q none S') {x1 : Int32} {x2 : Int32} {x3 : Int32} (ok : O_sendOn_0 N x1 x2 x3 S) (hx : X (F_sendOn_0 N x1 x2 x3 S)) : rX G E dX12_sendOn mX12_sendOn 0 [some (.ref E.1), some (.int x1), some (.int x2), some (.int x3), none] [] S Q := by
  unfold O_sendOn_0 at ok
  unfold F_sendOn_0 at hx
  refine r_iconst (v := nI 0) dX12_sendOn_0 (by decide) ?_
  refine r_istore_4 dX12_sendOn_1 (by decide) rfl ?_
  exact rX.cutz (c_sendOn_3 hG hR ok hx) ⟨rfl, rfl, rfl, rfl, rfl, trivial⟩
def f_sendOn (N : Nat) (S : rS) (x1 : Int32) (x2 : Int32) (x3 : Int32) : rS := F_sendOn_0 N x1 x2 x3 S
def o_sendOn (N : Nat) (S : rS) (x1 : Int32) (x2 : Int32) (x3 : Int32) : Prop := O_sendOn_0 N x1 x2 x3 S
set_option maxHeartbeats 4000000 in
theorem rc_X12_sendOn {G : zG} {E : rE} {S : rS} {N : Nat} (hG : zOK G) {x1 : Int32} {x2 : Int32} {x3 : Int32} (ok : o_sendOn N S x1 x2 x3) : rCv G E dX12_sendOn mX12_sendOn [.ref E.1, .int x1, .int x2, .int x3] S (fun S' => S' = f_sendOn N S x1 x2 x3) := by
  refine rC.ofX rfl (Nat.le_of_ble_eq_true rfl) ?_
  show rX G E dX12_sendOn mX12_sendOn 0 [some (.ref E.1), some (.int x1), some (.int x2), some (.int x3), none] [] S _
  exact rX.cutz (b_sendOn_0 (X := fun F => F = f_sendOn N S x1 x2 x3) hG (fun S' h => ⟨rfl, h⟩) ok rfl) ⟨rfl, rfl, rfl, rfl, trivial⟩
/-! load -/
def F_load_43 (N : Nat)  (S : rS) : rS := S
def O_load_43 (N : Nat)  (S : rS) : Prop := True
set_option maxHeartbeats 4000000 in
theorem b_load_43 {G : zG} {E : rE} {S : rS} {N : Nat} {Q : Option Value → rS → Prop} {X : rS → Prop} (hG : zOK G) (hR : ∀ S', X S' → Q none S') (ok : O_load_43 N S) (hx : X (F_load_43 N S)) : rX G E dX12_load mX12_load 43 [none, none, none] [] S Q := by
  unfold O_load_43 at ok
  unfold F_load_43 at hx
  exact r_return rfl dX12_load_43 (hR _ hx)
def B_load_17 (N : Nat) (rec : Int32 → Int32 → rS → Nat × rS) (x1 : Int32) (x2 : Int32) (S : rS) : Nat × rS := (if (S.1 33) ≤ x2 then (0, S) else (rec x1 (x2 + nI 1) (rsA S 32 x2.toNatClampNeg (f_flyByte N S x1 x2))))
def OB_load_17 (N : Nat) (rok : Int32 → Int32 → rS → Prop) (x1 : Int32) (x2 : Int32) (S : rS) : Prop := (((S.1 33) ≤ x2 → True) ∧ (¬ (S.1 33) ≤ x2 → (o_flyByte N S x1 x2) ∧ (vp_in x2 1010) ∧ rok x1 (x2 + nI 1) (rsA S 32 x2.toNatClampNeg (f_flyByte N S x1 x2))))
set_option maxHeartbeats 4000000 in
theorem bb_load_17 {G : zG} {E : rE} {S : rS} {N : Nat} {Q : Option Value → rS → Prop} {X : Nat × rS → Prop} (hG : zOK G) (hX0 : ∀ (S' : rS), X (0, S') → rX G E dX12_load mX12_load 43 [none, none, none] [] S' Q) {rec : Int32 → Int32 → rS → Nat × rS} {rok : Int32 → Int32 → rS → Prop} (hrec : ∀ (x1 : Int32) (x2 : Int32) (S : rS), rok x1 x2 S → X (rec x1 x2 S) → rX G E dX12_load mX12_load 17 [some (.ref E.1), some (.int x1), some (.int x2)] [] S Q) {x1 : Int32} {x2 : Int32} (ok : OB_load_17 N rok x1 x2 S) (hx : X (B_load_17 N rec x1 x2 S)) : rX G E dX12_load mX12_load 17 [some (.ref E.1), some (.int x1), some (.int x2)] [] S Q := by
  unfold OB_load_17 at ok
  unfold B_load_17 at hx
  refine r_iload_n dX12_load_17 rfl rfl ?_
  refine r_aload_n dX12_load_18 rfl rfl ?_
  refine r_getI 33 fX12_201 (by decide) (by decide) dX12_load_19 ?_
  refine r_icmp_ge (tgt := 43) dX12_load_22 (by decide) (fun c_22 => ?_) (fun c_22 => ?_)
  · have ok := ok.1 c_22
    have hx := xif_p c_22 hx
    exact rX.cutz (hX0 S hx) trivial
  · have ok := ok.2 c_22
    have hx := xif_n c_22 hx
    refine r_aload_n dX12_load_25 rfl rfl ?_
    refine r_getA 32 fX12_204 (by decide) (by decide) dX12_load_26 ?_
    refine r_iload_n dX12_load_29 rfl rfl ?_
    refine r_aload_n dX12_load_30 rfl rfl ?_
    refine r_iload_n dX12_load_31 rfl rfl ?_
    refine r_iload_n dX12_load_32 rfl rfl ?_
    refine r_V2i (y' := mX12_flyByte) dX12_load_33 lX12_170 kX12_flyByte ⟨by decide, by decide⟩ rfl (Nat.le_of_ble_eq_true rfl) (rc_X12_flyByte hG ok.1) (fun v_33 S_33 h_33 => ?_)
    obtain ⟨rfl, hS_33⟩ := h_33
    have hS_33 := hS_33.symm
    subst hS_33
    have ok := ok.2
    refine r_iast hG (by decide) (by decide) dX12_load_36 ok.1 ?_
    have ok := ok.2
    refine r_iinc_2 (v := (x2 + nI 1)) dX12_load_37 rfl (by first | rfl | (congr 1)) (by decide) rfl ?_
    refine r_goto (tgt := 17) dX12_load_40 (by decide) ?_
    exact rX.cutz (hrec _ _ (rsA S 32 x2.toNatClampNeg (f_flyByte N S x1 x2)) ok hx) ⟨rfl, rfl, rfl, trivial⟩
def L_load_17 (N : Nat) : Nat → Int32 → Int32 → rS → Nat × rS
  | 0, x1, x2, S => (0, S)
  | n + 1, x1, x2, S => B_load_17 N (L_load_17 N n) x1 x2 S
def OL_load_17 (N : Nat) : Nat → Int32 → Int32 → rS → Prop
  | 0, _, _, _ => False
  | n + 1, x1, x2, S => OB_load_17 N (OL_load_17 N n) x1 x2 S
set_option maxHeartbeats 4000000 in
theorem l_load_17 {G : zG} {E : rE} {N : Nat} {Q : Option Value → rS → Prop} {X : Nat × rS → Prop} (hG : zOK G) (hX0 : ∀ (S' : rS), X (0, S') → rX G E dX12_load mX12_load 43 [none, none, none] [] S' Q) : ∀ (n : Nat) (x1 : Int32) (x2 : Int32) (S : rS), OL_load_17 N n x1 x2 S → X (L_load_17 N n x1 x2 S) → rX G E dX12_load mX12_load 17 [some (.ref E.1), some (.int x1), some (.int x2)] [] S Q := by
  intro n
  induction n with
  | zero => intro x1 x2 S ok; exact absurd ok id
  | succ n ih =>
    intro x1 x2 S ok hx
    exact bb_load_17 hG hX0 (rec := L_load_17 N n) (rok := OL_load_17 N n) (fun x1 x2 S ok hx => ih x1 x2 S ok hx) ok hx
def A_load_17 (N : Nat) (x1 : Int32) (x2 : Int32) (S : rS) (z : Nat × rS) : rS := (F_load_43 N z.2)
def OA_load_17 (N : Nat) (x1 : Int32) (x2 : Int32) (S : rS) (z : Nat × rS) : Prop := O_load_43 N z.2
set_option maxHeartbeats 4000000 in
theorem c_load_17 {G : zG} {E : rE} {S : rS} {N : Nat} {Q : Option Value → rS → Prop} {X : rS → Prop} (hG : zOK G) (hR : ∀ S', X S' → Q none S') {x1 : Int32} {x2 : Int32} (ok : OL_load_17 N N x1 x2 S ∧ OA_load_17 N x1 x2 S (L_load_17 N N x1 x2 S)) (hx : X (A_load_17 N x1 x2 S (L_load_17 N N x1 x2 S))) : rX G E dX12_load mX12_load 17 [some (.ref E.1), some (.int x1), some (.int x2)] [] S Q := by
  refine l_load_17 hG ?_ N x1 x2 S ok.1 (X := fun z => OA_load_17 N x1 x2 S z ∧ X (A_load_17 N x1 x2 S z)) ⟨ok.2, hx⟩
  · intro S' hz
    obtain ⟨ok, hx⟩ := hz
    unfold OA_load_17 at ok
    unfold A_load_17 at hx
    exact rX.cutz (b_load_43 hG hR ok hx) trivial
def F_load_0 (N : Nat) (x1 : Int32) (S : rS) : rS := (A_load_17 N x1 (nI 0) (rsI S 33 (S.2.1 29 (S.2.1 24 x1.toNatClampNeg).toNatClampNeg)) (L_load_17 N N x1 (nI 0) (rsI S 33 (S.2.1 29 (S.2.1 24 x1.toNatClampNeg).toNatClampNeg))))
def O_load_0 (N : Nat) (x1 : Int32) (S : rS) : Prop := (vp_in x1 1000) ∧ (vp_in (S.2.1 24 x1.toNatClampNeg) 1000) ∧ (OL_load_17 N N x1 (nI 0) (rsI S 33 (S.2.1 29 (S.2.1 24 x1.toNatClampNeg).toNatClampNeg)) ∧ OA_load_17 N x1 (nI 0) (rsI S 33 (S.2.1 29 (S.2.1 24 x1.toNatClampNeg).toNatClampNeg)) (L_load_17 N N x1 (nI 0) (rsI S 33 (S.2.1 29 (S.2.1 24 x1.toNatClampNeg).toNatClampNeg))))
set_option maxHeartbeats 4000000 in
theorem b_load_0 {G : zG} {E : rE} {S : rS} {N : Nat} {Q : Option Value → rS → Prop} {X : rS → Prop} (hG : zOK G) (hR : ∀ S', X S' → Q none S') {x1 : Int32} (ok : O_load_0 N x1 S) (hx : X (F_load_0 N x1 S)) : rX G E dX12_load mX12_load 0 [some (.ref E.1), some (.int x1), none] [] S Q := by
  unfold O_load_0 at ok
  unfold F_load_0 at hx
  refine r_aload_n dX12_load_0 rfl rfl ?_
  refine r_aload_n dX12_load_1 rfl rfl ?_
  refine r_getA 29 fX12_173 (by decide) (by decide) dX12_load_2 ?_
  refine r_aload_n dX12_load_5 rfl rfl ?_
  refine r_getA 24 fX12_176 (by decide) (by decide) dX12_load_6 ?_
  refine r_iload_n dX12_load_9 rfl rfl ?_
  refine r_iald (by decide) (by decide) dX12_load_10 ok.1 ?_
  have ok := ok.2
  refine r_iald (by decide) (by decide) dX12_load_11 ok.1 ?_
  have ok := ok.2
  refine r_putI 33 fX12_201 (by decide) (by decide) rfl rfl rfl dX12_load_12 ?_
  refine r_iconst (v := nI 0) dX12_load_15 (by decide) ?_
  refine r_istore_2 dX12_load_16 (by decide) rfl ?_
  exact rX.cutz (c_load_17 hG hR ok hx) ⟨rfl, rfl, rfl, trivial⟩
def f_load (N : Nat) (S : rS) (x1 : Int32) : rS := F_load_0 N x1 S
def o_load (N : Nat) (S : rS) (x1 : Int32) : Prop := O_load_0 N x1 S
set_option maxHeartbeats 4000000 in
theorem rc_X12_load {G : zG} {E : rE} {S : rS} {N : Nat} (hG : zOK G) {x1 : Int32} (ok : o_load N S x1) : rCv G E dX12_load mX12_load [.ref E.1, .int x1] S (fun S' => S' = f_load N S x1) := by
  refine rC.ofX rfl (Nat.le_of_ble_eq_true rfl) ?_
  show rX G E dX12_load mX12_load 0 [some (.ref E.1), some (.int x1), none] [] S _
  exact rX.cutz (b_load_0 (X := fun F => F = f_load N S x1) hG (fun S' h => ⟨rfl, h⟩) ok rfl) ⟨rfl, rfl, trivial⟩
/-! write -/
def F_write_0 (N : Nat) (x1 : Int32) (S : rS) : rS := (rsI (rsA S 32 (S.1 33).toNatClampNeg (x1 &&& (nI 255))) 33 (((rsA S 32 (S.1 33).toNatClampNeg (x1 &&& (nI 255))).1 33) + (nI 1)))
def O_write_0 (N : Nat) (x1 : Int32) (S : rS) : Prop := (vp_in (S.1 33) 1010) ∧ True
set_option maxHeartbeats 4000000 in
theorem b_write_0 {G : zG} {E : rE} {S : rS} {N : Nat} {Q : Option Value → rS → Prop} {X : rS → Prop} (hG : zOK G) (hR : ∀ S', X S' → Q none S') {x1 : Int32} (ok : O_write_0 N x1 S) (hx : X (F_write_0 N x1 S)) : rX G E dX12_write mX12_write 0 [some (.ref E.1), some (.int x1)] [] S Q := by
  unfold O_write_0 at ok
  unfold F_write_0 at hx
  refine r_aload_n dX12_write_0 rfl rfl ?_
  refine r_getA 32 fX12_204 (by decide) (by decide) dX12_write_1 ?_
  refine r_aload_n dX12_write_4 rfl rfl ?_
  refine r_getI 33 fX12_201 (by decide) (by decide) dX12_write_5 ?_
  refine r_iload_n dX12_write_8 rfl rfl ?_
  refine r_sipush (v := nI 255) dX12_write_9 (by decide) ?_
  refine r_iand dX12_write_12 ?_
  refine r_iast hG (by decide) (by decide) dX12_write_13 ok.1 ?_
  have ok := ok.2
  refine r_aload_n dX12_write_14 rfl rfl ?_
  refine r_aload_n dX12_write_15 rfl rfl ?_
  refine r_getI 33 fX12_201 (by decide) (by decide) dX12_write_16 ?_
  refine r_iconst (v := nI 1) dX12_write_19 (by decide) ?_
  refine r_iadd dX12_write_20 ?_
  refine r_putI 33 fX12_201 (by decide) (by decide) rfl rfl rfl dX12_write_21 ?_
  exact r_return rfl dX12_write_24 (hR _ hx)
def f_write (N : Nat) (S : rS) (x1 : Int32) : rS := F_write_0 N x1 S
def o_write (N : Nat) (S : rS) (x1 : Int32) : Prop := O_write_0 N x1 S
set_option maxHeartbeats 4000000 in
theorem rc_X12_write {G : zG} {E : rE} {S : rS} {N : Nat} (hG : zOK G) {x1 : Int32} (ok : o_write N S x1) : rCv G E dX12_write mX12_write [.ref E.1, .int x1] S (fun S' => S' = f_write N S x1) := by
  refine rC.ofX rfl (Nat.le_of_ble_eq_true rfl) ?_
  show rX G E dX12_write mX12_write 0 [some (.ref E.1), some (.int x1)] [] S _
  exact rX.cutz (b_write_0 (X := fun F => F = f_write N S x1) hG (fun S' h => ⟨rfl, h⟩) ok rfl) ⟨rfl, rfl, trivial⟩
/-! writeTwo -/
def F_writeTwo_8 (N : Nat) (x1 : Int32) (S : rS) : rS := (f_write N S x1)
def O_writeTwo_8 (N : Nat) (x1 : Int32) (S : rS) : Prop := (o_write N S x1) ∧ True
set_option maxHeartbeats 4000000 in
theorem b_writeTwo_8 {G : zG} {E : rE} {S : rS} {N : Nat} {Q : Option Value → rS → Prop} {X : rS → Prop} (hG : zOK G) (hR : ∀ S', X S' → Q none S') {x1 : Int32} (ok : O_writeTwo_8 N x1 S) (hx : X (F_writeTwo_8 N x1 S)) : rX G E dX12_writeTwo mX12_writeTwo 8 [some (.ref E.1), some (.int x1)] [] S Q := by
  unfold O_writeTwo_8 at ok
  unfold F_writeTwo_8 at hx
  refine r_aload_n dX12_writeTwo_8 rfl rfl ?_
  refine r_iload_n dX12_writeTwo_9 rfl rfl ?_
  refine r_V1v (y' := mX12_write) dX12_writeTwo_10 lX12_226 kX12_write ⟨by decide, by decide⟩ rfl (Nat.le_of_ble_eq_true rfl) (rc_X12_write hG ok.1) (fun S_10 h_10 => ?_)
  subst h_10
  have ok := ok.2
  exact r_return rfl dX12_writeTwo_13 (hR _ hx)
def F_writeTwo_0 (N : Nat) (x1 : Int32) (S : rS) : rS := (F_writeTwo_8 N x1 (f_write N S (x1 >>> ((nI 8) &&& 31))))
def O_writeTwo_0 (N : Nat) (x1 : Int32) (S : rS) : Prop := (o_write N S (x1 >>> ((nI 8) &&& 31))) ∧ O_writeTwo_8 N x1 (f_write N S (x1 >>> ((nI 8) &&& 31)))
set_option maxHeartbeats 4000000 in
theorem b_writeTwo_0 {G : zG} {E : rE} {S : rS} {N : Nat} {Q : Option Value → rS → Prop} {X : rS → Prop} (hG : zOK G) (hR : ∀ S', X S' → Q none S') {x1 : Int32} (ok : O_writeTwo_0 N x1 S) (hx : X (F_writeTwo_0 N x1 S)) : rX G E dX12_writeTwo mX12_writeTwo 0 [some (.ref E.1), some (.int x1)] [] S Q := by
  unfold O_writeTwo_0 at ok
  unfold F_writeTwo_0 at hx
  refine r_aload_n dX12_writeTwo_0 rfl rfl ?_
  refine r_iload_n dX12_writeTwo_1 rfl rfl ?_
  refine r_bipush (v := nI 8) dX12_writeTwo_2 (by decide) ?_
  refine r_ishr dX12_writeTwo_4 ?_
  refine r_V1v (y' := mX12_write) dX12_writeTwo_5 lX12_226 kX12_write ⟨by decide, by decide⟩ rfl (Nat.le_of_ble_eq_true rfl) (rc_X12_write hG ok.1) (fun S_5 h_5 => ?_)
  subst h_5
  have ok := ok.2
  exact rX.cutz (b_writeTwo_8 hG hR ok hx) ⟨rfl, rfl, trivial⟩
def f_writeTwo (N : Nat) (S : rS) (x1 : Int32) : rS := F_writeTwo_0 N x1 S
def o_writeTwo (N : Nat) (S : rS) (x1 : Int32) : Prop := O_writeTwo_0 N x1 S
set_option maxHeartbeats 4000000 in
theorem rc_X12_writeTwo {G : zG} {E : rE} {S : rS} {N : Nat} (hG : zOK G) {x1 : Int32} (ok : o_writeTwo N S x1) : rCv G E dX12_writeTwo mX12_writeTwo [.ref E.1, .int x1] S (fun S' => S' = f_writeTwo N S x1) := by
  refine rC.ofX rfl (Nat.le_of_ble_eq_true rfl) ?_
  show rX G E dX12_writeTwo mX12_writeTwo 0 [some (.ref E.1), some (.int x1)] [] S _
  exact rX.cutz (b_writeTwo_0 (X := fun F => F = f_writeTwo N S x1) hG (fun S' h => ⟨rfl, h⟩) ok rfl) ⟨rfl, rfl, trivial⟩
/-! writeBlock -/
def F_writeBlock_28 (N : Nat)  (S : rS) : rS := S
def O_writeBlock_28 (N : Nat)  (S : rS) : Prop := True
set_option maxHeartbeats 4000000 in
theorem b_writeBlock_28 {G : zG} {E : rE} {S : rS} {N : Nat} {Q : Option Value → rS → Prop} {X : rS → Prop} (hG : zOK G) (hR : ∀ S', X S' → Q none S') (ok : O_writeBlock_28 N S) (hx : X (F_writeBlock_28 N S)) : rX G E dX12_writeBlock mX12_writeBlock 28 [none, none, none] [] S Q := by
  unfold O_writeBlock_28 at ok
  unfold F_writeBlock_28 at hx
  exact r_return rfl dX12_writeBlock_28 (hR _ hx)
def F_writeBlock_22 (N : Nat) (rec : Int32 → Int32 → rS → Nat × rS) (x1 : Int32) (x2 : Int32) (S : rS) : Nat × rS := (rec x1 (x2 + nI 1) S)
def O_writeBlock_22 (N : Nat) (rok : Int32 → Int32 → rS → Prop) (x1 : Int32) (x2 : Int32) (S : rS) : Prop := rok x1 (x2 + nI 1) S
set_option maxHeartbeats 4000000 in
theorem b_writeBlock_22 {G : zG} {E : rE} {S : rS} {N : Nat} {Q : Option Value → rS → Prop} {X : Nat × rS → Prop} (hG : zOK G) (hX0 : ∀ (S' : rS), X (0, S') → rX G E dX12_writeBlock mX12_writeBlock 28 [none, none, none] [] S' Q) {rec : Int32 → Int32 → rS → Nat × rS} {rok : Int32 → Int32 → rS → Prop} (hrec : ∀ (x1 : Int32) (x2 : Int32) (S : rS), rok x1 x2 S → X (rec x1 x2 S) → rX G E dX12_writeBlock mX12_writeBlock 2 [some (.ref E.1), some (.int x1), some (.int x2)] [] S Q) {x1 : Int32} {x2 : Int32} (ok : O_writeBlock_22 N rok x1 x2 S) (hx : X (F_writeBlock_22 N rec x1 x2 S)) : rX G E dX12_writeBlock mX12_writeBlock 22 [some (.ref E.1), some (.int x1), some (.int x2)] [] S Q := by
  unfold O_writeBlock_22 at ok
  unfold F_writeBlock_22 at hx
  refine r_iinc_2 (v := (x2 + nI 1)) dX12_writeBlock_22 rfl (by first | rfl | (congr 1)) (by decide) rfl ?_
  refine r_goto (tgt := 2) dX12_writeBlock_25 (by decide) ?_
  exact rX.cutz (hrec _ _ S ok hx) ⟨rfl, rfl, rfl, trivial⟩
def B_writeBlock_2 (N : Nat) (rec : Int32 → Int32 → rS → Nat × rS) (x1 : Int32) (x2 : Int32) (S : rS) : Nat × rS := (if (S.2.1 14 x1.toNatClampNeg) ≤ x2 then (0, S) else (F_writeBlock_22 N rec x1 x2 (f_write N S (f_blockByte N S x1 x2))))
def OB_writeBlock_2 (N : Nat) (rok : Int32 → Int32 → rS → Prop) (x1 : Int32) (x2 : Int32) (S : rS) : Prop := (vp_in x1 1354) ∧ (((S.2.1 14 x1.toNatClampNeg) ≤ x2 → True) ∧ (¬ (S.2.1 14 x1.toNatClampNeg) ≤ x2 → (o_blockByte N S x1 x2) ∧ (o_write N S (f_blockByte N S x1 x2)) ∧ O_writeBlock_22 N rok x1 x2 (f_write N S (f_blockByte N S x1 x2))))
set_option maxHeartbeats 4000000 in
theorem bb_writeBlock_2 {G : zG} {E : rE} {S : rS} {N : Nat} {Q : Option Value → rS → Prop} {X : Nat × rS → Prop} (hG : zOK G) (hX0 : ∀ (S' : rS), X (0, S') → rX G E dX12_writeBlock mX12_writeBlock 28 [none, none, none] [] S' Q) {rec : Int32 → Int32 → rS → Nat × rS} {rok : Int32 → Int32 → rS → Prop} (hrec : ∀ (x1 : Int32) (x2 : Int32) (S : rS), rok x1 x2 S → X (rec x1 x2 S) → rX G E dX12_writeBlock mX12_writeBlock 2 [some (.ref E.1), some (.int x1), some (.int x2)] [] S Q) {x1 : Int32} {x2 : Int32} (ok : OB_writeBlock_2 N rok x1 x2 S) (hx : X (B_writeBlock_2 N rec x1 x2 S)) : rX G E dX12_writeBlock mX12_writeBlock 2 [some (.ref E.1), some (.int x1), some (.int x2)] [] S Q := by
  unfold OB_writeBlock_2 at ok
  unfold B_writeBlock_2 at hx
  refine r_iload_n dX12_writeBlock_2 rfl rfl ?_
  refine r_aload_n dX12_writeBlock_3 rfl rfl ?_
  refine r_getA 14 fX12_57 (by decide) (by decide) dX12_writeBlock_4 ?_
  refine r_iload_n dX12_writeBlock_7 rfl rfl ?_
  refine r_iald (by decide) (by decide) dX12_writeBlock_8 ok.1 ?_
  have ok := ok.2
  refine r_icmp_ge (tgt := 28) dX12_writeBlock_9 (by decide) (fun c_9 => ?_) (fun c_9 => ?_)
  · have ok := ok.1 c_9
    have hx := xif_p c_9 hx
    exact rX.cutz (hX0 S hx) trivial
  · have ok := ok.2 c_9
    have hx := xif_n c_9 hx
    refine r_aload_n dX12_writeBlock_12 rfl rfl ?_
    refine r_aload_n dX12_writeBlock_13 rfl rfl ?_
    refine r_iload_n dX12_writeBlock_14 rfl rfl ?_
    refine r_iload_n dX12_writeBlock_15 rfl rfl ?_
    refine r_V2i (y' := mX12_blockByte) dX12_writeBlock_16 lX12_67 kX12_blockByte ⟨by decide, by decide⟩ rfl (Nat.le_of_ble_eq_true rfl) (rc_X12_blockByte hG ok.1) (fun v_16 S_16 h_16 => ?_)
    obtain ⟨rfl, hS_16⟩ := h_16
    have hS_16 := hS_16.symm
    subst hS_16
    have ok := ok.2
    refine r_V1v (y' := mX12_write) dX12_writeBlock_19 lX12_226 kX12_write ⟨by decide, by decide⟩ rfl (Nat.le_of_ble_eq_true rfl) (rc_X12_write hG ok.1) (fun S_19 h_19 => ?_)
    subst h_19
    have ok := ok.2
    exact rX.cutz (b_writeBlock_22 hG hX0 hrec ok hx) ⟨rfl, rfl, rfl, trivial⟩
def L_writeBlock_2 (N : Nat) : Nat → Int32 → Int32 → rS → Nat × rS
  | 0, x1, x2, S => (0, S)
  | n + 1, x1, x2, S => B_writeBlock_2 N (L_writeBlock_2 N n) x1 x2 S
def OL_writeBlock_2 (N : Nat) : Nat → Int32 → Int32 → rS → Prop
  | 0, _, _, _ => False
  | n + 1, x1, x2, S => OB_writeBlock_2 N (OL_writeBlock_2 N n) x1 x2 S
set_option maxHeartbeats 4000000 in
theorem l_writeBlock_2 {G : zG} {E : rE} {N : Nat} {Q : Option Value → rS → Prop} {X : Nat × rS → Prop} (hG : zOK G) (hX0 : ∀ (S' : rS), X (0, S') → rX G E dX12_writeBlock mX12_writeBlock 28 [none, none, none] [] S' Q) : ∀ (n : Nat) (x1 : Int32) (x2 : Int32) (S : rS), OL_writeBlock_2 N n x1 x2 S → X (L_writeBlock_2 N n x1 x2 S) → rX G E dX12_writeBlock mX12_writeBlock 2 [some (.ref E.1), some (.int x1), some (.int x2)] [] S Q := by
  intro n
  induction n with
  | zero => intro x1 x2 S ok; exact absurd ok id
  | succ n ih =>
    intro x1 x2 S ok hx
    exact bb_writeBlock_2 hG hX0 (rec := L_writeBlock_2 N n) (rok := OL_writeBlock_2 N n) (fun x1 x2 S ok hx => ih x1 x2 S ok hx) ok hx
def A_writeBlock_2 (N : Nat) (x1 : Int32) (x2 : Int32) (S : rS) (z : Nat × rS) : rS := (F_writeBlock_28 N z.2)
def OA_writeBlock_2 (N : Nat) (x1 : Int32) (x2 : Int32) (S : rS) (z : Nat × rS) : Prop := O_writeBlock_28 N z.2
set_option maxHeartbeats 4000000 in
theorem c_writeBlock_2 {G : zG} {E : rE} {S : rS} {N : Nat} {Q : Option Value → rS → Prop} {X : rS → Prop} (hG : zOK G) (hR : ∀ S', X S' → Q none S') {x1 : Int32} {x2 : Int32} (ok : OL_writeBlock_2 N N x1 x2 S ∧ OA_writeBlock_2 N x1 x2 S (L_writeBlock_2 N N x1 x2 S)) (hx : X (A_writeBlock_2 N x1 x2 S (L_writeBlock_2 N N x1 x2 S))) : rX G E dX12_writeBlock mX12_writeBlock 2 [some (.ref E.1), some (.int x1), some (.int x2)] [] S Q := by
  refine l_writeBlock_2 hG ?_ N x1 x2 S ok.1 (X := fun z => OA_writeBlock_2 N x1 x2 S z ∧ X (A_writeBlock_2 N x1 x2 S z)) ⟨ok.2, hx⟩
  · intro S' hz
    obtain ⟨ok, hx⟩ := hz
    unfold OA_writeBlock_2 at ok
    unfold A_writeBlock_2 at hx
    exact rX.cutz (b_writeBlock_28 hG hR ok hx) trivial
def F_writeBlock_0 (N : Nat) (x1 : Int32) (S : rS) : rS := (A_writeBlock_2 N x1 (nI 0) S (L_writeBlock_2 N N x1 (nI 0) S))
def O_writeBlock_0 (N : Nat) (x1 : Int32) (S : rS) : Prop := (OL_writeBlock_2 N N x1 (nI 0) S ∧ OA_writeBlock_2 N x1 (nI 0) S (L_writeBlock_2 N N x1 (nI 0) S))
set_option maxHeartbeats 4000000 in
theorem b_writeBlock_0 {G : zG} {E : rE} {S : rS} {N : Nat} {Q : Option Value → rS → Prop} {X : rS → Prop} (hG : zOK G) (hR : ∀ S', X S' → Q none S') {x1 : Int32} (ok : O_writeBlock_0 N x1 S) (hx : X (F_writeBlock_0 N x1 S)) : rX G E dX12_writeBlock mX12_writeBlock 0 [some (.ref E.1), some (.int x1), none] [] S Q := by
  unfold O_writeBlock_0 at ok
  unfold F_writeBlock_0 at hx
  refine r_iconst (v := nI 0) dX12_writeBlock_0 (by decide) ?_
  refine r_istore_2 dX12_writeBlock_1 (by decide) rfl ?_
  exact rX.cutz (c_writeBlock_2 hG hR ok hx) ⟨rfl, rfl, rfl, trivial⟩
def f_writeBlock (N : Nat) (S : rS) (x1 : Int32) : rS := F_writeBlock_0 N x1 S
def o_writeBlock (N : Nat) (S : rS) (x1 : Int32) : Prop := O_writeBlock_0 N x1 S
set_option maxHeartbeats 4000000 in
theorem rc_X12_writeBlock {G : zG} {E : rE} {S : rS} {N : Nat} (hG : zOK G) {x1 : Int32} (ok : o_writeBlock N S x1) : rCv G E dX12_writeBlock mX12_writeBlock [.ref E.1, .int x1] S (fun S' => S' = f_writeBlock N S x1) := by
  refine rC.ofX rfl (Nat.le_of_ble_eq_true rfl) ?_
  show rX G E dX12_writeBlock mX12_writeBlock 0 [some (.ref E.1), some (.int x1), none] [] S _
  exact rX.cutz (b_writeBlock_0 (X := fun F => F = f_writeBlock N S x1) hG (fun S' h => ⟨rfl, h⟩) ok rfl) ⟨rfl, rfl, trivial⟩
/-! writeHead -/
def F_writeHead_20 (N : Nat) (x4 : Int32) (S : rS) : rS := (f_write N S x4)
def O_writeHead_20 (N : Nat) (x4 : Int32) (S : rS) : Prop := (o_write N S x4) ∧ True
set_option maxHeartbeats 4000000 in
theorem b_writeHead_20 {G : zG} {E : rE} {S : rS} {N : Nat} {Q : Option Value → rS → Prop} {X : rS → Prop} (hG : zOK G) (hR : ∀ S', X S' → Q none S') {x4 : Int32} (ok : O_writeHead_20 N x4 S) (hx : X (F_writeHead_20 N x4 S)) : rX G E dX12_writeHead mX12_writeHead 20 [some (.ref E.1), none, none, none, some (.int x4)] [] S Q := by
  unfold O_writeHead_20 at ok
  unfold F_writeHead_20 at hx
  refine r_aload_n dX12_writeHead_20 rfl rfl ?_
  refine r_iload dX12_writeHead_21 rfl ?_
  refine r_V1v (y' := mX12_write) dX12_writeHead_23 lX12_226 kX12_write ⟨by decide, by decide⟩ rfl (Nat.le_of_ble_eq_true rfl) (rc_X12_write hG ok.1) (fun S_23 h_23 => ?_)
  subst h_23
  have ok := ok.2
  exact r_return rfl dX12_writeHead_26 (hR _ hx)
def F_writeHead_15 (N : Nat) (x3 : Int32) (x4 : Int32) (S : rS) : rS := (F_writeHead_20 N x4 (f_writeTwo N S x3))
def O_writeHead_15 (N : Nat) (x3 : Int32) (x4 : Int32) (S : rS) : Prop := (o_writeTwo N S x3) ∧ O_writeHead_20 N x4 (f_writeTwo N S x3)
set_option maxHeartbeats 4000000 in
theorem b_writeHead_15 {G : zG} {E : rE} {S : rS} {N : Nat} {Q : Option Value → rS → Prop} {X : rS → Prop} (hG : zOK G) (hR : ∀ S', X S' → Q none S') {x3 : Int32} {x4 : Int32} (ok : O_writeHead_15 N x3 x4 S) (hx : X (F_writeHead_15 N x3 x4 S)) : rX G E dX12_writeHead mX12_writeHead 15 [some (.ref E.1), none, none, some (.int x3), some (.int x4)] [] S Q := by
  unfold O_writeHead_15 at ok
  unfold F_writeHead_15 at hx
  refine r_aload_n dX12_writeHead_15 rfl rfl ?_
  refine r_iload_n dX12_writeHead_16 rfl rfl ?_
  refine r_V1v (y' := mX12_writeTwo) dX12_writeHead_17 lX12_229 kX12_writeTwo ⟨by decide, by decide⟩ rfl (Nat.le_of_ble_eq_true rfl) (rc_X12_writeTwo hG ok.1) (fun S_17 h_17 => ?_)
  subst h_17
  have ok := ok.2
  exact rX.cutz (b_writeHead_20 hG hR ok hx) ⟨rfl, rfl, trivial⟩
def F_writeHead_10 (N : Nat) (x2 : Int32) (x3 : Int32) (x4 : Int32) (S : rS) : rS := (F_writeHead_15 N x3 x4 (f_write N S x2))
def O_writeHead_10 (N : Nat) (x2 : Int32) (x3 : Int32) (x4 : Int32) (S : rS) : Prop := (o_write N S x2) ∧ O_writeHead_15 N x3 x4 (f_write N S x2)
set_option maxHeartbeats 4000000 in
theorem b_writeHead_10 {G : zG} {E : rE} {S : rS} {N : Nat} {Q : Option Value → rS → Prop} {X : rS → Prop} (hG : zOK G) (hR : ∀ S', X S' → Q none S') {x2 : Int32} {x3 : Int32} {x4 : Int32} (ok : O_writeHead_10 N x2 x3 x4 S) (hx : X (F_writeHead_10 N x2 x3 x4 S)) : rX G E dX12_writeHead mX12_writeHead 10 [some (.ref E.1), none, some (.int x2), some (.int x3), some (.int x4)] [] S Q := by
  unfold O_writeHead_10 at ok
  unfold F_writeHead_10 at hx
  refine r_aload_n dX12_writeHead_10 rfl rfl ?_
  refine r_iload_n dX12_writeHead_11 rfl rfl ?_
  refine r_V1v (y' := mX12_write) dX12_writeHead_12 lX12_226 kX12_write ⟨by decide, by decide⟩ rfl (Nat.le_of_ble_eq_true rfl) (rc_X12_write hG ok.1) (fun S_12 h_12 => ?_)
  subst h_12
  have ok := ok.2
  exact rX.cutz (b_writeHead_15 hG hR ok hx) ⟨rfl, rfl, rfl, trivial⟩
def F_writeHead_0 (N : Nat) (x1 : Int32) (x2 : Int32) (x3 : Int32) (x4 : Int32) (S : rS) : rS := (F_writeHead_10 N x2 x3 x4 (f_write N (rsI S 33 (nI 0)) x1))
def O_writeHead_0 (N : Nat) (x1 : Int32) (x2 : Int32) (x3 : Int32) (x4 : Int32) (S : rS) : Prop := (o_write N (rsI S 33 (nI 0)) x1) ∧ O_writeHead_10 N x2 x3 x4 (f_write N (rsI S 33 (nI 0)) x1)
set_option maxHeartbeats 4000000 in
theorem b_writeHead_0 {G : zG} {E : rE} {S : rS} {N : Nat} {Q : Option Value → rS → Prop} {X : rS → Prop} (hG : zOK G) (hR : ∀ S', X S' → Q none S') {x1 : Int32} {x2 : Int32} {x3 : Int32} {x4 : Int32} (ok : O_writeHead_0 N x1 x2 x3 x4 S) (hx : X (F_writeHead_0 N x1 x2 x3 x4 S)) : rX G E dX12_writeHead mX12_writeHead 0 [some (.ref E.1), some (.int x1), some (.int x2), some (.int x3), some (.int x4)] [] S Q := by
  unfold O_writeHead_0 at ok
  unfold F_writeHead_0 at hx
  refine r_aload_n dX12_writeHead_0 rfl rfl ?_
  refine r_iconst (v := nI 0) dX12_writeHead_1 (by decide) ?_
  refine r_putI 33 fX12_201 (by decide) (by decide) rfl rfl rfl dX12_writeHead_2 ?_
  refine r_aload_n dX12_writeHead_5 rfl rfl ?_
  refine r_iload_n dX12_writeHead_6 rfl rfl ?_
  refine r_V1v (y' := mX12_write) dX12_writeHead_7 lX12_226 kX12_write ⟨by decide, by decide⟩ rfl (Nat.le_of_ble_eq_true rfl) (rc_X12_write hG ok.1) (fun S_7 h_7 => ?_)
  subst h_7
  have ok := ok.2
  exact rX.cutz (b_writeHead_10 hG hR ok hx) ⟨rfl, rfl, rfl, rfl, trivial⟩
def f_writeHead (N : Nat) (S : rS) (x1 : Int32) (x2 : Int32) (x3 : Int32) (x4 : Int32) : rS := F_writeHead_0 N x1 x2 x3 x4 S
def o_writeHead (N : Nat) (S : rS) (x1 : Int32) (x2 : Int32) (x3 : Int32) (x4 : Int32) : Prop := O_writeHead_0 N x1 x2 x3 x4 S
set_option maxHeartbeats 4000000 in
theorem rc_X12_writeHead {G : zG} {E : rE} {S : rS} {N : Nat} (hG : zOK G) {x1 : Int32} {x2 : Int32} {x3 : Int32} {x4 : Int32} (ok : o_writeHead N S x1 x2 x3 x4) : rCv G E dX12_writeHead mX12_writeHead [.ref E.1, .int x1, .int x2, .int x3, .int x4] S (fun S' => S' = f_writeHead N S x1 x2 x3 x4) := by
  refine rC.ofX rfl (Nat.le_of_ble_eq_true rfl) ?_
  show rX G E dX12_writeHead mX12_writeHead 0 [some (.ref E.1), some (.int x1), some (.int x2), some (.int x3), some (.int x4)] [] S _
  exact rX.cutz (b_writeHead_0 (X := fun F => F = f_writeHead N S x1 x2 x3 x4) hG (fun S' h => ⟨rfl, h⟩) ok rfl) ⟨rfl, rfl, rfl, rfl, rfl, trivial⟩
/-! isPaymentAt -/
def F_isPaymentAt_117 (N : Nat) (s0 : Int32) (S : rS) : Int32 := s0
def O_isPaymentAt_117 (N : Nat) (s0 : Int32) (S : rS) : Prop := narrow .boolean (.int s0) = .int s0
set_option maxHeartbeats 4000000 in
theorem b_isPaymentAt_117 {G : zG} {E : rE} {S : rS} {N : Nat} {Q : Option Value → rS → Prop} {X : Int32 → Prop} (hG : zOK G) (hR : ∀ v, X v → Q (some (.int v)) S) {s0 : Int32} (ok : O_isPaymentAt_117 N s0 S) (hx : X (F_isPaymentAt_117 N s0 S)) : rX G E dX12_isPaymentAt mX12_isPaymentAt 117 [none, none, none] [.int s0] S Q := by
  unfold O_isPaymentAt_117 at ok
  unfold F_isPaymentAt_117 at hx
  exact r_ireturn rfl ok dX12_isPaymentAt_117 (hR _ hx)
def F_isPaymentAt_116 (N : Nat)  (S : rS) : Int32 := (F_isPaymentAt_117 N (nI 0) S)
def O_isPaymentAt_116 (N : Nat)  (S : rS) : Prop := O_isPaymentAt_117 N (nI 0) S
set_option maxHeartbeats 4000000 in
theorem b_isPaymentAt_116 {G : zG} {E : rE} {S : rS} {N : Nat} {Q : Option Value → rS → Prop} {X : Int32 → Prop} (hG : zOK G) (hR : ∀ v, X v → Q (some (.int v)) S) (ok : O_isPaymentAt_116 N S) (hx : X (F_isPaymentAt_116 N S)) : rX G E dX12_isPaymentAt mX12_isPaymentAt 116 [none, none, none] [] S Q := by
  unfold O_isPaymentAt_116 at ok
  unfold F_isPaymentAt_116 at hx
  refine r_iconst (v := nI 0) dX12_isPaymentAt_116 (by decide) ?_
  exact rX.cutz (b_isPaymentAt_117 hG hR ok hx) trivial
def F_isPaymentAt_0 (N : Nat) (x1 : Int32) (S : rS) : Int32 := (if (x1 + (nI 7)) ≤ (S.1 33) then (if (nI 16) ≤ (S.2.1 32 x1.toNatClampNeg) then (F_isPaymentAt_116 N S) else (if (nI 16) ≤ (S.2.1 32 (x1 + (nI 1)).toNatClampNeg) then (F_isPaymentAt_116 N S) else (if (S.2.1 32 x1.toNatClampNeg) = (S.2.1 32 (x1 + (nI 1)).toNatClampNeg) then (F_isPaymentAt_116 N S) else (if (((S.2.1 32 (x1 + (nI 2)).toNatClampNeg) <<< ((nI 8) &&& 31)) ||| (S.2.1 32 (x1 + (nI 3)).toNatClampNeg)) ≤ 0 then (F_isPaymentAt_116 N S) else (if (nI 1000) < (((S.2.1 32 (x1 + (nI 2)).toNatClampNeg) <<< ((nI 8) &&& 31)) ||| (S.2.1 32 (x1 + (nI 3)).toNatClampNeg)) then (F_isPaymentAt_116 N S) else (if (S.2.1 32 (x1 + (nI 6)).toNatClampNeg) ≤ 0 then (F_isPaymentAt_116 N S) else (if (nI 10) ≤ (S.2.1 32 (x1 + (nI 6)).toNatClampNeg) then (F_isPaymentAt_116 N S) else (F_isPaymentAt_117 N (nI 1) S)))))))) else (nI 0))
def O_isPaymentAt_0 (N : Nat) (x1 : Int32) (S : rS) : Prop := (((x1 + (nI 7)) ≤ (S.1 33) → (vp_in (x1 + (nI 2)) 1010) ∧ (vp_in (x1 + (nI 3)) 1010) ∧ (vp_in x1 1010) ∧ (((nI 16) ≤ (S.2.1 32 x1.toNatClampNeg) → O_isPaymentAt_116 N S) ∧ (¬ (nI 16) ≤ (S.2.1 32 x1.toNatClampNeg) → (vp_in (x1 + (nI 1)) 1010) ∧ (((nI 16) ≤ (S.2.1 32 (x1 + (nI 1)).toNatClampNeg) → O_isPaymentAt_116 N S) ∧ (¬ (nI 16) ≤ (S.2.1 32 (x1 + (nI 1)).toNatClampNeg) → (vp_in x1 1010) ∧ (vp_in (x1 + (nI 1)) 1010) ∧ (((S.2.1 32 x1.toNatClampNeg) = (S.2.1 32 (x1 + (nI 1)).toNatClampNeg) → O_isPaymentAt_116 N S) ∧ (¬ (S.2.1 32 x1.toNatClampNeg) = (S.2.1 32 (x1 + (nI 1)).toNatClampNeg) → (((((S.2.1 32 (x1 + (nI 2)).toNatClampNeg) <<< ((nI 8) &&& 31)) ||| (S.2.1 32 (x1 + (nI 3)).toNatClampNeg)) ≤ 0 → O_isPaymentAt_116 N S) ∧ (¬ (((S.2.1 32 (x1 + (nI 2)).toNatClampNeg) <<< ((nI 8) &&& 31)) ||| (S.2.1 32 (x1 + (nI 3)).toNatClampNeg)) ≤ 0 → (((nI 1000) < (((S.2.1 32 (x1 + (nI 2)).toNatClampNeg) <<< ((nI 8) &&& 31)) ||| (S.2.1 32 (x1 + (nI 3)).toNatClampNeg)) → O_isPaymentAt_116 N S) ∧ (¬ (nI 1000) < (((S.2.1 32 (x1 + (nI 2)).toNatClampNeg) <<< ((nI 8) &&& 31)) ||| (S.2.1 32 (x1 + (nI 3)).toNatClampNeg)) → (vp_in (x1 + (nI 6)) 1010) ∧ (((S.2.1 32 (x1 + (nI 6)).toNatClampNeg) ≤ 0 → O_isPaymentAt_116 N S) ∧ (¬ (S.2.1 32 (x1 + (nI 6)).toNatClampNeg) ≤ 0 → (vp_in (x1 + (nI 6)) 1010) ∧ (((nI 10) ≤ (S.2.1 32 (x1 + (nI 6)).toNatClampNeg) → O_isPaymentAt_116 N S) ∧ (¬ (nI 10) ≤ (S.2.1 32 (x1 + (nI 6)).toNatClampNeg) → O_isPaymentAt_117 N (nI 1) S))))))))))))))) ∧ (¬ (x1 + (nI 7)) ≤ (S.1 33) → True))
set_option maxHeartbeats 4000000 in
theorem b_isPaymentAt_0 {G : zG} {E : rE} {S : rS} {N : Nat} {Q : Option Value → rS → Prop} {X : Int32 → Prop} (hG : zOK G) (hR : ∀ v, X v → Q (some (.int v)) S) {x1 : Int32} (ok : O_isPaymentAt_0 N x1 S) (hx : X (F_isPaymentAt_0 N x1 S)) : rX G E dX12_isPaymentAt mX12_isPaymentAt 0 [some (.ref E.1), some (.int x1), none] [] S Q := by
  unfold O_isPaymentAt_0 at ok
  unfold F_isPaymentAt_0 at hx
  refine r_iload_n dX12_isPaymentAt_0 rfl rfl ?_
  refine r_bipush (v := nI 7) dX12_isPaymentAt_1 (by decide) ?_
  refine r_iadd dX12_isPaymentAt_3 ?_
  refine r_aload_n dX12_isPaymentAt_4 rfl rfl ?_
  refine r_getI 33 fX12_201 (by decide) (by decide) dX12_isPaymentAt_5 ?_
  refine r_icmp_le (tgt := 13) dX12_isPaymentAt_8 (by decide) (fun c_8 => ?_) (fun c_8 => ?_)
  · have ok := ok.1 c_8
    have hx := xif_p c_8 hx
    refine r_aload_n dX12_isPaymentAt_13 rfl rfl ?_
    refine r_getA 32 fX12_204 (by decide) (by decide) dX12_isPaymentAt_14 ?_
    refine r_iload_n dX12_isPaymentAt_17 rfl rfl ?_
    refine r_iconst (v := nI 2) dX12_isPaymentAt_18 (by decide) ?_
    refine r_iadd dX12_isPaymentAt_19 ?_
    refine r_iald (by decide) (by decide) dX12_isPaymentAt_20 ok.1 ?_
    have ok := ok.2
    refine r_bipush (v := nI 8) dX12_isPaymentAt_21 (by decide) ?_
    refine r_ishl dX12_isPaymentAt_23 ?_
    refine r_aload_n dX12_isPaymentAt_24 rfl rfl ?_
    refine r_getA 32 fX12_204 (by decide) (by decide) dX12_isPaymentAt_25 ?_
    refine r_iload_n dX12_isPaymentAt_28 rfl rfl ?_
    refine r_iconst (v := nI 3) dX12_isPaymentAt_29 (by decide) ?_
    refine r_iadd dX12_isPaymentAt_30 ?_
    refine r_iald (by decide) (by decide) dX12_isPaymentAt_31 ok.1 ?_
    have ok := ok.2
    refine r_ior dX12_isPaymentAt_32 ?_
    refine r_istore_2 dX12_isPaymentAt_33 (by decide) rfl ?_
    refine r_aload_n dX12_isPaymentAt_34 rfl rfl ?_
    refine r_getA 32 fX12_204 (by decide) (by decide) dX12_isPaymentAt_35 ?_
    refine r_iload_n dX12_isPaymentAt_38 rfl rfl ?_
    refine r_iald (by decide) (by decide) dX12_isPaymentAt_39 ok.1 ?_
    have ok := ok.2
    refine r_bipush (v := nI 16) dX12_isPaymentAt_40 (by decide) ?_
    refine r_icmp_ge (tgt := 116) dX12_isPaymentAt_42 (by decide) (fun c_42 => ?_) (fun c_42 => ?_)
    · have ok := ok.1 c_42
      have hx := xif_p c_42 hx
      exact rX.cutz (b_isPaymentAt_116 hG hR ok hx) trivial
    · have ok := ok.2 c_42
      have hx := xif_n c_42 hx
      refine r_aload_n dX12_isPaymentAt_45 rfl rfl ?_
      refine r_getA 32 fX12_204 (by decide) (by decide) dX12_isPaymentAt_46 ?_
      refine r_iload_n dX12_isPaymentAt_49 rfl rfl ?_
      refine r_iconst (v := nI 1) dX12_isPaymentAt_50 (by decide) ?_
      refine r_iadd dX12_isPaymentAt_51 ?_
      refine r_iald (by decide) (by decide) dX12_isPaymentAt_52 ok.1 ?_
      have ok := ok.2
      refine r_bipush (v := nI 16) dX12_isPaymentAt_53 (by decide) ?_
      refine r_icmp_ge (tgt := 116) dX12_isPaymentAt_55 (by decide) (fun c_55 => ?_) (fun c_55 => ?_)
      · have ok := ok.1 c_55
        have hx := xif_p c_55 hx
        exact rX.cutz (b_isPaymentAt_116 hG hR ok hx) trivial
      · have ok := ok.2 c_55
        have hx := xif_n c_55 hx
        refine r_aload_n dX12_isPaymentAt_58 rfl rfl ?_
        refine r_getA 32 fX12_204 (by decide) (by decide) dX12_isPaymentAt_59 ?_
        refine r_iload_n dX12_isPaymentAt_62 rfl rfl ?_
        refine r_iald (by decide) (by decide) dX12_isPaymentAt_63 ok.1 ?_
        have ok := ok.2
        refine r_aload_n dX12_isPaymentAt_64 rfl rfl ?_
        refine r_getA 32 fX12_204 (by decide) (by decide) dX12_isPaymentAt_65 ?_
        refine r_iload_n dX12_isPaymentAt_68 rfl rfl ?_
        refine r_iconst (v := nI 1) dX12_isPaymentAt_69 (by decide) ?_
        refine r_iadd dX12_isPaymentAt_70 ?_
        refine r_iald (by decide) (by decide) dX12_isPaymentAt_71 ok.1 ?_
        have ok := ok.2
        refine r_icmp_eq (tgt := 116) dX12_isPaymentAt_72 (by decide) (fun c_72 => ?_) (fun c_72 => ?_)
        · have ok := ok.1 c_72
          have hx := xif_p c_72 hx
          exact rX.cutz (b_isPaymentAt_116 hG hR ok hx) trivial
        · have ok := ok.2 c_72
          have hx := xif_n c_72 hx
          refine r_iload_n dX12_isPaymentAt_75 rfl rfl ?_
          refine r_if_le (tgt := 116) dX12_isPaymentAt_76 (by decide) (fun c_76 => ?_) (fun c_76 => ?_)
          · have ok := ok.1 c_76
            have hx := xif_p c_76 hx
            exact rX.cutz (b_isPaymentAt_116 hG hR ok hx) trivial
          · have ok := ok.2 c_76
            have hx := xif_n c_76 hx
            refine r_iload_n dX12_isPaymentAt_79 rfl rfl ?_
            refine r_sipush (v := nI 1000) dX12_isPaymentAt_80 (by decide) ?_
            refine r_icmp_gt (tgt := 116) dX12_isPaymentAt_83 (by decide) (fun c_83 => ?_) (fun c_83 => ?_)
            · have ok := ok.1 c_83
              have hx := xif_p c_83 hx
              exact rX.cutz (b_isPaymentAt_116 hG hR ok hx) trivial
            · have ok := ok.2 c_83
              have hx := xif_n c_83 hx
              refine r_aload_n dX12_isPaymentAt_86 rfl rfl ?_
              refine r_getA 32 fX12_204 (by decide) (by decide) dX12_isPaymentAt_87 ?_
              refine r_iload_n dX12_isPaymentAt_90 rfl rfl ?_
              refine r_bipush (v := nI 6) dX12_isPaymentAt_91 (by decide) ?_
              refine r_iadd dX12_isPaymentAt_93 ?_
              refine r_iald (by decide) (by decide) dX12_isPaymentAt_94 ok.1 ?_
              have ok := ok.2
              refine r_if_le (tgt := 116) dX12_isPaymentAt_95 (by decide) (fun c_95 => ?_) (fun c_95 => ?_)
              · have ok := ok.1 c_95
                have hx := xif_p c_95 hx
                exact rX.cutz (b_isPaymentAt_116 hG hR ok hx) trivial
              · have ok := ok.2 c_95
                have hx := xif_n c_95 hx
                refine r_aload_n dX12_isPaymentAt_98 rfl rfl ?_
                refine r_getA 32 fX12_204 (by decide) (by decide) dX12_isPaymentAt_99 ?_
                refine r_iload_n dX12_isPaymentAt_102 rfl rfl ?_
                refine r_bipush (v := nI 6) dX12_isPaymentAt_103 (by decide) ?_
                refine r_iadd dX12_isPaymentAt_105 ?_
                refine r_iald (by decide) (by decide) dX12_isPaymentAt_106 ok.1 ?_
                have ok := ok.2
                refine r_bipush (v := nI 10) dX12_isPaymentAt_107 (by decide) ?_
                refine r_icmp_ge (tgt := 116) dX12_isPaymentAt_109 (by decide) (fun c_109 => ?_) (fun c_109 => ?_)
                · have ok := ok.1 c_109
                  have hx := xif_p c_109 hx
                  exact rX.cutz (b_isPaymentAt_116 hG hR ok hx) trivial
                · have ok := ok.2 c_109
                  have hx := xif_n c_109 hx
                  refine r_iconst (v := nI 1) dX12_isPaymentAt_112 (by decide) ?_
                  refine r_goto (tgt := 117) dX12_isPaymentAt_113 (by decide) ?_
                  exact rX.cutz (b_isPaymentAt_117 hG hR ok hx) trivial
  · have ok := ok.2 c_8
    have hx := xif_n c_8 hx
    refine r_iconst (v := nI 0) dX12_isPaymentAt_11 (by decide) ?_
    exact r_ireturn rfl rfl dX12_isPaymentAt_12 (hR _ hx)
def f_isPaymentAt (N : Nat) (S : rS) (x1 : Int32) : Int32 := F_isPaymentAt_0 N x1 S
def o_isPaymentAt (N : Nat) (S : rS) (x1 : Int32) : Prop := O_isPaymentAt_0 N x1 S
set_option maxHeartbeats 4000000 in
theorem rc_X12_isPaymentAt {G : zG} {E : rE} {S : rS} {N : Nat} (hG : zOK G) {x1 : Int32} (ok : o_isPaymentAt N S x1) : rCi G E dX12_isPaymentAt mX12_isPaymentAt [.ref E.1, .int x1] S (fun v S' => v = f_isPaymentAt N S x1 ∧ S' = S) := by
  refine rC.ofX rfl (Nat.le_of_ble_eq_true rfl) ?_
  show rX G E dX12_isPaymentAt mX12_isPaymentAt 0 [some (.ref E.1), some (.int x1), none] [] S _
  exact rX.cutz (b_isPaymentAt_0 (X := fun F => F = f_isPaymentAt N S x1) hG (fun v h => ⟨v, rfl, h, rfl⟩) ok rfl) ⟨rfl, rfl, trivial⟩
/-! heightAt -/
def F_heightAt_44 (N : Nat) (s0 : Int32) (S : rS) : Int32 := s0
def O_heightAt_44 (N : Nat) (s0 : Int32) (S : rS) : Prop := True
set_option maxHeartbeats 4000000 in
theorem b_heightAt_44 {G : zG} {E : rE} {S : rS} {N : Nat} {Q : Option Value → rS → Prop} {X : Int32 → Prop} (hG : zOK G) (hR : ∀ v, X v → Q (some (.int v)) S) {s0 : Int32} (ok : O_heightAt_44 N s0 S) (hx : X (F_heightAt_44 N s0 S)) : rX G E dX12_heightAt mX12_heightAt 44 [none, none, none] [.int s0] S Q := by
  unfold O_heightAt_44 at ok
  unfold F_heightAt_44 at hx
  exact r_ireturn rfl rfl dX12_heightAt_44 (hR _ hx)
def F_heightAt_32 (N : Nat) (s0 : Int32) (S : rS) : Int32 := (if (nI 41) < s0 then (F_heightAt_44 N (nI 0) S) else (F_heightAt_44 N s0 S))
def O_heightAt_32 (N : Nat) (s0 : Int32) (S : rS) : Prop := (((nI 41) < s0 → O_heightAt_44 N (nI 0) S) ∧ (¬ (nI 41) < s0 → O_heightAt_44 N s0 S))
set_option maxHeartbeats 4000000 in
theorem b_heightAt_32 {G : zG} {E : rE} {S : rS} {N : Nat} {Q : Option Value → rS → Prop} {X : Int32 → Prop} (hG : zOK G) (hR : ∀ v, X v → Q (some (.int v)) S) {s0 : Int32} (ok : O_heightAt_32 N s0 S) (hx : X (F_heightAt_32 N s0 S)) : rX G E dX12_heightAt mX12_heightAt 32 [none, none, none] [.int s0] S Q := by
  unfold O_heightAt_32 at ok
  unfold F_heightAt_32 at hx
  refine r_istore_2 dX12_heightAt_32 (by decide) rfl ?_
  refine r_iload_n dX12_heightAt_33 rfl rfl ?_
  refine r_bipush (v := nI 41) dX12_heightAt_34 (by decide) ?_
  refine r_icmp_gt (tgt := 43) dX12_heightAt_36 (by decide) (fun c_36 => ?_) (fun c_36 => ?_)
  · have ok := ok.1 c_36
    have hx := xif_p c_36 hx
    refine r_iconst (v := nI 0) dX12_heightAt_43 (by decide) ?_
    exact rX.cutz (b_heightAt_44 hG hR ok hx) trivial
  · have ok := ok.2 c_36
    have hx := xif_n c_36 hx
    refine r_iload_n dX12_heightAt_39 rfl rfl ?_
    refine r_goto (tgt := 44) dX12_heightAt_40 (by decide) ?_
    exact rX.cutz (b_heightAt_44 hG hR ok hx) trivial
def F_heightAt_0 (N : Nat) (x1 : Int32) (S : rS) : Int32 := (if (S.1 33) < (x1 + (nI 2)) then (F_heightAt_32 N (nI 0) S) else (F_heightAt_32 N (((S.2.1 32 x1.toNatClampNeg) <<< ((nI 8) &&& 31)) ||| (S.2.1 32 (x1 + (nI 1)).toNatClampNeg)) S))
def O_heightAt_0 (N : Nat) (x1 : Int32) (S : rS) : Prop := (((S.1 33) < (x1 + (nI 2)) → O_heightAt_32 N (nI 0) S) ∧ (¬ (S.1 33) < (x1 + (nI 2)) → (vp_in x1 1010) ∧ (vp_in (x1 + (nI 1)) 1010) ∧ O_heightAt_32 N (((S.2.1 32 x1.toNatClampNeg) <<< ((nI 8) &&& 31)) ||| (S.2.1 32 (x1 + (nI 1)).toNatClampNeg)) S))
set_option maxHeartbeats 4000000 in
theorem b_heightAt_0 {G : zG} {E : rE} {S : rS} {N : Nat} {Q : Option Value → rS → Prop} {X : Int32 → Prop} (hG : zOK G) (hR : ∀ v, X v → Q (some (.int v)) S) {x1 : Int32} (ok : O_heightAt_0 N x1 S) (hx : X (F_heightAt_0 N x1 S)) : rX G E dX12_heightAt mX12_heightAt 0 [some (.ref E.1), some (.int x1), none] [] S Q := by
  unfold O_heightAt_0 at ok
  unfold F_heightAt_0 at hx
  refine r_iload_n dX12_heightAt_0 rfl rfl ?_
  refine r_iconst (v := nI 2) dX12_heightAt_1 (by decide) ?_
  refine r_iadd dX12_heightAt_2 ?_
  refine r_aload_n dX12_heightAt_3 rfl rfl ?_
  refine r_getI 33 fX12_201 (by decide) (by decide) dX12_heightAt_4 ?_
  refine r_icmp_gt (tgt := 31) dX12_heightAt_7 (by decide) (fun c_7 => ?_) (fun c_7 => ?_)
  · have ok := ok.1 c_7
    have hx := xif_p c_7 hx
    refine r_iconst (v := nI 0) dX12_heightAt_31 (by decide) ?_
    exact rX.cutz (b_heightAt_32 hG hR ok hx) trivial
  · have ok := ok.2 c_7
    have hx := xif_n c_7 hx
    refine r_aload_n dX12_heightAt_10 rfl rfl ?_
    refine r_getA 32 fX12_204 (by decide) (by decide) dX12_heightAt_11 ?_
    refine r_iload_n dX12_heightAt_14 rfl rfl ?_
    refine r_iald (by decide) (by decide) dX12_heightAt_15 ok.1 ?_
    have ok := ok.2
    refine r_bipush (v := nI 8) dX12_heightAt_16 (by decide) ?_
    refine r_ishl dX12_heightAt_18 ?_
    refine r_aload_n dX12_heightAt_19 rfl rfl ?_
    refine r_getA 32 fX12_204 (by decide) (by decide) dX12_heightAt_20 ?_
    refine r_iload_n dX12_heightAt_23 rfl rfl ?_
    refine r_iconst (v := nI 1) dX12_heightAt_24 (by decide) ?_
    refine r_iadd dX12_heightAt_25 ?_
    refine r_iald (by decide) (by decide) dX12_heightAt_26 ok.1 ?_
    have ok := ok.2
    refine r_ior dX12_heightAt_27 ?_
    refine r_goto (tgt := 32) dX12_heightAt_28 (by decide) ?_
    exact rX.cutz (b_heightAt_32 hG hR ok hx) trivial
def f_heightAt (N : Nat) (S : rS) (x1 : Int32) : Int32 := F_heightAt_0 N x1 S
def o_heightAt (N : Nat) (S : rS) (x1 : Int32) : Prop := O_heightAt_0 N x1 S
set_option maxHeartbeats 4000000 in
theorem rc_X12_heightAt {G : zG} {E : rE} {S : rS} {N : Nat} (hG : zOK G) {x1 : Int32} (ok : o_heightAt N S x1) : rCi G E dX12_heightAt mX12_heightAt [.ref E.1, .int x1] S (fun v S' => v = f_heightAt N S x1 ∧ S' = S) := by
  refine rC.ofX rfl (Nat.le_of_ble_eq_true rfl) ?_
  show rX G E dX12_heightAt mX12_heightAt 0 [some (.ref E.1), some (.int x1), none] [] S _
  exact rX.cutz (b_heightAt_0 (X := fun F => F = f_heightAt N S x1) hG (fun v h => ⟨v, rfl, h, rfl⟩) ok rfl) ⟨rfl, rfl, trivial⟩
/-! endAt -/
def F_endAt_52 (N : Nat) (s0 : Int32) (S : rS) : Int32 := s0
def O_endAt_52 (N : Nat) (s0 : Int32) (S : rS) : Prop := True
set_option maxHeartbeats 4000000 in
theorem b_endAt_52 {G : zG} {E : rE} {S : rS} {N : Nat} {Q : Option Value → rS → Prop} {X : Int32 → Prop} (hG : zOK G) (hR : ∀ v, X v → Q (some (.int v)) S) {s0 : Int32} (ok : O_endAt_52 N s0 S) (hx : X (F_endAt_52 N s0 S)) : rX G E dX12_endAt mX12_endAt 52 [none, none, none] [.int s0] S Q := by
  unfold O_endAt_52 at ok
  unfold F_endAt_52 at hx
  exact r_ireturn rfl rfl dX12_endAt_52 (hR _ hx)
def F_endAt_36 (N : Nat) (x1 : Int32) (s0 : Int32) (S : rS) : Int32 := (if (x1 + s0) ≤ (S.1 33) then (F_endAt_52 N s0 S) else (F_endAt_52 N (nI 0) S))
def O_endAt_36 (N : Nat) (x1 : Int32) (s0 : Int32) (S : rS) : Prop := (((x1 + s0) ≤ (S.1 33) → O_endAt_52 N s0 S) ∧ (¬ (x1 + s0) ≤ (S.1 33) → O_endAt_52 N (nI 0) S))
set_option maxHeartbeats 4000000 in
theorem b_endAt_36 {G : zG} {E : rE} {S : rS} {N : Nat} {Q : Option Value → rS → Prop} {X : Int32 → Prop} (hG : zOK G) (hR : ∀ v, X v → Q (some (.int v)) S) {x1 : Int32} {s0 : Int32} (ok : O_endAt_36 N x1 s0 S) (hx : X (F_endAt_36 N x1 s0 S)) : rX G E dX12_endAt mX12_endAt 36 [some (.ref E.1), some (.int x1), none] [.int s0] S Q := by
  unfold O_endAt_36 at ok
  unfold F_endAt_36 at hx
  refine r_istore_2 dX12_endAt_36 (by decide) rfl ?_
  refine r_iload_n dX12_endAt_37 rfl rfl ?_
  refine r_iload_n dX12_endAt_38 rfl rfl ?_
  refine r_iadd dX12_endAt_39 ?_
  refine r_aload_n dX12_endAt_40 rfl rfl ?_
  refine r_getI 33 fX12_201 (by decide) (by decide) dX12_endAt_41 ?_
  refine r_icmp_le (tgt := 51) dX12_endAt_44 (by decide) (fun c_44 => ?_) (fun c_44 => ?_)
  · have ok := ok.1 c_44
    have hx := xif_p c_44 hx
    refine r_iload_n dX12_endAt_51 rfl rfl ?_
    exact rX.cutz (b_endAt_52 hG hR ok hx) trivial
  · have ok := ok.2 c_44
    have hx := xif_n c_44 hx
    refine r_iconst (v := nI 0) dX12_endAt_47 (by decide) ?_
    refine r_goto (tgt := 52) dX12_endAt_48 (by decide) ?_
    exact rX.cutz (b_endAt_52 hG hR ok hx) trivial
def F_endAt_18 (N : Nat)  (S : rS) : Int32 := (nI 0)
def O_endAt_18 (N : Nat)  (S : rS) : Prop := True
set_option maxHeartbeats 4000000 in
theorem b_endAt_18 {G : zG} {E : rE} {S : rS} {N : Nat} {Q : Option Value → rS → Prop} {X : Int32 → Prop} (hG : zOK G) (hR : ∀ v, X v → Q (some (.int v)) S) (ok : O_endAt_18 N S) (hx : X (F_endAt_18 N S)) : rX G E dX12_endAt mX12_endAt 18 [none, none, none] [] S Q := by
  unfold O_endAt_18 at ok
  unfold F_endAt_18 at hx
  refine r_iconst (v := nI 0) dX12_endAt_18 (by decide) ?_
  exact r_ireturn rfl rfl dX12_endAt_19 (hR _ hx)
def F_endAt_0 (N : Nat) (x1 : Int32) (S : rS) : Int32 := (if (S.1 33) ≤ x1 then (F_endAt_18 N S) else (if (S.2.1 32 x1.toNatClampNeg) ≤ (nI 1) then (if (S.2.1 32 x1.toNatClampNeg) = (nI 1) then (F_endAt_36 N x1 (nI 33) S) else (F_endAt_36 N x1 (nI 1) S)) else (F_endAt_18 N S)))
def O_endAt_0 (N : Nat) (x1 : Int32) (S : rS) : Prop := (((S.1 33) ≤ x1 → O_endAt_18 N S) ∧ (¬ (S.1 33) ≤ x1 → (vp_in x1 1010) ∧ (((S.2.1 32 x1.toNatClampNeg) ≤ (nI 1) → (vp_in x1 1010) ∧ (((S.2.1 32 x1.toNatClampNeg) = (nI 1) → O_endAt_36 N x1 (nI 33) S) ∧ (¬ (S.2.1 32 x1.toNatClampNeg) = (nI 1) → O_endAt_36 N x1 (nI 1) S))) ∧ (¬ (S.2.1 32 x1.toNatClampNeg) ≤ (nI 1) → O_endAt_18 N S))))
set_option maxHeartbeats 4000000 in
theorem b_endAt_0 {G : zG} {E : rE} {S : rS} {N : Nat} {Q : Option Value → rS → Prop} {X : Int32 → Prop} (hG : zOK G) (hR : ∀ v, X v → Q (some (.int v)) S) {x1 : Int32} (ok : O_endAt_0 N x1 S) (hx : X (F_endAt_0 N x1 S)) : rX G E dX12_endAt mX12_endAt 0 [some (.ref E.1), some (.int x1), none] [] S Q := by
  unfold O_endAt_0 at ok
  unfold F_endAt_0 at hx
  refine r_iload_n dX12_endAt_0 rfl rfl ?_
  refine r_aload_n dX12_endAt_1 rfl rfl ?_
  refine r_getI 33 fX12_201 (by decide) (by decide) dX12_endAt_2 ?_
  refine r_icmp_ge (tgt := 18) dX12_endAt_5 (by decide) (fun c_5 => ?_) (fun c_5 => ?_)
  · have ok := ok.1 c_5
    have hx := xif_p c_5 hx
    exact rX.cutz (b_endAt_18 hG hR ok hx) trivial
  · have ok := ok.2 c_5
    have hx := xif_n c_5 hx
    refine r_aload_n dX12_endAt_8 rfl rfl ?_
    refine r_getA 32 fX12_204 (by decide) (by decide) dX12_endAt_9 ?_
    refine r_iload_n dX12_endAt_12 rfl rfl ?_
    refine r_iald (by decide) (by decide) dX12_endAt_13 ok.1 ?_
    have ok := ok.2
    refine r_iconst (v := nI 1) dX12_endAt_14 (by decide) ?_
    refine r_icmp_le (tgt := 20) dX12_endAt_15 (by decide) (fun c_15 => ?_) (fun c_15 => ?_)
    · have ok := ok.1 c_15
      have hx := xif_p c_15 hx
      refine r_aload_n dX12_endAt_20 rfl rfl ?_
      refine r_getA 32 fX12_204 (by decide) (by decide) dX12_endAt_21 ?_
      refine r_iload_n dX12_endAt_24 rfl rfl ?_
      refine r_iald (by decide) (by decide) dX12_endAt_25 ok.1 ?_
      have ok := ok.2
      refine r_iconst (v := nI 1) dX12_endAt_26 (by decide) ?_
      refine r_icmp_ne (tgt := 35) dX12_endAt_27 (by decide) (fun c_27 => ?_) (fun c_27 => ?_)
      · have ok := ok.2 c_27
        have hx := xif_n c_27 hx
        refine r_iconst (v := nI 1) dX12_endAt_35 (by decide) ?_
        exact rX.cutz (b_endAt_36 hG hR ok hx) ⟨rfl, rfl, trivial⟩
      · have ok := ok.1 c_27
        have hx := xif_p c_27 hx
        refine r_bipush (v := nI 33) dX12_endAt_30 (by decide) ?_
        refine r_goto (tgt := 36) dX12_endAt_32 (by decide) ?_
        exact rX.cutz (b_endAt_36 hG hR ok hx) ⟨rfl, rfl, trivial⟩
    · have ok := ok.2 c_15
      have hx := xif_n c_15 hx
      exact rX.cutz (b_endAt_18 hG hR ok hx) trivial
def f_endAt (N : Nat) (S : rS) (x1 : Int32) : Int32 := F_endAt_0 N x1 S
def o_endAt (N : Nat) (S : rS) (x1 : Int32) : Prop := O_endAt_0 N x1 S
set_option maxHeartbeats 4000000 in
theorem rc_X12_endAt {G : zG} {E : rE} {S : rS} {N : Nat} (hG : zOK G) {x1 : Int32} (ok : o_endAt N S x1) : rCi G E dX12_endAt mX12_endAt [.ref E.1, .int x1] S (fun v S' => v = f_endAt N S x1 ∧ S' = S) := by
  refine rC.ofX rfl (Nat.le_of_ble_eq_true rfl) ?_
  show rX G E dX12_endAt mX12_endAt 0 [some (.ref E.1), some (.int x1), none] [] S _
  exact rX.cutz (b_endAt_0 (X := fun F => F = f_endAt N S x1) hG (fun v h => ⟨v, rfl, h, rfl⟩) ok rfl) ⟨rfl, rfl, trivial⟩

/-! stamp -/
def F_stamp_217 (N : Nat)  (S : rS) : Int32 × rS := ((nI 1), S)
def O_stamp_217 (N : Nat)  (S : rS) : Prop := True
set_option maxHeartbeats 4000000 in
theorem b_stamp_217 {G : zG} {E : rE} {S : rS} {N : Nat} {Q : Option Value → rS → Prop} {X : Int32 × rS → Prop} (hG : zOK G) (hR : ∀ v S', X (v, S') → Q (some (.int v)) S') (ok : O_stamp_217 N S) (hx : X (F_stamp_217 N S)) : rX G E dX12_stamp mX12_stamp 217 [none, none, none, none, none, none, none] [] S Q := by
  unfold O_stamp_217 at ok
  unfold F_stamp_217 at hx
  refine r_iconst (v := nI 1) dX12_stamp_217 (by decide) ?_
  exact r_ireturn rfl rfl dX12_stamp_218 (hR _ _ hx)
def B_stamp_178 (N : Nat) (rec : Int32 → Int32 → rS → Nat × rS) (x1 : Int32) (x4 : Int32) (S : rS) : Nat × rS := (if (nI 32) ≤ x4 then (0, S) else (rec x1 (x4 + nI 1) (rsA S 21 (x1 + x4).toNatClampNeg (f_byteIn N S (f_sum N S (x4 / (nI 8))) (x4 - x4 / (nI 8) * (nI 8))))))
def OB_stamp_178 (N : Nat) (rok : Int32 → Int32 → rS → Prop) (x1 : Int32) (x4 : Int32) (S : rS) : Prop := (((nI 32) ≤ x4 → True) ∧ (¬ (nI 32) ≤ x4 → (o_sum N S (x4 / (nI 8))) ∧ (o_byteIn N S (f_sum N S (x4 / (nI 8))) (x4 - x4 / (nI 8) * (nI 8))) ∧ (vp_in (x1 + x4) 1000) ∧ rok x1 (x4 + nI 1) (rsA S 21 (x1 + x4).toNatClampNeg (f_byteIn N S (f_sum N S (x4 / (nI 8))) (x4 - x4 / (nI 8) * (nI 8))))))
set_option maxHeartbeats 4000000 in
theorem bb_stamp_178 {G : zG} {E : rE} {S : rS} {N : Nat} {Q : Option Value → rS → Prop} {X : Nat × rS → Prop} (hG : zOK G) (hX0 : ∀ (S' : rS), X (0, S') → rX G E dX12_stamp mX12_stamp 217 [none, none, none, none, none, none, none] [] S' Q) {rec : Int32 → Int32 → rS → Nat × rS} {rok : Int32 → Int32 → rS → Prop} (hrec : ∀ (x1 : Int32) (x4 : Int32) (S : rS), rok x1 x4 S → X (rec x1 x4 S) → rX G E dX12_stamp mX12_stamp 178 [some (.ref E.1), some (.int x1), none, none, some (.int x4), none, none] [] S Q) {x1 : Int32} {x4 : Int32} (ok : OB_stamp_178 N rok x1 x4 S) (hx : X (B_stamp_178 N rec x1 x4 S)) : rX G E dX12_stamp mX12_stamp 178 [some (.ref E.1), some (.int x1), none, none, some (.int x4), none, none] [] S Q := by
  unfold OB_stamp_178 at ok
  unfold B_stamp_178 at hx
  refine r_iload dX12_stamp_178 rfl ?_
  refine r_bipush (v := nI 32) dX12_stamp_180 (by decide) ?_
  refine r_icmp_ge (tgt := 217) dX12_stamp_182 (by decide) (fun c_182 => ?_) (fun c_182 => ?_)
  · have ok := ok.1 c_182
    have hx := xif_p c_182 hx
    exact rX.cutz (hX0 S hx) trivial
  · have ok := ok.2 c_182
    have hx := xif_n c_182 hx
    refine r_aload_n dX12_stamp_185 rfl rfl ?_
    refine r_getA 21 fX12_130 (by decide) (by decide) dX12_stamp_186 ?_
    refine r_iload_n dX12_stamp_189 rfl rfl ?_
    refine r_iload dX12_stamp_190 rfl ?_
    refine r_iadd dX12_stamp_192 ?_
    refine r_aload_n dX12_stamp_193 rfl rfl ?_
    refine r_iload dX12_stamp_194 rfl ?_
    refine r_bipush (v := nI 8) dX12_stamp_196 (by decide) ?_
    refine r_idiv dX12_stamp_198 (by decide) ?_
    refine r_V1l (y' := mX12_sum) dX12_stamp_199 lX12_74 kX12_sum ⟨by decide, by decide⟩ rfl (Nat.le_of_ble_eq_true rfl) (rc_X12_sum hG ok.1) (fun v_199 S_199 h_199 => ?_)
    obtain ⟨rfl, hS_199⟩ := h_199
    have hS_199 := hS_199.symm
    subst hS_199
    have ok := ok.2
    refine r_iload dX12_stamp_202 rfl ?_
    refine r_bipush (v := nI 8) dX12_stamp_204 (by decide) ?_
    refine r_irem dX12_stamp_206 (by decide) ?_
    refine r_S2i (y' := mX12_byteIn) dX12_stamp_207 lX12_49 kX12_byteIn ⟨by decide, by decide⟩ (Nat.le_of_ble_eq_true rfl) (rc_X12_byteIn hG ok.1) (fun v_207 S_207 h_207 => ?_)
    obtain ⟨rfl, hS_207⟩ := h_207
    have hS_207 := hS_207.symm
    subst hS_207
    have ok := ok.2
    refine r_iast hG (by decide) (by decide) dX12_stamp_210 ok.1 ?_
    have ok := ok.2
    refine r_iinc_4 (v := (x4 + nI 1)) dX12_stamp_211 rfl (by first | rfl | (congr 1)) (by decide) rfl ?_
    refine r_goto (tgt := 178) dX12_stamp_214 (by decide) ?_
    exact rX.cutz (hrec _ _ (rsA S 21 (x1 + x4).toNatClampNeg (f_byteIn N S (f_sum N S (x4 / (nI 8))) (x4 - x4 / (nI 8) * (nI 8)))) ok hx) ⟨rfl, rfl, rfl, trivial⟩
def L_stamp_178 (N : Nat) : Nat → Int32 → Int32 → rS → Nat × rS
  | 0, x1, x4, S => (0, S)
  | n + 1, x1, x4, S => B_stamp_178 N (L_stamp_178 N n) x1 x4 S
def OL_stamp_178 (N : Nat) : Nat → Int32 → Int32 → rS → Prop
  | 0, _, _, _ => False
  | n + 1, x1, x4, S => OB_stamp_178 N (OL_stamp_178 N n) x1 x4 S
set_option maxHeartbeats 4000000 in
theorem l_stamp_178 {G : zG} {E : rE} {N : Nat} {Q : Option Value → rS → Prop} {X : Nat × rS → Prop} (hG : zOK G) (hX0 : ∀ (S' : rS), X (0, S') → rX G E dX12_stamp mX12_stamp 217 [none, none, none, none, none, none, none] [] S' Q) : ∀ (n : Nat) (x1 : Int32) (x4 : Int32) (S : rS), OL_stamp_178 N n x1 x4 S → X (L_stamp_178 N n x1 x4 S) → rX G E dX12_stamp mX12_stamp 178 [some (.ref E.1), some (.int x1), none, none, some (.int x4), none, none] [] S Q := by
  intro n
  induction n with
  | zero => intro x1 x4 S ok; exact absurd ok id
  | succ n ih =>
    intro x1 x4 S ok hx
    exact bb_stamp_178 hG hX0 (rec := L_stamp_178 N n) (rok := OL_stamp_178 N n) (fun x1 x4 S ok hx => ih x1 x4 S ok hx) ok hx
def A_stamp_178 (N : Nat) (x1 : Int32) (x4 : Int32) (S : rS) (z : Nat × rS) : Int32 × rS := (F_stamp_217 N z.2)
def OA_stamp_178 (N : Nat) (x1 : Int32) (x4 : Int32) (S : rS) (z : Nat × rS) : Prop := O_stamp_217 N z.2
set_option maxHeartbeats 4000000 in
theorem c_stamp_178 {G : zG} {E : rE} {S : rS} {N : Nat} {Q : Option Value → rS → Prop} {X : Int32 × rS → Prop} (hG : zOK G) (hR : ∀ v S', X (v, S') → Q (some (.int v)) S') {x1 : Int32} {x4 : Int32} (ok : OL_stamp_178 N N x1 x4 S ∧ OA_stamp_178 N x1 x4 S (L_stamp_178 N N x1 x4 S)) (hx : X (A_stamp_178 N x1 x4 S (L_stamp_178 N N x1 x4 S))) : rX G E dX12_stamp mX12_stamp 178 [some (.ref E.1), some (.int x1), none, none, some (.int x4), none, none] [] S Q := by
  refine l_stamp_178 hG ?_ N x1 x4 S ok.1 (X := fun z => OA_stamp_178 N x1 x4 S z ∧ X (A_stamp_178 N x1 x4 S z)) ⟨ok.2, hx⟩
  · intro S' hz
    obtain ⟨ok, hx⟩ := hz
    unfold OA_stamp_178 at ok
    unfold A_stamp_178 at hx
    exact rX.cutz (b_stamp_217 hG hR ok hx) trivial
def F_stamp_175 (N : Nat) (x1 : Int32) (S : rS) : Int32 × rS := (A_stamp_178 N x1 (nI 0) S (L_stamp_178 N N x1 (nI 0) S))
def O_stamp_175 (N : Nat) (x1 : Int32) (S : rS) : Prop := (OL_stamp_178 N N x1 (nI 0) S ∧ OA_stamp_178 N x1 (nI 0) S (L_stamp_178 N N x1 (nI 0) S))
set_option maxHeartbeats 4000000 in
theorem b_stamp_175 {G : zG} {E : rE} {S : rS} {N : Nat} {Q : Option Value → rS → Prop} {X : Int32 × rS → Prop} (hG : zOK G) (hR : ∀ v S', X (v, S') → Q (some (.int v)) S') {x1 : Int32} (ok : O_stamp_175 N x1 S) (hx : X (F_stamp_175 N x1 S)) : rX G E dX12_stamp mX12_stamp 175 [some (.ref E.1), some (.int x1), none, none, none, none, none] [] S Q := by
  unfold O_stamp_175 at ok
  unfold F_stamp_175 at hx
  refine r_iconst (v := nI 0) dX12_stamp_175 (by decide) ?_
  refine r_istore_4 dX12_stamp_176 (by decide) rfl ?_
  exact rX.cutz (c_stamp_178 hG hR ok hx) ⟨rfl, rfl, rfl, trivial⟩
def F_stamp_171 (N : Nat) (x1 : Int32) (S : rS) : Int32 × rS := (F_stamp_175 N x1 (f_digest N S))
def O_stamp_171 (N : Nat) (x1 : Int32) (S : rS) : Prop := (o_digest N S) ∧ O_stamp_175 N x1 (f_digest N S)
set_option maxHeartbeats 4000000 in
theorem b_stamp_171 {G : zG} {E : rE} {S : rS} {N : Nat} {Q : Option Value → rS → Prop} {X : Int32 × rS → Prop} (hG : zOK G) (hR : ∀ v S', X (v, S') → Q (some (.int v)) S') {x1 : Int32} (ok : O_stamp_171 N x1 S) (hx : X (F_stamp_171 N x1 S)) : rX G E dX12_stamp mX12_stamp 171 [some (.ref E.1), some (.int x1), none, none, none, none, none] [] S Q := by
  unfold O_stamp_171 at ok
  unfold F_stamp_171 at hx
  refine r_aload_n dX12_stamp_171 rfl rfl ?_
  refine r_V0v (y' := mX12_digest) dX12_stamp_172 lX12_70 kX12_digest ⟨by decide, by decide⟩ rfl (Nat.le_of_ble_eq_true rfl) (rc_X12_digest hG ok.1) (fun S_172 h_172 => ?_)
  subst h_172
  have ok := ok.2
  exact rX.cutz (b_stamp_175 hG hR ok hx) ⟨rfl, rfl, trivial⟩
def F_stamp_165 (N : Nat) (rec : Int32 → Int32 → Int32 → Int32 → rS → Nat × Int32 × rS) (x1 : Int32) (x2 : Int32) (x5 : Int32) (x6 : Int32) (S : rS) : Nat × Int32 × rS := (rec x1 x2 x5 (x6 + nI 1) S)
def O_stamp_165 (N : Nat) (rok : Int32 → Int32 → Int32 → Int32 → rS → Prop) (x1 : Int32) (x2 : Int32) (x5 : Int32) (x6 : Int32) (S : rS) : Prop := rok x1 x2 x5 (x6 + nI 1) S
set_option maxHeartbeats 4000000 in
theorem b_stamp_165 {G : zG} {E : rE} {S : rS} {N : Nat} {Q : Option Value → rS → Prop} {X : Nat × Int32 × rS → Prop} (hG : zOK G) (hX0 : ∀ (x1 : Int32) (S' : rS), X (0, x1, S') → rX G E dX12_stamp mX12_stamp 171 [some (.ref E.1), some (.int x1), none, none, none, none, none] [] S' Q) {rec : Int32 → Int32 → Int32 → Int32 → rS → Nat × Int32 × rS} {rok : Int32 → Int32 → Int32 → Int32 → rS → Prop} (hrec : ∀ (x1 : Int32) (x2 : Int32) (x5 : Int32) (x6 : Int32) (S : rS), rok x1 x2 x5 x6 S → X (rec x1 x2 x5 x6 S) → rX G E dX12_stamp mX12_stamp 144 [some (.ref E.1), some (.int x1), some (.int x2), none, none, some (.int x5), some (.int x6)] [] S Q) {x1 : Int32} {x2 : Int32} {x5 : Int32} {x6 : Int32} (ok : O_stamp_165 N rok x1 x2 x5 x6 S) (hx : X (F_stamp_165 N rec x1 x2 x5 x6 S)) : rX G E dX12_stamp mX12_stamp 165 [some (.ref E.1), some (.int x1), some (.int x2), none, none, some (.int x5), some (.int x6)] [] S Q := by
  unfold O_stamp_165 at ok
  unfold F_stamp_165 at hx
  refine r_iinc_6 (v := (x6 + nI 1)) dX12_stamp_165 rfl (by first | rfl | (congr 1)) (by decide) rfl ?_
  refine r_goto (tgt := 144) dX12_stamp_168 (by decide) ?_
  exact rX.cutz (hrec _ _ _ _ S ok hx) ⟨rfl, rfl, rfl, rfl, rfl, trivial⟩
def B_stamp_144 (N : Nat) (rec : Int32 → Int32 → Int32 → Int32 → rS → Nat × Int32 × rS) (x1 : Int32) (x2 : Int32) (x5 : Int32) (x6 : Int32) (S : rS) : Nat × Int32 × rS := (if (nI 101) ≤ x6 then (0, x1, S) else (F_stamp_165 N rec x1 x2 x5 x6 (f_hashByte N S (f_flyByte N S x2 (x5 + x6)))))
def OB_stamp_144 (N : Nat) (rok : Int32 → Int32 → Int32 → Int32 → rS → Prop) (x1 : Int32) (x2 : Int32) (x5 : Int32) (x6 : Int32) (S : rS) : Prop := (((nI 101) ≤ x6 → True) ∧ (¬ (nI 101) ≤ x6 → (o_flyByte N S x2 (x5 + x6)) ∧ (o_hashByte N S (f_flyByte N S x2 (x5 + x6))) ∧ O_stamp_165 N rok x1 x2 x5 x6 (f_hashByte N S (f_flyByte N S x2 (x5 + x6)))))
set_option maxHeartbeats 4000000 in
theorem bb_stamp_144 {G : zG} {E : rE} {S : rS} {N : Nat} {Q : Option Value → rS → Prop} {X : Nat × Int32 × rS → Prop} (hG : zOK G) (hX0 : ∀ (x1 : Int32) (S' : rS), X (0, x1, S') → rX G E dX12_stamp mX12_stamp 171 [some (.ref E.1), some (.int x1), none, none, none, none, none] [] S' Q) {rec : Int32 → Int32 → Int32 → Int32 → rS → Nat × Int32 × rS} {rok : Int32 → Int32 → Int32 → Int32 → rS → Prop} (hrec : ∀ (x1 : Int32) (x2 : Int32) (x5 : Int32) (x6 : Int32) (S : rS), rok x1 x2 x5 x6 S → X (rec x1 x2 x5 x6 S) → rX G E dX12_stamp mX12_stamp 144 [some (.ref E.1), some (.int x1), some (.int x2), none, none, some (.int x5), some (.int x6)] [] S Q) {x1 : Int32} {x2 : Int32} {x5 : Int32} {x6 : Int32} (ok : OB_stamp_144 N rok x1 x2 x5 x6 S) (hx : X (B_stamp_144 N rec x1 x2 x5 x6 S)) : rX G E dX12_stamp mX12_stamp 144 [some (.ref E.1), some (.int x1), some (.int x2), none, none, some (.int x5), some (.int x6)] [] S Q := by
  unfold OB_stamp_144 at ok
  unfold B_stamp_144 at hx
  refine r_iload dX12_stamp_144 rfl ?_
  refine r_bipush (v := nI 101) dX12_stamp_146 (by decide) ?_
  refine r_icmp_ge (tgt := 171) dX12_stamp_148 (by decide) (fun c_148 => ?_) (fun c_148 => ?_)
  · have ok := ok.1 c_148
    have hx := xif_p c_148 hx
    exact rX.cutz (hX0 _ S hx) ⟨rfl, rfl, trivial⟩
  · have ok := ok.2 c_148
    have hx := xif_n c_148 hx
    refine r_aload_n dX12_stamp_151 rfl rfl ?_
    refine r_aload_n dX12_stamp_152 rfl rfl ?_
    refine r_iload_n dX12_stamp_153 rfl rfl ?_
    refine r_iload dX12_stamp_154 rfl ?_
    refine r_iload dX12_stamp_156 rfl ?_
    refine r_iadd dX12_stamp_158 ?_
    refine r_V2i (y' := mX12_flyByte) dX12_stamp_159 lX12_170 kX12_flyByte ⟨by decide, by decide⟩ rfl (Nat.le_of_ble_eq_true rfl) (rc_X12_flyByte hG ok.1) (fun v_159 S_159 h_159 => ?_)
    obtain ⟨rfl, hS_159⟩ := h_159
    have hS_159 := hS_159.symm
    subst hS_159
    have ok := ok.2
    refine r_V1v (y' := mX12_hashByte) dX12_stamp_162 lX12_29 kX12_hashByte ⟨by decide, by decide⟩ rfl (Nat.le_of_ble_eq_true rfl) (rc_X12_hashByte hG ok.1) (fun S_162 h_162 => ?_)
    subst h_162
    have ok := ok.2
    exact rX.cutz (b_stamp_165 hG hX0 hrec ok hx) ⟨rfl, rfl, rfl, rfl, rfl, trivial⟩
def L_stamp_144 (N : Nat) : Nat → Int32 → Int32 → Int32 → Int32 → rS → Nat × Int32 × rS
  | 0, x1, x2, x5, x6, S => (0, 0, S)
  | n + 1, x1, x2, x5, x6, S => B_stamp_144 N (L_stamp_144 N n) x1 x2 x5 x6 S
def OL_stamp_144 (N : Nat) : Nat → Int32 → Int32 → Int32 → Int32 → rS → Prop
  | 0, _, _, _, _, _ => False
  | n + 1, x1, x2, x5, x6, S => OB_stamp_144 N (OL_stamp_144 N n) x1 x2 x5 x6 S
set_option maxHeartbeats 4000000 in
theorem l_stamp_144 {G : zG} {E : rE} {N : Nat} {Q : Option Value → rS → Prop} {X : Nat × Int32 × rS → Prop} (hG : zOK G) (hX0 : ∀ (x1 : Int32) (S' : rS), X (0, x1, S') → rX G E dX12_stamp mX12_stamp 171 [some (.ref E.1), some (.int x1), none, none, none, none, none] [] S' Q) : ∀ (n : Nat) (x1 : Int32) (x2 : Int32) (x5 : Int32) (x6 : Int32) (S : rS), OL_stamp_144 N n x1 x2 x5 x6 S → X (L_stamp_144 N n x1 x2 x5 x6 S) → rX G E dX12_stamp mX12_stamp 144 [some (.ref E.1), some (.int x1), some (.int x2), none, none, some (.int x5), some (.int x6)] [] S Q := by
  intro n
  induction n with
  | zero => intro x1 x2 x5 x6 S ok; exact absurd ok id
  | succ n ih =>
    intro x1 x2 x5 x6 S ok hx
    exact bb_stamp_144 hG hX0 (rec := L_stamp_144 N n) (rok := OL_stamp_144 N n) (fun x1 x2 x5 x6 S ok hx => ih x1 x2 x5 x6 S ok hx) ok hx
def A_stamp_144 (N : Nat) (x1 : Int32) (x2 : Int32) (x5 : Int32) (x6 : Int32) (S : rS) (z : Nat × Int32 × rS) : Int32 × rS := (F_stamp_171 N (z.2.1) z.2.2)
def OA_stamp_144 (N : Nat) (x1 : Int32) (x2 : Int32) (x5 : Int32) (x6 : Int32) (S : rS) (z : Nat × Int32 × rS) : Prop := O_stamp_171 N (z.2.1) z.2.2
set_option maxHeartbeats 4000000 in
theorem c_stamp_144 {G : zG} {E : rE} {S : rS} {N : Nat} {Q : Option Value → rS → Prop} {X : Int32 × rS → Prop} (hG : zOK G) (hR : ∀ v S', X (v, S') → Q (some (.int v)) S') {x1 : Int32} {x2 : Int32} {x5 : Int32} {x6 : Int32} (ok : OL_stamp_144 N N x1 x2 x5 x6 S ∧ OA_stamp_144 N x1 x2 x5 x6 S (L_stamp_144 N N x1 x2 x5 x6 S)) (hx : X (A_stamp_144 N x1 x2 x5 x6 S (L_stamp_144 N N x1 x2 x5 x6 S))) : rX G E dX12_stamp mX12_stamp 144 [some (.ref E.1), some (.int x1), some (.int x2), none, none, some (.int x5), some (.int x6)] [] S Q := by
  refine l_stamp_144 hG ?_ N x1 x2 x5 x6 S ok.1 (X := fun z => OA_stamp_144 N x1 x2 x5 x6 S z ∧ X (A_stamp_144 N x1 x2 x5 x6 S z)) ⟨ok.2, hx⟩
  · intro x1' S' hz
    obtain ⟨ok, hx⟩ := hz
    unfold OA_stamp_144 at ok
    unfold A_stamp_144 at hx
    exact rX.cutz (b_stamp_171 hG hR ok hx) ⟨rfl, rfl, trivial⟩
def F_stamp_139 (N : Nat)  (S : rS) : Int32 × rS := ((nI 0), S)
def O_stamp_139 (N : Nat)  (S : rS) : Prop := True
set_option maxHeartbeats 4000000 in
theorem b_stamp_139 {G : zG} {E : rE} {S : rS} {N : Nat} {Q : Option Value → rS → Prop} {X : Int32 × rS → Prop} (hG : zOK G) (hR : ∀ v S', X (v, S') → Q (some (.int v)) S') (ok : O_stamp_139 N S) (hx : X (F_stamp_139 N S)) : rX G E dX12_stamp mX12_stamp 139 [none, none, none, none, none, none, none] [] S Q := by
  unfold O_stamp_139 at ok
  unfold F_stamp_139 at hx
  refine r_iconst (v := nI 0) dX12_stamp_139 (by decide) ?_
  exact r_ireturn rfl rfl dX12_stamp_140 (hR _ _ hx)
def F_stamp_120 (N : Nat) (x1 : Int32) (x2 : Int32) (x5 : Int32) (S : rS) : Int32 × rS := (if (x5 + (nI 101)) ≤ (S.2.1 29 (S.2.1 24 x2.toNatClampNeg).toNatClampNeg) then (A_stamp_144 N x1 x2 x5 (nI 0) S (L_stamp_144 N N x1 x2 x5 (nI 0) S)) else (F_stamp_139 N S))
def O_stamp_120 (N : Nat) (x1 : Int32) (x2 : Int32) (x5 : Int32) (S : rS) : Prop := (vp_in x2 1000) ∧ (vp_in (S.2.1 24 x2.toNatClampNeg) 1000) ∧ (((x5 + (nI 101)) ≤ (S.2.1 29 (S.2.1 24 x2.toNatClampNeg).toNatClampNeg) → (OL_stamp_144 N N x1 x2 x5 (nI 0) S ∧ OA_stamp_144 N x1 x2 x5 (nI 0) S (L_stamp_144 N N x1 x2 x5 (nI 0) S))) ∧ (¬ (x5 + (nI 101)) ≤ (S.2.1 29 (S.2.1 24 x2.toNatClampNeg).toNatClampNeg) → O_stamp_139 N S))
set_option maxHeartbeats 4000000 in
theorem b_stamp_120 {G : zG} {E : rE} {S : rS} {N : Nat} {Q : Option Value → rS → Prop} {X : Int32 × rS → Prop} (hG : zOK G) (hR : ∀ v S', X (v, S') → Q (some (.int v)) S') {x1 : Int32} {x2 : Int32} {x5 : Int32} (ok : O_stamp_120 N x1 x2 x5 S) (hx : X (F_stamp_120 N x1 x2 x5 S)) : rX G E dX12_stamp mX12_stamp 120 [some (.ref E.1), some (.int x1), some (.int x2), none, none, some (.int x5), none] [] S Q := by
  unfold O_stamp_120 at ok
  unfold F_stamp_120 at hx
  refine r_aload_n dX12_stamp_120 rfl rfl ?_
  refine r_getA 29 fX12_173 (by decide) (by decide) dX12_stamp_121 ?_
  refine r_aload_n dX12_stamp_124 rfl rfl ?_
  refine r_getA 24 fX12_176 (by decide) (by decide) dX12_stamp_125 ?_
  refine r_iload_n dX12_stamp_128 rfl rfl ?_
  refine r_iald (by decide) (by decide) dX12_stamp_129 ok.1 ?_
  have ok := ok.2
  refine r_iald (by decide) (by decide) dX12_stamp_130 ok.1 ?_
  have ok := ok.2
  refine r_iload dX12_stamp_131 rfl ?_
  refine r_bipush (v := nI 101) dX12_stamp_133 (by decide) ?_
  refine r_iadd dX12_stamp_135 ?_
  refine r_icmp_ge (tgt := 141) dX12_stamp_136 (by decide) (fun c_136 => ?_) (fun c_136 => ?_)
  · have ok := ok.1 c_136
    have hx := xif_p c_136 hx
    refine r_iconst (v := nI 0) dX12_stamp_141 (by decide) ?_
    refine r_istore_6 dX12_stamp_142 (by decide) rfl ?_
    exact rX.cutz (c_stamp_144 hG hR ok hx) ⟨rfl, rfl, rfl, rfl, rfl, trivial⟩
  · have ok := ok.2 c_136
    have hx := xif_n c_136 hx
    exact rX.cutz (b_stamp_139 hG hR ok hx) trivial
def F_stamp_106 (N : Nat) (x1 : Int32) (x2 : Int32) (x4 : Int32) (s0 : Int32) (S : rS) : Int32 × rS := (if x4 = (nI 1) then (F_stamp_120 N x1 x2 s0 S) else (if x4 = (nI 4) then (F_stamp_120 N x1 x2 s0 S) else (F_stamp_139 N S)))
def O_stamp_106 (N : Nat) (x1 : Int32) (x2 : Int32) (x4 : Int32) (s0 : Int32) (S : rS) : Prop := ((x4 = (nI 1) → O_stamp_120 N x1 x2 s0 S) ∧ (¬ x4 = (nI 1) → ((x4 = (nI 4) → O_stamp_120 N x1 x2 s0 S) ∧ (¬ x4 = (nI 4) → O_stamp_139 N S))))
set_option maxHeartbeats 4000000 in
theorem b_stamp_106 {G : zG} {E : rE} {S : rS} {N : Nat} {Q : Option Value → rS → Prop} {X : Int32 × rS → Prop} (hG : zOK G) (hR : ∀ v S', X (v, S') → Q (some (.int v)) S') {x1 : Int32} {x2 : Int32} {x4 : Int32} {s0 : Int32} (ok : O_stamp_106 N x1 x2 x4 s0 S) (hx : X (F_stamp_106 N x1 x2 x4 s0 S)) : rX G E dX12_stamp mX12_stamp 106 [some (.ref E.1), some (.int x1), some (.int x2), none, some (.int x4), none, none] [.int s0] S Q := by
  unfold O_stamp_106 at ok
  unfold F_stamp_106 at hx
  refine r_istore_5 dX12_stamp_106 (by decide) rfl ?_
  refine r_iload dX12_stamp_108 rfl ?_
  refine r_iconst (v := nI 1) dX12_stamp_110 (by decide) ?_
  refine r_icmp_eq (tgt := 120) dX12_stamp_111 (by decide) (fun c_111 => ?_) (fun c_111 => ?_)
  · have ok := ok.1 c_111
    have hx := xif_p c_111 hx
    exact rX.cutz (b_stamp_120 hG hR ok hx) ⟨rfl, rfl, rfl, rfl, trivial⟩
  · have ok := ok.2 c_111
    have hx := xif_n c_111 hx
    refine r_iload dX12_stamp_114 rfl ?_
    refine r_iconst (v := nI 4) dX12_stamp_116 (by decide) ?_
    refine r_icmp_ne (tgt := 139) dX12_stamp_117 (by decide) (fun c_117 => ?_) (fun c_117 => ?_)
    · have ok := ok.2 c_117
      have hx := xif_n c_117 hx
      exact rX.cutz (b_stamp_139 hG hR ok hx) trivial
    · have ok := ok.1 c_117
      have hx := xif_p c_117 hx
      exact rX.cutz (b_stamp_120 hG hR ok hx) ⟨rfl, rfl, rfl, rfl, trivial⟩
def F_stamp_73 (N : Nat) (x1 : Int32) (S : rS) : Int32 × rS := (F_stamp_171 N x1 S)
def O_stamp_73 (N : Nat) (x1 : Int32) (S : rS) : Prop := O_stamp_171 N x1 S
set_option maxHeartbeats 4000000 in
theorem b_stamp_73 {G : zG} {E : rE} {S : rS} {N : Nat} {Q : Option Value → rS → Prop} {X : Int32 × rS → Prop} (hG : zOK G) (hR : ∀ v S', X (v, S') → Q (some (.int v)) S') {x1 : Int32} (ok : O_stamp_73 N x1 S) (hx : X (F_stamp_73 N x1 S)) : rX G E dX12_stamp mX12_stamp 73 [some (.ref E.1), some (.int x1), none, none, none, none, none] [] S Q := by
  unfold O_stamp_73 at ok
  unfold F_stamp_73 at hx
  refine r_goto (tgt := 171) dX12_stamp_73 (by decide) ?_
  exact rX.cutz (b_stamp_171 hG hR ok hx) ⟨rfl, rfl, trivial⟩
def F_stamp_67 (N : Nat) (rec : Int32 → Int32 → Int32 → rS → Nat × Int32 × rS) (x1 : Int32) (x3 : Int32) (x4 : Int32) (S : rS) : Nat × Int32 × rS := (rec x1 x3 (x4 + nI 1) S)
def O_stamp_67 (N : Nat) (rok : Int32 → Int32 → Int32 → rS → Prop) (x1 : Int32) (x3 : Int32) (x4 : Int32) (S : rS) : Prop := rok x1 x3 (x4 + nI 1) S
set_option maxHeartbeats 4000000 in
theorem b_stamp_67 {G : zG} {E : rE} {S : rS} {N : Nat} {Q : Option Value → rS → Prop} {X : Nat × Int32 × rS → Prop} (hG : zOK G) (hX0 : ∀ (x1 : Int32) (S' : rS), X (0, x1, S') → rX G E dX12_stamp mX12_stamp 73 [some (.ref E.1), some (.int x1), none, none, none, none, none] [] S' Q) {rec : Int32 → Int32 → Int32 → rS → Nat × Int32 × rS} {rok : Int32 → Int32 → Int32 → rS → Prop} (hrec : ∀ (x1 : Int32) (x3 : Int32) (x4 : Int32) (S : rS), rok x1 x3 x4 S → X (rec x1 x3 x4 S) → rX G E dX12_stamp mX12_stamp 47 [some (.ref E.1), some (.int x1), none, some (.int x3), some (.int x4), none, none] [] S Q) {x1 : Int32} {x3 : Int32} {x4 : Int32} (ok : O_stamp_67 N rok x1 x3 x4 S) (hx : X (F_stamp_67 N rec x1 x3 x4 S)) : rX G E dX12_stamp mX12_stamp 67 [some (.ref E.1), some (.int x1), none, some (.int x3), some (.int x4), none, none] [] S Q := by
  unfold O_stamp_67 at ok
  unfold F_stamp_67 at hx
  refine r_iinc_4 (v := (x4 + nI 1)) dX12_stamp_67 rfl (by first | rfl | (congr 1)) (by decide) rfl ?_
  refine r_goto (tgt := 47) dX12_stamp_70 (by decide) ?_
  exact rX.cutz (hrec _ _ _ S ok hx) ⟨rfl, rfl, rfl, rfl, trivial⟩
def B_stamp_47 (N : Nat) (rec : Int32 → Int32 → Int32 → rS → Nat × Int32 × rS) (x1 : Int32) (x3 : Int32) (x4 : Int32) (S : rS) : Nat × Int32 × rS := (if (nI 101) ≤ x4 then (0, x1, S) else (F_stamp_67 N rec x1 x3 x4 (f_hashByte N S (S.2.1 21 (x3 + x4).toNatClampNeg))))
def OB_stamp_47 (N : Nat) (rok : Int32 → Int32 → Int32 → rS → Prop) (x1 : Int32) (x3 : Int32) (x4 : Int32) (S : rS) : Prop := (((nI 101) ≤ x4 → True) ∧ (¬ (nI 101) ≤ x4 → (vp_in (x3 + x4) 1000) ∧ (o_hashByte N S (S.2.1 21 (x3 + x4).toNatClampNeg)) ∧ O_stamp_67 N rok x1 x3 x4 (f_hashByte N S (S.2.1 21 (x3 + x4).toNatClampNeg))))
set_option maxHeartbeats 4000000 in
theorem bb_stamp_47 {G : zG} {E : rE} {S : rS} {N : Nat} {Q : Option Value → rS → Prop} {X : Nat × Int32 × rS → Prop} (hG : zOK G) (hX0 : ∀ (x1 : Int32) (S' : rS), X (0, x1, S') → rX G E dX12_stamp mX12_stamp 73 [some (.ref E.1), some (.int x1), none, none, none, none, none] [] S' Q) {rec : Int32 → Int32 → Int32 → rS → Nat × Int32 × rS} {rok : Int32 → Int32 → Int32 → rS → Prop} (hrec : ∀ (x1 : Int32) (x3 : Int32) (x4 : Int32) (S : rS), rok x1 x3 x4 S → X (rec x1 x3 x4 S) → rX G E dX12_stamp mX12_stamp 47 [some (.ref E.1), some (.int x1), none, some (.int x3), some (.int x4), none, none] [] S Q) {x1 : Int32} {x3 : Int32} {x4 : Int32} (ok : OB_stamp_47 N rok x1 x3 x4 S) (hx : X (B_stamp_47 N rec x1 x3 x4 S)) : rX G E dX12_stamp mX12_stamp 47 [some (.ref E.1), some (.int x1), none, some (.int x3), some (.int x4), none, none] [] S Q := by
  unfold OB_stamp_47 at ok
  unfold B_stamp_47 at hx
  refine r_iload dX12_stamp_47 rfl ?_
  refine r_bipush (v := nI 101) dX12_stamp_49 (by decide) ?_
  refine r_icmp_ge (tgt := 73) dX12_stamp_51 (by decide) (fun c_51 => ?_) (fun c_51 => ?_)
  · have ok := ok.1 c_51
    have hx := xif_p c_51 hx
    exact rX.cutz (hX0 _ S hx) ⟨rfl, rfl, trivial⟩
  · have ok := ok.2 c_51
    have hx := xif_n c_51 hx
    refine r_aload_n dX12_stamp_54 rfl rfl ?_
    refine r_aload_n dX12_stamp_55 rfl rfl ?_
    refine r_getA 21 fX12_130 (by decide) (by decide) dX12_stamp_56 ?_
    refine r_iload_n dX12_stamp_59 rfl rfl ?_
    refine r_iload dX12_stamp_60 rfl ?_
    refine r_iadd dX12_stamp_62 ?_
    refine r_iald (by decide) (by decide) dX12_stamp_63 ok.1 ?_
    have ok := ok.2
    refine r_V1v (y' := mX12_hashByte) dX12_stamp_64 lX12_29 kX12_hashByte ⟨by decide, by decide⟩ rfl (Nat.le_of_ble_eq_true rfl) (rc_X12_hashByte hG ok.1) (fun S_64 h_64 => ?_)
    subst h_64
    have ok := ok.2
    exact rX.cutz (b_stamp_67 hG hX0 hrec ok hx) ⟨rfl, rfl, rfl, rfl, trivial⟩
def L_stamp_47 (N : Nat) : Nat → Int32 → Int32 → Int32 → rS → Nat × Int32 × rS
  | 0, x1, x3, x4, S => (0, 0, S)
  | n + 1, x1, x3, x4, S => B_stamp_47 N (L_stamp_47 N n) x1 x3 x4 S
def OL_stamp_47 (N : Nat) : Nat → Int32 → Int32 → Int32 → rS → Prop
  | 0, _, _, _, _ => False
  | n + 1, x1, x3, x4, S => OB_stamp_47 N (OL_stamp_47 N n) x1 x3 x4 S
set_option maxHeartbeats 4000000 in
theorem l_stamp_47 {G : zG} {E : rE} {N : Nat} {Q : Option Value → rS → Prop} {X : Nat × Int32 × rS → Prop} (hG : zOK G) (hX0 : ∀ (x1 : Int32) (S' : rS), X (0, x1, S') → rX G E dX12_stamp mX12_stamp 73 [some (.ref E.1), some (.int x1), none, none, none, none, none] [] S' Q) : ∀ (n : Nat) (x1 : Int32) (x3 : Int32) (x4 : Int32) (S : rS), OL_stamp_47 N n x1 x3 x4 S → X (L_stamp_47 N n x1 x3 x4 S) → rX G E dX12_stamp mX12_stamp 47 [some (.ref E.1), some (.int x1), none, some (.int x3), some (.int x4), none, none] [] S Q := by
  intro n
  induction n with
  | zero => intro x1 x3 x4 S ok; exact absurd ok id
  | succ n ih =>
    intro x1 x3 x4 S ok hx
    exact bb_stamp_47 hG hX0 (rec := L_stamp_47 N n) (rok := OL_stamp_47 N n) (fun x1 x3 x4 S ok hx => ih x1 x3 x4 S ok hx) ok hx
def A_stamp_47 (N : Nat) (x1 : Int32) (x3 : Int32) (x4 : Int32) (S : rS) (z : Nat × Int32 × rS) : Int32 × rS := (F_stamp_73 N (z.2.1) z.2.2)
def OA_stamp_47 (N : Nat) (x1 : Int32) (x3 : Int32) (x4 : Int32) (S : rS) (z : Nat × Int32 × rS) : Prop := O_stamp_73 N (z.2.1) z.2.2
set_option maxHeartbeats 4000000 in
theorem c_stamp_47 {G : zG} {E : rE} {S : rS} {N : Nat} {Q : Option Value → rS → Prop} {X : Int32 × rS → Prop} (hG : zOK G) (hR : ∀ v S', X (v, S') → Q (some (.int v)) S') {x1 : Int32} {x3 : Int32} {x4 : Int32} (ok : OL_stamp_47 N N x1 x3 x4 S ∧ OA_stamp_47 N x1 x3 x4 S (L_stamp_47 N N x1 x3 x4 S)) (hx : X (A_stamp_47 N x1 x3 x4 S (L_stamp_47 N N x1 x3 x4 S))) : rX G E dX12_stamp mX12_stamp 47 [some (.ref E.1), some (.int x1), none, some (.int x3), some (.int x4), none, none] [] S Q := by
  refine l_stamp_47 hG ?_ N x1 x3 x4 S ok.1 (X := fun z => OA_stamp_47 N x1 x3 x4 S z ∧ X (A_stamp_47 N x1 x3 x4 S z)) ⟨ok.2, hx⟩
  · intro x1' S' hz
    obtain ⟨ok, hx⟩ := hz
    unfold OA_stamp_47 at ok
    unfold A_stamp_47 at hx
    exact rX.cutz (b_stamp_73 hG hR ok hx) ⟨rfl, rfl, trivial⟩
def F_stamp_42 (N : Nat)  (S : rS) : Int32 × rS := ((nI 0), S)
def O_stamp_42 (N : Nat)  (S : rS) : Prop := True
set_option maxHeartbeats 4000000 in
theorem b_stamp_42 {G : zG} {E : rE} {S : rS} {N : Nat} {Q : Option Value → rS → Prop} {X : Int32 × rS → Prop} (hG : zOK G) (hR : ∀ v S', X (v, S') → Q (some (.int v)) S') (ok : O_stamp_42 N S) (hx : X (F_stamp_42 N S)) : rX G E dX12_stamp mX12_stamp 42 [none, none, none, none, none, none, none] [] S Q := by
  unfold O_stamp_42 at ok
  unfold F_stamp_42 at hx
  refine r_iconst (v := nI 0) dX12_stamp_42 (by decide) ?_
  exact r_ireturn rfl rfl dX12_stamp_43 (hR _ _ hx)
def F_stamp_15 (N : Nat)  (S : rS) : Int32 × rS := ((nI 0), S)
def O_stamp_15 (N : Nat)  (S : rS) : Prop := True
set_option maxHeartbeats 4000000 in
theorem b_stamp_15 {G : zG} {E : rE} {S : rS} {N : Nat} {Q : Option Value → rS → Prop} {X : Int32 × rS → Prop} (hG : zOK G) (hR : ∀ v S', X (v, S') → Q (some (.int v)) S') (ok : O_stamp_15 N S) (hx : X (F_stamp_15 N S)) : rX G E dX12_stamp mX12_stamp 15 [none, none, none, none, none, none, none] [] S Q := by
  unfold O_stamp_15 at ok
  unfold F_stamp_15 at hx
  refine r_iconst (v := nI 0) dX12_stamp_15 (by decide) ?_
  exact r_ireturn rfl rfl dX12_stamp_16 (hR _ _ hx)
def F_stamp_0 (N : Nat) (x1 : Int32) (x2 : Int32) (x3 : Int32) (S : rS) : Int32 × rS := (if x1 < 0 then (F_stamp_15 N S) else (if x1 ≤ ((S.1 22) - (nI 32)) then (if x2 = (-1) then (if x3 < 0 then (F_stamp_42 N (rsI S 7 (nI 0))) else (if x3 ≤ (((rsI S 7 (nI 0)).1 22) - (nI 101)) then (A_stamp_47 N x1 x3 (nI 0) (rsI S 7 (nI 0)) (L_stamp_47 N N x1 x3 (nI 0) (rsI S 7 (nI 0)))) else (F_stamp_42 N (rsI S 7 (nI 0))))) else (if (f_isFlying N (rsI S 7 (nI 0)) x2) = 0 then ((nI 0), (rsI S 7 (nI 0))) else (if (f_flyByte N (rsI S 7 (nI 0)) x2 (nI 0)) = (nI 1) then (F_stamp_106 N x1 x2 (f_flyByte N (rsI S 7 (nI 0)) x2 (nI 0)) (nI 6) (rsI S 7 (nI 0))) else (F_stamp_106 N x1 x2 (f_flyByte N (rsI S 7 (nI 0)) x2 (nI 0)) (nI 1) (rsI S 7 (nI 0)))))) else (F_stamp_15 N S)))
def O_stamp_0 (N : Nat) (x1 : Int32) (x2 : Int32) (x3 : Int32) (S : rS) : Prop := ((x1 < 0 → O_stamp_15 N S) ∧ (¬ x1 < 0 → ((x1 ≤ ((S.1 22) - (nI 32)) → ((x2 = (-1) → ((x3 < 0 → O_stamp_42 N (rsI S 7 (nI 0))) ∧ (¬ x3 < 0 → ((x3 ≤ (((rsI S 7 (nI 0)).1 22) - (nI 101)) → (OL_stamp_47 N N x1 x3 (nI 0) (rsI S 7 (nI 0)) ∧ OA_stamp_47 N x1 x3 (nI 0) (rsI S 7 (nI 0)) (L_stamp_47 N N x1 x3 (nI 0) (rsI S 7 (nI 0))))) ∧ (¬ x3 ≤ (((rsI S 7 (nI 0)).1 22) - (nI 101)) → O_stamp_42 N (rsI S 7 (nI 0))))))) ∧ (¬ x2 = (-1) → (o_isFlying N (rsI S 7 (nI 0)) x2) ∧ (((f_isFlying N (rsI S 7 (nI 0)) x2) = 0 → True) ∧ (¬ (f_isFlying N (rsI S 7 (nI 0)) x2) = 0 → (o_flyByte N (rsI S 7 (nI 0)) x2 (nI 0)) ∧ (((f_flyByte N (rsI S 7 (nI 0)) x2 (nI 0)) = (nI 1) → O_stamp_106 N x1 x2 (f_flyByte N (rsI S 7 (nI 0)) x2 (nI 0)) (nI 6) (rsI S 7 (nI 0))) ∧ (¬ (f_flyByte N (rsI S 7 (nI 0)) x2 (nI 0)) = (nI 1) → O_stamp_106 N x1 x2 (f_flyByte N (rsI S 7 (nI 0)) x2 (nI 0)) (nI 1) (rsI S 7 (nI 0))))))))) ∧ (¬ x1 ≤ ((S.1 22) - (nI 32)) → O_stamp_15 N S))))
set_option maxHeartbeats 4000000 in
theorem b_stamp_0 {G : zG} {E : rE} {S : rS} {N : Nat} {Q : Option Value → rS → Prop} {X : Int32 × rS → Prop} (hG : zOK G) (hR : ∀ v S', X (v, S') → Q (some (.int v)) S') {x1 : Int32} {x2 : Int32} {x3 : Int32} (ok : O_stamp_0 N x1 x2 x3 S) (hx : X (F_stamp_0 N x1 x2 x3 S)) : rX G E dX12_stamp mX12_stamp 0 [some (.ref E.1), some (.int x1), some (.int x2), some (.int x3), none, none, none] [] S Q := by
  unfold O_stamp_0 at ok
  unfold F_stamp_0 at hx
  refine r_iload_n dX12_stamp_0 rfl rfl ?_
  refine r_if_lt (tgt := 15) dX12_stamp_1 (by decide) (fun c_1 => ?_) (fun c_1 => ?_)
  · have ok := ok.1 c_1
    have hx := xif_p c_1 hx
    exact rX.cutz (b_stamp_15 hG hR ok hx) trivial
  · have ok := ok.2 c_1
    have hx := xif_n c_1 hx
    refine r_iload_n dX12_stamp_4 rfl rfl ?_
    refine r_aload_n dX12_stamp_5 rfl rfl ?_
    refine r_getI 22 fX12_133 (by decide) (by decide) dX12_stamp_6 ?_
    refine r_bipush (v := nI 32) dX12_stamp_9 (by decide) ?_
    refine r_isub dX12_stamp_11 ?_
    refine r_icmp_le (tgt := 17) dX12_stamp_12 (by decide) (fun c_12 => ?_) (fun c_12 => ?_)
    · have ok := ok.1 c_12
      have hx := xif_p c_12 hx
      refine r_aload_n dX12_stamp_17 rfl rfl ?_
      refine r_iconst (v := nI 0) dX12_stamp_18 (by decide) ?_
      refine r_putI 7 fX12_25 (by decide) (by decide) rfl rfl rfl dX12_stamp_19 ?_
      refine r_iload_n dX12_stamp_22 rfl rfl ?_
      refine r_iconst (v := -1) dX12_stamp_23 (by decide) ?_
      refine r_icmp_ne (tgt := 76) dX12_stamp_24 (by decide) (fun c_24 => ?_) (fun c_24 => ?_)
      · have ok := ok.2 c_24
        have hx := xif_n c_24 hx
        refine r_aload_n dX12_stamp_76 rfl rfl ?_
        refine r_iload_n dX12_stamp_77 rfl rfl ?_
        refine r_V1i (y' := mX12_isFlying) dX12_stamp_78 lX12_167 kX12_isFlying ⟨by decide, by decide⟩ rfl (Nat.le_of_ble_eq_true rfl) (rc_X12_isFlying hG ok.1) (fun v_78 S_78 h_78 => ?_)
        obtain ⟨rfl, hS_78⟩ := h_78
        have hS_78 := hS_78.symm
        subst hS_78
        have ok := ok.2
        refine r_if_ne (tgt := 86) dX12_stamp_81 (by decide) (fun c_81 => ?_) (fun c_81 => ?_)
        · have ok := ok.2 c_81
          have hx := xif_n c_81 hx
          refine r_aload_n dX12_stamp_86 rfl rfl ?_
          refine r_iload_n dX12_stamp_87 rfl rfl ?_
          refine r_iconst (v := nI 0) dX12_stamp_88 (by decide) ?_
          refine r_V2i (y' := mX12_flyByte) dX12_stamp_89 lX12_170 kX12_flyByte ⟨by decide, by decide⟩ rfl (Nat.le_of_ble_eq_true rfl) (rc_X12_flyByte hG ok.1) (fun v_89 S_89 h_89 => ?_)
          obtain ⟨rfl, hS_89⟩ := h_89
          have hS_89 := hS_89.symm
          subst hS_89
          have ok := ok.2
          refine r_istore_4 dX12_stamp_92 (by decide) rfl ?_
          refine r_iload dX12_stamp_94 rfl ?_
          refine r_iconst (v := nI 1) dX12_stamp_96 (by decide) ?_
          refine r_icmp_ne (tgt := 105) dX12_stamp_97 (by decide) (fun c_97 => ?_) (fun c_97 => ?_)
          · have ok := ok.2 c_97
            have hx := xif_n c_97 hx
            refine r_iconst (v := nI 1) dX12_stamp_105 (by decide) ?_
            exact rX.cutz (b_stamp_106 hG hR ok hx) ⟨rfl, rfl, rfl, rfl, trivial⟩
          · have ok := ok.1 c_97
            have hx := xif_p c_97 hx
            refine r_bipush (v := nI 6) dX12_stamp_100 (by decide) ?_
            refine r_goto (tgt := 106) dX12_stamp_102 (by decide) ?_
            exact rX.cutz (b_stamp_106 hG hR ok hx) ⟨rfl, rfl, rfl, rfl, trivial⟩
        · have ok := ok.1 c_81
          have hx := xif_p c_81 hx
          refine r_iconst (v := nI 0) dX12_stamp_84 (by decide) ?_
          exact r_ireturn rfl rfl dX12_stamp_85 (hR _ _ hx)
      · have ok := ok.1 c_24
        have hx := xif_p c_24 hx
        refine r_iload_n dX12_stamp_27 rfl rfl ?_
        refine r_if_lt (tgt := 42) dX12_stamp_28 (by decide) (fun c_28 => ?_) (fun c_28 => ?_)
        · have ok := ok.1 c_28
          have hx := xif_p c_28 hx
          exact rX.cutz (b_stamp_42 hG hR ok hx) trivial
        · have ok := ok.2 c_28
          have hx := xif_n c_28 hx
          refine r_iload_n dX12_stamp_31 rfl rfl ?_
          refine r_aload_n dX12_stamp_32 rfl rfl ?_
          refine r_getI 22 fX12_133 (by decide) (by decide) dX12_stamp_33 ?_
          refine r_bipush (v := nI 101) dX12_stamp_36 (by decide) ?_
          refine r_isub dX12_stamp_38 ?_
          refine r_icmp_le (tgt := 44) dX12_stamp_39 (by decide) (fun c_39 => ?_) (fun c_39 => ?_)
          · have ok := ok.1 c_39
            have hx := xif_p c_39 hx
            refine r_iconst (v := nI 0) dX12_stamp_44 (by decide) ?_
            refine r_istore_4 dX12_stamp_45 (by decide) rfl ?_
            exact rX.cutz (c_stamp_47 hG hR ok hx) ⟨rfl, rfl, rfl, rfl, trivial⟩
          · have ok := ok.2 c_39
            have hx := xif_n c_39 hx
            exact rX.cutz (b_stamp_42 hG hR ok hx) trivial
    · have ok := ok.2 c_12
      have hx := xif_n c_12 hx
      exact rX.cutz (b_stamp_15 hG hR ok hx) trivial
def f_stamp (N : Nat) (S : rS) (x1 : Int32) (x2 : Int32) (x3 : Int32) : Int32 × rS := F_stamp_0 N x1 x2 x3 S
def o_stamp (N : Nat) (S : rS) (x1 : Int32) (x2 : Int32) (x3 : Int32) : Prop := O_stamp_0 N x1 x2 x3 S
set_option maxHeartbeats 4000000 in
theorem rc_X12_stamp {G : zG} {E : rE} {S : rS} {N : Nat} (hG : zOK G) {x1 : Int32} {x2 : Int32} {x3 : Int32} (ok : o_stamp N S x1 x2 x3) : rCi G E dX12_stamp mX12_stamp [.ref E.1, .int x1, .int x2, .int x3] S (fun v S' => v = (f_stamp N S x1 x2 x3).1 ∧ S' = (f_stamp N S x1 x2 x3).2) := by
  refine rC.ofX rfl (Nat.le_of_ble_eq_true rfl) ?_
  show rX G E dX12_stamp mX12_stamp 0 [some (.ref E.1), some (.int x1), some (.int x2), some (.int x3), none, none, none] [] S _
  exact rX.cutz (b_stamp_0 (X := fun F => F = f_stamp N S x1 x2 x3) hG (fun v S' h => ⟨v, rfl, by rw [← h], by rw [← h]⟩) ok rfl) ⟨rfl, rfl, rfl, rfl, trivial⟩
/-! hash -/
def F_hash_55 (N : Nat) (x2 : Int32) (S : rS) : Int64 × rS := ((f_sum N S x2), S)
def O_hash_55 (N : Nat) (x2 : Int32) (S : rS) : Prop := (o_sum N S x2) ∧ True
set_option maxHeartbeats 4000000 in
theorem b_hash_55 {G : zG} {E : rE} {S : rS} {N : Nat} {Q : Option Value → rS → Prop} {X : Int64 × rS → Prop} (hG : zOK G) (hR : ∀ v S', X (v, S') → Q (some (.long v)) S') {x2 : Int32} (ok : O_hash_55 N x2 S) (hx : X (F_hash_55 N x2 S)) : rX G E dX12_hash mX12_hash 55 [some (.ref E.1), none, some (.int x2), none] [] S Q := by
  unfold O_hash_55 at ok
  unfold F_hash_55 at hx
  refine r_aload_n dX12_hash_55 rfl rfl ?_
  refine r_iload_n dX12_hash_56 rfl rfl ?_
  refine r_V1l (y' := mX12_sum) dX12_hash_57 lX12_74 kX12_sum ⟨by decide, by decide⟩ rfl (Nat.le_of_ble_eq_true rfl) (rc_X12_sum hG ok.1) (fun v_57 S_57 h_57 => ?_)
  obtain ⟨rfl, hS_57⟩ := h_57
  have hS_57 := hS_57.symm
  subst hS_57
  have ok := ok.2
  exact r_lreturn rfl dX12_hash_60 (hR _ _ hx)
def F_hash_51 (N : Nat) (x2 : Int32) (S : rS) : Int64 × rS := (F_hash_55 N x2 (f_digest N S))
def O_hash_51 (N : Nat) (x2 : Int32) (S : rS) : Prop := (o_digest N S) ∧ O_hash_55 N x2 (f_digest N S)
set_option maxHeartbeats 4000000 in
theorem b_hash_51 {G : zG} {E : rE} {S : rS} {N : Nat} {Q : Option Value → rS → Prop} {X : Int64 × rS → Prop} (hG : zOK G) (hR : ∀ v S', X (v, S') → Q (some (.long v)) S') {x2 : Int32} (ok : O_hash_51 N x2 S) (hx : X (F_hash_51 N x2 S)) : rX G E dX12_hash mX12_hash 51 [some (.ref E.1), none, some (.int x2), none] [] S Q := by
  unfold O_hash_51 at ok
  unfold F_hash_51 at hx
  refine r_aload_n dX12_hash_51 rfl rfl ?_
  refine r_V0v (y' := mX12_digest) dX12_hash_52 lX12_70 kX12_digest ⟨by decide, by decide⟩ rfl (Nat.le_of_ble_eq_true rfl) (rc_X12_digest hG ok.1) (fun S_52 h_52 => ?_)
  subst h_52
  have ok := ok.2
  exact rX.cutz (b_hash_55 hG hR ok hx) ⟨rfl, rfl, trivial⟩
def F_hash_45 (N : Nat) (rec : Int32 → Int32 → Int32 → rS → Nat × Int32 × rS) (x1 : Int32) (x2 : Int32) (x3 : Int32) (S : rS) : Nat × Int32 × rS := (rec x1 x2 (x3 + nI 1) S)
def O_hash_45 (N : Nat) (rok : Int32 → Int32 → Int32 → rS → Prop) (x1 : Int32) (x2 : Int32) (x3 : Int32) (S : rS) : Prop := rok x1 x2 (x3 + nI 1) S
set_option maxHeartbeats 4000000 in
theorem b_hash_45 {G : zG} {E : rE} {S : rS} {N : Nat} {Q : Option Value → rS → Prop} {X : Nat × Int32 × rS → Prop} (hG : zOK G) (hX0 : ∀ (x2 : Int32) (S' : rS), X (0, x2, S') → rX G E dX12_hash mX12_hash 51 [some (.ref E.1), none, some (.int x2), none] [] S' Q) {rec : Int32 → Int32 → Int32 → rS → Nat × Int32 × rS} {rok : Int32 → Int32 → Int32 → rS → Prop} (hrec : ∀ (x1 : Int32) (x2 : Int32) (x3 : Int32) (S : rS), rok x1 x2 x3 S → X (rec x1 x2 x3 S) → rX G E dX12_hash mX12_hash 30 [some (.ref E.1), some (.int x1), some (.int x2), some (.int x3)] [] S Q) {x1 : Int32} {x2 : Int32} {x3 : Int32} (ok : O_hash_45 N rok x1 x2 x3 S) (hx : X (F_hash_45 N rec x1 x2 x3 S)) : rX G E dX12_hash mX12_hash 45 [some (.ref E.1), some (.int x1), some (.int x2), some (.int x3)] [] S Q := by
  unfold O_hash_45 at ok
  unfold F_hash_45 at hx
  refine r_iinc_3 (v := (x3 + nI 1)) dX12_hash_45 rfl (by first | rfl | (congr 1)) (by decide) rfl ?_
  refine r_goto (tgt := 30) dX12_hash_48 (by decide) ?_
  exact rX.cutz (hrec _ _ _ S ok hx) ⟨rfl, rfl, rfl, rfl, trivial⟩
def B_hash_30 (N : Nat) (rec : Int32 → Int32 → Int32 → rS → Nat × Int32 × rS) (x1 : Int32) (x2 : Int32) (x3 : Int32) (S : rS) : Nat × Int32 × rS := (if x1 ≤ x3 then (0, x2, S) else (F_hash_45 N rec x1 x2 x3 (f_hashByte N S (S.2.1 21 x3.toNatClampNeg))))
def OB_hash_30 (N : Nat) (rok : Int32 → Int32 → Int32 → rS → Prop) (x1 : Int32) (x2 : Int32) (x3 : Int32) (S : rS) : Prop := ((x1 ≤ x3 → True) ∧ (¬ x1 ≤ x3 → (vp_in x3 1000) ∧ (o_hashByte N S (S.2.1 21 x3.toNatClampNeg)) ∧ O_hash_45 N rok x1 x2 x3 (f_hashByte N S (S.2.1 21 x3.toNatClampNeg))))
set_option maxHeartbeats 4000000 in
theorem bb_hash_30 {G : zG} {E : rE} {S : rS} {N : Nat} {Q : Option Value → rS → Prop} {X : Nat × Int32 × rS → Prop} (hG : zOK G) (hX0 : ∀ (x2 : Int32) (S' : rS), X (0, x2, S') → rX G E dX12_hash mX12_hash 51 [some (.ref E.1), none, some (.int x2), none] [] S' Q) {rec : Int32 → Int32 → Int32 → rS → Nat × Int32 × rS} {rok : Int32 → Int32 → Int32 → rS → Prop} (hrec : ∀ (x1 : Int32) (x2 : Int32) (x3 : Int32) (S : rS), rok x1 x2 x3 S → X (rec x1 x2 x3 S) → rX G E dX12_hash mX12_hash 30 [some (.ref E.1), some (.int x1), some (.int x2), some (.int x3)] [] S Q) {x1 : Int32} {x2 : Int32} {x3 : Int32} (ok : OB_hash_30 N rok x1 x2 x3 S) (hx : X (B_hash_30 N rec x1 x2 x3 S)) : rX G E dX12_hash mX12_hash 30 [some (.ref E.1), some (.int x1), some (.int x2), some (.int x3)] [] S Q := by
  unfold OB_hash_30 at ok
  unfold B_hash_30 at hx
  refine r_iload_n dX12_hash_30 rfl rfl ?_
  refine r_iload_n dX12_hash_31 rfl rfl ?_
  refine r_icmp_ge (tgt := 51) dX12_hash_32 (by decide) (fun c_32 => ?_) (fun c_32 => ?_)
  · have ok := ok.1 c_32
    have hx := xif_p c_32 hx
    exact rX.cutz (hX0 _ S hx) ⟨rfl, rfl, trivial⟩
  · have ok := ok.2 c_32
    have hx := xif_n c_32 hx
    refine r_aload_n dX12_hash_35 rfl rfl ?_
    refine r_aload_n dX12_hash_36 rfl rfl ?_
    refine r_getA 21 fX12_130 (by decide) (by decide) dX12_hash_37 ?_
    refine r_iload_n dX12_hash_40 rfl rfl ?_
    refine r_iald (by decide) (by decide) dX12_hash_41 ok.1 ?_
    have ok := ok.2
    refine r_V1v (y' := mX12_hashByte) dX12_hash_42 lX12_29 kX12_hashByte ⟨by decide, by decide⟩ rfl (Nat.le_of_ble_eq_true rfl) (rc_X12_hashByte hG ok.1) (fun S_42 h_42 => ?_)
    subst h_42
    have ok := ok.2
    exact rX.cutz (b_hash_45 hG hX0 hrec ok hx) ⟨rfl, rfl, rfl, rfl, trivial⟩
def L_hash_30 (N : Nat) : Nat → Int32 → Int32 → Int32 → rS → Nat × Int32 × rS
  | 0, x1, x2, x3, S => (0, 0, S)
  | n + 1, x1, x2, x3, S => B_hash_30 N (L_hash_30 N n) x1 x2 x3 S
def OL_hash_30 (N : Nat) : Nat → Int32 → Int32 → Int32 → rS → Prop
  | 0, _, _, _, _ => False
  | n + 1, x1, x2, x3, S => OB_hash_30 N (OL_hash_30 N n) x1 x2 x3 S
set_option maxHeartbeats 4000000 in
theorem l_hash_30 {G : zG} {E : rE} {N : Nat} {Q : Option Value → rS → Prop} {X : Nat × Int32 × rS → Prop} (hG : zOK G) (hX0 : ∀ (x2 : Int32) (S' : rS), X (0, x2, S') → rX G E dX12_hash mX12_hash 51 [some (.ref E.1), none, some (.int x2), none] [] S' Q) : ∀ (n : Nat) (x1 : Int32) (x2 : Int32) (x3 : Int32) (S : rS), OL_hash_30 N n x1 x2 x3 S → X (L_hash_30 N n x1 x2 x3 S) → rX G E dX12_hash mX12_hash 30 [some (.ref E.1), some (.int x1), some (.int x2), some (.int x3)] [] S Q := by
  intro n
  induction n with
  | zero => intro x1 x2 x3 S ok; exact absurd ok id
  | succ n ih =>
    intro x1 x2 x3 S ok hx
    exact bb_hash_30 hG hX0 (rec := L_hash_30 N n) (rok := OL_hash_30 N n) (fun x1 x2 x3 S ok hx => ih x1 x2 x3 S ok hx) ok hx
def A_hash_30 (N : Nat) (x1 : Int32) (x2 : Int32) (x3 : Int32) (S : rS) (z : Nat × Int32 × rS) : Int64 × rS := (F_hash_51 N (z.2.1) z.2.2)
def OA_hash_30 (N : Nat) (x1 : Int32) (x2 : Int32) (x3 : Int32) (S : rS) (z : Nat × Int32 × rS) : Prop := O_hash_51 N (z.2.1) z.2.2
set_option maxHeartbeats 4000000 in
theorem c_hash_30 {G : zG} {E : rE} {S : rS} {N : Nat} {Q : Option Value → rS → Prop} {X : Int64 × rS → Prop} (hG : zOK G) (hR : ∀ v S', X (v, S') → Q (some (.long v)) S') {x1 : Int32} {x2 : Int32} {x3 : Int32} (ok : OL_hash_30 N N x1 x2 x3 S ∧ OA_hash_30 N x1 x2 x3 S (L_hash_30 N N x1 x2 x3 S)) (hx : X (A_hash_30 N x1 x2 x3 S (L_hash_30 N N x1 x2 x3 S))) : rX G E dX12_hash mX12_hash 30 [some (.ref E.1), some (.int x1), some (.int x2), some (.int x3)] [] S Q := by
  refine l_hash_30 hG ?_ N x1 x2 x3 S ok.1 (X := fun z => OA_hash_30 N x1 x2 x3 S z ∧ X (A_hash_30 N x1 x2 x3 S z)) ⟨ok.2, hx⟩
  · intro x2' S' hz
    obtain ⟨ok, hx⟩ := hz
    unfold OA_hash_30 at ok
    unfold A_hash_30 at hx
    exact rX.cutz (b_hash_51 hG hR ok hx) ⟨rfl, rfl, trivial⟩
def F_hash_21 (N : Nat)  (S : rS) : Int64 × rS := ((0 : Int64), S)
def O_hash_21 (N : Nat)  (S : rS) : Prop := True
set_option maxHeartbeats 4000000 in
theorem b_hash_21 {G : zG} {E : rE} {S : rS} {N : Nat} {Q : Option Value → rS → Prop} {X : Int64 × rS → Prop} (hG : zOK G) (hR : ∀ v S', X (v, S') → Q (some (.long v)) S') (ok : O_hash_21 N S) (hx : X (F_hash_21 N S)) : rX G E dX12_hash mX12_hash 21 [none, none, none, none] [] S Q := by
  unfold O_hash_21 at ok
  unfold F_hash_21 at hx
  refine r_lconst (v := 0) dX12_hash_21 rfl ?_
  exact r_lreturn rfl dX12_hash_22 (hR _ _ hx)
def F_hash_0 (N : Nat) (x1 : Int32) (x2 : Int32) (S : rS) : Int64 × rS := (if x1 < 0 then (F_hash_21 N S) else (if (S.1 22) < x1 then (F_hash_21 N S) else (if x2 < 0 then (F_hash_21 N S) else (if x2 ≤ (nI 3) then (A_hash_30 N x1 x2 (nI 0) (rsI S 7 (nI 0)) (L_hash_30 N N x1 x2 (nI 0) (rsI S 7 (nI 0)))) else (F_hash_21 N S)))))
def O_hash_0 (N : Nat) (x1 : Int32) (x2 : Int32) (S : rS) : Prop := ((x1 < 0 → O_hash_21 N S) ∧ (¬ x1 < 0 → (((S.1 22) < x1 → O_hash_21 N S) ∧ (¬ (S.1 22) < x1 → ((x2 < 0 → O_hash_21 N S) ∧ (¬ x2 < 0 → ((x2 ≤ (nI 3) → (OL_hash_30 N N x1 x2 (nI 0) (rsI S 7 (nI 0)) ∧ OA_hash_30 N x1 x2 (nI 0) (rsI S 7 (nI 0)) (L_hash_30 N N x1 x2 (nI 0) (rsI S 7 (nI 0))))) ∧ (¬ x2 ≤ (nI 3) → O_hash_21 N S))))))))
set_option maxHeartbeats 4000000 in
theorem b_hash_0 {G : zG} {E : rE} {S : rS} {N : Nat} {Q : Option Value → rS → Prop} {X : Int64 × rS → Prop} (hG : zOK G) (hR : ∀ v S', X (v, S') → Q (some (.long v)) S') {x1 : Int32} {x2 : Int32} (ok : O_hash_0 N x1 x2 S) (hx : X (F_hash_0 N x1 x2 S)) : rX G E dX12_hash mX12_hash 0 [some (.ref E.1), some (.int x1), some (.int x2), none] [] S Q := by
  unfold O_hash_0 at ok
  unfold F_hash_0 at hx
  refine r_iload_n dX12_hash_0 rfl rfl ?_
  refine r_if_lt (tgt := 21) dX12_hash_1 (by decide) (fun c_1 => ?_) (fun c_1 => ?_)
  · have ok := ok.1 c_1
    have hx := xif_p c_1 hx
    exact rX.cutz (b_hash_21 hG hR ok hx) trivial
  · have ok := ok.2 c_1
    have hx := xif_n c_1 hx
    refine r_iload_n dX12_hash_4 rfl rfl ?_
    refine r_aload_n dX12_hash_5 rfl rfl ?_
    refine r_getI 22 fX12_133 (by decide) (by decide) dX12_hash_6 ?_
    refine r_icmp_gt (tgt := 21) dX12_hash_9 (by decide) (fun c_9 => ?_) (fun c_9 => ?_)
    · have ok := ok.1 c_9
      have hx := xif_p c_9 hx
      exact rX.cutz (b_hash_21 hG hR ok hx) trivial
    · have ok := ok.2 c_9
      have hx := xif_n c_9 hx
      refine r_iload_n dX12_hash_12 rfl rfl ?_
      refine r_if_lt (tgt := 21) dX12_hash_13 (by decide) (fun c_13 => ?_) (fun c_13 => ?_)
      · have ok := ok.1 c_13
        have hx := xif_p c_13 hx
        exact rX.cutz (b_hash_21 hG hR ok hx) trivial
      · have ok := ok.2 c_13
        have hx := xif_n c_13 hx
        refine r_iload_n dX12_hash_16 rfl rfl ?_
        refine r_iconst (v := nI 3) dX12_hash_17 (by decide) ?_
        refine r_icmp_le (tgt := 23) dX12_hash_18 (by decide) (fun c_18 => ?_) (fun c_18 => ?_)
        · have ok := ok.1 c_18
          have hx := xif_p c_18 hx
          refine r_aload_n dX12_hash_23 rfl rfl ?_
          refine r_iconst (v := nI 0) dX12_hash_24 (by decide) ?_
          refine r_putI 7 fX12_25 (by decide) (by decide) rfl rfl rfl dX12_hash_25 ?_
          refine r_iconst (v := nI 0) dX12_hash_28 (by decide) ?_
          refine r_istore_3 dX12_hash_29 (by decide) rfl ?_
          exact rX.cutz (c_hash_30 hG hR ok hx) ⟨rfl, rfl, rfl, rfl, trivial⟩
        · have ok := ok.2 c_18
          have hx := xif_n c_18 hx
          exact rX.cutz (b_hash_21 hG hR ok hx) trivial
def f_hash (N : Nat) (S : rS) (x1 : Int32) (x2 : Int32) : Int64 × rS := F_hash_0 N x1 x2 S
def o_hash (N : Nat) (S : rS) (x1 : Int32) (x2 : Int32) : Prop := O_hash_0 N x1 x2 S
set_option maxHeartbeats 4000000 in
theorem rc_X12_hash {G : zG} {E : rE} {S : rS} {N : Nat} (hG : zOK G) {x1 : Int32} {x2 : Int32} (ok : o_hash N S x1 x2) : rCl G E dX12_hash mX12_hash [.ref E.1, .int x1, .int x2] S (fun v S' => v = (f_hash N S x1 x2).1 ∧ S' = (f_hash N S x1 x2).2) := by
  refine rC.ofX rfl (Nat.le_of_ble_eq_true rfl) ?_
  show rX G E dX12_hash mX12_hash 0 [some (.ref E.1), some (.int x1), some (.int x2), none] [] S _
  exact rX.cutz (b_hash_0 (X := fun F => F = f_hash N S x1 x2) hG (fun v S' h => ⟨v, rfl, by rw [← h], by rw [← h]⟩) ok rfl) ⟨rfl, rfl, rfl, trivial⟩
/-! proof -/
def F_proof_315 (N : Nat) (x5 : Int32) (S : rS) : Int32 × rS := (x5, S)
def O_proof_315 (N : Nat) (x5 : Int32) (S : rS) : Prop := narrow .boolean (.int x5) = .int x5
set_option maxHeartbeats 4000000 in
theorem b_proof_315 {G : zG} {E : rE} {S : rS} {N : Nat} {Q : Option Value → rS → Prop} {X : Int32 × rS → Prop} (hG : zOK G) (hR : ∀ v S', X (v, S') → Q (some (.int v)) S') {x5 : Int32} (ok : O_proof_315 N x5 S) (hx : X (F_proof_315 N x5 S)) : rX G E dX12_proof mX12_proof 315 [none, none, none, none, none, some (.int x5), none] [] S Q := by
  unfold O_proof_315 at ok
  unfold F_proof_315 at hx
  refine r_iload dX12_proof_315 rfl ?_
  exact r_ireturn rfl ok dX12_proof_317 (hR _ _ hx)
def F_proof_307 (N : Nat) (rec : Int32 → Int32 → Int32 → rS → Nat × Int32 × rS) (x1 : Int32) (x6 : Int32) (s0 : Int32) (S : rS) : Nat × Int32 × rS := (rec x1 s0 (x6 + nI 1) S)
def O_proof_307 (N : Nat) (rok : Int32 → Int32 → Int32 → rS → Prop) (x1 : Int32) (x6 : Int32) (s0 : Int32) (S : rS) : Prop := rok x1 s0 (x6 + nI 1) S
set_option maxHeartbeats 4000000 in
theorem b_proof_307 {G : zG} {E : rE} {S : rS} {N : Nat} {Q : Option Value → rS → Prop} {X : Nat × Int32 × rS → Prop} (hG : zOK G) (hX0 : ∀ (x5 : Int32) (S' : rS), X (0, x5, S') → rX G E dX12_proof mX12_proof 315 [none, none, none, none, none, some (.int x5), none] [] S' Q) {rec : Int32 → Int32 → Int32 → rS → Nat × Int32 × rS} {rok : Int32 → Int32 → Int32 → rS → Prop} (hrec : ∀ (x1 : Int32) (x5 : Int32) (x6 : Int32) (S : rS), rok x1 x5 x6 S → X (rec x1 x5 x6 S) → rX G E dX12_proof mX12_proof 262 [some (.ref E.1), some (.int x1), none, none, none, some (.int x5), some (.int x6)] [] S Q) {x1 : Int32} {x6 : Int32} {s0 : Int32} (ok : O_proof_307 N rok x1 x6 s0 S) (hx : X (F_proof_307 N rec x1 x6 s0 S)) : rX G E dX12_proof mX12_proof 307 [some (.ref E.1), some (.int x1), none, none, none, none, some (.int x6)] [.int s0] S Q := by
  unfold O_proof_307 at ok
  unfold F_proof_307 at hx
  refine r_istore_5 dX12_proof_307 (by decide) rfl ?_
  refine r_iinc_6 (v := (x6 + nI 1)) dX12_proof_309 rfl (by first | rfl | (congr 1)) (by decide) rfl ?_
  refine r_goto (tgt := 262) dX12_proof_312 (by decide) ?_
  exact rX.cutz (hrec _ _ _ S ok hx) ⟨rfl, rfl, rfl, rfl, trivial⟩
def F_proof_306 (N : Nat) (rec : Int32 → Int32 → Int32 → rS → Nat × Int32 × rS) (x1 : Int32) (x6 : Int32) (S : rS) : Nat × Int32 × rS := (F_proof_307 N rec x1 x6 (nI 0) S)
def O_proof_306 (N : Nat) (rok : Int32 → Int32 → Int32 → rS → Prop) (x1 : Int32) (x6 : Int32) (S : rS) : Prop := O_proof_307 N rok x1 x6 (nI 0) S
set_option maxHeartbeats 4000000 in
theorem b_proof_306 {G : zG} {E : rE} {S : rS} {N : Nat} {Q : Option Value → rS → Prop} {X : Nat × Int32 × rS → Prop} (hG : zOK G) (hX0 : ∀ (x5 : Int32) (S' : rS), X (0, x5, S') → rX G E dX12_proof mX12_proof 315 [none, none, none, none, none, some (.int x5), none] [] S' Q) {rec : Int32 → Int32 → Int32 → rS → Nat × Int32 × rS} {rok : Int32 → Int32 → Int32 → rS → Prop} (hrec : ∀ (x1 : Int32) (x5 : Int32) (x6 : Int32) (S : rS), rok x1 x5 x6 S → X (rec x1 x5 x6 S) → rX G E dX12_proof mX12_proof 262 [some (.ref E.1), some (.int x1), none, none, none, some (.int x5), some (.int x6)] [] S Q) {x1 : Int32} {x6 : Int32} (ok : O_proof_306 N rok x1 x6 S) (hx : X (F_proof_306 N rec x1 x6 S)) : rX G E dX12_proof mX12_proof 306 [some (.ref E.1), some (.int x1), none, none, none, none, some (.int x6)] [] S Q := by
  unfold O_proof_306 at ok
  unfold F_proof_306 at hx
  refine r_iconst (v := nI 0) dX12_proof_306 (by decide) ?_
  exact rX.cutz (b_proof_307 hG hX0 hrec ok hx) ⟨rfl, rfl, rfl, trivial⟩
def F_proof_295 (N : Nat) (rec : Int32 → Int32 → Int32 → rS → Nat × Int32 × rS) (x1 : Int32) (x6 : Int32) (s0 : Int32) (s2 : Int32) (S : rS) : Nat × Int32 × rS := (if s0 = (S.2.1 21 (s2 + x6).toNatClampNeg) then (F_proof_307 N rec x1 x6 (nI 1) S) else (F_proof_306 N rec x1 x6 S))
def O_proof_295 (N : Nat) (rok : Int32 → Int32 → Int32 → rS → Prop) (x1 : Int32) (x6 : Int32) (s0 : Int32) (s2 : Int32) (S : rS) : Prop := (vp_in (s2 + x6) 1000) ∧ ((s0 = (S.2.1 21 (s2 + x6).toNatClampNeg) → O_proof_307 N rok x1 x6 (nI 1) S) ∧ (¬ s0 = (S.2.1 21 (s2 + x6).toNatClampNeg) → O_proof_306 N rok x1 x6 S))
set_option maxHeartbeats 4000000 in
theorem b_proof_295 {G : zG} {E : rE} {S : rS} {N : Nat} {Q : Option Value → rS → Prop} {X : Nat × Int32 × rS → Prop} (hG : zOK G) (hX0 : ∀ (x5 : Int32) (S' : rS), X (0, x5, S') → rX G E dX12_proof mX12_proof 315 [none, none, none, none, none, some (.int x5), none] [] S' Q) {rec : Int32 → Int32 → Int32 → rS → Nat × Int32 × rS} {rok : Int32 → Int32 → Int32 → rS → Prop} (hrec : ∀ (x1 : Int32) (x5 : Int32) (x6 : Int32) (S : rS), rok x1 x5 x6 S → X (rec x1 x5 x6 S) → rX G E dX12_proof mX12_proof 262 [some (.ref E.1), some (.int x1), none, none, none, some (.int x5), some (.int x6)] [] S Q) {x1 : Int32} {x6 : Int32} {s0 : Int32} {s2 : Int32} (ok : O_proof_295 N rok x1 x6 s0 s2 S) (hx : X (F_proof_295 N rec x1 x6 s0 s2 S)) : rX G E dX12_proof mX12_proof 295 [some (.ref E.1), some (.int x1), none, none, none, none, some (.int x6)] [.int s2, .ref (E.2.1 21), .int s0] S Q := by
  unfold O_proof_295 at ok
  unfold F_proof_295 at hx
  refine r_iload dX12_proof_295 rfl ?_
  refine r_iadd dX12_proof_297 ?_
  refine r_iald (by decide) (by decide) dX12_proof_298 ok.1 ?_
  have ok := ok.2
  refine r_icmp_ne (tgt := 306) dX12_proof_299 (by decide) (fun c_299 => ?_) (fun c_299 => ?_)
  · have ok := ok.2 c_299
    have hx := xif_n c_299 hx
    exact rX.cutz (b_proof_306 hG hX0 hrec ok hx) ⟨rfl, rfl, rfl, trivial⟩
  · have ok := ok.1 c_299
    have hx := xif_p c_299 hx
    refine r_iconst (v := nI 1) dX12_proof_302 (by decide) ?_
    refine r_goto (tgt := 307) dX12_proof_303 (by decide) ?_
    exact rX.cutz (b_proof_307 hG hX0 hrec ok hx) ⟨rfl, rfl, rfl, trivial⟩
def B_proof_262 (N : Nat) (rec : Int32 → Int32 → Int32 → rS → Nat × Int32 × rS) (x1 : Int32) (x5 : Int32) (x6 : Int32) (S : rS) : Nat × Int32 × rS := (if (nI 32) ≤ x6 then (0, x5, S) else (if x5 = 0 then (F_proof_306 N rec x1 x6 S) else (if x1 = 0 then (F_proof_295 N rec x1 x6 (f_rootByte N S x6) (nI 67) S) else (F_proof_295 N rec x1 x6 (f_rootByte N S x6) (nI 35) S))))
def OB_proof_262 (N : Nat) (rok : Int32 → Int32 → Int32 → rS → Prop) (x1 : Int32) (x5 : Int32) (x6 : Int32) (S : rS) : Prop := (((nI 32) ≤ x6 → True) ∧ (¬ (nI 32) ≤ x6 → ((x5 = 0 → O_proof_306 N rok x1 x6 S) ∧ (¬ x5 = 0 → (o_rootByte N S x6) ∧ ((x1 = 0 → O_proof_295 N rok x1 x6 (f_rootByte N S x6) (nI 67) S) ∧ (¬ x1 = 0 → O_proof_295 N rok x1 x6 (f_rootByte N S x6) (nI 35) S))))))
set_option maxHeartbeats 4000000 in
theorem bb_proof_262 {G : zG} {E : rE} {S : rS} {N : Nat} {Q : Option Value → rS → Prop} {X : Nat × Int32 × rS → Prop} (hG : zOK G) (hX0 : ∀ (x5 : Int32) (S' : rS), X (0, x5, S') → rX G E dX12_proof mX12_proof 315 [none, none, none, none, none, some (.int x5), none] [] S' Q) {rec : Int32 → Int32 → Int32 → rS → Nat × Int32 × rS} {rok : Int32 → Int32 → Int32 → rS → Prop} (hrec : ∀ (x1 : Int32) (x5 : Int32) (x6 : Int32) (S : rS), rok x1 x5 x6 S → X (rec x1 x5 x6 S) → rX G E dX12_proof mX12_proof 262 [some (.ref E.1), some (.int x1), none, none, none, some (.int x5), some (.int x6)] [] S Q) {x1 : Int32} {x5 : Int32} {x6 : Int32} (ok : OB_proof_262 N rok x1 x5 x6 S) (hx : X (B_proof_262 N rec x1 x5 x6 S)) : rX G E dX12_proof mX12_proof 262 [some (.ref E.1), some (.int x1), none, none, none, some (.int x5), some (.int x6)] [] S Q := by
  unfold OB_proof_262 at ok
  unfold B_proof_262 at hx
  refine r_iload dX12_proof_262 rfl ?_
  refine r_bipush (v := nI 32) dX12_proof_264 (by decide) ?_
  refine r_icmp_ge (tgt := 315) dX12_proof_266 (by decide) (fun c_266 => ?_) (fun c_266 => ?_)
  · have ok := ok.1 c_266
    have hx := xif_p c_266 hx
    exact rX.cutz (hX0 _ S hx) ⟨rfl, trivial⟩
  · have ok := ok.2 c_266
    have hx := xif_n c_266 hx
    refine r_iload dX12_proof_269 rfl ?_
    refine r_if_eq (tgt := 306) dX12_proof_271 (by decide) (fun c_271 => ?_) (fun c_271 => ?_)
    · have ok := ok.1 c_271
      have hx := xif_p c_271 hx
      exact rX.cutz (b_proof_306 hG hX0 hrec ok hx) ⟨rfl, rfl, rfl, trivial⟩
    · have ok := ok.2 c_271
      have hx := xif_n c_271 hx
      refine r_aload_n dX12_proof_274 rfl rfl ?_
      refine r_iload dX12_proof_275 rfl ?_
      refine r_V1i (y' := mX12_rootByte) dX12_proof_277 lX12_152 kX12_rootByte ⟨by decide, by decide⟩ rfl (Nat.le_of_ble_eq_true rfl) (rc_X12_rootByte hG ok.1) (fun v_277 S_277 h_277 => ?_)
      obtain ⟨rfl, hS_277⟩ := h_277
      have hS_277 := hS_277.symm
      subst hS_277
      have ok := ok.2
      refine r_aload_n dX12_proof_280 rfl rfl ?_
      refine r_getA 21 fX12_130 (by decide) (by decide) dX12_proof_281 ?_
      refine r_iload_n dX12_proof_284 rfl rfl ?_
      refine r_if_ne (tgt := 293) dX12_proof_285 (by decide) (fun c_285 => ?_) (fun c_285 => ?_)
      · have ok := ok.2 c_285
        have hx := xif_n c_285 hx
        refine r_bipush (v := nI 35) dX12_proof_293 (by decide) ?_
        exact rX.cutz (b_proof_295 hG hX0 hrec ok hx) ⟨rfl, rfl, rfl, trivial⟩
      · have ok := ok.1 c_285
        have hx := xif_p c_285 hx
        refine r_bipush (v := nI 67) dX12_proof_288 (by decide) ?_
        refine r_goto (tgt := 295) dX12_proof_290 (by decide) ?_
        exact rX.cutz (b_proof_295 hG hX0 hrec ok hx) ⟨rfl, rfl, rfl, trivial⟩
def L_proof_262 (N : Nat) : Nat → Int32 → Int32 → Int32 → rS → Nat × Int32 × rS
  | 0, x1, x5, x6, S => (0, 0, S)
  | n + 1, x1, x5, x6, S => B_proof_262 N (L_proof_262 N n) x1 x5 x6 S
def OL_proof_262 (N : Nat) : Nat → Int32 → Int32 → Int32 → rS → Prop
  | 0, _, _, _, _ => False
  | n + 1, x1, x5, x6, S => OB_proof_262 N (OL_proof_262 N n) x1 x5 x6 S
set_option maxHeartbeats 4000000 in
theorem l_proof_262 {G : zG} {E : rE} {N : Nat} {Q : Option Value → rS → Prop} {X : Nat × Int32 × rS → Prop} (hG : zOK G) (hX0 : ∀ (x5 : Int32) (S' : rS), X (0, x5, S') → rX G E dX12_proof mX12_proof 315 [none, none, none, none, none, some (.int x5), none] [] S' Q) : ∀ (n : Nat) (x1 : Int32) (x5 : Int32) (x6 : Int32) (S : rS), OL_proof_262 N n x1 x5 x6 S → X (L_proof_262 N n x1 x5 x6 S) → rX G E dX12_proof mX12_proof 262 [some (.ref E.1), some (.int x1), none, none, none, some (.int x5), some (.int x6)] [] S Q := by
  intro n
  induction n with
  | zero => intro x1 x5 x6 S ok; exact absurd ok id
  | succ n ih =>
    intro x1 x5 x6 S ok hx
    exact bb_proof_262 hG hX0 (rec := L_proof_262 N n) (rok := OL_proof_262 N n) (fun x1 x5 x6 S ok hx => ih x1 x5 x6 S ok hx) ok hx
def A_proof_262 (N : Nat) (x1 : Int32) (x5 : Int32) (x6 : Int32) (S : rS) (z : Nat × Int32 × rS) : Int32 × rS := (F_proof_315 N (z.2.1) z.2.2)
def OA_proof_262 (N : Nat) (x1 : Int32) (x5 : Int32) (x6 : Int32) (S : rS) (z : Nat × Int32 × rS) : Prop := O_proof_315 N (z.2.1) z.2.2
set_option maxHeartbeats 4000000 in
theorem c_proof_262 {G : zG} {E : rE} {S : rS} {N : Nat} {Q : Option Value → rS → Prop} {X : Int32 × rS → Prop} (hG : zOK G) (hR : ∀ v S', X (v, S') → Q (some (.int v)) S') {x1 : Int32} {x5 : Int32} {x6 : Int32} (ok : OL_proof_262 N N x1 x5 x6 S ∧ OA_proof_262 N x1 x5 x6 S (L_proof_262 N N x1 x5 x6 S)) (hx : X (A_proof_262 N x1 x5 x6 S (L_proof_262 N N x1 x5 x6 S))) : rX G E dX12_proof mX12_proof 262 [some (.ref E.1), some (.int x1), none, none, none, some (.int x5), some (.int x6)] [] S Q := by
  refine l_proof_262 hG ?_ N x1 x5 x6 S ok.1 (X := fun z => OA_proof_262 N x1 x5 x6 S z ∧ X (A_proof_262 N x1 x5 x6 S z)) ⟨ok.2, hx⟩
  · intro x5' S' hz
    obtain ⟨ok, hx⟩ := hz
    unfold OA_proof_262 at ok
    unfold A_proof_262 at hx
    exact rX.cutz (b_proof_315 hG hR ok hx) ⟨rfl, trivial⟩
def F_proof_256 (N : Nat) (x1 : Int32) (S : rS) : Int32 × rS := (A_proof_262 N x1 (nI 1) (nI 0) S (L_proof_262 N N x1 (nI 1) (nI 0) S))
def O_proof_256 (N : Nat) (x1 : Int32) (S : rS) : Prop := (OL_proof_262 N N x1 (nI 1) (nI 0) S ∧ OA_proof_262 N x1 (nI 1) (nI 0) S (L_proof_262 N N x1 (nI 1) (nI 0) S))
set_option maxHeartbeats 4000000 in
theorem b_proof_256 {G : zG} {E : rE} {S : rS} {N : Nat} {Q : Option Value → rS → Prop} {X : Int32 × rS → Prop} (hG : zOK G) (hR : ∀ v S', X (v, S') → Q (some (.int v)) S') {x1 : Int32} (ok : O_proof_256 N x1 S) (hx : X (F_proof_256 N x1 S)) : rX G E dX12_proof mX12_proof 256 [some (.ref E.1), some (.int x1), none, none, none, none, none] [] S Q := by
  unfold O_proof_256 at ok
  unfold F_proof_256 at hx
  refine r_iconst (v := nI 1) dX12_proof_256 (by decide) ?_
  refine r_istore_5 dX12_proof_257 (by decide) rfl ?_
  refine r_iconst (v := nI 0) dX12_proof_259 (by decide) ?_
  refine r_istore_6 dX12_proof_260 (by decide) rfl ?_
  exact rX.cutz (c_proof_262 hG hR ok hx) ⟨rfl, rfl, rfl, rfl, trivial⟩
def F_proof_251 (N : Nat) (rec : Int32 → Int32 → Int32 → rS → Nat × Int32 × rS) (x1 : Int32) (x3 : Int32) (s0 : Int32) (S : rS) : Nat × Int32 × rS := (rec x1 x3 s0 S)
def O_proof_251 (N : Nat) (rok : Int32 → Int32 → Int32 → rS → Prop) (x1 : Int32) (x3 : Int32) (s0 : Int32) (S : rS) : Prop := rok x1 x3 s0 S
set_option maxHeartbeats 4000000 in
theorem b_proof_251 {G : zG} {E : rE} {S : rS} {N : Nat} {Q : Option Value → rS → Prop} {X : Nat × Int32 × rS → Prop} (hG : zOK G) (hX0 : ∀ (x1 : Int32) (S' : rS), X (0, x1, S') → rX G E dX12_proof mX12_proof 110 [none, none, none, none, none, none, none] [] S' Q) (hX1 : ∀ (x1 : Int32) (S' : rS), X (1, x1, S') → rX G E dX12_proof mX12_proof 256 [some (.ref E.1), some (.int x1), none, none, none, none, none] [] S' Q) {rec : Int32 → Int32 → Int32 → rS → Nat × Int32 × rS} {rok : Int32 → Int32 → Int32 → rS → Prop} (hrec : ∀ (x1 : Int32) (x3 : Int32) (x4 : Int32) (S : rS), rok x1 x3 x4 S → X (rec x1 x3 x4 S) → rX G E dX12_proof mX12_proof 75 [some (.ref E.1), some (.int x1), none, some (.int x3), some (.int x4), none, none] [] S Q) {x1 : Int32} {x3 : Int32} {s0 : Int32} (ok : O_proof_251 N rok x1 x3 s0 S) (hx : X (F_proof_251 N rec x1 x3 s0 S)) : rX G E dX12_proof mX12_proof 251 [some (.ref E.1), some (.int x1), none, some (.int x3), none, none, none] [.int s0] S Q := by
  unfold O_proof_251 at ok
  unfold F_proof_251 at hx
  refine r_istore_4 dX12_proof_251 (by decide) rfl ?_
  refine r_goto (tgt := 75) dX12_proof_253 (by decide) ?_
  exact rX.cutz (hrec _ _ _ S ok hx) ⟨rfl, rfl, rfl, rfl, trivial⟩
def F_proof_234 (N : Nat) (rec : Int32 → Int32 → Int32 → rS → Nat × Int32 × rS) (x1 : Int32) (x3 : Int32) (x4 : Int32) (x5 : Int32) (S : rS) : Nat × Int32 × rS := (if x5 ≤ 0 then (F_proof_251 N rec x1 x3 (x4 + (nI 1)) S) else (F_proof_251 N rec x1 x3 (x4 + (nI 33)) S))
def O_proof_234 (N : Nat) (rok : Int32 → Int32 → Int32 → rS → Prop) (x1 : Int32) (x3 : Int32) (x4 : Int32) (x5 : Int32) (S : rS) : Prop := ((x5 ≤ 0 → O_proof_251 N rok x1 x3 (x4 + (nI 1)) S) ∧ (¬ x5 ≤ 0 → O_proof_251 N rok x1 x3 (x4 + (nI 33)) S))
set_option maxHeartbeats 4000000 in
theorem b_proof_234 {G : zG} {E : rE} {S : rS} {N : Nat} {Q : Option Value → rS → Prop} {X : Nat × Int32 × rS → Prop} (hG : zOK G) (hX0 : ∀ (x1 : Int32) (S' : rS), X (0, x1, S') → rX G E dX12_proof mX12_proof 110 [none, none, none, none, none, none, none] [] S' Q) (hX1 : ∀ (x1 : Int32) (S' : rS), X (1, x1, S') → rX G E dX12_proof mX12_proof 256 [some (.ref E.1), some (.int x1), none, none, none, none, none] [] S' Q) {rec : Int32 → Int32 → Int32 → rS → Nat × Int32 × rS} {rok : Int32 → Int32 → Int32 → rS → Prop} (hrec : ∀ (x1 : Int32) (x3 : Int32) (x4 : Int32) (S : rS), rok x1 x3 x4 S → X (rec x1 x3 x4 S) → rX G E dX12_proof mX12_proof 75 [some (.ref E.1), some (.int x1), none, some (.int x3), some (.int x4), none, none] [] S Q) {x1 : Int32} {x3 : Int32} {x4 : Int32} {x5 : Int32} (ok : O_proof_234 N rok x1 x3 x4 x5 S) (hx : X (F_proof_234 N rec x1 x3 x4 x5 S)) : rX G E dX12_proof mX12_proof 234 [some (.ref E.1), some (.int x1), none, some (.int x3), some (.int x4), some (.int x5), none] [] S Q := by
  unfold O_proof_234 at ok
  unfold F_proof_234 at hx
  refine r_iload dX12_proof_234 rfl ?_
  refine r_if_le (tgt := 247) dX12_proof_236 (by decide) (fun c_236 => ?_) (fun c_236 => ?_)
  · have ok := ok.1 c_236
    have hx := xif_p c_236 hx
    refine r_iload dX12_proof_247 rfl ?_
    refine r_iconst (v := nI 1) dX12_proof_249 (by decide) ?_
    refine r_iadd dX12_proof_250 ?_
    exact rX.cutz (b_proof_251 hG hX0 hX1 hrec ok hx) ⟨rfl, rfl, rfl, trivial⟩
  · have ok := ok.2 c_236
    have hx := xif_n c_236 hx
    refine r_iload dX12_proof_239 rfl ?_
    refine r_bipush (v := nI 33) dX12_proof_241 (by decide) ?_
    refine r_iadd dX12_proof_243 ?_
    refine r_goto (tgt := 251) dX12_proof_244 (by decide) ?_
    exact rX.cutz (b_proof_251 hG hX0 hX1 hrec ok hx) ⟨rfl, rfl, rfl, trivial⟩
def F_proof_224 (N : Nat) (rec : Int32 → Int32 → Int32 → rS → Nat × Int32 × rS) (x1 : Int32) (x3 : Int32) (x4 : Int32) (x5 : Int32) (S : rS) : Nat × Int32 × rS := (if x5 ≤ 0 then (F_proof_234 N rec x1 x3 x4 x5 S) else (F_proof_234 N rec x1 x3 x4 x5 (f_keepLeaf N S (nI 0))))
def O_proof_224 (N : Nat) (rok : Int32 → Int32 → Int32 → rS → Prop) (x1 : Int32) (x3 : Int32) (x4 : Int32) (x5 : Int32) (S : rS) : Prop := ((x5 ≤ 0 → O_proof_234 N rok x1 x3 x4 x5 S) ∧ (¬ x5 ≤ 0 → (o_keepLeaf N S (nI 0)) ∧ O_proof_234 N rok x1 x3 x4 x5 (f_keepLeaf N S (nI 0))))
set_option maxHeartbeats 4000000 in
theorem b_proof_224 {G : zG} {E : rE} {S : rS} {N : Nat} {Q : Option Value → rS → Prop} {X : Nat × Int32 × rS → Prop} (hG : zOK G) (hX0 : ∀ (x1 : Int32) (S' : rS), X (0, x1, S') → rX G E dX12_proof mX12_proof 110 [none, none, none, none, none, none, none] [] S' Q) (hX1 : ∀ (x1 : Int32) (S' : rS), X (1, x1, S') → rX G E dX12_proof mX12_proof 256 [some (.ref E.1), some (.int x1), none, none, none, none, none] [] S' Q) {rec : Int32 → Int32 → Int32 → rS → Nat × Int32 × rS} {rok : Int32 → Int32 → Int32 → rS → Prop} (hrec : ∀ (x1 : Int32) (x3 : Int32) (x4 : Int32) (S : rS), rok x1 x3 x4 S → X (rec x1 x3 x4 S) → rX G E dX12_proof mX12_proof 75 [some (.ref E.1), some (.int x1), none, some (.int x3), some (.int x4), none, none] [] S Q) {x1 : Int32} {x3 : Int32} {x4 : Int32} {x5 : Int32} (ok : O_proof_224 N rok x1 x3 x4 x5 S) (hx : X (F_proof_224 N rec x1 x3 x4 x5 S)) : rX G E dX12_proof mX12_proof 224 [some (.ref E.1), some (.int x1), none, some (.int x3), some (.int x4), some (.int x5), none] [] S Q := by
  unfold O_proof_224 at ok
  unfold F_proof_224 at hx
  refine r_iload dX12_proof_224 rfl ?_
  refine r_if_le (tgt := 234) dX12_proof_226 (by decide) (fun c_226 => ?_) (fun c_226 => ?_)
  · have ok := ok.1 c_226
    have hx := xif_p c_226 hx
    exact rX.cutz (b_proof_234 hG hX0 hX1 hrec ok hx) ⟨rfl, rfl, rfl, rfl, rfl, trivial⟩
  · have ok := ok.2 c_226
    have hx := xif_n c_226 hx
    refine r_aload_n dX12_proof_229 rfl rfl ?_
    refine r_iconst (v := nI 0) dX12_proof_230 (by decide) ?_
    refine r_V1v (y' := mX12_keepLeaf) dX12_proof_231 lX12_94 kX12_keepLeaf ⟨by decide, by decide⟩ rfl (Nat.le_of_ble_eq_true rfl) (rc_X12_keepLeaf hG ok.1) (fun S_231 h_231 => ?_)
    subst h_231
    have ok := ok.2
    exact rX.cutz (b_proof_234 hG hX0 hX1 hrec ok hx) ⟨rfl, rfl, rfl, rfl, rfl, trivial⟩
def F_proof_218 (N : Nat) (rec : Int32 → Int32 → Int32 → Int32 → Int32 → rS → Nat × Int32 × Int32 × Int32 × Int32 × rS) (x1 : Int32) (x3 : Int32) (x4 : Int32) (x5 : Int32) (x6 : Int32) (S : rS) : Nat × Int32 × Int32 × Int32 × Int32 × rS := (rec x1 x3 x4 x5 (x6 + nI 1) S)
def O_proof_218 (N : Nat) (rok : Int32 → Int32 → Int32 → Int32 → Int32 → rS → Prop) (x1 : Int32) (x3 : Int32) (x4 : Int32) (x5 : Int32) (x6 : Int32) (S : rS) : Prop := rok x1 x3 x4 x5 (x6 + nI 1) S
set_option maxHeartbeats 4000000 in
theorem b_proof_218 {G : zG} {E : rE} {S : rS} {N : Nat} {Q : Option Value → rS → Prop} {X : Nat × Int32 × Int32 × Int32 × Int32 × rS → Prop} (hG : zOK G) (hX0 : ∀ (x1 : Int32) (x3 : Int32) (x4 : Int32) (x5 : Int32) (S' : rS), X (0, x1, x3, x4, x5, S') → rX G E dX12_proof mX12_proof 224 [some (.ref E.1), some (.int x1), none, some (.int x3), some (.int x4), some (.int x5), none] [] S' Q) {rec : Int32 → Int32 → Int32 → Int32 → Int32 → rS → Nat × Int32 × Int32 × Int32 × Int32 × rS} {rok : Int32 → Int32 → Int32 → Int32 → Int32 → rS → Prop} (hrec : ∀ (x1 : Int32) (x3 : Int32) (x4 : Int32) (x5 : Int32) (x6 : Int32) (S : rS), rok x1 x3 x4 x5 x6 S → X (rec x1 x3 x4 x5 x6 S) → rX G E dX12_proof mX12_proof 189 [some (.ref E.1), some (.int x1), none, some (.int x3), some (.int x4), some (.int x5), some (.int x6)] [] S Q) {x1 : Int32} {x3 : Int32} {x4 : Int32} {x5 : Int32} {x6 : Int32} (ok : O_proof_218 N rok x1 x3 x4 x5 x6 S) (hx : X (F_proof_218 N rec x1 x3 x4 x5 x6 S)) : rX G E dX12_proof mX12_proof 218 [some (.ref E.1), some (.int x1), none, some (.int x3), some (.int x4), some (.int x5), some (.int x6)] [] S Q := by
  unfold O_proof_218 at ok
  unfold F_proof_218 at hx
  refine r_iinc_6 (v := (x6 + nI 1)) dX12_proof_218 rfl (by first | rfl | (congr 1)) (by decide) rfl ?_
  refine r_goto (tgt := 189) dX12_proof_221 (by decide) ?_
  exact rX.cutz (hrec _ _ _ _ _ S ok hx) ⟨rfl, rfl, rfl, rfl, rfl, rfl, trivial⟩
def B_proof_189 (N : Nat) (rec : Int32 → Int32 → Int32 → Int32 → Int32 → rS → Nat × Int32 × Int32 × Int32 × Int32 × rS) (x1 : Int32) (x3 : Int32) (x4 : Int32) (x5 : Int32) (x6 : Int32) (S : rS) : Nat × Int32 × Int32 × Int32 × Int32 × rS := (if x5 = (nI 2) then (if (nI 32) ≤ x6 then (0, x1, x3, x4, x5, S) else (F_proof_218 N rec x1 x3 x4 x5 x6 (f_hashByte N S (S.2.1 21 ((x4 + (nI 1)) + x6).toNatClampNeg)))) else (0, x1, x3, x4, x5, S))
def OB_proof_189 (N : Nat) (rok : Int32 → Int32 → Int32 → Int32 → Int32 → rS → Prop) (x1 : Int32) (x3 : Int32) (x4 : Int32) (x5 : Int32) (x6 : Int32) (S : rS) : Prop := ((x5 = (nI 2) → (((nI 32) ≤ x6 → True) ∧ (¬ (nI 32) ≤ x6 → (vp_in ((x4 + (nI 1)) + x6) 1000) ∧ (o_hashByte N S (S.2.1 21 ((x4 + (nI 1)) + x6).toNatClampNeg)) ∧ O_proof_218 N rok x1 x3 x4 x5 x6 (f_hashByte N S (S.2.1 21 ((x4 + (nI 1)) + x6).toNatClampNeg))))) ∧ (¬ x5 = (nI 2) → True))
set_option maxHeartbeats 4000000 in
theorem bb_proof_189 {G : zG} {E : rE} {S : rS} {N : Nat} {Q : Option Value → rS → Prop} {X : Nat × Int32 × Int32 × Int32 × Int32 × rS → Prop} (hG : zOK G) (hX0 : ∀ (x1 : Int32) (x3 : Int32) (x4 : Int32) (x5 : Int32) (S' : rS), X (0, x1, x3, x4, x5, S') → rX G E dX12_proof mX12_proof 224 [some (.ref E.1), some (.int x1), none, some (.int x3), some (.int x4), some (.int x5), none] [] S' Q) {rec : Int32 → Int32 → Int32 → Int32 → Int32 → rS → Nat × Int32 × Int32 × Int32 × Int32 × rS} {rok : Int32 → Int32 → Int32 → Int32 → Int32 → rS → Prop} (hrec : ∀ (x1 : Int32) (x3 : Int32) (x4 : Int32) (x5 : Int32) (x6 : Int32) (S : rS), rok x1 x3 x4 x5 x6 S → X (rec x1 x3 x4 x5 x6 S) → rX G E dX12_proof mX12_proof 189 [some (.ref E.1), some (.int x1), none, some (.int x3), some (.int x4), some (.int x5), some (.int x6)] [] S Q) {x1 : Int32} {x3 : Int32} {x4 : Int32} {x5 : Int32} {x6 : Int32} (ok : OB_proof_189 N rok x1 x3 x4 x5 x6 S) (hx : X (B_proof_189 N rec x1 x3 x4 x5 x6 S)) : rX G E dX12_proof mX12_proof 189 [some (.ref E.1), some (.int x1), none, some (.int x3), some (.int x4), some (.int x5), some (.int x6)] [] S Q := by
  unfold OB_proof_189 at ok
  unfold B_proof_189 at hx
  refine r_iload dX12_proof_189 rfl ?_
  refine r_iconst (v := nI 2) dX12_proof_191 (by decide) ?_
  refine r_icmp_ne (tgt := 224) dX12_proof_192 (by decide) (fun c_192 => ?_) (fun c_192 => ?_)
  · have ok := ok.2 c_192
    have hx := xif_n c_192 hx
    exact rX.cutz (hX0 _ _ _ _ S hx) ⟨rfl, rfl, rfl, rfl, rfl, trivial⟩
  · have ok := ok.1 c_192
    have hx := xif_p c_192 hx
    refine r_iload dX12_proof_195 rfl ?_
    refine r_bipush (v := nI 32) dX12_proof_197 (by decide) ?_
    refine r_icmp_ge (tgt := 224) dX12_proof_199 (by decide) (fun c_199 => ?_) (fun c_199 => ?_)
    · have ok := ok.1 c_199
      have hx := xif_p c_199 hx
      exact rX.cutz (hX0 _ _ _ _ S hx) ⟨rfl, rfl, rfl, rfl, rfl, trivial⟩
    · have ok := ok.2 c_199
      have hx := xif_n c_199 hx
      refine r_aload_n dX12_proof_202 rfl rfl ?_
      refine r_aload_n dX12_proof_203 rfl rfl ?_
      refine r_getA 21 fX12_130 (by decide) (by decide) dX12_proof_204 ?_
      refine r_iload dX12_proof_207 rfl ?_
      refine r_iconst (v := nI 1) dX12_proof_209 (by decide) ?_
      refine r_iadd dX12_proof_210 ?_
      refine r_iload dX12_proof_211 rfl ?_
      refine r_iadd dX12_proof_213 ?_
      refine r_iald (by decide) (by decide) dX12_proof_214 ok.1 ?_
      have ok := ok.2
      refine r_V1v (y' := mX12_hashByte) dX12_proof_215 lX12_29 kX12_hashByte ⟨by decide, by decide⟩ rfl (Nat.le_of_ble_eq_true rfl) (rc_X12_hashByte hG ok.1) (fun S_215 h_215 => ?_)
      subst h_215
      have ok := ok.2
      exact rX.cutz (b_proof_218 hG hX0 hrec ok hx) ⟨rfl, rfl, rfl, rfl, rfl, rfl, trivial⟩
def L_proof_189 (N : Nat) : Nat → Int32 → Int32 → Int32 → Int32 → Int32 → rS → Nat × Int32 × Int32 × Int32 × Int32 × rS
  | 0, x1, x3, x4, x5, x6, S => (0, 0, 0, 0, 0, S)
  | n + 1, x1, x3, x4, x5, x6, S => B_proof_189 N (L_proof_189 N n) x1 x3 x4 x5 x6 S
def OL_proof_189 (N : Nat) : Nat → Int32 → Int32 → Int32 → Int32 → Int32 → rS → Prop
  | 0, _, _, _, _, _, _ => False
  | n + 1, x1, x3, x4, x5, x6, S => OB_proof_189 N (OL_proof_189 N n) x1 x3 x4 x5 x6 S
set_option maxHeartbeats 4000000 in
theorem l_proof_189 {G : zG} {E : rE} {N : Nat} {Q : Option Value → rS → Prop} {X : Nat × Int32 × Int32 × Int32 × Int32 × rS → Prop} (hG : zOK G) (hX0 : ∀ (x1 : Int32) (x3 : Int32) (x4 : Int32) (x5 : Int32) (S' : rS), X (0, x1, x3, x4, x5, S') → rX G E dX12_proof mX12_proof 224 [some (.ref E.1), some (.int x1), none, some (.int x3), some (.int x4), some (.int x5), none] [] S' Q) : ∀ (n : Nat) (x1 : Int32) (x3 : Int32) (x4 : Int32) (x5 : Int32) (x6 : Int32) (S : rS), OL_proof_189 N n x1 x3 x4 x5 x6 S → X (L_proof_189 N n x1 x3 x4 x5 x6 S) → rX G E dX12_proof mX12_proof 189 [some (.ref E.1), some (.int x1), none, some (.int x3), some (.int x4), some (.int x5), some (.int x6)] [] S Q := by
  intro n
  induction n with
  | zero => intro x1 x3 x4 x5 x6 S ok; exact absurd ok id
  | succ n ih =>
    intro x1 x3 x4 x5 x6 S ok hx
    exact bb_proof_189 hG hX0 (rec := L_proof_189 N n) (rok := OL_proof_189 N n) (fun x1 x3 x4 x5 x6 S ok hx => ih x1 x3 x4 x5 x6 S ok hx) ok hx
def A_proof_189 (N : Nat) (rec : Int32 → Int32 → Int32 → rS → Nat × Int32 × rS) (x1 : Int32) (x3 : Int32) (x4 : Int32) (x5 : Int32) (x6 : Int32) (S : rS) (z : Nat × Int32 × Int32 × Int32 × Int32 × rS) : Nat × Int32 × rS := (F_proof_224 N rec (z.2.1) (z.2.2.1) (z.2.2.2.1) (z.2.2.2.2.1) z.2.2.2.2.2)
def OA_proof_189 (N : Nat) (rok : Int32 → Int32 → Int32 → rS → Prop) (x1 : Int32) (x3 : Int32) (x4 : Int32) (x5 : Int32) (x6 : Int32) (S : rS) (z : Nat × Int32 × Int32 × Int32 × Int32 × rS) : Prop := O_proof_224 N rok (z.2.1) (z.2.2.1) (z.2.2.2.1) (z.2.2.2.2.1) z.2.2.2.2.2
set_option maxHeartbeats 4000000 in
theorem c_proof_189 {G : zG} {E : rE} {S : rS} {N : Nat} {Q : Option Value → rS → Prop} {X : Nat × Int32 × rS → Prop} (hG : zOK G) (hX0 : ∀ (x1 : Int32) (S' : rS), X (0, x1, S') → rX G E dX12_proof mX12_proof 110 [none, none, none, none, none, none, none] [] S' Q) (hX1 : ∀ (x1 : Int32) (S' : rS), X (1, x1, S') → rX G E dX12_proof mX12_proof 256 [some (.ref E.1), some (.int x1), none, none, none, none, none] [] S' Q) {rec : Int32 → Int32 → Int32 → rS → Nat × Int32 × rS} {rok : Int32 → Int32 → Int32 → rS → Prop} (hrec : ∀ (x1 : Int32) (x3 : Int32) (x4 : Int32) (S : rS), rok x1 x3 x4 S → X (rec x1 x3 x4 S) → rX G E dX12_proof mX12_proof 75 [some (.ref E.1), some (.int x1), none, some (.int x3), some (.int x4), none, none] [] S Q) {x1 : Int32} {x3 : Int32} {x4 : Int32} {x5 : Int32} {x6 : Int32} (ok : OL_proof_189 N N x1 x3 x4 x5 x6 S ∧ OA_proof_189 N rok x1 x3 x4 x5 x6 S (L_proof_189 N N x1 x3 x4 x5 x6 S)) (hx : X (A_proof_189 N rec x1 x3 x4 x5 x6 S (L_proof_189 N N x1 x3 x4 x5 x6 S))) : rX G E dX12_proof mX12_proof 189 [some (.ref E.1), some (.int x1), none, some (.int x3), some (.int x4), some (.int x5), some (.int x6)] [] S Q := by
  refine l_proof_189 hG ?_ N x1 x3 x4 x5 x6 S ok.1 (X := fun z => OA_proof_189 N rok x1 x3 x4 x5 x6 S z ∧ X (A_proof_189 N rec x1 x3 x4 x5 x6 S z)) ⟨ok.2, hx⟩
  · intro x1' x3' x4' x5' S' hz
    obtain ⟨ok, hx⟩ := hz
    unfold OA_proof_189 at ok
    unfold A_proof_189 at hx
    exact rX.cutz (b_proof_224 hG hX0 hX1 hrec ok hx) ⟨rfl, rfl, rfl, rfl, rfl, trivial⟩
def F_proof_186 (N : Nat) (rec : Int32 → Int32 → Int32 → rS → Nat × Int32 × rS) (x1 : Int32) (x3 : Int32) (x4 : Int32) (x5 : Int32) (S : rS) : Nat × Int32 × rS := (A_proof_189 N rec x1 x3 x4 x5 (nI 0) S (L_proof_189 N N x1 x3 x4 x5 (nI 0) S))
def O_proof_186 (N : Nat) (rok : Int32 → Int32 → Int32 → rS → Prop) (x1 : Int32) (x3 : Int32) (x4 : Int32) (x5 : Int32) (S : rS) : Prop := (OL_proof_189 N N x1 x3 x4 x5 (nI 0) S ∧ OA_proof_189 N rok x1 x3 x4 x5 (nI 0) S (L_proof_189 N N x1 x3 x4 x5 (nI 0) S))
set_option maxHeartbeats 4000000 in
theorem b_proof_186 {G : zG} {E : rE} {S : rS} {N : Nat} {Q : Option Value → rS → Prop} {X : Nat × Int32 × rS → Prop} (hG : zOK G) (hX0 : ∀ (x1 : Int32) (S' : rS), X (0, x1, S') → rX G E dX12_proof mX12_proof 110 [none, none, none, none, none, none, none] [] S' Q) (hX1 : ∀ (x1 : Int32) (S' : rS), X (1, x1, S') → rX G E dX12_proof mX12_proof 256 [some (.ref E.1), some (.int x1), none, none, none, none, none] [] S' Q) {rec : Int32 → Int32 → Int32 → rS → Nat × Int32 × rS} {rok : Int32 → Int32 → Int32 → rS → Prop} (hrec : ∀ (x1 : Int32) (x3 : Int32) (x4 : Int32) (S : rS), rok x1 x3 x4 S → X (rec x1 x3 x4 S) → rX G E dX12_proof mX12_proof 75 [some (.ref E.1), some (.int x1), none, some (.int x3), some (.int x4), none, none] [] S Q) {x1 : Int32} {x3 : Int32} {x4 : Int32} {x5 : Int32} (ok : O_proof_186 N rok x1 x3 x4 x5 S) (hx : X (F_proof_186 N rec x1 x3 x4 x5 S)) : rX G E dX12_proof mX12_proof 186 [some (.ref E.1), some (.int x1), none, some (.int x3), some (.int x4), some (.int x5), none] [] S Q := by
  unfold O_proof_186 at ok
  unfold F_proof_186 at hx
  refine r_iconst (v := nI 0) dX12_proof_186 (by decide) ?_
  refine r_istore_6 dX12_proof_187 (by decide) rfl ?_
  exact rX.cutz (c_proof_189 hG hX0 hX1 hrec ok hx) ⟨rfl, rfl, rfl, rfl, rfl, rfl, trivial⟩
def F_proof_180 (N : Nat) (rec : Int32 → Int32 → Int32 → Int32 → Int32 → rS → Nat × Int32 × Int32 × Int32 × Int32 × rS) (x1 : Int32) (x3 : Int32) (x4 : Int32) (x5 : Int32) (x6 : Int32) (S : rS) : Nat × Int32 × Int32 × Int32 × Int32 × rS := (rec x1 x3 x4 x5 (x6 + nI 1) S)
def O_proof_180 (N : Nat) (rok : Int32 → Int32 → Int32 → Int32 → Int32 → rS → Prop) (x1 : Int32) (x3 : Int32) (x4 : Int32) (x5 : Int32) (x6 : Int32) (S : rS) : Prop := rok x1 x3 x4 x5 (x6 + nI 1) S
set_option maxHeartbeats 4000000 in
theorem b_proof_180 {G : zG} {E : rE} {S : rS} {N : Nat} {Q : Option Value → rS → Prop} {X : Nat × Int32 × Int32 × Int32 × Int32 × rS → Prop} (hG : zOK G) (hX0 : ∀ (x1 : Int32) (x3 : Int32) (x4 : Int32) (x5 : Int32) (S' : rS), X (0, x1, x3, x4, x5, S') → rX G E dX12_proof mX12_proof 186 [some (.ref E.1), some (.int x1), none, some (.int x3), some (.int x4), some (.int x5), none] [] S' Q) {rec : Int32 → Int32 → Int32 → Int32 → Int32 → rS → Nat × Int32 × Int32 × Int32 × Int32 × rS} {rok : Int32 → Int32 → Int32 → Int32 → Int32 → rS → Prop} (hrec : ∀ (x1 : Int32) (x3 : Int32) (x4 : Int32) (x5 : Int32) (x6 : Int32) (S : rS), rok x1 x3 x4 x5 x6 S → X (rec x1 x3 x4 x5 x6 S) → rX G E dX12_proof mX12_proof 163 [some (.ref E.1), some (.int x1), none, some (.int x3), some (.int x4), some (.int x5), some (.int x6)] [] S Q) {x1 : Int32} {x3 : Int32} {x4 : Int32} {x5 : Int32} {x6 : Int32} (ok : O_proof_180 N rok x1 x3 x4 x5 x6 S) (hx : X (F_proof_180 N rec x1 x3 x4 x5 x6 S)) : rX G E dX12_proof mX12_proof 180 [some (.ref E.1), some (.int x1), none, some (.int x3), some (.int x4), some (.int x5), some (.int x6)] [] S Q := by
  unfold O_proof_180 at ok
  unfold F_proof_180 at hx
  refine r_iinc_6 (v := (x6 + nI 1)) dX12_proof_180 rfl (by first | rfl | (congr 1)) (by decide) rfl ?_
  refine r_goto (tgt := 163) dX12_proof_183 (by decide) ?_
  exact rX.cutz (hrec _ _ _ _ _ S ok hx) ⟨rfl, rfl, rfl, rfl, rfl, rfl, trivial⟩
def B_proof_163 (N : Nat) (rec : Int32 → Int32 → Int32 → Int32 → Int32 → rS → Nat × Int32 × Int32 × Int32 × Int32 × rS) (x1 : Int32) (x3 : Int32) (x4 : Int32) (x5 : Int32) (x6 : Int32) (S : rS) : Nat × Int32 × Int32 × Int32 × Int32 × rS := (if (nI 32) ≤ x6 then (0, x1, x3, x4, x5, S) else (F_proof_180 N rec x1 x3 x4 x5 x6 (f_hashByte N S (f_rootByte N S x6))))
def OB_proof_163 (N : Nat) (rok : Int32 → Int32 → Int32 → Int32 → Int32 → rS → Prop) (x1 : Int32) (x3 : Int32) (x4 : Int32) (x5 : Int32) (x6 : Int32) (S : rS) : Prop := (((nI 32) ≤ x6 → True) ∧ (¬ (nI 32) ≤ x6 → (o_rootByte N S x6) ∧ (o_hashByte N S (f_rootByte N S x6)) ∧ O_proof_180 N rok x1 x3 x4 x5 x6 (f_hashByte N S (f_rootByte N S x6))))
set_option maxHeartbeats 4000000 in
theorem bb_proof_163 {G : zG} {E : rE} {S : rS} {N : Nat} {Q : Option Value → rS → Prop} {X : Nat × Int32 × Int32 × Int32 × Int32 × rS → Prop} (hG : zOK G) (hX0 : ∀ (x1 : Int32) (x3 : Int32) (x4 : Int32) (x5 : Int32) (S' : rS), X (0, x1, x3, x4, x5, S') → rX G E dX12_proof mX12_proof 186 [some (.ref E.1), some (.int x1), none, some (.int x3), some (.int x4), some (.int x5), none] [] S' Q) {rec : Int32 → Int32 → Int32 → Int32 → Int32 → rS → Nat × Int32 × Int32 × Int32 × Int32 × rS} {rok : Int32 → Int32 → Int32 → Int32 → Int32 → rS → Prop} (hrec : ∀ (x1 : Int32) (x3 : Int32) (x4 : Int32) (x5 : Int32) (x6 : Int32) (S : rS), rok x1 x3 x4 x5 x6 S → X (rec x1 x3 x4 x5 x6 S) → rX G E dX12_proof mX12_proof 163 [some (.ref E.1), some (.int x1), none, some (.int x3), some (.int x4), some (.int x5), some (.int x6)] [] S Q) {x1 : Int32} {x3 : Int32} {x4 : Int32} {x5 : Int32} {x6 : Int32} (ok : OB_proof_163 N rok x1 x3 x4 x5 x6 S) (hx : X (B_proof_163 N rec x1 x3 x4 x5 x6 S)) : rX G E dX12_proof mX12_proof 163 [some (.ref E.1), some (.int x1), none, some (.int x3), some (.int x4), some (.int x5), some (.int x6)] [] S Q := by
  unfold OB_proof_163 at ok
  unfold B_proof_163 at hx
  refine r_iload dX12_proof_163 rfl ?_
  refine r_bipush (v := nI 32) dX12_proof_165 (by decide) ?_
  refine r_icmp_ge (tgt := 186) dX12_proof_167 (by decide) (fun c_167 => ?_) (fun c_167 => ?_)
  · have ok := ok.1 c_167
    have hx := xif_p c_167 hx
    exact rX.cutz (hX0 _ _ _ _ S hx) ⟨rfl, rfl, rfl, rfl, rfl, trivial⟩
  · have ok := ok.2 c_167
    have hx := xif_n c_167 hx
    refine r_aload_n dX12_proof_170 rfl rfl ?_
    refine r_aload_n dX12_proof_171 rfl rfl ?_
    refine r_iload dX12_proof_172 rfl ?_
    refine r_V1i (y' := mX12_rootByte) dX12_proof_174 lX12_152 kX12_rootByte ⟨by decide, by decide⟩ rfl (Nat.le_of_ble_eq_true rfl) (rc_X12_rootByte hG ok.1) (fun v_174 S_174 h_174 => ?_)
    obtain ⟨rfl, hS_174⟩ := h_174
    have hS_174 := hS_174.symm
    subst hS_174
    have ok := ok.2
    refine r_V1v (y' := mX12_hashByte) dX12_proof_177 lX12_29 kX12_hashByte ⟨by decide, by decide⟩ rfl (Nat.le_of_ble_eq_true rfl) (rc_X12_hashByte hG ok.1) (fun S_177 h_177 => ?_)
    subst h_177
    have ok := ok.2
    exact rX.cutz (b_proof_180 hG hX0 hrec ok hx) ⟨rfl, rfl, rfl, rfl, rfl, rfl, trivial⟩
def L_proof_163 (N : Nat) : Nat → Int32 → Int32 → Int32 → Int32 → Int32 → rS → Nat × Int32 × Int32 × Int32 × Int32 × rS
  | 0, x1, x3, x4, x5, x6, S => (0, 0, 0, 0, 0, S)
  | n + 1, x1, x3, x4, x5, x6, S => B_proof_163 N (L_proof_163 N n) x1 x3 x4 x5 x6 S
def OL_proof_163 (N : Nat) : Nat → Int32 → Int32 → Int32 → Int32 → Int32 → rS → Prop
  | 0, _, _, _, _, _, _ => False
  | n + 1, x1, x3, x4, x5, x6, S => OB_proof_163 N (OL_proof_163 N n) x1 x3 x4 x5 x6 S
set_option maxHeartbeats 4000000 in
theorem l_proof_163 {G : zG} {E : rE} {N : Nat} {Q : Option Value → rS → Prop} {X : Nat × Int32 × Int32 × Int32 × Int32 × rS → Prop} (hG : zOK G) (hX0 : ∀ (x1 : Int32) (x3 : Int32) (x4 : Int32) (x5 : Int32) (S' : rS), X (0, x1, x3, x4, x5, S') → rX G E dX12_proof mX12_proof 186 [some (.ref E.1), some (.int x1), none, some (.int x3), some (.int x4), some (.int x5), none] [] S' Q) : ∀ (n : Nat) (x1 : Int32) (x3 : Int32) (x4 : Int32) (x5 : Int32) (x6 : Int32) (S : rS), OL_proof_163 N n x1 x3 x4 x5 x6 S → X (L_proof_163 N n x1 x3 x4 x5 x6 S) → rX G E dX12_proof mX12_proof 163 [some (.ref E.1), some (.int x1), none, some (.int x3), some (.int x4), some (.int x5), some (.int x6)] [] S Q := by
  intro n
  induction n with
  | zero => intro x1 x3 x4 x5 x6 S ok; exact absurd ok id
  | succ n ih =>
    intro x1 x3 x4 x5 x6 S ok hx
    exact bb_proof_163 hG hX0 (rec := L_proof_163 N n) (rok := OL_proof_163 N n) (fun x1 x3 x4 x5 x6 S ok hx => ih x1 x3 x4 x5 x6 S ok hx) ok hx
def A_proof_163 (N : Nat) (rec : Int32 → Int32 → Int32 → rS → Nat × Int32 × rS) (x1 : Int32) (x3 : Int32) (x4 : Int32) (x5 : Int32) (x6 : Int32) (S : rS) (z : Nat × Int32 × Int32 × Int32 × Int32 × rS) : Nat × Int32 × rS := (F_proof_186 N rec (z.2.1) (z.2.2.1) (z.2.2.2.1) (z.2.2.2.2.1) z.2.2.2.2.2)
def OA_proof_163 (N : Nat) (rok : Int32 → Int32 → Int32 → rS → Prop) (x1 : Int32) (x3 : Int32) (x4 : Int32) (x5 : Int32) (x6 : Int32) (S : rS) (z : Nat × Int32 × Int32 × Int32 × Int32 × rS) : Prop := O_proof_186 N rok (z.2.1) (z.2.2.1) (z.2.2.2.1) (z.2.2.2.2.1) z.2.2.2.2.2
set_option maxHeartbeats 4000000 in
theorem c_proof_163 {G : zG} {E : rE} {S : rS} {N : Nat} {Q : Option Value → rS → Prop} {X : Nat × Int32 × rS → Prop} (hG : zOK G) (hX0 : ∀ (x1 : Int32) (S' : rS), X (0, x1, S') → rX G E dX12_proof mX12_proof 110 [none, none, none, none, none, none, none] [] S' Q) (hX1 : ∀ (x1 : Int32) (S' : rS), X (1, x1, S') → rX G E dX12_proof mX12_proof 256 [some (.ref E.1), some (.int x1), none, none, none, none, none] [] S' Q) {rec : Int32 → Int32 → Int32 → rS → Nat × Int32 × rS} {rok : Int32 → Int32 → Int32 → rS → Prop} (hrec : ∀ (x1 : Int32) (x3 : Int32) (x4 : Int32) (S : rS), rok x1 x3 x4 S → X (rec x1 x3 x4 S) → rX G E dX12_proof mX12_proof 75 [some (.ref E.1), some (.int x1), none, some (.int x3), some (.int x4), none, none] [] S Q) {x1 : Int32} {x3 : Int32} {x4 : Int32} {x5 : Int32} {x6 : Int32} (ok : OL_proof_163 N N x1 x3 x4 x5 x6 S ∧ OA_proof_163 N rok x1 x3 x4 x5 x6 S (L_proof_163 N N x1 x3 x4 x5 x6 S)) (hx : X (A_proof_163 N rec x1 x3 x4 x5 x6 S (L_proof_163 N N x1 x3 x4 x5 x6 S))) : rX G E dX12_proof mX12_proof 163 [some (.ref E.1), some (.int x1), none, some (.int x3), some (.int x4), some (.int x5), some (.int x6)] [] S Q := by
  refine l_proof_163 hG ?_ N x1 x3 x4 x5 x6 S ok.1 (X := fun z => OA_proof_163 N rok x1 x3 x4 x5 x6 S z ∧ X (A_proof_163 N rec x1 x3 x4 x5 x6 S z)) ⟨ok.2, hx⟩
  · intro x1' x3' x4' x5' S' hz
    obtain ⟨ok, hx⟩ := hz
    unfold OA_proof_163 at ok
    unfold A_proof_163 at hx
    exact rX.cutz (b_proof_186 hG hX0 hX1 hrec ok hx) ⟨rfl, rfl, rfl, rfl, rfl, trivial⟩
def F_proof_160 (N : Nat) (rec : Int32 → Int32 → Int32 → rS → Nat × Int32 × rS) (x1 : Int32) (x3 : Int32) (x4 : Int32) (x5 : Int32) (S : rS) : Nat × Int32 × rS := (A_proof_163 N rec x1 x3 x4 x5 (nI 0) S (L_proof_163 N N x1 x3 x4 x5 (nI 0) S))
def O_proof_160 (N : Nat) (rok : Int32 → Int32 → Int32 → rS → Prop) (x1 : Int32) (x3 : Int32) (x4 : Int32) (x5 : Int32) (S : rS) : Prop := (OL_proof_163 N N x1 x3 x4 x5 (nI 0) S ∧ OA_proof_163 N rok x1 x3 x4 x5 (nI 0) S (L_proof_163 N N x1 x3 x4 x5 (nI 0) S))
set_option maxHeartbeats 4000000 in
theorem b_proof_160 {G : zG} {E : rE} {S : rS} {N : Nat} {Q : Option Value → rS → Prop} {X : Nat × Int32 × rS → Prop} (hG : zOK G) (hX0 : ∀ (x1 : Int32) (S' : rS), X (0, x1, S') → rX G E dX12_proof mX12_proof 110 [none, none, none, none, none, none, none] [] S' Q) (hX1 : ∀ (x1 : Int32) (S' : rS), X (1, x1, S') → rX G E dX12_proof mX12_proof 256 [some (.ref E.1), some (.int x1), none, none, none, none, none] [] S' Q) {rec : Int32 → Int32 → Int32 → rS → Nat × Int32 × rS} {rok : Int32 → Int32 → Int32 → rS → Prop} (hrec : ∀ (x1 : Int32) (x3 : Int32) (x4 : Int32) (S : rS), rok x1 x3 x4 S → X (rec x1 x3 x4 S) → rX G E dX12_proof mX12_proof 75 [some (.ref E.1), some (.int x1), none, some (.int x3), some (.int x4), none, none] [] S Q) {x1 : Int32} {x3 : Int32} {x4 : Int32} {x5 : Int32} (ok : O_proof_160 N rok x1 x3 x4 x5 S) (hx : X (F_proof_160 N rec x1 x3 x4 x5 S)) : rX G E dX12_proof mX12_proof 160 [some (.ref E.1), some (.int x1), none, some (.int x3), some (.int x4), some (.int x5), none] [] S Q := by
  unfold O_proof_160 at ok
  unfold F_proof_160 at hx
  refine r_iconst (v := nI 0) dX12_proof_160 (by decide) ?_
  refine r_istore_6 dX12_proof_161 (by decide) rfl ?_
  exact rX.cutz (c_proof_163 hG hX0 hX1 hrec ok hx) ⟨rfl, rfl, rfl, rfl, rfl, rfl, trivial⟩
def F_proof_154 (N : Nat) (rec : Int32 → Int32 → Int32 → Int32 → Int32 → rS → Nat × Int32 × Int32 × Int32 × Int32 × rS) (x1 : Int32) (x3 : Int32) (x4 : Int32) (x5 : Int32) (x6 : Int32) (S : rS) : Nat × Int32 × Int32 × Int32 × Int32 × rS := (rec x1 x3 x4 x5 (x6 + nI 1) S)
def O_proof_154 (N : Nat) (rok : Int32 → Int32 → Int32 → Int32 → Int32 → rS → Prop) (x1 : Int32) (x3 : Int32) (x4 : Int32) (x5 : Int32) (x6 : Int32) (S : rS) : Prop := rok x1 x3 x4 x5 (x6 + nI 1) S
set_option maxHeartbeats 4000000 in
theorem b_proof_154 {G : zG} {E : rE} {S : rS} {N : Nat} {Q : Option Value → rS → Prop} {X : Nat × Int32 × Int32 × Int32 × Int32 × rS → Prop} (hG : zOK G) (hX0 : ∀ (x1 : Int32) (x3 : Int32) (x4 : Int32) (x5 : Int32) (S' : rS), X (0, x1, x3, x4, x5, S') → rX G E dX12_proof mX12_proof 160 [some (.ref E.1), some (.int x1), none, some (.int x3), some (.int x4), some (.int x5), none] [] S' Q) {rec : Int32 → Int32 → Int32 → Int32 → Int32 → rS → Nat × Int32 × Int32 × Int32 × Int32 × rS} {rok : Int32 → Int32 → Int32 → Int32 → Int32 → rS → Prop} (hrec : ∀ (x1 : Int32) (x3 : Int32) (x4 : Int32) (x5 : Int32) (x6 : Int32) (S : rS), rok x1 x3 x4 x5 x6 S → X (rec x1 x3 x4 x5 x6 S) → rX G E dX12_proof mX12_proof 125 [some (.ref E.1), some (.int x1), none, some (.int x3), some (.int x4), some (.int x5), some (.int x6)] [] S Q) {x1 : Int32} {x3 : Int32} {x4 : Int32} {x5 : Int32} {x6 : Int32} (ok : O_proof_154 N rok x1 x3 x4 x5 x6 S) (hx : X (F_proof_154 N rec x1 x3 x4 x5 x6 S)) : rX G E dX12_proof mX12_proof 154 [some (.ref E.1), some (.int x1), none, some (.int x3), some (.int x4), some (.int x5), some (.int x6)] [] S Q := by
  unfold O_proof_154 at ok
  unfold F_proof_154 at hx
  refine r_iinc_6 (v := (x6 + nI 1)) dX12_proof_154 rfl (by first | rfl | (congr 1)) (by decide) rfl ?_
  refine r_goto (tgt := 125) dX12_proof_157 (by decide) ?_
  exact rX.cutz (hrec _ _ _ _ _ S ok hx) ⟨rfl, rfl, rfl, rfl, rfl, rfl, trivial⟩
def B_proof_125 (N : Nat) (rec : Int32 → Int32 → Int32 → Int32 → Int32 → rS → Nat × Int32 × Int32 × Int32 × Int32 × rS) (x1 : Int32) (x3 : Int32) (x4 : Int32) (x5 : Int32) (x6 : Int32) (S : rS) : Nat × Int32 × Int32 × Int32 × Int32 × rS := (if x5 = (nI 1) then (if (nI 32) ≤ x6 then (0, x1, x3, x4, x5, S) else (F_proof_154 N rec x1 x3 x4 x5 x6 (f_hashByte N S (S.2.1 21 ((x4 + (nI 1)) + x6).toNatClampNeg)))) else (0, x1, x3, x4, x5, S))
def OB_proof_125 (N : Nat) (rok : Int32 → Int32 → Int32 → Int32 → Int32 → rS → Prop) (x1 : Int32) (x3 : Int32) (x4 : Int32) (x5 : Int32) (x6 : Int32) (S : rS) : Prop := ((x5 = (nI 1) → (((nI 32) ≤ x6 → True) ∧ (¬ (nI 32) ≤ x6 → (vp_in ((x4 + (nI 1)) + x6) 1000) ∧ (o_hashByte N S (S.2.1 21 ((x4 + (nI 1)) + x6).toNatClampNeg)) ∧ O_proof_154 N rok x1 x3 x4 x5 x6 (f_hashByte N S (S.2.1 21 ((x4 + (nI 1)) + x6).toNatClampNeg))))) ∧ (¬ x5 = (nI 1) → True))
set_option maxHeartbeats 4000000 in
theorem bb_proof_125 {G : zG} {E : rE} {S : rS} {N : Nat} {Q : Option Value → rS → Prop} {X : Nat × Int32 × Int32 × Int32 × Int32 × rS → Prop} (hG : zOK G) (hX0 : ∀ (x1 : Int32) (x3 : Int32) (x4 : Int32) (x5 : Int32) (S' : rS), X (0, x1, x3, x4, x5, S') → rX G E dX12_proof mX12_proof 160 [some (.ref E.1), some (.int x1), none, some (.int x3), some (.int x4), some (.int x5), none] [] S' Q) {rec : Int32 → Int32 → Int32 → Int32 → Int32 → rS → Nat × Int32 × Int32 × Int32 × Int32 × rS} {rok : Int32 → Int32 → Int32 → Int32 → Int32 → rS → Prop} (hrec : ∀ (x1 : Int32) (x3 : Int32) (x4 : Int32) (x5 : Int32) (x6 : Int32) (S : rS), rok x1 x3 x4 x5 x6 S → X (rec x1 x3 x4 x5 x6 S) → rX G E dX12_proof mX12_proof 125 [some (.ref E.1), some (.int x1), none, some (.int x3), some (.int x4), some (.int x5), some (.int x6)] [] S Q) {x1 : Int32} {x3 : Int32} {x4 : Int32} {x5 : Int32} {x6 : Int32} (ok : OB_proof_125 N rok x1 x3 x4 x5 x6 S) (hx : X (B_proof_125 N rec x1 x3 x4 x5 x6 S)) : rX G E dX12_proof mX12_proof 125 [some (.ref E.1), some (.int x1), none, some (.int x3), some (.int x4), some (.int x5), some (.int x6)] [] S Q := by
  unfold OB_proof_125 at ok
  unfold B_proof_125 at hx
  refine r_iload dX12_proof_125 rfl ?_
  refine r_iconst (v := nI 1) dX12_proof_127 (by decide) ?_
  refine r_icmp_ne (tgt := 160) dX12_proof_128 (by decide) (fun c_128 => ?_) (fun c_128 => ?_)
  · have ok := ok.2 c_128
    have hx := xif_n c_128 hx
    exact rX.cutz (hX0 _ _ _ _ S hx) ⟨rfl, rfl, rfl, rfl, rfl, trivial⟩
  · have ok := ok.1 c_128
    have hx := xif_p c_128 hx
    refine r_iload dX12_proof_131 rfl ?_
    refine r_bipush (v := nI 32) dX12_proof_133 (by decide) ?_
    refine r_icmp_ge (tgt := 160) dX12_proof_135 (by decide) (fun c_135 => ?_) (fun c_135 => ?_)
    · have ok := ok.1 c_135
      have hx := xif_p c_135 hx
      exact rX.cutz (hX0 _ _ _ _ S hx) ⟨rfl, rfl, rfl, rfl, rfl, trivial⟩
    · have ok := ok.2 c_135
      have hx := xif_n c_135 hx
      refine r_aload_n dX12_proof_138 rfl rfl ?_
      refine r_aload_n dX12_proof_139 rfl rfl ?_
      refine r_getA 21 fX12_130 (by decide) (by decide) dX12_proof_140 ?_
      refine r_iload dX12_proof_143 rfl ?_
      refine r_iconst (v := nI 1) dX12_proof_145 (by decide) ?_
      refine r_iadd dX12_proof_146 ?_
      refine r_iload dX12_proof_147 rfl ?_
      refine r_iadd dX12_proof_149 ?_
      refine r_iald (by decide) (by decide) dX12_proof_150 ok.1 ?_
      have ok := ok.2
      refine r_V1v (y' := mX12_hashByte) dX12_proof_151 lX12_29 kX12_hashByte ⟨by decide, by decide⟩ rfl (Nat.le_of_ble_eq_true rfl) (rc_X12_hashByte hG ok.1) (fun S_151 h_151 => ?_)
      subst h_151
      have ok := ok.2
      exact rX.cutz (b_proof_154 hG hX0 hrec ok hx) ⟨rfl, rfl, rfl, rfl, rfl, rfl, trivial⟩
def L_proof_125 (N : Nat) : Nat → Int32 → Int32 → Int32 → Int32 → Int32 → rS → Nat × Int32 × Int32 × Int32 × Int32 × rS
  | 0, x1, x3, x4, x5, x6, S => (0, 0, 0, 0, 0, S)
  | n + 1, x1, x3, x4, x5, x6, S => B_proof_125 N (L_proof_125 N n) x1 x3 x4 x5 x6 S
def OL_proof_125 (N : Nat) : Nat → Int32 → Int32 → Int32 → Int32 → Int32 → rS → Prop
  | 0, _, _, _, _, _, _ => False
  | n + 1, x1, x3, x4, x5, x6, S => OB_proof_125 N (OL_proof_125 N n) x1 x3 x4 x5 x6 S
set_option maxHeartbeats 4000000 in
theorem l_proof_125 {G : zG} {E : rE} {N : Nat} {Q : Option Value → rS → Prop} {X : Nat × Int32 × Int32 × Int32 × Int32 × rS → Prop} (hG : zOK G) (hX0 : ∀ (x1 : Int32) (x3 : Int32) (x4 : Int32) (x5 : Int32) (S' : rS), X (0, x1, x3, x4, x5, S') → rX G E dX12_proof mX12_proof 160 [some (.ref E.1), some (.int x1), none, some (.int x3), some (.int x4), some (.int x5), none] [] S' Q) : ∀ (n : Nat) (x1 : Int32) (x3 : Int32) (x4 : Int32) (x5 : Int32) (x6 : Int32) (S : rS), OL_proof_125 N n x1 x3 x4 x5 x6 S → X (L_proof_125 N n x1 x3 x4 x5 x6 S) → rX G E dX12_proof mX12_proof 125 [some (.ref E.1), some (.int x1), none, some (.int x3), some (.int x4), some (.int x5), some (.int x6)] [] S Q := by
  intro n
  induction n with
  | zero => intro x1 x3 x4 x5 x6 S ok; exact absurd ok id
  | succ n ih =>
    intro x1 x3 x4 x5 x6 S ok hx
    exact bb_proof_125 hG hX0 (rec := L_proof_125 N n) (rok := OL_proof_125 N n) (fun x1 x3 x4 x5 x6 S ok hx => ih x1 x3 x4 x5 x6 S ok hx) ok hx
def A_proof_125 (N : Nat) (rec : Int32 → Int32 → Int32 → rS → Nat × Int32 × rS) (x1 : Int32) (x3 : Int32) (x4 : Int32) (x5 : Int32) (x6 : Int32) (S : rS) (z : Nat × Int32 × Int32 × Int32 × Int32 × rS) : Nat × Int32 × rS := (F_proof_160 N rec (z.2.1) (z.2.2.1) (z.2.2.2.1) (z.2.2.2.2.1) z.2.2.2.2.2)
def OA_proof_125 (N : Nat) (rok : Int32 → Int32 → Int32 → rS → Prop) (x1 : Int32) (x3 : Int32) (x4 : Int32) (x5 : Int32) (x6 : Int32) (S : rS) (z : Nat × Int32 × Int32 × Int32 × Int32 × rS) : Prop := O_proof_160 N rok (z.2.1) (z.2.2.1) (z.2.2.2.1) (z.2.2.2.2.1) z.2.2.2.2.2
set_option maxHeartbeats 4000000 in
theorem c_proof_125 {G : zG} {E : rE} {S : rS} {N : Nat} {Q : Option Value → rS → Prop} {X : Nat × Int32 × rS → Prop} (hG : zOK G) (hX0 : ∀ (x1 : Int32) (S' : rS), X (0, x1, S') → rX G E dX12_proof mX12_proof 110 [none, none, none, none, none, none, none] [] S' Q) (hX1 : ∀ (x1 : Int32) (S' : rS), X (1, x1, S') → rX G E dX12_proof mX12_proof 256 [some (.ref E.1), some (.int x1), none, none, none, none, none] [] S' Q) {rec : Int32 → Int32 → Int32 → rS → Nat × Int32 × rS} {rok : Int32 → Int32 → Int32 → rS → Prop} (hrec : ∀ (x1 : Int32) (x3 : Int32) (x4 : Int32) (S : rS), rok x1 x3 x4 S → X (rec x1 x3 x4 S) → rX G E dX12_proof mX12_proof 75 [some (.ref E.1), some (.int x1), none, some (.int x3), some (.int x4), none, none] [] S Q) {x1 : Int32} {x3 : Int32} {x4 : Int32} {x5 : Int32} {x6 : Int32} (ok : OL_proof_125 N N x1 x3 x4 x5 x6 S ∧ OA_proof_125 N rok x1 x3 x4 x5 x6 S (L_proof_125 N N x1 x3 x4 x5 x6 S)) (hx : X (A_proof_125 N rec x1 x3 x4 x5 x6 S (L_proof_125 N N x1 x3 x4 x5 x6 S))) : rX G E dX12_proof mX12_proof 125 [some (.ref E.1), some (.int x1), none, some (.int x3), some (.int x4), some (.int x5), some (.int x6)] [] S Q := by
  refine l_proof_125 hG ?_ N x1 x3 x4 x5 x6 S ok.1 (X := fun z => OA_proof_125 N rok x1 x3 x4 x5 x6 S z ∧ X (A_proof_125 N rec x1 x3 x4 x5 x6 S z)) ⟨ok.2, hx⟩
  · intro x1' x3' x4' x5' S' hz
    obtain ⟨ok, hx⟩ := hz
    unfold OA_proof_125 at ok
    unfold A_proof_125 at hx
    exact rX.cutz (b_proof_160 hG hX0 hX1 hrec ok hx) ⟨rfl, rfl, rfl, rfl, rfl, trivial⟩
def F_proof_122 (N : Nat) (rec : Int32 → Int32 → Int32 → rS → Nat × Int32 × rS) (x1 : Int32) (x3 : Int32) (x4 : Int32) (x5 : Int32) (S : rS) : Nat × Int32 × rS := (A_proof_125 N rec x1 x3 x4 x5 (nI 0) S (L_proof_125 N N x1 x3 x4 x5 (nI 0) S))
def O_proof_122 (N : Nat) (rok : Int32 → Int32 → Int32 → rS → Prop) (x1 : Int32) (x3 : Int32) (x4 : Int32) (x5 : Int32) (S : rS) : Prop := (OL_proof_125 N N x1 x3 x4 x5 (nI 0) S ∧ OA_proof_125 N rok x1 x3 x4 x5 (nI 0) S (L_proof_125 N N x1 x3 x4 x5 (nI 0) S))
set_option maxHeartbeats 4000000 in
theorem b_proof_122 {G : zG} {E : rE} {S : rS} {N : Nat} {Q : Option Value → rS → Prop} {X : Nat × Int32 × rS → Prop} (hG : zOK G) (hX0 : ∀ (x1 : Int32) (S' : rS), X (0, x1, S') → rX G E dX12_proof mX12_proof 110 [none, none, none, none, none, none, none] [] S' Q) (hX1 : ∀ (x1 : Int32) (S' : rS), X (1, x1, S') → rX G E dX12_proof mX12_proof 256 [some (.ref E.1), some (.int x1), none, none, none, none, none] [] S' Q) {rec : Int32 → Int32 → Int32 → rS → Nat × Int32 × rS} {rok : Int32 → Int32 → Int32 → rS → Prop} (hrec : ∀ (x1 : Int32) (x3 : Int32) (x4 : Int32) (S : rS), rok x1 x3 x4 S → X (rec x1 x3 x4 S) → rX G E dX12_proof mX12_proof 75 [some (.ref E.1), some (.int x1), none, some (.int x3), some (.int x4), none, none] [] S Q) {x1 : Int32} {x3 : Int32} {x4 : Int32} {x5 : Int32} (ok : O_proof_122 N rok x1 x3 x4 x5 S) (hx : X (F_proof_122 N rec x1 x3 x4 x5 S)) : rX G E dX12_proof mX12_proof 122 [some (.ref E.1), some (.int x1), none, some (.int x3), some (.int x4), some (.int x5), none] [] S Q := by
  unfold O_proof_122 at ok
  unfold F_proof_122 at hx
  refine r_iconst (v := nI 0) dX12_proof_122 (by decide) ?_
  refine r_istore_6 dX12_proof_123 (by decide) rfl ?_
  exact rX.cutz (c_proof_125 hG hX0 hX1 hrec ok hx) ⟨rfl, rfl, rfl, rfl, rfl, rfl, trivial⟩
def F_proof_112 (N : Nat) (rec : Int32 → Int32 → Int32 → rS → Nat × Int32 × rS) (x1 : Int32) (x3 : Int32) (x4 : Int32) (x5 : Int32) (S : rS) : Nat × Int32 × rS := (F_proof_122 N rec x1 x3 x4 x5 (f_hashByte N (rsI S 7 (nI 0)) (nI 1)))
def O_proof_112 (N : Nat) (rok : Int32 → Int32 → Int32 → rS → Prop) (x1 : Int32) (x3 : Int32) (x4 : Int32) (x5 : Int32) (S : rS) : Prop := (o_hashByte N (rsI S 7 (nI 0)) (nI 1)) ∧ O_proof_122 N rok x1 x3 x4 x5 (f_hashByte N (rsI S 7 (nI 0)) (nI 1))
set_option maxHeartbeats 4000000 in
theorem b_proof_112 {G : zG} {E : rE} {S : rS} {N : Nat} {Q : Option Value → rS → Prop} {X : Nat × Int32 × rS → Prop} (hG : zOK G) (hX0 : ∀ (x1 : Int32) (S' : rS), X (0, x1, S') → rX G E dX12_proof mX12_proof 110 [none, none, none, none, none, none, none] [] S' Q) (hX1 : ∀ (x1 : Int32) (S' : rS), X (1, x1, S') → rX G E dX12_proof mX12_proof 256 [some (.ref E.1), some (.int x1), none, none, none, none, none] [] S' Q) {rec : Int32 → Int32 → Int32 → rS → Nat × Int32 × rS} {rok : Int32 → Int32 → Int32 → rS → Prop} (hrec : ∀ (x1 : Int32) (x3 : Int32) (x4 : Int32) (S : rS), rok x1 x3 x4 S → X (rec x1 x3 x4 S) → rX G E dX12_proof mX12_proof 75 [some (.ref E.1), some (.int x1), none, some (.int x3), some (.int x4), none, none] [] S Q) {x1 : Int32} {x3 : Int32} {x4 : Int32} {x5 : Int32} (ok : O_proof_112 N rok x1 x3 x4 x5 S) (hx : X (F_proof_112 N rec x1 x3 x4 x5 S)) : rX G E dX12_proof mX12_proof 112 [some (.ref E.1), some (.int x1), none, some (.int x3), some (.int x4), some (.int x5), none] [] S Q := by
  unfold O_proof_112 at ok
  unfold F_proof_112 at hx
  refine r_aload_n dX12_proof_112 rfl rfl ?_
  refine r_iconst (v := nI 0) dX12_proof_113 (by decide) ?_
  refine r_putI 7 fX12_25 (by decide) (by decide) rfl rfl rfl dX12_proof_114 ?_
  refine r_aload_n dX12_proof_117 rfl rfl ?_
  refine r_iconst (v := nI 1) dX12_proof_118 (by decide) ?_
  refine r_V1v (y' := mX12_hashByte) dX12_proof_119 lX12_29 kX12_hashByte ⟨by decide, by decide⟩ rfl (Nat.le_of_ble_eq_true rfl) (rc_X12_hashByte hG ok.1) (fun S_119 h_119 => ?_)
  subst h_119
  have ok := ok.2
  exact rX.cutz (b_proof_122 hG hX0 hX1 hrec ok hx) ⟨rfl, rfl, rfl, rfl, rfl, trivial⟩
def F_proof_110 (N : Nat)  (S : rS) : Int32 × rS := ((nI 0), S)
def O_proof_110 (N : Nat)  (S : rS) : Prop := True
set_option maxHeartbeats 4000000 in
theorem b_proof_110 {G : zG} {E : rE} {S : rS} {N : Nat} {Q : Option Value → rS → Prop} {X : Int32 × rS → Prop} (hG : zOK G) (hR : ∀ v S', X (v, S') → Q (some (.int v)) S') (ok : O_proof_110 N S) (hx : X (F_proof_110 N S)) : rX G E dX12_proof mX12_proof 110 [none, none, none, none, none, none, none] [] S Q := by
  unfold O_proof_110 at ok
  unfold F_proof_110 at hx
  refine r_iconst (v := nI 0) dX12_proof_110 (by decide) ?_
  exact r_ireturn rfl rfl dX12_proof_111 (hR _ _ hx)
def B_proof_75 (N : Nat) (rec : Int32 → Int32 → Int32 → rS → Nat × Int32 × rS) (x1 : Int32) (x3 : Int32) (x4 : Int32) (S : rS) : Nat × Int32 × rS := (if x3 ≤ x4 then (1, x1, S) else (if (nI 2) < (S.2.1 21 x4.toNatClampNeg) then (0, 0, S) else (if (S.2.1 21 x4.toNatClampNeg) ≤ 0 then (F_proof_112 N rec x1 x3 x4 (S.2.1 21 x4.toNatClampNeg) S) else (if (x4 + (nI 33)) ≤ x3 then (F_proof_112 N rec x1 x3 x4 (S.2.1 21 x4.toNatClampNeg) S) else (0, 0, S)))))
def OB_proof_75 (N : Nat) (rok : Int32 → Int32 → Int32 → rS → Prop) (x1 : Int32) (x3 : Int32) (x4 : Int32) (S : rS) : Prop := ((x3 ≤ x4 → True) ∧ (¬ x3 ≤ x4 → (vp_in x4 1000) ∧ (((nI 2) < (S.2.1 21 x4.toNatClampNeg) → True) ∧ (¬ (nI 2) < (S.2.1 21 x4.toNatClampNeg) → (((S.2.1 21 x4.toNatClampNeg) ≤ 0 → O_proof_112 N rok x1 x3 x4 (S.2.1 21 x4.toNatClampNeg) S) ∧ (¬ (S.2.1 21 x4.toNatClampNeg) ≤ 0 → (((x4 + (nI 33)) ≤ x3 → O_proof_112 N rok x1 x3 x4 (S.2.1 21 x4.toNatClampNeg) S) ∧ (¬ (x4 + (nI 33)) ≤ x3 → True))))))))
set_option maxHeartbeats 4000000 in
theorem bb_proof_75 {G : zG} {E : rE} {S : rS} {N : Nat} {Q : Option Value → rS → Prop} {X : Nat × Int32 × rS → Prop} (hG : zOK G) (hX0 : ∀ (x1 : Int32) (S' : rS), X (0, x1, S') → rX G E dX12_proof mX12_proof 110 [none, none, none, none, none, none, none] [] S' Q) (hX1 : ∀ (x1 : Int32) (S' : rS), X (1, x1, S') → rX G E dX12_proof mX12_proof 256 [some (.ref E.1), some (.int x1), none, none, none, none, none] [] S' Q) {rec : Int32 → Int32 → Int32 → rS → Nat × Int32 × rS} {rok : Int32 → Int32 → Int32 → rS → Prop} (hrec : ∀ (x1 : Int32) (x3 : Int32) (x4 : Int32) (S : rS), rok x1 x3 x4 S → X (rec x1 x3 x4 S) → rX G E dX12_proof mX12_proof 75 [some (.ref E.1), some (.int x1), none, some (.int x3), some (.int x4), none, none] [] S Q) {x1 : Int32} {x3 : Int32} {x4 : Int32} (ok : OB_proof_75 N rok x1 x3 x4 S) (hx : X (B_proof_75 N rec x1 x3 x4 S)) : rX G E dX12_proof mX12_proof 75 [some (.ref E.1), some (.int x1), none, some (.int x3), some (.int x4), none, none] [] S Q := by
  unfold OB_proof_75 at ok
  unfold B_proof_75 at hx
  refine r_iload dX12_proof_75 rfl ?_
  refine r_iload_n dX12_proof_77 rfl rfl ?_
  refine r_icmp_ge (tgt := 256) dX12_proof_78 (by decide) (fun c_78 => ?_) (fun c_78 => ?_)
  · have ok := ok.1 c_78
    have hx := xif_p c_78 hx
    exact rX.cutz (hX1 _ S hx) ⟨rfl, rfl, trivial⟩
  · have ok := ok.2 c_78
    have hx := xif_n c_78 hx
    refine r_aload_n dX12_proof_81 rfl rfl ?_
    refine r_getA 21 fX12_130 (by decide) (by decide) dX12_proof_82 ?_
    refine r_iload dX12_proof_85 rfl ?_
    refine r_iald (by decide) (by decide) dX12_proof_87 ok.1 ?_
    have ok := ok.2
    refine r_istore_5 dX12_proof_88 (by decide) rfl ?_
    refine r_iload dX12_proof_90 rfl ?_
    refine r_iconst (v := nI 2) dX12_proof_92 (by decide) ?_
    refine r_icmp_gt (tgt := 110) dX12_proof_93 (by decide) (fun c_93 => ?_) (fun c_93 => ?_)
    · have ok := ok.1 c_93
      have hx := xif_p c_93 hx
      exact rX.cutz (hX0 _ S hx) trivial
    · have ok := ok.2 c_93
      have hx := xif_n c_93 hx
      refine r_iload dX12_proof_96 rfl ?_
      refine r_if_le (tgt := 112) dX12_proof_98 (by decide) (fun c_98 => ?_) (fun c_98 => ?_)
      · have ok := ok.1 c_98
        have hx := xif_p c_98 hx
        exact rX.cutz (b_proof_112 hG hX0 hX1 hrec ok hx) ⟨rfl, rfl, rfl, rfl, rfl, trivial⟩
      · have ok := ok.2 c_98
        have hx := xif_n c_98 hx
        refine r_iload dX12_proof_101 rfl ?_
        refine r_bipush (v := nI 33) dX12_proof_103 (by decide) ?_
        refine r_iadd dX12_proof_105 ?_
        refine r_iload_n dX12_proof_106 rfl rfl ?_
        refine r_icmp_le (tgt := 112) dX12_proof_107 (by decide) (fun c_107 => ?_) (fun c_107 => ?_)
        · have ok := ok.1 c_107
          have hx := xif_p c_107 hx
          exact rX.cutz (b_proof_112 hG hX0 hX1 hrec ok hx) ⟨rfl, rfl, rfl, rfl, rfl, trivial⟩
        · have ok := ok.2 c_107
          have hx := xif_n c_107 hx
          exact rX.cutz (hX0 _ S hx) trivial
def L_proof_75 (N : Nat) : Nat → Int32 → Int32 → Int32 → rS → Nat × Int32 × rS
  | 0, x1, x3, x4, S => (0, 0, S)
  | n + 1, x1, x3, x4, S => B_proof_75 N (L_proof_75 N n) x1 x3 x4 S
def OL_proof_75 (N : Nat) : Nat → Int32 → Int32 → Int32 → rS → Prop
  | 0, _, _, _, _ => False
  | n + 1, x1, x3, x4, S => OB_proof_75 N (OL_proof_75 N n) x1 x3 x4 S
set_option maxHeartbeats 4000000 in
theorem l_proof_75 {G : zG} {E : rE} {N : Nat} {Q : Option Value → rS → Prop} {X : Nat × Int32 × rS → Prop} (hG : zOK G) (hX0 : ∀ (x1 : Int32) (S' : rS), X (0, x1, S') → rX G E dX12_proof mX12_proof 110 [none, none, none, none, none, none, none] [] S' Q) (hX1 : ∀ (x1 : Int32) (S' : rS), X (1, x1, S') → rX G E dX12_proof mX12_proof 256 [some (.ref E.1), some (.int x1), none, none, none, none, none] [] S' Q) : ∀ (n : Nat) (x1 : Int32) (x3 : Int32) (x4 : Int32) (S : rS), OL_proof_75 N n x1 x3 x4 S → X (L_proof_75 N n x1 x3 x4 S) → rX G E dX12_proof mX12_proof 75 [some (.ref E.1), some (.int x1), none, some (.int x3), some (.int x4), none, none] [] S Q := by
  intro n
  induction n with
  | zero => intro x1 x3 x4 S ok; exact absurd ok id
  | succ n ih =>
    intro x1 x3 x4 S ok hx
    exact bb_proof_75 hG hX0 hX1 (rec := L_proof_75 N n) (rok := OL_proof_75 N n) (fun x1 x3 x4 S ok hx => ih x1 x3 x4 S ok hx) ok hx
def A_proof_75 (N : Nat) (x1 : Int32) (x3 : Int32) (x4 : Int32) (S : rS) (z : Nat × Int32 × rS) : Int32 × rS := (if z.1 = 0 then (F_proof_110 N z.2.2) else (F_proof_256 N (z.2.1) z.2.2))
def OA_proof_75 (N : Nat) (x1 : Int32) (x3 : Int32) (x4 : Int32) (S : rS) (z : Nat × Int32 × rS) : Prop := (if z.1 = 0 then O_proof_110 N z.2.2 else O_proof_256 N (z.2.1) z.2.2)
set_option maxHeartbeats 4000000 in
theorem c_proof_75 {G : zG} {E : rE} {S : rS} {N : Nat} {Q : Option Value → rS → Prop} {X : Int32 × rS → Prop} (hG : zOK G) (hR : ∀ v S', X (v, S') → Q (some (.int v)) S') {x1 : Int32} {x3 : Int32} {x4 : Int32} (ok : OL_proof_75 N N x1 x3 x4 S ∧ OA_proof_75 N x1 x3 x4 S (L_proof_75 N N x1 x3 x4 S)) (hx : X (A_proof_75 N x1 x3 x4 S (L_proof_75 N N x1 x3 x4 S))) : rX G E dX12_proof mX12_proof 75 [some (.ref E.1), some (.int x1), none, some (.int x3), some (.int x4), none, none] [] S Q := by
  refine l_proof_75 hG ?_ ?_ N x1 x3 x4 S ok.1 (X := fun z => OA_proof_75 N x1 x3 x4 S z ∧ X (A_proof_75 N x1 x3 x4 S z)) ⟨ok.2, hx⟩
  · intro x1' S' hz
    obtain ⟨ok, hx⟩ := hz
    unfold OA_proof_75 at ok
    unfold A_proof_75 at hx
    have ok := xif_P (show (0 : Nat) = 0 from rfl) ok
    have hx := xif_p (show (0 : Nat) = 0 from rfl) hx
    exact rX.cutz (b_proof_110 hG hR ok hx) trivial
  · intro x1' S' hz
    obtain ⟨ok, hx⟩ := hz
    unfold OA_proof_75 at ok
    unfold A_proof_75 at hx
    have ok := xif_N (show ¬ (1 : Nat) = 0 by decide) ok
    have hx := xif_n (show ¬ (1 : Nat) = 0 by decide) hx
    exact rX.cutz (b_proof_256 hG hR ok hx) ⟨rfl, rfl, trivial⟩
def F_proof_72 (N : Nat) (x1 : Int32) (x2 : Int32) (x3 : Int32) (S : rS) : Int32 × rS := (A_proof_75 N x1 x3 x2 S (L_proof_75 N N x1 x3 x2 S))
def O_proof_72 (N : Nat) (x1 : Int32) (x2 : Int32) (x3 : Int32) (S : rS) : Prop := (OL_proof_75 N N x1 x3 x2 S ∧ OA_proof_75 N x1 x3 x2 S (L_proof_75 N N x1 x3 x2 S))
set_option maxHeartbeats 4000000 in
theorem b_proof_72 {G : zG} {E : rE} {S : rS} {N : Nat} {Q : Option Value → rS → Prop} {X : Int32 × rS → Prop} (hG : zOK G) (hR : ∀ v S', X (v, S') → Q (some (.int v)) S') {x1 : Int32} {x2 : Int32} {x3 : Int32} (ok : O_proof_72 N x1 x2 x3 S) (hx : X (F_proof_72 N x1 x2 x3 S)) : rX G E dX12_proof mX12_proof 72 [some (.ref E.1), some (.int x1), some (.int x2), some (.int x3), none, none, none] [] S Q := by
  unfold O_proof_72 at ok
  unfold F_proof_72 at hx
  refine r_iload_n dX12_proof_72 rfl rfl ?_
  refine r_istore_4 dX12_proof_73 (by decide) rfl ?_
  exact rX.cutz (c_proof_75 hG hR ok hx) ⟨rfl, rfl, rfl, rfl, trivial⟩
def F_proof_67 (N : Nat) (x1 : Int32) (x2 : Int32) (x3 : Int32) (S : rS) : Int32 × rS := (F_proof_72 N x1 x2 x3 (f_keepLeaf N S (nI 0)))
def O_proof_67 (N : Nat) (x1 : Int32) (x2 : Int32) (x3 : Int32) (S : rS) : Prop := (o_keepLeaf N S (nI 0)) ∧ O_proof_72 N x1 x2 x3 (f_keepLeaf N S (nI 0))
set_option maxHeartbeats 4000000 in
theorem b_proof_67 {G : zG} {E : rE} {S : rS} {N : Nat} {Q : Option Value → rS → Prop} {X : Int32 × rS → Prop} (hG : zOK G) (hR : ∀ v S', X (v, S') → Q (some (.int v)) S') {x1 : Int32} {x2 : Int32} {x3 : Int32} (ok : O_proof_67 N x1 x2 x3 S) (hx : X (F_proof_67 N x1 x2 x3 S)) : rX G E dX12_proof mX12_proof 67 [some (.ref E.1), some (.int x1), some (.int x2), some (.int x3), none, none, none] [] S Q := by
  unfold O_proof_67 at ok
  unfold F_proof_67 at hx
  refine r_aload_n dX12_proof_67 rfl rfl ?_
  refine r_iconst (v := nI 0) dX12_proof_68 (by decide) ?_
  refine r_V1v (y' := mX12_keepLeaf) dX12_proof_69 lX12_94 kX12_keepLeaf ⟨by decide, by decide⟩ rfl (Nat.le_of_ble_eq_true rfl) (rc_X12_keepLeaf hG ok.1) (fun S_69 h_69 => ?_)
  subst h_69
  have ok := ok.2
  exact rX.cutz (b_proof_72 hG hR ok hx) ⟨rfl, rfl, rfl, rfl, trivial⟩
def F_proof_61 (N : Nat) (rec : Int32 → Int32 → Int32 → Int32 → rS → Nat × Int32 × Int32 × Int32 × rS) (x1 : Int32) (x2 : Int32) (x3 : Int32) (x4 : Int32) (S : rS) : Nat × Int32 × Int32 × Int32 × rS := (rec x1 x2 x3 (x4 + nI 1) S)
def O_proof_61 (N : Nat) (rok : Int32 → Int32 → Int32 → Int32 → rS → Prop) (x1 : Int32) (x2 : Int32) (x3 : Int32) (x4 : Int32) (S : rS) : Prop := rok x1 x2 x3 (x4 + nI 1) S
set_option maxHeartbeats 4000000 in
theorem b_proof_61 {G : zG} {E : rE} {S : rS} {N : Nat} {Q : Option Value → rS → Prop} {X : Nat × Int32 × Int32 × Int32 × rS → Prop} (hG : zOK G) (hX0 : ∀ (x1 : Int32) (x2 : Int32) (x3 : Int32) (S' : rS), X (0, x1, x2, x3, S') → rX G E dX12_proof mX12_proof 67 [some (.ref E.1), some (.int x1), some (.int x2), some (.int x3), none, none, none] [] S' Q) {rec : Int32 → Int32 → Int32 → Int32 → rS → Nat × Int32 × Int32 × Int32 × rS} {rok : Int32 → Int32 → Int32 → Int32 → rS → Prop} (hrec : ∀ (x1 : Int32) (x2 : Int32) (x3 : Int32) (x4 : Int32) (S : rS), rok x1 x2 x3 x4 S → X (rec x1 x2 x3 x4 S) → rX G E dX12_proof mX12_proof 44 [some (.ref E.1), some (.int x1), some (.int x2), some (.int x3), some (.int x4), none, none] [] S Q) {x1 : Int32} {x2 : Int32} {x3 : Int32} {x4 : Int32} (ok : O_proof_61 N rok x1 x2 x3 x4 S) (hx : X (F_proof_61 N rec x1 x2 x3 x4 S)) : rX G E dX12_proof mX12_proof 61 [some (.ref E.1), some (.int x1), some (.int x2), some (.int x3), some (.int x4), none, none] [] S Q := by
  unfold O_proof_61 at ok
  unfold F_proof_61 at hx
  refine r_iinc_4 (v := (x4 + nI 1)) dX12_proof_61 rfl (by first | rfl | (congr 1)) (by decide) rfl ?_
  refine r_goto (tgt := 44) dX12_proof_64 (by decide) ?_
  exact rX.cutz (hrec _ _ _ _ S ok hx) ⟨rfl, rfl, rfl, rfl, rfl, trivial⟩
def B_proof_44 (N : Nat) (rec : Int32 → Int32 → Int32 → Int32 → rS → Nat × Int32 × Int32 × Int32 × rS) (x1 : Int32) (x2 : Int32) (x3 : Int32) (x4 : Int32) (S : rS) : Nat × Int32 × Int32 × Int32 × rS := (if x2 ≤ x4 then (0, x1, x2, x3, S) else (F_proof_61 N rec x1 x2 x3 x4 (f_hashByte N S (S.2.1 21 x4.toNatClampNeg))))
def OB_proof_44 (N : Nat) (rok : Int32 → Int32 → Int32 → Int32 → rS → Prop) (x1 : Int32) (x2 : Int32) (x3 : Int32) (x4 : Int32) (S : rS) : Prop := ((x2 ≤ x4 → True) ∧ (¬ x2 ≤ x4 → (vp_in x4 1000) ∧ (o_hashByte N S (S.2.1 21 x4.toNatClampNeg)) ∧ O_proof_61 N rok x1 x2 x3 x4 (f_hashByte N S (S.2.1 21 x4.toNatClampNeg))))
set_option maxHeartbeats 4000000 in
theorem bb_proof_44 {G : zG} {E : rE} {S : rS} {N : Nat} {Q : Option Value → rS → Prop} {X : Nat × Int32 × Int32 × Int32 × rS → Prop} (hG : zOK G) (hX0 : ∀ (x1 : Int32) (x2 : Int32) (x3 : Int32) (S' : rS), X (0, x1, x2, x3, S') → rX G E dX12_proof mX12_proof 67 [some (.ref E.1), some (.int x1), some (.int x2), some (.int x3), none, none, none] [] S' Q) {rec : Int32 → Int32 → Int32 → Int32 → rS → Nat × Int32 × Int32 × Int32 × rS} {rok : Int32 → Int32 → Int32 → Int32 → rS → Prop} (hrec : ∀ (x1 : Int32) (x2 : Int32) (x3 : Int32) (x4 : Int32) (S : rS), rok x1 x2 x3 x4 S → X (rec x1 x2 x3 x4 S) → rX G E dX12_proof mX12_proof 44 [some (.ref E.1), some (.int x1), some (.int x2), some (.int x3), some (.int x4), none, none] [] S Q) {x1 : Int32} {x2 : Int32} {x3 : Int32} {x4 : Int32} (ok : OB_proof_44 N rok x1 x2 x3 x4 S) (hx : X (B_proof_44 N rec x1 x2 x3 x4 S)) : rX G E dX12_proof mX12_proof 44 [some (.ref E.1), some (.int x1), some (.int x2), some (.int x3), some (.int x4), none, none] [] S Q := by
  unfold OB_proof_44 at ok
  unfold B_proof_44 at hx
  refine r_iload dX12_proof_44 rfl ?_
  refine r_iload_n dX12_proof_46 rfl rfl ?_
  refine r_icmp_ge (tgt := 67) dX12_proof_47 (by decide) (fun c_47 => ?_) (fun c_47 => ?_)
  · have ok := ok.1 c_47
    have hx := xif_p c_47 hx
    exact rX.cutz (hX0 _ _ _ S hx) ⟨rfl, rfl, rfl, rfl, trivial⟩
  · have ok := ok.2 c_47
    have hx := xif_n c_47 hx
    refine r_aload_n dX12_proof_50 rfl rfl ?_
    refine r_aload_n dX12_proof_51 rfl rfl ?_
    refine r_getA 21 fX12_130 (by decide) (by decide) dX12_proof_52 ?_
    refine r_iload dX12_proof_55 rfl ?_
    refine r_iald (by decide) (by decide) dX12_proof_57 ok.1 ?_
    have ok := ok.2
    refine r_V1v (y' := mX12_hashByte) dX12_proof_58 lX12_29 kX12_hashByte ⟨by decide, by decide⟩ rfl (Nat.le_of_ble_eq_true rfl) (rc_X12_hashByte hG ok.1) (fun S_58 h_58 => ?_)
    subst h_58
    have ok := ok.2
    exact rX.cutz (b_proof_61 hG hX0 hrec ok hx) ⟨rfl, rfl, rfl, rfl, rfl, trivial⟩
def L_proof_44 (N : Nat) : Nat → Int32 → Int32 → Int32 → Int32 → rS → Nat × Int32 × Int32 × Int32 × rS
  | 0, x1, x2, x3, x4, S => (0, 0, 0, 0, S)
  | n + 1, x1, x2, x3, x4, S => B_proof_44 N (L_proof_44 N n) x1 x2 x3 x4 S
def OL_proof_44 (N : Nat) : Nat → Int32 → Int32 → Int32 → Int32 → rS → Prop
  | 0, _, _, _, _, _ => False
  | n + 1, x1, x2, x3, x4, S => OB_proof_44 N (OL_proof_44 N n) x1 x2 x3 x4 S
set_option maxHeartbeats 4000000 in
theorem l_proof_44 {G : zG} {E : rE} {N : Nat} {Q : Option Value → rS → Prop} {X : Nat × Int32 × Int32 × Int32 × rS → Prop} (hG : zOK G) (hX0 : ∀ (x1 : Int32) (x2 : Int32) (x3 : Int32) (S' : rS), X (0, x1, x2, x3, S') → rX G E dX12_proof mX12_proof 67 [some (.ref E.1), some (.int x1), some (.int x2), some (.int x3), none, none, none] [] S' Q) : ∀ (n : Nat) (x1 : Int32) (x2 : Int32) (x3 : Int32) (x4 : Int32) (S : rS), OL_proof_44 N n x1 x2 x3 x4 S → X (L_proof_44 N n x1 x2 x3 x4 S) → rX G E dX12_proof mX12_proof 44 [some (.ref E.1), some (.int x1), some (.int x2), some (.int x3), some (.int x4), none, none] [] S Q := by
  intro n
  induction n with
  | zero => intro x1 x2 x3 x4 S ok; exact absurd ok id
  | succ n ih =>
    intro x1 x2 x3 x4 S ok hx
    exact bb_proof_44 hG hX0 (rec := L_proof_44 N n) (rok := OL_proof_44 N n) (fun x1 x2 x3 x4 S ok hx => ih x1 x2 x3 x4 S ok hx) ok hx
def A_proof_44 (N : Nat) (x1 : Int32) (x2 : Int32) (x3 : Int32) (x4 : Int32) (S : rS) (z : Nat × Int32 × Int32 × Int32 × rS) : Int32 × rS := (F_proof_67 N (z.2.1) (z.2.2.1) (z.2.2.2.1) z.2.2.2.2)
def OA_proof_44 (N : Nat) (x1 : Int32) (x2 : Int32) (x3 : Int32) (x4 : Int32) (S : rS) (z : Nat × Int32 × Int32 × Int32 × rS) : Prop := O_proof_67 N (z.2.1) (z.2.2.1) (z.2.2.2.1) z.2.2.2.2
set_option maxHeartbeats 4000000 in
theorem c_proof_44 {G : zG} {E : rE} {S : rS} {N : Nat} {Q : Option Value → rS → Prop} {X : Int32 × rS → Prop} (hG : zOK G) (hR : ∀ v S', X (v, S') → Q (some (.int v)) S') {x1 : Int32} {x2 : Int32} {x3 : Int32} {x4 : Int32} (ok : OL_proof_44 N N x1 x2 x3 x4 S ∧ OA_proof_44 N x1 x2 x3 x4 S (L_proof_44 N N x1 x2 x3 x4 S)) (hx : X (A_proof_44 N x1 x2 x3 x4 S (L_proof_44 N N x1 x2 x3 x4 S))) : rX G E dX12_proof mX12_proof 44 [some (.ref E.1), some (.int x1), some (.int x2), some (.int x3), some (.int x4), none, none] [] S Q := by
  refine l_proof_44 hG ?_ N x1 x2 x3 x4 S ok.1 (X := fun z => OA_proof_44 N x1 x2 x3 x4 S z ∧ X (A_proof_44 N x1 x2 x3 x4 S z)) ⟨ok.2, hx⟩
  · intro x1' x2' x3' S' hz
    obtain ⟨ok, hx⟩ := hz
    unfold OA_proof_44 at ok
    unfold A_proof_44 at hx
    exact rX.cutz (b_proof_67 hG hR ok hx) ⟨rfl, rfl, rfl, rfl, trivial⟩
def F_proof_40 (N : Nat) (x1 : Int32) (x2 : Int32) (x3 : Int32) (S : rS) : Int32 × rS := (A_proof_44 N x1 x2 x3 (nI 101) S (L_proof_44 N N x1 x2 x3 (nI 101) S))
def O_proof_40 (N : Nat) (x1 : Int32) (x2 : Int32) (x3 : Int32) (S : rS) : Prop := (OL_proof_44 N N x1 x2 x3 (nI 101) S ∧ OA_proof_44 N x1 x2 x3 (nI 101) S (L_proof_44 N N x1 x2 x3 (nI 101) S))
set_option maxHeartbeats 4000000 in
theorem b_proof_40 {G : zG} {E : rE} {S : rS} {N : Nat} {Q : Option Value → rS → Prop} {X : Int32 × rS → Prop} (hG : zOK G) (hR : ∀ v S', X (v, S') → Q (some (.int v)) S') {x1 : Int32} {x2 : Int32} {x3 : Int32} (ok : O_proof_40 N x1 x2 x3 S) (hx : X (F_proof_40 N x1 x2 x3 S)) : rX G E dX12_proof mX12_proof 40 [some (.ref E.1), some (.int x1), some (.int x2), some (.int x3), none, none, none] [] S Q := by
  unfold O_proof_40 at ok
  unfold F_proof_40 at hx
  refine r_bipush (v := nI 101) dX12_proof_40 (by decide) ?_
  refine r_istore_4 dX12_proof_42 (by decide) rfl ?_
  exact rX.cutz (c_proof_44 hG hR ok hx) ⟨rfl, rfl, rfl, rfl, rfl, trivial⟩
def F_proof_28 (N : Nat)  (S : rS) : Int32 × rS := ((nI 0), S)
def O_proof_28 (N : Nat)  (S : rS) : Prop := True
set_option maxHeartbeats 4000000 in
theorem b_proof_28 {G : zG} {E : rE} {S : rS} {N : Nat} {Q : Option Value → rS → Prop} {X : Int32 × rS → Prop} (hG : zOK G) (hR : ∀ v S', X (v, S') → Q (some (.int v)) S') (ok : O_proof_28 N S) (hx : X (F_proof_28 N S)) : rX G E dX12_proof mX12_proof 28 [none, none, none, none, none, none, none] [] S Q := by
  unfold O_proof_28 at ok
  unfold F_proof_28 at hx
  refine r_iconst (v := nI 0) dX12_proof_28 (by decide) ?_
  exact r_ireturn rfl rfl dX12_proof_29 (hR _ _ hx)
def F_proof_0 (N : Nat) (x1 : Int32) (x2 : Int32) (x3 : Int32) (S : rS) : Int32 × rS := (if x1 < 0 then (F_proof_28 N S) else (if (nI 1) < x1 then (F_proof_28 N S) else (if x2 < (nI 102) then (F_proof_28 N S) else (if x3 < x2 then (F_proof_28 N S) else (if x3 ≤ (S.1 22) then (F_proof_40 N x1 x2 x3 (f_hashByte N (rsI S 7 (nI 0)) (nI 0))) else (F_proof_28 N S))))))
def O_proof_0 (N : Nat) (x1 : Int32) (x2 : Int32) (x3 : Int32) (S : rS) : Prop := ((x1 < 0 → O_proof_28 N S) ∧ (¬ x1 < 0 → (((nI 1) < x1 → O_proof_28 N S) ∧ (¬ (nI 1) < x1 → ((x2 < (nI 102) → O_proof_28 N S) ∧ (¬ x2 < (nI 102) → ((x3 < x2 → O_proof_28 N S) ∧ (¬ x3 < x2 → ((x3 ≤ (S.1 22) → (o_hashByte N (rsI S 7 (nI 0)) (nI 0)) ∧ O_proof_40 N x1 x2 x3 (f_hashByte N (rsI S 7 (nI 0)) (nI 0))) ∧ (¬ x3 ≤ (S.1 22) → O_proof_28 N S))))))))))
set_option maxHeartbeats 4000000 in
theorem b_proof_0 {G : zG} {E : rE} {S : rS} {N : Nat} {Q : Option Value → rS → Prop} {X : Int32 × rS → Prop} (hG : zOK G) (hR : ∀ v S', X (v, S') → Q (some (.int v)) S') {x1 : Int32} {x2 : Int32} {x3 : Int32} (ok : O_proof_0 N x1 x2 x3 S) (hx : X (F_proof_0 N x1 x2 x3 S)) : rX G E dX12_proof mX12_proof 0 [some (.ref E.1), some (.int x1), some (.int x2), some (.int x3), none, none, none] [] S Q := by
  unfold O_proof_0 at ok
  unfold F_proof_0 at hx
  refine r_iload_n dX12_proof_0 rfl rfl ?_
  refine r_if_lt (tgt := 28) dX12_proof_1 (by decide) (fun c_1 => ?_) (fun c_1 => ?_)
  · have ok := ok.1 c_1
    have hx := xif_p c_1 hx
    exact rX.cutz (b_proof_28 hG hR ok hx) trivial
  · have ok := ok.2 c_1
    have hx := xif_n c_1 hx
    refine r_iload_n dX12_proof_4 rfl rfl ?_
    refine r_iconst (v := nI 1) dX12_proof_5 (by decide) ?_
    refine r_icmp_gt (tgt := 28) dX12_proof_6 (by decide) (fun c_6 => ?_) (fun c_6 => ?_)
    · have ok := ok.1 c_6
      have hx := xif_p c_6 hx
      exact rX.cutz (b_proof_28 hG hR ok hx) trivial
    · have ok := ok.2 c_6
      have hx := xif_n c_6 hx
      refine r_iload_n dX12_proof_9 rfl rfl ?_
      refine r_bipush (v := nI 102) dX12_proof_10 (by decide) ?_
      refine r_icmp_lt (tgt := 28) dX12_proof_12 (by decide) (fun c_12 => ?_) (fun c_12 => ?_)
      · have ok := ok.1 c_12
        have hx := xif_p c_12 hx
        exact rX.cutz (b_proof_28 hG hR ok hx) trivial
      · have ok := ok.2 c_12
        have hx := xif_n c_12 hx
        refine r_iload_n dX12_proof_15 rfl rfl ?_
        refine r_iload_n dX12_proof_16 rfl rfl ?_
        refine r_icmp_lt (tgt := 28) dX12_proof_17 (by decide) (fun c_17 => ?_) (fun c_17 => ?_)
        · have ok := ok.1 c_17
          have hx := xif_p c_17 hx
          exact rX.cutz (b_proof_28 hG hR ok hx) trivial
        · have ok := ok.2 c_17
          have hx := xif_n c_17 hx
          refine r_iload_n dX12_proof_20 rfl rfl ?_
          refine r_aload_n dX12_proof_21 rfl rfl ?_
          refine r_getI 22 fX12_133 (by decide) (by decide) dX12_proof_22 ?_
          refine r_icmp_le (tgt := 30) dX12_proof_25 (by decide) (fun c_25 => ?_) (fun c_25 => ?_)
          · have ok := ok.1 c_25
            have hx := xif_p c_25 hx
            refine r_aload_n dX12_proof_30 rfl rfl ?_
            refine r_iconst (v := nI 0) dX12_proof_31 (by decide) ?_
            refine r_putI 7 fX12_25 (by decide) (by decide) rfl rfl rfl dX12_proof_32 ?_
            refine r_aload_n dX12_proof_35 rfl rfl ?_
            refine r_iconst (v := nI 0) dX12_proof_36 (by decide) ?_
            refine r_V1v (y' := mX12_hashByte) dX12_proof_37 lX12_29 kX12_hashByte ⟨by decide, by decide⟩ rfl (Nat.le_of_ble_eq_true rfl) (rc_X12_hashByte hG ok.1) (fun S_37 h_37 => ?_)
            subst h_37
            have ok := ok.2
            exact rX.cutz (b_proof_40 hG hR ok hx) ⟨rfl, rfl, rfl, rfl, trivial⟩
          · have ok := ok.2 c_25
            have hx := xif_n c_25 hx
            exact rX.cutz (b_proof_28 hG hR ok hx) trivial
def f_proof (N : Nat) (S : rS) (x1 : Int32) (x2 : Int32) (x3 : Int32) : Int32 × rS := F_proof_0 N x1 x2 x3 S
def o_proof (N : Nat) (S : rS) (x1 : Int32) (x2 : Int32) (x3 : Int32) : Prop := O_proof_0 N x1 x2 x3 S
set_option maxHeartbeats 4000000 in
theorem rc_X12_proof {G : zG} {E : rE} {S : rS} {N : Nat} (hG : zOK G) {x1 : Int32} {x2 : Int32} {x3 : Int32} (ok : o_proof N S x1 x2 x3) : rCi G E dX12_proof mX12_proof [.ref E.1, .int x1, .int x2, .int x3] S (fun v S' => v = (f_proof N S x1 x2 x3).1 ∧ S' = (f_proof N S x1 x2 x3).2) := by
  refine rC.ofX rfl (Nat.le_of_ble_eq_true rfl) ?_
  show rX G E dX12_proof mX12_proof 0 [some (.ref E.1), some (.int x1), some (.int x2), some (.int x3), none, none, none] [] S _
  exact rX.cutz (b_proof_0 (X := fun F => F = f_proof N S x1 x2 x3) hG (fun v S' h => ⟨v, rfl, by rw [← h], by rw [← h]⟩) ok rfl) ⟨rfl, rfl, rfl, rfl, trivial⟩

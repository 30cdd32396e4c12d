/-! isLess -/
def F_isLess_57 (N : Nat) (s0 : Int32) (S : rS) : Int32 := s0
def O_isLess_57 (N : Nat) (s0 : Int32) (S : rS) : Prop := narrow .boolean (.int s0) = .int s0
set_option maxHeartbeats 4000000 in
theorem b_isLess_57 {G : zG} {E : rE} {S : rS} {N : Nat} {Q : Option Value → rS → Prop} {X : Int32 → Prop} (hG : zOK G) (hR : ∀ v, X v → Q (some (.int v)) S) {s0 : Int32} (ok : O_isLess_57 N s0 S) (hx : X (F_isLess_57 N s0 S)) : rX G E dX12_isLess mX12_isLess 57 [none, none, none, none] [.int s0] S Q := by
  unfold O_isLess_57 at ok
  unfold F_isLess_57 at hx
  exact r_ireturn rfl ok dX12_isLess_57 (hR _ hx)
def F_isLess_33 (N : Nat) (x1 : Int32) (x2 : Int32) (x3 : Int32) (S : rS) : Int32 := (if (S.2.1 32 (x2 + x3).toNatClampNeg) ≤ (S.2.1 32 (x1 + x3).toNatClampNeg) then (F_isLess_57 N (nI 0) S) else (F_isLess_57 N (nI 1) S))
def O_isLess_33 (N : Nat) (x1 : Int32) (x2 : Int32) (x3 : Int32) (S : rS) : Prop := (vp_in (x1 + x3) 1010) ∧ (vp_in (x2 + x3) 1010) ∧ (((S.2.1 32 (x2 + x3).toNatClampNeg) ≤ (S.2.1 32 (x1 + x3).toNatClampNeg) → O_isLess_57 N (nI 0) S) ∧ (¬ (S.2.1 32 (x2 + x3).toNatClampNeg) ≤ (S.2.1 32 (x1 + x3).toNatClampNeg) → O_isLess_57 N (nI 1) S))
set_option maxHeartbeats 4000000 in
theorem b_isLess_33 {G : zG} {E : rE} {S : rS} {N : Nat} {Q : Option Value → rS → Prop} {X : Int32 → Prop} (hG : zOK G) (hR : ∀ v, X v → Q (some (.int v)) S) {x1 : Int32} {x2 : Int32} {x3 : Int32} (ok : O_isLess_33 N x1 x2 x3 S) (hx : X (F_isLess_33 N x1 x2 x3 S)) : rX G E dX12_isLess mX12_isLess 33 [some (.ref E.1), some (.int x1), some (.int x2), some (.int x3)] [] S Q := by
  unfold O_isLess_33 at ok
  unfold F_isLess_33 at hx
  refine r_aload_n dX12_isLess_33 rfl rfl ?_
  refine r_getA 32 fX12_204 (by decide) (by decide) dX12_isLess_34 ?_
  refine r_iload_n dX12_isLess_37 rfl rfl ?_
  refine r_iload_n dX12_isLess_38 rfl rfl ?_
  refine r_iadd dX12_isLess_39 ?_
  refine r_iald (by decide) (by decide) dX12_isLess_40 ok.1 ?_
  have ok := ok.2
  refine r_aload_n dX12_isLess_41 rfl rfl ?_
  refine r_getA 32 fX12_204 (by decide) (by decide) dX12_isLess_42 ?_
  refine r_iload_n dX12_isLess_45 rfl rfl ?_
  refine r_iload_n dX12_isLess_46 rfl rfl ?_
  refine r_iadd dX12_isLess_47 ?_
  refine r_iald (by decide) (by decide) dX12_isLess_48 ok.1 ?_
  have ok := ok.2
  refine r_icmp_ge (tgt := 56) dX12_isLess_49 (by decide) (fun c_49 => ?_) (fun c_49 => ?_)
  · have ok := ok.1 c_49
    have hx := xif_p c_49 hx
    refine r_iconst (v := nI 0) dX12_isLess_56 (by decide) ?_
    exact rX.cutz (b_isLess_57 hG hR ok hx) trivial
  · have ok := ok.2 c_49
    have hx := xif_n c_49 hx
    refine r_iconst (v := nI 1) dX12_isLess_52 (by decide) ?_
    refine r_goto (tgt := 57) dX12_isLess_53 (by decide) ?_
    exact rX.cutz (b_isLess_57 hG hR ok hx) trivial
def B_isLess_2 (N : Nat) (rec : Int32 → Int32 → Int32 → Nat × Int32 × Int32 × Int32 × Unit) (x1 : Int32) (x2 : Int32) (x3 : Int32) (S : rS) : Nat × Int32 × Int32 × Int32 × Unit := (if (nI 31) ≤ x3 then (0, x1, x2, x3, ()) else (if (S.2.1 32 (x1 + x3).toNatClampNeg) = (S.2.1 32 (x2 + x3).toNatClampNeg) then (rec x1 x2 (x3 + nI 1)) else (0, x1, x2, x3, ())))
def OB_isLess_2 (N : Nat) (rok : Int32 → Int32 → Int32 → Prop) (x1 : Int32) (x2 : Int32) (x3 : Int32) (S : rS) : Prop := (((nI 31) ≤ x3 → True) ∧ (¬ (nI 31) ≤ x3 → (vp_in (x1 + x3) 1010) ∧ (vp_in (x2 + x3) 1010) ∧ (((S.2.1 32 (x1 + x3).toNatClampNeg) = (S.2.1 32 (x2 + x3).toNatClampNeg) → rok x1 x2 (x3 + nI 1)) ∧ (¬ (S.2.1 32 (x1 + x3).toNatClampNeg) = (S.2.1 32 (x2 + x3).toNatClampNeg) → True))))
set_option maxHeartbeats 4000000 in
theorem bb_isLess_2 {G : zG} {E : rE} {S : rS} {N : Nat} {Q : Option Value → rS → Prop} {X : Nat × Int32 × Int32 × Int32 × Unit → Prop} (hG : zOK G) (hX0 : ∀ (x1 : Int32) (x2 : Int32) (x3 : Int32) , X (0, x1, x2, x3, ()) → rX G E dX12_isLess mX12_isLess 33 [some (.ref E.1), some (.int x1), some (.int x2), some (.int x3)] [] S Q) {rec : Int32 → Int32 → Int32 → Nat × Int32 × Int32 × Int32 × Unit} {rok : Int32 → Int32 → Int32 → Prop} (hrec : ∀ (x1 : Int32) (x2 : Int32) (x3 : Int32), rok x1 x2 x3 → X (rec x1 x2 x3) → rX G E dX12_isLess mX12_isLess 2 [some (.ref E.1), some (.int x1), some (.int x2), some (.int x3)] [] S Q) {x1 : Int32} {x2 : Int32} {x3 : Int32} (ok : OB_isLess_2 N rok x1 x2 x3 S) (hx : X (B_isLess_2 N rec x1 x2 x3 S)) : rX G E dX12_isLess mX12_isLess 2 [some (.ref E.1), some (.int x1), some (.int x2), some (.int x3)] [] S Q := by
  unfold OB_isLess_2 at ok
  unfold B_isLess_2 at hx
  refine r_iload_n dX12_isLess_2 rfl rfl ?_
  refine r_bipush (v := nI 31) dX12_isLess_3 (by decide) ?_
  refine r_icmp_ge (tgt := 33) dX12_isLess_5 (by decide) (fun c_5 => ?_) (fun c_5 => ?_)
  · have ok := ok.1 c_5
    have hx := xif_p c_5 hx
    exact rX.cutz (hX0 _ _ _  hx) ⟨rfl, rfl, rfl, rfl, trivial⟩
  · have ok := ok.2 c_5
    have hx := xif_n c_5 hx
    refine r_aload_n dX12_isLess_8 rfl rfl ?_
    refine r_getA 32 fX12_204 (by decide) (by decide) dX12_isLess_9 ?_
    refine r_iload_n dX12_isLess_12 rfl rfl ?_
    refine r_iload_n dX12_isLess_13 rfl rfl ?_
    refine r_iadd dX12_isLess_14 ?_
    refine r_iald (by decide) (by decide) dX12_isLess_15 ok.1 ?_
    have ok := ok.2
    refine r_aload_n dX12_isLess_16 rfl rfl ?_
    refine r_getA 32 fX12_204 (by decide) (by decide) dX12_isLess_17 ?_
    refine r_iload_n dX12_isLess_20 rfl rfl ?_
    refine r_iload_n dX12_isLess_21 rfl rfl ?_
    refine r_iadd dX12_isLess_22 ?_
    refine r_iald (by decide) (by decide) dX12_isLess_23 ok.1 ?_
    have ok := ok.2
    refine r_icmp_ne (tgt := 33) dX12_isLess_24 (by decide) (fun c_24 => ?_) (fun c_24 => ?_)
    · have ok := ok.2 c_24
      have hx := xif_n c_24 hx
      exact rX.cutz (hX0 _ _ _  hx) ⟨rfl, rfl, rfl, rfl, trivial⟩
    · have ok := ok.1 c_24
      have hx := xif_p c_24 hx
      refine r_iinc_3 (v := (x3 + nI 1)) dX12_isLess_27 rfl (by first | rfl | (congr 1)) (by decide) rfl ?_
      refine r_goto (tgt := 2) dX12_isLess_30 (by decide) ?_
      exact rX.cutz (hrec _ _ _ ok hx) ⟨rfl, rfl, rfl, rfl, trivial⟩
def L_isLess_2 (N : Nat) : Nat → Int32 → Int32 → Int32 → rS → Nat × Int32 × Int32 × Int32 × Unit
  | 0, x1, x2, x3, S => (0, 0, 0, 0, ())
  | n + 1, x1, x2, x3, S => B_isLess_2 N (fun x1 x2 x3 => L_isLess_2 N n x1 x2 x3 S) x1 x2 x3 S
def OL_isLess_2 (N : Nat) : Nat → Int32 → Int32 → Int32 → rS → Prop
  | 0, _, _, _, _ => False
  | n + 1, x1, x2, x3, S => OB_isLess_2 N (fun x1 x2 x3 => OL_isLess_2 N n x1 x2 x3 S) x1 x2 x3 S
set_option maxHeartbeats 4000000 in
theorem l_isLess_2 {G : zG} {E : rE} {S : rS} {N : Nat} {Q : Option Value → rS → Prop} {X : Nat × Int32 × Int32 × Int32 × Unit → Prop} (hG : zOK G) (hX0 : ∀ (x1 : Int32) (x2 : Int32) (x3 : Int32) , X (0, x1, x2, x3, ()) → rX G E dX12_isLess mX12_isLess 33 [some (.ref E.1), some (.int x1), some (.int x2), some (.int x3)] [] S Q) : ∀ (n : Nat) (x1 : Int32) (x2 : Int32) (x3 : Int32) , OL_isLess_2 N n x1 x2 x3 S → X (L_isLess_2 N n x1 x2 x3 S) → rX G E dX12_isLess mX12_isLess 2 [some (.ref E.1), some (.int x1), some (.int x2), some (.int x3)] [] S Q := by
  intro n
  induction n with
  | zero => intro x1 x2 x3 ok; exact absurd ok id
  | succ n ih =>
    intro x1 x2 x3 ok hx
    exact bb_isLess_2 hG hX0 (rec := fun x1 x2 x3 => L_isLess_2 N n x1 x2 x3 S) (rok := fun x1 x2 x3 => OL_isLess_2 N n x1 x2 x3 S) (fun x1 x2 x3 ok hx => ih x1 x2 x3 ok hx) ok hx
def A_isLess_2 (N : Nat) (x1 : Int32) (x2 : Int32) (x3 : Int32) (S : rS) (z : Nat × Int32 × Int32 × Int32 × Unit) : Int32 := (F_isLess_33 N (z.2.1) (z.2.2.1) (z.2.2.2.1) S)
def OA_isLess_2 (N : Nat) (x1 : Int32) (x2 : Int32) (x3 : Int32) (S : rS) (z : Nat × Int32 × Int32 × Int32 × Unit) : Prop := O_isLess_33 N (z.2.1) (z.2.2.1) (z.2.2.2.1) S
set_option maxHeartbeats 4000000 in
theorem c_isLess_2 {G : zG} {E : rE} {S : rS} {N : Nat} {Q : Option Value → rS → Prop} {X : Int32 → Prop} (hG : zOK G) (hR : ∀ v, X v → Q (some (.int v)) S) {x1 : Int32} {x2 : Int32} {x3 : Int32} (ok : OL_isLess_2 N N x1 x2 x3 S ∧ OA_isLess_2 N x1 x2 x3 S (L_isLess_2 N N x1 x2 x3 S)) (hx : X (A_isLess_2 N x1 x2 x3 S (L_isLess_2 N N x1 x2 x3 S))) : rX G E dX12_isLess mX12_isLess 2 [some (.ref E.1), some (.int x1), some (.int x2), some (.int x3)] [] S Q := by
  refine l_isLess_2 hG ?_ N x1 x2 x3 ok.1 (X := fun z => OA_isLess_2 N x1 x2 x3 S z ∧ X (A_isLess_2 N x1 x2 x3 S z)) ⟨ok.2, hx⟩
  · intro x1' x2' x3' hz
    obtain ⟨ok, hx⟩ := hz
    unfold OA_isLess_2 at ok
    unfold A_isLess_2 at hx
    exact rX.cutz (b_isLess_33 hG hR ok hx) ⟨rfl, rfl, rfl, rfl, trivial⟩
def F_isLess_0 (N : Nat) (x1 : Int32) (x2 : Int32) (S : rS) : Int32 := (A_isLess_2 N x1 x2 (nI 0) S (L_isLess_2 N N x1 x2 (nI 0) S))
def O_isLess_0 (N : Nat) (x1 : Int32) (x2 : Int32) (S : rS) : Prop := (OL_isLess_2 N N x1 x2 (nI 0) S ∧ OA_isLess_2 N x1 x2 (nI 0) S (L_isLess_2 N N x1 x2 (nI 0) S))
set_option maxHeartbeats 4000000 in
theorem b_isLess_0 {G : zG} {E : rE} {S : rS} {N : Nat} {Q : Option Value → rS → Prop} {X : Int32 → Prop} (hG : zOK G) (hR : ∀ v, X v → Q (some (.int v)) S) {x1 : Int32} {x2 : Int32} (ok : O_isLess_0 N x1 x2 S) (hx : X (F_isLess_0 N x1 x2 S)) : rX G E dX12_isLess mX12_isLess 0 [some (.ref E.1), some (.int x1), some (.int x2), none] [] S Q := by
  unfold O_isLess_0 at ok
  unfold F_isLess_0 at hx
  refine r_iconst (v := nI 0) dX12_isLess_0 (by decide) ?_
  refine r_istore_3 dX12_isLess_1 (by decide) rfl ?_
  exact rX.cutz (c_isLess_2 hG hR ok hx) ⟨rfl, rfl, rfl, rfl, trivial⟩
def f_isLess (N : Nat) (S : rS) (x1 : Int32) (x2 : Int32) : Int32 := F_isLess_0 N x1 x2 S
def o_isLess (N : Nat) (S : rS) (x1 : Int32) (x2 : Int32) : Prop := O_isLess_0 N x1 x2 S
set_option maxHeartbeats 4000000 in
theorem rc_X12_isLess {G : zG} {E : rE} {S : rS} {N : Nat} (hG : zOK G) {x1 : Int32} {x2 : Int32} (ok : o_isLess N S x1 x2) : rCi G E dX12_isLess mX12_isLess [.ref E.1, .int x1, .int x2] S (fun v S' => v = f_isLess N S x1 x2 ∧ S' = S) := by
  refine rC.ofX rfl (Nat.le_of_ble_eq_true rfl) ?_
  show rX G E dX12_isLess mX12_isLess 0 [some (.ref E.1), some (.int x1), some (.int x2), none] [] S _
  exact rX.cutz (b_isLess_0 (X := fun F => F = f_isLess N S x1 x2) hG (fun v h => ⟨v, rfl, h, rfl⟩) ok rfl) ⟨rfl, rfl, rfl, trivial⟩
/-! evidenceAt -/
def F_evidenceAt_159 (N : Nat) (s0 : Int32) (S : rS) : Int32 := s0
def O_evidenceAt_159 (N : Nat) (s0 : Int32) (S : rS) : Prop := True
set_option maxHeartbeats 4000000 in
theorem b_evidenceAt_159 {G : zG} {E : rE} {S : rS} {N : Nat} {Q : Option Value → rS → Prop} {X : Int32 → Prop} (hG : zOK G) (hR : ∀ v, X v → Q (some (.int v)) S) {s0 : Int32} (ok : O_evidenceAt_159 N s0 S) (hx : X (F_evidenceAt_159 N s0 S)) : rX G E dX12_evidenceAt mX12_evidenceAt 159 [none, none, none, none, none] [.int s0] S Q := by
  unfold O_evidenceAt_159 at ok
  unfold F_evidenceAt_159 at hx
  exact r_ireturn rfl rfl dX12_evidenceAt_159 (hR _ hx)
def F_evidenceAt_143 (N : Nat) (x2 : Int32) (x3 : Int32) (s0 : Int32) (S : rS) : Int32 := (if s0 = 0 then (F_evidenceAt_159 N (nI 0) S) else (F_evidenceAt_159 N (((nI 5) + x2) + x3) S))
def O_evidenceAt_143 (N : Nat) (x2 : Int32) (x3 : Int32) (s0 : Int32) (S : rS) : Prop := ((s0 = 0 → O_evidenceAt_159 N (nI 0) S) ∧ (¬ s0 = 0 → O_evidenceAt_159 N (((nI 5) + x2) + x3) S))
set_option maxHeartbeats 4000000 in
theorem b_evidenceAt_143 {G : zG} {E : rE} {S : rS} {N : Nat} {Q : Option Value → rS → Prop} {X : Int32 → Prop} (hG : zOK G) (hR : ∀ v, X v → Q (some (.int v)) S) {x2 : Int32} {x3 : Int32} {s0 : Int32} (ok : O_evidenceAt_143 N x2 x3 s0 S) (hx : X (F_evidenceAt_143 N x2 x3 s0 S)) : rX G E dX12_evidenceAt mX12_evidenceAt 143 [none, none, some (.int x2), some (.int x3), none] [.int s0] S Q := by
  unfold O_evidenceAt_143 at ok
  unfold F_evidenceAt_143 at hx
  refine r_istore_4 dX12_evidenceAt_143 (by decide) rfl ?_
  refine r_iload dX12_evidenceAt_145 rfl ?_
  refine r_if_eq (tgt := 158) dX12_evidenceAt_147 (by decide) (fun c_147 => ?_) (fun c_147 => ?_)
  · have ok := ok.1 c_147
    have hx := xif_p c_147 hx
    refine r_iconst (v := nI 0) dX12_evidenceAt_158 (by decide) ?_
    exact rX.cutz (b_evidenceAt_159 hG hR ok hx) trivial
  · have ok := ok.2 c_147
    have hx := xif_n c_147 hx
    refine r_iconst (v := nI 5) dX12_evidenceAt_150 (by decide) ?_
    refine r_iload_n dX12_evidenceAt_151 rfl rfl ?_
    refine r_iadd dX12_evidenceAt_152 ?_
    refine r_iload_n dX12_evidenceAt_153 rfl rfl ?_
    refine r_iadd dX12_evidenceAt_154 ?_
    refine r_goto (tgt := 159) dX12_evidenceAt_155 (by decide) ?_
    exact rX.cutz (b_evidenceAt_159 hG hR ok hx) trivial
def F_evidenceAt_97 (N : Nat) (x1 : Int32) (x2 : Int32) (s0 : Int32) (S : rS) : Int32 := (if (nI 33) ≤ s0 then (if x2 = (nI 1) then (if (S.2.1 32 (x1 + (nI 1)).toNatClampNeg) = (nI 1) then (F_evidenceAt_143 N x2 s0 (nI 0) S) else (F_evidenceAt_143 N x2 s0 (nI 1) S)) else (F_evidenceAt_143 N x2 s0 (f_isLess N S (x1 + (nI 6)) (x1 + (nI 39))) S)) else (nI 0))
def O_evidenceAt_97 (N : Nat) (x1 : Int32) (x2 : Int32) (s0 : Int32) (S : rS) : Prop := (((nI 33) ≤ s0 → ((x2 = (nI 1) → (vp_in (x1 + (nI 1)) 1010) ∧ (((S.2.1 32 (x1 + (nI 1)).toNatClampNeg) = (nI 1) → O_evidenceAt_143 N x2 s0 (nI 0) S) ∧ (¬ (S.2.1 32 (x1 + (nI 1)).toNatClampNeg) = (nI 1) → O_evidenceAt_143 N x2 s0 (nI 1) S))) ∧ (¬ x2 = (nI 1) → (o_isLess N S (x1 + (nI 6)) (x1 + (nI 39))) ∧ O_evidenceAt_143 N x2 s0 (f_isLess N S (x1 + (nI 6)) (x1 + (nI 39))) S))) ∧ (¬ (nI 33) ≤ s0 → True))
set_option maxHeartbeats 4000000 in
theorem b_evidenceAt_97 {G : zG} {E : rE} {S : rS} {N : Nat} {Q : Option Value → rS → Prop} {X : Int32 → Prop} (hG : zOK G) (hR : ∀ v, X v → Q (some (.int v)) S) {x1 : Int32} {x2 : Int32} {s0 : Int32} (ok : O_evidenceAt_97 N x1 x2 s0 S) (hx : X (F_evidenceAt_97 N x1 x2 s0 S)) : rX G E dX12_evidenceAt mX12_evidenceAt 97 [some (.ref E.1), some (.int x1), some (.int x2), none, none] [.int s0] S Q := by
  unfold O_evidenceAt_97 at ok
  unfold F_evidenceAt_97 at hx
  refine r_istore_3 dX12_evidenceAt_97 (by decide) rfl ?_
  refine r_iload_n dX12_evidenceAt_98 rfl rfl ?_
  refine r_bipush (v := nI 33) dX12_evidenceAt_99 (by decide) ?_
  refine r_icmp_ge (tgt := 106) dX12_evidenceAt_101 (by decide) (fun c_101 => ?_) (fun c_101 => ?_)
  · have ok := ok.1 c_101
    have hx := xif_p c_101 hx
    refine r_iload_n dX12_evidenceAt_106 rfl rfl ?_
    refine r_iconst (v := nI 1) dX12_evidenceAt_107 (by decide) ?_
    refine r_icmp_ne (tgt := 131) dX12_evidenceAt_108 (by decide) (fun c_108 => ?_) (fun c_108 => ?_)
    · have ok := ok.2 c_108
      have hx := xif_n c_108 hx
      refine r_aload_n dX12_evidenceAt_131 rfl rfl ?_
      refine r_iload_n dX12_evidenceAt_132 rfl rfl ?_
      refine r_bipush (v := nI 6) dX12_evidenceAt_133 (by decide) ?_
      refine r_iadd dX12_evidenceAt_135 ?_
      refine r_iload_n dX12_evidenceAt_136 rfl rfl ?_
      refine r_bipush (v := nI 39) dX12_evidenceAt_137 (by decide) ?_
      refine r_iadd dX12_evidenceAt_139 ?_
      refine r_V2i (y' := mX12_isLess) dX12_evidenceAt_140 lX12_238 kX12_isLess ⟨by decide, by decide⟩ rfl (Nat.le_of_ble_eq_true rfl) (rc_X12_isLess hG ok.1) (fun v_140 S_140 h_140 => ?_)
      obtain ⟨rfl, hS_140⟩ := h_140
      have hS_140 := hS_140.symm
      subst hS_140
      have ok := ok.2
      exact rX.cutz (b_evidenceAt_143 hG hR ok hx) ⟨rfl, rfl, trivial⟩
    · have ok := ok.1 c_108
      have hx := xif_p c_108 hx
      refine r_aload_n dX12_evidenceAt_111 rfl rfl ?_
      refine r_getA 32 fX12_204 (by decide) (by decide) dX12_evidenceAt_112 ?_
      refine r_iload_n dX12_evidenceAt_115 rfl rfl ?_
      refine r_iconst (v := nI 1) dX12_evidenceAt_116 (by decide) ?_
      refine r_iadd dX12_evidenceAt_117 ?_
      refine r_iald (by decide) (by decide) dX12_evidenceAt_118 ok.1 ?_
      have ok := ok.2
      refine r_iconst (v := nI 1) dX12_evidenceAt_119 (by decide) ?_
      refine r_icmp_eq (tgt := 127) dX12_evidenceAt_120 (by decide) (fun c_120 => ?_) (fun c_120 => ?_)
      · have ok := ok.1 c_120
        have hx := xif_p c_120 hx
        refine r_iconst (v := nI 0) dX12_evidenceAt_127 (by decide) ?_
        refine r_goto (tgt := 143) dX12_evidenceAt_128 (by decide) ?_
        exact rX.cutz (b_evidenceAt_143 hG hR ok hx) ⟨rfl, rfl, trivial⟩
      · have ok := ok.2 c_120
        have hx := xif_n c_120 hx
        refine r_iconst (v := nI 1) dX12_evidenceAt_123 (by decide) ?_
        refine r_goto (tgt := 143) dX12_evidenceAt_124 (by decide) ?_
        exact rX.cutz (b_evidenceAt_143 hG hR ok hx) ⟨rfl, rfl, trivial⟩
  · have ok := ok.2 c_101
    have hx := xif_n c_101 hx
    refine r_iconst (v := nI 0) dX12_evidenceAt_104 (by decide) ?_
    exact r_ireturn rfl rfl dX12_evidenceAt_105 (hR _ hx)
def F_evidenceAt_70 (N : Nat)  (S : rS) : Int32 := (nI 0)
def O_evidenceAt_70 (N : Nat)  (S : rS) : Prop := True
set_option maxHeartbeats 4000000 in
theorem b_evidenceAt_70 {G : zG} {E : rE} {S : rS} {N : Nat} {Q : Option Value → rS → Prop} {X : Int32 → Prop} (hG : zOK G) (hR : ∀ v, X v → Q (some (.int v)) S) (ok : O_evidenceAt_70 N S) (hx : X (F_evidenceAt_70 N S)) : rX G E dX12_evidenceAt mX12_evidenceAt 70 [none, none, none, none, none] [] S Q := by
  unfold O_evidenceAt_70 at ok
  unfold F_evidenceAt_70 at hx
  refine r_iconst (v := nI 0) dX12_evidenceAt_70 (by decide) ?_
  exact r_ireturn rfl rfl dX12_evidenceAt_71 (hR _ hx)
def F_evidenceAt_0 (N : Nat) (x1 : Int32) (S : rS) : Int32 := (if (S.1 33) < (x1 + (nI 5)) then (F_evidenceAt_70 N S) else (if (S.1 0) ≤ (S.2.1 32 x1.toNatClampNeg) then (F_evidenceAt_70 N S) else (if (S.2.1 32 (x1 + (nI 1)).toNatClampNeg) < (nI 1) then (F_evidenceAt_70 N S) else (if (nI 3) < (S.2.1 32 (x1 + (nI 1)).toNatClampNeg) then (F_evidenceAt_70 N S) else (if (f_heightAt N S (x1 + (nI 2))) = 0 then (F_evidenceAt_70 N S) else (if (S.2.1 32 (x1 + (nI 4)).toNatClampNeg) ≤ (nI 15) then (if (f_endAt N S (x1 + (nI 5))) ≤ 0 then (F_evidenceAt_97 N x1 (f_endAt N S (x1 + (nI 5))) (nI 0) S) else (F_evidenceAt_97 N x1 (f_endAt N S (x1 + (nI 5))) (f_endAt N S ((x1 + (nI 5)) + (f_endAt N S (x1 + (nI 5))))) S)) else (F_evidenceAt_70 N S)))))))
def O_evidenceAt_0 (N : Nat) (x1 : Int32) (S : rS) : Prop := (((S.1 33) < (x1 + (nI 5)) → O_evidenceAt_70 N S) ∧ (¬ (S.1 33) < (x1 + (nI 5)) → (vp_in x1 1010) ∧ (((S.1 0) ≤ (S.2.1 32 x1.toNatClampNeg) → O_evidenceAt_70 N S) ∧ (¬ (S.1 0) ≤ (S.2.1 32 x1.toNatClampNeg) → (vp_in (x1 + (nI 1)) 1010) ∧ (((S.2.1 32 (x1 + (nI 1)).toNatClampNeg) < (nI 1) → O_evidenceAt_70 N S) ∧ (¬ (S.2.1 32 (x1 + (nI 1)).toNatClampNeg) < (nI 1) → (vp_in (x1 + (nI 1)) 1010) ∧ (((nI 3) < (S.2.1 32 (x1 + (nI 1)).toNatClampNeg) → O_evidenceAt_70 N S) ∧ (¬ (nI 3) < (S.2.1 32 (x1 + (nI 1)).toNatClampNeg) → (o_heightAt N S (x1 + (nI 2))) ∧ (((f_heightAt N S (x1 + (nI 2))) = 0 → O_evidenceAt_70 N S) ∧ (¬ (f_heightAt N S (x1 + (nI 2))) = 0 → (vp_in (x1 + (nI 4)) 1010) ∧ (((S.2.1 32 (x1 + (nI 4)).toNatClampNeg) ≤ (nI 15) → (o_endAt N S (x1 + (nI 5))) ∧ (((f_endAt N S (x1 + (nI 5))) ≤ 0 → O_evidenceAt_97 N x1 (f_endAt N S (x1 + (nI 5))) (nI 0) S) ∧ (¬ (f_endAt N S (x1 + (nI 5))) ≤ 0 → (o_endAt N S ((x1 + (nI 5)) + (f_endAt N S (x1 + (nI 5))))) ∧ O_evidenceAt_97 N x1 (f_endAt N S (x1 + (nI 5))) (f_endAt N S ((x1 + (nI 5)) + (f_endAt N S (x1 + (nI 5))))) S))) ∧ (¬ (S.2.1 32 (x1 + (nI 4)).toNatClampNeg) ≤ (nI 15) → O_evidenceAt_70 N S))))))))))))
set_option maxHeartbeats 4000000 in
theorem b_evidenceAt_0 {G : zG} {E : rE} {S : rS} {N : Nat} {Q : Option Value → rS → Prop} {X : Int32 → Prop} (hG : zOK G) (hR : ∀ v, X v → Q (some (.int v)) S) {x1 : Int32} (ok : O_evidenceAt_0 N x1 S) (hx : X (F_evidenceAt_0 N x1 S)) : rX G E dX12_evidenceAt mX12_evidenceAt 0 [some (.ref E.1), some (.int x1), none, none, none] [] S Q := by
  unfold O_evidenceAt_0 at ok
  unfold F_evidenceAt_0 at hx
  refine r_iload_n dX12_evidenceAt_0 rfl rfl ?_
  refine r_iconst (v := nI 5) dX12_evidenceAt_1 (by decide) ?_
  refine r_iadd dX12_evidenceAt_2 ?_
  refine r_aload_n dX12_evidenceAt_3 rfl rfl ?_
  refine r_getI 33 fX12_201 (by decide) (by decide) dX12_evidenceAt_4 ?_
  refine r_icmp_gt (tgt := 70) dX12_evidenceAt_7 (by decide) (fun c_7 => ?_) (fun c_7 => ?_)
  · have ok := ok.1 c_7
    have hx := xif_p c_7 hx
    exact rX.cutz (b_evidenceAt_70 hG hR ok hx) trivial
  · have ok := ok.2 c_7
    have hx := xif_n c_7 hx
    refine r_aload_n dX12_evidenceAt_10 rfl rfl ?_
    refine r_getA 32 fX12_204 (by decide) (by decide) dX12_evidenceAt_11 ?_
    refine r_iload_n dX12_evidenceAt_14 rfl rfl ?_
    refine r_iald (by decide) (by decide) dX12_evidenceAt_15 ok.1 ?_
    have ok := ok.2
    refine r_aload_n dX12_evidenceAt_16 rfl rfl ?_
    refine r_getI 0 fX12_219 (by decide) (by decide) dX12_evidenceAt_17 ?_
    refine r_icmp_ge (tgt := 70) dX12_evidenceAt_20 (by decide) (fun c_20 => ?_) (fun c_20 => ?_)
    · have ok := ok.1 c_20
      have hx := xif_p c_20 hx
      exact rX.cutz (b_evidenceAt_70 hG hR ok hx) trivial
    · have ok := ok.2 c_20
      have hx := xif_n c_20 hx
      refine r_aload_n dX12_evidenceAt_23 rfl rfl ?_
      refine r_getA 32 fX12_204 (by decide) (by decide) dX12_evidenceAt_24 ?_
      refine r_iload_n dX12_evidenceAt_27 rfl rfl ?_
      refine r_iconst (v := nI 1) dX12_evidenceAt_28 (by decide) ?_
      refine r_iadd dX12_evidenceAt_29 ?_
      refine r_iald (by decide) (by decide) dX12_evidenceAt_30 ok.1 ?_
      have ok := ok.2
      refine r_iconst (v := nI 1) dX12_evidenceAt_31 (by decide) ?_
      refine r_icmp_lt (tgt := 70) dX12_evidenceAt_32 (by decide) (fun c_32 => ?_) (fun c_32 => ?_)
      · have ok := ok.1 c_32
        have hx := xif_p c_32 hx
        exact rX.cutz (b_evidenceAt_70 hG hR ok hx) trivial
      · have ok := ok.2 c_32
        have hx := xif_n c_32 hx
        refine r_aload_n dX12_evidenceAt_35 rfl rfl ?_
        refine r_getA 32 fX12_204 (by decide) (by decide) dX12_evidenceAt_36 ?_
        refine r_iload_n dX12_evidenceAt_39 rfl rfl ?_
        refine r_iconst (v := nI 1) dX12_evidenceAt_40 (by decide) ?_
        refine r_iadd dX12_evidenceAt_41 ?_
        refine r_iald (by decide) (by decide) dX12_evidenceAt_42 ok.1 ?_
        have ok := ok.2
        refine r_iconst (v := nI 3) dX12_evidenceAt_43 (by decide) ?_
        refine r_icmp_gt (tgt := 70) dX12_evidenceAt_44 (by decide) (fun c_44 => ?_) (fun c_44 => ?_)
        · have ok := ok.1 c_44
          have hx := xif_p c_44 hx
          exact rX.cutz (b_evidenceAt_70 hG hR ok hx) trivial
        · have ok := ok.2 c_44
          have hx := xif_n c_44 hx
          refine r_aload_n dX12_evidenceAt_47 rfl rfl ?_
          refine r_iload_n dX12_evidenceAt_48 rfl rfl ?_
          refine r_iconst (v := nI 2) dX12_evidenceAt_49 (by decide) ?_
          refine r_iadd dX12_evidenceAt_50 ?_
          refine r_V1i (y' := mX12_heightAt) dX12_evidenceAt_51 lX12_232 kX12_heightAt ⟨by decide, by decide⟩ rfl (Nat.le_of_ble_eq_true rfl) (rc_X12_heightAt hG ok.1) (fun v_51 S_51 h_51 => ?_)
          obtain ⟨rfl, hS_51⟩ := h_51
          have hS_51 := hS_51.symm
          subst hS_51
          have ok := ok.2
          refine r_if_eq (tgt := 70) dX12_evidenceAt_54 (by decide) (fun c_54 => ?_) (fun c_54 => ?_)
          · have ok := ok.1 c_54
            have hx := xif_p c_54 hx
            exact rX.cutz (b_evidenceAt_70 hG hR ok hx) trivial
          · have ok := ok.2 c_54
            have hx := xif_n c_54 hx
            refine r_aload_n dX12_evidenceAt_57 rfl rfl ?_
            refine r_getA 32 fX12_204 (by decide) (by decide) dX12_evidenceAt_58 ?_
            refine r_iload_n dX12_evidenceAt_61 rfl rfl ?_
            refine r_iconst (v := nI 4) dX12_evidenceAt_62 (by decide) ?_
            refine r_iadd dX12_evidenceAt_63 ?_
            refine r_iald (by decide) (by decide) dX12_evidenceAt_64 ok.1 ?_
            have ok := ok.2
            refine r_bipush (v := nI 15) dX12_evidenceAt_65 (by decide) ?_
            refine r_icmp_le (tgt := 72) dX12_evidenceAt_67 (by decide) (fun c_67 => ?_) (fun c_67 => ?_)
            · have ok := ok.1 c_67
              have hx := xif_p c_67 hx
              refine r_aload_n dX12_evidenceAt_72 rfl rfl ?_
              refine r_iload_n dX12_evidenceAt_73 rfl rfl ?_
              refine r_iconst (v := nI 5) dX12_evidenceAt_74 (by decide) ?_
              refine r_iadd dX12_evidenceAt_75 ?_
              refine r_V1i (y' := mX12_endAt) dX12_evidenceAt_76 lX12_235 kX12_endAt ⟨by decide, by decide⟩ rfl (Nat.le_of_ble_eq_true rfl) (rc_X12_endAt hG ok.1) (fun v_76 S_76 h_76 => ?_)
              obtain ⟨rfl, hS_76⟩ := h_76
              have hS_76 := hS_76.symm
              subst hS_76
              have ok := ok.2
              refine r_istore_2 dX12_evidenceAt_79 (by decide) rfl ?_
              refine r_iload_n dX12_evidenceAt_80 rfl rfl ?_
              refine r_if_le (tgt := 96) dX12_evidenceAt_81 (by decide) (fun c_81 => ?_) (fun c_81 => ?_)
              · have ok := ok.1 c_81
                have hx := xif_p c_81 hx
                refine r_iconst (v := nI 0) dX12_evidenceAt_96 (by decide) ?_
                exact rX.cutz (b_evidenceAt_97 hG hR ok hx) ⟨rfl, rfl, rfl, trivial⟩
              · have ok := ok.2 c_81
                have hx := xif_n c_81 hx
                refine r_aload_n dX12_evidenceAt_84 rfl rfl ?_
                refine r_iload_n dX12_evidenceAt_85 rfl rfl ?_
                refine r_iconst (v := nI 5) dX12_evidenceAt_86 (by decide) ?_
                refine r_iadd dX12_evidenceAt_87 ?_
                refine r_iload_n dX12_evidenceAt_88 rfl rfl ?_
                refine r_iadd dX12_evidenceAt_89 ?_
                refine r_V1i (y' := mX12_endAt) dX12_evidenceAt_90 lX12_235 kX12_endAt ⟨by decide, by decide⟩ rfl (Nat.le_of_ble_eq_true rfl) (rc_X12_endAt hG ok.1) (fun v_90 S_90 h_90 => ?_)
                obtain ⟨rfl, hS_90⟩ := h_90
                have hS_90 := hS_90.symm
                subst hS_90
                have ok := ok.2
                refine r_goto (tgt := 97) dX12_evidenceAt_93 (by decide) ?_
                exact rX.cutz (b_evidenceAt_97 hG hR ok hx) ⟨rfl, rfl, rfl, trivial⟩
            · have ok := ok.2 c_67
              have hx := xif_n c_67 hx
              exact rX.cutz (b_evidenceAt_70 hG hR ok hx) trivial
def f_evidenceAt (N : Nat) (S : rS) (x1 : Int32) : Int32 := F_evidenceAt_0 N x1 S
def o_evidenceAt (N : Nat) (S : rS) (x1 : Int32) : Prop := O_evidenceAt_0 N x1 S
set_option maxHeartbeats 4000000 in
theorem rc_X12_evidenceAt {G : zG} {E : rE} {S : rS} {N : Nat} (hG : zOK G) {x1 : Int32} (ok : o_evidenceAt N S x1) : rCi G E dX12_evidenceAt mX12_evidenceAt [.ref E.1, .int x1] S (fun v S' => v = f_evidenceAt N S x1 ∧ S' = S) := by
  refine rC.ofX rfl (Nat.le_of_ble_eq_true rfl) ?_
  show rX G E dX12_evidenceAt mX12_evidenceAt 0 [some (.ref E.1), some (.int x1), none, none, none] [] S _
  exact rX.cutz (b_evidenceAt_0 (X := fun F => F = f_evidenceAt N S x1) hG (fun v h => ⟨v, rfl, h, rfl⟩) ok rfl) ⟨rfl, rfl, trivial⟩
/-! part -/
def F_part_25 (N : Nat)  (S : rS) : rS := (f_endPart N S)
def O_part_25 (N : Nat)  (S : rS) : Prop := (o_endPart N S) ∧ True
set_option maxHeartbeats 4000000 in
theorem b_part_25 {G : zG} {E : rE} {S : rS} {N : Nat} {Q : Option Value → rS → Prop} {X : rS → Prop} (hG : zOK G) (hR : ∀ S', X S' → Q none S') (ok : O_part_25 N S) (hx : X (F_part_25 N S)) : rX G E dX12_part mX12_part 25 [some (.ref E.1), none, none, none] [] S Q := by
  unfold O_part_25 at ok
  unfold F_part_25 at hx
  refine r_aload_n dX12_part_25 rfl rfl ?_
  refine r_V0v (y' := mX12_endPart) dX12_part_26 lX12_127 kX12_endPart ⟨by decide, by decide⟩ rfl (Nat.le_of_ble_eq_true rfl) (rc_X12_endPart hG ok.1) (fun S_26 h_26 => ?_)
  subst h_26
  have ok := ok.2
  exact r_return rfl dX12_part_29 (hR _ hx)
def F_part_19 (N : Nat) (rec : Int32 → Int32 → Int32 → rS → Nat × rS) (x1 : Int32) (x2 : Int32) (x3 : Int32) (S : rS) : Nat × rS := (rec x1 x2 (x3 + nI 1) S)
def O_part_19 (N : Nat) (rok : Int32 → Int32 → Int32 → rS → Prop) (x1 : Int32) (x2 : Int32) (x3 : Int32) (S : rS) : Prop := rok x1 x2 (x3 + nI 1) S
set_option maxHeartbeats 4000000 in
theorem b_part_19 {G : zG} {E : rE} {S : rS} {N : Nat} {Q : Option Value → rS → Prop} {X : Nat × rS → Prop} (hG : zOK G) (hX0 : ∀ (S' : rS), X (0, S') → rX G E dX12_part mX12_part 25 [some (.ref E.1), none, none, none] [] S' Q) {rec : Int32 → Int32 → Int32 → rS → Nat × rS} {rok : Int32 → Int32 → Int32 → rS → Prop} (hrec : ∀ (x1 : Int32) (x2 : Int32) (x3 : Int32) (S : rS), rok x1 x2 x3 S → X (rec x1 x2 x3 S) → rX G E dX12_part mX12_part 2 [some (.ref E.1), some (.int x1), some (.int x2), some (.int x3)] [] S Q) {x1 : Int32} {x2 : Int32} {x3 : Int32} (ok : O_part_19 N rok x1 x2 x3 S) (hx : X (F_part_19 N rec x1 x2 x3 S)) : rX G E dX12_part mX12_part 19 [some (.ref E.1), some (.int x1), some (.int x2), some (.int x3)] [] S Q := by
  unfold O_part_19 at ok
  unfold F_part_19 at hx
  refine r_iinc_3 (v := (x3 + nI 1)) dX12_part_19 rfl (by first | rfl | (congr 1)) (by decide) rfl ?_
  refine r_goto (tgt := 2) dX12_part_22 (by decide) ?_
  exact rX.cutz (hrec _ _ _ S ok hx) ⟨rfl, rfl, rfl, rfl, trivial⟩
def B_part_2 (N : Nat) (rec : Int32 → Int32 → Int32 → rS → Nat × rS) (x1 : Int32) (x2 : Int32) (x3 : Int32) (S : rS) : Nat × rS := (if x2 ≤ x3 then (0, S) else (F_part_19 N rec x1 x2 x3 (f_partByte N S (S.2.1 32 (x1 + x3).toNatClampNeg))))
def OB_part_2 (N : Nat) (rok : Int32 → Int32 → Int32 → rS → Prop) (x1 : Int32) (x2 : Int32) (x3 : Int32) (S : rS) : Prop := ((x2 ≤ x3 → True) ∧ (¬ x2 ≤ x3 → (vp_in (x1 + x3) 1010) ∧ (o_partByte N S (S.2.1 32 (x1 + x3).toNatClampNeg)) ∧ O_part_19 N rok x1 x2 x3 (f_partByte N S (S.2.1 32 (x1 + x3).toNatClampNeg))))
set_option maxHeartbeats 4000000 in
theorem bb_part_2 {G : zG} {E : rE} {S : rS} {N : Nat} {Q : Option Value → rS → Prop} {X : Nat × rS → Prop} (hG : zOK G) (hX0 : ∀ (S' : rS), X (0, S') → rX G E dX12_part mX12_part 25 [some (.ref E.1), none, none, none] [] S' Q) {rec : Int32 → Int32 → Int32 → rS → Nat × rS} {rok : Int32 → Int32 → Int32 → rS → Prop} (hrec : ∀ (x1 : Int32) (x2 : Int32) (x3 : Int32) (S : rS), rok x1 x2 x3 S → X (rec x1 x2 x3 S) → rX G E dX12_part mX12_part 2 [some (.ref E.1), some (.int x1), some (.int x2), some (.int x3)] [] S Q) {x1 : Int32} {x2 : Int32} {x3 : Int32} (ok : OB_part_2 N rok x1 x2 x3 S) (hx : X (B_part_2 N rec x1 x2 x3 S)) : rX G E dX12_part mX12_part 2 [some (.ref E.1), some (.int x1), some (.int x2), some (.int x3)] [] S Q := by
  unfold OB_part_2 at ok
  unfold B_part_2 at hx
  refine r_iload_n dX12_part_2 rfl rfl ?_
  refine r_iload_n dX12_part_3 rfl rfl ?_
  refine r_icmp_ge (tgt := 25) dX12_part_4 (by decide) (fun c_4 => ?_) (fun c_4 => ?_)
  · have ok := ok.1 c_4
    have hx := xif_p c_4 hx
    exact rX.cutz (hX0 S hx) ⟨rfl, trivial⟩
  · have ok := ok.2 c_4
    have hx := xif_n c_4 hx
    refine r_aload_n dX12_part_7 rfl rfl ?_
    refine r_aload_n dX12_part_8 rfl rfl ?_
    refine r_getA 32 fX12_204 (by decide) (by decide) dX12_part_9 ?_
    refine r_iload_n dX12_part_12 rfl rfl ?_
    refine r_iload_n dX12_part_13 rfl rfl ?_
    refine r_iadd dX12_part_14 ?_
    refine r_iald (by decide) (by decide) dX12_part_15 ok.1 ?_
    have ok := ok.2
    refine r_V1v (y' := mX12_partByte) dX12_part_16 lX12_124 kX12_partByte ⟨by decide, by decide⟩ rfl (Nat.le_of_ble_eq_true rfl) (rc_X12_partByte hG ok.1) (fun S_16 h_16 => ?_)
    subst h_16
    have ok := ok.2
    exact rX.cutz (b_part_19 hG hX0 hrec ok hx) ⟨rfl, rfl, rfl, rfl, trivial⟩
def L_part_2 (N : Nat) : Nat → Int32 → Int32 → Int32 → rS → Nat × rS
  | 0, x1, x2, x3, S => (0, S)
  | n + 1, x1, x2, x3, S => B_part_2 N (L_part_2 N n) x1 x2 x3 S
def OL_part_2 (N : Nat) : Nat → Int32 → Int32 → Int32 → rS → Prop
  | 0, _, _, _, _ => False
  | n + 1, x1, x2, x3, S => OB_part_2 N (OL_part_2 N n) x1 x2 x3 S
set_option maxHeartbeats 4000000 in
theorem l_part_2 {G : zG} {E : rE} {N : Nat} {Q : Option Value → rS → Prop} {X : Nat × rS → Prop} (hG : zOK G) (hX0 : ∀ (S' : rS), X (0, S') → rX G E dX12_part mX12_part 25 [some (.ref E.1), none, none, none] [] S' Q) : ∀ (n : Nat) (x1 : Int32) (x2 : Int32) (x3 : Int32) (S : rS), OL_part_2 N n x1 x2 x3 S → X (L_part_2 N n x1 x2 x3 S) → rX G E dX12_part mX12_part 2 [some (.ref E.1), some (.int x1), some (.int x2), some (.int x3)] [] S Q := by
  intro n
  induction n with
  | zero => intro x1 x2 x3 S ok; exact absurd ok id
  | succ n ih =>
    intro x1 x2 x3 S ok hx
    exact bb_part_2 hG hX0 (rec := L_part_2 N n) (rok := OL_part_2 N n) (fun x1 x2 x3 S ok hx => ih x1 x2 x3 S ok hx) ok hx
def A_part_2 (N : Nat) (x1 : Int32) (x2 : Int32) (x3 : Int32) (S : rS) (z : Nat × rS) : rS := (F_part_25 N z.2)
def OA_part_2 (N : Nat) (x1 : Int32) (x2 : Int32) (x3 : Int32) (S : rS) (z : Nat × rS) : Prop := O_part_25 N z.2
set_option maxHeartbeats 4000000 in
theorem c_part_2 {G : zG} {E : rE} {S : rS} {N : Nat} {Q : Option Value → rS → Prop} {X : rS → Prop} (hG : zOK G) (hR : ∀ S', X S' → Q none S') {x1 : Int32} {x2 : Int32} {x3 : Int32} (ok : OL_part_2 N N x1 x2 x3 S ∧ OA_part_2 N x1 x2 x3 S (L_part_2 N N x1 x2 x3 S)) (hx : X (A_part_2 N x1 x2 x3 S (L_part_2 N N x1 x2 x3 S))) : rX G E dX12_part mX12_part 2 [some (.ref E.1), some (.int x1), some (.int x2), some (.int x3)] [] S Q := by
  refine l_part_2 hG ?_ N x1 x2 x3 S ok.1 (X := fun z => OA_part_2 N x1 x2 x3 S z ∧ X (A_part_2 N x1 x2 x3 S z)) ⟨ok.2, hx⟩
  · intro S' hz
    obtain ⟨ok, hx⟩ := hz
    unfold OA_part_2 at ok
    unfold A_part_2 at hx
    exact rX.cutz (b_part_25 hG hR ok hx) ⟨rfl, trivial⟩
def F_part_0 (N : Nat) (x1 : Int32) (x2 : Int32) (S : rS) : rS := (A_part_2 N x1 x2 (nI 0) S (L_part_2 N N x1 x2 (nI 0) S))
def O_part_0 (N : Nat) (x1 : Int32) (x2 : Int32) (S : rS) : Prop := (OL_part_2 N N x1 x2 (nI 0) S ∧ OA_part_2 N x1 x2 (nI 0) S (L_part_2 N N x1 x2 (nI 0) S))
set_option maxHeartbeats 4000000 in
theorem b_part_0 {G : zG} {E : rE} {S : rS} {N : Nat} {Q : Option Value → rS → Prop} {X : rS → Prop} (hG : zOK G) (hR : ∀ S', X S' → Q none S') {x1 : Int32} {x2 : Int32} (ok : O_part_0 N x1 x2 S) (hx : X (F_part_0 N x1 x2 S)) : rX G E dX12_part mX12_part 0 [some (.ref E.1), some (.int x1), some (.int x2), none] [] S Q := by
  unfold O_part_0 at ok
  unfold F_part_0 at hx
  refine r_iconst (v := nI 0) dX12_part_0 (by decide) ?_
  refine r_istore_3 dX12_part_1 (by decide) rfl ?_
  exact rX.cutz (c_part_2 hG hR ok hx) ⟨rfl, rfl, rfl, rfl, trivial⟩
def f_part (N : Nat) (S : rS) (x1 : Int32) (x2 : Int32) : rS := F_part_0 N x1 x2 S
def o_part (N : Nat) (S : rS) (x1 : Int32) (x2 : Int32) : Prop := O_part_0 N x1 x2 S
set_option maxHeartbeats 4000000 in
theorem rc_X12_part {G : zG} {E : rE} {S : rS} {N : Nat} (hG : zOK G) {x1 : Int32} {x2 : Int32} (ok : o_part N S x1 x2) : rCv G E dX12_part mX12_part [.ref E.1, .int x1, .int x2] S (fun S' => S' = f_part N S x1 x2) := by
  refine rC.ofX rfl (Nat.le_of_ble_eq_true rfl) ?_
  show rX G E dX12_part mX12_part 0 [some (.ref E.1), some (.int x1), some (.int x2), none] [] S _
  exact rX.cutz (b_part_0 (X := fun F => F = f_part N S x1 x2) hG (fun S' h => ⟨rfl, h⟩) ok rfl) ⟨rfl, rfl, rfl, trivial⟩
/-! readBlock -/
def F_readBlock_268 (N : Nat)  (S : rS) : Int32 × rS := ((nI 1), S)
def O_readBlock_268 (N : Nat)  (S : rS) : Prop := True
set_option maxHeartbeats 4000000 in
theorem b_readBlock_268 {G : zG} {E : rE} {S : rS} {N : Nat} {Q : Option Value → rS → Prop} {X : Int32 × rS → Prop} (hG : zOK G) (hR : ∀ v S', X (v, S') → Q (some (.int v)) S') (ok : O_readBlock_268 N S) (hx : X (F_readBlock_268 N S)) : rX G E dX12_readBlock mX12_readBlock 268 [none, none, none, none, none] [] S Q := by
  unfold O_readBlock_268 at ok
  unfold F_readBlock_268 at hx
  refine r_iconst (v := nI 1) dX12_readBlock_268 (by decide) ?_
  exact r_ireturn rfl rfl dX12_readBlock_269 (hR _ _ hx)
def F_readBlock_261 (N : Nat)  (S : rS) : Int32 × rS := (F_readBlock_268 N (f_identify N S (nI 1352)))
def O_readBlock_261 (N : Nat)  (S : rS) : Prop := (o_identify N S (nI 1352)) ∧ O_readBlock_268 N (f_identify N S (nI 1352))
set_option maxHeartbeats 4000000 in
theorem b_readBlock_261 {G : zG} {E : rE} {S : rS} {N : Nat} {Q : Option Value → rS → Prop} {X : Int32 × rS → Prop} (hG : zOK G) (hR : ∀ v S', X (v, S') → Q (some (.int v)) S') (ok : O_readBlock_261 N S) (hx : X (F_readBlock_261 N S)) : rX G E dX12_readBlock mX12_readBlock 261 [some (.ref E.1), none, none, none, none] [] S Q := by
  unfold O_readBlock_261 at ok
  unfold F_readBlock_261 at hx
  refine r_aload_n dX12_readBlock_261 rfl rfl ?_
  refine r_sipush (v := nI 1352) dX12_readBlock_262 (by decide) ?_
  refine r_V1v (y' := mX12_identify) dX12_readBlock_265 lX12_254 kX12_identify ⟨by decide, by decide⟩ rfl (Nat.le_of_ble_eq_true rfl) (rc_X12_identify hG ok.1) (fun S_265 h_265 => ?_)
  subst h_265
  have ok := ok.2
  exact rX.cutz (b_readBlock_268 hG hR ok hx) trivial
def F_readBlock_255 (N : Nat) (rec : Int32 → Int32 → rS → Nat × rS) (x1 : Int32) (x3 : Int32) (S : rS) : Nat × rS := (rec x1 (x3 + nI 1) S)
def O_readBlock_255 (N : Nat) (rok : Int32 → Int32 → rS → Prop) (x1 : Int32) (x3 : Int32) (S : rS) : Prop := rok x1 (x3 + nI 1) S
set_option maxHeartbeats 4000000 in
theorem b_readBlock_255 {G : zG} {E : rE} {S : rS} {N : Nat} {Q : Option Value → rS → Prop} {X : Nat × rS → Prop} (hG : zOK G) (hX0 : ∀ (S' : rS), X (0, S') → rX G E dX12_readBlock mX12_readBlock 261 [some (.ref E.1), none, none, none, none] [] S' Q) {rec : Int32 → Int32 → rS → Nat × rS} {rok : Int32 → Int32 → rS → Prop} (hrec : ∀ (x1 : Int32) (x3 : Int32) (S : rS), rok x1 x3 S → X (rec x1 x3 S) → rX G E dX12_readBlock mX12_readBlock 227 [some (.ref E.1), some (.int x1), none, some (.int x3), none] [] S Q) {x1 : Int32} {x3 : Int32} (ok : O_readBlock_255 N rok x1 x3 S) (hx : X (F_readBlock_255 N rec x1 x3 S)) : rX G E dX12_readBlock mX12_readBlock 255 [some (.ref E.1), some (.int x1), none, some (.int x3), none] [] S Q := by
  unfold O_readBlock_255 at ok
  unfold F_readBlock_255 at hx
  refine r_iinc_3 (v := (x3 + nI 1)) dX12_readBlock_255 rfl (by first | rfl | (congr 1)) (by decide) rfl ?_
  refine r_goto (tgt := 227) dX12_readBlock_258 (by decide) ?_
  exact rX.cutz (hrec _ _ S ok hx) ⟨rfl, rfl, rfl, trivial⟩
def B_readBlock_227 (N : Nat) (rec : Int32 → Int32 → rS → Nat × rS) (x1 : Int32) (x3 : Int32) (S : rS) : Nat × rS := (if (S.2.1 14 (nI 1352).toNatClampNeg) ≤ x3 then (0, S) else (F_readBlock_255 N rec x1 x3 (f_setByte N S (nI 1352) x3 (S.2.1 32 (x1 + x3).toNatClampNeg))))
def OB_readBlock_227 (N : Nat) (rok : Int32 → Int32 → rS → Prop) (x1 : Int32) (x3 : Int32) (S : rS) : Prop := (vp_in (nI 1352) 1354) ∧ (((S.2.1 14 (nI 1352).toNatClampNeg) ≤ x3 → True) ∧ (¬ (S.2.1 14 (nI 1352).toNatClampNeg) ≤ x3 → (vp_in (x1 + x3) 1010) ∧ (o_setByte N S (nI 1352) x3 (S.2.1 32 (x1 + x3).toNatClampNeg)) ∧ O_readBlock_255 N rok x1 x3 (f_setByte N S (nI 1352) x3 (S.2.1 32 (x1 + x3).toNatClampNeg))))
set_option maxHeartbeats 4000000 in
theorem bb_readBlock_227 {G : zG} {E : rE} {S : rS} {N : Nat} {Q : Option Value → rS → Prop} {X : Nat × rS → Prop} (hG : zOK G) (hX0 : ∀ (S' : rS), X (0, S') → rX G E dX12_readBlock mX12_readBlock 261 [some (.ref E.1), none, none, none, none] [] S' Q) {rec : Int32 → Int32 → rS → Nat × rS} {rok : Int32 → Int32 → rS → Prop} (hrec : ∀ (x1 : Int32) (x3 : Int32) (S : rS), rok x1 x3 S → X (rec x1 x3 S) → rX G E dX12_readBlock mX12_readBlock 227 [some (.ref E.1), some (.int x1), none, some (.int x3), none] [] S Q) {x1 : Int32} {x3 : Int32} (ok : OB_readBlock_227 N rok x1 x3 S) (hx : X (B_readBlock_227 N rec x1 x3 S)) : rX G E dX12_readBlock mX12_readBlock 227 [some (.ref E.1), some (.int x1), none, some (.int x3), none] [] S Q := by
  unfold OB_readBlock_227 at ok
  unfold B_readBlock_227 at hx
  refine r_iload_n dX12_readBlock_227 rfl rfl ?_
  refine r_aload_n dX12_readBlock_228 rfl rfl ?_
  refine r_getA 14 fX12_57 (by decide) (by decide) dX12_readBlock_229 ?_
  refine r_sipush (v := nI 1352) dX12_readBlock_232 (by decide) ?_
  refine r_iald (by decide) (by decide) dX12_readBlock_235 ok.1 ?_
  have ok := ok.2
  refine r_icmp_ge (tgt := 261) dX12_readBlock_236 (by decide) (fun c_236 => ?_) (fun c_236 => ?_)
  · have ok := ok.1 c_236
    have hx := xif_p c_236 hx
    exact rX.cutz (hX0 S hx) ⟨rfl, trivial⟩
  · have ok := ok.2 c_236
    have hx := xif_n c_236 hx
    refine r_aload_n dX12_readBlock_239 rfl rfl ?_
    refine r_sipush (v := nI 1352) dX12_readBlock_240 (by decide) ?_
    refine r_iload_n dX12_readBlock_243 rfl rfl ?_
    refine r_aload_n dX12_readBlock_244 rfl rfl ?_
    refine r_getA 32 fX12_204 (by decide) (by decide) dX12_readBlock_245 ?_
    refine r_iload_n dX12_readBlock_248 rfl rfl ?_
    refine r_iload_n dX12_readBlock_249 rfl rfl ?_
    refine r_iadd dX12_readBlock_250 ?_
    refine r_iald (by decide) (by decide) dX12_readBlock_251 ok.1 ?_
    have ok := ok.2
    refine r_V3v (y' := mX12_setByte) dX12_readBlock_252 lX12_250 kX12_setByte ⟨by decide, by decide⟩ rfl (Nat.le_of_ble_eq_true rfl) (rc_X12_setByte hG ok.1) (fun S_252 h_252 => ?_)
    subst h_252
    have ok := ok.2
    exact rX.cutz (b_readBlock_255 hG hX0 hrec ok hx) ⟨rfl, rfl, rfl, trivial⟩
def L_readBlock_227 (N : Nat) : Nat → Int32 → Int32 → rS → Nat × rS
  | 0, x1, x3, S => (0, S)
  | n + 1, x1, x3, S => B_readBlock_227 N (L_readBlock_227 N n) x1 x3 S
def OL_readBlock_227 (N : Nat) : Nat → Int32 → Int32 → rS → Prop
  | 0, _, _, _ => False
  | n + 1, x1, x3, S => OB_readBlock_227 N (OL_readBlock_227 N n) x1 x3 S
set_option maxHeartbeats 4000000 in
theorem l_readBlock_227 {G : zG} {E : rE} {N : Nat} {Q : Option Value → rS → Prop} {X : Nat × rS → Prop} (hG : zOK G) (hX0 : ∀ (S' : rS), X (0, S') → rX G E dX12_readBlock mX12_readBlock 261 [some (.ref E.1), none, none, none, none] [] S' Q) : ∀ (n : Nat) (x1 : Int32) (x3 : Int32) (S : rS), OL_readBlock_227 N n x1 x3 S → X (L_readBlock_227 N n x1 x3 S) → rX G E dX12_readBlock mX12_readBlock 227 [some (.ref E.1), some (.int x1), none, some (.int x3), none] [] S Q := by
  intro n
  induction n with
  | zero => intro x1 x3 S ok; exact absurd ok id
  | succ n ih =>
    intro x1 x3 S ok hx
    exact bb_readBlock_227 hG hX0 (rec := L_readBlock_227 N n) (rok := OL_readBlock_227 N n) (fun x1 x3 S ok hx => ih x1 x3 S ok hx) ok hx
def A_readBlock_227 (N : Nat) (x1 : Int32) (x3 : Int32) (S : rS) (z : Nat × rS) : Int32 × rS := (F_readBlock_261 N z.2)
def OA_readBlock_227 (N : Nat) (x1 : Int32) (x3 : Int32) (S : rS) (z : Nat × rS) : Prop := O_readBlock_261 N z.2
set_option maxHeartbeats 4000000 in
theorem c_readBlock_227 {G : zG} {E : rE} {S : rS} {N : Nat} {Q : Option Value → rS → Prop} {X : Int32 × rS → Prop} (hG : zOK G) (hR : ∀ v S', X (v, S') → Q (some (.int v)) S') {x1 : Int32} {x3 : Int32} (ok : OL_readBlock_227 N N x1 x3 S ∧ OA_readBlock_227 N x1 x3 S (L_readBlock_227 N N x1 x3 S)) (hx : X (A_readBlock_227 N x1 x3 S (L_readBlock_227 N N x1 x3 S))) : rX G E dX12_readBlock mX12_readBlock 227 [some (.ref E.1), some (.int x1), none, some (.int x3), none] [] S Q := by
  refine l_readBlock_227 hG ?_ N x1 x3 S ok.1 (X := fun z => OA_readBlock_227 N x1 x3 S z ∧ X (A_readBlock_227 N x1 x3 S z)) ⟨ok.2, hx⟩
  · intro S' hz
    obtain ⟨ok, hx⟩ := hz
    unfold OA_readBlock_227 at ok
    unfold A_readBlock_227 at hx
    exact rX.cutz (b_readBlock_261 hG hR ok hx) ⟨rfl, trivial⟩
def F_readBlock_211 (N : Nat) (x1 : Int32) (S : rS) : Int32 × rS := (A_readBlock_227 N x1 (nI 0) (rsA S 14 (nI 1352).toNatClampNeg ((S.1 33) - x1)) (L_readBlock_227 N N x1 (nI 0) (rsA S 14 (nI 1352).toNatClampNeg ((S.1 33) - x1))))
def O_readBlock_211 (N : Nat) (x1 : Int32) (S : rS) : Prop := (vp_in (nI 1352) 1354) ∧ (OL_readBlock_227 N N x1 (nI 0) (rsA S 14 (nI 1352).toNatClampNeg ((S.1 33) - x1)) ∧ OA_readBlock_227 N x1 (nI 0) (rsA S 14 (nI 1352).toNatClampNeg ((S.1 33) - x1)) (L_readBlock_227 N N x1 (nI 0) (rsA S 14 (nI 1352).toNatClampNeg ((S.1 33) - x1))))
set_option maxHeartbeats 4000000 in
theorem b_readBlock_211 {G : zG} {E : rE} {S : rS} {N : Nat} {Q : Option Value → rS → Prop} {X : Int32 × rS → Prop} (hG : zOK G) (hR : ∀ v S', X (v, S') → Q (some (.int v)) S') {x1 : Int32} (ok : O_readBlock_211 N x1 S) (hx : X (F_readBlock_211 N x1 S)) : rX G E dX12_readBlock mX12_readBlock 211 [some (.ref E.1), some (.int x1), none, none, none] [] S Q := by
  unfold O_readBlock_211 at ok
  unfold F_readBlock_211 at hx
  refine r_aload_n dX12_readBlock_211 rfl rfl ?_
  refine r_getA 14 fX12_57 (by decide) (by decide) dX12_readBlock_212 ?_
  refine r_sipush (v := nI 1352) dX12_readBlock_215 (by decide) ?_
  refine r_aload_n dX12_readBlock_218 rfl rfl ?_
  refine r_getI 33 fX12_201 (by decide) (by decide) dX12_readBlock_219 ?_
  refine r_iload_n dX12_readBlock_222 rfl rfl ?_
  refine r_isub dX12_readBlock_223 ?_
  refine r_iast hG (by decide) (by decide) dX12_readBlock_224 ok.1 ?_
  have ok := ok.2
  refine r_iconst (v := nI 0) dX12_readBlock_225 (by decide) ?_
  refine r_istore_3 dX12_readBlock_226 (by decide) rfl ?_
  exact rX.cutz (c_readBlock_227 hG hR ok hx) ⟨rfl, rfl, rfl, trivial⟩
def F_readBlock_203 (N : Nat)  (S : rS) : Int32 × rS := ((nI 0), S)
def O_readBlock_203 (N : Nat)  (S : rS) : Prop := True
set_option maxHeartbeats 4000000 in
theorem b_readBlock_203 {G : zG} {E : rE} {S : rS} {N : Nat} {Q : Option Value → rS → Prop} {X : Int32 × rS → Prop} (hG : zOK G) (hR : ∀ v S', X (v, S') → Q (some (.int v)) S') (ok : O_readBlock_203 N S) (hx : X (F_readBlock_203 N S)) : rX G E dX12_readBlock mX12_readBlock 203 [none, none, none, none, none] [] S Q := by
  unfold O_readBlock_203 at ok
  unfold F_readBlock_203 at hx
  refine r_iconst (v := nI 0) dX12_readBlock_203 (by decide) ?_
  exact r_ireturn rfl rfl dX12_readBlock_204 (hR _ _ hx)
def B_readBlock_178 (N : Nat) (rec : Int32 → Int32 → rS → Nat × Int32 × rS) (x1 : Int32) (x3 : Int32) (S : rS) : Nat × Int32 × rS := (if (nI 32) ≤ x3 then (1, x1, S) else (if (S.2.1 32 ((x1 + (nI 67)) + x3).toNatClampNeg) = (f_rootByte N S x3) then (rec x1 (x3 + nI 1) S) else (0, 0, S)))
def OB_readBlock_178 (N : Nat) (rok : Int32 → Int32 → rS → Prop) (x1 : Int32) (x3 : Int32) (S : rS) : Prop := (((nI 32) ≤ x3 → True) ∧ (¬ (nI 32) ≤ x3 → (vp_in ((x1 + (nI 67)) + x3) 1010) ∧ (o_rootByte N S x3) ∧ (((S.2.1 32 ((x1 + (nI 67)) + x3).toNatClampNeg) = (f_rootByte N S x3) → rok x1 (x3 + nI 1) S) ∧ (¬ (S.2.1 32 ((x1 + (nI 67)) + x3).toNatClampNeg) = (f_rootByte N S x3) → True))))
set_option maxHeartbeats 4000000 in
theorem bb_readBlock_178 {G : zG} {E : rE} {S : rS} {N : Nat} {Q : Option Value → rS → Prop} {X : Nat × Int32 × rS → Prop} (hG : zOK G) (hX0 : ∀ (x1 : Int32) (S' : rS), X (0, x1, S') → rX G E dX12_readBlock mX12_readBlock 203 [none, none, none, none, none] [] S' Q) (hX1 : ∀ (x1 : Int32) (S' : rS), X (1, x1, S') → rX G E dX12_readBlock mX12_readBlock 211 [some (.ref E.1), some (.int x1), none, none, none] [] S' Q) {rec : Int32 → Int32 → rS → Nat × Int32 × rS} {rok : Int32 → Int32 → rS → Prop} (hrec : ∀ (x1 : Int32) (x3 : Int32) (S : rS), rok x1 x3 S → X (rec x1 x3 S) → rX G E dX12_readBlock mX12_readBlock 178 [some (.ref E.1), some (.int x1), none, some (.int x3), none] [] S Q) {x1 : Int32} {x3 : Int32} (ok : OB_readBlock_178 N rok x1 x3 S) (hx : X (B_readBlock_178 N rec x1 x3 S)) : rX G E dX12_readBlock mX12_readBlock 178 [some (.ref E.1), some (.int x1), none, some (.int x3), none] [] S Q := by
  unfold OB_readBlock_178 at ok
  unfold B_readBlock_178 at hx
  refine r_iload_n dX12_readBlock_178 rfl rfl ?_
  refine r_bipush (v := nI 32) dX12_readBlock_179 (by decide) ?_
  refine r_icmp_ge (tgt := 211) dX12_readBlock_181 (by decide) (fun c_181 => ?_) (fun c_181 => ?_)
  · have ok := ok.1 c_181
    have hx := xif_p c_181 hx
    exact rX.cutz (hX1 _ S hx) ⟨rfl, rfl, trivial⟩
  · have ok := ok.2 c_181
    have hx := xif_n c_181 hx
    refine r_aload_n dX12_readBlock_184 rfl rfl ?_
    refine r_getA 32 fX12_204 (by decide) (by decide) dX12_readBlock_185 ?_
    refine r_iload_n dX12_readBlock_188 rfl rfl ?_
    refine r_bipush (v := nI 67) dX12_readBlock_189 (by decide) ?_
    refine r_iadd dX12_readBlock_191 ?_
    refine r_iload_n dX12_readBlock_192 rfl rfl ?_
    refine r_iadd dX12_readBlock_193 ?_
    refine r_iald (by decide) (by decide) dX12_readBlock_194 ok.1 ?_
    have ok := ok.2
    refine r_aload_n dX12_readBlock_195 rfl rfl ?_
    refine r_iload_n dX12_readBlock_196 rfl rfl ?_
    refine r_V1i (y' := mX12_rootByte) dX12_readBlock_197 lX12_152 kX12_rootByte ⟨by decide, by decide⟩ rfl (Nat.le_of_ble_eq_true rfl) (rc_X12_rootByte hG ok.1) (fun v_197 S_197 h_197 => ?_)
    obtain ⟨rfl, hS_197⟩ := h_197
    have hS_197 := hS_197.symm
    subst hS_197
    have ok := ok.2
    refine r_icmp_eq (tgt := 205) dX12_readBlock_200 (by decide) (fun c_200 => ?_) (fun c_200 => ?_)
    · have ok := ok.1 c_200
      have hx := xif_p c_200 hx
      refine r_iinc_3 (v := (x3 + nI 1)) dX12_readBlock_205 rfl (by first | rfl | (congr 1)) (by decide) rfl ?_
      refine r_goto (tgt := 178) dX12_readBlock_208 (by decide) ?_
      exact rX.cutz (hrec _ _ S ok hx) ⟨rfl, rfl, rfl, trivial⟩
    · have ok := ok.2 c_200
      have hx := xif_n c_200 hx
      exact rX.cutz (hX0 _ S hx) trivial
def L_readBlock_178 (N : Nat) : Nat → Int32 → Int32 → rS → Nat × Int32 × rS
  | 0, x1, x3, S => (0, 0, S)
  | n + 1, x1, x3, S => B_readBlock_178 N (L_readBlock_178 N n) x1 x3 S
def OL_readBlock_178 (N : Nat) : Nat → Int32 → Int32 → rS → Prop
  | 0, _, _, _ => False
  | n + 1, x1, x3, S => OB_readBlock_178 N (OL_readBlock_178 N n) x1 x3 S
set_option maxHeartbeats 4000000 in
theorem l_readBlock_178 {G : zG} {E : rE} {N : Nat} {Q : Option Value → rS → Prop} {X : Nat × Int32 × rS → Prop} (hG : zOK G) (hX0 : ∀ (x1 : Int32) (S' : rS), X (0, x1, S') → rX G E dX12_readBlock mX12_readBlock 203 [none, none, none, none, none] [] S' Q) (hX1 : ∀ (x1 : Int32) (S' : rS), X (1, x1, S') → rX G E dX12_readBlock mX12_readBlock 211 [some (.ref E.1), some (.int x1), none, none, none] [] S' Q) : ∀ (n : Nat) (x1 : Int32) (x3 : Int32) (S : rS), OL_readBlock_178 N n x1 x3 S → X (L_readBlock_178 N n x1 x3 S) → rX G E dX12_readBlock mX12_readBlock 178 [some (.ref E.1), some (.int x1), none, some (.int x3), none] [] S Q := by
  intro n
  induction n with
  | zero => intro x1 x3 S ok; exact absurd ok id
  | succ n ih =>
    intro x1 x3 S ok hx
    exact bb_readBlock_178 hG hX0 hX1 (rec := L_readBlock_178 N n) (rok := OL_readBlock_178 N n) (fun x1 x3 S ok hx => ih x1 x3 S ok hx) ok hx
def A_readBlock_178 (N : Nat) (x1 : Int32) (x3 : Int32) (S : rS) (z : Nat × Int32 × rS) : Int32 × rS := (if z.1 = 0 then (F_readBlock_203 N z.2.2) else (F_readBlock_211 N (z.2.1) z.2.2))
def OA_readBlock_178 (N : Nat) (x1 : Int32) (x3 : Int32) (S : rS) (z : Nat × Int32 × rS) : Prop := (if z.1 = 0 then O_readBlock_203 N z.2.2 else O_readBlock_211 N (z.2.1) z.2.2)
set_option maxHeartbeats 4000000 in
theorem c_readBlock_178 {G : zG} {E : rE} {S : rS} {N : Nat} {Q : Option Value → rS → Prop} {X : Int32 × rS → Prop} (hG : zOK G) (hR : ∀ v S', X (v, S') → Q (some (.int v)) S') {x1 : Int32} {x3 : Int32} (ok : OL_readBlock_178 N N x1 x3 S ∧ OA_readBlock_178 N x1 x3 S (L_readBlock_178 N N x1 x3 S)) (hx : X (A_readBlock_178 N x1 x3 S (L_readBlock_178 N N x1 x3 S))) : rX G E dX12_readBlock mX12_readBlock 178 [some (.ref E.1), some (.int x1), none, some (.int x3), none] [] S Q := by
  refine l_readBlock_178 hG ?_ ?_ N x1 x3 S ok.1 (X := fun z => OA_readBlock_178 N x1 x3 S z ∧ X (A_readBlock_178 N x1 x3 S z)) ⟨ok.2, hx⟩
  · intro x1' S' hz
    obtain ⟨ok, hx⟩ := hz
    unfold OA_readBlock_178 at ok
    unfold A_readBlock_178 at hx
    have ok := xif_P (show (0 : Nat) = 0 from rfl) ok
    have hx := xif_p (show (0 : Nat) = 0 from rfl) hx
    exact rX.cutz (b_readBlock_203 hG hR ok hx) trivial
  · intro x1' S' hz
    obtain ⟨ok, hx⟩ := hz
    unfold OA_readBlock_178 at ok
    unfold A_readBlock_178 at hx
    have ok := xif_N (show ¬ (1 : Nat) = 0 by decide) ok
    have hx := xif_n (show ¬ (1 : Nat) = 0 by decide) hx
    exact rX.cutz (b_readBlock_211 hG hR ok hx) ⟨rfl, rfl, trivial⟩
def F_readBlock_176 (N : Nat) (x1 : Int32) (S : rS) : Int32 × rS := (A_readBlock_178 N x1 (nI 0) S (L_readBlock_178 N N x1 (nI 0) S))
def O_readBlock_176 (N : Nat) (x1 : Int32) (S : rS) : Prop := (OL_readBlock_178 N N x1 (nI 0) S ∧ OA_readBlock_178 N x1 (nI 0) S (L_readBlock_178 N N x1 (nI 0) S))
set_option maxHeartbeats 4000000 in
theorem b_readBlock_176 {G : zG} {E : rE} {S : rS} {N : Nat} {Q : Option Value → rS → Prop} {X : Int32 × rS → Prop} (hG : zOK G) (hR : ∀ v S', X (v, S') → Q (some (.int v)) S') {x1 : Int32} (ok : O_readBlock_176 N x1 S) (hx : X (F_readBlock_176 N x1 S)) : rX G E dX12_readBlock mX12_readBlock 176 [some (.ref E.1), some (.int x1), none, none, none] [] S Q := by
  unfold O_readBlock_176 at ok
  unfold F_readBlock_176 at hx
  refine r_iconst (v := nI 0) dX12_readBlock_176 (by decide) ?_
  refine r_istore_3 dX12_readBlock_177 (by decide) rfl ?_
  exact rX.cutz (c_readBlock_178 hG hR ok hx) ⟨rfl, rfl, rfl, trivial⟩
def F_readBlock_162 (N : Nat) (x1 : Int32) (x2 : Int32) (S : rS) : Int32 × rS := (if x2 = (S.1 33) then (F_readBlock_176 N x1 (f_root_ N S)) else ((nI 0), S))
def O_readBlock_162 (N : Nat) (x1 : Int32) (x2 : Int32) (S : rS) : Prop := ((x2 = (S.1 33) → (o_root_ N S) ∧ O_readBlock_176 N x1 (f_root_ N S)) ∧ (¬ x2 = (S.1 33) → True))
set_option maxHeartbeats 4000000 in
theorem b_readBlock_162 {G : zG} {E : rE} {S : rS} {N : Nat} {Q : Option Value → rS → Prop} {X : Int32 × rS → Prop} (hG : zOK G) (hR : ∀ v S', X (v, S') → Q (some (.int v)) S') {x1 : Int32} {x2 : Int32} (ok : O_readBlock_162 N x1 x2 S) (hx : X (F_readBlock_162 N x1 x2 S)) : rX G E dX12_readBlock mX12_readBlock 162 [some (.ref E.1), some (.int x1), some (.int x2), none, none] [] S Q := by
  unfold O_readBlock_162 at ok
  unfold F_readBlock_162 at hx
  refine r_iload_n dX12_readBlock_162 rfl rfl ?_
  refine r_aload_n dX12_readBlock_163 rfl rfl ?_
  refine r_getI 33 fX12_201 (by decide) (by decide) dX12_readBlock_164 ?_
  refine r_icmp_eq (tgt := 172) dX12_readBlock_167 (by decide) (fun c_167 => ?_) (fun c_167 => ?_)
  · have ok := ok.1 c_167
    have hx := xif_p c_167 hx
    refine r_aload_n dX12_readBlock_172 rfl rfl ?_
    refine r_V0v (y' := mX12_root_) dX12_readBlock_173 lX12_150 kX12_root_ ⟨by decide, by decide⟩ rfl (Nat.le_of_ble_eq_true rfl) (rc_X12_root_ hG ok.1) (fun S_173 h_173 => ?_)
    subst h_173
    have ok := ok.2
    exact rX.cutz (b_readBlock_176 hG hR ok hx) ⟨rfl, rfl, trivial⟩
  · have ok := ok.2 c_167
    have hx := xif_n c_167 hx
    refine r_iconst (v := nI 0) dX12_readBlock_170 (by decide) ?_
    exact r_ireturn rfl rfl dX12_readBlock_171 (hR _ _ hx)
def F_readBlock_151 (N : Nat) (rec : Int32 → Int32 → Int32 → rS → Nat × Int32 × Int32 × rS) (x1 : Int32) (x2 : Int32) (x3 : Int32) (S : rS) : Nat × Int32 × Int32 × rS := (rec x1 (x2 + (nI 7)) (x3 + nI 1) S)
def O_readBlock_151 (N : Nat) (rok : Int32 → Int32 → Int32 → rS → Prop) (x1 : Int32) (x2 : Int32) (x3 : Int32) (S : rS) : Prop := rok x1 (x2 + (nI 7)) (x3 + nI 1) S
set_option maxHeartbeats 4000000 in
theorem b_readBlock_151 {G : zG} {E : rE} {S : rS} {N : Nat} {Q : Option Value → rS → Prop} {X : Nat × Int32 × Int32 × rS → Prop} (hG : zOK G) (hX0 : ∀ (x1 : Int32) (x2 : Int32) (S' : rS), X (0, x1, x2, S') → rX G E dX12_readBlock mX12_readBlock 142 [none, none, none, none, none] [] S' Q) (hX1 : ∀ (x1 : Int32) (x2 : Int32) (S' : rS), X (1, x1, x2, S') → rX G E dX12_readBlock mX12_readBlock 162 [some (.ref E.1), some (.int x1), some (.int x2), none, none] [] S' Q) {rec : Int32 → Int32 → Int32 → rS → Nat × Int32 × Int32 × rS} {rok : Int32 → Int32 → Int32 → rS → Prop} (hrec : ∀ (x1 : Int32) (x2 : Int32) (x3 : Int32) (S : rS), rok x1 x2 x3 S → X (rec x1 x2 x3 S) → rX G E dX12_readBlock mX12_readBlock 121 [some (.ref E.1), some (.int x1), some (.int x2), some (.int x3), none] [] S Q) {x1 : Int32} {x2 : Int32} {x3 : Int32} (ok : O_readBlock_151 N rok x1 x2 x3 S) (hx : X (F_readBlock_151 N rec x1 x2 x3 S)) : rX G E dX12_readBlock mX12_readBlock 151 [some (.ref E.1), some (.int x1), some (.int x2), some (.int x3), none] [] S Q := by
  unfold O_readBlock_151 at ok
  unfold F_readBlock_151 at hx
  refine r_iload_n dX12_readBlock_151 rfl rfl ?_
  refine r_bipush (v := nI 7) dX12_readBlock_152 (by decide) ?_
  refine r_iadd dX12_readBlock_154 ?_
  refine r_istore_2 dX12_readBlock_155 (by decide) rfl ?_
  refine r_iinc_3 (v := (x3 + nI 1)) dX12_readBlock_156 rfl (by first | rfl | (congr 1)) (by decide) rfl ?_
  refine r_goto (tgt := 121) dX12_readBlock_159 (by decide) ?_
  exact rX.cutz (hrec _ _ _ S ok hx) ⟨rfl, rfl, rfl, rfl, trivial⟩
def F_readBlock_142 (N : Nat)  (S : rS) : Int32 × rS := ((nI 0), S)
def O_readBlock_142 (N : Nat)  (S : rS) : Prop := True
set_option maxHeartbeats 4000000 in
theorem b_readBlock_142 {G : zG} {E : rE} {S : rS} {N : Nat} {Q : Option Value → rS → Prop} {X : Int32 × rS → Prop} (hG : zOK G) (hR : ∀ v S', X (v, S') → Q (some (.int v)) S') (ok : O_readBlock_142 N S) (hx : X (F_readBlock_142 N S)) : rX G E dX12_readBlock mX12_readBlock 142 [none, none, none, none, none] [] S Q := by
  unfold O_readBlock_142 at ok
  unfold F_readBlock_142 at hx
  refine r_iconst (v := nI 0) dX12_readBlock_142 (by decide) ?_
  exact r_ireturn rfl rfl dX12_readBlock_143 (hR _ _ hx)
def B_readBlock_121 (N : Nat) (rec : Int32 → Int32 → Int32 → rS → Nat × Int32 × Int32 × rS) (x1 : Int32) (x2 : Int32) (x3 : Int32) (S : rS) : Nat × Int32 × Int32 × rS := (if (S.2.1 32 (x1 + (nI 99)).toNatClampNeg) ≤ x3 then (1, x1, x2, S) else (if (f_isPaymentAt N S x2) = 0 then (0, 0, 0, S) else (F_readBlock_151 N rec x1 x2 x3 (f_part N S x2 (nI 7)))))
def OB_readBlock_121 (N : Nat) (rok : Int32 → Int32 → Int32 → rS → Prop) (x1 : Int32) (x2 : Int32) (x3 : Int32) (S : rS) : Prop := (vp_in (x1 + (nI 99)) 1010) ∧ (((S.2.1 32 (x1 + (nI 99)).toNatClampNeg) ≤ x3 → True) ∧ (¬ (S.2.1 32 (x1 + (nI 99)).toNatClampNeg) ≤ x3 → (o_isPaymentAt N S x2) ∧ (((f_isPaymentAt N S x2) = 0 → True) ∧ (¬ (f_isPaymentAt N S x2) = 0 → (o_part N S x2 (nI 7)) ∧ O_readBlock_151 N rok x1 x2 x3 (f_part N S x2 (nI 7))))))
set_option maxHeartbeats 4000000 in
theorem bb_readBlock_121 {G : zG} {E : rE} {S : rS} {N : Nat} {Q : Option Value → rS → Prop} {X : Nat × Int32 × Int32 × rS → Prop} (hG : zOK G) (hX0 : ∀ (x1 : Int32) (x2 : Int32) (S' : rS), X (0, x1, x2, S') → rX G E dX12_readBlock mX12_readBlock 142 [none, none, none, none, none] [] S' Q) (hX1 : ∀ (x1 : Int32) (x2 : Int32) (S' : rS), X (1, x1, x2, S') → rX G E dX12_readBlock mX12_readBlock 162 [some (.ref E.1), some (.int x1), some (.int x2), none, none] [] S' Q) {rec : Int32 → Int32 → Int32 → rS → Nat × Int32 × Int32 × rS} {rok : Int32 → Int32 → Int32 → rS → Prop} (hrec : ∀ (x1 : Int32) (x2 : Int32) (x3 : Int32) (S : rS), rok x1 x2 x3 S → X (rec x1 x2 x3 S) → rX G E dX12_readBlock mX12_readBlock 121 [some (.ref E.1), some (.int x1), some (.int x2), some (.int x3), none] [] S Q) {x1 : Int32} {x2 : Int32} {x3 : Int32} (ok : OB_readBlock_121 N rok x1 x2 x3 S) (hx : X (B_readBlock_121 N rec x1 x2 x3 S)) : rX G E dX12_readBlock mX12_readBlock 121 [some (.ref E.1), some (.int x1), some (.int x2), some (.int x3), none] [] S Q := by
  unfold OB_readBlock_121 at ok
  unfold B_readBlock_121 at hx
  refine r_iload_n dX12_readBlock_121 rfl rfl ?_
  refine r_aload_n dX12_readBlock_122 rfl rfl ?_
  refine r_getA 32 fX12_204 (by decide) (by decide) dX12_readBlock_123 ?_
  refine r_iload_n dX12_readBlock_126 rfl rfl ?_
  refine r_bipush (v := nI 99) dX12_readBlock_127 (by decide) ?_
  refine r_iadd dX12_readBlock_129 ?_
  refine r_iald (by decide) (by decide) dX12_readBlock_130 ok.1 ?_
  have ok := ok.2
  refine r_icmp_ge (tgt := 162) dX12_readBlock_131 (by decide) (fun c_131 => ?_) (fun c_131 => ?_)
  · have ok := ok.1 c_131
    have hx := xif_p c_131 hx
    exact rX.cutz (hX1 _ _ S hx) ⟨rfl, rfl, rfl, trivial⟩
  · have ok := ok.2 c_131
    have hx := xif_n c_131 hx
    refine r_aload_n dX12_readBlock_134 rfl rfl ?_
    refine r_iload_n dX12_readBlock_135 rfl rfl ?_
    refine r_V1i (y' := mX12_isPaymentAt) dX12_readBlock_136 lX12_247 kX12_isPaymentAt ⟨by decide, by decide⟩ rfl (Nat.le_of_ble_eq_true rfl) (rc_X12_isPaymentAt hG ok.1) (fun v_136 S_136 h_136 => ?_)
    obtain ⟨rfl, hS_136⟩ := h_136
    have hS_136 := hS_136.symm
    subst hS_136
    have ok := ok.2
    refine r_if_ne (tgt := 144) dX12_readBlock_139 (by decide) (fun c_139 => ?_) (fun c_139 => ?_)
    · have ok := ok.2 c_139
      have hx := xif_n c_139 hx
      refine r_aload_n dX12_readBlock_144 rfl rfl ?_
      refine r_iload_n dX12_readBlock_145 rfl rfl ?_
      refine r_bipush (v := nI 7) dX12_readBlock_146 (by decide) ?_
      refine r_V2v (y' := mX12_part) dX12_readBlock_148 lX12_244 kX12_part ⟨by decide, by decide⟩ rfl (Nat.le_of_ble_eq_true rfl) (rc_X12_part hG ok.1) (fun S_148 h_148 => ?_)
      subst h_148
      have ok := ok.2
      exact rX.cutz (b_readBlock_151 hG hX0 hX1 hrec ok hx) ⟨rfl, rfl, rfl, rfl, trivial⟩
    · have ok := ok.1 c_139
      have hx := xif_p c_139 hx
      exact rX.cutz (hX0 _ _ S hx) trivial
def L_readBlock_121 (N : Nat) : Nat → Int32 → Int32 → Int32 → rS → Nat × Int32 × Int32 × rS
  | 0, x1, x2, x3, S => (0, 0, 0, S)
  | n + 1, x1, x2, x3, S => B_readBlock_121 N (L_readBlock_121 N n) x1 x2 x3 S
def OL_readBlock_121 (N : Nat) : Nat → Int32 → Int32 → Int32 → rS → Prop
  | 0, _, _, _, _ => False
  | n + 1, x1, x2, x3, S => OB_readBlock_121 N (OL_readBlock_121 N n) x1 x2 x3 S
set_option maxHeartbeats 4000000 in
theorem l_readBlock_121 {G : zG} {E : rE} {N : Nat} {Q : Option Value → rS → Prop} {X : Nat × Int32 × Int32 × rS → Prop} (hG : zOK G) (hX0 : ∀ (x1 : Int32) (x2 : Int32) (S' : rS), X (0, x1, x2, S') → rX G E dX12_readBlock mX12_readBlock 142 [none, none, none, none, none] [] S' Q) (hX1 : ∀ (x1 : Int32) (x2 : Int32) (S' : rS), X (1, x1, x2, S') → rX G E dX12_readBlock mX12_readBlock 162 [some (.ref E.1), some (.int x1), some (.int x2), none, none] [] S' Q) : ∀ (n : Nat) (x1 : Int32) (x2 : Int32) (x3 : Int32) (S : rS), OL_readBlock_121 N n x1 x2 x3 S → X (L_readBlock_121 N n x1 x2 x3 S) → rX G E dX12_readBlock mX12_readBlock 121 [some (.ref E.1), some (.int x1), some (.int x2), some (.int x3), none] [] S Q := by
  intro n
  induction n with
  | zero => intro x1 x2 x3 S ok; exact absurd ok id
  | succ n ih =>
    intro x1 x2 x3 S ok hx
    exact bb_readBlock_121 hG hX0 hX1 (rec := L_readBlock_121 N n) (rok := OL_readBlock_121 N n) (fun x1 x2 x3 S ok hx => ih x1 x2 x3 S ok hx) ok hx
def A_readBlock_121 (N : Nat) (x1 : Int32) (x2 : Int32) (x3 : Int32) (S : rS) (z : Nat × Int32 × Int32 × rS) : Int32 × rS := (if z.1 = 0 then (F_readBlock_142 N z.2.2.2) else (F_readBlock_162 N (z.2.1) (z.2.2.1) z.2.2.2))
def OA_readBlock_121 (N : Nat) (x1 : Int32) (x2 : Int32) (x3 : Int32) (S : rS) (z : Nat × Int32 × Int32 × rS) : Prop := (if z.1 = 0 then O_readBlock_142 N z.2.2.2 else O_readBlock_162 N (z.2.1) (z.2.2.1) z.2.2.2)
set_option maxHeartbeats 4000000 in
theorem c_readBlock_121 {G : zG} {E : rE} {S : rS} {N : Nat} {Q : Option Value → rS → Prop} {X : Int32 × rS → Prop} (hG : zOK G) (hR : ∀ v S', X (v, S') → Q (some (.int v)) S') {x1 : Int32} {x2 : Int32} {x3 : Int32} (ok : OL_readBlock_121 N N x1 x2 x3 S ∧ OA_readBlock_121 N x1 x2 x3 S (L_readBlock_121 N N x1 x2 x3 S)) (hx : X (A_readBlock_121 N x1 x2 x3 S (L_readBlock_121 N N x1 x2 x3 S))) : rX G E dX12_readBlock mX12_readBlock 121 [some (.ref E.1), some (.int x1), some (.int x2), some (.int x3), none] [] S Q := by
  refine l_readBlock_121 hG ?_ ?_ N x1 x2 x3 S ok.1 (X := fun z => OA_readBlock_121 N x1 x2 x3 S z ∧ X (A_readBlock_121 N x1 x2 x3 S z)) ⟨ok.2, hx⟩
  · intro x1' x2' S' hz
    obtain ⟨ok, hx⟩ := hz
    unfold OA_readBlock_121 at ok
    unfold A_readBlock_121 at hx
    have ok := xif_P (show (0 : Nat) = 0 from rfl) ok
    have hx := xif_p (show (0 : Nat) = 0 from rfl) hx
    exact rX.cutz (b_readBlock_142 hG hR ok hx) trivial
  · intro x1' x2' S' hz
    obtain ⟨ok, hx⟩ := hz
    unfold OA_readBlock_121 at ok
    unfold A_readBlock_121 at hx
    have ok := xif_N (show ¬ (1 : Nat) = 0 by decide) ok
    have hx := xif_n (show ¬ (1 : Nat) = 0 by decide) hx
    exact rX.cutz (b_readBlock_162 hG hR ok hx) ⟨rfl, rfl, rfl, trivial⟩
def F_readBlock_119 (N : Nat) (x1 : Int32) (x2 : Int32) (S : rS) : Int32 × rS := (A_readBlock_121 N x1 x2 (nI 0) S (L_readBlock_121 N N x1 x2 (nI 0) S))
def O_readBlock_119 (N : Nat) (x1 : Int32) (x2 : Int32) (S : rS) : Prop := (OL_readBlock_121 N N x1 x2 (nI 0) S ∧ OA_readBlock_121 N x1 x2 (nI 0) S (L_readBlock_121 N N x1 x2 (nI 0) S))
set_option maxHeartbeats 4000000 in
theorem b_readBlock_119 {G : zG} {E : rE} {S : rS} {N : Nat} {Q : Option Value → rS → Prop} {X : Int32 × rS → Prop} (hG : zOK G) (hR : ∀ v S', X (v, S') → Q (some (.int v)) S') {x1 : Int32} {x2 : Int32} (ok : O_readBlock_119 N x1 x2 S) (hx : X (F_readBlock_119 N x1 x2 S)) : rX G E dX12_readBlock mX12_readBlock 119 [some (.ref E.1), some (.int x1), some (.int x2), none, none] [] S Q := by
  unfold O_readBlock_119 at ok
  unfold F_readBlock_119 at hx
  refine r_iconst (v := nI 0) dX12_readBlock_119 (by decide) ?_
  refine r_istore_3 dX12_readBlock_120 (by decide) rfl ?_
  exact rX.cutz (c_readBlock_121 hG hR ok hx) ⟨rfl, rfl, rfl, rfl, trivial⟩
def F_readBlock_108 (N : Nat) (rec : Int32 → Int32 → Int32 → rS → Nat × Int32 × Int32 × rS) (x1 : Int32) (x2 : Int32) (x3 : Int32) (x4 : Int32) (S : rS) : Nat × Int32 × Int32 × rS := (rec x1 (x2 + x4) (x3 + nI 1) S)
def O_readBlock_108 (N : Nat) (rok : Int32 → Int32 → Int32 → rS → Prop) (x1 : Int32) (x2 : Int32) (x3 : Int32) (x4 : Int32) (S : rS) : Prop := rok x1 (x2 + x4) (x3 + nI 1) S
set_option maxHeartbeats 4000000 in
theorem b_readBlock_108 {G : zG} {E : rE} {S : rS} {N : Nat} {Q : Option Value → rS → Prop} {X : Nat × Int32 × Int32 × rS → Prop} (hG : zOK G) (hX0 : ∀ (x1 : Int32) (x2 : Int32) (S' : rS), X (0, x1, x2, S') → rX G E dX12_readBlock mX12_readBlock 99 [none, none, none, none, none] [] S' Q) (hX1 : ∀ (x1 : Int32) (x2 : Int32) (S' : rS), X (1, x1, x2, S') → rX G E dX12_readBlock mX12_readBlock 119 [some (.ref E.1), some (.int x1), some (.int x2), none, none] [] S' Q) {rec : Int32 → Int32 → Int32 → rS → Nat × Int32 × Int32 × rS} {rok : Int32 → Int32 → Int32 → rS → Prop} (hrec : ∀ (x1 : Int32) (x2 : Int32) (x3 : Int32) (S : rS), rok x1 x2 x3 S → X (rec x1 x2 x3 S) → rX G E dX12_readBlock mX12_readBlock 74 [some (.ref E.1), some (.int x1), some (.int x2), some (.int x3), none] [] S Q) {x1 : Int32} {x2 : Int32} {x3 : Int32} {x4 : Int32} (ok : O_readBlock_108 N rok x1 x2 x3 x4 S) (hx : X (F_readBlock_108 N rec x1 x2 x3 x4 S)) : rX G E dX12_readBlock mX12_readBlock 108 [some (.ref E.1), some (.int x1), some (.int x2), some (.int x3), some (.int x4)] [] S Q := by
  unfold O_readBlock_108 at ok
  unfold F_readBlock_108 at hx
  refine r_iload_n dX12_readBlock_108 rfl rfl ?_
  refine r_iload dX12_readBlock_109 rfl ?_
  refine r_iadd dX12_readBlock_111 ?_
  refine r_istore_2 dX12_readBlock_112 (by decide) rfl ?_
  refine r_iinc_3 (v := (x3 + nI 1)) dX12_readBlock_113 rfl (by first | rfl | (congr 1)) (by decide) rfl ?_
  refine r_goto (tgt := 74) dX12_readBlock_116 (by decide) ?_
  exact rX.cutz (hrec _ _ _ S ok hx) ⟨rfl, rfl, rfl, rfl, trivial⟩
def F_readBlock_99 (N : Nat)  (S : rS) : Int32 × rS := ((nI 0), S)
def O_readBlock_99 (N : Nat)  (S : rS) : Prop := True
set_option maxHeartbeats 4000000 in
theorem b_readBlock_99 {G : zG} {E : rE} {S : rS} {N : Nat} {Q : Option Value → rS → Prop} {X : Int32 × rS → Prop} (hG : zOK G) (hR : ∀ v S', X (v, S') → Q (some (.int v)) S') (ok : O_readBlock_99 N S) (hx : X (F_readBlock_99 N S)) : rX G E dX12_readBlock mX12_readBlock 99 [none, none, none, none, none] [] S Q := by
  unfold O_readBlock_99 at ok
  unfold F_readBlock_99 at hx
  refine r_iconst (v := nI 0) dX12_readBlock_99 (by decide) ?_
  exact r_ireturn rfl rfl dX12_readBlock_100 (hR _ _ hx)
def B_readBlock_74 (N : Nat) (rec : Int32 → Int32 → Int32 → rS → Nat × Int32 × Int32 × rS) (x1 : Int32) (x2 : Int32) (x3 : Int32) (S : rS) : Nat × Int32 × Int32 × rS := (if (S.2.1 32 (x1 + (nI 100)).toNatClampNeg) ≤ x3 then (1, x1, x2, S) else (if (f_evidenceAt N S x2) = 0 then (0, 0, 0, S) else (F_readBlock_108 N rec x1 x2 x3 (f_evidenceAt N S x2) (f_part N S x2 (f_evidenceAt N S x2)))))
def OB_readBlock_74 (N : Nat) (rok : Int32 → Int32 → Int32 → rS → Prop) (x1 : Int32) (x2 : Int32) (x3 : Int32) (S : rS) : Prop := (vp_in (x1 + (nI 100)) 1010) ∧ (((S.2.1 32 (x1 + (nI 100)).toNatClampNeg) ≤ x3 → True) ∧ (¬ (S.2.1 32 (x1 + (nI 100)).toNatClampNeg) ≤ x3 → (o_evidenceAt N S x2) ∧ (((f_evidenceAt N S x2) = 0 → True) ∧ (¬ (f_evidenceAt N S x2) = 0 → (o_part N S x2 (f_evidenceAt N S x2)) ∧ O_readBlock_108 N rok x1 x2 x3 (f_evidenceAt N S x2) (f_part N S x2 (f_evidenceAt N S x2))))))
set_option maxHeartbeats 4000000 in
theorem bb_readBlock_74 {G : zG} {E : rE} {S : rS} {N : Nat} {Q : Option Value → rS → Prop} {X : Nat × Int32 × Int32 × rS → Prop} (hG : zOK G) (hX0 : ∀ (x1 : Int32) (x2 : Int32) (S' : rS), X (0, x1, x2, S') → rX G E dX12_readBlock mX12_readBlock 99 [none, none, none, none, none] [] S' Q) (hX1 : ∀ (x1 : Int32) (x2 : Int32) (S' : rS), X (1, x1, x2, S') → rX G E dX12_readBlock mX12_readBlock 119 [some (.ref E.1), some (.int x1), some (.int x2), none, none] [] S' Q) {rec : Int32 → Int32 → Int32 → rS → Nat × Int32 × Int32 × rS} {rok : Int32 → Int32 → Int32 → rS → Prop} (hrec : ∀ (x1 : Int32) (x2 : Int32) (x3 : Int32) (S : rS), rok x1 x2 x3 S → X (rec x1 x2 x3 S) → rX G E dX12_readBlock mX12_readBlock 74 [some (.ref E.1), some (.int x1), some (.int x2), some (.int x3), none] [] S Q) {x1 : Int32} {x2 : Int32} {x3 : Int32} (ok : OB_readBlock_74 N rok x1 x2 x3 S) (hx : X (B_readBlock_74 N rec x1 x2 x3 S)) : rX G E dX12_readBlock mX12_readBlock 74 [some (.ref E.1), some (.int x1), some (.int x2), some (.int x3), none] [] S Q := by
  unfold OB_readBlock_74 at ok
  unfold B_readBlock_74 at hx
  refine r_iload_n dX12_readBlock_74 rfl rfl ?_
  refine r_aload_n dX12_readBlock_75 rfl rfl ?_
  refine r_getA 32 fX12_204 (by decide) (by decide) dX12_readBlock_76 ?_
  refine r_iload_n dX12_readBlock_79 rfl rfl ?_
  refine r_bipush (v := nI 100) dX12_readBlock_80 (by decide) ?_
  refine r_iadd dX12_readBlock_82 ?_
  refine r_iald (by decide) (by decide) dX12_readBlock_83 ok.1 ?_
  have ok := ok.2
  refine r_icmp_ge (tgt := 119) dX12_readBlock_84 (by decide) (fun c_84 => ?_) (fun c_84 => ?_)
  · have ok := ok.1 c_84
    have hx := xif_p c_84 hx
    exact rX.cutz (hX1 _ _ S hx) ⟨rfl, rfl, rfl, trivial⟩
  · have ok := ok.2 c_84
    have hx := xif_n c_84 hx
    refine r_aload_n dX12_readBlock_87 rfl rfl ?_
    refine r_iload_n dX12_readBlock_88 rfl rfl ?_
    refine r_V1i (y' := mX12_evidenceAt) dX12_readBlock_89 lX12_241 kX12_evidenceAt ⟨by decide, by decide⟩ rfl (Nat.le_of_ble_eq_true rfl) (rc_X12_evidenceAt hG ok.1) (fun v_89 S_89 h_89 => ?_)
    obtain ⟨rfl, hS_89⟩ := h_89
    have hS_89 := hS_89.symm
    subst hS_89
    have ok := ok.2
    refine r_istore_4 dX12_readBlock_92 (by decide) rfl ?_
    refine r_iload dX12_readBlock_94 rfl ?_
    refine r_if_ne (tgt := 101) dX12_readBlock_96 (by decide) (fun c_96 => ?_) (fun c_96 => ?_)
    · have ok := ok.2 c_96
      have hx := xif_n c_96 hx
      refine r_aload_n dX12_readBlock_101 rfl rfl ?_
      refine r_iload_n dX12_readBlock_102 rfl rfl ?_
      refine r_iload dX12_readBlock_103 rfl ?_
      refine r_V2v (y' := mX12_part) dX12_readBlock_105 lX12_244 kX12_part ⟨by decide, by decide⟩ rfl (Nat.le_of_ble_eq_true rfl) (rc_X12_part hG ok.1) (fun S_105 h_105 => ?_)
      subst h_105
      have ok := ok.2
      exact rX.cutz (b_readBlock_108 hG hX0 hX1 hrec ok hx) ⟨rfl, rfl, rfl, rfl, rfl, trivial⟩
    · have ok := ok.1 c_96
      have hx := xif_p c_96 hx
      exact rX.cutz (hX0 _ _ S hx) trivial
def L_readBlock_74 (N : Nat) : Nat → Int32 → Int32 → Int32 → rS → Nat × Int32 × Int32 × rS
  | 0, x1, x2, x3, S => (0, 0, 0, S)
  | n + 1, x1, x2, x3, S => B_readBlock_74 N (L_readBlock_74 N n) x1 x2 x3 S
def OL_readBlock_74 (N : Nat) : Nat → Int32 → Int32 → Int32 → rS → Prop
  | 0, _, _, _, _ => False
  | n + 1, x1, x2, x3, S => OB_readBlock_74 N (OL_readBlock_74 N n) x1 x2 x3 S
set_option maxHeartbeats 4000000 in
theorem l_readBlock_74 {G : zG} {E : rE} {N : Nat} {Q : Option Value → rS → Prop} {X : Nat × Int32 × Int32 × rS → Prop} (hG : zOK G) (hX0 : ∀ (x1 : Int32) (x2 : Int32) (S' : rS), X (0, x1, x2, S') → rX G E dX12_readBlock mX12_readBlock 99 [none, none, none, none, none] [] S' Q) (hX1 : ∀ (x1 : Int32) (x2 : Int32) (S' : rS), X (1, x1, x2, S') → rX G E dX12_readBlock mX12_readBlock 119 [some (.ref E.1), some (.int x1), some (.int x2), none, none] [] S' Q) : ∀ (n : Nat) (x1 : Int32) (x2 : Int32) (x3 : Int32) (S : rS), OL_readBlock_74 N n x1 x2 x3 S → X (L_readBlock_74 N n x1 x2 x3 S) → rX G E dX12_readBlock mX12_readBlock 74 [some (.ref E.1), some (.int x1), some (.int x2), some (.int x3), none] [] S Q := by
  intro n
  induction n with
  | zero => intro x1 x2 x3 S ok; exact absurd ok id
  | succ n ih =>
    intro x1 x2 x3 S ok hx
    exact bb_readBlock_74 hG hX0 hX1 (rec := L_readBlock_74 N n) (rok := OL_readBlock_74 N n) (fun x1 x2 x3 S ok hx => ih x1 x2 x3 S ok hx) ok hx
def A_readBlock_74 (N : Nat) (x1 : Int32) (x2 : Int32) (x3 : Int32) (S : rS) (z : Nat × Int32 × Int32 × rS) : Int32 × rS := (if z.1 = 0 then (F_readBlock_99 N z.2.2.2) else (F_readBlock_119 N (z.2.1) (z.2.2.1) z.2.2.2))
def OA_readBlock_74 (N : Nat) (x1 : Int32) (x2 : Int32) (x3 : Int32) (S : rS) (z : Nat × Int32 × Int32 × rS) : Prop := (if z.1 = 0 then O_readBlock_99 N z.2.2.2 else O_readBlock_119 N (z.2.1) (z.2.2.1) z.2.2.2)
set_option maxHeartbeats 4000000 in
theorem c_readBlock_74 {G : zG} {E : rE} {S : rS} {N : Nat} {Q : Option Value → rS → Prop} {X : Int32 × rS → Prop} (hG : zOK G) (hR : ∀ v S', X (v, S') → Q (some (.int v)) S') {x1 : Int32} {x2 : Int32} {x3 : Int32} (ok : OL_readBlock_74 N N x1 x2 x3 S ∧ OA_readBlock_74 N x1 x2 x3 S (L_readBlock_74 N N x1 x2 x3 S)) (hx : X (A_readBlock_74 N x1 x2 x3 S (L_readBlock_74 N N x1 x2 x3 S))) : rX G E dX12_readBlock mX12_readBlock 74 [some (.ref E.1), some (.int x1), some (.int x2), some (.int x3), none] [] S Q := by
  refine l_readBlock_74 hG ?_ ?_ N x1 x2 x3 S ok.1 (X := fun z => OA_readBlock_74 N x1 x2 x3 S z ∧ X (A_readBlock_74 N x1 x2 x3 S z)) ⟨ok.2, hx⟩
  · intro x1' x2' S' hz
    obtain ⟨ok, hx⟩ := hz
    unfold OA_readBlock_74 at ok
    unfold A_readBlock_74 at hx
    have ok := xif_P (show (0 : Nat) = 0 from rfl) ok
    have hx := xif_p (show (0 : Nat) = 0 from rfl) hx
    exact rX.cutz (b_readBlock_99 hG hR ok hx) trivial
  · intro x1' x2' S' hz
    obtain ⟨ok, hx⟩ := hz
    unfold OA_readBlock_74 at ok
    unfold A_readBlock_74 at hx
    have ok := xif_N (show ¬ (1 : Nat) = 0 by decide) ok
    have hx := xif_n (show ¬ (1 : Nat) = 0 by decide) hx
    exact rX.cutz (b_readBlock_119 hG hR ok hx) ⟨rfl, rfl, rfl, trivial⟩
def F_readBlock_72 (N : Nat) (x1 : Int32) (x2 : Int32) (S : rS) : Int32 × rS := (A_readBlock_74 N x1 x2 (nI 0) S (L_readBlock_74 N N x1 x2 (nI 0) S))
def O_readBlock_72 (N : Nat) (x1 : Int32) (x2 : Int32) (S : rS) : Prop := (OL_readBlock_74 N N x1 x2 (nI 0) S ∧ OA_readBlock_74 N x1 x2 (nI 0) S (L_readBlock_74 N N x1 x2 (nI 0) S))
set_option maxHeartbeats 4000000 in
theorem b_readBlock_72 {G : zG} {E : rE} {S : rS} {N : Nat} {Q : Option Value → rS → Prop} {X : Int32 × rS → Prop} (hG : zOK G) (hR : ∀ v S', X (v, S') → Q (some (.int v)) S') {x1 : Int32} {x2 : Int32} (ok : O_readBlock_72 N x1 x2 S) (hx : X (F_readBlock_72 N x1 x2 S)) : rX G E dX12_readBlock mX12_readBlock 72 [some (.ref E.1), some (.int x1), some (.int x2), none, none] [] S Q := by
  unfold O_readBlock_72 at ok
  unfold F_readBlock_72 at hx
  refine r_iconst (v := nI 0) dX12_readBlock_72 (by decide) ?_
  refine r_istore_3 dX12_readBlock_73 (by decide) rfl ?_
  exact rX.cutz (c_readBlock_74 hG hR ok hx) ⟨rfl, rfl, rfl, rfl, trivial⟩
def F_readBlock_61 (N : Nat)  (S : rS) : Int32 × rS := ((nI 0), S)
def O_readBlock_61 (N : Nat)  (S : rS) : Prop := True
set_option maxHeartbeats 4000000 in
theorem b_readBlock_61 {G : zG} {E : rE} {S : rS} {N : Nat} {Q : Option Value → rS → Prop} {X : Int32 × rS → Prop} (hG : zOK G) (hR : ∀ v S', X (v, S') → Q (some (.int v)) S') (ok : O_readBlock_61 N S) (hx : X (F_readBlock_61 N S)) : rX G E dX12_readBlock mX12_readBlock 61 [none, none, none, none, none] [] S Q := by
  unfold O_readBlock_61 at ok
  unfold F_readBlock_61 at hx
  refine r_iconst (v := nI 0) dX12_readBlock_61 (by decide) ?_
  exact r_ireturn rfl rfl dX12_readBlock_62 (hR _ _ hx)
def F_readBlock_0 (N : Nat) (x1 : Int32) (S : rS) : Int32 × rS := (if (S.1 33) < (x1 + (nI 101)) then (F_readBlock_61 N S) else (if (f_heightAt N S x1) = 0 then (F_readBlock_61 N S) else (if (S.1 0) ≤ (S.2.1 32 (x1 + (nI 2)).toNatClampNeg) then (F_readBlock_61 N S) else (if (nI 64) < (S.2.1 32 (x1 + (nI 99)).toNatClampNeg) then (F_readBlock_61 N S) else (if (S.2.1 32 (x1 + (nI 100)).toNatClampNeg) ≤ (nI 2) then (F_readBlock_72 N x1 (x1 + (nI 101)) (f_noParts N S)) else (F_readBlock_61 N S))))))
def O_readBlock_0 (N : Nat) (x1 : Int32) (S : rS) : Prop := (((S.1 33) < (x1 + (nI 101)) → O_readBlock_61 N S) ∧ (¬ (S.1 33) < (x1 + (nI 101)) → (o_heightAt N S x1) ∧ (((f_heightAt N S x1) = 0 → O_readBlock_61 N S) ∧ (¬ (f_heightAt N S x1) = 0 → (vp_in (x1 + (nI 2)) 1010) ∧ (((S.1 0) ≤ (S.2.1 32 (x1 + (nI 2)).toNatClampNeg) → O_readBlock_61 N S) ∧ (¬ (S.1 0) ≤ (S.2.1 32 (x1 + (nI 2)).toNatClampNeg) → (vp_in (x1 + (nI 99)) 1010) ∧ (((nI 64) < (S.2.1 32 (x1 + (nI 99)).toNatClampNeg) → O_readBlock_61 N S) ∧ (¬ (nI 64) < (S.2.1 32 (x1 + (nI 99)).toNatClampNeg) → (vp_in (x1 + (nI 100)) 1010) ∧ (((S.2.1 32 (x1 + (nI 100)).toNatClampNeg) ≤ (nI 2) → (o_noParts N S) ∧ O_readBlock_72 N x1 (x1 + (nI 101)) (f_noParts N S)) ∧ (¬ (S.2.1 32 (x1 + (nI 100)).toNatClampNeg) ≤ (nI 2) → O_readBlock_61 N S))))))))))
set_option maxHeartbeats 4000000 in
theorem b_readBlock_0 {G : zG} {E : rE} {S : rS} {N : Nat} {Q : Option Value → rS → Prop} {X : Int32 × rS → Prop} (hG : zOK G) (hR : ∀ v S', X (v, S') → Q (some (.int v)) S') {x1 : Int32} (ok : O_readBlock_0 N x1 S) (hx : X (F_readBlock_0 N x1 S)) : rX G E dX12_readBlock mX12_readBlock 0 [some (.ref E.1), some (.int x1), none, none, none] [] S Q := by
  unfold O_readBlock_0 at ok
  unfold F_readBlock_0 at hx
  refine r_aload_n dX12_readBlock_0 rfl rfl ?_
  refine r_getI 33 fX12_201 (by decide) (by decide) dX12_readBlock_1 ?_
  refine r_iload_n dX12_readBlock_4 rfl rfl ?_
  refine r_bipush (v := nI 101) dX12_readBlock_5 (by decide) ?_
  refine r_iadd dX12_readBlock_7 ?_
  refine r_icmp_lt (tgt := 61) dX12_readBlock_8 (by decide) (fun c_8 => ?_) (fun c_8 => ?_)
  · have ok := ok.1 c_8
    have hx := xif_p c_8 hx
    exact rX.cutz (b_readBlock_61 hG hR ok hx) trivial
  · have ok := ok.2 c_8
    have hx := xif_n c_8 hx
    refine r_aload_n dX12_readBlock_11 rfl rfl ?_
    refine r_iload_n dX12_readBlock_12 rfl rfl ?_
    refine r_V1i (y' := mX12_heightAt) dX12_readBlock_13 lX12_232 kX12_heightAt ⟨by decide, by decide⟩ rfl (Nat.le_of_ble_eq_true rfl) (rc_X12_heightAt hG ok.1) (fun v_13 S_13 h_13 => ?_)
    obtain ⟨rfl, hS_13⟩ := h_13
    have hS_13 := hS_13.symm
    subst hS_13
    have ok := ok.2
    refine r_if_eq (tgt := 61) dX12_readBlock_16 (by decide) (fun c_16 => ?_) (fun c_16 => ?_)
    · have ok := ok.1 c_16
      have hx := xif_p c_16 hx
      exact rX.cutz (b_readBlock_61 hG hR ok hx) trivial
    · have ok := ok.2 c_16
      have hx := xif_n c_16 hx
      refine r_aload_n dX12_readBlock_19 rfl rfl ?_
      refine r_getA 32 fX12_204 (by decide) (by decide) dX12_readBlock_20 ?_
      refine r_iload_n dX12_readBlock_23 rfl rfl ?_
      refine r_iconst (v := nI 2) dX12_readBlock_24 (by decide) ?_
      refine r_iadd dX12_readBlock_25 ?_
      refine r_iald (by decide) (by decide) dX12_readBlock_26 ok.1 ?_
      have ok := ok.2
      refine r_aload_n dX12_readBlock_27 rfl rfl ?_
      refine r_getI 0 fX12_219 (by decide) (by decide) dX12_readBlock_28 ?_
      refine r_icmp_ge (tgt := 61) dX12_readBlock_31 (by decide) (fun c_31 => ?_) (fun c_31 => ?_)
      · have ok := ok.1 c_31
        have hx := xif_p c_31 hx
        exact rX.cutz (b_readBlock_61 hG hR ok hx) trivial
      · have ok := ok.2 c_31
        have hx := xif_n c_31 hx
        refine r_aload_n dX12_readBlock_34 rfl rfl ?_
        refine r_getA 32 fX12_204 (by decide) (by decide) dX12_readBlock_35 ?_
        refine r_iload_n dX12_readBlock_38 rfl rfl ?_
        refine r_bipush (v := nI 99) dX12_readBlock_39 (by decide) ?_
        refine r_iadd dX12_readBlock_41 ?_
        refine r_iald (by decide) (by decide) dX12_readBlock_42 ok.1 ?_
        have ok := ok.2
        refine r_bipush (v := nI 64) dX12_readBlock_43 (by decide) ?_
        refine r_icmp_gt (tgt := 61) dX12_readBlock_45 (by decide) (fun c_45 => ?_) (fun c_45 => ?_)
        · have ok := ok.1 c_45
          have hx := xif_p c_45 hx
          exact rX.cutz (b_readBlock_61 hG hR ok hx) trivial
        · have ok := ok.2 c_45
          have hx := xif_n c_45 hx
          refine r_aload_n dX12_readBlock_48 rfl rfl ?_
          refine r_getA 32 fX12_204 (by decide) (by decide) dX12_readBlock_49 ?_
          refine r_iload_n dX12_readBlock_52 rfl rfl ?_
          refine r_bipush (v := nI 100) dX12_readBlock_53 (by decide) ?_
          refine r_iadd dX12_readBlock_55 ?_
          refine r_iald (by decide) (by decide) dX12_readBlock_56 ok.1 ?_
          have ok := ok.2
          refine r_iconst (v := nI 2) dX12_readBlock_57 (by decide) ?_
          refine r_icmp_le (tgt := 63) dX12_readBlock_58 (by decide) (fun c_58 => ?_) (fun c_58 => ?_)
          · have ok := ok.1 c_58
            have hx := xif_p c_58 hx
            refine r_iload_n dX12_readBlock_63 rfl rfl ?_
            refine r_bipush (v := nI 101) dX12_readBlock_64 (by decide) ?_
            refine r_iadd dX12_readBlock_66 ?_
            refine r_istore_2 dX12_readBlock_67 (by decide) rfl ?_
            refine r_aload_n dX12_readBlock_68 rfl rfl ?_
            refine r_V0v (y' := mX12_noParts) dX12_readBlock_69 lX12_112 kX12_noParts ⟨by decide, by decide⟩ rfl (Nat.le_of_ble_eq_true rfl) (rc_X12_noParts hG ok.1) (fun S_69 h_69 => ?_)
            subst h_69
            have ok := ok.2
            exact rX.cutz (b_readBlock_72 hG hR ok hx) ⟨rfl, rfl, rfl, trivial⟩
          · have ok := ok.2 c_58
            have hx := xif_n c_58 hx
            exact rX.cutz (b_readBlock_61 hG hR ok hx) trivial
def f_readBlock (N : Nat) (S : rS) (x1 : Int32) : Int32 × rS := F_readBlock_0 N x1 S
def o_readBlock (N : Nat) (S : rS) (x1 : Int32) : Prop := O_readBlock_0 N x1 S
set_option maxHeartbeats 4000000 in
theorem rc_X12_readBlock {G : zG} {E : rE} {S : rS} {N : Nat} (hG : zOK G) {x1 : Int32} (ok : o_readBlock N S x1) : rCi G E dX12_readBlock mX12_readBlock [.ref E.1, .int x1] S (fun v S' => v = (f_readBlock N S x1).1 ∧ S' = (f_readBlock N S x1).2) := by
  refine rC.ofX rfl (Nat.le_of_ble_eq_true rfl) ?_
  show rX G E dX12_readBlock mX12_readBlock 0 [some (.ref E.1), some (.int x1), none, none, none] [] S _
  exact rX.cutz (b_readBlock_0 (X := fun F => F = f_readBlock N S x1) hG (fun v S' h => ⟨v, rfl, by rw [← h], by rw [← h]⟩) ok rfl) ⟨rfl, rfl, trivial⟩
/-! readVote -/
def F_readVote_179 (N : Nat)  (S : rS) : Int32 × rS := ((nI 1), S)
def O_readVote_179 (N : Nat)  (S : rS) : Prop := True
set_option maxHeartbeats 4000000 in
theorem b_readVote_179 {G : zG} {E : rE} {S : rS} {N : Nat} {Q : Option Value → rS → Prop} {X : Int32 × rS → Prop} (hG : zOK G) (hR : ∀ v S', X (v, S') → Q (some (.int v)) S') (ok : O_readVote_179 N S) (hx : X (F_readVote_179 N S)) : rX G E dX12_readVote mX12_readVote 179 [none, none, none, none, none] [] S Q := by
  unfold O_readVote_179 at ok
  unfold F_readVote_179 at hx
  refine r_iconst (v := nI 1) dX12_readVote_179 (by decide) ?_
  exact r_ireturn rfl rfl dX12_readVote_180 (hR _ _ hx)
def F_readVote_166 (N : Nat) (rec : Int32 → rS → Nat × rS) (x1 : Int32) (x2 : Int64) (S : rS) : Nat × rS := (rec (x1 + nI 1) (rsL S 42 x1.toNatClampNeg x2))
def O_readVote_166 (N : Nat) (rok : Int32 → rS → Prop) (x1 : Int32) (x2 : Int64) (S : rS) : Prop := (vp_in x1 4) ∧ rok (x1 + nI 1) (rsL S 42 x1.toNatClampNeg x2)
set_option maxHeartbeats 4000000 in
theorem b_readVote_166 {G : zG} {E : rE} {S : rS} {N : Nat} {Q : Option Value → rS → Prop} {X : Nat × rS → Prop} (hG : zOK G) (hX0 : ∀ (S' : rS), X (0, S') → rX G E dX12_readVote mX12_readVote 179 [none, none, none, none, none] [] S' Q) {rec : Int32 → rS → Nat × rS} {rok : Int32 → rS → Prop} (hrec : ∀ (x1 : Int32) (S : rS), rok x1 S → X (rec x1 S) → rX G E dX12_readVote mX12_readVote 114 [some (.ref E.1), some (.int x1), none, none, none] [] S Q) {x1 : Int32} {x2 : Int64} (ok : O_readVote_166 N rok x1 x2 S) (hx : X (F_readVote_166 N rec x1 x2 S)) : rX G E dX12_readVote mX12_readVote 166 [some (.ref E.1), some (.int x1), some (.long x2), none, none] [] S Q := by
  unfold O_readVote_166 at ok
  unfold F_readVote_166 at hx
  refine r_aload_n dX12_readVote_166 rfl rfl ?_
  refine r_getA 42 fX12_270 (by decide) (by decide) dX12_readVote_167 ?_
  refine r_iload_n dX12_readVote_170 rfl rfl ?_
  refine r_lload_n dX12_readVote_171 rfl rfl ?_
  refine r_last (by decide) (by decide) dX12_readVote_172 ok.1 ?_
  have ok := ok.2
  refine r_iinc_1 (v := (x1 + nI 1)) dX12_readVote_173 rfl (by first | rfl | (congr 1)) (by decide) rfl ?_
  refine r_goto (tgt := 114) dX12_readVote_176 (by decide) ?_
  exact rX.cutz (hrec _ (rsL S 42 x1.toNatClampNeg x2) ok hx) ⟨rfl, rfl, trivial⟩
def B_readVote_124 (N : Nat) (rec : Int32 → Int64 → Int32 → rS → Nat × Int32 × Int64 × rS) (x1 : Int32) (x2 : Int64) (x4 : Int32) (S : rS) : Nat × Int32 × Int64 × rS := (if (S.1 41) = 0 then (0, x1, x2, S) else (if (nI 8) ≤ x4 then (0, x1, x2, S) else (rec x1 ((x2 <<< (Int32.toInt64 (nI 8) &&& 63)) ||| (Int32.toInt64 (S.2.1 32 (((nI 6) + ((nI 8) * x1)) + x4).toNatClampNeg))) (x4 + nI 1) S)))
def OB_readVote_124 (N : Nat) (rok : Int32 → Int64 → Int32 → rS → Prop) (x1 : Int32) (x2 : Int64) (x4 : Int32) (S : rS) : Prop := (((S.1 41) = 0 → True) ∧ (¬ (S.1 41) = 0 → (((nI 8) ≤ x4 → True) ∧ (¬ (nI 8) ≤ x4 → (vp_in (((nI 6) + ((nI 8) * x1)) + x4) 1010) ∧ rok x1 ((x2 <<< (Int32.toInt64 (nI 8) &&& 63)) ||| (Int32.toInt64 (S.2.1 32 (((nI 6) + ((nI 8) * x1)) + x4).toNatClampNeg))) (x4 + nI 1) S))))
set_option maxHeartbeats 4000000 in
theorem bb_readVote_124 {G : zG} {E : rE} {S : rS} {N : Nat} {Q : Option Value → rS → Prop} {X : Nat × Int32 × Int64 × rS → Prop} (hG : zOK G) (hX0 : ∀ (x1 : Int32) (x2 : Int64) (S' : rS), X (0, x1, x2, S') → rX G E dX12_readVote mX12_readVote 166 [some (.ref E.1), some (.int x1), some (.long x2), none, none] [] S' Q) {rec : Int32 → Int64 → Int32 → rS → Nat × Int32 × Int64 × rS} {rok : Int32 → Int64 → Int32 → rS → Prop} (hrec : ∀ (x1 : Int32) (x2 : Int64) (x4 : Int32) (S : rS), rok x1 x2 x4 S → X (rec x1 x2 x4 S) → rX G E dX12_readVote mX12_readVote 124 [some (.ref E.1), some (.int x1), some (.long x2), none, some (.int x4)] [] S Q) {x1 : Int32} {x2 : Int64} {x4 : Int32} (ok : OB_readVote_124 N rok x1 x2 x4 S) (hx : X (B_readVote_124 N rec x1 x2 x4 S)) : rX G E dX12_readVote mX12_readVote 124 [some (.ref E.1), some (.int x1), some (.long x2), none, some (.int x4)] [] S Q := by
  unfold OB_readVote_124 at ok
  unfold B_readVote_124 at hx
  refine r_aload_n dX12_readVote_124 rfl rfl ?_
  refine r_getI 41 fX12_266 (by decide) (by decide) dX12_readVote_125 ?_
  refine r_if_eq (tgt := 166) dX12_readVote_128 (by decide) (fun c_128 => ?_) (fun c_128 => ?_)
  · have ok := ok.1 c_128
    have hx := xif_p c_128 hx
    exact rX.cutz (hX0 _ _ S hx) ⟨rfl, rfl, rfl, trivial⟩
  · have ok := ok.2 c_128
    have hx := xif_n c_128 hx
    refine r_iload dX12_readVote_131 rfl ?_
    refine r_bipush (v := nI 8) dX12_readVote_133 (by decide) ?_
    refine r_icmp_ge (tgt := 166) dX12_readVote_135 (by decide) (fun c_135 => ?_) (fun c_135 => ?_)
    · have ok := ok.1 c_135
      have hx := xif_p c_135 hx
      exact rX.cutz (hX0 _ _ S hx) ⟨rfl, rfl, rfl, trivial⟩
    · have ok := ok.2 c_135
      have hx := xif_n c_135 hx
      refine r_lload_n dX12_readVote_138 rfl rfl ?_
      refine r_bipush (v := nI 8) dX12_readVote_139 (by decide) ?_
      refine r_lshl dX12_readVote_141 ?_
      refine r_aload_n dX12_readVote_142 rfl rfl ?_
      refine r_getA 32 fX12_204 (by decide) (by decide) dX12_readVote_143 ?_
      refine r_bipush (v := nI 6) dX12_readVote_146 (by decide) ?_
      refine r_bipush (v := nI 8) dX12_readVote_148 (by decide) ?_
      refine r_iload_n dX12_readVote_150 rfl rfl ?_
      refine r_imul dX12_readVote_151 ?_
      refine r_iadd dX12_readVote_152 ?_
      refine r_iload dX12_readVote_153 rfl ?_
      refine r_iadd dX12_readVote_155 ?_
      refine r_iald (by decide) (by decide) dX12_readVote_156 ok.1 ?_
      have ok := ok.2
      refine r_i2l dX12_readVote_157 ?_
      refine r_lor dX12_readVote_158 ?_
      refine r_lstore_2 dX12_readVote_159 (by decide) rfl ?_
      refine r_iinc_4 (v := (x4 + nI 1)) dX12_readVote_160 rfl (by first | rfl | (congr 1)) (by decide) rfl ?_
      refine r_goto (tgt := 124) dX12_readVote_163 (by decide) ?_
      exact rX.cutz (hrec _ _ _ S ok hx) ⟨rfl, rfl, rfl, rfl, trivial⟩
def L_readVote_124 (N : Nat) : Nat → Int32 → Int64 → Int32 → rS → Nat × Int32 × Int64 × rS
  | 0, x1, x2, x4, S => (0, 0, 0, S)
  | n + 1, x1, x2, x4, S => B_readVote_124 N (L_readVote_124 N n) x1 x2 x4 S
def OL_readVote_124 (N : Nat) : Nat → Int32 → Int64 → Int32 → rS → Prop
  | 0, _, _, _, _ => False
  | n + 1, x1, x2, x4, S => OB_readVote_124 N (OL_readVote_124 N n) x1 x2 x4 S
set_option maxHeartbeats 4000000 in
theorem l_readVote_124 {G : zG} {E : rE} {N : Nat} {Q : Option Value → rS → Prop} {X : Nat × Int32 × Int64 × rS → Prop} (hG : zOK G) (hX0 : ∀ (x1 : Int32) (x2 : Int64) (S' : rS), X (0, x1, x2, S') → rX G E dX12_readVote mX12_readVote 166 [some (.ref E.1), some (.int x1), some (.long x2), none, none] [] S' Q) : ∀ (n : Nat) (x1 : Int32) (x2 : Int64) (x4 : Int32) (S : rS), OL_readVote_124 N n x1 x2 x4 S → X (L_readVote_124 N n x1 x2 x4 S) → rX G E dX12_readVote mX12_readVote 124 [some (.ref E.1), some (.int x1), some (.long x2), none, some (.int x4)] [] S Q := by
  intro n
  induction n with
  | zero => intro x1 x2 x4 S ok; exact absurd ok id
  | succ n ih =>
    intro x1 x2 x4 S ok hx
    exact bb_readVote_124 hG hX0 (rec := L_readVote_124 N n) (rok := OL_readVote_124 N n) (fun x1 x2 x4 S ok hx => ih x1 x2 x4 S ok hx) ok hx
def A_readVote_124 (N : Nat) (rec : Int32 → rS → Nat × rS) (x1 : Int32) (x2 : Int64) (x4 : Int32) (S : rS) (z : Nat × Int32 × Int64 × rS) : Nat × rS := (F_readVote_166 N rec (z.2.1) (z.2.2.1) z.2.2.2)
def OA_readVote_124 (N : Nat) (rok : Int32 → rS → Prop) (x1 : Int32) (x2 : Int64) (x4 : Int32) (S : rS) (z : Nat × Int32 × Int64 × rS) : Prop := O_readVote_166 N rok (z.2.1) (z.2.2.1) z.2.2.2
set_option maxHeartbeats 4000000 in
theorem c_readVote_124 {G : zG} {E : rE} {S : rS} {N : Nat} {Q : Option Value → rS → Prop} {X : Nat × rS → Prop} (hG : zOK G) (hX0 : ∀ (S' : rS), X (0, S') → rX G E dX12_readVote mX12_readVote 179 [none, none, none, none, none] [] S' Q) {rec : Int32 → rS → Nat × rS} {rok : Int32 → rS → Prop} (hrec : ∀ (x1 : Int32) (S : rS), rok x1 S → X (rec x1 S) → rX G E dX12_readVote mX12_readVote 114 [some (.ref E.1), some (.int x1), none, none, none] [] S Q) {x1 : Int32} {x2 : Int64} {x4 : Int32} (ok : OL_readVote_124 N N x1 x2 x4 S ∧ OA_readVote_124 N rok x1 x2 x4 S (L_readVote_124 N N x1 x2 x4 S)) (hx : X (A_readVote_124 N rec x1 x2 x4 S (L_readVote_124 N N x1 x2 x4 S))) : rX G E dX12_readVote mX12_readVote 124 [some (.ref E.1), some (.int x1), some (.long x2), none, some (.int x4)] [] S Q := by
  refine l_readVote_124 hG ?_ N x1 x2 x4 S ok.1 (X := fun z => OA_readVote_124 N rok x1 x2 x4 S z ∧ X (A_readVote_124 N rec x1 x2 x4 S z)) ⟨ok.2, hx⟩
  · intro x1' x2' S' hz
    obtain ⟨ok, hx⟩ := hz
    unfold OA_readVote_124 at ok
    unfold A_readVote_124 at hx
    exact rX.cutz (b_readVote_166 hG hX0 hrec ok hx) ⟨rfl, rfl, rfl, trivial⟩
def B_readVote_114 (N : Nat) (rec : Int32 → rS → Nat × rS) (x1 : Int32) (S : rS) : Nat × rS := (if (nI 4) ≤ x1 then (0, S) else (A_readVote_124 N rec x1 (0 : Int64) (nI 0) S (L_readVote_124 N N x1 (0 : Int64) (nI 0) S)))
def OB_readVote_114 (N : Nat) (rok : Int32 → rS → Prop) (x1 : Int32) (S : rS) : Prop := (((nI 4) ≤ x1 → True) ∧ (¬ (nI 4) ≤ x1 → (OL_readVote_124 N N x1 (0 : Int64) (nI 0) S ∧ OA_readVote_124 N rok x1 (0 : Int64) (nI 0) S (L_readVote_124 N N x1 (0 : Int64) (nI 0) S))))
set_option maxHeartbeats 4000000 in
theorem bb_readVote_114 {G : zG} {E : rE} {S : rS} {N : Nat} {Q : Option Value → rS → Prop} {X : Nat × rS → Prop} (hG : zOK G) (hX0 : ∀ (S' : rS), X (0, S') → rX G E dX12_readVote mX12_readVote 179 [none, none, none, none, none] [] S' Q) {rec : Int32 → rS → Nat × rS} {rok : Int32 → rS → Prop} (hrec : ∀ (x1 : Int32) (S : rS), rok x1 S → X (rec x1 S) → rX G E dX12_readVote mX12_readVote 114 [some (.ref E.1), some (.int x1), none, none, none] [] S Q) {x1 : Int32} (ok : OB_readVote_114 N rok x1 S) (hx : X (B_readVote_114 N rec x1 S)) : rX G E dX12_readVote mX12_readVote 114 [some (.ref E.1), some (.int x1), none, none, none] [] S Q := by
  unfold OB_readVote_114 at ok
  unfold B_readVote_114 at hx
  refine r_iload_n dX12_readVote_114 rfl rfl ?_
  refine r_iconst (v := nI 4) dX12_readVote_115 (by decide) ?_
  refine r_icmp_ge (tgt := 179) dX12_readVote_116 (by decide) (fun c_116 => ?_) (fun c_116 => ?_)
  · have ok := ok.1 c_116
    have hx := xif_p c_116 hx
    exact rX.cutz (hX0 S hx) trivial
  · have ok := ok.2 c_116
    have hx := xif_n c_116 hx
    refine r_lconst (v := 0) dX12_readVote_119 rfl ?_
    refine r_lstore_2 dX12_readVote_120 (by decide) rfl ?_
    refine r_iconst (v := nI 0) dX12_readVote_121 (by decide) ?_
    refine r_istore_4 dX12_readVote_122 (by decide) rfl ?_
    exact rX.cutz (c_readVote_124 hG hX0 hrec ok hx) ⟨rfl, rfl, rfl, rfl, trivial⟩
def L_readVote_114 (N : Nat) : Nat → Int32 → rS → Nat × rS
  | 0, x1, S => (0, S)
  | n + 1, x1, S => B_readVote_114 N (L_readVote_114 N n) x1 S
def OL_readVote_114 (N : Nat) : Nat → Int32 → rS → Prop
  | 0, _, _ => False
  | n + 1, x1, S => OB_readVote_114 N (OL_readVote_114 N n) x1 S
set_option maxHeartbeats 4000000 in
theorem l_readVote_114 {G : zG} {E : rE} {N : Nat} {Q : Option Value → rS → Prop} {X : Nat × rS → Prop} (hG : zOK G) (hX0 : ∀ (S' : rS), X (0, S') → rX G E dX12_readVote mX12_readVote 179 [none, none, none, none, none] [] S' Q) : ∀ (n : Nat) (x1 : Int32) (S : rS), OL_readVote_114 N n x1 S → X (L_readVote_114 N n x1 S) → rX G E dX12_readVote mX12_readVote 114 [some (.ref E.1), some (.int x1), none, none, none] [] S Q := by
  intro n
  induction n with
  | zero => intro x1 S ok; exact absurd ok id
  | succ n ih =>
    intro x1 S ok hx
    exact bb_readVote_114 hG hX0 (rec := L_readVote_114 N n) (rok := OL_readVote_114 N n) (fun x1 S ok hx => ih x1 S ok hx) ok hx
def A_readVote_114 (N : Nat) (x1 : Int32) (S : rS) (z : Nat × rS) : Int32 × rS := (F_readVote_179 N z.2)
def OA_readVote_114 (N : Nat) (x1 : Int32) (S : rS) (z : Nat × rS) : Prop := O_readVote_179 N z.2
set_option maxHeartbeats 4000000 in
theorem c_readVote_114 {G : zG} {E : rE} {S : rS} {N : Nat} {Q : Option Value → rS → Prop} {X : Int32 × rS → Prop} (hG : zOK G) (hR : ∀ v S', X (v, S') → Q (some (.int v)) S') {x1 : Int32} (ok : OL_readVote_114 N N x1 S ∧ OA_readVote_114 N x1 S (L_readVote_114 N N x1 S)) (hx : X (A_readVote_114 N x1 S (L_readVote_114 N N x1 S))) : rX G E dX12_readVote mX12_readVote 114 [some (.ref E.1), some (.int x1), none, none, none] [] S Q := by
  refine l_readVote_114 hG ?_ N x1 S ok.1 (X := fun z => OA_readVote_114 N x1 S z ∧ X (A_readVote_114 N x1 S z)) ⟨ok.2, hx⟩
  · intro S' hz
    obtain ⟨ok, hx⟩ := hz
    unfold OA_readVote_114 at ok
    unfold A_readVote_114 at hx
    exact rX.cutz (b_readVote_179 hG hR ok hx) trivial
def F_readVote_109 (N : Nat) (s1 : Int32) (S : rS) : Int32 × rS := (A_readVote_114 N (nI 0) (rsI S 41 s1) (L_readVote_114 N N (nI 0) (rsI S 41 s1)))
def O_readVote_109 (N : Nat) (s1 : Int32) (S : rS) : Prop := (narrow .boolean (.int s1) = .int s1 ∧ fits .boolean (.int s1) = true) ∧ (OL_readVote_114 N N (nI 0) (rsI S 41 s1) ∧ OA_readVote_114 N (nI 0) (rsI S 41 s1) (L_readVote_114 N N (nI 0) (rsI S 41 s1)))
set_option maxHeartbeats 4000000 in
theorem b_readVote_109 {G : zG} {E : rE} {S : rS} {N : Nat} {Q : Option Value → rS → Prop} {X : Int32 × rS → Prop} (hG : zOK G) (hR : ∀ v S', X (v, S') → Q (some (.int v)) S') {s1 : Int32} (ok : O_readVote_109 N s1 S) (hx : X (F_readVote_109 N s1 S)) : rX G E dX12_readVote mX12_readVote 109 [some (.ref E.1), none, none, none, none] [.int s1, .ref E.1] S Q := by
  unfold O_readVote_109 at ok
  unfold F_readVote_109 at hx
  refine r_putI 41 fX12_266 (by decide) (by decide) rfl ok.1.1 ok.1.2 dX12_readVote_109 ?_
  have ok := ok.2
  refine r_iconst (v := nI 0) dX12_readVote_112 (by decide) ?_
  refine r_istore_1 dX12_readVote_113 (by decide) rfl ?_
  exact rX.cutz (c_readVote_114 hG hR ok hx) ⟨rfl, rfl, trivial⟩
def F_readVote_93 (N : Nat)  (S : rS) : Int32 × rS := (if (S.2.1 32 (nI 5).toNatClampNeg) = (nI 1) then (F_readVote_109 N (nI 1) S) else (F_readVote_109 N (nI 0) S))
def O_readVote_93 (N : Nat)  (S : rS) : Prop := (vp_in (nI 5) 1010) ∧ (((S.2.1 32 (nI 5).toNatClampNeg) = (nI 1) → O_readVote_109 N (nI 1) S) ∧ (¬ (S.2.1 32 (nI 5).toNatClampNeg) = (nI 1) → O_readVote_109 N (nI 0) S))
set_option maxHeartbeats 4000000 in
theorem b_readVote_93 {G : zG} {E : rE} {S : rS} {N : Nat} {Q : Option Value → rS → Prop} {X : Int32 × rS → Prop} (hG : zOK G) (hR : ∀ v S', X (v, S') → Q (some (.int v)) S') (ok : O_readVote_93 N S) (hx : X (F_readVote_93 N S)) : rX G E dX12_readVote mX12_readVote 93 [some (.ref E.1), none, none, none, none] [] S Q := by
  unfold O_readVote_93 at ok
  unfold F_readVote_93 at hx
  refine r_aload_n dX12_readVote_93 rfl rfl ?_
  refine r_aload_n dX12_readVote_94 rfl rfl ?_
  refine r_getA 32 fX12_204 (by decide) (by decide) dX12_readVote_95 ?_
  refine r_iconst (v := nI 5) dX12_readVote_98 (by decide) ?_
  refine r_iald (by decide) (by decide) dX12_readVote_99 ok.1 ?_
  have ok := ok.2
  refine r_iconst (v := nI 1) dX12_readVote_100 (by decide) ?_
  refine r_icmp_ne (tgt := 108) dX12_readVote_101 (by decide) (fun c_101 => ?_) (fun c_101 => ?_)
  · have ok := ok.2 c_101
    have hx := xif_n c_101 hx
    refine r_iconst (v := nI 0) dX12_readVote_108 (by decide) ?_
    exact rX.cutz (b_readVote_109 hG hR ok hx) ⟨rfl, trivial⟩
  · have ok := ok.1 c_101
    have hx := xif_p c_101 hx
    refine r_iconst (v := nI 1) dX12_readVote_104 (by decide) ?_
    refine r_goto (tgt := 109) dX12_readVote_105 (by decide) ?_
    exact rX.cutz (b_readVote_109 hG hR ok hx) ⟨rfl, trivial⟩
def F_readVote_71 (N : Nat)  (S : rS) : Int32 × rS := ((nI 0), S)
def O_readVote_71 (N : Nat)  (S : rS) : Prop := True
set_option maxHeartbeats 4000000 in
theorem b_readVote_71 {G : zG} {E : rE} {S : rS} {N : Nat} {Q : Option Value → rS → Prop} {X : Int32 × rS → Prop} (hG : zOK G) (hR : ∀ v S', X (v, S') → Q (some (.int v)) S') (ok : O_readVote_71 N S) (hx : X (F_readVote_71 N S)) : rX G E dX12_readVote mX12_readVote 71 [none, none, none, none, none] [] S Q := by
  unfold O_readVote_71 at ok
  unfold F_readVote_71 at hx
  refine r_iconst (v := nI 0) dX12_readVote_71 (by decide) ?_
  exact r_ireturn rfl rfl dX12_readVote_72 (hR _ _ hx)
def F_readVote_0 (N : Nat)  (S : rS) : Int32 × rS := (if ((rsI S 38 (f_heightAt N S (nI 2))).1 33) < (nI 6) then (F_readVote_71 N (rsI S 38 (f_heightAt N S (nI 2)))) else (if ((rsI S 38 (f_heightAt N S (nI 2))).1 0) ≤ ((rsI S 38 (f_heightAt N S (nI 2))).2.1 32 (nI 1).toNatClampNeg) then (F_readVote_71 N (rsI S 38 (f_heightAt N S (nI 2)))) else (if ((rsI S 38 (f_heightAt N S (nI 2))).1 38) = 0 then (F_readVote_71 N (rsI S 38 (f_heightAt N S (nI 2)))) else (if (nI 15) < ((rsI S 38 (f_heightAt N S (nI 2))).2.1 32 (nI 4).toNatClampNeg) then (F_readVote_71 N (rsI S 38 (f_heightAt N S (nI 2)))) else (if (f_endAt N (rsI S 38 (f_heightAt N S (nI 2))) (nI 5)) = 0 then (F_readVote_71 N (rsI S 38 (f_heightAt N S (nI 2)))) else (if ((rsI S 38 (f_heightAt N S (nI 2))).1 33) = ((nI 5) + (f_endAt N (rsI S 38 (f_heightAt N S (nI 2))) (nI 5))) then (F_readVote_93 N (rsI (rsI (rsI S 38 (f_heightAt N S (nI 2))) 37 ((rsI S 38 (f_heightAt N S (nI 2))).2.1 32 (nI 1).toNatClampNeg)) 39 ((rsI (rsI S 38 (f_heightAt N S (nI 2))) 37 ((rsI S 38 (f_heightAt N S (nI 2))).2.1 32 (nI 1).toNatClampNeg)).2.1 32 (nI 4).toNatClampNeg))) else (F_readVote_71 N (rsI S 38 (f_heightAt N S (nI 2))))))))))
def O_readVote_0 (N : Nat)  (S : rS) : Prop := (o_heightAt N S (nI 2)) ∧ ((((rsI S 38 (f_heightAt N S (nI 2))).1 33) < (nI 6) → O_readVote_71 N (rsI S 38 (f_heightAt N S (nI 2)))) ∧ (¬ ((rsI S 38 (f_heightAt N S (nI 2))).1 33) < (nI 6) → (vp_in (nI 1) 1010) ∧ ((((rsI S 38 (f_heightAt N S (nI 2))).1 0) ≤ ((rsI S 38 (f_heightAt N S (nI 2))).2.1 32 (nI 1).toNatClampNeg) → O_readVote_71 N (rsI S 38 (f_heightAt N S (nI 2)))) ∧ (¬ ((rsI S 38 (f_heightAt N S (nI 2))).1 0) ≤ ((rsI S 38 (f_heightAt N S (nI 2))).2.1 32 (nI 1).toNatClampNeg) → ((((rsI S 38 (f_heightAt N S (nI 2))).1 38) = 0 → O_readVote_71 N (rsI S 38 (f_heightAt N S (nI 2)))) ∧ (¬ ((rsI S 38 (f_heightAt N S (nI 2))).1 38) = 0 → (vp_in (nI 4) 1010) ∧ (((nI 15) < ((rsI S 38 (f_heightAt N S (nI 2))).2.1 32 (nI 4).toNatClampNeg) → O_readVote_71 N (rsI S 38 (f_heightAt N S (nI 2)))) ∧ (¬ (nI 15) < ((rsI S 38 (f_heightAt N S (nI 2))).2.1 32 (nI 4).toNatClampNeg) → (o_endAt N (rsI S 38 (f_heightAt N S (nI 2))) (nI 5)) ∧ (((f_endAt N (rsI S 38 (f_heightAt N S (nI 2))) (nI 5)) = 0 → O_readVote_71 N (rsI S 38 (f_heightAt N S (nI 2)))) ∧ (¬ (f_endAt N (rsI S 38 (f_heightAt N S (nI 2))) (nI 5)) = 0 → (o_endAt N (rsI S 38 (f_heightAt N S (nI 2))) (nI 5)) ∧ ((((rsI S 38 (f_heightAt N S (nI 2))).1 33) = ((nI 5) + (f_endAt N (rsI S 38 (f_heightAt N S (nI 2))) (nI 5))) → (vp_in (nI 1) 1010) ∧ (vp_in (nI 4) 1010) ∧ O_readVote_93 N (rsI (rsI (rsI S 38 (f_heightAt N S (nI 2))) 37 ((rsI S 38 (f_heightAt N S (nI 2))).2.1 32 (nI 1).toNatClampNeg)) 39 ((rsI (rsI S 38 (f_heightAt N S (nI 2))) 37 ((rsI S 38 (f_heightAt N S (nI 2))).2.1 32 (nI 1).toNatClampNeg)).2.1 32 (nI 4).toNatClampNeg))) ∧ (¬ ((rsI S 38 (f_heightAt N S (nI 2))).1 33) = ((nI 5) + (f_endAt N (rsI S 38 (f_heightAt N S (nI 2))) (nI 5))) → O_readVote_71 N (rsI S 38 (f_heightAt N S (nI 2)))))))))))))))
set_option maxHeartbeats 4000000 in
theorem b_readVote_0 {G : zG} {E : rE} {S : rS} {N : Nat} {Q : Option Value → rS → Prop} {X : Int32 × rS → Prop} (hG : zOK G) (hR : ∀ v S', X (v, S') → Q (some (.int v)) S') (ok : O_readVote_0 N S) (hx : X (F_readVote_0 N S)) : rX G E dX12_readVote mX12_readVote 0 [some (.ref E.1), none, none, none, none] [] S Q := by
  unfold O_readVote_0 at ok
  unfold F_readVote_0 at hx
  refine r_aload_n dX12_readVote_0 rfl rfl ?_
  refine r_aload_n dX12_readVote_1 rfl rfl ?_
  refine r_iconst (v := nI 2) dX12_readVote_2 (by decide) ?_
  refine r_V1i (y' := mX12_heightAt) dX12_readVote_3 lX12_232 kX12_heightAt ⟨by decide, by decide⟩ rfl (Nat.le_of_ble_eq_true rfl) (rc_X12_heightAt hG ok.1) (fun v_3 S_3 h_3 => ?_)
  obtain ⟨rfl, hS_3⟩ := h_3
  have hS_3 := hS_3.symm
  subst hS_3
  have ok := ok.2
  refine r_putI 38 fX12_257 (by decide) (by decide) rfl rfl rfl dX12_readVote_6 ?_
  refine r_aload_n dX12_readVote_9 rfl rfl ?_
  refine r_getI 33 fX12_201 (by decide) (by decide) dX12_readVote_10 ?_
  refine r_bipush (v := nI 6) dX12_readVote_13 (by decide) ?_
  refine r_icmp_lt (tgt := 71) dX12_readVote_15 (by decide) (fun c_15 => ?_) (fun c_15 => ?_)
  · have ok := ok.1 c_15
    have hx := xif_p c_15 hx
    exact rX.cutz (b_readVote_71 hG hR ok hx) trivial
  · have ok := ok.2 c_15
    have hx := xif_n c_15 hx
    refine r_aload_n dX12_readVote_18 rfl rfl ?_
    refine r_getA 32 fX12_204 (by decide) (by decide) dX12_readVote_19 ?_
    refine r_iconst (v := nI 1) dX12_readVote_22 (by decide) ?_
    refine r_iald (by decide) (by decide) dX12_readVote_23 ok.1 ?_
    have ok := ok.2
    refine r_aload_n dX12_readVote_24 rfl rfl ?_
    refine r_getI 0 fX12_219 (by decide) (by decide) dX12_readVote_25 ?_
    refine r_icmp_ge (tgt := 71) dX12_readVote_28 (by decide) (fun c_28 => ?_) (fun c_28 => ?_)
    · have ok := ok.1 c_28
      have hx := xif_p c_28 hx
      exact rX.cutz (b_readVote_71 hG hR ok hx) trivial
    · have ok := ok.2 c_28
      have hx := xif_n c_28 hx
      refine r_aload_n dX12_readVote_31 rfl rfl ?_
      refine r_getI 38 fX12_257 (by decide) (by decide) dX12_readVote_32 ?_
      refine r_if_eq (tgt := 71) dX12_readVote_35 (by decide) (fun c_35 => ?_) (fun c_35 => ?_)
      · have ok := ok.1 c_35
        have hx := xif_p c_35 hx
        exact rX.cutz (b_readVote_71 hG hR ok hx) trivial
      · have ok := ok.2 c_35
        have hx := xif_n c_35 hx
        refine r_aload_n dX12_readVote_38 rfl rfl ?_
        refine r_getA 32 fX12_204 (by decide) (by decide) dX12_readVote_39 ?_
        refine r_iconst (v := nI 4) dX12_readVote_42 (by decide) ?_
        refine r_iald (by decide) (by decide) dX12_readVote_43 ok.1 ?_
        have ok := ok.2
        refine r_bipush (v := nI 15) dX12_readVote_44 (by decide) ?_
        refine r_icmp_gt (tgt := 71) dX12_readVote_46 (by decide) (fun c_46 => ?_) (fun c_46 => ?_)
        · have ok := ok.1 c_46
          have hx := xif_p c_46 hx
          exact rX.cutz (b_readVote_71 hG hR ok hx) trivial
        · have ok := ok.2 c_46
          have hx := xif_n c_46 hx
          refine r_aload_n dX12_readVote_49 rfl rfl ?_
          refine r_iconst (v := nI 5) dX12_readVote_50 (by decide) ?_
          refine r_V1i (y' := mX12_endAt) dX12_readVote_51 lX12_235 kX12_endAt ⟨by decide, by decide⟩ rfl (Nat.le_of_ble_eq_true rfl) (rc_X12_endAt hG ok.1) (fun v_51 S_51 h_51 => ?_)
          obtain ⟨rfl, hS_51⟩ := h_51
          have hS_51 := hS_51.symm
          subst hS_51
          have ok := ok.2
          refine r_if_eq (tgt := 71) dX12_readVote_54 (by decide) (fun c_54 => ?_) (fun c_54 => ?_)
          · have ok := ok.1 c_54
            have hx := xif_p c_54 hx
            exact rX.cutz (b_readVote_71 hG hR ok hx) trivial
          · have ok := ok.2 c_54
            have hx := xif_n c_54 hx
            refine r_aload_n dX12_readVote_57 rfl rfl ?_
            refine r_getI 33 fX12_201 (by decide) (by decide) dX12_readVote_58 ?_
            refine r_iconst (v := nI 5) dX12_readVote_61 (by decide) ?_
            refine r_aload_n dX12_readVote_62 rfl rfl ?_
            refine r_iconst (v := nI 5) dX12_readVote_63 (by decide) ?_
            refine r_V1i (y' := mX12_endAt) dX12_readVote_64 lX12_235 kX12_endAt ⟨by decide, by decide⟩ rfl (Nat.le_of_ble_eq_true rfl) (rc_X12_endAt hG ok.1) (fun v_64 S_64 h_64 => ?_)
            obtain ⟨rfl, hS_64⟩ := h_64
            have hS_64 := hS_64.symm
            subst hS_64
            have ok := ok.2
            refine r_iadd dX12_readVote_67 ?_
            refine r_icmp_eq (tgt := 73) dX12_readVote_68 (by decide) (fun c_68 => ?_) (fun c_68 => ?_)
            · have ok := ok.1 c_68
              have hx := xif_p c_68 hx
              refine r_aload_n dX12_readVote_73 rfl rfl ?_
              refine r_aload_n dX12_readVote_74 rfl rfl ?_
              refine r_getA 32 fX12_204 (by decide) (by decide) dX12_readVote_75 ?_
              refine r_iconst (v := nI 1) dX12_readVote_78 (by decide) ?_
              refine r_iald (by decide) (by decide) dX12_readVote_79 ok.1 ?_
              have ok := ok.2
              refine r_putI 37 fX12_260 (by decide) (by decide) rfl rfl rfl dX12_readVote_80 ?_
              refine r_aload_n dX12_readVote_83 rfl rfl ?_
              refine r_aload_n dX12_readVote_84 rfl rfl ?_
              refine r_getA 32 fX12_204 (by decide) (by decide) dX12_readVote_85 ?_
              refine r_iconst (v := nI 4) dX12_readVote_88 (by decide) ?_
              refine r_iald (by decide) (by decide) dX12_readVote_89 ok.1 ?_
              have ok := ok.2
              refine r_putI 39 fX12_263 (by decide) (by decide) rfl rfl rfl dX12_readVote_90 ?_
              exact rX.cutz (b_readVote_93 hG hR ok hx) ⟨rfl, trivial⟩
            · have ok := ok.2 c_68
              have hx := xif_n c_68 hx
              exact rX.cutz (b_readVote_71 hG hR ok hx) trivial
def f_readVote (N : Nat) (S : rS) : Int32 × rS := F_readVote_0 N S
def o_readVote (N : Nat) (S : rS) : Prop := O_readVote_0 N S
set_option maxHeartbeats 4000000 in
theorem rc_X12_readVote {G : zG} {E : rE} {S : rS} {N : Nat} (hG : zOK G) (ok : o_readVote N S ) : rCi G E dX12_readVote mX12_readVote [.ref E.1] S (fun v S' => v = (f_readVote N S).1 ∧ S' = (f_readVote N S).2) := by
  refine rC.ofX rfl (Nat.le_of_ble_eq_true rfl) ?_
  show rX G E dX12_readVote mX12_readVote 0 [some (.ref E.1), none, none, none, none] [] S _
  exact rX.cutz (b_readVote_0 (X := fun F => F = f_readVote N S) hG (fun v S' h => ⟨v, rfl, by rw [← h], by rw [← h]⟩) ok rfl) ⟨rfl, trivial⟩

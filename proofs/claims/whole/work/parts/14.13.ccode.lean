/-! X8_clearDecided -/
def F_X8_clearDecided_62 (N : Nat)  (S : cS) : cS := S
def O_X8_clearDecided_62 (N : Nat)  (S : cS) : Prop := True
set_option maxRecDepth 100000 in
set_option maxHeartbeats 4000000 in
theorem b_X8_clearDecided_62 {G : zG} {o : cO} {S : cS} {N : Nat} {Q : Option Value → cS → Prop} {X : cS → Prop} (hG : zOK G) (hR : ∀ S', X S' → Q none S') (ok : O_X8_clearDecided_62 N S) (hx : X (F_X8_clearDecided_62 N S)) : cX G o dX8_clearDecided mX8_clearDecided 62 [none, none] [] S Q := by
  unfold O_X8_clearDecided_62 at ok
  unfold F_X8_clearDecided_62 at hx
  exact c_return rfl dX8_clearDecided_62 (hR _ hx)
def F_X8_clearDecided_56 (N : Nat) (rec : Option Nat → Int32 → cS → Nat × cS) (x0 : Option Nat) (x1 : Int32) (S : cS) : Nat × cS := (rec x0 (x1 + nI 1) S)
def O_X8_clearDecided_56 (N : Nat) (rok : Option Nat → Int32 → cS → Prop) (x0 : Option Nat) (x1 : Int32) (S : cS) : Prop := rok x0 (x1 + nI 1) S
set_option maxRecDepth 100000 in
set_option maxHeartbeats 4000000 in
theorem b_X8_clearDecided_56 {G : zG} {o : cO} {S : cS} {N : Nat} {Q : Option Value → cS → Prop} {X : Nat × cS → Prop} (hG : zOK G) (hX0 : ∀ (S' : cS), X (0, S') → cX G o dX8_clearDecided mX8_clearDecided 62 [none, none] [] S' Q) {rec : Option Nat → Int32 → cS → Nat × cS} {rok : Option Nat → Int32 → cS → Prop} (hrec : ∀ (x0 : Option Nat) (x1 : Int32) (S : cS), rok x0 x1 S → X (rec x0 x1 S) → cX G o dX8_clearDecided mX8_clearDecided 2 [some (va_rf x0), some (.int x1)] [] S Q) {x0 : Option Nat} {x1 : Int32} (ok : O_X8_clearDecided_56 N rok x0 x1 S) (hx : X (F_X8_clearDecided_56 N rec x0 x1 S)) : cX G o dX8_clearDecided mX8_clearDecided 56 [some (va_rf x0), some (.int x1)] [] S Q := by
  unfold O_X8_clearDecided_56 at ok
  unfold F_X8_clearDecided_56 at hx
  refine c_iinc_1 (v := (x1 + nI 1)) dX8_clearDecided_56 rfl (by first | rfl | (congr 1)) (by decide) (by simp [zok, zg, zcat_rf]) ?_
  refine c_goto (tgt := 2) dX8_clearDecided_59 (by decide) ?_
  exact cX.cutz (hrec _ _ S ok hx) ⟨rfl, rfl, trivial⟩
def F_X8_clearDecided_39 (N : Nat) (rec : Option Nat → Int32 → cS → Nat × cS) (x0 : Option Nat) (x1 : Int32) (S : cS) : Nat × cS := (F_X8_clearDecided_56 N rec x0 x1 (csI (csP S (za (cR S 6 (za x0))) x1.toNatClampNeg (none : Option Nat)) 11 (za x0) ((cI (csP S (za (cR S 6 (za x0))) x1.toNatClampNeg (none : Option Nat)) 11 (za x0)) - (nI 1))))
def O_X8_clearDecided_39 (N : Nat) (rok : Option Nat → Int32 → cS → Prop) (x0 : Option Nat) (x1 : Int32) (S : cS) : Prop := (cis S x0 7) ∧ (cis S (cR S 6 (za x0)) 24 ∧ vp_in x1 (cL S (za (cR S 6 (za x0)))) ∧ ((none : Option Nat) = none ∨ cis S (none : Option Nat) 5)) ∧ (cis (csP S (za (cR S 6 (za x0))) x1.toNatClampNeg (none : Option Nat)) x0 7) ∧ (cis (csP S (za (cR S 6 (za x0))) x1.toNatClampNeg (none : Option Nat)) x0 7) ∧ O_X8_clearDecided_56 N rok x0 x1 (csI (csP S (za (cR S 6 (za x0))) x1.toNatClampNeg (none : Option Nat)) 11 (za x0) ((cI (csP S (za (cR S 6 (za x0))) x1.toNatClampNeg (none : Option Nat)) 11 (za x0)) - (nI 1)))
set_option maxRecDepth 100000 in
set_option maxHeartbeats 4000000 in
theorem b_X8_clearDecided_39 {G : zG} {o : cO} {S : cS} {N : Nat} {Q : Option Value → cS → Prop} {X : Nat × cS → Prop} (hG : zOK G) (hX0 : ∀ (S' : cS), X (0, S') → cX G o dX8_clearDecided mX8_clearDecided 62 [none, none] [] S' Q) {rec : Option Nat → Int32 → cS → Nat × cS} {rok : Option Nat → Int32 → cS → Prop} (hrec : ∀ (x0 : Option Nat) (x1 : Int32) (S : cS), rok x0 x1 S → X (rec x0 x1 S) → cX G o dX8_clearDecided mX8_clearDecided 2 [some (va_rf x0), some (.int x1)] [] S Q) {x0 : Option Nat} {x1 : Int32} (ok : O_X8_clearDecided_39 N rok x0 x1 S) (hx : X (F_X8_clearDecided_39 N rec x0 x1 S)) : cX G o dX8_clearDecided mX8_clearDecided 39 [some (va_rf x0), some (.int x1)] [] S Q := by
  unfold O_X8_clearDecided_39 at ok
  unfold F_X8_clearDecided_39 at hx
  refine c_aload_nQ dX8_clearDecided_39 rfl rfl ?_
  refine c_getR (C := RX8) (T := TX8) (N := 14) (ci := 6) (k := 6) ⟨rfl, inT8, by decide, fX8_39⟩ (by decide) (by decide) (by decide) dX8_clearDecided_40 ok.1 ?_
  have ok := ok.2
  refine c_iload_n dX8_clearDecided_43 rfl rfl ?_
  refine c_null' dX8_clearDecided_44 ?_
  refine c_aast (t := 4) (ci := 4) (rr := (RX5, TX5, 7)) rfl rfl (by decide) (by decide) dX8_clearDecided_45 ok.1 ?_
  have ok := ok.2
  refine c_aload_nQ dX8_clearDecided_46 rfl rfl ?_
  refine c_dup dX8_clearDecided_47 (zcat_rf _) ?_
  refine c_getI (C := RX8) (T := TX8) (N := 14) (ci := 6) (k := 11) ⟨rfl, inT8, by decide, fX8_88⟩ (by decide) (by decide) (by decide) dX8_clearDecided_48 ok.1 ?_
  have ok := ok.2
  refine c_iconst (v := nI 1) dX8_clearDecided_51 (by decide) ?_
  refine c_isub dX8_clearDecided_52 ?_
  refine c_putI (C := RX8) (T := TX8) (N := 14) (ci := 6) (k := 11) ⟨rfl, inT8, by decide, fX8_88⟩ ftT8 rfl (by decide) (by decide) (by decide) rfl rfl dX8_clearDecided_53 ok.1 ?_
  have ok := ok.2
  exact cX.cutz (b_X8_clearDecided_56 hG hX0 hrec ok hx) ⟨rfl, rfl, trivial⟩
def B_X8_clearDecided_2 (N : Nat) (rec : Option Nat → Int32 → cS → Nat × cS) (x0 : Option Nat) (x1 : Int32) (S : cS) : Nat × cS := (if (cI S 1 (za x0)) ≤ x1 then (0, S) else (if (cI S 11 (za x0)) ≤ 0 then (0, S) else (if (cP S (za (cR S 6 (za x0))) x1.toNatClampNeg) = none then (F_X8_clearDecided_56 N rec x0 x1 S) else (F_X8_clearDecided_39 N rec x0 x1 (f_X9_drop N S (za (cR S 0 (za x0))) (cP S (za (cR S 6 (za x0))) x1.toNatClampNeg))))))
def OB_X8_clearDecided_2 (N : Nat) (rok : Option Nat → Int32 → cS → Prop) (x0 : Option Nat) (x1 : Int32) (S : cS) : Prop := (cis S x0 7) ∧ (((cI S 1 (za x0)) ≤ x1 → True) ∧ (¬ (cI S 1 (za x0)) ≤ x1 → (cis S x0 7) ∧ (((cI S 11 (za x0)) ≤ 0 → True) ∧ (¬ (cI S 11 (za x0)) ≤ 0 → (cis S x0 7) ∧ (cis S (cR S 6 (za x0)) 24 ∧ vp_in x1 (cL S (za (cR S 6 (za x0))))) ∧ (((cP S (za (cR S 6 (za x0))) x1.toNatClampNeg) = none → O_X8_clearDecided_56 N rok x0 x1 S) ∧ (¬ (cP S (za (cR S 6 (za x0))) x1.toNatClampNeg) = none → (cis S x0 7) ∧ (cis S x0 7) ∧ (cis S (cR S 6 (za x0)) 24 ∧ vp_in x1 (cL S (za (cR S 6 (za x0))))) ∧ (cis S (cR S 0 (za x0)) 8 ∧ o_X9_drop N S (za (cR S 0 (za x0))) (cP S (za (cR S 6 (za x0))) x1.toNatClampNeg)) ∧ O_X8_clearDecided_39 N rok x0 x1 (f_X9_drop N S (za (cR S 0 (za x0))) (cP S (za (cR S 6 (za x0))) x1.toNatClampNeg))))))))
set_option maxRecDepth 100000 in
set_option maxHeartbeats 4000000 in
theorem bb_X8_clearDecided_2 {G : zG} {o : cO} {S : cS} {N : Nat} {Q : Option Value → cS → Prop} {X : Nat × cS → Prop} (hG : zOK G) (hX0 : ∀ (S' : cS), X (0, S') → cX G o dX8_clearDecided mX8_clearDecided 62 [none, none] [] S' Q) {rec : Option Nat → Int32 → cS → Nat × cS} {rok : Option Nat → Int32 → cS → Prop} (hrec : ∀ (x0 : Option Nat) (x1 : Int32) (S : cS), rok x0 x1 S → X (rec x0 x1 S) → cX G o dX8_clearDecided mX8_clearDecided 2 [some (va_rf x0), some (.int x1)] [] S Q) {x0 : Option Nat} {x1 : Int32} (ok : OB_X8_clearDecided_2 N rok x0 x1 S) (hx : X (B_X8_clearDecided_2 N rec x0 x1 S)) : cX G o dX8_clearDecided mX8_clearDecided 2 [some (va_rf x0), some (.int x1)] [] S Q := by
  unfold OB_X8_clearDecided_2 at ok
  unfold B_X8_clearDecided_2 at hx
  refine c_iload_n dX8_clearDecided_2 rfl rfl ?_
  refine c_aload_nQ dX8_clearDecided_3 rfl rfl ?_
  refine c_getI (C := RX8) (T := TX8) (N := 14) (ci := 6) (k := 1) ⟨rfl, inT8, by decide, fX8_32⟩ (by decide) (by decide) (by decide) dX8_clearDecided_4 ok.1 ?_
  have ok := ok.2
  refine c_icmp_ge (tgt := 62) dX8_clearDecided_7 (by decide) (fun c_7 => ?_) (fun c_7 => ?_)
  · have ok := ok.1 c_7
    have hx := xif_p c_7 hx
    exact cX.cutz (hX0 S hx) trivial
  · have ok := ok.2 c_7
    have hx := xif_n c_7 hx
    refine c_aload_nQ dX8_clearDecided_10 rfl rfl ?_
    refine c_getI (C := RX8) (T := TX8) (N := 14) (ci := 6) (k := 11) ⟨rfl, inT8, by decide, fX8_88⟩ (by decide) (by decide) (by decide) dX8_clearDecided_11 ok.1 ?_
    have ok := ok.2
    refine c_if_le (tgt := 62) dX8_clearDecided_14 (by decide) (fun c_14 => ?_) (fun c_14 => ?_)
    · have ok := ok.1 c_14
      have hx := xif_p c_14 hx
      exact cX.cutz (hX0 S hx) trivial
    · have ok := ok.2 c_14
      have hx := xif_n c_14 hx
      refine c_aload_nQ dX8_clearDecided_17 rfl rfl ?_
      refine c_getR (C := RX8) (T := TX8) (N := 14) (ci := 6) (k := 6) ⟨rfl, inT8, by decide, fX8_39⟩ (by decide) (by decide) (by decide) dX8_clearDecided_18 ok.1 ?_
      have ok := ok.2
      refine c_iload_n dX8_clearDecided_21 rfl rfl ?_
      refine c_aald (t := 4) (ty := (.object "QuorumLedger$Message")) rfl rfl (by decide) dX8_clearDecided_22 ok.1 ?_
      have ok := ok.2
      refine c_ifnullI (tgt := 56) dX8_clearDecided_23 (by decide) (fun c_23 => ?_) (fun c_23 => ?_)
      · have ok := ok.1 c_23
        have hx := xif_p c_23 hx
        exact cX.cutz (b_X8_clearDecided_56 hG hX0 hrec ok hx) ⟨rfl, rfl, trivial⟩
      · have ok := ok.2 c_23
        have hx := xif_n c_23 hx
        refine c_aload_nQ dX8_clearDecided_26 rfl rfl ?_
        refine c_getR (C := RX8) (T := TX8) (N := 14) (ci := 6) (k := 0) ⟨rfl, inT8, by decide, fX8_28⟩ (by decide) (by decide) (by decide) dX8_clearDecided_27 ok.1 ?_
        have ok := ok.2
        refine c_aload_nQ dX8_clearDecided_30 rfl rfl ?_
        refine c_getR (C := RX8) (T := TX8) (N := 14) (ci := 6) (k := 6) ⟨rfl, inT8, by decide, fX8_39⟩ (by decide) (by decide) (by decide) dX8_clearDecided_31 ok.1 ?_
        have ok := ok.2
        refine c_iload_n dX8_clearDecided_34 rfl rfl ?_
        refine c_aald (t := 4) (ty := (.object "QuorumLedger$Message")) rfl rfl (by decide) dX8_clearDecided_35 ok.1 ?_
        have ok := ok.2
        refine c_V1vE (ci := 7) (rr := (RX9, TX9, 13)) (y' := mX9_drop) dX8_clearDecided_36 lX8_91 kX9_drop ⟨by decide, by decide⟩ rfl rfl (by decide) ok.1.1 (Nat.le_of_ble_eq_true rfl) (cc_X9_drop hG ok.1.2) ?_
        have ok := ok.2
        exact cX.cutz (b_X8_clearDecided_39 hG hX0 hrec ok hx) ⟨rfl, rfl, trivial⟩
def L_X8_clearDecided_2 (N : Nat) : Nat → Option Nat → Int32 → cS → Nat × cS
  | 0, x0, x1, S => (0, S)
  | n + 1, x0, x1, S => B_X8_clearDecided_2 N (L_X8_clearDecided_2 N n) x0 x1 S
def OL_X8_clearDecided_2 (N : Nat) : Nat → Option Nat → Int32 → cS → Prop
  | 0, _, _, _ => False
  | n + 1, x0, x1, S => OB_X8_clearDecided_2 N (OL_X8_clearDecided_2 N n) x0 x1 S
set_option maxRecDepth 100000 in
set_option maxHeartbeats 4000000 in
theorem l_X8_clearDecided_2 {G : zG} {o : cO} {N : Nat} {Q : Option Value → cS → Prop} {X : Nat × cS → Prop} (hG : zOK G) (hX0 : ∀ (S' : cS), X (0, S') → cX G o dX8_clearDecided mX8_clearDecided 62 [none, none] [] S' Q) : ∀ (n : Nat) (x0 : Option Nat) (x1 : Int32) (S : cS), OL_X8_clearDecided_2 N n x0 x1 S → X (L_X8_clearDecided_2 N n x0 x1 S) → cX G o dX8_clearDecided mX8_clearDecided 2 [some (va_rf x0), some (.int x1)] [] S Q := by
  intro n
  induction n with
  | zero => intro x0 x1 S ok; exact absurd ok id
  | succ n ih =>
    intro x0 x1 S ok hx
    exact bb_X8_clearDecided_2 hG hX0 (rec := L_X8_clearDecided_2 N n) (rok := OL_X8_clearDecided_2 N n) (fun x0 x1 S ok hx => ih x0 x1 S ok hx) ok hx
def A_X8_clearDecided_2 (N : Nat) (x0 : Option Nat) (x1 : Int32) (S : cS) (z : Nat × cS) : cS := (F_X8_clearDecided_62 N z.2)
def OA_X8_clearDecided_2 (N : Nat) (x0 : Option Nat) (x1 : Int32) (S : cS) (z : Nat × cS) : Prop := O_X8_clearDecided_62 N z.2
set_option maxRecDepth 100000 in
set_option maxHeartbeats 4000000 in
theorem c_X8_clearDecided_2 {G : zG} {o : cO} {S : cS} {N : Nat} {Q : Option Value → cS → Prop} {X : cS → Prop} (hG : zOK G) (hR : ∀ S', X S' → Q none S') {x0 : Option Nat} {x1 : Int32} (ok : OL_X8_clearDecided_2 N N x0 x1 S ∧ OA_X8_clearDecided_2 N x0 x1 S (L_X8_clearDecided_2 N N x0 x1 S)) (hx : X (A_X8_clearDecided_2 N x0 x1 S (L_X8_clearDecided_2 N N x0 x1 S))) : cX G o dX8_clearDecided mX8_clearDecided 2 [some (va_rf x0), some (.int x1)] [] S Q := by
  refine l_X8_clearDecided_2 hG ?_ N x0 x1 S ok.1 (X := fun z => OA_X8_clearDecided_2 N x0 x1 S z ∧ X (A_X8_clearDecided_2 N x0 x1 S z)) ⟨ok.2, hx⟩
  · intro S' hz
    obtain ⟨ok, hx⟩ := hz
    unfold OA_X8_clearDecided_2 at ok
    unfold A_X8_clearDecided_2 at hx
    exact cX.cutz (b_X8_clearDecided_62 hG hR ok hx) trivial
def F_X8_clearDecided_0 (N : Nat) (x0 : Option Nat) (S : cS) : cS := (A_X8_clearDecided_2 N x0 (nI 0) S (L_X8_clearDecided_2 N N x0 (nI 0) S))
def O_X8_clearDecided_0 (N : Nat) (x0 : Option Nat) (S : cS) : Prop := (OL_X8_clearDecided_2 N N x0 (nI 0) S ∧ OA_X8_clearDecided_2 N x0 (nI 0) S (L_X8_clearDecided_2 N N x0 (nI 0) S))
set_option maxRecDepth 100000 in
set_option maxHeartbeats 4000000 in
theorem b_X8_clearDecided_0 {G : zG} {o : cO} {S : cS} {N : Nat} {Q : Option Value → cS → Prop} {X : cS → Prop} (hG : zOK G) (hR : ∀ S', X S' → Q none S') {x0 : Option Nat} (ok : O_X8_clearDecided_0 N x0 S) (hx : X (F_X8_clearDecided_0 N x0 S)) : cX G o dX8_clearDecided mX8_clearDecided 0 [some (va_rf x0), none] [] S Q := by
  unfold O_X8_clearDecided_0 at ok
  unfold F_X8_clearDecided_0 at hx
  refine c_iconst (v := nI 0) dX8_clearDecided_0 (by decide) ?_
  refine c_istore_1 dX8_clearDecided_1 (by decide) (by simp [zok, zg, zcat_rf]) ?_
  exact cX.cutz (c_X8_clearDecided_2 hG hR ok hx) ⟨rfl, rfl, trivial⟩
def f_X8_clearDecided (N : Nat) (S : cS) (a0 : Nat) : cS := F_X8_clearDecided_0 N (some a0) S
def o_X8_clearDecided (N : Nat) (S : cS) (a0 : Nat) : Prop := O_X8_clearDecided_0 N (some a0) S
set_option maxRecDepth 100000 in
set_option maxHeartbeats 4000000 in
theorem cc_X8_clearDecided {G : zG} {o : cO} {S : cS} {N : Nat} (hG : zOK G) {a0 : Nat} (ok : o_X8_clearDecided N S a0) : cCv G o dX8_clearDecided mX8_clearDecided [.ref a0] S (fun S' => S' = f_X8_clearDecided N S a0) := by
  refine cC.ofX rfl (by exact Nat.le_of_ble_eq_true rfl) ?_
  show cX G o dX8_clearDecided mX8_clearDecided 0 [some (.ref a0), none] [] S _
  exact cX.cutz (b_X8_clearDecided_0 (X := fun F => F = f_X8_clearDecided N S a0) hG (fun S' h => ⟨rfl, h⟩) ok rfl) ⟨rfl, trivial⟩
/-! X8_clearRest -/
def F_X8_clearRest_56 (N : Nat) (x0 : Option Nat) (S : cS) : cS := (csI (csI S 13 (za x0) (nI 0)) 12 (za x0) (nI 0))
def O_X8_clearRest_56 (N : Nat) (x0 : Option Nat) (S : cS) : Prop := (cis S x0 7) ∧ (cis (csI S 13 (za x0) (nI 0)) x0 7) ∧ True
set_option maxRecDepth 100000 in
set_option maxHeartbeats 4000000 in
theorem b_X8_clearRest_56 {G : zG} {o : cO} {S : cS} {N : Nat} {Q : Option Value → cS → Prop} {X : cS → Prop} (hG : zOK G) (hR : ∀ S', X S' → Q none S') {x0 : Option Nat} (ok : O_X8_clearRest_56 N x0 S) (hx : X (F_X8_clearRest_56 N x0 S)) : cX G o dX8_clearRest mX8_clearRest 56 [some (va_rf x0), none] [] S Q := by
  unfold O_X8_clearRest_56 at ok
  unfold F_X8_clearRest_56 at hx
  refine c_aload_nQ dX8_clearRest_56 rfl rfl ?_
  refine c_iconst (v := nI 0) dX8_clearRest_57 (by decide) ?_
  refine c_putI (C := RX8) (T := TX8) (N := 14) (ci := 6) (k := 13) ⟨rfl, inT8, by decide, fX8_105⟩ ftT8 rfl (by decide) (by decide) (by decide) rfl rfl dX8_clearRest_58 ok.1 ?_
  have ok := ok.2
  refine c_aload_nQ dX8_clearRest_61 rfl rfl ?_
  refine c_iconst (v := nI 0) dX8_clearRest_62 (by decide) ?_
  refine c_putI (C := RX8) (T := TX8) (N := 14) (ci := 6) (k := 12) ⟨rfl, inT8, by decide, fX8_108⟩ ftT8 rfl (by decide) (by decide) (by decide) rfl rfl dX8_clearRest_63 ok.1 ?_
  have ok := ok.2
  exact c_return rfl dX8_clearRest_66 (hR _ hx)
def F_X8_clearRest_50 (N : Nat) (rec : Option Nat → Int32 → cS → Nat × Option Nat × cS) (x0 : Option Nat) (x1 : Int32) (S : cS) : Nat × Option Nat × cS := (rec x0 (x1 + nI 1) S)
def O_X8_clearRest_50 (N : Nat) (rok : Option Nat → Int32 → cS → Prop) (x0 : Option Nat) (x1 : Int32) (S : cS) : Prop := rok x0 (x1 + nI 1) S
set_option maxRecDepth 100000 in
set_option maxHeartbeats 4000000 in
theorem b_X8_clearRest_50 {G : zG} {o : cO} {S : cS} {N : Nat} {Q : Option Value → cS → Prop} {X : Nat × Option Nat × cS → Prop} (hG : zOK G) (hX0 : ∀ (x0 : Option Nat) (S' : cS), X (0, x0, S') → cX G o dX8_clearRest mX8_clearRest 56 [some (va_rf x0), none] [] S' Q) {rec : Option Nat → Int32 → cS → Nat × Option Nat × cS} {rok : Option Nat → Int32 → cS → Prop} (hrec : ∀ (x0 : Option Nat) (x1 : Int32) (S : cS), rok x0 x1 S → X (rec x0 x1 S) → cX G o dX8_clearRest mX8_clearRest 2 [some (va_rf x0), some (.int x1)] [] S Q) {x0 : Option Nat} {x1 : Int32} (ok : O_X8_clearRest_50 N rok x0 x1 S) (hx : X (F_X8_clearRest_50 N rec x0 x1 S)) : cX G o dX8_clearRest mX8_clearRest 50 [some (va_rf x0), some (.int x1)] [] S Q := by
  unfold O_X8_clearRest_50 at ok
  unfold F_X8_clearRest_50 at hx
  refine c_iinc_1 (v := (x1 + nI 1)) dX8_clearRest_50 rfl (by first | rfl | (congr 1)) (by decide) (by simp [zok, zg, zcat_rf]) ?_
  refine c_goto (tgt := 2) dX8_clearRest_53 (by decide) ?_
  exact cX.cutz (hrec _ _ S ok hx) ⟨rfl, rfl, trivial⟩
def F_X8_clearRest_36 (N : Nat) (rec : Option Nat → Int32 → cS → Nat × Option Nat × cS) (x0 : Option Nat) (x1 : Int32) (S : cS) : Nat × Option Nat × cS := (F_X8_clearRest_50 N rec x0 x1 (csP (csP S (za (cR S 8 (za x0))) x1.toNatClampNeg (none : Option Nat)) (za (cR (csP S (za (cR S 8 (za x0))) x1.toNatClampNeg (none : Option Nat)) 9 (za x0))) x1.toNatClampNeg (none : Option Nat)))
def O_X8_clearRest_36 (N : Nat) (rok : Option Nat → Int32 → cS → Prop) (x0 : Option Nat) (x1 : Int32) (S : cS) : Prop := (cis S x0 7) ∧ (cis S (cR S 8 (za x0)) 24 ∧ vp_in x1 (cL S (za (cR S 8 (za x0)))) ∧ ((none : Option Nat) = none ∨ cis S (none : Option Nat) 5)) ∧ (cis (csP S (za (cR S 8 (za x0))) x1.toNatClampNeg (none : Option Nat)) x0 7) ∧ (cis (csP S (za (cR S 8 (za x0))) x1.toNatClampNeg (none : Option Nat)) (cR (csP S (za (cR S 8 (za x0))) x1.toNatClampNeg (none : Option Nat)) 9 (za x0)) 24 ∧ vp_in x1 (cL (csP S (za (cR S 8 (za x0))) x1.toNatClampNeg (none : Option Nat)) (za (cR (csP S (za (cR S 8 (za x0))) x1.toNatClampNeg (none : Option Nat)) 9 (za x0)))) ∧ ((none : Option Nat) = none ∨ cis (csP S (za (cR S 8 (za x0))) x1.toNatClampNeg (none : Option Nat)) (none : Option Nat) 5)) ∧ O_X8_clearRest_50 N rok x0 x1 (csP (csP S (za (cR S 8 (za x0))) x1.toNatClampNeg (none : Option Nat)) (za (cR (csP S (za (cR S 8 (za x0))) x1.toNatClampNeg (none : Option Nat)) 9 (za x0))) x1.toNatClampNeg (none : Option Nat))
set_option maxRecDepth 100000 in
set_option maxHeartbeats 4000000 in
theorem b_X8_clearRest_36 {G : zG} {o : cO} {S : cS} {N : Nat} {Q : Option Value → cS → Prop} {X : Nat × Option Nat × cS → Prop} (hG : zOK G) (hX0 : ∀ (x0 : Option Nat) (S' : cS), X (0, x0, S') → cX G o dX8_clearRest mX8_clearRest 56 [some (va_rf x0), none] [] S' Q) {rec : Option Nat → Int32 → cS → Nat × Option Nat × cS} {rok : Option Nat → Int32 → cS → Prop} (hrec : ∀ (x0 : Option Nat) (x1 : Int32) (S : cS), rok x0 x1 S → X (rec x0 x1 S) → cX G o dX8_clearRest mX8_clearRest 2 [some (va_rf x0), some (.int x1)] [] S Q) {x0 : Option Nat} {x1 : Int32} (ok : O_X8_clearRest_36 N rok x0 x1 S) (hx : X (F_X8_clearRest_36 N rec x0 x1 S)) : cX G o dX8_clearRest mX8_clearRest 36 [some (va_rf x0), some (.int x1)] [] S Q := by
  unfold O_X8_clearRest_36 at ok
  unfold F_X8_clearRest_36 at hx
  refine c_aload_nQ dX8_clearRest_36 rfl rfl ?_
  refine c_getR (C := RX8) (T := TX8) (N := 14) (ci := 6) (k := 8) ⟨rfl, inT8, by decide, fX8_45⟩ (by decide) (by decide) (by decide) dX8_clearRest_37 ok.1 ?_
  have ok := ok.2
  refine c_iload_n dX8_clearRest_40 rfl rfl ?_
  refine c_null' dX8_clearRest_41 ?_
  refine c_aast (t := 4) (ci := 4) (rr := (RX5, TX5, 7)) rfl rfl (by decide) (by decide) dX8_clearRest_42 ok.1 ?_
  have ok := ok.2
  refine c_aload_nQ dX8_clearRest_43 rfl rfl ?_
  refine c_getR (C := RX8) (T := TX8) (N := 14) (ci := 6) (k := 9) ⟨rfl, inT8, by decide, fX8_48⟩ (by decide) (by decide) (by decide) dX8_clearRest_44 ok.1 ?_
  have ok := ok.2
  refine c_iload_n dX8_clearRest_47 rfl rfl ?_
  refine c_null' dX8_clearRest_48 ?_
  refine c_aast (t := 4) (ci := 4) (rr := (RX5, TX5, 7)) rfl rfl (by decide) (by decide) dX8_clearRest_49 ok.1 ?_
  have ok := ok.2
  exact cX.cutz (b_X8_clearRest_50 hG hX0 hrec ok hx) ⟨rfl, rfl, trivial⟩
def F_X8_clearRest_23 (N : Nat) (rec : Option Nat → Int32 → cS → Nat × Option Nat × cS) (x0 : Option Nat) (x1 : Int32) (S : cS) : Nat × Option Nat × cS := (F_X8_clearRest_36 N rec x0 x1 (f_X9_drop N S (za (cR S 0 (za x0))) (cP S (za (cR S 9 (za x0))) x1.toNatClampNeg)))
def O_X8_clearRest_23 (N : Nat) (rok : Option Nat → Int32 → cS → Prop) (x0 : Option Nat) (x1 : Int32) (S : cS) : Prop := (cis S x0 7) ∧ (cis S x0 7) ∧ (cis S (cR S 9 (za x0)) 24 ∧ vp_in x1 (cL S (za (cR S 9 (za x0))))) ∧ (cis S (cR S 0 (za x0)) 8 ∧ o_X9_drop N S (za (cR S 0 (za x0))) (cP S (za (cR S 9 (za x0))) x1.toNatClampNeg)) ∧ O_X8_clearRest_36 N rok x0 x1 (f_X9_drop N S (za (cR S 0 (za x0))) (cP S (za (cR S 9 (za x0))) x1.toNatClampNeg))
set_option maxRecDepth 100000 in
set_option maxHeartbeats 4000000 in
theorem b_X8_clearRest_23 {G : zG} {o : cO} {S : cS} {N : Nat} {Q : Option Value → cS → Prop} {X : Nat × Option Nat × cS → Prop} (hG : zOK G) (hX0 : ∀ (x0 : Option Nat) (S' : cS), X (0, x0, S') → cX G o dX8_clearRest mX8_clearRest 56 [some (va_rf x0), none] [] S' Q) {rec : Option Nat → Int32 → cS → Nat × Option Nat × cS} {rok : Option Nat → Int32 → cS → Prop} (hrec : ∀ (x0 : Option Nat) (x1 : Int32) (S : cS), rok x0 x1 S → X (rec x0 x1 S) → cX G o dX8_clearRest mX8_clearRest 2 [some (va_rf x0), some (.int x1)] [] S Q) {x0 : Option Nat} {x1 : Int32} (ok : O_X8_clearRest_23 N rok x0 x1 S) (hx : X (F_X8_clearRest_23 N rec x0 x1 S)) : cX G o dX8_clearRest mX8_clearRest 23 [some (va_rf x0), some (.int x1)] [] S Q := by
  unfold O_X8_clearRest_23 at ok
  unfold F_X8_clearRest_23 at hx
  refine c_aload_nQ dX8_clearRest_23 rfl rfl ?_
  refine c_getR (C := RX8) (T := TX8) (N := 14) (ci := 6) (k := 0) ⟨rfl, inT8, by decide, fX8_28⟩ (by decide) (by decide) (by decide) dX8_clearRest_24 ok.1 ?_
  have ok := ok.2
  refine c_aload_nQ dX8_clearRest_27 rfl rfl ?_
  refine c_getR (C := RX8) (T := TX8) (N := 14) (ci := 6) (k := 9) ⟨rfl, inT8, by decide, fX8_48⟩ (by decide) (by decide) (by decide) dX8_clearRest_28 ok.1 ?_
  have ok := ok.2
  refine c_iload_n dX8_clearRest_31 rfl rfl ?_
  refine c_aald (t := 4) (ty := (.object "QuorumLedger$Message")) rfl rfl (by decide) dX8_clearRest_32 ok.1 ?_
  have ok := ok.2
  refine c_V1vE (ci := 7) (rr := (RX9, TX9, 13)) (y' := mX9_drop) dX8_clearRest_33 lX8_91 kX9_drop ⟨by decide, by decide⟩ rfl rfl (by decide) ok.1.1 (Nat.le_of_ble_eq_true rfl) (cc_X9_drop hG ok.1.2) ?_
  have ok := ok.2
  exact cX.cutz (b_X8_clearRest_36 hG hX0 hrec ok hx) ⟨rfl, rfl, trivial⟩
def B_X8_clearRest_2 (N : Nat) (rec : Option Nat → Int32 → cS → Nat × Option Nat × cS) (x0 : Option Nat) (x1 : Int32) (S : cS) : Nat × Option Nat × cS := (if (cI S 1 (za x0)) ≤ x1 then (0, x0, S) else (F_X8_clearRest_23 N rec x0 x1 (f_X9_drop N S (za (cR S 0 (za x0))) (cP S (za (cR S 8 (za x0))) x1.toNatClampNeg))))
def OB_X8_clearRest_2 (N : Nat) (rok : Option Nat → Int32 → cS → Prop) (x0 : Option Nat) (x1 : Int32) (S : cS) : Prop := (cis S x0 7) ∧ (((cI S 1 (za x0)) ≤ x1 → True) ∧ (¬ (cI S 1 (za x0)) ≤ x1 → (cis S x0 7) ∧ (cis S x0 7) ∧ (cis S (cR S 8 (za x0)) 24 ∧ vp_in x1 (cL S (za (cR S 8 (za x0))))) ∧ (cis S (cR S 0 (za x0)) 8 ∧ o_X9_drop N S (za (cR S 0 (za x0))) (cP S (za (cR S 8 (za x0))) x1.toNatClampNeg)) ∧ O_X8_clearRest_23 N rok x0 x1 (f_X9_drop N S (za (cR S 0 (za x0))) (cP S (za (cR S 8 (za x0))) x1.toNatClampNeg))))
set_option maxRecDepth 100000 in
set_option maxHeartbeats 4000000 in
theorem bb_X8_clearRest_2 {G : zG} {o : cO} {S : cS} {N : Nat} {Q : Option Value → cS → Prop} {X : Nat × Option Nat × cS → Prop} (hG : zOK G) (hX0 : ∀ (x0 : Option Nat) (S' : cS), X (0, x0, S') → cX G o dX8_clearRest mX8_clearRest 56 [some (va_rf x0), none] [] S' Q) {rec : Option Nat → Int32 → cS → Nat × Option Nat × cS} {rok : Option Nat → Int32 → cS → Prop} (hrec : ∀ (x0 : Option Nat) (x1 : Int32) (S : cS), rok x0 x1 S → X (rec x0 x1 S) → cX G o dX8_clearRest mX8_clearRest 2 [some (va_rf x0), some (.int x1)] [] S Q) {x0 : Option Nat} {x1 : Int32} (ok : OB_X8_clearRest_2 N rok x0 x1 S) (hx : X (B_X8_clearRest_2 N rec x0 x1 S)) : cX G o dX8_clearRest mX8_clearRest 2 [some (va_rf x0), some (.int x1)] [] S Q := by
  unfold OB_X8_clearRest_2 at ok
  unfold B_X8_clearRest_2 at hx
  refine c_iload_n dX8_clearRest_2 rfl rfl ?_
  refine c_aload_nQ dX8_clearRest_3 rfl rfl ?_
  refine c_getI (C := RX8) (T := TX8) (N := 14) (ci := 6) (k := 1) ⟨rfl, inT8, by decide, fX8_32⟩ (by decide) (by decide) (by decide) dX8_clearRest_4 ok.1 ?_
  have ok := ok.2
  refine c_icmp_ge (tgt := 56) dX8_clearRest_7 (by decide) (fun c_7 => ?_) (fun c_7 => ?_)
  · have ok := ok.1 c_7
    have hx := xif_p c_7 hx
    exact cX.cutz (hX0 _ S hx) ⟨rfl, trivial⟩
  · have ok := ok.2 c_7
    have hx := xif_n c_7 hx
    refine c_aload_nQ dX8_clearRest_10 rfl rfl ?_
    refine c_getR (C := RX8) (T := TX8) (N := 14) (ci := 6) (k := 0) ⟨rfl, inT8, by decide, fX8_28⟩ (by decide) (by decide) (by decide) dX8_clearRest_11 ok.1 ?_
    have ok := ok.2
    refine c_aload_nQ dX8_clearRest_14 rfl rfl ?_
    refine c_getR (C := RX8) (T := TX8) (N := 14) (ci := 6) (k := 8) ⟨rfl, inT8, by decide, fX8_45⟩ (by decide) (by decide) (by decide) dX8_clearRest_15 ok.1 ?_
    have ok := ok.2
    refine c_iload_n dX8_clearRest_18 rfl rfl ?_
    refine c_aald (t := 4) (ty := (.object "QuorumLedger$Message")) rfl rfl (by decide) dX8_clearRest_19 ok.1 ?_
    have ok := ok.2
    refine c_V1vE (ci := 7) (rr := (RX9, TX9, 13)) (y' := mX9_drop) dX8_clearRest_20 lX8_91 kX9_drop ⟨by decide, by decide⟩ rfl rfl (by decide) ok.1.1 (Nat.le_of_ble_eq_true rfl) (cc_X9_drop hG ok.1.2) ?_
    have ok := ok.2
    exact cX.cutz (b_X8_clearRest_23 hG hX0 hrec ok hx) ⟨rfl, rfl, trivial⟩
def L_X8_clearRest_2 (N : Nat) : Nat → Option Nat → Int32 → cS → Nat × Option Nat × cS
  | 0, x0, x1, S => (0, none, S)
  | n + 1, x0, x1, S => B_X8_clearRest_2 N (L_X8_clearRest_2 N n) x0 x1 S
def OL_X8_clearRest_2 (N : Nat) : Nat → Option Nat → Int32 → cS → Prop
  | 0, _, _, _ => False
  | n + 1, x0, x1, S => OB_X8_clearRest_2 N (OL_X8_clearRest_2 N n) x0 x1 S
set_option maxRecDepth 100000 in
set_option maxHeartbeats 4000000 in
theorem l_X8_clearRest_2 {G : zG} {o : cO} {N : Nat} {Q : Option Value → cS → Prop} {X : Nat × Option Nat × cS → Prop} (hG : zOK G) (hX0 : ∀ (x0 : Option Nat) (S' : cS), X (0, x0, S') → cX G o dX8_clearRest mX8_clearRest 56 [some (va_rf x0), none] [] S' Q) : ∀ (n : Nat) (x0 : Option Nat) (x1 : Int32) (S : cS), OL_X8_clearRest_2 N n x0 x1 S → X (L_X8_clearRest_2 N n x0 x1 S) → cX G o dX8_clearRest mX8_clearRest 2 [some (va_rf x0), some (.int x1)] [] S Q := by
  intro n
  induction n with
  | zero => intro x0 x1 S ok; exact absurd ok id
  | succ n ih =>
    intro x0 x1 S ok hx
    exact bb_X8_clearRest_2 hG hX0 (rec := L_X8_clearRest_2 N n) (rok := OL_X8_clearRest_2 N n) (fun x0 x1 S ok hx => ih x0 x1 S ok hx) ok hx
def A_X8_clearRest_2 (N : Nat) (x0 : Option Nat) (x1 : Int32) (S : cS) (z : Nat × Option Nat × cS) : cS := (F_X8_clearRest_56 N (z.2.1) z.2.2)
def OA_X8_clearRest_2 (N : Nat) (x0 : Option Nat) (x1 : Int32) (S : cS) (z : Nat × Option Nat × cS) : Prop := O_X8_clearRest_56 N (z.2.1) z.2.2
set_option maxRecDepth 100000 in
set_option maxHeartbeats 4000000 in
theorem c_X8_clearRest_2 {G : zG} {o : cO} {S : cS} {N : Nat} {Q : Option Value → cS → Prop} {X : cS → Prop} (hG : zOK G) (hR : ∀ S', X S' → Q none S') {x0 : Option Nat} {x1 : Int32} (ok : OL_X8_clearRest_2 N N x0 x1 S ∧ OA_X8_clearRest_2 N x0 x1 S (L_X8_clearRest_2 N N x0 x1 S)) (hx : X (A_X8_clearRest_2 N x0 x1 S (L_X8_clearRest_2 N N x0 x1 S))) : cX G o dX8_clearRest mX8_clearRest 2 [some (va_rf x0), some (.int x1)] [] S Q := by
  refine l_X8_clearRest_2 hG ?_ N x0 x1 S ok.1 (X := fun z => OA_X8_clearRest_2 N x0 x1 S z ∧ X (A_X8_clearRest_2 N x0 x1 S z)) ⟨ok.2, hx⟩
  · intro x0' S' hz
    obtain ⟨ok, hx⟩ := hz
    unfold OA_X8_clearRest_2 at ok
    unfold A_X8_clearRest_2 at hx
    exact cX.cutz (b_X8_clearRest_56 hG hR ok hx) ⟨rfl, trivial⟩
def F_X8_clearRest_0 (N : Nat) (x0 : Option Nat) (S : cS) : cS := (A_X8_clearRest_2 N x0 (nI 0) S (L_X8_clearRest_2 N N x0 (nI 0) S))
def O_X8_clearRest_0 (N : Nat) (x0 : Option Nat) (S : cS) : Prop := (OL_X8_clearRest_2 N N x0 (nI 0) S ∧ OA_X8_clearRest_2 N x0 (nI 0) S (L_X8_clearRest_2 N N x0 (nI 0) S))
set_option maxRecDepth 100000 in
set_option maxHeartbeats 4000000 in
theorem b_X8_clearRest_0 {G : zG} {o : cO} {S : cS} {N : Nat} {Q : Option Value → cS → Prop} {X : cS → Prop} (hG : zOK G) (hR : ∀ S', X S' → Q none S') {x0 : Option Nat} (ok : O_X8_clearRest_0 N x0 S) (hx : X (F_X8_clearRest_0 N x0 S)) : cX G o dX8_clearRest mX8_clearRest 0 [some (va_rf x0), none] [] S Q := by
  unfold O_X8_clearRest_0 at ok
  unfold F_X8_clearRest_0 at hx
  refine c_iconst (v := nI 0) dX8_clearRest_0 (by decide) ?_
  refine c_istore_1 dX8_clearRest_1 (by decide) (by simp [zok, zg, zcat_rf]) ?_
  exact cX.cutz (c_X8_clearRest_2 hG hR ok hx) ⟨rfl, rfl, trivial⟩
def f_X8_clearRest (N : Nat) (S : cS) (a0 : Nat) : cS := F_X8_clearRest_0 N (some a0) S
def o_X8_clearRest (N : Nat) (S : cS) (a0 : Nat) : Prop := O_X8_clearRest_0 N (some a0) S
set_option maxRecDepth 100000 in
set_option maxHeartbeats 4000000 in
theorem cc_X8_clearRest {G : zG} {o : cO} {S : cS} {N : Nat} (hG : zOK G) {a0 : Nat} (ok : o_X8_clearRest N S a0) : cCv G o dX8_clearRest mX8_clearRest [.ref a0] S (fun S' => S' = f_X8_clearRest N S a0) := by
  refine cC.ofX rfl (by exact Nat.le_of_ble_eq_true rfl) ?_
  show cX G o dX8_clearRest mX8_clearRest 0 [some (.ref a0), none] [] S _
  exact cX.cutz (b_X8_clearRest_0 (X := fun F => F = f_X8_clearRest N S a0) hG (fun S' h => ⟨rfl, h⟩) ok rfl) ⟨rfl, trivial⟩
/-! X6_fall -/
def F_X6_fall_54 (N : Nat) (x0 : Option Nat) (S : cS) : cS := (f_X8_clearRest N S (za (cR S 3 (za x0))))
def O_X6_fall_54 (N : Nat) (x0 : Option Nat) (S : cS) : Prop := (cis S x0 6) ∧ (cis S (cR S 3 (za x0)) 7 ∧ o_X8_clearRest N S (za (cR S 3 (za x0)))) ∧ True
set_option maxRecDepth 100000 in
set_option maxHeartbeats 4000000 in
theorem b_X6_fall_54 {G : zG} {o : cO} {S : cS} {N : Nat} {Q : Option Value → cS → Prop} {X : cS → Prop} (hG : zOK G) (hR : ∀ S', X S' → Q none S') {x0 : Option Nat} (ok : O_X6_fall_54 N x0 S) (hx : X (F_X6_fall_54 N x0 S)) : cX G o dX6_fall mX6_fall 54 [some (va_rf x0)] [] S Q := by
  unfold O_X6_fall_54 at ok
  unfold F_X6_fall_54 at hx
  refine c_aload_nQ dX6_fall_54 rfl rfl ?_
  refine c_getR (C := RX6) (T := TX6) (N := 19) (ci := 5) (k := 3) ⟨rfl, inT6, by decide, fX6_77⟩ (by decide) (by decide) (by decide) dX6_fall_55 ok.1 ?_
  have ok := ok.2
  refine c_V0vE (ci := 6) (rr := (RX8, TX8, 14)) (y' := mX8_clearRest) dX6_fall_58 lX6_102 kX8_clearRest ⟨by decide, by decide⟩ rfl rfl (by decide) ok.1.1 (Nat.le_of_ble_eq_true rfl) (cc_X8_clearRest hG ok.1.2) ?_
  have ok := ok.2
  exact c_return rfl dX6_fall_61 (hR _ hx)
def F_X6_fall_47 (N : Nat) (x0 : Option Nat) (S : cS) : cS := (F_X6_fall_54 N x0 (f_X8_clearDecided N S (za (cR S 3 (za x0)))))
def O_X6_fall_47 (N : Nat) (x0 : Option Nat) (S : cS) : Prop := (cis S x0 6) ∧ (cis S (cR S 3 (za x0)) 7 ∧ o_X8_clearDecided N S (za (cR S 3 (za x0)))) ∧ O_X6_fall_54 N x0 (f_X8_clearDecided N S (za (cR S 3 (za x0))))
set_option maxRecDepth 100000 in
set_option maxHeartbeats 4000000 in
theorem b_X6_fall_47 {G : zG} {o : cO} {S : cS} {N : Nat} {Q : Option Value → cS → Prop} {X : cS → Prop} (hG : zOK G) (hR : ∀ S', X S' → Q none S') {x0 : Option Nat} (ok : O_X6_fall_47 N x0 S) (hx : X (F_X6_fall_47 N x0 S)) : cX G o dX6_fall mX6_fall 47 [some (va_rf x0)] [] S Q := by
  unfold O_X6_fall_47 at ok
  unfold F_X6_fall_47 at hx
  refine c_aload_nQ dX6_fall_47 rfl rfl ?_
  refine c_getR (C := RX6) (T := TX6) (N := 19) (ci := 5) (k := 3) ⟨rfl, inT6, by decide, fX6_77⟩ (by decide) (by decide) (by decide) dX6_fall_48 ok.1 ?_
  have ok := ok.2
  refine c_V0vE (ci := 6) (rr := (RX8, TX8, 14)) (y' := mX8_clearDecided) dX6_fall_51 lX6_99 kX8_clearDecided ⟨by decide, by decide⟩ rfl rfl (by decide) ok.1.1 (Nat.le_of_ble_eq_true rfl) (cc_X8_clearDecided hG ok.1.2) ?_
  have ok := ok.2
  exact cX.cutz (b_X6_fall_54 hG hR ok hx) ⟨rfl, trivial⟩
def F_X6_fall_33 (N : Nat) (x0 : Option Nat) (S : cS) : cS := (F_X6_fall_47 N x0 (f_X8_clear N S (za (cR S 3 (za x0))) ((cI S 9 (za x0)) + (nI 1)) (-1)))
def O_X6_fall_33 (N : Nat) (x0 : Option Nat) (S : cS) : Prop := (cis S x0 6) ∧ (cis S x0 6) ∧ (cis S (cR S 3 (za x0)) 7 ∧ o_X8_clear N S (za (cR S 3 (za x0))) ((cI S 9 (za x0)) + (nI 1)) (-1)) ∧ O_X6_fall_47 N x0 (f_X8_clear N S (za (cR S 3 (za x0))) ((cI S 9 (za x0)) + (nI 1)) (-1))
set_option maxRecDepth 100000 in
set_option maxHeartbeats 4000000 in
theorem b_X6_fall_33 {G : zG} {o : cO} {S : cS} {N : Nat} {Q : Option Value → cS → Prop} {X : cS → Prop} (hG : zOK G) (hR : ∀ S', X S' → Q none S') {x0 : Option Nat} (ok : O_X6_fall_33 N x0 S) (hx : X (F_X6_fall_33 N x0 S)) : cX G o dX6_fall mX6_fall 33 [some (va_rf x0)] [] S Q := by
  unfold O_X6_fall_33 at ok
  unfold F_X6_fall_33 at hx
  refine c_aload_nQ dX6_fall_33 rfl rfl ?_
  refine c_getR (C := RX6) (T := TX6) (N := 19) (ci := 5) (k := 3) ⟨rfl, inT6, by decide, fX6_77⟩ (by decide) (by decide) (by decide) dX6_fall_34 ok.1 ?_
  have ok := ok.2
  refine c_aload_nQ dX6_fall_37 rfl rfl ?_
  refine c_getI (C := RX6) (T := TX6) (N := 19) (ci := 5) (k := 9) ⟨rfl, inT6, by decide, fX6_43⟩ (by decide) (by decide) (by decide) dX6_fall_38 ok.1 ?_
  have ok := ok.2
  refine c_iconst (v := nI 1) dX6_fall_41 (by decide) ?_
  refine c_iadd dX6_fall_42 ?_
  refine c_iconst (v := -1) dX6_fall_43 (by decide) ?_
  refine c_V2vE (ci := 6) (rr := (RX8, TX8, 14)) (y' := mX8_clear) dX6_fall_44 lX6_95 kX8_clear ⟨by decide, by decide⟩ rfl rfl (by decide) ok.1.1 (Nat.le_of_ble_eq_true rfl) (cc_X8_clear hG ok.1.2) ?_
  have ok := ok.2
  exact cX.cutz (b_X6_fall_47 hG hR ok hx) ⟨rfl, trivial⟩
def F_X6_fall_18 (N : Nat) (x0 : Option Nat) (S : cS) : cS := (F_X6_fall_33 N x0 (f_X8_clear N S (za (cR S 3 (za x0))) (cI S 9 (za x0)) (cI S 1 (za x0))))
def O_X6_fall_18 (N : Nat) (x0 : Option Nat) (S : cS) : Prop := (cis S x0 6) ∧ (cis S x0 6) ∧ (cis S x0 6) ∧ (cis S (cR S 3 (za x0)) 7 ∧ o_X8_clear N S (za (cR S 3 (za x0))) (cI S 9 (za x0)) (cI S 1 (za x0))) ∧ O_X6_fall_33 N x0 (f_X8_clear N S (za (cR S 3 (za x0))) (cI S 9 (za x0)) (cI S 1 (za x0)))
set_option maxRecDepth 100000 in
set_option maxHeartbeats 4000000 in
theorem b_X6_fall_18 {G : zG} {o : cO} {S : cS} {N : Nat} {Q : Option Value → cS → Prop} {X : cS → Prop} (hG : zOK G) (hR : ∀ S', X S' → Q none S') {x0 : Option Nat} (ok : O_X6_fall_18 N x0 S) (hx : X (F_X6_fall_18 N x0 S)) : cX G o dX6_fall mX6_fall 18 [some (va_rf x0)] [] S Q := by
  unfold O_X6_fall_18 at ok
  unfold F_X6_fall_18 at hx
  refine c_aload_nQ dX6_fall_18 rfl rfl ?_
  refine c_getR (C := RX6) (T := TX6) (N := 19) (ci := 5) (k := 3) ⟨rfl, inT6, by decide, fX6_77⟩ (by decide) (by decide) (by decide) dX6_fall_19 ok.1 ?_
  have ok := ok.2
  refine c_aload_nQ dX6_fall_22 rfl rfl ?_
  refine c_getI (C := RX6) (T := TX6) (N := 19) (ci := 5) (k := 9) ⟨rfl, inT6, by decide, fX6_43⟩ (by decide) (by decide) (by decide) dX6_fall_23 ok.1 ?_
  have ok := ok.2
  refine c_aload_nQ dX6_fall_26 rfl rfl ?_
  refine c_getI (C := RX6) (T := TX6) (N := 19) (ci := 5) (k := 1) ⟨rfl, inT6, by decide, fX6_60⟩ (by decide) (by decide) (by decide) dX6_fall_27 ok.1 ?_
  have ok := ok.2
  refine c_V2vE (ci := 6) (rr := (RX8, TX8, 14)) (y' := mX8_clear) dX6_fall_30 lX6_95 kX8_clear ⟨by decide, by decide⟩ rfl rfl (by decide) ok.1.1 (Nat.le_of_ble_eq_true rfl) (cc_X8_clear hG ok.1.2) ?_
  have ok := ok.2
  exact cX.cutz (b_X6_fall_33 hG hR ok hx) ⟨rfl, trivial⟩
def F_X6_fall_10 (N : Nat) (x0 : Option Nat) (S : cS) : cS := (F_X6_fall_18 N x0 (f_J7_fill_53178 N S (cR S 6 (za x0)) (nI 0)))
def O_X6_fall_10 (N : Nat) (x0 : Option Nat) (S : cS) : Prop := (cis S x0 6) ∧ (o_J7_fill_53178 N S (cR S 6 (za x0)) (nI 0)) ∧ O_X6_fall_18 N x0 (f_J7_fill_53178 N S (cR S 6 (za x0)) (nI 0))
set_option maxRecDepth 100000 in
set_option maxHeartbeats 4000000 in
theorem b_X6_fall_10 {G : zG} {o : cO} {S : cS} {N : Nat} {Q : Option Value → cS → Prop} {X : cS → Prop} (hG : zOK G) (hR : ∀ S', X S' → Q none S') {x0 : Option Nat} (ok : O_X6_fall_10 N x0 S) (hx : X (F_X6_fall_10 N x0 S)) : cX G o dX6_fall mX6_fall 10 [some (va_rf x0)] [] S Q := by
  unfold O_X6_fall_10 at ok
  unfold F_X6_fall_10 at hx
  refine c_aload_nQ dX6_fall_10 rfl rfl ?_
  refine c_getR (C := RX6) (T := TX6) (N := 19) (ci := 5) (k := 6) ⟨rfl, inT6, by decide, fX6_29⟩ (by decide) (by decide) (by decide) dX6_fall_11 ok.1 ?_
  have ok := ok.2
  refine c_iconst (v := nI 0) dX6_fall_14 (by decide) ?_
  refine c_S2vE (y' := mJ7_fill_53178) dX6_fall_15 lX6_89 kJ7_fill_53178 ⟨by decide, by decide⟩ (Nat.le_of_ble_eq_true rfl) (cc_J7_fill_53178 hG ok.1) ?_
  have ok := ok.2
  exact cX.cutz (b_X6_fall_18 hG hR ok hx) ⟨rfl, trivial⟩
def F_X6_fall_0 (N : Nat) (x0 : Option Nat) (S : cS) : cS := (F_X6_fall_10 N x0 (csI (csI S 8 (za x0) (nI 0)) 18 (za x0) (-1)))
def O_X6_fall_0 (N : Nat) (x0 : Option Nat) (S : cS) : Prop := (cis S x0 6) ∧ (cis (csI S 8 (za x0) (nI 0)) x0 6) ∧ O_X6_fall_10 N x0 (csI (csI S 8 (za x0) (nI 0)) 18 (za x0) (-1))
set_option maxRecDepth 100000 in
set_option maxHeartbeats 4000000 in
theorem b_X6_fall_0 {G : zG} {o : cO} {S : cS} {N : Nat} {Q : Option Value → cS → Prop} {X : cS → Prop} (hG : zOK G) (hR : ∀ S', X S' → Q none S') {x0 : Option Nat} (ok : O_X6_fall_0 N x0 S) (hx : X (F_X6_fall_0 N x0 S)) : cX G o dX6_fall mX6_fall 0 [some (va_rf x0)] [] S Q := by
  unfold O_X6_fall_0 at ok
  unfold F_X6_fall_0 at hx
  refine c_aload_nQ dX6_fall_0 rfl rfl ?_
  refine c_iconst (v := nI 0) dX6_fall_1 (by decide) ?_
  refine c_putI (C := RX6) (T := TX6) (N := 19) (ci := 5) (k := 8) ⟨rfl, inT6, by decide, fX6_39⟩ ftT6 rfl (by decide) (by decide) (by decide) rfl rfl dX6_fall_2 ok.1 ?_
  have ok := ok.2
  refine c_aload_nQ dX6_fall_5 rfl rfl ?_
  refine c_iconst (v := -1) dX6_fall_6 (by decide) ?_
  refine c_putI (C := RX6) (T := TX6) (N := 19) (ci := 5) (k := 18) ⟨rfl, inT6, by decide, fX6_53⟩ ftT6 rfl (by decide) (by decide) (by decide) rfl rfl dX6_fall_7 ok.1 ?_
  have ok := ok.2
  exact cX.cutz (b_X6_fall_10 hG hR ok hx) ⟨rfl, trivial⟩
def f_X6_fall (N : Nat) (S : cS) (a0 : Nat) : cS := F_X6_fall_0 N (some a0) S
def o_X6_fall (N : Nat) (S : cS) (a0 : Nat) : Prop := O_X6_fall_0 N (some a0) S
set_option maxRecDepth 100000 in
set_option maxHeartbeats 4000000 in
theorem cc_X6_fall {G : zG} {o : cO} {S : cS} {N : Nat} (hG : zOK G) {a0 : Nat} (ok : o_X6_fall N S a0) : cCv G o dX6_fall mX6_fall [.ref a0] S (fun S' => S' = f_X6_fall N S a0) := by
  refine cC.ofX rfl (by exact Nat.le_of_ble_eq_true rfl) ?_
  show cX G o dX6_fall mX6_fall 0 [some (.ref a0)] [] S _
  exact cX.cutz (b_X6_fall_0 (X := fun F => F = f_X6_fall N S a0) hG (fun S' h => ⟨rfl, h⟩) ok rfl) ⟨rfl, trivial⟩
/-! X6_wake -/
def F_X6_wake_52 (N : Nat) (x0 : Option Nat) (x1 : Option Nat) (S : cS) : cS := (f_X9_drop N S (za (cR S 6 (za (cR S 0 (za x0))))) x1)
def O_X6_wake_52 (N : Nat) (x0 : Option Nat) (x1 : Option Nat) (S : cS) : Prop := (cis S x0 6) ∧ (cis S (cR S 0 (za x0)) 9) ∧ (cis S (cR S 6 (za (cR S 0 (za x0)))) 8 ∧ o_X9_drop N S (za (cR S 6 (za (cR S 0 (za x0))))) x1) ∧ True
set_option maxRecDepth 100000 in
set_option maxHeartbeats 4000000 in
theorem b_X6_wake_52 {G : zG} {o : cO} {S : cS} {N : Nat} {Q : Option Value → cS → Prop} {X : cS → Prop} (hG : zOK G) (hR : ∀ S', X S' → Q none S') {x0 : Option Nat} {x1 : Option Nat} (ok : O_X6_wake_52 N x0 x1 S) (hx : X (F_X6_wake_52 N x0 x1 S)) : cX G o dX6_wake mX6_wake 52 [some (va_rf x0), some (va_rf x1)] [] S Q := by
  unfold O_X6_wake_52 at ok
  unfold F_X6_wake_52 at hx
  refine c_aload_nQ dX6_wake_52 rfl rfl ?_
  refine c_getR (C := RX6) (T := TX6) (N := 19) (ci := 5) (k := 0) ⟨rfl, inT6, by decide, fX6_56⟩ (by decide) (by decide) (by decide) dX6_wake_53 ok.1 ?_
  have ok := ok.2
  refine c_getR (C := RX10) (T := TX10) (N := 12) (ci := 8) (k := 6) ⟨rfl, inT10, by decide, fX6_65⟩ (by decide) (by decide) (by decide) dX6_wake_56 ok.1 ?_
  have ok := ok.2
  refine c_aload_nQ dX6_wake_59 rfl rfl ?_
  refine c_V1vE (ci := 7) (rr := (RX9, TX9, 13)) (y' := mX9_drop) dX6_wake_60 lX6_123 kX9_drop ⟨by decide, by decide⟩ rfl rfl (by decide) ok.1.1 (Nat.le_of_ble_eq_true rfl) (cc_X9_drop hG ok.1.2) ?_
  have ok := ok.2
  exact c_return rfl dX6_wake_63 (hR _ hx)
def F_X6_wake_31 (N : Nat) (x0 : Option Nat) (s0 : Option Nat) (S : cS) : cS := (F_X6_wake_52 N x0 s0 (f_X10_spread N S (za (cR S 0 (za x0))) (cI S 1 (za x0)) s0 (cI S 1 (za x0)) (cI S 1 (za x0))))
def O_X6_wake_31 (N : Nat) (x0 : Option Nat) (s0 : Option Nat) (S : cS) : Prop := (cis S x0 6) ∧ (cis S x0 6) ∧ (cis S x0 6) ∧ (cis S x0 6) ∧ (cis S (cR S 0 (za x0)) 9 ∧ o_X10_spread N S (za (cR S 0 (za x0))) (cI S 1 (za x0)) s0 (cI S 1 (za x0)) (cI S 1 (za x0))) ∧ O_X6_wake_52 N x0 s0 (f_X10_spread N S (za (cR S 0 (za x0))) (cI S 1 (za x0)) s0 (cI S 1 (za x0)) (cI S 1 (za x0)))
set_option maxRecDepth 100000 in
set_option maxHeartbeats 4000000 in
theorem b_X6_wake_31 {G : zG} {o : cO} {S : cS} {N : Nat} {Q : Option Value → cS → Prop} {X : cS → Prop} (hG : zOK G) (hR : ∀ S', X S' → Q none S') {x0 : Option Nat} {s0 : Option Nat} (ok : O_X6_wake_31 N x0 s0 S) (hx : X (F_X6_wake_31 N x0 s0 S)) : cX G o dX6_wake mX6_wake 31 [some (va_rf x0), none] [va_rf s0] S Q := by
  unfold O_X6_wake_31 at ok
  unfold F_X6_wake_31 at hx
  refine c_astore_1Q dX6_wake_31 (by decide) (by simp [zok, zg, zcat_rf]) ?_
  refine c_aload_nQ dX6_wake_32 rfl rfl ?_
  refine c_getR (C := RX6) (T := TX6) (N := 19) (ci := 5) (k := 0) ⟨rfl, inT6, by decide, fX6_56⟩ (by decide) (by decide) (by decide) dX6_wake_33 ok.1 ?_
  have ok := ok.2
  refine c_aload_nQ dX6_wake_36 rfl rfl ?_
  refine c_getI (C := RX6) (T := TX6) (N := 19) (ci := 5) (k := 1) ⟨rfl, inT6, by decide, fX6_60⟩ (by decide) (by decide) (by decide) dX6_wake_37 ok.1 ?_
  have ok := ok.2
  refine c_aload_nQ dX6_wake_40 rfl rfl ?_
  refine c_aload_nQ dX6_wake_41 rfl rfl ?_
  refine c_getI (C := RX6) (T := TX6) (N := 19) (ci := 5) (k := 1) ⟨rfl, inT6, by decide, fX6_60⟩ (by decide) (by decide) (by decide) dX6_wake_42 ok.1 ?_
  have ok := ok.2
  refine c_aload_nQ dX6_wake_45 rfl rfl ?_
  refine c_getI (C := RX6) (T := TX6) (N := 19) (ci := 5) (k := 1) ⟨rfl, inT6, by decide, fX6_60⟩ (by decide) (by decide) (by decide) dX6_wake_46 ok.1 ?_
  have ok := ok.2
  refine c_V4vE (ci := 8) (rr := (RX10, TX10, 12)) (y' := mX10_spread) dX6_wake_49 lX6_119 kX10_spread ⟨by decide, by decide⟩ rfl rfl (by decide) ok.1.1 (Nat.le_of_ble_eq_true rfl) (cc_X10_spread hG ok.1.2) ?_
  have ok := ok.2
  exact cX.cutz (b_X6_wake_52 hG hR ok hx) ⟨rfl, rfl, trivial⟩
def F_X6_wake_27 (N : Nat) (x0 : Option Nat) (S : cS) : cS := (F_X6_wake_31 N x0 ((f_X6_ask N S (za x0)).1) (f_X6_ask N S (za x0)).2)
def O_X6_wake_27 (N : Nat) (x0 : Option Nat) (S : cS) : Prop := (cis S x0 6 ∧ o_X6_ask N S (za x0)) ∧ O_X6_wake_31 N x0 ((f_X6_ask N S (za x0)).1) (f_X6_ask N S (za x0)).2
set_option maxRecDepth 100000 in
set_option maxHeartbeats 4000000 in
theorem b_X6_wake_27 {G : zG} {o : cO} {S : cS} {N : Nat} {Q : Option Value → cS → Prop} {X : cS → Prop} (hG : zOK G) (hR : ∀ S', X S' → Q none S') {x0 : Option Nat} (ok : O_X6_wake_27 N x0 S) (hx : X (F_X6_wake_27 N x0 S)) : cX G o dX6_wake mX6_wake 27 [some (va_rf x0), none] [] S Q := by
  unfold O_X6_wake_27 at ok
  unfold F_X6_wake_27 at hx
  refine c_aload_nQ dX6_wake_27 rfl rfl ?_
  refine c_V0qE (ci := 5) (rr := (RX6, TX6, 19)) (y' := mX6_ask) dX6_wake_28 lX6_115 kX6_ask ⟨by decide, by decide⟩ rfl rfl (by decide) ok.1.1 (Nat.le_of_ble_eq_true rfl) (cc_X6_ask hG ok.1.2) ?_
  have ok := ok.2
  exact cX.cutz (b_X6_wake_31 hG hR ok hx) ⟨rfl, trivial⟩
def F_X6_wake_10 (N : Nat) (x0 : Option Nat) (S : cS) : cS := (if (nI 40) < (cI S 9 (za x0)) then (F_X6_wake_27 N x0 S) else (F_X6_wake_27 N x0 (f_X6_setTimer N S (za x0) (cI S 11 (za x0)))))
def O_X6_wake_10 (N : Nat) (x0 : Option Nat) (S : cS) : Prop := (cis S x0 6) ∧ (((nI 40) < (cI S 9 (za x0)) → O_X6_wake_27 N x0 S) ∧ (¬ (nI 40) < (cI S 9 (za x0)) → (cis S x0 6) ∧ (cis S x0 6 ∧ o_X6_setTimer N S (za x0) (cI S 11 (za x0))) ∧ O_X6_wake_27 N x0 (f_X6_setTimer N S (za x0) (cI S 11 (za x0)))))
set_option maxRecDepth 100000 in
set_option maxHeartbeats 4000000 in
theorem b_X6_wake_10 {G : zG} {o : cO} {S : cS} {N : Nat} {Q : Option Value → cS → Prop} {X : cS → Prop} (hG : zOK G) (hR : ∀ S', X S' → Q none S') {x0 : Option Nat} (ok : O_X6_wake_10 N x0 S) (hx : X (F_X6_wake_10 N x0 S)) : cX G o dX6_wake mX6_wake 10 [some (va_rf x0), none] [] S Q := by
  unfold O_X6_wake_10 at ok
  unfold F_X6_wake_10 at hx
  refine c_aload_nQ dX6_wake_10 rfl rfl ?_
  refine c_getI (C := RX6) (T := TX6) (N := 19) (ci := 5) (k := 9) ⟨rfl, inT6, by decide, fX6_43⟩ (by decide) (by decide) (by decide) dX6_wake_11 ok.1 ?_
  have ok := ok.2
  refine c_bipush (v := nI 40) dX6_wake_14 (by decide) ?_
  refine c_icmp_gt (tgt := 27) dX6_wake_16 (by decide) (fun c_16 => ?_) (fun c_16 => ?_)
  · have ok := ok.1 c_16
    have hx := xif_p c_16 hx
    exact cX.cutz (b_X6_wake_27 hG hR ok hx) ⟨rfl, trivial⟩
  · have ok := ok.2 c_16
    have hx := xif_n c_16 hx
    refine c_aload_nQ dX6_wake_19 rfl rfl ?_
    refine c_aload_nQ dX6_wake_20 rfl rfl ?_
    refine c_getI (C := RX6) (T := TX6) (N := 19) (ci := 5) (k := 11) ⟨rfl, inT6, by decide, fX6_108⟩ (by decide) (by decide) (by decide) dX6_wake_21 ok.1 ?_
    have ok := ok.2
    refine c_V1vE (ci := 5) (rr := (RX6, TX6, 19)) (y' := mX6_setTimer) dX6_wake_24 lX6_111 kX6_setTimer ⟨by decide, by decide⟩ rfl rfl (by decide) ok.1.1 (Nat.le_of_ble_eq_true rfl) (cc_X6_setTimer hG ok.1.2) ?_
    have ok := ok.2
    exact cX.cutz (b_X6_wake_27 hG hR ok hx) ⟨rfl, trivial⟩
def F_X6_wake_0 (N : Nat) (x0 : Option Nat) (S : cS) : cS := (F_X6_wake_10 N x0 (csI (csI S 8 (za x0) (nI 1)) 16 (za x0) (nI 0)))
def O_X6_wake_0 (N : Nat) (x0 : Option Nat) (S : cS) : Prop := (cis S x0 6) ∧ (cis (csI S 8 (za x0) (nI 1)) x0 6) ∧ O_X6_wake_10 N x0 (csI (csI S 8 (za x0) (nI 1)) 16 (za x0) (nI 0))
set_option maxRecDepth 100000 in
set_option maxHeartbeats 4000000 in
theorem b_X6_wake_0 {G : zG} {o : cO} {S : cS} {N : Nat} {Q : Option Value → cS → Prop} {X : cS → Prop} (hG : zOK G) (hR : ∀ S', X S' → Q none S') {x0 : Option Nat} (ok : O_X6_wake_0 N x0 S) (hx : X (F_X6_wake_0 N x0 S)) : cX G o dX6_wake mX6_wake 0 [some (va_rf x0), none] [] S Q := by
  unfold O_X6_wake_0 at ok
  unfold F_X6_wake_0 at hx
  refine c_aload_nQ dX6_wake_0 rfl rfl ?_
  refine c_iconst (v := nI 1) dX6_wake_1 (by decide) ?_
  refine c_putI (C := RX6) (T := TX6) (N := 19) (ci := 5) (k := 8) ⟨rfl, inT6, by decide, fX6_39⟩ ftT6 rfl (by decide) (by decide) (by decide) rfl rfl dX6_wake_2 ok.1 ?_
  have ok := ok.2
  refine c_aload_nQ dX6_wake_5 rfl rfl ?_
  refine c_iconst (v := nI 0) dX6_wake_6 (by decide) ?_
  refine c_putI (C := RX6) (T := TX6) (N := 19) (ci := 5) (k := 16) ⟨rfl, inT6, by decide, fX6_105⟩ ftT6 rfl (by decide) (by decide) (by decide) rfl rfl dX6_wake_7 ok.1 ?_
  have ok := ok.2
  exact cX.cutz (b_X6_wake_10 hG hR ok hx) ⟨rfl, trivial⟩
def f_X6_wake (N : Nat) (S : cS) (a0 : Nat) : cS := F_X6_wake_0 N (some a0) S
def o_X6_wake (N : Nat) (S : cS) (a0 : Nat) : Prop := O_X6_wake_0 N (some a0) S
set_option maxRecDepth 100000 in
set_option maxHeartbeats 4000000 in
theorem cc_X6_wake {G : zG} {o : cO} {S : cS} {N : Nat} (hG : zOK G) {a0 : Nat} (ok : o_X6_wake N S a0) : cCv G o dX6_wake mX6_wake [.ref a0] S (fun S' => S' = f_X6_wake N S a0) := by
  refine cC.ofX rfl (by exact Nat.le_of_ble_eq_true rfl) ?_
  show cX G o dX6_wake mX6_wake 0 [some (.ref a0), none] [] S _
  exact cX.cutz (b_X6_wake_0 (X := fun F => F = f_X6_wake N S a0) hG (fun S' h => ⟨rfl, h⟩) ok rfl) ⟨rfl, trivial⟩
/-! X6_setLocked -/
def F_X6_setLocked_28 (N : Nat) (x0 : Option Nat) (x1 : Option Nat) (x2 : Int32) (S : cS) : cS := (csI (csR S 14 (za x0) x1) 12 (za x0) x2)
def O_X6_setLocked_28 (N : Nat) (x0 : Option Nat) (x1 : Option Nat) (x2 : Int32) (S : cS) : Prop := (cis S x0 6) ∧ (cis (csR S 14 (za x0) x1) x0 6) ∧ True
set_option maxRecDepth 100000 in
set_option maxHeartbeats 4000000 in
theorem b_X6_setLocked_28 {G : zG} {o : cO} {S : cS} {N : Nat} {Q : Option Value → cS → Prop} {X : cS → Prop} (hG : zOK G) (hR : ∀ S', X S' → Q none S') {x0 : Option Nat} {x1 : Option Nat} {x2 : Int32} (ok : O_X6_setLocked_28 N x0 x1 x2 S) (hx : X (F_X6_setLocked_28 N x0 x1 x2 S)) : cX G o dX6_setLocked mX6_setLocked 28 [some (va_rf x0), some (va_rf x1), some (.int x2)] [] S Q := by
  unfold O_X6_setLocked_28 at ok
  unfold F_X6_setLocked_28 at hx
  refine c_aload_nQ dX6_setLocked_28 rfl rfl ?_
  refine c_aload_nQ dX6_setLocked_29 rfl rfl ?_
  refine c_putR (C := RX6) (T := TX6) (N := 19) (ci := 5) (k := 14) ⟨rfl, inT6, by decide, fX6_152⟩ ftT6 rfl (by decide) (by decide) (by decide) (fun v => by cases v <;> rfl) (fun v => by cases v <;> rfl) dX6_setLocked_30 ok.1 ?_
  have ok := ok.2
  refine c_aload_nQ dX6_setLocked_33 rfl rfl ?_
  refine c_iload_n dX6_setLocked_34 rfl rfl ?_
  refine c_putI (C := RX6) (T := TX6) (N := 19) (ci := 5) (k := 12) ⟨rfl, inT6, by decide, fX6_47⟩ ftT6 rfl (by decide) (by decide) (by decide) rfl rfl dX6_setLocked_35 ok.1 ?_
  have ok := ok.2
  exact c_return rfl dX6_setLocked_38 (hR _ hx)
def F_X6_setLocked_14 (N : Nat) (x0 : Option Nat) (x1 : Option Nat) (x2 : Int32) (S : cS) : cS := (F_X6_setLocked_28 N x0 x1 x2 (f_X9_drop N S (za (cR S 6 (za (cR S 0 (za x0))))) (cR S 14 (za x0))))
def O_X6_setLocked_14 (N : Nat) (x0 : Option Nat) (x1 : Option Nat) (x2 : Int32) (S : cS) : Prop := (cis S x0 6) ∧ (cis S (cR S 0 (za x0)) 9) ∧ (cis S x0 6) ∧ (cis S (cR S 6 (za (cR S 0 (za x0)))) 8 ∧ o_X9_drop N S (za (cR S 6 (za (cR S 0 (za x0))))) (cR S 14 (za x0))) ∧ O_X6_setLocked_28 N x0 x1 x2 (f_X9_drop N S (za (cR S 6 (za (cR S 0 (za x0))))) (cR S 14 (za x0)))
set_option maxRecDepth 100000 in
set_option maxHeartbeats 4000000 in
theorem b_X6_setLocked_14 {G : zG} {o : cO} {S : cS} {N : Nat} {Q : Option Value → cS → Prop} {X : cS → Prop} (hG : zOK G) (hR : ∀ S', X S' → Q none S') {x0 : Option Nat} {x1 : Option Nat} {x2 : Int32} (ok : O_X6_setLocked_14 N x0 x1 x2 S) (hx : X (F_X6_setLocked_14 N x0 x1 x2 S)) : cX G o dX6_setLocked mX6_setLocked 14 [some (va_rf x0), some (va_rf x1), some (.int x2)] [] S Q := by
  unfold O_X6_setLocked_14 at ok
  unfold F_X6_setLocked_14 at hx
  refine c_aload_nQ dX6_setLocked_14 rfl rfl ?_
  refine c_getR (C := RX6) (T := TX6) (N := 19) (ci := 5) (k := 0) ⟨rfl, inT6, by decide, fX6_56⟩ (by decide) (by decide) (by decide) dX6_setLocked_15 ok.1 ?_
  have ok := ok.2
  refine c_getR (C := RX10) (T := TX10) (N := 12) (ci := 8) (k := 6) ⟨rfl, inT10, by decide, fX6_65⟩ (by decide) (by decide) (by decide) dX6_setLocked_18 ok.1 ?_
  have ok := ok.2
  refine c_aload_nQ dX6_setLocked_21 rfl rfl ?_
  refine c_getR (C := RX6) (T := TX6) (N := 19) (ci := 5) (k := 14) ⟨rfl, inT6, by decide, fX6_152⟩ (by decide) (by decide) (by decide) dX6_setLocked_22 ok.1 ?_
  have ok := ok.2
  refine c_V1vE (ci := 7) (rr := (RX9, TX9, 13)) (y' := mX9_drop) dX6_setLocked_25 lX6_123 kX9_drop ⟨by decide, by decide⟩ rfl rfl (by decide) ok.1.1 (Nat.le_of_ble_eq_true rfl) (cc_X9_drop hG ok.1.2) ?_
  have ok := ok.2
  exact cX.cutz (b_X6_setLocked_28 hG hR ok hx) ⟨rfl, rfl, rfl, trivial⟩
def F_X6_setLocked_0 (N : Nat) (x0 : Option Nat) (x1 : Option Nat) (x2 : Int32) (S : cS) : cS := (if x1 = none then (F_X6_setLocked_14 N x0 x1 x2 S) else (F_X6_setLocked_14 N x0 x1 x2 (csI S 3 (za x1) ((cI S 3 (za x1)) + (nI 1)))))
def O_X6_setLocked_0 (N : Nat) (x0 : Option Nat) (x1 : Option Nat) (x2 : Int32) (S : cS) : Prop := ((x1 = none → O_X6_setLocked_14 N x0 x1 x2 S) ∧ (¬ x1 = none → (cis S x1 5) ∧ (cis S x1 5) ∧ O_X6_setLocked_14 N x0 x1 x2 (csI S 3 (za x1) ((cI S 3 (za x1)) + (nI 1)))))
set_option maxRecDepth 100000 in
set_option maxHeartbeats 4000000 in
theorem b_X6_setLocked_0 {G : zG} {o : cO} {S : cS} {N : Nat} {Q : Option Value → cS → Prop} {X : cS → Prop} (hG : zOK G) (hR : ∀ S', X S' → Q none S') {x0 : Option Nat} {x1 : Option Nat} {x2 : Int32} (ok : O_X6_setLocked_0 N x0 x1 x2 S) (hx : X (F_X6_setLocked_0 N x0 x1 x2 S)) : cX G o dX6_setLocked mX6_setLocked 0 [some (va_rf x0), some (va_rf x1), some (.int x2)] [] S Q := by
  unfold O_X6_setLocked_0 at ok
  unfold F_X6_setLocked_0 at hx
  refine c_aload_nQ dX6_setLocked_0 rfl rfl ?_
  refine c_ifnullI (tgt := 14) dX6_setLocked_1 (by decide) (fun c_1 => ?_) (fun c_1 => ?_)
  · have ok := ok.1 c_1
    have hx := xif_p c_1 hx
    exact cX.cutz (b_X6_setLocked_14 hG hR ok hx) ⟨rfl, rfl, rfl, trivial⟩
  · have ok := ok.2 c_1
    have hx := xif_n c_1 hx
    refine c_aload_nQ dX6_setLocked_4 rfl rfl ?_
    refine c_dup dX6_setLocked_5 (zcat_rf _) ?_
    refine c_getI (C := RX5) (T := TX5) (N := 7) (ci := 4) (k := 3) ⟨rfl, inT5, by decide, fX6_149⟩ (by decide) (by decide) (by decide) dX6_setLocked_6 ok.1 ?_
    have ok := ok.2
    refine c_iconst (v := nI 1) dX6_setLocked_9 (by decide) ?_
    refine c_iadd dX6_setLocked_10 ?_
    refine c_putI (C := RX5) (T := TX5) (N := 7) (ci := 4) (k := 3) ⟨rfl, inT5, by decide, fX6_149⟩ ftT5 rfl (by decide) (by decide) (by decide) rfl rfl dX6_setLocked_11 ok.1 ?_
    have ok := ok.2
    exact cX.cutz (b_X6_setLocked_14 hG hR ok hx) ⟨rfl, rfl, rfl, trivial⟩
def f_X6_setLocked (N : Nat) (S : cS) (a0 : Nat) (x1 : Option Nat) (x2 : Int32) : cS := F_X6_setLocked_0 N (some a0) x1 x2 S
def o_X6_setLocked (N : Nat) (S : cS) (a0 : Nat) (x1 : Option Nat) (x2 : Int32) : Prop := O_X6_setLocked_0 N (some a0) x1 x2 S
set_option maxRecDepth 100000 in
set_option maxHeartbeats 4000000 in
theorem cc_X6_setLocked {G : zG} {o : cO} {S : cS} {N : Nat} (hG : zOK G) {a0 : Nat} {x1 : Option Nat} {x2 : Int32} (ok : o_X6_setLocked N S a0 x1 x2) : cCv G o dX6_setLocked mX6_setLocked [.ref a0, va_rf x1, .int x2] S (fun S' => S' = f_X6_setLocked N S a0 x1 x2) := by
  refine cC.ofX rfl (by cases x1 <;> exact Nat.le_of_ble_eq_true rfl) ?_
  rw [show zargs mX6_setLocked.2.2.1 [.ref a0, va_rf x1, .int x2] = [some (.ref a0), some (va_rf x1), some (.int x2)] from by cases x1 <;> rfl]
  exact cX.cutz (b_X6_setLocked_0 (X := fun F => F = f_X6_setLocked N S a0 x1 x2) hG (fun S' h => ⟨rfl, h⟩) ok rfl) ⟨rfl, rfl, rfl, trivial⟩
/-! X6_setValid -/
def F_X6_setValid_28 (N : Nat) (x0 : Option Nat) (x1 : Option Nat) (x2 : Int32) (S : cS) : cS := (csI (csR S 15 (za x0) x1) 13 (za x0) x2)
def O_X6_setValid_28 (N : Nat) (x0 : Option Nat) (x1 : Option Nat) (x2 : Int32) (S : cS) : Prop := (cis S x0 6) ∧ (cis (csR S 15 (za x0) x1) x0 6) ∧ True
set_option maxRecDepth 100000 in
set_option maxHeartbeats 4000000 in
theorem b_X6_setValid_28 {G : zG} {o : cO} {S : cS} {N : Nat} {Q : Option Value → cS → Prop} {X : cS → Prop} (hG : zOK G) (hR : ∀ S', X S' → Q none S') {x0 : Option Nat} {x1 : Option Nat} {x2 : Int32} (ok : O_X6_setValid_28 N x0 x1 x2 S) (hx : X (F_X6_setValid_28 N x0 x1 x2 S)) : cX G o dX6_setValid mX6_setValid 28 [some (va_rf x0), some (va_rf x1), some (.int x2)] [] S Q := by
  unfold O_X6_setValid_28 at ok
  unfold F_X6_setValid_28 at hx
  refine c_aload_nQ dX6_setValid_28 rfl rfl ?_
  refine c_aload_nQ dX6_setValid_29 rfl rfl ?_
  refine c_putR (C := RX6) (T := TX6) (N := 19) (ci := 5) (k := 15) ⟨rfl, inT6, by decide, fX6_156⟩ ftT6 rfl (by decide) (by decide) (by decide) (fun v => by cases v <;> rfl) (fun v => by cases v <;> rfl) dX6_setValid_30 ok.1 ?_
  have ok := ok.2
  refine c_aload_nQ dX6_setValid_33 rfl rfl ?_
  refine c_iload_n dX6_setValid_34 rfl rfl ?_
  refine c_putI (C := RX6) (T := TX6) (N := 19) (ci := 5) (k := 13) ⟨rfl, inT6, by decide, fX6_50⟩ ftT6 rfl (by decide) (by decide) (by decide) rfl rfl dX6_setValid_35 ok.1 ?_
  have ok := ok.2
  exact c_return rfl dX6_setValid_38 (hR _ hx)
def F_X6_setValid_14 (N : Nat) (x0 : Option Nat) (x1 : Option Nat) (x2 : Int32) (S : cS) : cS := (F_X6_setValid_28 N x0 x1 x2 (f_X9_drop N S (za (cR S 6 (za (cR S 0 (za x0))))) (cR S 15 (za x0))))
def O_X6_setValid_14 (N : Nat) (x0 : Option Nat) (x1 : Option Nat) (x2 : Int32) (S : cS) : Prop := (cis S x0 6) ∧ (cis S (cR S 0 (za x0)) 9) ∧ (cis S x0 6) ∧ (cis S (cR S 6 (za (cR S 0 (za x0)))) 8 ∧ o_X9_drop N S (za (cR S 6 (za (cR S 0 (za x0))))) (cR S 15 (za x0))) ∧ O_X6_setValid_28 N x0 x1 x2 (f_X9_drop N S (za (cR S 6 (za (cR S 0 (za x0))))) (cR S 15 (za x0)))
set_option maxRecDepth 100000 in
set_option maxHeartbeats 4000000 in
theorem b_X6_setValid_14 {G : zG} {o : cO} {S : cS} {N : Nat} {Q : Option Value → cS → Prop} {X : cS → Prop} (hG : zOK G) (hR : ∀ S', X S' → Q none S') {x0 : Option Nat} {x1 : Option Nat} {x2 : Int32} (ok : O_X6_setValid_14 N x0 x1 x2 S) (hx : X (F_X6_setValid_14 N x0 x1 x2 S)) : cX G o dX6_setValid mX6_setValid 14 [some (va_rf x0), some (va_rf x1), some (.int x2)] [] S Q := by
  unfold O_X6_setValid_14 at ok
  unfold F_X6_setValid_14 at hx
  refine c_aload_nQ dX6_setValid_14 rfl rfl ?_
  refine c_getR (C := RX6) (T := TX6) (N := 19) (ci := 5) (k := 0) ⟨rfl, inT6, by decide, fX6_56⟩ (by decide) (by decide) (by decide) dX6_setValid_15 ok.1 ?_
  have ok := ok.2
  refine c_getR (C := RX10) (T := TX10) (N := 12) (ci := 8) (k := 6) ⟨rfl, inT10, by decide, fX6_65⟩ (by decide) (by decide) (by decide) dX6_setValid_18 ok.1 ?_
  have ok := ok.2
  refine c_aload_nQ dX6_setValid_21 rfl rfl ?_
  refine c_getR (C := RX6) (T := TX6) (N := 19) (ci := 5) (k := 15) ⟨rfl, inT6, by decide, fX6_156⟩ (by decide) (by decide) (by decide) dX6_setValid_22 ok.1 ?_
  have ok := ok.2
  refine c_V1vE (ci := 7) (rr := (RX9, TX9, 13)) (y' := mX9_drop) dX6_setValid_25 lX6_123 kX9_drop ⟨by decide, by decide⟩ rfl rfl (by decide) ok.1.1 (Nat.le_of_ble_eq_true rfl) (cc_X9_drop hG ok.1.2) ?_
  have ok := ok.2
  exact cX.cutz (b_X6_setValid_28 hG hR ok hx) ⟨rfl, rfl, rfl, trivial⟩
def F_X6_setValid_0 (N : Nat) (x0 : Option Nat) (x1 : Option Nat) (x2 : Int32) (S : cS) : cS := (if x1 = none then (F_X6_setValid_14 N x0 x1 x2 S) else (F_X6_setValid_14 N x0 x1 x2 (csI S 3 (za x1) ((cI S 3 (za x1)) + (nI 1)))))
def O_X6_setValid_0 (N : Nat) (x0 : Option Nat) (x1 : Option Nat) (x2 : Int32) (S : cS) : Prop := ((x1 = none → O_X6_setValid_14 N x0 x1 x2 S) ∧ (¬ x1 = none → (cis S x1 5) ∧ (cis S x1 5) ∧ O_X6_setValid_14 N x0 x1 x2 (csI S 3 (za x1) ((cI S 3 (za x1)) + (nI 1)))))
set_option maxRecDepth 100000 in
set_option maxHeartbeats 4000000 in
theorem b_X6_setValid_0 {G : zG} {o : cO} {S : cS} {N : Nat} {Q : Option Value → cS → Prop} {X : cS → Prop} (hG : zOK G) (hR : ∀ S', X S' → Q none S') {x0 : Option Nat} {x1 : Option Nat} {x2 : Int32} (ok : O_X6_setValid_0 N x0 x1 x2 S) (hx : X (F_X6_setValid_0 N x0 x1 x2 S)) : cX G o dX6_setValid mX6_setValid 0 [some (va_rf x0), some (va_rf x1), some (.int x2)] [] S Q := by
  unfold O_X6_setValid_0 at ok
  unfold F_X6_setValid_0 at hx
  refine c_aload_nQ dX6_setValid_0 rfl rfl ?_
  refine c_ifnullI (tgt := 14) dX6_setValid_1 (by decide) (fun c_1 => ?_) (fun c_1 => ?_)
  · have ok := ok.1 c_1
    have hx := xif_p c_1 hx
    exact cX.cutz (b_X6_setValid_14 hG hR ok hx) ⟨rfl, rfl, rfl, trivial⟩
  · have ok := ok.2 c_1
    have hx := xif_n c_1 hx
    refine c_aload_nQ dX6_setValid_4 rfl rfl ?_
    refine c_dup dX6_setValid_5 (zcat_rf _) ?_
    refine c_getI (C := RX5) (T := TX5) (N := 7) (ci := 4) (k := 3) ⟨rfl, inT5, by decide, fX6_149⟩ (by decide) (by decide) (by decide) dX6_setValid_6 ok.1 ?_
    have ok := ok.2
    refine c_iconst (v := nI 1) dX6_setValid_9 (by decide) ?_
    refine c_iadd dX6_setValid_10 ?_
    refine c_putI (C := RX5) (T := TX5) (N := 7) (ci := 4) (k := 3) ⟨rfl, inT5, by decide, fX6_149⟩ ftT5 rfl (by decide) (by decide) (by decide) rfl rfl dX6_setValid_11 ok.1 ?_
    have ok := ok.2
    exact cX.cutz (b_X6_setValid_14 hG hR ok hx) ⟨rfl, rfl, rfl, trivial⟩
def f_X6_setValid (N : Nat) (S : cS) (a0 : Nat) (x1 : Option Nat) (x2 : Int32) : cS := F_X6_setValid_0 N (some a0) x1 x2 S
def o_X6_setValid (N : Nat) (S : cS) (a0 : Nat) (x1 : Option Nat) (x2 : Int32) : Prop := O_X6_setValid_0 N (some a0) x1 x2 S
set_option maxRecDepth 100000 in
set_option maxHeartbeats 4000000 in
theorem cc_X6_setValid {G : zG} {o : cO} {S : cS} {N : Nat} (hG : zOK G) {a0 : Nat} {x1 : Option Nat} {x2 : Int32} (ok : o_X6_setValid N S a0 x1 x2) : cCv G o dX6_setValid mX6_setValid [.ref a0, va_rf x1, .int x2] S (fun S' => S' = f_X6_setValid N S a0 x1 x2) := by
  refine cC.ofX rfl (by cases x1 <;> exact Nat.le_of_ble_eq_true rfl) ?_
  rw [show zargs mX6_setValid.2.2.1 [.ref a0, va_rf x1, .int x2] = [some (.ref a0), some (va_rf x1), some (.int x2)] from by cases x1 <;> rfl]
  exact cX.cutz (b_X6_setValid_0 (X := fun F => F = f_X6_setValid N S a0 x1 x2) hG (fun S' h => ⟨rfl, h⟩) ok rfl) ⟨rfl, rfl, rfl, trivial⟩
/-! X6_enter -/
def F_X6_enter_108 (N : Nat) (s0 : Option Nat) (s1 : Int32) (S : cS) : cS := (csI S 18 (za s0) s1)
def O_X6_enter_108 (N : Nat) (s0 : Option Nat) (s1 : Int32) (S : cS) : Prop := (cis S s0 6) ∧ True
set_option maxRecDepth 100000 in
set_option maxHeartbeats 4000000 in
theorem b_X6_enter_108 {G : zG} {o : cO} {S : cS} {N : Nat} {Q : Option Value → cS → Prop} {X : cS → Prop} (hG : zOK G) (hR : ∀ S', X S' → Q none S') {s0 : Option Nat} {s1 : Int32} (ok : O_X6_enter_108 N s0 s1 S) (hx : X (F_X6_enter_108 N s0 s1 S)) : cX G o dX6_enter mX6_enter 108 [none, none] [.int s1, va_rf s0] S Q := by
  unfold O_X6_enter_108 at ok
  unfold F_X6_enter_108 at hx
  refine c_putI (C := RX6) (T := TX6) (N := 19) (ci := 5) (k := 18) ⟨rfl, inT6, by decide, fX6_53⟩ ftT6 rfl (by decide) (by decide) (by decide) rfl rfl dX6_enter_108 ok.1 ?_
  have ok := ok.2
  exact c_return rfl dX6_enter_111 (hR _ hx)
def F_X6_enter_96 (N : Nat) (x0 : Option Nat) (x1 : Int32) (S : cS) : cS := (if (nI 40) < x1 then (F_X6_enter_108 N x0 (-1) S) else (F_X6_enter_108 N x0 (nI 0) S))
def O_X6_enter_96 (N : Nat) (x0 : Option Nat) (x1 : Int32) (S : cS) : Prop := (((nI 40) < x1 → O_X6_enter_108 N x0 (-1) S) ∧ (¬ (nI 40) < x1 → O_X6_enter_108 N x0 (nI 0) S))
set_option maxRecDepth 100000 in
set_option maxHeartbeats 4000000 in
theorem b_X6_enter_96 {G : zG} {o : cO} {S : cS} {N : Nat} {Q : Option Value → cS → Prop} {X : cS → Prop} (hG : zOK G) (hR : ∀ S', X S' → Q none S') {x0 : Option Nat} {x1 : Int32} (ok : O_X6_enter_96 N x0 x1 S) (hx : X (F_X6_enter_96 N x0 x1 S)) : cX G o dX6_enter mX6_enter 96 [some (va_rf x0), some (.int x1)] [] S Q := by
  unfold O_X6_enter_96 at ok
  unfold F_X6_enter_96 at hx
  refine c_aload_nQ dX6_enter_96 rfl rfl ?_
  refine c_iload_n dX6_enter_97 rfl rfl ?_
  refine c_bipush (v := nI 40) dX6_enter_98 (by decide) ?_
  refine c_icmp_gt (tgt := 107) dX6_enter_100 (by decide) (fun c_100 => ?_) (fun c_100 => ?_)
  · have ok := ok.1 c_100
    have hx := xif_p c_100 hx
    refine c_iconst (v := -1) dX6_enter_107 (by decide) ?_
    exact cX.cutz (b_X6_enter_108 hG hR ok hx) trivial
  · have ok := ok.2 c_100
    have hx := xif_n c_100 hx
    refine c_iconst (v := nI 0) dX6_enter_103 (by decide) ?_
    refine c_goto (tgt := 108) dX6_enter_104 (by decide) ?_
    exact cX.cutz (b_X6_enter_108 hG hR ok hx) trivial
def F_X6_enter_83 (N : Nat) (x0 : Option Nat) (x1 : Int32) (S : cS) : cS := (F_X6_enter_96 N x0 x1 (csI (csI S 17 (za x0) (nI 0)) 6 (za (cR (csI S 17 (za x0) (nI 0)) 2 (za x0))) (nI 0)))
def O_X6_enter_83 (N : Nat) (x0 : Option Nat) (x1 : Int32) (S : cS) : Prop := (cis S x0 6) ∧ (cis (csI S 17 (za x0) (nI 0)) x0 6) ∧ (cis (csI S 17 (za x0) (nI 0)) (cR (csI S 17 (za x0) (nI 0)) 2 (za x0)) 4) ∧ O_X6_enter_96 N x0 x1 (csI (csI S 17 (za x0) (nI 0)) 6 (za (cR (csI S 17 (za x0) (nI 0)) 2 (za x0))) (nI 0))
set_option maxRecDepth 100000 in
set_option maxHeartbeats 4000000 in
theorem b_X6_enter_83 {G : zG} {o : cO} {S : cS} {N : Nat} {Q : Option Value → cS → Prop} {X : cS → Prop} (hG : zOK G) (hR : ∀ S', X S' → Q none S') {x0 : Option Nat} {x1 : Int32} (ok : O_X6_enter_83 N x0 x1 S) (hx : X (F_X6_enter_83 N x0 x1 S)) : cX G o dX6_enter mX6_enter 83 [some (va_rf x0), some (.int x1)] [] S Q := by
  unfold O_X6_enter_83 at ok
  unfold F_X6_enter_83 at hx
  refine c_aload_nQ dX6_enter_83 rfl rfl ?_
  refine c_iconst (v := nI 0) dX6_enter_84 (by decide) ?_
  refine c_putI (C := RX6) (T := TX6) (N := 19) (ci := 5) (k := 17) ⟨rfl, inT6, by decide, fX6_145⟩ ftT6 rfl (by decide) (by decide) (by decide) rfl rfl dX6_enter_85 ok.1 ?_
  have ok := ok.2
  refine c_aload_nQ dX6_enter_88 rfl rfl ?_
  refine c_getR (C := RX6) (T := TX6) (N := 19) (ci := 5) (k := 2) ⟨rfl, inT6, by decide, fX6_12⟩ (by decide) (by decide) (by decide) dX6_enter_89 ok.1 ?_
  have ok := ok.2
  refine c_iconst (v := nI 0) dX6_enter_92 (by decide) ?_
  refine c_putI (C := RX4) (T := TX4) (N := 10) (ci := 3) (k := 6) ⟨rfl, inT4, by decide, fX6_148⟩ ftT4 rfl (by decide) (by decide) (by decide) rfl rfl dX6_enter_93 ok.1 ?_
  have ok := ok.2
  exact cX.cutz (b_X6_enter_96 hG hR ok hx) ⟨rfl, rfl, trivial⟩
def F_X6_enter_73 (N : Nat) (x0 : Option Nat) (x1 : Int32) (S : cS) : cS := (F_X6_enter_83 N x0 x1 (csI (csI S 11 (za x0) (nI 0)) 16 (za x0) (nI 0)))
def O_X6_enter_73 (N : Nat) (x0 : Option Nat) (x1 : Int32) (S : cS) : Prop := (cis S x0 6) ∧ (cis (csI S 11 (za x0) (nI 0)) x0 6) ∧ O_X6_enter_83 N x0 x1 (csI (csI S 11 (za x0) (nI 0)) 16 (za x0) (nI 0))
set_option maxRecDepth 100000 in
set_option maxHeartbeats 4000000 in
theorem b_X6_enter_73 {G : zG} {o : cO} {S : cS} {N : Nat} {Q : Option Value → cS → Prop} {X : cS → Prop} (hG : zOK G) (hR : ∀ S', X S' → Q none S') {x0 : Option Nat} {x1 : Int32} (ok : O_X6_enter_73 N x0 x1 S) (hx : X (F_X6_enter_73 N x0 x1 S)) : cX G o dX6_enter mX6_enter 73 [some (va_rf x0), some (.int x1)] [] S Q := by
  unfold O_X6_enter_73 at ok
  unfold F_X6_enter_73 at hx
  refine c_aload_nQ dX6_enter_73 rfl rfl ?_
  refine c_iconst (v := nI 0) dX6_enter_74 (by decide) ?_
  refine c_putI (C := RX6) (T := TX6) (N := 19) (ci := 5) (k := 11) ⟨rfl, inT6, by decide, fX6_108⟩ ftT6 rfl (by decide) (by decide) (by decide) rfl rfl dX6_enter_75 ok.1 ?_
  have ok := ok.2
  refine c_aload_nQ dX6_enter_78 rfl rfl ?_
  refine c_iconst (v := nI 0) dX6_enter_79 (by decide) ?_
  refine c_putI (C := RX6) (T := TX6) (N := 19) (ci := 5) (k := 16) ⟨rfl, inT6, by decide, fX6_105⟩ ftT6 rfl (by decide) (by decide) (by decide) rfl rfl dX6_enter_80 ok.1 ?_
  have ok := ok.2
  exact cX.cutz (b_X6_enter_83 hG hR ok hx) ⟨rfl, rfl, trivial⟩
def F_X6_enter_63 (N : Nat) (x0 : Option Nat) (x1 : Int32) (S : cS) : cS := (F_X6_enter_73 N x0 x1 (csI (csI S 9 (za x0) x1) 10 (za x0) (nI 0)))
def O_X6_enter_63 (N : Nat) (x0 : Option Nat) (x1 : Int32) (S : cS) : Prop := (cis S x0 6) ∧ (cis (csI S 9 (za x0) x1) x0 6) ∧ O_X6_enter_73 N x0 x1 (csI (csI S 9 (za x0) x1) 10 (za x0) (nI 0))
set_option maxRecDepth 100000 in
set_option maxHeartbeats 4000000 in
theorem b_X6_enter_63 {G : zG} {o : cO} {S : cS} {N : Nat} {Q : Option Value → cS → Prop} {X : cS → Prop} (hG : zOK G) (hR : ∀ S', X S' → Q none S') {x0 : Option Nat} {x1 : Int32} (ok : O_X6_enter_63 N x0 x1 S) (hx : X (F_X6_enter_63 N x0 x1 S)) : cX G o dX6_enter mX6_enter 63 [some (va_rf x0), some (.int x1)] [] S Q := by
  unfold O_X6_enter_63 at ok
  unfold F_X6_enter_63 at hx
  refine c_aload_nQ dX6_enter_63 rfl rfl ?_
  refine c_iload_n dX6_enter_64 rfl rfl ?_
  refine c_putI (C := RX6) (T := TX6) (N := 19) (ci := 5) (k := 9) ⟨rfl, inT6, by decide, fX6_43⟩ ftT6 rfl (by decide) (by decide) (by decide) rfl rfl dX6_enter_65 ok.1 ?_
  have ok := ok.2
  refine c_aload_nQ dX6_enter_68 rfl rfl ?_
  refine c_iconst (v := nI 0) dX6_enter_69 (by decide) ?_
  refine c_putI (C := RX6) (T := TX6) (N := 19) (ci := 5) (k := 10) ⟨rfl, inT6, by decide, fX6_86⟩ ftT6 rfl (by decide) (by decide) (by decide) rfl rfl dX6_enter_70 ok.1 ?_
  have ok := ok.2
  exact cX.cutz (b_X6_enter_73 hG hR ok hx) ⟨rfl, rfl, trivial⟩
def F_X6_enter_55 (N : Nat) (x0 : Option Nat) (x1 : Int32) (S : cS) : cS := (F_X6_enter_63 N x0 x1 (f_J7_fill_53178 N S (cR S 6 (za x0)) (nI 0)))
def O_X6_enter_55 (N : Nat) (x0 : Option Nat) (x1 : Int32) (S : cS) : Prop := (cis S x0 6) ∧ (o_J7_fill_53178 N S (cR S 6 (za x0)) (nI 0)) ∧ O_X6_enter_63 N x0 x1 (f_J7_fill_53178 N S (cR S 6 (za x0)) (nI 0))
set_option maxRecDepth 100000 in
set_option maxHeartbeats 4000000 in
theorem b_X6_enter_55 {G : zG} {o : cO} {S : cS} {N : Nat} {Q : Option Value → cS → Prop} {X : cS → Prop} (hG : zOK G) (hR : ∀ S', X S' → Q none S') {x0 : Option Nat} {x1 : Int32} (ok : O_X6_enter_55 N x0 x1 S) (hx : X (F_X6_enter_55 N x0 x1 S)) : cX G o dX6_enter mX6_enter 55 [some (va_rf x0), some (.int x1)] [] S Q := by
  unfold O_X6_enter_55 at ok
  unfold F_X6_enter_55 at hx
  refine c_aload_nQ dX6_enter_55 rfl rfl ?_
  refine c_getR (C := RX6) (T := TX6) (N := 19) (ci := 5) (k := 6) ⟨rfl, inT6, by decide, fX6_29⟩ (by decide) (by decide) (by decide) dX6_enter_56 ok.1 ?_
  have ok := ok.2
  refine c_iconst (v := nI 0) dX6_enter_59 (by decide) ?_
  refine c_S2vE (y' := mJ7_fill_53178) dX6_enter_60 lX6_89 kJ7_fill_53178 ⟨by decide, by decide⟩ (Nat.le_of_ble_eq_true rfl) (cc_J7_fill_53178 hG ok.1) ?_
  have ok := ok.2
  exact cX.cutz (b_X6_enter_63 hG hR ok hx) ⟨rfl, rfl, trivial⟩
def F_X6_enter_49 (N : Nat) (x0 : Option Nat) (x1 : Int32) (S : cS) : cS := (F_X6_enter_55 N x0 x1 (f_X6_setValid N S (za x0) (none : Option Nat) (-1)))
def O_X6_enter_49 (N : Nat) (x0 : Option Nat) (x1 : Int32) (S : cS) : Prop := (cis S x0 6 ∧ o_X6_setValid N S (za x0) (none : Option Nat) (-1)) ∧ O_X6_enter_55 N x0 x1 (f_X6_setValid N S (za x0) (none : Option Nat) (-1))
set_option maxRecDepth 100000 in
set_option maxHeartbeats 4000000 in
theorem b_X6_enter_49 {G : zG} {o : cO} {S : cS} {N : Nat} {Q : Option Value → cS → Prop} {X : cS → Prop} (hG : zOK G) (hR : ∀ S', X S' → Q none S') {x0 : Option Nat} {x1 : Int32} (ok : O_X6_enter_49 N x0 x1 S) (hx : X (F_X6_enter_49 N x0 x1 S)) : cX G o dX6_enter mX6_enter 49 [some (va_rf x0), some (.int x1)] [] S Q := by
  unfold O_X6_enter_49 at ok
  unfold F_X6_enter_49 at hx
  refine c_aload_nQ dX6_enter_49 rfl rfl ?_
  refine c_null' dX6_enter_50 ?_
  refine c_iconst (v := -1) dX6_enter_51 (by decide) ?_
  refine c_V2vE (ci := 5) (rr := (RX6, TX6, 19)) (y' := mX6_setValid) dX6_enter_52 lX6_142 kX6_setValid ⟨by decide, by decide⟩ rfl rfl (by decide) ok.1.1 (Nat.le_of_ble_eq_true rfl) (cc_X6_setValid hG ok.1.2) ?_
  have ok := ok.2
  exact cX.cutz (b_X6_enter_55 hG hR ok hx) ⟨rfl, rfl, trivial⟩
def F_X6_enter_43 (N : Nat) (x0 : Option Nat) (x1 : Int32) (S : cS) : cS := (F_X6_enter_49 N x0 x1 (f_X6_setLocked N S (za x0) (none : Option Nat) (-1)))
def O_X6_enter_43 (N : Nat) (x0 : Option Nat) (x1 : Int32) (S : cS) : Prop := (cis S x0 6 ∧ o_X6_setLocked N S (za x0) (none : Option Nat) (-1)) ∧ O_X6_enter_49 N x0 x1 (f_X6_setLocked N S (za x0) (none : Option Nat) (-1))
set_option maxRecDepth 100000 in
set_option maxHeartbeats 4000000 in
theorem b_X6_enter_43 {G : zG} {o : cO} {S : cS} {N : Nat} {Q : Option Value → cS → Prop} {X : cS → Prop} (hG : zOK G) (hR : ∀ S', X S' → Q none S') {x0 : Option Nat} {x1 : Int32} (ok : O_X6_enter_43 N x0 x1 S) (hx : X (F_X6_enter_43 N x0 x1 S)) : cX G o dX6_enter mX6_enter 43 [some (va_rf x0), some (.int x1)] [] S Q := by
  unfold O_X6_enter_43 at ok
  unfold F_X6_enter_43 at hx
  refine c_aload_nQ dX6_enter_43 rfl rfl ?_
  refine c_null' dX6_enter_44 ?_
  refine c_iconst (v := -1) dX6_enter_45 (by decide) ?_
  refine c_V2vE (ci := 5) (rr := (RX6, TX6, 19)) (y' := mX6_setLocked) dX6_enter_46 lX6_138 kX6_setLocked ⟨by decide, by decide⟩ rfl rfl (by decide) ok.1.1 (Nat.le_of_ble_eq_true rfl) (cc_X6_setLocked hG ok.1.2) ?_
  have ok := ok.2
  exact cX.cutz (b_X6_enter_49 hG hR ok hx) ⟨rfl, rfl, trivial⟩
def F_X6_enter_36 (N : Nat) (x0 : Option Nat) (x1 : Int32) (S : cS) : cS := (F_X6_enter_43 N x0 x1 (f_X8_clearDecided N S (za (cR S 3 (za x0)))))
def O_X6_enter_36 (N : Nat) (x0 : Option Nat) (x1 : Int32) (S : cS) : Prop := (cis S x0 6) ∧ (cis S (cR S 3 (za x0)) 7 ∧ o_X8_clearDecided N S (za (cR S 3 (za x0)))) ∧ O_X6_enter_43 N x0 x1 (f_X8_clearDecided N S (za (cR S 3 (za x0))))
set_option maxRecDepth 100000 in
set_option maxHeartbeats 4000000 in
theorem b_X6_enter_36 {G : zG} {o : cO} {S : cS} {N : Nat} {Q : Option Value → cS → Prop} {X : cS → Prop} (hG : zOK G) (hR : ∀ S', X S' → Q none S') {x0 : Option Nat} {x1 : Int32} (ok : O_X6_enter_36 N x0 x1 S) (hx : X (F_X6_enter_36 N x0 x1 S)) : cX G o dX6_enter mX6_enter 36 [some (va_rf x0), some (.int x1)] [] S Q := by
  unfold O_X6_enter_36 at ok
  unfold F_X6_enter_36 at hx
  refine c_aload_nQ dX6_enter_36 rfl rfl ?_
  refine c_getR (C := RX6) (T := TX6) (N := 19) (ci := 5) (k := 3) ⟨rfl, inT6, by decide, fX6_77⟩ (by decide) (by decide) (by decide) dX6_enter_37 ok.1 ?_
  have ok := ok.2
  refine c_V0vE (ci := 6) (rr := (RX8, TX8, 14)) (y' := mX8_clearDecided) dX6_enter_40 lX6_99 kX8_clearDecided ⟨by decide, by decide⟩ rfl rfl (by decide) ok.1.1 (Nat.le_of_ble_eq_true rfl) (cc_X8_clearDecided hG ok.1.2) ?_
  have ok := ok.2
  exact cX.cutz (b_X6_enter_43 hG hR ok hx) ⟨rfl, rfl, trivial⟩
def F_X6_enter_12 (N : Nat) (x0 : Option Nat) (x1 : Int32) (S : cS) : cS := (if x1 = ((cI S 9 (za x0)) + (nI 1)) then (F_X6_enter_36 N x0 x1 S) else (F_X6_enter_36 N x0 x1 (f_X8_clear N S (za (cR S 3 (za x0))) ((cI S 9 (za x0)) + (nI 1)) (-1))))
def O_X6_enter_12 (N : Nat) (x0 : Option Nat) (x1 : Int32) (S : cS) : Prop := (cis S x0 6) ∧ ((x1 = ((cI S 9 (za x0)) + (nI 1)) → O_X6_enter_36 N x0 x1 S) ∧ (¬ x1 = ((cI S 9 (za x0)) + (nI 1)) → (cis S x0 6) ∧ (cis S x0 6) ∧ (cis S (cR S 3 (za x0)) 7 ∧ o_X8_clear N S (za (cR S 3 (za x0))) ((cI S 9 (za x0)) + (nI 1)) (-1)) ∧ O_X6_enter_36 N x0 x1 (f_X8_clear N S (za (cR S 3 (za x0))) ((cI S 9 (za x0)) + (nI 1)) (-1))))
set_option maxRecDepth 100000 in
set_option maxHeartbeats 4000000 in
theorem b_X6_enter_12 {G : zG} {o : cO} {S : cS} {N : Nat} {Q : Option Value → cS → Prop} {X : cS → Prop} (hG : zOK G) (hR : ∀ S', X S' → Q none S') {x0 : Option Nat} {x1 : Int32} (ok : O_X6_enter_12 N x0 x1 S) (hx : X (F_X6_enter_12 N x0 x1 S)) : cX G o dX6_enter mX6_enter 12 [some (va_rf x0), some (.int x1)] [] S Q := by
  unfold O_X6_enter_12 at ok
  unfold F_X6_enter_12 at hx
  refine c_iload_n dX6_enter_12 rfl rfl ?_
  refine c_aload_nQ dX6_enter_13 rfl rfl ?_
  refine c_getI (C := RX6) (T := TX6) (N := 19) (ci := 5) (k := 9) ⟨rfl, inT6, by decide, fX6_43⟩ (by decide) (by decide) (by decide) dX6_enter_14 ok.1 ?_
  have ok := ok.2
  refine c_iconst (v := nI 1) dX6_enter_17 (by decide) ?_
  refine c_iadd dX6_enter_18 ?_
  refine c_icmp_eq (tgt := 36) dX6_enter_19 (by decide) (fun c_19 => ?_) (fun c_19 => ?_)
  · have ok := ok.1 c_19
    have hx := xif_p c_19 hx
    exact cX.cutz (b_X6_enter_36 hG hR ok hx) ⟨rfl, rfl, trivial⟩
  · have ok := ok.2 c_19
    have hx := xif_n c_19 hx
    refine c_aload_nQ dX6_enter_22 rfl rfl ?_
    refine c_getR (C := RX6) (T := TX6) (N := 19) (ci := 5) (k := 3) ⟨rfl, inT6, by decide, fX6_77⟩ (by decide) (by decide) (by decide) dX6_enter_23 ok.1 ?_
    have ok := ok.2
    refine c_aload_nQ dX6_enter_26 rfl rfl ?_
    refine c_getI (C := RX6) (T := TX6) (N := 19) (ci := 5) (k := 9) ⟨rfl, inT6, by decide, fX6_43⟩ (by decide) (by decide) (by decide) dX6_enter_27 ok.1 ?_
    have ok := ok.2
    refine c_iconst (v := nI 1) dX6_enter_30 (by decide) ?_
    refine c_iadd dX6_enter_31 ?_
    refine c_iconst (v := -1) dX6_enter_32 (by decide) ?_
    refine c_V2vE (ci := 6) (rr := (RX8, TX8, 14)) (y' := mX8_clear) dX6_enter_33 lX6_95 kX8_clear ⟨by decide, by decide⟩ rfl rfl (by decide) ok.1.1 (Nat.le_of_ble_eq_true rfl) (cc_X8_clear hG ok.1.2) ?_
    have ok := ok.2
    exact cX.cutz (b_X6_enter_36 hG hR ok hx) ⟨rfl, rfl, trivial⟩
def F_X6_enter_0 (N : Nat) (x0 : Option Nat) (x1 : Int32) (S : cS) : cS := (F_X6_enter_12 N x0 x1 (f_X8_clear N S (za (cR S 3 (za x0))) (cI S 9 (za x0)) (-1)))
def O_X6_enter_0 (N : Nat) (x0 : Option Nat) (x1 : Int32) (S : cS) : Prop := (cis S x0 6) ∧ (cis S x0 6) ∧ (cis S (cR S 3 (za x0)) 7 ∧ o_X8_clear N S (za (cR S 3 (za x0))) (cI S 9 (za x0)) (-1)) ∧ O_X6_enter_12 N x0 x1 (f_X8_clear N S (za (cR S 3 (za x0))) (cI S 9 (za x0)) (-1))
set_option maxRecDepth 100000 in
set_option maxHeartbeats 4000000 in
theorem b_X6_enter_0 {G : zG} {o : cO} {S : cS} {N : Nat} {Q : Option Value → cS → Prop} {X : cS → Prop} (hG : zOK G) (hR : ∀ S', X S' → Q none S') {x0 : Option Nat} {x1 : Int32} (ok : O_X6_enter_0 N x0 x1 S) (hx : X (F_X6_enter_0 N x0 x1 S)) : cX G o dX6_enter mX6_enter 0 [some (va_rf x0), some (.int x1)] [] S Q := by
  unfold O_X6_enter_0 at ok
  unfold F_X6_enter_0 at hx
  refine c_aload_nQ dX6_enter_0 rfl rfl ?_
  refine c_getR (C := RX6) (T := TX6) (N := 19) (ci := 5) (k := 3) ⟨rfl, inT6, by decide, fX6_77⟩ (by decide) (by decide) (by decide) dX6_enter_1 ok.1 ?_
  have ok := ok.2
  refine c_aload_nQ dX6_enter_4 rfl rfl ?_
  refine c_getI (C := RX6) (T := TX6) (N := 19) (ci := 5) (k := 9) ⟨rfl, inT6, by decide, fX6_43⟩ (by decide) (by decide) (by decide) dX6_enter_5 ok.1 ?_
  have ok := ok.2
  refine c_iconst (v := -1) dX6_enter_8 (by decide) ?_
  refine c_V2vE (ci := 6) (rr := (RX8, TX8, 14)) (y' := mX8_clear) dX6_enter_9 lX6_95 kX8_clear ⟨by decide, by decide⟩ rfl rfl (by decide) ok.1.1 (Nat.le_of_ble_eq_true rfl) (cc_X8_clear hG ok.1.2) ?_
  have ok := ok.2
  exact cX.cutz (b_X6_enter_12 hG hR ok hx) ⟨rfl, rfl, trivial⟩
def f_X6_enter (N : Nat) (S : cS) (a0 : Nat) (x1 : Int32) : cS := F_X6_enter_0 N (some a0) x1 S
def o_X6_enter (N : Nat) (S : cS) (a0 : Nat) (x1 : Int32) : Prop := O_X6_enter_0 N (some a0) x1 S
set_option maxRecDepth 100000 in
set_option maxHeartbeats 4000000 in
theorem cc_X6_enter {G : zG} {o : cO} {S : cS} {N : Nat} (hG : zOK G) {a0 : Nat} {x1 : Int32} (ok : o_X6_enter N S a0 x1) : cCv G o dX6_enter mX6_enter [.ref a0, .int x1] S (fun S' => S' = f_X6_enter N S a0 x1) := by
  refine cC.ofX rfl (by exact Nat.le_of_ble_eq_true rfl) ?_
  show cX G o dX6_enter mX6_enter 0 [some (.ref a0), some (.int x1)] [] S _
  exact cX.cutz (b_X6_enter_0 (X := fun F => F = f_X6_enter N S a0 x1) hG (fun S' h => ⟨rfl, h⟩) ok rfl) ⟨rfl, rfl, trivial⟩
/-! X6_vote -/
def F_X6_vote_118 (N : Nat) (x3 : Option Nat) (S : cS) : Option Nat × cS := (x3, S)
def O_X6_vote_118 (N : Nat) (x3 : Option Nat) (S : cS) : Prop := True
set_option maxRecDepth 100000 in
set_option maxHeartbeats 4000000 in
theorem b_X6_vote_118 {G : zG} {o : cO} {S : cS} {N : Nat} {Q : Option Value → cS → Prop} {X : Option Nat × cS → Prop} (hG : zOK G) (hR : ∀ v S', X (v, S') → Q (some (va_rf v)) S') {x3 : Option Nat} (ok : O_X6_vote_118 N x3 S) (hx : X (F_X6_vote_118 N x3 S)) : cX G o dX6_vote mX6_vote 118 [none, none, none, some (va_rf x3)] [] S Q := by
  unfold O_X6_vote_118 at ok
  unfold F_X6_vote_118 at hx
  refine c_aload_nQ dX6_vote_118 rfl rfl ?_
  exact c_areturn rfl (Or.inl ⟨_, rfl⟩) dX6_vote_119 (hR _ _ hx)
def F_X6_vote_103 (N : Nat) (x3 : Option Nat) (S : cS) : Option Nat × cS := (F_X6_vote_118 N x3 (f_X5_writeId N (csI S 5 (za x3) (nI 1)) (za x3) (cR (csI S 5 (za x3) (nI 1)) 0 (za x3)) (nI 6)))
def O_X6_vote_103 (N : Nat) (x3 : Option Nat) (S : cS) : Prop := (cis S x3 5) ∧ (cis (csI S 5 (za x3) (nI 1)) x3 5) ∧ (cis (csI S 5 (za x3) (nI 1)) x3 5 ∧ o_X5_writeId N (csI S 5 (za x3) (nI 1)) (za x3) (cR (csI S 5 (za x3) (nI 1)) 0 (za x3)) (nI 6)) ∧ O_X6_vote_118 N x3 (f_X5_writeId N (csI S 5 (za x3) (nI 1)) (za x3) (cR (csI S 5 (za x3) (nI 1)) 0 (za x3)) (nI 6))
set_option maxRecDepth 100000 in
set_option maxHeartbeats 4000000 in
theorem b_X6_vote_103 {G : zG} {o : cO} {S : cS} {N : Nat} {Q : Option Value → cS → Prop} {X : Option Nat × cS → Prop} (hG : zOK G) (hR : ∀ v S', X (v, S') → Q (some (va_rf v)) S') {x3 : Option Nat} (ok : O_X6_vote_103 N x3 S) (hx : X (F_X6_vote_103 N x3 S)) : cX G o dX6_vote mX6_vote 103 [none, none, none, some (va_rf x3)] [] S Q := by
  unfold O_X6_vote_103 at ok
  unfold F_X6_vote_103 at hx
  refine c_aload_nQ dX6_vote_103 rfl rfl ?_
  refine c_iconst (v := nI 1) dX6_vote_104 (by decide) ?_
  refine c_putI (C := RX5) (T := TX5) (N := 7) (ci := 4) (k := 5) ⟨rfl, inT5, by decide, fX6_172⟩ ftT5 rfl (by decide) (by decide) (by decide) rfl rfl dX6_vote_105 ok.1 ?_
  have ok := ok.2
  refine c_aload_nQ dX6_vote_108 rfl rfl ?_
  refine c_aload_nQ dX6_vote_109 rfl rfl ?_
  refine c_getR (C := RX5) (T := TX5) (N := 7) (ci := 4) (k := 0) ⟨rfl, inT5, by decide, fX6_131⟩ (by decide) (by decide) (by decide) dX6_vote_110 ok.1 ?_
  have ok := ok.2
  refine c_bipush (v := nI 6) dX6_vote_113 (by decide) ?_
  refine c_V2vE (ci := 4) (rr := (RX5, TX5, 7)) (y' := mX5_writeId) dX6_vote_115 lX6_175 kX5_writeId ⟨by decide, by decide⟩ rfl rfl (by decide) ok.1.1 (Nat.le_of_ble_eq_true rfl) (cc_X5_writeId hG ok.1.2) ?_
  have ok := ok.2
  exact cX.cutz (b_X6_vote_118 hG hR ok hx) ⟨rfl, trivial⟩
def F_X6_vote_85 (N : Nat) (x2 : Option Nat) (x3 : Option Nat) (S : cS) : Option Nat × cS := (if x2 = none then (F_X6_vote_118 N x3 S) else (F_X6_vote_103 N x3 (csJrow S (za (cR S 1 (za x3))) (va_cpy (cJ S (za (cR S 1 (za x2)))) (cJ S (za (cR S 1 (za x3)))) (nI 0).toNatClampNeg (nI 0).toNatClampNeg (nI 4).toNatClampNeg))))
def O_X6_vote_85 (N : Nat) (x2 : Option Nat) (x3 : Option Nat) (S : cS) : Prop := ((x2 = none → O_X6_vote_118 N x3 S) ∧ (¬ x2 = none → (cis S x2 5) ∧ (cis S x3 5) ∧ (cis S (cR S 1 (za x2)) 22 ∧ cis S (cR S 1 (za x3)) 22 ∧ (¬ (nI 0) < 0 ∧ ¬ (nI 0) < 0 ∧ ¬ (nI 4) < 0) ∧ (nI 0).toNatClampNeg + (nI 4).toNatClampNeg ≤ cL S (za (cR S 1 (za x2))) ∧ (nI 0).toNatClampNeg + (nI 4).toNatClampNeg ≤ cL S (za (cR S 1 (za x3)))) ∧ O_X6_vote_103 N x3 (csJrow S (za (cR S 1 (za x3))) (va_cpy (cJ S (za (cR S 1 (za x2)))) (cJ S (za (cR S 1 (za x3)))) (nI 0).toNatClampNeg (nI 0).toNatClampNeg (nI 4).toNatClampNeg))))
set_option maxRecDepth 100000 in
set_option maxHeartbeats 4000000 in
theorem b_X6_vote_85 {G : zG} {o : cO} {S : cS} {N : Nat} {Q : Option Value → cS → Prop} {X : Option Nat × cS → Prop} (hG : zOK G) (hR : ∀ v S', X (v, S') → Q (some (va_rf v)) S') {x2 : Option Nat} {x3 : Option Nat} (ok : O_X6_vote_85 N x2 x3 S) (hx : X (F_X6_vote_85 N x2 x3 S)) : cX G o dX6_vote mX6_vote 85 [none, none, some (va_rf x2), some (va_rf x3)] [] S Q := by
  unfold O_X6_vote_85 at ok
  unfold F_X6_vote_85 at hx
  refine c_aload_nQ dX6_vote_85 rfl rfl ?_
  refine c_ifnullI (tgt := 118) dX6_vote_86 (by decide) (fun c_86 => ?_) (fun c_86 => ?_)
  · have ok := ok.1 c_86
    have hx := xif_p c_86 hx
    exact cX.cutz (b_X6_vote_118 hG hR ok hx) ⟨rfl, trivial⟩
  · have ok := ok.2 c_86
    have hx := xif_n c_86 hx
    refine c_aload_nQ dX6_vote_89 rfl rfl ?_
    refine c_getR (C := RX5) (T := TX5) (N := 7) (ci := 4) (k := 1) ⟨rfl, inT5, by decide, fX6_162⟩ (by decide) (by decide) (by decide) dX6_vote_90 ok.1 ?_
    have ok := ok.2
    refine c_iconst (v := nI 0) dX6_vote_93 (by decide) ?_
    refine c_aload_nQ dX6_vote_94 rfl rfl ?_
    refine c_getR (C := RX5) (T := TX5) (N := 7) (ci := 4) (k := 1) ⟨rfl, inT5, by decide, fX6_162⟩ (by decide) (by decide) (by decide) dX6_vote_95 ok.1 ?_
    have ok := ok.2
    refine c_iconst (v := nI 0) dX6_vote_98 (by decide) ?_
    refine c_iconst (v := nI 4) dX6_vote_99 (by decide) ?_
    refine c_copy2 hG dX6_vote_100 qX6_166 (by decide) (by decide) ok.1 ?_
    have ok := ok.2
    exact cX.cutz (b_X6_vote_103 hG hR ok hx) ⟨rfl, trivial⟩
def F_X6_vote_78 (N : Nat) (x2 : Option Nat) (x3 : Option Nat) (s0 : Option Nat) (s1 : Int32) (s2 : Int32) (S : cS) : Option Nat × cS := (F_X6_vote_85 N x2 x3 (csI (csA S (za s0) s1.toNatClampNeg ((s2.toInt8.toInt32).toInt8.toInt32)) 4 (za x3) (nI 1)))
def O_X6_vote_78 (N : Nat) (x2 : Option Nat) (x3 : Option Nat) (s0 : Option Nat) (s1 : Int32) (s2 : Int32) (S : cS) : Prop := (cis S s0 20 ∧ vp_in s1 (cL S (za s0))) ∧ (cis (csA S (za s0) s1.toNatClampNeg ((s2.toInt8.toInt32).toInt8.toInt32)) x3 5) ∧ O_X6_vote_85 N x2 x3 (csI (csA S (za s0) s1.toNatClampNeg ((s2.toInt8.toInt32).toInt8.toInt32)) 4 (za x3) (nI 1))
set_option maxRecDepth 100000 in
set_option maxHeartbeats 4000000 in
theorem b_X6_vote_78 {G : zG} {o : cO} {S : cS} {N : Nat} {Q : Option Value → cS → Prop} {X : Option Nat × cS → Prop} (hG : zOK G) (hR : ∀ v S', X (v, S') → Q (some (va_rf v)) S') {x2 : Option Nat} {x3 : Option Nat} {s0 : Option Nat} {s1 : Int32} {s2 : Int32} (ok : O_X6_vote_78 N x2 x3 s0 s1 s2 S) (hx : X (F_X6_vote_78 N x2 x3 s0 s1 s2 S)) : cX G o dX6_vote mX6_vote 78 [none, none, some (va_rf x2), some (va_rf x3)] [.int s2, .int s1, va_rf s0] S Q := by
  unfold O_X6_vote_78 at ok
  unfold F_X6_vote_78 at hx
  refine c_i2b dX6_vote_78 ?_
  refine c_bast dX6_vote_79 ok.1 ?_
  have ok := ok.2
  refine c_aload_nQ dX6_vote_80 rfl rfl ?_
  refine c_iconst (v := nI 1) dX6_vote_81 (by decide) ?_
  refine c_putI (C := RX5) (T := TX5) (N := 7) (ci := 4) (k := 4) ⟨rfl, inT5, by decide, fX6_159⟩ ftT5 rfl (by decide) (by decide) (by decide) rfl rfl dX6_vote_82 ok.1 ?_
  have ok := ok.2
  exact cX.cutz (b_X6_vote_85 hG hR ok hx) ⟨rfl, rfl, trivial⟩
def F_X6_vote_53 (N : Nat) (x0 : Option Nat) (x2 : Option Nat) (x3 : Option Nat) (S : cS) : Option Nat × cS := (if x2 = none then (F_X6_vote_78 N x2 x3 (cR (csA S (za (cR S 0 (za x3))) (nI 4).toNatClampNeg (((cI S 10 (za x0)).toInt8.toInt32).toInt8.toInt32)) 0 (za x3)) (nI 5) (nI 0) (csA S (za (cR S 0 (za x3))) (nI 4).toNatClampNeg (((cI S 10 (za x0)).toInt8.toInt32).toInt8.toInt32))) else (F_X6_vote_78 N x2 x3 (cR (csA S (za (cR S 0 (za x3))) (nI 4).toNatClampNeg (((cI S 10 (za x0)).toInt8.toInt32).toInt8.toInt32)) 0 (za x3)) (nI 5) (nI 1) (csA S (za (cR S 0 (za x3))) (nI 4).toNatClampNeg (((cI S 10 (za x0)).toInt8.toInt32).toInt8.toInt32))))
def O_X6_vote_53 (N : Nat) (x0 : Option Nat) (x2 : Option Nat) (x3 : Option Nat) (S : cS) : Prop := (cis S x3 5) ∧ (cis S x0 6) ∧ (cis S (cR S 0 (za x3)) 20 ∧ vp_in (nI 4) (cL S (za (cR S 0 (za x3))))) ∧ (cis (csA S (za (cR S 0 (za x3))) (nI 4).toNatClampNeg (((cI S 10 (za x0)).toInt8.toInt32).toInt8.toInt32)) x3 5) ∧ ((x2 = none → O_X6_vote_78 N x2 x3 (cR (csA S (za (cR S 0 (za x3))) (nI 4).toNatClampNeg (((cI S 10 (za x0)).toInt8.toInt32).toInt8.toInt32)) 0 (za x3)) (nI 5) (nI 0) (csA S (za (cR S 0 (za x3))) (nI 4).toNatClampNeg (((cI S 10 (za x0)).toInt8.toInt32).toInt8.toInt32))) ∧ (¬ x2 = none → O_X6_vote_78 N x2 x3 (cR (csA S (za (cR S 0 (za x3))) (nI 4).toNatClampNeg (((cI S 10 (za x0)).toInt8.toInt32).toInt8.toInt32)) 0 (za x3)) (nI 5) (nI 1) (csA S (za (cR S 0 (za x3))) (nI 4).toNatClampNeg (((cI S 10 (za x0)).toInt8.toInt32).toInt8.toInt32))))
set_option maxRecDepth 100000 in
set_option maxHeartbeats 4000000 in
theorem b_X6_vote_53 {G : zG} {o : cO} {S : cS} {N : Nat} {Q : Option Value → cS → Prop} {X : Option Nat × cS → Prop} (hG : zOK G) (hR : ∀ v S', X (v, S') → Q (some (va_rf v)) S') {x0 : Option Nat} {x2 : Option Nat} {x3 : Option Nat} (ok : O_X6_vote_53 N x0 x2 x3 S) (hx : X (F_X6_vote_53 N x0 x2 x3 S)) : cX G o dX6_vote mX6_vote 53 [some (va_rf x0), none, some (va_rf x2), some (va_rf x3)] [] S Q := by
  unfold O_X6_vote_53 at ok
  unfold F_X6_vote_53 at hx
  refine c_aload_nQ dX6_vote_53 rfl rfl ?_
  refine c_getR (C := RX5) (T := TX5) (N := 7) (ci := 4) (k := 0) ⟨rfl, inT5, by decide, fX6_131⟩ (by decide) (by decide) (by decide) dX6_vote_54 ok.1 ?_
  have ok := ok.2
  refine c_iconst (v := nI 4) dX6_vote_57 (by decide) ?_
  refine c_aload_nQ dX6_vote_58 rfl rfl ?_
  refine c_getI (C := RX6) (T := TX6) (N := 19) (ci := 5) (k := 10) ⟨rfl, inT6, by decide, fX6_86⟩ (by decide) (by decide) (by decide) dX6_vote_59 ok.1 ?_
  have ok := ok.2
  refine c_i2b dX6_vote_62 ?_
  refine c_bast dX6_vote_63 ok.1 ?_
  have ok := ok.2
  refine c_aload_nQ dX6_vote_64 rfl rfl ?_
  refine c_getR (C := RX5) (T := TX5) (N := 7) (ci := 4) (k := 0) ⟨rfl, inT5, by decide, fX6_131⟩ (by decide) (by decide) (by decide) dX6_vote_65 ok.1 ?_
  have ok := ok.2
  refine c_iconst (v := nI 5) dX6_vote_68 (by decide) ?_
  refine c_aload_nQ dX6_vote_69 rfl rfl ?_
  refine c_ifnonnullI (tgt := 77) dX6_vote_70 (by decide) (fun c_70 => ?_) (fun c_70 => ?_)
  · have ok := ok.2 c_70
    have hx := xif_n c_70 hx
    refine c_iconst (v := nI 1) dX6_vote_77 (by decide) ?_
    exact cX.cutz (b_X6_vote_78 hG hR ok hx) ⟨rfl, rfl, trivial⟩
  · have ok := ok.1 c_70
    have hx := xif_p c_70 hx
    refine c_iconst (v := nI 0) dX6_vote_73 (by decide) ?_
    refine c_goto (tgt := 78) dX6_vote_74 (by decide) ?_
    exact cX.cutz (b_X6_vote_78 hG hR ok hx) ⟨rfl, rfl, trivial⟩
def F_X6_vote_41 (N : Nat) (x0 : Option Nat) (x2 : Option Nat) (x3 : Option Nat) (S : cS) : Option Nat × cS := (F_X6_vote_53 N x0 x2 x3 (f_X11_putTwo N S (cR S 0 (za x3)) (nI 2) (cI S 9 (za x0))))
def O_X6_vote_41 (N : Nat) (x0 : Option Nat) (x2 : Option Nat) (x3 : Option Nat) (S : cS) : Prop := (cis S x3 5) ∧ (cis S x0 6) ∧ (o_X11_putTwo N S (cR S 0 (za x3)) (nI 2) (cI S 9 (za x0))) ∧ O_X6_vote_53 N x0 x2 x3 (f_X11_putTwo N S (cR S 0 (za x3)) (nI 2) (cI S 9 (za x0)))
set_option maxRecDepth 100000 in
set_option maxHeartbeats 4000000 in
theorem b_X6_vote_41 {G : zG} {o : cO} {S : cS} {N : Nat} {Q : Option Value → cS → Prop} {X : Option Nat × cS → Prop} (hG : zOK G) (hR : ∀ v S', X (v, S') → Q (some (va_rf v)) S') {x0 : Option Nat} {x2 : Option Nat} {x3 : Option Nat} (ok : O_X6_vote_41 N x0 x2 x3 S) (hx : X (F_X6_vote_41 N x0 x2 x3 S)) : cX G o dX6_vote mX6_vote 41 [some (va_rf x0), none, some (va_rf x2), some (va_rf x3)] [] S Q := by
  unfold O_X6_vote_41 at ok
  unfold F_X6_vote_41 at hx
  refine c_aload_nQ dX6_vote_41 rfl rfl ?_
  refine c_getR (C := RX5) (T := TX5) (N := 7) (ci := 4) (k := 0) ⟨rfl, inT5, by decide, fX6_131⟩ (by decide) (by decide) (by decide) dX6_vote_42 ok.1 ?_
  have ok := ok.2
  refine c_iconst (v := nI 2) dX6_vote_45 (by decide) ?_
  refine c_aload_nQ dX6_vote_46 rfl rfl ?_
  refine c_getI (C := RX6) (T := TX6) (N := 19) (ci := 5) (k := 9) ⟨rfl, inT6, by decide, fX6_43⟩ (by decide) (by decide) (by decide) dX6_vote_47 ok.1 ?_
  have ok := ok.2
  refine c_SN3vE (y' := mX11_putTwo) dX6_vote_50 lX6_134 kX11_putTwo ⟨by decide, by decide⟩ (Nat.le_of_ble_eq_true rfl) (cc_X11_putTwo hG ok.1) ?_
  have ok := ok.2
  exact cX.cutz (b_X6_vote_53 hG hR ok hx) ⟨rfl, rfl, rfl, trivial⟩
def F_X6_vote_21 (N : Nat) (x0 : Option Nat) (x1 : Int32) (x2 : Option Nat) (s0 : Option Nat) (S : cS) : Option Nat × cS := (F_X6_vote_41 N x0 x2 s0 (csA (csA S (za (cR S 0 (za s0))) (nI 0).toNatClampNeg ((x1.toInt8.toInt32).toInt8.toInt32)) (za (cR (csA S (za (cR S 0 (za s0))) (nI 0).toNatClampNeg ((x1.toInt8.toInt32).toInt8.toInt32)) 0 (za s0))) (nI 1).toNatClampNeg (((cI (csA S (za (cR S 0 (za s0))) (nI 0).toNatClampNeg ((x1.toInt8.toInt32).toInt8.toInt32)) 1 (za x0)).toInt8.toInt32).toInt8.toInt32)))
def O_X6_vote_21 (N : Nat) (x0 : Option Nat) (x1 : Int32) (x2 : Option Nat) (s0 : Option Nat) (S : cS) : Prop := (cis S s0 5) ∧ (cis S (cR S 0 (za s0)) 20 ∧ vp_in (nI 0) (cL S (za (cR S 0 (za s0))))) ∧ (cis (csA S (za (cR S 0 (za s0))) (nI 0).toNatClampNeg ((x1.toInt8.toInt32).toInt8.toInt32)) s0 5) ∧ (cis (csA S (za (cR S 0 (za s0))) (nI 0).toNatClampNeg ((x1.toInt8.toInt32).toInt8.toInt32)) x0 6) ∧ (cis (csA S (za (cR S 0 (za s0))) (nI 0).toNatClampNeg ((x1.toInt8.toInt32).toInt8.toInt32)) (cR (csA S (za (cR S 0 (za s0))) (nI 0).toNatClampNeg ((x1.toInt8.toInt32).toInt8.toInt32)) 0 (za s0)) 20 ∧ vp_in (nI 1) (cL (csA S (za (cR S 0 (za s0))) (nI 0).toNatClampNeg ((x1.toInt8.toInt32).toInt8.toInt32)) (za (cR (csA S (za (cR S 0 (za s0))) (nI 0).toNatClampNeg ((x1.toInt8.toInt32).toInt8.toInt32)) 0 (za s0))))) ∧ O_X6_vote_41 N x0 x2 s0 (csA (csA S (za (cR S 0 (za s0))) (nI 0).toNatClampNeg ((x1.toInt8.toInt32).toInt8.toInt32)) (za (cR (csA S (za (cR S 0 (za s0))) (nI 0).toNatClampNeg ((x1.toInt8.toInt32).toInt8.toInt32)) 0 (za s0))) (nI 1).toNatClampNeg (((cI (csA S (za (cR S 0 (za s0))) (nI 0).toNatClampNeg ((x1.toInt8.toInt32).toInt8.toInt32)) 1 (za x0)).toInt8.toInt32).toInt8.toInt32))
set_option maxRecDepth 100000 in
set_option maxHeartbeats 4000000 in
theorem b_X6_vote_21 {G : zG} {o : cO} {S : cS} {N : Nat} {Q : Option Value → cS → Prop} {X : Option Nat × cS → Prop} (hG : zOK G) (hR : ∀ v S', X (v, S') → Q (some (va_rf v)) S') {x0 : Option Nat} {x1 : Int32} {x2 : Option Nat} {s0 : Option Nat} (ok : O_X6_vote_21 N x0 x1 x2 s0 S) (hx : X (F_X6_vote_21 N x0 x1 x2 s0 S)) : cX G o dX6_vote mX6_vote 21 [some (va_rf x0), some (.int x1), some (va_rf x2), none] [va_rf s0] S Q := by
  unfold O_X6_vote_21 at ok
  unfold F_X6_vote_21 at hx
  refine c_astore_3Q dX6_vote_21 (by decide) (by simp [zok, zg, zcat_rf]) ?_
  refine c_aload_nQ dX6_vote_22 rfl rfl ?_
  refine c_getR (C := RX5) (T := TX5) (N := 7) (ci := 4) (k := 0) ⟨rfl, inT5, by decide, fX6_131⟩ (by decide) (by decide) (by decide) dX6_vote_23 ok.1 ?_
  have ok := ok.2
  refine c_iconst (v := nI 0) dX6_vote_26 (by decide) ?_
  refine c_iload_n dX6_vote_27 rfl rfl ?_
  refine c_i2b dX6_vote_28 ?_
  refine c_bast dX6_vote_29 ok.1 ?_
  have ok := ok.2
  refine c_aload_nQ dX6_vote_30 rfl rfl ?_
  refine c_getR (C := RX5) (T := TX5) (N := 7) (ci := 4) (k := 0) ⟨rfl, inT5, by decide, fX6_131⟩ (by decide) (by decide) (by decide) dX6_vote_31 ok.1 ?_
  have ok := ok.2
  refine c_iconst (v := nI 1) dX6_vote_34 (by decide) ?_
  refine c_aload_nQ dX6_vote_35 rfl rfl ?_
  refine c_getI (C := RX6) (T := TX6) (N := 19) (ci := 5) (k := 1) ⟨rfl, inT6, by decide, fX6_60⟩ (by decide) (by decide) (by decide) dX6_vote_36 ok.1 ?_
  have ok := ok.2
  refine c_i2b dX6_vote_39 ?_
  refine c_bast dX6_vote_40 ok.1 ?_
  have ok := ok.2
  exact cX.cutz (b_X6_vote_41 hG hR ok hx) ⟨rfl, rfl, rfl, trivial⟩
def F_X6_vote_18 (N : Nat) (x0 : Option Nat) (x1 : Int32) (x2 : Option Nat) (s0 : Option Nat) (s1 : Int32) (S : cS) : Option Nat × cS := (F_X6_vote_21 N x0 x1 x2 ((f_X9_fresh N S (za s0) s1).1) (f_X9_fresh N S (za s0) s1).2)
def O_X6_vote_18 (N : Nat) (x0 : Option Nat) (x1 : Int32) (x2 : Option Nat) (s0 : Option Nat) (s1 : Int32) (S : cS) : Prop := (cis S s0 8 ∧ o_X9_fresh N S (za s0) s1) ∧ O_X6_vote_21 N x0 x1 x2 ((f_X9_fresh N S (za s0) s1).1) (f_X9_fresh N S (za s0) s1).2
set_option maxRecDepth 100000 in
set_option maxHeartbeats 4000000 in
theorem b_X6_vote_18 {G : zG} {o : cO} {S : cS} {N : Nat} {Q : Option Value → cS → Prop} {X : Option Nat × cS → Prop} (hG : zOK G) (hR : ∀ v S', X (v, S') → Q (some (va_rf v)) S') {x0 : Option Nat} {x1 : Int32} {x2 : Option Nat} {s0 : Option Nat} {s1 : Int32} (ok : O_X6_vote_18 N x0 x1 x2 s0 s1 S) (hx : X (F_X6_vote_18 N x0 x1 x2 s0 s1 S)) : cX G o dX6_vote mX6_vote 18 [some (va_rf x0), some (.int x1), some (va_rf x2), none] [.int s1, va_rf s0] S Q := by
  unfold O_X6_vote_18 at ok
  unfold F_X6_vote_18 at hx
  refine c_V1qE (ci := 7) (rr := (RX9, TX9, 13)) (y' := mX9_fresh) dX6_vote_18 lX6_127 kX9_fresh ⟨by decide, by decide⟩ rfl rfl (by decide) ok.1.1 (Nat.le_of_ble_eq_true rfl) (cc_X9_fresh hG ok.1.2) ?_
  have ok := ok.2
  exact cX.cutz (b_X6_vote_21 hG hR ok hx) ⟨rfl, rfl, rfl, trivial⟩
def F_X6_vote_0 (N : Nat) (x0 : Option Nat) (x1 : Int32) (x2 : Option Nat) (S : cS) : Option Nat × cS := (if x2 = none then (F_X6_vote_18 N x0 x1 x2 (cR S 6 (za (cR S 0 (za x0)))) (nI 6) S) else (F_X6_vote_18 N x0 x1 x2 (cR S 6 (za (cR S 0 (za x0)))) (nI 38) S))
def O_X6_vote_0 (N : Nat) (x0 : Option Nat) (x1 : Int32) (x2 : Option Nat) (S : cS) : Prop := (cis S x0 6) ∧ (cis S (cR S 0 (za x0)) 9) ∧ ((x2 = none → O_X6_vote_18 N x0 x1 x2 (cR S 6 (za (cR S 0 (za x0)))) (nI 6) S) ∧ (¬ x2 = none → O_X6_vote_18 N x0 x1 x2 (cR S 6 (za (cR S 0 (za x0)))) (nI 38) S))
set_option maxRecDepth 100000 in
set_option maxHeartbeats 4000000 in
theorem b_X6_vote_0 {G : zG} {o : cO} {S : cS} {N : Nat} {Q : Option Value → cS → Prop} {X : Option Nat × cS → Prop} (hG : zOK G) (hR : ∀ v S', X (v, S') → Q (some (va_rf v)) S') {x0 : Option Nat} {x1 : Int32} {x2 : Option Nat} (ok : O_X6_vote_0 N x0 x1 x2 S) (hx : X (F_X6_vote_0 N x0 x1 x2 S)) : cX G o dX6_vote mX6_vote 0 [some (va_rf x0), some (.int x1), some (va_rf x2), none] [] S Q := by
  unfold O_X6_vote_0 at ok
  unfold F_X6_vote_0 at hx
  refine c_aload_nQ dX6_vote_0 rfl rfl ?_
  refine c_getR (C := RX6) (T := TX6) (N := 19) (ci := 5) (k := 0) ⟨rfl, inT6, by decide, fX6_56⟩ (by decide) (by decide) (by decide) dX6_vote_1 ok.1 ?_
  have ok := ok.2
  refine c_getR (C := RX10) (T := TX10) (N := 12) (ci := 8) (k := 6) ⟨rfl, inT10, by decide, fX6_65⟩ (by decide) (by decide) (by decide) dX6_vote_4 ok.1 ?_
  have ok := ok.2
  refine c_aload_nQ dX6_vote_7 rfl rfl ?_
  refine c_ifnonnullI (tgt := 16) dX6_vote_8 (by decide) (fun c_8 => ?_) (fun c_8 => ?_)
  · have ok := ok.2 c_8
    have hx := xif_n c_8 hx
    refine c_bipush (v := nI 38) dX6_vote_16 (by decide) ?_
    exact cX.cutz (b_X6_vote_18 hG hR ok hx) ⟨rfl, rfl, rfl, trivial⟩
  · have ok := ok.1 c_8
    have hx := xif_p c_8 hx
    refine c_bipush (v := nI 6) dX6_vote_11 (by decide) ?_
    refine c_goto (tgt := 18) dX6_vote_13 (by decide) ?_
    exact cX.cutz (b_X6_vote_18 hG hR ok hx) ⟨rfl, rfl, rfl, trivial⟩
def f_X6_vote (N : Nat) (S : cS) (a0 : Nat) (x1 : Int32) (x2 : Option Nat) : Option Nat × cS := F_X6_vote_0 N (some a0) x1 x2 S
def o_X6_vote (N : Nat) (S : cS) (a0 : Nat) (x1 : Int32) (x2 : Option Nat) : Prop := O_X6_vote_0 N (some a0) x1 x2 S
set_option maxRecDepth 100000 in
set_option maxHeartbeats 4000000 in
theorem cc_X6_vote {G : zG} {o : cO} {S : cS} {N : Nat} (hG : zOK G) {a0 : Nat} {x1 : Int32} {x2 : Option Nat} (ok : o_X6_vote N S a0 x1 x2) : cCq G o dX6_vote mX6_vote [.ref a0, .int x1, va_rf x2] S (fun v S' => v = (f_X6_vote N S a0 x1 x2).1 ∧ S' = (f_X6_vote N S a0 x1 x2).2) := by
  refine cC.ofX rfl (by cases x2 <;> exact Nat.le_of_ble_eq_true rfl) ?_
  rw [show zargs mX6_vote.2.2.1 [.ref a0, .int x1, va_rf x2] = [some (.ref a0), some (.int x1), some (va_rf x2), none] from by cases x2 <;> rfl]
  exact cX.cutz (b_X6_vote_0 (X := fun F => F = f_X6_vote N S a0 x1 x2) hG (fun v S' h => ⟨v, rfl, by rw [← h], by rw [← h]⟩) ok rfl) ⟨rfl, rfl, rfl, trivial⟩
/-! X6_forgetAnswers -/
def F_X6_forgetAnswers_47 (N : Nat)  (S : cS) : cS := S
def O_X6_forgetAnswers_47 (N : Nat)  (S : cS) : Prop := True
set_option maxRecDepth 100000 in
set_option maxHeartbeats 4000000 in
theorem b_X6_forgetAnswers_47 {G : zG} {o : cO} {S : cS} {N : Nat} {Q : Option Value → cS → Prop} {X : cS → Prop} (hG : zOK G) (hR : ∀ S', X S' → Q none S') (ok : O_X6_forgetAnswers_47 N S) (hx : X (F_X6_forgetAnswers_47 N S)) : cX G o dX6_forgetAnswers mX6_forgetAnswers 47 [none, none, none, none] [] S Q := by
  unfold O_X6_forgetAnswers_47 at ok
  unfold F_X6_forgetAnswers_47 at hx
  exact c_return rfl dX6_forgetAnswers_47 (hR _ hx)
def F_X6_forgetAnswers_32 (N : Nat) (rec : Option Nat → Int32 → Int32 → Int32 → cS → Nat × cS) (x0 : Option Nat) (x1 : Int32) (x2 : Int32) (x3 : Int32) (S : cS) : Nat × cS := (rec x0 x1 x2 (x3 + nI 1) (csP S (za (cR S 7 (za x0))) (x3 &&& (nI 3)).toNatClampNeg (none : Option Nat)))
def O_X6_forgetAnswers_32 (N : Nat) (rok : Option Nat → Int32 → Int32 → Int32 → cS → Prop) (x0 : Option Nat) (x1 : Int32) (x2 : Int32) (x3 : Int32) (S : cS) : Prop := (cis S x0 6) ∧ (cis S (cR S 7 (za x0)) 24 ∧ vp_in (x3 &&& (nI 3)) (cL S (za (cR S 7 (za x0)))) ∧ ((none : Option Nat) = none ∨ cis S (none : Option Nat) 5)) ∧ rok x0 x1 x2 (x3 + nI 1) (csP S (za (cR S 7 (za x0))) (x3 &&& (nI 3)).toNatClampNeg (none : Option Nat))
set_option maxRecDepth 100000 in
set_option maxHeartbeats 4000000 in
theorem b_X6_forgetAnswers_32 {G : zG} {o : cO} {S : cS} {N : Nat} {Q : Option Value → cS → Prop} {X : Nat × cS → Prop} (hG : zOK G) (hX0 : ∀ (S' : cS), X (0, S') → cX G o dX6_forgetAnswers mX6_forgetAnswers 47 [none, none, none, none] [] S' Q) {rec : Option Nat → Int32 → Int32 → Int32 → cS → Nat × cS} {rok : Option Nat → Int32 → Int32 → Int32 → cS → Prop} (hrec : ∀ (x0 : Option Nat) (x1 : Int32) (x2 : Int32) (x3 : Int32) (S : cS), rok x0 x1 x2 x3 S → X (rec x0 x1 x2 x3 S) → cX G o dX6_forgetAnswers mX6_forgetAnswers 2 [some (va_rf x0), some (.int x1), some (.int x2), some (.int x3)] [] S Q) {x0 : Option Nat} {x1 : Int32} {x2 : Int32} {x3 : Int32} (ok : O_X6_forgetAnswers_32 N rok x0 x1 x2 x3 S) (hx : X (F_X6_forgetAnswers_32 N rec x0 x1 x2 x3 S)) : cX G o dX6_forgetAnswers mX6_forgetAnswers 32 [some (va_rf x0), some (.int x1), some (.int x2), some (.int x3)] [] S Q := by
  unfold O_X6_forgetAnswers_32 at ok
  unfold F_X6_forgetAnswers_32 at hx
  refine c_aload_nQ dX6_forgetAnswers_32 rfl rfl ?_
  refine c_getR (C := RX6) (T := TX6) (N := 19) (ci := 5) (k := 7) ⟨rfl, inT6, by decide, fX6_35⟩ (by decide) (by decide) (by decide) dX6_forgetAnswers_33 ok.1 ?_
  have ok := ok.2
  refine c_iload_n dX6_forgetAnswers_36 rfl rfl ?_
  refine c_iconst (v := nI 3) dX6_forgetAnswers_37 (by decide) ?_
  refine c_iand dX6_forgetAnswers_38 ?_
  refine c_null' dX6_forgetAnswers_39 ?_
  refine c_aast (t := 4) (ci := 4) (rr := (RX5, TX5, 7)) rfl rfl (by decide) (by decide) dX6_forgetAnswers_40 ok.1 ?_
  have ok := ok.2
  refine c_iinc_3 (v := (x3 + nI 1)) dX6_forgetAnswers_41 rfl (by first | rfl | (congr 1)) (by decide) rfl ?_
  refine c_goto (tgt := 2) dX6_forgetAnswers_44 (by decide) ?_
  exact cX.cutz (hrec _ _ _ _ (csP S (za (cR S 7 (za x0))) (x3 &&& (nI 3)).toNatClampNeg (none : Option Nat)) ok hx) ⟨rfl, rfl, rfl, rfl, trivial⟩
def B_X6_forgetAnswers_2 (N : Nat) (rec : Option Nat → Int32 → Int32 → Int32 → cS → Nat × cS) (x0 : Option Nat) (x1 : Int32) (x2 : Int32) (x3 : Int32) (S : cS) : Nat × cS := (if x2 ≤ x3 then (0, S) else (if (x1 + (nI 4)) ≤ x3 then (0, S) else (F_X6_forgetAnswers_32 N rec x0 x1 x2 x3 (f_X9_drop N S (za (cR S 6 (za (cR S 0 (za x0))))) (cP S (za (cR S 7 (za x0))) (x3 &&& (nI 3)).toNatClampNeg)))))
def OB_X6_forgetAnswers_2 (N : Nat) (rok : Option Nat → Int32 → Int32 → Int32 → cS → Prop) (x0 : Option Nat) (x1 : Int32) (x2 : Int32) (x3 : Int32) (S : cS) : Prop := ((x2 ≤ x3 → True) ∧ (¬ x2 ≤ x3 → (((x1 + (nI 4)) ≤ x3 → True) ∧ (¬ (x1 + (nI 4)) ≤ x3 → (cis S x0 6) ∧ (cis S (cR S 0 (za x0)) 9) ∧ (cis S x0 6) ∧ (cis S (cR S 7 (za x0)) 24 ∧ vp_in (x3 &&& (nI 3)) (cL S (za (cR S 7 (za x0))))) ∧ (cis S (cR S 6 (za (cR S 0 (za x0)))) 8 ∧ o_X9_drop N S (za (cR S 6 (za (cR S 0 (za x0))))) (cP S (za (cR S 7 (za x0))) (x3 &&& (nI 3)).toNatClampNeg)) ∧ O_X6_forgetAnswers_32 N rok x0 x1 x2 x3 (f_X9_drop N S (za (cR S 6 (za (cR S 0 (za x0))))) (cP S (za (cR S 7 (za x0))) (x3 &&& (nI 3)).toNatClampNeg))))))
set_option maxRecDepth 100000 in
set_option maxHeartbeats 4000000 in
theorem bb_X6_forgetAnswers_2 {G : zG} {o : cO} {S : cS} {N : Nat} {Q : Option Value → cS → Prop} {X : Nat × cS → Prop} (hG : zOK G) (hX0 : ∀ (S' : cS), X (0, S') → cX G o dX6_forgetAnswers mX6_forgetAnswers 47 [none, none, none, none] [] S' Q) {rec : Option Nat → Int32 → Int32 → Int32 → cS → Nat × cS} {rok : Option Nat → Int32 → Int32 → Int32 → cS → Prop} (hrec : ∀ (x0 : Option Nat) (x1 : Int32) (x2 : Int32) (x3 : Int32) (S : cS), rok x0 x1 x2 x3 S → X (rec x0 x1 x2 x3 S) → cX G o dX6_forgetAnswers mX6_forgetAnswers 2 [some (va_rf x0), some (.int x1), some (.int x2), some (.int x3)] [] S Q) {x0 : Option Nat} {x1 : Int32} {x2 : Int32} {x3 : Int32} (ok : OB_X6_forgetAnswers_2 N rok x0 x1 x2 x3 S) (hx : X (B_X6_forgetAnswers_2 N rec x0 x1 x2 x3 S)) : cX G o dX6_forgetAnswers mX6_forgetAnswers 2 [some (va_rf x0), some (.int x1), some (.int x2), some (.int x3)] [] S Q := by
  unfold OB_X6_forgetAnswers_2 at ok
  unfold B_X6_forgetAnswers_2 at hx
  refine c_iload_n dX6_forgetAnswers_2 rfl rfl ?_
  refine c_iload_n dX6_forgetAnswers_3 rfl rfl ?_
  refine c_icmp_ge (tgt := 47) dX6_forgetAnswers_4 (by decide) (fun c_4 => ?_) (fun c_4 => ?_)
  · have ok := ok.1 c_4
    have hx := xif_p c_4 hx
    exact cX.cutz (hX0 S hx) trivial
  · have ok := ok.2 c_4
    have hx := xif_n c_4 hx
    refine c_iload_n dX6_forgetAnswers_7 rfl rfl ?_
    refine c_iload_n dX6_forgetAnswers_8 rfl rfl ?_
    refine c_iconst (v := nI 4) dX6_forgetAnswers_9 (by decide) ?_
    refine c_iadd dX6_forgetAnswers_10 ?_
    refine c_icmp_ge (tgt := 47) dX6_forgetAnswers_11 (by decide) (fun c_11 => ?_) (fun c_11 => ?_)
    · have ok := ok.1 c_11
      have hx := xif_p c_11 hx
      exact cX.cutz (hX0 S hx) trivial
    · have ok := ok.2 c_11
      have hx := xif_n c_11 hx
      refine c_aload_nQ dX6_forgetAnswers_14 rfl rfl ?_
      refine c_getR (C := RX6) (T := TX6) (N := 19) (ci := 5) (k := 0) ⟨rfl, inT6, by decide, fX6_56⟩ (by decide) (by decide) (by decide) dX6_forgetAnswers_15 ok.1 ?_
      have ok := ok.2
      refine c_getR (C := RX10) (T := TX10) (N := 12) (ci := 8) (k := 6) ⟨rfl, inT10, by decide, fX6_65⟩ (by decide) (by decide) (by decide) dX6_forgetAnswers_18 ok.1 ?_
      have ok := ok.2
      refine c_aload_nQ dX6_forgetAnswers_21 rfl rfl ?_
      refine c_getR (C := RX6) (T := TX6) (N := 19) (ci := 5) (k := 7) ⟨rfl, inT6, by decide, fX6_35⟩ (by decide) (by decide) (by decide) dX6_forgetAnswers_22 ok.1 ?_
      have ok := ok.2
      refine c_iload_n dX6_forgetAnswers_25 rfl rfl ?_
      refine c_iconst (v := nI 3) dX6_forgetAnswers_26 (by decide) ?_
      refine c_iand dX6_forgetAnswers_27 ?_
      refine c_aald (t := 4) (ty := (.object "QuorumLedger$Message")) rfl rfl (by decide) dX6_forgetAnswers_28 ok.1 ?_
      have ok := ok.2
      refine c_V1vE (ci := 7) (rr := (RX9, TX9, 13)) (y' := mX9_drop) dX6_forgetAnswers_29 lX6_123 kX9_drop ⟨by decide, by decide⟩ rfl rfl (by decide) ok.1.1 (Nat.le_of_ble_eq_true rfl) (cc_X9_drop hG ok.1.2) ?_
      have ok := ok.2
      exact cX.cutz (b_X6_forgetAnswers_32 hG hX0 hrec ok hx) ⟨rfl, rfl, rfl, rfl, trivial⟩
def L_X6_forgetAnswers_2 (N : Nat) : Nat → Option Nat → Int32 → Int32 → Int32 → cS → Nat × cS
  | 0, x0, x1, x2, x3, S => (0, S)
  | n + 1, x0, x1, x2, x3, S => B_X6_forgetAnswers_2 N (L_X6_forgetAnswers_2 N n) x0 x1 x2 x3 S
def OL_X6_forgetAnswers_2 (N : Nat) : Nat → Option Nat → Int32 → Int32 → Int32 → cS → Prop
  | 0, _, _, _, _, _ => False
  | n + 1, x0, x1, x2, x3, S => OB_X6_forgetAnswers_2 N (OL_X6_forgetAnswers_2 N n) x0 x1 x2 x3 S
set_option maxRecDepth 100000 in
set_option maxHeartbeats 4000000 in
theorem l_X6_forgetAnswers_2 {G : zG} {o : cO} {N : Nat} {Q : Option Value → cS → Prop} {X : Nat × cS → Prop} (hG : zOK G) (hX0 : ∀ (S' : cS), X (0, S') → cX G o dX6_forgetAnswers mX6_forgetAnswers 47 [none, none, none, none] [] S' Q) : ∀ (n : Nat) (x0 : Option Nat) (x1 : Int32) (x2 : Int32) (x3 : Int32) (S : cS), OL_X6_forgetAnswers_2 N n x0 x1 x2 x3 S → X (L_X6_forgetAnswers_2 N n x0 x1 x2 x3 S) → cX G o dX6_forgetAnswers mX6_forgetAnswers 2 [some (va_rf x0), some (.int x1), some (.int x2), some (.int x3)] [] S Q := by
  intro n
  induction n with
  | zero => intro x0 x1 x2 x3 S ok; exact absurd ok id
  | succ n ih =>
    intro x0 x1 x2 x3 S ok hx
    exact bb_X6_forgetAnswers_2 hG hX0 (rec := L_X6_forgetAnswers_2 N n) (rok := OL_X6_forgetAnswers_2 N n) (fun x0 x1 x2 x3 S ok hx => ih x0 x1 x2 x3 S ok hx) ok hx
def A_X6_forgetAnswers_2 (N : Nat) (x0 : Option Nat) (x1 : Int32) (x2 : Int32) (x3 : Int32) (S : cS) (z : Nat × cS) : cS := (F_X6_forgetAnswers_47 N z.2)
def OA_X6_forgetAnswers_2 (N : Nat) (x0 : Option Nat) (x1 : Int32) (x2 : Int32) (x3 : Int32) (S : cS) (z : Nat × cS) : Prop := O_X6_forgetAnswers_47 N z.2
set_option maxRecDepth 100000 in
set_option maxHeartbeats 4000000 in
theorem c_X6_forgetAnswers_2 {G : zG} {o : cO} {S : cS} {N : Nat} {Q : Option Value → cS → Prop} {X : cS → Prop} (hG : zOK G) (hR : ∀ S', X S' → Q none S') {x0 : Option Nat} {x1 : Int32} {x2 : Int32} {x3 : Int32} (ok : OL_X6_forgetAnswers_2 N N x0 x1 x2 x3 S ∧ OA_X6_forgetAnswers_2 N x0 x1 x2 x3 S (L_X6_forgetAnswers_2 N N x0 x1 x2 x3 S)) (hx : X (A_X6_forgetAnswers_2 N x0 x1 x2 x3 S (L_X6_forgetAnswers_2 N N x0 x1 x2 x3 S))) : cX G o dX6_forgetAnswers mX6_forgetAnswers 2 [some (va_rf x0), some (.int x1), some (.int x2), some (.int x3)] [] S Q := by
  refine l_X6_forgetAnswers_2 hG ?_ N x0 x1 x2 x3 S ok.1 (X := fun z => OA_X6_forgetAnswers_2 N x0 x1 x2 x3 S z ∧ X (A_X6_forgetAnswers_2 N x0 x1 x2 x3 S z)) ⟨ok.2, hx⟩
  · intro S' hz
    obtain ⟨ok, hx⟩ := hz
    unfold OA_X6_forgetAnswers_2 at ok
    unfold A_X6_forgetAnswers_2 at hx
    exact cX.cutz (b_X6_forgetAnswers_47 hG hR ok hx) trivial
def F_X6_forgetAnswers_0 (N : Nat) (x0 : Option Nat) (x1 : Int32) (x2 : Int32) (S : cS) : cS := (A_X6_forgetAnswers_2 N x0 x1 x2 x1 S (L_X6_forgetAnswers_2 N N x0 x1 x2 x1 S))
def O_X6_forgetAnswers_0 (N : Nat) (x0 : Option Nat) (x1 : Int32) (x2 : Int32) (S : cS) : Prop := (OL_X6_forgetAnswers_2 N N x0 x1 x2 x1 S ∧ OA_X6_forgetAnswers_2 N x0 x1 x2 x1 S (L_X6_forgetAnswers_2 N N x0 x1 x2 x1 S))
set_option maxRecDepth 100000 in
set_option maxHeartbeats 4000000 in
theorem b_X6_forgetAnswers_0 {G : zG} {o : cO} {S : cS} {N : Nat} {Q : Option Value → cS → Prop} {X : cS → Prop} (hG : zOK G) (hR : ∀ S', X S' → Q none S') {x0 : Option Nat} {x1 : Int32} {x2 : Int32} (ok : O_X6_forgetAnswers_0 N x0 x1 x2 S) (hx : X (F_X6_forgetAnswers_0 N x0 x1 x2 S)) : cX G o dX6_forgetAnswers mX6_forgetAnswers 0 [some (va_rf x0), some (.int x1), some (.int x2), none] [] S Q := by
  unfold O_X6_forgetAnswers_0 at ok
  unfold F_X6_forgetAnswers_0 at hx
  refine c_iload_n dX6_forgetAnswers_0 rfl rfl ?_
  refine c_istore_3 dX6_forgetAnswers_1 (by decide) rfl ?_
  exact cX.cutz (c_X6_forgetAnswers_2 hG hR ok hx) ⟨rfl, rfl, rfl, rfl, trivial⟩
def f_X6_forgetAnswers (N : Nat) (S : cS) (a0 : Nat) (x1 : Int32) (x2 : Int32) : cS := F_X6_forgetAnswers_0 N (some a0) x1 x2 S
def o_X6_forgetAnswers (N : Nat) (S : cS) (a0 : Nat) (x1 : Int32) (x2 : Int32) : Prop := O_X6_forgetAnswers_0 N (some a0) x1 x2 S
set_option maxRecDepth 100000 in
set_option maxHeartbeats 4000000 in
theorem cc_X6_forgetAnswers {G : zG} {o : cO} {S : cS} {N : Nat} (hG : zOK G) {a0 : Nat} {x1 : Int32} {x2 : Int32} (ok : o_X6_forgetAnswers N S a0 x1 x2) : cCv G o dX6_forgetAnswers mX6_forgetAnswers [.ref a0, .int x1, .int x2] S (fun S' => S' = f_X6_forgetAnswers N S a0 x1 x2) := by
  refine cC.ofX rfl (by exact Nat.le_of_ble_eq_true rfl) ?_
  show cX G o dX6_forgetAnswers mX6_forgetAnswers 0 [some (.ref a0), some (.int x1), some (.int x2), none] [] S _
  exact cX.cutz (b_X6_forgetAnswers_0 (X := fun F => F = f_X6_forgetAnswers N S a0 x1 x2) hG (fun S' h => ⟨rfl, h⟩) ok rfl) ⟨rfl, rfl, rfl, trivial⟩
/-! X7_signProposal -/
def F_X7_signProposal_21 (N : Nat) (x0 : Option Nat) (x1 : Option Nat) (x2 : Int32) (S : cS) : cS := (csA (csA S (za x1) (nI 4).toNatClampNeg (((cI S 10 (za x0)).toInt8.toInt32).toInt8.toInt32)) (za x1) (nI 5).toNatClampNeg ((x2.toInt8.toInt32).toInt8.toInt32))
def O_X7_signProposal_21 (N : Nat) (x0 : Option Nat) (x1 : Option Nat) (x2 : Int32) (S : cS) : Prop := (cis S x0 6) ∧ (cis S x1 20 ∧ vp_in (nI 4) (cL S (za x1))) ∧ (cis (csA S (za x1) (nI 4).toNatClampNeg (((cI S 10 (za x0)).toInt8.toInt32).toInt8.toInt32)) x1 20 ∧ vp_in (nI 5) (cL (csA S (za x1) (nI 4).toNatClampNeg (((cI S 10 (za x0)).toInt8.toInt32).toInt8.toInt32)) (za x1))) ∧ True
set_option maxRecDepth 100000 in
set_option maxHeartbeats 4000000 in
theorem b_X7_signProposal_21 {G : zG} {o : cO} {S : cS} {N : Nat} {Q : Option Value → cS → Prop} {X : cS → Prop} (hG : zOK G) (hR : ∀ S', X S' → Q none S') {x0 : Option Nat} {x1 : Option Nat} {x2 : Int32} (ok : O_X7_signProposal_21 N x0 x1 x2 S) (hx : X (F_X7_signProposal_21 N x0 x1 x2 S)) : cX G o dX7_signProposal mX7_signProposal 21 [some (va_rf x0), some (va_rf x1), some (.int x2)] [] S Q := by
  unfold O_X7_signProposal_21 at ok
  unfold F_X7_signProposal_21 at hx
  refine c_aload_nQ dX7_signProposal_21 rfl rfl ?_
  refine c_iconst (v := nI 4) dX7_signProposal_22 (by decide) ?_
  refine c_aload_nQ dX7_signProposal_23 rfl rfl ?_
  refine c_getI (C := RX6) (T := TX6) (N := 19) (ci := 5) (k := 10) ⟨rfl, inT6, by decide, fX7_213⟩ (by decide) (by decide) (by decide) dX7_signProposal_24 ok.1 ?_
  have ok := ok.2
  refine c_i2b dX7_signProposal_27 ?_
  refine c_bast dX7_signProposal_28 ok.1 ?_
  have ok := ok.2
  refine c_aload_nQ dX7_signProposal_29 rfl rfl ?_
  refine c_iconst (v := nI 5) dX7_signProposal_30 (by decide) ?_
  refine c_iload_n dX7_signProposal_31 rfl rfl ?_
  refine c_i2b dX7_signProposal_32 ?_
  refine c_bast dX7_signProposal_33 ok.1 ?_
  have ok := ok.2
  exact c_return rfl dX7_signProposal_34 (hR _ hx)
def F_X7_signProposal_12 (N : Nat) (x0 : Option Nat) (x1 : Option Nat) (x2 : Int32) (S : cS) : cS := (F_X7_signProposal_21 N x0 x1 x2 (f_X11_putTwo N S x1 (nI 2) (cI S 9 (za x0))))
def O_X7_signProposal_12 (N : Nat) (x0 : Option Nat) (x1 : Option Nat) (x2 : Int32) (S : cS) : Prop := (cis S x0 6) ∧ (o_X11_putTwo N S x1 (nI 2) (cI S 9 (za x0))) ∧ O_X7_signProposal_21 N x0 x1 x2 (f_X11_putTwo N S x1 (nI 2) (cI S 9 (za x0)))
set_option maxRecDepth 100000 in
set_option maxHeartbeats 4000000 in
theorem b_X7_signProposal_12 {G : zG} {o : cO} {S : cS} {N : Nat} {Q : Option Value → cS → Prop} {X : cS → Prop} (hG : zOK G) (hR : ∀ S', X S' → Q none S') {x0 : Option Nat} {x1 : Option Nat} {x2 : Int32} (ok : O_X7_signProposal_12 N x0 x1 x2 S) (hx : X (F_X7_signProposal_12 N x0 x1 x2 S)) : cX G o dX7_signProposal mX7_signProposal 12 [some (va_rf x0), some (va_rf x1), some (.int x2)] [] S Q := by
  unfold O_X7_signProposal_12 at ok
  unfold F_X7_signProposal_12 at hx
  refine c_aload_nQ dX7_signProposal_12 rfl rfl ?_
  refine c_iconst (v := nI 2) dX7_signProposal_13 (by decide) ?_
  refine c_aload_nQ dX7_signProposal_14 rfl rfl ?_
  refine c_getI (C := RX6) (T := TX6) (N := 19) (ci := 5) (k := 9) ⟨rfl, inT6, by decide, fX7_18⟩ (by decide) (by decide) (by decide) dX7_signProposal_15 ok.1 ?_
  have ok := ok.2
  refine c_SN3vE (y' := mX11_putTwo) dX7_signProposal_18 lX7_331 kX11_putTwo ⟨by decide, by decide⟩ (Nat.le_of_ble_eq_true rfl) (cc_X11_putTwo hG ok.1) ?_
  have ok := ok.2
  exact cX.cutz (b_X7_signProposal_21 hG hR ok hx) ⟨rfl, rfl, rfl, trivial⟩
def F_X7_signProposal_0 (N : Nat) (x0 : Option Nat) (x1 : Option Nat) (x2 : Int32) (S : cS) : cS := (F_X7_signProposal_12 N x0 x1 x2 (csA (csA S (za x1) (nI 0).toNatClampNeg ((nI 1).toInt8.toInt32)) (za x1) (nI 1).toNatClampNeg (((cI (csA S (za x1) (nI 0).toNatClampNeg ((nI 1).toInt8.toInt32)) 1 (za x0)).toInt8.toInt32).toInt8.toInt32)))
def O_X7_signProposal_0 (N : Nat) (x0 : Option Nat) (x1 : Option Nat) (x2 : Int32) (S : cS) : Prop := (cis S x1 20 ∧ vp_in (nI 0) (cL S (za x1))) ∧ (cis (csA S (za x1) (nI 0).toNatClampNeg ((nI 1).toInt8.toInt32)) x0 6) ∧ (cis (csA S (za x1) (nI 0).toNatClampNeg ((nI 1).toInt8.toInt32)) x1 20 ∧ vp_in (nI 1) (cL (csA S (za x1) (nI 0).toNatClampNeg ((nI 1).toInt8.toInt32)) (za x1))) ∧ O_X7_signProposal_12 N x0 x1 x2 (csA (csA S (za x1) (nI 0).toNatClampNeg ((nI 1).toInt8.toInt32)) (za x1) (nI 1).toNatClampNeg (((cI (csA S (za x1) (nI 0).toNatClampNeg ((nI 1).toInt8.toInt32)) 1 (za x0)).toInt8.toInt32).toInt8.toInt32))
set_option maxRecDepth 100000 in
set_option maxHeartbeats 4000000 in
theorem b_X7_signProposal_0 {G : zG} {o : cO} {S : cS} {N : Nat} {Q : Option Value → cS → Prop} {X : cS → Prop} (hG : zOK G) (hR : ∀ S', X S' → Q none S') {x0 : Option Nat} {x1 : Option Nat} {x2 : Int32} (ok : O_X7_signProposal_0 N x0 x1 x2 S) (hx : X (F_X7_signProposal_0 N x0 x1 x2 S)) : cX G o dX7_signProposal mX7_signProposal 0 [some (va_rf x0), some (va_rf x1), some (.int x2)] [] S Q := by
  unfold O_X7_signProposal_0 at ok
  unfold F_X7_signProposal_0 at hx
  refine c_aload_nQ dX7_signProposal_0 rfl rfl ?_
  refine c_iconst (v := nI 0) dX7_signProposal_1 (by decide) ?_
  refine c_iconst (v := nI 1) dX7_signProposal_2 (by decide) ?_
  refine c_bast dX7_signProposal_3 ok.1 ?_
  have ok := ok.2
  refine c_aload_nQ dX7_signProposal_4 rfl rfl ?_
  refine c_iconst (v := nI 1) dX7_signProposal_5 (by decide) ?_
  refine c_aload_nQ dX7_signProposal_6 rfl rfl ?_
  refine c_getI (C := RX6) (T := TX6) (N := 19) (ci := 5) (k := 1) ⟨rfl, inT6, by decide, fX7_271⟩ (by decide) (by decide) (by decide) dX7_signProposal_7 ok.1 ?_
  have ok := ok.2
  refine c_i2b dX7_signProposal_10 ?_
  refine c_bast dX7_signProposal_11 ok.1 ?_
  have ok := ok.2
  exact cX.cutz (b_X7_signProposal_12 hG hR ok hx) ⟨rfl, rfl, rfl, trivial⟩
def f_X7_signProposal (N : Nat) (S : cS) (x0 : Option Nat) (x1 : Option Nat) (x2 : Int32) : cS := F_X7_signProposal_0 N x0 x1 x2 S
def o_X7_signProposal (N : Nat) (S : cS) (x0 : Option Nat) (x1 : Option Nat) (x2 : Int32) : Prop := O_X7_signProposal_0 N x0 x1 x2 S
set_option maxRecDepth 100000 in
set_option maxHeartbeats 4000000 in
theorem cc_X7_signProposal {G : zG} {o : cO} {S : cS} {N : Nat} (hG : zOK G) {x0 : Option Nat} {x1 : Option Nat} {x2 : Int32} (ok : o_X7_signProposal N S x0 x1 x2) : cCv G o dX7_signProposal mX7_signProposal [va_rf x0, va_rf x1, .int x2] S (fun S' => S' = f_X7_signProposal N S x0 x1 x2) := by
  refine cC.ofX rfl (by cases x0 <;> cases x1 <;> exact Nat.le_of_ble_eq_true rfl) ?_
  rw [show zargs mX7_signProposal.2.2.1 [va_rf x0, va_rf x1, .int x2] = [some (va_rf x0), some (va_rf x1), some (.int x2)] from by cases x0 <;> cases x1 <;> rfl]
  exact cX.cutz (b_X7_signProposal_0 (X := fun F => F = f_X7_signProposal N S x0 x1 x2) hG (fun S' h => ⟨rfl, h⟩) ok rfl) ⟨rfl, rfl, rfl, trivial⟩

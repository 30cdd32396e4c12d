/-! X11_behindEvidences -/
def F_X11_behindEvidences_68 (N : Nat) (x4 : Int32) (S : cS) : Int32 := x4
def O_X11_behindEvidences_68 (N : Nat) (x4 : Int32) (S : cS) : Prop := True
set_option maxRecDepth 100000 in
set_option maxHeartbeats 4000000 in
theorem b_X11_behindEvidences_68 {G : zG} {o : cO} {S : cS} {N : Nat} {Q : Option Value → cS → Prop} {X : Int32 → Prop} (hG : zOK G) (hR : ∀ v, X v → Q (some (.int v)) S) {x4 : Int32} (ok : O_X11_behindEvidences_68 N x4 S) (hx : X (F_X11_behindEvidences_68 N x4 S)) : cX G o dX11_behindEvidences mX11_behindEvidences 68 [none, none, none, none, some (.int x4), none, none] [] S Q := by
  unfold O_X11_behindEvidences_68 at ok
  unfold F_X11_behindEvidences_68 at hx
  refine c_iload dX11_behindEvidences_68 rfl ?_
  exact c_ireturn rfl rfl dX11_behindEvidences_70 (hR _ hx)
def F_X11_behindEvidences_53 (N : Nat)  (S : cS) : Int32 := (-1)
def O_X11_behindEvidences_53 (N : Nat)  (S : cS) : Prop := True
set_option maxRecDepth 100000 in
set_option maxHeartbeats 4000000 in
theorem b_X11_behindEvidences_53 {G : zG} {o : cO} {S : cS} {N : Nat} {Q : Option Value → cS → Prop} {X : Int32 → Prop} (hG : zOK G) (hR : ∀ v, X v → Q (some (.int v)) S) (ok : O_X11_behindEvidences_53 N S) (hx : X (F_X11_behindEvidences_53 N S)) : cX G o dX11_behindEvidences mX11_behindEvidences 53 [none, none, none, none, none, none, none] [] S Q := by
  unfold O_X11_behindEvidences_53 at ok
  unfold F_X11_behindEvidences_53 at hx
  refine c_iconst (v := -1) dX11_behindEvidences_53 (by decide) ?_
  exact c_ireturn rfl rfl dX11_behindEvidences_54 (hR _ hx)
def B_X11_behindEvidences_30 (N : Nat) (rec : Option Nat → Int32 → Int32 → Int32 → Int32 → Nat × Int32 × Unit) (x0 : Option Nat) (x2 : Int32) (x3 : Int32) (x4 : Int32) (x5 : Int32) (S : cS) : Nat × Int32 × Unit := (if x3 ≤ x5 then (1, x4, ()) else (if 0 ≤ (f_X1_evidenceSize N S (cR S 1 (za x0)) x4 x2) then (rec x0 x2 x3 (x4 + (f_X1_evidenceSize N S (cR S 1 (za x0)) x4 x2)) (x5 + nI 1)) else (0, 0, ())))
def OB_X11_behindEvidences_30 (N : Nat) (rok : Option Nat → Int32 → Int32 → Int32 → Int32 → Prop) (x0 : Option Nat) (x2 : Int32) (x3 : Int32) (x4 : Int32) (x5 : Int32) (S : cS) : Prop := ((x3 ≤ x5 → True) ∧ (¬ x3 ≤ x5 → (cis S x0 10) ∧ (o_X1_evidenceSize N S (cR S 1 (za x0)) x4 x2) ∧ ((0 ≤ (f_X1_evidenceSize N S (cR S 1 (za x0)) x4 x2) → rok x0 x2 x3 (x4 + (f_X1_evidenceSize N S (cR S 1 (za x0)) x4 x2)) (x5 + nI 1)) ∧ (¬ 0 ≤ (f_X1_evidenceSize N S (cR S 1 (za x0)) x4 x2) → True))))
set_option maxRecDepth 100000 in
set_option maxHeartbeats 4000000 in
theorem bb_X11_behindEvidences_30 {G : zG} {o : cO} {S : cS} {N : Nat} {Q : Option Value → cS → Prop} {X : Nat × Int32 × Unit → Prop} (hG : zOK G) (hX0 : ∀ (x4 : Int32) , X (0, x4, ()) → cX G o dX11_behindEvidences mX11_behindEvidences 53 [none, none, none, none, none, none, none] [] S Q) (hX1 : ∀ (x4 : Int32) , X (1, x4, ()) → cX G o dX11_behindEvidences mX11_behindEvidences 68 [none, none, none, none, some (.int x4), none, none] [] S Q) {rec : Option Nat → Int32 → Int32 → Int32 → Int32 → Nat × Int32 × Unit} {rok : Option Nat → Int32 → Int32 → Int32 → Int32 → Prop} (hrec : ∀ (x0 : Option Nat) (x2 : Int32) (x3 : Int32) (x4 : Int32) (x5 : Int32), rok x0 x2 x3 x4 x5 → X (rec x0 x2 x3 x4 x5) → cX G o dX11_behindEvidences mX11_behindEvidences 30 [some (va_rf x0), none, some (.int x2), some (.int x3), some (.int x4), some (.int x5), none] [] S Q) {x0 : Option Nat} {x2 : Int32} {x3 : Int32} {x4 : Int32} {x5 : Int32} (ok : OB_X11_behindEvidences_30 N rok x0 x2 x3 x4 x5 S) (hx : X (B_X11_behindEvidences_30 N rec x0 x2 x3 x4 x5 S)) : cX G o dX11_behindEvidences mX11_behindEvidences 30 [some (va_rf x0), none, some (.int x2), some (.int x3), some (.int x4), some (.int x5), none] [] S Q := by
  unfold OB_X11_behindEvidences_30 at ok
  unfold B_X11_behindEvidences_30 at hx
  refine c_iload dX11_behindEvidences_30 rfl ?_
  refine c_iload_n dX11_behindEvidences_32 rfl rfl ?_
  refine c_icmp_ge (tgt := 68) dX11_behindEvidences_33 (by decide) (fun c_33 => ?_) (fun c_33 => ?_)
  · have ok := ok.1 c_33
    have hx := xif_p c_33 hx
    exact cX.cutz (hX1 _  hx) ⟨rfl, trivial⟩
  · have ok := ok.2 c_33
    have hx := xif_n c_33 hx
    refine c_aload_nQ dX11_behindEvidences_36 rfl rfl ?_
    refine c_getR (C := RX11) (T := TX11) (N := 4) (ci := 9) (k := 1) ⟨rfl, inT11, by decide, fX11_9⟩ (by decide) (by decide) (by decide) dX11_behindEvidences_37 ok.1 ?_
    have ok := ok.2
    refine c_iload dX11_behindEvidences_40 rfl ?_
    refine c_iload_n dX11_behindEvidences_42 rfl rfl ?_
    refine c_S3iE (y' := mX1_evidenceSize) dX11_behindEvidences_43 lX11_138 kX1_evidenceSize ⟨by decide, by decide⟩ (Nat.le_of_ble_eq_true rfl) (cc_X1_evidenceSize hG ok.1) ?_
    have ok := ok.2
    refine c_istore_6 dX11_behindEvidences_46 (by decide) rfl ?_
    refine c_iload dX11_behindEvidences_48 rfl ?_
    refine c_if_ge (tgt := 55) dX11_behindEvidences_50 (by decide) (fun c_50 => ?_) (fun c_50 => ?_)
    · have ok := ok.1 c_50
      have hx := xif_p c_50 hx
      refine c_iload dX11_behindEvidences_55 rfl ?_
      refine c_iload dX11_behindEvidences_57 rfl ?_
      refine c_iadd dX11_behindEvidences_59 ?_
      refine c_istore_4 dX11_behindEvidences_60 (by decide) rfl ?_
      refine c_iinc_5 (v := (x5 + nI 1)) dX11_behindEvidences_62 rfl (by first | rfl | (congr 1)) (by decide) rfl ?_
      refine c_goto (tgt := 30) dX11_behindEvidences_65 (by decide) ?_
      exact cX.cutz (hrec _ _ _ _ _ ok hx) ⟨rfl, rfl, rfl, rfl, rfl, trivial⟩
    · have ok := ok.2 c_50
      have hx := xif_n c_50 hx
      exact cX.cutz (hX0 _  hx) trivial
def L_X11_behindEvidences_30 (N : Nat) : Nat → Option Nat → Int32 → Int32 → Int32 → Int32 → cS → Nat × Int32 × Unit
  | 0, x0, x2, x3, x4, x5, S => (0, 0, ())
  | n + 1, x0, x2, x3, x4, x5, S => B_X11_behindEvidences_30 N (fun x0 x2 x3 x4 x5 => L_X11_behindEvidences_30 N n x0 x2 x3 x4 x5 S) x0 x2 x3 x4 x5 S
def OL_X11_behindEvidences_30 (N : Nat) : Nat → Option Nat → Int32 → Int32 → Int32 → Int32 → cS → Prop
  | 0, _, _, _, _, _, _ => False
  | n + 1, x0, x2, x3, x4, x5, S => OB_X11_behindEvidences_30 N (fun x0 x2 x3 x4 x5 => OL_X11_behindEvidences_30 N n x0 x2 x3 x4 x5 S) x0 x2 x3 x4 x5 S
set_option maxRecDepth 100000 in
set_option maxHeartbeats 4000000 in
theorem l_X11_behindEvidences_30 {G : zG} {o : cO} {S : cS} {N : Nat} {Q : Option Value → cS → Prop} {X : Nat × Int32 × Unit → Prop} (hG : zOK G) (hX0 : ∀ (x4 : Int32) , X (0, x4, ()) → cX G o dX11_behindEvidences mX11_behindEvidences 53 [none, none, none, none, none, none, none] [] S Q) (hX1 : ∀ (x4 : Int32) , X (1, x4, ()) → cX G o dX11_behindEvidences mX11_behindEvidences 68 [none, none, none, none, some (.int x4), none, none] [] S Q) : ∀ (n : Nat) (x0 : Option Nat) (x2 : Int32) (x3 : Int32) (x4 : Int32) (x5 : Int32) , OL_X11_behindEvidences_30 N n x0 x2 x3 x4 x5 S → X (L_X11_behindEvidences_30 N n x0 x2 x3 x4 x5 S) → cX G o dX11_behindEvidences mX11_behindEvidences 30 [some (va_rf x0), none, some (.int x2), some (.int x3), some (.int x4), some (.int x5), none] [] S Q := by
  intro n
  induction n with
  | zero => intro x0 x2 x3 x4 x5 ok; exact absurd ok id
  | succ n ih =>
    intro x0 x2 x3 x4 x5 ok hx
    exact bb_X11_behindEvidences_30 hG hX0 hX1 (rec := fun x0 x2 x3 x4 x5 => L_X11_behindEvidences_30 N n x0 x2 x3 x4 x5 S) (rok := fun x0 x2 x3 x4 x5 => OL_X11_behindEvidences_30 N n x0 x2 x3 x4 x5 S) (fun x0 x2 x3 x4 x5 ok hx => ih x0 x2 x3 x4 x5 ok hx) ok hx
def A_X11_behindEvidences_30 (N : Nat) (x0 : Option Nat) (x2 : Int32) (x3 : Int32) (x4 : Int32) (x5 : Int32) (S : cS) (z : Nat × Int32 × Unit) : Int32 := (if z.1 = 0 then (F_X11_behindEvidences_53 N S) else (F_X11_behindEvidences_68 N (z.2.1) S))
def OA_X11_behindEvidences_30 (N : Nat) (x0 : Option Nat) (x2 : Int32) (x3 : Int32) (x4 : Int32) (x5 : Int32) (S : cS) (z : Nat × Int32 × Unit) : Prop := (if z.1 = 0 then O_X11_behindEvidences_53 N S else O_X11_behindEvidences_68 N (z.2.1) S)
set_option maxRecDepth 100000 in
set_option maxHeartbeats 4000000 in
theorem c_X11_behindEvidences_30 {G : zG} {o : cO} {S : cS} {N : Nat} {Q : Option Value → cS → Prop} {X : Int32 → Prop} (hG : zOK G) (hR : ∀ v, X v → Q (some (.int v)) S) {x0 : Option Nat} {x2 : Int32} {x3 : Int32} {x4 : Int32} {x5 : Int32} (ok : OL_X11_behindEvidences_30 N N x0 x2 x3 x4 x5 S ∧ OA_X11_behindEvidences_30 N x0 x2 x3 x4 x5 S (L_X11_behindEvidences_30 N N x0 x2 x3 x4 x5 S)) (hx : X (A_X11_behindEvidences_30 N x0 x2 x3 x4 x5 S (L_X11_behindEvidences_30 N N x0 x2 x3 x4 x5 S))) : cX G o dX11_behindEvidences mX11_behindEvidences 30 [some (va_rf x0), none, some (.int x2), some (.int x3), some (.int x4), some (.int x5), none] [] S Q := by
  refine l_X11_behindEvidences_30 hG ?_ ?_ N x0 x2 x3 x4 x5 ok.1 (X := fun z => OA_X11_behindEvidences_30 N x0 x2 x3 x4 x5 S z ∧ X (A_X11_behindEvidences_30 N x0 x2 x3 x4 x5 S z)) ⟨ok.2, hx⟩
  · intro x4' hz
    obtain ⟨ok, hx⟩ := hz
    unfold OA_X11_behindEvidences_30 at ok
    unfold A_X11_behindEvidences_30 at hx
    have ok := xif_P (show (0 : Nat) = 0 from rfl) ok
    have hx := xif_p (show (0 : Nat) = 0 from rfl) hx
    exact cX.cutz (b_X11_behindEvidences_53 hG hR ok hx) trivial
  · intro x4' hz
    obtain ⟨ok, hx⟩ := hz
    unfold OA_X11_behindEvidences_30 at ok
    unfold A_X11_behindEvidences_30 at hx
    have ok := xif_N (show ¬ (1 : Nat) = 0 by decide) ok
    have hx := xif_n (show ¬ (1 : Nat) = 0 by decide) hx
    exact cX.cutz (b_X11_behindEvidences_68 hG hR ok hx) ⟨rfl, trivial⟩
def F_X11_behindEvidences_0 (N : Nat) (x0 : Option Nat) (x1 : Int32) (x2 : Int32) (S : cS) : Int32 := (if ((cA S (za (cR S 1 (za x0))) (x1 + (nI 100)).toNatClampNeg) &&& (nI 255)) ≤ (nI 2) then (A_X11_behindEvidences_30 N x0 x2 ((cA S (za (cR S 1 (za x0))) (x1 + (nI 100)).toNatClampNeg) &&& (nI 255)) (x1 + (nI 101)) (nI 0) S (L_X11_behindEvidences_30 N N x0 x2 ((cA S (za (cR S 1 (za x0))) (x1 + (nI 100)).toNatClampNeg) &&& (nI 255)) (x1 + (nI 101)) (nI 0) S)) else (-1))
def O_X11_behindEvidences_0 (N : Nat) (x0 : Option Nat) (x1 : Int32) (x2 : Int32) (S : cS) : Prop := (cis S x0 10) ∧ (cis S (cR S 1 (za x0)) 20 ∧ vp_in (x1 + (nI 100)) (cL S (za (cR S 1 (za x0))))) ∧ ((((cA S (za (cR S 1 (za x0))) (x1 + (nI 100)).toNatClampNeg) &&& (nI 255)) ≤ (nI 2) → (OL_X11_behindEvidences_30 N N x0 x2 ((cA S (za (cR S 1 (za x0))) (x1 + (nI 100)).toNatClampNeg) &&& (nI 255)) (x1 + (nI 101)) (nI 0) S ∧ OA_X11_behindEvidences_30 N x0 x2 ((cA S (za (cR S 1 (za x0))) (x1 + (nI 100)).toNatClampNeg) &&& (nI 255)) (x1 + (nI 101)) (nI 0) S (L_X11_behindEvidences_30 N N x0 x2 ((cA S (za (cR S 1 (za x0))) (x1 + (nI 100)).toNatClampNeg) &&& (nI 255)) (x1 + (nI 101)) (nI 0) S))) ∧ (¬ ((cA S (za (cR S 1 (za x0))) (x1 + (nI 100)).toNatClampNeg) &&& (nI 255)) ≤ (nI 2) → True))
set_option maxRecDepth 100000 in
set_option maxHeartbeats 4000000 in
theorem b_X11_behindEvidences_0 {G : zG} {o : cO} {S : cS} {N : Nat} {Q : Option Value → cS → Prop} {X : Int32 → Prop} (hG : zOK G) (hR : ∀ v, X v → Q (some (.int v)) S) {x0 : Option Nat} {x1 : Int32} {x2 : Int32} (ok : O_X11_behindEvidences_0 N x0 x1 x2 S) (hx : X (F_X11_behindEvidences_0 N x0 x1 x2 S)) : cX G o dX11_behindEvidences mX11_behindEvidences 0 [some (va_rf x0), some (.int x1), some (.int x2), none, none, none, none] [] S Q := by
  unfold O_X11_behindEvidences_0 at ok
  unfold F_X11_behindEvidences_0 at hx
  refine c_aload_nQ dX11_behindEvidences_0 rfl rfl ?_
  refine c_getR (C := RX11) (T := TX11) (N := 4) (ci := 9) (k := 1) ⟨rfl, inT11, by decide, fX11_9⟩ (by decide) (by decide) (by decide) dX11_behindEvidences_1 ok.1 ?_
  have ok := ok.2
  refine c_iload_n dX11_behindEvidences_4 rfl rfl ?_
  refine c_bipush (v := nI 100) dX11_behindEvidences_5 (by decide) ?_
  refine c_iadd dX11_behindEvidences_7 ?_
  refine c_bald dX11_behindEvidences_8 ok.1 ?_
  have ok := ok.2
  refine c_sipush (v := nI 255) dX11_behindEvidences_9 (by decide) ?_
  refine c_iand dX11_behindEvidences_12 ?_
  refine c_istore_3 dX11_behindEvidences_13 (by decide) rfl ?_
  refine c_iload_n dX11_behindEvidences_14 rfl rfl ?_
  refine c_iconst (v := nI 2) dX11_behindEvidences_15 (by decide) ?_
  refine c_icmp_le (tgt := 21) dX11_behindEvidences_16 (by decide) (fun c_16 => ?_) (fun c_16 => ?_)
  · have ok := ok.1 c_16
    have hx := xif_p c_16 hx
    refine c_iload_n dX11_behindEvidences_21 rfl rfl ?_
    refine c_bipush (v := nI 101) dX11_behindEvidences_22 (by decide) ?_
    refine c_iadd dX11_behindEvidences_24 ?_
    refine c_istore_4 dX11_behindEvidences_25 (by decide) rfl ?_
    refine c_iconst (v := nI 0) dX11_behindEvidences_27 (by decide) ?_
    refine c_istore_5 dX11_behindEvidences_28 (by decide) rfl ?_
    exact cX.cutz (c_X11_behindEvidences_30 hG hR ok hx) ⟨rfl, rfl, rfl, rfl, rfl, trivial⟩
  · have ok := ok.2 c_16
    have hx := xif_n c_16 hx
    refine c_iconst (v := -1) dX11_behindEvidences_19 (by decide) ?_
    exact c_ireturn rfl rfl dX11_behindEvidences_20 (hR _ hx)
def f_X11_behindEvidences (N : Nat) (S : cS) (a0 : Nat) (x1 : Int32) (x2 : Int32) : Int32 := F_X11_behindEvidences_0 N (some a0) x1 x2 S
def o_X11_behindEvidences (N : Nat) (S : cS) (a0 : Nat) (x1 : Int32) (x2 : Int32) : Prop := O_X11_behindEvidences_0 N (some a0) x1 x2 S
set_option maxRecDepth 100000 in
set_option maxHeartbeats 4000000 in
theorem cc_X11_behindEvidences {G : zG} {o : cO} {S : cS} {N : Nat} (hG : zOK G) {a0 : Nat} {x1 : Int32} {x2 : Int32} (ok : o_X11_behindEvidences N S a0 x1 x2) : cCi G o dX11_behindEvidences mX11_behindEvidences [.ref a0, .int x1, .int x2] S (fun v S' => v = f_X11_behindEvidences N S a0 x1 x2 ∧ S' = S) := by
  refine cC.ofX rfl (by exact Nat.le_of_ble_eq_true rfl) ?_
  show cX G o dX11_behindEvidences mX11_behindEvidences 0 [some (.ref a0), some (.int x1), some (.int x2), none, none, none, none] [] S _
  exact cX.cutz (b_X11_behindEvidences_0 (X := fun F => F = f_X11_behindEvidences N S a0 x1 x2) hG (fun v h => ⟨v, rfl, h, rfl⟩) ok rfl) ⟨rfl, rfl, rfl, trivial⟩
/-! X11_honestNode -/
def F_X11_honestNode_28 (N : Nat) (s0 : Option Nat) (S : cS) : Option Nat := s0
def O_X11_honestNode_28 (N : Nat) (s0 : Option Nat) (S : cS) : Prop := True
set_option maxRecDepth 100000 in
set_option maxHeartbeats 4000000 in
theorem b_X11_honestNode_28 {G : zG} {o : cO} {S : cS} {N : Nat} {Q : Option Value → cS → Prop} {X : Option Nat → Prop} (hG : zOK G) (hR : ∀ v, X v → Q (some (va_rf v)) S) {s0 : Option Nat} (ok : O_X11_honestNode_28 N s0 S) (hx : X (F_X11_honestNode_28 N s0 S)) : cX G o dX11_honestNode mX11_honestNode 28 [none, none] [va_rf s0] S Q := by
  unfold O_X11_honestNode_28 at ok
  unfold F_X11_honestNode_28 at hx
  exact c_areturn rfl (Or.inl ⟨_, rfl⟩) dX11_honestNode_28 (hR _ hx)
def F_X11_honestNode_27 (N : Nat)  (S : cS) : Option Nat := (F_X11_honestNode_28 N (none : Option Nat) S)
def O_X11_honestNode_27 (N : Nat)  (S : cS) : Prop := O_X11_honestNode_28 N (none : Option Nat) S
set_option maxRecDepth 100000 in
set_option maxHeartbeats 4000000 in
theorem b_X11_honestNode_27 {G : zG} {o : cO} {S : cS} {N : Nat} {Q : Option Value → cS → Prop} {X : Option Nat → Prop} (hG : zOK G) (hR : ∀ v, X v → Q (some (va_rf v)) S) (ok : O_X11_honestNode_27 N S) (hx : X (F_X11_honestNode_27 N S)) : cX G o dX11_honestNode mX11_honestNode 27 [none, none] [] S Q := by
  unfold O_X11_honestNode_27 at ok
  unfold F_X11_honestNode_27 at hx
  refine c_null' dX11_honestNode_27 ?_
  exact cX.cutz (b_X11_honestNode_28 hG hR ok hx) trivial
def F_X11_honestNode_0 (N : Nat) (x0 : Option Nat) (x1 : Int32) (S : cS) : Option Nat := (if x1 < 0 then (F_X11_honestNode_27 N S) else (if (cI S 2 (za (cR S 0 (za x0)))) ≤ x1 then (F_X11_honestNode_27 N S) else (F_X11_honestNode_28 N (cP S (za (cR S 4 (za (cR S 0 (za x0))))) x1.toNatClampNeg) S)))
def O_X11_honestNode_0 (N : Nat) (x0 : Option Nat) (x1 : Int32) (S : cS) : Prop := ((x1 < 0 → O_X11_honestNode_27 N S) ∧ (¬ x1 < 0 → (cis S x0 10) ∧ (cis S (cR S 0 (za x0)) 9) ∧ (((cI S 2 (za (cR S 0 (za x0)))) ≤ x1 → O_X11_honestNode_27 N S) ∧ (¬ (cI S 2 (za (cR S 0 (za x0)))) ≤ x1 → (cis S x0 10) ∧ (cis S (cR S 0 (za x0)) 9) ∧ (cis S (cR S 4 (za (cR S 0 (za x0)))) 25 ∧ vp_in x1 (cL S (za (cR S 4 (za (cR S 0 (za x0))))))) ∧ O_X11_honestNode_28 N (cP S (za (cR S 4 (za (cR S 0 (za x0))))) x1.toNatClampNeg) S))))
set_option maxRecDepth 100000 in
set_option maxHeartbeats 4000000 in
theorem b_X11_honestNode_0 {G : zG} {o : cO} {S : cS} {N : Nat} {Q : Option Value → cS → Prop} {X : Option Nat → Prop} (hG : zOK G) (hR : ∀ v, X v → Q (some (va_rf v)) S) {x0 : Option Nat} {x1 : Int32} (ok : O_X11_honestNode_0 N x0 x1 S) (hx : X (F_X11_honestNode_0 N x0 x1 S)) : cX G o dX11_honestNode mX11_honestNode 0 [some (va_rf x0), some (.int x1)] [] S Q := by
  unfold O_X11_honestNode_0 at ok
  unfold F_X11_honestNode_0 at hx
  refine c_iload_n dX11_honestNode_0 rfl rfl ?_
  refine c_if_lt (tgt := 27) dX11_honestNode_1 (by decide) (fun c_1 => ?_) (fun c_1 => ?_)
  · have ok := ok.1 c_1
    have hx := xif_p c_1 hx
    exact cX.cutz (b_X11_honestNode_27 hG hR ok hx) trivial
  · have ok := ok.2 c_1
    have hx := xif_n c_1 hx
    refine c_iload_n dX11_honestNode_4 rfl rfl ?_
    refine c_aload_nQ dX11_honestNode_5 rfl rfl ?_
    refine c_getR (C := RX11) (T := TX11) (N := 4) (ci := 9) (k := 0) ⟨rfl, inT11, by decide, fX11_22⟩ (by decide) (by decide) (by decide) dX11_honestNode_6 ok.1 ?_
    have ok := ok.2
    refine c_getI (C := RX10) (T := TX10) (N := 12) (ci := 8) (k := 2) ⟨rfl, inT10, by decide, fX11_69⟩ (by decide) (by decide) (by decide) dX11_honestNode_9 ok.1 ?_
    have ok := ok.2
    refine c_icmp_ge (tgt := 27) dX11_honestNode_12 (by decide) (fun c_12 => ?_) (fun c_12 => ?_)
    · have ok := ok.1 c_12
      have hx := xif_p c_12 hx
      exact cX.cutz (b_X11_honestNode_27 hG hR ok hx) trivial
    · have ok := ok.2 c_12
      have hx := xif_n c_12 hx
      refine c_aload_nQ dX11_honestNode_15 rfl rfl ?_
      refine c_getR (C := RX11) (T := TX11) (N := 4) (ci := 9) (k := 0) ⟨rfl, inT11, by decide, fX11_22⟩ (by decide) (by decide) (by decide) dX11_honestNode_16 ok.1 ?_
      have ok := ok.2
      refine c_getR (C := RX10) (T := TX10) (N := 12) (ci := 8) (k := 4) ⟨rfl, inT10, by decide, fX11_322⟩ (by decide) (by decide) (by decide) dX11_honestNode_19 ok.1 ?_
      have ok := ok.2
      refine c_iload_n dX11_honestNode_22 rfl rfl ?_
      refine c_aald (t := 5) (ty := (.object "QuorumLedger$Node")) rfl rfl (by decide) dX11_honestNode_23 ok.1 ?_
      have ok := ok.2
      refine c_goto (tgt := 28) dX11_honestNode_24 (by decide) ?_
      exact cX.cutz (b_X11_honestNode_28 hG hR ok hx) trivial
def f_X11_honestNode (N : Nat) (S : cS) (a0 : Nat) (x1 : Int32) : Option Nat := F_X11_honestNode_0 N (some a0) x1 S
def o_X11_honestNode (N : Nat) (S : cS) (a0 : Nat) (x1 : Int32) : Prop := O_X11_honestNode_0 N (some a0) x1 S
set_option maxRecDepth 100000 in
set_option maxHeartbeats 4000000 in
theorem cc_X11_honestNode {G : zG} {o : cO} {S : cS} {N : Nat} (hG : zOK G) {a0 : Nat} {x1 : Int32} (ok : o_X11_honestNode N S a0 x1) : cCq G o dX11_honestNode mX11_honestNode [.ref a0, .int x1] S (fun v S' => v = f_X11_honestNode N S a0 x1 ∧ S' = S) := by
  refine cC.ofX rfl (by exact Nat.le_of_ble_eq_true rfl) ?_
  show cX G o dX11_honestNode mX11_honestNode 0 [some (.ref a0), some (.int x1)] [] S _
  exact cX.cutz (b_X11_honestNode_0 (X := fun F => F = f_X11_honestNode N S a0 x1) hG (fun v h => ⟨v, rfl, h, rfl⟩) ok rfl) ⟨rfl, rfl, trivial⟩
/-! X11_seal -/
def F_X11_seal_183 (N : Nat) (x5 : Int32) (S : cS) : Int32 × cS := (x5, S)
def O_X11_seal_183 (N : Nat) (x5 : Int32) (S : cS) : Prop := True
set_option maxRecDepth 100000 in
set_option maxHeartbeats 4000000 in
theorem b_X11_seal_183 {G : zG} {o : cO} {S : cS} {N : Nat} {Q : Option Value → cS → Prop} {X : Int32 × cS → Prop} (hG : zOK G) (hR : ∀ v S', X (v, S') → Q (some (.int v)) S') {x5 : Int32} (ok : O_X11_seal_183 N x5 S) (hx : X (F_X11_seal_183 N x5 S)) : cX G o dX11_seal mX11_seal 183 [none, none, none, none, none, some (.int x5), none] [] S Q := by
  unfold O_X11_seal_183 at ok
  unfold F_X11_seal_183 at hx
  refine c_iload dX11_seal_183 rfl ?_
  exact c_ireturn rfl rfl dX11_seal_185 (hR _ _ hx)
def F_X11_seal_161 (N : Nat) (x0 : Option Nat) (x1 : Int32) (x5 : Int32) (x6 : Option Nat) (S : cS) : Int32 × cS := (F_X11_seal_183 N x5 (csArow S (za (cR S 1 (za x0))) (va_cpy (cA S (za (cR S 3 (za (cR S 4 (za x6)))))) (cA S (za (cR S 1 (za x0)))) (nI 0).toNatClampNeg (x1 + (nI 35)).toNatClampNeg (nI 32).toNatClampNeg)))
def O_X11_seal_161 (N : Nat) (x0 : Option Nat) (x1 : Int32) (x5 : Int32) (x6 : Option Nat) (S : cS) : Prop := (cis S x6 6) ∧ (cis S (cR S 4 (za x6)) 1) ∧ (cis S x0 10) ∧ (cis S (cR S 3 (za (cR S 4 (za x6)))) 20 ∧ cis S (cR S 1 (za x0)) 20 ∧ (¬ (nI 0) < 0 ∧ ¬ (x1 + (nI 35)) < 0 ∧ ¬ (nI 32) < 0) ∧ (nI 0).toNatClampNeg + (nI 32).toNatClampNeg ≤ cL S (za (cR S 3 (za (cR S 4 (za x6))))) ∧ (x1 + (nI 35)).toNatClampNeg + (nI 32).toNatClampNeg ≤ cL S (za (cR S 1 (za x0)))) ∧ O_X11_seal_183 N x5 (csArow S (za (cR S 1 (za x0))) (va_cpy (cA S (za (cR S 3 (za (cR S 4 (za x6)))))) (cA S (za (cR S 1 (za x0)))) (nI 0).toNatClampNeg (x1 + (nI 35)).toNatClampNeg (nI 32).toNatClampNeg))
set_option maxRecDepth 100000 in
set_option maxHeartbeats 4000000 in
theorem b_X11_seal_161 {G : zG} {o : cO} {S : cS} {N : Nat} {Q : Option Value → cS → Prop} {X : Int32 × cS → Prop} (hG : zOK G) (hR : ∀ v S', X (v, S') → Q (some (.int v)) S') {x0 : Option Nat} {x1 : Int32} {x5 : Int32} {x6 : Option Nat} (ok : O_X11_seal_161 N x0 x1 x5 x6 S) (hx : X (F_X11_seal_161 N x0 x1 x5 x6 S)) : cX G o dX11_seal mX11_seal 161 [some (va_rf x0), some (.int x1), none, none, none, some (.int x5), some (va_rf x6)] [] S Q := by
  unfold O_X11_seal_161 at ok
  unfold F_X11_seal_161 at hx
  refine c_aloadQ dX11_seal_161 rfl ?_
  refine c_getR (C := RX6) (T := TX6) (N := 19) (ci := 5) (k := 4) ⟨rfl, inT6, by decide, fX11_129⟩ (by decide) (by decide) (by decide) dX11_seal_163 ok.1 ?_
  have ok := ok.2
  refine c_getR (C := RX0) (T := TX0) (N := 6) (ci := 0) (k := 3) ⟨rfl, inT0, by decide, fX11_133⟩ (by decide) (by decide) (by decide) dX11_seal_166 ok.1 ?_
  have ok := ok.2
  refine c_iconst (v := nI 0) dX11_seal_169 (by decide) ?_
  refine c_aload_nQ dX11_seal_170 rfl rfl ?_
  refine c_getR (C := RX11) (T := TX11) (N := 4) (ci := 9) (k := 1) ⟨rfl, inT11, by decide, fX11_9⟩ (by decide) (by decide) (by decide) dX11_seal_171 ok.1 ?_
  have ok := ok.2
  refine c_iload_n dX11_seal_174 rfl rfl ?_
  refine c_bipush (v := nI 35) dX11_seal_175 (by decide) ?_
  refine c_iadd dX11_seal_177 ?_
  refine c_bipush (v := nI 32) dX11_seal_178 (by decide) ?_
  refine c_copy0 hG dX11_seal_180 qX11_53 (by decide) (by decide) ok.1 ?_
  have ok := ok.2
  exact cX.cutz (b_X11_seal_183 hG hR ok hx) ⟨rfl, trivial⟩
def F_X11_seal_131 (N : Nat) (x0 : Option Nat) (x1 : Int32) (x3 : Int32) (x5 : Int32) (S : cS) : Int32 × cS := (if (f_X11_honestNode N S (za x0) x3) = none then (F_X11_seal_183 N x5 S) else (F_X11_seal_161 N x0 x1 x5 (f_X11_honestNode N S (za x0) x3) (csArow S (za (cR S 1 (za x0))) (va_cpy (cA S (za (cR S 5 (za (f_X11_honestNode N S (za x0) x3))))) (cA S (za (cR S 1 (za x0)))) (nI 0).toNatClampNeg (x1 + (nI 3)).toNatClampNeg (nI 32).toNatClampNeg))))
def O_X11_seal_131 (N : Nat) (x0 : Option Nat) (x1 : Int32) (x3 : Int32) (x5 : Int32) (S : cS) : Prop := (cis S x0 10 ∧ o_X11_honestNode N S (za x0) x3) ∧ (((f_X11_honestNode N S (za x0) x3) = none → O_X11_seal_183 N x5 S) ∧ (¬ (f_X11_honestNode N S (za x0) x3) = none → (cis S (f_X11_honestNode N S (za x0) x3) 6) ∧ (cis S x0 10) ∧ (cis S (cR S 5 (za (f_X11_honestNode N S (za x0) x3))) 20 ∧ cis S (cR S 1 (za x0)) 20 ∧ (¬ (nI 0) < 0 ∧ ¬ (x1 + (nI 3)) < 0 ∧ ¬ (nI 32) < 0) ∧ (nI 0).toNatClampNeg + (nI 32).toNatClampNeg ≤ cL S (za (cR S 5 (za (f_X11_honestNode N S (za x0) x3)))) ∧ (x1 + (nI 3)).toNatClampNeg + (nI 32).toNatClampNeg ≤ cL S (za (cR S 1 (za x0)))) ∧ O_X11_seal_161 N x0 x1 x5 (f_X11_honestNode N S (za x0) x3) (csArow S (za (cR S 1 (za x0))) (va_cpy (cA S (za (cR S 5 (za (f_X11_honestNode N S (za x0) x3))))) (cA S (za (cR S 1 (za x0)))) (nI 0).toNatClampNeg (x1 + (nI 3)).toNatClampNeg (nI 32).toNatClampNeg))))
set_option maxRecDepth 100000 in
set_option maxHeartbeats 4000000 in
theorem b_X11_seal_131 {G : zG} {o : cO} {S : cS} {N : Nat} {Q : Option Value → cS → Prop} {X : Int32 × cS → Prop} (hG : zOK G) (hR : ∀ v S', X (v, S') → Q (some (.int v)) S') {x0 : Option Nat} {x1 : Int32} {x3 : Int32} {x5 : Int32} (ok : O_X11_seal_131 N x0 x1 x3 x5 S) (hx : X (F_X11_seal_131 N x0 x1 x3 x5 S)) : cX G o dX11_seal mX11_seal 131 [some (va_rf x0), some (.int x1), none, some (.int x3), none, some (.int x5), none] [] S Q := by
  unfold O_X11_seal_131 at ok
  unfold F_X11_seal_131 at hx
  refine c_aload_nQ dX11_seal_131 rfl rfl ?_
  refine c_iload_n dX11_seal_132 rfl rfl ?_
  refine c_V1qE (ci := 9) (rr := (RX11, TX11, 4)) (y' := mX11_honestNode) dX11_seal_133 lX11_120 kX11_honestNode ⟨by decide, by decide⟩ rfl rfl (by decide) ok.1.1 (Nat.le_of_ble_eq_true rfl) (cc_X11_honestNode hG ok.1.2) ?_
  have ok := ok.2
  refine c_astore_6Q dX11_seal_136 (by decide) rfl ?_
  refine c_aloadQ dX11_seal_138 rfl ?_
  refine c_ifnullI (tgt := 183) dX11_seal_140 (by decide) (fun c_140 => ?_) (fun c_140 => ?_)
  · have ok := ok.1 c_140
    have hx := xif_p c_140 hx
    exact cX.cutz (b_X11_seal_183 hG hR ok hx) ⟨rfl, trivial⟩
  · have ok := ok.2 c_140
    have hx := xif_n c_140 hx
    refine c_aloadQ dX11_seal_143 rfl ?_
    refine c_getR (C := RX6) (T := TX6) (N := 19) (ci := 5) (k := 5) ⟨rfl, inT6, by decide, fX11_124⟩ (by decide) (by decide) (by decide) dX11_seal_145 ok.1 ?_
    have ok := ok.2
    refine c_iconst (v := nI 0) dX11_seal_148 (by decide) ?_
    refine c_aload_nQ dX11_seal_149 rfl rfl ?_
    refine c_getR (C := RX11) (T := TX11) (N := 4) (ci := 9) (k := 1) ⟨rfl, inT11, by decide, fX11_9⟩ (by decide) (by decide) (by decide) dX11_seal_150 ok.1 ?_
    have ok := ok.2
    refine c_iload_n dX11_seal_153 rfl rfl ?_
    refine c_iconst (v := nI 3) dX11_seal_154 (by decide) ?_
    refine c_iadd dX11_seal_155 ?_
    refine c_bipush (v := nI 32) dX11_seal_156 (by decide) ?_
    refine c_copy0 hG dX11_seal_158 qX11_53 (by decide) (by decide) ok.1 ?_
    have ok := ok.2
    exact cX.cutz (b_X11_seal_161 hG hR ok hx) ⟨rfl, rfl, rfl, rfl, trivial⟩
def F_X11_seal_112 (N : Nat) (x0 : Option Nat) (x1 : Int32) (x3 : Int32) (x5 : Int32) (s0 : Int32) (S : cS) : Int32 × cS := (F_X11_seal_131 N x0 x1 x3 x5 (f_X2_top N S (za (cR S 5 (za (cR S 0 (za x0))))) (cR S 1 (za x0)) (x1 + (nI 67))))
def O_X11_seal_112 (N : Nat) (x0 : Option Nat) (x1 : Int32) (x3 : Int32) (x5 : Int32) (s0 : Int32) (S : cS) : Prop := (cis S x0 10) ∧ (cis S (cR S 0 (za x0)) 9) ∧ (cis S x0 10) ∧ (cis S (cR S 5 (za (cR S 0 (za x0)))) 3 ∧ o_X2_top N S (za (cR S 5 (za (cR S 0 (za x0))))) (cR S 1 (za x0)) (x1 + (nI 67))) ∧ O_X11_seal_131 N x0 x1 x3 x5 (f_X2_top N S (za (cR S 5 (za (cR S 0 (za x0))))) (cR S 1 (za x0)) (x1 + (nI 67)))
set_option maxRecDepth 100000 in
set_option maxHeartbeats 4000000 in
theorem b_X11_seal_112 {G : zG} {o : cO} {S : cS} {N : Nat} {Q : Option Value → cS → Prop} {X : Int32 × cS → Prop} (hG : zOK G) (hR : ∀ v S', X (v, S') → Q (some (.int v)) S') {x0 : Option Nat} {x1 : Int32} {x3 : Int32} {x5 : Int32} {s0 : Int32} (ok : O_X11_seal_112 N x0 x1 x3 x5 s0 S) (hx : X (F_X11_seal_112 N x0 x1 x3 x5 s0 S)) : cX G o dX11_seal mX11_seal 112 [some (va_rf x0), some (.int x1), none, some (.int x3), none, some (.int x5), none] [.int s0] S Q := by
  unfold O_X11_seal_112 at ok
  unfold F_X11_seal_112 at hx
  refine c_pop dX11_seal_112 rfl ?_
  refine c_aload_nQ dX11_seal_113 rfl rfl ?_
  refine c_getR (C := RX11) (T := TX11) (N := 4) (ci := 9) (k := 0) ⟨rfl, inT11, by decide, fX11_22⟩ (by decide) (by decide) (by decide) dX11_seal_114 ok.1 ?_
  have ok := ok.2
  refine c_getR (C := RX10) (T := TX10) (N := 12) (ci := 8) (k := 5) ⟨rfl, inT10, by decide, fX11_103⟩ (by decide) (by decide) (by decide) dX11_seal_117 ok.1 ?_
  have ok := ok.2
  refine c_aload_nQ dX11_seal_120 rfl rfl ?_
  refine c_getR (C := RX11) (T := TX11) (N := 4) (ci := 9) (k := 1) ⟨rfl, inT11, by decide, fX11_9⟩ (by decide) (by decide) (by decide) dX11_seal_121 ok.1 ?_
  have ok := ok.2
  refine c_iload_n dX11_seal_124 rfl rfl ?_
  refine c_bipush (v := nI 67) dX11_seal_125 (by decide) ?_
  refine c_iadd dX11_seal_127 ?_
  refine c_V2vE (ci := 2) (rr := (RX2, TX2, 6)) (y' := mX2_top) dX11_seal_128 lX11_117 kX2_top ⟨by decide, by decide⟩ rfl rfl (by decide) ok.1.1 (Nat.le_of_ble_eq_true rfl) (cc_X2_top hG ok.1.2) ?_
  have ok := ok.2
  exact cX.cutz (b_X11_seal_131 hG hR ok hx) ⟨rfl, rfl, rfl, rfl, trivial⟩
def F_X11_seal_96 (N : Nat) (x0 : Option Nat) (x1 : Int32) (x3 : Int32) (x5 : Int32) (S : cS) : Int32 × cS := (F_X11_seal_112 N x0 x1 x3 x5 ((f_X2_climb N S (za (cR S 5 (za (cR S 0 (za x0))))) (-1) (cR S 1 (za x0)) x1).1) (f_X2_climb N S (za (cR S 5 (za (cR S 0 (za x0))))) (-1) (cR S 1 (za x0)) x1).2)
def O_X11_seal_96 (N : Nat) (x0 : Option Nat) (x1 : Int32) (x3 : Int32) (x5 : Int32) (S : cS) : Prop := (cis S x0 10) ∧ (cis S (cR S 0 (za x0)) 9) ∧ (cis S x0 10) ∧ (cis S (cR S 5 (za (cR S 0 (za x0)))) 3 ∧ o_X2_climb N S (za (cR S 5 (za (cR S 0 (za x0))))) (-1) (cR S 1 (za x0)) x1) ∧ O_X11_seal_112 N x0 x1 x3 x5 ((f_X2_climb N S (za (cR S 5 (za (cR S 0 (za x0))))) (-1) (cR S 1 (za x0)) x1).1) (f_X2_climb N S (za (cR S 5 (za (cR S 0 (za x0))))) (-1) (cR S 1 (za x0)) x1).2
set_option maxRecDepth 100000 in
set_option maxHeartbeats 4000000 in
theorem b_X11_seal_96 {G : zG} {o : cO} {S : cS} {N : Nat} {Q : Option Value → cS → Prop} {X : Int32 × cS → Prop} (hG : zOK G) (hR : ∀ v S', X (v, S') → Q (some (.int v)) S') {x0 : Option Nat} {x1 : Int32} {x3 : Int32} {x5 : Int32} (ok : O_X11_seal_96 N x0 x1 x3 x5 S) (hx : X (F_X11_seal_96 N x0 x1 x3 x5 S)) : cX G o dX11_seal mX11_seal 96 [some (va_rf x0), some (.int x1), none, some (.int x3), none, some (.int x5), none] [] S Q := by
  unfold O_X11_seal_96 at ok
  unfold F_X11_seal_96 at hx
  refine c_aload_nQ dX11_seal_96 rfl rfl ?_
  refine c_getR (C := RX11) (T := TX11) (N := 4) (ci := 9) (k := 0) ⟨rfl, inT11, by decide, fX11_22⟩ (by decide) (by decide) (by decide) dX11_seal_97 ok.1 ?_
  have ok := ok.2
  refine c_getR (C := RX10) (T := TX10) (N := 12) (ci := 8) (k := 5) ⟨rfl, inT10, by decide, fX11_103⟩ (by decide) (by decide) (by decide) dX11_seal_100 ok.1 ?_
  have ok := ok.2
  refine c_iconst (v := -1) dX11_seal_103 (by decide) ?_
  refine c_aload_nQ dX11_seal_104 rfl rfl ?_
  refine c_getR (C := RX11) (T := TX11) (N := 4) (ci := 9) (k := 1) ⟨rfl, inT11, by decide, fX11_9⟩ (by decide) (by decide) (by decide) dX11_seal_105 ok.1 ?_
  have ok := ok.2
  refine c_iload_n dX11_seal_108 rfl rfl ?_
  refine c_V3iE (ci := 2) (rr := (RX2, TX2, 6)) (y' := mX2_climb) dX11_seal_109 lX11_113 kX2_climb ⟨by decide, by decide⟩ rfl rfl (by decide) ok.1.1 (Nat.le_of_ble_eq_true rfl) (cc_X2_climb hG ok.1.2) ?_
  have ok := ok.2
  exact cX.cutz (b_X11_seal_112 hG hR ok hx) ⟨rfl, rfl, rfl, rfl, trivial⟩
def F_X11_seal_55 (N : Nat) (x0 : Option Nat) (x1 : Int32) (x2 : Int32) (x3 : Int32) (x4 : Int32) (S : cS) : Int32 × cS := (F_X11_seal_96 N x0 x1 x3 (if ((x2 - x4) / (nI 7)) < (nI 64) then ((x2 - x4) / (nI 7)) else (nI 64)) (f_X2_plant N (csA S (za (cR S 1 (za x0))) (x1 + (nI 99)).toNatClampNeg (((if ((x2 - x4) / (nI 7)) < (nI 64) then ((x2 - x4) / (nI 7)) else (nI 64)).toInt8.toInt32).toInt8.toInt32)) (za (cR (csA S (za (cR S 1 (za x0))) (x1 + (nI 99)).toNatClampNeg (((if ((x2 - x4) / (nI 7)) < (nI 64) then ((x2 - x4) / (nI 7)) else (nI 64)).toInt8.toInt32).toInt8.toInt32)) 5 (za (cR (csA S (za (cR S 1 (za x0))) (x1 + (nI 99)).toNatClampNeg (((if ((x2 - x4) / (nI 7)) < (nI 64) then ((x2 - x4) / (nI 7)) else (nI 64)).toInt8.toInt32).toInt8.toInt32)) 0 (za x0))))) (cR (csA S (za (cR S 1 (za x0))) (x1 + (nI 99)).toNatClampNeg (((if ((x2 - x4) / (nI 7)) < (nI 64) then ((x2 - x4) / (nI 7)) else (nI 64)).toInt8.toInt32).toInt8.toInt32)) 1 (za x0)) x1))
def O_X11_seal_55 (N : Nat) (x0 : Option Nat) (x1 : Int32) (x2 : Int32) (x3 : Int32) (x4 : Int32) (S : cS) : Prop := (cis S x0 10) ∧ (cis S (cR S 1 (za x0)) 20 ∧ vp_in (x1 + (nI 99)) (cL S (za (cR S 1 (za x0))))) ∧ (cis (csA S (za (cR S 1 (za x0))) (x1 + (nI 99)).toNatClampNeg (((if ((x2 - x4) / (nI 7)) < (nI 64) then ((x2 - x4) / (nI 7)) else (nI 64)).toInt8.toInt32).toInt8.toInt32)) x0 10) ∧ (cis (csA S (za (cR S 1 (za x0))) (x1 + (nI 99)).toNatClampNeg (((if ((x2 - x4) / (nI 7)) < (nI 64) then ((x2 - x4) / (nI 7)) else (nI 64)).toInt8.toInt32).toInt8.toInt32)) (cR (csA S (za (cR S 1 (za x0))) (x1 + (nI 99)).toNatClampNeg (((if ((x2 - x4) / (nI 7)) < (nI 64) then ((x2 - x4) / (nI 7)) else (nI 64)).toInt8.toInt32).toInt8.toInt32)) 0 (za x0)) 9) ∧ (cis (csA S (za (cR S 1 (za x0))) (x1 + (nI 99)).toNatClampNeg (((if ((x2 - x4) / (nI 7)) < (nI 64) then ((x2 - x4) / (nI 7)) else (nI 64)).toInt8.toInt32).toInt8.toInt32)) x0 10) ∧ (cis (csA S (za (cR S 1 (za x0))) (x1 + (nI 99)).toNatClampNeg (((if ((x2 - x4) / (nI 7)) < (nI 64) then ((x2 - x4) / (nI 7)) else (nI 64)).toInt8.toInt32).toInt8.toInt32)) (cR (csA S (za (cR S 1 (za x0))) (x1 + (nI 99)).toNatClampNeg (((if ((x2 - x4) / (nI 7)) < (nI 64) then ((x2 - x4) / (nI 7)) else (nI 64)).toInt8.toInt32).toInt8.toInt32)) 5 (za (cR (csA S (za (cR S 1 (za x0))) (x1 + (nI 99)).toNatClampNeg (((if ((x2 - x4) / (nI 7)) < (nI 64) then ((x2 - x4) / (nI 7)) else (nI 64)).toInt8.toInt32).toInt8.toInt32)) 0 (za x0)))) 3 ∧ o_X2_plant N (csA S (za (cR S 1 (za x0))) (x1 + (nI 99)).toNatClampNeg (((if ((x2 - x4) / (nI 7)) < (nI 64) then ((x2 - x4) / (nI 7)) else (nI 64)).toInt8.toInt32).toInt8.toInt32)) (za (cR (csA S (za (cR S 1 (za x0))) (x1 + (nI 99)).toNatClampNeg (((if ((x2 - x4) / (nI 7)) < (nI 64) then ((x2 - x4) / (nI 7)) else (nI 64)).toInt8.toInt32).toInt8.toInt32)) 5 (za (cR (csA S (za (cR S 1 (za x0))) (x1 + (nI 99)).toNatClampNeg (((if ((x2 - x4) / (nI 7)) < (nI 64) then ((x2 - x4) / (nI 7)) else (nI 64)).toInt8.toInt32).toInt8.toInt32)) 0 (za x0))))) (cR (csA S (za (cR S 1 (za x0))) (x1 + (nI 99)).toNatClampNeg (((if ((x2 - x4) / (nI 7)) < (nI 64) then ((x2 - x4) / (nI 7)) else (nI 64)).toInt8.toInt32).toInt8.toInt32)) 1 (za x0)) x1) ∧ O_X11_seal_96 N x0 x1 x3 (if ((x2 - x4) / (nI 7)) < (nI 64) then ((x2 - x4) / (nI 7)) else (nI 64)) (f_X2_plant N (csA S (za (cR S 1 (za x0))) (x1 + (nI 99)).toNatClampNeg (((if ((x2 - x4) / (nI 7)) < (nI 64) then ((x2 - x4) / (nI 7)) else (nI 64)).toInt8.toInt32).toInt8.toInt32)) (za (cR (csA S (za (cR S 1 (za x0))) (x1 + (nI 99)).toNatClampNeg (((if ((x2 - x4) / (nI 7)) < (nI 64) then ((x2 - x4) / (nI 7)) else (nI 64)).toInt8.toInt32).toInt8.toInt32)) 5 (za (cR (csA S (za (cR S 1 (za x0))) (x1 + (nI 99)).toNatClampNeg (((if ((x2 - x4) / (nI 7)) < (nI 64) then ((x2 - x4) / (nI 7)) else (nI 64)).toInt8.toInt32).toInt8.toInt32)) 0 (za x0))))) (cR (csA S (za (cR S 1 (za x0))) (x1 + (nI 99)).toNatClampNeg (((if ((x2 - x4) / (nI 7)) < (nI 64) then ((x2 - x4) / (nI 7)) else (nI 64)).toInt8.toInt32).toInt8.toInt32)) 1 (za x0)) x1)
set_option maxRecDepth 100000 in
set_option maxHeartbeats 4000000 in
theorem b_X11_seal_55 {G : zG} {o : cO} {S : cS} {N : Nat} {Q : Option Value → cS → Prop} {X : Int32 × cS → Prop} (hG : zOK G) (hR : ∀ v S', X (v, S') → Q (some (.int v)) S') {x0 : Option Nat} {x1 : Int32} {x2 : Int32} {x3 : Int32} {x4 : Int32} (ok : O_X11_seal_55 N x0 x1 x2 x3 x4 S) (hx : X (F_X11_seal_55 N x0 x1 x2 x3 x4 S)) : cX G o dX11_seal mX11_seal 55 [some (va_rf x0), some (.int x1), some (.int x2), some (.int x3), some (.int x4), none, none] [] S Q := by
  unfold O_X11_seal_55 at ok
  unfold F_X11_seal_55 at hx
  refine c_bipush (v := nI 64) dX11_seal_55 (by decide) ?_
  refine c_iload_n dX11_seal_57 rfl rfl ?_
  refine c_iload dX11_seal_58 rfl ?_
  refine c_isub dX11_seal_60 ?_
  refine c_bipush (v := nI 7) dX11_seal_61 (by decide) ?_
  refine c_idiv dX11_seal_63 (by decide) ?_
  refine c_mmin dX11_seal_64 lX11_98.1 (by decide) (by decide) ?_
  refine c_istore_5 dX11_seal_67 (by decide) rfl ?_
  refine c_aload_nQ dX11_seal_69 rfl rfl ?_
  refine c_getR (C := RX11) (T := TX11) (N := 4) (ci := 9) (k := 1) ⟨rfl, inT11, by decide, fX11_9⟩ (by decide) (by decide) (by decide) dX11_seal_70 ok.1 ?_
  have ok := ok.2
  refine c_iload_n dX11_seal_73 rfl rfl ?_
  refine c_bipush (v := nI 99) dX11_seal_74 (by decide) ?_
  refine c_iadd dX11_seal_76 ?_
  refine c_iload dX11_seal_77 rfl ?_
  refine c_i2b dX11_seal_79 ?_
  refine c_bast dX11_seal_80 ok.1 ?_
  have ok := ok.2
  refine c_aload_nQ dX11_seal_81 rfl rfl ?_
  refine c_getR (C := RX11) (T := TX11) (N := 4) (ci := 9) (k := 0) ⟨rfl, inT11, by decide, fX11_22⟩ (by decide) (by decide) (by decide) dX11_seal_82 ok.1 ?_
  have ok := ok.2
  refine c_getR (C := RX10) (T := TX10) (N := 12) (ci := 8) (k := 5) ⟨rfl, inT10, by decide, fX11_103⟩ (by decide) (by decide) (by decide) dX11_seal_85 ok.1 ?_
  have ok := ok.2
  refine c_aload_nQ dX11_seal_88 rfl rfl ?_
  refine c_getR (C := RX11) (T := TX11) (N := 4) (ci := 9) (k := 1) ⟨rfl, inT11, by decide, fX11_9⟩ (by decide) (by decide) (by decide) dX11_seal_89 ok.1 ?_
  have ok := ok.2
  refine c_iload_n dX11_seal_92 rfl rfl ?_
  refine c_V2vE (ci := 2) (rr := (RX2, TX2, 6)) (y' := mX2_plant) dX11_seal_93 lX11_107 kX2_plant ⟨by decide, by decide⟩ rfl rfl (by decide) ok.1.1 (Nat.le_of_ble_eq_true rfl) (cc_X2_plant hG ok.1.2) ?_
  have ok := ok.2
  exact cX.cutz (b_X11_seal_96 hG hR ok hx) ⟨rfl, rfl, rfl, rfl, trivial⟩
def F_X11_seal_24 (N : Nat)  (S : cS) : Int32 × cS := ((-1), S)
def O_X11_seal_24 (N : Nat)  (S : cS) : Prop := True
set_option maxRecDepth 100000 in
set_option maxHeartbeats 4000000 in
theorem b_X11_seal_24 {G : zG} {o : cO} {S : cS} {N : Nat} {Q : Option Value → cS → Prop} {X : Int32 × cS → Prop} (hG : zOK G) (hR : ∀ v S', X (v, S') → Q (some (.int v)) S') (ok : O_X11_seal_24 N S) (hx : X (F_X11_seal_24 N S)) : cX G o dX11_seal mX11_seal 24 [none, none, none, none, none, none, none] [] S Q := by
  unfold O_X11_seal_24 at ok
  unfold F_X11_seal_24 at hx
  refine c_iconst (v := -1) dX11_seal_24 (by decide) ?_
  exact c_ireturn rfl rfl dX11_seal_25 (hR _ _ hx)
def F_X11_seal_0 (N : Nat) (x0 : Option Nat) (x1 : Int32) (x2 : Int32) (x3 : Int32) (S : cS) : Int32 × cS := (if x1 < 0 then (F_X11_seal_24 N S) else (if x2 < 0 then (F_X11_seal_24 N S) else (if (cI S 3 (za x0)) < x2 then (F_X11_seal_24 N S) else (if (nI 101) ≤ (x2 - x1) then (if 0 ≤ (f_X11_behindEvidences N S (za x0) x1 x2) then (F_X11_seal_55 N x0 x1 x2 x3 (f_X11_behindEvidences N S (za x0) x1 x2) S) else (F_X11_seal_55 N x0 x1 x2 x3 (x1 + (nI 101)) (csA S (za (cR S 1 (za x0))) (x1 + (nI 100)).toNatClampNeg ((nI 0).toInt8.toInt32)))) else (F_X11_seal_24 N S)))))
def O_X11_seal_0 (N : Nat) (x0 : Option Nat) (x1 : Int32) (x2 : Int32) (x3 : Int32) (S : cS) : Prop := ((x1 < 0 → O_X11_seal_24 N S) ∧ (¬ x1 < 0 → ((x2 < 0 → O_X11_seal_24 N S) ∧ (¬ x2 < 0 → (cis S x0 10) ∧ (((cI S 3 (za x0)) < x2 → O_X11_seal_24 N S) ∧ (¬ (cI S 3 (za x0)) < x2 → (((nI 101) ≤ (x2 - x1) → (cis S x0 10 ∧ o_X11_behindEvidences N S (za x0) x1 x2) ∧ ((0 ≤ (f_X11_behindEvidences N S (za x0) x1 x2) → O_X11_seal_55 N x0 x1 x2 x3 (f_X11_behindEvidences N S (za x0) x1 x2) S) ∧ (¬ 0 ≤ (f_X11_behindEvidences N S (za x0) x1 x2) → (cis S x0 10) ∧ (cis S (cR S 1 (za x0)) 20 ∧ vp_in (x1 + (nI 100)) (cL S (za (cR S 1 (za x0))))) ∧ O_X11_seal_55 N x0 x1 x2 x3 (x1 + (nI 101)) (csA S (za (cR S 1 (za x0))) (x1 + (nI 100)).toNatClampNeg ((nI 0).toInt8.toInt32))))) ∧ (¬ (nI 101) ≤ (x2 - x1) → O_X11_seal_24 N S))))))))
set_option maxRecDepth 100000 in
set_option maxHeartbeats 4000000 in
theorem b_X11_seal_0 {G : zG} {o : cO} {S : cS} {N : Nat} {Q : Option Value → cS → Prop} {X : Int32 × cS → Prop} (hG : zOK G) (hR : ∀ v S', X (v, S') → Q (some (.int v)) S') {x0 : Option Nat} {x1 : Int32} {x2 : Int32} {x3 : Int32} (ok : O_X11_seal_0 N x0 x1 x2 x3 S) (hx : X (F_X11_seal_0 N x0 x1 x2 x3 S)) : cX G o dX11_seal mX11_seal 0 [some (va_rf x0), some (.int x1), some (.int x2), some (.int x3), none, none, none] [] S Q := by
  unfold O_X11_seal_0 at ok
  unfold F_X11_seal_0 at hx
  refine c_iload_n dX11_seal_0 rfl rfl ?_
  refine c_if_lt (tgt := 24) dX11_seal_1 (by decide) (fun c_1 => ?_) (fun c_1 => ?_)
  · have ok := ok.1 c_1
    have hx := xif_p c_1 hx
    exact cX.cutz (b_X11_seal_24 hG hR ok hx) trivial
  · have ok := ok.2 c_1
    have hx := xif_n c_1 hx
    refine c_iload_n dX11_seal_4 rfl rfl ?_
    refine c_if_lt (tgt := 24) dX11_seal_5 (by decide) (fun c_5 => ?_) (fun c_5 => ?_)
    · have ok := ok.1 c_5
      have hx := xif_p c_5 hx
      exact cX.cutz (b_X11_seal_24 hG hR ok hx) trivial
    · have ok := ok.2 c_5
      have hx := xif_n c_5 hx
      refine c_iload_n dX11_seal_8 rfl rfl ?_
      refine c_aload_nQ dX11_seal_9 rfl rfl ?_
      refine c_getI (C := RX11) (T := TX11) (N := 4) (ci := 9) (k := 3) ⟨rfl, inT11, by decide, fX11_26⟩ (by decide) (by decide) (by decide) dX11_seal_10 ok.1 ?_
      have ok := ok.2
      refine c_icmp_gt (tgt := 24) dX11_seal_13 (by decide) (fun c_13 => ?_) (fun c_13 => ?_)
      · have ok := ok.1 c_13
        have hx := xif_p c_13 hx
        exact cX.cutz (b_X11_seal_24 hG hR ok hx) trivial
      · have ok := ok.2 c_13
        have hx := xif_n c_13 hx
        refine c_iload_n dX11_seal_16 rfl rfl ?_
        refine c_iload_n dX11_seal_17 rfl rfl ?_
        refine c_isub dX11_seal_18 ?_
        refine c_bipush (v := nI 101) dX11_seal_19 (by decide) ?_
        refine c_icmp_ge (tgt := 26) dX11_seal_21 (by decide) (fun c_21 => ?_) (fun c_21 => ?_)
        · have ok := ok.1 c_21
          have hx := xif_p c_21 hx
          refine c_aload_nQ dX11_seal_26 rfl rfl ?_
          refine c_iload_n dX11_seal_27 rfl rfl ?_
          refine c_iload_n dX11_seal_28 rfl rfl ?_
          refine c_V2iE (ci := 9) (rr := (RX11, TX11, 4)) (y' := mX11_behindEvidences) dX11_seal_29 lX11_94 kX11_behindEvidences ⟨by decide, by decide⟩ rfl rfl (by decide) ok.1.1 (Nat.le_of_ble_eq_true rfl) (cc_X11_behindEvidences hG ok.1.2) ?_
          have ok := ok.2
          refine c_istore_4 dX11_seal_32 (by decide) rfl ?_
          refine c_iload dX11_seal_34 rfl ?_
          refine c_if_ge (tgt := 55) dX11_seal_36 (by decide) (fun c_36 => ?_) (fun c_36 => ?_)
          · have ok := ok.1 c_36
            have hx := xif_p c_36 hx
            exact cX.cutz (b_X11_seal_55 hG hR ok hx) ⟨rfl, rfl, rfl, rfl, rfl, trivial⟩
          · have ok := ok.2 c_36
            have hx := xif_n c_36 hx
            refine c_aload_nQ dX11_seal_39 rfl rfl ?_
            refine c_getR (C := RX11) (T := TX11) (N := 4) (ci := 9) (k := 1) ⟨rfl, inT11, by decide, fX11_9⟩ (by decide) (by decide) (by decide) dX11_seal_40 ok.1 ?_
            have ok := ok.2
            refine c_iload_n dX11_seal_43 rfl rfl ?_
            refine c_bipush (v := nI 100) dX11_seal_44 (by decide) ?_
            refine c_iadd dX11_seal_46 ?_
            refine c_iconst (v := nI 0) dX11_seal_47 (by decide) ?_
            refine c_bast dX11_seal_48 ok.1 ?_
            have ok := ok.2
            refine c_iload_n dX11_seal_49 rfl rfl ?_
            refine c_bipush (v := nI 101) dX11_seal_50 (by decide) ?_
            refine c_iadd dX11_seal_52 ?_
            refine c_istore_4 dX11_seal_53 (by decide) rfl ?_
            exact cX.cutz (b_X11_seal_55 hG hR ok hx) ⟨rfl, rfl, rfl, rfl, rfl, trivial⟩
        · have ok := ok.2 c_21
          have hx := xif_n c_21 hx
          exact cX.cutz (b_X11_seal_24 hG hR ok hx) trivial
def f_X11_seal (N : Nat) (S : cS) (a0 : Nat) (x1 : Int32) (x2 : Int32) (x3 : Int32) : Int32 × cS := F_X11_seal_0 N (some a0) x1 x2 x3 S
def o_X11_seal (N : Nat) (S : cS) (a0 : Nat) (x1 : Int32) (x2 : Int32) (x3 : Int32) : Prop := O_X11_seal_0 N (some a0) x1 x2 x3 S
set_option maxRecDepth 100000 in
set_option maxHeartbeats 4000000 in
theorem cc_X11_seal {G : zG} {o : cO} {S : cS} {N : Nat} (hG : zOK G) {a0 : Nat} {x1 : Int32} {x2 : Int32} {x3 : Int32} (ok : o_X11_seal N S a0 x1 x2 x3) : cCi G o dX11_seal mX11_seal [.ref a0, .int x1, .int x2, .int x3] S (fun v S' => v = (f_X11_seal N S a0 x1 x2 x3).1 ∧ S' = (f_X11_seal N S a0 x1 x2 x3).2) := by
  refine cC.ofX rfl (by exact Nat.le_of_ble_eq_true rfl) ?_
  show cX G o dX11_seal mX11_seal 0 [some (.ref a0), some (.int x1), some (.int x2), some (.int x3), none, none, none] [] S _
  exact cX.cutz (b_X11_seal_0 (X := fun F => F = f_X11_seal N S a0 x1 x2 x3) hG (fun v S' h => ⟨v, rfl, by rw [← h], by rw [← h]⟩) ok rfl) ⟨rfl, rfl, rfl, rfl, trivial⟩
/-! X11_stamp -/
def F_X11_stamp_146 (N : Nat)  (S : cS) : Int32 × cS := ((nI 1), S)
def O_X11_stamp_146 (N : Nat)  (S : cS) : Prop := True
set_option maxRecDepth 100000 in
set_option maxHeartbeats 4000000 in
theorem b_X11_stamp_146 {G : zG} {o : cO} {S : cS} {N : Nat} {Q : Option Value → cS → Prop} {X : Int32 × cS → Prop} (hG : zOK G) (hR : ∀ v S', X (v, S') → Q (some (.int v)) S') (ok : O_X11_stamp_146 N S) (hx : X (F_X11_stamp_146 N S)) : cX G o dX11_stamp mX11_stamp 146 [none, none, none, none, none, none] [] S Q := by
  unfold O_X11_stamp_146 at ok
  unfold F_X11_stamp_146 at hx
  refine c_iconst (v := nI 1) dX11_stamp_146 (by decide) ?_
  exact c_ireturn rfl rfl dX11_stamp_147 (hR _ _ hx)
def F_X11_stamp_117 (N : Nat)  (S : cS) : Int32 × cS := ((nI 0), S)
def O_X11_stamp_117 (N : Nat)  (S : cS) : Prop := True
set_option maxRecDepth 100000 in
set_option maxHeartbeats 4000000 in
theorem b_X11_stamp_117 {G : zG} {o : cO} {S : cS} {N : Nat} {Q : Option Value → cS → Prop} {X : Int32 × cS → Prop} (hG : zOK G) (hR : ∀ v S', X (v, S') → Q (some (.int v)) S') (ok : O_X11_stamp_117 N S) (hx : X (F_X11_stamp_117 N S)) : cX G o dX11_stamp mX11_stamp 117 [none, none, none, none, none, none] [] S Q := by
  unfold O_X11_stamp_117 at ok
  unfold F_X11_stamp_117 at hx
  refine c_iconst (v := nI 0) dX11_stamp_117 (by decide) ?_
  exact c_ireturn rfl rfl dX11_stamp_118 (hR _ _ hx)
def F_X11_stamp_92 (N : Nat) (x0 : Option Nat) (x1 : Int32) (x4 : Option Nat) (s0 : Int32) (S : cS) : Int32 × cS := (if x4 = none then (F_X11_stamp_117 N S) else (if s0 < 0 then (F_X11_stamp_117 N S) else (if (nI 101) ≤ ((cI S 2 (za x4)) - s0) then (F_X11_stamp_146 N (f_X2_digest N S (za (cR S 5 (za (cR S 0 (za x0))))) (cR S 0 (za x4)) s0 (s0 + (nI 101)) (cR S 1 (za x0)) x1)) else (F_X11_stamp_117 N S))))
def O_X11_stamp_92 (N : Nat) (x0 : Option Nat) (x1 : Int32) (x4 : Option Nat) (s0 : Int32) (S : cS) : Prop := ((x4 = none → O_X11_stamp_117 N S) ∧ (¬ x4 = none → ((s0 < 0 → O_X11_stamp_117 N S) ∧ (¬ s0 < 0 → (cis S x4 5) ∧ (((nI 101) ≤ ((cI S 2 (za x4)) - s0) → (cis S x0 10) ∧ (cis S (cR S 0 (za x0)) 9) ∧ (cis S x4 5) ∧ (cis S x0 10) ∧ (cis S (cR S 5 (za (cR S 0 (za x0)))) 3 ∧ o_X2_digest N S (za (cR S 5 (za (cR S 0 (za x0))))) (cR S 0 (za x4)) s0 (s0 + (nI 101)) (cR S 1 (za x0)) x1) ∧ O_X11_stamp_146 N (f_X2_digest N S (za (cR S 5 (za (cR S 0 (za x0))))) (cR S 0 (za x4)) s0 (s0 + (nI 101)) (cR S 1 (za x0)) x1)) ∧ (¬ (nI 101) ≤ ((cI S 2 (za x4)) - s0) → O_X11_stamp_117 N S))))))
set_option maxRecDepth 100000 in
set_option maxHeartbeats 4000000 in
theorem b_X11_stamp_92 {G : zG} {o : cO} {S : cS} {N : Nat} {Q : Option Value → cS → Prop} {X : Int32 × cS → Prop} (hG : zOK G) (hR : ∀ v S', X (v, S') → Q (some (.int v)) S') {x0 : Option Nat} {x1 : Int32} {x4 : Option Nat} {s0 : Int32} (ok : O_X11_stamp_92 N x0 x1 x4 s0 S) (hx : X (F_X11_stamp_92 N x0 x1 x4 s0 S)) : cX G o dX11_stamp mX11_stamp 92 [some (va_rf x0), some (.int x1), none, none, some (va_rf x4), none] [.int s0] S Q := by
  unfold O_X11_stamp_92 at ok
  unfold F_X11_stamp_92 at hx
  refine c_istore_5 dX11_stamp_92 (by decide) (by simp [zok, zg, zcat_rf]) ?_
  refine c_aloadQ dX11_stamp_94 rfl ?_
  refine c_ifnullI (tgt := 117) dX11_stamp_96 (by decide) (fun c_96 => ?_) (fun c_96 => ?_)
  · have ok := ok.1 c_96
    have hx := xif_p c_96 hx
    exact cX.cutz (b_X11_stamp_117 hG hR ok hx) trivial
  · have ok := ok.2 c_96
    have hx := xif_n c_96 hx
    refine c_iload dX11_stamp_99 rfl ?_
    refine c_if_lt (tgt := 117) dX11_stamp_101 (by decide) (fun c_101 => ?_) (fun c_101 => ?_)
    · have ok := ok.1 c_101
      have hx := xif_p c_101 hx
      exact cX.cutz (b_X11_stamp_117 hG hR ok hx) trivial
    · have ok := ok.2 c_101
      have hx := xif_n c_101 hx
      refine c_aloadQ dX11_stamp_104 rfl ?_
      refine c_getI (C := RX5) (T := TX5) (N := 7) (ci := 4) (k := 2) ⟨rfl, inT5, by decide, fX11_150⟩ (by decide) (by decide) (by decide) dX11_stamp_106 ok.1 ?_
      have ok := ok.2
      refine c_iload dX11_stamp_109 rfl ?_
      refine c_isub dX11_stamp_111 ?_
      refine c_bipush (v := nI 101) dX11_stamp_112 (by decide) ?_
      refine c_icmp_ge (tgt := 119) dX11_stamp_114 (by decide) (fun c_114 => ?_) (fun c_114 => ?_)
      · have ok := ok.1 c_114
        have hx := xif_p c_114 hx
        refine c_aload_nQ dX11_stamp_119 rfl rfl ?_
        refine c_getR (C := RX11) (T := TX11) (N := 4) (ci := 9) (k := 0) ⟨rfl, inT11, by decide, fX11_22⟩ (by decide) (by decide) (by decide) dX11_stamp_120 ok.1 ?_
        have ok := ok.2
        refine c_getR (C := RX10) (T := TX10) (N := 12) (ci := 8) (k := 5) ⟨rfl, inT10, by decide, fX11_103⟩ (by decide) (by decide) (by decide) dX11_stamp_123 ok.1 ?_
        have ok := ok.2
        refine c_aloadQ dX11_stamp_126 rfl ?_
        refine c_getR (C := RX5) (T := TX5) (N := 7) (ci := 4) (k := 0) ⟨rfl, inT5, by decide, fX11_48⟩ (by decide) (by decide) (by decide) dX11_stamp_128 ok.1 ?_
        have ok := ok.2
        refine c_iload dX11_stamp_131 rfl ?_
        refine c_iload dX11_stamp_133 rfl ?_
        refine c_bipush (v := nI 101) dX11_stamp_135 (by decide) ?_
        refine c_iadd dX11_stamp_137 ?_
        refine c_aload_nQ dX11_stamp_138 rfl rfl ?_
        refine c_getR (C := RX11) (T := TX11) (N := 4) (ci := 9) (k := 1) ⟨rfl, inT11, by decide, fX11_9⟩ (by decide) (by decide) (by decide) dX11_stamp_139 ok.1 ?_
        have ok := ok.2
        refine c_iload_n dX11_stamp_142 rfl rfl ?_
        refine c_V5vE (ci := 2) (rr := (RX2, TX2, 6)) (y' := mX2_digest) dX11_stamp_143 lX11_142 kX2_digest ⟨by decide, by decide⟩ rfl rfl (by decide) ok.1.1 (Nat.le_of_ble_eq_true rfl) (cc_X2_digest hG ok.1.2) ?_
        have ok := ok.2
        exact cX.cutz (b_X11_stamp_146 hG hR ok hx) trivial
      · have ok := ok.2 c_114
        have hx := xif_n c_114 hx
        exact cX.cutz (b_X11_stamp_117 hG hR ok hx) trivial
def F_X11_stamp_63 (N : Nat)  (S : cS) : Int32 × cS := ((nI 1), S)
def O_X11_stamp_63 (N : Nat)  (S : cS) : Prop := True
set_option maxRecDepth 100000 in
set_option maxHeartbeats 4000000 in
theorem b_X11_stamp_63 {G : zG} {o : cO} {S : cS} {N : Nat} {Q : Option Value → cS → Prop} {X : Int32 × cS → Prop} (hG : zOK G) (hR : ∀ v S', X (v, S') → Q (some (.int v)) S') (ok : O_X11_stamp_63 N S) (hx : X (F_X11_stamp_63 N S)) : cX G o dX11_stamp mX11_stamp 63 [none, none, none, none, none, none] [] S Q := by
  unfold O_X11_stamp_63 at ok
  unfold F_X11_stamp_63 at hx
  refine c_iconst (v := nI 1) dX11_stamp_63 (by decide) ?_
  exact c_ireturn rfl rfl dX11_stamp_64 (hR _ _ hx)
def F_X11_stamp_37 (N : Nat)  (S : cS) : Int32 × cS := ((nI 0), S)
def O_X11_stamp_37 (N : Nat)  (S : cS) : Prop := True
set_option maxRecDepth 100000 in
set_option maxHeartbeats 4000000 in
theorem b_X11_stamp_37 {G : zG} {o : cO} {S : cS} {N : Nat} {Q : Option Value → cS → Prop} {X : Int32 × cS → Prop} (hG : zOK G) (hR : ∀ v S', X (v, S') → Q (some (.int v)) S') (ok : O_X11_stamp_37 N S) (hx : X (F_X11_stamp_37 N S)) : cX G o dX11_stamp mX11_stamp 37 [none, none, none, none, none, none] [] S Q := by
  unfold O_X11_stamp_37 at ok
  unfold F_X11_stamp_37 at hx
  refine c_iconst (v := nI 0) dX11_stamp_37 (by decide) ?_
  exact c_ireturn rfl rfl dX11_stamp_38 (hR _ _ hx)
def F_X11_stamp_15 (N : Nat)  (S : cS) : Int32 × cS := ((nI 0), S)
def O_X11_stamp_15 (N : Nat)  (S : cS) : Prop := True
set_option maxRecDepth 100000 in
set_option maxHeartbeats 4000000 in
theorem b_X11_stamp_15 {G : zG} {o : cO} {S : cS} {N : Nat} {Q : Option Value → cS → Prop} {X : Int32 × cS → Prop} (hG : zOK G) (hR : ∀ v S', X (v, S') → Q (some (.int v)) S') (ok : O_X11_stamp_15 N S) (hx : X (F_X11_stamp_15 N S)) : cX G o dX11_stamp mX11_stamp 15 [none, none, none, none, none, none] [] S Q := by
  unfold O_X11_stamp_15 at ok
  unfold F_X11_stamp_15 at hx
  refine c_iconst (v := nI 0) dX11_stamp_15 (by decide) ?_
  exact c_ireturn rfl rfl dX11_stamp_16 (hR _ _ hx)
def F_X11_stamp_0 (N : Nat) (x0 : Option Nat) (x1 : Int32) (x2 : Int32) (x3 : Int32) (S : cS) : Int32 × cS := (if x1 < 0 then (F_X11_stamp_15 N S) else (if x1 ≤ ((cI S 3 (za x0)) - (nI 32)) then (if x2 = (-1) then (if x3 < 0 then (F_X11_stamp_37 N S) else (if x3 ≤ ((cI S 3 (za x0)) - (nI 101)) then (F_X11_stamp_63 N (f_X2_digest N S (za (cR S 5 (za (cR S 0 (za x0))))) (cR S 1 (za x0)) x3 (x3 + (nI 101)) (cR S 1 (za x0)) x1)) else (F_X11_stamp_37 N S))) else (if (f_X9_loadOf N S (za (cR S 6 (za (cR S 0 (za x0))))) x2) = none then (F_X11_stamp_92 N x0 x1 (f_X9_loadOf N S (za (cR S 6 (za (cR S 0 (za x0))))) x2) (-1) S) else (F_X11_stamp_92 N x0 x1 (f_X9_loadOf N S (za (cR S 6 (za (cR S 0 (za x0))))) x2) (f_X5_blockAt N S (za (f_X9_loadOf N S (za (cR S 6 (za (cR S 0 (za x0))))) x2))) S))) else (F_X11_stamp_15 N S)))
def O_X11_stamp_0 (N : Nat) (x0 : Option Nat) (x1 : Int32) (x2 : Int32) (x3 : Int32) (S : cS) : Prop := ((x1 < 0 → O_X11_stamp_15 N S) ∧ (¬ x1 < 0 → (cis S x0 10) ∧ ((x1 ≤ ((cI S 3 (za x0)) - (nI 32)) → ((x2 = (-1) → ((x3 < 0 → O_X11_stamp_37 N S) ∧ (¬ x3 < 0 → (cis S x0 10) ∧ ((x3 ≤ ((cI S 3 (za x0)) - (nI 101)) → (cis S x0 10) ∧ (cis S (cR S 0 (za x0)) 9) ∧ (cis S x0 10) ∧ (cis S x0 10) ∧ (cis S (cR S 5 (za (cR S 0 (za x0)))) 3 ∧ o_X2_digest N S (za (cR S 5 (za (cR S 0 (za x0))))) (cR S 1 (za x0)) x3 (x3 + (nI 101)) (cR S 1 (za x0)) x1) ∧ O_X11_stamp_63 N (f_X2_digest N S (za (cR S 5 (za (cR S 0 (za x0))))) (cR S 1 (za x0)) x3 (x3 + (nI 101)) (cR S 1 (za x0)) x1)) ∧ (¬ x3 ≤ ((cI S 3 (za x0)) - (nI 101)) → O_X11_stamp_37 N S))))) ∧ (¬ x2 = (-1) → (cis S x0 10) ∧ (cis S (cR S 0 (za x0)) 9) ∧ (cis S (cR S 6 (za (cR S 0 (za x0)))) 8 ∧ o_X9_loadOf N S (za (cR S 6 (za (cR S 0 (za x0))))) x2) ∧ (((f_X9_loadOf N S (za (cR S 6 (za (cR S 0 (za x0))))) x2) = none → O_X11_stamp_92 N x0 x1 (f_X9_loadOf N S (za (cR S 6 (za (cR S 0 (za x0))))) x2) (-1) S) ∧ (¬ (f_X9_loadOf N S (za (cR S 6 (za (cR S 0 (za x0))))) x2) = none → (cis S (f_X9_loadOf N S (za (cR S 6 (za (cR S 0 (za x0))))) x2) 5 ∧ o_X5_blockAt N S (za (f_X9_loadOf N S (za (cR S 6 (za (cR S 0 (za x0))))) x2))) ∧ O_X11_stamp_92 N x0 x1 (f_X9_loadOf N S (za (cR S 6 (za (cR S 0 (za x0))))) x2) (f_X5_blockAt N S (za (f_X9_loadOf N S (za (cR S 6 (za (cR S 0 (za x0))))) x2))) S))))) ∧ (¬ x1 ≤ ((cI S 3 (za x0)) - (nI 32)) → O_X11_stamp_15 N S))))
set_option maxRecDepth 100000 in
set_option maxHeartbeats 4000000 in
theorem b_X11_stamp_0 {G : zG} {o : cO} {S : cS} {N : Nat} {Q : Option Value → cS → Prop} {X : Int32 × cS → Prop} (hG : zOK G) (hR : ∀ v S', X (v, S') → Q (some (.int v)) S') {x0 : Option Nat} {x1 : Int32} {x2 : Int32} {x3 : Int32} (ok : O_X11_stamp_0 N x0 x1 x2 x3 S) (hx : X (F_X11_stamp_0 N x0 x1 x2 x3 S)) : cX G o dX11_stamp mX11_stamp 0 [some (va_rf x0), some (.int x1), some (.int x2), some (.int x3), none, none] [] S Q := by
  unfold O_X11_stamp_0 at ok
  unfold F_X11_stamp_0 at hx
  refine c_iload_n dX11_stamp_0 rfl rfl ?_
  refine c_if_lt (tgt := 15) dX11_stamp_1 (by decide) (fun c_1 => ?_) (fun c_1 => ?_)
  · have ok := ok.1 c_1
    have hx := xif_p c_1 hx
    exact cX.cutz (b_X11_stamp_15 hG hR ok hx) trivial
  · have ok := ok.2 c_1
    have hx := xif_n c_1 hx
    refine c_iload_n dX11_stamp_4 rfl rfl ?_
    refine c_aload_nQ dX11_stamp_5 rfl rfl ?_
    refine c_getI (C := RX11) (T := TX11) (N := 4) (ci := 9) (k := 3) ⟨rfl, inT11, by decide, fX11_26⟩ (by decide) (by decide) (by decide) dX11_stamp_6 ok.1 ?_
    have ok := ok.2
    refine c_bipush (v := nI 32) dX11_stamp_9 (by decide) ?_
    refine c_isub dX11_stamp_11 ?_
    refine c_icmp_le (tgt := 17) dX11_stamp_12 (by decide) (fun c_12 => ?_) (fun c_12 => ?_)
    · have ok := ok.1 c_12
      have hx := xif_p c_12 hx
      refine c_iload_n dX11_stamp_17 rfl rfl ?_
      refine c_iconst (v := -1) dX11_stamp_18 (by decide) ?_
      refine c_icmp_ne (tgt := 65) dX11_stamp_19 (by decide) (fun c_19 => ?_) (fun c_19 => ?_)
      · have ok := ok.2 c_19
        have hx := xif_n c_19 hx
        refine c_aload_nQ dX11_stamp_65 rfl rfl ?_
        refine c_getR (C := RX11) (T := TX11) (N := 4) (ci := 9) (k := 0) ⟨rfl, inT11, by decide, fX11_22⟩ (by decide) (by decide) (by decide) dX11_stamp_66 ok.1 ?_
        have ok := ok.2
        refine c_getR (C := RX10) (T := TX10) (N := 12) (ci := 8) (k := 6) ⟨rfl, inT10, by decide, fX11_38⟩ (by decide) (by decide) (by decide) dX11_stamp_69 ok.1 ?_
        have ok := ok.2
        refine c_iload_n dX11_stamp_72 rfl rfl ?_
        refine c_V1qE (ci := 7) (rr := (RX9, TX9, 13)) (y' := mX9_loadOf) dX11_stamp_73 lX11_84 kX9_loadOf ⟨by decide, by decide⟩ rfl rfl (by decide) ok.1.1 (Nat.le_of_ble_eq_true rfl) (cc_X9_loadOf hG ok.1.2) ?_
        have ok := ok.2
        refine c_astore_4Q dX11_stamp_76 (by decide) rfl ?_
        refine c_aloadQ dX11_stamp_78 rfl ?_
        refine c_ifnonnullI (tgt := 87) dX11_stamp_80 (by decide) (fun c_80 => ?_) (fun c_80 => ?_)
        · have ok := ok.2 c_80
          have hx := xif_n c_80 hx
          refine c_aloadQ dX11_stamp_87 rfl ?_
          refine c_V0iE (ci := 4) (rr := (RX5, TX5, 7)) (y' := mX5_blockAt) dX11_stamp_89 lX11_146 kX5_blockAt ⟨by decide, by decide⟩ rfl rfl (by decide) ok.1.1 (Nat.le_of_ble_eq_true rfl) (cc_X5_blockAt hG ok.1.2) ?_
          have ok := ok.2
          exact cX.cutz (b_X11_stamp_92 hG hR ok hx) ⟨rfl, rfl, rfl, trivial⟩
        · have ok := ok.1 c_80
          have hx := xif_p c_80 hx
          refine c_iconst (v := -1) dX11_stamp_83 (by decide) ?_
          refine c_goto (tgt := 92) dX11_stamp_84 (by decide) ?_
          exact cX.cutz (b_X11_stamp_92 hG hR ok hx) ⟨rfl, rfl, rfl, trivial⟩
      · have ok := ok.1 c_19
        have hx := xif_p c_19 hx
        refine c_iload_n dX11_stamp_22 rfl rfl ?_
        refine c_if_lt (tgt := 37) dX11_stamp_23 (by decide) (fun c_23 => ?_) (fun c_23 => ?_)
        · have ok := ok.1 c_23
          have hx := xif_p c_23 hx
          exact cX.cutz (b_X11_stamp_37 hG hR ok hx) trivial
        · have ok := ok.2 c_23
          have hx := xif_n c_23 hx
          refine c_iload_n dX11_stamp_26 rfl rfl ?_
          refine c_aload_nQ dX11_stamp_27 rfl rfl ?_
          refine c_getI (C := RX11) (T := TX11) (N := 4) (ci := 9) (k := 3) ⟨rfl, inT11, by decide, fX11_26⟩ (by decide) (by decide) (by decide) dX11_stamp_28 ok.1 ?_
          have ok := ok.2
          refine c_bipush (v := nI 101) dX11_stamp_31 (by decide) ?_
          refine c_isub dX11_stamp_33 ?_
          refine c_icmp_le (tgt := 39) dX11_stamp_34 (by decide) (fun c_34 => ?_) (fun c_34 => ?_)
          · have ok := ok.1 c_34
            have hx := xif_p c_34 hx
            refine c_aload_nQ dX11_stamp_39 rfl rfl ?_
            refine c_getR (C := RX11) (T := TX11) (N := 4) (ci := 9) (k := 0) ⟨rfl, inT11, by decide, fX11_22⟩ (by decide) (by decide) (by decide) dX11_stamp_40 ok.1 ?_
            have ok := ok.2
            refine c_getR (C := RX10) (T := TX10) (N := 12) (ci := 8) (k := 5) ⟨rfl, inT10, by decide, fX11_103⟩ (by decide) (by decide) (by decide) dX11_stamp_43 ok.1 ?_
            have ok := ok.2
            refine c_aload_nQ dX11_stamp_46 rfl rfl ?_
            refine c_getR (C := RX11) (T := TX11) (N := 4) (ci := 9) (k := 1) ⟨rfl, inT11, by decide, fX11_9⟩ (by decide) (by decide) (by decide) dX11_stamp_47 ok.1 ?_
            have ok := ok.2
            refine c_iload_n dX11_stamp_50 rfl rfl ?_
            refine c_iload_n dX11_stamp_51 rfl rfl ?_
            refine c_bipush (v := nI 101) dX11_stamp_52 (by decide) ?_
            refine c_iadd dX11_stamp_54 ?_
            refine c_aload_nQ dX11_stamp_55 rfl rfl ?_
            refine c_getR (C := RX11) (T := TX11) (N := 4) (ci := 9) (k := 1) ⟨rfl, inT11, by decide, fX11_9⟩ (by decide) (by decide) (by decide) dX11_stamp_56 ok.1 ?_
            have ok := ok.2
            refine c_iload_n dX11_stamp_59 rfl rfl ?_
            refine c_V5vE (ci := 2) (rr := (RX2, TX2, 6)) (y' := mX2_digest) dX11_stamp_60 lX11_142 kX2_digest ⟨by decide, by decide⟩ rfl rfl (by decide) ok.1.1 (Nat.le_of_ble_eq_true rfl) (cc_X2_digest hG ok.1.2) ?_
            have ok := ok.2
            exact cX.cutz (b_X11_stamp_63 hG hR ok hx) trivial
          · have ok := ok.2 c_34
            have hx := xif_n c_34 hx
            exact cX.cutz (b_X11_stamp_37 hG hR ok hx) trivial
    · have ok := ok.2 c_12
      have hx := xif_n c_12 hx
      exact cX.cutz (b_X11_stamp_15 hG hR ok hx) trivial
def f_X11_stamp (N : Nat) (S : cS) (a0 : Nat) (x1 : Int32) (x2 : Int32) (x3 : Int32) : Int32 × cS := F_X11_stamp_0 N (some a0) x1 x2 x3 S
def o_X11_stamp (N : Nat) (S : cS) (a0 : Nat) (x1 : Int32) (x2 : Int32) (x3 : Int32) : Prop := O_X11_stamp_0 N (some a0) x1 x2 x3 S
set_option maxRecDepth 100000 in
set_option maxHeartbeats 4000000 in
theorem cc_X11_stamp {G : zG} {o : cO} {S : cS} {N : Nat} (hG : zOK G) {a0 : Nat} {x1 : Int32} {x2 : Int32} {x3 : Int32} (ok : o_X11_stamp N S a0 x1 x2 x3) : cCi G o dX11_stamp mX11_stamp [.ref a0, .int x1, .int x2, .int x3] S (fun v S' => v = (f_X11_stamp N S a0 x1 x2 x3).1 ∧ S' = (f_X11_stamp N S a0 x1 x2 x3).2) := by
  refine cC.ofX rfl (by exact Nat.le_of_ble_eq_true rfl) ?_
  show cX G o dX11_stamp mX11_stamp 0 [some (.ref a0), some (.int x1), some (.int x2), some (.int x3), none, none] [] S _
  exact cX.cutz (b_X11_stamp_0 (X := fun F => F = f_X11_stamp N S a0 x1 x2 x3) hG (fun v S' h => ⟨v, rfl, by rw [← h], by rw [← h]⟩) ok rfl) ⟨rfl, rfl, rfl, rfl, trivial⟩
/-! X11_hash -/
def F_X11_hash_44 (N : Nat) (x0 : Option Nat) (x2 : Int32) (S : cS) : Int64 × cS := ((f_X11_eight N S (cR S 2 (za x0)) (nI 32) ((nI 8) * x2)), S)
def O_X11_hash_44 (N : Nat) (x0 : Option Nat) (x2 : Int32) (S : cS) : Prop := (cis S x0 10) ∧ (o_X11_eight N S (cR S 2 (za x0)) (nI 32) ((nI 8) * x2)) ∧ True
set_option maxRecDepth 100000 in
set_option maxHeartbeats 4000000 in
theorem b_X11_hash_44 {G : zG} {o : cO} {S : cS} {N : Nat} {Q : Option Value → cS → Prop} {X : Int64 × cS → Prop} (hG : zOK G) (hR : ∀ v S', X (v, S') → Q (some (.long v)) S') {x0 : Option Nat} {x2 : Int32} (ok : O_X11_hash_44 N x0 x2 S) (hx : X (F_X11_hash_44 N x0 x2 S)) : cX G o dX11_hash mX11_hash 44 [some (va_rf x0), none, some (.int x2)] [] S Q := by
  unfold O_X11_hash_44 at ok
  unfold F_X11_hash_44 at hx
  refine c_aload_nQ dX11_hash_44 rfl rfl ?_
  refine c_getR (C := RX11) (T := TX11) (N := 4) (ci := 9) (k := 2) ⟨rfl, inT11, by decide, fX11_13⟩ (by decide) (by decide) (by decide) dX11_hash_45 ok.1 ?_
  have ok := ok.2
  refine c_bipush (v := nI 32) dX11_hash_48 (by decide) ?_
  refine c_bipush (v := nI 8) dX11_hash_50 (by decide) ?_
  refine c_iload_n dX11_hash_52 rfl rfl ?_
  refine c_imul dX11_hash_53 ?_
  refine c_S3lE (y' := mX11_eight) dX11_hash_54 lX11_153 kX11_eight ⟨by decide, by decide⟩ (Nat.le_of_ble_eq_true rfl) (cc_X11_eight hG ok.1) ?_
  have ok := ok.2
  exact c_lreturn rfl dX11_hash_57 (hR _ _ hx)
def F_X11_hash_21 (N : Nat)  (S : cS) : Int64 × cS := ((0 : Int64), S)
def O_X11_hash_21 (N : Nat)  (S : cS) : Prop := True
set_option maxRecDepth 100000 in
set_option maxHeartbeats 4000000 in
theorem b_X11_hash_21 {G : zG} {o : cO} {S : cS} {N : Nat} {Q : Option Value → cS → Prop} {X : Int64 × cS → Prop} (hG : zOK G) (hR : ∀ v S', X (v, S') → Q (some (.long v)) S') (ok : O_X11_hash_21 N S) (hx : X (F_X11_hash_21 N S)) : cX G o dX11_hash mX11_hash 21 [none, none, none] [] S Q := by
  unfold O_X11_hash_21 at ok
  unfold F_X11_hash_21 at hx
  refine c_lconst (v := 0) dX11_hash_21 rfl ?_
  exact c_lreturn rfl dX11_hash_22 (hR _ _ hx)
def F_X11_hash_0 (N : Nat) (x0 : Option Nat) (x1 : Int32) (x2 : Int32) (S : cS) : Int64 × cS := (if x1 < 0 then (F_X11_hash_21 N S) else (if (cI S 3 (za x0)) < x1 then (F_X11_hash_21 N S) else (if x2 < 0 then (F_X11_hash_21 N S) else (if x2 ≤ (nI 3) then (F_X11_hash_44 N x0 x2 (f_X2_digest N S (za (cR S 5 (za (cR S 0 (za x0))))) (cR S 1 (za x0)) (nI 0) x1 (cR S 2 (za x0)) (nI 0))) else (F_X11_hash_21 N S)))))
def O_X11_hash_0 (N : Nat) (x0 : Option Nat) (x1 : Int32) (x2 : Int32) (S : cS) : Prop := ((x1 < 0 → O_X11_hash_21 N S) ∧ (¬ x1 < 0 → (cis S x0 10) ∧ (((cI S 3 (za x0)) < x1 → O_X11_hash_21 N S) ∧ (¬ (cI S 3 (za x0)) < x1 → ((x2 < 0 → O_X11_hash_21 N S) ∧ (¬ x2 < 0 → ((x2 ≤ (nI 3) → (cis S x0 10) ∧ (cis S (cR S 0 (za x0)) 9) ∧ (cis S x0 10) ∧ (cis S x0 10) ∧ (cis S (cR S 5 (za (cR S 0 (za x0)))) 3 ∧ o_X2_digest N S (za (cR S 5 (za (cR S 0 (za x0))))) (cR S 1 (za x0)) (nI 0) x1 (cR S 2 (za x0)) (nI 0)) ∧ O_X11_hash_44 N x0 x2 (f_X2_digest N S (za (cR S 5 (za (cR S 0 (za x0))))) (cR S 1 (za x0)) (nI 0) x1 (cR S 2 (za x0)) (nI 0))) ∧ (¬ x2 ≤ (nI 3) → O_X11_hash_21 N S))))))))
set_option maxRecDepth 100000 in
set_option maxHeartbeats 4000000 in
theorem b_X11_hash_0 {G : zG} {o : cO} {S : cS} {N : Nat} {Q : Option Value → cS → Prop} {X : Int64 × cS → Prop} (hG : zOK G) (hR : ∀ v S', X (v, S') → Q (some (.long v)) S') {x0 : Option Nat} {x1 : Int32} {x2 : Int32} (ok : O_X11_hash_0 N x0 x1 x2 S) (hx : X (F_X11_hash_0 N x0 x1 x2 S)) : cX G o dX11_hash mX11_hash 0 [some (va_rf x0), some (.int x1), some (.int x2)] [] S Q := by
  unfold O_X11_hash_0 at ok
  unfold F_X11_hash_0 at hx
  refine c_iload_n dX11_hash_0 rfl rfl ?_
  refine c_if_lt (tgt := 21) dX11_hash_1 (by decide) (fun c_1 => ?_) (fun c_1 => ?_)
  · have ok := ok.1 c_1
    have hx := xif_p c_1 hx
    exact cX.cutz (b_X11_hash_21 hG hR ok hx) trivial
  · have ok := ok.2 c_1
    have hx := xif_n c_1 hx
    refine c_iload_n dX11_hash_4 rfl rfl ?_
    refine c_aload_nQ dX11_hash_5 rfl rfl ?_
    refine c_getI (C := RX11) (T := TX11) (N := 4) (ci := 9) (k := 3) ⟨rfl, inT11, by decide, fX11_26⟩ (by decide) (by decide) (by decide) dX11_hash_6 ok.1 ?_
    have ok := ok.2
    refine c_icmp_gt (tgt := 21) dX11_hash_9 (by decide) (fun c_9 => ?_) (fun c_9 => ?_)
    · have ok := ok.1 c_9
      have hx := xif_p c_9 hx
      exact cX.cutz (b_X11_hash_21 hG hR ok hx) trivial
    · have ok := ok.2 c_9
      have hx := xif_n c_9 hx
      refine c_iload_n dX11_hash_12 rfl rfl ?_
      refine c_if_lt (tgt := 21) dX11_hash_13 (by decide) (fun c_13 => ?_) (fun c_13 => ?_)
      · have ok := ok.1 c_13
        have hx := xif_p c_13 hx
        exact cX.cutz (b_X11_hash_21 hG hR ok hx) trivial
      · have ok := ok.2 c_13
        have hx := xif_n c_13 hx
        refine c_iload_n dX11_hash_16 rfl rfl ?_
        refine c_iconst (v := nI 3) dX11_hash_17 (by decide) ?_
        refine c_icmp_le (tgt := 23) dX11_hash_18 (by decide) (fun c_18 => ?_) (fun c_18 => ?_)
        · have ok := ok.1 c_18
          have hx := xif_p c_18 hx
          refine c_aload_nQ dX11_hash_23 rfl rfl ?_
          refine c_getR (C := RX11) (T := TX11) (N := 4) (ci := 9) (k := 0) ⟨rfl, inT11, by decide, fX11_22⟩ (by decide) (by decide) (by decide) dX11_hash_24 ok.1 ?_
          have ok := ok.2
          refine c_getR (C := RX10) (T := TX10) (N := 12) (ci := 8) (k := 5) ⟨rfl, inT10, by decide, fX11_103⟩ (by decide) (by decide) (by decide) dX11_hash_27 ok.1 ?_
          have ok := ok.2
          refine c_aload_nQ dX11_hash_30 rfl rfl ?_
          refine c_getR (C := RX11) (T := TX11) (N := 4) (ci := 9) (k := 1) ⟨rfl, inT11, by decide, fX11_9⟩ (by decide) (by decide) (by decide) dX11_hash_31 ok.1 ?_
          have ok := ok.2
          refine c_iconst (v := nI 0) dX11_hash_34 (by decide) ?_
          refine c_iload_n dX11_hash_35 rfl rfl ?_
          refine c_aload_nQ dX11_hash_36 rfl rfl ?_
          refine c_getR (C := RX11) (T := TX11) (N := 4) (ci := 9) (k := 2) ⟨rfl, inT11, by decide, fX11_13⟩ (by decide) (by decide) (by decide) dX11_hash_37 ok.1 ?_
          have ok := ok.2
          refine c_iconst (v := nI 0) dX11_hash_40 (by decide) ?_
          refine c_V5vE (ci := 2) (rr := (RX2, TX2, 6)) (y' := mX2_digest) dX11_hash_41 lX11_142 kX2_digest ⟨by decide, by decide⟩ rfl rfl (by decide) ok.1.1 (Nat.le_of_ble_eq_true rfl) (cc_X2_digest hG ok.1.2) ?_
          have ok := ok.2
          exact cX.cutz (b_X11_hash_44 hG hR ok hx) ⟨rfl, rfl, trivial⟩
        · have ok := ok.2 c_18
          have hx := xif_n c_18 hx
          exact cX.cutz (b_X11_hash_21 hG hR ok hx) trivial
def f_X11_hash (N : Nat) (S : cS) (a0 : Nat) (x1 : Int32) (x2 : Int32) : Int64 × cS := F_X11_hash_0 N (some a0) x1 x2 S
def o_X11_hash (N : Nat) (S : cS) (a0 : Nat) (x1 : Int32) (x2 : Int32) : Prop := O_X11_hash_0 N (some a0) x1 x2 S
set_option maxRecDepth 100000 in
set_option maxHeartbeats 4000000 in
theorem cc_X11_hash {G : zG} {o : cO} {S : cS} {N : Nat} (hG : zOK G) {a0 : Nat} {x1 : Int32} {x2 : Int32} (ok : o_X11_hash N S a0 x1 x2) : cCl G o dX11_hash mX11_hash [.ref a0, .int x1, .int x2] S (fun v S' => v = (f_X11_hash N S a0 x1 x2).1 ∧ S' = (f_X11_hash N S a0 x1 x2).2) := by
  refine cC.ofX rfl (by exact Nat.le_of_ble_eq_true rfl) ?_
  show cX G o dX11_hash mX11_hash 0 [some (.ref a0), some (.int x1), some (.int x2)] [] S _
  exact cX.cutz (b_X11_hash_0 (X := fun F => F = f_X11_hash N S a0 x1 x2) hG (fun v S' h => ⟨v, rfl, by rw [← h], by rw [← h]⟩) ok rfl) ⟨rfl, rfl, rfl, trivial⟩
/-! X11_submit -/
def F_X11_submit_191 (N : Nat)  (S : cS) : Int32 × cS := ((nI 1), S)
def O_X11_submit_191 (N : Nat)  (S : cS) : Prop := True
set_option maxRecDepth 100000 in
set_option maxHeartbeats 4000000 in
theorem b_X11_submit_191 {G : zG} {o : cO} {S : cS} {N : Nat} {Q : Option Value → cS → Prop} {X : Int32 × cS → Prop} (hG : zOK G) (hR : ∀ v S', X (v, S') → Q (some (.int v)) S') (ok : O_X11_submit_191 N S) (hx : X (F_X11_submit_191 N S)) : cX G o dX11_submit mX11_submit 191 [none, none, none, none, none, none, none, none, none, none, none] [] S Q := by
  unfold O_X11_submit_191 at ok
  unfold F_X11_submit_191 at hx
  refine c_iconst (v := nI 1) dX11_submit_191 (by decide) ?_
  exact c_ireturn rfl rfl dX11_submit_192 (hR _ _ hx)
def F_X11_submit_179 (N : Nat) (x0 : Option Nat) (x10 : Option Nat) (S : cS) : Int32 × cS := (F_X11_submit_191 N (f_X9_drop N S (za (cR S 6 (za (cR S 0 (za x0))))) x10))
def O_X11_submit_179 (N : Nat) (x0 : Option Nat) (x10 : Option Nat) (S : cS) : Prop := (cis S x0 10) ∧ (cis S (cR S 0 (za x0)) 9) ∧ (cis S (cR S 6 (za (cR S 0 (za x0)))) 8 ∧ o_X9_drop N S (za (cR S 6 (za (cR S 0 (za x0))))) x10) ∧ O_X11_submit_191 N (f_X9_drop N S (za (cR S 6 (za (cR S 0 (za x0))))) x10)
set_option maxRecDepth 100000 in
set_option maxHeartbeats 4000000 in
theorem b_X11_submit_179 {G : zG} {o : cO} {S : cS} {N : Nat} {Q : Option Value → cS → Prop} {X : Int32 × cS → Prop} (hG : zOK G) (hR : ∀ v S', X (v, S') → Q (some (.int v)) S') {x0 : Option Nat} {x10 : Option Nat} (ok : O_X11_submit_179 N x0 x10 S) (hx : X (F_X11_submit_179 N x0 x10 S)) : cX G o dX11_submit mX11_submit 179 [some (va_rf x0), none, none, none, none, none, none, none, none, none, some (va_rf x10)] [] S Q := by
  unfold O_X11_submit_179 at ok
  unfold F_X11_submit_179 at hx
  refine c_aload_nQ dX11_submit_179 rfl rfl ?_
  refine c_getR (C := RX11) (T := TX11) (N := 4) (ci := 9) (k := 0) ⟨rfl, inT11, by decide, fX11_22⟩ (by decide) (by decide) (by decide) dX11_submit_180 ok.1 ?_
  have ok := ok.2
  refine c_getR (C := RX10) (T := TX10) (N := 12) (ci := 8) (k := 6) ⟨rfl, inT10, by decide, fX11_38⟩ (by decide) (by decide) (by decide) dX11_submit_183 ok.1 ?_
  have ok := ok.2
  refine c_aloadQ dX11_submit_186 rfl ?_
  refine c_V1vE (ci := 7) (rr := (RX9, TX9, 13)) (y' := mX9_drop) dX11_submit_188 lX11_80 kX9_drop ⟨by decide, by decide⟩ rfl rfl (by decide) ok.1.1 (Nat.le_of_ble_eq_true rfl) (cc_X9_drop hG ok.1.2) ?_
  have ok := ok.2
  exact cX.cutz (b_X11_submit_191 hG hR ok hx) trivial
def F_X11_submit_167 (N : Nat) (x0 : Option Nat) (x1 : Int32) (x10 : Option Nat) (S : cS) : Int32 × cS := (F_X11_submit_179 N x0 x10 (f_X10_spread N S (za (cR S 0 (za x0))) x1 x10 x1 x1))
def O_X11_submit_167 (N : Nat) (x0 : Option Nat) (x1 : Int32) (x10 : Option Nat) (S : cS) : Prop := (cis S x0 10) ∧ (cis S (cR S 0 (za x0)) 9 ∧ o_X10_spread N S (za (cR S 0 (za x0))) x1 x10 x1 x1) ∧ O_X11_submit_179 N x0 x10 (f_X10_spread N S (za (cR S 0 (za x0))) x1 x10 x1 x1)
set_option maxRecDepth 100000 in
set_option maxHeartbeats 4000000 in
theorem b_X11_submit_167 {G : zG} {o : cO} {S : cS} {N : Nat} {Q : Option Value → cS → Prop} {X : Int32 × cS → Prop} (hG : zOK G) (hR : ∀ v S', X (v, S') → Q (some (.int v)) S') {x0 : Option Nat} {x1 : Int32} {x10 : Option Nat} (ok : O_X11_submit_167 N x0 x1 x10 S) (hx : X (F_X11_submit_167 N x0 x1 x10 S)) : cX G o dX11_submit mX11_submit 167 [some (va_rf x0), some (.int x1), none, none, none, none, none, none, none, none, some (va_rf x10)] [] S Q := by
  unfold O_X11_submit_167 at ok
  unfold F_X11_submit_167 at hx
  refine c_aload_nQ dX11_submit_167 rfl rfl ?_
  refine c_getR (C := RX11) (T := TX11) (N := 4) (ci := 9) (k := 0) ⟨rfl, inT11, by decide, fX11_22⟩ (by decide) (by decide) (by decide) dX11_submit_168 ok.1 ?_
  have ok := ok.2
  refine c_iload_n dX11_submit_171 rfl rfl ?_
  refine c_aloadQ dX11_submit_172 rfl ?_
  refine c_iload_n dX11_submit_174 rfl rfl ?_
  refine c_iload_n dX11_submit_175 rfl rfl ?_
  refine c_V4vE (ci := 8) (rr := (RX10, TX10, 12)) (y' := mX10_spread) dX11_submit_176 lX11_176 kX10_spread ⟨by decide, by decide⟩ rfl rfl (by decide) ok.1.1 (Nat.le_of_ble_eq_true rfl) (cc_X10_spread hG ok.1.2) ?_
  have ok := ok.2
  exact cX.cutz (b_X11_submit_179 hG hR ok hx) ⟨rfl, rfl, trivial⟩
def F_X11_submit_146 (N : Nat) (x0 : Option Nat) (x1 : Int32) (x8 : Int64) (s0 : Option Nat) (S : cS) : Int32 × cS := (F_X11_submit_167 N x0 x1 s0 (f_X0_putCode N (csA S (za (cR S 0 (za s0))) (nI 0).toNatClampNeg ((nI 0).toInt8.toInt32)) x8 (cR (csA S (za (cR S 0 (za s0))) (nI 0).toNatClampNeg ((nI 0).toInt8.toInt32)) 0 (za s0)) (nI 1)))
def O_X11_submit_146 (N : Nat) (x0 : Option Nat) (x1 : Int32) (x8 : Int64) (s0 : Option Nat) (S : cS) : Prop := (cis S s0 5) ∧ (cis S (cR S 0 (za s0)) 20 ∧ vp_in (nI 0) (cL S (za (cR S 0 (za s0))))) ∧ (cis (csA S (za (cR S 0 (za s0))) (nI 0).toNatClampNeg ((nI 0).toInt8.toInt32)) s0 5) ∧ (o_X0_putCode N (csA S (za (cR S 0 (za s0))) (nI 0).toNatClampNeg ((nI 0).toInt8.toInt32)) x8 (cR (csA S (za (cR S 0 (za s0))) (nI 0).toNatClampNeg ((nI 0).toInt8.toInt32)) 0 (za s0)) (nI 1)) ∧ O_X11_submit_167 N x0 x1 s0 (f_X0_putCode N (csA S (za (cR S 0 (za s0))) (nI 0).toNatClampNeg ((nI 0).toInt8.toInt32)) x8 (cR (csA S (za (cR S 0 (za s0))) (nI 0).toNatClampNeg ((nI 0).toInt8.toInt32)) 0 (za s0)) (nI 1))
set_option maxRecDepth 100000 in
set_option maxHeartbeats 4000000 in
theorem b_X11_submit_146 {G : zG} {o : cO} {S : cS} {N : Nat} {Q : Option Value → cS → Prop} {X : Int32 × cS → Prop} (hG : zOK G) (hR : ∀ v S', X (v, S') → Q (some (.int v)) S') {x0 : Option Nat} {x1 : Int32} {x8 : Int64} {s0 : Option Nat} (ok : O_X11_submit_146 N x0 x1 x8 s0 S) (hx : X (F_X11_submit_146 N x0 x1 x8 s0 S)) : cX G o dX11_submit mX11_submit 146 [some (va_rf x0), some (.int x1), none, none, none, none, none, none, some (.long x8), none, none] [va_rf s0] S Q := by
  unfold O_X11_submit_146 at ok
  unfold F_X11_submit_146 at hx
  refine c_astore_10Q dX11_submit_146 (by decide) rfl ?_
  refine c_aloadQ dX11_submit_148 rfl ?_
  refine c_getR (C := RX5) (T := TX5) (N := 7) (ci := 4) (k := 0) ⟨rfl, inT5, by decide, fX11_48⟩ (by decide) (by decide) (by decide) dX11_submit_150 ok.1 ?_
  have ok := ok.2
  refine c_iconst (v := nI 0) dX11_submit_153 (by decide) ?_
  refine c_iconst (v := nI 0) dX11_submit_154 (by decide) ?_
  refine c_bast dX11_submit_155 ok.1 ?_
  have ok := ok.2
  refine c_lload dX11_submit_156 rfl ?_
  refine c_aloadQ dX11_submit_158 rfl ?_
  refine c_getR (C := RX5) (T := TX5) (N := 7) (ci := 4) (k := 0) ⟨rfl, inT5, by decide, fX11_48⟩ (by decide) (by decide) (by decide) dX11_submit_160 ok.1 ?_
  have ok := ok.2
  refine c_iconst (v := nI 1) dX11_submit_163 (by decide) ?_
  refine c_S3vE (y' := mX0_putCode) dX11_submit_164 lX11_172 kX0_putCode ⟨by decide, by decide⟩ (Nat.le_of_ble_eq_true rfl) (cc_X0_putCode hG ok.1) ?_
  have ok := ok.2
  exact cX.cutz (b_X11_submit_167 hG hR ok hx) ⟨rfl, rfl, rfl, trivial⟩
def F_X11_submit_129 (N : Nat) (x0 : Option Nat) (x1 : Int32) (x8 : Int64) (s0 : Int32) (S : cS) : Int32 × cS := (if s0 = 0 then ((nI 0), S) else (F_X11_submit_146 N x0 x1 x8 ((f_X9_fresh N S (za (cR S 6 (za (cR S 0 (za x0))))) (nI 8)).1) (f_X9_fresh N S (za (cR S 6 (za (cR S 0 (za x0))))) (nI 8)).2))
def O_X11_submit_129 (N : Nat) (x0 : Option Nat) (x1 : Int32) (x8 : Int64) (s0 : Int32) (S : cS) : Prop := ((s0 = 0 → True) ∧ (¬ s0 = 0 → (cis S x0 10) ∧ (cis S (cR S 0 (za x0)) 9) ∧ (cis S (cR S 6 (za (cR S 0 (za x0)))) 8 ∧ o_X9_fresh N S (za (cR S 6 (za (cR S 0 (za x0))))) (nI 8)) ∧ O_X11_submit_146 N x0 x1 x8 ((f_X9_fresh N S (za (cR S 6 (za (cR S 0 (za x0))))) (nI 8)).1) (f_X9_fresh N S (za (cR S 6 (za (cR S 0 (za x0))))) (nI 8)).2))
set_option maxRecDepth 100000 in
set_option maxHeartbeats 4000000 in
theorem b_X11_submit_129 {G : zG} {o : cO} {S : cS} {N : Nat} {Q : Option Value → cS → Prop} {X : Int32 × cS → Prop} (hG : zOK G) (hR : ∀ v S', X (v, S') → Q (some (.int v)) S') {x0 : Option Nat} {x1 : Int32} {x8 : Int64} {s0 : Int32} (ok : O_X11_submit_129 N x0 x1 x8 s0 S) (hx : X (F_X11_submit_129 N x0 x1 x8 s0 S)) : cX G o dX11_submit mX11_submit 129 [some (va_rf x0), some (.int x1), none, none, none, none, none, none, some (.long x8), none, none] [.int s0] S Q := by
  unfold O_X11_submit_129 at ok
  unfold F_X11_submit_129 at hx
  refine c_if_ne (tgt := 134) dX11_submit_129 (by decide) (fun c_129 => ?_) (fun c_129 => ?_)
  · have ok := ok.2 c_129
    have hx := xif_n c_129 hx
    refine c_aload_nQ dX11_submit_134 rfl rfl ?_
    refine c_getR (C := RX11) (T := TX11) (N := 4) (ci := 9) (k := 0) ⟨rfl, inT11, by decide, fX11_22⟩ (by decide) (by decide) (by decide) dX11_submit_135 ok.1 ?_
    have ok := ok.2
    refine c_getR (C := RX10) (T := TX10) (N := 12) (ci := 8) (k := 6) ⟨rfl, inT10, by decide, fX11_38⟩ (by decide) (by decide) (by decide) dX11_submit_138 ok.1 ?_
    have ok := ok.2
    refine c_bipush (v := nI 8) dX11_submit_141 (by decide) ?_
    refine c_V1qE (ci := 7) (rr := (RX9, TX9, 13)) (y' := mX9_fresh) dX11_submit_143 lX11_42 kX9_fresh ⟨by decide, by decide⟩ rfl rfl (by decide) ok.1.1 (Nat.le_of_ble_eq_true rfl) (cc_X9_fresh hG ok.1.2) ?_
    have ok := ok.2
    exact cX.cutz (b_X11_submit_146 hG hR ok hx) ⟨rfl, rfl, rfl, trivial⟩
  · have ok := ok.1 c_129
    have hx := xif_p c_129 hx
    refine c_iconst (v := nI 0) dX11_submit_132 (by decide) ?_
    exact c_ireturn rfl rfl dX11_submit_133 (hR _ _ hx)
def F_X11_submit_106 (N : Nat) (x0 : Option Nat) (x1 : Int32) (x5 : Int32) (x6 : Int32) (x7 : Option Nat) (s0 : Int64) (S : cS) : Int32 × cS := (F_X11_submit_129 N x0 x1 ((s0 ||| ((Int32.toInt64 x5) <<< (Int32.toInt64 (nI 8) &&& 63))) ||| (Int32.toInt64 x6)) ((f_X8_addPayment N S (za (cR S 3 (za x7))) ((s0 ||| ((Int32.toInt64 x5) <<< (Int32.toInt64 (nI 8) &&& 63))) ||| (Int32.toInt64 x6))).1) (f_X8_addPayment N S (za (cR S 3 (za x7))) ((s0 ||| ((Int32.toInt64 x5) <<< (Int32.toInt64 (nI 8) &&& 63))) ||| (Int32.toInt64 x6))).2)
def O_X11_submit_106 (N : Nat) (x0 : Option Nat) (x1 : Int32) (x5 : Int32) (x6 : Int32) (x7 : Option Nat) (s0 : Int64) (S : cS) : Prop := (cis S x7 6) ∧ (cis S (cR S 3 (za x7)) 7 ∧ o_X8_addPayment N S (za (cR S 3 (za x7))) ((s0 ||| ((Int32.toInt64 x5) <<< (Int32.toInt64 (nI 8) &&& 63))) ||| (Int32.toInt64 x6))) ∧ O_X11_submit_129 N x0 x1 ((s0 ||| ((Int32.toInt64 x5) <<< (Int32.toInt64 (nI 8) &&& 63))) ||| (Int32.toInt64 x6)) ((f_X8_addPayment N S (za (cR S 3 (za x7))) ((s0 ||| ((Int32.toInt64 x5) <<< (Int32.toInt64 (nI 8) &&& 63))) ||| (Int32.toInt64 x6))).1) (f_X8_addPayment N S (za (cR S 3 (za x7))) ((s0 ||| ((Int32.toInt64 x5) <<< (Int32.toInt64 (nI 8) &&& 63))) ||| (Int32.toInt64 x6))).2
set_option maxRecDepth 100000 in
set_option maxHeartbeats 4000000 in
theorem b_X11_submit_106 {G : zG} {o : cO} {S : cS} {N : Nat} {Q : Option Value → cS → Prop} {X : Int32 × cS → Prop} (hG : zOK G) (hR : ∀ v S', X (v, S') → Q (some (.int v)) S') {x0 : Option Nat} {x1 : Int32} {x5 : Int32} {x6 : Int32} {x7 : Option Nat} {s0 : Int64} (ok : O_X11_submit_106 N x0 x1 x5 x6 x7 s0 S) (hx : X (F_X11_submit_106 N x0 x1 x5 x6 x7 s0 S)) : cX G o dX11_submit mX11_submit 106 [some (va_rf x0), some (.int x1), none, none, none, some (.int x5), some (.int x6), some (va_rf x7), none, none, none] [.long s0] S Q := by
  unfold O_X11_submit_106 at ok
  unfold F_X11_submit_106 at hx
  refine c_iload dX11_submit_106 rfl ?_
  refine c_i2l dX11_submit_108 ?_
  refine c_bipush (v := nI 8) dX11_submit_109 (by decide) ?_
  refine c_lshl dX11_submit_111 ?_
  refine c_lor dX11_submit_112 ?_
  refine c_iload dX11_submit_113 rfl ?_
  refine c_i2l dX11_submit_115 ?_
  refine c_lor dX11_submit_116 ?_
  refine c_lstore_8 dX11_submit_117 (by decide) (by simp [zok, zg, zcat_rf]) ?_
  refine c_aloadQ dX11_submit_119 rfl ?_
  refine c_getR (C := RX6) (T := TX6) (N := 19) (ci := 5) (k := 3) ⟨rfl, inT6, by decide, fX11_162⟩ (by decide) (by decide) (by decide) dX11_submit_121 ok.1 ?_
  have ok := ok.2
  refine c_lload dX11_submit_124 rfl ?_
  refine c_V1iE (ci := 6) (rr := (RX8, TX8, 14)) (y' := mX8_addPayment) dX11_submit_126 lX11_166 kX8_addPayment ⟨by decide, by decide⟩ rfl rfl (by decide) ok.1.1 (Nat.le_of_ble_eq_true rfl) (cc_X8_addPayment hG ok.1.2) ?_
  have ok := ok.2
  exact cX.cutz (b_X11_submit_129 hG hR ok hx) ⟨rfl, rfl, rfl, trivial⟩
def F_X11_submit_86 (N : Nat)  (S : cS) : Int32 × cS := ((nI 0), S)
def O_X11_submit_86 (N : Nat)  (S : cS) : Prop := True
set_option maxRecDepth 100000 in
set_option maxHeartbeats 4000000 in
theorem b_X11_submit_86 {G : zG} {o : cO} {S : cS} {N : Nat} {Q : Option Value → cS → Prop} {X : Int32 × cS → Prop} (hG : zOK G) (hR : ∀ v S', X (v, S') → Q (some (.int v)) S') (ok : O_X11_submit_86 N S) (hx : X (F_X11_submit_86 N S)) : cX G o dX11_submit mX11_submit 86 [none, none, none, none, none, none, none, none, none, none, none] [] S Q := by
  unfold O_X11_submit_86 at ok
  unfold F_X11_submit_86 at hx
  refine c_iconst (v := nI 0) dX11_submit_86 (by decide) ?_
  exact c_ireturn rfl rfl dX11_submit_87 (hR _ _ hx)
def F_X11_submit_45 (N : Nat)  (S : cS) : Int32 × cS := ((nI 0), S)
def O_X11_submit_45 (N : Nat)  (S : cS) : Prop := True
set_option maxRecDepth 100000 in
set_option maxHeartbeats 4000000 in
theorem b_X11_submit_45 {G : zG} {o : cO} {S : cS} {N : Nat} {Q : Option Value → cS → Prop} {X : Int32 × cS → Prop} (hG : zOK G) (hR : ∀ v S', X (v, S') → Q (some (.int v)) S') (ok : O_X11_submit_45 N S) (hx : X (F_X11_submit_45 N S)) : cX G o dX11_submit mX11_submit 45 [none, none, none, none, none, none, none, none, none, none, none] [] S Q := by
  unfold O_X11_submit_45 at ok
  unfold F_X11_submit_45 at hx
  refine c_iconst (v := nI 0) dX11_submit_45 (by decide) ?_
  exact c_ireturn rfl rfl dX11_submit_46 (hR _ _ hx)
def F_X11_submit_0 (N : Nat) (x0 : Option Nat) (x1 : Int32) (x2 : Int32) (x3 : Int32) (x4 : Int32) (x5 : Int32) (x6 : Int32) (S : cS) : Int32 × cS := (if (f_X11_honestNode N S (za x0) x1) = none then (F_X11_submit_45 N S) else (if (cI S 8 (za (f_X11_honestNode N S (za x0) x1))) = 0 then (F_X11_submit_45 N S) else (if x2 < 0 then (F_X11_submit_45 N S) else (if (nI 16) ≤ x2 then (F_X11_submit_45 N S) else (if x3 < 0 then (F_X11_submit_45 N S) else (if (nI 16) ≤ x3 then (F_X11_submit_45 N S) else (if x2 = x3 then (F_X11_submit_45 N S) else (if x4 < (nI 1) then (F_X11_submit_86 N S) else (if (nI 1000) < x4 then (F_X11_submit_86 N S) else (if x5 < 0 then (F_X11_submit_86 N S) else (if (65535 : Int32) < x5 then (F_X11_submit_86 N S) else (if x6 < (nI 1) then (F_X11_submit_86 N S) else (if x6 ≤ (nI 9) then (F_X11_submit_106 N x0 x1 x5 x6 (f_X11_honestNode N S (za x0) x1) ((((Int32.toInt64 x2) <<< (Int32.toInt64 (nI 48) &&& 63)) ||| ((Int32.toInt64 x3) <<< (Int32.toInt64 (nI 40) &&& 63))) ||| ((Int32.toInt64 x4) <<< (Int32.toInt64 (nI 24) &&& 63))) S) else (F_X11_submit_86 N S))))))))))))))
def O_X11_submit_0 (N : Nat) (x0 : Option Nat) (x1 : Int32) (x2 : Int32) (x3 : Int32) (x4 : Int32) (x5 : Int32) (x6 : Int32) (S : cS) : Prop := (cis S x0 10 ∧ o_X11_honestNode N S (za x0) x1) ∧ (((f_X11_honestNode N S (za x0) x1) = none → O_X11_submit_45 N S) ∧ (¬ (f_X11_honestNode N S (za x0) x1) = none → (cis S (f_X11_honestNode N S (za x0) x1) 6) ∧ (((cI S 8 (za (f_X11_honestNode N S (za x0) x1))) = 0 → O_X11_submit_45 N S) ∧ (¬ (cI S 8 (za (f_X11_honestNode N S (za x0) x1))) = 0 → ((x2 < 0 → O_X11_submit_45 N S) ∧ (¬ x2 < 0 → (((nI 16) ≤ x2 → O_X11_submit_45 N S) ∧ (¬ (nI 16) ≤ x2 → ((x3 < 0 → O_X11_submit_45 N S) ∧ (¬ x3 < 0 → (((nI 16) ≤ x3 → O_X11_submit_45 N S) ∧ (¬ (nI 16) ≤ x3 → ((x2 = x3 → O_X11_submit_45 N S) ∧ (¬ x2 = x3 → ((x4 < (nI 1) → O_X11_submit_86 N S) ∧ (¬ x4 < (nI 1) → (((nI 1000) < x4 → O_X11_submit_86 N S) ∧ (¬ (nI 1000) < x4 → ((x5 < 0 → O_X11_submit_86 N S) ∧ (¬ x5 < 0 → (((65535 : Int32) < x5 → O_X11_submit_86 N S) ∧ (¬ (65535 : Int32) < x5 → ((x6 < (nI 1) → O_X11_submit_86 N S) ∧ (¬ x6 < (nI 1) → ((x6 ≤ (nI 9) → O_X11_submit_106 N x0 x1 x5 x6 (f_X11_honestNode N S (za x0) x1) ((((Int32.toInt64 x2) <<< (Int32.toInt64 (nI 48) &&& 63)) ||| ((Int32.toInt64 x3) <<< (Int32.toInt64 (nI 40) &&& 63))) ||| ((Int32.toInt64 x4) <<< (Int32.toInt64 (nI 24) &&& 63))) S) ∧ (¬ x6 ≤ (nI 9) → O_X11_submit_86 N S))))))))))))))))))))))))))
set_option maxRecDepth 100000 in
set_option maxHeartbeats 4000000 in
theorem b_X11_submit_0 {G : zG} {o : cO} {S : cS} {N : Nat} {Q : Option Value → cS → Prop} {X : Int32 × cS → Prop} (hG : zOK G) (hR : ∀ v S', X (v, S') → Q (some (.int v)) S') {x0 : Option Nat} {x1 : Int32} {x2 : Int32} {x3 : Int32} {x4 : Int32} {x5 : Int32} {x6 : Int32} (ok : O_X11_submit_0 N x0 x1 x2 x3 x4 x5 x6 S) (hx : X (F_X11_submit_0 N x0 x1 x2 x3 x4 x5 x6 S)) : cX G o dX11_submit mX11_submit 0 [some (va_rf x0), some (.int x1), some (.int x2), some (.int x3), some (.int x4), some (.int x5), some (.int x6), none, none, none, none] [] S Q := by
  unfold O_X11_submit_0 at ok
  unfold F_X11_submit_0 at hx
  refine c_aload_nQ dX11_submit_0 rfl rfl ?_
  refine c_iload_n dX11_submit_1 rfl rfl ?_
  refine c_V1qE (ci := 9) (rr := (RX11, TX11, 4)) (y' := mX11_honestNode) dX11_submit_2 lX11_120 kX11_honestNode ⟨by decide, by decide⟩ rfl rfl (by decide) ok.1.1 (Nat.le_of_ble_eq_true rfl) (cc_X11_honestNode hG ok.1.2) ?_
  have ok := ok.2
  refine c_astore_7Q dX11_submit_5 (by decide) rfl ?_
  refine c_aloadQ dX11_submit_7 rfl ?_
  refine c_ifnullI (tgt := 45) dX11_submit_9 (by decide) (fun c_9 => ?_) (fun c_9 => ?_)
  · have ok := ok.1 c_9
    have hx := xif_p c_9 hx
    exact cX.cutz (b_X11_submit_45 hG hR ok hx) trivial
  · have ok := ok.2 c_9
    have hx := xif_n c_9 hx
    refine c_aloadQ dX11_submit_12 rfl ?_
    refine c_getI (C := RX6) (T := TX6) (N := 19) (ci := 5) (k := 8) ⟨rfl, inT6, by decide, fX11_157⟩ (by decide) (by decide) (by decide) dX11_submit_14 ok.1 ?_
    have ok := ok.2
    refine c_if_eq (tgt := 45) dX11_submit_17 (by decide) (fun c_17 => ?_) (fun c_17 => ?_)
    · have ok := ok.1 c_17
      have hx := xif_p c_17 hx
      exact cX.cutz (b_X11_submit_45 hG hR ok hx) trivial
    · have ok := ok.2 c_17
      have hx := xif_n c_17 hx
      refine c_iload_n dX11_submit_20 rfl rfl ?_
      refine c_if_lt (tgt := 45) dX11_submit_21 (by decide) (fun c_21 => ?_) (fun c_21 => ?_)
      · have ok := ok.1 c_21
        have hx := xif_p c_21 hx
        exact cX.cutz (b_X11_submit_45 hG hR ok hx) trivial
      · have ok := ok.2 c_21
        have hx := xif_n c_21 hx
        refine c_iload_n dX11_submit_24 rfl rfl ?_
        refine c_bipush (v := nI 16) dX11_submit_25 (by decide) ?_
        refine c_icmp_ge (tgt := 45) dX11_submit_27 (by decide) (fun c_27 => ?_) (fun c_27 => ?_)
        · have ok := ok.1 c_27
          have hx := xif_p c_27 hx
          exact cX.cutz (b_X11_submit_45 hG hR ok hx) trivial
        · have ok := ok.2 c_27
          have hx := xif_n c_27 hx
          refine c_iload_n dX11_submit_30 rfl rfl ?_
          refine c_if_lt (tgt := 45) dX11_submit_31 (by decide) (fun c_31 => ?_) (fun c_31 => ?_)
          · have ok := ok.1 c_31
            have hx := xif_p c_31 hx
            exact cX.cutz (b_X11_submit_45 hG hR ok hx) trivial
          · have ok := ok.2 c_31
            have hx := xif_n c_31 hx
            refine c_iload_n dX11_submit_34 rfl rfl ?_
            refine c_bipush (v := nI 16) dX11_submit_35 (by decide) ?_
            refine c_icmp_ge (tgt := 45) dX11_submit_37 (by decide) (fun c_37 => ?_) (fun c_37 => ?_)
            · have ok := ok.1 c_37
              have hx := xif_p c_37 hx
              exact cX.cutz (b_X11_submit_45 hG hR ok hx) trivial
            · have ok := ok.2 c_37
              have hx := xif_n c_37 hx
              refine c_iload_n dX11_submit_40 rfl rfl ?_
              refine c_iload_n dX11_submit_41 rfl rfl ?_
              refine c_icmp_ne (tgt := 47) dX11_submit_42 (by decide) (fun c_42 => ?_) (fun c_42 => ?_)
              · have ok := ok.2 c_42
                have hx := xif_n c_42 hx
                refine c_iload dX11_submit_47 rfl ?_
                refine c_iconst (v := nI 1) dX11_submit_49 (by decide) ?_
                refine c_icmp_lt (tgt := 86) dX11_submit_50 (by decide) (fun c_50 => ?_) (fun c_50 => ?_)
                · have ok := ok.1 c_50
                  have hx := xif_p c_50 hx
                  exact cX.cutz (b_X11_submit_86 hG hR ok hx) trivial
                · have ok := ok.2 c_50
                  have hx := xif_n c_50 hx
                  refine c_iload dX11_submit_53 rfl ?_
                  refine c_sipush (v := nI 1000) dX11_submit_55 (by decide) ?_
                  refine c_icmp_gt (tgt := 86) dX11_submit_58 (by decide) (fun c_58 => ?_) (fun c_58 => ?_)
                  · have ok := ok.1 c_58
                    have hx := xif_p c_58 hx
                    exact cX.cutz (b_X11_submit_86 hG hR ok hx) trivial
                  · have ok := ok.2 c_58
                    have hx := xif_n c_58 hx
                    refine c_iload dX11_submit_61 rfl ?_
                    refine c_if_lt (tgt := 86) dX11_submit_63 (by decide) (fun c_63 => ?_) (fun c_63 => ?_)
                    · have ok := ok.1 c_63
                      have hx := xif_p c_63 hx
                      exact cX.cutz (b_X11_submit_86 hG hR ok hx) trivial
                    · have ok := ok.2 c_63
                      have hx := xif_n c_63 hx
                      refine c_iload dX11_submit_66 rfl ?_
                      refine c_ldc dX11_submit_68 nX11_161 ?_
                      refine c_icmp_gt (tgt := 86) dX11_submit_70 (by decide) (fun c_70 => ?_) (fun c_70 => ?_)
                      · have ok := ok.1 c_70
                        have hx := xif_p c_70 hx
                        exact cX.cutz (b_X11_submit_86 hG hR ok hx) trivial
                      · have ok := ok.2 c_70
                        have hx := xif_n c_70 hx
                        refine c_iload dX11_submit_73 rfl ?_
                        refine c_iconst (v := nI 1) dX11_submit_75 (by decide) ?_
                        refine c_icmp_lt (tgt := 86) dX11_submit_76 (by decide) (fun c_76 => ?_) (fun c_76 => ?_)
                        · have ok := ok.1 c_76
                          have hx := xif_p c_76 hx
                          exact cX.cutz (b_X11_submit_86 hG hR ok hx) trivial
                        · have ok := ok.2 c_76
                          have hx := xif_n c_76 hx
                          refine c_iload dX11_submit_79 rfl ?_
                          refine c_bipush (v := nI 9) dX11_submit_81 (by decide) ?_
                          refine c_icmp_le (tgt := 88) dX11_submit_83 (by decide) (fun c_83 => ?_) (fun c_83 => ?_)
                          · have ok := ok.1 c_83
                            have hx := xif_p c_83 hx
                            refine c_iload_n dX11_submit_88 rfl rfl ?_
                            refine c_i2l dX11_submit_89 ?_
                            refine c_bipush (v := nI 48) dX11_submit_90 (by decide) ?_
                            refine c_lshl dX11_submit_92 ?_
                            refine c_iload_n dX11_submit_93 rfl rfl ?_
                            refine c_i2l dX11_submit_94 ?_
                            refine c_bipush (v := nI 40) dX11_submit_95 (by decide) ?_
                            refine c_lshl dX11_submit_97 ?_
                            refine c_lor dX11_submit_98 ?_
                            refine c_iload dX11_submit_99 rfl ?_
                            refine c_i2l dX11_submit_101 ?_
                            refine c_bipush (v := nI 24) dX11_submit_102 (by decide) ?_
                            refine c_lshl dX11_submit_104 ?_
                            refine c_lor dX11_submit_105 ?_
                            exact cX.cutz (b_X11_submit_106 hG hR ok hx) ⟨rfl, rfl, rfl, rfl, rfl, trivial⟩
                          · have ok := ok.2 c_83
                            have hx := xif_n c_83 hx
                            exact cX.cutz (b_X11_submit_86 hG hR ok hx) trivial
              · have ok := ok.1 c_42
                have hx := xif_p c_42 hx
                exact cX.cutz (b_X11_submit_45 hG hR ok hx) trivial
def f_X11_submit (N : Nat) (S : cS) (a0 : Nat) (x1 : Int32) (x2 : Int32) (x3 : Int32) (x4 : Int32) (x5 : Int32) (x6 : Int32) : Int32 × cS := F_X11_submit_0 N (some a0) x1 x2 x3 x4 x5 x6 S
def o_X11_submit (N : Nat) (S : cS) (a0 : Nat) (x1 : Int32) (x2 : Int32) (x3 : Int32) (x4 : Int32) (x5 : Int32) (x6 : Int32) : Prop := O_X11_submit_0 N (some a0) x1 x2 x3 x4 x5 x6 S
set_option maxRecDepth 100000 in
set_option maxHeartbeats 4000000 in
theorem cc_X11_submit {G : zG} {o : cO} {S : cS} {N : Nat} (hG : zOK G) {a0 : Nat} {x1 : Int32} {x2 : Int32} {x3 : Int32} {x4 : Int32} {x5 : Int32} {x6 : Int32} (ok : o_X11_submit N S a0 x1 x2 x3 x4 x5 x6) : cCi G o dX11_submit mX11_submit [.ref a0, .int x1, .int x2, .int x3, .int x4, .int x5, .int x6] S (fun v S' => v = (f_X11_submit N S a0 x1 x2 x3 x4 x5 x6).1 ∧ S' = (f_X11_submit N S a0 x1 x2 x3 x4 x5 x6).2) := by
  refine cC.ofX rfl (by exact Nat.le_of_ble_eq_true rfl) ?_
  show cX G o dX11_submit mX11_submit 0 [some (.ref a0), some (.int x1), some (.int x2), some (.int x3), some (.int x4), some (.int x5), some (.int x6), none, none, none, none] [] S _
  exact cX.cutz (b_X11_submit_0 (X := fun F => F = f_X11_submit N S a0 x1 x2 x3 x4 x5 x6) hG (fun v S' h => ⟨v, rfl, by rw [← h], by rw [← h]⟩) ok rfl) ⟨rfl, rfl, rfl, rfl, rfl, rfl, rfl, trivial⟩
/-! X11_deliver -/
def F_X11_deliver_8 (N : Nat) (s0 : Int32) (S : cS) : Int32 × cS := (s0, S)
def O_X11_deliver_8 (N : Nat) (s0 : Int32) (S : cS) : Prop := True
set_option maxRecDepth 100000 in
set_option maxHeartbeats 4000000 in
theorem b_X11_deliver_8 {G : zG} {o : cO} {S : cS} {N : Nat} {Q : Option Value → cS → Prop} {X : Int32 × cS → Prop} (hG : zOK G) (hR : ∀ v S', X (v, S') → Q (some (.int v)) S') {s0 : Int32} (ok : O_X11_deliver_8 N s0 S) (hx : X (F_X11_deliver_8 N s0 S)) : cX G o dX11_deliver mX11_deliver 8 [none, none] [.int s0] S Q := by
  unfold O_X11_deliver_8 at ok
  unfold F_X11_deliver_8 at hx
  exact c_ireturn rfl rfl dX11_deliver_8 (hR _ _ hx)
def F_X11_deliver_0 (N : Nat) (x0 : Option Nat) (x1 : Int32) (S : cS) : Int32 × cS := (F_X11_deliver_8 N ((f_X10_land N S (za (cR S 0 (za x0))) x1).1) (f_X10_land N S (za (cR S 0 (za x0))) x1).2)
def O_X11_deliver_0 (N : Nat) (x0 : Option Nat) (x1 : Int32) (S : cS) : Prop := (cis S x0 10) ∧ (cis S (cR S 0 (za x0)) 9 ∧ o_X10_land N S (za (cR S 0 (za x0))) x1) ∧ O_X11_deliver_8 N ((f_X10_land N S (za (cR S 0 (za x0))) x1).1) (f_X10_land N S (za (cR S 0 (za x0))) x1).2
set_option maxRecDepth 100000 in
set_option maxHeartbeats 4000000 in
theorem b_X11_deliver_0 {G : zG} {o : cO} {S : cS} {N : Nat} {Q : Option Value → cS → Prop} {X : Int32 × cS → Prop} (hG : zOK G) (hR : ∀ v S', X (v, S') → Q (some (.int v)) S') {x0 : Option Nat} {x1 : Int32} (ok : O_X11_deliver_0 N x0 x1 S) (hx : X (F_X11_deliver_0 N x0 x1 S)) : cX G o dX11_deliver mX11_deliver 0 [some (va_rf x0), some (.int x1)] [] S Q := by
  unfold O_X11_deliver_0 at ok
  unfold F_X11_deliver_0 at hx
  refine c_aload_nQ dX11_deliver_0 rfl rfl ?_
  refine c_getR (C := RX11) (T := TX11) (N := 4) (ci := 9) (k := 0) ⟨rfl, inT11, by decide, fX11_22⟩ (by decide) (by decide) (by decide) dX11_deliver_1 ok.1 ?_
  have ok := ok.2
  refine c_iload_n dX11_deliver_4 rfl rfl ?_
  refine c_V1iE (ci := 8) (rr := (RX10, TX10, 12)) (y' := mX10_land) dX11_deliver_5 lX11_180 kX10_land ⟨by decide, by decide⟩ rfl rfl (by decide) ok.1.1 (Nat.le_of_ble_eq_true rfl) (cc_X10_land hG ok.1.2) ?_
  have ok := ok.2
  exact cX.cutz (b_X11_deliver_8 hG hR ok hx) trivial
def f_X11_deliver (N : Nat) (S : cS) (a0 : Nat) (x1 : Int32) : Int32 × cS := F_X11_deliver_0 N (some a0) x1 S
def o_X11_deliver (N : Nat) (S : cS) (a0 : Nat) (x1 : Int32) : Prop := O_X11_deliver_0 N (some a0) x1 S
set_option maxRecDepth 100000 in
set_option maxHeartbeats 4000000 in
theorem cc_X11_deliver {G : zG} {o : cO} {S : cS} {N : Nat} (hG : zOK G) {a0 : Nat} {x1 : Int32} (ok : o_X11_deliver N S a0 x1) : cCi G o dX11_deliver mX11_deliver [.ref a0, .int x1] S (fun v S' => v = (f_X11_deliver N S a0 x1).1 ∧ S' = (f_X11_deliver N S a0 x1).2) := by
  refine cC.ofX rfl (by exact Nat.le_of_ble_eq_true rfl) ?_
  show cX G o dX11_deliver mX11_deliver 0 [some (.ref a0), some (.int x1)] [] S _
  exact cX.cutz (b_X11_deliver_0 (X := fun F => F = f_X11_deliver N S a0 x1) hG (fun v S' h => ⟨v, rfl, by rw [← h], by rw [← h]⟩) ok rfl) ⟨rfl, rfl, trivial⟩

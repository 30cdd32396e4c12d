/-! X1_isLess -/
def F_X1_isLess_54 (N : Nat)  (S : cS) : Int32 := (nI 0)
def O_X1_isLess_54 (N : Nat)  (S : cS) : Prop := True
set_option maxRecDepth 100000 in
set_option maxHeartbeats 4000000 in
theorem b_X1_isLess_54 {G : zG} {o : cO} {S : cS} {N : Nat} {Q : Option Value → cS → Prop} {X : Int32 → Prop} (hG : zOK G) (hR : ∀ v, X v → Q (some (.int v)) S) (ok : O_X1_isLess_54 N S) (hx : X (F_X1_isLess_54 N S)) : cX G o dX1_isLess mX1_isLess 54 [none, none, none, none] [] S Q := by
  unfold O_X1_isLess_54 at ok
  unfold F_X1_isLess_54 at hx
  refine c_iconst (v := nI 0) dX1_isLess_54 (by decide) ?_
  exact c_ireturn rfl rfl dX1_isLess_55 (hR _ hx)
def F_X1_isLess_47 (N : Nat) (s0 : Int32) (S : cS) : Int32 := s0
def O_X1_isLess_47 (N : Nat) (s0 : Int32) (S : cS) : Prop := narrow .boolean (.int s0) = .int s0
set_option maxRecDepth 100000 in
set_option maxHeartbeats 4000000 in
theorem b_X1_isLess_47 {G : zG} {o : cO} {S : cS} {N : Nat} {Q : Option Value → cS → Prop} {X : Int32 → Prop} (hG : zOK G) (hR : ∀ v, X v → Q (some (.int v)) S) {s0 : Int32} (ok : O_X1_isLess_47 N s0 S) (hx : X (F_X1_isLess_47 N s0 S)) : cX G o dX1_isLess mX1_isLess 47 [none, none, none, none] [.int s0] S Q := by
  unfold O_X1_isLess_47 at ok
  unfold F_X1_isLess_47 at hx
  exact c_ireturn rfl ok dX1_isLess_47 (hR _ hx)
def F_X1_isLess_21 (N : Nat) (x0 : Option Nat) (x1 : Int32) (x2 : Int32) (x3 : Int32) (S : cS) : Int32 := (if ((cA S (za x0) (x2 + x3).toNatClampNeg) &&& (nI 255)) ≤ ((cA S (za x0) (x1 + x3).toNatClampNeg) &&& (nI 255)) then (F_X1_isLess_47 N (nI 0) S) else (F_X1_isLess_47 N (nI 1) S))
def O_X1_isLess_21 (N : Nat) (x0 : Option Nat) (x1 : Int32) (x2 : Int32) (x3 : Int32) (S : cS) : Prop := (cis S x0 20 ∧ vp_in (x1 + x3) (cL S (za x0))) ∧ (cis S x0 20 ∧ vp_in (x2 + x3) (cL S (za x0))) ∧ ((((cA S (za x0) (x2 + x3).toNatClampNeg) &&& (nI 255)) ≤ ((cA S (za x0) (x1 + x3).toNatClampNeg) &&& (nI 255)) → O_X1_isLess_47 N (nI 0) S) ∧ (¬ ((cA S (za x0) (x2 + x3).toNatClampNeg) &&& (nI 255)) ≤ ((cA S (za x0) (x1 + x3).toNatClampNeg) &&& (nI 255)) → O_X1_isLess_47 N (nI 1) S))
set_option maxRecDepth 100000 in
set_option maxHeartbeats 4000000 in
theorem b_X1_isLess_21 {G : zG} {o : cO} {S : cS} {N : Nat} {Q : Option Value → cS → Prop} {X : Int32 → Prop} (hG : zOK G) (hR : ∀ v, X v → Q (some (.int v)) S) {x0 : Option Nat} {x1 : Int32} {x2 : Int32} {x3 : Int32} (ok : O_X1_isLess_21 N x0 x1 x2 x3 S) (hx : X (F_X1_isLess_21 N x0 x1 x2 x3 S)) : cX G o dX1_isLess mX1_isLess 21 [some (va_rf x0), some (.int x1), some (.int x2), some (.int x3)] [] S Q := by
  unfold O_X1_isLess_21 at ok
  unfold F_X1_isLess_21 at hx
  refine c_aload_nQ dX1_isLess_21 rfl rfl ?_
  refine c_iload_n dX1_isLess_22 rfl rfl ?_
  refine c_iload_n dX1_isLess_23 rfl rfl ?_
  refine c_iadd dX1_isLess_24 ?_
  refine c_bald dX1_isLess_25 ok.1 ?_
  have ok := ok.2
  refine c_sipush (v := nI 255) dX1_isLess_26 (by decide) ?_
  refine c_iand dX1_isLess_29 ?_
  refine c_aload_nQ dX1_isLess_30 rfl rfl ?_
  refine c_iload_n dX1_isLess_31 rfl rfl ?_
  refine c_iload_n dX1_isLess_32 rfl rfl ?_
  refine c_iadd dX1_isLess_33 ?_
  refine c_bald dX1_isLess_34 ok.1 ?_
  have ok := ok.2
  refine c_sipush (v := nI 255) dX1_isLess_35 (by decide) ?_
  refine c_iand dX1_isLess_38 ?_
  refine c_icmp_ge (tgt := 46) dX1_isLess_39 (by decide) (fun c_39 => ?_) (fun c_39 => ?_)
  · have ok := ok.1 c_39
    have hx := xif_p c_39 hx
    refine c_iconst (v := nI 0) dX1_isLess_46 (by decide) ?_
    exact cX.cutz (b_X1_isLess_47 hG hR ok hx) trivial
  · have ok := ok.2 c_39
    have hx := xif_n c_39 hx
    refine c_iconst (v := nI 1) dX1_isLess_42 (by decide) ?_
    refine c_goto (tgt := 47) dX1_isLess_43 (by decide) ?_
    exact cX.cutz (b_X1_isLess_47 hG hR ok hx) trivial
def B_X1_isLess_2 (N : Nat) (rec : Option Nat → Int32 → Int32 → Int32 → Nat × Option Nat × Int32 × Int32 × Int32 × Unit) (x0 : Option Nat) (x1 : Int32) (x2 : Int32) (x3 : Int32) (S : cS) : Nat × Option Nat × Int32 × Int32 × Int32 × Unit := (if (nI 32) ≤ x3 then (1, none, 0, 0, 0, ()) else (if (cA S (za x0) (x1 + x3).toNatClampNeg) = (cA S (za x0) (x2 + x3).toNatClampNeg) then (rec x0 x1 x2 (x3 + nI 1)) else (0, x0, x1, x2, x3, ())))
def OB_X1_isLess_2 (N : Nat) (rok : Option Nat → Int32 → Int32 → Int32 → Prop) (x0 : Option Nat) (x1 : Int32) (x2 : Int32) (x3 : Int32) (S : cS) : Prop := (((nI 32) ≤ x3 → True) ∧ (¬ (nI 32) ≤ x3 → (cis S x0 20 ∧ vp_in (x1 + x3) (cL S (za x0))) ∧ (cis S x0 20 ∧ vp_in (x2 + x3) (cL S (za x0))) ∧ (((cA S (za x0) (x1 + x3).toNatClampNeg) = (cA S (za x0) (x2 + x3).toNatClampNeg) → rok x0 x1 x2 (x3 + nI 1)) ∧ (¬ (cA S (za x0) (x1 + x3).toNatClampNeg) = (cA S (za x0) (x2 + x3).toNatClampNeg) → True))))
set_option maxRecDepth 100000 in
set_option maxHeartbeats 4000000 in
theorem bb_X1_isLess_2 {G : zG} {o : cO} {S : cS} {N : Nat} {Q : Option Value → cS → Prop} {X : Nat × Option Nat × Int32 × Int32 × Int32 × Unit → Prop} (hG : zOK G) (hX0 : ∀ (x0 : Option Nat) (x1 : Int32) (x2 : Int32) (x3 : Int32) , X (0, x0, x1, x2, x3, ()) → cX G o dX1_isLess mX1_isLess 21 [some (va_rf x0), some (.int x1), some (.int x2), some (.int x3)] [] S Q) (hX1 : ∀ (x0 : Option Nat) (x1 : Int32) (x2 : Int32) (x3 : Int32) , X (1, x0, x1, x2, x3, ()) → cX G o dX1_isLess mX1_isLess 54 [none, none, none, none] [] S Q) {rec : Option Nat → Int32 → Int32 → Int32 → Nat × Option Nat × Int32 × Int32 × Int32 × Unit} {rok : Option Nat → Int32 → Int32 → Int32 → Prop} (hrec : ∀ (x0 : Option Nat) (x1 : Int32) (x2 : Int32) (x3 : Int32), rok x0 x1 x2 x3 → X (rec x0 x1 x2 x3) → cX G o dX1_isLess mX1_isLess 2 [some (va_rf x0), some (.int x1), some (.int x2), some (.int x3)] [] S Q) {x0 : Option Nat} {x1 : Int32} {x2 : Int32} {x3 : Int32} (ok : OB_X1_isLess_2 N rok x0 x1 x2 x3 S) (hx : X (B_X1_isLess_2 N rec x0 x1 x2 x3 S)) : cX G o dX1_isLess mX1_isLess 2 [some (va_rf x0), some (.int x1), some (.int x2), some (.int x3)] [] S Q := by
  unfold OB_X1_isLess_2 at ok
  unfold B_X1_isLess_2 at hx
  refine c_iload_n dX1_isLess_2 rfl rfl ?_
  refine c_bipush (v := nI 32) dX1_isLess_3 (by decide) ?_
  refine c_icmp_ge (tgt := 54) dX1_isLess_5 (by decide) (fun c_5 => ?_) (fun c_5 => ?_)
  · have ok := ok.1 c_5
    have hx := xif_p c_5 hx
    exact cX.cutz (hX1 _ _ _ _  hx) trivial
  · have ok := ok.2 c_5
    have hx := xif_n c_5 hx
    refine c_aload_nQ dX1_isLess_8 rfl rfl ?_
    refine c_iload_n dX1_isLess_9 rfl rfl ?_
    refine c_iload_n dX1_isLess_10 rfl rfl ?_
    refine c_iadd dX1_isLess_11 ?_
    refine c_bald dX1_isLess_12 ok.1 ?_
    have ok := ok.2
    refine c_aload_nQ dX1_isLess_13 rfl rfl ?_
    refine c_iload_n dX1_isLess_14 rfl rfl ?_
    refine c_iload_n dX1_isLess_15 rfl rfl ?_
    refine c_iadd dX1_isLess_16 ?_
    refine c_bald dX1_isLess_17 ok.1 ?_
    have ok := ok.2
    refine c_icmp_eq (tgt := 48) dX1_isLess_18 (by decide) (fun c_18 => ?_) (fun c_18 => ?_)
    · have ok := ok.1 c_18
      have hx := xif_p c_18 hx
      refine c_iinc_3 (v := (x3 + nI 1)) dX1_isLess_48 rfl (by first | rfl | (congr 1)) (by decide) rfl ?_
      refine c_goto (tgt := 2) dX1_isLess_51 (by decide) ?_
      exact cX.cutz (hrec _ _ _ _ ok hx) ⟨rfl, rfl, rfl, rfl, trivial⟩
    · have ok := ok.2 c_18
      have hx := xif_n c_18 hx
      exact cX.cutz (hX0 _ _ _ _  hx) ⟨rfl, rfl, rfl, rfl, trivial⟩
def L_X1_isLess_2 (N : Nat) : Nat → Option Nat → Int32 → Int32 → Int32 → cS → Nat × Option Nat × Int32 × Int32 × Int32 × Unit
  | 0, x0, x1, x2, x3, S => (0, none, 0, 0, 0, ())
  | n + 1, x0, x1, x2, x3, S => B_X1_isLess_2 N (fun x0 x1 x2 x3 => L_X1_isLess_2 N n x0 x1 x2 x3 S) x0 x1 x2 x3 S
def OL_X1_isLess_2 (N : Nat) : Nat → Option Nat → Int32 → Int32 → Int32 → cS → Prop
  | 0, _, _, _, _, _ => False
  | n + 1, x0, x1, x2, x3, S => OB_X1_isLess_2 N (fun x0 x1 x2 x3 => OL_X1_isLess_2 N n x0 x1 x2 x3 S) x0 x1 x2 x3 S
set_option maxRecDepth 100000 in
set_option maxHeartbeats 4000000 in
theorem l_X1_isLess_2 {G : zG} {o : cO} {S : cS} {N : Nat} {Q : Option Value → cS → Prop} {X : Nat × Option Nat × Int32 × Int32 × Int32 × Unit → Prop} (hG : zOK G) (hX0 : ∀ (x0 : Option Nat) (x1 : Int32) (x2 : Int32) (x3 : Int32) , X (0, x0, x1, x2, x3, ()) → cX G o dX1_isLess mX1_isLess 21 [some (va_rf x0), some (.int x1), some (.int x2), some (.int x3)] [] S Q) (hX1 : ∀ (x0 : Option Nat) (x1 : Int32) (x2 : Int32) (x3 : Int32) , X (1, x0, x1, x2, x3, ()) → cX G o dX1_isLess mX1_isLess 54 [none, none, none, none] [] S Q) : ∀ (n : Nat) (x0 : Option Nat) (x1 : Int32) (x2 : Int32) (x3 : Int32) , OL_X1_isLess_2 N n x0 x1 x2 x3 S → X (L_X1_isLess_2 N n x0 x1 x2 x3 S) → cX G o dX1_isLess mX1_isLess 2 [some (va_rf x0), some (.int x1), some (.int x2), some (.int x3)] [] S Q := by
  intro n
  induction n with
  | zero => intro x0 x1 x2 x3 ok; exact absurd ok id
  | succ n ih =>
    intro x0 x1 x2 x3 ok hx
    exact bb_X1_isLess_2 hG hX0 hX1 (rec := fun x0 x1 x2 x3 => L_X1_isLess_2 N n x0 x1 x2 x3 S) (rok := fun x0 x1 x2 x3 => OL_X1_isLess_2 N n x0 x1 x2 x3 S) (fun x0 x1 x2 x3 ok hx => ih x0 x1 x2 x3 ok hx) ok hx
def A_X1_isLess_2 (N : Nat) (x0 : Option Nat) (x1 : Int32) (x2 : Int32) (x3 : Int32) (S : cS) (z : Nat × Option Nat × Int32 × Int32 × Int32 × Unit) : Int32 := (if z.1 = 0 then (F_X1_isLess_21 N (z.2.1) (z.2.2.1) (z.2.2.2.1) (z.2.2.2.2.1) S) else (F_X1_isLess_54 N S))
def OA_X1_isLess_2 (N : Nat) (x0 : Option Nat) (x1 : Int32) (x2 : Int32) (x3 : Int32) (S : cS) (z : Nat × Option Nat × Int32 × Int32 × Int32 × Unit) : Prop := (if z.1 = 0 then O_X1_isLess_21 N (z.2.1) (z.2.2.1) (z.2.2.2.1) (z.2.2.2.2.1) S else O_X1_isLess_54 N S)
set_option maxRecDepth 100000 in
set_option maxHeartbeats 4000000 in
theorem c_X1_isLess_2 {G : zG} {o : cO} {S : cS} {N : Nat} {Q : Option Value → cS → Prop} {X : Int32 → Prop} (hG : zOK G) (hR : ∀ v, X v → Q (some (.int v)) S) {x0 : Option Nat} {x1 : Int32} {x2 : Int32} {x3 : Int32} (ok : OL_X1_isLess_2 N N x0 x1 x2 x3 S ∧ OA_X1_isLess_2 N x0 x1 x2 x3 S (L_X1_isLess_2 N N x0 x1 x2 x3 S)) (hx : X (A_X1_isLess_2 N x0 x1 x2 x3 S (L_X1_isLess_2 N N x0 x1 x2 x3 S))) : cX G o dX1_isLess mX1_isLess 2 [some (va_rf x0), some (.int x1), some (.int x2), some (.int x3)] [] S Q := by
  refine l_X1_isLess_2 hG ?_ ?_ N x0 x1 x2 x3 ok.1 (X := fun z => OA_X1_isLess_2 N x0 x1 x2 x3 S z ∧ X (A_X1_isLess_2 N x0 x1 x2 x3 S z)) ⟨ok.2, hx⟩
  · intro x0' x1' x2' x3' hz
    obtain ⟨ok, hx⟩ := hz
    unfold OA_X1_isLess_2 at ok
    unfold A_X1_isLess_2 at hx
    have ok := xif_P (show (0 : Nat) = 0 from rfl) ok
    have hx := xif_p (show (0 : Nat) = 0 from rfl) hx
    exact cX.cutz (b_X1_isLess_21 hG hR ok hx) ⟨rfl, rfl, rfl, rfl, trivial⟩
  · intro x0' x1' x2' x3' hz
    obtain ⟨ok, hx⟩ := hz
    unfold OA_X1_isLess_2 at ok
    unfold A_X1_isLess_2 at hx
    have ok := xif_N (show ¬ (1 : Nat) = 0 by decide) ok
    have hx := xif_n (show ¬ (1 : Nat) = 0 by decide) hx
    exact cX.cutz (b_X1_isLess_54 hG hR ok hx) trivial
def F_X1_isLess_0 (N : Nat) (x0 : Option Nat) (x1 : Int32) (x2 : Int32) (S : cS) : Int32 := (A_X1_isLess_2 N x0 x1 x2 (nI 0) S (L_X1_isLess_2 N N x0 x1 x2 (nI 0) S))
def O_X1_isLess_0 (N : Nat) (x0 : Option Nat) (x1 : Int32) (x2 : Int32) (S : cS) : Prop := (OL_X1_isLess_2 N N x0 x1 x2 (nI 0) S ∧ OA_X1_isLess_2 N x0 x1 x2 (nI 0) S (L_X1_isLess_2 N N x0 x1 x2 (nI 0) S))
set_option maxRecDepth 100000 in
set_option maxHeartbeats 4000000 in
theorem b_X1_isLess_0 {G : zG} {o : cO} {S : cS} {N : Nat} {Q : Option Value → cS → Prop} {X : Int32 → Prop} (hG : zOK G) (hR : ∀ v, X v → Q (some (.int v)) S) {x0 : Option Nat} {x1 : Int32} {x2 : Int32} (ok : O_X1_isLess_0 N x0 x1 x2 S) (hx : X (F_X1_isLess_0 N x0 x1 x2 S)) : cX G o dX1_isLess mX1_isLess 0 [some (va_rf x0), some (.int x1), some (.int x2), none] [] S Q := by
  unfold O_X1_isLess_0 at ok
  unfold F_X1_isLess_0 at hx
  refine c_iconst (v := nI 0) dX1_isLess_0 (by decide) ?_
  refine c_istore_3 dX1_isLess_1 (by decide) rfl ?_
  exact cX.cutz (c_X1_isLess_2 hG hR ok hx) ⟨rfl, rfl, rfl, rfl, trivial⟩
def f_X1_isLess (N : Nat) (S : cS) (x0 : Option Nat) (x1 : Int32) (x2 : Int32) : Int32 := F_X1_isLess_0 N x0 x1 x2 S
def o_X1_isLess (N : Nat) (S : cS) (x0 : Option Nat) (x1 : Int32) (x2 : Int32) : Prop := O_X1_isLess_0 N x0 x1 x2 S
set_option maxRecDepth 100000 in
set_option maxHeartbeats 4000000 in
theorem cc_X1_isLess {G : zG} {o : cO} {S : cS} {N : Nat} (hG : zOK G) {x0 : Option Nat} {x1 : Int32} {x2 : Int32} (ok : o_X1_isLess N S x0 x1 x2) : cCi G o dX1_isLess mX1_isLess [va_rf x0, .int x1, .int x2] S (fun v S' => v = f_X1_isLess N S x0 x1 x2 ∧ S' = S) := by
  refine cC.ofX rfl (by cases x0 <;> exact Nat.le_of_ble_eq_true rfl) ?_
  rw [show zargs mX1_isLess.2.2.1 [va_rf x0, .int x1, .int x2] = [some (va_rf x0), some (.int x1), some (.int x2), none] from by cases x0 <;> rfl]
  exact cX.cutz (b_X1_isLess_0 (X := fun F => F = f_X1_isLess N S x0 x1 x2) hG (fun v h => ⟨v, rfl, h, rfl⟩) ok rfl) ⟨rfl, rfl, rfl, trivial⟩
/-! X1_evidenceFits -/
def F_X1_evidenceFits_127 (N : Nat) (s0 : Int32) (S : cS) : Int32 := s0
def O_X1_evidenceFits_127 (N : Nat) (s0 : Int32) (S : cS) : Prop := True
set_option maxRecDepth 100000 in
set_option maxHeartbeats 4000000 in
theorem b_X1_evidenceFits_127 {G : zG} {o : cO} {S : cS} {N : Nat} {Q : Option Value → cS → Prop} {X : Int32 → Prop} (hG : zOK G) (hR : ∀ v, X v → Q (some (.int v)) S) {s0 : Int32} (ok : O_X1_evidenceFits_127 N s0 S) (hx : X (F_X1_evidenceFits_127 N s0 S)) : cX G o dX1_evidenceFits mX1_evidenceFits 127 [none, none, none, none, none, none] [.int s0] S Q := by
  unfold O_X1_evidenceFits_127 at ok
  unfold F_X1_evidenceFits_127 at hx
  exact c_ireturn rfl rfl dX1_evidenceFits_127 (hR _ hx)
def F_X1_evidenceFits_112 (N : Nat) (x2 : Int32) (x4 : Int32) (s0 : Int32) (S : cS) : Int32 := (if s0 = 0 then (F_X1_evidenceFits_127 N (-1) S) else (F_X1_evidenceFits_127 N (x2 + x4) S))
def O_X1_evidenceFits_112 (N : Nat) (x2 : Int32) (x4 : Int32) (s0 : Int32) (S : cS) : Prop := ((s0 = 0 → O_X1_evidenceFits_127 N (-1) S) ∧ (¬ s0 = 0 → O_X1_evidenceFits_127 N (x2 + x4) S))
set_option maxRecDepth 100000 in
set_option maxHeartbeats 4000000 in
theorem b_X1_evidenceFits_112 {G : zG} {o : cO} {S : cS} {N : Nat} {Q : Option Value → cS → Prop} {X : Int32 → Prop} (hG : zOK G) (hR : ∀ v, X v → Q (some (.int v)) S) {x2 : Int32} {x4 : Int32} {s0 : Int32} (ok : O_X1_evidenceFits_112 N x2 x4 s0 S) (hx : X (F_X1_evidenceFits_112 N x2 x4 s0 S)) : cX G o dX1_evidenceFits mX1_evidenceFits 112 [none, none, some (.int x2), none, some (.int x4), none] [.int s0] S Q := by
  unfold O_X1_evidenceFits_112 at ok
  unfold F_X1_evidenceFits_112 at hx
  refine c_istore_5 dX1_evidenceFits_112 (by decide) rfl ?_
  refine c_iload dX1_evidenceFits_114 rfl ?_
  refine c_if_eq (tgt := 126) dX1_evidenceFits_116 (by decide) (fun c_116 => ?_) (fun c_116 => ?_)
  · have ok := ok.1 c_116
    have hx := xif_p c_116 hx
    refine c_iconst (v := -1) dX1_evidenceFits_126 (by decide) ?_
    exact cX.cutz (b_X1_evidenceFits_127 hG hR ok hx) trivial
  · have ok := ok.2 c_116
    have hx := xif_n c_116 hx
    refine c_iload_n dX1_evidenceFits_119 rfl rfl ?_
    refine c_iload dX1_evidenceFits_120 rfl ?_
    refine c_iadd dX1_evidenceFits_122 ?_
    refine c_goto (tgt := 127) dX1_evidenceFits_123 (by decide) ?_
    exact cX.cutz (b_X1_evidenceFits_127 hG hR ok hx) trivial
def F_X1_evidenceFits_71 (N : Nat)  (S : cS) : Int32 := (-1)
def O_X1_evidenceFits_71 (N : Nat)  (S : cS) : Prop := True
set_option maxRecDepth 100000 in
set_option maxHeartbeats 4000000 in
theorem b_X1_evidenceFits_71 {G : zG} {o : cO} {S : cS} {N : Nat} {Q : Option Value → cS → Prop} {X : Int32 → Prop} (hG : zOK G) (hR : ∀ v, X v → Q (some (.int v)) S) (ok : O_X1_evidenceFits_71 N S) (hx : X (F_X1_evidenceFits_71 N S)) : cX G o dX1_evidenceFits mX1_evidenceFits 71 [none, none, none, none, none, none] [] S Q := by
  unfold O_X1_evidenceFits_71 at ok
  unfold F_X1_evidenceFits_71 at hx
  refine c_iconst (v := -1) dX1_evidenceFits_71 (by decide) ?_
  exact c_ireturn rfl rfl dX1_evidenceFits_72 (hR _ hx)
def F_X1_evidenceFits_45 (N : Nat)  (S : cS) : Int32 := (-1)
def O_X1_evidenceFits_45 (N : Nat)  (S : cS) : Prop := True
set_option maxRecDepth 100000 in
set_option maxHeartbeats 4000000 in
theorem b_X1_evidenceFits_45 {G : zG} {o : cO} {S : cS} {N : Nat} {Q : Option Value → cS → Prop} {X : Int32 → Prop} (hG : zOK G) (hR : ∀ v, X v → Q (some (.int v)) S) (ok : O_X1_evidenceFits_45 N S) (hx : X (F_X1_evidenceFits_45 N S)) : cX G o dX1_evidenceFits mX1_evidenceFits 45 [none, none, none, none, none, none] [] S Q := by
  unfold O_X1_evidenceFits_45 at ok
  unfold F_X1_evidenceFits_45 at hx
  refine c_iconst (v := -1) dX1_evidenceFits_45 (by decide) ?_
  exact c_ireturn rfl rfl dX1_evidenceFits_46 (hR _ hx)
def F_X1_evidenceFits_0 (N : Nat) (x0 : Option Nat) (x1 : Option Nat) (x2 : Int32) (x3 : Int32) (S : cS) : Int32 := (if (f_X1_evidenceSize N S x1 x2 x3) < 0 then (F_X1_evidenceFits_45 N S) else (if (cI S 1 (za x0)) ≤ ((cA S (za x1) x2.toNatClampNeg) &&& (nI 255)) then (F_X1_evidenceFits_45 N S) else (if (cA S (za x1) (x2 + (nI 1)).toNatClampNeg) < (nI 1) then (F_X1_evidenceFits_45 N S) else (if (cA S (za x1) (x2 + (nI 1)).toNatClampNeg) ≤ (nI 3) then (if (f_X1_heightFits N S x1 (x2 + (nI 2))) = 0 then (F_X1_evidenceFits_71 N S) else (if ((cA S (za x1) (x2 + (nI 4)).toNatClampNeg) &&& (nI 255)) < (nI 16) then (if (f_X1_evidenceSize N S x1 x2 x3) = (nI 39) then (if (cA S (za x1) (x2 + (nI 1)).toNatClampNeg) = (nI 1) then (F_X1_evidenceFits_112 N x2 (f_X1_evidenceSize N S x1 x2 x3) (nI 0) S) else (F_X1_evidenceFits_112 N x2 (f_X1_evidenceSize N S x1 x2 x3) (nI 1) S)) else (F_X1_evidenceFits_112 N x2 (f_X1_evidenceSize N S x1 x2 x3) (f_X1_isLess N S x1 (x2 + (nI 6)) ((x2 + (nI 7)) + (nI 32))) S)) else (F_X1_evidenceFits_71 N S))) else (F_X1_evidenceFits_45 N S)))))
def O_X1_evidenceFits_0 (N : Nat) (x0 : Option Nat) (x1 : Option Nat) (x2 : Int32) (x3 : Int32) (S : cS) : Prop := (o_X1_evidenceSize N S x1 x2 x3) ∧ (((f_X1_evidenceSize N S x1 x2 x3) < 0 → O_X1_evidenceFits_45 N S) ∧ (¬ (f_X1_evidenceSize N S x1 x2 x3) < 0 → (cis S x1 20 ∧ vp_in x2 (cL S (za x1))) ∧ (cis S x0 2) ∧ (((cI S 1 (za x0)) ≤ ((cA S (za x1) x2.toNatClampNeg) &&& (nI 255)) → O_X1_evidenceFits_45 N S) ∧ (¬ (cI S 1 (za x0)) ≤ ((cA S (za x1) x2.toNatClampNeg) &&& (nI 255)) → (cis S x1 20 ∧ vp_in (x2 + (nI 1)) (cL S (za x1))) ∧ (((cA S (za x1) (x2 + (nI 1)).toNatClampNeg) < (nI 1) → O_X1_evidenceFits_45 N S) ∧ (¬ (cA S (za x1) (x2 + (nI 1)).toNatClampNeg) < (nI 1) → (cis S x1 20 ∧ vp_in (x2 + (nI 1)) (cL S (za x1))) ∧ (((cA S (za x1) (x2 + (nI 1)).toNatClampNeg) ≤ (nI 3) → (o_X1_heightFits N S x1 (x2 + (nI 2))) ∧ (((f_X1_heightFits N S x1 (x2 + (nI 2))) = 0 → O_X1_evidenceFits_71 N S) ∧ (¬ (f_X1_heightFits N S x1 (x2 + (nI 2))) = 0 → (cis S x1 20 ∧ vp_in (x2 + (nI 4)) (cL S (za x1))) ∧ ((((cA S (za x1) (x2 + (nI 4)).toNatClampNeg) &&& (nI 255)) < (nI 16) → (((f_X1_evidenceSize N S x1 x2 x3) = (nI 39) → (cis S x1 20 ∧ vp_in (x2 + (nI 1)) (cL S (za x1))) ∧ (((cA S (za x1) (x2 + (nI 1)).toNatClampNeg) = (nI 1) → O_X1_evidenceFits_112 N x2 (f_X1_evidenceSize N S x1 x2 x3) (nI 0) S) ∧ (¬ (cA S (za x1) (x2 + (nI 1)).toNatClampNeg) = (nI 1) → O_X1_evidenceFits_112 N x2 (f_X1_evidenceSize N S x1 x2 x3) (nI 1) S))) ∧ (¬ (f_X1_evidenceSize N S x1 x2 x3) = (nI 39) → (o_X1_isLess N S x1 (x2 + (nI 6)) ((x2 + (nI 7)) + (nI 32))) ∧ O_X1_evidenceFits_112 N x2 (f_X1_evidenceSize N S x1 x2 x3) (f_X1_isLess N S x1 (x2 + (nI 6)) ((x2 + (nI 7)) + (nI 32))) S))) ∧ (¬ ((cA S (za x1) (x2 + (nI 4)).toNatClampNeg) &&& (nI 255)) < (nI 16) → O_X1_evidenceFits_71 N S))))) ∧ (¬ (cA S (za x1) (x2 + (nI 1)).toNatClampNeg) ≤ (nI 3) → O_X1_evidenceFits_45 N S))))))))
set_option maxRecDepth 100000 in
set_option maxHeartbeats 4000000 in
theorem b_X1_evidenceFits_0 {G : zG} {o : cO} {S : cS} {N : Nat} {Q : Option Value → cS → Prop} {X : Int32 → Prop} (hG : zOK G) (hR : ∀ v, X v → Q (some (.int v)) S) {x0 : Option Nat} {x1 : Option Nat} {x2 : Int32} {x3 : Int32} (ok : O_X1_evidenceFits_0 N x0 x1 x2 x3 S) (hx : X (F_X1_evidenceFits_0 N x0 x1 x2 x3 S)) : cX G o dX1_evidenceFits mX1_evidenceFits 0 [some (va_rf x0), some (va_rf x1), some (.int x2), some (.int x3), none, none] [] S Q := by
  unfold O_X1_evidenceFits_0 at ok
  unfold F_X1_evidenceFits_0 at hx
  refine c_aload_nQ dX1_evidenceFits_0 rfl rfl ?_
  refine c_iload_n dX1_evidenceFits_1 rfl rfl ?_
  refine c_iload_n dX1_evidenceFits_2 rfl rfl ?_
  refine c_S3iE (y' := mX1_evidenceSize) dX1_evidenceFits_3 lX1_87 kX1_evidenceSize ⟨by decide, by decide⟩ (Nat.le_of_ble_eq_true rfl) (cc_X1_evidenceSize hG ok.1) ?_
  have ok := ok.2
  refine c_istore_4 dX1_evidenceFits_6 (by decide) rfl ?_
  refine c_iload dX1_evidenceFits_8 rfl ?_
  refine c_if_lt (tgt := 45) dX1_evidenceFits_10 (by decide) (fun c_10 => ?_) (fun c_10 => ?_)
  · have ok := ok.1 c_10
    have hx := xif_p c_10 hx
    exact cX.cutz (b_X1_evidenceFits_45 hG hR ok hx) trivial
  · have ok := ok.2 c_10
    have hx := xif_n c_10 hx
    refine c_aload_nQ dX1_evidenceFits_13 rfl rfl ?_
    refine c_iload_n dX1_evidenceFits_14 rfl rfl ?_
    refine c_bald dX1_evidenceFits_15 ok.1 ?_
    have ok := ok.2
    refine c_sipush (v := nI 255) dX1_evidenceFits_16 (by decide) ?_
    refine c_iand dX1_evidenceFits_19 ?_
    refine c_aload_nQ dX1_evidenceFits_20 rfl rfl ?_
    refine c_getI (C := RX1) (T := TX1) (N := 3) (ci := 1) (k := 1) ⟨rfl, inT1, by decide, fX1_19⟩ (by decide) (by decide) (by decide) dX1_evidenceFits_21 ok.1 ?_
    have ok := ok.2
    refine c_icmp_ge (tgt := 45) dX1_evidenceFits_24 (by decide) (fun c_24 => ?_) (fun c_24 => ?_)
    · have ok := ok.1 c_24
      have hx := xif_p c_24 hx
      exact cX.cutz (b_X1_evidenceFits_45 hG hR ok hx) trivial
    · have ok := ok.2 c_24
      have hx := xif_n c_24 hx
      refine c_aload_nQ dX1_evidenceFits_27 rfl rfl ?_
      refine c_iload_n dX1_evidenceFits_28 rfl rfl ?_
      refine c_iconst (v := nI 1) dX1_evidenceFits_29 (by decide) ?_
      refine c_iadd dX1_evidenceFits_30 ?_
      refine c_bald dX1_evidenceFits_31 ok.1 ?_
      have ok := ok.2
      refine c_iconst (v := nI 1) dX1_evidenceFits_32 (by decide) ?_
      refine c_icmp_lt (tgt := 45) dX1_evidenceFits_33 (by decide) (fun c_33 => ?_) (fun c_33 => ?_)
      · have ok := ok.1 c_33
        have hx := xif_p c_33 hx
        exact cX.cutz (b_X1_evidenceFits_45 hG hR ok hx) trivial
      · have ok := ok.2 c_33
        have hx := xif_n c_33 hx
        refine c_aload_nQ dX1_evidenceFits_36 rfl rfl ?_
        refine c_iload_n dX1_evidenceFits_37 rfl rfl ?_
        refine c_iconst (v := nI 1) dX1_evidenceFits_38 (by decide) ?_
        refine c_iadd dX1_evidenceFits_39 ?_
        refine c_bald dX1_evidenceFits_40 ok.1 ?_
        have ok := ok.2
        refine c_iconst (v := nI 3) dX1_evidenceFits_41 (by decide) ?_
        refine c_icmp_le (tgt := 47) dX1_evidenceFits_42 (by decide) (fun c_42 => ?_) (fun c_42 => ?_)
        · have ok := ok.1 c_42
          have hx := xif_p c_42 hx
          refine c_aload_nQ dX1_evidenceFits_47 rfl rfl ?_
          refine c_iload_n dX1_evidenceFits_48 rfl rfl ?_
          refine c_iconst (v := nI 2) dX1_evidenceFits_49 (by decide) ?_
          refine c_iadd dX1_evidenceFits_50 ?_
          refine c_S2iE (y' := mX1_heightFits) dX1_evidenceFits_51 lX1_77 kX1_heightFits ⟨by decide, by decide⟩ (Nat.le_of_ble_eq_true rfl) (cc_X1_heightFits hG ok.1) ?_
          have ok := ok.2
          refine c_if_eq (tgt := 71) dX1_evidenceFits_54 (by decide) (fun c_54 => ?_) (fun c_54 => ?_)
          · have ok := ok.1 c_54
            have hx := xif_p c_54 hx
            exact cX.cutz (b_X1_evidenceFits_71 hG hR ok hx) trivial
          · have ok := ok.2 c_54
            have hx := xif_n c_54 hx
            refine c_aload_nQ dX1_evidenceFits_57 rfl rfl ?_
            refine c_iload_n dX1_evidenceFits_58 rfl rfl ?_
            refine c_iconst (v := nI 4) dX1_evidenceFits_59 (by decide) ?_
            refine c_iadd dX1_evidenceFits_60 ?_
            refine c_bald dX1_evidenceFits_61 ok.1 ?_
            have ok := ok.2
            refine c_sipush (v := nI 255) dX1_evidenceFits_62 (by decide) ?_
            refine c_iand dX1_evidenceFits_65 ?_
            refine c_bipush (v := nI 16) dX1_evidenceFits_66 (by decide) ?_
            refine c_icmp_lt (tgt := 73) dX1_evidenceFits_68 (by decide) (fun c_68 => ?_) (fun c_68 => ?_)
            · have ok := ok.1 c_68
              have hx := xif_p c_68 hx
              refine c_iload dX1_evidenceFits_73 rfl ?_
              refine c_bipush (v := nI 39) dX1_evidenceFits_75 (by decide) ?_
              refine c_icmp_ne (tgt := 97) dX1_evidenceFits_77 (by decide) (fun c_77 => ?_) (fun c_77 => ?_)
              · have ok := ok.2 c_77
                have hx := xif_n c_77 hx
                refine c_aload_nQ dX1_evidenceFits_97 rfl rfl ?_
                refine c_iload_n dX1_evidenceFits_98 rfl rfl ?_
                refine c_bipush (v := nI 6) dX1_evidenceFits_99 (by decide) ?_
                refine c_iadd dX1_evidenceFits_101 ?_
                refine c_iload_n dX1_evidenceFits_102 rfl rfl ?_
                refine c_bipush (v := nI 7) dX1_evidenceFits_103 (by decide) ?_
                refine c_iadd dX1_evidenceFits_105 ?_
                refine c_bipush (v := nI 32) dX1_evidenceFits_106 (by decide) ?_
                refine c_iadd dX1_evidenceFits_108 ?_
                refine c_S3iE (y' := mX1_isLess) dX1_evidenceFits_109 lX1_90 kX1_isLess ⟨by decide, by decide⟩ (Nat.le_of_ble_eq_true rfl) (cc_X1_isLess hG ok.1) ?_
                have ok := ok.2
                exact cX.cutz (b_X1_evidenceFits_112 hG hR ok hx) ⟨rfl, rfl, trivial⟩
              · have ok := ok.1 c_77
                have hx := xif_p c_77 hx
                refine c_aload_nQ dX1_evidenceFits_80 rfl rfl ?_
                refine c_iload_n dX1_evidenceFits_81 rfl rfl ?_
                refine c_iconst (v := nI 1) dX1_evidenceFits_82 (by decide) ?_
                refine c_iadd dX1_evidenceFits_83 ?_
                refine c_bald dX1_evidenceFits_84 ok.1 ?_
                have ok := ok.2
                refine c_iconst (v := nI 1) dX1_evidenceFits_85 (by decide) ?_
                refine c_icmp_eq (tgt := 93) dX1_evidenceFits_86 (by decide) (fun c_86 => ?_) (fun c_86 => ?_)
                · have ok := ok.1 c_86
                  have hx := xif_p c_86 hx
                  refine c_iconst (v := nI 0) dX1_evidenceFits_93 (by decide) ?_
                  refine c_goto (tgt := 112) dX1_evidenceFits_94 (by decide) ?_
                  exact cX.cutz (b_X1_evidenceFits_112 hG hR ok hx) ⟨rfl, rfl, trivial⟩
                · have ok := ok.2 c_86
                  have hx := xif_n c_86 hx
                  refine c_iconst (v := nI 1) dX1_evidenceFits_89 (by decide) ?_
                  refine c_goto (tgt := 112) dX1_evidenceFits_90 (by decide) ?_
                  exact cX.cutz (b_X1_evidenceFits_112 hG hR ok hx) ⟨rfl, rfl, trivial⟩
            · have ok := ok.2 c_68
              have hx := xif_n c_68 hx
              exact cX.cutz (b_X1_evidenceFits_71 hG hR ok hx) trivial
        · have ok := ok.2 c_42
          have hx := xif_n c_42 hx
          exact cX.cutz (b_X1_evidenceFits_45 hG hR ok hx) trivial
def f_X1_evidenceFits (N : Nat) (S : cS) (a0 : Nat) (x1 : Option Nat) (x2 : Int32) (x3 : Int32) : Int32 := F_X1_evidenceFits_0 N (some a0) x1 x2 x3 S
def o_X1_evidenceFits (N : Nat) (S : cS) (a0 : Nat) (x1 : Option Nat) (x2 : Int32) (x3 : Int32) : Prop := O_X1_evidenceFits_0 N (some a0) x1 x2 x3 S
set_option maxRecDepth 100000 in
set_option maxHeartbeats 4000000 in
theorem cc_X1_evidenceFits {G : zG} {o : cO} {S : cS} {N : Nat} (hG : zOK G) {a0 : Nat} {x1 : Option Nat} {x2 : Int32} {x3 : Int32} (ok : o_X1_evidenceFits N S a0 x1 x2 x3) : cCi G o dX1_evidenceFits mX1_evidenceFits [.ref a0, va_rf x1, .int x2, .int x3] S (fun v S' => v = f_X1_evidenceFits N S a0 x1 x2 x3 ∧ S' = S) := by
  refine cC.ofX rfl (by cases x1 <;> exact Nat.le_of_ble_eq_true rfl) ?_
  rw [show zargs mX1_evidenceFits.2.2.1 [.ref a0, va_rf x1, .int x2, .int x3] = [some (.ref a0), some (va_rf x1), some (.int x2), some (.int x3), none, none] from by cases x1 <;> rfl]
  exact cX.cutz (b_X1_evidenceFits_0 (X := fun F => F = f_X1_evidenceFits N S a0 x1 x2 x3) hG (fun v h => ⟨v, rfl, h, rfl⟩) ok rfl) ⟨rfl, rfl, rfl, rfl, trivial⟩
/-! X2_plant -/
def F_X2_plant_145 (N : Nat)  (S : cS) : cS := S
def O_X2_plant_145 (N : Nat)  (S : cS) : Prop := True
set_option maxRecDepth 100000 in
set_option maxHeartbeats 4000000 in
theorem b_X2_plant_145 {G : zG} {o : cO} {S : cS} {N : Nat} {Q : Option Value → cS → Prop} {X : cS → Prop} (hG : zOK G) (hR : ∀ S', X S' → Q none S') (ok : O_X2_plant_145 N S) (hx : X (F_X2_plant_145 N S)) : cX G o dX2_plant mX2_plant 145 [none, none, none, none, none, none, none, none] [] S Q := by
  unfold O_X2_plant_145 at ok
  unfold F_X2_plant_145 at hx
  exact c_return rfl dX2_plant_145 (hR _ hx)
def F_X2_plant_122 (N : Nat) (rec : Option Nat → Option Nat → Int32 → Int32 → Int32 → Int32 → cS → Nat × cS) (x0 : Option Nat) (x1 : Option Nat) (x3 : Int32) (x4 : Int32) (x5 : Int32) (x6 : Int32) (x7 : Int32) (S : cS) : Nat × cS := (rec x0 x1 x3 x4 (x5 + x7) (x6 + nI 1) (csI S 5 (za x0) ((cI S 5 (za x0)) + (nI 1))))
def O_X2_plant_122 (N : Nat) (rok : Option Nat → Option Nat → Int32 → Int32 → Int32 → Int32 → cS → Prop) (x0 : Option Nat) (x1 : Option Nat) (x3 : Int32) (x4 : Int32) (x5 : Int32) (x6 : Int32) (x7 : Int32) (S : cS) : Prop := (cis S x0 3) ∧ (cis S x0 3) ∧ rok x0 x1 x3 x4 (x5 + x7) (x6 + nI 1) (csI S 5 (za x0) ((cI S 5 (za x0)) + (nI 1)))
set_option maxRecDepth 100000 in
set_option maxHeartbeats 4000000 in
theorem b_X2_plant_122 {G : zG} {o : cO} {S : cS} {N : Nat} {Q : Option Value → cS → Prop} {X : Nat × cS → Prop} (hG : zOK G) (hX0 : ∀ (S' : cS), X (0, S') → cX G o dX2_plant mX2_plant 145 [none, none, none, none, none, none, none, none] [] S' Q) {rec : Option Nat → Option Nat → Int32 → Int32 → Int32 → Int32 → cS → Nat × cS} {rok : Option Nat → Option Nat → Int32 → Int32 → Int32 → Int32 → cS → Prop} (hrec : ∀ (x0 : Option Nat) (x1 : Option Nat) (x3 : Int32) (x4 : Int32) (x5 : Int32) (x6 : Int32) (S : cS), rok x0 x1 x3 x4 x5 x6 S → X (rec x0 x1 x3 x4 x5 x6 S) → cX G o dX2_plant mX2_plant 53 [some (va_rf x0), some (va_rf x1), none, some (.int x3), some (.int x4), some (.int x5), some (.int x6), none] [] S Q) {x0 : Option Nat} {x1 : Option Nat} {x3 : Int32} {x4 : Int32} {x5 : Int32} {x6 : Int32} {x7 : Int32} (ok : O_X2_plant_122 N rok x0 x1 x3 x4 x5 x6 x7 S) (hx : X (F_X2_plant_122 N rec x0 x1 x3 x4 x5 x6 x7 S)) : cX G o dX2_plant mX2_plant 122 [some (va_rf x0), some (va_rf x1), none, some (.int x3), some (.int x4), some (.int x5), some (.int x6), some (.int x7)] [] S Q := by
  unfold O_X2_plant_122 at ok
  unfold F_X2_plant_122 at hx
  refine c_aload_nQ dX2_plant_122 rfl rfl ?_
  refine c_dup dX2_plant_123 (zcat_rf _) ?_
  refine c_getI (C := RX2) (T := TX2) (N := 6) (ci := 2) (k := 5) ⟨rfl, inT2, by decide, fX2_62⟩ (by decide) (by decide) (by decide) dX2_plant_124 ok.1 ?_
  have ok := ok.2
  refine c_iconst (v := nI 1) dX2_plant_127 (by decide) ?_
  refine c_iadd dX2_plant_128 ?_
  refine c_putI (C := RX2) (T := TX2) (N := 6) (ci := 2) (k := 5) ⟨rfl, inT2, by decide, fX2_62⟩ ftT2 rfl (by decide) (by decide) (by decide) rfl rfl dX2_plant_129 ok.1 ?_
  have ok := ok.2
  refine c_iload dX2_plant_132 rfl ?_
  refine c_iload dX2_plant_134 rfl ?_
  refine c_iadd dX2_plant_136 ?_
  refine c_istore_5 dX2_plant_137 (by decide) rfl ?_
  refine c_iinc_6 (v := (x6 + nI 1)) dX2_plant_139 rfl (by first | rfl | (congr 1)) (by decide) rfl ?_
  refine c_goto (tgt := 53) dX2_plant_142 (by decide) ?_
  exact cX.cutz (hrec _ _ _ _ _ _ (csI S 5 (za x0) ((cI S 5 (za x0)) + (nI 1))) ok hx) ⟨rfl, rfl, rfl, rfl, rfl, rfl, trivial⟩
def F_X2_plant_109 (N : Nat) (rec : Option Nat → Option Nat → Int32 → Int32 → Int32 → Int32 → cS → Nat × cS) (x0 : Option Nat) (x1 : Option Nat) (x3 : Int32) (x4 : Int32) (x5 : Int32) (x6 : Int32) (x7 : Int32) (S : cS) : Nat × cS := (F_X2_plant_122 N rec x0 x1 x3 x4 x5 x6 x7 (f_X2_close N S (za x0) (cR S 3 (za x0)) (x6 * (nI 32))))
def O_X2_plant_109 (N : Nat) (rok : Option Nat → Option Nat → Int32 → Int32 → Int32 → Int32 → cS → Prop) (x0 : Option Nat) (x1 : Option Nat) (x3 : Int32) (x4 : Int32) (x5 : Int32) (x6 : Int32) (x7 : Int32) (S : cS) : Prop := (cis S x0 3) ∧ (cis S x0 3 ∧ o_X2_close N S (za x0) (cR S 3 (za x0)) (x6 * (nI 32))) ∧ O_X2_plant_122 N rok x0 x1 x3 x4 x5 x6 x7 (f_X2_close N S (za x0) (cR S 3 (za x0)) (x6 * (nI 32)))
set_option maxRecDepth 100000 in
set_option maxHeartbeats 4000000 in
theorem b_X2_plant_109 {G : zG} {o : cO} {S : cS} {N : Nat} {Q : Option Value → cS → Prop} {X : Nat × cS → Prop} (hG : zOK G) (hX0 : ∀ (S' : cS), X (0, S') → cX G o dX2_plant mX2_plant 145 [none, none, none, none, none, none, none, none] [] S' Q) {rec : Option Nat → Option Nat → Int32 → Int32 → Int32 → Int32 → cS → Nat × cS} {rok : Option Nat → Option Nat → Int32 → Int32 → Int32 → Int32 → cS → Prop} (hrec : ∀ (x0 : Option Nat) (x1 : Option Nat) (x3 : Int32) (x4 : Int32) (x5 : Int32) (x6 : Int32) (S : cS), rok x0 x1 x3 x4 x5 x6 S → X (rec x0 x1 x3 x4 x5 x6 S) → cX G o dX2_plant mX2_plant 53 [some (va_rf x0), some (va_rf x1), none, some (.int x3), some (.int x4), some (.int x5), some (.int x6), none] [] S Q) {x0 : Option Nat} {x1 : Option Nat} {x3 : Int32} {x4 : Int32} {x5 : Int32} {x6 : Int32} {x7 : Int32} (ok : O_X2_plant_109 N rok x0 x1 x3 x4 x5 x6 x7 S) (hx : X (F_X2_plant_109 N rec x0 x1 x3 x4 x5 x6 x7 S)) : cX G o dX2_plant mX2_plant 109 [some (va_rf x0), some (va_rf x1), none, some (.int x3), some (.int x4), some (.int x5), some (.int x6), some (.int x7)] [] S Q := by
  unfold O_X2_plant_109 at ok
  unfold F_X2_plant_109 at hx
  refine c_aload_nQ dX2_plant_109 rfl rfl ?_
  refine c_aload_nQ dX2_plant_110 rfl rfl ?_
  refine c_getR (C := RX2) (T := TX2) (N := 6) (ci := 2) (k := 3) ⟨rfl, inT2, by decide, fX2_22⟩ (by decide) (by decide) (by decide) dX2_plant_111 ok.1 ?_
  have ok := ok.2
  refine c_iload dX2_plant_114 rfl ?_
  refine c_bipush (v := nI 32) dX2_plant_116 (by decide) ?_
  refine c_imul dX2_plant_118 ?_
  refine c_V2vE (ci := 2) (rr := (RX2, TX2, 6)) (y' := mX2_close) dX2_plant_119 lX2_58 kX2_close ⟨by decide, by decide⟩ rfl rfl (by decide) ok.1.1 (Nat.le_of_ble_eq_true rfl) (cc_X2_close hG ok.1.2) ?_
  have ok := ok.2
  exact cX.cutz (b_X2_plant_122 hG hX0 hrec ok hx) ⟨rfl, rfl, rfl, rfl, rfl, rfl, rfl, trivial⟩
def F_X2_plant_97 (N : Nat) (rec : Option Nat → Option Nat → Int32 → Int32 → Int32 → Int32 → cS → Nat × cS) (x0 : Option Nat) (x1 : Option Nat) (x3 : Int32) (x4 : Int32) (x5 : Int32) (x6 : Int32) (x7 : Int32) (S : cS) : Nat × cS := (F_X2_plant_109 N rec x0 x1 x3 x4 x5 x6 x7 (f_X2_add_ N S (za x0) x1 x5 (x5 + x7)))
def O_X2_plant_97 (N : Nat) (rok : Option Nat → Option Nat → Int32 → Int32 → Int32 → Int32 → cS → Prop) (x0 : Option Nat) (x1 : Option Nat) (x3 : Int32) (x4 : Int32) (x5 : Int32) (x6 : Int32) (x7 : Int32) (S : cS) : Prop := (cis S x0 3 ∧ o_X2_add_ N S (za x0) x1 x5 (x5 + x7)) ∧ O_X2_plant_109 N rok x0 x1 x3 x4 x5 x6 x7 (f_X2_add_ N S (za x0) x1 x5 (x5 + x7))
set_option maxRecDepth 100000 in
set_option maxHeartbeats 4000000 in
theorem b_X2_plant_97 {G : zG} {o : cO} {S : cS} {N : Nat} {Q : Option Value → cS → Prop} {X : Nat × cS → Prop} (hG : zOK G) (hX0 : ∀ (S' : cS), X (0, S') → cX G o dX2_plant mX2_plant 145 [none, none, none, none, none, none, none, none] [] S' Q) {rec : Option Nat → Option Nat → Int32 → Int32 → Int32 → Int32 → cS → Nat × cS} {rok : Option Nat → Option Nat → Int32 → Int32 → Int32 → Int32 → cS → Prop} (hrec : ∀ (x0 : Option Nat) (x1 : Option Nat) (x3 : Int32) (x4 : Int32) (x5 : Int32) (x6 : Int32) (S : cS), rok x0 x1 x3 x4 x5 x6 S → X (rec x0 x1 x3 x4 x5 x6 S) → cX G o dX2_plant mX2_plant 53 [some (va_rf x0), some (va_rf x1), none, some (.int x3), some (.int x4), some (.int x5), some (.int x6), none] [] S Q) {x0 : Option Nat} {x1 : Option Nat} {x3 : Int32} {x4 : Int32} {x5 : Int32} {x6 : Int32} {x7 : Int32} (ok : O_X2_plant_97 N rok x0 x1 x3 x4 x5 x6 x7 S) (hx : X (F_X2_plant_97 N rec x0 x1 x3 x4 x5 x6 x7 S)) : cX G o dX2_plant mX2_plant 97 [some (va_rf x0), some (va_rf x1), none, some (.int x3), some (.int x4), some (.int x5), some (.int x6), some (.int x7)] [] S Q := by
  unfold O_X2_plant_97 at ok
  unfold F_X2_plant_97 at hx
  refine c_aload_nQ dX2_plant_97 rfl rfl ?_
  refine c_aload_nQ dX2_plant_98 rfl rfl ?_
  refine c_iload dX2_plant_99 rfl ?_
  refine c_iload dX2_plant_101 rfl ?_
  refine c_iload dX2_plant_103 rfl ?_
  refine c_iadd dX2_plant_105 ?_
  refine c_V3vE (ci := 2) (rr := (RX2, TX2, 6)) (y' := mX2_add_) dX2_plant_106 lX2_54 kX2_add_ ⟨by decide, by decide⟩ rfl rfl (by decide) ok.1.1 (Nat.le_of_ble_eq_true rfl) (cc_X2_add_ hG ok.1.2) ?_
  have ok := ok.2
  exact cX.cutz (b_X2_plant_109 hG hX0 hrec ok hx) ⟨rfl, rfl, rfl, rfl, rfl, rfl, rfl, trivial⟩
def F_X2_plant_92 (N : Nat) (rec : Option Nat → Option Nat → Int32 → Int32 → Int32 → Int32 → cS → Nat × cS) (x0 : Option Nat) (x1 : Option Nat) (x3 : Int32) (x4 : Int32) (x5 : Int32) (x6 : Int32) (x7 : Int32) (S : cS) : Nat × cS := (F_X2_plant_97 N rec x0 x1 x3 x4 x5 x6 x7 (f_X2_add N S (za x0) (nI 0)))
def O_X2_plant_92 (N : Nat) (rok : Option Nat → Option Nat → Int32 → Int32 → Int32 → Int32 → cS → Prop) (x0 : Option Nat) (x1 : Option Nat) (x3 : Int32) (x4 : Int32) (x5 : Int32) (x6 : Int32) (x7 : Int32) (S : cS) : Prop := (cis S x0 3 ∧ o_X2_add N S (za x0) (nI 0)) ∧ O_X2_plant_97 N rok x0 x1 x3 x4 x5 x6 x7 (f_X2_add N S (za x0) (nI 0))
set_option maxRecDepth 100000 in
set_option maxHeartbeats 4000000 in
theorem b_X2_plant_92 {G : zG} {o : cO} {S : cS} {N : Nat} {Q : Option Value → cS → Prop} {X : Nat × cS → Prop} (hG : zOK G) (hX0 : ∀ (S' : cS), X (0, S') → cX G o dX2_plant mX2_plant 145 [none, none, none, none, none, none, none, none] [] S' Q) {rec : Option Nat → Option Nat → Int32 → Int32 → Int32 → Int32 → cS → Nat × cS} {rok : Option Nat → Option Nat → Int32 → Int32 → Int32 → Int32 → cS → Prop} (hrec : ∀ (x0 : Option Nat) (x1 : Option Nat) (x3 : Int32) (x4 : Int32) (x5 : Int32) (x6 : Int32) (S : cS), rok x0 x1 x3 x4 x5 x6 S → X (rec x0 x1 x3 x4 x5 x6 S) → cX G o dX2_plant mX2_plant 53 [some (va_rf x0), some (va_rf x1), none, some (.int x3), some (.int x4), some (.int x5), some (.int x6), none] [] S Q) {x0 : Option Nat} {x1 : Option Nat} {x3 : Int32} {x4 : Int32} {x5 : Int32} {x6 : Int32} {x7 : Int32} (ok : O_X2_plant_92 N rok x0 x1 x3 x4 x5 x6 x7 S) (hx : X (F_X2_plant_92 N rec x0 x1 x3 x4 x5 x6 x7 S)) : cX G o dX2_plant mX2_plant 92 [some (va_rf x0), some (va_rf x1), none, some (.int x3), some (.int x4), some (.int x5), some (.int x6), some (.int x7)] [] S Q := by
  unfold O_X2_plant_92 at ok
  unfold F_X2_plant_92 at hx
  refine c_aload_nQ dX2_plant_92 rfl rfl ?_
  refine c_iconst (v := nI 0) dX2_plant_93 (by decide) ?_
  refine c_V1vE (ci := 2) (rr := (RX2, TX2, 6)) (y' := mX2_add) dX2_plant_94 lX2_65 kX2_add ⟨by decide, by decide⟩ rfl rfl (by decide) ok.1.1 (Nat.le_of_ble_eq_true rfl) (cc_X2_add hG ok.1.2) ?_
  have ok := ok.2
  exact cX.cutz (b_X2_plant_97 hG hX0 hrec ok hx) ⟨rfl, rfl, rfl, rfl, rfl, rfl, rfl, trivial⟩
def F_X2_plant_86 (N : Nat) (rec : Option Nat → Option Nat → Int32 → Int32 → Int32 → Int32 → cS → Nat × cS) (x0 : Option Nat) (x1 : Option Nat) (x3 : Int32) (x4 : Int32) (x5 : Int32) (x6 : Int32) (s0 : Int32) (S : cS) : Nat × cS := (F_X2_plant_92 N rec x0 x1 x3 x4 x5 x6 s0 (f_X2_open N S (za x0)))
def O_X2_plant_86 (N : Nat) (rok : Option Nat → Option Nat → Int32 → Int32 → Int32 → Int32 → cS → Prop) (x0 : Option Nat) (x1 : Option Nat) (x3 : Int32) (x4 : Int32) (x5 : Int32) (x6 : Int32) (s0 : Int32) (S : cS) : Prop := (cis S x0 3 ∧ o_X2_open N S (za x0)) ∧ O_X2_plant_92 N rok x0 x1 x3 x4 x5 x6 s0 (f_X2_open N S (za x0))
set_option maxRecDepth 100000 in
set_option maxHeartbeats 4000000 in
theorem b_X2_plant_86 {G : zG} {o : cO} {S : cS} {N : Nat} {Q : Option Value → cS → Prop} {X : Nat × cS → Prop} (hG : zOK G) (hX0 : ∀ (S' : cS), X (0, S') → cX G o dX2_plant mX2_plant 145 [none, none, none, none, none, none, none, none] [] S' Q) {rec : Option Nat → Option Nat → Int32 → Int32 → Int32 → Int32 → cS → Nat × cS} {rok : Option Nat → Option Nat → Int32 → Int32 → Int32 → Int32 → cS → Prop} (hrec : ∀ (x0 : Option Nat) (x1 : Option Nat) (x3 : Int32) (x4 : Int32) (x5 : Int32) (x6 : Int32) (S : cS), rok x0 x1 x3 x4 x5 x6 S → X (rec x0 x1 x3 x4 x5 x6 S) → cX G o dX2_plant mX2_plant 53 [some (va_rf x0), some (va_rf x1), none, some (.int x3), some (.int x4), some (.int x5), some (.int x6), none] [] S Q) {x0 : Option Nat} {x1 : Option Nat} {x3 : Int32} {x4 : Int32} {x5 : Int32} {x6 : Int32} {s0 : Int32} (ok : O_X2_plant_86 N rok x0 x1 x3 x4 x5 x6 s0 S) (hx : X (F_X2_plant_86 N rec x0 x1 x3 x4 x5 x6 s0 S)) : cX G o dX2_plant mX2_plant 86 [some (va_rf x0), some (va_rf x1), none, some (.int x3), some (.int x4), some (.int x5), some (.int x6), none] [.int s0] S Q := by
  unfold O_X2_plant_86 at ok
  unfold F_X2_plant_86 at hx
  refine c_istore_7 dX2_plant_86 (by decide) rfl ?_
  refine c_aload_nQ dX2_plant_88 rfl rfl ?_
  refine c_V0vE (ci := 2) (rr := (RX2, TX2, 6)) (y' := mX2_open) dX2_plant_89 lX2_51 kX2_open ⟨by decide, by decide⟩ rfl rfl (by decide) ok.1.1 (Nat.le_of_ble_eq_true rfl) (cc_X2_open hG ok.1.2) ?_
  have ok := ok.2
  exact cX.cutz (b_X2_plant_92 hG hX0 hrec ok hx) ⟨rfl, rfl, rfl, rfl, rfl, rfl, rfl, trivial⟩
def B_X2_plant_53 (N : Nat) (rec : Option Nat → Option Nat → Int32 → Int32 → Int32 → Int32 → cS → Nat × cS) (x0 : Option Nat) (x1 : Option Nat) (x3 : Int32) (x4 : Int32) (x5 : Int32) (x6 : Int32) (S : cS) : Nat × cS := (if x4 ≤ x6 then (0, S) else (if (nI 66) ≤ x6 then (0, S) else (if x3 ≤ x6 then (F_X2_plant_86 N rec x0 x1 x3 x4 x5 x6 (nI 7) S) else (F_X2_plant_86 N rec x0 x1 x3 x4 x5 x6 (f_X1_evidenceSize N S x1 x5 (nI (cL S (za x1)))) S))))
def OB_X2_plant_53 (N : Nat) (rok : Option Nat → Option Nat → Int32 → Int32 → Int32 → Int32 → cS → Prop) (x0 : Option Nat) (x1 : Option Nat) (x3 : Int32) (x4 : Int32) (x5 : Int32) (x6 : Int32) (S : cS) : Prop := ((x4 ≤ x6 → True) ∧ (¬ x4 ≤ x6 → (((nI 66) ≤ x6 → True) ∧ (¬ (nI 66) ≤ x6 → ((x3 ≤ x6 → O_X2_plant_86 N rok x0 x1 x3 x4 x5 x6 (nI 7) S) ∧ (¬ x3 ≤ x6 → (cis S x1 20) ∧ (o_X1_evidenceSize N S x1 x5 (nI (cL S (za x1)))) ∧ O_X2_plant_86 N rok x0 x1 x3 x4 x5 x6 (f_X1_evidenceSize N S x1 x5 (nI (cL S (za x1)))) S))))))
set_option maxRecDepth 100000 in
set_option maxHeartbeats 4000000 in
theorem bb_X2_plant_53 {G : zG} {o : cO} {S : cS} {N : Nat} {Q : Option Value → cS → Prop} {X : Nat × cS → Prop} (hG : zOK G) (hX0 : ∀ (S' : cS), X (0, S') → cX G o dX2_plant mX2_plant 145 [none, none, none, none, none, none, none, none] [] S' Q) {rec : Option Nat → Option Nat → Int32 → Int32 → Int32 → Int32 → cS → Nat × cS} {rok : Option Nat → Option Nat → Int32 → Int32 → Int32 → Int32 → cS → Prop} (hrec : ∀ (x0 : Option Nat) (x1 : Option Nat) (x3 : Int32) (x4 : Int32) (x5 : Int32) (x6 : Int32) (S : cS), rok x0 x1 x3 x4 x5 x6 S → X (rec x0 x1 x3 x4 x5 x6 S) → cX G o dX2_plant mX2_plant 53 [some (va_rf x0), some (va_rf x1), none, some (.int x3), some (.int x4), some (.int x5), some (.int x6), none] [] S Q) {x0 : Option Nat} {x1 : Option Nat} {x3 : Int32} {x4 : Int32} {x5 : Int32} {x6 : Int32} (ok : OB_X2_plant_53 N rok x0 x1 x3 x4 x5 x6 S) (hx : X (B_X2_plant_53 N rec x0 x1 x3 x4 x5 x6 S)) : cX G o dX2_plant mX2_plant 53 [some (va_rf x0), some (va_rf x1), none, some (.int x3), some (.int x4), some (.int x5), some (.int x6), none] [] S Q := by
  unfold OB_X2_plant_53 at ok
  unfold B_X2_plant_53 at hx
  refine c_iload dX2_plant_53 rfl ?_
  refine c_iload dX2_plant_55 rfl ?_
  refine c_icmp_ge (tgt := 145) dX2_plant_57 (by decide) (fun c_57 => ?_) (fun c_57 => ?_)
  · have ok := ok.1 c_57
    have hx := xif_p c_57 hx
    exact cX.cutz (hX0 S hx) trivial
  · have ok := ok.2 c_57
    have hx := xif_n c_57 hx
    refine c_iload dX2_plant_60 rfl ?_
    refine c_bipush (v := nI 66) dX2_plant_62 (by decide) ?_
    refine c_icmp_ge (tgt := 145) dX2_plant_64 (by decide) (fun c_64 => ?_) (fun c_64 => ?_)
    · have ok := ok.1 c_64
      have hx := xif_p c_64 hx
      exact cX.cutz (hX0 S hx) trivial
    · have ok := ok.2 c_64
      have hx := xif_n c_64 hx
      refine c_iload dX2_plant_67 rfl ?_
      refine c_iload_n dX2_plant_69 rfl rfl ?_
      refine c_icmp_ge (tgt := 84) dX2_plant_70 (by decide) (fun c_70 => ?_) (fun c_70 => ?_)
      · have ok := ok.1 c_70
        have hx := xif_p c_70 hx
        refine c_bipush (v := nI 7) dX2_plant_84 (by decide) ?_
        exact cX.cutz (b_X2_plant_86 hG hX0 hrec ok hx) ⟨rfl, rfl, rfl, rfl, rfl, rfl, trivial⟩
      · have ok := ok.2 c_70
        have hx := xif_n c_70 hx
        refine c_aload_nQ dX2_plant_73 rfl rfl ?_
        refine c_iload dX2_plant_74 rfl ?_
        refine c_aload_nQ dX2_plant_76 rfl rfl ?_
        refine c_alen (t := 0) (ty := .byte) rfl dX2_plant_77 ok.1 ?_
        have ok := ok.2
        refine c_S3iE (y' := mX1_evidenceSize) dX2_plant_78 lX2_67 kX1_evidenceSize ⟨by decide, by decide⟩ (Nat.le_of_ble_eq_true rfl) (cc_X1_evidenceSize hG ok.1) ?_
        have ok := ok.2
        refine c_goto (tgt := 86) dX2_plant_81 (by decide) ?_
        exact cX.cutz (b_X2_plant_86 hG hX0 hrec ok hx) ⟨rfl, rfl, rfl, rfl, rfl, rfl, trivial⟩
def L_X2_plant_53 (N : Nat) : Nat → Option Nat → Option Nat → Int32 → Int32 → Int32 → Int32 → cS → Nat × cS
  | 0, x0, x1, x3, x4, x5, x6, S => (0, S)
  | n + 1, x0, x1, x3, x4, x5, x6, S => B_X2_plant_53 N (L_X2_plant_53 N n) x0 x1 x3 x4 x5 x6 S
def OL_X2_plant_53 (N : Nat) : Nat → Option Nat → Option Nat → Int32 → Int32 → Int32 → Int32 → cS → Prop
  | 0, _, _, _, _, _, _, _ => False
  | n + 1, x0, x1, x3, x4, x5, x6, S => OB_X2_plant_53 N (OL_X2_plant_53 N n) x0 x1 x3 x4 x5 x6 S
set_option maxRecDepth 100000 in
set_option maxHeartbeats 4000000 in
theorem l_X2_plant_53 {G : zG} {o : cO} {N : Nat} {Q : Option Value → cS → Prop} {X : Nat × cS → Prop} (hG : zOK G) (hX0 : ∀ (S' : cS), X (0, S') → cX G o dX2_plant mX2_plant 145 [none, none, none, none, none, none, none, none] [] S' Q) : ∀ (n : Nat) (x0 : Option Nat) (x1 : Option Nat) (x3 : Int32) (x4 : Int32) (x5 : Int32) (x6 : Int32) (S : cS), OL_X2_plant_53 N n x0 x1 x3 x4 x5 x6 S → X (L_X2_plant_53 N n x0 x1 x3 x4 x5 x6 S) → cX G o dX2_plant mX2_plant 53 [some (va_rf x0), some (va_rf x1), none, some (.int x3), some (.int x4), some (.int x5), some (.int x6), none] [] S Q := by
  intro n
  induction n with
  | zero => intro x0 x1 x3 x4 x5 x6 S ok; exact absurd ok id
  | succ n ih =>
    intro x0 x1 x3 x4 x5 x6 S ok hx
    exact bb_X2_plant_53 hG hX0 (rec := L_X2_plant_53 N n) (rok := OL_X2_plant_53 N n) (fun x0 x1 x3 x4 x5 x6 S ok hx => ih x0 x1 x3 x4 x5 x6 S ok hx) ok hx
def A_X2_plant_53 (N : Nat) (x0 : Option Nat) (x1 : Option Nat) (x3 : Int32) (x4 : Int32) (x5 : Int32) (x6 : Int32) (S : cS) (z : Nat × cS) : cS := (F_X2_plant_145 N z.2)
def OA_X2_plant_53 (N : Nat) (x0 : Option Nat) (x1 : Option Nat) (x3 : Int32) (x4 : Int32) (x5 : Int32) (x6 : Int32) (S : cS) (z : Nat × cS) : Prop := O_X2_plant_145 N z.2
set_option maxRecDepth 100000 in
set_option maxHeartbeats 4000000 in
theorem c_X2_plant_53 {G : zG} {o : cO} {S : cS} {N : Nat} {Q : Option Value → cS → Prop} {X : cS → Prop} (hG : zOK G) (hR : ∀ S', X S' → Q none S') {x0 : Option Nat} {x1 : Option Nat} {x3 : Int32} {x4 : Int32} {x5 : Int32} {x6 : Int32} (ok : OL_X2_plant_53 N N x0 x1 x3 x4 x5 x6 S ∧ OA_X2_plant_53 N x0 x1 x3 x4 x5 x6 S (L_X2_plant_53 N N x0 x1 x3 x4 x5 x6 S)) (hx : X (A_X2_plant_53 N x0 x1 x3 x4 x5 x6 S (L_X2_plant_53 N N x0 x1 x3 x4 x5 x6 S))) : cX G o dX2_plant mX2_plant 53 [some (va_rf x0), some (va_rf x1), none, some (.int x3), some (.int x4), some (.int x5), some (.int x6), none] [] S Q := by
  refine l_X2_plant_53 hG ?_ N x0 x1 x3 x4 x5 x6 S ok.1 (X := fun z => OA_X2_plant_53 N x0 x1 x3 x4 x5 x6 S z ∧ X (A_X2_plant_53 N x0 x1 x3 x4 x5 x6 S z)) ⟨ok.2, hx⟩
  · intro S' hz
    obtain ⟨ok, hx⟩ := hz
    unfold OA_X2_plant_53 at ok
    unfold A_X2_plant_53 at hx
    exact cX.cutz (b_X2_plant_145 hG hR ok hx) trivial
def F_X2_plant_18 (N : Nat)  (S : cS) : cS := S
def O_X2_plant_18 (N : Nat)  (S : cS) : Prop := True
set_option maxRecDepth 100000 in
set_option maxHeartbeats 4000000 in
theorem b_X2_plant_18 {G : zG} {o : cO} {S : cS} {N : Nat} {Q : Option Value → cS → Prop} {X : cS → Prop} (hG : zOK G) (hR : ∀ S', X S' → Q none S') (ok : O_X2_plant_18 N S) (hx : X (F_X2_plant_18 N S)) : cX G o dX2_plant mX2_plant 18 [none, none, none, none, none, none, none, none] [] S Q := by
  unfold O_X2_plant_18 at ok
  unfold F_X2_plant_18 at hx
  exact c_return rfl dX2_plant_18 (hR _ hx)
def F_X2_plant_0 (N : Nat) (x0 : Option Nat) (x1 : Option Nat) (x2 : Int32) (S : cS) : cS := (if x2 < 0 then (F_X2_plant_18 N (csI S 5 (za x0) (nI 0))) else (if x2 ≤ ((nI (cL (csI S 5 (za x0) (nI 0)) (za x1))) - (nI 101)) then (A_X2_plant_53 N x0 x1 ((cA (csI S 5 (za x0) (nI 0)) (za x1) (x2 + (nI 100)).toNatClampNeg) &&& (nI 255)) (((cA (csI S 5 (za x0) (nI 0)) (za x1) (x2 + (nI 100)).toNatClampNeg) &&& (nI 255)) + ((cA (csI S 5 (za x0) (nI 0)) (za x1) (x2 + (nI 99)).toNatClampNeg) &&& (nI 255))) (x2 + (nI 101)) (nI 0) (csI S 5 (za x0) (nI 0)) (L_X2_plant_53 N N x0 x1 ((cA (csI S 5 (za x0) (nI 0)) (za x1) (x2 + (nI 100)).toNatClampNeg) &&& (nI 255)) (((cA (csI S 5 (za x0) (nI 0)) (za x1) (x2 + (nI 100)).toNatClampNeg) &&& (nI 255)) + ((cA (csI S 5 (za x0) (nI 0)) (za x1) (x2 + (nI 99)).toNatClampNeg) &&& (nI 255))) (x2 + (nI 101)) (nI 0) (csI S 5 (za x0) (nI 0)))) else (F_X2_plant_18 N (csI S 5 (za x0) (nI 0)))))
def O_X2_plant_0 (N : Nat) (x0 : Option Nat) (x1 : Option Nat) (x2 : Int32) (S : cS) : Prop := (cis S x0 3) ∧ ((x2 < 0 → O_X2_plant_18 N (csI S 5 (za x0) (nI 0))) ∧ (¬ x2 < 0 → (cis (csI S 5 (za x0) (nI 0)) x1 20) ∧ ((x2 ≤ ((nI (cL (csI S 5 (za x0) (nI 0)) (za x1))) - (nI 101)) → (cis (csI S 5 (za x0) (nI 0)) x1 20 ∧ vp_in (x2 + (nI 100)) (cL (csI S 5 (za x0) (nI 0)) (za x1))) ∧ (cis (csI S 5 (za x0) (nI 0)) x1 20 ∧ vp_in (x2 + (nI 99)) (cL (csI S 5 (za x0) (nI 0)) (za x1))) ∧ (OL_X2_plant_53 N N x0 x1 ((cA (csI S 5 (za x0) (nI 0)) (za x1) (x2 + (nI 100)).toNatClampNeg) &&& (nI 255)) (((cA (csI S 5 (za x0) (nI 0)) (za x1) (x2 + (nI 100)).toNatClampNeg) &&& (nI 255)) + ((cA (csI S 5 (za x0) (nI 0)) (za x1) (x2 + (nI 99)).toNatClampNeg) &&& (nI 255))) (x2 + (nI 101)) (nI 0) (csI S 5 (za x0) (nI 0)) ∧ OA_X2_plant_53 N x0 x1 ((cA (csI S 5 (za x0) (nI 0)) (za x1) (x2 + (nI 100)).toNatClampNeg) &&& (nI 255)) (((cA (csI S 5 (za x0) (nI 0)) (za x1) (x2 + (nI 100)).toNatClampNeg) &&& (nI 255)) + ((cA (csI S 5 (za x0) (nI 0)) (za x1) (x2 + (nI 99)).toNatClampNeg) &&& (nI 255))) (x2 + (nI 101)) (nI 0) (csI S 5 (za x0) (nI 0)) (L_X2_plant_53 N N x0 x1 ((cA (csI S 5 (za x0) (nI 0)) (za x1) (x2 + (nI 100)).toNatClampNeg) &&& (nI 255)) (((cA (csI S 5 (za x0) (nI 0)) (za x1) (x2 + (nI 100)).toNatClampNeg) &&& (nI 255)) + ((cA (csI S 5 (za x0) (nI 0)) (za x1) (x2 + (nI 99)).toNatClampNeg) &&& (nI 255))) (x2 + (nI 101)) (nI 0) (csI S 5 (za x0) (nI 0))))) ∧ (¬ x2 ≤ ((nI (cL (csI S 5 (za x0) (nI 0)) (za x1))) - (nI 101)) → O_X2_plant_18 N (csI S 5 (za x0) (nI 0))))))
set_option maxRecDepth 100000 in
set_option maxHeartbeats 4000000 in
theorem b_X2_plant_0 {G : zG} {o : cO} {S : cS} {N : Nat} {Q : Option Value → cS → Prop} {X : cS → Prop} (hG : zOK G) (hR : ∀ S', X S' → Q none S') {x0 : Option Nat} {x1 : Option Nat} {x2 : Int32} (ok : O_X2_plant_0 N x0 x1 x2 S) (hx : X (F_X2_plant_0 N x0 x1 x2 S)) : cX G o dX2_plant mX2_plant 0 [some (va_rf x0), some (va_rf x1), some (.int x2), none, none, none, none, none] [] S Q := by
  unfold O_X2_plant_0 at ok
  unfold F_X2_plant_0 at hx
  refine c_aload_nQ dX2_plant_0 rfl rfl ?_
  refine c_iconst (v := nI 0) dX2_plant_1 (by decide) ?_
  refine c_putI (C := RX2) (T := TX2) (N := 6) (ci := 2) (k := 5) ⟨rfl, inT2, by decide, fX2_62⟩ ftT2 rfl (by decide) (by decide) (by decide) rfl rfl dX2_plant_2 ok.1 ?_
  have ok := ok.2
  refine c_iload_n dX2_plant_5 rfl rfl ?_
  refine c_if_lt (tgt := 18) dX2_plant_6 (by decide) (fun c_6 => ?_) (fun c_6 => ?_)
  · have ok := ok.1 c_6
    have hx := xif_p c_6 hx
    exact cX.cutz (b_X2_plant_18 hG hR ok hx) trivial
  · have ok := ok.2 c_6
    have hx := xif_n c_6 hx
    refine c_iload_n dX2_plant_9 rfl rfl ?_
    refine c_aload_nQ dX2_plant_10 rfl rfl ?_
    refine c_alen (t := 0) (ty := .byte) rfl dX2_plant_11 ok.1 ?_
    have ok := ok.2
    refine c_bipush (v := nI 101) dX2_plant_12 (by decide) ?_
    refine c_isub dX2_plant_14 ?_
    refine c_icmp_le (tgt := 19) dX2_plant_15 (by decide) (fun c_15 => ?_) (fun c_15 => ?_)
    · have ok := ok.1 c_15
      have hx := xif_p c_15 hx
      refine c_aload_nQ dX2_plant_19 rfl rfl ?_
      refine c_iload_n dX2_plant_20 rfl rfl ?_
      refine c_bipush (v := nI 100) dX2_plant_21 (by decide) ?_
      refine c_iadd dX2_plant_23 ?_
      refine c_bald dX2_plant_24 ok.1 ?_
      have ok := ok.2
      refine c_sipush (v := nI 255) dX2_plant_25 (by decide) ?_
      refine c_iand dX2_plant_28 ?_
      refine c_istore_3 dX2_plant_29 (by decide) rfl ?_
      refine c_iload_n dX2_plant_30 rfl rfl ?_
      refine c_aload_nQ dX2_plant_31 rfl rfl ?_
      refine c_iload_n dX2_plant_32 rfl rfl ?_
      refine c_bipush (v := nI 99) dX2_plant_33 (by decide) ?_
      refine c_iadd dX2_plant_35 ?_
      refine c_bald dX2_plant_36 ok.1 ?_
      have ok := ok.2
      refine c_sipush (v := nI 255) dX2_plant_37 (by decide) ?_
      refine c_iand dX2_plant_40 ?_
      refine c_iadd dX2_plant_41 ?_
      refine c_istore_4 dX2_plant_42 (by decide) rfl ?_
      refine c_iload_n dX2_plant_44 rfl rfl ?_
      refine c_bipush (v := nI 101) dX2_plant_45 (by decide) ?_
      refine c_iadd dX2_plant_47 ?_
      refine c_istore_5 dX2_plant_48 (by decide) rfl ?_
      refine c_iconst (v := nI 0) dX2_plant_50 (by decide) ?_
      refine c_istore_6 dX2_plant_51 (by decide) rfl ?_
      exact cX.cutz (c_X2_plant_53 hG hR ok hx) ⟨rfl, rfl, rfl, rfl, rfl, rfl, trivial⟩
    · have ok := ok.2 c_15
      have hx := xif_n c_15 hx
      exact cX.cutz (b_X2_plant_18 hG hR ok hx) trivial
def f_X2_plant (N : Nat) (S : cS) (a0 : Nat) (x1 : Option Nat) (x2 : Int32) : cS := F_X2_plant_0 N (some a0) x1 x2 S
def o_X2_plant (N : Nat) (S : cS) (a0 : Nat) (x1 : Option Nat) (x2 : Int32) : Prop := O_X2_plant_0 N (some a0) x1 x2 S
set_option maxRecDepth 100000 in
set_option maxHeartbeats 4000000 in
theorem cc_X2_plant {G : zG} {o : cO} {S : cS} {N : Nat} (hG : zOK G) {a0 : Nat} {x1 : Option Nat} {x2 : Int32} (ok : o_X2_plant N S a0 x1 x2) : cCv G o dX2_plant mX2_plant [.ref a0, va_rf x1, .int x2] S (fun S' => S' = f_X2_plant N S a0 x1 x2) := by
  refine cC.ofX rfl (by cases x1 <;> exact Nat.le_of_ble_eq_true rfl) ?_
  rw [show zargs mX2_plant.2.2.1 [.ref a0, va_rf x1, .int x2] = [some (.ref a0), some (va_rf x1), some (.int x2), none, none, none, none, none] from by cases x1 <;> rfl]
  exact cX.cutz (b_X2_plant_0 (X := fun F => F = f_X2_plant N S a0 x1 x2) hG (fun S' h => ⟨rfl, h⟩) ok rfl) ⟨rfl, rfl, rfl, trivial⟩
/-! X11_sameBytes -/
def F_X11_sameBytes_61 (N : Nat)  (S : cS) : Int32 := (nI 1)
def O_X11_sameBytes_61 (N : Nat)  (S : cS) : Prop := True
set_option maxRecDepth 100000 in
set_option maxHeartbeats 4000000 in
theorem b_X11_sameBytes_61 {G : zG} {o : cO} {S : cS} {N : Nat} {Q : Option Value → cS → Prop} {X : Int32 → Prop} (hG : zOK G) (hR : ∀ v, X v → Q (some (.int v)) S) (ok : O_X11_sameBytes_61 N S) (hx : X (F_X11_sameBytes_61 N S)) : cX G o dX11_sameBytes mX11_sameBytes 61 [none, none, none, none, none, none] [] S Q := by
  unfold O_X11_sameBytes_61 at ok
  unfold F_X11_sameBytes_61 at hx
  refine c_iconst (v := nI 1) dX11_sameBytes_61 (by decide) ?_
  exact c_ireturn rfl rfl dX11_sameBytes_62 (hR _ hx)
def F_X11_sameBytes_53 (N : Nat)  (S : cS) : Int32 := (nI 0)
def O_X11_sameBytes_53 (N : Nat)  (S : cS) : Prop := True
set_option maxRecDepth 100000 in
set_option maxHeartbeats 4000000 in
theorem b_X11_sameBytes_53 {G : zG} {o : cO} {S : cS} {N : Nat} {Q : Option Value → cS → Prop} {X : Int32 → Prop} (hG : zOK G) (hR : ∀ v, X v → Q (some (.int v)) S) (ok : O_X11_sameBytes_53 N S) (hx : X (F_X11_sameBytes_53 N S)) : cX G o dX11_sameBytes mX11_sameBytes 53 [none, none, none, none, none, none] [] S Q := by
  unfold O_X11_sameBytes_53 at ok
  unfold F_X11_sameBytes_53 at hx
  refine c_iconst (v := nI 0) dX11_sameBytes_53 (by decide) ?_
  exact c_ireturn rfl rfl dX11_sameBytes_54 (hR _ hx)
def B_X11_sameBytes_31 (N : Nat) (rec : Option Nat → Int32 → Option Nat → Int32 → Int32 → Int32 → Nat × Unit) (x0 : Option Nat) (x1 : Int32) (x2 : Option Nat) (x3 : Int32) (x4 : Int32) (x5 : Int32) (S : cS) : Nat × Unit := (if x4 ≤ x5 then (1, ()) else (if (cA S (za x0) (x1 + x5).toNatClampNeg) = (cA S (za x2) (x3 + x5).toNatClampNeg) then (rec x0 x1 x2 x3 x4 (x5 + nI 1)) else (0, ())))
def OB_X11_sameBytes_31 (N : Nat) (rok : Option Nat → Int32 → Option Nat → Int32 → Int32 → Int32 → Prop) (x0 : Option Nat) (x1 : Int32) (x2 : Option Nat) (x3 : Int32) (x4 : Int32) (x5 : Int32) (S : cS) : Prop := ((x4 ≤ x5 → True) ∧ (¬ x4 ≤ x5 → (cis S x0 20 ∧ vp_in (x1 + x5) (cL S (za x0))) ∧ (cis S x2 20 ∧ vp_in (x3 + x5) (cL S (za x2))) ∧ (((cA S (za x0) (x1 + x5).toNatClampNeg) = (cA S (za x2) (x3 + x5).toNatClampNeg) → rok x0 x1 x2 x3 x4 (x5 + nI 1)) ∧ (¬ (cA S (za x0) (x1 + x5).toNatClampNeg) = (cA S (za x2) (x3 + x5).toNatClampNeg) → True))))
set_option maxRecDepth 100000 in
set_option maxHeartbeats 4000000 in
theorem bb_X11_sameBytes_31 {G : zG} {o : cO} {S : cS} {N : Nat} {Q : Option Value → cS → Prop} {X : Nat × Unit → Prop} (hG : zOK G) (hX0 : ∀ _u : Unit, X (0, ()) → cX G o dX11_sameBytes mX11_sameBytes 53 [none, none, none, none, none, none] [] S Q) (hX1 : ∀ _u : Unit, X (1, ()) → cX G o dX11_sameBytes mX11_sameBytes 61 [none, none, none, none, none, none] [] S Q) {rec : Option Nat → Int32 → Option Nat → Int32 → Int32 → Int32 → Nat × Unit} {rok : Option Nat → Int32 → Option Nat → Int32 → Int32 → Int32 → Prop} (hrec : ∀ (x0 : Option Nat) (x1 : Int32) (x2 : Option Nat) (x3 : Int32) (x4 : Int32) (x5 : Int32), rok x0 x1 x2 x3 x4 x5 → X (rec x0 x1 x2 x3 x4 x5) → cX G o dX11_sameBytes mX11_sameBytes 31 [some (va_rf x0), some (.int x1), some (va_rf x2), some (.int x3), some (.int x4), some (.int x5)] [] S Q) {x0 : Option Nat} {x1 : Int32} {x2 : Option Nat} {x3 : Int32} {x4 : Int32} {x5 : Int32} (ok : OB_X11_sameBytes_31 N rok x0 x1 x2 x3 x4 x5 S) (hx : X (B_X11_sameBytes_31 N rec x0 x1 x2 x3 x4 x5 S)) : cX G o dX11_sameBytes mX11_sameBytes 31 [some (va_rf x0), some (.int x1), some (va_rf x2), some (.int x3), some (.int x4), some (.int x5)] [] S Q := by
  unfold OB_X11_sameBytes_31 at ok
  unfold B_X11_sameBytes_31 at hx
  refine c_iload dX11_sameBytes_31 rfl ?_
  refine c_iload dX11_sameBytes_33 rfl ?_
  refine c_icmp_ge (tgt := 61) dX11_sameBytes_35 (by decide) (fun c_35 => ?_) (fun c_35 => ?_)
  · have ok := ok.1 c_35
    have hx := xif_p c_35 hx
    exact cX.cutz (hX1 () hx) trivial
  · have ok := ok.2 c_35
    have hx := xif_n c_35 hx
    refine c_aload_nQ dX11_sameBytes_38 rfl rfl ?_
    refine c_iload_n dX11_sameBytes_39 rfl rfl ?_
    refine c_iload dX11_sameBytes_40 rfl ?_
    refine c_iadd dX11_sameBytes_42 ?_
    refine c_bald dX11_sameBytes_43 ok.1 ?_
    have ok := ok.2
    refine c_aload_nQ dX11_sameBytes_44 rfl rfl ?_
    refine c_iload_n dX11_sameBytes_45 rfl rfl ?_
    refine c_iload dX11_sameBytes_46 rfl ?_
    refine c_iadd dX11_sameBytes_48 ?_
    refine c_bald dX11_sameBytes_49 ok.1 ?_
    have ok := ok.2
    refine c_icmp_eq (tgt := 55) dX11_sameBytes_50 (by decide) (fun c_50 => ?_) (fun c_50 => ?_)
    · have ok := ok.1 c_50
      have hx := xif_p c_50 hx
      refine c_iinc_5 (v := (x5 + nI 1)) dX11_sameBytes_55 rfl (by first | rfl | (congr 1)) (by decide) rfl ?_
      refine c_goto (tgt := 31) dX11_sameBytes_58 (by decide) ?_
      exact cX.cutz (hrec _ _ _ _ _ _ ok hx) ⟨rfl, rfl, rfl, rfl, rfl, rfl, trivial⟩
    · have ok := ok.2 c_50
      have hx := xif_n c_50 hx
      exact cX.cutz (hX0 () hx) trivial
def L_X11_sameBytes_31 (N : Nat) : Nat → Option Nat → Int32 → Option Nat → Int32 → Int32 → Int32 → cS → Nat × Unit
  | 0, x0, x1, x2, x3, x4, x5, S => (0, ())
  | n + 1, x0, x1, x2, x3, x4, x5, S => B_X11_sameBytes_31 N (fun x0 x1 x2 x3 x4 x5 => L_X11_sameBytes_31 N n x0 x1 x2 x3 x4 x5 S) x0 x1 x2 x3 x4 x5 S
def OL_X11_sameBytes_31 (N : Nat) : Nat → Option Nat → Int32 → Option Nat → Int32 → Int32 → Int32 → cS → Prop
  | 0, _, _, _, _, _, _, _ => False
  | n + 1, x0, x1, x2, x3, x4, x5, S => OB_X11_sameBytes_31 N (fun x0 x1 x2 x3 x4 x5 => OL_X11_sameBytes_31 N n x0 x1 x2 x3 x4 x5 S) x0 x1 x2 x3 x4 x5 S
set_option maxRecDepth 100000 in
set_option maxHeartbeats 4000000 in
theorem l_X11_sameBytes_31 {G : zG} {o : cO} {S : cS} {N : Nat} {Q : Option Value → cS → Prop} {X : Nat × Unit → Prop} (hG : zOK G) (hX0 : ∀ _u : Unit, X (0, ()) → cX G o dX11_sameBytes mX11_sameBytes 53 [none, none, none, none, none, none] [] S Q) (hX1 : ∀ _u : Unit, X (1, ()) → cX G o dX11_sameBytes mX11_sameBytes 61 [none, none, none, none, none, none] [] S Q) : ∀ (n : Nat) (x0 : Option Nat) (x1 : Int32) (x2 : Option Nat) (x3 : Int32) (x4 : Int32) (x5 : Int32) , OL_X11_sameBytes_31 N n x0 x1 x2 x3 x4 x5 S → X (L_X11_sameBytes_31 N n x0 x1 x2 x3 x4 x5 S) → cX G o dX11_sameBytes mX11_sameBytes 31 [some (va_rf x0), some (.int x1), some (va_rf x2), some (.int x3), some (.int x4), some (.int x5)] [] S Q := by
  intro n
  induction n with
  | zero => intro x0 x1 x2 x3 x4 x5 ok; exact absurd ok id
  | succ n ih =>
    intro x0 x1 x2 x3 x4 x5 ok hx
    exact bb_X11_sameBytes_31 hG hX0 hX1 (rec := fun x0 x1 x2 x3 x4 x5 => L_X11_sameBytes_31 N n x0 x1 x2 x3 x4 x5 S) (rok := fun x0 x1 x2 x3 x4 x5 => OL_X11_sameBytes_31 N n x0 x1 x2 x3 x4 x5 S) (fun x0 x1 x2 x3 x4 x5 ok hx => ih x0 x1 x2 x3 x4 x5 ok hx) ok hx
def A_X11_sameBytes_31 (N : Nat) (x0 : Option Nat) (x1 : Int32) (x2 : Option Nat) (x3 : Int32) (x4 : Int32) (x5 : Int32) (S : cS) (z : Nat × Unit) : Int32 := (if z.1 = 0 then (F_X11_sameBytes_53 N S) else (F_X11_sameBytes_61 N S))
def OA_X11_sameBytes_31 (N : Nat) (x0 : Option Nat) (x1 : Int32) (x2 : Option Nat) (x3 : Int32) (x4 : Int32) (x5 : Int32) (S : cS) (z : Nat × Unit) : Prop := (if z.1 = 0 then O_X11_sameBytes_53 N S else O_X11_sameBytes_61 N S)
set_option maxRecDepth 100000 in
set_option maxHeartbeats 4000000 in
theorem c_X11_sameBytes_31 {G : zG} {o : cO} {S : cS} {N : Nat} {Q : Option Value → cS → Prop} {X : Int32 → Prop} (hG : zOK G) (hR : ∀ v, X v → Q (some (.int v)) S) {x0 : Option Nat} {x1 : Int32} {x2 : Option Nat} {x3 : Int32} {x4 : Int32} {x5 : Int32} (ok : OL_X11_sameBytes_31 N N x0 x1 x2 x3 x4 x5 S ∧ OA_X11_sameBytes_31 N x0 x1 x2 x3 x4 x5 S (L_X11_sameBytes_31 N N x0 x1 x2 x3 x4 x5 S)) (hx : X (A_X11_sameBytes_31 N x0 x1 x2 x3 x4 x5 S (L_X11_sameBytes_31 N N x0 x1 x2 x3 x4 x5 S))) : cX G o dX11_sameBytes mX11_sameBytes 31 [some (va_rf x0), some (.int x1), some (va_rf x2), some (.int x3), some (.int x4), some (.int x5)] [] S Q := by
  refine l_X11_sameBytes_31 hG ?_ ?_ N x0 x1 x2 x3 x4 x5 ok.1 (X := fun z => OA_X11_sameBytes_31 N x0 x1 x2 x3 x4 x5 S z ∧ X (A_X11_sameBytes_31 N x0 x1 x2 x3 x4 x5 S z)) ⟨ok.2, hx⟩
  · intro _u hz
    obtain ⟨ok, hx⟩ := hz
    unfold OA_X11_sameBytes_31 at ok
    unfold A_X11_sameBytes_31 at hx
    have ok := xif_P (show (0 : Nat) = 0 from rfl) ok
    have hx := xif_p (show (0 : Nat) = 0 from rfl) hx
    exact cX.cutz (b_X11_sameBytes_53 hG hR ok hx) trivial
  · intro _u hz
    obtain ⟨ok, hx⟩ := hz
    unfold OA_X11_sameBytes_31 at ok
    unfold A_X11_sameBytes_31 at hx
    have ok := xif_N (show ¬ (1 : Nat) = 0 by decide) ok
    have hx := xif_n (show ¬ (1 : Nat) = 0 by decide) hx
    exact cX.cutz (b_X11_sameBytes_61 hG hR ok hx) trivial
def F_X11_sameBytes_26 (N : Nat)  (S : cS) : Int32 := (nI 0)
def O_X11_sameBytes_26 (N : Nat)  (S : cS) : Prop := True
set_option maxRecDepth 100000 in
set_option maxHeartbeats 4000000 in
theorem b_X11_sameBytes_26 {G : zG} {o : cO} {S : cS} {N : Nat} {Q : Option Value → cS → Prop} {X : Int32 → Prop} (hG : zOK G) (hR : ∀ v, X v → Q (some (.int v)) S) (ok : O_X11_sameBytes_26 N S) (hx : X (F_X11_sameBytes_26 N S)) : cX G o dX11_sameBytes mX11_sameBytes 26 [none, none, none, none, none, none] [] S Q := by
  unfold O_X11_sameBytes_26 at ok
  unfold F_X11_sameBytes_26 at hx
  refine c_iconst (v := nI 0) dX11_sameBytes_26 (by decide) ?_
  exact c_ireturn rfl rfl dX11_sameBytes_27 (hR _ hx)
def F_X11_sameBytes_0 (N : Nat) (x0 : Option Nat) (x1 : Int32) (x2 : Option Nat) (x3 : Int32) (x4 : Int32) (S : cS) : Int32 := (if x1 < 0 then (F_X11_sameBytes_26 N S) else (if x3 < 0 then (F_X11_sameBytes_26 N S) else (if ((nI (cL S (za x0))) - x1) < x4 then (F_X11_sameBytes_26 N S) else (if x4 ≤ ((nI (cL S (za x2))) - x3) then (A_X11_sameBytes_31 N x0 x1 x2 x3 x4 (nI 0) S (L_X11_sameBytes_31 N N x0 x1 x2 x3 x4 (nI 0) S)) else (F_X11_sameBytes_26 N S)))))
def O_X11_sameBytes_0 (N : Nat) (x0 : Option Nat) (x1 : Int32) (x2 : Option Nat) (x3 : Int32) (x4 : Int32) (S : cS) : Prop := ((x1 < 0 → O_X11_sameBytes_26 N S) ∧ (¬ x1 < 0 → ((x3 < 0 → O_X11_sameBytes_26 N S) ∧ (¬ x3 < 0 → (cis S x0 20) ∧ ((((nI (cL S (za x0))) - x1) < x4 → O_X11_sameBytes_26 N S) ∧ (¬ ((nI (cL S (za x0))) - x1) < x4 → (cis S x2 20) ∧ ((x4 ≤ ((nI (cL S (za x2))) - x3) → (OL_X11_sameBytes_31 N N x0 x1 x2 x3 x4 (nI 0) S ∧ OA_X11_sameBytes_31 N x0 x1 x2 x3 x4 (nI 0) S (L_X11_sameBytes_31 N N x0 x1 x2 x3 x4 (nI 0) S))) ∧ (¬ x4 ≤ ((nI (cL S (za x2))) - x3) → O_X11_sameBytes_26 N S))))))))
set_option maxRecDepth 100000 in
set_option maxHeartbeats 4000000 in
theorem b_X11_sameBytes_0 {G : zG} {o : cO} {S : cS} {N : Nat} {Q : Option Value → cS → Prop} {X : Int32 → Prop} (hG : zOK G) (hR : ∀ v, X v → Q (some (.int v)) S) {x0 : Option Nat} {x1 : Int32} {x2 : Option Nat} {x3 : Int32} {x4 : Int32} (ok : O_X11_sameBytes_0 N x0 x1 x2 x3 x4 S) (hx : X (F_X11_sameBytes_0 N x0 x1 x2 x3 x4 S)) : cX G o dX11_sameBytes mX11_sameBytes 0 [some (va_rf x0), some (.int x1), some (va_rf x2), some (.int x3), some (.int x4), none] [] S Q := by
  unfold O_X11_sameBytes_0 at ok
  unfold F_X11_sameBytes_0 at hx
  refine c_iload_n dX11_sameBytes_0 rfl rfl ?_
  refine c_if_lt (tgt := 26) dX11_sameBytes_1 (by decide) (fun c_1 => ?_) (fun c_1 => ?_)
  · have ok := ok.1 c_1
    have hx := xif_p c_1 hx
    exact cX.cutz (b_X11_sameBytes_26 hG hR ok hx) trivial
  · have ok := ok.2 c_1
    have hx := xif_n c_1 hx
    refine c_iload_n dX11_sameBytes_4 rfl rfl ?_
    refine c_if_lt (tgt := 26) dX11_sameBytes_5 (by decide) (fun c_5 => ?_) (fun c_5 => ?_)
    · have ok := ok.1 c_5
      have hx := xif_p c_5 hx
      exact cX.cutz (b_X11_sameBytes_26 hG hR ok hx) trivial
    · have ok := ok.2 c_5
      have hx := xif_n c_5 hx
      refine c_aload_nQ dX11_sameBytes_8 rfl rfl ?_
      refine c_alen (t := 0) (ty := .byte) rfl dX11_sameBytes_9 ok.1 ?_
      have ok := ok.2
      refine c_iload_n dX11_sameBytes_10 rfl rfl ?_
      refine c_isub dX11_sameBytes_11 ?_
      refine c_iload dX11_sameBytes_12 rfl ?_
      refine c_icmp_lt (tgt := 26) dX11_sameBytes_14 (by decide) (fun c_14 => ?_) (fun c_14 => ?_)
      · have ok := ok.1 c_14
        have hx := xif_p c_14 hx
        exact cX.cutz (b_X11_sameBytes_26 hG hR ok hx) trivial
      · have ok := ok.2 c_14
        have hx := xif_n c_14 hx
        refine c_aload_nQ dX11_sameBytes_17 rfl rfl ?_
        refine c_alen (t := 0) (ty := .byte) rfl dX11_sameBytes_18 ok.1 ?_
        have ok := ok.2
        refine c_iload_n dX11_sameBytes_19 rfl rfl ?_
        refine c_isub dX11_sameBytes_20 ?_
        refine c_iload dX11_sameBytes_21 rfl ?_
        refine c_icmp_ge (tgt := 28) dX11_sameBytes_23 (by decide) (fun c_23 => ?_) (fun c_23 => ?_)
        · have ok := ok.1 c_23
          have hx := xif_p c_23 hx
          refine c_iconst (v := nI 0) dX11_sameBytes_28 (by decide) ?_
          refine c_istore_5 dX11_sameBytes_29 (by decide) rfl ?_
          exact cX.cutz (c_X11_sameBytes_31 hG hR ok hx) ⟨rfl, rfl, rfl, rfl, rfl, rfl, trivial⟩
        · have ok := ok.2 c_23
          have hx := xif_n c_23 hx
          exact cX.cutz (b_X11_sameBytes_26 hG hR ok hx) trivial
def f_X11_sameBytes (N : Nat) (S : cS) (x0 : Option Nat) (x1 : Int32) (x2 : Option Nat) (x3 : Int32) (x4 : Int32) : Int32 := F_X11_sameBytes_0 N x0 x1 x2 x3 x4 S
def o_X11_sameBytes (N : Nat) (S : cS) (x0 : Option Nat) (x1 : Int32) (x2 : Option Nat) (x3 : Int32) (x4 : Int32) : Prop := O_X11_sameBytes_0 N x0 x1 x2 x3 x4 S
set_option maxRecDepth 100000 in
set_option maxHeartbeats 4000000 in
theorem cc_X11_sameBytes {G : zG} {o : cO} {S : cS} {N : Nat} (hG : zOK G) {x0 : Option Nat} {x1 : Int32} {x2 : Option Nat} {x3 : Int32} {x4 : Int32} (ok : o_X11_sameBytes N S x0 x1 x2 x3 x4) : cCi G o dX11_sameBytes mX11_sameBytes [va_rf x0, .int x1, va_rf x2, .int x3, .int x4] S (fun v S' => v = f_X11_sameBytes N S x0 x1 x2 x3 x4 ∧ S' = S) := by
  refine cC.ofX rfl (by cases x0 <;> cases x2 <;> exact Nat.le_of_ble_eq_true rfl) ?_
  rw [show zargs mX11_sameBytes.2.2.1 [va_rf x0, .int x1, va_rf x2, .int x3, .int x4] = [some (va_rf x0), some (.int x1), some (va_rf x2), some (.int x3), some (.int x4), none] from by cases x0 <;> cases x2 <;> rfl]
  exact cX.cutz (b_X11_sameBytes_0 (X := fun F => F = f_X11_sameBytes N S x0 x1 x2 x3 x4) hG (fun v h => ⟨v, rfl, h, rfl⟩) ok rfl) ⟨rfl, rfl, rfl, rfl, rfl, trivial⟩
/-! X1_blockFits -/
def F_X1_blockFits_194 (N : Nat) (x0 : Option Nat) (x1 : Option Nat) (x2 : Int32) (S : cS) : Int32 × cS := ((f_X11_sameBytes N S (cR S 2 (za x0)) (nI 0) x1 (x2 + (nI 67)) (nI 32)), S)
def O_X1_blockFits_194 (N : Nat) (x0 : Option Nat) (x1 : Option Nat) (x2 : Int32) (S : cS) : Prop := (cis S x0 2) ∧ (o_X11_sameBytes N S (cR S 2 (za x0)) (nI 0) x1 (x2 + (nI 67)) (nI 32)) ∧ narrow .boolean (.int (f_X11_sameBytes N S (cR S 2 (za x0)) (nI 0) x1 (x2 + (nI 67)) (nI 32))) = .int (f_X11_sameBytes N S (cR S 2 (za x0)) (nI 0) x1 (x2 + (nI 67)) (nI 32))
set_option maxRecDepth 100000 in
set_option maxHeartbeats 4000000 in
theorem b_X1_blockFits_194 {G : zG} {o : cO} {S : cS} {N : Nat} {Q : Option Value → cS → Prop} {X : Int32 × cS → Prop} (hG : zOK G) (hR : ∀ v S', X (v, S') → Q (some (.int v)) S') {x0 : Option Nat} {x1 : Option Nat} {x2 : Int32} (ok : O_X1_blockFits_194 N x0 x1 x2 S) (hx : X (F_X1_blockFits_194 N x0 x1 x2 S)) : cX G o dX1_blockFits mX1_blockFits 194 [some (va_rf x0), some (va_rf x1), some (.int x2), none, none, none, none, none] [] S Q := by
  unfold O_X1_blockFits_194 at ok
  unfold F_X1_blockFits_194 at hx
  refine c_aload_nQ dX1_blockFits_194 rfl rfl ?_
  refine c_getR (C := RX1) (T := TX1) (N := 3) (ci := 1) (k := 2) ⟨rfl, inT1, by decide, fX1_9⟩ (by decide) (by decide) (by decide) dX1_blockFits_195 ok.1 ?_
  have ok := ok.2
  refine c_iconst (v := nI 0) dX1_blockFits_198 (by decide) ?_
  refine c_aload_nQ dX1_blockFits_199 rfl rfl ?_
  refine c_iload_n dX1_blockFits_200 rfl rfl ?_
  refine c_bipush (v := nI 67) dX1_blockFits_201 (by decide) ?_
  refine c_iadd dX1_blockFits_203 ?_
  refine c_bipush (v := nI 32) dX1_blockFits_204 (by decide) ?_
  refine c_SN5iE (y' := mX11_sameBytes) dX1_blockFits_206 lX1_103 kX11_sameBytes ⟨by decide, by decide⟩ (Nat.le_of_ble_eq_true rfl) (cc_X11_sameBytes hG ok.1) ?_
  have ok := ok.2
  exact c_ireturn rfl ok dX1_blockFits_209 (hR _ _ hx)
def F_X1_blockFits_181 (N : Nat) (x0 : Option Nat) (x1 : Option Nat) (x2 : Int32) (s0 : Int32) (S : cS) : Int32 × cS := (F_X1_blockFits_194 N x0 x1 x2 (f_X2_top N S (za (cR S 0 (za x0))) (cR S 2 (za x0)) (nI 0)))
def O_X1_blockFits_181 (N : Nat) (x0 : Option Nat) (x1 : Option Nat) (x2 : Int32) (s0 : Int32) (S : cS) : Prop := (cis S x0 2) ∧ (cis S x0 2) ∧ (cis S (cR S 0 (za x0)) 3 ∧ o_X2_top N S (za (cR S 0 (za x0))) (cR S 2 (za x0)) (nI 0)) ∧ O_X1_blockFits_194 N x0 x1 x2 (f_X2_top N S (za (cR S 0 (za x0))) (cR S 2 (za x0)) (nI 0))
set_option maxRecDepth 100000 in
set_option maxHeartbeats 4000000 in
theorem b_X1_blockFits_181 {G : zG} {o : cO} {S : cS} {N : Nat} {Q : Option Value → cS → Prop} {X : Int32 × cS → Prop} (hG : zOK G) (hR : ∀ v S', X (v, S') → Q (some (.int v)) S') {x0 : Option Nat} {x1 : Option Nat} {x2 : Int32} {s0 : Int32} (ok : O_X1_blockFits_181 N x0 x1 x2 s0 S) (hx : X (F_X1_blockFits_181 N x0 x1 x2 s0 S)) : cX G o dX1_blockFits mX1_blockFits 181 [some (va_rf x0), some (va_rf x1), some (.int x2), none, none, none, none, none] [.int s0] S Q := by
  unfold O_X1_blockFits_181 at ok
  unfold F_X1_blockFits_181 at hx
  refine c_pop dX1_blockFits_181 rfl ?_
  refine c_aload_nQ dX1_blockFits_182 rfl rfl ?_
  refine c_getR (C := RX1) (T := TX1) (N := 3) (ci := 1) (k := 0) ⟨rfl, inT1, by decide, fX1_15⟩ (by decide) (by decide) (by decide) dX1_blockFits_183 ok.1 ?_
  have ok := ok.2
  refine c_aload_nQ dX1_blockFits_186 rfl rfl ?_
  refine c_getR (C := RX1) (T := TX1) (N := 3) (ci := 1) (k := 2) ⟨rfl, inT1, by decide, fX1_9⟩ (by decide) (by decide) (by decide) dX1_blockFits_187 ok.1 ?_
  have ok := ok.2
  refine c_iconst (v := nI 0) dX1_blockFits_190 (by decide) ?_
  refine c_V2vE (ci := 2) (rr := (RX2, TX2, 6)) (y' := mX2_top) dX1_blockFits_191 lX1_100 kX2_top ⟨by decide, by decide⟩ rfl rfl (by decide) ok.1.1 (Nat.le_of_ble_eq_true rfl) (cc_X2_top hG ok.1.2) ?_
  have ok := ok.2
  exact cX.cutz (b_X1_blockFits_194 hG hR ok hx) ⟨rfl, rfl, rfl, trivial⟩
def F_X1_blockFits_168 (N : Nat) (x0 : Option Nat) (x1 : Option Nat) (x2 : Int32) (S : cS) : Int32 × cS := (F_X1_blockFits_181 N x0 x1 x2 ((f_X2_climb N S (za (cR S 0 (za x0))) (-1) (cR S 2 (za x0)) (nI 0)).1) (f_X2_climb N S (za (cR S 0 (za x0))) (-1) (cR S 2 (za x0)) (nI 0)).2)
def O_X1_blockFits_168 (N : Nat) (x0 : Option Nat) (x1 : Option Nat) (x2 : Int32) (S : cS) : Prop := (cis S x0 2) ∧ (cis S x0 2) ∧ (cis S (cR S 0 (za x0)) 3 ∧ o_X2_climb N S (za (cR S 0 (za x0))) (-1) (cR S 2 (za x0)) (nI 0)) ∧ O_X1_blockFits_181 N x0 x1 x2 ((f_X2_climb N S (za (cR S 0 (za x0))) (-1) (cR S 2 (za x0)) (nI 0)).1) (f_X2_climb N S (za (cR S 0 (za x0))) (-1) (cR S 2 (za x0)) (nI 0)).2
set_option maxRecDepth 100000 in
set_option maxHeartbeats 4000000 in
theorem b_X1_blockFits_168 {G : zG} {o : cO} {S : cS} {N : Nat} {Q : Option Value → cS → Prop} {X : Int32 × cS → Prop} (hG : zOK G) (hR : ∀ v S', X (v, S') → Q (some (.int v)) S') {x0 : Option Nat} {x1 : Option Nat} {x2 : Int32} (ok : O_X1_blockFits_168 N x0 x1 x2 S) (hx : X (F_X1_blockFits_168 N x0 x1 x2 S)) : cX G o dX1_blockFits mX1_blockFits 168 [some (va_rf x0), some (va_rf x1), some (.int x2), none, none, none, none, none] [] S Q := by
  unfold O_X1_blockFits_168 at ok
  unfold F_X1_blockFits_168 at hx
  refine c_aload_nQ dX1_blockFits_168 rfl rfl ?_
  refine c_getR (C := RX1) (T := TX1) (N := 3) (ci := 1) (k := 0) ⟨rfl, inT1, by decide, fX1_15⟩ (by decide) (by decide) (by decide) dX1_blockFits_169 ok.1 ?_
  have ok := ok.2
  refine c_iconst (v := -1) dX1_blockFits_172 (by decide) ?_
  refine c_aload_nQ dX1_blockFits_173 rfl rfl ?_
  refine c_getR (C := RX1) (T := TX1) (N := 3) (ci := 1) (k := 2) ⟨rfl, inT1, by decide, fX1_9⟩ (by decide) (by decide) (by decide) dX1_blockFits_174 ok.1 ?_
  have ok := ok.2
  refine c_iconst (v := nI 0) dX1_blockFits_177 (by decide) ?_
  refine c_V3iE (ci := 2) (rr := (RX2, TX2, 6)) (y' := mX2_climb) dX1_blockFits_178 lX1_96 kX2_climb ⟨by decide, by decide⟩ rfl rfl (by decide) ok.1.1 (Nat.le_of_ble_eq_true rfl) (cc_X2_climb hG ok.1.2) ?_
  have ok := ok.2
  exact cX.cutz (b_X1_blockFits_181 hG hR ok hx) ⟨rfl, rfl, rfl, trivial⟩
def F_X1_blockFits_159 (N : Nat) (x0 : Option Nat) (x1 : Option Nat) (x2 : Int32) (S : cS) : Int32 × cS := (F_X1_blockFits_168 N x0 x1 x2 (f_X2_plant N S (za (cR S 0 (za x0))) x1 x2))
def O_X1_blockFits_159 (N : Nat) (x0 : Option Nat) (x1 : Option Nat) (x2 : Int32) (S : cS) : Prop := (cis S x0 2) ∧ (cis S (cR S 0 (za x0)) 3 ∧ o_X2_plant N S (za (cR S 0 (za x0))) x1 x2) ∧ O_X1_blockFits_168 N x0 x1 x2 (f_X2_plant N S (za (cR S 0 (za x0))) x1 x2)
set_option maxRecDepth 100000 in
set_option maxHeartbeats 4000000 in
theorem b_X1_blockFits_159 {G : zG} {o : cO} {S : cS} {N : Nat} {Q : Option Value → cS → Prop} {X : Int32 × cS → Prop} (hG : zOK G) (hR : ∀ v S', X (v, S') → Q (some (.int v)) S') {x0 : Option Nat} {x1 : Option Nat} {x2 : Int32} (ok : O_X1_blockFits_159 N x0 x1 x2 S) (hx : X (F_X1_blockFits_159 N x0 x1 x2 S)) : cX G o dX1_blockFits mX1_blockFits 159 [some (va_rf x0), some (va_rf x1), some (.int x2), none, none, none, none, none] [] S Q := by
  unfold O_X1_blockFits_159 at ok
  unfold F_X1_blockFits_159 at hx
  refine c_aload_nQ dX1_blockFits_159 rfl rfl ?_
  refine c_getR (C := RX1) (T := TX1) (N := 3) (ci := 1) (k := 0) ⟨rfl, inT1, by decide, fX1_15⟩ (by decide) (by decide) (by decide) dX1_blockFits_160 ok.1 ?_
  have ok := ok.2
  refine c_aload_nQ dX1_blockFits_163 rfl rfl ?_
  refine c_iload_n dX1_blockFits_164 rfl rfl ?_
  refine c_V2vE (ci := 2) (rr := (RX2, TX2, 6)) (y' := mX2_plant) dX1_blockFits_165 lX1_93 kX2_plant ⟨by decide, by decide⟩ rfl rfl (by decide) ok.1.1 (Nat.le_of_ble_eq_true rfl) (cc_X2_plant hG ok.1.2) ?_
  have ok := ok.2
  exact cX.cutz (b_X1_blockFits_168 hG hR ok hx) ⟨rfl, rfl, rfl, trivial⟩
def F_X1_blockFits_151 (N : Nat)  (S : cS) : Int32 × cS := ((nI 0), S)
def O_X1_blockFits_151 (N : Nat)  (S : cS) : Prop := True
set_option maxRecDepth 100000 in
set_option maxHeartbeats 4000000 in
theorem b_X1_blockFits_151 {G : zG} {o : cO} {S : cS} {N : Nat} {Q : Option Value → cS → Prop} {X : Int32 × cS → Prop} (hG : zOK G) (hR : ∀ v S', X (v, S') → Q (some (.int v)) S') (ok : O_X1_blockFits_151 N S) (hx : X (F_X1_blockFits_151 N S)) : cX G o dX1_blockFits mX1_blockFits 151 [none, none, none, none, none, none, none, none] [] S Q := by
  unfold O_X1_blockFits_151 at ok
  unfold F_X1_blockFits_151 at hx
  refine c_iconst (v := nI 0) dX1_blockFits_151 (by decide) ?_
  exact c_ireturn rfl rfl dX1_blockFits_152 (hR _ _ hx)
def B_X1_blockFits_129 (N : Nat) (rec : Option Nat → Option Nat → Int32 → Int32 → Int32 → Int32 → cS → Nat × Option Nat × Option Nat × Int32 × cS) (x0 : Option Nat) (x1 : Option Nat) (x2 : Int32) (x4 : Int32) (x6 : Int32) (x7 : Int32) (S : cS) : Nat × Option Nat × Option Nat × Int32 × cS := (if x4 ≤ x7 then (1, x0, x1, x2, S) else (if (f_X1_paymentFits N S x1 (x6 + (x7 * (nI 7)))) = 0 then (0, none, none, 0, S) else (rec x0 x1 x2 x4 x6 (x7 + nI 1) S)))
def OB_X1_blockFits_129 (N : Nat) (rok : Option Nat → Option Nat → Int32 → Int32 → Int32 → Int32 → cS → Prop) (x0 : Option Nat) (x1 : Option Nat) (x2 : Int32) (x4 : Int32) (x6 : Int32) (x7 : Int32) (S : cS) : Prop := ((x4 ≤ x7 → True) ∧ (¬ x4 ≤ x7 → (o_X1_paymentFits N S x1 (x6 + (x7 * (nI 7)))) ∧ (((f_X1_paymentFits N S x1 (x6 + (x7 * (nI 7)))) = 0 → True) ∧ (¬ (f_X1_paymentFits N S x1 (x6 + (x7 * (nI 7)))) = 0 → rok x0 x1 x2 x4 x6 (x7 + nI 1) S))))
set_option maxRecDepth 100000 in
set_option maxHeartbeats 4000000 in
theorem bb_X1_blockFits_129 {G : zG} {o : cO} {S : cS} {N : Nat} {Q : Option Value → cS → Prop} {X : Nat × Option Nat × Option Nat × Int32 × cS → Prop} (hG : zOK G) (hX0 : ∀ (x0 : Option Nat) (x1 : Option Nat) (x2 : Int32) (S' : cS), X (0, x0, x1, x2, S') → cX G o dX1_blockFits mX1_blockFits 151 [none, none, none, none, none, none, none, none] [] S' Q) (hX1 : ∀ (x0 : Option Nat) (x1 : Option Nat) (x2 : Int32) (S' : cS), X (1, x0, x1, x2, S') → cX G o dX1_blockFits mX1_blockFits 159 [some (va_rf x0), some (va_rf x1), some (.int x2), none, none, none, none, none] [] S' Q) {rec : Option Nat → Option Nat → Int32 → Int32 → Int32 → Int32 → cS → Nat × Option Nat × Option Nat × Int32 × cS} {rok : Option Nat → Option Nat → Int32 → Int32 → Int32 → Int32 → cS → Prop} (hrec : ∀ (x0 : Option Nat) (x1 : Option Nat) (x2 : Int32) (x4 : Int32) (x6 : Int32) (x7 : Int32) (S : cS), rok x0 x1 x2 x4 x6 x7 S → X (rec x0 x1 x2 x4 x6 x7 S) → cX G o dX1_blockFits mX1_blockFits 129 [some (va_rf x0), some (va_rf x1), some (.int x2), none, some (.int x4), none, some (.int x6), some (.int x7)] [] S Q) {x0 : Option Nat} {x1 : Option Nat} {x2 : Int32} {x4 : Int32} {x6 : Int32} {x7 : Int32} (ok : OB_X1_blockFits_129 N rok x0 x1 x2 x4 x6 x7 S) (hx : X (B_X1_blockFits_129 N rec x0 x1 x2 x4 x6 x7 S)) : cX G o dX1_blockFits mX1_blockFits 129 [some (va_rf x0), some (va_rf x1), some (.int x2), none, some (.int x4), none, some (.int x6), some (.int x7)] [] S Q := by
  unfold OB_X1_blockFits_129 at ok
  unfold B_X1_blockFits_129 at hx
  refine c_iload dX1_blockFits_129 rfl ?_
  refine c_iload dX1_blockFits_131 rfl ?_
  refine c_icmp_ge (tgt := 159) dX1_blockFits_133 (by decide) (fun c_133 => ?_) (fun c_133 => ?_)
  · have ok := ok.1 c_133
    have hx := xif_p c_133 hx
    exact cX.cutz (hX1 _ _ _ S hx) ⟨rfl, rfl, rfl, trivial⟩
  · have ok := ok.2 c_133
    have hx := xif_n c_133 hx
    refine c_aload_nQ dX1_blockFits_136 rfl rfl ?_
    refine c_iload dX1_blockFits_137 rfl ?_
    refine c_iload dX1_blockFits_139 rfl ?_
    refine c_bipush (v := nI 7) dX1_blockFits_141 (by decide) ?_
    refine c_imul dX1_blockFits_143 ?_
    refine c_iadd dX1_blockFits_144 ?_
    refine c_S2iE (y' := mX1_paymentFits) dX1_blockFits_145 lX1_62 kX1_paymentFits ⟨by decide, by decide⟩ (Nat.le_of_ble_eq_true rfl) (cc_X1_paymentFits hG ok.1) ?_
    have ok := ok.2
    refine c_if_ne (tgt := 153) dX1_blockFits_148 (by decide) (fun c_148 => ?_) (fun c_148 => ?_)
    · have ok := ok.2 c_148
      have hx := xif_n c_148 hx
      refine c_iinc_7 (v := (x7 + nI 1)) dX1_blockFits_153 rfl (by first | rfl | (congr 1)) (by decide) rfl ?_
      refine c_goto (tgt := 129) dX1_blockFits_156 (by decide) ?_
      exact cX.cutz (hrec _ _ _ _ _ _ S ok hx) ⟨rfl, rfl, rfl, rfl, rfl, rfl, trivial⟩
    · have ok := ok.1 c_148
      have hx := xif_p c_148 hx
      exact cX.cutz (hX0 _ _ _ S hx) trivial
def L_X1_blockFits_129 (N : Nat) : Nat → Option Nat → Option Nat → Int32 → Int32 → Int32 → Int32 → cS → Nat × Option Nat × Option Nat × Int32 × cS
  | 0, x0, x1, x2, x4, x6, x7, S => (0, none, none, 0, S)
  | n + 1, x0, x1, x2, x4, x6, x7, S => B_X1_blockFits_129 N (L_X1_blockFits_129 N n) x0 x1 x2 x4 x6 x7 S
def OL_X1_blockFits_129 (N : Nat) : Nat → Option Nat → Option Nat → Int32 → Int32 → Int32 → Int32 → cS → Prop
  | 0, _, _, _, _, _, _, _ => False
  | n + 1, x0, x1, x2, x4, x6, x7, S => OB_X1_blockFits_129 N (OL_X1_blockFits_129 N n) x0 x1 x2 x4 x6 x7 S
set_option maxRecDepth 100000 in
set_option maxHeartbeats 4000000 in
theorem l_X1_blockFits_129 {G : zG} {o : cO} {N : Nat} {Q : Option Value → cS → Prop} {X : Nat × Option Nat × Option Nat × Int32 × cS → Prop} (hG : zOK G) (hX0 : ∀ (x0 : Option Nat) (x1 : Option Nat) (x2 : Int32) (S' : cS), X (0, x0, x1, x2, S') → cX G o dX1_blockFits mX1_blockFits 151 [none, none, none, none, none, none, none, none] [] S' Q) (hX1 : ∀ (x0 : Option Nat) (x1 : Option Nat) (x2 : Int32) (S' : cS), X (1, x0, x1, x2, S') → cX G o dX1_blockFits mX1_blockFits 159 [some (va_rf x0), some (va_rf x1), some (.int x2), none, none, none, none, none] [] S' Q) : ∀ (n : Nat) (x0 : Option Nat) (x1 : Option Nat) (x2 : Int32) (x4 : Int32) (x6 : Int32) (x7 : Int32) (S : cS), OL_X1_blockFits_129 N n x0 x1 x2 x4 x6 x7 S → X (L_X1_blockFits_129 N n x0 x1 x2 x4 x6 x7 S) → cX G o dX1_blockFits mX1_blockFits 129 [some (va_rf x0), some (va_rf x1), some (.int x2), none, some (.int x4), none, some (.int x6), some (.int x7)] [] S Q := by
  intro n
  induction n with
  | zero => intro x0 x1 x2 x4 x6 x7 S ok; exact absurd ok id
  | succ n ih =>
    intro x0 x1 x2 x4 x6 x7 S ok hx
    exact bb_X1_blockFits_129 hG hX0 hX1 (rec := L_X1_blockFits_129 N n) (rok := OL_X1_blockFits_129 N n) (fun x0 x1 x2 x4 x6 x7 S ok hx => ih x0 x1 x2 x4 x6 x7 S ok hx) ok hx
def A_X1_blockFits_129 (N : Nat) (x0 : Option Nat) (x1 : Option Nat) (x2 : Int32) (x4 : Int32) (x6 : Int32) (x7 : Int32) (S : cS) (z : Nat × Option Nat × Option Nat × Int32 × cS) : Int32 × cS := (if z.1 = 0 then (F_X1_blockFits_151 N z.2.2.2.2) else (F_X1_blockFits_159 N (z.2.1) (z.2.2.1) (z.2.2.2.1) z.2.2.2.2))
def OA_X1_blockFits_129 (N : Nat) (x0 : Option Nat) (x1 : Option Nat) (x2 : Int32) (x4 : Int32) (x6 : Int32) (x7 : Int32) (S : cS) (z : Nat × Option Nat × Option Nat × Int32 × cS) : Prop := (if z.1 = 0 then O_X1_blockFits_151 N z.2.2.2.2 else O_X1_blockFits_159 N (z.2.1) (z.2.2.1) (z.2.2.2.1) z.2.2.2.2)
set_option maxRecDepth 100000 in
set_option maxHeartbeats 4000000 in
theorem c_X1_blockFits_129 {G : zG} {o : cO} {S : cS} {N : Nat} {Q : Option Value → cS → Prop} {X : Int32 × cS → Prop} (hG : zOK G) (hR : ∀ v S', X (v, S') → Q (some (.int v)) S') {x0 : Option Nat} {x1 : Option Nat} {x2 : Int32} {x4 : Int32} {x6 : Int32} {x7 : Int32} (ok : OL_X1_blockFits_129 N N x0 x1 x2 x4 x6 x7 S ∧ OA_X1_blockFits_129 N x0 x1 x2 x4 x6 x7 S (L_X1_blockFits_129 N N x0 x1 x2 x4 x6 x7 S)) (hx : X (A_X1_blockFits_129 N x0 x1 x2 x4 x6 x7 S (L_X1_blockFits_129 N N x0 x1 x2 x4 x6 x7 S))) : cX G o dX1_blockFits mX1_blockFits 129 [some (va_rf x0), some (va_rf x1), some (.int x2), none, some (.int x4), none, some (.int x6), some (.int x7)] [] S Q := by
  refine l_X1_blockFits_129 hG ?_ ?_ N x0 x1 x2 x4 x6 x7 S ok.1 (X := fun z => OA_X1_blockFits_129 N x0 x1 x2 x4 x6 x7 S z ∧ X (A_X1_blockFits_129 N x0 x1 x2 x4 x6 x7 S z)) ⟨ok.2, hx⟩
  · intro x0' x1' x2' S' hz
    obtain ⟨ok, hx⟩ := hz
    unfold OA_X1_blockFits_129 at ok
    unfold A_X1_blockFits_129 at hx
    have ok := xif_P (show (0 : Nat) = 0 from rfl) ok
    have hx := xif_p (show (0 : Nat) = 0 from rfl) hx
    exact cX.cutz (b_X1_blockFits_151 hG hR ok hx) trivial
  · intro x0' x1' x2' S' hz
    obtain ⟨ok, hx⟩ := hz
    unfold OA_X1_blockFits_129 at ok
    unfold A_X1_blockFits_129 at hx
    have ok := xif_N (show ¬ (1 : Nat) = 0 by decide) ok
    have hx := xif_n (show ¬ (1 : Nat) = 0 by decide) hx
    exact cX.cutz (b_X1_blockFits_159 hG hR ok hx) ⟨rfl, rfl, rfl, trivial⟩
def F_X1_blockFits_112 (N : Nat) (x0 : Option Nat) (x1 : Option Nat) (x2 : Int32) (x3 : Int32) (x4 : Int32) (x6 : Int32) (S : cS) : Int32 × cS := (if (x3 - x6) = (x4 * (nI 7)) then (A_X1_blockFits_129 N x0 x1 x2 x4 x6 (nI 0) S (L_X1_blockFits_129 N N x0 x1 x2 x4 x6 (nI 0) S)) else ((nI 0), S))
def O_X1_blockFits_112 (N : Nat) (x0 : Option Nat) (x1 : Option Nat) (x2 : Int32) (x3 : Int32) (x4 : Int32) (x6 : Int32) (S : cS) : Prop := (((x3 - x6) = (x4 * (nI 7)) → (OL_X1_blockFits_129 N N x0 x1 x2 x4 x6 (nI 0) S ∧ OA_X1_blockFits_129 N x0 x1 x2 x4 x6 (nI 0) S (L_X1_blockFits_129 N N x0 x1 x2 x4 x6 (nI 0) S))) ∧ (¬ (x3 - x6) = (x4 * (nI 7)) → True))
set_option maxRecDepth 100000 in
set_option maxHeartbeats 4000000 in
theorem b_X1_blockFits_112 {G : zG} {o : cO} {S : cS} {N : Nat} {Q : Option Value → cS → Prop} {X : Int32 × cS → Prop} (hG : zOK G) (hR : ∀ v S', X (v, S') → Q (some (.int v)) S') {x0 : Option Nat} {x1 : Option Nat} {x2 : Int32} {x3 : Int32} {x4 : Int32} {x6 : Int32} (ok : O_X1_blockFits_112 N x0 x1 x2 x3 x4 x6 S) (hx : X (F_X1_blockFits_112 N x0 x1 x2 x3 x4 x6 S)) : cX G o dX1_blockFits mX1_blockFits 112 [some (va_rf x0), some (va_rf x1), some (.int x2), some (.int x3), some (.int x4), none, some (.int x6), none] [] S Q := by
  unfold O_X1_blockFits_112 at ok
  unfold F_X1_blockFits_112 at hx
  refine c_iload_n dX1_blockFits_112 rfl rfl ?_
  refine c_iload dX1_blockFits_113 rfl ?_
  refine c_isub dX1_blockFits_115 ?_
  refine c_iload dX1_blockFits_116 rfl ?_
  refine c_bipush (v := nI 7) dX1_blockFits_118 (by decide) ?_
  refine c_imul dX1_blockFits_120 ?_
  refine c_icmp_eq (tgt := 126) dX1_blockFits_121 (by decide) (fun c_121 => ?_) (fun c_121 => ?_)
  · have ok := ok.1 c_121
    have hx := xif_p c_121 hx
    refine c_iconst (v := nI 0) dX1_blockFits_126 (by decide) ?_
    refine c_istore_7 dX1_blockFits_127 (by decide) rfl ?_
    exact cX.cutz (c_X1_blockFits_129 hG hR ok hx) ⟨rfl, rfl, rfl, rfl, rfl, rfl, trivial⟩
  · have ok := ok.2 c_121
    have hx := xif_n c_121 hx
    refine c_iconst (v := nI 0) dX1_blockFits_124 (by decide) ?_
    exact c_ireturn rfl rfl dX1_blockFits_125 (hR _ _ hx)
def F_X1_blockFits_104 (N : Nat)  (S : cS) : Int32 × cS := ((nI 0), S)
def O_X1_blockFits_104 (N : Nat)  (S : cS) : Prop := True
set_option maxRecDepth 100000 in
set_option maxHeartbeats 4000000 in
theorem b_X1_blockFits_104 {G : zG} {o : cO} {S : cS} {N : Nat} {Q : Option Value → cS → Prop} {X : Int32 × cS → Prop} (hG : zOK G) (hR : ∀ v S', X (v, S') → Q (some (.int v)) S') (ok : O_X1_blockFits_104 N S) (hx : X (F_X1_blockFits_104 N S)) : cX G o dX1_blockFits mX1_blockFits 104 [none, none, none, none, none, none, none, none] [] S Q := by
  unfold O_X1_blockFits_104 at ok
  unfold F_X1_blockFits_104 at hx
  refine c_iconst (v := nI 0) dX1_blockFits_104 (by decide) ?_
  exact c_ireturn rfl rfl dX1_blockFits_105 (hR _ _ hx)
def B_X1_blockFits_82 (N : Nat) (rec : Option Nat → Option Nat → Int32 → Int32 → Int32 → Int32 → Int32 → Int32 → cS → Nat × Option Nat × Option Nat × Int32 × Int32 × Int32 × Int32 × cS) (x0 : Option Nat) (x1 : Option Nat) (x2 : Int32) (x3 : Int32) (x4 : Int32) (x5 : Int32) (x6 : Int32) (x7 : Int32) (S : cS) : Nat × Option Nat × Option Nat × Int32 × Int32 × Int32 × Int32 × cS := (if x5 ≤ x7 then (1, x0, x1, x2, x3, x4, x6, S) else (if 0 ≤ (f_X1_evidenceFits N S (za x0) x1 x6 x3) then (rec x0 x1 x2 x3 x4 x5 (f_X1_evidenceFits N S (za x0) x1 x6 x3) (x7 + nI 1) S) else (0, none, none, 0, 0, 0, 0, S)))
def OB_X1_blockFits_82 (N : Nat) (rok : Option Nat → Option Nat → Int32 → Int32 → Int32 → Int32 → Int32 → Int32 → cS → Prop) (x0 : Option Nat) (x1 : Option Nat) (x2 : Int32) (x3 : Int32) (x4 : Int32) (x5 : Int32) (x6 : Int32) (x7 : Int32) (S : cS) : Prop := ((x5 ≤ x7 → True) ∧ (¬ x5 ≤ x7 → (cis S x0 2 ∧ o_X1_evidenceFits N S (za x0) x1 x6 x3) ∧ ((0 ≤ (f_X1_evidenceFits N S (za x0) x1 x6 x3) → rok x0 x1 x2 x3 x4 x5 (f_X1_evidenceFits N S (za x0) x1 x6 x3) (x7 + nI 1) S) ∧ (¬ 0 ≤ (f_X1_evidenceFits N S (za x0) x1 x6 x3) → True))))
set_option maxRecDepth 100000 in
set_option maxHeartbeats 4000000 in
theorem bb_X1_blockFits_82 {G : zG} {o : cO} {S : cS} {N : Nat} {Q : Option Value → cS → Prop} {X : Nat × Option Nat × Option Nat × Int32 × Int32 × Int32 × Int32 × cS → Prop} (hG : zOK G) (hX0 : ∀ (x0 : Option Nat) (x1 : Option Nat) (x2 : Int32) (x3 : Int32) (x4 : Int32) (x6 : Int32) (S' : cS), X (0, x0, x1, x2, x3, x4, x6, S') → cX G o dX1_blockFits mX1_blockFits 104 [none, none, none, none, none, none, none, none] [] S' Q) (hX1 : ∀ (x0 : Option Nat) (x1 : Option Nat) (x2 : Int32) (x3 : Int32) (x4 : Int32) (x6 : Int32) (S' : cS), X (1, x0, x1, x2, x3, x4, x6, S') → cX G o dX1_blockFits mX1_blockFits 112 [some (va_rf x0), some (va_rf x1), some (.int x2), some (.int x3), some (.int x4), none, some (.int x6), none] [] S' Q) {rec : Option Nat → Option Nat → Int32 → Int32 → Int32 → Int32 → Int32 → Int32 → cS → Nat × Option Nat × Option Nat × Int32 × Int32 × Int32 × Int32 × cS} {rok : Option Nat → Option Nat → Int32 → Int32 → Int32 → Int32 → Int32 → Int32 → cS → Prop} (hrec : ∀ (x0 : Option Nat) (x1 : Option Nat) (x2 : Int32) (x3 : Int32) (x4 : Int32) (x5 : Int32) (x6 : Int32) (x7 : Int32) (S : cS), rok x0 x1 x2 x3 x4 x5 x6 x7 S → X (rec x0 x1 x2 x3 x4 x5 x6 x7 S) → cX G o dX1_blockFits mX1_blockFits 82 [some (va_rf x0), some (va_rf x1), some (.int x2), some (.int x3), some (.int x4), some (.int x5), some (.int x6), some (.int x7)] [] S Q) {x0 : Option Nat} {x1 : Option Nat} {x2 : Int32} {x3 : Int32} {x4 : Int32} {x5 : Int32} {x6 : Int32} {x7 : Int32} (ok : OB_X1_blockFits_82 N rok x0 x1 x2 x3 x4 x5 x6 x7 S) (hx : X (B_X1_blockFits_82 N rec x0 x1 x2 x3 x4 x5 x6 x7 S)) : cX G o dX1_blockFits mX1_blockFits 82 [some (va_rf x0), some (va_rf x1), some (.int x2), some (.int x3), some (.int x4), some (.int x5), some (.int x6), some (.int x7)] [] S Q := by
  unfold OB_X1_blockFits_82 at ok
  unfold B_X1_blockFits_82 at hx
  refine c_iload dX1_blockFits_82 rfl ?_
  refine c_iload dX1_blockFits_84 rfl ?_
  refine c_icmp_ge (tgt := 112) dX1_blockFits_86 (by decide) (fun c_86 => ?_) (fun c_86 => ?_)
  · have ok := ok.1 c_86
    have hx := xif_p c_86 hx
    exact cX.cutz (hX1 _ _ _ _ _ _ S hx) ⟨rfl, rfl, rfl, rfl, rfl, rfl, trivial⟩
  · have ok := ok.2 c_86
    have hx := xif_n c_86 hx
    refine c_aload_nQ dX1_blockFits_89 rfl rfl ?_
    refine c_aload_nQ dX1_blockFits_90 rfl rfl ?_
    refine c_iload dX1_blockFits_91 rfl ?_
    refine c_iload_n dX1_blockFits_93 rfl rfl ?_
    refine c_V3iE (ci := 1) (rr := (RX1, TX1, 3)) (y' := mX1_evidenceFits) dX1_blockFits_94 lX1_80 kX1_evidenceFits ⟨by decide, by decide⟩ rfl rfl (by decide) ok.1.1 (Nat.le_of_ble_eq_true rfl) (cc_X1_evidenceFits hG ok.1.2) ?_
    have ok := ok.2
    refine c_istore_6 dX1_blockFits_97 (by decide) rfl ?_
    refine c_iload dX1_blockFits_99 rfl ?_
    refine c_if_ge (tgt := 106) dX1_blockFits_101 (by decide) (fun c_101 => ?_) (fun c_101 => ?_)
    · have ok := ok.1 c_101
      have hx := xif_p c_101 hx
      refine c_iinc_7 (v := (x7 + nI 1)) dX1_blockFits_106 rfl (by first | rfl | (congr 1)) (by decide) rfl ?_
      refine c_goto (tgt := 82) dX1_blockFits_109 (by decide) ?_
      exact cX.cutz (hrec _ _ _ _ _ _ _ _ S ok hx) ⟨rfl, rfl, rfl, rfl, rfl, rfl, rfl, rfl, trivial⟩
    · have ok := ok.2 c_101
      have hx := xif_n c_101 hx
      exact cX.cutz (hX0 _ _ _ _ _ _ S hx) trivial
def L_X1_blockFits_82 (N : Nat) : Nat → Option Nat → Option Nat → Int32 → Int32 → Int32 → Int32 → Int32 → Int32 → cS → Nat × Option Nat × Option Nat × Int32 × Int32 × Int32 × Int32 × cS
  | 0, x0, x1, x2, x3, x4, x5, x6, x7, S => (0, none, none, 0, 0, 0, 0, S)
  | n + 1, x0, x1, x2, x3, x4, x5, x6, x7, S => B_X1_blockFits_82 N (L_X1_blockFits_82 N n) x0 x1 x2 x3 x4 x5 x6 x7 S
def OL_X1_blockFits_82 (N : Nat) : Nat → Option Nat → Option Nat → Int32 → Int32 → Int32 → Int32 → Int32 → Int32 → cS → Prop
  | 0, _, _, _, _, _, _, _, _, _ => False
  | n + 1, x0, x1, x2, x3, x4, x5, x6, x7, S => OB_X1_blockFits_82 N (OL_X1_blockFits_82 N n) x0 x1 x2 x3 x4 x5 x6 x7 S
set_option maxRecDepth 100000 in
set_option maxHeartbeats 4000000 in
theorem l_X1_blockFits_82 {G : zG} {o : cO} {N : Nat} {Q : Option Value → cS → Prop} {X : Nat × Option Nat × Option Nat × Int32 × Int32 × Int32 × Int32 × cS → Prop} (hG : zOK G) (hX0 : ∀ (x0 : Option Nat) (x1 : Option Nat) (x2 : Int32) (x3 : Int32) (x4 : Int32) (x6 : Int32) (S' : cS), X (0, x0, x1, x2, x3, x4, x6, S') → cX G o dX1_blockFits mX1_blockFits 104 [none, none, none, none, none, none, none, none] [] S' Q) (hX1 : ∀ (x0 : Option Nat) (x1 : Option Nat) (x2 : Int32) (x3 : Int32) (x4 : Int32) (x6 : Int32) (S' : cS), X (1, x0, x1, x2, x3, x4, x6, S') → cX G o dX1_blockFits mX1_blockFits 112 [some (va_rf x0), some (va_rf x1), some (.int x2), some (.int x3), some (.int x4), none, some (.int x6), none] [] S' Q) : ∀ (n : Nat) (x0 : Option Nat) (x1 : Option Nat) (x2 : Int32) (x3 : Int32) (x4 : Int32) (x5 : Int32) (x6 : Int32) (x7 : Int32) (S : cS), OL_X1_blockFits_82 N n x0 x1 x2 x3 x4 x5 x6 x7 S → X (L_X1_blockFits_82 N n x0 x1 x2 x3 x4 x5 x6 x7 S) → cX G o dX1_blockFits mX1_blockFits 82 [some (va_rf x0), some (va_rf x1), some (.int x2), some (.int x3), some (.int x4), some (.int x5), some (.int x6), some (.int x7)] [] S Q := by
  intro n
  induction n with
  | zero => intro x0 x1 x2 x3 x4 x5 x6 x7 S ok; exact absurd ok id
  | succ n ih =>
    intro x0 x1 x2 x3 x4 x5 x6 x7 S ok hx
    exact bb_X1_blockFits_82 hG hX0 hX1 (rec := L_X1_blockFits_82 N n) (rok := OL_X1_blockFits_82 N n) (fun x0 x1 x2 x3 x4 x5 x6 x7 S ok hx => ih x0 x1 x2 x3 x4 x5 x6 x7 S ok hx) ok hx
def A_X1_blockFits_82 (N : Nat) (x0 : Option Nat) (x1 : Option Nat) (x2 : Int32) (x3 : Int32) (x4 : Int32) (x5 : Int32) (x6 : Int32) (x7 : Int32) (S : cS) (z : Nat × Option Nat × Option Nat × Int32 × Int32 × Int32 × Int32 × cS) : Int32 × cS := (if z.1 = 0 then (F_X1_blockFits_104 N z.2.2.2.2.2.2.2) else (F_X1_blockFits_112 N (z.2.1) (z.2.2.1) (z.2.2.2.1) (z.2.2.2.2.1) (z.2.2.2.2.2.1) (z.2.2.2.2.2.2.1) z.2.2.2.2.2.2.2))
def OA_X1_blockFits_82 (N : Nat) (x0 : Option Nat) (x1 : Option Nat) (x2 : Int32) (x3 : Int32) (x4 : Int32) (x5 : Int32) (x6 : Int32) (x7 : Int32) (S : cS) (z : Nat × Option Nat × Option Nat × Int32 × Int32 × Int32 × Int32 × cS) : Prop := (if z.1 = 0 then O_X1_blockFits_104 N z.2.2.2.2.2.2.2 else O_X1_blockFits_112 N (z.2.1) (z.2.2.1) (z.2.2.2.1) (z.2.2.2.2.1) (z.2.2.2.2.2.1) (z.2.2.2.2.2.2.1) z.2.2.2.2.2.2.2)
set_option maxRecDepth 100000 in
set_option maxHeartbeats 4000000 in
theorem c_X1_blockFits_82 {G : zG} {o : cO} {S : cS} {N : Nat} {Q : Option Value → cS → Prop} {X : Int32 × cS → Prop} (hG : zOK G) (hR : ∀ v S', X (v, S') → Q (some (.int v)) S') {x0 : Option Nat} {x1 : Option Nat} {x2 : Int32} {x3 : Int32} {x4 : Int32} {x5 : Int32} {x6 : Int32} {x7 : Int32} (ok : OL_X1_blockFits_82 N N x0 x1 x2 x3 x4 x5 x6 x7 S ∧ OA_X1_blockFits_82 N x0 x1 x2 x3 x4 x5 x6 x7 S (L_X1_blockFits_82 N N x0 x1 x2 x3 x4 x5 x6 x7 S)) (hx : X (A_X1_blockFits_82 N x0 x1 x2 x3 x4 x5 x6 x7 S (L_X1_blockFits_82 N N x0 x1 x2 x3 x4 x5 x6 x7 S))) : cX G o dX1_blockFits mX1_blockFits 82 [some (va_rf x0), some (va_rf x1), some (.int x2), some (.int x3), some (.int x4), some (.int x5), some (.int x6), some (.int x7)] [] S Q := by
  refine l_X1_blockFits_82 hG ?_ ?_ N x0 x1 x2 x3 x4 x5 x6 x7 S ok.1 (X := fun z => OA_X1_blockFits_82 N x0 x1 x2 x3 x4 x5 x6 x7 S z ∧ X (A_X1_blockFits_82 N x0 x1 x2 x3 x4 x5 x6 x7 S z)) ⟨ok.2, hx⟩
  · intro x0' x1' x2' x3' x4' x6' S' hz
    obtain ⟨ok, hx⟩ := hz
    unfold OA_X1_blockFits_82 at ok
    unfold A_X1_blockFits_82 at hx
    have ok := xif_P (show (0 : Nat) = 0 from rfl) ok
    have hx := xif_p (show (0 : Nat) = 0 from rfl) hx
    exact cX.cutz (b_X1_blockFits_104 hG hR ok hx) trivial
  · intro x0' x1' x2' x3' x4' x6' S' hz
    obtain ⟨ok, hx⟩ := hz
    unfold OA_X1_blockFits_82 at ok
    unfold A_X1_blockFits_82 at hx
    have ok := xif_N (show ¬ (1 : Nat) = 0 by decide) ok
    have hx := xif_n (show ¬ (1 : Nat) = 0 by decide) hx
    exact cX.cutz (b_X1_blockFits_112 hG hR ok hx) ⟨rfl, rfl, rfl, rfl, rfl, rfl, trivial⟩
def F_X1_blockFits_71 (N : Nat)  (S : cS) : Int32 × cS := ((nI 0), S)
def O_X1_blockFits_71 (N : Nat)  (S : cS) : Prop := True
set_option maxRecDepth 100000 in
set_option maxHeartbeats 4000000 in
theorem b_X1_blockFits_71 {G : zG} {o : cO} {S : cS} {N : Nat} {Q : Option Value → cS → Prop} {X : Int32 × cS → Prop} (hG : zOK G) (hR : ∀ v S', X (v, S') → Q (some (.int v)) S') (ok : O_X1_blockFits_71 N S) (hx : X (F_X1_blockFits_71 N S)) : cX G o dX1_blockFits mX1_blockFits 71 [none, none, none, none, none, none, none, none] [] S Q := by
  unfold O_X1_blockFits_71 at ok
  unfold F_X1_blockFits_71 at hx
  refine c_iconst (v := nI 0) dX1_blockFits_71 (by decide) ?_
  exact c_ireturn rfl rfl dX1_blockFits_72 (hR _ _ hx)
def F_X1_blockFits_32 (N : Nat)  (S : cS) : Int32 × cS := ((nI 0), S)
def O_X1_blockFits_32 (N : Nat)  (S : cS) : Prop := True
set_option maxRecDepth 100000 in
set_option maxHeartbeats 4000000 in
theorem b_X1_blockFits_32 {G : zG} {o : cO} {S : cS} {N : Nat} {Q : Option Value → cS → Prop} {X : Int32 × cS → Prop} (hG : zOK G) (hR : ∀ v S', X (v, S') → Q (some (.int v)) S') (ok : O_X1_blockFits_32 N S) (hx : X (F_X1_blockFits_32 N S)) : cX G o dX1_blockFits mX1_blockFits 32 [none, none, none, none, none, none, none, none] [] S Q := by
  unfold O_X1_blockFits_32 at ok
  unfold F_X1_blockFits_32 at hx
  refine c_iconst (v := nI 0) dX1_blockFits_32 (by decide) ?_
  exact c_ireturn rfl rfl dX1_blockFits_33 (hR _ _ hx)
def F_X1_blockFits_0 (N : Nat) (x0 : Option Nat) (x1 : Option Nat) (x2 : Int32) (x3 : Int32) (S : cS) : Int32 × cS := (if (x3 - x2) < (nI 101) then (F_X1_blockFits_32 N S) else (if (f_X1_heightFits N S x1 x2) = 0 then (F_X1_blockFits_32 N S) else (if ((cA S (za x1) (x2 + (nI 2)).toNatClampNeg) &&& (nI 255)) < (cI S 1 (za x0)) then (if (nI 64) < ((cA S (za x1) (x2 + (nI 99)).toNatClampNeg) &&& (nI 255)) then (F_X1_blockFits_71 N S) else (if ((cA S (za x1) (x2 + (nI 100)).toNatClampNeg) &&& (nI 255)) ≤ (nI 2) then (A_X1_blockFits_82 N x0 x1 x2 x3 ((cA S (za x1) (x2 + (nI 99)).toNatClampNeg) &&& (nI 255)) ((cA S (za x1) (x2 + (nI 100)).toNatClampNeg) &&& (nI 255)) (x2 + (nI 101)) (nI 0) S (L_X1_blockFits_82 N N x0 x1 x2 x3 ((cA S (za x1) (x2 + (nI 99)).toNatClampNeg) &&& (nI 255)) ((cA S (za x1) (x2 + (nI 100)).toNatClampNeg) &&& (nI 255)) (x2 + (nI 101)) (nI 0) S)) else (F_X1_blockFits_71 N S))) else (F_X1_blockFits_32 N S))))
def O_X1_blockFits_0 (N : Nat) (x0 : Option Nat) (x1 : Option Nat) (x2 : Int32) (x3 : Int32) (S : cS) : Prop := (((x3 - x2) < (nI 101) → O_X1_blockFits_32 N S) ∧ (¬ (x3 - x2) < (nI 101) → (o_X1_heightFits N S x1 x2) ∧ (((f_X1_heightFits N S x1 x2) = 0 → O_X1_blockFits_32 N S) ∧ (¬ (f_X1_heightFits N S x1 x2) = 0 → (cis S x1 20 ∧ vp_in (x2 + (nI 2)) (cL S (za x1))) ∧ (cis S x0 2) ∧ ((((cA S (za x1) (x2 + (nI 2)).toNatClampNeg) &&& (nI 255)) < (cI S 1 (za x0)) → (cis S x1 20 ∧ vp_in (x2 + (nI 99)) (cL S (za x1))) ∧ (cis S x1 20 ∧ vp_in (x2 + (nI 100)) (cL S (za x1))) ∧ (((nI 64) < ((cA S (za x1) (x2 + (nI 99)).toNatClampNeg) &&& (nI 255)) → O_X1_blockFits_71 N S) ∧ (¬ (nI 64) < ((cA S (za x1) (x2 + (nI 99)).toNatClampNeg) &&& (nI 255)) → ((((cA S (za x1) (x2 + (nI 100)).toNatClampNeg) &&& (nI 255)) ≤ (nI 2) → (OL_X1_blockFits_82 N N x0 x1 x2 x3 ((cA S (za x1) (x2 + (nI 99)).toNatClampNeg) &&& (nI 255)) ((cA S (za x1) (x2 + (nI 100)).toNatClampNeg) &&& (nI 255)) (x2 + (nI 101)) (nI 0) S ∧ OA_X1_blockFits_82 N x0 x1 x2 x3 ((cA S (za x1) (x2 + (nI 99)).toNatClampNeg) &&& (nI 255)) ((cA S (za x1) (x2 + (nI 100)).toNatClampNeg) &&& (nI 255)) (x2 + (nI 101)) (nI 0) S (L_X1_blockFits_82 N N x0 x1 x2 x3 ((cA S (za x1) (x2 + (nI 99)).toNatClampNeg) &&& (nI 255)) ((cA S (za x1) (x2 + (nI 100)).toNatClampNeg) &&& (nI 255)) (x2 + (nI 101)) (nI 0) S))) ∧ (¬ ((cA S (za x1) (x2 + (nI 100)).toNatClampNeg) &&& (nI 255)) ≤ (nI 2) → O_X1_blockFits_71 N S))))) ∧ (¬ ((cA S (za x1) (x2 + (nI 2)).toNatClampNeg) &&& (nI 255)) < (cI S 1 (za x0)) → O_X1_blockFits_32 N S))))))
set_option maxRecDepth 100000 in
set_option maxHeartbeats 4000000 in
theorem b_X1_blockFits_0 {G : zG} {o : cO} {S : cS} {N : Nat} {Q : Option Value → cS → Prop} {X : Int32 × cS → Prop} (hG : zOK G) (hR : ∀ v S', X (v, S') → Q (some (.int v)) S') {x0 : Option Nat} {x1 : Option Nat} {x2 : Int32} {x3 : Int32} (ok : O_X1_blockFits_0 N x0 x1 x2 x3 S) (hx : X (F_X1_blockFits_0 N x0 x1 x2 x3 S)) : cX G o dX1_blockFits mX1_blockFits 0 [some (va_rf x0), some (va_rf x1), some (.int x2), some (.int x3), none, none, none, none] [] S Q := by
  unfold O_X1_blockFits_0 at ok
  unfold F_X1_blockFits_0 at hx
  refine c_iload_n dX1_blockFits_0 rfl rfl ?_
  refine c_iload_n dX1_blockFits_1 rfl rfl ?_
  refine c_isub dX1_blockFits_2 ?_
  refine c_bipush (v := nI 101) dX1_blockFits_3 (by decide) ?_
  refine c_icmp_lt (tgt := 32) dX1_blockFits_5 (by decide) (fun c_5 => ?_) (fun c_5 => ?_)
  · have ok := ok.1 c_5
    have hx := xif_p c_5 hx
    exact cX.cutz (b_X1_blockFits_32 hG hR ok hx) trivial
  · have ok := ok.2 c_5
    have hx := xif_n c_5 hx
    refine c_aload_nQ dX1_blockFits_8 rfl rfl ?_
    refine c_iload_n dX1_blockFits_9 rfl rfl ?_
    refine c_S2iE (y' := mX1_heightFits) dX1_blockFits_10 lX1_77 kX1_heightFits ⟨by decide, by decide⟩ (Nat.le_of_ble_eq_true rfl) (cc_X1_heightFits hG ok.1) ?_
    have ok := ok.2
    refine c_if_eq (tgt := 32) dX1_blockFits_13 (by decide) (fun c_13 => ?_) (fun c_13 => ?_)
    · have ok := ok.1 c_13
      have hx := xif_p c_13 hx
      exact cX.cutz (b_X1_blockFits_32 hG hR ok hx) trivial
    · have ok := ok.2 c_13
      have hx := xif_n c_13 hx
      refine c_aload_nQ dX1_blockFits_16 rfl rfl ?_
      refine c_iload_n dX1_blockFits_17 rfl rfl ?_
      refine c_iconst (v := nI 2) dX1_blockFits_18 (by decide) ?_
      refine c_iadd dX1_blockFits_19 ?_
      refine c_bald dX1_blockFits_20 ok.1 ?_
      have ok := ok.2
      refine c_sipush (v := nI 255) dX1_blockFits_21 (by decide) ?_
      refine c_iand dX1_blockFits_24 ?_
      refine c_aload_nQ dX1_blockFits_25 rfl rfl ?_
      refine c_getI (C := RX1) (T := TX1) (N := 3) (ci := 1) (k := 1) ⟨rfl, inT1, by decide, fX1_19⟩ (by decide) (by decide) (by decide) dX1_blockFits_26 ok.1 ?_
      have ok := ok.2
      refine c_icmp_lt (tgt := 34) dX1_blockFits_29 (by decide) (fun c_29 => ?_) (fun c_29 => ?_)
      · have ok := ok.1 c_29
        have hx := xif_p c_29 hx
        refine c_aload_nQ dX1_blockFits_34 rfl rfl ?_
        refine c_iload_n dX1_blockFits_35 rfl rfl ?_
        refine c_bipush (v := nI 99) dX1_blockFits_36 (by decide) ?_
        refine c_iadd dX1_blockFits_38 ?_
        refine c_bald dX1_blockFits_39 ok.1 ?_
        have ok := ok.2
        refine c_sipush (v := nI 255) dX1_blockFits_40 (by decide) ?_
        refine c_iand dX1_blockFits_43 ?_
        refine c_istore_4 dX1_blockFits_44 (by decide) rfl ?_
        refine c_aload_nQ dX1_blockFits_46 rfl rfl ?_
        refine c_iload_n dX1_blockFits_47 rfl rfl ?_
        refine c_bipush (v := nI 100) dX1_blockFits_48 (by decide) ?_
        refine c_iadd dX1_blockFits_50 ?_
        refine c_bald dX1_blockFits_51 ok.1 ?_
        have ok := ok.2
        refine c_sipush (v := nI 255) dX1_blockFits_52 (by decide) ?_
        refine c_iand dX1_blockFits_55 ?_
        refine c_istore_5 dX1_blockFits_56 (by decide) rfl ?_
        refine c_iload dX1_blockFits_58 rfl ?_
        refine c_bipush (v := nI 64) dX1_blockFits_60 (by decide) ?_
        refine c_icmp_gt (tgt := 71) dX1_blockFits_62 (by decide) (fun c_62 => ?_) (fun c_62 => ?_)
        · have ok := ok.1 c_62
          have hx := xif_p c_62 hx
          exact cX.cutz (b_X1_blockFits_71 hG hR ok hx) trivial
        · have ok := ok.2 c_62
          have hx := xif_n c_62 hx
          refine c_iload dX1_blockFits_65 rfl ?_
          refine c_iconst (v := nI 2) dX1_blockFits_67 (by decide) ?_
          refine c_icmp_le (tgt := 73) dX1_blockFits_68 (by decide) (fun c_68 => ?_) (fun c_68 => ?_)
          · have ok := ok.1 c_68
            have hx := xif_p c_68 hx
            refine c_iload_n dX1_blockFits_73 rfl rfl ?_
            refine c_bipush (v := nI 101) dX1_blockFits_74 (by decide) ?_
            refine c_iadd dX1_blockFits_76 ?_
            refine c_istore_6 dX1_blockFits_77 (by decide) rfl ?_
            refine c_iconst (v := nI 0) dX1_blockFits_79 (by decide) ?_
            refine c_istore_7 dX1_blockFits_80 (by decide) rfl ?_
            exact cX.cutz (c_X1_blockFits_82 hG hR ok hx) ⟨rfl, rfl, rfl, rfl, rfl, rfl, rfl, rfl, trivial⟩
          · have ok := ok.2 c_68
            have hx := xif_n c_68 hx
            exact cX.cutz (b_X1_blockFits_71 hG hR ok hx) trivial
      · have ok := ok.2 c_29
        have hx := xif_n c_29 hx
        exact cX.cutz (b_X1_blockFits_32 hG hR ok hx) trivial
def f_X1_blockFits (N : Nat) (S : cS) (a0 : Nat) (x1 : Option Nat) (x2 : Int32) (x3 : Int32) : Int32 × cS := F_X1_blockFits_0 N (some a0) x1 x2 x3 S
def o_X1_blockFits (N : Nat) (S : cS) (a0 : Nat) (x1 : Option Nat) (x2 : Int32) (x3 : Int32) : Prop := O_X1_blockFits_0 N (some a0) x1 x2 x3 S
set_option maxRecDepth 100000 in
set_option maxHeartbeats 4000000 in
theorem cc_X1_blockFits {G : zG} {o : cO} {S : cS} {N : Nat} (hG : zOK G) {a0 : Nat} {x1 : Option Nat} {x2 : Int32} {x3 : Int32} (ok : o_X1_blockFits N S a0 x1 x2 x3) : cCi G o dX1_blockFits mX1_blockFits [.ref a0, va_rf x1, .int x2, .int x3] S (fun v S' => v = (f_X1_blockFits N S a0 x1 x2 x3).1 ∧ S' = (f_X1_blockFits N S a0 x1 x2 x3).2) := by
  refine cC.ofX rfl (by cases x1 <;> exact Nat.le_of_ble_eq_true rfl) ?_
  rw [show zargs mX1_blockFits.2.2.1 [.ref a0, va_rf x1, .int x2, .int x3] = [some (.ref a0), some (va_rf x1), some (.int x2), some (.int x3), none, none, none, none] from by cases x1 <;> rfl]
  exact cX.cutz (b_X1_blockFits_0 (X := fun F => F = f_X1_blockFits N S a0 x1 x2 x3) hG (fun v S' h => ⟨v, rfl, by rw [← h], by rw [← h]⟩) ok rfl) ⟨rfl, rfl, rfl, rfl, trivial⟩

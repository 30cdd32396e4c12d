/-! X1_isLess -/
def KF_X1_isLess_54 (N g H T : Nat)  (S : cS) : Int32 := (nI 0)
def KO_X1_isLess_54 (N g H T : Nat)  (S : cS) : Prop := True
set_option maxRecDepth 100000 in
set_option maxHeartbeats 4000000 in
theorem kb_X1_isLess_54 {G : zG} {o : cO} {u g H T N : Nat} {S : cS} {Q : Option Value → cS → Prop} {X : Int32 → Prop} (hG : zOK G) (hR : ∀ v, X v → Q (some (.int v)) S) (hS : St u g H T S) (ok : KO_X1_isLess_54 N g H T S) (hx : X (KF_X1_isLess_54 N g H T S)) : cX G o dX1_isLess mX1_isLess 54 [none, none, none, none] [] S Q := by
  unfold KO_X1_isLess_54 at ok
  unfold KF_X1_isLess_54 at hx
  refine c_iconst (v := nI 0) dX1_isLess_54 (by decide) ?_
  exact c_ireturn rfl rfl dX1_isLess_55 (hR _ hx)
def KF_X1_isLess_47 (N g H T : Nat) (s0 : Int32) (S : cS) : Int32 := s0
def KO_X1_isLess_47 (N g H T : Nat) (s0 : Int32) (S : cS) : Prop := narrow .boolean (.int s0) = .int s0
set_option maxRecDepth 100000 in
set_option maxHeartbeats 4000000 in
theorem kb_X1_isLess_47 {G : zG} {o : cO} {u g H T N : Nat} {S : cS} {Q : Option Value → cS → Prop} {X : Int32 → Prop} (hG : zOK G) (hR : ∀ v, X v → Q (some (.int v)) S) {s0 : Int32} (hS : St u g H T S) (ok : KO_X1_isLess_47 N g H T s0 S) (hx : X (KF_X1_isLess_47 N g H T s0 S)) : cX G o dX1_isLess mX1_isLess 47 [none, none, none, none] [.int s0] S Q := by
  unfold KO_X1_isLess_47 at ok
  unfold KF_X1_isLess_47 at hx
  exact c_ireturn rfl ok dX1_isLess_47 (hR _ hx)
def KF_X1_isLess_21 (N g H T : Nat) (x0 : Option Nat) (x1 : Int32) (x2 : Int32) (x3 : Int32) (S : cS) : Int32 := (if ((cA S (za x0) (x2 + x3).toNatClampNeg) &&& (nI 255)) ≤ ((cA S (za x0) (x1 + x3).toNatClampNeg) &&& (nI 255)) then (KF_X1_isLess_47 N g H T (nI 0) S) else (KF_X1_isLess_47 N g H T (nI 1) S))
def KO_X1_isLess_21 (N g H T : Nat) (x0 : Option Nat) (x1 : Int32) (x2 : Int32) (x3 : Int32) (S : cS) : Prop := (¬ x0 = none ∧ vp_in (x1 + x3) (cL S (za x0))) ∧ (¬ x0 = none ∧ vp_in (x2 + x3) (cL S (za x0))) ∧ ((((cA S (za x0) (x2 + x3).toNatClampNeg) &&& (nI 255)) ≤ ((cA S (za x0) (x1 + x3).toNatClampNeg) &&& (nI 255)) → KO_X1_isLess_47 N g H T (nI 0) S) ∧ (¬ ((cA S (za x0) (x2 + x3).toNatClampNeg) &&& (nI 255)) ≤ ((cA S (za x0) (x1 + x3).toNatClampNeg) &&& (nI 255)) → KO_X1_isLess_47 N g H T (nI 1) S))
set_option maxRecDepth 100000 in
set_option maxHeartbeats 4000000 in
theorem kb_X1_isLess_21 {G : zG} {o : cO} {u g H T N : Nat} {S : cS} {Q : Option Value → cS → Prop} {X : Int32 → Prop} (hG : zOK G) (hR : ∀ v, X v → Q (some (.int v)) S) {x0 : Option Nat} {x1 : Int32} {x2 : Int32} {x3 : Int32} (hS : St u g H T S) (t_x0 : tK S 20 x0) (ok : KO_X1_isLess_21 N g H T x0 x1 x2 x3 S) (hx : X (KF_X1_isLess_21 N g H T x0 x1 x2 x3 S)) : cX G o dX1_isLess mX1_isLess 21 [some (va_rf x0), some (.int x1), some (.int x2), some (.int x3)] [] S Q := by
  unfold KO_X1_isLess_21 at ok
  unfold KF_X1_isLess_21 at hx
  refine c_aload_nQ dX1_isLess_21 rfl rfl ?_
  refine c_iload_n dX1_isLess_22 rfl rfl ?_
  refine c_iload_n dX1_isLess_23 rfl rfl ?_
  refine c_iadd dX1_isLess_24 ?_
  refine c_bald dX1_isLess_25 ⟨(tK.cis t_x0 ok.1.1), ok.1.2⟩ ?_
  have ok := ok.2
  refine c_sipush (v := nI 255) dX1_isLess_26 (by decide) ?_
  refine c_iand dX1_isLess_29 ?_
  refine c_aload_nQ dX1_isLess_30 rfl rfl ?_
  refine c_iload_n dX1_isLess_31 rfl rfl ?_
  refine c_iload_n dX1_isLess_32 rfl rfl ?_
  refine c_iadd dX1_isLess_33 ?_
  refine c_bald dX1_isLess_34 ⟨(tK.cis t_x0 ok.1.1), ok.1.2⟩ ?_
  have ok := ok.2
  refine c_sipush (v := nI 255) dX1_isLess_35 (by decide) ?_
  refine c_iand dX1_isLess_38 ?_
  refine c_icmp_ge (tgt := 46) dX1_isLess_39 (by decide) (fun c_39 => ?_) (fun c_39 => ?_)
  · have ok := ok.1 c_39
    have hx := xif_p c_39 hx
    refine c_iconst (v := nI 0) dX1_isLess_46 (by decide) ?_
    exact cX.cutz (kb_X1_isLess_47 hG hR hS  ok hx) trivial
  · have ok := ok.2 c_39
    have hx := xif_n c_39 hx
    refine c_iconst (v := nI 1) dX1_isLess_42 (by decide) ?_
    refine c_goto (tgt := 47) dX1_isLess_43 (by decide) ?_
    exact cX.cutz (kb_X1_isLess_47 hG hR hS  ok hx) trivial
def KB_X1_isLess_2 (N g H T : Nat) (rec : Option Nat → Int32 → Int32 → Int32 → Nat × Option Nat × Int32 × Int32 × Int32 × Unit) (x0 : Option Nat) (x1 : Int32) (x2 : Int32) (x3 : Int32) (S : cS) : Nat × Option Nat × Int32 × Int32 × Int32 × Unit := (if (nI 32) ≤ x3 then (1, none, 0, 0, 0, ()) else (if (cA S (za x0) (x1 + x3).toNatClampNeg) = (cA S (za x0) (x2 + x3).toNatClampNeg) then (rec x0 x1 x2 (x3 + nI 1)) else (0, x0, x1, x2, x3, ())))
def KOB_X1_isLess_2 (N g H T : Nat) (rok : Option Nat → Int32 → Int32 → Int32 → Prop) (x0 : Option Nat) (x1 : Int32) (x2 : Int32) (x3 : Int32) (S : cS) : Prop := (((nI 32) ≤ x3 → True) ∧ (¬ (nI 32) ≤ x3 → (¬ x0 = none ∧ vp_in (x1 + x3) (cL S (za x0))) ∧ (¬ x0 = none ∧ vp_in (x2 + x3) (cL S (za x0))) ∧ (((cA S (za x0) (x1 + x3).toNatClampNeg) = (cA S (za x0) (x2 + x3).toNatClampNeg) → rok x0 x1 x2 (x3 + nI 1)) ∧ (¬ (cA S (za x0) (x1 + x3).toNatClampNeg) = (cA S (za x0) (x2 + x3).toNatClampNeg) → True))))
set_option maxRecDepth 100000 in
set_option maxHeartbeats 4000000 in
theorem kbb_X1_isLess_2 {G : zG} {o : cO} {u g H T N : Nat} {S : cS} {Q : Option Value → cS → Prop} {X : Nat × Option Nat × Int32 × Int32 × Int32 × Unit → Prop} (hG : zOK G) (hX0 : ∀ (x0 : Option Nat) (x1 : Int32) (x2 : Int32) (x3 : Int32) , tK S 20 x0 → X (0, x0, x1, x2, x3, ()) → cX G o dX1_isLess mX1_isLess 21 [some (va_rf x0), some (.int x1), some (.int x2), some (.int x3)] [] S Q) (hX1 : ∀ (x0 : Option Nat) (x1 : Int32) (x2 : Int32) (x3 : Int32) , X (1, x0, x1, x2, x3, ()) → cX G o dX1_isLess mX1_isLess 54 [none, none, none, none] [] S Q) {rec : Option Nat → Int32 → Int32 → Int32 → Nat × Option Nat × Int32 × Int32 × Int32 × Unit} {rok : Option Nat → Int32 → Int32 → Int32 → Prop} (hrec : ∀ (x0 : Option Nat) (x1 : Int32) (x2 : Int32) (x3 : Int32), tK S 20 x0 → rok x0 x1 x2 x3 → X (rec x0 x1 x2 x3) → cX G o dX1_isLess mX1_isLess 2 [some (va_rf x0), some (.int x1), some (.int x2), some (.int x3)] [] S Q) {x0 : Option Nat} {x1 : Int32} {x2 : Int32} {x3 : Int32} (hS : St u g H T S) (t_x0 : tK S 20 x0) (ok : KOB_X1_isLess_2 N g H T rok x0 x1 x2 x3 S) (hx : X (KB_X1_isLess_2 N g H T rec x0 x1 x2 x3 S)) : cX G o dX1_isLess mX1_isLess 2 [some (va_rf x0), some (.int x1), some (.int x2), some (.int x3)] [] S Q := by
  unfold KOB_X1_isLess_2 at ok
  unfold KB_X1_isLess_2 at hx
  refine c_iload_n dX1_isLess_2 rfl rfl ?_
  refine c_bipush (v := nI 32) dX1_isLess_3 (by decide) ?_
  refine c_icmp_ge (tgt := 54) dX1_isLess_5 (by decide) (fun c_5 => ?_) (fun c_5 => ?_)
  · have ok := ok.1 c_5
    have hx := xif_p c_5 hx
    exact cX.cutz (hX1 _ _ _ _   hx) trivial
  · have ok := ok.2 c_5
    have hx := xif_n c_5 hx
    refine c_aload_nQ dX1_isLess_8 rfl rfl ?_
    refine c_iload_n dX1_isLess_9 rfl rfl ?_
    refine c_iload_n dX1_isLess_10 rfl rfl ?_
    refine c_iadd dX1_isLess_11 ?_
    refine c_bald dX1_isLess_12 ⟨(tK.cis t_x0 ok.1.1), ok.1.2⟩ ?_
    have ok := ok.2
    refine c_aload_nQ dX1_isLess_13 rfl rfl ?_
    refine c_iload_n dX1_isLess_14 rfl rfl ?_
    refine c_iload_n dX1_isLess_15 rfl rfl ?_
    refine c_iadd dX1_isLess_16 ?_
    refine c_bald dX1_isLess_17 ⟨(tK.cis t_x0 ok.1.1), ok.1.2⟩ ?_
    have ok := ok.2
    refine c_icmp_eq (tgt := 48) dX1_isLess_18 (by decide) (fun c_18 => ?_) (fun c_18 => ?_)
    · have ok := ok.1 c_18
      have hx := xif_p c_18 hx
      refine c_iinc_3 (v := (x3 + nI 1)) dX1_isLess_48 rfl (by first | rfl | (congr 1)) (by decide) rfl ?_
      refine c_goto (tgt := 2) dX1_isLess_51 (by decide) ?_
      exact cX.cutz (hrec _ _ _ _ t_x0 ok hx) ⟨rfl, rfl, rfl, rfl, trivial⟩
    · have ok := ok.2 c_18
      have hx := xif_n c_18 hx
      exact cX.cutz (hX0 _ _ _ _  t_x0 hx) ⟨rfl, rfl, rfl, rfl, trivial⟩
def KL_X1_isLess_2 (N g H T : Nat) : Nat → Option Nat → Int32 → Int32 → Int32 → cS → Nat × Option Nat × Int32 × Int32 × Int32 × Unit
  | 0, x0, x1, x2, x3, S => (0, none, 0, 0, 0, ())
  | n + 1, x0, x1, x2, x3, S => KB_X1_isLess_2 N g H T (fun x0 x1 x2 x3 => KL_X1_isLess_2 N g H T n x0 x1 x2 x3 S) x0 x1 x2 x3 S
def KOL_X1_isLess_2 (N g H T : Nat) : Nat → Option Nat → Int32 → Int32 → Int32 → cS → Prop
  | 0, _, _, _, _, _ => False
  | n + 1, x0, x1, x2, x3, S => KOB_X1_isLess_2 N g H T (fun x0 x1 x2 x3 => KOL_X1_isLess_2 N g H T n x0 x1 x2 x3 S) x0 x1 x2 x3 S
set_option maxRecDepth 100000 in
set_option maxHeartbeats 4000000 in
theorem kl_X1_isLess_2 {G : zG} {o : cO} {u g H T N : Nat} {S : cS} {Q : Option Value → cS → Prop} {X : Nat × Option Nat × Int32 × Int32 × Int32 × Unit → Prop} (hG : zOK G) (hX0 : ∀ (x0 : Option Nat) (x1 : Int32) (x2 : Int32) (x3 : Int32) , tK S 20 x0 → X (0, x0, x1, x2, x3, ()) → cX G o dX1_isLess mX1_isLess 21 [some (va_rf x0), some (.int x1), some (.int x2), some (.int x3)] [] S Q) (hX1 : ∀ (x0 : Option Nat) (x1 : Int32) (x2 : Int32) (x3 : Int32) , X (1, x0, x1, x2, x3, ()) → cX G o dX1_isLess mX1_isLess 54 [none, none, none, none] [] S Q) (hS : St u g H T S) : ∀ (n : Nat) (x0 : Option Nat) (x1 : Int32) (x2 : Int32) (x3 : Int32) , tK S 20 x0 → KOL_X1_isLess_2 N g H T n x0 x1 x2 x3 S → X (KL_X1_isLess_2 N g H T n x0 x1 x2 x3 S) → cX G o dX1_isLess mX1_isLess 2 [some (va_rf x0), some (.int x1), some (.int x2), some (.int x3)] [] S Q := by
  intro n
  induction n with
  | zero => intro x0 x1 x2 x3 t_x0 ok; exact absurd ok id
  | succ n ih =>
    intro x0 x1 x2 x3 t_x0 ok hx
    exact kbb_X1_isLess_2 hG hX0 hX1 (rec := fun x0 x1 x2 x3 => KL_X1_isLess_2 N g H T n x0 x1 x2 x3 S) (rok := fun x0 x1 x2 x3 => KOL_X1_isLess_2 N g H T n x0 x1 x2 x3 S) (fun x0 x1 x2 x3 t_x0 ok hx => ih x0 x1 x2 x3 t_x0 ok hx) hS t_x0 ok hx
def KA_X1_isLess_2 (N g H T : Nat) (x0 : Option Nat) (x1 : Int32) (x2 : Int32) (x3 : Int32) (S : cS) (z : Nat × Option Nat × Int32 × Int32 × Int32 × Unit) : Int32 := (if z.1 = 0 then (KF_X1_isLess_21 N g H T (z.2.1) (z.2.2.1) (z.2.2.2.1) (z.2.2.2.2.1) S) else (KF_X1_isLess_54 N g H T S))
def KOA_X1_isLess_2 (N g H T : Nat) (x0 : Option Nat) (x1 : Int32) (x2 : Int32) (x3 : Int32) (S : cS) (z : Nat × Option Nat × Int32 × Int32 × Int32 × Unit) : Prop := (if z.1 = 0 then KO_X1_isLess_21 N g H T (z.2.1) (z.2.2.1) (z.2.2.2.1) (z.2.2.2.2.1) S else KO_X1_isLess_54 N g H T S)
set_option maxRecDepth 100000 in
set_option maxHeartbeats 4000000 in
theorem kd_X1_isLess_2 {G : zG} {o : cO} {u g H T N : Nat} {S : cS} {Q : Option Value → cS → Prop} {X : Int32 → Prop} (hG : zOK G) (hR : ∀ v, X v → Q (some (.int v)) S) {x0 : Option Nat} {x1 : Int32} {x2 : Int32} {x3 : Int32} (hS : St u g H T S) (t_x0 : tK S 20 x0) (ok : KOL_X1_isLess_2 N g H T N x0 x1 x2 x3 S ∧ KOA_X1_isLess_2 N g H T x0 x1 x2 x3 S (KL_X1_isLess_2 N g H T N x0 x1 x2 x3 S)) (hx : X (KA_X1_isLess_2 N g H T x0 x1 x2 x3 S (KL_X1_isLess_2 N g H T N x0 x1 x2 x3 S))) : cX G o dX1_isLess mX1_isLess 2 [some (va_rf x0), some (.int x1), some (.int x2), some (.int x3)] [] S Q := by
  refine kl_X1_isLess_2 hG ?_ ?_ hS N x0 x1 x2 x3 t_x0 ok.1 (X := fun z => KOA_X1_isLess_2 N g H T x0 x1 x2 x3 S z ∧ X (KA_X1_isLess_2 N g H T x0 x1 x2 x3 S z)) ⟨ok.2, hx⟩
  · intro x0' x1' x2' x3' t_x0 hz
    obtain ⟨ok, hx⟩ := hz
    unfold KOA_X1_isLess_2 at ok
    unfold KA_X1_isLess_2 at hx
    have ok := xif_P (show (0 : Nat) = 0 from rfl) ok
    have hx := xif_p (show (0 : Nat) = 0 from rfl) hx
    exact cX.cutz (kb_X1_isLess_21 hG hR hS t_x0 ok hx) ⟨rfl, rfl, rfl, rfl, trivial⟩
  · intro x0' x1' x2' x3' hz
    obtain ⟨ok, hx⟩ := hz
    unfold KOA_X1_isLess_2 at ok
    unfold KA_X1_isLess_2 at hx
    have ok := xif_N (show ¬ (1 : Nat) = 0 by decide) ok
    have hx := xif_n (show ¬ (1 : Nat) = 0 by decide) hx
    exact cX.cutz (kb_X1_isLess_54 hG hR hS  ok hx) trivial
def KF_X1_isLess_0 (N g H T : Nat) (x0 : Option Nat) (x1 : Int32) (x2 : Int32) (S : cS) : Int32 := (KA_X1_isLess_2 N g H T x0 x1 x2 (nI 0) S (KL_X1_isLess_2 N g H T N x0 x1 x2 (nI 0) S))
def KO_X1_isLess_0 (N g H T : Nat) (x0 : Option Nat) (x1 : Int32) (x2 : Int32) (S : cS) : Prop := (KOL_X1_isLess_2 N g H T N x0 x1 x2 (nI 0) S ∧ KOA_X1_isLess_2 N g H T x0 x1 x2 (nI 0) S (KL_X1_isLess_2 N g H T N x0 x1 x2 (nI 0) S))
set_option maxRecDepth 100000 in
set_option maxHeartbeats 4000000 in
theorem kb_X1_isLess_0 {G : zG} {o : cO} {u g H T N : Nat} {S : cS} {Q : Option Value → cS → Prop} {X : Int32 → Prop} (hG : zOK G) (hR : ∀ v, X v → Q (some (.int v)) S) {x0 : Option Nat} {x1 : Int32} {x2 : Int32} (hS : St u g H T S) (t_x0 : tK S 20 x0) (ok : KO_X1_isLess_0 N g H T x0 x1 x2 S) (hx : X (KF_X1_isLess_0 N g H T x0 x1 x2 S)) : cX G o dX1_isLess mX1_isLess 0 [some (va_rf x0), some (.int x1), some (.int x2), none] [] S Q := by
  unfold KO_X1_isLess_0 at ok
  unfold KF_X1_isLess_0 at hx
  refine c_iconst (v := nI 0) dX1_isLess_0 (by decide) ?_
  refine c_istore_3 dX1_isLess_1 (by decide) rfl ?_
  exact cX.cutz (kd_X1_isLess_2 hG hR hS t_x0 ok hx) ⟨rfl, rfl, rfl, rfl, trivial⟩
def k_X1_isLess (N g H T : Nat) (S : cS) (x0 : Option Nat) (x1 : Int32) (x2 : Int32) : Int32 := KF_X1_isLess_0 N g H T x0 x1 x2 S
def p_X1_isLess (N g H T : Nat) (S : cS) (x0 : Option Nat) (x1 : Int32) (x2 : Int32) : Prop := KO_X1_isLess_0 N g H T x0 x1 x2 S
set_option maxRecDepth 100000 in
set_option maxHeartbeats 4000000 in
theorem kc_X1_isLess {G : zG} {o : cO} {u g H T N : Nat} {S : cS} (hG : zOK G) {x0 : Option Nat} {x1 : Int32} {x2 : Int32} (hS : St u g H T S) (t_x0 : tK S 20 x0) (ok : p_X1_isLess N g H T S x0 x1 x2) : cCi G o dX1_isLess mX1_isLess [va_rf x0, .int x1, .int x2] S (fun v S' => (v = k_X1_isLess N g H T S x0 x1 x2 ∧ S' = S)) := by
  refine cC.ofX rfl (by cases x0 <;> exact Nat.le_of_ble_eq_true rfl) ?_
  rw [show zargs mX1_isLess.2.2.1 [va_rf x0, .int x1, .int x2] = [some (va_rf x0), some (.int x1), some (.int x2), none] from by cases x0 <;> rfl]
  exact cX.cutz (kb_X1_isLess_0 (X := fun F => F = k_X1_isLess N g H T S x0 x1 x2) hG (fun v h => ⟨v, rfl, h, rfl⟩) hS t_x0 ok rfl) ⟨rfl, rfl, rfl, trivial⟩
/-! X1_evidenceFits -/
def KF_X1_evidenceFits_127 (N g H T : Nat) (s0 : Int32) (S : cS) : Int32 := s0
def KO_X1_evidenceFits_127 (N g H T : Nat) (s0 : Int32) (S : cS) : Prop := True
set_option maxRecDepth 100000 in
set_option maxHeartbeats 4000000 in
theorem kb_X1_evidenceFits_127 {G : zG} {o : cO} {u g H T N : Nat} {S : cS} {Q : Option Value → cS → Prop} {X : Int32 → Prop} (hG : zOK G) (hR : ∀ v, X v → Q (some (.int v)) S) {s0 : Int32} (hS : St u g H T S) (ok : KO_X1_evidenceFits_127 N g H T s0 S) (hx : X (KF_X1_evidenceFits_127 N g H T s0 S)) : cX G o dX1_evidenceFits mX1_evidenceFits 127 [none, none, none, none, none, none] [.int s0] S Q := by
  unfold KO_X1_evidenceFits_127 at ok
  unfold KF_X1_evidenceFits_127 at hx
  exact c_ireturn rfl rfl dX1_evidenceFits_127 (hR _ hx)
def KF_X1_evidenceFits_112 (N g H T : Nat) (x2 : Int32) (x4 : Int32) (s0 : Int32) (S : cS) : Int32 := (if s0 = 0 then (KF_X1_evidenceFits_127 N g H T (-1) S) else (KF_X1_evidenceFits_127 N g H T (x2 + x4) S))
def KO_X1_evidenceFits_112 (N g H T : Nat) (x2 : Int32) (x4 : Int32) (s0 : Int32) (S : cS) : Prop := ((s0 = 0 → KO_X1_evidenceFits_127 N g H T (-1) S) ∧ (¬ s0 = 0 → KO_X1_evidenceFits_127 N g H T (x2 + x4) S))
set_option maxRecDepth 100000 in
set_option maxHeartbeats 4000000 in
theorem kb_X1_evidenceFits_112 {G : zG} {o : cO} {u g H T N : Nat} {S : cS} {Q : Option Value → cS → Prop} {X : Int32 → Prop} (hG : zOK G) (hR : ∀ v, X v → Q (some (.int v)) S) {x2 : Int32} {x4 : Int32} {s0 : Int32} (hS : St u g H T S) (ok : KO_X1_evidenceFits_112 N g H T x2 x4 s0 S) (hx : X (KF_X1_evidenceFits_112 N g H T x2 x4 s0 S)) : cX G o dX1_evidenceFits mX1_evidenceFits 112 [none, none, some (.int x2), none, some (.int x4), none] [.int s0] S Q := by
  unfold KO_X1_evidenceFits_112 at ok
  unfold KF_X1_evidenceFits_112 at hx
  refine c_istore_5 dX1_evidenceFits_112 (by decide) rfl ?_
  refine c_iload dX1_evidenceFits_114 rfl ?_
  refine c_if_eq (tgt := 126) dX1_evidenceFits_116 (by decide) (fun c_116 => ?_) (fun c_116 => ?_)
  · have ok := ok.1 c_116
    have hx := xif_p c_116 hx
    refine c_iconst (v := -1) dX1_evidenceFits_126 (by decide) ?_
    exact cX.cutz (kb_X1_evidenceFits_127 hG hR hS  ok hx) trivial
  · have ok := ok.2 c_116
    have hx := xif_n c_116 hx
    refine c_iload_n dX1_evidenceFits_119 rfl rfl ?_
    refine c_iload dX1_evidenceFits_120 rfl ?_
    refine c_iadd dX1_evidenceFits_122 ?_
    refine c_goto (tgt := 127) dX1_evidenceFits_123 (by decide) ?_
    exact cX.cutz (kb_X1_evidenceFits_127 hG hR hS  ok hx) trivial
def KF_X1_evidenceFits_71 (N g H T : Nat)  (S : cS) : Int32 := (-1)
def KO_X1_evidenceFits_71 (N g H T : Nat)  (S : cS) : Prop := True
set_option maxRecDepth 100000 in
set_option maxHeartbeats 4000000 in
theorem kb_X1_evidenceFits_71 {G : zG} {o : cO} {u g H T N : Nat} {S : cS} {Q : Option Value → cS → Prop} {X : Int32 → Prop} (hG : zOK G) (hR : ∀ v, X v → Q (some (.int v)) S) (hS : St u g H T S) (ok : KO_X1_evidenceFits_71 N g H T S) (hx : X (KF_X1_evidenceFits_71 N g H T S)) : cX G o dX1_evidenceFits mX1_evidenceFits 71 [none, none, none, none, none, none] [] S Q := by
  unfold KO_X1_evidenceFits_71 at ok
  unfold KF_X1_evidenceFits_71 at hx
  refine c_iconst (v := -1) dX1_evidenceFits_71 (by decide) ?_
  exact c_ireturn rfl rfl dX1_evidenceFits_72 (hR _ hx)
def KF_X1_evidenceFits_45 (N g H T : Nat)  (S : cS) : Int32 := (-1)
def KO_X1_evidenceFits_45 (N g H T : Nat)  (S : cS) : Prop := True
set_option maxRecDepth 100000 in
set_option maxHeartbeats 4000000 in
theorem kb_X1_evidenceFits_45 {G : zG} {o : cO} {u g H T N : Nat} {S : cS} {Q : Option Value → cS → Prop} {X : Int32 → Prop} (hG : zOK G) (hR : ∀ v, X v → Q (some (.int v)) S) (hS : St u g H T S) (ok : KO_X1_evidenceFits_45 N g H T S) (hx : X (KF_X1_evidenceFits_45 N g H T S)) : cX G o dX1_evidenceFits mX1_evidenceFits 45 [none, none, none, none, none, none] [] S Q := by
  unfold KO_X1_evidenceFits_45 at ok
  unfold KF_X1_evidenceFits_45 at hx
  refine c_iconst (v := -1) dX1_evidenceFits_45 (by decide) ?_
  exact c_ireturn rfl rfl dX1_evidenceFits_46 (hR _ hx)
def KF_X1_evidenceFits_0 (N g H T : Nat) (x0 : Nat) (x1 : Option Nat) (x2 : Int32) (x3 : Int32) (S : cS) : Int32 := (if (k_X1_evidenceSize N g H T S x1 x2 x3) < 0 then (KF_X1_evidenceFits_45 N g H T S) else (if (cI S 1 x0) ≤ ((cA S (za x1) x2.toNatClampNeg) &&& (nI 255)) then (KF_X1_evidenceFits_45 N g H T S) else (if (cA S (za x1) (x2 + (nI 1)).toNatClampNeg) < (nI 1) then (KF_X1_evidenceFits_45 N g H T S) else (if (cA S (za x1) (x2 + (nI 1)).toNatClampNeg) ≤ (nI 3) then (if (k_X1_heightFits N g H T S x1 (x2 + (nI 2))) = 0 then (KF_X1_evidenceFits_71 N g H T S) else (if ((cA S (za x1) (x2 + (nI 4)).toNatClampNeg) &&& (nI 255)) < (nI 16) then (if (k_X1_evidenceSize N g H T S x1 x2 x3) = (nI 39) then (if (cA S (za x1) (x2 + (nI 1)).toNatClampNeg) = (nI 1) then (KF_X1_evidenceFits_112 N g H T x2 (k_X1_evidenceSize N g H T S x1 x2 x3) (nI 0) S) else (KF_X1_evidenceFits_112 N g H T x2 (k_X1_evidenceSize N g H T S x1 x2 x3) (nI 1) S)) else (KF_X1_evidenceFits_112 N g H T x2 (k_X1_evidenceSize N g H T S x1 x2 x3) (k_X1_isLess N g H T S x1 (x2 + (nI 6)) ((x2 + (nI 7)) + (nI 32))) S)) else (KF_X1_evidenceFits_71 N g H T S))) else (KF_X1_evidenceFits_45 N g H T S)))))
def KO_X1_evidenceFits_0 (N g H T : Nat) (x0 : Nat) (x1 : Option Nat) (x2 : Int32) (x3 : Int32) (S : cS) : Prop := (p_X1_evidenceSize N g H T S x1 x2 x3) ∧ (((k_X1_evidenceSize N g H T S x1 x2 x3) < 0 → KO_X1_evidenceFits_45 N g H T S) ∧ (¬ (k_X1_evidenceSize N g H T S x1 x2 x3) < 0 → (¬ x1 = none ∧ vp_in x2 (cL S (za x1))) ∧ (((cI S 1 x0) ≤ ((cA S (za x1) x2.toNatClampNeg) &&& (nI 255)) → KO_X1_evidenceFits_45 N g H T S) ∧ (¬ (cI S 1 x0) ≤ ((cA S (za x1) x2.toNatClampNeg) &&& (nI 255)) → (¬ x1 = none ∧ vp_in (x2 + (nI 1)) (cL S (za x1))) ∧ (((cA S (za x1) (x2 + (nI 1)).toNatClampNeg) < (nI 1) → KO_X1_evidenceFits_45 N g H T S) ∧ (¬ (cA S (za x1) (x2 + (nI 1)).toNatClampNeg) < (nI 1) → (¬ x1 = none ∧ vp_in (x2 + (nI 1)) (cL S (za x1))) ∧ (((cA S (za x1) (x2 + (nI 1)).toNatClampNeg) ≤ (nI 3) → (p_X1_heightFits N g H T S x1 (x2 + (nI 2))) ∧ (((k_X1_heightFits N g H T S x1 (x2 + (nI 2))) = 0 → KO_X1_evidenceFits_71 N g H T S) ∧ (¬ (k_X1_heightFits N g H T S x1 (x2 + (nI 2))) = 0 → (¬ x1 = none ∧ vp_in (x2 + (nI 4)) (cL S (za x1))) ∧ ((((cA S (za x1) (x2 + (nI 4)).toNatClampNeg) &&& (nI 255)) < (nI 16) → (((k_X1_evidenceSize N g H T S x1 x2 x3) = (nI 39) → (¬ x1 = none ∧ vp_in (x2 + (nI 1)) (cL S (za x1))) ∧ (((cA S (za x1) (x2 + (nI 1)).toNatClampNeg) = (nI 1) → KO_X1_evidenceFits_112 N g H T x2 (k_X1_evidenceSize N g H T S x1 x2 x3) (nI 0) S) ∧ (¬ (cA S (za x1) (x2 + (nI 1)).toNatClampNeg) = (nI 1) → KO_X1_evidenceFits_112 N g H T x2 (k_X1_evidenceSize N g H T S x1 x2 x3) (nI 1) S))) ∧ (¬ (k_X1_evidenceSize N g H T S x1 x2 x3) = (nI 39) → (p_X1_isLess N g H T S x1 (x2 + (nI 6)) ((x2 + (nI 7)) + (nI 32))) ∧ KO_X1_evidenceFits_112 N g H T x2 (k_X1_evidenceSize N g H T S x1 x2 x3) (k_X1_isLess N g H T S x1 (x2 + (nI 6)) ((x2 + (nI 7)) + (nI 32))) S))) ∧ (¬ ((cA S (za x1) (x2 + (nI 4)).toNatClampNeg) &&& (nI 255)) < (nI 16) → KO_X1_evidenceFits_71 N g H T S))))) ∧ (¬ (cA S (za x1) (x2 + (nI 1)).toNatClampNeg) ≤ (nI 3) → KO_X1_evidenceFits_45 N g H T S))))))))
set_option maxRecDepth 100000 in
set_option maxHeartbeats 4000000 in
theorem kb_X1_evidenceFits_0 {G : zG} {o : cO} {u g H T N : Nat} {S : cS} {Q : Option Value → cS → Prop} {X : Int32 → Prop} (hG : zOK G) (hR : ∀ v, X v → Q (some (.int v)) S) {x0 : Nat} {x1 : Option Nat} {x2 : Int32} {x3 : Int32} (hS : St u g H T S) (t_x0 : isO g H 1 x0) (t_x1 : tK S 20 x1) (ok : KO_X1_evidenceFits_0 N g H T x0 x1 x2 x3 S) (hx : X (KF_X1_evidenceFits_0 N g H T x0 x1 x2 x3 S)) : cX G o dX1_evidenceFits mX1_evidenceFits 0 [some (va_rf (some x0)), some (va_rf x1), some (.int x2), some (.int x3), none, none] [] S Q := by
  unfold KO_X1_evidenceFits_0 at ok
  unfold KF_X1_evidenceFits_0 at hx
  refine c_aload_nQ dX1_evidenceFits_0 rfl rfl ?_
  refine c_iload_n dX1_evidenceFits_1 rfl rfl ?_
  refine c_iload_n dX1_evidenceFits_2 rfl rfl ?_
  refine c_S3iE (y' := mX1_evidenceSize) dX1_evidenceFits_3 lX1_87 kX1_evidenceSize ⟨by decide, by decide⟩ (Nat.le_of_ble_eq_true rfl) (kc_X1_evidenceSize hG hS t_x1 ok.1) ?_
  have ok := ok.2
  refine c_istore_4 dX1_evidenceFits_6 (by decide) rfl ?_
  refine c_iload dX1_evidenceFits_8 rfl ?_
  refine c_if_lt (tgt := 45) dX1_evidenceFits_10 (by decide) (fun c_10 => ?_) (fun c_10 => ?_)
  · have ok := ok.1 c_10
    have hx := xif_p c_10 hx
    exact cX.cutz (kb_X1_evidenceFits_45 hG hR hS  ok hx) trivial
  · have ok := ok.2 c_10
    have hx := xif_n c_10 hx
    refine c_aload_nQ dX1_evidenceFits_13 rfl rfl ?_
    refine c_iload_n dX1_evidenceFits_14 rfl rfl ?_
    refine c_bald dX1_evidenceFits_15 ⟨(tK.cis t_x1 ok.1.1), ok.1.2⟩ ?_
    have ok := ok.2
    refine c_sipush (v := nI 255) dX1_evidenceFits_16 (by decide) ?_
    refine c_iand dX1_evidenceFits_19 ?_
    refine c_aload_nQ dX1_evidenceFits_20 rfl rfl ?_
    refine c_getI (C := RX1) (T := TX1) (N := 3) (ci := 1) (k := 1) ⟨rfl, inT1, by decide, fX1_19⟩ (by decide) (by decide) (by decide) dX1_evidenceFits_21 (hS.k t_x0) ?_
    refine c_icmp_ge (tgt := 45) dX1_evidenceFits_24 (by decide) (fun c_24 => ?_) (fun c_24 => ?_)
    · have ok := ok.1 c_24
      have hx := xif_p c_24 hx
      exact cX.cutz (kb_X1_evidenceFits_45 hG hR hS  ok hx) trivial
    · have ok := ok.2 c_24
      have hx := xif_n c_24 hx
      refine c_aload_nQ dX1_evidenceFits_27 rfl rfl ?_
      refine c_iload_n dX1_evidenceFits_28 rfl rfl ?_
      refine c_iconst (v := nI 1) dX1_evidenceFits_29 (by decide) ?_
      refine c_iadd dX1_evidenceFits_30 ?_
      refine c_bald dX1_evidenceFits_31 ⟨(tK.cis t_x1 ok.1.1), ok.1.2⟩ ?_
      have ok := ok.2
      refine c_iconst (v := nI 1) dX1_evidenceFits_32 (by decide) ?_
      refine c_icmp_lt (tgt := 45) dX1_evidenceFits_33 (by decide) (fun c_33 => ?_) (fun c_33 => ?_)
      · have ok := ok.1 c_33
        have hx := xif_p c_33 hx
        exact cX.cutz (kb_X1_evidenceFits_45 hG hR hS  ok hx) trivial
      · have ok := ok.2 c_33
        have hx := xif_n c_33 hx
        refine c_aload_nQ dX1_evidenceFits_36 rfl rfl ?_
        refine c_iload_n dX1_evidenceFits_37 rfl rfl ?_
        refine c_iconst (v := nI 1) dX1_evidenceFits_38 (by decide) ?_
        refine c_iadd dX1_evidenceFits_39 ?_
        refine c_bald dX1_evidenceFits_40 ⟨(tK.cis t_x1 ok.1.1), ok.1.2⟩ ?_
        have ok := ok.2
        refine c_iconst (v := nI 3) dX1_evidenceFits_41 (by decide) ?_
        refine c_icmp_le (tgt := 47) dX1_evidenceFits_42 (by decide) (fun c_42 => ?_) (fun c_42 => ?_)
        · have ok := ok.1 c_42
          have hx := xif_p c_42 hx
          refine c_aload_nQ dX1_evidenceFits_47 rfl rfl ?_
          refine c_iload_n dX1_evidenceFits_48 rfl rfl ?_
          refine c_iconst (v := nI 2) dX1_evidenceFits_49 (by decide) ?_
          refine c_iadd dX1_evidenceFits_50 ?_
          refine c_S2iE (y' := mX1_heightFits) dX1_evidenceFits_51 lX1_77 kX1_heightFits ⟨by decide, by decide⟩ (Nat.le_of_ble_eq_true rfl) (kc_X1_heightFits hG hS t_x1 ok.1) ?_
          have ok := ok.2
          refine c_if_eq (tgt := 71) dX1_evidenceFits_54 (by decide) (fun c_54 => ?_) (fun c_54 => ?_)
          · have ok := ok.1 c_54
            have hx := xif_p c_54 hx
            exact cX.cutz (kb_X1_evidenceFits_71 hG hR hS  ok hx) trivial
          · have ok := ok.2 c_54
            have hx := xif_n c_54 hx
            refine c_aload_nQ dX1_evidenceFits_57 rfl rfl ?_
            refine c_iload_n dX1_evidenceFits_58 rfl rfl ?_
            refine c_iconst (v := nI 4) dX1_evidenceFits_59 (by decide) ?_
            refine c_iadd dX1_evidenceFits_60 ?_
            refine c_bald dX1_evidenceFits_61 ⟨(tK.cis t_x1 ok.1.1), ok.1.2⟩ ?_
            have ok := ok.2
            refine c_sipush (v := nI 255) dX1_evidenceFits_62 (by decide) ?_
            refine c_iand dX1_evidenceFits_65 ?_
            refine c_bipush (v := nI 16) dX1_evidenceFits_66 (by decide) ?_
            refine c_icmp_lt (tgt := 73) dX1_evidenceFits_68 (by decide) (fun c_68 => ?_) (fun c_68 => ?_)
            · have ok := ok.1 c_68
              have hx := xif_p c_68 hx
              refine c_iload dX1_evidenceFits_73 rfl ?_
              refine c_bipush (v := nI 39) dX1_evidenceFits_75 (by decide) ?_
              refine c_icmp_ne (tgt := 97) dX1_evidenceFits_77 (by decide) (fun c_77 => ?_) (fun c_77 => ?_)
              · have ok := ok.2 c_77
                have hx := xif_n c_77 hx
                refine c_aload_nQ dX1_evidenceFits_97 rfl rfl ?_
                refine c_iload_n dX1_evidenceFits_98 rfl rfl ?_
                refine c_bipush (v := nI 6) dX1_evidenceFits_99 (by decide) ?_
                refine c_iadd dX1_evidenceFits_101 ?_
                refine c_iload_n dX1_evidenceFits_102 rfl rfl ?_
                refine c_bipush (v := nI 7) dX1_evidenceFits_103 (by decide) ?_
                refine c_iadd dX1_evidenceFits_105 ?_
                refine c_bipush (v := nI 32) dX1_evidenceFits_106 (by decide) ?_
                refine c_iadd dX1_evidenceFits_108 ?_
                refine c_S3iE (y' := mX1_isLess) dX1_evidenceFits_109 lX1_90 kX1_isLess ⟨by decide, by decide⟩ (Nat.le_of_ble_eq_true rfl) (kc_X1_isLess hG hS t_x1 ok.1) ?_
                have ok := ok.2
                exact cX.cutz (kb_X1_evidenceFits_112 hG hR hS  ok hx) ⟨rfl, rfl, trivial⟩
              · have ok := ok.1 c_77
                have hx := xif_p c_77 hx
                refine c_aload_nQ dX1_evidenceFits_80 rfl rfl ?_
                refine c_iload_n dX1_evidenceFits_81 rfl rfl ?_
                refine c_iconst (v := nI 1) dX1_evidenceFits_82 (by decide) ?_
                refine c_iadd dX1_evidenceFits_83 ?_
                refine c_bald dX1_evidenceFits_84 ⟨(tK.cis t_x1 ok.1.1), ok.1.2⟩ ?_
                have ok := ok.2
                refine c_iconst (v := nI 1) dX1_evidenceFits_85 (by decide) ?_
                refine c_icmp_eq (tgt := 93) dX1_evidenceFits_86 (by decide) (fun c_86 => ?_) (fun c_86 => ?_)
                · have ok := ok.1 c_86
                  have hx := xif_p c_86 hx
                  refine c_iconst (v := nI 0) dX1_evidenceFits_93 (by decide) ?_
                  refine c_goto (tgt := 112) dX1_evidenceFits_94 (by decide) ?_
                  exact cX.cutz (kb_X1_evidenceFits_112 hG hR hS  ok hx) ⟨rfl, rfl, trivial⟩
                · have ok := ok.2 c_86
                  have hx := xif_n c_86 hx
                  refine c_iconst (v := nI 1) dX1_evidenceFits_89 (by decide) ?_
                  refine c_goto (tgt := 112) dX1_evidenceFits_90 (by decide) ?_
                  exact cX.cutz (kb_X1_evidenceFits_112 hG hR hS  ok hx) ⟨rfl, rfl, trivial⟩
            · have ok := ok.2 c_68
              have hx := xif_n c_68 hx
              exact cX.cutz (kb_X1_evidenceFits_71 hG hR hS  ok hx) trivial
        · have ok := ok.2 c_42
          have hx := xif_n c_42 hx
          exact cX.cutz (kb_X1_evidenceFits_45 hG hR hS  ok hx) trivial
def k_X1_evidenceFits (N g H T : Nat) (S : cS) (a0 : Nat) (x1 : Option Nat) (x2 : Int32) (x3 : Int32) : Int32 := KF_X1_evidenceFits_0 N g H T a0 x1 x2 x3 S
def p_X1_evidenceFits (N g H T : Nat) (S : cS) (a0 : Nat) (x1 : Option Nat) (x2 : Int32) (x3 : Int32) : Prop := KO_X1_evidenceFits_0 N g H T a0 x1 x2 x3 S
set_option maxRecDepth 100000 in
set_option maxHeartbeats 4000000 in
theorem kc_X1_evidenceFits {G : zG} {o : cO} {u g H T N : Nat} {S : cS} (hG : zOK G) {a0 : Nat} {x1 : Option Nat} {x2 : Int32} {x3 : Int32} (hS : St u g H T S) (t_x0 : isO g H 1 a0) (t_x1 : tK S 20 x1) (ok : p_X1_evidenceFits N g H T S a0 x1 x2 x3) : cCi G o dX1_evidenceFits mX1_evidenceFits [.ref a0, va_rf x1, .int x2, .int x3] S (fun v S' => (v = k_X1_evidenceFits N g H T S a0 x1 x2 x3 ∧ S' = S)) := by
  refine cC.ofX rfl (by cases x1 <;> exact Nat.le_of_ble_eq_true rfl) ?_
  rw [show zargs mX1_evidenceFits.2.2.1 [.ref a0, va_rf x1, .int x2, .int x3] = [some (va_rf (some a0)), some (va_rf x1), some (.int x2), some (.int x3), none, none] from by cases x1 <;> rfl]
  exact cX.cutz (kb_X1_evidenceFits_0 (X := fun F => F = k_X1_evidenceFits N g H T S a0 x1 x2 x3) hG (fun v h => ⟨v, rfl, h, rfl⟩) hS t_x0 t_x1 ok rfl) ⟨rfl, rfl, rfl, rfl, trivial⟩
/-! X2_plant -/
def KF_X2_plant_145 (N g H T : Nat)  (S : cS) : cS := S
def KO_X2_plant_145 (N g H T : Nat)  (S : cS) : Prop := True
set_option maxRecDepth 100000 in
set_option maxHeartbeats 4000000 in
theorem kb_X2_plant_145 {G : zG} {o : cO} {u g H T N : Nat} {S : cS} {S0 : cS} {Q : Option Value → cS → Prop} {X : cS → Prop} (hG : zOK G) (hR : ∀ S', St u g H T S' → Mono S0 S' → X S' → Q none S') (hS : St u g H T S) (hM : Mono S0 S) (ok : KO_X2_plant_145 N g H T S) (hx : X (KF_X2_plant_145 N g H T S)) : cX G o dX2_plant mX2_plant 145 [none, none, none, none, none, none, none, none] [] S Q := by
  unfold KO_X2_plant_145 at ok
  unfold KF_X2_plant_145 at hx
  exact c_return rfl dX2_plant_145 (hR _ hS hM hx)
def KF_X2_plant_122 (N g H T : Nat) (rec : Nat → Option Nat → Int32 → Int32 → Int32 → Int32 → cS → Nat × cS) (x0 : Nat) (x1 : Option Nat) (x3 : Int32) (x4 : Int32) (x5 : Int32) (x6 : Int32) (x7 : Int32) (S : cS) : Nat × cS := (rec x0 x1 x3 x4 (x5 + x7) (x6 + nI 1) (csI S 5 x0 ((cI S 5 x0) + (nI 1))))
def KO_X2_plant_122 (N g H T : Nat) (rok : Nat → Option Nat → Int32 → Int32 → Int32 → Int32 → cS → Prop) (x0 : Nat) (x1 : Option Nat) (x3 : Int32) (x4 : Int32) (x5 : Int32) (x6 : Int32) (x7 : Int32) (S : cS) : Prop := rok x0 x1 x3 x4 (x5 + x7) (x6 + nI 1) (csI S 5 x0 ((cI S 5 x0) + (nI 1)))
set_option maxRecDepth 100000 in
set_option maxHeartbeats 4000000 in
theorem kb_X2_plant_122 {G : zG} {o : cO} {u g H T N : Nat} {S : cS} {S0 : cS} {Q : Option Value → cS → Prop} {X : Nat × cS → Prop} (hG : zOK G) (hX0 : ∀ (S' : cS), St u g H T S' → Mono S0 S' → X (0, S') → cX G o dX2_plant mX2_plant 145 [none, none, none, none, none, none, none, none] [] S' Q) {rec : Nat → Option Nat → Int32 → Int32 → Int32 → Int32 → cS → Nat × cS} {rok : Nat → Option Nat → Int32 → Int32 → Int32 → Int32 → cS → Prop} (hrec : ∀ (x0 : Nat) (x1 : Option Nat) (x3 : Int32) (x4 : Int32) (x5 : Int32) (x6 : Int32) (S : cS), St u g H T S → Mono S0 S → isO g H 2 x0 → tK S 20 x1 → rok x0 x1 x3 x4 x5 x6 S → X (rec x0 x1 x3 x4 x5 x6 S) → cX G o dX2_plant mX2_plant 53 [some (va_rf (some x0)), some (va_rf x1), none, some (.int x3), some (.int x4), some (.int x5), some (.int x6), none] [] S Q) {x0 : Nat} {x1 : Option Nat} {x3 : Int32} {x4 : Int32} {x5 : Int32} {x6 : Int32} {x7 : Int32} (hS : St u g H T S) (hM : Mono S0 S) (t_x0 : isO g H 2 x0) (t_x1 : tK S 20 x1) (ok : KO_X2_plant_122 N g H T rok x0 x1 x3 x4 x5 x6 x7 S) (hx : X (KF_X2_plant_122 N g H T rec x0 x1 x3 x4 x5 x6 x7 S)) : cX G o dX2_plant mX2_plant 122 [some (va_rf (some x0)), some (va_rf x1), none, some (.int x3), some (.int x4), some (.int x5), some (.int x6), some (.int x7)] [] S Q := by
  unfold KO_X2_plant_122 at ok
  unfold KF_X2_plant_122 at hx
  refine c_aload_nQ dX2_plant_122 rfl rfl ?_
  refine c_dup dX2_plant_123 (zcat_rf _) ?_
  refine c_getI (C := RX2) (T := TX2) (N := 6) (ci := 2) (k := 5) ⟨rfl, inT2, by decide, fX2_62⟩ (by decide) (by decide) (by decide) dX2_plant_124 (hS.k t_x0) ?_
  refine c_iconst (v := nI 1) dX2_plant_127 (by decide) ?_
  refine c_iadd dX2_plant_128 ?_
  refine c_putI (C := RX2) (T := TX2) (N := 6) (ci := 2) (k := 5) ⟨rfl, inT2, by decide, fX2_62⟩ ftT2 rfl (by decide) (by decide) (by decide) rfl rfl dX2_plant_129 (hS.k t_x0) ?_
  have hS := hS.I 5 x0 ((cI S 5 x0) + (nI 1))
  have hM := hM.I 5 x0 ((cI S 5 x0) + (nI 1))
  refine c_iload dX2_plant_132 rfl ?_
  refine c_iload dX2_plant_134 rfl ?_
  refine c_iadd dX2_plant_136 ?_
  refine c_istore_5 dX2_plant_137 (by decide) rfl ?_
  refine c_iinc_6 (v := (x6 + nI 1)) dX2_plant_139 rfl (by first | rfl | (congr 1)) (by decide) rfl ?_
  refine c_goto (tgt := 53) dX2_plant_142 (by decide) ?_
  exact cX.cutz (hrec _ _ _ _ _ _ (csI S 5 x0 ((cI S 5 x0) + (nI 1))) hS hM t_x0 (tK_I t_x1) ok hx) ⟨rfl, rfl, rfl, rfl, rfl, rfl, trivial⟩
def KF_X2_plant_109 (N g H T : Nat) (rec : Nat → Option Nat → Int32 → Int32 → Int32 → Int32 → cS → Nat × cS) (x0 : Nat) (x1 : Option Nat) (x3 : Int32) (x4 : Int32) (x5 : Int32) (x6 : Int32) (x7 : Int32) (S : cS) : Nat × cS := (KF_X2_plant_122 N g H T rec x0 x1 x3 x4 x5 x6 x7 (k_X2_close N g H T S x0 (some (x0 + 4)) (x6 * (nI 32))))
def KO_X2_plant_109 (N g H T : Nat) (rok : Nat → Option Nat → Int32 → Int32 → Int32 → Int32 → cS → Prop) (x0 : Nat) (x1 : Option Nat) (x3 : Int32) (x4 : Int32) (x5 : Int32) (x6 : Int32) (x7 : Int32) (S : cS) : Prop := (p_X2_close N g H T S x0 (some (x0 + 4)) (x6 * (nI 32))) ∧ KO_X2_plant_122 N g H T rok x0 x1 x3 x4 x5 x6 x7 (k_X2_close N g H T S x0 (some (x0 + 4)) (x6 * (nI 32)))
set_option maxRecDepth 100000 in
set_option maxHeartbeats 4000000 in
theorem kb_X2_plant_109 {G : zG} {o : cO} {u g H T N : Nat} {S : cS} {S0 : cS} {Q : Option Value → cS → Prop} {X : Nat × cS → Prop} (hG : zOK G) (hX0 : ∀ (S' : cS), St u g H T S' → Mono S0 S' → X (0, S') → cX G o dX2_plant mX2_plant 145 [none, none, none, none, none, none, none, none] [] S' Q) {rec : Nat → Option Nat → Int32 → Int32 → Int32 → Int32 → cS → Nat × cS} {rok : Nat → Option Nat → Int32 → Int32 → Int32 → Int32 → cS → Prop} (hrec : ∀ (x0 : Nat) (x1 : Option Nat) (x3 : Int32) (x4 : Int32) (x5 : Int32) (x6 : Int32) (S : cS), St u g H T S → Mono S0 S → isO g H 2 x0 → tK S 20 x1 → rok x0 x1 x3 x4 x5 x6 S → X (rec x0 x1 x3 x4 x5 x6 S) → cX G o dX2_plant mX2_plant 53 [some (va_rf (some x0)), some (va_rf x1), none, some (.int x3), some (.int x4), some (.int x5), some (.int x6), none] [] S Q) {x0 : Nat} {x1 : Option Nat} {x3 : Int32} {x4 : Int32} {x5 : Int32} {x6 : Int32} {x7 : Int32} (hS : St u g H T S) (hM : Mono S0 S) (t_x0 : isO g H 2 x0) (t_x1 : tK S 20 x1) (ok : KO_X2_plant_109 N g H T rok x0 x1 x3 x4 x5 x6 x7 S) (hx : X (KF_X2_plant_109 N g H T rec x0 x1 x3 x4 x5 x6 x7 S)) : cX G o dX2_plant mX2_plant 109 [some (va_rf (some x0)), some (va_rf x1), none, some (.int x3), some (.int x4), some (.int x5), some (.int x6), some (.int x7)] [] S Q := by
  unfold KO_X2_plant_109 at ok
  unfold KF_X2_plant_109 at hx
  refine c_aload_nQ dX2_plant_109 rfl rfl ?_
  refine c_aload_nQ dX2_plant_110 rfl rfl ?_
  refine c_getS (C := RX2) (T := TX2) (N := 6) (ci := 2) (k := 3) ⟨rfl, inT2, by decide, fX2_22⟩ (by decide) (by decide) (by decide) dX2_plant_111 (hS.k t_x0) (hS.r (c := 2) t_x0 rfl (by omega)) ?_
  refine c_iload dX2_plant_114 rfl ?_
  refine c_bipush (v := nI 32) dX2_plant_116 (by decide) ?_
  refine c_imul dX2_plant_118 ?_
  refine c_V2vK (ci := 2) (rr := (RX2, TX2, 6)) (y' := mX2_close) dX2_plant_119 lX2_58 kX2_close ⟨by decide, by decide⟩ rfl rfl (by decide) (hS.k t_x0) (Nat.le_of_ble_eq_true rfl) (kc_X2_close hG hS t_x0 (hS.rk (c := 2) (k := 3) t_x0 rfl (by omega)) ok.1) (fun ⟨hS, hm_119⟩ => ?_)
  have hM := hM.trans hm_119
  have ok := ok.2
  exact cX.cutz (kb_X2_plant_122 hG hX0 hrec hS hM t_x0 (hm_119.tK t_x1 (by decide)) ok hx) ⟨rfl, rfl, rfl, rfl, rfl, rfl, rfl, trivial⟩
def KF_X2_plant_97 (N g H T : Nat) (rec : Nat → Option Nat → Int32 → Int32 → Int32 → Int32 → cS → Nat × cS) (x0 : Nat) (x1 : Option Nat) (x3 : Int32) (x4 : Int32) (x5 : Int32) (x6 : Int32) (x7 : Int32) (S : cS) : Nat × cS := (KF_X2_plant_109 N g H T rec x0 x1 x3 x4 x5 x6 x7 (k_X2_add_ N g H T S x0 x1 x5 (x5 + x7)))
def KO_X2_plant_97 (N g H T : Nat) (rok : Nat → Option Nat → Int32 → Int32 → Int32 → Int32 → cS → Prop) (x0 : Nat) (x1 : Option Nat) (x3 : Int32) (x4 : Int32) (x5 : Int32) (x6 : Int32) (x7 : Int32) (S : cS) : Prop := (p_X2_add_ N g H T S x0 x1 x5 (x5 + x7)) ∧ KO_X2_plant_109 N g H T rok x0 x1 x3 x4 x5 x6 x7 (k_X2_add_ N g H T S x0 x1 x5 (x5 + x7))
set_option maxRecDepth 100000 in
set_option maxHeartbeats 4000000 in
theorem kb_X2_plant_97 {G : zG} {o : cO} {u g H T N : Nat} {S : cS} {S0 : cS} {Q : Option Value → cS → Prop} {X : Nat × cS → Prop} (hG : zOK G) (hX0 : ∀ (S' : cS), St u g H T S' → Mono S0 S' → X (0, S') → cX G o dX2_plant mX2_plant 145 [none, none, none, none, none, none, none, none] [] S' Q) {rec : Nat → Option Nat → Int32 → Int32 → Int32 → Int32 → cS → Nat × cS} {rok : Nat → Option Nat → Int32 → Int32 → Int32 → Int32 → cS → Prop} (hrec : ∀ (x0 : Nat) (x1 : Option Nat) (x3 : Int32) (x4 : Int32) (x5 : Int32) (x6 : Int32) (S : cS), St u g H T S → Mono S0 S → isO g H 2 x0 → tK S 20 x1 → rok x0 x1 x3 x4 x5 x6 S → X (rec x0 x1 x3 x4 x5 x6 S) → cX G o dX2_plant mX2_plant 53 [some (va_rf (some x0)), some (va_rf x1), none, some (.int x3), some (.int x4), some (.int x5), some (.int x6), none] [] S Q) {x0 : Nat} {x1 : Option Nat} {x3 : Int32} {x4 : Int32} {x5 : Int32} {x6 : Int32} {x7 : Int32} (hS : St u g H T S) (hM : Mono S0 S) (t_x0 : isO g H 2 x0) (t_x1 : tK S 20 x1) (ok : KO_X2_plant_97 N g H T rok x0 x1 x3 x4 x5 x6 x7 S) (hx : X (KF_X2_plant_97 N g H T rec x0 x1 x3 x4 x5 x6 x7 S)) : cX G o dX2_plant mX2_plant 97 [some (va_rf (some x0)), some (va_rf x1), none, some (.int x3), some (.int x4), some (.int x5), some (.int x6), some (.int x7)] [] S Q := by
  unfold KO_X2_plant_97 at ok
  unfold KF_X2_plant_97 at hx
  refine c_aload_nQ dX2_plant_97 rfl rfl ?_
  refine c_aload_nQ dX2_plant_98 rfl rfl ?_
  refine c_iload dX2_plant_99 rfl ?_
  refine c_iload dX2_plant_101 rfl ?_
  refine c_iload dX2_plant_103 rfl ?_
  refine c_iadd dX2_plant_105 ?_
  refine c_V3vK (ci := 2) (rr := (RX2, TX2, 6)) (y' := mX2_add_) dX2_plant_106 lX2_54 kX2_add_ ⟨by decide, by decide⟩ rfl rfl (by decide) (hS.k t_x0) (Nat.le_of_ble_eq_true rfl) (kc_X2_add_ hG hS t_x0 t_x1 ok.1) (fun ⟨hS, hm_106⟩ => ?_)
  have hM := hM.trans hm_106
  have ok := ok.2
  exact cX.cutz (kb_X2_plant_109 hG hX0 hrec hS hM t_x0 (hm_106.tK t_x1 (by decide)) ok hx) ⟨rfl, rfl, rfl, rfl, rfl, rfl, rfl, trivial⟩
def KF_X2_plant_92 (N g H T : Nat) (rec : Nat → Option Nat → Int32 → Int32 → Int32 → Int32 → cS → Nat × cS) (x0 : Nat) (x1 : Option Nat) (x3 : Int32) (x4 : Int32) (x5 : Int32) (x6 : Int32) (x7 : Int32) (S : cS) : Nat × cS := (KF_X2_plant_97 N g H T rec x0 x1 x3 x4 x5 x6 x7 (k_X2_add N g H T S x0 (nI 0)))
def KO_X2_plant_92 (N g H T : Nat) (rok : Nat → Option Nat → Int32 → Int32 → Int32 → Int32 → cS → Prop) (x0 : Nat) (x1 : Option Nat) (x3 : Int32) (x4 : Int32) (x5 : Int32) (x6 : Int32) (x7 : Int32) (S : cS) : Prop := (p_X2_add N g H T S x0 (nI 0)) ∧ KO_X2_plant_97 N g H T rok x0 x1 x3 x4 x5 x6 x7 (k_X2_add N g H T S x0 (nI 0))
set_option maxRecDepth 100000 in
set_option maxHeartbeats 4000000 in
theorem kb_X2_plant_92 {G : zG} {o : cO} {u g H T N : Nat} {S : cS} {S0 : cS} {Q : Option Value → cS → Prop} {X : Nat × cS → Prop} (hG : zOK G) (hX0 : ∀ (S' : cS), St u g H T S' → Mono S0 S' → X (0, S') → cX G o dX2_plant mX2_plant 145 [none, none, none, none, none, none, none, none] [] S' Q) {rec : Nat → Option Nat → Int32 → Int32 → Int32 → Int32 → cS → Nat × cS} {rok : Nat → Option Nat → Int32 → Int32 → Int32 → Int32 → cS → Prop} (hrec : ∀ (x0 : Nat) (x1 : Option Nat) (x3 : Int32) (x4 : Int32) (x5 : Int32) (x6 : Int32) (S : cS), St u g H T S → Mono S0 S → isO g H 2 x0 → tK S 20 x1 → rok x0 x1 x3 x4 x5 x6 S → X (rec x0 x1 x3 x4 x5 x6 S) → cX G o dX2_plant mX2_plant 53 [some (va_rf (some x0)), some (va_rf x1), none, some (.int x3), some (.int x4), some (.int x5), some (.int x6), none] [] S Q) {x0 : Nat} {x1 : Option Nat} {x3 : Int32} {x4 : Int32} {x5 : Int32} {x6 : Int32} {x7 : Int32} (hS : St u g H T S) (hM : Mono S0 S) (t_x0 : isO g H 2 x0) (t_x1 : tK S 20 x1) (ok : KO_X2_plant_92 N g H T rok x0 x1 x3 x4 x5 x6 x7 S) (hx : X (KF_X2_plant_92 N g H T rec x0 x1 x3 x4 x5 x6 x7 S)) : cX G o dX2_plant mX2_plant 92 [some (va_rf (some x0)), some (va_rf x1), none, some (.int x3), some (.int x4), some (.int x5), some (.int x6), some (.int x7)] [] S Q := by
  unfold KO_X2_plant_92 at ok
  unfold KF_X2_plant_92 at hx
  refine c_aload_nQ dX2_plant_92 rfl rfl ?_
  refine c_iconst (v := nI 0) dX2_plant_93 (by decide) ?_
  refine c_V1vK (ci := 2) (rr := (RX2, TX2, 6)) (y' := mX2_add) dX2_plant_94 lX2_65 kX2_add ⟨by decide, by decide⟩ rfl rfl (by decide) (hS.k t_x0) (Nat.le_of_ble_eq_true rfl) (kc_X2_add hG hS t_x0 ok.1) (fun ⟨hS, hm_94⟩ => ?_)
  have hM := hM.trans hm_94
  have ok := ok.2
  exact cX.cutz (kb_X2_plant_97 hG hX0 hrec hS hM t_x0 (hm_94.tK t_x1 (by decide)) ok hx) ⟨rfl, rfl, rfl, rfl, rfl, rfl, rfl, trivial⟩
def KF_X2_plant_86 (N g H T : Nat) (rec : Nat → Option Nat → Int32 → Int32 → Int32 → Int32 → cS → Nat × cS) (x0 : Nat) (x1 : Option Nat) (x3 : Int32) (x4 : Int32) (x5 : Int32) (x6 : Int32) (s0 : Int32) (S : cS) : Nat × cS := (KF_X2_plant_92 N g H T rec x0 x1 x3 x4 x5 x6 s0 (k_X2_open N g H T S x0))
def KO_X2_plant_86 (N g H T : Nat) (rok : Nat → Option Nat → Int32 → Int32 → Int32 → Int32 → cS → Prop) (x0 : Nat) (x1 : Option Nat) (x3 : Int32) (x4 : Int32) (x5 : Int32) (x6 : Int32) (s0 : Int32) (S : cS) : Prop := (p_X2_open N g H T S x0) ∧ KO_X2_plant_92 N g H T rok x0 x1 x3 x4 x5 x6 s0 (k_X2_open N g H T S x0)
set_option maxRecDepth 100000 in
set_option maxHeartbeats 4000000 in
theorem kb_X2_plant_86 {G : zG} {o : cO} {u g H T N : Nat} {S : cS} {S0 : cS} {Q : Option Value → cS → Prop} {X : Nat × cS → Prop} (hG : zOK G) (hX0 : ∀ (S' : cS), St u g H T S' → Mono S0 S' → X (0, S') → cX G o dX2_plant mX2_plant 145 [none, none, none, none, none, none, none, none] [] S' Q) {rec : Nat → Option Nat → Int32 → Int32 → Int32 → Int32 → cS → Nat × cS} {rok : Nat → Option Nat → Int32 → Int32 → Int32 → Int32 → cS → Prop} (hrec : ∀ (x0 : Nat) (x1 : Option Nat) (x3 : Int32) (x4 : Int32) (x5 : Int32) (x6 : Int32) (S : cS), St u g H T S → Mono S0 S → isO g H 2 x0 → tK S 20 x1 → rok x0 x1 x3 x4 x5 x6 S → X (rec x0 x1 x3 x4 x5 x6 S) → cX G o dX2_plant mX2_plant 53 [some (va_rf (some x0)), some (va_rf x1), none, some (.int x3), some (.int x4), some (.int x5), some (.int x6), none] [] S Q) {x0 : Nat} {x1 : Option Nat} {x3 : Int32} {x4 : Int32} {x5 : Int32} {x6 : Int32} {s0 : Int32} (hS : St u g H T S) (hM : Mono S0 S) (t_x0 : isO g H 2 x0) (t_x1 : tK S 20 x1) (ok : KO_X2_plant_86 N g H T rok x0 x1 x3 x4 x5 x6 s0 S) (hx : X (KF_X2_plant_86 N g H T rec x0 x1 x3 x4 x5 x6 s0 S)) : cX G o dX2_plant mX2_plant 86 [some (va_rf (some x0)), some (va_rf x1), none, some (.int x3), some (.int x4), some (.int x5), some (.int x6), none] [.int s0] S Q := by
  unfold KO_X2_plant_86 at ok
  unfold KF_X2_plant_86 at hx
  refine c_istore_7 dX2_plant_86 (by decide) rfl ?_
  refine c_aload_nQ dX2_plant_88 rfl rfl ?_
  refine c_V0vK (ci := 2) (rr := (RX2, TX2, 6)) (y' := mX2_open) dX2_plant_89 lX2_51 kX2_open ⟨by decide, by decide⟩ rfl rfl (by decide) (hS.k t_x0) (Nat.le_of_ble_eq_true rfl) (kc_X2_open hG hS t_x0 ok.1) (fun ⟨hS, hm_89⟩ => ?_)
  have hM := hM.trans hm_89
  have ok := ok.2
  exact cX.cutz (kb_X2_plant_92 hG hX0 hrec hS hM t_x0 (hm_89.tK t_x1 (by decide)) ok hx) ⟨rfl, rfl, rfl, rfl, rfl, rfl, rfl, trivial⟩
def KB_X2_plant_53 (N g H T : Nat) (rec : Nat → Option Nat → Int32 → Int32 → Int32 → Int32 → cS → Nat × cS) (x0 : Nat) (x1 : Option Nat) (x3 : Int32) (x4 : Int32) (x5 : Int32) (x6 : Int32) (S : cS) : Nat × cS := (if x4 ≤ x6 then (0, S) else (if (nI 66) ≤ x6 then (0, S) else (if x3 ≤ x6 then (KF_X2_plant_86 N g H T rec x0 x1 x3 x4 x5 x6 (nI 7) S) else (KF_X2_plant_86 N g H T rec x0 x1 x3 x4 x5 x6 (k_X1_evidenceSize N g H T S x1 x5 (nI (cL S (za x1)))) S))))
def KOB_X2_plant_53 (N g H T : Nat) (rok : Nat → Option Nat → Int32 → Int32 → Int32 → Int32 → cS → Prop) (x0 : Nat) (x1 : Option Nat) (x3 : Int32) (x4 : Int32) (x5 : Int32) (x6 : Int32) (S : cS) : Prop := ((x4 ≤ x6 → True) ∧ (¬ x4 ≤ x6 → (((nI 66) ≤ x6 → True) ∧ (¬ (nI 66) ≤ x6 → ((x3 ≤ x6 → KO_X2_plant_86 N g H T rok x0 x1 x3 x4 x5 x6 (nI 7) S) ∧ (¬ x3 ≤ x6 → (¬ x1 = none) ∧ (p_X1_evidenceSize N g H T S x1 x5 (nI (cL S (za x1)))) ∧ KO_X2_plant_86 N g H T rok x0 x1 x3 x4 x5 x6 (k_X1_evidenceSize N g H T S x1 x5 (nI (cL S (za x1)))) S))))))
set_option maxRecDepth 100000 in
set_option maxHeartbeats 4000000 in
theorem kbb_X2_plant_53 {G : zG} {o : cO} {u g H T N : Nat} {S : cS} {S0 : cS} {Q : Option Value → cS → Prop} {X : Nat × cS → Prop} (hG : zOK G) (hX0 : ∀ (S' : cS), St u g H T S' → Mono S0 S' → X (0, S') → cX G o dX2_plant mX2_plant 145 [none, none, none, none, none, none, none, none] [] S' Q) {rec : Nat → Option Nat → Int32 → Int32 → Int32 → Int32 → cS → Nat × cS} {rok : Nat → Option Nat → Int32 → Int32 → Int32 → Int32 → cS → Prop} (hrec : ∀ (x0 : Nat) (x1 : Option Nat) (x3 : Int32) (x4 : Int32) (x5 : Int32) (x6 : Int32) (S : cS), St u g H T S → Mono S0 S → isO g H 2 x0 → tK S 20 x1 → rok x0 x1 x3 x4 x5 x6 S → X (rec x0 x1 x3 x4 x5 x6 S) → cX G o dX2_plant mX2_plant 53 [some (va_rf (some x0)), some (va_rf x1), none, some (.int x3), some (.int x4), some (.int x5), some (.int x6), none] [] S Q) {x0 : Nat} {x1 : Option Nat} {x3 : Int32} {x4 : Int32} {x5 : Int32} {x6 : Int32} (hS : St u g H T S) (hM : Mono S0 S) (t_x0 : isO g H 2 x0) (t_x1 : tK S 20 x1) (ok : KOB_X2_plant_53 N g H T rok x0 x1 x3 x4 x5 x6 S) (hx : X (KB_X2_plant_53 N g H T rec x0 x1 x3 x4 x5 x6 S)) : cX G o dX2_plant mX2_plant 53 [some (va_rf (some x0)), some (va_rf x1), none, some (.int x3), some (.int x4), some (.int x5), some (.int x6), none] [] S Q := by
  unfold KOB_X2_plant_53 at ok
  unfold KB_X2_plant_53 at hx
  refine c_iload dX2_plant_53 rfl ?_
  refine c_iload dX2_plant_55 rfl ?_
  refine c_icmp_ge (tgt := 145) dX2_plant_57 (by decide) (fun c_57 => ?_) (fun c_57 => ?_)
  · have ok := ok.1 c_57
    have hx := xif_p c_57 hx
    exact cX.cutz (hX0 S hS hM  hx) trivial
  · have ok := ok.2 c_57
    have hx := xif_n c_57 hx
    refine c_iload dX2_plant_60 rfl ?_
    refine c_bipush (v := nI 66) dX2_plant_62 (by decide) ?_
    refine c_icmp_ge (tgt := 145) dX2_plant_64 (by decide) (fun c_64 => ?_) (fun c_64 => ?_)
    · have ok := ok.1 c_64
      have hx := xif_p c_64 hx
      exact cX.cutz (hX0 S hS hM  hx) trivial
    · have ok := ok.2 c_64
      have hx := xif_n c_64 hx
      refine c_iload dX2_plant_67 rfl ?_
      refine c_iload_n dX2_plant_69 rfl rfl ?_
      refine c_icmp_ge (tgt := 84) dX2_plant_70 (by decide) (fun c_70 => ?_) (fun c_70 => ?_)
      · have ok := ok.1 c_70
        have hx := xif_p c_70 hx
        refine c_bipush (v := nI 7) dX2_plant_84 (by decide) ?_
        exact cX.cutz (kb_X2_plant_86 hG hX0 hrec hS hM t_x0 t_x1 ok hx) ⟨rfl, rfl, rfl, rfl, rfl, rfl, trivial⟩
      · have ok := ok.2 c_70
        have hx := xif_n c_70 hx
        refine c_aload_nQ dX2_plant_73 rfl rfl ?_
        refine c_iload dX2_plant_74 rfl ?_
        refine c_aload_nQ dX2_plant_76 rfl rfl ?_
        refine c_alenS (t := 0) (ty := .byte) rfl dX2_plant_77 (tK.cis t_x1 ok.1) rfl ?_
        have ok := ok.2
        refine c_S3iE (y' := mX1_evidenceSize) dX2_plant_78 lX2_67 kX1_evidenceSize ⟨by decide, by decide⟩ (Nat.le_of_ble_eq_true rfl) (kc_X1_evidenceSize hG hS t_x1 ok.1) ?_
        have ok := ok.2
        refine c_goto (tgt := 86) dX2_plant_81 (by decide) ?_
        exact cX.cutz (kb_X2_plant_86 hG hX0 hrec hS hM t_x0 t_x1 ok hx) ⟨rfl, rfl, rfl, rfl, rfl, rfl, trivial⟩
def KL_X2_plant_53 (N g H T : Nat) : Nat → Nat → Option Nat → Int32 → Int32 → Int32 → Int32 → cS → Nat × cS
  | 0, x0, x1, x3, x4, x5, x6, S => (0, S)
  | n + 1, x0, x1, x3, x4, x5, x6, S => KB_X2_plant_53 N g H T (KL_X2_plant_53 N g H T n) x0 x1 x3 x4 x5 x6 S
def KOL_X2_plant_53 (N g H T : Nat) : Nat → Nat → Option Nat → Int32 → Int32 → Int32 → Int32 → cS → Prop
  | 0, _, _, _, _, _, _, _ => False
  | n + 1, x0, x1, x3, x4, x5, x6, S => KOB_X2_plant_53 N g H T (KOL_X2_plant_53 N g H T n) x0 x1 x3 x4 x5 x6 S
set_option maxRecDepth 100000 in
set_option maxHeartbeats 4000000 in
theorem kl_X2_plant_53 {G : zG} {o : cO} {u g H T N : Nat} {S0 : cS} {Q : Option Value → cS → Prop} {X : Nat × cS → Prop} (hG : zOK G) (hX0 : ∀ (S' : cS), St u g H T S' → Mono S0 S' → X (0, S') → cX G o dX2_plant mX2_plant 145 [none, none, none, none, none, none, none, none] [] S' Q) : ∀ (n : Nat) (x0 : Nat) (x1 : Option Nat) (x3 : Int32) (x4 : Int32) (x5 : Int32) (x6 : Int32) (S : cS), St u g H T S → Mono S0 S → isO g H 2 x0 → tK S 20 x1 → KOL_X2_plant_53 N g H T n x0 x1 x3 x4 x5 x6 S → X (KL_X2_plant_53 N g H T n x0 x1 x3 x4 x5 x6 S) → cX G o dX2_plant mX2_plant 53 [some (va_rf (some x0)), some (va_rf x1), none, some (.int x3), some (.int x4), some (.int x5), some (.int x6), none] [] S Q := by
  intro n
  induction n with
  | zero => intro x0 x1 x3 x4 x5 x6 S hS hM t_x0 t_x1 ok; exact absurd ok id
  | succ n ih =>
    intro x0 x1 x3 x4 x5 x6 S hS hM t_x0 t_x1 ok hx
    exact kbb_X2_plant_53 hG hX0 (rec := KL_X2_plant_53 N g H T n) (rok := KOL_X2_plant_53 N g H T n) (fun x0 x1 x3 x4 x5 x6 S hS hM t_x0 t_x1 ok hx => ih x0 x1 x3 x4 x5 x6 S hS hM t_x0 t_x1 ok hx) hS hM t_x0 t_x1 ok hx
def KA_X2_plant_53 (N g H T : Nat) (x0 : Nat) (x1 : Option Nat) (x3 : Int32) (x4 : Int32) (x5 : Int32) (x6 : Int32) (S : cS) (z : Nat × cS) : cS := (KF_X2_plant_145 N g H T z.2)
def KOA_X2_plant_53 (N g H T : Nat) (x0 : Nat) (x1 : Option Nat) (x3 : Int32) (x4 : Int32) (x5 : Int32) (x6 : Int32) (S : cS) (z : Nat × cS) : Prop := KO_X2_plant_145 N g H T z.2
set_option maxRecDepth 100000 in
set_option maxHeartbeats 4000000 in
theorem kd_X2_plant_53 {G : zG} {o : cO} {u g H T N : Nat} {S : cS} {S0 : cS} {Q : Option Value → cS → Prop} {X : cS → Prop} (hG : zOK G) (hR : ∀ S', St u g H T S' → Mono S0 S' → X S' → Q none S') {x0 : Nat} {x1 : Option Nat} {x3 : Int32} {x4 : Int32} {x5 : Int32} {x6 : Int32} (hS : St u g H T S) (hM : Mono S0 S) (t_x0 : isO g H 2 x0) (t_x1 : tK S 20 x1) (ok : KOL_X2_plant_53 N g H T N x0 x1 x3 x4 x5 x6 S ∧ KOA_X2_plant_53 N g H T x0 x1 x3 x4 x5 x6 S (KL_X2_plant_53 N g H T N x0 x1 x3 x4 x5 x6 S)) (hx : X (KA_X2_plant_53 N g H T x0 x1 x3 x4 x5 x6 S (KL_X2_plant_53 N g H T N x0 x1 x3 x4 x5 x6 S))) : cX G o dX2_plant mX2_plant 53 [some (va_rf (some x0)), some (va_rf x1), none, some (.int x3), some (.int x4), some (.int x5), some (.int x6), none] [] S Q := by
  refine kl_X2_plant_53 hG ?_ N x0 x1 x3 x4 x5 x6 S hS hM t_x0 t_x1 ok.1 (X := fun z => KOA_X2_plant_53 N g H T x0 x1 x3 x4 x5 x6 S z ∧ X (KA_X2_plant_53 N g H T x0 x1 x3 x4 x5 x6 S z)) ⟨ok.2, hx⟩
  · intro S' hS hM hz
    obtain ⟨ok, hx⟩ := hz
    unfold KOA_X2_plant_53 at ok
    unfold KA_X2_plant_53 at hx
    exact cX.cutz (kb_X2_plant_145 hG hR hS hM  ok hx) trivial
def KF_X2_plant_18 (N g H T : Nat)  (S : cS) : cS := S
def KO_X2_plant_18 (N g H T : Nat)  (S : cS) : Prop := True
set_option maxRecDepth 100000 in
set_option maxHeartbeats 4000000 in
theorem kb_X2_plant_18 {G : zG} {o : cO} {u g H T N : Nat} {S : cS} {S0 : cS} {Q : Option Value → cS → Prop} {X : cS → Prop} (hG : zOK G) (hR : ∀ S', St u g H T S' → Mono S0 S' → X S' → Q none S') (hS : St u g H T S) (hM : Mono S0 S) (ok : KO_X2_plant_18 N g H T S) (hx : X (KF_X2_plant_18 N g H T S)) : cX G o dX2_plant mX2_plant 18 [none, none, none, none, none, none, none, none] [] S Q := by
  unfold KO_X2_plant_18 at ok
  unfold KF_X2_plant_18 at hx
  exact c_return rfl dX2_plant_18 (hR _ hS hM hx)
def KF_X2_plant_0 (N g H T : Nat) (x0 : Nat) (x1 : Option Nat) (x2 : Int32) (S : cS) : cS := (if x2 < 0 then (KF_X2_plant_18 N g H T (csI S 5 x0 (nI 0))) else (if x2 ≤ ((nI (cL (csI S 5 x0 (nI 0)) (za x1))) - (nI 101)) then (KA_X2_plant_53 N g H T x0 x1 ((cA (csI S 5 x0 (nI 0)) (za x1) (x2 + (nI 100)).toNatClampNeg) &&& (nI 255)) (((cA (csI S 5 x0 (nI 0)) (za x1) (x2 + (nI 100)).toNatClampNeg) &&& (nI 255)) + ((cA (csI S 5 x0 (nI 0)) (za x1) (x2 + (nI 99)).toNatClampNeg) &&& (nI 255))) (x2 + (nI 101)) (nI 0) (csI S 5 x0 (nI 0)) (KL_X2_plant_53 N g H T N x0 x1 ((cA (csI S 5 x0 (nI 0)) (za x1) (x2 + (nI 100)).toNatClampNeg) &&& (nI 255)) (((cA (csI S 5 x0 (nI 0)) (za x1) (x2 + (nI 100)).toNatClampNeg) &&& (nI 255)) + ((cA (csI S 5 x0 (nI 0)) (za x1) (x2 + (nI 99)).toNatClampNeg) &&& (nI 255))) (x2 + (nI 101)) (nI 0) (csI S 5 x0 (nI 0)))) else (KF_X2_plant_18 N g H T (csI S 5 x0 (nI 0)))))
def KO_X2_plant_0 (N g H T : Nat) (x0 : Nat) (x1 : Option Nat) (x2 : Int32) (S : cS) : Prop := ((x2 < 0 → KO_X2_plant_18 N g H T (csI S 5 x0 (nI 0))) ∧ (¬ x2 < 0 → (¬ x1 = none) ∧ ((x2 ≤ ((nI (cL (csI S 5 x0 (nI 0)) (za x1))) - (nI 101)) → (¬ x1 = none ∧ vp_in (x2 + (nI 100)) (cL (csI S 5 x0 (nI 0)) (za x1))) ∧ (¬ x1 = none ∧ vp_in (x2 + (nI 99)) (cL (csI S 5 x0 (nI 0)) (za x1))) ∧ (KOL_X2_plant_53 N g H T N x0 x1 ((cA (csI S 5 x0 (nI 0)) (za x1) (x2 + (nI 100)).toNatClampNeg) &&& (nI 255)) (((cA (csI S 5 x0 (nI 0)) (za x1) (x2 + (nI 100)).toNatClampNeg) &&& (nI 255)) + ((cA (csI S 5 x0 (nI 0)) (za x1) (x2 + (nI 99)).toNatClampNeg) &&& (nI 255))) (x2 + (nI 101)) (nI 0) (csI S 5 x0 (nI 0)) ∧ KOA_X2_plant_53 N g H T x0 x1 ((cA (csI S 5 x0 (nI 0)) (za x1) (x2 + (nI 100)).toNatClampNeg) &&& (nI 255)) (((cA (csI S 5 x0 (nI 0)) (za x1) (x2 + (nI 100)).toNatClampNeg) &&& (nI 255)) + ((cA (csI S 5 x0 (nI 0)) (za x1) (x2 + (nI 99)).toNatClampNeg) &&& (nI 255))) (x2 + (nI 101)) (nI 0) (csI S 5 x0 (nI 0)) (KL_X2_plant_53 N g H T N x0 x1 ((cA (csI S 5 x0 (nI 0)) (za x1) (x2 + (nI 100)).toNatClampNeg) &&& (nI 255)) (((cA (csI S 5 x0 (nI 0)) (za x1) (x2 + (nI 100)).toNatClampNeg) &&& (nI 255)) + ((cA (csI S 5 x0 (nI 0)) (za x1) (x2 + (nI 99)).toNatClampNeg) &&& (nI 255))) (x2 + (nI 101)) (nI 0) (csI S 5 x0 (nI 0))))) ∧ (¬ x2 ≤ ((nI (cL (csI S 5 x0 (nI 0)) (za x1))) - (nI 101)) → KO_X2_plant_18 N g H T (csI S 5 x0 (nI 0))))))
set_option maxRecDepth 100000 in
set_option maxHeartbeats 4000000 in
theorem kb_X2_plant_0 {G : zG} {o : cO} {u g H T N : Nat} {S : cS} {S0 : cS} {Q : Option Value → cS → Prop} {X : cS → Prop} (hG : zOK G) (hR : ∀ S', St u g H T S' → Mono S0 S' → X S' → Q none S') {x0 : Nat} {x1 : Option Nat} {x2 : Int32} (hS : St u g H T S) (hM : Mono S0 S) (t_x0 : isO g H 2 x0) (t_x1 : tK S 20 x1) (ok : KO_X2_plant_0 N g H T x0 x1 x2 S) (hx : X (KF_X2_plant_0 N g H T x0 x1 x2 S)) : cX G o dX2_plant mX2_plant 0 [some (va_rf (some x0)), some (va_rf x1), some (.int x2), none, none, none, none, none] [] S Q := by
  unfold KO_X2_plant_0 at ok
  unfold KF_X2_plant_0 at hx
  refine c_aload_nQ dX2_plant_0 rfl rfl ?_
  refine c_iconst (v := nI 0) dX2_plant_1 (by decide) ?_
  refine c_putI (C := RX2) (T := TX2) (N := 6) (ci := 2) (k := 5) ⟨rfl, inT2, by decide, fX2_62⟩ ftT2 rfl (by decide) (by decide) (by decide) rfl rfl dX2_plant_2 (hS.k t_x0) ?_
  have hS := hS.I 5 x0 (nI 0)
  have hM := hM.I 5 x0 (nI 0)
  refine c_iload_n dX2_plant_5 rfl rfl ?_
  refine c_if_lt (tgt := 18) dX2_plant_6 (by decide) (fun c_6 => ?_) (fun c_6 => ?_)
  · have ok := ok.1 c_6
    have hx := xif_p c_6 hx
    exact cX.cutz (kb_X2_plant_18 hG hR hS hM  ok hx) trivial
  · have ok := ok.2 c_6
    have hx := xif_n c_6 hx
    refine c_iload_n dX2_plant_9 rfl rfl ?_
    refine c_aload_nQ dX2_plant_10 rfl rfl ?_
    refine c_alenS (t := 0) (ty := .byte) rfl dX2_plant_11 (tK.cis (tK_I t_x1) ok.1) rfl ?_
    have ok := ok.2
    refine c_bipush (v := nI 101) dX2_plant_12 (by decide) ?_
    refine c_isub dX2_plant_14 ?_
    refine c_icmp_le (tgt := 19) dX2_plant_15 (by decide) (fun c_15 => ?_) (fun c_15 => ?_)
    · have ok := ok.1 c_15
      have hx := xif_p c_15 hx
      refine c_aload_nQ dX2_plant_19 rfl rfl ?_
      refine c_iload_n dX2_plant_20 rfl rfl ?_
      refine c_bipush (v := nI 100) dX2_plant_21 (by decide) ?_
      refine c_iadd dX2_plant_23 ?_
      refine c_bald dX2_plant_24 ⟨(tK.cis (tK_I t_x1) ok.1.1), ok.1.2⟩ ?_
      have ok := ok.2
      refine c_sipush (v := nI 255) dX2_plant_25 (by decide) ?_
      refine c_iand dX2_plant_28 ?_
      refine c_istore_3 dX2_plant_29 (by decide) rfl ?_
      refine c_iload_n dX2_plant_30 rfl rfl ?_
      refine c_aload_nQ dX2_plant_31 rfl rfl ?_
      refine c_iload_n dX2_plant_32 rfl rfl ?_
      refine c_bipush (v := nI 99) dX2_plant_33 (by decide) ?_
      refine c_iadd dX2_plant_35 ?_
      refine c_bald dX2_plant_36 ⟨(tK.cis (tK_I t_x1) ok.1.1), ok.1.2⟩ ?_
      have ok := ok.2
      refine c_sipush (v := nI 255) dX2_plant_37 (by decide) ?_
      refine c_iand dX2_plant_40 ?_
      refine c_iadd dX2_plant_41 ?_
      refine c_istore_4 dX2_plant_42 (by decide) rfl ?_
      refine c_iload_n dX2_plant_44 rfl rfl ?_
      refine c_bipush (v := nI 101) dX2_plant_45 (by decide) ?_
      refine c_iadd dX2_plant_47 ?_
      refine c_istore_5 dX2_plant_48 (by decide) rfl ?_
      refine c_iconst (v := nI 0) dX2_plant_50 (by decide) ?_
      refine c_istore_6 dX2_plant_51 (by decide) rfl ?_
      exact cX.cutz (kd_X2_plant_53 hG hR hS hM t_x0 (tK_I t_x1) ok hx) ⟨rfl, rfl, rfl, rfl, rfl, rfl, trivial⟩
    · have ok := ok.2 c_15
      have hx := xif_n c_15 hx
      exact cX.cutz (kb_X2_plant_18 hG hR hS hM  ok hx) trivial
def k_X2_plant (N g H T : Nat) (S : cS) (a0 : Nat) (x1 : Option Nat) (x2 : Int32) : cS := KF_X2_plant_0 N g H T a0 x1 x2 S
def p_X2_plant (N g H T : Nat) (S : cS) (a0 : Nat) (x1 : Option Nat) (x2 : Int32) : Prop := KO_X2_plant_0 N g H T a0 x1 x2 S
set_option maxRecDepth 100000 in
set_option maxHeartbeats 4000000 in
theorem kc_X2_plant {G : zG} {o : cO} {u g H T N : Nat} {S : cS} (hG : zOK G) {a0 : Nat} {x1 : Option Nat} {x2 : Int32} (hS : St u g H T S) (t_x0 : isO g H 2 a0) (t_x1 : tK S 20 x1) (ok : p_X2_plant N g H T S a0 x1 x2) : cCv G o dX2_plant mX2_plant [.ref a0, va_rf x1, .int x2] S (fun S' => S' = k_X2_plant N g H T S a0 x1 x2 ∧ St u g H T S' ∧ Mono S S') := by
  refine cC.ofX rfl (by cases x1 <;> exact Nat.le_of_ble_eq_true rfl) ?_
  rw [show zargs mX2_plant.2.2.1 [.ref a0, va_rf x1, .int x2] = [some (va_rf (some a0)), some (va_rf x1), some (.int x2), none, none, none, none, none] from by cases x1 <;> rfl]
  exact cX.cutz (kb_X2_plant_0 (X := fun F => F = k_X2_plant N g H T S a0 x1 x2) hG (fun S' h1 h2 h => ⟨rfl, h, h1, h2⟩) hS Mono.rfl' t_x0 t_x1 ok rfl) ⟨rfl, rfl, rfl, trivial⟩
/-! X11_sameBytes -/
def KF_X11_sameBytes_61 (N g H T : Nat)  (S : cS) : Int32 := (nI 1)
def KO_X11_sameBytes_61 (N g H T : Nat)  (S : cS) : Prop := True
set_option maxRecDepth 100000 in
set_option maxHeartbeats 4000000 in
theorem kb_X11_sameBytes_61 {G : zG} {o : cO} {u g H T N : Nat} {S : cS} {Q : Option Value → cS → Prop} {X : Int32 → Prop} (hG : zOK G) (hR : ∀ v, X v → Q (some (.int v)) S) (hS : St u g H T S) (ok : KO_X11_sameBytes_61 N g H T S) (hx : X (KF_X11_sameBytes_61 N g H T S)) : cX G o dX11_sameBytes mX11_sameBytes 61 [none, none, none, none, none, none] [] S Q := by
  unfold KO_X11_sameBytes_61 at ok
  unfold KF_X11_sameBytes_61 at hx
  refine c_iconst (v := nI 1) dX11_sameBytes_61 (by decide) ?_
  exact c_ireturn rfl rfl dX11_sameBytes_62 (hR _ hx)
def KF_X11_sameBytes_53 (N g H T : Nat)  (S : cS) : Int32 := (nI 0)
def KO_X11_sameBytes_53 (N g H T : Nat)  (S : cS) : Prop := True
set_option maxRecDepth 100000 in
set_option maxHeartbeats 4000000 in
theorem kb_X11_sameBytes_53 {G : zG} {o : cO} {u g H T N : Nat} {S : cS} {Q : Option Value → cS → Prop} {X : Int32 → Prop} (hG : zOK G) (hR : ∀ v, X v → Q (some (.int v)) S) (hS : St u g H T S) (ok : KO_X11_sameBytes_53 N g H T S) (hx : X (KF_X11_sameBytes_53 N g H T S)) : cX G o dX11_sameBytes mX11_sameBytes 53 [none, none, none, none, none, none] [] S Q := by
  unfold KO_X11_sameBytes_53 at ok
  unfold KF_X11_sameBytes_53 at hx
  refine c_iconst (v := nI 0) dX11_sameBytes_53 (by decide) ?_
  exact c_ireturn rfl rfl dX11_sameBytes_54 (hR _ hx)
def KB_X11_sameBytes_31 (N g H T : Nat) (rec : Option Nat → Int32 → Option Nat → Int32 → Int32 → Int32 → Nat × Unit) (x0 : Option Nat) (x1 : Int32) (x2 : Option Nat) (x3 : Int32) (x4 : Int32) (x5 : Int32) (S : cS) : Nat × Unit := (if x4 ≤ x5 then (1, ()) else (if (cA S (za x0) (x1 + x5).toNatClampNeg) = (cA S (za x2) (x3 + x5).toNatClampNeg) then (rec x0 x1 x2 x3 x4 (x5 + nI 1)) else (0, ())))
def KOB_X11_sameBytes_31 (N g H T : Nat) (rok : Option Nat → Int32 → Option Nat → Int32 → Int32 → Int32 → Prop) (x0 : Option Nat) (x1 : Int32) (x2 : Option Nat) (x3 : Int32) (x4 : Int32) (x5 : Int32) (S : cS) : Prop := ((x4 ≤ x5 → True) ∧ (¬ x4 ≤ x5 → (¬ x0 = none ∧ vp_in (x1 + x5) (cL S (za x0))) ∧ (¬ x2 = none ∧ vp_in (x3 + x5) (cL S (za x2))) ∧ (((cA S (za x0) (x1 + x5).toNatClampNeg) = (cA S (za x2) (x3 + x5).toNatClampNeg) → rok x0 x1 x2 x3 x4 (x5 + nI 1)) ∧ (¬ (cA S (za x0) (x1 + x5).toNatClampNeg) = (cA S (za x2) (x3 + x5).toNatClampNeg) → True))))
set_option maxRecDepth 100000 in
set_option maxHeartbeats 4000000 in
theorem kbb_X11_sameBytes_31 {G : zG} {o : cO} {u g H T N : Nat} {S : cS} {Q : Option Value → cS → Prop} {X : Nat × Unit → Prop} (hG : zOK G) (hX0 : ∀ _u : Unit, X (0, ()) → cX G o dX11_sameBytes mX11_sameBytes 53 [none, none, none, none, none, none] [] S Q) (hX1 : ∀ _u : Unit, X (1, ()) → cX G o dX11_sameBytes mX11_sameBytes 61 [none, none, none, none, none, none] [] S Q) {rec : Option Nat → Int32 → Option Nat → Int32 → Int32 → Int32 → Nat × Unit} {rok : Option Nat → Int32 → Option Nat → Int32 → Int32 → Int32 → Prop} (hrec : ∀ (x0 : Option Nat) (x1 : Int32) (x2 : Option Nat) (x3 : Int32) (x4 : Int32) (x5 : Int32), tK S 20 x0 → tK S 20 x2 → rok x0 x1 x2 x3 x4 x5 → X (rec x0 x1 x2 x3 x4 x5) → cX G o dX11_sameBytes mX11_sameBytes 31 [some (va_rf x0), some (.int x1), some (va_rf x2), some (.int x3), some (.int x4), some (.int x5)] [] S Q) {x0 : Option Nat} {x1 : Int32} {x2 : Option Nat} {x3 : Int32} {x4 : Int32} {x5 : Int32} (hS : St u g H T S) (t_x0 : tK S 20 x0) (t_x2 : tK S 20 x2) (ok : KOB_X11_sameBytes_31 N g H T rok x0 x1 x2 x3 x4 x5 S) (hx : X (KB_X11_sameBytes_31 N g H T rec x0 x1 x2 x3 x4 x5 S)) : cX G o dX11_sameBytes mX11_sameBytes 31 [some (va_rf x0), some (.int x1), some (va_rf x2), some (.int x3), some (.int x4), some (.int x5)] [] S Q := by
  unfold KOB_X11_sameBytes_31 at ok
  unfold KB_X11_sameBytes_31 at hx
  refine c_iload dX11_sameBytes_31 rfl ?_
  refine c_iload dX11_sameBytes_33 rfl ?_
  refine c_icmp_ge (tgt := 61) dX11_sameBytes_35 (by decide) (fun c_35 => ?_) (fun c_35 => ?_)
  · have ok := ok.1 c_35
    have hx := xif_p c_35 hx
    exact cX.cutz (hX1 ()  hx) trivial
  · have ok := ok.2 c_35
    have hx := xif_n c_35 hx
    refine c_aload_nQ dX11_sameBytes_38 rfl rfl ?_
    refine c_iload_n dX11_sameBytes_39 rfl rfl ?_
    refine c_iload dX11_sameBytes_40 rfl ?_
    refine c_iadd dX11_sameBytes_42 ?_
    refine c_bald dX11_sameBytes_43 ⟨(tK.cis t_x0 ok.1.1), ok.1.2⟩ ?_
    have ok := ok.2
    refine c_aload_nQ dX11_sameBytes_44 rfl rfl ?_
    refine c_iload_n dX11_sameBytes_45 rfl rfl ?_
    refine c_iload dX11_sameBytes_46 rfl ?_
    refine c_iadd dX11_sameBytes_48 ?_
    refine c_bald dX11_sameBytes_49 ⟨(tK.cis t_x2 ok.1.1), ok.1.2⟩ ?_
    have ok := ok.2
    refine c_icmp_eq (tgt := 55) dX11_sameBytes_50 (by decide) (fun c_50 => ?_) (fun c_50 => ?_)
    · have ok := ok.1 c_50
      have hx := xif_p c_50 hx
      refine c_iinc_5 (v := (x5 + nI 1)) dX11_sameBytes_55 rfl (by first | rfl | (congr 1)) (by decide) rfl ?_
      refine c_goto (tgt := 31) dX11_sameBytes_58 (by decide) ?_
      exact cX.cutz (hrec _ _ _ _ _ _ t_x0 t_x2 ok hx) ⟨rfl, rfl, rfl, rfl, rfl, rfl, trivial⟩
    · have ok := ok.2 c_50
      have hx := xif_n c_50 hx
      exact cX.cutz (hX0 ()  hx) trivial
def KL_X11_sameBytes_31 (N g H T : Nat) : Nat → Option Nat → Int32 → Option Nat → Int32 → Int32 → Int32 → cS → Nat × Unit
  | 0, x0, x1, x2, x3, x4, x5, S => (0, ())
  | n + 1, x0, x1, x2, x3, x4, x5, S => KB_X11_sameBytes_31 N g H T (fun x0 x1 x2 x3 x4 x5 => KL_X11_sameBytes_31 N g H T n x0 x1 x2 x3 x4 x5 S) x0 x1 x2 x3 x4 x5 S
def KOL_X11_sameBytes_31 (N g H T : Nat) : Nat → Option Nat → Int32 → Option Nat → Int32 → Int32 → Int32 → cS → Prop
  | 0, _, _, _, _, _, _, _ => False
  | n + 1, x0, x1, x2, x3, x4, x5, S => KOB_X11_sameBytes_31 N g H T (fun x0 x1 x2 x3 x4 x5 => KOL_X11_sameBytes_31 N g H T n x0 x1 x2 x3 x4 x5 S) x0 x1 x2 x3 x4 x5 S
set_option maxRecDepth 100000 in
set_option maxHeartbeats 4000000 in
theorem kl_X11_sameBytes_31 {G : zG} {o : cO} {u g H T N : Nat} {S : cS} {Q : Option Value → cS → Prop} {X : Nat × Unit → Prop} (hG : zOK G) (hX0 : ∀ _u : Unit, X (0, ()) → cX G o dX11_sameBytes mX11_sameBytes 53 [none, none, none, none, none, none] [] S Q) (hX1 : ∀ _u : Unit, X (1, ()) → cX G o dX11_sameBytes mX11_sameBytes 61 [none, none, none, none, none, none] [] S Q) (hS : St u g H T S) : ∀ (n : Nat) (x0 : Option Nat) (x1 : Int32) (x2 : Option Nat) (x3 : Int32) (x4 : Int32) (x5 : Int32) , tK S 20 x0 → tK S 20 x2 → KOL_X11_sameBytes_31 N g H T n x0 x1 x2 x3 x4 x5 S → X (KL_X11_sameBytes_31 N g H T n x0 x1 x2 x3 x4 x5 S) → cX G o dX11_sameBytes mX11_sameBytes 31 [some (va_rf x0), some (.int x1), some (va_rf x2), some (.int x3), some (.int x4), some (.int x5)] [] S Q := by
  intro n
  induction n with
  | zero => intro x0 x1 x2 x3 x4 x5 t_x0 t_x2 ok; exact absurd ok id
  | succ n ih =>
    intro x0 x1 x2 x3 x4 x5 t_x0 t_x2 ok hx
    exact kbb_X11_sameBytes_31 hG hX0 hX1 (rec := fun x0 x1 x2 x3 x4 x5 => KL_X11_sameBytes_31 N g H T n x0 x1 x2 x3 x4 x5 S) (rok := fun x0 x1 x2 x3 x4 x5 => KOL_X11_sameBytes_31 N g H T n x0 x1 x2 x3 x4 x5 S) (fun x0 x1 x2 x3 x4 x5 t_x0 t_x2 ok hx => ih x0 x1 x2 x3 x4 x5 t_x0 t_x2 ok hx) hS t_x0 t_x2 ok hx
def KA_X11_sameBytes_31 (N g H T : Nat) (x0 : Option Nat) (x1 : Int32) (x2 : Option Nat) (x3 : Int32) (x4 : Int32) (x5 : Int32) (S : cS) (z : Nat × Unit) : Int32 := (if z.1 = 0 then (KF_X11_sameBytes_53 N g H T S) else (KF_X11_sameBytes_61 N g H T S))
def KOA_X11_sameBytes_31 (N g H T : Nat) (x0 : Option Nat) (x1 : Int32) (x2 : Option Nat) (x3 : Int32) (x4 : Int32) (x5 : Int32) (S : cS) (z : Nat × Unit) : Prop := (if z.1 = 0 then KO_X11_sameBytes_53 N g H T S else KO_X11_sameBytes_61 N g H T S)
set_option maxRecDepth 100000 in
set_option maxHeartbeats 4000000 in
theorem kd_X11_sameBytes_31 {G : zG} {o : cO} {u g H T N : Nat} {S : cS} {Q : Option Value → cS → Prop} {X : Int32 → Prop} (hG : zOK G) (hR : ∀ v, X v → Q (some (.int v)) S) {x0 : Option Nat} {x1 : Int32} {x2 : Option Nat} {x3 : Int32} {x4 : Int32} {x5 : Int32} (hS : St u g H T S) (t_x0 : tK S 20 x0) (t_x2 : tK S 20 x2) (ok : KOL_X11_sameBytes_31 N g H T N x0 x1 x2 x3 x4 x5 S ∧ KOA_X11_sameBytes_31 N g H T x0 x1 x2 x3 x4 x5 S (KL_X11_sameBytes_31 N g H T N x0 x1 x2 x3 x4 x5 S)) (hx : X (KA_X11_sameBytes_31 N g H T x0 x1 x2 x3 x4 x5 S (KL_X11_sameBytes_31 N g H T N x0 x1 x2 x3 x4 x5 S))) : cX G o dX11_sameBytes mX11_sameBytes 31 [some (va_rf x0), some (.int x1), some (va_rf x2), some (.int x3), some (.int x4), some (.int x5)] [] S Q := by
  refine kl_X11_sameBytes_31 hG ?_ ?_ hS N x0 x1 x2 x3 x4 x5 t_x0 t_x2 ok.1 (X := fun z => KOA_X11_sameBytes_31 N g H T x0 x1 x2 x3 x4 x5 S z ∧ X (KA_X11_sameBytes_31 N g H T x0 x1 x2 x3 x4 x5 S z)) ⟨ok.2, hx⟩
  · intro _u hz
    obtain ⟨ok, hx⟩ := hz
    unfold KOA_X11_sameBytes_31 at ok
    unfold KA_X11_sameBytes_31 at hx
    have ok := xif_P (show (0 : Nat) = 0 from rfl) ok
    have hx := xif_p (show (0 : Nat) = 0 from rfl) hx
    exact cX.cutz (kb_X11_sameBytes_53 hG hR hS  ok hx) trivial
  · intro _u hz
    obtain ⟨ok, hx⟩ := hz
    unfold KOA_X11_sameBytes_31 at ok
    unfold KA_X11_sameBytes_31 at hx
    have ok := xif_N (show ¬ (1 : Nat) = 0 by decide) ok
    have hx := xif_n (show ¬ (1 : Nat) = 0 by decide) hx
    exact cX.cutz (kb_X11_sameBytes_61 hG hR hS  ok hx) trivial
def KF_X11_sameBytes_26 (N g H T : Nat)  (S : cS) : Int32 := (nI 0)
def KO_X11_sameBytes_26 (N g H T : Nat)  (S : cS) : Prop := True
set_option maxRecDepth 100000 in
set_option maxHeartbeats 4000000 in
theorem kb_X11_sameBytes_26 {G : zG} {o : cO} {u g H T N : Nat} {S : cS} {Q : Option Value → cS → Prop} {X : Int32 → Prop} (hG : zOK G) (hR : ∀ v, X v → Q (some (.int v)) S) (hS : St u g H T S) (ok : KO_X11_sameBytes_26 N g H T S) (hx : X (KF_X11_sameBytes_26 N g H T S)) : cX G o dX11_sameBytes mX11_sameBytes 26 [none, none, none, none, none, none] [] S Q := by
  unfold KO_X11_sameBytes_26 at ok
  unfold KF_X11_sameBytes_26 at hx
  refine c_iconst (v := nI 0) dX11_sameBytes_26 (by decide) ?_
  exact c_ireturn rfl rfl dX11_sameBytes_27 (hR _ hx)
def KF_X11_sameBytes_0 (N g H T : Nat) (x0 : Option Nat) (x1 : Int32) (x2 : Option Nat) (x3 : Int32) (x4 : Int32) (S : cS) : Int32 := (if x1 < 0 then (KF_X11_sameBytes_26 N g H T S) else (if x3 < 0 then (KF_X11_sameBytes_26 N g H T S) else (if ((nI (cL S (za x0))) - x1) < x4 then (KF_X11_sameBytes_26 N g H T S) else (if x4 ≤ ((nI (cL S (za x2))) - x3) then (KA_X11_sameBytes_31 N g H T x0 x1 x2 x3 x4 (nI 0) S (KL_X11_sameBytes_31 N g H T N x0 x1 x2 x3 x4 (nI 0) S)) else (KF_X11_sameBytes_26 N g H T S)))))
def KO_X11_sameBytes_0 (N g H T : Nat) (x0 : Option Nat) (x1 : Int32) (x2 : Option Nat) (x3 : Int32) (x4 : Int32) (S : cS) : Prop := ((x1 < 0 → KO_X11_sameBytes_26 N g H T S) ∧ (¬ x1 < 0 → ((x3 < 0 → KO_X11_sameBytes_26 N g H T S) ∧ (¬ x3 < 0 → (¬ x0 = none) ∧ ((((nI (cL S (za x0))) - x1) < x4 → KO_X11_sameBytes_26 N g H T S) ∧ (¬ ((nI (cL S (za x0))) - x1) < x4 → (¬ x2 = none) ∧ ((x4 ≤ ((nI (cL S (za x2))) - x3) → (KOL_X11_sameBytes_31 N g H T N x0 x1 x2 x3 x4 (nI 0) S ∧ KOA_X11_sameBytes_31 N g H T x0 x1 x2 x3 x4 (nI 0) S (KL_X11_sameBytes_31 N g H T N x0 x1 x2 x3 x4 (nI 0) S))) ∧ (¬ x4 ≤ ((nI (cL S (za x2))) - x3) → KO_X11_sameBytes_26 N g H T S))))))))
set_option maxRecDepth 100000 in
set_option maxHeartbeats 4000000 in
theorem kb_X11_sameBytes_0 {G : zG} {o : cO} {u g H T N : Nat} {S : cS} {Q : Option Value → cS → Prop} {X : Int32 → Prop} (hG : zOK G) (hR : ∀ v, X v → Q (some (.int v)) S) {x0 : Option Nat} {x1 : Int32} {x2 : Option Nat} {x3 : Int32} {x4 : Int32} (hS : St u g H T S) (t_x0 : tK S 20 x0) (t_x2 : tK S 20 x2) (ok : KO_X11_sameBytes_0 N g H T x0 x1 x2 x3 x4 S) (hx : X (KF_X11_sameBytes_0 N g H T x0 x1 x2 x3 x4 S)) : cX G o dX11_sameBytes mX11_sameBytes 0 [some (va_rf x0), some (.int x1), some (va_rf x2), some (.int x3), some (.int x4), none] [] S Q := by
  unfold KO_X11_sameBytes_0 at ok
  unfold KF_X11_sameBytes_0 at hx
  refine c_iload_n dX11_sameBytes_0 rfl rfl ?_
  refine c_if_lt (tgt := 26) dX11_sameBytes_1 (by decide) (fun c_1 => ?_) (fun c_1 => ?_)
  · have ok := ok.1 c_1
    have hx := xif_p c_1 hx
    exact cX.cutz (kb_X11_sameBytes_26 hG hR hS  ok hx) trivial
  · have ok := ok.2 c_1
    have hx := xif_n c_1 hx
    refine c_iload_n dX11_sameBytes_4 rfl rfl ?_
    refine c_if_lt (tgt := 26) dX11_sameBytes_5 (by decide) (fun c_5 => ?_) (fun c_5 => ?_)
    · have ok := ok.1 c_5
      have hx := xif_p c_5 hx
      exact cX.cutz (kb_X11_sameBytes_26 hG hR hS  ok hx) trivial
    · have ok := ok.2 c_5
      have hx := xif_n c_5 hx
      refine c_aload_nQ dX11_sameBytes_8 rfl rfl ?_
      refine c_alenS (t := 0) (ty := .byte) rfl dX11_sameBytes_9 (tK.cis t_x0 ok.1) rfl ?_
      have ok := ok.2
      refine c_iload_n dX11_sameBytes_10 rfl rfl ?_
      refine c_isub dX11_sameBytes_11 ?_
      refine c_iload dX11_sameBytes_12 rfl ?_
      refine c_icmp_lt (tgt := 26) dX11_sameBytes_14 (by decide) (fun c_14 => ?_) (fun c_14 => ?_)
      · have ok := ok.1 c_14
        have hx := xif_p c_14 hx
        exact cX.cutz (kb_X11_sameBytes_26 hG hR hS  ok hx) trivial
      · have ok := ok.2 c_14
        have hx := xif_n c_14 hx
        refine c_aload_nQ dX11_sameBytes_17 rfl rfl ?_
        refine c_alenS (t := 0) (ty := .byte) rfl dX11_sameBytes_18 (tK.cis t_x2 ok.1) rfl ?_
        have ok := ok.2
        refine c_iload_n dX11_sameBytes_19 rfl rfl ?_
        refine c_isub dX11_sameBytes_20 ?_
        refine c_iload dX11_sameBytes_21 rfl ?_
        refine c_icmp_ge (tgt := 28) dX11_sameBytes_23 (by decide) (fun c_23 => ?_) (fun c_23 => ?_)
        · have ok := ok.1 c_23
          have hx := xif_p c_23 hx
          refine c_iconst (v := nI 0) dX11_sameBytes_28 (by decide) ?_
          refine c_istore_5 dX11_sameBytes_29 (by decide) rfl ?_
          exact cX.cutz (kd_X11_sameBytes_31 hG hR hS t_x0 t_x2 ok hx) ⟨rfl, rfl, rfl, rfl, rfl, rfl, trivial⟩
        · have ok := ok.2 c_23
          have hx := xif_n c_23 hx
          exact cX.cutz (kb_X11_sameBytes_26 hG hR hS  ok hx) trivial
def k_X11_sameBytes (N g H T : Nat) (S : cS) (x0 : Option Nat) (x1 : Int32) (x2 : Option Nat) (x3 : Int32) (x4 : Int32) : Int32 := KF_X11_sameBytes_0 N g H T x0 x1 x2 x3 x4 S
def p_X11_sameBytes (N g H T : Nat) (S : cS) (x0 : Option Nat) (x1 : Int32) (x2 : Option Nat) (x3 : Int32) (x4 : Int32) : Prop := KO_X11_sameBytes_0 N g H T x0 x1 x2 x3 x4 S
set_option maxRecDepth 100000 in
set_option maxHeartbeats 4000000 in
theorem kc_X11_sameBytes {G : zG} {o : cO} {u g H T N : Nat} {S : cS} (hG : zOK G) {x0 : Option Nat} {x1 : Int32} {x2 : Option Nat} {x3 : Int32} {x4 : Int32} (hS : St u g H T S) (t_x0 : tK S 20 x0) (t_x2 : tK S 20 x2) (ok : p_X11_sameBytes N g H T S x0 x1 x2 x3 x4) : cCi G o dX11_sameBytes mX11_sameBytes [va_rf x0, .int x1, va_rf x2, .int x3, .int x4] S (fun v S' => (v = k_X11_sameBytes N g H T S x0 x1 x2 x3 x4 ∧ S' = S)) := by
  refine cC.ofX rfl (by cases x0 <;> cases x2 <;> exact Nat.le_of_ble_eq_true rfl) ?_
  rw [show zargs mX11_sameBytes.2.2.1 [va_rf x0, .int x1, va_rf x2, .int x3, .int x4] = [some (va_rf x0), some (.int x1), some (va_rf x2), some (.int x3), some (.int x4), none] from by cases x0 <;> cases x2 <;> rfl]
  exact cX.cutz (kb_X11_sameBytes_0 (X := fun F => F = k_X11_sameBytes N g H T S x0 x1 x2 x3 x4) hG (fun v h => ⟨v, rfl, h, rfl⟩) hS t_x0 t_x2 ok rfl) ⟨rfl, rfl, rfl, rfl, rfl, trivial⟩
/-! X1_blockFits -/
def KF_X1_blockFits_194 (N g H T : Nat) (x0 : Nat) (x1 : Option Nat) (x2 : Int32) (S : cS) : Int32 × cS := ((k_X11_sameBytes N g H T S (some (x0 + 1)) (nI 0) x1 (x2 + (nI 67)) (nI 32)), S)
def KO_X1_blockFits_194 (N g H T : Nat) (x0 : Nat) (x1 : Option Nat) (x2 : Int32) (S : cS) : Prop := (p_X11_sameBytes N g H T S (some (x0 + 1)) (nI 0) x1 (x2 + (nI 67)) (nI 32)) ∧ narrow .boolean (.int (k_X11_sameBytes N g H T S (some (x0 + 1)) (nI 0) x1 (x2 + (nI 67)) (nI 32))) = .int (k_X11_sameBytes N g H T S (some (x0 + 1)) (nI 0) x1 (x2 + (nI 67)) (nI 32))
set_option maxRecDepth 100000 in
set_option maxHeartbeats 4000000 in
theorem kb_X1_blockFits_194 {G : zG} {o : cO} {u g H T N : Nat} {S : cS} {S0 : cS} {Q : Option Value → cS → Prop} {X : Int32 × cS → Prop} (hG : zOK G) (hR : ∀ v S', St u g H T S' → Mono S0 S' → X (v, S') → Q (some (.int v)) S') {x0 : Nat} {x1 : Option Nat} {x2 : Int32} (hS : St u g H T S) (hM : Mono S0 S) (t_x0 : isO g H 1 x0) (t_x1 : tK S 20 x1) (ok : KO_X1_blockFits_194 N g H T x0 x1 x2 S) (hx : X (KF_X1_blockFits_194 N g H T x0 x1 x2 S)) : cX G o dX1_blockFits mX1_blockFits 194 [some (va_rf (some x0)), some (va_rf x1), some (.int x2), none, none, none, none, none] [] S Q := by
  unfold KO_X1_blockFits_194 at ok
  unfold KF_X1_blockFits_194 at hx
  refine c_aload_nQ dX1_blockFits_194 rfl rfl ?_
  refine c_getS (C := RX1) (T := TX1) (N := 3) (ci := 1) (k := 2) ⟨rfl, inT1, by decide, fX1_9⟩ (by decide) (by decide) (by decide) dX1_blockFits_195 (hS.k t_x0) (hS.r (c := 1) t_x0 rfl (by omega)) ?_
  refine c_iconst (v := nI 0) dX1_blockFits_198 (by decide) ?_
  refine c_aload_nQ dX1_blockFits_199 rfl rfl ?_
  refine c_iload_n dX1_blockFits_200 rfl rfl ?_
  refine c_bipush (v := nI 67) dX1_blockFits_201 (by decide) ?_
  refine c_iadd dX1_blockFits_203 ?_
  refine c_bipush (v := nI 32) dX1_blockFits_204 (by decide) ?_
  refine c_SN5iE (y' := mX11_sameBytes) dX1_blockFits_206 lX1_103 kX11_sameBytes ⟨by decide, by decide⟩ (Nat.le_of_ble_eq_true rfl) (kc_X11_sameBytes hG hS (hS.rk (c := 1) (k := 2) t_x0 rfl (by omega)) t_x1 ok.1) ?_
  have ok := ok.2
  exact c_ireturn rfl ok dX1_blockFits_209 (hR _ _ hS hM hx)
def KF_X1_blockFits_181 (N g H T : Nat) (x0 : Nat) (x1 : Option Nat) (x2 : Int32) (s0 : Int32) (S : cS) : Int32 × cS := (KF_X1_blockFits_194 N g H T x0 x1 x2 (k_X2_top N g H T S (g + 3) (some (x0 + 1)) (nI 0)))
def KO_X1_blockFits_181 (N g H T : Nat) (x0 : Nat) (x1 : Option Nat) (x2 : Int32) (s0 : Int32) (S : cS) : Prop := (p_X2_top N g H T S (g + 3) (some (x0 + 1)) (nI 0)) ∧ KO_X1_blockFits_194 N g H T x0 x1 x2 (k_X2_top N g H T S (g + 3) (some (x0 + 1)) (nI 0))
set_option maxRecDepth 100000 in
set_option maxHeartbeats 4000000 in
theorem kb_X1_blockFits_181 {G : zG} {o : cO} {u g H T N : Nat} {S : cS} {S0 : cS} {Q : Option Value → cS → Prop} {X : Int32 × cS → Prop} (hG : zOK G) (hR : ∀ v S', St u g H T S' → Mono S0 S' → X (v, S') → Q (some (.int v)) S') {x0 : Nat} {x1 : Option Nat} {x2 : Int32} {s0 : Int32} (hS : St u g H T S) (hM : Mono S0 S) (t_x0 : isO g H 1 x0) (t_x1 : tK S 20 x1) (ok : KO_X1_blockFits_181 N g H T x0 x1 x2 s0 S) (hx : X (KF_X1_blockFits_181 N g H T x0 x1 x2 s0 S)) : cX G o dX1_blockFits mX1_blockFits 181 [some (va_rf (some x0)), some (va_rf x1), some (.int x2), none, none, none, none, none] [.int s0] S Q := by
  unfold KO_X1_blockFits_181 at ok
  unfold KF_X1_blockFits_181 at hx
  refine c_pop dX1_blockFits_181 rfl ?_
  refine c_aload_nQ dX1_blockFits_182 rfl rfl ?_
  refine c_getS (C := RX1) (T := TX1) (N := 3) (ci := 1) (k := 0) ⟨rfl, inT1, by decide, fX1_15⟩ (by decide) (by decide) (by decide) dX1_blockFits_183 (hS.k t_x0) (hS.r (c := 1) t_x0 rfl (by omega)) ?_
  refine c_aload_nQ dX1_blockFits_186 rfl rfl ?_
  refine c_getS (C := RX1) (T := TX1) (N := 3) (ci := 1) (k := 2) ⟨rfl, inT1, by decide, fX1_9⟩ (by decide) (by decide) (by decide) dX1_blockFits_187 (hS.k t_x0) (hS.r (c := 1) t_x0 rfl (by omega)) ?_
  refine c_iconst (v := nI 0) dX1_blockFits_190 (by decide) ?_
  refine c_V2vK (ci := 2) (rr := (RX2, TX2, 6)) (y' := mX2_top) dX1_blockFits_191 lX1_100 kX2_top ⟨by decide, by decide⟩ rfl rfl (by decide) (hS.k (o10 t_x0)) (Nat.le_of_ble_eq_true rfl) (kc_X2_top hG hS (o10 t_x0) (hS.rk (c := 1) (k := 2) t_x0 rfl (by omega)) ok.1) (fun ⟨hS, hm_191⟩ => ?_)
  have hM := hM.trans hm_191
  have ok := ok.2
  exact cX.cutz (kb_X1_blockFits_194 hG hR hS hM t_x0 (hm_191.tK t_x1 (by decide)) ok hx) ⟨rfl, rfl, rfl, trivial⟩
def KF_X1_blockFits_168 (N g H T : Nat) (x0 : Nat) (x1 : Option Nat) (x2 : Int32) (S : cS) : Int32 × cS := (KF_X1_blockFits_181 N g H T x0 x1 x2 ((k_X2_climb N g H T S (g + 3) (-1) (some (x0 + 1)) (nI 0)).1) (k_X2_climb N g H T S (g + 3) (-1) (some (x0 + 1)) (nI 0)).2)
def KO_X1_blockFits_168 (N g H T : Nat) (x0 : Nat) (x1 : Option Nat) (x2 : Int32) (S : cS) : Prop := (p_X2_climb N g H T S (g + 3) (-1) (some (x0 + 1)) (nI 0)) ∧ KO_X1_blockFits_181 N g H T x0 x1 x2 ((k_X2_climb N g H T S (g + 3) (-1) (some (x0 + 1)) (nI 0)).1) (k_X2_climb N g H T S (g + 3) (-1) (some (x0 + 1)) (nI 0)).2
set_option maxRecDepth 100000 in
set_option maxHeartbeats 4000000 in
theorem kb_X1_blockFits_168 {G : zG} {o : cO} {u g H T N : Nat} {S : cS} {S0 : cS} {Q : Option Value → cS → Prop} {X : Int32 × cS → Prop} (hG : zOK G) (hR : ∀ v S', St u g H T S' → Mono S0 S' → X (v, S') → Q (some (.int v)) S') {x0 : Nat} {x1 : Option Nat} {x2 : Int32} (hS : St u g H T S) (hM : Mono S0 S) (t_x0 : isO g H 1 x0) (t_x1 : tK S 20 x1) (ok : KO_X1_blockFits_168 N g H T x0 x1 x2 S) (hx : X (KF_X1_blockFits_168 N g H T x0 x1 x2 S)) : cX G o dX1_blockFits mX1_blockFits 168 [some (va_rf (some x0)), some (va_rf x1), some (.int x2), none, none, none, none, none] [] S Q := by
  unfold KO_X1_blockFits_168 at ok
  unfold KF_X1_blockFits_168 at hx
  refine c_aload_nQ dX1_blockFits_168 rfl rfl ?_
  refine c_getS (C := RX1) (T := TX1) (N := 3) (ci := 1) (k := 0) ⟨rfl, inT1, by decide, fX1_15⟩ (by decide) (by decide) (by decide) dX1_blockFits_169 (hS.k t_x0) (hS.r (c := 1) t_x0 rfl (by omega)) ?_
  refine c_iconst (v := -1) dX1_blockFits_172 (by decide) ?_
  refine c_aload_nQ dX1_blockFits_173 rfl rfl ?_
  refine c_getS (C := RX1) (T := TX1) (N := 3) (ci := 1) (k := 2) ⟨rfl, inT1, by decide, fX1_9⟩ (by decide) (by decide) (by decide) dX1_blockFits_174 (hS.k t_x0) (hS.r (c := 1) t_x0 rfl (by omega)) ?_
  refine c_iconst (v := nI 0) dX1_blockFits_177 (by decide) ?_
  refine c_V3iK (ci := 2) (rr := (RX2, TX2, 6)) (y' := mX2_climb) dX1_blockFits_178 lX1_96 kX2_climb ⟨by decide, by decide⟩ rfl rfl (by decide) (hS.k (o10 t_x0)) (Nat.le_of_ble_eq_true rfl) (kc_X2_climb hG hS (o10 t_x0) (hS.rk (c := 1) (k := 2) t_x0 rfl (by omega)) ok.1) (fun ⟨hS, hm_178⟩ => ?_)
  have hM := hM.trans hm_178
  have ok := ok.2
  exact cX.cutz (kb_X1_blockFits_181 hG hR hS hM t_x0 (hm_178.tK t_x1 (by decide)) ok hx) ⟨rfl, rfl, rfl, trivial⟩
def KF_X1_blockFits_159 (N g H T : Nat) (x0 : Nat) (x1 : Option Nat) (x2 : Int32) (S : cS) : Int32 × cS := (KF_X1_blockFits_168 N g H T x0 x1 x2 (k_X2_plant N g H T S (g + 3) x1 x2))
def KO_X1_blockFits_159 (N g H T : Nat) (x0 : Nat) (x1 : Option Nat) (x2 : Int32) (S : cS) : Prop := (p_X2_plant N g H T S (g + 3) x1 x2) ∧ KO_X1_blockFits_168 N g H T x0 x1 x2 (k_X2_plant N g H T S (g + 3) x1 x2)
set_option maxRecDepth 100000 in
set_option maxHeartbeats 4000000 in
theorem kb_X1_blockFits_159 {G : zG} {o : cO} {u g H T N : Nat} {S : cS} {S0 : cS} {Q : Option Value → cS → Prop} {X : Int32 × cS → Prop} (hG : zOK G) (hR : ∀ v S', St u g H T S' → Mono S0 S' → X (v, S') → Q (some (.int v)) S') {x0 : Nat} {x1 : Option Nat} {x2 : Int32} (hS : St u g H T S) (hM : Mono S0 S) (t_x0 : isO g H 1 x0) (t_x1 : tK S 20 x1) (ok : KO_X1_blockFits_159 N g H T x0 x1 x2 S) (hx : X (KF_X1_blockFits_159 N g H T x0 x1 x2 S)) : cX G o dX1_blockFits mX1_blockFits 159 [some (va_rf (some x0)), some (va_rf x1), some (.int x2), none, none, none, none, none] [] S Q := by
  unfold KO_X1_blockFits_159 at ok
  unfold KF_X1_blockFits_159 at hx
  refine c_aload_nQ dX1_blockFits_159 rfl rfl ?_
  refine c_getS (C := RX1) (T := TX1) (N := 3) (ci := 1) (k := 0) ⟨rfl, inT1, by decide, fX1_15⟩ (by decide) (by decide) (by decide) dX1_blockFits_160 (hS.k t_x0) (hS.r (c := 1) t_x0 rfl (by omega)) ?_
  refine c_aload_nQ dX1_blockFits_163 rfl rfl ?_
  refine c_iload_n dX1_blockFits_164 rfl rfl ?_
  refine c_V2vK (ci := 2) (rr := (RX2, TX2, 6)) (y' := mX2_plant) dX1_blockFits_165 lX1_93 kX2_plant ⟨by decide, by decide⟩ rfl rfl (by decide) (hS.k (o10 t_x0)) (Nat.le_of_ble_eq_true rfl) (kc_X2_plant hG hS (o10 t_x0) t_x1 ok.1) (fun ⟨hS, hm_165⟩ => ?_)
  have hM := hM.trans hm_165
  have ok := ok.2
  exact cX.cutz (kb_X1_blockFits_168 hG hR hS hM t_x0 (hm_165.tK t_x1 (by decide)) ok hx) ⟨rfl, rfl, rfl, trivial⟩
def KF_X1_blockFits_151 (N g H T : Nat)  (S : cS) : Int32 × cS := ((nI 0), S)
def KO_X1_blockFits_151 (N g H T : Nat)  (S : cS) : Prop := True
set_option maxRecDepth 100000 in
set_option maxHeartbeats 4000000 in
theorem kb_X1_blockFits_151 {G : zG} {o : cO} {u g H T N : Nat} {S : cS} {S0 : cS} {Q : Option Value → cS → Prop} {X : Int32 × cS → Prop} (hG : zOK G) (hR : ∀ v S', St u g H T S' → Mono S0 S' → X (v, S') → Q (some (.int v)) S') (hS : St u g H T S) (hM : Mono S0 S) (ok : KO_X1_blockFits_151 N g H T S) (hx : X (KF_X1_blockFits_151 N g H T S)) : cX G o dX1_blockFits mX1_blockFits 151 [none, none, none, none, none, none, none, none] [] S Q := by
  unfold KO_X1_blockFits_151 at ok
  unfold KF_X1_blockFits_151 at hx
  refine c_iconst (v := nI 0) dX1_blockFits_151 (by decide) ?_
  exact c_ireturn rfl rfl dX1_blockFits_152 (hR _ _ hS hM hx)
def KB_X1_blockFits_129 (N g H T : Nat) (rec : Nat → Option Nat → Int32 → Int32 → Int32 → Int32 → cS → Nat × Nat × Option Nat × Int32 × cS) (x0 : Nat) (x1 : Option Nat) (x2 : Int32) (x4 : Int32) (x6 : Int32) (x7 : Int32) (S : cS) : Nat × Nat × Option Nat × Int32 × cS := (if x4 ≤ x7 then (1, x0, x1, x2, S) else (if (k_X1_paymentFits N g H T S x1 (x6 + (x7 * (nI 7)))) = 0 then (0, 0, none, 0, S) else (rec x0 x1 x2 x4 x6 (x7 + nI 1) S)))
def KOB_X1_blockFits_129 (N g H T : Nat) (rok : Nat → Option Nat → Int32 → Int32 → Int32 → Int32 → cS → Prop) (x0 : Nat) (x1 : Option Nat) (x2 : Int32) (x4 : Int32) (x6 : Int32) (x7 : Int32) (S : cS) : Prop := ((x4 ≤ x7 → True) ∧ (¬ x4 ≤ x7 → (p_X1_paymentFits N g H T S x1 (x6 + (x7 * (nI 7)))) ∧ (((k_X1_paymentFits N g H T S x1 (x6 + (x7 * (nI 7)))) = 0 → True) ∧ (¬ (k_X1_paymentFits N g H T S x1 (x6 + (x7 * (nI 7)))) = 0 → rok x0 x1 x2 x4 x6 (x7 + nI 1) S))))
set_option maxRecDepth 100000 in
set_option maxHeartbeats 4000000 in
theorem kbb_X1_blockFits_129 {G : zG} {o : cO} {u g H T N : Nat} {S : cS} {S0 : cS} {Q : Option Value → cS → Prop} {X : Nat × Nat × Option Nat × Int32 × cS → Prop} (hG : zOK G) (hX0 : ∀ (x0 : Nat) (x1 : Option Nat) (x2 : Int32) (S' : cS), St u g H T S' → Mono S0 S' → X (0, x0, x1, x2, S') → cX G o dX1_blockFits mX1_blockFits 151 [none, none, none, none, none, none, none, none] [] S' Q) (hX1 : ∀ (x0 : Nat) (x1 : Option Nat) (x2 : Int32) (S' : cS), St u g H T S' → Mono S0 S' → isO g H 1 x0 → tK S' 20 x1 → X (1, x0, x1, x2, S') → cX G o dX1_blockFits mX1_blockFits 159 [some (va_rf (some x0)), some (va_rf x1), some (.int x2), none, none, none, none, none] [] S' Q) {rec : Nat → Option Nat → Int32 → Int32 → Int32 → Int32 → cS → Nat × Nat × Option Nat × Int32 × cS} {rok : Nat → Option Nat → Int32 → Int32 → Int32 → Int32 → cS → Prop} (hrec : ∀ (x0 : Nat) (x1 : Option Nat) (x2 : Int32) (x4 : Int32) (x6 : Int32) (x7 : Int32) (S : cS), St u g H T S → Mono S0 S → isO g H 1 x0 → tK S 20 x1 → rok x0 x1 x2 x4 x6 x7 S → X (rec x0 x1 x2 x4 x6 x7 S) → cX G o dX1_blockFits mX1_blockFits 129 [some (va_rf (some x0)), some (va_rf x1), some (.int x2), none, some (.int x4), none, some (.int x6), some (.int x7)] [] S Q) {x0 : Nat} {x1 : Option Nat} {x2 : Int32} {x4 : Int32} {x6 : Int32} {x7 : Int32} (hS : St u g H T S) (hM : Mono S0 S) (t_x0 : isO g H 1 x0) (t_x1 : tK S 20 x1) (ok : KOB_X1_blockFits_129 N g H T rok x0 x1 x2 x4 x6 x7 S) (hx : X (KB_X1_blockFits_129 N g H T rec x0 x1 x2 x4 x6 x7 S)) : cX G o dX1_blockFits mX1_blockFits 129 [some (va_rf (some x0)), some (va_rf x1), some (.int x2), none, some (.int x4), none, some (.int x6), some (.int x7)] [] S Q := by
  unfold KOB_X1_blockFits_129 at ok
  unfold KB_X1_blockFits_129 at hx
  refine c_iload dX1_blockFits_129 rfl ?_
  refine c_iload dX1_blockFits_131 rfl ?_
  refine c_icmp_ge (tgt := 159) dX1_blockFits_133 (by decide) (fun c_133 => ?_) (fun c_133 => ?_)
  · have ok := ok.1 c_133
    have hx := xif_p c_133 hx
    exact cX.cutz (hX1 _ _ _ S hS hM t_x0 t_x1 hx) ⟨rfl, rfl, rfl, trivial⟩
  · have ok := ok.2 c_133
    have hx := xif_n c_133 hx
    refine c_aload_nQ dX1_blockFits_136 rfl rfl ?_
    refine c_iload dX1_blockFits_137 rfl ?_
    refine c_iload dX1_blockFits_139 rfl ?_
    refine c_bipush (v := nI 7) dX1_blockFits_141 (by decide) ?_
    refine c_imul dX1_blockFits_143 ?_
    refine c_iadd dX1_blockFits_144 ?_
    refine c_S2iE (y' := mX1_paymentFits) dX1_blockFits_145 lX1_62 kX1_paymentFits ⟨by decide, by decide⟩ (Nat.le_of_ble_eq_true rfl) (kc_X1_paymentFits hG hS t_x1 ok.1) ?_
    have ok := ok.2
    refine c_if_ne (tgt := 153) dX1_blockFits_148 (by decide) (fun c_148 => ?_) (fun c_148 => ?_)
    · have ok := ok.2 c_148
      have hx := xif_n c_148 hx
      refine c_iinc_7 (v := (x7 + nI 1)) dX1_blockFits_153 rfl (by first | rfl | (congr 1)) (by decide) rfl ?_
      refine c_goto (tgt := 129) dX1_blockFits_156 (by decide) ?_
      exact cX.cutz (hrec _ _ _ _ _ _ S hS hM t_x0 t_x1 ok hx) ⟨rfl, rfl, rfl, rfl, rfl, rfl, trivial⟩
    · have ok := ok.1 c_148
      have hx := xif_p c_148 hx
      exact cX.cutz (hX0 _ _ _ S hS hM  hx) trivial
def KL_X1_blockFits_129 (N g H T : Nat) : Nat → Nat → Option Nat → Int32 → Int32 → Int32 → Int32 → cS → Nat × Nat × Option Nat × Int32 × cS
  | 0, x0, x1, x2, x4, x6, x7, S => (0, 0, none, 0, S)
  | n + 1, x0, x1, x2, x4, x6, x7, S => KB_X1_blockFits_129 N g H T (KL_X1_blockFits_129 N g H T n) x0 x1 x2 x4 x6 x7 S
def KOL_X1_blockFits_129 (N g H T : Nat) : Nat → Nat → Option Nat → Int32 → Int32 → Int32 → Int32 → cS → Prop
  | 0, _, _, _, _, _, _, _ => False
  | n + 1, x0, x1, x2, x4, x6, x7, S => KOB_X1_blockFits_129 N g H T (KOL_X1_blockFits_129 N g H T n) x0 x1 x2 x4 x6 x7 S
set_option maxRecDepth 100000 in
set_option maxHeartbeats 4000000 in
theorem kl_X1_blockFits_129 {G : zG} {o : cO} {u g H T N : Nat} {S0 : cS} {Q : Option Value → cS → Prop} {X : Nat × Nat × Option Nat × Int32 × cS → Prop} (hG : zOK G) (hX0 : ∀ (x0 : Nat) (x1 : Option Nat) (x2 : Int32) (S' : cS), St u g H T S' → Mono S0 S' → X (0, x0, x1, x2, S') → cX G o dX1_blockFits mX1_blockFits 151 [none, none, none, none, none, none, none, none] [] S' Q) (hX1 : ∀ (x0 : Nat) (x1 : Option Nat) (x2 : Int32) (S' : cS), St u g H T S' → Mono S0 S' → isO g H 1 x0 → tK S' 20 x1 → X (1, x0, x1, x2, S') → cX G o dX1_blockFits mX1_blockFits 159 [some (va_rf (some x0)), some (va_rf x1), some (.int x2), none, none, none, none, none] [] S' Q) : ∀ (n : Nat) (x0 : Nat) (x1 : Option Nat) (x2 : Int32) (x4 : Int32) (x6 : Int32) (x7 : Int32) (S : cS), St u g H T S → Mono S0 S → isO g H 1 x0 → tK S 20 x1 → KOL_X1_blockFits_129 N g H T n x0 x1 x2 x4 x6 x7 S → X (KL_X1_blockFits_129 N g H T n x0 x1 x2 x4 x6 x7 S) → cX G o dX1_blockFits mX1_blockFits 129 [some (va_rf (some x0)), some (va_rf x1), some (.int x2), none, some (.int x4), none, some (.int x6), some (.int x7)] [] S Q := by
  intro n
  induction n with
  | zero => intro x0 x1 x2 x4 x6 x7 S hS hM t_x0 t_x1 ok; exact absurd ok id
  | succ n ih =>
    intro x0 x1 x2 x4 x6 x7 S hS hM t_x0 t_x1 ok hx
    exact kbb_X1_blockFits_129 hG hX0 hX1 (rec := KL_X1_blockFits_129 N g H T n) (rok := KOL_X1_blockFits_129 N g H T n) (fun x0 x1 x2 x4 x6 x7 S hS hM t_x0 t_x1 ok hx => ih x0 x1 x2 x4 x6 x7 S hS hM t_x0 t_x1 ok hx) hS hM t_x0 t_x1 ok hx
def KA_X1_blockFits_129 (N g H T : Nat) (x0 : Nat) (x1 : Option Nat) (x2 : Int32) (x4 : Int32) (x6 : Int32) (x7 : Int32) (S : cS) (z : Nat × Nat × Option Nat × Int32 × cS) : Int32 × cS := (if z.1 = 0 then (KF_X1_blockFits_151 N g H T z.2.2.2.2) else (KF_X1_blockFits_159 N g H T (z.2.1) (z.2.2.1) (z.2.2.2.1) z.2.2.2.2))
def KOA_X1_blockFits_129 (N g H T : Nat) (x0 : Nat) (x1 : Option Nat) (x2 : Int32) (x4 : Int32) (x6 : Int32) (x7 : Int32) (S : cS) (z : Nat × Nat × Option Nat × Int32 × cS) : Prop := (if z.1 = 0 then KO_X1_blockFits_151 N g H T z.2.2.2.2 else KO_X1_blockFits_159 N g H T (z.2.1) (z.2.2.1) (z.2.2.2.1) z.2.2.2.2)
set_option maxRecDepth 100000 in
set_option maxHeartbeats 4000000 in
theorem kd_X1_blockFits_129 {G : zG} {o : cO} {u g H T N : Nat} {S : cS} {S0 : cS} {Q : Option Value → cS → Prop} {X : Int32 × cS → Prop} (hG : zOK G) (hR : ∀ v S', St u g H T S' → Mono S0 S' → X (v, S') → Q (some (.int v)) S') {x0 : Nat} {x1 : Option Nat} {x2 : Int32} {x4 : Int32} {x6 : Int32} {x7 : Int32} (hS : St u g H T S) (hM : Mono S0 S) (t_x0 : isO g H 1 x0) (t_x1 : tK S 20 x1) (ok : KOL_X1_blockFits_129 N g H T N x0 x1 x2 x4 x6 x7 S ∧ KOA_X1_blockFits_129 N g H T x0 x1 x2 x4 x6 x7 S (KL_X1_blockFits_129 N g H T N x0 x1 x2 x4 x6 x7 S)) (hx : X (KA_X1_blockFits_129 N g H T x0 x1 x2 x4 x6 x7 S (KL_X1_blockFits_129 N g H T N x0 x1 x2 x4 x6 x7 S))) : cX G o dX1_blockFits mX1_blockFits 129 [some (va_rf (some x0)), some (va_rf x1), some (.int x2), none, some (.int x4), none, some (.int x6), some (.int x7)] [] S Q := by
  refine kl_X1_blockFits_129 hG ?_ ?_ N x0 x1 x2 x4 x6 x7 S hS hM t_x0 t_x1 ok.1 (X := fun z => KOA_X1_blockFits_129 N g H T x0 x1 x2 x4 x6 x7 S z ∧ X (KA_X1_blockFits_129 N g H T x0 x1 x2 x4 x6 x7 S z)) ⟨ok.2, hx⟩
  · intro x0' x1' x2' S' hS hM hz
    obtain ⟨ok, hx⟩ := hz
    unfold KOA_X1_blockFits_129 at ok
    unfold KA_X1_blockFits_129 at hx
    have ok := xif_P (show (0 : Nat) = 0 from rfl) ok
    have hx := xif_p (show (0 : Nat) = 0 from rfl) hx
    exact cX.cutz (kb_X1_blockFits_151 hG hR hS hM  ok hx) trivial
  · intro x0' x1' x2' S' hS hM t_x0 t_x1 hz
    obtain ⟨ok, hx⟩ := hz
    unfold KOA_X1_blockFits_129 at ok
    unfold KA_X1_blockFits_129 at hx
    have ok := xif_N (show ¬ (1 : Nat) = 0 by decide) ok
    have hx := xif_n (show ¬ (1 : Nat) = 0 by decide) hx
    exact cX.cutz (kb_X1_blockFits_159 hG hR hS hM t_x0 t_x1 ok hx) ⟨rfl, rfl, rfl, trivial⟩
def KF_X1_blockFits_112 (N g H T : Nat) (x0 : Nat) (x1 : Option Nat) (x2 : Int32) (x3 : Int32) (x4 : Int32) (x6 : Int32) (S : cS) : Int32 × cS := (if (x3 - x6) = (x4 * (nI 7)) then (KA_X1_blockFits_129 N g H T x0 x1 x2 x4 x6 (nI 0) S (KL_X1_blockFits_129 N g H T N x0 x1 x2 x4 x6 (nI 0) S)) else ((nI 0), S))
def KO_X1_blockFits_112 (N g H T : Nat) (x0 : Nat) (x1 : Option Nat) (x2 : Int32) (x3 : Int32) (x4 : Int32) (x6 : Int32) (S : cS) : Prop := (((x3 - x6) = (x4 * (nI 7)) → (KOL_X1_blockFits_129 N g H T N x0 x1 x2 x4 x6 (nI 0) S ∧ KOA_X1_blockFits_129 N g H T x0 x1 x2 x4 x6 (nI 0) S (KL_X1_blockFits_129 N g H T N x0 x1 x2 x4 x6 (nI 0) S))) ∧ (¬ (x3 - x6) = (x4 * (nI 7)) → True))
set_option maxRecDepth 100000 in
set_option maxHeartbeats 4000000 in
theorem kb_X1_blockFits_112 {G : zG} {o : cO} {u g H T N : Nat} {S : cS} {S0 : cS} {Q : Option Value → cS → Prop} {X : Int32 × cS → Prop} (hG : zOK G) (hR : ∀ v S', St u g H T S' → Mono S0 S' → X (v, S') → Q (some (.int v)) S') {x0 : Nat} {x1 : Option Nat} {x2 : Int32} {x3 : Int32} {x4 : Int32} {x6 : Int32} (hS : St u g H T S) (hM : Mono S0 S) (t_x0 : isO g H 1 x0) (t_x1 : tK S 20 x1) (ok : KO_X1_blockFits_112 N g H T x0 x1 x2 x3 x4 x6 S) (hx : X (KF_X1_blockFits_112 N g H T x0 x1 x2 x3 x4 x6 S)) : cX G o dX1_blockFits mX1_blockFits 112 [some (va_rf (some x0)), some (va_rf x1), some (.int x2), some (.int x3), some (.int x4), none, some (.int x6), none] [] S Q := by
  unfold KO_X1_blockFits_112 at ok
  unfold KF_X1_blockFits_112 at hx
  refine c_iload_n dX1_blockFits_112 rfl rfl ?_
  refine c_iload dX1_blockFits_113 rfl ?_
  refine c_isub dX1_blockFits_115 ?_
  refine c_iload dX1_blockFits_116 rfl ?_
  refine c_bipush (v := nI 7) dX1_blockFits_118 (by decide) ?_
  refine c_imul dX1_blockFits_120 ?_
  refine c_icmp_eq (tgt := 126) dX1_blockFits_121 (by decide) (fun c_121 => ?_) (fun c_121 => ?_)
  · have ok := ok.1 c_121
    have hx := xif_p c_121 hx
    refine c_iconst (v := nI 0) dX1_blockFits_126 (by decide) ?_
    refine c_istore_7 dX1_blockFits_127 (by decide) rfl ?_
    exact cX.cutz (kd_X1_blockFits_129 hG hR hS hM t_x0 t_x1 ok hx) ⟨rfl, rfl, rfl, rfl, rfl, rfl, trivial⟩
  · have ok := ok.2 c_121
    have hx := xif_n c_121 hx
    refine c_iconst (v := nI 0) dX1_blockFits_124 (by decide) ?_
    exact c_ireturn rfl rfl dX1_blockFits_125 (hR _ _ hS hM hx)
def KF_X1_blockFits_104 (N g H T : Nat)  (S : cS) : Int32 × cS := ((nI 0), S)
def KO_X1_blockFits_104 (N g H T : Nat)  (S : cS) : Prop := True
set_option maxRecDepth 100000 in
set_option maxHeartbeats 4000000 in
theorem kb_X1_blockFits_104 {G : zG} {o : cO} {u g H T N : Nat} {S : cS} {S0 : cS} {Q : Option Value → cS → Prop} {X : Int32 × cS → Prop} (hG : zOK G) (hR : ∀ v S', St u g H T S' → Mono S0 S' → X (v, S') → Q (some (.int v)) S') (hS : St u g H T S) (hM : Mono S0 S) (ok : KO_X1_blockFits_104 N g H T S) (hx : X (KF_X1_blockFits_104 N g H T S)) : cX G o dX1_blockFits mX1_blockFits 104 [none, none, none, none, none, none, none, none] [] S Q := by
  unfold KO_X1_blockFits_104 at ok
  unfold KF_X1_blockFits_104 at hx
  refine c_iconst (v := nI 0) dX1_blockFits_104 (by decide) ?_
  exact c_ireturn rfl rfl dX1_blockFits_105 (hR _ _ hS hM hx)
def KB_X1_blockFits_82 (N g H T : Nat) (rec : Nat → Option Nat → Int32 → Int32 → Int32 → Int32 → Int32 → Int32 → cS → Nat × Nat × Option Nat × Int32 × Int32 × Int32 × Int32 × cS) (x0 : Nat) (x1 : Option Nat) (x2 : Int32) (x3 : Int32) (x4 : Int32) (x5 : Int32) (x6 : Int32) (x7 : Int32) (S : cS) : Nat × Nat × Option Nat × Int32 × Int32 × Int32 × Int32 × cS := (if x5 ≤ x7 then (1, x0, x1, x2, x3, x4, x6, S) else (if 0 ≤ (k_X1_evidenceFits N g H T S x0 x1 x6 x3) then (rec x0 x1 x2 x3 x4 x5 (k_X1_evidenceFits N g H T S x0 x1 x6 x3) (x7 + nI 1) S) else (0, 0, none, 0, 0, 0, 0, S)))
def KOB_X1_blockFits_82 (N g H T : Nat) (rok : Nat → Option Nat → Int32 → Int32 → Int32 → Int32 → Int32 → Int32 → cS → Prop) (x0 : Nat) (x1 : Option Nat) (x2 : Int32) (x3 : Int32) (x4 : Int32) (x5 : Int32) (x6 : Int32) (x7 : Int32) (S : cS) : Prop := ((x5 ≤ x7 → True) ∧ (¬ x5 ≤ x7 → (p_X1_evidenceFits N g H T S x0 x1 x6 x3) ∧ ((0 ≤ (k_X1_evidenceFits N g H T S x0 x1 x6 x3) → rok x0 x1 x2 x3 x4 x5 (k_X1_evidenceFits N g H T S x0 x1 x6 x3) (x7 + nI 1) S) ∧ (¬ 0 ≤ (k_X1_evidenceFits N g H T S x0 x1 x6 x3) → True))))
set_option maxRecDepth 100000 in
set_option maxHeartbeats 4000000 in
theorem kbb_X1_blockFits_82 {G : zG} {o : cO} {u g H T N : Nat} {S : cS} {S0 : cS} {Q : Option Value → cS → Prop} {X : Nat × Nat × Option Nat × Int32 × Int32 × Int32 × Int32 × cS → Prop} (hG : zOK G) (hX0 : ∀ (x0 : Nat) (x1 : Option Nat) (x2 : Int32) (x3 : Int32) (x4 : Int32) (x6 : Int32) (S' : cS), St u g H T S' → Mono S0 S' → X (0, x0, x1, x2, x3, x4, x6, S') → cX G o dX1_blockFits mX1_blockFits 104 [none, none, none, none, none, none, none, none] [] S' Q) (hX1 : ∀ (x0 : Nat) (x1 : Option Nat) (x2 : Int32) (x3 : Int32) (x4 : Int32) (x6 : Int32) (S' : cS), St u g H T S' → Mono S0 S' → isO g H 1 x0 → tK S' 20 x1 → X (1, x0, x1, x2, x3, x4, x6, S') → cX G o dX1_blockFits mX1_blockFits 112 [some (va_rf (some x0)), some (va_rf x1), some (.int x2), some (.int x3), some (.int x4), none, some (.int x6), none] [] S' Q) {rec : Nat → Option Nat → Int32 → Int32 → Int32 → Int32 → Int32 → Int32 → cS → Nat × Nat × Option Nat × Int32 × Int32 × Int32 × Int32 × cS} {rok : Nat → Option Nat → Int32 → Int32 → Int32 → Int32 → Int32 → Int32 → cS → Prop} (hrec : ∀ (x0 : Nat) (x1 : Option Nat) (x2 : Int32) (x3 : Int32) (x4 : Int32) (x5 : Int32) (x6 : Int32) (x7 : Int32) (S : cS), St u g H T S → Mono S0 S → isO g H 1 x0 → tK S 20 x1 → rok x0 x1 x2 x3 x4 x5 x6 x7 S → X (rec x0 x1 x2 x3 x4 x5 x6 x7 S) → cX G o dX1_blockFits mX1_blockFits 82 [some (va_rf (some x0)), some (va_rf x1), some (.int x2), some (.int x3), some (.int x4), some (.int x5), some (.int x6), some (.int x7)] [] S Q) {x0 : Nat} {x1 : Option Nat} {x2 : Int32} {x3 : Int32} {x4 : Int32} {x5 : Int32} {x6 : Int32} {x7 : Int32} (hS : St u g H T S) (hM : Mono S0 S) (t_x0 : isO g H 1 x0) (t_x1 : tK S 20 x1) (ok : KOB_X1_blockFits_82 N g H T rok x0 x1 x2 x3 x4 x5 x6 x7 S) (hx : X (KB_X1_blockFits_82 N g H T rec x0 x1 x2 x3 x4 x5 x6 x7 S)) : cX G o dX1_blockFits mX1_blockFits 82 [some (va_rf (some x0)), some (va_rf x1), some (.int x2), some (.int x3), some (.int x4), some (.int x5), some (.int x6), some (.int x7)] [] S Q := by
  unfold KOB_X1_blockFits_82 at ok
  unfold KB_X1_blockFits_82 at hx
  refine c_iload dX1_blockFits_82 rfl ?_
  refine c_iload dX1_blockFits_84 rfl ?_
  refine c_icmp_ge (tgt := 112) dX1_blockFits_86 (by decide) (fun c_86 => ?_) (fun c_86 => ?_)
  · have ok := ok.1 c_86
    have hx := xif_p c_86 hx
    exact cX.cutz (hX1 _ _ _ _ _ _ S hS hM t_x0 t_x1 hx) ⟨rfl, rfl, rfl, rfl, rfl, rfl, trivial⟩
  · have ok := ok.2 c_86
    have hx := xif_n c_86 hx
    refine c_aload_nQ dX1_blockFits_89 rfl rfl ?_
    refine c_aload_nQ dX1_blockFits_90 rfl rfl ?_
    refine c_iload dX1_blockFits_91 rfl ?_
    refine c_iload_n dX1_blockFits_93 rfl rfl ?_
    refine c_V3iE (ci := 1) (rr := (RX1, TX1, 3)) (y' := mX1_evidenceFits) dX1_blockFits_94 lX1_80 kX1_evidenceFits ⟨by decide, by decide⟩ rfl rfl (by decide) (hS.k t_x0) (Nat.le_of_ble_eq_true rfl) (kc_X1_evidenceFits hG hS t_x0 t_x1 ok.1) ?_
    have ok := ok.2
    refine c_istore_6 dX1_blockFits_97 (by decide) rfl ?_
    refine c_iload dX1_blockFits_99 rfl ?_
    refine c_if_ge (tgt := 106) dX1_blockFits_101 (by decide) (fun c_101 => ?_) (fun c_101 => ?_)
    · have ok := ok.1 c_101
      have hx := xif_p c_101 hx
      refine c_iinc_7 (v := (x7 + nI 1)) dX1_blockFits_106 rfl (by first | rfl | (congr 1)) (by decide) rfl ?_
      refine c_goto (tgt := 82) dX1_blockFits_109 (by decide) ?_
      exact cX.cutz (hrec _ _ _ _ _ _ _ _ S hS hM t_x0 t_x1 ok hx) ⟨rfl, rfl, rfl, rfl, rfl, rfl, rfl, rfl, trivial⟩
    · have ok := ok.2 c_101
      have hx := xif_n c_101 hx
      exact cX.cutz (hX0 _ _ _ _ _ _ S hS hM  hx) trivial
def KL_X1_blockFits_82 (N g H T : Nat) : Nat → Nat → Option Nat → Int32 → Int32 → Int32 → Int32 → Int32 → Int32 → cS → Nat × Nat × Option Nat × Int32 × Int32 × Int32 × Int32 × cS
  | 0, x0, x1, x2, x3, x4, x5, x6, x7, S => (0, 0, none, 0, 0, 0, 0, S)
  | n + 1, x0, x1, x2, x3, x4, x5, x6, x7, S => KB_X1_blockFits_82 N g H T (KL_X1_blockFits_82 N g H T n) x0 x1 x2 x3 x4 x5 x6 x7 S
def KOL_X1_blockFits_82 (N g H T : Nat) : Nat → Nat → Option Nat → Int32 → Int32 → Int32 → Int32 → Int32 → Int32 → cS → Prop
  | 0, _, _, _, _, _, _, _, _, _ => False
  | n + 1, x0, x1, x2, x3, x4, x5, x6, x7, S => KOB_X1_blockFits_82 N g H T (KOL_X1_blockFits_82 N g H T n) x0 x1 x2 x3 x4 x5 x6 x7 S
set_option maxRecDepth 100000 in
set_option maxHeartbeats 4000000 in
theorem kl_X1_blockFits_82 {G : zG} {o : cO} {u g H T N : Nat} {S0 : cS} {Q : Option Value → cS → Prop} {X : Nat × Nat × Option Nat × Int32 × Int32 × Int32 × Int32 × cS → Prop} (hG : zOK G) (hX0 : ∀ (x0 : Nat) (x1 : Option Nat) (x2 : Int32) (x3 : Int32) (x4 : Int32) (x6 : Int32) (S' : cS), St u g H T S' → Mono S0 S' → X (0, x0, x1, x2, x3, x4, x6, S') → cX G o dX1_blockFits mX1_blockFits 104 [none, none, none, none, none, none, none, none] [] S' Q) (hX1 : ∀ (x0 : Nat) (x1 : Option Nat) (x2 : Int32) (x3 : Int32) (x4 : Int32) (x6 : Int32) (S' : cS), St u g H T S' → Mono S0 S' → isO g H 1 x0 → tK S' 20 x1 → X (1, x0, x1, x2, x3, x4, x6, S') → cX G o dX1_blockFits mX1_blockFits 112 [some (va_rf (some x0)), some (va_rf x1), some (.int x2), some (.int x3), some (.int x4), none, some (.int x6), none] [] S' Q) : ∀ (n : Nat) (x0 : Nat) (x1 : Option Nat) (x2 : Int32) (x3 : Int32) (x4 : Int32) (x5 : Int32) (x6 : Int32) (x7 : Int32) (S : cS), St u g H T S → Mono S0 S → isO g H 1 x0 → tK S 20 x1 → KOL_X1_blockFits_82 N g H T n x0 x1 x2 x3 x4 x5 x6 x7 S → X (KL_X1_blockFits_82 N g H T n x0 x1 x2 x3 x4 x5 x6 x7 S) → cX G o dX1_blockFits mX1_blockFits 82 [some (va_rf (some x0)), some (va_rf x1), some (.int x2), some (.int x3), some (.int x4), some (.int x5), some (.int x6), some (.int x7)] [] S Q := by
  intro n
  induction n with
  | zero => intro x0 x1 x2 x3 x4 x5 x6 x7 S hS hM t_x0 t_x1 ok; exact absurd ok id
  | succ n ih =>
    intro x0 x1 x2 x3 x4 x5 x6 x7 S hS hM t_x0 t_x1 ok hx
    exact kbb_X1_blockFits_82 hG hX0 hX1 (rec := KL_X1_blockFits_82 N g H T n) (rok := KOL_X1_blockFits_82 N g H T n) (fun x0 x1 x2 x3 x4 x5 x6 x7 S hS hM t_x0 t_x1 ok hx => ih x0 x1 x2 x3 x4 x5 x6 x7 S hS hM t_x0 t_x1 ok hx) hS hM t_x0 t_x1 ok hx
def KA_X1_blockFits_82 (N g H T : Nat) (x0 : Nat) (x1 : Option Nat) (x2 : Int32) (x3 : Int32) (x4 : Int32) (x5 : Int32) (x6 : Int32) (x7 : Int32) (S : cS) (z : Nat × Nat × Option Nat × Int32 × Int32 × Int32 × Int32 × cS) : Int32 × cS := (if z.1 = 0 then (KF_X1_blockFits_104 N g H T z.2.2.2.2.2.2.2) else (KF_X1_blockFits_112 N g H T (z.2.1) (z.2.2.1) (z.2.2.2.1) (z.2.2.2.2.1) (z.2.2.2.2.2.1) (z.2.2.2.2.2.2.1) z.2.2.2.2.2.2.2))
def KOA_X1_blockFits_82 (N g H T : Nat) (x0 : Nat) (x1 : Option Nat) (x2 : Int32) (x3 : Int32) (x4 : Int32) (x5 : Int32) (x6 : Int32) (x7 : Int32) (S : cS) (z : Nat × Nat × Option Nat × Int32 × Int32 × Int32 × Int32 × cS) : Prop := (if z.1 = 0 then KO_X1_blockFits_104 N g H T z.2.2.2.2.2.2.2 else KO_X1_blockFits_112 N g H T (z.2.1) (z.2.2.1) (z.2.2.2.1) (z.2.2.2.2.1) (z.2.2.2.2.2.1) (z.2.2.2.2.2.2.1) z.2.2.2.2.2.2.2)
set_option maxRecDepth 100000 in
set_option maxHeartbeats 4000000 in
theorem kd_X1_blockFits_82 {G : zG} {o : cO} {u g H T N : Nat} {S : cS} {S0 : cS} {Q : Option Value → cS → Prop} {X : Int32 × cS → Prop} (hG : zOK G) (hR : ∀ v S', St u g H T S' → Mono S0 S' → X (v, S') → Q (some (.int v)) S') {x0 : Nat} {x1 : Option Nat} {x2 : Int32} {x3 : Int32} {x4 : Int32} {x5 : Int32} {x6 : Int32} {x7 : Int32} (hS : St u g H T S) (hM : Mono S0 S) (t_x0 : isO g H 1 x0) (t_x1 : tK S 20 x1) (ok : KOL_X1_blockFits_82 N g H T N x0 x1 x2 x3 x4 x5 x6 x7 S ∧ KOA_X1_blockFits_82 N g H T x0 x1 x2 x3 x4 x5 x6 x7 S (KL_X1_blockFits_82 N g H T N x0 x1 x2 x3 x4 x5 x6 x7 S)) (hx : X (KA_X1_blockFits_82 N g H T x0 x1 x2 x3 x4 x5 x6 x7 S (KL_X1_blockFits_82 N g H T N x0 x1 x2 x3 x4 x5 x6 x7 S))) : cX G o dX1_blockFits mX1_blockFits 82 [some (va_rf (some x0)), some (va_rf x1), some (.int x2), some (.int x3), some (.int x4), some (.int x5), some (.int x6), some (.int x7)] [] S Q := by
  refine kl_X1_blockFits_82 hG ?_ ?_ N x0 x1 x2 x3 x4 x5 x6 x7 S hS hM t_x0 t_x1 ok.1 (X := fun z => KOA_X1_blockFits_82 N g H T x0 x1 x2 x3 x4 x5 x6 x7 S z ∧ X (KA_X1_blockFits_82 N g H T x0 x1 x2 x3 x4 x5 x6 x7 S z)) ⟨ok.2, hx⟩
  · intro x0' x1' x2' x3' x4' x6' S' hS hM hz
    obtain ⟨ok, hx⟩ := hz
    unfold KOA_X1_blockFits_82 at ok
    unfold KA_X1_blockFits_82 at hx
    have ok := xif_P (show (0 : Nat) = 0 from rfl) ok
    have hx := xif_p (show (0 : Nat) = 0 from rfl) hx
    exact cX.cutz (kb_X1_blockFits_104 hG hR hS hM  ok hx) trivial
  · intro x0' x1' x2' x3' x4' x6' S' hS hM t_x0 t_x1 hz
    obtain ⟨ok, hx⟩ := hz
    unfold KOA_X1_blockFits_82 at ok
    unfold KA_X1_blockFits_82 at hx
    have ok := xif_N (show ¬ (1 : Nat) = 0 by decide) ok
    have hx := xif_n (show ¬ (1 : Nat) = 0 by decide) hx
    exact cX.cutz (kb_X1_blockFits_112 hG hR hS hM t_x0 t_x1 ok hx) ⟨rfl, rfl, rfl, rfl, rfl, rfl, trivial⟩
def KF_X1_blockFits_71 (N g H T : Nat)  (S : cS) : Int32 × cS := ((nI 0), S)
def KO_X1_blockFits_71 (N g H T : Nat)  (S : cS) : Prop := True
set_option maxRecDepth 100000 in
set_option maxHeartbeats 4000000 in
theorem kb_X1_blockFits_71 {G : zG} {o : cO} {u g H T N : Nat} {S : cS} {S0 : cS} {Q : Option Value → cS → Prop} {X : Int32 × cS → Prop} (hG : zOK G) (hR : ∀ v S', St u g H T S' → Mono S0 S' → X (v, S') → Q (some (.int v)) S') (hS : St u g H T S) (hM : Mono S0 S) (ok : KO_X1_blockFits_71 N g H T S) (hx : X (KF_X1_blockFits_71 N g H T S)) : cX G o dX1_blockFits mX1_blockFits 71 [none, none, none, none, none, none, none, none] [] S Q := by
  unfold KO_X1_blockFits_71 at ok
  unfold KF_X1_blockFits_71 at hx
  refine c_iconst (v := nI 0) dX1_blockFits_71 (by decide) ?_
  exact c_ireturn rfl rfl dX1_blockFits_72 (hR _ _ hS hM hx)
def KF_X1_blockFits_32 (N g H T : Nat)  (S : cS) : Int32 × cS := ((nI 0), S)
def KO_X1_blockFits_32 (N g H T : Nat)  (S : cS) : Prop := True
set_option maxRecDepth 100000 in
set_option maxHeartbeats 4000000 in
theorem kb_X1_blockFits_32 {G : zG} {o : cO} {u g H T N : Nat} {S : cS} {S0 : cS} {Q : Option Value → cS → Prop} {X : Int32 × cS → Prop} (hG : zOK G) (hR : ∀ v S', St u g H T S' → Mono S0 S' → X (v, S') → Q (some (.int v)) S') (hS : St u g H T S) (hM : Mono S0 S) (ok : KO_X1_blockFits_32 N g H T S) (hx : X (KF_X1_blockFits_32 N g H T S)) : cX G o dX1_blockFits mX1_blockFits 32 [none, none, none, none, none, none, none, none] [] S Q := by
  unfold KO_X1_blockFits_32 at ok
  unfold KF_X1_blockFits_32 at hx
  refine c_iconst (v := nI 0) dX1_blockFits_32 (by decide) ?_
  exact c_ireturn rfl rfl dX1_blockFits_33 (hR _ _ hS hM hx)
def KF_X1_blockFits_0 (N g H T : Nat) (x0 : Nat) (x1 : Option Nat) (x2 : Int32) (x3 : Int32) (S : cS) : Int32 × cS := (if (x3 - x2) < (nI 101) then (KF_X1_blockFits_32 N g H T S) else (if (k_X1_heightFits N g H T S x1 x2) = 0 then (KF_X1_blockFits_32 N g H T S) else (if ((cA S (za x1) (x2 + (nI 2)).toNatClampNeg) &&& (nI 255)) < (cI S 1 x0) then (if (nI 64) < ((cA S (za x1) (x2 + (nI 99)).toNatClampNeg) &&& (nI 255)) then (KF_X1_blockFits_71 N g H T S) else (if ((cA S (za x1) (x2 + (nI 100)).toNatClampNeg) &&& (nI 255)) ≤ (nI 2) then (KA_X1_blockFits_82 N g H T x0 x1 x2 x3 ((cA S (za x1) (x2 + (nI 99)).toNatClampNeg) &&& (nI 255)) ((cA S (za x1) (x2 + (nI 100)).toNatClampNeg) &&& (nI 255)) (x2 + (nI 101)) (nI 0) S (KL_X1_blockFits_82 N g H T N x0 x1 x2 x3 ((cA S (za x1) (x2 + (nI 99)).toNatClampNeg) &&& (nI 255)) ((cA S (za x1) (x2 + (nI 100)).toNatClampNeg) &&& (nI 255)) (x2 + (nI 101)) (nI 0) S)) else (KF_X1_blockFits_71 N g H T S))) else (KF_X1_blockFits_32 N g H T S))))
def KO_X1_blockFits_0 (N g H T : Nat) (x0 : Nat) (x1 : Option Nat) (x2 : Int32) (x3 : Int32) (S : cS) : Prop := (((x3 - x2) < (nI 101) → KO_X1_blockFits_32 N g H T S) ∧ (¬ (x3 - x2) < (nI 101) → (p_X1_heightFits N g H T S x1 x2) ∧ (((k_X1_heightFits N g H T S x1 x2) = 0 → KO_X1_blockFits_32 N g H T S) ∧ (¬ (k_X1_heightFits N g H T S x1 x2) = 0 → (¬ x1 = none ∧ vp_in (x2 + (nI 2)) (cL S (za x1))) ∧ ((((cA S (za x1) (x2 + (nI 2)).toNatClampNeg) &&& (nI 255)) < (cI S 1 x0) → (¬ x1 = none ∧ vp_in (x2 + (nI 99)) (cL S (za x1))) ∧ (¬ x1 = none ∧ vp_in (x2 + (nI 100)) (cL S (za x1))) ∧ (((nI 64) < ((cA S (za x1) (x2 + (nI 99)).toNatClampNeg) &&& (nI 255)) → KO_X1_blockFits_71 N g H T S) ∧ (¬ (nI 64) < ((cA S (za x1) (x2 + (nI 99)).toNatClampNeg) &&& (nI 255)) → ((((cA S (za x1) (x2 + (nI 100)).toNatClampNeg) &&& (nI 255)) ≤ (nI 2) → (KOL_X1_blockFits_82 N g H T N x0 x1 x2 x3 ((cA S (za x1) (x2 + (nI 99)).toNatClampNeg) &&& (nI 255)) ((cA S (za x1) (x2 + (nI 100)).toNatClampNeg) &&& (nI 255)) (x2 + (nI 101)) (nI 0) S ∧ KOA_X1_blockFits_82 N g H T x0 x1 x2 x3 ((cA S (za x1) (x2 + (nI 99)).toNatClampNeg) &&& (nI 255)) ((cA S (za x1) (x2 + (nI 100)).toNatClampNeg) &&& (nI 255)) (x2 + (nI 101)) (nI 0) S (KL_X1_blockFits_82 N g H T N x0 x1 x2 x3 ((cA S (za x1) (x2 + (nI 99)).toNatClampNeg) &&& (nI 255)) ((cA S (za x1) (x2 + (nI 100)).toNatClampNeg) &&& (nI 255)) (x2 + (nI 101)) (nI 0) S))) ∧ (¬ ((cA S (za x1) (x2 + (nI 100)).toNatClampNeg) &&& (nI 255)) ≤ (nI 2) → KO_X1_blockFits_71 N g H T S))))) ∧ (¬ ((cA S (za x1) (x2 + (nI 2)).toNatClampNeg) &&& (nI 255)) < (cI S 1 x0) → KO_X1_blockFits_32 N g H T S))))))
set_option maxRecDepth 100000 in
set_option maxHeartbeats 4000000 in
theorem kb_X1_blockFits_0 {G : zG} {o : cO} {u g H T N : Nat} {S : cS} {S0 : cS} {Q : Option Value → cS → Prop} {X : Int32 × cS → Prop} (hG : zOK G) (hR : ∀ v S', St u g H T S' → Mono S0 S' → X (v, S') → Q (some (.int v)) S') {x0 : Nat} {x1 : Option Nat} {x2 : Int32} {x3 : Int32} (hS : St u g H T S) (hM : Mono S0 S) (t_x0 : isO g H 1 x0) (t_x1 : tK S 20 x1) (ok : KO_X1_blockFits_0 N g H T x0 x1 x2 x3 S) (hx : X (KF_X1_blockFits_0 N g H T x0 x1 x2 x3 S)) : cX G o dX1_blockFits mX1_blockFits 0 [some (va_rf (some x0)), some (va_rf x1), some (.int x2), some (.int x3), none, none, none, none] [] S Q := by
  unfold KO_X1_blockFits_0 at ok
  unfold KF_X1_blockFits_0 at hx
  refine c_iload_n dX1_blockFits_0 rfl rfl ?_
  refine c_iload_n dX1_blockFits_1 rfl rfl ?_
  refine c_isub dX1_blockFits_2 ?_
  refine c_bipush (v := nI 101) dX1_blockFits_3 (by decide) ?_
  refine c_icmp_lt (tgt := 32) dX1_blockFits_5 (by decide) (fun c_5 => ?_) (fun c_5 => ?_)
  · have ok := ok.1 c_5
    have hx := xif_p c_5 hx
    exact cX.cutz (kb_X1_blockFits_32 hG hR hS hM  ok hx) trivial
  · have ok := ok.2 c_5
    have hx := xif_n c_5 hx
    refine c_aload_nQ dX1_blockFits_8 rfl rfl ?_
    refine c_iload_n dX1_blockFits_9 rfl rfl ?_
    refine c_S2iE (y' := mX1_heightFits) dX1_blockFits_10 lX1_77 kX1_heightFits ⟨by decide, by decide⟩ (Nat.le_of_ble_eq_true rfl) (kc_X1_heightFits hG hS t_x1 ok.1) ?_
    have ok := ok.2
    refine c_if_eq (tgt := 32) dX1_blockFits_13 (by decide) (fun c_13 => ?_) (fun c_13 => ?_)
    · have ok := ok.1 c_13
      have hx := xif_p c_13 hx
      exact cX.cutz (kb_X1_blockFits_32 hG hR hS hM  ok hx) trivial
    · have ok := ok.2 c_13
      have hx := xif_n c_13 hx
      refine c_aload_nQ dX1_blockFits_16 rfl rfl ?_
      refine c_iload_n dX1_blockFits_17 rfl rfl ?_
      refine c_iconst (v := nI 2) dX1_blockFits_18 (by decide) ?_
      refine c_iadd dX1_blockFits_19 ?_
      refine c_bald dX1_blockFits_20 ⟨(tK.cis t_x1 ok.1.1), ok.1.2⟩ ?_
      have ok := ok.2
      refine c_sipush (v := nI 255) dX1_blockFits_21 (by decide) ?_
      refine c_iand dX1_blockFits_24 ?_
      refine c_aload_nQ dX1_blockFits_25 rfl rfl ?_
      refine c_getI (C := RX1) (T := TX1) (N := 3) (ci := 1) (k := 1) ⟨rfl, inT1, by decide, fX1_19⟩ (by decide) (by decide) (by decide) dX1_blockFits_26 (hS.k t_x0) ?_
      refine c_icmp_lt (tgt := 34) dX1_blockFits_29 (by decide) (fun c_29 => ?_) (fun c_29 => ?_)
      · have ok := ok.1 c_29
        have hx := xif_p c_29 hx
        refine c_aload_nQ dX1_blockFits_34 rfl rfl ?_
        refine c_iload_n dX1_blockFits_35 rfl rfl ?_
        refine c_bipush (v := nI 99) dX1_blockFits_36 (by decide) ?_
        refine c_iadd dX1_blockFits_38 ?_
        refine c_bald dX1_blockFits_39 ⟨(tK.cis t_x1 ok.1.1), ok.1.2⟩ ?_
        have ok := ok.2
        refine c_sipush (v := nI 255) dX1_blockFits_40 (by decide) ?_
        refine c_iand dX1_blockFits_43 ?_
        refine c_istore_4 dX1_blockFits_44 (by decide) rfl ?_
        refine c_aload_nQ dX1_blockFits_46 rfl rfl ?_
        refine c_iload_n dX1_blockFits_47 rfl rfl ?_
        refine c_bipush (v := nI 100) dX1_blockFits_48 (by decide) ?_
        refine c_iadd dX1_blockFits_50 ?_
        refine c_bald dX1_blockFits_51 ⟨(tK.cis t_x1 ok.1.1), ok.1.2⟩ ?_
        have ok := ok.2
        refine c_sipush (v := nI 255) dX1_blockFits_52 (by decide) ?_
        refine c_iand dX1_blockFits_55 ?_
        refine c_istore_5 dX1_blockFits_56 (by decide) rfl ?_
        refine c_iload dX1_blockFits_58 rfl ?_
        refine c_bipush (v := nI 64) dX1_blockFits_60 (by decide) ?_
        refine c_icmp_gt (tgt := 71) dX1_blockFits_62 (by decide) (fun c_62 => ?_) (fun c_62 => ?_)
        · have ok := ok.1 c_62
          have hx := xif_p c_62 hx
          exact cX.cutz (kb_X1_blockFits_71 hG hR hS hM  ok hx) trivial
        · have ok := ok.2 c_62
          have hx := xif_n c_62 hx
          refine c_iload dX1_blockFits_65 rfl ?_
          refine c_iconst (v := nI 2) dX1_blockFits_67 (by decide) ?_
          refine c_icmp_le (tgt := 73) dX1_blockFits_68 (by decide) (fun c_68 => ?_) (fun c_68 => ?_)
          · have ok := ok.1 c_68
            have hx := xif_p c_68 hx
            refine c_iload_n dX1_blockFits_73 rfl rfl ?_
            refine c_bipush (v := nI 101) dX1_blockFits_74 (by decide) ?_
            refine c_iadd dX1_blockFits_76 ?_
            refine c_istore_6 dX1_blockFits_77 (by decide) rfl ?_
            refine c_iconst (v := nI 0) dX1_blockFits_79 (by decide) ?_
            refine c_istore_7 dX1_blockFits_80 (by decide) rfl ?_
            exact cX.cutz (kd_X1_blockFits_82 hG hR hS hM t_x0 t_x1 ok hx) ⟨rfl, rfl, rfl, rfl, rfl, rfl, rfl, rfl, trivial⟩
          · have ok := ok.2 c_68
            have hx := xif_n c_68 hx
            exact cX.cutz (kb_X1_blockFits_71 hG hR hS hM  ok hx) trivial
      · have ok := ok.2 c_29
        have hx := xif_n c_29 hx
        exact cX.cutz (kb_X1_blockFits_32 hG hR hS hM  ok hx) trivial
def k_X1_blockFits (N g H T : Nat) (S : cS) (a0 : Nat) (x1 : Option Nat) (x2 : Int32) (x3 : Int32) : Int32 × cS := KF_X1_blockFits_0 N g H T a0 x1 x2 x3 S
def p_X1_blockFits (N g H T : Nat) (S : cS) (a0 : Nat) (x1 : Option Nat) (x2 : Int32) (x3 : Int32) : Prop := KO_X1_blockFits_0 N g H T a0 x1 x2 x3 S
set_option maxRecDepth 100000 in
set_option maxHeartbeats 4000000 in
theorem kc_X1_blockFits {G : zG} {o : cO} {u g H T N : Nat} {S : cS} (hG : zOK G) {a0 : Nat} {x1 : Option Nat} {x2 : Int32} {x3 : Int32} (hS : St u g H T S) (t_x0 : isO g H 1 a0) (t_x1 : tK S 20 x1) (ok : p_X1_blockFits N g H T S a0 x1 x2 x3) : cCi G o dX1_blockFits mX1_blockFits [.ref a0, va_rf x1, .int x2, .int x3] S (fun v S' => (v = (k_X1_blockFits N g H T S a0 x1 x2 x3).1 ∧ S' = (k_X1_blockFits N g H T S a0 x1 x2 x3).2) ∧ St u g H T S' ∧ Mono S S') := by
  refine cC.ofX rfl (by cases x1 <;> exact Nat.le_of_ble_eq_true rfl) ?_
  rw [show zargs mX1_blockFits.2.2.1 [.ref a0, va_rf x1, .int x2, .int x3] = [some (va_rf (some a0)), some (va_rf x1), some (.int x2), some (.int x3), none, none, none, none] from by cases x1 <;> rfl]
  exact cX.cutz (kb_X1_blockFits_0 (X := fun F => F = k_X1_blockFits N g H T S a0 x1 x2 x3) hG (fun v S' h1 h2 h => ⟨v, rfl, ⟨by rw [← h], by rw [← h]⟩, h1, h2⟩) hS Mono.rfl' t_x0 t_x1 ok rfl) ⟨rfl, rfl, rfl, rfl, trivial⟩

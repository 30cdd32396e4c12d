/-! J7_fill_53178 -/
def F_J7_fill_53178_20 (N : Nat)  (S : cS) : cS := S
def O_J7_fill_53178_20 (N : Nat)  (S : cS) : Prop := True
set_option maxRecDepth 100000 in
set_option maxHeartbeats 4000000 in
theorem b_J7_fill_53178_20 {G : zG} {o : cO} {S : cS} {N : Nat} {Q : Option Value → cS → Prop} {X : cS → Prop} (hG : zOK G) (hR : ∀ S', X S' → Q none S') (ok : O_J7_fill_53178_20 N S) (hx : X (F_J7_fill_53178_20 N S)) : cX G o dJ7_fill_53178 mJ7_fill_53178 20 [none, none, none, none] [] S Q := by
  unfold O_J7_fill_53178_20 at ok
  unfold F_J7_fill_53178_20 at hx
  exact c_return rfl dJ7_fill_53178_20 (hR _ hx)
def B_J7_fill_53178_5 (N : Nat) (rec : Option Nat → Int32 → Int32 → Int32 → cS → Nat × cS) (x0 : Option Nat) (x1 : Int32) (x2 : Int32) (x3 : Int32) (S : cS) : Nat × cS := (if x3 ≤ x2 then (0, S) else (rec x0 x1 (x2 + nI 1) x3 (csA S (za x0) x2.toNatClampNeg x1)))
def OB_J7_fill_53178_5 (N : Nat) (rok : Option Nat → Int32 → Int32 → Int32 → cS → Prop) (x0 : Option Nat) (x1 : Int32) (x2 : Int32) (x3 : Int32) (S : cS) : Prop := ((x3 ≤ x2 → True) ∧ (¬ x3 ≤ x2 → (cis S x0 21 ∧ vp_in x2 (cL S (za x0))) ∧ rok x0 x1 (x2 + nI 1) x3 (csA S (za x0) x2.toNatClampNeg x1)))
set_option maxRecDepth 100000 in
set_option maxHeartbeats 4000000 in
theorem bb_J7_fill_53178_5 {G : zG} {o : cO} {S : cS} {N : Nat} {Q : Option Value → cS → Prop} {X : Nat × cS → Prop} (hG : zOK G) (hX0 : ∀ (S' : cS), X (0, S') → cX G o dJ7_fill_53178 mJ7_fill_53178 20 [none, none, none, none] [] S' Q) {rec : Option Nat → Int32 → Int32 → Int32 → cS → Nat × cS} {rok : Option Nat → Int32 → Int32 → Int32 → cS → Prop} (hrec : ∀ (x0 : Option Nat) (x1 : Int32) (x2 : Int32) (x3 : Int32) (S : cS), rok x0 x1 x2 x3 S → X (rec x0 x1 x2 x3 S) → cX G o dJ7_fill_53178 mJ7_fill_53178 5 [some (va_rf x0), some (.int x1), some (.int x2), some (.int x3)] [] S Q) {x0 : Option Nat} {x1 : Int32} {x2 : Int32} {x3 : Int32} (ok : OB_J7_fill_53178_5 N rok x0 x1 x2 x3 S) (hx : X (B_J7_fill_53178_5 N rec x0 x1 x2 x3 S)) : cX G o dJ7_fill_53178 mJ7_fill_53178 5 [some (va_rf x0), some (.int x1), some (.int x2), some (.int x3)] [] S Q := by
  unfold OB_J7_fill_53178_5 at ok
  unfold B_J7_fill_53178_5 at hx
  refine c_iload_n dJ7_fill_53178_5 rfl rfl ?_
  refine c_iload_n dJ7_fill_53178_6 rfl rfl ?_
  refine c_icmp_ge (tgt := 20) dJ7_fill_53178_7 (by decide) (fun c_7 => ?_) (fun c_7 => ?_)
  · have ok := ok.1 c_7
    have hx := xif_p c_7 hx
    exact cX.cutz (hX0 S hx) trivial
  · have ok := ok.2 c_7
    have hx := xif_n c_7 hx
    refine c_aload_nQ dJ7_fill_53178_10 rfl rfl ?_
    refine c_iload_n dJ7_fill_53178_11 rfl rfl ?_
    refine c_iload_n dJ7_fill_53178_12 rfl rfl ?_
    refine c_iast hG dJ7_fill_53178_13 ok.1 ?_
    have ok := ok.2
    refine c_iinc_2 (v := (x2 + nI 1)) dJ7_fill_53178_14 rfl (by first | rfl | (congr 1)) (by decide) rfl ?_
    refine c_goto (tgt := 5) dJ7_fill_53178_17 (by decide) ?_
    exact cX.cutz (hrec _ _ _ _ (csA S (za x0) x2.toNatClampNeg x1) ok hx) ⟨rfl, rfl, rfl, rfl, trivial⟩
def L_J7_fill_53178_5 (N : Nat) : Nat → Option Nat → Int32 → Int32 → Int32 → cS → Nat × cS
  | 0, x0, x1, x2, x3, S => (0, S)
  | n + 1, x0, x1, x2, x3, S => B_J7_fill_53178_5 N (L_J7_fill_53178_5 N n) x0 x1 x2 x3 S
def OL_J7_fill_53178_5 (N : Nat) : Nat → Option Nat → Int32 → Int32 → Int32 → cS → Prop
  | 0, _, _, _, _, _ => False
  | n + 1, x0, x1, x2, x3, S => OB_J7_fill_53178_5 N (OL_J7_fill_53178_5 N n) x0 x1 x2 x3 S
set_option maxRecDepth 100000 in
set_option maxHeartbeats 4000000 in
theorem l_J7_fill_53178_5 {G : zG} {o : cO} {N : Nat} {Q : Option Value → cS → Prop} {X : Nat × cS → Prop} (hG : zOK G) (hX0 : ∀ (S' : cS), X (0, S') → cX G o dJ7_fill_53178 mJ7_fill_53178 20 [none, none, none, none] [] S' Q) : ∀ (n : Nat) (x0 : Option Nat) (x1 : Int32) (x2 : Int32) (x3 : Int32) (S : cS), OL_J7_fill_53178_5 N n x0 x1 x2 x3 S → X (L_J7_fill_53178_5 N n x0 x1 x2 x3 S) → cX G o dJ7_fill_53178 mJ7_fill_53178 5 [some (va_rf x0), some (.int x1), some (.int x2), some (.int x3)] [] S Q := by
  intro n
  induction n with
  | zero => intro x0 x1 x2 x3 S ok; exact absurd ok id
  | succ n ih =>
    intro x0 x1 x2 x3 S ok hx
    exact bb_J7_fill_53178_5 hG hX0 (rec := L_J7_fill_53178_5 N n) (rok := OL_J7_fill_53178_5 N n) (fun x0 x1 x2 x3 S ok hx => ih x0 x1 x2 x3 S ok hx) ok hx
def A_J7_fill_53178_5 (N : Nat) (x0 : Option Nat) (x1 : Int32) (x2 : Int32) (x3 : Int32) (S : cS) (z : Nat × cS) : cS := (F_J7_fill_53178_20 N z.2)
def OA_J7_fill_53178_5 (N : Nat) (x0 : Option Nat) (x1 : Int32) (x2 : Int32) (x3 : Int32) (S : cS) (z : Nat × cS) : Prop := O_J7_fill_53178_20 N z.2
set_option maxRecDepth 100000 in
set_option maxHeartbeats 4000000 in
theorem c_J7_fill_53178_5 {G : zG} {o : cO} {S : cS} {N : Nat} {Q : Option Value → cS → Prop} {X : cS → Prop} (hG : zOK G) (hR : ∀ S', X S' → Q none S') {x0 : Option Nat} {x1 : Int32} {x2 : Int32} {x3 : Int32} (ok : OL_J7_fill_53178_5 N N x0 x1 x2 x3 S ∧ OA_J7_fill_53178_5 N x0 x1 x2 x3 S (L_J7_fill_53178_5 N N x0 x1 x2 x3 S)) (hx : X (A_J7_fill_53178_5 N x0 x1 x2 x3 S (L_J7_fill_53178_5 N N x0 x1 x2 x3 S))) : cX G o dJ7_fill_53178 mJ7_fill_53178 5 [some (va_rf x0), some (.int x1), some (.int x2), some (.int x3)] [] S Q := by
  refine l_J7_fill_53178_5 hG ?_ N x0 x1 x2 x3 S ok.1 (X := fun z => OA_J7_fill_53178_5 N x0 x1 x2 x3 S z ∧ X (A_J7_fill_53178_5 N x0 x1 x2 x3 S z)) ⟨ok.2, hx⟩
  · intro S' hz
    obtain ⟨ok, hx⟩ := hz
    unfold OA_J7_fill_53178_5 at ok
    unfold A_J7_fill_53178_5 at hx
    exact cX.cutz (b_J7_fill_53178_20 hG hR ok hx) trivial
def F_J7_fill_53178_0 (N : Nat) (x0 : Option Nat) (x1 : Int32) (S : cS) : cS := (A_J7_fill_53178_5 N x0 x1 (nI 0) (nI (cL S (za x0))) S (L_J7_fill_53178_5 N N x0 x1 (nI 0) (nI (cL S (za x0))) S))
def O_J7_fill_53178_0 (N : Nat) (x0 : Option Nat) (x1 : Int32) (S : cS) : Prop := (cis S x0 21) ∧ (OL_J7_fill_53178_5 N N x0 x1 (nI 0) (nI (cL S (za x0))) S ∧ OA_J7_fill_53178_5 N x0 x1 (nI 0) (nI (cL S (za x0))) S (L_J7_fill_53178_5 N N x0 x1 (nI 0) (nI (cL S (za x0))) S))
set_option maxRecDepth 100000 in
set_option maxHeartbeats 4000000 in
theorem b_J7_fill_53178_0 {G : zG} {o : cO} {S : cS} {N : Nat} {Q : Option Value → cS → Prop} {X : cS → Prop} (hG : zOK G) (hR : ∀ S', X S' → Q none S') {x0 : Option Nat} {x1 : Int32} (ok : O_J7_fill_53178_0 N x0 x1 S) (hx : X (F_J7_fill_53178_0 N x0 x1 S)) : cX G o dJ7_fill_53178 mJ7_fill_53178 0 [some (va_rf x0), some (.int x1), none, none] [] S Q := by
  unfold O_J7_fill_53178_0 at ok
  unfold F_J7_fill_53178_0 at hx
  refine c_iconst (v := nI 0) dJ7_fill_53178_0 (by decide) ?_
  refine c_istore_2 dJ7_fill_53178_1 (by decide) rfl ?_
  refine c_aload_nQ dJ7_fill_53178_2 rfl rfl ?_
  refine c_alen (t := 1) (ty := .int) rfl dJ7_fill_53178_3 ok.1 ?_
  have ok := ok.2
  refine c_istore_3 dJ7_fill_53178_4 (by decide) rfl ?_
  exact cX.cutz (c_J7_fill_53178_5 hG hR ok hx) ⟨rfl, rfl, rfl, rfl, trivial⟩
def f_J7_fill_53178 (N : Nat) (S : cS) (x0 : Option Nat) (x1 : Int32) : cS := F_J7_fill_53178_0 N x0 x1 S
def o_J7_fill_53178 (N : Nat) (S : cS) (x0 : Option Nat) (x1 : Int32) : Prop := O_J7_fill_53178_0 N x0 x1 S
set_option maxRecDepth 100000 in
set_option maxHeartbeats 4000000 in
theorem cc_J7_fill_53178 {G : zG} {o : cO} {S : cS} {N : Nat} (hG : zOK G) {x0 : Option Nat} {x1 : Int32} (ok : o_J7_fill_53178 N S x0 x1) : cCv G o dJ7_fill_53178 mJ7_fill_53178 [va_rf x0, .int x1] S (fun S' => S' = f_J7_fill_53178 N S x0 x1) := by
  refine cC.ofX rfl (by cases x0 <;> exact Nat.le_of_ble_eq_true rfl) ?_
  rw [show zargs mJ7_fill_53178.2.2.1 [va_rf x0, .int x1] = [some (va_rf x0), some (.int x1), none, none] from by cases x0 <;> rfl]
  exact cX.cutz (b_J7_fill_53178_0 (X := fun F => F = f_J7_fill_53178 N S x0 x1) hG (fun S' h => ⟨rfl, h⟩) ok rfl) ⟨rfl, rfl, trivial⟩
/-! X0_init -/
def F_X0_init_36 (N : Nat) (x0 : Option Nat) (S : cS) : cS := (f_J7_fill_53178 N (csI S 5 (za x0) (nI 1)) (cR (csI S 5 (za x0) (nI 1)) 0 (za x0)) (nI 1000))
def O_X0_init_36 (N : Nat) (x0 : Option Nat) (S : cS) : Prop := (cis S x0 1) ∧ (cis (csI S 5 (za x0) (nI 1)) x0 1) ∧ (o_J7_fill_53178 N (csI S 5 (za x0) (nI 1)) (cR (csI S 5 (za x0) (nI 1)) 0 (za x0)) (nI 1000)) ∧ True
set_option maxRecDepth 100000 in
set_option maxHeartbeats 4000000 in
theorem b_X0_init_36 {G : zG} {o : cO} {S : cS} {N : Nat} {Q : Option Value → cS → Prop} {X : cS → Prop} (hG : zOK G) (hR : ∀ S', X S' → Q none S') {x0 : Option Nat} (ok : O_X0_init_36 N x0 S) (hx : X (F_X0_init_36 N x0 S)) : cX G o dX0_init mX0_init 36 [some (va_rf x0)] [] S Q := by
  unfold O_X0_init_36 at ok
  unfold F_X0_init_36 at hx
  refine c_aload_nQ dX0_init_36 rfl rfl ?_
  refine c_iconst (v := nI 1) dX0_init_37 (by decide) ?_
  refine c_putI (C := RX0) (T := TX0) (N := 6) (ci := 0) (k := 5) ⟨rfl, inT0, by decide, fX0_25⟩ ftT0 rfl (by decide) (by decide) (by decide) rfl rfl dX0_init_38 ok.1 ?_
  have ok := ok.2
  refine c_aload_nQ dX0_init_41 rfl rfl ?_
  refine c_getR (C := RX0) (T := TX0) (N := 6) (ci := 0) (k := 0) ⟨rfl, inT0, by decide, fX0_9⟩ (by decide) (by decide) (by decide) dX0_init_42 ok.1 ?_
  have ok := ok.2
  refine c_sipush (v := nI 1000) dX0_init_45 (by decide) ?_
  refine c_S2vE (y' := mJ7_fill_53178) dX0_init_48 lX0_29 kJ7_fill_53178 ⟨by decide, by decide⟩ (Nat.le_of_ble_eq_true rfl) (cc_J7_fill_53178 hG ok.1) ?_
  have ok := ok.2
  exact c_return rfl dX0_init_51 (hR _ hx)
def F_X0_init_28 (N : Nat) (x0 : Option Nat) (S : cS) : cS := (F_X0_init_36 N x0 (csR (csNew S 20 (nI 6).toNatClampNeg) 4 (za x0) (some (cn S))))
def O_X0_init_28 (N : Nat) (x0 : Option Nat) (S : cS) : Prop := (¬ (nI 6) < 0 ∧ (nI 6).toNatClampNeg ≤ 1000000) ∧ (cis (csNew S 20 (nI 6).toNatClampNeg) x0 1) ∧ O_X0_init_36 N x0 (csR (csNew S 20 (nI 6).toNatClampNeg) 4 (za x0) (some (cn S)))
set_option maxRecDepth 100000 in
set_option maxHeartbeats 4000000 in
theorem b_X0_init_28 {G : zG} {o : cO} {S : cS} {N : Nat} {Q : Option Value → cS → Prop} {X : cS → Prop} (hG : zOK G) (hR : ∀ S', X S' → Q none S') {x0 : Option Nat} (ok : O_X0_init_28 N x0 S) (hx : X (F_X0_init_28 N x0 S)) : cX G o dX0_init mX0_init 28 [some (va_rf x0)] [] S Q := by
  unfold O_X0_init_28 at ok
  unfold F_X0_init_28 at hx
  refine c_aload_nQ dX0_init_28 rfl rfl ?_
  refine c_bipush (v := nI 6) dX0_init_29 (by decide) ?_
  refine c_newa0 dX0_init_31 ok.1.1 ok.1.2 ?_
  have ok := ok.2
  refine c_putRF (C := RX0) (T := TX0) (N := 6) (ci := 0) (k := 4) ⟨rfl, inT0, by decide, fX0_22⟩ ftT0 rfl rfl rfl (by decide) (by decide) (by decide) (fun v => by cases v <;> rfl) (fun v => by cases v <;> rfl) dX0_init_33 ok.1 ?_
  have ok := ok.2
  exact cX.cutz (b_X0_init_36 hG hR ok hx) ⟨rfl, trivial⟩
def F_X0_init_20 (N : Nat) (x0 : Option Nat) (S : cS) : cS := (F_X0_init_28 N x0 (csR (csNew S 20 (nI 32).toNatClampNeg) 3 (za x0) (some (cn S))))
def O_X0_init_20 (N : Nat) (x0 : Option Nat) (S : cS) : Prop := (¬ (nI 32) < 0 ∧ (nI 32).toNatClampNeg ≤ 1000000) ∧ (cis (csNew S 20 (nI 32).toNatClampNeg) x0 1) ∧ O_X0_init_28 N x0 (csR (csNew S 20 (nI 32).toNatClampNeg) 3 (za x0) (some (cn S)))
set_option maxRecDepth 100000 in
set_option maxHeartbeats 4000000 in
theorem b_X0_init_20 {G : zG} {o : cO} {S : cS} {N : Nat} {Q : Option Value → cS → Prop} {X : cS → Prop} (hG : zOK G) (hR : ∀ S', X S' → Q none S') {x0 : Option Nat} (ok : O_X0_init_20 N x0 S) (hx : X (F_X0_init_20 N x0 S)) : cX G o dX0_init mX0_init 20 [some (va_rf x0)] [] S Q := by
  unfold O_X0_init_20 at ok
  unfold F_X0_init_20 at hx
  refine c_aload_nQ dX0_init_20 rfl rfl ?_
  refine c_bipush (v := nI 32) dX0_init_21 (by decide) ?_
  refine c_newa0 dX0_init_23 ok.1.1 ok.1.2 ?_
  have ok := ok.2
  refine c_putRF (C := RX0) (T := TX0) (N := 6) (ci := 0) (k := 3) ⟨rfl, inT0, by decide, fX0_18⟩ ftT0 rfl rfl rfl (by decide) (by decide) (by decide) (fun v => by cases v <;> rfl) (fun v => by cases v <;> rfl) dX0_init_25 ok.1 ?_
  have ok := ok.2
  exact cX.cutz (b_X0_init_28 hG hR ok hx) ⟨rfl, trivial⟩
def F_X0_init_12 (N : Nat) (x0 : Option Nat) (S : cS) : cS := (F_X0_init_20 N x0 (csR (csNew S 21 (nI 16).toNatClampNeg) 1 (za x0) (some (cn S))))
def O_X0_init_12 (N : Nat) (x0 : Option Nat) (S : cS) : Prop := (¬ (nI 16) < 0 ∧ (nI 16).toNatClampNeg ≤ 1000000) ∧ (cis (csNew S 21 (nI 16).toNatClampNeg) x0 1) ∧ O_X0_init_20 N x0 (csR (csNew S 21 (nI 16).toNatClampNeg) 1 (za x0) (some (cn S)))
set_option maxRecDepth 100000 in
set_option maxHeartbeats 4000000 in
theorem b_X0_init_12 {G : zG} {o : cO} {S : cS} {N : Nat} {Q : Option Value → cS → Prop} {X : cS → Prop} (hG : zOK G) (hR : ∀ S', X S' → Q none S') {x0 : Option Nat} (ok : O_X0_init_12 N x0 S) (hx : X (F_X0_init_12 N x0 S)) : cX G o dX0_init mX0_init 12 [some (va_rf x0)] [] S Q := by
  unfold O_X0_init_12 at ok
  unfold F_X0_init_12 at hx
  refine c_aload_nQ dX0_init_12 rfl rfl ?_
  refine c_bipush (v := nI 16) dX0_init_13 (by decide) ?_
  refine c_newa1 dX0_init_15 ok.1.1 ok.1.2 ?_
  have ok := ok.2
  refine c_putRF (C := RX0) (T := TX0) (N := 6) (ci := 0) (k := 1) ⟨rfl, inT0, by decide, fX0_15⟩ ftT0 rfl rfl rfl (by decide) (by decide) (by decide) (fun v => by cases v <;> rfl) (fun v => by cases v <;> rfl) dX0_init_17 ok.1 ?_
  have ok := ok.2
  exact cX.cutz (b_X0_init_20 hG hR ok hx) ⟨rfl, trivial⟩
def F_X0_init_0 (N : Nat) (x0 : Option Nat) (S : cS) : cS := (F_X0_init_12 N x0 (csR (csNew S 21 (nI 16).toNatClampNeg) 0 (za x0) (some (cn S))))
def O_X0_init_0 (N : Nat) (x0 : Option Nat) (S : cS) : Prop := (x0 = some (za x0)) ∧ (¬ (nI 16) < 0 ∧ (nI 16).toNatClampNeg ≤ 1000000) ∧ (cis (csNew S 21 (nI 16).toNatClampNeg) x0 1) ∧ O_X0_init_12 N x0 (csR (csNew S 21 (nI 16).toNatClampNeg) 0 (za x0) (some (cn S)))
set_option maxRecDepth 100000 in
set_option maxHeartbeats 4000000 in
theorem b_X0_init_0 {G : zG} {o : cO} {S : cS} {N : Nat} {Q : Option Value → cS → Prop} {X : cS → Prop} (hG : zOK G) (hR : ∀ S', X S' → Q none S') {x0 : Option Nat} (ok : O_X0_init_0 N x0 S) (hx : X (F_X0_init_0 N x0 S)) : cX G o dX0_init mX0_init 0 [some (va_rf x0)] [] S Q := by
  unfold O_X0_init_0 at ok
  unfold F_X0_init_0 at hx
  refine c_aload_nQ dX0_init_0 rfl rfl ?_
  refine c_objInit dX0_init_1 qX0_3 objI objC (by decide) (Nat.le_of_ble_eq_true rfl) ok.1 ?_
  have ok := ok.2
  refine c_aload_nQ dX0_init_4 rfl rfl ?_
  refine c_bipush (v := nI 16) dX0_init_5 (by decide) ?_
  refine c_newa1 dX0_init_7 ok.1.1 ok.1.2 ?_
  have ok := ok.2
  refine c_putRF (C := RX0) (T := TX0) (N := 6) (ci := 0) (k := 0) ⟨rfl, inT0, by decide, fX0_9⟩ ftT0 rfl rfl rfl (by decide) (by decide) (by decide) (fun v => by cases v <;> rfl) (fun v => by cases v <;> rfl) dX0_init_9 ok.1 ?_
  have ok := ok.2
  exact cX.cutz (b_X0_init_12 hG hR ok hx) ⟨rfl, trivial⟩
def f_X0_init (N : Nat) (S : cS) (a0 : Nat) : cS := F_X0_init_0 N (some a0) S
def o_X0_init (N : Nat) (S : cS) (a0 : Nat) : Prop := O_X0_init_0 N (some a0) S
set_option maxRecDepth 100000 in
set_option maxHeartbeats 4000000 in
theorem cc_X0_init {G : zG} {o : cO} {S : cS} {N : Nat} (hG : zOK G) {a0 : Nat} (ok : o_X0_init N S a0) : cCv G o dX0_init mX0_init [.ref a0] S (fun S' => S' = f_X0_init N S a0) := by
  refine cC.ofX rfl (by exact Nat.le_of_ble_eq_true rfl) ?_
  show cX G o dX0_init mX0_init 0 [some (.ref a0)] [] S _
  exact cX.cutz (b_X0_init_0 (X := fun F => F = f_X0_init N S a0) hG (fun S' h => ⟨rfl, h⟩) ok rfl) ⟨rfl, trivial⟩
/-! X0_mirror -/
def F_X0_mirror_30 (N : Nat) (x0 : Option Nat) (x1 : Option Nat) (S : cS) : cS := (csI S 2 (za x0) (cI S 2 (za x1)))
def O_X0_mirror_30 (N : Nat) (x0 : Option Nat) (x1 : Option Nat) (S : cS) : Prop := (cis S x1 1) ∧ (cis S x0 1) ∧ True
set_option maxRecDepth 100000 in
set_option maxHeartbeats 4000000 in
theorem b_X0_mirror_30 {G : zG} {o : cO} {S : cS} {N : Nat} {Q : Option Value → cS → Prop} {X : cS → Prop} (hG : zOK G) (hR : ∀ S', X S' → Q none S') {x0 : Option Nat} {x1 : Option Nat} (ok : O_X0_mirror_30 N x0 x1 S) (hx : X (F_X0_mirror_30 N x0 x1 S)) : cX G o dX0_mirror mX0_mirror 30 [some (va_rf x0), some (va_rf x1)] [] S Q := by
  unfold O_X0_mirror_30 at ok
  unfold F_X0_mirror_30 at hx
  refine c_aload_nQ dX0_mirror_30 rfl rfl ?_
  refine c_aload_nQ dX0_mirror_31 rfl rfl ?_
  refine c_getI (C := RX0) (T := TX0) (N := 6) (ci := 0) (k := 2) ⟨rfl, inT0, by decide, fX0_41⟩ (by decide) (by decide) (by decide) dX0_mirror_32 ok.1 ?_
  have ok := ok.2
  refine c_putI (C := RX0) (T := TX0) (N := 6) (ci := 0) (k := 2) ⟨rfl, inT0, by decide, fX0_41⟩ ftT0 rfl (by decide) (by decide) (by decide) rfl rfl dX0_mirror_35 ok.1 ?_
  have ok := ok.2
  exact c_return rfl dX0_mirror_38 (hR _ hx)
def F_X0_mirror_15 (N : Nat) (x0 : Option Nat) (x1 : Option Nat) (S : cS) : cS := (F_X0_mirror_30 N x0 x1 (csArow S (za (cR S 1 (za x0))) (va_cpy (cA S (za (cR S 1 (za x1)))) (cA S (za (cR S 1 (za x0)))) (nI 0).toNatClampNeg (nI 0).toNatClampNeg (nI 16).toNatClampNeg)))
def O_X0_mirror_15 (N : Nat) (x0 : Option Nat) (x1 : Option Nat) (S : cS) : Prop := (cis S x1 1) ∧ (cis S x0 1) ∧ (cis S (cR S 1 (za x1)) 21 ∧ cis S (cR S 1 (za x0)) 21 ∧ (¬ (nI 0) < 0 ∧ ¬ (nI 0) < 0 ∧ ¬ (nI 16) < 0) ∧ (nI 0).toNatClampNeg + (nI 16).toNatClampNeg ≤ cL S (za (cR S 1 (za x1))) ∧ (nI 0).toNatClampNeg + (nI 16).toNatClampNeg ≤ cL S (za (cR S 1 (za x0)))) ∧ O_X0_mirror_30 N x0 x1 (csArow S (za (cR S 1 (za x0))) (va_cpy (cA S (za (cR S 1 (za x1)))) (cA S (za (cR S 1 (za x0)))) (nI 0).toNatClampNeg (nI 0).toNatClampNeg (nI 16).toNatClampNeg))
set_option maxRecDepth 100000 in
set_option maxHeartbeats 4000000 in
theorem b_X0_mirror_15 {G : zG} {o : cO} {S : cS} {N : Nat} {Q : Option Value → cS → Prop} {X : cS → Prop} (hG : zOK G) (hR : ∀ S', X S' → Q none S') {x0 : Option Nat} {x1 : Option Nat} (ok : O_X0_mirror_15 N x0 x1 S) (hx : X (F_X0_mirror_15 N x0 x1 S)) : cX G o dX0_mirror mX0_mirror 15 [some (va_rf x0), some (va_rf x1)] [] S Q := by
  unfold O_X0_mirror_15 at ok
  unfold F_X0_mirror_15 at hx
  refine c_aload_nQ dX0_mirror_15 rfl rfl ?_
  refine c_getR (C := RX0) (T := TX0) (N := 6) (ci := 0) (k := 1) ⟨rfl, inT0, by decide, fX0_15⟩ (by decide) (by decide) (by decide) dX0_mirror_16 ok.1 ?_
  have ok := ok.2
  refine c_iconst (v := nI 0) dX0_mirror_19 (by decide) ?_
  refine c_aload_nQ dX0_mirror_20 rfl rfl ?_
  refine c_getR (C := RX0) (T := TX0) (N := 6) (ci := 0) (k := 1) ⟨rfl, inT0, by decide, fX0_15⟩ (by decide) (by decide) (by decide) dX0_mirror_21 ok.1 ?_
  have ok := ok.2
  refine c_iconst (v := nI 0) dX0_mirror_24 (by decide) ?_
  refine c_bipush (v := nI 16) dX0_mirror_25 (by decide) ?_
  refine c_copy1 hG dX0_mirror_27 qX0_35 (by decide) (by decide) ok.1 ?_
  have ok := ok.2
  exact cX.cutz (b_X0_mirror_30 hG hR ok hx) ⟨rfl, rfl, trivial⟩
def F_X0_mirror_0 (N : Nat) (x0 : Option Nat) (x1 : Option Nat) (S : cS) : cS := (F_X0_mirror_15 N x0 x1 (csArow S (za (cR S 0 (za x0))) (va_cpy (cA S (za (cR S 0 (za x1)))) (cA S (za (cR S 0 (za x0)))) (nI 0).toNatClampNeg (nI 0).toNatClampNeg (nI 16).toNatClampNeg)))
def O_X0_mirror_0 (N : Nat) (x0 : Option Nat) (x1 : Option Nat) (S : cS) : Prop := (cis S x1 1) ∧ (cis S x0 1) ∧ (cis S (cR S 0 (za x1)) 21 ∧ cis S (cR S 0 (za x0)) 21 ∧ (¬ (nI 0) < 0 ∧ ¬ (nI 0) < 0 ∧ ¬ (nI 16) < 0) ∧ (nI 0).toNatClampNeg + (nI 16).toNatClampNeg ≤ cL S (za (cR S 0 (za x1))) ∧ (nI 0).toNatClampNeg + (nI 16).toNatClampNeg ≤ cL S (za (cR S 0 (za x0)))) ∧ O_X0_mirror_15 N x0 x1 (csArow S (za (cR S 0 (za x0))) (va_cpy (cA S (za (cR S 0 (za x1)))) (cA S (za (cR S 0 (za x0)))) (nI 0).toNatClampNeg (nI 0).toNatClampNeg (nI 16).toNatClampNeg))
set_option maxRecDepth 100000 in
set_option maxHeartbeats 4000000 in
theorem b_X0_mirror_0 {G : zG} {o : cO} {S : cS} {N : Nat} {Q : Option Value → cS → Prop} {X : cS → Prop} (hG : zOK G) (hR : ∀ S', X S' → Q none S') {x0 : Option Nat} {x1 : Option Nat} (ok : O_X0_mirror_0 N x0 x1 S) (hx : X (F_X0_mirror_0 N x0 x1 S)) : cX G o dX0_mirror mX0_mirror 0 [some (va_rf x0), some (va_rf x1)] [] S Q := by
  unfold O_X0_mirror_0 at ok
  unfold F_X0_mirror_0 at hx
  refine c_aload_nQ dX0_mirror_0 rfl rfl ?_
  refine c_getR (C := RX0) (T := TX0) (N := 6) (ci := 0) (k := 0) ⟨rfl, inT0, by decide, fX0_9⟩ (by decide) (by decide) (by decide) dX0_mirror_1 ok.1 ?_
  have ok := ok.2
  refine c_iconst (v := nI 0) dX0_mirror_4 (by decide) ?_
  refine c_aload_nQ dX0_mirror_5 rfl rfl ?_
  refine c_getR (C := RX0) (T := TX0) (N := 6) (ci := 0) (k := 0) ⟨rfl, inT0, by decide, fX0_9⟩ (by decide) (by decide) (by decide) dX0_mirror_6 ok.1 ?_
  have ok := ok.2
  refine c_iconst (v := nI 0) dX0_mirror_9 (by decide) ?_
  refine c_bipush (v := nI 16) dX0_mirror_10 (by decide) ?_
  refine c_copy1 hG dX0_mirror_12 qX0_35 (by decide) (by decide) ok.1 ?_
  have ok := ok.2
  exact cX.cutz (b_X0_mirror_15 hG hR ok hx) ⟨rfl, rfl, trivial⟩
def f_X0_mirror (N : Nat) (S : cS) (a0 : Nat) (x1 : Option Nat) : cS := F_X0_mirror_0 N (some a0) x1 S
def o_X0_mirror (N : Nat) (S : cS) (a0 : Nat) (x1 : Option Nat) : Prop := O_X0_mirror_0 N (some a0) x1 S
set_option maxRecDepth 100000 in
set_option maxHeartbeats 4000000 in
theorem cc_X0_mirror {G : zG} {o : cO} {S : cS} {N : Nat} (hG : zOK G) {a0 : Nat} {x1 : Option Nat} (ok : o_X0_mirror N S a0 x1) : cCv G o dX0_mirror mX0_mirror [.ref a0, va_rf x1] S (fun S' => S' = f_X0_mirror N S a0 x1) := by
  refine cC.ofX rfl (by cases x1 <;> exact Nat.le_of_ble_eq_true rfl) ?_
  rw [show zargs mX0_mirror.2.2.1 [.ref a0, va_rf x1] = [some (.ref a0), some (va_rf x1)] from by cases x1 <;> rfl]
  exact cX.cutz (b_X0_mirror_0 (X := fun F => F = f_X0_mirror N S a0 x1) hG (fun S' h => ⟨rfl, h⟩) ok rfl) ⟨rfl, rfl, trivial⟩
/-! X0_hasPaid -/
def F_X0_hasPaid_17 (N : Nat) (s0 : Int32) (S : cS) : Int32 := s0
def O_X0_hasPaid_17 (N : Nat) (s0 : Int32) (S : cS) : Prop := narrow .boolean (.int s0) = .int s0
set_option maxRecDepth 100000 in
set_option maxHeartbeats 4000000 in
theorem b_X0_hasPaid_17 {G : zG} {o : cO} {S : cS} {N : Nat} {Q : Option Value → cS → Prop} {X : Int32 → Prop} (hG : zOK G) (hR : ∀ v, X v → Q (some (.int v)) S) {s0 : Int32} (ok : O_X0_hasPaid_17 N s0 S) (hx : X (F_X0_hasPaid_17 N s0 S)) : cX G o dX0_hasPaid mX0_hasPaid 17 [none, none] [.int s0] S Q := by
  unfold O_X0_hasPaid_17 at ok
  unfold F_X0_hasPaid_17 at hx
  exact c_ireturn rfl ok dX0_hasPaid_17 (hR _ hx)
def F_X0_hasPaid_0 (N : Nat) (x0 : Option Nat) (x1 : Int32) (S : cS) : Int32 := (if (((cI S 2 (za x0)) >>> (x1 &&& 31)) &&& (nI 1)) = (nI 1) then (F_X0_hasPaid_17 N (nI 1) S) else (F_X0_hasPaid_17 N (nI 0) S))
def O_X0_hasPaid_0 (N : Nat) (x0 : Option Nat) (x1 : Int32) (S : cS) : Prop := (cis S x0 1) ∧ (((((cI S 2 (za x0)) >>> (x1 &&& 31)) &&& (nI 1)) = (nI 1) → O_X0_hasPaid_17 N (nI 1) S) ∧ (¬ (((cI S 2 (za x0)) >>> (x1 &&& 31)) &&& (nI 1)) = (nI 1) → O_X0_hasPaid_17 N (nI 0) S))
set_option maxRecDepth 100000 in
set_option maxHeartbeats 4000000 in
theorem b_X0_hasPaid_0 {G : zG} {o : cO} {S : cS} {N : Nat} {Q : Option Value → cS → Prop} {X : Int32 → Prop} (hG : zOK G) (hR : ∀ v, X v → Q (some (.int v)) S) {x0 : Option Nat} {x1 : Int32} (ok : O_X0_hasPaid_0 N x0 x1 S) (hx : X (F_X0_hasPaid_0 N x0 x1 S)) : cX G o dX0_hasPaid mX0_hasPaid 0 [some (va_rf x0), some (.int x1)] [] S Q := by
  unfold O_X0_hasPaid_0 at ok
  unfold F_X0_hasPaid_0 at hx
  refine c_aload_nQ dX0_hasPaid_0 rfl rfl ?_
  refine c_getI (C := RX0) (T := TX0) (N := 6) (ci := 0) (k := 2) ⟨rfl, inT0, by decide, fX0_41⟩ (by decide) (by decide) (by decide) dX0_hasPaid_1 ok.1 ?_
  have ok := ok.2
  refine c_iload_n dX0_hasPaid_4 rfl rfl ?_
  refine c_ishr dX0_hasPaid_5 ?_
  refine c_iconst (v := nI 1) dX0_hasPaid_6 (by decide) ?_
  refine c_iand dX0_hasPaid_7 ?_
  refine c_iconst (v := nI 1) dX0_hasPaid_8 (by decide) ?_
  refine c_icmp_ne (tgt := 16) dX0_hasPaid_9 (by decide) (fun c_9 => ?_) (fun c_9 => ?_)
  · have ok := ok.2 c_9
    have hx := xif_n c_9 hx
    refine c_iconst (v := nI 0) dX0_hasPaid_16 (by decide) ?_
    exact cX.cutz (b_X0_hasPaid_17 hG hR ok hx) trivial
  · have ok := ok.1 c_9
    have hx := xif_p c_9 hx
    refine c_iconst (v := nI 1) dX0_hasPaid_12 (by decide) ?_
    refine c_goto (tgt := 17) dX0_hasPaid_13 (by decide) ?_
    exact cX.cutz (b_X0_hasPaid_17 hG hR ok hx) trivial
def f_X0_hasPaid (N : Nat) (S : cS) (a0 : Nat) (x1 : Int32) : Int32 := F_X0_hasPaid_0 N (some a0) x1 S
def o_X0_hasPaid (N : Nat) (S : cS) (a0 : Nat) (x1 : Int32) : Prop := O_X0_hasPaid_0 N (some a0) x1 S
set_option maxRecDepth 100000 in
set_option maxHeartbeats 4000000 in
theorem cc_X0_hasPaid {G : zG} {o : cO} {S : cS} {N : Nat} (hG : zOK G) {a0 : Nat} {x1 : Int32} (ok : o_X0_hasPaid N S a0 x1) : cCi G o dX0_hasPaid mX0_hasPaid [.ref a0, .int x1] S (fun v S' => v = f_X0_hasPaid N S a0 x1 ∧ S' = S) := by
  refine cC.ofX rfl (by exact Nat.le_of_ble_eq_true rfl) ?_
  show cX G o dX0_hasPaid mX0_hasPaid 0 [some (.ref a0), some (.int x1)] [] S _
  exact cX.cutz (b_X0_hasPaid_0 (X := fun F => F = f_X0_hasPaid N S a0 x1) hG (fun v h => ⟨v, rfl, h, rfl⟩) ok rfl) ⟨rfl, rfl, trivial⟩
/-! X0_punish -/
def F_X0_punish_81 (N : Nat) (x0 : Option Nat) (x2 : Int32) (x3 : Int32) (S : cS) : Int32 × cS := ((nI 1), (csA S (za (cR S 0 (za x0))) x2.toNatClampNeg ((cA S (za (cR S 0 (za x0))) x2.toNatClampNeg) + x3)))
def O_X0_punish_81 (N : Nat) (x0 : Option Nat) (x2 : Int32) (x3 : Int32) (S : cS) : Prop := (cis S x0 1) ∧ (cis S (cR S 0 (za x0)) 21 ∧ vp_in x2 (cL S (za (cR S 0 (za x0))))) ∧ (cis S (cR S 0 (za x0)) 21 ∧ vp_in x2 (cL S (za (cR S 0 (za x0))))) ∧ True
set_option maxRecDepth 100000 in
set_option maxHeartbeats 4000000 in
theorem b_X0_punish_81 {G : zG} {o : cO} {S : cS} {N : Nat} {Q : Option Value → cS → Prop} {X : Int32 × cS → Prop} (hG : zOK G) (hR : ∀ v S', X (v, S') → Q (some (.int v)) S') {x0 : Option Nat} {x2 : Int32} {x3 : Int32} (ok : O_X0_punish_81 N x0 x2 x3 S) (hx : X (F_X0_punish_81 N x0 x2 x3 S)) : cX G o dX0_punish mX0_punish 81 [some (va_rf x0), none, some (.int x2), some (.int x3)] [] S Q := by
  unfold O_X0_punish_81 at ok
  unfold F_X0_punish_81 at hx
  refine c_aload_nQ dX0_punish_81 rfl rfl ?_
  refine c_getR (C := RX0) (T := TX0) (N := 6) (ci := 0) (k := 0) ⟨rfl, inT0, by decide, fX0_9⟩ (by decide) (by decide) (by decide) dX0_punish_82 ok.1 ?_
  have ok := ok.2
  refine c_iload_n dX0_punish_85 rfl rfl ?_
  refine c_dup2 dX0_punish_86 rfl (zcat_rf _) ?_
  refine c_iald dX0_punish_87 ok.1 ?_
  have ok := ok.2
  refine c_iload_n dX0_punish_88 rfl rfl ?_
  refine c_iadd dX0_punish_89 ?_
  refine c_iast hG dX0_punish_90 ok.1 ?_
  have ok := ok.2
  refine c_iconst (v := nI 1) dX0_punish_91 (by decide) ?_
  exact c_ireturn rfl rfl dX0_punish_92 (hR _ _ hx)
def F_X0_punish_78 (N : Nat) (x0 : Option Nat) (x2 : Int32) (x3 : Int32) (s0 : Option Nat) (s1 : Int32) (s2 : Int32) (S : cS) : Int32 × cS := (F_X0_punish_81 N x0 x2 x3 (csA S (za s0) s1.toNatClampNeg (s2 - x3)))
def O_X0_punish_78 (N : Nat) (x0 : Option Nat) (x2 : Int32) (x3 : Int32) (s0 : Option Nat) (s1 : Int32) (s2 : Int32) (S : cS) : Prop := (cis S s0 21 ∧ vp_in s1 (cL S (za s0))) ∧ O_X0_punish_81 N x0 x2 x3 (csA S (za s0) s1.toNatClampNeg (s2 - x3))
set_option maxRecDepth 100000 in
set_option maxHeartbeats 4000000 in
theorem b_X0_punish_78 {G : zG} {o : cO} {S : cS} {N : Nat} {Q : Option Value → cS → Prop} {X : Int32 × cS → Prop} (hG : zOK G) (hR : ∀ v S', X (v, S') → Q (some (.int v)) S') {x0 : Option Nat} {x2 : Int32} {x3 : Int32} {s0 : Option Nat} {s1 : Int32} {s2 : Int32} (ok : O_X0_punish_78 N x0 x2 x3 s0 s1 s2 S) (hx : X (F_X0_punish_78 N x0 x2 x3 s0 s1 s2 S)) : cX G o dX0_punish mX0_punish 78 [some (va_rf x0), none, some (.int x2), some (.int x3)] [.int s2, .int s1, va_rf s0] S Q := by
  unfold O_X0_punish_78 at ok
  unfold F_X0_punish_78 at hx
  refine c_iload_n dX0_punish_78 rfl rfl ?_
  refine c_isub dX0_punish_79 ?_
  refine c_iast hG dX0_punish_80 ok.1 ?_
  have ok := ok.2
  exact cX.cutz (b_X0_punish_81 hG hR ok hx) ⟨rfl, rfl, rfl, trivial⟩
def F_X0_punish_58 (N : Nat) (x0 : Option Nat) (x1 : Int32) (x2 : Int32) (s0 : Int32) (S : cS) : Int32 × cS := (F_X0_punish_78 N x0 x2 s0 (cR (csI S 2 (za x0) ((cI S 2 (za x0)) ||| ((nI 1) <<< (x1 &&& 31)))) 0 (za x0)) x1 (cA (csI S 2 (za x0) ((cI S 2 (za x0)) ||| ((nI 1) <<< (x1 &&& 31)))) (za (cR (csI S 2 (za x0) ((cI S 2 (za x0)) ||| ((nI 1) <<< (x1 &&& 31)))) 0 (za x0))) x1.toNatClampNeg) (csI S 2 (za x0) ((cI S 2 (za x0)) ||| ((nI 1) <<< (x1 &&& 31)))))
def O_X0_punish_58 (N : Nat) (x0 : Option Nat) (x1 : Int32) (x2 : Int32) (s0 : Int32) (S : cS) : Prop := (cis S x0 1) ∧ (cis S x0 1) ∧ (cis (csI S 2 (za x0) ((cI S 2 (za x0)) ||| ((nI 1) <<< (x1 &&& 31)))) x0 1) ∧ (cis (csI S 2 (za x0) ((cI S 2 (za x0)) ||| ((nI 1) <<< (x1 &&& 31)))) (cR (csI S 2 (za x0) ((cI S 2 (za x0)) ||| ((nI 1) <<< (x1 &&& 31)))) 0 (za x0)) 21 ∧ vp_in x1 (cL (csI S 2 (za x0) ((cI S 2 (za x0)) ||| ((nI 1) <<< (x1 &&& 31)))) (za (cR (csI S 2 (za x0) ((cI S 2 (za x0)) ||| ((nI 1) <<< (x1 &&& 31)))) 0 (za x0))))) ∧ O_X0_punish_78 N x0 x2 s0 (cR (csI S 2 (za x0) ((cI S 2 (za x0)) ||| ((nI 1) <<< (x1 &&& 31)))) 0 (za x0)) x1 (cA (csI S 2 (za x0) ((cI S 2 (za x0)) ||| ((nI 1) <<< (x1 &&& 31)))) (za (cR (csI S 2 (za x0) ((cI S 2 (za x0)) ||| ((nI 1) <<< (x1 &&& 31)))) 0 (za x0))) x1.toNatClampNeg) (csI S 2 (za x0) ((cI S 2 (za x0)) ||| ((nI 1) <<< (x1 &&& 31))))
set_option maxRecDepth 100000 in
set_option maxHeartbeats 4000000 in
theorem b_X0_punish_58 {G : zG} {o : cO} {S : cS} {N : Nat} {Q : Option Value → cS → Prop} {X : Int32 × cS → Prop} (hG : zOK G) (hR : ∀ v S', X (v, S') → Q (some (.int v)) S') {x0 : Option Nat} {x1 : Int32} {x2 : Int32} {s0 : Int32} (ok : O_X0_punish_58 N x0 x1 x2 s0 S) (hx : X (F_X0_punish_58 N x0 x1 x2 s0 S)) : cX G o dX0_punish mX0_punish 58 [some (va_rf x0), some (.int x1), some (.int x2), none] [.int s0] S Q := by
  unfold O_X0_punish_58 at ok
  unfold F_X0_punish_58 at hx
  refine c_istore_3 dX0_punish_58 (by decide) rfl ?_
  refine c_aload_nQ dX0_punish_59 rfl rfl ?_
  refine c_dup dX0_punish_60 (zcat_rf _) ?_
  refine c_getI (C := RX0) (T := TX0) (N := 6) (ci := 0) (k := 2) ⟨rfl, inT0, by decide, fX0_41⟩ (by decide) (by decide) (by decide) dX0_punish_61 ok.1 ?_
  have ok := ok.2
  refine c_iconst (v := nI 1) dX0_punish_64 (by decide) ?_
  refine c_iload_n dX0_punish_65 rfl rfl ?_
  refine c_ishl dX0_punish_66 ?_
  refine c_ior dX0_punish_67 ?_
  refine c_putI (C := RX0) (T := TX0) (N := 6) (ci := 0) (k := 2) ⟨rfl, inT0, by decide, fX0_41⟩ ftT0 rfl (by decide) (by decide) (by decide) rfl rfl dX0_punish_68 ok.1 ?_
  have ok := ok.2
  refine c_aload_nQ dX0_punish_71 rfl rfl ?_
  refine c_getR (C := RX0) (T := TX0) (N := 6) (ci := 0) (k := 0) ⟨rfl, inT0, by decide, fX0_9⟩ (by decide) (by decide) (by decide) dX0_punish_72 ok.1 ?_
  have ok := ok.2
  refine c_iload_n dX0_punish_75 rfl rfl ?_
  refine c_dup2 dX0_punish_76 rfl (zcat_rf _) ?_
  refine c_iald dX0_punish_77 ok.1 ?_
  have ok := ok.2
  exact cX.cutz (b_X0_punish_78 hG hR ok hx) ⟨rfl, rfl, rfl, trivial⟩
def F_X0_punish_20 (N : Nat)  (S : cS) : Int32 × cS := ((nI 0), S)
def O_X0_punish_20 (N : Nat)  (S : cS) : Prop := True
set_option maxRecDepth 100000 in
set_option maxHeartbeats 4000000 in
theorem b_X0_punish_20 {G : zG} {o : cO} {S : cS} {N : Nat} {Q : Option Value → cS → Prop} {X : Int32 × cS → Prop} (hG : zOK G) (hR : ∀ v S', X (v, S') → Q (some (.int v)) S') (ok : O_X0_punish_20 N S) (hx : X (F_X0_punish_20 N S)) : cX G o dX0_punish mX0_punish 20 [none, none, none, none] [] S Q := by
  unfold O_X0_punish_20 at ok
  unfold F_X0_punish_20 at hx
  refine c_iconst (v := nI 0) dX0_punish_20 (by decide) ?_
  exact c_ireturn rfl rfl dX0_punish_21 (hR _ _ hx)
def F_X0_punish_0 (N : Nat) (x0 : Option Nat) (x1 : Int32) (x2 : Int32) (S : cS) : Int32 × cS := (if x1 < 0 then (F_X0_punish_20 N S) else (if (nI 16) ≤ x1 then (F_X0_punish_20 N S) else (if x2 < 0 then (F_X0_punish_20 N S) else (if x2 < (nI 16) then (if (((cI S 2 (za x0)) >>> (x1 &&& 31)) &&& (nI 1)) = (nI 1) then ((nI 0), S) else (if (nI 100) ≤ (cA S (za (cR S 0 (za x0))) x1.toNatClampNeg) then (F_X0_punish_58 N x0 x1 x2 (nI 100) S) else (F_X0_punish_58 N x0 x1 x2 (cA S (za (cR S 0 (za x0))) x1.toNatClampNeg) S))) else (F_X0_punish_20 N S)))))
def O_X0_punish_0 (N : Nat) (x0 : Option Nat) (x1 : Int32) (x2 : Int32) (S : cS) : Prop := ((x1 < 0 → O_X0_punish_20 N S) ∧ (¬ x1 < 0 → (((nI 16) ≤ x1 → O_X0_punish_20 N S) ∧ (¬ (nI 16) ≤ x1 → ((x2 < 0 → O_X0_punish_20 N S) ∧ (¬ x2 < 0 → ((x2 < (nI 16) → (cis S x0 1) ∧ (((((cI S 2 (za x0)) >>> (x1 &&& 31)) &&& (nI 1)) = (nI 1) → True) ∧ (¬ (((cI S 2 (za x0)) >>> (x1 &&& 31)) &&& (nI 1)) = (nI 1) → (cis S x0 1) ∧ (cis S (cR S 0 (za x0)) 21 ∧ vp_in x1 (cL S (za (cR S 0 (za x0))))) ∧ (((nI 100) ≤ (cA S (za (cR S 0 (za x0))) x1.toNatClampNeg) → O_X0_punish_58 N x0 x1 x2 (nI 100) S) ∧ (¬ (nI 100) ≤ (cA S (za (cR S 0 (za x0))) x1.toNatClampNeg) → (cis S x0 1) ∧ (cis S (cR S 0 (za x0)) 21 ∧ vp_in x1 (cL S (za (cR S 0 (za x0))))) ∧ O_X0_punish_58 N x0 x1 x2 (cA S (za (cR S 0 (za x0))) x1.toNatClampNeg) S))))) ∧ (¬ x2 < (nI 16) → O_X0_punish_20 N S))))))))
set_option maxRecDepth 100000 in
set_option maxHeartbeats 4000000 in
theorem b_X0_punish_0 {G : zG} {o : cO} {S : cS} {N : Nat} {Q : Option Value → cS → Prop} {X : Int32 × cS → Prop} (hG : zOK G) (hR : ∀ v S', X (v, S') → Q (some (.int v)) S') {x0 : Option Nat} {x1 : Int32} {x2 : Int32} (ok : O_X0_punish_0 N x0 x1 x2 S) (hx : X (F_X0_punish_0 N x0 x1 x2 S)) : cX G o dX0_punish mX0_punish 0 [some (va_rf x0), some (.int x1), some (.int x2), none] [] S Q := by
  unfold O_X0_punish_0 at ok
  unfold F_X0_punish_0 at hx
  refine c_iload_n dX0_punish_0 rfl rfl ?_
  refine c_if_lt (tgt := 20) dX0_punish_1 (by decide) (fun c_1 => ?_) (fun c_1 => ?_)
  · have ok := ok.1 c_1
    have hx := xif_p c_1 hx
    exact cX.cutz (b_X0_punish_20 hG hR ok hx) trivial
  · have ok := ok.2 c_1
    have hx := xif_n c_1 hx
    refine c_iload_n dX0_punish_4 rfl rfl ?_
    refine c_bipush (v := nI 16) dX0_punish_5 (by decide) ?_
    refine c_icmp_ge (tgt := 20) dX0_punish_7 (by decide) (fun c_7 => ?_) (fun c_7 => ?_)
    · have ok := ok.1 c_7
      have hx := xif_p c_7 hx
      exact cX.cutz (b_X0_punish_20 hG hR ok hx) trivial
    · have ok := ok.2 c_7
      have hx := xif_n c_7 hx
      refine c_iload_n dX0_punish_10 rfl rfl ?_
      refine c_if_lt (tgt := 20) dX0_punish_11 (by decide) (fun c_11 => ?_) (fun c_11 => ?_)
      · have ok := ok.1 c_11
        have hx := xif_p c_11 hx
        exact cX.cutz (b_X0_punish_20 hG hR ok hx) trivial
      · have ok := ok.2 c_11
        have hx := xif_n c_11 hx
        refine c_iload_n dX0_punish_14 rfl rfl ?_
        refine c_bipush (v := nI 16) dX0_punish_15 (by decide) ?_
        refine c_icmp_lt (tgt := 22) dX0_punish_17 (by decide) (fun c_17 => ?_) (fun c_17 => ?_)
        · have ok := ok.1 c_17
          have hx := xif_p c_17 hx
          refine c_aload_nQ dX0_punish_22 rfl rfl ?_
          refine c_getI (C := RX0) (T := TX0) (N := 6) (ci := 0) (k := 2) ⟨rfl, inT0, by decide, fX0_41⟩ (by decide) (by decide) (by decide) dX0_punish_23 ok.1 ?_
          have ok := ok.2
          refine c_iload_n dX0_punish_26 rfl rfl ?_
          refine c_ishr dX0_punish_27 ?_
          refine c_iconst (v := nI 1) dX0_punish_28 (by decide) ?_
          refine c_iand dX0_punish_29 ?_
          refine c_iconst (v := nI 1) dX0_punish_30 (by decide) ?_
          refine c_icmp_ne (tgt := 36) dX0_punish_31 (by decide) (fun c_31 => ?_) (fun c_31 => ?_)
          · have ok := ok.2 c_31
            have hx := xif_n c_31 hx
            refine c_aload_nQ dX0_punish_36 rfl rfl ?_
            refine c_getR (C := RX0) (T := TX0) (N := 6) (ci := 0) (k := 0) ⟨rfl, inT0, by decide, fX0_9⟩ (by decide) (by decide) (by decide) dX0_punish_37 ok.1 ?_
            have ok := ok.2
            refine c_iload_n dX0_punish_40 rfl rfl ?_
            refine c_iald dX0_punish_41 ok.1 ?_
            have ok := ok.2
            refine c_bipush (v := nI 100) dX0_punish_42 (by decide) ?_
            refine c_icmp_ge (tgt := 56) dX0_punish_44 (by decide) (fun c_44 => ?_) (fun c_44 => ?_)
            · have ok := ok.1 c_44
              have hx := xif_p c_44 hx
              refine c_bipush (v := nI 100) dX0_punish_56 (by decide) ?_
              exact cX.cutz (b_X0_punish_58 hG hR ok hx) ⟨rfl, rfl, rfl, trivial⟩
            · have ok := ok.2 c_44
              have hx := xif_n c_44 hx
              refine c_aload_nQ dX0_punish_47 rfl rfl ?_
              refine c_getR (C := RX0) (T := TX0) (N := 6) (ci := 0) (k := 0) ⟨rfl, inT0, by decide, fX0_9⟩ (by decide) (by decide) (by decide) dX0_punish_48 ok.1 ?_
              have ok := ok.2
              refine c_iload_n dX0_punish_51 rfl rfl ?_
              refine c_iald dX0_punish_52 ok.1 ?_
              have ok := ok.2
              refine c_goto (tgt := 58) dX0_punish_53 (by decide) ?_
              exact cX.cutz (b_X0_punish_58 hG hR ok hx) ⟨rfl, rfl, rfl, trivial⟩
          · have ok := ok.1 c_31
            have hx := xif_p c_31 hx
            refine c_iconst (v := nI 0) dX0_punish_34 (by decide) ?_
            exact c_ireturn rfl rfl dX0_punish_35 (hR _ _ hx)
        · have ok := ok.2 c_17
          have hx := xif_n c_17 hx
          exact cX.cutz (b_X0_punish_20 hG hR ok hx) trivial
def f_X0_punish (N : Nat) (S : cS) (a0 : Nat) (x1 : Int32) (x2 : Int32) : Int32 × cS := F_X0_punish_0 N (some a0) x1 x2 S
def o_X0_punish (N : Nat) (S : cS) (a0 : Nat) (x1 : Int32) (x2 : Int32) : Prop := O_X0_punish_0 N (some a0) x1 x2 S
set_option maxRecDepth 100000 in
set_option maxHeartbeats 4000000 in
theorem cc_X0_punish {G : zG} {o : cO} {S : cS} {N : Nat} (hG : zOK G) {a0 : Nat} {x1 : Int32} {x2 : Int32} (ok : o_X0_punish N S a0 x1 x2) : cCi G o dX0_punish mX0_punish [.ref a0, .int x1, .int x2] S (fun v S' => v = (f_X0_punish N S a0 x1 x2).1 ∧ S' = (f_X0_punish N S a0 x1 x2).2) := by
  refine cC.ofX rfl (by exact Nat.le_of_ble_eq_true rfl) ?_
  show cX G o dX0_punish mX0_punish 0 [some (.ref a0), some (.int x1), some (.int x2), none] [] S _
  exact cX.cutz (b_X0_punish_0 (X := fun F => F = f_X0_punish N S a0 x1 x2) hG (fun v S' h => ⟨v, rfl, by rw [← h], by rw [← h]⟩) ok rfl) ⟨rfl, rfl, rfl, trivial⟩
/-! X0_pay -/
def F_X0_pay_154 (N : Nat)  (S : cS) : Int32 × cS := ((nI 1), S)
def O_X0_pay_154 (N : Nat)  (S : cS) : Prop := True
set_option maxRecDepth 100000 in
set_option maxHeartbeats 4000000 in
theorem b_X0_pay_154 {G : zG} {o : cO} {S : cS} {N : Nat} {Q : Option Value → cS → Prop} {X : Int32 × cS → Prop} (hG : zOK G) (hR : ∀ v S', X (v, S') → Q (some (.int v)) S') (ok : O_X0_pay_154 N S) (hx : X (F_X0_pay_154 N S)) : cX G o dX0_pay mX0_pay 154 [none, none, none, none, none, none, none, none, none] [] S Q := by
  unfold O_X0_pay_154 at ok
  unfold F_X0_pay_154 at hx
  refine c_iconst (v := nI 1) dX0_pay_154 (by decide) ?_
  exact c_ireturn rfl rfl dX0_pay_155 (hR _ _ hx)
def F_X0_pay_150 (N : Nat) (x8 : Int32) (s0 : Option Nat) (s1 : Int32) (s2 : Int32) (S : cS) : Int32 × cS := (F_X0_pay_154 N (csA S (za s0) s1.toNatClampNeg (s2 + x8)))
def O_X0_pay_150 (N : Nat) (x8 : Int32) (s0 : Option Nat) (s1 : Int32) (s2 : Int32) (S : cS) : Prop := (cis S s0 21 ∧ vp_in s1 (cL S (za s0))) ∧ O_X0_pay_154 N (csA S (za s0) s1.toNatClampNeg (s2 + x8))
set_option maxRecDepth 100000 in
set_option maxHeartbeats 4000000 in
theorem b_X0_pay_150 {G : zG} {o : cO} {S : cS} {N : Nat} {Q : Option Value → cS → Prop} {X : Int32 × cS → Prop} (hG : zOK G) (hR : ∀ v S', X (v, S') → Q (some (.int v)) S') {x8 : Int32} {s0 : Option Nat} {s1 : Int32} {s2 : Int32} (ok : O_X0_pay_150 N x8 s0 s1 s2 S) (hx : X (F_X0_pay_150 N x8 s0 s1 s2 S)) : cX G o dX0_pay mX0_pay 150 [none, none, none, none, none, none, none, none, some (.int x8)] [.int s2, .int s1, va_rf s0] S Q := by
  unfold O_X0_pay_150 at ok
  unfold F_X0_pay_150 at hx
  refine c_iload dX0_pay_150 rfl ?_
  refine c_iadd dX0_pay_152 ?_
  refine c_iast hG dX0_pay_153 ok.1 ?_
  have ok := ok.2
  exact cX.cutz (b_X0_pay_154 hG hR ok hx) trivial
def F_X0_pay_131 (N : Nat) (x0 : Option Nat) (x3 : Int32) (x5 : Int32) (x6 : Int32) (x8 : Int32) (S : cS) : Int32 × cS := (F_X0_pay_150 N x8 (cR (csA S (za (cR S 0 (za x0))) x5.toNatClampNeg ((cA S (za (cR S 0 (za x0))) x5.toNatClampNeg) + x6)) 0 (za x0)) x3 (cA (csA S (za (cR S 0 (za x0))) x5.toNatClampNeg ((cA S (za (cR S 0 (za x0))) x5.toNatClampNeg) + x6)) (za (cR (csA S (za (cR S 0 (za x0))) x5.toNatClampNeg ((cA S (za (cR S 0 (za x0))) x5.toNatClampNeg) + x6)) 0 (za x0))) x3.toNatClampNeg) (csA S (za (cR S 0 (za x0))) x5.toNatClampNeg ((cA S (za (cR S 0 (za x0))) x5.toNatClampNeg) + x6)))
def O_X0_pay_131 (N : Nat) (x0 : Option Nat) (x3 : Int32) (x5 : Int32) (x6 : Int32) (x8 : Int32) (S : cS) : Prop := (cis S x0 1) ∧ (cis S (cR S 0 (za x0)) 21 ∧ vp_in x5 (cL S (za (cR S 0 (za x0))))) ∧ (cis S (cR S 0 (za x0)) 21 ∧ vp_in x5 (cL S (za (cR S 0 (za x0))))) ∧ (cis (csA S (za (cR S 0 (za x0))) x5.toNatClampNeg ((cA S (za (cR S 0 (za x0))) x5.toNatClampNeg) + x6)) x0 1) ∧ (cis (csA S (za (cR S 0 (za x0))) x5.toNatClampNeg ((cA S (za (cR S 0 (za x0))) x5.toNatClampNeg) + x6)) (cR (csA S (za (cR S 0 (za x0))) x5.toNatClampNeg ((cA S (za (cR S 0 (za x0))) x5.toNatClampNeg) + x6)) 0 (za x0)) 21 ∧ vp_in x3 (cL (csA S (za (cR S 0 (za x0))) x5.toNatClampNeg ((cA S (za (cR S 0 (za x0))) x5.toNatClampNeg) + x6)) (za (cR (csA S (za (cR S 0 (za x0))) x5.toNatClampNeg ((cA S (za (cR S 0 (za x0))) x5.toNatClampNeg) + x6)) 0 (za x0))))) ∧ O_X0_pay_150 N x8 (cR (csA S (za (cR S 0 (za x0))) x5.toNatClampNeg ((cA S (za (cR S 0 (za x0))) x5.toNatClampNeg) + x6)) 0 (za x0)) x3 (cA (csA S (za (cR S 0 (za x0))) x5.toNatClampNeg ((cA S (za (cR S 0 (za x0))) x5.toNatClampNeg) + x6)) (za (cR (csA S (za (cR S 0 (za x0))) x5.toNatClampNeg ((cA S (za (cR S 0 (za x0))) x5.toNatClampNeg) + x6)) 0 (za x0))) x3.toNatClampNeg) (csA S (za (cR S 0 (za x0))) x5.toNatClampNeg ((cA S (za (cR S 0 (za x0))) x5.toNatClampNeg) + x6))
set_option maxRecDepth 100000 in
set_option maxHeartbeats 4000000 in
theorem b_X0_pay_131 {G : zG} {o : cO} {S : cS} {N : Nat} {Q : Option Value → cS → Prop} {X : Int32 × cS → Prop} (hG : zOK G) (hR : ∀ v S', X (v, S') → Q (some (.int v)) S') {x0 : Option Nat} {x3 : Int32} {x5 : Int32} {x6 : Int32} {x8 : Int32} (ok : O_X0_pay_131 N x0 x3 x5 x6 x8 S) (hx : X (F_X0_pay_131 N x0 x3 x5 x6 x8 S)) : cX G o dX0_pay mX0_pay 131 [some (va_rf x0), none, none, some (.int x3), none, some (.int x5), some (.int x6), none, some (.int x8)] [] S Q := by
  unfold O_X0_pay_131 at ok
  unfold F_X0_pay_131 at hx
  refine c_aload_nQ dX0_pay_131 rfl rfl ?_
  refine c_getR (C := RX0) (T := TX0) (N := 6) (ci := 0) (k := 0) ⟨rfl, inT0, by decide, fX0_9⟩ (by decide) (by decide) (by decide) dX0_pay_132 ok.1 ?_
  have ok := ok.2
  refine c_iload dX0_pay_135 rfl ?_
  refine c_dup2 dX0_pay_137 rfl (zcat_rf _) ?_
  refine c_iald dX0_pay_138 ok.1 ?_
  have ok := ok.2
  refine c_iload dX0_pay_139 rfl ?_
  refine c_iadd dX0_pay_141 ?_
  refine c_iast hG dX0_pay_142 ok.1 ?_
  have ok := ok.2
  refine c_aload_nQ dX0_pay_143 rfl rfl ?_
  refine c_getR (C := RX0) (T := TX0) (N := 6) (ci := 0) (k := 0) ⟨rfl, inT0, by decide, fX0_9⟩ (by decide) (by decide) (by decide) dX0_pay_144 ok.1 ?_
  have ok := ok.2
  refine c_iload_n dX0_pay_147 rfl rfl ?_
  refine c_dup2 dX0_pay_148 rfl (zcat_rf _) ?_
  refine c_iald dX0_pay_149 ok.1 ?_
  have ok := ok.2
  exact cX.cutz (b_X0_pay_150 hG hR ok hx) ⟨rfl, trivial⟩
def F_X0_pay_116 (N : Nat) (x0 : Option Nat) (x3 : Int32) (x4 : Int32) (x5 : Int32) (x6 : Int32) (x8 : Int32) (S : cS) : Int32 × cS := (F_X0_pay_131 N x0 x3 x5 x6 x8 (csA S (za (cR S 0 (za x0))) x4.toNatClampNeg ((cA S (za (cR S 0 (za x0))) x4.toNatClampNeg) - (x6 + x8))))
def O_X0_pay_116 (N : Nat) (x0 : Option Nat) (x3 : Int32) (x4 : Int32) (x5 : Int32) (x6 : Int32) (x8 : Int32) (S : cS) : Prop := (cis S x0 1) ∧ (cis S (cR S 0 (za x0)) 21 ∧ vp_in x4 (cL S (za (cR S 0 (za x0))))) ∧ (cis S (cR S 0 (za x0)) 21 ∧ vp_in x4 (cL S (za (cR S 0 (za x0))))) ∧ O_X0_pay_131 N x0 x3 x5 x6 x8 (csA S (za (cR S 0 (za x0))) x4.toNatClampNeg ((cA S (za (cR S 0 (za x0))) x4.toNatClampNeg) - (x6 + x8)))
set_option maxRecDepth 100000 in
set_option maxHeartbeats 4000000 in
theorem b_X0_pay_116 {G : zG} {o : cO} {S : cS} {N : Nat} {Q : Option Value → cS → Prop} {X : Int32 × cS → Prop} (hG : zOK G) (hR : ∀ v S', X (v, S') → Q (some (.int v)) S') {x0 : Option Nat} {x3 : Int32} {x4 : Int32} {x5 : Int32} {x6 : Int32} {x8 : Int32} (ok : O_X0_pay_116 N x0 x3 x4 x5 x6 x8 S) (hx : X (F_X0_pay_116 N x0 x3 x4 x5 x6 x8 S)) : cX G o dX0_pay mX0_pay 116 [some (va_rf x0), none, none, some (.int x3), some (.int x4), some (.int x5), some (.int x6), none, some (.int x8)] [] S Q := by
  unfold O_X0_pay_116 at ok
  unfold F_X0_pay_116 at hx
  refine c_aload_nQ dX0_pay_116 rfl rfl ?_
  refine c_getR (C := RX0) (T := TX0) (N := 6) (ci := 0) (k := 0) ⟨rfl, inT0, by decide, fX0_9⟩ (by decide) (by decide) (by decide) dX0_pay_117 ok.1 ?_
  have ok := ok.2
  refine c_iload dX0_pay_120 rfl ?_
  refine c_dup2 dX0_pay_122 rfl (zcat_rf _) ?_
  refine c_iald dX0_pay_123 ok.1 ?_
  have ok := ok.2
  refine c_iload dX0_pay_124 rfl ?_
  refine c_iload dX0_pay_126 rfl ?_
  refine c_iadd dX0_pay_128 ?_
  refine c_isub dX0_pay_129 ?_
  refine c_iast hG dX0_pay_130 ok.1 ?_
  have ok := ok.2
  exact cX.cutz (b_X0_pay_131 hG hR ok hx) ⟨rfl, rfl, rfl, rfl, rfl, trivial⟩
def F_X0_pay_103 (N : Nat)  (S : cS) : Int32 × cS := ((nI 0), S)
def O_X0_pay_103 (N : Nat)  (S : cS) : Prop := True
set_option maxRecDepth 100000 in
set_option maxHeartbeats 4000000 in
theorem b_X0_pay_103 {G : zG} {o : cO} {S : cS} {N : Nat} {Q : Option Value → cS → Prop} {X : Int32 × cS → Prop} (hG : zOK G) (hR : ∀ v S', X (v, S') → Q (some (.int v)) S') (ok : O_X0_pay_103 N S) (hx : X (F_X0_pay_103 N S)) : cX G o dX0_pay mX0_pay 103 [none, none, none, none, none, none, none, none, none] [] S Q := by
  unfold O_X0_pay_103 at ok
  unfold F_X0_pay_103 at hx
  refine c_iconst (v := nI 0) dX0_pay_103 (by decide) ?_
  exact c_ireturn rfl rfl dX0_pay_104 (hR _ _ hx)
def F_X0_pay_74 (N : Nat)  (S : cS) : Int32 × cS := ((nI 0), S)
def O_X0_pay_74 (N : Nat)  (S : cS) : Prop := True
set_option maxRecDepth 100000 in
set_option maxHeartbeats 4000000 in
theorem b_X0_pay_74 {G : zG} {o : cO} {S : cS} {N : Nat} {Q : Option Value → cS → Prop} {X : Int32 × cS → Prop} (hG : zOK G) (hR : ∀ v S', X (v, S') → Q (some (.int v)) S') (ok : O_X0_pay_74 N S) (hx : X (F_X0_pay_74 N S)) : cX G o dX0_pay mX0_pay 74 [none, none, none, none, none, none, none, none, none] [] S Q := by
  unfold O_X0_pay_74 at ok
  unfold F_X0_pay_74 at hx
  refine c_iconst (v := nI 0) dX0_pay_74 (by decide) ?_
  exact c_ireturn rfl rfl dX0_pay_75 (hR _ _ hx)
def F_X0_pay_0 (N : Nat) (x0 : Option Nat) (x1 : Int64) (x3 : Int32) (S : cS) : Int32 × cS := (if (nI 16) ≤ ((Int64.toInt32 (x1 >>> (Int32.toInt64 (nI 48) &&& 63))) &&& (nI 255)) then (F_X0_pay_74 N S) else (if (nI 16) ≤ ((Int64.toInt32 (x1 >>> (Int32.toInt64 (nI 40) &&& 63))) &&& (nI 255)) then (F_X0_pay_74 N S) else (if x3 < 0 then (F_X0_pay_74 N S) else (if x3 < (nI 16) then (if ((Int64.toInt32 (x1 >>> (Int32.toInt64 (nI 8) &&& 63))) &&& (65535 : Int32)) = (cA S (za (cR S 1 (za x0))) ((Int64.toInt32 (x1 >>> (Int32.toInt64 (nI 48) &&& 63))) &&& (nI 255)).toNatClampNeg) then (if (((Int64.toInt32 (x1 >>> (Int32.toInt64 (nI 24) &&& 63))) &&& (65535 : Int32)) + ((Int64.toInt32 x1) &&& (nI 255))) ≤ (cA S (za (cR S 0 (za x0))) ((Int64.toInt32 (x1 >>> (Int32.toInt64 (nI 48) &&& 63))) &&& (nI 255)).toNatClampNeg) then (F_X0_pay_116 N x0 x3 ((Int64.toInt32 (x1 >>> (Int32.toInt64 (nI 48) &&& 63))) &&& (nI 255)) ((Int64.toInt32 (x1 >>> (Int32.toInt64 (nI 40) &&& 63))) &&& (nI 255)) ((Int64.toInt32 (x1 >>> (Int32.toInt64 (nI 24) &&& 63))) &&& (65535 : Int32)) ((Int64.toInt32 x1) &&& (nI 255)) (csA S (za (cR S 1 (za x0))) ((Int64.toInt32 (x1 >>> (Int32.toInt64 (nI 48) &&& 63))) &&& (nI 255)).toNatClampNeg ((cA S (za (cR S 1 (za x0))) ((Int64.toInt32 (x1 >>> (Int32.toInt64 (nI 48) &&& 63))) &&& (nI 255)).toNatClampNeg) + (nI 1)))) else (F_X0_pay_103 N S)) else (F_X0_pay_103 N S)) else (F_X0_pay_74 N S)))))
def O_X0_pay_0 (N : Nat) (x0 : Option Nat) (x1 : Int64) (x3 : Int32) (S : cS) : Prop := (((nI 16) ≤ ((Int64.toInt32 (x1 >>> (Int32.toInt64 (nI 48) &&& 63))) &&& (nI 255)) → O_X0_pay_74 N S) ∧ (¬ (nI 16) ≤ ((Int64.toInt32 (x1 >>> (Int32.toInt64 (nI 48) &&& 63))) &&& (nI 255)) → (((nI 16) ≤ ((Int64.toInt32 (x1 >>> (Int32.toInt64 (nI 40) &&& 63))) &&& (nI 255)) → O_X0_pay_74 N S) ∧ (¬ (nI 16) ≤ ((Int64.toInt32 (x1 >>> (Int32.toInt64 (nI 40) &&& 63))) &&& (nI 255)) → ((x3 < 0 → O_X0_pay_74 N S) ∧ (¬ x3 < 0 → ((x3 < (nI 16) → (cis S x0 1) ∧ (cis S (cR S 1 (za x0)) 21 ∧ vp_in ((Int64.toInt32 (x1 >>> (Int32.toInt64 (nI 48) &&& 63))) &&& (nI 255)) (cL S (za (cR S 1 (za x0))))) ∧ ((((Int64.toInt32 (x1 >>> (Int32.toInt64 (nI 8) &&& 63))) &&& (65535 : Int32)) = (cA S (za (cR S 1 (za x0))) ((Int64.toInt32 (x1 >>> (Int32.toInt64 (nI 48) &&& 63))) &&& (nI 255)).toNatClampNeg) → (cis S x0 1) ∧ (cis S (cR S 0 (za x0)) 21 ∧ vp_in ((Int64.toInt32 (x1 >>> (Int32.toInt64 (nI 48) &&& 63))) &&& (nI 255)) (cL S (za (cR S 0 (za x0))))) ∧ (((((Int64.toInt32 (x1 >>> (Int32.toInt64 (nI 24) &&& 63))) &&& (65535 : Int32)) + ((Int64.toInt32 x1) &&& (nI 255))) ≤ (cA S (za (cR S 0 (za x0))) ((Int64.toInt32 (x1 >>> (Int32.toInt64 (nI 48) &&& 63))) &&& (nI 255)).toNatClampNeg) → (cis S x0 1) ∧ (cis S (cR S 1 (za x0)) 21 ∧ vp_in ((Int64.toInt32 (x1 >>> (Int32.toInt64 (nI 48) &&& 63))) &&& (nI 255)) (cL S (za (cR S 1 (za x0))))) ∧ (cis S (cR S 1 (za x0)) 21 ∧ vp_in ((Int64.toInt32 (x1 >>> (Int32.toInt64 (nI 48) &&& 63))) &&& (nI 255)) (cL S (za (cR S 1 (za x0))))) ∧ O_X0_pay_116 N x0 x3 ((Int64.toInt32 (x1 >>> (Int32.toInt64 (nI 48) &&& 63))) &&& (nI 255)) ((Int64.toInt32 (x1 >>> (Int32.toInt64 (nI 40) &&& 63))) &&& (nI 255)) ((Int64.toInt32 (x1 >>> (Int32.toInt64 (nI 24) &&& 63))) &&& (65535 : Int32)) ((Int64.toInt32 x1) &&& (nI 255)) (csA S (za (cR S 1 (za x0))) ((Int64.toInt32 (x1 >>> (Int32.toInt64 (nI 48) &&& 63))) &&& (nI 255)).toNatClampNeg ((cA S (za (cR S 1 (za x0))) ((Int64.toInt32 (x1 >>> (Int32.toInt64 (nI 48) &&& 63))) &&& (nI 255)).toNatClampNeg) + (nI 1)))) ∧ (¬ (((Int64.toInt32 (x1 >>> (Int32.toInt64 (nI 24) &&& 63))) &&& (65535 : Int32)) + ((Int64.toInt32 x1) &&& (nI 255))) ≤ (cA S (za (cR S 0 (za x0))) ((Int64.toInt32 (x1 >>> (Int32.toInt64 (nI 48) &&& 63))) &&& (nI 255)).toNatClampNeg) → O_X0_pay_103 N S))) ∧ (¬ ((Int64.toInt32 (x1 >>> (Int32.toInt64 (nI 8) &&& 63))) &&& (65535 : Int32)) = (cA S (za (cR S 1 (za x0))) ((Int64.toInt32 (x1 >>> (Int32.toInt64 (nI 48) &&& 63))) &&& (nI 255)).toNatClampNeg) → O_X0_pay_103 N S))) ∧ (¬ x3 < (nI 16) → O_X0_pay_74 N S))))))))
set_option maxRecDepth 100000 in
set_option maxHeartbeats 4000000 in
theorem b_X0_pay_0 {G : zG} {o : cO} {S : cS} {N : Nat} {Q : Option Value → cS → Prop} {X : Int32 × cS → Prop} (hG : zOK G) (hR : ∀ v S', X (v, S') → Q (some (.int v)) S') {x0 : Option Nat} {x1 : Int64} {x3 : Int32} (ok : O_X0_pay_0 N x0 x1 x3 S) (hx : X (F_X0_pay_0 N x0 x1 x3 S)) : cX G o dX0_pay mX0_pay 0 [some (va_rf x0), some (.long x1), none, some (.int x3), none, none, none, none, none] [] S Q := by
  unfold O_X0_pay_0 at ok
  unfold F_X0_pay_0 at hx
  refine c_lload_n dX0_pay_0 rfl rfl ?_
  refine c_bipush (v := nI 48) dX0_pay_1 (by decide) ?_
  refine c_lshr dX0_pay_3 ?_
  refine c_l2i dX0_pay_4 ?_
  refine c_sipush (v := nI 255) dX0_pay_5 (by decide) ?_
  refine c_iand dX0_pay_8 ?_
  refine c_istore_4 dX0_pay_9 (by decide) rfl ?_
  refine c_lload_n dX0_pay_11 rfl rfl ?_
  refine c_bipush (v := nI 40) dX0_pay_12 (by decide) ?_
  refine c_lshr dX0_pay_14 ?_
  refine c_l2i dX0_pay_15 ?_
  refine c_sipush (v := nI 255) dX0_pay_16 (by decide) ?_
  refine c_iand dX0_pay_19 ?_
  refine c_istore_5 dX0_pay_20 (by decide) rfl ?_
  refine c_lload_n dX0_pay_22 rfl rfl ?_
  refine c_bipush (v := nI 24) dX0_pay_23 (by decide) ?_
  refine c_lshr dX0_pay_25 ?_
  refine c_l2i dX0_pay_26 ?_
  refine c_ldc dX0_pay_27 nX0_45 ?_
  refine c_iand dX0_pay_29 ?_
  refine c_istore_6 dX0_pay_30 (by decide) rfl ?_
  refine c_lload_n dX0_pay_32 rfl rfl ?_
  refine c_bipush (v := nI 8) dX0_pay_33 (by decide) ?_
  refine c_lshr dX0_pay_35 ?_
  refine c_l2i dX0_pay_36 ?_
  refine c_ldc dX0_pay_37 nX0_45 ?_
  refine c_iand dX0_pay_39 ?_
  refine c_istore_7 dX0_pay_40 (by decide) rfl ?_
  refine c_lload_n dX0_pay_42 rfl rfl ?_
  refine c_l2i dX0_pay_43 ?_
  refine c_sipush (v := nI 255) dX0_pay_44 (by decide) ?_
  refine c_iand dX0_pay_47 ?_
  refine c_istore_8 dX0_pay_48 (by decide) rfl ?_
  refine c_iload dX0_pay_50 rfl ?_
  refine c_bipush (v := nI 16) dX0_pay_52 (by decide) ?_
  refine c_icmp_ge (tgt := 74) dX0_pay_54 (by decide) (fun c_54 => ?_) (fun c_54 => ?_)
  · have ok := ok.1 c_54
    have hx := xif_p c_54 hx
    exact cX.cutz (b_X0_pay_74 hG hR ok hx) trivial
  · have ok := ok.2 c_54
    have hx := xif_n c_54 hx
    refine c_iload dX0_pay_57 rfl ?_
    refine c_bipush (v := nI 16) dX0_pay_59 (by decide) ?_
    refine c_icmp_ge (tgt := 74) dX0_pay_61 (by decide) (fun c_61 => ?_) (fun c_61 => ?_)
    · have ok := ok.1 c_61
      have hx := xif_p c_61 hx
      exact cX.cutz (b_X0_pay_74 hG hR ok hx) trivial
    · have ok := ok.2 c_61
      have hx := xif_n c_61 hx
      refine c_iload_n dX0_pay_64 rfl rfl ?_
      refine c_if_lt (tgt := 74) dX0_pay_65 (by decide) (fun c_65 => ?_) (fun c_65 => ?_)
      · have ok := ok.1 c_65
        have hx := xif_p c_65 hx
        exact cX.cutz (b_X0_pay_74 hG hR ok hx) trivial
      · have ok := ok.2 c_65
        have hx := xif_n c_65 hx
        refine c_iload_n dX0_pay_68 rfl rfl ?_
        refine c_bipush (v := nI 16) dX0_pay_69 (by decide) ?_
        refine c_icmp_lt (tgt := 76) dX0_pay_71 (by decide) (fun c_71 => ?_) (fun c_71 => ?_)
        · have ok := ok.1 c_71
          have hx := xif_p c_71 hx
          refine c_iload dX0_pay_76 rfl ?_
          refine c_aload_nQ dX0_pay_78 rfl rfl ?_
          refine c_getR (C := RX0) (T := TX0) (N := 6) (ci := 0) (k := 1) ⟨rfl, inT0, by decide, fX0_15⟩ (by decide) (by decide) (by decide) dX0_pay_79 ok.1 ?_
          have ok := ok.2
          refine c_iload dX0_pay_82 rfl ?_
          refine c_iald dX0_pay_84 ok.1 ?_
          have ok := ok.2
          refine c_icmp_ne (tgt := 103) dX0_pay_85 (by decide) (fun c_85 => ?_) (fun c_85 => ?_)
          · have ok := ok.2 c_85
            have hx := xif_n c_85 hx
            exact cX.cutz (b_X0_pay_103 hG hR ok hx) trivial
          · have ok := ok.1 c_85
            have hx := xif_p c_85 hx
            refine c_aload_nQ dX0_pay_88 rfl rfl ?_
            refine c_getR (C := RX0) (T := TX0) (N := 6) (ci := 0) (k := 0) ⟨rfl, inT0, by decide, fX0_9⟩ (by decide) (by decide) (by decide) dX0_pay_89 ok.1 ?_
            have ok := ok.2
            refine c_iload dX0_pay_92 rfl ?_
            refine c_iald dX0_pay_94 ok.1 ?_
            have ok := ok.2
            refine c_iload dX0_pay_95 rfl ?_
            refine c_iload dX0_pay_97 rfl ?_
            refine c_iadd dX0_pay_99 ?_
            refine c_icmp_ge (tgt := 105) dX0_pay_100 (by decide) (fun c_100 => ?_) (fun c_100 => ?_)
            · have ok := ok.1 c_100
              have hx := xif_p c_100 hx
              refine c_aload_nQ dX0_pay_105 rfl rfl ?_
              refine c_getR (C := RX0) (T := TX0) (N := 6) (ci := 0) (k := 1) ⟨rfl, inT0, by decide, fX0_15⟩ (by decide) (by decide) (by decide) dX0_pay_106 ok.1 ?_
              have ok := ok.2
              refine c_iload dX0_pay_109 rfl ?_
              refine c_dup2 dX0_pay_111 rfl (zcat_rf _) ?_
              refine c_iald dX0_pay_112 ok.1 ?_
              have ok := ok.2
              refine c_iconst (v := nI 1) dX0_pay_113 (by decide) ?_
              refine c_iadd dX0_pay_114 ?_
              refine c_iast hG dX0_pay_115 ok.1 ?_
              have ok := ok.2
              exact cX.cutz (b_X0_pay_116 hG hR ok hx) ⟨rfl, rfl, rfl, rfl, rfl, rfl, trivial⟩
            · have ok := ok.2 c_100
              have hx := xif_n c_100 hx
              exact cX.cutz (b_X0_pay_103 hG hR ok hx) trivial
        · have ok := ok.2 c_71
          have hx := xif_n c_71 hx
          exact cX.cutz (b_X0_pay_74 hG hR ok hx) trivial
def f_X0_pay (N : Nat) (S : cS) (a0 : Nat) (x1 : Int64) (x3 : Int32) : Int32 × cS := F_X0_pay_0 N (some a0) x1 x3 S
def o_X0_pay (N : Nat) (S : cS) (a0 : Nat) (x1 : Int64) (x3 : Int32) : Prop := O_X0_pay_0 N (some a0) x1 x3 S
set_option maxRecDepth 100000 in
set_option maxHeartbeats 4000000 in
theorem cc_X0_pay {G : zG} {o : cO} {S : cS} {N : Nat} (hG : zOK G) {a0 : Nat} {x1 : Int64} {x3 : Int32} (ok : o_X0_pay N S a0 x1 x3) : cCi G o dX0_pay mX0_pay [.ref a0, .long x1, .int x3] S (fun v S' => v = (f_X0_pay N S a0 x1 x3).1 ∧ S' = (f_X0_pay N S a0 x1 x3).2) := by
  refine cC.ofX rfl (by exact Nat.le_of_ble_eq_true rfl) ?_
  show cX G o dX0_pay mX0_pay 0 [some (.ref a0), some (.long x1), none, some (.int x3), none, none, none, none, none] [] S _
  exact cX.cutz (b_X0_pay_0 (X := fun F => F = f_X0_pay N S a0 x1 x3) hG (fun v S' h => ⟨v, rfl, by rw [← h], by rw [← h]⟩) ok rfl) ⟨rfl, rfl, rfl, trivial⟩
/-! X1_evidenceSize -/
def F_X1_evidenceSize_91 (N : Nat) (s0 : Int32) (S : cS) : Int32 := s0
def O_X1_evidenceSize_91 (N : Nat) (s0 : Int32) (S : cS) : Prop := True
set_option maxRecDepth 100000 in
set_option maxHeartbeats 4000000 in
theorem b_X1_evidenceSize_91 {G : zG} {o : cO} {S : cS} {N : Nat} {Q : Option Value → cS → Prop} {X : Int32 → Prop} (hG : zOK G) (hR : ∀ v, X v → Q (some (.int v)) S) {s0 : Int32} (ok : O_X1_evidenceSize_91 N s0 S) (hx : X (F_X1_evidenceSize_91 N s0 S)) : cX G o dX1_evidenceSize mX1_evidenceSize 91 [none, none, none, none] [.int s0] S Q := by
  unfold O_X1_evidenceSize_91 at ok
  unfold F_X1_evidenceSize_91 at hx
  exact c_ireturn rfl rfl dX1_evidenceSize_91 (hR _ hx)
def F_X1_evidenceSize_80 (N : Nat) (s0 : Int32) (S : cS) : Int32 := (if s0 = 0 then (F_X1_evidenceSize_91 N (-1) S) else (F_X1_evidenceSize_91 N (nI 71) S))
def O_X1_evidenceSize_80 (N : Nat) (s0 : Int32) (S : cS) : Prop := ((s0 = 0 → O_X1_evidenceSize_91 N (-1) S) ∧ (¬ s0 = 0 → O_X1_evidenceSize_91 N (nI 71) S))
set_option maxRecDepth 100000 in
set_option maxHeartbeats 4000000 in
theorem b_X1_evidenceSize_80 {G : zG} {o : cO} {S : cS} {N : Nat} {Q : Option Value → cS → Prop} {X : Int32 → Prop} (hG : zOK G) (hR : ∀ v, X v → Q (some (.int v)) S) {s0 : Int32} (ok : O_X1_evidenceSize_80 N s0 S) (hx : X (F_X1_evidenceSize_80 N s0 S)) : cX G o dX1_evidenceSize mX1_evidenceSize 80 [none, none, none, none] [.int s0] S Q := by
  unfold O_X1_evidenceSize_80 at ok
  unfold F_X1_evidenceSize_80 at hx
  refine c_istore_3 dX1_evidenceSize_80 (by decide) rfl ?_
  refine c_iload_n dX1_evidenceSize_81 rfl rfl ?_
  refine c_if_eq (tgt := 90) dX1_evidenceSize_82 (by decide) (fun c_82 => ?_) (fun c_82 => ?_)
  · have ok := ok.1 c_82
    have hx := xif_p c_82 hx
    refine c_iconst (v := -1) dX1_evidenceSize_90 (by decide) ?_
    exact cX.cutz (b_X1_evidenceSize_91 hG hR ok hx) trivial
  · have ok := ok.2 c_82
    have hx := xif_n c_82 hx
    refine c_bipush (v := nI 71) dX1_evidenceSize_85 (by decide) ?_
    refine c_goto (tgt := 91) dX1_evidenceSize_87 (by decide) ?_
    exact cX.cutz (b_X1_evidenceSize_91 hG hR ok hx) trivial
def F_X1_evidenceSize_79 (N : Nat)  (S : cS) : Int32 := (F_X1_evidenceSize_80 N (nI 0) S)
def O_X1_evidenceSize_79 (N : Nat)  (S : cS) : Prop := O_X1_evidenceSize_80 N (nI 0) S
set_option maxRecDepth 100000 in
set_option maxHeartbeats 4000000 in
theorem b_X1_evidenceSize_79 {G : zG} {o : cO} {S : cS} {N : Nat} {Q : Option Value → cS → Prop} {X : Int32 → Prop} (hG : zOK G) (hR : ∀ v, X v → Q (some (.int v)) S) (ok : O_X1_evidenceSize_79 N S) (hx : X (F_X1_evidenceSize_79 N S)) : cX G o dX1_evidenceSize mX1_evidenceSize 79 [none, none, none, none] [] S Q := by
  unfold O_X1_evidenceSize_79 at ok
  unfold F_X1_evidenceSize_79 at hx
  refine c_iconst (v := nI 0) dX1_evidenceSize_79 (by decide) ?_
  exact cX.cutz (b_X1_evidenceSize_80 hG hR ok hx) trivial
def F_X1_evidenceSize_44 (N : Nat) (s0 : Int32) (S : cS) : Int32 := s0
def O_X1_evidenceSize_44 (N : Nat) (s0 : Int32) (S : cS) : Prop := True
set_option maxRecDepth 100000 in
set_option maxHeartbeats 4000000 in
theorem b_X1_evidenceSize_44 {G : zG} {o : cO} {S : cS} {N : Nat} {Q : Option Value → cS → Prop} {X : Int32 → Prop} (hG : zOK G) (hR : ∀ v, X v → Q (some (.int v)) S) {s0 : Int32} (ok : O_X1_evidenceSize_44 N s0 S) (hx : X (F_X1_evidenceSize_44 N s0 S)) : cX G o dX1_evidenceSize mX1_evidenceSize 44 [none, none, none, none] [.int s0] S Q := by
  unfold O_X1_evidenceSize_44 at ok
  unfold F_X1_evidenceSize_44 at hx
  exact c_ireturn rfl rfl dX1_evidenceSize_44 (hR _ hx)
def F_X1_evidenceSize_18 (N : Nat)  (S : cS) : Int32 := (-1)
def O_X1_evidenceSize_18 (N : Nat)  (S : cS) : Prop := True
set_option maxRecDepth 100000 in
set_option maxHeartbeats 4000000 in
theorem b_X1_evidenceSize_18 {G : zG} {o : cO} {S : cS} {N : Nat} {Q : Option Value → cS → Prop} {X : Int32 → Prop} (hG : zOK G) (hR : ∀ v, X v → Q (some (.int v)) S) (ok : O_X1_evidenceSize_18 N S) (hx : X (F_X1_evidenceSize_18 N S)) : cX G o dX1_evidenceSize mX1_evidenceSize 18 [none, none, none, none] [] S Q := by
  unfold O_X1_evidenceSize_18 at ok
  unfold F_X1_evidenceSize_18 at hx
  refine c_iconst (v := -1) dX1_evidenceSize_18 (by decide) ?_
  exact c_ireturn rfl rfl dX1_evidenceSize_19 (hR _ hx)
def F_X1_evidenceSize_0 (N : Nat) (x0 : Option Nat) (x1 : Int32) (x2 : Int32) (S : cS) : Int32 := (if x1 < 0 then (F_X1_evidenceSize_18 N S) else (if (nI (cL S (za x0))) < x2 then (F_X1_evidenceSize_18 N S) else (if (nI 39) ≤ (x2 - x1) then (if (cA S (za x0) (x1 + (nI 5)).toNatClampNeg) = 0 then (if (cA S (za x0) (x1 + (nI 6)).toNatClampNeg) = (nI 1) then (F_X1_evidenceSize_44 N (nI 39) S) else (F_X1_evidenceSize_44 N (-1) S)) else (if (cA S (za x0) (x1 + (nI 5)).toNatClampNeg) = (nI 1) then (if (x2 - x1) < (nI 71) then (F_X1_evidenceSize_79 N S) else (if (cA S (za x0) ((x1 + (nI 6)) + (nI 32)).toNatClampNeg) = (nI 1) then (F_X1_evidenceSize_80 N (nI 1) S) else (F_X1_evidenceSize_79 N S))) else (F_X1_evidenceSize_79 N S))) else (F_X1_evidenceSize_18 N S))))
def O_X1_evidenceSize_0 (N : Nat) (x0 : Option Nat) (x1 : Int32) (x2 : Int32) (S : cS) : Prop := ((x1 < 0 → O_X1_evidenceSize_18 N S) ∧ (¬ x1 < 0 → (cis S x0 20) ∧ (((nI (cL S (za x0))) < x2 → O_X1_evidenceSize_18 N S) ∧ (¬ (nI (cL S (za x0))) < x2 → (((nI 39) ≤ (x2 - x1) → (cis S x0 20 ∧ vp_in (x1 + (nI 5)) (cL S (za x0))) ∧ (((cA S (za x0) (x1 + (nI 5)).toNatClampNeg) = 0 → (cis S x0 20 ∧ vp_in (x1 + (nI 6)) (cL S (za x0))) ∧ (((cA S (za x0) (x1 + (nI 6)).toNatClampNeg) = (nI 1) → O_X1_evidenceSize_44 N (nI 39) S) ∧ (¬ (cA S (za x0) (x1 + (nI 6)).toNatClampNeg) = (nI 1) → O_X1_evidenceSize_44 N (-1) S))) ∧ (¬ (cA S (za x0) (x1 + (nI 5)).toNatClampNeg) = 0 → (cis S x0 20 ∧ vp_in (x1 + (nI 5)) (cL S (za x0))) ∧ (((cA S (za x0) (x1 + (nI 5)).toNatClampNeg) = (nI 1) → (((x2 - x1) < (nI 71) → O_X1_evidenceSize_79 N S) ∧ (¬ (x2 - x1) < (nI 71) → (cis S x0 20 ∧ vp_in ((x1 + (nI 6)) + (nI 32)) (cL S (za x0))) ∧ (((cA S (za x0) ((x1 + (nI 6)) + (nI 32)).toNatClampNeg) = (nI 1) → O_X1_evidenceSize_80 N (nI 1) S) ∧ (¬ (cA S (za x0) ((x1 + (nI 6)) + (nI 32)).toNatClampNeg) = (nI 1) → O_X1_evidenceSize_79 N S))))) ∧ (¬ (cA S (za x0) (x1 + (nI 5)).toNatClampNeg) = (nI 1) → O_X1_evidenceSize_79 N S))))) ∧ (¬ (nI 39) ≤ (x2 - x1) → O_X1_evidenceSize_18 N S))))))
set_option maxRecDepth 100000 in
set_option maxHeartbeats 4000000 in
theorem b_X1_evidenceSize_0 {G : zG} {o : cO} {S : cS} {N : Nat} {Q : Option Value → cS → Prop} {X : Int32 → Prop} (hG : zOK G) (hR : ∀ v, X v → Q (some (.int v)) S) {x0 : Option Nat} {x1 : Int32} {x2 : Int32} (ok : O_X1_evidenceSize_0 N x0 x1 x2 S) (hx : X (F_X1_evidenceSize_0 N x0 x1 x2 S)) : cX G o dX1_evidenceSize mX1_evidenceSize 0 [some (va_rf x0), some (.int x1), some (.int x2), none] [] S Q := by
  unfold O_X1_evidenceSize_0 at ok
  unfold F_X1_evidenceSize_0 at hx
  refine c_iload_n dX1_evidenceSize_0 rfl rfl ?_
  refine c_if_lt (tgt := 18) dX1_evidenceSize_1 (by decide) (fun c_1 => ?_) (fun c_1 => ?_)
  · have ok := ok.1 c_1
    have hx := xif_p c_1 hx
    exact cX.cutz (b_X1_evidenceSize_18 hG hR ok hx) trivial
  · have ok := ok.2 c_1
    have hx := xif_n c_1 hx
    refine c_iload_n dX1_evidenceSize_4 rfl rfl ?_
    refine c_aload_nQ dX1_evidenceSize_5 rfl rfl ?_
    refine c_alen (t := 0) (ty := .byte) rfl dX1_evidenceSize_6 ok.1 ?_
    have ok := ok.2
    refine c_icmp_gt (tgt := 18) dX1_evidenceSize_7 (by decide) (fun c_7 => ?_) (fun c_7 => ?_)
    · have ok := ok.1 c_7
      have hx := xif_p c_7 hx
      exact cX.cutz (b_X1_evidenceSize_18 hG hR ok hx) trivial
    · have ok := ok.2 c_7
      have hx := xif_n c_7 hx
      refine c_iload_n dX1_evidenceSize_10 rfl rfl ?_
      refine c_iload_n dX1_evidenceSize_11 rfl rfl ?_
      refine c_isub dX1_evidenceSize_12 ?_
      refine c_bipush (v := nI 39) dX1_evidenceSize_13 (by decide) ?_
      refine c_icmp_ge (tgt := 20) dX1_evidenceSize_15 (by decide) (fun c_15 => ?_) (fun c_15 => ?_)
      · have ok := ok.1 c_15
        have hx := xif_p c_15 hx
        refine c_aload_nQ dX1_evidenceSize_20 rfl rfl ?_
        refine c_iload_n dX1_evidenceSize_21 rfl rfl ?_
        refine c_iconst (v := nI 5) dX1_evidenceSize_22 (by decide) ?_
        refine c_iadd dX1_evidenceSize_23 ?_
        refine c_bald dX1_evidenceSize_24 ok.1 ?_
        have ok := ok.2
        refine c_if_ne (tgt := 45) dX1_evidenceSize_25 (by decide) (fun c_25 => ?_) (fun c_25 => ?_)
        · have ok := ok.2 c_25
          have hx := xif_n c_25 hx
          refine c_aload_nQ dX1_evidenceSize_45 rfl rfl ?_
          refine c_iload_n dX1_evidenceSize_46 rfl rfl ?_
          refine c_iconst (v := nI 5) dX1_evidenceSize_47 (by decide) ?_
          refine c_iadd dX1_evidenceSize_48 ?_
          refine c_bald dX1_evidenceSize_49 ok.1 ?_
          have ok := ok.2
          refine c_iconst (v := nI 1) dX1_evidenceSize_50 (by decide) ?_
          refine c_icmp_ne (tgt := 79) dX1_evidenceSize_51 (by decide) (fun c_51 => ?_) (fun c_51 => ?_)
          · have ok := ok.2 c_51
            have hx := xif_n c_51 hx
            exact cX.cutz (b_X1_evidenceSize_79 hG hR ok hx) trivial
          · have ok := ok.1 c_51
            have hx := xif_p c_51 hx
            refine c_iload_n dX1_evidenceSize_54 rfl rfl ?_
            refine c_iload_n dX1_evidenceSize_55 rfl rfl ?_
            refine c_isub dX1_evidenceSize_56 ?_
            refine c_bipush (v := nI 71) dX1_evidenceSize_57 (by decide) ?_
            refine c_icmp_lt (tgt := 79) dX1_evidenceSize_59 (by decide) (fun c_59 => ?_) (fun c_59 => ?_)
            · have ok := ok.1 c_59
              have hx := xif_p c_59 hx
              exact cX.cutz (b_X1_evidenceSize_79 hG hR ok hx) trivial
            · have ok := ok.2 c_59
              have hx := xif_n c_59 hx
              refine c_aload_nQ dX1_evidenceSize_62 rfl rfl ?_
              refine c_iload_n dX1_evidenceSize_63 rfl rfl ?_
              refine c_bipush (v := nI 6) dX1_evidenceSize_64 (by decide) ?_
              refine c_iadd dX1_evidenceSize_66 ?_
              refine c_bipush (v := nI 32) dX1_evidenceSize_67 (by decide) ?_
              refine c_iadd dX1_evidenceSize_69 ?_
              refine c_bald dX1_evidenceSize_70 ok.1 ?_
              have ok := ok.2
              refine c_iconst (v := nI 1) dX1_evidenceSize_71 (by decide) ?_
              refine c_icmp_ne (tgt := 79) dX1_evidenceSize_72 (by decide) (fun c_72 => ?_) (fun c_72 => ?_)
              · have ok := ok.2 c_72
                have hx := xif_n c_72 hx
                exact cX.cutz (b_X1_evidenceSize_79 hG hR ok hx) trivial
              · have ok := ok.1 c_72
                have hx := xif_p c_72 hx
                refine c_iconst (v := nI 1) dX1_evidenceSize_75 (by decide) ?_
                refine c_goto (tgt := 80) dX1_evidenceSize_76 (by decide) ?_
                exact cX.cutz (b_X1_evidenceSize_80 hG hR ok hx) trivial
        · have ok := ok.1 c_25
          have hx := xif_p c_25 hx
          refine c_aload_nQ dX1_evidenceSize_28 rfl rfl ?_
          refine c_iload_n dX1_evidenceSize_29 rfl rfl ?_
          refine c_bipush (v := nI 6) dX1_evidenceSize_30 (by decide) ?_
          refine c_iadd dX1_evidenceSize_32 ?_
          refine c_bald dX1_evidenceSize_33 ok.1 ?_
          have ok := ok.2
          refine c_iconst (v := nI 1) dX1_evidenceSize_34 (by decide) ?_
          refine c_icmp_ne (tgt := 43) dX1_evidenceSize_35 (by decide) (fun c_35 => ?_) (fun c_35 => ?_)
          · have ok := ok.2 c_35
            have hx := xif_n c_35 hx
            refine c_iconst (v := -1) dX1_evidenceSize_43 (by decide) ?_
            exact cX.cutz (b_X1_evidenceSize_44 hG hR ok hx) trivial
          · have ok := ok.1 c_35
            have hx := xif_p c_35 hx
            refine c_bipush (v := nI 39) dX1_evidenceSize_38 (by decide) ?_
            refine c_goto (tgt := 44) dX1_evidenceSize_40 (by decide) ?_
            exact cX.cutz (b_X1_evidenceSize_44 hG hR ok hx) trivial
      · have ok := ok.2 c_15
        have hx := xif_n c_15 hx
        exact cX.cutz (b_X1_evidenceSize_18 hG hR ok hx) trivial
def f_X1_evidenceSize (N : Nat) (S : cS) (x0 : Option Nat) (x1 : Int32) (x2 : Int32) : Int32 := F_X1_evidenceSize_0 N x0 x1 x2 S
def o_X1_evidenceSize (N : Nat) (S : cS) (x0 : Option Nat) (x1 : Int32) (x2 : Int32) : Prop := O_X1_evidenceSize_0 N x0 x1 x2 S
set_option maxRecDepth 100000 in
set_option maxHeartbeats 4000000 in
theorem cc_X1_evidenceSize {G : zG} {o : cO} {S : cS} {N : Nat} (hG : zOK G) {x0 : Option Nat} {x1 : Int32} {x2 : Int32} (ok : o_X1_evidenceSize N S x0 x1 x2) : cCi G o dX1_evidenceSize mX1_evidenceSize [va_rf x0, .int x1, .int x2] S (fun v S' => v = f_X1_evidenceSize N S x0 x1 x2 ∧ S' = S) := by
  refine cC.ofX rfl (by cases x0 <;> exact Nat.le_of_ble_eq_true rfl) ?_
  rw [show zargs mX1_evidenceSize.2.2.1 [va_rf x0, .int x1, .int x2] = [some (va_rf x0), some (.int x1), some (.int x2), none] from by cases x0 <;> rfl]
  exact cX.cutz (b_X1_evidenceSize_0 (X := fun F => F = f_X1_evidenceSize N S x0 x1 x2) hG (fun v h => ⟨v, rfl, h, rfl⟩) ok rfl) ⟨rfl, rfl, rfl, trivial⟩
/-! X0_codeAt -/
def F_X0_codeAt_47 (N : Nat) (x2 : Int64) (S : cS) : Int64 := x2
def O_X0_codeAt_47 (N : Nat) (x2 : Int64) (S : cS) : Prop := True
set_option maxRecDepth 100000 in
set_option maxHeartbeats 4000000 in
theorem b_X0_codeAt_47 {G : zG} {o : cO} {S : cS} {N : Nat} {Q : Option Value → cS → Prop} {X : Int64 → Prop} (hG : zOK G) (hR : ∀ v, X v → Q (some (.long v)) S) {x2 : Int64} (ok : O_X0_codeAt_47 N x2 S) (hx : X (F_X0_codeAt_47 N x2 S)) : cX G o dX0_codeAt mX0_codeAt 47 [none, none, some (.long x2), none, none] [] S Q := by
  unfold O_X0_codeAt_47 at ok
  unfold F_X0_codeAt_47 at hx
  refine c_lload_n dX0_codeAt_47 rfl rfl ?_
  exact c_lreturn rfl dX0_codeAt_48 (hR _ hx)
def B_X0_codeAt_5 (N : Nat) (rec : Option Nat → Int32 → Int64 → Int32 → Nat × Int64 × Unit) (x0 : Option Nat) (x1 : Int32) (x2 : Int64) (x4 : Int32) (S : cS) : Nat × Int64 × Unit := (if x4 < 0 then (0, x2, ()) else (if (x1 + (nI 7)) ≤ x4 then (0, x2, ()) else (if (nI (cL S (za x0))) ≤ x4 then (0, x2, ()) else (rec x0 x1 ((x2 <<< (Int32.toInt64 (nI 8) &&& 63)) ||| (Int32.toInt64 ((cA S (za x0) x4.toNatClampNeg) &&& (nI 255)))) (x4 + nI 1)))))
def OB_X0_codeAt_5 (N : Nat) (rok : Option Nat → Int32 → Int64 → Int32 → Prop) (x0 : Option Nat) (x1 : Int32) (x2 : Int64) (x4 : Int32) (S : cS) : Prop := ((x4 < 0 → True) ∧ (¬ x4 < 0 → (((x1 + (nI 7)) ≤ x4 → True) ∧ (¬ (x1 + (nI 7)) ≤ x4 → (cis S x0 20) ∧ (((nI (cL S (za x0))) ≤ x4 → True) ∧ (¬ (nI (cL S (za x0))) ≤ x4 → (cis S x0 20 ∧ vp_in x4 (cL S (za x0))) ∧ rok x0 x1 ((x2 <<< (Int32.toInt64 (nI 8) &&& 63)) ||| (Int32.toInt64 ((cA S (za x0) x4.toNatClampNeg) &&& (nI 255)))) (x4 + nI 1)))))))
set_option maxRecDepth 100000 in
set_option maxHeartbeats 4000000 in
theorem bb_X0_codeAt_5 {G : zG} {o : cO} {S : cS} {N : Nat} {Q : Option Value → cS → Prop} {X : Nat × Int64 × Unit → Prop} (hG : zOK G) (hX0 : ∀ (x2 : Int64) , X (0, x2, ()) → cX G o dX0_codeAt mX0_codeAt 47 [none, none, some (.long x2), none, none] [] S Q) {rec : Option Nat → Int32 → Int64 → Int32 → Nat × Int64 × Unit} {rok : Option Nat → Int32 → Int64 → Int32 → Prop} (hrec : ∀ (x0 : Option Nat) (x1 : Int32) (x2 : Int64) (x4 : Int32), rok x0 x1 x2 x4 → X (rec x0 x1 x2 x4) → cX G o dX0_codeAt mX0_codeAt 5 [some (va_rf x0), some (.int x1), some (.long x2), none, some (.int x4)] [] S Q) {x0 : Option Nat} {x1 : Int32} {x2 : Int64} {x4 : Int32} (ok : OB_X0_codeAt_5 N rok x0 x1 x2 x4 S) (hx : X (B_X0_codeAt_5 N rec x0 x1 x2 x4 S)) : cX G o dX0_codeAt mX0_codeAt 5 [some (va_rf x0), some (.int x1), some (.long x2), none, some (.int x4)] [] S Q := by
  unfold OB_X0_codeAt_5 at ok
  unfold B_X0_codeAt_5 at hx
  refine c_iload dX0_codeAt_5 rfl ?_
  refine c_if_lt (tgt := 47) dX0_codeAt_7 (by decide) (fun c_7 => ?_) (fun c_7 => ?_)
  · have ok := ok.1 c_7
    have hx := xif_p c_7 hx
    exact cX.cutz (hX0 _  hx) ⟨rfl, trivial⟩
  · have ok := ok.2 c_7
    have hx := xif_n c_7 hx
    refine c_iload dX0_codeAt_10 rfl ?_
    refine c_iload_n dX0_codeAt_12 rfl rfl ?_
    refine c_bipush (v := nI 7) dX0_codeAt_13 (by decide) ?_
    refine c_iadd dX0_codeAt_15 ?_
    refine c_icmp_ge (tgt := 47) dX0_codeAt_16 (by decide) (fun c_16 => ?_) (fun c_16 => ?_)
    · have ok := ok.1 c_16
      have hx := xif_p c_16 hx
      exact cX.cutz (hX0 _  hx) ⟨rfl, trivial⟩
    · have ok := ok.2 c_16
      have hx := xif_n c_16 hx
      refine c_iload dX0_codeAt_19 rfl ?_
      refine c_aload_nQ dX0_codeAt_21 rfl rfl ?_
      refine c_alen (t := 0) (ty := .byte) rfl dX0_codeAt_22 ok.1 ?_
      have ok := ok.2
      refine c_icmp_ge (tgt := 47) dX0_codeAt_23 (by decide) (fun c_23 => ?_) (fun c_23 => ?_)
      · have ok := ok.1 c_23
        have hx := xif_p c_23 hx
        exact cX.cutz (hX0 _  hx) ⟨rfl, trivial⟩
      · have ok := ok.2 c_23
        have hx := xif_n c_23 hx
        refine c_lload_n dX0_codeAt_26 rfl rfl ?_
        refine c_bipush (v := nI 8) dX0_codeAt_27 (by decide) ?_
        refine c_lshl dX0_codeAt_29 ?_
        refine c_aload_nQ dX0_codeAt_30 rfl rfl ?_
        refine c_iload dX0_codeAt_31 rfl ?_
        refine c_bald dX0_codeAt_33 ok.1 ?_
        have ok := ok.2
        refine c_sipush (v := nI 255) dX0_codeAt_34 (by decide) ?_
        refine c_iand dX0_codeAt_37 ?_
        refine c_i2l dX0_codeAt_38 ?_
        refine c_lor dX0_codeAt_39 ?_
        refine c_lstore_2 dX0_codeAt_40 (by decide) rfl ?_
        refine c_iinc_4 (v := (x4 + nI 1)) dX0_codeAt_41 rfl (by first | rfl | (congr 1)) (by decide) rfl ?_
        refine c_goto (tgt := 5) dX0_codeAt_44 (by decide) ?_
        exact cX.cutz (hrec _ _ _ _ ok hx) ⟨rfl, rfl, rfl, rfl, trivial⟩
def L_X0_codeAt_5 (N : Nat) : Nat → Option Nat → Int32 → Int64 → Int32 → cS → Nat × Int64 × Unit
  | 0, x0, x1, x2, x4, S => (0, 0, ())
  | n + 1, x0, x1, x2, x4, S => B_X0_codeAt_5 N (fun x0 x1 x2 x4 => L_X0_codeAt_5 N n x0 x1 x2 x4 S) x0 x1 x2 x4 S
def OL_X0_codeAt_5 (N : Nat) : Nat → Option Nat → Int32 → Int64 → Int32 → cS → Prop
  | 0, _, _, _, _, _ => False
  | n + 1, x0, x1, x2, x4, S => OB_X0_codeAt_5 N (fun x0 x1 x2 x4 => OL_X0_codeAt_5 N n x0 x1 x2 x4 S) x0 x1 x2 x4 S
set_option maxRecDepth 100000 in
set_option maxHeartbeats 4000000 in
theorem l_X0_codeAt_5 {G : zG} {o : cO} {S : cS} {N : Nat} {Q : Option Value → cS → Prop} {X : Nat × Int64 × Unit → Prop} (hG : zOK G) (hX0 : ∀ (x2 : Int64) , X (0, x2, ()) → cX G o dX0_codeAt mX0_codeAt 47 [none, none, some (.long x2), none, none] [] S Q) : ∀ (n : Nat) (x0 : Option Nat) (x1 : Int32) (x2 : Int64) (x4 : Int32) , OL_X0_codeAt_5 N n x0 x1 x2 x4 S → X (L_X0_codeAt_5 N n x0 x1 x2 x4 S) → cX G o dX0_codeAt mX0_codeAt 5 [some (va_rf x0), some (.int x1), some (.long x2), none, some (.int x4)] [] S Q := by
  intro n
  induction n with
  | zero => intro x0 x1 x2 x4 ok; exact absurd ok id
  | succ n ih =>
    intro x0 x1 x2 x4 ok hx
    exact bb_X0_codeAt_5 hG hX0 (rec := fun x0 x1 x2 x4 => L_X0_codeAt_5 N n x0 x1 x2 x4 S) (rok := fun x0 x1 x2 x4 => OL_X0_codeAt_5 N n x0 x1 x2 x4 S) (fun x0 x1 x2 x4 ok hx => ih x0 x1 x2 x4 ok hx) ok hx
def A_X0_codeAt_5 (N : Nat) (x0 : Option Nat) (x1 : Int32) (x2 : Int64) (x4 : Int32) (S : cS) (z : Nat × Int64 × Unit) : Int64 := (F_X0_codeAt_47 N (z.2.1) S)
def OA_X0_codeAt_5 (N : Nat) (x0 : Option Nat) (x1 : Int32) (x2 : Int64) (x4 : Int32) (S : cS) (z : Nat × Int64 × Unit) : Prop := O_X0_codeAt_47 N (z.2.1) S
set_option maxRecDepth 100000 in
set_option maxHeartbeats 4000000 in
theorem c_X0_codeAt_5 {G : zG} {o : cO} {S : cS} {N : Nat} {Q : Option Value → cS → Prop} {X : Int64 → Prop} (hG : zOK G) (hR : ∀ v, X v → Q (some (.long v)) S) {x0 : Option Nat} {x1 : Int32} {x2 : Int64} {x4 : Int32} (ok : OL_X0_codeAt_5 N N x0 x1 x2 x4 S ∧ OA_X0_codeAt_5 N x0 x1 x2 x4 S (L_X0_codeAt_5 N N x0 x1 x2 x4 S)) (hx : X (A_X0_codeAt_5 N x0 x1 x2 x4 S (L_X0_codeAt_5 N N x0 x1 x2 x4 S))) : cX G o dX0_codeAt mX0_codeAt 5 [some (va_rf x0), some (.int x1), some (.long x2), none, some (.int x4)] [] S Q := by
  refine l_X0_codeAt_5 hG ?_ N x0 x1 x2 x4 ok.1 (X := fun z => OA_X0_codeAt_5 N x0 x1 x2 x4 S z ∧ X (A_X0_codeAt_5 N x0 x1 x2 x4 S z)) ⟨ok.2, hx⟩
  · intro x2' hz
    obtain ⟨ok, hx⟩ := hz
    unfold OA_X0_codeAt_5 at ok
    unfold A_X0_codeAt_5 at hx
    exact cX.cutz (b_X0_codeAt_47 hG hR ok hx) ⟨rfl, trivial⟩
def F_X0_codeAt_0 (N : Nat) (x0 : Option Nat) (x1 : Int32) (S : cS) : Int64 := (A_X0_codeAt_5 N x0 x1 (0 : Int64) x1 S (L_X0_codeAt_5 N N x0 x1 (0 : Int64) x1 S))
def O_X0_codeAt_0 (N : Nat) (x0 : Option Nat) (x1 : Int32) (S : cS) : Prop := (OL_X0_codeAt_5 N N x0 x1 (0 : Int64) x1 S ∧ OA_X0_codeAt_5 N x0 x1 (0 : Int64) x1 S (L_X0_codeAt_5 N N x0 x1 (0 : Int64) x1 S))
set_option maxRecDepth 100000 in
set_option maxHeartbeats 4000000 in
theorem b_X0_codeAt_0 {G : zG} {o : cO} {S : cS} {N : Nat} {Q : Option Value → cS → Prop} {X : Int64 → Prop} (hG : zOK G) (hR : ∀ v, X v → Q (some (.long v)) S) {x0 : Option Nat} {x1 : Int32} (ok : O_X0_codeAt_0 N x0 x1 S) (hx : X (F_X0_codeAt_0 N x0 x1 S)) : cX G o dX0_codeAt mX0_codeAt 0 [some (va_rf x0), some (.int x1), none, none, none] [] S Q := by
  unfold O_X0_codeAt_0 at ok
  unfold F_X0_codeAt_0 at hx
  refine c_lconst (v := 0) dX0_codeAt_0 rfl ?_
  refine c_lstore_2 dX0_codeAt_1 (by decide) rfl ?_
  refine c_iload_n dX0_codeAt_2 rfl rfl ?_
  refine c_istore_4 dX0_codeAt_3 (by decide) rfl ?_
  exact cX.cutz (c_X0_codeAt_5 hG hR ok hx) ⟨rfl, rfl, rfl, rfl, trivial⟩
def f_X0_codeAt (N : Nat) (S : cS) (x0 : Option Nat) (x1 : Int32) : Int64 := F_X0_codeAt_0 N x0 x1 S
def o_X0_codeAt (N : Nat) (S : cS) (x0 : Option Nat) (x1 : Int32) : Prop := O_X0_codeAt_0 N x0 x1 S
set_option maxRecDepth 100000 in
set_option maxHeartbeats 4000000 in
theorem cc_X0_codeAt {G : zG} {o : cO} {S : cS} {N : Nat} (hG : zOK G) {x0 : Option Nat} {x1 : Int32} (ok : o_X0_codeAt N S x0 x1) : cCl G o dX0_codeAt mX0_codeAt [va_rf x0, .int x1] S (fun v S' => v = f_X0_codeAt N S x0 x1 ∧ S' = S) := by
  refine cC.ofX rfl (by cases x0 <;> exact Nat.le_of_ble_eq_true rfl) ?_
  rw [show zargs mX0_codeAt.2.2.1 [va_rf x0, .int x1] = [some (va_rf x0), some (.int x1), none, none, none] from by cases x0 <;> rfl]
  exact cX.cutz (b_X0_codeAt_0 (X := fun F => F = f_X0_codeAt N S x0 x1) hG (fun v h => ⟨v, rfl, h, rfl⟩) ok rfl) ⟨rfl, rfl, trivial⟩
/-! X0_play -/
def F_X0_play_148 (N : Nat)  (S : cS) : Int32 × cS := ((nI 1), S)
def O_X0_play_148 (N : Nat)  (S : cS) : Prop := True
set_option maxRecDepth 100000 in
set_option maxHeartbeats 4000000 in
theorem b_X0_play_148 {G : zG} {o : cO} {S : cS} {N : Nat} {Q : Option Value → cS → Prop} {X : Int32 × cS → Prop} (hG : zOK G) (hR : ∀ v S', X (v, S') → Q (some (.int v)) S') (ok : O_X0_play_148 N S) (hx : X (F_X0_play_148 N S)) : cX G o dX0_play mX0_play 148 [none, none, none, none, none, none, none, none, none] [] S Q := by
  unfold O_X0_play_148 at ok
  unfold F_X0_play_148 at hx
  refine c_iconst (v := nI 1) dX0_play_148 (by decide) ?_
  exact c_ireturn rfl rfl dX0_play_149 (hR _ _ hx)
def F_X0_play_140 (N : Nat)  (S : cS) : Int32 × cS := ((nI 0), S)
def O_X0_play_140 (N : Nat)  (S : cS) : Prop := True
set_option maxRecDepth 100000 in
set_option maxHeartbeats 4000000 in
theorem b_X0_play_140 {G : zG} {o : cO} {S : cS} {N : Nat} {Q : Option Value → cS → Prop} {X : Int32 × cS → Prop} (hG : zOK G) (hR : ∀ v S', X (v, S') → Q (some (.int v)) S') (ok : O_X0_play_140 N S) (hx : X (F_X0_play_140 N S)) : cX G o dX0_play mX0_play 140 [none, none, none, none, none, none, none, none, none] [] S Q := by
  unfold O_X0_play_140 at ok
  unfold F_X0_play_140 at hx
  refine c_iconst (v := nI 0) dX0_play_140 (by decide) ?_
  exact c_ireturn rfl rfl dX0_play_141 (hR _ _ hx)
def F_X0_play_137 (N : Nat) (rec : Option Nat → Option Nat → Int32 → Int32 → Int32 → cS → Nat × cS) (x0 : Option Nat) (x1 : Option Nat) (x3 : Int32) (x4 : Int32) (x5 : Int32) (s0 : Int32) (S : cS) : Nat × cS := (if s0 = 0 then (0, S) else (rec x0 x1 x3 x4 (x5 + nI 7) S))
def O_X0_play_137 (N : Nat) (rok : Option Nat → Option Nat → Int32 → Int32 → Int32 → cS → Prop) (x0 : Option Nat) (x1 : Option Nat) (x3 : Int32) (x4 : Int32) (x5 : Int32) (s0 : Int32) (S : cS) : Prop := ((s0 = 0 → True) ∧ (¬ s0 = 0 → rok x0 x1 x3 x4 (x5 + nI 7) S))
set_option maxRecDepth 100000 in
set_option maxHeartbeats 4000000 in
theorem b_X0_play_137 {G : zG} {o : cO} {S : cS} {N : Nat} {Q : Option Value → cS → Prop} {X : Nat × cS → Prop} (hG : zOK G) (hX0 : ∀ (S' : cS), X (0, S') → cX G o dX0_play mX0_play 140 [none, none, none, none, none, none, none, none, none] [] S' Q) (hX1 : ∀ (S' : cS), X (1, S') → cX G o dX0_play mX0_play 148 [none, none, none, none, none, none, none, none, none] [] S' Q) {rec : Option Nat → Option Nat → Int32 → Int32 → Int32 → cS → Nat × cS} {rok : Option Nat → Option Nat → Int32 → Int32 → Int32 → cS → Prop} (hrec : ∀ (x0 : Option Nat) (x1 : Option Nat) (x3 : Int32) (x4 : Int32) (x5 : Int32) (S : cS), rok x0 x1 x3 x4 x5 S → X (rec x0 x1 x3 x4 x5 S) → cX G o dX0_play mX0_play 116 [some (va_rf x0), some (va_rf x1), none, some (.int x3), some (.int x4), some (.int x5), none, none, none] [] S Q) {x0 : Option Nat} {x1 : Option Nat} {x3 : Int32} {x4 : Int32} {x5 : Int32} {s0 : Int32} (ok : O_X0_play_137 N rok x0 x1 x3 x4 x5 s0 S) (hx : X (F_X0_play_137 N rec x0 x1 x3 x4 x5 s0 S)) : cX G o dX0_play mX0_play 137 [some (va_rf x0), some (va_rf x1), none, some (.int x3), some (.int x4), some (.int x5), none, none, none] [.int s0] S Q := by
  unfold O_X0_play_137 at ok
  unfold F_X0_play_137 at hx
  refine c_if_ne (tgt := 142) dX0_play_137 (by decide) (fun c_137 => ?_) (fun c_137 => ?_)
  · have ok := ok.2 c_137
    have hx := xif_n c_137 hx
    refine c_iinc_5 (v := (x5 + nI 7)) dX0_play_142 rfl (by first | rfl | (congr 1)) (by decide) rfl ?_
    refine c_goto (tgt := 116) dX0_play_145 (by decide) ?_
    exact cX.cutz (hrec _ _ _ _ _ S ok hx) ⟨rfl, rfl, rfl, rfl, rfl, trivial⟩
  · have ok := ok.1 c_137
    have hx := xif_p c_137 hx
    exact cX.cutz (hX0 S hx) trivial
def B_X0_play_116 (N : Nat) (rec : Option Nat → Option Nat → Int32 → Int32 → Int32 → cS → Nat × cS) (x0 : Option Nat) (x1 : Option Nat) (x3 : Int32) (x4 : Int32) (x5 : Int32) (S : cS) : Nat × cS := (if (x3 - (nI 7)) < x5 then (1, S) else (F_X0_play_137 N rec x0 x1 x3 x4 x5 ((f_X0_pay N S (za x0) (f_X0_codeAt N S x1 x5) x4).1) (f_X0_pay N S (za x0) (f_X0_codeAt N S x1 x5) x4).2))
def OB_X0_play_116 (N : Nat) (rok : Option Nat → Option Nat → Int32 → Int32 → Int32 → cS → Prop) (x0 : Option Nat) (x1 : Option Nat) (x3 : Int32) (x4 : Int32) (x5 : Int32) (S : cS) : Prop := (((x3 - (nI 7)) < x5 → True) ∧ (¬ (x3 - (nI 7)) < x5 → (o_X0_codeAt N S x1 x5) ∧ (cis S x0 1 ∧ o_X0_pay N S (za x0) (f_X0_codeAt N S x1 x5) x4) ∧ O_X0_play_137 N rok x0 x1 x3 x4 x5 ((f_X0_pay N S (za x0) (f_X0_codeAt N S x1 x5) x4).1) (f_X0_pay N S (za x0) (f_X0_codeAt N S x1 x5) x4).2))
set_option maxRecDepth 100000 in
set_option maxHeartbeats 4000000 in
theorem bb_X0_play_116 {G : zG} {o : cO} {S : cS} {N : Nat} {Q : Option Value → cS → Prop} {X : Nat × cS → Prop} (hG : zOK G) (hX0 : ∀ (S' : cS), X (0, S') → cX G o dX0_play mX0_play 140 [none, none, none, none, none, none, none, none, none] [] S' Q) (hX1 : ∀ (S' : cS), X (1, S') → cX G o dX0_play mX0_play 148 [none, none, none, none, none, none, none, none, none] [] S' Q) {rec : Option Nat → Option Nat → Int32 → Int32 → Int32 → cS → Nat × cS} {rok : Option Nat → Option Nat → Int32 → Int32 → Int32 → cS → Prop} (hrec : ∀ (x0 : Option Nat) (x1 : Option Nat) (x3 : Int32) (x4 : Int32) (x5 : Int32) (S : cS), rok x0 x1 x3 x4 x5 S → X (rec x0 x1 x3 x4 x5 S) → cX G o dX0_play mX0_play 116 [some (va_rf x0), some (va_rf x1), none, some (.int x3), some (.int x4), some (.int x5), none, none, none] [] S Q) {x0 : Option Nat} {x1 : Option Nat} {x3 : Int32} {x4 : Int32} {x5 : Int32} (ok : OB_X0_play_116 N rok x0 x1 x3 x4 x5 S) (hx : X (B_X0_play_116 N rec x0 x1 x3 x4 x5 S)) : cX G o dX0_play mX0_play 116 [some (va_rf x0), some (va_rf x1), none, some (.int x3), some (.int x4), some (.int x5), none, none, none] [] S Q := by
  unfold OB_X0_play_116 at ok
  unfold B_X0_play_116 at hx
  refine c_iload dX0_play_116 rfl ?_
  refine c_iload_n dX0_play_118 rfl rfl ?_
  refine c_bipush (v := nI 7) dX0_play_119 (by decide) ?_
  refine c_isub dX0_play_121 ?_
  refine c_icmp_gt (tgt := 148) dX0_play_122 (by decide) (fun c_122 => ?_) (fun c_122 => ?_)
  · have ok := ok.1 c_122
    have hx := xif_p c_122 hx
    exact cX.cutz (hX1 S hx) trivial
  · have ok := ok.2 c_122
    have hx := xif_n c_122 hx
    refine c_aload_nQ dX0_play_125 rfl rfl ?_
    refine c_aload_nQ dX0_play_126 rfl rfl ?_
    refine c_iload dX0_play_127 rfl ?_
    refine c_S2lE (y' := mX0_codeAt) dX0_play_129 lX0_56 kX0_codeAt ⟨by decide, by decide⟩ (by simp only [List.map_cons, List.map_nil, List.sum_cons, List.sum_nil, zcat_rf, zcat_i, zcat_l, zcat_r] <;> decide) (cc_X0_codeAt hG ok.1) ?_
    have ok := ok.2
    refine c_iload dX0_play_132 rfl ?_
    refine c_V2iE (ci := 0) (rr := (RX0, TX0, 6)) (y' := mX0_pay) dX0_play_134 lX0_60 kX0_pay ⟨by decide, by decide⟩ rfl rfl (by decide) ok.1.1 (Nat.le_of_ble_eq_true rfl) (cc_X0_pay hG ok.1.2) ?_
    have ok := ok.2
    exact cX.cutz (b_X0_play_137 hG hX0 hX1 hrec ok hx) ⟨rfl, rfl, rfl, rfl, rfl, trivial⟩
def L_X0_play_116 (N : Nat) : Nat → Option Nat → Option Nat → Int32 → Int32 → Int32 → cS → Nat × cS
  | 0, x0, x1, x3, x4, x5, S => (0, S)
  | n + 1, x0, x1, x3, x4, x5, S => B_X0_play_116 N (L_X0_play_116 N n) x0 x1 x3 x4 x5 S
def OL_X0_play_116 (N : Nat) : Nat → Option Nat → Option Nat → Int32 → Int32 → Int32 → cS → Prop
  | 0, _, _, _, _, _, _ => False
  | n + 1, x0, x1, x3, x4, x5, S => OB_X0_play_116 N (OL_X0_play_116 N n) x0 x1 x3 x4 x5 S
set_option maxRecDepth 100000 in
set_option maxHeartbeats 4000000 in
theorem l_X0_play_116 {G : zG} {o : cO} {N : Nat} {Q : Option Value → cS → Prop} {X : Nat × cS → Prop} (hG : zOK G) (hX0 : ∀ (S' : cS), X (0, S') → cX G o dX0_play mX0_play 140 [none, none, none, none, none, none, none, none, none] [] S' Q) (hX1 : ∀ (S' : cS), X (1, S') → cX G o dX0_play mX0_play 148 [none, none, none, none, none, none, none, none, none] [] S' Q) : ∀ (n : Nat) (x0 : Option Nat) (x1 : Option Nat) (x3 : Int32) (x4 : Int32) (x5 : Int32) (S : cS), OL_X0_play_116 N n x0 x1 x3 x4 x5 S → X (L_X0_play_116 N n x0 x1 x3 x4 x5 S) → cX G o dX0_play mX0_play 116 [some (va_rf x0), some (va_rf x1), none, some (.int x3), some (.int x4), some (.int x5), none, none, none] [] S Q := by
  intro n
  induction n with
  | zero => intro x0 x1 x3 x4 x5 S ok; exact absurd ok id
  | succ n ih =>
    intro x0 x1 x3 x4 x5 S ok hx
    exact bb_X0_play_116 hG hX0 hX1 (rec := L_X0_play_116 N n) (rok := OL_X0_play_116 N n) (fun x0 x1 x3 x4 x5 S ok hx => ih x0 x1 x3 x4 x5 S ok hx) ok hx
def A_X0_play_116 (N : Nat) (x0 : Option Nat) (x1 : Option Nat) (x3 : Int32) (x4 : Int32) (x5 : Int32) (S : cS) (z : Nat × cS) : Int32 × cS := (if z.1 = 0 then (F_X0_play_140 N z.2) else (F_X0_play_148 N z.2))
def OA_X0_play_116 (N : Nat) (x0 : Option Nat) (x1 : Option Nat) (x3 : Int32) (x4 : Int32) (x5 : Int32) (S : cS) (z : Nat × cS) : Prop := (if z.1 = 0 then O_X0_play_140 N z.2 else O_X0_play_148 N z.2)
set_option maxRecDepth 100000 in
set_option maxHeartbeats 4000000 in
theorem c_X0_play_116 {G : zG} {o : cO} {S : cS} {N : Nat} {Q : Option Value → cS → Prop} {X : Int32 × cS → Prop} (hG : zOK G) (hR : ∀ v S', X (v, S') → Q (some (.int v)) S') {x0 : Option Nat} {x1 : Option Nat} {x3 : Int32} {x4 : Int32} {x5 : Int32} (ok : OL_X0_play_116 N N x0 x1 x3 x4 x5 S ∧ OA_X0_play_116 N x0 x1 x3 x4 x5 S (L_X0_play_116 N N x0 x1 x3 x4 x5 S)) (hx : X (A_X0_play_116 N x0 x1 x3 x4 x5 S (L_X0_play_116 N N x0 x1 x3 x4 x5 S))) : cX G o dX0_play mX0_play 116 [some (va_rf x0), some (va_rf x1), none, some (.int x3), some (.int x4), some (.int x5), none, none, none] [] S Q := by
  refine l_X0_play_116 hG ?_ ?_ N x0 x1 x3 x4 x5 S ok.1 (X := fun z => OA_X0_play_116 N x0 x1 x3 x4 x5 S z ∧ X (A_X0_play_116 N x0 x1 x3 x4 x5 S z)) ⟨ok.2, hx⟩
  · intro S' hz
    obtain ⟨ok, hx⟩ := hz
    unfold OA_X0_play_116 at ok
    unfold A_X0_play_116 at hx
    have ok := xif_P (show (0 : Nat) = 0 from rfl) ok
    have hx := xif_p (show (0 : Nat) = 0 from rfl) hx
    exact cX.cutz (b_X0_play_140 hG hR ok hx) trivial
  · intro S' hz
    obtain ⟨ok, hx⟩ := hz
    unfold OA_X0_play_116 at ok
    unfold A_X0_play_116 at hx
    have ok := xif_N (show ¬ (1 : Nat) = 0 by decide) ok
    have hx := xif_n (show ¬ (1 : Nat) = 0 by decide) hx
    exact cX.cutz (b_X0_play_148 hG hR ok hx) trivial
def F_X0_play_101 (N : Nat)  (S : cS) : Int32 × cS := ((nI 0), S)
def O_X0_play_101 (N : Nat)  (S : cS) : Prop := True
set_option maxRecDepth 100000 in
set_option maxHeartbeats 4000000 in
theorem b_X0_play_101 {G : zG} {o : cO} {S : cS} {N : Nat} {Q : Option Value → cS → Prop} {X : Int32 × cS → Prop} (hG : zOK G) (hR : ∀ v S', X (v, S') → Q (some (.int v)) S') (ok : O_X0_play_101 N S) (hx : X (F_X0_play_101 N S)) : cX G o dX0_play mX0_play 101 [none, none, none, none, none, none, none, none, none] [] S Q := by
  unfold O_X0_play_101 at ok
  unfold F_X0_play_101 at hx
  refine c_iconst (v := nI 0) dX0_play_101 (by decide) ?_
  exact c_ireturn rfl rfl dX0_play_102 (hR _ _ hx)
def F_X0_play_98 (N : Nat) (rec : Option Nat → Option Nat → Int32 → Int32 → Int32 → Int32 → Int32 → cS → Nat × Option Nat × Option Nat × Int32 × Int32 × Int32 × cS) (x0 : Option Nat) (x1 : Option Nat) (x3 : Int32) (x4 : Int32) (x5 : Int32) (x6 : Int32) (x7 : Int32) (x8 : Int32) (s0 : Int32) (S : cS) : Nat × Option Nat × Option Nat × Int32 × Int32 × Int32 × cS := (if s0 = 0 then (0, none, none, 0, 0, 0, S) else (rec x0 x1 x3 x4 (x5 + x8) x6 (x7 + nI 1) S))
def O_X0_play_98 (N : Nat) (rok : Option Nat → Option Nat → Int32 → Int32 → Int32 → Int32 → Int32 → cS → Prop) (x0 : Option Nat) (x1 : Option Nat) (x3 : Int32) (x4 : Int32) (x5 : Int32) (x6 : Int32) (x7 : Int32) (x8 : Int32) (s0 : Int32) (S : cS) : Prop := ((s0 = 0 → True) ∧ (¬ s0 = 0 → rok x0 x1 x3 x4 (x5 + x8) x6 (x7 + nI 1) S))
set_option maxRecDepth 100000 in
set_option maxHeartbeats 4000000 in
theorem b_X0_play_98 {G : zG} {o : cO} {S : cS} {N : Nat} {Q : Option Value → cS → Prop} {X : Nat × Option Nat × Option Nat × Int32 × Int32 × Int32 × cS → Prop} (hG : zOK G) (hX0 : ∀ (x0 : Option Nat) (x1 : Option Nat) (x3 : Int32) (x4 : Int32) (x5 : Int32) (S' : cS), X (0, x0, x1, x3, x4, x5, S') → cX G o dX0_play mX0_play 101 [none, none, none, none, none, none, none, none, none] [] S' Q) (hX1 : ∀ (x0 : Option Nat) (x1 : Option Nat) (x3 : Int32) (x4 : Int32) (x5 : Int32) (S' : cS), X (1, x0, x1, x3, x4, x5, S') → cX G o dX0_play mX0_play 116 [some (va_rf x0), some (va_rf x1), none, some (.int x3), some (.int x4), some (.int x5), none, none, none] [] S' Q) {rec : Option Nat → Option Nat → Int32 → Int32 → Int32 → Int32 → Int32 → cS → Nat × Option Nat × Option Nat × Int32 × Int32 × Int32 × cS} {rok : Option Nat → Option Nat → Int32 → Int32 → Int32 → Int32 → Int32 → cS → Prop} (hrec : ∀ (x0 : Option Nat) (x1 : Option Nat) (x3 : Int32) (x4 : Int32) (x5 : Int32) (x6 : Int32) (x7 : Int32) (S : cS), rok x0 x1 x3 x4 x5 x6 x7 S → X (rec x0 x1 x3 x4 x5 x6 x7 S) → cX G o dX0_play mX0_play 57 [some (va_rf x0), some (va_rf x1), none, some (.int x3), some (.int x4), some (.int x5), some (.int x6), some (.int x7), none] [] S Q) {x0 : Option Nat} {x1 : Option Nat} {x3 : Int32} {x4 : Int32} {x5 : Int32} {x6 : Int32} {x7 : Int32} {x8 : Int32} {s0 : Int32} (ok : O_X0_play_98 N rok x0 x1 x3 x4 x5 x6 x7 x8 s0 S) (hx : X (F_X0_play_98 N rec x0 x1 x3 x4 x5 x6 x7 x8 s0 S)) : cX G o dX0_play mX0_play 98 [some (va_rf x0), some (va_rf x1), none, some (.int x3), some (.int x4), some (.int x5), some (.int x6), some (.int x7), some (.int x8)] [.int s0] S Q := by
  unfold O_X0_play_98 at ok
  unfold F_X0_play_98 at hx
  refine c_if_ne (tgt := 103) dX0_play_98 (by decide) (fun c_98 => ?_) (fun c_98 => ?_)
  · have ok := ok.2 c_98
    have hx := xif_n c_98 hx
    refine c_iload dX0_play_103 rfl ?_
    refine c_iload dX0_play_105 rfl ?_
    refine c_iadd dX0_play_107 ?_
    refine c_istore_5 dX0_play_108 (by decide) rfl ?_
    refine c_iinc_7 (v := (x7 + nI 1)) dX0_play_110 rfl (by first | rfl | (congr 1)) (by decide) rfl ?_
    refine c_goto (tgt := 57) dX0_play_113 (by decide) ?_
    exact cX.cutz (hrec _ _ _ _ _ _ _ S ok hx) ⟨rfl, rfl, rfl, rfl, rfl, rfl, rfl, trivial⟩
  · have ok := ok.1 c_98
    have hx := xif_p c_98 hx
    exact cX.cutz (hX0 _ _ _ _ _ S hx) trivial
def B_X0_play_57 (N : Nat) (rec : Option Nat → Option Nat → Int32 → Int32 → Int32 → Int32 → Int32 → cS → Nat × Option Nat × Option Nat × Int32 × Int32 × Int32 × cS) (x0 : Option Nat) (x1 : Option Nat) (x3 : Int32) (x4 : Int32) (x5 : Int32) (x6 : Int32) (x7 : Int32) (S : cS) : Nat × Option Nat × Option Nat × Int32 × Int32 × Int32 × cS := (if x6 ≤ x7 then (1, x0, x1, x3, x4, x5, S) else (if (nI 2) ≤ x7 then (1, x0, x1, x3, x4, x5, S) else (if (f_X1_evidenceSize N S x1 x5 x3) < 0 then (0, none, none, 0, 0, 0, S) else (F_X0_play_98 N rec x0 x1 x3 x4 x5 x6 x7 (f_X1_evidenceSize N S x1 x5 x3) ((f_X0_punish N S (za x0) ((cA S (za x1) x5.toNatClampNeg) &&& (nI 255)) x4).1) (f_X0_punish N S (za x0) ((cA S (za x1) x5.toNatClampNeg) &&& (nI 255)) x4).2))))
def OB_X0_play_57 (N : Nat) (rok : Option Nat → Option Nat → Int32 → Int32 → Int32 → Int32 → Int32 → cS → Prop) (x0 : Option Nat) (x1 : Option Nat) (x3 : Int32) (x4 : Int32) (x5 : Int32) (x6 : Int32) (x7 : Int32) (S : cS) : Prop := ((x6 ≤ x7 → True) ∧ (¬ x6 ≤ x7 → (((nI 2) ≤ x7 → True) ∧ (¬ (nI 2) ≤ x7 → (o_X1_evidenceSize N S x1 x5 x3) ∧ (((f_X1_evidenceSize N S x1 x5 x3) < 0 → True) ∧ (¬ (f_X1_evidenceSize N S x1 x5 x3) < 0 → (cis S x1 20 ∧ vp_in x5 (cL S (za x1))) ∧ (cis S x0 1 ∧ o_X0_punish N S (za x0) ((cA S (za x1) x5.toNatClampNeg) &&& (nI 255)) x4) ∧ O_X0_play_98 N rok x0 x1 x3 x4 x5 x6 x7 (f_X1_evidenceSize N S x1 x5 x3) ((f_X0_punish N S (za x0) ((cA S (za x1) x5.toNatClampNeg) &&& (nI 255)) x4).1) (f_X0_punish N S (za x0) ((cA S (za x1) x5.toNatClampNeg) &&& (nI 255)) x4).2))))))
set_option maxRecDepth 100000 in
set_option maxHeartbeats 4000000 in
theorem bb_X0_play_57 {G : zG} {o : cO} {S : cS} {N : Nat} {Q : Option Value → cS → Prop} {X : Nat × Option Nat × Option Nat × Int32 × Int32 × Int32 × cS → Prop} (hG : zOK G) (hX0 : ∀ (x0 : Option Nat) (x1 : Option Nat) (x3 : Int32) (x4 : Int32) (x5 : Int32) (S' : cS), X (0, x0, x1, x3, x4, x5, S') → cX G o dX0_play mX0_play 101 [none, none, none, none, none, none, none, none, none] [] S' Q) (hX1 : ∀ (x0 : Option Nat) (x1 : Option Nat) (x3 : Int32) (x4 : Int32) (x5 : Int32) (S' : cS), X (1, x0, x1, x3, x4, x5, S') → cX G o dX0_play mX0_play 116 [some (va_rf x0), some (va_rf x1), none, some (.int x3), some (.int x4), some (.int x5), none, none, none] [] S' Q) {rec : Option Nat → Option Nat → Int32 → Int32 → Int32 → Int32 → Int32 → cS → Nat × Option Nat × Option Nat × Int32 × Int32 × Int32 × cS} {rok : Option Nat → Option Nat → Int32 → Int32 → Int32 → Int32 → Int32 → cS → Prop} (hrec : ∀ (x0 : Option Nat) (x1 : Option Nat) (x3 : Int32) (x4 : Int32) (x5 : Int32) (x6 : Int32) (x7 : Int32) (S : cS), rok x0 x1 x3 x4 x5 x6 x7 S → X (rec x0 x1 x3 x4 x5 x6 x7 S) → cX G o dX0_play mX0_play 57 [some (va_rf x0), some (va_rf x1), none, some (.int x3), some (.int x4), some (.int x5), some (.int x6), some (.int x7), none] [] S Q) {x0 : Option Nat} {x1 : Option Nat} {x3 : Int32} {x4 : Int32} {x5 : Int32} {x6 : Int32} {x7 : Int32} (ok : OB_X0_play_57 N rok x0 x1 x3 x4 x5 x6 x7 S) (hx : X (B_X0_play_57 N rec x0 x1 x3 x4 x5 x6 x7 S)) : cX G o dX0_play mX0_play 57 [some (va_rf x0), some (va_rf x1), none, some (.int x3), some (.int x4), some (.int x5), some (.int x6), some (.int x7), none] [] S Q := by
  unfold OB_X0_play_57 at ok
  unfold B_X0_play_57 at hx
  refine c_iload dX0_play_57 rfl ?_
  refine c_iload dX0_play_59 rfl ?_
  refine c_icmp_ge (tgt := 116) dX0_play_61 (by decide) (fun c_61 => ?_) (fun c_61 => ?_)
  · have ok := ok.1 c_61
    have hx := xif_p c_61 hx
    exact cX.cutz (hX1 _ _ _ _ _ S hx) ⟨rfl, rfl, rfl, rfl, rfl, trivial⟩
  · have ok := ok.2 c_61
    have hx := xif_n c_61 hx
    refine c_iload dX0_play_64 rfl ?_
    refine c_iconst (v := nI 2) dX0_play_66 (by decide) ?_
    refine c_icmp_ge (tgt := 116) dX0_play_67 (by decide) (fun c_67 => ?_) (fun c_67 => ?_)
    · have ok := ok.1 c_67
      have hx := xif_p c_67 hx
      exact cX.cutz (hX1 _ _ _ _ _ S hx) ⟨rfl, rfl, rfl, rfl, rfl, trivial⟩
    · have ok := ok.2 c_67
      have hx := xif_n c_67 hx
      refine c_aload_nQ dX0_play_70 rfl rfl ?_
      refine c_iload dX0_play_71 rfl ?_
      refine c_iload_n dX0_play_73 rfl rfl ?_
      refine c_S3iE (y' := mX1_evidenceSize) dX0_play_74 lX0_46 kX1_evidenceSize ⟨by decide, by decide⟩ (Nat.le_of_ble_eq_true rfl) (cc_X1_evidenceSize hG ok.1) ?_
      have ok := ok.2
      refine c_istore_8 dX0_play_77 (by decide) rfl ?_
      refine c_iload dX0_play_79 rfl ?_
      refine c_if_lt (tgt := 101) dX0_play_81 (by decide) (fun c_81 => ?_) (fun c_81 => ?_)
      · have ok := ok.1 c_81
        have hx := xif_p c_81 hx
        exact cX.cutz (hX0 _ _ _ _ _ S hx) trivial
      · have ok := ok.2 c_81
        have hx := xif_n c_81 hx
        refine c_aload_nQ dX0_play_84 rfl rfl ?_
        refine c_aload_nQ dX0_play_85 rfl rfl ?_
        refine c_iload dX0_play_86 rfl ?_
        refine c_bald dX0_play_88 ok.1 ?_
        have ok := ok.2
        refine c_sipush (v := nI 255) dX0_play_89 (by decide) ?_
        refine c_iand dX0_play_92 ?_
        refine c_iload dX0_play_93 rfl ?_
        refine c_V2iE (ci := 0) (rr := (RX0, TX0, 6)) (y' := mX0_punish) dX0_play_95 lX0_52 kX0_punish ⟨by decide, by decide⟩ rfl rfl (by decide) ok.1.1 (Nat.le_of_ble_eq_true rfl) (cc_X0_punish hG ok.1.2) ?_
        have ok := ok.2
        exact cX.cutz (b_X0_play_98 hG hX0 hX1 hrec ok hx) ⟨rfl, rfl, rfl, rfl, rfl, rfl, rfl, rfl, trivial⟩
def L_X0_play_57 (N : Nat) : Nat → Option Nat → Option Nat → Int32 → Int32 → Int32 → Int32 → Int32 → cS → Nat × Option Nat × Option Nat × Int32 × Int32 × Int32 × cS
  | 0, x0, x1, x3, x4, x5, x6, x7, S => (0, none, none, 0, 0, 0, S)
  | n + 1, x0, x1, x3, x4, x5, x6, x7, S => B_X0_play_57 N (L_X0_play_57 N n) x0 x1 x3 x4 x5 x6 x7 S
def OL_X0_play_57 (N : Nat) : Nat → Option Nat → Option Nat → Int32 → Int32 → Int32 → Int32 → Int32 → cS → Prop
  | 0, _, _, _, _, _, _, _, _ => False
  | n + 1, x0, x1, x3, x4, x5, x6, x7, S => OB_X0_play_57 N (OL_X0_play_57 N n) x0 x1 x3 x4 x5 x6 x7 S
set_option maxRecDepth 100000 in
set_option maxHeartbeats 4000000 in
theorem l_X0_play_57 {G : zG} {o : cO} {N : Nat} {Q : Option Value → cS → Prop} {X : Nat × Option Nat × Option Nat × Int32 × Int32 × Int32 × cS → Prop} (hG : zOK G) (hX0 : ∀ (x0 : Option Nat) (x1 : Option Nat) (x3 : Int32) (x4 : Int32) (x5 : Int32) (S' : cS), X (0, x0, x1, x3, x4, x5, S') → cX G o dX0_play mX0_play 101 [none, none, none, none, none, none, none, none, none] [] S' Q) (hX1 : ∀ (x0 : Option Nat) (x1 : Option Nat) (x3 : Int32) (x4 : Int32) (x5 : Int32) (S' : cS), X (1, x0, x1, x3, x4, x5, S') → cX G o dX0_play mX0_play 116 [some (va_rf x0), some (va_rf x1), none, some (.int x3), some (.int x4), some (.int x5), none, none, none] [] S' Q) : ∀ (n : Nat) (x0 : Option Nat) (x1 : Option Nat) (x3 : Int32) (x4 : Int32) (x5 : Int32) (x6 : Int32) (x7 : Int32) (S : cS), OL_X0_play_57 N n x0 x1 x3 x4 x5 x6 x7 S → X (L_X0_play_57 N n x0 x1 x3 x4 x5 x6 x7 S) → cX G o dX0_play mX0_play 57 [some (va_rf x0), some (va_rf x1), none, some (.int x3), some (.int x4), some (.int x5), some (.int x6), some (.int x7), none] [] S Q := by
  intro n
  induction n with
  | zero => intro x0 x1 x3 x4 x5 x6 x7 S ok; exact absurd ok id
  | succ n ih =>
    intro x0 x1 x3 x4 x5 x6 x7 S ok hx
    exact bb_X0_play_57 hG hX0 hX1 (rec := L_X0_play_57 N n) (rok := OL_X0_play_57 N n) (fun x0 x1 x3 x4 x5 x6 x7 S ok hx => ih x0 x1 x3 x4 x5 x6 x7 S ok hx) ok hx
def A_X0_play_57 (N : Nat) (x0 : Option Nat) (x1 : Option Nat) (x3 : Int32) (x4 : Int32) (x5 : Int32) (x6 : Int32) (x7 : Int32) (S : cS) (z : Nat × Option Nat × Option Nat × Int32 × Int32 × Int32 × cS) : Int32 × cS := (if z.1 = 0 then (F_X0_play_101 N z.2.2.2.2.2.2) else (A_X0_play_116 N (z.2.1) (z.2.2.1) (z.2.2.2.1) (z.2.2.2.2.1) (z.2.2.2.2.2.1) z.2.2.2.2.2.2 (L_X0_play_116 N N (z.2.1) (z.2.2.1) (z.2.2.2.1) (z.2.2.2.2.1) (z.2.2.2.2.2.1) z.2.2.2.2.2.2)))
def OA_X0_play_57 (N : Nat) (x0 : Option Nat) (x1 : Option Nat) (x3 : Int32) (x4 : Int32) (x5 : Int32) (x6 : Int32) (x7 : Int32) (S : cS) (z : Nat × Option Nat × Option Nat × Int32 × Int32 × Int32 × cS) : Prop := (if z.1 = 0 then O_X0_play_101 N z.2.2.2.2.2.2 else (OL_X0_play_116 N N (z.2.1) (z.2.2.1) (z.2.2.2.1) (z.2.2.2.2.1) (z.2.2.2.2.2.1) z.2.2.2.2.2.2 ∧ OA_X0_play_116 N (z.2.1) (z.2.2.1) (z.2.2.2.1) (z.2.2.2.2.1) (z.2.2.2.2.2.1) z.2.2.2.2.2.2 (L_X0_play_116 N N (z.2.1) (z.2.2.1) (z.2.2.2.1) (z.2.2.2.2.1) (z.2.2.2.2.2.1) z.2.2.2.2.2.2)))
set_option maxRecDepth 100000 in
set_option maxHeartbeats 4000000 in
theorem c_X0_play_57 {G : zG} {o : cO} {S : cS} {N : Nat} {Q : Option Value → cS → Prop} {X : Int32 × cS → Prop} (hG : zOK G) (hR : ∀ v S', X (v, S') → Q (some (.int v)) S') {x0 : Option Nat} {x1 : Option Nat} {x3 : Int32} {x4 : Int32} {x5 : Int32} {x6 : Int32} {x7 : Int32} (ok : OL_X0_play_57 N N x0 x1 x3 x4 x5 x6 x7 S ∧ OA_X0_play_57 N x0 x1 x3 x4 x5 x6 x7 S (L_X0_play_57 N N x0 x1 x3 x4 x5 x6 x7 S)) (hx : X (A_X0_play_57 N x0 x1 x3 x4 x5 x6 x7 S (L_X0_play_57 N N x0 x1 x3 x4 x5 x6 x7 S))) : cX G o dX0_play mX0_play 57 [some (va_rf x0), some (va_rf x1), none, some (.int x3), some (.int x4), some (.int x5), some (.int x6), some (.int x7), none] [] S Q := by
  refine l_X0_play_57 hG ?_ ?_ N x0 x1 x3 x4 x5 x6 x7 S ok.1 (X := fun z => OA_X0_play_57 N x0 x1 x3 x4 x5 x6 x7 S z ∧ X (A_X0_play_57 N x0 x1 x3 x4 x5 x6 x7 S z)) ⟨ok.2, hx⟩
  · intro x0' x1' x3' x4' x5' S' hz
    obtain ⟨ok, hx⟩ := hz
    unfold OA_X0_play_57 at ok
    unfold A_X0_play_57 at hx
    have ok := xif_P (show (0 : Nat) = 0 from rfl) ok
    have hx := xif_p (show (0 : Nat) = 0 from rfl) hx
    exact cX.cutz (b_X0_play_101 hG hR ok hx) trivial
  · intro x0' x1' x3' x4' x5' S' hz
    obtain ⟨ok, hx⟩ := hz
    unfold OA_X0_play_57 at ok
    unfold A_X0_play_57 at hx
    have ok := xif_N (show ¬ (1 : Nat) = 0 by decide) ok
    have hx := xif_n (show ¬ (1 : Nat) = 0 by decide) hx
    exact cX.cutz (c_X0_play_116 hG hR ok hx) ⟨rfl, rfl, rfl, rfl, rfl, trivial⟩
def F_X0_play_23 (N : Nat)  (S : cS) : Int32 × cS := ((nI 0), S)
def O_X0_play_23 (N : Nat)  (S : cS) : Prop := True
set_option maxRecDepth 100000 in
set_option maxHeartbeats 4000000 in
theorem b_X0_play_23 {G : zG} {o : cO} {S : cS} {N : Nat} {Q : Option Value → cS → Prop} {X : Int32 × cS → Prop} (hG : zOK G) (hR : ∀ v S', X (v, S') → Q (some (.int v)) S') (ok : O_X0_play_23 N S) (hx : X (F_X0_play_23 N S)) : cX G o dX0_play mX0_play 23 [none, none, none, none, none, none, none, none, none] [] S Q := by
  unfold O_X0_play_23 at ok
  unfold F_X0_play_23 at hx
  refine c_iconst (v := nI 0) dX0_play_23 (by decide) ?_
  exact c_ireturn rfl rfl dX0_play_24 (hR _ _ hx)
def F_X0_play_0 (N : Nat) (x0 : Option Nat) (x1 : Option Nat) (x2 : Int32) (x3 : Int32) (S : cS) : Int32 × cS := (if x2 < 0 then (F_X0_play_23 N (csI S 5 (za x0) (nI 1))) else (if (nI (cL (csI S 5 (za x0) (nI 1)) (za x1))) < x3 then (F_X0_play_23 N (csI S 5 (za x0) (nI 1))) else (if (nI 101) ≤ (x3 - x2) then (A_X0_play_57 N x0 x1 x3 ((cA (csI S 5 (za x0) (nI 1)) (za x1) (x2 + (nI 2)).toNatClampNeg) &&& (nI 255)) (x2 + (nI 101)) ((cA (csI S 5 (za x0) (nI 1)) (za x1) (x2 + (nI 100)).toNatClampNeg) &&& (nI 255)) (nI 0) (csI S 5 (za x0) (nI 1)) (L_X0_play_57 N N x0 x1 x3 ((cA (csI S 5 (za x0) (nI 1)) (za x1) (x2 + (nI 2)).toNatClampNeg) &&& (nI 255)) (x2 + (nI 101)) ((cA (csI S 5 (za x0) (nI 1)) (za x1) (x2 + (nI 100)).toNatClampNeg) &&& (nI 255)) (nI 0) (csI S 5 (za x0) (nI 1)))) else (F_X0_play_23 N (csI S 5 (za x0) (nI 1))))))
def O_X0_play_0 (N : Nat) (x0 : Option Nat) (x1 : Option Nat) (x2 : Int32) (x3 : Int32) (S : cS) : Prop := (cis S x0 1) ∧ ((x2 < 0 → O_X0_play_23 N (csI S 5 (za x0) (nI 1))) ∧ (¬ x2 < 0 → (cis (csI S 5 (za x0) (nI 1)) x1 20) ∧ (((nI (cL (csI S 5 (za x0) (nI 1)) (za x1))) < x3 → O_X0_play_23 N (csI S 5 (za x0) (nI 1))) ∧ (¬ (nI (cL (csI S 5 (za x0) (nI 1)) (za x1))) < x3 → (((nI 101) ≤ (x3 - x2) → (cis (csI S 5 (za x0) (nI 1)) x1 20 ∧ vp_in (x2 + (nI 2)) (cL (csI S 5 (za x0) (nI 1)) (za x1))) ∧ (cis (csI S 5 (za x0) (nI 1)) x1 20 ∧ vp_in (x2 + (nI 100)) (cL (csI S 5 (za x0) (nI 1)) (za x1))) ∧ (OL_X0_play_57 N N x0 x1 x3 ((cA (csI S 5 (za x0) (nI 1)) (za x1) (x2 + (nI 2)).toNatClampNeg) &&& (nI 255)) (x2 + (nI 101)) ((cA (csI S 5 (za x0) (nI 1)) (za x1) (x2 + (nI 100)).toNatClampNeg) &&& (nI 255)) (nI 0) (csI S 5 (za x0) (nI 1)) ∧ OA_X0_play_57 N x0 x1 x3 ((cA (csI S 5 (za x0) (nI 1)) (za x1) (x2 + (nI 2)).toNatClampNeg) &&& (nI 255)) (x2 + (nI 101)) ((cA (csI S 5 (za x0) (nI 1)) (za x1) (x2 + (nI 100)).toNatClampNeg) &&& (nI 255)) (nI 0) (csI S 5 (za x0) (nI 1)) (L_X0_play_57 N N x0 x1 x3 ((cA (csI S 5 (za x0) (nI 1)) (za x1) (x2 + (nI 2)).toNatClampNeg) &&& (nI 255)) (x2 + (nI 101)) ((cA (csI S 5 (za x0) (nI 1)) (za x1) (x2 + (nI 100)).toNatClampNeg) &&& (nI 255)) (nI 0) (csI S 5 (za x0) (nI 1))))) ∧ (¬ (nI 101) ≤ (x3 - x2) → O_X0_play_23 N (csI S 5 (za x0) (nI 1))))))))
set_option maxRecDepth 100000 in
set_option maxHeartbeats 4000000 in
theorem b_X0_play_0 {G : zG} {o : cO} {S : cS} {N : Nat} {Q : Option Value → cS → Prop} {X : Int32 × cS → Prop} (hG : zOK G) (hR : ∀ v S', X (v, S') → Q (some (.int v)) S') {x0 : Option Nat} {x1 : Option Nat} {x2 : Int32} {x3 : Int32} (ok : O_X0_play_0 N x0 x1 x2 x3 S) (hx : X (F_X0_play_0 N x0 x1 x2 x3 S)) : cX G o dX0_play mX0_play 0 [some (va_rf x0), some (va_rf x1), some (.int x2), some (.int x3), none, none, none, none, none] [] S Q := by
  unfold O_X0_play_0 at ok
  unfold F_X0_play_0 at hx
  refine c_aload_nQ dX0_play_0 rfl rfl ?_
  refine c_iconst (v := nI 1) dX0_play_1 (by decide) ?_
  refine c_putI (C := RX0) (T := TX0) (N := 6) (ci := 0) (k := 5) ⟨rfl, inT0, by decide, fX0_25⟩ ftT0 rfl (by decide) (by decide) (by decide) rfl rfl dX0_play_2 ok.1 ?_
  have ok := ok.2
  refine c_iload_n dX0_play_5 rfl rfl ?_
  refine c_if_lt (tgt := 23) dX0_play_6 (by decide) (fun c_6 => ?_) (fun c_6 => ?_)
  · have ok := ok.1 c_6
    have hx := xif_p c_6 hx
    exact cX.cutz (b_X0_play_23 hG hR ok hx) trivial
  · have ok := ok.2 c_6
    have hx := xif_n c_6 hx
    refine c_iload_n dX0_play_9 rfl rfl ?_
    refine c_aload_nQ dX0_play_10 rfl rfl ?_
    refine c_alen (t := 0) (ty := .byte) rfl dX0_play_11 ok.1 ?_
    have ok := ok.2
    refine c_icmp_gt (tgt := 23) dX0_play_12 (by decide) (fun c_12 => ?_) (fun c_12 => ?_)
    · have ok := ok.1 c_12
      have hx := xif_p c_12 hx
      exact cX.cutz (b_X0_play_23 hG hR ok hx) trivial
    · have ok := ok.2 c_12
      have hx := xif_n c_12 hx
      refine c_iload_n dX0_play_15 rfl rfl ?_
      refine c_iload_n dX0_play_16 rfl rfl ?_
      refine c_isub dX0_play_17 ?_
      refine c_bipush (v := nI 101) dX0_play_18 (by decide) ?_
      refine c_icmp_ge (tgt := 25) dX0_play_20 (by decide) (fun c_20 => ?_) (fun c_20 => ?_)
      · have ok := ok.1 c_20
        have hx := xif_p c_20 hx
        refine c_aload_nQ dX0_play_25 rfl rfl ?_
        refine c_iload_n dX0_play_26 rfl rfl ?_
        refine c_iconst (v := nI 2) dX0_play_27 (by decide) ?_
        refine c_iadd dX0_play_28 ?_
        refine c_bald dX0_play_29 ok.1 ?_
        have ok := ok.2
        refine c_sipush (v := nI 255) dX0_play_30 (by decide) ?_
        refine c_iand dX0_play_33 ?_
        refine c_istore_4 dX0_play_34 (by decide) rfl ?_
        refine c_iload_n dX0_play_36 rfl rfl ?_
        refine c_bipush (v := nI 101) dX0_play_37 (by decide) ?_
        refine c_iadd dX0_play_39 ?_
        refine c_istore_5 dX0_play_40 (by decide) rfl ?_
        refine c_aload_nQ dX0_play_42 rfl rfl ?_
        refine c_iload_n dX0_play_43 rfl rfl ?_
        refine c_bipush (v := nI 100) dX0_play_44 (by decide) ?_
        refine c_iadd dX0_play_46 ?_
        refine c_bald dX0_play_47 ok.1 ?_
        have ok := ok.2
        refine c_sipush (v := nI 255) dX0_play_48 (by decide) ?_
        refine c_iand dX0_play_51 ?_
        refine c_istore_6 dX0_play_52 (by decide) rfl ?_
        refine c_iconst (v := nI 0) dX0_play_54 (by decide) ?_
        refine c_istore_7 dX0_play_55 (by decide) rfl ?_
        exact cX.cutz (c_X0_play_57 hG hR ok hx) ⟨rfl, rfl, rfl, rfl, rfl, rfl, rfl, trivial⟩
      · have ok := ok.2 c_20
        have hx := xif_n c_20 hx
        exact cX.cutz (b_X0_play_23 hG hR ok hx) trivial
def f_X0_play (N : Nat) (S : cS) (a0 : Nat) (x1 : Option Nat) (x2 : Int32) (x3 : Int32) : Int32 × cS := F_X0_play_0 N (some a0) x1 x2 x3 S
def o_X0_play (N : Nat) (S : cS) (a0 : Nat) (x1 : Option Nat) (x2 : Int32) (x3 : Int32) : Prop := O_X0_play_0 N (some a0) x1 x2 x3 S
set_option maxRecDepth 100000 in
set_option maxHeartbeats 4000000 in
theorem cc_X0_play {G : zG} {o : cO} {S : cS} {N : Nat} (hG : zOK G) {a0 : Nat} {x1 : Option Nat} {x2 : Int32} {x3 : Int32} (ok : o_X0_play N S a0 x1 x2 x3) : cCi G o dX0_play mX0_play [.ref a0, va_rf x1, .int x2, .int x3] S (fun v S' => v = (f_X0_play N S a0 x1 x2 x3).1 ∧ S' = (f_X0_play N S a0 x1 x2 x3).2) := by
  refine cC.ofX rfl (by cases x1 <;> exact Nat.le_of_ble_eq_true rfl) ?_
  rw [show zargs mX0_play.2.2.1 [.ref a0, va_rf x1, .int x2, .int x3] = [some (.ref a0), some (va_rf x1), some (.int x2), some (.int x3), none, none, none, none, none] from by cases x1 <;> rfl]
  exact cX.cutz (b_X0_play_0 (X := fun F => F = f_X0_play N S a0 x1 x2 x3) hG (fun v S' h => ⟨v, rfl, by rw [← h], by rw [← h]⟩) ok rfl) ⟨rfl, rfl, rfl, rfl, trivial⟩

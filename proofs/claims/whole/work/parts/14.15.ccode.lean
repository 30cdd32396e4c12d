/-! X7_take -/
def F_X7_take_48 (N : Nat) (x0 : Option Nat) (x1 : Option Nat) (S : cS) : cS := (f_X6_enter N S (za x0) (f_X5_two N S (za x1) (nI 1)))
def O_X7_take_48 (N : Nat) (x0 : Option Nat) (x1 : Option Nat) (S : cS) : Prop := (cis S x1 5 ∧ o_X5_two N S (za x1) (nI 1)) ∧ (cis S x0 6 ∧ o_X6_enter N S (za x0) (f_X5_two N S (za x1) (nI 1))) ∧ True
set_option maxRecDepth 100000 in
set_option maxHeartbeats 4000000 in
theorem b_X7_take_48 {G : zG} {o : cO} {S : cS} {N : Nat} {Q : Option Value → cS → Prop} {X : cS → Prop} (hG : zOK G) (hR : ∀ S', X S' → Q none S') {x0 : Option Nat} {x1 : Option Nat} (ok : O_X7_take_48 N x0 x1 S) (hx : X (F_X7_take_48 N x0 x1 S)) : cX G o dX7_take mX7_take 48 [some (va_rf x0), some (va_rf x1)] [] S Q := by
  unfold O_X7_take_48 at ok
  unfold F_X7_take_48 at hx
  refine c_aload_nQ dX7_take_48 rfl rfl ?_
  refine c_aload_nQ dX7_take_49 rfl rfl ?_
  refine c_iconst (v := nI 1) dX7_take_50 (by decide) ?_
  refine c_V1iE (ci := 4) (rr := (RX5, TX5, 7)) (y' := mX5_two) dX7_take_51 lX7_93 kX5_two ⟨by decide, by decide⟩ rfl rfl (by decide) ok.1.1 (by simp only [List.map_cons, List.map_nil, List.sum_cons, List.sum_nil, zcat_rf, zcat_i, zcat_l, zcat_r] <;> decide) (cc_X5_two hG ok.1.2) ?_
  have ok := ok.2
  refine c_V1vE (ci := 5) (rr := (RX6, TX6, 19)) (y' := mX6_enter) dX7_take_54 lX7_144 kX6_enter ⟨by decide, by decide⟩ rfl rfl (by decide) ok.1.1 (Nat.le_of_ble_eq_true rfl) (cc_X6_enter hG ok.1.2) ?_
  have ok := ok.2
  exact c_return rfl dX7_take_57 (hR _ hx)
def F_X7_take_42 (N : Nat) (x0 : Option Nat) (x1 : Option Nat) (S : cS) : cS := (F_X7_take_48 N x0 x1 (f_X6_forgetAnswers N S (za x0) (nI 0) (nI 4)))
def O_X7_take_42 (N : Nat) (x0 : Option Nat) (x1 : Option Nat) (S : cS) : Prop := (cis S x0 6 ∧ o_X6_forgetAnswers N S (za x0) (nI 0) (nI 4)) ∧ O_X7_take_48 N x0 x1 (f_X6_forgetAnswers N S (za x0) (nI 0) (nI 4))
set_option maxRecDepth 100000 in
set_option maxHeartbeats 4000000 in
theorem b_X7_take_42 {G : zG} {o : cO} {S : cS} {N : Nat} {Q : Option Value → cS → Prop} {X : cS → Prop} (hG : zOK G) (hR : ∀ S', X S' → Q none S') {x0 : Option Nat} {x1 : Option Nat} (ok : O_X7_take_42 N x0 x1 S) (hx : X (F_X7_take_42 N x0 x1 S)) : cX G o dX7_take mX7_take 42 [some (va_rf x0), some (va_rf x1)] [] S Q := by
  unfold O_X7_take_42 at ok
  unfold F_X7_take_42 at hx
  refine c_aload_nQ dX7_take_42 rfl rfl ?_
  refine c_iconst (v := nI 0) dX7_take_43 (by decide) ?_
  refine c_iconst (v := nI 4) dX7_take_44 (by decide) ?_
  refine c_V2vE (ci := 5) (rr := (RX6, TX6, 19)) (y' := mX6_forgetAnswers) dX7_take_45 lX7_140 kX6_forgetAnswers ⟨by decide, by decide⟩ rfl rfl (by decide) ok.1.1 (Nat.le_of_ble_eq_true rfl) (cc_X6_forgetAnswers hG ok.1.2) ?_
  have ok := ok.2
  exact cX.cutz (b_X7_take_48 hG hR ok hx) ⟨rfl, rfl, trivial⟩
def F_X7_take_31 (N : Nat) (x0 : Option Nat) (x1 : Option Nat) (S : cS) : cS := (F_X7_take_42 N x0 x1 (f_X0_load N S (za (cR S 4 (za x0))) (cR S 0 (za x1))))
def O_X7_take_31 (N : Nat) (x0 : Option Nat) (x1 : Option Nat) (S : cS) : Prop := (cis S x0 6) ∧ (cis S x1 5) ∧ (cis S (cR S 4 (za x0)) 1 ∧ o_X0_load N S (za (cR S 4 (za x0))) (cR S 0 (za x1))) ∧ O_X7_take_42 N x0 x1 (f_X0_load N S (za (cR S 4 (za x0))) (cR S 0 (za x1)))
set_option maxRecDepth 100000 in
set_option maxHeartbeats 4000000 in
theorem b_X7_take_31 {G : zG} {o : cO} {S : cS} {N : Nat} {Q : Option Value → cS → Prop} {X : cS → Prop} (hG : zOK G) (hR : ∀ S', X S' → Q none S') {x0 : Option Nat} {x1 : Option Nat} (ok : O_X7_take_31 N x0 x1 S) (hx : X (F_X7_take_31 N x0 x1 S)) : cX G o dX7_take mX7_take 31 [some (va_rf x0), some (va_rf x1)] [] S Q := by
  unfold O_X7_take_31 at ok
  unfold F_X7_take_31 at hx
  refine c_aload_nQ dX7_take_31 rfl rfl ?_
  refine c_getR (C := RX6) (T := TX6) (N := 19) (ci := 5) (k := 4) ⟨rfl, inT6, by decide, fX7_22⟩ (by decide) (by decide) (by decide) dX7_take_32 ok.1 ?_
  have ok := ok.2
  refine c_aload_nQ dX7_take_35 rfl rfl ?_
  refine c_getR (C := RX5) (T := TX5) (N := 7) (ci := 4) (k := 0) ⟨rfl, inT5, by decide, fX7_123⟩ (by decide) (by decide) (by decide) dX7_take_36 ok.1 ?_
  have ok := ok.2
  refine c_V1vE (ci := 0) (rr := (RX0, TX0, 6)) (y' := mX0_load) dX7_take_39 lX7_136 kX0_load ⟨by decide, by decide⟩ rfl rfl (by decide) ok.1.1 (Nat.le_of_ble_eq_true rfl) (cc_X0_load hG ok.1.2) ?_
  have ok := ok.2
  exact cX.cutz (b_X7_take_42 hG hR ok hx) ⟨rfl, rfl, trivial⟩
def F_X7_take_8 (N : Nat) (x0 : Option Nat) (x1 : Option Nat) (s0 : Int32) (S : cS) : cS := (if s0 = 0 then (f_X6_fall N S (za x0)) else (F_X7_take_31 N x0 x1 (csArow S (za (cR S 5 (za x0))) (va_cpy (cA S (za (cR S 0 (za x1)))) (cA S (za (cR S 5 (za x0)))) (nI 3).toNatClampNeg (nI 0).toNatClampNeg (nI 32).toNatClampNeg))))
def O_X7_take_8 (N : Nat) (x0 : Option Nat) (x1 : Option Nat) (s0 : Int32) (S : cS) : Prop := ((s0 = 0 → (cis S x0 6 ∧ o_X6_fall N S (za x0)) ∧ True) ∧ (¬ s0 = 0 → (cis S x1 5) ∧ (cis S x0 6) ∧ (cis S (cR S 0 (za x1)) 20 ∧ cis S (cR S 5 (za x0)) 20 ∧ (¬ (nI 3) < 0 ∧ ¬ (nI 0) < 0 ∧ ¬ (nI 32) < 0) ∧ (nI 3).toNatClampNeg + (nI 32).toNatClampNeg ≤ cL S (za (cR S 0 (za x1))) ∧ (nI 0).toNatClampNeg + (nI 32).toNatClampNeg ≤ cL S (za (cR S 5 (za x0)))) ∧ O_X7_take_31 N x0 x1 (csArow S (za (cR S 5 (za x0))) (va_cpy (cA S (za (cR S 0 (za x1)))) (cA S (za (cR S 5 (za x0)))) (nI 3).toNatClampNeg (nI 0).toNatClampNeg (nI 32).toNatClampNeg))))
set_option maxRecDepth 100000 in
set_option maxHeartbeats 4000000 in
theorem b_X7_take_8 {G : zG} {o : cO} {S : cS} {N : Nat} {Q : Option Value → cS → Prop} {X : cS → Prop} (hG : zOK G) (hR : ∀ S', X S' → Q none S') {x0 : Option Nat} {x1 : Option Nat} {s0 : Int32} (ok : O_X7_take_8 N x0 x1 s0 S) (hx : X (F_X7_take_8 N x0 x1 s0 S)) : cX G o dX7_take mX7_take 8 [some (va_rf x0), some (va_rf x1)] [.int s0] S Q := by
  unfold O_X7_take_8 at ok
  unfold F_X7_take_8 at hx
  refine c_if_ne (tgt := 16) dX7_take_8 (by decide) (fun c_8 => ?_) (fun c_8 => ?_)
  · have ok := ok.2 c_8
    have hx := xif_n c_8 hx
    refine c_aload_nQ dX7_take_16 rfl rfl ?_
    refine c_getR (C := RX5) (T := TX5) (N := 7) (ci := 4) (k := 0) ⟨rfl, inT5, by decide, fX7_123⟩ (by decide) (by decide) (by decide) dX7_take_17 ok.1 ?_
    have ok := ok.2
    refine c_iconst (v := nI 3) dX7_take_20 (by decide) ?_
    refine c_aload_nQ dX7_take_21 rfl rfl ?_
    refine c_getR (C := RX6) (T := TX6) (N := 19) (ci := 5) (k := 5) ⟨rfl, inT6, by decide, fX7_127⟩ (by decide) (by decide) (by decide) dX7_take_22 ok.1 ?_
    have ok := ok.2
    refine c_iconst (v := nI 0) dX7_take_25 (by decide) ?_
    refine c_bipush (v := nI 32) dX7_take_26 (by decide) ?_
    refine c_copy0 hG dX7_take_28 qX7_130 (by decide) (by decide) ok.1 ?_
    have ok := ok.2
    exact cX.cutz (b_X7_take_31 hG hR ok hx) ⟨rfl, rfl, trivial⟩
  · have ok := ok.1 c_8
    have hx := xif_p c_8 hx
    refine c_aload_nQ dX7_take_11 rfl rfl ?_
    refine c_V0vE (ci := 5) (rr := (RX6, TX6, 19)) (y' := mX6_fall) dX7_take_12 lX7_120 kX6_fall ⟨by decide, by decide⟩ rfl rfl (by decide) ok.1.1 (Nat.le_of_ble_eq_true rfl) (cc_X6_fall hG ok.1.2) ?_
    have ok := ok.2
    exact c_return rfl dX7_take_15 (hR _ hx)
def F_X7_take_0 (N : Nat) (x0 : Option Nat) (x1 : Option Nat) (S : cS) : cS := (F_X7_take_8 N x0 x1 ((f_X4_noteSnap N S (za (cR S 2 (za x0))) x1).1) (f_X4_noteSnap N S (za (cR S 2 (za x0))) x1).2)
def O_X7_take_0 (N : Nat) (x0 : Option Nat) (x1 : Option Nat) (S : cS) : Prop := (cis S x0 6) ∧ (cis S (cR S 2 (za x0)) 4 ∧ o_X4_noteSnap N S (za (cR S 2 (za x0))) x1) ∧ O_X7_take_8 N x0 x1 ((f_X4_noteSnap N S (za (cR S 2 (za x0))) x1).1) (f_X4_noteSnap N S (za (cR S 2 (za x0))) x1).2
set_option maxRecDepth 100000 in
set_option maxHeartbeats 4000000 in
theorem b_X7_take_0 {G : zG} {o : cO} {S : cS} {N : Nat} {Q : Option Value → cS → Prop} {X : cS → Prop} (hG : zOK G) (hR : ∀ S', X S' → Q none S') {x0 : Option Nat} {x1 : Option Nat} (ok : O_X7_take_0 N x0 x1 S) (hx : X (F_X7_take_0 N x0 x1 S)) : cX G o dX7_take mX7_take 0 [some (va_rf x0), some (va_rf x1)] [] S Q := by
  unfold O_X7_take_0 at ok
  unfold F_X7_take_0 at hx
  refine c_aload_nQ dX7_take_0 rfl rfl ?_
  refine c_getR (C := RX6) (T := TX6) (N := 19) (ci := 5) (k := 2) ⟨rfl, inT6, by decide, fX7_110⟩ (by decide) (by decide) (by decide) dX7_take_1 ok.1 ?_
  have ok := ok.2
  refine c_aload_nQ dX7_take_4 rfl rfl ?_
  refine c_V1iE (ci := 3) (rr := (RX4, TX4, 10)) (y' := mX4_noteSnap) dX7_take_5 lX7_114 kX4_noteSnap ⟨by decide, by decide⟩ rfl rfl (by decide) ok.1.1 (Nat.le_of_ble_eq_true rfl) (cc_X4_noteSnap hG ok.1.2) ?_
  have ok := ok.2
  exact cX.cutz (b_X7_take_8 hG hR ok hx) ⟨rfl, rfl, trivial⟩
def f_X7_take (N : Nat) (S : cS) (x0 : Option Nat) (x1 : Option Nat) : cS := F_X7_take_0 N x0 x1 S
def o_X7_take (N : Nat) (S : cS) (x0 : Option Nat) (x1 : Option Nat) : Prop := O_X7_take_0 N x0 x1 S
set_option maxRecDepth 100000 in
set_option maxHeartbeats 4000000 in
theorem cc_X7_take {G : zG} {o : cO} {S : cS} {N : Nat} (hG : zOK G) {x0 : Option Nat} {x1 : Option Nat} (ok : o_X7_take N S x0 x1) : cCv G o dX7_take mX7_take [va_rf x0, va_rf x1] S (fun S' => S' = f_X7_take N S x0 x1) := by
  refine cC.ofX rfl (by cases x0 <;> cases x1 <;> exact Nat.le_of_ble_eq_true rfl) ?_
  rw [show zargs mX7_take.2.2.1 [va_rf x0, va_rf x1] = [some (va_rf x0), some (va_rf x1)] from by cases x0 <;> cases x1 <;> rfl]
  exact cX.cutz (b_X7_take_0 (X := fun F => F = f_X7_take N S x0 x1) hG (fun S' h => ⟨rfl, h⟩) ok rfl) ⟨rfl, rfl, trivial⟩
/-! X7_takes -/
def F_X7_takes_69 (N : Nat)  (S : cS) : Int32 × cS := ((nI 0), S)
def O_X7_takes_69 (N : Nat)  (S : cS) : Prop := True
set_option maxRecDepth 100000 in
set_option maxHeartbeats 4000000 in
theorem b_X7_takes_69 {G : zG} {o : cO} {S : cS} {N : Nat} {Q : Option Value → cS → Prop} {X : Int32 × cS → Prop} (hG : zOK G) (hR : ∀ v S', X (v, S') → Q (some (.int v)) S') (ok : O_X7_takes_69 N S) (hx : X (F_X7_takes_69 N S)) : cX G o dX7_takes mX7_takes 69 [none, none, none, none] [] S Q := by
  unfold O_X7_takes_69 at ok
  unfold F_X7_takes_69 at hx
  refine c_iconst (v := nI 0) dX7_takes_69 (by decide) ?_
  exact c_ireturn rfl rfl dX7_takes_70 (hR _ _ hx)
def F_X7_takes_63 (N : Nat) (rec : Option Nat → Option Nat → Int32 → cS → Nat × Option Nat × Option Nat × cS) (x0 : Option Nat) (x1 : Option Nat) (x2 : Int32) (S : cS) : Nat × Option Nat × Option Nat × cS := (rec x0 x1 (x2 + nI 1) S)
def O_X7_takes_63 (N : Nat) (rok : Option Nat → Option Nat → Int32 → cS → Prop) (x0 : Option Nat) (x1 : Option Nat) (x2 : Int32) (S : cS) : Prop := rok x0 x1 (x2 + nI 1) S
set_option maxRecDepth 100000 in
set_option maxHeartbeats 4000000 in
theorem b_X7_takes_63 {G : zG} {o : cO} {S : cS} {N : Nat} {Q : Option Value → cS → Prop} {X : Nat × Option Nat × Option Nat × cS → Prop} (hG : zOK G) (hX0 : ∀ (x0 : Option Nat) (x3 : Option Nat) (S' : cS), X (0, x0, x3, S') → cX G o dX7_takes mX7_takes 56 [some (va_rf x0), none, none, some (va_rf x3)] [] S' Q) (hX1 : ∀ (x0 : Option Nat) (x3 : Option Nat) (S' : cS), X (1, x0, x3, S') → cX G o dX7_takes mX7_takes 69 [none, none, none, none] [] S' Q) {rec : Option Nat → Option Nat → Int32 → cS → Nat × Option Nat × Option Nat × cS} {rok : Option Nat → Option Nat → Int32 → cS → Prop} (hrec : ∀ (x0 : Option Nat) (x1 : Option Nat) (x2 : Int32) (S : cS), rok x0 x1 x2 S → X (rec x0 x1 x2 S) → cX G o dX7_takes mX7_takes 7 [some (va_rf x0), some (va_rf x1), some (.int x2), none] [] S Q) {x0 : Option Nat} {x1 : Option Nat} {x2 : Int32} (ok : O_X7_takes_63 N rok x0 x1 x2 S) (hx : X (F_X7_takes_63 N rec x0 x1 x2 S)) : cX G o dX7_takes mX7_takes 63 [some (va_rf x0), some (va_rf x1), some (.int x2), none] [] S Q := by
  unfold O_X7_takes_63 at ok
  unfold F_X7_takes_63 at hx
  refine c_iinc_2 (v := (x2 + nI 1)) dX7_takes_63 rfl (by first | rfl | (congr 1)) (by decide) (by simp [zok, zg, zcat_rf]) ?_
  refine c_goto (tgt := 7) dX7_takes_66 (by decide) ?_
  exact cX.cutz (hrec _ _ _ S ok hx) ⟨rfl, rfl, rfl, trivial⟩
def F_X7_takes_61 (N : Nat)  (S : cS) : Int32 × cS := ((nI 1), S)
def O_X7_takes_61 (N : Nat)  (S : cS) : Prop := True
set_option maxRecDepth 100000 in
set_option maxHeartbeats 4000000 in
theorem b_X7_takes_61 {G : zG} {o : cO} {S : cS} {N : Nat} {Q : Option Value → cS → Prop} {X : Int32 × cS → Prop} (hG : zOK G) (hR : ∀ v S', X (v, S') → Q (some (.int v)) S') (ok : O_X7_takes_61 N S) (hx : X (F_X7_takes_61 N S)) : cX G o dX7_takes mX7_takes 61 [none, none, none, none] [] S Q := by
  unfold O_X7_takes_61 at ok
  unfold F_X7_takes_61 at hx
  refine c_iconst (v := nI 1) dX7_takes_61 (by decide) ?_
  exact c_ireturn rfl rfl dX7_takes_62 (hR _ _ hx)
def F_X7_takes_56 (N : Nat) (x0 : Option Nat) (x3 : Option Nat) (S : cS) : Int32 × cS := (F_X7_takes_61 N (f_X7_take N S x0 x3))
def O_X7_takes_56 (N : Nat) (x0 : Option Nat) (x3 : Option Nat) (S : cS) : Prop := (o_X7_take N S x0 x3) ∧ O_X7_takes_61 N (f_X7_take N S x0 x3)
set_option maxRecDepth 100000 in
set_option maxHeartbeats 4000000 in
theorem b_X7_takes_56 {G : zG} {o : cO} {S : cS} {N : Nat} {Q : Option Value → cS → Prop} {X : Int32 × cS → Prop} (hG : zOK G) (hR : ∀ v S', X (v, S') → Q (some (.int v)) S') {x0 : Option Nat} {x3 : Option Nat} (ok : O_X7_takes_56 N x0 x3 S) (hx : X (F_X7_takes_56 N x0 x3 S)) : cX G o dX7_takes mX7_takes 56 [some (va_rf x0), none, none, some (va_rf x3)] [] S Q := by
  unfold O_X7_takes_56 at ok
  unfold F_X7_takes_56 at hx
  refine c_aload_nQ dX7_takes_56 rfl rfl ?_
  refine c_aload_nQ dX7_takes_57 rfl rfl ?_
  refine c_S2vE (y' := mX7_take) dX7_takes_58 lX7_106 kX7_take ⟨by decide, by decide⟩ (Nat.le_of_ble_eq_true rfl) (cc_X7_take hG ok.1) ?_
  have ok := ok.2
  exact cX.cutz (b_X7_takes_61 hG hR ok hx) trivial
def B_X7_takes_7 (N : Nat) (rec : Option Nat → Option Nat → Int32 → cS → Nat × Option Nat × Option Nat × cS) (x0 : Option Nat) (x1 : Option Nat) (x2 : Int32) (S : cS) : Nat × Option Nat × Option Nat × cS := (if (cI S 1 (za (cR S 0 (za x0)))) ≤ x2 then (1, none, none, S) else (if (cP S (za (cR S 8 (za x1))) x2.toNatClampNeg) = none then (F_X7_takes_63 N rec x0 x1 x2 S) else (if (f_X5_two N S (za (cP S (za (cR S 8 (za x1))) x2.toNatClampNeg)) (nI 1)) ≤ (cI S 9 (za x0)) then (F_X7_takes_63 N rec x0 x1 x2 S) else (if (f_X8_snapshotsLike N S (za x1) (cP S (za (cR S 8 (za x1))) x2.toNatClampNeg)) ≤ (cI S 0 (za (cR S 0 (za x0)))) then (F_X7_takes_63 N rec x0 x1 x2 S) else (0, x0, (cP S (za (cR S 8 (za x1))) x2.toNatClampNeg), S)))))
def OB_X7_takes_7 (N : Nat) (rok : Option Nat → Option Nat → Int32 → cS → Prop) (x0 : Option Nat) (x1 : Option Nat) (x2 : Int32) (S : cS) : Prop := (cis S x0 6) ∧ (cis S (cR S 0 (za x0)) 9) ∧ (((cI S 1 (za (cR S 0 (za x0)))) ≤ x2 → True) ∧ (¬ (cI S 1 (za (cR S 0 (za x0)))) ≤ x2 → (cis S x1 7) ∧ (cis S (cR S 8 (za x1)) 24 ∧ vp_in x2 (cL S (za (cR S 8 (za x1))))) ∧ (((cP S (za (cR S 8 (za x1))) x2.toNatClampNeg) = none → O_X7_takes_63 N rok x0 x1 x2 S) ∧ (¬ (cP S (za (cR S 8 (za x1))) x2.toNatClampNeg) = none → (cis S (cP S (za (cR S 8 (za x1))) x2.toNatClampNeg) 5 ∧ o_X5_two N S (za (cP S (za (cR S 8 (za x1))) x2.toNatClampNeg)) (nI 1)) ∧ (cis S x0 6) ∧ (((f_X5_two N S (za (cP S (za (cR S 8 (za x1))) x2.toNatClampNeg)) (nI 1)) ≤ (cI S 9 (za x0)) → O_X7_takes_63 N rok x0 x1 x2 S) ∧ (¬ (f_X5_two N S (za (cP S (za (cR S 8 (za x1))) x2.toNatClampNeg)) (nI 1)) ≤ (cI S 9 (za x0)) → (cis S x1 7 ∧ o_X8_snapshotsLike N S (za x1) (cP S (za (cR S 8 (za x1))) x2.toNatClampNeg)) ∧ (cis S x0 6) ∧ (cis S (cR S 0 (za x0)) 9) ∧ (((f_X8_snapshotsLike N S (za x1) (cP S (za (cR S 8 (za x1))) x2.toNatClampNeg)) ≤ (cI S 0 (za (cR S 0 (za x0)))) → O_X7_takes_63 N rok x0 x1 x2 S) ∧ (¬ (f_X8_snapshotsLike N S (za x1) (cP S (za (cR S 8 (za x1))) x2.toNatClampNeg)) ≤ (cI S 0 (za (cR S 0 (za x0)))) → True))))))))
set_option maxRecDepth 100000 in
set_option maxHeartbeats 4000000 in
theorem bb_X7_takes_7 {G : zG} {o : cO} {S : cS} {N : Nat} {Q : Option Value → cS → Prop} {X : Nat × Option Nat × Option Nat × cS → Prop} (hG : zOK G) (hX0 : ∀ (x0 : Option Nat) (x3 : Option Nat) (S' : cS), X (0, x0, x3, S') → cX G o dX7_takes mX7_takes 56 [some (va_rf x0), none, none, some (va_rf x3)] [] S' Q) (hX1 : ∀ (x0 : Option Nat) (x3 : Option Nat) (S' : cS), X (1, x0, x3, S') → cX G o dX7_takes mX7_takes 69 [none, none, none, none] [] S' Q) {rec : Option Nat → Option Nat → Int32 → cS → Nat × Option Nat × Option Nat × cS} {rok : Option Nat → Option Nat → Int32 → cS → Prop} (hrec : ∀ (x0 : Option Nat) (x1 : Option Nat) (x2 : Int32) (S : cS), rok x0 x1 x2 S → X (rec x0 x1 x2 S) → cX G o dX7_takes mX7_takes 7 [some (va_rf x0), some (va_rf x1), some (.int x2), none] [] S Q) {x0 : Option Nat} {x1 : Option Nat} {x2 : Int32} (ok : OB_X7_takes_7 N rok x0 x1 x2 S) (hx : X (B_X7_takes_7 N rec x0 x1 x2 S)) : cX G o dX7_takes mX7_takes 7 [some (va_rf x0), some (va_rf x1), some (.int x2), none] [] S Q := by
  unfold OB_X7_takes_7 at ok
  unfold B_X7_takes_7 at hx
  refine c_iload_n dX7_takes_7 rfl rfl ?_
  refine c_aload_nQ dX7_takes_8 rfl rfl ?_
  refine c_getR (C := RX6) (T := TX6) (N := 19) (ci := 5) (k := 0) ⟨rfl, inT6, by decide, fX7_26⟩ (by decide) (by decide) (by decide) dX7_takes_9 ok.1 ?_
  have ok := ok.2
  refine c_getI (C := RX10) (T := TX10) (N := 12) (ci := 8) (k := 1) ⟨rfl, inT10, by decide, fX7_84⟩ (by decide) (by decide) (by decide) dX7_takes_12 ok.1 ?_
  have ok := ok.2
  refine c_icmp_ge (tgt := 69) dX7_takes_15 (by decide) (fun c_15 => ?_) (fun c_15 => ?_)
  · have ok := ok.1 c_15
    have hx := xif_p c_15 hx
    exact cX.cutz (hX1 _ _ S hx) trivial
  · have ok := ok.2 c_15
    have hx := xif_n c_15 hx
    refine c_aload_nQ dX7_takes_18 rfl rfl ?_
    refine c_getR (C := RX8) (T := TX8) (N := 14) (ci := 6) (k := 8) ⟨rfl, inT8, by decide, fX7_87⟩ (by decide) (by decide) (by decide) dX7_takes_19 ok.1 ?_
    have ok := ok.2
    refine c_iload_n dX7_takes_22 rfl rfl ?_
    refine c_aald (t := 4) (ty := (.object "QuorumLedger$Message")) rfl rfl (by decide) dX7_takes_23 ok.1 ?_
    have ok := ok.2
    refine c_astore_3Q dX7_takes_24 (by decide) rfl ?_
    refine c_aload_nQ dX7_takes_25 rfl rfl ?_
    refine c_ifnullI (tgt := 63) dX7_takes_26 (by decide) (fun c_26 => ?_) (fun c_26 => ?_)
    · have ok := ok.1 c_26
      have hx := xif_p c_26 hx
      exact cX.cutz (b_X7_takes_63 hG hX0 hX1 hrec ok hx) ⟨rfl, rfl, rfl, trivial⟩
    · have ok := ok.2 c_26
      have hx := xif_n c_26 hx
      refine c_aload_nQ dX7_takes_29 rfl rfl ?_
      refine c_iconst (v := nI 1) dX7_takes_30 (by decide) ?_
      refine c_V1iE (ci := 4) (rr := (RX5, TX5, 7)) (y' := mX5_two) dX7_takes_31 lX7_93 kX5_two ⟨by decide, by decide⟩ rfl rfl (by decide) ok.1.1 (Nat.le_of_ble_eq_true rfl) (cc_X5_two hG ok.1.2) ?_
      have ok := ok.2
      refine c_aload_nQ dX7_takes_34 rfl rfl ?_
      refine c_getI (C := RX6) (T := TX6) (N := 19) (ci := 5) (k := 9) ⟨rfl, inT6, by decide, fX7_18⟩ (by decide) (by decide) (by decide) dX7_takes_35 ok.1 ?_
      have ok := ok.2
      refine c_icmp_le (tgt := 63) dX7_takes_38 (by decide) (fun c_38 => ?_) (fun c_38 => ?_)
      · have ok := ok.1 c_38
        have hx := xif_p c_38 hx
        exact cX.cutz (b_X7_takes_63 hG hX0 hX1 hrec ok hx) ⟨rfl, rfl, rfl, trivial⟩
      · have ok := ok.2 c_38
        have hx := xif_n c_38 hx
        refine c_aload_nQ dX7_takes_41 rfl rfl ?_
        refine c_aload_nQ dX7_takes_42 rfl rfl ?_
        refine c_V1iE (ci := 6) (rr := (RX8, TX8, 14)) (y' := mX8_snapshotsLike) dX7_takes_43 lX7_99 kX8_snapshotsLike ⟨by decide, by decide⟩ rfl rfl (by decide) ok.1.1 (Nat.le_of_ble_eq_true rfl) (cc_X8_snapshotsLike hG ok.1.2) ?_
        have ok := ok.2
        refine c_aload_nQ dX7_takes_46 rfl rfl ?_
        refine c_getR (C := RX6) (T := TX6) (N := 19) (ci := 5) (k := 0) ⟨rfl, inT6, by decide, fX7_26⟩ (by decide) (by decide) (by decide) dX7_takes_47 ok.1 ?_
        have ok := ok.2
        refine c_getI (C := RX10) (T := TX10) (N := 12) (ci := 8) (k := 0) ⟨rfl, inT10, by decide, fX7_103⟩ (by decide) (by decide) (by decide) dX7_takes_50 ok.1 ?_
        have ok := ok.2
        refine c_icmp_le (tgt := 63) dX7_takes_53 (by decide) (fun c_53 => ?_) (fun c_53 => ?_)
        · have ok := ok.1 c_53
          have hx := xif_p c_53 hx
          exact cX.cutz (b_X7_takes_63 hG hX0 hX1 hrec ok hx) ⟨rfl, rfl, rfl, trivial⟩
        · have ok := ok.2 c_53
          have hx := xif_n c_53 hx
          exact cX.cutz (hX0 _ _ S hx) ⟨rfl, rfl, trivial⟩
def L_X7_takes_7 (N : Nat) : Nat → Option Nat → Option Nat → Int32 → cS → Nat × Option Nat × Option Nat × cS
  | 0, x0, x1, x2, S => (0, none, none, S)
  | n + 1, x0, x1, x2, S => B_X7_takes_7 N (L_X7_takes_7 N n) x0 x1 x2 S
def OL_X7_takes_7 (N : Nat) : Nat → Option Nat → Option Nat → Int32 → cS → Prop
  | 0, _, _, _, _ => False
  | n + 1, x0, x1, x2, S => OB_X7_takes_7 N (OL_X7_takes_7 N n) x0 x1 x2 S
set_option maxRecDepth 100000 in
set_option maxHeartbeats 4000000 in
theorem l_X7_takes_7 {G : zG} {o : cO} {N : Nat} {Q : Option Value → cS → Prop} {X : Nat × Option Nat × Option Nat × cS → Prop} (hG : zOK G) (hX0 : ∀ (x0 : Option Nat) (x3 : Option Nat) (S' : cS), X (0, x0, x3, S') → cX G o dX7_takes mX7_takes 56 [some (va_rf x0), none, none, some (va_rf x3)] [] S' Q) (hX1 : ∀ (x0 : Option Nat) (x3 : Option Nat) (S' : cS), X (1, x0, x3, S') → cX G o dX7_takes mX7_takes 69 [none, none, none, none] [] S' Q) : ∀ (n : Nat) (x0 : Option Nat) (x1 : Option Nat) (x2 : Int32) (S : cS), OL_X7_takes_7 N n x0 x1 x2 S → X (L_X7_takes_7 N n x0 x1 x2 S) → cX G o dX7_takes mX7_takes 7 [some (va_rf x0), some (va_rf x1), some (.int x2), none] [] S Q := by
  intro n
  induction n with
  | zero => intro x0 x1 x2 S ok; exact absurd ok id
  | succ n ih =>
    intro x0 x1 x2 S ok hx
    exact bb_X7_takes_7 hG hX0 hX1 (rec := L_X7_takes_7 N n) (rok := OL_X7_takes_7 N n) (fun x0 x1 x2 S ok hx => ih x0 x1 x2 S ok hx) ok hx
def A_X7_takes_7 (N : Nat) (x0 : Option Nat) (x1 : Option Nat) (x2 : Int32) (S : cS) (z : Nat × Option Nat × Option Nat × cS) : Int32 × cS := (if z.1 = 0 then (F_X7_takes_56 N (z.2.1) (z.2.2.1) z.2.2.2) else (F_X7_takes_69 N z.2.2.2))
def OA_X7_takes_7 (N : Nat) (x0 : Option Nat) (x1 : Option Nat) (x2 : Int32) (S : cS) (z : Nat × Option Nat × Option Nat × cS) : Prop := (if z.1 = 0 then O_X7_takes_56 N (z.2.1) (z.2.2.1) z.2.2.2 else O_X7_takes_69 N z.2.2.2)
set_option maxRecDepth 100000 in
set_option maxHeartbeats 4000000 in
theorem c_X7_takes_7 {G : zG} {o : cO} {S : cS} {N : Nat} {Q : Option Value → cS → Prop} {X : Int32 × cS → Prop} (hG : zOK G) (hR : ∀ v S', X (v, S') → Q (some (.int v)) S') {x0 : Option Nat} {x1 : Option Nat} {x2 : Int32} (ok : OL_X7_takes_7 N N x0 x1 x2 S ∧ OA_X7_takes_7 N x0 x1 x2 S (L_X7_takes_7 N N x0 x1 x2 S)) (hx : X (A_X7_takes_7 N x0 x1 x2 S (L_X7_takes_7 N N x0 x1 x2 S))) : cX G o dX7_takes mX7_takes 7 [some (va_rf x0), some (va_rf x1), some (.int x2), none] [] S Q := by
  refine l_X7_takes_7 hG ?_ ?_ N x0 x1 x2 S ok.1 (X := fun z => OA_X7_takes_7 N x0 x1 x2 S z ∧ X (A_X7_takes_7 N x0 x1 x2 S z)) ⟨ok.2, hx⟩
  · intro x0' x3' S' hz
    obtain ⟨ok, hx⟩ := hz
    unfold OA_X7_takes_7 at ok
    unfold A_X7_takes_7 at hx
    have ok := xif_P (show (0 : Nat) = 0 from rfl) ok
    have hx := xif_p (show (0 : Nat) = 0 from rfl) hx
    exact cX.cutz (b_X7_takes_56 hG hR ok hx) ⟨rfl, rfl, trivial⟩
  · intro x0' x3' S' hz
    obtain ⟨ok, hx⟩ := hz
    unfold OA_X7_takes_7 at ok
    unfold A_X7_takes_7 at hx
    have ok := xif_N (show ¬ (1 : Nat) = 0 by decide) ok
    have hx := xif_n (show ¬ (1 : Nat) = 0 by decide) hx
    exact cX.cutz (b_X7_takes_69 hG hR ok hx) trivial
def F_X7_takes_0 (N : Nat) (x0 : Option Nat) (S : cS) : Int32 × cS := (A_X7_takes_7 N x0 (cR S 3 (za x0)) (nI 0) S (L_X7_takes_7 N N x0 (cR S 3 (za x0)) (nI 0) S))
def O_X7_takes_0 (N : Nat) (x0 : Option Nat) (S : cS) : Prop := (cis S x0 6) ∧ (OL_X7_takes_7 N N x0 (cR S 3 (za x0)) (nI 0) S ∧ OA_X7_takes_7 N x0 (cR S 3 (za x0)) (nI 0) S (L_X7_takes_7 N N x0 (cR S 3 (za x0)) (nI 0) S))
set_option maxRecDepth 100000 in
set_option maxHeartbeats 4000000 in
theorem b_X7_takes_0 {G : zG} {o : cO} {S : cS} {N : Nat} {Q : Option Value → cS → Prop} {X : Int32 × cS → Prop} (hG : zOK G) (hR : ∀ v S', X (v, S') → Q (some (.int v)) S') {x0 : Option Nat} (ok : O_X7_takes_0 N x0 S) (hx : X (F_X7_takes_0 N x0 S)) : cX G o dX7_takes mX7_takes 0 [some (va_rf x0), none, none, none] [] S Q := by
  unfold O_X7_takes_0 at ok
  unfold F_X7_takes_0 at hx
  refine c_aload_nQ dX7_takes_0 rfl rfl ?_
  refine c_getR (C := RX6) (T := TX6) (N := 19) (ci := 5) (k := 3) ⟨rfl, inT6, by decide, fX7_80⟩ (by decide) (by decide) (by decide) dX7_takes_1 ok.1 ?_
  have ok := ok.2
  refine c_astore_1Q dX7_takes_4 (by decide) (by simp [zok, zg, zcat_rf]) ?_
  refine c_iconst (v := nI 0) dX7_takes_5 (by decide) ?_
  refine c_istore_2 dX7_takes_6 (by decide) (by simp [zok, zg, zcat_rf]) ?_
  exact cX.cutz (c_X7_takes_7 hG hR ok hx) ⟨rfl, rfl, rfl, trivial⟩
def f_X7_takes (N : Nat) (S : cS) (x0 : Option Nat) : Int32 × cS := F_X7_takes_0 N x0 S
def o_X7_takes (N : Nat) (S : cS) (x0 : Option Nat) : Prop := O_X7_takes_0 N x0 S
set_option maxRecDepth 100000 in
set_option maxHeartbeats 4000000 in
theorem cc_X7_takes {G : zG} {o : cO} {S : cS} {N : Nat} (hG : zOK G) {x0 : Option Nat} (ok : o_X7_takes N S x0) : cCi G o dX7_takes mX7_takes [va_rf x0] S (fun v S' => v = (f_X7_takes N S x0).1 ∧ S' = (f_X7_takes N S x0).2) := by
  refine cC.ofX rfl (by cases x0 <;> exact Nat.le_of_ble_eq_true rfl) ?_
  rw [show zargs mX7_takes.2.2.1 [va_rf x0] = [some (va_rf x0), none, none, none] from by cases x0 <;> rfl]
  exact cX.cutz (b_X7_takes_0 (X := fun F => F = f_X7_takes N S x0) hG (fun v S' h => ⟨v, rfl, by rw [← h], by rw [← h]⟩) ok rfl) ⟨rfl, trivial⟩
/-! X8_decisionsFor -/
def F_X8_decisionsFor_43 (N : Nat) (x2 : Int32) (S : cS) : Int32 := x2
def O_X8_decisionsFor_43 (N : Nat) (x2 : Int32) (S : cS) : Prop := True
set_option maxRecDepth 100000 in
set_option maxHeartbeats 4000000 in
theorem b_X8_decisionsFor_43 {G : zG} {o : cO} {S : cS} {N : Nat} {Q : Option Value → cS → Prop} {X : Int32 → Prop} (hG : zOK G) (hR : ∀ v, X v → Q (some (.int v)) S) {x2 : Int32} (ok : O_X8_decisionsFor_43 N x2 S) (hx : X (F_X8_decisionsFor_43 N x2 S)) : cX G o dX8_decisionsFor mX8_decisionsFor 43 [none, none, some (.int x2), none] [] S Q := by
  unfold O_X8_decisionsFor_43 at ok
  unfold F_X8_decisionsFor_43 at hx
  refine c_iload_n dX8_decisionsFor_43 rfl rfl ?_
  exact c_ireturn rfl rfl dX8_decisionsFor_44 (hR _ hx)
def F_X8_decisionsFor_37 (N : Nat) (rec : Option Nat → Option Nat → Int32 → Int32 → Nat × Int32 × Unit) (x0 : Option Nat) (x1 : Option Nat) (x2 : Int32) (x3 : Int32) (S : cS) : Nat × Int32 × Unit := (rec x0 x1 x2 (x3 + nI 1))
def O_X8_decisionsFor_37 (N : Nat) (rok : Option Nat → Option Nat → Int32 → Int32 → Prop) (x0 : Option Nat) (x1 : Option Nat) (x2 : Int32) (x3 : Int32) (S : cS) : Prop := rok x0 x1 x2 (x3 + nI 1)
set_option maxRecDepth 100000 in
set_option maxHeartbeats 4000000 in
theorem b_X8_decisionsFor_37 {G : zG} {o : cO} {S : cS} {N : Nat} {Q : Option Value → cS → Prop} {X : Nat × Int32 × Unit → Prop} (hG : zOK G) (hX0 : ∀ (x2 : Int32) , X (0, x2, ()) → cX G o dX8_decisionsFor mX8_decisionsFor 43 [none, none, some (.int x2), none] [] S Q) {rec : Option Nat → Option Nat → Int32 → Int32 → Nat × Int32 × Unit} {rok : Option Nat → Option Nat → Int32 → Int32 → Prop} (hrec : ∀ (x0 : Option Nat) (x1 : Option Nat) (x2 : Int32) (x3 : Int32), rok x0 x1 x2 x3 → X (rec x0 x1 x2 x3) → cX G o dX8_decisionsFor mX8_decisionsFor 4 [some (va_rf x0), some (va_rf x1), some (.int x2), some (.int x3)] [] S Q) {x0 : Option Nat} {x1 : Option Nat} {x2 : Int32} {x3 : Int32} (ok : O_X8_decisionsFor_37 N rok x0 x1 x2 x3 S) (hx : X (F_X8_decisionsFor_37 N rec x0 x1 x2 x3 S)) : cX G o dX8_decisionsFor mX8_decisionsFor 37 [some (va_rf x0), some (va_rf x1), some (.int x2), some (.int x3)] [] S Q := by
  unfold O_X8_decisionsFor_37 at ok
  unfold F_X8_decisionsFor_37 at hx
  refine c_iinc_3 (v := (x3 + nI 1)) dX8_decisionsFor_37 rfl (by first | rfl | (congr 1)) (by decide) rfl ?_
  refine c_goto (tgt := 4) dX8_decisionsFor_40 (by decide) ?_
  exact cX.cutz (hrec _ _ _ _ ok hx) ⟨rfl, rfl, rfl, rfl, trivial⟩
def B_X8_decisionsFor_4 (N : Nat) (rec : Option Nat → Option Nat → Int32 → Int32 → Nat × Int32 × Unit) (x0 : Option Nat) (x1 : Option Nat) (x2 : Int32) (x3 : Int32) (S : cS) : Nat × Int32 × Unit := (if (cI S 1 (za x0)) ≤ x3 then (0, x2, ()) else (if (cP S (za (cR S 6 (za x0))) x3.toNatClampNeg) = none then (F_X8_decisionsFor_37 N rec x0 x1 x2 x3 S) else (if (f_X5_isFor N S (za (cP S (za (cR S 6 (za x0))) x3.toNatClampNeg)) x1) = 0 then (F_X8_decisionsFor_37 N rec x0 x1 x2 x3 S) else (F_X8_decisionsFor_37 N rec x0 x1 (x2 + nI 1) x3 S))))
def OB_X8_decisionsFor_4 (N : Nat) (rok : Option Nat → Option Nat → Int32 → Int32 → Prop) (x0 : Option Nat) (x1 : Option Nat) (x2 : Int32) (x3 : Int32) (S : cS) : Prop := (cis S x0 7) ∧ (((cI S 1 (za x0)) ≤ x3 → True) ∧ (¬ (cI S 1 (za x0)) ≤ x3 → (cis S x0 7) ∧ (cis S (cR S 6 (za x0)) 24 ∧ vp_in x3 (cL S (za (cR S 6 (za x0))))) ∧ (((cP S (za (cR S 6 (za x0))) x3.toNatClampNeg) = none → O_X8_decisionsFor_37 N rok x0 x1 x2 x3 S) ∧ (¬ (cP S (za (cR S 6 (za x0))) x3.toNatClampNeg) = none → (cis S x0 7) ∧ (cis S (cR S 6 (za x0)) 24 ∧ vp_in x3 (cL S (za (cR S 6 (za x0))))) ∧ (cis S (cP S (za (cR S 6 (za x0))) x3.toNatClampNeg) 5 ∧ o_X5_isFor N S (za (cP S (za (cR S 6 (za x0))) x3.toNatClampNeg)) x1) ∧ (((f_X5_isFor N S (za (cP S (za (cR S 6 (za x0))) x3.toNatClampNeg)) x1) = 0 → O_X8_decisionsFor_37 N rok x0 x1 x2 x3 S) ∧ (¬ (f_X5_isFor N S (za (cP S (za (cR S 6 (za x0))) x3.toNatClampNeg)) x1) = 0 → O_X8_decisionsFor_37 N rok x0 x1 (x2 + nI 1) x3 S))))))
set_option maxRecDepth 100000 in
set_option maxHeartbeats 4000000 in
theorem bb_X8_decisionsFor_4 {G : zG} {o : cO} {S : cS} {N : Nat} {Q : Option Value → cS → Prop} {X : Nat × Int32 × Unit → Prop} (hG : zOK G) (hX0 : ∀ (x2 : Int32) , X (0, x2, ()) → cX G o dX8_decisionsFor mX8_decisionsFor 43 [none, none, some (.int x2), none] [] S Q) {rec : Option Nat → Option Nat → Int32 → Int32 → Nat × Int32 × Unit} {rok : Option Nat → Option Nat → Int32 → Int32 → Prop} (hrec : ∀ (x0 : Option Nat) (x1 : Option Nat) (x2 : Int32) (x3 : Int32), rok x0 x1 x2 x3 → X (rec x0 x1 x2 x3) → cX G o dX8_decisionsFor mX8_decisionsFor 4 [some (va_rf x0), some (va_rf x1), some (.int x2), some (.int x3)] [] S Q) {x0 : Option Nat} {x1 : Option Nat} {x2 : Int32} {x3 : Int32} (ok : OB_X8_decisionsFor_4 N rok x0 x1 x2 x3 S) (hx : X (B_X8_decisionsFor_4 N rec x0 x1 x2 x3 S)) : cX G o dX8_decisionsFor mX8_decisionsFor 4 [some (va_rf x0), some (va_rf x1), some (.int x2), some (.int x3)] [] S Q := by
  unfold OB_X8_decisionsFor_4 at ok
  unfold B_X8_decisionsFor_4 at hx
  refine c_iload_n dX8_decisionsFor_4 rfl rfl ?_
  refine c_aload_nQ dX8_decisionsFor_5 rfl rfl ?_
  refine c_getI (C := RX8) (T := TX8) (N := 14) (ci := 6) (k := 1) ⟨rfl, inT8, by decide, fX8_32⟩ (by decide) (by decide) (by decide) dX8_decisionsFor_6 ok.1 ?_
  have ok := ok.2
  refine c_icmp_ge (tgt := 43) dX8_decisionsFor_9 (by decide) (fun c_9 => ?_) (fun c_9 => ?_)
  · have ok := ok.1 c_9
    have hx := xif_p c_9 hx
    exact cX.cutz (hX0 _  hx) ⟨rfl, trivial⟩
  · have ok := ok.2 c_9
    have hx := xif_n c_9 hx
    refine c_aload_nQ dX8_decisionsFor_12 rfl rfl ?_
    refine c_getR (C := RX8) (T := TX8) (N := 14) (ci := 6) (k := 6) ⟨rfl, inT8, by decide, fX8_39⟩ (by decide) (by decide) (by decide) dX8_decisionsFor_13 ok.1 ?_
    have ok := ok.2
    refine c_iload_n dX8_decisionsFor_16 rfl rfl ?_
    refine c_aald (t := 4) (ty := (.object "QuorumLedger$Message")) rfl rfl (by decide) dX8_decisionsFor_17 ok.1 ?_
    have ok := ok.2
    refine c_ifnullI (tgt := 37) dX8_decisionsFor_18 (by decide) (fun c_18 => ?_) (fun c_18 => ?_)
    · have ok := ok.1 c_18
      have hx := xif_p c_18 hx
      exact cX.cutz (b_X8_decisionsFor_37 hG hX0 hrec ok hx) ⟨rfl, rfl, rfl, rfl, trivial⟩
    · have ok := ok.2 c_18
      have hx := xif_n c_18 hx
      refine c_aload_nQ dX8_decisionsFor_21 rfl rfl ?_
      refine c_getR (C := RX8) (T := TX8) (N := 14) (ci := 6) (k := 6) ⟨rfl, inT8, by decide, fX8_39⟩ (by decide) (by decide) (by decide) dX8_decisionsFor_22 ok.1 ?_
      have ok := ok.2
      refine c_iload_n dX8_decisionsFor_25 rfl rfl ?_
      refine c_aald (t := 4) (ty := (.object "QuorumLedger$Message")) rfl rfl (by decide) dX8_decisionsFor_26 ok.1 ?_
      have ok := ok.2
      refine c_aload_nQ dX8_decisionsFor_27 rfl rfl ?_
      refine c_V1iE (ci := 4) (rr := (RX5, TX5, 7)) (y' := mX5_isFor) dX8_decisionsFor_28 lX8_84 kX5_isFor ⟨by decide, by decide⟩ rfl rfl (by decide) ok.1.1 (Nat.le_of_ble_eq_true rfl) (cc_X5_isFor hG ok.1.2) ?_
      have ok := ok.2
      refine c_if_eq (tgt := 37) dX8_decisionsFor_31 (by decide) (fun c_31 => ?_) (fun c_31 => ?_)
      · have ok := ok.1 c_31
        have hx := xif_p c_31 hx
        exact cX.cutz (b_X8_decisionsFor_37 hG hX0 hrec ok hx) ⟨rfl, rfl, rfl, rfl, trivial⟩
      · have ok := ok.2 c_31
        have hx := xif_n c_31 hx
        refine c_iinc_2 (v := (x2 + nI 1)) dX8_decisionsFor_34 rfl (by first | rfl | (congr 1)) (by decide) (by simp [zok, zg, zcat_rf]) ?_
        exact cX.cutz (b_X8_decisionsFor_37 hG hX0 hrec ok hx) ⟨rfl, rfl, rfl, rfl, trivial⟩
def L_X8_decisionsFor_4 (N : Nat) : Nat → Option Nat → Option Nat → Int32 → Int32 → cS → Nat × Int32 × Unit
  | 0, x0, x1, x2, x3, S => (0, 0, ())
  | n + 1, x0, x1, x2, x3, S => B_X8_decisionsFor_4 N (fun x0 x1 x2 x3 => L_X8_decisionsFor_4 N n x0 x1 x2 x3 S) x0 x1 x2 x3 S
def OL_X8_decisionsFor_4 (N : Nat) : Nat → Option Nat → Option Nat → Int32 → Int32 → cS → Prop
  | 0, _, _, _, _, _ => False
  | n + 1, x0, x1, x2, x3, S => OB_X8_decisionsFor_4 N (fun x0 x1 x2 x3 => OL_X8_decisionsFor_4 N n x0 x1 x2 x3 S) x0 x1 x2 x3 S
set_option maxRecDepth 100000 in
set_option maxHeartbeats 4000000 in
theorem l_X8_decisionsFor_4 {G : zG} {o : cO} {S : cS} {N : Nat} {Q : Option Value → cS → Prop} {X : Nat × Int32 × Unit → Prop} (hG : zOK G) (hX0 : ∀ (x2 : Int32) , X (0, x2, ()) → cX G o dX8_decisionsFor mX8_decisionsFor 43 [none, none, some (.int x2), none] [] S Q) : ∀ (n : Nat) (x0 : Option Nat) (x1 : Option Nat) (x2 : Int32) (x3 : Int32) , OL_X8_decisionsFor_4 N n x0 x1 x2 x3 S → X (L_X8_decisionsFor_4 N n x0 x1 x2 x3 S) → cX G o dX8_decisionsFor mX8_decisionsFor 4 [some (va_rf x0), some (va_rf x1), some (.int x2), some (.int x3)] [] S Q := by
  intro n
  induction n with
  | zero => intro x0 x1 x2 x3 ok; exact absurd ok id
  | succ n ih =>
    intro x0 x1 x2 x3 ok hx
    exact bb_X8_decisionsFor_4 hG hX0 (rec := fun x0 x1 x2 x3 => L_X8_decisionsFor_4 N n x0 x1 x2 x3 S) (rok := fun x0 x1 x2 x3 => OL_X8_decisionsFor_4 N n x0 x1 x2 x3 S) (fun x0 x1 x2 x3 ok hx => ih x0 x1 x2 x3 ok hx) ok hx
def A_X8_decisionsFor_4 (N : Nat) (x0 : Option Nat) (x1 : Option Nat) (x2 : Int32) (x3 : Int32) (S : cS) (z : Nat × Int32 × Unit) : Int32 := (F_X8_decisionsFor_43 N (z.2.1) S)
def OA_X8_decisionsFor_4 (N : Nat) (x0 : Option Nat) (x1 : Option Nat) (x2 : Int32) (x3 : Int32) (S : cS) (z : Nat × Int32 × Unit) : Prop := O_X8_decisionsFor_43 N (z.2.1) S
set_option maxRecDepth 100000 in
set_option maxHeartbeats 4000000 in
theorem c_X8_decisionsFor_4 {G : zG} {o : cO} {S : cS} {N : Nat} {Q : Option Value → cS → Prop} {X : Int32 → Prop} (hG : zOK G) (hR : ∀ v, X v → Q (some (.int v)) S) {x0 : Option Nat} {x1 : Option Nat} {x2 : Int32} {x3 : Int32} (ok : OL_X8_decisionsFor_4 N N x0 x1 x2 x3 S ∧ OA_X8_decisionsFor_4 N x0 x1 x2 x3 S (L_X8_decisionsFor_4 N N x0 x1 x2 x3 S)) (hx : X (A_X8_decisionsFor_4 N x0 x1 x2 x3 S (L_X8_decisionsFor_4 N N x0 x1 x2 x3 S))) : cX G o dX8_decisionsFor mX8_decisionsFor 4 [some (va_rf x0), some (va_rf x1), some (.int x2), some (.int x3)] [] S Q := by
  refine l_X8_decisionsFor_4 hG ?_ N x0 x1 x2 x3 ok.1 (X := fun z => OA_X8_decisionsFor_4 N x0 x1 x2 x3 S z ∧ X (A_X8_decisionsFor_4 N x0 x1 x2 x3 S z)) ⟨ok.2, hx⟩
  · intro x2' hz
    obtain ⟨ok, hx⟩ := hz
    unfold OA_X8_decisionsFor_4 at ok
    unfold A_X8_decisionsFor_4 at hx
    exact cX.cutz (b_X8_decisionsFor_43 hG hR ok hx) ⟨rfl, trivial⟩
def F_X8_decisionsFor_0 (N : Nat) (x0 : Option Nat) (x1 : Option Nat) (S : cS) : Int32 := (A_X8_decisionsFor_4 N x0 x1 (nI 0) (nI 0) S (L_X8_decisionsFor_4 N N x0 x1 (nI 0) (nI 0) S))
def O_X8_decisionsFor_0 (N : Nat) (x0 : Option Nat) (x1 : Option Nat) (S : cS) : Prop := (OL_X8_decisionsFor_4 N N x0 x1 (nI 0) (nI 0) S ∧ OA_X8_decisionsFor_4 N x0 x1 (nI 0) (nI 0) S (L_X8_decisionsFor_4 N N x0 x1 (nI 0) (nI 0) S))
set_option maxRecDepth 100000 in
set_option maxHeartbeats 4000000 in
theorem b_X8_decisionsFor_0 {G : zG} {o : cO} {S : cS} {N : Nat} {Q : Option Value → cS → Prop} {X : Int32 → Prop} (hG : zOK G) (hR : ∀ v, X v → Q (some (.int v)) S) {x0 : Option Nat} {x1 : Option Nat} (ok : O_X8_decisionsFor_0 N x0 x1 S) (hx : X (F_X8_decisionsFor_0 N x0 x1 S)) : cX G o dX8_decisionsFor mX8_decisionsFor 0 [some (va_rf x0), some (va_rf x1), none, none] [] S Q := by
  unfold O_X8_decisionsFor_0 at ok
  unfold F_X8_decisionsFor_0 at hx
  refine c_iconst (v := nI 0) dX8_decisionsFor_0 (by decide) ?_
  refine c_istore_2 dX8_decisionsFor_1 (by decide) (by simp [zok, zg, zcat_rf]) ?_
  refine c_iconst (v := nI 0) dX8_decisionsFor_2 (by decide) ?_
  refine c_istore_3 dX8_decisionsFor_3 (by decide) rfl ?_
  exact cX.cutz (c_X8_decisionsFor_4 hG hR ok hx) ⟨rfl, rfl, rfl, rfl, trivial⟩
def f_X8_decisionsFor (N : Nat) (S : cS) (a0 : Nat) (x1 : Option Nat) : Int32 := F_X8_decisionsFor_0 N (some a0) x1 S
def o_X8_decisionsFor (N : Nat) (S : cS) (a0 : Nat) (x1 : Option Nat) : Prop := O_X8_decisionsFor_0 N (some a0) x1 S
set_option maxRecDepth 100000 in
set_option maxHeartbeats 4000000 in
theorem cc_X8_decisionsFor {G : zG} {o : cO} {S : cS} {N : Nat} (hG : zOK G) {a0 : Nat} {x1 : Option Nat} (ok : o_X8_decisionsFor N S a0 x1) : cCi G o dX8_decisionsFor mX8_decisionsFor [.ref a0, va_rf x1] S (fun v S' => v = f_X8_decisionsFor N S a0 x1 ∧ S' = S) := by
  refine cC.ofX rfl (by cases x1 <;> exact Nat.le_of_ble_eq_true rfl) ?_
  rw [show zargs mX8_decisionsFor.2.2.1 [.ref a0, va_rf x1] = [some (.ref a0), some (va_rf x1), none, none] from by cases x1 <;> rfl]
  exact cX.cutz (b_X8_decisionsFor_0 (X := fun F => F = f_X8_decisionsFor N S a0 x1) hG (fun v h => ⟨v, rfl, h, rfl⟩) ok rfl) ⟨rfl, rfl, trivial⟩
/-! X7_isValid -/
def F_X7_isValid_91 (N : Nat) (s0 : Int32) (S : cS) : Int32 × cS := (s0, S)
def O_X7_isValid_91 (N : Nat) (s0 : Int32) (S : cS) : Prop := narrow .boolean (.int s0) = .int s0
set_option maxRecDepth 100000 in
set_option maxHeartbeats 4000000 in
theorem b_X7_isValid_91 {G : zG} {o : cO} {S : cS} {N : Nat} {Q : Option Value → cS → Prop} {X : Int32 × cS → Prop} (hG : zOK G) (hR : ∀ v S', X (v, S') → Q (some (.int v)) S') {s0 : Int32} (ok : O_X7_isValid_91 N s0 S) (hx : X (F_X7_isValid_91 N s0 S)) : cX G o dX7_isValid mX7_isValid 91 [none, none, none] [.int s0] S Q := by
  unfold O_X7_isValid_91 at ok
  unfold F_X7_isValid_91 at hx
  exact c_ireturn rfl ok dX7_isValid_91 (hR _ _ hx)
def F_X7_isValid_72 (N : Nat) (x0 : Option Nat) (x1 : Option Nat) (x2 : Int32) (S : cS) : Int32 × cS := (F_X7_isValid_91 N ((f_X0_play N S (za (cR S 8 (za (cR S 0 (za x0))))) (cR S 0 (za x1)) x2 (cI S 2 (za x1))).1) (f_X0_play N S (za (cR S 8 (za (cR S 0 (za x0))))) (cR S 0 (za x1)) x2 (cI S 2 (za x1))).2)
def O_X7_isValid_72 (N : Nat) (x0 : Option Nat) (x1 : Option Nat) (x2 : Int32) (S : cS) : Prop := (cis S x0 6) ∧ (cis S (cR S 0 (za x0)) 9) ∧ (cis S x1 5) ∧ (cis S x1 5) ∧ (cis S (cR S 8 (za (cR S 0 (za x0)))) 1 ∧ o_X0_play N S (za (cR S 8 (za (cR S 0 (za x0))))) (cR S 0 (za x1)) x2 (cI S 2 (za x1))) ∧ O_X7_isValid_91 N ((f_X0_play N S (za (cR S 8 (za (cR S 0 (za x0))))) (cR S 0 (za x1)) x2 (cI S 2 (za x1))).1) (f_X0_play N S (za (cR S 8 (za (cR S 0 (za x0))))) (cR S 0 (za x1)) x2 (cI S 2 (za x1))).2
set_option maxRecDepth 100000 in
set_option maxHeartbeats 4000000 in
theorem b_X7_isValid_72 {G : zG} {o : cO} {S : cS} {N : Nat} {Q : Option Value → cS → Prop} {X : Int32 × cS → Prop} (hG : zOK G) (hR : ∀ v S', X (v, S') → Q (some (.int v)) S') {x0 : Option Nat} {x1 : Option Nat} {x2 : Int32} (ok : O_X7_isValid_72 N x0 x1 x2 S) (hx : X (F_X7_isValid_72 N x0 x1 x2 S)) : cX G o dX7_isValid mX7_isValid 72 [some (va_rf x0), some (va_rf x1), some (.int x2)] [] S Q := by
  unfold O_X7_isValid_72 at ok
  unfold F_X7_isValid_72 at hx
  refine c_aload_nQ dX7_isValid_72 rfl rfl ?_
  refine c_getR (C := RX6) (T := TX6) (N := 19) (ci := 5) (k := 0) ⟨rfl, inT6, by decide, fX7_26⟩ (by decide) (by decide) (by decide) dX7_isValid_73 ok.1 ?_
  have ok := ok.2
  refine c_getR (C := RX10) (T := TX10) (N := 12) (ci := 8) (k := 8) ⟨rfl, inT10, by decide, fX7_338⟩ (by decide) (by decide) (by decide) dX7_isValid_76 ok.1 ?_
  have ok := ok.2
  refine c_aload_nQ dX7_isValid_79 rfl rfl ?_
  refine c_getR (C := RX5) (T := TX5) (N := 7) (ci := 4) (k := 0) ⟨rfl, inT5, by decide, fX7_123⟩ (by decide) (by decide) (by decide) dX7_isValid_80 ok.1 ?_
  have ok := ok.2
  refine c_iload_n dX7_isValid_83 rfl rfl ?_
  refine c_aload_nQ dX7_isValid_84 rfl rfl ?_
  refine c_getI (C := RX5) (T := TX5) (N := 7) (ci := 4) (k := 2) ⟨rfl, inT5, by decide, fX7_187⟩ (by decide) (by decide) (by decide) dX7_isValid_85 ok.1 ?_
  have ok := ok.2
  refine c_V3iE (ci := 0) (rr := (RX0, TX0, 6)) (y' := mX0_play) dX7_isValid_88 lX7_194 kX0_play ⟨by decide, by decide⟩ rfl rfl (by decide) ok.1.1 (Nat.le_of_ble_eq_true rfl) (cc_X0_play hG ok.1.2) ?_
  have ok := ok.2
  exact cX.cutz (b_X7_isValid_91 hG hR ok hx) trivial
def F_X7_isValid_56 (N : Nat)  (S : cS) : Int32 × cS := ((nI 0), S)
def O_X7_isValid_56 (N : Nat)  (S : cS) : Prop := True
set_option maxRecDepth 100000 in
set_option maxHeartbeats 4000000 in
theorem b_X7_isValid_56 {G : zG} {o : cO} {S : cS} {N : Nat} {Q : Option Value → cS → Prop} {X : Int32 × cS → Prop} (hG : zOK G) (hR : ∀ v S', X (v, S') → Q (some (.int v)) S') (ok : O_X7_isValid_56 N S) (hx : X (F_X7_isValid_56 N S)) : cX G o dX7_isValid mX7_isValid 56 [none, none, none] [] S Q := by
  unfold O_X7_isValid_56 at ok
  unfold F_X7_isValid_56 at hx
  refine c_iconst (v := nI 0) dX7_isValid_56 (by decide) ?_
  exact c_ireturn rfl rfl dX7_isValid_57 (hR _ _ hx)
def F_X7_isValid_0 (N : Nat) (x0 : Option Nat) (x1 : Option Nat) (x2 : Int32) (S : cS) : Int32 × cS := (if (f_X5_two N S (za x1) x2) = (cI S 9 (za x0)) then (if (f_X11_sameBytes N S (cR S 0 (za x1)) (x2 + (nI 3)) (cR S 5 (za x0)) (nI 0) (nI 32)) = 0 then (F_X7_isValid_56 N S) else (if (f_X11_sameBytes N S (cR S 0 (za x1)) (x2 + (nI 35)) (cR S 3 (za (cR S 4 (za x0)))) (nI 0) (nI 32)) = 0 then (F_X7_isValid_56 N S) else (F_X7_isValid_72 N x0 x1 x2 (f_X0_mirror N S (za (cR S 8 (za (cR S 0 (za x0))))) (cR S 4 (za x0)))))) else (F_X7_isValid_56 N S))
def O_X7_isValid_0 (N : Nat) (x0 : Option Nat) (x1 : Option Nat) (x2 : Int32) (S : cS) : Prop := (cis S x1 5 ∧ o_X5_two N S (za x1) x2) ∧ (cis S x0 6) ∧ (((f_X5_two N S (za x1) x2) = (cI S 9 (za x0)) → (cis S x1 5) ∧ (cis S x0 6) ∧ (o_X11_sameBytes N S (cR S 0 (za x1)) (x2 + (nI 3)) (cR S 5 (za x0)) (nI 0) (nI 32)) ∧ (((f_X11_sameBytes N S (cR S 0 (za x1)) (x2 + (nI 3)) (cR S 5 (za x0)) (nI 0) (nI 32)) = 0 → O_X7_isValid_56 N S) ∧ (¬ (f_X11_sameBytes N S (cR S 0 (za x1)) (x2 + (nI 3)) (cR S 5 (za x0)) (nI 0) (nI 32)) = 0 → (cis S x1 5) ∧ (cis S x0 6) ∧ (cis S (cR S 4 (za x0)) 1) ∧ (o_X11_sameBytes N S (cR S 0 (za x1)) (x2 + (nI 35)) (cR S 3 (za (cR S 4 (za x0)))) (nI 0) (nI 32)) ∧ (((f_X11_sameBytes N S (cR S 0 (za x1)) (x2 + (nI 35)) (cR S 3 (za (cR S 4 (za x0)))) (nI 0) (nI 32)) = 0 → O_X7_isValid_56 N S) ∧ (¬ (f_X11_sameBytes N S (cR S 0 (za x1)) (x2 + (nI 35)) (cR S 3 (za (cR S 4 (za x0)))) (nI 0) (nI 32)) = 0 → (cis S x0 6) ∧ (cis S (cR S 0 (za x0)) 9) ∧ (cis S x0 6) ∧ (cis S (cR S 8 (za (cR S 0 (za x0)))) 1 ∧ o_X0_mirror N S (za (cR S 8 (za (cR S 0 (za x0))))) (cR S 4 (za x0))) ∧ O_X7_isValid_72 N x0 x1 x2 (f_X0_mirror N S (za (cR S 8 (za (cR S 0 (za x0))))) (cR S 4 (za x0)))))))) ∧ (¬ (f_X5_two N S (za x1) x2) = (cI S 9 (za x0)) → O_X7_isValid_56 N S))
set_option maxRecDepth 100000 in
set_option maxHeartbeats 4000000 in
theorem b_X7_isValid_0 {G : zG} {o : cO} {S : cS} {N : Nat} {Q : Option Value → cS → Prop} {X : Int32 × cS → Prop} (hG : zOK G) (hR : ∀ v S', X (v, S') → Q (some (.int v)) S') {x0 : Option Nat} {x1 : Option Nat} {x2 : Int32} (ok : O_X7_isValid_0 N x0 x1 x2 S) (hx : X (F_X7_isValid_0 N x0 x1 x2 S)) : cX G o dX7_isValid mX7_isValid 0 [some (va_rf x0), some (va_rf x1), some (.int x2)] [] S Q := by
  unfold O_X7_isValid_0 at ok
  unfold F_X7_isValid_0 at hx
  refine c_aload_nQ dX7_isValid_0 rfl rfl ?_
  refine c_iload_n dX7_isValid_1 rfl rfl ?_
  refine c_V1iE (ci := 4) (rr := (RX5, TX5, 7)) (y' := mX5_two) dX7_isValid_2 lX7_93 kX5_two ⟨by decide, by decide⟩ rfl rfl (by decide) ok.1.1 (Nat.le_of_ble_eq_true rfl) (cc_X5_two hG ok.1.2) ?_
  have ok := ok.2
  refine c_aload_nQ dX7_isValid_5 rfl rfl ?_
  refine c_getI (C := RX6) (T := TX6) (N := 19) (ci := 5) (k := 9) ⟨rfl, inT6, by decide, fX7_18⟩ (by decide) (by decide) (by decide) dX7_isValid_6 ok.1 ?_
  have ok := ok.2
  refine c_icmp_ne (tgt := 56) dX7_isValid_9 (by decide) (fun c_9 => ?_) (fun c_9 => ?_)
  · have ok := ok.2 c_9
    have hx := xif_n c_9 hx
    exact cX.cutz (b_X7_isValid_56 hG hR ok hx) trivial
  · have ok := ok.1 c_9
    have hx := xif_p c_9 hx
    refine c_aload_nQ dX7_isValid_12 rfl rfl ?_
    refine c_getR (C := RX5) (T := TX5) (N := 7) (ci := 4) (k := 0) ⟨rfl, inT5, by decide, fX7_123⟩ (by decide) (by decide) (by decide) dX7_isValid_13 ok.1 ?_
    have ok := ok.2
    refine c_iload_n dX7_isValid_16 rfl rfl ?_
    refine c_iconst (v := nI 3) dX7_isValid_17 (by decide) ?_
    refine c_iadd dX7_isValid_18 ?_
    refine c_aload_nQ dX7_isValid_19 rfl rfl ?_
    refine c_getR (C := RX6) (T := TX6) (N := 19) (ci := 5) (k := 5) ⟨rfl, inT6, by decide, fX7_127⟩ (by decide) (by decide) (by decide) dX7_isValid_20 ok.1 ?_
    have ok := ok.2
    refine c_iconst (v := nI 0) dX7_isValid_23 (by decide) ?_
    refine c_bipush (v := nI 32) dX7_isValid_24 (by decide) ?_
    refine c_SN5iE (y' := mX11_sameBytes) dX7_isValid_26 lX7_401 kX11_sameBytes ⟨by decide, by decide⟩ (Nat.le_of_ble_eq_true rfl) (cc_X11_sameBytes hG ok.1) ?_
    have ok := ok.2
    refine c_if_eq (tgt := 56) dX7_isValid_29 (by decide) (fun c_29 => ?_) (fun c_29 => ?_)
    · have ok := ok.1 c_29
      have hx := xif_p c_29 hx
      exact cX.cutz (b_X7_isValid_56 hG hR ok hx) trivial
    · have ok := ok.2 c_29
      have hx := xif_n c_29 hx
      refine c_aload_nQ dX7_isValid_32 rfl rfl ?_
      refine c_getR (C := RX5) (T := TX5) (N := 7) (ci := 4) (k := 0) ⟨rfl, inT5, by decide, fX7_123⟩ (by decide) (by decide) (by decide) dX7_isValid_33 ok.1 ?_
      have ok := ok.2
      refine c_iload_n dX7_isValid_36 rfl rfl ?_
      refine c_bipush (v := nI 35) dX7_isValid_37 (by decide) ?_
      refine c_iadd dX7_isValid_39 ?_
      refine c_aload_nQ dX7_isValid_40 rfl rfl ?_
      refine c_getR (C := RX6) (T := TX6) (N := 19) (ci := 5) (k := 4) ⟨rfl, inT6, by decide, fX7_22⟩ (by decide) (by decide) (by decide) dX7_isValid_41 ok.1 ?_
      have ok := ok.2
      refine c_getR (C := RX0) (T := TX0) (N := 6) (ci := 0) (k := 3) ⟨rfl, inT0, by decide, fX7_335⟩ (by decide) (by decide) (by decide) dX7_isValid_44 ok.1 ?_
      have ok := ok.2
      refine c_iconst (v := nI 0) dX7_isValid_47 (by decide) ?_
      refine c_bipush (v := nI 32) dX7_isValid_48 (by decide) ?_
      refine c_SN5iE (y' := mX11_sameBytes) dX7_isValid_50 lX7_401 kX11_sameBytes ⟨by decide, by decide⟩ (Nat.le_of_ble_eq_true rfl) (cc_X11_sameBytes hG ok.1) ?_
      have ok := ok.2
      refine c_if_ne (tgt := 58) dX7_isValid_53 (by decide) (fun c_53 => ?_) (fun c_53 => ?_)
      · have ok := ok.2 c_53
        have hx := xif_n c_53 hx
        refine c_aload_nQ dX7_isValid_58 rfl rfl ?_
        refine c_getR (C := RX6) (T := TX6) (N := 19) (ci := 5) (k := 0) ⟨rfl, inT6, by decide, fX7_26⟩ (by decide) (by decide) (by decide) dX7_isValid_59 ok.1 ?_
        have ok := ok.2
        refine c_getR (C := RX10) (T := TX10) (N := 12) (ci := 8) (k := 8) ⟨rfl, inT10, by decide, fX7_338⟩ (by decide) (by decide) (by decide) dX7_isValid_62 ok.1 ?_
        have ok := ok.2
        refine c_aload_nQ dX7_isValid_65 rfl rfl ?_
        refine c_getR (C := RX6) (T := TX6) (N := 19) (ci := 5) (k := 4) ⟨rfl, inT6, by decide, fX7_22⟩ (by decide) (by decide) (by decide) dX7_isValid_66 ok.1 ?_
        have ok := ok.2
        refine c_V1vE (ci := 0) (rr := (RX0, TX0, 6)) (y' := mX0_mirror) dX7_isValid_69 lX7_341 kX0_mirror ⟨by decide, by decide⟩ rfl rfl (by decide) ok.1.1 (Nat.le_of_ble_eq_true rfl) (cc_X0_mirror hG ok.1.2) ?_
        have ok := ok.2
        exact cX.cutz (b_X7_isValid_72 hG hR ok hx) ⟨rfl, rfl, rfl, trivial⟩
      · have ok := ok.1 c_53
        have hx := xif_p c_53 hx
        exact cX.cutz (b_X7_isValid_56 hG hR ok hx) trivial
def f_X7_isValid (N : Nat) (S : cS) (x0 : Option Nat) (x1 : Option Nat) (x2 : Int32) : Int32 × cS := F_X7_isValid_0 N x0 x1 x2 S
def o_X7_isValid (N : Nat) (S : cS) (x0 : Option Nat) (x1 : Option Nat) (x2 : Int32) : Prop := O_X7_isValid_0 N x0 x1 x2 S
set_option maxRecDepth 100000 in
set_option maxHeartbeats 4000000 in
theorem cc_X7_isValid {G : zG} {o : cO} {S : cS} {N : Nat} (hG : zOK G) {x0 : Option Nat} {x1 : Option Nat} {x2 : Int32} (ok : o_X7_isValid N S x0 x1 x2) : cCi G o dX7_isValid mX7_isValid [va_rf x0, va_rf x1, .int x2] S (fun v S' => v = (f_X7_isValid N S x0 x1 x2).1 ∧ S' = (f_X7_isValid N S x0 x1 x2).2) := by
  refine cC.ofX rfl (by cases x0 <;> cases x1 <;> exact Nat.le_of_ble_eq_true rfl) ?_
  rw [show zargs mX7_isValid.2.2.1 [va_rf x0, va_rf x1, .int x2] = [some (va_rf x0), some (va_rf x1), some (.int x2)] from by cases x0 <;> cases x1 <;> rfl]
  exact cX.cutz (b_X7_isValid_0 (X := fun F => F = f_X7_isValid N S x0 x1 x2) hG (fun v S' h => ⟨v, rfl, by rw [← h], by rw [← h]⟩) ok rfl) ⟨rfl, rfl, rfl, trivial⟩
/-! X8_removePayment -/
def F_X8_removePayment_43 (N : Nat)  (S : cS) : cS := S
def O_X8_removePayment_43 (N : Nat)  (S : cS) : Prop := True
set_option maxRecDepth 100000 in
set_option maxHeartbeats 4000000 in
theorem b_X8_removePayment_43 {G : zG} {o : cO} {S : cS} {N : Nat} {Q : Option Value → cS → Prop} {X : cS → Prop} (hG : zOK G) (hR : ∀ S', X S' → Q none S') (ok : O_X8_removePayment_43 N S) (hx : X (F_X8_removePayment_43 N S)) : cX G o dX8_removePayment mX8_removePayment 43 [none, none, none, none] [] S Q := by
  unfold O_X8_removePayment_43 at ok
  unfold F_X8_removePayment_43 at hx
  exact c_return rfl dX8_removePayment_43 (hR _ hx)
def F_X8_removePayment_33 (N : Nat) (x0 : Option Nat) (S : cS) : cS := (F_X8_removePayment_43 N (csI S 12 (za x0) ((cI S 12 (za x0)) - (nI 1))))
def O_X8_removePayment_33 (N : Nat) (x0 : Option Nat) (S : cS) : Prop := (cis S x0 7) ∧ (cis S x0 7) ∧ O_X8_removePayment_43 N (csI S 12 (za x0) ((cI S 12 (za x0)) - (nI 1)))
set_option maxRecDepth 100000 in
set_option maxHeartbeats 4000000 in
theorem b_X8_removePayment_33 {G : zG} {o : cO} {S : cS} {N : Nat} {Q : Option Value → cS → Prop} {X : cS → Prop} (hG : zOK G) (hR : ∀ S', X S' → Q none S') {x0 : Option Nat} (ok : O_X8_removePayment_33 N x0 S) (hx : X (F_X8_removePayment_33 N x0 S)) : cX G o dX8_removePayment mX8_removePayment 33 [some (va_rf x0), none, none, none] [] S Q := by
  unfold O_X8_removePayment_33 at ok
  unfold F_X8_removePayment_33 at hx
  refine c_aload_nQ dX8_removePayment_33 rfl rfl ?_
  refine c_dup dX8_removePayment_34 (zcat_rf _) ?_
  refine c_getI (C := RX8) (T := TX8) (N := 14) (ci := 6) (k := 12) ⟨rfl, inT8, by decide, fX8_108⟩ (by decide) (by decide) (by decide) dX8_removePayment_35 ok.1 ?_
  have ok := ok.2
  refine c_iconst (v := nI 1) dX8_removePayment_38 (by decide) ?_
  refine c_isub dX8_removePayment_39 ?_
  refine c_putI (C := RX8) (T := TX8) (N := 14) (ci := 6) (k := 12) ⟨rfl, inT8, by decide, fX8_108⟩ ftT8 rfl (by decide) (by decide) (by decide) rfl rfl dX8_removePayment_40 ok.1 ?_
  have ok := ok.2
  exact cX.cutz (b_X8_removePayment_43 hG hR ok hx) trivial
def F_X8_removePayment_0 (N : Nat) (x0 : Option Nat) (x1 : Int64) (S : cS) : cS := (if (f_X8_find N S (za x0) x1) < 0 then (F_X8_removePayment_43 N S) else (F_X8_removePayment_33 N x0 (csJrow S (za (cR S 10 (za x0))) (va_cpy (cJ S (za (cR S 10 (za x0)))) (cJ S (za (cR S 10 (za x0)))) ((f_X8_find N S (za x0) x1) + (nI 1)).toNatClampNeg (f_X8_find N S (za x0) x1).toNatClampNeg (((cI S 12 (za x0)) - (f_X8_find N S (za x0) x1)) - (nI 1)).toNatClampNeg))))
def O_X8_removePayment_0 (N : Nat) (x0 : Option Nat) (x1 : Int64) (S : cS) : Prop := (cis S x0 7 ∧ o_X8_find N S (za x0) x1) ∧ (((f_X8_find N S (za x0) x1) < 0 → O_X8_removePayment_43 N S) ∧ (¬ (f_X8_find N S (za x0) x1) < 0 → (cis S x0 7) ∧ (cis S x0 7) ∧ (cis S x0 7) ∧ (cis S (cR S 10 (za x0)) 22 ∧ cis S (cR S 10 (za x0)) 22 ∧ (¬ ((f_X8_find N S (za x0) x1) + (nI 1)) < 0 ∧ ¬ (f_X8_find N S (za x0) x1) < 0 ∧ ¬ (((cI S 12 (za x0)) - (f_X8_find N S (za x0) x1)) - (nI 1)) < 0) ∧ ((f_X8_find N S (za x0) x1) + (nI 1)).toNatClampNeg + (((cI S 12 (za x0)) - (f_X8_find N S (za x0) x1)) - (nI 1)).toNatClampNeg ≤ cL S (za (cR S 10 (za x0))) ∧ (f_X8_find N S (za x0) x1).toNatClampNeg + (((cI S 12 (za x0)) - (f_X8_find N S (za x0) x1)) - (nI 1)).toNatClampNeg ≤ cL S (za (cR S 10 (za x0)))) ∧ O_X8_removePayment_33 N x0 (csJrow S (za (cR S 10 (za x0))) (va_cpy (cJ S (za (cR S 10 (za x0)))) (cJ S (za (cR S 10 (za x0)))) ((f_X8_find N S (za x0) x1) + (nI 1)).toNatClampNeg (f_X8_find N S (za x0) x1).toNatClampNeg (((cI S 12 (za x0)) - (f_X8_find N S (za x0) x1)) - (nI 1)).toNatClampNeg))))
set_option maxRecDepth 100000 in
set_option maxHeartbeats 4000000 in
theorem b_X8_removePayment_0 {G : zG} {o : cO} {S : cS} {N : Nat} {Q : Option Value → cS → Prop} {X : cS → Prop} (hG : zOK G) (hR : ∀ S', X S' → Q none S') {x0 : Option Nat} {x1 : Int64} (ok : O_X8_removePayment_0 N x0 x1 S) (hx : X (F_X8_removePayment_0 N x0 x1 S)) : cX G o dX8_removePayment mX8_removePayment 0 [some (va_rf x0), some (.long x1), none, none] [] S Q := by
  unfold O_X8_removePayment_0 at ok
  unfold F_X8_removePayment_0 at hx
  refine c_aload_nQ dX8_removePayment_0 rfl rfl ?_
  refine c_lload_n dX8_removePayment_1 rfl rfl ?_
  refine c_V1iE (ci := 6) (rr := (RX8, TX8, 14)) (y' := mX8_find) dX8_removePayment_2 lX8_111 kX8_find ⟨by decide, by decide⟩ rfl rfl (by decide) ok.1.1 (Nat.le_of_ble_eq_true rfl) (cc_X8_find hG ok.1.2) ?_
  have ok := ok.2
  refine c_istore_3 dX8_removePayment_5 (by decide) rfl ?_
  refine c_iload_n dX8_removePayment_6 rfl rfl ?_
  refine c_if_lt (tgt := 43) dX8_removePayment_7 (by decide) (fun c_7 => ?_) (fun c_7 => ?_)
  · have ok := ok.1 c_7
    have hx := xif_p c_7 hx
    exact cX.cutz (b_X8_removePayment_43 hG hR ok hx) trivial
  · have ok := ok.2 c_7
    have hx := xif_n c_7 hx
    refine c_aload_nQ dX8_removePayment_10 rfl rfl ?_
    refine c_getR (C := RX8) (T := TX8) (N := 14) (ci := 6) (k := 10) ⟨rfl, inT8, by decide, fX8_24⟩ (by decide) (by decide) (by decide) dX8_removePayment_11 ok.1 ?_
    have ok := ok.2
    refine c_iload_n dX8_removePayment_14 rfl rfl ?_
    refine c_iconst (v := nI 1) dX8_removePayment_15 (by decide) ?_
    refine c_iadd dX8_removePayment_16 ?_
    refine c_aload_nQ dX8_removePayment_17 rfl rfl ?_
    refine c_getR (C := RX8) (T := TX8) (N := 14) (ci := 6) (k := 10) ⟨rfl, inT8, by decide, fX8_24⟩ (by decide) (by decide) (by decide) dX8_removePayment_18 ok.1 ?_
    have ok := ok.2
    refine c_iload_n dX8_removePayment_21 rfl rfl ?_
    refine c_aload_nQ dX8_removePayment_22 rfl rfl ?_
    refine c_getI (C := RX8) (T := TX8) (N := 14) (ci := 6) (k := 12) ⟨rfl, inT8, by decide, fX8_108⟩ (by decide) (by decide) (by decide) dX8_removePayment_23 ok.1 ?_
    have ok := ok.2
    refine c_iload_n dX8_removePayment_26 rfl rfl ?_
    refine c_isub dX8_removePayment_27 ?_
    refine c_iconst (v := nI 1) dX8_removePayment_28 (by decide) ?_
    refine c_isub dX8_removePayment_29 ?_
    refine c_copy2 hG dX8_removePayment_30 qX8_115 (by decide) (by decide) ok.1 ?_
    have ok := ok.2
    exact cX.cutz (b_X8_removePayment_33 hG hR ok hx) ⟨rfl, trivial⟩
def f_X8_removePayment (N : Nat) (S : cS) (a0 : Nat) (x1 : Int64) : cS := F_X8_removePayment_0 N (some a0) x1 S
def o_X8_removePayment (N : Nat) (S : cS) (a0 : Nat) (x1 : Int64) : Prop := O_X8_removePayment_0 N (some a0) x1 S
set_option maxRecDepth 100000 in
set_option maxHeartbeats 4000000 in
theorem cc_X8_removePayment {G : zG} {o : cO} {S : cS} {N : Nat} (hG : zOK G) {a0 : Nat} {x1 : Int64} (ok : o_X8_removePayment N S a0 x1) : cCv G o dX8_removePayment mX8_removePayment [.ref a0, .long x1] S (fun S' => S' = f_X8_removePayment N S a0 x1) := by
  refine cC.ofX rfl (by exact Nat.le_of_ble_eq_true rfl) ?_
  show cX G o dX8_removePayment mX8_removePayment 0 [some (.ref a0), some (.long x1), none, none] [] S _
  exact cX.cutz (b_X8_removePayment_0 (X := fun F => F = f_X8_removePayment N S a0 x1) hG (fun S' h => ⟨rfl, h⟩) ok rfl) ⟨rfl, rfl, trivial⟩
/-! X7_adopt -/
def F_X7_adopt_116 (N : Nat) (x0 : Option Nat) (S : cS) : cS := (f_X6_enter N S (za x0) ((cI S 9 (za x0)) + (nI 1)))
def O_X7_adopt_116 (N : Nat) (x0 : Option Nat) (S : cS) : Prop := (cis S x0 6) ∧ (cis S x0 6 ∧ o_X6_enter N S (za x0) ((cI S 9 (za x0)) + (nI 1))) ∧ True
set_option maxRecDepth 100000 in
set_option maxHeartbeats 4000000 in
theorem b_X7_adopt_116 {G : zG} {o : cO} {S : cS} {N : Nat} {Q : Option Value → cS → Prop} {X : cS → Prop} (hG : zOK G) (hR : ∀ S', X S' → Q none S') {x0 : Option Nat} (ok : O_X7_adopt_116 N x0 S) (hx : X (F_X7_adopt_116 N x0 S)) : cX G o dX7_adopt mX7_adopt 116 [some (va_rf x0), none, none, none, none] [] S Q := by
  unfold O_X7_adopt_116 at ok
  unfold F_X7_adopt_116 at hx
  refine c_aload_nQ dX7_adopt_116 rfl rfl ?_
  refine c_aload_nQ dX7_adopt_117 rfl rfl ?_
  refine c_getI (C := RX6) (T := TX6) (N := 19) (ci := 5) (k := 9) ⟨rfl, inT6, by decide, fX7_18⟩ (by decide) (by decide) (by decide) dX7_adopt_118 ok.1 ?_
  have ok := ok.2
  refine c_iconst (v := nI 1) dX7_adopt_121 (by decide) ?_
  refine c_iadd dX7_adopt_122 ?_
  refine c_V1vE (ci := 5) (rr := (RX6, TX6, 19)) (y' := mX6_enter) dX7_adopt_123 lX7_144 kX6_enter ⟨by decide, by decide⟩ rfl rfl (by decide) ok.1.1 (Nat.le_of_ble_eq_true rfl) (cc_X6_enter hG ok.1.2) ?_
  have ok := ok.2
  exact c_return rfl dX7_adopt_126 (hR _ hx)
def F_X7_adopt_102 (N : Nat) (x0 : Option Nat) (S : cS) : cS := (F_X7_adopt_116 N x0 (f_X6_forgetAnswers N S (za x0) (cI S 9 (za x0)) ((cI S 9 (za x0)) + (nI 1))))
def O_X7_adopt_102 (N : Nat) (x0 : Option Nat) (S : cS) : Prop := (cis S x0 6) ∧ (cis S x0 6) ∧ (cis S x0 6 ∧ o_X6_forgetAnswers N S (za x0) (cI S 9 (za x0)) ((cI S 9 (za x0)) + (nI 1))) ∧ O_X7_adopt_116 N x0 (f_X6_forgetAnswers N S (za x0) (cI S 9 (za x0)) ((cI S 9 (za x0)) + (nI 1)))
set_option maxRecDepth 100000 in
set_option maxHeartbeats 4000000 in
theorem b_X7_adopt_102 {G : zG} {o : cO} {S : cS} {N : Nat} {Q : Option Value → cS → Prop} {X : cS → Prop} (hG : zOK G) (hR : ∀ S', X S' → Q none S') {x0 : Option Nat} (ok : O_X7_adopt_102 N x0 S) (hx : X (F_X7_adopt_102 N x0 S)) : cX G o dX7_adopt mX7_adopt 102 [some (va_rf x0), none, none, none, none] [] S Q := by
  unfold O_X7_adopt_102 at ok
  unfold F_X7_adopt_102 at hx
  refine c_aload_nQ dX7_adopt_102 rfl rfl ?_
  refine c_aload_nQ dX7_adopt_103 rfl rfl ?_
  refine c_getI (C := RX6) (T := TX6) (N := 19) (ci := 5) (k := 9) ⟨rfl, inT6, by decide, fX7_18⟩ (by decide) (by decide) (by decide) dX7_adopt_104 ok.1 ?_
  have ok := ok.2
  refine c_aload_nQ dX7_adopt_107 rfl rfl ?_
  refine c_getI (C := RX6) (T := TX6) (N := 19) (ci := 5) (k := 9) ⟨rfl, inT6, by decide, fX7_18⟩ (by decide) (by decide) (by decide) dX7_adopt_108 ok.1 ?_
  have ok := ok.2
  refine c_iconst (v := nI 1) dX7_adopt_111 (by decide) ?_
  refine c_iadd dX7_adopt_112 ?_
  refine c_V2vE (ci := 5) (rr := (RX6, TX6, 19)) (y' := mX6_forgetAnswers) dX7_adopt_113 lX7_140 kX6_forgetAnswers ⟨by decide, by decide⟩ rfl rfl (by decide) ok.1.1 (Nat.le_of_ble_eq_true rfl) (cc_X6_forgetAnswers hG ok.1.2) ?_
  have ok := ok.2
  exact cX.cutz (b_X7_adopt_116 hG hR ok hx) ⟨rfl, trivial⟩
def F_X7_adopt_96 (N : Nat) (rec : Option Nat → Option Nat → Int32 → Int32 → cS → Nat × Option Nat × cS) (x0 : Option Nat) (x1 : Option Nat) (x3 : Int32) (x4 : Int32) (S : cS) : Nat × Option Nat × cS := (rec x0 x1 x3 (x4 + nI 1) S)
def O_X7_adopt_96 (N : Nat) (rok : Option Nat → Option Nat → Int32 → Int32 → cS → Prop) (x0 : Option Nat) (x1 : Option Nat) (x3 : Int32) (x4 : Int32) (S : cS) : Prop := rok x0 x1 x3 (x4 + nI 1) S
set_option maxRecDepth 100000 in
set_option maxHeartbeats 4000000 in
theorem b_X7_adopt_96 {G : zG} {o : cO} {S : cS} {N : Nat} {Q : Option Value → cS → Prop} {X : Nat × Option Nat × cS → Prop} (hG : zOK G) (hX0 : ∀ (x0 : Option Nat) (S' : cS), X (0, x0, S') → cX G o dX7_adopt mX7_adopt 102 [some (va_rf x0), none, none, none, none] [] S' Q) {rec : Option Nat → Option Nat → Int32 → Int32 → cS → Nat × Option Nat × cS} {rok : Option Nat → Option Nat → Int32 → Int32 → cS → Prop} (hrec : ∀ (x0 : Option Nat) (x1 : Option Nat) (x3 : Int32) (x4 : Int32) (S : cS), rok x0 x1 x3 x4 S → X (rec x0 x1 x3 x4 S) → cX G o dX7_adopt mX7_adopt 66 [some (va_rf x0), some (va_rf x1), none, some (.int x3), some (.int x4)] [] S Q) {x0 : Option Nat} {x1 : Option Nat} {x3 : Int32} {x4 : Int32} (ok : O_X7_adopt_96 N rok x0 x1 x3 x4 S) (hx : X (F_X7_adopt_96 N rec x0 x1 x3 x4 S)) : cX G o dX7_adopt mX7_adopt 96 [some (va_rf x0), some (va_rf x1), none, some (.int x3), some (.int x4)] [] S Q := by
  unfold O_X7_adopt_96 at ok
  unfold F_X7_adopt_96 at hx
  refine c_iinc_4 (v := (x4 + nI 1)) dX7_adopt_96 rfl (by first | rfl | (congr 1)) (by decide) rfl ?_
  refine c_goto (tgt := 66) dX7_adopt_99 (by decide) ?_
  exact cX.cutz (hrec _ _ _ _ S ok hx) ⟨rfl, rfl, rfl, rfl, trivial⟩
def B_X7_adopt_66 (N : Nat) (rec : Option Nat → Option Nat → Int32 → Int32 → cS → Nat × Option Nat × cS) (x0 : Option Nat) (x1 : Option Nat) (x3 : Int32) (x4 : Int32) (S : cS) : Nat × Option Nat × cS := (if x3 < x4 then (0, x0, S) else (F_X7_adopt_96 N rec x0 x1 x3 x4 (f_X8_removePayment N S (za (cR S 3 (za x0))) (f_X0_codeAt N S (cR S 0 (za x1)) ((cI S 2 (za x1)) - (x4 * (nI 7)))))))
def OB_X7_adopt_66 (N : Nat) (rok : Option Nat → Option Nat → Int32 → Int32 → cS → Prop) (x0 : Option Nat) (x1 : Option Nat) (x3 : Int32) (x4 : Int32) (S : cS) : Prop := ((x3 < x4 → True) ∧ (¬ x3 < x4 → (cis S x0 6) ∧ (cis S x1 5) ∧ (cis S x1 5) ∧ (o_X0_codeAt N S (cR S 0 (za x1)) ((cI S 2 (za x1)) - (x4 * (nI 7)))) ∧ (cis S (cR S 3 (za x0)) 7 ∧ o_X8_removePayment N S (za (cR S 3 (za x0))) (f_X0_codeAt N S (cR S 0 (za x1)) ((cI S 2 (za x1)) - (x4 * (nI 7))))) ∧ O_X7_adopt_96 N rok x0 x1 x3 x4 (f_X8_removePayment N S (za (cR S 3 (za x0))) (f_X0_codeAt N S (cR S 0 (za x1)) ((cI S 2 (za x1)) - (x4 * (nI 7)))))))
set_option maxRecDepth 100000 in
set_option maxHeartbeats 4000000 in
theorem bb_X7_adopt_66 {G : zG} {o : cO} {S : cS} {N : Nat} {Q : Option Value → cS → Prop} {X : Nat × Option Nat × cS → Prop} (hG : zOK G) (hX0 : ∀ (x0 : Option Nat) (S' : cS), X (0, x0, S') → cX G o dX7_adopt mX7_adopt 102 [some (va_rf x0), none, none, none, none] [] S' Q) {rec : Option Nat → Option Nat → Int32 → Int32 → cS → Nat × Option Nat × cS} {rok : Option Nat → Option Nat → Int32 → Int32 → cS → Prop} (hrec : ∀ (x0 : Option Nat) (x1 : Option Nat) (x3 : Int32) (x4 : Int32) (S : cS), rok x0 x1 x3 x4 S → X (rec x0 x1 x3 x4 S) → cX G o dX7_adopt mX7_adopt 66 [some (va_rf x0), some (va_rf x1), none, some (.int x3), some (.int x4)] [] S Q) {x0 : Option Nat} {x1 : Option Nat} {x3 : Int32} {x4 : Int32} (ok : OB_X7_adopt_66 N rok x0 x1 x3 x4 S) (hx : X (B_X7_adopt_66 N rec x0 x1 x3 x4 S)) : cX G o dX7_adopt mX7_adopt 66 [some (va_rf x0), some (va_rf x1), none, some (.int x3), some (.int x4)] [] S Q := by
  unfold OB_X7_adopt_66 at ok
  unfold B_X7_adopt_66 at hx
  refine c_iload dX7_adopt_66 rfl ?_
  refine c_iload_n dX7_adopt_68 rfl rfl ?_
  refine c_icmp_gt (tgt := 102) dX7_adopt_69 (by decide) (fun c_69 => ?_) (fun c_69 => ?_)
  · have ok := ok.1 c_69
    have hx := xif_p c_69 hx
    exact cX.cutz (hX0 _ S hx) ⟨rfl, trivial⟩
  · have ok := ok.2 c_69
    have hx := xif_n c_69 hx
    refine c_aload_nQ dX7_adopt_72 rfl rfl ?_
    refine c_getR (C := RX6) (T := TX6) (N := 19) (ci := 5) (k := 3) ⟨rfl, inT6, by decide, fX7_80⟩ (by decide) (by decide) (by decide) dX7_adopt_73 ok.1 ?_
    have ok := ok.2
    refine c_aload_nQ dX7_adopt_76 rfl rfl ?_
    refine c_getR (C := RX5) (T := TX5) (N := 7) (ci := 4) (k := 0) ⟨rfl, inT5, by decide, fX7_123⟩ (by decide) (by decide) (by decide) dX7_adopt_77 ok.1 ?_
    have ok := ok.2
    refine c_aload_nQ dX7_adopt_80 rfl rfl ?_
    refine c_getI (C := RX5) (T := TX5) (N := 7) (ci := 4) (k := 2) ⟨rfl, inT5, by decide, fX7_187⟩ (by decide) (by decide) (by decide) dX7_adopt_81 ok.1 ?_
    have ok := ok.2
    refine c_iload dX7_adopt_84 rfl ?_
    refine c_bipush (v := nI 7) dX7_adopt_86 (by decide) ?_
    refine c_imul dX7_adopt_88 ?_
    refine c_isub dX7_adopt_89 ?_
    refine c_S2lE (y' := mX0_codeAt) dX7_adopt_90 lX7_205 kX0_codeAt ⟨by decide, by decide⟩ (by simp only [List.map_cons, List.map_nil, List.sum_cons, List.sum_nil, zcat_rf, zcat_i, zcat_l, zcat_r] <;> decide) (cc_X0_codeAt hG ok.1) ?_
    have ok := ok.2
    refine c_V1vE (ci := 6) (rr := (RX8, TX8, 14)) (y' := mX8_removePayment) dX7_adopt_93 lX7_209 kX8_removePayment ⟨by decide, by decide⟩ rfl rfl (by decide) ok.1.1 (Nat.le_of_ble_eq_true rfl) (cc_X8_removePayment hG ok.1.2) ?_
    have ok := ok.2
    exact cX.cutz (b_X7_adopt_96 hG hX0 hrec ok hx) ⟨rfl, rfl, rfl, rfl, trivial⟩
def L_X7_adopt_66 (N : Nat) : Nat → Option Nat → Option Nat → Int32 → Int32 → cS → Nat × Option Nat × cS
  | 0, x0, x1, x3, x4, S => (0, none, S)
  | n + 1, x0, x1, x3, x4, S => B_X7_adopt_66 N (L_X7_adopt_66 N n) x0 x1 x3 x4 S
def OL_X7_adopt_66 (N : Nat) : Nat → Option Nat → Option Nat → Int32 → Int32 → cS → Prop
  | 0, _, _, _, _, _ => False
  | n + 1, x0, x1, x3, x4, S => OB_X7_adopt_66 N (OL_X7_adopt_66 N n) x0 x1 x3 x4 S
set_option maxRecDepth 100000 in
set_option maxHeartbeats 4000000 in
theorem l_X7_adopt_66 {G : zG} {o : cO} {N : Nat} {Q : Option Value → cS → Prop} {X : Nat × Option Nat × cS → Prop} (hG : zOK G) (hX0 : ∀ (x0 : Option Nat) (S' : cS), X (0, x0, S') → cX G o dX7_adopt mX7_adopt 102 [some (va_rf x0), none, none, none, none] [] S' Q) : ∀ (n : Nat) (x0 : Option Nat) (x1 : Option Nat) (x3 : Int32) (x4 : Int32) (S : cS), OL_X7_adopt_66 N n x0 x1 x3 x4 S → X (L_X7_adopt_66 N n x0 x1 x3 x4 S) → cX G o dX7_adopt mX7_adopt 66 [some (va_rf x0), some (va_rf x1), none, some (.int x3), some (.int x4)] [] S Q := by
  intro n
  induction n with
  | zero => intro x0 x1 x3 x4 S ok; exact absurd ok id
  | succ n ih =>
    intro x0 x1 x3 x4 S ok hx
    exact bb_X7_adopt_66 hG hX0 (rec := L_X7_adopt_66 N n) (rok := OL_X7_adopt_66 N n) (fun x0 x1 x3 x4 S ok hx => ih x0 x1 x3 x4 S ok hx) ok hx
def A_X7_adopt_66 (N : Nat) (x0 : Option Nat) (x1 : Option Nat) (x3 : Int32) (x4 : Int32) (S : cS) (z : Nat × Option Nat × cS) : cS := (F_X7_adopt_102 N (z.2.1) z.2.2)
def OA_X7_adopt_66 (N : Nat) (x0 : Option Nat) (x1 : Option Nat) (x3 : Int32) (x4 : Int32) (S : cS) (z : Nat × Option Nat × cS) : Prop := O_X7_adopt_102 N (z.2.1) z.2.2
set_option maxRecDepth 100000 in
set_option maxHeartbeats 4000000 in
theorem c_X7_adopt_66 {G : zG} {o : cO} {S : cS} {N : Nat} {Q : Option Value → cS → Prop} {X : cS → Prop} (hG : zOK G) (hR : ∀ S', X S' → Q none S') {x0 : Option Nat} {x1 : Option Nat} {x3 : Int32} {x4 : Int32} (ok : OL_X7_adopt_66 N N x0 x1 x3 x4 S ∧ OA_X7_adopt_66 N x0 x1 x3 x4 S (L_X7_adopt_66 N N x0 x1 x3 x4 S)) (hx : X (A_X7_adopt_66 N x0 x1 x3 x4 S (L_X7_adopt_66 N N x0 x1 x3 x4 S))) : cX G o dX7_adopt mX7_adopt 66 [some (va_rf x0), some (va_rf x1), none, some (.int x3), some (.int x4)] [] S Q := by
  refine l_X7_adopt_66 hG ?_ N x0 x1 x3 x4 S ok.1 (X := fun z => OA_X7_adopt_66 N x0 x1 x3 x4 S z ∧ X (A_X7_adopt_66 N x0 x1 x3 x4 S z)) ⟨ok.2, hx⟩
  · intro x0' S' hz
    obtain ⟨ok, hx⟩ := hz
    unfold OA_X7_adopt_66 at ok
    unfold A_X7_adopt_66 at hx
    exact cX.cutz (b_X7_adopt_102 hG hR ok hx) ⟨rfl, trivial⟩
def F_X7_adopt_54 (N : Nat) (x0 : Option Nat) (x1 : Option Nat) (x2 : Int32) (S : cS) : cS := (A_X7_adopt_66 N x0 x1 (f_X5_at N S (za x1) (x2 + (nI 99))) (nI 1) S (L_X7_adopt_66 N N x0 x1 (f_X5_at N S (za x1) (x2 + (nI 99))) (nI 1) S))
def O_X7_adopt_54 (N : Nat) (x0 : Option Nat) (x1 : Option Nat) (x2 : Int32) (S : cS) : Prop := (cis S x1 5 ∧ o_X5_at N S (za x1) (x2 + (nI 99))) ∧ (OL_X7_adopt_66 N N x0 x1 (f_X5_at N S (za x1) (x2 + (nI 99))) (nI 1) S ∧ OA_X7_adopt_66 N x0 x1 (f_X5_at N S (za x1) (x2 + (nI 99))) (nI 1) S (L_X7_adopt_66 N N x0 x1 (f_X5_at N S (za x1) (x2 + (nI 99))) (nI 1) S))
set_option maxRecDepth 100000 in
set_option maxHeartbeats 4000000 in
theorem b_X7_adopt_54 {G : zG} {o : cO} {S : cS} {N : Nat} {Q : Option Value → cS → Prop} {X : cS → Prop} (hG : zOK G) (hR : ∀ S', X S' → Q none S') {x0 : Option Nat} {x1 : Option Nat} {x2 : Int32} (ok : O_X7_adopt_54 N x0 x1 x2 S) (hx : X (F_X7_adopt_54 N x0 x1 x2 S)) : cX G o dX7_adopt mX7_adopt 54 [some (va_rf x0), some (va_rf x1), some (.int x2), none, none] [] S Q := by
  unfold O_X7_adopt_54 at ok
  unfold F_X7_adopt_54 at hx
  refine c_aload_nQ dX7_adopt_54 rfl rfl ?_
  refine c_iload_n dX7_adopt_55 rfl rfl ?_
  refine c_bipush (v := nI 99) dX7_adopt_56 (by decide) ?_
  refine c_iadd dX7_adopt_58 ?_
  refine c_V1iE (ci := 4) (rr := (RX5, TX5, 7)) (y' := mX5_at) dX7_adopt_59 lX7_202 kX5_at ⟨by decide, by decide⟩ rfl rfl (by decide) ok.1.1 (Nat.le_of_ble_eq_true rfl) (cc_X5_at hG ok.1.2) ?_
  have ok := ok.2
  refine c_istore_3 dX7_adopt_62 (by decide) rfl ?_
  refine c_iconst (v := nI 1) dX7_adopt_63 (by decide) ?_
  refine c_istore_4 dX7_adopt_64 (by decide) rfl ?_
  exact cX.cutz (c_X7_adopt_66 hG hR ok hx) ⟨rfl, rfl, rfl, rfl, trivial⟩
def F_X7_adopt_44 (N : Nat) (x0 : Option Nat) (x1 : Option Nat) (x2 : Int32) (s0 : Int32) (S : cS) : cS := (F_X7_adopt_54 N x0 x1 x2 (f_X5_writeId N S (za x1) (cR S 5 (za x0)) (nI 0)))
def O_X7_adopt_44 (N : Nat) (x0 : Option Nat) (x1 : Option Nat) (x2 : Int32) (s0 : Int32) (S : cS) : Prop := (cis S x0 6) ∧ (cis S x1 5 ∧ o_X5_writeId N S (za x1) (cR S 5 (za x0)) (nI 0)) ∧ O_X7_adopt_54 N x0 x1 x2 (f_X5_writeId N S (za x1) (cR S 5 (za x0)) (nI 0))
set_option maxRecDepth 100000 in
set_option maxHeartbeats 4000000 in
theorem b_X7_adopt_44 {G : zG} {o : cO} {S : cS} {N : Nat} {Q : Option Value → cS → Prop} {X : cS → Prop} (hG : zOK G) (hR : ∀ S', X S' → Q none S') {x0 : Option Nat} {x1 : Option Nat} {x2 : Int32} {s0 : Int32} (ok : O_X7_adopt_44 N x0 x1 x2 s0 S) (hx : X (F_X7_adopt_44 N x0 x1 x2 s0 S)) : cX G o dX7_adopt mX7_adopt 44 [some (va_rf x0), some (va_rf x1), some (.int x2), none, none] [.int s0] S Q := by
  unfold O_X7_adopt_44 at ok
  unfold F_X7_adopt_44 at hx
  refine c_pop dX7_adopt_44 rfl ?_
  refine c_aload_nQ dX7_adopt_45 rfl rfl ?_
  refine c_aload_nQ dX7_adopt_46 rfl rfl ?_
  refine c_getR (C := RX6) (T := TX6) (N := 19) (ci := 5) (k := 5) ⟨rfl, inT6, by decide, fX7_127⟩ (by decide) (by decide) (by decide) dX7_adopt_47 ok.1 ?_
  have ok := ok.2
  refine c_iconst (v := nI 0) dX7_adopt_50 (by decide) ?_
  refine c_V2vE (ci := 4) (rr := (RX5, TX5, 7)) (y' := mX5_writeId) dX7_adopt_51 lX7_198 kX5_writeId ⟨by decide, by decide⟩ rfl rfl (by decide) ok.1.1 (Nat.le_of_ble_eq_true rfl) (cc_X5_writeId hG ok.1.2) ?_
  have ok := ok.2
  exact cX.cutz (b_X7_adopt_54 hG hR ok hx) ⟨rfl, rfl, rfl, trivial⟩
def F_X7_adopt_20 (N : Nat) (x0 : Option Nat) (x1 : Option Nat) (x2 : Int32) (s0 : Int32) (S : cS) : cS := (if s0 = 0 then (f_X6_fall N S (za x0)) else (F_X7_adopt_44 N x0 x1 x2 ((f_X0_play N S (za (cR S 4 (za x0))) (cR S 0 (za x1)) x2 (cI S 2 (za x1))).1) (f_X0_play N S (za (cR S 4 (za x0))) (cR S 0 (za x1)) x2 (cI S 2 (za x1))).2))
def O_X7_adopt_20 (N : Nat) (x0 : Option Nat) (x1 : Option Nat) (x2 : Int32) (s0 : Int32) (S : cS) : Prop := ((s0 = 0 → (cis S x0 6 ∧ o_X6_fall N S (za x0)) ∧ True) ∧ (¬ s0 = 0 → (cis S x0 6) ∧ (cis S x1 5) ∧ (cis S x1 5) ∧ (cis S (cR S 4 (za x0)) 1 ∧ o_X0_play N S (za (cR S 4 (za x0))) (cR S 0 (za x1)) x2 (cI S 2 (za x1))) ∧ O_X7_adopt_44 N x0 x1 x2 ((f_X0_play N S (za (cR S 4 (za x0))) (cR S 0 (za x1)) x2 (cI S 2 (za x1))).1) (f_X0_play N S (za (cR S 4 (za x0))) (cR S 0 (za x1)) x2 (cI S 2 (za x1))).2))
set_option maxRecDepth 100000 in
set_option maxHeartbeats 4000000 in
theorem b_X7_adopt_20 {G : zG} {o : cO} {S : cS} {N : Nat} {Q : Option Value → cS → Prop} {X : cS → Prop} (hG : zOK G) (hR : ∀ S', X S' → Q none S') {x0 : Option Nat} {x1 : Option Nat} {x2 : Int32} {s0 : Int32} (ok : O_X7_adopt_20 N x0 x1 x2 s0 S) (hx : X (F_X7_adopt_20 N x0 x1 x2 s0 S)) : cX G o dX7_adopt mX7_adopt 20 [some (va_rf x0), some (va_rf x1), some (.int x2), none, none] [.int s0] S Q := by
  unfold O_X7_adopt_20 at ok
  unfold F_X7_adopt_20 at hx
  refine c_if_ne (tgt := 28) dX7_adopt_20 (by decide) (fun c_20 => ?_) (fun c_20 => ?_)
  · have ok := ok.2 c_20
    have hx := xif_n c_20 hx
    refine c_aload_nQ dX7_adopt_28 rfl rfl ?_
    refine c_getR (C := RX6) (T := TX6) (N := 19) (ci := 5) (k := 4) ⟨rfl, inT6, by decide, fX7_22⟩ (by decide) (by decide) (by decide) dX7_adopt_29 ok.1 ?_
    have ok := ok.2
    refine c_aload_nQ dX7_adopt_32 rfl rfl ?_
    refine c_getR (C := RX5) (T := TX5) (N := 7) (ci := 4) (k := 0) ⟨rfl, inT5, by decide, fX7_123⟩ (by decide) (by decide) (by decide) dX7_adopt_33 ok.1 ?_
    have ok := ok.2
    refine c_iload_n dX7_adopt_36 rfl rfl ?_
    refine c_aload_nQ dX7_adopt_37 rfl rfl ?_
    refine c_getI (C := RX5) (T := TX5) (N := 7) (ci := 4) (k := 2) ⟨rfl, inT5, by decide, fX7_187⟩ (by decide) (by decide) (by decide) dX7_adopt_38 ok.1 ?_
    have ok := ok.2
    refine c_V3iE (ci := 0) (rr := (RX0, TX0, 6)) (y' := mX0_play) dX7_adopt_41 lX7_194 kX0_play ⟨by decide, by decide⟩ rfl rfl (by decide) ok.1.1 (Nat.le_of_ble_eq_true rfl) (cc_X0_play hG ok.1.2) ?_
    have ok := ok.2
    exact cX.cutz (b_X7_adopt_44 hG hR ok hx) ⟨rfl, rfl, rfl, trivial⟩
  · have ok := ok.1 c_20
    have hx := xif_p c_20 hx
    refine c_aload_nQ dX7_adopt_23 rfl rfl ?_
    refine c_V0vE (ci := 5) (rr := (RX6, TX6, 19)) (y' := mX6_fall) dX7_adopt_24 lX7_120 kX6_fall ⟨by decide, by decide⟩ rfl rfl (by decide) ok.1.1 (Nat.le_of_ble_eq_true rfl) (cc_X6_fall hG ok.1.2) ?_
    have ok := ok.2
    exact c_return rfl dX7_adopt_27 (hR _ hx)
def F_X7_adopt_0 (N : Nat) (x0 : Option Nat) (x1 : Option Nat) (x2 : Int32) (S : cS) : cS := (F_X7_adopt_20 N x0 x1 x2 ((f_X4_noteChain N S (za (cR S 2 (za x0))) (cI S 9 (za x0)) (cR S 0 (za x1)) x2 (cI S 2 (za x1))).1) (f_X4_noteChain N S (za (cR S 2 (za x0))) (cI S 9 (za x0)) (cR S 0 (za x1)) x2 (cI S 2 (za x1))).2)
def O_X7_adopt_0 (N : Nat) (x0 : Option Nat) (x1 : Option Nat) (x2 : Int32) (S : cS) : Prop := (cis S x0 6) ∧ (cis S x0 6) ∧ (cis S x1 5) ∧ (cis S x1 5) ∧ (cis S (cR S 2 (za x0)) 4 ∧ o_X4_noteChain N S (za (cR S 2 (za x0))) (cI S 9 (za x0)) (cR S 0 (za x1)) x2 (cI S 2 (za x1))) ∧ O_X7_adopt_20 N x0 x1 x2 ((f_X4_noteChain N S (za (cR S 2 (za x0))) (cI S 9 (za x0)) (cR S 0 (za x1)) x2 (cI S 2 (za x1))).1) (f_X4_noteChain N S (za (cR S 2 (za x0))) (cI S 9 (za x0)) (cR S 0 (za x1)) x2 (cI S 2 (za x1))).2
set_option maxRecDepth 100000 in
set_option maxHeartbeats 4000000 in
theorem b_X7_adopt_0 {G : zG} {o : cO} {S : cS} {N : Nat} {Q : Option Value → cS → Prop} {X : cS → Prop} (hG : zOK G) (hR : ∀ S', X S' → Q none S') {x0 : Option Nat} {x1 : Option Nat} {x2 : Int32} (ok : O_X7_adopt_0 N x0 x1 x2 S) (hx : X (F_X7_adopt_0 N x0 x1 x2 S)) : cX G o dX7_adopt mX7_adopt 0 [some (va_rf x0), some (va_rf x1), some (.int x2), none, none] [] S Q := by
  unfold O_X7_adopt_0 at ok
  unfold F_X7_adopt_0 at hx
  refine c_aload_nQ dX7_adopt_0 rfl rfl ?_
  refine c_getR (C := RX6) (T := TX6) (N := 19) (ci := 5) (k := 2) ⟨rfl, inT6, by decide, fX7_110⟩ (by decide) (by decide) (by decide) dX7_adopt_1 ok.1 ?_
  have ok := ok.2
  refine c_aload_nQ dX7_adopt_4 rfl rfl ?_
  refine c_getI (C := RX6) (T := TX6) (N := 19) (ci := 5) (k := 9) ⟨rfl, inT6, by decide, fX7_18⟩ (by decide) (by decide) (by decide) dX7_adopt_5 ok.1 ?_
  have ok := ok.2
  refine c_aload_nQ dX7_adopt_8 rfl rfl ?_
  refine c_getR (C := RX5) (T := TX5) (N := 7) (ci := 4) (k := 0) ⟨rfl, inT5, by decide, fX7_123⟩ (by decide) (by decide) (by decide) dX7_adopt_9 ok.1 ?_
  have ok := ok.2
  refine c_iload_n dX7_adopt_12 rfl rfl ?_
  refine c_aload_nQ dX7_adopt_13 rfl rfl ?_
  refine c_getI (C := RX5) (T := TX5) (N := 7) (ci := 4) (k := 2) ⟨rfl, inT5, by decide, fX7_187⟩ (by decide) (by decide) (by decide) dX7_adopt_14 ok.1 ?_
  have ok := ok.2
  refine c_V4iE (ci := 3) (rr := (RX4, TX4, 10)) (y' := mX4_noteChain) dX7_adopt_17 lX7_190 kX4_noteChain ⟨by decide, by decide⟩ rfl rfl (by decide) ok.1.1 (Nat.le_of_ble_eq_true rfl) (cc_X4_noteChain hG ok.1.2) ?_
  have ok := ok.2
  exact cX.cutz (b_X7_adopt_20 hG hR ok hx) ⟨rfl, rfl, rfl, trivial⟩
def f_X7_adopt (N : Nat) (S : cS) (x0 : Option Nat) (x1 : Option Nat) (x2 : Int32) : cS := F_X7_adopt_0 N x0 x1 x2 S
def o_X7_adopt (N : Nat) (S : cS) (x0 : Option Nat) (x1 : Option Nat) (x2 : Int32) : Prop := O_X7_adopt_0 N x0 x1 x2 S
set_option maxRecDepth 100000 in
set_option maxHeartbeats 4000000 in
theorem cc_X7_adopt {G : zG} {o : cO} {S : cS} {N : Nat} (hG : zOK G) {x0 : Option Nat} {x1 : Option Nat} {x2 : Int32} (ok : o_X7_adopt N S x0 x1 x2) : cCv G o dX7_adopt mX7_adopt [va_rf x0, va_rf x1, .int x2] S (fun S' => S' = f_X7_adopt N S x0 x1 x2) := by
  refine cC.ofX rfl (by cases x0 <;> cases x1 <;> exact Nat.le_of_ble_eq_true rfl) ?_
  rw [show zargs mX7_adopt.2.2.1 [va_rf x0, va_rf x1, .int x2] = [some (va_rf x0), some (va_rf x1), some (.int x2), none, none] from by cases x0 <;> cases x1 <;> rfl]
  exact cX.cutz (b_X7_adopt_0 (X := fun F => F = f_X7_adopt N S x0 x1 x2) hG (fun S' h => ⟨rfl, h⟩) ok rfl) ⟨rfl, rfl, rfl, trivial⟩
/-! X8_proposal -/
def F_X8_proposal_21 (N : Nat) (s0 : Option Nat) (S : cS) : Option Nat := s0
def O_X8_proposal_21 (N : Nat) (s0 : Option Nat) (S : cS) : Prop := True
set_option maxRecDepth 100000 in
set_option maxHeartbeats 4000000 in
theorem b_X8_proposal_21 {G : zG} {o : cO} {S : cS} {N : Nat} {Q : Option Value → cS → Prop} {X : Option Nat → Prop} (hG : zOK G) (hR : ∀ v, X v → Q (some (va_rf v)) S) {s0 : Option Nat} (ok : O_X8_proposal_21 N s0 S) (hx : X (F_X8_proposal_21 N s0 S)) : cX G o dX8_proposal mX8_proposal 21 [none, none, none, none] [va_rf s0] S Q := by
  unfold O_X8_proposal_21 at ok
  unfold F_X8_proposal_21 at hx
  exact c_areturn rfl (Or.inl ⟨_, rfl⟩) dX8_proposal_21 (hR _ hx)
def F_X8_proposal_0 (N : Nat) (x0 : Option Nat) (x1 : Int32) (x2 : Int32) (S : cS) : Option Nat := (if 0 ≤ (f_X8_page N S (za x0) x1 x2) then (F_X8_proposal_21 N (cP S (za (cR S 2 (za x0))) (f_X8_page N S (za x0) x1 x2).toNatClampNeg) S) else (F_X8_proposal_21 N (none : Option Nat) S))
def O_X8_proposal_0 (N : Nat) (x0 : Option Nat) (x1 : Int32) (x2 : Int32) (S : cS) : Prop := (cis S x0 7 ∧ o_X8_page N S (za x0) x1 x2) ∧ ((0 ≤ (f_X8_page N S (za x0) x1 x2) → (cis S x0 7) ∧ (cis S (cR S 2 (za x0)) 24 ∧ vp_in (f_X8_page N S (za x0) x1 x2) (cL S (za (cR S 2 (za x0))))) ∧ O_X8_proposal_21 N (cP S (za (cR S 2 (za x0))) (f_X8_page N S (za x0) x1 x2).toNatClampNeg) S) ∧ (¬ 0 ≤ (f_X8_page N S (za x0) x1 x2) → O_X8_proposal_21 N (none : Option Nat) S))
set_option maxRecDepth 100000 in
set_option maxHeartbeats 4000000 in
theorem b_X8_proposal_0 {G : zG} {o : cO} {S : cS} {N : Nat} {Q : Option Value → cS → Prop} {X : Option Nat → Prop} (hG : zOK G) (hR : ∀ v, X v → Q (some (va_rf v)) S) {x0 : Option Nat} {x1 : Int32} {x2 : Int32} (ok : O_X8_proposal_0 N x0 x1 x2 S) (hx : X (F_X8_proposal_0 N x0 x1 x2 S)) : cX G o dX8_proposal mX8_proposal 0 [some (va_rf x0), some (.int x1), some (.int x2), none] [] S Q := by
  unfold O_X8_proposal_0 at ok
  unfold F_X8_proposal_0 at hx
  refine c_aload_nQ dX8_proposal_0 rfl rfl ?_
  refine c_iload_n dX8_proposal_1 rfl rfl ?_
  refine c_iload_n dX8_proposal_2 rfl rfl ?_
  refine c_V2iE (ci := 6) (rr := (RX8, TX8, 14)) (y' := mX8_page) dX8_proposal_3 lX8_51 kX8_page ⟨by decide, by decide⟩ rfl rfl (by decide) ok.1.1 (Nat.le_of_ble_eq_true rfl) (cc_X8_page hG ok.1.2) ?_
  have ok := ok.2
  refine c_istore_3 dX8_proposal_6 (by decide) rfl ?_
  refine c_iload_n dX8_proposal_7 rfl rfl ?_
  refine c_if_ge (tgt := 15) dX8_proposal_8 (by decide) (fun c_8 => ?_) (fun c_8 => ?_)
  · have ok := ok.1 c_8
    have hx := xif_p c_8 hx
    refine c_aload_nQ dX8_proposal_15 rfl rfl ?_
    refine c_getR (C := RX8) (T := TX8) (N := 14) (ci := 6) (k := 2) ⟨rfl, inT8, by decide, fX8_11⟩ (by decide) (by decide) (by decide) dX8_proposal_16 ok.1 ?_
    have ok := ok.2
    refine c_iload_n dX8_proposal_19 rfl rfl ?_
    refine c_aald (t := 4) (ty := (.object "QuorumLedger$Message")) rfl rfl (by decide) dX8_proposal_20 ok.1 ?_
    have ok := ok.2
    exact cX.cutz (b_X8_proposal_21 hG hR ok hx) trivial
  · have ok := ok.2 c_8
    have hx := xif_n c_8 hx
    refine c_null' dX8_proposal_11 ?_
    refine c_goto (tgt := 21) dX8_proposal_12 (by decide) ?_
    exact cX.cutz (b_X8_proposal_21 hG hR ok hx) trivial
def f_X8_proposal (N : Nat) (S : cS) (a0 : Nat) (x1 : Int32) (x2 : Int32) : Option Nat := F_X8_proposal_0 N (some a0) x1 x2 S
def o_X8_proposal (N : Nat) (S : cS) (a0 : Nat) (x1 : Int32) (x2 : Int32) : Prop := O_X8_proposal_0 N (some a0) x1 x2 S
set_option maxRecDepth 100000 in
set_option maxHeartbeats 4000000 in
theorem cc_X8_proposal {G : zG} {o : cO} {S : cS} {N : Nat} (hG : zOK G) {a0 : Nat} {x1 : Int32} {x2 : Int32} (ok : o_X8_proposal N S a0 x1 x2) : cCq G o dX8_proposal mX8_proposal [.ref a0, .int x1, .int x2] S (fun v S' => v = f_X8_proposal N S a0 x1 x2 ∧ S' = S) := by
  refine cC.ofX rfl (by exact Nat.le_of_ble_eq_true rfl) ?_
  show cX G o dX8_proposal mX8_proposal 0 [some (.ref a0), some (.int x1), some (.int x2), none] [] S _
  exact cX.cutz (b_X8_proposal_0 (X := fun F => F = f_X8_proposal N S a0 x1 x2) hG (fun v h => ⟨v, rfl, h, rfl⟩) ok rfl) ⟨rfl, rfl, rfl, trivial⟩
/-! X8_votesFor -/
def F_X8_votesFor_98 (N : Nat) (x7 : Int32) (S : cS) : Int32 := x7
def O_X8_votesFor_98 (N : Nat) (x7 : Int32) (S : cS) : Prop := True
set_option maxRecDepth 100000 in
set_option maxHeartbeats 4000000 in
theorem b_X8_votesFor_98 {G : zG} {o : cO} {S : cS} {N : Nat} {Q : Option Value → cS → Prop} {X : Int32 → Prop} (hG : zOK G) (hR : ∀ v, X v → Q (some (.int v)) S) {x7 : Int32} (ok : O_X8_votesFor_98 N x7 S) (hx : X (F_X8_votesFor_98 N x7 S)) : cX G o dX8_votesFor mX8_votesFor 98 [none, none, none, none, none, none, none, some (.int x7), none, none] [] S Q := by
  unfold O_X8_votesFor_98 at ok
  unfold F_X8_votesFor_98 at hx
  refine c_iload dX8_votesFor_98 rfl ?_
  exact c_ireturn rfl rfl dX8_votesFor_100 (hR _ hx)
def F_X8_votesFor_92 (N : Nat) (rec : Option Nat → Option Nat → Int32 → Int32 → Int32 → Int32 → Nat × Int32 × Unit) (x0 : Option Nat) (x4 : Option Nat) (x5 : Int32) (x6 : Int32) (x7 : Int32) (x8 : Int32) (S : cS) : Nat × Int32 × Unit := (rec x0 x4 x5 x6 x7 (x8 + nI 1))
def O_X8_votesFor_92 (N : Nat) (rok : Option Nat → Option Nat → Int32 → Int32 → Int32 → Int32 → Prop) (x0 : Option Nat) (x4 : Option Nat) (x5 : Int32) (x6 : Int32) (x7 : Int32) (x8 : Int32) (S : cS) : Prop := rok x0 x4 x5 x6 x7 (x8 + nI 1)
set_option maxRecDepth 100000 in
set_option maxHeartbeats 4000000 in
theorem b_X8_votesFor_92 {G : zG} {o : cO} {S : cS} {N : Nat} {Q : Option Value → cS → Prop} {X : Nat × Int32 × Unit → Prop} (hG : zOK G) (hX0 : ∀ (x7 : Int32) , X (0, x7, ()) → cX G o dX8_votesFor mX8_votesFor 98 [none, none, none, none, none, none, none, some (.int x7), none, none] [] S Q) {rec : Option Nat → Option Nat → Int32 → Int32 → Int32 → Int32 → Nat × Int32 × Unit} {rok : Option Nat → Option Nat → Int32 → Int32 → Int32 → Int32 → Prop} (hrec : ∀ (x0 : Option Nat) (x4 : Option Nat) (x5 : Int32) (x6 : Int32) (x7 : Int32) (x8 : Int32), rok x0 x4 x5 x6 x7 x8 → X (rec x0 x4 x5 x6 x7 x8) → cX G o dX8_votesFor mX8_votesFor 32 [some (va_rf x0), none, none, none, some (va_rf x4), some (.int x5), some (.int x6), some (.int x7), some (.int x8), none] [] S Q) {x0 : Option Nat} {x4 : Option Nat} {x5 : Int32} {x6 : Int32} {x7 : Int32} {x8 : Int32} (ok : O_X8_votesFor_92 N rok x0 x4 x5 x6 x7 x8 S) (hx : X (F_X8_votesFor_92 N rec x0 x4 x5 x6 x7 x8 S)) : cX G o dX8_votesFor mX8_votesFor 92 [some (va_rf x0), none, none, none, some (va_rf x4), some (.int x5), some (.int x6), some (.int x7), some (.int x8), none] [] S Q := by
  unfold O_X8_votesFor_92 at ok
  unfold F_X8_votesFor_92 at hx
  refine c_iinc_8 (v := (x8 + nI 1)) dX8_votesFor_92 rfl (by first | rfl | (congr 1)) (by decide) rfl ?_
  refine c_goto (tgt := 32) dX8_votesFor_95 (by decide) ?_
  exact cX.cutz (hrec _ _ _ _ _ _ ok hx) ⟨rfl, rfl, rfl, rfl, rfl, rfl, trivial⟩
def F_X8_votesFor_89 (N : Nat) (rec : Option Nat → Option Nat → Int32 → Int32 → Int32 → Int32 → Nat × Int32 × Unit) (x0 : Option Nat) (x4 : Option Nat) (x5 : Int32) (x6 : Int32) (x7 : Int32) (x8 : Int32) (S : cS) : Nat × Int32 × Unit := (F_X8_votesFor_92 N rec x0 x4 x5 x6 (x7 + nI 1) x8 S)
def O_X8_votesFor_89 (N : Nat) (rok : Option Nat → Option Nat → Int32 → Int32 → Int32 → Int32 → Prop) (x0 : Option Nat) (x4 : Option Nat) (x5 : Int32) (x6 : Int32) (x7 : Int32) (x8 : Int32) (S : cS) : Prop := O_X8_votesFor_92 N rok x0 x4 x5 x6 (x7 + nI 1) x8 S
set_option maxRecDepth 100000 in
set_option maxHeartbeats 4000000 in
theorem b_X8_votesFor_89 {G : zG} {o : cO} {S : cS} {N : Nat} {Q : Option Value → cS → Prop} {X : Nat × Int32 × Unit → Prop} (hG : zOK G) (hX0 : ∀ (x7 : Int32) , X (0, x7, ()) → cX G o dX8_votesFor mX8_votesFor 98 [none, none, none, none, none, none, none, some (.int x7), none, none] [] S Q) {rec : Option Nat → Option Nat → Int32 → Int32 → Int32 → Int32 → Nat × Int32 × Unit} {rok : Option Nat → Option Nat → Int32 → Int32 → Int32 → Int32 → Prop} (hrec : ∀ (x0 : Option Nat) (x4 : Option Nat) (x5 : Int32) (x6 : Int32) (x7 : Int32) (x8 : Int32), rok x0 x4 x5 x6 x7 x8 → X (rec x0 x4 x5 x6 x7 x8) → cX G o dX8_votesFor mX8_votesFor 32 [some (va_rf x0), none, none, none, some (va_rf x4), some (.int x5), some (.int x6), some (.int x7), some (.int x8), none] [] S Q) {x0 : Option Nat} {x4 : Option Nat} {x5 : Int32} {x6 : Int32} {x7 : Int32} {x8 : Int32} (ok : O_X8_votesFor_89 N rok x0 x4 x5 x6 x7 x8 S) (hx : X (F_X8_votesFor_89 N rec x0 x4 x5 x6 x7 x8 S)) : cX G o dX8_votesFor mX8_votesFor 89 [some (va_rf x0), none, none, none, some (va_rf x4), some (.int x5), some (.int x6), some (.int x7), some (.int x8), none] [] S Q := by
  unfold O_X8_votesFor_89 at ok
  unfold F_X8_votesFor_89 at hx
  refine c_iinc_7 (v := (x7 + nI 1)) dX8_votesFor_89 rfl (by first | rfl | (congr 1)) (by decide) rfl ?_
  exact cX.cutz (b_X8_votesFor_92 hG hX0 hrec ok hx) ⟨rfl, rfl, rfl, rfl, rfl, rfl, trivial⟩
def B_X8_votesFor_32 (N : Nat) (rec : Option Nat → Option Nat → Int32 → Int32 → Int32 → Int32 → Nat × Int32 × Unit) (x0 : Option Nat) (x4 : Option Nat) (x5 : Int32) (x6 : Int32) (x7 : Int32) (x8 : Int32) (S : cS) : Nat × Int32 × Unit := (if (cI S 1 (za x0)) ≤ x8 then (0, x7, ()) else (if x5 < 0 then (0, x7, ()) else (if (cP S (za (cR S 4 (za x0))) (x6 + x8).toNatClampNeg) = none then (F_X8_votesFor_92 N rec x0 x4 x5 x6 x7 x8 S) else (if x4 = none then (if (cI S 5 (za (cP S (za (cR S 4 (za x0))) (x6 + x8).toNatClampNeg))) = 0 then (F_X8_votesFor_89 N rec x0 x4 x5 x6 x7 x8 S) else (F_X8_votesFor_92 N rec x0 x4 x5 x6 x7 x8 S)) else (if (f_X5_isFor N S (za (cP S (za (cR S 4 (za x0))) (x6 + x8).toNatClampNeg)) x4) = 0 then (F_X8_votesFor_92 N rec x0 x4 x5 x6 x7 x8 S) else (F_X8_votesFor_89 N rec x0 x4 x5 x6 x7 x8 S))))))
def OB_X8_votesFor_32 (N : Nat) (rok : Option Nat → Option Nat → Int32 → Int32 → Int32 → Int32 → Prop) (x0 : Option Nat) (x4 : Option Nat) (x5 : Int32) (x6 : Int32) (x7 : Int32) (x8 : Int32) (S : cS) : Prop := (cis S x0 7) ∧ (((cI S 1 (za x0)) ≤ x8 → True) ∧ (¬ (cI S 1 (za x0)) ≤ x8 → ((x5 < 0 → True) ∧ (¬ x5 < 0 → (cis S x0 7) ∧ (cis S (cR S 4 (za x0)) 24 ∧ vp_in (x6 + x8) (cL S (za (cR S 4 (za x0))))) ∧ (((cP S (za (cR S 4 (za x0))) (x6 + x8).toNatClampNeg) = none → O_X8_votesFor_92 N rok x0 x4 x5 x6 x7 x8 S) ∧ (¬ (cP S (za (cR S 4 (za x0))) (x6 + x8).toNatClampNeg) = none → ((x4 = none → (cis S (cP S (za (cR S 4 (za x0))) (x6 + x8).toNatClampNeg) 5) ∧ (((cI S 5 (za (cP S (za (cR S 4 (za x0))) (x6 + x8).toNatClampNeg))) = 0 → O_X8_votesFor_89 N rok x0 x4 x5 x6 x7 x8 S) ∧ (¬ (cI S 5 (za (cP S (za (cR S 4 (za x0))) (x6 + x8).toNatClampNeg))) = 0 → O_X8_votesFor_92 N rok x0 x4 x5 x6 x7 x8 S))) ∧ (¬ x4 = none → (cis S (cP S (za (cR S 4 (za x0))) (x6 + x8).toNatClampNeg) 5 ∧ o_X5_isFor N S (za (cP S (za (cR S 4 (za x0))) (x6 + x8).toNatClampNeg)) x4) ∧ (((f_X5_isFor N S (za (cP S (za (cR S 4 (za x0))) (x6 + x8).toNatClampNeg)) x4) = 0 → O_X8_votesFor_92 N rok x0 x4 x5 x6 x7 x8 S) ∧ (¬ (f_X5_isFor N S (za (cP S (za (cR S 4 (za x0))) (x6 + x8).toNatClampNeg)) x4) = 0 → O_X8_votesFor_89 N rok x0 x4 x5 x6 x7 x8 S))))))))))
set_option maxRecDepth 100000 in
set_option maxHeartbeats 4000000 in
theorem bb_X8_votesFor_32 {G : zG} {o : cO} {S : cS} {N : Nat} {Q : Option Value → cS → Prop} {X : Nat × Int32 × Unit → Prop} (hG : zOK G) (hX0 : ∀ (x7 : Int32) , X (0, x7, ()) → cX G o dX8_votesFor mX8_votesFor 98 [none, none, none, none, none, none, none, some (.int x7), none, none] [] S Q) {rec : Option Nat → Option Nat → Int32 → Int32 → Int32 → Int32 → Nat × Int32 × Unit} {rok : Option Nat → Option Nat → Int32 → Int32 → Int32 → Int32 → Prop} (hrec : ∀ (x0 : Option Nat) (x4 : Option Nat) (x5 : Int32) (x6 : Int32) (x7 : Int32) (x8 : Int32), rok x0 x4 x5 x6 x7 x8 → X (rec x0 x4 x5 x6 x7 x8) → cX G o dX8_votesFor mX8_votesFor 32 [some (va_rf x0), none, none, none, some (va_rf x4), some (.int x5), some (.int x6), some (.int x7), some (.int x8), none] [] S Q) {x0 : Option Nat} {x4 : Option Nat} {x5 : Int32} {x6 : Int32} {x7 : Int32} {x8 : Int32} (ok : OB_X8_votesFor_32 N rok x0 x4 x5 x6 x7 x8 S) (hx : X (B_X8_votesFor_32 N rec x0 x4 x5 x6 x7 x8 S)) : cX G o dX8_votesFor mX8_votesFor 32 [some (va_rf x0), none, none, none, some (va_rf x4), some (.int x5), some (.int x6), some (.int x7), some (.int x8), none] [] S Q := by
  unfold OB_X8_votesFor_32 at ok
  unfold B_X8_votesFor_32 at hx
  refine c_iload dX8_votesFor_32 rfl ?_
  refine c_aload_nQ dX8_votesFor_34 rfl rfl ?_
  refine c_getI (C := RX8) (T := TX8) (N := 14) (ci := 6) (k := 1) ⟨rfl, inT8, by decide, fX8_32⟩ (by decide) (by decide) (by decide) dX8_votesFor_35 ok.1 ?_
  have ok := ok.2
  refine c_icmp_ge (tgt := 98) dX8_votesFor_38 (by decide) (fun c_38 => ?_) (fun c_38 => ?_)
  · have ok := ok.1 c_38
    have hx := xif_p c_38 hx
    exact cX.cutz (hX0 _  hx) ⟨rfl, trivial⟩
  · have ok := ok.2 c_38
    have hx := xif_n c_38 hx
    refine c_iload dX8_votesFor_41 rfl ?_
    refine c_if_lt (tgt := 98) dX8_votesFor_43 (by decide) (fun c_43 => ?_) (fun c_43 => ?_)
    · have ok := ok.1 c_43
      have hx := xif_p c_43 hx
      exact cX.cutz (hX0 _  hx) ⟨rfl, trivial⟩
    · have ok := ok.2 c_43
      have hx := xif_n c_43 hx
      refine c_aload_nQ dX8_votesFor_46 rfl rfl ?_
      refine c_getR (C := RX8) (T := TX8) (N := 14) (ci := 6) (k := 4) ⟨rfl, inT8, by decide, fX8_36⟩ (by decide) (by decide) (by decide) dX8_votesFor_47 ok.1 ?_
      have ok := ok.2
      refine c_iload dX8_votesFor_50 rfl ?_
      refine c_iload dX8_votesFor_52 rfl ?_
      refine c_iadd dX8_votesFor_54 ?_
      refine c_aald (t := 4) (ty := (.object "QuorumLedger$Message")) rfl rfl (by decide) dX8_votesFor_55 ok.1 ?_
      have ok := ok.2
      refine c_astore_9Q dX8_votesFor_56 (by decide) rfl ?_
      refine c_aloadQ dX8_votesFor_58 rfl ?_
      refine c_ifnullI (tgt := 92) dX8_votesFor_60 (by decide) (fun c_60 => ?_) (fun c_60 => ?_)
      · have ok := ok.1 c_60
        have hx := xif_p c_60 hx
        exact cX.cutz (b_X8_votesFor_92 hG hX0 hrec ok hx) ⟨rfl, rfl, rfl, rfl, rfl, rfl, trivial⟩
      · have ok := ok.2 c_60
        have hx := xif_n c_60 hx
        refine c_aloadQ dX8_votesFor_63 rfl ?_
        refine c_ifnonnullI (tgt := 79) dX8_votesFor_65 (by decide) (fun c_65 => ?_) (fun c_65 => ?_)
        · have ok := ok.2 c_65
          have hx := xif_n c_65 hx
          refine c_aloadQ dX8_votesFor_79 rfl ?_
          refine c_aloadQ dX8_votesFor_81 rfl ?_
          refine c_V1iE (ci := 4) (rr := (RX5, TX5, 7)) (y' := mX5_isFor) dX8_votesFor_83 lX8_84 kX5_isFor ⟨by decide, by decide⟩ rfl rfl (by decide) ok.1.1 (Nat.le_of_ble_eq_true rfl) (cc_X5_isFor hG ok.1.2) ?_
          have ok := ok.2
          refine c_if_eq (tgt := 92) dX8_votesFor_86 (by decide) (fun c_86 => ?_) (fun c_86 => ?_)
          · have ok := ok.1 c_86
            have hx := xif_p c_86 hx
            exact cX.cutz (b_X8_votesFor_92 hG hX0 hrec ok hx) ⟨rfl, rfl, rfl, rfl, rfl, rfl, trivial⟩
          · have ok := ok.2 c_86
            have hx := xif_n c_86 hx
            exact cX.cutz (b_X8_votesFor_89 hG hX0 hrec ok hx) ⟨rfl, rfl, rfl, rfl, rfl, rfl, trivial⟩
        · have ok := ok.1 c_65
          have hx := xif_p c_65 hx
          refine c_aloadQ dX8_votesFor_68 rfl ?_
          refine c_getI (C := RX5) (T := TX5) (N := 7) (ci := 4) (k := 5) ⟨rfl, inT5, by decide, fX8_80⟩ (by decide) (by decide) (by decide) dX8_votesFor_70 ok.1 ?_
          have ok := ok.2
          refine c_if_ne (tgt := 92) dX8_votesFor_73 (by decide) (fun c_73 => ?_) (fun c_73 => ?_)
          · have ok := ok.2 c_73
            have hx := xif_n c_73 hx
            exact cX.cutz (b_X8_votesFor_92 hG hX0 hrec ok hx) ⟨rfl, rfl, rfl, rfl, rfl, rfl, trivial⟩
          · have ok := ok.1 c_73
            have hx := xif_p c_73 hx
            refine c_goto (tgt := 89) dX8_votesFor_76 (by decide) ?_
            exact cX.cutz (b_X8_votesFor_89 hG hX0 hrec ok hx) ⟨rfl, rfl, rfl, rfl, rfl, rfl, trivial⟩
def L_X8_votesFor_32 (N : Nat) : Nat → Option Nat → Option Nat → Int32 → Int32 → Int32 → Int32 → cS → Nat × Int32 × Unit
  | 0, x0, x4, x5, x6, x7, x8, S => (0, 0, ())
  | n + 1, x0, x4, x5, x6, x7, x8, S => B_X8_votesFor_32 N (fun x0 x4 x5 x6 x7 x8 => L_X8_votesFor_32 N n x0 x4 x5 x6 x7 x8 S) x0 x4 x5 x6 x7 x8 S
def OL_X8_votesFor_32 (N : Nat) : Nat → Option Nat → Option Nat → Int32 → Int32 → Int32 → Int32 → cS → Prop
  | 0, _, _, _, _, _, _, _ => False
  | n + 1, x0, x4, x5, x6, x7, x8, S => OB_X8_votesFor_32 N (fun x0 x4 x5 x6 x7 x8 => OL_X8_votesFor_32 N n x0 x4 x5 x6 x7 x8 S) x0 x4 x5 x6 x7 x8 S
set_option maxRecDepth 100000 in
set_option maxHeartbeats 4000000 in
theorem l_X8_votesFor_32 {G : zG} {o : cO} {S : cS} {N : Nat} {Q : Option Value → cS → Prop} {X : Nat × Int32 × Unit → Prop} (hG : zOK G) (hX0 : ∀ (x7 : Int32) , X (0, x7, ()) → cX G o dX8_votesFor mX8_votesFor 98 [none, none, none, none, none, none, none, some (.int x7), none, none] [] S Q) : ∀ (n : Nat) (x0 : Option Nat) (x4 : Option Nat) (x5 : Int32) (x6 : Int32) (x7 : Int32) (x8 : Int32) , OL_X8_votesFor_32 N n x0 x4 x5 x6 x7 x8 S → X (L_X8_votesFor_32 N n x0 x4 x5 x6 x7 x8 S) → cX G o dX8_votesFor mX8_votesFor 32 [some (va_rf x0), none, none, none, some (va_rf x4), some (.int x5), some (.int x6), some (.int x7), some (.int x8), none] [] S Q := by
  intro n
  induction n with
  | zero => intro x0 x4 x5 x6 x7 x8 ok; exact absurd ok id
  | succ n ih =>
    intro x0 x4 x5 x6 x7 x8 ok hx
    exact bb_X8_votesFor_32 hG hX0 (rec := fun x0 x4 x5 x6 x7 x8 => L_X8_votesFor_32 N n x0 x4 x5 x6 x7 x8 S) (rok := fun x0 x4 x5 x6 x7 x8 => OL_X8_votesFor_32 N n x0 x4 x5 x6 x7 x8 S) (fun x0 x4 x5 x6 x7 x8 ok hx => ih x0 x4 x5 x6 x7 x8 ok hx) ok hx
def A_X8_votesFor_32 (N : Nat) (x0 : Option Nat) (x4 : Option Nat) (x5 : Int32) (x6 : Int32) (x7 : Int32) (x8 : Int32) (S : cS) (z : Nat × Int32 × Unit) : Int32 := (F_X8_votesFor_98 N (z.2.1) S)
def OA_X8_votesFor_32 (N : Nat) (x0 : Option Nat) (x4 : Option Nat) (x5 : Int32) (x6 : Int32) (x7 : Int32) (x8 : Int32) (S : cS) (z : Nat × Int32 × Unit) : Prop := O_X8_votesFor_98 N (z.2.1) S
set_option maxRecDepth 100000 in
set_option maxHeartbeats 4000000 in
theorem c_X8_votesFor_32 {G : zG} {o : cO} {S : cS} {N : Nat} {Q : Option Value → cS → Prop} {X : Int32 → Prop} (hG : zOK G) (hR : ∀ v, X v → Q (some (.int v)) S) {x0 : Option Nat} {x4 : Option Nat} {x5 : Int32} {x6 : Int32} {x7 : Int32} {x8 : Int32} (ok : OL_X8_votesFor_32 N N x0 x4 x5 x6 x7 x8 S ∧ OA_X8_votesFor_32 N x0 x4 x5 x6 x7 x8 S (L_X8_votesFor_32 N N x0 x4 x5 x6 x7 x8 S)) (hx : X (A_X8_votesFor_32 N x0 x4 x5 x6 x7 x8 S (L_X8_votesFor_32 N N x0 x4 x5 x6 x7 x8 S))) : cX G o dX8_votesFor mX8_votesFor 32 [some (va_rf x0), none, none, none, some (va_rf x4), some (.int x5), some (.int x6), some (.int x7), some (.int x8), none] [] S Q := by
  refine l_X8_votesFor_32 hG ?_ N x0 x4 x5 x6 x7 x8 ok.1 (X := fun z => OA_X8_votesFor_32 N x0 x4 x5 x6 x7 x8 S z ∧ X (A_X8_votesFor_32 N x0 x4 x5 x6 x7 x8 S z)) ⟨ok.2, hx⟩
  · intro x7' hz
    obtain ⟨ok, hx⟩ := hz
    unfold OA_X8_votesFor_32 at ok
    unfold A_X8_votesFor_32 at hx
    exact cX.cutz (b_X8_votesFor_98 hG hR ok hx) ⟨rfl, trivial⟩
def F_X8_votesFor_24 (N : Nat) (x0 : Option Nat) (x4 : Option Nat) (x5 : Int32) (s0 : Int32) (S : cS) : Int32 := (A_X8_votesFor_32 N x0 x4 x5 s0 (nI 0) (nI 0) S (L_X8_votesFor_32 N N x0 x4 x5 s0 (nI 0) (nI 0) S))
def O_X8_votesFor_24 (N : Nat) (x0 : Option Nat) (x4 : Option Nat) (x5 : Int32) (s0 : Int32) (S : cS) : Prop := (OL_X8_votesFor_32 N N x0 x4 x5 s0 (nI 0) (nI 0) S ∧ OA_X8_votesFor_32 N x0 x4 x5 s0 (nI 0) (nI 0) S (L_X8_votesFor_32 N N x0 x4 x5 s0 (nI 0) (nI 0) S))
set_option maxRecDepth 100000 in
set_option maxHeartbeats 4000000 in
theorem b_X8_votesFor_24 {G : zG} {o : cO} {S : cS} {N : Nat} {Q : Option Value → cS → Prop} {X : Int32 → Prop} (hG : zOK G) (hR : ∀ v, X v → Q (some (.int v)) S) {x0 : Option Nat} {x4 : Option Nat} {x5 : Int32} {s0 : Int32} (ok : O_X8_votesFor_24 N x0 x4 x5 s0 S) (hx : X (F_X8_votesFor_24 N x0 x4 x5 s0 S)) : cX G o dX8_votesFor mX8_votesFor 24 [some (va_rf x0), none, none, none, some (va_rf x4), some (.int x5), none, none, none, none] [.int s0] S Q := by
  unfold O_X8_votesFor_24 at ok
  unfold F_X8_votesFor_24 at hx
  refine c_istore_6 dX8_votesFor_24 (by decide) rfl ?_
  refine c_iconst (v := nI 0) dX8_votesFor_26 (by decide) ?_
  refine c_istore_7 dX8_votesFor_27 (by decide) rfl ?_
  refine c_iconst (v := nI 0) dX8_votesFor_29 (by decide) ?_
  refine c_istore_8 dX8_votesFor_30 (by decide) rfl ?_
  exact cX.cutz (c_X8_votesFor_32 hG hR ok hx) ⟨rfl, rfl, rfl, rfl, rfl, rfl, trivial⟩
def F_X8_votesFor_0 (N : Nat) (x0 : Option Nat) (x1 : Int32) (x2 : Int32) (x3 : Int32) (x4 : Option Nat) (S : cS) : Int32 := (if 0 ≤ (f_X8_page N S (za x0) x2 x3) then (F_X8_votesFor_24 N x0 x4 (f_X8_page N S (za x0) x2 x3) (f_X8_ballots N S (za x0) (f_X8_page N S (za x0) x2 x3) x1) S) else (F_X8_votesFor_24 N x0 x4 (f_X8_page N S (za x0) x2 x3) (nI 0) S))
def O_X8_votesFor_0 (N : Nat) (x0 : Option Nat) (x1 : Int32) (x2 : Int32) (x3 : Int32) (x4 : Option Nat) (S : cS) : Prop := (cis S x0 7 ∧ o_X8_page N S (za x0) x2 x3) ∧ ((0 ≤ (f_X8_page N S (za x0) x2 x3) → (cis S x0 7 ∧ o_X8_ballots N S (za x0) (f_X8_page N S (za x0) x2 x3) x1) ∧ O_X8_votesFor_24 N x0 x4 (f_X8_page N S (za x0) x2 x3) (f_X8_ballots N S (za x0) (f_X8_page N S (za x0) x2 x3) x1) S) ∧ (¬ 0 ≤ (f_X8_page N S (za x0) x2 x3) → O_X8_votesFor_24 N x0 x4 (f_X8_page N S (za x0) x2 x3) (nI 0) S))
set_option maxRecDepth 100000 in
set_option maxHeartbeats 4000000 in
theorem b_X8_votesFor_0 {G : zG} {o : cO} {S : cS} {N : Nat} {Q : Option Value → cS → Prop} {X : Int32 → Prop} (hG : zOK G) (hR : ∀ v, X v → Q (some (.int v)) S) {x0 : Option Nat} {x1 : Int32} {x2 : Int32} {x3 : Int32} {x4 : Option Nat} (ok : O_X8_votesFor_0 N x0 x1 x2 x3 x4 S) (hx : X (F_X8_votesFor_0 N x0 x1 x2 x3 x4 S)) : cX G o dX8_votesFor mX8_votesFor 0 [some (va_rf x0), some (.int x1), some (.int x2), some (.int x3), some (va_rf x4), none, none, none, none, none] [] S Q := by
  unfold O_X8_votesFor_0 at ok
  unfold F_X8_votesFor_0 at hx
  refine c_aload_nQ dX8_votesFor_0 rfl rfl ?_
  refine c_iload_n dX8_votesFor_1 rfl rfl ?_
  refine c_iload_n dX8_votesFor_2 rfl rfl ?_
  refine c_V2iE (ci := 6) (rr := (RX8, TX8, 14)) (y' := mX8_page) dX8_votesFor_3 lX8_51 kX8_page ⟨by decide, by decide⟩ rfl rfl (by decide) ok.1.1 (Nat.le_of_ble_eq_true rfl) (cc_X8_page hG ok.1.2) ?_
  have ok := ok.2
  refine c_istore_5 dX8_votesFor_6 (by decide) (by simp [zok, zg, zcat_rf]) ?_
  refine c_iload dX8_votesFor_8 rfl ?_
  refine c_if_ge (tgt := 17) dX8_votesFor_10 (by decide) (fun c_10 => ?_) (fun c_10 => ?_)
  · have ok := ok.1 c_10
    have hx := xif_p c_10 hx
    refine c_aload_nQ dX8_votesFor_17 rfl rfl ?_
    refine c_iload dX8_votesFor_18 rfl ?_
    refine c_iload_n dX8_votesFor_20 rfl rfl ?_
    refine c_V2iE (ci := 6) (rr := (RX8, TX8, 14)) (y' := mX8_ballots) dX8_votesFor_21 lX8_69 kX8_ballots ⟨by decide, by decide⟩ rfl rfl (by decide) ok.1.1 (Nat.le_of_ble_eq_true rfl) (cc_X8_ballots hG ok.1.2) ?_
    have ok := ok.2
    exact cX.cutz (b_X8_votesFor_24 hG hR ok hx) ⟨rfl, rfl, rfl, trivial⟩
  · have ok := ok.2 c_10
    have hx := xif_n c_10 hx
    refine c_iconst (v := nI 0) dX8_votesFor_13 (by decide) ?_
    refine c_goto (tgt := 24) dX8_votesFor_14 (by decide) ?_
    exact cX.cutz (b_X8_votesFor_24 hG hR ok hx) ⟨rfl, rfl, rfl, trivial⟩
def f_X8_votesFor (N : Nat) (S : cS) (a0 : Nat) (x1 : Int32) (x2 : Int32) (x3 : Int32) (x4 : Option Nat) : Int32 := F_X8_votesFor_0 N (some a0) x1 x2 x3 x4 S
def o_X8_votesFor (N : Nat) (S : cS) (a0 : Nat) (x1 : Int32) (x2 : Int32) (x3 : Int32) (x4 : Option Nat) : Prop := O_X8_votesFor_0 N (some a0) x1 x2 x3 x4 S
set_option maxRecDepth 100000 in
set_option maxHeartbeats 4000000 in
theorem cc_X8_votesFor {G : zG} {o : cO} {S : cS} {N : Nat} (hG : zOK G) {a0 : Nat} {x1 : Int32} {x2 : Int32} {x3 : Int32} {x4 : Option Nat} (ok : o_X8_votesFor N S a0 x1 x2 x3 x4) : cCi G o dX8_votesFor mX8_votesFor [.ref a0, .int x1, .int x2, .int x3, va_rf x4] S (fun v S' => v = f_X8_votesFor N S a0 x1 x2 x3 x4 ∧ S' = S) := by
  refine cC.ofX rfl (by cases x4 <;> exact Nat.le_of_ble_eq_true rfl) ?_
  rw [show zargs mX8_votesFor.2.2.1 [.ref a0, .int x1, .int x2, .int x3, va_rf x4] = [some (.ref a0), some (.int x1), some (.int x2), some (.int x3), some (va_rf x4), none, none, none, none, none] from by cases x4 <;> rfl]
  exact cX.cutz (b_X8_votesFor_0 (X := fun F => F = f_X8_votesFor N S a0 x1 x2 x3 x4) hG (fun v h => ⟨v, rfl, h, rfl⟩) ok rfl) ⟨rfl, rfl, rfl, rfl, rfl, trivial⟩
/-! X8_verdict -/
def F_X8_verdict_21 (N : Nat) (s0 : Int32) (S : cS) : Int32 := s0
def O_X8_verdict_21 (N : Nat) (s0 : Int32) (S : cS) : Prop := True
set_option maxRecDepth 100000 in
set_option maxHeartbeats 4000000 in
theorem b_X8_verdict_21 {G : zG} {o : cO} {S : cS} {N : Nat} {Q : Option Value → cS → Prop} {X : Int32 → Prop} (hG : zOK G) (hR : ∀ v, X v → Q (some (.int v)) S) {s0 : Int32} (ok : O_X8_verdict_21 N s0 S) (hx : X (F_X8_verdict_21 N s0 S)) : cX G o dX8_verdict mX8_verdict 21 [none, none, none, none] [.int s0] S Q := by
  unfold O_X8_verdict_21 at ok
  unfold F_X8_verdict_21 at hx
  exact c_ireturn rfl rfl dX8_verdict_21 (hR _ hx)
def F_X8_verdict_0 (N : Nat) (x0 : Option Nat) (x1 : Int32) (x2 : Int32) (S : cS) : Int32 := (if 0 ≤ (f_X8_page N S (za x0) x1 x2) then (F_X8_verdict_21 N (cA S (za (cR S 3 (za x0))) (f_X8_page N S (za x0) x1 x2).toNatClampNeg) S) else (F_X8_verdict_21 N (nI 2) S))
def O_X8_verdict_0 (N : Nat) (x0 : Option Nat) (x1 : Int32) (x2 : Int32) (S : cS) : Prop := (cis S x0 7 ∧ o_X8_page N S (za x0) x1 x2) ∧ ((0 ≤ (f_X8_page N S (za x0) x1 x2) → (cis S x0 7) ∧ (cis S (cR S 3 (za x0)) 21 ∧ vp_in (f_X8_page N S (za x0) x1 x2) (cL S (za (cR S 3 (za x0))))) ∧ O_X8_verdict_21 N (cA S (za (cR S 3 (za x0))) (f_X8_page N S (za x0) x1 x2).toNatClampNeg) S) ∧ (¬ 0 ≤ (f_X8_page N S (za x0) x1 x2) → O_X8_verdict_21 N (nI 2) S))
set_option maxRecDepth 100000 in
set_option maxHeartbeats 4000000 in
theorem b_X8_verdict_0 {G : zG} {o : cO} {S : cS} {N : Nat} {Q : Option Value → cS → Prop} {X : Int32 → Prop} (hG : zOK G) (hR : ∀ v, X v → Q (some (.int v)) S) {x0 : Option Nat} {x1 : Int32} {x2 : Int32} (ok : O_X8_verdict_0 N x0 x1 x2 S) (hx : X (F_X8_verdict_0 N x0 x1 x2 S)) : cX G o dX8_verdict mX8_verdict 0 [some (va_rf x0), some (.int x1), some (.int x2), none] [] S Q := by
  unfold O_X8_verdict_0 at ok
  unfold F_X8_verdict_0 at hx
  refine c_aload_nQ dX8_verdict_0 rfl rfl ?_
  refine c_iload_n dX8_verdict_1 rfl rfl ?_
  refine c_iload_n dX8_verdict_2 rfl rfl ?_
  refine c_V2iE (ci := 6) (rr := (RX8, TX8, 14)) (y' := mX8_page) dX8_verdict_3 lX8_51 kX8_page ⟨by decide, by decide⟩ rfl rfl (by decide) ok.1.1 (Nat.le_of_ble_eq_true rfl) (cc_X8_page hG ok.1.2) ?_
  have ok := ok.2
  refine c_istore_3 dX8_verdict_6 (by decide) rfl ?_
  refine c_iload_n dX8_verdict_7 rfl rfl ?_
  refine c_if_ge (tgt := 15) dX8_verdict_8 (by decide) (fun c_8 => ?_) (fun c_8 => ?_)
  · have ok := ok.1 c_8
    have hx := xif_p c_8 hx
    refine c_aload_nQ dX8_verdict_15 rfl rfl ?_
    refine c_getR (C := RX8) (T := TX8) (N := 14) (ci := 6) (k := 3) ⟨rfl, inT8, by decide, fX8_17⟩ (by decide) (by decide) (by decide) dX8_verdict_16 ok.1 ?_
    have ok := ok.2
    refine c_iload_n dX8_verdict_19 rfl rfl ?_
    refine c_iald dX8_verdict_20 ok.1 ?_
    have ok := ok.2
    exact cX.cutz (b_X8_verdict_21 hG hR ok hx) trivial
  · have ok := ok.2 c_8
    have hx := xif_n c_8 hx
    refine c_iconst (v := nI 2) dX8_verdict_11 (by decide) ?_
    refine c_goto (tgt := 21) dX8_verdict_12 (by decide) ?_
    exact cX.cutz (b_X8_verdict_21 hG hR ok hx) trivial
def f_X8_verdict (N : Nat) (S : cS) (a0 : Nat) (x1 : Int32) (x2 : Int32) : Int32 := F_X8_verdict_0 N (some a0) x1 x2 S
def o_X8_verdict (N : Nat) (S : cS) (a0 : Nat) (x1 : Int32) (x2 : Int32) : Prop := O_X8_verdict_0 N (some a0) x1 x2 S
set_option maxRecDepth 100000 in
set_option maxHeartbeats 4000000 in
theorem cc_X8_verdict {G : zG} {o : cO} {S : cS} {N : Nat} (hG : zOK G) {a0 : Nat} {x1 : Int32} {x2 : Int32} (ok : o_X8_verdict N S a0 x1 x2) : cCi G o dX8_verdict mX8_verdict [.ref a0, .int x1, .int x2] S (fun v S' => v = f_X8_verdict N S a0 x1 x2 ∧ S' = S) := by
  refine cC.ofX rfl (by exact Nat.le_of_ble_eq_true rfl) ?_
  show cX G o dX8_verdict mX8_verdict 0 [some (.ref a0), some (.int x1), some (.int x2), none] [] S _
  exact cX.cutz (b_X8_verdict_0 (X := fun F => F = f_X8_verdict N S a0 x1 x2) hG (fun v h => ⟨v, rfl, h, rfl⟩) ok rfl) ⟨rfl, rfl, rfl, trivial⟩
/-! X8_judge -/
def F_X8_judge_29 (N : Nat)  (S : cS) : cS := S
def O_X8_judge_29 (N : Nat)  (S : cS) : Prop := True
set_option maxRecDepth 100000 in
set_option maxHeartbeats 4000000 in
theorem b_X8_judge_29 {G : zG} {o : cO} {S : cS} {N : Nat} {Q : Option Value → cS → Prop} {X : cS → Prop} (hG : zOK G) (hR : ∀ S', X S' → Q none S') (ok : O_X8_judge_29 N S) (hx : X (F_X8_judge_29 N S)) : cX G o dX8_judge mX8_judge 29 [none, none, none, none, none] [] S Q := by
  unfold O_X8_judge_29 at ok
  unfold F_X8_judge_29 at hx
  exact c_return rfl dX8_judge_29 (hR _ hx)
def F_X8_judge_28 (N : Nat) (s0 : Option Nat) (s1 : Int32) (s2 : Int32) (S : cS) : cS := (F_X8_judge_29 N (csA S (za s0) s1.toNatClampNeg s2))
def O_X8_judge_28 (N : Nat) (s0 : Option Nat) (s1 : Int32) (s2 : Int32) (S : cS) : Prop := (cis S s0 21 ∧ vp_in s1 (cL S (za s0))) ∧ O_X8_judge_29 N (csA S (za s0) s1.toNatClampNeg s2)
set_option maxRecDepth 100000 in
set_option maxHeartbeats 4000000 in
theorem b_X8_judge_28 {G : zG} {o : cO} {S : cS} {N : Nat} {Q : Option Value → cS → Prop} {X : cS → Prop} (hG : zOK G) (hR : ∀ S', X S' → Q none S') {s0 : Option Nat} {s1 : Int32} {s2 : Int32} (ok : O_X8_judge_28 N s0 s1 s2 S) (hx : X (F_X8_judge_28 N s0 s1 s2 S)) : cX G o dX8_judge mX8_judge 28 [none, none, none, none, none] [.int s2, .int s1, va_rf s0] S Q := by
  unfold O_X8_judge_28 at ok
  unfold F_X8_judge_28 at hx
  refine c_iast hG dX8_judge_28 ok.1 ?_
  have ok := ok.2
  exact cX.cutz (b_X8_judge_29 hG hR ok hx) trivial
def F_X8_judge_0 (N : Nat) (x0 : Option Nat) (x1 : Int32) (x2 : Int32) (x3 : Int32) (S : cS) : cS := (if (f_X8_page N S (za x0) x1 x2) < 0 then (F_X8_judge_29 N S) else (if x3 = 0 then (F_X8_judge_28 N (cR S 3 (za x0)) (f_X8_page N S (za x0) x1 x2) (nI 2) S) else (F_X8_judge_28 N (cR S 3 (za x0)) (f_X8_page N S (za x0) x1 x2) (nI 1) S)))
def O_X8_judge_0 (N : Nat) (x0 : Option Nat) (x1 : Int32) (x2 : Int32) (x3 : Int32) (S : cS) : Prop := (cis S x0 7 ∧ o_X8_page N S (za x0) x1 x2) ∧ (((f_X8_page N S (za x0) x1 x2) < 0 → O_X8_judge_29 N S) ∧ (¬ (f_X8_page N S (za x0) x1 x2) < 0 → (cis S x0 7) ∧ ((x3 = 0 → O_X8_judge_28 N (cR S 3 (za x0)) (f_X8_page N S (za x0) x1 x2) (nI 2) S) ∧ (¬ x3 = 0 → O_X8_judge_28 N (cR S 3 (za x0)) (f_X8_page N S (za x0) x1 x2) (nI 1) S))))
set_option maxRecDepth 100000 in
set_option maxHeartbeats 4000000 in
theorem b_X8_judge_0 {G : zG} {o : cO} {S : cS} {N : Nat} {Q : Option Value → cS → Prop} {X : cS → Prop} (hG : zOK G) (hR : ∀ S', X S' → Q none S') {x0 : Option Nat} {x1 : Int32} {x2 : Int32} {x3 : Int32} (ok : O_X8_judge_0 N x0 x1 x2 x3 S) (hx : X (F_X8_judge_0 N x0 x1 x2 x3 S)) : cX G o dX8_judge mX8_judge 0 [some (va_rf x0), some (.int x1), some (.int x2), some (.int x3), none] [] S Q := by
  unfold O_X8_judge_0 at ok
  unfold F_X8_judge_0 at hx
  refine c_aload_nQ dX8_judge_0 rfl rfl ?_
  refine c_iload_n dX8_judge_1 rfl rfl ?_
  refine c_iload_n dX8_judge_2 rfl rfl ?_
  refine c_V2iE (ci := 6) (rr := (RX8, TX8, 14)) (y' := mX8_page) dX8_judge_3 lX8_51 kX8_page ⟨by decide, by decide⟩ rfl rfl (by decide) ok.1.1 (Nat.le_of_ble_eq_true rfl) (cc_X8_page hG ok.1.2) ?_
  have ok := ok.2
  refine c_istore_4 dX8_judge_6 (by decide) rfl ?_
  refine c_iload dX8_judge_8 rfl ?_
  refine c_if_lt (tgt := 29) dX8_judge_10 (by decide) (fun c_10 => ?_) (fun c_10 => ?_)
  · have ok := ok.1 c_10
    have hx := xif_p c_10 hx
    exact cX.cutz (b_X8_judge_29 hG hR ok hx) trivial
  · have ok := ok.2 c_10
    have hx := xif_n c_10 hx
    refine c_aload_nQ dX8_judge_13 rfl rfl ?_
    refine c_getR (C := RX8) (T := TX8) (N := 14) (ci := 6) (k := 3) ⟨rfl, inT8, by decide, fX8_17⟩ (by decide) (by decide) (by decide) dX8_judge_14 ok.1 ?_
    have ok := ok.2
    refine c_iload dX8_judge_17 rfl ?_
    refine c_iload_n dX8_judge_19 rfl rfl ?_
    refine c_if_eq (tgt := 27) dX8_judge_20 (by decide) (fun c_20 => ?_) (fun c_20 => ?_)
    · have ok := ok.1 c_20
      have hx := xif_p c_20 hx
      refine c_iconst (v := nI 2) dX8_judge_27 (by decide) ?_
      exact cX.cutz (b_X8_judge_28 hG hR ok hx) trivial
    · have ok := ok.2 c_20
      have hx := xif_n c_20 hx
      refine c_iconst (v := nI 1) dX8_judge_23 (by decide) ?_
      refine c_goto (tgt := 28) dX8_judge_24 (by decide) ?_
      exact cX.cutz (b_X8_judge_28 hG hR ok hx) trivial
def f_X8_judge (N : Nat) (S : cS) (a0 : Nat) (x1 : Int32) (x2 : Int32) (x3 : Int32) : cS := F_X8_judge_0 N (some a0) x1 x2 x3 S
def o_X8_judge (N : Nat) (S : cS) (a0 : Nat) (x1 : Int32) (x2 : Int32) (x3 : Int32) : Prop := O_X8_judge_0 N (some a0) x1 x2 x3 S
set_option maxRecDepth 100000 in
set_option maxHeartbeats 4000000 in
theorem cc_X8_judge {G : zG} {o : cO} {S : cS} {N : Nat} (hG : zOK G) {a0 : Nat} {x1 : Int32} {x2 : Int32} {x3 : Int32} (ok : o_X8_judge N S a0 x1 x2 x3) : cCv G o dX8_judge mX8_judge [.ref a0, .int x1, .int x2, .int x3] S (fun S' => S' = f_X8_judge N S a0 x1 x2 x3) := by
  refine cC.ofX rfl (by exact Nat.le_of_ble_eq_true rfl) ?_
  show cX G o dX8_judge mX8_judge 0 [some (.ref a0), some (.int x1), some (.int x2), some (.int x3), none] [] S _
  exact cX.cutz (b_X8_judge_0 (X := fun F => F = f_X8_judge N S a0 x1 x2 x3) hG (fun S' h => ⟨rfl, h⟩) ok rfl) ⟨rfl, rfl, rfl, rfl, trivial⟩
/-! X7_approves -/
def F_X7_approves_80 (N : Nat) (s0 : Int32) (S : cS) : Int32 × cS := (s0, S)
def O_X7_approves_80 (N : Nat) (s0 : Int32) (S : cS) : Prop := narrow .boolean (.int s0) = .int s0
set_option maxRecDepth 100000 in
set_option maxHeartbeats 4000000 in
theorem b_X7_approves_80 {G : zG} {o : cO} {S : cS} {N : Nat} {Q : Option Value → cS → Prop} {X : Int32 × cS → Prop} (hG : zOK G) (hR : ∀ v S', X (v, S') → Q (some (.int v)) S') {s0 : Int32} (ok : O_X7_approves_80 N s0 S) (hx : X (F_X7_approves_80 N s0 S)) : cX G o dX7_approves mX7_approves 80 [none, none, none] [.int s0] S Q := by
  unfold O_X7_approves_80 at ok
  unfold F_X7_approves_80 at hx
  exact c_ireturn rfl ok dX7_approves_80 (hR _ _ hx)
def F_X7_approves_59 (N : Nat) (x0 : Option Nat) (x1 : Int32) (S : cS) : Int32 × cS := (if (f_X8_verdict N S (za (cR S 3 (za x0))) (cI S 9 (za x0)) x1) = (nI 1) then (F_X7_approves_80 N (nI 1) S) else (F_X7_approves_80 N (nI 0) S))
def O_X7_approves_59 (N : Nat) (x0 : Option Nat) (x1 : Int32) (S : cS) : Prop := (cis S x0 6) ∧ (cis S x0 6) ∧ (cis S (cR S 3 (za x0)) 7 ∧ o_X8_verdict N S (za (cR S 3 (za x0))) (cI S 9 (za x0)) x1) ∧ (((f_X8_verdict N S (za (cR S 3 (za x0))) (cI S 9 (za x0)) x1) = (nI 1) → O_X7_approves_80 N (nI 1) S) ∧ (¬ (f_X8_verdict N S (za (cR S 3 (za x0))) (cI S 9 (za x0)) x1) = (nI 1) → O_X7_approves_80 N (nI 0) S))
set_option maxRecDepth 100000 in
set_option maxHeartbeats 4000000 in
theorem b_X7_approves_59 {G : zG} {o : cO} {S : cS} {N : Nat} {Q : Option Value → cS → Prop} {X : Int32 × cS → Prop} (hG : zOK G) (hR : ∀ v S', X (v, S') → Q (some (.int v)) S') {x0 : Option Nat} {x1 : Int32} (ok : O_X7_approves_59 N x0 x1 S) (hx : X (F_X7_approves_59 N x0 x1 S)) : cX G o dX7_approves mX7_approves 59 [some (va_rf x0), some (.int x1), none] [] S Q := by
  unfold O_X7_approves_59 at ok
  unfold F_X7_approves_59 at hx
  refine c_aload_nQ dX7_approves_59 rfl rfl ?_
  refine c_getR (C := RX6) (T := TX6) (N := 19) (ci := 5) (k := 3) ⟨rfl, inT6, by decide, fX7_80⟩ (by decide) (by decide) (by decide) dX7_approves_60 ok.1 ?_
  have ok := ok.2
  refine c_aload_nQ dX7_approves_63 rfl rfl ?_
  refine c_getI (C := RX6) (T := TX6) (N := 19) (ci := 5) (k := 9) ⟨rfl, inT6, by decide, fX7_18⟩ (by decide) (by decide) (by decide) dX7_approves_64 ok.1 ?_
  have ok := ok.2
  refine c_iload_n dX7_approves_67 rfl rfl ?_
  refine c_V2iE (ci := 6) (rr := (RX8, TX8, 14)) (y' := mX8_verdict) dX7_approves_68 lX7_394 kX8_verdict ⟨by decide, by decide⟩ rfl rfl (by decide) ok.1.1 (Nat.le_of_ble_eq_true rfl) (cc_X8_verdict hG ok.1.2) ?_
  have ok := ok.2
  refine c_iconst (v := nI 1) dX7_approves_71 (by decide) ?_
  refine c_icmp_ne (tgt := 79) dX7_approves_72 (by decide) (fun c_72 => ?_) (fun c_72 => ?_)
  · have ok := ok.2 c_72
    have hx := xif_n c_72 hx
    refine c_iconst (v := nI 0) dX7_approves_79 (by decide) ?_
    exact cX.cutz (b_X7_approves_80 hG hR ok hx) trivial
  · have ok := ok.1 c_72
    have hx := xif_p c_72 hx
    refine c_iconst (v := nI 1) dX7_approves_75 (by decide) ?_
    refine c_goto (tgt := 80) dX7_approves_76 (by decide) ?_
    exact cX.cutz (b_X7_approves_80 hG hR ok hx) trivial
def F_X7_approves_56 (N : Nat) (x0 : Option Nat) (x1 : Int32) (s0 : Option Nat) (s1 : Int32) (s2 : Int32) (s3 : Int32) (S : cS) : Int32 × cS := (F_X7_approves_59 N x0 x1 (f_X8_judge N S (za s0) s1 s2 s3))
def O_X7_approves_56 (N : Nat) (x0 : Option Nat) (x1 : Int32) (s0 : Option Nat) (s1 : Int32) (s2 : Int32) (s3 : Int32) (S : cS) : Prop := (cis S s0 7 ∧ o_X8_judge N S (za s0) s1 s2 s3) ∧ O_X7_approves_59 N x0 x1 (f_X8_judge N S (za s0) s1 s2 s3)
set_option maxRecDepth 100000 in
set_option maxHeartbeats 4000000 in
theorem b_X7_approves_56 {G : zG} {o : cO} {S : cS} {N : Nat} {Q : Option Value → cS → Prop} {X : Int32 × cS → Prop} (hG : zOK G) (hR : ∀ v S', X (v, S') → Q (some (.int v)) S') {x0 : Option Nat} {x1 : Int32} {s0 : Option Nat} {s1 : Int32} {s2 : Int32} {s3 : Int32} (ok : O_X7_approves_56 N x0 x1 s0 s1 s2 s3 S) (hx : X (F_X7_approves_56 N x0 x1 s0 s1 s2 s3 S)) : cX G o dX7_approves mX7_approves 56 [some (va_rf x0), some (.int x1), none] [.int s3, .int s2, .int s1, va_rf s0] S Q := by
  unfold O_X7_approves_56 at ok
  unfold F_X7_approves_56 at hx
  refine c_V3vE (ci := 6) (rr := (RX8, TX8, 14)) (y' := mX8_judge) dX7_approves_56 lX7_397 kX8_judge ⟨by decide, by decide⟩ rfl rfl (by decide) ok.1.1 (Nat.le_of_ble_eq_true rfl) (cc_X8_judge hG ok.1.2) ?_
  have ok := ok.2
  exact cX.cutz (b_X7_approves_59 hG hR ok hx) ⟨rfl, rfl, trivial⟩
def F_X7_approves_55 (N : Nat) (x0 : Option Nat) (x1 : Int32) (s0 : Option Nat) (s1 : Int32) (s2 : Int32) (S : cS) : Int32 × cS := (F_X7_approves_56 N x0 x1 s0 s1 s2 (nI 0) S)
def O_X7_approves_55 (N : Nat) (x0 : Option Nat) (x1 : Int32) (s0 : Option Nat) (s1 : Int32) (s2 : Int32) (S : cS) : Prop := O_X7_approves_56 N x0 x1 s0 s1 s2 (nI 0) S
set_option maxRecDepth 100000 in
set_option maxHeartbeats 4000000 in
theorem b_X7_approves_55 {G : zG} {o : cO} {S : cS} {N : Nat} {Q : Option Value → cS → Prop} {X : Int32 × cS → Prop} (hG : zOK G) (hR : ∀ v S', X (v, S') → Q (some (.int v)) S') {x0 : Option Nat} {x1 : Int32} {s0 : Option Nat} {s1 : Int32} {s2 : Int32} (ok : O_X7_approves_55 N x0 x1 s0 s1 s2 S) (hx : X (F_X7_approves_55 N x0 x1 s0 s1 s2 S)) : cX G o dX7_approves mX7_approves 55 [some (va_rf x0), some (.int x1), none] [.int s2, .int s1, va_rf s0] S Q := by
  unfold O_X7_approves_55 at ok
  unfold F_X7_approves_55 at hx
  refine c_iconst (v := nI 0) dX7_approves_55 (by decide) ?_
  exact cX.cutz (b_X7_approves_56 hG hR ok hx) ⟨rfl, rfl, trivial⟩
def F_X7_approves_48 (N : Nat) (x0 : Option Nat) (x1 : Int32) (s0 : Option Nat) (s1 : Int32) (s2 : Int32) (s3 : Int32) (S : cS) : Int32 × cS := (if s3 = 0 then (F_X7_approves_55 N x0 x1 s0 s1 s2 S) else (F_X7_approves_56 N x0 x1 s0 s1 s2 (nI 1) S))
def O_X7_approves_48 (N : Nat) (x0 : Option Nat) (x1 : Int32) (s0 : Option Nat) (s1 : Int32) (s2 : Int32) (s3 : Int32) (S : cS) : Prop := ((s3 = 0 → O_X7_approves_55 N x0 x1 s0 s1 s2 S) ∧ (¬ s3 = 0 → O_X7_approves_56 N x0 x1 s0 s1 s2 (nI 1) S))
set_option maxRecDepth 100000 in
set_option maxHeartbeats 4000000 in
theorem b_X7_approves_48 {G : zG} {o : cO} {S : cS} {N : Nat} {Q : Option Value → cS → Prop} {X : Int32 × cS → Prop} (hG : zOK G) (hR : ∀ v S', X (v, S') → Q (some (.int v)) S') {x0 : Option Nat} {x1 : Int32} {s0 : Option Nat} {s1 : Int32} {s2 : Int32} {s3 : Int32} (ok : O_X7_approves_48 N x0 x1 s0 s1 s2 s3 S) (hx : X (F_X7_approves_48 N x0 x1 s0 s1 s2 s3 S)) : cX G o dX7_approves mX7_approves 48 [some (va_rf x0), some (.int x1), none] [.int s3, .int s2, .int s1, va_rf s0] S Q := by
  unfold O_X7_approves_48 at ok
  unfold F_X7_approves_48 at hx
  refine c_if_eq (tgt := 55) dX7_approves_48 (by decide) (fun c_48 => ?_) (fun c_48 => ?_)
  · have ok := ok.1 c_48
    have hx := xif_p c_48 hx
    exact cX.cutz (b_X7_approves_55 hG hR ok hx) ⟨rfl, rfl, trivial⟩
  · have ok := ok.2 c_48
    have hx := xif_n c_48 hx
    refine c_iconst (v := nI 1) dX7_approves_51 (by decide) ?_
    refine c_goto (tgt := 56) dX7_approves_52 (by decide) ?_
    exact cX.cutz (b_X7_approves_56 hG hR ok hx) ⟨rfl, rfl, trivial⟩
def F_X7_approves_0 (N : Nat) (x0 : Option Nat) (x1 : Int32) (S : cS) : Int32 × cS := (if (f_X8_verdict N S (za (cR S 3 (za x0))) (cI S 9 (za x0)) x1) = 0 then (if (f_X8_proposal N S (za (cR S 3 (za x0))) (cI S 9 (za x0)) x1) = none then (F_X7_approves_55 N x0 x1 (cR S 3 (za x0)) (cI S 9 (za x0)) x1 S) else (F_X7_approves_48 N x0 x1 (cR S 3 (za x0)) (cI S 9 (za x0)) x1 ((f_X7_isValid N S x0 (f_X8_proposal N S (za (cR S 3 (za x0))) (cI S 9 (za x0)) x1) (nI 6)).1) (f_X7_isValid N S x0 (f_X8_proposal N S (za (cR S 3 (za x0))) (cI S 9 (za x0)) x1) (nI 6)).2)) else (F_X7_approves_59 N x0 x1 S))
def O_X7_approves_0 (N : Nat) (x0 : Option Nat) (x1 : Int32) (S : cS) : Prop := (cis S x0 6) ∧ (cis S x0 6) ∧ (cis S (cR S 3 (za x0)) 7 ∧ o_X8_verdict N S (za (cR S 3 (za x0))) (cI S 9 (za x0)) x1) ∧ (((f_X8_verdict N S (za (cR S 3 (za x0))) (cI S 9 (za x0)) x1) = 0 → (cis S x0 6) ∧ (cis S x0 6) ∧ (cis S (cR S 3 (za x0)) 7 ∧ o_X8_proposal N S (za (cR S 3 (za x0))) (cI S 9 (za x0)) x1) ∧ (cis S x0 6) ∧ (cis S x0 6) ∧ (((f_X8_proposal N S (za (cR S 3 (za x0))) (cI S 9 (za x0)) x1) = none → O_X7_approves_55 N x0 x1 (cR S 3 (za x0)) (cI S 9 (za x0)) x1 S) ∧ (¬ (f_X8_proposal N S (za (cR S 3 (za x0))) (cI S 9 (za x0)) x1) = none → (o_X7_isValid N S x0 (f_X8_proposal N S (za (cR S 3 (za x0))) (cI S 9 (za x0)) x1) (nI 6)) ∧ O_X7_approves_48 N x0 x1 (cR S 3 (za x0)) (cI S 9 (za x0)) x1 ((f_X7_isValid N S x0 (f_X8_proposal N S (za (cR S 3 (za x0))) (cI S 9 (za x0)) x1) (nI 6)).1) (f_X7_isValid N S x0 (f_X8_proposal N S (za (cR S 3 (za x0))) (cI S 9 (za x0)) x1) (nI 6)).2))) ∧ (¬ (f_X8_verdict N S (za (cR S 3 (za x0))) (cI S 9 (za x0)) x1) = 0 → O_X7_approves_59 N x0 x1 S))
set_option maxRecDepth 100000 in
set_option maxHeartbeats 4000000 in
theorem b_X7_approves_0 {G : zG} {o : cO} {S : cS} {N : Nat} {Q : Option Value → cS → Prop} {X : Int32 × cS → Prop} (hG : zOK G) (hR : ∀ v S', X (v, S') → Q (some (.int v)) S') {x0 : Option Nat} {x1 : Int32} (ok : O_X7_approves_0 N x0 x1 S) (hx : X (F_X7_approves_0 N x0 x1 S)) : cX G o dX7_approves mX7_approves 0 [some (va_rf x0), some (.int x1), none] [] S Q := by
  unfold O_X7_approves_0 at ok
  unfold F_X7_approves_0 at hx
  refine c_aload_nQ dX7_approves_0 rfl rfl ?_
  refine c_getR (C := RX6) (T := TX6) (N := 19) (ci := 5) (k := 3) ⟨rfl, inT6, by decide, fX7_80⟩ (by decide) (by decide) (by decide) dX7_approves_1 ok.1 ?_
  have ok := ok.2
  refine c_aload_nQ dX7_approves_4 rfl rfl ?_
  refine c_getI (C := RX6) (T := TX6) (N := 19) (ci := 5) (k := 9) ⟨rfl, inT6, by decide, fX7_18⟩ (by decide) (by decide) (by decide) dX7_approves_5 ok.1 ?_
  have ok := ok.2
  refine c_iload_n dX7_approves_8 rfl rfl ?_
  refine c_V2iE (ci := 6) (rr := (RX8, TX8, 14)) (y' := mX8_verdict) dX7_approves_9 lX7_394 kX8_verdict ⟨by decide, by decide⟩ rfl rfl (by decide) ok.1.1 (Nat.le_of_ble_eq_true rfl) (cc_X8_verdict hG ok.1.2) ?_
  have ok := ok.2
  refine c_if_ne (tgt := 59) dX7_approves_12 (by decide) (fun c_12 => ?_) (fun c_12 => ?_)
  · have ok := ok.2 c_12
    have hx := xif_n c_12 hx
    exact cX.cutz (b_X7_approves_59 hG hR ok hx) ⟨rfl, rfl, trivial⟩
  · have ok := ok.1 c_12
    have hx := xif_p c_12 hx
    refine c_aload_nQ dX7_approves_15 rfl rfl ?_
    refine c_getR (C := RX6) (T := TX6) (N := 19) (ci := 5) (k := 3) ⟨rfl, inT6, by decide, fX7_80⟩ (by decide) (by decide) (by decide) dX7_approves_16 ok.1 ?_
    have ok := ok.2
    refine c_aload_nQ dX7_approves_19 rfl rfl ?_
    refine c_getI (C := RX6) (T := TX6) (N := 19) (ci := 5) (k := 9) ⟨rfl, inT6, by decide, fX7_18⟩ (by decide) (by decide) (by decide) dX7_approves_20 ok.1 ?_
    have ok := ok.2
    refine c_iload_n dX7_approves_23 rfl rfl ?_
    refine c_V2qE (ci := 6) (rr := (RX8, TX8, 14)) (y' := mX8_proposal) dX7_approves_24 lX7_172 kX8_proposal ⟨by decide, by decide⟩ rfl rfl (by decide) ok.1.1 (Nat.le_of_ble_eq_true rfl) (cc_X8_proposal hG ok.1.2) ?_
    have ok := ok.2
    refine c_astore_2Q dX7_approves_27 (by decide) rfl ?_
    refine c_aload_nQ dX7_approves_28 rfl rfl ?_
    refine c_getR (C := RX6) (T := TX6) (N := 19) (ci := 5) (k := 3) ⟨rfl, inT6, by decide, fX7_80⟩ (by decide) (by decide) (by decide) dX7_approves_29 ok.1 ?_
    have ok := ok.2
    refine c_aload_nQ dX7_approves_32 rfl rfl ?_
    refine c_getI (C := RX6) (T := TX6) (N := 19) (ci := 5) (k := 9) ⟨rfl, inT6, by decide, fX7_18⟩ (by decide) (by decide) (by decide) dX7_approves_33 ok.1 ?_
    have ok := ok.2
    refine c_iload_n dX7_approves_36 rfl rfl ?_
    refine c_aload_nQ dX7_approves_37 rfl rfl ?_
    refine c_ifnullI (tgt := 55) dX7_approves_38 (by decide) (fun c_38 => ?_) (fun c_38 => ?_)
    · have ok := ok.1 c_38
      have hx := xif_p c_38 hx
      exact cX.cutz (b_X7_approves_55 hG hR ok hx) ⟨rfl, rfl, trivial⟩
    · have ok := ok.2 c_38
      have hx := xif_n c_38 hx
      refine c_aload_nQ dX7_approves_41 rfl rfl ?_
      refine c_aload_nQ dX7_approves_42 rfl rfl ?_
      refine c_bipush (v := nI 6) dX7_approves_43 (by decide) ?_
      refine c_S3iE (y' := mX7_isValid) dX7_approves_45 lX7_161 kX7_isValid ⟨by decide, by decide⟩ (by simp only [List.map_cons, List.map_nil, List.sum_cons, List.sum_nil, zcat_rf, zcat_i, zcat_l, zcat_r] <;> decide) (cc_X7_isValid hG ok.1) ?_
      have ok := ok.2
      exact cX.cutz (b_X7_approves_48 hG hR ok hx) ⟨rfl, rfl, trivial⟩
def f_X7_approves (N : Nat) (S : cS) (x0 : Option Nat) (x1 : Int32) : Int32 × cS := F_X7_approves_0 N x0 x1 S
def o_X7_approves (N : Nat) (S : cS) (x0 : Option Nat) (x1 : Int32) : Prop := O_X7_approves_0 N x0 x1 S
set_option maxRecDepth 100000 in
set_option maxHeartbeats 4000000 in
theorem cc_X7_approves {G : zG} {o : cO} {S : cS} {N : Nat} (hG : zOK G) {x0 : Option Nat} {x1 : Int32} (ok : o_X7_approves N S x0 x1) : cCi G o dX7_approves mX7_approves [va_rf x0, .int x1] S (fun v S' => v = (f_X7_approves N S x0 x1).1 ∧ S' = (f_X7_approves N S x0 x1).2) := by
  refine cC.ofX rfl (by cases x0 <;> exact Nat.le_of_ble_eq_true rfl) ?_
  rw [show zargs mX7_approves.2.2.1 [va_rf x0, .int x1] = [some (va_rf x0), some (.int x1), none] from by cases x0 <;> rfl]
  exact cX.cutz (b_X7_approves_0 (X := fun F => F = f_X7_approves N S x0 x1) hG (fun v S' h => ⟨v, rfl, by rw [← h], by rw [← h]⟩) ok rfl) ⟨rfl, rfl, trivial⟩

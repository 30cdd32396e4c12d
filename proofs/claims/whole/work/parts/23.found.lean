/-! the world is made: up to its nodes -/
def F_X10_found1_61 (N : Nat) (rec : Option Nat → Int32 → cS → Nat × Option Nat × cS) (x3 : Option Nat) (x4 : Int32) (s0 : Option Nat) (s1 : Int32) (s2 : Option Nat) (S : cS) : Nat × Option Nat × cS := (rec x3 (x4 + nI 1) (csP S (za s0) s1.toNatClampNeg s2))
def O_X10_found1_61 (N : Nat) (rok : Option Nat → Int32 → cS → Prop) (x3 : Option Nat) (x4 : Int32) (s0 : Option Nat) (s1 : Int32) (s2 : Option Nat) (S : cS) : Prop := (cis S s0 25 ∧ vp_in s1 (cL S (za s0)) ∧ (s2 = none ∨ cis S s2 6)) ∧ rok x3 (x4 + nI 1) (csP S (za s0) s1.toNatClampNeg s2)
set_option maxRecDepth 100000 in
set_option maxHeartbeats 4000000 in
theorem b_X10_found1_61 {G : zG} {o : cO} {S : cS} {N : Nat} {Q : Option Value → cS → Prop} {X : Nat × Option Nat × cS → Prop} (hG : zOK G) (hX0 : ∀ (x3 : Option Nat) (S' : cS), X (0, x3, S') → cX G o dX10_found mX10_found 68 [none, none, none, some (va_rf x3), none, none, none, none] [] S' Q) {rec : Option Nat → Int32 → cS → Nat × Option Nat × cS} {rok : Option Nat → Int32 → cS → Prop} (hrec : ∀ (x3 : Option Nat) (x4 : Int32) (S : cS), rok x3 x4 S → X (rec x3 x4 S) → cX G o dX10_found mX10_found 35 [none, none, none, some (va_rf x3), some (.int x4), none, none, none] [] S Q) {x3 : Option Nat} {x4 : Int32} {s0 : Option Nat} {s1 : Int32} {s2 : Option Nat} (ok : O_X10_found1_61 N rok x3 x4 s0 s1 s2 S) (hx : X (F_X10_found1_61 N rec x3 x4 s0 s1 s2 S)) : cX G o dX10_found mX10_found 61 [none, none, none, some (va_rf x3), some (.int x4), none, none, none] [va_rf s2, .int s1, va_rf s0] S Q := by
  unfold O_X10_found1_61 at ok
  unfold F_X10_found1_61 at hx
  refine c_aast (t := 5) (ci := 5) (rr := (RX6, TX6, 19)) rfl rfl (by decide) (by decide) dX10_found_61 ok.1 ?_
  have ok := ok.2
  refine c_iinc_4 (v := (x4 + nI 1)) dX10_found_62 rfl (by first | rfl | (congr 1)) (by decide) (by simp [zok, zg, zcat_rf]) ?_
  refine c_goto (tgt := 35) dX10_found_65 (by decide) ?_
  exact cX.cutz (hrec _ _ (csP S (za s0) s1.toNatClampNeg s2) ok hx) ⟨rfl, rfl, trivial⟩
def B_X10_found1_35 (N : Nat) (rec : Option Nat → Int32 → cS → Nat × Option Nat × cS) (x3 : Option Nat) (x4 : Int32) (S : cS) : Nat × Option Nat × cS := (if (nI (cL S (za (cR S 4 (za x3))))) ≤ x4 then (0, x3, S) else (F_X10_found1_61 N rec x3 x4 (cR S 4 (za x3)) x4 (some (cn S)) (f_X6_init N (csNew S 6 19) (za (some (cn S))) x3 x4)))
def OB_X10_found1_35 (N : Nat) (rok : Option Nat → Int32 → cS → Prop) (x3 : Option Nat) (x4 : Int32) (S : cS) : Prop := (cis S x3 9) ∧ (cis S (cR S 4 (za x3)) 25) ∧ (((nI (cL S (za (cR S 4 (za x3))))) ≤ x4 → True) ∧ (¬ (nI (cL S (za (cR S 4 (za x3))))) ≤ x4 → (cis S x3 9) ∧ ((some (cn S)) = some (za (some (cn S))) ∧ o_X6_init N (csNew S 6 19) (za (some (cn S))) x3 x4) ∧ O_X10_found1_61 N rok x3 x4 (cR S 4 (za x3)) x4 (some (cn S)) (f_X6_init N (csNew S 6 19) (za (some (cn S))) x3 x4)))
set_option maxRecDepth 100000 in
set_option maxHeartbeats 4000000 in
theorem bb_X10_found1_35 {G : zG} {o : cO} {S : cS} {N : Nat} {Q : Option Value → cS → Prop} {X : Nat × Option Nat × cS → Prop} (hG : zOK G) (hX0 : ∀ (x3 : Option Nat) (S' : cS), X (0, x3, S') → cX G o dX10_found mX10_found 68 [none, none, none, some (va_rf x3), none, none, none, none] [] S' Q) {rec : Option Nat → Int32 → cS → Nat × Option Nat × cS} {rok : Option Nat → Int32 → cS → Prop} (hrec : ∀ (x3 : Option Nat) (x4 : Int32) (S : cS), rok x3 x4 S → X (rec x3 x4 S) → cX G o dX10_found mX10_found 35 [none, none, none, some (va_rf x3), some (.int x4), none, none, none] [] S Q) {x3 : Option Nat} {x4 : Int32} (ok : OB_X10_found1_35 N rok x3 x4 S) (hx : X (B_X10_found1_35 N rec x3 x4 S)) : cX G o dX10_found mX10_found 35 [none, none, none, some (va_rf x3), some (.int x4), none, none, none] [] S Q := by
  unfold OB_X10_found1_35 at ok
  unfold B_X10_found1_35 at hx
  refine c_iload dX10_found_35 rfl ?_
  refine c_aload_nQ dX10_found_37 rfl rfl ?_
  refine c_getR (C := RX10) (T := TX10) (N := 12) (ci := 8) (k := 4) ⟨rfl, inT10, by decide, fX10_64⟩ (by decide) (by decide) (by decide) dX10_found_38 ok.1 ?_
  have ok := ok.2
  refine c_alen (t := 5) (ty := (.object "QuorumLedger$Node")) rfl dX10_found_41 ok.1 ?_
  have ok := ok.2
  refine c_icmp_ge (tgt := 68) dX10_found_42 (by decide) (fun c_42 => ?_) (fun c_42 => ?_)
  · have ok := ok.1 c_42
    have hx := xif_p c_42 hx
    exact cX.cutz (hX0 _ S hx) ⟨rfl, trivial⟩
  · have ok := ok.2 c_42
    have hx := xif_n c_42 hx
    refine c_aload_nQ dX10_found_45 rfl rfl ?_
    refine c_getR (C := RX10) (T := TX10) (N := 12) (ci := 8) (k := 4) ⟨rfl, inT10, by decide, fX10_64⟩ (by decide) (by decide) (by decide) dX10_found_46 ok.1 ?_
    have ok := ok.2
    refine c_iload dX10_found_49 rfl ?_
    refine c_new5 clX10_62 dX10_found_51 ?_
    refine c_dup dX10_found_54 (zcat_rf _) ?_
    refine c_aload_nQ dX10_found_55 rfl rfl ?_
    refine c_iload dX10_found_56 rfl ?_
    refine c_I2vE (y' := mX6_init) dX10_found_58 lX10_79 kX6_init ⟨by decide, by decide⟩ ⟨rfl, rfl⟩ ok.1.1 (by simp only [List.map_cons, List.map_nil, List.sum_cons, List.sum_nil, zcat_rf, zcat_i, zcat_l, zcat_r] <;> decide) (cc_X6_init hG ok.1.2) ?_
    have ok := ok.2
    exact cX.cutz (b_X10_found1_61 hG hX0 hrec ok hx) ⟨rfl, rfl, trivial⟩
def L_X10_found1_35 (N : Nat) : Nat → Option Nat → Int32 → cS → Nat × Option Nat × cS
  | 0, x3, x4, S => (0, none, S)
  | n + 1, x3, x4, S => B_X10_found1_35 N (L_X10_found1_35 N n) x3 x4 S
def OL_X10_found1_35 (N : Nat) : Nat → Option Nat → Int32 → cS → Prop
  | 0, _, _, _ => False
  | n + 1, x3, x4, S => OB_X10_found1_35 N (OL_X10_found1_35 N n) x3 x4 S
set_option maxRecDepth 100000 in
set_option maxHeartbeats 4000000 in
theorem l_X10_found1_35 {G : zG} {o : cO} {N : Nat} {Q : Option Value → cS → Prop} {X : Nat × Option Nat × cS → Prop} (hG : zOK G) (hX0 : ∀ (x3 : Option Nat) (S' : cS), X (0, x3, S') → cX G o dX10_found mX10_found 68 [none, none, none, some (va_rf x3), none, none, none, none] [] S' Q) : ∀ (n : Nat) (x3 : Option Nat) (x4 : Int32) (S : cS), OL_X10_found1_35 N n x3 x4 S → X (L_X10_found1_35 N n x3 x4 S) → cX G o dX10_found mX10_found 35 [none, none, none, some (va_rf x3), some (.int x4), none, none, none] [] S Q := by
  intro n
  induction n with
  | zero => intro x3 x4 S ok; exact absurd ok id
  | succ n ih =>
    intro x3 x4 S ok hx
    exact bb_X10_found1_35 hG hX0 (rec := L_X10_found1_35 N n) (rok := OL_X10_found1_35 N n) (fun x3 x4 S ok hx => ih x3 x4 S ok hx) ok hx
def A_X10_found1_35 (N : Nat) (x3 : Option Nat) (x4 : Int32) (S : cS) (z : Nat × Option Nat × cS) : Option Nat × cS := (z.2.1, z.2.2)
def OA_X10_found1_35 (N : Nat) (x3 : Option Nat) (x4 : Int32) (S : cS) (z : Nat × Option Nat × cS) : Prop := True
set_option maxRecDepth 100000 in
set_option maxHeartbeats 4000000 in
theorem c_X10_found1_35 {G : zG} {o : cO} {S : cS} {N : Nat} {Q : Option Value → cS → Prop} {X : Option Nat × cS → Prop} (hG : zOK G) (hK : ∀ (x3 : Option Nat) (S' : cS), X (x3, S') → cX G o dX10_found mX10_found 68 [none, none, none, some (va_rf x3), none, none, none, none] [] S' Q) {x3 : Option Nat} {x4 : Int32} (ok : OL_X10_found1_35 N N x3 x4 S ∧ OA_X10_found1_35 N x3 x4 S (L_X10_found1_35 N N x3 x4 S)) (hx : X (A_X10_found1_35 N x3 x4 S (L_X10_found1_35 N N x3 x4 S))) : cX G o dX10_found mX10_found 35 [none, none, none, some (va_rf x3), some (.int x4), none, none, none] [] S Q := by
  refine l_X10_found1_35 hG ?_ N x3 x4 S ok.1 (X := fun z => OA_X10_found1_35 N x3 x4 S z ∧ X (A_X10_found1_35 N x3 x4 S z)) ⟨ok.2, hx⟩
  · intro x3' S' hz
    obtain ⟨ok, hx⟩ := hz
    unfold OA_X10_found1_35 at ok
    unfold A_X10_found1_35 at hx
    exact cX.cutz (hK _ _ hx) ⟨rfl, trivial⟩
def F_X10_found1_31 (N : Nat) (s0 : Option Nat) (S : cS) : Option Nat × cS := (A_X10_found1_35 N s0 (nI 0) S (L_X10_found1_35 N N s0 (nI 0) S))
def O_X10_found1_31 (N : Nat) (s0 : Option Nat) (S : cS) : Prop := (OL_X10_found1_35 N N s0 (nI 0) S ∧ OA_X10_found1_35 N s0 (nI 0) S (L_X10_found1_35 N N s0 (nI 0) S))
set_option maxRecDepth 100000 in
set_option maxHeartbeats 4000000 in
theorem b_X10_found1_31 {G : zG} {o : cO} {S : cS} {N : Nat} {Q : Option Value → cS → Prop} {X : Option Nat × cS → Prop} (hG : zOK G) (hK : ∀ (x3 : Option Nat) (S' : cS), X (x3, S') → cX G o dX10_found mX10_found 68 [none, none, none, some (va_rf x3), none, none, none, none] [] S' Q) {s0 : Option Nat} (ok : O_X10_found1_31 N s0 S) (hx : X (F_X10_found1_31 N s0 S)) : cX G o dX10_found mX10_found 31 [none, none, none, none, none, none, none, none] [va_rf s0] S Q := by
  unfold O_X10_found1_31 at ok
  unfold F_X10_found1_31 at hx
  refine c_astore_3Q dX10_found_31 (by decide) rfl ?_
  refine c_iconst (v := nI 0) dX10_found_32 (by decide) ?_
  refine c_istore_4 dX10_found_33 (by decide) (by simp [zok, zg, zcat_rf]) ?_
  exact cX.cutz (c_X10_found1_35 hG hK ok hx) ⟨rfl, rfl, trivial⟩
def F_X10_found1_28 (N : Nat) (s0 : Option Nat) (s1 : Option Nat) (s2 : Int32) (s3 : Int32) (s4 : Option Nat) (s5 : Option Nat) (S : cS) : Option Nat × cS := (F_X10_found1_31 N s0 (f_X10_init N S (za s1) s2 s3 s4 s5))
def O_X10_found1_28 (N : Nat) (s0 : Option Nat) (s1 : Option Nat) (s2 : Int32) (s3 : Int32) (s4 : Option Nat) (s5 : Option Nat) (S : cS) : Prop := (s1 = some (za s1) ∧ o_X10_init N S (za s1) s2 s3 s4 s5) ∧ O_X10_found1_31 N s0 (f_X10_init N S (za s1) s2 s3 s4 s5)
set_option maxRecDepth 100000 in
set_option maxHeartbeats 4000000 in
theorem b_X10_found1_28 {G : zG} {o : cO} {S : cS} {N : Nat} {Q : Option Value → cS → Prop} {X : Option Nat × cS → Prop} (hG : zOK G) (hK : ∀ (x3 : Option Nat) (S' : cS), X (x3, S') → cX G o dX10_found mX10_found 68 [none, none, none, some (va_rf x3), none, none, none, none] [] S' Q) {s0 : Option Nat} {s1 : Option Nat} {s2 : Int32} {s3 : Int32} {s4 : Option Nat} {s5 : Option Nat} (ok : O_X10_found1_28 N s0 s1 s2 s3 s4 s5 S) (hx : X (F_X10_found1_28 N s0 s1 s2 s3 s4 s5 S)) : cX G o dX10_found mX10_found 28 [none, none, none, none, none, none, none, none] [va_rf s5, va_rf s4, .int s3, .int s2, va_rf s1, va_rf s0] S Q := by
  unfold O_X10_found1_28 at ok
  unfold F_X10_found1_28 at hx
  refine c_I4vE (y' := mX10_init) dX10_found_28 lX10_76 kX10_init ⟨by decide, by decide⟩ ⟨rfl, rfl⟩ ok.1.1 (by simp only [List.map_cons, List.map_nil, List.sum_cons, List.sum_nil, zcat_rf, zcat_i, zcat_l, zcat_r] <;> decide) (cc_X10_init hG ok.1.2) ?_
  have ok := ok.2
  exact cX.cutz (b_X10_found1_31 hG hK ok hx) trivial
def F_X10_found1_18 (N : Nat) (x0 : Int32) (x2 : Option Nat) (s0 : Option Nat) (s1 : Option Nat) (s2 : Int32) (s3 : Int32) (s4 : Option Nat) (s5 : Option Nat) (S : cS) : Option Nat × cS := (F_X10_found1_28 N s0 s1 s2 s3 s4 s5 (f_X1_init N S (za s5) x2 (((nI 3) * x0) + (nI 1))))
def O_X10_found1_18 (N : Nat) (x0 : Int32) (x2 : Option Nat) (s0 : Option Nat) (s1 : Option Nat) (s2 : Int32) (s3 : Int32) (s4 : Option Nat) (s5 : Option Nat) (S : cS) : Prop := (s5 = some (za s5) ∧ o_X1_init N S (za s5) x2 (((nI 3) * x0) + (nI 1))) ∧ O_X10_found1_28 N s0 s1 s2 s3 s4 s5 (f_X1_init N S (za s5) x2 (((nI 3) * x0) + (nI 1)))
set_option maxRecDepth 100000 in
set_option maxHeartbeats 4000000 in
theorem b_X10_found1_18 {G : zG} {o : cO} {S : cS} {N : Nat} {Q : Option Value → cS → Prop} {X : Option Nat × cS → Prop} (hG : zOK G) (hK : ∀ (x3 : Option Nat) (S' : cS), X (x3, S') → cX G o dX10_found mX10_found 68 [none, none, none, some (va_rf x3), none, none, none, none] [] S' Q) {x0 : Int32} {x2 : Option Nat} {s0 : Option Nat} {s1 : Option Nat} {s2 : Int32} {s3 : Int32} {s4 : Option Nat} {s5 : Option Nat} (ok : O_X10_found1_18 N x0 x2 s0 s1 s2 s3 s4 s5 S) (hx : X (F_X10_found1_18 N x0 x2 s0 s1 s2 s3 s4 s5 S)) : cX G o dX10_found mX10_found 18 [some (.int x0), none, some (va_rf x2), none, none, none, none, none] [va_rf s5, va_rf s4, .int s3, .int s2, va_rf s1, va_rf s0] S Q := by
  unfold O_X10_found1_18 at ok
  unfold F_X10_found1_18 at hx
  refine c_dup dX10_found_18 (zcat_rf _) ?_
  refine c_aload_nQ dX10_found_19 rfl rfl ?_
  refine c_iconst (v := nI 3) dX10_found_20 (by decide) ?_
  refine c_iload_n dX10_found_21 rfl rfl ?_
  refine c_imul dX10_found_22 ?_
  refine c_iconst (v := nI 1) dX10_found_23 (by decide) ?_
  refine c_iadd dX10_found_24 ?_
  refine c_I2vE (y' := mX1_init) dX10_found_25 lX10_73 kX1_init ⟨by decide, by decide⟩ ⟨rfl, rfl⟩ ok.1.1 (by simp only [List.map_cons, List.map_nil, List.sum_cons, List.sum_nil, zcat_rf, zcat_i, zcat_l, zcat_r] <;> decide) (cc_X1_init hG ok.1.2) ?_
  have ok := ok.2
  exact cX.cutz (b_X10_found1_28 hG hK ok hx) trivial
def F_X10_found1_7 (N : Nat) (x0 : Int32) (x1 : Int32) (s0 : Option Nat) (S : cS) : Option Nat × cS := (F_X10_found1_18 N x0 s0 (some (cn S)) (some (cn S)) x0 x1 s0 (some (cn (csNew S 9 12))) (csNew (csNew S 9 12) 2 3))
def O_X10_found1_7 (N : Nat) (x0 : Int32) (x1 : Int32) (s0 : Option Nat) (S : cS) : Prop := O_X10_found1_18 N x0 s0 (some (cn S)) (some (cn S)) x0 x1 s0 (some (cn (csNew S 9 12))) (csNew (csNew S 9 12) 2 3)
set_option maxRecDepth 100000 in
set_option maxHeartbeats 4000000 in
theorem b_X10_found1_7 {G : zG} {o : cO} {S : cS} {N : Nat} {Q : Option Value → cS → Prop} {X : Option Nat × cS → Prop} (hG : zOK G) (hK : ∀ (x3 : Option Nat) (S' : cS), X (x3, S') → cX G o dX10_found mX10_found 68 [none, none, none, some (va_rf x3), none, none, none, none] [] S' Q) {x0 : Int32} {x1 : Int32} {s0 : Option Nat} (ok : O_X10_found1_7 N x0 x1 s0 S) (hx : X (F_X10_found1_7 N x0 x1 s0 S)) : cX G o dX10_found mX10_found 7 [some (.int x0), some (.int x1), none, none, none, none, none, none] [va_rf s0] S Q := by
  unfold O_X10_found1_7 at ok
  unfold F_X10_found1_7 at hx
  refine c_astore_2Q dX10_found_7 (by decide) rfl ?_
  refine c_new8 clX10_13 dX10_found_8 ?_
  refine c_dup dX10_found_11 (zcat_rf _) ?_
  refine c_iload_n dX10_found_12 rfl rfl ?_
  refine c_iload_n dX10_found_13 rfl rfl ?_
  refine c_aload_nQ dX10_found_14 rfl rfl ?_
  refine c_new1 clX10_71 dX10_found_15 ?_
  exact cX.cutz (b_X10_found1_18 hG hK ok hx) ⟨rfl, rfl, trivial⟩
def F_X10_found1_0 (N : Nat) (x0 : Int32) (x1 : Int32) (S : cS) : Option Nat × cS := (F_X10_found1_7 N x0 x1 (some (cn S)) (f_X2_init N (csNew S 3 6) (za (some (cn S)))))
def O_X10_found1_0 (N : Nat) (x0 : Int32) (x1 : Int32) (S : cS) : Prop := ((some (cn S)) = some (za (some (cn S))) ∧ o_X2_init N (csNew S 3 6) (za (some (cn S)))) ∧ O_X10_found1_7 N x0 x1 (some (cn S)) (f_X2_init N (csNew S 3 6) (za (some (cn S))))
set_option maxRecDepth 100000 in
set_option maxHeartbeats 4000000 in
theorem b_X10_found1_0 {G : zG} {o : cO} {S : cS} {N : Nat} {Q : Option Value → cS → Prop} {X : Option Nat × cS → Prop} (hG : zOK G) (hK : ∀ (x3 : Option Nat) (S' : cS), X (x3, S') → cX G o dX10_found mX10_found 68 [none, none, none, some (va_rf x3), none, none, none, none] [] S' Q) {x0 : Int32} {x1 : Int32} (ok : O_X10_found1_0 N x0 x1 S) (hx : X (F_X10_found1_0 N x0 x1 S)) : cX G o dX10_found mX10_found 0 [some (.int x0), some (.int x1), none, none, none, none, none, none] [] S Q := by
  unfold O_X10_found1_0 at ok
  unfold F_X10_found1_0 at hx
  refine c_new2 clX10_68 dX10_found_0 ?_
  refine c_dup dX10_found_3 (zcat_rf _) ?_
  refine c_IN0vE (y' := mX2_init) dX10_found_4 lX10_70 kX2_init ⟨by decide, by decide⟩ ⟨rfl, rfl⟩ ok.1.1 (by simp only [List.map_cons, List.map_nil, List.sum_cons, List.sum_nil, zcat_rf, zcat_i, zcat_l, zcat_r] <;> decide) (cc_X2_init hG ok.1.2) ?_
  have ok := ok.2
  exact cX.cutz (b_X10_found1_7 hG hK ok hx) ⟨rfl, rfl, trivial⟩
def f_made (N : Nat) (S : cS) (x0 x1 : Int32) : Option Nat × cS := F_X10_found1_0 N x0 x1 S
def o_made (N : Nat) (S : cS) (x0 x1 : Int32) : Prop := O_X10_found1_0 N x0 x1 S
/-- a node's first rules -/
def kset1 (N g H T : Nat) (S : cS) (i : Nat) : cS := k_X7_settle N g H T (csI S 18 (nd g i) (nI 0)) (some (nd g i))
def pset1 (N g H T : Nat) (S : cS) (i : Nat) : Prop := p_X7_settle N g H T (csI S 18 (nd g i) (nI 0)) (some (nd g i))
def kset (N g H T : Nat) (S : cS) : Nat → cS
  | 0 => S
  | n + 1 => kset1 N g H T (kset N g H T S n) n
def k_X10_found (N g H T : Nat) (S : cS) (x0 x1 : Int32) : Option Nat × cS := ((f_made N S x0 x1).1, kset N g H T (f_made N S x0 x1).2 H)
def p_X10_found (N g H T : Nat) (S : cS) (x0 x1 : Int32) : Prop := o_made N S x0 x1 ∧ (f_made N S x0 x1).1 = some (g + 8) ∧ St 0 g H T (f_made N S x0 x1).2 ∧ H < 1000 ∧ ∀ i, i < H → pset1 N g H T (kset N g H T (f_made N S x0 x1).2 i) i
theorem kset_St {G : zG} {N g H T : Nat} {S : cS} (hS : St 0 g H T S) : True := trivial
set_option maxHeartbeats 4000000 in
theorem found_loop {G : zG} {o : cO} {N g H T : Nat} {S0 : cS} {Q : Option Value → cS → Prop} (hG : zOK G) (hH : H < 1000) (hp : ∀ i, i < H → pset1 N g H T (kset N g H T S0 i) i) (hK : St 0 g H T (kset N g H T S0 H) → cX G o dX10_found mX10_found 113 [none, none, none, some (va_rf (some (g + 8))), none, none, none, none] [] (kset N g H T S0 H) Q) : ∀ (m i : Nat), i + m = H → St 0 g H T (kset N g H T S0 i) → cX G o dX10_found mX10_found 82 [none, none, none, some (va_rf (some (g + 8))), some (va_rf (some (g + 30))), some (.int (nI H)), some (.int (nI i)), none] [] (kset N g H T S0 i) Q := by
  intro m
  induction m with
  | zero =>
    intro i hi hS
    have e : i = H := by omega
    subst e
    refine c_iload dX10_found_82 rfl ?_
    refine c_iload dX10_found_84 rfl ?_
    refine c_icmp_ge (tgt := 113) dX10_found_86 (by decide) (fun _ => ?_) (fun c => absurd (nI_le (Nat.le_refl _) (by omega)) c)
    exact cX.cutz (hK hS) ⟨rfl, trivial⟩
  | succ m ih =>
    intro i hi hS
    have hi2 : i < H := by omega
    have hP : cP (kset N g H T S0 i) (g + 30) (nI i).toNatClampNeg = some (nd g i) := by
      rw [nI_clamp (by omega), hS.2.2.2.2.2.1 i, if_pos hi2]
    have tO : isO g H 5 (nd g i) := Or.inr (Or.inr (Or.inr (Or.inr (Or.inl ⟨rfl, i, hi2, rfl⟩))))
    have t30 : tK (kset N g H T S0 i) 25 (some (g + 30)) := hS.rk (c := 8) (k := 4) (o90 oQL) rfl (by omega)
    refine c_iload dX10_found_82 rfl ?_
    refine c_iload dX10_found_84 rfl ?_
    refine c_icmp_ge (tgt := 113) dX10_found_86 (by decide) (fun c => absurd c (nI_ge hi2 (by omega))) (fun _ => ?_)
    refine c_aloadQ dX10_found_89 rfl ?_
    refine c_iload dX10_found_91 rfl ?_
    refine c_aald (t := 5) (ty := (.object "QuorumLedger$Node")) rfl rfl (by decide) dX10_found_93 ⟨tK.cis t30 (Option.some_ne_none _), vk_cast hS.l25 (nI_in hi2 (by omega))⟩ ?_
    rw [show cP (kset N g H T S0 i) (za (some (g + 30))) (nI i).toNatClampNeg = some (nd g i) from hP]
    refine c_astore_7Q dX10_found_94 (by decide) rfl ?_
    refine c_aloadQ dX10_found_96 rfl ?_
    refine c_iconst (v := nI 0) dX10_found_98 (by decide) ?_
    refine c_putI (C := RX6) (T := TX6) (N := 19) (ci := 5) (k := 18) ⟨rfl, inT6, by decide, fX10_82⟩ ftT6 rfl (by decide) (by decide) (by decide) rfl rfl dX10_found_99 (hS.k tO) ?_
    have hS1 := hS.I 18 (nd g i) (nI 0)
    refine c_aloadQ dX10_found_102 rfl ?_
    refine c_S1vK (y' := mX7_settle) dX10_found_104 lX10_85 kX7_settle ⟨by decide, by decide⟩ (Nat.le_of_ble_eq_true rfl) (kc_X7_settle hG hS1 (tN_some tO) (hp i hi2)) (fun ⟨hS2, _⟩ => ?_)
    refine c_iinc_6 (v := (nI i + nI 1)) dX10_found_107 rfl rfl (by decide) rfl ?_
    refine c_goto (tgt := 82) dX10_found_110 (by decide) ?_
    have e : nI i + nI 1 = nI (i + 1) := by unfold nI; rw [← Int32.ofNat_add]
    rw [e]
    exact cX.cutz (ih (i + 1) (by omega) hS2) ⟨rfl, rfl, rfl, rfl, trivial⟩
set_option maxHeartbeats 4000000 in
theorem kc_X10_found {G : zG} {o : cO} {N g H T : Nat} {S : cS} (hG : zOK G) {x0 x1 : Int32} (ok : p_X10_found N g H T S x0 x1) : cCq G o dX10_found mX10_found [.int x0, .int x1] S (fun v S' => (v = (k_X10_found N g H T S x0 x1).1 ∧ S' = (k_X10_found N g H T S x0 x1).2) ∧ St 0 g H T S') := by
  obtain ⟨ok1, ok2, ok3, ok4, ok5⟩ := ok
  refine cC.ofX rfl (by exact Nat.le_of_ble_eq_true rfl) ?_
  show cX G o dX10_found mX10_found 0 [some (.int x0), some (.int x1), none, none, none, none, none, none] [] S _
  refine cX.cutz (b_X10_found1_0 (X := fun F => F = f_made N S x0 x1) hG (fun x3 S' hx => ?_) ok1 rfl) ⟨rfl, rfl, trivial⟩
  have e3 : x3 = some (g + 8) := by rw [← ok2, ← hx]
  have eS : S' = (f_made N S x0 x1).2 := by rw [← hx]
  subst e3
  rw [eS]
  have tW : isO g H 8 (g + 8) := o90 oQL
  refine c_aload_nQ dX10_found_68 rfl rfl ?_
  refine c_getS (b := g + 30) (C := RX10) (T := TX10) (N := 12) (ci := 8) (k := 4) ⟨rfl, inT10, by decide, fX10_64⟩ (by decide) (by decide) (by decide) dX10_found_69 (ok3.k tW) (ok3.r (c := 8) tW rfl (by omega)) ?_
  refine c_astore_4Q dX10_found_72 (by decide) (by simp [zok, zg, zcat_rf]) ?_
  refine c_aloadQ dX10_found_74 rfl ?_
  refine c_alenS (t := 5) (ty := (.object "QuorumLedger$Node")) rfl dX10_found_76 (tK.cis (ok3.rk (c := 8) (k := 4) tW rfl (by omega)) (Option.some_ne_none _)) ok3.l25 ?_
  refine c_istore_5 dX10_found_77 (by decide) (by simp [zok, zg, zcat_rf]) ?_
  refine c_iconst (v := nI 0) dX10_found_79 (by decide) ?_
  refine c_istore_6 dX10_found_80 (by decide) rfl ?_
  refine cX.cutz (found_loop (S0 := (f_made N S x0 x1).2) hG ok4 ok5 (fun hS => ?_) H 0 (by omega) ok3) ⟨rfl, rfl, rfl, rfl, trivial⟩
  refine c_aload_nQ dX10_found_113 rfl rfl ?_
  refine c_areturn rfl (Or.inl ⟨_, rfl⟩) dX10_found_114 ⟨some (g + 8), rfl, ⟨?_, rfl⟩, hS⟩
  show some (g + 8) = (f_made N S x0 x1).1
  rw [ok2]
theorem c_S2qF {G : zG} {o : cO} {d : Nat × Nat} {y : zM} {pc : Nat} {l : List (Option Value)} {rest : List Value} {s : cS} {Q : Option Value → cS → Prop} {i : Nat} {y' : zM} {d' : Nat × Nat} {a1 a2 : Value} {e1 : Option Nat} {e2 : cS} {R : Option Nat → cS → Prop} (hd : decode y.2.1 pc = .ok (.invokestatic i, 3)) (hL : Cond.methodLink y.1.cls i y'.1 ∈ zT ∧ Cond.static y'.1 ∈ zT) (hY : zLc y' 2) (hro : zRo d d' y') (hrest : (rest.map fun v => v.category).sum ≤ 8) (hcall : cCq G o d' y' ([a1, a2]) s (fun v s1 => (v = e1 ∧ s1 = e2) ∧ R v s1)) (kk : cX G o d y (pc + 3) l (va_rf e1 :: rest) e2 Q) : cX G o d y pc l (a2 :: a1 :: rest) s Q := c_S2qK hd hL hY hro hrest hcall (fun _ => kk)
/-! X11_init -/
def F_X11_init1_57 (N g H T : Nat) (s0 : Option Nat) (s1 : Option Nat) (S : cS) : cS := (csR S 0 (za s0) s1)
def O_X11_init1_57 (N g H T : Nat) (s0 : Option Nat) (s1 : Option Nat) (S : cS) : Prop := (cis S s0 10) ∧ True
set_option maxRecDepth 100000 in
set_option maxHeartbeats 4000000 in
theorem b_X11_init1_57 {G : zG} {o : cO} {S : cS} {N g H T : Nat} {Q : Option Value → cS → Prop} {X : cS → Prop} (hG : zOK G) (hR : ∀ S', X S' → Q none S') {s0 : Option Nat} {s1 : Option Nat} (ok : O_X11_init1_57 N g H T s0 s1 S) (hx : X (F_X11_init1_57 N g H T s0 s1 S)) : cX G o dX11_init mX11_init 57 [none, none, none, none] [va_rf s1, va_rf s0] S Q := by
  unfold O_X11_init1_57 at ok
  unfold F_X11_init1_57 at hx
  refine c_putRF (C := RX11) (T := TX11) (N := 4) (ci := 9) (k := 0) ⟨rfl, inT11, by decide, fX11_22⟩ ftT11 rfl rfl rfl (by decide) (by decide) (by decide) (fun v => by cases v <;> rfl) (fun v => by cases v <;> rfl) dX11_init_57 ok.1 ?_
  have ok := ok.2
  exact c_return rfl dX11_init_60 (hR _ hx)
def F_X11_init1_54 (N g H T : Nat) (s0 : Option Nat) (s1 : Int32) (s2 : Int32) (S : cS) : cS := (F_X11_init1_57 N g H T s0 ((k_X10_found N g H T S s1 s2).1) (k_X10_found N g H T S s1 s2).2)
def O_X11_init1_54 (N g H T : Nat) (s0 : Option Nat) (s1 : Int32) (s2 : Int32) (S : cS) : Prop := (p_X10_found N g H T S s1 s2) ∧ O_X11_init1_57 N g H T s0 ((k_X10_found N g H T S s1 s2).1) (k_X10_found N g H T S s1 s2).2
set_option maxRecDepth 100000 in
set_option maxHeartbeats 4000000 in
theorem b_X11_init1_54 {G : zG} {o : cO} {S : cS} {N g H T : Nat} {Q : Option Value → cS → Prop} {X : cS → Prop} (hG : zOK G) (hR : ∀ S', X S' → Q none S') {s0 : Option Nat} {s1 : Int32} {s2 : Int32} (ok : O_X11_init1_54 N g H T s0 s1 s2 S) (hx : X (F_X11_init1_54 N g H T s0 s1 s2 S)) : cX G o dX11_init mX11_init 54 [none, none, none, none] [.int s2, .int s1, va_rf s0] S Q := by
  unfold O_X11_init1_54 at ok
  unfold F_X11_init1_54 at hx
  refine c_S2qF (y' := mX10_found) dX11_init_54 lX11_16 kX10_found ⟨by decide, by decide⟩ (by simp only [List.map_cons, List.map_nil, List.sum_cons, List.sum_nil, zcat_rf, zcat_i, zcat_l, zcat_r] <;> decide) (kc_X10_found hG ok.1) ?_
  have ok := ok.2
  exact cX.cutz (b_X11_init1_57 hG hR ok hx) trivial
def F_X11_init1_53 (N g H T : Nat) (s0 : Option Nat) (s1 : Int32) (S : cS) : cS := (F_X11_init1_54 N g H T s0 s1 (nI 0) S)
def O_X11_init1_53 (N g H T : Nat) (s0 : Option Nat) (s1 : Int32) (S : cS) : Prop := O_X11_init1_54 N g H T s0 s1 (nI 0) S
set_option maxRecDepth 100000 in
set_option maxHeartbeats 4000000 in
theorem b_X11_init1_53 {G : zG} {o : cO} {S : cS} {N g H T : Nat} {Q : Option Value → cS → Prop} {X : cS → Prop} (hG : zOK G) (hR : ∀ S', X S' → Q none S') {s0 : Option Nat} {s1 : Int32} (ok : O_X11_init1_53 N g H T s0 s1 S) (hx : X (F_X11_init1_53 N g H T s0 s1 S)) : cX G o dX11_init mX11_init 53 [none, none, none, none] [.int s1, va_rf s0] S Q := by
  unfold O_X11_init1_53 at ok
  unfold F_X11_init1_53 at hx
  refine c_iconst (v := nI 0) dX11_init_53 (by decide) ?_
  exact cX.cutz (b_X11_init1_54 hG hR ok hx) trivial
def F_X11_init1_37 (N g H T : Nat) (x0 : Option Nat) (x2 : Int32) (s0 : Int32) (S : cS) : cS := (if x2 < 0 then (F_X11_init1_53 N g H T x0 s0 S) else (if s0 < x2 then (F_X11_init1_53 N g H T x0 s0 S) else (F_X11_init1_54 N g H T x0 s0 x2 S)))
def O_X11_init1_37 (N g H T : Nat) (x0 : Option Nat) (x2 : Int32) (s0 : Int32) (S : cS) : Prop := ((x2 < 0 → O_X11_init1_53 N g H T x0 s0 S) ∧ (¬ x2 < 0 → ((s0 < x2 → O_X11_init1_53 N g H T x0 s0 S) ∧ (¬ s0 < x2 → O_X11_init1_54 N g H T x0 s0 x2 S))))
set_option maxRecDepth 100000 in
set_option maxHeartbeats 4000000 in
theorem b_X11_init1_37 {G : zG} {o : cO} {S : cS} {N g H T : Nat} {Q : Option Value → cS → Prop} {X : cS → Prop} (hG : zOK G) (hR : ∀ S', X S' → Q none S') {x0 : Option Nat} {x2 : Int32} {s0 : Int32} (ok : O_X11_init1_37 N g H T x0 x2 s0 S) (hx : X (F_X11_init1_37 N g H T x0 x2 s0 S)) : cX G o dX11_init mX11_init 37 [some (va_rf x0), none, some (.int x2), none] [.int s0] S Q := by
  unfold O_X11_init1_37 at ok
  unfold F_X11_init1_37 at hx
  refine c_istore_3 dX11_init_37 (by decide) rfl ?_
  refine c_aload_nQ dX11_init_38 rfl rfl ?_
  refine c_iload_n dX11_init_39 rfl rfl ?_
  refine c_iload_n dX11_init_40 rfl rfl ?_
  refine c_if_lt (tgt := 53) dX11_init_41 (by decide) (fun c_41 => ?_) (fun c_41 => ?_)
  · have ok := ok.1 c_41
    have hx := xif_p c_41 hx
    exact cX.cutz (b_X11_init1_53 hG hR ok hx) trivial
  · have ok := ok.2 c_41
    have hx := xif_n c_41 hx
    refine c_iload_n dX11_init_44 rfl rfl ?_
    refine c_iload_n dX11_init_45 rfl rfl ?_
    refine c_icmp_gt (tgt := 53) dX11_init_46 (by decide) (fun c_46 => ?_) (fun c_46 => ?_)
    · have ok := ok.1 c_46
      have hx := xif_p c_46 hx
      exact cX.cutz (b_X11_init1_53 hG hR ok hx) trivial
    · have ok := ok.2 c_46
      have hx := xif_n c_46 hx
      refine c_iload_n dX11_init_49 rfl rfl ?_
      refine c_goto (tgt := 54) dX11_init_50 (by decide) ?_
      exact cX.cutz (b_X11_init1_54 hG hR ok hx) trivial
def F_X11_init1_36 (N g H T : Nat) (x0 : Option Nat) (x2 : Int32) (S : cS) : cS := (F_X11_init1_37 N g H T x0 x2 (nI 1) S)
def O_X11_init1_36 (N g H T : Nat) (x0 : Option Nat) (x2 : Int32) (S : cS) : Prop := O_X11_init1_37 N g H T x0 x2 (nI 1) S
set_option maxRecDepth 100000 in
set_option maxHeartbeats 4000000 in
theorem b_X11_init1_36 {G : zG} {o : cO} {S : cS} {N g H T : Nat} {Q : Option Value → cS → Prop} {X : cS → Prop} (hG : zOK G) (hR : ∀ S', X S' → Q none S') {x0 : Option Nat} {x2 : Int32} (ok : O_X11_init1_36 N g H T x0 x2 S) (hx : X (F_X11_init1_36 N g H T x0 x2 S)) : cX G o dX11_init mX11_init 36 [some (va_rf x0), none, some (.int x2), none] [] S Q := by
  unfold O_X11_init1_36 at ok
  unfold F_X11_init1_36 at hx
  refine c_iconst (v := nI 1) dX11_init_36 (by decide) ?_
  exact cX.cutz (b_X11_init1_37 hG hR ok hx) ⟨rfl, rfl, trivial⟩
def F_X11_init1_22 (N g H T : Nat) (x0 : Option Nat) (x1 : Int32) (x2 : Int32) (S : cS) : cS := (if x1 < (nI 1) then (F_X11_init1_36 N g H T x0 x2 S) else (if (nI 4) < x1 then (F_X11_init1_36 N g H T x0 x2 S) else (F_X11_init1_37 N g H T x0 x2 x1 S)))
def O_X11_init1_22 (N g H T : Nat) (x0 : Option Nat) (x1 : Int32) (x2 : Int32) (S : cS) : Prop := ((x1 < (nI 1) → O_X11_init1_36 N g H T x0 x2 S) ∧ (¬ x1 < (nI 1) → (((nI 4) < x1 → O_X11_init1_36 N g H T x0 x2 S) ∧ (¬ (nI 4) < x1 → O_X11_init1_37 N g H T x0 x2 x1 S))))
set_option maxRecDepth 100000 in
set_option maxHeartbeats 4000000 in
theorem b_X11_init1_22 {G : zG} {o : cO} {S : cS} {N g H T : Nat} {Q : Option Value → cS → Prop} {X : cS → Prop} (hG : zOK G) (hR : ∀ S', X S' → Q none S') {x0 : Option Nat} {x1 : Int32} {x2 : Int32} (ok : O_X11_init1_22 N g H T x0 x1 x2 S) (hx : X (F_X11_init1_22 N g H T x0 x1 x2 S)) : cX G o dX11_init mX11_init 22 [some (va_rf x0), some (.int x1), some (.int x2), none] [] S Q := by
  unfold O_X11_init1_22 at ok
  unfold F_X11_init1_22 at hx
  refine c_iload_n dX11_init_22 rfl rfl ?_
  refine c_iconst (v := nI 1) dX11_init_23 (by decide) ?_
  refine c_icmp_lt (tgt := 36) dX11_init_24 (by decide) (fun c_24 => ?_) (fun c_24 => ?_)
  · have ok := ok.1 c_24
    have hx := xif_p c_24 hx
    exact cX.cutz (b_X11_init1_36 hG hR ok hx) ⟨rfl, rfl, trivial⟩
  · have ok := ok.2 c_24
    have hx := xif_n c_24 hx
    refine c_iload_n dX11_init_27 rfl rfl ?_
    refine c_iconst (v := nI 4) dX11_init_28 (by decide) ?_
    refine c_icmp_gt (tgt := 36) dX11_init_29 (by decide) (fun c_29 => ?_) (fun c_29 => ?_)
    · have ok := ok.1 c_29
      have hx := xif_p c_29 hx
      exact cX.cutz (b_X11_init1_36 hG hR ok hx) ⟨rfl, rfl, trivial⟩
    · have ok := ok.2 c_29
      have hx := xif_n c_29 hx
      refine c_iload_n dX11_init_32 rfl rfl ?_
      refine c_goto (tgt := 37) dX11_init_33 (by decide) ?_
      exact cX.cutz (b_X11_init1_37 hG hR ok hx) ⟨rfl, rfl, trivial⟩
def F_X11_init1_13 (N g H T : Nat) (x0 : Option Nat) (x1 : Int32) (x2 : Int32) (S : cS) : cS := (F_X11_init1_22 N g H T x0 x1 x2 (csR (csNew S 20 (nI 1024).toNatClampNeg) 2 (za x0) (some (cn S))))
def O_X11_init1_13 (N g H T : Nat) (x0 : Option Nat) (x1 : Int32) (x2 : Int32) (S : cS) : Prop := (¬ (nI 1024) < 0 ∧ (nI 1024).toNatClampNeg ≤ 1000000) ∧ (cis (csNew S 20 (nI 1024).toNatClampNeg) x0 10) ∧ O_X11_init1_22 N g H T x0 x1 x2 (csR (csNew S 20 (nI 1024).toNatClampNeg) 2 (za x0) (some (cn S)))
set_option maxRecDepth 100000 in
set_option maxHeartbeats 4000000 in
theorem b_X11_init1_13 {G : zG} {o : cO} {S : cS} {N g H T : Nat} {Q : Option Value → cS → Prop} {X : cS → Prop} (hG : zOK G) (hR : ∀ S', X S' → Q none S') {x0 : Option Nat} {x1 : Int32} {x2 : Int32} (ok : O_X11_init1_13 N g H T x0 x1 x2 S) (hx : X (F_X11_init1_13 N g H T x0 x1 x2 S)) : cX G o dX11_init mX11_init 13 [some (va_rf x0), some (.int x1), some (.int x2), none] [] S Q := by
  unfold O_X11_init1_13 at ok
  unfold F_X11_init1_13 at hx
  refine c_aload_nQ dX11_init_13 rfl rfl ?_
  refine c_sipush (v := nI 1024) dX11_init_14 (by decide) ?_
  refine c_newa0 dX11_init_17 ok.1.1 ok.1.2 ?_
  have ok := ok.2
  refine c_putRF (C := RX11) (T := TX11) (N := 4) (ci := 9) (k := 2) ⟨rfl, inT11, by decide, fX11_13⟩ ftT11 rfl rfl rfl (by decide) (by decide) (by decide) (fun v => by cases v <;> rfl) (fun v => by cases v <;> rfl) dX11_init_19 ok.1 ?_
  have ok := ok.2
  exact cX.cutz (b_X11_init1_22 hG hR ok hx) ⟨rfl, rfl, rfl, trivial⟩
def F_X11_init1_0 (N g H T : Nat) (x0 : Option Nat) (x1 : Int32) (x2 : Int32) (S : cS) : cS := (F_X11_init1_13 N g H T x0 x1 x2 (csR (csNew S 20 (nI 1000).toNatClampNeg) 1 (za x0) (some (cn S))))
def O_X11_init1_0 (N g H T : Nat) (x0 : Option Nat) (x1 : Int32) (x2 : Int32) (S : cS) : Prop := (x0 = some (za x0)) ∧ (¬ (nI 1000) < 0 ∧ (nI 1000).toNatClampNeg ≤ 1000000) ∧ (cis (csNew S 20 (nI 1000).toNatClampNeg) x0 10) ∧ O_X11_init1_13 N g H T x0 x1 x2 (csR (csNew S 20 (nI 1000).toNatClampNeg) 1 (za x0) (some (cn S)))
set_option maxRecDepth 100000 in
set_option maxHeartbeats 4000000 in
theorem b_X11_init1_0 {G : zG} {o : cO} {S : cS} {N g H T : Nat} {Q : Option Value → cS → Prop} {X : cS → Prop} (hG : zOK G) (hR : ∀ S', X S' → Q none S') {x0 : Option Nat} {x1 : Int32} {x2 : Int32} (ok : O_X11_init1_0 N g H T x0 x1 x2 S) (hx : X (F_X11_init1_0 N g H T x0 x1 x2 S)) : cX G o dX11_init mX11_init 0 [some (va_rf x0), some (.int x1), some (.int x2), none] [] S Q := by
  unfold O_X11_init1_0 at ok
  unfold F_X11_init1_0 at hx
  refine c_aload_nQ dX11_init_0 rfl rfl ?_
  refine c_objInit dX11_init_1 qX11_1 objI objC (by decide) (Nat.le_of_ble_eq_true rfl) ok.1 ?_
  have ok := ok.2
  refine c_aload_nQ dX11_init_4 rfl rfl ?_
  refine c_sipush (v := nI 1000) dX11_init_5 (by decide) ?_
  refine c_newa0 dX11_init_8 ok.1.1 ok.1.2 ?_
  have ok := ok.2
  refine c_putRF (C := RX11) (T := TX11) (N := 4) (ci := 9) (k := 1) ⟨rfl, inT11, by decide, fX11_9⟩ ftT11 rfl rfl rfl (by decide) (by decide) (by decide) (fun v => by cases v <;> rfl) (fun v => by cases v <;> rfl) dX11_init_10 ok.1 ?_
  have ok := ok.2
  exact cX.cutz (b_X11_init1_13 hG hR ok hx) ⟨rfl, rfl, rfl, trivial⟩
def k_X11_init (N g H T : Nat) (S : cS) (a0 : Nat) (x1 : Int32) (x2 : Int32) : cS := F_X11_init1_0 N g H T (some a0) x1 x2 S
def p_X11_init (N g H T : Nat) (S : cS) (a0 : Nat) (x1 : Int32) (x2 : Int32) : Prop := O_X11_init1_0 N g H T (some a0) x1 x2 S
set_option maxRecDepth 100000 in
set_option maxHeartbeats 4000000 in
theorem kc_X11_init {G : zG} {o : cO} {S : cS} {N g H T : Nat} (hG : zOK G) {a0 : Nat} {x1 : Int32} {x2 : Int32} (ok : p_X11_init N g H T S a0 x1 x2) : cCv G o dX11_init mX11_init [.ref a0, .int x1, .int x2] S (fun S' => S' = k_X11_init N g H T S a0 x1 x2) := by
  refine cC.ofX rfl (by exact Nat.le_of_ble_eq_true rfl) ?_
  show cX G o dX11_init mX11_init 0 [some (.ref a0), some (.int x1), some (.int x2), none] [] S _
  exact cX.cutz (b_X11_init1_0 (X := fun F => F = k_X11_init N g H T S a0 x1 x2) hG (fun S' h => ⟨rfl, h⟩) ok rfl) ⟨rfl, rfl, rfl, trivial⟩

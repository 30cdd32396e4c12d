/-! X5_endsBelow -/
def F_X5_endsBelow_79 (N : Nat) (s0 : Int32) (S : cS) : Int32 := s0
def O_X5_endsBelow_79 (N : Nat) (s0 : Int32) (S : cS) : Prop := narrow .boolean (.int s0) = .int s0
set_option maxRecDepth 100000 in
set_option maxHeartbeats 4000000 in
theorem b_X5_endsBelow_79 {G : zG} {o : cO} {S : cS} {N : Nat} {Q : Option Value → cS → Prop} {X : Int32 → Prop} (hG : zOK G) (hR : ∀ v, X v → Q (some (.int v)) S) {s0 : Int32} (ok : O_X5_endsBelow_79 N s0 S) (hx : X (F_X5_endsBelow_79 N s0 S)) : cX G o dX5_endsBelow mX5_endsBelow 79 [none, none, none] [.int s0] S Q := by
  unfold O_X5_endsBelow_79 at ok
  unfold F_X5_endsBelow_79 at hx
  exact c_ireturn rfl ok dX5_endsBelow_79 (hR _ hx)
def F_X5_endsBelow_67 (N : Nat) (x0 : Option Nat) (S : cS) : Int32 := (if (cI S 5 (za x0)) = 0 then (F_X5_endsBelow_79 N (nI 1) S) else (F_X5_endsBelow_79 N (nI 0) S))
def O_X5_endsBelow_67 (N : Nat) (x0 : Option Nat) (S : cS) : Prop := (cis S x0 5) ∧ (((cI S 5 (za x0)) = 0 → O_X5_endsBelow_79 N (nI 1) S) ∧ (¬ (cI S 5 (za x0)) = 0 → O_X5_endsBelow_79 N (nI 0) S))
set_option maxRecDepth 100000 in
set_option maxHeartbeats 4000000 in
theorem b_X5_endsBelow_67 {G : zG} {o : cO} {S : cS} {N : Nat} {Q : Option Value → cS → Prop} {X : Int32 → Prop} (hG : zOK G) (hR : ∀ v, X v → Q (some (.int v)) S) {x0 : Option Nat} (ok : O_X5_endsBelow_67 N x0 S) (hx : X (F_X5_endsBelow_67 N x0 S)) : cX G o dX5_endsBelow mX5_endsBelow 67 [some (va_rf x0), none, none] [] S Q := by
  unfold O_X5_endsBelow_67 at ok
  unfold F_X5_endsBelow_67 at hx
  refine c_aload_nQ dX5_endsBelow_67 rfl rfl ?_
  refine c_getI (C := RX5) (T := TX5) (N := 7) (ci := 4) (k := 5) ⟨rfl, inT5, by decide, fX5_27⟩ (by decide) (by decide) (by decide) dX5_endsBelow_68 ok.1 ?_
  have ok := ok.2
  refine c_if_ne (tgt := 78) dX5_endsBelow_71 (by decide) (fun c_71 => ?_) (fun c_71 => ?_)
  · have ok := ok.2 c_71
    have hx := xif_n c_71 hx
    refine c_iconst (v := nI 0) dX5_endsBelow_78 (by decide) ?_
    exact cX.cutz (b_X5_endsBelow_79 hG hR ok hx) trivial
  · have ok := ok.1 c_71
    have hx := xif_p c_71 hx
    refine c_iconst (v := nI 1) dX5_endsBelow_74 (by decide) ?_
    refine c_goto (tgt := 79) dX5_endsBelow_75 (by decide) ?_
    exact cX.cutz (b_X5_endsBelow_79 hG hR ok hx) trivial
def F_X5_endsBelow_60 (N : Nat) (s0 : Int32) (S : cS) : Int32 := s0
def O_X5_endsBelow_60 (N : Nat) (s0 : Int32) (S : cS) : Prop := narrow .boolean (.int s0) = .int s0
set_option maxRecDepth 100000 in
set_option maxHeartbeats 4000000 in
theorem b_X5_endsBelow_60 {G : zG} {o : cO} {S : cS} {N : Nat} {Q : Option Value → cS → Prop} {X : Int32 → Prop} (hG : zOK G) (hR : ∀ v, X v → Q (some (.int v)) S) {s0 : Int32} (ok : O_X5_endsBelow_60 N s0 S) (hx : X (F_X5_endsBelow_60 N s0 S)) : cX G o dX5_endsBelow mX5_endsBelow 60 [none, none, none] [.int s0] S Q := by
  unfold O_X5_endsBelow_60 at ok
  unfold F_X5_endsBelow_60 at hx
  exact c_ireturn rfl ok dX5_endsBelow_60 (hR _ hx)
def F_X5_endsBelow_37 (N : Nat) (x0 : Option Nat) (x1 : Option Nat) (x2 : Int32) (S : cS) : Int32 := (if 0 ≤ (f_J13_compareUnsigned_74951 N S (cJ S (za (cR S 1 (za x0))) x2.toNatClampNeg) (cJ S (za (cR S 1 (za x1))) x2.toNatClampNeg)) then (F_X5_endsBelow_60 N (nI 0) S) else (F_X5_endsBelow_60 N (nI 1) S))
def O_X5_endsBelow_37 (N : Nat) (x0 : Option Nat) (x1 : Option Nat) (x2 : Int32) (S : cS) : Prop := (cis S x0 5) ∧ (cis S (cR S 1 (za x0)) 22 ∧ vp_in x2 (cL S (za (cR S 1 (za x0))))) ∧ (cis S x1 5) ∧ (cis S (cR S 1 (za x1)) 22 ∧ vp_in x2 (cL S (za (cR S 1 (za x1))))) ∧ (o_J13_compareUnsigned_74951 N S (cJ S (za (cR S 1 (za x0))) x2.toNatClampNeg) (cJ S (za (cR S 1 (za x1))) x2.toNatClampNeg)) ∧ ((0 ≤ (f_J13_compareUnsigned_74951 N S (cJ S (za (cR S 1 (za x0))) x2.toNatClampNeg) (cJ S (za (cR S 1 (za x1))) x2.toNatClampNeg)) → O_X5_endsBelow_60 N (nI 0) S) ∧ (¬ 0 ≤ (f_J13_compareUnsigned_74951 N S (cJ S (za (cR S 1 (za x0))) x2.toNatClampNeg) (cJ S (za (cR S 1 (za x1))) x2.toNatClampNeg)) → O_X5_endsBelow_60 N (nI 1) S))
set_option maxRecDepth 100000 in
set_option maxHeartbeats 4000000 in
theorem b_X5_endsBelow_37 {G : zG} {o : cO} {S : cS} {N : Nat} {Q : Option Value → cS → Prop} {X : Int32 → Prop} (hG : zOK G) (hR : ∀ v, X v → Q (some (.int v)) S) {x0 : Option Nat} {x1 : Option Nat} {x2 : Int32} (ok : O_X5_endsBelow_37 N x0 x1 x2 S) (hx : X (F_X5_endsBelow_37 N x0 x1 x2 S)) : cX G o dX5_endsBelow mX5_endsBelow 37 [some (va_rf x0), some (va_rf x1), some (.int x2)] [] S Q := by
  unfold O_X5_endsBelow_37 at ok
  unfold F_X5_endsBelow_37 at hx
  refine c_aload_nQ dX5_endsBelow_37 rfl rfl ?_
  refine c_getR (C := RX5) (T := TX5) (N := 7) (ci := 4) (k := 1) ⟨rfl, inT5, by decide, fX5_9⟩ (by decide) (by decide) (by decide) dX5_endsBelow_38 ok.1 ?_
  have ok := ok.2
  refine c_iload_n dX5_endsBelow_41 rfl rfl ?_
  refine c_lald dX5_endsBelow_42 ok.1 ?_
  have ok := ok.2
  refine c_aload_nQ dX5_endsBelow_43 rfl rfl ?_
  refine c_getR (C := RX5) (T := TX5) (N := 7) (ci := 4) (k := 1) ⟨rfl, inT5, by decide, fX5_9⟩ (by decide) (by decide) (by decide) dX5_endsBelow_44 ok.1 ?_
  have ok := ok.2
  refine c_iload_n dX5_endsBelow_47 rfl rfl ?_
  refine c_lald dX5_endsBelow_48 ok.1 ?_
  have ok := ok.2
  refine c_S2iE (y' := mJ13_compareUnsigned_74951) dX5_endsBelow_49 lX5_39 kJ13_compareUnsigned_74951 ⟨by decide, by decide⟩ (Nat.le_of_ble_eq_true rfl) (cc_J13_compareUnsigned_74951 hG ok.1) ?_
  have ok := ok.2
  refine c_if_ge (tgt := 59) dX5_endsBelow_52 (by decide) (fun c_52 => ?_) (fun c_52 => ?_)
  · have ok := ok.1 c_52
    have hx := xif_p c_52 hx
    refine c_iconst (v := nI 0) dX5_endsBelow_59 (by decide) ?_
    exact cX.cutz (b_X5_endsBelow_60 hG hR ok hx) trivial
  · have ok := ok.2 c_52
    have hx := xif_n c_52 hx
    refine c_iconst (v := nI 1) dX5_endsBelow_55 (by decide) ?_
    refine c_goto (tgt := 60) dX5_endsBelow_56 (by decide) ?_
    exact cX.cutz (b_X5_endsBelow_60 hG hR ok hx) trivial
def B_X5_endsBelow_2 (N : Nat) (rec : Option Nat → Option Nat → Int32 → Nat × Option Nat × Option Nat × Int32 × Unit) (x0 : Option Nat) (x1 : Option Nat) (x2 : Int32) (S : cS) : Nat × Option Nat × Option Nat × Int32 × Unit := (if (nI 4) ≤ x2 then (1, x0, none, 0, ()) else (if (cI S 5 (za x0)) = 0 then (1, x0, none, 0, ()) else (if (cI S 5 (za x1)) = 0 then (1, x0, none, 0, ()) else (if (lg_cmp (cJ S (za (cR S 1 (za x0))) x2.toNatClampNeg) (cJ S (za (cR S 1 (za x1))) x2.toNatClampNeg)) = 0 then (rec x0 x1 (x2 + nI 1)) else (0, x0, x1, x2, ())))))
def OB_X5_endsBelow_2 (N : Nat) (rok : Option Nat → Option Nat → Int32 → Prop) (x0 : Option Nat) (x1 : Option Nat) (x2 : Int32) (S : cS) : Prop := (((nI 4) ≤ x2 → True) ∧ (¬ (nI 4) ≤ x2 → (cis S x0 5) ∧ (((cI S 5 (za x0)) = 0 → True) ∧ (¬ (cI S 5 (za x0)) = 0 → (cis S x1 5) ∧ (((cI S 5 (za x1)) = 0 → True) ∧ (¬ (cI S 5 (za x1)) = 0 → (cis S x0 5) ∧ (cis S (cR S 1 (za x0)) 22 ∧ vp_in x2 (cL S (za (cR S 1 (za x0))))) ∧ (cis S x1 5) ∧ (cis S (cR S 1 (za x1)) 22 ∧ vp_in x2 (cL S (za (cR S 1 (za x1))))) ∧ (((lg_cmp (cJ S (za (cR S 1 (za x0))) x2.toNatClampNeg) (cJ S (za (cR S 1 (za x1))) x2.toNatClampNeg)) = 0 → rok x0 x1 (x2 + nI 1)) ∧ (¬ (lg_cmp (cJ S (za (cR S 1 (za x0))) x2.toNatClampNeg) (cJ S (za (cR S 1 (za x1))) x2.toNatClampNeg)) = 0 → True))))))))
set_option maxRecDepth 100000 in
set_option maxHeartbeats 4000000 in
theorem bb_X5_endsBelow_2 {G : zG} {o : cO} {S : cS} {N : Nat} {Q : Option Value → cS → Prop} {X : Nat × Option Nat × Option Nat × Int32 × Unit → Prop} (hG : zOK G) (hX0 : ∀ (x0 : Option Nat) (x1 : Option Nat) (x2 : Int32) , X (0, x0, x1, x2, ()) → cX G o dX5_endsBelow mX5_endsBelow 37 [some (va_rf x0), some (va_rf x1), some (.int x2)] [] S Q) (hX1 : ∀ (x0 : Option Nat) (x1 : Option Nat) (x2 : Int32) , X (1, x0, x1, x2, ()) → cX G o dX5_endsBelow mX5_endsBelow 67 [some (va_rf x0), none, none] [] S Q) {rec : Option Nat → Option Nat → Int32 → Nat × Option Nat × Option Nat × Int32 × Unit} {rok : Option Nat → Option Nat → Int32 → Prop} (hrec : ∀ (x0 : Option Nat) (x1 : Option Nat) (x2 : Int32), rok x0 x1 x2 → X (rec x0 x1 x2) → cX G o dX5_endsBelow mX5_endsBelow 2 [some (va_rf x0), some (va_rf x1), some (.int x2)] [] S Q) {x0 : Option Nat} {x1 : Option Nat} {x2 : Int32} (ok : OB_X5_endsBelow_2 N rok x0 x1 x2 S) (hx : X (B_X5_endsBelow_2 N rec x0 x1 x2 S)) : cX G o dX5_endsBelow mX5_endsBelow 2 [some (va_rf x0), some (va_rf x1), some (.int x2)] [] S Q := by
  unfold OB_X5_endsBelow_2 at ok
  unfold B_X5_endsBelow_2 at hx
  refine c_iload_n dX5_endsBelow_2 rfl rfl ?_
  refine c_iconst (v := nI 4) dX5_endsBelow_3 (by decide) ?_
  refine c_icmp_ge (tgt := 67) dX5_endsBelow_4 (by decide) (fun c_4 => ?_) (fun c_4 => ?_)
  · have ok := ok.1 c_4
    have hx := xif_p c_4 hx
    exact cX.cutz (hX1 _ _ _  hx) ⟨rfl, trivial⟩
  · have ok := ok.2 c_4
    have hx := xif_n c_4 hx
    refine c_aload_nQ dX5_endsBelow_7 rfl rfl ?_
    refine c_getI (C := RX5) (T := TX5) (N := 7) (ci := 4) (k := 5) ⟨rfl, inT5, by decide, fX5_27⟩ (by decide) (by decide) (by decide) dX5_endsBelow_8 ok.1 ?_
    have ok := ok.2
    refine c_if_eq (tgt := 67) dX5_endsBelow_11 (by decide) (fun c_11 => ?_) (fun c_11 => ?_)
    · have ok := ok.1 c_11
      have hx := xif_p c_11 hx
      exact cX.cutz (hX1 _ _ _  hx) ⟨rfl, trivial⟩
    · have ok := ok.2 c_11
      have hx := xif_n c_11 hx
      refine c_aload_nQ dX5_endsBelow_14 rfl rfl ?_
      refine c_getI (C := RX5) (T := TX5) (N := 7) (ci := 4) (k := 5) ⟨rfl, inT5, by decide, fX5_27⟩ (by decide) (by decide) (by decide) dX5_endsBelow_15 ok.1 ?_
      have ok := ok.2
      refine c_if_eq (tgt := 67) dX5_endsBelow_18 (by decide) (fun c_18 => ?_) (fun c_18 => ?_)
      · have ok := ok.1 c_18
        have hx := xif_p c_18 hx
        exact cX.cutz (hX1 _ _ _  hx) ⟨rfl, trivial⟩
      · have ok := ok.2 c_18
        have hx := xif_n c_18 hx
        refine c_aload_nQ dX5_endsBelow_21 rfl rfl ?_
        refine c_getR (C := RX5) (T := TX5) (N := 7) (ci := 4) (k := 1) ⟨rfl, inT5, by decide, fX5_9⟩ (by decide) (by decide) (by decide) dX5_endsBelow_22 ok.1 ?_
        have ok := ok.2
        refine c_iload_n dX5_endsBelow_25 rfl rfl ?_
        refine c_lald dX5_endsBelow_26 ok.1 ?_
        have ok := ok.2
        refine c_aload_nQ dX5_endsBelow_27 rfl rfl ?_
        refine c_getR (C := RX5) (T := TX5) (N := 7) (ci := 4) (k := 1) ⟨rfl, inT5, by decide, fX5_9⟩ (by decide) (by decide) (by decide) dX5_endsBelow_28 ok.1 ?_
        have ok := ok.2
        refine c_iload_n dX5_endsBelow_31 rfl rfl ?_
        refine c_lald dX5_endsBelow_32 ok.1 ?_
        have ok := ok.2
        refine c_lcmp dX5_endsBelow_33 ?_
        refine c_if_eq (tgt := 61) dX5_endsBelow_34 (by decide) (fun c_34 => ?_) (fun c_34 => ?_)
        · have ok := ok.1 c_34
          have hx := xif_p c_34 hx
          refine c_iinc_2 (v := (x2 + nI 1)) dX5_endsBelow_61 rfl (by first | rfl | (congr 1)) (by decide) (by simp [zok, zg, zcat_rf]) ?_
          refine c_goto (tgt := 2) dX5_endsBelow_64 (by decide) ?_
          exact cX.cutz (hrec _ _ _ ok hx) ⟨rfl, rfl, rfl, trivial⟩
        · have ok := ok.2 c_34
          have hx := xif_n c_34 hx
          exact cX.cutz (hX0 _ _ _  hx) ⟨rfl, rfl, rfl, trivial⟩
def L_X5_endsBelow_2 (N : Nat) : Nat → Option Nat → Option Nat → Int32 → cS → Nat × Option Nat × Option Nat × Int32 × Unit
  | 0, x0, x1, x2, S => (0, none, none, 0, ())
  | n + 1, x0, x1, x2, S => B_X5_endsBelow_2 N (fun x0 x1 x2 => L_X5_endsBelow_2 N n x0 x1 x2 S) x0 x1 x2 S
def OL_X5_endsBelow_2 (N : Nat) : Nat → Option Nat → Option Nat → Int32 → cS → Prop
  | 0, _, _, _, _ => False
  | n + 1, x0, x1, x2, S => OB_X5_endsBelow_2 N (fun x0 x1 x2 => OL_X5_endsBelow_2 N n x0 x1 x2 S) x0 x1 x2 S
set_option maxRecDepth 100000 in
set_option maxHeartbeats 4000000 in
theorem l_X5_endsBelow_2 {G : zG} {o : cO} {S : cS} {N : Nat} {Q : Option Value → cS → Prop} {X : Nat × Option Nat × Option Nat × Int32 × Unit → Prop} (hG : zOK G) (hX0 : ∀ (x0 : Option Nat) (x1 : Option Nat) (x2 : Int32) , X (0, x0, x1, x2, ()) → cX G o dX5_endsBelow mX5_endsBelow 37 [some (va_rf x0), some (va_rf x1), some (.int x2)] [] S Q) (hX1 : ∀ (x0 : Option Nat) (x1 : Option Nat) (x2 : Int32) , X (1, x0, x1, x2, ()) → cX G o dX5_endsBelow mX5_endsBelow 67 [some (va_rf x0), none, none] [] S Q) : ∀ (n : Nat) (x0 : Option Nat) (x1 : Option Nat) (x2 : Int32) , OL_X5_endsBelow_2 N n x0 x1 x2 S → X (L_X5_endsBelow_2 N n x0 x1 x2 S) → cX G o dX5_endsBelow mX5_endsBelow 2 [some (va_rf x0), some (va_rf x1), some (.int x2)] [] S Q := by
  intro n
  induction n with
  | zero => intro x0 x1 x2 ok; exact absurd ok id
  | succ n ih =>
    intro x0 x1 x2 ok hx
    exact bb_X5_endsBelow_2 hG hX0 hX1 (rec := fun x0 x1 x2 => L_X5_endsBelow_2 N n x0 x1 x2 S) (rok := fun x0 x1 x2 => OL_X5_endsBelow_2 N n x0 x1 x2 S) (fun x0 x1 x2 ok hx => ih x0 x1 x2 ok hx) ok hx
def A_X5_endsBelow_2 (N : Nat) (x0 : Option Nat) (x1 : Option Nat) (x2 : Int32) (S : cS) (z : Nat × Option Nat × Option Nat × Int32 × Unit) : Int32 := (if z.1 = 0 then (F_X5_endsBelow_37 N (z.2.1) (z.2.2.1) (z.2.2.2.1) S) else (F_X5_endsBelow_67 N (z.2.1) S))
def OA_X5_endsBelow_2 (N : Nat) (x0 : Option Nat) (x1 : Option Nat) (x2 : Int32) (S : cS) (z : Nat × Option Nat × Option Nat × Int32 × Unit) : Prop := (if z.1 = 0 then O_X5_endsBelow_37 N (z.2.1) (z.2.2.1) (z.2.2.2.1) S else O_X5_endsBelow_67 N (z.2.1) S)
set_option maxRecDepth 100000 in
set_option maxHeartbeats 4000000 in
theorem c_X5_endsBelow_2 {G : zG} {o : cO} {S : cS} {N : Nat} {Q : Option Value → cS → Prop} {X : Int32 → Prop} (hG : zOK G) (hR : ∀ v, X v → Q (some (.int v)) S) {x0 : Option Nat} {x1 : Option Nat} {x2 : Int32} (ok : OL_X5_endsBelow_2 N N x0 x1 x2 S ∧ OA_X5_endsBelow_2 N x0 x1 x2 S (L_X5_endsBelow_2 N N x0 x1 x2 S)) (hx : X (A_X5_endsBelow_2 N x0 x1 x2 S (L_X5_endsBelow_2 N N x0 x1 x2 S))) : cX G o dX5_endsBelow mX5_endsBelow 2 [some (va_rf x0), some (va_rf x1), some (.int x2)] [] S Q := by
  refine l_X5_endsBelow_2 hG ?_ ?_ N x0 x1 x2 ok.1 (X := fun z => OA_X5_endsBelow_2 N x0 x1 x2 S z ∧ X (A_X5_endsBelow_2 N x0 x1 x2 S z)) ⟨ok.2, hx⟩
  · intro x0' x1' x2' hz
    obtain ⟨ok, hx⟩ := hz
    unfold OA_X5_endsBelow_2 at ok
    unfold A_X5_endsBelow_2 at hx
    have ok := xif_P (show (0 : Nat) = 0 from rfl) ok
    have hx := xif_p (show (0 : Nat) = 0 from rfl) hx
    exact cX.cutz (b_X5_endsBelow_37 hG hR ok hx) ⟨rfl, rfl, rfl, trivial⟩
  · intro x0' x1' x2' hz
    obtain ⟨ok, hx⟩ := hz
    unfold OA_X5_endsBelow_2 at ok
    unfold A_X5_endsBelow_2 at hx
    have ok := xif_N (show ¬ (1 : Nat) = 0 by decide) ok
    have hx := xif_n (show ¬ (1 : Nat) = 0 by decide) hx
    exact cX.cutz (b_X5_endsBelow_67 hG hR ok hx) ⟨rfl, trivial⟩
def F_X5_endsBelow_0 (N : Nat) (x0 : Option Nat) (x1 : Option Nat) (S : cS) : Int32 := (A_X5_endsBelow_2 N x0 x1 (nI 0) S (L_X5_endsBelow_2 N N x0 x1 (nI 0) S))
def O_X5_endsBelow_0 (N : Nat) (x0 : Option Nat) (x1 : Option Nat) (S : cS) : Prop := (OL_X5_endsBelow_2 N N x0 x1 (nI 0) S ∧ OA_X5_endsBelow_2 N x0 x1 (nI 0) S (L_X5_endsBelow_2 N N x0 x1 (nI 0) S))
set_option maxRecDepth 100000 in
set_option maxHeartbeats 4000000 in
theorem b_X5_endsBelow_0 {G : zG} {o : cO} {S : cS} {N : Nat} {Q : Option Value → cS → Prop} {X : Int32 → Prop} (hG : zOK G) (hR : ∀ v, X v → Q (some (.int v)) S) {x0 : Option Nat} {x1 : Option Nat} (ok : O_X5_endsBelow_0 N x0 x1 S) (hx : X (F_X5_endsBelow_0 N x0 x1 S)) : cX G o dX5_endsBelow mX5_endsBelow 0 [some (va_rf x0), some (va_rf x1), none] [] S Q := by
  unfold O_X5_endsBelow_0 at ok
  unfold F_X5_endsBelow_0 at hx
  refine c_iconst (v := nI 0) dX5_endsBelow_0 (by decide) ?_
  refine c_istore_2 dX5_endsBelow_1 (by decide) (by simp [zok, zg, zcat_rf]) ?_
  exact cX.cutz (c_X5_endsBelow_2 hG hR ok hx) ⟨rfl, rfl, rfl, trivial⟩
def f_X5_endsBelow (N : Nat) (S : cS) (a0 : Nat) (x1 : Option Nat) : Int32 := F_X5_endsBelow_0 N (some a0) x1 S
def o_X5_endsBelow (N : Nat) (S : cS) (a0 : Nat) (x1 : Option Nat) : Prop := O_X5_endsBelow_0 N (some a0) x1 S
set_option maxRecDepth 100000 in
set_option maxHeartbeats 4000000 in
theorem cc_X5_endsBelow {G : zG} {o : cO} {S : cS} {N : Nat} (hG : zOK G) {a0 : Nat} {x1 : Option Nat} (ok : o_X5_endsBelow N S a0 x1) : cCi G o dX5_endsBelow mX5_endsBelow [.ref a0, va_rf x1] S (fun v S' => v = f_X5_endsBelow N S a0 x1 ∧ S' = S) := by
  refine cC.ofX rfl (by cases x1 <;> exact Nat.le_of_ble_eq_true rfl) ?_
  rw [show zargs mX5_endsBelow.2.2.1 [.ref a0, va_rf x1] = [some (.ref a0), some (va_rf x1), none] from by cases x1 <;> rfl]
  exact cX.cutz (b_X5_endsBelow_0 (X := fun F => F = f_X5_endsBelow N S a0 x1) hG (fun v h => ⟨v, rfl, h, rfl⟩) ok rfl) ⟨rfl, rfl, trivial⟩
/-! X5_writeId -/
def F_X5_writeId_54 (N : Nat)  (S : cS) : cS := S
def O_X5_writeId_54 (N : Nat)  (S : cS) : Prop := True
set_option maxRecDepth 100000 in
set_option maxHeartbeats 4000000 in
theorem b_X5_writeId_54 {G : zG} {o : cO} {S : cS} {N : Nat} {Q : Option Value → cS → Prop} {X : cS → Prop} (hG : zOK G) (hR : ∀ S', X S' → Q none S') (ok : O_X5_writeId_54 N S) (hx : X (F_X5_writeId_54 N S)) : cX G o dX5_writeId mX5_writeId 54 [none, none, none, none] [] S Q := by
  unfold O_X5_writeId_54 at ok
  unfold F_X5_writeId_54 at hx
  exact c_return rfl dX5_writeId_54 (hR _ hx)
def F_X5_writeId_48 (N : Nat) (rec : Option Nat → Option Nat → Int32 → Int32 → cS → Nat × cS) (x0 : Option Nat) (x1 : Option Nat) (x2 : Int32) (x3 : Int32) (S : cS) : Nat × cS := (rec x0 x1 x2 (x3 + nI 1) S)
def O_X5_writeId_48 (N : Nat) (rok : Option Nat → Option Nat → Int32 → Int32 → cS → Prop) (x0 : Option Nat) (x1 : Option Nat) (x2 : Int32) (x3 : Int32) (S : cS) : Prop := rok x0 x1 x2 (x3 + nI 1) S
set_option maxRecDepth 100000 in
set_option maxHeartbeats 4000000 in
theorem b_X5_writeId_48 {G : zG} {o : cO} {S : cS} {N : Nat} {Q : Option Value → cS → Prop} {X : Nat × cS → Prop} (hG : zOK G) (hX0 : ∀ (S' : cS), X (0, S') → cX G o dX5_writeId mX5_writeId 54 [none, none, none, none] [] S' Q) {rec : Option Nat → Option Nat → Int32 → Int32 → cS → Nat × cS} {rok : Option Nat → Option Nat → Int32 → Int32 → cS → Prop} (hrec : ∀ (x0 : Option Nat) (x1 : Option Nat) (x2 : Int32) (x3 : Int32) (S : cS), rok x0 x1 x2 x3 S → X (rec x0 x1 x2 x3 S) → cX G o dX5_writeId mX5_writeId 16 [some (va_rf x0), some (va_rf x1), some (.int x2), some (.int x3)] [] S Q) {x0 : Option Nat} {x1 : Option Nat} {x2 : Int32} {x3 : Int32} (ok : O_X5_writeId_48 N rok x0 x1 x2 x3 S) (hx : X (F_X5_writeId_48 N rec x0 x1 x2 x3 S)) : cX G o dX5_writeId mX5_writeId 48 [some (va_rf x0), some (va_rf x1), some (.int x2), some (.int x3)] [] S Q := by
  unfold O_X5_writeId_48 at ok
  unfold F_X5_writeId_48 at hx
  refine c_iinc_3 (v := (x3 + nI 1)) dX5_writeId_48 rfl (by first | rfl | (congr 1)) (by decide) rfl ?_
  refine c_goto (tgt := 16) dX5_writeId_51 (by decide) ?_
  exact cX.cutz (hrec _ _ _ _ S ok hx) ⟨rfl, rfl, rfl, rfl, trivial⟩
def B_X5_writeId_16 (N : Nat) (rec : Option Nat → Option Nat → Int32 → Int32 → cS → Nat × cS) (x0 : Option Nat) (x1 : Option Nat) (x2 : Int32) (x3 : Int32) (S : cS) : Nat × cS := (if (nI 32) ≤ x3 then (0, S) else (F_X5_writeId_48 N rec x0 x1 x2 x3 (csA S (za x1) (x2 + x3).toNatClampNeg (((Int64.toInt32 ((cJ S (za (cR S 1 (za x0))) (x3 >>> ((nI 3) &&& 31)).toNatClampNeg) >>> (Int32.toInt64 ((nI 56) - ((nI 8) * (x3 &&& (nI 7)))) &&& 63))).toInt8.toInt32).toInt8.toInt32))))
def OB_X5_writeId_16 (N : Nat) (rok : Option Nat → Option Nat → Int32 → Int32 → cS → Prop) (x0 : Option Nat) (x1 : Option Nat) (x2 : Int32) (x3 : Int32) (S : cS) : Prop := (((nI 32) ≤ x3 → True) ∧ (¬ (nI 32) ≤ x3 → (cis S x0 5) ∧ (cis S (cR S 1 (za x0)) 22 ∧ vp_in (x3 >>> ((nI 3) &&& 31)) (cL S (za (cR S 1 (za x0))))) ∧ (cis S x1 20 ∧ vp_in (x2 + x3) (cL S (za x1))) ∧ O_X5_writeId_48 N rok x0 x1 x2 x3 (csA S (za x1) (x2 + x3).toNatClampNeg (((Int64.toInt32 ((cJ S (za (cR S 1 (za x0))) (x3 >>> ((nI 3) &&& 31)).toNatClampNeg) >>> (Int32.toInt64 ((nI 56) - ((nI 8) * (x3 &&& (nI 7)))) &&& 63))).toInt8.toInt32).toInt8.toInt32))))
set_option maxRecDepth 100000 in
set_option maxHeartbeats 4000000 in
theorem bb_X5_writeId_16 {G : zG} {o : cO} {S : cS} {N : Nat} {Q : Option Value → cS → Prop} {X : Nat × cS → Prop} (hG : zOK G) (hX0 : ∀ (S' : cS), X (0, S') → cX G o dX5_writeId mX5_writeId 54 [none, none, none, none] [] S' Q) {rec : Option Nat → Option Nat → Int32 → Int32 → cS → Nat × cS} {rok : Option Nat → Option Nat → Int32 → Int32 → cS → Prop} (hrec : ∀ (x0 : Option Nat) (x1 : Option Nat) (x2 : Int32) (x3 : Int32) (S : cS), rok x0 x1 x2 x3 S → X (rec x0 x1 x2 x3 S) → cX G o dX5_writeId mX5_writeId 16 [some (va_rf x0), some (va_rf x1), some (.int x2), some (.int x3)] [] S Q) {x0 : Option Nat} {x1 : Option Nat} {x2 : Int32} {x3 : Int32} (ok : OB_X5_writeId_16 N rok x0 x1 x2 x3 S) (hx : X (B_X5_writeId_16 N rec x0 x1 x2 x3 S)) : cX G o dX5_writeId mX5_writeId 16 [some (va_rf x0), some (va_rf x1), some (.int x2), some (.int x3)] [] S Q := by
  unfold OB_X5_writeId_16 at ok
  unfold B_X5_writeId_16 at hx
  refine c_iload_n dX5_writeId_16 rfl rfl ?_
  refine c_bipush (v := nI 32) dX5_writeId_17 (by decide) ?_
  refine c_icmp_ge (tgt := 54) dX5_writeId_19 (by decide) (fun c_19 => ?_) (fun c_19 => ?_)
  · have ok := ok.1 c_19
    have hx := xif_p c_19 hx
    exact cX.cutz (hX0 S hx) trivial
  · have ok := ok.2 c_19
    have hx := xif_n c_19 hx
    refine c_aload_nQ dX5_writeId_22 rfl rfl ?_
    refine c_iload_n dX5_writeId_23 rfl rfl ?_
    refine c_iload_n dX5_writeId_24 rfl rfl ?_
    refine c_iadd dX5_writeId_25 ?_
    refine c_aload_nQ dX5_writeId_26 rfl rfl ?_
    refine c_getR (C := RX5) (T := TX5) (N := 7) (ci := 4) (k := 1) ⟨rfl, inT5, by decide, fX5_9⟩ (by decide) (by decide) (by decide) dX5_writeId_27 ok.1 ?_
    have ok := ok.2
    refine c_iload_n dX5_writeId_30 rfl rfl ?_
    refine c_iconst (v := nI 3) dX5_writeId_31 (by decide) ?_
    refine c_ishr dX5_writeId_32 ?_
    refine c_lald dX5_writeId_33 ok.1 ?_
    have ok := ok.2
    refine c_bipush (v := nI 56) dX5_writeId_34 (by decide) ?_
    refine c_bipush (v := nI 8) dX5_writeId_36 (by decide) ?_
    refine c_iload_n dX5_writeId_38 rfl rfl ?_
    refine c_bipush (v := nI 7) dX5_writeId_39 (by decide) ?_
    refine c_iand dX5_writeId_41 ?_
    refine c_imul dX5_writeId_42 ?_
    refine c_isub dX5_writeId_43 ?_
    refine c_lshr dX5_writeId_44 ?_
    refine c_l2i dX5_writeId_45 ?_
    refine c_i2b dX5_writeId_46 ?_
    refine c_bast dX5_writeId_47 ok.1 ?_
    have ok := ok.2
    exact cX.cutz (b_X5_writeId_48 hG hX0 hrec ok hx) ⟨rfl, rfl, rfl, rfl, trivial⟩
def L_X5_writeId_16 (N : Nat) : Nat → Option Nat → Option Nat → Int32 → Int32 → cS → Nat × cS
  | 0, x0, x1, x2, x3, S => (0, S)
  | n + 1, x0, x1, x2, x3, S => B_X5_writeId_16 N (L_X5_writeId_16 N n) x0 x1 x2 x3 S
def OL_X5_writeId_16 (N : Nat) : Nat → Option Nat → Option Nat → Int32 → Int32 → cS → Prop
  | 0, _, _, _, _, _ => False
  | n + 1, x0, x1, x2, x3, S => OB_X5_writeId_16 N (OL_X5_writeId_16 N n) x0 x1 x2 x3 S
set_option maxRecDepth 100000 in
set_option maxHeartbeats 4000000 in
theorem l_X5_writeId_16 {G : zG} {o : cO} {N : Nat} {Q : Option Value → cS → Prop} {X : Nat × cS → Prop} (hG : zOK G) (hX0 : ∀ (S' : cS), X (0, S') → cX G o dX5_writeId mX5_writeId 54 [none, none, none, none] [] S' Q) : ∀ (n : Nat) (x0 : Option Nat) (x1 : Option Nat) (x2 : Int32) (x3 : Int32) (S : cS), OL_X5_writeId_16 N n x0 x1 x2 x3 S → X (L_X5_writeId_16 N n x0 x1 x2 x3 S) → cX G o dX5_writeId mX5_writeId 16 [some (va_rf x0), some (va_rf x1), some (.int x2), some (.int x3)] [] S Q := by
  intro n
  induction n with
  | zero => intro x0 x1 x2 x3 S ok; exact absurd ok id
  | succ n ih =>
    intro x0 x1 x2 x3 S ok hx
    exact bb_X5_writeId_16 hG hX0 (rec := L_X5_writeId_16 N n) (rok := OL_X5_writeId_16 N n) (fun x0 x1 x2 x3 S ok hx => ih x0 x1 x2 x3 S ok hx) ok hx
def A_X5_writeId_16 (N : Nat) (x0 : Option Nat) (x1 : Option Nat) (x2 : Int32) (x3 : Int32) (S : cS) (z : Nat × cS) : cS := (F_X5_writeId_54 N z.2)
def OA_X5_writeId_16 (N : Nat) (x0 : Option Nat) (x1 : Option Nat) (x2 : Int32) (x3 : Int32) (S : cS) (z : Nat × cS) : Prop := O_X5_writeId_54 N z.2
set_option maxRecDepth 100000 in
set_option maxHeartbeats 4000000 in
theorem c_X5_writeId_16 {G : zG} {o : cO} {S : cS} {N : Nat} {Q : Option Value → cS → Prop} {X : cS → Prop} (hG : zOK G) (hR : ∀ S', X S' → Q none S') {x0 : Option Nat} {x1 : Option Nat} {x2 : Int32} {x3 : Int32} (ok : OL_X5_writeId_16 N N x0 x1 x2 x3 S ∧ OA_X5_writeId_16 N x0 x1 x2 x3 S (L_X5_writeId_16 N N x0 x1 x2 x3 S)) (hx : X (A_X5_writeId_16 N x0 x1 x2 x3 S (L_X5_writeId_16 N N x0 x1 x2 x3 S))) : cX G o dX5_writeId mX5_writeId 16 [some (va_rf x0), some (va_rf x1), some (.int x2), some (.int x3)] [] S Q := by
  refine l_X5_writeId_16 hG ?_ N x0 x1 x2 x3 S ok.1 (X := fun z => OA_X5_writeId_16 N x0 x1 x2 x3 S z ∧ X (A_X5_writeId_16 N x0 x1 x2 x3 S z)) ⟨ok.2, hx⟩
  · intro S' hz
    obtain ⟨ok, hx⟩ := hz
    unfold OA_X5_writeId_16 at ok
    unfold A_X5_writeId_16 at hx
    exact cX.cutz (b_X5_writeId_54 hG hR ok hx) trivial
def F_X5_writeId_13 (N : Nat)  (S : cS) : cS := S
def O_X5_writeId_13 (N : Nat)  (S : cS) : Prop := True
set_option maxRecDepth 100000 in
set_option maxHeartbeats 4000000 in
theorem b_X5_writeId_13 {G : zG} {o : cO} {S : cS} {N : Nat} {Q : Option Value → cS → Prop} {X : cS → Prop} (hG : zOK G) (hR : ∀ S', X S' → Q none S') (ok : O_X5_writeId_13 N S) (hx : X (F_X5_writeId_13 N S)) : cX G o dX5_writeId mX5_writeId 13 [none, none, none, none] [] S Q := by
  unfold O_X5_writeId_13 at ok
  unfold F_X5_writeId_13 at hx
  exact c_return rfl dX5_writeId_13 (hR _ hx)
def F_X5_writeId_0 (N : Nat) (x0 : Option Nat) (x1 : Option Nat) (x2 : Int32) (S : cS) : cS := (if x2 < 0 then (F_X5_writeId_13 N S) else (if x2 ≤ ((nI (cL S (za x1))) - (nI 32)) then (A_X5_writeId_16 N x0 x1 x2 (nI 0) S (L_X5_writeId_16 N N x0 x1 x2 (nI 0) S)) else (F_X5_writeId_13 N S)))
def O_X5_writeId_0 (N : Nat) (x0 : Option Nat) (x1 : Option Nat) (x2 : Int32) (S : cS) : Prop := ((x2 < 0 → O_X5_writeId_13 N S) ∧ (¬ x2 < 0 → (cis S x1 20) ∧ ((x2 ≤ ((nI (cL S (za x1))) - (nI 32)) → (OL_X5_writeId_16 N N x0 x1 x2 (nI 0) S ∧ OA_X5_writeId_16 N x0 x1 x2 (nI 0) S (L_X5_writeId_16 N N x0 x1 x2 (nI 0) S))) ∧ (¬ x2 ≤ ((nI (cL S (za x1))) - (nI 32)) → O_X5_writeId_13 N S))))
set_option maxRecDepth 100000 in
set_option maxHeartbeats 4000000 in
theorem b_X5_writeId_0 {G : zG} {o : cO} {S : cS} {N : Nat} {Q : Option Value → cS → Prop} {X : cS → Prop} (hG : zOK G) (hR : ∀ S', X S' → Q none S') {x0 : Option Nat} {x1 : Option Nat} {x2 : Int32} (ok : O_X5_writeId_0 N x0 x1 x2 S) (hx : X (F_X5_writeId_0 N x0 x1 x2 S)) : cX G o dX5_writeId mX5_writeId 0 [some (va_rf x0), some (va_rf x1), some (.int x2), none] [] S Q := by
  unfold O_X5_writeId_0 at ok
  unfold F_X5_writeId_0 at hx
  refine c_iload_n dX5_writeId_0 rfl rfl ?_
  refine c_if_lt (tgt := 13) dX5_writeId_1 (by decide) (fun c_1 => ?_) (fun c_1 => ?_)
  · have ok := ok.1 c_1
    have hx := xif_p c_1 hx
    exact cX.cutz (b_X5_writeId_13 hG hR ok hx) trivial
  · have ok := ok.2 c_1
    have hx := xif_n c_1 hx
    refine c_iload_n dX5_writeId_4 rfl rfl ?_
    refine c_aload_nQ dX5_writeId_5 rfl rfl ?_
    refine c_alen (t := 0) (ty := .byte) rfl dX5_writeId_6 ok.1 ?_
    have ok := ok.2
    refine c_bipush (v := nI 32) dX5_writeId_7 (by decide) ?_
    refine c_isub dX5_writeId_9 ?_
    refine c_icmp_le (tgt := 14) dX5_writeId_10 (by decide) (fun c_10 => ?_) (fun c_10 => ?_)
    · have ok := ok.1 c_10
      have hx := xif_p c_10 hx
      refine c_iconst (v := nI 0) dX5_writeId_14 (by decide) ?_
      refine c_istore_3 dX5_writeId_15 (by decide) rfl ?_
      exact cX.cutz (c_X5_writeId_16 hG hR ok hx) ⟨rfl, rfl, rfl, rfl, trivial⟩
    · have ok := ok.2 c_10
      have hx := xif_n c_10 hx
      exact cX.cutz (b_X5_writeId_13 hG hR ok hx) trivial
def f_X5_writeId (N : Nat) (S : cS) (a0 : Nat) (x1 : Option Nat) (x2 : Int32) : cS := F_X5_writeId_0 N (some a0) x1 x2 S
def o_X5_writeId (N : Nat) (S : cS) (a0 : Nat) (x1 : Option Nat) (x2 : Int32) : Prop := O_X5_writeId_0 N (some a0) x1 x2 S
set_option maxRecDepth 100000 in
set_option maxHeartbeats 4000000 in
theorem cc_X5_writeId {G : zG} {o : cO} {S : cS} {N : Nat} (hG : zOK G) {a0 : Nat} {x1 : Option Nat} {x2 : Int32} (ok : o_X5_writeId N S a0 x1 x2) : cCv G o dX5_writeId mX5_writeId [.ref a0, va_rf x1, .int x2] S (fun S' => S' = f_X5_writeId N S a0 x1 x2) := by
  refine cC.ofX rfl (by cases x1 <;> exact Nat.le_of_ble_eq_true rfl) ?_
  rw [show zargs mX5_writeId.2.2.1 [.ref a0, va_rf x1, .int x2] = [some (.ref a0), some (va_rf x1), some (.int x2), none] from by cases x1 <;> rfl]
  exact cX.cutz (b_X5_writeId_0 (X := fun F => F = f_X5_writeId N S a0 x1 x2) hG (fun S' h => ⟨rfl, h⟩) ok rfl) ⟨rfl, rfl, rfl, trivial⟩
/-! X3_accuse -/
def F_X3_accuse_223 (N : Nat) (x0 : Option Nat) (x5 : Option Nat) (S : cS) : cS := (f_X9_drop N S (za (cR S 6 (za (cR S 0 (za x0))))) x5)
def O_X3_accuse_223 (N : Nat) (x0 : Option Nat) (x5 : Option Nat) (S : cS) : Prop := (cis S x0 6) ∧ (cis S (cR S 0 (za x0)) 9) ∧ (cis S (cR S 6 (za (cR S 0 (za x0)))) 8 ∧ o_X9_drop N S (za (cR S 6 (za (cR S 0 (za x0))))) x5) ∧ True
set_option maxRecDepth 100000 in
set_option maxHeartbeats 4000000 in
theorem b_X3_accuse_223 {G : zG} {o : cO} {S : cS} {N : Nat} {Q : Option Value → cS → Prop} {X : cS → Prop} (hG : zOK G) (hR : ∀ S', X S' → Q none S') {x0 : Option Nat} {x5 : Option Nat} (ok : O_X3_accuse_223 N x0 x5 S) (hx : X (F_X3_accuse_223 N x0 x5 S)) : cX G o dX3_accuse mX3_accuse 223 [some (va_rf x0), none, none, none, none, some (va_rf x5), none] [] S Q := by
  unfold O_X3_accuse_223 at ok
  unfold F_X3_accuse_223 at hx
  refine c_aload_nQ dX3_accuse_223 rfl rfl ?_
  refine c_getR (C := RX6) (T := TX6) (N := 19) (ci := 5) (k := 0) ⟨rfl, inT6, by decide, fX3_33⟩ (by decide) (by decide) (by decide) dX3_accuse_224 ok.1 ?_
  have ok := ok.2
  refine c_getR (C := RX10) (T := TX10) (N := 12) (ci := 8) (k := 6) ⟨rfl, inT10, by decide, fX3_73⟩ (by decide) (by decide) (by decide) dX3_accuse_227 ok.1 ?_
  have ok := ok.2
  refine c_aloadQ dX3_accuse_230 rfl ?_
  refine c_V1vE (ci := 7) (rr := (RX9, TX9, 13)) (y' := mX9_drop) dX3_accuse_232 lX3_83 kX9_drop ⟨by decide, by decide⟩ rfl rfl (by decide) ok.1.1 (Nat.le_of_ble_eq_true rfl) (cc_X9_drop hG ok.1.2) ?_
  have ok := ok.2
  exact c_return rfl dX3_accuse_235 (hR _ hx)
def F_X3_accuse_201 (N : Nat) (x0 : Option Nat) (x5 : Option Nat) (s0 : Int32) (S : cS) : cS := (F_X3_accuse_223 N x0 x5 (f_X10_spread N S (za (cR S 0 (za x0))) (cI S 1 (za x0)) x5 (cI S 1 (za x0)) (cI S 1 (za x0))))
def O_X3_accuse_201 (N : Nat) (x0 : Option Nat) (x5 : Option Nat) (s0 : Int32) (S : cS) : Prop := (cis S x0 6) ∧ (cis S x0 6) ∧ (cis S x0 6) ∧ (cis S x0 6) ∧ (cis S (cR S 0 (za x0)) 9 ∧ o_X10_spread N S (za (cR S 0 (za x0))) (cI S 1 (za x0)) x5 (cI S 1 (za x0)) (cI S 1 (za x0))) ∧ O_X3_accuse_223 N x0 x5 (f_X10_spread N S (za (cR S 0 (za x0))) (cI S 1 (za x0)) x5 (cI S 1 (za x0)) (cI S 1 (za x0)))
set_option maxRecDepth 100000 in
set_option maxHeartbeats 4000000 in
theorem b_X3_accuse_201 {G : zG} {o : cO} {S : cS} {N : Nat} {Q : Option Value → cS → Prop} {X : cS → Prop} (hG : zOK G) (hR : ∀ S', X S' → Q none S') {x0 : Option Nat} {x5 : Option Nat} {s0 : Int32} (ok : O_X3_accuse_201 N x0 x5 s0 S) (hx : X (F_X3_accuse_201 N x0 x5 s0 S)) : cX G o dX3_accuse mX3_accuse 201 [some (va_rf x0), none, none, none, none, some (va_rf x5), none] [.int s0] S Q := by
  unfold O_X3_accuse_201 at ok
  unfold F_X3_accuse_201 at hx
  refine c_pop dX3_accuse_201 rfl ?_
  refine c_aload_nQ dX3_accuse_202 rfl rfl ?_
  refine c_getR (C := RX6) (T := TX6) (N := 19) (ci := 5) (k := 0) ⟨rfl, inT6, by decide, fX3_33⟩ (by decide) (by decide) (by decide) dX3_accuse_203 ok.1 ?_
  have ok := ok.2
  refine c_aload_nQ dX3_accuse_206 rfl rfl ?_
  refine c_getI (C := RX6) (T := TX6) (N := 19) (ci := 5) (k := 1) ⟨rfl, inT6, by decide, fX3_37⟩ (by decide) (by decide) (by decide) dX3_accuse_207 ok.1 ?_
  have ok := ok.2
  refine c_aloadQ dX3_accuse_210 rfl ?_
  refine c_aload_nQ dX3_accuse_212 rfl rfl ?_
  refine c_getI (C := RX6) (T := TX6) (N := 19) (ci := 5) (k := 1) ⟨rfl, inT6, by decide, fX3_37⟩ (by decide) (by decide) (by decide) dX3_accuse_213 ok.1 ?_
  have ok := ok.2
  refine c_aload_nQ dX3_accuse_216 rfl rfl ?_
  refine c_getI (C := RX6) (T := TX6) (N := 19) (ci := 5) (k := 1) ⟨rfl, inT6, by decide, fX3_37⟩ (by decide) (by decide) (by decide) dX3_accuse_217 ok.1 ?_
  have ok := ok.2
  refine c_V4vE (ci := 8) (rr := (RX10, TX10, 12)) (y' := mX10_spread) dX3_accuse_220 lX3_44 kX10_spread ⟨by decide, by decide⟩ rfl rfl (by decide) ok.1.1 (Nat.le_of_ble_eq_true rfl) (cc_X10_spread hG ok.1.2) ?_
  have ok := ok.2
  exact cX.cutz (b_X3_accuse_223 hG hR ok hx) ⟨rfl, rfl, trivial⟩
def F_X3_accuse_192 (N : Nat) (x0 : Option Nat) (x5 : Option Nat) (S : cS) : cS := (F_X3_accuse_201 N x0 x5 ((f_X8_addProof N S (za (cR S 3 (za x0))) x5).1) (f_X8_addProof N S (za (cR S 3 (za x0))) x5).2)
def O_X3_accuse_192 (N : Nat) (x0 : Option Nat) (x5 : Option Nat) (S : cS) : Prop := (cis S x0 6) ∧ (cis S (cR S 3 (za x0)) 7 ∧ o_X8_addProof N S (za (cR S 3 (za x0))) x5) ∧ O_X3_accuse_201 N x0 x5 ((f_X8_addProof N S (za (cR S 3 (za x0))) x5).1) (f_X8_addProof N S (za (cR S 3 (za x0))) x5).2
set_option maxRecDepth 100000 in
set_option maxHeartbeats 4000000 in
theorem b_X3_accuse_192 {G : zG} {o : cO} {S : cS} {N : Nat} {Q : Option Value → cS → Prop} {X : cS → Prop} (hG : zOK G) (hR : ∀ S', X S' → Q none S') {x0 : Option Nat} {x5 : Option Nat} (ok : O_X3_accuse_192 N x0 x5 S) (hx : X (F_X3_accuse_192 N x0 x5 S)) : cX G o dX3_accuse mX3_accuse 192 [some (va_rf x0), none, none, none, none, some (va_rf x5), none] [] S Q := by
  unfold O_X3_accuse_192 at ok
  unfold F_X3_accuse_192 at hx
  refine c_aload_nQ dX3_accuse_192 rfl rfl ?_
  refine c_getR (C := RX6) (T := TX6) (N := 19) (ci := 5) (k := 3) ⟨rfl, inT6, by decide, fX3_21⟩ (by decide) (by decide) (by decide) dX3_accuse_193 ok.1 ?_
  have ok := ok.2
  refine c_aloadQ dX3_accuse_196 rfl ?_
  refine c_V1iE (ci := 6) (rr := (RX8, TX8, 14)) (y' := mX8_addProof) dX3_accuse_198 lX3_27 kX8_addProof ⟨by decide, by decide⟩ rfl rfl (by decide) ok.1.1 (Nat.le_of_ble_eq_true rfl) (cc_X8_addProof hG ok.1.2) ?_
  have ok := ok.2
  exact cX.cutz (b_X3_accuse_201 hG hR ok hx) ⟨rfl, rfl, trivial⟩
def F_X3_accuse_167 (N : Nat) (x0 : Option Nat) (x4 : Option Nat) (x5 : Option Nat) (s0 : Int32) (S : cS) : cS := (F_X3_accuse_192 N x0 x5 (f_X5_writeId N (csA S (za (cR S 0 (za x5))) s0.toNatClampNeg ((nI 1).toInt8.toInt32)) (za x4) (cR (csA S (za (cR S 0 (za x5))) s0.toNatClampNeg ((nI 1).toInt8.toInt32)) 0 (za x5)) (s0 + (nI 1))))
def O_X3_accuse_167 (N : Nat) (x0 : Option Nat) (x4 : Option Nat) (x5 : Option Nat) (s0 : Int32) (S : cS) : Prop := (cis S x5 5) ∧ (cis S (cR S 0 (za x5)) 20 ∧ vp_in s0 (cL S (za (cR S 0 (za x5))))) ∧ (cis (csA S (za (cR S 0 (za x5))) s0.toNatClampNeg ((nI 1).toInt8.toInt32)) x5 5) ∧ (cis (csA S (za (cR S 0 (za x5))) s0.toNatClampNeg ((nI 1).toInt8.toInt32)) x4 5 ∧ o_X5_writeId N (csA S (za (cR S 0 (za x5))) s0.toNatClampNeg ((nI 1).toInt8.toInt32)) (za x4) (cR (csA S (za (cR S 0 (za x5))) s0.toNatClampNeg ((nI 1).toInt8.toInt32)) 0 (za x5)) (s0 + (nI 1))) ∧ O_X3_accuse_192 N x0 x5 (f_X5_writeId N (csA S (za (cR S 0 (za x5))) s0.toNatClampNeg ((nI 1).toInt8.toInt32)) (za x4) (cR (csA S (za (cR S 0 (za x5))) s0.toNatClampNeg ((nI 1).toInt8.toInt32)) 0 (za x5)) (s0 + (nI 1)))
set_option maxRecDepth 100000 in
set_option maxHeartbeats 4000000 in
theorem b_X3_accuse_167 {G : zG} {o : cO} {S : cS} {N : Nat} {Q : Option Value → cS → Prop} {X : cS → Prop} (hG : zOK G) (hR : ∀ S', X S' → Q none S') {x0 : Option Nat} {x4 : Option Nat} {x5 : Option Nat} {s0 : Int32} (ok : O_X3_accuse_167 N x0 x4 x5 s0 S) (hx : X (F_X3_accuse_167 N x0 x4 x5 s0 S)) : cX G o dX3_accuse mX3_accuse 167 [some (va_rf x0), none, none, none, some (va_rf x4), some (va_rf x5), none] [.int s0] S Q := by
  unfold O_X3_accuse_167 at ok
  unfold F_X3_accuse_167 at hx
  refine c_istore_6 dX3_accuse_167 (by decide) (by simp [zok, zg, zcat_rf]) ?_
  refine c_aloadQ dX3_accuse_169 rfl ?_
  refine c_getR (C := RX5) (T := TX5) (N := 7) (ci := 4) (k := 0) ⟨rfl, inT5, by decide, fX3_94⟩ (by decide) (by decide) (by decide) dX3_accuse_171 ok.1 ?_
  have ok := ok.2
  refine c_iload dX3_accuse_174 rfl ?_
  refine c_iconst (v := nI 1) dX3_accuse_176 (by decide) ?_
  refine c_bast dX3_accuse_177 ok.1 ?_
  have ok := ok.2
  refine c_aloadQ dX3_accuse_178 rfl ?_
  refine c_aloadQ dX3_accuse_180 rfl ?_
  refine c_getR (C := RX5) (T := TX5) (N := 7) (ci := 4) (k := 0) ⟨rfl, inT5, by decide, fX3_94⟩ (by decide) (by decide) (by decide) dX3_accuse_182 ok.1 ?_
  have ok := ok.2
  refine c_iload dX3_accuse_185 rfl ?_
  refine c_iconst (v := nI 1) dX3_accuse_187 (by decide) ?_
  refine c_iadd dX3_accuse_188 ?_
  refine c_V2vE (ci := 4) (rr := (RX5, TX5, 7)) (y' := mX5_writeId) dX3_accuse_189 lX3_163 kX5_writeId ⟨by decide, by decide⟩ rfl rfl (by decide) ok.1.1 (Nat.le_of_ble_eq_true rfl) (cc_X5_writeId hG ok.1.2) ?_
  have ok := ok.2
  exact cX.cutz (b_X3_accuse_192 hG hR ok hx) ⟨rfl, rfl, trivial⟩
def F_X3_accuse_153 (N : Nat) (x0 : Option Nat) (x3 : Option Nat) (x4 : Option Nat) (x5 : Option Nat) (S : cS) : cS := (if (cI S 5 (za x3)) = 0 then (F_X3_accuse_167 N x0 x4 x5 (nI 7) S) else (F_X3_accuse_167 N x0 x4 x5 (nI 39) S))
def O_X3_accuse_153 (N : Nat) (x0 : Option Nat) (x3 : Option Nat) (x4 : Option Nat) (x5 : Option Nat) (S : cS) : Prop := (cis S x3 5) ∧ (((cI S 5 (za x3)) = 0 → O_X3_accuse_167 N x0 x4 x5 (nI 7) S) ∧ (¬ (cI S 5 (za x3)) = 0 → O_X3_accuse_167 N x0 x4 x5 (nI 39) S))
set_option maxRecDepth 100000 in
set_option maxHeartbeats 4000000 in
theorem b_X3_accuse_153 {G : zG} {o : cO} {S : cS} {N : Nat} {Q : Option Value → cS → Prop} {X : cS → Prop} (hG : zOK G) (hR : ∀ S', X S' → Q none S') {x0 : Option Nat} {x3 : Option Nat} {x4 : Option Nat} {x5 : Option Nat} (ok : O_X3_accuse_153 N x0 x3 x4 x5 S) (hx : X (F_X3_accuse_153 N x0 x3 x4 x5 S)) : cX G o dX3_accuse mX3_accuse 153 [some (va_rf x0), none, none, some (va_rf x3), some (va_rf x4), some (va_rf x5), none] [] S Q := by
  unfold O_X3_accuse_153 at ok
  unfold F_X3_accuse_153 at hx
  refine c_aload_nQ dX3_accuse_153 rfl rfl ?_
  refine c_getI (C := RX5) (T := TX5) (N := 7) (ci := 4) (k := 5) ⟨rfl, inT5, by decide, fX3_152⟩ (by decide) (by decide) (by decide) dX3_accuse_154 ok.1 ?_
  have ok := ok.2
  refine c_if_eq (tgt := 165) dX3_accuse_157 (by decide) (fun c_157 => ?_) (fun c_157 => ?_)
  · have ok := ok.1 c_157
    have hx := xif_p c_157 hx
    refine c_bipush (v := nI 7) dX3_accuse_165 (by decide) ?_
    exact cX.cutz (b_X3_accuse_167 hG hR ok hx) ⟨rfl, rfl, rfl, trivial⟩
  · have ok := ok.2 c_157
    have hx := xif_n c_157 hx
    refine c_bipush (v := nI 39) dX3_accuse_160 (by decide) ?_
    refine c_goto (tgt := 167) dX3_accuse_162 (by decide) ?_
    exact cX.cutz (b_X3_accuse_167 hG hR ok hx) ⟨rfl, rfl, rfl, trivial⟩
def F_X3_accuse_133 (N : Nat) (x0 : Option Nat) (x3 : Option Nat) (x4 : Option Nat) (x5 : Option Nat) (s0 : Option Nat) (s1 : Int32) (s2 : Int32) (S : cS) : cS := (if (cI (csA S (za s0) s1.toNatClampNeg ((s2.toInt8.toInt32).toInt8.toInt32)) 5 (za x3)) = 0 then (F_X3_accuse_153 N x0 x3 x4 x5 (csA S (za s0) s1.toNatClampNeg ((s2.toInt8.toInt32).toInt8.toInt32))) else (F_X3_accuse_153 N x0 x3 x4 x5 (f_X5_writeId N (csA S (za s0) s1.toNatClampNeg ((s2.toInt8.toInt32).toInt8.toInt32)) (za x3) (cR (csA S (za s0) s1.toNatClampNeg ((s2.toInt8.toInt32).toInt8.toInt32)) 0 (za x5)) (nI 7))))
def O_X3_accuse_133 (N : Nat) (x0 : Option Nat) (x3 : Option Nat) (x4 : Option Nat) (x5 : Option Nat) (s0 : Option Nat) (s1 : Int32) (s2 : Int32) (S : cS) : Prop := (cis S s0 20 ∧ vp_in s1 (cL S (za s0))) ∧ (cis (csA S (za s0) s1.toNatClampNeg ((s2.toInt8.toInt32).toInt8.toInt32)) x3 5) ∧ (((cI (csA S (za s0) s1.toNatClampNeg ((s2.toInt8.toInt32).toInt8.toInt32)) 5 (za x3)) = 0 → O_X3_accuse_153 N x0 x3 x4 x5 (csA S (za s0) s1.toNatClampNeg ((s2.toInt8.toInt32).toInt8.toInt32))) ∧ (¬ (cI (csA S (za s0) s1.toNatClampNeg ((s2.toInt8.toInt32).toInt8.toInt32)) 5 (za x3)) = 0 → (cis (csA S (za s0) s1.toNatClampNeg ((s2.toInt8.toInt32).toInt8.toInt32)) x5 5) ∧ (cis (csA S (za s0) s1.toNatClampNeg ((s2.toInt8.toInt32).toInt8.toInt32)) x3 5 ∧ o_X5_writeId N (csA S (za s0) s1.toNatClampNeg ((s2.toInt8.toInt32).toInt8.toInt32)) (za x3) (cR (csA S (za s0) s1.toNatClampNeg ((s2.toInt8.toInt32).toInt8.toInt32)) 0 (za x5)) (nI 7)) ∧ O_X3_accuse_153 N x0 x3 x4 x5 (f_X5_writeId N (csA S (za s0) s1.toNatClampNeg ((s2.toInt8.toInt32).toInt8.toInt32)) (za x3) (cR (csA S (za s0) s1.toNatClampNeg ((s2.toInt8.toInt32).toInt8.toInt32)) 0 (za x5)) (nI 7))))
set_option maxRecDepth 100000 in
set_option maxHeartbeats 4000000 in
theorem b_X3_accuse_133 {G : zG} {o : cO} {S : cS} {N : Nat} {Q : Option Value → cS → Prop} {X : cS → Prop} (hG : zOK G) (hR : ∀ S', X S' → Q none S') {x0 : Option Nat} {x3 : Option Nat} {x4 : Option Nat} {x5 : Option Nat} {s0 : Option Nat} {s1 : Int32} {s2 : Int32} (ok : O_X3_accuse_133 N x0 x3 x4 x5 s0 s1 s2 S) (hx : X (F_X3_accuse_133 N x0 x3 x4 x5 s0 s1 s2 S)) : cX G o dX3_accuse mX3_accuse 133 [some (va_rf x0), none, none, some (va_rf x3), some (va_rf x4), some (va_rf x5), none] [.int s2, .int s1, va_rf s0] S Q := by
  unfold O_X3_accuse_133 at ok
  unfold F_X3_accuse_133 at hx
  refine c_i2b dX3_accuse_133 ?_
  refine c_bast dX3_accuse_134 ok.1 ?_
  have ok := ok.2
  refine c_aload_nQ dX3_accuse_135 rfl rfl ?_
  refine c_getI (C := RX5) (T := TX5) (N := 7) (ci := 4) (k := 5) ⟨rfl, inT5, by decide, fX3_152⟩ (by decide) (by decide) (by decide) dX3_accuse_136 ok.1 ?_
  have ok := ok.2
  refine c_if_eq (tgt := 153) dX3_accuse_139 (by decide) (fun c_139 => ?_) (fun c_139 => ?_)
  · have ok := ok.1 c_139
    have hx := xif_p c_139 hx
    exact cX.cutz (b_X3_accuse_153 hG hR ok hx) ⟨rfl, rfl, rfl, rfl, trivial⟩
  · have ok := ok.2 c_139
    have hx := xif_n c_139 hx
    refine c_aload_nQ dX3_accuse_142 rfl rfl ?_
    refine c_aloadQ dX3_accuse_143 rfl ?_
    refine c_getR (C := RX5) (T := TX5) (N := 7) (ci := 4) (k := 0) ⟨rfl, inT5, by decide, fX3_94⟩ (by decide) (by decide) (by decide) dX3_accuse_145 ok.1 ?_
    have ok := ok.2
    refine c_bipush (v := nI 7) dX3_accuse_148 (by decide) ?_
    refine c_V2vE (ci := 4) (rr := (RX5, TX5, 7)) (y' := mX5_writeId) dX3_accuse_150 lX3_163 kX5_writeId ⟨by decide, by decide⟩ rfl rfl (by decide) ok.1.1 (Nat.le_of_ble_eq_true rfl) (cc_X5_writeId hG ok.1.2) ?_
    have ok := ok.2
    exact cX.cutz (b_X3_accuse_153 hG hR ok hx) ⟨rfl, rfl, rfl, rfl, trivial⟩
def F_X3_accuse_101 (N : Nat) (x0 : Option Nat) (x1 : Option Nat) (x3 : Option Nat) (x4 : Option Nat) (x5 : Option Nat) (S : cS) : cS := (if (cI (csA S (za (cR S 0 (za x5))) (nI 5).toNatClampNeg (((f_X5_at N S (za x1) (nI 4)).toInt8.toInt32).toInt8.toInt32)) 5 (za x3)) = 0 then (F_X3_accuse_133 N x0 x3 x4 x5 (cR (csA S (za (cR S 0 (za x5))) (nI 5).toNatClampNeg (((f_X5_at N S (za x1) (nI 4)).toInt8.toInt32).toInt8.toInt32)) 0 (za x5)) (nI 6) (nI 0) (csA S (za (cR S 0 (za x5))) (nI 5).toNatClampNeg (((f_X5_at N S (za x1) (nI 4)).toInt8.toInt32).toInt8.toInt32))) else (F_X3_accuse_133 N x0 x3 x4 x5 (cR (csA S (za (cR S 0 (za x5))) (nI 5).toNatClampNeg (((f_X5_at N S (za x1) (nI 4)).toInt8.toInt32).toInt8.toInt32)) 0 (za x5)) (nI 6) (nI 1) (csA S (za (cR S 0 (za x5))) (nI 5).toNatClampNeg (((f_X5_at N S (za x1) (nI 4)).toInt8.toInt32).toInt8.toInt32))))
def O_X3_accuse_101 (N : Nat) (x0 : Option Nat) (x1 : Option Nat) (x3 : Option Nat) (x4 : Option Nat) (x5 : Option Nat) (S : cS) : Prop := (cis S x5 5) ∧ (cis S x1 5 ∧ o_X5_at N S (za x1) (nI 4)) ∧ (cis S (cR S 0 (za x5)) 20 ∧ vp_in (nI 5) (cL S (za (cR S 0 (za x5))))) ∧ (cis (csA S (za (cR S 0 (za x5))) (nI 5).toNatClampNeg (((f_X5_at N S (za x1) (nI 4)).toInt8.toInt32).toInt8.toInt32)) x5 5) ∧ (cis (csA S (za (cR S 0 (za x5))) (nI 5).toNatClampNeg (((f_X5_at N S (za x1) (nI 4)).toInt8.toInt32).toInt8.toInt32)) x3 5) ∧ (((cI (csA S (za (cR S 0 (za x5))) (nI 5).toNatClampNeg (((f_X5_at N S (za x1) (nI 4)).toInt8.toInt32).toInt8.toInt32)) 5 (za x3)) = 0 → O_X3_accuse_133 N x0 x3 x4 x5 (cR (csA S (za (cR S 0 (za x5))) (nI 5).toNatClampNeg (((f_X5_at N S (za x1) (nI 4)).toInt8.toInt32).toInt8.toInt32)) 0 (za x5)) (nI 6) (nI 0) (csA S (za (cR S 0 (za x5))) (nI 5).toNatClampNeg (((f_X5_at N S (za x1) (nI 4)).toInt8.toInt32).toInt8.toInt32))) ∧ (¬ (cI (csA S (za (cR S 0 (za x5))) (nI 5).toNatClampNeg (((f_X5_at N S (za x1) (nI 4)).toInt8.toInt32).toInt8.toInt32)) 5 (za x3)) = 0 → O_X3_accuse_133 N x0 x3 x4 x5 (cR (csA S (za (cR S 0 (za x5))) (nI 5).toNatClampNeg (((f_X5_at N S (za x1) (nI 4)).toInt8.toInt32).toInt8.toInt32)) 0 (za x5)) (nI 6) (nI 1) (csA S (za (cR S 0 (za x5))) (nI 5).toNatClampNeg (((f_X5_at N S (za x1) (nI 4)).toInt8.toInt32).toInt8.toInt32))))
set_option maxRecDepth 100000 in
set_option maxHeartbeats 4000000 in
theorem b_X3_accuse_101 {G : zG} {o : cO} {S : cS} {N : Nat} {Q : Option Value → cS → Prop} {X : cS → Prop} (hG : zOK G) (hR : ∀ S', X S' → Q none S') {x0 : Option Nat} {x1 : Option Nat} {x3 : Option Nat} {x4 : Option Nat} {x5 : Option Nat} (ok : O_X3_accuse_101 N x0 x1 x3 x4 x5 S) (hx : X (F_X3_accuse_101 N x0 x1 x3 x4 x5 S)) : cX G o dX3_accuse mX3_accuse 101 [some (va_rf x0), some (va_rf x1), none, some (va_rf x3), some (va_rf x4), some (va_rf x5), none] [] S Q := by
  unfold O_X3_accuse_101 at ok
  unfold F_X3_accuse_101 at hx
  refine c_aloadQ dX3_accuse_101 rfl ?_
  refine c_getR (C := RX5) (T := TX5) (N := 7) (ci := 4) (k := 0) ⟨rfl, inT5, by decide, fX3_94⟩ (by decide) (by decide) (by decide) dX3_accuse_103 ok.1 ?_
  have ok := ok.2
  refine c_iconst (v := nI 5) dX3_accuse_106 (by decide) ?_
  refine c_aload_nQ dX3_accuse_107 rfl rfl ?_
  refine c_iconst (v := nI 4) dX3_accuse_108 (by decide) ?_
  refine c_V1iE (ci := 4) (rr := (RX5, TX5, 7)) (y' := mX5_at) dX3_accuse_109 lX3_125 kX5_at ⟨by decide, by decide⟩ rfl rfl (by decide) ok.1.1 (by simp only [List.map_cons, List.map_nil, List.sum_cons, List.sum_nil, zcat_rf, zcat_i, zcat_l, zcat_r] <;> decide) (cc_X5_at hG ok.1.2) ?_
  have ok := ok.2
  refine c_i2b dX3_accuse_112 ?_
  refine c_bast dX3_accuse_113 ok.1 ?_
  have ok := ok.2
  refine c_aloadQ dX3_accuse_114 rfl ?_
  refine c_getR (C := RX5) (T := TX5) (N := 7) (ci := 4) (k := 0) ⟨rfl, inT5, by decide, fX3_94⟩ (by decide) (by decide) (by decide) dX3_accuse_116 ok.1 ?_
  have ok := ok.2
  refine c_bipush (v := nI 6) dX3_accuse_119 (by decide) ?_
  refine c_aload_nQ dX3_accuse_121 rfl rfl ?_
  refine c_getI (C := RX5) (T := TX5) (N := 7) (ci := 4) (k := 5) ⟨rfl, inT5, by decide, fX3_152⟩ (by decide) (by decide) (by decide) dX3_accuse_122 ok.1 ?_
  have ok := ok.2
  refine c_if_eq (tgt := 132) dX3_accuse_125 (by decide) (fun c_125 => ?_) (fun c_125 => ?_)
  · have ok := ok.1 c_125
    have hx := xif_p c_125 hx
    refine c_iconst (v := nI 0) dX3_accuse_132 (by decide) ?_
    exact cX.cutz (b_X3_accuse_133 hG hR ok hx) ⟨rfl, rfl, rfl, rfl, trivial⟩
  · have ok := ok.2 c_125
    have hx := xif_n c_125 hx
    refine c_iconst (v := nI 1) dX3_accuse_128 (by decide) ?_
    refine c_goto (tgt := 133) dX3_accuse_129 (by decide) ?_
    exact cX.cutz (b_X3_accuse_133 hG hR ok hx) ⟨rfl, rfl, rfl, rfl, trivial⟩
def F_X3_accuse_75 (N : Nat) (x0 : Option Nat) (x1 : Option Nat) (x3 : Option Nat) (x4 : Option Nat) (x5 : Option Nat) (S : cS) : cS := (F_X3_accuse_101 N x0 x1 x3 x4 x5 (f_X11_putTwo N (csA S (za (cR S 0 (za x5))) (nI 2).toNatClampNeg (((f_X5_kind N S (za x1)).toInt8.toInt32).toInt8.toInt32)) (cR (csA S (za (cR S 0 (za x5))) (nI 2).toNatClampNeg (((f_X5_kind N S (za x1)).toInt8.toInt32).toInt8.toInt32)) 0 (za x5)) (nI 3) (f_X5_two N (csA S (za (cR S 0 (za x5))) (nI 2).toNatClampNeg (((f_X5_kind N S (za x1)).toInt8.toInt32).toInt8.toInt32)) (za x1) (nI 2))))
def O_X3_accuse_75 (N : Nat) (x0 : Option Nat) (x1 : Option Nat) (x3 : Option Nat) (x4 : Option Nat) (x5 : Option Nat) (S : cS) : Prop := (cis S x5 5) ∧ (cis S x1 5 ∧ o_X5_kind N S (za x1)) ∧ (cis S (cR S 0 (za x5)) 20 ∧ vp_in (nI 2) (cL S (za (cR S 0 (za x5))))) ∧ (cis (csA S (za (cR S 0 (za x5))) (nI 2).toNatClampNeg (((f_X5_kind N S (za x1)).toInt8.toInt32).toInt8.toInt32)) x5 5) ∧ (cis (csA S (za (cR S 0 (za x5))) (nI 2).toNatClampNeg (((f_X5_kind N S (za x1)).toInt8.toInt32).toInt8.toInt32)) x1 5 ∧ o_X5_two N (csA S (za (cR S 0 (za x5))) (nI 2).toNatClampNeg (((f_X5_kind N S (za x1)).toInt8.toInt32).toInt8.toInt32)) (za x1) (nI 2)) ∧ (o_X11_putTwo N (csA S (za (cR S 0 (za x5))) (nI 2).toNatClampNeg (((f_X5_kind N S (za x1)).toInt8.toInt32).toInt8.toInt32)) (cR (csA S (za (cR S 0 (za x5))) (nI 2).toNatClampNeg (((f_X5_kind N S (za x1)).toInt8.toInt32).toInt8.toInt32)) 0 (za x5)) (nI 3) (f_X5_two N (csA S (za (cR S 0 (za x5))) (nI 2).toNatClampNeg (((f_X5_kind N S (za x1)).toInt8.toInt32).toInt8.toInt32)) (za x1) (nI 2))) ∧ O_X3_accuse_101 N x0 x1 x3 x4 x5 (f_X11_putTwo N (csA S (za (cR S 0 (za x5))) (nI 2).toNatClampNeg (((f_X5_kind N S (za x1)).toInt8.toInt32).toInt8.toInt32)) (cR (csA S (za (cR S 0 (za x5))) (nI 2).toNatClampNeg (((f_X5_kind N S (za x1)).toInt8.toInt32).toInt8.toInt32)) 0 (za x5)) (nI 3) (f_X5_two N (csA S (za (cR S 0 (za x5))) (nI 2).toNatClampNeg (((f_X5_kind N S (za x1)).toInt8.toInt32).toInt8.toInt32)) (za x1) (nI 2)))
set_option maxRecDepth 100000 in
set_option maxHeartbeats 4000000 in
theorem b_X3_accuse_75 {G : zG} {o : cO} {S : cS} {N : Nat} {Q : Option Value → cS → Prop} {X : cS → Prop} (hG : zOK G) (hR : ∀ S', X S' → Q none S') {x0 : Option Nat} {x1 : Option Nat} {x3 : Option Nat} {x4 : Option Nat} {x5 : Option Nat} (ok : O_X3_accuse_75 N x0 x1 x3 x4 x5 S) (hx : X (F_X3_accuse_75 N x0 x1 x3 x4 x5 S)) : cX G o dX3_accuse mX3_accuse 75 [some (va_rf x0), some (va_rf x1), none, some (va_rf x3), some (va_rf x4), some (va_rf x5), none] [] S Q := by
  unfold O_X3_accuse_75 at ok
  unfold F_X3_accuse_75 at hx
  refine c_aloadQ dX3_accuse_75 rfl ?_
  refine c_getR (C := RX5) (T := TX5) (N := 7) (ci := 4) (k := 0) ⟨rfl, inT5, by decide, fX3_94⟩ (by decide) (by decide) (by decide) dX3_accuse_77 ok.1 ?_
  have ok := ok.2
  refine c_iconst (v := nI 2) dX3_accuse_80 (by decide) ?_
  refine c_aload_nQ dX3_accuse_81 rfl rfl ?_
  refine c_V0iE (ci := 4) (rr := (RX5, TX5, 7)) (y' := mX5_kind) dX3_accuse_82 lX3_9 kX5_kind ⟨by decide, by decide⟩ rfl rfl (by decide) ok.1.1 (by simp only [List.map_cons, List.map_nil, List.sum_cons, List.sum_nil, zcat_rf, zcat_i, zcat_l, zcat_r] <;> decide) (cc_X5_kind hG ok.1.2) ?_
  have ok := ok.2
  refine c_i2b dX3_accuse_85 ?_
  refine c_bast dX3_accuse_86 ok.1 ?_
  have ok := ok.2
  refine c_aloadQ dX3_accuse_87 rfl ?_
  refine c_getR (C := RX5) (T := TX5) (N := 7) (ci := 4) (k := 0) ⟨rfl, inT5, by decide, fX3_94⟩ (by decide) (by decide) (by decide) dX3_accuse_89 ok.1 ?_
  have ok := ok.2
  refine c_iconst (v := nI 3) dX3_accuse_92 (by decide) ?_
  refine c_aload_nQ dX3_accuse_93 rfl rfl ?_
  refine c_iconst (v := nI 2) dX3_accuse_94 (by decide) ?_
  refine c_V1iE (ci := 4) (rr := (RX5, TX5, 7)) (y' := mX5_two) dX3_accuse_95 lX3_50 kX5_two ⟨by decide, by decide⟩ rfl rfl (by decide) ok.1.1 (by simp only [List.map_cons, List.map_nil, List.sum_cons, List.sum_nil, zcat_rf, zcat_i, zcat_l, zcat_r] <;> decide) (cc_X5_two hG ok.1.2) ?_
  have ok := ok.2
  refine c_SN3vE (y' := mX11_putTwo) dX3_accuse_98 lX3_159 kX11_putTwo ⟨by decide, by decide⟩ (Nat.le_of_ble_eq_true rfl) (cc_X11_putTwo hG ok.1) ?_
  have ok := ok.2
  exact cX.cutz (b_X3_accuse_101 hG hR ok hx) ⟨rfl, rfl, rfl, rfl, rfl, trivial⟩
def F_X3_accuse_52 (N : Nat) (x0 : Option Nat) (x1 : Option Nat) (x3 : Option Nat) (x4 : Option Nat) (s0 : Option Nat) (S : cS) : cS := (F_X3_accuse_75 N x0 x1 x3 x4 s0 (csA (csA S (za (cR S 0 (za s0))) (nI 0).toNatClampNeg ((nI 6).toInt8.toInt32)) (za (cR (csA S (za (cR S 0 (za s0))) (nI 0).toNatClampNeg ((nI 6).toInt8.toInt32)) 0 (za s0))) (nI 1).toNatClampNeg (((f_X5_signer N (csA S (za (cR S 0 (za s0))) (nI 0).toNatClampNeg ((nI 6).toInt8.toInt32)) (za x1)).toInt8.toInt32).toInt8.toInt32)))
def O_X3_accuse_52 (N : Nat) (x0 : Option Nat) (x1 : Option Nat) (x3 : Option Nat) (x4 : Option Nat) (s0 : Option Nat) (S : cS) : Prop := (cis S s0 5) ∧ (cis S (cR S 0 (za s0)) 20 ∧ vp_in (nI 0) (cL S (za (cR S 0 (za s0))))) ∧ (cis (csA S (za (cR S 0 (za s0))) (nI 0).toNatClampNeg ((nI 6).toInt8.toInt32)) s0 5) ∧ (cis (csA S (za (cR S 0 (za s0))) (nI 0).toNatClampNeg ((nI 6).toInt8.toInt32)) x1 5 ∧ o_X5_signer N (csA S (za (cR S 0 (za s0))) (nI 0).toNatClampNeg ((nI 6).toInt8.toInt32)) (za x1)) ∧ (cis (csA S (za (cR S 0 (za s0))) (nI 0).toNatClampNeg ((nI 6).toInt8.toInt32)) (cR (csA S (za (cR S 0 (za s0))) (nI 0).toNatClampNeg ((nI 6).toInt8.toInt32)) 0 (za s0)) 20 ∧ vp_in (nI 1) (cL (csA S (za (cR S 0 (za s0))) (nI 0).toNatClampNeg ((nI 6).toInt8.toInt32)) (za (cR (csA S (za (cR S 0 (za s0))) (nI 0).toNatClampNeg ((nI 6).toInt8.toInt32)) 0 (za s0))))) ∧ O_X3_accuse_75 N x0 x1 x3 x4 s0 (csA (csA S (za (cR S 0 (za s0))) (nI 0).toNatClampNeg ((nI 6).toInt8.toInt32)) (za (cR (csA S (za (cR S 0 (za s0))) (nI 0).toNatClampNeg ((nI 6).toInt8.toInt32)) 0 (za s0))) (nI 1).toNatClampNeg (((f_X5_signer N (csA S (za (cR S 0 (za s0))) (nI 0).toNatClampNeg ((nI 6).toInt8.toInt32)) (za x1)).toInt8.toInt32).toInt8.toInt32))
set_option maxRecDepth 100000 in
set_option maxHeartbeats 4000000 in
theorem b_X3_accuse_52 {G : zG} {o : cO} {S : cS} {N : Nat} {Q : Option Value → cS → Prop} {X : cS → Prop} (hG : zOK G) (hR : ∀ S', X S' → Q none S') {x0 : Option Nat} {x1 : Option Nat} {x3 : Option Nat} {x4 : Option Nat} {s0 : Option Nat} (ok : O_X3_accuse_52 N x0 x1 x3 x4 s0 S) (hx : X (F_X3_accuse_52 N x0 x1 x3 x4 s0 S)) : cX G o dX3_accuse mX3_accuse 52 [some (va_rf x0), some (va_rf x1), none, some (va_rf x3), some (va_rf x4), none, none] [va_rf s0] S Q := by
  unfold O_X3_accuse_52 at ok
  unfold F_X3_accuse_52 at hx
  refine c_astore_5Q dX3_accuse_52 (by decide) (by simp [zok, zg, zcat_rf]) ?_
  refine c_aloadQ dX3_accuse_54 rfl ?_
  refine c_getR (C := RX5) (T := TX5) (N := 7) (ci := 4) (k := 0) ⟨rfl, inT5, by decide, fX3_94⟩ (by decide) (by decide) (by decide) dX3_accuse_56 ok.1 ?_
  have ok := ok.2
  refine c_iconst (v := nI 0) dX3_accuse_59 (by decide) ?_
  refine c_bipush (v := nI 6) dX3_accuse_60 (by decide) ?_
  refine c_bast dX3_accuse_62 ok.1 ?_
  have ok := ok.2
  refine c_aloadQ dX3_accuse_63 rfl ?_
  refine c_getR (C := RX5) (T := TX5) (N := 7) (ci := 4) (k := 0) ⟨rfl, inT5, by decide, fX3_94⟩ (by decide) (by decide) (by decide) dX3_accuse_65 ok.1 ?_
  have ok := ok.2
  refine c_iconst (v := nI 1) dX3_accuse_68 (by decide) ?_
  refine c_aload_nQ dX3_accuse_69 rfl rfl ?_
  refine c_V0iE (ci := 4) (rr := (RX5, TX5, 7)) (y' := mX5_signer) dX3_accuse_70 lX3_41 kX5_signer ⟨by decide, by decide⟩ rfl rfl (by decide) ok.1.1 (by simp only [List.map_cons, List.map_nil, List.sum_cons, List.sum_nil, zcat_rf, zcat_i, zcat_l, zcat_r] <;> decide) (cc_X5_signer hG ok.1.2) ?_
  have ok := ok.2
  refine c_i2b dX3_accuse_73 ?_
  refine c_bast dX3_accuse_74 ok.1 ?_
  have ok := ok.2
  exact cX.cutz (b_X3_accuse_75 hG hR ok hx) ⟨rfl, rfl, rfl, rfl, rfl, trivial⟩
def F_X3_accuse_48 (N : Nat) (x0 : Option Nat) (x1 : Option Nat) (x3 : Option Nat) (x4 : Option Nat) (s0 : Option Nat) (s1 : Int32) (s2 : Int32) (S : cS) : cS := (F_X3_accuse_52 N x0 x1 x3 x4 ((f_X9_fresh N S (za s0) (s1 + s2)).1) (f_X9_fresh N S (za s0) (s1 + s2)).2)
def O_X3_accuse_48 (N : Nat) (x0 : Option Nat) (x1 : Option Nat) (x3 : Option Nat) (x4 : Option Nat) (s0 : Option Nat) (s1 : Int32) (s2 : Int32) (S : cS) : Prop := (cis S s0 8 ∧ o_X9_fresh N S (za s0) (s1 + s2)) ∧ O_X3_accuse_52 N x0 x1 x3 x4 ((f_X9_fresh N S (za s0) (s1 + s2)).1) (f_X9_fresh N S (za s0) (s1 + s2)).2
set_option maxRecDepth 100000 in
set_option maxHeartbeats 4000000 in
theorem b_X3_accuse_48 {G : zG} {o : cO} {S : cS} {N : Nat} {Q : Option Value → cS → Prop} {X : cS → Prop} (hG : zOK G) (hR : ∀ S', X S' → Q none S') {x0 : Option Nat} {x1 : Option Nat} {x3 : Option Nat} {x4 : Option Nat} {s0 : Option Nat} {s1 : Int32} {s2 : Int32} (ok : O_X3_accuse_48 N x0 x1 x3 x4 s0 s1 s2 S) (hx : X (F_X3_accuse_48 N x0 x1 x3 x4 s0 s1 s2 S)) : cX G o dX3_accuse mX3_accuse 48 [some (va_rf x0), some (va_rf x1), none, some (va_rf x3), some (va_rf x4), none, none] [.int s2, .int s1, va_rf s0] S Q := by
  unfold O_X3_accuse_48 at ok
  unfold F_X3_accuse_48 at hx
  refine c_iadd dX3_accuse_48 ?_
  refine c_V1qE (ci := 7) (rr := (RX9, TX9, 13)) (y' := mX9_fresh) dX3_accuse_49 lX3_156 kX9_fresh ⟨by decide, by decide⟩ rfl rfl (by decide) ok.1.1 (Nat.le_of_ble_eq_true rfl) (cc_X9_fresh hG ok.1.2) ?_
  have ok := ok.2
  exact cX.cutz (b_X3_accuse_52 hG hR ok hx) ⟨rfl, rfl, rfl, rfl, trivial⟩
def F_X3_accuse_24 (N : Nat) (x0 : Option Nat) (x1 : Option Nat) (x3 : Option Nat) (s0 : Option Nat) (S : cS) : cS := (if (cI S 5 (za x3)) = 0 then (F_X3_accuse_48 N x0 x1 x3 s0 (cR S 6 (za (cR S 0 (za x0)))) (nI 1) (nI 39) S) else (F_X3_accuse_48 N x0 x1 x3 s0 (cR S 6 (za (cR S 0 (za x0)))) (nI 1) (nI 71) S))
def O_X3_accuse_24 (N : Nat) (x0 : Option Nat) (x1 : Option Nat) (x3 : Option Nat) (s0 : Option Nat) (S : cS) : Prop := (cis S x0 6) ∧ (cis S (cR S 0 (za x0)) 9) ∧ (cis S x3 5) ∧ (((cI S 5 (za x3)) = 0 → O_X3_accuse_48 N x0 x1 x3 s0 (cR S 6 (za (cR S 0 (za x0)))) (nI 1) (nI 39) S) ∧ (¬ (cI S 5 (za x3)) = 0 → O_X3_accuse_48 N x0 x1 x3 s0 (cR S 6 (za (cR S 0 (za x0)))) (nI 1) (nI 71) S))
set_option maxRecDepth 100000 in
set_option maxHeartbeats 4000000 in
theorem b_X3_accuse_24 {G : zG} {o : cO} {S : cS} {N : Nat} {Q : Option Value → cS → Prop} {X : cS → Prop} (hG : zOK G) (hR : ∀ S', X S' → Q none S') {x0 : Option Nat} {x1 : Option Nat} {x3 : Option Nat} {s0 : Option Nat} (ok : O_X3_accuse_24 N x0 x1 x3 s0 S) (hx : X (F_X3_accuse_24 N x0 x1 x3 s0 S)) : cX G o dX3_accuse mX3_accuse 24 [some (va_rf x0), some (va_rf x1), none, some (va_rf x3), none, none, none] [va_rf s0] S Q := by
  unfold O_X3_accuse_24 at ok
  unfold F_X3_accuse_24 at hx
  refine c_astore_4Q dX3_accuse_24 (by decide) (by simp [zok, zg, zcat_rf]) ?_
  refine c_aload_nQ dX3_accuse_26 rfl rfl ?_
  refine c_getR (C := RX6) (T := TX6) (N := 19) (ci := 5) (k := 0) ⟨rfl, inT6, by decide, fX3_33⟩ (by decide) (by decide) (by decide) dX3_accuse_27 ok.1 ?_
  have ok := ok.2
  refine c_getR (C := RX10) (T := TX10) (N := 12) (ci := 8) (k := 6) ⟨rfl, inT10, by decide, fX3_73⟩ (by decide) (by decide) (by decide) dX3_accuse_30 ok.1 ?_
  have ok := ok.2
  refine c_iconst (v := nI 1) dX3_accuse_33 (by decide) ?_
  refine c_aload_nQ dX3_accuse_34 rfl rfl ?_
  refine c_getI (C := RX5) (T := TX5) (N := 7) (ci := 4) (k := 5) ⟨rfl, inT5, by decide, fX3_152⟩ (by decide) (by decide) (by decide) dX3_accuse_35 ok.1 ?_
  have ok := ok.2
  refine c_if_eq (tgt := 46) dX3_accuse_38 (by decide) (fun c_38 => ?_) (fun c_38 => ?_)
  · have ok := ok.1 c_38
    have hx := xif_p c_38 hx
    refine c_bipush (v := nI 39) dX3_accuse_46 (by decide) ?_
    exact cX.cutz (b_X3_accuse_48 hG hR ok hx) ⟨rfl, rfl, rfl, rfl, trivial⟩
  · have ok := ok.2 c_38
    have hx := xif_n c_38 hx
    refine c_bipush (v := nI 71) dX3_accuse_41 (by decide) ?_
    refine c_goto (tgt := 48) dX3_accuse_43 (by decide) ?_
    exact cX.cutz (b_X3_accuse_48 hG hR ok hx) ⟨rfl, rfl, rfl, rfl, trivial⟩
def F_X3_accuse_13 (N : Nat) (x0 : Option Nat) (x1 : Option Nat) (x2 : Option Nat) (s0 : Option Nat) (S : cS) : cS := (if s0 = x1 then (F_X3_accuse_24 N x0 x1 s0 x2 S) else (F_X3_accuse_24 N x0 x1 s0 x1 S))
def O_X3_accuse_13 (N : Nat) (x0 : Option Nat) (x1 : Option Nat) (x2 : Option Nat) (s0 : Option Nat) (S : cS) : Prop := ((s0 = x1 → O_X3_accuse_24 N x0 x1 s0 x2 S) ∧ (¬ s0 = x1 → O_X3_accuse_24 N x0 x1 s0 x1 S))
set_option maxRecDepth 100000 in
set_option maxHeartbeats 4000000 in
theorem b_X3_accuse_13 {G : zG} {o : cO} {S : cS} {N : Nat} {Q : Option Value → cS → Prop} {X : cS → Prop} (hG : zOK G) (hR : ∀ S', X S' → Q none S') {x0 : Option Nat} {x1 : Option Nat} {x2 : Option Nat} {s0 : Option Nat} (ok : O_X3_accuse_13 N x0 x1 x2 s0 S) (hx : X (F_X3_accuse_13 N x0 x1 x2 s0 S)) : cX G o dX3_accuse mX3_accuse 13 [some (va_rf x0), some (va_rf x1), some (va_rf x2), none, none, none, none] [va_rf s0] S Q := by
  unfold O_X3_accuse_13 at ok
  unfold F_X3_accuse_13 at hx
  refine c_astore_3Q dX3_accuse_13 (by decide) (by simp [zok, zg, zcat_rf]) ?_
  refine c_aload_nQ dX3_accuse_14 rfl rfl ?_
  refine c_aload_nQ dX3_accuse_15 rfl rfl ?_
  refine c_acmp_ne (tgt := 23) dX3_accuse_16 (by decide) (fun c_16 => ?_) (fun c_16 => ?_)
  · have ok := ok.2 c_16
    have hx := xif_n c_16 hx
    refine c_aload_nQ dX3_accuse_23 rfl rfl ?_
    exact cX.cutz (b_X3_accuse_24 hG hR ok hx) ⟨rfl, rfl, rfl, trivial⟩
  · have ok := ok.1 c_16
    have hx := xif_p c_16 hx
    refine c_aload_nQ dX3_accuse_19 rfl rfl ?_
    refine c_goto (tgt := 24) dX3_accuse_20 (by decide) ?_
    exact cX.cutz (b_X3_accuse_24 hG hR ok hx) ⟨rfl, rfl, rfl, trivial⟩
def F_X3_accuse_0 (N : Nat) (x0 : Option Nat) (x1 : Option Nat) (x2 : Option Nat) (S : cS) : cS := (if (f_X5_endsBelow N S (za x1) x2) = 0 then (F_X3_accuse_13 N x0 x1 x2 x2 S) else (F_X3_accuse_13 N x0 x1 x2 x1 S))
def O_X3_accuse_0 (N : Nat) (x0 : Option Nat) (x1 : Option Nat) (x2 : Option Nat) (S : cS) : Prop := (cis S x1 5 ∧ o_X5_endsBelow N S (za x1) x2) ∧ (((f_X5_endsBelow N S (za x1) x2) = 0 → O_X3_accuse_13 N x0 x1 x2 x2 S) ∧ (¬ (f_X5_endsBelow N S (za x1) x2) = 0 → O_X3_accuse_13 N x0 x1 x2 x1 S))
set_option maxRecDepth 100000 in
set_option maxHeartbeats 4000000 in
theorem b_X3_accuse_0 {G : zG} {o : cO} {S : cS} {N : Nat} {Q : Option Value → cS → Prop} {X : cS → Prop} (hG : zOK G) (hR : ∀ S', X S' → Q none S') {x0 : Option Nat} {x1 : Option Nat} {x2 : Option Nat} (ok : O_X3_accuse_0 N x0 x1 x2 S) (hx : X (F_X3_accuse_0 N x0 x1 x2 S)) : cX G o dX3_accuse mX3_accuse 0 [some (va_rf x0), some (va_rf x1), some (va_rf x2), none, none, none, none] [] S Q := by
  unfold O_X3_accuse_0 at ok
  unfold F_X3_accuse_0 at hx
  refine c_aload_nQ dX3_accuse_0 rfl rfl ?_
  refine c_aload_nQ dX3_accuse_1 rfl rfl ?_
  refine c_V1iE (ci := 4) (rr := (RX5, TX5, 7)) (y' := mX5_endsBelow) dX3_accuse_2 lX3_149 kX5_endsBelow ⟨by decide, by decide⟩ rfl rfl (by decide) ok.1.1 (Nat.le_of_ble_eq_true rfl) (cc_X5_endsBelow hG ok.1.2) ?_
  have ok := ok.2
  refine c_if_eq (tgt := 12) dX3_accuse_5 (by decide) (fun c_5 => ?_) (fun c_5 => ?_)
  · have ok := ok.1 c_5
    have hx := xif_p c_5 hx
    refine c_aload_nQ dX3_accuse_12 rfl rfl ?_
    exact cX.cutz (b_X3_accuse_13 hG hR ok hx) ⟨rfl, rfl, rfl, trivial⟩
  · have ok := ok.2 c_5
    have hx := xif_n c_5 hx
    refine c_aload_nQ dX3_accuse_8 rfl rfl ?_
    refine c_goto (tgt := 13) dX3_accuse_9 (by decide) ?_
    exact cX.cutz (b_X3_accuse_13 hG hR ok hx) ⟨rfl, rfl, rfl, trivial⟩
def f_X3_accuse (N : Nat) (S : cS) (x0 : Option Nat) (x1 : Option Nat) (x2 : Option Nat) : cS := F_X3_accuse_0 N x0 x1 x2 S
def o_X3_accuse (N : Nat) (S : cS) (x0 : Option Nat) (x1 : Option Nat) (x2 : Option Nat) : Prop := O_X3_accuse_0 N x0 x1 x2 S
set_option maxRecDepth 100000 in
set_option maxHeartbeats 4000000 in
theorem cc_X3_accuse {G : zG} {o : cO} {S : cS} {N : Nat} (hG : zOK G) {x0 : Option Nat} {x1 : Option Nat} {x2 : Option Nat} (ok : o_X3_accuse N S x0 x1 x2) : cCv G o dX3_accuse mX3_accuse [va_rf x0, va_rf x1, va_rf x2] S (fun S' => S' = f_X3_accuse N S x0 x1 x2) := by
  refine cC.ofX rfl (by cases x0 <;> cases x1 <;> cases x2 <;> exact Nat.le_of_ble_eq_true rfl) ?_
  rw [show zargs mX3_accuse.2.2.1 [va_rf x0, va_rf x1, va_rf x2] = [some (va_rf x0), some (va_rf x1), some (va_rf x2), none, none, none, none] from by cases x0 <;> cases x1 <;> cases x2 <;> rfl]
  exact cX.cutz (b_X3_accuse_0 (X := fun F => F = f_X3_accuse N S x0 x1 x2) hG (fun S' h => ⟨rfl, h⟩) ok rfl) ⟨rfl, rfl, rfl, trivial⟩
/-! X3_takeSigned -/
def F_X3_takeSigned_102 (N : Nat)  (S : cS) : Int32 × cS := ((nI 0), S)
def O_X3_takeSigned_102 (N : Nat)  (S : cS) : Prop := True
set_option maxRecDepth 100000 in
set_option maxHeartbeats 4000000 in
theorem b_X3_takeSigned_102 {G : zG} {o : cO} {S : cS} {N : Nat} {Q : Option Value → cS → Prop} {X : Int32 × cS → Prop} (hG : zOK G) (hR : ∀ v S', X (v, S') → Q (some (.int v)) S') (ok : O_X3_takeSigned_102 N S) (hx : X (F_X3_takeSigned_102 N S)) : cX G o dX3_takeSigned mX3_takeSigned 102 [none, none, none, none] [] S Q := by
  unfold O_X3_takeSigned_102 at ok
  unfold F_X3_takeSigned_102 at hx
  refine c_iconst (v := nI 0) dX3_takeSigned_102 (by decide) ?_
  exact c_ireturn rfl rfl dX3_takeSigned_103 (hR _ _ hx)
def F_X3_takeSigned_72 (N : Nat)  (S : cS) : Int32 × cS := ((nI 1), S)
def O_X3_takeSigned_72 (N : Nat)  (S : cS) : Prop := True
set_option maxRecDepth 100000 in
set_option maxHeartbeats 4000000 in
theorem b_X3_takeSigned_72 {G : zG} {o : cO} {S : cS} {N : Nat} {Q : Option Value → cS → Prop} {X : Int32 × cS → Prop} (hG : zOK G) (hR : ∀ v S', X (v, S') → Q (some (.int v)) S') (ok : O_X3_takeSigned_72 N S) (hx : X (F_X3_takeSigned_72 N S)) : cX G o dX3_takeSigned mX3_takeSigned 72 [none, none, none, none] [] S Q := by
  unfold O_X3_takeSigned_72 at ok
  unfold F_X3_takeSigned_72 at hx
  refine c_iconst (v := nI 1) dX3_takeSigned_72 (by decide) ?_
  exact c_ireturn rfl rfl dX3_takeSigned_73 (hR _ _ hx)
def F_X3_takeSigned_55 (N : Nat) (x0 : Option Nat) (x1 : Int32) (x2 : Option Nat) (S : cS) : Int32 × cS := (F_X3_takeSigned_72 N (f_X10_spread N S (za (cR S 0 (za x0))) (cI S 1 (za x0)) x2 x1 (f_X5_signer N S (za x2))))
def O_X3_takeSigned_55 (N : Nat) (x0 : Option Nat) (x1 : Int32) (x2 : Option Nat) (S : cS) : Prop := (cis S x0 6) ∧ (cis S x0 6) ∧ (cis S x2 5 ∧ o_X5_signer N S (za x2)) ∧ (cis S (cR S 0 (za x0)) 9 ∧ o_X10_spread N S (za (cR S 0 (za x0))) (cI S 1 (za x0)) x2 x1 (f_X5_signer N S (za x2))) ∧ O_X3_takeSigned_72 N (f_X10_spread N S (za (cR S 0 (za x0))) (cI S 1 (za x0)) x2 x1 (f_X5_signer N S (za x2)))
set_option maxRecDepth 100000 in
set_option maxHeartbeats 4000000 in
theorem b_X3_takeSigned_55 {G : zG} {o : cO} {S : cS} {N : Nat} {Q : Option Value → cS → Prop} {X : Int32 × cS → Prop} (hG : zOK G) (hR : ∀ v S', X (v, S') → Q (some (.int v)) S') {x0 : Option Nat} {x1 : Int32} {x2 : Option Nat} (ok : O_X3_takeSigned_55 N x0 x1 x2 S) (hx : X (F_X3_takeSigned_55 N x0 x1 x2 S)) : cX G o dX3_takeSigned mX3_takeSigned 55 [some (va_rf x0), some (.int x1), some (va_rf x2), none] [] S Q := by
  unfold O_X3_takeSigned_55 at ok
  unfold F_X3_takeSigned_55 at hx
  refine c_aload_nQ dX3_takeSigned_55 rfl rfl ?_
  refine c_getR (C := RX6) (T := TX6) (N := 19) (ci := 5) (k := 0) ⟨rfl, inT6, by decide, fX3_33⟩ (by decide) (by decide) (by decide) dX3_takeSigned_56 ok.1 ?_
  have ok := ok.2
  refine c_aload_nQ dX3_takeSigned_59 rfl rfl ?_
  refine c_getI (C := RX6) (T := TX6) (N := 19) (ci := 5) (k := 1) ⟨rfl, inT6, by decide, fX3_37⟩ (by decide) (by decide) (by decide) dX3_takeSigned_60 ok.1 ?_
  have ok := ok.2
  refine c_aload_nQ dX3_takeSigned_63 rfl rfl ?_
  refine c_iload_n dX3_takeSigned_64 rfl rfl ?_
  refine c_aload_nQ dX3_takeSigned_65 rfl rfl ?_
  refine c_V0iE (ci := 4) (rr := (RX5, TX5, 7)) (y' := mX5_signer) dX3_takeSigned_66 lX3_41 kX5_signer ⟨by decide, by decide⟩ rfl rfl (by decide) ok.1.1 (by simp only [List.map_cons, List.map_nil, List.sum_cons, List.sum_nil, zcat_rf, zcat_i, zcat_l, zcat_r] <;> decide) (cc_X5_signer hG ok.1.2) ?_
  have ok := ok.2
  refine c_V4vE (ci := 8) (rr := (RX10, TX10, 12)) (y' := mX10_spread) dX3_takeSigned_69 lX3_44 kX10_spread ⟨by decide, by decide⟩ rfl rfl (by decide) ok.1.1 (Nat.le_of_ble_eq_true rfl) (cc_X10_spread hG ok.1.2) ?_
  have ok := ok.2
  exact cX.cutz (b_X3_takeSigned_72 hG hR ok hx) trivial
def F_X3_takeSigned_34 (N : Nat) (x0 : Option Nat) (x1 : Int32) (x2 : Option Nat) (S : cS) : Int32 × cS := (if (f_X8_like N S (za (cR S 3 (za x0))) x2) = none then (F_X3_takeSigned_55 N x0 x1 x2 (f_X8_hold N S (za (cR S 3 (za x0))) x2)) else (if (f_X5_endsLike N S (za (f_X8_like N S (za (cR S 3 (za x0))) x2)) x2) = 0 then (if (f_X8_proofOf N S (za (cR S 3 (za x0))) (f_X5_signer N S (za x2))) = none then (F_X3_takeSigned_102 N (f_X3_accuse N S x0 (f_X8_like N S (za (cR S 3 (za x0))) x2) x2)) else (F_X3_takeSigned_102 N S)) else (F_X3_takeSigned_102 N S)))
def O_X3_takeSigned_34 (N : Nat) (x0 : Option Nat) (x1 : Int32) (x2 : Option Nat) (S : cS) : Prop := (cis S x0 6) ∧ (cis S (cR S 3 (za x0)) 7 ∧ o_X8_like N S (za (cR S 3 (za x0))) x2) ∧ (((f_X8_like N S (za (cR S 3 (za x0))) x2) = none → (cis S x0 6) ∧ (cis S (cR S 3 (za x0)) 7 ∧ o_X8_hold N S (za (cR S 3 (za x0))) x2) ∧ O_X3_takeSigned_55 N x0 x1 x2 (f_X8_hold N S (za (cR S 3 (za x0))) x2)) ∧ (¬ (f_X8_like N S (za (cR S 3 (za x0))) x2) = none → (cis S (f_X8_like N S (za (cR S 3 (za x0))) x2) 5 ∧ o_X5_endsLike N S (za (f_X8_like N S (za (cR S 3 (za x0))) x2)) x2) ∧ (((f_X5_endsLike N S (za (f_X8_like N S (za (cR S 3 (za x0))) x2)) x2) = 0 → (cis S x0 6) ∧ (cis S x2 5 ∧ o_X5_signer N S (za x2)) ∧ (cis S (cR S 3 (za x0)) 7 ∧ o_X8_proofOf N S (za (cR S 3 (za x0))) (f_X5_signer N S (za x2))) ∧ (((f_X8_proofOf N S (za (cR S 3 (za x0))) (f_X5_signer N S (za x2))) = none → (o_X3_accuse N S x0 (f_X8_like N S (za (cR S 3 (za x0))) x2) x2) ∧ O_X3_takeSigned_102 N (f_X3_accuse N S x0 (f_X8_like N S (za (cR S 3 (za x0))) x2) x2)) ∧ (¬ (f_X8_proofOf N S (za (cR S 3 (za x0))) (f_X5_signer N S (za x2))) = none → O_X3_takeSigned_102 N S))) ∧ (¬ (f_X5_endsLike N S (za (f_X8_like N S (za (cR S 3 (za x0))) x2)) x2) = 0 → O_X3_takeSigned_102 N S))))
set_option maxRecDepth 100000 in
set_option maxHeartbeats 4000000 in
theorem b_X3_takeSigned_34 {G : zG} {o : cO} {S : cS} {N : Nat} {Q : Option Value → cS → Prop} {X : Int32 × cS → Prop} (hG : zOK G) (hR : ∀ v S', X (v, S') → Q (some (.int v)) S') {x0 : Option Nat} {x1 : Int32} {x2 : Option Nat} (ok : O_X3_takeSigned_34 N x0 x1 x2 S) (hx : X (F_X3_takeSigned_34 N x0 x1 x2 S)) : cX G o dX3_takeSigned mX3_takeSigned 34 [some (va_rf x0), some (.int x1), some (va_rf x2), none] [] S Q := by
  unfold O_X3_takeSigned_34 at ok
  unfold F_X3_takeSigned_34 at hx
  refine c_aload_nQ dX3_takeSigned_34 rfl rfl ?_
  refine c_getR (C := RX6) (T := TX6) (N := 19) (ci := 5) (k := 3) ⟨rfl, inT6, by decide, fX3_21⟩ (by decide) (by decide) (by decide) dX3_takeSigned_35 ok.1 ?_
  have ok := ok.2
  refine c_aload_nQ dX3_takeSigned_38 rfl rfl ?_
  refine c_V1qE (ci := 6) (rr := (RX8, TX8, 14)) (y' := mX8_like) dX3_takeSigned_39 lX3_132 kX8_like ⟨by decide, by decide⟩ rfl rfl (by decide) ok.1.1 (Nat.le_of_ble_eq_true rfl) (cc_X8_like hG ok.1.2) ?_
  have ok := ok.2
  refine c_astore_3Q dX3_takeSigned_42 (by decide) (by simp [zok, zg, zcat_rf]) ?_
  refine c_aload_nQ dX3_takeSigned_43 rfl rfl ?_
  refine c_ifnonnullI (tgt := 74) dX3_takeSigned_44 (by decide) (fun c_44 => ?_) (fun c_44 => ?_)
  · have ok := ok.2 c_44
    have hx := xif_n c_44 hx
    refine c_aload_nQ dX3_takeSigned_74 rfl rfl ?_
    refine c_aload_nQ dX3_takeSigned_75 rfl rfl ?_
    refine c_V1iE (ci := 4) (rr := (RX5, TX5, 7)) (y' := mX5_endsLike) dX3_takeSigned_76 lX3_139 kX5_endsLike ⟨by decide, by decide⟩ rfl rfl (by decide) ok.1.1 (Nat.le_of_ble_eq_true rfl) (cc_X5_endsLike hG ok.1.2) ?_
    have ok := ok.2
    refine c_if_ne (tgt := 102) dX3_takeSigned_79 (by decide) (fun c_79 => ?_) (fun c_79 => ?_)
    · have ok := ok.2 c_79
      have hx := xif_n c_79 hx
      exact cX.cutz (b_X3_takeSigned_102 hG hR ok hx) trivial
    · have ok := ok.1 c_79
      have hx := xif_p c_79 hx
      refine c_aload_nQ dX3_takeSigned_82 rfl rfl ?_
      refine c_getR (C := RX6) (T := TX6) (N := 19) (ci := 5) (k := 3) ⟨rfl, inT6, by decide, fX3_21⟩ (by decide) (by decide) (by decide) dX3_takeSigned_83 ok.1 ?_
      have ok := ok.2
      refine c_aload_nQ dX3_takeSigned_86 rfl rfl ?_
      refine c_V0iE (ci := 4) (rr := (RX5, TX5, 7)) (y' := mX5_signer) dX3_takeSigned_87 lX3_41 kX5_signer ⟨by decide, by decide⟩ rfl rfl (by decide) ok.1.1 (by simp only [List.map_cons, List.map_nil, List.sum_cons, List.sum_nil, zcat_rf, zcat_i, zcat_l, zcat_r] <;> decide) (cc_X5_signer hG ok.1.2) ?_
      have ok := ok.2
      refine c_V1qE (ci := 6) (rr := (RX8, TX8, 14)) (y' := mX8_proofOf) dX3_takeSigned_90 lX3_142 kX8_proofOf ⟨by decide, by decide⟩ rfl rfl (by decide) ok.1.1 (Nat.le_of_ble_eq_true rfl) (cc_X8_proofOf hG ok.1.2) ?_
      have ok := ok.2
      refine c_ifnonnullI (tgt := 102) dX3_takeSigned_93 (by decide) (fun c_93 => ?_) (fun c_93 => ?_)
      · have ok := ok.2 c_93
        have hx := xif_n c_93 hx
        exact cX.cutz (b_X3_takeSigned_102 hG hR ok hx) trivial
      · have ok := ok.1 c_93
        have hx := xif_p c_93 hx
        refine c_aload_nQ dX3_takeSigned_96 rfl rfl ?_
        refine c_aload_nQ dX3_takeSigned_97 rfl rfl ?_
        refine c_aload_nQ dX3_takeSigned_98 rfl rfl ?_
        refine c_S3vE (y' := mX3_accuse) dX3_takeSigned_99 lX3_145 kX3_accuse ⟨by decide, by decide⟩ (Nat.le_of_ble_eq_true rfl) (cc_X3_accuse hG ok.1) ?_
        have ok := ok.2
        exact cX.cutz (b_X3_takeSigned_102 hG hR ok hx) trivial
  · have ok := ok.1 c_44
    have hx := xif_p c_44 hx
    refine c_aload_nQ dX3_takeSigned_47 rfl rfl ?_
    refine c_getR (C := RX6) (T := TX6) (N := 19) (ci := 5) (k := 3) ⟨rfl, inT6, by decide, fX3_21⟩ (by decide) (by decide) (by decide) dX3_takeSigned_48 ok.1 ?_
    have ok := ok.2
    refine c_aload_nQ dX3_takeSigned_51 rfl rfl ?_
    refine c_V1vE (ci := 6) (rr := (RX8, TX8, 14)) (y' := mX8_hold) dX3_takeSigned_52 lX3_136 kX8_hold ⟨by decide, by decide⟩ rfl rfl (by decide) ok.1.1 (Nat.le_of_ble_eq_true rfl) (cc_X8_hold hG ok.1.2) ?_
    have ok := ok.2
    exact cX.cutz (b_X3_takeSigned_55 hG hR ok hx) ⟨rfl, rfl, rfl, trivial⟩
def F_X3_takeSigned_0 (N : Nat) (x0 : Option Nat) (x1 : Int32) (x2 : Option Nat) (S : cS) : Int32 × cS := (if (f_X5_kind N S (za x2)) = (nI 1) then (if (f_X10_proposer N S (za (cR S 0 (za x0))) (f_X5_two N S (za x2) (nI 2)) (f_X5_at N S (za x2) (nI 4))) = (f_X5_signer N S (za x2)) then (F_X3_takeSigned_34 N x0 x1 x2 S) else ((nI 0), S)) else (F_X3_takeSigned_34 N x0 x1 x2 S))
def O_X3_takeSigned_0 (N : Nat) (x0 : Option Nat) (x1 : Int32) (x2 : Option Nat) (S : cS) : Prop := (cis S x2 5 ∧ o_X5_kind N S (za x2)) ∧ (((f_X5_kind N S (za x2)) = (nI 1) → (cis S x0 6) ∧ (cis S x2 5 ∧ o_X5_two N S (za x2) (nI 2)) ∧ (cis S x2 5 ∧ o_X5_at N S (za x2) (nI 4)) ∧ (cis S (cR S 0 (za x0)) 9 ∧ o_X10_proposer N S (za (cR S 0 (za x0))) (f_X5_two N S (za x2) (nI 2)) (f_X5_at N S (za x2) (nI 4))) ∧ (cis S x2 5 ∧ o_X5_signer N S (za x2)) ∧ (((f_X10_proposer N S (za (cR S 0 (za x0))) (f_X5_two N S (za x2) (nI 2)) (f_X5_at N S (za x2) (nI 4))) = (f_X5_signer N S (za x2)) → O_X3_takeSigned_34 N x0 x1 x2 S) ∧ (¬ (f_X10_proposer N S (za (cR S 0 (za x0))) (f_X5_two N S (za x2) (nI 2)) (f_X5_at N S (za x2) (nI 4))) = (f_X5_signer N S (za x2)) → True))) ∧ (¬ (f_X5_kind N S (za x2)) = (nI 1) → O_X3_takeSigned_34 N x0 x1 x2 S))
set_option maxRecDepth 100000 in
set_option maxHeartbeats 4000000 in
theorem b_X3_takeSigned_0 {G : zG} {o : cO} {S : cS} {N : Nat} {Q : Option Value → cS → Prop} {X : Int32 × cS → Prop} (hG : zOK G) (hR : ∀ v S', X (v, S') → Q (some (.int v)) S') {x0 : Option Nat} {x1 : Int32} {x2 : Option Nat} (ok : O_X3_takeSigned_0 N x0 x1 x2 S) (hx : X (F_X3_takeSigned_0 N x0 x1 x2 S)) : cX G o dX3_takeSigned mX3_takeSigned 0 [some (va_rf x0), some (.int x1), some (va_rf x2), none] [] S Q := by
  unfold O_X3_takeSigned_0 at ok
  unfold F_X3_takeSigned_0 at hx
  refine c_aload_nQ dX3_takeSigned_0 rfl rfl ?_
  refine c_V0iE (ci := 4) (rr := (RX5, TX5, 7)) (y' := mX5_kind) dX3_takeSigned_1 lX3_9 kX5_kind ⟨by decide, by decide⟩ rfl rfl (by decide) ok.1.1 (Nat.le_of_ble_eq_true rfl) (cc_X5_kind hG ok.1.2) ?_
  have ok := ok.2
  refine c_iconst (v := nI 1) dX3_takeSigned_4 (by decide) ?_
  refine c_icmp_ne (tgt := 34) dX3_takeSigned_5 (by decide) (fun c_5 => ?_) (fun c_5 => ?_)
  · have ok := ok.2 c_5
    have hx := xif_n c_5 hx
    exact cX.cutz (b_X3_takeSigned_34 hG hR ok hx) ⟨rfl, rfl, rfl, trivial⟩
  · have ok := ok.1 c_5
    have hx := xif_p c_5 hx
    refine c_aload_nQ dX3_takeSigned_8 rfl rfl ?_
    refine c_getR (C := RX6) (T := TX6) (N := 19) (ci := 5) (k := 0) ⟨rfl, inT6, by decide, fX3_33⟩ (by decide) (by decide) (by decide) dX3_takeSigned_9 ok.1 ?_
    have ok := ok.2
    refine c_aload_nQ dX3_takeSigned_12 rfl rfl ?_
    refine c_iconst (v := nI 2) dX3_takeSigned_13 (by decide) ?_
    refine c_V1iE (ci := 4) (rr := (RX5, TX5, 7)) (y' := mX5_two) dX3_takeSigned_14 lX3_50 kX5_two ⟨by decide, by decide⟩ rfl rfl (by decide) ok.1.1 (by simp only [List.map_cons, List.map_nil, List.sum_cons, List.sum_nil, zcat_rf, zcat_i, zcat_l, zcat_r] <;> decide) (cc_X5_two hG ok.1.2) ?_
    have ok := ok.2
    refine c_aload_nQ dX3_takeSigned_17 rfl rfl ?_
    refine c_iconst (v := nI 4) dX3_takeSigned_18 (by decide) ?_
    refine c_V1iE (ci := 4) (rr := (RX5, TX5, 7)) (y' := mX5_at) dX3_takeSigned_19 lX3_125 kX5_at ⟨by decide, by decide⟩ rfl rfl (by decide) ok.1.1 (by simp only [List.map_cons, List.map_nil, List.sum_cons, List.sum_nil, zcat_rf, zcat_i, zcat_l, zcat_r] <;> decide) (cc_X5_at hG ok.1.2) ?_
    have ok := ok.2
    refine c_V2iE (ci := 8) (rr := (RX10, TX10, 12)) (y' := mX10_proposer) dX3_takeSigned_22 lX3_128 kX10_proposer ⟨by decide, by decide⟩ rfl rfl (by decide) ok.1.1 (Nat.le_of_ble_eq_true rfl) (cc_X10_proposer hG ok.1.2) ?_
    have ok := ok.2
    refine c_aload_nQ dX3_takeSigned_25 rfl rfl ?_
    refine c_V0iE (ci := 4) (rr := (RX5, TX5, 7)) (y' := mX5_signer) dX3_takeSigned_26 lX3_41 kX5_signer ⟨by decide, by decide⟩ rfl rfl (by decide) ok.1.1 (Nat.le_of_ble_eq_true rfl) (cc_X5_signer hG ok.1.2) ?_
    have ok := ok.2
    refine c_icmp_eq (tgt := 34) dX3_takeSigned_29 (by decide) (fun c_29 => ?_) (fun c_29 => ?_)
    · have ok := ok.1 c_29
      have hx := xif_p c_29 hx
      exact cX.cutz (b_X3_takeSigned_34 hG hR ok hx) ⟨rfl, rfl, rfl, trivial⟩
    · have ok := ok.2 c_29
      have hx := xif_n c_29 hx
      refine c_iconst (v := nI 0) dX3_takeSigned_32 (by decide) ?_
      exact c_ireturn rfl rfl dX3_takeSigned_33 (hR _ _ hx)
def f_X3_takeSigned (N : Nat) (S : cS) (x0 : Option Nat) (x1 : Int32) (x2 : Option Nat) : Int32 × cS := F_X3_takeSigned_0 N x0 x1 x2 S
def o_X3_takeSigned (N : Nat) (S : cS) (x0 : Option Nat) (x1 : Int32) (x2 : Option Nat) : Prop := O_X3_takeSigned_0 N x0 x1 x2 S
set_option maxRecDepth 100000 in
set_option maxHeartbeats 4000000 in
theorem cc_X3_takeSigned {G : zG} {o : cO} {S : cS} {N : Nat} (hG : zOK G) {x0 : Option Nat} {x1 : Int32} {x2 : Option Nat} (ok : o_X3_takeSigned N S x0 x1 x2) : cCi G o dX3_takeSigned mX3_takeSigned [va_rf x0, .int x1, va_rf x2] S (fun v S' => v = (f_X3_takeSigned N S x0 x1 x2).1 ∧ S' = (f_X3_takeSigned N S x0 x1 x2).2) := by
  refine cC.ofX rfl (by cases x0 <;> cases x2 <;> exact Nat.le_of_ble_eq_true rfl) ?_
  rw [show zargs mX3_takeSigned.2.2.1 [va_rf x0, .int x1, va_rf x2] = [some (va_rf x0), some (.int x1), some (va_rf x2), none] from by cases x0 <;> cases x2 <;> rfl]
  exact cX.cutz (b_X3_takeSigned_0 (X := fun F => F = f_X3_takeSigned N S x0 x1 x2) hG (fun v S' h => ⟨v, rfl, by rw [← h], by rw [← h]⟩) ok rfl) ⟨rfl, rfl, rfl, trivial⟩

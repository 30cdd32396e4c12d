/-! X5_endsBelow -/
def KF_X5_endsBelow_79 (N g H T : Nat) (s0 : Int32) (S : cS) : Int32 := s0
def KO_X5_endsBelow_79 (N g H T : Nat) (s0 : Int32) (S : cS) : Prop := narrow .boolean (.int s0) = .int s0
set_option maxRecDepth 100000 in
set_option maxHeartbeats 4000000 in
theorem kb_X5_endsBelow_79 {G : zG} {o : cO} {u g H T N : Nat} {S : cS} {Q : Option Value → cS → Prop} {X : Int32 → Prop} (hG : zOK G) (hR : ∀ v, X v → Q (some (.int v)) S) {s0 : Int32} (hS : St u g H T S) (ok : KO_X5_endsBelow_79 N g H T s0 S) (hx : X (KF_X5_endsBelow_79 N g H T s0 S)) : cX G o dX5_endsBelow mX5_endsBelow 79 [none, none, none] [.int s0] S Q := by
  unfold KO_X5_endsBelow_79 at ok
  unfold KF_X5_endsBelow_79 at hx
  exact c_ireturn rfl ok dX5_endsBelow_79 (hR _ hx)
def KF_X5_endsBelow_67 (N g H T : Nat) (x0 : Option Nat) (S : cS) : Int32 := (if (cI S 5 (za x0)) = 0 then (KF_X5_endsBelow_79 N g H T (nI 1) S) else (KF_X5_endsBelow_79 N g H T (nI 0) S))
def KO_X5_endsBelow_67 (N g H T : Nat) (x0 : Option Nat) (S : cS) : Prop := (¬ x0 = none) ∧ (((cI S 5 (za x0)) = 0 → KO_X5_endsBelow_79 N g H T (nI 1) S) ∧ (¬ (cI S 5 (za x0)) = 0 → KO_X5_endsBelow_79 N g H T (nI 0) S))
set_option maxRecDepth 100000 in
set_option maxHeartbeats 4000000 in
theorem kb_X5_endsBelow_67 {G : zG} {o : cO} {u g H T N : Nat} {S : cS} {Q : Option Value → cS → Prop} {X : Int32 → Prop} (hG : zOK G) (hR : ∀ v, X v → Q (some (.int v)) S) {x0 : Option Nat} (hS : St u g H T S) (t_x0 : tK S 5 x0) (ok : KO_X5_endsBelow_67 N g H T x0 S) (hx : X (KF_X5_endsBelow_67 N g H T x0 S)) : cX G o dX5_endsBelow mX5_endsBelow 67 [some (va_rf x0), none, none] [] S Q := by
  unfold KO_X5_endsBelow_67 at ok
  unfold KF_X5_endsBelow_67 at hx
  refine c_aload_nQ dX5_endsBelow_67 rfl rfl ?_
  have nn_68 := ok.1
  refine c_getI (C := RX5) (T := TX5) (N := 7) (ci := 4) (k := 5) ⟨rfl, inT5, by decide, fX5_27⟩ (by decide) (by decide) (by decide) dX5_endsBelow_68 (tK.cis t_x0 ok.1) ?_
  have ok := ok.2
  refine c_if_ne (tgt := 78) dX5_endsBelow_71 (by decide) (fun c_71 => ?_) (fun c_71 => ?_)
  · have ok := ok.2 c_71
    have hx := xif_n c_71 hx
    refine c_iconst (v := nI 0) dX5_endsBelow_78 (by decide) ?_
    exact cX.cutz (kb_X5_endsBelow_79 hG hR hS  ok hx) trivial
  · have ok := ok.1 c_71
    have hx := xif_p c_71 hx
    refine c_iconst (v := nI 1) dX5_endsBelow_74 (by decide) ?_
    refine c_goto (tgt := 79) dX5_endsBelow_75 (by decide) ?_
    exact cX.cutz (kb_X5_endsBelow_79 hG hR hS  ok hx) trivial
def KF_X5_endsBelow_60 (N g H T : Nat) (s0 : Int32) (S : cS) : Int32 := s0
def KO_X5_endsBelow_60 (N g H T : Nat) (s0 : Int32) (S : cS) : Prop := narrow .boolean (.int s0) = .int s0
set_option maxRecDepth 100000 in
set_option maxHeartbeats 4000000 in
theorem kb_X5_endsBelow_60 {G : zG} {o : cO} {u g H T N : Nat} {S : cS} {Q : Option Value → cS → Prop} {X : Int32 → Prop} (hG : zOK G) (hR : ∀ v, X v → Q (some (.int v)) S) {s0 : Int32} (hS : St u g H T S) (ok : KO_X5_endsBelow_60 N g H T s0 S) (hx : X (KF_X5_endsBelow_60 N g H T s0 S)) : cX G o dX5_endsBelow mX5_endsBelow 60 [none, none, none] [.int s0] S Q := by
  unfold KO_X5_endsBelow_60 at ok
  unfold KF_X5_endsBelow_60 at hx
  exact c_ireturn rfl ok dX5_endsBelow_60 (hR _ hx)
def KF_X5_endsBelow_37 (N g H T : Nat) (x0 : Option Nat) (x1 : Option Nat) (x2 : Int32) (S : cS) : Int32 := (if 0 ≤ (k_J13_compareUnsigned_74951 N g H T S (cJ S ((za x0) + 1) x2.toNatClampNeg) (cJ S ((za x1) + 1) x2.toNatClampNeg)) then (KF_X5_endsBelow_60 N g H T (nI 0) S) else (KF_X5_endsBelow_60 N g H T (nI 1) S))
def KO_X5_endsBelow_37 (N g H T : Nat) (x0 : Option Nat) (x1 : Option Nat) (x2 : Int32) (S : cS) : Prop := (¬ x0 = none) ∧ (vp_in x2 4) ∧ (¬ x1 = none) ∧ (vp_in x2 4) ∧ (p_J13_compareUnsigned_74951 N g H T S (cJ S ((za x0) + 1) x2.toNatClampNeg) (cJ S ((za x1) + 1) x2.toNatClampNeg)) ∧ ((0 ≤ (k_J13_compareUnsigned_74951 N g H T S (cJ S ((za x0) + 1) x2.toNatClampNeg) (cJ S ((za x1) + 1) x2.toNatClampNeg)) → KO_X5_endsBelow_60 N g H T (nI 0) S) ∧ (¬ 0 ≤ (k_J13_compareUnsigned_74951 N g H T S (cJ S ((za x0) + 1) x2.toNatClampNeg) (cJ S ((za x1) + 1) x2.toNatClampNeg)) → KO_X5_endsBelow_60 N g H T (nI 1) S))
set_option maxRecDepth 100000 in
set_option maxHeartbeats 4000000 in
theorem kb_X5_endsBelow_37 {G : zG} {o : cO} {u g H T N : Nat} {S : cS} {Q : Option Value → cS → Prop} {X : Int32 → Prop} (hG : zOK G) (hR : ∀ v, X v → Q (some (.int v)) S) {x0 : Option Nat} {x1 : Option Nat} {x2 : Int32} (hS : St u g H T S) (t_x0 : tK S 5 x0) (t_x1 : tK S 5 x1) (ok : KO_X5_endsBelow_37 N g H T x0 x1 x2 S) (hx : X (KF_X5_endsBelow_37 N g H T x0 x1 x2 S)) : cX G o dX5_endsBelow mX5_endsBelow 37 [some (va_rf x0), some (va_rf x1), some (.int x2)] [] S Q := by
  unfold KO_X5_endsBelow_37 at ok
  unfold KF_X5_endsBelow_37 at hx
  refine c_aload_nQ dX5_endsBelow_37 rfl rfl ?_
  have nn_38 := ok.1
  have p_38 := hS.m1k t_x0 ok.1
  have q_38 := hS.m1l t_x0 ok.1
  refine c_getS (C := RX5) (T := TX5) (N := 7) (ci := 4) (k := 1) ⟨rfl, inT5, by decide, fX5_9⟩ (by decide) (by decide) (by decide) dX5_endsBelow_38 (tK.cis t_x0 ok.1) (hS.m1 t_x0 ok.1) ?_
  have ok := ok.2
  refine c_iload_n dX5_endsBelow_41 rfl rfl ?_
  refine c_lald dX5_endsBelow_42 ⟨(tK.cis p_38 (Option.some_ne_none _)), (vk_cast q_38 ok.1)⟩ ?_
  have ok := ok.2
  refine c_aload_nQ dX5_endsBelow_43 rfl rfl ?_
  have nn_44 := ok.1
  have p_44 := hS.m1k t_x1 ok.1
  have q_44 := hS.m1l t_x1 ok.1
  refine c_getS (C := RX5) (T := TX5) (N := 7) (ci := 4) (k := 1) ⟨rfl, inT5, by decide, fX5_9⟩ (by decide) (by decide) (by decide) dX5_endsBelow_44 (tK.cis t_x1 ok.1) (hS.m1 t_x1 ok.1) ?_
  have ok := ok.2
  refine c_iload_n dX5_endsBelow_47 rfl rfl ?_
  refine c_lald dX5_endsBelow_48 ⟨(tK.cis p_44 (Option.some_ne_none _)), (vk_cast q_44 ok.1)⟩ ?_
  have ok := ok.2
  refine c_S2iE (y' := mJ13_compareUnsigned_74951) dX5_endsBelow_49 lX5_39 kJ13_compareUnsigned_74951 ⟨by decide, by decide⟩ (Nat.le_of_ble_eq_true rfl) (kc_J13_compareUnsigned_74951 hG hS ok.1) ?_
  have ok := ok.2
  refine c_if_ge (tgt := 59) dX5_endsBelow_52 (by decide) (fun c_52 => ?_) (fun c_52 => ?_)
  · have ok := ok.1 c_52
    have hx := xif_p c_52 hx
    refine c_iconst (v := nI 0) dX5_endsBelow_59 (by decide) ?_
    exact cX.cutz (kb_X5_endsBelow_60 hG hR hS  ok hx) trivial
  · have ok := ok.2 c_52
    have hx := xif_n c_52 hx
    refine c_iconst (v := nI 1) dX5_endsBelow_55 (by decide) ?_
    refine c_goto (tgt := 60) dX5_endsBelow_56 (by decide) ?_
    exact cX.cutz (kb_X5_endsBelow_60 hG hR hS  ok hx) trivial
def KB_X5_endsBelow_2 (N g H T : Nat) (rec : Option Nat → Option Nat → Int32 → Nat × Option Nat × Option Nat × Int32 × Unit) (x0 : Option Nat) (x1 : Option Nat) (x2 : Int32) (S : cS) : Nat × Option Nat × Option Nat × Int32 × Unit := (if (nI 4) ≤ x2 then (1, x0, none, 0, ()) else (if (cI S 5 (za x0)) = 0 then (1, x0, none, 0, ()) else (if (cI S 5 (za x1)) = 0 then (1, x0, none, 0, ()) else (if (lg_cmp (cJ S ((za x0) + 1) x2.toNatClampNeg) (cJ S ((za x1) + 1) x2.toNatClampNeg)) = 0 then (rec x0 x1 (x2 + nI 1)) else (0, x0, x1, x2, ())))))
def KOB_X5_endsBelow_2 (N g H T : Nat) (rok : Option Nat → Option Nat → Int32 → Prop) (x0 : Option Nat) (x1 : Option Nat) (x2 : Int32) (S : cS) : Prop := (((nI 4) ≤ x2 → True) ∧ (¬ (nI 4) ≤ x2 → (¬ x0 = none) ∧ (((cI S 5 (za x0)) = 0 → True) ∧ (¬ (cI S 5 (za x0)) = 0 → (¬ x1 = none) ∧ (((cI S 5 (za x1)) = 0 → True) ∧ (¬ (cI S 5 (za x1)) = 0 → (vp_in x2 4) ∧ (vp_in x2 4) ∧ (((lg_cmp (cJ S ((za x0) + 1) x2.toNatClampNeg) (cJ S ((za x1) + 1) x2.toNatClampNeg)) = 0 → rok x0 x1 (x2 + nI 1)) ∧ (¬ (lg_cmp (cJ S ((za x0) + 1) x2.toNatClampNeg) (cJ S ((za x1) + 1) x2.toNatClampNeg)) = 0 → True))))))))
set_option maxRecDepth 100000 in
set_option maxHeartbeats 4000000 in
theorem kbb_X5_endsBelow_2 {G : zG} {o : cO} {u g H T N : Nat} {S : cS} {Q : Option Value → cS → Prop} {X : Nat × Option Nat × Option Nat × Int32 × Unit → Prop} (hG : zOK G) (hX0 : ∀ (x0 : Option Nat) (x1 : Option Nat) (x2 : Int32) , tK S 5 x0 → tK S 5 x1 → X (0, x0, x1, x2, ()) → cX G o dX5_endsBelow mX5_endsBelow 37 [some (va_rf x0), some (va_rf x1), some (.int x2)] [] S Q) (hX1 : ∀ (x0 : Option Nat) (x1 : Option Nat) (x2 : Int32) , tK S 5 x0 → X (1, x0, x1, x2, ()) → cX G o dX5_endsBelow mX5_endsBelow 67 [some (va_rf x0), none, none] [] S Q) {rec : Option Nat → Option Nat → Int32 → Nat × Option Nat × Option Nat × Int32 × Unit} {rok : Option Nat → Option Nat → Int32 → Prop} (hrec : ∀ (x0 : Option Nat) (x1 : Option Nat) (x2 : Int32), tK S 5 x0 → tK S 5 x1 → rok x0 x1 x2 → X (rec x0 x1 x2) → cX G o dX5_endsBelow mX5_endsBelow 2 [some (va_rf x0), some (va_rf x1), some (.int x2)] [] S Q) {x0 : Option Nat} {x1 : Option Nat} {x2 : Int32} (hS : St u g H T S) (t_x0 : tK S 5 x0) (t_x1 : tK S 5 x1) (ok : KOB_X5_endsBelow_2 N g H T rok x0 x1 x2 S) (hx : X (KB_X5_endsBelow_2 N g H T rec x0 x1 x2 S)) : cX G o dX5_endsBelow mX5_endsBelow 2 [some (va_rf x0), some (va_rf x1), some (.int x2)] [] S Q := by
  unfold KOB_X5_endsBelow_2 at ok
  unfold KB_X5_endsBelow_2 at hx
  refine c_iload_n dX5_endsBelow_2 rfl rfl ?_
  refine c_iconst (v := nI 4) dX5_endsBelow_3 (by decide) ?_
  refine c_icmp_ge (tgt := 67) dX5_endsBelow_4 (by decide) (fun c_4 => ?_) (fun c_4 => ?_)
  · have ok := ok.1 c_4
    have hx := xif_p c_4 hx
    exact cX.cutz (hX1 _ _ _  t_x0 hx) ⟨rfl, trivial⟩
  · have ok := ok.2 c_4
    have hx := xif_n c_4 hx
    refine c_aload_nQ dX5_endsBelow_7 rfl rfl ?_
    have nn_8 := ok.1
    refine c_getI (C := RX5) (T := TX5) (N := 7) (ci := 4) (k := 5) ⟨rfl, inT5, by decide, fX5_27⟩ (by decide) (by decide) (by decide) dX5_endsBelow_8 (tK.cis t_x0 ok.1) ?_
    have ok := ok.2
    refine c_if_eq (tgt := 67) dX5_endsBelow_11 (by decide) (fun c_11 => ?_) (fun c_11 => ?_)
    · have ok := ok.1 c_11
      have hx := xif_p c_11 hx
      exact cX.cutz (hX1 _ _ _  t_x0 hx) ⟨rfl, trivial⟩
    · have ok := ok.2 c_11
      have hx := xif_n c_11 hx
      refine c_aload_nQ dX5_endsBelow_14 rfl rfl ?_
      have nn_15 := ok.1
      refine c_getI (C := RX5) (T := TX5) (N := 7) (ci := 4) (k := 5) ⟨rfl, inT5, by decide, fX5_27⟩ (by decide) (by decide) (by decide) dX5_endsBelow_15 (tK.cis t_x1 ok.1) ?_
      have ok := ok.2
      refine c_if_eq (tgt := 67) dX5_endsBelow_18 (by decide) (fun c_18 => ?_) (fun c_18 => ?_)
      · have ok := ok.1 c_18
        have hx := xif_p c_18 hx
        exact cX.cutz (hX1 _ _ _  t_x0 hx) ⟨rfl, trivial⟩
      · have ok := ok.2 c_18
        have hx := xif_n c_18 hx
        refine c_aload_nQ dX5_endsBelow_21 rfl rfl ?_
        have p_22 := hS.m1k t_x0 nn_8
        have q_22 := hS.m1l t_x0 nn_8
        refine c_getS (C := RX5) (T := TX5) (N := 7) (ci := 4) (k := 1) ⟨rfl, inT5, by decide, fX5_9⟩ (by decide) (by decide) (by decide) dX5_endsBelow_22 (tK.cis t_x0 nn_8) (hS.m1 t_x0 nn_8) ?_
        refine c_iload_n dX5_endsBelow_25 rfl rfl ?_
        refine c_lald dX5_endsBelow_26 ⟨(tK.cis p_22 (Option.some_ne_none _)), (vk_cast q_22 ok.1)⟩ ?_
        have ok := ok.2
        refine c_aload_nQ dX5_endsBelow_27 rfl rfl ?_
        have p_28 := hS.m1k t_x1 nn_15
        have q_28 := hS.m1l t_x1 nn_15
        refine c_getS (C := RX5) (T := TX5) (N := 7) (ci := 4) (k := 1) ⟨rfl, inT5, by decide, fX5_9⟩ (by decide) (by decide) (by decide) dX5_endsBelow_28 (tK.cis t_x1 nn_15) (hS.m1 t_x1 nn_15) ?_
        refine c_iload_n dX5_endsBelow_31 rfl rfl ?_
        refine c_lald dX5_endsBelow_32 ⟨(tK.cis p_28 (Option.some_ne_none _)), (vk_cast q_28 ok.1)⟩ ?_
        have ok := ok.2
        refine c_lcmp dX5_endsBelow_33 ?_
        refine c_if_eq (tgt := 61) dX5_endsBelow_34 (by decide) (fun c_34 => ?_) (fun c_34 => ?_)
        · have ok := ok.1 c_34
          have hx := xif_p c_34 hx
          refine c_iinc_2 (v := (x2 + nI 1)) dX5_endsBelow_61 rfl (by first | rfl | (congr 1)) (by decide) (by simp [zok, zg, zcat_rf]) ?_
          refine c_goto (tgt := 2) dX5_endsBelow_64 (by decide) ?_
          exact cX.cutz (hrec _ _ _ t_x0 t_x1 ok hx) ⟨rfl, rfl, rfl, trivial⟩
        · have ok := ok.2 c_34
          have hx := xif_n c_34 hx
          exact cX.cutz (hX0 _ _ _  t_x0 t_x1 hx) ⟨rfl, rfl, rfl, trivial⟩
def KL_X5_endsBelow_2 (N g H T : Nat) : Nat → Option Nat → Option Nat → Int32 → cS → Nat × Option Nat × Option Nat × Int32 × Unit
  | 0, x0, x1, x2, S => (0, none, none, 0, ())
  | n + 1, x0, x1, x2, S => KB_X5_endsBelow_2 N g H T (fun x0 x1 x2 => KL_X5_endsBelow_2 N g H T n x0 x1 x2 S) x0 x1 x2 S
def KOL_X5_endsBelow_2 (N g H T : Nat) : Nat → Option Nat → Option Nat → Int32 → cS → Prop
  | 0, _, _, _, _ => False
  | n + 1, x0, x1, x2, S => KOB_X5_endsBelow_2 N g H T (fun x0 x1 x2 => KOL_X5_endsBelow_2 N g H T n x0 x1 x2 S) x0 x1 x2 S
set_option maxRecDepth 100000 in
set_option maxHeartbeats 4000000 in
theorem kl_X5_endsBelow_2 {G : zG} {o : cO} {u g H T N : Nat} {S : cS} {Q : Option Value → cS → Prop} {X : Nat × Option Nat × Option Nat × Int32 × Unit → Prop} (hG : zOK G) (hX0 : ∀ (x0 : Option Nat) (x1 : Option Nat) (x2 : Int32) , tK S 5 x0 → tK S 5 x1 → X (0, x0, x1, x2, ()) → cX G o dX5_endsBelow mX5_endsBelow 37 [some (va_rf x0), some (va_rf x1), some (.int x2)] [] S Q) (hX1 : ∀ (x0 : Option Nat) (x1 : Option Nat) (x2 : Int32) , tK S 5 x0 → X (1, x0, x1, x2, ()) → cX G o dX5_endsBelow mX5_endsBelow 67 [some (va_rf x0), none, none] [] S Q) (hS : St u g H T S) : ∀ (n : Nat) (x0 : Option Nat) (x1 : Option Nat) (x2 : Int32) , tK S 5 x0 → tK S 5 x1 → KOL_X5_endsBelow_2 N g H T n x0 x1 x2 S → X (KL_X5_endsBelow_2 N g H T n x0 x1 x2 S) → cX G o dX5_endsBelow mX5_endsBelow 2 [some (va_rf x0), some (va_rf x1), some (.int x2)] [] S Q := by
  intro n
  induction n with
  | zero => intro x0 x1 x2 t_x0 t_x1 ok; exact absurd ok id
  | succ n ih =>
    intro x0 x1 x2 t_x0 t_x1 ok hx
    exact kbb_X5_endsBelow_2 hG hX0 hX1 (rec := fun x0 x1 x2 => KL_X5_endsBelow_2 N g H T n x0 x1 x2 S) (rok := fun x0 x1 x2 => KOL_X5_endsBelow_2 N g H T n x0 x1 x2 S) (fun x0 x1 x2 t_x0 t_x1 ok hx => ih x0 x1 x2 t_x0 t_x1 ok hx) hS t_x0 t_x1 ok hx
def KA_X5_endsBelow_2 (N g H T : Nat) (x0 : Option Nat) (x1 : Option Nat) (x2 : Int32) (S : cS) (z : Nat × Option Nat × Option Nat × Int32 × Unit) : Int32 := (if z.1 = 0 then (KF_X5_endsBelow_37 N g H T (z.2.1) (z.2.2.1) (z.2.2.2.1) S) else (KF_X5_endsBelow_67 N g H T (z.2.1) S))
def KOA_X5_endsBelow_2 (N g H T : Nat) (x0 : Option Nat) (x1 : Option Nat) (x2 : Int32) (S : cS) (z : Nat × Option Nat × Option Nat × Int32 × Unit) : Prop := (if z.1 = 0 then KO_X5_endsBelow_37 N g H T (z.2.1) (z.2.2.1) (z.2.2.2.1) S else KO_X5_endsBelow_67 N g H T (z.2.1) S)
set_option maxRecDepth 100000 in
set_option maxHeartbeats 4000000 in
theorem kd_X5_endsBelow_2 {G : zG} {o : cO} {u g H T N : Nat} {S : cS} {Q : Option Value → cS → Prop} {X : Int32 → Prop} (hG : zOK G) (hR : ∀ v, X v → Q (some (.int v)) S) {x0 : Option Nat} {x1 : Option Nat} {x2 : Int32} (hS : St u g H T S) (t_x0 : tK S 5 x0) (t_x1 : tK S 5 x1) (ok : KOL_X5_endsBelow_2 N g H T N x0 x1 x2 S ∧ KOA_X5_endsBelow_2 N g H T x0 x1 x2 S (KL_X5_endsBelow_2 N g H T N x0 x1 x2 S)) (hx : X (KA_X5_endsBelow_2 N g H T x0 x1 x2 S (KL_X5_endsBelow_2 N g H T N x0 x1 x2 S))) : cX G o dX5_endsBelow mX5_endsBelow 2 [some (va_rf x0), some (va_rf x1), some (.int x2)] [] S Q := by
  refine kl_X5_endsBelow_2 hG ?_ ?_ hS N x0 x1 x2 t_x0 t_x1 ok.1 (X := fun z => KOA_X5_endsBelow_2 N g H T x0 x1 x2 S z ∧ X (KA_X5_endsBelow_2 N g H T x0 x1 x2 S z)) ⟨ok.2, hx⟩
  · intro x0' x1' x2' t_x0 t_x1 hz
    obtain ⟨ok, hx⟩ := hz
    unfold KOA_X5_endsBelow_2 at ok
    unfold KA_X5_endsBelow_2 at hx
    have ok := xif_P (show (0 : Nat) = 0 from rfl) ok
    have hx := xif_p (show (0 : Nat) = 0 from rfl) hx
    exact cX.cutz (kb_X5_endsBelow_37 hG hR hS t_x0 t_x1 ok hx) ⟨rfl, rfl, rfl, trivial⟩
  · intro x0' x1' x2' t_x0 hz
    obtain ⟨ok, hx⟩ := hz
    unfold KOA_X5_endsBelow_2 at ok
    unfold KA_X5_endsBelow_2 at hx
    have ok := xif_N (show ¬ (1 : Nat) = 0 by decide) ok
    have hx := xif_n (show ¬ (1 : Nat) = 0 by decide) hx
    exact cX.cutz (kb_X5_endsBelow_67 hG hR hS t_x0 ok hx) ⟨rfl, trivial⟩
def KF_X5_endsBelow_0 (N g H T : Nat) (x0 : Option Nat) (x1 : Option Nat) (S : cS) : Int32 := (KA_X5_endsBelow_2 N g H T x0 x1 (nI 0) S (KL_X5_endsBelow_2 N g H T N x0 x1 (nI 0) S))
def KO_X5_endsBelow_0 (N g H T : Nat) (x0 : Option Nat) (x1 : Option Nat) (S : cS) : Prop := (KOL_X5_endsBelow_2 N g H T N x0 x1 (nI 0) S ∧ KOA_X5_endsBelow_2 N g H T x0 x1 (nI 0) S (KL_X5_endsBelow_2 N g H T N x0 x1 (nI 0) S))
set_option maxRecDepth 100000 in
set_option maxHeartbeats 4000000 in
theorem kb_X5_endsBelow_0 {G : zG} {o : cO} {u g H T N : Nat} {S : cS} {Q : Option Value → cS → Prop} {X : Int32 → Prop} (hG : zOK G) (hR : ∀ v, X v → Q (some (.int v)) S) {x0 : Option Nat} {x1 : Option Nat} (hS : St u g H T S) (t_x0 : tK S 5 x0) (t_x1 : tK S 5 x1) (ok : KO_X5_endsBelow_0 N g H T x0 x1 S) (hx : X (KF_X5_endsBelow_0 N g H T x0 x1 S)) : cX G o dX5_endsBelow mX5_endsBelow 0 [some (va_rf x0), some (va_rf x1), none] [] S Q := by
  unfold KO_X5_endsBelow_0 at ok
  unfold KF_X5_endsBelow_0 at hx
  refine c_iconst (v := nI 0) dX5_endsBelow_0 (by decide) ?_
  refine c_istore_2 dX5_endsBelow_1 (by decide) (by simp [zok, zg, zcat_rf]) ?_
  exact cX.cutz (kd_X5_endsBelow_2 hG hR hS t_x0 t_x1 ok hx) ⟨rfl, rfl, rfl, trivial⟩
def k_X5_endsBelow (N g H T : Nat) (S : cS) (a0 : Nat) (x1 : Option Nat) : Int32 := KF_X5_endsBelow_0 N g H T (some a0) x1 S
def p_X5_endsBelow (N g H T : Nat) (S : cS) (a0 : Nat) (x1 : Option Nat) : Prop := KO_X5_endsBelow_0 N g H T (some a0) x1 S
set_option maxRecDepth 100000 in
set_option maxHeartbeats 4000000 in
theorem kc_X5_endsBelow {G : zG} {o : cO} {u g H T N : Nat} {S : cS} (hG : zOK G) {a0 : Nat} {x1 : Option Nat} (hS : St u g H T S) (t_x0 : cK S a0 = 5) (t_x1 : tK S 5 x1) (ok : p_X5_endsBelow N g H T S a0 x1) : cCi G o dX5_endsBelow mX5_endsBelow [.ref a0, va_rf x1] S (fun v S' => (v = k_X5_endsBelow N g H T S a0 x1 ∧ S' = S)) := by
  refine cC.ofX rfl (by cases x1 <;> exact Nat.le_of_ble_eq_true rfl) ?_
  rw [show zargs mX5_endsBelow.2.2.1 [.ref a0, va_rf x1] = [some (va_rf (some a0)), some (va_rf x1), none] from by cases x1 <;> rfl]
  exact cX.cutz (kb_X5_endsBelow_0 (X := fun F => F = k_X5_endsBelow N g H T S a0 x1) hG (fun v h => ⟨v, rfl, h, rfl⟩) hS (tK_some t_x0) t_x1 ok rfl) ⟨rfl, rfl, trivial⟩
/-! X5_writeId -/
def KF_X5_writeId_54 (N g H T : Nat)  (S : cS) : cS := S
def KO_X5_writeId_54 (N g H T : Nat)  (S : cS) : Prop := True
set_option maxRecDepth 100000 in
set_option maxHeartbeats 4000000 in
theorem kb_X5_writeId_54 {G : zG} {o : cO} {u g H T N : Nat} {S : cS} {S0 : cS} {Q : Option Value → cS → Prop} {X : cS → Prop} (hG : zOK G) (hR : ∀ S', St u g H T S' → Mono S0 S' → X S' → Q none S') (hS : St u g H T S) (hM : Mono S0 S) (ok : KO_X5_writeId_54 N g H T S) (hx : X (KF_X5_writeId_54 N g H T S)) : cX G o dX5_writeId mX5_writeId 54 [none, none, none, none] [] S Q := by
  unfold KO_X5_writeId_54 at ok
  unfold KF_X5_writeId_54 at hx
  exact c_return rfl dX5_writeId_54 (hR _ hS hM hx)
def KF_X5_writeId_48 (N g H T : Nat) (rec : Option Nat → Option Nat → Int32 → Int32 → cS → Nat × cS) (x0 : Option Nat) (x1 : Option Nat) (x2 : Int32) (x3 : Int32) (S : cS) : Nat × cS := (rec x0 x1 x2 (x3 + nI 1) S)
def KO_X5_writeId_48 (N g H T : Nat) (rok : Option Nat → Option Nat → Int32 → Int32 → cS → Prop) (x0 : Option Nat) (x1 : Option Nat) (x2 : Int32) (x3 : Int32) (S : cS) : Prop := rok x0 x1 x2 (x3 + nI 1) S
set_option maxRecDepth 100000 in
set_option maxHeartbeats 4000000 in
theorem kb_X5_writeId_48 {G : zG} {o : cO} {u g H T N : Nat} {S : cS} {S0 : cS} {Q : Option Value → cS → Prop} {X : Nat × cS → Prop} (hG : zOK G) (hX0 : ∀ (S' : cS), St u g H T S' → Mono S0 S' → X (0, S') → cX G o dX5_writeId mX5_writeId 54 [none, none, none, none] [] S' Q) {rec : Option Nat → Option Nat → Int32 → Int32 → cS → Nat × cS} {rok : Option Nat → Option Nat → Int32 → Int32 → cS → Prop} (hrec : ∀ (x0 : Option Nat) (x1 : Option Nat) (x2 : Int32) (x3 : Int32) (S : cS), St u g H T S → Mono S0 S → tK S 5 x0 → tK S 20 x1 → rok x0 x1 x2 x3 S → X (rec x0 x1 x2 x3 S) → cX G o dX5_writeId mX5_writeId 16 [some (va_rf x0), some (va_rf x1), some (.int x2), some (.int x3)] [] S Q) {x0 : Option Nat} {x1 : Option Nat} {x2 : Int32} {x3 : Int32} (hS : St u g H T S) (hM : Mono S0 S) (t_x0 : tK S 5 x0) (t_x1 : tK S 20 x1) (ok : KO_X5_writeId_48 N g H T rok x0 x1 x2 x3 S) (hx : X (KF_X5_writeId_48 N g H T rec x0 x1 x2 x3 S)) : cX G o dX5_writeId mX5_writeId 48 [some (va_rf x0), some (va_rf x1), some (.int x2), some (.int x3)] [] S Q := by
  unfold KO_X5_writeId_48 at ok
  unfold KF_X5_writeId_48 at hx
  refine c_iinc_3 (v := (x3 + nI 1)) dX5_writeId_48 rfl (by first | rfl | (congr 1)) (by decide) rfl ?_
  refine c_goto (tgt := 16) dX5_writeId_51 (by decide) ?_
  exact cX.cutz (hrec _ _ _ _ S hS hM t_x0 t_x1 ok hx) ⟨rfl, rfl, rfl, rfl, trivial⟩
def KB_X5_writeId_16 (N g H T : Nat) (rec : Option Nat → Option Nat → Int32 → Int32 → cS → Nat × cS) (x0 : Option Nat) (x1 : Option Nat) (x2 : Int32) (x3 : Int32) (S : cS) : Nat × cS := (if (nI 32) ≤ x3 then (0, S) else (KF_X5_writeId_48 N g H T rec x0 x1 x2 x3 (csA S (za x1) (x2 + x3).toNatClampNeg (((Int64.toInt32 ((cJ S ((za x0) + 1) (x3 >>> ((nI 3) &&& 31)).toNatClampNeg) >>> (Int32.toInt64 ((nI 56) - ((nI 8) * (x3 &&& (nI 7)))) &&& 63))).toInt8.toInt32).toInt8.toInt32))))
def KOB_X5_writeId_16 (N g H T : Nat) (rok : Option Nat → Option Nat → Int32 → Int32 → cS → Prop) (x0 : Option Nat) (x1 : Option Nat) (x2 : Int32) (x3 : Int32) (S : cS) : Prop := (((nI 32) ≤ x3 → True) ∧ (¬ (nI 32) ≤ x3 → (¬ x0 = none) ∧ (vp_in (x3 >>> ((nI 3) &&& 31)) 4) ∧ (¬ x1 = none ∧ vp_in (x2 + x3) (cL S (za x1))) ∧ KO_X5_writeId_48 N g H T rok x0 x1 x2 x3 (csA S (za x1) (x2 + x3).toNatClampNeg (((Int64.toInt32 ((cJ S ((za x0) + 1) (x3 >>> ((nI 3) &&& 31)).toNatClampNeg) >>> (Int32.toInt64 ((nI 56) - ((nI 8) * (x3 &&& (nI 7)))) &&& 63))).toInt8.toInt32).toInt8.toInt32))))
set_option maxRecDepth 100000 in
set_option maxHeartbeats 4000000 in
theorem kbb_X5_writeId_16 {G : zG} {o : cO} {u g H T N : Nat} {S : cS} {S0 : cS} {Q : Option Value → cS → Prop} {X : Nat × cS → Prop} (hG : zOK G) (hX0 : ∀ (S' : cS), St u g H T S' → Mono S0 S' → X (0, S') → cX G o dX5_writeId mX5_writeId 54 [none, none, none, none] [] S' Q) {rec : Option Nat → Option Nat → Int32 → Int32 → cS → Nat × cS} {rok : Option Nat → Option Nat → Int32 → Int32 → cS → Prop} (hrec : ∀ (x0 : Option Nat) (x1 : Option Nat) (x2 : Int32) (x3 : Int32) (S : cS), St u g H T S → Mono S0 S → tK S 5 x0 → tK S 20 x1 → rok x0 x1 x2 x3 S → X (rec x0 x1 x2 x3 S) → cX G o dX5_writeId mX5_writeId 16 [some (va_rf x0), some (va_rf x1), some (.int x2), some (.int x3)] [] S Q) {x0 : Option Nat} {x1 : Option Nat} {x2 : Int32} {x3 : Int32} (hS : St u g H T S) (hM : Mono S0 S) (t_x0 : tK S 5 x0) (t_x1 : tK S 20 x1) (ok : KOB_X5_writeId_16 N g H T rok x0 x1 x2 x3 S) (hx : X (KB_X5_writeId_16 N g H T rec x0 x1 x2 x3 S)) : cX G o dX5_writeId mX5_writeId 16 [some (va_rf x0), some (va_rf x1), some (.int x2), some (.int x3)] [] S Q := by
  unfold KOB_X5_writeId_16 at ok
  unfold KB_X5_writeId_16 at hx
  refine c_iload_n dX5_writeId_16 rfl rfl ?_
  refine c_bipush (v := nI 32) dX5_writeId_17 (by decide) ?_
  refine c_icmp_ge (tgt := 54) dX5_writeId_19 (by decide) (fun c_19 => ?_) (fun c_19 => ?_)
  · have ok := ok.1 c_19
    have hx := xif_p c_19 hx
    exact cX.cutz (hX0 S hS hM  hx) trivial
  · have ok := ok.2 c_19
    have hx := xif_n c_19 hx
    refine c_aload_nQ dX5_writeId_22 rfl rfl ?_
    refine c_iload_n dX5_writeId_23 rfl rfl ?_
    refine c_iload_n dX5_writeId_24 rfl rfl ?_
    refine c_iadd dX5_writeId_25 ?_
    refine c_aload_nQ dX5_writeId_26 rfl rfl ?_
    have nn_27 := ok.1
    have p_27 := hS.m1k t_x0 ok.1
    have q_27 := hS.m1l t_x0 ok.1
    refine c_getS (C := RX5) (T := TX5) (N := 7) (ci := 4) (k := 1) ⟨rfl, inT5, by decide, fX5_9⟩ (by decide) (by decide) (by decide) dX5_writeId_27 (tK.cis t_x0 ok.1) (hS.m1 t_x0 ok.1) ?_
    have ok := ok.2
    refine c_iload_n dX5_writeId_30 rfl rfl ?_
    refine c_iconst (v := nI 3) dX5_writeId_31 (by decide) ?_
    refine c_ishr dX5_writeId_32 ?_
    refine c_lald dX5_writeId_33 ⟨(tK.cis p_27 (Option.some_ne_none _)), (vk_cast q_27 ok.1)⟩ ?_
    have ok := ok.2
    refine c_bipush (v := nI 56) dX5_writeId_34 (by decide) ?_
    refine c_bipush (v := nI 8) dX5_writeId_36 (by decide) ?_
    refine c_iload_n dX5_writeId_38 rfl rfl ?_
    refine c_bipush (v := nI 7) dX5_writeId_39 (by decide) ?_
    refine c_iand dX5_writeId_41 ?_
    refine c_imul dX5_writeId_42 ?_
    refine c_isub dX5_writeId_43 ?_
    refine c_lshr dX5_writeId_44 ?_
    refine c_l2i dX5_writeId_45 ?_
    refine c_i2b dX5_writeId_46 ?_
    refine c_bast dX5_writeId_47 ⟨(tK.cis t_x1 ok.1.1), ok.1.2⟩ ?_
    have hS := hS.Ab (za x1) (x2 + x3).toNatClampNeg ((Int64.toInt32 ((cJ S ((za x0) + 1) (x3 >>> ((nI 3) &&& 31)).toNatClampNeg) >>> (Int32.toInt64 ((nI 56) - ((nI 8) * (x3 &&& (nI 7)))) &&& 63))).toInt8.toInt32)
    have hM := hM.A (za x1) (x2 + x3).toNatClampNeg (((Int64.toInt32 ((cJ S ((za x0) + 1) (x3 >>> ((nI 3) &&& 31)).toNatClampNeg) >>> (Int32.toInt64 ((nI 56) - ((nI 8) * (x3 &&& (nI 7)))) &&& 63))).toInt8.toInt32).toInt8.toInt32)
    have ok := ok.2
    exact cX.cutz (kb_X5_writeId_48 hG hX0 hrec hS hM (tK_A t_x0) (tK_A t_x1) ok hx) ⟨rfl, rfl, rfl, rfl, trivial⟩
def KL_X5_writeId_16 (N g H T : Nat) : Nat → Option Nat → Option Nat → Int32 → Int32 → cS → Nat × cS
  | 0, x0, x1, x2, x3, S => (0, S)
  | n + 1, x0, x1, x2, x3, S => KB_X5_writeId_16 N g H T (KL_X5_writeId_16 N g H T n) x0 x1 x2 x3 S
def KOL_X5_writeId_16 (N g H T : Nat) : Nat → Option Nat → Option Nat → Int32 → Int32 → cS → Prop
  | 0, _, _, _, _, _ => False
  | n + 1, x0, x1, x2, x3, S => KOB_X5_writeId_16 N g H T (KOL_X5_writeId_16 N g H T n) x0 x1 x2 x3 S
set_option maxRecDepth 100000 in
set_option maxHeartbeats 4000000 in
theorem kl_X5_writeId_16 {G : zG} {o : cO} {u g H T N : Nat} {S0 : cS} {Q : Option Value → cS → Prop} {X : Nat × cS → Prop} (hG : zOK G) (hX0 : ∀ (S' : cS), St u g H T S' → Mono S0 S' → X (0, S') → cX G o dX5_writeId mX5_writeId 54 [none, none, none, none] [] S' Q) : ∀ (n : Nat) (x0 : Option Nat) (x1 : Option Nat) (x2 : Int32) (x3 : Int32) (S : cS), St u g H T S → Mono S0 S → tK S 5 x0 → tK S 20 x1 → KOL_X5_writeId_16 N g H T n x0 x1 x2 x3 S → X (KL_X5_writeId_16 N g H T n x0 x1 x2 x3 S) → cX G o dX5_writeId mX5_writeId 16 [some (va_rf x0), some (va_rf x1), some (.int x2), some (.int x3)] [] S Q := by
  intro n
  induction n with
  | zero => intro x0 x1 x2 x3 S hS hM t_x0 t_x1 ok; exact absurd ok id
  | succ n ih =>
    intro x0 x1 x2 x3 S hS hM t_x0 t_x1 ok hx
    exact kbb_X5_writeId_16 hG hX0 (rec := KL_X5_writeId_16 N g H T n) (rok := KOL_X5_writeId_16 N g H T n) (fun x0 x1 x2 x3 S hS hM t_x0 t_x1 ok hx => ih x0 x1 x2 x3 S hS hM t_x0 t_x1 ok hx) hS hM t_x0 t_x1 ok hx
def KA_X5_writeId_16 (N g H T : Nat) (x0 : Option Nat) (x1 : Option Nat) (x2 : Int32) (x3 : Int32) (S : cS) (z : Nat × cS) : cS := (KF_X5_writeId_54 N g H T z.2)
def KOA_X5_writeId_16 (N g H T : Nat) (x0 : Option Nat) (x1 : Option Nat) (x2 : Int32) (x3 : Int32) (S : cS) (z : Nat × cS) : Prop := KO_X5_writeId_54 N g H T z.2
set_option maxRecDepth 100000 in
set_option maxHeartbeats 4000000 in
theorem kd_X5_writeId_16 {G : zG} {o : cO} {u g H T N : Nat} {S : cS} {S0 : cS} {Q : Option Value → cS → Prop} {X : cS → Prop} (hG : zOK G) (hR : ∀ S', St u g H T S' → Mono S0 S' → X S' → Q none S') {x0 : Option Nat} {x1 : Option Nat} {x2 : Int32} {x3 : Int32} (hS : St u g H T S) (hM : Mono S0 S) (t_x0 : tK S 5 x0) (t_x1 : tK S 20 x1) (ok : KOL_X5_writeId_16 N g H T N x0 x1 x2 x3 S ∧ KOA_X5_writeId_16 N g H T x0 x1 x2 x3 S (KL_X5_writeId_16 N g H T N x0 x1 x2 x3 S)) (hx : X (KA_X5_writeId_16 N g H T x0 x1 x2 x3 S (KL_X5_writeId_16 N g H T N x0 x1 x2 x3 S))) : cX G o dX5_writeId mX5_writeId 16 [some (va_rf x0), some (va_rf x1), some (.int x2), some (.int x3)] [] S Q := by
  refine kl_X5_writeId_16 hG ?_ N x0 x1 x2 x3 S hS hM t_x0 t_x1 ok.1 (X := fun z => KOA_X5_writeId_16 N g H T x0 x1 x2 x3 S z ∧ X (KA_X5_writeId_16 N g H T x0 x1 x2 x3 S z)) ⟨ok.2, hx⟩
  · intro S' hS hM hz
    obtain ⟨ok, hx⟩ := hz
    unfold KOA_X5_writeId_16 at ok
    unfold KA_X5_writeId_16 at hx
    exact cX.cutz (kb_X5_writeId_54 hG hR hS hM  ok hx) trivial
def KF_X5_writeId_13 (N g H T : Nat)  (S : cS) : cS := S
def KO_X5_writeId_13 (N g H T : Nat)  (S : cS) : Prop := True
set_option maxRecDepth 100000 in
set_option maxHeartbeats 4000000 in
theorem kb_X5_writeId_13 {G : zG} {o : cO} {u g H T N : Nat} {S : cS} {S0 : cS} {Q : Option Value → cS → Prop} {X : cS → Prop} (hG : zOK G) (hR : ∀ S', St u g H T S' → Mono S0 S' → X S' → Q none S') (hS : St u g H T S) (hM : Mono S0 S) (ok : KO_X5_writeId_13 N g H T S) (hx : X (KF_X5_writeId_13 N g H T S)) : cX G o dX5_writeId mX5_writeId 13 [none, none, none, none] [] S Q := by
  unfold KO_X5_writeId_13 at ok
  unfold KF_X5_writeId_13 at hx
  exact c_return rfl dX5_writeId_13 (hR _ hS hM hx)
def KF_X5_writeId_0 (N g H T : Nat) (x0 : Option Nat) (x1 : Option Nat) (x2 : Int32) (S : cS) : cS := (if x2 < 0 then (KF_X5_writeId_13 N g H T S) else (if x2 ≤ ((nI (cL S (za x1))) - (nI 32)) then (KA_X5_writeId_16 N g H T x0 x1 x2 (nI 0) S (KL_X5_writeId_16 N g H T N x0 x1 x2 (nI 0) S)) else (KF_X5_writeId_13 N g H T S)))
def KO_X5_writeId_0 (N g H T : Nat) (x0 : Option Nat) (x1 : Option Nat) (x2 : Int32) (S : cS) : Prop := ((x2 < 0 → KO_X5_writeId_13 N g H T S) ∧ (¬ x2 < 0 → (¬ x1 = none) ∧ ((x2 ≤ ((nI (cL S (za x1))) - (nI 32)) → (KOL_X5_writeId_16 N g H T N x0 x1 x2 (nI 0) S ∧ KOA_X5_writeId_16 N g H T x0 x1 x2 (nI 0) S (KL_X5_writeId_16 N g H T N x0 x1 x2 (nI 0) S))) ∧ (¬ x2 ≤ ((nI (cL S (za x1))) - (nI 32)) → KO_X5_writeId_13 N g H T S))))
set_option maxRecDepth 100000 in
set_option maxHeartbeats 4000000 in
theorem kb_X5_writeId_0 {G : zG} {o : cO} {u g H T N : Nat} {S : cS} {S0 : cS} {Q : Option Value → cS → Prop} {X : cS → Prop} (hG : zOK G) (hR : ∀ S', St u g H T S' → Mono S0 S' → X S' → Q none S') {x0 : Option Nat} {x1 : Option Nat} {x2 : Int32} (hS : St u g H T S) (hM : Mono S0 S) (t_x0 : tK S 5 x0) (t_x1 : tK S 20 x1) (ok : KO_X5_writeId_0 N g H T x0 x1 x2 S) (hx : X (KF_X5_writeId_0 N g H T x0 x1 x2 S)) : cX G o dX5_writeId mX5_writeId 0 [some (va_rf x0), some (va_rf x1), some (.int x2), none] [] S Q := by
  unfold KO_X5_writeId_0 at ok
  unfold KF_X5_writeId_0 at hx
  refine c_iload_n dX5_writeId_0 rfl rfl ?_
  refine c_if_lt (tgt := 13) dX5_writeId_1 (by decide) (fun c_1 => ?_) (fun c_1 => ?_)
  · have ok := ok.1 c_1
    have hx := xif_p c_1 hx
    exact cX.cutz (kb_X5_writeId_13 hG hR hS hM  ok hx) trivial
  · have ok := ok.2 c_1
    have hx := xif_n c_1 hx
    refine c_iload_n dX5_writeId_4 rfl rfl ?_
    refine c_aload_nQ dX5_writeId_5 rfl rfl ?_
    refine c_alenS (t := 0) (ty := .byte) rfl dX5_writeId_6 (tK.cis t_x1 ok.1) rfl ?_
    have ok := ok.2
    refine c_bipush (v := nI 32) dX5_writeId_7 (by decide) ?_
    refine c_isub dX5_writeId_9 ?_
    refine c_icmp_le (tgt := 14) dX5_writeId_10 (by decide) (fun c_10 => ?_) (fun c_10 => ?_)
    · have ok := ok.1 c_10
      have hx := xif_p c_10 hx
      refine c_iconst (v := nI 0) dX5_writeId_14 (by decide) ?_
      refine c_istore_3 dX5_writeId_15 (by decide) rfl ?_
      exact cX.cutz (kd_X5_writeId_16 hG hR hS hM t_x0 t_x1 ok hx) ⟨rfl, rfl, rfl, rfl, trivial⟩
    · have ok := ok.2 c_10
      have hx := xif_n c_10 hx
      exact cX.cutz (kb_X5_writeId_13 hG hR hS hM  ok hx) trivial
def k_X5_writeId (N g H T : Nat) (S : cS) (a0 : Nat) (x1 : Option Nat) (x2 : Int32) : cS := KF_X5_writeId_0 N g H T (some a0) x1 x2 S
def p_X5_writeId (N g H T : Nat) (S : cS) (a0 : Nat) (x1 : Option Nat) (x2 : Int32) : Prop := KO_X5_writeId_0 N g H T (some a0) x1 x2 S
set_option maxRecDepth 100000 in
set_option maxHeartbeats 4000000 in
theorem kc_X5_writeId {G : zG} {o : cO} {u g H T N : Nat} {S : cS} (hG : zOK G) {a0 : Nat} {x1 : Option Nat} {x2 : Int32} (hS : St u g H T S) (t_x0 : cK S a0 = 5) (t_x1 : tK S 20 x1) (ok : p_X5_writeId N g H T S a0 x1 x2) : cCv G o dX5_writeId mX5_writeId [.ref a0, va_rf x1, .int x2] S (fun S' => S' = k_X5_writeId N g H T S a0 x1 x2 ∧ St u g H T S' ∧ Mono S S') := by
  refine cC.ofX rfl (by cases x1 <;> exact Nat.le_of_ble_eq_true rfl) ?_
  rw [show zargs mX5_writeId.2.2.1 [.ref a0, va_rf x1, .int x2] = [some (va_rf (some a0)), some (va_rf x1), some (.int x2), none] from by cases x1 <;> rfl]
  exact cX.cutz (kb_X5_writeId_0 (X := fun F => F = k_X5_writeId N g H T S a0 x1 x2) hG (fun S' h1 h2 h => ⟨rfl, h, h1, h2⟩) hS Mono.rfl' (tK_some t_x0) t_x1 ok rfl) ⟨rfl, rfl, rfl, trivial⟩
/-! X3_accuse -/
def KF_X3_accuse_223 (N g H T : Nat) (x0 : Option Nat) (x5 : Option Nat) (S : cS) : cS := (k_X9_drop N g H T S (g + 11) x5)
def KO_X3_accuse_223 (N g H T : Nat) (x0 : Option Nat) (x5 : Option Nat) (S : cS) : Prop := (¬ x0 = none) ∧ (p_X9_drop N g H T S (g + 11) x5) ∧ True
set_option maxRecDepth 100000 in
set_option maxHeartbeats 4000000 in
theorem kb_X3_accuse_223 {G : zG} {o : cO} {u g H T N : Nat} {S : cS} {S0 : cS} {Q : Option Value → cS → Prop} {X : cS → Prop} (hG : zOK G) (hR : ∀ S', St u g H T S' → Mono S0 S' → X S' → Q none S') {x0 : Option Nat} {x5 : Option Nat} (hS : St u g H T S) (hM : Mono S0 S) (t_x0 : tN g H x0) (t_x5 : tK S 5 x5) (ok : KO_X3_accuse_223 N g H T x0 x5 S) (hx : X (KF_X3_accuse_223 N g H T x0 x5 S)) : cX G o dX3_accuse mX3_accuse 223 [some (va_rf x0), none, none, none, none, some (va_rf x5), none] [] S Q := by
  unfold KO_X3_accuse_223 at ok
  unfold KF_X3_accuse_223 at hx
  refine c_aload_nQ dX3_accuse_223 rfl rfl ?_
  have nn_224 := ok.1
  refine c_getS (C := RX6) (T := TX6) (N := 19) (ci := 5) (k := 0) ⟨rfl, inT6, by decide, fX3_33⟩ (by decide) (by decide) (by decide) dX3_accuse_224 (hS.kN t_x0 ok.1) (hS.r (c := 5) (tN.o t_x0 ok.1) rfl (by omega)) ?_
  have ok := ok.2
  refine c_getS (C := RX10) (T := TX10) (N := 12) (ci := 8) (k := 6) ⟨rfl, inT10, by decide, fX3_73⟩ (by decide) (by decide) (by decide) dX3_accuse_227 (hS.k (o50 (tN.o t_x0 nn_224))) (hS.r (c := 8) (o50 (tN.o t_x0 nn_224)) rfl (by omega)) ?_
  refine c_aloadQ dX3_accuse_230 rfl ?_
  refine c_V1vK (ci := 7) (rr := (RX9, TX9, 13)) (y' := mX9_drop) dX3_accuse_232 lX3_83 kX9_drop ⟨by decide, by decide⟩ rfl rfl (by decide) (hS.k (o86 (o50 (tN.o t_x0 nn_224)))) (Nat.le_of_ble_eq_true rfl) (kc_X9_drop hG hS (o86 (o50 (tN.o t_x0 nn_224))) t_x5 ok.1) (fun ⟨hS, hm_232⟩ => ?_)
  have hM := hM.trans hm_232
  have ok := ok.2
  exact c_return rfl dX3_accuse_235 (hR _ hS hM hx)
def KF_X3_accuse_201 (N g H T : Nat) (x0 : Option Nat) (x5 : Option Nat) (s0 : Int32) (S : cS) : cS := (KF_X3_accuse_223 N g H T x0 x5 (k_X10_spread N g H T S (g + 8) (cI S 1 (za x0)) x5 (cI S 1 (za x0)) (cI S 1 (za x0))))
def KO_X3_accuse_201 (N g H T : Nat) (x0 : Option Nat) (x5 : Option Nat) (s0 : Int32) (S : cS) : Prop := (¬ x0 = none) ∧ (p_X10_spread N g H T S (g + 8) (cI S 1 (za x0)) x5 (cI S 1 (za x0)) (cI S 1 (za x0))) ∧ KO_X3_accuse_223 N g H T x0 x5 (k_X10_spread N g H T S (g + 8) (cI S 1 (za x0)) x5 (cI S 1 (za x0)) (cI S 1 (za x0)))
set_option maxRecDepth 100000 in
set_option maxHeartbeats 4000000 in
theorem kb_X3_accuse_201 {G : zG} {o : cO} {u g H T N : Nat} {S : cS} {S0 : cS} {Q : Option Value → cS → Prop} {X : cS → Prop} (hG : zOK G) (hR : ∀ S', St u g H T S' → Mono S0 S' → X S' → Q none S') {x0 : Option Nat} {x5 : Option Nat} {s0 : Int32} (hS : St u g H T S) (hM : Mono S0 S) (t_x0 : tN g H x0) (t_x5 : tK S 5 x5) (ok : KO_X3_accuse_201 N g H T x0 x5 s0 S) (hx : X (KF_X3_accuse_201 N g H T x0 x5 s0 S)) : cX G o dX3_accuse mX3_accuse 201 [some (va_rf x0), none, none, none, none, some (va_rf x5), none] [.int s0] S Q := by
  unfold KO_X3_accuse_201 at ok
  unfold KF_X3_accuse_201 at hx
  refine c_pop dX3_accuse_201 rfl ?_
  refine c_aload_nQ dX3_accuse_202 rfl rfl ?_
  have nn_203 := ok.1
  refine c_getS (C := RX6) (T := TX6) (N := 19) (ci := 5) (k := 0) ⟨rfl, inT6, by decide, fX3_33⟩ (by decide) (by decide) (by decide) dX3_accuse_203 (hS.kN t_x0 ok.1) (hS.r (c := 5) (tN.o t_x0 ok.1) rfl (by omega)) ?_
  have ok := ok.2
  refine c_aload_nQ dX3_accuse_206 rfl rfl ?_
  refine c_getI (C := RX6) (T := TX6) (N := 19) (ci := 5) (k := 1) ⟨rfl, inT6, by decide, fX3_37⟩ (by decide) (by decide) (by decide) dX3_accuse_207 (hS.kN t_x0 nn_203) ?_
  refine c_aloadQ dX3_accuse_210 rfl ?_
  refine c_aload_nQ dX3_accuse_212 rfl rfl ?_
  refine c_getI (C := RX6) (T := TX6) (N := 19) (ci := 5) (k := 1) ⟨rfl, inT6, by decide, fX3_37⟩ (by decide) (by decide) (by decide) dX3_accuse_213 (hS.kN t_x0 nn_203) ?_
  refine c_aload_nQ dX3_accuse_216 rfl rfl ?_
  refine c_getI (C := RX6) (T := TX6) (N := 19) (ci := 5) (k := 1) ⟨rfl, inT6, by decide, fX3_37⟩ (by decide) (by decide) (by decide) dX3_accuse_217 (hS.kN t_x0 nn_203) ?_
  refine c_V4vK (ci := 8) (rr := (RX10, TX10, 12)) (y' := mX10_spread) dX3_accuse_220 lX3_44 kX10_spread ⟨by decide, by decide⟩ rfl rfl (by decide) (hS.k (o50 (tN.o t_x0 nn_203))) (Nat.le_of_ble_eq_true rfl) (kc_X10_spread hG hS (o50 (tN.o t_x0 nn_203)) t_x5 ok.1) (fun ⟨hS, hm_220⟩ => ?_)
  have hM := hM.trans hm_220
  have ok := ok.2
  exact cX.cutz (kb_X3_accuse_223 hG hR hS hM t_x0 (hm_220.tK t_x5 (by decide)) ok hx) ⟨rfl, rfl, trivial⟩
def KF_X3_accuse_192 (N g H T : Nat) (x0 : Option Nat) (x5 : Option Nat) (S : cS) : cS := (KF_X3_accuse_201 N g H T x0 x5 ((k_X8_addProof N g H T S ((za x0) + 14) x5).1) (k_X8_addProof N g H T S ((za x0) + 14) x5).2)
def KO_X3_accuse_192 (N g H T : Nat) (x0 : Option Nat) (x5 : Option Nat) (S : cS) : Prop := (¬ x0 = none) ∧ (p_X8_addProof N g H T S ((za x0) + 14) x5) ∧ KO_X3_accuse_201 N g H T x0 x5 ((k_X8_addProof N g H T S ((za x0) + 14) x5).1) (k_X8_addProof N g H T S ((za x0) + 14) x5).2
set_option maxRecDepth 100000 in
set_option maxHeartbeats 4000000 in
theorem kb_X3_accuse_192 {G : zG} {o : cO} {u g H T N : Nat} {S : cS} {S0 : cS} {Q : Option Value → cS → Prop} {X : cS → Prop} (hG : zOK G) (hR : ∀ S', St u g H T S' → Mono S0 S' → X S' → Q none S') {x0 : Option Nat} {x5 : Option Nat} (hS : St u g H T S) (hM : Mono S0 S) (t_x0 : tN g H x0) (t_x5 : tK S 5 x5) (ok : KO_X3_accuse_192 N g H T x0 x5 S) (hx : X (KF_X3_accuse_192 N g H T x0 x5 S)) : cX G o dX3_accuse mX3_accuse 192 [some (va_rf x0), none, none, none, none, some (va_rf x5), none] [] S Q := by
  unfold KO_X3_accuse_192 at ok
  unfold KF_X3_accuse_192 at hx
  refine c_aload_nQ dX3_accuse_192 rfl rfl ?_
  have nn_193 := ok.1
  refine c_getS (C := RX6) (T := TX6) (N := 19) (ci := 5) (k := 3) ⟨rfl, inT6, by decide, fX3_21⟩ (by decide) (by decide) (by decide) dX3_accuse_193 (hS.kN t_x0 ok.1) (hS.r (c := 5) (tN.o t_x0 ok.1) rfl (by omega)) ?_
  have ok := ok.2
  refine c_aloadQ dX3_accuse_196 rfl ?_
  refine c_V1iK (ci := 6) (rr := (RX8, TX8, 14)) (y' := mX8_addProof) dX3_accuse_198 lX3_27 kX8_addProof ⟨by decide, by decide⟩ rfl rfl (by decide) (hS.k (o53 (tN.o t_x0 nn_193))) (Nat.le_of_ble_eq_true rfl) (kc_X8_addProof hG hS (o53 (tN.o t_x0 nn_193)) t_x5 ok.1) (fun ⟨hS, hm_198⟩ => ?_)
  have hM := hM.trans hm_198
  have ok := ok.2
  exact cX.cutz (kb_X3_accuse_201 hG hR hS hM t_x0 (hm_198.tK t_x5 (by decide)) ok hx) ⟨rfl, rfl, trivial⟩
def KF_X3_accuse_167 (N g H T : Nat) (x0 : Option Nat) (x4 : Option Nat) (x5 : Option Nat) (s0 : Int32) (S : cS) : cS := (KF_X3_accuse_192 N g H T x0 x5 (k_X5_writeId N g H T (csA S ((za x5) + 2) s0.toNatClampNeg ((nI 1).toInt8.toInt32)) (za x4) (some ((za x5) + 2)) (s0 + (nI 1))))
def KO_X3_accuse_167 (N g H T : Nat) (x0 : Option Nat) (x4 : Option Nat) (x5 : Option Nat) (s0 : Int32) (S : cS) : Prop := (¬ x5 = none) ∧ (vp_in s0 (cL S ((za x5) + 2))) ∧ (¬ x4 = none ∧ p_X5_writeId N g H T (csA S ((za x5) + 2) s0.toNatClampNeg ((nI 1).toInt8.toInt32)) (za x4) (some ((za x5) + 2)) (s0 + (nI 1))) ∧ KO_X3_accuse_192 N g H T x0 x5 (k_X5_writeId N g H T (csA S ((za x5) + 2) s0.toNatClampNeg ((nI 1).toInt8.toInt32)) (za x4) (some ((za x5) + 2)) (s0 + (nI 1)))
set_option maxRecDepth 100000 in
set_option maxHeartbeats 4000000 in
theorem kb_X3_accuse_167 {G : zG} {o : cO} {u g H T N : Nat} {S : cS} {S0 : cS} {Q : Option Value → cS → Prop} {X : cS → Prop} (hG : zOK G) (hR : ∀ S', St u g H T S' → Mono S0 S' → X S' → Q none S') {x0 : Option Nat} {x4 : Option Nat} {x5 : Option Nat} {s0 : Int32} (hS : St u g H T S) (hM : Mono S0 S) (t_x0 : tN g H x0) (t_x4 : tK S 5 x4) (t_x5 : tK S 5 x5) (ok : KO_X3_accuse_167 N g H T x0 x4 x5 s0 S) (hx : X (KF_X3_accuse_167 N g H T x0 x4 x5 s0 S)) : cX G o dX3_accuse mX3_accuse 167 [some (va_rf x0), none, none, none, some (va_rf x4), some (va_rf x5), none] [.int s0] S Q := by
  unfold KO_X3_accuse_167 at ok
  unfold KF_X3_accuse_167 at hx
  refine c_istore_6 dX3_accuse_167 (by decide) (by simp [zok, zg, zcat_rf]) ?_
  refine c_aloadQ dX3_accuse_169 rfl ?_
  have nn_171 := ok.1
  have p_171 := hS.m0k t_x5 ok.1
  refine c_getS (C := RX5) (T := TX5) (N := 7) (ci := 4) (k := 0) ⟨rfl, inT5, by decide, fX3_94⟩ (by decide) (by decide) (by decide) dX3_accuse_171 (tK.cis t_x5 ok.1) (hS.m0 t_x5 ok.1) ?_
  have ok := ok.2
  refine c_iload dX3_accuse_174 rfl ?_
  refine c_iconst (v := nI 1) dX3_accuse_176 (by decide) ?_
  refine c_bast dX3_accuse_177 ⟨(tK.cis p_171 (Option.some_ne_none _)), ok.1⟩ ?_
  have hS := hS.Ab ((za x5) + 2) s0.toNatClampNeg (nI 1)
  have hM := hM.A ((za x5) + 2) s0.toNatClampNeg ((nI 1).toInt8.toInt32)
  have ok := ok.2
  refine c_aloadQ dX3_accuse_178 rfl ?_
  refine c_aloadQ dX3_accuse_180 rfl ?_
  have p_182 := hS.m0k (tK_A t_x5) nn_171
  refine c_getS (C := RX5) (T := TX5) (N := 7) (ci := 4) (k := 0) ⟨rfl, inT5, by decide, fX3_94⟩ (by decide) (by decide) (by decide) dX3_accuse_182 (tK.cis (tK_A t_x5) nn_171) (hS.m0 (tK_A t_x5) nn_171) ?_
  refine c_iload dX3_accuse_185 rfl ?_
  refine c_iconst (v := nI 1) dX3_accuse_187 (by decide) ?_
  refine c_iadd dX3_accuse_188 ?_
  have nn_189 := ok.1.1
  refine c_V2vK (ci := 4) (rr := (RX5, TX5, 7)) (y' := mX5_writeId) dX3_accuse_189 lX3_163 kX5_writeId ⟨by decide, by decide⟩ rfl rfl (by decide) (tK.cis (tK_A t_x4) nn_189) (Nat.le_of_ble_eq_true rfl) (kc_X5_writeId hG hS ((tK_A t_x4) _ (za_of nn_189)) p_182 ok.1.2) (fun ⟨hS, hm_189⟩ => ?_)
  have hM := hM.trans hm_189
  have ok := ok.2
  exact cX.cutz (kb_X3_accuse_192 hG hR hS hM t_x0 (hm_189.tK (tK_A t_x5) (by decide)) ok hx) ⟨rfl, rfl, trivial⟩
def KF_X3_accuse_153 (N g H T : Nat) (x0 : Option Nat) (x3 : Option Nat) (x4 : Option Nat) (x5 : Option Nat) (S : cS) : cS := (if (cI S 5 (za x3)) = 0 then (KF_X3_accuse_167 N g H T x0 x4 x5 (nI 7) S) else (KF_X3_accuse_167 N g H T x0 x4 x5 (nI 39) S))
def KO_X3_accuse_153 (N g H T : Nat) (x0 : Option Nat) (x3 : Option Nat) (x4 : Option Nat) (x5 : Option Nat) (S : cS) : Prop := (¬ x3 = none) ∧ (((cI S 5 (za x3)) = 0 → KO_X3_accuse_167 N g H T x0 x4 x5 (nI 7) S) ∧ (¬ (cI S 5 (za x3)) = 0 → KO_X3_accuse_167 N g H T x0 x4 x5 (nI 39) S))
set_option maxRecDepth 100000 in
set_option maxHeartbeats 4000000 in
theorem kb_X3_accuse_153 {G : zG} {o : cO} {u g H T N : Nat} {S : cS} {S0 : cS} {Q : Option Value → cS → Prop} {X : cS → Prop} (hG : zOK G) (hR : ∀ S', St u g H T S' → Mono S0 S' → X S' → Q none S') {x0 : Option Nat} {x3 : Option Nat} {x4 : Option Nat} {x5 : Option Nat} (hS : St u g H T S) (hM : Mono S0 S) (t_x0 : tN g H x0) (t_x3 : tK S 5 x3) (t_x4 : tK S 5 x4) (t_x5 : tK S 5 x5) (ok : KO_X3_accuse_153 N g H T x0 x3 x4 x5 S) (hx : X (KF_X3_accuse_153 N g H T x0 x3 x4 x5 S)) : cX G o dX3_accuse mX3_accuse 153 [some (va_rf x0), none, none, some (va_rf x3), some (va_rf x4), some (va_rf x5), none] [] S Q := by
  unfold KO_X3_accuse_153 at ok
  unfold KF_X3_accuse_153 at hx
  refine c_aload_nQ dX3_accuse_153 rfl rfl ?_
  have nn_154 := ok.1
  refine c_getI (C := RX5) (T := TX5) (N := 7) (ci := 4) (k := 5) ⟨rfl, inT5, by decide, fX3_152⟩ (by decide) (by decide) (by decide) dX3_accuse_154 (tK.cis t_x3 ok.1) ?_
  have ok := ok.2
  refine c_if_eq (tgt := 165) dX3_accuse_157 (by decide) (fun c_157 => ?_) (fun c_157 => ?_)
  · have ok := ok.1 c_157
    have hx := xif_p c_157 hx
    refine c_bipush (v := nI 7) dX3_accuse_165 (by decide) ?_
    exact cX.cutz (kb_X3_accuse_167 hG hR hS hM t_x0 t_x4 t_x5 ok hx) ⟨rfl, rfl, rfl, trivial⟩
  · have ok := ok.2 c_157
    have hx := xif_n c_157 hx
    refine c_bipush (v := nI 39) dX3_accuse_160 (by decide) ?_
    refine c_goto (tgt := 167) dX3_accuse_162 (by decide) ?_
    exact cX.cutz (kb_X3_accuse_167 hG hR hS hM t_x0 t_x4 t_x5 ok hx) ⟨rfl, rfl, rfl, trivial⟩
def KF_X3_accuse_133 (N g H T : Nat) (x0 : Option Nat) (x3 : Option Nat) (x4 : Option Nat) (x5 : Option Nat) (s0 : Option Nat) (s1 : Int32) (s2 : Int32) (S : cS) : cS := (if (cI (csA S (za s0) s1.toNatClampNeg ((s2.toInt8.toInt32).toInt8.toInt32)) 5 (za x3)) = 0 then (KF_X3_accuse_153 N g H T x0 x3 x4 x5 (csA S (za s0) s1.toNatClampNeg ((s2.toInt8.toInt32).toInt8.toInt32))) else (KF_X3_accuse_153 N g H T x0 x3 x4 x5 (k_X5_writeId N g H T (csA S (za s0) s1.toNatClampNeg ((s2.toInt8.toInt32).toInt8.toInt32)) (za x3) (some ((za x5) + 2)) (nI 7))))
def KO_X3_accuse_133 (N g H T : Nat) (x0 : Option Nat) (x3 : Option Nat) (x4 : Option Nat) (x5 : Option Nat) (s0 : Option Nat) (s1 : Int32) (s2 : Int32) (S : cS) : Prop := (¬ s0 = none ∧ vp_in s1 (cL S (za s0))) ∧ (¬ x3 = none) ∧ (((cI (csA S (za s0) s1.toNatClampNeg ((s2.toInt8.toInt32).toInt8.toInt32)) 5 (za x3)) = 0 → KO_X3_accuse_153 N g H T x0 x3 x4 x5 (csA S (za s0) s1.toNatClampNeg ((s2.toInt8.toInt32).toInt8.toInt32))) ∧ (¬ (cI (csA S (za s0) s1.toNatClampNeg ((s2.toInt8.toInt32).toInt8.toInt32)) 5 (za x3)) = 0 → (¬ x5 = none) ∧ (p_X5_writeId N g H T (csA S (za s0) s1.toNatClampNeg ((s2.toInt8.toInt32).toInt8.toInt32)) (za x3) (some ((za x5) + 2)) (nI 7)) ∧ KO_X3_accuse_153 N g H T x0 x3 x4 x5 (k_X5_writeId N g H T (csA S (za s0) s1.toNatClampNeg ((s2.toInt8.toInt32).toInt8.toInt32)) (za x3) (some ((za x5) + 2)) (nI 7))))
set_option maxRecDepth 100000 in
set_option maxHeartbeats 4000000 in
theorem kb_X3_accuse_133 {G : zG} {o : cO} {u g H T N : Nat} {S : cS} {S0 : cS} {Q : Option Value → cS → Prop} {X : cS → Prop} (hG : zOK G) (hR : ∀ S', St u g H T S' → Mono S0 S' → X S' → Q none S') {x0 : Option Nat} {x3 : Option Nat} {x4 : Option Nat} {x5 : Option Nat} {s0 : Option Nat} {s1 : Int32} {s2 : Int32} (hS : St u g H T S) (hM : Mono S0 S) (t_x0 : tN g H x0) (t_x3 : tK S 5 x3) (t_x4 : tK S 5 x4) (t_x5 : tK S 5 x5) (t_s0 : tK S 20 s0) (ok : KO_X3_accuse_133 N g H T x0 x3 x4 x5 s0 s1 s2 S) (hx : X (KF_X3_accuse_133 N g H T x0 x3 x4 x5 s0 s1 s2 S)) : cX G o dX3_accuse mX3_accuse 133 [some (va_rf x0), none, none, some (va_rf x3), some (va_rf x4), some (va_rf x5), none] [.int s2, .int s1, va_rf s0] S Q := by
  unfold KO_X3_accuse_133 at ok
  unfold KF_X3_accuse_133 at hx
  refine c_i2b dX3_accuse_133 ?_
  refine c_bast dX3_accuse_134 ⟨(tK.cis t_s0 ok.1.1), ok.1.2⟩ ?_
  have hS := hS.Ab (za s0) s1.toNatClampNeg (s2.toInt8.toInt32)
  have hM := hM.A (za s0) s1.toNatClampNeg ((s2.toInt8.toInt32).toInt8.toInt32)
  have ok := ok.2
  refine c_aload_nQ dX3_accuse_135 rfl rfl ?_
  have nn_136 := ok.1
  refine c_getI (C := RX5) (T := TX5) (N := 7) (ci := 4) (k := 5) ⟨rfl, inT5, by decide, fX3_152⟩ (by decide) (by decide) (by decide) dX3_accuse_136 (tK.cis (tK_A t_x3) ok.1) ?_
  have ok := ok.2
  refine c_if_eq (tgt := 153) dX3_accuse_139 (by decide) (fun c_139 => ?_) (fun c_139 => ?_)
  · have ok := ok.1 c_139
    have hx := xif_p c_139 hx
    exact cX.cutz (kb_X3_accuse_153 hG hR hS hM t_x0 (tK_A t_x3) (tK_A t_x4) (tK_A t_x5) ok hx) ⟨rfl, rfl, rfl, rfl, trivial⟩
  · have ok := ok.2 c_139
    have hx := xif_n c_139 hx
    refine c_aload_nQ dX3_accuse_142 rfl rfl ?_
    refine c_aloadQ dX3_accuse_143 rfl ?_
    have nn_145 := ok.1
    have p_145 := hS.m0k (tK_A t_x5) ok.1
    refine c_getS (C := RX5) (T := TX5) (N := 7) (ci := 4) (k := 0) ⟨rfl, inT5, by decide, fX3_94⟩ (by decide) (by decide) (by decide) dX3_accuse_145 (tK.cis (tK_A t_x5) ok.1) (hS.m0 (tK_A t_x5) ok.1) ?_
    have ok := ok.2
    refine c_bipush (v := nI 7) dX3_accuse_148 (by decide) ?_
    refine c_V2vK (ci := 4) (rr := (RX5, TX5, 7)) (y' := mX5_writeId) dX3_accuse_150 lX3_163 kX5_writeId ⟨by decide, by decide⟩ rfl rfl (by decide) (tK.cis (tK_A t_x3) nn_136) (Nat.le_of_ble_eq_true rfl) (kc_X5_writeId hG hS ((tK_A t_x3) _ (za_of nn_136)) p_145 ok.1) (fun ⟨hS, hm_150⟩ => ?_)
    have hM := hM.trans hm_150
    have ok := ok.2
    exact cX.cutz (kb_X3_accuse_153 hG hR hS hM t_x0 (hm_150.tK (tK_A t_x3) (by decide)) (hm_150.tK (tK_A t_x4) (by decide)) (hm_150.tK (tK_A t_x5) (by decide)) ok hx) ⟨rfl, rfl, rfl, rfl, trivial⟩
def KF_X3_accuse_101 (N g H T : Nat) (x0 : Option Nat) (x1 : Option Nat) (x3 : Option Nat) (x4 : Option Nat) (x5 : Option Nat) (S : cS) : cS := (if (cI (csA S ((za x5) + 2) (nI 5).toNatClampNeg (((k_X5_at N g H T S (za x1) (nI 4)).toInt8.toInt32).toInt8.toInt32)) 5 (za x3)) = 0 then (KF_X3_accuse_133 N g H T x0 x3 x4 x5 (some ((za x5) + 2)) (nI 6) (nI 0) (csA S ((za x5) + 2) (nI 5).toNatClampNeg (((k_X5_at N g H T S (za x1) (nI 4)).toInt8.toInt32).toInt8.toInt32))) else (KF_X3_accuse_133 N g H T x0 x3 x4 x5 (some ((za x5) + 2)) (nI 6) (nI 1) (csA S ((za x5) + 2) (nI 5).toNatClampNeg (((k_X5_at N g H T S (za x1) (nI 4)).toInt8.toInt32).toInt8.toInt32))))
def KO_X3_accuse_101 (N g H T : Nat) (x0 : Option Nat) (x1 : Option Nat) (x3 : Option Nat) (x4 : Option Nat) (x5 : Option Nat) (S : cS) : Prop := (¬ x5 = none) ∧ (¬ x1 = none ∧ p_X5_at N g H T S (za x1) (nI 4)) ∧ (vp_in (nI 5) (cL S ((za x5) + 2))) ∧ (¬ x3 = none) ∧ (((cI (csA S ((za x5) + 2) (nI 5).toNatClampNeg (((k_X5_at N g H T S (za x1) (nI 4)).toInt8.toInt32).toInt8.toInt32)) 5 (za x3)) = 0 → KO_X3_accuse_133 N g H T x0 x3 x4 x5 (some ((za x5) + 2)) (nI 6) (nI 0) (csA S ((za x5) + 2) (nI 5).toNatClampNeg (((k_X5_at N g H T S (za x1) (nI 4)).toInt8.toInt32).toInt8.toInt32))) ∧ (¬ (cI (csA S ((za x5) + 2) (nI 5).toNatClampNeg (((k_X5_at N g H T S (za x1) (nI 4)).toInt8.toInt32).toInt8.toInt32)) 5 (za x3)) = 0 → KO_X3_accuse_133 N g H T x0 x3 x4 x5 (some ((za x5) + 2)) (nI 6) (nI 1) (csA S ((za x5) + 2) (nI 5).toNatClampNeg (((k_X5_at N g H T S (za x1) (nI 4)).toInt8.toInt32).toInt8.toInt32))))
set_option maxRecDepth 100000 in
set_option maxHeartbeats 4000000 in
theorem kb_X3_accuse_101 {G : zG} {o : cO} {u g H T N : Nat} {S : cS} {S0 : cS} {Q : Option Value → cS → Prop} {X : cS → Prop} (hG : zOK G) (hR : ∀ S', St u g H T S' → Mono S0 S' → X S' → Q none S') {x0 : Option Nat} {x1 : Option Nat} {x3 : Option Nat} {x4 : Option Nat} {x5 : Option Nat} (hS : St u g H T S) (hM : Mono S0 S) (t_x0 : tN g H x0) (t_x1 : tK S 5 x1) (t_x3 : tK S 5 x3) (t_x4 : tK S 5 x4) (t_x5 : tK S 5 x5) (ok : KO_X3_accuse_101 N g H T x0 x1 x3 x4 x5 S) (hx : X (KF_X3_accuse_101 N g H T x0 x1 x3 x4 x5 S)) : cX G o dX3_accuse mX3_accuse 101 [some (va_rf x0), some (va_rf x1), none, some (va_rf x3), some (va_rf x4), some (va_rf x5), none] [] S Q := by
  unfold KO_X3_accuse_101 at ok
  unfold KF_X3_accuse_101 at hx
  refine c_aloadQ dX3_accuse_101 rfl ?_
  have nn_103 := ok.1
  have p_103 := hS.m0k t_x5 ok.1
  refine c_getS (C := RX5) (T := TX5) (N := 7) (ci := 4) (k := 0) ⟨rfl, inT5, by decide, fX3_94⟩ (by decide) (by decide) (by decide) dX3_accuse_103 (tK.cis t_x5 ok.1) (hS.m0 t_x5 ok.1) ?_
  have ok := ok.2
  refine c_iconst (v := nI 5) dX3_accuse_106 (by decide) ?_
  refine c_aload_nQ dX3_accuse_107 rfl rfl ?_
  refine c_iconst (v := nI 4) dX3_accuse_108 (by decide) ?_
  have nn_109 := ok.1.1
  refine c_V1iE (ci := 4) (rr := (RX5, TX5, 7)) (y' := mX5_at) dX3_accuse_109 lX3_125 kX5_at ⟨by decide, by decide⟩ rfl rfl (by decide) (tK.cis t_x1 nn_109) (by simp only [List.map_cons, List.map_nil, List.sum_cons, List.sum_nil, zcat_rf, zcat_i, zcat_l, zcat_r] <;> decide) (kc_X5_at hG hS (t_x1 _ (za_of nn_109)) ok.1.2) ?_
  have ok := ok.2
  refine c_i2b dX3_accuse_112 ?_
  refine c_bast dX3_accuse_113 ⟨(tK.cis p_103 (Option.some_ne_none _)), ok.1⟩ ?_
  have hS := hS.Ab ((za x5) + 2) (nI 5).toNatClampNeg ((k_X5_at N g H T S (za x1) (nI 4)).toInt8.toInt32)
  have hM := hM.A ((za x5) + 2) (nI 5).toNatClampNeg (((k_X5_at N g H T S (za x1) (nI 4)).toInt8.toInt32).toInt8.toInt32)
  have ok := ok.2
  refine c_aloadQ dX3_accuse_114 rfl ?_
  have p_116 := hS.m0k (tK_A t_x5) nn_103
  refine c_getS (C := RX5) (T := TX5) (N := 7) (ci := 4) (k := 0) ⟨rfl, inT5, by decide, fX3_94⟩ (by decide) (by decide) (by decide) dX3_accuse_116 (tK.cis (tK_A t_x5) nn_103) (hS.m0 (tK_A t_x5) nn_103) ?_
  refine c_bipush (v := nI 6) dX3_accuse_119 (by decide) ?_
  refine c_aload_nQ dX3_accuse_121 rfl rfl ?_
  have nn_122 := ok.1
  refine c_getI (C := RX5) (T := TX5) (N := 7) (ci := 4) (k := 5) ⟨rfl, inT5, by decide, fX3_152⟩ (by decide) (by decide) (by decide) dX3_accuse_122 (tK.cis (tK_A t_x3) ok.1) ?_
  have ok := ok.2
  refine c_if_eq (tgt := 132) dX3_accuse_125 (by decide) (fun c_125 => ?_) (fun c_125 => ?_)
  · have ok := ok.1 c_125
    have hx := xif_p c_125 hx
    refine c_iconst (v := nI 0) dX3_accuse_132 (by decide) ?_
    exact cX.cutz (kb_X3_accuse_133 hG hR hS hM t_x0 (tK_A t_x3) (tK_A t_x4) (tK_A t_x5) p_116 ok hx) ⟨rfl, rfl, rfl, rfl, trivial⟩
  · have ok := ok.2 c_125
    have hx := xif_n c_125 hx
    refine c_iconst (v := nI 1) dX3_accuse_128 (by decide) ?_
    refine c_goto (tgt := 133) dX3_accuse_129 (by decide) ?_
    exact cX.cutz (kb_X3_accuse_133 hG hR hS hM t_x0 (tK_A t_x3) (tK_A t_x4) (tK_A t_x5) p_116 ok hx) ⟨rfl, rfl, rfl, rfl, trivial⟩
def KF_X3_accuse_75 (N g H T : Nat) (x0 : Option Nat) (x1 : Option Nat) (x3 : Option Nat) (x4 : Option Nat) (x5 : Option Nat) (S : cS) : cS := (KF_X3_accuse_101 N g H T x0 x1 x3 x4 x5 (k_X11_putTwo N g H T (csA S ((za x5) + 2) (nI 2).toNatClampNeg (((k_X5_kind N g H T S (za x1)).toInt8.toInt32).toInt8.toInt32)) (some ((za x5) + 2)) (nI 3) (k_X5_two N g H T (csA S ((za x5) + 2) (nI 2).toNatClampNeg (((k_X5_kind N g H T S (za x1)).toInt8.toInt32).toInt8.toInt32)) (za x1) (nI 2))))
def KO_X3_accuse_75 (N g H T : Nat) (x0 : Option Nat) (x1 : Option Nat) (x3 : Option Nat) (x4 : Option Nat) (x5 : Option Nat) (S : cS) : Prop := (¬ x5 = none) ∧ (¬ x1 = none ∧ p_X5_kind N g H T S (za x1)) ∧ (vp_in (nI 2) (cL S ((za x5) + 2))) ∧ (p_X5_two N g H T (csA S ((za x5) + 2) (nI 2).toNatClampNeg (((k_X5_kind N g H T S (za x1)).toInt8.toInt32).toInt8.toInt32)) (za x1) (nI 2)) ∧ (p_X11_putTwo N g H T (csA S ((za x5) + 2) (nI 2).toNatClampNeg (((k_X5_kind N g H T S (za x1)).toInt8.toInt32).toInt8.toInt32)) (some ((za x5) + 2)) (nI 3) (k_X5_two N g H T (csA S ((za x5) + 2) (nI 2).toNatClampNeg (((k_X5_kind N g H T S (za x1)).toInt8.toInt32).toInt8.toInt32)) (za x1) (nI 2))) ∧ KO_X3_accuse_101 N g H T x0 x1 x3 x4 x5 (k_X11_putTwo N g H T (csA S ((za x5) + 2) (nI 2).toNatClampNeg (((k_X5_kind N g H T S (za x1)).toInt8.toInt32).toInt8.toInt32)) (some ((za x5) + 2)) (nI 3) (k_X5_two N g H T (csA S ((za x5) + 2) (nI 2).toNatClampNeg (((k_X5_kind N g H T S (za x1)).toInt8.toInt32).toInt8.toInt32)) (za x1) (nI 2)))
set_option maxRecDepth 100000 in
set_option maxHeartbeats 4000000 in
theorem kb_X3_accuse_75 {G : zG} {o : cO} {u g H T N : Nat} {S : cS} {S0 : cS} {Q : Option Value → cS → Prop} {X : cS → Prop} (hG : zOK G) (hR : ∀ S', St u g H T S' → Mono S0 S' → X S' → Q none S') {x0 : Option Nat} {x1 : Option Nat} {x3 : Option Nat} {x4 : Option Nat} {x5 : Option Nat} (hS : St u g H T S) (hM : Mono S0 S) (t_x0 : tN g H x0) (t_x1 : tK S 5 x1) (t_x3 : tK S 5 x3) (t_x4 : tK S 5 x4) (t_x5 : tK S 5 x5) (ok : KO_X3_accuse_75 N g H T x0 x1 x3 x4 x5 S) (hx : X (KF_X3_accuse_75 N g H T x0 x1 x3 x4 x5 S)) : cX G o dX3_accuse mX3_accuse 75 [some (va_rf x0), some (va_rf x1), none, some (va_rf x3), some (va_rf x4), some (va_rf x5), none] [] S Q := by
  unfold KO_X3_accuse_75 at ok
  unfold KF_X3_accuse_75 at hx
  refine c_aloadQ dX3_accuse_75 rfl ?_
  have nn_77 := ok.1
  have p_77 := hS.m0k t_x5 ok.1
  refine c_getS (C := RX5) (T := TX5) (N := 7) (ci := 4) (k := 0) ⟨rfl, inT5, by decide, fX3_94⟩ (by decide) (by decide) (by decide) dX3_accuse_77 (tK.cis t_x5 ok.1) (hS.m0 t_x5 ok.1) ?_
  have ok := ok.2
  refine c_iconst (v := nI 2) dX3_accuse_80 (by decide) ?_
  refine c_aload_nQ dX3_accuse_81 rfl rfl ?_
  have nn_82 := ok.1.1
  refine c_V0iE (ci := 4) (rr := (RX5, TX5, 7)) (y' := mX5_kind) dX3_accuse_82 lX3_9 kX5_kind ⟨by decide, by decide⟩ rfl rfl (by decide) (tK.cis t_x1 nn_82) (by simp only [List.map_cons, List.map_nil, List.sum_cons, List.sum_nil, zcat_rf, zcat_i, zcat_l, zcat_r] <;> decide) (kc_X5_kind hG hS (t_x1 _ (za_of nn_82)) ok.1.2) ?_
  have ok := ok.2
  refine c_i2b dX3_accuse_85 ?_
  refine c_bast dX3_accuse_86 ⟨(tK.cis p_77 (Option.some_ne_none _)), ok.1⟩ ?_
  have hS := hS.Ab ((za x5) + 2) (nI 2).toNatClampNeg ((k_X5_kind N g H T S (za x1)).toInt8.toInt32)
  have hM := hM.A ((za x5) + 2) (nI 2).toNatClampNeg (((k_X5_kind N g H T S (za x1)).toInt8.toInt32).toInt8.toInt32)
  have ok := ok.2
  refine c_aloadQ dX3_accuse_87 rfl ?_
  have p_89 := hS.m0k (tK_A t_x5) nn_77
  refine c_getS (C := RX5) (T := TX5) (N := 7) (ci := 4) (k := 0) ⟨rfl, inT5, by decide, fX3_94⟩ (by decide) (by decide) (by decide) dX3_accuse_89 (tK.cis (tK_A t_x5) nn_77) (hS.m0 (tK_A t_x5) nn_77) ?_
  refine c_iconst (v := nI 3) dX3_accuse_92 (by decide) ?_
  refine c_aload_nQ dX3_accuse_93 rfl rfl ?_
  refine c_iconst (v := nI 2) dX3_accuse_94 (by decide) ?_
  refine c_V1iE (ci := 4) (rr := (RX5, TX5, 7)) (y' := mX5_two) dX3_accuse_95 lX3_50 kX5_two ⟨by decide, by decide⟩ rfl rfl (by decide) (tK.cis (tK_A t_x1) nn_82) (by simp only [List.map_cons, List.map_nil, List.sum_cons, List.sum_nil, zcat_rf, zcat_i, zcat_l, zcat_r] <;> decide) (kc_X5_two hG hS ((tK_A t_x1) _ (za_of nn_82)) ok.1) ?_
  have ok := ok.2
  refine c_SN3vK (y' := mX11_putTwo) dX3_accuse_98 lX3_159 kX11_putTwo ⟨by decide, by decide⟩ (Nat.le_of_ble_eq_true rfl) (kc_X11_putTwo hG hS p_89 ok.1) (fun ⟨hS, hm_98⟩ => ?_)
  have hM := hM.trans hm_98
  have ok := ok.2
  exact cX.cutz (kb_X3_accuse_101 hG hR hS hM t_x0 (hm_98.tK (tK_A t_x1) (by decide)) (hm_98.tK (tK_A t_x3) (by decide)) (hm_98.tK (tK_A t_x4) (by decide)) (hm_98.tK (tK_A t_x5) (by decide)) ok hx) ⟨rfl, rfl, rfl, rfl, rfl, trivial⟩
def KF_X3_accuse_52 (N g H T : Nat) (x0 : Option Nat) (x1 : Option Nat) (x3 : Option Nat) (x4 : Option Nat) (s0 : Option Nat) (S : cS) : cS := (KF_X3_accuse_75 N g H T x0 x1 x3 x4 s0 (csA (csA S ((za s0) + 2) (nI 0).toNatClampNeg ((nI 6).toInt8.toInt32)) ((za s0) + 2) (nI 1).toNatClampNeg (((k_X5_signer N g H T (csA S ((za s0) + 2) (nI 0).toNatClampNeg ((nI 6).toInt8.toInt32)) (za x1)).toInt8.toInt32).toInt8.toInt32)))
def KO_X3_accuse_52 (N g H T : Nat) (x0 : Option Nat) (x1 : Option Nat) (x3 : Option Nat) (x4 : Option Nat) (s0 : Option Nat) (S : cS) : Prop := (¬ s0 = none) ∧ (vp_in (nI 0) (cL S ((za s0) + 2))) ∧ (¬ x1 = none ∧ p_X5_signer N g H T (csA S ((za s0) + 2) (nI 0).toNatClampNeg ((nI 6).toInt8.toInt32)) (za x1)) ∧ (vp_in (nI 1) (cL (csA S ((za s0) + 2) (nI 0).toNatClampNeg ((nI 6).toInt8.toInt32)) ((za s0) + 2))) ∧ KO_X3_accuse_75 N g H T x0 x1 x3 x4 s0 (csA (csA S ((za s0) + 2) (nI 0).toNatClampNeg ((nI 6).toInt8.toInt32)) ((za s0) + 2) (nI 1).toNatClampNeg (((k_X5_signer N g H T (csA S ((za s0) + 2) (nI 0).toNatClampNeg ((nI 6).toInt8.toInt32)) (za x1)).toInt8.toInt32).toInt8.toInt32))
set_option maxRecDepth 100000 in
set_option maxHeartbeats 4000000 in
theorem kb_X3_accuse_52 {G : zG} {o : cO} {u g H T N : Nat} {S : cS} {S0 : cS} {Q : Option Value → cS → Prop} {X : cS → Prop} (hG : zOK G) (hR : ∀ S', St u g H T S' → Mono S0 S' → X S' → Q none S') {x0 : Option Nat} {x1 : Option Nat} {x3 : Option Nat} {x4 : Option Nat} {s0 : Option Nat} (hS : St u g H T S) (hM : Mono S0 S) (t_x0 : tN g H x0) (t_x1 : tK S 5 x1) (t_x3 : tK S 5 x3) (t_x4 : tK S 5 x4) (t_s0 : tK S 5 s0) (ok : KO_X3_accuse_52 N g H T x0 x1 x3 x4 s0 S) (hx : X (KF_X3_accuse_52 N g H T x0 x1 x3 x4 s0 S)) : cX G o dX3_accuse mX3_accuse 52 [some (va_rf x0), some (va_rf x1), none, some (va_rf x3), some (va_rf x4), none, none] [va_rf s0] S Q := by
  unfold KO_X3_accuse_52 at ok
  unfold KF_X3_accuse_52 at hx
  refine c_astore_5Q dX3_accuse_52 (by decide) (by simp [zok, zg, zcat_rf]) ?_
  refine c_aloadQ dX3_accuse_54 rfl ?_
  have nn_56 := ok.1
  have p_56 := hS.m0k t_s0 ok.1
  refine c_getS (C := RX5) (T := TX5) (N := 7) (ci := 4) (k := 0) ⟨rfl, inT5, by decide, fX3_94⟩ (by decide) (by decide) (by decide) dX3_accuse_56 (tK.cis t_s0 ok.1) (hS.m0 t_s0 ok.1) ?_
  have ok := ok.2
  refine c_iconst (v := nI 0) dX3_accuse_59 (by decide) ?_
  refine c_bipush (v := nI 6) dX3_accuse_60 (by decide) ?_
  refine c_bast dX3_accuse_62 ⟨(tK.cis p_56 (Option.some_ne_none _)), ok.1⟩ ?_
  have hS := hS.Ab ((za s0) + 2) (nI 0).toNatClampNeg (nI 6)
  have hM := hM.A ((za s0) + 2) (nI 0).toNatClampNeg ((nI 6).toInt8.toInt32)
  have ok := ok.2
  refine c_aloadQ dX3_accuse_63 rfl ?_
  have p_65 := hS.m0k (tK_A t_s0) nn_56
  refine c_getS (C := RX5) (T := TX5) (N := 7) (ci := 4) (k := 0) ⟨rfl, inT5, by decide, fX3_94⟩ (by decide) (by decide) (by decide) dX3_accuse_65 (tK.cis (tK_A t_s0) nn_56) (hS.m0 (tK_A t_s0) nn_56) ?_
  refine c_iconst (v := nI 1) dX3_accuse_68 (by decide) ?_
  refine c_aload_nQ dX3_accuse_69 rfl rfl ?_
  have nn_70 := ok.1.1
  refine c_V0iE (ci := 4) (rr := (RX5, TX5, 7)) (y' := mX5_signer) dX3_accuse_70 lX3_41 kX5_signer ⟨by decide, by decide⟩ rfl rfl (by decide) (tK.cis (tK_A t_x1) nn_70) (by simp only [List.map_cons, List.map_nil, List.sum_cons, List.sum_nil, zcat_rf, zcat_i, zcat_l, zcat_r] <;> decide) (kc_X5_signer hG hS ((tK_A t_x1) _ (za_of nn_70)) ok.1.2) ?_
  have ok := ok.2
  refine c_i2b dX3_accuse_73 ?_
  refine c_bast dX3_accuse_74 ⟨(tK.cis p_65 (Option.some_ne_none _)), ok.1⟩ ?_
  have hS := hS.Ab ((za s0) + 2) (nI 1).toNatClampNeg ((k_X5_signer N g H T (csA S ((za s0) + 2) (nI 0).toNatClampNeg ((nI 6).toInt8.toInt32)) (za x1)).toInt8.toInt32)
  have hM := hM.A ((za s0) + 2) (nI 1).toNatClampNeg (((k_X5_signer N g H T (csA S ((za s0) + 2) (nI 0).toNatClampNeg ((nI 6).toInt8.toInt32)) (za x1)).toInt8.toInt32).toInt8.toInt32)
  have ok := ok.2
  exact cX.cutz (kb_X3_accuse_75 hG hR hS hM t_x0 (tK_A (tK_A t_x1)) (tK_A (tK_A t_x3)) (tK_A (tK_A t_x4)) (tK_A (tK_A t_s0)) ok hx) ⟨rfl, rfl, rfl, rfl, rfl, trivial⟩
def KF_X3_accuse_48 (N g H T : Nat) (x0 : Option Nat) (x1 : Option Nat) (x3 : Option Nat) (x4 : Option Nat) (s0 : Nat) (s1 : Int32) (s2 : Int32) (S : cS) : cS := (KF_X3_accuse_52 N g H T x0 x1 x3 x4 ((k_X9_fresh N g H T S s0 (s1 + s2)).1) (k_X9_fresh N g H T S s0 (s1 + s2)).2)
def KO_X3_accuse_48 (N g H T : Nat) (x0 : Option Nat) (x1 : Option Nat) (x3 : Option Nat) (x4 : Option Nat) (s0 : Nat) (s1 : Int32) (s2 : Int32) (S : cS) : Prop := (p_X9_fresh N g H T S s0 (s1 + s2)) ∧ KO_X3_accuse_52 N g H T x0 x1 x3 x4 ((k_X9_fresh N g H T S s0 (s1 + s2)).1) (k_X9_fresh N g H T S s0 (s1 + s2)).2
set_option maxRecDepth 100000 in
set_option maxHeartbeats 4000000 in
theorem kb_X3_accuse_48 {G : zG} {o : cO} {u g H T N : Nat} {S : cS} {S0 : cS} {Q : Option Value → cS → Prop} {X : cS → Prop} (hG : zOK G) (hR : ∀ S', St u g H T S' → Mono S0 S' → X S' → Q none S') {x0 : Option Nat} {x1 : Option Nat} {x3 : Option Nat} {x4 : Option Nat} {s0 : Nat} {s1 : Int32} {s2 : Int32} (hS : St u g H T S) (hM : Mono S0 S) (t_x0 : tN g H x0) (t_x1 : tK S 5 x1) (t_x3 : tK S 5 x3) (t_x4 : tK S 5 x4) (t_s0 : isO g H 7 s0) (ok : KO_X3_accuse_48 N g H T x0 x1 x3 x4 s0 s1 s2 S) (hx : X (KF_X3_accuse_48 N g H T x0 x1 x3 x4 s0 s1 s2 S)) : cX G o dX3_accuse mX3_accuse 48 [some (va_rf x0), some (va_rf x1), none, some (va_rf x3), some (va_rf x4), none, none] [.int s2, .int s1, va_rf (some s0)] S Q := by
  unfold KO_X3_accuse_48 at ok
  unfold KF_X3_accuse_48 at hx
  refine c_iadd dX3_accuse_48 ?_
  refine c_V1qK (ci := 7) (rr := (RX9, TX9, 13)) (y' := mX9_fresh) dX3_accuse_49 lX3_156 kX9_fresh ⟨by decide, by decide⟩ rfl rfl (by decide) (hS.k t_s0) (Nat.le_of_ble_eq_true rfl) (kc_X9_fresh hG hS t_s0 ok.1) (fun ⟨hS, hm_49, tv_49⟩ => ?_)
  have hM := hM.trans hm_49
  have ok := ok.2
  exact cX.cutz (kb_X3_accuse_52 hG hR hS hM t_x0 (hm_49.tK t_x1 (by decide)) (hm_49.tK t_x3 (by decide)) (hm_49.tK t_x4 (by decide)) tv_49 ok hx) ⟨rfl, rfl, rfl, rfl, trivial⟩
def KF_X3_accuse_24 (N g H T : Nat) (x0 : Option Nat) (x1 : Option Nat) (x3 : Option Nat) (s0 : Option Nat) (S : cS) : cS := (if (cI S 5 (za x3)) = 0 then (KF_X3_accuse_48 N g H T x0 x1 x3 s0 (g + 11) (nI 1) (nI 39) S) else (KF_X3_accuse_48 N g H T x0 x1 x3 s0 (g + 11) (nI 1) (nI 71) S))
def KO_X3_accuse_24 (N g H T : Nat) (x0 : Option Nat) (x1 : Option Nat) (x3 : Option Nat) (s0 : Option Nat) (S : cS) : Prop := (¬ x0 = none) ∧ (¬ x3 = none) ∧ (((cI S 5 (za x3)) = 0 → KO_X3_accuse_48 N g H T x0 x1 x3 s0 (g + 11) (nI 1) (nI 39) S) ∧ (¬ (cI S 5 (za x3)) = 0 → KO_X3_accuse_48 N g H T x0 x1 x3 s0 (g + 11) (nI 1) (nI 71) S))
set_option maxRecDepth 100000 in
set_option maxHeartbeats 4000000 in
theorem kb_X3_accuse_24 {G : zG} {o : cO} {u g H T N : Nat} {S : cS} {S0 : cS} {Q : Option Value → cS → Prop} {X : cS → Prop} (hG : zOK G) (hR : ∀ S', St u g H T S' → Mono S0 S' → X S' → Q none S') {x0 : Option Nat} {x1 : Option Nat} {x3 : Option Nat} {s0 : Option Nat} (hS : St u g H T S) (hM : Mono S0 S) (t_x0 : tN g H x0) (t_x1 : tK S 5 x1) (t_x3 : tK S 5 x3) (t_s0 : tK S 5 s0) (ok : KO_X3_accuse_24 N g H T x0 x1 x3 s0 S) (hx : X (KF_X3_accuse_24 N g H T x0 x1 x3 s0 S)) : cX G o dX3_accuse mX3_accuse 24 [some (va_rf x0), some (va_rf x1), none, some (va_rf x3), none, none, none] [va_rf s0] S Q := by
  unfold KO_X3_accuse_24 at ok
  unfold KF_X3_accuse_24 at hx
  refine c_astore_4Q dX3_accuse_24 (by decide) (by simp [zok, zg, zcat_rf]) ?_
  refine c_aload_nQ dX3_accuse_26 rfl rfl ?_
  have nn_27 := ok.1
  refine c_getS (C := RX6) (T := TX6) (N := 19) (ci := 5) (k := 0) ⟨rfl, inT6, by decide, fX3_33⟩ (by decide) (by decide) (by decide) dX3_accuse_27 (hS.kN t_x0 ok.1) (hS.r (c := 5) (tN.o t_x0 ok.1) rfl (by omega)) ?_
  have ok := ok.2
  refine c_getS (C := RX10) (T := TX10) (N := 12) (ci := 8) (k := 6) ⟨rfl, inT10, by decide, fX3_73⟩ (by decide) (by decide) (by decide) dX3_accuse_30 (hS.k (o50 (tN.o t_x0 nn_27))) (hS.r (c := 8) (o50 (tN.o t_x0 nn_27)) rfl (by omega)) ?_
  refine c_iconst (v := nI 1) dX3_accuse_33 (by decide) ?_
  refine c_aload_nQ dX3_accuse_34 rfl rfl ?_
  have nn_35 := ok.1
  refine c_getI (C := RX5) (T := TX5) (N := 7) (ci := 4) (k := 5) ⟨rfl, inT5, by decide, fX3_152⟩ (by decide) (by decide) (by decide) dX3_accuse_35 (tK.cis t_x3 ok.1) ?_
  have ok := ok.2
  refine c_if_eq (tgt := 46) dX3_accuse_38 (by decide) (fun c_38 => ?_) (fun c_38 => ?_)
  · have ok := ok.1 c_38
    have hx := xif_p c_38 hx
    refine c_bipush (v := nI 39) dX3_accuse_46 (by decide) ?_
    exact cX.cutz (kb_X3_accuse_48 hG hR hS hM t_x0 t_x1 t_x3 t_s0 (o86 (o50 (tN.o t_x0 nn_27))) ok hx) ⟨rfl, rfl, rfl, rfl, trivial⟩
  · have ok := ok.2 c_38
    have hx := xif_n c_38 hx
    refine c_bipush (v := nI 71) dX3_accuse_41 (by decide) ?_
    refine c_goto (tgt := 48) dX3_accuse_43 (by decide) ?_
    exact cX.cutz (kb_X3_accuse_48 hG hR hS hM t_x0 t_x1 t_x3 t_s0 (o86 (o50 (tN.o t_x0 nn_27))) ok hx) ⟨rfl, rfl, rfl, rfl, trivial⟩
def KF_X3_accuse_13 (N g H T : Nat) (x0 : Option Nat) (x1 : Option Nat) (x2 : Option Nat) (s0 : Option Nat) (S : cS) : cS := (if s0 = x1 then (KF_X3_accuse_24 N g H T x0 x1 s0 x2 S) else (KF_X3_accuse_24 N g H T x0 x1 s0 x1 S))
def KO_X3_accuse_13 (N g H T : Nat) (x0 : Option Nat) (x1 : Option Nat) (x2 : Option Nat) (s0 : Option Nat) (S : cS) : Prop := ((s0 = x1 → KO_X3_accuse_24 N g H T x0 x1 s0 x2 S) ∧ (¬ s0 = x1 → KO_X3_accuse_24 N g H T x0 x1 s0 x1 S))
set_option maxRecDepth 100000 in
set_option maxHeartbeats 4000000 in
theorem kb_X3_accuse_13 {G : zG} {o : cO} {u g H T N : Nat} {S : cS} {S0 : cS} {Q : Option Value → cS → Prop} {X : cS → Prop} (hG : zOK G) (hR : ∀ S', St u g H T S' → Mono S0 S' → X S' → Q none S') {x0 : Option Nat} {x1 : Option Nat} {x2 : Option Nat} {s0 : Option Nat} (hS : St u g H T S) (hM : Mono S0 S) (t_x0 : tN g H x0) (t_x1 : tK S 5 x1) (t_x2 : tK S 5 x2) (t_s0 : tK S 5 s0) (ok : KO_X3_accuse_13 N g H T x0 x1 x2 s0 S) (hx : X (KF_X3_accuse_13 N g H T x0 x1 x2 s0 S)) : cX G o dX3_accuse mX3_accuse 13 [some (va_rf x0), some (va_rf x1), some (va_rf x2), none, none, none, none] [va_rf s0] S Q := by
  unfold KO_X3_accuse_13 at ok
  unfold KF_X3_accuse_13 at hx
  refine c_astore_3Q dX3_accuse_13 (by decide) (by simp [zok, zg, zcat_rf]) ?_
  refine c_aload_nQ dX3_accuse_14 rfl rfl ?_
  refine c_aload_nQ dX3_accuse_15 rfl rfl ?_
  refine c_acmp_ne (tgt := 23) dX3_accuse_16 (by decide) (fun c_16 => ?_) (fun c_16 => ?_)
  · have ok := ok.2 c_16
    have hx := xif_n c_16 hx
    refine c_aload_nQ dX3_accuse_23 rfl rfl ?_
    exact cX.cutz (kb_X3_accuse_24 hG hR hS hM t_x0 t_x1 t_s0 t_x1 ok hx) ⟨rfl, rfl, rfl, trivial⟩
  · have ok := ok.1 c_16
    have hx := xif_p c_16 hx
    refine c_aload_nQ dX3_accuse_19 rfl rfl ?_
    refine c_goto (tgt := 24) dX3_accuse_20 (by decide) ?_
    exact cX.cutz (kb_X3_accuse_24 hG hR hS hM t_x0 t_x1 t_s0 t_x2 ok hx) ⟨rfl, rfl, rfl, trivial⟩
def KF_X3_accuse_0 (N g H T : Nat) (x0 : Option Nat) (x1 : Option Nat) (x2 : Option Nat) (S : cS) : cS := (if (k_X5_endsBelow N g H T S (za x1) x2) = 0 then (KF_X3_accuse_13 N g H T x0 x1 x2 x2 S) else (KF_X3_accuse_13 N g H T x0 x1 x2 x1 S))
def KO_X3_accuse_0 (N g H T : Nat) (x0 : Option Nat) (x1 : Option Nat) (x2 : Option Nat) (S : cS) : Prop := (¬ x1 = none ∧ p_X5_endsBelow N g H T S (za x1) x2) ∧ (((k_X5_endsBelow N g H T S (za x1) x2) = 0 → KO_X3_accuse_13 N g H T x0 x1 x2 x2 S) ∧ (¬ (k_X5_endsBelow N g H T S (za x1) x2) = 0 → KO_X3_accuse_13 N g H T x0 x1 x2 x1 S))
set_option maxRecDepth 100000 in
set_option maxHeartbeats 4000000 in
theorem kb_X3_accuse_0 {G : zG} {o : cO} {u g H T N : Nat} {S : cS} {S0 : cS} {Q : Option Value → cS → Prop} {X : cS → Prop} (hG : zOK G) (hR : ∀ S', St u g H T S' → Mono S0 S' → X S' → Q none S') {x0 : Option Nat} {x1 : Option Nat} {x2 : Option Nat} (hS : St u g H T S) (hM : Mono S0 S) (t_x0 : tN g H x0) (t_x1 : tK S 5 x1) (t_x2 : tK S 5 x2) (ok : KO_X3_accuse_0 N g H T x0 x1 x2 S) (hx : X (KF_X3_accuse_0 N g H T x0 x1 x2 S)) : cX G o dX3_accuse mX3_accuse 0 [some (va_rf x0), some (va_rf x1), some (va_rf x2), none, none, none, none] [] S Q := by
  unfold KO_X3_accuse_0 at ok
  unfold KF_X3_accuse_0 at hx
  refine c_aload_nQ dX3_accuse_0 rfl rfl ?_
  refine c_aload_nQ dX3_accuse_1 rfl rfl ?_
  have nn_2 := ok.1.1
  refine c_V1iE (ci := 4) (rr := (RX5, TX5, 7)) (y' := mX5_endsBelow) dX3_accuse_2 lX3_149 kX5_endsBelow ⟨by decide, by decide⟩ rfl rfl (by decide) (tK.cis t_x1 nn_2) (Nat.le_of_ble_eq_true rfl) (kc_X5_endsBelow hG hS (t_x1 _ (za_of nn_2)) t_x2 ok.1.2) ?_
  have ok := ok.2
  refine c_if_eq (tgt := 12) dX3_accuse_5 (by decide) (fun c_5 => ?_) (fun c_5 => ?_)
  · have ok := ok.1 c_5
    have hx := xif_p c_5 hx
    refine c_aload_nQ dX3_accuse_12 rfl rfl ?_
    exact cX.cutz (kb_X3_accuse_13 hG hR hS hM t_x0 t_x1 t_x2 t_x2 ok hx) ⟨rfl, rfl, rfl, trivial⟩
  · have ok := ok.2 c_5
    have hx := xif_n c_5 hx
    refine c_aload_nQ dX3_accuse_8 rfl rfl ?_
    refine c_goto (tgt := 13) dX3_accuse_9 (by decide) ?_
    exact cX.cutz (kb_X3_accuse_13 hG hR hS hM t_x0 t_x1 t_x2 t_x1 ok hx) ⟨rfl, rfl, rfl, trivial⟩
def k_X3_accuse (N g H T : Nat) (S : cS) (x0 : Option Nat) (x1 : Option Nat) (x2 : Option Nat) : cS := KF_X3_accuse_0 N g H T x0 x1 x2 S
def p_X3_accuse (N g H T : Nat) (S : cS) (x0 : Option Nat) (x1 : Option Nat) (x2 : Option Nat) : Prop := KO_X3_accuse_0 N g H T x0 x1 x2 S
set_option maxRecDepth 100000 in
set_option maxHeartbeats 4000000 in
theorem kc_X3_accuse {G : zG} {o : cO} {u g H T N : Nat} {S : cS} (hG : zOK G) {x0 : Option Nat} {x1 : Option Nat} {x2 : Option Nat} (hS : St u g H T S) (t_x0 : tN g H x0) (t_x1 : tK S 5 x1) (t_x2 : tK S 5 x2) (ok : p_X3_accuse N g H T S x0 x1 x2) : cCv G o dX3_accuse mX3_accuse [va_rf x0, va_rf x1, va_rf x2] S (fun S' => S' = k_X3_accuse N g H T S x0 x1 x2 ∧ St u g H T S' ∧ Mono S S') := by
  refine cC.ofX rfl (by cases x0 <;> cases x1 <;> cases x2 <;> exact Nat.le_of_ble_eq_true rfl) ?_
  rw [show zargs mX3_accuse.2.2.1 [va_rf x0, va_rf x1, va_rf x2] = [some (va_rf x0), some (va_rf x1), some (va_rf x2), none, none, none, none] from by cases x0 <;> cases x1 <;> cases x2 <;> rfl]
  exact cX.cutz (kb_X3_accuse_0 (X := fun F => F = k_X3_accuse N g H T S x0 x1 x2) hG (fun S' h1 h2 h => ⟨rfl, h, h1, h2⟩) hS Mono.rfl' t_x0 t_x1 t_x2 ok rfl) ⟨rfl, rfl, rfl, trivial⟩
/-! X3_takeSigned -/
def KF_X3_takeSigned_102 (N g H T : Nat)  (S : cS) : Int32 × cS := ((nI 0), S)
def KO_X3_takeSigned_102 (N g H T : Nat)  (S : cS) : Prop := True
set_option maxRecDepth 100000 in
set_option maxHeartbeats 4000000 in
theorem kb_X3_takeSigned_102 {G : zG} {o : cO} {u g H T N : Nat} {S : cS} {S0 : cS} {Q : Option Value → cS → Prop} {X : Int32 × cS → Prop} (hG : zOK G) (hR : ∀ v S', St u g H T S' → Mono S0 S' → X (v, S') → Q (some (.int v)) S') (hS : St u g H T S) (hM : Mono S0 S) (ok : KO_X3_takeSigned_102 N g H T S) (hx : X (KF_X3_takeSigned_102 N g H T S)) : cX G o dX3_takeSigned mX3_takeSigned 102 [none, none, none, none] [] S Q := by
  unfold KO_X3_takeSigned_102 at ok
  unfold KF_X3_takeSigned_102 at hx
  refine c_iconst (v := nI 0) dX3_takeSigned_102 (by decide) ?_
  exact c_ireturn rfl rfl dX3_takeSigned_103 (hR _ _ hS hM hx)
def KF_X3_takeSigned_72 (N g H T : Nat)  (S : cS) : Int32 × cS := ((nI 1), S)
def KO_X3_takeSigned_72 (N g H T : Nat)  (S : cS) : Prop := True
set_option maxRecDepth 100000 in
set_option maxHeartbeats 4000000 in
theorem kb_X3_takeSigned_72 {G : zG} {o : cO} {u g H T N : Nat} {S : cS} {S0 : cS} {Q : Option Value → cS → Prop} {X : Int32 × cS → Prop} (hG : zOK G) (hR : ∀ v S', St u g H T S' → Mono S0 S' → X (v, S') → Q (some (.int v)) S') (hS : St u g H T S) (hM : Mono S0 S) (ok : KO_X3_takeSigned_72 N g H T S) (hx : X (KF_X3_takeSigned_72 N g H T S)) : cX G o dX3_takeSigned mX3_takeSigned 72 [none, none, none, none] [] S Q := by
  unfold KO_X3_takeSigned_72 at ok
  unfold KF_X3_takeSigned_72 at hx
  refine c_iconst (v := nI 1) dX3_takeSigned_72 (by decide) ?_
  exact c_ireturn rfl rfl dX3_takeSigned_73 (hR _ _ hS hM hx)
def KF_X3_takeSigned_55 (N g H T : Nat) (x0 : Option Nat) (x1 : Int32) (x2 : Option Nat) (S : cS) : Int32 × cS := (KF_X3_takeSigned_72 N g H T (k_X10_spread N g H T S (g + 8) (cI S 1 (za x0)) x2 x1 (k_X5_signer N g H T S (za x2))))
def KO_X3_takeSigned_55 (N g H T : Nat) (x0 : Option Nat) (x1 : Int32) (x2 : Option Nat) (S : cS) : Prop := (¬ x0 = none) ∧ (¬ x2 = none ∧ p_X5_signer N g H T S (za x2)) ∧ (p_X10_spread N g H T S (g + 8) (cI S 1 (za x0)) x2 x1 (k_X5_signer N g H T S (za x2))) ∧ KO_X3_takeSigned_72 N g H T (k_X10_spread N g H T S (g + 8) (cI S 1 (za x0)) x2 x1 (k_X5_signer N g H T S (za x2)))
set_option maxRecDepth 100000 in
set_option maxHeartbeats 4000000 in
theorem kb_X3_takeSigned_55 {G : zG} {o : cO} {u g H T N : Nat} {S : cS} {S0 : cS} {Q : Option Value → cS → Prop} {X : Int32 × cS → Prop} (hG : zOK G) (hR : ∀ v S', St u g H T S' → Mono S0 S' → X (v, S') → Q (some (.int v)) S') {x0 : Option Nat} {x1 : Int32} {x2 : Option Nat} (hS : St u g H T S) (hM : Mono S0 S) (t_x0 : tN g H x0) (t_x2 : tK S 5 x2) (ok : KO_X3_takeSigned_55 N g H T x0 x1 x2 S) (hx : X (KF_X3_takeSigned_55 N g H T x0 x1 x2 S)) : cX G o dX3_takeSigned mX3_takeSigned 55 [some (va_rf x0), some (.int x1), some (va_rf x2), none] [] S Q := by
  unfold KO_X3_takeSigned_55 at ok
  unfold KF_X3_takeSigned_55 at hx
  refine c_aload_nQ dX3_takeSigned_55 rfl rfl ?_
  have nn_56 := ok.1
  refine c_getS (C := RX6) (T := TX6) (N := 19) (ci := 5) (k := 0) ⟨rfl, inT6, by decide, fX3_33⟩ (by decide) (by decide) (by decide) dX3_takeSigned_56 (hS.kN t_x0 ok.1) (hS.r (c := 5) (tN.o t_x0 ok.1) rfl (by omega)) ?_
  have ok := ok.2
  refine c_aload_nQ dX3_takeSigned_59 rfl rfl ?_
  refine c_getI (C := RX6) (T := TX6) (N := 19) (ci := 5) (k := 1) ⟨rfl, inT6, by decide, fX3_37⟩ (by decide) (by decide) (by decide) dX3_takeSigned_60 (hS.kN t_x0 nn_56) ?_
  refine c_aload_nQ dX3_takeSigned_63 rfl rfl ?_
  refine c_iload_n dX3_takeSigned_64 rfl rfl ?_
  refine c_aload_nQ dX3_takeSigned_65 rfl rfl ?_
  have nn_66 := ok.1.1
  refine c_V0iE (ci := 4) (rr := (RX5, TX5, 7)) (y' := mX5_signer) dX3_takeSigned_66 lX3_41 kX5_signer ⟨by decide, by decide⟩ rfl rfl (by decide) (tK.cis t_x2 nn_66) (by simp only [List.map_cons, List.map_nil, List.sum_cons, List.sum_nil, zcat_rf, zcat_i, zcat_l, zcat_r] <;> decide) (kc_X5_signer hG hS (t_x2 _ (za_of nn_66)) ok.1.2) ?_
  have ok := ok.2
  refine c_V4vK (ci := 8) (rr := (RX10, TX10, 12)) (y' := mX10_spread) dX3_takeSigned_69 lX3_44 kX10_spread ⟨by decide, by decide⟩ rfl rfl (by decide) (hS.k (o50 (tN.o t_x0 nn_56))) (Nat.le_of_ble_eq_true rfl) (kc_X10_spread hG hS (o50 (tN.o t_x0 nn_56)) t_x2 ok.1) (fun ⟨hS, hm_69⟩ => ?_)
  have hM := hM.trans hm_69
  have ok := ok.2
  exact cX.cutz (kb_X3_takeSigned_72 hG hR hS hM  ok hx) trivial
def KF_X3_takeSigned_34 (N g H T : Nat) (x0 : Option Nat) (x1 : Int32) (x2 : Option Nat) (S : cS) : Int32 × cS := (if (k_X8_like N g H T S ((za x0) + 14) x2) = none then (KF_X3_takeSigned_55 N g H T x0 x1 x2 (k_X8_hold N g H T S ((za x0) + 14) x2)) else (if (k_X5_endsLike N g H T S (za (k_X8_like N g H T S ((za x0) + 14) x2)) x2) = 0 then (if (k_X8_proofOf N g H T S ((za x0) + 14) (k_X5_signer N g H T S (za x2))) = none then (KF_X3_takeSigned_102 N g H T (k_X3_accuse N g H T S x0 (k_X8_like N g H T S ((za x0) + 14) x2) x2)) else (KF_X3_takeSigned_102 N g H T S)) else (KF_X3_takeSigned_102 N g H T S)))
def KO_X3_takeSigned_34 (N g H T : Nat) (x0 : Option Nat) (x1 : Int32) (x2 : Option Nat) (S : cS) : Prop := (¬ x0 = none) ∧ (p_X8_like N g H T S ((za x0) + 14) x2) ∧ (((k_X8_like N g H T S ((za x0) + 14) x2) = none → (p_X8_hold N g H T S ((za x0) + 14) x2) ∧ KO_X3_takeSigned_55 N g H T x0 x1 x2 (k_X8_hold N g H T S ((za x0) + 14) x2)) ∧ (¬ (k_X8_like N g H T S ((za x0) + 14) x2) = none → (p_X5_endsLike N g H T S (za (k_X8_like N g H T S ((za x0) + 14) x2)) x2) ∧ (((k_X5_endsLike N g H T S (za (k_X8_like N g H T S ((za x0) + 14) x2)) x2) = 0 → (¬ x2 = none ∧ p_X5_signer N g H T S (za x2)) ∧ (p_X8_proofOf N g H T S ((za x0) + 14) (k_X5_signer N g H T S (za x2))) ∧ (((k_X8_proofOf N g H T S ((za x0) + 14) (k_X5_signer N g H T S (za x2))) = none → (p_X3_accuse N g H T S x0 (k_X8_like N g H T S ((za x0) + 14) x2) x2) ∧ KO_X3_takeSigned_102 N g H T (k_X3_accuse N g H T S x0 (k_X8_like N g H T S ((za x0) + 14) x2) x2)) ∧ (¬ (k_X8_proofOf N g H T S ((za x0) + 14) (k_X5_signer N g H T S (za x2))) = none → KO_X3_takeSigned_102 N g H T S))) ∧ (¬ (k_X5_endsLike N g H T S (za (k_X8_like N g H T S ((za x0) + 14) x2)) x2) = 0 → KO_X3_takeSigned_102 N g H T S))))
set_option maxRecDepth 100000 in
set_option maxHeartbeats 4000000 in
theorem kb_X3_takeSigned_34 {G : zG} {o : cO} {u g H T N : Nat} {S : cS} {S0 : cS} {Q : Option Value → cS → Prop} {X : Int32 × cS → Prop} (hG : zOK G) (hR : ∀ v S', St u g H T S' → Mono S0 S' → X (v, S') → Q (some (.int v)) S') {x0 : Option Nat} {x1 : Int32} {x2 : Option Nat} (hS : St u g H T S) (hM : Mono S0 S) (t_x0 : tN g H x0) (t_x2 : tK S 5 x2) (ok : KO_X3_takeSigned_34 N g H T x0 x1 x2 S) (hx : X (KF_X3_takeSigned_34 N g H T x0 x1 x2 S)) : cX G o dX3_takeSigned mX3_takeSigned 34 [some (va_rf x0), some (.int x1), some (va_rf x2), none] [] S Q := by
  unfold KO_X3_takeSigned_34 at ok
  unfold KF_X3_takeSigned_34 at hx
  refine c_aload_nQ dX3_takeSigned_34 rfl rfl ?_
  have nn_35 := ok.1
  refine c_getS (C := RX6) (T := TX6) (N := 19) (ci := 5) (k := 3) ⟨rfl, inT6, by decide, fX3_21⟩ (by decide) (by decide) (by decide) dX3_takeSigned_35 (hS.kN t_x0 ok.1) (hS.r (c := 5) (tN.o t_x0 ok.1) rfl (by omega)) ?_
  have ok := ok.2
  refine c_aload_nQ dX3_takeSigned_38 rfl rfl ?_
  refine c_V1qK (ci := 6) (rr := (RX8, TX8, 14)) (y' := mX8_like) dX3_takeSigned_39 lX3_132 kX8_like ⟨by decide, by decide⟩ rfl rfl (by decide) (hS.k (o53 (tN.o t_x0 nn_35))) (Nat.le_of_ble_eq_true rfl) (kc_X8_like hG hS (o53 (tN.o t_x0 nn_35)) t_x2 ok.1) (fun tv_39 => ?_)
  have ok := ok.2
  refine c_astore_3Q dX3_takeSigned_42 (by decide) (by simp [zok, zg, zcat_rf]) ?_
  refine c_aload_nQ dX3_takeSigned_43 rfl rfl ?_
  refine c_ifnonnullI (tgt := 74) dX3_takeSigned_44 (by decide) (fun c_44 => ?_) (fun c_44 => ?_)
  · have ok := ok.2 c_44
    have hx := xif_n c_44 hx
    refine c_aload_nQ dX3_takeSigned_74 rfl rfl ?_
    refine c_aload_nQ dX3_takeSigned_75 rfl rfl ?_
    refine c_V1iE (ci := 4) (rr := (RX5, TX5, 7)) (y' := mX5_endsLike) dX3_takeSigned_76 lX3_139 kX5_endsLike ⟨by decide, by decide⟩ rfl rfl (by decide) (tK.cis tv_39 c_44) (Nat.le_of_ble_eq_true rfl) (kc_X5_endsLike hG hS (tv_39 _ (za_of c_44)) t_x2 ok.1) ?_
    have ok := ok.2
    refine c_if_ne (tgt := 102) dX3_takeSigned_79 (by decide) (fun c_79 => ?_) (fun c_79 => ?_)
    · have ok := ok.2 c_79
      have hx := xif_n c_79 hx
      exact cX.cutz (kb_X3_takeSigned_102 hG hR hS hM  ok hx) trivial
    · have ok := ok.1 c_79
      have hx := xif_p c_79 hx
      refine c_aload_nQ dX3_takeSigned_82 rfl rfl ?_
      refine c_getS (C := RX6) (T := TX6) (N := 19) (ci := 5) (k := 3) ⟨rfl, inT6, by decide, fX3_21⟩ (by decide) (by decide) (by decide) dX3_takeSigned_83 (hS.kN t_x0 nn_35) (hS.r (c := 5) (tN.o t_x0 nn_35) rfl (by omega)) ?_
      refine c_aload_nQ dX3_takeSigned_86 rfl rfl ?_
      have nn_87 := ok.1.1
      refine c_V0iE (ci := 4) (rr := (RX5, TX5, 7)) (y' := mX5_signer) dX3_takeSigned_87 lX3_41 kX5_signer ⟨by decide, by decide⟩ rfl rfl (by decide) (tK.cis t_x2 nn_87) (by simp only [List.map_cons, List.map_nil, List.sum_cons, List.sum_nil, zcat_rf, zcat_i, zcat_l, zcat_r] <;> decide) (kc_X5_signer hG hS (t_x2 _ (za_of nn_87)) ok.1.2) ?_
      have ok := ok.2
      refine c_V1qK (ci := 6) (rr := (RX8, TX8, 14)) (y' := mX8_proofOf) dX3_takeSigned_90 lX3_142 kX8_proofOf ⟨by decide, by decide⟩ rfl rfl (by decide) (hS.k (o53 (tN.o t_x0 nn_35))) (Nat.le_of_ble_eq_true rfl) (kc_X8_proofOf hG hS (o53 (tN.o t_x0 nn_35)) ok.1) (fun tv_90 => ?_)
      have ok := ok.2
      refine c_ifnonnullI (tgt := 102) dX3_takeSigned_93 (by decide) (fun c_93 => ?_) (fun c_93 => ?_)
      · have ok := ok.2 c_93
        have hx := xif_n c_93 hx
        exact cX.cutz (kb_X3_takeSigned_102 hG hR hS hM  ok hx) trivial
      · have ok := ok.1 c_93
        have hx := xif_p c_93 hx
        refine c_aload_nQ dX3_takeSigned_96 rfl rfl ?_
        refine c_aload_nQ dX3_takeSigned_97 rfl rfl ?_
        refine c_aload_nQ dX3_takeSigned_98 rfl rfl ?_
        refine c_S3vK (y' := mX3_accuse) dX3_takeSigned_99 lX3_145 kX3_accuse ⟨by decide, by decide⟩ (Nat.le_of_ble_eq_true rfl) (kc_X3_accuse hG hS t_x0 tv_39 t_x2 ok.1) (fun ⟨hS, hm_99⟩ => ?_)
        have hM := hM.trans hm_99
        have ok := ok.2
        exact cX.cutz (kb_X3_takeSigned_102 hG hR hS hM  ok hx) trivial
  · have ok := ok.1 c_44
    have hx := xif_p c_44 hx
    refine c_aload_nQ dX3_takeSigned_47 rfl rfl ?_
    refine c_getS (C := RX6) (T := TX6) (N := 19) (ci := 5) (k := 3) ⟨rfl, inT6, by decide, fX3_21⟩ (by decide) (by decide) (by decide) dX3_takeSigned_48 (hS.kN t_x0 nn_35) (hS.r (c := 5) (tN.o t_x0 nn_35) rfl (by omega)) ?_
    refine c_aload_nQ dX3_takeSigned_51 rfl rfl ?_
    refine c_V1vK (ci := 6) (rr := (RX8, TX8, 14)) (y' := mX8_hold) dX3_takeSigned_52 lX3_136 kX8_hold ⟨by decide, by decide⟩ rfl rfl (by decide) (hS.k (o53 (tN.o t_x0 nn_35))) (Nat.le_of_ble_eq_true rfl) (kc_X8_hold hG hS (o53 (tN.o t_x0 nn_35)) t_x2 ok.1) (fun ⟨hS, hm_52⟩ => ?_)
    have hM := hM.trans hm_52
    have ok := ok.2
    exact cX.cutz (kb_X3_takeSigned_55 hG hR hS hM t_x0 (hm_52.tK t_x2 (by decide)) ok hx) ⟨rfl, rfl, rfl, trivial⟩
def KF_X3_takeSigned_0 (N g H T : Nat) (x0 : Option Nat) (x1 : Int32) (x2 : Option Nat) (S : cS) : Int32 × cS := (if (k_X5_kind N g H T S (za x2)) = (nI 1) then (if (k_X10_proposer N g H T S (g + 8) (k_X5_two N g H T S (za x2) (nI 2)) (k_X5_at N g H T S (za x2) (nI 4))) = (k_X5_signer N g H T S (za x2)) then (KF_X3_takeSigned_34 N g H T x0 x1 x2 S) else ((nI 0), S)) else (KF_X3_takeSigned_34 N g H T x0 x1 x2 S))
def KO_X3_takeSigned_0 (N g H T : Nat) (x0 : Option Nat) (x1 : Int32) (x2 : Option Nat) (S : cS) : Prop := (¬ x2 = none ∧ p_X5_kind N g H T S (za x2)) ∧ (((k_X5_kind N g H T S (za x2)) = (nI 1) → (¬ x0 = none) ∧ (p_X5_two N g H T S (za x2) (nI 2)) ∧ (p_X5_at N g H T S (za x2) (nI 4)) ∧ (p_X10_proposer N g H T S (g + 8) (k_X5_two N g H T S (za x2) (nI 2)) (k_X5_at N g H T S (za x2) (nI 4))) ∧ (p_X5_signer N g H T S (za x2)) ∧ (((k_X10_proposer N g H T S (g + 8) (k_X5_two N g H T S (za x2) (nI 2)) (k_X5_at N g H T S (za x2) (nI 4))) = (k_X5_signer N g H T S (za x2)) → KO_X3_takeSigned_34 N g H T x0 x1 x2 S) ∧ (¬ (k_X10_proposer N g H T S (g + 8) (k_X5_two N g H T S (za x2) (nI 2)) (k_X5_at N g H T S (za x2) (nI 4))) = (k_X5_signer N g H T S (za x2)) → True))) ∧ (¬ (k_X5_kind N g H T S (za x2)) = (nI 1) → KO_X3_takeSigned_34 N g H T x0 x1 x2 S))
set_option maxRecDepth 100000 in
set_option maxHeartbeats 4000000 in
theorem kb_X3_takeSigned_0 {G : zG} {o : cO} {u g H T N : Nat} {S : cS} {S0 : cS} {Q : Option Value → cS → Prop} {X : Int32 × cS → Prop} (hG : zOK G) (hR : ∀ v S', St u g H T S' → Mono S0 S' → X (v, S') → Q (some (.int v)) S') {x0 : Option Nat} {x1 : Int32} {x2 : Option Nat} (hS : St u g H T S) (hM : Mono S0 S) (t_x0 : tN g H x0) (t_x2 : tK S 5 x2) (ok : KO_X3_takeSigned_0 N g H T x0 x1 x2 S) (hx : X (KF_X3_takeSigned_0 N g H T x0 x1 x2 S)) : cX G o dX3_takeSigned mX3_takeSigned 0 [some (va_rf x0), some (.int x1), some (va_rf x2), none] [] S Q := by
  unfold KO_X3_takeSigned_0 at ok
  unfold KF_X3_takeSigned_0 at hx
  refine c_aload_nQ dX3_takeSigned_0 rfl rfl ?_
  have nn_1 := ok.1.1
  refine c_V0iE (ci := 4) (rr := (RX5, TX5, 7)) (y' := mX5_kind) dX3_takeSigned_1 lX3_9 kX5_kind ⟨by decide, by decide⟩ rfl rfl (by decide) (tK.cis t_x2 nn_1) (Nat.le_of_ble_eq_true rfl) (kc_X5_kind hG hS (t_x2 _ (za_of nn_1)) ok.1.2) ?_
  have ok := ok.2
  refine c_iconst (v := nI 1) dX3_takeSigned_4 (by decide) ?_
  refine c_icmp_ne (tgt := 34) dX3_takeSigned_5 (by decide) (fun c_5 => ?_) (fun c_5 => ?_)
  · have ok := ok.2 c_5
    have hx := xif_n c_5 hx
    exact cX.cutz (kb_X3_takeSigned_34 hG hR hS hM t_x0 t_x2 ok hx) ⟨rfl, rfl, rfl, trivial⟩
  · have ok := ok.1 c_5
    have hx := xif_p c_5 hx
    refine c_aload_nQ dX3_takeSigned_8 rfl rfl ?_
    have nn_9 := ok.1
    refine c_getS (C := RX6) (T := TX6) (N := 19) (ci := 5) (k := 0) ⟨rfl, inT6, by decide, fX3_33⟩ (by decide) (by decide) (by decide) dX3_takeSigned_9 (hS.kN t_x0 ok.1) (hS.r (c := 5) (tN.o t_x0 ok.1) rfl (by omega)) ?_
    have ok := ok.2
    refine c_aload_nQ dX3_takeSigned_12 rfl rfl ?_
    refine c_iconst (v := nI 2) dX3_takeSigned_13 (by decide) ?_
    refine c_V1iE (ci := 4) (rr := (RX5, TX5, 7)) (y' := mX5_two) dX3_takeSigned_14 lX3_50 kX5_two ⟨by decide, by decide⟩ rfl rfl (by decide) (tK.cis t_x2 nn_1) (by simp only [List.map_cons, List.map_nil, List.sum_cons, List.sum_nil, zcat_rf, zcat_i, zcat_l, zcat_r] <;> decide) (kc_X5_two hG hS (t_x2 _ (za_of nn_1)) ok.1) ?_
    have ok := ok.2
    refine c_aload_nQ dX3_takeSigned_17 rfl rfl ?_
    refine c_iconst (v := nI 4) dX3_takeSigned_18 (by decide) ?_
    refine c_V1iE (ci := 4) (rr := (RX5, TX5, 7)) (y' := mX5_at) dX3_takeSigned_19 lX3_125 kX5_at ⟨by decide, by decide⟩ rfl rfl (by decide) (tK.cis t_x2 nn_1) (by simp only [List.map_cons, List.map_nil, List.sum_cons, List.sum_nil, zcat_rf, zcat_i, zcat_l, zcat_r] <;> decide) (kc_X5_at hG hS (t_x2 _ (za_of nn_1)) ok.1) ?_
    have ok := ok.2
    refine c_V2iE (ci := 8) (rr := (RX10, TX10, 12)) (y' := mX10_proposer) dX3_takeSigned_22 lX3_128 kX10_proposer ⟨by decide, by decide⟩ rfl rfl (by decide) (hS.k (o50 (tN.o t_x0 nn_9))) (Nat.le_of_ble_eq_true rfl) (kc_X10_proposer hG hS (o50 (tN.o t_x0 nn_9)) ok.1) ?_
    have ok := ok.2
    refine c_aload_nQ dX3_takeSigned_25 rfl rfl ?_
    refine c_V0iE (ci := 4) (rr := (RX5, TX5, 7)) (y' := mX5_signer) dX3_takeSigned_26 lX3_41 kX5_signer ⟨by decide, by decide⟩ rfl rfl (by decide) (tK.cis t_x2 nn_1) (Nat.le_of_ble_eq_true rfl) (kc_X5_signer hG hS (t_x2 _ (za_of nn_1)) ok.1) ?_
    have ok := ok.2
    refine c_icmp_eq (tgt := 34) dX3_takeSigned_29 (by decide) (fun c_29 => ?_) (fun c_29 => ?_)
    · have ok := ok.1 c_29
      have hx := xif_p c_29 hx
      exact cX.cutz (kb_X3_takeSigned_34 hG hR hS hM t_x0 t_x2 ok hx) ⟨rfl, rfl, rfl, trivial⟩
    · have ok := ok.2 c_29
      have hx := xif_n c_29 hx
      refine c_iconst (v := nI 0) dX3_takeSigned_32 (by decide) ?_
      exact c_ireturn rfl rfl dX3_takeSigned_33 (hR _ _ hS hM hx)
def k_X3_takeSigned (N g H T : Nat) (S : cS) (x0 : Option Nat) (x1 : Int32) (x2 : Option Nat) : Int32 × cS := KF_X3_takeSigned_0 N g H T x0 x1 x2 S
def p_X3_takeSigned (N g H T : Nat) (S : cS) (x0 : Option Nat) (x1 : Int32) (x2 : Option Nat) : Prop := KO_X3_takeSigned_0 N g H T x0 x1 x2 S
set_option maxRecDepth 100000 in
set_option maxHeartbeats 4000000 in
theorem kc_X3_takeSigned {G : zG} {o : cO} {u g H T N : Nat} {S : cS} (hG : zOK G) {x0 : Option Nat} {x1 : Int32} {x2 : Option Nat} (hS : St u g H T S) (t_x0 : tN g H x0) (t_x2 : tK S 5 x2) (ok : p_X3_takeSigned N g H T S x0 x1 x2) : cCi G o dX3_takeSigned mX3_takeSigned [va_rf x0, .int x1, va_rf x2] S (fun v S' => (v = (k_X3_takeSigned N g H T S x0 x1 x2).1 ∧ S' = (k_X3_takeSigned N g H T S x0 x1 x2).2) ∧ St u g H T S' ∧ Mono S S') := by
  refine cC.ofX rfl (by cases x0 <;> cases x2 <;> exact Nat.le_of_ble_eq_true rfl) ?_
  rw [show zargs mX3_takeSigned.2.2.1 [va_rf x0, .int x1, va_rf x2] = [some (va_rf x0), some (.int x1), some (va_rf x2), none] from by cases x0 <;> cases x2 <;> rfl]
  exact cX.cutz (kb_X3_takeSigned_0 (X := fun F => F = k_X3_takeSigned N g H T S x0 x1 x2) hG (fun v S' h1 h2 h => ⟨v, rfl, ⟨by rw [← h], by rw [← h]⟩, h1, h2⟩) hS Mono.rfl' t_x0 t_x2 ok rfl) ⟨rfl, rfl, rfl, trivial⟩

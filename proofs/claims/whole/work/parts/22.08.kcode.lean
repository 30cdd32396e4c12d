/-! X5_two -/
def KF_X5_two_44 (N g H T : Nat) (s0 : Int32) (S : cS) : Int32 := s0
def KO_X5_two_44 (N g H T : Nat) (s0 : Int32) (S : cS) : Prop := True
set_option maxRecDepth 100000 in
set_option maxHeartbeats 4000000 in
theorem kb_X5_two_44 {G : zG} {o : cO} {u g H T N : Nat} {S : cS} {Q : Option Value → cS → Prop} {X : Int32 → Prop} (hG : zOK G) (hR : ∀ v, X v → Q (some (.int v)) S) {s0 : Int32} (hS : St u g H T S) (ok : KO_X5_two_44 N g H T s0 S) (hx : X (KF_X5_two_44 N g H T s0 S)) : cX G o dX5_two mX5_two 44 [none, none] [.int s0] S Q := by
  unfold KO_X5_two_44 at ok
  unfold KF_X5_two_44 at hx
  exact c_ireturn rfl rfl dX5_two_44 (hR _ hx)
def KF_X5_two_43 (N g H T : Nat)  (S : cS) : Int32 := (KF_X5_two_44 N g H T (nI 0) S)
def KO_X5_two_43 (N g H T : Nat)  (S : cS) : Prop := KO_X5_two_44 N g H T (nI 0) S
set_option maxRecDepth 100000 in
set_option maxHeartbeats 4000000 in
theorem kb_X5_two_43 {G : zG} {o : cO} {u g H T N : Nat} {S : cS} {Q : Option Value → cS → Prop} {X : Int32 → Prop} (hG : zOK G) (hR : ∀ v, X v → Q (some (.int v)) S) (hS : St u g H T S) (ok : KO_X5_two_43 N g H T S) (hx : X (KF_X5_two_43 N g H T S)) : cX G o dX5_two mX5_two 43 [none, none] [] S Q := by
  unfold KO_X5_two_43 at ok
  unfold KF_X5_two_43 at hx
  refine c_iconst (v := nI 0) dX5_two_43 (by decide) ?_
  exact cX.cutz (kb_X5_two_44 hG hR hS  ok hx) trivial
def KF_X5_two_0 (N g H T : Nat) (x0 : Option Nat) (x1 : Int32) (S : cS) : Int32 := (if x1 < 0 then (KF_X5_two_43 N g H T S) else (if ((cI S 2 (za x0)) - (nI 1)) ≤ x1 then (KF_X5_two_43 N g H T S) else (KF_X5_two_44 N g H T ((((cA S ((za x0) + 2) x1.toNatClampNeg) &&& (nI 255)) <<< ((nI 8) &&& 31)) ||| ((cA S ((za x0) + 2) (x1 + (nI 1)).toNatClampNeg) &&& (nI 255))) S)))
def KO_X5_two_0 (N g H T : Nat) (x0 : Option Nat) (x1 : Int32) (S : cS) : Prop := ((x1 < 0 → KO_X5_two_43 N g H T S) ∧ (¬ x1 < 0 → (¬ x0 = none) ∧ ((((cI S 2 (za x0)) - (nI 1)) ≤ x1 → KO_X5_two_43 N g H T S) ∧ (¬ ((cI S 2 (za x0)) - (nI 1)) ≤ x1 → (vp_in x1 (cL S ((za x0) + 2))) ∧ (vp_in (x1 + (nI 1)) (cL S ((za x0) + 2))) ∧ KO_X5_two_44 N g H T ((((cA S ((za x0) + 2) x1.toNatClampNeg) &&& (nI 255)) <<< ((nI 8) &&& 31)) ||| ((cA S ((za x0) + 2) (x1 + (nI 1)).toNatClampNeg) &&& (nI 255))) S))))
set_option maxRecDepth 100000 in
set_option maxHeartbeats 4000000 in
theorem kb_X5_two_0 {G : zG} {o : cO} {u g H T N : Nat} {S : cS} {Q : Option Value → cS → Prop} {X : Int32 → Prop} (hG : zOK G) (hR : ∀ v, X v → Q (some (.int v)) S) {x0 : Option Nat} {x1 : Int32} (hS : St u g H T S) (t_x0 : tK S 5 x0) (ok : KO_X5_two_0 N g H T x0 x1 S) (hx : X (KF_X5_two_0 N g H T x0 x1 S)) : cX G o dX5_two mX5_two 0 [some (va_rf x0), some (.int x1)] [] S Q := by
  unfold KO_X5_two_0 at ok
  unfold KF_X5_two_0 at hx
  refine c_iload_n dX5_two_0 rfl rfl ?_
  refine c_if_lt (tgt := 43) dX5_two_1 (by decide) (fun c_1 => ?_) (fun c_1 => ?_)
  · have ok := ok.1 c_1
    have hx := xif_p c_1 hx
    exact cX.cutz (kb_X5_two_43 hG hR hS  ok hx) trivial
  · have ok := ok.2 c_1
    have hx := xif_n c_1 hx
    refine c_iload_n dX5_two_4 rfl rfl ?_
    refine c_aload_nQ dX5_two_5 rfl rfl ?_
    have nn_6 := ok.1
    refine c_getI (C := RX5) (T := TX5) (N := 7) (ci := 4) (k := 2) ⟨rfl, inT5, by decide, fX5_19⟩ (by decide) (by decide) (by decide) dX5_two_6 (tK.cis t_x0 ok.1) ?_
    have ok := ok.2
    refine c_iconst (v := nI 1) dX5_two_9 (by decide) ?_
    refine c_isub dX5_two_10 ?_
    refine c_icmp_ge (tgt := 43) dX5_two_11 (by decide) (fun c_11 => ?_) (fun c_11 => ?_)
    · have ok := ok.1 c_11
      have hx := xif_p c_11 hx
      exact cX.cutz (kb_X5_two_43 hG hR hS  ok hx) trivial
    · have ok := ok.2 c_11
      have hx := xif_n c_11 hx
      refine c_aload_nQ dX5_two_14 rfl rfl ?_
      have p_15 := hS.m0k t_x0 nn_6
      refine c_getS (C := RX5) (T := TX5) (N := 7) (ci := 4) (k := 0) ⟨rfl, inT5, by decide, fX5_15⟩ (by decide) (by decide) (by decide) dX5_two_15 (tK.cis t_x0 nn_6) (hS.m0 t_x0 nn_6) ?_
      refine c_iload_n dX5_two_18 rfl rfl ?_
      refine c_bald dX5_two_19 ⟨(tK.cis p_15 (Option.some_ne_none _)), ok.1⟩ ?_
      have ok := ok.2
      refine c_sipush (v := nI 255) dX5_two_20 (by decide) ?_
      refine c_iand dX5_two_23 ?_
      refine c_bipush (v := nI 8) dX5_two_24 (by decide) ?_
      refine c_ishl dX5_two_26 ?_
      refine c_aload_nQ dX5_two_27 rfl rfl ?_
      have p_28 := hS.m0k t_x0 nn_6
      refine c_getS (C := RX5) (T := TX5) (N := 7) (ci := 4) (k := 0) ⟨rfl, inT5, by decide, fX5_15⟩ (by decide) (by decide) (by decide) dX5_two_28 (tK.cis t_x0 nn_6) (hS.m0 t_x0 nn_6) ?_
      refine c_iload_n dX5_two_31 rfl rfl ?_
      refine c_iconst (v := nI 1) dX5_two_32 (by decide) ?_
      refine c_iadd dX5_two_33 ?_
      refine c_bald dX5_two_34 ⟨(tK.cis p_28 (Option.some_ne_none _)), ok.1⟩ ?_
      have ok := ok.2
      refine c_sipush (v := nI 255) dX5_two_35 (by decide) ?_
      refine c_iand dX5_two_38 ?_
      refine c_ior dX5_two_39 ?_
      refine c_goto (tgt := 44) dX5_two_40 (by decide) ?_
      exact cX.cutz (kb_X5_two_44 hG hR hS  ok hx) trivial
def k_X5_two (N g H T : Nat) (S : cS) (a0 : Nat) (x1 : Int32) : Int32 := KF_X5_two_0 N g H T (some a0) x1 S
def p_X5_two (N g H T : Nat) (S : cS) (a0 : Nat) (x1 : Int32) : Prop := KO_X5_two_0 N g H T (some a0) x1 S
set_option maxRecDepth 100000 in
set_option maxHeartbeats 4000000 in
theorem kc_X5_two {G : zG} {o : cO} {u g H T N : Nat} {S : cS} (hG : zOK G) {a0 : Nat} {x1 : Int32} (hS : St u g H T S) (t_x0 : cK S a0 = 5) (ok : p_X5_two N g H T S a0 x1) : cCi G o dX5_two mX5_two [.ref a0, .int x1] S (fun v S' => (v = k_X5_two N g H T S a0 x1 ∧ S' = S)) := by
  refine cC.ofX rfl (by exact Nat.le_of_ble_eq_true rfl) ?_
  show cX G o dX5_two mX5_two 0 [some (va_rf (some a0)), some (.int x1)] [] S _
  exact cX.cutz (kb_X5_two_0 (X := fun F => F = k_X5_two N g H T S a0 x1) hG (fun v h => ⟨v, rfl, h, rfl⟩) hS (tK_some t_x0) ok rfl) ⟨rfl, rfl, trivial⟩
/-! X9_drop -/
def KF_X9_drop_63 (N g H T : Nat)  (S : cS) : cS := S
def KO_X9_drop_63 (N g H T : Nat)  (S : cS) : Prop := True
set_option maxRecDepth 100000 in
set_option maxHeartbeats 4000000 in
theorem kb_X9_drop_63 {G : zG} {o : cO} {u g H T N : Nat} {S : cS} {S0 : cS} {Q : Option Value → cS → Prop} {X : cS → Prop} (hG : zOK G) (hR : ∀ S', St u g H T S' → Mono S0 S' → X S' → Q none S') (hS : St u g H T S) (hM : Mono S0 S) (ok : KO_X9_drop_63 N g H T S) (hx : X (KF_X9_drop_63 N g H T S)) : cX G o dX9_drop mX9_drop 63 [none, none] [] S Q := by
  unfold KO_X9_drop_63 at ok
  unfold KF_X9_drop_63 at hx
  exact c_return rfl dX9_drop_63 (hR _ hS hM hx)
def KF_X9_drop_58 (N g H T : Nat) (x0 : Nat) (x1 : Option Nat) (S : cS) : cS := (KF_X9_drop_63 N g H T (csR S 8 x0 x1))
def KO_X9_drop_58 (N g H T : Nat) (x0 : Nat) (x1 : Option Nat) (S : cS) : Prop := KO_X9_drop_63 N g H T (csR S 8 x0 x1)
set_option maxRecDepth 100000 in
set_option maxHeartbeats 4000000 in
theorem kb_X9_drop_58 {G : zG} {o : cO} {u g H T N : Nat} {S : cS} {S0 : cS} {Q : Option Value → cS → Prop} {X : cS → Prop} (hG : zOK G) (hR : ∀ S', St u g H T S' → Mono S0 S' → X S' → Q none S') {x0 : Nat} {x1 : Option Nat} (hS : St u g H T S) (hM : Mono S0 S) (t_x0 : isO g H 7 x0) (t_x1 : tK S 5 x1) (ok : KO_X9_drop_58 N g H T x0 x1 S) (hx : X (KF_X9_drop_58 N g H T x0 x1 S)) : cX G o dX9_drop mX9_drop 58 [some (va_rf (some x0)), some (va_rf x1)] [] S Q := by
  unfold KO_X9_drop_58 at ok
  unfold KF_X9_drop_58 at hx
  refine c_aload_nQ dX9_drop_58 rfl rfl ?_
  refine c_aload_nQ dX9_drop_59 rfl rfl ?_
  refine c_putR (C := RX9) (T := TX9) (N := 13) (ci := 7) (k := 8) ⟨rfl, inT9, by decide, fX9_64⟩ ftT9 rfl (by decide) (by decide) (by decide) (fun v => by cases v <;> rfl) (fun v => by cases v <;> rfl) dX9_drop_60 (hS.k t_x0) ?_
  have hS := hS.R7 t_x0 (k := 8) (by decide) t_x1
  have hM := hM.R 8 x0 x1
  exact cX.cutz (kb_X9_drop_63 hG hR hS hM  ok hx) trivial
def KF_X9_drop_42 (N g H T : Nat) (x0 : Nat) (x1 : Option Nat) (S : cS) : cS := (KF_X9_drop_63 N g H T (csR S 7 x0 x1))
def KO_X9_drop_42 (N g H T : Nat) (x0 : Nat) (x1 : Option Nat) (S : cS) : Prop := KO_X9_drop_63 N g H T (csR S 7 x0 x1)
set_option maxRecDepth 100000 in
set_option maxHeartbeats 4000000 in
theorem kb_X9_drop_42 {G : zG} {o : cO} {u g H T N : Nat} {S : cS} {S0 : cS} {Q : Option Value → cS → Prop} {X : cS → Prop} (hG : zOK G) (hR : ∀ S', St u g H T S' → Mono S0 S' → X S' → Q none S') {x0 : Nat} {x1 : Option Nat} (hS : St u g H T S) (hM : Mono S0 S) (t_x0 : isO g H 7 x0) (t_x1 : tK S 5 x1) (ok : KO_X9_drop_42 N g H T x0 x1 S) (hx : X (KF_X9_drop_42 N g H T x0 x1 S)) : cX G o dX9_drop mX9_drop 42 [some (va_rf (some x0)), some (va_rf x1)] [] S Q := by
  unfold KO_X9_drop_42 at ok
  unfold KF_X9_drop_42 at hx
  refine c_aload_nQ dX9_drop_42 rfl rfl ?_
  refine c_aload_nQ dX9_drop_43 rfl rfl ?_
  refine c_putR (C := RX9) (T := TX9) (N := 13) (ci := 7) (k := 7) ⟨rfl, inT9, by decide, fX9_60⟩ ftT9 rfl (by decide) (by decide) (by decide) (fun v => by cases v <;> rfl) (fun v => by cases v <;> rfl) dX9_drop_44 (hS.k t_x0) ?_
  have hS := hS.R7 t_x0 (k := 7) (by decide) t_x1
  have hM := hM.R 7 x0 x1
  refine c_goto (tgt := 63) dX9_drop_47 (by decide) ?_
  exact cX.cutz (kb_X9_drop_63 hG hR hS hM  ok hx) trivial
def KF_X9_drop_0 (N g H T : Nat) (x0 : Nat) (x1 : Option Nat) (S : cS) : cS := (if x1 = none then S else (if (cI (csI S 3 (za x1) ((cI S 3 (za x1)) - (nI 1))) 3 (za x1)) ≤ 0 then (if (nI (cL (csI S 3 (za x1) ((cI S 3 (za x1)) - (nI 1))) ((za x1) + 2))) = (nI 128) then (KF_X9_drop_42 N g H T x0 x1 (csR (csI S 3 (za x1) ((cI S 3 (za x1)) - (nI 1))) 6 (za x1) (cR (csI S 3 (za x1) ((cI S 3 (za x1)) - (nI 1))) 7 x0))) else (KF_X9_drop_58 N g H T x0 x1 (csR (csI S 3 (za x1) ((cI S 3 (za x1)) - (nI 1))) 6 (za x1) (cR (csI S 3 (za x1) ((cI S 3 (za x1)) - (nI 1))) 8 x0)))) else (csI S 3 (za x1) ((cI S 3 (za x1)) - (nI 1)))))
def KO_X9_drop_0 (N g H T : Nat) (x0 : Nat) (x1 : Option Nat) (S : cS) : Prop := ((x1 = none → True) ∧ (¬ x1 = none → (((cI (csI S 3 (za x1) ((cI S 3 (za x1)) - (nI 1))) 3 (za x1)) ≤ 0 → (((nI (cL (csI S 3 (za x1) ((cI S 3 (za x1)) - (nI 1))) ((za x1) + 2))) = (nI 128) → KO_X9_drop_42 N g H T x0 x1 (csR (csI S 3 (za x1) ((cI S 3 (za x1)) - (nI 1))) 6 (za x1) (cR (csI S 3 (za x1) ((cI S 3 (za x1)) - (nI 1))) 7 x0))) ∧ (¬ (nI (cL (csI S 3 (za x1) ((cI S 3 (za x1)) - (nI 1))) ((za x1) + 2))) = (nI 128) → KO_X9_drop_58 N g H T x0 x1 (csR (csI S 3 (za x1) ((cI S 3 (za x1)) - (nI 1))) 6 (za x1) (cR (csI S 3 (za x1) ((cI S 3 (za x1)) - (nI 1))) 8 x0))))) ∧ (¬ (cI (csI S 3 (za x1) ((cI S 3 (za x1)) - (nI 1))) 3 (za x1)) ≤ 0 → True))))
set_option maxRecDepth 100000 in
set_option maxHeartbeats 4000000 in
theorem kb_X9_drop_0 {G : zG} {o : cO} {u g H T N : Nat} {S : cS} {S0 : cS} {Q : Option Value → cS → Prop} {X : cS → Prop} (hG : zOK G) (hR : ∀ S', St u g H T S' → Mono S0 S' → X S' → Q none S') {x0 : Nat} {x1 : Option Nat} (hS : St u g H T S) (hM : Mono S0 S) (t_x0 : isO g H 7 x0) (t_x1 : tK S 5 x1) (ok : KO_X9_drop_0 N g H T x0 x1 S) (hx : X (KF_X9_drop_0 N g H T x0 x1 S)) : cX G o dX9_drop mX9_drop 0 [some (va_rf (some x0)), some (va_rf x1)] [] S Q := by
  unfold KO_X9_drop_0 at ok
  unfold KF_X9_drop_0 at hx
  refine c_aload_nQ dX9_drop_0 rfl rfl ?_
  refine c_ifnonnullI (tgt := 5) dX9_drop_1 (by decide) (fun c_1 => ?_) (fun c_1 => ?_)
  · have ok := ok.2 c_1
    have hx := xif_n c_1 hx
    refine c_aload_nQ dX9_drop_5 rfl rfl ?_
    refine c_dup dX9_drop_6 (zcat_rf _) ?_
    refine c_getI (C := RX5) (T := TX5) (N := 7) (ci := 4) (k := 3) ⟨rfl, inT5, by decide, fX9_57⟩ (by decide) (by decide) (by decide) dX9_drop_7 (tK.cis t_x1 c_1) ?_
    refine c_iconst (v := nI 1) dX9_drop_10 (by decide) ?_
    refine c_isub dX9_drop_11 ?_
    refine c_putI (C := RX5) (T := TX5) (N := 7) (ci := 4) (k := 3) ⟨rfl, inT5, by decide, fX9_57⟩ ftT5 rfl (by decide) (by decide) (by decide) rfl rfl dX9_drop_12 (tK.cis t_x1 c_1) ?_
    have hS := hS.I 3 (za x1) ((cI S 3 (za x1)) - (nI 1))
    have hM := hM.I 3 (za x1) ((cI S 3 (za x1)) - (nI 1))
    refine c_aload_nQ dX9_drop_15 rfl rfl ?_
    refine c_getI (C := RX5) (T := TX5) (N := 7) (ci := 4) (k := 3) ⟨rfl, inT5, by decide, fX9_57⟩ (by decide) (by decide) (by decide) dX9_drop_16 (tK.cis (tK_I t_x1) c_1) ?_
    refine c_if_le (tgt := 23) dX9_drop_19 (by decide) (fun c_19 => ?_) (fun c_19 => ?_)
    · have ok := ok.1 c_19
      have hx := xif_p c_19 hx
      refine c_aload_nQ dX9_drop_23 rfl rfl ?_
      have p_24 := hS.m0k (tK_I t_x1) c_1
      refine c_getS (C := RX5) (T := TX5) (N := 7) (ci := 4) (k := 0) ⟨rfl, inT5, by decide, fX9_73⟩ (by decide) (by decide) (by decide) dX9_drop_24 (tK.cis (tK_I t_x1) c_1) (hS.m0 (tK_I t_x1) c_1) ?_
      refine c_alenS (t := 0) (ty := .byte) rfl dX9_drop_27 (tK.cis p_24 (Option.some_ne_none _)) rfl ?_
      refine c_sipush (v := nI 128) dX9_drop_28 (by decide) ?_
      refine c_icmp_ne (tgt := 50) dX9_drop_31 (by decide) (fun c_31 => ?_) (fun c_31 => ?_)
      · have ok := ok.2 c_31
        have hx := xif_n c_31 hx
        refine c_aload_nQ dX9_drop_50 rfl rfl ?_
        refine c_aload_nQ dX9_drop_51 rfl rfl ?_
        have p_52 := hS.sk t_x0 (Or.inr rfl)
        refine c_getR (C := RX9) (T := TX9) (N := 13) (ci := 7) (k := 8) ⟨rfl, inT9, by decide, fX9_64⟩ (by decide) (by decide) (by decide) dX9_drop_52 (hS.k t_x0) ?_
        refine c_putR (C := RX5) (T := TX5) (N := 7) (ci := 4) (k := 6) ⟨rfl, inT5, by decide, fX9_70⟩ ftT5 rfl (by decide) (by decide) (by decide) (fun v => by cases v <;> rfl) (fun v => by cases v <;> rfl) dX9_drop_55 (tK.cis (tK_I t_x1) c_1) ?_
        have hS := hS.R4 ((tK_I t_x1) _ (za_of c_1)) p_52
        have hM := hM.R 6 (za x1) (cR (csI S 3 (za x1) ((cI S 3 (za x1)) - (nI 1))) 8 x0)
        exact cX.cutz (kb_X9_drop_58 hG hR hS hM t_x0 (tK_R (tK_I t_x1)) ok hx) ⟨rfl, rfl, trivial⟩
      · have ok := ok.1 c_31
        have hx := xif_p c_31 hx
        refine c_aload_nQ dX9_drop_34 rfl rfl ?_
        refine c_aload_nQ dX9_drop_35 rfl rfl ?_
        have p_36 := hS.sk t_x0 (Or.inl rfl)
        refine c_getR (C := RX9) (T := TX9) (N := 13) (ci := 7) (k := 7) ⟨rfl, inT9, by decide, fX9_60⟩ (by decide) (by decide) (by decide) dX9_drop_36 (hS.k t_x0) ?_
        refine c_putR (C := RX5) (T := TX5) (N := 7) (ci := 4) (k := 6) ⟨rfl, inT5, by decide, fX9_70⟩ ftT5 rfl (by decide) (by decide) (by decide) (fun v => by cases v <;> rfl) (fun v => by cases v <;> rfl) dX9_drop_39 (tK.cis (tK_I t_x1) c_1) ?_
        have hS := hS.R4 ((tK_I t_x1) _ (za_of c_1)) p_36
        have hM := hM.R 6 (za x1) (cR (csI S 3 (za x1) ((cI S 3 (za x1)) - (nI 1))) 7 x0)
        exact cX.cutz (kb_X9_drop_42 hG hR hS hM t_x0 (tK_R (tK_I t_x1)) ok hx) ⟨rfl, rfl, trivial⟩
    · have ok := ok.2 c_19
      have hx := xif_n c_19 hx
      exact c_return rfl dX9_drop_22 (hR _ hS hM hx)
  · have ok := ok.1 c_1
    have hx := xif_p c_1 hx
    exact c_return rfl dX9_drop_4 (hR _ hS hM hx)
def k_X9_drop (N g H T : Nat) (S : cS) (a0 : Nat) (x1 : Option Nat) : cS := KF_X9_drop_0 N g H T a0 x1 S
def p_X9_drop (N g H T : Nat) (S : cS) (a0 : Nat) (x1 : Option Nat) : Prop := KO_X9_drop_0 N g H T a0 x1 S
set_option maxRecDepth 100000 in
set_option maxHeartbeats 4000000 in
theorem kc_X9_drop {G : zG} {o : cO} {u g H T N : Nat} {S : cS} (hG : zOK G) {a0 : Nat} {x1 : Option Nat} (hS : St u g H T S) (t_x0 : isO g H 7 a0) (t_x1 : tK S 5 x1) (ok : p_X9_drop N g H T S a0 x1) : cCv G o dX9_drop mX9_drop [.ref a0, va_rf x1] S (fun S' => S' = k_X9_drop N g H T S a0 x1 ∧ St u g H T S' ∧ Mono S S') := by
  refine cC.ofX rfl (by cases x1 <;> exact Nat.le_of_ble_eq_true rfl) ?_
  rw [show zargs mX9_drop.2.2.1 [.ref a0, va_rf x1] = [some (va_rf (some a0)), some (va_rf x1)] from by cases x1 <;> rfl]
  exact cX.cutz (kb_X9_drop_0 (X := fun F => F = k_X9_drop N g H T S a0 x1) hG (fun S' h1 h2 h => ⟨rfl, h, h1, h2⟩) hS Mono.rfl' t_x0 t_x1 ok rfl) ⟨rfl, rfl, trivial⟩
/-! X8_holdSnapshot -/
def KF_X8_holdSnapshot_37 (N g H T : Nat) (x0 : Nat) (x1 : Int32) (x2 : Option Nat) (S : cS) : Int32 × cS := ((nI 1), (csP S (x0 + 8) x1.toNatClampNeg x2))
def KO_X8_holdSnapshot_37 (N g H T : Nat) (x0 : Nat) (x1 : Int32) (x2 : Option Nat) (S : cS) : Prop := (vp_in x1 T) ∧ True
set_option maxRecDepth 100000 in
set_option maxHeartbeats 4000000 in
theorem kb_X8_holdSnapshot_37 {G : zG} {o : cO} {u g H T N : Nat} {S : cS} {S0 : cS} {Q : Option Value → cS → Prop} {X : Int32 × cS → Prop} (hG : zOK G) (hR : ∀ v S', St u g H T S' → Mono S0 S' → X (v, S') → Q (some (.int v)) S') {x0 : Nat} {x1 : Int32} {x2 : Option Nat} (hS : St u g H T S) (hM : Mono S0 S) (t_x0 : isO g H 6 x0) (t_x2 : tK S 5 x2) (ok : KO_X8_holdSnapshot_37 N g H T x0 x1 x2 S) (hx : X (KF_X8_holdSnapshot_37 N g H T x0 x1 x2 S)) : cX G o dX8_holdSnapshot mX8_holdSnapshot 37 [some (va_rf (some x0)), some (.int x1), some (va_rf x2)] [] S Q := by
  unfold KO_X8_holdSnapshot_37 at ok
  unfold KF_X8_holdSnapshot_37 at hx
  refine c_aload_nQ dX8_holdSnapshot_37 rfl rfl ?_
  refine c_getS (C := RX8) (T := TX8) (N := 14) (ci := 6) (k := 8) ⟨rfl, inT8, by decide, fX8_45⟩ (by decide) (by decide) (by decide) dX8_holdSnapshot_38 (hS.k t_x0) (hS.r (c := 6) t_x0 rfl (by omega)) ?_
  refine c_iload_n dX8_holdSnapshot_41 rfl rfl ?_
  refine c_aload_nQ dX8_holdSnapshot_42 rfl rfl ?_
  have hS2 := hS.P24 (i := x1.toNatClampNeg) ((hS.rk (c := 6) (k := 8) t_x0 rfl (by omega)) _ rfl) t_x2
  refine c_aast (t := 4) (ci := 4) (rr := (RX5, TX5, 7)) rfl rfl (by decide) (by decide) dX8_holdSnapshot_43 ⟨(tK.cis (hS.rk (c := 6) (k := 8) t_x0 rfl (by omega)) (Option.some_ne_none _)), (vk_cast (hS.rl (c := 6) (k := 8) t_x0 rfl (by decide) (by omega)) ok.1), tKor t_x2⟩ ?_
  have hS := hS2
  have hM := hM.P (x0 + 8) x1.toNatClampNeg x2
  have ok := ok.2
  refine c_iconst (v := nI 1) dX8_holdSnapshot_44 (by decide) ?_
  exact c_ireturn rfl rfl dX8_holdSnapshot_45 (hR _ _ hS hM hx)
def KF_X8_holdSnapshot_12 (N g H T : Nat)  (S : cS) : Int32 × cS := ((nI 0), S)
def KO_X8_holdSnapshot_12 (N g H T : Nat)  (S : cS) : Prop := True
set_option maxRecDepth 100000 in
set_option maxHeartbeats 4000000 in
theorem kb_X8_holdSnapshot_12 {G : zG} {o : cO} {u g H T N : Nat} {S : cS} {S0 : cS} {Q : Option Value → cS → Prop} {X : Int32 × cS → Prop} (hG : zOK G) (hR : ∀ v S', St u g H T S' → Mono S0 S' → X (v, S') → Q (some (.int v)) S') (hS : St u g H T S) (hM : Mono S0 S) (ok : KO_X8_holdSnapshot_12 N g H T S) (hx : X (KF_X8_holdSnapshot_12 N g H T S)) : cX G o dX8_holdSnapshot mX8_holdSnapshot 12 [none, none, none] [] S Q := by
  unfold KO_X8_holdSnapshot_12 at ok
  unfold KF_X8_holdSnapshot_12 at hx
  refine c_iconst (v := nI 0) dX8_holdSnapshot_12 (by decide) ?_
  exact c_ireturn rfl rfl dX8_holdSnapshot_13 (hR _ _ hS hM hx)
def KF_X8_holdSnapshot_0 (N g H T : Nat) (x0 : Nat) (x1 : Int32) (x2 : Option Nat) (S : cS) : Int32 × cS := (if x1 < 0 then (KF_X8_holdSnapshot_12 N g H T S) else (if x1 < (cI S 1 x0) then (KF_X8_holdSnapshot_37 N g H T x0 x1 x2 (k_X9_drop N g H T (csI S 3 (za x2) ((cI S 3 (za x2)) + (nI 1))) (g + 11) (cP (csI S 3 (za x2) ((cI S 3 (za x2)) + (nI 1))) (x0 + 8) x1.toNatClampNeg))) else (KF_X8_holdSnapshot_12 N g H T S)))
def KO_X8_holdSnapshot_0 (N g H T : Nat) (x0 : Nat) (x1 : Int32) (x2 : Option Nat) (S : cS) : Prop := ((x1 < 0 → KO_X8_holdSnapshot_12 N g H T S) ∧ (¬ x1 < 0 → ((x1 < (cI S 1 x0) → (¬ x2 = none) ∧ (vp_in x1 T) ∧ (p_X9_drop N g H T (csI S 3 (za x2) ((cI S 3 (za x2)) + (nI 1))) (g + 11) (cP (csI S 3 (za x2) ((cI S 3 (za x2)) + (nI 1))) (x0 + 8) x1.toNatClampNeg)) ∧ KO_X8_holdSnapshot_37 N g H T x0 x1 x2 (k_X9_drop N g H T (csI S 3 (za x2) ((cI S 3 (za x2)) + (nI 1))) (g + 11) (cP (csI S 3 (za x2) ((cI S 3 (za x2)) + (nI 1))) (x0 + 8) x1.toNatClampNeg))) ∧ (¬ x1 < (cI S 1 x0) → KO_X8_holdSnapshot_12 N g H T S))))
set_option maxRecDepth 100000 in
set_option maxHeartbeats 4000000 in
theorem kb_X8_holdSnapshot_0 {G : zG} {o : cO} {u g H T N : Nat} {S : cS} {S0 : cS} {Q : Option Value → cS → Prop} {X : Int32 × cS → Prop} (hG : zOK G) (hR : ∀ v S', St u g H T S' → Mono S0 S' → X (v, S') → Q (some (.int v)) S') {x0 : Nat} {x1 : Int32} {x2 : Option Nat} (hS : St u g H T S) (hM : Mono S0 S) (t_x0 : isO g H 6 x0) (t_x2 : tK S 5 x2) (ok : KO_X8_holdSnapshot_0 N g H T x0 x1 x2 S) (hx : X (KF_X8_holdSnapshot_0 N g H T x0 x1 x2 S)) : cX G o dX8_holdSnapshot mX8_holdSnapshot 0 [some (va_rf (some x0)), some (.int x1), some (va_rf x2)] [] S Q := by
  unfold KO_X8_holdSnapshot_0 at ok
  unfold KF_X8_holdSnapshot_0 at hx
  refine c_iload_n dX8_holdSnapshot_0 rfl rfl ?_
  refine c_if_lt (tgt := 12) dX8_holdSnapshot_1 (by decide) (fun c_1 => ?_) (fun c_1 => ?_)
  · have ok := ok.1 c_1
    have hx := xif_p c_1 hx
    exact cX.cutz (kb_X8_holdSnapshot_12 hG hR hS hM  ok hx) trivial
  · have ok := ok.2 c_1
    have hx := xif_n c_1 hx
    refine c_iload_n dX8_holdSnapshot_4 rfl rfl ?_
    refine c_aload_nQ dX8_holdSnapshot_5 rfl rfl ?_
    refine c_getI (C := RX8) (T := TX8) (N := 14) (ci := 6) (k := 1) ⟨rfl, inT8, by decide, fX8_32⟩ (by decide) (by decide) (by decide) dX8_holdSnapshot_6 (hS.k t_x0) ?_
    refine c_icmp_lt (tgt := 14) dX8_holdSnapshot_9 (by decide) (fun c_9 => ?_) (fun c_9 => ?_)
    · have ok := ok.1 c_9
      have hx := xif_p c_9 hx
      refine c_aload_nQ dX8_holdSnapshot_14 rfl rfl ?_
      refine c_dup dX8_holdSnapshot_15 (zcat_rf _) ?_
      have nn_16 := ok.1
      refine c_getI (C := RX5) (T := TX5) (N := 7) (ci := 4) (k := 3) ⟨rfl, inT5, by decide, fX8_72⟩ (by decide) (by decide) (by decide) dX8_holdSnapshot_16 (tK.cis t_x2 ok.1) ?_
      have ok := ok.2
      refine c_iconst (v := nI 1) dX8_holdSnapshot_19 (by decide) ?_
      refine c_iadd dX8_holdSnapshot_20 ?_
      refine c_putI (C := RX5) (T := TX5) (N := 7) (ci := 4) (k := 3) ⟨rfl, inT5, by decide, fX8_72⟩ ftT5 rfl (by decide) (by decide) (by decide) rfl rfl dX8_holdSnapshot_21 (tK.cis t_x2 nn_16) ?_
      have hS := hS.I 3 (za x2) ((cI S 3 (za x2)) + (nI 1))
      have hM := hM.I 3 (za x2) ((cI S 3 (za x2)) + (nI 1))
      refine c_aload_nQ dX8_holdSnapshot_24 rfl rfl ?_
      refine c_getS (C := RX8) (T := TX8) (N := 14) (ci := 6) (k := 0) ⟨rfl, inT8, by decide, fX8_28⟩ (by decide) (by decide) (by decide) dX8_holdSnapshot_25 (hS.k t_x0) (hS.r (c := 6) t_x0 rfl (by omega)) ?_
      refine c_aload_nQ dX8_holdSnapshot_28 rfl rfl ?_
      refine c_getS (C := RX8) (T := TX8) (N := 14) (ci := 6) (k := 8) ⟨rfl, inT8, by decide, fX8_45⟩ (by decide) (by decide) (by decide) dX8_holdSnapshot_29 (hS.k t_x0) (hS.r (c := 6) t_x0 rfl (by omega)) ?_
      refine c_iload_n dX8_holdSnapshot_32 rfl rfl ?_
      have p_33 := hS.row24 (hS.rk (c := 6) (k := 8) t_x0 rfl (by omega)) x1.toNatClampNeg
      refine c_aald (t := 4) (ty := (.object "QuorumLedger$Message")) rfl rfl (by decide) dX8_holdSnapshot_33 ⟨(tK.cis (hS.rk (c := 6) (k := 8) t_x0 rfl (by omega)) (Option.some_ne_none _)), (vk_cast (hS.rl (c := 6) (k := 8) t_x0 rfl (by decide) (by omega)) ok.1)⟩ ?_
      have ok := ok.2
      refine c_V1vK (ci := 7) (rr := (RX9, TX9, 13)) (y' := mX9_drop) dX8_holdSnapshot_34 lX8_91 kX9_drop ⟨by decide, by decide⟩ rfl rfl (by decide) (hS.k (o60 t_x0)) (Nat.le_of_ble_eq_true rfl) (kc_X9_drop hG hS (o60 t_x0) p_33 ok.1) (fun ⟨hS, hm_34⟩ => ?_)
      have hM := hM.trans hm_34
      have ok := ok.2
      exact cX.cutz (kb_X8_holdSnapshot_37 hG hR hS hM t_x0 (hm_34.tK (tK_I t_x2) (by decide)) ok hx) ⟨rfl, rfl, rfl, trivial⟩
    · have ok := ok.2 c_9
      have hx := xif_n c_9 hx
      exact cX.cutz (kb_X8_holdSnapshot_12 hG hR hS hM  ok hx) trivial
def k_X8_holdSnapshot (N g H T : Nat) (S : cS) (a0 : Nat) (x1 : Int32) (x2 : Option Nat) : Int32 × cS := KF_X8_holdSnapshot_0 N g H T a0 x1 x2 S
def p_X8_holdSnapshot (N g H T : Nat) (S : cS) (a0 : Nat) (x1 : Int32) (x2 : Option Nat) : Prop := KO_X8_holdSnapshot_0 N g H T a0 x1 x2 S
set_option maxRecDepth 100000 in
set_option maxHeartbeats 4000000 in
theorem kc_X8_holdSnapshot {G : zG} {o : cO} {u g H T N : Nat} {S : cS} (hG : zOK G) {a0 : Nat} {x1 : Int32} {x2 : Option Nat} (hS : St u g H T S) (t_x0 : isO g H 6 a0) (t_x2 : tK S 5 x2) (ok : p_X8_holdSnapshot N g H T S a0 x1 x2) : cCi G o dX8_holdSnapshot mX8_holdSnapshot [.ref a0, .int x1, va_rf x2] S (fun v S' => (v = (k_X8_holdSnapshot N g H T S a0 x1 x2).1 ∧ S' = (k_X8_holdSnapshot N g H T S a0 x1 x2).2) ∧ St u g H T S' ∧ Mono S S') := by
  refine cC.ofX rfl (by cases x2 <;> exact Nat.le_of_ble_eq_true rfl) ?_
  rw [show zargs mX8_holdSnapshot.2.2.1 [.ref a0, .int x1, va_rf x2] = [some (va_rf (some a0)), some (.int x1), some (va_rf x2)] from by cases x2 <;> rfl]
  exact cX.cutz (kb_X8_holdSnapshot_0 (X := fun F => F = k_X8_holdSnapshot N g H T S a0 x1 x2) hG (fun v S' h1 h2 h => ⟨v, rfl, ⟨by rw [← h], by rw [← h]⟩, h1, h2⟩) hS Mono.rfl' t_x0 t_x2 ok rfl) ⟨rfl, rfl, rfl, trivial⟩
/-! X4_canRead -/
def KF_X4_canRead_34 (N g H T : Nat) (s0 : Int32) (S : cS) : Int32 := s0
def KO_X4_canRead_34 (N g H T : Nat) (s0 : Int32) (S : cS) : Prop := narrow .boolean (.int s0) = .int s0
set_option maxRecDepth 100000 in
set_option maxHeartbeats 4000000 in
theorem kb_X4_canRead_34 {G : zG} {o : cO} {u g H T N : Nat} {S : cS} {Q : Option Value → cS → Prop} {X : Int32 → Prop} (hG : zOK G) (hR : ∀ v, X v → Q (some (.int v)) S) {s0 : Int32} (hS : St u g H T S) (ok : KO_X4_canRead_34 N g H T s0 S) (hx : X (KF_X4_canRead_34 N g H T s0 S)) : cX G o dX4_canRead mX4_canRead 34 [none, none] [.int s0] S Q := by
  unfold KO_X4_canRead_34 at ok
  unfold KF_X4_canRead_34 at hx
  exact c_ireturn rfl ok dX4_canRead_34 (hR _ hx)
def KF_X4_canRead_33 (N g H T : Nat)  (S : cS) : Int32 := (KF_X4_canRead_34 N g H T (nI 0) S)
def KO_X4_canRead_33 (N g H T : Nat)  (S : cS) : Prop := KO_X4_canRead_34 N g H T (nI 0) S
set_option maxRecDepth 100000 in
set_option maxHeartbeats 4000000 in
theorem kb_X4_canRead_33 {G : zG} {o : cO} {u g H T N : Nat} {S : cS} {Q : Option Value → cS → Prop} {X : Int32 → Prop} (hG : zOK G) (hR : ∀ v, X v → Q (some (.int v)) S) (hS : St u g H T S) (ok : KO_X4_canRead_33 N g H T S) (hx : X (KF_X4_canRead_33 N g H T S)) : cX G o dX4_canRead mX4_canRead 33 [none, none] [] S Q := by
  unfold KO_X4_canRead_33 at ok
  unfold KF_X4_canRead_33 at hx
  refine c_iconst (v := nI 0) dX4_canRead_33 (by decide) ?_
  exact cX.cutz (kb_X4_canRead_34 hG hR hS  ok hx) trivial
def KF_X4_canRead_0 (N g H T : Nat) (x0 : Nat) (x1 : Int32) (S : cS) : Int32 := (if x1 < 0 then (KF_X4_canRead_33 N g H T S) else (if (nI 284) ≤ x1 then (KF_X4_canRead_33 N g H T S) else (if (cA S (x0 + 2) x1.toNatClampNeg) = 0 then (KF_X4_canRead_33 N g H T S) else (if (cP S (x0 + 1) x1.toNatClampNeg) = none then (KF_X4_canRead_33 N g H T S) else (KF_X4_canRead_34 N g H T (nI 1) S)))))
def KO_X4_canRead_0 (N g H T : Nat) (x0 : Nat) (x1 : Int32) (S : cS) : Prop := ((x1 < 0 → KO_X4_canRead_33 N g H T S) ∧ (¬ x1 < 0 → (((nI 284) ≤ x1 → KO_X4_canRead_33 N g H T S) ∧ (¬ (nI 284) ≤ x1 → (vp_in x1 284) ∧ (((cA S (x0 + 2) x1.toNatClampNeg) = 0 → KO_X4_canRead_33 N g H T S) ∧ (¬ (cA S (x0 + 2) x1.toNatClampNeg) = 0 → (vp_in x1 284) ∧ (((cP S (x0 + 1) x1.toNatClampNeg) = none → KO_X4_canRead_33 N g H T S) ∧ (¬ (cP S (x0 + 1) x1.toNatClampNeg) = none → KO_X4_canRead_34 N g H T (nI 1) S))))))))
set_option maxRecDepth 100000 in
set_option maxHeartbeats 4000000 in
theorem kb_X4_canRead_0 {G : zG} {o : cO} {u g H T N : Nat} {S : cS} {Q : Option Value → cS → Prop} {X : Int32 → Prop} (hG : zOK G) (hR : ∀ v, X v → Q (some (.int v)) S) {x0 : Nat} {x1 : Int32} (hS : St u g H T S) (t_x0 : isO g H 3 x0) (ok : KO_X4_canRead_0 N g H T x0 x1 S) (hx : X (KF_X4_canRead_0 N g H T x0 x1 S)) : cX G o dX4_canRead mX4_canRead 0 [some (va_rf (some x0)), some (.int x1)] [] S Q := by
  unfold KO_X4_canRead_0 at ok
  unfold KF_X4_canRead_0 at hx
  refine c_iload_n dX4_canRead_0 rfl rfl ?_
  refine c_if_lt (tgt := 33) dX4_canRead_1 (by decide) (fun c_1 => ?_) (fun c_1 => ?_)
  · have ok := ok.1 c_1
    have hx := xif_p c_1 hx
    exact cX.cutz (kb_X4_canRead_33 hG hR hS  ok hx) trivial
  · have ok := ok.2 c_1
    have hx := xif_n c_1 hx
    refine c_iload_n dX4_canRead_4 rfl rfl ?_
    refine c_sipush (v := nI 284) dX4_canRead_5 (by decide) ?_
    refine c_icmp_ge (tgt := 33) dX4_canRead_8 (by decide) (fun c_8 => ?_) (fun c_8 => ?_)
    · have ok := ok.1 c_8
      have hx := xif_p c_8 hx
      exact cX.cutz (kb_X4_canRead_33 hG hR hS  ok hx) trivial
    · have ok := ok.2 c_8
      have hx := xif_n c_8 hx
      refine c_aload_nQ dX4_canRead_11 rfl rfl ?_
      refine c_getS (C := RX4) (T := TX4) (N := 10) (ci := 3) (k := 1) ⟨rfl, inT4, by decide, fX4_17⟩ (by decide) (by decide) (by decide) dX4_canRead_12 (hS.k t_x0) (hS.r (c := 3) t_x0 rfl (by omega)) ?_
      refine c_iload_n dX4_canRead_15 rfl rfl ?_
      refine c_zald dX4_canRead_16 ⟨(tK.cis (hS.rk (c := 3) (k := 1) t_x0 rfl (by omega)) (Option.some_ne_none _)), (vk_cast (hS.rl (c := 3) (k := 1) t_x0 rfl (by decide) (by omega)) ok.1)⟩ ?_
      have ok := ok.2
      refine c_if_eq (tgt := 33) dX4_canRead_17 (by decide) (fun c_17 => ?_) (fun c_17 => ?_)
      · have ok := ok.1 c_17
        have hx := xif_p c_17 hx
        exact cX.cutz (kb_X4_canRead_33 hG hR hS  ok hx) trivial
      · have ok := ok.2 c_17
        have hx := xif_n c_17 hx
        refine c_aload_nQ dX4_canRead_20 rfl rfl ?_
        refine c_getS (C := RX4) (T := TX4) (N := 10) (ci := 3) (k := 0) ⟨rfl, inT4, by decide, fX4_13⟩ (by decide) (by decide) (by decide) dX4_canRead_21 (hS.k t_x0) (hS.r (c := 3) t_x0 rfl (by omega)) ?_
        refine c_iload_n dX4_canRead_24 rfl rfl ?_
        have p_25 := hS.row26 (hS.rk (c := 3) (k := 0) t_x0 rfl (by omega)) x1.toNatClampNeg
        refine c_aald (t := 6) (ty := (.array .byte)) rfl rfl (by decide) dX4_canRead_25 ⟨(tK.cis (hS.rk (c := 3) (k := 0) t_x0 rfl (by omega)) (Option.some_ne_none _)), (vk_cast (hS.rl (c := 3) (k := 0) t_x0 rfl (by decide) (by omega)) ok.1)⟩ ?_
        have ok := ok.2
        refine c_ifnullI (tgt := 33) dX4_canRead_26 (by decide) (fun c_26 => ?_) (fun c_26 => ?_)
        · have ok := ok.1 c_26
          have hx := xif_p c_26 hx
          exact cX.cutz (kb_X4_canRead_33 hG hR hS  ok hx) trivial
        · have ok := ok.2 c_26
          have hx := xif_n c_26 hx
          refine c_iconst (v := nI 1) dX4_canRead_29 (by decide) ?_
          refine c_goto (tgt := 34) dX4_canRead_30 (by decide) ?_
          exact cX.cutz (kb_X4_canRead_34 hG hR hS  ok hx) trivial
def k_X4_canRead (N g H T : Nat) (S : cS) (a0 : Nat) (x1 : Int32) : Int32 := KF_X4_canRead_0 N g H T a0 x1 S
def p_X4_canRead (N g H T : Nat) (S : cS) (a0 : Nat) (x1 : Int32) : Prop := KO_X4_canRead_0 N g H T a0 x1 S
set_option maxRecDepth 100000 in
set_option maxHeartbeats 4000000 in
theorem kc_X4_canRead {G : zG} {o : cO} {u g H T N : Nat} {S : cS} (hG : zOK G) {a0 : Nat} {x1 : Int32} (hS : St u g H T S) (t_x0 : isO g H 3 a0) (ok : p_X4_canRead N g H T S a0 x1) : cCi G o dX4_canRead mX4_canRead [.ref a0, .int x1] S (fun v S' => (v = k_X4_canRead N g H T S a0 x1 ∧ S' = S)) := by
  refine cC.ofX rfl (by exact Nat.le_of_ble_eq_true rfl) ?_
  show cX G o dX4_canRead mX4_canRead 0 [some (va_rf (some a0)), some (.int x1)] [] S _
  exact cX.cutz (kb_X4_canRead_0 (X := fun F => F = k_X4_canRead N g H T S a0 x1) hG (fun v h => ⟨v, rfl, h, rfl⟩) hS t_x0 ok rfl) ⟨rfl, rfl, trivial⟩
/-! X4_fetch -/
def KF_X4_fetch_137 (N g H T : Nat) (x4 : Int32) (S : cS) : Int32 × cS := (x4, S)
def KO_X4_fetch_137 (N g H T : Nat) (x4 : Int32) (S : cS) : Prop := True
set_option maxRecDepth 100000 in
set_option maxHeartbeats 4000000 in
theorem kb_X4_fetch_137 {G : zG} {o : cO} {u g H T N : Nat} {S : cS} {S0 : cS} {Q : Option Value → cS → Prop} {X : Int32 × cS → Prop} (hG : zOK G) (hR : ∀ v S', St u g H T S' → Mono S0 S' → X (v, S') → Q (some (.int v)) S') {x4 : Int32} (hS : St u g H T S) (hM : Mono S0 S) (ok : KO_X4_fetch_137 N g H T x4 S) (hx : X (KF_X4_fetch_137 N g H T x4 S)) : cX G o dX4_fetch mX4_fetch 137 [none, none, none, none, some (.int x4), none, none] [] S Q := by
  unfold KO_X4_fetch_137 at ok
  unfold KF_X4_fetch_137 at hx
  refine c_iload dX4_fetch_137 rfl ?_
  exact c_ireturn rfl rfl dX4_fetch_139 (hR _ _ hS hM hx)
def KF_X4_fetch_107 (N g H T : Nat) (x0 : Nat) (x2 : Option Nat) (x3 : Int32) (x4 : Int32) (x5 : Int32) (x6 : Int32) (S : cS) : Int32 × cS := (if x4 ≤ x5 then (KF_X4_fetch_137 N g H T x4 S) else (KF_X4_fetch_137 N g H T x4 (csArow S (za x2) (va_cpy (cA S (za (cP S (x0 + 1) (x6 + (nI 1)).toNatClampNeg))) (cA S (za x2)) (nI 0).toNatClampNeg (x3 + x5).toNatClampNeg (x4 - x5).toNatClampNeg))))
def KO_X4_fetch_107 (N g H T : Nat) (x0 : Nat) (x2 : Option Nat) (x3 : Int32) (x4 : Int32) (x5 : Int32) (x6 : Int32) (S : cS) : Prop := ((x4 ≤ x5 → KO_X4_fetch_137 N g H T x4 S) ∧ (¬ x4 ≤ x5 → (vp_in (x6 + (nI 1)) 284) ∧ (¬ x2 = none ∧ ¬ (cP S (x0 + 1) (x6 + (nI 1)).toNatClampNeg) = none ∧ (¬ (nI 0) < 0 ∧ ¬ (x3 + x5) < 0 ∧ ¬ (x4 - x5) < 0) ∧ (nI 0).toNatClampNeg + (x4 - x5).toNatClampNeg ≤ (cL S (za (cP S (x0 + 1) (x6 + (nI 1)).toNatClampNeg))) ∧ (x3 + x5).toNatClampNeg + (x4 - x5).toNatClampNeg ≤ (cL S (za x2))) ∧ KO_X4_fetch_137 N g H T x4 (csArow S (za x2) (va_cpy (cA S (za (cP S (x0 + 1) (x6 + (nI 1)).toNatClampNeg))) (cA S (za x2)) (nI 0).toNatClampNeg (x3 + x5).toNatClampNeg (x4 - x5).toNatClampNeg))))
set_option maxRecDepth 100000 in
set_option maxHeartbeats 4000000 in
theorem kb_X4_fetch_107 {G : zG} {o : cO} {u g H T N : Nat} {S : cS} {S0 : cS} {Q : Option Value → cS → Prop} {X : Int32 × cS → Prop} (hG : zOK G) (hR : ∀ v S', St u g H T S' → Mono S0 S' → X (v, S') → Q (some (.int v)) S') {x0 : Nat} {x2 : Option Nat} {x3 : Int32} {x4 : Int32} {x5 : Int32} {x6 : Int32} (hS : St u g H T S) (hM : Mono S0 S) (t_x0 : isO g H 3 x0) (t_x2 : tK S 20 x2) (ok : KO_X4_fetch_107 N g H T x0 x2 x3 x4 x5 x6 S) (hx : X (KF_X4_fetch_107 N g H T x0 x2 x3 x4 x5 x6 S)) : cX G o dX4_fetch mX4_fetch 107 [some (va_rf (some x0)), none, some (va_rf x2), some (.int x3), some (.int x4), some (.int x5), some (.int x6)] [] S Q := by
  unfold KO_X4_fetch_107 at ok
  unfold KF_X4_fetch_107 at hx
  refine c_iload dX4_fetch_107 rfl ?_
  refine c_iload dX4_fetch_109 rfl ?_
  refine c_icmp_le (tgt := 137) dX4_fetch_111 (by decide) (fun c_111 => ?_) (fun c_111 => ?_)
  · have ok := ok.1 c_111
    have hx := xif_p c_111 hx
    exact cX.cutz (kb_X4_fetch_137 hG hR hS hM  ok hx) ⟨rfl, trivial⟩
  · have ok := ok.2 c_111
    have hx := xif_n c_111 hx
    refine c_aload_nQ dX4_fetch_114 rfl rfl ?_
    refine c_getS (C := RX4) (T := TX4) (N := 10) (ci := 3) (k := 0) ⟨rfl, inT4, by decide, fX4_13⟩ (by decide) (by decide) (by decide) dX4_fetch_115 (hS.k t_x0) (hS.r (c := 3) t_x0 rfl (by omega)) ?_
    refine c_iload dX4_fetch_118 rfl ?_
    refine c_iconst (v := nI 1) dX4_fetch_120 (by decide) ?_
    refine c_iadd dX4_fetch_121 ?_
    have p_122 := hS.row26 (hS.rk (c := 3) (k := 0) t_x0 rfl (by omega)) (x6 + (nI 1)).toNatClampNeg
    refine c_aald (t := 6) (ty := (.array .byte)) rfl rfl (by decide) dX4_fetch_122 ⟨(tK.cis (hS.rk (c := 3) (k := 0) t_x0 rfl (by omega)) (Option.some_ne_none _)), (vk_cast (hS.rl (c := 3) (k := 0) t_x0 rfl (by decide) (by omega)) ok.1)⟩ ?_
    have ok := ok.2
    refine c_iconst (v := nI 0) dX4_fetch_123 (by decide) ?_
    refine c_aload_nQ dX4_fetch_124 rfl rfl ?_
    refine c_iload_n dX4_fetch_125 rfl rfl ?_
    refine c_iload dX4_fetch_126 rfl ?_
    refine c_iadd dX4_fetch_128 ?_
    refine c_iload dX4_fetch_129 rfl ?_
    refine c_iload dX4_fetch_131 rfl ?_
    refine c_isub dX4_fetch_133 ?_
    have tq_134 : tK S 20 (some (za (cP S (x0 + 1) (x6 + (nI 1)).toNatClampNeg))) := tK_some (tK.cis p_122 ok.1.2.1).2
    refine c_copy0 hG dX4_fetch_134 qX4_36 (by decide) (by decide) ⟨tK.cis p_122 ok.1.2.1, tK.cis t_x2 ok.1.1, ok.1.2.2.1, ok.1.2.2.2.1, ok.1.2.2.2.2⟩ ?_
    have hS := hS.Ac (za x2) (za (cP S (x0 + 1) (x6 + (nI 1)).toNatClampNeg)) (nI 0).toNatClampNeg (x3 + x5).toNatClampNeg (x4 - x5).toNatClampNeg tq_134
    have hM := hM.Ar (za x2) (va_cpy (cA S (za (cP S (x0 + 1) (x6 + (nI 1)).toNatClampNeg))) (cA S (za x2)) (nI 0).toNatClampNeg (x3 + x5).toNatClampNeg (x4 - x5).toNatClampNeg)
    have ok := ok.2
    exact cX.cutz (kb_X4_fetch_137 hG hR hS hM  ok hx) ⟨rfl, trivial⟩
def KF_X4_fetch_91 (N g H T : Nat) (x0 : Nat) (x2 : Option Nat) (x3 : Int32) (x4 : Int32) (x5 : Int32) (x6 : Int32) (S : cS) : Int32 × cS := (KF_X4_fetch_107 N g H T x0 x2 x3 x4 x5 x6 (csArow S (za x2) (va_cpy (cA S (za (cP S (x0 + 1) x6.toNatClampNeg))) (cA S (za x2)) (nI 8).toNatClampNeg x3.toNatClampNeg x5.toNatClampNeg)))
def KO_X4_fetch_91 (N g H T : Nat) (x0 : Nat) (x2 : Option Nat) (x3 : Int32) (x4 : Int32) (x5 : Int32) (x6 : Int32) (S : cS) : Prop := (vp_in x6 284) ∧ (¬ x2 = none ∧ ¬ (cP S (x0 + 1) x6.toNatClampNeg) = none ∧ (¬ (nI 8) < 0 ∧ ¬ x3 < 0 ∧ ¬ x5 < 0) ∧ (nI 8).toNatClampNeg + x5.toNatClampNeg ≤ (cL S (za (cP S (x0 + 1) x6.toNatClampNeg))) ∧ x3.toNatClampNeg + x5.toNatClampNeg ≤ (cL S (za x2))) ∧ KO_X4_fetch_107 N g H T x0 x2 x3 x4 x5 x6 (csArow S (za x2) (va_cpy (cA S (za (cP S (x0 + 1) x6.toNatClampNeg))) (cA S (za x2)) (nI 8).toNatClampNeg x3.toNatClampNeg x5.toNatClampNeg))
set_option maxRecDepth 100000 in
set_option maxHeartbeats 4000000 in
theorem kb_X4_fetch_91 {G : zG} {o : cO} {u g H T N : Nat} {S : cS} {S0 : cS} {Q : Option Value → cS → Prop} {X : Int32 × cS → Prop} (hG : zOK G) (hR : ∀ v S', St u g H T S' → Mono S0 S' → X (v, S') → Q (some (.int v)) S') {x0 : Nat} {x2 : Option Nat} {x3 : Int32} {x4 : Int32} {x5 : Int32} {x6 : Int32} (hS : St u g H T S) (hM : Mono S0 S) (t_x0 : isO g H 3 x0) (t_x2 : tK S 20 x2) (ok : KO_X4_fetch_91 N g H T x0 x2 x3 x4 x5 x6 S) (hx : X (KF_X4_fetch_91 N g H T x0 x2 x3 x4 x5 x6 S)) : cX G o dX4_fetch mX4_fetch 91 [some (va_rf (some x0)), none, some (va_rf x2), some (.int x3), some (.int x4), some (.int x5), some (.int x6)] [] S Q := by
  unfold KO_X4_fetch_91 at ok
  unfold KF_X4_fetch_91 at hx
  refine c_aload_nQ dX4_fetch_91 rfl rfl ?_
  refine c_getS (C := RX4) (T := TX4) (N := 10) (ci := 3) (k := 0) ⟨rfl, inT4, by decide, fX4_13⟩ (by decide) (by decide) (by decide) dX4_fetch_92 (hS.k t_x0) (hS.r (c := 3) t_x0 rfl (by omega)) ?_
  refine c_iload dX4_fetch_95 rfl ?_
  have p_97 := hS.row26 (hS.rk (c := 3) (k := 0) t_x0 rfl (by omega)) x6.toNatClampNeg
  refine c_aald (t := 6) (ty := (.array .byte)) rfl rfl (by decide) dX4_fetch_97 ⟨(tK.cis (hS.rk (c := 3) (k := 0) t_x0 rfl (by omega)) (Option.some_ne_none _)), (vk_cast (hS.rl (c := 3) (k := 0) t_x0 rfl (by decide) (by omega)) ok.1)⟩ ?_
  have ok := ok.2
  refine c_bipush (v := nI 8) dX4_fetch_98 (by decide) ?_
  refine c_aload_nQ dX4_fetch_100 rfl rfl ?_
  refine c_iload_n dX4_fetch_101 rfl rfl ?_
  refine c_iload dX4_fetch_102 rfl ?_
  have tq_104 : tK S 20 (some (za (cP S (x0 + 1) x6.toNatClampNeg))) := tK_some (tK.cis p_97 ok.1.2.1).2
  refine c_copy0 hG dX4_fetch_104 qX4_36 (by decide) (by decide) ⟨tK.cis p_97 ok.1.2.1, tK.cis t_x2 ok.1.1, ok.1.2.2.1, ok.1.2.2.2.1, ok.1.2.2.2.2⟩ ?_
  have hS := hS.Ac (za x2) (za (cP S (x0 + 1) x6.toNatClampNeg)) (nI 8).toNatClampNeg x3.toNatClampNeg x5.toNatClampNeg tq_104
  have hM := hM.Ar (za x2) (va_cpy (cA S (za (cP S (x0 + 1) x6.toNatClampNeg))) (cA S (za x2)) (nI 8).toNatClampNeg x3.toNatClampNeg x5.toNatClampNeg)
  have ok := ok.2
  exact cX.cutz (kb_X4_fetch_107 hG hR hS hM t_x0 (tK_Ar t_x2) ok hx) ⟨rfl, rfl, rfl, rfl, rfl, rfl, trivial⟩
def KF_X4_fetch_89 (N g H T : Nat)  (S : cS) : Int32 × cS := ((-1), S)
def KO_X4_fetch_89 (N g H T : Nat)  (S : cS) : Prop := True
set_option maxRecDepth 100000 in
set_option maxHeartbeats 4000000 in
theorem kb_X4_fetch_89 {G : zG} {o : cO} {u g H T N : Nat} {S : cS} {S0 : cS} {Q : Option Value → cS → Prop} {X : Int32 × cS → Prop} (hG : zOK G) (hR : ∀ v S', St u g H T S' → Mono S0 S' → X (v, S') → Q (some (.int v)) S') (hS : St u g H T S) (hM : Mono S0 S) (ok : KO_X4_fetch_89 N g H T S) (hx : X (KF_X4_fetch_89 N g H T S)) : cX G o dX4_fetch mX4_fetch 89 [none, none, none, none, none, none, none] [] S Q := by
  unfold KO_X4_fetch_89 at ok
  unfold KF_X4_fetch_89 at hx
  refine c_iconst (v := -1) dX4_fetch_89 (by decide) ?_
  exact c_ireturn rfl rfl dX4_fetch_90 (hR _ _ hS hM hx)
def KF_X4_fetch_43 (N g H T : Nat)  (S : cS) : Int32 × cS := ((-1), S)
def KO_X4_fetch_43 (N g H T : Nat)  (S : cS) : Prop := True
set_option maxRecDepth 100000 in
set_option maxHeartbeats 4000000 in
theorem kb_X4_fetch_43 {G : zG} {o : cO} {u g H T N : Nat} {S : cS} {S0 : cS} {Q : Option Value → cS → Prop} {X : Int32 × cS → Prop} (hG : zOK G) (hR : ∀ v S', St u g H T S' → Mono S0 S' → X (v, S') → Q (some (.int v)) S') (hS : St u g H T S) (hM : Mono S0 S) (ok : KO_X4_fetch_43 N g H T S) (hx : X (KF_X4_fetch_43 N g H T S)) : cX G o dX4_fetch mX4_fetch 43 [none, none, none, none, none, none, none] [] S Q := by
  unfold KO_X4_fetch_43 at ok
  unfold KF_X4_fetch_43 at hx
  refine c_iconst (v := -1) dX4_fetch_43 (by decide) ?_
  exact c_ireturn rfl rfl dX4_fetch_44 (hR _ _ hS hM hx)
def KF_X4_fetch_20 (N g H T : Nat)  (S : cS) : Int32 × cS := ((-1), S)
def KO_X4_fetch_20 (N g H T : Nat)  (S : cS) : Prop := True
set_option maxRecDepth 100000 in
set_option maxHeartbeats 4000000 in
theorem kb_X4_fetch_20 {G : zG} {o : cO} {u g H T N : Nat} {S : cS} {S0 : cS} {Q : Option Value → cS → Prop} {X : Int32 × cS → Prop} (hG : zOK G) (hR : ∀ v S', St u g H T S' → Mono S0 S' → X (v, S') → Q (some (.int v)) S') (hS : St u g H T S) (hM : Mono S0 S) (ok : KO_X4_fetch_20 N g H T S) (hx : X (KF_X4_fetch_20 N g H T S)) : cX G o dX4_fetch mX4_fetch 20 [none, none, none, none, none, none, none] [] S Q := by
  unfold KO_X4_fetch_20 at ok
  unfold KF_X4_fetch_20 at hx
  refine c_iconst (v := -1) dX4_fetch_20 (by decide) ?_
  exact c_ireturn rfl rfl dX4_fetch_21 (hR _ _ hS hM hx)
def KF_X4_fetch_0 (N g H T : Nat) (x0 : Nat) (x1 : Int32) (x2 : Option Nat) (x3 : Int32) (S : cS) : Int32 × cS := (if x1 < (nI 1) then (KF_X4_fetch_20 N g H T S) else (if (nI 40) < x1 then (KF_X4_fetch_20 N g H T S) else (if (cA S (x0 + 4) x1.toNatClampNeg) = 0 then (KF_X4_fetch_20 N g H T S) else (if x3 < 0 then (KF_X4_fetch_43 N g H T S) else (if (cA S (x0 + 4) x1.toNatClampNeg) ≤ ((nI (cL S (za x2))) - x3) then (if (k_X4_canRead N g H T S x0 (((nI 2) * x1) - (nI 2))) = 0 then (KF_X4_fetch_89 N g H T S) else (if (cA S (x0 + 4) x1.toNatClampNeg) ≤ (if (nI 504) < (cA S (x0 + 4) x1.toNatClampNeg) then (nI 504) else (cA S (x0 + 4) x1.toNatClampNeg)) then (KF_X4_fetch_91 N g H T x0 x2 x3 (cA S (x0 + 4) x1.toNatClampNeg) (if (nI 504) < (cA S (x0 + 4) x1.toNatClampNeg) then (nI 504) else (cA S (x0 + 4) x1.toNatClampNeg)) (((nI 2) * x1) - (nI 2)) S) else (if (k_X4_canRead N g H T S x0 ((((nI 2) * x1) - (nI 2)) + (nI 1))) = 0 then (KF_X4_fetch_89 N g H T S) else (KF_X4_fetch_91 N g H T x0 x2 x3 (cA S (x0 + 4) x1.toNatClampNeg) (if (nI 504) < (cA S (x0 + 4) x1.toNatClampNeg) then (nI 504) else (cA S (x0 + 4) x1.toNatClampNeg)) (((nI 2) * x1) - (nI 2)) S)))) else (KF_X4_fetch_43 N g H T S))))))
def KO_X4_fetch_0 (N g H T : Nat) (x0 : Nat) (x1 : Int32) (x2 : Option Nat) (x3 : Int32) (S : cS) : Prop := ((x1 < (nI 1) → KO_X4_fetch_20 N g H T S) ∧ (¬ x1 < (nI 1) → (((nI 40) < x1 → KO_X4_fetch_20 N g H T S) ∧ (¬ (nI 40) < x1 → (vp_in x1 41) ∧ (((cA S (x0 + 4) x1.toNatClampNeg) = 0 → KO_X4_fetch_20 N g H T S) ∧ (¬ (cA S (x0 + 4) x1.toNatClampNeg) = 0 → (vp_in x1 41) ∧ ((x3 < 0 → KO_X4_fetch_43 N g H T S) ∧ (¬ x3 < 0 → (¬ x2 = none) ∧ (((cA S (x0 + 4) x1.toNatClampNeg) ≤ ((nI (cL S (za x2))) - x3) → (p_X4_canRead N g H T S x0 (((nI 2) * x1) - (nI 2))) ∧ (((k_X4_canRead N g H T S x0 (((nI 2) * x1) - (nI 2))) = 0 → KO_X4_fetch_89 N g H T S) ∧ (¬ (k_X4_canRead N g H T S x0 (((nI 2) * x1) - (nI 2))) = 0 → (((cA S (x0 + 4) x1.toNatClampNeg) ≤ (if (nI 504) < (cA S (x0 + 4) x1.toNatClampNeg) then (nI 504) else (cA S (x0 + 4) x1.toNatClampNeg)) → KO_X4_fetch_91 N g H T x0 x2 x3 (cA S (x0 + 4) x1.toNatClampNeg) (if (nI 504) < (cA S (x0 + 4) x1.toNatClampNeg) then (nI 504) else (cA S (x0 + 4) x1.toNatClampNeg)) (((nI 2) * x1) - (nI 2)) S) ∧ (¬ (cA S (x0 + 4) x1.toNatClampNeg) ≤ (if (nI 504) < (cA S (x0 + 4) x1.toNatClampNeg) then (nI 504) else (cA S (x0 + 4) x1.toNatClampNeg)) → (p_X4_canRead N g H T S x0 ((((nI 2) * x1) - (nI 2)) + (nI 1))) ∧ (((k_X4_canRead N g H T S x0 ((((nI 2) * x1) - (nI 2)) + (nI 1))) = 0 → KO_X4_fetch_89 N g H T S) ∧ (¬ (k_X4_canRead N g H T S x0 ((((nI 2) * x1) - (nI 2)) + (nI 1))) = 0 → KO_X4_fetch_91 N g H T x0 x2 x3 (cA S (x0 + 4) x1.toNatClampNeg) (if (nI 504) < (cA S (x0 + 4) x1.toNatClampNeg) then (nI 504) else (cA S (x0 + 4) x1.toNatClampNeg)) (((nI 2) * x1) - (nI 2)) S))))))) ∧ (¬ (cA S (x0 + 4) x1.toNatClampNeg) ≤ ((nI (cL S (za x2))) - x3) → KO_X4_fetch_43 N g H T S))))))))))
set_option maxRecDepth 100000 in
set_option maxHeartbeats 4000000 in
theorem kb_X4_fetch_0 {G : zG} {o : cO} {u g H T N : Nat} {S : cS} {S0 : cS} {Q : Option Value → cS → Prop} {X : Int32 × cS → Prop} (hG : zOK G) (hR : ∀ v S', St u g H T S' → Mono S0 S' → X (v, S') → Q (some (.int v)) S') {x0 : Nat} {x1 : Int32} {x2 : Option Nat} {x3 : Int32} (hS : St u g H T S) (hM : Mono S0 S) (t_x0 : isO g H 3 x0) (t_x2 : tK S 20 x2) (ok : KO_X4_fetch_0 N g H T x0 x1 x2 x3 S) (hx : X (KF_X4_fetch_0 N g H T x0 x1 x2 x3 S)) : cX G o dX4_fetch mX4_fetch 0 [some (va_rf (some x0)), some (.int x1), some (va_rf x2), some (.int x3), none, none, none] [] S Q := by
  unfold KO_X4_fetch_0 at ok
  unfold KF_X4_fetch_0 at hx
  refine c_iload_n dX4_fetch_0 rfl rfl ?_
  refine c_iconst (v := nI 1) dX4_fetch_1 (by decide) ?_
  refine c_icmp_lt (tgt := 20) dX4_fetch_2 (by decide) (fun c_2 => ?_) (fun c_2 => ?_)
  · have ok := ok.1 c_2
    have hx := xif_p c_2 hx
    exact cX.cutz (kb_X4_fetch_20 hG hR hS hM  ok hx) trivial
  · have ok := ok.2 c_2
    have hx := xif_n c_2 hx
    refine c_iload_n dX4_fetch_5 rfl rfl ?_
    refine c_bipush (v := nI 40) dX4_fetch_6 (by decide) ?_
    refine c_icmp_gt (tgt := 20) dX4_fetch_8 (by decide) (fun c_8 => ?_) (fun c_8 => ?_)
    · have ok := ok.1 c_8
      have hx := xif_p c_8 hx
      exact cX.cutz (kb_X4_fetch_20 hG hR hS hM  ok hx) trivial
    · have ok := ok.2 c_8
      have hx := xif_n c_8 hx
      refine c_aload_nQ dX4_fetch_11 rfl rfl ?_
      refine c_getS (C := RX4) (T := TX4) (N := 10) (ci := 3) (k := 3) ⟨rfl, inT4, by decide, fX4_24⟩ (by decide) (by decide) (by decide) dX4_fetch_12 (hS.k t_x0) (hS.r (c := 3) t_x0 rfl (by omega)) ?_
      refine c_iload_n dX4_fetch_15 rfl rfl ?_
      refine c_iald dX4_fetch_16 ⟨(tK.cis (hS.rk (c := 3) (k := 3) t_x0 rfl (by omega)) (Option.some_ne_none _)), (vk_cast (hS.rl (c := 3) (k := 3) t_x0 rfl (by decide) (by omega)) ok.1)⟩ ?_
      have ok := ok.2
      refine c_if_ne (tgt := 22) dX4_fetch_17 (by decide) (fun c_17 => ?_) (fun c_17 => ?_)
      · have ok := ok.2 c_17
        have hx := xif_n c_17 hx
        refine c_aload_nQ dX4_fetch_22 rfl rfl ?_
        refine c_getS (C := RX4) (T := TX4) (N := 10) (ci := 3) (k := 3) ⟨rfl, inT4, by decide, fX4_24⟩ (by decide) (by decide) (by decide) dX4_fetch_23 (hS.k t_x0) (hS.r (c := 3) t_x0 rfl (by omega)) ?_
        refine c_iload_n dX4_fetch_26 rfl rfl ?_
        refine c_iald dX4_fetch_27 ⟨(tK.cis (hS.rk (c := 3) (k := 3) t_x0 rfl (by omega)) (Option.some_ne_none _)), (vk_cast (hS.rl (c := 3) (k := 3) t_x0 rfl (by decide) (by omega)) ok.1)⟩ ?_
        have ok := ok.2
        refine c_istore_4 dX4_fetch_28 (by decide) rfl ?_
        refine c_iload_n dX4_fetch_30 rfl rfl ?_
        refine c_if_lt (tgt := 43) dX4_fetch_31 (by decide) (fun c_31 => ?_) (fun c_31 => ?_)
        · have ok := ok.1 c_31
          have hx := xif_p c_31 hx
          exact cX.cutz (kb_X4_fetch_43 hG hR hS hM  ok hx) trivial
        · have ok := ok.2 c_31
          have hx := xif_n c_31 hx
          refine c_iload dX4_fetch_34 rfl ?_
          refine c_aload_nQ dX4_fetch_36 rfl rfl ?_
          refine c_alenS (t := 0) (ty := .byte) rfl dX4_fetch_37 (tK.cis t_x2 ok.1) rfl ?_
          have ok := ok.2
          refine c_iload_n dX4_fetch_38 rfl rfl ?_
          refine c_isub dX4_fetch_39 ?_
          refine c_icmp_le (tgt := 45) dX4_fetch_40 (by decide) (fun c_40 => ?_) (fun c_40 => ?_)
          · have ok := ok.1 c_40
            have hx := xif_p c_40 hx
            refine c_iload dX4_fetch_45 rfl ?_
            refine c_sipush (v := nI 504) dX4_fetch_47 (by decide) ?_
            refine c_mmin dX4_fetch_50 lX4_45.1 (by decide) (by decide) ?_
            refine c_istore_5 dX4_fetch_53 (by decide) rfl ?_
            refine c_iconst (v := nI 2) dX4_fetch_55 (by decide) ?_
            refine c_iload_n dX4_fetch_56 rfl rfl ?_
            refine c_imul dX4_fetch_57 ?_
            refine c_iconst (v := nI 2) dX4_fetch_58 (by decide) ?_
            refine c_isub dX4_fetch_59 ?_
            refine c_istore_6 dX4_fetch_60 (by decide) rfl ?_
            refine c_aload_nQ dX4_fetch_62 rfl rfl ?_
            refine c_iload dX4_fetch_63 rfl ?_
            refine c_V1iE (ci := 3) (rr := (RX4, TX4, 10)) (y' := mX4_canRead) dX4_fetch_65 lX4_84 kX4_canRead ⟨by decide, by decide⟩ rfl rfl (by decide) (hS.k t_x0) (Nat.le_of_ble_eq_true rfl) (kc_X4_canRead hG hS t_x0 ok.1) ?_
            have ok := ok.2
            refine c_if_eq (tgt := 89) dX4_fetch_68 (by decide) (fun c_68 => ?_) (fun c_68 => ?_)
            · have ok := ok.1 c_68
              have hx := xif_p c_68 hx
              exact cX.cutz (kb_X4_fetch_89 hG hR hS hM  ok hx) trivial
            · have ok := ok.2 c_68
              have hx := xif_n c_68 hx
              refine c_iload dX4_fetch_71 rfl ?_
              refine c_iload dX4_fetch_73 rfl ?_
              refine c_icmp_le (tgt := 91) dX4_fetch_75 (by decide) (fun c_75 => ?_) (fun c_75 => ?_)
              · have ok := ok.1 c_75
                have hx := xif_p c_75 hx
                exact cX.cutz (kb_X4_fetch_91 hG hR hS hM t_x0 t_x2 ok hx) ⟨rfl, rfl, rfl, rfl, rfl, rfl, trivial⟩
              · have ok := ok.2 c_75
                have hx := xif_n c_75 hx
                refine c_aload_nQ dX4_fetch_78 rfl rfl ?_
                refine c_iload dX4_fetch_79 rfl ?_
                refine c_iconst (v := nI 1) dX4_fetch_81 (by decide) ?_
                refine c_iadd dX4_fetch_82 ?_
                refine c_V1iE (ci := 3) (rr := (RX4, TX4, 10)) (y' := mX4_canRead) dX4_fetch_83 lX4_84 kX4_canRead ⟨by decide, by decide⟩ rfl rfl (by decide) (hS.k t_x0) (Nat.le_of_ble_eq_true rfl) (kc_X4_canRead hG hS t_x0 ok.1) ?_
                have ok := ok.2
                refine c_if_ne (tgt := 91) dX4_fetch_86 (by decide) (fun c_86 => ?_) (fun c_86 => ?_)
                · have ok := ok.2 c_86
                  have hx := xif_n c_86 hx
                  exact cX.cutz (kb_X4_fetch_91 hG hR hS hM t_x0 t_x2 ok hx) ⟨rfl, rfl, rfl, rfl, rfl, rfl, trivial⟩
                · have ok := ok.1 c_86
                  have hx := xif_p c_86 hx
                  exact cX.cutz (kb_X4_fetch_89 hG hR hS hM  ok hx) trivial
          · have ok := ok.2 c_40
            have hx := xif_n c_40 hx
            exact cX.cutz (kb_X4_fetch_43 hG hR hS hM  ok hx) trivial
      · have ok := ok.1 c_17
        have hx := xif_p c_17 hx
        exact cX.cutz (kb_X4_fetch_20 hG hR hS hM  ok hx) trivial
def k_X4_fetch (N g H T : Nat) (S : cS) (a0 : Nat) (x1 : Int32) (x2 : Option Nat) (x3 : Int32) : Int32 × cS := KF_X4_fetch_0 N g H T a0 x1 x2 x3 S
def p_X4_fetch (N g H T : Nat) (S : cS) (a0 : Nat) (x1 : Int32) (x2 : Option Nat) (x3 : Int32) : Prop := KO_X4_fetch_0 N g H T a0 x1 x2 x3 S
set_option maxRecDepth 100000 in
set_option maxHeartbeats 4000000 in
theorem kc_X4_fetch {G : zG} {o : cO} {u g H T N : Nat} {S : cS} (hG : zOK G) {a0 : Nat} {x1 : Int32} {x2 : Option Nat} {x3 : Int32} (hS : St u g H T S) (t_x0 : isO g H 3 a0) (t_x2 : tK S 20 x2) (ok : p_X4_fetch N g H T S a0 x1 x2 x3) : cCi G o dX4_fetch mX4_fetch [.ref a0, .int x1, va_rf x2, .int x3] S (fun v S' => (v = (k_X4_fetch N g H T S a0 x1 x2 x3).1 ∧ S' = (k_X4_fetch N g H T S a0 x1 x2 x3).2) ∧ St u g H T S' ∧ Mono S S') := by
  refine cC.ofX rfl (by cases x2 <;> exact Nat.le_of_ble_eq_true rfl) ?_
  rw [show zargs mX4_fetch.2.2.1 [.ref a0, .int x1, va_rf x2, .int x3] = [some (va_rf (some a0)), some (.int x1), some (va_rf x2), some (.int x3), none, none, none] from by cases x2 <;> rfl]
  exact cX.cutz (kb_X4_fetch_0 (X := fun F => F = k_X4_fetch N g H T S a0 x1 x2 x3) hG (fun v S' h1 h2 h => ⟨v, rfl, ⟨by rw [← h], by rw [← h]⟩, h1, h2⟩) hS Mono.rfl' t_x0 t_x2 ok rfl) ⟨rfl, rfl, rfl, rfl, trivial⟩
/-! X6_decided -/
def KF_X6_decided_101 (N g H T : Nat) (x0 : Option Nat) (x1 : Int32) (S : cS) : Option Nat × cS := ((cP S ((za x0) + 13) (x1 &&& (nI 3)).toNatClampNeg), S)
def KO_X6_decided_101 (N g H T : Nat) (x0 : Option Nat) (x1 : Int32) (S : cS) : Prop := (¬ x0 = none) ∧ (vp_in (x1 &&& (nI 3)) 4) ∧ True
set_option maxRecDepth 100000 in
set_option maxHeartbeats 4000000 in
theorem kb_X6_decided_101 {G : zG} {o : cO} {u g H T N : Nat} {S : cS} {S0 : cS} {Q : Option Value → cS → Prop} {X : Option Nat × cS → Prop} (hG : zOK G) (hR : ∀ v S', St u g H T S' → Mono S0 S' → tK S' 5 v → X (v, S') → Q (some (va_rf v)) S') {x0 : Option Nat} {x1 : Int32} (hS : St u g H T S) (hM : Mono S0 S) (t_x0 : tN g H x0) (ok : KO_X6_decided_101 N g H T x0 x1 S) (hx : X (KF_X6_decided_101 N g H T x0 x1 S)) : cX G o dX6_decided mX6_decided 101 [some (va_rf x0), some (.int x1), none, none] [] S Q := by
  unfold KO_X6_decided_101 at ok
  unfold KF_X6_decided_101 at hx
  refine c_aload_nQ dX6_decided_101 rfl rfl ?_
  have nn_102 := ok.1
  refine c_getS (C := RX6) (T := TX6) (N := 19) (ci := 5) (k := 7) ⟨rfl, inT6, by decide, fX6_35⟩ (by decide) (by decide) (by decide) dX6_decided_102 (hS.kN t_x0 ok.1) (hS.r (c := 5) (tN.o t_x0 ok.1) rfl (by omega)) ?_
  have ok := ok.2
  refine c_iload_n dX6_decided_105 rfl rfl ?_
  refine c_iconst (v := nI 3) dX6_decided_106 (by decide) ?_
  refine c_iand dX6_decided_107 ?_
  have p_108 := hS.row24 (hS.rk (c := 5) (k := 7) (tN.o t_x0 nn_102) rfl (by omega)) (x1 &&& (nI 3)).toNatClampNeg
  refine c_aald (t := 4) (ty := (.object "QuorumLedger$Message")) rfl rfl (by decide) dX6_decided_108 ⟨(tK.cis (hS.rk (c := 5) (k := 7) (tN.o t_x0 nn_102) rfl (by omega)) (Option.some_ne_none _)), (vk_cast (hS.rl (c := 5) (k := 7) (tN.o t_x0 nn_102) rfl (by decide) (by omega)) ok.1)⟩ ?_
  have ok := ok.2
  exact c_areturn rfl (Or.inl ⟨_, rfl⟩) dX6_decided_109 (hR _ _ hS hM p_108 hx)
def KF_X6_decided_92 (N g H T : Nat) (x0 : Option Nat) (x1 : Int32) (x3 : Option Nat) (S : cS) : Option Nat × cS := (KF_X6_decided_101 N g H T x0 x1 (csP S ((za x0) + 13) (x1 &&& (nI 3)).toNatClampNeg x3))
def KO_X6_decided_92 (N g H T : Nat) (x0 : Option Nat) (x1 : Int32) (x3 : Option Nat) (S : cS) : Prop := (¬ x0 = none) ∧ (vp_in (x1 &&& (nI 3)) 4) ∧ KO_X6_decided_101 N g H T x0 x1 (csP S ((za x0) + 13) (x1 &&& (nI 3)).toNatClampNeg x3)
set_option maxRecDepth 100000 in
set_option maxHeartbeats 4000000 in
theorem kb_X6_decided_92 {G : zG} {o : cO} {u g H T N : Nat} {S : cS} {S0 : cS} {Q : Option Value → cS → Prop} {X : Option Nat × cS → Prop} (hG : zOK G) (hR : ∀ v S', St u g H T S' → Mono S0 S' → tK S' 5 v → X (v, S') → Q (some (va_rf v)) S') {x0 : Option Nat} {x1 : Int32} {x3 : Option Nat} (hS : St u g H T S) (hM : Mono S0 S) (t_x0 : tN g H x0) (t_x3 : tK S 5 x3) (ok : KO_X6_decided_92 N g H T x0 x1 x3 S) (hx : X (KF_X6_decided_92 N g H T x0 x1 x3 S)) : cX G o dX6_decided mX6_decided 92 [some (va_rf x0), some (.int x1), none, some (va_rf x3)] [] S Q := by
  unfold KO_X6_decided_92 at ok
  unfold KF_X6_decided_92 at hx
  refine c_aload_nQ dX6_decided_92 rfl rfl ?_
  have nn_93 := ok.1
  refine c_getS (C := RX6) (T := TX6) (N := 19) (ci := 5) (k := 7) ⟨rfl, inT6, by decide, fX6_35⟩ (by decide) (by decide) (by decide) dX6_decided_93 (hS.kN t_x0 ok.1) (hS.r (c := 5) (tN.o t_x0 ok.1) rfl (by omega)) ?_
  have ok := ok.2
  refine c_iload_n dX6_decided_96 rfl rfl ?_
  refine c_iconst (v := nI 3) dX6_decided_97 (by decide) ?_
  refine c_iand dX6_decided_98 ?_
  refine c_aload_nQ dX6_decided_99 rfl rfl ?_
  have hS2 := hS.P24 (i := (x1 &&& (nI 3)).toNatClampNeg) ((hS.rk (c := 5) (k := 7) (tN.o t_x0 nn_93) rfl (by omega)) _ rfl) t_x3
  refine c_aast (t := 4) (ci := 4) (rr := (RX5, TX5, 7)) rfl rfl (by decide) (by decide) dX6_decided_100 ⟨(tK.cis (hS.rk (c := 5) (k := 7) (tN.o t_x0 nn_93) rfl (by omega)) (Option.some_ne_none _)), (vk_cast (hS.rl (c := 5) (k := 7) (tN.o t_x0 nn_93) rfl (by decide) (by omega)) ok.1), tKor t_x3⟩ ?_
  have hS := hS2
  have hM := hM.P ((za x0) + 13) (x1 &&& (nI 3)).toNatClampNeg x3
  have ok := ok.2
  exact cX.cutz (kb_X6_decided_101 hG hR hS hM t_x0 ok hx) ⟨rfl, rfl, trivial⟩
def KF_X6_decided_67 (N g H T : Nat) (x0 : Option Nat) (x1 : Int32) (x2 : Int32) (s0 : Option Nat) (S : cS) : Option Nat × cS := (KF_X6_decided_92 N g H T x0 x1 s0 (csArow (csA S ((za s0) + 2) (nI 0).toNatClampNeg ((nI 4).toInt8.toInt32)) ((za s0) + 2) (va_cpy (cA (csA S ((za s0) + 2) (nI 0).toNatClampNeg ((nI 4).toInt8.toInt32)) (g + 28)) (cA (csA S ((za s0) + 2) (nI 0).toNatClampNeg ((nI 4).toInt8.toInt32)) ((za s0) + 2)) (nI 0).toNatClampNeg (nI 1).toNatClampNeg x2.toNatClampNeg)))
def KO_X6_decided_67 (N g H T : Nat) (x0 : Option Nat) (x1 : Int32) (x2 : Int32) (s0 : Option Nat) (S : cS) : Prop := (¬ s0 = none) ∧ (vp_in (nI 0) (cL S ((za s0) + 2))) ∧ (¬ x0 = none) ∧ ((¬ (nI 0) < 0 ∧ ¬ (nI 1) < 0 ∧ ¬ x2 < 0) ∧ (nI 0).toNatClampNeg + x2.toNatClampNeg ≤ 1024 ∧ (nI 1).toNatClampNeg + x2.toNatClampNeg ≤ (cL (csA S ((za s0) + 2) (nI 0).toNatClampNeg ((nI 4).toInt8.toInt32)) ((za s0) + 2))) ∧ KO_X6_decided_92 N g H T x0 x1 s0 (csArow (csA S ((za s0) + 2) (nI 0).toNatClampNeg ((nI 4).toInt8.toInt32)) ((za s0) + 2) (va_cpy (cA (csA S ((za s0) + 2) (nI 0).toNatClampNeg ((nI 4).toInt8.toInt32)) (g + 28)) (cA (csA S ((za s0) + 2) (nI 0).toNatClampNeg ((nI 4).toInt8.toInt32)) ((za s0) + 2)) (nI 0).toNatClampNeg (nI 1).toNatClampNeg x2.toNatClampNeg))
set_option maxRecDepth 100000 in
set_option maxHeartbeats 4000000 in
theorem kb_X6_decided_67 {G : zG} {o : cO} {u g H T N : Nat} {S : cS} {S0 : cS} {Q : Option Value → cS → Prop} {X : Option Nat × cS → Prop} (hG : zOK G) (hR : ∀ v S', St u g H T S' → Mono S0 S' → tK S' 5 v → X (v, S') → Q (some (va_rf v)) S') {x0 : Option Nat} {x1 : Int32} {x2 : Int32} {s0 : Option Nat} (hS : St u g H T S) (hM : Mono S0 S) (t_x0 : tN g H x0) (t_s0 : tK S 5 s0) (ok : KO_X6_decided_67 N g H T x0 x1 x2 s0 S) (hx : X (KF_X6_decided_67 N g H T x0 x1 x2 s0 S)) : cX G o dX6_decided mX6_decided 67 [some (va_rf x0), some (.int x1), some (.int x2), none] [va_rf s0] S Q := by
  unfold KO_X6_decided_67 at ok
  unfold KF_X6_decided_67 at hx
  refine c_astore_3Q dX6_decided_67 (by decide) rfl ?_
  refine c_aload_nQ dX6_decided_68 rfl rfl ?_
  have nn_69 := ok.1
  have p_69 := hS.m0k t_s0 ok.1
  refine c_getS (C := RX5) (T := TX5) (N := 7) (ci := 4) (k := 0) ⟨rfl, inT5, by decide, fX6_131⟩ (by decide) (by decide) (by decide) dX6_decided_69 (tK.cis t_s0 ok.1) (hS.m0 t_s0 ok.1) ?_
  have ok := ok.2
  refine c_iconst (v := nI 0) dX6_decided_72 (by decide) ?_
  refine c_iconst (v := nI 4) dX6_decided_73 (by decide) ?_
  refine c_bast dX6_decided_74 ⟨(tK.cis p_69 (Option.some_ne_none _)), ok.1⟩ ?_
  have hS := hS.Ab ((za s0) + 2) (nI 0).toNatClampNeg (nI 4)
  have hM := hM.A ((za s0) + 2) (nI 0).toNatClampNeg ((nI 4).toInt8.toInt32)
  have ok := ok.2
  refine c_aload_nQ dX6_decided_75 rfl rfl ?_
  have nn_76 := ok.1
  refine c_getS (C := RX6) (T := TX6) (N := 19) (ci := 5) (k := 0) ⟨rfl, inT6, by decide, fX6_56⟩ (by decide) (by decide) (by decide) dX6_decided_76 (hS.kN t_x0 ok.1) (hS.r (c := 5) (tN.o t_x0 ok.1) rfl (by omega)) ?_
  have ok := ok.2
  refine c_getS (C := RX10) (T := TX10) (N := 12) (ci := 8) (k := 10) ⟨rfl, inT10, by decide, fX6_179⟩ (by decide) (by decide) (by decide) dX6_decided_79 (hS.k (o50 (tN.o t_x0 nn_76))) (hS.r (c := 8) (o50 (tN.o t_x0 nn_76)) rfl (by omega)) ?_
  refine c_iconst (v := nI 0) dX6_decided_82 (by decide) ?_
  refine c_aload_nQ dX6_decided_83 rfl rfl ?_
  have p_84 := hS.m0k (tK_A t_s0) nn_69
  refine c_getS (C := RX5) (T := TX5) (N := 7) (ci := 4) (k := 0) ⟨rfl, inT5, by decide, fX6_131⟩ (by decide) (by decide) (by decide) dX6_decided_84 (tK.cis (tK_A t_s0) nn_69) (hS.m0 (tK_A t_s0) nn_69) ?_
  refine c_iconst (v := nI 1) dX6_decided_87 (by decide) ?_
  refine c_iload_n dX6_decided_88 rfl rfl ?_
  have tq_89 : tK (csA S ((za s0) + 2) (nI 0).toNatClampNeg ((nI 4).toInt8.toInt32)) 20 (some (g + 28)) := tK_some (tK.cis (hS.rk (c := 8) (k := 10) (o50 (tN.o t_x0 nn_76)) rfl (by omega)) (Option.some_ne_none _)).2
  refine c_copy0 hG dX6_decided_89 qX6_166 (by decide) (by decide) ⟨tK.cis (hS.rk (c := 8) (k := 10) (o50 (tN.o t_x0 nn_76)) rfl (by omega)) (Option.some_ne_none _), tK.cis p_84 (Option.some_ne_none _), ok.1.1, (le_cast (hS.rl (c := 8) (k := 10) (o50 (tN.o t_x0 nn_76)) rfl (by decide) (by omega)) ok.1.2.1), ok.1.2.2⟩ ?_
  have hS := hS.Ac ((za s0) + 2) (g + 28) (nI 0).toNatClampNeg (nI 1).toNatClampNeg x2.toNatClampNeg tq_89
  have hM := hM.Ar ((za s0) + 2) (va_cpy (cA (csA S ((za s0) + 2) (nI 0).toNatClampNeg ((nI 4).toInt8.toInt32)) (g + 28)) (cA (csA S ((za s0) + 2) (nI 0).toNatClampNeg ((nI 4).toInt8.toInt32)) ((za s0) + 2)) (nI 0).toNatClampNeg (nI 1).toNatClampNeg x2.toNatClampNeg)
  have ok := ok.2
  exact cX.cutz (kb_X6_decided_92 hG hR hS hM t_x0 (tK_Ar (tK_A t_s0)) ok hx) ⟨rfl, rfl, rfl, trivial⟩
def KF_X6_decided_47 (N g H T : Nat) (x0 : Option Nat) (x1 : Int32) (s0 : Int32) (S : cS) : Option Nat × cS := (if 0 ≤ s0 then (KF_X6_decided_67 N g H T x0 x1 s0 ((k_X9_fresh N g H T S (g + 11) ((nI 1) + s0)).1) (k_X9_fresh N g H T S (g + 11) ((nI 1) + s0)).2) else ((none : Option Nat), S))
def KO_X6_decided_47 (N g H T : Nat) (x0 : Option Nat) (x1 : Int32) (s0 : Int32) (S : cS) : Prop := ((0 ≤ s0 → (¬ x0 = none) ∧ (p_X9_fresh N g H T S (g + 11) ((nI 1) + s0)) ∧ KO_X6_decided_67 N g H T x0 x1 s0 ((k_X9_fresh N g H T S (g + 11) ((nI 1) + s0)).1) (k_X9_fresh N g H T S (g + 11) ((nI 1) + s0)).2) ∧ (¬ 0 ≤ s0 → True))
set_option maxRecDepth 100000 in
set_option maxHeartbeats 4000000 in
theorem kb_X6_decided_47 {G : zG} {o : cO} {u g H T N : Nat} {S : cS} {S0 : cS} {Q : Option Value → cS → Prop} {X : Option Nat × cS → Prop} (hG : zOK G) (hR : ∀ v S', St u g H T S' → Mono S0 S' → tK S' 5 v → X (v, S') → Q (some (va_rf v)) S') {x0 : Option Nat} {x1 : Int32} {s0 : Int32} (hS : St u g H T S) (hM : Mono S0 S) (t_x0 : tN g H x0) (ok : KO_X6_decided_47 N g H T x0 x1 s0 S) (hx : X (KF_X6_decided_47 N g H T x0 x1 s0 S)) : cX G o dX6_decided mX6_decided 47 [some (va_rf x0), some (.int x1), none, none] [.int s0] S Q := by
  unfold KO_X6_decided_47 at ok
  unfold KF_X6_decided_47 at hx
  refine c_istore_2 dX6_decided_47 (by decide) rfl ?_
  refine c_iload_n dX6_decided_48 rfl rfl ?_
  refine c_if_ge (tgt := 54) dX6_decided_49 (by decide) (fun c_49 => ?_) (fun c_49 => ?_)
  · have ok := ok.1 c_49
    have hx := xif_p c_49 hx
    refine c_aload_nQ dX6_decided_54 rfl rfl ?_
    have nn_55 := ok.1
    refine c_getS (C := RX6) (T := TX6) (N := 19) (ci := 5) (k := 0) ⟨rfl, inT6, by decide, fX6_56⟩ (by decide) (by decide) (by decide) dX6_decided_55 (hS.kN t_x0 ok.1) (hS.r (c := 5) (tN.o t_x0 ok.1) rfl (by omega)) ?_
    have ok := ok.2
    refine c_getS (C := RX10) (T := TX10) (N := 12) (ci := 8) (k := 6) ⟨rfl, inT10, by decide, fX6_65⟩ (by decide) (by decide) (by decide) dX6_decided_58 (hS.k (o50 (tN.o t_x0 nn_55))) (hS.r (c := 8) (o50 (tN.o t_x0 nn_55)) rfl (by omega)) ?_
    refine c_iconst (v := nI 1) dX6_decided_61 (by decide) ?_
    refine c_iload_n dX6_decided_62 rfl rfl ?_
    refine c_iadd dX6_decided_63 ?_
    refine c_V1qK (ci := 7) (rr := (RX9, TX9, 13)) (y' := mX9_fresh) dX6_decided_64 lX6_127 kX9_fresh ⟨by decide, by decide⟩ rfl rfl (by decide) (hS.k (o86 (o50 (tN.o t_x0 nn_55)))) (Nat.le_of_ble_eq_true rfl) (kc_X9_fresh hG hS (o86 (o50 (tN.o t_x0 nn_55))) ok.1) (fun ⟨hS, hm_64, tv_64⟩ => ?_)
    have hM := hM.trans hm_64
    have ok := ok.2
    exact cX.cutz (kb_X6_decided_67 hG hR hS hM t_x0 tv_64 ok hx) ⟨rfl, rfl, rfl, trivial⟩
  · have ok := ok.2 c_49
    have hx := xif_n c_49 hx
    refine c_null' dX6_decided_52 ?_
    exact c_areturn rfl (Or.inl ⟨_, rfl⟩) dX6_decided_53 (hR _ _ hS hM tK_none hx)
def KF_X6_decided_18 (N g H T : Nat)  (S : cS) : Option Nat × cS := ((none : Option Nat), S)
def KO_X6_decided_18 (N g H T : Nat)  (S : cS) : Prop := True
set_option maxRecDepth 100000 in
set_option maxHeartbeats 4000000 in
theorem kb_X6_decided_18 {G : zG} {o : cO} {u g H T N : Nat} {S : cS} {S0 : cS} {Q : Option Value → cS → Prop} {X : Option Nat × cS → Prop} (hG : zOK G) (hR : ∀ v S', St u g H T S' → Mono S0 S' → tK S' 5 v → X (v, S') → Q (some (va_rf v)) S') (hS : St u g H T S) (hM : Mono S0 S) (ok : KO_X6_decided_18 N g H T S) (hx : X (KF_X6_decided_18 N g H T S)) : cX G o dX6_decided mX6_decided 18 [none, none, none, none] [] S Q := by
  unfold KO_X6_decided_18 at ok
  unfold KF_X6_decided_18 at hx
  refine c_null' dX6_decided_18 ?_
  exact c_areturn rfl (Or.inl ⟨_, rfl⟩) dX6_decided_19 (hR _ _ hS hM tK_none hx)
def KF_X6_decided_0 (N g H T : Nat) (x0 : Option Nat) (x1 : Int32) (S : cS) : Option Nat × cS := (if x1 < ((cI S 9 (za x0)) - (nI 4)) then (KF_X6_decided_18 N g H T S) else (if x1 < (cI S 9 (za x0)) then (if (cP S ((za x0) + 13) (x1 &&& (nI 3)).toNatClampNeg) = none then (KF_X6_decided_47 N g H T x0 x1 ((k_X4_fetch N g H T S ((za x0) + 1) x1 (some (g + 28)) (nI 0)).1) (k_X4_fetch N g H T S ((za x0) + 1) x1 (some (g + 28)) (nI 0)).2) else (KF_X6_decided_101 N g H T x0 x1 S)) else (KF_X6_decided_18 N g H T S)))
def KO_X6_decided_0 (N g H T : Nat) (x0 : Option Nat) (x1 : Int32) (S : cS) : Prop := (¬ x0 = none) ∧ ((x1 < ((cI S 9 (za x0)) - (nI 4)) → KO_X6_decided_18 N g H T S) ∧ (¬ x1 < ((cI S 9 (za x0)) - (nI 4)) → ((x1 < (cI S 9 (za x0)) → (vp_in (x1 &&& (nI 3)) 4) ∧ (((cP S ((za x0) + 13) (x1 &&& (nI 3)).toNatClampNeg) = none → (p_X4_fetch N g H T S ((za x0) + 1) x1 (some (g + 28)) (nI 0)) ∧ KO_X6_decided_47 N g H T x0 x1 ((k_X4_fetch N g H T S ((za x0) + 1) x1 (some (g + 28)) (nI 0)).1) (k_X4_fetch N g H T S ((za x0) + 1) x1 (some (g + 28)) (nI 0)).2) ∧ (¬ (cP S ((za x0) + 13) (x1 &&& (nI 3)).toNatClampNeg) = none → KO_X6_decided_101 N g H T x0 x1 S))) ∧ (¬ x1 < (cI S 9 (za x0)) → KO_X6_decided_18 N g H T S))))
set_option maxRecDepth 100000 in
set_option maxHeartbeats 4000000 in
theorem kb_X6_decided_0 {G : zG} {o : cO} {u g H T N : Nat} {S : cS} {S0 : cS} {Q : Option Value → cS → Prop} {X : Option Nat × cS → Prop} (hG : zOK G) (hR : ∀ v S', St u g H T S' → Mono S0 S' → tK S' 5 v → X (v, S') → Q (some (va_rf v)) S') {x0 : Option Nat} {x1 : Int32} (hS : St u g H T S) (hM : Mono S0 S) (t_x0 : tN g H x0) (ok : KO_X6_decided_0 N g H T x0 x1 S) (hx : X (KF_X6_decided_0 N g H T x0 x1 S)) : cX G o dX6_decided mX6_decided 0 [some (va_rf x0), some (.int x1), none, none] [] S Q := by
  unfold KO_X6_decided_0 at ok
  unfold KF_X6_decided_0 at hx
  refine c_iload_n dX6_decided_0 rfl rfl ?_
  refine c_aload_nQ dX6_decided_1 rfl rfl ?_
  have nn_2 := ok.1
  refine c_getI (C := RX6) (T := TX6) (N := 19) (ci := 5) (k := 9) ⟨rfl, inT6, by decide, fX6_43⟩ (by decide) (by decide) (by decide) dX6_decided_2 (hS.kN t_x0 ok.1) ?_
  have ok := ok.2
  refine c_iconst (v := nI 4) dX6_decided_5 (by decide) ?_
  refine c_isub dX6_decided_6 ?_
  refine c_icmp_lt (tgt := 18) dX6_decided_7 (by decide) (fun c_7 => ?_) (fun c_7 => ?_)
  · have ok := ok.1 c_7
    have hx := xif_p c_7 hx
    exact cX.cutz (kb_X6_decided_18 hG hR hS hM  ok hx) trivial
  · have ok := ok.2 c_7
    have hx := xif_n c_7 hx
    refine c_iload_n dX6_decided_10 rfl rfl ?_
    refine c_aload_nQ dX6_decided_11 rfl rfl ?_
    refine c_getI (C := RX6) (T := TX6) (N := 19) (ci := 5) (k := 9) ⟨rfl, inT6, by decide, fX6_43⟩ (by decide) (by decide) (by decide) dX6_decided_12 (hS.kN t_x0 nn_2) ?_
    refine c_icmp_lt (tgt := 20) dX6_decided_15 (by decide) (fun c_15 => ?_) (fun c_15 => ?_)
    · have ok := ok.1 c_15
      have hx := xif_p c_15 hx
      refine c_aload_nQ dX6_decided_20 rfl rfl ?_
      refine c_getS (C := RX6) (T := TX6) (N := 19) (ci := 5) (k := 7) ⟨rfl, inT6, by decide, fX6_35⟩ (by decide) (by decide) (by decide) dX6_decided_21 (hS.kN t_x0 nn_2) (hS.r (c := 5) (tN.o t_x0 nn_2) rfl (by omega)) ?_
      refine c_iload_n dX6_decided_24 rfl rfl ?_
      refine c_iconst (v := nI 3) dX6_decided_25 (by decide) ?_
      refine c_iand dX6_decided_26 ?_
      have p_27 := hS.row24 (hS.rk (c := 5) (k := 7) (tN.o t_x0 nn_2) rfl (by omega)) (x1 &&& (nI 3)).toNatClampNeg
      refine c_aald (t := 4) (ty := (.object "QuorumLedger$Message")) rfl rfl (by decide) dX6_decided_27 ⟨(tK.cis (hS.rk (c := 5) (k := 7) (tN.o t_x0 nn_2) rfl (by omega)) (Option.some_ne_none _)), (vk_cast (hS.rl (c := 5) (k := 7) (tN.o t_x0 nn_2) rfl (by decide) (by omega)) ok.1)⟩ ?_
      have ok := ok.2
      refine c_ifnonnullI (tgt := 101) dX6_decided_28 (by decide) (fun c_28 => ?_) (fun c_28 => ?_)
      · have ok := ok.2 c_28
        have hx := xif_n c_28 hx
        exact cX.cutz (kb_X6_decided_101 hG hR hS hM t_x0 ok hx) ⟨rfl, rfl, trivial⟩
      · have ok := ok.1 c_28
        have hx := xif_p c_28 hx
        refine c_aload_nQ dX6_decided_31 rfl rfl ?_
        refine c_getS (C := RX6) (T := TX6) (N := 19) (ci := 5) (k := 2) ⟨rfl, inT6, by decide, fX6_12⟩ (by decide) (by decide) (by decide) dX6_decided_32 (hS.kN t_x0 nn_2) (hS.r (c := 5) (tN.o t_x0 nn_2) rfl (by omega)) ?_
        refine c_iload_n dX6_decided_35 rfl rfl ?_
        refine c_aload_nQ dX6_decided_36 rfl rfl ?_
        refine c_getS (C := RX6) (T := TX6) (N := 19) (ci := 5) (k := 0) ⟨rfl, inT6, by decide, fX6_56⟩ (by decide) (by decide) (by decide) dX6_decided_37 (hS.kN t_x0 nn_2) (hS.r (c := 5) (tN.o t_x0 nn_2) rfl (by omega)) ?_
        refine c_getS (C := RX10) (T := TX10) (N := 12) (ci := 8) (k := 10) ⟨rfl, inT10, by decide, fX6_179⟩ (by decide) (by decide) (by decide) dX6_decided_40 (hS.k (o50 (tN.o t_x0 nn_2))) (hS.r (c := 8) (o50 (tN.o t_x0 nn_2)) rfl (by omega)) ?_
        refine c_iconst (v := nI 0) dX6_decided_43 (by decide) ?_
        refine c_V3iK (ci := 3) (rr := (RX4, TX4, 10)) (y' := mX4_fetch) dX6_decided_44 lX6_182 kX4_fetch ⟨by decide, by decide⟩ rfl rfl (by decide) (hS.k (o52 (tN.o t_x0 nn_2))) (Nat.le_of_ble_eq_true rfl) (kc_X4_fetch hG hS (o52 (tN.o t_x0 nn_2)) (hS.rk (c := 8) (k := 10) (o50 (tN.o t_x0 nn_2)) rfl (by omega)) ok.1) (fun ⟨hS, hm_44⟩ => ?_)
        have hM := hM.trans hm_44
        have ok := ok.2
        exact cX.cutz (kb_X6_decided_47 hG hR hS hM t_x0 ok hx) ⟨rfl, rfl, trivial⟩
    · have ok := ok.2 c_15
      have hx := xif_n c_15 hx
      exact cX.cutz (kb_X6_decided_18 hG hR hS hM  ok hx) trivial
def k_X6_decided (N g H T : Nat) (S : cS) (a0 : Nat) (x1 : Int32) : Option Nat × cS := KF_X6_decided_0 N g H T (some a0) x1 S
def p_X6_decided (N g H T : Nat) (S : cS) (a0 : Nat) (x1 : Int32) : Prop := KO_X6_decided_0 N g H T (some a0) x1 S
set_option maxRecDepth 100000 in
set_option maxHeartbeats 4000000 in
theorem kc_X6_decided {G : zG} {o : cO} {u g H T N : Nat} {S : cS} (hG : zOK G) {a0 : Nat} {x1 : Int32} (hS : St u g H T S) (t_x0 : isO g H 5 a0) (ok : p_X6_decided N g H T S a0 x1) : cCq G o dX6_decided mX6_decided [.ref a0, .int x1] S (fun v S' => (v = (k_X6_decided N g H T S a0 x1).1 ∧ S' = (k_X6_decided N g H T S a0 x1).2) ∧ St u g H T S' ∧ Mono S S' ∧ tK S' 5 v) := by
  refine cC.ofX rfl (by exact Nat.le_of_ble_eq_true rfl) ?_
  show cX G o dX6_decided mX6_decided 0 [some (va_rf (some a0)), some (.int x1), none, none] [] S _
  exact cX.cutz (kb_X6_decided_0 (X := fun F => F = k_X6_decided N g H T S a0 x1) hG (fun v S' h1 h2 h3 h => ⟨v, rfl, ⟨by rw [← h], by rw [← h]⟩, h1, h2, h3⟩) hS Mono.rfl' (tN_some t_x0) ok rfl) ⟨rfl, rfl, trivial⟩
/-! X6_snapshot -/
def KF_X6_snapshot_101 (N g H T : Nat) (x1 : Option Nat) (S : cS) : Option Nat × cS := (x1, S)
def KO_X6_snapshot_101 (N g H T : Nat) (x1 : Option Nat) (S : cS) : Prop := True
set_option maxRecDepth 100000 in
set_option maxHeartbeats 4000000 in
theorem kb_X6_snapshot_101 {G : zG} {o : cO} {u g H T N : Nat} {S : cS} {S0 : cS} {Q : Option Value → cS → Prop} {X : Option Nat × cS → Prop} (hG : zOK G) (hR : ∀ v S', St u g H T S' → Mono S0 S' → tK S' 5 v → X (v, S') → Q (some (va_rf v)) S') {x1 : Option Nat} (hS : St u g H T S) (hM : Mono S0 S) (t_x1 : tK S 5 x1) (ok : KO_X6_snapshot_101 N g H T x1 S) (hx : X (KF_X6_snapshot_101 N g H T x1 S)) : cX G o dX6_snapshot mX6_snapshot 101 [none, some (va_rf x1), none, none] [] S Q := by
  unfold KO_X6_snapshot_101 at ok
  unfold KF_X6_snapshot_101 at hx
  refine c_aload_nQ dX6_snapshot_101 rfl rfl ?_
  exact c_areturn rfl (Or.inl ⟨_, rfl⟩) dX6_snapshot_102 (hR _ _ hS hM t_x1 hx)
def KF_X6_snapshot_92 (N g H T : Nat) (rec : Option Nat → Option Nat → Int32 → Int32 → cS → Nat × Option Nat × cS) (x0 : Option Nat) (x1 : Option Nat) (x2 : Int32) (x3 : Int32) (S : cS) : Nat × Option Nat × cS := (rec x0 x1 (x2 + nI 1) (x3 + nI 5) S)
def KO_X6_snapshot_92 (N g H T : Nat) (rok : Option Nat → Option Nat → Int32 → Int32 → cS → Prop) (x0 : Option Nat) (x1 : Option Nat) (x2 : Int32) (x3 : Int32) (S : cS) : Prop := rok x0 x1 (x2 + nI 1) (x3 + nI 5) S
set_option maxRecDepth 100000 in
set_option maxHeartbeats 4000000 in
theorem kb_X6_snapshot_92 {G : zG} {o : cO} {u g H T N : Nat} {S : cS} {S0 : cS} {Q : Option Value → cS → Prop} {X : Nat × Option Nat × cS → Prop} (hG : zOK G) (hX0 : ∀ (x1 : Option Nat) (S' : cS), St u g H T S' → Mono S0 S' → tK S' 5 x1 → X (0, x1, S') → cX G o dX6_snapshot mX6_snapshot 101 [none, some (va_rf x1), none, none] [] S' Q) {rec : Option Nat → Option Nat → Int32 → Int32 → cS → Nat × Option Nat × cS} {rok : Option Nat → Option Nat → Int32 → Int32 → cS → Prop} (hrec : ∀ (x0 : Option Nat) (x1 : Option Nat) (x2 : Int32) (x3 : Int32) (S : cS), St u g H T S → Mono S0 S → tN g H x0 → tK S 5 x1 → rok x0 x1 x2 x3 S → X (rec x0 x1 x2 x3 S) → cX G o dX6_snapshot mX6_snapshot 53 [some (va_rf x0), some (va_rf x1), some (.int x2), some (.int x3)] [] S Q) {x0 : Option Nat} {x1 : Option Nat} {x2 : Int32} {x3 : Int32} (hS : St u g H T S) (hM : Mono S0 S) (t_x0 : tN g H x0) (t_x1 : tK S 5 x1) (ok : KO_X6_snapshot_92 N g H T rok x0 x1 x2 x3 S) (hx : X (KF_X6_snapshot_92 N g H T rec x0 x1 x2 x3 S)) : cX G o dX6_snapshot mX6_snapshot 92 [some (va_rf x0), some (va_rf x1), some (.int x2), some (.int x3)] [] S Q := by
  unfold KO_X6_snapshot_92 at ok
  unfold KF_X6_snapshot_92 at hx
  refine c_iinc_2 (v := (x2 + nI 1)) dX6_snapshot_92 rfl (by first | rfl | (congr 1)) (by decide) (by simp [zok, zg, zcat_rf]) ?_
  refine c_iinc_3 (v := (x3 + nI 5)) dX6_snapshot_95 rfl (by first | rfl | (congr 1)) (by decide) rfl ?_
  refine c_goto (tgt := 53) dX6_snapshot_98 (by decide) ?_
  exact cX.cutz (hrec _ _ _ _ S hS hM t_x0 t_x1 ok hx) ⟨rfl, rfl, rfl, rfl, trivial⟩
def KF_X6_snapshot_75 (N g H T : Nat) (rec : Option Nat → Option Nat → Int32 → Int32 → cS → Nat × Option Nat × cS) (x0 : Option Nat) (x1 : Option Nat) (x2 : Int32) (x3 : Int32) (S : cS) : Nat × Option Nat × cS := (KF_X6_snapshot_92 N g H T rec x0 x1 x2 x3 (csArow S ((za x1) + 2) (va_cpy (cA S (g + 29)) (cA S ((za x1) + 2)) (nI 1).toNatClampNeg x3.toNatClampNeg (nI 5).toNatClampNeg)))
def KO_X6_snapshot_75 (N g H T : Nat) (rok : Option Nat → Option Nat → Int32 → Int32 → cS → Prop) (x0 : Option Nat) (x1 : Option Nat) (x2 : Int32) (x3 : Int32) (S : cS) : Prop := (¬ x0 = none) ∧ (¬ x1 = none) ∧ ((¬ (nI 1) < 0 ∧ ¬ x3 < 0 ∧ ¬ (nI 5) < 0) ∧ (nI 1).toNatClampNeg + (nI 5).toNatClampNeg ≤ 32 ∧ x3.toNatClampNeg + (nI 5).toNatClampNeg ≤ (cL S ((za x1) + 2))) ∧ KO_X6_snapshot_92 N g H T rok x0 x1 x2 x3 (csArow S ((za x1) + 2) (va_cpy (cA S (g + 29)) (cA S ((za x1) + 2)) (nI 1).toNatClampNeg x3.toNatClampNeg (nI 5).toNatClampNeg))
set_option maxRecDepth 100000 in
set_option maxHeartbeats 4000000 in
theorem kb_X6_snapshot_75 {G : zG} {o : cO} {u g H T N : Nat} {S : cS} {S0 : cS} {Q : Option Value → cS → Prop} {X : Nat × Option Nat × cS → Prop} (hG : zOK G) (hX0 : ∀ (x1 : Option Nat) (S' : cS), St u g H T S' → Mono S0 S' → tK S' 5 x1 → X (0, x1, S') → cX G o dX6_snapshot mX6_snapshot 101 [none, some (va_rf x1), none, none] [] S' Q) {rec : Option Nat → Option Nat → Int32 → Int32 → cS → Nat × Option Nat × cS} {rok : Option Nat → Option Nat → Int32 → Int32 → cS → Prop} (hrec : ∀ (x0 : Option Nat) (x1 : Option Nat) (x2 : Int32) (x3 : Int32) (S : cS), St u g H T S → Mono S0 S → tN g H x0 → tK S 5 x1 → rok x0 x1 x2 x3 S → X (rec x0 x1 x2 x3 S) → cX G o dX6_snapshot mX6_snapshot 53 [some (va_rf x0), some (va_rf x1), some (.int x2), some (.int x3)] [] S Q) {x0 : Option Nat} {x1 : Option Nat} {x2 : Int32} {x3 : Int32} (hS : St u g H T S) (hM : Mono S0 S) (t_x0 : tN g H x0) (t_x1 : tK S 5 x1) (ok : KO_X6_snapshot_75 N g H T rok x0 x1 x2 x3 S) (hx : X (KF_X6_snapshot_75 N g H T rec x0 x1 x2 x3 S)) : cX G o dX6_snapshot mX6_snapshot 75 [some (va_rf x0), some (va_rf x1), some (.int x2), some (.int x3)] [] S Q := by
  unfold KO_X6_snapshot_75 at ok
  unfold KF_X6_snapshot_75 at hx
  refine c_aload_nQ dX6_snapshot_75 rfl rfl ?_
  have nn_76 := ok.1
  refine c_getS (C := RX6) (T := TX6) (N := 19) (ci := 5) (k := 0) ⟨rfl, inT6, by decide, fX6_56⟩ (by decide) (by decide) (by decide) dX6_snapshot_76 (hS.kN t_x0 ok.1) (hS.r (c := 5) (tN.o t_x0 ok.1) rfl (by omega)) ?_
  have ok := ok.2
  refine c_getS (C := RX10) (T := TX10) (N := 12) (ci := 8) (k := 11) ⟨rfl, inT10, by decide, fX6_186⟩ (by decide) (by decide) (by decide) dX6_snapshot_79 (hS.k (o50 (tN.o t_x0 nn_76))) (hS.r (c := 8) (o50 (tN.o t_x0 nn_76)) rfl (by omega)) ?_
  refine c_iconst (v := nI 1) dX6_snapshot_82 (by decide) ?_
  refine c_aload_nQ dX6_snapshot_83 rfl rfl ?_
  have nn_84 := ok.1
  have p_84 := hS.m0k t_x1 ok.1
  refine c_getS (C := RX5) (T := TX5) (N := 7) (ci := 4) (k := 0) ⟨rfl, inT5, by decide, fX6_131⟩ (by decide) (by decide) (by decide) dX6_snapshot_84 (tK.cis t_x1 ok.1) (hS.m0 t_x1 ok.1) ?_
  have ok := ok.2
  refine c_iload_n dX6_snapshot_87 rfl rfl ?_
  refine c_iconst (v := nI 5) dX6_snapshot_88 (by decide) ?_
  have tq_89 : tK S 20 (some (g + 29)) := tK_some (tK.cis (hS.rk (c := 8) (k := 11) (o50 (tN.o t_x0 nn_76)) rfl (by omega)) (Option.some_ne_none _)).2
  refine c_copy0 hG dX6_snapshot_89 qX6_166 (by decide) (by decide) ⟨tK.cis (hS.rk (c := 8) (k := 11) (o50 (tN.o t_x0 nn_76)) rfl (by omega)) (Option.some_ne_none _), tK.cis p_84 (Option.some_ne_none _), ok.1.1, (le_cast (hS.rl (c := 8) (k := 11) (o50 (tN.o t_x0 nn_76)) rfl (by decide) (by omega)) ok.1.2.1), ok.1.2.2⟩ ?_
  have hS := hS.Ac ((za x1) + 2) (g + 29) (nI 1).toNatClampNeg x3.toNatClampNeg (nI 5).toNatClampNeg tq_89
  have hM := hM.Ar ((za x1) + 2) (va_cpy (cA S (g + 29)) (cA S ((za x1) + 2)) (nI 1).toNatClampNeg x3.toNatClampNeg (nI 5).toNatClampNeg)
  have ok := ok.2
  exact cX.cutz (kb_X6_snapshot_92 hG hX0 hrec hS hM t_x0 (tK_Ar t_x1) ok hx) ⟨rfl, rfl, rfl, rfl, trivial⟩
def KB_X6_snapshot_53 (N g H T : Nat) (rec : Option Nat → Option Nat → Int32 → Int32 → cS → Nat × Option Nat × cS) (x0 : Option Nat) (x1 : Option Nat) (x2 : Int32) (x3 : Int32) (S : cS) : Nat × Option Nat × cS := (if (nI 16) ≤ x2 then (0, x1, S) else (KF_X6_snapshot_75 N g H T rec x0 x1 x2 x3 (k_X0_encode N g H T S ((za x0) + 6) x2 (some (g + 29)) (nI 0))))
def KOB_X6_snapshot_53 (N g H T : Nat) (rok : Option Nat → Option Nat → Int32 → Int32 → cS → Prop) (x0 : Option Nat) (x1 : Option Nat) (x2 : Int32) (x3 : Int32) (S : cS) : Prop := (((nI 16) ≤ x2 → True) ∧ (¬ (nI 16) ≤ x2 → (¬ x0 = none) ∧ (p_X0_encode N g H T S ((za x0) + 6) x2 (some (g + 29)) (nI 0)) ∧ KO_X6_snapshot_75 N g H T rok x0 x1 x2 x3 (k_X0_encode N g H T S ((za x0) + 6) x2 (some (g + 29)) (nI 0))))
set_option maxRecDepth 100000 in
set_option maxHeartbeats 4000000 in
theorem kbb_X6_snapshot_53 {G : zG} {o : cO} {u g H T N : Nat} {S : cS} {S0 : cS} {Q : Option Value → cS → Prop} {X : Nat × Option Nat × cS → Prop} (hG : zOK G) (hX0 : ∀ (x1 : Option Nat) (S' : cS), St u g H T S' → Mono S0 S' → tK S' 5 x1 → X (0, x1, S') → cX G o dX6_snapshot mX6_snapshot 101 [none, some (va_rf x1), none, none] [] S' Q) {rec : Option Nat → Option Nat → Int32 → Int32 → cS → Nat × Option Nat × cS} {rok : Option Nat → Option Nat → Int32 → Int32 → cS → Prop} (hrec : ∀ (x0 : Option Nat) (x1 : Option Nat) (x2 : Int32) (x3 : Int32) (S : cS), St u g H T S → Mono S0 S → tN g H x0 → tK S 5 x1 → rok x0 x1 x2 x3 S → X (rec x0 x1 x2 x3 S) → cX G o dX6_snapshot mX6_snapshot 53 [some (va_rf x0), some (va_rf x1), some (.int x2), some (.int x3)] [] S Q) {x0 : Option Nat} {x1 : Option Nat} {x2 : Int32} {x3 : Int32} (hS : St u g H T S) (hM : Mono S0 S) (t_x0 : tN g H x0) (t_x1 : tK S 5 x1) (ok : KOB_X6_snapshot_53 N g H T rok x0 x1 x2 x3 S) (hx : X (KB_X6_snapshot_53 N g H T rec x0 x1 x2 x3 S)) : cX G o dX6_snapshot mX6_snapshot 53 [some (va_rf x0), some (va_rf x1), some (.int x2), some (.int x3)] [] S Q := by
  unfold KOB_X6_snapshot_53 at ok
  unfold KB_X6_snapshot_53 at hx
  refine c_iload_n dX6_snapshot_53 rfl rfl ?_
  refine c_bipush (v := nI 16) dX6_snapshot_54 (by decide) ?_
  refine c_icmp_ge (tgt := 101) dX6_snapshot_56 (by decide) (fun c_56 => ?_) (fun c_56 => ?_)
  · have ok := ok.1 c_56
    have hx := xif_p c_56 hx
    exact cX.cutz (hX0 _ S hS hM t_x1 hx) ⟨rfl, trivial⟩
  · have ok := ok.2 c_56
    have hx := xif_n c_56 hx
    refine c_aload_nQ dX6_snapshot_59 rfl rfl ?_
    have nn_60 := ok.1
    refine c_getS (C := RX6) (T := TX6) (N := 19) (ci := 5) (k := 4) ⟨rfl, inT6, by decide, fX6_21⟩ (by decide) (by decide) (by decide) dX6_snapshot_60 (hS.kN t_x0 ok.1) (hS.r (c := 5) (tN.o t_x0 ok.1) rfl (by omega)) ?_
    have ok := ok.2
    refine c_iload_n dX6_snapshot_63 rfl rfl ?_
    refine c_aload_nQ dX6_snapshot_64 rfl rfl ?_
    refine c_getS (C := RX6) (T := TX6) (N := 19) (ci := 5) (k := 0) ⟨rfl, inT6, by decide, fX6_56⟩ (by decide) (by decide) (by decide) dX6_snapshot_65 (hS.kN t_x0 nn_60) (hS.r (c := 5) (tN.o t_x0 nn_60) rfl (by omega)) ?_
    refine c_getS (C := RX10) (T := TX10) (N := 12) (ci := 8) (k := 11) ⟨rfl, inT10, by decide, fX6_186⟩ (by decide) (by decide) (by decide) dX6_snapshot_68 (hS.k (o50 (tN.o t_x0 nn_60))) (hS.r (c := 8) (o50 (tN.o t_x0 nn_60)) rfl (by omega)) ?_
    refine c_iconst (v := nI 0) dX6_snapshot_71 (by decide) ?_
    refine c_V3vK (ci := 0) (rr := (RX0, TX0, 6)) (y' := mX0_encode) dX6_snapshot_72 lX6_189 kX0_encode ⟨by decide, by decide⟩ rfl rfl (by decide) (hS.k (o54 (tN.o t_x0 nn_60))) (Nat.le_of_ble_eq_true rfl) (kc_X0_encode hG hS (o54 (tN.o t_x0 nn_60)) (hS.rk (c := 8) (k := 11) (o50 (tN.o t_x0 nn_60)) rfl (by omega)) ok.1) (fun ⟨hS, hm_72⟩ => ?_)
    have hM := hM.trans hm_72
    have ok := ok.2
    exact cX.cutz (kb_X6_snapshot_75 hG hX0 hrec hS hM t_x0 (hm_72.tK t_x1 (by decide)) ok hx) ⟨rfl, rfl, rfl, rfl, trivial⟩
def KL_X6_snapshot_53 (N g H T : Nat) : Nat → Option Nat → Option Nat → Int32 → Int32 → cS → Nat × Option Nat × cS
  | 0, x0, x1, x2, x3, S => (0, none, S)
  | n + 1, x0, x1, x2, x3, S => KB_X6_snapshot_53 N g H T (KL_X6_snapshot_53 N g H T n) x0 x1 x2 x3 S
def KOL_X6_snapshot_53 (N g H T : Nat) : Nat → Option Nat → Option Nat → Int32 → Int32 → cS → Prop
  | 0, _, _, _, _, _ => False
  | n + 1, x0, x1, x2, x3, S => KOB_X6_snapshot_53 N g H T (KOL_X6_snapshot_53 N g H T n) x0 x1 x2 x3 S
set_option maxRecDepth 100000 in
set_option maxHeartbeats 4000000 in
theorem kl_X6_snapshot_53 {G : zG} {o : cO} {u g H T N : Nat} {S0 : cS} {Q : Option Value → cS → Prop} {X : Nat × Option Nat × cS → Prop} (hG : zOK G) (hX0 : ∀ (x1 : Option Nat) (S' : cS), St u g H T S' → Mono S0 S' → tK S' 5 x1 → X (0, x1, S') → cX G o dX6_snapshot mX6_snapshot 101 [none, some (va_rf x1), none, none] [] S' Q) : ∀ (n : Nat) (x0 : Option Nat) (x1 : Option Nat) (x2 : Int32) (x3 : Int32) (S : cS), St u g H T S → Mono S0 S → tN g H x0 → tK S 5 x1 → KOL_X6_snapshot_53 N g H T n x0 x1 x2 x3 S → X (KL_X6_snapshot_53 N g H T n x0 x1 x2 x3 S) → cX G o dX6_snapshot mX6_snapshot 53 [some (va_rf x0), some (va_rf x1), some (.int x2), some (.int x3)] [] S Q := by
  intro n
  induction n with
  | zero => intro x0 x1 x2 x3 S hS hM t_x0 t_x1 ok; exact absurd ok id
  | succ n ih =>
    intro x0 x1 x2 x3 S hS hM t_x0 t_x1 ok hx
    exact kbb_X6_snapshot_53 hG hX0 (rec := KL_X6_snapshot_53 N g H T n) (rok := KOL_X6_snapshot_53 N g H T n) (fun x0 x1 x2 x3 S hS hM t_x0 t_x1 ok hx => ih x0 x1 x2 x3 S hS hM t_x0 t_x1 ok hx) hS hM t_x0 t_x1 ok hx
def KA_X6_snapshot_53 (N g H T : Nat) (x0 : Option Nat) (x1 : Option Nat) (x2 : Int32) (x3 : Int32) (S : cS) (z : Nat × Option Nat × cS) : Option Nat × cS := (KF_X6_snapshot_101 N g H T (z.2.1) z.2.2)
def KOA_X6_snapshot_53 (N g H T : Nat) (x0 : Option Nat) (x1 : Option Nat) (x2 : Int32) (x3 : Int32) (S : cS) (z : Nat × Option Nat × cS) : Prop := KO_X6_snapshot_101 N g H T (z.2.1) z.2.2
set_option maxRecDepth 100000 in
set_option maxHeartbeats 4000000 in
theorem kd_X6_snapshot_53 {G : zG} {o : cO} {u g H T N : Nat} {S : cS} {S0 : cS} {Q : Option Value → cS → Prop} {X : Option Nat × cS → Prop} (hG : zOK G) (hR : ∀ v S', St u g H T S' → Mono S0 S' → tK S' 5 v → X (v, S') → Q (some (va_rf v)) S') {x0 : Option Nat} {x1 : Option Nat} {x2 : Int32} {x3 : Int32} (hS : St u g H T S) (hM : Mono S0 S) (t_x0 : tN g H x0) (t_x1 : tK S 5 x1) (ok : KOL_X6_snapshot_53 N g H T N x0 x1 x2 x3 S ∧ KOA_X6_snapshot_53 N g H T x0 x1 x2 x3 S (KL_X6_snapshot_53 N g H T N x0 x1 x2 x3 S)) (hx : X (KA_X6_snapshot_53 N g H T x0 x1 x2 x3 S (KL_X6_snapshot_53 N g H T N x0 x1 x2 x3 S))) : cX G o dX6_snapshot mX6_snapshot 53 [some (va_rf x0), some (va_rf x1), some (.int x2), some (.int x3)] [] S Q := by
  refine kl_X6_snapshot_53 hG ?_ N x0 x1 x2 x3 S hS hM t_x0 t_x1 ok.1 (X := fun z => KOA_X6_snapshot_53 N g H T x0 x1 x2 x3 S z ∧ X (KA_X6_snapshot_53 N g H T x0 x1 x2 x3 S z)) ⟨ok.2, hx⟩
  · intro x1' S' hS hM t_x1 hz
    obtain ⟨ok, hx⟩ := hz
    unfold KOA_X6_snapshot_53 at ok
    unfold KA_X6_snapshot_53 at hx
    exact cX.cutz (kb_X6_snapshot_101 hG hR hS hM t_x1 ok hx) ⟨rfl, trivial⟩
def KF_X6_snapshot_48 (N g H T : Nat) (x0 : Option Nat) (x1 : Option Nat) (S : cS) : Option Nat × cS := (KA_X6_snapshot_53 N g H T x0 x1 (nI 0) (nI 35) S (KL_X6_snapshot_53 N g H T N x0 x1 (nI 0) (nI 35) S))
def KO_X6_snapshot_48 (N g H T : Nat) (x0 : Option Nat) (x1 : Option Nat) (S : cS) : Prop := (KOL_X6_snapshot_53 N g H T N x0 x1 (nI 0) (nI 35) S ∧ KOA_X6_snapshot_53 N g H T x0 x1 (nI 0) (nI 35) S (KL_X6_snapshot_53 N g H T N x0 x1 (nI 0) (nI 35) S))
set_option maxRecDepth 100000 in
set_option maxHeartbeats 4000000 in
theorem kb_X6_snapshot_48 {G : zG} {o : cO} {u g H T N : Nat} {S : cS} {S0 : cS} {Q : Option Value → cS → Prop} {X : Option Nat × cS → Prop} (hG : zOK G) (hR : ∀ v S', St u g H T S' → Mono S0 S' → tK S' 5 v → X (v, S') → Q (some (va_rf v)) S') {x0 : Option Nat} {x1 : Option Nat} (hS : St u g H T S) (hM : Mono S0 S) (t_x0 : tN g H x0) (t_x1 : tK S 5 x1) (ok : KO_X6_snapshot_48 N g H T x0 x1 S) (hx : X (KF_X6_snapshot_48 N g H T x0 x1 S)) : cX G o dX6_snapshot mX6_snapshot 48 [some (va_rf x0), some (va_rf x1), none, none] [] S Q := by
  unfold KO_X6_snapshot_48 at ok
  unfold KF_X6_snapshot_48 at hx
  refine c_iconst (v := nI 0) dX6_snapshot_48 (by decide) ?_
  refine c_istore_2 dX6_snapshot_49 (by decide) (by simp [zok, zg, zcat_rf]) ?_
  refine c_bipush (v := nI 35) dX6_snapshot_50 (by decide) ?_
  refine c_istore_3 dX6_snapshot_52 (by decide) rfl ?_
  exact cX.cutz (kd_X6_snapshot_53 hG hR hS hM t_x0 t_x1 ok hx) ⟨rfl, rfl, rfl, rfl, trivial⟩
def KF_X6_snapshot_33 (N g H T : Nat) (x0 : Option Nat) (x1 : Option Nat) (S : cS) : Option Nat × cS := (KF_X6_snapshot_48 N g H T x0 x1 (csArow S ((za x1) + 2) (va_cpy (cA S ((za x0) + 11)) (cA S ((za x1) + 2)) (nI 0).toNatClampNeg (nI 3).toNatClampNeg (nI 32).toNatClampNeg)))
def KO_X6_snapshot_33 (N g H T : Nat) (x0 : Option Nat) (x1 : Option Nat) (S : cS) : Prop := (¬ x0 = none) ∧ (¬ x1 = none) ∧ ((¬ (nI 0) < 0 ∧ ¬ (nI 3) < 0 ∧ ¬ (nI 32) < 0) ∧ (nI 0).toNatClampNeg + (nI 32).toNatClampNeg ≤ 32 ∧ (nI 3).toNatClampNeg + (nI 32).toNatClampNeg ≤ (cL S ((za x1) + 2))) ∧ KO_X6_snapshot_48 N g H T x0 x1 (csArow S ((za x1) + 2) (va_cpy (cA S ((za x0) + 11)) (cA S ((za x1) + 2)) (nI 0).toNatClampNeg (nI 3).toNatClampNeg (nI 32).toNatClampNeg))
set_option maxRecDepth 100000 in
set_option maxHeartbeats 4000000 in
theorem kb_X6_snapshot_33 {G : zG} {o : cO} {u g H T N : Nat} {S : cS} {S0 : cS} {Q : Option Value → cS → Prop} {X : Option Nat × cS → Prop} (hG : zOK G) (hR : ∀ v S', St u g H T S' → Mono S0 S' → tK S' 5 v → X (v, S') → Q (some (va_rf v)) S') {x0 : Option Nat} {x1 : Option Nat} (hS : St u g H T S) (hM : Mono S0 S) (t_x0 : tN g H x0) (t_x1 : tK S 5 x1) (ok : KO_X6_snapshot_33 N g H T x0 x1 S) (hx : X (KF_X6_snapshot_33 N g H T x0 x1 S)) : cX G o dX6_snapshot mX6_snapshot 33 [some (va_rf x0), some (va_rf x1), none, none] [] S Q := by
  unfold KO_X6_snapshot_33 at ok
  unfold KF_X6_snapshot_33 at hx
  refine c_aload_nQ dX6_snapshot_33 rfl rfl ?_
  have nn_34 := ok.1
  refine c_getS (C := RX6) (T := TX6) (N := 19) (ci := 5) (k := 5) ⟨rfl, inT6, by decide, fX6_25⟩ (by decide) (by decide) (by decide) dX6_snapshot_34 (hS.kN t_x0 ok.1) (hS.r (c := 5) (tN.o t_x0 ok.1) rfl (by omega)) ?_
  have ok := ok.2
  refine c_iconst (v := nI 0) dX6_snapshot_37 (by decide) ?_
  refine c_aload_nQ dX6_snapshot_38 rfl rfl ?_
  have nn_39 := ok.1
  have p_39 := hS.m0k t_x1 ok.1
  refine c_getS (C := RX5) (T := TX5) (N := 7) (ci := 4) (k := 0) ⟨rfl, inT5, by decide, fX6_131⟩ (by decide) (by decide) (by decide) dX6_snapshot_39 (tK.cis t_x1 ok.1) (hS.m0 t_x1 ok.1) ?_
  have ok := ok.2
  refine c_iconst (v := nI 3) dX6_snapshot_42 (by decide) ?_
  refine c_bipush (v := nI 32) dX6_snapshot_43 (by decide) ?_
  have tq_45 : tK S 20 (some ((za x0) + 11)) := tK_some (tK.cis (hS.rk (c := 5) (k := 5) (tN.o t_x0 nn_34) rfl (by omega)) (Option.some_ne_none _)).2
  refine c_copy0 hG dX6_snapshot_45 qX6_166 (by decide) (by decide) ⟨tK.cis (hS.rk (c := 5) (k := 5) (tN.o t_x0 nn_34) rfl (by omega)) (Option.some_ne_none _), tK.cis p_39 (Option.some_ne_none _), ok.1.1, (le_cast (hS.rl (c := 5) (k := 5) (tN.o t_x0 nn_34) rfl (by decide) (by omega)) ok.1.2.1), ok.1.2.2⟩ ?_
  have hS := hS.Ac ((za x1) + 2) ((za x0) + 11) (nI 0).toNatClampNeg (nI 3).toNatClampNeg (nI 32).toNatClampNeg tq_45
  have hM := hM.Ar ((za x1) + 2) (va_cpy (cA S ((za x0) + 11)) (cA S ((za x1) + 2)) (nI 0).toNatClampNeg (nI 3).toNatClampNeg (nI 32).toNatClampNeg)
  have ok := ok.2
  exact cX.cutz (kb_X6_snapshot_48 hG hR hS hM t_x0 (tK_Ar t_x1) ok hx) ⟨rfl, rfl, trivial⟩
def KF_X6_snapshot_12 (N g H T : Nat) (x0 : Option Nat) (s0 : Option Nat) (S : cS) : Option Nat × cS := (KF_X6_snapshot_33 N g H T x0 s0 (k_X11_putTwo N g H T (csA S ((za s0) + 2) (nI 0).toNatClampNeg ((nI 7).toInt8.toInt32)) (some ((za s0) + 2)) (nI 1) (cI (csA S ((za s0) + 2) (nI 0).toNatClampNeg ((nI 7).toInt8.toInt32)) 9 (za x0))))
def KO_X6_snapshot_12 (N g H T : Nat) (x0 : Option Nat) (s0 : Option Nat) (S : cS) : Prop := (¬ s0 = none) ∧ (vp_in (nI 0) (cL S ((za s0) + 2))) ∧ (¬ x0 = none) ∧ (p_X11_putTwo N g H T (csA S ((za s0) + 2) (nI 0).toNatClampNeg ((nI 7).toInt8.toInt32)) (some ((za s0) + 2)) (nI 1) (cI (csA S ((za s0) + 2) (nI 0).toNatClampNeg ((nI 7).toInt8.toInt32)) 9 (za x0))) ∧ KO_X6_snapshot_33 N g H T x0 s0 (k_X11_putTwo N g H T (csA S ((za s0) + 2) (nI 0).toNatClampNeg ((nI 7).toInt8.toInt32)) (some ((za s0) + 2)) (nI 1) (cI (csA S ((za s0) + 2) (nI 0).toNatClampNeg ((nI 7).toInt8.toInt32)) 9 (za x0)))
set_option maxRecDepth 100000 in
set_option maxHeartbeats 4000000 in
theorem kb_X6_snapshot_12 {G : zG} {o : cO} {u g H T N : Nat} {S : cS} {S0 : cS} {Q : Option Value → cS → Prop} {X : Option Nat × cS → Prop} (hG : zOK G) (hR : ∀ v S', St u g H T S' → Mono S0 S' → tK S' 5 v → X (v, S') → Q (some (va_rf v)) S') {x0 : Option Nat} {s0 : Option Nat} (hS : St u g H T S) (hM : Mono S0 S) (t_x0 : tN g H x0) (t_s0 : tK S 5 s0) (ok : KO_X6_snapshot_12 N g H T x0 s0 S) (hx : X (KF_X6_snapshot_12 N g H T x0 s0 S)) : cX G o dX6_snapshot mX6_snapshot 12 [some (va_rf x0), none, none, none] [va_rf s0] S Q := by
  unfold KO_X6_snapshot_12 at ok
  unfold KF_X6_snapshot_12 at hx
  refine c_astore_1Q dX6_snapshot_12 (by decide) (by simp [zok, zg, zcat_rf]) ?_
  refine c_aload_nQ dX6_snapshot_13 rfl rfl ?_
  have nn_14 := ok.1
  have p_14 := hS.m0k t_s0 ok.1
  refine c_getS (C := RX5) (T := TX5) (N := 7) (ci := 4) (k := 0) ⟨rfl, inT5, by decide, fX6_131⟩ (by decide) (by decide) (by decide) dX6_snapshot_14 (tK.cis t_s0 ok.1) (hS.m0 t_s0 ok.1) ?_
  have ok := ok.2
  refine c_iconst (v := nI 0) dX6_snapshot_17 (by decide) ?_
  refine c_bipush (v := nI 7) dX6_snapshot_18 (by decide) ?_
  refine c_bast dX6_snapshot_20 ⟨(tK.cis p_14 (Option.some_ne_none _)), ok.1⟩ ?_
  have hS := hS.Ab ((za s0) + 2) (nI 0).toNatClampNeg (nI 7)
  have hM := hM.A ((za s0) + 2) (nI 0).toNatClampNeg ((nI 7).toInt8.toInt32)
  have ok := ok.2
  refine c_aload_nQ dX6_snapshot_21 rfl rfl ?_
  have p_22 := hS.m0k (tK_A t_s0) nn_14
  refine c_getS (C := RX5) (T := TX5) (N := 7) (ci := 4) (k := 0) ⟨rfl, inT5, by decide, fX6_131⟩ (by decide) (by decide) (by decide) dX6_snapshot_22 (tK.cis (tK_A t_s0) nn_14) (hS.m0 (tK_A t_s0) nn_14) ?_
  refine c_iconst (v := nI 1) dX6_snapshot_25 (by decide) ?_
  refine c_aload_nQ dX6_snapshot_26 rfl rfl ?_
  have nn_27 := ok.1
  refine c_getI (C := RX6) (T := TX6) (N := 19) (ci := 5) (k := 9) ⟨rfl, inT6, by decide, fX6_43⟩ (by decide) (by decide) (by decide) dX6_snapshot_27 (hS.kN t_x0 ok.1) ?_
  have ok := ok.2
  refine c_SN3vK (y' := mX11_putTwo) dX6_snapshot_30 lX6_134 kX11_putTwo ⟨by decide, by decide⟩ (Nat.le_of_ble_eq_true rfl) (kc_X11_putTwo hG hS p_22 ok.1) (fun ⟨hS, hm_30⟩ => ?_)
  have hM := hM.trans hm_30
  have ok := ok.2
  exact cX.cutz (kb_X6_snapshot_33 hG hR hS hM t_x0 (hm_30.tK (tK_A t_s0) (by decide)) ok hx) ⟨rfl, rfl, trivial⟩
def KF_X6_snapshot_0 (N g H T : Nat) (x0 : Option Nat) (S : cS) : Option Nat × cS := (KF_X6_snapshot_12 N g H T x0 ((k_X9_fresh N g H T S (g + 11) (nI 115)).1) (k_X9_fresh N g H T S (g + 11) (nI 115)).2)
def KO_X6_snapshot_0 (N g H T : Nat) (x0 : Option Nat) (S : cS) : Prop := (¬ x0 = none) ∧ (p_X9_fresh N g H T S (g + 11) (nI 115)) ∧ KO_X6_snapshot_12 N g H T x0 ((k_X9_fresh N g H T S (g + 11) (nI 115)).1) (k_X9_fresh N g H T S (g + 11) (nI 115)).2
set_option maxRecDepth 100000 in
set_option maxHeartbeats 4000000 in
theorem kb_X6_snapshot_0 {G : zG} {o : cO} {u g H T N : Nat} {S : cS} {S0 : cS} {Q : Option Value → cS → Prop} {X : Option Nat × cS → Prop} (hG : zOK G) (hR : ∀ v S', St u g H T S' → Mono S0 S' → tK S' 5 v → X (v, S') → Q (some (va_rf v)) S') {x0 : Option Nat} (hS : St u g H T S) (hM : Mono S0 S) (t_x0 : tN g H x0) (ok : KO_X6_snapshot_0 N g H T x0 S) (hx : X (KF_X6_snapshot_0 N g H T x0 S)) : cX G o dX6_snapshot mX6_snapshot 0 [some (va_rf x0), none, none, none] [] S Q := by
  unfold KO_X6_snapshot_0 at ok
  unfold KF_X6_snapshot_0 at hx
  refine c_aload_nQ dX6_snapshot_0 rfl rfl ?_
  have nn_1 := ok.1
  refine c_getS (C := RX6) (T := TX6) (N := 19) (ci := 5) (k := 0) ⟨rfl, inT6, by decide, fX6_56⟩ (by decide) (by decide) (by decide) dX6_snapshot_1 (hS.kN t_x0 ok.1) (hS.r (c := 5) (tN.o t_x0 ok.1) rfl (by omega)) ?_
  have ok := ok.2
  refine c_getS (C := RX10) (T := TX10) (N := 12) (ci := 8) (k := 6) ⟨rfl, inT10, by decide, fX6_65⟩ (by decide) (by decide) (by decide) dX6_snapshot_4 (hS.k (o50 (tN.o t_x0 nn_1))) (hS.r (c := 8) (o50 (tN.o t_x0 nn_1)) rfl (by omega)) ?_
  refine c_bipush (v := nI 115) dX6_snapshot_7 (by decide) ?_
  refine c_V1qK (ci := 7) (rr := (RX9, TX9, 13)) (y' := mX9_fresh) dX6_snapshot_9 lX6_127 kX9_fresh ⟨by decide, by decide⟩ rfl rfl (by decide) (hS.k (o86 (o50 (tN.o t_x0 nn_1)))) (Nat.le_of_ble_eq_true rfl) (kc_X9_fresh hG hS (o86 (o50 (tN.o t_x0 nn_1))) ok.1) (fun ⟨hS, hm_9, tv_9⟩ => ?_)
  have hM := hM.trans hm_9
  have ok := ok.2
  exact cX.cutz (kb_X6_snapshot_12 hG hR hS hM t_x0 tv_9 ok hx) ⟨rfl, trivial⟩
def k_X6_snapshot (N g H T : Nat) (S : cS) (a0 : Nat) : Option Nat × cS := KF_X6_snapshot_0 N g H T (some a0) S
def p_X6_snapshot (N g H T : Nat) (S : cS) (a0 : Nat) : Prop := KO_X6_snapshot_0 N g H T (some a0) S
set_option maxRecDepth 100000 in
set_option maxHeartbeats 4000000 in
theorem kc_X6_snapshot {G : zG} {o : cO} {u g H T N : Nat} {S : cS} (hG : zOK G) {a0 : Nat} (hS : St u g H T S) (t_x0 : isO g H 5 a0) (ok : p_X6_snapshot N g H T S a0) : cCq G o dX6_snapshot mX6_snapshot [.ref a0] S (fun v S' => (v = (k_X6_snapshot N g H T S a0).1 ∧ S' = (k_X6_snapshot N g H T S a0).2) ∧ St u g H T S' ∧ Mono S S' ∧ tK S' 5 v) := by
  refine cC.ofX rfl (by exact Nat.le_of_ble_eq_true rfl) ?_
  show cX G o dX6_snapshot mX6_snapshot 0 [some (va_rf (some a0)), none, none, none] [] S _
  exact cX.cutz (kb_X6_snapshot_0 (X := fun F => F = k_X6_snapshot N g H T S a0) hG (fun v S' h1 h2 h3 h => ⟨v, rfl, ⟨by rw [← h], by rw [← h]⟩, h1, h2, h3⟩) hS Mono.rfl' (tN_some t_x0) ok rfl) ⟨rfl, trivial⟩
/-! X3_answerBelow -/
def KF_X3_answerBelow_49 (N g H T : Nat) (x3 : Nat) (x5 : Option Nat) (S : cS) : cS := (k_X9_drop N g H T S x3 x5)
def KO_X3_answerBelow_49 (N g H T : Nat) (x3 : Nat) (x5 : Option Nat) (S : cS) : Prop := (p_X9_drop N g H T S x3 x5) ∧ True
set_option maxRecDepth 100000 in
set_option maxHeartbeats 4000000 in
theorem kb_X3_answerBelow_49 {G : zG} {o : cO} {u g H T N : Nat} {S : cS} {S0 : cS} {Q : Option Value → cS → Prop} {X : cS → Prop} (hG : zOK G) (hR : ∀ S', St u g H T S' → Mono S0 S' → X S' → Q none S') {x3 : Nat} {x5 : Option Nat} (hS : St u g H T S) (hM : Mono S0 S) (t_x3 : isO g H 7 x3) (t_x5 : tK S 5 x5) (ok : KO_X3_answerBelow_49 N g H T x3 x5 S) (hx : X (KF_X3_answerBelow_49 N g H T x3 x5 S)) : cX G o dX3_answerBelow mX3_answerBelow 49 [none, none, none, some (va_rf (some x3)), none, some (va_rf x5)] [] S Q := by
  unfold KO_X3_answerBelow_49 at ok
  unfold KF_X3_answerBelow_49 at hx
  refine c_aload_nQ dX3_answerBelow_49 rfl rfl ?_
  refine c_aloadQ dX3_answerBelow_50 rfl ?_
  refine c_V1vK (ci := 7) (rr := (RX9, TX9, 13)) (y' := mX9_drop) dX3_answerBelow_52 lX3_83 kX9_drop ⟨by decide, by decide⟩ rfl rfl (by decide) (hS.k t_x3) (Nat.le_of_ble_eq_true rfl) (kc_X9_drop hG hS t_x3 t_x5 ok.1) (fun ⟨hS, hm_52⟩ => ?_)
  have hM := hM.trans hm_52
  have ok := ok.2
  exact c_return rfl dX3_answerBelow_55 (hR _ hS hM hx)
def KF_X3_answerBelow_36 (N g H T : Nat) (x0 : Option Nat) (x1 : Int32) (x3 : Nat) (s0 : Option Nat) (S : cS) : cS := (KF_X3_answerBelow_49 N g H T x3 s0 (k_X9_post N g H T S x3 (cI S 1 (za x0)) x1 s0))
def KO_X3_answerBelow_36 (N g H T : Nat) (x0 : Option Nat) (x1 : Int32) (x3 : Nat) (s0 : Option Nat) (S : cS) : Prop := (¬ x0 = none) ∧ (p_X9_post N g H T S x3 (cI S 1 (za x0)) x1 s0) ∧ KO_X3_answerBelow_49 N g H T x3 s0 (k_X9_post N g H T S x3 (cI S 1 (za x0)) x1 s0)
set_option maxRecDepth 100000 in
set_option maxHeartbeats 4000000 in
theorem kb_X3_answerBelow_36 {G : zG} {o : cO} {u g H T N : Nat} {S : cS} {S0 : cS} {Q : Option Value → cS → Prop} {X : cS → Prop} (hG : zOK G) (hR : ∀ S', St u g H T S' → Mono S0 S' → X S' → Q none S') {x0 : Option Nat} {x1 : Int32} {x3 : Nat} {s0 : Option Nat} (hS : St u g H T S) (hM : Mono S0 S) (t_x0 : tN g H x0) (t_x3 : isO g H 7 x3) (t_s0 : tK S 5 s0) (ok : KO_X3_answerBelow_36 N g H T x0 x1 x3 s0 S) (hx : X (KF_X3_answerBelow_36 N g H T x0 x1 x3 s0 S)) : cX G o dX3_answerBelow mX3_answerBelow 36 [some (va_rf x0), some (.int x1), none, some (va_rf (some x3)), none, none] [va_rf s0] S Q := by
  unfold KO_X3_answerBelow_36 at ok
  unfold KF_X3_answerBelow_36 at hx
  refine c_astore_5Q dX3_answerBelow_36 (by decide) rfl ?_
  refine c_aload_nQ dX3_answerBelow_38 rfl rfl ?_
  refine c_aload_nQ dX3_answerBelow_39 rfl rfl ?_
  have nn_40 := ok.1
  refine c_getI (C := RX6) (T := TX6) (N := 19) (ci := 5) (k := 1) ⟨rfl, inT6, by decide, fX3_37⟩ (by decide) (by decide) (by decide) dX3_answerBelow_40 (hS.kN t_x0 ok.1) ?_
  have ok := ok.2
  refine c_iload_n dX3_answerBelow_43 rfl rfl ?_
  refine c_aloadQ dX3_answerBelow_44 rfl ?_
  refine c_V3vK (ci := 7) (rr := (RX9, TX9, 13)) (y' := mX9_post) dX3_answerBelow_46 lX3_77 kX9_post ⟨by decide, by decide⟩ rfl rfl (by decide) (hS.k t_x3) (Nat.le_of_ble_eq_true rfl) (kc_X9_post hG hS t_x3 t_s0 ok.1) (fun ⟨hS, hm_46⟩ => ?_)
  have hM := hM.trans hm_46
  have ok := ok.2
  exact cX.cutz (kb_X3_answerBelow_49 hG hR hS hM t_x3 (hm_46.tK t_s0 (by decide)) ok hx) ⟨rfl, rfl, trivial⟩
def KF_X3_answerBelow_13 (N g H T : Nat) (x0 : Option Nat) (x1 : Int32) (x3 : Nat) (s0 : Option Nat) (S : cS) : cS := (if s0 = none then (KF_X3_answerBelow_36 N g H T x0 x1 x3 ((k_X6_snapshot N g H T S (za x0)).1) (k_X6_snapshot N g H T S (za x0)).2) else (k_X9_post N g H T S x3 (cI S 1 (za x0)) x1 s0))
def KO_X3_answerBelow_13 (N g H T : Nat) (x0 : Option Nat) (x1 : Int32) (x3 : Nat) (s0 : Option Nat) (S : cS) : Prop := ((s0 = none → (¬ x0 = none ∧ p_X6_snapshot N g H T S (za x0)) ∧ KO_X3_answerBelow_36 N g H T x0 x1 x3 ((k_X6_snapshot N g H T S (za x0)).1) (k_X6_snapshot N g H T S (za x0)).2) ∧ (¬ s0 = none → (¬ x0 = none) ∧ (p_X9_post N g H T S x3 (cI S 1 (za x0)) x1 s0) ∧ True))
set_option maxRecDepth 100000 in
set_option maxHeartbeats 4000000 in
theorem kb_X3_answerBelow_13 {G : zG} {o : cO} {u g H T N : Nat} {S : cS} {S0 : cS} {Q : Option Value → cS → Prop} {X : cS → Prop} (hG : zOK G) (hR : ∀ S', St u g H T S' → Mono S0 S' → X S' → Q none S') {x0 : Option Nat} {x1 : Int32} {x3 : Nat} {s0 : Option Nat} (hS : St u g H T S) (hM : Mono S0 S) (t_x0 : tN g H x0) (t_x3 : isO g H 7 x3) (t_s0 : tK S 5 s0) (ok : KO_X3_answerBelow_13 N g H T x0 x1 x3 s0 S) (hx : X (KF_X3_answerBelow_13 N g H T x0 x1 x3 s0 S)) : cX G o dX3_answerBelow mX3_answerBelow 13 [some (va_rf x0), some (.int x1), none, some (va_rf (some x3)), none, none] [va_rf s0] S Q := by
  unfold KO_X3_answerBelow_13 at ok
  unfold KF_X3_answerBelow_13 at hx
  refine c_astore_4Q dX3_answerBelow_13 (by decide) (by simp [zok, zg, zcat_rf]) ?_
  refine c_aloadQ dX3_answerBelow_15 rfl ?_
  refine c_ifnullI (tgt := 32) dX3_answerBelow_17 (by decide) (fun c_17 => ?_) (fun c_17 => ?_)
  · have ok := ok.1 c_17
    have hx := xif_p c_17 hx
    refine c_aload_nQ dX3_answerBelow_32 rfl rfl ?_
    have nn_33 := ok.1.1
    refine c_V0qK (ci := 5) (rr := (RX6, TX6, 19)) (y' := mX6_snapshot) dX3_answerBelow_33 lX3_112 kX6_snapshot ⟨by decide, by decide⟩ rfl rfl (by decide) (hS.kN t_x0 nn_33) (Nat.le_of_ble_eq_true rfl) (kc_X6_snapshot hG hS (tN.o t_x0 nn_33) ok.1.2) (fun ⟨hS, hm_33, tv_33⟩ => ?_)
    have hM := hM.trans hm_33
    have ok := ok.2
    exact cX.cutz (kb_X3_answerBelow_36 hG hR hS hM t_x0 t_x3 tv_33 ok hx) ⟨rfl, rfl, rfl, trivial⟩
  · have ok := ok.2 c_17
    have hx := xif_n c_17 hx
    refine c_aload_nQ dX3_answerBelow_20 rfl rfl ?_
    refine c_aload_nQ dX3_answerBelow_21 rfl rfl ?_
    have nn_22 := ok.1
    refine c_getI (C := RX6) (T := TX6) (N := 19) (ci := 5) (k := 1) ⟨rfl, inT6, by decide, fX3_37⟩ (by decide) (by decide) (by decide) dX3_answerBelow_22 (hS.kN t_x0 ok.1) ?_
    have ok := ok.2
    refine c_iload_n dX3_answerBelow_25 rfl rfl ?_
    refine c_aloadQ dX3_answerBelow_26 rfl ?_
    refine c_V3vK (ci := 7) (rr := (RX9, TX9, 13)) (y' := mX9_post) dX3_answerBelow_28 lX3_77 kX9_post ⟨by decide, by decide⟩ rfl rfl (by decide) (hS.k t_x3) (Nat.le_of_ble_eq_true rfl) (kc_X9_post hG hS t_x3 t_s0 ok.1) (fun ⟨hS, hm_28⟩ => ?_)
    have hM := hM.trans hm_28
    have ok := ok.2
    exact c_return rfl dX3_answerBelow_31 (hR _ hS hM hx)
def KF_X3_answerBelow_0 (N g H T : Nat) (x0 : Option Nat) (x1 : Int32) (x2 : Int32) (S : cS) : cS := (KF_X3_answerBelow_13 N g H T x0 x1 (g + 11) ((k_X6_decided N g H T S (za x0) x2).1) (k_X6_decided N g H T S (za x0) x2).2)
def KO_X3_answerBelow_0 (N g H T : Nat) (x0 : Option Nat) (x1 : Int32) (x2 : Int32) (S : cS) : Prop := (¬ x0 = none) ∧ (p_X6_decided N g H T S (za x0) x2) ∧ KO_X3_answerBelow_13 N g H T x0 x1 (g + 11) ((k_X6_decided N g H T S (za x0) x2).1) (k_X6_decided N g H T S (za x0) x2).2
set_option maxRecDepth 100000 in
set_option maxHeartbeats 4000000 in
theorem kb_X3_answerBelow_0 {G : zG} {o : cO} {u g H T N : Nat} {S : cS} {S0 : cS} {Q : Option Value → cS → Prop} {X : cS → Prop} (hG : zOK G) (hR : ∀ S', St u g H T S' → Mono S0 S' → X S' → Q none S') {x0 : Option Nat} {x1 : Int32} {x2 : Int32} (hS : St u g H T S) (hM : Mono S0 S) (t_x0 : tN g H x0) (ok : KO_X3_answerBelow_0 N g H T x0 x1 x2 S) (hx : X (KF_X3_answerBelow_0 N g H T x0 x1 x2 S)) : cX G o dX3_answerBelow mX3_answerBelow 0 [some (va_rf x0), some (.int x1), some (.int x2), none, none, none] [] S Q := by
  unfold KO_X3_answerBelow_0 at ok
  unfold KF_X3_answerBelow_0 at hx
  refine c_aload_nQ dX3_answerBelow_0 rfl rfl ?_
  have nn_1 := ok.1
  refine c_getS (C := RX6) (T := TX6) (N := 19) (ci := 5) (k := 0) ⟨rfl, inT6, by decide, fX3_33⟩ (by decide) (by decide) (by decide) dX3_answerBelow_1 (hS.kN t_x0 ok.1) (hS.r (c := 5) (tN.o t_x0 ok.1) rfl (by omega)) ?_
  have ok := ok.2
  refine c_getS (C := RX10) (T := TX10) (N := 12) (ci := 8) (k := 6) ⟨rfl, inT10, by decide, fX3_73⟩ (by decide) (by decide) (by decide) dX3_answerBelow_4 (hS.k (o50 (tN.o t_x0 nn_1))) (hS.r (c := 8) (o50 (tN.o t_x0 nn_1)) rfl (by omega)) ?_
  refine c_astore_3Q dX3_answerBelow_7 (by decide) rfl ?_
  refine c_aload_nQ dX3_answerBelow_8 rfl rfl ?_
  refine c_iload_n dX3_answerBelow_9 rfl rfl ?_
  refine c_V1qK (ci := 5) (rr := (RX6, TX6, 19)) (y' := mX6_decided) dX3_answerBelow_10 lX3_108 kX6_decided ⟨by decide, by decide⟩ rfl rfl (by decide) (hS.kN t_x0 nn_1) (Nat.le_of_ble_eq_true rfl) (kc_X6_decided hG hS (tN.o t_x0 nn_1) ok.1) (fun ⟨hS, hm_10, tv_10⟩ => ?_)
  have hM := hM.trans hm_10
  have ok := ok.2
  exact cX.cutz (kb_X3_answerBelow_13 hG hR hS hM t_x0 (o86 (o50 (tN.o t_x0 nn_1))) tv_10 ok hx) ⟨rfl, rfl, rfl, trivial⟩
def k_X3_answerBelow (N g H T : Nat) (S : cS) (x0 : Option Nat) (x1 : Int32) (x2 : Int32) : cS := KF_X3_answerBelow_0 N g H T x0 x1 x2 S
def p_X3_answerBelow (N g H T : Nat) (S : cS) (x0 : Option Nat) (x1 : Int32) (x2 : Int32) : Prop := KO_X3_answerBelow_0 N g H T x0 x1 x2 S
set_option maxRecDepth 100000 in
set_option maxHeartbeats 4000000 in
theorem kc_X3_answerBelow {G : zG} {o : cO} {u g H T N : Nat} {S : cS} (hG : zOK G) {x0 : Option Nat} {x1 : Int32} {x2 : Int32} (hS : St u g H T S) (t_x0 : tN g H x0) (ok : p_X3_answerBelow N g H T S x0 x1 x2) : cCv G o dX3_answerBelow mX3_answerBelow [va_rf x0, .int x1, .int x2] S (fun S' => S' = k_X3_answerBelow N g H T S x0 x1 x2 ∧ St u g H T S' ∧ Mono S S') := by
  refine cC.ofX rfl (by cases x0 <;> exact Nat.le_of_ble_eq_true rfl) ?_
  rw [show zargs mX3_answerBelow.2.2.1 [va_rf x0, .int x1, .int x2] = [some (va_rf x0), some (.int x1), some (.int x2), none, none, none] from by cases x0 <;> rfl]
  exact cX.cutz (kb_X3_answerBelow_0 (X := fun F => F = k_X3_answerBelow N g H T S x0 x1 x2) hG (fun S' h1 h2 h => ⟨rfl, h, h1, h2⟩) hS Mono.rfl' t_x0 ok rfl) ⟨rfl, rfl, rfl, trivial⟩
/-! X8_top -/
def KF_X8_top_0 (N g H T : Nat) (x0 : Nat) (x1 : Int32) (S : cS) : Int32 := (cA S (x0 + 3) (x1 &&& (nI 1)).toNatClampNeg)
def KO_X8_top_0 (N g H T : Nat) (x0 : Nat) (x1 : Int32) (S : cS) : Prop := (vp_in (x1 &&& (nI 1)) 2) ∧ True
set_option maxRecDepth 100000 in
set_option maxHeartbeats 4000000 in
theorem kb_X8_top_0 {G : zG} {o : cO} {u g H T N : Nat} {S : cS} {Q : Option Value → cS → Prop} {X : Int32 → Prop} (hG : zOK G) (hR : ∀ v, X v → Q (some (.int v)) S) {x0 : Nat} {x1 : Int32} (hS : St u g H T S) (t_x0 : isO g H 6 x0) (ok : KO_X8_top_0 N g H T x0 x1 S) (hx : X (KF_X8_top_0 N g H T x0 x1 S)) : cX G o dX8_top mX8_top 0 [some (va_rf (some x0)), some (.int x1)] [] S Q := by
  unfold KO_X8_top_0 at ok
  unfold KF_X8_top_0 at hx
  refine c_aload_nQ dX8_top_0 rfl rfl ?_
  refine c_getS (C := RX8) (T := TX8) (N := 14) (ci := 6) (k := 5) ⟨rfl, inT8, by decide, fX8_21⟩ (by decide) (by decide) (by decide) dX8_top_1 (hS.k t_x0) (hS.r (c := 6) t_x0 rfl (by omega)) ?_
  refine c_iload_n dX8_top_4 rfl rfl ?_
  refine c_iconst (v := nI 1) dX8_top_5 (by decide) ?_
  refine c_iand dX8_top_6 ?_
  refine c_iald dX8_top_7 ⟨(tK.cis (hS.rk (c := 6) (k := 5) t_x0 rfl (by omega)) (Option.some_ne_none _)), (vk_cast (hS.rl (c := 6) (k := 5) t_x0 rfl (by decide) (by omega)) ok.1)⟩ ?_
  have ok := ok.2
  exact c_ireturn rfl rfl dX8_top_8 (hR _ hx)
def k_X8_top (N g H T : Nat) (S : cS) (a0 : Nat) (x1 : Int32) : Int32 := KF_X8_top_0 N g H T a0 x1 S
def p_X8_top (N g H T : Nat) (S : cS) (a0 : Nat) (x1 : Int32) : Prop := KO_X8_top_0 N g H T a0 x1 S
set_option maxRecDepth 100000 in
set_option maxHeartbeats 4000000 in
theorem kc_X8_top {G : zG} {o : cO} {u g H T N : Nat} {S : cS} (hG : zOK G) {a0 : Nat} {x1 : Int32} (hS : St u g H T S) (t_x0 : isO g H 6 a0) (ok : p_X8_top N g H T S a0 x1) : cCi G o dX8_top mX8_top [.ref a0, .int x1] S (fun v S' => (v = k_X8_top N g H T S a0 x1 ∧ S' = S)) := by
  refine cC.ofX rfl (by exact Nat.le_of_ble_eq_true rfl) ?_
  show cX G o dX8_top mX8_top 0 [some (va_rf (some a0)), some (.int x1)] [] S _
  exact cX.cutz (kb_X8_top_0 (X := fun F => F = k_X8_top N g H T S a0 x1) hG (fun v h => ⟨v, rfl, h, rfl⟩) hS t_x0 ok rfl) ⟨rfl, rfl, trivial⟩
/-! X8_page -/
def KF_X8_page_22 (N g H T : Nat) (s0 : Int32) (S : cS) : Int32 := s0
def KO_X8_page_22 (N g H T : Nat) (s0 : Int32) (S : cS) : Prop := True
set_option maxRecDepth 100000 in
set_option maxHeartbeats 4000000 in
theorem kb_X8_page_22 {G : zG} {o : cO} {u g H T N : Nat} {S : cS} {Q : Option Value → cS → Prop} {X : Int32 → Prop} (hG : zOK G) (hR : ∀ v, X v → Q (some (.int v)) S) {s0 : Int32} (hS : St u g H T S) (ok : KO_X8_page_22 N g H T s0 S) (hx : X (KF_X8_page_22 N g H T s0 S)) : cX G o dX8_page mX8_page 22 [none, none, none] [.int s0] S Q := by
  unfold KO_X8_page_22 at ok
  unfold KF_X8_page_22 at hx
  exact c_ireturn rfl rfl dX8_page_22 (hR _ hx)
def KF_X8_page_10 (N g H T : Nat)  (S : cS) : Int32 := (KF_X8_page_22 N g H T (-1) S)
def KO_X8_page_10 (N g H T : Nat)  (S : cS) : Prop := KO_X8_page_22 N g H T (-1) S
set_option maxRecDepth 100000 in
set_option maxHeartbeats 4000000 in
theorem kb_X8_page_10 {G : zG} {o : cO} {u g H T N : Nat} {S : cS} {Q : Option Value → cS → Prop} {X : Int32 → Prop} (hG : zOK G) (hR : ∀ v, X v → Q (some (.int v)) S) (hS : St u g H T S) (ok : KO_X8_page_10 N g H T S) (hx : X (KF_X8_page_10 N g H T S)) : cX G o dX8_page mX8_page 10 [none, none, none] [] S Q := by
  unfold KO_X8_page_10 at ok
  unfold KF_X8_page_10 at hx
  refine c_iconst (v := -1) dX8_page_10 (by decide) ?_
  refine c_goto (tgt := 22) dX8_page_11 (by decide) ?_
  exact cX.cutz (kb_X8_page_22 hG hR hS  ok hx) trivial
def KF_X8_page_0 (N g H T : Nat) (x1 : Int32) (x2 : Int32) (S : cS) : Int32 := (if x2 < 0 then (KF_X8_page_10 N g H T S) else (if x2 < (nI 16) then (KF_X8_page_22 N g H T (((x1 &&& (nI 1)) * (nI 16)) + x2) S) else (KF_X8_page_10 N g H T S)))
def KO_X8_page_0 (N g H T : Nat) (x1 : Int32) (x2 : Int32) (S : cS) : Prop := ((x2 < 0 → KO_X8_page_10 N g H T S) ∧ (¬ x2 < 0 → ((x2 < (nI 16) → KO_X8_page_22 N g H T (((x1 &&& (nI 1)) * (nI 16)) + x2) S) ∧ (¬ x2 < (nI 16) → KO_X8_page_10 N g H T S))))
set_option maxRecDepth 100000 in
set_option maxHeartbeats 4000000 in
theorem kb_X8_page_0 {G : zG} {o : cO} {u g H T N : Nat} {S : cS} {Q : Option Value → cS → Prop} {X : Int32 → Prop} (hG : zOK G) (hR : ∀ v, X v → Q (some (.int v)) S) {x1 : Int32} {x2 : Int32} (hS : St u g H T S) (ok : KO_X8_page_0 N g H T x1 x2 S) (hx : X (KF_X8_page_0 N g H T x1 x2 S)) : cX G o dX8_page mX8_page 0 [none, some (.int x1), some (.int x2)] [] S Q := by
  unfold KO_X8_page_0 at ok
  unfold KF_X8_page_0 at hx
  refine c_iload_n dX8_page_0 rfl rfl ?_
  refine c_if_lt (tgt := 10) dX8_page_1 (by decide) (fun c_1 => ?_) (fun c_1 => ?_)
  · have ok := ok.1 c_1
    have hx := xif_p c_1 hx
    exact cX.cutz (kb_X8_page_10 hG hR hS  ok hx) trivial
  · have ok := ok.2 c_1
    have hx := xif_n c_1 hx
    refine c_iload_n dX8_page_4 rfl rfl ?_
    refine c_bipush (v := nI 16) dX8_page_5 (by decide) ?_
    refine c_icmp_lt (tgt := 14) dX8_page_7 (by decide) (fun c_7 => ?_) (fun c_7 => ?_)
    · have ok := ok.1 c_7
      have hx := xif_p c_7 hx
      refine c_iload_n dX8_page_14 rfl rfl ?_
      refine c_iconst (v := nI 1) dX8_page_15 (by decide) ?_
      refine c_iand dX8_page_16 ?_
      refine c_bipush (v := nI 16) dX8_page_17 (by decide) ?_
      refine c_imul dX8_page_19 ?_
      refine c_iload_n dX8_page_20 rfl rfl ?_
      refine c_iadd dX8_page_21 ?_
      exact cX.cutz (kb_X8_page_22 hG hR hS  ok hx) trivial
    · have ok := ok.2 c_7
      have hx := xif_n c_7 hx
      exact cX.cutz (kb_X8_page_10 hG hR hS  ok hx) trivial
def k_X8_page (N g H T : Nat) (S : cS) (a0 : Nat) (x1 : Int32) (x2 : Int32) : Int32 := KF_X8_page_0 N g H T x1 x2 S
def p_X8_page (N g H T : Nat) (S : cS) (a0 : Nat) (x1 : Int32) (x2 : Int32) : Prop := KO_X8_page_0 N g H T x1 x2 S
set_option maxRecDepth 100000 in
set_option maxHeartbeats 4000000 in
theorem kc_X8_page {G : zG} {o : cO} {u g H T N : Nat} {S : cS} (hG : zOK G) {a0 : Nat} {x1 : Int32} {x2 : Int32} (hS : St u g H T S) (t_x0 : isO g H 6 a0) (ok : p_X8_page N g H T S a0 x1 x2) : cCi G o dX8_page mX8_page [.ref a0, .int x1, .int x2] S (fun v S' => (v = k_X8_page N g H T S a0 x1 x2 ∧ S' = S)) := by
  refine cC.ofX rfl (by exact Nat.le_of_ble_eq_true rfl) ?_
  show cX G o dX8_page mX8_page 0 [some (va_rf (some a0)), some (.int x1), some (.int x2)] [] S _
  exact cX.cutz (kb_X8_page_0 (X := fun F => F = k_X8_page N g H T S a0 x1 x2) hG (fun v h => ⟨v, rfl, h, rfl⟩) hS  ok rfl) ⟨rfl, rfl, trivial⟩
/-! X8_ballots -/
def KF_X8_ballots_13 (N g H T : Nat) (x0 : Nat) (s0 : Int32) (s1 : Int32) (S : cS) : Int32 := ((s0 + s1) * (cI S 1 x0))
def KO_X8_ballots_13 (N g H T : Nat) (x0 : Nat) (s0 : Int32) (s1 : Int32) (S : cS) : Prop := True
set_option maxRecDepth 100000 in
set_option maxHeartbeats 4000000 in
theorem kb_X8_ballots_13 {G : zG} {o : cO} {u g H T N : Nat} {S : cS} {Q : Option Value → cS → Prop} {X : Int32 → Prop} (hG : zOK G) (hR : ∀ v, X v → Q (some (.int v)) S) {x0 : Nat} {s0 : Int32} {s1 : Int32} (hS : St u g H T S) (t_x0 : isO g H 6 x0) (ok : KO_X8_ballots_13 N g H T x0 s0 s1 S) (hx : X (KF_X8_ballots_13 N g H T x0 s0 s1 S)) : cX G o dX8_ballots mX8_ballots 13 [some (va_rf (some x0)), none, none] [.int s1, .int s0] S Q := by
  unfold KO_X8_ballots_13 at ok
  unfold KF_X8_ballots_13 at hx
  refine c_iadd dX8_ballots_13 ?_
  refine c_aload_nQ dX8_ballots_14 rfl rfl ?_
  refine c_getI (C := RX8) (T := TX8) (N := 14) (ci := 6) (k := 1) ⟨rfl, inT8, by decide, fX8_32⟩ (by decide) (by decide) (by decide) dX8_ballots_15 (hS.k t_x0) ?_
  refine c_imul dX8_ballots_18 ?_
  exact c_ireturn rfl rfl dX8_ballots_19 (hR _ hx)
def KF_X8_ballots_0 (N g H T : Nat) (x0 : Nat) (x1 : Int32) (x2 : Int32) (S : cS) : Int32 := (if x2 = (nI 2) then (KF_X8_ballots_13 N g H T x0 ((nI 2) * x1) (nI 0) S) else (KF_X8_ballots_13 N g H T x0 ((nI 2) * x1) (nI 1) S))
def KO_X8_ballots_0 (N g H T : Nat) (x0 : Nat) (x1 : Int32) (x2 : Int32) (S : cS) : Prop := ((x2 = (nI 2) → KO_X8_ballots_13 N g H T x0 ((nI 2) * x1) (nI 0) S) ∧ (¬ x2 = (nI 2) → KO_X8_ballots_13 N g H T x0 ((nI 2) * x1) (nI 1) S))
set_option maxRecDepth 100000 in
set_option maxHeartbeats 4000000 in
theorem kb_X8_ballots_0 {G : zG} {o : cO} {u g H T N : Nat} {S : cS} {Q : Option Value → cS → Prop} {X : Int32 → Prop} (hG : zOK G) (hR : ∀ v, X v → Q (some (.int v)) S) {x0 : Nat} {x1 : Int32} {x2 : Int32} (hS : St u g H T S) (t_x0 : isO g H 6 x0) (ok : KO_X8_ballots_0 N g H T x0 x1 x2 S) (hx : X (KF_X8_ballots_0 N g H T x0 x1 x2 S)) : cX G o dX8_ballots mX8_ballots 0 [some (va_rf (some x0)), some (.int x1), some (.int x2)] [] S Q := by
  unfold KO_X8_ballots_0 at ok
  unfold KF_X8_ballots_0 at hx
  refine c_iconst (v := nI 2) dX8_ballots_0 (by decide) ?_
  refine c_iload_n dX8_ballots_1 rfl rfl ?_
  refine c_imul dX8_ballots_2 ?_
  refine c_iload_n dX8_ballots_3 rfl rfl ?_
  refine c_iconst (v := nI 2) dX8_ballots_4 (by decide) ?_
  refine c_icmp_ne (tgt := 12) dX8_ballots_5 (by decide) (fun c_5 => ?_) (fun c_5 => ?_)
  · have ok := ok.2 c_5
    have hx := xif_n c_5 hx
    refine c_iconst (v := nI 1) dX8_ballots_12 (by decide) ?_
    exact cX.cutz (kb_X8_ballots_13 hG hR hS t_x0 ok hx) ⟨rfl, trivial⟩
  · have ok := ok.1 c_5
    have hx := xif_p c_5 hx
    refine c_iconst (v := nI 0) dX8_ballots_8 (by decide) ?_
    refine c_goto (tgt := 13) dX8_ballots_9 (by decide) ?_
    exact cX.cutz (kb_X8_ballots_13 hG hR hS t_x0 ok hx) ⟨rfl, trivial⟩
def k_X8_ballots (N g H T : Nat) (S : cS) (a0 : Nat) (x1 : Int32) (x2 : Int32) : Int32 := KF_X8_ballots_0 N g H T a0 x1 x2 S
def p_X8_ballots (N g H T : Nat) (S : cS) (a0 : Nat) (x1 : Int32) (x2 : Int32) : Prop := KO_X8_ballots_0 N g H T a0 x1 x2 S
set_option maxRecDepth 100000 in
set_option maxHeartbeats 4000000 in
theorem kc_X8_ballots {G : zG} {o : cO} {u g H T N : Nat} {S : cS} (hG : zOK G) {a0 : Nat} {x1 : Int32} {x2 : Int32} (hS : St u g H T S) (t_x0 : isO g H 6 a0) (ok : p_X8_ballots N g H T S a0 x1 x2) : cCi G o dX8_ballots mX8_ballots [.ref a0, .int x1, .int x2] S (fun v S' => (v = k_X8_ballots N g H T S a0 x1 x2 ∧ S' = S)) := by
  refine cC.ofX rfl (by exact Nat.le_of_ble_eq_true rfl) ?_
  show cX G o dX8_ballots mX8_ballots 0 [some (va_rf (some a0)), some (.int x1), some (.int x2)] [] S _
  exact cX.cutz (kb_X8_ballots_0 (X := fun F => F = k_X8_ballots N g H T S a0 x1 x2) hG (fun v h => ⟨v, rfl, h, rfl⟩) hS t_x0 ok rfl) ⟨rfl, rfl, rfl, trivial⟩

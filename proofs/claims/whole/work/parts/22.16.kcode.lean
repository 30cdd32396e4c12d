/-! X7_approves -/
def KF_X7_approves_80 (N g H T : Nat) (s0 : Int32) (S : cS) : Int32 × cS := (s0, S)
def KO_X7_approves_80 (N g H T : Nat) (s0 : Int32) (S : cS) : Prop := narrow .boolean (.int s0) = .int s0
set_option maxRecDepth 100000 in
set_option maxHeartbeats 4000000 in
theorem kb_X7_approves_80 {G : zG} {o : cO} {u g H T N : Nat} {S : cS} {S0 : cS} {Q : Option Value → cS → Prop} {X : Int32 × cS → Prop} (hG : zOK G) (hR : ∀ v S', St u g H T S' → Mono S0 S' → X (v, S') → Q (some (.int v)) S') {s0 : Int32} (hS : St u g H T S) (hM : Mono S0 S) (ok : KO_X7_approves_80 N g H T s0 S) (hx : X (KF_X7_approves_80 N g H T s0 S)) : cX G o dX7_approves mX7_approves 80 [none, none, none] [.int s0] S Q := by
  unfold KO_X7_approves_80 at ok
  unfold KF_X7_approves_80 at hx
  exact c_ireturn rfl ok dX7_approves_80 (hR _ _ hS hM hx)
def KF_X7_approves_59 (N g H T : Nat) (x0 : Option Nat) (x1 : Int32) (S : cS) : Int32 × cS := (if (k_X8_verdict N g H T S ((za x0) + 14) (cI S 9 (za x0)) x1) = (nI 1) then (KF_X7_approves_80 N g H T (nI 1) S) else (KF_X7_approves_80 N g H T (nI 0) S))
def KO_X7_approves_59 (N g H T : Nat) (x0 : Option Nat) (x1 : Int32) (S : cS) : Prop := (¬ x0 = none) ∧ (p_X8_verdict N g H T S ((za x0) + 14) (cI S 9 (za x0)) x1) ∧ (((k_X8_verdict N g H T S ((za x0) + 14) (cI S 9 (za x0)) x1) = (nI 1) → KO_X7_approves_80 N g H T (nI 1) S) ∧ (¬ (k_X8_verdict N g H T S ((za x0) + 14) (cI S 9 (za x0)) x1) = (nI 1) → KO_X7_approves_80 N g H T (nI 0) S))
set_option maxRecDepth 100000 in
set_option maxHeartbeats 4000000 in
theorem kb_X7_approves_59 {G : zG} {o : cO} {u g H T N : Nat} {S : cS} {S0 : cS} {Q : Option Value → cS → Prop} {X : Int32 × cS → Prop} (hG : zOK G) (hR : ∀ v S', St u g H T S' → Mono S0 S' → X (v, S') → Q (some (.int v)) S') {x0 : Option Nat} {x1 : Int32} (hS : St u g H T S) (hM : Mono S0 S) (t_x0 : tN g H x0) (ok : KO_X7_approves_59 N g H T x0 x1 S) (hx : X (KF_X7_approves_59 N g H T x0 x1 S)) : cX G o dX7_approves mX7_approves 59 [some (va_rf x0), some (.int x1), none] [] S Q := by
  unfold KO_X7_approves_59 at ok
  unfold KF_X7_approves_59 at hx
  refine c_aload_nQ dX7_approves_59 rfl rfl ?_
  have nn_60 := ok.1
  refine c_getS (C := RX6) (T := TX6) (N := 19) (ci := 5) (k := 3) ⟨rfl, inT6, by decide, fX7_80⟩ (by decide) (by decide) (by decide) dX7_approves_60 (hS.kN t_x0 ok.1) (hS.r (c := 5) (tN.o t_x0 ok.1) rfl (by omega)) ?_
  have ok := ok.2
  refine c_aload_nQ dX7_approves_63 rfl rfl ?_
  refine c_getI (C := RX6) (T := TX6) (N := 19) (ci := 5) (k := 9) ⟨rfl, inT6, by decide, fX7_18⟩ (by decide) (by decide) (by decide) dX7_approves_64 (hS.kN t_x0 nn_60) ?_
  refine c_iload_n dX7_approves_67 rfl rfl ?_
  refine c_V2iE (ci := 6) (rr := (RX8, TX8, 14)) (y' := mX8_verdict) dX7_approves_68 lX7_394 kX8_verdict ⟨by decide, by decide⟩ rfl rfl (by decide) (hS.k (o53 (tN.o t_x0 nn_60))) (Nat.le_of_ble_eq_true rfl) (kc_X8_verdict hG hS (o53 (tN.o t_x0 nn_60)) ok.1) ?_
  have ok := ok.2
  refine c_iconst (v := nI 1) dX7_approves_71 (by decide) ?_
  refine c_icmp_ne (tgt := 79) dX7_approves_72 (by decide) (fun c_72 => ?_) (fun c_72 => ?_)
  · have ok := ok.2 c_72
    have hx := xif_n c_72 hx
    refine c_iconst (v := nI 0) dX7_approves_79 (by decide) ?_
    exact cX.cutz (kb_X7_approves_80 hG hR hS hM  ok hx) trivial
  · have ok := ok.1 c_72
    have hx := xif_p c_72 hx
    refine c_iconst (v := nI 1) dX7_approves_75 (by decide) ?_
    refine c_goto (tgt := 80) dX7_approves_76 (by decide) ?_
    exact cX.cutz (kb_X7_approves_80 hG hR hS hM  ok hx) trivial
def KF_X7_approves_56 (N g H T : Nat) (x0 : Option Nat) (x1 : Int32) (s0 : Nat) (s1 : Int32) (s2 : Int32) (s3 : Int32) (S : cS) : Int32 × cS := (KF_X7_approves_59 N g H T x0 x1 (k_X8_judge N g H T S s0 s1 s2 s3))
def KO_X7_approves_56 (N g H T : Nat) (x0 : Option Nat) (x1 : Int32) (s0 : Nat) (s1 : Int32) (s2 : Int32) (s3 : Int32) (S : cS) : Prop := (p_X8_judge N g H T S s0 s1 s2 s3) ∧ KO_X7_approves_59 N g H T x0 x1 (k_X8_judge N g H T S s0 s1 s2 s3)
set_option maxRecDepth 100000 in
set_option maxHeartbeats 4000000 in
theorem kb_X7_approves_56 {G : zG} {o : cO} {u g H T N : Nat} {S : cS} {S0 : cS} {Q : Option Value → cS → Prop} {X : Int32 × cS → Prop} (hG : zOK G) (hR : ∀ v S', St u g H T S' → Mono S0 S' → X (v, S') → Q (some (.int v)) S') {x0 : Option Nat} {x1 : Int32} {s0 : Nat} {s1 : Int32} {s2 : Int32} {s3 : Int32} (hS : St u g H T S) (hM : Mono S0 S) (t_x0 : tN g H x0) (t_s0 : isO g H 6 s0) (ok : KO_X7_approves_56 N g H T x0 x1 s0 s1 s2 s3 S) (hx : X (KF_X7_approves_56 N g H T x0 x1 s0 s1 s2 s3 S)) : cX G o dX7_approves mX7_approves 56 [some (va_rf x0), some (.int x1), none] [.int s3, .int s2, .int s1, va_rf (some s0)] S Q := by
  unfold KO_X7_approves_56 at ok
  unfold KF_X7_approves_56 at hx
  refine c_V3vK (ci := 6) (rr := (RX8, TX8, 14)) (y' := mX8_judge) dX7_approves_56 lX7_397 kX8_judge ⟨by decide, by decide⟩ rfl rfl (by decide) (hS.k t_s0) (Nat.le_of_ble_eq_true rfl) (kc_X8_judge hG hS t_s0 ok.1) (fun ⟨hS, hm_56⟩ => ?_)
  have hM := hM.trans hm_56
  have ok := ok.2
  exact cX.cutz (kb_X7_approves_59 hG hR hS hM t_x0 ok hx) ⟨rfl, rfl, trivial⟩
def KF_X7_approves_55 (N g H T : Nat) (x0 : Option Nat) (x1 : Int32) (s0 : Nat) (s1 : Int32) (s2 : Int32) (S : cS) : Int32 × cS := (KF_X7_approves_56 N g H T x0 x1 s0 s1 s2 (nI 0) S)
def KO_X7_approves_55 (N g H T : Nat) (x0 : Option Nat) (x1 : Int32) (s0 : Nat) (s1 : Int32) (s2 : Int32) (S : cS) : Prop := KO_X7_approves_56 N g H T x0 x1 s0 s1 s2 (nI 0) S
set_option maxRecDepth 100000 in
set_option maxHeartbeats 4000000 in
theorem kb_X7_approves_55 {G : zG} {o : cO} {u g H T N : Nat} {S : cS} {S0 : cS} {Q : Option Value → cS → Prop} {X : Int32 × cS → Prop} (hG : zOK G) (hR : ∀ v S', St u g H T S' → Mono S0 S' → X (v, S') → Q (some (.int v)) S') {x0 : Option Nat} {x1 : Int32} {s0 : Nat} {s1 : Int32} {s2 : Int32} (hS : St u g H T S) (hM : Mono S0 S) (t_x0 : tN g H x0) (t_s0 : isO g H 6 s0) (ok : KO_X7_approves_55 N g H T x0 x1 s0 s1 s2 S) (hx : X (KF_X7_approves_55 N g H T x0 x1 s0 s1 s2 S)) : cX G o dX7_approves mX7_approves 55 [some (va_rf x0), some (.int x1), none] [.int s2, .int s1, va_rf (some s0)] S Q := by
  unfold KO_X7_approves_55 at ok
  unfold KF_X7_approves_55 at hx
  refine c_iconst (v := nI 0) dX7_approves_55 (by decide) ?_
  exact cX.cutz (kb_X7_approves_56 hG hR hS hM t_x0 t_s0 ok hx) ⟨rfl, rfl, trivial⟩
def KF_X7_approves_48 (N g H T : Nat) (x0 : Option Nat) (x1 : Int32) (s0 : Nat) (s1 : Int32) (s2 : Int32) (s3 : Int32) (S : cS) : Int32 × cS := (if s3 = 0 then (KF_X7_approves_55 N g H T x0 x1 s0 s1 s2 S) else (KF_X7_approves_56 N g H T x0 x1 s0 s1 s2 (nI 1) S))
def KO_X7_approves_48 (N g H T : Nat) (x0 : Option Nat) (x1 : Int32) (s0 : Nat) (s1 : Int32) (s2 : Int32) (s3 : Int32) (S : cS) : Prop := ((s3 = 0 → KO_X7_approves_55 N g H T x0 x1 s0 s1 s2 S) ∧ (¬ s3 = 0 → KO_X7_approves_56 N g H T x0 x1 s0 s1 s2 (nI 1) S))
set_option maxRecDepth 100000 in
set_option maxHeartbeats 4000000 in
theorem kb_X7_approves_48 {G : zG} {o : cO} {u g H T N : Nat} {S : cS} {S0 : cS} {Q : Option Value → cS → Prop} {X : Int32 × cS → Prop} (hG : zOK G) (hR : ∀ v S', St u g H T S' → Mono S0 S' → X (v, S') → Q (some (.int v)) S') {x0 : Option Nat} {x1 : Int32} {s0 : Nat} {s1 : Int32} {s2 : Int32} {s3 : Int32} (hS : St u g H T S) (hM : Mono S0 S) (t_x0 : tN g H x0) (t_s0 : isO g H 6 s0) (ok : KO_X7_approves_48 N g H T x0 x1 s0 s1 s2 s3 S) (hx : X (KF_X7_approves_48 N g H T x0 x1 s0 s1 s2 s3 S)) : cX G o dX7_approves mX7_approves 48 [some (va_rf x0), some (.int x1), none] [.int s3, .int s2, .int s1, va_rf (some s0)] S Q := by
  unfold KO_X7_approves_48 at ok
  unfold KF_X7_approves_48 at hx
  refine c_if_eq (tgt := 55) dX7_approves_48 (by decide) (fun c_48 => ?_) (fun c_48 => ?_)
  · have ok := ok.1 c_48
    have hx := xif_p c_48 hx
    exact cX.cutz (kb_X7_approves_55 hG hR hS hM t_x0 t_s0 ok hx) ⟨rfl, rfl, trivial⟩
  · have ok := ok.2 c_48
    have hx := xif_n c_48 hx
    refine c_iconst (v := nI 1) dX7_approves_51 (by decide) ?_
    refine c_goto (tgt := 56) dX7_approves_52 (by decide) ?_
    exact cX.cutz (kb_X7_approves_56 hG hR hS hM t_x0 t_s0 ok hx) ⟨rfl, rfl, trivial⟩
def KF_X7_approves_0 (N g H T : Nat) (x0 : Option Nat) (x1 : Int32) (S : cS) : Int32 × cS := (if (k_X8_verdict N g H T S ((za x0) + 14) (cI S 9 (za x0)) x1) = 0 then (if (k_X8_proposal N g H T S ((za x0) + 14) (cI S 9 (za x0)) x1) = none then (KF_X7_approves_55 N g H T x0 x1 ((za x0) + 14) (cI S 9 (za x0)) x1 S) else (KF_X7_approves_48 N g H T x0 x1 ((za x0) + 14) (cI S 9 (za x0)) x1 ((k_X7_isValid N g H T S x0 (k_X8_proposal N g H T S ((za x0) + 14) (cI S 9 (za x0)) x1) (nI 6)).1) (k_X7_isValid N g H T S x0 (k_X8_proposal N g H T S ((za x0) + 14) (cI S 9 (za x0)) x1) (nI 6)).2)) else (KF_X7_approves_59 N g H T x0 x1 S))
def KO_X7_approves_0 (N g H T : Nat) (x0 : Option Nat) (x1 : Int32) (S : cS) : Prop := (¬ x0 = none) ∧ (p_X8_verdict N g H T S ((za x0) + 14) (cI S 9 (za x0)) x1) ∧ (((k_X8_verdict N g H T S ((za x0) + 14) (cI S 9 (za x0)) x1) = 0 → (p_X8_proposal N g H T S ((za x0) + 14) (cI S 9 (za x0)) x1) ∧ (((k_X8_proposal N g H T S ((za x0) + 14) (cI S 9 (za x0)) x1) = none → KO_X7_approves_55 N g H T x0 x1 ((za x0) + 14) (cI S 9 (za x0)) x1 S) ∧ (¬ (k_X8_proposal N g H T S ((za x0) + 14) (cI S 9 (za x0)) x1) = none → (p_X7_isValid N g H T S x0 (k_X8_proposal N g H T S ((za x0) + 14) (cI S 9 (za x0)) x1) (nI 6)) ∧ KO_X7_approves_48 N g H T x0 x1 ((za x0) + 14) (cI S 9 (za x0)) x1 ((k_X7_isValid N g H T S x0 (k_X8_proposal N g H T S ((za x0) + 14) (cI S 9 (za x0)) x1) (nI 6)).1) (k_X7_isValid N g H T S x0 (k_X8_proposal N g H T S ((za x0) + 14) (cI S 9 (za x0)) x1) (nI 6)).2))) ∧ (¬ (k_X8_verdict N g H T S ((za x0) + 14) (cI S 9 (za x0)) x1) = 0 → KO_X7_approves_59 N g H T x0 x1 S))
set_option maxRecDepth 100000 in
set_option maxHeartbeats 4000000 in
theorem kb_X7_approves_0 {G : zG} {o : cO} {u g H T N : Nat} {S : cS} {S0 : cS} {Q : Option Value → cS → Prop} {X : Int32 × cS → Prop} (hG : zOK G) (hR : ∀ v S', St u g H T S' → Mono S0 S' → X (v, S') → Q (some (.int v)) S') {x0 : Option Nat} {x1 : Int32} (hS : St u g H T S) (hM : Mono S0 S) (t_x0 : tN g H x0) (ok : KO_X7_approves_0 N g H T x0 x1 S) (hx : X (KF_X7_approves_0 N g H T x0 x1 S)) : cX G o dX7_approves mX7_approves 0 [some (va_rf x0), some (.int x1), none] [] S Q := by
  unfold KO_X7_approves_0 at ok
  unfold KF_X7_approves_0 at hx
  refine c_aload_nQ dX7_approves_0 rfl rfl ?_
  have nn_1 := ok.1
  refine c_getS (C := RX6) (T := TX6) (N := 19) (ci := 5) (k := 3) ⟨rfl, inT6, by decide, fX7_80⟩ (by decide) (by decide) (by decide) dX7_approves_1 (hS.kN t_x0 ok.1) (hS.r (c := 5) (tN.o t_x0 ok.1) rfl (by omega)) ?_
  have ok := ok.2
  refine c_aload_nQ dX7_approves_4 rfl rfl ?_
  refine c_getI (C := RX6) (T := TX6) (N := 19) (ci := 5) (k := 9) ⟨rfl, inT6, by decide, fX7_18⟩ (by decide) (by decide) (by decide) dX7_approves_5 (hS.kN t_x0 nn_1) ?_
  refine c_iload_n dX7_approves_8 rfl rfl ?_
  refine c_V2iE (ci := 6) (rr := (RX8, TX8, 14)) (y' := mX8_verdict) dX7_approves_9 lX7_394 kX8_verdict ⟨by decide, by decide⟩ rfl rfl (by decide) (hS.k (o53 (tN.o t_x0 nn_1))) (Nat.le_of_ble_eq_true rfl) (kc_X8_verdict hG hS (o53 (tN.o t_x0 nn_1)) ok.1) ?_
  have ok := ok.2
  refine c_if_ne (tgt := 59) dX7_approves_12 (by decide) (fun c_12 => ?_) (fun c_12 => ?_)
  · have ok := ok.2 c_12
    have hx := xif_n c_12 hx
    exact cX.cutz (kb_X7_approves_59 hG hR hS hM t_x0 ok hx) ⟨rfl, rfl, trivial⟩
  · have ok := ok.1 c_12
    have hx := xif_p c_12 hx
    refine c_aload_nQ dX7_approves_15 rfl rfl ?_
    refine c_getS (C := RX6) (T := TX6) (N := 19) (ci := 5) (k := 3) ⟨rfl, inT6, by decide, fX7_80⟩ (by decide) (by decide) (by decide) dX7_approves_16 (hS.kN t_x0 nn_1) (hS.r (c := 5) (tN.o t_x0 nn_1) rfl (by omega)) ?_
    refine c_aload_nQ dX7_approves_19 rfl rfl ?_
    refine c_getI (C := RX6) (T := TX6) (N := 19) (ci := 5) (k := 9) ⟨rfl, inT6, by decide, fX7_18⟩ (by decide) (by decide) (by decide) dX7_approves_20 (hS.kN t_x0 nn_1) ?_
    refine c_iload_n dX7_approves_23 rfl rfl ?_
    refine c_V2qK (ci := 6) (rr := (RX8, TX8, 14)) (y' := mX8_proposal) dX7_approves_24 lX7_172 kX8_proposal ⟨by decide, by decide⟩ rfl rfl (by decide) (hS.k (o53 (tN.o t_x0 nn_1))) (Nat.le_of_ble_eq_true rfl) (kc_X8_proposal hG hS (o53 (tN.o t_x0 nn_1)) ok.1) (fun tv_24 => ?_)
    have ok := ok.2
    refine c_astore_2Q dX7_approves_27 (by decide) rfl ?_
    refine c_aload_nQ dX7_approves_28 rfl rfl ?_
    refine c_getS (C := RX6) (T := TX6) (N := 19) (ci := 5) (k := 3) ⟨rfl, inT6, by decide, fX7_80⟩ (by decide) (by decide) (by decide) dX7_approves_29 (hS.kN t_x0 nn_1) (hS.r (c := 5) (tN.o t_x0 nn_1) rfl (by omega)) ?_
    refine c_aload_nQ dX7_approves_32 rfl rfl ?_
    refine c_getI (C := RX6) (T := TX6) (N := 19) (ci := 5) (k := 9) ⟨rfl, inT6, by decide, fX7_18⟩ (by decide) (by decide) (by decide) dX7_approves_33 (hS.kN t_x0 nn_1) ?_
    refine c_iload_n dX7_approves_36 rfl rfl ?_
    refine c_aload_nQ dX7_approves_37 rfl rfl ?_
    refine c_ifnullI (tgt := 55) dX7_approves_38 (by decide) (fun c_38 => ?_) (fun c_38 => ?_)
    · have ok := ok.1 c_38
      have hx := xif_p c_38 hx
      exact cX.cutz (kb_X7_approves_55 hG hR hS hM t_x0 (o53 (tN.o t_x0 nn_1)) ok hx) ⟨rfl, rfl, trivial⟩
    · have ok := ok.2 c_38
      have hx := xif_n c_38 hx
      refine c_aload_nQ dX7_approves_41 rfl rfl ?_
      refine c_aload_nQ dX7_approves_42 rfl rfl ?_
      refine c_bipush (v := nI 6) dX7_approves_43 (by decide) ?_
      refine c_S3iK (y' := mX7_isValid) dX7_approves_45 lX7_161 kX7_isValid ⟨by decide, by decide⟩ (by simp only [List.map_cons, List.map_nil, List.sum_cons, List.sum_nil, zcat_rf, zcat_i, zcat_l, zcat_r] <;> decide) (kc_X7_isValid hG hS t_x0 tv_24 ok.1) (fun ⟨hS, hm_45⟩ => ?_)
      have hM := hM.trans hm_45
      have ok := ok.2
      exact cX.cutz (kb_X7_approves_48 hG hR hS hM t_x0 (o53 (tN.o t_x0 nn_1)) ok hx) ⟨rfl, rfl, trivial⟩
def k_X7_approves (N g H T : Nat) (S : cS) (x0 : Option Nat) (x1 : Int32) : Int32 × cS := KF_X7_approves_0 N g H T x0 x1 S
def p_X7_approves (N g H T : Nat) (S : cS) (x0 : Option Nat) (x1 : Int32) : Prop := KO_X7_approves_0 N g H T x0 x1 S
set_option maxRecDepth 100000 in
set_option maxHeartbeats 4000000 in
theorem kc_X7_approves {G : zG} {o : cO} {u g H T N : Nat} {S : cS} (hG : zOK G) {x0 : Option Nat} {x1 : Int32} (hS : St u g H T S) (t_x0 : tN g H x0) (ok : p_X7_approves N g H T S x0 x1) : cCi G o dX7_approves mX7_approves [va_rf x0, .int x1] S (fun v S' => (v = (k_X7_approves N g H T S x0 x1).1 ∧ S' = (k_X7_approves N g H T S x0 x1).2) ∧ St u g H T S' ∧ Mono S S') := by
  refine cC.ofX rfl (by cases x0 <;> exact Nat.le_of_ble_eq_true rfl) ?_
  rw [show zargs mX7_approves.2.2.1 [va_rf x0, .int x1] = [some (va_rf x0), some (.int x1), none] from by cases x0 <;> rfl]
  exact cX.cutz (kb_X7_approves_0 (X := fun F => F = k_X7_approves N g H T S x0 x1) hG (fun v S' h1 h2 h => ⟨v, rfl, ⟨by rw [← h], by rw [← h]⟩, h1, h2⟩) hS Mono.rfl' t_x0 ok rfl) ⟨rfl, rfl, trivial⟩
/-! X7_decides -/
def KF_X7_decides_186 (N g H T : Nat)  (S : cS) : Int32 × cS := ((nI 0), S)
def KO_X7_decides_186 (N g H T : Nat)  (S : cS) : Prop := True
set_option maxRecDepth 100000 in
set_option maxHeartbeats 4000000 in
theorem kb_X7_decides_186 {G : zG} {o : cO} {u g H T N : Nat} {S : cS} {S0 : cS} {Q : Option Value → cS → Prop} {X : Int32 × cS → Prop} (hG : zOK G) (hR : ∀ v S', St u g H T S' → Mono S0 S' → X (v, S') → Q (some (.int v)) S') (hS : St u g H T S) (hM : Mono S0 S) (ok : KO_X7_decides_186 N g H T S) (hx : X (KF_X7_decides_186 N g H T S)) : cX G o dX7_decides mX7_decides 186 [none, none, none, none] [] S Q := by
  unfold KO_X7_decides_186 at ok
  unfold KF_X7_decides_186 at hx
  refine c_iconst (v := nI 0) dX7_decides_186 (by decide) ?_
  exact c_ireturn rfl rfl dX7_decides_187 (hR _ _ hS hM hx)
def KF_X7_decides_180 (N g H T : Nat) (rec : Option Nat → Nat → Int32 → cS → Nat × Option Nat × Option Nat × cS) (x0 : Option Nat) (x1 : Nat) (x2 : Int32) (S : cS) : Nat × Option Nat × Option Nat × cS := (rec x0 x1 (x2 + nI 1) S)
def KO_X7_decides_180 (N g H T : Nat) (rok : Option Nat → Nat → Int32 → cS → Prop) (x0 : Option Nat) (x1 : Nat) (x2 : Int32) (S : cS) : Prop := rok x0 x1 (x2 + nI 1) S
set_option maxRecDepth 100000 in
set_option maxHeartbeats 4000000 in
theorem kb_X7_decides_180 {G : zG} {o : cO} {u g H T N : Nat} {S : cS} {S0 : cS} {Q : Option Value → cS → Prop} {X : Nat × Option Nat × Option Nat × cS → Prop} (hG : zOK G) (hX0 : ∀ (x0 : Option Nat) (x3 : Option Nat) (S' : cS), St u g H T S' → Mono S0 S' → tN g H x0 → tK S' 5 x3 → X (0, x0, x3, S') → cX G o dX7_decides mX7_decides 171 [some (va_rf x0), none, none, some (va_rf x3)] [] S' Q) (hX1 : ∀ (x0 : Option Nat) (x3 : Option Nat) (S' : cS), St u g H T S' → Mono S0 S' → X (1, x0, x3, S') → cX G o dX7_decides mX7_decides 186 [none, none, none, none] [] S' Q) {rec : Option Nat → Nat → Int32 → cS → Nat × Option Nat × Option Nat × cS} {rok : Option Nat → Nat → Int32 → cS → Prop} (hrec : ∀ (x0 : Option Nat) (x1 : Nat) (x2 : Int32) (S : cS), St u g H T S → Mono S0 S → tN g H x0 → isO g H 6 x1 → rok x0 x1 x2 S → X (rec x0 x1 x2 S) → cX G o dX7_decides mX7_decides 116 [some (va_rf x0), some (va_rf (some x1)), some (.int x2), none] [] S Q) {x0 : Option Nat} {x1 : Nat} {x2 : Int32} (hS : St u g H T S) (hM : Mono S0 S) (t_x0 : tN g H x0) (t_x1 : isO g H 6 x1) (ok : KO_X7_decides_180 N g H T rok x0 x1 x2 S) (hx : X (KF_X7_decides_180 N g H T rec x0 x1 x2 S)) : cX G o dX7_decides mX7_decides 180 [some (va_rf x0), some (va_rf (some x1)), some (.int x2), none] [] S Q := by
  unfold KO_X7_decides_180 at ok
  unfold KF_X7_decides_180 at hx
  refine c_iinc_2 (v := (x2 + nI 1)) dX7_decides_180 rfl (by first | rfl | (congr 1)) (by decide) (by simp [zok, zg, zcat_rf]) ?_
  refine c_goto (tgt := 116) dX7_decides_183 (by decide) ?_
  exact cX.cutz (hrec _ _ _ S hS hM t_x0 t_x1 ok hx) ⟨rfl, rfl, rfl, trivial⟩
def KF_X7_decides_178 (N g H T : Nat)  (S : cS) : Int32 × cS := ((nI 1), S)
def KO_X7_decides_178 (N g H T : Nat)  (S : cS) : Prop := True
set_option maxRecDepth 100000 in
set_option maxHeartbeats 4000000 in
theorem kb_X7_decides_178 {G : zG} {o : cO} {u g H T N : Nat} {S : cS} {S0 : cS} {Q : Option Value → cS → Prop} {X : Int32 × cS → Prop} (hG : zOK G) (hR : ∀ v S', St u g H T S' → Mono S0 S' → X (v, S') → Q (some (.int v)) S') (hS : St u g H T S) (hM : Mono S0 S) (ok : KO_X7_decides_178 N g H T S) (hx : X (KF_X7_decides_178 N g H T S)) : cX G o dX7_decides mX7_decides 178 [none, none, none, none] [] S Q := by
  unfold KO_X7_decides_178 at ok
  unfold KF_X7_decides_178 at hx
  refine c_iconst (v := nI 1) dX7_decides_178 (by decide) ?_
  exact c_ireturn rfl rfl dX7_decides_179 (hR _ _ hS hM hx)
def KF_X7_decides_171 (N g H T : Nat) (x0 : Option Nat) (x3 : Option Nat) (S : cS) : Int32 × cS := (KF_X7_decides_178 N g H T (k_X7_adopt N g H T S x0 x3 (nI 6)))
def KO_X7_decides_171 (N g H T : Nat) (x0 : Option Nat) (x3 : Option Nat) (S : cS) : Prop := (p_X7_adopt N g H T S x0 x3 (nI 6)) ∧ KO_X7_decides_178 N g H T (k_X7_adopt N g H T S x0 x3 (nI 6))
set_option maxRecDepth 100000 in
set_option maxHeartbeats 4000000 in
theorem kb_X7_decides_171 {G : zG} {o : cO} {u g H T N : Nat} {S : cS} {S0 : cS} {Q : Option Value → cS → Prop} {X : Int32 × cS → Prop} (hG : zOK G) (hR : ∀ v S', St u g H T S' → Mono S0 S' → X (v, S') → Q (some (.int v)) S') {x0 : Option Nat} {x3 : Option Nat} (hS : St u g H T S) (hM : Mono S0 S) (t_x0 : tN g H x0) (t_x3 : tK S 5 x3) (ok : KO_X7_decides_171 N g H T x0 x3 S) (hx : X (KF_X7_decides_171 N g H T x0 x3 S)) : cX G o dX7_decides mX7_decides 171 [some (va_rf x0), none, none, some (va_rf x3)] [] S Q := by
  unfold KO_X7_decides_171 at ok
  unfold KF_X7_decides_171 at hx
  refine c_aload_nQ dX7_decides_171 rfl rfl ?_
  refine c_aload_nQ dX7_decides_172 rfl rfl ?_
  refine c_bipush (v := nI 6) dX7_decides_173 (by decide) ?_
  refine c_S3vK (y' := mX7_adopt) dX7_decides_175 lX7_165 kX7_adopt ⟨by decide, by decide⟩ (Nat.le_of_ble_eq_true rfl) (kc_X7_adopt hG hS t_x0 t_x3 ok.1) (fun ⟨hS, hm_175⟩ => ?_)
  have hM := hM.trans hm_175
  have ok := ok.2
  exact cX.cutz (kb_X7_decides_178 hG hR hS hM  ok hx) trivial
def KF_X7_decides_168 (N g H T : Nat) (rec : Option Nat → Nat → Int32 → cS → Nat × Option Nat × Option Nat × cS) (x0 : Option Nat) (x1 : Nat) (x2 : Int32) (x3 : Option Nat) (s0 : Int32) (S : cS) : Nat × Option Nat × Option Nat × cS := (if s0 = 0 then (KF_X7_decides_180 N g H T rec x0 x1 x2 S) else (0, x0, x3, S))
def KO_X7_decides_168 (N g H T : Nat) (rok : Option Nat → Nat → Int32 → cS → Prop) (x0 : Option Nat) (x1 : Nat) (x2 : Int32) (x3 : Option Nat) (s0 : Int32) (S : cS) : Prop := ((s0 = 0 → KO_X7_decides_180 N g H T rok x0 x1 x2 S) ∧ (¬ s0 = 0 → True))
set_option maxRecDepth 100000 in
set_option maxHeartbeats 4000000 in
theorem kb_X7_decides_168 {G : zG} {o : cO} {u g H T N : Nat} {S : cS} {S0 : cS} {Q : Option Value → cS → Prop} {X : Nat × Option Nat × Option Nat × cS → Prop} (hG : zOK G) (hX0 : ∀ (x0 : Option Nat) (x3 : Option Nat) (S' : cS), St u g H T S' → Mono S0 S' → tN g H x0 → tK S' 5 x3 → X (0, x0, x3, S') → cX G o dX7_decides mX7_decides 171 [some (va_rf x0), none, none, some (va_rf x3)] [] S' Q) (hX1 : ∀ (x0 : Option Nat) (x3 : Option Nat) (S' : cS), St u g H T S' → Mono S0 S' → X (1, x0, x3, S') → cX G o dX7_decides mX7_decides 186 [none, none, none, none] [] S' Q) {rec : Option Nat → Nat → Int32 → cS → Nat × Option Nat × Option Nat × cS} {rok : Option Nat → Nat → Int32 → cS → Prop} (hrec : ∀ (x0 : Option Nat) (x1 : Nat) (x2 : Int32) (S : cS), St u g H T S → Mono S0 S → tN g H x0 → isO g H 6 x1 → rok x0 x1 x2 S → X (rec x0 x1 x2 S) → cX G o dX7_decides mX7_decides 116 [some (va_rf x0), some (va_rf (some x1)), some (.int x2), none] [] S Q) {x0 : Option Nat} {x1 : Nat} {x2 : Int32} {x3 : Option Nat} {s0 : Int32} (hS : St u g H T S) (hM : Mono S0 S) (t_x0 : tN g H x0) (t_x1 : isO g H 6 x1) (t_x3 : tK S 5 x3) (ok : KO_X7_decides_168 N g H T rok x0 x1 x2 x3 s0 S) (hx : X (KF_X7_decides_168 N g H T rec x0 x1 x2 x3 s0 S)) : cX G o dX7_decides mX7_decides 168 [some (va_rf x0), some (va_rf (some x1)), some (.int x2), some (va_rf x3)] [.int s0] S Q := by
  unfold KO_X7_decides_168 at ok
  unfold KF_X7_decides_168 at hx
  refine c_if_eq (tgt := 180) dX7_decides_168 (by decide) (fun c_168 => ?_) (fun c_168 => ?_)
  · have ok := ok.1 c_168
    have hx := xif_p c_168 hx
    exact cX.cutz (kb_X7_decides_180 hG hX0 hX1 hrec hS hM t_x0 t_x1 ok hx) ⟨rfl, rfl, rfl, trivial⟩
  · have ok := ok.2 c_168
    have hx := xif_n c_168 hx
    exact cX.cutz (hX0 _ _ S hS hM t_x0 t_x3 hx) ⟨rfl, rfl, trivial⟩
def KB_X7_decides_116 (N g H T : Nat) (rec : Option Nat → Nat → Int32 → cS → Nat × Option Nat × Option Nat × cS) (x0 : Option Nat) (x1 : Nat) (x2 : Int32) (S : cS) : Nat × Option Nat × Option Nat × cS := (if (k_X8_top N g H T S x1 (cI S 9 (za x0))) ≤ x2 then (1, none, none, S) else (if (k_X8_proposal N g H T S x1 (cI S 9 (za x0)) x2) = none then (KF_X7_decides_180 N g H T rec x0 x1 x2 S) else (if (k_X8_votesFor N g H T S x1 (nI 3) (cI S 9 (za x0)) x2 (k_X8_proposal N g H T S x1 (cI S 9 (za x0)) x2)) < (cI S 3 (g + 8)) then (KF_X7_decides_180 N g H T rec x0 x1 x2 S) else (KF_X7_decides_168 N g H T rec x0 x1 x2 (k_X8_proposal N g H T S x1 (cI S 9 (za x0)) x2) ((k_X7_approves N g H T S x0 x2).1) (k_X7_approves N g H T S x0 x2).2))))
def KOB_X7_decides_116 (N g H T : Nat) (rok : Option Nat → Nat → Int32 → cS → Prop) (x0 : Option Nat) (x1 : Nat) (x2 : Int32) (S : cS) : Prop := (¬ x0 = none) ∧ (p_X8_top N g H T S x1 (cI S 9 (za x0))) ∧ (((k_X8_top N g H T S x1 (cI S 9 (za x0))) ≤ x2 → True) ∧ (¬ (k_X8_top N g H T S x1 (cI S 9 (za x0))) ≤ x2 → (p_X8_proposal N g H T S x1 (cI S 9 (za x0)) x2) ∧ (((k_X8_proposal N g H T S x1 (cI S 9 (za x0)) x2) = none → KO_X7_decides_180 N g H T rok x0 x1 x2 S) ∧ (¬ (k_X8_proposal N g H T S x1 (cI S 9 (za x0)) x2) = none → (p_X8_votesFor N g H T S x1 (nI 3) (cI S 9 (za x0)) x2 (k_X8_proposal N g H T S x1 (cI S 9 (za x0)) x2)) ∧ (((k_X8_votesFor N g H T S x1 (nI 3) (cI S 9 (za x0)) x2 (k_X8_proposal N g H T S x1 (cI S 9 (za x0)) x2)) < (cI S 3 (g + 8)) → KO_X7_decides_180 N g H T rok x0 x1 x2 S) ∧ (¬ (k_X8_votesFor N g H T S x1 (nI 3) (cI S 9 (za x0)) x2 (k_X8_proposal N g H T S x1 (cI S 9 (za x0)) x2)) < (cI S 3 (g + 8)) → (p_X7_approves N g H T S x0 x2) ∧ KO_X7_decides_168 N g H T rok x0 x1 x2 (k_X8_proposal N g H T S x1 (cI S 9 (za x0)) x2) ((k_X7_approves N g H T S x0 x2).1) (k_X7_approves N g H T S x0 x2).2))))))
set_option maxRecDepth 100000 in
set_option maxHeartbeats 4000000 in
theorem kbb_X7_decides_116 {G : zG} {o : cO} {u g H T N : Nat} {S : cS} {S0 : cS} {Q : Option Value → cS → Prop} {X : Nat × Option Nat × Option Nat × cS → Prop} (hG : zOK G) (hX0 : ∀ (x0 : Option Nat) (x3 : Option Nat) (S' : cS), St u g H T S' → Mono S0 S' → tN g H x0 → tK S' 5 x3 → X (0, x0, x3, S') → cX G o dX7_decides mX7_decides 171 [some (va_rf x0), none, none, some (va_rf x3)] [] S' Q) (hX1 : ∀ (x0 : Option Nat) (x3 : Option Nat) (S' : cS), St u g H T S' → Mono S0 S' → X (1, x0, x3, S') → cX G o dX7_decides mX7_decides 186 [none, none, none, none] [] S' Q) {rec : Option Nat → Nat → Int32 → cS → Nat × Option Nat × Option Nat × cS} {rok : Option Nat → Nat → Int32 → cS → Prop} (hrec : ∀ (x0 : Option Nat) (x1 : Nat) (x2 : Int32) (S : cS), St u g H T S → Mono S0 S → tN g H x0 → isO g H 6 x1 → rok x0 x1 x2 S → X (rec x0 x1 x2 S) → cX G o dX7_decides mX7_decides 116 [some (va_rf x0), some (va_rf (some x1)), some (.int x2), none] [] S Q) {x0 : Option Nat} {x1 : Nat} {x2 : Int32} (hS : St u g H T S) (hM : Mono S0 S) (t_x0 : tN g H x0) (t_x1 : isO g H 6 x1) (ok : KOB_X7_decides_116 N g H T rok x0 x1 x2 S) (hx : X (KB_X7_decides_116 N g H T rec x0 x1 x2 S)) : cX G o dX7_decides mX7_decides 116 [some (va_rf x0), some (va_rf (some x1)), some (.int x2), none] [] S Q := by
  unfold KOB_X7_decides_116 at ok
  unfold KB_X7_decides_116 at hx
  refine c_iload_n dX7_decides_116 rfl rfl ?_
  refine c_aload_nQ dX7_decides_117 rfl rfl ?_
  refine c_aload_nQ dX7_decides_118 rfl rfl ?_
  have nn_119 := ok.1
  refine c_getI (C := RX6) (T := TX6) (N := 19) (ci := 5) (k := 9) ⟨rfl, inT6, by decide, fX7_18⟩ (by decide) (by decide) (by decide) dX7_decides_119 (hS.kN t_x0 ok.1) ?_
  have ok := ok.2
  refine c_V1iE (ci := 6) (rr := (RX8, TX8, 14)) (y' := mX8_top) dX7_decides_122 lX7_169 kX8_top ⟨by decide, by decide⟩ rfl rfl (by decide) (hS.k t_x1) (Nat.le_of_ble_eq_true rfl) (kc_X8_top hG hS t_x1 ok.1) ?_
  have ok := ok.2
  refine c_icmp_ge (tgt := 186) dX7_decides_125 (by decide) (fun c_125 => ?_) (fun c_125 => ?_)
  · have ok := ok.1 c_125
    have hx := xif_p c_125 hx
    exact cX.cutz (hX1 _ _ S hS hM  hx) trivial
  · have ok := ok.2 c_125
    have hx := xif_n c_125 hx
    refine c_aload_nQ dX7_decides_128 rfl rfl ?_
    refine c_aload_nQ dX7_decides_129 rfl rfl ?_
    refine c_getI (C := RX6) (T := TX6) (N := 19) (ci := 5) (k := 9) ⟨rfl, inT6, by decide, fX7_18⟩ (by decide) (by decide) (by decide) dX7_decides_130 (hS.kN t_x0 nn_119) ?_
    refine c_iload_n dX7_decides_133 rfl rfl ?_
    refine c_V2qK (ci := 6) (rr := (RX8, TX8, 14)) (y' := mX8_proposal) dX7_decides_134 lX7_172 kX8_proposal ⟨by decide, by decide⟩ rfl rfl (by decide) (hS.k t_x1) (Nat.le_of_ble_eq_true rfl) (kc_X8_proposal hG hS t_x1 ok.1) (fun tv_134 => ?_)
    have ok := ok.2
    refine c_astore_3Q dX7_decides_137 (by decide) rfl ?_
    refine c_aload_nQ dX7_decides_138 rfl rfl ?_
    refine c_ifnullI (tgt := 180) dX7_decides_139 (by decide) (fun c_139 => ?_) (fun c_139 => ?_)
    · have ok := ok.1 c_139
      have hx := xif_p c_139 hx
      exact cX.cutz (kb_X7_decides_180 hG hX0 hX1 hrec hS hM t_x0 t_x1 ok hx) ⟨rfl, rfl, rfl, trivial⟩
    · have ok := ok.2 c_139
      have hx := xif_n c_139 hx
      refine c_aload_nQ dX7_decides_142 rfl rfl ?_
      refine c_iconst (v := nI 3) dX7_decides_143 (by decide) ?_
      refine c_aload_nQ dX7_decides_144 rfl rfl ?_
      refine c_getI (C := RX6) (T := TX6) (N := 19) (ci := 5) (k := 9) ⟨rfl, inT6, by decide, fX7_18⟩ (by decide) (by decide) (by decide) dX7_decides_145 (hS.kN t_x0 nn_119) ?_
      refine c_iload_n dX7_decides_148 rfl rfl ?_
      refine c_aload_nQ dX7_decides_149 rfl rfl ?_
      refine c_V4iE (ci := 6) (rr := (RX8, TX8, 14)) (y' := mX8_votesFor) dX7_decides_150 lX7_176 kX8_votesFor ⟨by decide, by decide⟩ rfl rfl (by decide) (hS.k t_x1) (Nat.le_of_ble_eq_true rfl) (kc_X8_votesFor hG hS t_x1 tv_134 ok.1) ?_
      have ok := ok.2
      refine c_aload_nQ dX7_decides_153 rfl rfl ?_
      refine c_getS (C := RX6) (T := TX6) (N := 19) (ci := 5) (k := 0) ⟨rfl, inT6, by decide, fX7_26⟩ (by decide) (by decide) (by decide) dX7_decides_154 (hS.kN t_x0 nn_119) (hS.r (c := 5) (tN.o t_x0 nn_119) rfl (by omega)) ?_
      refine c_getI (C := RX10) (T := TX10) (N := 12) (ci := 8) (k := 3) ⟨rfl, inT10, by decide, fX7_180⟩ (by decide) (by decide) (by decide) dX7_decides_157 (hS.k (o50 (tN.o t_x0 nn_119))) ?_
      refine c_icmp_lt (tgt := 180) dX7_decides_160 (by decide) (fun c_160 => ?_) (fun c_160 => ?_)
      · have ok := ok.1 c_160
        have hx := xif_p c_160 hx
        exact cX.cutz (kb_X7_decides_180 hG hX0 hX1 hrec hS hM t_x0 t_x1 ok hx) ⟨rfl, rfl, rfl, trivial⟩
      · have ok := ok.2 c_160
        have hx := xif_n c_160 hx
        refine c_aload_nQ dX7_decides_163 rfl rfl ?_
        refine c_iload_n dX7_decides_164 rfl rfl ?_
        refine c_S2iK (y' := mX7_approves) dX7_decides_165 lX7_183 kX7_approves ⟨by decide, by decide⟩ (Nat.le_of_ble_eq_true rfl) (kc_X7_approves hG hS t_x0 ok.1) (fun ⟨hS, hm_165⟩ => ?_)
        have hM := hM.trans hm_165
        have ok := ok.2
        exact cX.cutz (kb_X7_decides_168 hG hX0 hX1 hrec hS hM t_x0 t_x1 (hm_165.tK tv_134 (by decide)) ok hx) ⟨rfl, rfl, rfl, rfl, trivial⟩
def KL_X7_decides_116 (N g H T : Nat) : Nat → Option Nat → Nat → Int32 → cS → Nat × Option Nat × Option Nat × cS
  | 0, x0, x1, x2, S => (0, none, none, S)
  | n + 1, x0, x1, x2, S => KB_X7_decides_116 N g H T (KL_X7_decides_116 N g H T n) x0 x1 x2 S
def KOL_X7_decides_116 (N g H T : Nat) : Nat → Option Nat → Nat → Int32 → cS → Prop
  | 0, _, _, _, _ => False
  | n + 1, x0, x1, x2, S => KOB_X7_decides_116 N g H T (KOL_X7_decides_116 N g H T n) x0 x1 x2 S
set_option maxRecDepth 100000 in
set_option maxHeartbeats 4000000 in
theorem kl_X7_decides_116 {G : zG} {o : cO} {u g H T N : Nat} {S0 : cS} {Q : Option Value → cS → Prop} {X : Nat × Option Nat × Option Nat × cS → Prop} (hG : zOK G) (hX0 : ∀ (x0 : Option Nat) (x3 : Option Nat) (S' : cS), St u g H T S' → Mono S0 S' → tN g H x0 → tK S' 5 x3 → X (0, x0, x3, S') → cX G o dX7_decides mX7_decides 171 [some (va_rf x0), none, none, some (va_rf x3)] [] S' Q) (hX1 : ∀ (x0 : Option Nat) (x3 : Option Nat) (S' : cS), St u g H T S' → Mono S0 S' → X (1, x0, x3, S') → cX G o dX7_decides mX7_decides 186 [none, none, none, none] [] S' Q) : ∀ (n : Nat) (x0 : Option Nat) (x1 : Nat) (x2 : Int32) (S : cS), St u g H T S → Mono S0 S → tN g H x0 → isO g H 6 x1 → KOL_X7_decides_116 N g H T n x0 x1 x2 S → X (KL_X7_decides_116 N g H T n x0 x1 x2 S) → cX G o dX7_decides mX7_decides 116 [some (va_rf x0), some (va_rf (some x1)), some (.int x2), none] [] S Q := by
  intro n
  induction n with
  | zero => intro x0 x1 x2 S hS hM t_x0 t_x1 ok; exact absurd ok id
  | succ n ih =>
    intro x0 x1 x2 S hS hM t_x0 t_x1 ok hx
    exact kbb_X7_decides_116 hG hX0 hX1 (rec := KL_X7_decides_116 N g H T n) (rok := KOL_X7_decides_116 N g H T n) (fun x0 x1 x2 S hS hM t_x0 t_x1 ok hx => ih x0 x1 x2 S hS hM t_x0 t_x1 ok hx) hS hM t_x0 t_x1 ok hx
def KA_X7_decides_116 (N g H T : Nat) (x0 : Option Nat) (x1 : Nat) (x2 : Int32) (S : cS) (z : Nat × Option Nat × Option Nat × cS) : Int32 × cS := (if z.1 = 0 then (KF_X7_decides_171 N g H T (z.2.1) (z.2.2.1) z.2.2.2) else (KF_X7_decides_186 N g H T z.2.2.2))
def KOA_X7_decides_116 (N g H T : Nat) (x0 : Option Nat) (x1 : Nat) (x2 : Int32) (S : cS) (z : Nat × Option Nat × Option Nat × cS) : Prop := (if z.1 = 0 then KO_X7_decides_171 N g H T (z.2.1) (z.2.2.1) z.2.2.2 else KO_X7_decides_186 N g H T z.2.2.2)
set_option maxRecDepth 100000 in
set_option maxHeartbeats 4000000 in
theorem kd_X7_decides_116 {G : zG} {o : cO} {u g H T N : Nat} {S : cS} {S0 : cS} {Q : Option Value → cS → Prop} {X : Int32 × cS → Prop} (hG : zOK G) (hR : ∀ v S', St u g H T S' → Mono S0 S' → X (v, S') → Q (some (.int v)) S') {x0 : Option Nat} {x1 : Nat} {x2 : Int32} (hS : St u g H T S) (hM : Mono S0 S) (t_x0 : tN g H x0) (t_x1 : isO g H 6 x1) (ok : KOL_X7_decides_116 N g H T N x0 x1 x2 S ∧ KOA_X7_decides_116 N g H T x0 x1 x2 S (KL_X7_decides_116 N g H T N x0 x1 x2 S)) (hx : X (KA_X7_decides_116 N g H T x0 x1 x2 S (KL_X7_decides_116 N g H T N x0 x1 x2 S))) : cX G o dX7_decides mX7_decides 116 [some (va_rf x0), some (va_rf (some x1)), some (.int x2), none] [] S Q := by
  refine kl_X7_decides_116 hG ?_ ?_ N x0 x1 x2 S hS hM t_x0 t_x1 ok.1 (X := fun z => KOA_X7_decides_116 N g H T x0 x1 x2 S z ∧ X (KA_X7_decides_116 N g H T x0 x1 x2 S z)) ⟨ok.2, hx⟩
  · intro x0' x3' S' hS hM t_x0 t_x3 hz
    obtain ⟨ok, hx⟩ := hz
    unfold KOA_X7_decides_116 at ok
    unfold KA_X7_decides_116 at hx
    have ok := xif_P (show (0 : Nat) = 0 from rfl) ok
    have hx := xif_p (show (0 : Nat) = 0 from rfl) hx
    exact cX.cutz (kb_X7_decides_171 hG hR hS hM t_x0 t_x3 ok hx) ⟨rfl, rfl, trivial⟩
  · intro x0' x3' S' hS hM hz
    obtain ⟨ok, hx⟩ := hz
    unfold KOA_X7_decides_116 at ok
    unfold KA_X7_decides_116 at hx
    have ok := xif_N (show ¬ (1 : Nat) = 0 by decide) ok
    have hx := xif_n (show ¬ (1 : Nat) = 0 by decide) hx
    exact cX.cutz (kb_X7_decides_186 hG hR hS hM  ok hx) trivial
def KF_X7_decides_114 (N g H T : Nat) (x0 : Option Nat) (x1 : Nat) (S : cS) : Int32 × cS := (KA_X7_decides_116 N g H T x0 x1 (nI 0) S (KL_X7_decides_116 N g H T N x0 x1 (nI 0) S))
def KO_X7_decides_114 (N g H T : Nat) (x0 : Option Nat) (x1 : Nat) (S : cS) : Prop := (KOL_X7_decides_116 N g H T N x0 x1 (nI 0) S ∧ KOA_X7_decides_116 N g H T x0 x1 (nI 0) S (KL_X7_decides_116 N g H T N x0 x1 (nI 0) S))
set_option maxRecDepth 100000 in
set_option maxHeartbeats 4000000 in
theorem kb_X7_decides_114 {G : zG} {o : cO} {u g H T N : Nat} {S : cS} {S0 : cS} {Q : Option Value → cS → Prop} {X : Int32 × cS → Prop} (hG : zOK G) (hR : ∀ v S', St u g H T S' → Mono S0 S' → X (v, S') → Q (some (.int v)) S') {x0 : Option Nat} {x1 : Nat} (hS : St u g H T S) (hM : Mono S0 S) (t_x0 : tN g H x0) (t_x1 : isO g H 6 x1) (ok : KO_X7_decides_114 N g H T x0 x1 S) (hx : X (KF_X7_decides_114 N g H T x0 x1 S)) : cX G o dX7_decides mX7_decides 114 [some (va_rf x0), some (va_rf (some x1)), none, none] [] S Q := by
  unfold KO_X7_decides_114 at ok
  unfold KF_X7_decides_114 at hx
  refine c_iconst (v := nI 0) dX7_decides_114 (by decide) ?_
  refine c_istore_2 dX7_decides_115 (by decide) (by simp [zok, zg, zcat_rf]) ?_
  exact cX.cutz (kd_X7_decides_116 hG hR hS hM t_x0 t_x1 ok hx) ⟨rfl, rfl, rfl, trivial⟩
def KF_X7_decides_108 (N g H T : Nat) (rec : Option Nat → Nat → Int32 → cS → Nat × Option Nat × Nat × Option Nat × cS) (x0 : Option Nat) (x1 : Nat) (x2 : Int32) (S : cS) : Nat × Option Nat × Nat × Option Nat × cS := (rec x0 x1 (x2 + nI 1) S)
def KO_X7_decides_108 (N g H T : Nat) (rok : Option Nat → Nat → Int32 → cS → Prop) (x0 : Option Nat) (x1 : Nat) (x2 : Int32) (S : cS) : Prop := rok x0 x1 (x2 + nI 1) S
set_option maxRecDepth 100000 in
set_option maxHeartbeats 4000000 in
theorem kb_X7_decides_108 {G : zG} {o : cO} {u g H T N : Nat} {S : cS} {S0 : cS} {Q : Option Value → cS → Prop} {X : Nat × Option Nat × Nat × Option Nat × cS → Prop} (hG : zOK G) (hX0 : ∀ (x0 : Option Nat) (x1 : Nat) (x3 : Option Nat) (S' : cS), St u g H T S' → Mono S0 S' → tN g H x0 → tK S' 5 x3 → X (0, x0, x1, x3, S') → cX G o dX7_decides mX7_decides 100 [some (va_rf x0), none, none, some (va_rf x3)] [] S' Q) (hX1 : ∀ (x0 : Option Nat) (x1 : Nat) (x3 : Option Nat) (S' : cS), St u g H T S' → Mono S0 S' → tN g H x0 → isO g H 6 x1 → X (1, x0, x1, x3, S') → cX G o dX7_decides mX7_decides 114 [some (va_rf x0), some (va_rf (some x1)), none, none] [] S' Q) {rec : Option Nat → Nat → Int32 → cS → Nat × Option Nat × Nat × Option Nat × cS} {rok : Option Nat → Nat → Int32 → cS → Prop} (hrec : ∀ (x0 : Option Nat) (x1 : Nat) (x2 : Int32) (S : cS), St u g H T S → Mono S0 S → tN g H x0 → isO g H 6 x1 → rok x0 x1 x2 S → X (rec x0 x1 x2 S) → cX G o dX7_decides mX7_decides 7 [some (va_rf x0), some (va_rf (some x1)), some (.int x2), none] [] S Q) {x0 : Option Nat} {x1 : Nat} {x2 : Int32} (hS : St u g H T S) (hM : Mono S0 S) (t_x0 : tN g H x0) (t_x1 : isO g H 6 x1) (ok : KO_X7_decides_108 N g H T rok x0 x1 x2 S) (hx : X (KF_X7_decides_108 N g H T rec x0 x1 x2 S)) : cX G o dX7_decides mX7_decides 108 [some (va_rf x0), some (va_rf (some x1)), some (.int x2), none] [] S Q := by
  unfold KO_X7_decides_108 at ok
  unfold KF_X7_decides_108 at hx
  refine c_iinc_2 (v := (x2 + nI 1)) dX7_decides_108 rfl (by first | rfl | (congr 1)) (by decide) (by simp [zok, zg, zcat_rf]) ?_
  refine c_goto (tgt := 7) dX7_decides_111 (by decide) ?_
  exact cX.cutz (hrec _ _ _ S hS hM t_x0 t_x1 ok hx) ⟨rfl, rfl, rfl, trivial⟩
def KF_X7_decides_106 (N g H T : Nat)  (S : cS) : Int32 × cS := ((nI 1), S)
def KO_X7_decides_106 (N g H T : Nat)  (S : cS) : Prop := True
set_option maxRecDepth 100000 in
set_option maxHeartbeats 4000000 in
theorem kb_X7_decides_106 {G : zG} {o : cO} {u g H T N : Nat} {S : cS} {S0 : cS} {Q : Option Value → cS → Prop} {X : Int32 × cS → Prop} (hG : zOK G) (hR : ∀ v S', St u g H T S' → Mono S0 S' → X (v, S') → Q (some (.int v)) S') (hS : St u g H T S) (hM : Mono S0 S) (ok : KO_X7_decides_106 N g H T S) (hx : X (KF_X7_decides_106 N g H T S)) : cX G o dX7_decides mX7_decides 106 [none, none, none, none] [] S Q := by
  unfold KO_X7_decides_106 at ok
  unfold KF_X7_decides_106 at hx
  refine c_iconst (v := nI 1) dX7_decides_106 (by decide) ?_
  exact c_ireturn rfl rfl dX7_decides_107 (hR _ _ hS hM hx)
def KF_X7_decides_100 (N g H T : Nat) (x0 : Option Nat) (x3 : Option Nat) (S : cS) : Int32 × cS := (KF_X7_decides_106 N g H T (k_X7_adopt N g H T S x0 x3 (nI 1)))
def KO_X7_decides_100 (N g H T : Nat) (x0 : Option Nat) (x3 : Option Nat) (S : cS) : Prop := (p_X7_adopt N g H T S x0 x3 (nI 1)) ∧ KO_X7_decides_106 N g H T (k_X7_adopt N g H T S x0 x3 (nI 1))
set_option maxRecDepth 100000 in
set_option maxHeartbeats 4000000 in
theorem kb_X7_decides_100 {G : zG} {o : cO} {u g H T N : Nat} {S : cS} {S0 : cS} {Q : Option Value → cS → Prop} {X : Int32 × cS → Prop} (hG : zOK G) (hR : ∀ v S', St u g H T S' → Mono S0 S' → X (v, S') → Q (some (.int v)) S') {x0 : Option Nat} {x3 : Option Nat} (hS : St u g H T S) (hM : Mono S0 S) (t_x0 : tN g H x0) (t_x3 : tK S 5 x3) (ok : KO_X7_decides_100 N g H T x0 x3 S) (hx : X (KF_X7_decides_100 N g H T x0 x3 S)) : cX G o dX7_decides mX7_decides 100 [some (va_rf x0), none, none, some (va_rf x3)] [] S Q := by
  unfold KO_X7_decides_100 at ok
  unfold KF_X7_decides_100 at hx
  refine c_aload_nQ dX7_decides_100 rfl rfl ?_
  refine c_aload_nQ dX7_decides_101 rfl rfl ?_
  refine c_iconst (v := nI 1) dX7_decides_102 (by decide) ?_
  refine c_S3vK (y' := mX7_adopt) dX7_decides_103 lX7_165 kX7_adopt ⟨by decide, by decide⟩ (Nat.le_of_ble_eq_true rfl) (kc_X7_adopt hG hS t_x0 t_x3 ok.1) (fun ⟨hS, hm_103⟩ => ?_)
  have hM := hM.trans hm_103
  have ok := ok.2
  exact cX.cutz (kb_X7_decides_106 hG hR hS hM  ok hx) trivial
def KF_X7_decides_90 (N g H T : Nat) (rec : Option Nat → Nat → Int32 → cS → Nat × Option Nat × Nat × Option Nat × cS) (x0 : Option Nat) (x1 : Nat) (x2 : Int32) (x3 : Option Nat) (S : cS) : Nat × Option Nat × Nat × Option Nat × cS := (if (cA S (x1 + 7) x2.toNatClampNeg) = (nI 1) then (0, x0, 0, x3, S) else (KF_X7_decides_108 N g H T rec x0 x1 x2 S))
def KO_X7_decides_90 (N g H T : Nat) (rok : Option Nat → Nat → Int32 → cS → Prop) (x0 : Option Nat) (x1 : Nat) (x2 : Int32) (x3 : Option Nat) (S : cS) : Prop := (vp_in x2 T) ∧ (((cA S (x1 + 7) x2.toNatClampNeg) = (nI 1) → True) ∧ (¬ (cA S (x1 + 7) x2.toNatClampNeg) = (nI 1) → KO_X7_decides_108 N g H T rok x0 x1 x2 S))
set_option maxRecDepth 100000 in
set_option maxHeartbeats 4000000 in
theorem kb_X7_decides_90 {G : zG} {o : cO} {u g H T N : Nat} {S : cS} {S0 : cS} {Q : Option Value → cS → Prop} {X : Nat × Option Nat × Nat × Option Nat × cS → Prop} (hG : zOK G) (hX0 : ∀ (x0 : Option Nat) (x1 : Nat) (x3 : Option Nat) (S' : cS), St u g H T S' → Mono S0 S' → tN g H x0 → tK S' 5 x3 → X (0, x0, x1, x3, S') → cX G o dX7_decides mX7_decides 100 [some (va_rf x0), none, none, some (va_rf x3)] [] S' Q) (hX1 : ∀ (x0 : Option Nat) (x1 : Nat) (x3 : Option Nat) (S' : cS), St u g H T S' → Mono S0 S' → tN g H x0 → isO g H 6 x1 → X (1, x0, x1, x3, S') → cX G o dX7_decides mX7_decides 114 [some (va_rf x0), some (va_rf (some x1)), none, none] [] S' Q) {rec : Option Nat → Nat → Int32 → cS → Nat × Option Nat × Nat × Option Nat × cS} {rok : Option Nat → Nat → Int32 → cS → Prop} (hrec : ∀ (x0 : Option Nat) (x1 : Nat) (x2 : Int32) (S : cS), St u g H T S → Mono S0 S → tN g H x0 → isO g H 6 x1 → rok x0 x1 x2 S → X (rec x0 x1 x2 S) → cX G o dX7_decides mX7_decides 7 [some (va_rf x0), some (va_rf (some x1)), some (.int x2), none] [] S Q) {x0 : Option Nat} {x1 : Nat} {x2 : Int32} {x3 : Option Nat} (hS : St u g H T S) (hM : Mono S0 S) (t_x0 : tN g H x0) (t_x1 : isO g H 6 x1) (t_x3 : tK S 5 x3) (ok : KO_X7_decides_90 N g H T rok x0 x1 x2 x3 S) (hx : X (KF_X7_decides_90 N g H T rec x0 x1 x2 x3 S)) : cX G o dX7_decides mX7_decides 90 [some (va_rf x0), some (va_rf (some x1)), some (.int x2), some (va_rf x3)] [] S Q := by
  unfold KO_X7_decides_90 at ok
  unfold KF_X7_decides_90 at hx
  refine c_aload_nQ dX7_decides_90 rfl rfl ?_
  refine c_getS (C := RX8) (T := TX8) (N := 14) (ci := 6) (k := 7) ⟨rfl, inT8, by decide, fX7_157⟩ (by decide) (by decide) (by decide) dX7_decides_91 (hS.k t_x1) (hS.r (c := 6) t_x1 rfl (by omega)) ?_
  refine c_iload_n dX7_decides_94 rfl rfl ?_
  refine c_iald dX7_decides_95 ⟨(tK.cis (hS.rk (c := 6) (k := 7) t_x1 rfl (by omega)) (Option.some_ne_none _)), (vk_cast (hS.rl (c := 6) (k := 7) t_x1 rfl (by decide) (by omega)) ok.1)⟩ ?_
  have ok := ok.2
  refine c_iconst (v := nI 1) dX7_decides_96 (by decide) ?_
  refine c_icmp_ne (tgt := 108) dX7_decides_97 (by decide) (fun c_97 => ?_) (fun c_97 => ?_)
  · have ok := ok.2 c_97
    have hx := xif_n c_97 hx
    exact cX.cutz (kb_X7_decides_108 hG hX0 hX1 hrec hS hM t_x0 t_x1 ok hx) ⟨rfl, rfl, rfl, trivial⟩
  · have ok := ok.1 c_97
    have hx := xif_p c_97 hx
    exact cX.cutz (hX0 _ _ _ S hS hM t_x0 t_x3 hx) ⟨rfl, rfl, trivial⟩
def KF_X7_decides_89 (N g H T : Nat) (rec : Option Nat → Nat → Int32 → cS → Nat × Option Nat × Nat × Option Nat × cS) (x0 : Option Nat) (x1 : Nat) (x2 : Int32) (x3 : Option Nat) (s0 : Option Nat) (s1 : Int32) (s2 : Int32) (S : cS) : Nat × Option Nat × Nat × Option Nat × cS := (KF_X7_decides_90 N g H T rec x0 x1 x2 x3 (csA S (za s0) s1.toNatClampNeg s2))
def KO_X7_decides_89 (N g H T : Nat) (rok : Option Nat → Nat → Int32 → cS → Prop) (x0 : Option Nat) (x1 : Nat) (x2 : Int32) (x3 : Option Nat) (s0 : Option Nat) (s1 : Int32) (s2 : Int32) (S : cS) : Prop := (¬ s0 = none ∧ vp_in s1 (cL S (za s0))) ∧ KO_X7_decides_90 N g H T rok x0 x1 x2 x3 (csA S (za s0) s1.toNatClampNeg s2)
set_option maxRecDepth 100000 in
set_option maxHeartbeats 4000000 in
theorem kb_X7_decides_89 {G : zG} {o : cO} {u g H T N : Nat} {S : cS} {S0 : cS} {Q : Option Value → cS → Prop} {X : Nat × Option Nat × Nat × Option Nat × cS → Prop} (hG : zOK G) (hX0 : ∀ (x0 : Option Nat) (x1 : Nat) (x3 : Option Nat) (S' : cS), St u g H T S' → Mono S0 S' → tN g H x0 → tK S' 5 x3 → X (0, x0, x1, x3, S') → cX G o dX7_decides mX7_decides 100 [some (va_rf x0), none, none, some (va_rf x3)] [] S' Q) (hX1 : ∀ (x0 : Option Nat) (x1 : Nat) (x3 : Option Nat) (S' : cS), St u g H T S' → Mono S0 S' → tN g H x0 → isO g H 6 x1 → X (1, x0, x1, x3, S') → cX G o dX7_decides mX7_decides 114 [some (va_rf x0), some (va_rf (some x1)), none, none] [] S' Q) {rec : Option Nat → Nat → Int32 → cS → Nat × Option Nat × Nat × Option Nat × cS} {rok : Option Nat → Nat → Int32 → cS → Prop} (hrec : ∀ (x0 : Option Nat) (x1 : Nat) (x2 : Int32) (S : cS), St u g H T S → Mono S0 S → tN g H x0 → isO g H 6 x1 → rok x0 x1 x2 S → X (rec x0 x1 x2 S) → cX G o dX7_decides mX7_decides 7 [some (va_rf x0), some (va_rf (some x1)), some (.int x2), none] [] S Q) {x0 : Option Nat} {x1 : Nat} {x2 : Int32} {x3 : Option Nat} {s0 : Option Nat} {s1 : Int32} {s2 : Int32} (hS : St u g H T S) (hM : Mono S0 S) (t_x0 : tN g H x0) (t_x1 : isO g H 6 x1) (t_x3 : tK S 5 x3) (t_s0 : tK S 21 s0) (ok : KO_X7_decides_89 N g H T rok x0 x1 x2 x3 s0 s1 s2 S) (hx : X (KF_X7_decides_89 N g H T rec x0 x1 x2 x3 s0 s1 s2 S)) : cX G o dX7_decides mX7_decides 89 [some (va_rf x0), some (va_rf (some x1)), some (.int x2), some (va_rf x3)] [.int s2, .int s1, va_rf s0] S Q := by
  unfold KO_X7_decides_89 at ok
  unfold KF_X7_decides_89 at hx
  have tq_89 : tK S 21 (some (za s0)) := tK_some (tK.cis t_s0 ok.1.1).2
  refine c_iast hG dX7_decides_89 ⟨(tK.cis t_s0 ok.1.1), ok.1.2⟩ ?_
  have hS := hS.Aw (k := 21) (za s0) s1.toNatClampNeg s2 tq_89 (by decide)
  have hM := hM.A (za s0) s1.toNatClampNeg s2
  have ok := ok.2
  exact cX.cutz (kb_X7_decides_90 hG hX0 hX1 hrec hS hM t_x0 t_x1 (tK_A t_x3) ok hx) ⟨rfl, rfl, rfl, rfl, trivial⟩
def KF_X7_decides_81 (N g H T : Nat) (rec : Option Nat → Nat → Int32 → cS → Nat × Option Nat × Nat × Option Nat × cS) (x0 : Option Nat) (x1 : Nat) (x2 : Int32) (x3 : Option Nat) (s0 : Option Nat) (s1 : Int32) (s2 : Int32) (S : cS) : Nat × Option Nat × Nat × Option Nat × cS := (if s2 = 0 then (KF_X7_decides_89 N g H T rec x0 x1 x2 x3 s0 s1 (nI 2) S) else (KF_X7_decides_89 N g H T rec x0 x1 x2 x3 s0 s1 (nI 1) S))
def KO_X7_decides_81 (N g H T : Nat) (rok : Option Nat → Nat → Int32 → cS → Prop) (x0 : Option Nat) (x1 : Nat) (x2 : Int32) (x3 : Option Nat) (s0 : Option Nat) (s1 : Int32) (s2 : Int32) (S : cS) : Prop := ((s2 = 0 → KO_X7_decides_89 N g H T rok x0 x1 x2 x3 s0 s1 (nI 2) S) ∧ (¬ s2 = 0 → KO_X7_decides_89 N g H T rok x0 x1 x2 x3 s0 s1 (nI 1) S))
set_option maxRecDepth 100000 in
set_option maxHeartbeats 4000000 in
theorem kb_X7_decides_81 {G : zG} {o : cO} {u g H T N : Nat} {S : cS} {S0 : cS} {Q : Option Value → cS → Prop} {X : Nat × Option Nat × Nat × Option Nat × cS → Prop} (hG : zOK G) (hX0 : ∀ (x0 : Option Nat) (x1 : Nat) (x3 : Option Nat) (S' : cS), St u g H T S' → Mono S0 S' → tN g H x0 → tK S' 5 x3 → X (0, x0, x1, x3, S') → cX G o dX7_decides mX7_decides 100 [some (va_rf x0), none, none, some (va_rf x3)] [] S' Q) (hX1 : ∀ (x0 : Option Nat) (x1 : Nat) (x3 : Option Nat) (S' : cS), St u g H T S' → Mono S0 S' → tN g H x0 → isO g H 6 x1 → X (1, x0, x1, x3, S') → cX G o dX7_decides mX7_decides 114 [some (va_rf x0), some (va_rf (some x1)), none, none] [] S' Q) {rec : Option Nat → Nat → Int32 → cS → Nat × Option Nat × Nat × Option Nat × cS} {rok : Option Nat → Nat → Int32 → cS → Prop} (hrec : ∀ (x0 : Option Nat) (x1 : Nat) (x2 : Int32) (S : cS), St u g H T S → Mono S0 S → tN g H x0 → isO g H 6 x1 → rok x0 x1 x2 S → X (rec x0 x1 x2 S) → cX G o dX7_decides mX7_decides 7 [some (va_rf x0), some (va_rf (some x1)), some (.int x2), none] [] S Q) {x0 : Option Nat} {x1 : Nat} {x2 : Int32} {x3 : Option Nat} {s0 : Option Nat} {s1 : Int32} {s2 : Int32} (hS : St u g H T S) (hM : Mono S0 S) (t_x0 : tN g H x0) (t_x1 : isO g H 6 x1) (t_x3 : tK S 5 x3) (t_s0 : tK S 21 s0) (ok : KO_X7_decides_81 N g H T rok x0 x1 x2 x3 s0 s1 s2 S) (hx : X (KF_X7_decides_81 N g H T rec x0 x1 x2 x3 s0 s1 s2 S)) : cX G o dX7_decides mX7_decides 81 [some (va_rf x0), some (va_rf (some x1)), some (.int x2), some (va_rf x3)] [.int s2, .int s1, va_rf s0] S Q := by
  unfold KO_X7_decides_81 at ok
  unfold KF_X7_decides_81 at hx
  refine c_if_eq (tgt := 88) dX7_decides_81 (by decide) (fun c_81 => ?_) (fun c_81 => ?_)
  · have ok := ok.1 c_81
    have hx := xif_p c_81 hx
    refine c_iconst (v := nI 2) dX7_decides_88 (by decide) ?_
    exact cX.cutz (kb_X7_decides_89 hG hX0 hX1 hrec hS hM t_x0 t_x1 t_x3 t_s0 ok hx) ⟨rfl, rfl, rfl, rfl, trivial⟩
  · have ok := ok.2 c_81
    have hx := xif_n c_81 hx
    refine c_iconst (v := nI 1) dX7_decides_84 (by decide) ?_
    refine c_goto (tgt := 89) dX7_decides_85 (by decide) ?_
    exact cX.cutz (kb_X7_decides_89 hG hX0 hX1 hrec hS hM t_x0 t_x1 t_x3 t_s0 ok hx) ⟨rfl, rfl, rfl, rfl, trivial⟩
def KB_X7_decides_7 (N g H T : Nat) (rec : Option Nat → Nat → Int32 → cS → Nat × Option Nat × Nat × Option Nat × cS) (x0 : Option Nat) (x1 : Nat) (x2 : Int32) (S : cS) : Nat × Option Nat × Nat × Option Nat × cS := (if (cI S 1 (g + 8)) ≤ x2 then (1, x0, x1, none, S) else (if (cI S 11 x1) ≤ (cI S 0 (g + 8)) then (1, x0, x1, none, S) else (if (cP S (x1 + 6) x2.toNatClampNeg) = none then (KF_X7_decides_108 N g H T rec x0 x1 x2 S) else (if (cI S 0 (g + 8)) < (k_X8_decisionsFor N g H T S x1 (cP S (x1 + 6) x2.toNatClampNeg)) then (if (cA S (x1 + 7) x2.toNatClampNeg) = 0 then (KF_X7_decides_81 N g H T rec x0 x1 x2 (cP S (x1 + 6) x2.toNatClampNeg) (some (x1 + 7)) x2 ((k_X7_isValid N g H T S x0 (cP S (x1 + 6) x2.toNatClampNeg) (nI 1)).1) (k_X7_isValid N g H T S x0 (cP S (x1 + 6) x2.toNatClampNeg) (nI 1)).2) else (KF_X7_decides_90 N g H T rec x0 x1 x2 (cP S (x1 + 6) x2.toNatClampNeg) S)) else (KF_X7_decides_108 N g H T rec x0 x1 x2 S)))))
def KOB_X7_decides_7 (N g H T : Nat) (rok : Option Nat → Nat → Int32 → cS → Prop) (x0 : Option Nat) (x1 : Nat) (x2 : Int32) (S : cS) : Prop := (¬ x0 = none) ∧ (((cI S 1 (g + 8)) ≤ x2 → True) ∧ (¬ (cI S 1 (g + 8)) ≤ x2 → (((cI S 11 x1) ≤ (cI S 0 (g + 8)) → True) ∧ (¬ (cI S 11 x1) ≤ (cI S 0 (g + 8)) → (vp_in x2 T) ∧ (((cP S (x1 + 6) x2.toNatClampNeg) = none → KO_X7_decides_108 N g H T rok x0 x1 x2 S) ∧ (¬ (cP S (x1 + 6) x2.toNatClampNeg) = none → (p_X8_decisionsFor N g H T S x1 (cP S (x1 + 6) x2.toNatClampNeg)) ∧ (((cI S 0 (g + 8)) < (k_X8_decisionsFor N g H T S x1 (cP S (x1 + 6) x2.toNatClampNeg)) → (vp_in x2 T) ∧ (((cA S (x1 + 7) x2.toNatClampNeg) = 0 → (p_X7_isValid N g H T S x0 (cP S (x1 + 6) x2.toNatClampNeg) (nI 1)) ∧ KO_X7_decides_81 N g H T rok x0 x1 x2 (cP S (x1 + 6) x2.toNatClampNeg) (some (x1 + 7)) x2 ((k_X7_isValid N g H T S x0 (cP S (x1 + 6) x2.toNatClampNeg) (nI 1)).1) (k_X7_isValid N g H T S x0 (cP S (x1 + 6) x2.toNatClampNeg) (nI 1)).2) ∧ (¬ (cA S (x1 + 7) x2.toNatClampNeg) = 0 → KO_X7_decides_90 N g H T rok x0 x1 x2 (cP S (x1 + 6) x2.toNatClampNeg) S))) ∧ (¬ (cI S 0 (g + 8)) < (k_X8_decisionsFor N g H T S x1 (cP S (x1 + 6) x2.toNatClampNeg)) → KO_X7_decides_108 N g H T rok x0 x1 x2 S))))))))
set_option maxRecDepth 100000 in
set_option maxHeartbeats 4000000 in
theorem kbb_X7_decides_7 {G : zG} {o : cO} {u g H T N : Nat} {S : cS} {S0 : cS} {Q : Option Value → cS → Prop} {X : Nat × Option Nat × Nat × Option Nat × cS → Prop} (hG : zOK G) (hX0 : ∀ (x0 : Option Nat) (x1 : Nat) (x3 : Option Nat) (S' : cS), St u g H T S' → Mono S0 S' → tN g H x0 → tK S' 5 x3 → X (0, x0, x1, x3, S') → cX G o dX7_decides mX7_decides 100 [some (va_rf x0), none, none, some (va_rf x3)] [] S' Q) (hX1 : ∀ (x0 : Option Nat) (x1 : Nat) (x3 : Option Nat) (S' : cS), St u g H T S' → Mono S0 S' → tN g H x0 → isO g H 6 x1 → X (1, x0, x1, x3, S') → cX G o dX7_decides mX7_decides 114 [some (va_rf x0), some (va_rf (some x1)), none, none] [] S' Q) {rec : Option Nat → Nat → Int32 → cS → Nat × Option Nat × Nat × Option Nat × cS} {rok : Option Nat → Nat → Int32 → cS → Prop} (hrec : ∀ (x0 : Option Nat) (x1 : Nat) (x2 : Int32) (S : cS), St u g H T S → Mono S0 S → tN g H x0 → isO g H 6 x1 → rok x0 x1 x2 S → X (rec x0 x1 x2 S) → cX G o dX7_decides mX7_decides 7 [some (va_rf x0), some (va_rf (some x1)), some (.int x2), none] [] S Q) {x0 : Option Nat} {x1 : Nat} {x2 : Int32} (hS : St u g H T S) (hM : Mono S0 S) (t_x0 : tN g H x0) (t_x1 : isO g H 6 x1) (ok : KOB_X7_decides_7 N g H T rok x0 x1 x2 S) (hx : X (KB_X7_decides_7 N g H T rec x0 x1 x2 S)) : cX G o dX7_decides mX7_decides 7 [some (va_rf x0), some (va_rf (some x1)), some (.int x2), none] [] S Q := by
  unfold KOB_X7_decides_7 at ok
  unfold KB_X7_decides_7 at hx
  refine c_iload_n dX7_decides_7 rfl rfl ?_
  refine c_aload_nQ dX7_decides_8 rfl rfl ?_
  have nn_9 := ok.1
  refine c_getS (C := RX6) (T := TX6) (N := 19) (ci := 5) (k := 0) ⟨rfl, inT6, by decide, fX7_26⟩ (by decide) (by decide) (by decide) dX7_decides_9 (hS.kN t_x0 ok.1) (hS.r (c := 5) (tN.o t_x0 ok.1) rfl (by omega)) ?_
  have ok := ok.2
  refine c_getI (C := RX10) (T := TX10) (N := 12) (ci := 8) (k := 1) ⟨rfl, inT10, by decide, fX7_84⟩ (by decide) (by decide) (by decide) dX7_decides_12 (hS.k (o50 (tN.o t_x0 nn_9))) ?_
  refine c_icmp_ge (tgt := 114) dX7_decides_15 (by decide) (fun c_15 => ?_) (fun c_15 => ?_)
  · have ok := ok.1 c_15
    have hx := xif_p c_15 hx
    exact cX.cutz (hX1 _ _ _ S hS hM t_x0 t_x1 hx) ⟨rfl, rfl, trivial⟩
  · have ok := ok.2 c_15
    have hx := xif_n c_15 hx
    refine c_aload_nQ dX7_decides_18 rfl rfl ?_
    refine c_getI (C := RX8) (T := TX8) (N := 14) (ci := 6) (k := 11) ⟨rfl, inT8, by decide, fX7_148⟩ (by decide) (by decide) (by decide) dX7_decides_19 (hS.k t_x1) ?_
    refine c_aload_nQ dX7_decides_22 rfl rfl ?_
    refine c_getS (C := RX6) (T := TX6) (N := 19) (ci := 5) (k := 0) ⟨rfl, inT6, by decide, fX7_26⟩ (by decide) (by decide) (by decide) dX7_decides_23 (hS.kN t_x0 nn_9) (hS.r (c := 5) (tN.o t_x0 nn_9) rfl (by omega)) ?_
    refine c_getI (C := RX10) (T := TX10) (N := 12) (ci := 8) (k := 0) ⟨rfl, inT10, by decide, fX7_103⟩ (by decide) (by decide) (by decide) dX7_decides_26 (hS.k (o50 (tN.o t_x0 nn_9))) ?_
    refine c_icmp_le (tgt := 114) dX7_decides_29 (by decide) (fun c_29 => ?_) (fun c_29 => ?_)
    · have ok := ok.1 c_29
      have hx := xif_p c_29 hx
      exact cX.cutz (hX1 _ _ _ S hS hM t_x0 t_x1 hx) ⟨rfl, rfl, trivial⟩
    · have ok := ok.2 c_29
      have hx := xif_n c_29 hx
      refine c_aload_nQ dX7_decides_32 rfl rfl ?_
      refine c_getS (C := RX8) (T := TX8) (N := 14) (ci := 6) (k := 6) ⟨rfl, inT8, by decide, fX7_151⟩ (by decide) (by decide) (by decide) dX7_decides_33 (hS.k t_x1) (hS.r (c := 6) t_x1 rfl (by omega)) ?_
      refine c_iload_n dX7_decides_36 rfl rfl ?_
      have p_37 := hS.row24 (hS.rk (c := 6) (k := 6) t_x1 rfl (by omega)) x2.toNatClampNeg
      refine c_aald (t := 4) (ty := (.object "QuorumLedger$Message")) rfl rfl (by decide) dX7_decides_37 ⟨(tK.cis (hS.rk (c := 6) (k := 6) t_x1 rfl (by omega)) (Option.some_ne_none _)), (vk_cast (hS.rl (c := 6) (k := 6) t_x1 rfl (by decide) (by omega)) ok.1)⟩ ?_
      have ok := ok.2
      refine c_astore_3Q dX7_decides_38 (by decide) rfl ?_
      refine c_aload_nQ dX7_decides_39 rfl rfl ?_
      refine c_ifnullI (tgt := 108) dX7_decides_40 (by decide) (fun c_40 => ?_) (fun c_40 => ?_)
      · have ok := ok.1 c_40
        have hx := xif_p c_40 hx
        exact cX.cutz (kb_X7_decides_108 hG hX0 hX1 hrec hS hM t_x0 t_x1 ok hx) ⟨rfl, rfl, rfl, trivial⟩
      · have ok := ok.2 c_40
        have hx := xif_n c_40 hx
        refine c_aload_nQ dX7_decides_43 rfl rfl ?_
        refine c_aload_nQ dX7_decides_44 rfl rfl ?_
        refine c_V1iE (ci := 6) (rr := (RX8, TX8, 14)) (y' := mX8_decisionsFor) dX7_decides_45 lX7_154 kX8_decisionsFor ⟨by decide, by decide⟩ rfl rfl (by decide) (hS.k t_x1) (Nat.le_of_ble_eq_true rfl) (kc_X8_decisionsFor hG hS t_x1 p_37 ok.1) ?_
        have ok := ok.2
        refine c_aload_nQ dX7_decides_48 rfl rfl ?_
        refine c_getS (C := RX6) (T := TX6) (N := 19) (ci := 5) (k := 0) ⟨rfl, inT6, by decide, fX7_26⟩ (by decide) (by decide) (by decide) dX7_decides_49 (hS.kN t_x0 nn_9) (hS.r (c := 5) (tN.o t_x0 nn_9) rfl (by omega)) ?_
        refine c_getI (C := RX10) (T := TX10) (N := 12) (ci := 8) (k := 0) ⟨rfl, inT10, by decide, fX7_103⟩ (by decide) (by decide) (by decide) dX7_decides_52 (hS.k (o50 (tN.o t_x0 nn_9))) ?_
        refine c_icmp_gt (tgt := 61) dX7_decides_55 (by decide) (fun c_55 => ?_) (fun c_55 => ?_)
        · have ok := ok.1 c_55
          have hx := xif_p c_55 hx
          refine c_aload_nQ dX7_decides_61 rfl rfl ?_
          refine c_getS (C := RX8) (T := TX8) (N := 14) (ci := 6) (k := 7) ⟨rfl, inT8, by decide, fX7_157⟩ (by decide) (by decide) (by decide) dX7_decides_62 (hS.k t_x1) (hS.r (c := 6) t_x1 rfl (by omega)) ?_
          refine c_iload_n dX7_decides_65 rfl rfl ?_
          refine c_iald dX7_decides_66 ⟨(tK.cis (hS.rk (c := 6) (k := 7) t_x1 rfl (by omega)) (Option.some_ne_none _)), (vk_cast (hS.rl (c := 6) (k := 7) t_x1 rfl (by decide) (by omega)) ok.1)⟩ ?_
          have ok := ok.2
          refine c_if_ne (tgt := 90) dX7_decides_67 (by decide) (fun c_67 => ?_) (fun c_67 => ?_)
          · have ok := ok.2 c_67
            have hx := xif_n c_67 hx
            exact cX.cutz (kb_X7_decides_90 hG hX0 hX1 hrec hS hM t_x0 t_x1 p_37 ok hx) ⟨rfl, rfl, rfl, rfl, trivial⟩
          · have ok := ok.1 c_67
            have hx := xif_p c_67 hx
            refine c_aload_nQ dX7_decides_70 rfl rfl ?_
            refine c_getS (C := RX8) (T := TX8) (N := 14) (ci := 6) (k := 7) ⟨rfl, inT8, by decide, fX7_157⟩ (by decide) (by decide) (by decide) dX7_decides_71 (hS.k t_x1) (hS.r (c := 6) t_x1 rfl (by omega)) ?_
            refine c_iload_n dX7_decides_74 rfl rfl ?_
            refine c_aload_nQ dX7_decides_75 rfl rfl ?_
            refine c_aload_nQ dX7_decides_76 rfl rfl ?_
            refine c_iconst (v := nI 1) dX7_decides_77 (by decide) ?_
            refine c_S3iK (y' := mX7_isValid) dX7_decides_78 lX7_161 kX7_isValid ⟨by decide, by decide⟩ (by simp only [List.map_cons, List.map_nil, List.sum_cons, List.sum_nil, zcat_rf, zcat_i, zcat_l, zcat_r] <;> decide) (kc_X7_isValid hG hS t_x0 p_37 ok.1) (fun ⟨hS, hm_78⟩ => ?_)
            have hM := hM.trans hm_78
            have ok := ok.2
            exact cX.cutz (kb_X7_decides_81 hG hX0 hX1 hrec hS hM t_x0 t_x1 (hm_78.tK p_37 (by decide)) (hS.rk (c := 6) (k := 7) t_x1 rfl (by omega)) ok hx) ⟨rfl, rfl, rfl, rfl, trivial⟩
        · have ok := ok.2 c_55
          have hx := xif_n c_55 hx
          refine c_goto (tgt := 108) dX7_decides_58 (by decide) ?_
          exact cX.cutz (kb_X7_decides_108 hG hX0 hX1 hrec hS hM t_x0 t_x1 ok hx) ⟨rfl, rfl, rfl, trivial⟩
def KL_X7_decides_7 (N g H T : Nat) : Nat → Option Nat → Nat → Int32 → cS → Nat × Option Nat × Nat × Option Nat × cS
  | 0, x0, x1, x2, S => (0, none, 0, none, S)
  | n + 1, x0, x1, x2, S => KB_X7_decides_7 N g H T (KL_X7_decides_7 N g H T n) x0 x1 x2 S
def KOL_X7_decides_7 (N g H T : Nat) : Nat → Option Nat → Nat → Int32 → cS → Prop
  | 0, _, _, _, _ => False
  | n + 1, x0, x1, x2, S => KOB_X7_decides_7 N g H T (KOL_X7_decides_7 N g H T n) x0 x1 x2 S
set_option maxRecDepth 100000 in
set_option maxHeartbeats 4000000 in
theorem kl_X7_decides_7 {G : zG} {o : cO} {u g H T N : Nat} {S0 : cS} {Q : Option Value → cS → Prop} {X : Nat × Option Nat × Nat × Option Nat × cS → Prop} (hG : zOK G) (hX0 : ∀ (x0 : Option Nat) (x1 : Nat) (x3 : Option Nat) (S' : cS), St u g H T S' → Mono S0 S' → tN g H x0 → tK S' 5 x3 → X (0, x0, x1, x3, S') → cX G o dX7_decides mX7_decides 100 [some (va_rf x0), none, none, some (va_rf x3)] [] S' Q) (hX1 : ∀ (x0 : Option Nat) (x1 : Nat) (x3 : Option Nat) (S' : cS), St u g H T S' → Mono S0 S' → tN g H x0 → isO g H 6 x1 → X (1, x0, x1, x3, S') → cX G o dX7_decides mX7_decides 114 [some (va_rf x0), some (va_rf (some x1)), none, none] [] S' Q) : ∀ (n : Nat) (x0 : Option Nat) (x1 : Nat) (x2 : Int32) (S : cS), St u g H T S → Mono S0 S → tN g H x0 → isO g H 6 x1 → KOL_X7_decides_7 N g H T n x0 x1 x2 S → X (KL_X7_decides_7 N g H T n x0 x1 x2 S) → cX G o dX7_decides mX7_decides 7 [some (va_rf x0), some (va_rf (some x1)), some (.int x2), none] [] S Q := by
  intro n
  induction n with
  | zero => intro x0 x1 x2 S hS hM t_x0 t_x1 ok; exact absurd ok id
  | succ n ih =>
    intro x0 x1 x2 S hS hM t_x0 t_x1 ok hx
    exact kbb_X7_decides_7 hG hX0 hX1 (rec := KL_X7_decides_7 N g H T n) (rok := KOL_X7_decides_7 N g H T n) (fun x0 x1 x2 S hS hM t_x0 t_x1 ok hx => ih x0 x1 x2 S hS hM t_x0 t_x1 ok hx) hS hM t_x0 t_x1 ok hx
def KA_X7_decides_7 (N g H T : Nat) (x0 : Option Nat) (x1 : Nat) (x2 : Int32) (S : cS) (z : Nat × Option Nat × Nat × Option Nat × cS) : Int32 × cS := (if z.1 = 0 then (KF_X7_decides_100 N g H T (z.2.1) (z.2.2.2.1) z.2.2.2.2) else (KF_X7_decides_114 N g H T (z.2.1) (z.2.2.1) z.2.2.2.2))
def KOA_X7_decides_7 (N g H T : Nat) (x0 : Option Nat) (x1 : Nat) (x2 : Int32) (S : cS) (z : Nat × Option Nat × Nat × Option Nat × cS) : Prop := (if z.1 = 0 then KO_X7_decides_100 N g H T (z.2.1) (z.2.2.2.1) z.2.2.2.2 else KO_X7_decides_114 N g H T (z.2.1) (z.2.2.1) z.2.2.2.2)
set_option maxRecDepth 100000 in
set_option maxHeartbeats 4000000 in
theorem kd_X7_decides_7 {G : zG} {o : cO} {u g H T N : Nat} {S : cS} {S0 : cS} {Q : Option Value → cS → Prop} {X : Int32 × cS → Prop} (hG : zOK G) (hR : ∀ v S', St u g H T S' → Mono S0 S' → X (v, S') → Q (some (.int v)) S') {x0 : Option Nat} {x1 : Nat} {x2 : Int32} (hS : St u g H T S) (hM : Mono S0 S) (t_x0 : tN g H x0) (t_x1 : isO g H 6 x1) (ok : KOL_X7_decides_7 N g H T N x0 x1 x2 S ∧ KOA_X7_decides_7 N g H T x0 x1 x2 S (KL_X7_decides_7 N g H T N x0 x1 x2 S)) (hx : X (KA_X7_decides_7 N g H T x0 x1 x2 S (KL_X7_decides_7 N g H T N x0 x1 x2 S))) : cX G o dX7_decides mX7_decides 7 [some (va_rf x0), some (va_rf (some x1)), some (.int x2), none] [] S Q := by
  refine kl_X7_decides_7 hG ?_ ?_ N x0 x1 x2 S hS hM t_x0 t_x1 ok.1 (X := fun z => KOA_X7_decides_7 N g H T x0 x1 x2 S z ∧ X (KA_X7_decides_7 N g H T x0 x1 x2 S z)) ⟨ok.2, hx⟩
  · intro x0' x1' x3' S' hS hM t_x0 t_x3 hz
    obtain ⟨ok, hx⟩ := hz
    unfold KOA_X7_decides_7 at ok
    unfold KA_X7_decides_7 at hx
    have ok := xif_P (show (0 : Nat) = 0 from rfl) ok
    have hx := xif_p (show (0 : Nat) = 0 from rfl) hx
    exact cX.cutz (kb_X7_decides_100 hG hR hS hM t_x0 t_x3 ok hx) ⟨rfl, rfl, trivial⟩
  · intro x0' x1' x3' S' hS hM t_x0 t_x1 hz
    obtain ⟨ok, hx⟩ := hz
    unfold KOA_X7_decides_7 at ok
    unfold KA_X7_decides_7 at hx
    have ok := xif_N (show ¬ (1 : Nat) = 0 by decide) ok
    have hx := xif_n (show ¬ (1 : Nat) = 0 by decide) hx
    exact cX.cutz (kb_X7_decides_114 hG hR hS hM t_x0 t_x1 ok hx) ⟨rfl, rfl, trivial⟩
def KF_X7_decides_0 (N g H T : Nat) (x0 : Option Nat) (S : cS) : Int32 × cS := (KA_X7_decides_7 N g H T x0 ((za x0) + 14) (nI 0) S (KL_X7_decides_7 N g H T N x0 ((za x0) + 14) (nI 0) S))
def KO_X7_decides_0 (N g H T : Nat) (x0 : Option Nat) (S : cS) : Prop := (¬ x0 = none) ∧ (KOL_X7_decides_7 N g H T N x0 ((za x0) + 14) (nI 0) S ∧ KOA_X7_decides_7 N g H T x0 ((za x0) + 14) (nI 0) S (KL_X7_decides_7 N g H T N x0 ((za x0) + 14) (nI 0) S))
set_option maxRecDepth 100000 in
set_option maxHeartbeats 4000000 in
theorem kb_X7_decides_0 {G : zG} {o : cO} {u g H T N : Nat} {S : cS} {S0 : cS} {Q : Option Value → cS → Prop} {X : Int32 × cS → Prop} (hG : zOK G) (hR : ∀ v S', St u g H T S' → Mono S0 S' → X (v, S') → Q (some (.int v)) S') {x0 : Option Nat} (hS : St u g H T S) (hM : Mono S0 S) (t_x0 : tN g H x0) (ok : KO_X7_decides_0 N g H T x0 S) (hx : X (KF_X7_decides_0 N g H T x0 S)) : cX G o dX7_decides mX7_decides 0 [some (va_rf x0), none, none, none] [] S Q := by
  unfold KO_X7_decides_0 at ok
  unfold KF_X7_decides_0 at hx
  refine c_aload_nQ dX7_decides_0 rfl rfl ?_
  have nn_1 := ok.1
  refine c_getS (C := RX6) (T := TX6) (N := 19) (ci := 5) (k := 3) ⟨rfl, inT6, by decide, fX7_80⟩ (by decide) (by decide) (by decide) dX7_decides_1 (hS.kN t_x0 ok.1) (hS.r (c := 5) (tN.o t_x0 ok.1) rfl (by omega)) ?_
  have ok := ok.2
  refine c_astore_1Q dX7_decides_4 (by decide) (by simp [zok, zg, zcat_rf]) ?_
  refine c_iconst (v := nI 0) dX7_decides_5 (by decide) ?_
  refine c_istore_2 dX7_decides_6 (by decide) (by simp [zok, zg, zcat_rf]) ?_
  exact cX.cutz (kd_X7_decides_7 hG hR hS hM t_x0 (o53 (tN.o t_x0 nn_1)) ok hx) ⟨rfl, rfl, rfl, trivial⟩
def k_X7_decides (N g H T : Nat) (S : cS) (x0 : Option Nat) : Int32 × cS := KF_X7_decides_0 N g H T x0 S
def p_X7_decides (N g H T : Nat) (S : cS) (x0 : Option Nat) : Prop := KO_X7_decides_0 N g H T x0 S
set_option maxRecDepth 100000 in
set_option maxHeartbeats 4000000 in
theorem kc_X7_decides {G : zG} {o : cO} {u g H T N : Nat} {S : cS} (hG : zOK G) {x0 : Option Nat} (hS : St u g H T S) (t_x0 : tN g H x0) (ok : p_X7_decides N g H T S x0) : cCi G o dX7_decides mX7_decides [va_rf x0] S (fun v S' => (v = (k_X7_decides N g H T S x0).1 ∧ S' = (k_X7_decides N g H T S x0).2) ∧ St u g H T S' ∧ Mono S S') := by
  refine cC.ofX rfl (by cases x0 <;> exact Nat.le_of_ble_eq_true rfl) ?_
  rw [show zargs mX7_decides.2.2.1 [va_rf x0] = [some (va_rf x0), none, none, none] from by cases x0 <;> rfl]
  exact cX.cutz (kb_X7_decides_0 (X := fun F => F = k_X7_decides N g H T S x0) hG (fun v S' h1 h2 h => ⟨v, rfl, ⟨by rw [← h], by rw [← h]⟩, h1, h2⟩) hS Mono.rfl' t_x0 ok rfl) ⟨rfl, trivial⟩
/-! X8_signers -/
def KF_X8_signers_110 (N g H T : Nat) (x7 : Int32) (S : cS) : Int32 := x7
def KO_X8_signers_110 (N g H T : Nat) (x7 : Int32) (S : cS) : Prop := True
set_option maxRecDepth 100000 in
set_option maxHeartbeats 4000000 in
theorem kb_X8_signers_110 {G : zG} {o : cO} {u g H T N : Nat} {S : cS} {Q : Option Value → cS → Prop} {X : Int32 → Prop} (hG : zOK G) (hR : ∀ v, X v → Q (some (.int v)) S) {x7 : Int32} (hS : St u g H T S) (ok : KO_X8_signers_110 N g H T x7 S) (hx : X (KF_X8_signers_110 N g H T x7 S)) : cX G o dX8_signers mX8_signers 110 [none, none, none, none, none, none, none, some (.int x7), none] [] S Q := by
  unfold KO_X8_signers_110 at ok
  unfold KF_X8_signers_110 at hx
  refine c_iload dX8_signers_110 rfl ?_
  exact c_ireturn rfl rfl dX8_signers_112 (hR _ hx)
def KF_X8_signers_104 (N g H T : Nat) (rec : Nat → Int32 → Int32 → Int32 → Int32 → Int32 → Nat × Int32 × Unit) (x0 : Nat) (x4 : Int32) (x5 : Int32) (x6 : Int32) (x7 : Int32) (x8 : Int32) (S : cS) : Nat × Int32 × Unit := (rec x0 x4 x5 x6 x7 (x8 + nI 1))
def KO_X8_signers_104 (N g H T : Nat) (rok : Nat → Int32 → Int32 → Int32 → Int32 → Int32 → Prop) (x0 : Nat) (x4 : Int32) (x5 : Int32) (x6 : Int32) (x7 : Int32) (x8 : Int32) (S : cS) : Prop := rok x0 x4 x5 x6 x7 (x8 + nI 1)
set_option maxRecDepth 100000 in
set_option maxHeartbeats 4000000 in
theorem kb_X8_signers_104 {G : zG} {o : cO} {u g H T N : Nat} {S : cS} {Q : Option Value → cS → Prop} {X : Nat × Int32 × Unit → Prop} (hG : zOK G) (hX0 : ∀ (x7 : Int32) , X (0, x7, ()) → cX G o dX8_signers mX8_signers 110 [none, none, none, none, none, none, none, some (.int x7), none] [] S Q) {rec : Nat → Int32 → Int32 → Int32 → Int32 → Int32 → Nat × Int32 × Unit} {rok : Nat → Int32 → Int32 → Int32 → Int32 → Int32 → Prop} (hrec : ∀ (x0 : Nat) (x4 : Int32) (x5 : Int32) (x6 : Int32) (x7 : Int32) (x8 : Int32), isO g H 6 x0 → rok x0 x4 x5 x6 x7 x8 → X (rec x0 x4 x5 x6 x7 x8) → cX G o dX8_signers mX8_signers 59 [some (va_rf (some x0)), none, none, none, some (.int x4), some (.int x5), some (.int x6), some (.int x7), some (.int x8)] [] S Q) {x0 : Nat} {x4 : Int32} {x5 : Int32} {x6 : Int32} {x7 : Int32} {x8 : Int32} (hS : St u g H T S) (t_x0 : isO g H 6 x0) (ok : KO_X8_signers_104 N g H T rok x0 x4 x5 x6 x7 x8 S) (hx : X (KF_X8_signers_104 N g H T rec x0 x4 x5 x6 x7 x8 S)) : cX G o dX8_signers mX8_signers 104 [some (va_rf (some x0)), none, none, none, some (.int x4), some (.int x5), some (.int x6), some (.int x7), some (.int x8)] [] S Q := by
  unfold KO_X8_signers_104 at ok
  unfold KF_X8_signers_104 at hx
  refine c_iinc_8 (v := (x8 + nI 1)) dX8_signers_104 rfl (by first | rfl | (congr 1)) (by decide) rfl ?_
  refine c_goto (tgt := 59) dX8_signers_107 (by decide) ?_
  exact cX.cutz (hrec _ _ _ _ _ _ t_x0 ok hx) ⟨rfl, rfl, rfl, rfl, rfl, rfl, trivial⟩
def KF_X8_signers_101 (N g H T : Nat) (rec : Nat → Int32 → Int32 → Int32 → Int32 → Int32 → Nat × Int32 × Unit) (x0 : Nat) (x4 : Int32) (x5 : Int32) (x6 : Int32) (x7 : Int32) (x8 : Int32) (S : cS) : Nat × Int32 × Unit := (KF_X8_signers_104 N g H T rec x0 x4 x5 x6 (x7 + nI 1) x8 S)
def KO_X8_signers_101 (N g H T : Nat) (rok : Nat → Int32 → Int32 → Int32 → Int32 → Int32 → Prop) (x0 : Nat) (x4 : Int32) (x5 : Int32) (x6 : Int32) (x7 : Int32) (x8 : Int32) (S : cS) : Prop := KO_X8_signers_104 N g H T rok x0 x4 x5 x6 (x7 + nI 1) x8 S
set_option maxRecDepth 100000 in
set_option maxHeartbeats 4000000 in
theorem kb_X8_signers_101 {G : zG} {o : cO} {u g H T N : Nat} {S : cS} {Q : Option Value → cS → Prop} {X : Nat × Int32 × Unit → Prop} (hG : zOK G) (hX0 : ∀ (x7 : Int32) , X (0, x7, ()) → cX G o dX8_signers mX8_signers 110 [none, none, none, none, none, none, none, some (.int x7), none] [] S Q) {rec : Nat → Int32 → Int32 → Int32 → Int32 → Int32 → Nat × Int32 × Unit} {rok : Nat → Int32 → Int32 → Int32 → Int32 → Int32 → Prop} (hrec : ∀ (x0 : Nat) (x4 : Int32) (x5 : Int32) (x6 : Int32) (x7 : Int32) (x8 : Int32), isO g H 6 x0 → rok x0 x4 x5 x6 x7 x8 → X (rec x0 x4 x5 x6 x7 x8) → cX G o dX8_signers mX8_signers 59 [some (va_rf (some x0)), none, none, none, some (.int x4), some (.int x5), some (.int x6), some (.int x7), some (.int x8)] [] S Q) {x0 : Nat} {x4 : Int32} {x5 : Int32} {x6 : Int32} {x7 : Int32} {x8 : Int32} (hS : St u g H T S) (t_x0 : isO g H 6 x0) (ok : KO_X8_signers_101 N g H T rok x0 x4 x5 x6 x7 x8 S) (hx : X (KF_X8_signers_101 N g H T rec x0 x4 x5 x6 x7 x8 S)) : cX G o dX8_signers mX8_signers 101 [some (va_rf (some x0)), none, none, none, some (.int x4), some (.int x5), some (.int x6), some (.int x7), some (.int x8)] [] S Q := by
  unfold KO_X8_signers_101 at ok
  unfold KF_X8_signers_101 at hx
  refine c_iinc_7 (v := (x7 + nI 1)) dX8_signers_101 rfl (by first | rfl | (congr 1)) (by decide) rfl ?_
  exact cX.cutz (kb_X8_signers_104 hG hX0 hrec hS t_x0 ok hx) ⟨rfl, rfl, rfl, rfl, rfl, rfl, trivial⟩
def KB_X8_signers_59 (N g H T : Nat) (rec : Nat → Int32 → Int32 → Int32 → Int32 → Int32 → Nat × Int32 × Unit) (x0 : Nat) (x4 : Int32) (x5 : Int32) (x6 : Int32) (x7 : Int32) (x8 : Int32) (S : cS) : Nat × Int32 × Unit := (if (cI S 1 x0) ≤ x8 then (0, x7, ()) else (if (cP S (x0 + 5) (x4 + x8).toNatClampNeg) = none then (if (cP S (x0 + 5) (x5 + x8).toNatClampNeg) = none then (if x8 = x6 then (KF_X8_signers_101 N g H T rec x0 x4 x5 x6 x7 x8 S) else (KF_X8_signers_104 N g H T rec x0 x4 x5 x6 x7 x8 S)) else (KF_X8_signers_101 N g H T rec x0 x4 x5 x6 x7 x8 S)) else (KF_X8_signers_101 N g H T rec x0 x4 x5 x6 x7 x8 S)))
def KOB_X8_signers_59 (N g H T : Nat) (rok : Nat → Int32 → Int32 → Int32 → Int32 → Int32 → Prop) (x0 : Nat) (x4 : Int32) (x5 : Int32) (x6 : Int32) (x7 : Int32) (x8 : Int32) (S : cS) : Prop := (((cI S 1 x0) ≤ x8 → True) ∧ (¬ (cI S 1 x0) ≤ x8 → (vp_in (x4 + x8) (64 * T)) ∧ (((cP S (x0 + 5) (x4 + x8).toNatClampNeg) = none → (vp_in (x5 + x8) (64 * T)) ∧ (((cP S (x0 + 5) (x5 + x8).toNatClampNeg) = none → ((x8 = x6 → KO_X8_signers_101 N g H T rok x0 x4 x5 x6 x7 x8 S) ∧ (¬ x8 = x6 → KO_X8_signers_104 N g H T rok x0 x4 x5 x6 x7 x8 S))) ∧ (¬ (cP S (x0 + 5) (x5 + x8).toNatClampNeg) = none → KO_X8_signers_101 N g H T rok x0 x4 x5 x6 x7 x8 S))) ∧ (¬ (cP S (x0 + 5) (x4 + x8).toNatClampNeg) = none → KO_X8_signers_101 N g H T rok x0 x4 x5 x6 x7 x8 S))))
set_option maxRecDepth 100000 in
set_option maxHeartbeats 4000000 in
theorem kbb_X8_signers_59 {G : zG} {o : cO} {u g H T N : Nat} {S : cS} {Q : Option Value → cS → Prop} {X : Nat × Int32 × Unit → Prop} (hG : zOK G) (hX0 : ∀ (x7 : Int32) , X (0, x7, ()) → cX G o dX8_signers mX8_signers 110 [none, none, none, none, none, none, none, some (.int x7), none] [] S Q) {rec : Nat → Int32 → Int32 → Int32 → Int32 → Int32 → Nat × Int32 × Unit} {rok : Nat → Int32 → Int32 → Int32 → Int32 → Int32 → Prop} (hrec : ∀ (x0 : Nat) (x4 : Int32) (x5 : Int32) (x6 : Int32) (x7 : Int32) (x8 : Int32), isO g H 6 x0 → rok x0 x4 x5 x6 x7 x8 → X (rec x0 x4 x5 x6 x7 x8) → cX G o dX8_signers mX8_signers 59 [some (va_rf (some x0)), none, none, none, some (.int x4), some (.int x5), some (.int x6), some (.int x7), some (.int x8)] [] S Q) {x0 : Nat} {x4 : Int32} {x5 : Int32} {x6 : Int32} {x7 : Int32} {x8 : Int32} (hS : St u g H T S) (t_x0 : isO g H 6 x0) (ok : KOB_X8_signers_59 N g H T rok x0 x4 x5 x6 x7 x8 S) (hx : X (KB_X8_signers_59 N g H T rec x0 x4 x5 x6 x7 x8 S)) : cX G o dX8_signers mX8_signers 59 [some (va_rf (some x0)), none, none, none, some (.int x4), some (.int x5), some (.int x6), some (.int x7), some (.int x8)] [] S Q := by
  unfold KOB_X8_signers_59 at ok
  unfold KB_X8_signers_59 at hx
  refine c_iload dX8_signers_59 rfl ?_
  refine c_aload_nQ dX8_signers_61 rfl rfl ?_
  refine c_getI (C := RX8) (T := TX8) (N := 14) (ci := 6) (k := 1) ⟨rfl, inT8, by decide, fX8_32⟩ (by decide) (by decide) (by decide) dX8_signers_62 (hS.k t_x0) ?_
  refine c_icmp_ge (tgt := 110) dX8_signers_65 (by decide) (fun c_65 => ?_) (fun c_65 => ?_)
  · have ok := ok.1 c_65
    have hx := xif_p c_65 hx
    exact cX.cutz (hX0 _   hx) ⟨rfl, trivial⟩
  · have ok := ok.2 c_65
    have hx := xif_n c_65 hx
    refine c_aload_nQ dX8_signers_68 rfl rfl ?_
    refine c_getS (C := RX8) (T := TX8) (N := 14) (ci := 6) (k := 4) ⟨rfl, inT8, by decide, fX8_36⟩ (by decide) (by decide) (by decide) dX8_signers_69 (hS.k t_x0) (hS.r (c := 6) t_x0 rfl (by omega)) ?_
    refine c_iload dX8_signers_72 rfl ?_
    refine c_iload dX8_signers_74 rfl ?_
    refine c_iadd dX8_signers_76 ?_
    have p_77 := hS.row24 (hS.rk (c := 6) (k := 4) t_x0 rfl (by omega)) (x4 + x8).toNatClampNeg
    refine c_aald (t := 4) (ty := (.object "QuorumLedger$Message")) rfl rfl (by decide) dX8_signers_77 ⟨(tK.cis (hS.rk (c := 6) (k := 4) t_x0 rfl (by omega)) (Option.some_ne_none _)), (vk_cast (hS.rl (c := 6) (k := 4) t_x0 rfl (by decide) (by omega)) ok.1)⟩ ?_
    have ok := ok.2
    refine c_ifnonnullI (tgt := 101) dX8_signers_78 (by decide) (fun c_78 => ?_) (fun c_78 => ?_)
    · have ok := ok.2 c_78
      have hx := xif_n c_78 hx
      exact cX.cutz (kb_X8_signers_101 hG hX0 hrec hS t_x0 ok hx) ⟨rfl, rfl, rfl, rfl, rfl, rfl, trivial⟩
    · have ok := ok.1 c_78
      have hx := xif_p c_78 hx
      refine c_aload_nQ dX8_signers_81 rfl rfl ?_
      refine c_getS (C := RX8) (T := TX8) (N := 14) (ci := 6) (k := 4) ⟨rfl, inT8, by decide, fX8_36⟩ (by decide) (by decide) (by decide) dX8_signers_82 (hS.k t_x0) (hS.r (c := 6) t_x0 rfl (by omega)) ?_
      refine c_iload dX8_signers_85 rfl ?_
      refine c_iload dX8_signers_87 rfl ?_
      refine c_iadd dX8_signers_89 ?_
      have p_90 := hS.row24 (hS.rk (c := 6) (k := 4) t_x0 rfl (by omega)) (x5 + x8).toNatClampNeg
      refine c_aald (t := 4) (ty := (.object "QuorumLedger$Message")) rfl rfl (by decide) dX8_signers_90 ⟨(tK.cis (hS.rk (c := 6) (k := 4) t_x0 rfl (by omega)) (Option.some_ne_none _)), (vk_cast (hS.rl (c := 6) (k := 4) t_x0 rfl (by decide) (by omega)) ok.1)⟩ ?_
      have ok := ok.2
      refine c_ifnonnullI (tgt := 101) dX8_signers_91 (by decide) (fun c_91 => ?_) (fun c_91 => ?_)
      · have ok := ok.2 c_91
        have hx := xif_n c_91 hx
        exact cX.cutz (kb_X8_signers_101 hG hX0 hrec hS t_x0 ok hx) ⟨rfl, rfl, rfl, rfl, rfl, rfl, trivial⟩
      · have ok := ok.1 c_91
        have hx := xif_p c_91 hx
        refine c_iload dX8_signers_94 rfl ?_
        refine c_iload dX8_signers_96 rfl ?_
        refine c_icmp_ne (tgt := 104) dX8_signers_98 (by decide) (fun c_98 => ?_) (fun c_98 => ?_)
        · have ok := ok.2 c_98
          have hx := xif_n c_98 hx
          exact cX.cutz (kb_X8_signers_104 hG hX0 hrec hS t_x0 ok hx) ⟨rfl, rfl, rfl, rfl, rfl, rfl, trivial⟩
        · have ok := ok.1 c_98
          have hx := xif_p c_98 hx
          exact cX.cutz (kb_X8_signers_101 hG hX0 hrec hS t_x0 ok hx) ⟨rfl, rfl, rfl, rfl, rfl, rfl, trivial⟩
def KL_X8_signers_59 (N g H T : Nat) : Nat → Nat → Int32 → Int32 → Int32 → Int32 → Int32 → cS → Nat × Int32 × Unit
  | 0, x0, x4, x5, x6, x7, x8, S => (0, 0, ())
  | n + 1, x0, x4, x5, x6, x7, x8, S => KB_X8_signers_59 N g H T (fun x0 x4 x5 x6 x7 x8 => KL_X8_signers_59 N g H T n x0 x4 x5 x6 x7 x8 S) x0 x4 x5 x6 x7 x8 S
def KOL_X8_signers_59 (N g H T : Nat) : Nat → Nat → Int32 → Int32 → Int32 → Int32 → Int32 → cS → Prop
  | 0, _, _, _, _, _, _, _ => False
  | n + 1, x0, x4, x5, x6, x7, x8, S => KOB_X8_signers_59 N g H T (fun x0 x4 x5 x6 x7 x8 => KOL_X8_signers_59 N g H T n x0 x4 x5 x6 x7 x8 S) x0 x4 x5 x6 x7 x8 S
set_option maxRecDepth 100000 in
set_option maxHeartbeats 4000000 in
theorem kl_X8_signers_59 {G : zG} {o : cO} {u g H T N : Nat} {S : cS} {Q : Option Value → cS → Prop} {X : Nat × Int32 × Unit → Prop} (hG : zOK G) (hX0 : ∀ (x7 : Int32) , X (0, x7, ()) → cX G o dX8_signers mX8_signers 110 [none, none, none, none, none, none, none, some (.int x7), none] [] S Q) (hS : St u g H T S) : ∀ (n : Nat) (x0 : Nat) (x4 : Int32) (x5 : Int32) (x6 : Int32) (x7 : Int32) (x8 : Int32) , isO g H 6 x0 → KOL_X8_signers_59 N g H T n x0 x4 x5 x6 x7 x8 S → X (KL_X8_signers_59 N g H T n x0 x4 x5 x6 x7 x8 S) → cX G o dX8_signers mX8_signers 59 [some (va_rf (some x0)), none, none, none, some (.int x4), some (.int x5), some (.int x6), some (.int x7), some (.int x8)] [] S Q := by
  intro n
  induction n with
  | zero => intro x0 x4 x5 x6 x7 x8 t_x0 ok; exact absurd ok id
  | succ n ih =>
    intro x0 x4 x5 x6 x7 x8 t_x0 ok hx
    exact kbb_X8_signers_59 hG hX0 (rec := fun x0 x4 x5 x6 x7 x8 => KL_X8_signers_59 N g H T n x0 x4 x5 x6 x7 x8 S) (rok := fun x0 x4 x5 x6 x7 x8 => KOL_X8_signers_59 N g H T n x0 x4 x5 x6 x7 x8 S) (fun x0 x4 x5 x6 x7 x8 t_x0 ok hx => ih x0 x4 x5 x6 x7 x8 t_x0 ok hx) hS t_x0 ok hx
def KA_X8_signers_59 (N g H T : Nat) (x0 : Nat) (x4 : Int32) (x5 : Int32) (x6 : Int32) (x7 : Int32) (x8 : Int32) (S : cS) (z : Nat × Int32 × Unit) : Int32 := (KF_X8_signers_110 N g H T (z.2.1) S)
def KOA_X8_signers_59 (N g H T : Nat) (x0 : Nat) (x4 : Int32) (x5 : Int32) (x6 : Int32) (x7 : Int32) (x8 : Int32) (S : cS) (z : Nat × Int32 × Unit) : Prop := KO_X8_signers_110 N g H T (z.2.1) S
set_option maxRecDepth 100000 in
set_option maxHeartbeats 4000000 in
theorem kd_X8_signers_59 {G : zG} {o : cO} {u g H T N : Nat} {S : cS} {Q : Option Value → cS → Prop} {X : Int32 → Prop} (hG : zOK G) (hR : ∀ v, X v → Q (some (.int v)) S) {x0 : Nat} {x4 : Int32} {x5 : Int32} {x6 : Int32} {x7 : Int32} {x8 : Int32} (hS : St u g H T S) (t_x0 : isO g H 6 x0) (ok : KOL_X8_signers_59 N g H T N x0 x4 x5 x6 x7 x8 S ∧ KOA_X8_signers_59 N g H T x0 x4 x5 x6 x7 x8 S (KL_X8_signers_59 N g H T N x0 x4 x5 x6 x7 x8 S)) (hx : X (KA_X8_signers_59 N g H T x0 x4 x5 x6 x7 x8 S (KL_X8_signers_59 N g H T N x0 x4 x5 x6 x7 x8 S))) : cX G o dX8_signers mX8_signers 59 [some (va_rf (some x0)), none, none, none, some (.int x4), some (.int x5), some (.int x6), some (.int x7), some (.int x8)] [] S Q := by
  refine kl_X8_signers_59 hG ?_ hS N x0 x4 x5 x6 x7 x8 t_x0 ok.1 (X := fun z => KOA_X8_signers_59 N g H T x0 x4 x5 x6 x7 x8 S z ∧ X (KA_X8_signers_59 N g H T x0 x4 x5 x6 x7 x8 S z)) ⟨ok.2, hx⟩
  · intro x7' hz
    obtain ⟨ok, hx⟩ := hz
    unfold KOA_X8_signers_59 at ok
    unfold KA_X8_signers_59 at hx
    exact cX.cutz (kb_X8_signers_110 hG hR hS  ok hx) ⟨rfl, trivial⟩
def KF_X8_signers_51 (N g H T : Nat) (x0 : Nat) (x4 : Int32) (x5 : Int32) (s0 : Int32) (S : cS) : Int32 := (KA_X8_signers_59 N g H T x0 x4 x5 s0 (nI 0) (nI 0) S (KL_X8_signers_59 N g H T N x0 x4 x5 s0 (nI 0) (nI 0) S))
def KO_X8_signers_51 (N g H T : Nat) (x0 : Nat) (x4 : Int32) (x5 : Int32) (s0 : Int32) (S : cS) : Prop := (KOL_X8_signers_59 N g H T N x0 x4 x5 s0 (nI 0) (nI 0) S ∧ KOA_X8_signers_59 N g H T x0 x4 x5 s0 (nI 0) (nI 0) S (KL_X8_signers_59 N g H T N x0 x4 x5 s0 (nI 0) (nI 0) S))
set_option maxRecDepth 100000 in
set_option maxHeartbeats 4000000 in
theorem kb_X8_signers_51 {G : zG} {o : cO} {u g H T N : Nat} {S : cS} {Q : Option Value → cS → Prop} {X : Int32 → Prop} (hG : zOK G) (hR : ∀ v, X v → Q (some (.int v)) S) {x0 : Nat} {x4 : Int32} {x5 : Int32} {s0 : Int32} (hS : St u g H T S) (t_x0 : isO g H 6 x0) (ok : KO_X8_signers_51 N g H T x0 x4 x5 s0 S) (hx : X (KF_X8_signers_51 N g H T x0 x4 x5 s0 S)) : cX G o dX8_signers mX8_signers 51 [some (va_rf (some x0)), none, none, none, some (.int x4), some (.int x5), none, none, none] [.int s0] S Q := by
  unfold KO_X8_signers_51 at ok
  unfold KF_X8_signers_51 at hx
  refine c_istore_6 dX8_signers_51 (by decide) rfl ?_
  refine c_iconst (v := nI 0) dX8_signers_53 (by decide) ?_
  refine c_istore_7 dX8_signers_54 (by decide) rfl ?_
  refine c_iconst (v := nI 0) dX8_signers_56 (by decide) ?_
  refine c_istore_8 dX8_signers_57 (by decide) rfl ?_
  exact cX.cutz (kd_X8_signers_59 hG hR hS t_x0 ok hx) ⟨rfl, rfl, rfl, rfl, rfl, rfl, trivial⟩
def KF_X8_signers_0 (N g H T : Nat) (x0 : Nat) (x1 : Int32) (x2 : Int32) (S : cS) : Int32 := (if 0 ≤ (k_X8_page N g H T S x0 x1 x2) then (if (cP S (x0 + 1) (k_X8_page N g H T S x0 x1 x2).toNatClampNeg) = none then (KF_X8_signers_51 N g H T x0 (k_X8_ballots N g H T S x0 (k_X8_page N g H T S x0 x1 x2) (nI 2)) (k_X8_ballots N g H T S x0 (k_X8_page N g H T S x0 x1 x2) (nI 3)) (-1) S) else (KF_X8_signers_51 N g H T x0 (k_X8_ballots N g H T S x0 (k_X8_page N g H T S x0 x1 x2) (nI 2)) (k_X8_ballots N g H T S x0 (k_X8_page N g H T S x0 x1 x2) (nI 3)) (k_X5_signer N g H T S (za (cP S (x0 + 1) (k_X8_page N g H T S x0 x1 x2).toNatClampNeg))) S)) else (nI 0))
def KO_X8_signers_0 (N g H T : Nat) (x0 : Nat) (x1 : Int32) (x2 : Int32) (S : cS) : Prop := (p_X8_page N g H T S x0 x1 x2) ∧ ((0 ≤ (k_X8_page N g H T S x0 x1 x2) → (p_X8_ballots N g H T S x0 (k_X8_page N g H T S x0 x1 x2) (nI 2)) ∧ (p_X8_ballots N g H T S x0 (k_X8_page N g H T S x0 x1 x2) (nI 3)) ∧ (vp_in (k_X8_page N g H T S x0 x1 x2) 32) ∧ (((cP S (x0 + 1) (k_X8_page N g H T S x0 x1 x2).toNatClampNeg) = none → KO_X8_signers_51 N g H T x0 (k_X8_ballots N g H T S x0 (k_X8_page N g H T S x0 x1 x2) (nI 2)) (k_X8_ballots N g H T S x0 (k_X8_page N g H T S x0 x1 x2) (nI 3)) (-1) S) ∧ (¬ (cP S (x0 + 1) (k_X8_page N g H T S x0 x1 x2).toNatClampNeg) = none → (vp_in (k_X8_page N g H T S x0 x1 x2) 32) ∧ (p_X5_signer N g H T S (za (cP S (x0 + 1) (k_X8_page N g H T S x0 x1 x2).toNatClampNeg))) ∧ KO_X8_signers_51 N g H T x0 (k_X8_ballots N g H T S x0 (k_X8_page N g H T S x0 x1 x2) (nI 2)) (k_X8_ballots N g H T S x0 (k_X8_page N g H T S x0 x1 x2) (nI 3)) (k_X5_signer N g H T S (za (cP S (x0 + 1) (k_X8_page N g H T S x0 x1 x2).toNatClampNeg))) S))) ∧ (¬ 0 ≤ (k_X8_page N g H T S x0 x1 x2) → True))
set_option maxRecDepth 100000 in
set_option maxHeartbeats 4000000 in
theorem kb_X8_signers_0 {G : zG} {o : cO} {u g H T N : Nat} {S : cS} {Q : Option Value → cS → Prop} {X : Int32 → Prop} (hG : zOK G) (hR : ∀ v, X v → Q (some (.int v)) S) {x0 : Nat} {x1 : Int32} {x2 : Int32} (hS : St u g H T S) (t_x0 : isO g H 6 x0) (ok : KO_X8_signers_0 N g H T x0 x1 x2 S) (hx : X (KF_X8_signers_0 N g H T x0 x1 x2 S)) : cX G o dX8_signers mX8_signers 0 [some (va_rf (some x0)), some (.int x1), some (.int x2), none, none, none, none, none, none] [] S Q := by
  unfold KO_X8_signers_0 at ok
  unfold KF_X8_signers_0 at hx
  refine c_aload_nQ dX8_signers_0 rfl rfl ?_
  refine c_iload_n dX8_signers_1 rfl rfl ?_
  refine c_iload_n dX8_signers_2 rfl rfl ?_
  refine c_V2iE (ci := 6) (rr := (RX8, TX8, 14)) (y' := mX8_page) dX8_signers_3 lX8_51 kX8_page ⟨by decide, by decide⟩ rfl rfl (by decide) (hS.k t_x0) (Nat.le_of_ble_eq_true rfl) (kc_X8_page hG hS t_x0 ok.1) ?_
  have ok := ok.2
  refine c_istore_3 dX8_signers_6 (by decide) rfl ?_
  refine c_iload_n dX8_signers_7 rfl rfl ?_
  refine c_if_ge (tgt := 13) dX8_signers_8 (by decide) (fun c_8 => ?_) (fun c_8 => ?_)
  · have ok := ok.1 c_8
    have hx := xif_p c_8 hx
    refine c_aload_nQ dX8_signers_13 rfl rfl ?_
    refine c_iload_n dX8_signers_14 rfl rfl ?_
    refine c_iconst (v := nI 2) dX8_signers_15 (by decide) ?_
    refine c_V2iE (ci := 6) (rr := (RX8, TX8, 14)) (y' := mX8_ballots) dX8_signers_16 lX8_69 kX8_ballots ⟨by decide, by decide⟩ rfl rfl (by decide) (hS.k t_x0) (Nat.le_of_ble_eq_true rfl) (kc_X8_ballots hG hS t_x0 ok.1) ?_
    have ok := ok.2
    refine c_istore_4 dX8_signers_19 (by decide) rfl ?_
    refine c_aload_nQ dX8_signers_21 rfl rfl ?_
    refine c_iload_n dX8_signers_22 rfl rfl ?_
    refine c_iconst (v := nI 3) dX8_signers_23 (by decide) ?_
    refine c_V2iE (ci := 6) (rr := (RX8, TX8, 14)) (y' := mX8_ballots) dX8_signers_24 lX8_69 kX8_ballots ⟨by decide, by decide⟩ rfl rfl (by decide) (hS.k t_x0) (Nat.le_of_ble_eq_true rfl) (kc_X8_ballots hG hS t_x0 ok.1) ?_
    have ok := ok.2
    refine c_istore_5 dX8_signers_27 (by decide) rfl ?_
    refine c_aload_nQ dX8_signers_29 rfl rfl ?_
    refine c_getS (C := RX8) (T := TX8) (N := 14) (ci := 6) (k := 2) ⟨rfl, inT8, by decide, fX8_11⟩ (by decide) (by decide) (by decide) dX8_signers_30 (hS.k t_x0) (hS.r (c := 6) t_x0 rfl (by omega)) ?_
    refine c_iload_n dX8_signers_33 rfl rfl ?_
    have p_34 := hS.row24 (hS.rk (c := 6) (k := 2) t_x0 rfl (by omega)) (k_X8_page N g H T S x0 x1 x2).toNatClampNeg
    refine c_aald (t := 4) (ty := (.object "QuorumLedger$Message")) rfl rfl (by decide) dX8_signers_34 ⟨(tK.cis (hS.rk (c := 6) (k := 2) t_x0 rfl (by omega)) (Option.some_ne_none _)), (vk_cast (hS.rl (c := 6) (k := 2) t_x0 rfl (by decide) (by omega)) ok.1)⟩ ?_
    have ok := ok.2
    refine c_ifnonnullI (tgt := 42) dX8_signers_35 (by decide) (fun c_35 => ?_) (fun c_35 => ?_)
    · have ok := ok.2 c_35
      have hx := xif_n c_35 hx
      refine c_aload_nQ dX8_signers_42 rfl rfl ?_
      refine c_getS (C := RX8) (T := TX8) (N := 14) (ci := 6) (k := 2) ⟨rfl, inT8, by decide, fX8_11⟩ (by decide) (by decide) (by decide) dX8_signers_43 (hS.k t_x0) (hS.r (c := 6) t_x0 rfl (by omega)) ?_
      refine c_iload_n dX8_signers_46 rfl rfl ?_
      have p_47 := hS.row24 (hS.rk (c := 6) (k := 2) t_x0 rfl (by omega)) (k_X8_page N g H T S x0 x1 x2).toNatClampNeg
      refine c_aald (t := 4) (ty := (.object "QuorumLedger$Message")) rfl rfl (by decide) dX8_signers_47 ⟨(tK.cis (hS.rk (c := 6) (k := 2) t_x0 rfl (by omega)) (Option.some_ne_none _)), (vk_cast (hS.rl (c := 6) (k := 2) t_x0 rfl (by decide) (by omega)) ok.1)⟩ ?_
      have ok := ok.2
      refine c_V0iE (ci := 4) (rr := (RX5, TX5, 7)) (y' := mX5_signer) dX8_signers_48 lX8_62 kX5_signer ⟨by decide, by decide⟩ rfl rfl (by decide) (tK.cis p_47 c_35) (Nat.le_of_ble_eq_true rfl) (kc_X5_signer hG hS (p_47 _ (za_of c_35)) ok.1) ?_
      have ok := ok.2
      exact cX.cutz (kb_X8_signers_51 hG hR hS t_x0 ok hx) ⟨rfl, rfl, rfl, trivial⟩
    · have ok := ok.1 c_35
      have hx := xif_p c_35 hx
      refine c_iconst (v := -1) dX8_signers_38 (by decide) ?_
      refine c_goto (tgt := 51) dX8_signers_39 (by decide) ?_
      exact cX.cutz (kb_X8_signers_51 hG hR hS t_x0 ok hx) ⟨rfl, rfl, rfl, trivial⟩
  · have ok := ok.2 c_8
    have hx := xif_n c_8 hx
    refine c_iconst (v := nI 0) dX8_signers_11 (by decide) ?_
    exact c_ireturn rfl rfl dX8_signers_12 (hR _ hx)
def k_X8_signers (N g H T : Nat) (S : cS) (a0 : Nat) (x1 : Int32) (x2 : Int32) : Int32 := KF_X8_signers_0 N g H T a0 x1 x2 S
def p_X8_signers (N g H T : Nat) (S : cS) (a0 : Nat) (x1 : Int32) (x2 : Int32) : Prop := KO_X8_signers_0 N g H T a0 x1 x2 S
set_option maxRecDepth 100000 in
set_option maxHeartbeats 4000000 in
theorem kc_X8_signers {G : zG} {o : cO} {u g H T N : Nat} {S : cS} (hG : zOK G) {a0 : Nat} {x1 : Int32} {x2 : Int32} (hS : St u g H T S) (t_x0 : isO g H 6 a0) (ok : p_X8_signers N g H T S a0 x1 x2) : cCi G o dX8_signers mX8_signers [.ref a0, .int x1, .int x2] S (fun v S' => (v = k_X8_signers N g H T S a0 x1 x2 ∧ S' = S)) := by
  refine cC.ofX rfl (by exact Nat.le_of_ble_eq_true rfl) ?_
  show cX G o dX8_signers mX8_signers 0 [some (va_rf (some a0)), some (.int x1), some (.int x2), none, none, none, none, none, none] [] S _
  exact cX.cutz (kb_X8_signers_0 (X := fun F => F = k_X8_signers N g H T S a0 x1 x2) hG (fun v h => ⟨v, rfl, h, rfl⟩) hS t_x0 ok rfl) ⟨rfl, rfl, rfl, trivial⟩
/-! X7_skips -/
def KF_X7_skips_57 (N g H T : Nat)  (S : cS) : Int32 × cS := ((nI 0), S)
def KO_X7_skips_57 (N g H T : Nat)  (S : cS) : Prop := True
set_option maxRecDepth 100000 in
set_option maxHeartbeats 4000000 in
theorem kb_X7_skips_57 {G : zG} {o : cO} {u g H T N : Nat} {S : cS} {S0 : cS} {Q : Option Value → cS → Prop} {X : Int32 × cS → Prop} (hG : zOK G) (hR : ∀ v S', St u g H T S' → Mono S0 S' → X (v, S') → Q (some (.int v)) S') (hS : St u g H T S) (hM : Mono S0 S) (ok : KO_X7_skips_57 N g H T S) (hx : X (KF_X7_skips_57 N g H T S)) : cX G o dX7_skips mX7_skips 57 [none, none] [] S Q := by
  unfold KO_X7_skips_57 at ok
  unfold KF_X7_skips_57 at hx
  refine c_iconst (v := nI 0) dX7_skips_57 (by decide) ?_
  exact c_ireturn rfl rfl dX7_skips_58 (hR _ _ hS hM hx)
def KF_X7_skips_44 (N g H T : Nat) (x0 : Option Nat) (x1 : Int32) (S : cS) : Int32 × cS := ((nI 1), (csI S 18 (za x0) x1))
def KO_X7_skips_44 (N g H T : Nat) (x0 : Option Nat) (x1 : Int32) (S : cS) : Prop := (¬ x0 = none) ∧ True
set_option maxRecDepth 100000 in
set_option maxHeartbeats 4000000 in
theorem kb_X7_skips_44 {G : zG} {o : cO} {u g H T N : Nat} {S : cS} {S0 : cS} {Q : Option Value → cS → Prop} {X : Int32 × cS → Prop} (hG : zOK G) (hR : ∀ v S', St u g H T S' → Mono S0 S' → X (v, S') → Q (some (.int v)) S') {x0 : Option Nat} {x1 : Int32} (hS : St u g H T S) (hM : Mono S0 S) (t_x0 : tN g H x0) (ok : KO_X7_skips_44 N g H T x0 x1 S) (hx : X (KF_X7_skips_44 N g H T x0 x1 S)) : cX G o dX7_skips mX7_skips 44 [some (va_rf x0), some (.int x1)] [] S Q := by
  unfold KO_X7_skips_44 at ok
  unfold KF_X7_skips_44 at hx
  refine c_aload_nQ dX7_skips_44 rfl rfl ?_
  refine c_iload_n dX7_skips_45 rfl rfl ?_
  have nn_46 := ok.1
  refine c_putI (C := RX6) (T := TX6) (N := 19) (ci := 5) (k := 18) ⟨rfl, inT6, by decide, fX7_45⟩ ftT6 rfl (by decide) (by decide) (by decide) rfl rfl dX7_skips_46 (hS.kN t_x0 ok.1) ?_
  have hS := hS.I 18 (za x0) x1
  have hM := hM.I 18 (za x0) x1
  have ok := ok.2
  refine c_iconst (v := nI 1) dX7_skips_49 (by decide) ?_
  exact c_ireturn rfl rfl dX7_skips_50 (hR _ _ hS hM hx)
def KB_X7_skips_14 (N g H T : Nat) (rec : Option Nat → Int32 → cS → Nat × Option Nat × Int32 × cS) (x0 : Option Nat) (x1 : Int32) (S : cS) : Nat × Option Nat × Int32 × cS := (if x1 ≤ (cI S 10 (za x0)) then (1, none, 0, S) else (if (k_X8_signers N g H T S ((za x0) + 14) (cI S 9 (za x0)) x1) ≤ (cI S 0 (g + 8)) then (rec x0 (x1 + (-1)) S) else (0, x0, x1, S)))
def KOB_X7_skips_14 (N g H T : Nat) (rok : Option Nat → Int32 → cS → Prop) (x0 : Option Nat) (x1 : Int32) (S : cS) : Prop := (¬ x0 = none) ∧ ((x1 ≤ (cI S 10 (za x0)) → True) ∧ (¬ x1 ≤ (cI S 10 (za x0)) → (p_X8_signers N g H T S ((za x0) + 14) (cI S 9 (za x0)) x1) ∧ (((k_X8_signers N g H T S ((za x0) + 14) (cI S 9 (za x0)) x1) ≤ (cI S 0 (g + 8)) → rok x0 (x1 + (-1)) S) ∧ (¬ (k_X8_signers N g H T S ((za x0) + 14) (cI S 9 (za x0)) x1) ≤ (cI S 0 (g + 8)) → True))))
set_option maxRecDepth 100000 in
set_option maxHeartbeats 4000000 in
theorem kbb_X7_skips_14 {G : zG} {o : cO} {u g H T N : Nat} {S : cS} {S0 : cS} {Q : Option Value → cS → Prop} {X : Nat × Option Nat × Int32 × cS → Prop} (hG : zOK G) (hX0 : ∀ (x0 : Option Nat) (x1 : Int32) (S' : cS), St u g H T S' → Mono S0 S' → tN g H x0 → X (0, x0, x1, S') → cX G o dX7_skips mX7_skips 44 [some (va_rf x0), some (.int x1)] [] S' Q) (hX1 : ∀ (x0 : Option Nat) (x1 : Int32) (S' : cS), St u g H T S' → Mono S0 S' → X (1, x0, x1, S') → cX G o dX7_skips mX7_skips 57 [none, none] [] S' Q) {rec : Option Nat → Int32 → cS → Nat × Option Nat × Int32 × cS} {rok : Option Nat → Int32 → cS → Prop} (hrec : ∀ (x0 : Option Nat) (x1 : Int32) (S : cS), St u g H T S → Mono S0 S → tN g H x0 → rok x0 x1 S → X (rec x0 x1 S) → cX G o dX7_skips mX7_skips 14 [some (va_rf x0), some (.int x1)] [] S Q) {x0 : Option Nat} {x1 : Int32} (hS : St u g H T S) (hM : Mono S0 S) (t_x0 : tN g H x0) (ok : KOB_X7_skips_14 N g H T rok x0 x1 S) (hx : X (KB_X7_skips_14 N g H T rec x0 x1 S)) : cX G o dX7_skips mX7_skips 14 [some (va_rf x0), some (.int x1)] [] S Q := by
  unfold KOB_X7_skips_14 at ok
  unfold KB_X7_skips_14 at hx
  refine c_iload_n dX7_skips_14 rfl rfl ?_
  refine c_aload_nQ dX7_skips_15 rfl rfl ?_
  have nn_16 := ok.1
  refine c_getI (C := RX6) (T := TX6) (N := 19) (ci := 5) (k := 10) ⟨rfl, inT6, by decide, fX7_213⟩ (by decide) (by decide) (by decide) dX7_skips_16 (hS.kN t_x0 ok.1) ?_
  have ok := ok.2
  refine c_icmp_le (tgt := 57) dX7_skips_19 (by decide) (fun c_19 => ?_) (fun c_19 => ?_)
  · have ok := ok.1 c_19
    have hx := xif_p c_19 hx
    exact cX.cutz (hX1 _ _ S hS hM  hx) trivial
  · have ok := ok.2 c_19
    have hx := xif_n c_19 hx
    refine c_aload_nQ dX7_skips_22 rfl rfl ?_
    refine c_getS (C := RX6) (T := TX6) (N := 19) (ci := 5) (k := 3) ⟨rfl, inT6, by decide, fX7_80⟩ (by decide) (by decide) (by decide) dX7_skips_23 (hS.kN t_x0 nn_16) (hS.r (c := 5) (tN.o t_x0 nn_16) rfl (by omega)) ?_
    refine c_aload_nQ dX7_skips_26 rfl rfl ?_
    refine c_getI (C := RX6) (T := TX6) (N := 19) (ci := 5) (k := 9) ⟨rfl, inT6, by decide, fX7_18⟩ (by decide) (by decide) (by decide) dX7_skips_27 (hS.kN t_x0 nn_16) ?_
    refine c_iload_n dX7_skips_30 rfl rfl ?_
    refine c_V2iE (ci := 6) (rr := (RX8, TX8, 14)) (y' := mX8_signers) dX7_skips_31 lX7_216 kX8_signers ⟨by decide, by decide⟩ rfl rfl (by decide) (hS.k (o53 (tN.o t_x0 nn_16))) (Nat.le_of_ble_eq_true rfl) (kc_X8_signers hG hS (o53 (tN.o t_x0 nn_16)) ok.1) ?_
    have ok := ok.2
    refine c_aload_nQ dX7_skips_34 rfl rfl ?_
    refine c_getS (C := RX6) (T := TX6) (N := 19) (ci := 5) (k := 0) ⟨rfl, inT6, by decide, fX7_26⟩ (by decide) (by decide) (by decide) dX7_skips_35 (hS.kN t_x0 nn_16) (hS.r (c := 5) (tN.o t_x0 nn_16) rfl (by omega)) ?_
    refine c_getI (C := RX10) (T := TX10) (N := 12) (ci := 8) (k := 0) ⟨rfl, inT10, by decide, fX7_103⟩ (by decide) (by decide) (by decide) dX7_skips_38 (hS.k (o50 (tN.o t_x0 nn_16))) ?_
    refine c_icmp_le (tgt := 51) dX7_skips_41 (by decide) (fun c_41 => ?_) (fun c_41 => ?_)
    · have ok := ok.1 c_41
      have hx := xif_p c_41 hx
      refine c_iinc_1 (v := (x1 + (-1))) dX7_skips_51 rfl (by first | rfl | (congr 1)) (by decide) (by simp [zok, zg, zcat_rf]) ?_
      refine c_goto (tgt := 14) dX7_skips_54 (by decide) ?_
      exact cX.cutz (hrec _ _ S hS hM t_x0 ok hx) ⟨rfl, rfl, trivial⟩
    · have ok := ok.2 c_41
      have hx := xif_n c_41 hx
      exact cX.cutz (hX0 _ _ S hS hM t_x0 hx) ⟨rfl, rfl, trivial⟩
def KL_X7_skips_14 (N g H T : Nat) : Nat → Option Nat → Int32 → cS → Nat × Option Nat × Int32 × cS
  | 0, x0, x1, S => (0, none, 0, S)
  | n + 1, x0, x1, S => KB_X7_skips_14 N g H T (KL_X7_skips_14 N g H T n) x0 x1 S
def KOL_X7_skips_14 (N g H T : Nat) : Nat → Option Nat → Int32 → cS → Prop
  | 0, _, _, _ => False
  | n + 1, x0, x1, S => KOB_X7_skips_14 N g H T (KOL_X7_skips_14 N g H T n) x0 x1 S
set_option maxRecDepth 100000 in
set_option maxHeartbeats 4000000 in
theorem kl_X7_skips_14 {G : zG} {o : cO} {u g H T N : Nat} {S0 : cS} {Q : Option Value → cS → Prop} {X : Nat × Option Nat × Int32 × cS → Prop} (hG : zOK G) (hX0 : ∀ (x0 : Option Nat) (x1 : Int32) (S' : cS), St u g H T S' → Mono S0 S' → tN g H x0 → X (0, x0, x1, S') → cX G o dX7_skips mX7_skips 44 [some (va_rf x0), some (.int x1)] [] S' Q) (hX1 : ∀ (x0 : Option Nat) (x1 : Int32) (S' : cS), St u g H T S' → Mono S0 S' → X (1, x0, x1, S') → cX G o dX7_skips mX7_skips 57 [none, none] [] S' Q) : ∀ (n : Nat) (x0 : Option Nat) (x1 : Int32) (S : cS), St u g H T S → Mono S0 S → tN g H x0 → KOL_X7_skips_14 N g H T n x0 x1 S → X (KL_X7_skips_14 N g H T n x0 x1 S) → cX G o dX7_skips mX7_skips 14 [some (va_rf x0), some (.int x1)] [] S Q := by
  intro n
  induction n with
  | zero => intro x0 x1 S hS hM t_x0 ok; exact absurd ok id
  | succ n ih =>
    intro x0 x1 S hS hM t_x0 ok hx
    exact kbb_X7_skips_14 hG hX0 hX1 (rec := KL_X7_skips_14 N g H T n) (rok := KOL_X7_skips_14 N g H T n) (fun x0 x1 S hS hM t_x0 ok hx => ih x0 x1 S hS hM t_x0 ok hx) hS hM t_x0 ok hx
def KA_X7_skips_14 (N g H T : Nat) (x0 : Option Nat) (x1 : Int32) (S : cS) (z : Nat × Option Nat × Int32 × cS) : Int32 × cS := (if z.1 = 0 then (KF_X7_skips_44 N g H T (z.2.1) (z.2.2.1) z.2.2.2) else (KF_X7_skips_57 N g H T z.2.2.2))
def KOA_X7_skips_14 (N g H T : Nat) (x0 : Option Nat) (x1 : Int32) (S : cS) (z : Nat × Option Nat × Int32 × cS) : Prop := (if z.1 = 0 then KO_X7_skips_44 N g H T (z.2.1) (z.2.2.1) z.2.2.2 else KO_X7_skips_57 N g H T z.2.2.2)
set_option maxRecDepth 100000 in
set_option maxHeartbeats 4000000 in
theorem kd_X7_skips_14 {G : zG} {o : cO} {u g H T N : Nat} {S : cS} {S0 : cS} {Q : Option Value → cS → Prop} {X : Int32 × cS → Prop} (hG : zOK G) (hR : ∀ v S', St u g H T S' → Mono S0 S' → X (v, S') → Q (some (.int v)) S') {x0 : Option Nat} {x1 : Int32} (hS : St u g H T S) (hM : Mono S0 S) (t_x0 : tN g H x0) (ok : KOL_X7_skips_14 N g H T N x0 x1 S ∧ KOA_X7_skips_14 N g H T x0 x1 S (KL_X7_skips_14 N g H T N x0 x1 S)) (hx : X (KA_X7_skips_14 N g H T x0 x1 S (KL_X7_skips_14 N g H T N x0 x1 S))) : cX G o dX7_skips mX7_skips 14 [some (va_rf x0), some (.int x1)] [] S Q := by
  refine kl_X7_skips_14 hG ?_ ?_ N x0 x1 S hS hM t_x0 ok.1 (X := fun z => KOA_X7_skips_14 N g H T x0 x1 S z ∧ X (KA_X7_skips_14 N g H T x0 x1 S z)) ⟨ok.2, hx⟩
  · intro x0' x1' S' hS hM t_x0 hz
    obtain ⟨ok, hx⟩ := hz
    unfold KOA_X7_skips_14 at ok
    unfold KA_X7_skips_14 at hx
    have ok := xif_P (show (0 : Nat) = 0 from rfl) ok
    have hx := xif_p (show (0 : Nat) = 0 from rfl) hx
    exact cX.cutz (kb_X7_skips_44 hG hR hS hM t_x0 ok hx) ⟨rfl, rfl, trivial⟩
  · intro x0' x1' S' hS hM hz
    obtain ⟨ok, hx⟩ := hz
    unfold KOA_X7_skips_14 at ok
    unfold KA_X7_skips_14 at hx
    have ok := xif_N (show ¬ (1 : Nat) = 0 by decide) ok
    have hx := xif_n (show ¬ (1 : Nat) = 0 by decide) hx
    exact cX.cutz (kb_X7_skips_57 hG hR hS hM  ok hx) trivial
def KF_X7_skips_0 (N g H T : Nat) (x0 : Option Nat) (S : cS) : Int32 × cS := (KA_X7_skips_14 N g H T x0 ((k_X8_top N g H T S ((za x0) + 14) (cI S 9 (za x0))) - (nI 1)) S (KL_X7_skips_14 N g H T N x0 ((k_X8_top N g H T S ((za x0) + 14) (cI S 9 (za x0))) - (nI 1)) S))
def KO_X7_skips_0 (N g H T : Nat) (x0 : Option Nat) (S : cS) : Prop := (¬ x0 = none) ∧ (p_X8_top N g H T S ((za x0) + 14) (cI S 9 (za x0))) ∧ (KOL_X7_skips_14 N g H T N x0 ((k_X8_top N g H T S ((za x0) + 14) (cI S 9 (za x0))) - (nI 1)) S ∧ KOA_X7_skips_14 N g H T x0 ((k_X8_top N g H T S ((za x0) + 14) (cI S 9 (za x0))) - (nI 1)) S (KL_X7_skips_14 N g H T N x0 ((k_X8_top N g H T S ((za x0) + 14) (cI S 9 (za x0))) - (nI 1)) S))
set_option maxRecDepth 100000 in
set_option maxHeartbeats 4000000 in
theorem kb_X7_skips_0 {G : zG} {o : cO} {u g H T N : Nat} {S : cS} {S0 : cS} {Q : Option Value → cS → Prop} {X : Int32 × cS → Prop} (hG : zOK G) (hR : ∀ v S', St u g H T S' → Mono S0 S' → X (v, S') → Q (some (.int v)) S') {x0 : Option Nat} (hS : St u g H T S) (hM : Mono S0 S) (t_x0 : tN g H x0) (ok : KO_X7_skips_0 N g H T x0 S) (hx : X (KF_X7_skips_0 N g H T x0 S)) : cX G o dX7_skips mX7_skips 0 [some (va_rf x0), none] [] S Q := by
  unfold KO_X7_skips_0 at ok
  unfold KF_X7_skips_0 at hx
  refine c_aload_nQ dX7_skips_0 rfl rfl ?_
  have nn_1 := ok.1
  refine c_getS (C := RX6) (T := TX6) (N := 19) (ci := 5) (k := 3) ⟨rfl, inT6, by decide, fX7_80⟩ (by decide) (by decide) (by decide) dX7_skips_1 (hS.kN t_x0 ok.1) (hS.r (c := 5) (tN.o t_x0 ok.1) rfl (by omega)) ?_
  have ok := ok.2
  refine c_aload_nQ dX7_skips_4 rfl rfl ?_
  refine c_getI (C := RX6) (T := TX6) (N := 19) (ci := 5) (k := 9) ⟨rfl, inT6, by decide, fX7_18⟩ (by decide) (by decide) (by decide) dX7_skips_5 (hS.kN t_x0 nn_1) ?_
  refine c_V1iE (ci := 6) (rr := (RX8, TX8, 14)) (y' := mX8_top) dX7_skips_8 lX7_169 kX8_top ⟨by decide, by decide⟩ rfl rfl (by decide) (hS.k (o53 (tN.o t_x0 nn_1))) (Nat.le_of_ble_eq_true rfl) (kc_X8_top hG hS (o53 (tN.o t_x0 nn_1)) ok.1) ?_
  have ok := ok.2
  refine c_iconst (v := nI 1) dX7_skips_11 (by decide) ?_
  refine c_isub dX7_skips_12 ?_
  refine c_istore_1 dX7_skips_13 (by decide) (by simp [zok, zg, zcat_rf]) ?_
  exact cX.cutz (kd_X7_skips_14 hG hR hS hM t_x0 ok hx) ⟨rfl, rfl, trivial⟩
def k_X7_skips (N g H T : Nat) (S : cS) (x0 : Option Nat) : Int32 × cS := KF_X7_skips_0 N g H T x0 S
def p_X7_skips (N g H T : Nat) (S : cS) (x0 : Option Nat) : Prop := KO_X7_skips_0 N g H T x0 S
set_option maxRecDepth 100000 in
set_option maxHeartbeats 4000000 in
theorem kc_X7_skips {G : zG} {o : cO} {u g H T N : Nat} {S : cS} (hG : zOK G) {x0 : Option Nat} (hS : St u g H T S) (t_x0 : tN g H x0) (ok : p_X7_skips N g H T S x0) : cCi G o dX7_skips mX7_skips [va_rf x0] S (fun v S' => (v = (k_X7_skips N g H T S x0).1 ∧ S' = (k_X7_skips N g H T S x0).2) ∧ St u g H T S' ∧ Mono S S') := by
  refine cC.ofX rfl (by cases x0 <;> exact Nat.le_of_ble_eq_true rfl) ?_
  rw [show zargs mX7_skips.2.2.1 [va_rf x0] = [some (va_rf x0), none] from by cases x0 <;> rfl]
  exact cX.cutz (kb_X7_skips_0 (X := fun F => F = k_X7_skips N g H T S x0) hG (fun v S' h1 h2 h => ⟨v, rfl, ⟨by rw [← h], by rw [← h]⟩, h1, h2⟩) hS Mono.rfl' t_x0 ok rfl) ⟨rfl, trivial⟩
/-! X7_prevotesNew -/
def KF_X7_prevotesNew_98 (N g H T : Nat)  (S : cS) : Int32 × cS := ((nI 1), S)
def KO_X7_prevotesNew_98 (N g H T : Nat)  (S : cS) : Prop := True
set_option maxRecDepth 100000 in
set_option maxHeartbeats 4000000 in
theorem kb_X7_prevotesNew_98 {G : zG} {o : cO} {u g H T N : Nat} {S : cS} {S0 : cS} {Q : Option Value → cS → Prop} {X : Int32 × cS → Prop} (hG : zOK G) (hR : ∀ v S', St u g H T S' → Mono S0 S' → X (v, S') → Q (some (.int v)) S') (hS : St u g H T S) (hM : Mono S0 S) (ok : KO_X7_prevotesNew_98 N g H T S) (hx : X (KF_X7_prevotesNew_98 N g H T S)) : cX G o dX7_prevotesNew mX7_prevotesNew 98 [none, none, none] [] S Q := by
  unfold KO_X7_prevotesNew_98 at ok
  unfold KF_X7_prevotesNew_98 at hx
  refine c_iconst (v := nI 1) dX7_prevotesNew_98 (by decide) ?_
  exact c_ireturn rfl rfl dX7_prevotesNew_99 (hR _ _ hS hM hx)
def KF_X7_prevotesNew_94 (N g H T : Nat) (s0 : Option Nat) (s1 : Option Nat) (S : cS) : Int32 × cS := (KF_X7_prevotesNew_98 N g H T (k_X7_utter N g H T S s0 s1 (nI 1)))
def KO_X7_prevotesNew_94 (N g H T : Nat) (s0 : Option Nat) (s1 : Option Nat) (S : cS) : Prop := (p_X7_utter N g H T S s0 s1 (nI 1)) ∧ KO_X7_prevotesNew_98 N g H T (k_X7_utter N g H T S s0 s1 (nI 1))
set_option maxRecDepth 100000 in
set_option maxHeartbeats 4000000 in
theorem kb_X7_prevotesNew_94 {G : zG} {o : cO} {u g H T N : Nat} {S : cS} {S0 : cS} {Q : Option Value → cS → Prop} {X : Int32 × cS → Prop} (hG : zOK G) (hR : ∀ v S', St u g H T S' → Mono S0 S' → X (v, S') → Q (some (.int v)) S') {s0 : Option Nat} {s1 : Option Nat} (hS : St u g H T S) (hM : Mono S0 S) (t_s0 : tN g H s0) (t_s1 : tK S 5 s1) (ok : KO_X7_prevotesNew_94 N g H T s0 s1 S) (hx : X (KF_X7_prevotesNew_94 N g H T s0 s1 S)) : cX G o dX7_prevotesNew mX7_prevotesNew 94 [none, none, none] [va_rf s1, va_rf s0] S Q := by
  unfold KO_X7_prevotesNew_94 at ok
  unfold KF_X7_prevotesNew_94 at hx
  refine c_iconst (v := nI 1) dX7_prevotesNew_94 (by decide) ?_
  refine c_S3vK (y' := mX7_utter) dX7_prevotesNew_95 lX7_234 kX7_utter ⟨by decide, by decide⟩ (Nat.le_of_ble_eq_true rfl) (kc_X7_utter hG hS t_s0 t_s1 ok.1) (fun ⟨hS, hm_95⟩ => ?_)
  have hM := hM.trans hm_95
  have ok := ok.2
  exact cX.cutz (kb_X7_prevotesNew_98 hG hR hS hM  ok hx) trivial
def KF_X7_prevotesNew_91 (N g H T : Nat) (s0 : Option Nat) (s1 : Option Nat) (s2 : Int32) (s3 : Option Nat) (S : cS) : Int32 × cS := (KF_X7_prevotesNew_94 N g H T s0 ((k_X6_vote N g H T S (za s1) s2 s3).1) (k_X6_vote N g H T S (za s1) s2 s3).2)
def KO_X7_prevotesNew_91 (N g H T : Nat) (s0 : Option Nat) (s1 : Option Nat) (s2 : Int32) (s3 : Option Nat) (S : cS) : Prop := (¬ s1 = none ∧ p_X6_vote N g H T S (za s1) s2 s3) ∧ KO_X7_prevotesNew_94 N g H T s0 ((k_X6_vote N g H T S (za s1) s2 s3).1) (k_X6_vote N g H T S (za s1) s2 s3).2
set_option maxRecDepth 100000 in
set_option maxHeartbeats 4000000 in
theorem kb_X7_prevotesNew_91 {G : zG} {o : cO} {u g H T N : Nat} {S : cS} {S0 : cS} {Q : Option Value → cS → Prop} {X : Int32 × cS → Prop} (hG : zOK G) (hR : ∀ v S', St u g H T S' → Mono S0 S' → X (v, S') → Q (some (.int v)) S') {s0 : Option Nat} {s1 : Option Nat} {s2 : Int32} {s3 : Option Nat} (hS : St u g H T S) (hM : Mono S0 S) (t_s0 : tN g H s0) (t_s1 : tN g H s1) (t_s3 : tK S 5 s3) (ok : KO_X7_prevotesNew_91 N g H T s0 s1 s2 s3 S) (hx : X (KF_X7_prevotesNew_91 N g H T s0 s1 s2 s3 S)) : cX G o dX7_prevotesNew mX7_prevotesNew 91 [none, none, none] [va_rf s3, .int s2, va_rf s1, va_rf s0] S Q := by
  unfold KO_X7_prevotesNew_91 at ok
  unfold KF_X7_prevotesNew_91 at hx
  have nn_91 := ok.1.1
  refine c_V2qK (ci := 5) (rr := (RX6, TX6, 19)) (y' := mX6_vote) dX7_prevotesNew_91 lX7_230 kX6_vote ⟨by decide, by decide⟩ rfl rfl (by decide) (hS.kN t_s1 nn_91) (by simp only [List.map_cons, List.map_nil, List.sum_cons, List.sum_nil, zcat_rf, zcat_i, zcat_l, zcat_r] <;> decide) (kc_X6_vote hG hS (tN.o t_s1 nn_91) t_s3 ok.1.2) (fun ⟨hS, hm_91, tv_91⟩ => ?_)
  have hM := hM.trans hm_91
  have ok := ok.2
  exact cX.cutz (kb_X7_prevotesNew_94 hG hR hS hM t_s0 tv_91 ok hx) trivial
def KF_X7_prevotesNew_78 (N g H T : Nat) (x0 : Option Nat) (x1 : Option Nat) (s0 : Int32) (S : cS) : Int32 × cS := (if s0 = 0 then (KF_X7_prevotesNew_91 N g H T x0 x0 (nI 2) (none : Option Nat) S) else (KF_X7_prevotesNew_91 N g H T x0 x0 (nI 2) x1 S))
def KO_X7_prevotesNew_78 (N g H T : Nat) (x0 : Option Nat) (x1 : Option Nat) (s0 : Int32) (S : cS) : Prop := ((s0 = 0 → KO_X7_prevotesNew_91 N g H T x0 x0 (nI 2) (none : Option Nat) S) ∧ (¬ s0 = 0 → KO_X7_prevotesNew_91 N g H T x0 x0 (nI 2) x1 S))
set_option maxRecDepth 100000 in
set_option maxHeartbeats 4000000 in
theorem kb_X7_prevotesNew_78 {G : zG} {o : cO} {u g H T N : Nat} {S : cS} {S0 : cS} {Q : Option Value → cS → Prop} {X : Int32 × cS → Prop} (hG : zOK G) (hR : ∀ v S', St u g H T S' → Mono S0 S' → X (v, S') → Q (some (.int v)) S') {x0 : Option Nat} {x1 : Option Nat} {s0 : Int32} (hS : St u g H T S) (hM : Mono S0 S) (t_x0 : tN g H x0) (t_x1 : tK S 5 x1) (ok : KO_X7_prevotesNew_78 N g H T x0 x1 s0 S) (hx : X (KF_X7_prevotesNew_78 N g H T x0 x1 s0 S)) : cX G o dX7_prevotesNew mX7_prevotesNew 78 [some (va_rf x0), some (va_rf x1), none] [.int s0] S Q := by
  unfold KO_X7_prevotesNew_78 at ok
  unfold KF_X7_prevotesNew_78 at hx
  refine c_istore_2 dX7_prevotesNew_78 (by decide) (by simp [zok, zg, zcat_rf]) ?_
  refine c_aload_nQ dX7_prevotesNew_79 rfl rfl ?_
  refine c_aload_nQ dX7_prevotesNew_80 rfl rfl ?_
  refine c_iconst (v := nI 2) dX7_prevotesNew_81 (by decide) ?_
  refine c_iload_n dX7_prevotesNew_82 rfl rfl ?_
  refine c_if_eq (tgt := 90) dX7_prevotesNew_83 (by decide) (fun c_83 => ?_) (fun c_83 => ?_)
  · have ok := ok.1 c_83
    have hx := xif_p c_83 hx
    refine c_null' dX7_prevotesNew_90 ?_
    exact cX.cutz (kb_X7_prevotesNew_91 hG hR hS hM t_x0 t_x0 tK_none ok hx) trivial
  · have ok := ok.2 c_83
    have hx := xif_n c_83 hx
    refine c_aload_nQ dX7_prevotesNew_86 rfl rfl ?_
    refine c_goto (tgt := 91) dX7_prevotesNew_87 (by decide) ?_
    exact cX.cutz (kb_X7_prevotesNew_91 hG hR hS hM t_x0 t_x0 t_x1 ok hx) trivial
def KF_X7_prevotesNew_77 (N g H T : Nat) (x0 : Option Nat) (x1 : Option Nat) (S : cS) : Int32 × cS := (KF_X7_prevotesNew_78 N g H T x0 x1 (nI 0) S)
def KO_X7_prevotesNew_77 (N g H T : Nat) (x0 : Option Nat) (x1 : Option Nat) (S : cS) : Prop := KO_X7_prevotesNew_78 N g H T x0 x1 (nI 0) S
set_option maxRecDepth 100000 in
set_option maxHeartbeats 4000000 in
theorem kb_X7_prevotesNew_77 {G : zG} {o : cO} {u g H T N : Nat} {S : cS} {S0 : cS} {Q : Option Value → cS → Prop} {X : Int32 × cS → Prop} (hG : zOK G) (hR : ∀ v S', St u g H T S' → Mono S0 S' → X (v, S') → Q (some (.int v)) S') {x0 : Option Nat} {x1 : Option Nat} (hS : St u g H T S) (hM : Mono S0 S) (t_x0 : tN g H x0) (t_x1 : tK S 5 x1) (ok : KO_X7_prevotesNew_77 N g H T x0 x1 S) (hx : X (KF_X7_prevotesNew_77 N g H T x0 x1 S)) : cX G o dX7_prevotesNew mX7_prevotesNew 77 [some (va_rf x0), some (va_rf x1), none] [] S Q := by
  unfold KO_X7_prevotesNew_77 at ok
  unfold KF_X7_prevotesNew_77 at hx
  refine c_iconst (v := nI 0) dX7_prevotesNew_77 (by decide) ?_
  exact cX.cutz (kb_X7_prevotesNew_78 hG hR hS hM t_x0 t_x1 ok hx) ⟨rfl, rfl, trivial⟩
def KF_X7_prevotesNew_73 (N g H T : Nat) (x0 : Option Nat) (x1 : Option Nat) (S : cS) : Int32 × cS := (KF_X7_prevotesNew_78 N g H T x0 x1 (nI 1) S)
def KO_X7_prevotesNew_73 (N g H T : Nat) (x0 : Option Nat) (x1 : Option Nat) (S : cS) : Prop := KO_X7_prevotesNew_78 N g H T x0 x1 (nI 1) S
set_option maxRecDepth 100000 in
set_option maxHeartbeats 4000000 in
theorem kb_X7_prevotesNew_73 {G : zG} {o : cO} {u g H T N : Nat} {S : cS} {S0 : cS} {Q : Option Value → cS → Prop} {X : Int32 × cS → Prop} (hG : zOK G) (hR : ∀ v S', St u g H T S' → Mono S0 S' → X (v, S') → Q (some (.int v)) S') {x0 : Option Nat} {x1 : Option Nat} (hS : St u g H T S) (hM : Mono S0 S) (t_x0 : tN g H x0) (t_x1 : tK S 5 x1) (ok : KO_X7_prevotesNew_73 N g H T x0 x1 S) (hx : X (KF_X7_prevotesNew_73 N g H T x0 x1 S)) : cX G o dX7_prevotesNew mX7_prevotesNew 73 [some (va_rf x0), some (va_rf x1), none] [] S Q := by
  unfold KO_X7_prevotesNew_73 at ok
  unfold KF_X7_prevotesNew_73 at hx
  refine c_iconst (v := nI 1) dX7_prevotesNew_73 (by decide) ?_
  refine c_goto (tgt := 78) dX7_prevotesNew_74 (by decide) ?_
  exact cX.cutz (kb_X7_prevotesNew_78 hG hR hS hM t_x0 t_x1 ok hx) ⟨rfl, rfl, trivial⟩
def KF_X7_prevotesNew_52 (N g H T : Nat) (x0 : Option Nat) (x1 : Option Nat) (s0 : Int32) (S : cS) : Int32 × cS := (if s0 = 0 then (KF_X7_prevotesNew_77 N g H T x0 x1 S) else (if (cR S 14 (za x0)) = none then (KF_X7_prevotesNew_73 N g H T x0 x1 S) else (if (k_X5_isFor N g H T S (za (cR S 14 (za x0))) x1) = 0 then (KF_X7_prevotesNew_77 N g H T x0 x1 S) else (KF_X7_prevotesNew_73 N g H T x0 x1 S))))
def KO_X7_prevotesNew_52 (N g H T : Nat) (x0 : Option Nat) (x1 : Option Nat) (s0 : Int32) (S : cS) : Prop := ((s0 = 0 → KO_X7_prevotesNew_77 N g H T x0 x1 S) ∧ (¬ s0 = 0 → (¬ x0 = none) ∧ (((cR S 14 (za x0)) = none → KO_X7_prevotesNew_73 N g H T x0 x1 S) ∧ (¬ (cR S 14 (za x0)) = none → (p_X5_isFor N g H T S (za (cR S 14 (za x0))) x1) ∧ (((k_X5_isFor N g H T S (za (cR S 14 (za x0))) x1) = 0 → KO_X7_prevotesNew_77 N g H T x0 x1 S) ∧ (¬ (k_X5_isFor N g H T S (za (cR S 14 (za x0))) x1) = 0 → KO_X7_prevotesNew_73 N g H T x0 x1 S))))))
set_option maxRecDepth 100000 in
set_option maxHeartbeats 4000000 in
theorem kb_X7_prevotesNew_52 {G : zG} {o : cO} {u g H T N : Nat} {S : cS} {S0 : cS} {Q : Option Value → cS → Prop} {X : Int32 × cS → Prop} (hG : zOK G) (hR : ∀ v S', St u g H T S' → Mono S0 S' → X (v, S') → Q (some (.int v)) S') {x0 : Option Nat} {x1 : Option Nat} {s0 : Int32} (hS : St u g H T S) (hM : Mono S0 S) (t_x0 : tN g H x0) (t_x1 : tK S 5 x1) (ok : KO_X7_prevotesNew_52 N g H T x0 x1 s0 S) (hx : X (KF_X7_prevotesNew_52 N g H T x0 x1 s0 S)) : cX G o dX7_prevotesNew mX7_prevotesNew 52 [some (va_rf x0), some (va_rf x1), none] [.int s0] S Q := by
  unfold KO_X7_prevotesNew_52 at ok
  unfold KF_X7_prevotesNew_52 at hx
  refine c_if_eq (tgt := 77) dX7_prevotesNew_52 (by decide) (fun c_52 => ?_) (fun c_52 => ?_)
  · have ok := ok.1 c_52
    have hx := xif_p c_52 hx
    exact cX.cutz (kb_X7_prevotesNew_77 hG hR hS hM t_x0 t_x1 ok hx) ⟨rfl, rfl, trivial⟩
  · have ok := ok.2 c_52
    have hx := xif_n c_52 hx
    refine c_aload_nQ dX7_prevotesNew_55 rfl rfl ?_
    have nn_56 := ok.1
    have p_56 := hS.lk (tN.o t_x0 ok.1) (Or.inl rfl)
    refine c_getR (C := RX6) (T := TX6) (N := 19) (ci := 5) (k := 14) ⟨rfl, inT6, by decide, fX7_223⟩ (by decide) (by decide) (by decide) dX7_prevotesNew_56 (hS.kN t_x0 ok.1) ?_
    have ok := ok.2
    refine c_ifnullI (tgt := 73) dX7_prevotesNew_59 (by decide) (fun c_59 => ?_) (fun c_59 => ?_)
    · have ok := ok.1 c_59
      have hx := xif_p c_59 hx
      exact cX.cutz (kb_X7_prevotesNew_73 hG hR hS hM t_x0 t_x1 ok hx) ⟨rfl, rfl, trivial⟩
    · have ok := ok.2 c_59
      have hx := xif_n c_59 hx
      refine c_aload_nQ dX7_prevotesNew_62 rfl rfl ?_
      have p_63 := hS.lk (tN.o t_x0 nn_56) (Or.inl rfl)
      refine c_getR (C := RX6) (T := TX6) (N := 19) (ci := 5) (k := 14) ⟨rfl, inT6, by decide, fX7_223⟩ (by decide) (by decide) (by decide) dX7_prevotesNew_63 (hS.kN t_x0 nn_56) ?_
      refine c_aload_nQ dX7_prevotesNew_66 rfl rfl ?_
      refine c_V1iE (ci := 4) (rr := (RX5, TX5, 7)) (y' := mX5_isFor) dX7_prevotesNew_67 lX7_227 kX5_isFor ⟨by decide, by decide⟩ rfl rfl (by decide) (tK.cis p_63 c_59) (Nat.le_of_ble_eq_true rfl) (kc_X5_isFor hG hS (p_63 _ (za_of c_59)) t_x1 ok.1) ?_
      have ok := ok.2
      refine c_if_eq (tgt := 77) dX7_prevotesNew_70 (by decide) (fun c_70 => ?_) (fun c_70 => ?_)
      · have ok := ok.1 c_70
        have hx := xif_p c_70 hx
        exact cX.cutz (kb_X7_prevotesNew_77 hG hR hS hM t_x0 t_x1 ok hx) ⟨rfl, rfl, trivial⟩
      · have ok := ok.2 c_70
        have hx := xif_n c_70 hx
        exact cX.cutz (kb_X7_prevotesNew_73 hG hR hS hM t_x0 t_x1 ok hx) ⟨rfl, rfl, trivial⟩
def KF_X7_prevotesNew_42 (N g H T : Nat)  (S : cS) : Int32 × cS := ((nI 0), S)
def KO_X7_prevotesNew_42 (N g H T : Nat)  (S : cS) : Prop := True
set_option maxRecDepth 100000 in
set_option maxHeartbeats 4000000 in
theorem kb_X7_prevotesNew_42 {G : zG} {o : cO} {u g H T N : Nat} {S : cS} {S0 : cS} {Q : Option Value → cS → Prop} {X : Int32 × cS → Prop} (hG : zOK G) (hR : ∀ v S', St u g H T S' → Mono S0 S' → X (v, S') → Q (some (.int v)) S') (hS : St u g H T S) (hM : Mono S0 S) (ok : KO_X7_prevotesNew_42 N g H T S) (hx : X (KF_X7_prevotesNew_42 N g H T S)) : cX G o dX7_prevotesNew mX7_prevotesNew 42 [none, none, none] [] S Q := by
  unfold KO_X7_prevotesNew_42 at ok
  unfold KF_X7_prevotesNew_42 at hx
  refine c_iconst (v := nI 0) dX7_prevotesNew_42 (by decide) ?_
  exact c_ireturn rfl rfl dX7_prevotesNew_43 (hR _ _ hS hM hx)
def KF_X7_prevotesNew_26 (N g H T : Nat) (x0 : Option Nat) (s0 : Option Nat) (S : cS) : Int32 × cS := (if s0 = none then (KF_X7_prevotesNew_42 N g H T S) else (if (k_X5_at N g H T S (za s0) (nI 5)) = (nI 255) then (KF_X7_prevotesNew_52 N g H T x0 s0 ((k_X7_approves N g H T S x0 (cI S 10 (za x0))).1) (k_X7_approves N g H T S x0 (cI S 10 (za x0))).2) else (KF_X7_prevotesNew_42 N g H T S)))
def KO_X7_prevotesNew_26 (N g H T : Nat) (x0 : Option Nat) (s0 : Option Nat) (S : cS) : Prop := ((s0 = none → KO_X7_prevotesNew_42 N g H T S) ∧ (¬ s0 = none → (p_X5_at N g H T S (za s0) (nI 5)) ∧ (((k_X5_at N g H T S (za s0) (nI 5)) = (nI 255) → (¬ x0 = none) ∧ (p_X7_approves N g H T S x0 (cI S 10 (za x0))) ∧ KO_X7_prevotesNew_52 N g H T x0 s0 ((k_X7_approves N g H T S x0 (cI S 10 (za x0))).1) (k_X7_approves N g H T S x0 (cI S 10 (za x0))).2) ∧ (¬ (k_X5_at N g H T S (za s0) (nI 5)) = (nI 255) → KO_X7_prevotesNew_42 N g H T S))))
set_option maxRecDepth 100000 in
set_option maxHeartbeats 4000000 in
theorem kb_X7_prevotesNew_26 {G : zG} {o : cO} {u g H T N : Nat} {S : cS} {S0 : cS} {Q : Option Value → cS → Prop} {X : Int32 × cS → Prop} (hG : zOK G) (hR : ∀ v S', St u g H T S' → Mono S0 S' → X (v, S') → Q (some (.int v)) S') {x0 : Option Nat} {s0 : Option Nat} (hS : St u g H T S) (hM : Mono S0 S) (t_x0 : tN g H x0) (t_s0 : tK S 5 s0) (ok : KO_X7_prevotesNew_26 N g H T x0 s0 S) (hx : X (KF_X7_prevotesNew_26 N g H T x0 s0 S)) : cX G o dX7_prevotesNew mX7_prevotesNew 26 [some (va_rf x0), none, none] [va_rf s0] S Q := by
  unfold KO_X7_prevotesNew_26 at ok
  unfold KF_X7_prevotesNew_26 at hx
  refine c_astore_1Q dX7_prevotesNew_26 (by decide) (by simp [zok, zg, zcat_rf]) ?_
  refine c_aload_nQ dX7_prevotesNew_27 rfl rfl ?_
  refine c_ifnullI (tgt := 42) dX7_prevotesNew_28 (by decide) (fun c_28 => ?_) (fun c_28 => ?_)
  · have ok := ok.1 c_28
    have hx := xif_p c_28 hx
    exact cX.cutz (kb_X7_prevotesNew_42 hG hR hS hM  ok hx) trivial
  · have ok := ok.2 c_28
    have hx := xif_n c_28 hx
    refine c_aload_nQ dX7_prevotesNew_31 rfl rfl ?_
    refine c_iconst (v := nI 5) dX7_prevotesNew_32 (by decide) ?_
    refine c_V1iE (ci := 4) (rr := (RX5, TX5, 7)) (y' := mX5_at) dX7_prevotesNew_33 lX7_202 kX5_at ⟨by decide, by decide⟩ rfl rfl (by decide) (tK.cis t_s0 c_28) (Nat.le_of_ble_eq_true rfl) (kc_X5_at hG hS (t_s0 _ (za_of c_28)) ok.1) ?_
    have ok := ok.2
    refine c_sipush (v := nI 255) dX7_prevotesNew_36 (by decide) ?_
    refine c_icmp_eq (tgt := 44) dX7_prevotesNew_39 (by decide) (fun c_39 => ?_) (fun c_39 => ?_)
    · have ok := ok.1 c_39
      have hx := xif_p c_39 hx
      refine c_aload_nQ dX7_prevotesNew_44 rfl rfl ?_
      refine c_aload_nQ dX7_prevotesNew_45 rfl rfl ?_
      have nn_46 := ok.1
      refine c_getI (C := RX6) (T := TX6) (N := 19) (ci := 5) (k := 10) ⟨rfl, inT6, by decide, fX7_213⟩ (by decide) (by decide) (by decide) dX7_prevotesNew_46 (hS.kN t_x0 ok.1) ?_
      have ok := ok.2
      refine c_S2iK (y' := mX7_approves) dX7_prevotesNew_49 lX7_183 kX7_approves ⟨by decide, by decide⟩ (Nat.le_of_ble_eq_true rfl) (kc_X7_approves hG hS t_x0 ok.1) (fun ⟨hS, hm_49⟩ => ?_)
      have hM := hM.trans hm_49
      have ok := ok.2
      exact cX.cutz (kb_X7_prevotesNew_52 hG hR hS hM t_x0 (hm_49.tK t_s0 (by decide)) ok hx) ⟨rfl, rfl, trivial⟩
    · have ok := ok.2 c_39
      have hx := xif_n c_39 hx
      exact cX.cutz (kb_X7_prevotesNew_42 hG hR hS hM  ok hx) trivial
def KF_X7_prevotesNew_0 (N g H T : Nat) (x0 : Option Nat) (S : cS) : Int32 × cS := (if (cI S 11 (za x0)) = 0 then (KF_X7_prevotesNew_26 N g H T x0 (k_X8_proposal N g H T S ((za x0) + 14) (cI S 9 (za x0)) (cI S 10 (za x0))) S) else (KF_X7_prevotesNew_26 N g H T x0 (none : Option Nat) S))
def KO_X7_prevotesNew_0 (N g H T : Nat) (x0 : Option Nat) (S : cS) : Prop := (¬ x0 = none) ∧ (((cI S 11 (za x0)) = 0 → (p_X8_proposal N g H T S ((za x0) + 14) (cI S 9 (za x0)) (cI S 10 (za x0))) ∧ KO_X7_prevotesNew_26 N g H T x0 (k_X8_proposal N g H T S ((za x0) + 14) (cI S 9 (za x0)) (cI S 10 (za x0))) S) ∧ (¬ (cI S 11 (za x0)) = 0 → KO_X7_prevotesNew_26 N g H T x0 (none : Option Nat) S))
set_option maxRecDepth 100000 in
set_option maxHeartbeats 4000000 in
theorem kb_X7_prevotesNew_0 {G : zG} {o : cO} {u g H T N : Nat} {S : cS} {S0 : cS} {Q : Option Value → cS → Prop} {X : Int32 × cS → Prop} (hG : zOK G) (hR : ∀ v S', St u g H T S' → Mono S0 S' → X (v, S') → Q (some (.int v)) S') {x0 : Option Nat} (hS : St u g H T S) (hM : Mono S0 S) (t_x0 : tN g H x0) (ok : KO_X7_prevotesNew_0 N g H T x0 S) (hx : X (KF_X7_prevotesNew_0 N g H T x0 S)) : cX G o dX7_prevotesNew mX7_prevotesNew 0 [some (va_rf x0), none, none] [] S Q := by
  unfold KO_X7_prevotesNew_0 at ok
  unfold KF_X7_prevotesNew_0 at hx
  refine c_aload_nQ dX7_prevotesNew_0 rfl rfl ?_
  have nn_1 := ok.1
  refine c_getI (C := RX6) (T := TX6) (N := 19) (ci := 5) (k := 11) ⟨rfl, inT6, by decide, fX7_220⟩ (by decide) (by decide) (by decide) dX7_prevotesNew_1 (hS.kN t_x0 ok.1) ?_
  have ok := ok.2
  refine c_if_ne (tgt := 25) dX7_prevotesNew_4 (by decide) (fun c_4 => ?_) (fun c_4 => ?_)
  · have ok := ok.2 c_4
    have hx := xif_n c_4 hx
    refine c_null' dX7_prevotesNew_25 ?_
    exact cX.cutz (kb_X7_prevotesNew_26 hG hR hS hM t_x0 tK_none ok hx) ⟨rfl, trivial⟩
  · have ok := ok.1 c_4
    have hx := xif_p c_4 hx
    refine c_aload_nQ dX7_prevotesNew_7 rfl rfl ?_
    refine c_getS (C := RX6) (T := TX6) (N := 19) (ci := 5) (k := 3) ⟨rfl, inT6, by decide, fX7_80⟩ (by decide) (by decide) (by decide) dX7_prevotesNew_8 (hS.kN t_x0 nn_1) (hS.r (c := 5) (tN.o t_x0 nn_1) rfl (by omega)) ?_
    refine c_aload_nQ dX7_prevotesNew_11 rfl rfl ?_
    refine c_getI (C := RX6) (T := TX6) (N := 19) (ci := 5) (k := 9) ⟨rfl, inT6, by decide, fX7_18⟩ (by decide) (by decide) (by decide) dX7_prevotesNew_12 (hS.kN t_x0 nn_1) ?_
    refine c_aload_nQ dX7_prevotesNew_15 rfl rfl ?_
    refine c_getI (C := RX6) (T := TX6) (N := 19) (ci := 5) (k := 10) ⟨rfl, inT6, by decide, fX7_213⟩ (by decide) (by decide) (by decide) dX7_prevotesNew_16 (hS.kN t_x0 nn_1) ?_
    refine c_V2qK (ci := 6) (rr := (RX8, TX8, 14)) (y' := mX8_proposal) dX7_prevotesNew_19 lX7_172 kX8_proposal ⟨by decide, by decide⟩ rfl rfl (by decide) (hS.k (o53 (tN.o t_x0 nn_1))) (Nat.le_of_ble_eq_true rfl) (kc_X8_proposal hG hS (o53 (tN.o t_x0 nn_1)) ok.1) (fun tv_19 => ?_)
    have ok := ok.2
    refine c_goto (tgt := 26) dX7_prevotesNew_22 (by decide) ?_
    exact cX.cutz (kb_X7_prevotesNew_26 hG hR hS hM t_x0 tv_19 ok hx) ⟨rfl, trivial⟩
def k_X7_prevotesNew (N g H T : Nat) (S : cS) (x0 : Option Nat) : Int32 × cS := KF_X7_prevotesNew_0 N g H T x0 S
def p_X7_prevotesNew (N g H T : Nat) (S : cS) (x0 : Option Nat) : Prop := KO_X7_prevotesNew_0 N g H T x0 S
set_option maxRecDepth 100000 in
set_option maxHeartbeats 4000000 in
theorem kc_X7_prevotesNew {G : zG} {o : cO} {u g H T N : Nat} {S : cS} (hG : zOK G) {x0 : Option Nat} (hS : St u g H T S) (t_x0 : tN g H x0) (ok : p_X7_prevotesNew N g H T S x0) : cCi G o dX7_prevotesNew mX7_prevotesNew [va_rf x0] S (fun v S' => (v = (k_X7_prevotesNew N g H T S x0).1 ∧ S' = (k_X7_prevotesNew N g H T S x0).2) ∧ St u g H T S' ∧ Mono S S') := by
  refine cC.ofX rfl (by cases x0 <;> exact Nat.le_of_ble_eq_true rfl) ?_
  rw [show zargs mX7_prevotesNew.2.2.1 [va_rf x0] = [some (va_rf x0), none, none] from by cases x0 <;> rfl]
  exact cX.cutz (kb_X7_prevotesNew_0 (X := fun F => F = k_X7_prevotesNew N g H T S x0) hG (fun v S' h1 h2 h => ⟨v, rfl, ⟨by rw [← h], by rw [← h]⟩, h1, h2⟩) hS Mono.rfl' t_x0 ok rfl) ⟨rfl, trivial⟩

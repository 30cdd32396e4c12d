/-! X6_fall -/
def KF_X6_fall_54 (N g H T : Nat) (x0 : Option Nat) (S : cS) : cS := (k_X8_clearRest N g H T S ((za x0) + 14))
def KO_X6_fall_54 (N g H T : Nat) (x0 : Option Nat) (S : cS) : Prop := (¬ x0 = none) ∧ (p_X8_clearRest N g H T S ((za x0) + 14)) ∧ True
set_option maxRecDepth 100000 in
set_option maxHeartbeats 4000000 in
theorem kb_X6_fall_54 {G : zG} {o : cO} {u g H T N : Nat} {S : cS} {S0 : cS} {Q : Option Value → cS → Prop} {X : cS → Prop} (hG : zOK G) (hR : ∀ S', St u g H T S' → Mono S0 S' → X S' → Q none S') {x0 : Option Nat} (hS : St u g H T S) (hM : Mono S0 S) (t_x0 : tN g H x0) (ok : KO_X6_fall_54 N g H T x0 S) (hx : X (KF_X6_fall_54 N g H T x0 S)) : cX G o dX6_fall mX6_fall 54 [some (va_rf x0)] [] S Q := by
  unfold KO_X6_fall_54 at ok
  unfold KF_X6_fall_54 at hx
  refine c_aload_nQ dX6_fall_54 rfl rfl ?_
  have nn_55 := ok.1
  refine c_getS (C := RX6) (T := TX6) (N := 19) (ci := 5) (k := 3) ⟨rfl, inT6, by decide, fX6_77⟩ (by decide) (by decide) (by decide) dX6_fall_55 (hS.kN t_x0 ok.1) (hS.r (c := 5) (tN.o t_x0 ok.1) rfl (by omega)) ?_
  have ok := ok.2
  refine c_V0vK (ci := 6) (rr := (RX8, TX8, 14)) (y' := mX8_clearRest) dX6_fall_58 lX6_102 kX8_clearRest ⟨by decide, by decide⟩ rfl rfl (by decide) (hS.k (o53 (tN.o t_x0 nn_55))) (Nat.le_of_ble_eq_true rfl) (kc_X8_clearRest hG hS (o53 (tN.o t_x0 nn_55)) ok.1) (fun ⟨hS, hm_58⟩ => ?_)
  have hM := hM.trans hm_58
  have ok := ok.2
  exact c_return rfl dX6_fall_61 (hR _ hS hM hx)
def KF_X6_fall_47 (N g H T : Nat) (x0 : Option Nat) (S : cS) : cS := (KF_X6_fall_54 N g H T x0 (k_X8_clearDecided N g H T S ((za x0) + 14)))
def KO_X6_fall_47 (N g H T : Nat) (x0 : Option Nat) (S : cS) : Prop := (¬ x0 = none) ∧ (p_X8_clearDecided N g H T S ((za x0) + 14)) ∧ KO_X6_fall_54 N g H T x0 (k_X8_clearDecided N g H T S ((za x0) + 14))
set_option maxRecDepth 100000 in
set_option maxHeartbeats 4000000 in
theorem kb_X6_fall_47 {G : zG} {o : cO} {u g H T N : Nat} {S : cS} {S0 : cS} {Q : Option Value → cS → Prop} {X : cS → Prop} (hG : zOK G) (hR : ∀ S', St u g H T S' → Mono S0 S' → X S' → Q none S') {x0 : Option Nat} (hS : St u g H T S) (hM : Mono S0 S) (t_x0 : tN g H x0) (ok : KO_X6_fall_47 N g H T x0 S) (hx : X (KF_X6_fall_47 N g H T x0 S)) : cX G o dX6_fall mX6_fall 47 [some (va_rf x0)] [] S Q := by
  unfold KO_X6_fall_47 at ok
  unfold KF_X6_fall_47 at hx
  refine c_aload_nQ dX6_fall_47 rfl rfl ?_
  have nn_48 := ok.1
  refine c_getS (C := RX6) (T := TX6) (N := 19) (ci := 5) (k := 3) ⟨rfl, inT6, by decide, fX6_77⟩ (by decide) (by decide) (by decide) dX6_fall_48 (hS.kN t_x0 ok.1) (hS.r (c := 5) (tN.o t_x0 ok.1) rfl (by omega)) ?_
  have ok := ok.2
  refine c_V0vK (ci := 6) (rr := (RX8, TX8, 14)) (y' := mX8_clearDecided) dX6_fall_51 lX6_99 kX8_clearDecided ⟨by decide, by decide⟩ rfl rfl (by decide) (hS.k (o53 (tN.o t_x0 nn_48))) (Nat.le_of_ble_eq_true rfl) (kc_X8_clearDecided hG hS (o53 (tN.o t_x0 nn_48)) ok.1) (fun ⟨hS, hm_51⟩ => ?_)
  have hM := hM.trans hm_51
  have ok := ok.2
  exact cX.cutz (kb_X6_fall_54 hG hR hS hM t_x0 ok hx) ⟨rfl, trivial⟩
def KF_X6_fall_33 (N g H T : Nat) (x0 : Option Nat) (S : cS) : cS := (KF_X6_fall_47 N g H T x0 (k_X8_clear N g H T S ((za x0) + 14) ((cI S 9 (za x0)) + (nI 1)) (-1)))
def KO_X6_fall_33 (N g H T : Nat) (x0 : Option Nat) (S : cS) : Prop := (¬ x0 = none) ∧ (p_X8_clear N g H T S ((za x0) + 14) ((cI S 9 (za x0)) + (nI 1)) (-1)) ∧ KO_X6_fall_47 N g H T x0 (k_X8_clear N g H T S ((za x0) + 14) ((cI S 9 (za x0)) + (nI 1)) (-1))
set_option maxRecDepth 100000 in
set_option maxHeartbeats 4000000 in
theorem kb_X6_fall_33 {G : zG} {o : cO} {u g H T N : Nat} {S : cS} {S0 : cS} {Q : Option Value → cS → Prop} {X : cS → Prop} (hG : zOK G) (hR : ∀ S', St u g H T S' → Mono S0 S' → X S' → Q none S') {x0 : Option Nat} (hS : St u g H T S) (hM : Mono S0 S) (t_x0 : tN g H x0) (ok : KO_X6_fall_33 N g H T x0 S) (hx : X (KF_X6_fall_33 N g H T x0 S)) : cX G o dX6_fall mX6_fall 33 [some (va_rf x0)] [] S Q := by
  unfold KO_X6_fall_33 at ok
  unfold KF_X6_fall_33 at hx
  refine c_aload_nQ dX6_fall_33 rfl rfl ?_
  have nn_34 := ok.1
  refine c_getS (C := RX6) (T := TX6) (N := 19) (ci := 5) (k := 3) ⟨rfl, inT6, by decide, fX6_77⟩ (by decide) (by decide) (by decide) dX6_fall_34 (hS.kN t_x0 ok.1) (hS.r (c := 5) (tN.o t_x0 ok.1) rfl (by omega)) ?_
  have ok := ok.2
  refine c_aload_nQ dX6_fall_37 rfl rfl ?_
  refine c_getI (C := RX6) (T := TX6) (N := 19) (ci := 5) (k := 9) ⟨rfl, inT6, by decide, fX6_43⟩ (by decide) (by decide) (by decide) dX6_fall_38 (hS.kN t_x0 nn_34) ?_
  refine c_iconst (v := nI 1) dX6_fall_41 (by decide) ?_
  refine c_iadd dX6_fall_42 ?_
  refine c_iconst (v := -1) dX6_fall_43 (by decide) ?_
  refine c_V2vK (ci := 6) (rr := (RX8, TX8, 14)) (y' := mX8_clear) dX6_fall_44 lX6_95 kX8_clear ⟨by decide, by decide⟩ rfl rfl (by decide) (hS.k (o53 (tN.o t_x0 nn_34))) (Nat.le_of_ble_eq_true rfl) (kc_X8_clear hG hS (o53 (tN.o t_x0 nn_34)) ok.1) (fun ⟨hS, hm_44⟩ => ?_)
  have hM := hM.trans hm_44
  have ok := ok.2
  exact cX.cutz (kb_X6_fall_47 hG hR hS hM t_x0 ok hx) ⟨rfl, trivial⟩
def KF_X6_fall_18 (N g H T : Nat) (x0 : Option Nat) (S : cS) : cS := (KF_X6_fall_33 N g H T x0 (k_X8_clear N g H T S ((za x0) + 14) (cI S 9 (za x0)) (cI S 1 (za x0))))
def KO_X6_fall_18 (N g H T : Nat) (x0 : Option Nat) (S : cS) : Prop := (¬ x0 = none) ∧ (p_X8_clear N g H T S ((za x0) + 14) (cI S 9 (za x0)) (cI S 1 (za x0))) ∧ KO_X6_fall_33 N g H T x0 (k_X8_clear N g H T S ((za x0) + 14) (cI S 9 (za x0)) (cI S 1 (za x0)))
set_option maxRecDepth 100000 in
set_option maxHeartbeats 4000000 in
theorem kb_X6_fall_18 {G : zG} {o : cO} {u g H T N : Nat} {S : cS} {S0 : cS} {Q : Option Value → cS → Prop} {X : cS → Prop} (hG : zOK G) (hR : ∀ S', St u g H T S' → Mono S0 S' → X S' → Q none S') {x0 : Option Nat} (hS : St u g H T S) (hM : Mono S0 S) (t_x0 : tN g H x0) (ok : KO_X6_fall_18 N g H T x0 S) (hx : X (KF_X6_fall_18 N g H T x0 S)) : cX G o dX6_fall mX6_fall 18 [some (va_rf x0)] [] S Q := by
  unfold KO_X6_fall_18 at ok
  unfold KF_X6_fall_18 at hx
  refine c_aload_nQ dX6_fall_18 rfl rfl ?_
  have nn_19 := ok.1
  refine c_getS (C := RX6) (T := TX6) (N := 19) (ci := 5) (k := 3) ⟨rfl, inT6, by decide, fX6_77⟩ (by decide) (by decide) (by decide) dX6_fall_19 (hS.kN t_x0 ok.1) (hS.r (c := 5) (tN.o t_x0 ok.1) rfl (by omega)) ?_
  have ok := ok.2
  refine c_aload_nQ dX6_fall_22 rfl rfl ?_
  refine c_getI (C := RX6) (T := TX6) (N := 19) (ci := 5) (k := 9) ⟨rfl, inT6, by decide, fX6_43⟩ (by decide) (by decide) (by decide) dX6_fall_23 (hS.kN t_x0 nn_19) ?_
  refine c_aload_nQ dX6_fall_26 rfl rfl ?_
  refine c_getI (C := RX6) (T := TX6) (N := 19) (ci := 5) (k := 1) ⟨rfl, inT6, by decide, fX6_60⟩ (by decide) (by decide) (by decide) dX6_fall_27 (hS.kN t_x0 nn_19) ?_
  refine c_V2vK (ci := 6) (rr := (RX8, TX8, 14)) (y' := mX8_clear) dX6_fall_30 lX6_95 kX8_clear ⟨by decide, by decide⟩ rfl rfl (by decide) (hS.k (o53 (tN.o t_x0 nn_19))) (Nat.le_of_ble_eq_true rfl) (kc_X8_clear hG hS (o53 (tN.o t_x0 nn_19)) ok.1) (fun ⟨hS, hm_30⟩ => ?_)
  have hM := hM.trans hm_30
  have ok := ok.2
  exact cX.cutz (kb_X6_fall_33 hG hR hS hM t_x0 ok hx) ⟨rfl, trivial⟩
def KF_X6_fall_10 (N g H T : Nat) (x0 : Option Nat) (S : cS) : cS := (KF_X6_fall_18 N g H T x0 (k_J7_fill_53178 N g H T S (some ((za x0) + 12)) (nI 0)))
def KO_X6_fall_10 (N g H T : Nat) (x0 : Option Nat) (S : cS) : Prop := (¬ x0 = none) ∧ (p_J7_fill_53178 N g H T S (some ((za x0) + 12)) (nI 0)) ∧ KO_X6_fall_18 N g H T x0 (k_J7_fill_53178 N g H T S (some ((za x0) + 12)) (nI 0))
set_option maxRecDepth 100000 in
set_option maxHeartbeats 4000000 in
theorem kb_X6_fall_10 {G : zG} {o : cO} {u g H T N : Nat} {S : cS} {S0 : cS} {Q : Option Value → cS → Prop} {X : cS → Prop} (hG : zOK G) (hR : ∀ S', St u g H T S' → Mono S0 S' → X S' → Q none S') {x0 : Option Nat} (hS : St u g H T S) (hM : Mono S0 S) (t_x0 : tN g H x0) (ok : KO_X6_fall_10 N g H T x0 S) (hx : X (KF_X6_fall_10 N g H T x0 S)) : cX G o dX6_fall mX6_fall 10 [some (va_rf x0)] [] S Q := by
  unfold KO_X6_fall_10 at ok
  unfold KF_X6_fall_10 at hx
  refine c_aload_nQ dX6_fall_10 rfl rfl ?_
  have nn_11 := ok.1
  refine c_getS (C := RX6) (T := TX6) (N := 19) (ci := 5) (k := 6) ⟨rfl, inT6, by decide, fX6_29⟩ (by decide) (by decide) (by decide) dX6_fall_11 (hS.kN t_x0 ok.1) (hS.r (c := 5) (tN.o t_x0 ok.1) rfl (by omega)) ?_
  have ok := ok.2
  refine c_iconst (v := nI 0) dX6_fall_14 (by decide) ?_
  refine c_S2vK (y' := mJ7_fill_53178) dX6_fall_15 lX6_89 kJ7_fill_53178 ⟨by decide, by decide⟩ (Nat.le_of_ble_eq_true rfl) (kc_J7_fill_53178 hG hS (hS.rk (c := 5) (k := 6) (tN.o t_x0 nn_11) rfl (by omega)) ok.1) (fun ⟨hS, hm_15⟩ => ?_)
  have hM := hM.trans hm_15
  have ok := ok.2
  exact cX.cutz (kb_X6_fall_18 hG hR hS hM t_x0 ok hx) ⟨rfl, trivial⟩
def KF_X6_fall_0 (N g H T : Nat) (x0 : Option Nat) (S : cS) : cS := (KF_X6_fall_10 N g H T x0 (csI (csI S 8 (za x0) (nI 0)) 18 (za x0) (-1)))
def KO_X6_fall_0 (N g H T : Nat) (x0 : Option Nat) (S : cS) : Prop := (¬ x0 = none) ∧ KO_X6_fall_10 N g H T x0 (csI (csI S 8 (za x0) (nI 0)) 18 (za x0) (-1))
set_option maxRecDepth 100000 in
set_option maxHeartbeats 4000000 in
theorem kb_X6_fall_0 {G : zG} {o : cO} {u g H T N : Nat} {S : cS} {S0 : cS} {Q : Option Value → cS → Prop} {X : cS → Prop} (hG : zOK G) (hR : ∀ S', St u g H T S' → Mono S0 S' → X S' → Q none S') {x0 : Option Nat} (hS : St u g H T S) (hM : Mono S0 S) (t_x0 : tN g H x0) (ok : KO_X6_fall_0 N g H T x0 S) (hx : X (KF_X6_fall_0 N g H T x0 S)) : cX G o dX6_fall mX6_fall 0 [some (va_rf x0)] [] S Q := by
  unfold KO_X6_fall_0 at ok
  unfold KF_X6_fall_0 at hx
  refine c_aload_nQ dX6_fall_0 rfl rfl ?_
  refine c_iconst (v := nI 0) dX6_fall_1 (by decide) ?_
  have nn_2 := ok.1
  refine c_putI (C := RX6) (T := TX6) (N := 19) (ci := 5) (k := 8) ⟨rfl, inT6, by decide, fX6_39⟩ ftT6 rfl (by decide) (by decide) (by decide) rfl rfl dX6_fall_2 (hS.kN t_x0 ok.1) ?_
  have hS := hS.I 8 (za x0) (nI 0)
  have hM := hM.I 8 (za x0) (nI 0)
  have ok := ok.2
  refine c_aload_nQ dX6_fall_5 rfl rfl ?_
  refine c_iconst (v := -1) dX6_fall_6 (by decide) ?_
  refine c_putI (C := RX6) (T := TX6) (N := 19) (ci := 5) (k := 18) ⟨rfl, inT6, by decide, fX6_53⟩ ftT6 rfl (by decide) (by decide) (by decide) rfl rfl dX6_fall_7 (hS.kN t_x0 nn_2) ?_
  have hS := hS.I 18 (za x0) (-1)
  have hM := hM.I 18 (za x0) (-1)
  exact cX.cutz (kb_X6_fall_10 hG hR hS hM t_x0 ok hx) ⟨rfl, trivial⟩
def k_X6_fall (N g H T : Nat) (S : cS) (a0 : Nat) : cS := KF_X6_fall_0 N g H T (some a0) S
def p_X6_fall (N g H T : Nat) (S : cS) (a0 : Nat) : Prop := KO_X6_fall_0 N g H T (some a0) S
set_option maxRecDepth 100000 in
set_option maxHeartbeats 4000000 in
theorem kc_X6_fall {G : zG} {o : cO} {u g H T N : Nat} {S : cS} (hG : zOK G) {a0 : Nat} (hS : St u g H T S) (t_x0 : isO g H 5 a0) (ok : p_X6_fall N g H T S a0) : cCv G o dX6_fall mX6_fall [.ref a0] S (fun S' => S' = k_X6_fall N g H T S a0 ∧ St u g H T S' ∧ Mono S S') := by
  refine cC.ofX rfl (by exact Nat.le_of_ble_eq_true rfl) ?_
  show cX G o dX6_fall mX6_fall 0 [some (va_rf (some a0))] [] S _
  exact cX.cutz (kb_X6_fall_0 (X := fun F => F = k_X6_fall N g H T S a0) hG (fun S' h1 h2 h => ⟨rfl, h, h1, h2⟩) hS Mono.rfl' (tN_some t_x0) ok rfl) ⟨rfl, trivial⟩
/-! X6_wake -/
def KF_X6_wake_52 (N g H T : Nat) (x0 : Option Nat) (x1 : Option Nat) (S : cS) : cS := (k_X9_drop N g H T S (g + 11) x1)
def KO_X6_wake_52 (N g H T : Nat) (x0 : Option Nat) (x1 : Option Nat) (S : cS) : Prop := (¬ x0 = none) ∧ (p_X9_drop N g H T S (g + 11) x1) ∧ True
set_option maxRecDepth 100000 in
set_option maxHeartbeats 4000000 in
theorem kb_X6_wake_52 {G : zG} {o : cO} {u g H T N : Nat} {S : cS} {S0 : cS} {Q : Option Value → cS → Prop} {X : cS → Prop} (hG : zOK G) (hR : ∀ S', St u g H T S' → Mono S0 S' → X S' → Q none S') {x0 : Option Nat} {x1 : Option Nat} (hS : St u g H T S) (hM : Mono S0 S) (t_x0 : tN g H x0) (t_x1 : tK S 5 x1) (ok : KO_X6_wake_52 N g H T x0 x1 S) (hx : X (KF_X6_wake_52 N g H T x0 x1 S)) : cX G o dX6_wake mX6_wake 52 [some (va_rf x0), some (va_rf x1)] [] S Q := by
  unfold KO_X6_wake_52 at ok
  unfold KF_X6_wake_52 at hx
  refine c_aload_nQ dX6_wake_52 rfl rfl ?_
  have nn_53 := ok.1
  refine c_getS (C := RX6) (T := TX6) (N := 19) (ci := 5) (k := 0) ⟨rfl, inT6, by decide, fX6_56⟩ (by decide) (by decide) (by decide) dX6_wake_53 (hS.kN t_x0 ok.1) (hS.r (c := 5) (tN.o t_x0 ok.1) rfl (by omega)) ?_
  have ok := ok.2
  refine c_getS (C := RX10) (T := TX10) (N := 12) (ci := 8) (k := 6) ⟨rfl, inT10, by decide, fX6_65⟩ (by decide) (by decide) (by decide) dX6_wake_56 (hS.k (o50 (tN.o t_x0 nn_53))) (hS.r (c := 8) (o50 (tN.o t_x0 nn_53)) rfl (by omega)) ?_
  refine c_aload_nQ dX6_wake_59 rfl rfl ?_
  refine c_V1vK (ci := 7) (rr := (RX9, TX9, 13)) (y' := mX9_drop) dX6_wake_60 lX6_123 kX9_drop ⟨by decide, by decide⟩ rfl rfl (by decide) (hS.k (o86 (o50 (tN.o t_x0 nn_53)))) (Nat.le_of_ble_eq_true rfl) (kc_X9_drop hG hS (o86 (o50 (tN.o t_x0 nn_53))) t_x1 ok.1) (fun ⟨hS, hm_60⟩ => ?_)
  have hM := hM.trans hm_60
  have ok := ok.2
  exact c_return rfl dX6_wake_63 (hR _ hS hM hx)
def KF_X6_wake_31 (N g H T : Nat) (x0 : Option Nat) (s0 : Option Nat) (S : cS) : cS := (KF_X6_wake_52 N g H T x0 s0 (k_X10_spread N g H T S (g + 8) (cI S 1 (za x0)) s0 (cI S 1 (za x0)) (cI S 1 (za x0))))
def KO_X6_wake_31 (N g H T : Nat) (x0 : Option Nat) (s0 : Option Nat) (S : cS) : Prop := (¬ x0 = none) ∧ (p_X10_spread N g H T S (g + 8) (cI S 1 (za x0)) s0 (cI S 1 (za x0)) (cI S 1 (za x0))) ∧ KO_X6_wake_52 N g H T x0 s0 (k_X10_spread N g H T S (g + 8) (cI S 1 (za x0)) s0 (cI S 1 (za x0)) (cI S 1 (za x0)))
set_option maxRecDepth 100000 in
set_option maxHeartbeats 4000000 in
theorem kb_X6_wake_31 {G : zG} {o : cO} {u g H T N : Nat} {S : cS} {S0 : cS} {Q : Option Value → cS → Prop} {X : cS → Prop} (hG : zOK G) (hR : ∀ S', St u g H T S' → Mono S0 S' → X S' → Q none S') {x0 : Option Nat} {s0 : Option Nat} (hS : St u g H T S) (hM : Mono S0 S) (t_x0 : tN g H x0) (t_s0 : tK S 5 s0) (ok : KO_X6_wake_31 N g H T x0 s0 S) (hx : X (KF_X6_wake_31 N g H T x0 s0 S)) : cX G o dX6_wake mX6_wake 31 [some (va_rf x0), none] [va_rf s0] S Q := by
  unfold KO_X6_wake_31 at ok
  unfold KF_X6_wake_31 at hx
  refine c_astore_1Q dX6_wake_31 (by decide) (by simp [zok, zg, zcat_rf]) ?_
  refine c_aload_nQ dX6_wake_32 rfl rfl ?_
  have nn_33 := ok.1
  refine c_getS (C := RX6) (T := TX6) (N := 19) (ci := 5) (k := 0) ⟨rfl, inT6, by decide, fX6_56⟩ (by decide) (by decide) (by decide) dX6_wake_33 (hS.kN t_x0 ok.1) (hS.r (c := 5) (tN.o t_x0 ok.1) rfl (by omega)) ?_
  have ok := ok.2
  refine c_aload_nQ dX6_wake_36 rfl rfl ?_
  refine c_getI (C := RX6) (T := TX6) (N := 19) (ci := 5) (k := 1) ⟨rfl, inT6, by decide, fX6_60⟩ (by decide) (by decide) (by decide) dX6_wake_37 (hS.kN t_x0 nn_33) ?_
  refine c_aload_nQ dX6_wake_40 rfl rfl ?_
  refine c_aload_nQ dX6_wake_41 rfl rfl ?_
  refine c_getI (C := RX6) (T := TX6) (N := 19) (ci := 5) (k := 1) ⟨rfl, inT6, by decide, fX6_60⟩ (by decide) (by decide) (by decide) dX6_wake_42 (hS.kN t_x0 nn_33) ?_
  refine c_aload_nQ dX6_wake_45 rfl rfl ?_
  refine c_getI (C := RX6) (T := TX6) (N := 19) (ci := 5) (k := 1) ⟨rfl, inT6, by decide, fX6_60⟩ (by decide) (by decide) (by decide) dX6_wake_46 (hS.kN t_x0 nn_33) ?_
  refine c_V4vK (ci := 8) (rr := (RX10, TX10, 12)) (y' := mX10_spread) dX6_wake_49 lX6_119 kX10_spread ⟨by decide, by decide⟩ rfl rfl (by decide) (hS.k (o50 (tN.o t_x0 nn_33))) (Nat.le_of_ble_eq_true rfl) (kc_X10_spread hG hS (o50 (tN.o t_x0 nn_33)) t_s0 ok.1) (fun ⟨hS, hm_49⟩ => ?_)
  have hM := hM.trans hm_49
  have ok := ok.2
  exact cX.cutz (kb_X6_wake_52 hG hR hS hM t_x0 (hm_49.tK t_s0 (by decide)) ok hx) ⟨rfl, rfl, trivial⟩
def KF_X6_wake_27 (N g H T : Nat) (x0 : Option Nat) (S : cS) : cS := (KF_X6_wake_31 N g H T x0 ((k_X6_ask N g H T S (za x0)).1) (k_X6_ask N g H T S (za x0)).2)
def KO_X6_wake_27 (N g H T : Nat) (x0 : Option Nat) (S : cS) : Prop := (¬ x0 = none ∧ p_X6_ask N g H T S (za x0)) ∧ KO_X6_wake_31 N g H T x0 ((k_X6_ask N g H T S (za x0)).1) (k_X6_ask N g H T S (za x0)).2
set_option maxRecDepth 100000 in
set_option maxHeartbeats 4000000 in
theorem kb_X6_wake_27 {G : zG} {o : cO} {u g H T N : Nat} {S : cS} {S0 : cS} {Q : Option Value → cS → Prop} {X : cS → Prop} (hG : zOK G) (hR : ∀ S', St u g H T S' → Mono S0 S' → X S' → Q none S') {x0 : Option Nat} (hS : St u g H T S) (hM : Mono S0 S) (t_x0 : tN g H x0) (ok : KO_X6_wake_27 N g H T x0 S) (hx : X (KF_X6_wake_27 N g H T x0 S)) : cX G o dX6_wake mX6_wake 27 [some (va_rf x0), none] [] S Q := by
  unfold KO_X6_wake_27 at ok
  unfold KF_X6_wake_27 at hx
  refine c_aload_nQ dX6_wake_27 rfl rfl ?_
  have nn_28 := ok.1.1
  refine c_V0qK (ci := 5) (rr := (RX6, TX6, 19)) (y' := mX6_ask) dX6_wake_28 lX6_115 kX6_ask ⟨by decide, by decide⟩ rfl rfl (by decide) (hS.kN t_x0 nn_28) (Nat.le_of_ble_eq_true rfl) (kc_X6_ask hG hS (tN.o t_x0 nn_28) ok.1.2) (fun ⟨hS, hm_28, tv_28⟩ => ?_)
  have hM := hM.trans hm_28
  have ok := ok.2
  exact cX.cutz (kb_X6_wake_31 hG hR hS hM t_x0 tv_28 ok hx) ⟨rfl, trivial⟩
def KF_X6_wake_10 (N g H T : Nat) (x0 : Option Nat) (S : cS) : cS := (if (nI 40) < (cI S 9 (za x0)) then (KF_X6_wake_27 N g H T x0 S) else (KF_X6_wake_27 N g H T x0 (k_X6_setTimer N g H T S (za x0) (cI S 11 (za x0)))))
def KO_X6_wake_10 (N g H T : Nat) (x0 : Option Nat) (S : cS) : Prop := (¬ x0 = none) ∧ (((nI 40) < (cI S 9 (za x0)) → KO_X6_wake_27 N g H T x0 S) ∧ (¬ (nI 40) < (cI S 9 (za x0)) → (p_X6_setTimer N g H T S (za x0) (cI S 11 (za x0))) ∧ KO_X6_wake_27 N g H T x0 (k_X6_setTimer N g H T S (za x0) (cI S 11 (za x0)))))
set_option maxRecDepth 100000 in
set_option maxHeartbeats 4000000 in
theorem kb_X6_wake_10 {G : zG} {o : cO} {u g H T N : Nat} {S : cS} {S0 : cS} {Q : Option Value → cS → Prop} {X : cS → Prop} (hG : zOK G) (hR : ∀ S', St u g H T S' → Mono S0 S' → X S' → Q none S') {x0 : Option Nat} (hS : St u g H T S) (hM : Mono S0 S) (t_x0 : tN g H x0) (ok : KO_X6_wake_10 N g H T x0 S) (hx : X (KF_X6_wake_10 N g H T x0 S)) : cX G o dX6_wake mX6_wake 10 [some (va_rf x0), none] [] S Q := by
  unfold KO_X6_wake_10 at ok
  unfold KF_X6_wake_10 at hx
  refine c_aload_nQ dX6_wake_10 rfl rfl ?_
  have nn_11 := ok.1
  refine c_getI (C := RX6) (T := TX6) (N := 19) (ci := 5) (k := 9) ⟨rfl, inT6, by decide, fX6_43⟩ (by decide) (by decide) (by decide) dX6_wake_11 (hS.kN t_x0 ok.1) ?_
  have ok := ok.2
  refine c_bipush (v := nI 40) dX6_wake_14 (by decide) ?_
  refine c_icmp_gt (tgt := 27) dX6_wake_16 (by decide) (fun c_16 => ?_) (fun c_16 => ?_)
  · have ok := ok.1 c_16
    have hx := xif_p c_16 hx
    exact cX.cutz (kb_X6_wake_27 hG hR hS hM t_x0 ok hx) ⟨rfl, trivial⟩
  · have ok := ok.2 c_16
    have hx := xif_n c_16 hx
    refine c_aload_nQ dX6_wake_19 rfl rfl ?_
    refine c_aload_nQ dX6_wake_20 rfl rfl ?_
    refine c_getI (C := RX6) (T := TX6) (N := 19) (ci := 5) (k := 11) ⟨rfl, inT6, by decide, fX6_108⟩ (by decide) (by decide) (by decide) dX6_wake_21 (hS.kN t_x0 nn_11) ?_
    refine c_V1vK (ci := 5) (rr := (RX6, TX6, 19)) (y' := mX6_setTimer) dX6_wake_24 lX6_111 kX6_setTimer ⟨by decide, by decide⟩ rfl rfl (by decide) (hS.kN t_x0 nn_11) (Nat.le_of_ble_eq_true rfl) (kc_X6_setTimer hG hS (tN.o t_x0 nn_11) ok.1) (fun ⟨hS, hm_24⟩ => ?_)
    have hM := hM.trans hm_24
    have ok := ok.2
    exact cX.cutz (kb_X6_wake_27 hG hR hS hM t_x0 ok hx) ⟨rfl, trivial⟩
def KF_X6_wake_0 (N g H T : Nat) (x0 : Option Nat) (S : cS) : cS := (KF_X6_wake_10 N g H T x0 (csI (csI S 8 (za x0) (nI 1)) 16 (za x0) (nI 0)))
def KO_X6_wake_0 (N g H T : Nat) (x0 : Option Nat) (S : cS) : Prop := (¬ x0 = none) ∧ KO_X6_wake_10 N g H T x0 (csI (csI S 8 (za x0) (nI 1)) 16 (za x0) (nI 0))
set_option maxRecDepth 100000 in
set_option maxHeartbeats 4000000 in
theorem kb_X6_wake_0 {G : zG} {o : cO} {u g H T N : Nat} {S : cS} {S0 : cS} {Q : Option Value → cS → Prop} {X : cS → Prop} (hG : zOK G) (hR : ∀ S', St u g H T S' → Mono S0 S' → X S' → Q none S') {x0 : Option Nat} (hS : St u g H T S) (hM : Mono S0 S) (t_x0 : tN g H x0) (ok : KO_X6_wake_0 N g H T x0 S) (hx : X (KF_X6_wake_0 N g H T x0 S)) : cX G o dX6_wake mX6_wake 0 [some (va_rf x0), none] [] S Q := by
  unfold KO_X6_wake_0 at ok
  unfold KF_X6_wake_0 at hx
  refine c_aload_nQ dX6_wake_0 rfl rfl ?_
  refine c_iconst (v := nI 1) dX6_wake_1 (by decide) ?_
  have nn_2 := ok.1
  refine c_putI (C := RX6) (T := TX6) (N := 19) (ci := 5) (k := 8) ⟨rfl, inT6, by decide, fX6_39⟩ ftT6 rfl (by decide) (by decide) (by decide) rfl rfl dX6_wake_2 (hS.kN t_x0 ok.1) ?_
  have hS := hS.I 8 (za x0) (nI 1)
  have hM := hM.I 8 (za x0) (nI 1)
  have ok := ok.2
  refine c_aload_nQ dX6_wake_5 rfl rfl ?_
  refine c_iconst (v := nI 0) dX6_wake_6 (by decide) ?_
  refine c_putI (C := RX6) (T := TX6) (N := 19) (ci := 5) (k := 16) ⟨rfl, inT6, by decide, fX6_105⟩ ftT6 rfl (by decide) (by decide) (by decide) rfl rfl dX6_wake_7 (hS.kN t_x0 nn_2) ?_
  have hS := hS.I 16 (za x0) (nI 0)
  have hM := hM.I 16 (za x0) (nI 0)
  exact cX.cutz (kb_X6_wake_10 hG hR hS hM t_x0 ok hx) ⟨rfl, trivial⟩
def k_X6_wake (N g H T : Nat) (S : cS) (a0 : Nat) : cS := KF_X6_wake_0 N g H T (some a0) S
def p_X6_wake (N g H T : Nat) (S : cS) (a0 : Nat) : Prop := KO_X6_wake_0 N g H T (some a0) S
set_option maxRecDepth 100000 in
set_option maxHeartbeats 4000000 in
theorem kc_X6_wake {G : zG} {o : cO} {u g H T N : Nat} {S : cS} (hG : zOK G) {a0 : Nat} (hS : St u g H T S) (t_x0 : isO g H 5 a0) (ok : p_X6_wake N g H T S a0) : cCv G o dX6_wake mX6_wake [.ref a0] S (fun S' => S' = k_X6_wake N g H T S a0 ∧ St u g H T S' ∧ Mono S S') := by
  refine cC.ofX rfl (by exact Nat.le_of_ble_eq_true rfl) ?_
  show cX G o dX6_wake mX6_wake 0 [some (va_rf (some a0)), none] [] S _
  exact cX.cutz (kb_X6_wake_0 (X := fun F => F = k_X6_wake N g H T S a0) hG (fun S' h1 h2 h => ⟨rfl, h, h1, h2⟩) hS Mono.rfl' (tN_some t_x0) ok rfl) ⟨rfl, trivial⟩
/-! X6_setLocked -/
def KF_X6_setLocked_28 (N g H T : Nat) (x0 : Option Nat) (x1 : Option Nat) (x2 : Int32) (S : cS) : cS := (csI (csR S 14 (za x0) x1) 12 (za x0) x2)
def KO_X6_setLocked_28 (N g H T : Nat) (x0 : Option Nat) (x1 : Option Nat) (x2 : Int32) (S : cS) : Prop := (¬ x0 = none) ∧ True
set_option maxRecDepth 100000 in
set_option maxHeartbeats 4000000 in
theorem kb_X6_setLocked_28 {G : zG} {o : cO} {u g H T N : Nat} {S : cS} {S0 : cS} {Q : Option Value → cS → Prop} {X : cS → Prop} (hG : zOK G) (hR : ∀ S', St u g H T S' → Mono S0 S' → X S' → Q none S') {x0 : Option Nat} {x1 : Option Nat} {x2 : Int32} (hS : St u g H T S) (hM : Mono S0 S) (t_x0 : tN g H x0) (t_x1 : tK S 5 x1) (ok : KO_X6_setLocked_28 N g H T x0 x1 x2 S) (hx : X (KF_X6_setLocked_28 N g H T x0 x1 x2 S)) : cX G o dX6_setLocked mX6_setLocked 28 [some (va_rf x0), some (va_rf x1), some (.int x2)] [] S Q := by
  unfold KO_X6_setLocked_28 at ok
  unfold KF_X6_setLocked_28 at hx
  refine c_aload_nQ dX6_setLocked_28 rfl rfl ?_
  refine c_aload_nQ dX6_setLocked_29 rfl rfl ?_
  have nn_30 := ok.1
  refine c_putR (C := RX6) (T := TX6) (N := 19) (ci := 5) (k := 14) ⟨rfl, inT6, by decide, fX6_152⟩ ftT6 rfl (by decide) (by decide) (by decide) (fun v => by cases v <;> rfl) (fun v => by cases v <;> rfl) dX6_setLocked_30 (hS.kN t_x0 ok.1) ?_
  have hS := hS.R5 (tN.o t_x0 nn_30) (k := 14) (by decide) t_x1
  have hM := hM.R 14 (za x0) x1
  have ok := ok.2
  refine c_aload_nQ dX6_setLocked_33 rfl rfl ?_
  refine c_iload_n dX6_setLocked_34 rfl rfl ?_
  refine c_putI (C := RX6) (T := TX6) (N := 19) (ci := 5) (k := 12) ⟨rfl, inT6, by decide, fX6_47⟩ ftT6 rfl (by decide) (by decide) (by decide) rfl rfl dX6_setLocked_35 (hS.kN t_x0 nn_30) ?_
  have hS := hS.I 12 (za x0) x2
  have hM := hM.I 12 (za x0) x2
  exact c_return rfl dX6_setLocked_38 (hR _ hS hM hx)
def KF_X6_setLocked_14 (N g H T : Nat) (x0 : Option Nat) (x1 : Option Nat) (x2 : Int32) (S : cS) : cS := (KF_X6_setLocked_28 N g H T x0 x1 x2 (k_X9_drop N g H T S (g + 11) (cR S 14 (za x0))))
def KO_X6_setLocked_14 (N g H T : Nat) (x0 : Option Nat) (x1 : Option Nat) (x2 : Int32) (S : cS) : Prop := (¬ x0 = none) ∧ (p_X9_drop N g H T S (g + 11) (cR S 14 (za x0))) ∧ KO_X6_setLocked_28 N g H T x0 x1 x2 (k_X9_drop N g H T S (g + 11) (cR S 14 (za x0)))
set_option maxRecDepth 100000 in
set_option maxHeartbeats 4000000 in
theorem kb_X6_setLocked_14 {G : zG} {o : cO} {u g H T N : Nat} {S : cS} {S0 : cS} {Q : Option Value → cS → Prop} {X : cS → Prop} (hG : zOK G) (hR : ∀ S', St u g H T S' → Mono S0 S' → X S' → Q none S') {x0 : Option Nat} {x1 : Option Nat} {x2 : Int32} (hS : St u g H T S) (hM : Mono S0 S) (t_x0 : tN g H x0) (t_x1 : tK S 5 x1) (ok : KO_X6_setLocked_14 N g H T x0 x1 x2 S) (hx : X (KF_X6_setLocked_14 N g H T x0 x1 x2 S)) : cX G o dX6_setLocked mX6_setLocked 14 [some (va_rf x0), some (va_rf x1), some (.int x2)] [] S Q := by
  unfold KO_X6_setLocked_14 at ok
  unfold KF_X6_setLocked_14 at hx
  refine c_aload_nQ dX6_setLocked_14 rfl rfl ?_
  have nn_15 := ok.1
  refine c_getS (C := RX6) (T := TX6) (N := 19) (ci := 5) (k := 0) ⟨rfl, inT6, by decide, fX6_56⟩ (by decide) (by decide) (by decide) dX6_setLocked_15 (hS.kN t_x0 ok.1) (hS.r (c := 5) (tN.o t_x0 ok.1) rfl (by omega)) ?_
  have ok := ok.2
  refine c_getS (C := RX10) (T := TX10) (N := 12) (ci := 8) (k := 6) ⟨rfl, inT10, by decide, fX6_65⟩ (by decide) (by decide) (by decide) dX6_setLocked_18 (hS.k (o50 (tN.o t_x0 nn_15))) (hS.r (c := 8) (o50 (tN.o t_x0 nn_15)) rfl (by omega)) ?_
  refine c_aload_nQ dX6_setLocked_21 rfl rfl ?_
  have p_22 := hS.lk (tN.o t_x0 nn_15) (Or.inl rfl)
  refine c_getR (C := RX6) (T := TX6) (N := 19) (ci := 5) (k := 14) ⟨rfl, inT6, by decide, fX6_152⟩ (by decide) (by decide) (by decide) dX6_setLocked_22 (hS.kN t_x0 nn_15) ?_
  refine c_V1vK (ci := 7) (rr := (RX9, TX9, 13)) (y' := mX9_drop) dX6_setLocked_25 lX6_123 kX9_drop ⟨by decide, by decide⟩ rfl rfl (by decide) (hS.k (o86 (o50 (tN.o t_x0 nn_15)))) (Nat.le_of_ble_eq_true rfl) (kc_X9_drop hG hS (o86 (o50 (tN.o t_x0 nn_15))) p_22 ok.1) (fun ⟨hS, hm_25⟩ => ?_)
  have hM := hM.trans hm_25
  have ok := ok.2
  exact cX.cutz (kb_X6_setLocked_28 hG hR hS hM t_x0 (hm_25.tK t_x1 (by decide)) ok hx) ⟨rfl, rfl, rfl, trivial⟩
def KF_X6_setLocked_0 (N g H T : Nat) (x0 : Option Nat) (x1 : Option Nat) (x2 : Int32) (S : cS) : cS := (if x1 = none then (KF_X6_setLocked_14 N g H T x0 x1 x2 S) else (KF_X6_setLocked_14 N g H T x0 x1 x2 (csI S 3 (za x1) ((cI S 3 (za x1)) + (nI 1)))))
def KO_X6_setLocked_0 (N g H T : Nat) (x0 : Option Nat) (x1 : Option Nat) (x2 : Int32) (S : cS) : Prop := ((x1 = none → KO_X6_setLocked_14 N g H T x0 x1 x2 S) ∧ (¬ x1 = none → KO_X6_setLocked_14 N g H T x0 x1 x2 (csI S 3 (za x1) ((cI S 3 (za x1)) + (nI 1)))))
set_option maxRecDepth 100000 in
set_option maxHeartbeats 4000000 in
theorem kb_X6_setLocked_0 {G : zG} {o : cO} {u g H T N : Nat} {S : cS} {S0 : cS} {Q : Option Value → cS → Prop} {X : cS → Prop} (hG : zOK G) (hR : ∀ S', St u g H T S' → Mono S0 S' → X S' → Q none S') {x0 : Option Nat} {x1 : Option Nat} {x2 : Int32} (hS : St u g H T S) (hM : Mono S0 S) (t_x0 : tN g H x0) (t_x1 : tK S 5 x1) (ok : KO_X6_setLocked_0 N g H T x0 x1 x2 S) (hx : X (KF_X6_setLocked_0 N g H T x0 x1 x2 S)) : cX G o dX6_setLocked mX6_setLocked 0 [some (va_rf x0), some (va_rf x1), some (.int x2)] [] S Q := by
  unfold KO_X6_setLocked_0 at ok
  unfold KF_X6_setLocked_0 at hx
  refine c_aload_nQ dX6_setLocked_0 rfl rfl ?_
  refine c_ifnullI (tgt := 14) dX6_setLocked_1 (by decide) (fun c_1 => ?_) (fun c_1 => ?_)
  · have ok := ok.1 c_1
    have hx := xif_p c_1 hx
    exact cX.cutz (kb_X6_setLocked_14 hG hR hS hM t_x0 t_x1 ok hx) ⟨rfl, rfl, rfl, trivial⟩
  · have ok := ok.2 c_1
    have hx := xif_n c_1 hx
    refine c_aload_nQ dX6_setLocked_4 rfl rfl ?_
    refine c_dup dX6_setLocked_5 (zcat_rf _) ?_
    refine c_getI (C := RX5) (T := TX5) (N := 7) (ci := 4) (k := 3) ⟨rfl, inT5, by decide, fX6_149⟩ (by decide) (by decide) (by decide) dX6_setLocked_6 (tK.cis t_x1 c_1) ?_
    refine c_iconst (v := nI 1) dX6_setLocked_9 (by decide) ?_
    refine c_iadd dX6_setLocked_10 ?_
    refine c_putI (C := RX5) (T := TX5) (N := 7) (ci := 4) (k := 3) ⟨rfl, inT5, by decide, fX6_149⟩ ftT5 rfl (by decide) (by decide) (by decide) rfl rfl dX6_setLocked_11 (tK.cis t_x1 c_1) ?_
    have hS := hS.I 3 (za x1) ((cI S 3 (za x1)) + (nI 1))
    have hM := hM.I 3 (za x1) ((cI S 3 (za x1)) + (nI 1))
    exact cX.cutz (kb_X6_setLocked_14 hG hR hS hM t_x0 (tK_I t_x1) ok hx) ⟨rfl, rfl, rfl, trivial⟩
def k_X6_setLocked (N g H T : Nat) (S : cS) (a0 : Nat) (x1 : Option Nat) (x2 : Int32) : cS := KF_X6_setLocked_0 N g H T (some a0) x1 x2 S
def p_X6_setLocked (N g H T : Nat) (S : cS) (a0 : Nat) (x1 : Option Nat) (x2 : Int32) : Prop := KO_X6_setLocked_0 N g H T (some a0) x1 x2 S
set_option maxRecDepth 100000 in
set_option maxHeartbeats 4000000 in
theorem kc_X6_setLocked {G : zG} {o : cO} {u g H T N : Nat} {S : cS} (hG : zOK G) {a0 : Nat} {x1 : Option Nat} {x2 : Int32} (hS : St u g H T S) (t_x0 : isO g H 5 a0) (t_x1 : tK S 5 x1) (ok : p_X6_setLocked N g H T S a0 x1 x2) : cCv G o dX6_setLocked mX6_setLocked [.ref a0, va_rf x1, .int x2] S (fun S' => S' = k_X6_setLocked N g H T S a0 x1 x2 ∧ St u g H T S' ∧ Mono S S') := by
  refine cC.ofX rfl (by cases x1 <;> exact Nat.le_of_ble_eq_true rfl) ?_
  rw [show zargs mX6_setLocked.2.2.1 [.ref a0, va_rf x1, .int x2] = [some (va_rf (some a0)), some (va_rf x1), some (.int x2)] from by cases x1 <;> rfl]
  exact cX.cutz (kb_X6_setLocked_0 (X := fun F => F = k_X6_setLocked N g H T S a0 x1 x2) hG (fun S' h1 h2 h => ⟨rfl, h, h1, h2⟩) hS Mono.rfl' (tN_some t_x0) t_x1 ok rfl) ⟨rfl, rfl, rfl, trivial⟩
/-! X6_setValid -/
def KF_X6_setValid_28 (N g H T : Nat) (x0 : Option Nat) (x1 : Option Nat) (x2 : Int32) (S : cS) : cS := (csI (csR S 15 (za x0) x1) 13 (za x0) x2)
def KO_X6_setValid_28 (N g H T : Nat) (x0 : Option Nat) (x1 : Option Nat) (x2 : Int32) (S : cS) : Prop := (¬ x0 = none) ∧ True
set_option maxRecDepth 100000 in
set_option maxHeartbeats 4000000 in
theorem kb_X6_setValid_28 {G : zG} {o : cO} {u g H T N : Nat} {S : cS} {S0 : cS} {Q : Option Value → cS → Prop} {X : cS → Prop} (hG : zOK G) (hR : ∀ S', St u g H T S' → Mono S0 S' → X S' → Q none S') {x0 : Option Nat} {x1 : Option Nat} {x2 : Int32} (hS : St u g H T S) (hM : Mono S0 S) (t_x0 : tN g H x0) (t_x1 : tK S 5 x1) (ok : KO_X6_setValid_28 N g H T x0 x1 x2 S) (hx : X (KF_X6_setValid_28 N g H T x0 x1 x2 S)) : cX G o dX6_setValid mX6_setValid 28 [some (va_rf x0), some (va_rf x1), some (.int x2)] [] S Q := by
  unfold KO_X6_setValid_28 at ok
  unfold KF_X6_setValid_28 at hx
  refine c_aload_nQ dX6_setValid_28 rfl rfl ?_
  refine c_aload_nQ dX6_setValid_29 rfl rfl ?_
  have nn_30 := ok.1
  refine c_putR (C := RX6) (T := TX6) (N := 19) (ci := 5) (k := 15) ⟨rfl, inT6, by decide, fX6_156⟩ ftT6 rfl (by decide) (by decide) (by decide) (fun v => by cases v <;> rfl) (fun v => by cases v <;> rfl) dX6_setValid_30 (hS.kN t_x0 ok.1) ?_
  have hS := hS.R5 (tN.o t_x0 nn_30) (k := 15) (by decide) t_x1
  have hM := hM.R 15 (za x0) x1
  have ok := ok.2
  refine c_aload_nQ dX6_setValid_33 rfl rfl ?_
  refine c_iload_n dX6_setValid_34 rfl rfl ?_
  refine c_putI (C := RX6) (T := TX6) (N := 19) (ci := 5) (k := 13) ⟨rfl, inT6, by decide, fX6_50⟩ ftT6 rfl (by decide) (by decide) (by decide) rfl rfl dX6_setValid_35 (hS.kN t_x0 nn_30) ?_
  have hS := hS.I 13 (za x0) x2
  have hM := hM.I 13 (za x0) x2
  exact c_return rfl dX6_setValid_38 (hR _ hS hM hx)
def KF_X6_setValid_14 (N g H T : Nat) (x0 : Option Nat) (x1 : Option Nat) (x2 : Int32) (S : cS) : cS := (KF_X6_setValid_28 N g H T x0 x1 x2 (k_X9_drop N g H T S (g + 11) (cR S 15 (za x0))))
def KO_X6_setValid_14 (N g H T : Nat) (x0 : Option Nat) (x1 : Option Nat) (x2 : Int32) (S : cS) : Prop := (¬ x0 = none) ∧ (p_X9_drop N g H T S (g + 11) (cR S 15 (za x0))) ∧ KO_X6_setValid_28 N g H T x0 x1 x2 (k_X9_drop N g H T S (g + 11) (cR S 15 (za x0)))
set_option maxRecDepth 100000 in
set_option maxHeartbeats 4000000 in
theorem kb_X6_setValid_14 {G : zG} {o : cO} {u g H T N : Nat} {S : cS} {S0 : cS} {Q : Option Value → cS → Prop} {X : cS → Prop} (hG : zOK G) (hR : ∀ S', St u g H T S' → Mono S0 S' → X S' → Q none S') {x0 : Option Nat} {x1 : Option Nat} {x2 : Int32} (hS : St u g H T S) (hM : Mono S0 S) (t_x0 : tN g H x0) (t_x1 : tK S 5 x1) (ok : KO_X6_setValid_14 N g H T x0 x1 x2 S) (hx : X (KF_X6_setValid_14 N g H T x0 x1 x2 S)) : cX G o dX6_setValid mX6_setValid 14 [some (va_rf x0), some (va_rf x1), some (.int x2)] [] S Q := by
  unfold KO_X6_setValid_14 at ok
  unfold KF_X6_setValid_14 at hx
  refine c_aload_nQ dX6_setValid_14 rfl rfl ?_
  have nn_15 := ok.1
  refine c_getS (C := RX6) (T := TX6) (N := 19) (ci := 5) (k := 0) ⟨rfl, inT6, by decide, fX6_56⟩ (by decide) (by decide) (by decide) dX6_setValid_15 (hS.kN t_x0 ok.1) (hS.r (c := 5) (tN.o t_x0 ok.1) rfl (by omega)) ?_
  have ok := ok.2
  refine c_getS (C := RX10) (T := TX10) (N := 12) (ci := 8) (k := 6) ⟨rfl, inT10, by decide, fX6_65⟩ (by decide) (by decide) (by decide) dX6_setValid_18 (hS.k (o50 (tN.o t_x0 nn_15))) (hS.r (c := 8) (o50 (tN.o t_x0 nn_15)) rfl (by omega)) ?_
  refine c_aload_nQ dX6_setValid_21 rfl rfl ?_
  have p_22 := hS.lk (tN.o t_x0 nn_15) (Or.inr rfl)
  refine c_getR (C := RX6) (T := TX6) (N := 19) (ci := 5) (k := 15) ⟨rfl, inT6, by decide, fX6_156⟩ (by decide) (by decide) (by decide) dX6_setValid_22 (hS.kN t_x0 nn_15) ?_
  refine c_V1vK (ci := 7) (rr := (RX9, TX9, 13)) (y' := mX9_drop) dX6_setValid_25 lX6_123 kX9_drop ⟨by decide, by decide⟩ rfl rfl (by decide) (hS.k (o86 (o50 (tN.o t_x0 nn_15)))) (Nat.le_of_ble_eq_true rfl) (kc_X9_drop hG hS (o86 (o50 (tN.o t_x0 nn_15))) p_22 ok.1) (fun ⟨hS, hm_25⟩ => ?_)
  have hM := hM.trans hm_25
  have ok := ok.2
  exact cX.cutz (kb_X6_setValid_28 hG hR hS hM t_x0 (hm_25.tK t_x1 (by decide)) ok hx) ⟨rfl, rfl, rfl, trivial⟩
def KF_X6_setValid_0 (N g H T : Nat) (x0 : Option Nat) (x1 : Option Nat) (x2 : Int32) (S : cS) : cS := (if x1 = none then (KF_X6_setValid_14 N g H T x0 x1 x2 S) else (KF_X6_setValid_14 N g H T x0 x1 x2 (csI S 3 (za x1) ((cI S 3 (za x1)) + (nI 1)))))
def KO_X6_setValid_0 (N g H T : Nat) (x0 : Option Nat) (x1 : Option Nat) (x2 : Int32) (S : cS) : Prop := ((x1 = none → KO_X6_setValid_14 N g H T x0 x1 x2 S) ∧ (¬ x1 = none → KO_X6_setValid_14 N g H T x0 x1 x2 (csI S 3 (za x1) ((cI S 3 (za x1)) + (nI 1)))))
set_option maxRecDepth 100000 in
set_option maxHeartbeats 4000000 in
theorem kb_X6_setValid_0 {G : zG} {o : cO} {u g H T N : Nat} {S : cS} {S0 : cS} {Q : Option Value → cS → Prop} {X : cS → Prop} (hG : zOK G) (hR : ∀ S', St u g H T S' → Mono S0 S' → X S' → Q none S') {x0 : Option Nat} {x1 : Option Nat} {x2 : Int32} (hS : St u g H T S) (hM : Mono S0 S) (t_x0 : tN g H x0) (t_x1 : tK S 5 x1) (ok : KO_X6_setValid_0 N g H T x0 x1 x2 S) (hx : X (KF_X6_setValid_0 N g H T x0 x1 x2 S)) : cX G o dX6_setValid mX6_setValid 0 [some (va_rf x0), some (va_rf x1), some (.int x2)] [] S Q := by
  unfold KO_X6_setValid_0 at ok
  unfold KF_X6_setValid_0 at hx
  refine c_aload_nQ dX6_setValid_0 rfl rfl ?_
  refine c_ifnullI (tgt := 14) dX6_setValid_1 (by decide) (fun c_1 => ?_) (fun c_1 => ?_)
  · have ok := ok.1 c_1
    have hx := xif_p c_1 hx
    exact cX.cutz (kb_X6_setValid_14 hG hR hS hM t_x0 t_x1 ok hx) ⟨rfl, rfl, rfl, trivial⟩
  · have ok := ok.2 c_1
    have hx := xif_n c_1 hx
    refine c_aload_nQ dX6_setValid_4 rfl rfl ?_
    refine c_dup dX6_setValid_5 (zcat_rf _) ?_
    refine c_getI (C := RX5) (T := TX5) (N := 7) (ci := 4) (k := 3) ⟨rfl, inT5, by decide, fX6_149⟩ (by decide) (by decide) (by decide) dX6_setValid_6 (tK.cis t_x1 c_1) ?_
    refine c_iconst (v := nI 1) dX6_setValid_9 (by decide) ?_
    refine c_iadd dX6_setValid_10 ?_
    refine c_putI (C := RX5) (T := TX5) (N := 7) (ci := 4) (k := 3) ⟨rfl, inT5, by decide, fX6_149⟩ ftT5 rfl (by decide) (by decide) (by decide) rfl rfl dX6_setValid_11 (tK.cis t_x1 c_1) ?_
    have hS := hS.I 3 (za x1) ((cI S 3 (za x1)) + (nI 1))
    have hM := hM.I 3 (za x1) ((cI S 3 (za x1)) + (nI 1))
    exact cX.cutz (kb_X6_setValid_14 hG hR hS hM t_x0 (tK_I t_x1) ok hx) ⟨rfl, rfl, rfl, trivial⟩
def k_X6_setValid (N g H T : Nat) (S : cS) (a0 : Nat) (x1 : Option Nat) (x2 : Int32) : cS := KF_X6_setValid_0 N g H T (some a0) x1 x2 S
def p_X6_setValid (N g H T : Nat) (S : cS) (a0 : Nat) (x1 : Option Nat) (x2 : Int32) : Prop := KO_X6_setValid_0 N g H T (some a0) x1 x2 S
set_option maxRecDepth 100000 in
set_option maxHeartbeats 4000000 in
theorem kc_X6_setValid {G : zG} {o : cO} {u g H T N : Nat} {S : cS} (hG : zOK G) {a0 : Nat} {x1 : Option Nat} {x2 : Int32} (hS : St u g H T S) (t_x0 : isO g H 5 a0) (t_x1 : tK S 5 x1) (ok : p_X6_setValid N g H T S a0 x1 x2) : cCv G o dX6_setValid mX6_setValid [.ref a0, va_rf x1, .int x2] S (fun S' => S' = k_X6_setValid N g H T S a0 x1 x2 ∧ St u g H T S' ∧ Mono S S') := by
  refine cC.ofX rfl (by cases x1 <;> exact Nat.le_of_ble_eq_true rfl) ?_
  rw [show zargs mX6_setValid.2.2.1 [.ref a0, va_rf x1, .int x2] = [some (va_rf (some a0)), some (va_rf x1), some (.int x2)] from by cases x1 <;> rfl]
  exact cX.cutz (kb_X6_setValid_0 (X := fun F => F = k_X6_setValid N g H T S a0 x1 x2) hG (fun S' h1 h2 h => ⟨rfl, h, h1, h2⟩) hS Mono.rfl' (tN_some t_x0) t_x1 ok rfl) ⟨rfl, rfl, rfl, trivial⟩
/-! X6_enter -/
def KF_X6_enter_108 (N g H T : Nat) (s0 : Option Nat) (s1 : Int32) (S : cS) : cS := (csI S 18 (za s0) s1)
def KO_X6_enter_108 (N g H T : Nat) (s0 : Option Nat) (s1 : Int32) (S : cS) : Prop := (¬ s0 = none) ∧ True
set_option maxRecDepth 100000 in
set_option maxHeartbeats 4000000 in
theorem kb_X6_enter_108 {G : zG} {o : cO} {u g H T N : Nat} {S : cS} {S0 : cS} {Q : Option Value → cS → Prop} {X : cS → Prop} (hG : zOK G) (hR : ∀ S', St u g H T S' → Mono S0 S' → X S' → Q none S') {s0 : Option Nat} {s1 : Int32} (hS : St u g H T S) (hM : Mono S0 S) (t_s0 : tN g H s0) (ok : KO_X6_enter_108 N g H T s0 s1 S) (hx : X (KF_X6_enter_108 N g H T s0 s1 S)) : cX G o dX6_enter mX6_enter 108 [none, none] [.int s1, va_rf s0] S Q := by
  unfold KO_X6_enter_108 at ok
  unfold KF_X6_enter_108 at hx
  have nn_108 := ok.1
  refine c_putI (C := RX6) (T := TX6) (N := 19) (ci := 5) (k := 18) ⟨rfl, inT6, by decide, fX6_53⟩ ftT6 rfl (by decide) (by decide) (by decide) rfl rfl dX6_enter_108 (hS.kN t_s0 ok.1) ?_
  have hS := hS.I 18 (za s0) s1
  have hM := hM.I 18 (za s0) s1
  have ok := ok.2
  exact c_return rfl dX6_enter_111 (hR _ hS hM hx)
def KF_X6_enter_96 (N g H T : Nat) (x0 : Option Nat) (x1 : Int32) (S : cS) : cS := (if (nI 40) < x1 then (KF_X6_enter_108 N g H T x0 (-1) S) else (KF_X6_enter_108 N g H T x0 (nI 0) S))
def KO_X6_enter_96 (N g H T : Nat) (x0 : Option Nat) (x1 : Int32) (S : cS) : Prop := (((nI 40) < x1 → KO_X6_enter_108 N g H T x0 (-1) S) ∧ (¬ (nI 40) < x1 → KO_X6_enter_108 N g H T x0 (nI 0) S))
set_option maxRecDepth 100000 in
set_option maxHeartbeats 4000000 in
theorem kb_X6_enter_96 {G : zG} {o : cO} {u g H T N : Nat} {S : cS} {S0 : cS} {Q : Option Value → cS → Prop} {X : cS → Prop} (hG : zOK G) (hR : ∀ S', St u g H T S' → Mono S0 S' → X S' → Q none S') {x0 : Option Nat} {x1 : Int32} (hS : St u g H T S) (hM : Mono S0 S) (t_x0 : tN g H x0) (ok : KO_X6_enter_96 N g H T x0 x1 S) (hx : X (KF_X6_enter_96 N g H T x0 x1 S)) : cX G o dX6_enter mX6_enter 96 [some (va_rf x0), some (.int x1)] [] S Q := by
  unfold KO_X6_enter_96 at ok
  unfold KF_X6_enter_96 at hx
  refine c_aload_nQ dX6_enter_96 rfl rfl ?_
  refine c_iload_n dX6_enter_97 rfl rfl ?_
  refine c_bipush (v := nI 40) dX6_enter_98 (by decide) ?_
  refine c_icmp_gt (tgt := 107) dX6_enter_100 (by decide) (fun c_100 => ?_) (fun c_100 => ?_)
  · have ok := ok.1 c_100
    have hx := xif_p c_100 hx
    refine c_iconst (v := -1) dX6_enter_107 (by decide) ?_
    exact cX.cutz (kb_X6_enter_108 hG hR hS hM t_x0 ok hx) trivial
  · have ok := ok.2 c_100
    have hx := xif_n c_100 hx
    refine c_iconst (v := nI 0) dX6_enter_103 (by decide) ?_
    refine c_goto (tgt := 108) dX6_enter_104 (by decide) ?_
    exact cX.cutz (kb_X6_enter_108 hG hR hS hM t_x0 ok hx) trivial
def KF_X6_enter_83 (N g H T : Nat) (x0 : Option Nat) (x1 : Int32) (S : cS) : cS := (KF_X6_enter_96 N g H T x0 x1 (csI (csI S 17 (za x0) (nI 0)) 6 ((za x0) + 1) (nI 0)))
def KO_X6_enter_83 (N g H T : Nat) (x0 : Option Nat) (x1 : Int32) (S : cS) : Prop := (¬ x0 = none) ∧ KO_X6_enter_96 N g H T x0 x1 (csI (csI S 17 (za x0) (nI 0)) 6 ((za x0) + 1) (nI 0))
set_option maxRecDepth 100000 in
set_option maxHeartbeats 4000000 in
theorem kb_X6_enter_83 {G : zG} {o : cO} {u g H T N : Nat} {S : cS} {S0 : cS} {Q : Option Value → cS → Prop} {X : cS → Prop} (hG : zOK G) (hR : ∀ S', St u g H T S' → Mono S0 S' → X S' → Q none S') {x0 : Option Nat} {x1 : Int32} (hS : St u g H T S) (hM : Mono S0 S) (t_x0 : tN g H x0) (ok : KO_X6_enter_83 N g H T x0 x1 S) (hx : X (KF_X6_enter_83 N g H T x0 x1 S)) : cX G o dX6_enter mX6_enter 83 [some (va_rf x0), some (.int x1)] [] S Q := by
  unfold KO_X6_enter_83 at ok
  unfold KF_X6_enter_83 at hx
  refine c_aload_nQ dX6_enter_83 rfl rfl ?_
  refine c_iconst (v := nI 0) dX6_enter_84 (by decide) ?_
  have nn_85 := ok.1
  refine c_putI (C := RX6) (T := TX6) (N := 19) (ci := 5) (k := 17) ⟨rfl, inT6, by decide, fX6_145⟩ ftT6 rfl (by decide) (by decide) (by decide) rfl rfl dX6_enter_85 (hS.kN t_x0 ok.1) ?_
  have hS := hS.I 17 (za x0) (nI 0)
  have hM := hM.I 17 (za x0) (nI 0)
  have ok := ok.2
  refine c_aload_nQ dX6_enter_88 rfl rfl ?_
  refine c_getS (C := RX6) (T := TX6) (N := 19) (ci := 5) (k := 2) ⟨rfl, inT6, by decide, fX6_12⟩ (by decide) (by decide) (by decide) dX6_enter_89 (hS.kN t_x0 nn_85) (hS.r (c := 5) (tN.o t_x0 nn_85) rfl (by omega)) ?_
  refine c_iconst (v := nI 0) dX6_enter_92 (by decide) ?_
  refine c_putI (C := RX4) (T := TX4) (N := 10) (ci := 3) (k := 6) ⟨rfl, inT4, by decide, fX6_148⟩ ftT4 rfl (by decide) (by decide) (by decide) rfl rfl dX6_enter_93 (hS.k (o52 (tN.o t_x0 nn_85))) ?_
  have hS := hS.I 6 ((za x0) + 1) (nI 0)
  have hM := hM.I 6 ((za x0) + 1) (nI 0)
  exact cX.cutz (kb_X6_enter_96 hG hR hS hM t_x0 ok hx) ⟨rfl, rfl, trivial⟩
def KF_X6_enter_73 (N g H T : Nat) (x0 : Option Nat) (x1 : Int32) (S : cS) : cS := (KF_X6_enter_83 N g H T x0 x1 (csI (csI S 11 (za x0) (nI 0)) 16 (za x0) (nI 0)))
def KO_X6_enter_73 (N g H T : Nat) (x0 : Option Nat) (x1 : Int32) (S : cS) : Prop := (¬ x0 = none) ∧ KO_X6_enter_83 N g H T x0 x1 (csI (csI S 11 (za x0) (nI 0)) 16 (za x0) (nI 0))
set_option maxRecDepth 100000 in
set_option maxHeartbeats 4000000 in
theorem kb_X6_enter_73 {G : zG} {o : cO} {u g H T N : Nat} {S : cS} {S0 : cS} {Q : Option Value → cS → Prop} {X : cS → Prop} (hG : zOK G) (hR : ∀ S', St u g H T S' → Mono S0 S' → X S' → Q none S') {x0 : Option Nat} {x1 : Int32} (hS : St u g H T S) (hM : Mono S0 S) (t_x0 : tN g H x0) (ok : KO_X6_enter_73 N g H T x0 x1 S) (hx : X (KF_X6_enter_73 N g H T x0 x1 S)) : cX G o dX6_enter mX6_enter 73 [some (va_rf x0), some (.int x1)] [] S Q := by
  unfold KO_X6_enter_73 at ok
  unfold KF_X6_enter_73 at hx
  refine c_aload_nQ dX6_enter_73 rfl rfl ?_
  refine c_iconst (v := nI 0) dX6_enter_74 (by decide) ?_
  have nn_75 := ok.1
  refine c_putI (C := RX6) (T := TX6) (N := 19) (ci := 5) (k := 11) ⟨rfl, inT6, by decide, fX6_108⟩ ftT6 rfl (by decide) (by decide) (by decide) rfl rfl dX6_enter_75 (hS.kN t_x0 ok.1) ?_
  have hS := hS.I 11 (za x0) (nI 0)
  have hM := hM.I 11 (za x0) (nI 0)
  have ok := ok.2
  refine c_aload_nQ dX6_enter_78 rfl rfl ?_
  refine c_iconst (v := nI 0) dX6_enter_79 (by decide) ?_
  refine c_putI (C := RX6) (T := TX6) (N := 19) (ci := 5) (k := 16) ⟨rfl, inT6, by decide, fX6_105⟩ ftT6 rfl (by decide) (by decide) (by decide) rfl rfl dX6_enter_80 (hS.kN t_x0 nn_75) ?_
  have hS := hS.I 16 (za x0) (nI 0)
  have hM := hM.I 16 (za x0) (nI 0)
  exact cX.cutz (kb_X6_enter_83 hG hR hS hM t_x0 ok hx) ⟨rfl, rfl, trivial⟩
def KF_X6_enter_63 (N g H T : Nat) (x0 : Option Nat) (x1 : Int32) (S : cS) : cS := (KF_X6_enter_73 N g H T x0 x1 (csI (csI S 9 (za x0) x1) 10 (za x0) (nI 0)))
def KO_X6_enter_63 (N g H T : Nat) (x0 : Option Nat) (x1 : Int32) (S : cS) : Prop := (¬ x0 = none) ∧ KO_X6_enter_73 N g H T x0 x1 (csI (csI S 9 (za x0) x1) 10 (za x0) (nI 0))
set_option maxRecDepth 100000 in
set_option maxHeartbeats 4000000 in
theorem kb_X6_enter_63 {G : zG} {o : cO} {u g H T N : Nat} {S : cS} {S0 : cS} {Q : Option Value → cS → Prop} {X : cS → Prop} (hG : zOK G) (hR : ∀ S', St u g H T S' → Mono S0 S' → X S' → Q none S') {x0 : Option Nat} {x1 : Int32} (hS : St u g H T S) (hM : Mono S0 S) (t_x0 : tN g H x0) (ok : KO_X6_enter_63 N g H T x0 x1 S) (hx : X (KF_X6_enter_63 N g H T x0 x1 S)) : cX G o dX6_enter mX6_enter 63 [some (va_rf x0), some (.int x1)] [] S Q := by
  unfold KO_X6_enter_63 at ok
  unfold KF_X6_enter_63 at hx
  refine c_aload_nQ dX6_enter_63 rfl rfl ?_
  refine c_iload_n dX6_enter_64 rfl rfl ?_
  have nn_65 := ok.1
  refine c_putI (C := RX6) (T := TX6) (N := 19) (ci := 5) (k := 9) ⟨rfl, inT6, by decide, fX6_43⟩ ftT6 rfl (by decide) (by decide) (by decide) rfl rfl dX6_enter_65 (hS.kN t_x0 ok.1) ?_
  have hS := hS.I 9 (za x0) x1
  have hM := hM.I 9 (za x0) x1
  have ok := ok.2
  refine c_aload_nQ dX6_enter_68 rfl rfl ?_
  refine c_iconst (v := nI 0) dX6_enter_69 (by decide) ?_
  refine c_putI (C := RX6) (T := TX6) (N := 19) (ci := 5) (k := 10) ⟨rfl, inT6, by decide, fX6_86⟩ ftT6 rfl (by decide) (by decide) (by decide) rfl rfl dX6_enter_70 (hS.kN t_x0 nn_65) ?_
  have hS := hS.I 10 (za x0) (nI 0)
  have hM := hM.I 10 (za x0) (nI 0)
  exact cX.cutz (kb_X6_enter_73 hG hR hS hM t_x0 ok hx) ⟨rfl, rfl, trivial⟩
def KF_X6_enter_55 (N g H T : Nat) (x0 : Option Nat) (x1 : Int32) (S : cS) : cS := (KF_X6_enter_63 N g H T x0 x1 (k_J7_fill_53178 N g H T S (some ((za x0) + 12)) (nI 0)))
def KO_X6_enter_55 (N g H T : Nat) (x0 : Option Nat) (x1 : Int32) (S : cS) : Prop := (¬ x0 = none) ∧ (p_J7_fill_53178 N g H T S (some ((za x0) + 12)) (nI 0)) ∧ KO_X6_enter_63 N g H T x0 x1 (k_J7_fill_53178 N g H T S (some ((za x0) + 12)) (nI 0))
set_option maxRecDepth 100000 in
set_option maxHeartbeats 4000000 in
theorem kb_X6_enter_55 {G : zG} {o : cO} {u g H T N : Nat} {S : cS} {S0 : cS} {Q : Option Value → cS → Prop} {X : cS → Prop} (hG : zOK G) (hR : ∀ S', St u g H T S' → Mono S0 S' → X S' → Q none S') {x0 : Option Nat} {x1 : Int32} (hS : St u g H T S) (hM : Mono S0 S) (t_x0 : tN g H x0) (ok : KO_X6_enter_55 N g H T x0 x1 S) (hx : X (KF_X6_enter_55 N g H T x0 x1 S)) : cX G o dX6_enter mX6_enter 55 [some (va_rf x0), some (.int x1)] [] S Q := by
  unfold KO_X6_enter_55 at ok
  unfold KF_X6_enter_55 at hx
  refine c_aload_nQ dX6_enter_55 rfl rfl ?_
  have nn_56 := ok.1
  refine c_getS (C := RX6) (T := TX6) (N := 19) (ci := 5) (k := 6) ⟨rfl, inT6, by decide, fX6_29⟩ (by decide) (by decide) (by decide) dX6_enter_56 (hS.kN t_x0 ok.1) (hS.r (c := 5) (tN.o t_x0 ok.1) rfl (by omega)) ?_
  have ok := ok.2
  refine c_iconst (v := nI 0) dX6_enter_59 (by decide) ?_
  refine c_S2vK (y' := mJ7_fill_53178) dX6_enter_60 lX6_89 kJ7_fill_53178 ⟨by decide, by decide⟩ (Nat.le_of_ble_eq_true rfl) (kc_J7_fill_53178 hG hS (hS.rk (c := 5) (k := 6) (tN.o t_x0 nn_56) rfl (by omega)) ok.1) (fun ⟨hS, hm_60⟩ => ?_)
  have hM := hM.trans hm_60
  have ok := ok.2
  exact cX.cutz (kb_X6_enter_63 hG hR hS hM t_x0 ok hx) ⟨rfl, rfl, trivial⟩
def KF_X6_enter_49 (N g H T : Nat) (x0 : Option Nat) (x1 : Int32) (S : cS) : cS := (KF_X6_enter_55 N g H T x0 x1 (k_X6_setValid N g H T S (za x0) (none : Option Nat) (-1)))
def KO_X6_enter_49 (N g H T : Nat) (x0 : Option Nat) (x1 : Int32) (S : cS) : Prop := (¬ x0 = none ∧ p_X6_setValid N g H T S (za x0) (none : Option Nat) (-1)) ∧ KO_X6_enter_55 N g H T x0 x1 (k_X6_setValid N g H T S (za x0) (none : Option Nat) (-1))
set_option maxRecDepth 100000 in
set_option maxHeartbeats 4000000 in
theorem kb_X6_enter_49 {G : zG} {o : cO} {u g H T N : Nat} {S : cS} {S0 : cS} {Q : Option Value → cS → Prop} {X : cS → Prop} (hG : zOK G) (hR : ∀ S', St u g H T S' → Mono S0 S' → X S' → Q none S') {x0 : Option Nat} {x1 : Int32} (hS : St u g H T S) (hM : Mono S0 S) (t_x0 : tN g H x0) (ok : KO_X6_enter_49 N g H T x0 x1 S) (hx : X (KF_X6_enter_49 N g H T x0 x1 S)) : cX G o dX6_enter mX6_enter 49 [some (va_rf x0), some (.int x1)] [] S Q := by
  unfold KO_X6_enter_49 at ok
  unfold KF_X6_enter_49 at hx
  refine c_aload_nQ dX6_enter_49 rfl rfl ?_
  refine c_null' dX6_enter_50 ?_
  refine c_iconst (v := -1) dX6_enter_51 (by decide) ?_
  have nn_52 := ok.1.1
  refine c_V2vK (ci := 5) (rr := (RX6, TX6, 19)) (y' := mX6_setValid) dX6_enter_52 lX6_142 kX6_setValid ⟨by decide, by decide⟩ rfl rfl (by decide) (hS.kN t_x0 nn_52) (Nat.le_of_ble_eq_true rfl) (kc_X6_setValid hG hS (tN.o t_x0 nn_52) tK_none ok.1.2) (fun ⟨hS, hm_52⟩ => ?_)
  have hM := hM.trans hm_52
  have ok := ok.2
  exact cX.cutz (kb_X6_enter_55 hG hR hS hM t_x0 ok hx) ⟨rfl, rfl, trivial⟩
def KF_X6_enter_43 (N g H T : Nat) (x0 : Option Nat) (x1 : Int32) (S : cS) : cS := (KF_X6_enter_49 N g H T x0 x1 (k_X6_setLocked N g H T S (za x0) (none : Option Nat) (-1)))
def KO_X6_enter_43 (N g H T : Nat) (x0 : Option Nat) (x1 : Int32) (S : cS) : Prop := (¬ x0 = none ∧ p_X6_setLocked N g H T S (za x0) (none : Option Nat) (-1)) ∧ KO_X6_enter_49 N g H T x0 x1 (k_X6_setLocked N g H T S (za x0) (none : Option Nat) (-1))
set_option maxRecDepth 100000 in
set_option maxHeartbeats 4000000 in
theorem kb_X6_enter_43 {G : zG} {o : cO} {u g H T N : Nat} {S : cS} {S0 : cS} {Q : Option Value → cS → Prop} {X : cS → Prop} (hG : zOK G) (hR : ∀ S', St u g H T S' → Mono S0 S' → X S' → Q none S') {x0 : Option Nat} {x1 : Int32} (hS : St u g H T S) (hM : Mono S0 S) (t_x0 : tN g H x0) (ok : KO_X6_enter_43 N g H T x0 x1 S) (hx : X (KF_X6_enter_43 N g H T x0 x1 S)) : cX G o dX6_enter mX6_enter 43 [some (va_rf x0), some (.int x1)] [] S Q := by
  unfold KO_X6_enter_43 at ok
  unfold KF_X6_enter_43 at hx
  refine c_aload_nQ dX6_enter_43 rfl rfl ?_
  refine c_null' dX6_enter_44 ?_
  refine c_iconst (v := -1) dX6_enter_45 (by decide) ?_
  have nn_46 := ok.1.1
  refine c_V2vK (ci := 5) (rr := (RX6, TX6, 19)) (y' := mX6_setLocked) dX6_enter_46 lX6_138 kX6_setLocked ⟨by decide, by decide⟩ rfl rfl (by decide) (hS.kN t_x0 nn_46) (Nat.le_of_ble_eq_true rfl) (kc_X6_setLocked hG hS (tN.o t_x0 nn_46) tK_none ok.1.2) (fun ⟨hS, hm_46⟩ => ?_)
  have hM := hM.trans hm_46
  have ok := ok.2
  exact cX.cutz (kb_X6_enter_49 hG hR hS hM t_x0 ok hx) ⟨rfl, rfl, trivial⟩
def KF_X6_enter_36 (N g H T : Nat) (x0 : Option Nat) (x1 : Int32) (S : cS) : cS := (KF_X6_enter_43 N g H T x0 x1 (k_X8_clearDecided N g H T S ((za x0) + 14)))
def KO_X6_enter_36 (N g H T : Nat) (x0 : Option Nat) (x1 : Int32) (S : cS) : Prop := (¬ x0 = none) ∧ (p_X8_clearDecided N g H T S ((za x0) + 14)) ∧ KO_X6_enter_43 N g H T x0 x1 (k_X8_clearDecided N g H T S ((za x0) + 14))
set_option maxRecDepth 100000 in
set_option maxHeartbeats 4000000 in
theorem kb_X6_enter_36 {G : zG} {o : cO} {u g H T N : Nat} {S : cS} {S0 : cS} {Q : Option Value → cS → Prop} {X : cS → Prop} (hG : zOK G) (hR : ∀ S', St u g H T S' → Mono S0 S' → X S' → Q none S') {x0 : Option Nat} {x1 : Int32} (hS : St u g H T S) (hM : Mono S0 S) (t_x0 : tN g H x0) (ok : KO_X6_enter_36 N g H T x0 x1 S) (hx : X (KF_X6_enter_36 N g H T x0 x1 S)) : cX G o dX6_enter mX6_enter 36 [some (va_rf x0), some (.int x1)] [] S Q := by
  unfold KO_X6_enter_36 at ok
  unfold KF_X6_enter_36 at hx
  refine c_aload_nQ dX6_enter_36 rfl rfl ?_
  have nn_37 := ok.1
  refine c_getS (C := RX6) (T := TX6) (N := 19) (ci := 5) (k := 3) ⟨rfl, inT6, by decide, fX6_77⟩ (by decide) (by decide) (by decide) dX6_enter_37 (hS.kN t_x0 ok.1) (hS.r (c := 5) (tN.o t_x0 ok.1) rfl (by omega)) ?_
  have ok := ok.2
  refine c_V0vK (ci := 6) (rr := (RX8, TX8, 14)) (y' := mX8_clearDecided) dX6_enter_40 lX6_99 kX8_clearDecided ⟨by decide, by decide⟩ rfl rfl (by decide) (hS.k (o53 (tN.o t_x0 nn_37))) (Nat.le_of_ble_eq_true rfl) (kc_X8_clearDecided hG hS (o53 (tN.o t_x0 nn_37)) ok.1) (fun ⟨hS, hm_40⟩ => ?_)
  have hM := hM.trans hm_40
  have ok := ok.2
  exact cX.cutz (kb_X6_enter_43 hG hR hS hM t_x0 ok hx) ⟨rfl, rfl, trivial⟩
def KF_X6_enter_12 (N g H T : Nat) (x0 : Option Nat) (x1 : Int32) (S : cS) : cS := (if x1 = ((cI S 9 (za x0)) + (nI 1)) then (KF_X6_enter_36 N g H T x0 x1 S) else (KF_X6_enter_36 N g H T x0 x1 (k_X8_clear N g H T S ((za x0) + 14) ((cI S 9 (za x0)) + (nI 1)) (-1))))
def KO_X6_enter_12 (N g H T : Nat) (x0 : Option Nat) (x1 : Int32) (S : cS) : Prop := (¬ x0 = none) ∧ ((x1 = ((cI S 9 (za x0)) + (nI 1)) → KO_X6_enter_36 N g H T x0 x1 S) ∧ (¬ x1 = ((cI S 9 (za x0)) + (nI 1)) → (p_X8_clear N g H T S ((za x0) + 14) ((cI S 9 (za x0)) + (nI 1)) (-1)) ∧ KO_X6_enter_36 N g H T x0 x1 (k_X8_clear N g H T S ((za x0) + 14) ((cI S 9 (za x0)) + (nI 1)) (-1))))
set_option maxRecDepth 100000 in
set_option maxHeartbeats 4000000 in
theorem kb_X6_enter_12 {G : zG} {o : cO} {u g H T N : Nat} {S : cS} {S0 : cS} {Q : Option Value → cS → Prop} {X : cS → Prop} (hG : zOK G) (hR : ∀ S', St u g H T S' → Mono S0 S' → X S' → Q none S') {x0 : Option Nat} {x1 : Int32} (hS : St u g H T S) (hM : Mono S0 S) (t_x0 : tN g H x0) (ok : KO_X6_enter_12 N g H T x0 x1 S) (hx : X (KF_X6_enter_12 N g H T x0 x1 S)) : cX G o dX6_enter mX6_enter 12 [some (va_rf x0), some (.int x1)] [] S Q := by
  unfold KO_X6_enter_12 at ok
  unfold KF_X6_enter_12 at hx
  refine c_iload_n dX6_enter_12 rfl rfl ?_
  refine c_aload_nQ dX6_enter_13 rfl rfl ?_
  have nn_14 := ok.1
  refine c_getI (C := RX6) (T := TX6) (N := 19) (ci := 5) (k := 9) ⟨rfl, inT6, by decide, fX6_43⟩ (by decide) (by decide) (by decide) dX6_enter_14 (hS.kN t_x0 ok.1) ?_
  have ok := ok.2
  refine c_iconst (v := nI 1) dX6_enter_17 (by decide) ?_
  refine c_iadd dX6_enter_18 ?_
  refine c_icmp_eq (tgt := 36) dX6_enter_19 (by decide) (fun c_19 => ?_) (fun c_19 => ?_)
  · have ok := ok.1 c_19
    have hx := xif_p c_19 hx
    exact cX.cutz (kb_X6_enter_36 hG hR hS hM t_x0 ok hx) ⟨rfl, rfl, trivial⟩
  · have ok := ok.2 c_19
    have hx := xif_n c_19 hx
    refine c_aload_nQ dX6_enter_22 rfl rfl ?_
    refine c_getS (C := RX6) (T := TX6) (N := 19) (ci := 5) (k := 3) ⟨rfl, inT6, by decide, fX6_77⟩ (by decide) (by decide) (by decide) dX6_enter_23 (hS.kN t_x0 nn_14) (hS.r (c := 5) (tN.o t_x0 nn_14) rfl (by omega)) ?_
    refine c_aload_nQ dX6_enter_26 rfl rfl ?_
    refine c_getI (C := RX6) (T := TX6) (N := 19) (ci := 5) (k := 9) ⟨rfl, inT6, by decide, fX6_43⟩ (by decide) (by decide) (by decide) dX6_enter_27 (hS.kN t_x0 nn_14) ?_
    refine c_iconst (v := nI 1) dX6_enter_30 (by decide) ?_
    refine c_iadd dX6_enter_31 ?_
    refine c_iconst (v := -1) dX6_enter_32 (by decide) ?_
    refine c_V2vK (ci := 6) (rr := (RX8, TX8, 14)) (y' := mX8_clear) dX6_enter_33 lX6_95 kX8_clear ⟨by decide, by decide⟩ rfl rfl (by decide) (hS.k (o53 (tN.o t_x0 nn_14))) (Nat.le_of_ble_eq_true rfl) (kc_X8_clear hG hS (o53 (tN.o t_x0 nn_14)) ok.1) (fun ⟨hS, hm_33⟩ => ?_)
    have hM := hM.trans hm_33
    have ok := ok.2
    exact cX.cutz (kb_X6_enter_36 hG hR hS hM t_x0 ok hx) ⟨rfl, rfl, trivial⟩
def KF_X6_enter_0 (N g H T : Nat) (x0 : Option Nat) (x1 : Int32) (S : cS) : cS := (KF_X6_enter_12 N g H T x0 x1 (k_X8_clear N g H T S ((za x0) + 14) (cI S 9 (za x0)) (-1)))
def KO_X6_enter_0 (N g H T : Nat) (x0 : Option Nat) (x1 : Int32) (S : cS) : Prop := (¬ x0 = none) ∧ (p_X8_clear N g H T S ((za x0) + 14) (cI S 9 (za x0)) (-1)) ∧ KO_X6_enter_12 N g H T x0 x1 (k_X8_clear N g H T S ((za x0) + 14) (cI S 9 (za x0)) (-1))
set_option maxRecDepth 100000 in
set_option maxHeartbeats 4000000 in
theorem kb_X6_enter_0 {G : zG} {o : cO} {u g H T N : Nat} {S : cS} {S0 : cS} {Q : Option Value → cS → Prop} {X : cS → Prop} (hG : zOK G) (hR : ∀ S', St u g H T S' → Mono S0 S' → X S' → Q none S') {x0 : Option Nat} {x1 : Int32} (hS : St u g H T S) (hM : Mono S0 S) (t_x0 : tN g H x0) (ok : KO_X6_enter_0 N g H T x0 x1 S) (hx : X (KF_X6_enter_0 N g H T x0 x1 S)) : cX G o dX6_enter mX6_enter 0 [some (va_rf x0), some (.int x1)] [] S Q := by
  unfold KO_X6_enter_0 at ok
  unfold KF_X6_enter_0 at hx
  refine c_aload_nQ dX6_enter_0 rfl rfl ?_
  have nn_1 := ok.1
  refine c_getS (C := RX6) (T := TX6) (N := 19) (ci := 5) (k := 3) ⟨rfl, inT6, by decide, fX6_77⟩ (by decide) (by decide) (by decide) dX6_enter_1 (hS.kN t_x0 ok.1) (hS.r (c := 5) (tN.o t_x0 ok.1) rfl (by omega)) ?_
  have ok := ok.2
  refine c_aload_nQ dX6_enter_4 rfl rfl ?_
  refine c_getI (C := RX6) (T := TX6) (N := 19) (ci := 5) (k := 9) ⟨rfl, inT6, by decide, fX6_43⟩ (by decide) (by decide) (by decide) dX6_enter_5 (hS.kN t_x0 nn_1) ?_
  refine c_iconst (v := -1) dX6_enter_8 (by decide) ?_
  refine c_V2vK (ci := 6) (rr := (RX8, TX8, 14)) (y' := mX8_clear) dX6_enter_9 lX6_95 kX8_clear ⟨by decide, by decide⟩ rfl rfl (by decide) (hS.k (o53 (tN.o t_x0 nn_1))) (Nat.le_of_ble_eq_true rfl) (kc_X8_clear hG hS (o53 (tN.o t_x0 nn_1)) ok.1) (fun ⟨hS, hm_9⟩ => ?_)
  have hM := hM.trans hm_9
  have ok := ok.2
  exact cX.cutz (kb_X6_enter_12 hG hR hS hM t_x0 ok hx) ⟨rfl, rfl, trivial⟩
def k_X6_enter (N g H T : Nat) (S : cS) (a0 : Nat) (x1 : Int32) : cS := KF_X6_enter_0 N g H T (some a0) x1 S
def p_X6_enter (N g H T : Nat) (S : cS) (a0 : Nat) (x1 : Int32) : Prop := KO_X6_enter_0 N g H T (some a0) x1 S
set_option maxRecDepth 100000 in
set_option maxHeartbeats 4000000 in
theorem kc_X6_enter {G : zG} {o : cO} {u g H T N : Nat} {S : cS} (hG : zOK G) {a0 : Nat} {x1 : Int32} (hS : St u g H T S) (t_x0 : isO g H 5 a0) (ok : p_X6_enter N g H T S a0 x1) : cCv G o dX6_enter mX6_enter [.ref a0, .int x1] S (fun S' => S' = k_X6_enter N g H T S a0 x1 ∧ St u g H T S' ∧ Mono S S') := by
  refine cC.ofX rfl (by exact Nat.le_of_ble_eq_true rfl) ?_
  show cX G o dX6_enter mX6_enter 0 [some (va_rf (some a0)), some (.int x1)] [] S _
  exact cX.cutz (kb_X6_enter_0 (X := fun F => F = k_X6_enter N g H T S a0 x1) hG (fun S' h1 h2 h => ⟨rfl, h, h1, h2⟩) hS Mono.rfl' (tN_some t_x0) ok rfl) ⟨rfl, rfl, trivial⟩
/-! X6_vote -/
def KF_X6_vote_118 (N g H T : Nat) (x3 : Option Nat) (S : cS) : Option Nat × cS := (x3, S)
def KO_X6_vote_118 (N g H T : Nat) (x3 : Option Nat) (S : cS) : Prop := True
set_option maxRecDepth 100000 in
set_option maxHeartbeats 4000000 in
theorem kb_X6_vote_118 {G : zG} {o : cO} {u g H T N : Nat} {S : cS} {S0 : cS} {Q : Option Value → cS → Prop} {X : Option Nat × cS → Prop} (hG : zOK G) (hR : ∀ v S', St u g H T S' → Mono S0 S' → tK S' 5 v → X (v, S') → Q (some (va_rf v)) S') {x3 : Option Nat} (hS : St u g H T S) (hM : Mono S0 S) (t_x3 : tK S 5 x3) (ok : KO_X6_vote_118 N g H T x3 S) (hx : X (KF_X6_vote_118 N g H T x3 S)) : cX G o dX6_vote mX6_vote 118 [none, none, none, some (va_rf x3)] [] S Q := by
  unfold KO_X6_vote_118 at ok
  unfold KF_X6_vote_118 at hx
  refine c_aload_nQ dX6_vote_118 rfl rfl ?_
  exact c_areturn rfl (Or.inl ⟨_, rfl⟩) dX6_vote_119 (hR _ _ hS hM t_x3 hx)
def KF_X6_vote_103 (N g H T : Nat) (x3 : Option Nat) (S : cS) : Option Nat × cS := (KF_X6_vote_118 N g H T x3 (k_X5_writeId N g H T (csI S 5 (za x3) (nI 1)) (za x3) (some ((za x3) + 2)) (nI 6)))
def KO_X6_vote_103 (N g H T : Nat) (x3 : Option Nat) (S : cS) : Prop := (¬ x3 = none) ∧ (p_X5_writeId N g H T (csI S 5 (za x3) (nI 1)) (za x3) (some ((za x3) + 2)) (nI 6)) ∧ KO_X6_vote_118 N g H T x3 (k_X5_writeId N g H T (csI S 5 (za x3) (nI 1)) (za x3) (some ((za x3) + 2)) (nI 6))
set_option maxRecDepth 100000 in
set_option maxHeartbeats 4000000 in
theorem kb_X6_vote_103 {G : zG} {o : cO} {u g H T N : Nat} {S : cS} {S0 : cS} {Q : Option Value → cS → Prop} {X : Option Nat × cS → Prop} (hG : zOK G) (hR : ∀ v S', St u g H T S' → Mono S0 S' → tK S' 5 v → X (v, S') → Q (some (va_rf v)) S') {x3 : Option Nat} (hS : St u g H T S) (hM : Mono S0 S) (t_x3 : tK S 5 x3) (ok : KO_X6_vote_103 N g H T x3 S) (hx : X (KF_X6_vote_103 N g H T x3 S)) : cX G o dX6_vote mX6_vote 103 [none, none, none, some (va_rf x3)] [] S Q := by
  unfold KO_X6_vote_103 at ok
  unfold KF_X6_vote_103 at hx
  refine c_aload_nQ dX6_vote_103 rfl rfl ?_
  refine c_iconst (v := nI 1) dX6_vote_104 (by decide) ?_
  have nn_105 := ok.1
  refine c_putI (C := RX5) (T := TX5) (N := 7) (ci := 4) (k := 5) ⟨rfl, inT5, by decide, fX6_172⟩ ftT5 rfl (by decide) (by decide) (by decide) rfl rfl dX6_vote_105 (tK.cis t_x3 ok.1) ?_
  have hS := hS.I 5 (za x3) (nI 1)
  have hM := hM.I 5 (za x3) (nI 1)
  have ok := ok.2
  refine c_aload_nQ dX6_vote_108 rfl rfl ?_
  refine c_aload_nQ dX6_vote_109 rfl rfl ?_
  have p_110 := hS.m0k (tK_I t_x3) nn_105
  refine c_getS (C := RX5) (T := TX5) (N := 7) (ci := 4) (k := 0) ⟨rfl, inT5, by decide, fX6_131⟩ (by decide) (by decide) (by decide) dX6_vote_110 (tK.cis (tK_I t_x3) nn_105) (hS.m0 (tK_I t_x3) nn_105) ?_
  refine c_bipush (v := nI 6) dX6_vote_113 (by decide) ?_
  refine c_V2vK (ci := 4) (rr := (RX5, TX5, 7)) (y' := mX5_writeId) dX6_vote_115 lX6_175 kX5_writeId ⟨by decide, by decide⟩ rfl rfl (by decide) (tK.cis (tK_I t_x3) nn_105) (Nat.le_of_ble_eq_true rfl) (kc_X5_writeId hG hS ((tK_I t_x3) _ (za_of nn_105)) p_110 ok.1) (fun ⟨hS, hm_115⟩ => ?_)
  have hM := hM.trans hm_115
  have ok := ok.2
  exact cX.cutz (kb_X6_vote_118 hG hR hS hM (hm_115.tK (tK_I t_x3) (by decide)) ok hx) ⟨rfl, trivial⟩
def KF_X6_vote_85 (N g H T : Nat) (x2 : Option Nat) (x3 : Option Nat) (S : cS) : Option Nat × cS := (if x2 = none then (KF_X6_vote_118 N g H T x3 S) else (KF_X6_vote_103 N g H T x3 (csJrow S ((za x3) + 1) (va_cpy (cJ S ((za x2) + 1)) (cJ S ((za x3) + 1)) (nI 0).toNatClampNeg (nI 0).toNatClampNeg (nI 4).toNatClampNeg))))
def KO_X6_vote_85 (N g H T : Nat) (x2 : Option Nat) (x3 : Option Nat) (S : cS) : Prop := ((x2 = none → KO_X6_vote_118 N g H T x3 S) ∧ (¬ x2 = none → (¬ x3 = none) ∧ ((¬ (nI 0) < 0 ∧ ¬ (nI 0) < 0 ∧ ¬ (nI 4) < 0) ∧ (nI 0).toNatClampNeg + (nI 4).toNatClampNeg ≤ 4 ∧ (nI 0).toNatClampNeg + (nI 4).toNatClampNeg ≤ 4) ∧ KO_X6_vote_103 N g H T x3 (csJrow S ((za x3) + 1) (va_cpy (cJ S ((za x2) + 1)) (cJ S ((za x3) + 1)) (nI 0).toNatClampNeg (nI 0).toNatClampNeg (nI 4).toNatClampNeg))))
set_option maxRecDepth 100000 in
set_option maxHeartbeats 4000000 in
theorem kb_X6_vote_85 {G : zG} {o : cO} {u g H T N : Nat} {S : cS} {S0 : cS} {Q : Option Value → cS → Prop} {X : Option Nat × cS → Prop} (hG : zOK G) (hR : ∀ v S', St u g H T S' → Mono S0 S' → tK S' 5 v → X (v, S') → Q (some (va_rf v)) S') {x2 : Option Nat} {x3 : Option Nat} (hS : St u g H T S) (hM : Mono S0 S) (t_x2 : tK S 5 x2) (t_x3 : tK S 5 x3) (ok : KO_X6_vote_85 N g H T x2 x3 S) (hx : X (KF_X6_vote_85 N g H T x2 x3 S)) : cX G o dX6_vote mX6_vote 85 [none, none, some (va_rf x2), some (va_rf x3)] [] S Q := by
  unfold KO_X6_vote_85 at ok
  unfold KF_X6_vote_85 at hx
  refine c_aload_nQ dX6_vote_85 rfl rfl ?_
  refine c_ifnullI (tgt := 118) dX6_vote_86 (by decide) (fun c_86 => ?_) (fun c_86 => ?_)
  · have ok := ok.1 c_86
    have hx := xif_p c_86 hx
    exact cX.cutz (kb_X6_vote_118 hG hR hS hM t_x3 ok hx) ⟨rfl, trivial⟩
  · have ok := ok.2 c_86
    have hx := xif_n c_86 hx
    refine c_aload_nQ dX6_vote_89 rfl rfl ?_
    have p_90 := hS.m1k t_x2 c_86
    have q_90 := hS.m1l t_x2 c_86
    refine c_getS (C := RX5) (T := TX5) (N := 7) (ci := 4) (k := 1) ⟨rfl, inT5, by decide, fX6_162⟩ (by decide) (by decide) (by decide) dX6_vote_90 (tK.cis t_x2 c_86) (hS.m1 t_x2 c_86) ?_
    refine c_iconst (v := nI 0) dX6_vote_93 (by decide) ?_
    refine c_aload_nQ dX6_vote_94 rfl rfl ?_
    have nn_95 := ok.1
    have p_95 := hS.m1k t_x3 ok.1
    have q_95 := hS.m1l t_x3 ok.1
    refine c_getS (C := RX5) (T := TX5) (N := 7) (ci := 4) (k := 1) ⟨rfl, inT5, by decide, fX6_162⟩ (by decide) (by decide) (by decide) dX6_vote_95 (tK.cis t_x3 ok.1) (hS.m1 t_x3 ok.1) ?_
    have ok := ok.2
    refine c_iconst (v := nI 0) dX6_vote_98 (by decide) ?_
    refine c_iconst (v := nI 4) dX6_vote_99 (by decide) ?_
    refine c_copy2 hG dX6_vote_100 qX6_166 (by decide) (by decide) ⟨tK.cis p_90 (Option.some_ne_none _), tK.cis p_95 (Option.some_ne_none _), ok.1.1, (le_cast q_90 ok.1.2.1), (le_cast q_95 ok.1.2.2)⟩ ?_
    have hS := hS.Jr ((za x3) + 1) (va_cpy (cJ S ((za x2) + 1)) (cJ S ((za x3) + 1)) (nI 0).toNatClampNeg (nI 0).toNatClampNeg (nI 4).toNatClampNeg)
    have hM := hM.Jr ((za x3) + 1) (va_cpy (cJ S ((za x2) + 1)) (cJ S ((za x3) + 1)) (nI 0).toNatClampNeg (nI 0).toNatClampNeg (nI 4).toNatClampNeg)
    have ok := ok.2
    exact cX.cutz (kb_X6_vote_103 hG hR hS hM (tK_Jr t_x3) ok hx) ⟨rfl, trivial⟩
def KF_X6_vote_78 (N g H T : Nat) (x2 : Option Nat) (x3 : Option Nat) (s0 : Option Nat) (s1 : Int32) (s2 : Int32) (S : cS) : Option Nat × cS := (KF_X6_vote_85 N g H T x2 x3 (csI (csA S (za s0) s1.toNatClampNeg ((s2.toInt8.toInt32).toInt8.toInt32)) 4 (za x3) (nI 1)))
def KO_X6_vote_78 (N g H T : Nat) (x2 : Option Nat) (x3 : Option Nat) (s0 : Option Nat) (s1 : Int32) (s2 : Int32) (S : cS) : Prop := (¬ s0 = none ∧ vp_in s1 (cL S (za s0))) ∧ (¬ x3 = none) ∧ KO_X6_vote_85 N g H T x2 x3 (csI (csA S (za s0) s1.toNatClampNeg ((s2.toInt8.toInt32).toInt8.toInt32)) 4 (za x3) (nI 1))
set_option maxRecDepth 100000 in
set_option maxHeartbeats 4000000 in
theorem kb_X6_vote_78 {G : zG} {o : cO} {u g H T N : Nat} {S : cS} {S0 : cS} {Q : Option Value → cS → Prop} {X : Option Nat × cS → Prop} (hG : zOK G) (hR : ∀ v S', St u g H T S' → Mono S0 S' → tK S' 5 v → X (v, S') → Q (some (va_rf v)) S') {x2 : Option Nat} {x3 : Option Nat} {s0 : Option Nat} {s1 : Int32} {s2 : Int32} (hS : St u g H T S) (hM : Mono S0 S) (t_x2 : tK S 5 x2) (t_x3 : tK S 5 x3) (t_s0 : tK S 20 s0) (ok : KO_X6_vote_78 N g H T x2 x3 s0 s1 s2 S) (hx : X (KF_X6_vote_78 N g H T x2 x3 s0 s1 s2 S)) : cX G o dX6_vote mX6_vote 78 [none, none, some (va_rf x2), some (va_rf x3)] [.int s2, .int s1, va_rf s0] S Q := by
  unfold KO_X6_vote_78 at ok
  unfold KF_X6_vote_78 at hx
  refine c_i2b dX6_vote_78 ?_
  refine c_bast dX6_vote_79 ⟨(tK.cis t_s0 ok.1.1), ok.1.2⟩ ?_
  have hS := hS.Ab (za s0) s1.toNatClampNeg (s2.toInt8.toInt32)
  have hM := hM.A (za s0) s1.toNatClampNeg ((s2.toInt8.toInt32).toInt8.toInt32)
  have ok := ok.2
  refine c_aload_nQ dX6_vote_80 rfl rfl ?_
  refine c_iconst (v := nI 1) dX6_vote_81 (by decide) ?_
  have nn_82 := ok.1
  refine c_putI (C := RX5) (T := TX5) (N := 7) (ci := 4) (k := 4) ⟨rfl, inT5, by decide, fX6_159⟩ ftT5 rfl (by decide) (by decide) (by decide) rfl rfl dX6_vote_82 (tK.cis (tK_A t_x3) ok.1) ?_
  have hS := hS.I 4 (za x3) (nI 1)
  have hM := hM.I 4 (za x3) (nI 1)
  have ok := ok.2
  exact cX.cutz (kb_X6_vote_85 hG hR hS hM (tK_I (tK_A t_x2)) (tK_I (tK_A t_x3)) ok hx) ⟨rfl, rfl, trivial⟩
def KF_X6_vote_53 (N g H T : Nat) (x0 : Option Nat) (x2 : Option Nat) (x3 : Option Nat) (S : cS) : Option Nat × cS := (if x2 = none then (KF_X6_vote_78 N g H T x2 x3 (some ((za x3) + 2)) (nI 5) (nI 0) (csA S ((za x3) + 2) (nI 4).toNatClampNeg (((cI S 10 (za x0)).toInt8.toInt32).toInt8.toInt32))) else (KF_X6_vote_78 N g H T x2 x3 (some ((za x3) + 2)) (nI 5) (nI 1) (csA S ((za x3) + 2) (nI 4).toNatClampNeg (((cI S 10 (za x0)).toInt8.toInt32).toInt8.toInt32))))
def KO_X6_vote_53 (N g H T : Nat) (x0 : Option Nat) (x2 : Option Nat) (x3 : Option Nat) (S : cS) : Prop := (¬ x3 = none) ∧ (¬ x0 = none) ∧ (vp_in (nI 4) (cL S ((za x3) + 2))) ∧ ((x2 = none → KO_X6_vote_78 N g H T x2 x3 (some ((za x3) + 2)) (nI 5) (nI 0) (csA S ((za x3) + 2) (nI 4).toNatClampNeg (((cI S 10 (za x0)).toInt8.toInt32).toInt8.toInt32))) ∧ (¬ x2 = none → KO_X6_vote_78 N g H T x2 x3 (some ((za x3) + 2)) (nI 5) (nI 1) (csA S ((za x3) + 2) (nI 4).toNatClampNeg (((cI S 10 (za x0)).toInt8.toInt32).toInt8.toInt32))))
set_option maxRecDepth 100000 in
set_option maxHeartbeats 4000000 in
theorem kb_X6_vote_53 {G : zG} {o : cO} {u g H T N : Nat} {S : cS} {S0 : cS} {Q : Option Value → cS → Prop} {X : Option Nat × cS → Prop} (hG : zOK G) (hR : ∀ v S', St u g H T S' → Mono S0 S' → tK S' 5 v → X (v, S') → Q (some (va_rf v)) S') {x0 : Option Nat} {x2 : Option Nat} {x3 : Option Nat} (hS : St u g H T S) (hM : Mono S0 S) (t_x0 : tN g H x0) (t_x2 : tK S 5 x2) (t_x3 : tK S 5 x3) (ok : KO_X6_vote_53 N g H T x0 x2 x3 S) (hx : X (KF_X6_vote_53 N g H T x0 x2 x3 S)) : cX G o dX6_vote mX6_vote 53 [some (va_rf x0), none, some (va_rf x2), some (va_rf x3)] [] S Q := by
  unfold KO_X6_vote_53 at ok
  unfold KF_X6_vote_53 at hx
  refine c_aload_nQ dX6_vote_53 rfl rfl ?_
  have nn_54 := ok.1
  have p_54 := hS.m0k t_x3 ok.1
  refine c_getS (C := RX5) (T := TX5) (N := 7) (ci := 4) (k := 0) ⟨rfl, inT5, by decide, fX6_131⟩ (by decide) (by decide) (by decide) dX6_vote_54 (tK.cis t_x3 ok.1) (hS.m0 t_x3 ok.1) ?_
  have ok := ok.2
  refine c_iconst (v := nI 4) dX6_vote_57 (by decide) ?_
  refine c_aload_nQ dX6_vote_58 rfl rfl ?_
  have nn_59 := ok.1
  refine c_getI (C := RX6) (T := TX6) (N := 19) (ci := 5) (k := 10) ⟨rfl, inT6, by decide, fX6_86⟩ (by decide) (by decide) (by decide) dX6_vote_59 (hS.kN t_x0 ok.1) ?_
  have ok := ok.2
  refine c_i2b dX6_vote_62 ?_
  refine c_bast dX6_vote_63 ⟨(tK.cis p_54 (Option.some_ne_none _)), ok.1⟩ ?_
  have hS := hS.Ab ((za x3) + 2) (nI 4).toNatClampNeg ((cI S 10 (za x0)).toInt8.toInt32)
  have hM := hM.A ((za x3) + 2) (nI 4).toNatClampNeg (((cI S 10 (za x0)).toInt8.toInt32).toInt8.toInt32)
  have ok := ok.2
  refine c_aload_nQ dX6_vote_64 rfl rfl ?_
  have p_65 := hS.m0k (tK_A t_x3) nn_54
  refine c_getS (C := RX5) (T := TX5) (N := 7) (ci := 4) (k := 0) ⟨rfl, inT5, by decide, fX6_131⟩ (by decide) (by decide) (by decide) dX6_vote_65 (tK.cis (tK_A t_x3) nn_54) (hS.m0 (tK_A t_x3) nn_54) ?_
  refine c_iconst (v := nI 5) dX6_vote_68 (by decide) ?_
  refine c_aload_nQ dX6_vote_69 rfl rfl ?_
  refine c_ifnonnullI (tgt := 77) dX6_vote_70 (by decide) (fun c_70 => ?_) (fun c_70 => ?_)
  · have ok := ok.2 c_70
    have hx := xif_n c_70 hx
    refine c_iconst (v := nI 1) dX6_vote_77 (by decide) ?_
    exact cX.cutz (kb_X6_vote_78 hG hR hS hM (tK_A t_x2) (tK_A t_x3) p_65 ok hx) ⟨rfl, rfl, trivial⟩
  · have ok := ok.1 c_70
    have hx := xif_p c_70 hx
    refine c_iconst (v := nI 0) dX6_vote_73 (by decide) ?_
    refine c_goto (tgt := 78) dX6_vote_74 (by decide) ?_
    exact cX.cutz (kb_X6_vote_78 hG hR hS hM (tK_A t_x2) (tK_A t_x3) p_65 ok hx) ⟨rfl, rfl, trivial⟩
def KF_X6_vote_41 (N g H T : Nat) (x0 : Option Nat) (x2 : Option Nat) (x3 : Option Nat) (S : cS) : Option Nat × cS := (KF_X6_vote_53 N g H T x0 x2 x3 (k_X11_putTwo N g H T S (some ((za x3) + 2)) (nI 2) (cI S 9 (za x0))))
def KO_X6_vote_41 (N g H T : Nat) (x0 : Option Nat) (x2 : Option Nat) (x3 : Option Nat) (S : cS) : Prop := (¬ x3 = none) ∧ (¬ x0 = none) ∧ (p_X11_putTwo N g H T S (some ((za x3) + 2)) (nI 2) (cI S 9 (za x0))) ∧ KO_X6_vote_53 N g H T x0 x2 x3 (k_X11_putTwo N g H T S (some ((za x3) + 2)) (nI 2) (cI S 9 (za x0)))
set_option maxRecDepth 100000 in
set_option maxHeartbeats 4000000 in
theorem kb_X6_vote_41 {G : zG} {o : cO} {u g H T N : Nat} {S : cS} {S0 : cS} {Q : Option Value → cS → Prop} {X : Option Nat × cS → Prop} (hG : zOK G) (hR : ∀ v S', St u g H T S' → Mono S0 S' → tK S' 5 v → X (v, S') → Q (some (va_rf v)) S') {x0 : Option Nat} {x2 : Option Nat} {x3 : Option Nat} (hS : St u g H T S) (hM : Mono S0 S) (t_x0 : tN g H x0) (t_x2 : tK S 5 x2) (t_x3 : tK S 5 x3) (ok : KO_X6_vote_41 N g H T x0 x2 x3 S) (hx : X (KF_X6_vote_41 N g H T x0 x2 x3 S)) : cX G o dX6_vote mX6_vote 41 [some (va_rf x0), none, some (va_rf x2), some (va_rf x3)] [] S Q := by
  unfold KO_X6_vote_41 at ok
  unfold KF_X6_vote_41 at hx
  refine c_aload_nQ dX6_vote_41 rfl rfl ?_
  have nn_42 := ok.1
  have p_42 := hS.m0k t_x3 ok.1
  refine c_getS (C := RX5) (T := TX5) (N := 7) (ci := 4) (k := 0) ⟨rfl, inT5, by decide, fX6_131⟩ (by decide) (by decide) (by decide) dX6_vote_42 (tK.cis t_x3 ok.1) (hS.m0 t_x3 ok.1) ?_
  have ok := ok.2
  refine c_iconst (v := nI 2) dX6_vote_45 (by decide) ?_
  refine c_aload_nQ dX6_vote_46 rfl rfl ?_
  have nn_47 := ok.1
  refine c_getI (C := RX6) (T := TX6) (N := 19) (ci := 5) (k := 9) ⟨rfl, inT6, by decide, fX6_43⟩ (by decide) (by decide) (by decide) dX6_vote_47 (hS.kN t_x0 ok.1) ?_
  have ok := ok.2
  refine c_SN3vK (y' := mX11_putTwo) dX6_vote_50 lX6_134 kX11_putTwo ⟨by decide, by decide⟩ (Nat.le_of_ble_eq_true rfl) (kc_X11_putTwo hG hS p_42 ok.1) (fun ⟨hS, hm_50⟩ => ?_)
  have hM := hM.trans hm_50
  have ok := ok.2
  exact cX.cutz (kb_X6_vote_53 hG hR hS hM t_x0 (hm_50.tK t_x2 (by decide)) (hm_50.tK t_x3 (by decide)) ok hx) ⟨rfl, rfl, rfl, trivial⟩
def KF_X6_vote_21 (N g H T : Nat) (x0 : Option Nat) (x1 : Int32) (x2 : Option Nat) (s0 : Option Nat) (S : cS) : Option Nat × cS := (KF_X6_vote_41 N g H T x0 x2 s0 (csA (csA S ((za s0) + 2) (nI 0).toNatClampNeg ((x1.toInt8.toInt32).toInt8.toInt32)) ((za s0) + 2) (nI 1).toNatClampNeg (((cI (csA S ((za s0) + 2) (nI 0).toNatClampNeg ((x1.toInt8.toInt32).toInt8.toInt32)) 1 (za x0)).toInt8.toInt32).toInt8.toInt32)))
def KO_X6_vote_21 (N g H T : Nat) (x0 : Option Nat) (x1 : Int32) (x2 : Option Nat) (s0 : Option Nat) (S : cS) : Prop := (¬ s0 = none) ∧ (vp_in (nI 0) (cL S ((za s0) + 2))) ∧ (¬ x0 = none) ∧ (vp_in (nI 1) (cL (csA S ((za s0) + 2) (nI 0).toNatClampNeg ((x1.toInt8.toInt32).toInt8.toInt32)) ((za s0) + 2))) ∧ KO_X6_vote_41 N g H T x0 x2 s0 (csA (csA S ((za s0) + 2) (nI 0).toNatClampNeg ((x1.toInt8.toInt32).toInt8.toInt32)) ((za s0) + 2) (nI 1).toNatClampNeg (((cI (csA S ((za s0) + 2) (nI 0).toNatClampNeg ((x1.toInt8.toInt32).toInt8.toInt32)) 1 (za x0)).toInt8.toInt32).toInt8.toInt32))
set_option maxRecDepth 100000 in
set_option maxHeartbeats 4000000 in
theorem kb_X6_vote_21 {G : zG} {o : cO} {u g H T N : Nat} {S : cS} {S0 : cS} {Q : Option Value → cS → Prop} {X : Option Nat × cS → Prop} (hG : zOK G) (hR : ∀ v S', St u g H T S' → Mono S0 S' → tK S' 5 v → X (v, S') → Q (some (va_rf v)) S') {x0 : Option Nat} {x1 : Int32} {x2 : Option Nat} {s0 : Option Nat} (hS : St u g H T S) (hM : Mono S0 S) (t_x0 : tN g H x0) (t_x2 : tK S 5 x2) (t_s0 : tK S 5 s0) (ok : KO_X6_vote_21 N g H T x0 x1 x2 s0 S) (hx : X (KF_X6_vote_21 N g H T x0 x1 x2 s0 S)) : cX G o dX6_vote mX6_vote 21 [some (va_rf x0), some (.int x1), some (va_rf x2), none] [va_rf s0] S Q := by
  unfold KO_X6_vote_21 at ok
  unfold KF_X6_vote_21 at hx
  refine c_astore_3Q dX6_vote_21 (by decide) (by simp [zok, zg, zcat_rf]) ?_
  refine c_aload_nQ dX6_vote_22 rfl rfl ?_
  have nn_23 := ok.1
  have p_23 := hS.m0k t_s0 ok.1
  refine c_getS (C := RX5) (T := TX5) (N := 7) (ci := 4) (k := 0) ⟨rfl, inT5, by decide, fX6_131⟩ (by decide) (by decide) (by decide) dX6_vote_23 (tK.cis t_s0 ok.1) (hS.m0 t_s0 ok.1) ?_
  have ok := ok.2
  refine c_iconst (v := nI 0) dX6_vote_26 (by decide) ?_
  refine c_iload_n dX6_vote_27 rfl rfl ?_
  refine c_i2b dX6_vote_28 ?_
  refine c_bast dX6_vote_29 ⟨(tK.cis p_23 (Option.some_ne_none _)), ok.1⟩ ?_
  have hS := hS.Ab ((za s0) + 2) (nI 0).toNatClampNeg (x1.toInt8.toInt32)
  have hM := hM.A ((za s0) + 2) (nI 0).toNatClampNeg ((x1.toInt8.toInt32).toInt8.toInt32)
  have ok := ok.2
  refine c_aload_nQ dX6_vote_30 rfl rfl ?_
  have p_31 := hS.m0k (tK_A t_s0) nn_23
  refine c_getS (C := RX5) (T := TX5) (N := 7) (ci := 4) (k := 0) ⟨rfl, inT5, by decide, fX6_131⟩ (by decide) (by decide) (by decide) dX6_vote_31 (tK.cis (tK_A t_s0) nn_23) (hS.m0 (tK_A t_s0) nn_23) ?_
  refine c_iconst (v := nI 1) dX6_vote_34 (by decide) ?_
  refine c_aload_nQ dX6_vote_35 rfl rfl ?_
  have nn_36 := ok.1
  refine c_getI (C := RX6) (T := TX6) (N := 19) (ci := 5) (k := 1) ⟨rfl, inT6, by decide, fX6_60⟩ (by decide) (by decide) (by decide) dX6_vote_36 (hS.kN t_x0 ok.1) ?_
  have ok := ok.2
  refine c_i2b dX6_vote_39 ?_
  refine c_bast dX6_vote_40 ⟨(tK.cis p_31 (Option.some_ne_none _)), ok.1⟩ ?_
  have hS := hS.Ab ((za s0) + 2) (nI 1).toNatClampNeg ((cI (csA S ((za s0) + 2) (nI 0).toNatClampNeg ((x1.toInt8.toInt32).toInt8.toInt32)) 1 (za x0)).toInt8.toInt32)
  have hM := hM.A ((za s0) + 2) (nI 1).toNatClampNeg (((cI (csA S ((za s0) + 2) (nI 0).toNatClampNeg ((x1.toInt8.toInt32).toInt8.toInt32)) 1 (za x0)).toInt8.toInt32).toInt8.toInt32)
  have ok := ok.2
  exact cX.cutz (kb_X6_vote_41 hG hR hS hM t_x0 (tK_A (tK_A t_x2)) (tK_A (tK_A t_s0)) ok hx) ⟨rfl, rfl, rfl, trivial⟩
def KF_X6_vote_18 (N g H T : Nat) (x0 : Option Nat) (x1 : Int32) (x2 : Option Nat) (s0 : Nat) (s1 : Int32) (S : cS) : Option Nat × cS := (KF_X6_vote_21 N g H T x0 x1 x2 ((k_X9_fresh N g H T S s0 s1).1) (k_X9_fresh N g H T S s0 s1).2)
def KO_X6_vote_18 (N g H T : Nat) (x0 : Option Nat) (x1 : Int32) (x2 : Option Nat) (s0 : Nat) (s1 : Int32) (S : cS) : Prop := (p_X9_fresh N g H T S s0 s1) ∧ KO_X6_vote_21 N g H T x0 x1 x2 ((k_X9_fresh N g H T S s0 s1).1) (k_X9_fresh N g H T S s0 s1).2
set_option maxRecDepth 100000 in
set_option maxHeartbeats 4000000 in
theorem kb_X6_vote_18 {G : zG} {o : cO} {u g H T N : Nat} {S : cS} {S0 : cS} {Q : Option Value → cS → Prop} {X : Option Nat × cS → Prop} (hG : zOK G) (hR : ∀ v S', St u g H T S' → Mono S0 S' → tK S' 5 v → X (v, S') → Q (some (va_rf v)) S') {x0 : Option Nat} {x1 : Int32} {x2 : Option Nat} {s0 : Nat} {s1 : Int32} (hS : St u g H T S) (hM : Mono S0 S) (t_x0 : tN g H x0) (t_x2 : tK S 5 x2) (t_s0 : isO g H 7 s0) (ok : KO_X6_vote_18 N g H T x0 x1 x2 s0 s1 S) (hx : X (KF_X6_vote_18 N g H T x0 x1 x2 s0 s1 S)) : cX G o dX6_vote mX6_vote 18 [some (va_rf x0), some (.int x1), some (va_rf x2), none] [.int s1, va_rf (some s0)] S Q := by
  unfold KO_X6_vote_18 at ok
  unfold KF_X6_vote_18 at hx
  refine c_V1qK (ci := 7) (rr := (RX9, TX9, 13)) (y' := mX9_fresh) dX6_vote_18 lX6_127 kX9_fresh ⟨by decide, by decide⟩ rfl rfl (by decide) (hS.k t_s0) (Nat.le_of_ble_eq_true rfl) (kc_X9_fresh hG hS t_s0 ok.1) (fun ⟨hS, hm_18, tv_18⟩ => ?_)
  have hM := hM.trans hm_18
  have ok := ok.2
  exact cX.cutz (kb_X6_vote_21 hG hR hS hM t_x0 (hm_18.tK t_x2 (by decide)) tv_18 ok hx) ⟨rfl, rfl, rfl, trivial⟩
def KF_X6_vote_0 (N g H T : Nat) (x0 : Option Nat) (x1 : Int32) (x2 : Option Nat) (S : cS) : Option Nat × cS := (if x2 = none then (KF_X6_vote_18 N g H T x0 x1 x2 (g + 11) (nI 6) S) else (KF_X6_vote_18 N g H T x0 x1 x2 (g + 11) (nI 38) S))
def KO_X6_vote_0 (N g H T : Nat) (x0 : Option Nat) (x1 : Int32) (x2 : Option Nat) (S : cS) : Prop := (¬ x0 = none) ∧ ((x2 = none → KO_X6_vote_18 N g H T x0 x1 x2 (g + 11) (nI 6) S) ∧ (¬ x2 = none → KO_X6_vote_18 N g H T x0 x1 x2 (g + 11) (nI 38) S))
set_option maxRecDepth 100000 in
set_option maxHeartbeats 4000000 in
theorem kb_X6_vote_0 {G : zG} {o : cO} {u g H T N : Nat} {S : cS} {S0 : cS} {Q : Option Value → cS → Prop} {X : Option Nat × cS → Prop} (hG : zOK G) (hR : ∀ v S', St u g H T S' → Mono S0 S' → tK S' 5 v → X (v, S') → Q (some (va_rf v)) S') {x0 : Option Nat} {x1 : Int32} {x2 : Option Nat} (hS : St u g H T S) (hM : Mono S0 S) (t_x0 : tN g H x0) (t_x2 : tK S 5 x2) (ok : KO_X6_vote_0 N g H T x0 x1 x2 S) (hx : X (KF_X6_vote_0 N g H T x0 x1 x2 S)) : cX G o dX6_vote mX6_vote 0 [some (va_rf x0), some (.int x1), some (va_rf x2), none] [] S Q := by
  unfold KO_X6_vote_0 at ok
  unfold KF_X6_vote_0 at hx
  refine c_aload_nQ dX6_vote_0 rfl rfl ?_
  have nn_1 := ok.1
  refine c_getS (C := RX6) (T := TX6) (N := 19) (ci := 5) (k := 0) ⟨rfl, inT6, by decide, fX6_56⟩ (by decide) (by decide) (by decide) dX6_vote_1 (hS.kN t_x0 ok.1) (hS.r (c := 5) (tN.o t_x0 ok.1) rfl (by omega)) ?_
  have ok := ok.2
  refine c_getS (C := RX10) (T := TX10) (N := 12) (ci := 8) (k := 6) ⟨rfl, inT10, by decide, fX6_65⟩ (by decide) (by decide) (by decide) dX6_vote_4 (hS.k (o50 (tN.o t_x0 nn_1))) (hS.r (c := 8) (o50 (tN.o t_x0 nn_1)) rfl (by omega)) ?_
  refine c_aload_nQ dX6_vote_7 rfl rfl ?_
  refine c_ifnonnullI (tgt := 16) dX6_vote_8 (by decide) (fun c_8 => ?_) (fun c_8 => ?_)
  · have ok := ok.2 c_8
    have hx := xif_n c_8 hx
    refine c_bipush (v := nI 38) dX6_vote_16 (by decide) ?_
    exact cX.cutz (kb_X6_vote_18 hG hR hS hM t_x0 t_x2 (o86 (o50 (tN.o t_x0 nn_1))) ok hx) ⟨rfl, rfl, rfl, trivial⟩
  · have ok := ok.1 c_8
    have hx := xif_p c_8 hx
    refine c_bipush (v := nI 6) dX6_vote_11 (by decide) ?_
    refine c_goto (tgt := 18) dX6_vote_13 (by decide) ?_
    exact cX.cutz (kb_X6_vote_18 hG hR hS hM t_x0 t_x2 (o86 (o50 (tN.o t_x0 nn_1))) ok hx) ⟨rfl, rfl, rfl, trivial⟩
def k_X6_vote (N g H T : Nat) (S : cS) (a0 : Nat) (x1 : Int32) (x2 : Option Nat) : Option Nat × cS := KF_X6_vote_0 N g H T (some a0) x1 x2 S
def p_X6_vote (N g H T : Nat) (S : cS) (a0 : Nat) (x1 : Int32) (x2 : Option Nat) : Prop := KO_X6_vote_0 N g H T (some a0) x1 x2 S
set_option maxRecDepth 100000 in
set_option maxHeartbeats 4000000 in
theorem kc_X6_vote {G : zG} {o : cO} {u g H T N : Nat} {S : cS} (hG : zOK G) {a0 : Nat} {x1 : Int32} {x2 : Option Nat} (hS : St u g H T S) (t_x0 : isO g H 5 a0) (t_x2 : tK S 5 x2) (ok : p_X6_vote N g H T S a0 x1 x2) : cCq G o dX6_vote mX6_vote [.ref a0, .int x1, va_rf x2] S (fun v S' => (v = (k_X6_vote N g H T S a0 x1 x2).1 ∧ S' = (k_X6_vote N g H T S a0 x1 x2).2) ∧ St u g H T S' ∧ Mono S S' ∧ tK S' 5 v) := by
  refine cC.ofX rfl (by cases x2 <;> exact Nat.le_of_ble_eq_true rfl) ?_
  rw [show zargs mX6_vote.2.2.1 [.ref a0, .int x1, va_rf x2] = [some (va_rf (some a0)), some (.int x1), some (va_rf x2), none] from by cases x2 <;> rfl]
  exact cX.cutz (kb_X6_vote_0 (X := fun F => F = k_X6_vote N g H T S a0 x1 x2) hG (fun v S' h1 h2 h3 h => ⟨v, rfl, ⟨by rw [← h], by rw [← h]⟩, h1, h2, h3⟩) hS Mono.rfl' (tN_some t_x0) t_x2 ok rfl) ⟨rfl, rfl, rfl, trivial⟩
/-! X6_forgetAnswers -/
def KF_X6_forgetAnswers_47 (N g H T : Nat)  (S : cS) : cS := S
def KO_X6_forgetAnswers_47 (N g H T : Nat)  (S : cS) : Prop := True
set_option maxRecDepth 100000 in
set_option maxHeartbeats 4000000 in
theorem kb_X6_forgetAnswers_47 {G : zG} {o : cO} {u g H T N : Nat} {S : cS} {S0 : cS} {Q : Option Value → cS → Prop} {X : cS → Prop} (hG : zOK G) (hR : ∀ S', St u g H T S' → Mono S0 S' → X S' → Q none S') (hS : St u g H T S) (hM : Mono S0 S) (ok : KO_X6_forgetAnswers_47 N g H T S) (hx : X (KF_X6_forgetAnswers_47 N g H T S)) : cX G o dX6_forgetAnswers mX6_forgetAnswers 47 [none, none, none, none] [] S Q := by
  unfold KO_X6_forgetAnswers_47 at ok
  unfold KF_X6_forgetAnswers_47 at hx
  exact c_return rfl dX6_forgetAnswers_47 (hR _ hS hM hx)
def KF_X6_forgetAnswers_32 (N g H T : Nat) (rec : Option Nat → Int32 → Int32 → Int32 → cS → Nat × cS) (x0 : Option Nat) (x1 : Int32) (x2 : Int32) (x3 : Int32) (S : cS) : Nat × cS := (rec x0 x1 x2 (x3 + nI 1) (csP S ((za x0) + 13) (x3 &&& (nI 3)).toNatClampNeg (none : Option Nat)))
def KO_X6_forgetAnswers_32 (N g H T : Nat) (rok : Option Nat → Int32 → Int32 → Int32 → cS → Prop) (x0 : Option Nat) (x1 : Int32) (x2 : Int32) (x3 : Int32) (S : cS) : Prop := (¬ x0 = none) ∧ (vp_in (x3 &&& (nI 3)) 4) ∧ rok x0 x1 x2 (x3 + nI 1) (csP S ((za x0) + 13) (x3 &&& (nI 3)).toNatClampNeg (none : Option Nat))
set_option maxRecDepth 100000 in
set_option maxHeartbeats 4000000 in
theorem kb_X6_forgetAnswers_32 {G : zG} {o : cO} {u g H T N : Nat} {S : cS} {S0 : cS} {Q : Option Value → cS → Prop} {X : Nat × cS → Prop} (hG : zOK G) (hX0 : ∀ (S' : cS), St u g H T S' → Mono S0 S' → X (0, S') → cX G o dX6_forgetAnswers mX6_forgetAnswers 47 [none, none, none, none] [] S' Q) {rec : Option Nat → Int32 → Int32 → Int32 → cS → Nat × cS} {rok : Option Nat → Int32 → Int32 → Int32 → cS → Prop} (hrec : ∀ (x0 : Option Nat) (x1 : Int32) (x2 : Int32) (x3 : Int32) (S : cS), St u g H T S → Mono S0 S → tN g H x0 → rok x0 x1 x2 x3 S → X (rec x0 x1 x2 x3 S) → cX G o dX6_forgetAnswers mX6_forgetAnswers 2 [some (va_rf x0), some (.int x1), some (.int x2), some (.int x3)] [] S Q) {x0 : Option Nat} {x1 : Int32} {x2 : Int32} {x3 : Int32} (hS : St u g H T S) (hM : Mono S0 S) (t_x0 : tN g H x0) (ok : KO_X6_forgetAnswers_32 N g H T rok x0 x1 x2 x3 S) (hx : X (KF_X6_forgetAnswers_32 N g H T rec x0 x1 x2 x3 S)) : cX G o dX6_forgetAnswers mX6_forgetAnswers 32 [some (va_rf x0), some (.int x1), some (.int x2), some (.int x3)] [] S Q := by
  unfold KO_X6_forgetAnswers_32 at ok
  unfold KF_X6_forgetAnswers_32 at hx
  refine c_aload_nQ dX6_forgetAnswers_32 rfl rfl ?_
  have nn_33 := ok.1
  refine c_getS (C := RX6) (T := TX6) (N := 19) (ci := 5) (k := 7) ⟨rfl, inT6, by decide, fX6_35⟩ (by decide) (by decide) (by decide) dX6_forgetAnswers_33 (hS.kN t_x0 ok.1) (hS.r (c := 5) (tN.o t_x0 ok.1) rfl (by omega)) ?_
  have ok := ok.2
  refine c_iload_n dX6_forgetAnswers_36 rfl rfl ?_
  refine c_iconst (v := nI 3) dX6_forgetAnswers_37 (by decide) ?_
  refine c_iand dX6_forgetAnswers_38 ?_
  refine c_null' dX6_forgetAnswers_39 ?_
  have hS2 := hS.P24 (i := (x3 &&& (nI 3)).toNatClampNeg) ((hS.rk (c := 5) (k := 7) (tN.o t_x0 nn_33) rfl (by omega)) _ rfl) tK_none
  refine c_aast (t := 4) (ci := 4) (rr := (RX5, TX5, 7)) rfl rfl (by decide) (by decide) dX6_forgetAnswers_40 ⟨(tK.cis (hS.rk (c := 5) (k := 7) (tN.o t_x0 nn_33) rfl (by omega)) (Option.some_ne_none _)), (vk_cast (hS.rl (c := 5) (k := 7) (tN.o t_x0 nn_33) rfl (by decide) (by omega)) ok.1), tKor tK_none⟩ ?_
  have hS := hS2
  have hM := hM.P ((za x0) + 13) (x3 &&& (nI 3)).toNatClampNeg (none : Option Nat)
  have ok := ok.2
  refine c_iinc_3 (v := (x3 + nI 1)) dX6_forgetAnswers_41 rfl (by first | rfl | (congr 1)) (by decide) rfl ?_
  refine c_goto (tgt := 2) dX6_forgetAnswers_44 (by decide) ?_
  exact cX.cutz (hrec _ _ _ _ (csP S ((za x0) + 13) (x3 &&& (nI 3)).toNatClampNeg (none : Option Nat)) hS hM t_x0 ok hx) ⟨rfl, rfl, rfl, rfl, trivial⟩
def KB_X6_forgetAnswers_2 (N g H T : Nat) (rec : Option Nat → Int32 → Int32 → Int32 → cS → Nat × cS) (x0 : Option Nat) (x1 : Int32) (x2 : Int32) (x3 : Int32) (S : cS) : Nat × cS := (if x2 ≤ x3 then (0, S) else (if (x1 + (nI 4)) ≤ x3 then (0, S) else (KF_X6_forgetAnswers_32 N g H T rec x0 x1 x2 x3 (k_X9_drop N g H T S (g + 11) (cP S ((za x0) + 13) (x3 &&& (nI 3)).toNatClampNeg)))))
def KOB_X6_forgetAnswers_2 (N g H T : Nat) (rok : Option Nat → Int32 → Int32 → Int32 → cS → Prop) (x0 : Option Nat) (x1 : Int32) (x2 : Int32) (x3 : Int32) (S : cS) : Prop := ((x2 ≤ x3 → True) ∧ (¬ x2 ≤ x3 → (((x1 + (nI 4)) ≤ x3 → True) ∧ (¬ (x1 + (nI 4)) ≤ x3 → (¬ x0 = none) ∧ (vp_in (x3 &&& (nI 3)) 4) ∧ (p_X9_drop N g H T S (g + 11) (cP S ((za x0) + 13) (x3 &&& (nI 3)).toNatClampNeg)) ∧ KO_X6_forgetAnswers_32 N g H T rok x0 x1 x2 x3 (k_X9_drop N g H T S (g + 11) (cP S ((za x0) + 13) (x3 &&& (nI 3)).toNatClampNeg))))))
set_option maxRecDepth 100000 in
set_option maxHeartbeats 4000000 in
theorem kbb_X6_forgetAnswers_2 {G : zG} {o : cO} {u g H T N : Nat} {S : cS} {S0 : cS} {Q : Option Value → cS → Prop} {X : Nat × cS → Prop} (hG : zOK G) (hX0 : ∀ (S' : cS), St u g H T S' → Mono S0 S' → X (0, S') → cX G o dX6_forgetAnswers mX6_forgetAnswers 47 [none, none, none, none] [] S' Q) {rec : Option Nat → Int32 → Int32 → Int32 → cS → Nat × cS} {rok : Option Nat → Int32 → Int32 → Int32 → cS → Prop} (hrec : ∀ (x0 : Option Nat) (x1 : Int32) (x2 : Int32) (x3 : Int32) (S : cS), St u g H T S → Mono S0 S → tN g H x0 → rok x0 x1 x2 x3 S → X (rec x0 x1 x2 x3 S) → cX G o dX6_forgetAnswers mX6_forgetAnswers 2 [some (va_rf x0), some (.int x1), some (.int x2), some (.int x3)] [] S Q) {x0 : Option Nat} {x1 : Int32} {x2 : Int32} {x3 : Int32} (hS : St u g H T S) (hM : Mono S0 S) (t_x0 : tN g H x0) (ok : KOB_X6_forgetAnswers_2 N g H T rok x0 x1 x2 x3 S) (hx : X (KB_X6_forgetAnswers_2 N g H T rec x0 x1 x2 x3 S)) : cX G o dX6_forgetAnswers mX6_forgetAnswers 2 [some (va_rf x0), some (.int x1), some (.int x2), some (.int x3)] [] S Q := by
  unfold KOB_X6_forgetAnswers_2 at ok
  unfold KB_X6_forgetAnswers_2 at hx
  refine c_iload_n dX6_forgetAnswers_2 rfl rfl ?_
  refine c_iload_n dX6_forgetAnswers_3 rfl rfl ?_
  refine c_icmp_ge (tgt := 47) dX6_forgetAnswers_4 (by decide) (fun c_4 => ?_) (fun c_4 => ?_)
  · have ok := ok.1 c_4
    have hx := xif_p c_4 hx
    exact cX.cutz (hX0 S hS hM  hx) trivial
  · have ok := ok.2 c_4
    have hx := xif_n c_4 hx
    refine c_iload_n dX6_forgetAnswers_7 rfl rfl ?_
    refine c_iload_n dX6_forgetAnswers_8 rfl rfl ?_
    refine c_iconst (v := nI 4) dX6_forgetAnswers_9 (by decide) ?_
    refine c_iadd dX6_forgetAnswers_10 ?_
    refine c_icmp_ge (tgt := 47) dX6_forgetAnswers_11 (by decide) (fun c_11 => ?_) (fun c_11 => ?_)
    · have ok := ok.1 c_11
      have hx := xif_p c_11 hx
      exact cX.cutz (hX0 S hS hM  hx) trivial
    · have ok := ok.2 c_11
      have hx := xif_n c_11 hx
      refine c_aload_nQ dX6_forgetAnswers_14 rfl rfl ?_
      have nn_15 := ok.1
      refine c_getS (C := RX6) (T := TX6) (N := 19) (ci := 5) (k := 0) ⟨rfl, inT6, by decide, fX6_56⟩ (by decide) (by decide) (by decide) dX6_forgetAnswers_15 (hS.kN t_x0 ok.1) (hS.r (c := 5) (tN.o t_x0 ok.1) rfl (by omega)) ?_
      have ok := ok.2
      refine c_getS (C := RX10) (T := TX10) (N := 12) (ci := 8) (k := 6) ⟨rfl, inT10, by decide, fX6_65⟩ (by decide) (by decide) (by decide) dX6_forgetAnswers_18 (hS.k (o50 (tN.o t_x0 nn_15))) (hS.r (c := 8) (o50 (tN.o t_x0 nn_15)) rfl (by omega)) ?_
      refine c_aload_nQ dX6_forgetAnswers_21 rfl rfl ?_
      refine c_getS (C := RX6) (T := TX6) (N := 19) (ci := 5) (k := 7) ⟨rfl, inT6, by decide, fX6_35⟩ (by decide) (by decide) (by decide) dX6_forgetAnswers_22 (hS.kN t_x0 nn_15) (hS.r (c := 5) (tN.o t_x0 nn_15) rfl (by omega)) ?_
      refine c_iload_n dX6_forgetAnswers_25 rfl rfl ?_
      refine c_iconst (v := nI 3) dX6_forgetAnswers_26 (by decide) ?_
      refine c_iand dX6_forgetAnswers_27 ?_
      have p_28 := hS.row24 (hS.rk (c := 5) (k := 7) (tN.o t_x0 nn_15) rfl (by omega)) (x3 &&& (nI 3)).toNatClampNeg
      refine c_aald (t := 4) (ty := (.object "QuorumLedger$Message")) rfl rfl (by decide) dX6_forgetAnswers_28 ⟨(tK.cis (hS.rk (c := 5) (k := 7) (tN.o t_x0 nn_15) rfl (by omega)) (Option.some_ne_none _)), (vk_cast (hS.rl (c := 5) (k := 7) (tN.o t_x0 nn_15) rfl (by decide) (by omega)) ok.1)⟩ ?_
      have ok := ok.2
      refine c_V1vK (ci := 7) (rr := (RX9, TX9, 13)) (y' := mX9_drop) dX6_forgetAnswers_29 lX6_123 kX9_drop ⟨by decide, by decide⟩ rfl rfl (by decide) (hS.k (o86 (o50 (tN.o t_x0 nn_15)))) (Nat.le_of_ble_eq_true rfl) (kc_X9_drop hG hS (o86 (o50 (tN.o t_x0 nn_15))) p_28 ok.1) (fun ⟨hS, hm_29⟩ => ?_)
      have hM := hM.trans hm_29
      have ok := ok.2
      exact cX.cutz (kb_X6_forgetAnswers_32 hG hX0 hrec hS hM t_x0 ok hx) ⟨rfl, rfl, rfl, rfl, trivial⟩
def KL_X6_forgetAnswers_2 (N g H T : Nat) : Nat → Option Nat → Int32 → Int32 → Int32 → cS → Nat × cS
  | 0, x0, x1, x2, x3, S => (0, S)
  | n + 1, x0, x1, x2, x3, S => KB_X6_forgetAnswers_2 N g H T (KL_X6_forgetAnswers_2 N g H T n) x0 x1 x2 x3 S
def KOL_X6_forgetAnswers_2 (N g H T : Nat) : Nat → Option Nat → Int32 → Int32 → Int32 → cS → Prop
  | 0, _, _, _, _, _ => False
  | n + 1, x0, x1, x2, x3, S => KOB_X6_forgetAnswers_2 N g H T (KOL_X6_forgetAnswers_2 N g H T n) x0 x1 x2 x3 S
set_option maxRecDepth 100000 in
set_option maxHeartbeats 4000000 in
theorem kl_X6_forgetAnswers_2 {G : zG} {o : cO} {u g H T N : Nat} {S0 : cS} {Q : Option Value → cS → Prop} {X : Nat × cS → Prop} (hG : zOK G) (hX0 : ∀ (S' : cS), St u g H T S' → Mono S0 S' → X (0, S') → cX G o dX6_forgetAnswers mX6_forgetAnswers 47 [none, none, none, none] [] S' Q) : ∀ (n : Nat) (x0 : Option Nat) (x1 : Int32) (x2 : Int32) (x3 : Int32) (S : cS), St u g H T S → Mono S0 S → tN g H x0 → KOL_X6_forgetAnswers_2 N g H T n x0 x1 x2 x3 S → X (KL_X6_forgetAnswers_2 N g H T n x0 x1 x2 x3 S) → cX G o dX6_forgetAnswers mX6_forgetAnswers 2 [some (va_rf x0), some (.int x1), some (.int x2), some (.int x3)] [] S Q := by
  intro n
  induction n with
  | zero => intro x0 x1 x2 x3 S hS hM t_x0 ok; exact absurd ok id
  | succ n ih =>
    intro x0 x1 x2 x3 S hS hM t_x0 ok hx
    exact kbb_X6_forgetAnswers_2 hG hX0 (rec := KL_X6_forgetAnswers_2 N g H T n) (rok := KOL_X6_forgetAnswers_2 N g H T n) (fun x0 x1 x2 x3 S hS hM t_x0 ok hx => ih x0 x1 x2 x3 S hS hM t_x0 ok hx) hS hM t_x0 ok hx
def KA_X6_forgetAnswers_2 (N g H T : Nat) (x0 : Option Nat) (x1 : Int32) (x2 : Int32) (x3 : Int32) (S : cS) (z : Nat × cS) : cS := (KF_X6_forgetAnswers_47 N g H T z.2)
def KOA_X6_forgetAnswers_2 (N g H T : Nat) (x0 : Option Nat) (x1 : Int32) (x2 : Int32) (x3 : Int32) (S : cS) (z : Nat × cS) : Prop := KO_X6_forgetAnswers_47 N g H T z.2
set_option maxRecDepth 100000 in
set_option maxHeartbeats 4000000 in
theorem kd_X6_forgetAnswers_2 {G : zG} {o : cO} {u g H T N : Nat} {S : cS} {S0 : cS} {Q : Option Value → cS → Prop} {X : cS → Prop} (hG : zOK G) (hR : ∀ S', St u g H T S' → Mono S0 S' → X S' → Q none S') {x0 : Option Nat} {x1 : Int32} {x2 : Int32} {x3 : Int32} (hS : St u g H T S) (hM : Mono S0 S) (t_x0 : tN g H x0) (ok : KOL_X6_forgetAnswers_2 N g H T N x0 x1 x2 x3 S ∧ KOA_X6_forgetAnswers_2 N g H T x0 x1 x2 x3 S (KL_X6_forgetAnswers_2 N g H T N x0 x1 x2 x3 S)) (hx : X (KA_X6_forgetAnswers_2 N g H T x0 x1 x2 x3 S (KL_X6_forgetAnswers_2 N g H T N x0 x1 x2 x3 S))) : cX G o dX6_forgetAnswers mX6_forgetAnswers 2 [some (va_rf x0), some (.int x1), some (.int x2), some (.int x3)] [] S Q := by
  refine kl_X6_forgetAnswers_2 hG ?_ N x0 x1 x2 x3 S hS hM t_x0 ok.1 (X := fun z => KOA_X6_forgetAnswers_2 N g H T x0 x1 x2 x3 S z ∧ X (KA_X6_forgetAnswers_2 N g H T x0 x1 x2 x3 S z)) ⟨ok.2, hx⟩
  · intro S' hS hM hz
    obtain ⟨ok, hx⟩ := hz
    unfold KOA_X6_forgetAnswers_2 at ok
    unfold KA_X6_forgetAnswers_2 at hx
    exact cX.cutz (kb_X6_forgetAnswers_47 hG hR hS hM  ok hx) trivial
def KF_X6_forgetAnswers_0 (N g H T : Nat) (x0 : Option Nat) (x1 : Int32) (x2 : Int32) (S : cS) : cS := (KA_X6_forgetAnswers_2 N g H T x0 x1 x2 x1 S (KL_X6_forgetAnswers_2 N g H T N x0 x1 x2 x1 S))
def KO_X6_forgetAnswers_0 (N g H T : Nat) (x0 : Option Nat) (x1 : Int32) (x2 : Int32) (S : cS) : Prop := (KOL_X6_forgetAnswers_2 N g H T N x0 x1 x2 x1 S ∧ KOA_X6_forgetAnswers_2 N g H T x0 x1 x2 x1 S (KL_X6_forgetAnswers_2 N g H T N x0 x1 x2 x1 S))
set_option maxRecDepth 100000 in
set_option maxHeartbeats 4000000 in
theorem kb_X6_forgetAnswers_0 {G : zG} {o : cO} {u g H T N : Nat} {S : cS} {S0 : cS} {Q : Option Value → cS → Prop} {X : cS → Prop} (hG : zOK G) (hR : ∀ S', St u g H T S' → Mono S0 S' → X S' → Q none S') {x0 : Option Nat} {x1 : Int32} {x2 : Int32} (hS : St u g H T S) (hM : Mono S0 S) (t_x0 : tN g H x0) (ok : KO_X6_forgetAnswers_0 N g H T x0 x1 x2 S) (hx : X (KF_X6_forgetAnswers_0 N g H T x0 x1 x2 S)) : cX G o dX6_forgetAnswers mX6_forgetAnswers 0 [some (va_rf x0), some (.int x1), some (.int x2), none] [] S Q := by
  unfold KO_X6_forgetAnswers_0 at ok
  unfold KF_X6_forgetAnswers_0 at hx
  refine c_iload_n dX6_forgetAnswers_0 rfl rfl ?_
  refine c_istore_3 dX6_forgetAnswers_1 (by decide) rfl ?_
  exact cX.cutz (kd_X6_forgetAnswers_2 hG hR hS hM t_x0 ok hx) ⟨rfl, rfl, rfl, rfl, trivial⟩
def k_X6_forgetAnswers (N g H T : Nat) (S : cS) (a0 : Nat) (x1 : Int32) (x2 : Int32) : cS := KF_X6_forgetAnswers_0 N g H T (some a0) x1 x2 S
def p_X6_forgetAnswers (N g H T : Nat) (S : cS) (a0 : Nat) (x1 : Int32) (x2 : Int32) : Prop := KO_X6_forgetAnswers_0 N g H T (some a0) x1 x2 S
set_option maxRecDepth 100000 in
set_option maxHeartbeats 4000000 in
theorem kc_X6_forgetAnswers {G : zG} {o : cO} {u g H T N : Nat} {S : cS} (hG : zOK G) {a0 : Nat} {x1 : Int32} {x2 : Int32} (hS : St u g H T S) (t_x0 : isO g H 5 a0) (ok : p_X6_forgetAnswers N g H T S a0 x1 x2) : cCv G o dX6_forgetAnswers mX6_forgetAnswers [.ref a0, .int x1, .int x2] S (fun S' => S' = k_X6_forgetAnswers N g H T S a0 x1 x2 ∧ St u g H T S' ∧ Mono S S') := by
  refine cC.ofX rfl (by exact Nat.le_of_ble_eq_true rfl) ?_
  show cX G o dX6_forgetAnswers mX6_forgetAnswers 0 [some (va_rf (some a0)), some (.int x1), some (.int x2), none] [] S _
  exact cX.cutz (kb_X6_forgetAnswers_0 (X := fun F => F = k_X6_forgetAnswers N g H T S a0 x1 x2) hG (fun S' h1 h2 h => ⟨rfl, h, h1, h2⟩) hS Mono.rfl' (tN_some t_x0) ok rfl) ⟨rfl, rfl, rfl, trivial⟩
/-! X7_signProposal -/
def KF_X7_signProposal_21 (N g H T : Nat) (x0 : Option Nat) (x1 : Option Nat) (x2 : Int32) (S : cS) : cS := (csA (csA S (za x1) (nI 4).toNatClampNeg (((cI S 10 (za x0)).toInt8.toInt32).toInt8.toInt32)) (za x1) (nI 5).toNatClampNeg ((x2.toInt8.toInt32).toInt8.toInt32))
def KO_X7_signProposal_21 (N g H T : Nat) (x0 : Option Nat) (x1 : Option Nat) (x2 : Int32) (S : cS) : Prop := (¬ x0 = none) ∧ (¬ x1 = none ∧ vp_in (nI 4) (cL S (za x1))) ∧ (¬ x1 = none ∧ vp_in (nI 5) (cL (csA S (za x1) (nI 4).toNatClampNeg (((cI S 10 (za x0)).toInt8.toInt32).toInt8.toInt32)) (za x1))) ∧ True
set_option maxRecDepth 100000 in
set_option maxHeartbeats 4000000 in
theorem kb_X7_signProposal_21 {G : zG} {o : cO} {u g H T N : Nat} {S : cS} {S0 : cS} {Q : Option Value → cS → Prop} {X : cS → Prop} (hG : zOK G) (hR : ∀ S', St u g H T S' → Mono S0 S' → X S' → Q none S') {x0 : Option Nat} {x1 : Option Nat} {x2 : Int32} (hS : St u g H T S) (hM : Mono S0 S) (t_x0 : tN g H x0) (t_x1 : tK S 20 x1) (ok : KO_X7_signProposal_21 N g H T x0 x1 x2 S) (hx : X (KF_X7_signProposal_21 N g H T x0 x1 x2 S)) : cX G o dX7_signProposal mX7_signProposal 21 [some (va_rf x0), some (va_rf x1), some (.int x2)] [] S Q := by
  unfold KO_X7_signProposal_21 at ok
  unfold KF_X7_signProposal_21 at hx
  refine c_aload_nQ dX7_signProposal_21 rfl rfl ?_
  refine c_iconst (v := nI 4) dX7_signProposal_22 (by decide) ?_
  refine c_aload_nQ dX7_signProposal_23 rfl rfl ?_
  have nn_24 := ok.1
  refine c_getI (C := RX6) (T := TX6) (N := 19) (ci := 5) (k := 10) ⟨rfl, inT6, by decide, fX7_213⟩ (by decide) (by decide) (by decide) dX7_signProposal_24 (hS.kN t_x0 ok.1) ?_
  have ok := ok.2
  refine c_i2b dX7_signProposal_27 ?_
  refine c_bast dX7_signProposal_28 ⟨(tK.cis t_x1 ok.1.1), ok.1.2⟩ ?_
  have hS := hS.Ab (za x1) (nI 4).toNatClampNeg ((cI S 10 (za x0)).toInt8.toInt32)
  have hM := hM.A (za x1) (nI 4).toNatClampNeg (((cI S 10 (za x0)).toInt8.toInt32).toInt8.toInt32)
  have ok := ok.2
  refine c_aload_nQ dX7_signProposal_29 rfl rfl ?_
  refine c_iconst (v := nI 5) dX7_signProposal_30 (by decide) ?_
  refine c_iload_n dX7_signProposal_31 rfl rfl ?_
  refine c_i2b dX7_signProposal_32 ?_
  refine c_bast dX7_signProposal_33 ⟨(tK.cis (tK_A t_x1) ok.1.1), ok.1.2⟩ ?_
  have hS := hS.Ab (za x1) (nI 5).toNatClampNeg (x2.toInt8.toInt32)
  have hM := hM.A (za x1) (nI 5).toNatClampNeg ((x2.toInt8.toInt32).toInt8.toInt32)
  have ok := ok.2
  exact c_return rfl dX7_signProposal_34 (hR _ hS hM hx)
def KF_X7_signProposal_12 (N g H T : Nat) (x0 : Option Nat) (x1 : Option Nat) (x2 : Int32) (S : cS) : cS := (KF_X7_signProposal_21 N g H T x0 x1 x2 (k_X11_putTwo N g H T S x1 (nI 2) (cI S 9 (za x0))))
def KO_X7_signProposal_12 (N g H T : Nat) (x0 : Option Nat) (x1 : Option Nat) (x2 : Int32) (S : cS) : Prop := (¬ x0 = none) ∧ (p_X11_putTwo N g H T S x1 (nI 2) (cI S 9 (za x0))) ∧ KO_X7_signProposal_21 N g H T x0 x1 x2 (k_X11_putTwo N g H T S x1 (nI 2) (cI S 9 (za x0)))
set_option maxRecDepth 100000 in
set_option maxHeartbeats 4000000 in
theorem kb_X7_signProposal_12 {G : zG} {o : cO} {u g H T N : Nat} {S : cS} {S0 : cS} {Q : Option Value → cS → Prop} {X : cS → Prop} (hG : zOK G) (hR : ∀ S', St u g H T S' → Mono S0 S' → X S' → Q none S') {x0 : Option Nat} {x1 : Option Nat} {x2 : Int32} (hS : St u g H T S) (hM : Mono S0 S) (t_x0 : tN g H x0) (t_x1 : tK S 20 x1) (ok : KO_X7_signProposal_12 N g H T x0 x1 x2 S) (hx : X (KF_X7_signProposal_12 N g H T x0 x1 x2 S)) : cX G o dX7_signProposal mX7_signProposal 12 [some (va_rf x0), some (va_rf x1), some (.int x2)] [] S Q := by
  unfold KO_X7_signProposal_12 at ok
  unfold KF_X7_signProposal_12 at hx
  refine c_aload_nQ dX7_signProposal_12 rfl rfl ?_
  refine c_iconst (v := nI 2) dX7_signProposal_13 (by decide) ?_
  refine c_aload_nQ dX7_signProposal_14 rfl rfl ?_
  have nn_15 := ok.1
  refine c_getI (C := RX6) (T := TX6) (N := 19) (ci := 5) (k := 9) ⟨rfl, inT6, by decide, fX7_18⟩ (by decide) (by decide) (by decide) dX7_signProposal_15 (hS.kN t_x0 ok.1) ?_
  have ok := ok.2
  refine c_SN3vK (y' := mX11_putTwo) dX7_signProposal_18 lX7_331 kX11_putTwo ⟨by decide, by decide⟩ (Nat.le_of_ble_eq_true rfl) (kc_X11_putTwo hG hS t_x1 ok.1) (fun ⟨hS, hm_18⟩ => ?_)
  have hM := hM.trans hm_18
  have ok := ok.2
  exact cX.cutz (kb_X7_signProposal_21 hG hR hS hM t_x0 (hm_18.tK t_x1 (by decide)) ok hx) ⟨rfl, rfl, rfl, trivial⟩
def KF_X7_signProposal_0 (N g H T : Nat) (x0 : Option Nat) (x1 : Option Nat) (x2 : Int32) (S : cS) : cS := (KF_X7_signProposal_12 N g H T x0 x1 x2 (csA (csA S (za x1) (nI 0).toNatClampNeg ((nI 1).toInt8.toInt32)) (za x1) (nI 1).toNatClampNeg (((cI (csA S (za x1) (nI 0).toNatClampNeg ((nI 1).toInt8.toInt32)) 1 (za x0)).toInt8.toInt32).toInt8.toInt32)))
def KO_X7_signProposal_0 (N g H T : Nat) (x0 : Option Nat) (x1 : Option Nat) (x2 : Int32) (S : cS) : Prop := (¬ x1 = none ∧ vp_in (nI 0) (cL S (za x1))) ∧ (¬ x0 = none) ∧ (¬ x1 = none ∧ vp_in (nI 1) (cL (csA S (za x1) (nI 0).toNatClampNeg ((nI 1).toInt8.toInt32)) (za x1))) ∧ KO_X7_signProposal_12 N g H T x0 x1 x2 (csA (csA S (za x1) (nI 0).toNatClampNeg ((nI 1).toInt8.toInt32)) (za x1) (nI 1).toNatClampNeg (((cI (csA S (za x1) (nI 0).toNatClampNeg ((nI 1).toInt8.toInt32)) 1 (za x0)).toInt8.toInt32).toInt8.toInt32))
set_option maxRecDepth 100000 in
set_option maxHeartbeats 4000000 in
theorem kb_X7_signProposal_0 {G : zG} {o : cO} {u g H T N : Nat} {S : cS} {S0 : cS} {Q : Option Value → cS → Prop} {X : cS → Prop} (hG : zOK G) (hR : ∀ S', St u g H T S' → Mono S0 S' → X S' → Q none S') {x0 : Option Nat} {x1 : Option Nat} {x2 : Int32} (hS : St u g H T S) (hM : Mono S0 S) (t_x0 : tN g H x0) (t_x1 : tK S 20 x1) (ok : KO_X7_signProposal_0 N g H T x0 x1 x2 S) (hx : X (KF_X7_signProposal_0 N g H T x0 x1 x2 S)) : cX G o dX7_signProposal mX7_signProposal 0 [some (va_rf x0), some (va_rf x1), some (.int x2)] [] S Q := by
  unfold KO_X7_signProposal_0 at ok
  unfold KF_X7_signProposal_0 at hx
  refine c_aload_nQ dX7_signProposal_0 rfl rfl ?_
  refine c_iconst (v := nI 0) dX7_signProposal_1 (by decide) ?_
  refine c_iconst (v := nI 1) dX7_signProposal_2 (by decide) ?_
  refine c_bast dX7_signProposal_3 ⟨(tK.cis t_x1 ok.1.1), ok.1.2⟩ ?_
  have hS := hS.Ab (za x1) (nI 0).toNatClampNeg (nI 1)
  have hM := hM.A (za x1) (nI 0).toNatClampNeg ((nI 1).toInt8.toInt32)
  have ok := ok.2
  refine c_aload_nQ dX7_signProposal_4 rfl rfl ?_
  refine c_iconst (v := nI 1) dX7_signProposal_5 (by decide) ?_
  refine c_aload_nQ dX7_signProposal_6 rfl rfl ?_
  have nn_7 := ok.1
  refine c_getI (C := RX6) (T := TX6) (N := 19) (ci := 5) (k := 1) ⟨rfl, inT6, by decide, fX7_271⟩ (by decide) (by decide) (by decide) dX7_signProposal_7 (hS.kN t_x0 ok.1) ?_
  have ok := ok.2
  refine c_i2b dX7_signProposal_10 ?_
  refine c_bast dX7_signProposal_11 ⟨(tK.cis (tK_A t_x1) ok.1.1), ok.1.2⟩ ?_
  have hS := hS.Ab (za x1) (nI 1).toNatClampNeg ((cI (csA S (za x1) (nI 0).toNatClampNeg ((nI 1).toInt8.toInt32)) 1 (za x0)).toInt8.toInt32)
  have hM := hM.A (za x1) (nI 1).toNatClampNeg (((cI (csA S (za x1) (nI 0).toNatClampNeg ((nI 1).toInt8.toInt32)) 1 (za x0)).toInt8.toInt32).toInt8.toInt32)
  have ok := ok.2
  exact cX.cutz (kb_X7_signProposal_12 hG hR hS hM t_x0 (tK_A (tK_A t_x1)) ok hx) ⟨rfl, rfl, rfl, trivial⟩
def k_X7_signProposal (N g H T : Nat) (S : cS) (x0 : Option Nat) (x1 : Option Nat) (x2 : Int32) : cS := KF_X7_signProposal_0 N g H T x0 x1 x2 S
def p_X7_signProposal (N g H T : Nat) (S : cS) (x0 : Option Nat) (x1 : Option Nat) (x2 : Int32) : Prop := KO_X7_signProposal_0 N g H T x0 x1 x2 S
set_option maxRecDepth 100000 in
set_option maxHeartbeats 4000000 in
theorem kc_X7_signProposal {G : zG} {o : cO} {u g H T N : Nat} {S : cS} (hG : zOK G) {x0 : Option Nat} {x1 : Option Nat} {x2 : Int32} (hS : St u g H T S) (t_x0 : tN g H x0) (t_x1 : tK S 20 x1) (ok : p_X7_signProposal N g H T S x0 x1 x2) : cCv G o dX7_signProposal mX7_signProposal [va_rf x0, va_rf x1, .int x2] S (fun S' => S' = k_X7_signProposal N g H T S x0 x1 x2 ∧ St u g H T S' ∧ Mono S S') := by
  refine cC.ofX rfl (by cases x0 <;> cases x1 <;> exact Nat.le_of_ble_eq_true rfl) ?_
  rw [show zargs mX7_signProposal.2.2.1 [va_rf x0, va_rf x1, .int x2] = [some (va_rf x0), some (va_rf x1), some (.int x2)] from by cases x0 <;> cases x1 <;> rfl]
  exact cX.cutz (kb_X7_signProposal_0 (X := fun F => F = k_X7_signProposal N g H T S x0 x1 x2) hG (fun S' h1 h2 h => ⟨rfl, h, h1, h2⟩) hS Mono.rfl' t_x0 t_x1 ok rfl) ⟨rfl, rfl, rfl, trivial⟩
/-! X7_again -/
def KF_X7_again_73 (N g H T : Nat) (x2 : Option Nat) (S : cS) : Option Nat × cS := (x2, S)
def KO_X7_again_73 (N g H T : Nat) (x2 : Option Nat) (S : cS) : Prop := True
set_option maxRecDepth 100000 in
set_option maxHeartbeats 4000000 in
theorem kb_X7_again_73 {G : zG} {o : cO} {u g H T N : Nat} {S : cS} {S0 : cS} {Q : Option Value → cS → Prop} {X : Option Nat × cS → Prop} (hG : zOK G) (hR : ∀ v S', St u g H T S' → Mono S0 S' → tK S' 5 v → X (v, S') → Q (some (va_rf v)) S') {x2 : Option Nat} (hS : St u g H T S) (hM : Mono S0 S) (t_x2 : tK S 5 x2) (ok : KO_X7_again_73 N g H T x2 S) (hx : X (KF_X7_again_73 N g H T x2 S)) : cX G o dX7_again mX7_again 73 [none, none, some (va_rf x2)] [] S Q := by
  unfold KO_X7_again_73 at ok
  unfold KF_X7_again_73 at hx
  refine c_aload_nQ dX7_again_73 rfl rfl ?_
  exact c_areturn rfl (Or.inl ⟨_, rfl⟩) dX7_again_74 (hR _ _ hS hM t_x2 hx)
def KF_X7_again_63 (N g H T : Nat) (x2 : Option Nat) (S : cS) : Option Nat × cS := (KF_X7_again_73 N g H T x2 (csI (csI S 5 (za x2) (nI 1)) 4 (za x2) (nI 1)))
def KO_X7_again_63 (N g H T : Nat) (x2 : Option Nat) (S : cS) : Prop := (¬ x2 = none) ∧ KO_X7_again_73 N g H T x2 (csI (csI S 5 (za x2) (nI 1)) 4 (za x2) (nI 1))
set_option maxRecDepth 100000 in
set_option maxHeartbeats 4000000 in
theorem kb_X7_again_63 {G : zG} {o : cO} {u g H T N : Nat} {S : cS} {S0 : cS} {Q : Option Value → cS → Prop} {X : Option Nat × cS → Prop} (hG : zOK G) (hR : ∀ v S', St u g H T S' → Mono S0 S' → tK S' 5 v → X (v, S') → Q (some (va_rf v)) S') {x2 : Option Nat} (hS : St u g H T S) (hM : Mono S0 S) (t_x2 : tK S 5 x2) (ok : KO_X7_again_63 N g H T x2 S) (hx : X (KF_X7_again_63 N g H T x2 S)) : cX G o dX7_again mX7_again 63 [none, none, some (va_rf x2)] [] S Q := by
  unfold KO_X7_again_63 at ok
  unfold KF_X7_again_63 at hx
  refine c_aload_nQ dX7_again_63 rfl rfl ?_
  refine c_iconst (v := nI 1) dX7_again_64 (by decide) ?_
  have nn_65 := ok.1
  refine c_putI (C := RX5) (T := TX5) (N := 7) (ci := 4) (k := 5) ⟨rfl, inT5, by decide, fX7_322⟩ ftT5 rfl (by decide) (by decide) (by decide) rfl rfl dX7_again_65 (tK.cis t_x2 ok.1) ?_
  have hS := hS.I 5 (za x2) (nI 1)
  have hM := hM.I 5 (za x2) (nI 1)
  have ok := ok.2
  refine c_aload_nQ dX7_again_68 rfl rfl ?_
  refine c_iconst (v := nI 1) dX7_again_69 (by decide) ?_
  refine c_putI (C := RX5) (T := TX5) (N := 7) (ci := 4) (k := 4) ⟨rfl, inT5, by decide, fX7_325⟩ ftT5 rfl (by decide) (by decide) (by decide) rfl rfl dX7_again_70 (tK.cis (tK_I t_x2) nn_65) ?_
  have hS := hS.I 4 (za x2) (nI 1)
  have hM := hM.I 4 (za x2) (nI 1)
  exact cX.cutz (kb_X7_again_73 hG hR hS hM (tK_I (tK_I t_x2)) ok hx) ⟨rfl, trivial⟩
def KF_X7_again_49 (N g H T : Nat) (x1 : Option Nat) (x2 : Option Nat) (S : cS) : Option Nat × cS := (KF_X7_again_63 N g H T x2 (csJrow S ((za x2) + 1) (va_cpy (cJ S ((za x1) + 1)) (cJ S ((za x2) + 1)) (nI 0).toNatClampNeg (nI 0).toNatClampNeg (nI 4).toNatClampNeg)))
def KO_X7_again_49 (N g H T : Nat) (x1 : Option Nat) (x2 : Option Nat) (S : cS) : Prop := (¬ x1 = none) ∧ (¬ x2 = none) ∧ ((¬ (nI 0) < 0 ∧ ¬ (nI 0) < 0 ∧ ¬ (nI 4) < 0) ∧ (nI 0).toNatClampNeg + (nI 4).toNatClampNeg ≤ 4 ∧ (nI 0).toNatClampNeg + (nI 4).toNatClampNeg ≤ 4) ∧ KO_X7_again_63 N g H T x2 (csJrow S ((za x2) + 1) (va_cpy (cJ S ((za x1) + 1)) (cJ S ((za x2) + 1)) (nI 0).toNatClampNeg (nI 0).toNatClampNeg (nI 4).toNatClampNeg))
set_option maxRecDepth 100000 in
set_option maxHeartbeats 4000000 in
theorem kb_X7_again_49 {G : zG} {o : cO} {u g H T N : Nat} {S : cS} {S0 : cS} {Q : Option Value → cS → Prop} {X : Option Nat × cS → Prop} (hG : zOK G) (hR : ∀ v S', St u g H T S' → Mono S0 S' → tK S' 5 v → X (v, S') → Q (some (va_rf v)) S') {x1 : Option Nat} {x2 : Option Nat} (hS : St u g H T S) (hM : Mono S0 S) (t_x1 : tK S 5 x1) (t_x2 : tK S 5 x2) (ok : KO_X7_again_49 N g H T x1 x2 S) (hx : X (KF_X7_again_49 N g H T x1 x2 S)) : cX G o dX7_again mX7_again 49 [none, some (va_rf x1), some (va_rf x2)] [] S Q := by
  unfold KO_X7_again_49 at ok
  unfold KF_X7_again_49 at hx
  refine c_aload_nQ dX7_again_49 rfl rfl ?_
  have nn_50 := ok.1
  have p_50 := hS.m1k t_x1 ok.1
  have q_50 := hS.m1l t_x1 ok.1
  refine c_getS (C := RX5) (T := TX5) (N := 7) (ci := 4) (k := 1) ⟨rfl, inT5, by decide, fX7_318⟩ (by decide) (by decide) (by decide) dX7_again_50 (tK.cis t_x1 ok.1) (hS.m1 t_x1 ok.1) ?_
  have ok := ok.2
  refine c_iconst (v := nI 0) dX7_again_53 (by decide) ?_
  refine c_aload_nQ dX7_again_54 rfl rfl ?_
  have nn_55 := ok.1
  have p_55 := hS.m1k t_x2 ok.1
  have q_55 := hS.m1l t_x2 ok.1
  refine c_getS (C := RX5) (T := TX5) (N := 7) (ci := 4) (k := 1) ⟨rfl, inT5, by decide, fX7_318⟩ (by decide) (by decide) (by decide) dX7_again_55 (tK.cis t_x2 ok.1) (hS.m1 t_x2 ok.1) ?_
  have ok := ok.2
  refine c_iconst (v := nI 0) dX7_again_58 (by decide) ?_
  refine c_iconst (v := nI 4) dX7_again_59 (by decide) ?_
  refine c_copy2 hG dX7_again_60 qX7_130 (by decide) (by decide) ⟨tK.cis p_50 (Option.some_ne_none _), tK.cis p_55 (Option.some_ne_none _), ok.1.1, (le_cast q_50 ok.1.2.1), (le_cast q_55 ok.1.2.2)⟩ ?_
  have hS := hS.Jr ((za x2) + 1) (va_cpy (cJ S ((za x1) + 1)) (cJ S ((za x2) + 1)) (nI 0).toNatClampNeg (nI 0).toNatClampNeg (nI 4).toNatClampNeg)
  have hM := hM.Jr ((za x2) + 1) (va_cpy (cJ S ((za x1) + 1)) (cJ S ((za x2) + 1)) (nI 0).toNatClampNeg (nI 0).toNatClampNeg (nI 4).toNatClampNeg)
  have ok := ok.2
  exact cX.cutz (kb_X7_again_63 hG hR hS hM (tK_Jr t_x2) ok hx) ⟨rfl, trivial⟩
def KF_X7_again_27 (N g H T : Nat) (x1 : Option Nat) (x2 : Option Nat) (S : cS) : Option Nat × cS := (KF_X7_again_49 N g H T x1 x2 (csArow S ((za x2) + 2) (va_cpy (cA S ((za x1) + 2)) (cA S ((za x2) + 2)) (nI 6).toNatClampNeg (nI 6).toNatClampNeg ((cI S 2 (za x2)) - (nI 6)).toNatClampNeg)))
def KO_X7_again_27 (N g H T : Nat) (x1 : Option Nat) (x2 : Option Nat) (S : cS) : Prop := (¬ x1 = none) ∧ (¬ x2 = none) ∧ ((¬ (nI 6) < 0 ∧ ¬ (nI 6) < 0 ∧ ¬ ((cI S 2 (za x2)) - (nI 6)) < 0) ∧ (nI 6).toNatClampNeg + ((cI S 2 (za x2)) - (nI 6)).toNatClampNeg ≤ (cL S ((za x1) + 2)) ∧ (nI 6).toNatClampNeg + ((cI S 2 (za x2)) - (nI 6)).toNatClampNeg ≤ (cL S ((za x2) + 2))) ∧ KO_X7_again_49 N g H T x1 x2 (csArow S ((za x2) + 2) (va_cpy (cA S ((za x1) + 2)) (cA S ((za x2) + 2)) (nI 6).toNatClampNeg (nI 6).toNatClampNeg ((cI S 2 (za x2)) - (nI 6)).toNatClampNeg))
set_option maxRecDepth 100000 in
set_option maxHeartbeats 4000000 in
theorem kb_X7_again_27 {G : zG} {o : cO} {u g H T N : Nat} {S : cS} {S0 : cS} {Q : Option Value → cS → Prop} {X : Option Nat × cS → Prop} (hG : zOK G) (hR : ∀ v S', St u g H T S' → Mono S0 S' → tK S' 5 v → X (v, S') → Q (some (va_rf v)) S') {x1 : Option Nat} {x2 : Option Nat} (hS : St u g H T S) (hM : Mono S0 S) (t_x1 : tK S 5 x1) (t_x2 : tK S 5 x2) (ok : KO_X7_again_27 N g H T x1 x2 S) (hx : X (KF_X7_again_27 N g H T x1 x2 S)) : cX G o dX7_again mX7_again 27 [none, some (va_rf x1), some (va_rf x2)] [] S Q := by
  unfold KO_X7_again_27 at ok
  unfold KF_X7_again_27 at hx
  refine c_aload_nQ dX7_again_27 rfl rfl ?_
  have nn_28 := ok.1
  have p_28 := hS.m0k t_x1 ok.1
  refine c_getS (C := RX5) (T := TX5) (N := 7) (ci := 4) (k := 0) ⟨rfl, inT5, by decide, fX7_123⟩ (by decide) (by decide) (by decide) dX7_again_28 (tK.cis t_x1 ok.1) (hS.m0 t_x1 ok.1) ?_
  have ok := ok.2
  refine c_bipush (v := nI 6) dX7_again_31 (by decide) ?_
  refine c_aload_nQ dX7_again_33 rfl rfl ?_
  have nn_34 := ok.1
  have p_34 := hS.m0k t_x2 ok.1
  refine c_getS (C := RX5) (T := TX5) (N := 7) (ci := 4) (k := 0) ⟨rfl, inT5, by decide, fX7_123⟩ (by decide) (by decide) (by decide) dX7_again_34 (tK.cis t_x2 ok.1) (hS.m0 t_x2 ok.1) ?_
  have ok := ok.2
  refine c_bipush (v := nI 6) dX7_again_37 (by decide) ?_
  refine c_aload_nQ dX7_again_39 rfl rfl ?_
  refine c_getI (C := RX5) (T := TX5) (N := 7) (ci := 4) (k := 2) ⟨rfl, inT5, by decide, fX7_187⟩ (by decide) (by decide) (by decide) dX7_again_40 (tK.cis t_x2 nn_34) ?_
  refine c_bipush (v := nI 6) dX7_again_43 (by decide) ?_
  refine c_isub dX7_again_45 ?_
  have tq_46 : tK S 20 (some ((za x1) + 2)) := tK_some (tK.cis p_28 (Option.some_ne_none _)).2
  refine c_copy0 hG dX7_again_46 qX7_130 (by decide) (by decide) ⟨tK.cis p_28 (Option.some_ne_none _), tK.cis p_34 (Option.some_ne_none _), ok.1.1, ok.1.2.1, ok.1.2.2⟩ ?_
  have hS := hS.Ac ((za x2) + 2) ((za x1) + 2) (nI 6).toNatClampNeg (nI 6).toNatClampNeg ((cI S 2 (za x2)) - (nI 6)).toNatClampNeg tq_46
  have hM := hM.Ar ((za x2) + 2) (va_cpy (cA S ((za x1) + 2)) (cA S ((za x2) + 2)) (nI 6).toNatClampNeg (nI 6).toNatClampNeg ((cI S 2 (za x2)) - (nI 6)).toNatClampNeg)
  have ok := ok.2
  exact cX.cutz (kb_X7_again_49 hG hR hS hM (tK_Ar t_x1) (tK_Ar t_x2) ok hx) ⟨rfl, rfl, trivial⟩
def KF_X7_again_14 (N g H T : Nat) (x0 : Option Nat) (x1 : Option Nat) (s0 : Option Nat) (S : cS) : Option Nat × cS := (KF_X7_again_27 N g H T x1 s0 (k_X7_signProposal N g H T S x0 (some ((za s0) + 2)) (cI S 13 (za x0))))
def KO_X7_again_14 (N g H T : Nat) (x0 : Option Nat) (x1 : Option Nat) (s0 : Option Nat) (S : cS) : Prop := (¬ s0 = none) ∧ (¬ x0 = none) ∧ (p_X7_signProposal N g H T S x0 (some ((za s0) + 2)) (cI S 13 (za x0))) ∧ KO_X7_again_27 N g H T x1 s0 (k_X7_signProposal N g H T S x0 (some ((za s0) + 2)) (cI S 13 (za x0)))
set_option maxRecDepth 100000 in
set_option maxHeartbeats 4000000 in
theorem kb_X7_again_14 {G : zG} {o : cO} {u g H T N : Nat} {S : cS} {S0 : cS} {Q : Option Value → cS → Prop} {X : Option Nat × cS → Prop} (hG : zOK G) (hR : ∀ v S', St u g H T S' → Mono S0 S' → tK S' 5 v → X (v, S') → Q (some (va_rf v)) S') {x0 : Option Nat} {x1 : Option Nat} {s0 : Option Nat} (hS : St u g H T S) (hM : Mono S0 S) (t_x0 : tN g H x0) (t_x1 : tK S 5 x1) (t_s0 : tK S 5 s0) (ok : KO_X7_again_14 N g H T x0 x1 s0 S) (hx : X (KF_X7_again_14 N g H T x0 x1 s0 S)) : cX G o dX7_again mX7_again 14 [some (va_rf x0), some (va_rf x1), none] [va_rf s0] S Q := by
  unfold KO_X7_again_14 at ok
  unfold KF_X7_again_14 at hx
  refine c_astore_2Q dX7_again_14 (by decide) (by simp [zok, zg, zcat_rf]) ?_
  refine c_aload_nQ dX7_again_15 rfl rfl ?_
  refine c_aload_nQ dX7_again_16 rfl rfl ?_
  have nn_17 := ok.1
  have p_17 := hS.m0k t_s0 ok.1
  refine c_getS (C := RX5) (T := TX5) (N := 7) (ci := 4) (k := 0) ⟨rfl, inT5, by decide, fX7_123⟩ (by decide) (by decide) (by decide) dX7_again_17 (tK.cis t_s0 ok.1) (hS.m0 t_s0 ok.1) ?_
  have ok := ok.2
  refine c_aload_nQ dX7_again_20 rfl rfl ?_
  have nn_21 := ok.1
  refine c_getI (C := RX6) (T := TX6) (N := 19) (ci := 5) (k := 13) ⟨rfl, inT6, by decide, fX7_254⟩ (by decide) (by decide) (by decide) dX7_again_21 (hS.kN t_x0 ok.1) ?_
  have ok := ok.2
  refine c_S3vK (y' := mX7_signProposal) dX7_again_24 lX7_314 kX7_signProposal ⟨by decide, by decide⟩ (Nat.le_of_ble_eq_true rfl) (kc_X7_signProposal hG hS t_x0 p_17 ok.1) (fun ⟨hS, hm_24⟩ => ?_)
  have hM := hM.trans hm_24
  have ok := ok.2
  exact cX.cutz (kb_X7_again_27 hG hR hS hM (hm_24.tK t_x1 (by decide)) (hm_24.tK t_s0 (by decide)) ok hx) ⟨rfl, rfl, trivial⟩
def KF_X7_again_0 (N g H T : Nat) (x0 : Option Nat) (x1 : Option Nat) (S : cS) : Option Nat × cS := (KF_X7_again_14 N g H T x0 x1 ((k_X9_fresh N g H T S (g + 11) (cI S 2 (za x1))).1) (k_X9_fresh N g H T S (g + 11) (cI S 2 (za x1))).2)
def KO_X7_again_0 (N g H T : Nat) (x0 : Option Nat) (x1 : Option Nat) (S : cS) : Prop := (¬ x0 = none) ∧ (¬ x1 = none) ∧ (p_X9_fresh N g H T S (g + 11) (cI S 2 (za x1))) ∧ KO_X7_again_14 N g H T x0 x1 ((k_X9_fresh N g H T S (g + 11) (cI S 2 (za x1))).1) (k_X9_fresh N g H T S (g + 11) (cI S 2 (za x1))).2
set_option maxRecDepth 100000 in
set_option maxHeartbeats 4000000 in
theorem kb_X7_again_0 {G : zG} {o : cO} {u g H T N : Nat} {S : cS} {S0 : cS} {Q : Option Value → cS → Prop} {X : Option Nat × cS → Prop} (hG : zOK G) (hR : ∀ v S', St u g H T S' → Mono S0 S' → tK S' 5 v → X (v, S') → Q (some (va_rf v)) S') {x0 : Option Nat} {x1 : Option Nat} (hS : St u g H T S) (hM : Mono S0 S) (t_x0 : tN g H x0) (t_x1 : tK S 5 x1) (ok : KO_X7_again_0 N g H T x0 x1 S) (hx : X (KF_X7_again_0 N g H T x0 x1 S)) : cX G o dX7_again mX7_again 0 [some (va_rf x0), some (va_rf x1), none] [] S Q := by
  unfold KO_X7_again_0 at ok
  unfold KF_X7_again_0 at hx
  refine c_aload_nQ dX7_again_0 rfl rfl ?_
  have nn_1 := ok.1
  refine c_getS (C := RX6) (T := TX6) (N := 19) (ci := 5) (k := 0) ⟨rfl, inT6, by decide, fX7_26⟩ (by decide) (by decide) (by decide) dX7_again_1 (hS.kN t_x0 ok.1) (hS.r (c := 5) (tN.o t_x0 ok.1) rfl (by omega)) ?_
  have ok := ok.2
  refine c_getS (C := RX10) (T := TX10) (N := 12) (ci := 8) (k := 6) ⟨rfl, inT10, by decide, fX7_278⟩ (by decide) (by decide) (by decide) dX7_again_4 (hS.k (o50 (tN.o t_x0 nn_1))) (hS.r (c := 8) (o50 (tN.o t_x0 nn_1)) rfl (by omega)) ?_
  refine c_aload_nQ dX7_again_7 rfl rfl ?_
  have nn_8 := ok.1
  refine c_getI (C := RX5) (T := TX5) (N := 7) (ci := 4) (k := 2) ⟨rfl, inT5, by decide, fX7_187⟩ (by decide) (by decide) (by decide) dX7_again_8 (tK.cis t_x1 ok.1) ?_
  have ok := ok.2
  refine c_V1qK (ci := 7) (rr := (RX9, TX9, 13)) (y' := mX9_fresh) dX7_again_11 lX7_310 kX9_fresh ⟨by decide, by decide⟩ rfl rfl (by decide) (hS.k (o86 (o50 (tN.o t_x0 nn_1)))) (Nat.le_of_ble_eq_true rfl) (kc_X9_fresh hG hS (o86 (o50 (tN.o t_x0 nn_1))) ok.1) (fun ⟨hS, hm_11, tv_11⟩ => ?_)
  have hM := hM.trans hm_11
  have ok := ok.2
  exact cX.cutz (kb_X7_again_14 hG hR hS hM t_x0 (hm_11.tK t_x1 (by decide)) tv_11 ok hx) ⟨rfl, rfl, trivial⟩
def k_X7_again (N g H T : Nat) (S : cS) (x0 : Option Nat) (x1 : Option Nat) : Option Nat × cS := KF_X7_again_0 N g H T x0 x1 S
def p_X7_again (N g H T : Nat) (S : cS) (x0 : Option Nat) (x1 : Option Nat) : Prop := KO_X7_again_0 N g H T x0 x1 S
set_option maxRecDepth 100000 in
set_option maxHeartbeats 4000000 in
theorem kc_X7_again {G : zG} {o : cO} {u g H T N : Nat} {S : cS} (hG : zOK G) {x0 : Option Nat} {x1 : Option Nat} (hS : St u g H T S) (t_x0 : tN g H x0) (t_x1 : tK S 5 x1) (ok : p_X7_again N g H T S x0 x1) : cCq G o dX7_again mX7_again [va_rf x0, va_rf x1] S (fun v S' => (v = (k_X7_again N g H T S x0 x1).1 ∧ S' = (k_X7_again N g H T S x0 x1).2) ∧ St u g H T S' ∧ Mono S S' ∧ tK S' 5 v) := by
  refine cC.ofX rfl (by cases x0 <;> cases x1 <;> exact Nat.le_of_ble_eq_true rfl) ?_
  rw [show zargs mX7_again.2.2.1 [va_rf x0, va_rf x1] = [some (va_rf x0), some (va_rf x1), none] from by cases x0 <;> cases x1 <;> rfl]
  exact cX.cutz (kb_X7_again_0 (X := fun F => F = k_X7_again N g H T S x0 x1) hG (fun v S' h1 h2 h3 h => ⟨v, rfl, ⟨by rw [← h], by rw [← h]⟩, h1, h2, h3⟩) hS Mono.rfl' t_x0 t_x1 ok rfl) ⟨rfl, rfl, trivial⟩

/-! X0_encode -/
def KF_X0_encode_72 (N g H T : Nat) (s0 : Option Nat) (s1 : Int32) (s2 : Int32) (S : cS) : cS := (csA S (za s0) s1.toNatClampNeg ((s2.toInt8.toInt32).toInt8.toInt32))
def KO_X0_encode_72 (N g H T : Nat) (s0 : Option Nat) (s1 : Int32) (s2 : Int32) (S : cS) : Prop := (¬ s0 = none ∧ vp_in s1 (cL S (za s0))) ∧ True
set_option maxRecDepth 100000 in
set_option maxHeartbeats 4000000 in
theorem kb_X0_encode_72 {G : zG} {o : cO} {u g H T N : Nat} {S : cS} {S0 : cS} {Q : Option Value → cS → Prop} {X : cS → Prop} (hG : zOK G) (hR : ∀ S', St u g H T S' → Mono S0 S' → X S' → Q none S') {s0 : Option Nat} {s1 : Int32} {s2 : Int32} (hS : St u g H T S) (hM : Mono S0 S) (t_s0 : tK S 20 s0) (ok : KO_X0_encode_72 N g H T s0 s1 s2 S) (hx : X (KF_X0_encode_72 N g H T s0 s1 s2 S)) : cX G o dX0_encode mX0_encode 72 [none, none, none, none] [.int s2, .int s1, va_rf s0] S Q := by
  unfold KO_X0_encode_72 at ok
  unfold KF_X0_encode_72 at hx
  refine c_i2b dX0_encode_72 ?_
  refine c_bast dX0_encode_73 ⟨(tK.cis t_s0 ok.1.1), ok.1.2⟩ ?_
  have hS := hS.Ab (za s0) s1.toNatClampNeg (s2.toInt8.toInt32)
  have hM := hM.A (za s0) s1.toNatClampNeg ((s2.toInt8.toInt32).toInt8.toInt32)
  have ok := ok.2
  exact c_return rfl dX0_encode_74 (hR _ hS hM hx)
def KF_X0_encode_55 (N g H T : Nat) (x0 : Nat) (x1 : Int32) (x2 : Option Nat) (x3 : Int32) (S : cS) : cS := (if (k_X0_hasPaid N g H T S x0 x1) = 0 then (KF_X0_encode_72 N g H T x2 (x3 + (nI 5)) (nI 0) S) else (KF_X0_encode_72 N g H T x2 (x3 + (nI 5)) (nI 1) S))
def KO_X0_encode_55 (N g H T : Nat) (x0 : Nat) (x1 : Int32) (x2 : Option Nat) (x3 : Int32) (S : cS) : Prop := (p_X0_hasPaid N g H T S x0 x1) ∧ (((k_X0_hasPaid N g H T S x0 x1) = 0 → KO_X0_encode_72 N g H T x2 (x3 + (nI 5)) (nI 0) S) ∧ (¬ (k_X0_hasPaid N g H T S x0 x1) = 0 → KO_X0_encode_72 N g H T x2 (x3 + (nI 5)) (nI 1) S))
set_option maxRecDepth 100000 in
set_option maxHeartbeats 4000000 in
theorem kb_X0_encode_55 {G : zG} {o : cO} {u g H T N : Nat} {S : cS} {S0 : cS} {Q : Option Value → cS → Prop} {X : cS → Prop} (hG : zOK G) (hR : ∀ S', St u g H T S' → Mono S0 S' → X S' → Q none S') {x0 : Nat} {x1 : Int32} {x2 : Option Nat} {x3 : Int32} (hS : St u g H T S) (hM : Mono S0 S) (t_x0 : isO g H 0 x0) (t_x2 : tK S 20 x2) (ok : KO_X0_encode_55 N g H T x0 x1 x2 x3 S) (hx : X (KF_X0_encode_55 N g H T x0 x1 x2 x3 S)) : cX G o dX0_encode mX0_encode 55 [some (va_rf (some x0)), some (.int x1), some (va_rf x2), some (.int x3)] [] S Q := by
  unfold KO_X0_encode_55 at ok
  unfold KF_X0_encode_55 at hx
  refine c_aload_nQ dX0_encode_55 rfl rfl ?_
  refine c_iload_n dX0_encode_56 rfl rfl ?_
  refine c_iconst (v := nI 5) dX0_encode_57 (by decide) ?_
  refine c_iadd dX0_encode_58 ?_
  refine c_aload_nQ dX0_encode_59 rfl rfl ?_
  refine c_iload_n dX0_encode_60 rfl rfl ?_
  refine c_V1iE (ci := 0) (rr := (RX0, TX0, 6)) (y' := mX0_hasPaid) dX0_encode_61 lX0_68 kX0_hasPaid ⟨by decide, by decide⟩ rfl rfl (by decide) (hS.k t_x0) (by simp only [List.map_cons, List.map_nil, List.sum_cons, List.sum_nil, zcat_rf, zcat_i, zcat_l, zcat_r] <;> decide) (kc_X0_hasPaid hG hS t_x0 ok.1) ?_
  have ok := ok.2
  refine c_if_eq (tgt := 71) dX0_encode_64 (by decide) (fun c_64 => ?_) (fun c_64 => ?_)
  · have ok := ok.1 c_64
    have hx := xif_p c_64 hx
    refine c_iconst (v := nI 0) dX0_encode_71 (by decide) ?_
    exact cX.cutz (kb_X0_encode_72 hG hR hS hM t_x2 ok hx) trivial
  · have ok := ok.2 c_64
    have hx := xif_n c_64 hx
    refine c_iconst (v := nI 1) dX0_encode_67 (by decide) ?_
    refine c_goto (tgt := 72) dX0_encode_68 (by decide) ?_
    exact cX.cutz (kb_X0_encode_72 hG hR hS hM t_x2 ok hx) trivial
def KF_X0_encode_42 (N g H T : Nat) (x0 : Nat) (x1 : Int32) (x2 : Option Nat) (x3 : Int32) (S : cS) : cS := (KF_X0_encode_55 N g H T x0 x1 x2 x3 (k_X11_putTwo N g H T S x2 (x3 + (nI 3)) (cA S (x0 + 2) x1.toNatClampNeg)))
def KO_X0_encode_42 (N g H T : Nat) (x0 : Nat) (x1 : Int32) (x2 : Option Nat) (x3 : Int32) (S : cS) : Prop := (vp_in x1 16) ∧ (p_X11_putTwo N g H T S x2 (x3 + (nI 3)) (cA S (x0 + 2) x1.toNatClampNeg)) ∧ KO_X0_encode_55 N g H T x0 x1 x2 x3 (k_X11_putTwo N g H T S x2 (x3 + (nI 3)) (cA S (x0 + 2) x1.toNatClampNeg))
set_option maxRecDepth 100000 in
set_option maxHeartbeats 4000000 in
theorem kb_X0_encode_42 {G : zG} {o : cO} {u g H T N : Nat} {S : cS} {S0 : cS} {Q : Option Value → cS → Prop} {X : cS → Prop} (hG : zOK G) (hR : ∀ S', St u g H T S' → Mono S0 S' → X S' → Q none S') {x0 : Nat} {x1 : Int32} {x2 : Option Nat} {x3 : Int32} (hS : St u g H T S) (hM : Mono S0 S) (t_x0 : isO g H 0 x0) (t_x2 : tK S 20 x2) (ok : KO_X0_encode_42 N g H T x0 x1 x2 x3 S) (hx : X (KF_X0_encode_42 N g H T x0 x1 x2 x3 S)) : cX G o dX0_encode mX0_encode 42 [some (va_rf (some x0)), some (.int x1), some (va_rf x2), some (.int x3)] [] S Q := by
  unfold KO_X0_encode_42 at ok
  unfold KF_X0_encode_42 at hx
  refine c_aload_nQ dX0_encode_42 rfl rfl ?_
  refine c_iload_n dX0_encode_43 rfl rfl ?_
  refine c_iconst (v := nI 3) dX0_encode_44 (by decide) ?_
  refine c_iadd dX0_encode_45 ?_
  refine c_aload_nQ dX0_encode_46 rfl rfl ?_
  refine c_getS (C := RX0) (T := TX0) (N := 6) (ci := 0) (k := 1) ⟨rfl, inT0, by decide, fX0_15⟩ (by decide) (by decide) (by decide) dX0_encode_47 (hS.k t_x0) (hS.r (c := 0) t_x0 rfl (by omega)) ?_
  refine c_iload_n dX0_encode_50 rfl rfl ?_
  refine c_iald dX0_encode_51 ⟨(tK.cis (hS.rk (c := 0) (k := 1) t_x0 rfl (by omega)) (Option.some_ne_none _)), (vk_cast (hS.rl (c := 0) (k := 1) t_x0 rfl (by decide) (by omega)) ok.1)⟩ ?_
  have ok := ok.2
  refine c_SN3vK (y' := mX11_putTwo) dX0_encode_52 lX0_64 kX11_putTwo ⟨by decide, by decide⟩ (Nat.le_of_ble_eq_true rfl) (kc_X11_putTwo hG hS t_x2 ok.1) (fun ⟨hS, hm_52⟩ => ?_)
  have hM := hM.trans hm_52
  have ok := ok.2
  exact cX.cutz (kb_X0_encode_55 hG hR hS hM t_x0 (hm_52.tK t_x2 (by decide)) ok hx) ⟨rfl, rfl, rfl, rfl, trivial⟩
def KF_X0_encode_23 (N g H T : Nat)  (S : cS) : cS := S
def KO_X0_encode_23 (N g H T : Nat)  (S : cS) : Prop := True
set_option maxRecDepth 100000 in
set_option maxHeartbeats 4000000 in
theorem kb_X0_encode_23 {G : zG} {o : cO} {u g H T N : Nat} {S : cS} {S0 : cS} {Q : Option Value → cS → Prop} {X : cS → Prop} (hG : zOK G) (hR : ∀ S', St u g H T S' → Mono S0 S' → X S' → Q none S') (hS : St u g H T S) (hM : Mono S0 S) (ok : KO_X0_encode_23 N g H T S) (hx : X (KF_X0_encode_23 N g H T S)) : cX G o dX0_encode mX0_encode 23 [none, none, none, none] [] S Q := by
  unfold KO_X0_encode_23 at ok
  unfold KF_X0_encode_23 at hx
  exact c_return rfl dX0_encode_23 (hR _ hS hM hx)
def KF_X0_encode_0 (N g H T : Nat) (x0 : Nat) (x1 : Int32) (x2 : Option Nat) (x3 : Int32) (S : cS) : cS := (if x1 < 0 then (KF_X0_encode_23 N g H T S) else (if (nI 16) ≤ x1 then (KF_X0_encode_23 N g H T S) else (if x3 < 0 then (KF_X0_encode_23 N g H T S) else (if x3 ≤ ((nI (cL S (za x2))) - (nI 6)) then (KF_X0_encode_42 N g H T x0 x1 x2 x3 (k_X11_putTwo N g H T (csA S (za x2) x3.toNatClampNeg ((x1.toInt8.toInt32).toInt8.toInt32)) x2 (x3 + (nI 1)) (cA (csA S (za x2) x3.toNatClampNeg ((x1.toInt8.toInt32).toInt8.toInt32)) (x0 + 1) x1.toNatClampNeg))) else (KF_X0_encode_23 N g H T S)))))
def KO_X0_encode_0 (N g H T : Nat) (x0 : Nat) (x1 : Int32) (x2 : Option Nat) (x3 : Int32) (S : cS) : Prop := ((x1 < 0 → KO_X0_encode_23 N g H T S) ∧ (¬ x1 < 0 → (((nI 16) ≤ x1 → KO_X0_encode_23 N g H T S) ∧ (¬ (nI 16) ≤ x1 → ((x3 < 0 → KO_X0_encode_23 N g H T S) ∧ (¬ x3 < 0 → (¬ x2 = none) ∧ ((x3 ≤ ((nI (cL S (za x2))) - (nI 6)) → (¬ x2 = none ∧ vp_in x3 (cL S (za x2))) ∧ (vp_in x1 16) ∧ (p_X11_putTwo N g H T (csA S (za x2) x3.toNatClampNeg ((x1.toInt8.toInt32).toInt8.toInt32)) x2 (x3 + (nI 1)) (cA (csA S (za x2) x3.toNatClampNeg ((x1.toInt8.toInt32).toInt8.toInt32)) (x0 + 1) x1.toNatClampNeg)) ∧ KO_X0_encode_42 N g H T x0 x1 x2 x3 (k_X11_putTwo N g H T (csA S (za x2) x3.toNatClampNeg ((x1.toInt8.toInt32).toInt8.toInt32)) x2 (x3 + (nI 1)) (cA (csA S (za x2) x3.toNatClampNeg ((x1.toInt8.toInt32).toInt8.toInt32)) (x0 + 1) x1.toNatClampNeg))) ∧ (¬ x3 ≤ ((nI (cL S (za x2))) - (nI 6)) → KO_X0_encode_23 N g H T S))))))))
set_option maxRecDepth 100000 in
set_option maxHeartbeats 4000000 in
theorem kb_X0_encode_0 {G : zG} {o : cO} {u g H T N : Nat} {S : cS} {S0 : cS} {Q : Option Value → cS → Prop} {X : cS → Prop} (hG : zOK G) (hR : ∀ S', St u g H T S' → Mono S0 S' → X S' → Q none S') {x0 : Nat} {x1 : Int32} {x2 : Option Nat} {x3 : Int32} (hS : St u g H T S) (hM : Mono S0 S) (t_x0 : isO g H 0 x0) (t_x2 : tK S 20 x2) (ok : KO_X0_encode_0 N g H T x0 x1 x2 x3 S) (hx : X (KF_X0_encode_0 N g H T x0 x1 x2 x3 S)) : cX G o dX0_encode mX0_encode 0 [some (va_rf (some x0)), some (.int x1), some (va_rf x2), some (.int x3)] [] S Q := by
  unfold KO_X0_encode_0 at ok
  unfold KF_X0_encode_0 at hx
  refine c_iload_n dX0_encode_0 rfl rfl ?_
  refine c_if_lt (tgt := 23) dX0_encode_1 (by decide) (fun c_1 => ?_) (fun c_1 => ?_)
  · have ok := ok.1 c_1
    have hx := xif_p c_1 hx
    exact cX.cutz (kb_X0_encode_23 hG hR hS hM  ok hx) trivial
  · have ok := ok.2 c_1
    have hx := xif_n c_1 hx
    refine c_iload_n dX0_encode_4 rfl rfl ?_
    refine c_bipush (v := nI 16) dX0_encode_5 (by decide) ?_
    refine c_icmp_ge (tgt := 23) dX0_encode_7 (by decide) (fun c_7 => ?_) (fun c_7 => ?_)
    · have ok := ok.1 c_7
      have hx := xif_p c_7 hx
      exact cX.cutz (kb_X0_encode_23 hG hR hS hM  ok hx) trivial
    · have ok := ok.2 c_7
      have hx := xif_n c_7 hx
      refine c_iload_n dX0_encode_10 rfl rfl ?_
      refine c_if_lt (tgt := 23) dX0_encode_11 (by decide) (fun c_11 => ?_) (fun c_11 => ?_)
      · have ok := ok.1 c_11
        have hx := xif_p c_11 hx
        exact cX.cutz (kb_X0_encode_23 hG hR hS hM  ok hx) trivial
      · have ok := ok.2 c_11
        have hx := xif_n c_11 hx
        refine c_iload_n dX0_encode_14 rfl rfl ?_
        refine c_aload_nQ dX0_encode_15 rfl rfl ?_
        refine c_alenS (t := 0) (ty := .byte) rfl dX0_encode_16 (tK.cis t_x2 ok.1) rfl ?_
        have ok := ok.2
        refine c_bipush (v := nI 6) dX0_encode_17 (by decide) ?_
        refine c_isub dX0_encode_19 ?_
        refine c_icmp_le (tgt := 24) dX0_encode_20 (by decide) (fun c_20 => ?_) (fun c_20 => ?_)
        · have ok := ok.1 c_20
          have hx := xif_p c_20 hx
          refine c_aload_nQ dX0_encode_24 rfl rfl ?_
          refine c_iload_n dX0_encode_25 rfl rfl ?_
          refine c_iload_n dX0_encode_26 rfl rfl ?_
          refine c_i2b dX0_encode_27 ?_
          refine c_bast dX0_encode_28 ⟨(tK.cis t_x2 ok.1.1), ok.1.2⟩ ?_
          have hS := hS.Ab (za x2) x3.toNatClampNeg (x1.toInt8.toInt32)
          have hM := hM.A (za x2) x3.toNatClampNeg ((x1.toInt8.toInt32).toInt8.toInt32)
          have ok := ok.2
          refine c_aload_nQ dX0_encode_29 rfl rfl ?_
          refine c_iload_n dX0_encode_30 rfl rfl ?_
          refine c_iconst (v := nI 1) dX0_encode_31 (by decide) ?_
          refine c_iadd dX0_encode_32 ?_
          refine c_aload_nQ dX0_encode_33 rfl rfl ?_
          refine c_getS (C := RX0) (T := TX0) (N := 6) (ci := 0) (k := 0) ⟨rfl, inT0, by decide, fX0_9⟩ (by decide) (by decide) (by decide) dX0_encode_34 (hS.k t_x0) (hS.r (c := 0) t_x0 rfl (by omega)) ?_
          refine c_iload_n dX0_encode_37 rfl rfl ?_
          refine c_iald dX0_encode_38 ⟨(tK.cis (hS.rk (c := 0) (k := 0) t_x0 rfl (by omega)) (Option.some_ne_none _)), (vk_cast (hS.rl (c := 0) (k := 0) t_x0 rfl (by decide) (by omega)) ok.1)⟩ ?_
          have ok := ok.2
          refine c_SN3vK (y' := mX11_putTwo) dX0_encode_39 lX0_64 kX11_putTwo ⟨by decide, by decide⟩ (Nat.le_of_ble_eq_true rfl) (kc_X11_putTwo hG hS (tK_A t_x2) ok.1) (fun ⟨hS, hm_39⟩ => ?_)
          have hM := hM.trans hm_39
          have ok := ok.2
          exact cX.cutz (kb_X0_encode_42 hG hR hS hM t_x0 (hm_39.tK (tK_A t_x2) (by decide)) ok hx) ⟨rfl, rfl, rfl, rfl, trivial⟩
        · have ok := ok.2 c_20
          have hx := xif_n c_20 hx
          exact cX.cutz (kb_X0_encode_23 hG hR hS hM  ok hx) trivial
def k_X0_encode (N g H T : Nat) (S : cS) (a0 : Nat) (x1 : Int32) (x2 : Option Nat) (x3 : Int32) : cS := KF_X0_encode_0 N g H T a0 x1 x2 x3 S
def p_X0_encode (N g H T : Nat) (S : cS) (a0 : Nat) (x1 : Int32) (x2 : Option Nat) (x3 : Int32) : Prop := KO_X0_encode_0 N g H T a0 x1 x2 x3 S
set_option maxRecDepth 100000 in
set_option maxHeartbeats 4000000 in
theorem kc_X0_encode {G : zG} {o : cO} {u g H T N : Nat} {S : cS} (hG : zOK G) {a0 : Nat} {x1 : Int32} {x2 : Option Nat} {x3 : Int32} (hS : St u g H T S) (t_x0 : isO g H 0 a0) (t_x2 : tK S 20 x2) (ok : p_X0_encode N g H T S a0 x1 x2 x3) : cCv G o dX0_encode mX0_encode [.ref a0, .int x1, va_rf x2, .int x3] S (fun S' => S' = k_X0_encode N g H T S a0 x1 x2 x3 ∧ St u g H T S' ∧ Mono S S') := by
  refine cC.ofX rfl (by cases x2 <;> exact Nat.le_of_ble_eq_true rfl) ?_
  rw [show zargs mX0_encode.2.2.1 [.ref a0, .int x1, va_rf x2, .int x3] = [some (va_rf (some a0)), some (.int x1), some (va_rf x2), some (.int x3)] from by cases x2 <;> rfl]
  exact cX.cutz (kb_X0_encode_0 (X := fun F => F = k_X0_encode N g H T S a0 x1 x2 x3) hG (fun S' h1 h2 h => ⟨rfl, h, h1, h2⟩) hS Mono.rfl' t_x0 t_x2 ok rfl) ⟨rfl, rfl, rfl, rfl, trivial⟩
/-! X11_twoBytes -/
def KF_X11_twoBytes_36 (N g H T : Nat) (s0 : Int32) (S : cS) : Int32 := s0
def KO_X11_twoBytes_36 (N g H T : Nat) (s0 : Int32) (S : cS) : Prop := True
set_option maxRecDepth 100000 in
set_option maxHeartbeats 4000000 in
theorem kb_X11_twoBytes_36 {G : zG} {o : cO} {u g H T N : Nat} {S : cS} {Q : Option Value → cS → Prop} {X : Int32 → Prop} (hG : zOK G) (hR : ∀ v, X v → Q (some (.int v)) S) {s0 : Int32} (hS : St u g H T S) (ok : KO_X11_twoBytes_36 N g H T s0 S) (hx : X (KF_X11_twoBytes_36 N g H T s0 S)) : cX G o dX11_twoBytes mX11_twoBytes 36 [none, none] [.int s0] S Q := by
  unfold KO_X11_twoBytes_36 at ok
  unfold KF_X11_twoBytes_36 at hx
  exact c_ireturn rfl rfl dX11_twoBytes_36 (hR _ hx)
def KF_X11_twoBytes_12 (N g H T : Nat)  (S : cS) : Int32 := (KF_X11_twoBytes_36 N g H T (nI 0) S)
def KO_X11_twoBytes_12 (N g H T : Nat)  (S : cS) : Prop := KO_X11_twoBytes_36 N g H T (nI 0) S
set_option maxRecDepth 100000 in
set_option maxHeartbeats 4000000 in
theorem kb_X11_twoBytes_12 {G : zG} {o : cO} {u g H T N : Nat} {S : cS} {Q : Option Value → cS → Prop} {X : Int32 → Prop} (hG : zOK G) (hR : ∀ v, X v → Q (some (.int v)) S) (hS : St u g H T S) (ok : KO_X11_twoBytes_12 N g H T S) (hx : X (KF_X11_twoBytes_12 N g H T S)) : cX G o dX11_twoBytes mX11_twoBytes 12 [none, none] [] S Q := by
  unfold KO_X11_twoBytes_12 at ok
  unfold KF_X11_twoBytes_12 at hx
  refine c_iconst (v := nI 0) dX11_twoBytes_12 (by decide) ?_
  refine c_goto (tgt := 36) dX11_twoBytes_13 (by decide) ?_
  exact cX.cutz (kb_X11_twoBytes_36 hG hR hS  ok hx) trivial
def KF_X11_twoBytes_0 (N g H T : Nat) (x0 : Option Nat) (x1 : Int32) (S : cS) : Int32 := (if x1 < 0 then (KF_X11_twoBytes_12 N g H T S) else (if x1 ≤ ((nI (cL S (za x0))) - (nI 2)) then (KF_X11_twoBytes_36 N g H T ((((cA S (za x0) x1.toNatClampNeg) &&& (nI 255)) <<< ((nI 8) &&& 31)) ||| ((cA S (za x0) (x1 + (nI 1)).toNatClampNeg) &&& (nI 255))) S) else (KF_X11_twoBytes_12 N g H T S)))
def KO_X11_twoBytes_0 (N g H T : Nat) (x0 : Option Nat) (x1 : Int32) (S : cS) : Prop := ((x1 < 0 → KO_X11_twoBytes_12 N g H T S) ∧ (¬ x1 < 0 → (¬ x0 = none) ∧ ((x1 ≤ ((nI (cL S (za x0))) - (nI 2)) → (¬ x0 = none ∧ vp_in x1 (cL S (za x0))) ∧ (¬ x0 = none ∧ vp_in (x1 + (nI 1)) (cL S (za x0))) ∧ KO_X11_twoBytes_36 N g H T ((((cA S (za x0) x1.toNatClampNeg) &&& (nI 255)) <<< ((nI 8) &&& 31)) ||| ((cA S (za x0) (x1 + (nI 1)).toNatClampNeg) &&& (nI 255))) S) ∧ (¬ x1 ≤ ((nI (cL S (za x0))) - (nI 2)) → KO_X11_twoBytes_12 N g H T S))))
set_option maxRecDepth 100000 in
set_option maxHeartbeats 4000000 in
theorem kb_X11_twoBytes_0 {G : zG} {o : cO} {u g H T N : Nat} {S : cS} {Q : Option Value → cS → Prop} {X : Int32 → Prop} (hG : zOK G) (hR : ∀ v, X v → Q (some (.int v)) S) {x0 : Option Nat} {x1 : Int32} (hS : St u g H T S) (t_x0 : tK S 20 x0) (ok : KO_X11_twoBytes_0 N g H T x0 x1 S) (hx : X (KF_X11_twoBytes_0 N g H T x0 x1 S)) : cX G o dX11_twoBytes mX11_twoBytes 0 [some (va_rf x0), some (.int x1)] [] S Q := by
  unfold KO_X11_twoBytes_0 at ok
  unfold KF_X11_twoBytes_0 at hx
  refine c_iload_n dX11_twoBytes_0 rfl rfl ?_
  refine c_if_lt (tgt := 12) dX11_twoBytes_1 (by decide) (fun c_1 => ?_) (fun c_1 => ?_)
  · have ok := ok.1 c_1
    have hx := xif_p c_1 hx
    exact cX.cutz (kb_X11_twoBytes_12 hG hR hS  ok hx) trivial
  · have ok := ok.2 c_1
    have hx := xif_n c_1 hx
    refine c_iload_n dX11_twoBytes_4 rfl rfl ?_
    refine c_aload_nQ dX11_twoBytes_5 rfl rfl ?_
    refine c_alenS (t := 0) (ty := .byte) rfl dX11_twoBytes_6 (tK.cis t_x0 ok.1) rfl ?_
    have ok := ok.2
    refine c_iconst (v := nI 2) dX11_twoBytes_7 (by decide) ?_
    refine c_isub dX11_twoBytes_8 ?_
    refine c_icmp_le (tgt := 16) dX11_twoBytes_9 (by decide) (fun c_9 => ?_) (fun c_9 => ?_)
    · have ok := ok.1 c_9
      have hx := xif_p c_9 hx
      refine c_aload_nQ dX11_twoBytes_16 rfl rfl ?_
      refine c_iload_n dX11_twoBytes_17 rfl rfl ?_
      refine c_bald dX11_twoBytes_18 ⟨(tK.cis t_x0 ok.1.1), ok.1.2⟩ ?_
      have ok := ok.2
      refine c_sipush (v := nI 255) dX11_twoBytes_19 (by decide) ?_
      refine c_iand dX11_twoBytes_22 ?_
      refine c_bipush (v := nI 8) dX11_twoBytes_23 (by decide) ?_
      refine c_ishl dX11_twoBytes_25 ?_
      refine c_aload_nQ dX11_twoBytes_26 rfl rfl ?_
      refine c_iload_n dX11_twoBytes_27 rfl rfl ?_
      refine c_iconst (v := nI 1) dX11_twoBytes_28 (by decide) ?_
      refine c_iadd dX11_twoBytes_29 ?_
      refine c_bald dX11_twoBytes_30 ⟨(tK.cis t_x0 ok.1.1), ok.1.2⟩ ?_
      have ok := ok.2
      refine c_sipush (v := nI 255) dX11_twoBytes_31 (by decide) ?_
      refine c_iand dX11_twoBytes_34 ?_
      refine c_ior dX11_twoBytes_35 ?_
      exact cX.cutz (kb_X11_twoBytes_36 hG hR hS  ok hx) trivial
    · have ok := ok.2 c_9
      have hx := xif_n c_9 hx
      exact cX.cutz (kb_X11_twoBytes_12 hG hR hS  ok hx) trivial
def k_X11_twoBytes (N g H T : Nat) (S : cS) (x0 : Option Nat) (x1 : Int32) : Int32 := KF_X11_twoBytes_0 N g H T x0 x1 S
def p_X11_twoBytes (N g H T : Nat) (S : cS) (x0 : Option Nat) (x1 : Int32) : Prop := KO_X11_twoBytes_0 N g H T x0 x1 S
set_option maxRecDepth 100000 in
set_option maxHeartbeats 4000000 in
theorem kc_X11_twoBytes {G : zG} {o : cO} {u g H T N : Nat} {S : cS} (hG : zOK G) {x0 : Option Nat} {x1 : Int32} (hS : St u g H T S) (t_x0 : tK S 20 x0) (ok : p_X11_twoBytes N g H T S x0 x1) : cCi G o dX11_twoBytes mX11_twoBytes [va_rf x0, .int x1] S (fun v S' => (v = k_X11_twoBytes N g H T S x0 x1 ∧ S' = S)) := by
  refine cC.ofX rfl (by cases x0 <;> exact Nat.le_of_ble_eq_true rfl) ?_
  rw [show zargs mX11_twoBytes.2.2.1 [va_rf x0, .int x1] = [some (va_rf x0), some (.int x1)] from by cases x0 <;> rfl]
  exact cX.cutz (kb_X11_twoBytes_0 (X := fun F => F = k_X11_twoBytes N g H T S x0 x1) hG (fun v h => ⟨v, rfl, h, rfl⟩) hS t_x0 ok rfl) ⟨rfl, rfl, trivial⟩
/-! X0_load -/
def KF_X0_load_87 (N g H T : Nat)  (S : cS) : cS := S
def KO_X0_load_87 (N g H T : Nat)  (S : cS) : Prop := True
set_option maxRecDepth 100000 in
set_option maxHeartbeats 4000000 in
theorem kb_X0_load_87 {G : zG} {o : cO} {u g H T N : Nat} {S : cS} {S0 : cS} {Q : Option Value → cS → Prop} {X : cS → Prop} (hG : zOK G) (hR : ∀ S', St u g H T S' → Mono S0 S' → X S' → Q none S') (hS : St u g H T S) (hM : Mono S0 S) (ok : KO_X0_load_87 N g H T S) (hx : X (KF_X0_load_87 N g H T S)) : cX G o dX0_load mX0_load 87 [none, none, none, none] [] S Q := by
  unfold KO_X0_load_87 at ok
  unfold KF_X0_load_87 at hx
  exact c_return rfl dX0_load_87 (hR _ hS hM hx)
def KF_X0_load_74 (N g H T : Nat) (rec : Nat → Option Nat → Int32 → Int32 → cS → Nat × cS) (x0 : Nat) (x1 : Option Nat) (x2 : Int32) (x3 : Int32) (s0 : Nat) (s1 : Int32) (s2 : Int32) (S : cS) : Nat × cS := (rec x0 x1 (x2 + nI 1) (x3 + nI 5) (csI S 2 s0 (s1 ||| s2)))
def KO_X0_load_74 (N g H T : Nat) (rok : Nat → Option Nat → Int32 → Int32 → cS → Prop) (x0 : Nat) (x1 : Option Nat) (x2 : Int32) (x3 : Int32) (s0 : Nat) (s1 : Int32) (s2 : Int32) (S : cS) : Prop := rok x0 x1 (x2 + nI 1) (x3 + nI 5) (csI S 2 s0 (s1 ||| s2))
set_option maxRecDepth 100000 in
set_option maxHeartbeats 4000000 in
theorem kb_X0_load_74 {G : zG} {o : cO} {u g H T N : Nat} {S : cS} {S0 : cS} {Q : Option Value → cS → Prop} {X : Nat × cS → Prop} (hG : zOK G) (hX0 : ∀ (S' : cS), St u g H T S' → Mono S0 S' → X (0, S') → cX G o dX0_load mX0_load 87 [none, none, none, none] [] S' Q) {rec : Nat → Option Nat → Int32 → Int32 → cS → Nat × cS} {rok : Nat → Option Nat → Int32 → Int32 → cS → Prop} (hrec : ∀ (x0 : Nat) (x1 : Option Nat) (x2 : Int32) (x3 : Int32) (S : cS), St u g H T S → Mono S0 S → isO g H 0 x0 → tK S 20 x1 → rok x0 x1 x2 x3 S → X (rec x0 x1 x2 x3 S) → cX G o dX0_load mX0_load 15 [some (va_rf (some x0)), some (va_rf x1), some (.int x2), some (.int x3)] [] S Q) {x0 : Nat} {x1 : Option Nat} {x2 : Int32} {x3 : Int32} {s0 : Nat} {s1 : Int32} {s2 : Int32} (hS : St u g H T S) (hM : Mono S0 S) (t_x0 : isO g H 0 x0) (t_x1 : tK S 20 x1) (t_s0 : isO g H 0 s0) (ok : KO_X0_load_74 N g H T rok x0 x1 x2 x3 s0 s1 s2 S) (hx : X (KF_X0_load_74 N g H T rec x0 x1 x2 x3 s0 s1 s2 S)) : cX G o dX0_load mX0_load 74 [some (va_rf (some x0)), some (va_rf x1), some (.int x2), some (.int x3)] [.int s2, .int s1, va_rf (some s0)] S Q := by
  unfold KO_X0_load_74 at ok
  unfold KF_X0_load_74 at hx
  refine c_ior dX0_load_74 ?_
  refine c_putI (C := RX0) (T := TX0) (N := 6) (ci := 0) (k := 2) ⟨rfl, inT0, by decide, fX0_41⟩ ftT0 rfl (by decide) (by decide) (by decide) rfl rfl dX0_load_75 (hS.k t_s0) ?_
  have hS := hS.I 2 s0 (s1 ||| s2)
  have hM := hM.I 2 s0 (s1 ||| s2)
  refine c_iinc_2 (v := (x2 + nI 1)) dX0_load_78 rfl (by first | rfl | (congr 1)) (by decide) (by simp [zok, zg, zcat_rf]) ?_
  refine c_iinc_3 (v := (x3 + nI 5)) dX0_load_81 rfl (by first | rfl | (congr 1)) (by decide) rfl ?_
  refine c_goto (tgt := 15) dX0_load_84 (by decide) ?_
  exact cX.cutz (hrec _ _ _ _ (csI S 2 s0 (s1 ||| s2)) hS hM t_x0 (tK_I t_x1) ok hx) ⟨rfl, rfl, rfl, rfl, trivial⟩
def KF_X0_load_53 (N g H T : Nat) (rec : Nat → Option Nat → Int32 → Int32 → cS → Nat × cS) (x0 : Nat) (x1 : Option Nat) (x2 : Int32) (x3 : Int32) (S : cS) : Nat × cS := (if (cA S (za x1) (x3 + (nI 4)).toNatClampNeg) = (nI 1) then (KF_X0_load_74 N g H T rec x0 x1 x2 x3 x0 (cI S 2 x0) ((nI 1) <<< (x2 &&& 31)) S) else (KF_X0_load_74 N g H T rec x0 x1 x2 x3 x0 (cI S 2 x0) (nI 0) S))
def KO_X0_load_53 (N g H T : Nat) (rok : Nat → Option Nat → Int32 → Int32 → cS → Prop) (x0 : Nat) (x1 : Option Nat) (x2 : Int32) (x3 : Int32) (S : cS) : Prop := (¬ x1 = none ∧ vp_in (x3 + (nI 4)) (cL S (za x1))) ∧ (((cA S (za x1) (x3 + (nI 4)).toNatClampNeg) = (nI 1) → KO_X0_load_74 N g H T rok x0 x1 x2 x3 x0 (cI S 2 x0) ((nI 1) <<< (x2 &&& 31)) S) ∧ (¬ (cA S (za x1) (x3 + (nI 4)).toNatClampNeg) = (nI 1) → KO_X0_load_74 N g H T rok x0 x1 x2 x3 x0 (cI S 2 x0) (nI 0) S))
set_option maxRecDepth 100000 in
set_option maxHeartbeats 4000000 in
theorem kb_X0_load_53 {G : zG} {o : cO} {u g H T N : Nat} {S : cS} {S0 : cS} {Q : Option Value → cS → Prop} {X : Nat × cS → Prop} (hG : zOK G) (hX0 : ∀ (S' : cS), St u g H T S' → Mono S0 S' → X (0, S') → cX G o dX0_load mX0_load 87 [none, none, none, none] [] S' Q) {rec : Nat → Option Nat → Int32 → Int32 → cS → Nat × cS} {rok : Nat → Option Nat → Int32 → Int32 → cS → Prop} (hrec : ∀ (x0 : Nat) (x1 : Option Nat) (x2 : Int32) (x3 : Int32) (S : cS), St u g H T S → Mono S0 S → isO g H 0 x0 → tK S 20 x1 → rok x0 x1 x2 x3 S → X (rec x0 x1 x2 x3 S) → cX G o dX0_load mX0_load 15 [some (va_rf (some x0)), some (va_rf x1), some (.int x2), some (.int x3)] [] S Q) {x0 : Nat} {x1 : Option Nat} {x2 : Int32} {x3 : Int32} (hS : St u g H T S) (hM : Mono S0 S) (t_x0 : isO g H 0 x0) (t_x1 : tK S 20 x1) (ok : KO_X0_load_53 N g H T rok x0 x1 x2 x3 S) (hx : X (KF_X0_load_53 N g H T rec x0 x1 x2 x3 S)) : cX G o dX0_load mX0_load 53 [some (va_rf (some x0)), some (va_rf x1), some (.int x2), some (.int x3)] [] S Q := by
  unfold KO_X0_load_53 at ok
  unfold KF_X0_load_53 at hx
  refine c_aload_nQ dX0_load_53 rfl rfl ?_
  refine c_dup dX0_load_54 (zcat_rf _) ?_
  refine c_getI (C := RX0) (T := TX0) (N := 6) (ci := 0) (k := 2) ⟨rfl, inT0, by decide, fX0_41⟩ (by decide) (by decide) (by decide) dX0_load_55 (hS.k t_x0) ?_
  refine c_aload_nQ dX0_load_58 rfl rfl ?_
  refine c_iload_n dX0_load_59 rfl rfl ?_
  refine c_iconst (v := nI 4) dX0_load_60 (by decide) ?_
  refine c_iadd dX0_load_61 ?_
  refine c_bald dX0_load_62 ⟨(tK.cis t_x1 ok.1.1), ok.1.2⟩ ?_
  have ok := ok.2
  refine c_iconst (v := nI 1) dX0_load_63 (by decide) ?_
  refine c_icmp_ne (tgt := 73) dX0_load_64 (by decide) (fun c_64 => ?_) (fun c_64 => ?_)
  · have ok := ok.2 c_64
    have hx := xif_n c_64 hx
    refine c_iconst (v := nI 0) dX0_load_73 (by decide) ?_
    exact cX.cutz (kb_X0_load_74 hG hX0 hrec hS hM t_x0 t_x1 t_x0 ok hx) ⟨rfl, rfl, rfl, rfl, trivial⟩
  · have ok := ok.1 c_64
    have hx := xif_p c_64 hx
    refine c_iconst (v := nI 1) dX0_load_67 (by decide) ?_
    refine c_iload_n dX0_load_68 rfl rfl ?_
    refine c_ishl dX0_load_69 ?_
    refine c_goto (tgt := 74) dX0_load_70 (by decide) ?_
    exact cX.cutz (kb_X0_load_74 hG hX0 hrec hS hM t_x0 t_x1 t_x0 ok hx) ⟨rfl, rfl, rfl, rfl, trivial⟩
def KB_X0_load_15 (N g H T : Nat) (rec : Nat → Option Nat → Int32 → Int32 → cS → Nat × cS) (x0 : Nat) (x1 : Option Nat) (x2 : Int32) (x3 : Int32) (S : cS) : Nat × cS := (if (nI 16) ≤ x2 then (0, S) else (if ((nI (cL S (za x1))) - (nI 5)) < x3 then (0, S) else (KF_X0_load_53 N g H T rec x0 x1 x2 x3 (csA (csA S (x0 + 1) x2.toNatClampNeg (k_X11_twoBytes N g H T S x1 x3)) (x0 + 2) x2.toNatClampNeg (k_X11_twoBytes N g H T (csA S (x0 + 1) x2.toNatClampNeg (k_X11_twoBytes N g H T S x1 x3)) x1 (x3 + (nI 2)))))))
def KOB_X0_load_15 (N g H T : Nat) (rok : Nat → Option Nat → Int32 → Int32 → cS → Prop) (x0 : Nat) (x1 : Option Nat) (x2 : Int32) (x3 : Int32) (S : cS) : Prop := (((nI 16) ≤ x2 → True) ∧ (¬ (nI 16) ≤ x2 → (¬ x1 = none) ∧ ((((nI (cL S (za x1))) - (nI 5)) < x3 → True) ∧ (¬ ((nI (cL S (za x1))) - (nI 5)) < x3 → (p_X11_twoBytes N g H T S x1 x3) ∧ (vp_in x2 16) ∧ (p_X11_twoBytes N g H T (csA S (x0 + 1) x2.toNatClampNeg (k_X11_twoBytes N g H T S x1 x3)) x1 (x3 + (nI 2))) ∧ (vp_in x2 16) ∧ KO_X0_load_53 N g H T rok x0 x1 x2 x3 (csA (csA S (x0 + 1) x2.toNatClampNeg (k_X11_twoBytes N g H T S x1 x3)) (x0 + 2) x2.toNatClampNeg (k_X11_twoBytes N g H T (csA S (x0 + 1) x2.toNatClampNeg (k_X11_twoBytes N g H T S x1 x3)) x1 (x3 + (nI 2))))))))
set_option maxRecDepth 100000 in
set_option maxHeartbeats 4000000 in
theorem kbb_X0_load_15 {G : zG} {o : cO} {u g H T N : Nat} {S : cS} {S0 : cS} {Q : Option Value → cS → Prop} {X : Nat × cS → Prop} (hG : zOK G) (hX0 : ∀ (S' : cS), St u g H T S' → Mono S0 S' → X (0, S') → cX G o dX0_load mX0_load 87 [none, none, none, none] [] S' Q) {rec : Nat → Option Nat → Int32 → Int32 → cS → Nat × cS} {rok : Nat → Option Nat → Int32 → Int32 → cS → Prop} (hrec : ∀ (x0 : Nat) (x1 : Option Nat) (x2 : Int32) (x3 : Int32) (S : cS), St u g H T S → Mono S0 S → isO g H 0 x0 → tK S 20 x1 → rok x0 x1 x2 x3 S → X (rec x0 x1 x2 x3 S) → cX G o dX0_load mX0_load 15 [some (va_rf (some x0)), some (va_rf x1), some (.int x2), some (.int x3)] [] S Q) {x0 : Nat} {x1 : Option Nat} {x2 : Int32} {x3 : Int32} (hS : St u g H T S) (hM : Mono S0 S) (t_x0 : isO g H 0 x0) (t_x1 : tK S 20 x1) (ok : KOB_X0_load_15 N g H T rok x0 x1 x2 x3 S) (hx : X (KB_X0_load_15 N g H T rec x0 x1 x2 x3 S)) : cX G o dX0_load mX0_load 15 [some (va_rf (some x0)), some (va_rf x1), some (.int x2), some (.int x3)] [] S Q := by
  unfold KOB_X0_load_15 at ok
  unfold KB_X0_load_15 at hx
  refine c_iload_n dX0_load_15 rfl rfl ?_
  refine c_bipush (v := nI 16) dX0_load_16 (by decide) ?_
  refine c_icmp_ge (tgt := 87) dX0_load_18 (by decide) (fun c_18 => ?_) (fun c_18 => ?_)
  · have ok := ok.1 c_18
    have hx := xif_p c_18 hx
    exact cX.cutz (hX0 S hS hM  hx) trivial
  · have ok := ok.2 c_18
    have hx := xif_n c_18 hx
    refine c_iload_n dX0_load_21 rfl rfl ?_
    refine c_aload_nQ dX0_load_22 rfl rfl ?_
    refine c_alenS (t := 0) (ty := .byte) rfl dX0_load_23 (tK.cis t_x1 ok.1) rfl ?_
    have ok := ok.2
    refine c_iconst (v := nI 5) dX0_load_24 (by decide) ?_
    refine c_isub dX0_load_25 ?_
    refine c_icmp_gt (tgt := 87) dX0_load_26 (by decide) (fun c_26 => ?_) (fun c_26 => ?_)
    · have ok := ok.1 c_26
      have hx := xif_p c_26 hx
      exact cX.cutz (hX0 S hS hM  hx) trivial
    · have ok := ok.2 c_26
      have hx := xif_n c_26 hx
      refine c_aload_nQ dX0_load_29 rfl rfl ?_
      refine c_getS (C := RX0) (T := TX0) (N := 6) (ci := 0) (k := 0) ⟨rfl, inT0, by decide, fX0_9⟩ (by decide) (by decide) (by decide) dX0_load_30 (hS.k t_x0) (hS.r (c := 0) t_x0 rfl (by omega)) ?_
      refine c_iload_n dX0_load_33 rfl rfl ?_
      refine c_aload_nQ dX0_load_34 rfl rfl ?_
      refine c_iload_n dX0_load_35 rfl rfl ?_
      refine c_SN2iE (y' := mX11_twoBytes) dX0_load_36 lX0_72 kX11_twoBytes ⟨by decide, by decide⟩ (by simp only [List.map_cons, List.map_nil, List.sum_cons, List.sum_nil, zcat_rf, zcat_i, zcat_l, zcat_r] <;> decide) (kc_X11_twoBytes hG hS t_x1 ok.1) ?_
      have ok := ok.2
      have tq_39 : tK S 21 (some (x0 + 1)) := tK_some (tK.cis (hS.rk (c := 0) (k := 0) t_x0 rfl (by omega)) (Option.some_ne_none _)).2
      refine c_iast hG dX0_load_39 ⟨(tK.cis (hS.rk (c := 0) (k := 0) t_x0 rfl (by omega)) (Option.some_ne_none _)), (vk_cast (hS.rl (c := 0) (k := 0) t_x0 rfl (by decide) (by omega)) ok.1)⟩ ?_
      have hS := hS.Aw (k := 21) (x0 + 1) x2.toNatClampNeg (k_X11_twoBytes N g H T S x1 x3) tq_39 (by decide)
      have hM := hM.A (x0 + 1) x2.toNatClampNeg (k_X11_twoBytes N g H T S x1 x3)
      have ok := ok.2
      refine c_aload_nQ dX0_load_40 rfl rfl ?_
      refine c_getS (C := RX0) (T := TX0) (N := 6) (ci := 0) (k := 1) ⟨rfl, inT0, by decide, fX0_15⟩ (by decide) (by decide) (by decide) dX0_load_41 (hS.k t_x0) (hS.r (c := 0) t_x0 rfl (by omega)) ?_
      refine c_iload_n dX0_load_44 rfl rfl ?_
      refine c_aload_nQ dX0_load_45 rfl rfl ?_
      refine c_iload_n dX0_load_46 rfl rfl ?_
      refine c_iconst (v := nI 2) dX0_load_47 (by decide) ?_
      refine c_iadd dX0_load_48 ?_
      refine c_SN2iE (y' := mX11_twoBytes) dX0_load_49 lX0_72 kX11_twoBytes ⟨by decide, by decide⟩ (by simp only [List.map_cons, List.map_nil, List.sum_cons, List.sum_nil, zcat_rf, zcat_i, zcat_l, zcat_r] <;> decide) (kc_X11_twoBytes hG hS (tK_A t_x1) ok.1) ?_
      have ok := ok.2
      have tq_52 : tK (csA S (x0 + 1) x2.toNatClampNeg (k_X11_twoBytes N g H T S x1 x3)) 21 (some (x0 + 2)) := tK_some (tK.cis (hS.rk (c := 0) (k := 1) t_x0 rfl (by omega)) (Option.some_ne_none _)).2
      refine c_iast hG dX0_load_52 ⟨(tK.cis (hS.rk (c := 0) (k := 1) t_x0 rfl (by omega)) (Option.some_ne_none _)), (vk_cast (hS.rl (c := 0) (k := 1) t_x0 rfl (by decide) (by omega)) ok.1)⟩ ?_
      have hS := hS.Aw (k := 21) (x0 + 2) x2.toNatClampNeg (k_X11_twoBytes N g H T (csA S (x0 + 1) x2.toNatClampNeg (k_X11_twoBytes N g H T S x1 x3)) x1 (x3 + (nI 2))) tq_52 (by decide)
      have hM := hM.A (x0 + 2) x2.toNatClampNeg (k_X11_twoBytes N g H T (csA S (x0 + 1) x2.toNatClampNeg (k_X11_twoBytes N g H T S x1 x3)) x1 (x3 + (nI 2)))
      have ok := ok.2
      exact cX.cutz (kb_X0_load_53 hG hX0 hrec hS hM t_x0 (tK_A (tK_A t_x1)) ok hx) ⟨rfl, rfl, rfl, rfl, trivial⟩
def KL_X0_load_15 (N g H T : Nat) : Nat → Nat → Option Nat → Int32 → Int32 → cS → Nat × cS
  | 0, x0, x1, x2, x3, S => (0, S)
  | n + 1, x0, x1, x2, x3, S => KB_X0_load_15 N g H T (KL_X0_load_15 N g H T n) x0 x1 x2 x3 S
def KOL_X0_load_15 (N g H T : Nat) : Nat → Nat → Option Nat → Int32 → Int32 → cS → Prop
  | 0, _, _, _, _, _ => False
  | n + 1, x0, x1, x2, x3, S => KOB_X0_load_15 N g H T (KOL_X0_load_15 N g H T n) x0 x1 x2 x3 S
set_option maxRecDepth 100000 in
set_option maxHeartbeats 4000000 in
theorem kl_X0_load_15 {G : zG} {o : cO} {u g H T N : Nat} {S0 : cS} {Q : Option Value → cS → Prop} {X : Nat × cS → Prop} (hG : zOK G) (hX0 : ∀ (S' : cS), St u g H T S' → Mono S0 S' → X (0, S') → cX G o dX0_load mX0_load 87 [none, none, none, none] [] S' Q) : ∀ (n : Nat) (x0 : Nat) (x1 : Option Nat) (x2 : Int32) (x3 : Int32) (S : cS), St u g H T S → Mono S0 S → isO g H 0 x0 → tK S 20 x1 → KOL_X0_load_15 N g H T n x0 x1 x2 x3 S → X (KL_X0_load_15 N g H T n x0 x1 x2 x3 S) → cX G o dX0_load mX0_load 15 [some (va_rf (some x0)), some (va_rf x1), some (.int x2), some (.int x3)] [] S Q := by
  intro n
  induction n with
  | zero => intro x0 x1 x2 x3 S hS hM t_x0 t_x1 ok; exact absurd ok id
  | succ n ih =>
    intro x0 x1 x2 x3 S hS hM t_x0 t_x1 ok hx
    exact kbb_X0_load_15 hG hX0 (rec := KL_X0_load_15 N g H T n) (rok := KOL_X0_load_15 N g H T n) (fun x0 x1 x2 x3 S hS hM t_x0 t_x1 ok hx => ih x0 x1 x2 x3 S hS hM t_x0 t_x1 ok hx) hS hM t_x0 t_x1 ok hx
def KA_X0_load_15 (N g H T : Nat) (x0 : Nat) (x1 : Option Nat) (x2 : Int32) (x3 : Int32) (S : cS) (z : Nat × cS) : cS := (KF_X0_load_87 N g H T z.2)
def KOA_X0_load_15 (N g H T : Nat) (x0 : Nat) (x1 : Option Nat) (x2 : Int32) (x3 : Int32) (S : cS) (z : Nat × cS) : Prop := KO_X0_load_87 N g H T z.2
set_option maxRecDepth 100000 in
set_option maxHeartbeats 4000000 in
theorem kd_X0_load_15 {G : zG} {o : cO} {u g H T N : Nat} {S : cS} {S0 : cS} {Q : Option Value → cS → Prop} {X : cS → Prop} (hG : zOK G) (hR : ∀ S', St u g H T S' → Mono S0 S' → X S' → Q none S') {x0 : Nat} {x1 : Option Nat} {x2 : Int32} {x3 : Int32} (hS : St u g H T S) (hM : Mono S0 S) (t_x0 : isO g H 0 x0) (t_x1 : tK S 20 x1) (ok : KOL_X0_load_15 N g H T N x0 x1 x2 x3 S ∧ KOA_X0_load_15 N g H T x0 x1 x2 x3 S (KL_X0_load_15 N g H T N x0 x1 x2 x3 S)) (hx : X (KA_X0_load_15 N g H T x0 x1 x2 x3 S (KL_X0_load_15 N g H T N x0 x1 x2 x3 S))) : cX G o dX0_load mX0_load 15 [some (va_rf (some x0)), some (va_rf x1), some (.int x2), some (.int x3)] [] S Q := by
  refine kl_X0_load_15 hG ?_ N x0 x1 x2 x3 S hS hM t_x0 t_x1 ok.1 (X := fun z => KOA_X0_load_15 N g H T x0 x1 x2 x3 S z ∧ X (KA_X0_load_15 N g H T x0 x1 x2 x3 S z)) ⟨ok.2, hx⟩
  · intro S' hS hM hz
    obtain ⟨ok, hx⟩ := hz
    unfold KOA_X0_load_15 at ok
    unfold KA_X0_load_15 at hx
    exact cX.cutz (kb_X0_load_87 hG hR hS hM  ok hx) trivial
def KF_X0_load_10 (N g H T : Nat) (x0 : Nat) (x1 : Option Nat) (S : cS) : cS := (KA_X0_load_15 N g H T x0 x1 (nI 0) (nI 35) S (KL_X0_load_15 N g H T N x0 x1 (nI 0) (nI 35) S))
def KO_X0_load_10 (N g H T : Nat) (x0 : Nat) (x1 : Option Nat) (S : cS) : Prop := (KOL_X0_load_15 N g H T N x0 x1 (nI 0) (nI 35) S ∧ KOA_X0_load_15 N g H T x0 x1 (nI 0) (nI 35) S (KL_X0_load_15 N g H T N x0 x1 (nI 0) (nI 35) S))
set_option maxRecDepth 100000 in
set_option maxHeartbeats 4000000 in
theorem kb_X0_load_10 {G : zG} {o : cO} {u g H T N : Nat} {S : cS} {S0 : cS} {Q : Option Value → cS → Prop} {X : cS → Prop} (hG : zOK G) (hR : ∀ S', St u g H T S' → Mono S0 S' → X S' → Q none S') {x0 : Nat} {x1 : Option Nat} (hS : St u g H T S) (hM : Mono S0 S) (t_x0 : isO g H 0 x0) (t_x1 : tK S 20 x1) (ok : KO_X0_load_10 N g H T x0 x1 S) (hx : X (KF_X0_load_10 N g H T x0 x1 S)) : cX G o dX0_load mX0_load 10 [some (va_rf (some x0)), some (va_rf x1), none, none] [] S Q := by
  unfold KO_X0_load_10 at ok
  unfold KF_X0_load_10 at hx
  refine c_iconst (v := nI 0) dX0_load_10 (by decide) ?_
  refine c_istore_2 dX0_load_11 (by decide) (by simp [zok, zg, zcat_rf]) ?_
  refine c_bipush (v := nI 35) dX0_load_12 (by decide) ?_
  refine c_istore_3 dX0_load_14 (by decide) rfl ?_
  exact cX.cutz (kd_X0_load_15 hG hR hS hM t_x0 t_x1 ok hx) ⟨rfl, rfl, rfl, rfl, trivial⟩
def KF_X0_load_0 (N g H T : Nat) (x0 : Nat) (x1 : Option Nat) (S : cS) : cS := (KF_X0_load_10 N g H T x0 x1 (csI (csI S 5 x0 (nI 1)) 2 x0 (nI 0)))
def KO_X0_load_0 (N g H T : Nat) (x0 : Nat) (x1 : Option Nat) (S : cS) : Prop := KO_X0_load_10 N g H T x0 x1 (csI (csI S 5 x0 (nI 1)) 2 x0 (nI 0))
set_option maxRecDepth 100000 in
set_option maxHeartbeats 4000000 in
theorem kb_X0_load_0 {G : zG} {o : cO} {u g H T N : Nat} {S : cS} {S0 : cS} {Q : Option Value → cS → Prop} {X : cS → Prop} (hG : zOK G) (hR : ∀ S', St u g H T S' → Mono S0 S' → X S' → Q none S') {x0 : Nat} {x1 : Option Nat} (hS : St u g H T S) (hM : Mono S0 S) (t_x0 : isO g H 0 x0) (t_x1 : tK S 20 x1) (ok : KO_X0_load_0 N g H T x0 x1 S) (hx : X (KF_X0_load_0 N g H T x0 x1 S)) : cX G o dX0_load mX0_load 0 [some (va_rf (some x0)), some (va_rf x1), none, none] [] S Q := by
  unfold KO_X0_load_0 at ok
  unfold KF_X0_load_0 at hx
  refine c_aload_nQ dX0_load_0 rfl rfl ?_
  refine c_iconst (v := nI 1) dX0_load_1 (by decide) ?_
  refine c_putI (C := RX0) (T := TX0) (N := 6) (ci := 0) (k := 5) ⟨rfl, inT0, by decide, fX0_25⟩ ftT0 rfl (by decide) (by decide) (by decide) rfl rfl dX0_load_2 (hS.k t_x0) ?_
  have hS := hS.I 5 x0 (nI 1)
  have hM := hM.I 5 x0 (nI 1)
  refine c_aload_nQ dX0_load_5 rfl rfl ?_
  refine c_iconst (v := nI 0) dX0_load_6 (by decide) ?_
  refine c_putI (C := RX0) (T := TX0) (N := 6) (ci := 0) (k := 2) ⟨rfl, inT0, by decide, fX0_41⟩ ftT0 rfl (by decide) (by decide) (by decide) rfl rfl dX0_load_7 (hS.k t_x0) ?_
  have hS := hS.I 2 x0 (nI 0)
  have hM := hM.I 2 x0 (nI 0)
  exact cX.cutz (kb_X0_load_10 hG hR hS hM t_x0 (tK_I (tK_I t_x1)) ok hx) ⟨rfl, rfl, trivial⟩
def k_X0_load (N g H T : Nat) (S : cS) (a0 : Nat) (x1 : Option Nat) : cS := KF_X0_load_0 N g H T a0 x1 S
def p_X0_load (N g H T : Nat) (S : cS) (a0 : Nat) (x1 : Option Nat) : Prop := KO_X0_load_0 N g H T a0 x1 S
set_option maxRecDepth 100000 in
set_option maxHeartbeats 4000000 in
theorem kc_X0_load {G : zG} {o : cO} {u g H T N : Nat} {S : cS} (hG : zOK G) {a0 : Nat} {x1 : Option Nat} (hS : St u g H T S) (t_x0 : isO g H 0 a0) (t_x1 : tK S 20 x1) (ok : p_X0_load N g H T S a0 x1) : cCv G o dX0_load mX0_load [.ref a0, va_rf x1] S (fun S' => S' = k_X0_load N g H T S a0 x1 ∧ St u g H T S' ∧ Mono S S') := by
  refine cC.ofX rfl (by cases x1 <;> exact Nat.le_of_ble_eq_true rfl) ?_
  rw [show zargs mX0_load.2.2.1 [.ref a0, va_rf x1] = [some (va_rf (some a0)), some (va_rf x1), none, none] from by cases x1 <;> rfl]
  exact cX.cutz (kb_X0_load_0 (X := fun F => F = k_X0_load N g H T S a0 x1) hG (fun S' h1 h2 h => ⟨rfl, h, h1, h2⟩) hS Mono.rfl' t_x0 t_x1 ok rfl) ⟨rfl, rfl, trivial⟩
/-! X2_clear -/
def KF_X2_clear_0 (N g H T : Nat) (x0 : Nat) (S : cS) : cS := (csI S 5 x0 (nI 0))
def KO_X2_clear_0 (N g H T : Nat) (x0 : Nat) (S : cS) : Prop := True
set_option maxRecDepth 100000 in
set_option maxHeartbeats 4000000 in
theorem kb_X2_clear_0 {G : zG} {o : cO} {u g H T N : Nat} {S : cS} {S0 : cS} {Q : Option Value → cS → Prop} {X : cS → Prop} (hG : zOK G) (hR : ∀ S', St u g H T S' → Mono S0 S' → X S' → Q none S') {x0 : Nat} (hS : St u g H T S) (hM : Mono S0 S) (t_x0 : isO g H 2 x0) (ok : KO_X2_clear_0 N g H T x0 S) (hx : X (KF_X2_clear_0 N g H T x0 S)) : cX G o dX2_clear mX2_clear 0 [some (va_rf (some x0))] [] S Q := by
  unfold KO_X2_clear_0 at ok
  unfold KF_X2_clear_0 at hx
  refine c_aload_nQ dX2_clear_0 rfl rfl ?_
  refine c_iconst (v := nI 0) dX2_clear_1 (by decide) ?_
  refine c_putI (C := RX2) (T := TX2) (N := 6) (ci := 2) (k := 5) ⟨rfl, inT2, by decide, fX2_62⟩ ftT2 rfl (by decide) (by decide) (by decide) rfl rfl dX2_clear_2 (hS.k t_x0) ?_
  have hS := hS.I 5 x0 (nI 0)
  have hM := hM.I 5 x0 (nI 0)
  exact c_return rfl dX2_clear_5 (hR _ hS hM hx)
def k_X2_clear (N g H T : Nat) (S : cS) (a0 : Nat) : cS := KF_X2_clear_0 N g H T a0 S
def p_X2_clear (N g H T : Nat) (S : cS) (a0 : Nat) : Prop := KO_X2_clear_0 N g H T a0 S
set_option maxRecDepth 100000 in
set_option maxHeartbeats 4000000 in
theorem kc_X2_clear {G : zG} {o : cO} {u g H T N : Nat} {S : cS} (hG : zOK G) {a0 : Nat} (hS : St u g H T S) (t_x0 : isO g H 2 a0) (ok : p_X2_clear N g H T S a0) : cCv G o dX2_clear mX2_clear [.ref a0] S (fun S' => S' = k_X2_clear N g H T S a0 ∧ St u g H T S' ∧ Mono S S') := by
  refine cC.ofX rfl (by exact Nat.le_of_ble_eq_true rfl) ?_
  show cX G o dX2_clear mX2_clear 0 [some (va_rf (some a0))] [] S _
  exact cX.cutz (kb_X2_clear_0 (X := fun F => F = k_X2_clear N g H T S a0) hG (fun S' h1 h2 h => ⟨rfl, h, h1, h2⟩) hS Mono.rfl' t_x0 ok rfl) ⟨rfl, trivial⟩
/-! X2_open -/
def KF_X2_open_0 (N g H T : Nat) (x0 : Nat) (S : cS) : cS := (csI S 4 x0 (nI 0))
def KO_X2_open_0 (N g H T : Nat) (x0 : Nat) (S : cS) : Prop := True
set_option maxRecDepth 100000 in
set_option maxHeartbeats 4000000 in
theorem kb_X2_open_0 {G : zG} {o : cO} {u g H T N : Nat} {S : cS} {S0 : cS} {Q : Option Value → cS → Prop} {X : cS → Prop} (hG : zOK G) (hR : ∀ S', St u g H T S' → Mono S0 S' → X S' → Q none S') {x0 : Nat} (hS : St u g H T S) (hM : Mono S0 S) (t_x0 : isO g H 2 x0) (ok : KO_X2_open_0 N g H T x0 S) (hx : X (KF_X2_open_0 N g H T x0 S)) : cX G o dX2_open mX2_open 0 [some (va_rf (some x0))] [] S Q := by
  unfold KO_X2_open_0 at ok
  unfold KF_X2_open_0 at hx
  refine c_aload_nQ dX2_open_0 rfl rfl ?_
  refine c_iconst (v := nI 0) dX2_open_1 (by decide) ?_
  refine c_putI (C := RX2) (T := TX2) (N := 6) (ci := 2) (k := 4) ⟨rfl, inT2, by decide, fX2_25⟩ ftT2 rfl (by decide) (by decide) (by decide) rfl rfl dX2_open_2 (hS.k t_x0) ?_
  have hS := hS.I 4 x0 (nI 0)
  have hM := hM.I 4 x0 (nI 0)
  exact c_return rfl dX2_open_5 (hR _ hS hM hx)
def k_X2_open (N g H T : Nat) (S : cS) (a0 : Nat) : cS := KF_X2_open_0 N g H T a0 S
def p_X2_open (N g H T : Nat) (S : cS) (a0 : Nat) : Prop := KO_X2_open_0 N g H T a0 S
set_option maxRecDepth 100000 in
set_option maxHeartbeats 4000000 in
theorem kc_X2_open {G : zG} {o : cO} {u g H T N : Nat} {S : cS} (hG : zOK G) {a0 : Nat} (hS : St u g H T S) (t_x0 : isO g H 2 a0) (ok : p_X2_open N g H T S a0) : cCv G o dX2_open mX2_open [.ref a0] S (fun S' => S' = k_X2_open N g H T S a0 ∧ St u g H T S' ∧ Mono S S') := by
  refine cC.ofX rfl (by exact Nat.le_of_ble_eq_true rfl) ?_
  show cX G o dX2_open mX2_open 0 [some (va_rf (some a0))] [] S _
  exact cX.cutz (kb_X2_open_0 (X := fun F => F = k_X2_open N g H T S a0) hG (fun S' h1 h2 h => ⟨rfl, h, h1, h2⟩) hS Mono.rfl' t_x0 ok rfl) ⟨rfl, trivial⟩
/-! X2_add -/
def KF_X2_add_31 (N g H T : Nat)  (S : cS) : cS := S
def KO_X2_add_31 (N g H T : Nat)  (S : cS) : Prop := True
set_option maxRecDepth 100000 in
set_option maxHeartbeats 4000000 in
theorem kb_X2_add_31 {G : zG} {o : cO} {u g H T N : Nat} {S : cS} {S0 : cS} {Q : Option Value → cS → Prop} {X : cS → Prop} (hG : zOK G) (hR : ∀ S', St u g H T S' → Mono S0 S' → X S' → Q none S') (hS : St u g H T S) (hM : Mono S0 S) (ok : KO_X2_add_31 N g H T S) (hx : X (KF_X2_add_31 N g H T S)) : cX G o dX2_add mX2_add 31 [none, none] [] S Q := by
  unfold KO_X2_add_31 at ok
  unfold KF_X2_add_31 at hx
  exact c_return rfl dX2_add_31 (hR _ hS hM hx)
def KF_X2_add_0 (N g H T : Nat) (x0 : Nat) (x1 : Int32) (S : cS) : cS := (if (nI 1024) ≤ (cI S 4 x0) then (KF_X2_add_31 N g H T S) else (KF_X2_add_31 N g H T (csI (csA S (x0 + 1) (cI S 4 x0).toNatClampNeg ((x1.toInt8.toInt32).toInt8.toInt32)) 4 x0 ((cI (csA S (x0 + 1) (cI S 4 x0).toNatClampNeg ((x1.toInt8.toInt32).toInt8.toInt32)) 4 x0) + (nI 1)))))
def KO_X2_add_0 (N g H T : Nat) (x0 : Nat) (x1 : Int32) (S : cS) : Prop := (((nI 1024) ≤ (cI S 4 x0) → KO_X2_add_31 N g H T S) ∧ (¬ (nI 1024) ≤ (cI S 4 x0) → (vp_in (cI S 4 x0) 1088) ∧ KO_X2_add_31 N g H T (csI (csA S (x0 + 1) (cI S 4 x0).toNatClampNeg ((x1.toInt8.toInt32).toInt8.toInt32)) 4 x0 ((cI (csA S (x0 + 1) (cI S 4 x0).toNatClampNeg ((x1.toInt8.toInt32).toInt8.toInt32)) 4 x0) + (nI 1)))))
set_option maxRecDepth 100000 in
set_option maxHeartbeats 4000000 in
theorem kb_X2_add_0 {G : zG} {o : cO} {u g H T N : Nat} {S : cS} {S0 : cS} {Q : Option Value → cS → Prop} {X : cS → Prop} (hG : zOK G) (hR : ∀ S', St u g H T S' → Mono S0 S' → X S' → Q none S') {x0 : Nat} {x1 : Int32} (hS : St u g H T S) (hM : Mono S0 S) (t_x0 : isO g H 2 x0) (ok : KO_X2_add_0 N g H T x0 x1 S) (hx : X (KF_X2_add_0 N g H T x0 x1 S)) : cX G o dX2_add mX2_add 0 [some (va_rf (some x0)), some (.int x1)] [] S Q := by
  unfold KO_X2_add_0 at ok
  unfold KF_X2_add_0 at hx
  refine c_aload_nQ dX2_add_0 rfl rfl ?_
  refine c_getI (C := RX2) (T := TX2) (N := 6) (ci := 2) (k := 4) ⟨rfl, inT2, by decide, fX2_25⟩ (by decide) (by decide) (by decide) dX2_add_1 (hS.k t_x0) ?_
  refine c_sipush (v := nI 1024) dX2_add_4 (by decide) ?_
  refine c_icmp_ge (tgt := 31) dX2_add_7 (by decide) (fun c_7 => ?_) (fun c_7 => ?_)
  · have ok := ok.1 c_7
    have hx := xif_p c_7 hx
    exact cX.cutz (kb_X2_add_31 hG hR hS hM  ok hx) trivial
  · have ok := ok.2 c_7
    have hx := xif_n c_7 hx
    refine c_aload_nQ dX2_add_10 rfl rfl ?_
    refine c_getS (C := RX2) (T := TX2) (N := 6) (ci := 2) (k := 0) ⟨rfl, inT2, by decide, fX2_11⟩ (by decide) (by decide) (by decide) dX2_add_11 (hS.k t_x0) (hS.r (c := 2) t_x0 rfl (by omega)) ?_
    refine c_aload_nQ dX2_add_14 rfl rfl ?_
    refine c_getI (C := RX2) (T := TX2) (N := 6) (ci := 2) (k := 4) ⟨rfl, inT2, by decide, fX2_25⟩ (by decide) (by decide) (by decide) dX2_add_15 (hS.k t_x0) ?_
    refine c_iload_n dX2_add_18 rfl rfl ?_
    refine c_i2b dX2_add_19 ?_
    refine c_bast dX2_add_20 ⟨(tK.cis (hS.rk (c := 2) (k := 0) t_x0 rfl (by omega)) (Option.some_ne_none _)), (vk_cast (hS.rl (c := 2) (k := 0) t_x0 rfl (by decide) (by omega)) ok.1)⟩ ?_
    have hS := hS.Ab (x0 + 1) (cI S 4 x0).toNatClampNeg (x1.toInt8.toInt32)
    have hM := hM.A (x0 + 1) (cI S 4 x0).toNatClampNeg ((x1.toInt8.toInt32).toInt8.toInt32)
    have ok := ok.2
    refine c_aload_nQ dX2_add_21 rfl rfl ?_
    refine c_dup dX2_add_22 (zcat_rf _) ?_
    refine c_getI (C := RX2) (T := TX2) (N := 6) (ci := 2) (k := 4) ⟨rfl, inT2, by decide, fX2_25⟩ (by decide) (by decide) (by decide) dX2_add_23 (hS.k t_x0) ?_
    refine c_iconst (v := nI 1) dX2_add_26 (by decide) ?_
    refine c_iadd dX2_add_27 ?_
    refine c_putI (C := RX2) (T := TX2) (N := 6) (ci := 2) (k := 4) ⟨rfl, inT2, by decide, fX2_25⟩ ftT2 rfl (by decide) (by decide) (by decide) rfl rfl dX2_add_28 (hS.k t_x0) ?_
    have hS := hS.I 4 x0 ((cI (csA S (x0 + 1) (cI S 4 x0).toNatClampNeg ((x1.toInt8.toInt32).toInt8.toInt32)) 4 x0) + (nI 1))
    have hM := hM.I 4 x0 ((cI (csA S (x0 + 1) (cI S 4 x0).toNatClampNeg ((x1.toInt8.toInt32).toInt8.toInt32)) 4 x0) + (nI 1))
    exact cX.cutz (kb_X2_add_31 hG hR hS hM  ok hx) trivial
def k_X2_add (N g H T : Nat) (S : cS) (a0 : Nat) (x1 : Int32) : cS := KF_X2_add_0 N g H T a0 x1 S
def p_X2_add (N g H T : Nat) (S : cS) (a0 : Nat) (x1 : Int32) : Prop := KO_X2_add_0 N g H T a0 x1 S
set_option maxRecDepth 100000 in
set_option maxHeartbeats 4000000 in
theorem kc_X2_add {G : zG} {o : cO} {u g H T N : Nat} {S : cS} (hG : zOK G) {a0 : Nat} {x1 : Int32} (hS : St u g H T S) (t_x0 : isO g H 2 a0) (ok : p_X2_add N g H T S a0 x1) : cCv G o dX2_add mX2_add [.ref a0, .int x1] S (fun S' => S' = k_X2_add N g H T S a0 x1 ∧ St u g H T S' ∧ Mono S S') := by
  refine cC.ofX rfl (by exact Nat.le_of_ble_eq_true rfl) ?_
  show cX G o dX2_add mX2_add 0 [some (va_rf (some a0)), some (.int x1)] [] S _
  exact cX.cutz (kb_X2_add_0 (X := fun F => F = k_X2_add N g H T S a0 x1) hG (fun S' h1 h2 h => ⟨rfl, h, h1, h2⟩) hS Mono.rfl' t_x0 ok rfl) ⟨rfl, rfl, trivial⟩
/-! X2_add_ -/
def KF_X2_add__57 (N g H T : Nat)  (S : cS) : cS := S
def KO_X2_add__57 (N g H T : Nat)  (S : cS) : Prop := True
set_option maxRecDepth 100000 in
set_option maxHeartbeats 4000000 in
theorem kb_X2_add__57 {G : zG} {o : cO} {u g H T N : Nat} {S : cS} {S0 : cS} {Q : Option Value → cS → Prop} {X : cS → Prop} (hG : zOK G) (hR : ∀ S', St u g H T S' → Mono S0 S' → X S' → Q none S') (hS : St u g H T S) (hM : Mono S0 S) (ok : KO_X2_add__57 N g H T S) (hx : X (KF_X2_add__57 N g H T S)) : cX G o dX2_add_ mX2_add_ 57 [none, none, none, none] [] S Q := by
  unfold KO_X2_add__57 at ok
  unfold KF_X2_add__57 at hx
  exact c_return rfl dX2_add__57 (hR _ hS hM hx)
def KF_X2_add__45 (N g H T : Nat) (x0 : Nat) (x2 : Int32) (x3 : Int32) (S : cS) : cS := (KF_X2_add__57 N g H T (csI S 4 x0 ((cI S 4 x0) + (x3 - x2))))
def KO_X2_add__45 (N g H T : Nat) (x0 : Nat) (x2 : Int32) (x3 : Int32) (S : cS) : Prop := KO_X2_add__57 N g H T (csI S 4 x0 ((cI S 4 x0) + (x3 - x2)))
set_option maxRecDepth 100000 in
set_option maxHeartbeats 4000000 in
theorem kb_X2_add__45 {G : zG} {o : cO} {u g H T N : Nat} {S : cS} {S0 : cS} {Q : Option Value → cS → Prop} {X : cS → Prop} (hG : zOK G) (hR : ∀ S', St u g H T S' → Mono S0 S' → X S' → Q none S') {x0 : Nat} {x2 : Int32} {x3 : Int32} (hS : St u g H T S) (hM : Mono S0 S) (t_x0 : isO g H 2 x0) (ok : KO_X2_add__45 N g H T x0 x2 x3 S) (hx : X (KF_X2_add__45 N g H T x0 x2 x3 S)) : cX G o dX2_add_ mX2_add_ 45 [some (va_rf (some x0)), none, some (.int x2), some (.int x3)] [] S Q := by
  unfold KO_X2_add__45 at ok
  unfold KF_X2_add__45 at hx
  refine c_aload_nQ dX2_add__45 rfl rfl ?_
  refine c_dup dX2_add__46 (zcat_rf _) ?_
  refine c_getI (C := RX2) (T := TX2) (N := 6) (ci := 2) (k := 4) ⟨rfl, inT2, by decide, fX2_25⟩ (by decide) (by decide) (by decide) dX2_add__47 (hS.k t_x0) ?_
  refine c_iload_n dX2_add__50 rfl rfl ?_
  refine c_iload_n dX2_add__51 rfl rfl ?_
  refine c_isub dX2_add__52 ?_
  refine c_iadd dX2_add__53 ?_
  refine c_putI (C := RX2) (T := TX2) (N := 6) (ci := 2) (k := 4) ⟨rfl, inT2, by decide, fX2_25⟩ ftT2 rfl (by decide) (by decide) (by decide) rfl rfl dX2_add__54 (hS.k t_x0) ?_
  have hS := hS.I 4 x0 ((cI S 4 x0) + (x3 - x2))
  have hM := hM.I 4 x0 ((cI S 4 x0) + (x3 - x2))
  exact cX.cutz (kb_X2_add__57 hG hR hS hM  ok hx) trivial
def KF_X2_add__0 (N g H T : Nat) (x0 : Nat) (x1 : Option Nat) (x2 : Int32) (x3 : Int32) (S : cS) : cS := (if x2 < 0 then (KF_X2_add__57 N g H T S) else (if x3 < x2 then (KF_X2_add__57 N g H T S) else (if (nI (cL S (za x1))) < x3 then (KF_X2_add__57 N g H T S) else (if (nI 1024) < (((cI S 4 x0) + x3) - x2) then (KF_X2_add__57 N g H T S) else (KF_X2_add__45 N g H T x0 x2 x3 (csArow S (x0 + 1) (va_cpy (cA S (za x1)) (cA S (x0 + 1)) x2.toNatClampNeg (cI S 4 x0).toNatClampNeg (x3 - x2).toNatClampNeg)))))))
def KO_X2_add__0 (N g H T : Nat) (x0 : Nat) (x1 : Option Nat) (x2 : Int32) (x3 : Int32) (S : cS) : Prop := ((x2 < 0 → KO_X2_add__57 N g H T S) ∧ (¬ x2 < 0 → ((x3 < x2 → KO_X2_add__57 N g H T S) ∧ (¬ x3 < x2 → (¬ x1 = none) ∧ (((nI (cL S (za x1))) < x3 → KO_X2_add__57 N g H T S) ∧ (¬ (nI (cL S (za x1))) < x3 → (((nI 1024) < (((cI S 4 x0) + x3) - x2) → KO_X2_add__57 N g H T S) ∧ (¬ (nI 1024) < (((cI S 4 x0) + x3) - x2) → (¬ x1 = none ∧ (¬ x2 < 0 ∧ ¬ (cI S 4 x0) < 0 ∧ ¬ (x3 - x2) < 0) ∧ x2.toNatClampNeg + (x3 - x2).toNatClampNeg ≤ (cL S (za x1)) ∧ (cI S 4 x0).toNatClampNeg + (x3 - x2).toNatClampNeg ≤ 1088) ∧ KO_X2_add__45 N g H T x0 x2 x3 (csArow S (x0 + 1) (va_cpy (cA S (za x1)) (cA S (x0 + 1)) x2.toNatClampNeg (cI S 4 x0).toNatClampNeg (x3 - x2).toNatClampNeg))))))))))
set_option maxRecDepth 100000 in
set_option maxHeartbeats 4000000 in
theorem kb_X2_add__0 {G : zG} {o : cO} {u g H T N : Nat} {S : cS} {S0 : cS} {Q : Option Value → cS → Prop} {X : cS → Prop} (hG : zOK G) (hR : ∀ S', St u g H T S' → Mono S0 S' → X S' → Q none S') {x0 : Nat} {x1 : Option Nat} {x2 : Int32} {x3 : Int32} (hS : St u g H T S) (hM : Mono S0 S) (t_x0 : isO g H 2 x0) (t_x1 : tK S 20 x1) (ok : KO_X2_add__0 N g H T x0 x1 x2 x3 S) (hx : X (KF_X2_add__0 N g H T x0 x1 x2 x3 S)) : cX G o dX2_add_ mX2_add_ 0 [some (va_rf (some x0)), some (va_rf x1), some (.int x2), some (.int x3)] [] S Q := by
  unfold KO_X2_add__0 at ok
  unfold KF_X2_add__0 at hx
  refine c_iload_n dX2_add__0 rfl rfl ?_
  refine c_if_lt (tgt := 57) dX2_add__1 (by decide) (fun c_1 => ?_) (fun c_1 => ?_)
  · have ok := ok.1 c_1
    have hx := xif_p c_1 hx
    exact cX.cutz (kb_X2_add__57 hG hR hS hM  ok hx) trivial
  · have ok := ok.2 c_1
    have hx := xif_n c_1 hx
    refine c_iload_n dX2_add__4 rfl rfl ?_
    refine c_iload_n dX2_add__5 rfl rfl ?_
    refine c_icmp_lt (tgt := 57) dX2_add__6 (by decide) (fun c_6 => ?_) (fun c_6 => ?_)
    · have ok := ok.1 c_6
      have hx := xif_p c_6 hx
      exact cX.cutz (kb_X2_add__57 hG hR hS hM  ok hx) trivial
    · have ok := ok.2 c_6
      have hx := xif_n c_6 hx
      refine c_iload_n dX2_add__9 rfl rfl ?_
      refine c_aload_nQ dX2_add__10 rfl rfl ?_
      refine c_alenS (t := 0) (ty := .byte) rfl dX2_add__11 (tK.cis t_x1 ok.1) rfl ?_
      have ok := ok.2
      refine c_icmp_gt (tgt := 57) dX2_add__12 (by decide) (fun c_12 => ?_) (fun c_12 => ?_)
      · have ok := ok.1 c_12
        have hx := xif_p c_12 hx
        exact cX.cutz (kb_X2_add__57 hG hR hS hM  ok hx) trivial
      · have ok := ok.2 c_12
        have hx := xif_n c_12 hx
        refine c_aload_nQ dX2_add__15 rfl rfl ?_
        refine c_getI (C := RX2) (T := TX2) (N := 6) (ci := 2) (k := 4) ⟨rfl, inT2, by decide, fX2_25⟩ (by decide) (by decide) (by decide) dX2_add__16 (hS.k t_x0) ?_
        refine c_iload_n dX2_add__19 rfl rfl ?_
        refine c_iadd dX2_add__20 ?_
        refine c_iload_n dX2_add__21 rfl rfl ?_
        refine c_isub dX2_add__22 ?_
        refine c_sipush (v := nI 1024) dX2_add__23 (by decide) ?_
        refine c_icmp_gt (tgt := 57) dX2_add__26 (by decide) (fun c_26 => ?_) (fun c_26 => ?_)
        · have ok := ok.1 c_26
          have hx := xif_p c_26 hx
          exact cX.cutz (kb_X2_add__57 hG hR hS hM  ok hx) trivial
        · have ok := ok.2 c_26
          have hx := xif_n c_26 hx
          refine c_aload_nQ dX2_add__29 rfl rfl ?_
          refine c_iload_n dX2_add__30 rfl rfl ?_
          refine c_aload_nQ dX2_add__31 rfl rfl ?_
          refine c_getS (C := RX2) (T := TX2) (N := 6) (ci := 2) (k := 0) ⟨rfl, inT2, by decide, fX2_11⟩ (by decide) (by decide) (by decide) dX2_add__32 (hS.k t_x0) (hS.r (c := 2) t_x0 rfl (by omega)) ?_
          refine c_aload_nQ dX2_add__35 rfl rfl ?_
          refine c_getI (C := RX2) (T := TX2) (N := 6) (ci := 2) (k := 4) ⟨rfl, inT2, by decide, fX2_25⟩ (by decide) (by decide) (by decide) dX2_add__36 (hS.k t_x0) ?_
          refine c_iload_n dX2_add__39 rfl rfl ?_
          refine c_iload_n dX2_add__40 rfl rfl ?_
          refine c_isub dX2_add__41 ?_
          have tq_42 : tK S 20 (some (za x1)) := tK_some (tK.cis t_x1 ok.1.1).2
          refine c_copy0 hG dX2_add__42 qX2_29 (by decide) (by decide) ⟨tK.cis t_x1 ok.1.1, tK.cis (hS.rk (c := 2) (k := 0) t_x0 rfl (by omega)) (Option.some_ne_none _), ok.1.2.1, ok.1.2.2.1, (le_cast (hS.rl (c := 2) (k := 0) t_x0 rfl (by decide) (by omega)) ok.1.2.2.2)⟩ ?_
          have hS := hS.Ac (x0 + 1) (za x1) x2.toNatClampNeg (cI S 4 x0).toNatClampNeg (x3 - x2).toNatClampNeg tq_42
          have hM := hM.Ar (x0 + 1) (va_cpy (cA S (za x1)) (cA S (x0 + 1)) x2.toNatClampNeg (cI S 4 x0).toNatClampNeg (x3 - x2).toNatClampNeg)
          have ok := ok.2
          exact cX.cutz (kb_X2_add__45 hG hR hS hM t_x0 ok hx) ⟨rfl, rfl, rfl, trivial⟩
def k_X2_add_ (N g H T : Nat) (S : cS) (a0 : Nat) (x1 : Option Nat) (x2 : Int32) (x3 : Int32) : cS := KF_X2_add__0 N g H T a0 x1 x2 x3 S
def p_X2_add_ (N g H T : Nat) (S : cS) (a0 : Nat) (x1 : Option Nat) (x2 : Int32) (x3 : Int32) : Prop := KO_X2_add__0 N g H T a0 x1 x2 x3 S
set_option maxRecDepth 100000 in
set_option maxHeartbeats 4000000 in
theorem kc_X2_add_ {G : zG} {o : cO} {u g H T N : Nat} {S : cS} (hG : zOK G) {a0 : Nat} {x1 : Option Nat} {x2 : Int32} {x3 : Int32} (hS : St u g H T S) (t_x0 : isO g H 2 a0) (t_x1 : tK S 20 x1) (ok : p_X2_add_ N g H T S a0 x1 x2 x3) : cCv G o dX2_add_ mX2_add_ [.ref a0, va_rf x1, .int x2, .int x3] S (fun S' => S' = k_X2_add_ N g H T S a0 x1 x2 x3 ∧ St u g H T S' ∧ Mono S S') := by
  refine cC.ofX rfl (by cases x1 <;> exact Nat.le_of_ble_eq_true rfl) ?_
  rw [show zargs mX2_add_.2.2.1 [.ref a0, va_rf x1, .int x2, .int x3] = [some (va_rf (some a0)), some (va_rf x1), some (.int x2), some (.int x3)] from by cases x1 <;> rfl]
  exact cX.cutz (kb_X2_add__0 (X := fun F => F = k_X2_add_ N g H T S a0 x1 x2 x3) hG (fun S' h1 h2 h => ⟨rfl, h, h1, h2⟩) hS Mono.rfl' t_x0 t_x1 ok rfl) ⟨rfl, rfl, rfl, rfl, trivial⟩
/-! J7_rangeCheck_23922 -/
def KF_J7_rangeCheck_23922_67 (N g H T : Nat) (x2 : Int32) (s0 : Option Nat) (S : cS) : cS := S
def KO_J7_rangeCheck_23922_67 (N g H T : Nat) (x2 : Int32) (s0 : Option Nat) (S : cS) : Prop := False
set_option maxRecDepth 100000 in
set_option maxHeartbeats 4000000 in
theorem kb_J7_rangeCheck_23922_67 {G : zG} {o : cO} {u g H T N : Nat} {S : cS} {S0 : cS} {Q : Option Value → cS → Prop} {X : cS → Prop} (hG : zOK G) (hR : ∀ S', St u g H T S' → Mono S0 S' → X S' → Q none S') {x2 : Int32} {s0 : Option Nat} (hS : St u g H T S) (hM : Mono S0 S) (ok : KO_J7_rangeCheck_23922_67 N g H T x2 s0 S) (hx : X (KF_J7_rangeCheck_23922_67 N g H T x2 s0 S)) : cX G o dJ7_rangeCheck_23922 mJ7_rangeCheck_23922 67 [none, none, some (.int x2)] [va_rf s0] S Q := by
  unfold KO_J7_rangeCheck_23922_67 at ok
  unfold KF_J7_rangeCheck_23922_67 at hx
  refine c_dup dJ7_rangeCheck_23922_67 (zcat_rf _) ?_
  refine c_iload_n dJ7_rangeCheck_23922_68 rfl rfl ?_
  exact absurd ok id
def KF_J7_rangeCheck_23922_12 (N g H T : Nat) (x1 : Int32) (x2 : Int32) (s0 : Option Nat) (s1 : Option Nat) (s2 : Option Nat) (S : cS) : cS := S
def KO_J7_rangeCheck_23922_12 (N g H T : Nat) (x1 : Int32) (x2 : Int32) (s0 : Option Nat) (s1 : Option Nat) (s2 : Option Nat) (S : cS) : Prop := False
set_option maxRecDepth 100000 in
set_option maxHeartbeats 4000000 in
theorem kb_J7_rangeCheck_23922_12 {G : zG} {o : cO} {u g H T N : Nat} {S : cS} {S0 : cS} {Q : Option Value → cS → Prop} {X : cS → Prop} (hG : zOK G) (hR : ∀ S', St u g H T S' → Mono S0 S' → X S' → Q none S') {x1 : Int32} {x2 : Int32} {s0 : Option Nat} {s1 : Option Nat} {s2 : Option Nat} (hS : St u g H T S) (hM : Mono S0 S) (ok : KO_J7_rangeCheck_23922_12 N g H T x1 x2 s0 s1 s2 S) (hx : X (KF_J7_rangeCheck_23922_12 N g H T x1 x2 s0 s1 s2 S)) : cX G o dJ7_rangeCheck_23922 mJ7_rangeCheck_23922 12 [none, some (.int x1), some (.int x2)] [va_rf s2, va_rf s1, va_rf s0] S Q := by
  unfold KO_J7_rangeCheck_23922_12 at ok
  unfold KF_J7_rangeCheck_23922_12 at hx
  refine c_dup dJ7_rangeCheck_23922_12 (zcat_rf _) ?_
  exact absurd ok id
def KF_J7_rangeCheck_23922_0 (N g H T : Nat) (x0 : Int32) (x1 : Int32) (x2 : Int32) (S : cS) : cS := (if x1 ≤ x2 then (if 0 ≤ x1 then (if x2 ≤ x0 then S else S) else S) else S)
def KO_J7_rangeCheck_23922_0 (N g H T : Nat) (x0 : Int32) (x1 : Int32) (x2 : Int32) (S : cS) : Prop := ((x1 ≤ x2 → ((0 ≤ x1 → ((x2 ≤ x0 → True) ∧ (¬ x2 ≤ x0 → False))) ∧ (¬ 0 ≤ x1 → False))) ∧ (¬ x1 ≤ x2 → False))
set_option maxRecDepth 100000 in
set_option maxHeartbeats 4000000 in
theorem kb_J7_rangeCheck_23922_0 {G : zG} {o : cO} {u g H T N : Nat} {S : cS} {S0 : cS} {Q : Option Value → cS → Prop} {X : cS → Prop} (hG : zOK G) (hR : ∀ S', St u g H T S' → Mono S0 S' → X S' → Q none S') {x0 : Int32} {x1 : Int32} {x2 : Int32} (hS : St u g H T S) (hM : Mono S0 S) (ok : KO_J7_rangeCheck_23922_0 N g H T x0 x1 x2 S) (hx : X (KF_J7_rangeCheck_23922_0 N g H T x0 x1 x2 S)) : cX G o dJ7_rangeCheck_23922 mJ7_rangeCheck_23922 0 [some (.int x0), some (.int x1), some (.int x2)] [] S Q := by
  unfold KO_J7_rangeCheck_23922_0 at ok
  unfold KF_J7_rangeCheck_23922_0 at hx
  refine c_iload_n dJ7_rangeCheck_23922_0 rfl rfl ?_
  refine c_iload_n dJ7_rangeCheck_23922_1 rfl rfl ?_
  refine c_icmp_le (tgt := 46) dJ7_rangeCheck_23922_2 (by decide) (fun c_2 => ?_) (fun c_2 => ?_)
  · have ok := ok.1 c_2
    have hx := xif_p c_2 hx
    refine c_iload_n dJ7_rangeCheck_23922_46 rfl rfl ?_
    refine c_if_ge (tgt := 59) dJ7_rangeCheck_23922_47 (by decide) (fun c_47 => ?_) (fun c_47 => ?_)
    · have ok := ok.1 c_47
      have hx := xif_p c_47 hx
      refine c_iload_n dJ7_rangeCheck_23922_59 rfl rfl ?_
      refine c_iload_n dJ7_rangeCheck_23922_60 rfl rfl ?_
      refine c_icmp_le (tgt := 73) dJ7_rangeCheck_23922_61 (by decide) (fun c_61 => ?_) (fun c_61 => ?_)
      · have ok := ok.1 c_61
        have hx := xif_p c_61 hx
        exact c_return rfl dJ7_rangeCheck_23922_73 (hR _ hS hM hx)
      · have ok := ok.2 c_61
        have hx := xif_n c_61 hx
        exact absurd ok id
    · have ok := ok.2 c_47
      have hx := xif_n c_47 hx
      exact absurd ok id
  · have ok := ok.2 c_2
    have hx := xif_n c_2 hx
    exact absurd ok id
def k_J7_rangeCheck_23922 (N g H T : Nat) (S : cS) (x0 : Int32) (x1 : Int32) (x2 : Int32) : cS := KF_J7_rangeCheck_23922_0 N g H T x0 x1 x2 S
def p_J7_rangeCheck_23922 (N g H T : Nat) (S : cS) (x0 : Int32) (x1 : Int32) (x2 : Int32) : Prop := KO_J7_rangeCheck_23922_0 N g H T x0 x1 x2 S
set_option maxRecDepth 100000 in
set_option maxHeartbeats 4000000 in
theorem kc_J7_rangeCheck_23922 {G : zG} {o : cO} {u g H T N : Nat} {S : cS} (hG : zOK G) {x0 : Int32} {x1 : Int32} {x2 : Int32} (hS : St u g H T S) (ok : p_J7_rangeCheck_23922 N g H T S x0 x1 x2) : cCv G o dJ7_rangeCheck_23922 mJ7_rangeCheck_23922 [.int x0, .int x1, .int x2] S (fun S' => S' = k_J7_rangeCheck_23922 N g H T S x0 x1 x2 ∧ St u g H T S' ∧ Mono S S') := by
  refine cC.ofX rfl (by exact Nat.le_of_ble_eq_true rfl) ?_
  show cX G o dJ7_rangeCheck_23922 mJ7_rangeCheck_23922 0 [some (.int x0), some (.int x1), some (.int x2)] [] S _
  exact cX.cutz (kb_J7_rangeCheck_23922_0 (X := fun F => F = k_J7_rangeCheck_23922 N g H T S x0 x1 x2) hG (fun S' h1 h2 h => ⟨rfl, h, h1, h2⟩) hS Mono.rfl'  ok rfl) ⟨rfl, rfl, rfl, trivial⟩
/-! J7_fill_eb02e -/
def KF_J7_fill_eb02e_27 (N g H T : Nat)  (S : cS) : cS := S
def KO_J7_fill_eb02e_27 (N g H T : Nat)  (S : cS) : Prop := True
set_option maxRecDepth 100000 in
set_option maxHeartbeats 4000000 in
theorem kb_J7_fill_eb02e_27 {G : zG} {o : cO} {u g H T N : Nat} {S : cS} {S0 : cS} {Q : Option Value → cS → Prop} {X : cS → Prop} (hG : zOK G) (hR : ∀ S', St u g H T S' → Mono S0 S' → X S' → Q none S') (hS : St u g H T S) (hM : Mono S0 S) (ok : KO_J7_fill_eb02e_27 N g H T S) (hx : X (KF_J7_fill_eb02e_27 N g H T S)) : cX G o dJ7_fill_eb02e mJ7_fill_eb02e 27 [none, none, none, none, none] [] S Q := by
  unfold KO_J7_fill_eb02e_27 at ok
  unfold KF_J7_fill_eb02e_27 at hx
  exact c_return rfl dJ7_fill_eb02e_27 (hR _ hS hM hx)
def KB_J7_fill_eb02e_10 (N g H T : Nat) (rec : Option Nat → Int32 → Int32 → Int32 → cS → Nat × cS) (x0 : Option Nat) (x2 : Int32) (x3 : Int32) (x4 : Int32) (S : cS) : Nat × cS := (if x2 ≤ x4 then (0, S) else (rec x0 x2 x3 (x4 + nI 1) (csA S (za x0) x4.toNatClampNeg (x3.toInt8.toInt32))))
def KOB_J7_fill_eb02e_10 (N g H T : Nat) (rok : Option Nat → Int32 → Int32 → Int32 → cS → Prop) (x0 : Option Nat) (x2 : Int32) (x3 : Int32) (x4 : Int32) (S : cS) : Prop := ((x2 ≤ x4 → True) ∧ (¬ x2 ≤ x4 → (¬ x0 = none ∧ vp_in x4 (cL S (za x0))) ∧ rok x0 x2 x3 (x4 + nI 1) (csA S (za x0) x4.toNatClampNeg (x3.toInt8.toInt32))))
set_option maxRecDepth 100000 in
set_option maxHeartbeats 4000000 in
theorem kbb_J7_fill_eb02e_10 {G : zG} {o : cO} {u g H T N : Nat} {S : cS} {S0 : cS} {Q : Option Value → cS → Prop} {X : Nat × cS → Prop} (hG : zOK G) (hX0 : ∀ (S' : cS), St u g H T S' → Mono S0 S' → X (0, S') → cX G o dJ7_fill_eb02e mJ7_fill_eb02e 27 [none, none, none, none, none] [] S' Q) {rec : Option Nat → Int32 → Int32 → Int32 → cS → Nat × cS} {rok : Option Nat → Int32 → Int32 → Int32 → cS → Prop} (hrec : ∀ (x0 : Option Nat) (x2 : Int32) (x3 : Int32) (x4 : Int32) (S : cS), St u g H T S → Mono S0 S → tK S 20 x0 → rok x0 x2 x3 x4 S → X (rec x0 x2 x3 x4 S) → cX G o dJ7_fill_eb02e mJ7_fill_eb02e 10 [some (va_rf x0), none, some (.int x2), some (.int x3), some (.int x4)] [] S Q) {x0 : Option Nat} {x2 : Int32} {x3 : Int32} {x4 : Int32} (hS : St u g H T S) (hM : Mono S0 S) (t_x0 : tK S 20 x0) (ok : KOB_J7_fill_eb02e_10 N g H T rok x0 x2 x3 x4 S) (hx : X (KB_J7_fill_eb02e_10 N g H T rec x0 x2 x3 x4 S)) : cX G o dJ7_fill_eb02e mJ7_fill_eb02e 10 [some (va_rf x0), none, some (.int x2), some (.int x3), some (.int x4)] [] S Q := by
  unfold KOB_J7_fill_eb02e_10 at ok
  unfold KB_J7_fill_eb02e_10 at hx
  refine c_iload dJ7_fill_eb02e_10 rfl ?_
  refine c_iload_n dJ7_fill_eb02e_12 rfl rfl ?_
  refine c_icmp_ge (tgt := 27) dJ7_fill_eb02e_13 (by decide) (fun c_13 => ?_) (fun c_13 => ?_)
  · have ok := ok.1 c_13
    have hx := xif_p c_13 hx
    exact cX.cutz (hX0 S hS hM  hx) trivial
  · have ok := ok.2 c_13
    have hx := xif_n c_13 hx
    refine c_aload_nQ dJ7_fill_eb02e_16 rfl rfl ?_
    refine c_iload dJ7_fill_eb02e_17 rfl ?_
    refine c_iload_n dJ7_fill_eb02e_19 rfl rfl ?_
    refine c_bast dJ7_fill_eb02e_20 ⟨(tK.cis t_x0 ok.1.1), ok.1.2⟩ ?_
    have hS := hS.Ab (za x0) x4.toNatClampNeg x3
    have hM := hM.A (za x0) x4.toNatClampNeg (x3.toInt8.toInt32)
    have ok := ok.2
    refine c_iinc_4 (v := (x4 + nI 1)) dJ7_fill_eb02e_21 rfl (by first | rfl | (congr 1)) (by decide) rfl ?_
    refine c_goto (tgt := 10) dJ7_fill_eb02e_24 (by decide) ?_
    exact cX.cutz (hrec _ _ _ _ (csA S (za x0) x4.toNatClampNeg (x3.toInt8.toInt32)) hS hM (tK_A t_x0) ok hx) ⟨rfl, rfl, rfl, rfl, trivial⟩
def KL_J7_fill_eb02e_10 (N g H T : Nat) : Nat → Option Nat → Int32 → Int32 → Int32 → cS → Nat × cS
  | 0, x0, x2, x3, x4, S => (0, S)
  | n + 1, x0, x2, x3, x4, S => KB_J7_fill_eb02e_10 N g H T (KL_J7_fill_eb02e_10 N g H T n) x0 x2 x3 x4 S
def KOL_J7_fill_eb02e_10 (N g H T : Nat) : Nat → Option Nat → Int32 → Int32 → Int32 → cS → Prop
  | 0, _, _, _, _, _ => False
  | n + 1, x0, x2, x3, x4, S => KOB_J7_fill_eb02e_10 N g H T (KOL_J7_fill_eb02e_10 N g H T n) x0 x2 x3 x4 S
set_option maxRecDepth 100000 in
set_option maxHeartbeats 4000000 in
theorem kl_J7_fill_eb02e_10 {G : zG} {o : cO} {u g H T N : Nat} {S0 : cS} {Q : Option Value → cS → Prop} {X : Nat × cS → Prop} (hG : zOK G) (hX0 : ∀ (S' : cS), St u g H T S' → Mono S0 S' → X (0, S') → cX G o dJ7_fill_eb02e mJ7_fill_eb02e 27 [none, none, none, none, none] [] S' Q) : ∀ (n : Nat) (x0 : Option Nat) (x2 : Int32) (x3 : Int32) (x4 : Int32) (S : cS), St u g H T S → Mono S0 S → tK S 20 x0 → KOL_J7_fill_eb02e_10 N g H T n x0 x2 x3 x4 S → X (KL_J7_fill_eb02e_10 N g H T n x0 x2 x3 x4 S) → cX G o dJ7_fill_eb02e mJ7_fill_eb02e 10 [some (va_rf x0), none, some (.int x2), some (.int x3), some (.int x4)] [] S Q := by
  intro n
  induction n with
  | zero => intro x0 x2 x3 x4 S hS hM t_x0 ok; exact absurd ok id
  | succ n ih =>
    intro x0 x2 x3 x4 S hS hM t_x0 ok hx
    exact kbb_J7_fill_eb02e_10 hG hX0 (rec := KL_J7_fill_eb02e_10 N g H T n) (rok := KOL_J7_fill_eb02e_10 N g H T n) (fun x0 x2 x3 x4 S hS hM t_x0 ok hx => ih x0 x2 x3 x4 S hS hM t_x0 ok hx) hS hM t_x0 ok hx
def KA_J7_fill_eb02e_10 (N g H T : Nat) (x0 : Option Nat) (x2 : Int32) (x3 : Int32) (x4 : Int32) (S : cS) (z : Nat × cS) : cS := (KF_J7_fill_eb02e_27 N g H T z.2)
def KOA_J7_fill_eb02e_10 (N g H T : Nat) (x0 : Option Nat) (x2 : Int32) (x3 : Int32) (x4 : Int32) (S : cS) (z : Nat × cS) : Prop := KO_J7_fill_eb02e_27 N g H T z.2
set_option maxRecDepth 100000 in
set_option maxHeartbeats 4000000 in
theorem kd_J7_fill_eb02e_10 {G : zG} {o : cO} {u g H T N : Nat} {S : cS} {S0 : cS} {Q : Option Value → cS → Prop} {X : cS → Prop} (hG : zOK G) (hR : ∀ S', St u g H T S' → Mono S0 S' → X S' → Q none S') {x0 : Option Nat} {x2 : Int32} {x3 : Int32} {x4 : Int32} (hS : St u g H T S) (hM : Mono S0 S) (t_x0 : tK S 20 x0) (ok : KOL_J7_fill_eb02e_10 N g H T N x0 x2 x3 x4 S ∧ KOA_J7_fill_eb02e_10 N g H T x0 x2 x3 x4 S (KL_J7_fill_eb02e_10 N g H T N x0 x2 x3 x4 S)) (hx : X (KA_J7_fill_eb02e_10 N g H T x0 x2 x3 x4 S (KL_J7_fill_eb02e_10 N g H T N x0 x2 x3 x4 S))) : cX G o dJ7_fill_eb02e mJ7_fill_eb02e 10 [some (va_rf x0), none, some (.int x2), some (.int x3), some (.int x4)] [] S Q := by
  refine kl_J7_fill_eb02e_10 hG ?_ N x0 x2 x3 x4 S hS hM t_x0 ok.1 (X := fun z => KOA_J7_fill_eb02e_10 N g H T x0 x2 x3 x4 S z ∧ X (KA_J7_fill_eb02e_10 N g H T x0 x2 x3 x4 S z)) ⟨ok.2, hx⟩
  · intro S' hS hM hz
    obtain ⟨ok, hx⟩ := hz
    unfold KOA_J7_fill_eb02e_10 at ok
    unfold KA_J7_fill_eb02e_10 at hx
    exact cX.cutz (kb_J7_fill_eb02e_27 hG hR hS hM  ok hx) trivial
def KF_J7_fill_eb02e_7 (N g H T : Nat) (x0 : Option Nat) (x1 : Int32) (x2 : Int32) (x3 : Int32) (S : cS) : cS := (KA_J7_fill_eb02e_10 N g H T x0 x2 x3 x1 S (KL_J7_fill_eb02e_10 N g H T N x0 x2 x3 x1 S))
def KO_J7_fill_eb02e_7 (N g H T : Nat) (x0 : Option Nat) (x1 : Int32) (x2 : Int32) (x3 : Int32) (S : cS) : Prop := (KOL_J7_fill_eb02e_10 N g H T N x0 x2 x3 x1 S ∧ KOA_J7_fill_eb02e_10 N g H T x0 x2 x3 x1 S (KL_J7_fill_eb02e_10 N g H T N x0 x2 x3 x1 S))
set_option maxRecDepth 100000 in
set_option maxHeartbeats 4000000 in
theorem kb_J7_fill_eb02e_7 {G : zG} {o : cO} {u g H T N : Nat} {S : cS} {S0 : cS} {Q : Option Value → cS → Prop} {X : cS → Prop} (hG : zOK G) (hR : ∀ S', St u g H T S' → Mono S0 S' → X S' → Q none S') {x0 : Option Nat} {x1 : Int32} {x2 : Int32} {x3 : Int32} (hS : St u g H T S) (hM : Mono S0 S) (t_x0 : tK S 20 x0) (ok : KO_J7_fill_eb02e_7 N g H T x0 x1 x2 x3 S) (hx : X (KF_J7_fill_eb02e_7 N g H T x0 x1 x2 x3 S)) : cX G o dJ7_fill_eb02e mJ7_fill_eb02e 7 [some (va_rf x0), some (.int x1), some (.int x2), some (.int x3), none] [] S Q := by
  unfold KO_J7_fill_eb02e_7 at ok
  unfold KF_J7_fill_eb02e_7 at hx
  refine c_iload_n dJ7_fill_eb02e_7 rfl rfl ?_
  refine c_istore_4 dJ7_fill_eb02e_8 (by decide) rfl ?_
  exact cX.cutz (kd_J7_fill_eb02e_10 hG hR hS hM t_x0 ok hx) ⟨rfl, rfl, rfl, rfl, trivial⟩
def KF_J7_fill_eb02e_0 (N g H T : Nat) (x0 : Option Nat) (x1 : Int32) (x2 : Int32) (x3 : Int32) (S : cS) : cS := (KF_J7_fill_eb02e_7 N g H T x0 x1 x2 x3 (k_J7_rangeCheck_23922 N g H T S (nI (cL S (za x0))) x1 x2))
def KO_J7_fill_eb02e_0 (N g H T : Nat) (x0 : Option Nat) (x1 : Int32) (x2 : Int32) (x3 : Int32) (S : cS) : Prop := (¬ x0 = none) ∧ (p_J7_rangeCheck_23922 N g H T S (nI (cL S (za x0))) x1 x2) ∧ KO_J7_fill_eb02e_7 N g H T x0 x1 x2 x3 (k_J7_rangeCheck_23922 N g H T S (nI (cL S (za x0))) x1 x2)
set_option maxRecDepth 100000 in
set_option maxHeartbeats 4000000 in
theorem kb_J7_fill_eb02e_0 {G : zG} {o : cO} {u g H T N : Nat} {S : cS} {S0 : cS} {Q : Option Value → cS → Prop} {X : cS → Prop} (hG : zOK G) (hR : ∀ S', St u g H T S' → Mono S0 S' → X S' → Q none S') {x0 : Option Nat} {x1 : Int32} {x2 : Int32} {x3 : Int32} (hS : St u g H T S) (hM : Mono S0 S) (t_x0 : tK S 20 x0) (ok : KO_J7_fill_eb02e_0 N g H T x0 x1 x2 x3 S) (hx : X (KF_J7_fill_eb02e_0 N g H T x0 x1 x2 x3 S)) : cX G o dJ7_fill_eb02e mJ7_fill_eb02e 0 [some (va_rf x0), some (.int x1), some (.int x2), some (.int x3), none] [] S Q := by
  unfold KO_J7_fill_eb02e_0 at ok
  unfold KF_J7_fill_eb02e_0 at hx
  refine c_aload_nQ dJ7_fill_eb02e_0 rfl rfl ?_
  refine c_alenS (t := 0) (ty := .byte) rfl dJ7_fill_eb02e_1 (tK.cis t_x0 ok.1) rfl ?_
  have ok := ok.2
  refine c_iload_n dJ7_fill_eb02e_2 rfl rfl ?_
  refine c_iload_n dJ7_fill_eb02e_3 rfl rfl ?_
  refine c_S3vK (y' := mJ7_rangeCheck_23922) dJ7_fill_eb02e_4 lJ7_13 kJ7_rangeCheck_23922 ⟨by decide, by decide⟩ (Nat.le_of_ble_eq_true rfl) (kc_J7_rangeCheck_23922 hG hS ok.1) (fun ⟨hS, hm_4⟩ => ?_)
  have hM := hM.trans hm_4
  have ok := ok.2
  exact cX.cutz (kb_J7_fill_eb02e_7 hG hR hS hM (hm_4.tK t_x0 (by decide)) ok hx) ⟨rfl, rfl, rfl, rfl, trivial⟩
def k_J7_fill_eb02e (N g H T : Nat) (S : cS) (x0 : Option Nat) (x1 : Int32) (x2 : Int32) (x3 : Int32) : cS := KF_J7_fill_eb02e_0 N g H T x0 x1 x2 x3 S
def p_J7_fill_eb02e (N g H T : Nat) (S : cS) (x0 : Option Nat) (x1 : Int32) (x2 : Int32) (x3 : Int32) : Prop := KO_J7_fill_eb02e_0 N g H T x0 x1 x2 x3 S
set_option maxRecDepth 100000 in
set_option maxHeartbeats 4000000 in
theorem kc_J7_fill_eb02e {G : zG} {o : cO} {u g H T N : Nat} {S : cS} (hG : zOK G) {x0 : Option Nat} {x1 : Int32} {x2 : Int32} {x3 : Int32} (hS : St u g H T S) (t_x0 : tK S 20 x0) (ok : p_J7_fill_eb02e N g H T S x0 x1 x2 x3) : cCv G o dJ7_fill_eb02e mJ7_fill_eb02e [va_rf x0, .int x1, .int x2, .int x3] S (fun S' => S' = k_J7_fill_eb02e N g H T S x0 x1 x2 x3 ∧ St u g H T S' ∧ Mono S S') := by
  refine cC.ofX rfl (by cases x0 <;> exact Nat.le_of_ble_eq_true rfl) ?_
  rw [show zargs mJ7_fill_eb02e.2.2.1 [va_rf x0, .int x1, .int x2, .int x3] = [some (va_rf x0), some (.int x1), some (.int x2), some (.int x3), none] from by cases x0 <;> rfl]
  exact cX.cutz (kb_J7_fill_eb02e_0 (X := fun F => F = k_J7_fill_eb02e N g H T S x0 x1 x2 x3) hG (fun S' h1 h2 h => ⟨rfl, h, h1, h2⟩) hS Mono.rfl' t_x0 ok rfl) ⟨rfl, rfl, rfl, rfl, trivial⟩

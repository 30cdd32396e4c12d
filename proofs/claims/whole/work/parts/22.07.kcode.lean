/-! X1_name -/
def KF_X1_name_77 (N g H T : Nat)  (S : cS) : cS := S
def KO_X1_name_77 (N g H T : Nat)  (S : cS) : Prop := True
set_option maxRecDepth 100000 in
set_option maxHeartbeats 4000000 in
theorem kb_X1_name_77 {G : zG} {o : cO} {u g H T N : Nat} {S : cS} {S0 : cS} {Q : Option Value → cS → Prop} {X : cS → Prop} (hG : zOK G) (hR : ∀ S', St u g H T S' → Mono S0 S' → X S' → Q none S') (hS : St u g H T S) (hM : Mono S0 S) (ok : KO_X1_name_77 N g H T S) (hx : X (KF_X1_name_77 N g H T S)) : cX G o dX1_name mX1_name 77 [none, none, none] [] S Q := by
  unfold KO_X1_name_77 at ok
  unfold KF_X1_name_77 at hx
  exact c_return rfl dX1_name_77 (hR _ hS hM hx)
def KF_X1_name_58 (N g H T : Nat) (x1 : Option Nat) (S : cS) : cS := (if (k_X5_at N g H T S (za x1) (nI 5)) = (nI 1) then (KF_X1_name_77 N g H T (k_X5_readId N g H T S (za x1) (some ((za x1) + 2)) (nI 6))) else (KF_X1_name_77 N g H T S))
def KO_X1_name_58 (N g H T : Nat) (x1 : Option Nat) (S : cS) : Prop := (¬ x1 = none ∧ p_X5_at N g H T S (za x1) (nI 5)) ∧ (((k_X5_at N g H T S (za x1) (nI 5)) = (nI 1) → (p_X5_readId N g H T S (za x1) (some ((za x1) + 2)) (nI 6)) ∧ KO_X1_name_77 N g H T (k_X5_readId N g H T S (za x1) (some ((za x1) + 2)) (nI 6))) ∧ (¬ (k_X5_at N g H T S (za x1) (nI 5)) = (nI 1) → KO_X1_name_77 N g H T S))
set_option maxRecDepth 100000 in
set_option maxHeartbeats 4000000 in
theorem kb_X1_name_58 {G : zG} {o : cO} {u g H T N : Nat} {S : cS} {S0 : cS} {Q : Option Value → cS → Prop} {X : cS → Prop} (hG : zOK G) (hR : ∀ S', St u g H T S' → Mono S0 S' → X S' → Q none S') {x1 : Option Nat} (hS : St u g H T S) (hM : Mono S0 S) (t_x1 : tK S 5 x1) (ok : KO_X1_name_58 N g H T x1 S) (hx : X (KF_X1_name_58 N g H T x1 S)) : cX G o dX1_name mX1_name 58 [none, some (va_rf x1), none] [] S Q := by
  unfold KO_X1_name_58 at ok
  unfold KF_X1_name_58 at hx
  refine c_aload_nQ dX1_name_58 rfl rfl ?_
  refine c_iconst (v := nI 5) dX1_name_59 (by decide) ?_
  have nn_60 := ok.1.1
  refine c_V1iE (ci := 4) (rr := (RX5, TX5, 7)) (y' := mX5_at) dX1_name_60 lX1_58 kX5_at ⟨by decide, by decide⟩ rfl rfl (by decide) (tK.cis t_x1 nn_60) (Nat.le_of_ble_eq_true rfl) (kc_X5_at hG hS (t_x1 _ (za_of nn_60)) ok.1.2) ?_
  have ok := ok.2
  refine c_iconst (v := nI 1) dX1_name_63 (by decide) ?_
  refine c_icmp_ne (tgt := 77) dX1_name_64 (by decide) (fun c_64 => ?_) (fun c_64 => ?_)
  · have ok := ok.2 c_64
    have hx := xif_n c_64 hx
    exact cX.cutz (kb_X1_name_77 hG hR hS hM  ok hx) trivial
  · have ok := ok.1 c_64
    have hx := xif_p c_64 hx
    refine c_aload_nQ dX1_name_67 rfl rfl ?_
    refine c_aload_nQ dX1_name_68 rfl rfl ?_
    have p_69 := hS.m0k t_x1 nn_60
    refine c_getS (C := RX5) (T := TX5) (N := 7) (ci := 4) (k := 0) ⟨rfl, inT5, by decide, fX1_31⟩ (by decide) (by decide) (by decide) dX1_name_69 (tK.cis t_x1 nn_60) (hS.m0 t_x1 nn_60) ?_
    refine c_bipush (v := nI 6) dX1_name_72 (by decide) ?_
    refine c_V2vK (ci := 4) (rr := (RX5, TX5, 7)) (y' := mX5_readId) dX1_name_74 lX1_51 kX5_readId ⟨by decide, by decide⟩ rfl rfl (by decide) (tK.cis t_x1 nn_60) (Nat.le_of_ble_eq_true rfl) (kc_X5_readId hG hS (t_x1 _ (za_of nn_60)) p_69 ok.1) (fun ⟨hS, hm_74⟩ => ?_)
    have hM := hM.trans hm_74
    have ok := ok.2
    exact cX.cutz (kb_X1_name_77 hG hR hS hM  ok hx) trivial
def KF_X1_name_39 (N g H T : Nat)  (S : cS) : cS := (KF_X1_name_77 N g H T S)
def KO_X1_name_39 (N g H T : Nat)  (S : cS) : Prop := KO_X1_name_77 N g H T S
set_option maxRecDepth 100000 in
set_option maxHeartbeats 4000000 in
theorem kb_X1_name_39 {G : zG} {o : cO} {u g H T N : Nat} {S : cS} {S0 : cS} {Q : Option Value → cS → Prop} {X : cS → Prop} (hG : zOK G) (hR : ∀ S', St u g H T S' → Mono S0 S' → X S' → Q none S') (hS : St u g H T S) (hM : Mono S0 S) (ok : KO_X1_name_39 N g H T S) (hx : X (KF_X1_name_39 N g H T S)) : cX G o dX1_name mX1_name 39 [none, none, none] [] S Q := by
  unfold KO_X1_name_39 at ok
  unfold KF_X1_name_39 at hx
  refine c_goto (tgt := 77) dX1_name_39 (by decide) ?_
  exact cX.cutz (kb_X1_name_77 hG hR hS hM  ok hx) trivial
def KF_X1_name_30 (N g H T : Nat) (x0 : Nat) (x1 : Option Nat) (S : cS) : cS := (KF_X1_name_39 N g H T (k_X5_readId N g H T S (za x1) (some (x0 + 1)) (nI 0)))
def KO_X1_name_30 (N g H T : Nat) (x0 : Nat) (x1 : Option Nat) (S : cS) : Prop := (¬ x1 = none ∧ p_X5_readId N g H T S (za x1) (some (x0 + 1)) (nI 0)) ∧ KO_X1_name_39 N g H T (k_X5_readId N g H T S (za x1) (some (x0 + 1)) (nI 0))
set_option maxRecDepth 100000 in
set_option maxHeartbeats 4000000 in
theorem kb_X1_name_30 {G : zG} {o : cO} {u g H T N : Nat} {S : cS} {S0 : cS} {Q : Option Value → cS → Prop} {X : cS → Prop} (hG : zOK G) (hR : ∀ S', St u g H T S' → Mono S0 S' → X S' → Q none S') {x0 : Nat} {x1 : Option Nat} (hS : St u g H T S) (hM : Mono S0 S) (t_x0 : isO g H 1 x0) (t_x1 : tK S 5 x1) (ok : KO_X1_name_30 N g H T x0 x1 S) (hx : X (KF_X1_name_30 N g H T x0 x1 S)) : cX G o dX1_name mX1_name 30 [some (va_rf (some x0)), some (va_rf x1), none] [] S Q := by
  unfold KO_X1_name_30 at ok
  unfold KF_X1_name_30 at hx
  refine c_aload_nQ dX1_name_30 rfl rfl ?_
  refine c_aload_nQ dX1_name_31 rfl rfl ?_
  refine c_getS (C := RX1) (T := TX1) (N := 3) (ci := 1) (k := 2) ⟨rfl, inT1, by decide, fX1_9⟩ (by decide) (by decide) (by decide) dX1_name_32 (hS.k t_x0) (hS.r (c := 1) t_x0 rfl (by omega)) ?_
  refine c_iconst (v := nI 0) dX1_name_35 (by decide) ?_
  have nn_36 := ok.1.1
  refine c_V2vK (ci := 4) (rr := (RX5, TX5, 7)) (y' := mX5_readId) dX1_name_36 lX1_51 kX5_readId ⟨by decide, by decide⟩ rfl rfl (by decide) (tK.cis t_x1 nn_36) (Nat.le_of_ble_eq_true rfl) (kc_X5_readId hG hS (t_x1 _ (za_of nn_36)) (hS.rk (c := 1) (k := 2) t_x0 rfl (by omega)) ok.1.2) (fun ⟨hS, hm_36⟩ => ?_)
  have hM := hM.trans hm_36
  have ok := ok.2
  exact cX.cutz (kb_X1_name_39 hG hR hS hM  ok hx) trivial
def KF_X1_name_0 (N g H T : Nat) (x0 : Nat) (x1 : Option Nat) (S : cS) : cS := (if (k_X5_blockAt N g H T S (za x1)) < 0 then (if (k_X5_kind N g H T S (za x1)) = (nI 2) then (KF_X1_name_58 N g H T x1 S) else (if (k_X5_kind N g H T S (za x1)) = (nI 3) then (KF_X1_name_58 N g H T x1 S) else (KF_X1_name_77 N g H T S))) else (KF_X1_name_30 N g H T x0 x1 (k_X2_digest N g H T S (g + 3) (some ((za x1) + 2)) (k_X5_blockAt N g H T S (za x1)) ((k_X5_blockAt N g H T S (za x1)) + (nI 101)) (some (x0 + 1)) (nI 0))))
def KO_X1_name_0 (N g H T : Nat) (x0 : Nat) (x1 : Option Nat) (S : cS) : Prop := (¬ x1 = none ∧ p_X5_blockAt N g H T S (za x1)) ∧ (((k_X5_blockAt N g H T S (za x1)) < 0 → (p_X5_kind N g H T S (za x1)) ∧ (((k_X5_kind N g H T S (za x1)) = (nI 2) → KO_X1_name_58 N g H T x1 S) ∧ (¬ (k_X5_kind N g H T S (za x1)) = (nI 2) → (p_X5_kind N g H T S (za x1)) ∧ (((k_X5_kind N g H T S (za x1)) = (nI 3) → KO_X1_name_58 N g H T x1 S) ∧ (¬ (k_X5_kind N g H T S (za x1)) = (nI 3) → KO_X1_name_77 N g H T S))))) ∧ (¬ (k_X5_blockAt N g H T S (za x1)) < 0 → (p_X2_digest N g H T S (g + 3) (some ((za x1) + 2)) (k_X5_blockAt N g H T S (za x1)) ((k_X5_blockAt N g H T S (za x1)) + (nI 101)) (some (x0 + 1)) (nI 0)) ∧ KO_X1_name_30 N g H T x0 x1 (k_X2_digest N g H T S (g + 3) (some ((za x1) + 2)) (k_X5_blockAt N g H T S (za x1)) ((k_X5_blockAt N g H T S (za x1)) + (nI 101)) (some (x0 + 1)) (nI 0))))
set_option maxRecDepth 100000 in
set_option maxHeartbeats 4000000 in
theorem kb_X1_name_0 {G : zG} {o : cO} {u g H T N : Nat} {S : cS} {S0 : cS} {Q : Option Value → cS → Prop} {X : cS → Prop} (hG : zOK G) (hR : ∀ S', St u g H T S' → Mono S0 S' → X S' → Q none S') {x0 : Nat} {x1 : Option Nat} (hS : St u g H T S) (hM : Mono S0 S) (t_x0 : isO g H 1 x0) (t_x1 : tK S 5 x1) (ok : KO_X1_name_0 N g H T x0 x1 S) (hx : X (KF_X1_name_0 N g H T x0 x1 S)) : cX G o dX1_name mX1_name 0 [some (va_rf (some x0)), some (va_rf x1), none] [] S Q := by
  unfold KO_X1_name_0 at ok
  unfold KF_X1_name_0 at hx
  refine c_aload_nQ dX1_name_0 rfl rfl ?_
  have nn_1 := ok.1.1
  refine c_V0iE (ci := 4) (rr := (RX5, TX5, 7)) (y' := mX5_blockAt) dX1_name_1 lX1_42 kX5_blockAt ⟨by decide, by decide⟩ rfl rfl (by decide) (tK.cis t_x1 nn_1) (Nat.le_of_ble_eq_true rfl) (kc_X5_blockAt hG hS (t_x1 _ (za_of nn_1)) ok.1.2) ?_
  have ok := ok.2
  refine c_istore_2 dX1_name_4 (by decide) (by simp [zok, zg, zcat_rf]) ?_
  refine c_iload_n dX1_name_5 rfl rfl ?_
  refine c_if_lt (tgt := 42) dX1_name_6 (by decide) (fun c_6 => ?_) (fun c_6 => ?_)
  · have ok := ok.1 c_6
    have hx := xif_p c_6 hx
    refine c_aload_nQ dX1_name_42 rfl rfl ?_
    refine c_V0iE (ci := 4) (rr := (RX5, TX5, 7)) (y' := mX5_kind) dX1_name_43 lX1_55 kX5_kind ⟨by decide, by decide⟩ rfl rfl (by decide) (tK.cis t_x1 nn_1) (Nat.le_of_ble_eq_true rfl) (kc_X5_kind hG hS (t_x1 _ (za_of nn_1)) ok.1) ?_
    have ok := ok.2
    refine c_iconst (v := nI 2) dX1_name_46 (by decide) ?_
    refine c_icmp_eq (tgt := 58) dX1_name_47 (by decide) (fun c_47 => ?_) (fun c_47 => ?_)
    · have ok := ok.1 c_47
      have hx := xif_p c_47 hx
      exact cX.cutz (kb_X1_name_58 hG hR hS hM t_x1 ok hx) ⟨rfl, trivial⟩
    · have ok := ok.2 c_47
      have hx := xif_n c_47 hx
      refine c_aload_nQ dX1_name_50 rfl rfl ?_
      refine c_V0iE (ci := 4) (rr := (RX5, TX5, 7)) (y' := mX5_kind) dX1_name_51 lX1_55 kX5_kind ⟨by decide, by decide⟩ rfl rfl (by decide) (tK.cis t_x1 nn_1) (Nat.le_of_ble_eq_true rfl) (kc_X5_kind hG hS (t_x1 _ (za_of nn_1)) ok.1) ?_
      have ok := ok.2
      refine c_iconst (v := nI 3) dX1_name_54 (by decide) ?_
      refine c_icmp_ne (tgt := 77) dX1_name_55 (by decide) (fun c_55 => ?_) (fun c_55 => ?_)
      · have ok := ok.2 c_55
        have hx := xif_n c_55 hx
        exact cX.cutz (kb_X1_name_77 hG hR hS hM  ok hx) trivial
      · have ok := ok.1 c_55
        have hx := xif_p c_55 hx
        exact cX.cutz (kb_X1_name_58 hG hR hS hM t_x1 ok hx) ⟨rfl, trivial⟩
  · have ok := ok.2 c_6
    have hx := xif_n c_6 hx
    refine c_aload_nQ dX1_name_9 rfl rfl ?_
    refine c_getS (C := RX1) (T := TX1) (N := 3) (ci := 1) (k := 0) ⟨rfl, inT1, by decide, fX1_15⟩ (by decide) (by decide) (by decide) dX1_name_10 (hS.k t_x0) (hS.r (c := 1) t_x0 rfl (by omega)) ?_
    refine c_aload_nQ dX1_name_13 rfl rfl ?_
    have p_14 := hS.m0k t_x1 nn_1
    refine c_getS (C := RX5) (T := TX5) (N := 7) (ci := 4) (k := 0) ⟨rfl, inT5, by decide, fX1_31⟩ (by decide) (by decide) (by decide) dX1_name_14 (tK.cis t_x1 nn_1) (hS.m0 t_x1 nn_1) ?_
    refine c_iload_n dX1_name_17 rfl rfl ?_
    refine c_iload_n dX1_name_18 rfl rfl ?_
    refine c_bipush (v := nI 101) dX1_name_19 (by decide) ?_
    refine c_iadd dX1_name_21 ?_
    refine c_aload_nQ dX1_name_22 rfl rfl ?_
    refine c_getS (C := RX1) (T := TX1) (N := 3) (ci := 1) (k := 2) ⟨rfl, inT1, by decide, fX1_9⟩ (by decide) (by decide) (by decide) dX1_name_23 (hS.k t_x0) (hS.r (c := 1) t_x0 rfl (by omega)) ?_
    refine c_iconst (v := nI 0) dX1_name_26 (by decide) ?_
    refine c_V5vK (ci := 2) (rr := (RX2, TX2, 6)) (y' := mX2_digest) dX1_name_27 lX1_46 kX2_digest ⟨by decide, by decide⟩ rfl rfl (by decide) (hS.k (o10 t_x0)) (Nat.le_of_ble_eq_true rfl) (kc_X2_digest hG hS (o10 t_x0) p_14 (hS.rk (c := 1) (k := 2) t_x0 rfl (by omega)) ok.1) (fun ⟨hS, hm_27⟩ => ?_)
    have hM := hM.trans hm_27
    have ok := ok.2
    exact cX.cutz (kb_X1_name_30 hG hR hS hM t_x0 (hm_27.tK t_x1 (by decide)) ok hx) ⟨rfl, rfl, trivial⟩
def k_X1_name (N g H T : Nat) (S : cS) (a0 : Nat) (x1 : Option Nat) : cS := KF_X1_name_0 N g H T a0 x1 S
def p_X1_name (N g H T : Nat) (S : cS) (a0 : Nat) (x1 : Option Nat) : Prop := KO_X1_name_0 N g H T a0 x1 S
set_option maxRecDepth 100000 in
set_option maxHeartbeats 4000000 in
theorem kc_X1_name {G : zG} {o : cO} {u g H T N : Nat} {S : cS} (hG : zOK G) {a0 : Nat} {x1 : Option Nat} (hS : St u g H T S) (t_x0 : isO g H 1 a0) (t_x1 : tK S 5 x1) (ok : p_X1_name N g H T S a0 x1) : cCv G o dX1_name mX1_name [.ref a0, va_rf x1] S (fun S' => S' = k_X1_name N g H T S a0 x1 ∧ St u g H T S' ∧ Mono S S') := by
  refine cC.ofX rfl (by cases x1 <;> exact Nat.le_of_ble_eq_true rfl) ?_
  rw [show zargs mX1_name.2.2.1 [.ref a0, va_rf x1] = [some (va_rf (some a0)), some (va_rf x1), none] from by cases x1 <;> rfl]
  exact cX.cutz (kb_X1_name_0 (X := fun F => F = k_X1_name N g H T S a0 x1) hG (fun S' h1 h2 h => ⟨rfl, h, h1, h2⟩) hS Mono.rfl' t_x0 t_x1 ok rfl) ⟨rfl, rfl, trivial⟩
/-! X1_look -/
def KF_X1_look_64 (N g H T : Nat) (s0 : Int32) (S : cS) : Int32 × cS := (s0, S)
def KO_X1_look_64 (N g H T : Nat) (s0 : Int32) (S : cS) : Prop := narrow .boolean (.int s0) = .int s0
set_option maxRecDepth 100000 in
set_option maxHeartbeats 4000000 in
theorem kb_X1_look_64 {G : zG} {o : cO} {u g H T N : Nat} {S : cS} {S0 : cS} {Q : Option Value → cS → Prop} {X : Int32 × cS → Prop} (hG : zOK G) (hR : ∀ v S', St u g H T S' → Mono S0 S' → X (v, S') → Q (some (.int v)) S') {s0 : Int32} (hS : St u g H T S) (hM : Mono S0 S) (ok : KO_X1_look_64 N g H T s0 S) (hx : X (KF_X1_look_64 N g H T s0 S)) : cX G o dX1_look mX1_look 64 [none, none] [.int s0] S Q := by
  unfold KO_X1_look_64 at ok
  unfold KF_X1_look_64 at hx
  exact c_ireturn rfl ok dX1_look_64 (hR _ _ hS hM hx)
def KF_X1_look_51 (N g H T : Nat) (x1 : Option Nat) (S : cS) : Int32 × cS := (if (cI S 4 (za x1)) = (nI 1) then (KF_X1_look_64 N g H T (nI 1) S) else (KF_X1_look_64 N g H T (nI 0) S))
def KO_X1_look_51 (N g H T : Nat) (x1 : Option Nat) (S : cS) : Prop := (¬ x1 = none) ∧ (((cI S 4 (za x1)) = (nI 1) → KO_X1_look_64 N g H T (nI 1) S) ∧ (¬ (cI S 4 (za x1)) = (nI 1) → KO_X1_look_64 N g H T (nI 0) S))
set_option maxRecDepth 100000 in
set_option maxHeartbeats 4000000 in
theorem kb_X1_look_51 {G : zG} {o : cO} {u g H T N : Nat} {S : cS} {S0 : cS} {Q : Option Value → cS → Prop} {X : Int32 × cS → Prop} (hG : zOK G) (hR : ∀ v S', St u g H T S' → Mono S0 S' → X (v, S') → Q (some (.int v)) S') {x1 : Option Nat} (hS : St u g H T S) (hM : Mono S0 S) (t_x1 : tK S 5 x1) (ok : KO_X1_look_51 N g H T x1 S) (hx : X (KF_X1_look_51 N g H T x1 S)) : cX G o dX1_look mX1_look 51 [none, some (va_rf x1)] [] S Q := by
  unfold KO_X1_look_51 at ok
  unfold KF_X1_look_51 at hx
  refine c_aload_nQ dX1_look_51 rfl rfl ?_
  have nn_52 := ok.1
  refine c_getI (C := RX5) (T := TX5) (N := 7) (ci := 4) (k := 4) ⟨rfl, inT5, by decide, fX1_23⟩ (by decide) (by decide) (by decide) dX1_look_52 (tK.cis t_x1 ok.1) ?_
  have ok := ok.2
  refine c_iconst (v := nI 1) dX1_look_55 (by decide) ?_
  refine c_icmp_ne (tgt := 63) dX1_look_56 (by decide) (fun c_56 => ?_) (fun c_56 => ?_)
  · have ok := ok.2 c_56
    have hx := xif_n c_56 hx
    refine c_iconst (v := nI 0) dX1_look_63 (by decide) ?_
    exact cX.cutz (kb_X1_look_64 hG hR hS hM  ok hx) trivial
  · have ok := ok.1 c_56
    have hx := xif_p c_56 hx
    refine c_iconst (v := nI 1) dX1_look_59 (by decide) ?_
    refine c_goto (tgt := 64) dX1_look_60 (by decide) ?_
    exact cX.cutz (kb_X1_look_64 hG hR hS hM  ok hx) trivial
def KF_X1_look_35 (N g H T : Nat) (x0 : Nat) (x1 : Option Nat) (s0 : Option Nat) (s1 : Int32) (S : cS) : Int32 × cS := (if (cI (csI S 4 (za s0) s1) 4 (za x1)) = (nI 1) then (KF_X1_look_51 N g H T x1 (k_X1_name N g H T (csI S 4 (za s0) s1) x0 x1)) else (KF_X1_look_51 N g H T x1 (csI S 4 (za s0) s1)))
def KO_X1_look_35 (N g H T : Nat) (x0 : Nat) (x1 : Option Nat) (s0 : Option Nat) (s1 : Int32) (S : cS) : Prop := (¬ s0 = none) ∧ (¬ x1 = none) ∧ (((cI (csI S 4 (za s0) s1) 4 (za x1)) = (nI 1) → (p_X1_name N g H T (csI S 4 (za s0) s1) x0 x1) ∧ KO_X1_look_51 N g H T x1 (k_X1_name N g H T (csI S 4 (za s0) s1) x0 x1)) ∧ (¬ (cI (csI S 4 (za s0) s1) 4 (za x1)) = (nI 1) → KO_X1_look_51 N g H T x1 (csI S 4 (za s0) s1)))
set_option maxRecDepth 100000 in
set_option maxHeartbeats 4000000 in
theorem kb_X1_look_35 {G : zG} {o : cO} {u g H T N : Nat} {S : cS} {S0 : cS} {Q : Option Value → cS → Prop} {X : Int32 × cS → Prop} (hG : zOK G) (hR : ∀ v S', St u g H T S' → Mono S0 S' → X (v, S') → Q (some (.int v)) S') {x0 : Nat} {x1 : Option Nat} {s0 : Option Nat} {s1 : Int32} (hS : St u g H T S) (hM : Mono S0 S) (t_x0 : isO g H 1 x0) (t_x1 : tK S 5 x1) (t_s0 : tK S 5 s0) (ok : KO_X1_look_35 N g H T x0 x1 s0 s1 S) (hx : X (KF_X1_look_35 N g H T x0 x1 s0 s1 S)) : cX G o dX1_look mX1_look 35 [some (va_rf (some x0)), some (va_rf x1)] [.int s1, va_rf s0] S Q := by
  unfold KO_X1_look_35 at ok
  unfold KF_X1_look_35 at hx
  have nn_35 := ok.1
  refine c_putI (C := RX5) (T := TX5) (N := 7) (ci := 4) (k := 4) ⟨rfl, inT5, by decide, fX1_23⟩ ftT5 rfl (by decide) (by decide) (by decide) rfl rfl dX1_look_35 (tK.cis t_s0 ok.1) ?_
  have hS := hS.I 4 (za s0) s1
  have hM := hM.I 4 (za s0) s1
  have ok := ok.2
  refine c_aload_nQ dX1_look_38 rfl rfl ?_
  have nn_39 := ok.1
  refine c_getI (C := RX5) (T := TX5) (N := 7) (ci := 4) (k := 4) ⟨rfl, inT5, by decide, fX1_23⟩ (by decide) (by decide) (by decide) dX1_look_39 (tK.cis (tK_I t_x1) ok.1) ?_
  have ok := ok.2
  refine c_iconst (v := nI 1) dX1_look_42 (by decide) ?_
  refine c_icmp_ne (tgt := 51) dX1_look_43 (by decide) (fun c_43 => ?_) (fun c_43 => ?_)
  · have ok := ok.2 c_43
    have hx := xif_n c_43 hx
    exact cX.cutz (kb_X1_look_51 hG hR hS hM (tK_I t_x1) ok hx) ⟨rfl, trivial⟩
  · have ok := ok.1 c_43
    have hx := xif_p c_43 hx
    refine c_aload_nQ dX1_look_46 rfl rfl ?_
    refine c_aload_nQ dX1_look_47 rfl rfl ?_
    refine c_V1vK (ci := 1) (rr := (RX1, TX1, 3)) (y' := mX1_name) dX1_look_48 lX1_38 kX1_name ⟨by decide, by decide⟩ rfl rfl (by decide) (hS.k t_x0) (Nat.le_of_ble_eq_true rfl) (kc_X1_name hG hS t_x0 (tK_I t_x1) ok.1) (fun ⟨hS, hm_48⟩ => ?_)
    have hM := hM.trans hm_48
    have ok := ok.2
    exact cX.cutz (kb_X1_look_51 hG hR hS hM (hm_48.tK (tK_I t_x1) (by decide)) ok hx) ⟨rfl, trivial⟩
def KF_X1_look_34 (N g H T : Nat) (x0 : Nat) (x1 : Option Nat) (s0 : Option Nat) (S : cS) : Int32 × cS := (KF_X1_look_35 N g H T x0 x1 s0 (nI 2) S)
def KO_X1_look_34 (N g H T : Nat) (x0 : Nat) (x1 : Option Nat) (s0 : Option Nat) (S : cS) : Prop := KO_X1_look_35 N g H T x0 x1 s0 (nI 2) S
set_option maxRecDepth 100000 in
set_option maxHeartbeats 4000000 in
theorem kb_X1_look_34 {G : zG} {o : cO} {u g H T N : Nat} {S : cS} {S0 : cS} {Q : Option Value → cS → Prop} {X : Int32 × cS → Prop} (hG : zOK G) (hR : ∀ v S', St u g H T S' → Mono S0 S' → X (v, S') → Q (some (.int v)) S') {x0 : Nat} {x1 : Option Nat} {s0 : Option Nat} (hS : St u g H T S) (hM : Mono S0 S) (t_x0 : isO g H 1 x0) (t_x1 : tK S 5 x1) (t_s0 : tK S 5 s0) (ok : KO_X1_look_34 N g H T x0 x1 s0 S) (hx : X (KF_X1_look_34 N g H T x0 x1 s0 S)) : cX G o dX1_look mX1_look 34 [some (va_rf (some x0)), some (va_rf x1)] [va_rf s0] S Q := by
  unfold KO_X1_look_34 at ok
  unfold KF_X1_look_34 at hx
  refine c_iconst (v := nI 2) dX1_look_34 (by decide) ?_
  exact cX.cutz (kb_X1_look_35 hG hR hS hM t_x0 t_x1 t_s0 ok hx) ⟨rfl, rfl, trivial⟩
def KF_X1_look_27 (N g H T : Nat) (x0 : Nat) (x1 : Option Nat) (s0 : Option Nat) (s1 : Int32) (S : cS) : Int32 × cS := (if s1 = 0 then (KF_X1_look_34 N g H T x0 x1 s0 S) else (KF_X1_look_35 N g H T x0 x1 s0 (nI 1) S))
def KO_X1_look_27 (N g H T : Nat) (x0 : Nat) (x1 : Option Nat) (s0 : Option Nat) (s1 : Int32) (S : cS) : Prop := ((s1 = 0 → KO_X1_look_34 N g H T x0 x1 s0 S) ∧ (¬ s1 = 0 → KO_X1_look_35 N g H T x0 x1 s0 (nI 1) S))
set_option maxRecDepth 100000 in
set_option maxHeartbeats 4000000 in
theorem kb_X1_look_27 {G : zG} {o : cO} {u g H T N : Nat} {S : cS} {S0 : cS} {Q : Option Value → cS → Prop} {X : Int32 × cS → Prop} (hG : zOK G) (hR : ∀ v S', St u g H T S' → Mono S0 S' → X (v, S') → Q (some (.int v)) S') {x0 : Nat} {x1 : Option Nat} {s0 : Option Nat} {s1 : Int32} (hS : St u g H T S) (hM : Mono S0 S) (t_x0 : isO g H 1 x0) (t_x1 : tK S 5 x1) (t_s0 : tK S 5 s0) (ok : KO_X1_look_27 N g H T x0 x1 s0 s1 S) (hx : X (KF_X1_look_27 N g H T x0 x1 s0 s1 S)) : cX G o dX1_look mX1_look 27 [some (va_rf (some x0)), some (va_rf x1)] [.int s1, va_rf s0] S Q := by
  unfold KO_X1_look_27 at ok
  unfold KF_X1_look_27 at hx
  refine c_if_eq (tgt := 34) dX1_look_27 (by decide) (fun c_27 => ?_) (fun c_27 => ?_)
  · have ok := ok.1 c_27
    have hx := xif_p c_27 hx
    exact cX.cutz (kb_X1_look_34 hG hR hS hM t_x0 t_x1 t_s0 ok hx) ⟨rfl, rfl, trivial⟩
  · have ok := ok.2 c_27
    have hx := xif_n c_27 hx
    refine c_iconst (v := nI 1) dX1_look_30 (by decide) ?_
    refine c_goto (tgt := 35) dX1_look_31 (by decide) ?_
    exact cX.cutz (kb_X1_look_35 hG hR hS hM t_x0 t_x1 t_s0 ok hx) ⟨rfl, rfl, trivial⟩
def KF_X1_look_0 (N g H T : Nat) (x0 : Nat) (x1 : Option Nat) (S : cS) : Int32 × cS := (if (cI S 4 (za x1)) = 0 then (if (cI S 2 (za x1)) ≤ 0 then (KF_X1_look_34 N g H T x0 x1 x1 S) else (KF_X1_look_27 N g H T x0 x1 x1 ((k_X1_fits N g H T S x0 (some ((za x1) + 2)) (cI S 2 (za x1))).1) (k_X1_fits N g H T S x0 (some ((za x1) + 2)) (cI S 2 (za x1))).2)) else (KF_X1_look_51 N g H T x1 S))
def KO_X1_look_0 (N g H T : Nat) (x0 : Nat) (x1 : Option Nat) (S : cS) : Prop := (¬ x1 = none) ∧ (((cI S 4 (za x1)) = 0 → (((cI S 2 (za x1)) ≤ 0 → KO_X1_look_34 N g H T x0 x1 x1 S) ∧ (¬ (cI S 2 (za x1)) ≤ 0 → (p_X1_fits N g H T S x0 (some ((za x1) + 2)) (cI S 2 (za x1))) ∧ KO_X1_look_27 N g H T x0 x1 x1 ((k_X1_fits N g H T S x0 (some ((za x1) + 2)) (cI S 2 (za x1))).1) (k_X1_fits N g H T S x0 (some ((za x1) + 2)) (cI S 2 (za x1))).2))) ∧ (¬ (cI S 4 (za x1)) = 0 → KO_X1_look_51 N g H T x1 S))
set_option maxRecDepth 100000 in
set_option maxHeartbeats 4000000 in
theorem kb_X1_look_0 {G : zG} {o : cO} {u g H T N : Nat} {S : cS} {S0 : cS} {Q : Option Value → cS → Prop} {X : Int32 × cS → Prop} (hG : zOK G) (hR : ∀ v S', St u g H T S' → Mono S0 S' → X (v, S') → Q (some (.int v)) S') {x0 : Nat} {x1 : Option Nat} (hS : St u g H T S) (hM : Mono S0 S) (t_x0 : isO g H 1 x0) (t_x1 : tK S 5 x1) (ok : KO_X1_look_0 N g H T x0 x1 S) (hx : X (KF_X1_look_0 N g H T x0 x1 S)) : cX G o dX1_look mX1_look 0 [some (va_rf (some x0)), some (va_rf x1)] [] S Q := by
  unfold KO_X1_look_0 at ok
  unfold KF_X1_look_0 at hx
  refine c_aload_nQ dX1_look_0 rfl rfl ?_
  have nn_1 := ok.1
  refine c_getI (C := RX5) (T := TX5) (N := 7) (ci := 4) (k := 4) ⟨rfl, inT5, by decide, fX1_23⟩ (by decide) (by decide) (by decide) dX1_look_1 (tK.cis t_x1 ok.1) ?_
  have ok := ok.2
  refine c_if_ne (tgt := 51) dX1_look_4 (by decide) (fun c_4 => ?_) (fun c_4 => ?_)
  · have ok := ok.2 c_4
    have hx := xif_n c_4 hx
    exact cX.cutz (kb_X1_look_51 hG hR hS hM t_x1 ok hx) ⟨rfl, trivial⟩
  · have ok := ok.1 c_4
    have hx := xif_p c_4 hx
    refine c_aload_nQ dX1_look_7 rfl rfl ?_
    refine c_aload_nQ dX1_look_8 rfl rfl ?_
    refine c_getI (C := RX5) (T := TX5) (N := 7) (ci := 4) (k := 2) ⟨rfl, inT5, by decide, fX1_28⟩ (by decide) (by decide) (by decide) dX1_look_9 (tK.cis t_x1 nn_1) ?_
    refine c_if_le (tgt := 34) dX1_look_12 (by decide) (fun c_12 => ?_) (fun c_12 => ?_)
    · have ok := ok.1 c_12
      have hx := xif_p c_12 hx
      exact cX.cutz (kb_X1_look_34 hG hR hS hM t_x0 t_x1 t_x1 ok hx) ⟨rfl, rfl, trivial⟩
    · have ok := ok.2 c_12
      have hx := xif_n c_12 hx
      refine c_aload_nQ dX1_look_15 rfl rfl ?_
      refine c_aload_nQ dX1_look_16 rfl rfl ?_
      have p_17 := hS.m0k t_x1 nn_1
      refine c_getS (C := RX5) (T := TX5) (N := 7) (ci := 4) (k := 0) ⟨rfl, inT5, by decide, fX1_31⟩ (by decide) (by decide) (by decide) dX1_look_17 (tK.cis t_x1 nn_1) (hS.m0 t_x1 nn_1) ?_
      refine c_aload_nQ dX1_look_20 rfl rfl ?_
      refine c_getI (C := RX5) (T := TX5) (N := 7) (ci := 4) (k := 2) ⟨rfl, inT5, by decide, fX1_28⟩ (by decide) (by decide) (by decide) dX1_look_21 (tK.cis t_x1 nn_1) ?_
      refine c_V2iK (ci := 1) (rr := (RX1, TX1, 3)) (y' := mX1_fits) dX1_look_24 lX1_34 kX1_fits ⟨by decide, by decide⟩ rfl rfl (by decide) (hS.k t_x0) (by simp only [List.map_cons, List.map_nil, List.sum_cons, List.sum_nil, zcat_rf, zcat_i, zcat_l, zcat_r] <;> decide) (kc_X1_fits hG hS t_x0 p_17 ok.1) (fun ⟨hS, hm_24⟩ => ?_)
      have hM := hM.trans hm_24
      have ok := ok.2
      exact cX.cutz (kb_X1_look_27 hG hR hS hM t_x0 (hm_24.tK t_x1 (by decide)) (hm_24.tK t_x1 (by decide)) ok hx) ⟨rfl, rfl, trivial⟩
def k_X1_look (N g H T : Nat) (S : cS) (a0 : Nat) (x1 : Option Nat) : Int32 × cS := KF_X1_look_0 N g H T a0 x1 S
def p_X1_look (N g H T : Nat) (S : cS) (a0 : Nat) (x1 : Option Nat) : Prop := KO_X1_look_0 N g H T a0 x1 S
set_option maxRecDepth 100000 in
set_option maxHeartbeats 4000000 in
theorem kc_X1_look {G : zG} {o : cO} {u g H T N : Nat} {S : cS} (hG : zOK G) {a0 : Nat} {x1 : Option Nat} (hS : St u g H T S) (t_x0 : isO g H 1 a0) (t_x1 : tK S 5 x1) (ok : p_X1_look N g H T S a0 x1) : cCi G o dX1_look mX1_look [.ref a0, va_rf x1] S (fun v S' => (v = (k_X1_look N g H T S a0 x1).1 ∧ S' = (k_X1_look N g H T S a0 x1).2) ∧ St u g H T S' ∧ Mono S S') := by
  refine cC.ofX rfl (by cases x1 <;> exact Nat.le_of_ble_eq_true rfl) ?_
  rw [show zargs mX1_look.2.2.1 [.ref a0, va_rf x1] = [some (va_rf (some a0)), some (va_rf x1)] from by cases x1 <;> rfl]
  exact cX.cutz (kb_X1_look_0 (X := fun F => F = k_X1_look N g H T S a0 x1) hG (fun v S' h1 h2 h => ⟨v, rfl, ⟨by rw [← h], by rw [← h]⟩, h1, h2⟩) hS Mono.rfl' t_x0 t_x1 ok rfl) ⟨rfl, rfl, trivial⟩
/-! X5_signer -/
def KF_X5_signer_22 (N g H T : Nat) (s0 : Int32) (S : cS) : Int32 := s0
def KO_X5_signer_22 (N g H T : Nat) (s0 : Int32) (S : cS) : Prop := True
set_option maxRecDepth 100000 in
set_option maxHeartbeats 4000000 in
theorem kb_X5_signer_22 {G : zG} {o : cO} {u g H T N : Nat} {S : cS} {Q : Option Value → cS → Prop} {X : Int32 → Prop} (hG : zOK G) (hR : ∀ v, X v → Q (some (.int v)) S) {s0 : Int32} (hS : St u g H T S) (ok : KO_X5_signer_22 N g H T s0 S) (hx : X (KF_X5_signer_22 N g H T s0 S)) : cX G o dX5_signer mX5_signer 22 [none] [.int s0] S Q := by
  unfold KO_X5_signer_22 at ok
  unfold KF_X5_signer_22 at hx
  exact c_ireturn rfl rfl dX5_signer_22 (hR _ hx)
def KF_X5_signer_0 (N g H T : Nat) (x0 : Option Nat) (S : cS) : Int32 := (if (cI S 2 (za x0)) ≤ (nI 1) then (KF_X5_signer_22 N g H T (nI 0) S) else (KF_X5_signer_22 N g H T ((cA S ((za x0) + 2) (nI 1).toNatClampNeg) &&& (nI 255)) S))
def KO_X5_signer_0 (N g H T : Nat) (x0 : Option Nat) (S : cS) : Prop := (¬ x0 = none) ∧ (((cI S 2 (za x0)) ≤ (nI 1) → KO_X5_signer_22 N g H T (nI 0) S) ∧ (¬ (cI S 2 (za x0)) ≤ (nI 1) → (vp_in (nI 1) (cL S ((za x0) + 2))) ∧ KO_X5_signer_22 N g H T ((cA S ((za x0) + 2) (nI 1).toNatClampNeg) &&& (nI 255)) S))
set_option maxRecDepth 100000 in
set_option maxHeartbeats 4000000 in
theorem kb_X5_signer_0 {G : zG} {o : cO} {u g H T N : Nat} {S : cS} {Q : Option Value → cS → Prop} {X : Int32 → Prop} (hG : zOK G) (hR : ∀ v, X v → Q (some (.int v)) S) {x0 : Option Nat} (hS : St u g H T S) (t_x0 : tK S 5 x0) (ok : KO_X5_signer_0 N g H T x0 S) (hx : X (KF_X5_signer_0 N g H T x0 S)) : cX G o dX5_signer mX5_signer 0 [some (va_rf x0)] [] S Q := by
  unfold KO_X5_signer_0 at ok
  unfold KF_X5_signer_0 at hx
  refine c_aload_nQ dX5_signer_0 rfl rfl ?_
  have nn_1 := ok.1
  refine c_getI (C := RX5) (T := TX5) (N := 7) (ci := 4) (k := 2) ⟨rfl, inT5, by decide, fX5_19⟩ (by decide) (by decide) (by decide) dX5_signer_1 (tK.cis t_x0 ok.1) ?_
  have ok := ok.2
  refine c_iconst (v := nI 1) dX5_signer_4 (by decide) ?_
  refine c_icmp_le (tgt := 21) dX5_signer_5 (by decide) (fun c_5 => ?_) (fun c_5 => ?_)
  · have ok := ok.1 c_5
    have hx := xif_p c_5 hx
    refine c_iconst (v := nI 0) dX5_signer_21 (by decide) ?_
    exact cX.cutz (kb_X5_signer_22 hG hR hS  ok hx) trivial
  · have ok := ok.2 c_5
    have hx := xif_n c_5 hx
    refine c_aload_nQ dX5_signer_8 rfl rfl ?_
    have p_9 := hS.m0k t_x0 nn_1
    refine c_getS (C := RX5) (T := TX5) (N := 7) (ci := 4) (k := 0) ⟨rfl, inT5, by decide, fX5_15⟩ (by decide) (by decide) (by decide) dX5_signer_9 (tK.cis t_x0 nn_1) (hS.m0 t_x0 nn_1) ?_
    refine c_iconst (v := nI 1) dX5_signer_12 (by decide) ?_
    refine c_bald dX5_signer_13 ⟨(tK.cis p_9 (Option.some_ne_none _)), ok.1⟩ ?_
    have ok := ok.2
    refine c_sipush (v := nI 255) dX5_signer_14 (by decide) ?_
    refine c_iand dX5_signer_17 ?_
    refine c_goto (tgt := 22) dX5_signer_18 (by decide) ?_
    exact cX.cutz (kb_X5_signer_22 hG hR hS  ok hx) trivial
def k_X5_signer (N g H T : Nat) (S : cS) (a0 : Nat) : Int32 := KF_X5_signer_0 N g H T (some a0) S
def p_X5_signer (N g H T : Nat) (S : cS) (a0 : Nat) : Prop := KO_X5_signer_0 N g H T (some a0) S
set_option maxRecDepth 100000 in
set_option maxHeartbeats 4000000 in
theorem kc_X5_signer {G : zG} {o : cO} {u g H T N : Nat} {S : cS} (hG : zOK G) {a0 : Nat} (hS : St u g H T S) (t_x0 : cK S a0 = 5) (ok : p_X5_signer N g H T S a0) : cCi G o dX5_signer mX5_signer [.ref a0] S (fun v S' => (v = k_X5_signer N g H T S a0 ∧ S' = S)) := by
  refine cC.ofX rfl (by exact Nat.le_of_ble_eq_true rfl) ?_
  show cX G o dX5_signer mX5_signer 0 [some (va_rf (some a0))] [] S _
  exact cX.cutz (kb_X5_signer_0 (X := fun F => F = k_X5_signer N g H T S a0) hG (fun v h => ⟨v, rfl, h, rfl⟩) hS (tK_some t_x0) ok rfl) ⟨rfl, trivial⟩
/-! X1_tellsBelow -/
def KF_X1_tellsBelow_121 (N g H T : Nat)  (S : cS) : Int32 := (nI 0)
def KO_X1_tellsBelow_121 (N g H T : Nat)  (S : cS) : Prop := True
set_option maxRecDepth 100000 in
set_option maxHeartbeats 4000000 in
theorem kb_X1_tellsBelow_121 {G : zG} {o : cO} {u g H T N : Nat} {S : cS} {Q : Option Value → cS → Prop} {X : Int32 → Prop} (hG : zOK G) (hR : ∀ v, X v → Q (some (.int v)) S) (hS : St u g H T S) (ok : KO_X1_tellsBelow_121 N g H T S) (hx : X (KF_X1_tellsBelow_121 N g H T S)) : cX G o dX1_tellsBelow mX1_tellsBelow 121 [none, none, none, none, none, none, none, none] [] S Q := by
  unfold KO_X1_tellsBelow_121 at ok
  unfold KF_X1_tellsBelow_121 at hx
  refine c_iconst (v := nI 0) dX1_tellsBelow_121 (by decide) ?_
  exact c_ireturn rfl rfl dX1_tellsBelow_122 (hR _ hx)
def KF_X1_tellsBelow_95 (N g H T : Nat)  (S : cS) : Int32 := (nI 1)
def KO_X1_tellsBelow_95 (N g H T : Nat)  (S : cS) : Prop := True
set_option maxRecDepth 100000 in
set_option maxHeartbeats 4000000 in
theorem kb_X1_tellsBelow_95 {G : zG} {o : cO} {u g H T N : Nat} {S : cS} {Q : Option Value → cS → Prop} {X : Int32 → Prop} (hG : zOK G) (hR : ∀ v, X v → Q (some (.int v)) S) (hS : St u g H T S) (ok : KO_X1_tellsBelow_95 N g H T S) (hx : X (KF_X1_tellsBelow_95 N g H T S)) : cX G o dX1_tellsBelow mX1_tellsBelow 95 [none, none, none, none, none, none, none, none] [] S Q := by
  unfold KO_X1_tellsBelow_95 at ok
  unfold KF_X1_tellsBelow_95 at hx
  refine c_iconst (v := nI 1) dX1_tellsBelow_95 (by decide) ?_
  exact c_ireturn rfl rfl dX1_tellsBelow_96 (hR _ hx)
def KB_X1_tellsBelow_72 (N g H T : Nat) (rec : Option Nat → Int32 → Int32 → Int32 → Int32 → Nat × Unit) (x1 : Option Nat) (x2 : Int32) (x5 : Int32) (x6 : Int32) (x7 : Int32) (S : cS) : Nat × Unit := (if x5 ≤ x7 then (1, ()) else (if (nI 2) ≤ x7 then (1, ()) else (if x2 ≤ (k_X5_at N g H T S (za x1) x6) then (rec x1 x2 x5 (x6 + (k_X1_evidenceSize N g H T S (some ((za x1) + 2)) x6 (cI S 2 (za x1)))) (x7 + nI 1)) else (0, ()))))
def KOB_X1_tellsBelow_72 (N g H T : Nat) (rok : Option Nat → Int32 → Int32 → Int32 → Int32 → Prop) (x1 : Option Nat) (x2 : Int32) (x5 : Int32) (x6 : Int32) (x7 : Int32) (S : cS) : Prop := ((x5 ≤ x7 → True) ∧ (¬ x5 ≤ x7 → (((nI 2) ≤ x7 → True) ∧ (¬ (nI 2) ≤ x7 → (¬ x1 = none ∧ p_X5_at N g H T S (za x1) x6) ∧ ((x2 ≤ (k_X5_at N g H T S (za x1) x6) → (p_X1_evidenceSize N g H T S (some ((za x1) + 2)) x6 (cI S 2 (za x1))) ∧ rok x1 x2 x5 (x6 + (k_X1_evidenceSize N g H T S (some ((za x1) + 2)) x6 (cI S 2 (za x1)))) (x7 + nI 1)) ∧ (¬ x2 ≤ (k_X5_at N g H T S (za x1) x6) → True))))))
set_option maxRecDepth 100000 in
set_option maxHeartbeats 4000000 in
theorem kbb_X1_tellsBelow_72 {G : zG} {o : cO} {u g H T N : Nat} {S : cS} {Q : Option Value → cS → Prop} {X : Nat × Unit → Prop} (hG : zOK G) (hX0 : ∀ _u : Unit, X (0, ()) → cX G o dX1_tellsBelow mX1_tellsBelow 95 [none, none, none, none, none, none, none, none] [] S Q) (hX1 : ∀ _u : Unit, X (1, ()) → cX G o dX1_tellsBelow mX1_tellsBelow 121 [none, none, none, none, none, none, none, none] [] S Q) {rec : Option Nat → Int32 → Int32 → Int32 → Int32 → Nat × Unit} {rok : Option Nat → Int32 → Int32 → Int32 → Int32 → Prop} (hrec : ∀ (x1 : Option Nat) (x2 : Int32) (x5 : Int32) (x6 : Int32) (x7 : Int32), tK S 5 x1 → rok x1 x2 x5 x6 x7 → X (rec x1 x2 x5 x6 x7) → cX G o dX1_tellsBelow mX1_tellsBelow 72 [none, some (va_rf x1), some (.int x2), none, none, some (.int x5), some (.int x6), some (.int x7)] [] S Q) {x1 : Option Nat} {x2 : Int32} {x5 : Int32} {x6 : Int32} {x7 : Int32} (hS : St u g H T S) (t_x1 : tK S 5 x1) (ok : KOB_X1_tellsBelow_72 N g H T rok x1 x2 x5 x6 x7 S) (hx : X (KB_X1_tellsBelow_72 N g H T rec x1 x2 x5 x6 x7 S)) : cX G o dX1_tellsBelow mX1_tellsBelow 72 [none, some (va_rf x1), some (.int x2), none, none, some (.int x5), some (.int x6), some (.int x7)] [] S Q := by
  unfold KOB_X1_tellsBelow_72 at ok
  unfold KB_X1_tellsBelow_72 at hx
  refine c_iload dX1_tellsBelow_72 rfl ?_
  refine c_iload dX1_tellsBelow_74 rfl ?_
  refine c_icmp_ge (tgt := 121) dX1_tellsBelow_76 (by decide) (fun c_76 => ?_) (fun c_76 => ?_)
  · have ok := ok.1 c_76
    have hx := xif_p c_76 hx
    exact cX.cutz (hX1 ()  hx) trivial
  · have ok := ok.2 c_76
    have hx := xif_n c_76 hx
    refine c_iload dX1_tellsBelow_79 rfl ?_
    refine c_iconst (v := nI 2) dX1_tellsBelow_81 (by decide) ?_
    refine c_icmp_ge (tgt := 121) dX1_tellsBelow_82 (by decide) (fun c_82 => ?_) (fun c_82 => ?_)
    · have ok := ok.1 c_82
      have hx := xif_p c_82 hx
      exact cX.cutz (hX1 ()  hx) trivial
    · have ok := ok.2 c_82
      have hx := xif_n c_82 hx
      refine c_aload_nQ dX1_tellsBelow_85 rfl rfl ?_
      refine c_iload dX1_tellsBelow_86 rfl ?_
      have nn_88 := ok.1.1
      refine c_V1iE (ci := 4) (rr := (RX5, TX5, 7)) (y' := mX5_at) dX1_tellsBelow_88 lX1_58 kX5_at ⟨by decide, by decide⟩ rfl rfl (by decide) (tK.cis t_x1 nn_88) (Nat.le_of_ble_eq_true rfl) (kc_X5_at hG hS (t_x1 _ (za_of nn_88)) ok.1.2) ?_
      have ok := ok.2
      refine c_iload_n dX1_tellsBelow_91 rfl rfl ?_
      refine c_icmp_ge (tgt := 97) dX1_tellsBelow_92 (by decide) (fun c_92 => ?_) (fun c_92 => ?_)
      · have ok := ok.1 c_92
        have hx := xif_p c_92 hx
        refine c_iload dX1_tellsBelow_97 rfl ?_
        refine c_aload_nQ dX1_tellsBelow_99 rfl rfl ?_
        have p_100 := hS.m0k t_x1 nn_88
        refine c_getS (C := RX5) (T := TX5) (N := 7) (ci := 4) (k := 0) ⟨rfl, inT5, by decide, fX1_31⟩ (by decide) (by decide) (by decide) dX1_tellsBelow_100 (tK.cis t_x1 nn_88) (hS.m0 t_x1 nn_88) ?_
        refine c_iload dX1_tellsBelow_103 rfl ?_
        refine c_aload_nQ dX1_tellsBelow_105 rfl rfl ?_
        refine c_getI (C := RX5) (T := TX5) (N := 7) (ci := 4) (k := 2) ⟨rfl, inT5, by decide, fX1_28⟩ (by decide) (by decide) (by decide) dX1_tellsBelow_106 (tK.cis t_x1 nn_88) ?_
        refine c_S3iE (y' := mX1_evidenceSize) dX1_tellsBelow_109 lX1_87 kX1_evidenceSize ⟨by decide, by decide⟩ (Nat.le_of_ble_eq_true rfl) (kc_X1_evidenceSize hG hS p_100 ok.1) ?_
        have ok := ok.2
        refine c_iadd dX1_tellsBelow_112 ?_
        refine c_istore_6 dX1_tellsBelow_113 (by decide) rfl ?_
        refine c_iinc_7 (v := (x7 + nI 1)) dX1_tellsBelow_115 rfl (by first | rfl | (congr 1)) (by decide) rfl ?_
        refine c_goto (tgt := 72) dX1_tellsBelow_118 (by decide) ?_
        exact cX.cutz (hrec _ _ _ _ _ t_x1 ok hx) ⟨rfl, rfl, rfl, rfl, rfl, trivial⟩
      · have ok := ok.2 c_92
        have hx := xif_n c_92 hx
        exact cX.cutz (hX0 ()  hx) trivial
def KL_X1_tellsBelow_72 (N g H T : Nat) : Nat → Option Nat → Int32 → Int32 → Int32 → Int32 → cS → Nat × Unit
  | 0, x1, x2, x5, x6, x7, S => (0, ())
  | n + 1, x1, x2, x5, x6, x7, S => KB_X1_tellsBelow_72 N g H T (fun x1 x2 x5 x6 x7 => KL_X1_tellsBelow_72 N g H T n x1 x2 x5 x6 x7 S) x1 x2 x5 x6 x7 S
def KOL_X1_tellsBelow_72 (N g H T : Nat) : Nat → Option Nat → Int32 → Int32 → Int32 → Int32 → cS → Prop
  | 0, _, _, _, _, _, _ => False
  | n + 1, x1, x2, x5, x6, x7, S => KOB_X1_tellsBelow_72 N g H T (fun x1 x2 x5 x6 x7 => KOL_X1_tellsBelow_72 N g H T n x1 x2 x5 x6 x7 S) x1 x2 x5 x6 x7 S
set_option maxRecDepth 100000 in
set_option maxHeartbeats 4000000 in
theorem kl_X1_tellsBelow_72 {G : zG} {o : cO} {u g H T N : Nat} {S : cS} {Q : Option Value → cS → Prop} {X : Nat × Unit → Prop} (hG : zOK G) (hX0 : ∀ _u : Unit, X (0, ()) → cX G o dX1_tellsBelow mX1_tellsBelow 95 [none, none, none, none, none, none, none, none] [] S Q) (hX1 : ∀ _u : Unit, X (1, ()) → cX G o dX1_tellsBelow mX1_tellsBelow 121 [none, none, none, none, none, none, none, none] [] S Q) (hS : St u g H T S) : ∀ (n : Nat) (x1 : Option Nat) (x2 : Int32) (x5 : Int32) (x6 : Int32) (x7 : Int32) , tK S 5 x1 → KOL_X1_tellsBelow_72 N g H T n x1 x2 x5 x6 x7 S → X (KL_X1_tellsBelow_72 N g H T n x1 x2 x5 x6 x7 S) → cX G o dX1_tellsBelow mX1_tellsBelow 72 [none, some (va_rf x1), some (.int x2), none, none, some (.int x5), some (.int x6), some (.int x7)] [] S Q := by
  intro n
  induction n with
  | zero => intro x1 x2 x5 x6 x7 t_x1 ok; exact absurd ok id
  | succ n ih =>
    intro x1 x2 x5 x6 x7 t_x1 ok hx
    exact kbb_X1_tellsBelow_72 hG hX0 hX1 (rec := fun x1 x2 x5 x6 x7 => KL_X1_tellsBelow_72 N g H T n x1 x2 x5 x6 x7 S) (rok := fun x1 x2 x5 x6 x7 => KOL_X1_tellsBelow_72 N g H T n x1 x2 x5 x6 x7 S) (fun x1 x2 x5 x6 x7 t_x1 ok hx => ih x1 x2 x5 x6 x7 t_x1 ok hx) hS t_x1 ok hx
def KA_X1_tellsBelow_72 (N g H T : Nat) (x1 : Option Nat) (x2 : Int32) (x5 : Int32) (x6 : Int32) (x7 : Int32) (S : cS) (z : Nat × Unit) : Int32 := (if z.1 = 0 then (KF_X1_tellsBelow_95 N g H T S) else (KF_X1_tellsBelow_121 N g H T S))
def KOA_X1_tellsBelow_72 (N g H T : Nat) (x1 : Option Nat) (x2 : Int32) (x5 : Int32) (x6 : Int32) (x7 : Int32) (S : cS) (z : Nat × Unit) : Prop := (if z.1 = 0 then KO_X1_tellsBelow_95 N g H T S else KO_X1_tellsBelow_121 N g H T S)
set_option maxRecDepth 100000 in
set_option maxHeartbeats 4000000 in
theorem kd_X1_tellsBelow_72 {G : zG} {o : cO} {u g H T N : Nat} {S : cS} {Q : Option Value → cS → Prop} {X : Int32 → Prop} (hG : zOK G) (hR : ∀ v, X v → Q (some (.int v)) S) {x1 : Option Nat} {x2 : Int32} {x5 : Int32} {x6 : Int32} {x7 : Int32} (hS : St u g H T S) (t_x1 : tK S 5 x1) (ok : KOL_X1_tellsBelow_72 N g H T N x1 x2 x5 x6 x7 S ∧ KOA_X1_tellsBelow_72 N g H T x1 x2 x5 x6 x7 S (KL_X1_tellsBelow_72 N g H T N x1 x2 x5 x6 x7 S)) (hx : X (KA_X1_tellsBelow_72 N g H T x1 x2 x5 x6 x7 S (KL_X1_tellsBelow_72 N g H T N x1 x2 x5 x6 x7 S))) : cX G o dX1_tellsBelow mX1_tellsBelow 72 [none, some (va_rf x1), some (.int x2), none, none, some (.int x5), some (.int x6), some (.int x7)] [] S Q := by
  refine kl_X1_tellsBelow_72 hG ?_ ?_ hS N x1 x2 x5 x6 x7 t_x1 ok.1 (X := fun z => KOA_X1_tellsBelow_72 N g H T x1 x2 x5 x6 x7 S z ∧ X (KA_X1_tellsBelow_72 N g H T x1 x2 x5 x6 x7 S z)) ⟨ok.2, hx⟩
  · intro _u hz
    obtain ⟨ok, hx⟩ := hz
    unfold KOA_X1_tellsBelow_72 at ok
    unfold KA_X1_tellsBelow_72 at hx
    have ok := xif_P (show (0 : Nat) = 0 from rfl) ok
    have hx := xif_p (show (0 : Nat) = 0 from rfl) hx
    exact cX.cutz (kb_X1_tellsBelow_95 hG hR hS  ok hx) trivial
  · intro _u hz
    obtain ⟨ok, hx⟩ := hz
    unfold KOA_X1_tellsBelow_72 at ok
    unfold KA_X1_tellsBelow_72 at hx
    have ok := xif_N (show ¬ (1 : Nat) = 0 by decide) ok
    have hx := xif_n (show ¬ (1 : Nat) = 0 by decide) hx
    exact cX.cutz (kb_X1_tellsBelow_121 hG hR hS  ok hx) trivial
def KF_X1_tellsBelow_60 (N g H T : Nat) (x1 : Option Nat) (x2 : Int32) (x4 : Int32) (s0 : Int32) (S : cS) : Int32 := (KA_X1_tellsBelow_72 N g H T x1 x2 s0 (x4 + (nI 101)) (nI 0) S (KL_X1_tellsBelow_72 N g H T N x1 x2 s0 (x4 + (nI 101)) (nI 0) S))
def KO_X1_tellsBelow_60 (N g H T : Nat) (x1 : Option Nat) (x2 : Int32) (x4 : Int32) (s0 : Int32) (S : cS) : Prop := (KOL_X1_tellsBelow_72 N g H T N x1 x2 s0 (x4 + (nI 101)) (nI 0) S ∧ KOA_X1_tellsBelow_72 N g H T x1 x2 s0 (x4 + (nI 101)) (nI 0) S (KL_X1_tellsBelow_72 N g H T N x1 x2 s0 (x4 + (nI 101)) (nI 0) S))
set_option maxRecDepth 100000 in
set_option maxHeartbeats 4000000 in
theorem kb_X1_tellsBelow_60 {G : zG} {o : cO} {u g H T N : Nat} {S : cS} {Q : Option Value → cS → Prop} {X : Int32 → Prop} (hG : zOK G) (hR : ∀ v, X v → Q (some (.int v)) S) {x1 : Option Nat} {x2 : Int32} {x4 : Int32} {s0 : Int32} (hS : St u g H T S) (t_x1 : tK S 5 x1) (ok : KO_X1_tellsBelow_60 N g H T x1 x2 x4 s0 S) (hx : X (KF_X1_tellsBelow_60 N g H T x1 x2 x4 s0 S)) : cX G o dX1_tellsBelow mX1_tellsBelow 60 [none, some (va_rf x1), some (.int x2), none, some (.int x4), none, none, none] [.int s0] S Q := by
  unfold KO_X1_tellsBelow_60 at ok
  unfold KF_X1_tellsBelow_60 at hx
  refine c_istore_5 dX1_tellsBelow_60 (by decide) rfl ?_
  refine c_iload dX1_tellsBelow_62 rfl ?_
  refine c_bipush (v := nI 101) dX1_tellsBelow_64 (by decide) ?_
  refine c_iadd dX1_tellsBelow_66 ?_
  refine c_istore_6 dX1_tellsBelow_67 (by decide) rfl ?_
  refine c_iconst (v := nI 0) dX1_tellsBelow_69 (by decide) ?_
  refine c_istore_7 dX1_tellsBelow_70 (by decide) rfl ?_
  exact cX.cutz (kd_X1_tellsBelow_72 hG hR hS t_x1 ok hx) ⟨rfl, rfl, rfl, rfl, rfl, trivial⟩
def KF_X1_tellsBelow_36 (N g H T : Nat) (x1 : Option Nat) (x2 : Int32) (S : cS) : Int32 := (if 0 ≤ (k_X5_blockAt N g H T S (za x1)) then (KF_X1_tellsBelow_60 N g H T x1 x2 (k_X5_blockAt N g H T S (za x1)) (k_X5_at N g H T S (za x1) ((k_X5_blockAt N g H T S (za x1)) + (nI 100))) S) else (KF_X1_tellsBelow_60 N g H T x1 x2 (k_X5_blockAt N g H T S (za x1)) (nI 0) S))
def KO_X1_tellsBelow_36 (N g H T : Nat) (x1 : Option Nat) (x2 : Int32) (S : cS) : Prop := (¬ x1 = none ∧ p_X5_blockAt N g H T S (za x1)) ∧ ((0 ≤ (k_X5_blockAt N g H T S (za x1)) → (p_X5_at N g H T S (za x1) ((k_X5_blockAt N g H T S (za x1)) + (nI 100))) ∧ KO_X1_tellsBelow_60 N g H T x1 x2 (k_X5_blockAt N g H T S (za x1)) (k_X5_at N g H T S (za x1) ((k_X5_blockAt N g H T S (za x1)) + (nI 100))) S) ∧ (¬ 0 ≤ (k_X5_blockAt N g H T S (za x1)) → KO_X1_tellsBelow_60 N g H T x1 x2 (k_X5_blockAt N g H T S (za x1)) (nI 0) S))
set_option maxRecDepth 100000 in
set_option maxHeartbeats 4000000 in
theorem kb_X1_tellsBelow_36 {G : zG} {o : cO} {u g H T N : Nat} {S : cS} {Q : Option Value → cS → Prop} {X : Int32 → Prop} (hG : zOK G) (hR : ∀ v, X v → Q (some (.int v)) S) {x1 : Option Nat} {x2 : Int32} (hS : St u g H T S) (t_x1 : tK S 5 x1) (ok : KO_X1_tellsBelow_36 N g H T x1 x2 S) (hx : X (KF_X1_tellsBelow_36 N g H T x1 x2 S)) : cX G o dX1_tellsBelow mX1_tellsBelow 36 [none, some (va_rf x1), some (.int x2), none, none, none, none, none] [] S Q := by
  unfold KO_X1_tellsBelow_36 at ok
  unfold KF_X1_tellsBelow_36 at hx
  refine c_aload_nQ dX1_tellsBelow_36 rfl rfl ?_
  have nn_37 := ok.1.1
  refine c_V0iE (ci := 4) (rr := (RX5, TX5, 7)) (y' := mX5_blockAt) dX1_tellsBelow_37 lX1_42 kX5_blockAt ⟨by decide, by decide⟩ rfl rfl (by decide) (tK.cis t_x1 nn_37) (Nat.le_of_ble_eq_true rfl) (kc_X5_blockAt hG hS (t_x1 _ (za_of nn_37)) ok.1.2) ?_
  have ok := ok.2
  refine c_istore_4 dX1_tellsBelow_40 (by decide) rfl ?_
  refine c_iload dX1_tellsBelow_42 rfl ?_
  refine c_if_ge (tgt := 51) dX1_tellsBelow_44 (by decide) (fun c_44 => ?_) (fun c_44 => ?_)
  · have ok := ok.1 c_44
    have hx := xif_p c_44 hx
    refine c_aload_nQ dX1_tellsBelow_51 rfl rfl ?_
    refine c_iload dX1_tellsBelow_52 rfl ?_
    refine c_bipush (v := nI 100) dX1_tellsBelow_54 (by decide) ?_
    refine c_iadd dX1_tellsBelow_56 ?_
    refine c_V1iE (ci := 4) (rr := (RX5, TX5, 7)) (y' := mX5_at) dX1_tellsBelow_57 lX1_58 kX5_at ⟨by decide, by decide⟩ rfl rfl (by decide) (tK.cis t_x1 nn_37) (Nat.le_of_ble_eq_true rfl) (kc_X5_at hG hS (t_x1 _ (za_of nn_37)) ok.1) ?_
    have ok := ok.2
    exact cX.cutz (kb_X1_tellsBelow_60 hG hR hS t_x1 ok hx) ⟨rfl, rfl, rfl, trivial⟩
  · have ok := ok.2 c_44
    have hx := xif_n c_44 hx
    refine c_iconst (v := nI 0) dX1_tellsBelow_47 (by decide) ?_
    refine c_goto (tgt := 60) dX1_tellsBelow_48 (by decide) ?_
    exact cX.cutz (kb_X1_tellsBelow_60 hG hR hS t_x1 ok hx) ⟨rfl, rfl, rfl, trivial⟩
def KF_X1_tellsBelow_26 (N g H T : Nat) (x1 : Option Nat) (x2 : Int32) (S : cS) : Int32 := (if x2 ≤ (k_X5_signer N g H T S (za x1)) then (KF_X1_tellsBelow_36 N g H T x1 x2 S) else (nI 1))
def KO_X1_tellsBelow_26 (N g H T : Nat) (x1 : Option Nat) (x2 : Int32) (S : cS) : Prop := (¬ x1 = none ∧ p_X5_signer N g H T S (za x1)) ∧ ((x2 ≤ (k_X5_signer N g H T S (za x1)) → KO_X1_tellsBelow_36 N g H T x1 x2 S) ∧ (¬ x2 ≤ (k_X5_signer N g H T S (za x1)) → True))
set_option maxRecDepth 100000 in
set_option maxHeartbeats 4000000 in
theorem kb_X1_tellsBelow_26 {G : zG} {o : cO} {u g H T N : Nat} {S : cS} {Q : Option Value → cS → Prop} {X : Int32 → Prop} (hG : zOK G) (hR : ∀ v, X v → Q (some (.int v)) S) {x1 : Option Nat} {x2 : Int32} (hS : St u g H T S) (t_x1 : tK S 5 x1) (ok : KO_X1_tellsBelow_26 N g H T x1 x2 S) (hx : X (KF_X1_tellsBelow_26 N g H T x1 x2 S)) : cX G o dX1_tellsBelow mX1_tellsBelow 26 [none, some (va_rf x1), some (.int x2), none, none, none, none, none] [] S Q := by
  unfold KO_X1_tellsBelow_26 at ok
  unfold KF_X1_tellsBelow_26 at hx
  refine c_aload_nQ dX1_tellsBelow_26 rfl rfl ?_
  have nn_27 := ok.1.1
  refine c_V0iE (ci := 4) (rr := (RX5, TX5, 7)) (y' := mX5_signer) dX1_tellsBelow_27 lX1_107 kX5_signer ⟨by decide, by decide⟩ rfl rfl (by decide) (tK.cis t_x1 nn_27) (Nat.le_of_ble_eq_true rfl) (kc_X5_signer hG hS (t_x1 _ (za_of nn_27)) ok.1.2) ?_
  have ok := ok.2
  refine c_iload_n dX1_tellsBelow_30 rfl rfl ?_
  refine c_icmp_ge (tgt := 36) dX1_tellsBelow_31 (by decide) (fun c_31 => ?_) (fun c_31 => ?_)
  · have ok := ok.1 c_31
    have hx := xif_p c_31 hx
    exact cX.cutz (kb_X1_tellsBelow_36 hG hR hS t_x1 ok hx) ⟨rfl, rfl, trivial⟩
  · have ok := ok.2 c_31
    have hx := xif_n c_31 hx
    refine c_iconst (v := nI 1) dX1_tellsBelow_34 (by decide) ?_
    exact c_ireturn rfl rfl dX1_tellsBelow_35 (hR _ hx)
def KF_X1_tellsBelow_0 (N g H T : Nat) (x1 : Option Nat) (x2 : Int32) (S : cS) : Int32 := (if (k_X5_kind N g H T S (za x1)) = (nI 1) then (KF_X1_tellsBelow_26 N g H T x1 x2 S) else (if (k_X5_kind N g H T S (za x1)) = (nI 2) then (KF_X1_tellsBelow_26 N g H T x1 x2 S) else (if (k_X5_kind N g H T S (za x1)) = (nI 3) then (KF_X1_tellsBelow_26 N g H T x1 x2 S) else (if (k_X5_kind N g H T S (za x1)) = (nI 6) then (KF_X1_tellsBelow_26 N g H T x1 x2 S) else (KF_X1_tellsBelow_36 N g H T x1 x2 S)))))
def KO_X1_tellsBelow_0 (N g H T : Nat) (x1 : Option Nat) (x2 : Int32) (S : cS) : Prop := (¬ x1 = none ∧ p_X5_kind N g H T S (za x1)) ∧ (((k_X5_kind N g H T S (za x1)) = (nI 1) → KO_X1_tellsBelow_26 N g H T x1 x2 S) ∧ (¬ (k_X5_kind N g H T S (za x1)) = (nI 1) → (((k_X5_kind N g H T S (za x1)) = (nI 2) → KO_X1_tellsBelow_26 N g H T x1 x2 S) ∧ (¬ (k_X5_kind N g H T S (za x1)) = (nI 2) → (((k_X5_kind N g H T S (za x1)) = (nI 3) → KO_X1_tellsBelow_26 N g H T x1 x2 S) ∧ (¬ (k_X5_kind N g H T S (za x1)) = (nI 3) → (((k_X5_kind N g H T S (za x1)) = (nI 6) → KO_X1_tellsBelow_26 N g H T x1 x2 S) ∧ (¬ (k_X5_kind N g H T S (za x1)) = (nI 6) → KO_X1_tellsBelow_36 N g H T x1 x2 S))))))))
set_option maxRecDepth 100000 in
set_option maxHeartbeats 4000000 in
theorem kb_X1_tellsBelow_0 {G : zG} {o : cO} {u g H T N : Nat} {S : cS} {Q : Option Value → cS → Prop} {X : Int32 → Prop} (hG : zOK G) (hR : ∀ v, X v → Q (some (.int v)) S) {x1 : Option Nat} {x2 : Int32} (hS : St u g H T S) (t_x1 : tK S 5 x1) (ok : KO_X1_tellsBelow_0 N g H T x1 x2 S) (hx : X (KF_X1_tellsBelow_0 N g H T x1 x2 S)) : cX G o dX1_tellsBelow mX1_tellsBelow 0 [none, some (va_rf x1), some (.int x2), none, none, none, none, none] [] S Q := by
  unfold KO_X1_tellsBelow_0 at ok
  unfold KF_X1_tellsBelow_0 at hx
  refine c_aload_nQ dX1_tellsBelow_0 rfl rfl ?_
  have nn_1 := ok.1.1
  refine c_V0iE (ci := 4) (rr := (RX5, TX5, 7)) (y' := mX5_kind) dX1_tellsBelow_1 lX1_55 kX5_kind ⟨by decide, by decide⟩ rfl rfl (by decide) (tK.cis t_x1 nn_1) (Nat.le_of_ble_eq_true rfl) (kc_X5_kind hG hS (t_x1 _ (za_of nn_1)) ok.1.2) ?_
  have ok := ok.2
  refine c_istore_3 dX1_tellsBelow_4 (by decide) rfl ?_
  refine c_iload_n dX1_tellsBelow_5 rfl rfl ?_
  refine c_iconst (v := nI 1) dX1_tellsBelow_6 (by decide) ?_
  refine c_icmp_eq (tgt := 26) dX1_tellsBelow_7 (by decide) (fun c_7 => ?_) (fun c_7 => ?_)
  · have ok := ok.1 c_7
    have hx := xif_p c_7 hx
    exact cX.cutz (kb_X1_tellsBelow_26 hG hR hS t_x1 ok hx) ⟨rfl, rfl, trivial⟩
  · have ok := ok.2 c_7
    have hx := xif_n c_7 hx
    refine c_iload_n dX1_tellsBelow_10 rfl rfl ?_
    refine c_iconst (v := nI 2) dX1_tellsBelow_11 (by decide) ?_
    refine c_icmp_eq (tgt := 26) dX1_tellsBelow_12 (by decide) (fun c_12 => ?_) (fun c_12 => ?_)
    · have ok := ok.1 c_12
      have hx := xif_p c_12 hx
      exact cX.cutz (kb_X1_tellsBelow_26 hG hR hS t_x1 ok hx) ⟨rfl, rfl, trivial⟩
    · have ok := ok.2 c_12
      have hx := xif_n c_12 hx
      refine c_iload_n dX1_tellsBelow_15 rfl rfl ?_
      refine c_iconst (v := nI 3) dX1_tellsBelow_16 (by decide) ?_
      refine c_icmp_eq (tgt := 26) dX1_tellsBelow_17 (by decide) (fun c_17 => ?_) (fun c_17 => ?_)
      · have ok := ok.1 c_17
        have hx := xif_p c_17 hx
        exact cX.cutz (kb_X1_tellsBelow_26 hG hR hS t_x1 ok hx) ⟨rfl, rfl, trivial⟩
      · have ok := ok.2 c_17
        have hx := xif_n c_17 hx
        refine c_iload_n dX1_tellsBelow_20 rfl rfl ?_
        refine c_bipush (v := nI 6) dX1_tellsBelow_21 (by decide) ?_
        refine c_icmp_ne (tgt := 36) dX1_tellsBelow_23 (by decide) (fun c_23 => ?_) (fun c_23 => ?_)
        · have ok := ok.2 c_23
          have hx := xif_n c_23 hx
          exact cX.cutz (kb_X1_tellsBelow_36 hG hR hS t_x1 ok hx) ⟨rfl, rfl, trivial⟩
        · have ok := ok.1 c_23
          have hx := xif_p c_23 hx
          exact cX.cutz (kb_X1_tellsBelow_26 hG hR hS t_x1 ok hx) ⟨rfl, rfl, trivial⟩
def k_X1_tellsBelow (N g H T : Nat) (S : cS) (a0 : Nat) (x1 : Option Nat) (x2 : Int32) : Int32 := KF_X1_tellsBelow_0 N g H T x1 x2 S
def p_X1_tellsBelow (N g H T : Nat) (S : cS) (a0 : Nat) (x1 : Option Nat) (x2 : Int32) : Prop := KO_X1_tellsBelow_0 N g H T x1 x2 S
set_option maxRecDepth 100000 in
set_option maxHeartbeats 4000000 in
theorem kc_X1_tellsBelow {G : zG} {o : cO} {u g H T N : Nat} {S : cS} (hG : zOK G) {a0 : Nat} {x1 : Option Nat} {x2 : Int32} (hS : St u g H T S) (t_x0 : isO g H 1 a0) (t_x1 : tK S 5 x1) (ok : p_X1_tellsBelow N g H T S a0 x1 x2) : cCi G o dX1_tellsBelow mX1_tellsBelow [.ref a0, va_rf x1, .int x2] S (fun v S' => (v = k_X1_tellsBelow N g H T S a0 x1 x2 ∧ S' = S)) := by
  refine cC.ofX rfl (by cases x1 <;> exact Nat.le_of_ble_eq_true rfl) ?_
  rw [show zargs mX1_tellsBelow.2.2.1 [.ref a0, va_rf x1, .int x2] = [some (va_rf (some a0)), some (va_rf x1), some (.int x2), none, none, none, none, none] from by cases x1 <;> rfl]
  exact cX.cutz (kb_X1_tellsBelow_0 (X := fun F => F = k_X1_tellsBelow N g H T S a0 x1 x2) hG (fun v h => ⟨v, rfl, h, rfl⟩) hS t_x1 ok rfl) ⟨rfl, rfl, trivial⟩
/-! X8_find -/
def KF_X8_find_29 (N g H T : Nat)  (S : cS) : Int32 := (-1)
def KO_X8_find_29 (N g H T : Nat)  (S : cS) : Prop := True
set_option maxRecDepth 100000 in
set_option maxHeartbeats 4000000 in
theorem kb_X8_find_29 {G : zG} {o : cO} {u g H T N : Nat} {S : cS} {Q : Option Value → cS → Prop} {X : Int32 → Prop} (hG : zOK G) (hR : ∀ v, X v → Q (some (.int v)) S) (hS : St u g H T S) (ok : KO_X8_find_29 N g H T S) (hx : X (KF_X8_find_29 N g H T S)) : cX G o dX8_find mX8_find 29 [none, none, none, none] [] S Q := by
  unfold KO_X8_find_29 at ok
  unfold KF_X8_find_29 at hx
  refine c_iconst (v := -1) dX8_find_29 (by decide) ?_
  exact c_ireturn rfl rfl dX8_find_30 (hR _ hx)
def KF_X8_find_21 (N g H T : Nat) (x3 : Int32) (S : cS) : Int32 := x3
def KO_X8_find_21 (N g H T : Nat) (x3 : Int32) (S : cS) : Prop := True
set_option maxRecDepth 100000 in
set_option maxHeartbeats 4000000 in
theorem kb_X8_find_21 {G : zG} {o : cO} {u g H T N : Nat} {S : cS} {Q : Option Value → cS → Prop} {X : Int32 → Prop} (hG : zOK G) (hR : ∀ v, X v → Q (some (.int v)) S) {x3 : Int32} (hS : St u g H T S) (ok : KO_X8_find_21 N g H T x3 S) (hx : X (KF_X8_find_21 N g H T x3 S)) : cX G o dX8_find mX8_find 21 [none, none, none, some (.int x3)] [] S Q := by
  unfold KO_X8_find_21 at ok
  unfold KF_X8_find_21 at hx
  refine c_iload_n dX8_find_21 rfl rfl ?_
  exact c_ireturn rfl rfl dX8_find_22 (hR _ hx)
def KB_X8_find_2 (N g H T : Nat) (rec : Nat → Int64 → Int32 → Nat × Int32 × Unit) (x0 : Nat) (x1 : Int64) (x3 : Int32) (S : cS) : Nat × Int32 × Unit := (if (cI S 12 x0) ≤ x3 then (1, 0, ()) else (if (lg_cmp (cJ S (x0 + 4) x3.toNatClampNeg) x1) = 0 then (0, x3, ()) else (rec x0 x1 (x3 + nI 1))))
def KOB_X8_find_2 (N g H T : Nat) (rok : Nat → Int64 → Int32 → Prop) (x0 : Nat) (x1 : Int64) (x3 : Int32) (S : cS) : Prop := (((cI S 12 x0) ≤ x3 → True) ∧ (¬ (cI S 12 x0) ≤ x3 → (vp_in x3 80) ∧ (((lg_cmp (cJ S (x0 + 4) x3.toNatClampNeg) x1) = 0 → True) ∧ (¬ (lg_cmp (cJ S (x0 + 4) x3.toNatClampNeg) x1) = 0 → rok x0 x1 (x3 + nI 1)))))
set_option maxRecDepth 100000 in
set_option maxHeartbeats 4000000 in
theorem kbb_X8_find_2 {G : zG} {o : cO} {u g H T N : Nat} {S : cS} {Q : Option Value → cS → Prop} {X : Nat × Int32 × Unit → Prop} (hG : zOK G) (hX0 : ∀ (x3 : Int32) , X (0, x3, ()) → cX G o dX8_find mX8_find 21 [none, none, none, some (.int x3)] [] S Q) (hX1 : ∀ (x3 : Int32) , X (1, x3, ()) → cX G o dX8_find mX8_find 29 [none, none, none, none] [] S Q) {rec : Nat → Int64 → Int32 → Nat × Int32 × Unit} {rok : Nat → Int64 → Int32 → Prop} (hrec : ∀ (x0 : Nat) (x1 : Int64) (x3 : Int32), isO g H 6 x0 → rok x0 x1 x3 → X (rec x0 x1 x3) → cX G o dX8_find mX8_find 2 [some (va_rf (some x0)), some (.long x1), none, some (.int x3)] [] S Q) {x0 : Nat} {x1 : Int64} {x3 : Int32} (hS : St u g H T S) (t_x0 : isO g H 6 x0) (ok : KOB_X8_find_2 N g H T rok x0 x1 x3 S) (hx : X (KB_X8_find_2 N g H T rec x0 x1 x3 S)) : cX G o dX8_find mX8_find 2 [some (va_rf (some x0)), some (.long x1), none, some (.int x3)] [] S Q := by
  unfold KOB_X8_find_2 at ok
  unfold KB_X8_find_2 at hx
  refine c_iload_n dX8_find_2 rfl rfl ?_
  refine c_aload_nQ dX8_find_3 rfl rfl ?_
  refine c_getI (C := RX8) (T := TX8) (N := 14) (ci := 6) (k := 12) ⟨rfl, inT8, by decide, fX8_108⟩ (by decide) (by decide) (by decide) dX8_find_4 (hS.k t_x0) ?_
  refine c_icmp_ge (tgt := 29) dX8_find_7 (by decide) (fun c_7 => ?_) (fun c_7 => ?_)
  · have ok := ok.1 c_7
    have hx := xif_p c_7 hx
    exact cX.cutz (hX1 _   hx) trivial
  · have ok := ok.2 c_7
    have hx := xif_n c_7 hx
    refine c_aload_nQ dX8_find_10 rfl rfl ?_
    refine c_getS (C := RX8) (T := TX8) (N := 14) (ci := 6) (k := 10) ⟨rfl, inT8, by decide, fX8_24⟩ (by decide) (by decide) (by decide) dX8_find_11 (hS.k t_x0) (hS.r (c := 6) t_x0 rfl (by omega)) ?_
    refine c_iload_n dX8_find_14 rfl rfl ?_
    refine c_lald dX8_find_15 ⟨(tK.cis (hS.rk (c := 6) (k := 10) t_x0 rfl (by omega)) (Option.some_ne_none _)), (vk_cast (hS.rl (c := 6) (k := 10) t_x0 rfl (by decide) (by omega)) ok.1)⟩ ?_
    have ok := ok.2
    refine c_lload_n dX8_find_16 rfl rfl ?_
    refine c_lcmp dX8_find_17 ?_
    refine c_if_ne (tgt := 23) dX8_find_18 (by decide) (fun c_18 => ?_) (fun c_18 => ?_)
    · have ok := ok.2 c_18
      have hx := xif_n c_18 hx
      refine c_iinc_3 (v := (x3 + nI 1)) dX8_find_23 rfl (by first | rfl | (congr 1)) (by decide) rfl ?_
      refine c_goto (tgt := 2) dX8_find_26 (by decide) ?_
      exact cX.cutz (hrec _ _ _ t_x0 ok hx) ⟨rfl, rfl, rfl, trivial⟩
    · have ok := ok.1 c_18
      have hx := xif_p c_18 hx
      exact cX.cutz (hX0 _   hx) ⟨rfl, trivial⟩
def KL_X8_find_2 (N g H T : Nat) : Nat → Nat → Int64 → Int32 → cS → Nat × Int32 × Unit
  | 0, x0, x1, x3, S => (0, 0, ())
  | n + 1, x0, x1, x3, S => KB_X8_find_2 N g H T (fun x0 x1 x3 => KL_X8_find_2 N g H T n x0 x1 x3 S) x0 x1 x3 S
def KOL_X8_find_2 (N g H T : Nat) : Nat → Nat → Int64 → Int32 → cS → Prop
  | 0, _, _, _, _ => False
  | n + 1, x0, x1, x3, S => KOB_X8_find_2 N g H T (fun x0 x1 x3 => KOL_X8_find_2 N g H T n x0 x1 x3 S) x0 x1 x3 S
set_option maxRecDepth 100000 in
set_option maxHeartbeats 4000000 in
theorem kl_X8_find_2 {G : zG} {o : cO} {u g H T N : Nat} {S : cS} {Q : Option Value → cS → Prop} {X : Nat × Int32 × Unit → Prop} (hG : zOK G) (hX0 : ∀ (x3 : Int32) , X (0, x3, ()) → cX G o dX8_find mX8_find 21 [none, none, none, some (.int x3)] [] S Q) (hX1 : ∀ (x3 : Int32) , X (1, x3, ()) → cX G o dX8_find mX8_find 29 [none, none, none, none] [] S Q) (hS : St u g H T S) : ∀ (n : Nat) (x0 : Nat) (x1 : Int64) (x3 : Int32) , isO g H 6 x0 → KOL_X8_find_2 N g H T n x0 x1 x3 S → X (KL_X8_find_2 N g H T n x0 x1 x3 S) → cX G o dX8_find mX8_find 2 [some (va_rf (some x0)), some (.long x1), none, some (.int x3)] [] S Q := by
  intro n
  induction n with
  | zero => intro x0 x1 x3 t_x0 ok; exact absurd ok id
  | succ n ih =>
    intro x0 x1 x3 t_x0 ok hx
    exact kbb_X8_find_2 hG hX0 hX1 (rec := fun x0 x1 x3 => KL_X8_find_2 N g H T n x0 x1 x3 S) (rok := fun x0 x1 x3 => KOL_X8_find_2 N g H T n x0 x1 x3 S) (fun x0 x1 x3 t_x0 ok hx => ih x0 x1 x3 t_x0 ok hx) hS t_x0 ok hx
def KA_X8_find_2 (N g H T : Nat) (x0 : Nat) (x1 : Int64) (x3 : Int32) (S : cS) (z : Nat × Int32 × Unit) : Int32 := (if z.1 = 0 then (KF_X8_find_21 N g H T (z.2.1) S) else (KF_X8_find_29 N g H T S))
def KOA_X8_find_2 (N g H T : Nat) (x0 : Nat) (x1 : Int64) (x3 : Int32) (S : cS) (z : Nat × Int32 × Unit) : Prop := (if z.1 = 0 then KO_X8_find_21 N g H T (z.2.1) S else KO_X8_find_29 N g H T S)
set_option maxRecDepth 100000 in
set_option maxHeartbeats 4000000 in
theorem kd_X8_find_2 {G : zG} {o : cO} {u g H T N : Nat} {S : cS} {Q : Option Value → cS → Prop} {X : Int32 → Prop} (hG : zOK G) (hR : ∀ v, X v → Q (some (.int v)) S) {x0 : Nat} {x1 : Int64} {x3 : Int32} (hS : St u g H T S) (t_x0 : isO g H 6 x0) (ok : KOL_X8_find_2 N g H T N x0 x1 x3 S ∧ KOA_X8_find_2 N g H T x0 x1 x3 S (KL_X8_find_2 N g H T N x0 x1 x3 S)) (hx : X (KA_X8_find_2 N g H T x0 x1 x3 S (KL_X8_find_2 N g H T N x0 x1 x3 S))) : cX G o dX8_find mX8_find 2 [some (va_rf (some x0)), some (.long x1), none, some (.int x3)] [] S Q := by
  refine kl_X8_find_2 hG ?_ ?_ hS N x0 x1 x3 t_x0 ok.1 (X := fun z => KOA_X8_find_2 N g H T x0 x1 x3 S z ∧ X (KA_X8_find_2 N g H T x0 x1 x3 S z)) ⟨ok.2, hx⟩
  · intro x3' hz
    obtain ⟨ok, hx⟩ := hz
    unfold KOA_X8_find_2 at ok
    unfold KA_X8_find_2 at hx
    have ok := xif_P (show (0 : Nat) = 0 from rfl) ok
    have hx := xif_p (show (0 : Nat) = 0 from rfl) hx
    exact cX.cutz (kb_X8_find_21 hG hR hS  ok hx) ⟨rfl, trivial⟩
  · intro x3' hz
    obtain ⟨ok, hx⟩ := hz
    unfold KOA_X8_find_2 at ok
    unfold KA_X8_find_2 at hx
    have ok := xif_N (show ¬ (1 : Nat) = 0 by decide) ok
    have hx := xif_n (show ¬ (1 : Nat) = 0 by decide) hx
    exact cX.cutz (kb_X8_find_29 hG hR hS  ok hx) trivial
def KF_X8_find_0 (N g H T : Nat) (x0 : Nat) (x1 : Int64) (S : cS) : Int32 := (KA_X8_find_2 N g H T x0 x1 (nI 0) S (KL_X8_find_2 N g H T N x0 x1 (nI 0) S))
def KO_X8_find_0 (N g H T : Nat) (x0 : Nat) (x1 : Int64) (S : cS) : Prop := (KOL_X8_find_2 N g H T N x0 x1 (nI 0) S ∧ KOA_X8_find_2 N g H T x0 x1 (nI 0) S (KL_X8_find_2 N g H T N x0 x1 (nI 0) S))
set_option maxRecDepth 100000 in
set_option maxHeartbeats 4000000 in
theorem kb_X8_find_0 {G : zG} {o : cO} {u g H T N : Nat} {S : cS} {Q : Option Value → cS → Prop} {X : Int32 → Prop} (hG : zOK G) (hR : ∀ v, X v → Q (some (.int v)) S) {x0 : Nat} {x1 : Int64} (hS : St u g H T S) (t_x0 : isO g H 6 x0) (ok : KO_X8_find_0 N g H T x0 x1 S) (hx : X (KF_X8_find_0 N g H T x0 x1 S)) : cX G o dX8_find mX8_find 0 [some (va_rf (some x0)), some (.long x1), none, none] [] S Q := by
  unfold KO_X8_find_0 at ok
  unfold KF_X8_find_0 at hx
  refine c_iconst (v := nI 0) dX8_find_0 (by decide) ?_
  refine c_istore_3 dX8_find_1 (by decide) rfl ?_
  exact cX.cutz (kd_X8_find_2 hG hR hS t_x0 ok hx) ⟨rfl, rfl, rfl, trivial⟩
def k_X8_find (N g H T : Nat) (S : cS) (a0 : Nat) (x1 : Int64) : Int32 := KF_X8_find_0 N g H T a0 x1 S
def p_X8_find (N g H T : Nat) (S : cS) (a0 : Nat) (x1 : Int64) : Prop := KO_X8_find_0 N g H T a0 x1 S
set_option maxRecDepth 100000 in
set_option maxHeartbeats 4000000 in
theorem kc_X8_find {G : zG} {o : cO} {u g H T N : Nat} {S : cS} (hG : zOK G) {a0 : Nat} {x1 : Int64} (hS : St u g H T S) (t_x0 : isO g H 6 a0) (ok : p_X8_find N g H T S a0 x1) : cCi G o dX8_find mX8_find [.ref a0, .long x1] S (fun v S' => (v = k_X8_find N g H T S a0 x1 ∧ S' = S)) := by
  refine cC.ofX rfl (by exact Nat.le_of_ble_eq_true rfl) ?_
  show cX G o dX8_find mX8_find 0 [some (va_rf (some a0)), some (.long x1), none, none] [] S _
  exact cX.cutz (kb_X8_find_0 (X := fun F => F = k_X8_find N g H T S a0 x1) hG (fun v h => ⟨v, rfl, h, rfl⟩) hS t_x0 ok rfl) ⟨rfl, rfl, trivial⟩
/-! X8_addPayment -/
def KF_X8_addPayment_39 (N g H T : Nat)  (S : cS) : Int32 × cS := ((nI 1), S)
def KO_X8_addPayment_39 (N g H T : Nat)  (S : cS) : Prop := True
set_option maxRecDepth 100000 in
set_option maxHeartbeats 4000000 in
theorem kb_X8_addPayment_39 {G : zG} {o : cO} {u g H T N : Nat} {S : cS} {S0 : cS} {Q : Option Value → cS → Prop} {X : Int32 × cS → Prop} (hG : zOK G) (hR : ∀ v S', St u g H T S' → Mono S0 S' → X (v, S') → Q (some (.int v)) S') (hS : St u g H T S) (hM : Mono S0 S) (ok : KO_X8_addPayment_39 N g H T S) (hx : X (KF_X8_addPayment_39 N g H T S)) : cX G o dX8_addPayment mX8_addPayment 39 [none, none, none] [] S Q := by
  unfold KO_X8_addPayment_39 at ok
  unfold KF_X8_addPayment_39 at hx
  refine c_iconst (v := nI 1) dX8_addPayment_39 (by decide) ?_
  exact c_ireturn rfl rfl dX8_addPayment_40 (hR _ _ hS hM hx)
def KF_X8_addPayment_17 (N g H T : Nat)  (S : cS) : Int32 × cS := ((nI 0), S)
def KO_X8_addPayment_17 (N g H T : Nat)  (S : cS) : Prop := True
set_option maxRecDepth 100000 in
set_option maxHeartbeats 4000000 in
theorem kb_X8_addPayment_17 {G : zG} {o : cO} {u g H T N : Nat} {S : cS} {S0 : cS} {Q : Option Value → cS → Prop} {X : Int32 × cS → Prop} (hG : zOK G) (hR : ∀ v S', St u g H T S' → Mono S0 S' → X (v, S') → Q (some (.int v)) S') (hS : St u g H T S) (hM : Mono S0 S) (ok : KO_X8_addPayment_17 N g H T S) (hx : X (KF_X8_addPayment_17 N g H T S)) : cX G o dX8_addPayment mX8_addPayment 17 [none, none, none] [] S Q := by
  unfold KO_X8_addPayment_17 at ok
  unfold KF_X8_addPayment_17 at hx
  refine c_iconst (v := nI 0) dX8_addPayment_17 (by decide) ?_
  exact c_ireturn rfl rfl dX8_addPayment_18 (hR _ _ hS hM hx)
def KF_X8_addPayment_0 (N g H T : Nat) (x0 : Nat) (x1 : Int64) (S : cS) : Int32 × cS := (if (nI 80) ≤ (cI S 12 x0) then (KF_X8_addPayment_17 N g H T S) else (if (k_X8_find N g H T S x0 x1) < 0 then (KF_X8_addPayment_39 N g H T (csI (csJ S (x0 + 4) (cI S 12 x0).toNatClampNeg x1) 12 x0 ((cI (csJ S (x0 + 4) (cI S 12 x0).toNatClampNeg x1) 12 x0) + (nI 1)))) else (KF_X8_addPayment_17 N g H T S)))
def KO_X8_addPayment_0 (N g H T : Nat) (x0 : Nat) (x1 : Int64) (S : cS) : Prop := (((nI 80) ≤ (cI S 12 x0) → KO_X8_addPayment_17 N g H T S) ∧ (¬ (nI 80) ≤ (cI S 12 x0) → (p_X8_find N g H T S x0 x1) ∧ (((k_X8_find N g H T S x0 x1) < 0 → (vp_in (cI S 12 x0) 80) ∧ KO_X8_addPayment_39 N g H T (csI (csJ S (x0 + 4) (cI S 12 x0).toNatClampNeg x1) 12 x0 ((cI (csJ S (x0 + 4) (cI S 12 x0).toNatClampNeg x1) 12 x0) + (nI 1)))) ∧ (¬ (k_X8_find N g H T S x0 x1) < 0 → KO_X8_addPayment_17 N g H T S))))
set_option maxRecDepth 100000 in
set_option maxHeartbeats 4000000 in
theorem kb_X8_addPayment_0 {G : zG} {o : cO} {u g H T N : Nat} {S : cS} {S0 : cS} {Q : Option Value → cS → Prop} {X : Int32 × cS → Prop} (hG : zOK G) (hR : ∀ v S', St u g H T S' → Mono S0 S' → X (v, S') → Q (some (.int v)) S') {x0 : Nat} {x1 : Int64} (hS : St u g H T S) (hM : Mono S0 S) (t_x0 : isO g H 6 x0) (ok : KO_X8_addPayment_0 N g H T x0 x1 S) (hx : X (KF_X8_addPayment_0 N g H T x0 x1 S)) : cX G o dX8_addPayment mX8_addPayment 0 [some (va_rf (some x0)), some (.long x1), none] [] S Q := by
  unfold KO_X8_addPayment_0 at ok
  unfold KF_X8_addPayment_0 at hx
  refine c_aload_nQ dX8_addPayment_0 rfl rfl ?_
  refine c_getI (C := RX8) (T := TX8) (N := 14) (ci := 6) (k := 12) ⟨rfl, inT8, by decide, fX8_108⟩ (by decide) (by decide) (by decide) dX8_addPayment_1 (hS.k t_x0) ?_
  refine c_bipush (v := nI 80) dX8_addPayment_4 (by decide) ?_
  refine c_icmp_ge (tgt := 17) dX8_addPayment_6 (by decide) (fun c_6 => ?_) (fun c_6 => ?_)
  · have ok := ok.1 c_6
    have hx := xif_p c_6 hx
    exact cX.cutz (kb_X8_addPayment_17 hG hR hS hM  ok hx) trivial
  · have ok := ok.2 c_6
    have hx := xif_n c_6 hx
    refine c_aload_nQ dX8_addPayment_9 rfl rfl ?_
    refine c_lload_n dX8_addPayment_10 rfl rfl ?_
    refine c_V1iE (ci := 6) (rr := (RX8, TX8, 14)) (y' := mX8_find) dX8_addPayment_11 lX8_111 kX8_find ⟨by decide, by decide⟩ rfl rfl (by decide) (hS.k t_x0) (Nat.le_of_ble_eq_true rfl) (kc_X8_find hG hS t_x0 ok.1) ?_
    have ok := ok.2
    refine c_if_lt (tgt := 19) dX8_addPayment_14 (by decide) (fun c_14 => ?_) (fun c_14 => ?_)
    · have ok := ok.1 c_14
      have hx := xif_p c_14 hx
      refine c_aload_nQ dX8_addPayment_19 rfl rfl ?_
      refine c_getS (C := RX8) (T := TX8) (N := 14) (ci := 6) (k := 10) ⟨rfl, inT8, by decide, fX8_24⟩ (by decide) (by decide) (by decide) dX8_addPayment_20 (hS.k t_x0) (hS.r (c := 6) t_x0 rfl (by omega)) ?_
      refine c_aload_nQ dX8_addPayment_23 rfl rfl ?_
      refine c_getI (C := RX8) (T := TX8) (N := 14) (ci := 6) (k := 12) ⟨rfl, inT8, by decide, fX8_108⟩ (by decide) (by decide) (by decide) dX8_addPayment_24 (hS.k t_x0) ?_
      refine c_lload_n dX8_addPayment_27 rfl rfl ?_
      refine c_last dX8_addPayment_28 ⟨(tK.cis (hS.rk (c := 6) (k := 10) t_x0 rfl (by omega)) (Option.some_ne_none _)), (vk_cast (hS.rl (c := 6) (k := 10) t_x0 rfl (by decide) (by omega)) ok.1)⟩ ?_
      have hS := hS.J (x0 + 4) (cI S 12 x0).toNatClampNeg x1
      have hM := hM.J (x0 + 4) (cI S 12 x0).toNatClampNeg x1
      have ok := ok.2
      refine c_aload_nQ dX8_addPayment_29 rfl rfl ?_
      refine c_dup dX8_addPayment_30 (zcat_rf _) ?_
      refine c_getI (C := RX8) (T := TX8) (N := 14) (ci := 6) (k := 12) ⟨rfl, inT8, by decide, fX8_108⟩ (by decide) (by decide) (by decide) dX8_addPayment_31 (hS.k t_x0) ?_
      refine c_iconst (v := nI 1) dX8_addPayment_34 (by decide) ?_
      refine c_iadd dX8_addPayment_35 ?_
      refine c_putI (C := RX8) (T := TX8) (N := 14) (ci := 6) (k := 12) ⟨rfl, inT8, by decide, fX8_108⟩ ftT8 rfl (by decide) (by decide) (by decide) rfl rfl dX8_addPayment_36 (hS.k t_x0) ?_
      have hS := hS.I 12 x0 ((cI (csJ S (x0 + 4) (cI S 12 x0).toNatClampNeg x1) 12 x0) + (nI 1))
      have hM := hM.I 12 x0 ((cI (csJ S (x0 + 4) (cI S 12 x0).toNatClampNeg x1) 12 x0) + (nI 1))
      exact cX.cutz (kb_X8_addPayment_39 hG hR hS hM  ok hx) trivial
    · have ok := ok.2 c_14
      have hx := xif_n c_14 hx
      exact cX.cutz (kb_X8_addPayment_17 hG hR hS hM  ok hx) trivial
def k_X8_addPayment (N g H T : Nat) (S : cS) (a0 : Nat) (x1 : Int64) : Int32 × cS := KF_X8_addPayment_0 N g H T a0 x1 S
def p_X8_addPayment (N g H T : Nat) (S : cS) (a0 : Nat) (x1 : Int64) : Prop := KO_X8_addPayment_0 N g H T a0 x1 S
set_option maxRecDepth 100000 in
set_option maxHeartbeats 4000000 in
theorem kc_X8_addPayment {G : zG} {o : cO} {u g H T N : Nat} {S : cS} (hG : zOK G) {a0 : Nat} {x1 : Int64} (hS : St u g H T S) (t_x0 : isO g H 6 a0) (ok : p_X8_addPayment N g H T S a0 x1) : cCi G o dX8_addPayment mX8_addPayment [.ref a0, .long x1] S (fun v S' => (v = (k_X8_addPayment N g H T S a0 x1).1 ∧ S' = (k_X8_addPayment N g H T S a0 x1).2) ∧ St u g H T S' ∧ Mono S S') := by
  refine cC.ofX rfl (by exact Nat.le_of_ble_eq_true rfl) ?_
  show cX G o dX8_addPayment mX8_addPayment 0 [some (va_rf (some a0)), some (.long x1), none] [] S _
  exact cX.cutz (kb_X8_addPayment_0 (X := fun F => F = k_X8_addPayment N g H T S a0 x1) hG (fun v S' h1 h2 h => ⟨v, rfl, ⟨by rw [← h], by rw [← h]⟩, h1, h2⟩) hS Mono.rfl' t_x0 ok rfl) ⟨rfl, rfl, trivial⟩
/-! X9_launch -/
def KF_X9_launch_87 (N g H T : Nat) (x3 : Option Nat) (S : cS) : cS := (csI S 3 (za x3) ((cI S 3 (za x3)) + (nI 1)))
def KO_X9_launch_87 (N g H T : Nat) (x3 : Option Nat) (S : cS) : Prop := (¬ x3 = none) ∧ True
set_option maxRecDepth 100000 in
set_option maxHeartbeats 4000000 in
theorem kb_X9_launch_87 {G : zG} {o : cO} {u g H T N : Nat} {S : cS} {S0 : cS} {Q : Option Value → cS → Prop} {X : cS → Prop} (hG : zOK G) (hR : ∀ S', St u g H T S' → Mono S0 S' → X S' → Q none S') {x3 : Option Nat} (hS : St u g H T S) (hM : Mono S0 S) (t_x3 : tK S 5 x3) (ok : KO_X9_launch_87 N g H T x3 S) (hx : X (KF_X9_launch_87 N g H T x3 S)) : cX G o dX9_launch mX9_launch 87 [none, none, none, some (va_rf x3), none] [] S Q := by
  unfold KO_X9_launch_87 at ok
  unfold KF_X9_launch_87 at hx
  refine c_aload_nQ dX9_launch_87 rfl rfl ?_
  refine c_dup dX9_launch_88 (zcat_rf _) ?_
  have nn_89 := ok.1
  refine c_getI (C := RX5) (T := TX5) (N := 7) (ci := 4) (k := 3) ⟨rfl, inT5, by decide, fX9_57⟩ (by decide) (by decide) (by decide) dX9_launch_89 (tK.cis t_x3 ok.1) ?_
  have ok := ok.2
  refine c_iconst (v := nI 1) dX9_launch_92 (by decide) ?_
  refine c_iadd dX9_launch_93 ?_
  refine c_putI (C := RX5) (T := TX5) (N := 7) (ci := 4) (k := 3) ⟨rfl, inT5, by decide, fX9_57⟩ ftT5 rfl (by decide) (by decide) (by decide) rfl rfl dX9_launch_94 (tK.cis t_x3 nn_89) ?_
  have hS := hS.I 3 (za x3) ((cI S 3 (za x3)) + (nI 1))
  have hM := hM.I 3 (za x3) ((cI S 3 (za x3)) + (nI 1))
  exact c_return rfl dX9_launch_97 (hR _ hS hM hx)
def KF_X9_launch_68 (N g H T : Nat) (x0 : Nat) (x3 : Option Nat) (x4 : Int32) (S : cS) : cS := (KF_X9_launch_87 N g H T x3 (csP (csA S (x0 + 5) x4.toNatClampNeg (cI S 10 x0)) (x0 + 6) x4.toNatClampNeg x3))
def KO_X9_launch_68 (N g H T : Nat) (x0 : Nat) (x3 : Option Nat) (x4 : Int32) (S : cS) : Prop := (vp_in x4 1000) ∧ (vp_in x4 1000) ∧ KO_X9_launch_87 N g H T x3 (csP (csA S (x0 + 5) x4.toNatClampNeg (cI S 10 x0)) (x0 + 6) x4.toNatClampNeg x3)
set_option maxRecDepth 100000 in
set_option maxHeartbeats 4000000 in
theorem kb_X9_launch_68 {G : zG} {o : cO} {u g H T N : Nat} {S : cS} {S0 : cS} {Q : Option Value → cS → Prop} {X : cS → Prop} (hG : zOK G) (hR : ∀ S', St u g H T S' → Mono S0 S' → X S' → Q none S') {x0 : Nat} {x3 : Option Nat} {x4 : Int32} (hS : St u g H T S) (hM : Mono S0 S) (t_x0 : isO g H 7 x0) (t_x3 : tK S 5 x3) (ok : KO_X9_launch_68 N g H T x0 x3 x4 S) (hx : X (KF_X9_launch_68 N g H T x0 x3 x4 S)) : cX G o dX9_launch mX9_launch 68 [some (va_rf (some x0)), none, none, some (va_rf x3), some (.int x4)] [] S Q := by
  unfold KO_X9_launch_68 at ok
  unfold KF_X9_launch_68 at hx
  refine c_aload_nQ dX9_launch_68 rfl rfl ?_
  refine c_getS (C := RX9) (T := TX9) (N := 13) (ci := 7) (k := 4) ⟨rfl, inT9, by decide, fX9_24⟩ (by decide) (by decide) (by decide) dX9_launch_69 (hS.k t_x0) (hS.r (c := 7) t_x0 rfl (by omega)) ?_
  refine c_iload dX9_launch_72 rfl ?_
  refine c_aload_nQ dX9_launch_74 rfl rfl ?_
  refine c_getI (C := RX9) (T := TX9) (N := 13) (ci := 7) (k := 10) ⟨rfl, inT9, by decide, fX9_44⟩ (by decide) (by decide) (by decide) dX9_launch_75 (hS.k t_x0) ?_
  have tq_78 : tK S 21 (some (x0 + 5)) := tK_some (tK.cis (hS.rk (c := 7) (k := 4) t_x0 rfl (by omega)) (Option.some_ne_none _)).2
  refine c_iast hG dX9_launch_78 ⟨(tK.cis (hS.rk (c := 7) (k := 4) t_x0 rfl (by omega)) (Option.some_ne_none _)), (vk_cast (hS.rl (c := 7) (k := 4) t_x0 rfl (by decide) (by omega)) ok.1)⟩ ?_
  have hS := hS.Aw (k := 21) (x0 + 5) x4.toNatClampNeg (cI S 10 x0) tq_78 (by decide)
  have hM := hM.A (x0 + 5) x4.toNatClampNeg (cI S 10 x0)
  have ok := ok.2
  refine c_aload_nQ dX9_launch_79 rfl rfl ?_
  refine c_getS (C := RX9) (T := TX9) (N := 13) (ci := 7) (k := 5) ⟨rfl, inT9, by decide, fX9_29⟩ (by decide) (by decide) (by decide) dX9_launch_80 (hS.k t_x0) (hS.r (c := 7) t_x0 rfl (by omega)) ?_
  refine c_iload dX9_launch_83 rfl ?_
  refine c_aload_nQ dX9_launch_85 rfl rfl ?_
  have hS2 := hS.P24 (i := x4.toNatClampNeg) ((hS.rk (c := 7) (k := 5) t_x0 rfl (by omega)) _ rfl) (tK_A t_x3)
  refine c_aast (t := 4) (ci := 4) (rr := (RX5, TX5, 7)) rfl rfl (by decide) (by decide) dX9_launch_86 ⟨(tK.cis (hS.rk (c := 7) (k := 5) t_x0 rfl (by omega)) (Option.some_ne_none _)), (vk_cast (hS.rl (c := 7) (k := 5) t_x0 rfl (by decide) (by omega)) ok.1), tKor (tK_A t_x3)⟩ ?_
  have hS := hS2
  have hM := hM.P (x0 + 6) x4.toNatClampNeg x3
  have ok := ok.2
  exact cX.cutz (kb_X9_launch_87 hG hR hS hM (tK_P (tK_A t_x3)) ok hx) ⟨rfl, trivial⟩
def KF_X9_launch_52 (N g H T : Nat) (x0 : Nat) (x1 : Int32) (x2 : Int32) (x3 : Option Nat) (x4 : Int32) (S : cS) : cS := (KF_X9_launch_68 N g H T x0 x3 x4 (csA (csA S (x0 + 3) x4.toNatClampNeg x1) (x0 + 4) x4.toNatClampNeg x2))
def KO_X9_launch_52 (N g H T : Nat) (x0 : Nat) (x1 : Int32) (x2 : Int32) (x3 : Option Nat) (x4 : Int32) (S : cS) : Prop := (vp_in x4 1000) ∧ (vp_in x4 1000) ∧ KO_X9_launch_68 N g H T x0 x3 x4 (csA (csA S (x0 + 3) x4.toNatClampNeg x1) (x0 + 4) x4.toNatClampNeg x2)
set_option maxRecDepth 100000 in
set_option maxHeartbeats 4000000 in
theorem kb_X9_launch_52 {G : zG} {o : cO} {u g H T N : Nat} {S : cS} {S0 : cS} {Q : Option Value → cS → Prop} {X : cS → Prop} (hG : zOK G) (hR : ∀ S', St u g H T S' → Mono S0 S' → X S' → Q none S') {x0 : Nat} {x1 : Int32} {x2 : Int32} {x3 : Option Nat} {x4 : Int32} (hS : St u g H T S) (hM : Mono S0 S) (t_x0 : isO g H 7 x0) (t_x3 : tK S 5 x3) (ok : KO_X9_launch_52 N g H T x0 x1 x2 x3 x4 S) (hx : X (KF_X9_launch_52 N g H T x0 x1 x2 x3 x4 S)) : cX G o dX9_launch mX9_launch 52 [some (va_rf (some x0)), some (.int x1), some (.int x2), some (va_rf x3), some (.int x4)] [] S Q := by
  unfold KO_X9_launch_52 at ok
  unfold KF_X9_launch_52 at hx
  refine c_aload_nQ dX9_launch_52 rfl rfl ?_
  refine c_getS (C := RX9) (T := TX9) (N := 13) (ci := 7) (k := 2) ⟨rfl, inT9, by decide, fX9_18⟩ (by decide) (by decide) (by decide) dX9_launch_53 (hS.k t_x0) (hS.r (c := 7) t_x0 rfl (by omega)) ?_
  refine c_iload dX9_launch_56 rfl ?_
  refine c_iload_n dX9_launch_58 rfl rfl ?_
  have tq_59 : tK S 21 (some (x0 + 3)) := tK_some (tK.cis (hS.rk (c := 7) (k := 2) t_x0 rfl (by omega)) (Option.some_ne_none _)).2
  refine c_iast hG dX9_launch_59 ⟨(tK.cis (hS.rk (c := 7) (k := 2) t_x0 rfl (by omega)) (Option.some_ne_none _)), (vk_cast (hS.rl (c := 7) (k := 2) t_x0 rfl (by decide) (by omega)) ok.1)⟩ ?_
  have hS := hS.Aw (k := 21) (x0 + 3) x4.toNatClampNeg x1 tq_59 (by decide)
  have hM := hM.A (x0 + 3) x4.toNatClampNeg x1
  have ok := ok.2
  refine c_aload_nQ dX9_launch_60 rfl rfl ?_
  refine c_getS (C := RX9) (T := TX9) (N := 13) (ci := 7) (k := 3) ⟨rfl, inT9, by decide, fX9_21⟩ (by decide) (by decide) (by decide) dX9_launch_61 (hS.k t_x0) (hS.r (c := 7) t_x0 rfl (by omega)) ?_
  refine c_iload dX9_launch_64 rfl ?_
  refine c_iload_n dX9_launch_66 rfl rfl ?_
  have tq_67 : tK (csA S (x0 + 3) x4.toNatClampNeg x1) 21 (some (x0 + 4)) := tK_some (tK.cis (hS.rk (c := 7) (k := 3) t_x0 rfl (by omega)) (Option.some_ne_none _)).2
  refine c_iast hG dX9_launch_67 ⟨(tK.cis (hS.rk (c := 7) (k := 3) t_x0 rfl (by omega)) (Option.some_ne_none _)), (vk_cast (hS.rl (c := 7) (k := 3) t_x0 rfl (by decide) (by omega)) ok.1)⟩ ?_
  have hS := hS.Aw (k := 21) (x0 + 4) x4.toNatClampNeg x2 tq_67 (by decide)
  have hM := hM.A (x0 + 4) x4.toNatClampNeg x2
  have ok := ok.2
  exact cX.cutz (kb_X9_launch_68 hG hR hS hM t_x0 (tK_A (tK_A t_x3)) ok hx) ⟨rfl, rfl, rfl, trivial⟩
def KF_X9_launch_0 (N g H T : Nat) (x0 : Nat) (x1 : Int32) (x2 : Int32) (x3 : Option Nat) (S : cS) : cS := (if (cI S 9 x0) < (nI 1000) then (KF_X9_launch_52 N g H T x0 x1 x2 x3 (cA S (x0 + 2) (cI S 9 x0).toNatClampNeg) (csI (csA S (x0 + 1) (((cI S 6 x0) + (cI S 9 x0)) &&& (nI 1023)).toNatClampNeg (cA S (x0 + 2) (cI S 9 x0).toNatClampNeg)) 9 x0 ((cI (csA S (x0 + 1) (((cI S 6 x0) + (cI S 9 x0)) &&& (nI 1023)).toNatClampNeg (cA S (x0 + 2) (cI S 9 x0).toNatClampNeg)) 9 x0) + (nI 1)))) else S)
def KO_X9_launch_0 (N g H T : Nat) (x0 : Nat) (x1 : Int32) (x2 : Int32) (x3 : Option Nat) (S : cS) : Prop := (((cI S 9 x0) < (nI 1000) → (vp_in (cI S 9 x0) 1000) ∧ (vp_in (((cI S 6 x0) + (cI S 9 x0)) &&& (nI 1023)) 1024) ∧ KO_X9_launch_52 N g H T x0 x1 x2 x3 (cA S (x0 + 2) (cI S 9 x0).toNatClampNeg) (csI (csA S (x0 + 1) (((cI S 6 x0) + (cI S 9 x0)) &&& (nI 1023)).toNatClampNeg (cA S (x0 + 2) (cI S 9 x0).toNatClampNeg)) 9 x0 ((cI (csA S (x0 + 1) (((cI S 6 x0) + (cI S 9 x0)) &&& (nI 1023)).toNatClampNeg (cA S (x0 + 2) (cI S 9 x0).toNatClampNeg)) 9 x0) + (nI 1)))) ∧ (¬ (cI S 9 x0) < (nI 1000) → True))
set_option maxRecDepth 100000 in
set_option maxHeartbeats 4000000 in
theorem kb_X9_launch_0 {G : zG} {o : cO} {u g H T N : Nat} {S : cS} {S0 : cS} {Q : Option Value → cS → Prop} {X : cS → Prop} (hG : zOK G) (hR : ∀ S', St u g H T S' → Mono S0 S' → X S' → Q none S') {x0 : Nat} {x1 : Int32} {x2 : Int32} {x3 : Option Nat} (hS : St u g H T S) (hM : Mono S0 S) (t_x0 : isO g H 7 x0) (t_x3 : tK S 5 x3) (ok : KO_X9_launch_0 N g H T x0 x1 x2 x3 S) (hx : X (KF_X9_launch_0 N g H T x0 x1 x2 x3 S)) : cX G o dX9_launch mX9_launch 0 [some (va_rf (some x0)), some (.int x1), some (.int x2), some (va_rf x3), none] [] S Q := by
  unfold KO_X9_launch_0 at ok
  unfold KF_X9_launch_0 at hx
  refine c_aload_nQ dX9_launch_0 rfl rfl ?_
  refine c_getI (C := RX9) (T := TX9) (N := 13) (ci := 7) (k := 9) ⟨rfl, inT9, by decide, fX9_33⟩ (by decide) (by decide) (by decide) dX9_launch_1 (hS.k t_x0) ?_
  refine c_sipush (v := nI 1000) dX9_launch_4 (by decide) ?_
  refine c_icmp_lt (tgt := 11) dX9_launch_7 (by decide) (fun c_7 => ?_) (fun c_7 => ?_)
  · have ok := ok.1 c_7
    have hx := xif_p c_7 hx
    refine c_aload_nQ dX9_launch_11 rfl rfl ?_
    refine c_getS (C := RX9) (T := TX9) (N := 13) (ci := 7) (k := 1) ⟨rfl, inT9, by decide, fX9_15⟩ (by decide) (by decide) (by decide) dX9_launch_12 (hS.k t_x0) (hS.r (c := 7) t_x0 rfl (by omega)) ?_
    refine c_aload_nQ dX9_launch_15 rfl rfl ?_
    refine c_getI (C := RX9) (T := TX9) (N := 13) (ci := 7) (k := 9) ⟨rfl, inT9, by decide, fX9_33⟩ (by decide) (by decide) (by decide) dX9_launch_16 (hS.k t_x0) ?_
    refine c_iald dX9_launch_19 ⟨(tK.cis (hS.rk (c := 7) (k := 1) t_x0 rfl (by omega)) (Option.some_ne_none _)), (vk_cast (hS.rl (c := 7) (k := 1) t_x0 rfl (by decide) (by omega)) ok.1)⟩ ?_
    have ok := ok.2
    refine c_istore_4 dX9_launch_20 (by decide) (by simp [zok, zg, zcat_rf]) ?_
    refine c_aload_nQ dX9_launch_22 rfl rfl ?_
    refine c_getS (C := RX9) (T := TX9) (N := 13) (ci := 7) (k := 0) ⟨rfl, inT9, by decide, fX9_11⟩ (by decide) (by decide) (by decide) dX9_launch_23 (hS.k t_x0) (hS.r (c := 7) t_x0 rfl (by omega)) ?_
    refine c_aload_nQ dX9_launch_26 rfl rfl ?_
    refine c_getI (C := RX9) (T := TX9) (N := 13) (ci := 7) (k := 6) ⟨rfl, inT9, by decide, fX9_37⟩ (by decide) (by decide) (by decide) dX9_launch_27 (hS.k t_x0) ?_
    refine c_aload_nQ dX9_launch_30 rfl rfl ?_
    refine c_getI (C := RX9) (T := TX9) (N := 13) (ci := 7) (k := 9) ⟨rfl, inT9, by decide, fX9_33⟩ (by decide) (by decide) (by decide) dX9_launch_31 (hS.k t_x0) ?_
    refine c_iadd dX9_launch_34 ?_
    refine c_sipush (v := nI 1023) dX9_launch_35 (by decide) ?_
    refine c_iand dX9_launch_38 ?_
    refine c_iload dX9_launch_39 rfl ?_
    have tq_41 : tK S 21 (some (x0 + 1)) := tK_some (tK.cis (hS.rk (c := 7) (k := 0) t_x0 rfl (by omega)) (Option.some_ne_none _)).2
    refine c_iast hG dX9_launch_41 ⟨(tK.cis (hS.rk (c := 7) (k := 0) t_x0 rfl (by omega)) (Option.some_ne_none _)), (vk_cast (hS.rl (c := 7) (k := 0) t_x0 rfl (by decide) (by omega)) ok.1)⟩ ?_
    have hS := hS.Aw (k := 21) (x0 + 1) (((cI S 6 x0) + (cI S 9 x0)) &&& (nI 1023)).toNatClampNeg (cA S (x0 + 2) (cI S 9 x0).toNatClampNeg) tq_41 (by decide)
    have hM := hM.A (x0 + 1) (((cI S 6 x0) + (cI S 9 x0)) &&& (nI 1023)).toNatClampNeg (cA S (x0 + 2) (cI S 9 x0).toNatClampNeg)
    have ok := ok.2
    refine c_aload_nQ dX9_launch_42 rfl rfl ?_
    refine c_dup dX9_launch_43 (zcat_rf _) ?_
    refine c_getI (C := RX9) (T := TX9) (N := 13) (ci := 7) (k := 9) ⟨rfl, inT9, by decide, fX9_33⟩ (by decide) (by decide) (by decide) dX9_launch_44 (hS.k t_x0) ?_
    refine c_iconst (v := nI 1) dX9_launch_47 (by decide) ?_
    refine c_iadd dX9_launch_48 ?_
    refine c_putI (C := RX9) (T := TX9) (N := 13) (ci := 7) (k := 9) ⟨rfl, inT9, by decide, fX9_33⟩ ftT9 rfl (by decide) (by decide) (by decide) rfl rfl dX9_launch_49 (hS.k t_x0) ?_
    have hS := hS.I 9 x0 ((cI (csA S (x0 + 1) (((cI S 6 x0) + (cI S 9 x0)) &&& (nI 1023)).toNatClampNeg (cA S (x0 + 2) (cI S 9 x0).toNatClampNeg)) 9 x0) + (nI 1))
    have hM := hM.I 9 x0 ((cI (csA S (x0 + 1) (((cI S 6 x0) + (cI S 9 x0)) &&& (nI 1023)).toNatClampNeg (cA S (x0 + 2) (cI S 9 x0).toNatClampNeg)) 9 x0) + (nI 1))
    exact cX.cutz (kb_X9_launch_52 hG hR hS hM t_x0 (tK_I (tK_A t_x3)) ok hx) ⟨rfl, rfl, rfl, rfl, rfl, trivial⟩
  · have ok := ok.2 c_7
    have hx := xif_n c_7 hx
    exact c_return rfl dX9_launch_10 (hR _ hS hM hx)
def k_X9_launch (N g H T : Nat) (S : cS) (a0 : Nat) (x1 : Int32) (x2 : Int32) (x3 : Option Nat) : cS := KF_X9_launch_0 N g H T a0 x1 x2 x3 S
def p_X9_launch (N g H T : Nat) (S : cS) (a0 : Nat) (x1 : Int32) (x2 : Int32) (x3 : Option Nat) : Prop := KO_X9_launch_0 N g H T a0 x1 x2 x3 S
set_option maxRecDepth 100000 in
set_option maxHeartbeats 4000000 in
theorem kc_X9_launch {G : zG} {o : cO} {u g H T N : Nat} {S : cS} (hG : zOK G) {a0 : Nat} {x1 : Int32} {x2 : Int32} {x3 : Option Nat} (hS : St u g H T S) (t_x0 : isO g H 7 a0) (t_x3 : tK S 5 x3) (ok : p_X9_launch N g H T S a0 x1 x2 x3) : cCv G o dX9_launch mX9_launch [.ref a0, .int x1, .int x2, va_rf x3] S (fun S' => S' = k_X9_launch N g H T S a0 x1 x2 x3 ∧ St u g H T S' ∧ Mono S S') := by
  refine cC.ofX rfl (by cases x3 <;> exact Nat.le_of_ble_eq_true rfl) ?_
  rw [show zargs mX9_launch.2.2.1 [.ref a0, .int x1, .int x2, va_rf x3] = [some (va_rf (some a0)), some (.int x1), some (.int x2), some (va_rf x3), none] from by cases x3 <;> rfl]
  exact cX.cutz (kb_X9_launch_0 (X := fun F => F = k_X9_launch N g H T S a0 x1 x2 x3) hG (fun S' h1 h2 h => ⟨rfl, h, h1, h2⟩) hS Mono.rfl' t_x0 t_x3 ok rfl) ⟨rfl, rfl, rfl, rfl, trivial⟩
/-! X9_post -/
def KF_X9_post_40 (N g H T : Nat)  (S : cS) : cS := S
def KO_X9_post_40 (N g H T : Nat)  (S : cS) : Prop := True
set_option maxRecDepth 100000 in
set_option maxHeartbeats 4000000 in
theorem kb_X9_post_40 {G : zG} {o : cO} {u g H T N : Nat} {S : cS} {S0 : cS} {Q : Option Value → cS → Prop} {X : cS → Prop} (hG : zOK G) (hR : ∀ S', St u g H T S' → Mono S0 S' → X S' → Q none S') (hS : St u g H T S) (hM : Mono S0 S) (ok : KO_X9_post_40 N g H T S) (hx : X (KF_X9_post_40 N g H T S)) : cX G o dX9_post mX9_post 40 [none, none, none, none] [] S Q := by
  unfold KO_X9_post_40 at ok
  unfold KF_X9_post_40 at hx
  exact c_return rfl dX9_post_40 (hR _ hS hM hx)
def KF_X9_post_27 (N g H T : Nat)  (S : cS) : cS := (KF_X9_post_40 N g H T S)
def KO_X9_post_27 (N g H T : Nat)  (S : cS) : Prop := KO_X9_post_40 N g H T S
set_option maxRecDepth 100000 in
set_option maxHeartbeats 4000000 in
theorem kb_X9_post_27 {G : zG} {o : cO} {u g H T N : Nat} {S : cS} {S0 : cS} {Q : Option Value → cS → Prop} {X : cS → Prop} (hG : zOK G) (hR : ∀ S', St u g H T S' → Mono S0 S' → X S' → Q none S') (hS : St u g H T S) (hM : Mono S0 S) (ok : KO_X9_post_27 N g H T S) (hx : X (KF_X9_post_27 N g H T S)) : cX G o dX9_post mX9_post 27 [none, none, none, none] [] S Q := by
  unfold KO_X9_post_27 at ok
  unfold KF_X9_post_27 at hx
  refine c_goto (tgt := 40) dX9_post_27 (by decide) ?_
  exact cX.cutz (kb_X9_post_40 hG hR hS hM  ok hx) trivial
def KF_X9_post_0 (N g H T : Nat) (x0 : Nat) (x1 : Int32) (x2 : Int32) (x3 : Option Nat) (S : cS) : cS := (if (nI 1000) ≤ (cI (csI S 11 x0 ((cI S 11 x0) + (nI 1))) 9 x0) then (KF_X9_post_40 N g H T (csI (csI S 11 x0 ((cI S 11 x0) + (nI 1))) 12 x0 ((cI (csI S 11 x0 ((cI S 11 x0) + (nI 1))) 12 x0) + (nI 1)))) else (KF_X9_post_27 N g H T (k_X9_launch N g H T (csI S 11 x0 ((cI S 11 x0) + (nI 1))) x0 x1 x2 x3)))
def KO_X9_post_0 (N g H T : Nat) (x0 : Nat) (x1 : Int32) (x2 : Int32) (x3 : Option Nat) (S : cS) : Prop := (((nI 1000) ≤ (cI (csI S 11 x0 ((cI S 11 x0) + (nI 1))) 9 x0) → KO_X9_post_40 N g H T (csI (csI S 11 x0 ((cI S 11 x0) + (nI 1))) 12 x0 ((cI (csI S 11 x0 ((cI S 11 x0) + (nI 1))) 12 x0) + (nI 1)))) ∧ (¬ (nI 1000) ≤ (cI (csI S 11 x0 ((cI S 11 x0) + (nI 1))) 9 x0) → (p_X9_launch N g H T (csI S 11 x0 ((cI S 11 x0) + (nI 1))) x0 x1 x2 x3) ∧ KO_X9_post_27 N g H T (k_X9_launch N g H T (csI S 11 x0 ((cI S 11 x0) + (nI 1))) x0 x1 x2 x3)))
set_option maxRecDepth 100000 in
set_option maxHeartbeats 4000000 in
theorem kb_X9_post_0 {G : zG} {o : cO} {u g H T N : Nat} {S : cS} {S0 : cS} {Q : Option Value → cS → Prop} {X : cS → Prop} (hG : zOK G) (hR : ∀ S', St u g H T S' → Mono S0 S' → X S' → Q none S') {x0 : Nat} {x1 : Int32} {x2 : Int32} {x3 : Option Nat} (hS : St u g H T S) (hM : Mono S0 S) (t_x0 : isO g H 7 x0) (t_x3 : tK S 5 x3) (ok : KO_X9_post_0 N g H T x0 x1 x2 x3 S) (hx : X (KF_X9_post_0 N g H T x0 x1 x2 x3 S)) : cX G o dX9_post mX9_post 0 [some (va_rf (some x0)), some (.int x1), some (.int x2), some (va_rf x3)] [] S Q := by
  unfold KO_X9_post_0 at ok
  unfold KF_X9_post_0 at hx
  refine c_aload_nQ dX9_post_0 rfl rfl ?_
  refine c_dup dX9_post_1 (zcat_rf _) ?_
  refine c_getI (C := RX9) (T := TX9) (N := 13) (ci := 7) (k := 11) ⟨rfl, inT9, by decide, fX9_47⟩ (by decide) (by decide) (by decide) dX9_post_2 (hS.k t_x0) ?_
  refine c_iconst (v := nI 1) dX9_post_5 (by decide) ?_
  refine c_iadd dX9_post_6 ?_
  refine c_putI (C := RX9) (T := TX9) (N := 13) (ci := 7) (k := 11) ⟨rfl, inT9, by decide, fX9_47⟩ ftT9 rfl (by decide) (by decide) (by decide) rfl rfl dX9_post_7 (hS.k t_x0) ?_
  have hS := hS.I 11 x0 ((cI S 11 x0) + (nI 1))
  have hM := hM.I 11 x0 ((cI S 11 x0) + (nI 1))
  refine c_aload_nQ dX9_post_10 rfl rfl ?_
  refine c_getI (C := RX9) (T := TX9) (N := 13) (ci := 7) (k := 9) ⟨rfl, inT9, by decide, fX9_33⟩ (by decide) (by decide) (by decide) dX9_post_11 (hS.k t_x0) ?_
  refine c_sipush (v := nI 1000) dX9_post_14 (by decide) ?_
  refine c_icmp_ge (tgt := 30) dX9_post_17 (by decide) (fun c_17 => ?_) (fun c_17 => ?_)
  · have ok := ok.1 c_17
    have hx := xif_p c_17 hx
    refine c_aload_nQ dX9_post_30 rfl rfl ?_
    refine c_dup dX9_post_31 (zcat_rf _) ?_
    refine c_getI (C := RX9) (T := TX9) (N := 13) (ci := 7) (k := 12) ⟨rfl, inT9, by decide, fX9_54⟩ (by decide) (by decide) (by decide) dX9_post_32 (hS.k t_x0) ?_
    refine c_iconst (v := nI 1) dX9_post_35 (by decide) ?_
    refine c_iadd dX9_post_36 ?_
    refine c_putI (C := RX9) (T := TX9) (N := 13) (ci := 7) (k := 12) ⟨rfl, inT9, by decide, fX9_54⟩ ftT9 rfl (by decide) (by decide) (by decide) rfl rfl dX9_post_37 (hS.k t_x0) ?_
    have hS := hS.I 12 x0 ((cI (csI S 11 x0 ((cI S 11 x0) + (nI 1))) 12 x0) + (nI 1))
    have hM := hM.I 12 x0 ((cI (csI S 11 x0 ((cI S 11 x0) + (nI 1))) 12 x0) + (nI 1))
    exact cX.cutz (kb_X9_post_40 hG hR hS hM  ok hx) trivial
  · have ok := ok.2 c_17
    have hx := xif_n c_17 hx
    refine c_aload_nQ dX9_post_20 rfl rfl ?_
    refine c_iload_n dX9_post_21 rfl rfl ?_
    refine c_iload_n dX9_post_22 rfl rfl ?_
    refine c_aload_nQ dX9_post_23 rfl rfl ?_
    refine c_V3vK (ci := 7) (rr := (RX9, TX9, 13)) (y' := mX9_launch) dX9_post_24 lX9_50 kX9_launch ⟨by decide, by decide⟩ rfl rfl (by decide) (hS.k t_x0) (Nat.le_of_ble_eq_true rfl) (kc_X9_launch hG hS t_x0 (tK_I t_x3) ok.1) (fun ⟨hS, hm_24⟩ => ?_)
    have hM := hM.trans hm_24
    have ok := ok.2
    exact cX.cutz (kb_X9_post_27 hG hR hS hM  ok hx) trivial
def k_X9_post (N g H T : Nat) (S : cS) (a0 : Nat) (x1 : Int32) (x2 : Int32) (x3 : Option Nat) : cS := KF_X9_post_0 N g H T a0 x1 x2 x3 S
def p_X9_post (N g H T : Nat) (S : cS) (a0 : Nat) (x1 : Int32) (x2 : Int32) (x3 : Option Nat) : Prop := KO_X9_post_0 N g H T a0 x1 x2 x3 S
set_option maxRecDepth 100000 in
set_option maxHeartbeats 4000000 in
theorem kc_X9_post {G : zG} {o : cO} {u g H T N : Nat} {S : cS} (hG : zOK G) {a0 : Nat} {x1 : Int32} {x2 : Int32} {x3 : Option Nat} (hS : St u g H T S) (t_x0 : isO g H 7 a0) (t_x3 : tK S 5 x3) (ok : p_X9_post N g H T S a0 x1 x2 x3) : cCv G o dX9_post mX9_post [.ref a0, .int x1, .int x2, va_rf x3] S (fun S' => S' = k_X9_post N g H T S a0 x1 x2 x3 ∧ St u g H T S' ∧ Mono S S') := by
  refine cC.ofX rfl (by cases x3 <;> exact Nat.le_of_ble_eq_true rfl) ?_
  rw [show zargs mX9_post.2.2.1 [.ref a0, .int x1, .int x2, va_rf x3] = [some (va_rf (some a0)), some (.int x1), some (.int x2), some (va_rf x3)] from by cases x3 <;> rfl]
  exact cX.cutz (kb_X9_post_0 (X := fun F => F = k_X9_post N g H T S a0 x1 x2 x3) hG (fun S' h1 h2 h => ⟨rfl, h, h1, h2⟩) hS Mono.rfl' t_x0 t_x3 ok rfl) ⟨rfl, rfl, rfl, rfl, trivial⟩
/-! X10_spread -/
def KF_X10_spread_48 (N g H T : Nat)  (S : cS) : cS := S
def KO_X10_spread_48 (N g H T : Nat)  (S : cS) : Prop := True
set_option maxRecDepth 100000 in
set_option maxHeartbeats 4000000 in
theorem kb_X10_spread_48 {G : zG} {o : cO} {u g H T N : Nat} {S : cS} {S0 : cS} {Q : Option Value → cS → Prop} {X : cS → Prop} (hG : zOK G) (hR : ∀ S', St u g H T S' → Mono S0 S' → X S' → Q none S') (hS : St u g H T S) (hM : Mono S0 S) (ok : KO_X10_spread_48 N g H T S) (hx : X (KF_X10_spread_48 N g H T S)) : cX G o dX10_spread mX10_spread 48 [none, none, none, none, none, none] [] S Q := by
  unfold KO_X10_spread_48 at ok
  unfold KF_X10_spread_48 at hx
  exact c_return rfl dX10_spread_48 (hR _ hS hM hx)
def KF_X10_spread_42 (N g H T : Nat) (rec : Nat → Int32 → Option Nat → Int32 → Int32 → Int32 → cS → Nat × cS) (x0 : Nat) (x1 : Int32) (x2 : Option Nat) (x3 : Int32) (x4 : Int32) (x5 : Int32) (S : cS) : Nat × cS := (rec x0 x1 x2 x3 x4 (x5 + nI 1) S)
def KO_X10_spread_42 (N g H T : Nat) (rok : Nat → Int32 → Option Nat → Int32 → Int32 → Int32 → cS → Prop) (x0 : Nat) (x1 : Int32) (x2 : Option Nat) (x3 : Int32) (x4 : Int32) (x5 : Int32) (S : cS) : Prop := rok x0 x1 x2 x3 x4 (x5 + nI 1) S
set_option maxRecDepth 100000 in
set_option maxHeartbeats 4000000 in
theorem kb_X10_spread_42 {G : zG} {o : cO} {u g H T N : Nat} {S : cS} {S0 : cS} {Q : Option Value → cS → Prop} {X : Nat × cS → Prop} (hG : zOK G) (hX0 : ∀ (S' : cS), St u g H T S' → Mono S0 S' → X (0, S') → cX G o dX10_spread mX10_spread 48 [none, none, none, none, none, none] [] S' Q) {rec : Nat → Int32 → Option Nat → Int32 → Int32 → Int32 → cS → Nat × cS} {rok : Nat → Int32 → Option Nat → Int32 → Int32 → Int32 → cS → Prop} (hrec : ∀ (x0 : Nat) (x1 : Int32) (x2 : Option Nat) (x3 : Int32) (x4 : Int32) (x5 : Int32) (S : cS), St u g H T S → Mono S0 S → isO g H 8 x0 → tK S 5 x2 → rok x0 x1 x2 x3 x4 x5 S → X (rec x0 x1 x2 x3 x4 x5 S) → cX G o dX10_spread mX10_spread 3 [some (va_rf (some x0)), some (.int x1), some (va_rf x2), some (.int x3), some (.int x4), some (.int x5)] [] S Q) {x0 : Nat} {x1 : Int32} {x2 : Option Nat} {x3 : Int32} {x4 : Int32} {x5 : Int32} (hS : St u g H T S) (hM : Mono S0 S) (t_x0 : isO g H 8 x0) (t_x2 : tK S 5 x2) (ok : KO_X10_spread_42 N g H T rok x0 x1 x2 x3 x4 x5 S) (hx : X (KF_X10_spread_42 N g H T rec x0 x1 x2 x3 x4 x5 S)) : cX G o dX10_spread mX10_spread 42 [some (va_rf (some x0)), some (.int x1), some (va_rf x2), some (.int x3), some (.int x4), some (.int x5)] [] S Q := by
  unfold KO_X10_spread_42 at ok
  unfold KF_X10_spread_42 at hx
  refine c_iinc_5 (v := (x5 + nI 1)) dX10_spread_42 rfl (by first | rfl | (congr 1)) (by decide) rfl ?_
  refine c_goto (tgt := 3) dX10_spread_45 (by decide) ?_
  exact cX.cutz (hrec _ _ _ _ _ _ S hS hM t_x0 t_x2 ok hx) ⟨rfl, rfl, rfl, rfl, rfl, rfl, trivial⟩
def KB_X10_spread_3 (N g H T : Nat) (rec : Nat → Int32 → Option Nat → Int32 → Int32 → Int32 → cS → Nat × cS) (x0 : Nat) (x1 : Int32) (x2 : Option Nat) (x3 : Int32) (x4 : Int32) (x5 : Int32) (S : cS) : Nat × cS := (if (cI S 1 x0) ≤ x5 then (0, S) else (if x5 = x1 then (KF_X10_spread_42 N g H T rec x0 x1 x2 x3 x4 x5 S) else (if x5 = x3 then (KF_X10_spread_42 N g H T rec x0 x1 x2 x3 x4 x5 S) else (if x5 = x4 then (KF_X10_spread_42 N g H T rec x0 x1 x2 x3 x4 x5 S) else (KF_X10_spread_42 N g H T rec x0 x1 x2 x3 x4 x5 (k_X9_post N g H T S (g + 11) x1 x5 x2))))))
def KOB_X10_spread_3 (N g H T : Nat) (rok : Nat → Int32 → Option Nat → Int32 → Int32 → Int32 → cS → Prop) (x0 : Nat) (x1 : Int32) (x2 : Option Nat) (x3 : Int32) (x4 : Int32) (x5 : Int32) (S : cS) : Prop := (((cI S 1 x0) ≤ x5 → True) ∧ (¬ (cI S 1 x0) ≤ x5 → ((x5 = x1 → KO_X10_spread_42 N g H T rok x0 x1 x2 x3 x4 x5 S) ∧ (¬ x5 = x1 → ((x5 = x3 → KO_X10_spread_42 N g H T rok x0 x1 x2 x3 x4 x5 S) ∧ (¬ x5 = x3 → ((x5 = x4 → KO_X10_spread_42 N g H T rok x0 x1 x2 x3 x4 x5 S) ∧ (¬ x5 = x4 → (p_X9_post N g H T S (g + 11) x1 x5 x2) ∧ KO_X10_spread_42 N g H T rok x0 x1 x2 x3 x4 x5 (k_X9_post N g H T S (g + 11) x1 x5 x2)))))))))
set_option maxRecDepth 100000 in
set_option maxHeartbeats 4000000 in
theorem kbb_X10_spread_3 {G : zG} {o : cO} {u g H T N : Nat} {S : cS} {S0 : cS} {Q : Option Value → cS → Prop} {X : Nat × cS → Prop} (hG : zOK G) (hX0 : ∀ (S' : cS), St u g H T S' → Mono S0 S' → X (0, S') → cX G o dX10_spread mX10_spread 48 [none, none, none, none, none, none] [] S' Q) {rec : Nat → Int32 → Option Nat → Int32 → Int32 → Int32 → cS → Nat × cS} {rok : Nat → Int32 → Option Nat → Int32 → Int32 → Int32 → cS → Prop} (hrec : ∀ (x0 : Nat) (x1 : Int32) (x2 : Option Nat) (x3 : Int32) (x4 : Int32) (x5 : Int32) (S : cS), St u g H T S → Mono S0 S → isO g H 8 x0 → tK S 5 x2 → rok x0 x1 x2 x3 x4 x5 S → X (rec x0 x1 x2 x3 x4 x5 S) → cX G o dX10_spread mX10_spread 3 [some (va_rf (some x0)), some (.int x1), some (va_rf x2), some (.int x3), some (.int x4), some (.int x5)] [] S Q) {x0 : Nat} {x1 : Int32} {x2 : Option Nat} {x3 : Int32} {x4 : Int32} {x5 : Int32} (hS : St u g H T S) (hM : Mono S0 S) (t_x0 : isO g H 8 x0) (t_x2 : tK S 5 x2) (ok : KOB_X10_spread_3 N g H T rok x0 x1 x2 x3 x4 x5 S) (hx : X (KB_X10_spread_3 N g H T rec x0 x1 x2 x3 x4 x5 S)) : cX G o dX10_spread mX10_spread 3 [some (va_rf (some x0)), some (.int x1), some (va_rf x2), some (.int x3), some (.int x4), some (.int x5)] [] S Q := by
  unfold KOB_X10_spread_3 at ok
  unfold KB_X10_spread_3 at hx
  refine c_iload dX10_spread_3 rfl ?_
  refine c_aload_nQ dX10_spread_5 rfl rfl ?_
  refine c_getI (C := RX10) (T := TX10) (N := 12) (ci := 8) (k := 1) ⟨rfl, inT10, by decide, fX10_47⟩ (by decide) (by decide) (by decide) dX10_spread_6 (hS.k t_x0) ?_
  refine c_icmp_ge (tgt := 48) dX10_spread_9 (by decide) (fun c_9 => ?_) (fun c_9 => ?_)
  · have ok := ok.1 c_9
    have hx := xif_p c_9 hx
    exact cX.cutz (hX0 S hS hM  hx) trivial
  · have ok := ok.2 c_9
    have hx := xif_n c_9 hx
    refine c_iload dX10_spread_12 rfl ?_
    refine c_iload_n dX10_spread_14 rfl rfl ?_
    refine c_icmp_eq (tgt := 42) dX10_spread_15 (by decide) (fun c_15 => ?_) (fun c_15 => ?_)
    · have ok := ok.1 c_15
      have hx := xif_p c_15 hx
      exact cX.cutz (kb_X10_spread_42 hG hX0 hrec hS hM t_x0 t_x2 ok hx) ⟨rfl, rfl, rfl, rfl, rfl, rfl, trivial⟩
    · have ok := ok.2 c_15
      have hx := xif_n c_15 hx
      refine c_iload dX10_spread_18 rfl ?_
      refine c_iload_n dX10_spread_20 rfl rfl ?_
      refine c_icmp_eq (tgt := 42) dX10_spread_21 (by decide) (fun c_21 => ?_) (fun c_21 => ?_)
      · have ok := ok.1 c_21
        have hx := xif_p c_21 hx
        exact cX.cutz (kb_X10_spread_42 hG hX0 hrec hS hM t_x0 t_x2 ok hx) ⟨rfl, rfl, rfl, rfl, rfl, rfl, trivial⟩
      · have ok := ok.2 c_21
        have hx := xif_n c_21 hx
        refine c_iload dX10_spread_24 rfl ?_
        refine c_iload dX10_spread_26 rfl ?_
        refine c_icmp_eq (tgt := 42) dX10_spread_28 (by decide) (fun c_28 => ?_) (fun c_28 => ?_)
        · have ok := ok.1 c_28
          have hx := xif_p c_28 hx
          exact cX.cutz (kb_X10_spread_42 hG hX0 hrec hS hM t_x0 t_x2 ok hx) ⟨rfl, rfl, rfl, rfl, rfl, rfl, trivial⟩
        · have ok := ok.2 c_28
          have hx := xif_n c_28 hx
          refine c_aload_nQ dX10_spread_31 rfl rfl ?_
          refine c_getS (C := RX10) (T := TX10) (N := 12) (ci := 8) (k := 6) ⟨rfl, inT10, by decide, fX10_12⟩ (by decide) (by decide) (by decide) dX10_spread_32 (hS.k t_x0) (hS.r (c := 8) t_x0 rfl (by omega)) ?_
          refine c_iload_n dX10_spread_35 rfl rfl ?_
          refine c_iload dX10_spread_36 rfl ?_
          refine c_aload_nQ dX10_spread_38 rfl rfl ?_
          refine c_V3vK (ci := 7) (rr := (RX9, TX9, 13)) (y' := mX9_post) dX10_spread_39 lX10_91 kX9_post ⟨by decide, by decide⟩ rfl rfl (by decide) (hS.k (o86 t_x0)) (Nat.le_of_ble_eq_true rfl) (kc_X9_post hG hS (o86 t_x0) t_x2 ok.1) (fun ⟨hS, hm_39⟩ => ?_)
          have hM := hM.trans hm_39
          have ok := ok.2
          exact cX.cutz (kb_X10_spread_42 hG hX0 hrec hS hM t_x0 (hm_39.tK t_x2 (by decide)) ok hx) ⟨rfl, rfl, rfl, rfl, rfl, rfl, trivial⟩
def KL_X10_spread_3 (N g H T : Nat) : Nat → Nat → Int32 → Option Nat → Int32 → Int32 → Int32 → cS → Nat × cS
  | 0, x0, x1, x2, x3, x4, x5, S => (0, S)
  | n + 1, x0, x1, x2, x3, x4, x5, S => KB_X10_spread_3 N g H T (KL_X10_spread_3 N g H T n) x0 x1 x2 x3 x4 x5 S
def KOL_X10_spread_3 (N g H T : Nat) : Nat → Nat → Int32 → Option Nat → Int32 → Int32 → Int32 → cS → Prop
  | 0, _, _, _, _, _, _, _ => False
  | n + 1, x0, x1, x2, x3, x4, x5, S => KOB_X10_spread_3 N g H T (KOL_X10_spread_3 N g H T n) x0 x1 x2 x3 x4 x5 S
set_option maxRecDepth 100000 in
set_option maxHeartbeats 4000000 in
theorem kl_X10_spread_3 {G : zG} {o : cO} {u g H T N : Nat} {S0 : cS} {Q : Option Value → cS → Prop} {X : Nat × cS → Prop} (hG : zOK G) (hX0 : ∀ (S' : cS), St u g H T S' → Mono S0 S' → X (0, S') → cX G o dX10_spread mX10_spread 48 [none, none, none, none, none, none] [] S' Q) : ∀ (n : Nat) (x0 : Nat) (x1 : Int32) (x2 : Option Nat) (x3 : Int32) (x4 : Int32) (x5 : Int32) (S : cS), St u g H T S → Mono S0 S → isO g H 8 x0 → tK S 5 x2 → KOL_X10_spread_3 N g H T n x0 x1 x2 x3 x4 x5 S → X (KL_X10_spread_3 N g H T n x0 x1 x2 x3 x4 x5 S) → cX G o dX10_spread mX10_spread 3 [some (va_rf (some x0)), some (.int x1), some (va_rf x2), some (.int x3), some (.int x4), some (.int x5)] [] S Q := by
  intro n
  induction n with
  | zero => intro x0 x1 x2 x3 x4 x5 S hS hM t_x0 t_x2 ok; exact absurd ok id
  | succ n ih =>
    intro x0 x1 x2 x3 x4 x5 S hS hM t_x0 t_x2 ok hx
    exact kbb_X10_spread_3 hG hX0 (rec := KL_X10_spread_3 N g H T n) (rok := KOL_X10_spread_3 N g H T n) (fun x0 x1 x2 x3 x4 x5 S hS hM t_x0 t_x2 ok hx => ih x0 x1 x2 x3 x4 x5 S hS hM t_x0 t_x2 ok hx) hS hM t_x0 t_x2 ok hx
def KA_X10_spread_3 (N g H T : Nat) (x0 : Nat) (x1 : Int32) (x2 : Option Nat) (x3 : Int32) (x4 : Int32) (x5 : Int32) (S : cS) (z : Nat × cS) : cS := (KF_X10_spread_48 N g H T z.2)
def KOA_X10_spread_3 (N g H T : Nat) (x0 : Nat) (x1 : Int32) (x2 : Option Nat) (x3 : Int32) (x4 : Int32) (x5 : Int32) (S : cS) (z : Nat × cS) : Prop := KO_X10_spread_48 N g H T z.2
set_option maxRecDepth 100000 in
set_option maxHeartbeats 4000000 in
theorem kd_X10_spread_3 {G : zG} {o : cO} {u g H T N : Nat} {S : cS} {S0 : cS} {Q : Option Value → cS → Prop} {X : cS → Prop} (hG : zOK G) (hR : ∀ S', St u g H T S' → Mono S0 S' → X S' → Q none S') {x0 : Nat} {x1 : Int32} {x2 : Option Nat} {x3 : Int32} {x4 : Int32} {x5 : Int32} (hS : St u g H T S) (hM : Mono S0 S) (t_x0 : isO g H 8 x0) (t_x2 : tK S 5 x2) (ok : KOL_X10_spread_3 N g H T N x0 x1 x2 x3 x4 x5 S ∧ KOA_X10_spread_3 N g H T x0 x1 x2 x3 x4 x5 S (KL_X10_spread_3 N g H T N x0 x1 x2 x3 x4 x5 S)) (hx : X (KA_X10_spread_3 N g H T x0 x1 x2 x3 x4 x5 S (KL_X10_spread_3 N g H T N x0 x1 x2 x3 x4 x5 S))) : cX G o dX10_spread mX10_spread 3 [some (va_rf (some x0)), some (.int x1), some (va_rf x2), some (.int x3), some (.int x4), some (.int x5)] [] S Q := by
  refine kl_X10_spread_3 hG ?_ N x0 x1 x2 x3 x4 x5 S hS hM t_x0 t_x2 ok.1 (X := fun z => KOA_X10_spread_3 N g H T x0 x1 x2 x3 x4 x5 S z ∧ X (KA_X10_spread_3 N g H T x0 x1 x2 x3 x4 x5 S z)) ⟨ok.2, hx⟩
  · intro S' hS hM hz
    obtain ⟨ok, hx⟩ := hz
    unfold KOA_X10_spread_3 at ok
    unfold KA_X10_spread_3 at hx
    exact cX.cutz (kb_X10_spread_48 hG hR hS hM  ok hx) trivial
def KF_X10_spread_0 (N g H T : Nat) (x0 : Nat) (x1 : Int32) (x2 : Option Nat) (x3 : Int32) (x4 : Int32) (S : cS) : cS := (KA_X10_spread_3 N g H T x0 x1 x2 x3 x4 (nI 0) S (KL_X10_spread_3 N g H T N x0 x1 x2 x3 x4 (nI 0) S))
def KO_X10_spread_0 (N g H T : Nat) (x0 : Nat) (x1 : Int32) (x2 : Option Nat) (x3 : Int32) (x4 : Int32) (S : cS) : Prop := (KOL_X10_spread_3 N g H T N x0 x1 x2 x3 x4 (nI 0) S ∧ KOA_X10_spread_3 N g H T x0 x1 x2 x3 x4 (nI 0) S (KL_X10_spread_3 N g H T N x0 x1 x2 x3 x4 (nI 0) S))
set_option maxRecDepth 100000 in
set_option maxHeartbeats 4000000 in
theorem kb_X10_spread_0 {G : zG} {o : cO} {u g H T N : Nat} {S : cS} {S0 : cS} {Q : Option Value → cS → Prop} {X : cS → Prop} (hG : zOK G) (hR : ∀ S', St u g H T S' → Mono S0 S' → X S' → Q none S') {x0 : Nat} {x1 : Int32} {x2 : Option Nat} {x3 : Int32} {x4 : Int32} (hS : St u g H T S) (hM : Mono S0 S) (t_x0 : isO g H 8 x0) (t_x2 : tK S 5 x2) (ok : KO_X10_spread_0 N g H T x0 x1 x2 x3 x4 S) (hx : X (KF_X10_spread_0 N g H T x0 x1 x2 x3 x4 S)) : cX G o dX10_spread mX10_spread 0 [some (va_rf (some x0)), some (.int x1), some (va_rf x2), some (.int x3), some (.int x4), none] [] S Q := by
  unfold KO_X10_spread_0 at ok
  unfold KF_X10_spread_0 at hx
  refine c_iconst (v := nI 0) dX10_spread_0 (by decide) ?_
  refine c_istore_5 dX10_spread_1 (by decide) rfl ?_
  exact cX.cutz (kd_X10_spread_3 hG hR hS hM t_x0 t_x2 ok hx) ⟨rfl, rfl, rfl, rfl, rfl, rfl, trivial⟩
def k_X10_spread (N g H T : Nat) (S : cS) (a0 : Nat) (x1 : Int32) (x2 : Option Nat) (x3 : Int32) (x4 : Int32) : cS := KF_X10_spread_0 N g H T a0 x1 x2 x3 x4 S
def p_X10_spread (N g H T : Nat) (S : cS) (a0 : Nat) (x1 : Int32) (x2 : Option Nat) (x3 : Int32) (x4 : Int32) : Prop := KO_X10_spread_0 N g H T a0 x1 x2 x3 x4 S
set_option maxRecDepth 100000 in
set_option maxHeartbeats 4000000 in
theorem kc_X10_spread {G : zG} {o : cO} {u g H T N : Nat} {S : cS} (hG : zOK G) {a0 : Nat} {x1 : Int32} {x2 : Option Nat} {x3 : Int32} {x4 : Int32} (hS : St u g H T S) (t_x0 : isO g H 8 a0) (t_x2 : tK S 5 x2) (ok : p_X10_spread N g H T S a0 x1 x2 x3 x4) : cCv G o dX10_spread mX10_spread [.ref a0, .int x1, va_rf x2, .int x3, .int x4] S (fun S' => S' = k_X10_spread N g H T S a0 x1 x2 x3 x4 ∧ St u g H T S' ∧ Mono S S') := by
  refine cC.ofX rfl (by cases x2 <;> exact Nat.le_of_ble_eq_true rfl) ?_
  rw [show zargs mX10_spread.2.2.1 [.ref a0, .int x1, va_rf x2, .int x3, .int x4] = [some (va_rf (some a0)), some (.int x1), some (va_rf x2), some (.int x3), some (.int x4), none] from by cases x2 <;> rfl]
  exact cX.cutz (kb_X10_spread_0 (X := fun F => F = k_X10_spread N g H T S a0 x1 x2 x3 x4) hG (fun S' h1 h2 h => ⟨rfl, h, h1, h2⟩) hS Mono.rfl' t_x0 t_x2 ok rfl) ⟨rfl, rfl, rfl, rfl, rfl, trivial⟩
/-! X3_takePayment -/
def KF_X3_takePayment_32 (N g H T : Nat)  (S : cS) : cS := S
def KO_X3_takePayment_32 (N g H T : Nat)  (S : cS) : Prop := True
set_option maxRecDepth 100000 in
set_option maxHeartbeats 4000000 in
theorem kb_X3_takePayment_32 {G : zG} {o : cO} {u g H T N : Nat} {S : cS} {S0 : cS} {Q : Option Value → cS → Prop} {X : cS → Prop} (hG : zOK G) (hR : ∀ S', St u g H T S' → Mono S0 S' → X S' → Q none S') (hS : St u g H T S) (hM : Mono S0 S) (ok : KO_X3_takePayment_32 N g H T S) (hx : X (KF_X3_takePayment_32 N g H T S)) : cX G o dX3_takePayment mX3_takePayment 32 [none, none, none] [] S Q := by
  unfold KO_X3_takePayment_32 at ok
  unfold KF_X3_takePayment_32 at hx
  exact c_return rfl dX3_takePayment_32 (hR _ hS hM hx)
def KF_X3_takePayment_15 (N g H T : Nat) (x0 : Option Nat) (x1 : Int32) (x2 : Option Nat) (s0 : Int32) (S : cS) : cS := (if s0 = 0 then (KF_X3_takePayment_32 N g H T S) else (KF_X3_takePayment_32 N g H T (k_X10_spread N g H T S (g + 8) (cI S 1 (za x0)) x2 x1 x1)))
def KO_X3_takePayment_15 (N g H T : Nat) (x0 : Option Nat) (x1 : Int32) (x2 : Option Nat) (s0 : Int32) (S : cS) : Prop := ((s0 = 0 → KO_X3_takePayment_32 N g H T S) ∧ (¬ s0 = 0 → (¬ x0 = none) ∧ (p_X10_spread N g H T S (g + 8) (cI S 1 (za x0)) x2 x1 x1) ∧ KO_X3_takePayment_32 N g H T (k_X10_spread N g H T S (g + 8) (cI S 1 (za x0)) x2 x1 x1)))
set_option maxRecDepth 100000 in
set_option maxHeartbeats 4000000 in
theorem kb_X3_takePayment_15 {G : zG} {o : cO} {u g H T N : Nat} {S : cS} {S0 : cS} {Q : Option Value → cS → Prop} {X : cS → Prop} (hG : zOK G) (hR : ∀ S', St u g H T S' → Mono S0 S' → X S' → Q none S') {x0 : Option Nat} {x1 : Int32} {x2 : Option Nat} {s0 : Int32} (hS : St u g H T S) (hM : Mono S0 S) (t_x0 : tN g H x0) (t_x2 : tK S 5 x2) (ok : KO_X3_takePayment_15 N g H T x0 x1 x2 s0 S) (hx : X (KF_X3_takePayment_15 N g H T x0 x1 x2 s0 S)) : cX G o dX3_takePayment mX3_takePayment 15 [some (va_rf x0), some (.int x1), some (va_rf x2)] [.int s0] S Q := by
  unfold KO_X3_takePayment_15 at ok
  unfold KF_X3_takePayment_15 at hx
  refine c_if_eq (tgt := 32) dX3_takePayment_15 (by decide) (fun c_15 => ?_) (fun c_15 => ?_)
  · have ok := ok.1 c_15
    have hx := xif_p c_15 hx
    exact cX.cutz (kb_X3_takePayment_32 hG hR hS hM  ok hx) trivial
  · have ok := ok.2 c_15
    have hx := xif_n c_15 hx
    refine c_aload_nQ dX3_takePayment_18 rfl rfl ?_
    have nn_19 := ok.1
    refine c_getS (C := RX6) (T := TX6) (N := 19) (ci := 5) (k := 0) ⟨rfl, inT6, by decide, fX3_33⟩ (by decide) (by decide) (by decide) dX3_takePayment_19 (hS.kN t_x0 ok.1) (hS.r (c := 5) (tN.o t_x0 ok.1) rfl (by omega)) ?_
    have ok := ok.2
    refine c_aload_nQ dX3_takePayment_22 rfl rfl ?_
    refine c_getI (C := RX6) (T := TX6) (N := 19) (ci := 5) (k := 1) ⟨rfl, inT6, by decide, fX3_37⟩ (by decide) (by decide) (by decide) dX3_takePayment_23 (hS.kN t_x0 nn_19) ?_
    refine c_aload_nQ dX3_takePayment_26 rfl rfl ?_
    refine c_iload_n dX3_takePayment_27 rfl rfl ?_
    refine c_iload_n dX3_takePayment_28 rfl rfl ?_
    refine c_V4vK (ci := 8) (rr := (RX10, TX10, 12)) (y' := mX10_spread) dX3_takePayment_29 lX3_44 kX10_spread ⟨by decide, by decide⟩ rfl rfl (by decide) (hS.k (o50 (tN.o t_x0 nn_19))) (Nat.le_of_ble_eq_true rfl) (kc_X10_spread hG hS (o50 (tN.o t_x0 nn_19)) t_x2 ok.1) (fun ⟨hS, hm_29⟩ => ?_)
    have hM := hM.trans hm_29
    have ok := ok.2
    exact cX.cutz (kb_X3_takePayment_32 hG hR hS hM  ok hx) trivial
def KF_X3_takePayment_0 (N g H T : Nat) (x0 : Option Nat) (x1 : Int32) (x2 : Option Nat) (S : cS) : cS := (KF_X3_takePayment_15 N g H T x0 x1 x2 ((k_X8_addPayment N g H T S ((za x0) + 14) (k_X0_codeAt N g H T S (some ((za x2) + 2)) (nI 1))).1) (k_X8_addPayment N g H T S ((za x0) + 14) (k_X0_codeAt N g H T S (some ((za x2) + 2)) (nI 1))).2)
def KO_X3_takePayment_0 (N g H T : Nat) (x0 : Option Nat) (x1 : Int32) (x2 : Option Nat) (S : cS) : Prop := (¬ x0 = none) ∧ (¬ x2 = none) ∧ (p_X0_codeAt N g H T S (some ((za x2) + 2)) (nI 1)) ∧ (p_X8_addPayment N g H T S ((za x0) + 14) (k_X0_codeAt N g H T S (some ((za x2) + 2)) (nI 1))) ∧ KO_X3_takePayment_15 N g H T x0 x1 x2 ((k_X8_addPayment N g H T S ((za x0) + 14) (k_X0_codeAt N g H T S (some ((za x2) + 2)) (nI 1))).1) (k_X8_addPayment N g H T S ((za x0) + 14) (k_X0_codeAt N g H T S (some ((za x2) + 2)) (nI 1))).2
set_option maxRecDepth 100000 in
set_option maxHeartbeats 4000000 in
theorem kb_X3_takePayment_0 {G : zG} {o : cO} {u g H T N : Nat} {S : cS} {S0 : cS} {Q : Option Value → cS → Prop} {X : cS → Prop} (hG : zOK G) (hR : ∀ S', St u g H T S' → Mono S0 S' → X S' → Q none S') {x0 : Option Nat} {x1 : Int32} {x2 : Option Nat} (hS : St u g H T S) (hM : Mono S0 S) (t_x0 : tN g H x0) (t_x2 : tK S 5 x2) (ok : KO_X3_takePayment_0 N g H T x0 x1 x2 S) (hx : X (KF_X3_takePayment_0 N g H T x0 x1 x2 S)) : cX G o dX3_takePayment mX3_takePayment 0 [some (va_rf x0), some (.int x1), some (va_rf x2)] [] S Q := by
  unfold KO_X3_takePayment_0 at ok
  unfold KF_X3_takePayment_0 at hx
  refine c_aload_nQ dX3_takePayment_0 rfl rfl ?_
  have nn_1 := ok.1
  refine c_getS (C := RX6) (T := TX6) (N := 19) (ci := 5) (k := 3) ⟨rfl, inT6, by decide, fX3_21⟩ (by decide) (by decide) (by decide) dX3_takePayment_1 (hS.kN t_x0 ok.1) (hS.r (c := 5) (tN.o t_x0 ok.1) rfl (by omega)) ?_
  have ok := ok.2
  refine c_aload_nQ dX3_takePayment_4 rfl rfl ?_
  have nn_5 := ok.1
  have p_5 := hS.m0k t_x2 ok.1
  refine c_getS (C := RX5) (T := TX5) (N := 7) (ci := 4) (k := 0) ⟨rfl, inT5, by decide, fX3_94⟩ (by decide) (by decide) (by decide) dX3_takePayment_5 (tK.cis t_x2 ok.1) (hS.m0 t_x2 ok.1) ?_
  have ok := ok.2
  refine c_iconst (v := nI 1) dX3_takePayment_8 (by decide) ?_
  refine c_S2lE (y' := mX0_codeAt) dX3_takePayment_9 lX3_98 kX0_codeAt ⟨by decide, by decide⟩ (by simp only [List.map_cons, List.map_nil, List.sum_cons, List.sum_nil, zcat_rf, zcat_i, zcat_l, zcat_r] <;> decide) (kc_X0_codeAt hG hS p_5 ok.1) ?_
  have ok := ok.2
  refine c_V1iK (ci := 6) (rr := (RX8, TX8, 14)) (y' := mX8_addPayment) dX3_takePayment_12 lX3_104 kX8_addPayment ⟨by decide, by decide⟩ rfl rfl (by decide) (hS.k (o53 (tN.o t_x0 nn_1))) (Nat.le_of_ble_eq_true rfl) (kc_X8_addPayment hG hS (o53 (tN.o t_x0 nn_1)) ok.1) (fun ⟨hS, hm_12⟩ => ?_)
  have hM := hM.trans hm_12
  have ok := ok.2
  exact cX.cutz (kb_X3_takePayment_15 hG hR hS hM t_x0 (hm_12.tK t_x2 (by decide)) ok hx) ⟨rfl, rfl, rfl, trivial⟩
def k_X3_takePayment (N g H T : Nat) (S : cS) (x0 : Option Nat) (x1 : Int32) (x2 : Option Nat) : cS := KF_X3_takePayment_0 N g H T x0 x1 x2 S
def p_X3_takePayment (N g H T : Nat) (S : cS) (x0 : Option Nat) (x1 : Int32) (x2 : Option Nat) : Prop := KO_X3_takePayment_0 N g H T x0 x1 x2 S
set_option maxRecDepth 100000 in
set_option maxHeartbeats 4000000 in
theorem kc_X3_takePayment {G : zG} {o : cO} {u g H T N : Nat} {S : cS} (hG : zOK G) {x0 : Option Nat} {x1 : Int32} {x2 : Option Nat} (hS : St u g H T S) (t_x0 : tN g H x0) (t_x2 : tK S 5 x2) (ok : p_X3_takePayment N g H T S x0 x1 x2) : cCv G o dX3_takePayment mX3_takePayment [va_rf x0, .int x1, va_rf x2] S (fun S' => S' = k_X3_takePayment N g H T S x0 x1 x2 ∧ St u g H T S' ∧ Mono S S') := by
  refine cC.ofX rfl (by cases x0 <;> cases x2 <;> exact Nat.le_of_ble_eq_true rfl) ?_
  rw [show zargs mX3_takePayment.2.2.1 [va_rf x0, .int x1, va_rf x2] = [some (va_rf x0), some (.int x1), some (va_rf x2)] from by cases x0 <;> cases x2 <;> rfl]
  exact cX.cutz (kb_X3_takePayment_0 (X := fun F => F = k_X3_takePayment N g H T S x0 x1 x2) hG (fun S' h1 h2 h => ⟨rfl, h, h1, h2⟩) hS Mono.rfl' t_x0 t_x2 ok rfl) ⟨rfl, rfl, rfl, trivial⟩
/-! X8_addProof -/
def KF_X8_addProof_41 (N g H T : Nat) (x0 : Nat) (S : cS) : Int32 × cS := ((nI 1), (csI S 13 x0 ((cI S 13 x0) + (nI 1))))
def KO_X8_addProof_41 (N g H T : Nat) (x0 : Nat) (S : cS) : Prop := True
set_option maxRecDepth 100000 in
set_option maxHeartbeats 4000000 in
theorem kb_X8_addProof_41 {G : zG} {o : cO} {u g H T N : Nat} {S : cS} {S0 : cS} {Q : Option Value → cS → Prop} {X : Int32 × cS → Prop} (hG : zOK G) (hR : ∀ v S', St u g H T S' → Mono S0 S' → X (v, S') → Q (some (.int v)) S') {x0 : Nat} (hS : St u g H T S) (hM : Mono S0 S) (t_x0 : isO g H 6 x0) (ok : KO_X8_addProof_41 N g H T x0 S) (hx : X (KF_X8_addProof_41 N g H T x0 S)) : cX G o dX8_addProof mX8_addProof 41 [some (va_rf (some x0)), none, none] [] S Q := by
  unfold KO_X8_addProof_41 at ok
  unfold KF_X8_addProof_41 at hx
  refine c_aload_nQ dX8_addProof_41 rfl rfl ?_
  refine c_dup dX8_addProof_42 (zcat_rf _) ?_
  refine c_getI (C := RX8) (T := TX8) (N := 14) (ci := 6) (k := 13) ⟨rfl, inT8, by decide, fX8_105⟩ (by decide) (by decide) (by decide) dX8_addProof_43 (hS.k t_x0) ?_
  refine c_iconst (v := nI 1) dX8_addProof_46 (by decide) ?_
  refine c_iadd dX8_addProof_47 ?_
  refine c_putI (C := RX8) (T := TX8) (N := 14) (ci := 6) (k := 13) ⟨rfl, inT8, by decide, fX8_105⟩ ftT8 rfl (by decide) (by decide) (by decide) rfl rfl dX8_addProof_48 (hS.k t_x0) ?_
  have hS := hS.I 13 x0 ((cI S 13 x0) + (nI 1))
  have hM := hM.I 13 x0 ((cI S 13 x0) + (nI 1))
  refine c_iconst (v := nI 1) dX8_addProof_51 (by decide) ?_
  exact c_ireturn rfl rfl dX8_addProof_52 (hR _ _ hS hM hx)
def KF_X8_addProof_22 (N g H T : Nat)  (S : cS) : Int32 × cS := ((nI 0), S)
def KO_X8_addProof_22 (N g H T : Nat)  (S : cS) : Prop := True
set_option maxRecDepth 100000 in
set_option maxHeartbeats 4000000 in
theorem kb_X8_addProof_22 {G : zG} {o : cO} {u g H T N : Nat} {S : cS} {S0 : cS} {Q : Option Value → cS → Prop} {X : Int32 × cS → Prop} (hG : zOK G) (hR : ∀ v S', St u g H T S' → Mono S0 S' → X (v, S') → Q (some (.int v)) S') (hS : St u g H T S) (hM : Mono S0 S) (ok : KO_X8_addProof_22 N g H T S) (hx : X (KF_X8_addProof_22 N g H T S)) : cX G o dX8_addProof mX8_addProof 22 [none, none, none] [] S Q := by
  unfold KO_X8_addProof_22 at ok
  unfold KF_X8_addProof_22 at hx
  refine c_iconst (v := nI 0) dX8_addProof_22 (by decide) ?_
  exact c_ireturn rfl rfl dX8_addProof_23 (hR _ _ hS hM hx)
def KF_X8_addProof_0 (N g H T : Nat) (x0 : Nat) (x1 : Option Nat) (S : cS) : Int32 × cS := (if (cI S 1 x0) ≤ (k_X5_signer N g H T S (za x1)) then (KF_X8_addProof_22 N g H T S) else (if (cP S (x0 + 9) (k_X5_signer N g H T S (za x1)).toNatClampNeg) = none then (KF_X8_addProof_41 N g H T x0 (csI (csP S (x0 + 9) (k_X5_signer N g H T S (za x1)).toNatClampNeg x1) 3 (za x1) ((cI (csP S (x0 + 9) (k_X5_signer N g H T S (za x1)).toNatClampNeg x1) 3 (za x1)) + (nI 1)))) else (KF_X8_addProof_22 N g H T S)))
def KO_X8_addProof_0 (N g H T : Nat) (x0 : Nat) (x1 : Option Nat) (S : cS) : Prop := (¬ x1 = none ∧ p_X5_signer N g H T S (za x1)) ∧ (((cI S 1 x0) ≤ (k_X5_signer N g H T S (za x1)) → KO_X8_addProof_22 N g H T S) ∧ (¬ (cI S 1 x0) ≤ (k_X5_signer N g H T S (za x1)) → (vp_in (k_X5_signer N g H T S (za x1)) T) ∧ (((cP S (x0 + 9) (k_X5_signer N g H T S (za x1)).toNatClampNeg) = none → (vp_in (k_X5_signer N g H T S (za x1)) T) ∧ KO_X8_addProof_41 N g H T x0 (csI (csP S (x0 + 9) (k_X5_signer N g H T S (za x1)).toNatClampNeg x1) 3 (za x1) ((cI (csP S (x0 + 9) (k_X5_signer N g H T S (za x1)).toNatClampNeg x1) 3 (za x1)) + (nI 1)))) ∧ (¬ (cP S (x0 + 9) (k_X5_signer N g H T S (za x1)).toNatClampNeg) = none → KO_X8_addProof_22 N g H T S))))
set_option maxRecDepth 100000 in
set_option maxHeartbeats 4000000 in
theorem kb_X8_addProof_0 {G : zG} {o : cO} {u g H T N : Nat} {S : cS} {S0 : cS} {Q : Option Value → cS → Prop} {X : Int32 × cS → Prop} (hG : zOK G) (hR : ∀ v S', St u g H T S' → Mono S0 S' → X (v, S') → Q (some (.int v)) S') {x0 : Nat} {x1 : Option Nat} (hS : St u g H T S) (hM : Mono S0 S) (t_x0 : isO g H 6 x0) (t_x1 : tK S 5 x1) (ok : KO_X8_addProof_0 N g H T x0 x1 S) (hx : X (KF_X8_addProof_0 N g H T x0 x1 S)) : cX G o dX8_addProof mX8_addProof 0 [some (va_rf (some x0)), some (va_rf x1), none] [] S Q := by
  unfold KO_X8_addProof_0 at ok
  unfold KF_X8_addProof_0 at hx
  refine c_aload_nQ dX8_addProof_0 rfl rfl ?_
  have nn_1 := ok.1.1
  refine c_V0iE (ci := 4) (rr := (RX5, TX5, 7)) (y' := mX5_signer) dX8_addProof_1 lX8_62 kX5_signer ⟨by decide, by decide⟩ rfl rfl (by decide) (tK.cis t_x1 nn_1) (Nat.le_of_ble_eq_true rfl) (kc_X5_signer hG hS (t_x1 _ (za_of nn_1)) ok.1.2) ?_
  have ok := ok.2
  refine c_istore_2 dX8_addProof_4 (by decide) (by simp [zok, zg, zcat_rf]) ?_
  refine c_iload_n dX8_addProof_5 rfl rfl ?_
  refine c_aload_nQ dX8_addProof_6 rfl rfl ?_
  refine c_getI (C := RX8) (T := TX8) (N := 14) (ci := 6) (k := 1) ⟨rfl, inT8, by decide, fX8_32⟩ (by decide) (by decide) (by decide) dX8_addProof_7 (hS.k t_x0) ?_
  refine c_icmp_ge (tgt := 22) dX8_addProof_10 (by decide) (fun c_10 => ?_) (fun c_10 => ?_)
  · have ok := ok.1 c_10
    have hx := xif_p c_10 hx
    exact cX.cutz (kb_X8_addProof_22 hG hR hS hM  ok hx) trivial
  · have ok := ok.2 c_10
    have hx := xif_n c_10 hx
    refine c_aload_nQ dX8_addProof_13 rfl rfl ?_
    refine c_getS (C := RX8) (T := TX8) (N := 14) (ci := 6) (k := 9) ⟨rfl, inT8, by decide, fX8_48⟩ (by decide) (by decide) (by decide) dX8_addProof_14 (hS.k t_x0) (hS.r (c := 6) t_x0 rfl (by omega)) ?_
    refine c_iload_n dX8_addProof_17 rfl rfl ?_
    have p_18 := hS.row24 (hS.rk (c := 6) (k := 9) t_x0 rfl (by omega)) (k_X5_signer N g H T S (za x1)).toNatClampNeg
    refine c_aald (t := 4) (ty := (.object "QuorumLedger$Message")) rfl rfl (by decide) dX8_addProof_18 ⟨(tK.cis (hS.rk (c := 6) (k := 9) t_x0 rfl (by omega)) (Option.some_ne_none _)), (vk_cast (hS.rl (c := 6) (k := 9) t_x0 rfl (by decide) (by omega)) ok.1)⟩ ?_
    have ok := ok.2
    refine c_ifnullI (tgt := 24) dX8_addProof_19 (by decide) (fun c_19 => ?_) (fun c_19 => ?_)
    · have ok := ok.1 c_19
      have hx := xif_p c_19 hx
      refine c_aload_nQ dX8_addProof_24 rfl rfl ?_
      refine c_getS (C := RX8) (T := TX8) (N := 14) (ci := 6) (k := 9) ⟨rfl, inT8, by decide, fX8_48⟩ (by decide) (by decide) (by decide) dX8_addProof_25 (hS.k t_x0) (hS.r (c := 6) t_x0 rfl (by omega)) ?_
      refine c_iload_n dX8_addProof_28 rfl rfl ?_
      refine c_aload_nQ dX8_addProof_29 rfl rfl ?_
      have hS2 := hS.P24 (i := (k_X5_signer N g H T S (za x1)).toNatClampNeg) ((hS.rk (c := 6) (k := 9) t_x0 rfl (by omega)) _ rfl) t_x1
      refine c_aast (t := 4) (ci := 4) (rr := (RX5, TX5, 7)) rfl rfl (by decide) (by decide) dX8_addProof_30 ⟨(tK.cis (hS.rk (c := 6) (k := 9) t_x0 rfl (by omega)) (Option.some_ne_none _)), (vk_cast (hS.rl (c := 6) (k := 9) t_x0 rfl (by decide) (by omega)) ok.1), tKor t_x1⟩ ?_
      have hS := hS2
      have hM := hM.P (x0 + 9) (k_X5_signer N g H T S (za x1)).toNatClampNeg x1
      have ok := ok.2
      refine c_aload_nQ dX8_addProof_31 rfl rfl ?_
      refine c_dup dX8_addProof_32 (zcat_rf _) ?_
      refine c_getI (C := RX5) (T := TX5) (N := 7) (ci := 4) (k := 3) ⟨rfl, inT5, by decide, fX8_72⟩ (by decide) (by decide) (by decide) dX8_addProof_33 (tK.cis (tK_P t_x1) nn_1) ?_
      refine c_iconst (v := nI 1) dX8_addProof_36 (by decide) ?_
      refine c_iadd dX8_addProof_37 ?_
      refine c_putI (C := RX5) (T := TX5) (N := 7) (ci := 4) (k := 3) ⟨rfl, inT5, by decide, fX8_72⟩ ftT5 rfl (by decide) (by decide) (by decide) rfl rfl dX8_addProof_38 (tK.cis (tK_P t_x1) nn_1) ?_
      have hS := hS.I 3 (za x1) ((cI (csP S (x0 + 9) (k_X5_signer N g H T S (za x1)).toNatClampNeg x1) 3 (za x1)) + (nI 1))
      have hM := hM.I 3 (za x1) ((cI (csP S (x0 + 9) (k_X5_signer N g H T S (za x1)).toNatClampNeg x1) 3 (za x1)) + (nI 1))
      exact cX.cutz (kb_X8_addProof_41 hG hR hS hM t_x0 ok hx) ⟨rfl, trivial⟩
    · have ok := ok.2 c_19
      have hx := xif_n c_19 hx
      exact cX.cutz (kb_X8_addProof_22 hG hR hS hM  ok hx) trivial
def k_X8_addProof (N g H T : Nat) (S : cS) (a0 : Nat) (x1 : Option Nat) : Int32 × cS := KF_X8_addProof_0 N g H T a0 x1 S
def p_X8_addProof (N g H T : Nat) (S : cS) (a0 : Nat) (x1 : Option Nat) : Prop := KO_X8_addProof_0 N g H T a0 x1 S
set_option maxRecDepth 100000 in
set_option maxHeartbeats 4000000 in
theorem kc_X8_addProof {G : zG} {o : cO} {u g H T N : Nat} {S : cS} (hG : zOK G) {a0 : Nat} {x1 : Option Nat} (hS : St u g H T S) (t_x0 : isO g H 6 a0) (t_x1 : tK S 5 x1) (ok : p_X8_addProof N g H T S a0 x1) : cCi G o dX8_addProof mX8_addProof [.ref a0, va_rf x1] S (fun v S' => (v = (k_X8_addProof N g H T S a0 x1).1 ∧ S' = (k_X8_addProof N g H T S a0 x1).2) ∧ St u g H T S' ∧ Mono S S') := by
  refine cC.ofX rfl (by cases x1 <;> exact Nat.le_of_ble_eq_true rfl) ?_
  rw [show zargs mX8_addProof.2.2.1 [.ref a0, va_rf x1] = [some (va_rf (some a0)), some (va_rf x1), none] from by cases x1 <;> rfl]
  exact cX.cutz (kb_X8_addProof_0 (X := fun F => F = k_X8_addProof N g H T S a0 x1) hG (fun v S' h1 h2 h => ⟨v, rfl, ⟨by rw [← h], by rw [← h]⟩, h1, h2⟩) hS Mono.rfl' t_x0 t_x1 ok rfl) ⟨rfl, rfl, trivial⟩

/-! X4_noteSnap -/
def KF_X4_noteSnap_50 (N g H T : Nat) (x0 : Nat) (x2 : Int32) (s0 : Int32) (S : cS) : Int32 × cS := (if s0 = 0 then ((nI 0), S) else ((nI 1), (csI S 5 x0 x2)))
def KO_X4_noteSnap_50 (N g H T : Nat) (x0 : Nat) (x2 : Int32) (s0 : Int32) (S : cS) : Prop := ((s0 = 0 → True) ∧ (¬ s0 = 0 → True))
set_option maxRecDepth 100000 in
set_option maxHeartbeats 4000000 in
theorem kb_X4_noteSnap_50 {G : zG} {o : cO} {u g H T N : Nat} {S : cS} {S0 : cS} {Q : Option Value → cS → Prop} {X : Int32 × cS → Prop} (hG : zOK G) (hR : ∀ v S', St u g H T S' → Mono S0 S' → X (v, S') → Q (some (.int v)) S') {x0 : Nat} {x2 : Int32} {s0 : Int32} (hS : St u g H T S) (hM : Mono S0 S) (t_x0 : isO g H 3 x0) (ok : KO_X4_noteSnap_50 N g H T x0 x2 s0 S) (hx : X (KF_X4_noteSnap_50 N g H T x0 x2 s0 S)) : cX G o dX4_noteSnap mX4_noteSnap 50 [some (va_rf (some x0)), none, some (.int x2)] [.int s0] S Q := by
  unfold KO_X4_noteSnap_50 at ok
  unfold KF_X4_noteSnap_50 at hx
  refine c_if_ne (tgt := 55) dX4_noteSnap_50 (by decide) (fun c_50 => ?_) (fun c_50 => ?_)
  · have ok := ok.2 c_50
    have hx := xif_n c_50 hx
    refine c_aload_nQ dX4_noteSnap_55 rfl rfl ?_
    refine c_iload_n dX4_noteSnap_56 rfl rfl ?_
    refine c_putI (C := RX4) (T := TX4) (N := 10) (ci := 3) (k := 5) ⟨rfl, inT4, by decide, fX4_68⟩ ftT4 rfl (by decide) (by decide) (by decide) rfl rfl dX4_noteSnap_57 (hS.k t_x0) ?_
    have hS := hS.I 5 x0 x2
    have hM := hM.I 5 x0 x2
    refine c_iconst (v := nI 1) dX4_noteSnap_60 (by decide) ?_
    exact c_ireturn rfl rfl dX4_noteSnap_61 (hR _ _ hS hM hx)
  · have ok := ok.1 c_50
    have hx := xif_p c_50 hx
    refine c_iconst (v := nI 0) dX4_noteSnap_53 (by decide) ?_
    exact c_ireturn rfl rfl dX4_noteSnap_54 (hR _ _ hS hM hx)
def KF_X4_noteSnap_45 (N g H T : Nat) (x0 : Nat) (x2 : Int32) (S : cS) : Int32 × cS := (KF_X4_noteSnap_50 N g H T x0 x2 ((k_X4_write N g H T S x0 x2).1) (k_X4_write N g H T S x0 x2).2)
def KO_X4_noteSnap_45 (N g H T : Nat) (x0 : Nat) (x2 : Int32) (S : cS) : Prop := (p_X4_write N g H T S x0 x2) ∧ KO_X4_noteSnap_50 N g H T x0 x2 ((k_X4_write N g H T S x0 x2).1) (k_X4_write N g H T S x0 x2).2
set_option maxRecDepth 100000 in
set_option maxHeartbeats 4000000 in
theorem kb_X4_noteSnap_45 {G : zG} {o : cO} {u g H T N : Nat} {S : cS} {S0 : cS} {Q : Option Value → cS → Prop} {X : Int32 × cS → Prop} (hG : zOK G) (hR : ∀ v S', St u g H T S' → Mono S0 S' → X (v, S') → Q (some (.int v)) S') {x0 : Nat} {x2 : Int32} (hS : St u g H T S) (hM : Mono S0 S) (t_x0 : isO g H 3 x0) (ok : KO_X4_noteSnap_45 N g H T x0 x2 S) (hx : X (KF_X4_noteSnap_45 N g H T x0 x2 S)) : cX G o dX4_noteSnap mX4_noteSnap 45 [some (va_rf (some x0)), none, some (.int x2)] [] S Q := by
  unfold KO_X4_noteSnap_45 at ok
  unfold KF_X4_noteSnap_45 at hx
  refine c_aload_nQ dX4_noteSnap_45 rfl rfl ?_
  refine c_iload_n dX4_noteSnap_46 rfl rfl ?_
  refine c_V1iK (ci := 3) (rr := (RX4, TX4, 10)) (y' := mX4_write) dX4_noteSnap_47 lX4_64 kX4_write ⟨by decide, by decide⟩ rfl rfl (by decide) (hS.k t_x0) (Nat.le_of_ble_eq_true rfl) (kc_X4_write hG hS t_x0 ok.1) (fun ⟨hS, hm_47⟩ => ?_)
  have hM := hM.trans hm_47
  have ok := ok.2
  exact cX.cutz (kb_X4_noteSnap_50 hG hR hS hM t_x0 ok hx) ⟨rfl, rfl, trivial⟩
def KF_X4_noteSnap_32 (N g H T : Nat) (x0 : Nat) (x1 : Option Nat) (x2 : Int32) (S : cS) : Int32 × cS := (KF_X4_noteSnap_45 N g H T x0 x2 (k_X4_add N g H T S x0 (some ((za x1) + 2)) (nI 0) (cI S 2 (za x1))))
def KO_X4_noteSnap_32 (N g H T : Nat) (x0 : Nat) (x1 : Option Nat) (x2 : Int32) (S : cS) : Prop := (¬ x1 = none) ∧ (p_X4_add N g H T S x0 (some ((za x1) + 2)) (nI 0) (cI S 2 (za x1))) ∧ KO_X4_noteSnap_45 N g H T x0 x2 (k_X4_add N g H T S x0 (some ((za x1) + 2)) (nI 0) (cI S 2 (za x1)))
set_option maxRecDepth 100000 in
set_option maxHeartbeats 4000000 in
theorem kb_X4_noteSnap_32 {G : zG} {o : cO} {u g H T N : Nat} {S : cS} {S0 : cS} {Q : Option Value → cS → Prop} {X : Int32 × cS → Prop} (hG : zOK G) (hR : ∀ v S', St u g H T S' → Mono S0 S' → X (v, S') → Q (some (.int v)) S') {x0 : Nat} {x1 : Option Nat} {x2 : Int32} (hS : St u g H T S) (hM : Mono S0 S) (t_x0 : isO g H 3 x0) (t_x1 : tK S 5 x1) (ok : KO_X4_noteSnap_32 N g H T x0 x1 x2 S) (hx : X (KF_X4_noteSnap_32 N g H T x0 x1 x2 S)) : cX G o dX4_noteSnap mX4_noteSnap 32 [some (va_rf (some x0)), some (va_rf x1), some (.int x2)] [] S Q := by
  unfold KO_X4_noteSnap_32 at ok
  unfold KF_X4_noteSnap_32 at hx
  refine c_aload_nQ dX4_noteSnap_32 rfl rfl ?_
  refine c_aload_nQ dX4_noteSnap_33 rfl rfl ?_
  have nn_34 := ok.1
  have p_34 := hS.m0k t_x1 ok.1
  refine c_getS (C := RX5) (T := TX5) (N := 7) (ci := 4) (k := 0) ⟨rfl, inT5, by decide, fX4_77⟩ (by decide) (by decide) (by decide) dX4_noteSnap_34 (tK.cis t_x1 ok.1) (hS.m0 t_x1 ok.1) ?_
  have ok := ok.2
  refine c_iconst (v := nI 0) dX4_noteSnap_37 (by decide) ?_
  refine c_aload_nQ dX4_noteSnap_38 rfl rfl ?_
  refine c_getI (C := RX5) (T := TX5) (N := 7) (ci := 4) (k := 2) ⟨rfl, inT5, by decide, fX4_80⟩ (by decide) (by decide) (by decide) dX4_noteSnap_39 (tK.cis t_x1 nn_34) ?_
  refine c_V3vK (ci := 3) (rr := (RX4, TX4, 10)) (y' := mX4_add) dX4_noteSnap_42 lX4_61 kX4_add ⟨by decide, by decide⟩ rfl rfl (by decide) (hS.k t_x0) (Nat.le_of_ble_eq_true rfl) (kc_X4_add hG hS t_x0 p_34 ok.1) (fun ⟨hS, hm_42⟩ => ?_)
  have hM := hM.trans hm_42
  have ok := ok.2
  exact cX.cutz (kb_X4_noteSnap_45 hG hR hS hM t_x0 ok hx) ⟨rfl, rfl, trivial⟩
def KF_X4_noteSnap_19 (N g H T : Nat) (x0 : Nat) (x1 : Option Nat) (s0 : Int32) (S : cS) : Int32 × cS := (KF_X4_noteSnap_32 N g H T x0 x1 s0 (k_X4_open N g H T S x0 (nI 6) (k_X5_two N g H T S (za x1) (nI 1)) (nI 0)))
def KO_X4_noteSnap_19 (N g H T : Nat) (x0 : Nat) (x1 : Option Nat) (s0 : Int32) (S : cS) : Prop := (¬ x1 = none ∧ p_X5_two N g H T S (za x1) (nI 1)) ∧ (p_X4_open N g H T S x0 (nI 6) (k_X5_two N g H T S (za x1) (nI 1)) (nI 0)) ∧ KO_X4_noteSnap_32 N g H T x0 x1 s0 (k_X4_open N g H T S x0 (nI 6) (k_X5_two N g H T S (za x1) (nI 1)) (nI 0))
set_option maxRecDepth 100000 in
set_option maxHeartbeats 4000000 in
theorem kb_X4_noteSnap_19 {G : zG} {o : cO} {u g H T N : Nat} {S : cS} {S0 : cS} {Q : Option Value → cS → Prop} {X : Int32 × cS → Prop} (hG : zOK G) (hR : ∀ v S', St u g H T S' → Mono S0 S' → X (v, S') → Q (some (.int v)) S') {x0 : Nat} {x1 : Option Nat} {s0 : Int32} (hS : St u g H T S) (hM : Mono S0 S) (t_x0 : isO g H 3 x0) (t_x1 : tK S 5 x1) (ok : KO_X4_noteSnap_19 N g H T x0 x1 s0 S) (hx : X (KF_X4_noteSnap_19 N g H T x0 x1 s0 S)) : cX G o dX4_noteSnap mX4_noteSnap 19 [some (va_rf (some x0)), some (va_rf x1), none] [.int s0] S Q := by
  unfold KO_X4_noteSnap_19 at ok
  unfold KF_X4_noteSnap_19 at hx
  refine c_istore_2 dX4_noteSnap_19 (by decide) (by simp [zok, zg, zcat_rf]) ?_
  refine c_aload_nQ dX4_noteSnap_20 rfl rfl ?_
  refine c_bipush (v := nI 6) dX4_noteSnap_21 (by decide) ?_
  refine c_aload_nQ dX4_noteSnap_23 rfl rfl ?_
  refine c_iconst (v := nI 1) dX4_noteSnap_24 (by decide) ?_
  have nn_25 := ok.1.1
  refine c_V1iE (ci := 4) (rr := (RX5, TX5, 7)) (y' := mX5_two) dX4_noteSnap_25 lX4_71 kX5_two ⟨by decide, by decide⟩ rfl rfl (by decide) (tK.cis t_x1 nn_25) (by simp only [List.map_cons, List.map_nil, List.sum_cons, List.sum_nil, zcat_rf, zcat_i, zcat_l, zcat_r] <;> decide) (kc_X5_two hG hS (t_x1 _ (za_of nn_25)) ok.1.2) ?_
  have ok := ok.2
  refine c_iconst (v := nI 0) dX4_noteSnap_28 (by decide) ?_
  refine c_V3vK (ci := 3) (rr := (RX4, TX4, 10)) (y' := mX4_open) dX4_noteSnap_29 lX4_57 kX4_open ⟨by decide, by decide⟩ rfl rfl (by decide) (hS.k t_x0) (Nat.le_of_ble_eq_true rfl) (kc_X4_open hG hS t_x0 ok.1) (fun ⟨hS, hm_29⟩ => ?_)
  have hM := hM.trans hm_29
  have ok := ok.2
  exact cX.cutz (kb_X4_noteSnap_32 hG hR hS hM t_x0 (hm_29.tK t_x1 (by decide)) ok hx) ⟨rfl, rfl, rfl, trivial⟩
def KF_X4_noteSnap_0 (N g H T : Nat) (x0 : Nat) (x1 : Option Nat) (S : cS) : Int32 × cS := (if (cI S 5 x0) = (nI 280) then (KF_X4_noteSnap_19 N g H T x0 x1 (nI 282) S) else (KF_X4_noteSnap_19 N g H T x0 x1 (nI 280) S))
def KO_X4_noteSnap_0 (N g H T : Nat) (x0 : Nat) (x1 : Option Nat) (S : cS) : Prop := (((cI S 5 x0) = (nI 280) → KO_X4_noteSnap_19 N g H T x0 x1 (nI 282) S) ∧ (¬ (cI S 5 x0) = (nI 280) → KO_X4_noteSnap_19 N g H T x0 x1 (nI 280) S))
set_option maxRecDepth 100000 in
set_option maxHeartbeats 4000000 in
theorem kb_X4_noteSnap_0 {G : zG} {o : cO} {u g H T N : Nat} {S : cS} {S0 : cS} {Q : Option Value → cS → Prop} {X : Int32 × cS → Prop} (hG : zOK G) (hR : ∀ v S', St u g H T S' → Mono S0 S' → X (v, S') → Q (some (.int v)) S') {x0 : Nat} {x1 : Option Nat} (hS : St u g H T S) (hM : Mono S0 S) (t_x0 : isO g H 3 x0) (t_x1 : tK S 5 x1) (ok : KO_X4_noteSnap_0 N g H T x0 x1 S) (hx : X (KF_X4_noteSnap_0 N g H T x0 x1 S)) : cX G o dX4_noteSnap mX4_noteSnap 0 [some (va_rf (some x0)), some (va_rf x1), none] [] S Q := by
  unfold KO_X4_noteSnap_0 at ok
  unfold KF_X4_noteSnap_0 at hx
  refine c_aload_nQ dX4_noteSnap_0 rfl rfl ?_
  refine c_getI (C := RX4) (T := TX4) (N := 10) (ci := 3) (k := 5) ⟨rfl, inT4, by decide, fX4_68⟩ (by decide) (by decide) (by decide) dX4_noteSnap_1 (hS.k t_x0) ?_
  refine c_sipush (v := nI 280) dX4_noteSnap_4 (by decide) ?_
  refine c_icmp_ne (tgt := 16) dX4_noteSnap_7 (by decide) (fun c_7 => ?_) (fun c_7 => ?_)
  · have ok := ok.2 c_7
    have hx := xif_n c_7 hx
    refine c_sipush (v := nI 280) dX4_noteSnap_16 (by decide) ?_
    exact cX.cutz (kb_X4_noteSnap_19 hG hR hS hM t_x0 t_x1 ok hx) ⟨rfl, rfl, trivial⟩
  · have ok := ok.1 c_7
    have hx := xif_p c_7 hx
    refine c_sipush (v := nI 282) dX4_noteSnap_10 (by decide) ?_
    refine c_goto (tgt := 19) dX4_noteSnap_13 (by decide) ?_
    exact cX.cutz (kb_X4_noteSnap_19 hG hR hS hM t_x0 t_x1 ok hx) ⟨rfl, rfl, trivial⟩
def k_X4_noteSnap (N g H T : Nat) (S : cS) (a0 : Nat) (x1 : Option Nat) : Int32 × cS := KF_X4_noteSnap_0 N g H T a0 x1 S
def p_X4_noteSnap (N g H T : Nat) (S : cS) (a0 : Nat) (x1 : Option Nat) : Prop := KO_X4_noteSnap_0 N g H T a0 x1 S
set_option maxRecDepth 100000 in
set_option maxHeartbeats 4000000 in
theorem kc_X4_noteSnap {G : zG} {o : cO} {u g H T N : Nat} {S : cS} (hG : zOK G) {a0 : Nat} {x1 : Option Nat} (hS : St u g H T S) (t_x0 : isO g H 3 a0) (t_x1 : tK S 5 x1) (ok : p_X4_noteSnap N g H T S a0 x1) : cCi G o dX4_noteSnap mX4_noteSnap [.ref a0, va_rf x1] S (fun v S' => (v = (k_X4_noteSnap N g H T S a0 x1).1 ∧ S' = (k_X4_noteSnap N g H T S a0 x1).2) ∧ St u g H T S' ∧ Mono S S') := by
  refine cC.ofX rfl (by cases x1 <;> exact Nat.le_of_ble_eq_true rfl) ?_
  rw [show zargs mX4_noteSnap.2.2.1 [.ref a0, va_rf x1] = [some (va_rf (some a0)), some (va_rf x1), none] from by cases x1 <;> rfl]
  exact cX.cutz (kb_X4_noteSnap_0 (X := fun F => F = k_X4_noteSnap N g H T S a0 x1) hG (fun v S' h1 h2 h => ⟨v, rfl, ⟨by rw [← h], by rw [← h]⟩, h1, h2⟩) hS Mono.rfl' t_x0 t_x1 ok rfl) ⟨rfl, rfl, trivial⟩
/-! X4_jot -/
def KF_X4_jot_65 (N g H T : Nat) (x0 : Nat) (s0 : Int32) (S : cS) : Int32 × cS := (if s0 = 0 then ((nI 0), S) else ((nI 1), (csI S 6 x0 ((cI S 6 x0) + (nI 1)))))
def KO_X4_jot_65 (N g H T : Nat) (x0 : Nat) (s0 : Int32) (S : cS) : Prop := ((s0 = 0 → True) ∧ (¬ s0 = 0 → True))
set_option maxRecDepth 100000 in
set_option maxHeartbeats 4000000 in
theorem kb_X4_jot_65 {G : zG} {o : cO} {u g H T N : Nat} {S : cS} {S0 : cS} {Q : Option Value → cS → Prop} {X : Int32 × cS → Prop} (hG : zOK G) (hR : ∀ v S', St u g H T S' → Mono S0 S' → X (v, S') → Q (some (.int v)) S') {x0 : Nat} {s0 : Int32} (hS : St u g H T S) (hM : Mono S0 S) (t_x0 : isO g H 3 x0) (ok : KO_X4_jot_65 N g H T x0 s0 S) (hx : X (KF_X4_jot_65 N g H T x0 s0 S)) : cX G o dX4_jot mX4_jot 65 [some (va_rf (some x0)), none, none, none, none, none] [.int s0] S Q := by
  unfold KO_X4_jot_65 at ok
  unfold KF_X4_jot_65 at hx
  refine c_if_ne (tgt := 70) dX4_jot_65 (by decide) (fun c_65 => ?_) (fun c_65 => ?_)
  · have ok := ok.2 c_65
    have hx := xif_n c_65 hx
    refine c_aload_nQ dX4_jot_70 rfl rfl ?_
    refine c_dup dX4_jot_71 (zcat_rf _) ?_
    refine c_getI (C := RX4) (T := TX4) (N := 10) (ci := 3) (k := 6) ⟨rfl, inT4, by decide, fX4_81⟩ (by decide) (by decide) (by decide) dX4_jot_72 (hS.k t_x0) ?_
    refine c_iconst (v := nI 1) dX4_jot_75 (by decide) ?_
    refine c_iadd dX4_jot_76 ?_
    refine c_putI (C := RX4) (T := TX4) (N := 10) (ci := 3) (k := 6) ⟨rfl, inT4, by decide, fX4_81⟩ ftT4 rfl (by decide) (by decide) (by decide) rfl rfl dX4_jot_77 (hS.k t_x0) ?_
    have hS := hS.I 6 x0 ((cI S 6 x0) + (nI 1))
    have hM := hM.I 6 x0 ((cI S 6 x0) + (nI 1))
    refine c_iconst (v := nI 1) dX4_jot_80 (by decide) ?_
    exact c_ireturn rfl rfl dX4_jot_81 (hR _ _ hS hM hx)
  · have ok := ok.1 c_65
    have hx := xif_p c_65 hx
    refine c_iconst (v := nI 0) dX4_jot_68 (by decide) ?_
    exact c_ireturn rfl rfl dX4_jot_69 (hR _ _ hS hM hx)
def KF_X4_jot_52 (N g H T : Nat) (x0 : Nat) (S : cS) : Int32 × cS := (KF_X4_jot_65 N g H T x0 ((k_X4_write N g H T S x0 ((nI 80) + ((nI 2) * (cI S 6 x0)))).1) (k_X4_write N g H T S x0 ((nI 80) + ((nI 2) * (cI S 6 x0)))).2)
def KO_X4_jot_52 (N g H T : Nat) (x0 : Nat) (S : cS) : Prop := (p_X4_write N g H T S x0 ((nI 80) + ((nI 2) * (cI S 6 x0)))) ∧ KO_X4_jot_65 N g H T x0 ((k_X4_write N g H T S x0 ((nI 80) + ((nI 2) * (cI S 6 x0)))).1) (k_X4_write N g H T S x0 ((nI 80) + ((nI 2) * (cI S 6 x0)))).2
set_option maxRecDepth 100000 in
set_option maxHeartbeats 4000000 in
theorem kb_X4_jot_52 {G : zG} {o : cO} {u g H T N : Nat} {S : cS} {S0 : cS} {Q : Option Value → cS → Prop} {X : Int32 × cS → Prop} (hG : zOK G) (hR : ∀ v S', St u g H T S' → Mono S0 S' → X (v, S') → Q (some (.int v)) S') {x0 : Nat} (hS : St u g H T S) (hM : Mono S0 S) (t_x0 : isO g H 3 x0) (ok : KO_X4_jot_52 N g H T x0 S) (hx : X (KF_X4_jot_52 N g H T x0 S)) : cX G o dX4_jot mX4_jot 52 [some (va_rf (some x0)), none, none, none, none, none] [] S Q := by
  unfold KO_X4_jot_52 at ok
  unfold KF_X4_jot_52 at hx
  refine c_aload_nQ dX4_jot_52 rfl rfl ?_
  refine c_bipush (v := nI 80) dX4_jot_53 (by decide) ?_
  refine c_iconst (v := nI 2) dX4_jot_55 (by decide) ?_
  refine c_aload_nQ dX4_jot_56 rfl rfl ?_
  refine c_getI (C := RX4) (T := TX4) (N := 10) (ci := 3) (k := 6) ⟨rfl, inT4, by decide, fX4_81⟩ (by decide) (by decide) (by decide) dX4_jot_57 (hS.k t_x0) ?_
  refine c_imul dX4_jot_60 ?_
  refine c_iadd dX4_jot_61 ?_
  refine c_V1iK (ci := 3) (rr := (RX4, TX4, 10)) (y' := mX4_write) dX4_jot_62 lX4_64 kX4_write ⟨by decide, by decide⟩ rfl rfl (by decide) (hS.k t_x0) (Nat.le_of_ble_eq_true rfl) (kc_X4_write hG hS t_x0 ok.1) (fun ⟨hS, hm_62⟩ => ?_)
  have hM := hM.trans hm_62
  have ok := ok.2
  exact cX.cutz (kb_X4_jot_65 hG hR hS hM t_x0 ok hx) ⟨rfl, trivial⟩
def KF_X4_jot_31 (N g H T : Nat) (x0 : Nat) (x4 : Option Nat) (x5 : Int32) (S : cS) : Int32 × cS := (if x4 = none then (KF_X4_jot_52 N g H T x0 S) else (KF_X4_jot_52 N g H T x0 (k_X4_add N g H T S x0 (some ((za x4) + 2)) x5 (cI S 2 (za x4)))))
def KO_X4_jot_31 (N g H T : Nat) (x0 : Nat) (x4 : Option Nat) (x5 : Int32) (S : cS) : Prop := ((x4 = none → KO_X4_jot_52 N g H T x0 S) ∧ (¬ x4 = none → (p_X4_add N g H T S x0 (some ((za x4) + 2)) x5 (cI S 2 (za x4))) ∧ KO_X4_jot_52 N g H T x0 (k_X4_add N g H T S x0 (some ((za x4) + 2)) x5 (cI S 2 (za x4)))))
set_option maxRecDepth 100000 in
set_option maxHeartbeats 4000000 in
theorem kb_X4_jot_31 {G : zG} {o : cO} {u g H T N : Nat} {S : cS} {S0 : cS} {Q : Option Value → cS → Prop} {X : Int32 × cS → Prop} (hG : zOK G) (hR : ∀ v S', St u g H T S' → Mono S0 S' → X (v, S') → Q (some (.int v)) S') {x0 : Nat} {x4 : Option Nat} {x5 : Int32} (hS : St u g H T S) (hM : Mono S0 S) (t_x0 : isO g H 3 x0) (t_x4 : tK S 5 x4) (ok : KO_X4_jot_31 N g H T x0 x4 x5 S) (hx : X (KF_X4_jot_31 N g H T x0 x4 x5 S)) : cX G o dX4_jot mX4_jot 31 [some (va_rf (some x0)), none, none, none, some (va_rf x4), some (.int x5)] [] S Q := by
  unfold KO_X4_jot_31 at ok
  unfold KF_X4_jot_31 at hx
  refine c_aloadQ dX4_jot_31 rfl ?_
  refine c_ifnullI (tgt := 52) dX4_jot_33 (by decide) (fun c_33 => ?_) (fun c_33 => ?_)
  · have ok := ok.1 c_33
    have hx := xif_p c_33 hx
    exact cX.cutz (kb_X4_jot_52 hG hR hS hM t_x0 ok hx) ⟨rfl, trivial⟩
  · have ok := ok.2 c_33
    have hx := xif_n c_33 hx
    refine c_aload_nQ dX4_jot_36 rfl rfl ?_
    refine c_aloadQ dX4_jot_37 rfl ?_
    have p_39 := hS.m0k t_x4 c_33
    refine c_getS (C := RX5) (T := TX5) (N := 7) (ci := 4) (k := 0) ⟨rfl, inT5, by decide, fX4_77⟩ (by decide) (by decide) (by decide) dX4_jot_39 (tK.cis t_x4 c_33) (hS.m0 t_x4 c_33) ?_
    refine c_iload dX4_jot_42 rfl ?_
    refine c_aloadQ dX4_jot_44 rfl ?_
    refine c_getI (C := RX5) (T := TX5) (N := 7) (ci := 4) (k := 2) ⟨rfl, inT5, by decide, fX4_80⟩ (by decide) (by decide) (by decide) dX4_jot_46 (tK.cis t_x4 c_33) ?_
    refine c_V3vK (ci := 3) (rr := (RX4, TX4, 10)) (y' := mX4_add) dX4_jot_49 lX4_61 kX4_add ⟨by decide, by decide⟩ rfl rfl (by decide) (hS.k t_x0) (Nat.le_of_ble_eq_true rfl) (kc_X4_add hG hS t_x0 p_39 ok.1) (fun ⟨hS, hm_49⟩ => ?_)
    have hM := hM.trans hm_49
    have ok := ok.2
    exact cX.cutz (kb_X4_jot_52 hG hR hS hM t_x0 ok hx) ⟨rfl, trivial⟩
def KF_X4_jot_10 (N g H T : Nat) (x0 : Nat) (x3 : Int32) (x4 : Option Nat) (x5 : Int32) (S : cS) : Int32 × cS := (KF_X4_jot_31 N g H T x0 x4 x5 (csI (csA S (x0 + 3) (cI S 4 x0).toNatClampNeg ((x3.toInt8.toInt32).toInt8.toInt32)) 4 x0 ((cI (csA S (x0 + 3) (cI S 4 x0).toNatClampNeg ((x3.toInt8.toInt32).toInt8.toInt32)) 4 x0) + (nI 1))))
def KO_X4_jot_10 (N g H T : Nat) (x0 : Nat) (x3 : Int32) (x4 : Option Nat) (x5 : Int32) (S : cS) : Prop := (vp_in (cI S 4 x0) 1024) ∧ KO_X4_jot_31 N g H T x0 x4 x5 (csI (csA S (x0 + 3) (cI S 4 x0).toNatClampNeg ((x3.toInt8.toInt32).toInt8.toInt32)) 4 x0 ((cI (csA S (x0 + 3) (cI S 4 x0).toNatClampNeg ((x3.toInt8.toInt32).toInt8.toInt32)) 4 x0) + (nI 1)))
set_option maxRecDepth 100000 in
set_option maxHeartbeats 4000000 in
theorem kb_X4_jot_10 {G : zG} {o : cO} {u g H T N : Nat} {S : cS} {S0 : cS} {Q : Option Value → cS → Prop} {X : Int32 × cS → Prop} (hG : zOK G) (hR : ∀ v S', St u g H T S' → Mono S0 S' → X (v, S') → Q (some (.int v)) S') {x0 : Nat} {x3 : Int32} {x4 : Option Nat} {x5 : Int32} (hS : St u g H T S) (hM : Mono S0 S) (t_x0 : isO g H 3 x0) (t_x4 : tK S 5 x4) (ok : KO_X4_jot_10 N g H T x0 x3 x4 x5 S) (hx : X (KF_X4_jot_10 N g H T x0 x3 x4 x5 S)) : cX G o dX4_jot mX4_jot 10 [some (va_rf (some x0)), none, none, some (.int x3), some (va_rf x4), some (.int x5)] [] S Q := by
  unfold KO_X4_jot_10 at ok
  unfold KF_X4_jot_10 at hx
  refine c_aload_nQ dX4_jot_10 rfl rfl ?_
  refine c_getS (C := RX4) (T := TX4) (N := 10) (ci := 3) (k := 2) ⟨rfl, inT4, by decide, fX4_21⟩ (by decide) (by decide) (by decide) dX4_jot_11 (hS.k t_x0) (hS.r (c := 3) t_x0 rfl (by omega)) ?_
  refine c_aload_nQ dX4_jot_14 rfl rfl ?_
  refine c_getI (C := RX4) (T := TX4) (N := 10) (ci := 3) (k := 4) ⟨rfl, inT4, by decide, fX4_32⟩ (by decide) (by decide) (by decide) dX4_jot_15 (hS.k t_x0) ?_
  refine c_iload_n dX4_jot_18 rfl rfl ?_
  refine c_i2b dX4_jot_19 ?_
  refine c_bast dX4_jot_20 ⟨(tK.cis (hS.rk (c := 3) (k := 2) t_x0 rfl (by omega)) (Option.some_ne_none _)), (vk_cast (hS.rl (c := 3) (k := 2) t_x0 rfl (by decide) (by omega)) ok.1)⟩ ?_
  have hS := hS.Ab (x0 + 3) (cI S 4 x0).toNatClampNeg (x3.toInt8.toInt32)
  have hM := hM.A (x0 + 3) (cI S 4 x0).toNatClampNeg ((x3.toInt8.toInt32).toInt8.toInt32)
  have ok := ok.2
  refine c_aload_nQ dX4_jot_21 rfl rfl ?_
  refine c_dup dX4_jot_22 (zcat_rf _) ?_
  refine c_getI (C := RX4) (T := TX4) (N := 10) (ci := 3) (k := 4) ⟨rfl, inT4, by decide, fX4_32⟩ (by decide) (by decide) (by decide) dX4_jot_23 (hS.k t_x0) ?_
  refine c_iconst (v := nI 1) dX4_jot_26 (by decide) ?_
  refine c_iadd dX4_jot_27 ?_
  refine c_putI (C := RX4) (T := TX4) (N := 10) (ci := 3) (k := 4) ⟨rfl, inT4, by decide, fX4_32⟩ ftT4 rfl (by decide) (by decide) (by decide) rfl rfl dX4_jot_28 (hS.k t_x0) ?_
  have hS := hS.I 4 x0 ((cI (csA S (x0 + 3) (cI S 4 x0).toNatClampNeg ((x3.toInt8.toInt32).toInt8.toInt32)) 4 x0) + (nI 1))
  have hM := hM.I 4 x0 ((cI (csA S (x0 + 3) (cI S 4 x0).toNatClampNeg ((x3.toInt8.toInt32).toInt8.toInt32)) 4 x0) + (nI 1))
  exact cX.cutz (kb_X4_jot_31 hG hR hS hM t_x0 (tK_I (tK_A t_x4)) ok hx) ⟨rfl, rfl, rfl, trivial⟩
def KF_X4_jot_0 (N g H T : Nat) (x0 : Nat) (x1 : Int32) (x2 : Int32) (x3 : Int32) (x4 : Option Nat) (x5 : Int32) (S : cS) : Int32 × cS := (KF_X4_jot_10 N g H T x0 x3 x4 x5 (k_X4_open N g H T S x0 x1 x2 (cI S 6 x0)))
def KO_X4_jot_0 (N g H T : Nat) (x0 : Nat) (x1 : Int32) (x2 : Int32) (x3 : Int32) (x4 : Option Nat) (x5 : Int32) (S : cS) : Prop := (p_X4_open N g H T S x0 x1 x2 (cI S 6 x0)) ∧ KO_X4_jot_10 N g H T x0 x3 x4 x5 (k_X4_open N g H T S x0 x1 x2 (cI S 6 x0))
set_option maxRecDepth 100000 in
set_option maxHeartbeats 4000000 in
theorem kb_X4_jot_0 {G : zG} {o : cO} {u g H T N : Nat} {S : cS} {S0 : cS} {Q : Option Value → cS → Prop} {X : Int32 × cS → Prop} (hG : zOK G) (hR : ∀ v S', St u g H T S' → Mono S0 S' → X (v, S') → Q (some (.int v)) S') {x0 : Nat} {x1 : Int32} {x2 : Int32} {x3 : Int32} {x4 : Option Nat} {x5 : Int32} (hS : St u g H T S) (hM : Mono S0 S) (t_x0 : isO g H 3 x0) (t_x4 : tK S 5 x4) (ok : KO_X4_jot_0 N g H T x0 x1 x2 x3 x4 x5 S) (hx : X (KF_X4_jot_0 N g H T x0 x1 x2 x3 x4 x5 S)) : cX G o dX4_jot mX4_jot 0 [some (va_rf (some x0)), some (.int x1), some (.int x2), some (.int x3), some (va_rf x4), some (.int x5)] [] S Q := by
  unfold KO_X4_jot_0 at ok
  unfold KF_X4_jot_0 at hx
  refine c_aload_nQ dX4_jot_0 rfl rfl ?_
  refine c_iload_n dX4_jot_1 rfl rfl ?_
  refine c_iload_n dX4_jot_2 rfl rfl ?_
  refine c_aload_nQ dX4_jot_3 rfl rfl ?_
  refine c_getI (C := RX4) (T := TX4) (N := 10) (ci := 3) (k := 6) ⟨rfl, inT4, by decide, fX4_81⟩ (by decide) (by decide) (by decide) dX4_jot_4 (hS.k t_x0) ?_
  refine c_V3vK (ci := 3) (rr := (RX4, TX4, 10)) (y' := mX4_open) dX4_jot_7 lX4_57 kX4_open ⟨by decide, by decide⟩ rfl rfl (by decide) (hS.k t_x0) (Nat.le_of_ble_eq_true rfl) (kc_X4_open hG hS t_x0 ok.1) (fun ⟨hS, hm_7⟩ => ?_)
  have hM := hM.trans hm_7
  have ok := ok.2
  exact cX.cutz (kb_X4_jot_10 hG hR hS hM t_x0 (hm_7.tK t_x4 (by decide)) ok hx) ⟨rfl, rfl, rfl, rfl, trivial⟩
def k_X4_jot (N g H T : Nat) (S : cS) (a0 : Nat) (x1 : Int32) (x2 : Int32) (x3 : Int32) (x4 : Option Nat) (x5 : Int32) : Int32 × cS := KF_X4_jot_0 N g H T a0 x1 x2 x3 x4 x5 S
def p_X4_jot (N g H T : Nat) (S : cS) (a0 : Nat) (x1 : Int32) (x2 : Int32) (x3 : Int32) (x4 : Option Nat) (x5 : Int32) : Prop := KO_X4_jot_0 N g H T a0 x1 x2 x3 x4 x5 S
set_option maxRecDepth 100000 in
set_option maxHeartbeats 4000000 in
theorem kc_X4_jot {G : zG} {o : cO} {u g H T N : Nat} {S : cS} (hG : zOK G) {a0 : Nat} {x1 : Int32} {x2 : Int32} {x3 : Int32} {x4 : Option Nat} {x5 : Int32} (hS : St u g H T S) (t_x0 : isO g H 3 a0) (t_x4 : tK S 5 x4) (ok : p_X4_jot N g H T S a0 x1 x2 x3 x4 x5) : cCi G o dX4_jot mX4_jot [.ref a0, .int x1, .int x2, .int x3, va_rf x4, .int x5] S (fun v S' => (v = (k_X4_jot N g H T S a0 x1 x2 x3 x4 x5).1 ∧ S' = (k_X4_jot N g H T S a0 x1 x2 x3 x4 x5).2) ∧ St u g H T S' ∧ Mono S S') := by
  refine cC.ofX rfl (by cases x4 <;> exact Nat.le_of_ble_eq_true rfl) ?_
  rw [show zargs mX4_jot.2.2.1 [.ref a0, .int x1, .int x2, .int x3, va_rf x4, .int x5] = [some (va_rf (some a0)), some (.int x1), some (.int x2), some (.int x3), some (va_rf x4), some (.int x5)] from by cases x4 <;> rfl]
  exact cX.cutz (kb_X4_jot_0 (X := fun F => F = k_X4_jot N g H T S a0 x1 x2 x3 x4 x5) hG (fun v S' h1 h2 h => ⟨v, rfl, ⟨by rw [← h], by rw [← h]⟩, h1, h2⟩) hS Mono.rfl' t_x0 t_x4 ok rfl) ⟨rfl, rfl, rfl, rfl, rfl, rfl, trivial⟩
/-! X6_setTimer -/
def KF_X6_setTimer_36 (N g H T : Nat)  (S : cS) : cS := S
def KO_X6_setTimer_36 (N g H T : Nat)  (S : cS) : Prop := True
set_option maxRecDepth 100000 in
set_option maxHeartbeats 4000000 in
theorem kb_X6_setTimer_36 {G : zG} {o : cO} {u g H T N : Nat} {S : cS} {S0 : cS} {Q : Option Value → cS → Prop} {X : cS → Prop} (hG : zOK G) (hR : ∀ S', St u g H T S' → Mono S0 S' → X S' → Q none S') (hS : St u g H T S) (hM : Mono S0 S) (ok : KO_X6_setTimer_36 N g H T S) (hx : X (KF_X6_setTimer_36 N g H T S)) : cX G o dX6_setTimer mX6_setTimer 36 [none, none] [] S Q := by
  unfold KO_X6_setTimer_36 at ok
  unfold KF_X6_setTimer_36 at hx
  exact c_return rfl dX6_setTimer_36 (hR _ hS hM hx)
def KF_X6_setTimer_0 (N g H T : Nat) (x0 : Option Nat) (x1 : Int32) (S : cS) : cS := (if x1 < 0 then (KF_X6_setTimer_36 N g H T S) else (if (nI 3) ≤ x1 then (KF_X6_setTimer_36 N g H T S) else (KF_X6_setTimer_36 N g H T (csA S ((za x0) + 12) x1.toNatClampNeg (((cI S 10 (g + 11)) + (nI 4)) + (cI S 10 (za x0)))))))
def KO_X6_setTimer_0 (N g H T : Nat) (x0 : Option Nat) (x1 : Int32) (S : cS) : Prop := ((x1 < 0 → KO_X6_setTimer_36 N g H T S) ∧ (¬ x1 < 0 → (¬ x0 = none) ∧ (((nI 3) ≤ x1 → KO_X6_setTimer_36 N g H T S) ∧ (¬ (nI 3) ≤ x1 → (vp_in x1 3) ∧ KO_X6_setTimer_36 N g H T (csA S ((za x0) + 12) x1.toNatClampNeg (((cI S 10 (g + 11)) + (nI 4)) + (cI S 10 (za x0))))))))
set_option maxRecDepth 100000 in
set_option maxHeartbeats 4000000 in
theorem kb_X6_setTimer_0 {G : zG} {o : cO} {u g H T N : Nat} {S : cS} {S0 : cS} {Q : Option Value → cS → Prop} {X : cS → Prop} (hG : zOK G) (hR : ∀ S', St u g H T S' → Mono S0 S' → X S' → Q none S') {x0 : Option Nat} {x1 : Int32} (hS : St u g H T S) (hM : Mono S0 S) (t_x0 : tN g H x0) (ok : KO_X6_setTimer_0 N g H T x0 x1 S) (hx : X (KF_X6_setTimer_0 N g H T x0 x1 S)) : cX G o dX6_setTimer mX6_setTimer 0 [some (va_rf x0), some (.int x1)] [] S Q := by
  unfold KO_X6_setTimer_0 at ok
  unfold KF_X6_setTimer_0 at hx
  refine c_iload_n dX6_setTimer_0 rfl rfl ?_
  refine c_if_lt (tgt := 36) dX6_setTimer_1 (by decide) (fun c_1 => ?_) (fun c_1 => ?_)
  · have ok := ok.1 c_1
    have hx := xif_p c_1 hx
    exact cX.cutz (kb_X6_setTimer_36 hG hR hS hM  ok hx) trivial
  · have ok := ok.2 c_1
    have hx := xif_n c_1 hx
    refine c_iload_n dX6_setTimer_4 rfl rfl ?_
    refine c_aload_nQ dX6_setTimer_5 rfl rfl ?_
    have nn_6 := ok.1
    refine c_getS (C := RX6) (T := TX6) (N := 19) (ci := 5) (k := 6) ⟨rfl, inT6, by decide, fX6_29⟩ (by decide) (by decide) (by decide) dX6_setTimer_6 (hS.kN t_x0 ok.1) (hS.r (c := 5) (tN.o t_x0 ok.1) rfl (by omega)) ?_
    have ok := ok.2
    refine c_alenS (t := 1) (ty := .int) rfl dX6_setTimer_9 (tK.cis (hS.rk (c := 5) (k := 6) (tN.o t_x0 nn_6) rfl (by omega)) (Option.some_ne_none _)) (hS.rl (c := 5) (k := 6) (tN.o t_x0 nn_6) rfl (by decide) (by omega)) ?_
    refine c_icmp_ge (tgt := 36) dX6_setTimer_10 (by decide) (fun c_10 => ?_) (fun c_10 => ?_)
    · have ok := ok.1 c_10
      have hx := xif_p c_10 hx
      exact cX.cutz (kb_X6_setTimer_36 hG hR hS hM  ok hx) trivial
    · have ok := ok.2 c_10
      have hx := xif_n c_10 hx
      refine c_aload_nQ dX6_setTimer_13 rfl rfl ?_
      refine c_getS (C := RX6) (T := TX6) (N := 19) (ci := 5) (k := 6) ⟨rfl, inT6, by decide, fX6_29⟩ (by decide) (by decide) (by decide) dX6_setTimer_14 (hS.kN t_x0 nn_6) (hS.r (c := 5) (tN.o t_x0 nn_6) rfl (by omega)) ?_
      refine c_iload_n dX6_setTimer_17 rfl rfl ?_
      refine c_aload_nQ dX6_setTimer_18 rfl rfl ?_
      refine c_getS (C := RX6) (T := TX6) (N := 19) (ci := 5) (k := 0) ⟨rfl, inT6, by decide, fX6_56⟩ (by decide) (by decide) (by decide) dX6_setTimer_19 (hS.kN t_x0 nn_6) (hS.r (c := 5) (tN.o t_x0 nn_6) rfl (by omega)) ?_
      refine c_getS (C := RX10) (T := TX10) (N := 12) (ci := 8) (k := 6) ⟨rfl, inT10, by decide, fX6_65⟩ (by decide) (by decide) (by decide) dX6_setTimer_22 (hS.k (o50 (tN.o t_x0 nn_6))) (hS.r (c := 8) (o50 (tN.o t_x0 nn_6)) rfl (by omega)) ?_
      refine c_getI (C := RX9) (T := TX9) (N := 13) (ci := 7) (k := 10) ⟨rfl, inT9, by decide, fX6_81⟩ (by decide) (by decide) (by decide) dX6_setTimer_25 (hS.k (o86 (o50 (tN.o t_x0 nn_6)))) ?_
      refine c_iconst (v := nI 4) dX6_setTimer_28 (by decide) ?_
      refine c_iadd dX6_setTimer_29 ?_
      refine c_aload_nQ dX6_setTimer_30 rfl rfl ?_
      refine c_getI (C := RX6) (T := TX6) (N := 19) (ci := 5) (k := 10) ⟨rfl, inT6, by decide, fX6_86⟩ (by decide) (by decide) (by decide) dX6_setTimer_31 (hS.kN t_x0 nn_6) ?_
      refine c_iadd dX6_setTimer_34 ?_
      have tq_35 : tK S 21 (some ((za x0) + 12)) := tK_some (tK.cis (hS.rk (c := 5) (k := 6) (tN.o t_x0 nn_6) rfl (by omega)) (Option.some_ne_none _)).2
      refine c_iast hG dX6_setTimer_35 ⟨(tK.cis (hS.rk (c := 5) (k := 6) (tN.o t_x0 nn_6) rfl (by omega)) (Option.some_ne_none _)), (vk_cast (hS.rl (c := 5) (k := 6) (tN.o t_x0 nn_6) rfl (by decide) (by omega)) ok.1)⟩ ?_
      have hS := hS.Aw (k := 21) ((za x0) + 12) x1.toNatClampNeg (((cI S 10 (g + 11)) + (nI 4)) + (cI S 10 (za x0))) tq_35 (by decide)
      have hM := hM.A ((za x0) + 12) x1.toNatClampNeg (((cI S 10 (g + 11)) + (nI 4)) + (cI S 10 (za x0)))
      have ok := ok.2
      exact cX.cutz (kb_X6_setTimer_36 hG hR hS hM  ok hx) trivial
def k_X6_setTimer (N g H T : Nat) (S : cS) (a0 : Nat) (x1 : Int32) : cS := KF_X6_setTimer_0 N g H T (some a0) x1 S
def p_X6_setTimer (N g H T : Nat) (S : cS) (a0 : Nat) (x1 : Int32) : Prop := KO_X6_setTimer_0 N g H T (some a0) x1 S
set_option maxRecDepth 100000 in
set_option maxHeartbeats 4000000 in
theorem kc_X6_setTimer {G : zG} {o : cO} {u g H T N : Nat} {S : cS} (hG : zOK G) {a0 : Nat} {x1 : Int32} (hS : St u g H T S) (t_x0 : isO g H 5 a0) (ok : p_X6_setTimer N g H T S a0 x1) : cCv G o dX6_setTimer mX6_setTimer [.ref a0, .int x1] S (fun S' => S' = k_X6_setTimer N g H T S a0 x1 ∧ St u g H T S' ∧ Mono S S') := by
  refine cC.ofX rfl (by exact Nat.le_of_ble_eq_true rfl) ?_
  show cX G o dX6_setTimer mX6_setTimer 0 [some (va_rf (some a0)), some (.int x1)] [] S _
  exact cX.cutz (kb_X6_setTimer_0 (X := fun F => F = k_X6_setTimer N g H T S a0 x1) hG (fun S' h1 h2 h => ⟨rfl, h, h1, h2⟩) hS Mono.rfl' (tN_some t_x0) ok rfl) ⟨rfl, rfl, trivial⟩
/-! X6_timersSet -/
def KF_X6_timersSet_43 (N g H T : Nat) (s0 : Int32) (s1 : Int32) (S : cS) : Int32 := (s0 + s1)
def KO_X6_timersSet_43 (N g H T : Nat) (s0 : Int32) (s1 : Int32) (S : cS) : Prop := True
set_option maxRecDepth 100000 in
set_option maxHeartbeats 4000000 in
theorem kb_X6_timersSet_43 {G : zG} {o : cO} {u g H T N : Nat} {S : cS} {Q : Option Value → cS → Prop} {X : Int32 → Prop} (hG : zOK G) (hR : ∀ v, X v → Q (some (.int v)) S) {s0 : Int32} {s1 : Int32} (hS : St u g H T S) (ok : KO_X6_timersSet_43 N g H T s0 s1 S) (hx : X (KF_X6_timersSet_43 N g H T s0 s1 S)) : cX G o dX6_timersSet mX6_timersSet 43 [none] [.int s1, .int s0] S Q := by
  unfold KO_X6_timersSet_43 at ok
  unfold KF_X6_timersSet_43 at hx
  refine c_iadd dX6_timersSet_43 ?_
  exact c_ireturn rfl rfl dX6_timersSet_44 (hR _ hx)
def KF_X6_timersSet_28 (N g H T : Nat) (x0 : Option Nat) (s0 : Int32) (s1 : Int32) (S : cS) : Int32 := (if (cA S ((za x0) + 12) (nI 2).toNatClampNeg) ≤ 0 then (KF_X6_timersSet_43 N g H T (s0 + s1) (nI 0) S) else (KF_X6_timersSet_43 N g H T (s0 + s1) (nI 4) S))
def KO_X6_timersSet_28 (N g H T : Nat) (x0 : Option Nat) (s0 : Int32) (s1 : Int32) (S : cS) : Prop := (¬ x0 = none) ∧ (vp_in (nI 2) 3) ∧ (((cA S ((za x0) + 12) (nI 2).toNatClampNeg) ≤ 0 → KO_X6_timersSet_43 N g H T (s0 + s1) (nI 0) S) ∧ (¬ (cA S ((za x0) + 12) (nI 2).toNatClampNeg) ≤ 0 → KO_X6_timersSet_43 N g H T (s0 + s1) (nI 4) S))
set_option maxRecDepth 100000 in
set_option maxHeartbeats 4000000 in
theorem kb_X6_timersSet_28 {G : zG} {o : cO} {u g H T N : Nat} {S : cS} {Q : Option Value → cS → Prop} {X : Int32 → Prop} (hG : zOK G) (hR : ∀ v, X v → Q (some (.int v)) S) {x0 : Option Nat} {s0 : Int32} {s1 : Int32} (hS : St u g H T S) (t_x0 : tN g H x0) (ok : KO_X6_timersSet_28 N g H T x0 s0 s1 S) (hx : X (KF_X6_timersSet_28 N g H T x0 s0 s1 S)) : cX G o dX6_timersSet mX6_timersSet 28 [some (va_rf x0)] [.int s1, .int s0] S Q := by
  unfold KO_X6_timersSet_28 at ok
  unfold KF_X6_timersSet_28 at hx
  refine c_iadd dX6_timersSet_28 ?_
  refine c_aload_nQ dX6_timersSet_29 rfl rfl ?_
  have nn_30 := ok.1
  refine c_getS (C := RX6) (T := TX6) (N := 19) (ci := 5) (k := 6) ⟨rfl, inT6, by decide, fX6_29⟩ (by decide) (by decide) (by decide) dX6_timersSet_30 (hS.kN t_x0 ok.1) (hS.r (c := 5) (tN.o t_x0 ok.1) rfl (by omega)) ?_
  have ok := ok.2
  refine c_iconst (v := nI 2) dX6_timersSet_33 (by decide) ?_
  refine c_iald dX6_timersSet_34 ⟨(tK.cis (hS.rk (c := 5) (k := 6) (tN.o t_x0 nn_30) rfl (by omega)) (Option.some_ne_none _)), (vk_cast (hS.rl (c := 5) (k := 6) (tN.o t_x0 nn_30) rfl (by decide) (by omega)) ok.1)⟩ ?_
  have ok := ok.2
  refine c_if_le (tgt := 42) dX6_timersSet_35 (by decide) (fun c_35 => ?_) (fun c_35 => ?_)
  · have ok := ok.1 c_35
    have hx := xif_p c_35 hx
    refine c_iconst (v := nI 0) dX6_timersSet_42 (by decide) ?_
    exact cX.cutz (kb_X6_timersSet_43 hG hR hS  ok hx) trivial
  · have ok := ok.2 c_35
    have hx := xif_n c_35 hx
    refine c_iconst (v := nI 4) dX6_timersSet_38 (by decide) ?_
    refine c_goto (tgt := 43) dX6_timersSet_39 (by decide) ?_
    exact cX.cutz (kb_X6_timersSet_43 hG hR hS  ok hx) trivial
def KF_X6_timersSet_14 (N g H T : Nat) (x0 : Option Nat) (s0 : Int32) (S : cS) : Int32 := (if (cA S ((za x0) + 12) (nI 1).toNatClampNeg) ≤ 0 then (KF_X6_timersSet_28 N g H T x0 s0 (nI 0) S) else (KF_X6_timersSet_28 N g H T x0 s0 (nI 2) S))
def KO_X6_timersSet_14 (N g H T : Nat) (x0 : Option Nat) (s0 : Int32) (S : cS) : Prop := (¬ x0 = none) ∧ (vp_in (nI 1) 3) ∧ (((cA S ((za x0) + 12) (nI 1).toNatClampNeg) ≤ 0 → KO_X6_timersSet_28 N g H T x0 s0 (nI 0) S) ∧ (¬ (cA S ((za x0) + 12) (nI 1).toNatClampNeg) ≤ 0 → KO_X6_timersSet_28 N g H T x0 s0 (nI 2) S))
set_option maxRecDepth 100000 in
set_option maxHeartbeats 4000000 in
theorem kb_X6_timersSet_14 {G : zG} {o : cO} {u g H T N : Nat} {S : cS} {Q : Option Value → cS → Prop} {X : Int32 → Prop} (hG : zOK G) (hR : ∀ v, X v → Q (some (.int v)) S) {x0 : Option Nat} {s0 : Int32} (hS : St u g H T S) (t_x0 : tN g H x0) (ok : KO_X6_timersSet_14 N g H T x0 s0 S) (hx : X (KF_X6_timersSet_14 N g H T x0 s0 S)) : cX G o dX6_timersSet mX6_timersSet 14 [some (va_rf x0)] [.int s0] S Q := by
  unfold KO_X6_timersSet_14 at ok
  unfold KF_X6_timersSet_14 at hx
  refine c_aload_nQ dX6_timersSet_14 rfl rfl ?_
  have nn_15 := ok.1
  refine c_getS (C := RX6) (T := TX6) (N := 19) (ci := 5) (k := 6) ⟨rfl, inT6, by decide, fX6_29⟩ (by decide) (by decide) (by decide) dX6_timersSet_15 (hS.kN t_x0 ok.1) (hS.r (c := 5) (tN.o t_x0 ok.1) rfl (by omega)) ?_
  have ok := ok.2
  refine c_iconst (v := nI 1) dX6_timersSet_18 (by decide) ?_
  refine c_iald dX6_timersSet_19 ⟨(tK.cis (hS.rk (c := 5) (k := 6) (tN.o t_x0 nn_15) rfl (by omega)) (Option.some_ne_none _)), (vk_cast (hS.rl (c := 5) (k := 6) (tN.o t_x0 nn_15) rfl (by decide) (by omega)) ok.1)⟩ ?_
  have ok := ok.2
  refine c_if_le (tgt := 27) dX6_timersSet_20 (by decide) (fun c_20 => ?_) (fun c_20 => ?_)
  · have ok := ok.1 c_20
    have hx := xif_p c_20 hx
    refine c_iconst (v := nI 0) dX6_timersSet_27 (by decide) ?_
    exact cX.cutz (kb_X6_timersSet_28 hG hR hS t_x0 ok hx) ⟨rfl, trivial⟩
  · have ok := ok.2 c_20
    have hx := xif_n c_20 hx
    refine c_iconst (v := nI 2) dX6_timersSet_23 (by decide) ?_
    refine c_goto (tgt := 28) dX6_timersSet_24 (by decide) ?_
    exact cX.cutz (kb_X6_timersSet_28 hG hR hS t_x0 ok hx) ⟨rfl, trivial⟩
def KF_X6_timersSet_0 (N g H T : Nat) (x0 : Option Nat) (S : cS) : Int32 := (if (cA S ((za x0) + 12) (nI 0).toNatClampNeg) ≤ 0 then (KF_X6_timersSet_14 N g H T x0 (nI 0) S) else (KF_X6_timersSet_14 N g H T x0 (nI 1) S))
def KO_X6_timersSet_0 (N g H T : Nat) (x0 : Option Nat) (S : cS) : Prop := (¬ x0 = none) ∧ (vp_in (nI 0) 3) ∧ (((cA S ((za x0) + 12) (nI 0).toNatClampNeg) ≤ 0 → KO_X6_timersSet_14 N g H T x0 (nI 0) S) ∧ (¬ (cA S ((za x0) + 12) (nI 0).toNatClampNeg) ≤ 0 → KO_X6_timersSet_14 N g H T x0 (nI 1) S))
set_option maxRecDepth 100000 in
set_option maxHeartbeats 4000000 in
theorem kb_X6_timersSet_0 {G : zG} {o : cO} {u g H T N : Nat} {S : cS} {Q : Option Value → cS → Prop} {X : Int32 → Prop} (hG : zOK G) (hR : ∀ v, X v → Q (some (.int v)) S) {x0 : Option Nat} (hS : St u g H T S) (t_x0 : tN g H x0) (ok : KO_X6_timersSet_0 N g H T x0 S) (hx : X (KF_X6_timersSet_0 N g H T x0 S)) : cX G o dX6_timersSet mX6_timersSet 0 [some (va_rf x0)] [] S Q := by
  unfold KO_X6_timersSet_0 at ok
  unfold KF_X6_timersSet_0 at hx
  refine c_aload_nQ dX6_timersSet_0 rfl rfl ?_
  have nn_1 := ok.1
  refine c_getS (C := RX6) (T := TX6) (N := 19) (ci := 5) (k := 6) ⟨rfl, inT6, by decide, fX6_29⟩ (by decide) (by decide) (by decide) dX6_timersSet_1 (hS.kN t_x0 ok.1) (hS.r (c := 5) (tN.o t_x0 ok.1) rfl (by omega)) ?_
  have ok := ok.2
  refine c_iconst (v := nI 0) dX6_timersSet_4 (by decide) ?_
  refine c_iald dX6_timersSet_5 ⟨(tK.cis (hS.rk (c := 5) (k := 6) (tN.o t_x0 nn_1) rfl (by omega)) (Option.some_ne_none _)), (vk_cast (hS.rl (c := 5) (k := 6) (tN.o t_x0 nn_1) rfl (by decide) (by omega)) ok.1)⟩ ?_
  have ok := ok.2
  refine c_if_le (tgt := 13) dX6_timersSet_6 (by decide) (fun c_6 => ?_) (fun c_6 => ?_)
  · have ok := ok.1 c_6
    have hx := xif_p c_6 hx
    refine c_iconst (v := nI 0) dX6_timersSet_13 (by decide) ?_
    exact cX.cutz (kb_X6_timersSet_14 hG hR hS t_x0 ok hx) ⟨rfl, trivial⟩
  · have ok := ok.2 c_6
    have hx := xif_n c_6 hx
    refine c_iconst (v := nI 1) dX6_timersSet_9 (by decide) ?_
    refine c_goto (tgt := 14) dX6_timersSet_10 (by decide) ?_
    exact cX.cutz (kb_X6_timersSet_14 hG hR hS t_x0 ok hx) ⟨rfl, trivial⟩
def k_X6_timersSet (N g H T : Nat) (S : cS) (a0 : Nat) : Int32 := KF_X6_timersSet_0 N g H T (some a0) S
def p_X6_timersSet (N g H T : Nat) (S : cS) (a0 : Nat) : Prop := KO_X6_timersSet_0 N g H T (some a0) S
set_option maxRecDepth 100000 in
set_option maxHeartbeats 4000000 in
theorem kc_X6_timersSet {G : zG} {o : cO} {u g H T N : Nat} {S : cS} (hG : zOK G) {a0 : Nat} (hS : St u g H T S) (t_x0 : isO g H 5 a0) (ok : p_X6_timersSet N g H T S a0) : cCi G o dX6_timersSet mX6_timersSet [.ref a0] S (fun v S' => (v = k_X6_timersSet N g H T S a0 ∧ S' = S)) := by
  refine cC.ofX rfl (by exact Nat.le_of_ble_eq_true rfl) ?_
  show cX G o dX6_timersSet mX6_timersSet 0 [some (va_rf (some a0))] [] S _
  exact cX.cutz (kb_X6_timersSet_0 (X := fun F => F = k_X6_timersSet N g H T S a0) hG (fun v h => ⟨v, rfl, h, rfl⟩) hS (tN_some t_x0) ok rfl) ⟨rfl, trivial⟩
/-! J7_fill_53178 -/
def KF_J7_fill_53178_20 (N g H T : Nat)  (S : cS) : cS := S
def KO_J7_fill_53178_20 (N g H T : Nat)  (S : cS) : Prop := True
set_option maxRecDepth 100000 in
set_option maxHeartbeats 4000000 in
theorem kb_J7_fill_53178_20 {G : zG} {o : cO} {u g H T N : Nat} {S : cS} {S0 : cS} {Q : Option Value → cS → Prop} {X : cS → Prop} (hG : zOK G) (hR : ∀ S', St u g H T S' → Mono S0 S' → X S' → Q none S') (hS : St u g H T S) (hM : Mono S0 S) (ok : KO_J7_fill_53178_20 N g H T S) (hx : X (KF_J7_fill_53178_20 N g H T S)) : cX G o dJ7_fill_53178 mJ7_fill_53178 20 [none, none, none, none] [] S Q := by
  unfold KO_J7_fill_53178_20 at ok
  unfold KF_J7_fill_53178_20 at hx
  exact c_return rfl dJ7_fill_53178_20 (hR _ hS hM hx)
def KB_J7_fill_53178_5 (N g H T : Nat) (rec : Option Nat → Int32 → Int32 → Int32 → cS → Nat × cS) (x0 : Option Nat) (x1 : Int32) (x2 : Int32) (x3 : Int32) (S : cS) : Nat × cS := (if x3 ≤ x2 then (0, S) else (rec x0 x1 (x2 + nI 1) x3 (csA S (za x0) x2.toNatClampNeg x1)))
def KOB_J7_fill_53178_5 (N g H T : Nat) (rok : Option Nat → Int32 → Int32 → Int32 → cS → Prop) (x0 : Option Nat) (x1 : Int32) (x2 : Int32) (x3 : Int32) (S : cS) : Prop := ((x3 ≤ x2 → True) ∧ (¬ x3 ≤ x2 → (¬ x0 = none ∧ vp_in x2 (cL S (za x0))) ∧ rok x0 x1 (x2 + nI 1) x3 (csA S (za x0) x2.toNatClampNeg x1)))
set_option maxRecDepth 100000 in
set_option maxHeartbeats 4000000 in
theorem kbb_J7_fill_53178_5 {G : zG} {o : cO} {u g H T N : Nat} {S : cS} {S0 : cS} {Q : Option Value → cS → Prop} {X : Nat × cS → Prop} (hG : zOK G) (hX0 : ∀ (S' : cS), St u g H T S' → Mono S0 S' → X (0, S') → cX G o dJ7_fill_53178 mJ7_fill_53178 20 [none, none, none, none] [] S' Q) {rec : Option Nat → Int32 → Int32 → Int32 → cS → Nat × cS} {rok : Option Nat → Int32 → Int32 → Int32 → cS → Prop} (hrec : ∀ (x0 : Option Nat) (x1 : Int32) (x2 : Int32) (x3 : Int32) (S : cS), St u g H T S → Mono S0 S → tK S 21 x0 → rok x0 x1 x2 x3 S → X (rec x0 x1 x2 x3 S) → cX G o dJ7_fill_53178 mJ7_fill_53178 5 [some (va_rf x0), some (.int x1), some (.int x2), some (.int x3)] [] S Q) {x0 : Option Nat} {x1 : Int32} {x2 : Int32} {x3 : Int32} (hS : St u g H T S) (hM : Mono S0 S) (t_x0 : tK S 21 x0) (ok : KOB_J7_fill_53178_5 N g H T rok x0 x1 x2 x3 S) (hx : X (KB_J7_fill_53178_5 N g H T rec x0 x1 x2 x3 S)) : cX G o dJ7_fill_53178 mJ7_fill_53178 5 [some (va_rf x0), some (.int x1), some (.int x2), some (.int x3)] [] S Q := by
  unfold KOB_J7_fill_53178_5 at ok
  unfold KB_J7_fill_53178_5 at hx
  refine c_iload_n dJ7_fill_53178_5 rfl rfl ?_
  refine c_iload_n dJ7_fill_53178_6 rfl rfl ?_
  refine c_icmp_ge (tgt := 20) dJ7_fill_53178_7 (by decide) (fun c_7 => ?_) (fun c_7 => ?_)
  · have ok := ok.1 c_7
    have hx := xif_p c_7 hx
    exact cX.cutz (hX0 S hS hM  hx) trivial
  · have ok := ok.2 c_7
    have hx := xif_n c_7 hx
    refine c_aload_nQ dJ7_fill_53178_10 rfl rfl ?_
    refine c_iload_n dJ7_fill_53178_11 rfl rfl ?_
    refine c_iload_n dJ7_fill_53178_12 rfl rfl ?_
    have tq_13 : tK S 21 (some (za x0)) := tK_some (tK.cis t_x0 ok.1.1).2
    refine c_iast hG dJ7_fill_53178_13 ⟨(tK.cis t_x0 ok.1.1), ok.1.2⟩ ?_
    have hS := hS.Aw (k := 21) (za x0) x2.toNatClampNeg x1 tq_13 (by decide)
    have hM := hM.A (za x0) x2.toNatClampNeg x1
    have ok := ok.2
    refine c_iinc_2 (v := (x2 + nI 1)) dJ7_fill_53178_14 rfl (by first | rfl | (congr 1)) (by decide) rfl ?_
    refine c_goto (tgt := 5) dJ7_fill_53178_17 (by decide) ?_
    exact cX.cutz (hrec _ _ _ _ (csA S (za x0) x2.toNatClampNeg x1) hS hM (tK_A t_x0) ok hx) ⟨rfl, rfl, rfl, rfl, trivial⟩
def KL_J7_fill_53178_5 (N g H T : Nat) : Nat → Option Nat → Int32 → Int32 → Int32 → cS → Nat × cS
  | 0, x0, x1, x2, x3, S => (0, S)
  | n + 1, x0, x1, x2, x3, S => KB_J7_fill_53178_5 N g H T (KL_J7_fill_53178_5 N g H T n) x0 x1 x2 x3 S
def KOL_J7_fill_53178_5 (N g H T : Nat) : Nat → Option Nat → Int32 → Int32 → Int32 → cS → Prop
  | 0, _, _, _, _, _ => False
  | n + 1, x0, x1, x2, x3, S => KOB_J7_fill_53178_5 N g H T (KOL_J7_fill_53178_5 N g H T n) x0 x1 x2 x3 S
set_option maxRecDepth 100000 in
set_option maxHeartbeats 4000000 in
theorem kl_J7_fill_53178_5 {G : zG} {o : cO} {u g H T N : Nat} {S0 : cS} {Q : Option Value → cS → Prop} {X : Nat × cS → Prop} (hG : zOK G) (hX0 : ∀ (S' : cS), St u g H T S' → Mono S0 S' → X (0, S') → cX G o dJ7_fill_53178 mJ7_fill_53178 20 [none, none, none, none] [] S' Q) : ∀ (n : Nat) (x0 : Option Nat) (x1 : Int32) (x2 : Int32) (x3 : Int32) (S : cS), St u g H T S → Mono S0 S → tK S 21 x0 → KOL_J7_fill_53178_5 N g H T n x0 x1 x2 x3 S → X (KL_J7_fill_53178_5 N g H T n x0 x1 x2 x3 S) → cX G o dJ7_fill_53178 mJ7_fill_53178 5 [some (va_rf x0), some (.int x1), some (.int x2), some (.int x3)] [] S Q := by
  intro n
  induction n with
  | zero => intro x0 x1 x2 x3 S hS hM t_x0 ok; exact absurd ok id
  | succ n ih =>
    intro x0 x1 x2 x3 S hS hM t_x0 ok hx
    exact kbb_J7_fill_53178_5 hG hX0 (rec := KL_J7_fill_53178_5 N g H T n) (rok := KOL_J7_fill_53178_5 N g H T n) (fun x0 x1 x2 x3 S hS hM t_x0 ok hx => ih x0 x1 x2 x3 S hS hM t_x0 ok hx) hS hM t_x0 ok hx
def KA_J7_fill_53178_5 (N g H T : Nat) (x0 : Option Nat) (x1 : Int32) (x2 : Int32) (x3 : Int32) (S : cS) (z : Nat × cS) : cS := (KF_J7_fill_53178_20 N g H T z.2)
def KOA_J7_fill_53178_5 (N g H T : Nat) (x0 : Option Nat) (x1 : Int32) (x2 : Int32) (x3 : Int32) (S : cS) (z : Nat × cS) : Prop := KO_J7_fill_53178_20 N g H T z.2
set_option maxRecDepth 100000 in
set_option maxHeartbeats 4000000 in
theorem kd_J7_fill_53178_5 {G : zG} {o : cO} {u g H T N : Nat} {S : cS} {S0 : cS} {Q : Option Value → cS → Prop} {X : cS → Prop} (hG : zOK G) (hR : ∀ S', St u g H T S' → Mono S0 S' → X S' → Q none S') {x0 : Option Nat} {x1 : Int32} {x2 : Int32} {x3 : Int32} (hS : St u g H T S) (hM : Mono S0 S) (t_x0 : tK S 21 x0) (ok : KOL_J7_fill_53178_5 N g H T N x0 x1 x2 x3 S ∧ KOA_J7_fill_53178_5 N g H T x0 x1 x2 x3 S (KL_J7_fill_53178_5 N g H T N x0 x1 x2 x3 S)) (hx : X (KA_J7_fill_53178_5 N g H T x0 x1 x2 x3 S (KL_J7_fill_53178_5 N g H T N x0 x1 x2 x3 S))) : cX G o dJ7_fill_53178 mJ7_fill_53178 5 [some (va_rf x0), some (.int x1), some (.int x2), some (.int x3)] [] S Q := by
  refine kl_J7_fill_53178_5 hG ?_ N x0 x1 x2 x3 S hS hM t_x0 ok.1 (X := fun z => KOA_J7_fill_53178_5 N g H T x0 x1 x2 x3 S z ∧ X (KA_J7_fill_53178_5 N g H T x0 x1 x2 x3 S z)) ⟨ok.2, hx⟩
  · intro S' hS hM hz
    obtain ⟨ok, hx⟩ := hz
    unfold KOA_J7_fill_53178_5 at ok
    unfold KA_J7_fill_53178_5 at hx
    exact cX.cutz (kb_J7_fill_53178_20 hG hR hS hM  ok hx) trivial
def KF_J7_fill_53178_0 (N g H T : Nat) (x0 : Option Nat) (x1 : Int32) (S : cS) : cS := (KA_J7_fill_53178_5 N g H T x0 x1 (nI 0) (nI (cL S (za x0))) S (KL_J7_fill_53178_5 N g H T N x0 x1 (nI 0) (nI (cL S (za x0))) S))
def KO_J7_fill_53178_0 (N g H T : Nat) (x0 : Option Nat) (x1 : Int32) (S : cS) : Prop := (¬ x0 = none) ∧ (KOL_J7_fill_53178_5 N g H T N x0 x1 (nI 0) (nI (cL S (za x0))) S ∧ KOA_J7_fill_53178_5 N g H T x0 x1 (nI 0) (nI (cL S (za x0))) S (KL_J7_fill_53178_5 N g H T N x0 x1 (nI 0) (nI (cL S (za x0))) S))
set_option maxRecDepth 100000 in
set_option maxHeartbeats 4000000 in
theorem kb_J7_fill_53178_0 {G : zG} {o : cO} {u g H T N : Nat} {S : cS} {S0 : cS} {Q : Option Value → cS → Prop} {X : cS → Prop} (hG : zOK G) (hR : ∀ S', St u g H T S' → Mono S0 S' → X S' → Q none S') {x0 : Option Nat} {x1 : Int32} (hS : St u g H T S) (hM : Mono S0 S) (t_x0 : tK S 21 x0) (ok : KO_J7_fill_53178_0 N g H T x0 x1 S) (hx : X (KF_J7_fill_53178_0 N g H T x0 x1 S)) : cX G o dJ7_fill_53178 mJ7_fill_53178 0 [some (va_rf x0), some (.int x1), none, none] [] S Q := by
  unfold KO_J7_fill_53178_0 at ok
  unfold KF_J7_fill_53178_0 at hx
  refine c_iconst (v := nI 0) dJ7_fill_53178_0 (by decide) ?_
  refine c_istore_2 dJ7_fill_53178_1 (by decide) rfl ?_
  refine c_aload_nQ dJ7_fill_53178_2 rfl rfl ?_
  refine c_alenS (t := 1) (ty := .int) rfl dJ7_fill_53178_3 (tK.cis t_x0 ok.1) rfl ?_
  have ok := ok.2
  refine c_istore_3 dJ7_fill_53178_4 (by decide) rfl ?_
  exact cX.cutz (kd_J7_fill_53178_5 hG hR hS hM t_x0 ok hx) ⟨rfl, rfl, rfl, rfl, trivial⟩
def k_J7_fill_53178 (N g H T : Nat) (S : cS) (x0 : Option Nat) (x1 : Int32) : cS := KF_J7_fill_53178_0 N g H T x0 x1 S
def p_J7_fill_53178 (N g H T : Nat) (S : cS) (x0 : Option Nat) (x1 : Int32) : Prop := KO_J7_fill_53178_0 N g H T x0 x1 S
set_option maxRecDepth 100000 in
set_option maxHeartbeats 4000000 in
theorem kc_J7_fill_53178 {G : zG} {o : cO} {u g H T N : Nat} {S : cS} (hG : zOK G) {x0 : Option Nat} {x1 : Int32} (hS : St u g H T S) (t_x0 : tK S 21 x0) (ok : p_J7_fill_53178 N g H T S x0 x1) : cCv G o dJ7_fill_53178 mJ7_fill_53178 [va_rf x0, .int x1] S (fun S' => S' = k_J7_fill_53178 N g H T S x0 x1 ∧ St u g H T S' ∧ Mono S S') := by
  refine cC.ofX rfl (by cases x0 <;> exact Nat.le_of_ble_eq_true rfl) ?_
  rw [show zargs mJ7_fill_53178.2.2.1 [va_rf x0, .int x1] = [some (va_rf x0), some (.int x1), none, none] from by cases x0 <;> rfl]
  exact cX.cutz (kb_J7_fill_53178_0 (X := fun F => F = k_J7_fill_53178 N g H T S x0 x1) hG (fun S' h1 h2 h => ⟨rfl, h, h1, h2⟩) hS Mono.rfl' t_x0 ok rfl) ⟨rfl, rfl, trivial⟩
/-! X8_clear -/
def KF_X8_clear_231 (N g H T : Nat) (x0 : Nat) (x3 : Int32) (x4 : Int32) (S : cS) : cS := (csA S (x0 + 3) x3.toNatClampNeg x4)
def KO_X8_clear_231 (N g H T : Nat) (x0 : Nat) (x3 : Int32) (x4 : Int32) (S : cS) : Prop := (vp_in x3 2) ∧ True
set_option maxRecDepth 100000 in
set_option maxHeartbeats 4000000 in
theorem kb_X8_clear_231 {G : zG} {o : cO} {u g H T N : Nat} {S : cS} {S0 : cS} {Q : Option Value → cS → Prop} {X : cS → Prop} (hG : zOK G) (hR : ∀ S', St u g H T S' → Mono S0 S' → X S' → Q none S') {x0 : Nat} {x3 : Int32} {x4 : Int32} (hS : St u g H T S) (hM : Mono S0 S) (t_x0 : isO g H 6 x0) (ok : KO_X8_clear_231 N g H T x0 x3 x4 S) (hx : X (KF_X8_clear_231 N g H T x0 x3 x4 S)) : cX G o dX8_clear mX8_clear 231 [some (va_rf (some x0)), none, none, some (.int x3), some (.int x4), none, none, none, none, none] [] S Q := by
  unfold KO_X8_clear_231 at ok
  unfold KF_X8_clear_231 at hx
  refine c_aload_nQ dX8_clear_231 rfl rfl ?_
  refine c_getS (C := RX8) (T := TX8) (N := 14) (ci := 6) (k := 5) ⟨rfl, inT8, by decide, fX8_21⟩ (by decide) (by decide) (by decide) dX8_clear_232 (hS.k t_x0) (hS.r (c := 6) t_x0 rfl (by omega)) ?_
  refine c_iload_n dX8_clear_235 rfl rfl ?_
  refine c_iload dX8_clear_236 rfl ?_
  have tq_238 : tK S 21 (some (x0 + 3)) := tK_some (tK.cis (hS.rk (c := 6) (k := 5) t_x0 rfl (by omega)) (Option.some_ne_none _)).2
  refine c_iast hG dX8_clear_238 ⟨(tK.cis (hS.rk (c := 6) (k := 5) t_x0 rfl (by omega)) (Option.some_ne_none _)), (vk_cast (hS.rl (c := 6) (k := 5) t_x0 rfl (by decide) (by omega)) ok.1)⟩ ?_
  have hS := hS.Aw (k := 21) (x0 + 3) x3.toNatClampNeg x4 tq_238 (by decide)
  have hM := hM.A (x0 + 3) x3.toNatClampNeg x4
  have ok := ok.2
  exact c_return rfl dX8_clear_239 (hR _ hS hM hx)
def KF_X8_clear_223 (N g H T : Nat) (rec : Nat → Int32 → Int32 → Int32 → Int32 → cS → Nat × Nat × Int32 × Int32 × cS) (x0 : Nat) (x2 : Int32) (x3 : Int32) (x5 : Int32) (s0 : Int32) (S : cS) : Nat × Nat × Int32 × Int32 × cS := (rec x0 x2 x3 s0 (x5 + nI 1) S)
def KO_X8_clear_223 (N g H T : Nat) (rok : Nat → Int32 → Int32 → Int32 → Int32 → cS → Prop) (x0 : Nat) (x2 : Int32) (x3 : Int32) (x5 : Int32) (s0 : Int32) (S : cS) : Prop := rok x0 x2 x3 s0 (x5 + nI 1) S
set_option maxRecDepth 100000 in
set_option maxHeartbeats 4000000 in
theorem kb_X8_clear_223 {G : zG} {o : cO} {u g H T N : Nat} {S : cS} {S0 : cS} {Q : Option Value → cS → Prop} {X : Nat × Nat × Int32 × Int32 × cS → Prop} (hG : zOK G) (hX0 : ∀ (x0 : Nat) (x3 : Int32) (x4 : Int32) (S' : cS), St u g H T S' → Mono S0 S' → isO g H 6 x0 → X (0, x0, x3, x4, S') → cX G o dX8_clear mX8_clear 231 [some (va_rf (some x0)), none, none, some (.int x3), some (.int x4), none, none, none, none, none] [] S' Q) {rec : Nat → Int32 → Int32 → Int32 → Int32 → cS → Nat × Nat × Int32 × Int32 × cS} {rok : Nat → Int32 → Int32 → Int32 → Int32 → cS → Prop} (hrec : ∀ (x0 : Nat) (x2 : Int32) (x3 : Int32) (x4 : Int32) (x5 : Int32) (S : cS), St u g H T S → Mono S0 S → isO g H 6 x0 → rok x0 x2 x3 x4 x5 S → X (rec x0 x2 x3 x4 x5 S) → cX G o dX8_clear mX8_clear 10 [some (va_rf (some x0)), none, some (.int x2), some (.int x3), some (.int x4), some (.int x5), none, none, none, none] [] S Q) {x0 : Nat} {x2 : Int32} {x3 : Int32} {x5 : Int32} {s0 : Int32} (hS : St u g H T S) (hM : Mono S0 S) (t_x0 : isO g H 6 x0) (ok : KO_X8_clear_223 N g H T rok x0 x2 x3 x5 s0 S) (hx : X (KF_X8_clear_223 N g H T rec x0 x2 x3 x5 s0 S)) : cX G o dX8_clear mX8_clear 223 [some (va_rf (some x0)), none, some (.int x2), some (.int x3), none, some (.int x5), none, none, none, none] [.int s0] S Q := by
  unfold KO_X8_clear_223 at ok
  unfold KF_X8_clear_223 at hx
  refine c_istore_4 dX8_clear_223 (by decide) rfl ?_
  refine c_iinc_5 (v := (x5 + nI 1)) dX8_clear_225 rfl (by first | rfl | (congr 1)) (by decide) rfl ?_
  refine c_goto (tgt := 10) dX8_clear_228 (by decide) ?_
  exact cX.cutz (hrec _ _ _ _ _ S hS hM t_x0 ok hx) ⟨rfl, rfl, rfl, rfl, rfl, trivial⟩
def KF_X8_clear_209 (N g H T : Nat) (rec : Nat → Int32 → Int32 → Int32 → Int32 → cS → Nat × Nat × Int32 × Int32 × cS) (x0 : Nat) (x2 : Int32) (x3 : Int32) (x4 : Int32) (x5 : Int32) (x7 : Int32) (S : cS) : Nat × Nat × Int32 × Int32 × cS := (if x7 = 0 then (KF_X8_clear_223 N g H T rec x0 x2 x3 x5 x4 S) else (KF_X8_clear_223 N g H T rec x0 x2 x3 x5 (x5 + (nI 1)) S))
def KO_X8_clear_209 (N g H T : Nat) (rok : Nat → Int32 → Int32 → Int32 → Int32 → cS → Prop) (x0 : Nat) (x2 : Int32) (x3 : Int32) (x4 : Int32) (x5 : Int32) (x7 : Int32) (S : cS) : Prop := ((x7 = 0 → KO_X8_clear_223 N g H T rok x0 x2 x3 x5 x4 S) ∧ (¬ x7 = 0 → KO_X8_clear_223 N g H T rok x0 x2 x3 x5 (x5 + (nI 1)) S))
set_option maxRecDepth 100000 in
set_option maxHeartbeats 4000000 in
theorem kb_X8_clear_209 {G : zG} {o : cO} {u g H T N : Nat} {S : cS} {S0 : cS} {Q : Option Value → cS → Prop} {X : Nat × Nat × Int32 × Int32 × cS → Prop} (hG : zOK G) (hX0 : ∀ (x0 : Nat) (x3 : Int32) (x4 : Int32) (S' : cS), St u g H T S' → Mono S0 S' → isO g H 6 x0 → X (0, x0, x3, x4, S') → cX G o dX8_clear mX8_clear 231 [some (va_rf (some x0)), none, none, some (.int x3), some (.int x4), none, none, none, none, none] [] S' Q) {rec : Nat → Int32 → Int32 → Int32 → Int32 → cS → Nat × Nat × Int32 × Int32 × cS} {rok : Nat → Int32 → Int32 → Int32 → Int32 → cS → Prop} (hrec : ∀ (x0 : Nat) (x2 : Int32) (x3 : Int32) (x4 : Int32) (x5 : Int32) (S : cS), St u g H T S → Mono S0 S → isO g H 6 x0 → rok x0 x2 x3 x4 x5 S → X (rec x0 x2 x3 x4 x5 S) → cX G o dX8_clear mX8_clear 10 [some (va_rf (some x0)), none, some (.int x2), some (.int x3), some (.int x4), some (.int x5), none, none, none, none] [] S Q) {x0 : Nat} {x2 : Int32} {x3 : Int32} {x4 : Int32} {x5 : Int32} {x7 : Int32} (hS : St u g H T S) (hM : Mono S0 S) (t_x0 : isO g H 6 x0) (ok : KO_X8_clear_209 N g H T rok x0 x2 x3 x4 x5 x7 S) (hx : X (KF_X8_clear_209 N g H T rec x0 x2 x3 x4 x5 x7 S)) : cX G o dX8_clear mX8_clear 209 [some (va_rf (some x0)), none, some (.int x2), some (.int x3), some (.int x4), some (.int x5), none, some (.int x7), none, none] [] S Q := by
  unfold KO_X8_clear_209 at ok
  unfold KF_X8_clear_209 at hx
  refine c_iload dX8_clear_209 rfl ?_
  refine c_if_eq (tgt := 221) dX8_clear_211 (by decide) (fun c_211 => ?_) (fun c_211 => ?_)
  · have ok := ok.1 c_211
    have hx := xif_p c_211 hx
    refine c_iload dX8_clear_221 rfl ?_
    exact cX.cutz (kb_X8_clear_223 hG hX0 hrec hS hM t_x0 ok hx) ⟨rfl, rfl, rfl, rfl, trivial⟩
  · have ok := ok.2 c_211
    have hx := xif_n c_211 hx
    refine c_iload dX8_clear_214 rfl ?_
    refine c_iconst (v := nI 1) dX8_clear_216 (by decide) ?_
    refine c_iadd dX8_clear_217 ?_
    refine c_goto (tgt := 223) dX8_clear_218 (by decide) ?_
    exact cX.cutz (kb_X8_clear_223 hG hX0 hrec hS hM t_x0 ok hx) ⟨rfl, rfl, rfl, rfl, trivial⟩
def KF_X8_clear_201 (N g H T : Nat) (rec : Nat → Int32 → Int32 → Int32 → Int32 → Int32 → Int32 → Int32 → cS → Nat × Nat × Int32 × Int32 × Int32 × Int32 × Int32 × cS) (x0 : Nat) (x2 : Int32) (x3 : Int32) (x4 : Int32) (x5 : Int32) (x8 : Int32) (x9 : Int32) (s0 : Int32) (S : cS) : Nat × Nat × Int32 × Int32 × Int32 × Int32 × Int32 × cS := (rec x0 x2 x3 x4 x5 s0 x8 (x9 + nI 1) S)
def KO_X8_clear_201 (N g H T : Nat) (rok : Nat → Int32 → Int32 → Int32 → Int32 → Int32 → Int32 → Int32 → cS → Prop) (x0 : Nat) (x2 : Int32) (x3 : Int32) (x4 : Int32) (x5 : Int32) (x8 : Int32) (x9 : Int32) (s0 : Int32) (S : cS) : Prop := rok x0 x2 x3 x4 x5 s0 x8 (x9 + nI 1) S
set_option maxRecDepth 100000 in
set_option maxHeartbeats 4000000 in
theorem kb_X8_clear_201 {G : zG} {o : cO} {u g H T N : Nat} {S : cS} {S0 : cS} {Q : Option Value → cS → Prop} {X : Nat × Nat × Int32 × Int32 × Int32 × Int32 × Int32 × cS → Prop} (hG : zOK G) (hX0 : ∀ (x0 : Nat) (x2 : Int32) (x3 : Int32) (x4 : Int32) (x5 : Int32) (x7 : Int32) (S' : cS), St u g H T S' → Mono S0 S' → isO g H 6 x0 → X (0, x0, x2, x3, x4, x5, x7, S') → cX G o dX8_clear mX8_clear 209 [some (va_rf (some x0)), none, some (.int x2), some (.int x3), some (.int x4), some (.int x5), none, some (.int x7), none, none] [] S' Q) {rec : Nat → Int32 → Int32 → Int32 → Int32 → Int32 → Int32 → Int32 → cS → Nat × Nat × Int32 × Int32 × Int32 × Int32 × Int32 × cS} {rok : Nat → Int32 → Int32 → Int32 → Int32 → Int32 → Int32 → Int32 → cS → Prop} (hrec : ∀ (x0 : Nat) (x2 : Int32) (x3 : Int32) (x4 : Int32) (x5 : Int32) (x7 : Int32) (x8 : Int32) (x9 : Int32) (S : cS), St u g H T S → Mono S0 S → isO g H 6 x0 → rok x0 x2 x3 x4 x5 x7 x8 x9 S → X (rec x0 x2 x3 x4 x5 x7 x8 x9 S) → cX G o dX8_clear mX8_clear 121 [some (va_rf (some x0)), none, some (.int x2), some (.int x3), some (.int x4), some (.int x5), none, some (.int x7), some (.int x8), some (.int x9)] [] S Q) {x0 : Nat} {x2 : Int32} {x3 : Int32} {x4 : Int32} {x5 : Int32} {x8 : Int32} {x9 : Int32} {s0 : Int32} (hS : St u g H T S) (hM : Mono S0 S) (t_x0 : isO g H 6 x0) (ok : KO_X8_clear_201 N g H T rok x0 x2 x3 x4 x5 x8 x9 s0 S) (hx : X (KF_X8_clear_201 N g H T rec x0 x2 x3 x4 x5 x8 x9 s0 S)) : cX G o dX8_clear mX8_clear 201 [some (va_rf (some x0)), none, some (.int x2), some (.int x3), some (.int x4), some (.int x5), none, none, some (.int x8), some (.int x9)] [.int s0] S Q := by
  unfold KO_X8_clear_201 at ok
  unfold KF_X8_clear_201 at hx
  refine c_istore_7 dX8_clear_201 (by decide) rfl ?_
  refine c_iinc_9 (v := (x9 + nI 1)) dX8_clear_203 rfl (by first | rfl | (congr 1)) (by decide) rfl ?_
  refine c_goto (tgt := 121) dX8_clear_206 (by decide) ?_
  exact cX.cutz (hrec _ _ _ _ _ _ _ _ S hS hM t_x0 ok hx) ⟨rfl, rfl, rfl, rfl, rfl, rfl, rfl, rfl, trivial⟩
def KF_X8_clear_196 (N g H T : Nat) (rec : Nat → Int32 → Int32 → Int32 → Int32 → Int32 → Int32 → Int32 → cS → Nat × Nat × Int32 × Int32 × Int32 × Int32 × Int32 × cS) (x0 : Nat) (x2 : Int32) (x3 : Int32) (x4 : Int32) (x5 : Int32) (x8 : Int32) (x9 : Int32) (S : cS) : Nat × Nat × Int32 × Int32 × Int32 × Int32 × Int32 × cS := (KF_X8_clear_201 N g H T rec x0 x2 x3 x4 x5 x8 x9 (nI 1) S)
def KO_X8_clear_196 (N g H T : Nat) (rok : Nat → Int32 → Int32 → Int32 → Int32 → Int32 → Int32 → Int32 → cS → Prop) (x0 : Nat) (x2 : Int32) (x3 : Int32) (x4 : Int32) (x5 : Int32) (x8 : Int32) (x9 : Int32) (S : cS) : Prop := KO_X8_clear_201 N g H T rok x0 x2 x3 x4 x5 x8 x9 (nI 1) S
set_option maxRecDepth 100000 in
set_option maxHeartbeats 4000000 in
theorem kb_X8_clear_196 {G : zG} {o : cO} {u g H T N : Nat} {S : cS} {S0 : cS} {Q : Option Value → cS → Prop} {X : Nat × Nat × Int32 × Int32 × Int32 × Int32 × Int32 × cS → Prop} (hG : zOK G) (hX0 : ∀ (x0 : Nat) (x2 : Int32) (x3 : Int32) (x4 : Int32) (x5 : Int32) (x7 : Int32) (S' : cS), St u g H T S' → Mono S0 S' → isO g H 6 x0 → X (0, x0, x2, x3, x4, x5, x7, S') → cX G o dX8_clear mX8_clear 209 [some (va_rf (some x0)), none, some (.int x2), some (.int x3), some (.int x4), some (.int x5), none, some (.int x7), none, none] [] S' Q) {rec : Nat → Int32 → Int32 → Int32 → Int32 → Int32 → Int32 → Int32 → cS → Nat × Nat × Int32 × Int32 × Int32 × Int32 × Int32 × cS} {rok : Nat → Int32 → Int32 → Int32 → Int32 → Int32 → Int32 → Int32 → cS → Prop} (hrec : ∀ (x0 : Nat) (x2 : Int32) (x3 : Int32) (x4 : Int32) (x5 : Int32) (x7 : Int32) (x8 : Int32) (x9 : Int32) (S : cS), St u g H T S → Mono S0 S → isO g H 6 x0 → rok x0 x2 x3 x4 x5 x7 x8 x9 S → X (rec x0 x2 x3 x4 x5 x7 x8 x9 S) → cX G o dX8_clear mX8_clear 121 [some (va_rf (some x0)), none, some (.int x2), some (.int x3), some (.int x4), some (.int x5), none, some (.int x7), some (.int x8), some (.int x9)] [] S Q) {x0 : Nat} {x2 : Int32} {x3 : Int32} {x4 : Int32} {x5 : Int32} {x8 : Int32} {x9 : Int32} (hS : St u g H T S) (hM : Mono S0 S) (t_x0 : isO g H 6 x0) (ok : KO_X8_clear_196 N g H T rok x0 x2 x3 x4 x5 x8 x9 S) (hx : X (KF_X8_clear_196 N g H T rec x0 x2 x3 x4 x5 x8 x9 S)) : cX G o dX8_clear mX8_clear 196 [some (va_rf (some x0)), none, some (.int x2), some (.int x3), some (.int x4), some (.int x5), none, none, some (.int x8), some (.int x9)] [] S Q := by
  unfold KO_X8_clear_196 at ok
  unfold KF_X8_clear_196 at hx
  refine c_iconst (v := nI 1) dX8_clear_196 (by decide) ?_
  refine c_goto (tgt := 201) dX8_clear_197 (by decide) ?_
  exact cX.cutz (kb_X8_clear_201 hG hX0 hrec hS hM t_x0 ok hx) ⟨rfl, rfl, rfl, rfl, rfl, rfl, rfl, trivial⟩
def KF_X8_clear_181 (N g H T : Nat) (rec : Nat → Int32 → Int32 → Int32 → Int32 → Int32 → Int32 → Int32 → cS → Nat × Nat × Int32 × Int32 × Int32 × Int32 × Int32 × cS) (x0 : Nat) (x2 : Int32) (x3 : Int32) (x4 : Int32) (x5 : Int32) (x7 : Int32) (x8 : Int32) (x9 : Int32) (S : cS) : Nat × Nat × Int32 × Int32 × Int32 × Int32 × Int32 × cS := (if x7 = 0 then (if (cP S (x0 + 5) x9.toNatClampNeg) = none then (KF_X8_clear_201 N g H T rec x0 x2 x3 x4 x5 x8 x9 (nI 0) S) else (KF_X8_clear_196 N g H T rec x0 x2 x3 x4 x5 x8 x9 S)) else (KF_X8_clear_196 N g H T rec x0 x2 x3 x4 x5 x8 x9 S))
def KO_X8_clear_181 (N g H T : Nat) (rok : Nat → Int32 → Int32 → Int32 → Int32 → Int32 → Int32 → Int32 → cS → Prop) (x0 : Nat) (x2 : Int32) (x3 : Int32) (x4 : Int32) (x5 : Int32) (x7 : Int32) (x8 : Int32) (x9 : Int32) (S : cS) : Prop := ((x7 = 0 → (vp_in x9 (64 * T)) ∧ (((cP S (x0 + 5) x9.toNatClampNeg) = none → KO_X8_clear_201 N g H T rok x0 x2 x3 x4 x5 x8 x9 (nI 0) S) ∧ (¬ (cP S (x0 + 5) x9.toNatClampNeg) = none → KO_X8_clear_196 N g H T rok x0 x2 x3 x4 x5 x8 x9 S))) ∧ (¬ x7 = 0 → KO_X8_clear_196 N g H T rok x0 x2 x3 x4 x5 x8 x9 S))
set_option maxRecDepth 100000 in
set_option maxHeartbeats 4000000 in
theorem kb_X8_clear_181 {G : zG} {o : cO} {u g H T N : Nat} {S : cS} {S0 : cS} {Q : Option Value → cS → Prop} {X : Nat × Nat × Int32 × Int32 × Int32 × Int32 × Int32 × cS → Prop} (hG : zOK G) (hX0 : ∀ (x0 : Nat) (x2 : Int32) (x3 : Int32) (x4 : Int32) (x5 : Int32) (x7 : Int32) (S' : cS), St u g H T S' → Mono S0 S' → isO g H 6 x0 → X (0, x0, x2, x3, x4, x5, x7, S') → cX G o dX8_clear mX8_clear 209 [some (va_rf (some x0)), none, some (.int x2), some (.int x3), some (.int x4), some (.int x5), none, some (.int x7), none, none] [] S' Q) {rec : Nat → Int32 → Int32 → Int32 → Int32 → Int32 → Int32 → Int32 → cS → Nat × Nat × Int32 × Int32 × Int32 × Int32 × Int32 × cS} {rok : Nat → Int32 → Int32 → Int32 → Int32 → Int32 → Int32 → Int32 → cS → Prop} (hrec : ∀ (x0 : Nat) (x2 : Int32) (x3 : Int32) (x4 : Int32) (x5 : Int32) (x7 : Int32) (x8 : Int32) (x9 : Int32) (S : cS), St u g H T S → Mono S0 S → isO g H 6 x0 → rok x0 x2 x3 x4 x5 x7 x8 x9 S → X (rec x0 x2 x3 x4 x5 x7 x8 x9 S) → cX G o dX8_clear mX8_clear 121 [some (va_rf (some x0)), none, some (.int x2), some (.int x3), some (.int x4), some (.int x5), none, some (.int x7), some (.int x8), some (.int x9)] [] S Q) {x0 : Nat} {x2 : Int32} {x3 : Int32} {x4 : Int32} {x5 : Int32} {x7 : Int32} {x8 : Int32} {x9 : Int32} (hS : St u g H T S) (hM : Mono S0 S) (t_x0 : isO g H 6 x0) (ok : KO_X8_clear_181 N g H T rok x0 x2 x3 x4 x5 x7 x8 x9 S) (hx : X (KF_X8_clear_181 N g H T rec x0 x2 x3 x4 x5 x7 x8 x9 S)) : cX G o dX8_clear mX8_clear 181 [some (va_rf (some x0)), none, some (.int x2), some (.int x3), some (.int x4), some (.int x5), none, some (.int x7), some (.int x8), some (.int x9)] [] S Q := by
  unfold KO_X8_clear_181 at ok
  unfold KF_X8_clear_181 at hx
  refine c_iload dX8_clear_181 rfl ?_
  refine c_if_ne (tgt := 196) dX8_clear_183 (by decide) (fun c_183 => ?_) (fun c_183 => ?_)
  · have ok := ok.2 c_183
    have hx := xif_n c_183 hx
    exact cX.cutz (kb_X8_clear_196 hG hX0 hrec hS hM t_x0 ok hx) ⟨rfl, rfl, rfl, rfl, rfl, rfl, rfl, trivial⟩
  · have ok := ok.1 c_183
    have hx := xif_p c_183 hx
    refine c_aload_nQ dX8_clear_186 rfl rfl ?_
    refine c_getS (C := RX8) (T := TX8) (N := 14) (ci := 6) (k := 4) ⟨rfl, inT8, by decide, fX8_36⟩ (by decide) (by decide) (by decide) dX8_clear_187 (hS.k t_x0) (hS.r (c := 6) t_x0 rfl (by omega)) ?_
    refine c_iload dX8_clear_190 rfl ?_
    have p_192 := hS.row24 (hS.rk (c := 6) (k := 4) t_x0 rfl (by omega)) x9.toNatClampNeg
    refine c_aald (t := 4) (ty := (.object "QuorumLedger$Message")) rfl rfl (by decide) dX8_clear_192 ⟨(tK.cis (hS.rk (c := 6) (k := 4) t_x0 rfl (by omega)) (Option.some_ne_none _)), (vk_cast (hS.rl (c := 6) (k := 4) t_x0 rfl (by decide) (by omega)) ok.1)⟩ ?_
    have ok := ok.2
    refine c_ifnullI (tgt := 200) dX8_clear_193 (by decide) (fun c_193 => ?_) (fun c_193 => ?_)
    · have ok := ok.1 c_193
      have hx := xif_p c_193 hx
      refine c_iconst (v := nI 0) dX8_clear_200 (by decide) ?_
      exact cX.cutz (kb_X8_clear_201 hG hX0 hrec hS hM t_x0 ok hx) ⟨rfl, rfl, rfl, rfl, rfl, rfl, rfl, trivial⟩
    · have ok := ok.2 c_193
      have hx := xif_n c_193 hx
      exact cX.cutz (kb_X8_clear_196 hG hX0 hrec hS hM t_x0 ok hx) ⟨rfl, rfl, rfl, rfl, rfl, rfl, rfl, trivial⟩
def KF_X8_clear_173 (N g H T : Nat) (rec : Nat → Int32 → Int32 → Int32 → Int32 → Int32 → Int32 → Int32 → cS → Nat × Nat × Int32 × Int32 × Int32 × Int32 × Int32 × cS) (x0 : Nat) (x2 : Int32) (x3 : Int32) (x4 : Int32) (x5 : Int32) (x7 : Int32) (x8 : Int32) (x9 : Int32) (S : cS) : Nat × Nat × Int32 × Int32 × Int32 × Int32 × Int32 × cS := (KF_X8_clear_181 N g H T rec x0 x2 x3 x4 x5 x7 x8 x9 (csP S (x0 + 5) x9.toNatClampNeg (none : Option Nat)))
def KO_X8_clear_173 (N g H T : Nat) (rok : Nat → Int32 → Int32 → Int32 → Int32 → Int32 → Int32 → Int32 → cS → Prop) (x0 : Nat) (x2 : Int32) (x3 : Int32) (x4 : Int32) (x5 : Int32) (x7 : Int32) (x8 : Int32) (x9 : Int32) (S : cS) : Prop := (vp_in x9 (64 * T)) ∧ KO_X8_clear_181 N g H T rok x0 x2 x3 x4 x5 x7 x8 x9 (csP S (x0 + 5) x9.toNatClampNeg (none : Option Nat))
set_option maxRecDepth 100000 in
set_option maxHeartbeats 4000000 in
theorem kb_X8_clear_173 {G : zG} {o : cO} {u g H T N : Nat} {S : cS} {S0 : cS} {Q : Option Value → cS → Prop} {X : Nat × Nat × Int32 × Int32 × Int32 × Int32 × Int32 × cS → Prop} (hG : zOK G) (hX0 : ∀ (x0 : Nat) (x2 : Int32) (x3 : Int32) (x4 : Int32) (x5 : Int32) (x7 : Int32) (S' : cS), St u g H T S' → Mono S0 S' → isO g H 6 x0 → X (0, x0, x2, x3, x4, x5, x7, S') → cX G o dX8_clear mX8_clear 209 [some (va_rf (some x0)), none, some (.int x2), some (.int x3), some (.int x4), some (.int x5), none, some (.int x7), none, none] [] S' Q) {rec : Nat → Int32 → Int32 → Int32 → Int32 → Int32 → Int32 → Int32 → cS → Nat × Nat × Int32 × Int32 × Int32 × Int32 × Int32 × cS} {rok : Nat → Int32 → Int32 → Int32 → Int32 → Int32 → Int32 → Int32 → cS → Prop} (hrec : ∀ (x0 : Nat) (x2 : Int32) (x3 : Int32) (x4 : Int32) (x5 : Int32) (x7 : Int32) (x8 : Int32) (x9 : Int32) (S : cS), St u g H T S → Mono S0 S → isO g H 6 x0 → rok x0 x2 x3 x4 x5 x7 x8 x9 S → X (rec x0 x2 x3 x4 x5 x7 x8 x9 S) → cX G o dX8_clear mX8_clear 121 [some (va_rf (some x0)), none, some (.int x2), some (.int x3), some (.int x4), some (.int x5), none, some (.int x7), some (.int x8), some (.int x9)] [] S Q) {x0 : Nat} {x2 : Int32} {x3 : Int32} {x4 : Int32} {x5 : Int32} {x7 : Int32} {x8 : Int32} {x9 : Int32} (hS : St u g H T S) (hM : Mono S0 S) (t_x0 : isO g H 6 x0) (ok : KO_X8_clear_173 N g H T rok x0 x2 x3 x4 x5 x7 x8 x9 S) (hx : X (KF_X8_clear_173 N g H T rec x0 x2 x3 x4 x5 x7 x8 x9 S)) : cX G o dX8_clear mX8_clear 173 [some (va_rf (some x0)), none, some (.int x2), some (.int x3), some (.int x4), some (.int x5), none, some (.int x7), some (.int x8), some (.int x9)] [] S Q := by
  unfold KO_X8_clear_173 at ok
  unfold KF_X8_clear_173 at hx
  refine c_aload_nQ dX8_clear_173 rfl rfl ?_
  refine c_getS (C := RX8) (T := TX8) (N := 14) (ci := 6) (k := 4) ⟨rfl, inT8, by decide, fX8_36⟩ (by decide) (by decide) (by decide) dX8_clear_174 (hS.k t_x0) (hS.r (c := 6) t_x0 rfl (by omega)) ?_
  refine c_iload dX8_clear_177 rfl ?_
  refine c_null' dX8_clear_179 ?_
  have hS2 := hS.P24 (i := x9.toNatClampNeg) ((hS.rk (c := 6) (k := 4) t_x0 rfl (by omega)) _ rfl) tK_none
  refine c_aast (t := 4) (ci := 4) (rr := (RX5, TX5, 7)) rfl rfl (by decide) (by decide) dX8_clear_180 ⟨(tK.cis (hS.rk (c := 6) (k := 4) t_x0 rfl (by omega)) (Option.some_ne_none _)), (vk_cast (hS.rl (c := 6) (k := 4) t_x0 rfl (by decide) (by omega)) ok.1), tKor tK_none⟩ ?_
  have hS := hS2
  have hM := hM.P (x0 + 5) x9.toNatClampNeg (none : Option Nat)
  have ok := ok.2
  exact cX.cutz (kb_X8_clear_181 hG hX0 hrec hS hM t_x0 ok hx) ⟨rfl, rfl, rfl, rfl, rfl, rfl, rfl, rfl, trivial⟩
def KB_X8_clear_121 (N g H T : Nat) (rec : Nat → Int32 → Int32 → Int32 → Int32 → Int32 → Int32 → Int32 → cS → Nat × Nat × Int32 × Int32 × Int32 × Int32 × Int32 × cS) (x0 : Nat) (x2 : Int32) (x3 : Int32) (x4 : Int32) (x5 : Int32) (x7 : Int32) (x8 : Int32) (x9 : Int32) (S : cS) : Nat × Nat × Int32 × Int32 × Int32 × Int32 × Int32 × cS := (if (x8 + ((nI 2) * (cI S 1 x0))) ≤ x9 then (0, x0, x2, x3, x4, x5, x7, S) else (if (cP S (x0 + 5) x9.toNatClampNeg) = none then (KF_X8_clear_181 N g H T rec x0 x2 x3 x4 x5 x7 x8 x9 S) else (if (k_X5_signer N g H T S (za (cP S (x0 + 5) x9.toNatClampNeg))) = x2 then (KF_X8_clear_181 N g H T rec x0 x2 x3 x4 x5 x7 x8 x9 S) else (KF_X8_clear_173 N g H T rec x0 x2 x3 x4 x5 x7 x8 x9 (k_X9_drop N g H T S (g + 11) (cP S (x0 + 5) x9.toNatClampNeg))))))
def KOB_X8_clear_121 (N g H T : Nat) (rok : Nat → Int32 → Int32 → Int32 → Int32 → Int32 → Int32 → Int32 → cS → Prop) (x0 : Nat) (x2 : Int32) (x3 : Int32) (x4 : Int32) (x5 : Int32) (x7 : Int32) (x8 : Int32) (x9 : Int32) (S : cS) : Prop := (((x8 + ((nI 2) * (cI S 1 x0))) ≤ x9 → True) ∧ (¬ (x8 + ((nI 2) * (cI S 1 x0))) ≤ x9 → (vp_in x9 (64 * T)) ∧ (((cP S (x0 + 5) x9.toNatClampNeg) = none → KO_X8_clear_181 N g H T rok x0 x2 x3 x4 x5 x7 x8 x9 S) ∧ (¬ (cP S (x0 + 5) x9.toNatClampNeg) = none → (vp_in x9 (64 * T)) ∧ (p_X5_signer N g H T S (za (cP S (x0 + 5) x9.toNatClampNeg))) ∧ (((k_X5_signer N g H T S (za (cP S (x0 + 5) x9.toNatClampNeg))) = x2 → KO_X8_clear_181 N g H T rok x0 x2 x3 x4 x5 x7 x8 x9 S) ∧ (¬ (k_X5_signer N g H T S (za (cP S (x0 + 5) x9.toNatClampNeg))) = x2 → (vp_in x9 (64 * T)) ∧ (p_X9_drop N g H T S (g + 11) (cP S (x0 + 5) x9.toNatClampNeg)) ∧ KO_X8_clear_173 N g H T rok x0 x2 x3 x4 x5 x7 x8 x9 (k_X9_drop N g H T S (g + 11) (cP S (x0 + 5) x9.toNatClampNeg))))))))
set_option maxRecDepth 100000 in
set_option maxHeartbeats 4000000 in
theorem kbb_X8_clear_121 {G : zG} {o : cO} {u g H T N : Nat} {S : cS} {S0 : cS} {Q : Option Value → cS → Prop} {X : Nat × Nat × Int32 × Int32 × Int32 × Int32 × Int32 × cS → Prop} (hG : zOK G) (hX0 : ∀ (x0 : Nat) (x2 : Int32) (x3 : Int32) (x4 : Int32) (x5 : Int32) (x7 : Int32) (S' : cS), St u g H T S' → Mono S0 S' → isO g H 6 x0 → X (0, x0, x2, x3, x4, x5, x7, S') → cX G o dX8_clear mX8_clear 209 [some (va_rf (some x0)), none, some (.int x2), some (.int x3), some (.int x4), some (.int x5), none, some (.int x7), none, none] [] S' Q) {rec : Nat → Int32 → Int32 → Int32 → Int32 → Int32 → Int32 → Int32 → cS → Nat × Nat × Int32 × Int32 × Int32 × Int32 × Int32 × cS} {rok : Nat → Int32 → Int32 → Int32 → Int32 → Int32 → Int32 → Int32 → cS → Prop} (hrec : ∀ (x0 : Nat) (x2 : Int32) (x3 : Int32) (x4 : Int32) (x5 : Int32) (x7 : Int32) (x8 : Int32) (x9 : Int32) (S : cS), St u g H T S → Mono S0 S → isO g H 6 x0 → rok x0 x2 x3 x4 x5 x7 x8 x9 S → X (rec x0 x2 x3 x4 x5 x7 x8 x9 S) → cX G o dX8_clear mX8_clear 121 [some (va_rf (some x0)), none, some (.int x2), some (.int x3), some (.int x4), some (.int x5), none, some (.int x7), some (.int x8), some (.int x9)] [] S Q) {x0 : Nat} {x2 : Int32} {x3 : Int32} {x4 : Int32} {x5 : Int32} {x7 : Int32} {x8 : Int32} {x9 : Int32} (hS : St u g H T S) (hM : Mono S0 S) (t_x0 : isO g H 6 x0) (ok : KOB_X8_clear_121 N g H T rok x0 x2 x3 x4 x5 x7 x8 x9 S) (hx : X (KB_X8_clear_121 N g H T rec x0 x2 x3 x4 x5 x7 x8 x9 S)) : cX G o dX8_clear mX8_clear 121 [some (va_rf (some x0)), none, some (.int x2), some (.int x3), some (.int x4), some (.int x5), none, some (.int x7), some (.int x8), some (.int x9)] [] S Q := by
  unfold KOB_X8_clear_121 at ok
  unfold KB_X8_clear_121 at hx
  refine c_iload dX8_clear_121 rfl ?_
  refine c_iload dX8_clear_123 rfl ?_
  refine c_iconst (v := nI 2) dX8_clear_125 (by decide) ?_
  refine c_aload_nQ dX8_clear_126 rfl rfl ?_
  refine c_getI (C := RX8) (T := TX8) (N := 14) (ci := 6) (k := 1) ⟨rfl, inT8, by decide, fX8_32⟩ (by decide) (by decide) (by decide) dX8_clear_127 (hS.k t_x0) ?_
  refine c_imul dX8_clear_130 ?_
  refine c_iadd dX8_clear_131 ?_
  refine c_icmp_ge (tgt := 209) dX8_clear_132 (by decide) (fun c_132 => ?_) (fun c_132 => ?_)
  · have ok := ok.1 c_132
    have hx := xif_p c_132 hx
    exact cX.cutz (hX0 _ _ _ _ _ _ S hS hM t_x0 hx) ⟨rfl, rfl, rfl, rfl, rfl, rfl, trivial⟩
  · have ok := ok.2 c_132
    have hx := xif_n c_132 hx
    refine c_aload_nQ dX8_clear_135 rfl rfl ?_
    refine c_getS (C := RX8) (T := TX8) (N := 14) (ci := 6) (k := 4) ⟨rfl, inT8, by decide, fX8_36⟩ (by decide) (by decide) (by decide) dX8_clear_136 (hS.k t_x0) (hS.r (c := 6) t_x0 rfl (by omega)) ?_
    refine c_iload dX8_clear_139 rfl ?_
    have p_141 := hS.row24 (hS.rk (c := 6) (k := 4) t_x0 rfl (by omega)) x9.toNatClampNeg
    refine c_aald (t := 4) (ty := (.object "QuorumLedger$Message")) rfl rfl (by decide) dX8_clear_141 ⟨(tK.cis (hS.rk (c := 6) (k := 4) t_x0 rfl (by omega)) (Option.some_ne_none _)), (vk_cast (hS.rl (c := 6) (k := 4) t_x0 rfl (by decide) (by omega)) ok.1)⟩ ?_
    have ok := ok.2
    refine c_ifnullI (tgt := 181) dX8_clear_142 (by decide) (fun c_142 => ?_) (fun c_142 => ?_)
    · have ok := ok.1 c_142
      have hx := xif_p c_142 hx
      exact cX.cutz (kb_X8_clear_181 hG hX0 hrec hS hM t_x0 ok hx) ⟨rfl, rfl, rfl, rfl, rfl, rfl, rfl, rfl, trivial⟩
    · have ok := ok.2 c_142
      have hx := xif_n c_142 hx
      refine c_aload_nQ dX8_clear_145 rfl rfl ?_
      refine c_getS (C := RX8) (T := TX8) (N := 14) (ci := 6) (k := 4) ⟨rfl, inT8, by decide, fX8_36⟩ (by decide) (by decide) (by decide) dX8_clear_146 (hS.k t_x0) (hS.r (c := 6) t_x0 rfl (by omega)) ?_
      refine c_iload dX8_clear_149 rfl ?_
      have p_151 := hS.row24 (hS.rk (c := 6) (k := 4) t_x0 rfl (by omega)) x9.toNatClampNeg
      refine c_aald (t := 4) (ty := (.object "QuorumLedger$Message")) rfl rfl (by decide) dX8_clear_151 ⟨(tK.cis (hS.rk (c := 6) (k := 4) t_x0 rfl (by omega)) (Option.some_ne_none _)), (vk_cast (hS.rl (c := 6) (k := 4) t_x0 rfl (by decide) (by omega)) ok.1)⟩ ?_
      have ok := ok.2
      refine c_V0iE (ci := 4) (rr := (RX5, TX5, 7)) (y' := mX5_signer) dX8_clear_152 lX8_62 kX5_signer ⟨by decide, by decide⟩ rfl rfl (by decide) (tK.cis p_151 c_142) (Nat.le_of_ble_eq_true rfl) (kc_X5_signer hG hS (p_151 _ (za_of c_142)) ok.1) ?_
      have ok := ok.2
      refine c_iload_n dX8_clear_155 rfl rfl ?_
      refine c_icmp_eq (tgt := 181) dX8_clear_156 (by decide) (fun c_156 => ?_) (fun c_156 => ?_)
      · have ok := ok.1 c_156
        have hx := xif_p c_156 hx
        exact cX.cutz (kb_X8_clear_181 hG hX0 hrec hS hM t_x0 ok hx) ⟨rfl, rfl, rfl, rfl, rfl, rfl, rfl, rfl, trivial⟩
      · have ok := ok.2 c_156
        have hx := xif_n c_156 hx
        refine c_aload_nQ dX8_clear_159 rfl rfl ?_
        refine c_getS (C := RX8) (T := TX8) (N := 14) (ci := 6) (k := 0) ⟨rfl, inT8, by decide, fX8_28⟩ (by decide) (by decide) (by decide) dX8_clear_160 (hS.k t_x0) (hS.r (c := 6) t_x0 rfl (by omega)) ?_
        refine c_aload_nQ dX8_clear_163 rfl rfl ?_
        refine c_getS (C := RX8) (T := TX8) (N := 14) (ci := 6) (k := 4) ⟨rfl, inT8, by decide, fX8_36⟩ (by decide) (by decide) (by decide) dX8_clear_164 (hS.k t_x0) (hS.r (c := 6) t_x0 rfl (by omega)) ?_
        refine c_iload dX8_clear_167 rfl ?_
        have p_169 := hS.row24 (hS.rk (c := 6) (k := 4) t_x0 rfl (by omega)) x9.toNatClampNeg
        refine c_aald (t := 4) (ty := (.object "QuorumLedger$Message")) rfl rfl (by decide) dX8_clear_169 ⟨(tK.cis (hS.rk (c := 6) (k := 4) t_x0 rfl (by omega)) (Option.some_ne_none _)), (vk_cast (hS.rl (c := 6) (k := 4) t_x0 rfl (by decide) (by omega)) ok.1)⟩ ?_
        have ok := ok.2
        refine c_V1vK (ci := 7) (rr := (RX9, TX9, 13)) (y' := mX9_drop) dX8_clear_170 lX8_91 kX9_drop ⟨by decide, by decide⟩ rfl rfl (by decide) (hS.k (o60 t_x0)) (Nat.le_of_ble_eq_true rfl) (kc_X9_drop hG hS (o60 t_x0) p_169 ok.1) (fun ⟨hS, hm_170⟩ => ?_)
        have hM := hM.trans hm_170
        have ok := ok.2
        exact cX.cutz (kb_X8_clear_173 hG hX0 hrec hS hM t_x0 ok hx) ⟨rfl, rfl, rfl, rfl, rfl, rfl, rfl, rfl, trivial⟩
def KL_X8_clear_121 (N g H T : Nat) : Nat → Nat → Int32 → Int32 → Int32 → Int32 → Int32 → Int32 → Int32 → cS → Nat × Nat × Int32 × Int32 × Int32 × Int32 × Int32 × cS
  | 0, x0, x2, x3, x4, x5, x7, x8, x9, S => (0, 0, 0, 0, 0, 0, 0, S)
  | n + 1, x0, x2, x3, x4, x5, x7, x8, x9, S => KB_X8_clear_121 N g H T (KL_X8_clear_121 N g H T n) x0 x2 x3 x4 x5 x7 x8 x9 S
def KOL_X8_clear_121 (N g H T : Nat) : Nat → Nat → Int32 → Int32 → Int32 → Int32 → Int32 → Int32 → Int32 → cS → Prop
  | 0, _, _, _, _, _, _, _, _, _ => False
  | n + 1, x0, x2, x3, x4, x5, x7, x8, x9, S => KOB_X8_clear_121 N g H T (KOL_X8_clear_121 N g H T n) x0 x2 x3 x4 x5 x7 x8 x9 S
set_option maxRecDepth 100000 in
set_option maxHeartbeats 4000000 in
theorem kl_X8_clear_121 {G : zG} {o : cO} {u g H T N : Nat} {S0 : cS} {Q : Option Value → cS → Prop} {X : Nat × Nat × Int32 × Int32 × Int32 × Int32 × Int32 × cS → Prop} (hG : zOK G) (hX0 : ∀ (x0 : Nat) (x2 : Int32) (x3 : Int32) (x4 : Int32) (x5 : Int32) (x7 : Int32) (S' : cS), St u g H T S' → Mono S0 S' → isO g H 6 x0 → X (0, x0, x2, x3, x4, x5, x7, S') → cX G o dX8_clear mX8_clear 209 [some (va_rf (some x0)), none, some (.int x2), some (.int x3), some (.int x4), some (.int x5), none, some (.int x7), none, none] [] S' Q) : ∀ (n : Nat) (x0 : Nat) (x2 : Int32) (x3 : Int32) (x4 : Int32) (x5 : Int32) (x7 : Int32) (x8 : Int32) (x9 : Int32) (S : cS), St u g H T S → Mono S0 S → isO g H 6 x0 → KOL_X8_clear_121 N g H T n x0 x2 x3 x4 x5 x7 x8 x9 S → X (KL_X8_clear_121 N g H T n x0 x2 x3 x4 x5 x7 x8 x9 S) → cX G o dX8_clear mX8_clear 121 [some (va_rf (some x0)), none, some (.int x2), some (.int x3), some (.int x4), some (.int x5), none, some (.int x7), some (.int x8), some (.int x9)] [] S Q := by
  intro n
  induction n with
  | zero => intro x0 x2 x3 x4 x5 x7 x8 x9 S hS hM t_x0 ok; exact absurd ok id
  | succ n ih =>
    intro x0 x2 x3 x4 x5 x7 x8 x9 S hS hM t_x0 ok hx
    exact kbb_X8_clear_121 hG hX0 (rec := KL_X8_clear_121 N g H T n) (rok := KOL_X8_clear_121 N g H T n) (fun x0 x2 x3 x4 x5 x7 x8 x9 S hS hM t_x0 ok hx => ih x0 x2 x3 x4 x5 x7 x8 x9 S hS hM t_x0 ok hx) hS hM t_x0 ok hx
def KA_X8_clear_121 (N g H T : Nat) (rec : Nat → Int32 → Int32 → Int32 → Int32 → cS → Nat × Nat × Int32 × Int32 × cS) (x0 : Nat) (x2 : Int32) (x3 : Int32) (x4 : Int32) (x5 : Int32) (x7 : Int32) (x8 : Int32) (x9 : Int32) (S : cS) (z : Nat × Nat × Int32 × Int32 × Int32 × Int32 × Int32 × cS) : Nat × Nat × Int32 × Int32 × cS := (KF_X8_clear_209 N g H T rec (z.2.1) (z.2.2.1) (z.2.2.2.1) (z.2.2.2.2.1) (z.2.2.2.2.2.1) (z.2.2.2.2.2.2.1) z.2.2.2.2.2.2.2)
def KOA_X8_clear_121 (N g H T : Nat) (rok : Nat → Int32 → Int32 → Int32 → Int32 → cS → Prop) (x0 : Nat) (x2 : Int32) (x3 : Int32) (x4 : Int32) (x5 : Int32) (x7 : Int32) (x8 : Int32) (x9 : Int32) (S : cS) (z : Nat × Nat × Int32 × Int32 × Int32 × Int32 × Int32 × cS) : Prop := KO_X8_clear_209 N g H T rok (z.2.1) (z.2.2.1) (z.2.2.2.1) (z.2.2.2.2.1) (z.2.2.2.2.2.1) (z.2.2.2.2.2.2.1) z.2.2.2.2.2.2.2
set_option maxRecDepth 100000 in
set_option maxHeartbeats 4000000 in
theorem kd_X8_clear_121 {G : zG} {o : cO} {u g H T N : Nat} {S : cS} {S0 : cS} {Q : Option Value → cS → Prop} {X : Nat × Nat × Int32 × Int32 × cS → Prop} (hG : zOK G) (hX0 : ∀ (x0 : Nat) (x3 : Int32) (x4 : Int32) (S' : cS), St u g H T S' → Mono S0 S' → isO g H 6 x0 → X (0, x0, x3, x4, S') → cX G o dX8_clear mX8_clear 231 [some (va_rf (some x0)), none, none, some (.int x3), some (.int x4), none, none, none, none, none] [] S' Q) {rec : Nat → Int32 → Int32 → Int32 → Int32 → cS → Nat × Nat × Int32 × Int32 × cS} {rok : Nat → Int32 → Int32 → Int32 → Int32 → cS → Prop} (hrec : ∀ (x0 : Nat) (x2 : Int32) (x3 : Int32) (x4 : Int32) (x5 : Int32) (S : cS), St u g H T S → Mono S0 S → isO g H 6 x0 → rok x0 x2 x3 x4 x5 S → X (rec x0 x2 x3 x4 x5 S) → cX G o dX8_clear mX8_clear 10 [some (va_rf (some x0)), none, some (.int x2), some (.int x3), some (.int x4), some (.int x5), none, none, none, none] [] S Q) {x0 : Nat} {x2 : Int32} {x3 : Int32} {x4 : Int32} {x5 : Int32} {x7 : Int32} {x8 : Int32} {x9 : Int32} (hS : St u g H T S) (hM : Mono S0 S) (t_x0 : isO g H 6 x0) (ok : KOL_X8_clear_121 N g H T N x0 x2 x3 x4 x5 x7 x8 x9 S ∧ KOA_X8_clear_121 N g H T rok x0 x2 x3 x4 x5 x7 x8 x9 S (KL_X8_clear_121 N g H T N x0 x2 x3 x4 x5 x7 x8 x9 S)) (hx : X (KA_X8_clear_121 N g H T rec x0 x2 x3 x4 x5 x7 x8 x9 S (KL_X8_clear_121 N g H T N x0 x2 x3 x4 x5 x7 x8 x9 S))) : cX G o dX8_clear mX8_clear 121 [some (va_rf (some x0)), none, some (.int x2), some (.int x3), some (.int x4), some (.int x5), none, some (.int x7), some (.int x8), some (.int x9)] [] S Q := by
  refine kl_X8_clear_121 hG ?_ N x0 x2 x3 x4 x5 x7 x8 x9 S hS hM t_x0 ok.1 (X := fun z => KOA_X8_clear_121 N g H T rok x0 x2 x3 x4 x5 x7 x8 x9 S z ∧ X (KA_X8_clear_121 N g H T rec x0 x2 x3 x4 x5 x7 x8 x9 S z)) ⟨ok.2, hx⟩
  · intro x0' x2' x3' x4' x5' x7' S' hS hM t_x0 hz
    obtain ⟨ok, hx⟩ := hz
    unfold KOA_X8_clear_121 at ok
    unfold KA_X8_clear_121 at hx
    exact cX.cutz (kb_X8_clear_209 hG hX0 hrec hS hM t_x0 ok hx) ⟨rfl, rfl, rfl, rfl, rfl, rfl, trivial⟩
def KF_X8_clear_106 (N g H T : Nat) (rec : Nat → Int32 → Int32 → Int32 → Int32 → cS → Nat × Nat × Int32 × Int32 × cS) (x0 : Nat) (x2 : Int32) (x3 : Int32) (x4 : Int32) (x5 : Int32) (x6 : Int32) (s0 : Int32) (S : cS) : Nat × Nat × Int32 × Int32 × cS := (KA_X8_clear_121 N g H T rec x0 x2 x3 x4 x5 s0 (k_X8_ballots N g H T S x0 x6 (nI 2)) (k_X8_ballots N g H T S x0 x6 (nI 2)) S (KL_X8_clear_121 N g H T N x0 x2 x3 x4 x5 s0 (k_X8_ballots N g H T S x0 x6 (nI 2)) (k_X8_ballots N g H T S x0 x6 (nI 2)) S))
def KO_X8_clear_106 (N g H T : Nat) (rok : Nat → Int32 → Int32 → Int32 → Int32 → cS → Prop) (x0 : Nat) (x2 : Int32) (x3 : Int32) (x4 : Int32) (x5 : Int32) (x6 : Int32) (s0 : Int32) (S : cS) : Prop := (p_X8_ballots N g H T S x0 x6 (nI 2)) ∧ (KOL_X8_clear_121 N g H T N x0 x2 x3 x4 x5 s0 (k_X8_ballots N g H T S x0 x6 (nI 2)) (k_X8_ballots N g H T S x0 x6 (nI 2)) S ∧ KOA_X8_clear_121 N g H T rok x0 x2 x3 x4 x5 s0 (k_X8_ballots N g H T S x0 x6 (nI 2)) (k_X8_ballots N g H T S x0 x6 (nI 2)) S (KL_X8_clear_121 N g H T N x0 x2 x3 x4 x5 s0 (k_X8_ballots N g H T S x0 x6 (nI 2)) (k_X8_ballots N g H T S x0 x6 (nI 2)) S))
set_option maxRecDepth 100000 in
set_option maxHeartbeats 4000000 in
theorem kb_X8_clear_106 {G : zG} {o : cO} {u g H T N : Nat} {S : cS} {S0 : cS} {Q : Option Value → cS → Prop} {X : Nat × Nat × Int32 × Int32 × cS → Prop} (hG : zOK G) (hX0 : ∀ (x0 : Nat) (x3 : Int32) (x4 : Int32) (S' : cS), St u g H T S' → Mono S0 S' → isO g H 6 x0 → X (0, x0, x3, x4, S') → cX G o dX8_clear mX8_clear 231 [some (va_rf (some x0)), none, none, some (.int x3), some (.int x4), none, none, none, none, none] [] S' Q) {rec : Nat → Int32 → Int32 → Int32 → Int32 → cS → Nat × Nat × Int32 × Int32 × cS} {rok : Nat → Int32 → Int32 → Int32 → Int32 → cS → Prop} (hrec : ∀ (x0 : Nat) (x2 : Int32) (x3 : Int32) (x4 : Int32) (x5 : Int32) (S : cS), St u g H T S → Mono S0 S → isO g H 6 x0 → rok x0 x2 x3 x4 x5 S → X (rec x0 x2 x3 x4 x5 S) → cX G o dX8_clear mX8_clear 10 [some (va_rf (some x0)), none, some (.int x2), some (.int x3), some (.int x4), some (.int x5), none, none, none, none] [] S Q) {x0 : Nat} {x2 : Int32} {x3 : Int32} {x4 : Int32} {x5 : Int32} {x6 : Int32} {s0 : Int32} (hS : St u g H T S) (hM : Mono S0 S) (t_x0 : isO g H 6 x0) (ok : KO_X8_clear_106 N g H T rok x0 x2 x3 x4 x5 x6 s0 S) (hx : X (KF_X8_clear_106 N g H T rec x0 x2 x3 x4 x5 x6 s0 S)) : cX G o dX8_clear mX8_clear 106 [some (va_rf (some x0)), none, some (.int x2), some (.int x3), some (.int x4), some (.int x5), some (.int x6), none, none, none] [.int s0] S Q := by
  unfold KO_X8_clear_106 at ok
  unfold KF_X8_clear_106 at hx
  refine c_istore_7 dX8_clear_106 (by decide) rfl ?_
  refine c_aload_nQ dX8_clear_108 rfl rfl ?_
  refine c_iload dX8_clear_109 rfl ?_
  refine c_iconst (v := nI 2) dX8_clear_111 (by decide) ?_
  refine c_V2iE (ci := 6) (rr := (RX8, TX8, 14)) (y' := mX8_ballots) dX8_clear_112 lX8_69 kX8_ballots ⟨by decide, by decide⟩ rfl rfl (by decide) (hS.k t_x0) (Nat.le_of_ble_eq_true rfl) (kc_X8_ballots hG hS t_x0 ok.1) ?_
  have ok := ok.2
  refine c_istore_8 dX8_clear_115 (by decide) rfl ?_
  refine c_iload dX8_clear_117 rfl ?_
  refine c_istore_9 dX8_clear_119 (by decide) rfl ?_
  exact cX.cutz (kd_X8_clear_121 hG hX0 hrec hS hM t_x0 ok hx) ⟨rfl, rfl, rfl, rfl, rfl, rfl, rfl, rfl, trivial⟩
def KF_X8_clear_83 (N g H T : Nat) (rec : Nat → Int32 → Int32 → Int32 → Int32 → cS → Nat × Nat × Int32 × Int32 × cS) (x0 : Nat) (x2 : Int32) (x3 : Int32) (x4 : Int32) (x5 : Int32) (x6 : Int32) (S : cS) : Nat × Nat × Int32 × Int32 × cS := (if (cP (csA S (x0 + 2) x6.toNatClampNeg (nI 0)) (x0 + 1) x6.toNatClampNeg) = none then (KF_X8_clear_106 N g H T rec x0 x2 x3 x4 x5 x6 (nI 0) (csA S (x0 + 2) x6.toNatClampNeg (nI 0))) else (KF_X8_clear_106 N g H T rec x0 x2 x3 x4 x5 x6 (nI 1) (csA S (x0 + 2) x6.toNatClampNeg (nI 0))))
def KO_X8_clear_83 (N g H T : Nat) (rok : Nat → Int32 → Int32 → Int32 → Int32 → cS → Prop) (x0 : Nat) (x2 : Int32) (x3 : Int32) (x4 : Int32) (x5 : Int32) (x6 : Int32) (S : cS) : Prop := (vp_in x6 32) ∧ (vp_in x6 32) ∧ (((cP (csA S (x0 + 2) x6.toNatClampNeg (nI 0)) (x0 + 1) x6.toNatClampNeg) = none → KO_X8_clear_106 N g H T rok x0 x2 x3 x4 x5 x6 (nI 0) (csA S (x0 + 2) x6.toNatClampNeg (nI 0))) ∧ (¬ (cP (csA S (x0 + 2) x6.toNatClampNeg (nI 0)) (x0 + 1) x6.toNatClampNeg) = none → KO_X8_clear_106 N g H T rok x0 x2 x3 x4 x5 x6 (nI 1) (csA S (x0 + 2) x6.toNatClampNeg (nI 0))))
set_option maxRecDepth 100000 in
set_option maxHeartbeats 4000000 in
theorem kb_X8_clear_83 {G : zG} {o : cO} {u g H T N : Nat} {S : cS} {S0 : cS} {Q : Option Value → cS → Prop} {X : Nat × Nat × Int32 × Int32 × cS → Prop} (hG : zOK G) (hX0 : ∀ (x0 : Nat) (x3 : Int32) (x4 : Int32) (S' : cS), St u g H T S' → Mono S0 S' → isO g H 6 x0 → X (0, x0, x3, x4, S') → cX G o dX8_clear mX8_clear 231 [some (va_rf (some x0)), none, none, some (.int x3), some (.int x4), none, none, none, none, none] [] S' Q) {rec : Nat → Int32 → Int32 → Int32 → Int32 → cS → Nat × Nat × Int32 × Int32 × cS} {rok : Nat → Int32 → Int32 → Int32 → Int32 → cS → Prop} (hrec : ∀ (x0 : Nat) (x2 : Int32) (x3 : Int32) (x4 : Int32) (x5 : Int32) (S : cS), St u g H T S → Mono S0 S → isO g H 6 x0 → rok x0 x2 x3 x4 x5 S → X (rec x0 x2 x3 x4 x5 S) → cX G o dX8_clear mX8_clear 10 [some (va_rf (some x0)), none, some (.int x2), some (.int x3), some (.int x4), some (.int x5), none, none, none, none] [] S Q) {x0 : Nat} {x2 : Int32} {x3 : Int32} {x4 : Int32} {x5 : Int32} {x6 : Int32} (hS : St u g H T S) (hM : Mono S0 S) (t_x0 : isO g H 6 x0) (ok : KO_X8_clear_83 N g H T rok x0 x2 x3 x4 x5 x6 S) (hx : X (KF_X8_clear_83 N g H T rec x0 x2 x3 x4 x5 x6 S)) : cX G o dX8_clear mX8_clear 83 [some (va_rf (some x0)), none, some (.int x2), some (.int x3), some (.int x4), some (.int x5), some (.int x6), none, none, none] [] S Q := by
  unfold KO_X8_clear_83 at ok
  unfold KF_X8_clear_83 at hx
  refine c_aload_nQ dX8_clear_83 rfl rfl ?_
  refine c_getS (C := RX8) (T := TX8) (N := 14) (ci := 6) (k := 3) ⟨rfl, inT8, by decide, fX8_17⟩ (by decide) (by decide) (by decide) dX8_clear_84 (hS.k t_x0) (hS.r (c := 6) t_x0 rfl (by omega)) ?_
  refine c_iload dX8_clear_87 rfl ?_
  refine c_iconst (v := nI 0) dX8_clear_89 (by decide) ?_
  have tq_90 : tK S 21 (some (x0 + 2)) := tK_some (tK.cis (hS.rk (c := 6) (k := 3) t_x0 rfl (by omega)) (Option.some_ne_none _)).2
  refine c_iast hG dX8_clear_90 ⟨(tK.cis (hS.rk (c := 6) (k := 3) t_x0 rfl (by omega)) (Option.some_ne_none _)), (vk_cast (hS.rl (c := 6) (k := 3) t_x0 rfl (by decide) (by omega)) ok.1)⟩ ?_
  have hS := hS.Aw (k := 21) (x0 + 2) x6.toNatClampNeg (nI 0) tq_90 (by decide)
  have hM := hM.A (x0 + 2) x6.toNatClampNeg (nI 0)
  have ok := ok.2
  refine c_aload_nQ dX8_clear_91 rfl rfl ?_
  refine c_getS (C := RX8) (T := TX8) (N := 14) (ci := 6) (k := 2) ⟨rfl, inT8, by decide, fX8_11⟩ (by decide) (by decide) (by decide) dX8_clear_92 (hS.k t_x0) (hS.r (c := 6) t_x0 rfl (by omega)) ?_
  refine c_iload dX8_clear_95 rfl ?_
  have p_97 := hS.row24 (hS.rk (c := 6) (k := 2) t_x0 rfl (by omega)) x6.toNatClampNeg
  refine c_aald (t := 4) (ty := (.object "QuorumLedger$Message")) rfl rfl (by decide) dX8_clear_97 ⟨(tK.cis (hS.rk (c := 6) (k := 2) t_x0 rfl (by omega)) (Option.some_ne_none _)), (vk_cast (hS.rl (c := 6) (k := 2) t_x0 rfl (by decide) (by omega)) ok.1)⟩ ?_
  have ok := ok.2
  refine c_ifnullI (tgt := 105) dX8_clear_98 (by decide) (fun c_98 => ?_) (fun c_98 => ?_)
  · have ok := ok.1 c_98
    have hx := xif_p c_98 hx
    refine c_iconst (v := nI 0) dX8_clear_105 (by decide) ?_
    exact cX.cutz (kb_X8_clear_106 hG hX0 hrec hS hM t_x0 ok hx) ⟨rfl, rfl, rfl, rfl, rfl, rfl, trivial⟩
  · have ok := ok.2 c_98
    have hx := xif_n c_98 hx
    refine c_iconst (v := nI 1) dX8_clear_101 (by decide) ?_
    refine c_goto (tgt := 106) dX8_clear_102 (by decide) ?_
    exact cX.cutz (kb_X8_clear_106 hG hX0 hrec hS hM t_x0 ok hx) ⟨rfl, rfl, rfl, rfl, rfl, rfl, trivial⟩
def KF_X8_clear_75 (N g H T : Nat) (rec : Nat → Int32 → Int32 → Int32 → Int32 → cS → Nat × Nat × Int32 × Int32 × cS) (x0 : Nat) (x2 : Int32) (x3 : Int32) (x4 : Int32) (x5 : Int32) (x6 : Int32) (S : cS) : Nat × Nat × Int32 × Int32 × cS := (KF_X8_clear_83 N g H T rec x0 x2 x3 x4 x5 x6 (csP S (x0 + 1) x6.toNatClampNeg (none : Option Nat)))
def KO_X8_clear_75 (N g H T : Nat) (rok : Nat → Int32 → Int32 → Int32 → Int32 → cS → Prop) (x0 : Nat) (x2 : Int32) (x3 : Int32) (x4 : Int32) (x5 : Int32) (x6 : Int32) (S : cS) : Prop := (vp_in x6 32) ∧ KO_X8_clear_83 N g H T rok x0 x2 x3 x4 x5 x6 (csP S (x0 + 1) x6.toNatClampNeg (none : Option Nat))
set_option maxRecDepth 100000 in
set_option maxHeartbeats 4000000 in
theorem kb_X8_clear_75 {G : zG} {o : cO} {u g H T N : Nat} {S : cS} {S0 : cS} {Q : Option Value → cS → Prop} {X : Nat × Nat × Int32 × Int32 × cS → Prop} (hG : zOK G) (hX0 : ∀ (x0 : Nat) (x3 : Int32) (x4 : Int32) (S' : cS), St u g H T S' → Mono S0 S' → isO g H 6 x0 → X (0, x0, x3, x4, S') → cX G o dX8_clear mX8_clear 231 [some (va_rf (some x0)), none, none, some (.int x3), some (.int x4), none, none, none, none, none] [] S' Q) {rec : Nat → Int32 → Int32 → Int32 → Int32 → cS → Nat × Nat × Int32 × Int32 × cS} {rok : Nat → Int32 → Int32 → Int32 → Int32 → cS → Prop} (hrec : ∀ (x0 : Nat) (x2 : Int32) (x3 : Int32) (x4 : Int32) (x5 : Int32) (S : cS), St u g H T S → Mono S0 S → isO g H 6 x0 → rok x0 x2 x3 x4 x5 S → X (rec x0 x2 x3 x4 x5 S) → cX G o dX8_clear mX8_clear 10 [some (va_rf (some x0)), none, some (.int x2), some (.int x3), some (.int x4), some (.int x5), none, none, none, none] [] S Q) {x0 : Nat} {x2 : Int32} {x3 : Int32} {x4 : Int32} {x5 : Int32} {x6 : Int32} (hS : St u g H T S) (hM : Mono S0 S) (t_x0 : isO g H 6 x0) (ok : KO_X8_clear_75 N g H T rok x0 x2 x3 x4 x5 x6 S) (hx : X (KF_X8_clear_75 N g H T rec x0 x2 x3 x4 x5 x6 S)) : cX G o dX8_clear mX8_clear 75 [some (va_rf (some x0)), none, some (.int x2), some (.int x3), some (.int x4), some (.int x5), some (.int x6), none, none, none] [] S Q := by
  unfold KO_X8_clear_75 at ok
  unfold KF_X8_clear_75 at hx
  refine c_aload_nQ dX8_clear_75 rfl rfl ?_
  refine c_getS (C := RX8) (T := TX8) (N := 14) (ci := 6) (k := 2) ⟨rfl, inT8, by decide, fX8_11⟩ (by decide) (by decide) (by decide) dX8_clear_76 (hS.k t_x0) (hS.r (c := 6) t_x0 rfl (by omega)) ?_
  refine c_iload dX8_clear_79 rfl ?_
  refine c_null' dX8_clear_81 ?_
  have hS2 := hS.P24 (i := x6.toNatClampNeg) ((hS.rk (c := 6) (k := 2) t_x0 rfl (by omega)) _ rfl) tK_none
  refine c_aast (t := 4) (ci := 4) (rr := (RX5, TX5, 7)) rfl rfl (by decide) (by decide) dX8_clear_82 ⟨(tK.cis (hS.rk (c := 6) (k := 2) t_x0 rfl (by omega)) (Option.some_ne_none _)), (vk_cast (hS.rl (c := 6) (k := 2) t_x0 rfl (by decide) (by omega)) ok.1), tKor tK_none⟩ ?_
  have hS := hS2
  have hM := hM.P (x0 + 1) x6.toNatClampNeg (none : Option Nat)
  have ok := ok.2
  exact cX.cutz (kb_X8_clear_83 hG hX0 hrec hS hM t_x0 ok hx) ⟨rfl, rfl, rfl, rfl, rfl, rfl, trivial⟩
def KB_X8_clear_10 (N g H T : Nat) (rec : Nat → Int32 → Int32 → Int32 → Int32 → cS → Nat × Nat × Int32 × Int32 × cS) (x0 : Nat) (x2 : Int32) (x3 : Int32) (x4 : Int32) (x5 : Int32) (S : cS) : Nat × Nat × Int32 × Int32 × cS := (if (cA S (x0 + 3) x3.toNatClampNeg) ≤ x5 then (0, x0, x3, x4, S) else (if (nI 16) ≤ x5 then (0, x0, x3, x4, S) else (if (cP S (x0 + 1) ((x3 * (nI 16)) + x5).toNatClampNeg) = none then (KF_X8_clear_83 N g H T rec x0 x2 x3 x4 x5 ((x3 * (nI 16)) + x5) S) else (if (k_X5_signer N g H T S (za (cP S (x0 + 1) ((x3 * (nI 16)) + x5).toNatClampNeg))) = x2 then (KF_X8_clear_83 N g H T rec x0 x2 x3 x4 x5 ((x3 * (nI 16)) + x5) S) else (KF_X8_clear_75 N g H T rec x0 x2 x3 x4 x5 ((x3 * (nI 16)) + x5) (k_X9_drop N g H T S (g + 11) (cP S (x0 + 1) ((x3 * (nI 16)) + x5).toNatClampNeg)))))))
def KOB_X8_clear_10 (N g H T : Nat) (rok : Nat → Int32 → Int32 → Int32 → Int32 → cS → Prop) (x0 : Nat) (x2 : Int32) (x3 : Int32) (x4 : Int32) (x5 : Int32) (S : cS) : Prop := (vp_in x3 2) ∧ (((cA S (x0 + 3) x3.toNatClampNeg) ≤ x5 → True) ∧ (¬ (cA S (x0 + 3) x3.toNatClampNeg) ≤ x5 → (((nI 16) ≤ x5 → True) ∧ (¬ (nI 16) ≤ x5 → (vp_in ((x3 * (nI 16)) + x5) 32) ∧ (((cP S (x0 + 1) ((x3 * (nI 16)) + x5).toNatClampNeg) = none → KO_X8_clear_83 N g H T rok x0 x2 x3 x4 x5 ((x3 * (nI 16)) + x5) S) ∧ (¬ (cP S (x0 + 1) ((x3 * (nI 16)) + x5).toNatClampNeg) = none → (vp_in ((x3 * (nI 16)) + x5) 32) ∧ (p_X5_signer N g H T S (za (cP S (x0 + 1) ((x3 * (nI 16)) + x5).toNatClampNeg))) ∧ (((k_X5_signer N g H T S (za (cP S (x0 + 1) ((x3 * (nI 16)) + x5).toNatClampNeg))) = x2 → KO_X8_clear_83 N g H T rok x0 x2 x3 x4 x5 ((x3 * (nI 16)) + x5) S) ∧ (¬ (k_X5_signer N g H T S (za (cP S (x0 + 1) ((x3 * (nI 16)) + x5).toNatClampNeg))) = x2 → (vp_in ((x3 * (nI 16)) + x5) 32) ∧ (p_X9_drop N g H T S (g + 11) (cP S (x0 + 1) ((x3 * (nI 16)) + x5).toNatClampNeg)) ∧ KO_X8_clear_75 N g H T rok x0 x2 x3 x4 x5 ((x3 * (nI 16)) + x5) (k_X9_drop N g H T S (g + 11) (cP S (x0 + 1) ((x3 * (nI 16)) + x5).toNatClampNeg))))))))))
set_option maxRecDepth 100000 in
set_option maxHeartbeats 4000000 in
theorem kbb_X8_clear_10 {G : zG} {o : cO} {u g H T N : Nat} {S : cS} {S0 : cS} {Q : Option Value → cS → Prop} {X : Nat × Nat × Int32 × Int32 × cS → Prop} (hG : zOK G) (hX0 : ∀ (x0 : Nat) (x3 : Int32) (x4 : Int32) (S' : cS), St u g H T S' → Mono S0 S' → isO g H 6 x0 → X (0, x0, x3, x4, S') → cX G o dX8_clear mX8_clear 231 [some (va_rf (some x0)), none, none, some (.int x3), some (.int x4), none, none, none, none, none] [] S' Q) {rec : Nat → Int32 → Int32 → Int32 → Int32 → cS → Nat × Nat × Int32 × Int32 × cS} {rok : Nat → Int32 → Int32 → Int32 → Int32 → cS → Prop} (hrec : ∀ (x0 : Nat) (x2 : Int32) (x3 : Int32) (x4 : Int32) (x5 : Int32) (S : cS), St u g H T S → Mono S0 S → isO g H 6 x0 → rok x0 x2 x3 x4 x5 S → X (rec x0 x2 x3 x4 x5 S) → cX G o dX8_clear mX8_clear 10 [some (va_rf (some x0)), none, some (.int x2), some (.int x3), some (.int x4), some (.int x5), none, none, none, none] [] S Q) {x0 : Nat} {x2 : Int32} {x3 : Int32} {x4 : Int32} {x5 : Int32} (hS : St u g H T S) (hM : Mono S0 S) (t_x0 : isO g H 6 x0) (ok : KOB_X8_clear_10 N g H T rok x0 x2 x3 x4 x5 S) (hx : X (KB_X8_clear_10 N g H T rec x0 x2 x3 x4 x5 S)) : cX G o dX8_clear mX8_clear 10 [some (va_rf (some x0)), none, some (.int x2), some (.int x3), some (.int x4), some (.int x5), none, none, none, none] [] S Q := by
  unfold KOB_X8_clear_10 at ok
  unfold KB_X8_clear_10 at hx
  refine c_iload dX8_clear_10 rfl ?_
  refine c_aload_nQ dX8_clear_12 rfl rfl ?_
  refine c_getS (C := RX8) (T := TX8) (N := 14) (ci := 6) (k := 5) ⟨rfl, inT8, by decide, fX8_21⟩ (by decide) (by decide) (by decide) dX8_clear_13 (hS.k t_x0) (hS.r (c := 6) t_x0 rfl (by omega)) ?_
  refine c_iload_n dX8_clear_16 rfl rfl ?_
  refine c_iald dX8_clear_17 ⟨(tK.cis (hS.rk (c := 6) (k := 5) t_x0 rfl (by omega)) (Option.some_ne_none _)), (vk_cast (hS.rl (c := 6) (k := 5) t_x0 rfl (by decide) (by omega)) ok.1)⟩ ?_
  have ok := ok.2
  refine c_icmp_ge (tgt := 231) dX8_clear_18 (by decide) (fun c_18 => ?_) (fun c_18 => ?_)
  · have ok := ok.1 c_18
    have hx := xif_p c_18 hx
    exact cX.cutz (hX0 _ _ _ S hS hM t_x0 hx) ⟨rfl, rfl, rfl, trivial⟩
  · have ok := ok.2 c_18
    have hx := xif_n c_18 hx
    refine c_iload dX8_clear_21 rfl ?_
    refine c_bipush (v := nI 16) dX8_clear_23 (by decide) ?_
    refine c_icmp_ge (tgt := 231) dX8_clear_25 (by decide) (fun c_25 => ?_) (fun c_25 => ?_)
    · have ok := ok.1 c_25
      have hx := xif_p c_25 hx
      exact cX.cutz (hX0 _ _ _ S hS hM t_x0 hx) ⟨rfl, rfl, rfl, trivial⟩
    · have ok := ok.2 c_25
      have hx := xif_n c_25 hx
      refine c_iload_n dX8_clear_28 rfl rfl ?_
      refine c_bipush (v := nI 16) dX8_clear_29 (by decide) ?_
      refine c_imul dX8_clear_31 ?_
      refine c_iload dX8_clear_32 rfl ?_
      refine c_iadd dX8_clear_34 ?_
      refine c_istore_6 dX8_clear_35 (by decide) rfl ?_
      refine c_aload_nQ dX8_clear_37 rfl rfl ?_
      refine c_getS (C := RX8) (T := TX8) (N := 14) (ci := 6) (k := 2) ⟨rfl, inT8, by decide, fX8_11⟩ (by decide) (by decide) (by decide) dX8_clear_38 (hS.k t_x0) (hS.r (c := 6) t_x0 rfl (by omega)) ?_
      refine c_iload dX8_clear_41 rfl ?_
      have p_43 := hS.row24 (hS.rk (c := 6) (k := 2) t_x0 rfl (by omega)) ((x3 * (nI 16)) + x5).toNatClampNeg
      refine c_aald (t := 4) (ty := (.object "QuorumLedger$Message")) rfl rfl (by decide) dX8_clear_43 ⟨(tK.cis (hS.rk (c := 6) (k := 2) t_x0 rfl (by omega)) (Option.some_ne_none _)), (vk_cast (hS.rl (c := 6) (k := 2) t_x0 rfl (by decide) (by omega)) ok.1)⟩ ?_
      have ok := ok.2
      refine c_ifnullI (tgt := 83) dX8_clear_44 (by decide) (fun c_44 => ?_) (fun c_44 => ?_)
      · have ok := ok.1 c_44
        have hx := xif_p c_44 hx
        exact cX.cutz (kb_X8_clear_83 hG hX0 hrec hS hM t_x0 ok hx) ⟨rfl, rfl, rfl, rfl, rfl, rfl, trivial⟩
      · have ok := ok.2 c_44
        have hx := xif_n c_44 hx
        refine c_aload_nQ dX8_clear_47 rfl rfl ?_
        refine c_getS (C := RX8) (T := TX8) (N := 14) (ci := 6) (k := 2) ⟨rfl, inT8, by decide, fX8_11⟩ (by decide) (by decide) (by decide) dX8_clear_48 (hS.k t_x0) (hS.r (c := 6) t_x0 rfl (by omega)) ?_
        refine c_iload dX8_clear_51 rfl ?_
        have p_53 := hS.row24 (hS.rk (c := 6) (k := 2) t_x0 rfl (by omega)) ((x3 * (nI 16)) + x5).toNatClampNeg
        refine c_aald (t := 4) (ty := (.object "QuorumLedger$Message")) rfl rfl (by decide) dX8_clear_53 ⟨(tK.cis (hS.rk (c := 6) (k := 2) t_x0 rfl (by omega)) (Option.some_ne_none _)), (vk_cast (hS.rl (c := 6) (k := 2) t_x0 rfl (by decide) (by omega)) ok.1)⟩ ?_
        have ok := ok.2
        refine c_V0iE (ci := 4) (rr := (RX5, TX5, 7)) (y' := mX5_signer) dX8_clear_54 lX8_62 kX5_signer ⟨by decide, by decide⟩ rfl rfl (by decide) (tK.cis p_53 c_44) (Nat.le_of_ble_eq_true rfl) (kc_X5_signer hG hS (p_53 _ (za_of c_44)) ok.1) ?_
        have ok := ok.2
        refine c_iload_n dX8_clear_57 rfl rfl ?_
        refine c_icmp_eq (tgt := 83) dX8_clear_58 (by decide) (fun c_58 => ?_) (fun c_58 => ?_)
        · have ok := ok.1 c_58
          have hx := xif_p c_58 hx
          exact cX.cutz (kb_X8_clear_83 hG hX0 hrec hS hM t_x0 ok hx) ⟨rfl, rfl, rfl, rfl, rfl, rfl, trivial⟩
        · have ok := ok.2 c_58
          have hx := xif_n c_58 hx
          refine c_aload_nQ dX8_clear_61 rfl rfl ?_
          refine c_getS (C := RX8) (T := TX8) (N := 14) (ci := 6) (k := 0) ⟨rfl, inT8, by decide, fX8_28⟩ (by decide) (by decide) (by decide) dX8_clear_62 (hS.k t_x0) (hS.r (c := 6) t_x0 rfl (by omega)) ?_
          refine c_aload_nQ dX8_clear_65 rfl rfl ?_
          refine c_getS (C := RX8) (T := TX8) (N := 14) (ci := 6) (k := 2) ⟨rfl, inT8, by decide, fX8_11⟩ (by decide) (by decide) (by decide) dX8_clear_66 (hS.k t_x0) (hS.r (c := 6) t_x0 rfl (by omega)) ?_
          refine c_iload dX8_clear_69 rfl ?_
          have p_71 := hS.row24 (hS.rk (c := 6) (k := 2) t_x0 rfl (by omega)) ((x3 * (nI 16)) + x5).toNatClampNeg
          refine c_aald (t := 4) (ty := (.object "QuorumLedger$Message")) rfl rfl (by decide) dX8_clear_71 ⟨(tK.cis (hS.rk (c := 6) (k := 2) t_x0 rfl (by omega)) (Option.some_ne_none _)), (vk_cast (hS.rl (c := 6) (k := 2) t_x0 rfl (by decide) (by omega)) ok.1)⟩ ?_
          have ok := ok.2
          refine c_V1vK (ci := 7) (rr := (RX9, TX9, 13)) (y' := mX9_drop) dX8_clear_72 lX8_91 kX9_drop ⟨by decide, by decide⟩ rfl rfl (by decide) (hS.k (o60 t_x0)) (Nat.le_of_ble_eq_true rfl) (kc_X9_drop hG hS (o60 t_x0) p_71 ok.1) (fun ⟨hS, hm_72⟩ => ?_)
          have hM := hM.trans hm_72
          have ok := ok.2
          exact cX.cutz (kb_X8_clear_75 hG hX0 hrec hS hM t_x0 ok hx) ⟨rfl, rfl, rfl, rfl, rfl, rfl, trivial⟩
def KL_X8_clear_10 (N g H T : Nat) : Nat → Nat → Int32 → Int32 → Int32 → Int32 → cS → Nat × Nat × Int32 × Int32 × cS
  | 0, x0, x2, x3, x4, x5, S => (0, 0, 0, 0, S)
  | n + 1, x0, x2, x3, x4, x5, S => KB_X8_clear_10 N g H T (KL_X8_clear_10 N g H T n) x0 x2 x3 x4 x5 S
def KOL_X8_clear_10 (N g H T : Nat) : Nat → Nat → Int32 → Int32 → Int32 → Int32 → cS → Prop
  | 0, _, _, _, _, _, _ => False
  | n + 1, x0, x2, x3, x4, x5, S => KOB_X8_clear_10 N g H T (KOL_X8_clear_10 N g H T n) x0 x2 x3 x4 x5 S
set_option maxRecDepth 100000 in
set_option maxHeartbeats 4000000 in
theorem kl_X8_clear_10 {G : zG} {o : cO} {u g H T N : Nat} {S0 : cS} {Q : Option Value → cS → Prop} {X : Nat × Nat × Int32 × Int32 × cS → Prop} (hG : zOK G) (hX0 : ∀ (x0 : Nat) (x3 : Int32) (x4 : Int32) (S' : cS), St u g H T S' → Mono S0 S' → isO g H 6 x0 → X (0, x0, x3, x4, S') → cX G o dX8_clear mX8_clear 231 [some (va_rf (some x0)), none, none, some (.int x3), some (.int x4), none, none, none, none, none] [] S' Q) : ∀ (n : Nat) (x0 : Nat) (x2 : Int32) (x3 : Int32) (x4 : Int32) (x5 : Int32) (S : cS), St u g H T S → Mono S0 S → isO g H 6 x0 → KOL_X8_clear_10 N g H T n x0 x2 x3 x4 x5 S → X (KL_X8_clear_10 N g H T n x0 x2 x3 x4 x5 S) → cX G o dX8_clear mX8_clear 10 [some (va_rf (some x0)), none, some (.int x2), some (.int x3), some (.int x4), some (.int x5), none, none, none, none] [] S Q := by
  intro n
  induction n with
  | zero => intro x0 x2 x3 x4 x5 S hS hM t_x0 ok; exact absurd ok id
  | succ n ih =>
    intro x0 x2 x3 x4 x5 S hS hM t_x0 ok hx
    exact kbb_X8_clear_10 hG hX0 (rec := KL_X8_clear_10 N g H T n) (rok := KOL_X8_clear_10 N g H T n) (fun x0 x2 x3 x4 x5 S hS hM t_x0 ok hx => ih x0 x2 x3 x4 x5 S hS hM t_x0 ok hx) hS hM t_x0 ok hx
def KA_X8_clear_10 (N g H T : Nat) (x0 : Nat) (x2 : Int32) (x3 : Int32) (x4 : Int32) (x5 : Int32) (S : cS) (z : Nat × Nat × Int32 × Int32 × cS) : cS := (KF_X8_clear_231 N g H T (z.2.1) (z.2.2.1) (z.2.2.2.1) z.2.2.2.2)
def KOA_X8_clear_10 (N g H T : Nat) (x0 : Nat) (x2 : Int32) (x3 : Int32) (x4 : Int32) (x5 : Int32) (S : cS) (z : Nat × Nat × Int32 × Int32 × cS) : Prop := KO_X8_clear_231 N g H T (z.2.1) (z.2.2.1) (z.2.2.2.1) z.2.2.2.2
set_option maxRecDepth 100000 in
set_option maxHeartbeats 4000000 in
theorem kd_X8_clear_10 {G : zG} {o : cO} {u g H T N : Nat} {S : cS} {S0 : cS} {Q : Option Value → cS → Prop} {X : cS → Prop} (hG : zOK G) (hR : ∀ S', St u g H T S' → Mono S0 S' → X S' → Q none S') {x0 : Nat} {x2 : Int32} {x3 : Int32} {x4 : Int32} {x5 : Int32} (hS : St u g H T S) (hM : Mono S0 S) (t_x0 : isO g H 6 x0) (ok : KOL_X8_clear_10 N g H T N x0 x2 x3 x4 x5 S ∧ KOA_X8_clear_10 N g H T x0 x2 x3 x4 x5 S (KL_X8_clear_10 N g H T N x0 x2 x3 x4 x5 S)) (hx : X (KA_X8_clear_10 N g H T x0 x2 x3 x4 x5 S (KL_X8_clear_10 N g H T N x0 x2 x3 x4 x5 S))) : cX G o dX8_clear mX8_clear 10 [some (va_rf (some x0)), none, some (.int x2), some (.int x3), some (.int x4), some (.int x5), none, none, none, none] [] S Q := by
  refine kl_X8_clear_10 hG ?_ N x0 x2 x3 x4 x5 S hS hM t_x0 ok.1 (X := fun z => KOA_X8_clear_10 N g H T x0 x2 x3 x4 x5 S z ∧ X (KA_X8_clear_10 N g H T x0 x2 x3 x4 x5 S z)) ⟨ok.2, hx⟩
  · intro x0' x3' x4' S' hS hM t_x0 hz
    obtain ⟨ok, hx⟩ := hz
    unfold KOA_X8_clear_10 at ok
    unfold KA_X8_clear_10 at hx
    exact cX.cutz (kb_X8_clear_231 hG hR hS hM t_x0 ok hx) ⟨rfl, rfl, rfl, trivial⟩
def KF_X8_clear_0 (N g H T : Nat) (x0 : Nat) (x1 : Int32) (x2 : Int32) (S : cS) : cS := (KA_X8_clear_10 N g H T x0 x2 (x1 &&& (nI 1)) (nI 0) (nI 0) S (KL_X8_clear_10 N g H T N x0 x2 (x1 &&& (nI 1)) (nI 0) (nI 0) S))
def KO_X8_clear_0 (N g H T : Nat) (x0 : Nat) (x1 : Int32) (x2 : Int32) (S : cS) : Prop := (KOL_X8_clear_10 N g H T N x0 x2 (x1 &&& (nI 1)) (nI 0) (nI 0) S ∧ KOA_X8_clear_10 N g H T x0 x2 (x1 &&& (nI 1)) (nI 0) (nI 0) S (KL_X8_clear_10 N g H T N x0 x2 (x1 &&& (nI 1)) (nI 0) (nI 0) S))
set_option maxRecDepth 100000 in
set_option maxHeartbeats 4000000 in
theorem kb_X8_clear_0 {G : zG} {o : cO} {u g H T N : Nat} {S : cS} {S0 : cS} {Q : Option Value → cS → Prop} {X : cS → Prop} (hG : zOK G) (hR : ∀ S', St u g H T S' → Mono S0 S' → X S' → Q none S') {x0 : Nat} {x1 : Int32} {x2 : Int32} (hS : St u g H T S) (hM : Mono S0 S) (t_x0 : isO g H 6 x0) (ok : KO_X8_clear_0 N g H T x0 x1 x2 S) (hx : X (KF_X8_clear_0 N g H T x0 x1 x2 S)) : cX G o dX8_clear mX8_clear 0 [some (va_rf (some x0)), some (.int x1), some (.int x2), none, none, none, none, none, none, none] [] S Q := by
  unfold KO_X8_clear_0 at ok
  unfold KF_X8_clear_0 at hx
  refine c_iload_n dX8_clear_0 rfl rfl ?_
  refine c_iconst (v := nI 1) dX8_clear_1 (by decide) ?_
  refine c_iand dX8_clear_2 ?_
  refine c_istore_3 dX8_clear_3 (by decide) rfl ?_
  refine c_iconst (v := nI 0) dX8_clear_4 (by decide) ?_
  refine c_istore_4 dX8_clear_5 (by decide) rfl ?_
  refine c_iconst (v := nI 0) dX8_clear_7 (by decide) ?_
  refine c_istore_5 dX8_clear_8 (by decide) rfl ?_
  exact cX.cutz (kd_X8_clear_10 hG hR hS hM t_x0 ok hx) ⟨rfl, rfl, rfl, rfl, rfl, trivial⟩
def k_X8_clear (N g H T : Nat) (S : cS) (a0 : Nat) (x1 : Int32) (x2 : Int32) : cS := KF_X8_clear_0 N g H T a0 x1 x2 S
def p_X8_clear (N g H T : Nat) (S : cS) (a0 : Nat) (x1 : Int32) (x2 : Int32) : Prop := KO_X8_clear_0 N g H T a0 x1 x2 S
set_option maxRecDepth 100000 in
set_option maxHeartbeats 4000000 in
theorem kc_X8_clear {G : zG} {o : cO} {u g H T N : Nat} {S : cS} (hG : zOK G) {a0 : Nat} {x1 : Int32} {x2 : Int32} (hS : St u g H T S) (t_x0 : isO g H 6 a0) (ok : p_X8_clear N g H T S a0 x1 x2) : cCv G o dX8_clear mX8_clear [.ref a0, .int x1, .int x2] S (fun S' => S' = k_X8_clear N g H T S a0 x1 x2 ∧ St u g H T S' ∧ Mono S S') := by
  refine cC.ofX rfl (by exact Nat.le_of_ble_eq_true rfl) ?_
  show cX G o dX8_clear mX8_clear 0 [some (va_rf (some a0)), some (.int x1), some (.int x2), none, none, none, none, none, none, none] [] S _
  exact cX.cutz (kb_X8_clear_0 (X := fun F => F = k_X8_clear N g H T S a0 x1 x2) hG (fun S' h1 h2 h => ⟨rfl, h, h1, h2⟩) hS Mono.rfl' t_x0 ok rfl) ⟨rfl, rfl, rfl, trivial⟩
/-! X8_clearDecided -/
def KF_X8_clearDecided_62 (N g H T : Nat)  (S : cS) : cS := S
def KO_X8_clearDecided_62 (N g H T : Nat)  (S : cS) : Prop := True
set_option maxRecDepth 100000 in
set_option maxHeartbeats 4000000 in
theorem kb_X8_clearDecided_62 {G : zG} {o : cO} {u g H T N : Nat} {S : cS} {S0 : cS} {Q : Option Value → cS → Prop} {X : cS → Prop} (hG : zOK G) (hR : ∀ S', St u g H T S' → Mono S0 S' → X S' → Q none S') (hS : St u g H T S) (hM : Mono S0 S) (ok : KO_X8_clearDecided_62 N g H T S) (hx : X (KF_X8_clearDecided_62 N g H T S)) : cX G o dX8_clearDecided mX8_clearDecided 62 [none, none] [] S Q := by
  unfold KO_X8_clearDecided_62 at ok
  unfold KF_X8_clearDecided_62 at hx
  exact c_return rfl dX8_clearDecided_62 (hR _ hS hM hx)
def KF_X8_clearDecided_56 (N g H T : Nat) (rec : Nat → Int32 → cS → Nat × cS) (x0 : Nat) (x1 : Int32) (S : cS) : Nat × cS := (rec x0 (x1 + nI 1) S)
def KO_X8_clearDecided_56 (N g H T : Nat) (rok : Nat → Int32 → cS → Prop) (x0 : Nat) (x1 : Int32) (S : cS) : Prop := rok x0 (x1 + nI 1) S
set_option maxRecDepth 100000 in
set_option maxHeartbeats 4000000 in
theorem kb_X8_clearDecided_56 {G : zG} {o : cO} {u g H T N : Nat} {S : cS} {S0 : cS} {Q : Option Value → cS → Prop} {X : Nat × cS → Prop} (hG : zOK G) (hX0 : ∀ (S' : cS), St u g H T S' → Mono S0 S' → X (0, S') → cX G o dX8_clearDecided mX8_clearDecided 62 [none, none] [] S' Q) {rec : Nat → Int32 → cS → Nat × cS} {rok : Nat → Int32 → cS → Prop} (hrec : ∀ (x0 : Nat) (x1 : Int32) (S : cS), St u g H T S → Mono S0 S → isO g H 6 x0 → rok x0 x1 S → X (rec x0 x1 S) → cX G o dX8_clearDecided mX8_clearDecided 2 [some (va_rf (some x0)), some (.int x1)] [] S Q) {x0 : Nat} {x1 : Int32} (hS : St u g H T S) (hM : Mono S0 S) (t_x0 : isO g H 6 x0) (ok : KO_X8_clearDecided_56 N g H T rok x0 x1 S) (hx : X (KF_X8_clearDecided_56 N g H T rec x0 x1 S)) : cX G o dX8_clearDecided mX8_clearDecided 56 [some (va_rf (some x0)), some (.int x1)] [] S Q := by
  unfold KO_X8_clearDecided_56 at ok
  unfold KF_X8_clearDecided_56 at hx
  refine c_iinc_1 (v := (x1 + nI 1)) dX8_clearDecided_56 rfl (by first | rfl | (congr 1)) (by decide) (by simp [zok, zg, zcat_rf]) ?_
  refine c_goto (tgt := 2) dX8_clearDecided_59 (by decide) ?_
  exact cX.cutz (hrec _ _ S hS hM t_x0 ok hx) ⟨rfl, rfl, trivial⟩
def KF_X8_clearDecided_39 (N g H T : Nat) (rec : Nat → Int32 → cS → Nat × cS) (x0 : Nat) (x1 : Int32) (S : cS) : Nat × cS := (KF_X8_clearDecided_56 N g H T rec x0 x1 (csI (csP S (x0 + 6) x1.toNatClampNeg (none : Option Nat)) 11 x0 ((cI (csP S (x0 + 6) x1.toNatClampNeg (none : Option Nat)) 11 x0) - (nI 1))))
def KO_X8_clearDecided_39 (N g H T : Nat) (rok : Nat → Int32 → cS → Prop) (x0 : Nat) (x1 : Int32) (S : cS) : Prop := (vp_in x1 T) ∧ KO_X8_clearDecided_56 N g H T rok x0 x1 (csI (csP S (x0 + 6) x1.toNatClampNeg (none : Option Nat)) 11 x0 ((cI (csP S (x0 + 6) x1.toNatClampNeg (none : Option Nat)) 11 x0) - (nI 1)))
set_option maxRecDepth 100000 in
set_option maxHeartbeats 4000000 in
theorem kb_X8_clearDecided_39 {G : zG} {o : cO} {u g H T N : Nat} {S : cS} {S0 : cS} {Q : Option Value → cS → Prop} {X : Nat × cS → Prop} (hG : zOK G) (hX0 : ∀ (S' : cS), St u g H T S' → Mono S0 S' → X (0, S') → cX G o dX8_clearDecided mX8_clearDecided 62 [none, none] [] S' Q) {rec : Nat → Int32 → cS → Nat × cS} {rok : Nat → Int32 → cS → Prop} (hrec : ∀ (x0 : Nat) (x1 : Int32) (S : cS), St u g H T S → Mono S0 S → isO g H 6 x0 → rok x0 x1 S → X (rec x0 x1 S) → cX G o dX8_clearDecided mX8_clearDecided 2 [some (va_rf (some x0)), some (.int x1)] [] S Q) {x0 : Nat} {x1 : Int32} (hS : St u g H T S) (hM : Mono S0 S) (t_x0 : isO g H 6 x0) (ok : KO_X8_clearDecided_39 N g H T rok x0 x1 S) (hx : X (KF_X8_clearDecided_39 N g H T rec x0 x1 S)) : cX G o dX8_clearDecided mX8_clearDecided 39 [some (va_rf (some x0)), some (.int x1)] [] S Q := by
  unfold KO_X8_clearDecided_39 at ok
  unfold KF_X8_clearDecided_39 at hx
  refine c_aload_nQ dX8_clearDecided_39 rfl rfl ?_
  refine c_getS (C := RX8) (T := TX8) (N := 14) (ci := 6) (k := 6) ⟨rfl, inT8, by decide, fX8_39⟩ (by decide) (by decide) (by decide) dX8_clearDecided_40 (hS.k t_x0) (hS.r (c := 6) t_x0 rfl (by omega)) ?_
  refine c_iload_n dX8_clearDecided_43 rfl rfl ?_
  refine c_null' dX8_clearDecided_44 ?_
  have hS2 := hS.P24 (i := x1.toNatClampNeg) ((hS.rk (c := 6) (k := 6) t_x0 rfl (by omega)) _ rfl) tK_none
  refine c_aast (t := 4) (ci := 4) (rr := (RX5, TX5, 7)) rfl rfl (by decide) (by decide) dX8_clearDecided_45 ⟨(tK.cis (hS.rk (c := 6) (k := 6) t_x0 rfl (by omega)) (Option.some_ne_none _)), (vk_cast (hS.rl (c := 6) (k := 6) t_x0 rfl (by decide) (by omega)) ok.1), tKor tK_none⟩ ?_
  have hS := hS2
  have hM := hM.P (x0 + 6) x1.toNatClampNeg (none : Option Nat)
  have ok := ok.2
  refine c_aload_nQ dX8_clearDecided_46 rfl rfl ?_
  refine c_dup dX8_clearDecided_47 (zcat_rf _) ?_
  refine c_getI (C := RX8) (T := TX8) (N := 14) (ci := 6) (k := 11) ⟨rfl, inT8, by decide, fX8_88⟩ (by decide) (by decide) (by decide) dX8_clearDecided_48 (hS.k t_x0) ?_
  refine c_iconst (v := nI 1) dX8_clearDecided_51 (by decide) ?_
  refine c_isub dX8_clearDecided_52 ?_
  refine c_putI (C := RX8) (T := TX8) (N := 14) (ci := 6) (k := 11) ⟨rfl, inT8, by decide, fX8_88⟩ ftT8 rfl (by decide) (by decide) (by decide) rfl rfl dX8_clearDecided_53 (hS.k t_x0) ?_
  have hS := hS.I 11 x0 ((cI (csP S (x0 + 6) x1.toNatClampNeg (none : Option Nat)) 11 x0) - (nI 1))
  have hM := hM.I 11 x0 ((cI (csP S (x0 + 6) x1.toNatClampNeg (none : Option Nat)) 11 x0) - (nI 1))
  exact cX.cutz (kb_X8_clearDecided_56 hG hX0 hrec hS hM t_x0 ok hx) ⟨rfl, rfl, trivial⟩
def KB_X8_clearDecided_2 (N g H T : Nat) (rec : Nat → Int32 → cS → Nat × cS) (x0 : Nat) (x1 : Int32) (S : cS) : Nat × cS := (if (cI S 1 x0) ≤ x1 then (0, S) else (if (cI S 11 x0) ≤ 0 then (0, S) else (if (cP S (x0 + 6) x1.toNatClampNeg) = none then (KF_X8_clearDecided_56 N g H T rec x0 x1 S) else (KF_X8_clearDecided_39 N g H T rec x0 x1 (k_X9_drop N g H T S (g + 11) (cP S (x0 + 6) x1.toNatClampNeg))))))
def KOB_X8_clearDecided_2 (N g H T : Nat) (rok : Nat → Int32 → cS → Prop) (x0 : Nat) (x1 : Int32) (S : cS) : Prop := (((cI S 1 x0) ≤ x1 → True) ∧ (¬ (cI S 1 x0) ≤ x1 → (((cI S 11 x0) ≤ 0 → True) ∧ (¬ (cI S 11 x0) ≤ 0 → (vp_in x1 T) ∧ (((cP S (x0 + 6) x1.toNatClampNeg) = none → KO_X8_clearDecided_56 N g H T rok x0 x1 S) ∧ (¬ (cP S (x0 + 6) x1.toNatClampNeg) = none → (vp_in x1 T) ∧ (p_X9_drop N g H T S (g + 11) (cP S (x0 + 6) x1.toNatClampNeg)) ∧ KO_X8_clearDecided_39 N g H T rok x0 x1 (k_X9_drop N g H T S (g + 11) (cP S (x0 + 6) x1.toNatClampNeg))))))))
set_option maxRecDepth 100000 in
set_option maxHeartbeats 4000000 in
theorem kbb_X8_clearDecided_2 {G : zG} {o : cO} {u g H T N : Nat} {S : cS} {S0 : cS} {Q : Option Value → cS → Prop} {X : Nat × cS → Prop} (hG : zOK G) (hX0 : ∀ (S' : cS), St u g H T S' → Mono S0 S' → X (0, S') → cX G o dX8_clearDecided mX8_clearDecided 62 [none, none] [] S' Q) {rec : Nat → Int32 → cS → Nat × cS} {rok : Nat → Int32 → cS → Prop} (hrec : ∀ (x0 : Nat) (x1 : Int32) (S : cS), St u g H T S → Mono S0 S → isO g H 6 x0 → rok x0 x1 S → X (rec x0 x1 S) → cX G o dX8_clearDecided mX8_clearDecided 2 [some (va_rf (some x0)), some (.int x1)] [] S Q) {x0 : Nat} {x1 : Int32} (hS : St u g H T S) (hM : Mono S0 S) (t_x0 : isO g H 6 x0) (ok : KOB_X8_clearDecided_2 N g H T rok x0 x1 S) (hx : X (KB_X8_clearDecided_2 N g H T rec x0 x1 S)) : cX G o dX8_clearDecided mX8_clearDecided 2 [some (va_rf (some x0)), some (.int x1)] [] S Q := by
  unfold KOB_X8_clearDecided_2 at ok
  unfold KB_X8_clearDecided_2 at hx
  refine c_iload_n dX8_clearDecided_2 rfl rfl ?_
  refine c_aload_nQ dX8_clearDecided_3 rfl rfl ?_
  refine c_getI (C := RX8) (T := TX8) (N := 14) (ci := 6) (k := 1) ⟨rfl, inT8, by decide, fX8_32⟩ (by decide) (by decide) (by decide) dX8_clearDecided_4 (hS.k t_x0) ?_
  refine c_icmp_ge (tgt := 62) dX8_clearDecided_7 (by decide) (fun c_7 => ?_) (fun c_7 => ?_)
  · have ok := ok.1 c_7
    have hx := xif_p c_7 hx
    exact cX.cutz (hX0 S hS hM  hx) trivial
  · have ok := ok.2 c_7
    have hx := xif_n c_7 hx
    refine c_aload_nQ dX8_clearDecided_10 rfl rfl ?_
    refine c_getI (C := RX8) (T := TX8) (N := 14) (ci := 6) (k := 11) ⟨rfl, inT8, by decide, fX8_88⟩ (by decide) (by decide) (by decide) dX8_clearDecided_11 (hS.k t_x0) ?_
    refine c_if_le (tgt := 62) dX8_clearDecided_14 (by decide) (fun c_14 => ?_) (fun c_14 => ?_)
    · have ok := ok.1 c_14
      have hx := xif_p c_14 hx
      exact cX.cutz (hX0 S hS hM  hx) trivial
    · have ok := ok.2 c_14
      have hx := xif_n c_14 hx
      refine c_aload_nQ dX8_clearDecided_17 rfl rfl ?_
      refine c_getS (C := RX8) (T := TX8) (N := 14) (ci := 6) (k := 6) ⟨rfl, inT8, by decide, fX8_39⟩ (by decide) (by decide) (by decide) dX8_clearDecided_18 (hS.k t_x0) (hS.r (c := 6) t_x0 rfl (by omega)) ?_
      refine c_iload_n dX8_clearDecided_21 rfl rfl ?_
      have p_22 := hS.row24 (hS.rk (c := 6) (k := 6) t_x0 rfl (by omega)) x1.toNatClampNeg
      refine c_aald (t := 4) (ty := (.object "QuorumLedger$Message")) rfl rfl (by decide) dX8_clearDecided_22 ⟨(tK.cis (hS.rk (c := 6) (k := 6) t_x0 rfl (by omega)) (Option.some_ne_none _)), (vk_cast (hS.rl (c := 6) (k := 6) t_x0 rfl (by decide) (by omega)) ok.1)⟩ ?_
      have ok := ok.2
      refine c_ifnullI (tgt := 56) dX8_clearDecided_23 (by decide) (fun c_23 => ?_) (fun c_23 => ?_)
      · have ok := ok.1 c_23
        have hx := xif_p c_23 hx
        exact cX.cutz (kb_X8_clearDecided_56 hG hX0 hrec hS hM t_x0 ok hx) ⟨rfl, rfl, trivial⟩
      · have ok := ok.2 c_23
        have hx := xif_n c_23 hx
        refine c_aload_nQ dX8_clearDecided_26 rfl rfl ?_
        refine c_getS (C := RX8) (T := TX8) (N := 14) (ci := 6) (k := 0) ⟨rfl, inT8, by decide, fX8_28⟩ (by decide) (by decide) (by decide) dX8_clearDecided_27 (hS.k t_x0) (hS.r (c := 6) t_x0 rfl (by omega)) ?_
        refine c_aload_nQ dX8_clearDecided_30 rfl rfl ?_
        refine c_getS (C := RX8) (T := TX8) (N := 14) (ci := 6) (k := 6) ⟨rfl, inT8, by decide, fX8_39⟩ (by decide) (by decide) (by decide) dX8_clearDecided_31 (hS.k t_x0) (hS.r (c := 6) t_x0 rfl (by omega)) ?_
        refine c_iload_n dX8_clearDecided_34 rfl rfl ?_
        have p_35 := hS.row24 (hS.rk (c := 6) (k := 6) t_x0 rfl (by omega)) x1.toNatClampNeg
        refine c_aald (t := 4) (ty := (.object "QuorumLedger$Message")) rfl rfl (by decide) dX8_clearDecided_35 ⟨(tK.cis (hS.rk (c := 6) (k := 6) t_x0 rfl (by omega)) (Option.some_ne_none _)), (vk_cast (hS.rl (c := 6) (k := 6) t_x0 rfl (by decide) (by omega)) ok.1)⟩ ?_
        have ok := ok.2
        refine c_V1vK (ci := 7) (rr := (RX9, TX9, 13)) (y' := mX9_drop) dX8_clearDecided_36 lX8_91 kX9_drop ⟨by decide, by decide⟩ rfl rfl (by decide) (hS.k (o60 t_x0)) (Nat.le_of_ble_eq_true rfl) (kc_X9_drop hG hS (o60 t_x0) p_35 ok.1) (fun ⟨hS, hm_36⟩ => ?_)
        have hM := hM.trans hm_36
        have ok := ok.2
        exact cX.cutz (kb_X8_clearDecided_39 hG hX0 hrec hS hM t_x0 ok hx) ⟨rfl, rfl, trivial⟩
def KL_X8_clearDecided_2 (N g H T : Nat) : Nat → Nat → Int32 → cS → Nat × cS
  | 0, x0, x1, S => (0, S)
  | n + 1, x0, x1, S => KB_X8_clearDecided_2 N g H T (KL_X8_clearDecided_2 N g H T n) x0 x1 S
def KOL_X8_clearDecided_2 (N g H T : Nat) : Nat → Nat → Int32 → cS → Prop
  | 0, _, _, _ => False
  | n + 1, x0, x1, S => KOB_X8_clearDecided_2 N g H T (KOL_X8_clearDecided_2 N g H T n) x0 x1 S
set_option maxRecDepth 100000 in
set_option maxHeartbeats 4000000 in
theorem kl_X8_clearDecided_2 {G : zG} {o : cO} {u g H T N : Nat} {S0 : cS} {Q : Option Value → cS → Prop} {X : Nat × cS → Prop} (hG : zOK G) (hX0 : ∀ (S' : cS), St u g H T S' → Mono S0 S' → X (0, S') → cX G o dX8_clearDecided mX8_clearDecided 62 [none, none] [] S' Q) : ∀ (n : Nat) (x0 : Nat) (x1 : Int32) (S : cS), St u g H T S → Mono S0 S → isO g H 6 x0 → KOL_X8_clearDecided_2 N g H T n x0 x1 S → X (KL_X8_clearDecided_2 N g H T n x0 x1 S) → cX G o dX8_clearDecided mX8_clearDecided 2 [some (va_rf (some x0)), some (.int x1)] [] S Q := by
  intro n
  induction n with
  | zero => intro x0 x1 S hS hM t_x0 ok; exact absurd ok id
  | succ n ih =>
    intro x0 x1 S hS hM t_x0 ok hx
    exact kbb_X8_clearDecided_2 hG hX0 (rec := KL_X8_clearDecided_2 N g H T n) (rok := KOL_X8_clearDecided_2 N g H T n) (fun x0 x1 S hS hM t_x0 ok hx => ih x0 x1 S hS hM t_x0 ok hx) hS hM t_x0 ok hx
def KA_X8_clearDecided_2 (N g H T : Nat) (x0 : Nat) (x1 : Int32) (S : cS) (z : Nat × cS) : cS := (KF_X8_clearDecided_62 N g H T z.2)
def KOA_X8_clearDecided_2 (N g H T : Nat) (x0 : Nat) (x1 : Int32) (S : cS) (z : Nat × cS) : Prop := KO_X8_clearDecided_62 N g H T z.2
set_option maxRecDepth 100000 in
set_option maxHeartbeats 4000000 in
theorem kd_X8_clearDecided_2 {G : zG} {o : cO} {u g H T N : Nat} {S : cS} {S0 : cS} {Q : Option Value → cS → Prop} {X : cS → Prop} (hG : zOK G) (hR : ∀ S', St u g H T S' → Mono S0 S' → X S' → Q none S') {x0 : Nat} {x1 : Int32} (hS : St u g H T S) (hM : Mono S0 S) (t_x0 : isO g H 6 x0) (ok : KOL_X8_clearDecided_2 N g H T N x0 x1 S ∧ KOA_X8_clearDecided_2 N g H T x0 x1 S (KL_X8_clearDecided_2 N g H T N x0 x1 S)) (hx : X (KA_X8_clearDecided_2 N g H T x0 x1 S (KL_X8_clearDecided_2 N g H T N x0 x1 S))) : cX G o dX8_clearDecided mX8_clearDecided 2 [some (va_rf (some x0)), some (.int x1)] [] S Q := by
  refine kl_X8_clearDecided_2 hG ?_ N x0 x1 S hS hM t_x0 ok.1 (X := fun z => KOA_X8_clearDecided_2 N g H T x0 x1 S z ∧ X (KA_X8_clearDecided_2 N g H T x0 x1 S z)) ⟨ok.2, hx⟩
  · intro S' hS hM hz
    obtain ⟨ok, hx⟩ := hz
    unfold KOA_X8_clearDecided_2 at ok
    unfold KA_X8_clearDecided_2 at hx
    exact cX.cutz (kb_X8_clearDecided_62 hG hR hS hM  ok hx) trivial
def KF_X8_clearDecided_0 (N g H T : Nat) (x0 : Nat) (S : cS) : cS := (KA_X8_clearDecided_2 N g H T x0 (nI 0) S (KL_X8_clearDecided_2 N g H T N x0 (nI 0) S))
def KO_X8_clearDecided_0 (N g H T : Nat) (x0 : Nat) (S : cS) : Prop := (KOL_X8_clearDecided_2 N g H T N x0 (nI 0) S ∧ KOA_X8_clearDecided_2 N g H T x0 (nI 0) S (KL_X8_clearDecided_2 N g H T N x0 (nI 0) S))
set_option maxRecDepth 100000 in
set_option maxHeartbeats 4000000 in
theorem kb_X8_clearDecided_0 {G : zG} {o : cO} {u g H T N : Nat} {S : cS} {S0 : cS} {Q : Option Value → cS → Prop} {X : cS → Prop} (hG : zOK G) (hR : ∀ S', St u g H T S' → Mono S0 S' → X S' → Q none S') {x0 : Nat} (hS : St u g H T S) (hM : Mono S0 S) (t_x0 : isO g H 6 x0) (ok : KO_X8_clearDecided_0 N g H T x0 S) (hx : X (KF_X8_clearDecided_0 N g H T x0 S)) : cX G o dX8_clearDecided mX8_clearDecided 0 [some (va_rf (some x0)), none] [] S Q := by
  unfold KO_X8_clearDecided_0 at ok
  unfold KF_X8_clearDecided_0 at hx
  refine c_iconst (v := nI 0) dX8_clearDecided_0 (by decide) ?_
  refine c_istore_1 dX8_clearDecided_1 (by decide) (by simp [zok, zg, zcat_rf]) ?_
  exact cX.cutz (kd_X8_clearDecided_2 hG hR hS hM t_x0 ok hx) ⟨rfl, rfl, trivial⟩
def k_X8_clearDecided (N g H T : Nat) (S : cS) (a0 : Nat) : cS := KF_X8_clearDecided_0 N g H T a0 S
def p_X8_clearDecided (N g H T : Nat) (S : cS) (a0 : Nat) : Prop := KO_X8_clearDecided_0 N g H T a0 S
set_option maxRecDepth 100000 in
set_option maxHeartbeats 4000000 in
theorem kc_X8_clearDecided {G : zG} {o : cO} {u g H T N : Nat} {S : cS} (hG : zOK G) {a0 : Nat} (hS : St u g H T S) (t_x0 : isO g H 6 a0) (ok : p_X8_clearDecided N g H T S a0) : cCv G o dX8_clearDecided mX8_clearDecided [.ref a0] S (fun S' => S' = k_X8_clearDecided N g H T S a0 ∧ St u g H T S' ∧ Mono S S') := by
  refine cC.ofX rfl (by exact Nat.le_of_ble_eq_true rfl) ?_
  show cX G o dX8_clearDecided mX8_clearDecided 0 [some (va_rf (some a0)), none] [] S _
  exact cX.cutz (kb_X8_clearDecided_0 (X := fun F => F = k_X8_clearDecided N g H T S a0) hG (fun S' h1 h2 h => ⟨rfl, h, h1, h2⟩) hS Mono.rfl' t_x0 ok rfl) ⟨rfl, trivial⟩
/-! X8_clearRest -/
def KF_X8_clearRest_56 (N g H T : Nat) (x0 : Nat) (S : cS) : cS := (csI (csI S 13 x0 (nI 0)) 12 x0 (nI 0))
def KO_X8_clearRest_56 (N g H T : Nat) (x0 : Nat) (S : cS) : Prop := True
set_option maxRecDepth 100000 in
set_option maxHeartbeats 4000000 in
theorem kb_X8_clearRest_56 {G : zG} {o : cO} {u g H T N : Nat} {S : cS} {S0 : cS} {Q : Option Value → cS → Prop} {X : cS → Prop} (hG : zOK G) (hR : ∀ S', St u g H T S' → Mono S0 S' → X S' → Q none S') {x0 : Nat} (hS : St u g H T S) (hM : Mono S0 S) (t_x0 : isO g H 6 x0) (ok : KO_X8_clearRest_56 N g H T x0 S) (hx : X (KF_X8_clearRest_56 N g H T x0 S)) : cX G o dX8_clearRest mX8_clearRest 56 [some (va_rf (some x0)), none] [] S Q := by
  unfold KO_X8_clearRest_56 at ok
  unfold KF_X8_clearRest_56 at hx
  refine c_aload_nQ dX8_clearRest_56 rfl rfl ?_
  refine c_iconst (v := nI 0) dX8_clearRest_57 (by decide) ?_
  refine c_putI (C := RX8) (T := TX8) (N := 14) (ci := 6) (k := 13) ⟨rfl, inT8, by decide, fX8_105⟩ ftT8 rfl (by decide) (by decide) (by decide) rfl rfl dX8_clearRest_58 (hS.k t_x0) ?_
  have hS := hS.I 13 x0 (nI 0)
  have hM := hM.I 13 x0 (nI 0)
  refine c_aload_nQ dX8_clearRest_61 rfl rfl ?_
  refine c_iconst (v := nI 0) dX8_clearRest_62 (by decide) ?_
  refine c_putI (C := RX8) (T := TX8) (N := 14) (ci := 6) (k := 12) ⟨rfl, inT8, by decide, fX8_108⟩ ftT8 rfl (by decide) (by decide) (by decide) rfl rfl dX8_clearRest_63 (hS.k t_x0) ?_
  have hS := hS.I 12 x0 (nI 0)
  have hM := hM.I 12 x0 (nI 0)
  exact c_return rfl dX8_clearRest_66 (hR _ hS hM hx)
def KF_X8_clearRest_50 (N g H T : Nat) (rec : Nat → Int32 → cS → Nat × Nat × cS) (x0 : Nat) (x1 : Int32) (S : cS) : Nat × Nat × cS := (rec x0 (x1 + nI 1) S)
def KO_X8_clearRest_50 (N g H T : Nat) (rok : Nat → Int32 → cS → Prop) (x0 : Nat) (x1 : Int32) (S : cS) : Prop := rok x0 (x1 + nI 1) S
set_option maxRecDepth 100000 in
set_option maxHeartbeats 4000000 in
theorem kb_X8_clearRest_50 {G : zG} {o : cO} {u g H T N : Nat} {S : cS} {S0 : cS} {Q : Option Value → cS → Prop} {X : Nat × Nat × cS → Prop} (hG : zOK G) (hX0 : ∀ (x0 : Nat) (S' : cS), St u g H T S' → Mono S0 S' → isO g H 6 x0 → X (0, x0, S') → cX G o dX8_clearRest mX8_clearRest 56 [some (va_rf (some x0)), none] [] S' Q) {rec : Nat → Int32 → cS → Nat × Nat × cS} {rok : Nat → Int32 → cS → Prop} (hrec : ∀ (x0 : Nat) (x1 : Int32) (S : cS), St u g H T S → Mono S0 S → isO g H 6 x0 → rok x0 x1 S → X (rec x0 x1 S) → cX G o dX8_clearRest mX8_clearRest 2 [some (va_rf (some x0)), some (.int x1)] [] S Q) {x0 : Nat} {x1 : Int32} (hS : St u g H T S) (hM : Mono S0 S) (t_x0 : isO g H 6 x0) (ok : KO_X8_clearRest_50 N g H T rok x0 x1 S) (hx : X (KF_X8_clearRest_50 N g H T rec x0 x1 S)) : cX G o dX8_clearRest mX8_clearRest 50 [some (va_rf (some x0)), some (.int x1)] [] S Q := by
  unfold KO_X8_clearRest_50 at ok
  unfold KF_X8_clearRest_50 at hx
  refine c_iinc_1 (v := (x1 + nI 1)) dX8_clearRest_50 rfl (by first | rfl | (congr 1)) (by decide) (by simp [zok, zg, zcat_rf]) ?_
  refine c_goto (tgt := 2) dX8_clearRest_53 (by decide) ?_
  exact cX.cutz (hrec _ _ S hS hM t_x0 ok hx) ⟨rfl, rfl, trivial⟩
def KF_X8_clearRest_36 (N g H T : Nat) (rec : Nat → Int32 → cS → Nat × Nat × cS) (x0 : Nat) (x1 : Int32) (S : cS) : Nat × Nat × cS := (KF_X8_clearRest_50 N g H T rec x0 x1 (csP (csP S (x0 + 8) x1.toNatClampNeg (none : Option Nat)) (x0 + 9) x1.toNatClampNeg (none : Option Nat)))
def KO_X8_clearRest_36 (N g H T : Nat) (rok : Nat → Int32 → cS → Prop) (x0 : Nat) (x1 : Int32) (S : cS) : Prop := (vp_in x1 T) ∧ (vp_in x1 T) ∧ KO_X8_clearRest_50 N g H T rok x0 x1 (csP (csP S (x0 + 8) x1.toNatClampNeg (none : Option Nat)) (x0 + 9) x1.toNatClampNeg (none : Option Nat))
set_option maxRecDepth 100000 in
set_option maxHeartbeats 4000000 in
theorem kb_X8_clearRest_36 {G : zG} {o : cO} {u g H T N : Nat} {S : cS} {S0 : cS} {Q : Option Value → cS → Prop} {X : Nat × Nat × cS → Prop} (hG : zOK G) (hX0 : ∀ (x0 : Nat) (S' : cS), St u g H T S' → Mono S0 S' → isO g H 6 x0 → X (0, x0, S') → cX G o dX8_clearRest mX8_clearRest 56 [some (va_rf (some x0)), none] [] S' Q) {rec : Nat → Int32 → cS → Nat × Nat × cS} {rok : Nat → Int32 → cS → Prop} (hrec : ∀ (x0 : Nat) (x1 : Int32) (S : cS), St u g H T S → Mono S0 S → isO g H 6 x0 → rok x0 x1 S → X (rec x0 x1 S) → cX G o dX8_clearRest mX8_clearRest 2 [some (va_rf (some x0)), some (.int x1)] [] S Q) {x0 : Nat} {x1 : Int32} (hS : St u g H T S) (hM : Mono S0 S) (t_x0 : isO g H 6 x0) (ok : KO_X8_clearRest_36 N g H T rok x0 x1 S) (hx : X (KF_X8_clearRest_36 N g H T rec x0 x1 S)) : cX G o dX8_clearRest mX8_clearRest 36 [some (va_rf (some x0)), some (.int x1)] [] S Q := by
  unfold KO_X8_clearRest_36 at ok
  unfold KF_X8_clearRest_36 at hx
  refine c_aload_nQ dX8_clearRest_36 rfl rfl ?_
  refine c_getS (C := RX8) (T := TX8) (N := 14) (ci := 6) (k := 8) ⟨rfl, inT8, by decide, fX8_45⟩ (by decide) (by decide) (by decide) dX8_clearRest_37 (hS.k t_x0) (hS.r (c := 6) t_x0 rfl (by omega)) ?_
  refine c_iload_n dX8_clearRest_40 rfl rfl ?_
  refine c_null' dX8_clearRest_41 ?_
  have hS2 := hS.P24 (i := x1.toNatClampNeg) ((hS.rk (c := 6) (k := 8) t_x0 rfl (by omega)) _ rfl) tK_none
  refine c_aast (t := 4) (ci := 4) (rr := (RX5, TX5, 7)) rfl rfl (by decide) (by decide) dX8_clearRest_42 ⟨(tK.cis (hS.rk (c := 6) (k := 8) t_x0 rfl (by omega)) (Option.some_ne_none _)), (vk_cast (hS.rl (c := 6) (k := 8) t_x0 rfl (by decide) (by omega)) ok.1), tKor tK_none⟩ ?_
  have hS := hS2
  have hM := hM.P (x0 + 8) x1.toNatClampNeg (none : Option Nat)
  have ok := ok.2
  refine c_aload_nQ dX8_clearRest_43 rfl rfl ?_
  refine c_getS (C := RX8) (T := TX8) (N := 14) (ci := 6) (k := 9) ⟨rfl, inT8, by decide, fX8_48⟩ (by decide) (by decide) (by decide) dX8_clearRest_44 (hS.k t_x0) (hS.r (c := 6) t_x0 rfl (by omega)) ?_
  refine c_iload_n dX8_clearRest_47 rfl rfl ?_
  refine c_null' dX8_clearRest_48 ?_
  have hS2 := hS.P24 (i := x1.toNatClampNeg) ((hS.rk (c := 6) (k := 9) t_x0 rfl (by omega)) _ rfl) tK_none
  refine c_aast (t := 4) (ci := 4) (rr := (RX5, TX5, 7)) rfl rfl (by decide) (by decide) dX8_clearRest_49 ⟨(tK.cis (hS.rk (c := 6) (k := 9) t_x0 rfl (by omega)) (Option.some_ne_none _)), (vk_cast (hS.rl (c := 6) (k := 9) t_x0 rfl (by decide) (by omega)) ok.1), tKor tK_none⟩ ?_
  have hS := hS2
  have hM := hM.P (x0 + 9) x1.toNatClampNeg (none : Option Nat)
  have ok := ok.2
  exact cX.cutz (kb_X8_clearRest_50 hG hX0 hrec hS hM t_x0 ok hx) ⟨rfl, rfl, trivial⟩
def KF_X8_clearRest_23 (N g H T : Nat) (rec : Nat → Int32 → cS → Nat × Nat × cS) (x0 : Nat) (x1 : Int32) (S : cS) : Nat × Nat × cS := (KF_X8_clearRest_36 N g H T rec x0 x1 (k_X9_drop N g H T S (g + 11) (cP S (x0 + 9) x1.toNatClampNeg)))
def KO_X8_clearRest_23 (N g H T : Nat) (rok : Nat → Int32 → cS → Prop) (x0 : Nat) (x1 : Int32) (S : cS) : Prop := (vp_in x1 T) ∧ (p_X9_drop N g H T S (g + 11) (cP S (x0 + 9) x1.toNatClampNeg)) ∧ KO_X8_clearRest_36 N g H T rok x0 x1 (k_X9_drop N g H T S (g + 11) (cP S (x0 + 9) x1.toNatClampNeg))
set_option maxRecDepth 100000 in
set_option maxHeartbeats 4000000 in
theorem kb_X8_clearRest_23 {G : zG} {o : cO} {u g H T N : Nat} {S : cS} {S0 : cS} {Q : Option Value → cS → Prop} {X : Nat × Nat × cS → Prop} (hG : zOK G) (hX0 : ∀ (x0 : Nat) (S' : cS), St u g H T S' → Mono S0 S' → isO g H 6 x0 → X (0, x0, S') → cX G o dX8_clearRest mX8_clearRest 56 [some (va_rf (some x0)), none] [] S' Q) {rec : Nat → Int32 → cS → Nat × Nat × cS} {rok : Nat → Int32 → cS → Prop} (hrec : ∀ (x0 : Nat) (x1 : Int32) (S : cS), St u g H T S → Mono S0 S → isO g H 6 x0 → rok x0 x1 S → X (rec x0 x1 S) → cX G o dX8_clearRest mX8_clearRest 2 [some (va_rf (some x0)), some (.int x1)] [] S Q) {x0 : Nat} {x1 : Int32} (hS : St u g H T S) (hM : Mono S0 S) (t_x0 : isO g H 6 x0) (ok : KO_X8_clearRest_23 N g H T rok x0 x1 S) (hx : X (KF_X8_clearRest_23 N g H T rec x0 x1 S)) : cX G o dX8_clearRest mX8_clearRest 23 [some (va_rf (some x0)), some (.int x1)] [] S Q := by
  unfold KO_X8_clearRest_23 at ok
  unfold KF_X8_clearRest_23 at hx
  refine c_aload_nQ dX8_clearRest_23 rfl rfl ?_
  refine c_getS (C := RX8) (T := TX8) (N := 14) (ci := 6) (k := 0) ⟨rfl, inT8, by decide, fX8_28⟩ (by decide) (by decide) (by decide) dX8_clearRest_24 (hS.k t_x0) (hS.r (c := 6) t_x0 rfl (by omega)) ?_
  refine c_aload_nQ dX8_clearRest_27 rfl rfl ?_
  refine c_getS (C := RX8) (T := TX8) (N := 14) (ci := 6) (k := 9) ⟨rfl, inT8, by decide, fX8_48⟩ (by decide) (by decide) (by decide) dX8_clearRest_28 (hS.k t_x0) (hS.r (c := 6) t_x0 rfl (by omega)) ?_
  refine c_iload_n dX8_clearRest_31 rfl rfl ?_
  have p_32 := hS.row24 (hS.rk (c := 6) (k := 9) t_x0 rfl (by omega)) x1.toNatClampNeg
  refine c_aald (t := 4) (ty := (.object "QuorumLedger$Message")) rfl rfl (by decide) dX8_clearRest_32 ⟨(tK.cis (hS.rk (c := 6) (k := 9) t_x0 rfl (by omega)) (Option.some_ne_none _)), (vk_cast (hS.rl (c := 6) (k := 9) t_x0 rfl (by decide) (by omega)) ok.1)⟩ ?_
  have ok := ok.2
  refine c_V1vK (ci := 7) (rr := (RX9, TX9, 13)) (y' := mX9_drop) dX8_clearRest_33 lX8_91 kX9_drop ⟨by decide, by decide⟩ rfl rfl (by decide) (hS.k (o60 t_x0)) (Nat.le_of_ble_eq_true rfl) (kc_X9_drop hG hS (o60 t_x0) p_32 ok.1) (fun ⟨hS, hm_33⟩ => ?_)
  have hM := hM.trans hm_33
  have ok := ok.2
  exact cX.cutz (kb_X8_clearRest_36 hG hX0 hrec hS hM t_x0 ok hx) ⟨rfl, rfl, trivial⟩
def KB_X8_clearRest_2 (N g H T : Nat) (rec : Nat → Int32 → cS → Nat × Nat × cS) (x0 : Nat) (x1 : Int32) (S : cS) : Nat × Nat × cS := (if (cI S 1 x0) ≤ x1 then (0, x0, S) else (KF_X8_clearRest_23 N g H T rec x0 x1 (k_X9_drop N g H T S (g + 11) (cP S (x0 + 8) x1.toNatClampNeg))))
def KOB_X8_clearRest_2 (N g H T : Nat) (rok : Nat → Int32 → cS → Prop) (x0 : Nat) (x1 : Int32) (S : cS) : Prop := (((cI S 1 x0) ≤ x1 → True) ∧ (¬ (cI S 1 x0) ≤ x1 → (vp_in x1 T) ∧ (p_X9_drop N g H T S (g + 11) (cP S (x0 + 8) x1.toNatClampNeg)) ∧ KO_X8_clearRest_23 N g H T rok x0 x1 (k_X9_drop N g H T S (g + 11) (cP S (x0 + 8) x1.toNatClampNeg))))
set_option maxRecDepth 100000 in
set_option maxHeartbeats 4000000 in
theorem kbb_X8_clearRest_2 {G : zG} {o : cO} {u g H T N : Nat} {S : cS} {S0 : cS} {Q : Option Value → cS → Prop} {X : Nat × Nat × cS → Prop} (hG : zOK G) (hX0 : ∀ (x0 : Nat) (S' : cS), St u g H T S' → Mono S0 S' → isO g H 6 x0 → X (0, x0, S') → cX G o dX8_clearRest mX8_clearRest 56 [some (va_rf (some x0)), none] [] S' Q) {rec : Nat → Int32 → cS → Nat × Nat × cS} {rok : Nat → Int32 → cS → Prop} (hrec : ∀ (x0 : Nat) (x1 : Int32) (S : cS), St u g H T S → Mono S0 S → isO g H 6 x0 → rok x0 x1 S → X (rec x0 x1 S) → cX G o dX8_clearRest mX8_clearRest 2 [some (va_rf (some x0)), some (.int x1)] [] S Q) {x0 : Nat} {x1 : Int32} (hS : St u g H T S) (hM : Mono S0 S) (t_x0 : isO g H 6 x0) (ok : KOB_X8_clearRest_2 N g H T rok x0 x1 S) (hx : X (KB_X8_clearRest_2 N g H T rec x0 x1 S)) : cX G o dX8_clearRest mX8_clearRest 2 [some (va_rf (some x0)), some (.int x1)] [] S Q := by
  unfold KOB_X8_clearRest_2 at ok
  unfold KB_X8_clearRest_2 at hx
  refine c_iload_n dX8_clearRest_2 rfl rfl ?_
  refine c_aload_nQ dX8_clearRest_3 rfl rfl ?_
  refine c_getI (C := RX8) (T := TX8) (N := 14) (ci := 6) (k := 1) ⟨rfl, inT8, by decide, fX8_32⟩ (by decide) (by decide) (by decide) dX8_clearRest_4 (hS.k t_x0) ?_
  refine c_icmp_ge (tgt := 56) dX8_clearRest_7 (by decide) (fun c_7 => ?_) (fun c_7 => ?_)
  · have ok := ok.1 c_7
    have hx := xif_p c_7 hx
    exact cX.cutz (hX0 _ S hS hM t_x0 hx) ⟨rfl, trivial⟩
  · have ok := ok.2 c_7
    have hx := xif_n c_7 hx
    refine c_aload_nQ dX8_clearRest_10 rfl rfl ?_
    refine c_getS (C := RX8) (T := TX8) (N := 14) (ci := 6) (k := 0) ⟨rfl, inT8, by decide, fX8_28⟩ (by decide) (by decide) (by decide) dX8_clearRest_11 (hS.k t_x0) (hS.r (c := 6) t_x0 rfl (by omega)) ?_
    refine c_aload_nQ dX8_clearRest_14 rfl rfl ?_
    refine c_getS (C := RX8) (T := TX8) (N := 14) (ci := 6) (k := 8) ⟨rfl, inT8, by decide, fX8_45⟩ (by decide) (by decide) (by decide) dX8_clearRest_15 (hS.k t_x0) (hS.r (c := 6) t_x0 rfl (by omega)) ?_
    refine c_iload_n dX8_clearRest_18 rfl rfl ?_
    have p_19 := hS.row24 (hS.rk (c := 6) (k := 8) t_x0 rfl (by omega)) x1.toNatClampNeg
    refine c_aald (t := 4) (ty := (.object "QuorumLedger$Message")) rfl rfl (by decide) dX8_clearRest_19 ⟨(tK.cis (hS.rk (c := 6) (k := 8) t_x0 rfl (by omega)) (Option.some_ne_none _)), (vk_cast (hS.rl (c := 6) (k := 8) t_x0 rfl (by decide) (by omega)) ok.1)⟩ ?_
    have ok := ok.2
    refine c_V1vK (ci := 7) (rr := (RX9, TX9, 13)) (y' := mX9_drop) dX8_clearRest_20 lX8_91 kX9_drop ⟨by decide, by decide⟩ rfl rfl (by decide) (hS.k (o60 t_x0)) (Nat.le_of_ble_eq_true rfl) (kc_X9_drop hG hS (o60 t_x0) p_19 ok.1) (fun ⟨hS, hm_20⟩ => ?_)
    have hM := hM.trans hm_20
    have ok := ok.2
    exact cX.cutz (kb_X8_clearRest_23 hG hX0 hrec hS hM t_x0 ok hx) ⟨rfl, rfl, trivial⟩
def KL_X8_clearRest_2 (N g H T : Nat) : Nat → Nat → Int32 → cS → Nat × Nat × cS
  | 0, x0, x1, S => (0, 0, S)
  | n + 1, x0, x1, S => KB_X8_clearRest_2 N g H T (KL_X8_clearRest_2 N g H T n) x0 x1 S
def KOL_X8_clearRest_2 (N g H T : Nat) : Nat → Nat → Int32 → cS → Prop
  | 0, _, _, _ => False
  | n + 1, x0, x1, S => KOB_X8_clearRest_2 N g H T (KOL_X8_clearRest_2 N g H T n) x0 x1 S
set_option maxRecDepth 100000 in
set_option maxHeartbeats 4000000 in
theorem kl_X8_clearRest_2 {G : zG} {o : cO} {u g H T N : Nat} {S0 : cS} {Q : Option Value → cS → Prop} {X : Nat × Nat × cS → Prop} (hG : zOK G) (hX0 : ∀ (x0 : Nat) (S' : cS), St u g H T S' → Mono S0 S' → isO g H 6 x0 → X (0, x0, S') → cX G o dX8_clearRest mX8_clearRest 56 [some (va_rf (some x0)), none] [] S' Q) : ∀ (n : Nat) (x0 : Nat) (x1 : Int32) (S : cS), St u g H T S → Mono S0 S → isO g H 6 x0 → KOL_X8_clearRest_2 N g H T n x0 x1 S → X (KL_X8_clearRest_2 N g H T n x0 x1 S) → cX G o dX8_clearRest mX8_clearRest 2 [some (va_rf (some x0)), some (.int x1)] [] S Q := by
  intro n
  induction n with
  | zero => intro x0 x1 S hS hM t_x0 ok; exact absurd ok id
  | succ n ih =>
    intro x0 x1 S hS hM t_x0 ok hx
    exact kbb_X8_clearRest_2 hG hX0 (rec := KL_X8_clearRest_2 N g H T n) (rok := KOL_X8_clearRest_2 N g H T n) (fun x0 x1 S hS hM t_x0 ok hx => ih x0 x1 S hS hM t_x0 ok hx) hS hM t_x0 ok hx
def KA_X8_clearRest_2 (N g H T : Nat) (x0 : Nat) (x1 : Int32) (S : cS) (z : Nat × Nat × cS) : cS := (KF_X8_clearRest_56 N g H T (z.2.1) z.2.2)
def KOA_X8_clearRest_2 (N g H T : Nat) (x0 : Nat) (x1 : Int32) (S : cS) (z : Nat × Nat × cS) : Prop := KO_X8_clearRest_56 N g H T (z.2.1) z.2.2
set_option maxRecDepth 100000 in
set_option maxHeartbeats 4000000 in
theorem kd_X8_clearRest_2 {G : zG} {o : cO} {u g H T N : Nat} {S : cS} {S0 : cS} {Q : Option Value → cS → Prop} {X : cS → Prop} (hG : zOK G) (hR : ∀ S', St u g H T S' → Mono S0 S' → X S' → Q none S') {x0 : Nat} {x1 : Int32} (hS : St u g H T S) (hM : Mono S0 S) (t_x0 : isO g H 6 x0) (ok : KOL_X8_clearRest_2 N g H T N x0 x1 S ∧ KOA_X8_clearRest_2 N g H T x0 x1 S (KL_X8_clearRest_2 N g H T N x0 x1 S)) (hx : X (KA_X8_clearRest_2 N g H T x0 x1 S (KL_X8_clearRest_2 N g H T N x0 x1 S))) : cX G o dX8_clearRest mX8_clearRest 2 [some (va_rf (some x0)), some (.int x1)] [] S Q := by
  refine kl_X8_clearRest_2 hG ?_ N x0 x1 S hS hM t_x0 ok.1 (X := fun z => KOA_X8_clearRest_2 N g H T x0 x1 S z ∧ X (KA_X8_clearRest_2 N g H T x0 x1 S z)) ⟨ok.2, hx⟩
  · intro x0' S' hS hM t_x0 hz
    obtain ⟨ok, hx⟩ := hz
    unfold KOA_X8_clearRest_2 at ok
    unfold KA_X8_clearRest_2 at hx
    exact cX.cutz (kb_X8_clearRest_56 hG hR hS hM t_x0 ok hx) ⟨rfl, trivial⟩
def KF_X8_clearRest_0 (N g H T : Nat) (x0 : Nat) (S : cS) : cS := (KA_X8_clearRest_2 N g H T x0 (nI 0) S (KL_X8_clearRest_2 N g H T N x0 (nI 0) S))
def KO_X8_clearRest_0 (N g H T : Nat) (x0 : Nat) (S : cS) : Prop := (KOL_X8_clearRest_2 N g H T N x0 (nI 0) S ∧ KOA_X8_clearRest_2 N g H T x0 (nI 0) S (KL_X8_clearRest_2 N g H T N x0 (nI 0) S))
set_option maxRecDepth 100000 in
set_option maxHeartbeats 4000000 in
theorem kb_X8_clearRest_0 {G : zG} {o : cO} {u g H T N : Nat} {S : cS} {S0 : cS} {Q : Option Value → cS → Prop} {X : cS → Prop} (hG : zOK G) (hR : ∀ S', St u g H T S' → Mono S0 S' → X S' → Q none S') {x0 : Nat} (hS : St u g H T S) (hM : Mono S0 S) (t_x0 : isO g H 6 x0) (ok : KO_X8_clearRest_0 N g H T x0 S) (hx : X (KF_X8_clearRest_0 N g H T x0 S)) : cX G o dX8_clearRest mX8_clearRest 0 [some (va_rf (some x0)), none] [] S Q := by
  unfold KO_X8_clearRest_0 at ok
  unfold KF_X8_clearRest_0 at hx
  refine c_iconst (v := nI 0) dX8_clearRest_0 (by decide) ?_
  refine c_istore_1 dX8_clearRest_1 (by decide) (by simp [zok, zg, zcat_rf]) ?_
  exact cX.cutz (kd_X8_clearRest_2 hG hR hS hM t_x0 ok hx) ⟨rfl, rfl, trivial⟩
def k_X8_clearRest (N g H T : Nat) (S : cS) (a0 : Nat) : cS := KF_X8_clearRest_0 N g H T a0 S
def p_X8_clearRest (N g H T : Nat) (S : cS) (a0 : Nat) : Prop := KO_X8_clearRest_0 N g H T a0 S
set_option maxRecDepth 100000 in
set_option maxHeartbeats 4000000 in
theorem kc_X8_clearRest {G : zG} {o : cO} {u g H T N : Nat} {S : cS} (hG : zOK G) {a0 : Nat} (hS : St u g H T S) (t_x0 : isO g H 6 a0) (ok : p_X8_clearRest N g H T S a0) : cCv G o dX8_clearRest mX8_clearRest [.ref a0] S (fun S' => S' = k_X8_clearRest N g H T S a0 ∧ St u g H T S' ∧ Mono S S') := by
  refine cC.ofX rfl (by exact Nat.le_of_ble_eq_true rfl) ?_
  show cX G o dX8_clearRest mX8_clearRest 0 [some (va_rf (some a0)), none] [] S _
  exact cX.cutz (kb_X8_clearRest_0 (X := fun F => F = k_X8_clearRest N g H T S a0) hG (fun S' h1 h2 h => ⟨rfl, h, h1, h2⟩) hS Mono.rfl' t_x0 ok rfl) ⟨rfl, trivial⟩

/-! X11_restart -/
def KF_X11_restart_27 (N g H T : Nat)  (S : cS) : Int32 × cS := ((nI 1), S)
def KO_X11_restart_27 (N g H T : Nat)  (S : cS) : Prop := True
set_option maxRecDepth 100000 in
set_option maxHeartbeats 4000000 in
theorem kb_X11_restart_27 {G : zG} {o : cO} {g H T N : Nat} {S : cS} {S0 : cS} {Q : Option Value → cS → Prop} {X : Int32 × cS → Prop} (hG : zOK G) (hR : ∀ v S', St 1 g H T S' → Mono S0 S' → X (v, S') → Q (some (.int v)) S') (hS : St 1 g H T S) (hM : Mono S0 S) (ok : KO_X11_restart_27 N g H T S) (hx : X (KF_X11_restart_27 N g H T S)) : cX G o dX11_restart mX11_restart 27 [none, none, none] [] S Q := by
  unfold KO_X11_restart_27 at ok
  unfold KF_X11_restart_27 at hx
  refine c_iconst (v := nI 1) dX11_restart_27 (by decide) ?_
  exact c_ireturn rfl rfl dX11_restart_28 (hR _ _ hS hM hx)
def KF_X11_restart_23 (N g H T : Nat) (x2 : Option Nat) (S : cS) : Int32 × cS := (KF_X11_restart_27 N g H T (k_X7_settle N g H T S x2))
def KO_X11_restart_23 (N g H T : Nat) (x2 : Option Nat) (S : cS) : Prop := (p_X7_settle N g H T S x2) ∧ KO_X11_restart_27 N g H T (k_X7_settle N g H T S x2)
set_option maxRecDepth 100000 in
set_option maxHeartbeats 4000000 in
theorem kb_X11_restart_23 {G : zG} {o : cO} {g H T N : Nat} {S : cS} {S0 : cS} {Q : Option Value → cS → Prop} {X : Int32 × cS → Prop} (hG : zOK G) (hR : ∀ v S', St 1 g H T S' → Mono S0 S' → X (v, S') → Q (some (.int v)) S') {x2 : Option Nat} (hS : St 1 g H T S) (hM : Mono S0 S) (t_x2 : tN g H x2) (ok : KO_X11_restart_23 N g H T x2 S) (hx : X (KF_X11_restart_23 N g H T x2 S)) : cX G o dX11_restart mX11_restart 23 [none, none, some (va_rf x2)] [] S Q := by
  unfold KO_X11_restart_23 at ok
  unfold KF_X11_restart_23 at hx
  refine c_aload_nQ dX11_restart_23 rfl rfl ?_
  refine c_S1vK (y' := mX7_settle) dX11_restart_24 lX11_217 kX7_settle ⟨by decide, by decide⟩ (Nat.le_of_ble_eq_true rfl) (kc_X7_settle hG hS t_x2 ok.1) (fun ⟨hS, hm_24⟩ => ?_)
  have hM := hM.trans hm_24
  have ok := ok.2
  exact cX.cutz (kb_X11_restart_27 hG hR hS hM  ok hx) trivial
def KF_X11_restart_17 (N g H T : Nat)  (S : cS) : Int32 × cS := ((nI 0), S)
def KO_X11_restart_17 (N g H T : Nat)  (S : cS) : Prop := True
set_option maxRecDepth 100000 in
set_option maxHeartbeats 4000000 in
theorem kb_X11_restart_17 {G : zG} {o : cO} {g H T N : Nat} {S : cS} {S0 : cS} {Q : Option Value → cS → Prop} {X : Int32 × cS → Prop} (hG : zOK G) (hR : ∀ v S', St 1 g H T S' → Mono S0 S' → X (v, S') → Q (some (.int v)) S') (hS : St 1 g H T S) (hM : Mono S0 S) (ok : KO_X11_restart_17 N g H T S) (hx : X (KF_X11_restart_17 N g H T S)) : cX G o dX11_restart mX11_restart 17 [none, none, none] [] S Q := by
  unfold KO_X11_restart_17 at ok
  unfold KF_X11_restart_17 at hx
  refine c_iconst (v := nI 0) dX11_restart_17 (by decide) ?_
  exact c_ireturn rfl rfl dX11_restart_18 (hR _ _ hS hM hx)
def KF_X11_restart_0 (N g H T : Nat) (x0 : Nat) (x1 : Int32) (S : cS) : Int32 × cS := (if (k_X11_honestNode N g H T S x0 x1) = none then (KF_X11_restart_17 N g H T S) else (if (cI S 8 (za (k_X11_honestNode N g H T S x0 x1))) = 0 then (KF_X11_restart_23 N g H T (k_X11_honestNode N g H T S x0 x1) (k_X6_wake N g H T S (za (k_X11_honestNode N g H T S x0 x1)))) else (KF_X11_restart_17 N g H T S)))
def KO_X11_restart_0 (N g H T : Nat) (x0 : Nat) (x1 : Int32) (S : cS) : Prop := (p_X11_honestNode N g H T S x0 x1) ∧ (((k_X11_honestNode N g H T S x0 x1) = none → KO_X11_restart_17 N g H T S) ∧ (¬ (k_X11_honestNode N g H T S x0 x1) = none → (((cI S 8 (za (k_X11_honestNode N g H T S x0 x1))) = 0 → (p_X6_wake N g H T S (za (k_X11_honestNode N g H T S x0 x1))) ∧ KO_X11_restart_23 N g H T (k_X11_honestNode N g H T S x0 x1) (k_X6_wake N g H T S (za (k_X11_honestNode N g H T S x0 x1)))) ∧ (¬ (cI S 8 (za (k_X11_honestNode N g H T S x0 x1))) = 0 → KO_X11_restart_17 N g H T S))))
set_option maxRecDepth 100000 in
set_option maxHeartbeats 4000000 in
theorem kb_X11_restart_0 {G : zG} {o : cO} {g H T N : Nat} {S : cS} {S0 : cS} {Q : Option Value → cS → Prop} {X : Int32 × cS → Prop} (hG : zOK G) (hR : ∀ v S', St 1 g H T S' → Mono S0 S' → X (v, S') → Q (some (.int v)) S') {x0 : Nat} {x1 : Int32} (hS : St 1 g H T S) (hM : Mono S0 S) (t_x0 : isO g H 9 x0) (ok : KO_X11_restart_0 N g H T x0 x1 S) (hx : X (KF_X11_restart_0 N g H T x0 x1 S)) : cX G o dX11_restart mX11_restart 0 [some (va_rf (some x0)), some (.int x1), none] [] S Q := by
  unfold KO_X11_restart_0 at ok
  unfold KF_X11_restart_0 at hx
  refine c_aload_nQ dX11_restart_0 rfl rfl ?_
  refine c_iload_n dX11_restart_1 rfl rfl ?_
  refine c_V1qK (ci := 9) (rr := (RX11, TX11, 4)) (y' := mX11_honestNode) dX11_restart_2 lX11_120 kX11_honestNode ⟨by decide, by decide⟩ rfl rfl (by decide) (hS.k t_x0) (Nat.le_of_ble_eq_true rfl) (kc_X11_honestNode hG hS t_x0 ok.1) (fun tv_2 => ?_)
  have ok := ok.2
  refine c_astore_2Q dX11_restart_5 (by decide) rfl ?_
  refine c_aload_nQ dX11_restart_6 rfl rfl ?_
  refine c_ifnullI (tgt := 17) dX11_restart_7 (by decide) (fun c_7 => ?_) (fun c_7 => ?_)
  · have ok := ok.1 c_7
    have hx := xif_p c_7 hx
    exact cX.cutz (kb_X11_restart_17 hG hR hS hM  ok hx) trivial
  · have ok := ok.2 c_7
    have hx := xif_n c_7 hx
    refine c_aload_nQ dX11_restart_10 rfl rfl ?_
    refine c_getI (C := RX6) (T := TX6) (N := 19) (ci := 5) (k := 8) ⟨rfl, inT6, by decide, fX11_157⟩ (by decide) (by decide) (by decide) dX11_restart_11 (hS.kN tv_2 c_7) ?_
    refine c_if_eq (tgt := 19) dX11_restart_14 (by decide) (fun c_14 => ?_) (fun c_14 => ?_)
    · have ok := ok.1 c_14
      have hx := xif_p c_14 hx
      refine c_aload_nQ dX11_restart_19 rfl rfl ?_
      refine c_V0vK (ci := 5) (rr := (RX6, TX6, 19)) (y' := mX6_wake) dX11_restart_20 lX11_214 kX6_wake ⟨by decide, by decide⟩ rfl rfl (by decide) (hS.kN tv_2 c_7) (Nat.le_of_ble_eq_true rfl) (kc_X6_wake hG hS (tN.o tv_2 c_7) ok.1) (fun ⟨hS, hm_20⟩ => ?_)
      have hM := hM.trans hm_20
      have ok := ok.2
      exact cX.cutz (kb_X11_restart_23 hG hR hS hM tv_2 ok hx) ⟨rfl, trivial⟩
    · have ok := ok.2 c_14
      have hx := xif_n c_14 hx
      exact cX.cutz (kb_X11_restart_17 hG hR hS hM  ok hx) trivial
def k_X11_restart (N g H T : Nat) (S : cS) (a0 : Nat) (x1 : Int32) : Int32 × cS := KF_X11_restart_0 N g H T a0 x1 S
def p_X11_restart (N g H T : Nat) (S : cS) (a0 : Nat) (x1 : Int32) : Prop := KO_X11_restart_0 N g H T a0 x1 S
set_option maxRecDepth 100000 in
set_option maxHeartbeats 4000000 in
theorem kc_X11_restart {G : zG} {o : cO} {g H T N : Nat} {S : cS} (hG : zOK G) {a0 : Nat} {x1 : Int32} (hS : St 1 g H T S) (t_x0 : isO g H 9 a0) (ok : p_X11_restart N g H T S a0 x1) : cCi G o dX11_restart mX11_restart [.ref a0, .int x1] S (fun v S' => (v = (k_X11_restart N g H T S a0 x1).1 ∧ S' = (k_X11_restart N g H T S a0 x1).2) ∧ St 1 g H T S' ∧ Mono S S') := by
  refine cC.ofX rfl (by exact Nat.le_of_ble_eq_true rfl) ?_
  show cX G o dX11_restart mX11_restart 0 [some (va_rf (some a0)), some (.int x1), none] [] S _
  exact cX.cutz (kb_X11_restart_0 (X := fun F => F = k_X11_restart N g H T S a0 x1) hG (fun v S' h1 h2 h => ⟨v, rfl, ⟨by rw [← h], by rw [← h]⟩, h1, h2⟩) hS Mono.rfl' t_x0 ok rfl) ⟨rfl, rfl, trivial⟩
/-! X11_state -/
def KF_X11_state_113 (N g H T : Nat) (s0 : Int32) (S : cS) : Int32 := s0
def KO_X11_state_113 (N g H T : Nat) (s0 : Int32) (S : cS) : Prop := True
set_option maxRecDepth 100000 in
set_option maxHeartbeats 4000000 in
theorem kb_X11_state_113 {G : zG} {o : cO} {g H T N : Nat} {S : cS} {Q : Option Value → cS → Prop} {X : Int32 → Prop} (hG : zOK G) (hR : ∀ v, X v → Q (some (.int v)) S) {s0 : Int32} (hS : St 1 g H T S) (ok : KO_X11_state_113 N g H T s0 S) (hx : X (KF_X11_state_113 N g H T s0 S)) : cX G o dX11_state mX11_state 113 [none, none, none, none] [.int s0] S Q := by
  unfold KO_X11_state_113 at ok
  unfold KF_X11_state_113 at hx
  exact c_ireturn rfl rfl dX11_state_113 (hR _ hx)
def KF_X11_state_0 (N g H T : Nat) (x0 : Nat) (x1 : Int32) (x2 : Int32) (S : cS) : Int32 := (if (k_X11_honestNode N g H T S x0 x1) = none then (-1) else (if x2 = nI 0 then (cI S 9 (za (k_X11_honestNode N g H T S x0 x1))) else (if x2 = nI 1 then (cI S 10 (za (k_X11_honestNode N g H T S x0 x1))) else (if x2 = nI 2 then (cI S 11 (za (k_X11_honestNode N g H T S x0 x1))) else (if x2 = nI 3 then (cI S 12 (za (k_X11_honestNode N g H T S x0 x1))) else (if x2 = nI 4 then (cI S 13 (za (k_X11_honestNode N g H T S x0 x1))) else (if x2 = nI 5 then (if (cI S 8 (za (k_X11_honestNode N g H T S x0 x1))) = 0 then (KF_X11_state_113 N g H T (nI 0) S) else (KF_X11_state_113 N g H T (nI 1) S)) else (if x2 = nI 6 then (cI S 12 ((za (k_X11_honestNode N g H T S x0 x1)) + 14)) else (if x2 = nI 7 then (k_X6_timersSet N g H T S (za (k_X11_honestNode N g H T S x0 x1))) else (if x2 = nI 8 then (cI S 17 (za (k_X11_honestNode N g H T S x0 x1))) else (if x2 = nI 9 then (cI S 7 ((za (k_X11_honestNode N g H T S x0 x1)) + 1)) else (if x2 = nI 10 then (cI S 8 ((za (k_X11_honestNode N g H T S x0 x1)) + 1)) else (if x2 = nI 11 then (cI S 13 ((za (k_X11_honestNode N g H T S x0 x1)) + 14)) else (-1))))))))))))))
def KO_X11_state_0 (N g H T : Nat) (x0 : Nat) (x1 : Int32) (x2 : Int32) (S : cS) : Prop := (p_X11_honestNode N g H T S x0 x1) ∧ (((k_X11_honestNode N g H T S x0 x1) = none → True) ∧ (¬ (k_X11_honestNode N g H T S x0 x1) = none → ((x2 = nI 0 → True) ∧ (¬ x2 = nI 0 → ((x2 = nI 1 → True) ∧ (¬ x2 = nI 1 → ((x2 = nI 2 → True) ∧ (¬ x2 = nI 2 → ((x2 = nI 3 → True) ∧ (¬ x2 = nI 3 → ((x2 = nI 4 → True) ∧ (¬ x2 = nI 4 → ((x2 = nI 5 → (((cI S 8 (za (k_X11_honestNode N g H T S x0 x1))) = 0 → KO_X11_state_113 N g H T (nI 0) S) ∧ (¬ (cI S 8 (za (k_X11_honestNode N g H T S x0 x1))) = 0 → KO_X11_state_113 N g H T (nI 1) S))) ∧ (¬ x2 = nI 5 → ((x2 = nI 6 → True) ∧ (¬ x2 = nI 6 → ((x2 = nI 7 → (p_X6_timersSet N g H T S (za (k_X11_honestNode N g H T S x0 x1))) ∧ True) ∧ (¬ x2 = nI 7 → ((x2 = nI 8 → True) ∧ (¬ x2 = nI 8 → ((x2 = nI 9 → True) ∧ (¬ x2 = nI 9 → ((x2 = nI 10 → True) ∧ (¬ x2 = nI 10 → ((x2 = nI 11 → True) ∧ (¬ x2 = nI 11 → True))))))))))))))))))))))))))
set_option maxRecDepth 100000 in
set_option maxHeartbeats 4000000 in
theorem kb_X11_state_0 {G : zG} {o : cO} {g H T N : Nat} {S : cS} {Q : Option Value → cS → Prop} {X : Int32 → Prop} (hG : zOK G) (hR : ∀ v, X v → Q (some (.int v)) S) {x0 : Nat} {x1 : Int32} {x2 : Int32} (hS : St 1 g H T S) (t_x0 : isO g H 9 x0) (ok : KO_X11_state_0 N g H T x0 x1 x2 S) (hx : X (KF_X11_state_0 N g H T x0 x1 x2 S)) : cX G o dX11_state mX11_state 0 [some (va_rf (some x0)), some (.int x1), some (.int x2), none] [] S Q := by
  unfold KO_X11_state_0 at ok
  unfold KF_X11_state_0 at hx
  refine c_aload_nQ dX11_state_0 rfl rfl ?_
  refine c_iload_n dX11_state_1 rfl rfl ?_
  refine c_V1qK (ci := 9) (rr := (RX11, TX11, 4)) (y' := mX11_honestNode) dX11_state_2 lX11_120 kX11_honestNode ⟨by decide, by decide⟩ rfl rfl (by decide) (hS.k t_x0) (Nat.le_of_ble_eq_true rfl) (kc_X11_honestNode hG hS t_x0 ok.1) (fun tv_2 => ?_)
  have ok := ok.2
  refine c_astore_3Q dX11_state_5 (by decide) rfl ?_
  refine c_aload_nQ dX11_state_6 rfl rfl ?_
  refine c_ifnonnullI (tgt := 12) dX11_state_7 (by decide) (fun c_7 => ?_) (fun c_7 => ?_)
  · have ok := ok.2 c_7
    have hx := xif_n c_7 hx
    refine c_iload_n dX11_state_12 rfl rfl ?_
    by_cases c_13_0 : x2 = nI 0
    · have ok := ok.1 c_13_0
      have hx := xif_p c_13_0 hx
      refine c_tableIn (off := 63) (tgt := 76) dX11_state_13 (by rw [c_13_0]; decide) (by rw [c_13_0]; decide) (by rw [c_13_0]; rfl) (by decide) ?_
      refine c_aload_nQ dX11_state_76 rfl rfl ?_
      refine c_getI (C := RX6) (T := TX6) (N := 19) (ci := 5) (k := 9) ⟨rfl, inT6, by decide, fX11_223⟩ (by decide) (by decide) (by decide) dX11_state_77 (hS.kN tv_2 c_7) ?_
      exact c_ireturn rfl rfl dX11_state_80 (hR _ hx)
    · have ok := ok.2 c_13_0
      have hx := xif_n c_13_0 hx
      by_cases c_13_1 : x2 = nI 1
      · have ok := ok.1 c_13_1
        have hx := xif_p c_13_1 hx
        refine c_tableIn (off := 68) (tgt := 81) dX11_state_13 (by rw [c_13_1]; decide) (by rw [c_13_1]; decide) (by rw [c_13_1]; rfl) (by decide) ?_
        refine c_aload_nQ dX11_state_81 rfl rfl ?_
        refine c_getI (C := RX6) (T := TX6) (N := 19) (ci := 5) (k := 10) ⟨rfl, inT6, by decide, fX11_226⟩ (by decide) (by decide) (by decide) dX11_state_82 (hS.kN tv_2 c_7) ?_
        exact c_ireturn rfl rfl dX11_state_85 (hR _ hx)
      · have ok := ok.2 c_13_1
        have hx := xif_n c_13_1 hx
        by_cases c_13_2 : x2 = nI 2
        · have ok := ok.1 c_13_2
          have hx := xif_p c_13_2 hx
          refine c_tableIn (off := 73) (tgt := 86) dX11_state_13 (by rw [c_13_2]; decide) (by rw [c_13_2]; decide) (by rw [c_13_2]; rfl) (by decide) ?_
          refine c_aload_nQ dX11_state_86 rfl rfl ?_
          refine c_getI (C := RX6) (T := TX6) (N := 19) (ci := 5) (k := 11) ⟨rfl, inT6, by decide, fX11_229⟩ (by decide) (by decide) (by decide) dX11_state_87 (hS.kN tv_2 c_7) ?_
          exact c_ireturn rfl rfl dX11_state_90 (hR _ hx)
        · have ok := ok.2 c_13_2
          have hx := xif_n c_13_2 hx
          by_cases c_13_3 : x2 = nI 3
          · have ok := ok.1 c_13_3
            have hx := xif_p c_13_3 hx
            refine c_tableIn (off := 78) (tgt := 91) dX11_state_13 (by rw [c_13_3]; decide) (by rw [c_13_3]; decide) (by rw [c_13_3]; rfl) (by decide) ?_
            refine c_aload_nQ dX11_state_91 rfl rfl ?_
            refine c_getI (C := RX6) (T := TX6) (N := 19) (ci := 5) (k := 12) ⟨rfl, inT6, by decide, fX11_232⟩ (by decide) (by decide) (by decide) dX11_state_92 (hS.kN tv_2 c_7) ?_
            exact c_ireturn rfl rfl dX11_state_95 (hR _ hx)
          · have ok := ok.2 c_13_3
            have hx := xif_n c_13_3 hx
            by_cases c_13_4 : x2 = nI 4
            · have ok := ok.1 c_13_4
              have hx := xif_p c_13_4 hx
              refine c_tableIn (off := 83) (tgt := 96) dX11_state_13 (by rw [c_13_4]; decide) (by rw [c_13_4]; decide) (by rw [c_13_4]; rfl) (by decide) ?_
              refine c_aload_nQ dX11_state_96 rfl rfl ?_
              refine c_getI (C := RX6) (T := TX6) (N := 19) (ci := 5) (k := 13) ⟨rfl, inT6, by decide, fX11_235⟩ (by decide) (by decide) (by decide) dX11_state_97 (hS.kN tv_2 c_7) ?_
              exact c_ireturn rfl rfl dX11_state_100 (hR _ hx)
            · have ok := ok.2 c_13_4
              have hx := xif_n c_13_4 hx
              by_cases c_13_5 : x2 = nI 5
              · have ok := ok.1 c_13_5
                have hx := xif_p c_13_5 hx
                refine c_tableIn (off := 88) (tgt := 101) dX11_state_13 (by rw [c_13_5]; decide) (by rw [c_13_5]; decide) (by rw [c_13_5]; rfl) (by decide) ?_
                refine c_aload_nQ dX11_state_101 rfl rfl ?_
                refine c_getI (C := RX6) (T := TX6) (N := 19) (ci := 5) (k := 8) ⟨rfl, inT6, by decide, fX11_157⟩ (by decide) (by decide) (by decide) dX11_state_102 (hS.kN tv_2 c_7) ?_
                refine c_if_eq (tgt := 112) dX11_state_105 (by decide) (fun c_105 => ?_) (fun c_105 => ?_)
                · have ok := ok.1 c_105
                  have hx := xif_p c_105 hx
                  refine c_iconst (v := nI 0) dX11_state_112 (by decide) ?_
                  exact cX.cutz (kb_X11_state_113 hG hR hS  ok hx) trivial
                · have ok := ok.2 c_105
                  have hx := xif_n c_105 hx
                  refine c_iconst (v := nI 1) dX11_state_108 (by decide) ?_
                  refine c_goto (tgt := 113) dX11_state_109 (by decide) ?_
                  exact cX.cutz (kb_X11_state_113 hG hR hS  ok hx) trivial
              · have ok := ok.2 c_13_5
                have hx := xif_n c_13_5 hx
                by_cases c_13_6 : x2 = nI 6
                · have ok := ok.1 c_13_6
                  have hx := xif_p c_13_6 hx
                  refine c_tableIn (off := 101) (tgt := 114) dX11_state_13 (by rw [c_13_6]; decide) (by rw [c_13_6]; decide) (by rw [c_13_6]; rfl) (by decide) ?_
                  refine c_aload_nQ dX11_state_114 rfl rfl ?_
                  refine c_getS (C := RX6) (T := TX6) (N := 19) (ci := 5) (k := 3) ⟨rfl, inT6, by decide, fX11_162⟩ (by decide) (by decide) (by decide) dX11_state_115 (hS.kN tv_2 c_7) (hS.r (c := 5) (tN.o tv_2 c_7) rfl (by omega)) ?_
                  refine c_getI (C := RX8) (T := TX8) (N := 14) (ci := 6) (k := 12) ⟨rfl, inT8, by decide, fX11_238⟩ (by decide) (by decide) (by decide) dX11_state_118 (hS.k (o53 (tN.o tv_2 c_7))) ?_
                  exact c_ireturn rfl rfl dX11_state_121 (hR _ hx)
                · have ok := ok.2 c_13_6
                  have hx := xif_n c_13_6 hx
                  by_cases c_13_7 : x2 = nI 7
                  · have ok := ok.1 c_13_7
                    have hx := xif_p c_13_7 hx
                    refine c_tableIn (off := 109) (tgt := 122) dX11_state_13 (by rw [c_13_7]; decide) (by rw [c_13_7]; decide) (by rw [c_13_7]; rfl) (by decide) ?_
                    refine c_aload_nQ dX11_state_122 rfl rfl ?_
                    refine c_V0iE (ci := 5) (rr := (RX6, TX6, 19)) (y' := mX6_timersSet) dX11_state_123 lX11_241 kX6_timersSet ⟨by decide, by decide⟩ rfl rfl (by decide) (hS.kN tv_2 c_7) (Nat.le_of_ble_eq_true rfl) (kc_X6_timersSet hG hS (tN.o tv_2 c_7) ok.1) ?_
                    have ok := ok.2
                    exact c_ireturn rfl rfl dX11_state_126 (hR _ hx)
                  · have ok := ok.2 c_13_7
                    have hx := xif_n c_13_7 hx
                    by_cases c_13_8 : x2 = nI 8
                    · have ok := ok.1 c_13_8
                      have hx := xif_p c_13_8 hx
                      refine c_tableIn (off := 114) (tgt := 127) dX11_state_13 (by rw [c_13_8]; decide) (by rw [c_13_8]; decide) (by rw [c_13_8]; rfl) (by decide) ?_
                      refine c_aload_nQ dX11_state_127 rfl rfl ?_
                      refine c_getI (C := RX6) (T := TX6) (N := 19) (ci := 5) (k := 17) ⟨rfl, inT6, by decide, fX11_244⟩ (by decide) (by decide) (by decide) dX11_state_128 (hS.kN tv_2 c_7) ?_
                      exact c_ireturn rfl rfl dX11_state_131 (hR _ hx)
                    · have ok := ok.2 c_13_8
                      have hx := xif_n c_13_8 hx
                      by_cases c_13_9 : x2 = nI 9
                      · have ok := ok.1 c_13_9
                        have hx := xif_p c_13_9 hx
                        refine c_tableIn (off := 119) (tgt := 132) dX11_state_13 (by rw [c_13_9]; decide) (by rw [c_13_9]; decide) (by rw [c_13_9]; rfl) (by decide) ?_
                        refine c_aload_nQ dX11_state_132 rfl rfl ?_
                        refine c_getS (C := RX6) (T := TX6) (N := 19) (ci := 5) (k := 2) ⟨rfl, inT6, by decide, fX11_205⟩ (by decide) (by decide) (by decide) dX11_state_133 (hS.kN tv_2 c_7) (hS.r (c := 5) (tN.o tv_2 c_7) rfl (by omega)) ?_
                        refine c_getI (C := RX4) (T := TX4) (N := 10) (ci := 3) (k := 7) ⟨rfl, inT4, by decide, fX11_247⟩ (by decide) (by decide) (by decide) dX11_state_136 (hS.k (o52 (tN.o tv_2 c_7))) ?_
                        exact c_ireturn rfl rfl dX11_state_139 (hR _ hx)
                      · have ok := ok.2 c_13_9
                        have hx := xif_n c_13_9 hx
                        by_cases c_13_10 : x2 = nI 10
                        · have ok := ok.1 c_13_10
                          have hx := xif_p c_13_10 hx
                          refine c_tableIn (off := 127) (tgt := 140) dX11_state_13 (by rw [c_13_10]; decide) (by rw [c_13_10]; decide) (by rw [c_13_10]; rfl) (by decide) ?_
                          refine c_aload_nQ dX11_state_140 rfl rfl ?_
                          refine c_getS (C := RX6) (T := TX6) (N := 19) (ci := 5) (k := 2) ⟨rfl, inT6, by decide, fX11_205⟩ (by decide) (by decide) (by decide) dX11_state_141 (hS.kN tv_2 c_7) (hS.r (c := 5) (tN.o tv_2 c_7) rfl (by omega)) ?_
                          refine c_getI (C := RX4) (T := TX4) (N := 10) (ci := 3) (k := 8) ⟨rfl, inT4, by decide, fX11_250⟩ (by decide) (by decide) (by decide) dX11_state_144 (hS.k (o52 (tN.o tv_2 c_7))) ?_
                          exact c_ireturn rfl rfl dX11_state_147 (hR _ hx)
                        · have ok := ok.2 c_13_10
                          have hx := xif_n c_13_10 hx
                          by_cases c_13_11 : x2 = nI 11
                          · have ok := ok.1 c_13_11
                            have hx := xif_p c_13_11 hx
                            refine c_tableIn (off := 135) (tgt := 148) dX11_state_13 (by rw [c_13_11]; decide) (by rw [c_13_11]; decide) (by rw [c_13_11]; rfl) (by decide) ?_
                            refine c_aload_nQ dX11_state_148 rfl rfl ?_
                            refine c_getS (C := RX6) (T := TX6) (N := 19) (ci := 5) (k := 3) ⟨rfl, inT6, by decide, fX11_162⟩ (by decide) (by decide) (by decide) dX11_state_149 (hS.kN tv_2 c_7) (hS.r (c := 5) (tN.o tv_2 c_7) rfl (by omega)) ?_
                            refine c_getI (C := RX8) (T := TX8) (N := 14) (ci := 6) (k := 13) ⟨rfl, inT8, by decide, fX11_253⟩ (by decide) (by decide) (by decide) dX11_state_152 (hS.k (o53 (tN.o tv_2 c_7))) ?_
                            exact c_ireturn rfl rfl dX11_state_155 (hR _ hx)
                          · have ok := ok.2 c_13_11
                            have hx := xif_n c_13_11 hx
                            refine c_tableOut (tgt := 156) dX11_state_13 (zsw 12 (by intro k hk; rcases (show k = 0 ∨ k = 1 ∨ k = 2 ∨ k = 3 ∨ k = 4 ∨ k = 5 ∨ k = 6 ∨ k = 7 ∨ k = 8 ∨ k = 9 ∨ k = 10 ∨ k = 11 by omega) with rfl | rfl | rfl | rfl | rfl | rfl | rfl | rfl | rfl | rfl | rfl | rfl <;> assumption) (by decide) (by decide)) (by decide) ?_
                            refine c_iconst (v := -1) dX11_state_156 (by decide) ?_
                            exact c_ireturn rfl rfl dX11_state_157 (hR _ hx)
  · have ok := ok.1 c_7
    have hx := xif_p c_7 hx
    refine c_iconst (v := -1) dX11_state_10 (by decide) ?_
    exact c_ireturn rfl rfl dX11_state_11 (hR _ hx)
def k_X11_state (N g H T : Nat) (S : cS) (a0 : Nat) (x1 : Int32) (x2 : Int32) : Int32 := KF_X11_state_0 N g H T a0 x1 x2 S
def p_X11_state (N g H T : Nat) (S : cS) (a0 : Nat) (x1 : Int32) (x2 : Int32) : Prop := KO_X11_state_0 N g H T a0 x1 x2 S
set_option maxRecDepth 100000 in
set_option maxHeartbeats 4000000 in
theorem kc_X11_state {G : zG} {o : cO} {g H T N : Nat} {S : cS} (hG : zOK G) {a0 : Nat} {x1 : Int32} {x2 : Int32} (hS : St 1 g H T S) (t_x0 : isO g H 9 a0) (ok : p_X11_state N g H T S a0 x1 x2) : cCi G o dX11_state mX11_state [.ref a0, .int x1, .int x2] S (fun v S' => (v = k_X11_state N g H T S a0 x1 x2 ∧ S' = S)) := by
  refine cC.ofX rfl (by exact Nat.le_of_ble_eq_true rfl) ?_
  show cX G o dX11_state mX11_state 0 [some (va_rf (some a0)), some (.int x1), some (.int x2), none] [] S _
  exact cX.cutz (kb_X11_state_0 (X := fun F => F = k_X11_state N g H T S a0 x1 x2) hG (fun v h => ⟨v, rfl, h, rfl⟩) hS t_x0 ok rfl) ⟨rfl, rfl, rfl, trivial⟩
/-! X11_block -/
def KF_X11_block_137 (N g H T : Nat) (s0 : Int64) (S : cS) : Int64 × cS := (s0, S)
def KO_X11_block_137 (N g H T : Nat) (s0 : Int64) (S : cS) : Prop := True
set_option maxRecDepth 100000 in
set_option maxHeartbeats 4000000 in
theorem kb_X11_block_137 {G : zG} {o : cO} {g H T N : Nat} {S : cS} {S0 : cS} {Q : Option Value → cS → Prop} {X : Int64 × cS → Prop} (hG : zOK G) (hR : ∀ v S', St 1 g H T S' → Mono S0 S' → X (v, S') → Q (some (.long v)) S') {s0 : Int64} (hS : St 1 g H T S) (hM : Mono S0 S) (ok : KO_X11_block_137 N g H T s0 S) (hx : X (KF_X11_block_137 N g H T s0 S)) : cX G o dX11_block mX11_block 137 [none, none, none, none, none, none] [.long s0] S Q := by
  unfold KO_X11_block_137 at ok
  unfold KF_X11_block_137 at hx
  exact c_lreturn rfl dX11_block_137 (hR _ _ hS hM hx)
def KF_X11_block_96 (N g H T : Nat) (x3 : Int32) (s0 : Option Nat) (S : cS) : Int64 × cS := (if s0 = none then ((-1 : Int64), S) else (if x3 ≤ (cI S 2 (za s0)) then (KF_X11_block_137 N g H T (k_X11_eight N g H T S (some ((za s0) + 2)) (cI S 2 (za s0)) (x3 + (nI 6))) S) else (KF_X11_block_137 N g H T (0 : Int64) S)))
def KO_X11_block_96 (N g H T : Nat) (x3 : Int32) (s0 : Option Nat) (S : cS) : Prop := ((s0 = none → True) ∧ (¬ s0 = none → ((x3 ≤ (cI S 2 (za s0)) → (p_X11_eight N g H T S (some ((za s0) + 2)) (cI S 2 (za s0)) (x3 + (nI 6))) ∧ KO_X11_block_137 N g H T (k_X11_eight N g H T S (some ((za s0) + 2)) (cI S 2 (za s0)) (x3 + (nI 6))) S) ∧ (¬ x3 ≤ (cI S 2 (za s0)) → KO_X11_block_137 N g H T (0 : Int64) S))))
set_option maxRecDepth 100000 in
set_option maxHeartbeats 4000000 in
theorem kb_X11_block_96 {G : zG} {o : cO} {g H T N : Nat} {S : cS} {S0 : cS} {Q : Option Value → cS → Prop} {X : Int64 × cS → Prop} (hG : zOK G) (hR : ∀ v S', St 1 g H T S' → Mono S0 S' → X (v, S') → Q (some (.long v)) S') {x3 : Int32} {s0 : Option Nat} (hS : St 1 g H T S) (hM : Mono S0 S) (t_s0 : tK S 5 s0) (ok : KO_X11_block_96 N g H T x3 s0 S) (hx : X (KF_X11_block_96 N g H T x3 s0 S)) : cX G o dX11_block mX11_block 96 [none, none, none, some (.int x3), none, none] [va_rf s0] S Q := by
  unfold KO_X11_block_96 at ok
  unfold KF_X11_block_96 at hx
  refine c_astore_5Q dX11_block_96 (by decide) rfl ?_
  refine c_aloadQ dX11_block_98 rfl ?_
  refine c_ifnonnullI (tgt := 107) dX11_block_100 (by decide) (fun c_100 => ?_) (fun c_100 => ?_)
  · have ok := ok.2 c_100
    have hx := xif_n c_100 hx
    refine c_iload_n dX11_block_107 rfl rfl ?_
    refine c_aloadQ dX11_block_108 rfl ?_
    refine c_getI (C := RX5) (T := TX5) (N := 7) (ci := 4) (k := 2) ⟨rfl, inT5, by decide, fX11_150⟩ (by decide) (by decide) (by decide) dX11_block_110 (tK.cis t_s0 c_100) ?_
    refine c_icmp_le (tgt := 120) dX11_block_113 (by decide) (fun c_113 => ?_) (fun c_113 => ?_)
    · have ok := ok.1 c_113
      have hx := xif_p c_113 hx
      refine c_aloadQ dX11_block_120 rfl ?_
      have p_122 := hS.m0k t_s0 c_100
      refine c_getS (C := RX5) (T := TX5) (N := 7) (ci := 4) (k := 0) ⟨rfl, inT5, by decide, fX11_48⟩ (by decide) (by decide) (by decide) dX11_block_122 (tK.cis t_s0 c_100) (hS.m0 t_s0 c_100) ?_
      refine c_aloadQ dX11_block_125 rfl ?_
      refine c_getI (C := RX5) (T := TX5) (N := 7) (ci := 4) (k := 2) ⟨rfl, inT5, by decide, fX11_150⟩ (by decide) (by decide) (by decide) dX11_block_127 (tK.cis t_s0 c_100) ?_
      refine c_iload_n dX11_block_130 rfl rfl ?_
      refine c_bipush (v := nI 6) dX11_block_131 (by decide) ?_
      refine c_iadd dX11_block_133 ?_
      refine c_S3lE (y' := mX11_eight) dX11_block_134 lX11_153 kX11_eight ⟨by decide, by decide⟩ (Nat.le_of_ble_eq_true rfl) (kc_X11_eight hG hS p_122 ok.1) ?_
      have ok := ok.2
      exact cX.cutz (kb_X11_block_137 hG hR hS hM  ok hx) trivial
    · have ok := ok.2 c_113
      have hx := xif_n c_113 hx
      refine c_lconst (v := 0) dX11_block_116 rfl ?_
      refine c_goto (tgt := 137) dX11_block_117 (by decide) ?_
      exact cX.cutz (kb_X11_block_137 hG hR hS hM  ok hx) trivial
  · have ok := ok.1 c_100
    have hx := xif_p c_100 hx
    refine c_ldc2 dX11_block_103 nX11_200 ?_
    exact c_lreturn rfl dX11_block_106 (hR _ _ hS hM hx)
def KF_X11_block_78 (N g H T : Nat) (s0 : Int64) (S : cS) : Int64 × cS := (s0, S)
def KO_X11_block_78 (N g H T : Nat) (s0 : Int64) (S : cS) : Prop := True
set_option maxRecDepth 100000 in
set_option maxHeartbeats 4000000 in
theorem kb_X11_block_78 {G : zG} {o : cO} {g H T N : Nat} {S : cS} {S0 : cS} {Q : Option Value → cS → Prop} {X : Int64 × cS → Prop} (hG : zOK G) (hR : ∀ v S', St 1 g H T S' → Mono S0 S' → X (v, S') → Q (some (.long v)) S') {s0 : Int64} (hS : St 1 g H T S) (hM : Mono S0 S) (ok : KO_X11_block_78 N g H T s0 S) (hx : X (KF_X11_block_78 N g H T s0 S)) : cX G o dX11_block mX11_block 78 [none, none, none, none, none, none] [.long s0] S Q := by
  unfold KO_X11_block_78 at ok
  unfold KF_X11_block_78 at hx
  exact c_lreturn rfl dX11_block_78 (hR _ _ hS hM hx)
def KF_X11_block_52 (N g H T : Nat) (x0 : Nat) (x3 : Int32) (s0 : Int32) (S : cS) : Int64 × cS := (if 0 ≤ s0 then (KF_X11_block_78 N g H T (k_X11_eight N g H T S (some (g + 28)) s0 x3) S) else (KF_X11_block_78 N g H T (-1 : Int64) S))
def KO_X11_block_52 (N g H T : Nat) (x0 : Nat) (x3 : Int32) (s0 : Int32) (S : cS) : Prop := ((0 ≤ s0 → (p_X11_eight N g H T S (some (g + 28)) s0 x3) ∧ KO_X11_block_78 N g H T (k_X11_eight N g H T S (some (g + 28)) s0 x3) S) ∧ (¬ 0 ≤ s0 → KO_X11_block_78 N g H T (-1 : Int64) S))
set_option maxRecDepth 100000 in
set_option maxHeartbeats 4000000 in
theorem kb_X11_block_52 {G : zG} {o : cO} {g H T N : Nat} {S : cS} {S0 : cS} {Q : Option Value → cS → Prop} {X : Int64 × cS → Prop} (hG : zOK G) (hR : ∀ v S', St 1 g H T S' → Mono S0 S' → X (v, S') → Q (some (.long v)) S') {x0 : Nat} {x3 : Int32} {s0 : Int32} (hS : St 1 g H T S) (hM : Mono S0 S) (t_x0 : isO g H 9 x0) (ok : KO_X11_block_52 N g H T x0 x3 s0 S) (hx : X (KF_X11_block_52 N g H T x0 x3 s0 S)) : cX G o dX11_block mX11_block 52 [some (va_rf (some x0)), none, none, some (.int x3), none, none] [.int s0] S Q := by
  unfold KO_X11_block_52 at ok
  unfold KF_X11_block_52 at hx
  refine c_istore_5 dX11_block_52 (by decide) rfl ?_
  refine c_iload dX11_block_54 rfl ?_
  refine c_if_ge (tgt := 65) dX11_block_56 (by decide) (fun c_56 => ?_) (fun c_56 => ?_)
  · have ok := ok.1 c_56
    have hx := xif_p c_56 hx
    refine c_aload_nQ dX11_block_65 rfl rfl ?_
    refine c_getS (C := RX11) (T := TX11) (N := 4) (ci := 9) (k := 0) ⟨rfl, inT11, by decide, fX11_22⟩ (by decide) (by decide) (by decide) dX11_block_66 (hS.k t_x0) (hS.r (c := 9) t_x0 rfl (by omega)) ?_
    refine c_getS (C := RX10) (T := TX10) (N := 12) (ci := 8) (k := 10) ⟨rfl, inT10, by decide, fX11_256⟩ (by decide) (by decide) (by decide) dX11_block_69 (hS.k (o90 t_x0)) (hS.r (c := 8) (o90 t_x0) rfl (by omega)) ?_
    refine c_iload dX11_block_72 rfl ?_
    refine c_iload_n dX11_block_74 rfl rfl ?_
    refine c_S3lE (y' := mX11_eight) dX11_block_75 lX11_153 kX11_eight ⟨by decide, by decide⟩ (Nat.le_of_ble_eq_true rfl) (kc_X11_eight hG hS (hS.rk (c := 8) (k := 10) (o90 t_x0) rfl (by omega)) ok.1) ?_
    have ok := ok.2
    exact cX.cutz (kb_X11_block_78 hG hR hS hM  ok hx) trivial
  · have ok := ok.2 c_56
    have hx := xif_n c_56 hx
    refine c_ldc2 dX11_block_59 nX11_200 ?_
    refine c_goto (tgt := 78) dX11_block_62 (by decide) ?_
    exact cX.cutz (kb_X11_block_78 hG hR hS hM  ok hx) trivial
def KF_X11_block_27 (N g H T : Nat)  (S : cS) : Int64 × cS := ((-1 : Int64), S)
def KO_X11_block_27 (N g H T : Nat)  (S : cS) : Prop := True
set_option maxRecDepth 100000 in
set_option maxHeartbeats 4000000 in
theorem kb_X11_block_27 {G : zG} {o : cO} {g H T N : Nat} {S : cS} {S0 : cS} {Q : Option Value → cS → Prop} {X : Int64 × cS → Prop} (hG : zOK G) (hR : ∀ v S', St 1 g H T S' → Mono S0 S' → X (v, S') → Q (some (.long v)) S') (hS : St 1 g H T S) (hM : Mono S0 S) (ok : KO_X11_block_27 N g H T S) (hx : X (KF_X11_block_27 N g H T S)) : cX G o dX11_block mX11_block 27 [none, none, none, none, none, none] [] S Q := by
  unfold KO_X11_block_27 at ok
  unfold KF_X11_block_27 at hx
  refine c_ldc2 dX11_block_27 nX11_200 ?_
  exact c_lreturn rfl dX11_block_30 (hR _ _ hS hM hx)
def KF_X11_block_0 (N g H T : Nat) (x0 : Nat) (x1 : Int32) (x2 : Int32) (x3 : Int32) (S : cS) : Int64 × cS := (if (k_X11_honestNode N g H T S x0 x1) = none then (KF_X11_block_27 N g H T S) else (if x3 < 0 then (KF_X11_block_27 N g H T S) else (if x2 < (-1) then (KF_X11_block_27 N g H T S) else (if x2 ≤ (nI 40) then (if x2 ≤ 0 then (if x2 = 0 then (KF_X11_block_96 N g H T x3 (cR S 14 (za (k_X11_honestNode N g H T S x0 x1))) S) else (KF_X11_block_96 N g H T x3 (cR S 15 (za (k_X11_honestNode N g H T S x0 x1))) S)) else (KF_X11_block_52 N g H T x0 x3 ((k_X4_fetch N g H T S ((za (k_X11_honestNode N g H T S x0 x1)) + 1) x2 (some (g + 28)) (nI 0)).1) (k_X4_fetch N g H T S ((za (k_X11_honestNode N g H T S x0 x1)) + 1) x2 (some (g + 28)) (nI 0)).2)) else (KF_X11_block_27 N g H T S)))))
def KO_X11_block_0 (N g H T : Nat) (x0 : Nat) (x1 : Int32) (x2 : Int32) (x3 : Int32) (S : cS) : Prop := (p_X11_honestNode N g H T S x0 x1) ∧ (((k_X11_honestNode N g H T S x0 x1) = none → KO_X11_block_27 N g H T S) ∧ (¬ (k_X11_honestNode N g H T S x0 x1) = none → ((x3 < 0 → KO_X11_block_27 N g H T S) ∧ (¬ x3 < 0 → ((x2 < (-1) → KO_X11_block_27 N g H T S) ∧ (¬ x2 < (-1) → ((x2 ≤ (nI 40) → ((x2 ≤ 0 → ((x2 = 0 → KO_X11_block_96 N g H T x3 (cR S 14 (za (k_X11_honestNode N g H T S x0 x1))) S) ∧ (¬ x2 = 0 → KO_X11_block_96 N g H T x3 (cR S 15 (za (k_X11_honestNode N g H T S x0 x1))) S))) ∧ (¬ x2 ≤ 0 → (p_X4_fetch N g H T S ((za (k_X11_honestNode N g H T S x0 x1)) + 1) x2 (some (g + 28)) (nI 0)) ∧ KO_X11_block_52 N g H T x0 x3 ((k_X4_fetch N g H T S ((za (k_X11_honestNode N g H T S x0 x1)) + 1) x2 (some (g + 28)) (nI 0)).1) (k_X4_fetch N g H T S ((za (k_X11_honestNode N g H T S x0 x1)) + 1) x2 (some (g + 28)) (nI 0)).2))) ∧ (¬ x2 ≤ (nI 40) → KO_X11_block_27 N g H T S))))))))
set_option maxRecDepth 100000 in
set_option maxHeartbeats 4000000 in
theorem kb_X11_block_0 {G : zG} {o : cO} {g H T N : Nat} {S : cS} {S0 : cS} {Q : Option Value → cS → Prop} {X : Int64 × cS → Prop} (hG : zOK G) (hR : ∀ v S', St 1 g H T S' → Mono S0 S' → X (v, S') → Q (some (.long v)) S') {x0 : Nat} {x1 : Int32} {x2 : Int32} {x3 : Int32} (hS : St 1 g H T S) (hM : Mono S0 S) (t_x0 : isO g H 9 x0) (ok : KO_X11_block_0 N g H T x0 x1 x2 x3 S) (hx : X (KF_X11_block_0 N g H T x0 x1 x2 x3 S)) : cX G o dX11_block mX11_block 0 [some (va_rf (some x0)), some (.int x1), some (.int x2), some (.int x3), none, none] [] S Q := by
  unfold KO_X11_block_0 at ok
  unfold KF_X11_block_0 at hx
  refine c_aload_nQ dX11_block_0 rfl rfl ?_
  refine c_iload_n dX11_block_1 rfl rfl ?_
  refine c_V1qK (ci := 9) (rr := (RX11, TX11, 4)) (y' := mX11_honestNode) dX11_block_2 lX11_120 kX11_honestNode ⟨by decide, by decide⟩ rfl rfl (by decide) (hS.k t_x0) (Nat.le_of_ble_eq_true rfl) (kc_X11_honestNode hG hS t_x0 ok.1) (fun tv_2 => ?_)
  have ok := ok.2
  refine c_astore_4Q dX11_block_5 (by decide) rfl ?_
  refine c_aloadQ dX11_block_7 rfl ?_
  refine c_ifnullI (tgt := 27) dX11_block_9 (by decide) (fun c_9 => ?_) (fun c_9 => ?_)
  · have ok := ok.1 c_9
    have hx := xif_p c_9 hx
    exact cX.cutz (kb_X11_block_27 hG hR hS hM  ok hx) trivial
  · have ok := ok.2 c_9
    have hx := xif_n c_9 hx
    refine c_iload_n dX11_block_12 rfl rfl ?_
    refine c_if_lt (tgt := 27) dX11_block_13 (by decide) (fun c_13 => ?_) (fun c_13 => ?_)
    · have ok := ok.1 c_13
      have hx := xif_p c_13 hx
      exact cX.cutz (kb_X11_block_27 hG hR hS hM  ok hx) trivial
    · have ok := ok.2 c_13
      have hx := xif_n c_13 hx
      refine c_iload_n dX11_block_16 rfl rfl ?_
      refine c_iconst (v := -1) dX11_block_17 (by decide) ?_
      refine c_icmp_lt (tgt := 27) dX11_block_18 (by decide) (fun c_18 => ?_) (fun c_18 => ?_)
      · have ok := ok.1 c_18
        have hx := xif_p c_18 hx
        exact cX.cutz (kb_X11_block_27 hG hR hS hM  ok hx) trivial
      · have ok := ok.2 c_18
        have hx := xif_n c_18 hx
        refine c_iload_n dX11_block_21 rfl rfl ?_
        refine c_bipush (v := nI 40) dX11_block_22 (by decide) ?_
        refine c_icmp_le (tgt := 31) dX11_block_24 (by decide) (fun c_24 => ?_) (fun c_24 => ?_)
        · have ok := ok.1 c_24
          have hx := xif_p c_24 hx
          refine c_iload_n dX11_block_31 rfl rfl ?_
          refine c_if_le (tgt := 79) dX11_block_32 (by decide) (fun c_32 => ?_) (fun c_32 => ?_)
          · have ok := ok.1 c_32
            have hx := xif_p c_32 hx
            refine c_iload_n dX11_block_79 rfl rfl ?_
            refine c_if_ne (tgt := 91) dX11_block_80 (by decide) (fun c_80 => ?_) (fun c_80 => ?_)
            · have ok := ok.2 c_80
              have hx := xif_n c_80 hx
              refine c_aloadQ dX11_block_91 rfl ?_
              have p_93 := hS.lk (tN.o tv_2 c_9) (Or.inr rfl)
              refine c_getR (C := RX6) (T := TX6) (N := 19) (ci := 5) (k := 15) ⟨rfl, inT6, by decide, fX11_266⟩ (by decide) (by decide) (by decide) dX11_block_93 (hS.kN tv_2 c_9) ?_
              exact cX.cutz (kb_X11_block_96 hG hR hS hM p_93 ok hx) ⟨rfl, trivial⟩
            · have ok := ok.1 c_80
              have hx := xif_p c_80 hx
              refine c_aloadQ dX11_block_83 rfl ?_
              have p_85 := hS.lk (tN.o tv_2 c_9) (Or.inl rfl)
              refine c_getR (C := RX6) (T := TX6) (N := 19) (ci := 5) (k := 14) ⟨rfl, inT6, by decide, fX11_262⟩ (by decide) (by decide) (by decide) dX11_block_85 (hS.kN tv_2 c_9) ?_
              refine c_goto (tgt := 96) dX11_block_88 (by decide) ?_
              exact cX.cutz (kb_X11_block_96 hG hR hS hM p_85 ok hx) ⟨rfl, trivial⟩
          · have ok := ok.2 c_32
            have hx := xif_n c_32 hx
            refine c_aloadQ dX11_block_35 rfl ?_
            refine c_getS (C := RX6) (T := TX6) (N := 19) (ci := 5) (k := 2) ⟨rfl, inT6, by decide, fX11_205⟩ (by decide) (by decide) (by decide) dX11_block_37 (hS.kN tv_2 c_9) (hS.r (c := 5) (tN.o tv_2 c_9) rfl (by omega)) ?_
            refine c_iload_n dX11_block_40 rfl rfl ?_
            refine c_aload_nQ dX11_block_41 rfl rfl ?_
            refine c_getS (C := RX11) (T := TX11) (N := 4) (ci := 9) (k := 0) ⟨rfl, inT11, by decide, fX11_22⟩ (by decide) (by decide) (by decide) dX11_block_42 (hS.k t_x0) (hS.r (c := 9) t_x0 rfl (by omega)) ?_
            refine c_getS (C := RX10) (T := TX10) (N := 12) (ci := 8) (k := 10) ⟨rfl, inT10, by decide, fX11_256⟩ (by decide) (by decide) (by decide) dX11_block_45 (hS.k (o90 t_x0)) (hS.r (c := 8) (o90 t_x0) rfl (by omega)) ?_
            refine c_iconst (v := nI 0) dX11_block_48 (by decide) ?_
            refine c_V3iK (ci := 3) (rr := (RX4, TX4, 10)) (y' := mX4_fetch) dX11_block_49 lX11_259 kX4_fetch ⟨by decide, by decide⟩ rfl rfl (by decide) (hS.k (o52 (tN.o tv_2 c_9))) (Nat.le_of_ble_eq_true rfl) (kc_X4_fetch hG hS (o52 (tN.o tv_2 c_9)) (hS.rk (c := 8) (k := 10) (o90 t_x0) rfl (by omega)) ok.1) (fun ⟨hS, hm_49⟩ => ?_)
            have hM := hM.trans hm_49
            have ok := ok.2
            exact cX.cutz (kb_X11_block_52 hG hR hS hM t_x0 ok hx) ⟨rfl, rfl, trivial⟩
        · have ok := ok.2 c_24
          have hx := xif_n c_24 hx
          exact cX.cutz (kb_X11_block_27 hG hR hS hM  ok hx) trivial
def k_X11_block (N g H T : Nat) (S : cS) (a0 : Nat) (x1 : Int32) (x2 : Int32) (x3 : Int32) : Int64 × cS := KF_X11_block_0 N g H T a0 x1 x2 x3 S
def p_X11_block (N g H T : Nat) (S : cS) (a0 : Nat) (x1 : Int32) (x2 : Int32) (x3 : Int32) : Prop := KO_X11_block_0 N g H T a0 x1 x2 x3 S
set_option maxRecDepth 100000 in
set_option maxHeartbeats 4000000 in
theorem kc_X11_block {G : zG} {o : cO} {g H T N : Nat} {S : cS} (hG : zOK G) {a0 : Nat} {x1 : Int32} {x2 : Int32} {x3 : Int32} (hS : St 1 g H T S) (t_x0 : isO g H 9 a0) (ok : p_X11_block N g H T S a0 x1 x2 x3) : cCl G o dX11_block mX11_block [.ref a0, .int x1, .int x2, .int x3] S (fun v S' => (v = (k_X11_block N g H T S a0 x1 x2 x3).1 ∧ S' = (k_X11_block N g H T S a0 x1 x2 x3).2) ∧ St 1 g H T S' ∧ Mono S S') := by
  refine cC.ofX rfl (by exact Nat.le_of_ble_eq_true rfl) ?_
  show cX G o dX11_block mX11_block 0 [some (va_rf (some a0)), some (.int x1), some (.int x2), some (.int x3), none, none] [] S _
  exact cX.cutz (kb_X11_block_0 (X := fun F => F = k_X11_block N g H T S a0 x1 x2 x3) hG (fun v S' h1 h2 h => ⟨v, rfl, ⟨by rw [← h], by rw [← h]⟩, h1, h2⟩) hS Mono.rfl' t_x0 ok rfl) ⟨rfl, rfl, rfl, rfl, trivial⟩
/-! X11_paid -/
def KF_X11_paid_59 (N g H T : Nat) (s0 : Int32) (s1 : Int32) (S : cS) : Int32 := (s0 + s1)
def KO_X11_paid_59 (N g H T : Nat) (s0 : Int32) (s1 : Int32) (S : cS) : Prop := True
set_option maxRecDepth 100000 in
set_option maxHeartbeats 4000000 in
theorem kb_X11_paid_59 {G : zG} {o : cO} {g H T N : Nat} {S : cS} {Q : Option Value → cS → Prop} {X : Int32 → Prop} (hG : zOK G) (hR : ∀ v, X v → Q (some (.int v)) S) {s0 : Int32} {s1 : Int32} (hS : St 1 g H T S) (ok : KO_X11_paid_59 N g H T s0 s1 S) (hx : X (KF_X11_paid_59 N g H T s0 s1 S)) : cX G o dX11_paid mX11_paid 59 [none, none, none, none] [.int s1, .int s0] S Q := by
  unfold KO_X11_paid_59 at ok
  unfold KF_X11_paid_59 at hx
  refine c_iadd dX11_paid_59 ?_
  exact c_ireturn rfl rfl dX11_paid_60 (hR _ hx)
def KF_X11_paid_43 (N g H T : Nat) (x2 : Int32) (x3 : Option Nat) (s0 : Int32) (S : cS) : Int32 := (if (k_X8_proofOf N g H T S ((za x3) + 14) x2) = none then (KF_X11_paid_59 N g H T s0 (nI 0) S) else (KF_X11_paid_59 N g H T s0 (nI 2) S))
def KO_X11_paid_43 (N g H T : Nat) (x2 : Int32) (x3 : Option Nat) (s0 : Int32) (S : cS) : Prop := (¬ x3 = none) ∧ (p_X8_proofOf N g H T S ((za x3) + 14) x2) ∧ (((k_X8_proofOf N g H T S ((za x3) + 14) x2) = none → KO_X11_paid_59 N g H T s0 (nI 0) S) ∧ (¬ (k_X8_proofOf N g H T S ((za x3) + 14) x2) = none → KO_X11_paid_59 N g H T s0 (nI 2) S))
set_option maxRecDepth 100000 in
set_option maxHeartbeats 4000000 in
theorem kb_X11_paid_43 {G : zG} {o : cO} {g H T N : Nat} {S : cS} {Q : Option Value → cS → Prop} {X : Int32 → Prop} (hG : zOK G) (hR : ∀ v, X v → Q (some (.int v)) S) {x2 : Int32} {x3 : Option Nat} {s0 : Int32} (hS : St 1 g H T S) (t_x3 : tN g H x3) (ok : KO_X11_paid_43 N g H T x2 x3 s0 S) (hx : X (KF_X11_paid_43 N g H T x2 x3 s0 S)) : cX G o dX11_paid mX11_paid 43 [none, none, some (.int x2), some (va_rf x3)] [.int s0] S Q := by
  unfold KO_X11_paid_43 at ok
  unfold KF_X11_paid_43 at hx
  refine c_aload_nQ dX11_paid_43 rfl rfl ?_
  have nn_44 := ok.1
  refine c_getS (C := RX6) (T := TX6) (N := 19) (ci := 5) (k := 3) ⟨rfl, inT6, by decide, fX11_162⟩ (by decide) (by decide) (by decide) dX11_paid_44 (hS.kN t_x3 ok.1) (hS.r (c := 5) (tN.o t_x3 ok.1) rfl (by omega)) ?_
  have ok := ok.2
  refine c_iload_n dX11_paid_47 rfl rfl ?_
  refine c_V1qK (ci := 6) (rr := (RX8, TX8, 14)) (y' := mX8_proofOf) dX11_paid_48 lX11_272 kX8_proofOf ⟨by decide, by decide⟩ rfl rfl (by decide) (hS.k (o53 (tN.o t_x3 nn_44))) (Nat.le_of_ble_eq_true rfl) (kc_X8_proofOf hG hS (o53 (tN.o t_x3 nn_44)) ok.1) (fun tv_48 => ?_)
  have ok := ok.2
  refine c_ifnullI (tgt := 58) dX11_paid_51 (by decide) (fun c_51 => ?_) (fun c_51 => ?_)
  · have ok := ok.1 c_51
    have hx := xif_p c_51 hx
    refine c_iconst (v := nI 0) dX11_paid_58 (by decide) ?_
    exact cX.cutz (kb_X11_paid_59 hG hR hS  ok hx) trivial
  · have ok := ok.2 c_51
    have hx := xif_n c_51 hx
    refine c_iconst (v := nI 2) dX11_paid_54 (by decide) ?_
    refine c_goto (tgt := 59) dX11_paid_55 (by decide) ?_
    exact cX.cutz (kb_X11_paid_59 hG hR hS  ok hx) trivial
def KF_X11_paid_25 (N g H T : Nat)  (S : cS) : Int32 := (-1)
def KO_X11_paid_25 (N g H T : Nat)  (S : cS) : Prop := True
set_option maxRecDepth 100000 in
set_option maxHeartbeats 4000000 in
theorem kb_X11_paid_25 {G : zG} {o : cO} {g H T N : Nat} {S : cS} {Q : Option Value → cS → Prop} {X : Int32 → Prop} (hG : zOK G) (hR : ∀ v, X v → Q (some (.int v)) S) (hS : St 1 g H T S) (ok : KO_X11_paid_25 N g H T S) (hx : X (KF_X11_paid_25 N g H T S)) : cX G o dX11_paid mX11_paid 25 [none, none, none, none] [] S Q := by
  unfold KO_X11_paid_25 at ok
  unfold KF_X11_paid_25 at hx
  refine c_iconst (v := -1) dX11_paid_25 (by decide) ?_
  exact c_ireturn rfl rfl dX11_paid_26 (hR _ hx)
def KF_X11_paid_0 (N g H T : Nat) (x0 : Nat) (x1 : Int32) (x2 : Int32) (S : cS) : Int32 := (if (k_X11_honestNode N g H T S x0 x1) = none then (KF_X11_paid_25 N g H T S) else (if x2 < 0 then (KF_X11_paid_25 N g H T S) else (if x2 < (cI S 1 (g + 8)) then (if (k_X0_hasPaid N g H T S ((za (k_X11_honestNode N g H T S x0 x1)) + 6) x2) = 0 then (KF_X11_paid_43 N g H T x2 (k_X11_honestNode N g H T S x0 x1) (nI 0) S) else (KF_X11_paid_43 N g H T x2 (k_X11_honestNode N g H T S x0 x1) (nI 1) S)) else (KF_X11_paid_25 N g H T S))))
def KO_X11_paid_0 (N g H T : Nat) (x0 : Nat) (x1 : Int32) (x2 : Int32) (S : cS) : Prop := (p_X11_honestNode N g H T S x0 x1) ∧ (((k_X11_honestNode N g H T S x0 x1) = none → KO_X11_paid_25 N g H T S) ∧ (¬ (k_X11_honestNode N g H T S x0 x1) = none → ((x2 < 0 → KO_X11_paid_25 N g H T S) ∧ (¬ x2 < 0 → ((x2 < (cI S 1 (g + 8)) → (p_X0_hasPaid N g H T S ((za (k_X11_honestNode N g H T S x0 x1)) + 6) x2) ∧ (((k_X0_hasPaid N g H T S ((za (k_X11_honestNode N g H T S x0 x1)) + 6) x2) = 0 → KO_X11_paid_43 N g H T x2 (k_X11_honestNode N g H T S x0 x1) (nI 0) S) ∧ (¬ (k_X0_hasPaid N g H T S ((za (k_X11_honestNode N g H T S x0 x1)) + 6) x2) = 0 → KO_X11_paid_43 N g H T x2 (k_X11_honestNode N g H T S x0 x1) (nI 1) S))) ∧ (¬ x2 < (cI S 1 (g + 8)) → KO_X11_paid_25 N g H T S))))))
set_option maxRecDepth 100000 in
set_option maxHeartbeats 4000000 in
theorem kb_X11_paid_0 {G : zG} {o : cO} {g H T N : Nat} {S : cS} {Q : Option Value → cS → Prop} {X : Int32 → Prop} (hG : zOK G) (hR : ∀ v, X v → Q (some (.int v)) S) {x0 : Nat} {x1 : Int32} {x2 : Int32} (hS : St 1 g H T S) (t_x0 : isO g H 9 x0) (ok : KO_X11_paid_0 N g H T x0 x1 x2 S) (hx : X (KF_X11_paid_0 N g H T x0 x1 x2 S)) : cX G o dX11_paid mX11_paid 0 [some (va_rf (some x0)), some (.int x1), some (.int x2), none] [] S Q := by
  unfold KO_X11_paid_0 at ok
  unfold KF_X11_paid_0 at hx
  refine c_aload_nQ dX11_paid_0 rfl rfl ?_
  refine c_iload_n dX11_paid_1 rfl rfl ?_
  refine c_V1qK (ci := 9) (rr := (RX11, TX11, 4)) (y' := mX11_honestNode) dX11_paid_2 lX11_120 kX11_honestNode ⟨by decide, by decide⟩ rfl rfl (by decide) (hS.k t_x0) (Nat.le_of_ble_eq_true rfl) (kc_X11_honestNode hG hS t_x0 ok.1) (fun tv_2 => ?_)
  have ok := ok.2
  refine c_astore_3Q dX11_paid_5 (by decide) rfl ?_
  refine c_aload_nQ dX11_paid_6 rfl rfl ?_
  refine c_ifnullI (tgt := 25) dX11_paid_7 (by decide) (fun c_7 => ?_) (fun c_7 => ?_)
  · have ok := ok.1 c_7
    have hx := xif_p c_7 hx
    exact cX.cutz (kb_X11_paid_25 hG hR hS  ok hx) trivial
  · have ok := ok.2 c_7
    have hx := xif_n c_7 hx
    refine c_iload_n dX11_paid_10 rfl rfl ?_
    refine c_if_lt (tgt := 25) dX11_paid_11 (by decide) (fun c_11 => ?_) (fun c_11 => ?_)
    · have ok := ok.1 c_11
      have hx := xif_p c_11 hx
      exact cX.cutz (kb_X11_paid_25 hG hR hS  ok hx) trivial
    · have ok := ok.2 c_11
      have hx := xif_n c_11 hx
      refine c_iload_n dX11_paid_14 rfl rfl ?_
      refine c_aload_nQ dX11_paid_15 rfl rfl ?_
      refine c_getS (C := RX11) (T := TX11) (N := 4) (ci := 9) (k := 0) ⟨rfl, inT11, by decide, fX11_22⟩ (by decide) (by decide) (by decide) dX11_paid_16 (hS.k t_x0) (hS.r (c := 9) t_x0 rfl (by omega)) ?_
      refine c_getI (C := RX10) (T := TX10) (N := 12) (ci := 8) (k := 1) ⟨rfl, inT10, by decide, fX11_87⟩ (by decide) (by decide) (by decide) dX11_paid_19 (hS.k (o90 t_x0)) ?_
      refine c_icmp_lt (tgt := 27) dX11_paid_22 (by decide) (fun c_22 => ?_) (fun c_22 => ?_)
      · have ok := ok.1 c_22
        have hx := xif_p c_22 hx
        refine c_aload_nQ dX11_paid_27 rfl rfl ?_
        refine c_getS (C := RX6) (T := TX6) (N := 19) (ci := 5) (k := 4) ⟨rfl, inT6, by decide, fX11_129⟩ (by decide) (by decide) (by decide) dX11_paid_28 (hS.kN tv_2 c_7) (hS.r (c := 5) (tN.o tv_2 c_7) rfl (by omega)) ?_
        refine c_iload_n dX11_paid_31 rfl rfl ?_
        refine c_V1iE (ci := 0) (rr := (RX0, TX0, 6)) (y' := mX0_hasPaid) dX11_paid_32 lX11_269 kX0_hasPaid ⟨by decide, by decide⟩ rfl rfl (by decide) (hS.k (o54 (tN.o tv_2 c_7))) (Nat.le_of_ble_eq_true rfl) (kc_X0_hasPaid hG hS (o54 (tN.o tv_2 c_7)) ok.1) ?_
        have ok := ok.2
        refine c_if_eq (tgt := 42) dX11_paid_35 (by decide) (fun c_35 => ?_) (fun c_35 => ?_)
        · have ok := ok.1 c_35
          have hx := xif_p c_35 hx
          refine c_iconst (v := nI 0) dX11_paid_42 (by decide) ?_
          exact cX.cutz (kb_X11_paid_43 hG hR hS tv_2 ok hx) ⟨rfl, rfl, trivial⟩
        · have ok := ok.2 c_35
          have hx := xif_n c_35 hx
          refine c_iconst (v := nI 1) dX11_paid_38 (by decide) ?_
          refine c_goto (tgt := 43) dX11_paid_39 (by decide) ?_
          exact cX.cutz (kb_X11_paid_43 hG hR hS tv_2 ok hx) ⟨rfl, rfl, trivial⟩
      · have ok := ok.2 c_22
        have hx := xif_n c_22 hx
        exact cX.cutz (kb_X11_paid_25 hG hR hS  ok hx) trivial
def k_X11_paid (N g H T : Nat) (S : cS) (a0 : Nat) (x1 : Int32) (x2 : Int32) : Int32 := KF_X11_paid_0 N g H T a0 x1 x2 S
def p_X11_paid (N g H T : Nat) (S : cS) (a0 : Nat) (x1 : Int32) (x2 : Int32) : Prop := KO_X11_paid_0 N g H T a0 x1 x2 S
set_option maxRecDepth 100000 in
set_option maxHeartbeats 4000000 in
theorem kc_X11_paid {G : zG} {o : cO} {g H T N : Nat} {S : cS} (hG : zOK G) {a0 : Nat} {x1 : Int32} {x2 : Int32} (hS : St 1 g H T S) (t_x0 : isO g H 9 a0) (ok : p_X11_paid N g H T S a0 x1 x2) : cCi G o dX11_paid mX11_paid [.ref a0, .int x1, .int x2] S (fun v S' => (v = k_X11_paid N g H T S a0 x1 x2 ∧ S' = S)) := by
  refine cC.ofX rfl (by exact Nat.le_of_ble_eq_true rfl) ?_
  show cX G o dX11_paid mX11_paid 0 [some (va_rf (some a0)), some (.int x1), some (.int x2), none] [] S _
  exact cX.cutz (kb_X11_paid_0 (X := fun F => F = k_X11_paid N g H T S a0 x1 x2) hG (fun v h => ⟨v, rfl, h, rfl⟩) hS t_x0 ok rfl) ⟨rfl, rfl, rfl, trivial⟩
/-! X11_path -/
def KF_X11_path_116 (N g H T : Nat) (x4 : Int32) (s0 : Option Nat) (s1 : Int32) (S : cS) : Int64 × cS := ((k_X11_eight N g H T S s0 s1 x4), S)
def KO_X11_path_116 (N g H T : Nat) (x4 : Int32) (s0 : Option Nat) (s1 : Int32) (S : cS) : Prop := (p_X11_eight N g H T S s0 s1 x4) ∧ True
set_option maxRecDepth 100000 in
set_option maxHeartbeats 4000000 in
theorem kb_X11_path_116 {G : zG} {o : cO} {g H T N : Nat} {S : cS} {S0 : cS} {Q : Option Value → cS → Prop} {X : Int64 × cS → Prop} (hG : zOK G) (hR : ∀ v S', St 1 g H T S' → Mono S0 S' → X (v, S') → Q (some (.long v)) S') {x4 : Int32} {s0 : Option Nat} {s1 : Int32} (hS : St 1 g H T S) (hM : Mono S0 S) (t_s0 : tK S 20 s0) (ok : KO_X11_path_116 N g H T x4 s0 s1 S) (hx : X (KF_X11_path_116 N g H T x4 s0 s1 S)) : cX G o dX11_path mX11_path 116 [none, none, none, none, some (.int x4), none] [.int s1, va_rf s0] S Q := by
  unfold KO_X11_path_116 at ok
  unfold KF_X11_path_116 at hx
  refine c_iload dX11_path_116 rfl ?_
  refine c_S3lE (y' := mX11_eight) dX11_path_118 lX11_153 kX11_eight ⟨by decide, by decide⟩ (Nat.le_of_ble_eq_true rfl) (kc_X11_eight hG hS t_s0 ok.1) ?_
  have ok := ok.2
  exact c_lreturn rfl dX11_path_121 (hR _ _ hS hM hx)
def KF_X11_path_78 (N g H T : Nat) (x0 : Nat) (x3 : Int32) (x4 : Int32) (S : cS) : Int64 × cS := (if x3 < (cI S 5 (g + 3)) then (KF_X11_path_116 N g H T x4 (some (g + 2)) ((k_X2_climb N g H T S (g + 3) x3 (some (g + 2)) (nI 0)).1) (k_X2_climb N g H T S (g + 3) x3 (some (g + 2)) (nI 0)).2) else ((-1 : Int64), S))
def KO_X11_path_78 (N g H T : Nat) (x0 : Nat) (x3 : Int32) (x4 : Int32) (S : cS) : Prop := ((x3 < (cI S 5 (g + 3)) → (p_X2_climb N g H T S (g + 3) x3 (some (g + 2)) (nI 0)) ∧ KO_X11_path_116 N g H T x4 (some (g + 2)) ((k_X2_climb N g H T S (g + 3) x3 (some (g + 2)) (nI 0)).1) (k_X2_climb N g H T S (g + 3) x3 (some (g + 2)) (nI 0)).2) ∧ (¬ x3 < (cI S 5 (g + 3)) → True))
set_option maxRecDepth 100000 in
set_option maxHeartbeats 4000000 in
theorem kb_X11_path_78 {G : zG} {o : cO} {g H T N : Nat} {S : cS} {S0 : cS} {Q : Option Value → cS → Prop} {X : Int64 × cS → Prop} (hG : zOK G) (hR : ∀ v S', St 1 g H T S' → Mono S0 S' → X (v, S') → Q (some (.long v)) S') {x0 : Nat} {x3 : Int32} {x4 : Int32} (hS : St 1 g H T S) (hM : Mono S0 S) (t_x0 : isO g H 9 x0) (ok : KO_X11_path_78 N g H T x0 x3 x4 S) (hx : X (KF_X11_path_78 N g H T x0 x3 x4 S)) : cX G o dX11_path mX11_path 78 [some (va_rf (some x0)), none, none, some (.int x3), some (.int x4), none] [] S Q := by
  unfold KO_X11_path_78 at ok
  unfold KF_X11_path_78 at hx
  refine c_iload_n dX11_path_78 rfl rfl ?_
  refine c_aload_nQ dX11_path_79 rfl rfl ?_
  refine c_getS (C := RX11) (T := TX11) (N := 4) (ci := 9) (k := 0) ⟨rfl, inT11, by decide, fX11_22⟩ (by decide) (by decide) (by decide) dX11_path_80 (hS.k t_x0) (hS.r (c := 9) t_x0 rfl (by omega)) ?_
  refine c_getS (C := RX10) (T := TX10) (N := 12) (ci := 8) (k := 5) ⟨rfl, inT10, by decide, fX11_103⟩ (by decide) (by decide) (by decide) dX11_path_83 (hS.k (o90 t_x0)) (hS.r (c := 8) (o90 t_x0) rfl (by omega)) ?_
  refine c_getI (C := RX2) (T := TX2) (N := 6) (ci := 2) (k := 5) ⟨rfl, inT2, by decide, fX11_275⟩ (by decide) (by decide) (by decide) dX11_path_86 (hS.k (o85 (o90 t_x0))) ?_
  refine c_icmp_lt (tgt := 96) dX11_path_89 (by decide) (fun c_89 => ?_) (fun c_89 => ?_)
  · have ok := ok.1 c_89
    have hx := xif_p c_89 hx
    refine c_aload_nQ dX11_path_96 rfl rfl ?_
    refine c_getS (C := RX11) (T := TX11) (N := 4) (ci := 9) (k := 2) ⟨rfl, inT11, by decide, fX11_13⟩ (by decide) (by decide) (by decide) dX11_path_97 (hS.k t_x0) (hS.r (c := 9) t_x0 rfl (by omega)) ?_
    refine c_aload_nQ dX11_path_100 rfl rfl ?_
    refine c_getS (C := RX11) (T := TX11) (N := 4) (ci := 9) (k := 0) ⟨rfl, inT11, by decide, fX11_22⟩ (by decide) (by decide) (by decide) dX11_path_101 (hS.k t_x0) (hS.r (c := 9) t_x0 rfl (by omega)) ?_
    refine c_getS (C := RX10) (T := TX10) (N := 12) (ci := 8) (k := 5) ⟨rfl, inT10, by decide, fX11_103⟩ (by decide) (by decide) (by decide) dX11_path_104 (hS.k (o90 t_x0)) (hS.r (c := 8) (o90 t_x0) rfl (by omega)) ?_
    refine c_iload_n dX11_path_107 rfl rfl ?_
    refine c_aload_nQ dX11_path_108 rfl rfl ?_
    refine c_getS (C := RX11) (T := TX11) (N := 4) (ci := 9) (k := 2) ⟨rfl, inT11, by decide, fX11_13⟩ (by decide) (by decide) (by decide) dX11_path_109 (hS.k t_x0) (hS.r (c := 9) t_x0 rfl (by omega)) ?_
    refine c_iconst (v := nI 0) dX11_path_112 (by decide) ?_
    refine c_V3iK (ci := 2) (rr := (RX2, TX2, 6)) (y' := mX2_climb) dX11_path_113 lX11_113 kX2_climb ⟨by decide, by decide⟩ rfl rfl (by decide) (hS.k (o85 (o90 t_x0))) (by simp only [List.map_cons, List.map_nil, List.sum_cons, List.sum_nil, zcat_rf, zcat_i, zcat_l, zcat_r] <;> decide) (kc_X2_climb hG hS (o85 (o90 t_x0)) (hS.rk (c := 9) (k := 2) t_x0 rfl (by omega)) ok.1) (fun ⟨hS, hm_113⟩ => ?_)
    have hM := hM.trans hm_113
    have ok := ok.2
    exact cX.cutz (kb_X11_path_116 hG hR hS hM (hS.rk (c := 9) (k := 2) t_x0 rfl (by omega)) ok hx) ⟨rfl, trivial⟩
  · have ok := ok.2 c_89
    have hx := xif_n c_89 hx
    refine c_ldc2 dX11_path_92 nX11_200 ?_
    exact c_lreturn rfl dX11_path_95 (hR _ _ hS hM hx)
def KF_X11_path_53 (N g H T : Nat) (x0 : Nat) (x3 : Int32) (x4 : Int32) (s0 : Int32) (S : cS) : Int64 × cS := (if 0 ≤ s0 then (KF_X11_path_78 N g H T x0 x3 x4 (k_X2_plant N g H T S (g + 3) (some (g + 28)) (nI 0))) else ((-1 : Int64), S))
def KO_X11_path_53 (N g H T : Nat) (x0 : Nat) (x3 : Int32) (x4 : Int32) (s0 : Int32) (S : cS) : Prop := ((0 ≤ s0 → (p_X2_plant N g H T S (g + 3) (some (g + 28)) (nI 0)) ∧ KO_X11_path_78 N g H T x0 x3 x4 (k_X2_plant N g H T S (g + 3) (some (g + 28)) (nI 0))) ∧ (¬ 0 ≤ s0 → True))
set_option maxRecDepth 100000 in
set_option maxHeartbeats 4000000 in
theorem kb_X11_path_53 {G : zG} {o : cO} {g H T N : Nat} {S : cS} {S0 : cS} {Q : Option Value → cS → Prop} {X : Int64 × cS → Prop} (hG : zOK G) (hR : ∀ v S', St 1 g H T S' → Mono S0 S' → X (v, S') → Q (some (.long v)) S') {x0 : Nat} {x3 : Int32} {x4 : Int32} {s0 : Int32} (hS : St 1 g H T S) (hM : Mono S0 S) (t_x0 : isO g H 9 x0) (ok : KO_X11_path_53 N g H T x0 x3 x4 s0 S) (hx : X (KF_X11_path_53 N g H T x0 x3 x4 s0 S)) : cX G o dX11_path mX11_path 53 [some (va_rf (some x0)), none, none, some (.int x3), some (.int x4), none] [.int s0] S Q := by
  unfold KO_X11_path_53 at ok
  unfold KF_X11_path_53 at hx
  refine c_if_ge (tgt := 60) dX11_path_53 (by decide) (fun c_53 => ?_) (fun c_53 => ?_)
  · have ok := ok.1 c_53
    have hx := xif_p c_53 hx
    refine c_aload_nQ dX11_path_60 rfl rfl ?_
    refine c_getS (C := RX11) (T := TX11) (N := 4) (ci := 9) (k := 0) ⟨rfl, inT11, by decide, fX11_22⟩ (by decide) (by decide) (by decide) dX11_path_61 (hS.k t_x0) (hS.r (c := 9) t_x0 rfl (by omega)) ?_
    refine c_getS (C := RX10) (T := TX10) (N := 12) (ci := 8) (k := 5) ⟨rfl, inT10, by decide, fX11_103⟩ (by decide) (by decide) (by decide) dX11_path_64 (hS.k (o90 t_x0)) (hS.r (c := 8) (o90 t_x0) rfl (by omega)) ?_
    refine c_aload_nQ dX11_path_67 rfl rfl ?_
    refine c_getS (C := RX11) (T := TX11) (N := 4) (ci := 9) (k := 0) ⟨rfl, inT11, by decide, fX11_22⟩ (by decide) (by decide) (by decide) dX11_path_68 (hS.k t_x0) (hS.r (c := 9) t_x0 rfl (by omega)) ?_
    refine c_getS (C := RX10) (T := TX10) (N := 12) (ci := 8) (k := 10) ⟨rfl, inT10, by decide, fX11_256⟩ (by decide) (by decide) (by decide) dX11_path_71 (hS.k (o90 t_x0)) (hS.r (c := 8) (o90 t_x0) rfl (by omega)) ?_
    refine c_iconst (v := nI 0) dX11_path_74 (by decide) ?_
    refine c_V2vK (ci := 2) (rr := (RX2, TX2, 6)) (y' := mX2_plant) dX11_path_75 lX11_107 kX2_plant ⟨by decide, by decide⟩ rfl rfl (by decide) (hS.k (o85 (o90 t_x0))) (Nat.le_of_ble_eq_true rfl) (kc_X2_plant hG hS (o85 (o90 t_x0)) (hS.rk (c := 8) (k := 10) (o90 t_x0) rfl (by omega)) ok.1) (fun ⟨hS, hm_75⟩ => ?_)
    have hM := hM.trans hm_75
    have ok := ok.2
    exact cX.cutz (kb_X11_path_78 hG hR hS hM t_x0 ok hx) ⟨rfl, rfl, rfl, trivial⟩
  · have ok := ok.2 c_53
    have hx := xif_n c_53 hx
    refine c_ldc2 dX11_path_56 nX11_200 ?_
    exact c_lreturn rfl dX11_path_59 (hR _ _ hS hM hx)
def KF_X11_path_32 (N g H T : Nat)  (S : cS) : Int64 × cS := ((-1 : Int64), S)
def KO_X11_path_32 (N g H T : Nat)  (S : cS) : Prop := True
set_option maxRecDepth 100000 in
set_option maxHeartbeats 4000000 in
theorem kb_X11_path_32 {G : zG} {o : cO} {g H T N : Nat} {S : cS} {S0 : cS} {Q : Option Value → cS → Prop} {X : Int64 × cS → Prop} (hG : zOK G) (hR : ∀ v S', St 1 g H T S' → Mono S0 S' → X (v, S') → Q (some (.long v)) S') (hS : St 1 g H T S) (hM : Mono S0 S) (ok : KO_X11_path_32 N g H T S) (hx : X (KF_X11_path_32 N g H T S)) : cX G o dX11_path mX11_path 32 [none, none, none, none, none, none] [] S Q := by
  unfold KO_X11_path_32 at ok
  unfold KF_X11_path_32 at hx
  refine c_ldc2 dX11_path_32 nX11_200 ?_
  exact c_lreturn rfl dX11_path_35 (hR _ _ hS hM hx)
def KF_X11_path_0 (N g H T : Nat) (x0 : Nat) (x1 : Int32) (x2 : Int32) (x3 : Int32) (x4 : Int32) (S : cS) : Int64 × cS := (if (k_X11_honestNode N g H T S x0 x1) = none then (KF_X11_path_32 N g H T S) else (if x2 < (nI 1) then (KF_X11_path_32 N g H T S) else (if (nI 40) < x2 then (KF_X11_path_32 N g H T S) else (if x3 < 0 then (KF_X11_path_32 N g H T S) else (if 0 ≤ x4 then (KF_X11_path_53 N g H T x0 x3 x4 ((k_X4_fetch N g H T S ((za (k_X11_honestNode N g H T S x0 x1)) + 1) x2 (some (g + 28)) (nI 0)).1) (k_X4_fetch N g H T S ((za (k_X11_honestNode N g H T S x0 x1)) + 1) x2 (some (g + 28)) (nI 0)).2) else (KF_X11_path_32 N g H T S))))))
def KO_X11_path_0 (N g H T : Nat) (x0 : Nat) (x1 : Int32) (x2 : Int32) (x3 : Int32) (x4 : Int32) (S : cS) : Prop := (p_X11_honestNode N g H T S x0 x1) ∧ (((k_X11_honestNode N g H T S x0 x1) = none → KO_X11_path_32 N g H T S) ∧ (¬ (k_X11_honestNode N g H T S x0 x1) = none → ((x2 < (nI 1) → KO_X11_path_32 N g H T S) ∧ (¬ x2 < (nI 1) → (((nI 40) < x2 → KO_X11_path_32 N g H T S) ∧ (¬ (nI 40) < x2 → ((x3 < 0 → KO_X11_path_32 N g H T S) ∧ (¬ x3 < 0 → ((0 ≤ x4 → (p_X4_fetch N g H T S ((za (k_X11_honestNode N g H T S x0 x1)) + 1) x2 (some (g + 28)) (nI 0)) ∧ KO_X11_path_53 N g H T x0 x3 x4 ((k_X4_fetch N g H T S ((za (k_X11_honestNode N g H T S x0 x1)) + 1) x2 (some (g + 28)) (nI 0)).1) (k_X4_fetch N g H T S ((za (k_X11_honestNode N g H T S x0 x1)) + 1) x2 (some (g + 28)) (nI 0)).2) ∧ (¬ 0 ≤ x4 → KO_X11_path_32 N g H T S))))))))))
set_option maxRecDepth 100000 in
set_option maxHeartbeats 4000000 in
theorem kb_X11_path_0 {G : zG} {o : cO} {g H T N : Nat} {S : cS} {S0 : cS} {Q : Option Value → cS → Prop} {X : Int64 × cS → Prop} (hG : zOK G) (hR : ∀ v S', St 1 g H T S' → Mono S0 S' → X (v, S') → Q (some (.long v)) S') {x0 : Nat} {x1 : Int32} {x2 : Int32} {x3 : Int32} {x4 : Int32} (hS : St 1 g H T S) (hM : Mono S0 S) (t_x0 : isO g H 9 x0) (ok : KO_X11_path_0 N g H T x0 x1 x2 x3 x4 S) (hx : X (KF_X11_path_0 N g H T x0 x1 x2 x3 x4 S)) : cX G o dX11_path mX11_path 0 [some (va_rf (some x0)), some (.int x1), some (.int x2), some (.int x3), some (.int x4), none] [] S Q := by
  unfold KO_X11_path_0 at ok
  unfold KF_X11_path_0 at hx
  refine c_aload_nQ dX11_path_0 rfl rfl ?_
  refine c_iload_n dX11_path_1 rfl rfl ?_
  refine c_V1qK (ci := 9) (rr := (RX11, TX11, 4)) (y' := mX11_honestNode) dX11_path_2 lX11_120 kX11_honestNode ⟨by decide, by decide⟩ rfl rfl (by decide) (hS.k t_x0) (Nat.le_of_ble_eq_true rfl) (kc_X11_honestNode hG hS t_x0 ok.1) (fun tv_2 => ?_)
  have ok := ok.2
  refine c_astore_5Q dX11_path_5 (by decide) rfl ?_
  refine c_aloadQ dX11_path_7 rfl ?_
  refine c_ifnullI (tgt := 32) dX11_path_9 (by decide) (fun c_9 => ?_) (fun c_9 => ?_)
  · have ok := ok.1 c_9
    have hx := xif_p c_9 hx
    exact cX.cutz (kb_X11_path_32 hG hR hS hM  ok hx) trivial
  · have ok := ok.2 c_9
    have hx := xif_n c_9 hx
    refine c_iload_n dX11_path_12 rfl rfl ?_
    refine c_iconst (v := nI 1) dX11_path_13 (by decide) ?_
    refine c_icmp_lt (tgt := 32) dX11_path_14 (by decide) (fun c_14 => ?_) (fun c_14 => ?_)
    · have ok := ok.1 c_14
      have hx := xif_p c_14 hx
      exact cX.cutz (kb_X11_path_32 hG hR hS hM  ok hx) trivial
    · have ok := ok.2 c_14
      have hx := xif_n c_14 hx
      refine c_iload_n dX11_path_17 rfl rfl ?_
      refine c_bipush (v := nI 40) dX11_path_18 (by decide) ?_
      refine c_icmp_gt (tgt := 32) dX11_path_20 (by decide) (fun c_20 => ?_) (fun c_20 => ?_)
      · have ok := ok.1 c_20
        have hx := xif_p c_20 hx
        exact cX.cutz (kb_X11_path_32 hG hR hS hM  ok hx) trivial
      · have ok := ok.2 c_20
        have hx := xif_n c_20 hx
        refine c_iload_n dX11_path_23 rfl rfl ?_
        refine c_if_lt (tgt := 32) dX11_path_24 (by decide) (fun c_24 => ?_) (fun c_24 => ?_)
        · have ok := ok.1 c_24
          have hx := xif_p c_24 hx
          exact cX.cutz (kb_X11_path_32 hG hR hS hM  ok hx) trivial
        · have ok := ok.2 c_24
          have hx := xif_n c_24 hx
          refine c_iload dX11_path_27 rfl ?_
          refine c_if_ge (tgt := 36) dX11_path_29 (by decide) (fun c_29 => ?_) (fun c_29 => ?_)
          · have ok := ok.1 c_29
            have hx := xif_p c_29 hx
            refine c_aloadQ dX11_path_36 rfl ?_
            refine c_getS (C := RX6) (T := TX6) (N := 19) (ci := 5) (k := 2) ⟨rfl, inT6, by decide, fX11_205⟩ (by decide) (by decide) (by decide) dX11_path_38 (hS.kN tv_2 c_9) (hS.r (c := 5) (tN.o tv_2 c_9) rfl (by omega)) ?_
            refine c_iload_n dX11_path_41 rfl rfl ?_
            refine c_aload_nQ dX11_path_42 rfl rfl ?_
            refine c_getS (C := RX11) (T := TX11) (N := 4) (ci := 9) (k := 0) ⟨rfl, inT11, by decide, fX11_22⟩ (by decide) (by decide) (by decide) dX11_path_43 (hS.k t_x0) (hS.r (c := 9) t_x0 rfl (by omega)) ?_
            refine c_getS (C := RX10) (T := TX10) (N := 12) (ci := 8) (k := 10) ⟨rfl, inT10, by decide, fX11_256⟩ (by decide) (by decide) (by decide) dX11_path_46 (hS.k (o90 t_x0)) (hS.r (c := 8) (o90 t_x0) rfl (by omega)) ?_
            refine c_iconst (v := nI 0) dX11_path_49 (by decide) ?_
            refine c_V3iK (ci := 3) (rr := (RX4, TX4, 10)) (y' := mX4_fetch) dX11_path_50 lX11_259 kX4_fetch ⟨by decide, by decide⟩ rfl rfl (by decide) (hS.k (o52 (tN.o tv_2 c_9))) (Nat.le_of_ble_eq_true rfl) (kc_X4_fetch hG hS (o52 (tN.o tv_2 c_9)) (hS.rk (c := 8) (k := 10) (o90 t_x0) rfl (by omega)) ok.1) (fun ⟨hS, hm_50⟩ => ?_)
            have hM := hM.trans hm_50
            have ok := ok.2
            exact cX.cutz (kb_X11_path_53 hG hR hS hM t_x0 ok hx) ⟨rfl, rfl, rfl, trivial⟩
          · have ok := ok.2 c_29
            have hx := xif_n c_29 hx
            exact cX.cutz (kb_X11_path_32 hG hR hS hM  ok hx) trivial
def k_X11_path (N g H T : Nat) (S : cS) (a0 : Nat) (x1 : Int32) (x2 : Int32) (x3 : Int32) (x4 : Int32) : Int64 × cS := KF_X11_path_0 N g H T a0 x1 x2 x3 x4 S
def p_X11_path (N g H T : Nat) (S : cS) (a0 : Nat) (x1 : Int32) (x2 : Int32) (x3 : Int32) (x4 : Int32) : Prop := KO_X11_path_0 N g H T a0 x1 x2 x3 x4 S
set_option maxRecDepth 100000 in
set_option maxHeartbeats 4000000 in
theorem kc_X11_path {G : zG} {o : cO} {g H T N : Nat} {S : cS} (hG : zOK G) {a0 : Nat} {x1 : Int32} {x2 : Int32} {x3 : Int32} {x4 : Int32} (hS : St 1 g H T S) (t_x0 : isO g H 9 a0) (ok : p_X11_path N g H T S a0 x1 x2 x3 x4) : cCl G o dX11_path mX11_path [.ref a0, .int x1, .int x2, .int x3, .int x4] S (fun v S' => (v = (k_X11_path N g H T S a0 x1 x2 x3 x4).1 ∧ S' = (k_X11_path N g H T S a0 x1 x2 x3 x4).2) ∧ St 1 g H T S' ∧ Mono S S') := by
  refine cC.ofX rfl (by exact Nat.le_of_ble_eq_true rfl) ?_
  show cX G o dX11_path mX11_path 0 [some (va_rf (some a0)), some (.int x1), some (.int x2), some (.int x3), some (.int x4), none] [] S _
  exact cX.cutz (kb_X11_path_0 (X := fun F => F = k_X11_path N g H T S a0 x1 x2 x3 x4) hG (fun v S' h1 h2 h => ⟨v, rfl, ⟨by rw [← h], by rw [← h]⟩, h1, h2⟩) hS Mono.rfl' t_x0 ok rfl) ⟨rfl, rfl, rfl, rfl, rfl, trivial⟩
/-! X11_account -/
def KF_X11_account_82 (N g H T : Nat) (x3 : Int32) (s0 : Option Nat) (s1 : Int32) (s2 : Int32) (S : cS) : Int64 × cS := ((k_X11_eight N g H T S s0 (s1 + s2) x3), S)
def KO_X11_account_82 (N g H T : Nat) (x3 : Int32) (s0 : Option Nat) (s1 : Int32) (s2 : Int32) (S : cS) : Prop := (p_X11_eight N g H T S s0 (s1 + s2) x3) ∧ True
set_option maxRecDepth 100000 in
set_option maxHeartbeats 4000000 in
theorem kb_X11_account_82 {G : zG} {o : cO} {g H T N : Nat} {S : cS} {S0 : cS} {Q : Option Value → cS → Prop} {X : Int64 × cS → Prop} (hG : zOK G) (hR : ∀ v S', St 1 g H T S' → Mono S0 S' → X (v, S') → Q (some (.long v)) S') {x3 : Int32} {s0 : Option Nat} {s1 : Int32} {s2 : Int32} (hS : St 1 g H T S) (hM : Mono S0 S) (t_s0 : tK S 20 s0) (ok : KO_X11_account_82 N g H T x3 s0 s1 s2 S) (hx : X (KF_X11_account_82 N g H T x3 s0 s1 s2 S)) : cX G o dX11_account mX11_account 82 [none, none, none, some (.int x3), none] [.int s2, .int s1, va_rf s0] S Q := by
  unfold KO_X11_account_82 at ok
  unfold KF_X11_account_82 at hx
  refine c_iadd dX11_account_82 ?_
  refine c_iload_n dX11_account_83 rfl rfl ?_
  refine c_S3lE (y' := mX11_eight) dX11_account_84 lX11_153 kX11_eight ⟨by decide, by decide⟩ (Nat.le_of_ble_eq_true rfl) (kc_X11_eight hG hS t_s0 ok.1) ?_
  have ok := ok.2
  exact c_lreturn rfl dX11_account_87 (hR _ _ hS hM hx)
def KF_X11_account_59 (N g H T : Nat) (x0 : Nat) (x2 : Int32) (x3 : Int32) (S : cS) : Int64 × cS := (KF_X11_account_82 N g H T x3 (some (g + 2)) (nI 6) ((k_X2_climb N g H T S (g + 3) x2 (some (g + 2)) (nI 6)).1) (k_X2_climb N g H T S (g + 3) x2 (some (g + 2)) (nI 6)).2)
def KO_X11_account_59 (N g H T : Nat) (x0 : Nat) (x2 : Int32) (x3 : Int32) (S : cS) : Prop := (p_X2_climb N g H T S (g + 3) x2 (some (g + 2)) (nI 6)) ∧ KO_X11_account_82 N g H T x3 (some (g + 2)) (nI 6) ((k_X2_climb N g H T S (g + 3) x2 (some (g + 2)) (nI 6)).1) (k_X2_climb N g H T S (g + 3) x2 (some (g + 2)) (nI 6)).2
set_option maxRecDepth 100000 in
set_option maxHeartbeats 4000000 in
theorem kb_X11_account_59 {G : zG} {o : cO} {g H T N : Nat} {S : cS} {S0 : cS} {Q : Option Value → cS → Prop} {X : Int64 × cS → Prop} (hG : zOK G) (hR : ∀ v S', St 1 g H T S' → Mono S0 S' → X (v, S') → Q (some (.long v)) S') {x0 : Nat} {x2 : Int32} {x3 : Int32} (hS : St 1 g H T S) (hM : Mono S0 S) (t_x0 : isO g H 9 x0) (ok : KO_X11_account_59 N g H T x0 x2 x3 S) (hx : X (KF_X11_account_59 N g H T x0 x2 x3 S)) : cX G o dX11_account mX11_account 59 [some (va_rf (some x0)), none, some (.int x2), some (.int x3), none] [] S Q := by
  unfold KO_X11_account_59 at ok
  unfold KF_X11_account_59 at hx
  refine c_aload_nQ dX11_account_59 rfl rfl ?_
  refine c_getS (C := RX11) (T := TX11) (N := 4) (ci := 9) (k := 2) ⟨rfl, inT11, by decide, fX11_13⟩ (by decide) (by decide) (by decide) dX11_account_60 (hS.k t_x0) (hS.r (c := 9) t_x0 rfl (by omega)) ?_
  refine c_bipush (v := nI 6) dX11_account_63 (by decide) ?_
  refine c_aload_nQ dX11_account_65 rfl rfl ?_
  refine c_getS (C := RX11) (T := TX11) (N := 4) (ci := 9) (k := 0) ⟨rfl, inT11, by decide, fX11_22⟩ (by decide) (by decide) (by decide) dX11_account_66 (hS.k t_x0) (hS.r (c := 9) t_x0 rfl (by omega)) ?_
  refine c_getS (C := RX10) (T := TX10) (N := 12) (ci := 8) (k := 5) ⟨rfl, inT10, by decide, fX11_103⟩ (by decide) (by decide) (by decide) dX11_account_69 (hS.k (o90 t_x0)) (hS.r (c := 8) (o90 t_x0) rfl (by omega)) ?_
  refine c_iload_n dX11_account_72 rfl rfl ?_
  refine c_aload_nQ dX11_account_73 rfl rfl ?_
  refine c_getS (C := RX11) (T := TX11) (N := 4) (ci := 9) (k := 2) ⟨rfl, inT11, by decide, fX11_13⟩ (by decide) (by decide) (by decide) dX11_account_74 (hS.k t_x0) (hS.r (c := 9) t_x0 rfl (by omega)) ?_
  refine c_bipush (v := nI 6) dX11_account_77 (by decide) ?_
  refine c_V3iK (ci := 2) (rr := (RX2, TX2, 6)) (y' := mX2_climb) dX11_account_79 lX11_113 kX2_climb ⟨by decide, by decide⟩ rfl rfl (by decide) (hS.k (o85 (o90 t_x0))) (by simp only [List.map_cons, List.map_nil, List.sum_cons, List.sum_nil, zcat_rf, zcat_i, zcat_l, zcat_r] <;> decide) (kc_X2_climb hG hS (o85 (o90 t_x0)) (hS.rk (c := 9) (k := 2) t_x0 rfl (by omega)) ok.1) (fun ⟨hS, hm_79⟩ => ?_)
  have hM := hM.trans hm_79
  have ok := ok.2
  exact cX.cutz (kb_X11_account_82 hG hR hS hM (hS.rk (c := 9) (k := 2) t_x0 rfl (by omega)) ok hx) ⟨rfl, trivial⟩
def KF_X11_account_45 (N g H T : Nat) (x0 : Nat) (x2 : Int32) (x3 : Int32) (x4 : Option Nat) (S : cS) : Int64 × cS := (KF_X11_account_59 N g H T x0 x2 x3 (k_X0_encode N g H T S ((za x4) + 6) x2 (some (g + 2)) (nI 0)))
def KO_X11_account_45 (N g H T : Nat) (x0 : Nat) (x2 : Int32) (x3 : Int32) (x4 : Option Nat) (S : cS) : Prop := (¬ x4 = none) ∧ (p_X0_encode N g H T S ((za x4) + 6) x2 (some (g + 2)) (nI 0)) ∧ KO_X11_account_59 N g H T x0 x2 x3 (k_X0_encode N g H T S ((za x4) + 6) x2 (some (g + 2)) (nI 0))
set_option maxRecDepth 100000 in
set_option maxHeartbeats 4000000 in
theorem kb_X11_account_45 {G : zG} {o : cO} {g H T N : Nat} {S : cS} {S0 : cS} {Q : Option Value → cS → Prop} {X : Int64 × cS → Prop} (hG : zOK G) (hR : ∀ v S', St 1 g H T S' → Mono S0 S' → X (v, S') → Q (some (.long v)) S') {x0 : Nat} {x2 : Int32} {x3 : Int32} {x4 : Option Nat} (hS : St 1 g H T S) (hM : Mono S0 S) (t_x0 : isO g H 9 x0) (t_x4 : tN g H x4) (ok : KO_X11_account_45 N g H T x0 x2 x3 x4 S) (hx : X (KF_X11_account_45 N g H T x0 x2 x3 x4 S)) : cX G o dX11_account mX11_account 45 [some (va_rf (some x0)), none, some (.int x2), some (.int x3), some (va_rf x4)] [] S Q := by
  unfold KO_X11_account_45 at ok
  unfold KF_X11_account_45 at hx
  refine c_aloadQ dX11_account_45 rfl ?_
  have nn_47 := ok.1
  refine c_getS (C := RX6) (T := TX6) (N := 19) (ci := 5) (k := 4) ⟨rfl, inT6, by decide, fX11_129⟩ (by decide) (by decide) (by decide) dX11_account_47 (hS.kN t_x4 ok.1) (hS.r (c := 5) (tN.o t_x4 ok.1) rfl (by omega)) ?_
  have ok := ok.2
  refine c_iload_n dX11_account_50 rfl rfl ?_
  refine c_aload_nQ dX11_account_51 rfl rfl ?_
  refine c_getS (C := RX11) (T := TX11) (N := 4) (ci := 9) (k := 2) ⟨rfl, inT11, by decide, fX11_13⟩ (by decide) (by decide) (by decide) dX11_account_52 (hS.k t_x0) (hS.r (c := 9) t_x0 rfl (by omega)) ?_
  refine c_iconst (v := nI 0) dX11_account_55 (by decide) ?_
  refine c_V3vK (ci := 0) (rr := (RX0, TX0, 6)) (y' := mX0_encode) dX11_account_56 lX11_281 kX0_encode ⟨by decide, by decide⟩ rfl rfl (by decide) (hS.k (o54 (tN.o t_x4 nn_47))) (Nat.le_of_ble_eq_true rfl) (kc_X0_encode hG hS (o54 (tN.o t_x4 nn_47)) (hS.rk (c := 9) (k := 2) t_x0 rfl (by omega)) ok.1) (fun ⟨hS, hm_56⟩ => ?_)
  have hM := hM.trans hm_56
  have ok := ok.2
  exact cX.cutz (kb_X11_account_59 hG hR hS hM t_x0 ok hx) ⟨rfl, rfl, rfl, trivial⟩
def KF_X11_account_26 (N g H T : Nat)  (S : cS) : Int64 × cS := ((-1 : Int64), S)
def KO_X11_account_26 (N g H T : Nat)  (S : cS) : Prop := True
set_option maxRecDepth 100000 in
set_option maxHeartbeats 4000000 in
theorem kb_X11_account_26 {G : zG} {o : cO} {g H T N : Nat} {S : cS} {S0 : cS} {Q : Option Value → cS → Prop} {X : Int64 × cS → Prop} (hG : zOK G) (hR : ∀ v S', St 1 g H T S' → Mono S0 S' → X (v, S') → Q (some (.long v)) S') (hS : St 1 g H T S) (hM : Mono S0 S) (ok : KO_X11_account_26 N g H T S) (hx : X (KF_X11_account_26 N g H T S)) : cX G o dX11_account mX11_account 26 [none, none, none, none, none] [] S Q := by
  unfold KO_X11_account_26 at ok
  unfold KF_X11_account_26 at hx
  refine c_ldc2 dX11_account_26 nX11_200 ?_
  exact c_lreturn rfl dX11_account_29 (hR _ _ hS hM hx)
def KF_X11_account_0 (N g H T : Nat) (x0 : Nat) (x1 : Int32) (x2 : Int32) (x3 : Int32) (S : cS) : Int64 × cS := (if (k_X11_honestNode N g H T S x0 x1) = none then (KF_X11_account_26 N g H T S) else (if x2 < 0 then (KF_X11_account_26 N g H T S) else (if (nI 16) ≤ x2 then (KF_X11_account_26 N g H T S) else (if 0 ≤ x3 then (KF_X11_account_45 N g H T x0 x2 x3 (k_X11_honestNode N g H T S x0 x1) (k_X0_plant N g H T S ((za (k_X11_honestNode N g H T S x0 x1)) + 6) (g + 3))) else (KF_X11_account_26 N g H T S)))))
def KO_X11_account_0 (N g H T : Nat) (x0 : Nat) (x1 : Int32) (x2 : Int32) (x3 : Int32) (S : cS) : Prop := (p_X11_honestNode N g H T S x0 x1) ∧ (((k_X11_honestNode N g H T S x0 x1) = none → KO_X11_account_26 N g H T S) ∧ (¬ (k_X11_honestNode N g H T S x0 x1) = none → ((x2 < 0 → KO_X11_account_26 N g H T S) ∧ (¬ x2 < 0 → (((nI 16) ≤ x2 → KO_X11_account_26 N g H T S) ∧ (¬ (nI 16) ≤ x2 → ((0 ≤ x3 → (p_X0_plant N g H T S ((za (k_X11_honestNode N g H T S x0 x1)) + 6) (g + 3)) ∧ KO_X11_account_45 N g H T x0 x2 x3 (k_X11_honestNode N g H T S x0 x1) (k_X0_plant N g H T S ((za (k_X11_honestNode N g H T S x0 x1)) + 6) (g + 3))) ∧ (¬ 0 ≤ x3 → KO_X11_account_26 N g H T S))))))))
set_option maxRecDepth 100000 in
set_option maxHeartbeats 4000000 in
theorem kb_X11_account_0 {G : zG} {o : cO} {g H T N : Nat} {S : cS} {S0 : cS} {Q : Option Value → cS → Prop} {X : Int64 × cS → Prop} (hG : zOK G) (hR : ∀ v S', St 1 g H T S' → Mono S0 S' → X (v, S') → Q (some (.long v)) S') {x0 : Nat} {x1 : Int32} {x2 : Int32} {x3 : Int32} (hS : St 1 g H T S) (hM : Mono S0 S) (t_x0 : isO g H 9 x0) (ok : KO_X11_account_0 N g H T x0 x1 x2 x3 S) (hx : X (KF_X11_account_0 N g H T x0 x1 x2 x3 S)) : cX G o dX11_account mX11_account 0 [some (va_rf (some x0)), some (.int x1), some (.int x2), some (.int x3), none] [] S Q := by
  unfold KO_X11_account_0 at ok
  unfold KF_X11_account_0 at hx
  refine c_aload_nQ dX11_account_0 rfl rfl ?_
  refine c_iload_n dX11_account_1 rfl rfl ?_
  refine c_V1qK (ci := 9) (rr := (RX11, TX11, 4)) (y' := mX11_honestNode) dX11_account_2 lX11_120 kX11_honestNode ⟨by decide, by decide⟩ rfl rfl (by decide) (hS.k t_x0) (Nat.le_of_ble_eq_true rfl) (kc_X11_honestNode hG hS t_x0 ok.1) (fun tv_2 => ?_)
  have ok := ok.2
  refine c_astore_4Q dX11_account_5 (by decide) rfl ?_
  refine c_aloadQ dX11_account_7 rfl ?_
  refine c_ifnullI (tgt := 26) dX11_account_9 (by decide) (fun c_9 => ?_) (fun c_9 => ?_)
  · have ok := ok.1 c_9
    have hx := xif_p c_9 hx
    exact cX.cutz (kb_X11_account_26 hG hR hS hM  ok hx) trivial
  · have ok := ok.2 c_9
    have hx := xif_n c_9 hx
    refine c_iload_n dX11_account_12 rfl rfl ?_
    refine c_if_lt (tgt := 26) dX11_account_13 (by decide) (fun c_13 => ?_) (fun c_13 => ?_)
    · have ok := ok.1 c_13
      have hx := xif_p c_13 hx
      exact cX.cutz (kb_X11_account_26 hG hR hS hM  ok hx) trivial
    · have ok := ok.2 c_13
      have hx := xif_n c_13 hx
      refine c_iload_n dX11_account_16 rfl rfl ?_
      refine c_bipush (v := nI 16) dX11_account_17 (by decide) ?_
      refine c_icmp_ge (tgt := 26) dX11_account_19 (by decide) (fun c_19 => ?_) (fun c_19 => ?_)
      · have ok := ok.1 c_19
        have hx := xif_p c_19 hx
        exact cX.cutz (kb_X11_account_26 hG hR hS hM  ok hx) trivial
      · have ok := ok.2 c_19
        have hx := xif_n c_19 hx
        refine c_iload_n dX11_account_22 rfl rfl ?_
        refine c_if_ge (tgt := 30) dX11_account_23 (by decide) (fun c_23 => ?_) (fun c_23 => ?_)
        · have ok := ok.1 c_23
          have hx := xif_p c_23 hx
          refine c_aloadQ dX11_account_30 rfl ?_
          refine c_getS (C := RX6) (T := TX6) (N := 19) (ci := 5) (k := 4) ⟨rfl, inT6, by decide, fX11_129⟩ (by decide) (by decide) (by decide) dX11_account_32 (hS.kN tv_2 c_9) (hS.r (c := 5) (tN.o tv_2 c_9) rfl (by omega)) ?_
          refine c_aload_nQ dX11_account_35 rfl rfl ?_
          refine c_getS (C := RX11) (T := TX11) (N := 4) (ci := 9) (k := 0) ⟨rfl, inT11, by decide, fX11_22⟩ (by decide) (by decide) (by decide) dX11_account_36 (hS.k t_x0) (hS.r (c := 9) t_x0 rfl (by omega)) ?_
          refine c_getS (C := RX10) (T := TX10) (N := 12) (ci := 8) (k := 5) ⟨rfl, inT10, by decide, fX11_103⟩ (by decide) (by decide) (by decide) dX11_account_39 (hS.k (o90 t_x0)) (hS.r (c := 8) (o90 t_x0) rfl (by omega)) ?_
          refine c_V1vK (ci := 0) (rr := (RX0, TX0, 6)) (y' := mX0_plant) dX11_account_42 lX11_278 kX0_plant ⟨by decide, by decide⟩ rfl rfl (by decide) (hS.k (o54 (tN.o tv_2 c_9))) (Nat.le_of_ble_eq_true rfl) (kc_X0_plant hG hS (o54 (tN.o tv_2 c_9)) (o85 (o90 t_x0)) ok.1) (fun ⟨hS, hm_42⟩ => ?_)
          have hM := hM.trans hm_42
          have ok := ok.2
          exact cX.cutz (kb_X11_account_45 hG hR hS hM t_x0 tv_2 ok hx) ⟨rfl, rfl, rfl, rfl, trivial⟩
        · have ok := ok.2 c_23
          have hx := xif_n c_23 hx
          exact cX.cutz (kb_X11_account_26 hG hR hS hM  ok hx) trivial
def k_X11_account (N g H T : Nat) (S : cS) (a0 : Nat) (x1 : Int32) (x2 : Int32) (x3 : Int32) : Int64 × cS := KF_X11_account_0 N g H T a0 x1 x2 x3 S
def p_X11_account (N g H T : Nat) (S : cS) (a0 : Nat) (x1 : Int32) (x2 : Int32) (x3 : Int32) : Prop := KO_X11_account_0 N g H T a0 x1 x2 x3 S
set_option maxRecDepth 100000 in
set_option maxHeartbeats 4000000 in
theorem kc_X11_account {G : zG} {o : cO} {g H T N : Nat} {S : cS} (hG : zOK G) {a0 : Nat} {x1 : Int32} {x2 : Int32} {x3 : Int32} (hS : St 1 g H T S) (t_x0 : isO g H 9 a0) (ok : p_X11_account N g H T S a0 x1 x2 x3) : cCl G o dX11_account mX11_account [.ref a0, .int x1, .int x2, .int x3] S (fun v S' => (v = (k_X11_account N g H T S a0 x1 x2 x3).1 ∧ S' = (k_X11_account N g H T S a0 x1 x2 x3).2) ∧ St 1 g H T S' ∧ Mono S S') := by
  refine cC.ofX rfl (by exact Nat.le_of_ble_eq_true rfl) ?_
  show cX G o dX11_account mX11_account 0 [some (va_rf (some a0)), some (.int x1), some (.int x2), some (.int x3), none] [] S _
  exact cX.cutz (kb_X11_account_0 (X := fun F => F = k_X11_account N g H T S a0 x1 x2 x3) hG (fun v S' h1 h2 h => ⟨v, rfl, ⟨by rw [← h], by rw [← h]⟩, h1, h2⟩) hS Mono.rfl' t_x0 ok rfl) ⟨rfl, rfl, rfl, rfl, trivial⟩
/-! X11_sector -/
def KF_X11_sector_28 (N g H T : Nat)  (S : cS) : Int64 := (-1 : Int64)
def KO_X11_sector_28 (N g H T : Nat)  (S : cS) : Prop := True
set_option maxRecDepth 100000 in
set_option maxHeartbeats 4000000 in
theorem kb_X11_sector_28 {G : zG} {o : cO} {g H T N : Nat} {S : cS} {Q : Option Value → cS → Prop} {X : Int64 → Prop} (hG : zOK G) (hR : ∀ v, X v → Q (some (.long v)) S) (hS : St 1 g H T S) (ok : KO_X11_sector_28 N g H T S) (hx : X (KF_X11_sector_28 N g H T S)) : cX G o dX11_sector mX11_sector 28 [none, none, none, none, none] [] S Q := by
  unfold KO_X11_sector_28 at ok
  unfold KF_X11_sector_28 at hx
  refine c_ldc2 dX11_sector_28 nX11_200 ?_
  exact c_lreturn rfl dX11_sector_31 (hR _ hx)
def KF_X11_sector_0 (N g H T : Nat) (x0 : Nat) (x1 : Int32) (x2 : Int32) (x3 : Int32) (S : cS) : Int64 := (if (k_X11_honestNode N g H T S x0 x1) = none then (KF_X11_sector_28 N g H T S) else (if x3 < 0 then (KF_X11_sector_28 N g H T S) else (if (k_X4_canRead N g H T S ((za (k_X11_honestNode N g H T S x0 x1)) + 1) x2) = 0 then (KF_X11_sector_28 N g H T S) else (k_X11_eight N g H T S (cP S (((za (k_X11_honestNode N g H T S x0 x1)) + 1) + 1) x2.toNatClampNeg) (nI 512) x3))))
def KO_X11_sector_0 (N g H T : Nat) (x0 : Nat) (x1 : Int32) (x2 : Int32) (x3 : Int32) (S : cS) : Prop := (p_X11_honestNode N g H T S x0 x1) ∧ (((k_X11_honestNode N g H T S x0 x1) = none → KO_X11_sector_28 N g H T S) ∧ (¬ (k_X11_honestNode N g H T S x0 x1) = none → ((x3 < 0 → KO_X11_sector_28 N g H T S) ∧ (¬ x3 < 0 → (p_X4_canRead N g H T S ((za (k_X11_honestNode N g H T S x0 x1)) + 1) x2) ∧ (((k_X4_canRead N g H T S ((za (k_X11_honestNode N g H T S x0 x1)) + 1) x2) = 0 → KO_X11_sector_28 N g H T S) ∧ (¬ (k_X4_canRead N g H T S ((za (k_X11_honestNode N g H T S x0 x1)) + 1) x2) = 0 → (vp_in x2 284) ∧ (p_X11_eight N g H T S (cP S (((za (k_X11_honestNode N g H T S x0 x1)) + 1) + 1) x2.toNatClampNeg) (nI 512) x3) ∧ True))))))
set_option maxRecDepth 100000 in
set_option maxHeartbeats 4000000 in
theorem kb_X11_sector_0 {G : zG} {o : cO} {g H T N : Nat} {S : cS} {Q : Option Value → cS → Prop} {X : Int64 → Prop} (hG : zOK G) (hR : ∀ v, X v → Q (some (.long v)) S) {x0 : Nat} {x1 : Int32} {x2 : Int32} {x3 : Int32} (hS : St 1 g H T S) (t_x0 : isO g H 9 x0) (ok : KO_X11_sector_0 N g H T x0 x1 x2 x3 S) (hx : X (KF_X11_sector_0 N g H T x0 x1 x2 x3 S)) : cX G o dX11_sector mX11_sector 0 [some (va_rf (some x0)), some (.int x1), some (.int x2), some (.int x3), none] [] S Q := by
  unfold KO_X11_sector_0 at ok
  unfold KF_X11_sector_0 at hx
  refine c_aload_nQ dX11_sector_0 rfl rfl ?_
  refine c_iload_n dX11_sector_1 rfl rfl ?_
  refine c_V1qK (ci := 9) (rr := (RX11, TX11, 4)) (y' := mX11_honestNode) dX11_sector_2 lX11_120 kX11_honestNode ⟨by decide, by decide⟩ rfl rfl (by decide) (hS.k t_x0) (Nat.le_of_ble_eq_true rfl) (kc_X11_honestNode hG hS t_x0 ok.1) (fun tv_2 => ?_)
  have ok := ok.2
  refine c_astore_4Q dX11_sector_5 (by decide) rfl ?_
  refine c_aloadQ dX11_sector_7 rfl ?_
  refine c_ifnullI (tgt := 28) dX11_sector_9 (by decide) (fun c_9 => ?_) (fun c_9 => ?_)
  · have ok := ok.1 c_9
    have hx := xif_p c_9 hx
    exact cX.cutz (kb_X11_sector_28 hG hR hS  ok hx) trivial
  · have ok := ok.2 c_9
    have hx := xif_n c_9 hx
    refine c_iload_n dX11_sector_12 rfl rfl ?_
    refine c_if_lt (tgt := 28) dX11_sector_13 (by decide) (fun c_13 => ?_) (fun c_13 => ?_)
    · have ok := ok.1 c_13
      have hx := xif_p c_13 hx
      exact cX.cutz (kb_X11_sector_28 hG hR hS  ok hx) trivial
    · have ok := ok.2 c_13
      have hx := xif_n c_13 hx
      refine c_aloadQ dX11_sector_16 rfl ?_
      refine c_getS (C := RX6) (T := TX6) (N := 19) (ci := 5) (k := 2) ⟨rfl, inT6, by decide, fX11_205⟩ (by decide) (by decide) (by decide) dX11_sector_18 (hS.kN tv_2 c_9) (hS.r (c := 5) (tN.o tv_2 c_9) rfl (by omega)) ?_
      refine c_iload_n dX11_sector_21 rfl rfl ?_
      refine c_V1iE (ci := 3) (rr := (RX4, TX4, 10)) (y' := mX4_canRead) dX11_sector_22 lX11_285 kX4_canRead ⟨by decide, by decide⟩ rfl rfl (by decide) (hS.k (o52 (tN.o tv_2 c_9))) (Nat.le_of_ble_eq_true rfl) (kc_X4_canRead hG hS (o52 (tN.o tv_2 c_9)) ok.1) ?_
      have ok := ok.2
      refine c_if_ne (tgt := 32) dX11_sector_25 (by decide) (fun c_25 => ?_) (fun c_25 => ?_)
      · have ok := ok.2 c_25
        have hx := xif_n c_25 hx
        refine c_aloadQ dX11_sector_32 rfl ?_
        refine c_getS (C := RX6) (T := TX6) (N := 19) (ci := 5) (k := 2) ⟨rfl, inT6, by decide, fX11_205⟩ (by decide) (by decide) (by decide) dX11_sector_34 (hS.kN tv_2 c_9) (hS.r (c := 5) (tN.o tv_2 c_9) rfl (by omega)) ?_
        refine c_getS (C := RX4) (T := TX4) (N := 10) (ci := 3) (k := 0) ⟨rfl, inT4, by decide, fX11_288⟩ (by decide) (by decide) (by decide) dX11_sector_37 (hS.k (o52 (tN.o tv_2 c_9))) (hS.r (c := 3) (o52 (tN.o tv_2 c_9)) rfl (by omega)) ?_
        refine c_iload_n dX11_sector_40 rfl rfl ?_
        have p_41 := hS.row26 (hS.rk (c := 3) (k := 0) (o52 (tN.o tv_2 c_9)) rfl (by omega)) x2.toNatClampNeg
        refine c_aald (t := 6) (ty := (.array .byte)) rfl rfl (by decide) dX11_sector_41 ⟨(tK.cis (hS.rk (c := 3) (k := 0) (o52 (tN.o tv_2 c_9)) rfl (by omega)) (Option.some_ne_none _)), (vk_cast (hS.rl (c := 3) (k := 0) (o52 (tN.o tv_2 c_9)) rfl (by decide) (by omega)) ok.1)⟩ ?_
        have ok := ok.2
        refine c_sipush (v := nI 512) dX11_sector_42 (by decide) ?_
        refine c_iload_n dX11_sector_45 rfl rfl ?_
        refine c_S3lE (y' := mX11_eight) dX11_sector_46 lX11_153 kX11_eight ⟨by decide, by decide⟩ (Nat.le_of_ble_eq_true rfl) (kc_X11_eight hG hS p_41 ok.1) ?_
        have ok := ok.2
        exact c_lreturn rfl dX11_sector_49 (hR _ hx)
      · have ok := ok.1 c_25
        have hx := xif_p c_25 hx
        exact cX.cutz (kb_X11_sector_28 hG hR hS  ok hx) trivial
def k_X11_sector (N g H T : Nat) (S : cS) (a0 : Nat) (x1 : Int32) (x2 : Int32) (x3 : Int32) : Int64 := KF_X11_sector_0 N g H T a0 x1 x2 x3 S
def p_X11_sector (N g H T : Nat) (S : cS) (a0 : Nat) (x1 : Int32) (x2 : Int32) (x3 : Int32) : Prop := KO_X11_sector_0 N g H T a0 x1 x2 x3 S
set_option maxRecDepth 100000 in
set_option maxHeartbeats 4000000 in
theorem kc_X11_sector {G : zG} {o : cO} {g H T N : Nat} {S : cS} (hG : zOK G) {a0 : Nat} {x1 : Int32} {x2 : Int32} {x3 : Int32} (hS : St 1 g H T S) (t_x0 : isO g H 9 a0) (ok : p_X11_sector N g H T S a0 x1 x2 x3) : cCl G o dX11_sector mX11_sector [.ref a0, .int x1, .int x2, .int x3] S (fun v S' => (v = k_X11_sector N g H T S a0 x1 x2 x3 ∧ S' = S)) := by
  refine cC.ofX rfl (by exact Nat.le_of_ble_eq_true rfl) ?_
  show cX G o dX11_sector mX11_sector 0 [some (va_rf (some a0)), some (.int x1), some (.int x2), some (.int x3), none] [] S _
  exact cX.cutz (kb_X11_sector_0 (X := fun F => F = k_X11_sector N g H T S a0 x1 x2 x3) hG (fun v h => ⟨v, rfl, h, rfl⟩) hS t_x0 ok rfl) ⟨rfl, rfl, rfl, rfl, trivial⟩

/-! X7_settle -/
def KF_X7_settle_139 (N g H T : Nat) (x0 : Option Nat) (S : cS) : cS := (k_X0_refresh N g H T S ((za x0) + 6) (g + 3) (g + 23))
def KO_X7_settle_139 (N g H T : Nat) (x0 : Option Nat) (S : cS) : Prop := (¬ x0 = none) ∧ (p_X0_refresh N g H T S ((za x0) + 6) (g + 3) (g + 23)) ∧ True
set_option maxRecDepth 100000 in
set_option maxHeartbeats 4000000 in
theorem kb_X7_settle_139 {G : zG} {o : cO} {u g H T N : Nat} {S : cS} {S0 : cS} {Q : Option Value → cS → Prop} {X : cS → Prop} (hG : zOK G) (hR : ∀ S', St u g H T S' → Mono S0 S' → X S' → Q none S') {x0 : Option Nat} (hS : St u g H T S) (hM : Mono S0 S) (t_x0 : tN g H x0) (ok : KO_X7_settle_139 N g H T x0 S) (hx : X (KF_X7_settle_139 N g H T x0 S)) : cX G o dX7_settle mX7_settle 139 [some (va_rf x0), none, none] [] S Q := by
  unfold KO_X7_settle_139 at ok
  unfold KF_X7_settle_139 at hx
  refine c_aload_nQ dX7_settle_139 rfl rfl ?_
  have nn_140 := ok.1
  refine c_getS (C := RX6) (T := TX6) (N := 19) (ci := 5) (k := 4) ⟨rfl, inT6, by decide, fX7_22⟩ (by decide) (by decide) (by decide) dX7_settle_140 (hS.kN t_x0 ok.1) (hS.r (c := 5) (tN.o t_x0 ok.1) rfl (by omega)) ?_
  have ok := ok.2
  refine c_aload_nQ dX7_settle_143 rfl rfl ?_
  refine c_getS (C := RX6) (T := TX6) (N := 19) (ci := 5) (k := 0) ⟨rfl, inT6, by decide, fX7_26⟩ (by decide) (by decide) (by decide) dX7_settle_144 (hS.kN t_x0 nn_140) (hS.r (c := 5) (tN.o t_x0 nn_140) rfl (by omega)) ?_
  refine c_getS (C := RX10) (T := TX10) (N := 12) (ci := 8) (k := 5) ⟨rfl, inT10, by decide, fX7_30⟩ (by decide) (by decide) (by decide) dX7_settle_147 (hS.k (o50 (tN.o t_x0 nn_140))) (hS.r (c := 8) (o50 (tN.o t_x0 nn_140)) rfl (by omega)) ?_
  refine c_aload_nQ dX7_settle_150 rfl rfl ?_
  refine c_getS (C := RX6) (T := TX6) (N := 19) (ci := 5) (k := 0) ⟨rfl, inT6, by decide, fX7_26⟩ (by decide) (by decide) (by decide) dX7_settle_151 (hS.kN t_x0 nn_140) (hS.r (c := 5) (tN.o t_x0 nn_140) rfl (by omega)) ?_
  refine c_getS (C := RX10) (T := TX10) (N := 12) (ci := 8) (k := 9) ⟨rfl, inT10, by decide, fX7_36⟩ (by decide) (by decide) (by decide) dX7_settle_154 (hS.k (o50 (tN.o t_x0 nn_140))) (hS.r (c := 8) (o50 (tN.o t_x0 nn_140)) rfl (by omega)) ?_
  refine c_V2vK (ci := 0) (rr := (RX0, TX0, 6)) (y' := mX0_refresh) dX7_settle_157 lX7_39 kX0_refresh ⟨by decide, by decide⟩ rfl rfl (by decide) (hS.k (o54 (tN.o t_x0 nn_140))) (Nat.le_of_ble_eq_true rfl) (kc_X0_refresh hG hS (o54 (tN.o t_x0 nn_140)) (o85 (o50 (tN.o t_x0 nn_140))) (o89 (o50 (tN.o t_x0 nn_140))) ok.1) (fun ⟨hS, hm_157⟩ => ?_)
  have hM := hM.trans hm_157
  have ok := ok.2
  exact c_return rfl dX7_settle_160 (hR _ hS hM hx)
def KF_X7_settle_133 (N g H T : Nat) (rec : Option Nat → Int32 → cS → Nat × Option Nat × cS) (x0 : Option Nat) (x1 : Int32) (S : cS) : Nat × Option Nat × cS := (rec x0 (x1 + nI 1) S)
def KO_X7_settle_133 (N g H T : Nat) (rok : Option Nat → Int32 → cS → Prop) (x0 : Option Nat) (x1 : Int32) (S : cS) : Prop := rok x0 (x1 + nI 1) S
set_option maxRecDepth 100000 in
set_option maxHeartbeats 4000000 in
theorem kb_X7_settle_133 {G : zG} {o : cO} {u g H T N : Nat} {S : cS} {S0 : cS} {Q : Option Value → cS → Prop} {X : Nat × Option Nat × cS → Prop} (hG : zOK G) (hX0 : ∀ (x0 : Option Nat) (S' : cS), St u g H T S' → Mono S0 S' → X (0, x0, S') → cX G o dX7_settle mX7_settle 132 [none, none, none] [] S' Q) (hX1 : ∀ (x0 : Option Nat) (S' : cS), St u g H T S' → Mono S0 S' → tN g H x0 → X (1, x0, S') → cX G o dX7_settle mX7_settle 139 [some (va_rf x0), none, none] [] S' Q) {rec : Option Nat → Int32 → cS → Nat × Option Nat × cS} {rok : Option Nat → Int32 → cS → Prop} (hrec : ∀ (x0 : Option Nat) (x1 : Int32) (S : cS), St u g H T S → Mono S0 S → tN g H x0 → rok x0 x1 S → X (rec x0 x1 S) → cX G o dX7_settle mX7_settle 2 [some (va_rf x0), some (.int x1), none] [] S Q) {x0 : Option Nat} {x1 : Int32} (hS : St u g H T S) (hM : Mono S0 S) (t_x0 : tN g H x0) (ok : KO_X7_settle_133 N g H T rok x0 x1 S) (hx : X (KF_X7_settle_133 N g H T rec x0 x1 S)) : cX G o dX7_settle mX7_settle 133 [some (va_rf x0), some (.int x1), none] [] S Q := by
  unfold KO_X7_settle_133 at ok
  unfold KF_X7_settle_133 at hx
  refine c_iinc_1 (v := (x1 + nI 1)) dX7_settle_133 rfl (by first | rfl | (congr 1)) (by decide) (by simp [zok, zg, zcat_rf]) ?_
  refine c_goto (tgt := 2) dX7_settle_136 (by decide) ?_
  exact cX.cutz (hrec _ _ S hS hM t_x0 ok hx) ⟨rfl, rfl, trivial⟩
def KF_X7_settle_132 (N g H T : Nat)  (S : cS) : cS := S
def KO_X7_settle_132 (N g H T : Nat)  (S : cS) : Prop := True
set_option maxRecDepth 100000 in
set_option maxHeartbeats 4000000 in
theorem kb_X7_settle_132 {G : zG} {o : cO} {u g H T N : Nat} {S : cS} {S0 : cS} {Q : Option Value → cS → Prop} {X : cS → Prop} (hG : zOK G) (hR : ∀ S', St u g H T S' → Mono S0 S' → X S' → Q none S') (hS : St u g H T S) (hM : Mono S0 S) (ok : KO_X7_settle_132 N g H T S) (hx : X (KF_X7_settle_132 N g H T S)) : cX G o dX7_settle mX7_settle 132 [none, none, none] [] S Q := by
  unfold KO_X7_settle_132 at ok
  unfold KF_X7_settle_132 at hx
  exact c_return rfl dX7_settle_132 (hR _ hS hM hx)
def KF_X7_settle_127 (N g H T : Nat) (rec : Option Nat → Int32 → cS → Nat × Option Nat × cS) (x0 : Option Nat) (x1 : Int32) (s0 : Int32) (S : cS) : Nat × Option Nat × cS := (if s0 = 0 then (0, none, S) else (KF_X7_settle_133 N g H T rec x0 x1 S))
def KO_X7_settle_127 (N g H T : Nat) (rok : Option Nat → Int32 → cS → Prop) (x0 : Option Nat) (x1 : Int32) (s0 : Int32) (S : cS) : Prop := ((s0 = 0 → True) ∧ (¬ s0 = 0 → KO_X7_settle_133 N g H T rok x0 x1 S))
set_option maxRecDepth 100000 in
set_option maxHeartbeats 4000000 in
theorem kb_X7_settle_127 {G : zG} {o : cO} {u g H T N : Nat} {S : cS} {S0 : cS} {Q : Option Value → cS → Prop} {X : Nat × Option Nat × cS → Prop} (hG : zOK G) (hX0 : ∀ (x0 : Option Nat) (S' : cS), St u g H T S' → Mono S0 S' → X (0, x0, S') → cX G o dX7_settle mX7_settle 132 [none, none, none] [] S' Q) (hX1 : ∀ (x0 : Option Nat) (S' : cS), St u g H T S' → Mono S0 S' → tN g H x0 → X (1, x0, S') → cX G o dX7_settle mX7_settle 139 [some (va_rf x0), none, none] [] S' Q) {rec : Option Nat → Int32 → cS → Nat × Option Nat × cS} {rok : Option Nat → Int32 → cS → Prop} (hrec : ∀ (x0 : Option Nat) (x1 : Int32) (S : cS), St u g H T S → Mono S0 S → tN g H x0 → rok x0 x1 S → X (rec x0 x1 S) → cX G o dX7_settle mX7_settle 2 [some (va_rf x0), some (.int x1), none] [] S Q) {x0 : Option Nat} {x1 : Int32} {s0 : Int32} (hS : St u g H T S) (hM : Mono S0 S) (t_x0 : tN g H x0) (ok : KO_X7_settle_127 N g H T rok x0 x1 s0 S) (hx : X (KF_X7_settle_127 N g H T rec x0 x1 s0 S)) : cX G o dX7_settle mX7_settle 127 [some (va_rf x0), some (.int x1), none] [.int s0] S Q := by
  unfold KO_X7_settle_127 at ok
  unfold KF_X7_settle_127 at hx
  refine c_istore_2 dX7_settle_127 (by decide) rfl ?_
  refine c_iload_n dX7_settle_128 rfl rfl ?_
  refine c_if_ne (tgt := 133) dX7_settle_129 (by decide) (fun c_129 => ?_) (fun c_129 => ?_)
  · have ok := ok.2 c_129
    have hx := xif_n c_129 hx
    exact cX.cutz (kb_X7_settle_133 hG hX0 hX1 hrec hS hM t_x0 ok hx) ⟨rfl, rfl, trivial⟩
  · have ok := ok.1 c_129
    have hx := xif_p c_129 hx
    exact cX.cutz (hX0 _ S hS hM  hx) trivial
def KF_X7_settle_122 (N g H T : Nat) (rec : Option Nat → Int32 → cS → Nat × Option Nat × cS) (x0 : Option Nat) (x1 : Int32) (S : cS) : Nat × Option Nat × cS := (KF_X7_settle_127 N g H T rec x0 x1 (nI 1) S)
def KO_X7_settle_122 (N g H T : Nat) (rok : Option Nat → Int32 → cS → Prop) (x0 : Option Nat) (x1 : Int32) (S : cS) : Prop := KO_X7_settle_127 N g H T rok x0 x1 (nI 1) S
set_option maxRecDepth 100000 in
set_option maxHeartbeats 4000000 in
theorem kb_X7_settle_122 {G : zG} {o : cO} {u g H T N : Nat} {S : cS} {S0 : cS} {Q : Option Value → cS → Prop} {X : Nat × Option Nat × cS → Prop} (hG : zOK G) (hX0 : ∀ (x0 : Option Nat) (S' : cS), St u g H T S' → Mono S0 S' → X (0, x0, S') → cX G o dX7_settle mX7_settle 132 [none, none, none] [] S' Q) (hX1 : ∀ (x0 : Option Nat) (S' : cS), St u g H T S' → Mono S0 S' → tN g H x0 → X (1, x0, S') → cX G o dX7_settle mX7_settle 139 [some (va_rf x0), none, none] [] S' Q) {rec : Option Nat → Int32 → cS → Nat × Option Nat × cS} {rok : Option Nat → Int32 → cS → Prop} (hrec : ∀ (x0 : Option Nat) (x1 : Int32) (S : cS), St u g H T S → Mono S0 S → tN g H x0 → rok x0 x1 S → X (rec x0 x1 S) → cX G o dX7_settle mX7_settle 2 [some (va_rf x0), some (.int x1), none] [] S Q) {x0 : Option Nat} {x1 : Int32} (hS : St u g H T S) (hM : Mono S0 S) (t_x0 : tN g H x0) (ok : KO_X7_settle_122 N g H T rok x0 x1 S) (hx : X (KF_X7_settle_122 N g H T rec x0 x1 S)) : cX G o dX7_settle mX7_settle 122 [some (va_rf x0), some (.int x1), none] [] S Q := by
  unfold KO_X7_settle_122 at ok
  unfold KF_X7_settle_122 at hx
  refine c_iconst (v := nI 1) dX7_settle_122 (by decide) ?_
  refine c_goto (tgt := 127) dX7_settle_123 (by decide) ?_
  exact cX.cutz (kb_X7_settle_127 hG hX0 hX1 hrec hS hM t_x0 ok hx) ⟨rfl, rfl, trivial⟩
def KF_X7_settle_119 (N g H T : Nat) (rec : Option Nat → Int32 → cS → Nat × Option Nat × cS) (x0 : Option Nat) (x1 : Int32) (s0 : Int32) (S : cS) : Nat × Option Nat × cS := (if s0 = 0 then (KF_X7_settle_127 N g H T rec x0 x1 (nI 0) S) else (KF_X7_settle_122 N g H T rec x0 x1 S))
def KO_X7_settle_119 (N g H T : Nat) (rok : Option Nat → Int32 → cS → Prop) (x0 : Option Nat) (x1 : Int32) (s0 : Int32) (S : cS) : Prop := ((s0 = 0 → KO_X7_settle_127 N g H T rok x0 x1 (nI 0) S) ∧ (¬ s0 = 0 → KO_X7_settle_122 N g H T rok x0 x1 S))
set_option maxRecDepth 100000 in
set_option maxHeartbeats 4000000 in
theorem kb_X7_settle_119 {G : zG} {o : cO} {u g H T N : Nat} {S : cS} {S0 : cS} {Q : Option Value → cS → Prop} {X : Nat × Option Nat × cS → Prop} (hG : zOK G) (hX0 : ∀ (x0 : Option Nat) (S' : cS), St u g H T S' → Mono S0 S' → X (0, x0, S') → cX G o dX7_settle mX7_settle 132 [none, none, none] [] S' Q) (hX1 : ∀ (x0 : Option Nat) (S' : cS), St u g H T S' → Mono S0 S' → tN g H x0 → X (1, x0, S') → cX G o dX7_settle mX7_settle 139 [some (va_rf x0), none, none] [] S' Q) {rec : Option Nat → Int32 → cS → Nat × Option Nat × cS} {rok : Option Nat → Int32 → cS → Prop} (hrec : ∀ (x0 : Option Nat) (x1 : Int32) (S : cS), St u g H T S → Mono S0 S → tN g H x0 → rok x0 x1 S → X (rec x0 x1 S) → cX G o dX7_settle mX7_settle 2 [some (va_rf x0), some (.int x1), none] [] S Q) {x0 : Option Nat} {x1 : Int32} {s0 : Int32} (hS : St u g H T S) (hM : Mono S0 S) (t_x0 : tN g H x0) (ok : KO_X7_settle_119 N g H T rok x0 x1 s0 S) (hx : X (KF_X7_settle_119 N g H T rec x0 x1 s0 S)) : cX G o dX7_settle mX7_settle 119 [some (va_rf x0), some (.int x1), none] [.int s0] S Q := by
  unfold KO_X7_settle_119 at ok
  unfold KF_X7_settle_119 at hx
  refine c_if_eq (tgt := 126) dX7_settle_119 (by decide) (fun c_119 => ?_) (fun c_119 => ?_)
  · have ok := ok.1 c_119
    have hx := xif_p c_119 hx
    refine c_iconst (v := nI 0) dX7_settle_126 (by decide) ?_
    exact cX.cutz (kb_X7_settle_127 hG hX0 hX1 hrec hS hM t_x0 ok hx) ⟨rfl, rfl, trivial⟩
  · have ok := ok.2 c_119
    have hx := xif_n c_119 hx
    exact cX.cutz (kb_X7_settle_122 hG hX0 hX1 hrec hS hM t_x0 ok hx) ⟨rfl, rfl, trivial⟩
def KF_X7_settle_112 (N g H T : Nat) (rec : Option Nat → Int32 → cS → Nat × Option Nat × cS) (x0 : Option Nat) (x1 : Int32) (s0 : Int32) (S : cS) : Nat × Option Nat × cS := (if s0 = 0 then (KF_X7_settle_119 N g H T rec x0 x1 ((k_X7_awaitsPrecommits N g H T S x0).1) (k_X7_awaitsPrecommits N g H T S x0).2) else (KF_X7_settle_122 N g H T rec x0 x1 S))
def KO_X7_settle_112 (N g H T : Nat) (rok : Option Nat → Int32 → cS → Prop) (x0 : Option Nat) (x1 : Int32) (s0 : Int32) (S : cS) : Prop := ((s0 = 0 → (p_X7_awaitsPrecommits N g H T S x0) ∧ KO_X7_settle_119 N g H T rok x0 x1 ((k_X7_awaitsPrecommits N g H T S x0).1) (k_X7_awaitsPrecommits N g H T S x0).2) ∧ (¬ s0 = 0 → KO_X7_settle_122 N g H T rok x0 x1 S))
set_option maxRecDepth 100000 in
set_option maxHeartbeats 4000000 in
theorem kb_X7_settle_112 {G : zG} {o : cO} {u g H T N : Nat} {S : cS} {S0 : cS} {Q : Option Value → cS → Prop} {X : Nat × Option Nat × cS → Prop} (hG : zOK G) (hX0 : ∀ (x0 : Option Nat) (S' : cS), St u g H T S' → Mono S0 S' → X (0, x0, S') → cX G o dX7_settle mX7_settle 132 [none, none, none] [] S' Q) (hX1 : ∀ (x0 : Option Nat) (S' : cS), St u g H T S' → Mono S0 S' → tN g H x0 → X (1, x0, S') → cX G o dX7_settle mX7_settle 139 [some (va_rf x0), none, none] [] S' Q) {rec : Option Nat → Int32 → cS → Nat × Option Nat × cS} {rok : Option Nat → Int32 → cS → Prop} (hrec : ∀ (x0 : Option Nat) (x1 : Int32) (S : cS), St u g H T S → Mono S0 S → tN g H x0 → rok x0 x1 S → X (rec x0 x1 S) → cX G o dX7_settle mX7_settle 2 [some (va_rf x0), some (.int x1), none] [] S Q) {x0 : Option Nat} {x1 : Int32} {s0 : Int32} (hS : St u g H T S) (hM : Mono S0 S) (t_x0 : tN g H x0) (ok : KO_X7_settle_112 N g H T rok x0 x1 s0 S) (hx : X (KF_X7_settle_112 N g H T rec x0 x1 s0 S)) : cX G o dX7_settle mX7_settle 112 [some (va_rf x0), some (.int x1), none] [.int s0] S Q := by
  unfold KO_X7_settle_112 at ok
  unfold KF_X7_settle_112 at hx
  refine c_if_ne (tgt := 122) dX7_settle_112 (by decide) (fun c_112 => ?_) (fun c_112 => ?_)
  · have ok := ok.2 c_112
    have hx := xif_n c_112 hx
    exact cX.cutz (kb_X7_settle_122 hG hX0 hX1 hrec hS hM t_x0 ok hx) ⟨rfl, rfl, trivial⟩
  · have ok := ok.1 c_112
    have hx := xif_p c_112 hx
    refine c_aload_nQ dX7_settle_115 rfl rfl ?_
    refine c_S1iK (y' := mX7_awaitsPrecommits) dX7_settle_116 lX7_77 kX7_awaitsPrecommits ⟨by decide, by decide⟩ (Nat.le_of_ble_eq_true rfl) (kc_X7_awaitsPrecommits hG hS t_x0 ok.1) (fun ⟨hS, hm_116⟩ => ?_)
    have hM := hM.trans hm_116
    have ok := ok.2
    exact cX.cutz (kb_X7_settle_119 hG hX0 hX1 hrec hS hM t_x0 ok hx) ⟨rfl, rfl, trivial⟩
def KF_X7_settle_105 (N g H T : Nat) (rec : Option Nat → Int32 → cS → Nat × Option Nat × cS) (x0 : Option Nat) (x1 : Int32) (s0 : Int32) (S : cS) : Nat × Option Nat × cS := (if s0 = 0 then (KF_X7_settle_112 N g H T rec x0 x1 ((k_X7_awaitsPrevotes N g H T S x0).1) (k_X7_awaitsPrevotes N g H T S x0).2) else (KF_X7_settle_122 N g H T rec x0 x1 S))
def KO_X7_settle_105 (N g H T : Nat) (rok : Option Nat → Int32 → cS → Prop) (x0 : Option Nat) (x1 : Int32) (s0 : Int32) (S : cS) : Prop := ((s0 = 0 → (p_X7_awaitsPrevotes N g H T S x0) ∧ KO_X7_settle_112 N g H T rok x0 x1 ((k_X7_awaitsPrevotes N g H T S x0).1) (k_X7_awaitsPrevotes N g H T S x0).2) ∧ (¬ s0 = 0 → KO_X7_settle_122 N g H T rok x0 x1 S))
set_option maxRecDepth 100000 in
set_option maxHeartbeats 4000000 in
theorem kb_X7_settle_105 {G : zG} {o : cO} {u g H T N : Nat} {S : cS} {S0 : cS} {Q : Option Value → cS → Prop} {X : Nat × Option Nat × cS → Prop} (hG : zOK G) (hX0 : ∀ (x0 : Option Nat) (S' : cS), St u g H T S' → Mono S0 S' → X (0, x0, S') → cX G o dX7_settle mX7_settle 132 [none, none, none] [] S' Q) (hX1 : ∀ (x0 : Option Nat) (S' : cS), St u g H T S' → Mono S0 S' → tN g H x0 → X (1, x0, S') → cX G o dX7_settle mX7_settle 139 [some (va_rf x0), none, none] [] S' Q) {rec : Option Nat → Int32 → cS → Nat × Option Nat × cS} {rok : Option Nat → Int32 → cS → Prop} (hrec : ∀ (x0 : Option Nat) (x1 : Int32) (S : cS), St u g H T S → Mono S0 S → tN g H x0 → rok x0 x1 S → X (rec x0 x1 S) → cX G o dX7_settle mX7_settle 2 [some (va_rf x0), some (.int x1), none] [] S Q) {x0 : Option Nat} {x1 : Int32} {s0 : Int32} (hS : St u g H T S) (hM : Mono S0 S) (t_x0 : tN g H x0) (ok : KO_X7_settle_105 N g H T rok x0 x1 s0 S) (hx : X (KF_X7_settle_105 N g H T rec x0 x1 s0 S)) : cX G o dX7_settle mX7_settle 105 [some (va_rf x0), some (.int x1), none] [.int s0] S Q := by
  unfold KO_X7_settle_105 at ok
  unfold KF_X7_settle_105 at hx
  refine c_if_ne (tgt := 122) dX7_settle_105 (by decide) (fun c_105 => ?_) (fun c_105 => ?_)
  · have ok := ok.2 c_105
    have hx := xif_n c_105 hx
    exact cX.cutz (kb_X7_settle_122 hG hX0 hX1 hrec hS hM t_x0 ok hx) ⟨rfl, rfl, trivial⟩
  · have ok := ok.1 c_105
    have hx := xif_p c_105 hx
    refine c_aload_nQ dX7_settle_108 rfl rfl ?_
    refine c_S1iK (y' := mX7_awaitsPrevotes) dX7_settle_109 lX7_74 kX7_awaitsPrevotes ⟨by decide, by decide⟩ (Nat.le_of_ble_eq_true rfl) (kc_X7_awaitsPrevotes hG hS t_x0 ok.1) (fun ⟨hS, hm_109⟩ => ?_)
    have hM := hM.trans hm_109
    have ok := ok.2
    exact cX.cutz (kb_X7_settle_112 hG hX0 hX1 hrec hS hM t_x0 ok hx) ⟨rfl, rfl, trivial⟩
def KF_X7_settle_98 (N g H T : Nat) (rec : Option Nat → Int32 → cS → Nat × Option Nat × cS) (x0 : Option Nat) (x1 : Int32) (s0 : Int32) (S : cS) : Nat × Option Nat × cS := (if s0 = 0 then (KF_X7_settle_105 N g H T rec x0 x1 ((k_X7_precommitsNone N g H T S x0).1) (k_X7_precommitsNone N g H T S x0).2) else (KF_X7_settle_122 N g H T rec x0 x1 S))
def KO_X7_settle_98 (N g H T : Nat) (rok : Option Nat → Int32 → cS → Prop) (x0 : Option Nat) (x1 : Int32) (s0 : Int32) (S : cS) : Prop := ((s0 = 0 → (p_X7_precommitsNone N g H T S x0) ∧ KO_X7_settle_105 N g H T rok x0 x1 ((k_X7_precommitsNone N g H T S x0).1) (k_X7_precommitsNone N g H T S x0).2) ∧ (¬ s0 = 0 → KO_X7_settle_122 N g H T rok x0 x1 S))
set_option maxRecDepth 100000 in
set_option maxHeartbeats 4000000 in
theorem kb_X7_settle_98 {G : zG} {o : cO} {u g H T N : Nat} {S : cS} {S0 : cS} {Q : Option Value → cS → Prop} {X : Nat × Option Nat × cS → Prop} (hG : zOK G) (hX0 : ∀ (x0 : Option Nat) (S' : cS), St u g H T S' → Mono S0 S' → X (0, x0, S') → cX G o dX7_settle mX7_settle 132 [none, none, none] [] S' Q) (hX1 : ∀ (x0 : Option Nat) (S' : cS), St u g H T S' → Mono S0 S' → tN g H x0 → X (1, x0, S') → cX G o dX7_settle mX7_settle 139 [some (va_rf x0), none, none] [] S' Q) {rec : Option Nat → Int32 → cS → Nat × Option Nat × cS} {rok : Option Nat → Int32 → cS → Prop} (hrec : ∀ (x0 : Option Nat) (x1 : Int32) (S : cS), St u g H T S → Mono S0 S → tN g H x0 → rok x0 x1 S → X (rec x0 x1 S) → cX G o dX7_settle mX7_settle 2 [some (va_rf x0), some (.int x1), none] [] S Q) {x0 : Option Nat} {x1 : Int32} {s0 : Int32} (hS : St u g H T S) (hM : Mono S0 S) (t_x0 : tN g H x0) (ok : KO_X7_settle_98 N g H T rok x0 x1 s0 S) (hx : X (KF_X7_settle_98 N g H T rec x0 x1 s0 S)) : cX G o dX7_settle mX7_settle 98 [some (va_rf x0), some (.int x1), none] [.int s0] S Q := by
  unfold KO_X7_settle_98 at ok
  unfold KF_X7_settle_98 at hx
  refine c_if_ne (tgt := 122) dX7_settle_98 (by decide) (fun c_98 => ?_) (fun c_98 => ?_)
  · have ok := ok.2 c_98
    have hx := xif_n c_98 hx
    exact cX.cutz (kb_X7_settle_122 hG hX0 hX1 hrec hS hM t_x0 ok hx) ⟨rfl, rfl, trivial⟩
  · have ok := ok.1 c_98
    have hx := xif_p c_98 hx
    refine c_aload_nQ dX7_settle_101 rfl rfl ?_
    refine c_S1iK (y' := mX7_precommitsNone) dX7_settle_102 lX7_71 kX7_precommitsNone ⟨by decide, by decide⟩ (Nat.le_of_ble_eq_true rfl) (kc_X7_precommitsNone hG hS t_x0 ok.1) (fun ⟨hS, hm_102⟩ => ?_)
    have hM := hM.trans hm_102
    have ok := ok.2
    exact cX.cutz (kb_X7_settle_105 hG hX0 hX1 hrec hS hM t_x0 ok hx) ⟨rfl, rfl, trivial⟩
def KF_X7_settle_91 (N g H T : Nat) (rec : Option Nat → Int32 → cS → Nat × Option Nat × cS) (x0 : Option Nat) (x1 : Int32) (s0 : Int32) (S : cS) : Nat × Option Nat × cS := (if s0 = 0 then (KF_X7_settle_98 N g H T rec x0 x1 ((k_X7_locks N g H T S x0).1) (k_X7_locks N g H T S x0).2) else (KF_X7_settle_122 N g H T rec x0 x1 S))
def KO_X7_settle_91 (N g H T : Nat) (rok : Option Nat → Int32 → cS → Prop) (x0 : Option Nat) (x1 : Int32) (s0 : Int32) (S : cS) : Prop := ((s0 = 0 → (p_X7_locks N g H T S x0) ∧ KO_X7_settle_98 N g H T rok x0 x1 ((k_X7_locks N g H T S x0).1) (k_X7_locks N g H T S x0).2) ∧ (¬ s0 = 0 → KO_X7_settle_122 N g H T rok x0 x1 S))
set_option maxRecDepth 100000 in
set_option maxHeartbeats 4000000 in
theorem kb_X7_settle_91 {G : zG} {o : cO} {u g H T N : Nat} {S : cS} {S0 : cS} {Q : Option Value → cS → Prop} {X : Nat × Option Nat × cS → Prop} (hG : zOK G) (hX0 : ∀ (x0 : Option Nat) (S' : cS), St u g H T S' → Mono S0 S' → X (0, x0, S') → cX G o dX7_settle mX7_settle 132 [none, none, none] [] S' Q) (hX1 : ∀ (x0 : Option Nat) (S' : cS), St u g H T S' → Mono S0 S' → tN g H x0 → X (1, x0, S') → cX G o dX7_settle mX7_settle 139 [some (va_rf x0), none, none] [] S' Q) {rec : Option Nat → Int32 → cS → Nat × Option Nat × cS} {rok : Option Nat → Int32 → cS → Prop} (hrec : ∀ (x0 : Option Nat) (x1 : Int32) (S : cS), St u g H T S → Mono S0 S → tN g H x0 → rok x0 x1 S → X (rec x0 x1 S) → cX G o dX7_settle mX7_settle 2 [some (va_rf x0), some (.int x1), none] [] S Q) {x0 : Option Nat} {x1 : Int32} {s0 : Int32} (hS : St u g H T S) (hM : Mono S0 S) (t_x0 : tN g H x0) (ok : KO_X7_settle_91 N g H T rok x0 x1 s0 S) (hx : X (KF_X7_settle_91 N g H T rec x0 x1 s0 S)) : cX G o dX7_settle mX7_settle 91 [some (va_rf x0), some (.int x1), none] [.int s0] S Q := by
  unfold KO_X7_settle_91 at ok
  unfold KF_X7_settle_91 at hx
  refine c_if_ne (tgt := 122) dX7_settle_91 (by decide) (fun c_91 => ?_) (fun c_91 => ?_)
  · have ok := ok.2 c_91
    have hx := xif_n c_91 hx
    exact cX.cutz (kb_X7_settle_122 hG hX0 hX1 hrec hS hM t_x0 ok hx) ⟨rfl, rfl, trivial⟩
  · have ok := ok.1 c_91
    have hx := xif_p c_91 hx
    refine c_aload_nQ dX7_settle_94 rfl rfl ?_
    refine c_S1iK (y' := mX7_locks) dX7_settle_95 lX7_68 kX7_locks ⟨by decide, by decide⟩ (Nat.le_of_ble_eq_true rfl) (kc_X7_locks hG hS t_x0 ok.1) (fun ⟨hS, hm_95⟩ => ?_)
    have hM := hM.trans hm_95
    have ok := ok.2
    exact cX.cutz (kb_X7_settle_98 hG hX0 hX1 hrec hS hM t_x0 ok hx) ⟨rfl, rfl, trivial⟩
def KF_X7_settle_84 (N g H T : Nat) (rec : Option Nat → Int32 → cS → Nat × Option Nat × cS) (x0 : Option Nat) (x1 : Int32) (s0 : Int32) (S : cS) : Nat × Option Nat × cS := (if s0 = 0 then (KF_X7_settle_91 N g H T rec x0 x1 ((k_X7_prevotesOld N g H T S x0).1) (k_X7_prevotesOld N g H T S x0).2) else (KF_X7_settle_122 N g H T rec x0 x1 S))
def KO_X7_settle_84 (N g H T : Nat) (rok : Option Nat → Int32 → cS → Prop) (x0 : Option Nat) (x1 : Int32) (s0 : Int32) (S : cS) : Prop := ((s0 = 0 → (p_X7_prevotesOld N g H T S x0) ∧ KO_X7_settle_91 N g H T rok x0 x1 ((k_X7_prevotesOld N g H T S x0).1) (k_X7_prevotesOld N g H T S x0).2) ∧ (¬ s0 = 0 → KO_X7_settle_122 N g H T rok x0 x1 S))
set_option maxRecDepth 100000 in
set_option maxHeartbeats 4000000 in
theorem kb_X7_settle_84 {G : zG} {o : cO} {u g H T N : Nat} {S : cS} {S0 : cS} {Q : Option Value → cS → Prop} {X : Nat × Option Nat × cS → Prop} (hG : zOK G) (hX0 : ∀ (x0 : Option Nat) (S' : cS), St u g H T S' → Mono S0 S' → X (0, x0, S') → cX G o dX7_settle mX7_settle 132 [none, none, none] [] S' Q) (hX1 : ∀ (x0 : Option Nat) (S' : cS), St u g H T S' → Mono S0 S' → tN g H x0 → X (1, x0, S') → cX G o dX7_settle mX7_settle 139 [some (va_rf x0), none, none] [] S' Q) {rec : Option Nat → Int32 → cS → Nat × Option Nat × cS} {rok : Option Nat → Int32 → cS → Prop} (hrec : ∀ (x0 : Option Nat) (x1 : Int32) (S : cS), St u g H T S → Mono S0 S → tN g H x0 → rok x0 x1 S → X (rec x0 x1 S) → cX G o dX7_settle mX7_settle 2 [some (va_rf x0), some (.int x1), none] [] S Q) {x0 : Option Nat} {x1 : Int32} {s0 : Int32} (hS : St u g H T S) (hM : Mono S0 S) (t_x0 : tN g H x0) (ok : KO_X7_settle_84 N g H T rok x0 x1 s0 S) (hx : X (KF_X7_settle_84 N g H T rec x0 x1 s0 S)) : cX G o dX7_settle mX7_settle 84 [some (va_rf x0), some (.int x1), none] [.int s0] S Q := by
  unfold KO_X7_settle_84 at ok
  unfold KF_X7_settle_84 at hx
  refine c_if_ne (tgt := 122) dX7_settle_84 (by decide) (fun c_84 => ?_) (fun c_84 => ?_)
  · have ok := ok.2 c_84
    have hx := xif_n c_84 hx
    exact cX.cutz (kb_X7_settle_122 hG hX0 hX1 hrec hS hM t_x0 ok hx) ⟨rfl, rfl, trivial⟩
  · have ok := ok.1 c_84
    have hx := xif_p c_84 hx
    refine c_aload_nQ dX7_settle_87 rfl rfl ?_
    refine c_S1iK (y' := mX7_prevotesOld) dX7_settle_88 lX7_65 kX7_prevotesOld ⟨by decide, by decide⟩ (Nat.le_of_ble_eq_true rfl) (kc_X7_prevotesOld hG hS t_x0 ok.1) (fun ⟨hS, hm_88⟩ => ?_)
    have hM := hM.trans hm_88
    have ok := ok.2
    exact cX.cutz (kb_X7_settle_91 hG hX0 hX1 hrec hS hM t_x0 ok hx) ⟨rfl, rfl, trivial⟩
def KF_X7_settle_77 (N g H T : Nat) (rec : Option Nat → Int32 → cS → Nat × Option Nat × cS) (x0 : Option Nat) (x1 : Int32) (s0 : Int32) (S : cS) : Nat × Option Nat × cS := (if s0 = 0 then (KF_X7_settle_84 N g H T rec x0 x1 ((k_X7_prevotesNew N g H T S x0).1) (k_X7_prevotesNew N g H T S x0).2) else (KF_X7_settle_122 N g H T rec x0 x1 S))
def KO_X7_settle_77 (N g H T : Nat) (rok : Option Nat → Int32 → cS → Prop) (x0 : Option Nat) (x1 : Int32) (s0 : Int32) (S : cS) : Prop := ((s0 = 0 → (p_X7_prevotesNew N g H T S x0) ∧ KO_X7_settle_84 N g H T rok x0 x1 ((k_X7_prevotesNew N g H T S x0).1) (k_X7_prevotesNew N g H T S x0).2) ∧ (¬ s0 = 0 → KO_X7_settle_122 N g H T rok x0 x1 S))
set_option maxRecDepth 100000 in
set_option maxHeartbeats 4000000 in
theorem kb_X7_settle_77 {G : zG} {o : cO} {u g H T N : Nat} {S : cS} {S0 : cS} {Q : Option Value → cS → Prop} {X : Nat × Option Nat × cS → Prop} (hG : zOK G) (hX0 : ∀ (x0 : Option Nat) (S' : cS), St u g H T S' → Mono S0 S' → X (0, x0, S') → cX G o dX7_settle mX7_settle 132 [none, none, none] [] S' Q) (hX1 : ∀ (x0 : Option Nat) (S' : cS), St u g H T S' → Mono S0 S' → tN g H x0 → X (1, x0, S') → cX G o dX7_settle mX7_settle 139 [some (va_rf x0), none, none] [] S' Q) {rec : Option Nat → Int32 → cS → Nat × Option Nat × cS} {rok : Option Nat → Int32 → cS → Prop} (hrec : ∀ (x0 : Option Nat) (x1 : Int32) (S : cS), St u g H T S → Mono S0 S → tN g H x0 → rok x0 x1 S → X (rec x0 x1 S) → cX G o dX7_settle mX7_settle 2 [some (va_rf x0), some (.int x1), none] [] S Q) {x0 : Option Nat} {x1 : Int32} {s0 : Int32} (hS : St u g H T S) (hM : Mono S0 S) (t_x0 : tN g H x0) (ok : KO_X7_settle_77 N g H T rok x0 x1 s0 S) (hx : X (KF_X7_settle_77 N g H T rec x0 x1 s0 S)) : cX G o dX7_settle mX7_settle 77 [some (va_rf x0), some (.int x1), none] [.int s0] S Q := by
  unfold KO_X7_settle_77 at ok
  unfold KF_X7_settle_77 at hx
  refine c_if_ne (tgt := 122) dX7_settle_77 (by decide) (fun c_77 => ?_) (fun c_77 => ?_)
  · have ok := ok.2 c_77
    have hx := xif_n c_77 hx
    exact cX.cutz (kb_X7_settle_122 hG hX0 hX1 hrec hS hM t_x0 ok hx) ⟨rfl, rfl, trivial⟩
  · have ok := ok.1 c_77
    have hx := xif_p c_77 hx
    refine c_aload_nQ dX7_settle_80 rfl rfl ?_
    refine c_S1iK (y' := mX7_prevotesNew) dX7_settle_81 lX7_62 kX7_prevotesNew ⟨by decide, by decide⟩ (Nat.le_of_ble_eq_true rfl) (kc_X7_prevotesNew hG hS t_x0 ok.1) (fun ⟨hS, hm_81⟩ => ?_)
    have hM := hM.trans hm_81
    have ok := ok.2
    exact cX.cutz (kb_X7_settle_84 hG hX0 hX1 hrec hS hM t_x0 ok hx) ⟨rfl, rfl, trivial⟩
def KF_X7_settle_70 (N g H T : Nat) (rec : Option Nat → Int32 → cS → Nat × Option Nat × cS) (x0 : Option Nat) (x1 : Int32) (s0 : Int32) (S : cS) : Nat × Option Nat × cS := (if s0 = 0 then (KF_X7_settle_77 N g H T rec x0 x1 ((k_X7_skips N g H T S x0).1) (k_X7_skips N g H T S x0).2) else (KF_X7_settle_122 N g H T rec x0 x1 S))
def KO_X7_settle_70 (N g H T : Nat) (rok : Option Nat → Int32 → cS → Prop) (x0 : Option Nat) (x1 : Int32) (s0 : Int32) (S : cS) : Prop := ((s0 = 0 → (p_X7_skips N g H T S x0) ∧ KO_X7_settle_77 N g H T rok x0 x1 ((k_X7_skips N g H T S x0).1) (k_X7_skips N g H T S x0).2) ∧ (¬ s0 = 0 → KO_X7_settle_122 N g H T rok x0 x1 S))
set_option maxRecDepth 100000 in
set_option maxHeartbeats 4000000 in
theorem kb_X7_settle_70 {G : zG} {o : cO} {u g H T N : Nat} {S : cS} {S0 : cS} {Q : Option Value → cS → Prop} {X : Nat × Option Nat × cS → Prop} (hG : zOK G) (hX0 : ∀ (x0 : Option Nat) (S' : cS), St u g H T S' → Mono S0 S' → X (0, x0, S') → cX G o dX7_settle mX7_settle 132 [none, none, none] [] S' Q) (hX1 : ∀ (x0 : Option Nat) (S' : cS), St u g H T S' → Mono S0 S' → tN g H x0 → X (1, x0, S') → cX G o dX7_settle mX7_settle 139 [some (va_rf x0), none, none] [] S' Q) {rec : Option Nat → Int32 → cS → Nat × Option Nat × cS} {rok : Option Nat → Int32 → cS → Prop} (hrec : ∀ (x0 : Option Nat) (x1 : Int32) (S : cS), St u g H T S → Mono S0 S → tN g H x0 → rok x0 x1 S → X (rec x0 x1 S) → cX G o dX7_settle mX7_settle 2 [some (va_rf x0), some (.int x1), none] [] S Q) {x0 : Option Nat} {x1 : Int32} {s0 : Int32} (hS : St u g H T S) (hM : Mono S0 S) (t_x0 : tN g H x0) (ok : KO_X7_settle_70 N g H T rok x0 x1 s0 S) (hx : X (KF_X7_settle_70 N g H T rec x0 x1 s0 S)) : cX G o dX7_settle mX7_settle 70 [some (va_rf x0), some (.int x1), none] [.int s0] S Q := by
  unfold KO_X7_settle_70 at ok
  unfold KF_X7_settle_70 at hx
  refine c_if_ne (tgt := 122) dX7_settle_70 (by decide) (fun c_70 => ?_) (fun c_70 => ?_)
  · have ok := ok.2 c_70
    have hx := xif_n c_70 hx
    exact cX.cutz (kb_X7_settle_122 hG hX0 hX1 hrec hS hM t_x0 ok hx) ⟨rfl, rfl, trivial⟩
  · have ok := ok.1 c_70
    have hx := xif_p c_70 hx
    refine c_aload_nQ dX7_settle_73 rfl rfl ?_
    refine c_S1iK (y' := mX7_skips) dX7_settle_74 lX7_59 kX7_skips ⟨by decide, by decide⟩ (Nat.le_of_ble_eq_true rfl) (kc_X7_skips hG hS t_x0 ok.1) (fun ⟨hS, hm_74⟩ => ?_)
    have hM := hM.trans hm_74
    have ok := ok.2
    exact cX.cutz (kb_X7_settle_77 hG hX0 hX1 hrec hS hM t_x0 ok hx) ⟨rfl, rfl, trivial⟩
def KF_X7_settle_63 (N g H T : Nat) (rec : Option Nat → Int32 → cS → Nat × Option Nat × cS) (x0 : Option Nat) (x1 : Int32) (s0 : Int32) (S : cS) : Nat × Option Nat × cS := (if s0 = 0 then (KF_X7_settle_70 N g H T rec x0 x1 ((k_X7_decides N g H T S x0).1) (k_X7_decides N g H T S x0).2) else (KF_X7_settle_122 N g H T rec x0 x1 S))
def KO_X7_settle_63 (N g H T : Nat) (rok : Option Nat → Int32 → cS → Prop) (x0 : Option Nat) (x1 : Int32) (s0 : Int32) (S : cS) : Prop := ((s0 = 0 → (p_X7_decides N g H T S x0) ∧ KO_X7_settle_70 N g H T rok x0 x1 ((k_X7_decides N g H T S x0).1) (k_X7_decides N g H T S x0).2) ∧ (¬ s0 = 0 → KO_X7_settle_122 N g H T rok x0 x1 S))
set_option maxRecDepth 100000 in
set_option maxHeartbeats 4000000 in
theorem kb_X7_settle_63 {G : zG} {o : cO} {u g H T N : Nat} {S : cS} {S0 : cS} {Q : Option Value → cS → Prop} {X : Nat × Option Nat × cS → Prop} (hG : zOK G) (hX0 : ∀ (x0 : Option Nat) (S' : cS), St u g H T S' → Mono S0 S' → X (0, x0, S') → cX G o dX7_settle mX7_settle 132 [none, none, none] [] S' Q) (hX1 : ∀ (x0 : Option Nat) (S' : cS), St u g H T S' → Mono S0 S' → tN g H x0 → X (1, x0, S') → cX G o dX7_settle mX7_settle 139 [some (va_rf x0), none, none] [] S' Q) {rec : Option Nat → Int32 → cS → Nat × Option Nat × cS} {rok : Option Nat → Int32 → cS → Prop} (hrec : ∀ (x0 : Option Nat) (x1 : Int32) (S : cS), St u g H T S → Mono S0 S → tN g H x0 → rok x0 x1 S → X (rec x0 x1 S) → cX G o dX7_settle mX7_settle 2 [some (va_rf x0), some (.int x1), none] [] S Q) {x0 : Option Nat} {x1 : Int32} {s0 : Int32} (hS : St u g H T S) (hM : Mono S0 S) (t_x0 : tN g H x0) (ok : KO_X7_settle_63 N g H T rok x0 x1 s0 S) (hx : X (KF_X7_settle_63 N g H T rec x0 x1 s0 S)) : cX G o dX7_settle mX7_settle 63 [some (va_rf x0), some (.int x1), none] [.int s0] S Q := by
  unfold KO_X7_settle_63 at ok
  unfold KF_X7_settle_63 at hx
  refine c_if_ne (tgt := 122) dX7_settle_63 (by decide) (fun c_63 => ?_) (fun c_63 => ?_)
  · have ok := ok.2 c_63
    have hx := xif_n c_63 hx
    exact cX.cutz (kb_X7_settle_122 hG hX0 hX1 hrec hS hM t_x0 ok hx) ⟨rfl, rfl, trivial⟩
  · have ok := ok.1 c_63
    have hx := xif_p c_63 hx
    refine c_aload_nQ dX7_settle_66 rfl rfl ?_
    refine c_S1iK (y' := mX7_decides) dX7_settle_67 lX7_56 kX7_decides ⟨by decide, by decide⟩ (Nat.le_of_ble_eq_true rfl) (kc_X7_decides hG hS t_x0 ok.1) (fun ⟨hS, hm_67⟩ => ?_)
    have hM := hM.trans hm_67
    have ok := ok.2
    exact cX.cutz (kb_X7_settle_70 hG hX0 hX1 hrec hS hM t_x0 ok hx) ⟨rfl, rfl, trivial⟩
def KF_X7_settle_56 (N g H T : Nat) (rec : Option Nat → Int32 → cS → Nat × Option Nat × cS) (x0 : Option Nat) (x1 : Int32) (S : cS) : Nat × Option Nat × cS := (KF_X7_settle_133 N g H T rec x0 x1 S)
def KO_X7_settle_56 (N g H T : Nat) (rok : Option Nat → Int32 → cS → Prop) (x0 : Option Nat) (x1 : Int32) (S : cS) : Prop := KO_X7_settle_133 N g H T rok x0 x1 S
set_option maxRecDepth 100000 in
set_option maxHeartbeats 4000000 in
theorem kb_X7_settle_56 {G : zG} {o : cO} {u g H T N : Nat} {S : cS} {S0 : cS} {Q : Option Value → cS → Prop} {X : Nat × Option Nat × cS → Prop} (hG : zOK G) (hX0 : ∀ (x0 : Option Nat) (S' : cS), St u g H T S' → Mono S0 S' → X (0, x0, S') → cX G o dX7_settle mX7_settle 132 [none, none, none] [] S' Q) (hX1 : ∀ (x0 : Option Nat) (S' : cS), St u g H T S' → Mono S0 S' → tN g H x0 → X (1, x0, S') → cX G o dX7_settle mX7_settle 139 [some (va_rf x0), none, none] [] S' Q) {rec : Option Nat → Int32 → cS → Nat × Option Nat × cS} {rok : Option Nat → Int32 → cS → Prop} (hrec : ∀ (x0 : Option Nat) (x1 : Int32) (S : cS), St u g H T S → Mono S0 S → tN g H x0 → rok x0 x1 S → X (rec x0 x1 S) → cX G o dX7_settle mX7_settle 2 [some (va_rf x0), some (.int x1), none] [] S Q) {x0 : Option Nat} {x1 : Int32} (hS : St u g H T S) (hM : Mono S0 S) (t_x0 : tN g H x0) (ok : KO_X7_settle_56 N g H T rok x0 x1 S) (hx : X (KF_X7_settle_56 N g H T rec x0 x1 S)) : cX G o dX7_settle mX7_settle 56 [some (va_rf x0), some (.int x1), none] [] S Q := by
  unfold KO_X7_settle_56 at ok
  unfold KF_X7_settle_56 at hx
  refine c_goto (tgt := 133) dX7_settle_56 (by decide) ?_
  exact cX.cutz (kb_X7_settle_133 hG hX0 hX1 hrec hS hM t_x0 ok hx) ⟨rfl, rfl, trivial⟩
def KF_X7_settle_45 (N g H T : Nat) (rec : Option Nat → Int32 → cS → Nat × Option Nat × cS) (x0 : Option Nat) (x1 : Int32) (S : cS) : Nat × Option Nat × cS := (if (cI S 18 (za x0)) < 0 then (KF_X7_settle_63 N g H T rec x0 x1 ((k_X7_takes N g H T S x0).1) (k_X7_takes N g H T S x0).2) else (KF_X7_settle_56 N g H T rec x0 x1 (k_X7_begin N g H T S x0)))
def KO_X7_settle_45 (N g H T : Nat) (rok : Option Nat → Int32 → cS → Prop) (x0 : Option Nat) (x1 : Int32) (S : cS) : Prop := (¬ x0 = none) ∧ (((cI S 18 (za x0)) < 0 → (p_X7_takes N g H T S x0) ∧ KO_X7_settle_63 N g H T rok x0 x1 ((k_X7_takes N g H T S x0).1) (k_X7_takes N g H T S x0).2) ∧ (¬ (cI S 18 (za x0)) < 0 → (p_X7_begin N g H T S x0) ∧ KO_X7_settle_56 N g H T rok x0 x1 (k_X7_begin N g H T S x0)))
set_option maxRecDepth 100000 in
set_option maxHeartbeats 4000000 in
theorem kb_X7_settle_45 {G : zG} {o : cO} {u g H T N : Nat} {S : cS} {S0 : cS} {Q : Option Value → cS → Prop} {X : Nat × Option Nat × cS → Prop} (hG : zOK G) (hX0 : ∀ (x0 : Option Nat) (S' : cS), St u g H T S' → Mono S0 S' → X (0, x0, S') → cX G o dX7_settle mX7_settle 132 [none, none, none] [] S' Q) (hX1 : ∀ (x0 : Option Nat) (S' : cS), St u g H T S' → Mono S0 S' → tN g H x0 → X (1, x0, S') → cX G o dX7_settle mX7_settle 139 [some (va_rf x0), none, none] [] S' Q) {rec : Option Nat → Int32 → cS → Nat × Option Nat × cS} {rok : Option Nat → Int32 → cS → Prop} (hrec : ∀ (x0 : Option Nat) (x1 : Int32) (S : cS), St u g H T S → Mono S0 S → tN g H x0 → rok x0 x1 S → X (rec x0 x1 S) → cX G o dX7_settle mX7_settle 2 [some (va_rf x0), some (.int x1), none] [] S Q) {x0 : Option Nat} {x1 : Int32} (hS : St u g H T S) (hM : Mono S0 S) (t_x0 : tN g H x0) (ok : KO_X7_settle_45 N g H T rok x0 x1 S) (hx : X (KF_X7_settle_45 N g H T rec x0 x1 S)) : cX G o dX7_settle mX7_settle 45 [some (va_rf x0), some (.int x1), none] [] S Q := by
  unfold KO_X7_settle_45 at ok
  unfold KF_X7_settle_45 at hx
  refine c_aload_nQ dX7_settle_45 rfl rfl ?_
  have nn_46 := ok.1
  refine c_getI (C := RX6) (T := TX6) (N := 19) (ci := 5) (k := 18) ⟨rfl, inT6, by decide, fX7_45⟩ (by decide) (by decide) (by decide) dX7_settle_46 (hS.kN t_x0 ok.1) ?_
  have ok := ok.2
  refine c_if_lt (tgt := 59) dX7_settle_49 (by decide) (fun c_49 => ?_) (fun c_49 => ?_)
  · have ok := ok.1 c_49
    have hx := xif_p c_49 hx
    refine c_aload_nQ dX7_settle_59 rfl rfl ?_
    refine c_S1iK (y' := mX7_takes) dX7_settle_60 lX7_52 kX7_takes ⟨by decide, by decide⟩ (Nat.le_of_ble_eq_true rfl) (kc_X7_takes hG hS t_x0 ok.1) (fun ⟨hS, hm_60⟩ => ?_)
    have hM := hM.trans hm_60
    have ok := ok.2
    exact cX.cutz (kb_X7_settle_63 hG hX0 hX1 hrec hS hM t_x0 ok hx) ⟨rfl, rfl, trivial⟩
  · have ok := ok.2 c_49
    have hx := xif_n c_49 hx
    refine c_aload_nQ dX7_settle_52 rfl rfl ?_
    refine c_S1vK (y' := mX7_begin) dX7_settle_53 lX7_48 kX7_begin ⟨by decide, by decide⟩ (Nat.le_of_ble_eq_true rfl) (kc_X7_begin hG hS t_x0 ok.1) (fun ⟨hS, hm_53⟩ => ?_)
    have hM := hM.trans hm_53
    have ok := ok.2
    exact cX.cutz (kb_X7_settle_56 hG hX0 hX1 hrec hS hM t_x0 ok hx) ⟨rfl, rfl, trivial⟩
def KB_X7_settle_2 (N g H T : Nat) (rec : Option Nat → Int32 → cS → Nat × Option Nat × cS) (x0 : Option Nat) (x1 : Int32) (S : cS) : Nat × Option Nat × cS := (if (1000000 : Int32) ≤ x1 then (1, x0, S) else (if (cI S 8 (za x0)) = 0 then (1, x0, S) else (if (nI 40) < (cI S 9 (za x0)) then (1, x0, S) else (KF_X7_settle_45 N g H T rec x0 x1 (k_X0_refresh N g H T S ((za x0) + 6) (g + 3) (g + 23))))))
def KOB_X7_settle_2 (N g H T : Nat) (rok : Option Nat → Int32 → cS → Prop) (x0 : Option Nat) (x1 : Int32) (S : cS) : Prop := (((1000000 : Int32) ≤ x1 → True) ∧ (¬ (1000000 : Int32) ≤ x1 → (¬ x0 = none) ∧ (((cI S 8 (za x0)) = 0 → True) ∧ (¬ (cI S 8 (za x0)) = 0 → (((nI 40) < (cI S 9 (za x0)) → True) ∧ (¬ (nI 40) < (cI S 9 (za x0)) → (p_X0_refresh N g H T S ((za x0) + 6) (g + 3) (g + 23)) ∧ KO_X7_settle_45 N g H T rok x0 x1 (k_X0_refresh N g H T S ((za x0) + 6) (g + 3) (g + 23))))))))
set_option maxRecDepth 100000 in
set_option maxHeartbeats 4000000 in
theorem kbb_X7_settle_2 {G : zG} {o : cO} {u g H T N : Nat} {S : cS} {S0 : cS} {Q : Option Value → cS → Prop} {X : Nat × Option Nat × cS → Prop} (hG : zOK G) (hX0 : ∀ (x0 : Option Nat) (S' : cS), St u g H T S' → Mono S0 S' → X (0, x0, S') → cX G o dX7_settle mX7_settle 132 [none, none, none] [] S' Q) (hX1 : ∀ (x0 : Option Nat) (S' : cS), St u g H T S' → Mono S0 S' → tN g H x0 → X (1, x0, S') → cX G o dX7_settle mX7_settle 139 [some (va_rf x0), none, none] [] S' Q) {rec : Option Nat → Int32 → cS → Nat × Option Nat × cS} {rok : Option Nat → Int32 → cS → Prop} (hrec : ∀ (x0 : Option Nat) (x1 : Int32) (S : cS), St u g H T S → Mono S0 S → tN g H x0 → rok x0 x1 S → X (rec x0 x1 S) → cX G o dX7_settle mX7_settle 2 [some (va_rf x0), some (.int x1), none] [] S Q) {x0 : Option Nat} {x1 : Int32} (hS : St u g H T S) (hM : Mono S0 S) (t_x0 : tN g H x0) (ok : KOB_X7_settle_2 N g H T rok x0 x1 S) (hx : X (KB_X7_settle_2 N g H T rec x0 x1 S)) : cX G o dX7_settle mX7_settle 2 [some (va_rf x0), some (.int x1), none] [] S Q := by
  unfold KOB_X7_settle_2 at ok
  unfold KB_X7_settle_2 at hx
  refine c_iload_n dX7_settle_2 rfl rfl ?_
  refine c_ldc dX7_settle_3 nX7_11 ?_
  refine c_icmp_ge (tgt := 139) dX7_settle_5 (by decide) (fun c_5 => ?_) (fun c_5 => ?_)
  · have ok := ok.1 c_5
    have hx := xif_p c_5 hx
    exact cX.cutz (hX1 _ S hS hM t_x0 hx) ⟨rfl, trivial⟩
  · have ok := ok.2 c_5
    have hx := xif_n c_5 hx
    refine c_aload_nQ dX7_settle_8 rfl rfl ?_
    have nn_9 := ok.1
    refine c_getI (C := RX6) (T := TX6) (N := 19) (ci := 5) (k := 8) ⟨rfl, inT6, by decide, fX7_12⟩ (by decide) (by decide) (by decide) dX7_settle_9 (hS.kN t_x0 ok.1) ?_
    have ok := ok.2
    refine c_if_eq (tgt := 139) dX7_settle_12 (by decide) (fun c_12 => ?_) (fun c_12 => ?_)
    · have ok := ok.1 c_12
      have hx := xif_p c_12 hx
      exact cX.cutz (hX1 _ S hS hM t_x0 hx) ⟨rfl, trivial⟩
    · have ok := ok.2 c_12
      have hx := xif_n c_12 hx
      refine c_aload_nQ dX7_settle_15 rfl rfl ?_
      refine c_getI (C := RX6) (T := TX6) (N := 19) (ci := 5) (k := 9) ⟨rfl, inT6, by decide, fX7_18⟩ (by decide) (by decide) (by decide) dX7_settle_16 (hS.kN t_x0 nn_9) ?_
      refine c_bipush (v := nI 40) dX7_settle_19 (by decide) ?_
      refine c_icmp_gt (tgt := 139) dX7_settle_21 (by decide) (fun c_21 => ?_) (fun c_21 => ?_)
      · have ok := ok.1 c_21
        have hx := xif_p c_21 hx
        exact cX.cutz (hX1 _ S hS hM t_x0 hx) ⟨rfl, trivial⟩
      · have ok := ok.2 c_21
        have hx := xif_n c_21 hx
        refine c_aload_nQ dX7_settle_24 rfl rfl ?_
        refine c_getS (C := RX6) (T := TX6) (N := 19) (ci := 5) (k := 4) ⟨rfl, inT6, by decide, fX7_22⟩ (by decide) (by decide) (by decide) dX7_settle_25 (hS.kN t_x0 nn_9) (hS.r (c := 5) (tN.o t_x0 nn_9) rfl (by omega)) ?_
        refine c_aload_nQ dX7_settle_28 rfl rfl ?_
        refine c_getS (C := RX6) (T := TX6) (N := 19) (ci := 5) (k := 0) ⟨rfl, inT6, by decide, fX7_26⟩ (by decide) (by decide) (by decide) dX7_settle_29 (hS.kN t_x0 nn_9) (hS.r (c := 5) (tN.o t_x0 nn_9) rfl (by omega)) ?_
        refine c_getS (C := RX10) (T := TX10) (N := 12) (ci := 8) (k := 5) ⟨rfl, inT10, by decide, fX7_30⟩ (by decide) (by decide) (by decide) dX7_settle_32 (hS.k (o50 (tN.o t_x0 nn_9))) (hS.r (c := 8) (o50 (tN.o t_x0 nn_9)) rfl (by omega)) ?_
        refine c_aload_nQ dX7_settle_35 rfl rfl ?_
        refine c_getS (C := RX6) (T := TX6) (N := 19) (ci := 5) (k := 0) ⟨rfl, inT6, by decide, fX7_26⟩ (by decide) (by decide) (by decide) dX7_settle_36 (hS.kN t_x0 nn_9) (hS.r (c := 5) (tN.o t_x0 nn_9) rfl (by omega)) ?_
        refine c_getS (C := RX10) (T := TX10) (N := 12) (ci := 8) (k := 9) ⟨rfl, inT10, by decide, fX7_36⟩ (by decide) (by decide) (by decide) dX7_settle_39 (hS.k (o50 (tN.o t_x0 nn_9))) (hS.r (c := 8) (o50 (tN.o t_x0 nn_9)) rfl (by omega)) ?_
        refine c_V2vK (ci := 0) (rr := (RX0, TX0, 6)) (y' := mX0_refresh) dX7_settle_42 lX7_39 kX0_refresh ⟨by decide, by decide⟩ rfl rfl (by decide) (hS.k (o54 (tN.o t_x0 nn_9))) (Nat.le_of_ble_eq_true rfl) (kc_X0_refresh hG hS (o54 (tN.o t_x0 nn_9)) (o85 (o50 (tN.o t_x0 nn_9))) (o89 (o50 (tN.o t_x0 nn_9))) ok.1) (fun ⟨hS, hm_42⟩ => ?_)
        have hM := hM.trans hm_42
        have ok := ok.2
        exact cX.cutz (kb_X7_settle_45 hG hX0 hX1 hrec hS hM t_x0 ok hx) ⟨rfl, rfl, trivial⟩
def KL_X7_settle_2 (N g H T : Nat) : Nat → Option Nat → Int32 → cS → Nat × Option Nat × cS
  | 0, x0, x1, S => (0, none, S)
  | n + 1, x0, x1, S => KB_X7_settle_2 N g H T (KL_X7_settle_2 N g H T n) x0 x1 S
def KOL_X7_settle_2 (N g H T : Nat) : Nat → Option Nat → Int32 → cS → Prop
  | 0, _, _, _ => False
  | n + 1, x0, x1, S => KOB_X7_settle_2 N g H T (KOL_X7_settle_2 N g H T n) x0 x1 S
set_option maxRecDepth 100000 in
set_option maxHeartbeats 4000000 in
theorem kl_X7_settle_2 {G : zG} {o : cO} {u g H T N : Nat} {S0 : cS} {Q : Option Value → cS → Prop} {X : Nat × Option Nat × cS → Prop} (hG : zOK G) (hX0 : ∀ (x0 : Option Nat) (S' : cS), St u g H T S' → Mono S0 S' → X (0, x0, S') → cX G o dX7_settle mX7_settle 132 [none, none, none] [] S' Q) (hX1 : ∀ (x0 : Option Nat) (S' : cS), St u g H T S' → Mono S0 S' → tN g H x0 → X (1, x0, S') → cX G o dX7_settle mX7_settle 139 [some (va_rf x0), none, none] [] S' Q) : ∀ (n : Nat) (x0 : Option Nat) (x1 : Int32) (S : cS), St u g H T S → Mono S0 S → tN g H x0 → KOL_X7_settle_2 N g H T n x0 x1 S → X (KL_X7_settle_2 N g H T n x0 x1 S) → cX G o dX7_settle mX7_settle 2 [some (va_rf x0), some (.int x1), none] [] S Q := by
  intro n
  induction n with
  | zero => intro x0 x1 S hS hM t_x0 ok; exact absurd ok id
  | succ n ih =>
    intro x0 x1 S hS hM t_x0 ok hx
    exact kbb_X7_settle_2 hG hX0 hX1 (rec := KL_X7_settle_2 N g H T n) (rok := KOL_X7_settle_2 N g H T n) (fun x0 x1 S hS hM t_x0 ok hx => ih x0 x1 S hS hM t_x0 ok hx) hS hM t_x0 ok hx
def KA_X7_settle_2 (N g H T : Nat) (x0 : Option Nat) (x1 : Int32) (S : cS) (z : Nat × Option Nat × cS) : cS := (if z.1 = 0 then (KF_X7_settle_132 N g H T z.2.2) else (KF_X7_settle_139 N g H T (z.2.1) z.2.2))
def KOA_X7_settle_2 (N g H T : Nat) (x0 : Option Nat) (x1 : Int32) (S : cS) (z : Nat × Option Nat × cS) : Prop := (if z.1 = 0 then KO_X7_settle_132 N g H T z.2.2 else KO_X7_settle_139 N g H T (z.2.1) z.2.2)
set_option maxRecDepth 100000 in
set_option maxHeartbeats 4000000 in
theorem kd_X7_settle_2 {G : zG} {o : cO} {u g H T N : Nat} {S : cS} {S0 : cS} {Q : Option Value → cS → Prop} {X : cS → Prop} (hG : zOK G) (hR : ∀ S', St u g H T S' → Mono S0 S' → X S' → Q none S') {x0 : Option Nat} {x1 : Int32} (hS : St u g H T S) (hM : Mono S0 S) (t_x0 : tN g H x0) (ok : KOL_X7_settle_2 N g H T N x0 x1 S ∧ KOA_X7_settle_2 N g H T x0 x1 S (KL_X7_settle_2 N g H T N x0 x1 S)) (hx : X (KA_X7_settle_2 N g H T x0 x1 S (KL_X7_settle_2 N g H T N x0 x1 S))) : cX G o dX7_settle mX7_settle 2 [some (va_rf x0), some (.int x1), none] [] S Q := by
  refine kl_X7_settle_2 hG ?_ ?_ N x0 x1 S hS hM t_x0 ok.1 (X := fun z => KOA_X7_settle_2 N g H T x0 x1 S z ∧ X (KA_X7_settle_2 N g H T x0 x1 S z)) ⟨ok.2, hx⟩
  · intro x0' S' hS hM hz
    obtain ⟨ok, hx⟩ := hz
    unfold KOA_X7_settle_2 at ok
    unfold KA_X7_settle_2 at hx
    have ok := xif_P (show (0 : Nat) = 0 from rfl) ok
    have hx := xif_p (show (0 : Nat) = 0 from rfl) hx
    exact cX.cutz (kb_X7_settle_132 hG hR hS hM  ok hx) trivial
  · intro x0' S' hS hM t_x0 hz
    obtain ⟨ok, hx⟩ := hz
    unfold KOA_X7_settle_2 at ok
    unfold KA_X7_settle_2 at hx
    have ok := xif_N (show ¬ (1 : Nat) = 0 by decide) ok
    have hx := xif_n (show ¬ (1 : Nat) = 0 by decide) hx
    exact cX.cutz (kb_X7_settle_139 hG hR hS hM t_x0 ok hx) ⟨rfl, trivial⟩
def KF_X7_settle_0 (N g H T : Nat) (x0 : Option Nat) (S : cS) : cS := (KA_X7_settle_2 N g H T x0 (nI 0) S (KL_X7_settle_2 N g H T N x0 (nI 0) S))
def KO_X7_settle_0 (N g H T : Nat) (x0 : Option Nat) (S : cS) : Prop := (KOL_X7_settle_2 N g H T N x0 (nI 0) S ∧ KOA_X7_settle_2 N g H T x0 (nI 0) S (KL_X7_settle_2 N g H T N x0 (nI 0) S))
set_option maxRecDepth 100000 in
set_option maxHeartbeats 4000000 in
theorem kb_X7_settle_0 {G : zG} {o : cO} {u g H T N : Nat} {S : cS} {S0 : cS} {Q : Option Value → cS → Prop} {X : cS → Prop} (hG : zOK G) (hR : ∀ S', St u g H T S' → Mono S0 S' → X S' → Q none S') {x0 : Option Nat} (hS : St u g H T S) (hM : Mono S0 S) (t_x0 : tN g H x0) (ok : KO_X7_settle_0 N g H T x0 S) (hx : X (KF_X7_settle_0 N g H T x0 S)) : cX G o dX7_settle mX7_settle 0 [some (va_rf x0), none, none] [] S Q := by
  unfold KO_X7_settle_0 at ok
  unfold KF_X7_settle_0 at hx
  refine c_iconst (v := nI 0) dX7_settle_0 (by decide) ?_
  refine c_istore_1 dX7_settle_1 (by decide) (by simp [zok, zg, zcat_rf]) ?_
  exact cX.cutz (kd_X7_settle_2 hG hR hS hM t_x0 ok hx) ⟨rfl, rfl, trivial⟩
def k_X7_settle (N g H T : Nat) (S : cS) (x0 : Option Nat) : cS := KF_X7_settle_0 N g H T x0 S
def p_X7_settle (N g H T : Nat) (S : cS) (x0 : Option Nat) : Prop := KO_X7_settle_0 N g H T x0 S
set_option maxRecDepth 100000 in
set_option maxHeartbeats 4000000 in
theorem kc_X7_settle {G : zG} {o : cO} {u g H T N : Nat} {S : cS} (hG : zOK G) {x0 : Option Nat} (hS : St u g H T S) (t_x0 : tN g H x0) (ok : p_X7_settle N g H T S x0) : cCv G o dX7_settle mX7_settle [va_rf x0] S (fun S' => S' = k_X7_settle N g H T S x0 ∧ St u g H T S' ∧ Mono S S') := by
  refine cC.ofX rfl (by cases x0 <;> exact Nat.le_of_ble_eq_true rfl) ?_
  rw [show zargs mX7_settle.2.2.1 [va_rf x0] = [some (va_rf x0), none, none] from by cases x0 <;> rfl]
  exact cX.cutz (kb_X7_settle_0 (X := fun F => F = k_X7_settle N g H T S x0) hG (fun S' h1 h2 h => ⟨rfl, h, h1, h2⟩) hS Mono.rfl' t_x0 ok rfl) ⟨rfl, trivial⟩
/-! X7_ring -/
def KF_X7_ring_76 (N g H T : Nat)  (S : cS) : cS := S
def KO_X7_ring_76 (N g H T : Nat)  (S : cS) : Prop := True
set_option maxRecDepth 100000 in
set_option maxHeartbeats 4000000 in
theorem kb_X7_ring_76 {G : zG} {o : cO} {u g H T N : Nat} {S : cS} {S0 : cS} {Q : Option Value → cS → Prop} {X : cS → Prop} (hG : zOK G) (hR : ∀ S', St u g H T S' → Mono S0 S' → X S' → Q none S') (hS : St u g H T S) (hM : Mono S0 S) (ok : KO_X7_ring_76 N g H T S) (hx : X (KF_X7_ring_76 N g H T S)) : cX G o dX7_ring mX7_ring 76 [none, none] [] S Q := by
  unfold KO_X7_ring_76 at ok
  unfold KF_X7_ring_76 at hx
  exact c_return rfl dX7_ring_76 (hR _ hS hM hx)
def KF_X7_ring_52 (N g H T : Nat) (x0 : Option Nat) (x1 : Int32) (S : cS) : cS := (if x1 = (nI 2) then (if (nI 15) ≤ (cI S 10 (za x0)) then (KF_X7_ring_76 N g H T S) else (KF_X7_ring_76 N g H T (csI S 18 (za x0) ((cI S 10 (za x0)) + (nI 1))))) else (KF_X7_ring_76 N g H T S))
def KO_X7_ring_52 (N g H T : Nat) (x0 : Option Nat) (x1 : Int32) (S : cS) : Prop := ((x1 = (nI 2) → (¬ x0 = none) ∧ (((nI 15) ≤ (cI S 10 (za x0)) → KO_X7_ring_76 N g H T S) ∧ (¬ (nI 15) ≤ (cI S 10 (za x0)) → KO_X7_ring_76 N g H T (csI S 18 (za x0) ((cI S 10 (za x0)) + (nI 1)))))) ∧ (¬ x1 = (nI 2) → KO_X7_ring_76 N g H T S))
set_option maxRecDepth 100000 in
set_option maxHeartbeats 4000000 in
theorem kb_X7_ring_52 {G : zG} {o : cO} {u g H T N : Nat} {S : cS} {S0 : cS} {Q : Option Value → cS → Prop} {X : cS → Prop} (hG : zOK G) (hR : ∀ S', St u g H T S' → Mono S0 S' → X S' → Q none S') {x0 : Option Nat} {x1 : Int32} (hS : St u g H T S) (hM : Mono S0 S) (t_x0 : tN g H x0) (ok : KO_X7_ring_52 N g H T x0 x1 S) (hx : X (KF_X7_ring_52 N g H T x0 x1 S)) : cX G o dX7_ring mX7_ring 52 [some (va_rf x0), some (.int x1)] [] S Q := by
  unfold KO_X7_ring_52 at ok
  unfold KF_X7_ring_52 at hx
  refine c_iload_n dX7_ring_52 rfl rfl ?_
  refine c_iconst (v := nI 2) dX7_ring_53 (by decide) ?_
  refine c_icmp_ne (tgt := 76) dX7_ring_54 (by decide) (fun c_54 => ?_) (fun c_54 => ?_)
  · have ok := ok.2 c_54
    have hx := xif_n c_54 hx
    exact cX.cutz (kb_X7_ring_76 hG hR hS hM  ok hx) trivial
  · have ok := ok.1 c_54
    have hx := xif_p c_54 hx
    refine c_aload_nQ dX7_ring_57 rfl rfl ?_
    have nn_58 := ok.1
    refine c_getI (C := RX6) (T := TX6) (N := 19) (ci := 5) (k := 10) ⟨rfl, inT6, by decide, fX7_213⟩ (by decide) (by decide) (by decide) dX7_ring_58 (hS.kN t_x0 ok.1) ?_
    have ok := ok.2
    refine c_bipush (v := nI 15) dX7_ring_61 (by decide) ?_
    refine c_icmp_ge (tgt := 76) dX7_ring_63 (by decide) (fun c_63 => ?_) (fun c_63 => ?_)
    · have ok := ok.1 c_63
      have hx := xif_p c_63 hx
      exact cX.cutz (kb_X7_ring_76 hG hR hS hM  ok hx) trivial
    · have ok := ok.2 c_63
      have hx := xif_n c_63 hx
      refine c_aload_nQ dX7_ring_66 rfl rfl ?_
      refine c_aload_nQ dX7_ring_67 rfl rfl ?_
      refine c_getI (C := RX6) (T := TX6) (N := 19) (ci := 5) (k := 10) ⟨rfl, inT6, by decide, fX7_213⟩ (by decide) (by decide) (by decide) dX7_ring_68 (hS.kN t_x0 nn_58) ?_
      refine c_iconst (v := nI 1) dX7_ring_71 (by decide) ?_
      refine c_iadd dX7_ring_72 ?_
      refine c_putI (C := RX6) (T := TX6) (N := 19) (ci := 5) (k := 18) ⟨rfl, inT6, by decide, fX7_45⟩ ftT6 rfl (by decide) (by decide) (by decide) rfl rfl dX7_ring_73 (hS.kN t_x0 nn_58) ?_
      have hS := hS.I 18 (za x0) ((cI S 10 (za x0)) + (nI 1))
      have hM := hM.I 18 (za x0) ((cI S 10 (za x0)) + (nI 1))
      exact cX.cutz (kb_X7_ring_76 hG hR hS hM  ok hx) trivial
def KF_X7_ring_49 (N g H T : Nat)  (S : cS) : cS := (KF_X7_ring_76 N g H T S)
def KO_X7_ring_49 (N g H T : Nat)  (S : cS) : Prop := KO_X7_ring_76 N g H T S
set_option maxRecDepth 100000 in
set_option maxHeartbeats 4000000 in
theorem kb_X7_ring_49 {G : zG} {o : cO} {u g H T N : Nat} {S : cS} {S0 : cS} {Q : Option Value → cS → Prop} {X : cS → Prop} (hG : zOK G) (hR : ∀ S', St u g H T S' → Mono S0 S' → X S' → Q none S') (hS : St u g H T S) (hM : Mono S0 S) (ok : KO_X7_ring_49 N g H T S) (hx : X (KF_X7_ring_49 N g H T S)) : cX G o dX7_ring mX7_ring 49 [none, none] [] S Q := by
  unfold KO_X7_ring_49 at ok
  unfold KF_X7_ring_49 at hx
  refine c_goto (tgt := 76) dX7_ring_49 (by decide) ?_
  exact cX.cutz (kb_X7_ring_76 hG hR hS hM  ok hx) trivial
def KF_X7_ring_45 (N g H T : Nat) (s0 : Option Nat) (s1 : Option Nat) (S : cS) : cS := (KF_X7_ring_49 N g H T (k_X7_utter N g H T S s0 s1 (nI 2)))
def KO_X7_ring_45 (N g H T : Nat) (s0 : Option Nat) (s1 : Option Nat) (S : cS) : Prop := (p_X7_utter N g H T S s0 s1 (nI 2)) ∧ KO_X7_ring_49 N g H T (k_X7_utter N g H T S s0 s1 (nI 2))
set_option maxRecDepth 100000 in
set_option maxHeartbeats 4000000 in
theorem kb_X7_ring_45 {G : zG} {o : cO} {u g H T N : Nat} {S : cS} {S0 : cS} {Q : Option Value → cS → Prop} {X : cS → Prop} (hG : zOK G) (hR : ∀ S', St u g H T S' → Mono S0 S' → X S' → Q none S') {s0 : Option Nat} {s1 : Option Nat} (hS : St u g H T S) (hM : Mono S0 S) (t_s0 : tN g H s0) (t_s1 : tK S 5 s1) (ok : KO_X7_ring_45 N g H T s0 s1 S) (hx : X (KF_X7_ring_45 N g H T s0 s1 S)) : cX G o dX7_ring mX7_ring 45 [none, none] [va_rf s1, va_rf s0] S Q := by
  unfold KO_X7_ring_45 at ok
  unfold KF_X7_ring_45 at hx
  refine c_iconst (v := nI 2) dX7_ring_45 (by decide) ?_
  refine c_S3vK (y' := mX7_utter) dX7_ring_46 lX7_234 kX7_utter ⟨by decide, by decide⟩ (Nat.le_of_ble_eq_true rfl) (kc_X7_utter hG hS t_s0 t_s1 ok.1) (fun ⟨hS, hm_46⟩ => ?_)
  have hM := hM.trans hm_46
  have ok := ok.2
  exact cX.cutz (kb_X7_ring_49 hG hR hS hM  ok hx) trivial
def KF_X7_ring_25 (N g H T : Nat) (x0 : Option Nat) (x1 : Int32) (S : cS) : cS := (if x1 = (nI 1) then (if (cI S 11 (za x0)) = (nI 1) then (KF_X7_ring_45 N g H T x0 ((k_X6_vote N g H T S (za x0) (nI 3) (none : Option Nat)).1) (k_X6_vote N g H T S (za x0) (nI 3) (none : Option Nat)).2) else (KF_X7_ring_52 N g H T x0 x1 S)) else (KF_X7_ring_52 N g H T x0 x1 S))
def KO_X7_ring_25 (N g H T : Nat) (x0 : Option Nat) (x1 : Int32) (S : cS) : Prop := ((x1 = (nI 1) → (¬ x0 = none) ∧ (((cI S 11 (za x0)) = (nI 1) → (p_X6_vote N g H T S (za x0) (nI 3) (none : Option Nat)) ∧ KO_X7_ring_45 N g H T x0 ((k_X6_vote N g H T S (za x0) (nI 3) (none : Option Nat)).1) (k_X6_vote N g H T S (za x0) (nI 3) (none : Option Nat)).2) ∧ (¬ (cI S 11 (za x0)) = (nI 1) → KO_X7_ring_52 N g H T x0 x1 S))) ∧ (¬ x1 = (nI 1) → KO_X7_ring_52 N g H T x0 x1 S))
set_option maxRecDepth 100000 in
set_option maxHeartbeats 4000000 in
theorem kb_X7_ring_25 {G : zG} {o : cO} {u g H T N : Nat} {S : cS} {S0 : cS} {Q : Option Value → cS → Prop} {X : cS → Prop} (hG : zOK G) (hR : ∀ S', St u g H T S' → Mono S0 S' → X S' → Q none S') {x0 : Option Nat} {x1 : Int32} (hS : St u g H T S) (hM : Mono S0 S) (t_x0 : tN g H x0) (ok : KO_X7_ring_25 N g H T x0 x1 S) (hx : X (KF_X7_ring_25 N g H T x0 x1 S)) : cX G o dX7_ring mX7_ring 25 [some (va_rf x0), some (.int x1)] [] S Q := by
  unfold KO_X7_ring_25 at ok
  unfold KF_X7_ring_25 at hx
  refine c_iload_n dX7_ring_25 rfl rfl ?_
  refine c_iconst (v := nI 1) dX7_ring_26 (by decide) ?_
  refine c_icmp_ne (tgt := 52) dX7_ring_27 (by decide) (fun c_27 => ?_) (fun c_27 => ?_)
  · have ok := ok.2 c_27
    have hx := xif_n c_27 hx
    exact cX.cutz (kb_X7_ring_52 hG hR hS hM t_x0 ok hx) ⟨rfl, rfl, trivial⟩
  · have ok := ok.1 c_27
    have hx := xif_p c_27 hx
    refine c_aload_nQ dX7_ring_30 rfl rfl ?_
    have nn_31 := ok.1
    refine c_getI (C := RX6) (T := TX6) (N := 19) (ci := 5) (k := 11) ⟨rfl, inT6, by decide, fX7_220⟩ (by decide) (by decide) (by decide) dX7_ring_31 (hS.kN t_x0 ok.1) ?_
    have ok := ok.2
    refine c_iconst (v := nI 1) dX7_ring_34 (by decide) ?_
    refine c_icmp_ne (tgt := 52) dX7_ring_35 (by decide) (fun c_35 => ?_) (fun c_35 => ?_)
    · have ok := ok.2 c_35
      have hx := xif_n c_35 hx
      exact cX.cutz (kb_X7_ring_52 hG hR hS hM t_x0 ok hx) ⟨rfl, rfl, trivial⟩
    · have ok := ok.1 c_35
      have hx := xif_p c_35 hx
      refine c_aload_nQ dX7_ring_38 rfl rfl ?_
      refine c_aload_nQ dX7_ring_39 rfl rfl ?_
      refine c_iconst (v := nI 3) dX7_ring_40 (by decide) ?_
      refine c_null' dX7_ring_41 ?_
      refine c_V2qK (ci := 5) (rr := (RX6, TX6, 19)) (y' := mX6_vote) dX7_ring_42 lX7_230 kX6_vote ⟨by decide, by decide⟩ rfl rfl (by decide) (hS.kN t_x0 nn_31) (by simp only [List.map_cons, List.map_nil, List.sum_cons, List.sum_nil, zcat_rf, zcat_i, zcat_l, zcat_r] <;> decide) (kc_X6_vote hG hS (tN.o t_x0 nn_31) tK_none ok.1) (fun ⟨hS, hm_42, tv_42⟩ => ?_)
      have hM := hM.trans hm_42
      have ok := ok.2
      exact cX.cutz (kb_X7_ring_45 hG hR hS hM t_x0 tv_42 ok hx) trivial
def KF_X7_ring_22 (N g H T : Nat)  (S : cS) : cS := (KF_X7_ring_76 N g H T S)
def KO_X7_ring_22 (N g H T : Nat)  (S : cS) : Prop := KO_X7_ring_76 N g H T S
set_option maxRecDepth 100000 in
set_option maxHeartbeats 4000000 in
theorem kb_X7_ring_22 {G : zG} {o : cO} {u g H T N : Nat} {S : cS} {S0 : cS} {Q : Option Value → cS → Prop} {X : cS → Prop} (hG : zOK G) (hR : ∀ S', St u g H T S' → Mono S0 S' → X S' → Q none S') (hS : St u g H T S) (hM : Mono S0 S) (ok : KO_X7_ring_22 N g H T S) (hx : X (KF_X7_ring_22 N g H T S)) : cX G o dX7_ring mX7_ring 22 [none, none] [] S Q := by
  unfold KO_X7_ring_22 at ok
  unfold KF_X7_ring_22 at hx
  refine c_goto (tgt := 76) dX7_ring_22 (by decide) ?_
  exact cX.cutz (kb_X7_ring_76 hG hR hS hM  ok hx) trivial
def KF_X7_ring_18 (N g H T : Nat) (s0 : Option Nat) (s1 : Option Nat) (S : cS) : cS := (KF_X7_ring_22 N g H T (k_X7_utter N g H T S s0 s1 (nI 1)))
def KO_X7_ring_18 (N g H T : Nat) (s0 : Option Nat) (s1 : Option Nat) (S : cS) : Prop := (p_X7_utter N g H T S s0 s1 (nI 1)) ∧ KO_X7_ring_22 N g H T (k_X7_utter N g H T S s0 s1 (nI 1))
set_option maxRecDepth 100000 in
set_option maxHeartbeats 4000000 in
theorem kb_X7_ring_18 {G : zG} {o : cO} {u g H T N : Nat} {S : cS} {S0 : cS} {Q : Option Value → cS → Prop} {X : cS → Prop} (hG : zOK G) (hR : ∀ S', St u g H T S' → Mono S0 S' → X S' → Q none S') {s0 : Option Nat} {s1 : Option Nat} (hS : St u g H T S) (hM : Mono S0 S) (t_s0 : tN g H s0) (t_s1 : tK S 5 s1) (ok : KO_X7_ring_18 N g H T s0 s1 S) (hx : X (KF_X7_ring_18 N g H T s0 s1 S)) : cX G o dX7_ring mX7_ring 18 [none, none] [va_rf s1, va_rf s0] S Q := by
  unfold KO_X7_ring_18 at ok
  unfold KF_X7_ring_18 at hx
  refine c_iconst (v := nI 1) dX7_ring_18 (by decide) ?_
  refine c_S3vK (y' := mX7_utter) dX7_ring_19 lX7_234 kX7_utter ⟨by decide, by decide⟩ (Nat.le_of_ble_eq_true rfl) (kc_X7_utter hG hS t_s0 t_s1 ok.1) (fun ⟨hS, hm_19⟩ => ?_)
  have hM := hM.trans hm_19
  have ok := ok.2
  exact cX.cutz (kb_X7_ring_22 hG hR hS hM  ok hx) trivial
def KF_X7_ring_0 (N g H T : Nat) (x0 : Option Nat) (x1 : Int32) (S : cS) : cS := (if x1 = 0 then (if (cI S 11 (za x0)) = 0 then (KF_X7_ring_18 N g H T x0 ((k_X6_vote N g H T S (za x0) (nI 2) (none : Option Nat)).1) (k_X6_vote N g H T S (za x0) (nI 2) (none : Option Nat)).2) else (KF_X7_ring_25 N g H T x0 x1 S)) else (KF_X7_ring_25 N g H T x0 x1 S))
def KO_X7_ring_0 (N g H T : Nat) (x0 : Option Nat) (x1 : Int32) (S : cS) : Prop := ((x1 = 0 → (¬ x0 = none) ∧ (((cI S 11 (za x0)) = 0 → (p_X6_vote N g H T S (za x0) (nI 2) (none : Option Nat)) ∧ KO_X7_ring_18 N g H T x0 ((k_X6_vote N g H T S (za x0) (nI 2) (none : Option Nat)).1) (k_X6_vote N g H T S (za x0) (nI 2) (none : Option Nat)).2) ∧ (¬ (cI S 11 (za x0)) = 0 → KO_X7_ring_25 N g H T x0 x1 S))) ∧ (¬ x1 = 0 → KO_X7_ring_25 N g H T x0 x1 S))
set_option maxRecDepth 100000 in
set_option maxHeartbeats 4000000 in
theorem kb_X7_ring_0 {G : zG} {o : cO} {u g H T N : Nat} {S : cS} {S0 : cS} {Q : Option Value → cS → Prop} {X : cS → Prop} (hG : zOK G) (hR : ∀ S', St u g H T S' → Mono S0 S' → X S' → Q none S') {x0 : Option Nat} {x1 : Int32} (hS : St u g H T S) (hM : Mono S0 S) (t_x0 : tN g H x0) (ok : KO_X7_ring_0 N g H T x0 x1 S) (hx : X (KF_X7_ring_0 N g H T x0 x1 S)) : cX G o dX7_ring mX7_ring 0 [some (va_rf x0), some (.int x1)] [] S Q := by
  unfold KO_X7_ring_0 at ok
  unfold KF_X7_ring_0 at hx
  refine c_iload_n dX7_ring_0 rfl rfl ?_
  refine c_if_ne (tgt := 25) dX7_ring_1 (by decide) (fun c_1 => ?_) (fun c_1 => ?_)
  · have ok := ok.2 c_1
    have hx := xif_n c_1 hx
    exact cX.cutz (kb_X7_ring_25 hG hR hS hM t_x0 ok hx) ⟨rfl, rfl, trivial⟩
  · have ok := ok.1 c_1
    have hx := xif_p c_1 hx
    refine c_aload_nQ dX7_ring_4 rfl rfl ?_
    have nn_5 := ok.1
    refine c_getI (C := RX6) (T := TX6) (N := 19) (ci := 5) (k := 11) ⟨rfl, inT6, by decide, fX7_220⟩ (by decide) (by decide) (by decide) dX7_ring_5 (hS.kN t_x0 ok.1) ?_
    have ok := ok.2
    refine c_if_ne (tgt := 25) dX7_ring_8 (by decide) (fun c_8 => ?_) (fun c_8 => ?_)
    · have ok := ok.2 c_8
      have hx := xif_n c_8 hx
      exact cX.cutz (kb_X7_ring_25 hG hR hS hM t_x0 ok hx) ⟨rfl, rfl, trivial⟩
    · have ok := ok.1 c_8
      have hx := xif_p c_8 hx
      refine c_aload_nQ dX7_ring_11 rfl rfl ?_
      refine c_aload_nQ dX7_ring_12 rfl rfl ?_
      refine c_iconst (v := nI 2) dX7_ring_13 (by decide) ?_
      refine c_null' dX7_ring_14 ?_
      refine c_V2qK (ci := 5) (rr := (RX6, TX6, 19)) (y' := mX6_vote) dX7_ring_15 lX7_230 kX6_vote ⟨by decide, by decide⟩ rfl rfl (by decide) (hS.kN t_x0 nn_5) (by simp only [List.map_cons, List.map_nil, List.sum_cons, List.sum_nil, zcat_rf, zcat_i, zcat_l, zcat_r] <;> decide) (kc_X6_vote hG hS (tN.o t_x0 nn_5) tK_none ok.1) (fun ⟨hS, hm_15, tv_15⟩ => ?_)
      have hM := hM.trans hm_15
      have ok := ok.2
      exact cX.cutz (kb_X7_ring_18 hG hR hS hM t_x0 tv_15 ok hx) trivial
def k_X7_ring (N g H T : Nat) (S : cS) (x0 : Option Nat) (x1 : Int32) : cS := KF_X7_ring_0 N g H T x0 x1 S
def p_X7_ring (N g H T : Nat) (S : cS) (x0 : Option Nat) (x1 : Int32) : Prop := KO_X7_ring_0 N g H T x0 x1 S
set_option maxRecDepth 100000 in
set_option maxHeartbeats 4000000 in
theorem kc_X7_ring {G : zG} {o : cO} {u g H T N : Nat} {S : cS} (hG : zOK G) {x0 : Option Nat} {x1 : Int32} (hS : St u g H T S) (t_x0 : tN g H x0) (ok : p_X7_ring N g H T S x0 x1) : cCv G o dX7_ring mX7_ring [va_rf x0, .int x1] S (fun S' => S' = k_X7_ring N g H T S x0 x1 ∧ St u g H T S' ∧ Mono S S') := by
  refine cC.ofX rfl (by cases x0 <;> exact Nat.le_of_ble_eq_true rfl) ?_
  rw [show zargs mX7_ring.2.2.1 [va_rf x0, .int x1] = [some (va_rf x0), some (.int x1)] from by cases x0 <;> rfl]
  exact cX.cutz (kb_X7_ring_0 (X := fun F => F = k_X7_ring N g H T S x0 x1) hG (fun S' h1 h2 h => ⟨rfl, h, h1, h2⟩) hS Mono.rfl' t_x0 ok rfl) ⟨rfl, rfl, trivial⟩
/-! X9_hasRoom -/
def KF_X9_hasRoom_15 (N g H T : Nat) (s0 : Int32) (S : cS) : Int32 := s0
def KO_X9_hasRoom_15 (N g H T : Nat) (s0 : Int32) (S : cS) : Prop := narrow .boolean (.int s0) = .int s0
set_option maxRecDepth 100000 in
set_option maxHeartbeats 4000000 in
theorem kb_X9_hasRoom_15 {G : zG} {o : cO} {u g H T N : Nat} {S : cS} {Q : Option Value → cS → Prop} {X : Int32 → Prop} (hG : zOK G) (hR : ∀ v, X v → Q (some (.int v)) S) {s0 : Int32} (hS : St u g H T S) (ok : KO_X9_hasRoom_15 N g H T s0 S) (hx : X (KF_X9_hasRoom_15 N g H T s0 S)) : cX G o dX9_hasRoom mX9_hasRoom 15 [none] [.int s0] S Q := by
  unfold KO_X9_hasRoom_15 at ok
  unfold KF_X9_hasRoom_15 at hx
  exact c_ireturn rfl ok dX9_hasRoom_15 (hR _ hx)
def KF_X9_hasRoom_0 (N g H T : Nat) (x0 : Nat) (S : cS) : Int32 := (if (nI 1000) ≤ (cI S 9 x0) then (KF_X9_hasRoom_15 N g H T (nI 0) S) else (KF_X9_hasRoom_15 N g H T (nI 1) S))
def KO_X9_hasRoom_0 (N g H T : Nat) (x0 : Nat) (S : cS) : Prop := (((nI 1000) ≤ (cI S 9 x0) → KO_X9_hasRoom_15 N g H T (nI 0) S) ∧ (¬ (nI 1000) ≤ (cI S 9 x0) → KO_X9_hasRoom_15 N g H T (nI 1) S))
set_option maxRecDepth 100000 in
set_option maxHeartbeats 4000000 in
theorem kb_X9_hasRoom_0 {G : zG} {o : cO} {u g H T N : Nat} {S : cS} {Q : Option Value → cS → Prop} {X : Int32 → Prop} (hG : zOK G) (hR : ∀ v, X v → Q (some (.int v)) S) {x0 : Nat} (hS : St u g H T S) (t_x0 : isO g H 7 x0) (ok : KO_X9_hasRoom_0 N g H T x0 S) (hx : X (KF_X9_hasRoom_0 N g H T x0 S)) : cX G o dX9_hasRoom mX9_hasRoom 0 [some (va_rf (some x0))] [] S Q := by
  unfold KO_X9_hasRoom_0 at ok
  unfold KF_X9_hasRoom_0 at hx
  refine c_aload_nQ dX9_hasRoom_0 rfl rfl ?_
  refine c_getI (C := RX9) (T := TX9) (N := 13) (ci := 7) (k := 9) ⟨rfl, inT9, by decide, fX9_33⟩ (by decide) (by decide) (by decide) dX9_hasRoom_1 (hS.k t_x0) ?_
  refine c_sipush (v := nI 1000) dX9_hasRoom_4 (by decide) ?_
  refine c_icmp_ge (tgt := 14) dX9_hasRoom_7 (by decide) (fun c_7 => ?_) (fun c_7 => ?_)
  · have ok := ok.1 c_7
    have hx := xif_p c_7 hx
    refine c_iconst (v := nI 0) dX9_hasRoom_14 (by decide) ?_
    exact cX.cutz (kb_X9_hasRoom_15 hG hR hS  ok hx) trivial
  · have ok := ok.2 c_7
    have hx := xif_n c_7 hx
    refine c_iconst (v := nI 1) dX9_hasRoom_10 (by decide) ?_
    refine c_goto (tgt := 15) dX9_hasRoom_11 (by decide) ?_
    exact cX.cutz (kb_X9_hasRoom_15 hG hR hS  ok hx) trivial
def k_X9_hasRoom (N g H T : Nat) (S : cS) (a0 : Nat) : Int32 := KF_X9_hasRoom_0 N g H T a0 S
def p_X9_hasRoom (N g H T : Nat) (S : cS) (a0 : Nat) : Prop := KO_X9_hasRoom_0 N g H T a0 S
set_option maxRecDepth 100000 in
set_option maxHeartbeats 4000000 in
theorem kc_X9_hasRoom {G : zG} {o : cO} {u g H T N : Nat} {S : cS} (hG : zOK G) {a0 : Nat} (hS : St u g H T S) (t_x0 : isO g H 7 a0) (ok : p_X9_hasRoom N g H T S a0) : cCi G o dX9_hasRoom mX9_hasRoom [.ref a0] S (fun v S' => (v = k_X9_hasRoom N g H T S a0 ∧ S' = S)) := by
  refine cC.ofX rfl (by exact Nat.le_of_ble_eq_true rfl) ?_
  show cX G o dX9_hasRoom mX9_hasRoom 0 [some (va_rf (some a0))] [] S _
  exact cX.cutz (kb_X9_hasRoom_0 (X := fun F => F = k_X9_hasRoom N g H T S a0) hG (fun v h => ⟨v, rfl, h, rfl⟩) hS t_x0 ok rfl) ⟨rfl, trivial⟩
/-! X9_slot -/
def KF_X9_slot_31 (N g H T : Nat) (s0 : Int32) (S : cS) : Int32 := s0
def KO_X9_slot_31 (N g H T : Nat) (s0 : Int32) (S : cS) : Prop := True
set_option maxRecDepth 100000 in
set_option maxHeartbeats 4000000 in
theorem kb_X9_slot_31 {G : zG} {o : cO} {u g H T N : Nat} {S : cS} {Q : Option Value → cS → Prop} {X : Int32 → Prop} (hG : zOK G) (hR : ∀ v, X v → Q (some (.int v)) S) {s0 : Int32} (hS : St u g H T S) (ok : KO_X9_slot_31 N g H T s0 S) (hx : X (KF_X9_slot_31 N g H T s0 S)) : cX G o dX9_slot mX9_slot 31 [none, none] [.int s0] S Q := by
  unfold KO_X9_slot_31 at ok
  unfold KF_X9_slot_31 at hx
  exact c_ireturn rfl rfl dX9_slot_31 (hR _ hx)
def KF_X9_slot_30 (N g H T : Nat)  (S : cS) : Int32 := (KF_X9_slot_31 N g H T (-1) S)
def KO_X9_slot_30 (N g H T : Nat)  (S : cS) : Prop := KO_X9_slot_31 N g H T (-1) S
set_option maxRecDepth 100000 in
set_option maxHeartbeats 4000000 in
theorem kb_X9_slot_30 {G : zG} {o : cO} {u g H T N : Nat} {S : cS} {Q : Option Value → cS → Prop} {X : Int32 → Prop} (hG : zOK G) (hR : ∀ v, X v → Q (some (.int v)) S) (hS : St u g H T S) (ok : KO_X9_slot_30 N g H T S) (hx : X (KF_X9_slot_30 N g H T S)) : cX G o dX9_slot mX9_slot 30 [none, none] [] S Q := by
  unfold KO_X9_slot_30 at ok
  unfold KF_X9_slot_30 at hx
  refine c_iconst (v := -1) dX9_slot_30 (by decide) ?_
  exact cX.cutz (kb_X9_slot_31 hG hR hS  ok hx) trivial
def KF_X9_slot_0 (N g H T : Nat) (x0 : Nat) (x1 : Int32) (S : cS) : Int32 := (if x1 < 0 then (KF_X9_slot_30 N g H T S) else (if (cI S 9 x0) ≤ x1 then (KF_X9_slot_30 N g H T S) else (KF_X9_slot_31 N g H T (cA S (x0 + 1) (((cI S 6 x0) + x1) &&& (nI 1023)).toNatClampNeg) S)))
def KO_X9_slot_0 (N g H T : Nat) (x0 : Nat) (x1 : Int32) (S : cS) : Prop := ((x1 < 0 → KO_X9_slot_30 N g H T S) ∧ (¬ x1 < 0 → (((cI S 9 x0) ≤ x1 → KO_X9_slot_30 N g H T S) ∧ (¬ (cI S 9 x0) ≤ x1 → (vp_in (((cI S 6 x0) + x1) &&& (nI 1023)) 1024) ∧ KO_X9_slot_31 N g H T (cA S (x0 + 1) (((cI S 6 x0) + x1) &&& (nI 1023)).toNatClampNeg) S))))
set_option maxRecDepth 100000 in
set_option maxHeartbeats 4000000 in
theorem kb_X9_slot_0 {G : zG} {o : cO} {u g H T N : Nat} {S : cS} {Q : Option Value → cS → Prop} {X : Int32 → Prop} (hG : zOK G) (hR : ∀ v, X v → Q (some (.int v)) S) {x0 : Nat} {x1 : Int32} (hS : St u g H T S) (t_x0 : isO g H 7 x0) (ok : KO_X9_slot_0 N g H T x0 x1 S) (hx : X (KF_X9_slot_0 N g H T x0 x1 S)) : cX G o dX9_slot mX9_slot 0 [some (va_rf (some x0)), some (.int x1)] [] S Q := by
  unfold KO_X9_slot_0 at ok
  unfold KF_X9_slot_0 at hx
  refine c_iload_n dX9_slot_0 rfl rfl ?_
  refine c_if_lt (tgt := 30) dX9_slot_1 (by decide) (fun c_1 => ?_) (fun c_1 => ?_)
  · have ok := ok.1 c_1
    have hx := xif_p c_1 hx
    exact cX.cutz (kb_X9_slot_30 hG hR hS  ok hx) trivial
  · have ok := ok.2 c_1
    have hx := xif_n c_1 hx
    refine c_iload_n dX9_slot_4 rfl rfl ?_
    refine c_aload_nQ dX9_slot_5 rfl rfl ?_
    refine c_getI (C := RX9) (T := TX9) (N := 13) (ci := 7) (k := 9) ⟨rfl, inT9, by decide, fX9_33⟩ (by decide) (by decide) (by decide) dX9_slot_6 (hS.k t_x0) ?_
    refine c_icmp_ge (tgt := 30) dX9_slot_9 (by decide) (fun c_9 => ?_) (fun c_9 => ?_)
    · have ok := ok.1 c_9
      have hx := xif_p c_9 hx
      exact cX.cutz (kb_X9_slot_30 hG hR hS  ok hx) trivial
    · have ok := ok.2 c_9
      have hx := xif_n c_9 hx
      refine c_aload_nQ dX9_slot_12 rfl rfl ?_
      refine c_getS (C := RX9) (T := TX9) (N := 13) (ci := 7) (k := 0) ⟨rfl, inT9, by decide, fX9_11⟩ (by decide) (by decide) (by decide) dX9_slot_13 (hS.k t_x0) (hS.r (c := 7) t_x0 rfl (by omega)) ?_
      refine c_aload_nQ dX9_slot_16 rfl rfl ?_
      refine c_getI (C := RX9) (T := TX9) (N := 13) (ci := 7) (k := 6) ⟨rfl, inT9, by decide, fX9_37⟩ (by decide) (by decide) (by decide) dX9_slot_17 (hS.k t_x0) ?_
      refine c_iload_n dX9_slot_20 rfl rfl ?_
      refine c_iadd dX9_slot_21 ?_
      refine c_sipush (v := nI 1023) dX9_slot_22 (by decide) ?_
      refine c_iand dX9_slot_25 ?_
      refine c_iald dX9_slot_26 ⟨(tK.cis (hS.rk (c := 7) (k := 0) t_x0 rfl (by omega)) (Option.some_ne_none _)), (vk_cast (hS.rl (c := 7) (k := 0) t_x0 rfl (by decide) (by omega)) ok.1)⟩ ?_
      have ok := ok.2
      refine c_goto (tgt := 31) dX9_slot_27 (by decide) ?_
      exact cX.cutz (kb_X9_slot_31 hG hR hS  ok hx) trivial
def k_X9_slot (N g H T : Nat) (S : cS) (a0 : Nat) (x1 : Int32) : Int32 := KF_X9_slot_0 N g H T a0 x1 S
def p_X9_slot (N g H T : Nat) (S : cS) (a0 : Nat) (x1 : Int32) : Prop := KO_X9_slot_0 N g H T a0 x1 S
set_option maxRecDepth 100000 in
set_option maxHeartbeats 4000000 in
theorem kc_X9_slot {G : zG} {o : cO} {u g H T N : Nat} {S : cS} (hG : zOK G) {a0 : Nat} {x1 : Int32} (hS : St u g H T S) (t_x0 : isO g H 7 a0) (ok : p_X9_slot N g H T S a0 x1) : cCi G o dX9_slot mX9_slot [.ref a0, .int x1] S (fun v S' => (v = k_X9_slot N g H T S a0 x1 ∧ S' = S)) := by
  refine cC.ofX rfl (by exact Nat.le_of_ble_eq_true rfl) ?_
  show cX G o dX9_slot mX9_slot 0 [some (va_rf (some a0)), some (.int x1)] [] S _
  exact cX.cutz (kb_X9_slot_0 (X := fun F => F = k_X9_slot N g H T S a0 x1) hG (fun v h => ⟨v, rfl, h, rfl⟩) hS t_x0 ok rfl) ⟨rfl, rfl, trivial⟩
/-! X9_loadOf -/
def KF_X9_loadOf_20 (N g H T : Nat) (s0 : Option Nat) (S : cS) : Option Nat := s0
def KO_X9_loadOf_20 (N g H T : Nat) (s0 : Option Nat) (S : cS) : Prop := True
set_option maxRecDepth 100000 in
set_option maxHeartbeats 4000000 in
theorem kb_X9_loadOf_20 {G : zG} {o : cO} {u g H T N : Nat} {S : cS} {Q : Option Value → cS → Prop} {X : Option Nat → Prop} (hG : zOK G) (hR : ∀ v, tK S 5 v → X v → Q (some (va_rf v)) S) {s0 : Option Nat} (hS : St u g H T S) (t_s0 : tK S 5 s0) (ok : KO_X9_loadOf_20 N g H T s0 S) (hx : X (KF_X9_loadOf_20 N g H T s0 S)) : cX G o dX9_loadOf mX9_loadOf 20 [none, none, none] [va_rf s0] S Q := by
  unfold KO_X9_loadOf_20 at ok
  unfold KF_X9_loadOf_20 at hx
  exact c_areturn rfl (Or.inl ⟨_, rfl⟩) dX9_loadOf_20 (hR _ t_s0 hx)
def KF_X9_loadOf_0 (N g H T : Nat) (x0 : Nat) (x1 : Int32) (S : cS) : Option Nat := (if 0 ≤ (k_X9_slot N g H T S x0 x1) then (KF_X9_loadOf_20 N g H T (cP S (x0 + 6) (k_X9_slot N g H T S x0 x1).toNatClampNeg) S) else (KF_X9_loadOf_20 N g H T (none : Option Nat) S))
def KO_X9_loadOf_0 (N g H T : Nat) (x0 : Nat) (x1 : Int32) (S : cS) : Prop := (p_X9_slot N g H T S x0 x1) ∧ ((0 ≤ (k_X9_slot N g H T S x0 x1) → (vp_in (k_X9_slot N g H T S x0 x1) 1000) ∧ KO_X9_loadOf_20 N g H T (cP S (x0 + 6) (k_X9_slot N g H T S x0 x1).toNatClampNeg) S) ∧ (¬ 0 ≤ (k_X9_slot N g H T S x0 x1) → KO_X9_loadOf_20 N g H T (none : Option Nat) S))
set_option maxRecDepth 100000 in
set_option maxHeartbeats 4000000 in
theorem kb_X9_loadOf_0 {G : zG} {o : cO} {u g H T N : Nat} {S : cS} {Q : Option Value → cS → Prop} {X : Option Nat → Prop} (hG : zOK G) (hR : ∀ v, tK S 5 v → X v → Q (some (va_rf v)) S) {x0 : Nat} {x1 : Int32} (hS : St u g H T S) (t_x0 : isO g H 7 x0) (ok : KO_X9_loadOf_0 N g H T x0 x1 S) (hx : X (KF_X9_loadOf_0 N g H T x0 x1 S)) : cX G o dX9_loadOf mX9_loadOf 0 [some (va_rf (some x0)), some (.int x1), none] [] S Q := by
  unfold KO_X9_loadOf_0 at ok
  unfold KF_X9_loadOf_0 at hx
  refine c_aload_nQ dX9_loadOf_0 rfl rfl ?_
  refine c_iload_n dX9_loadOf_1 rfl rfl ?_
  refine c_V1iE (ci := 7) (rr := (RX9, TX9, 13)) (y' := mX9_slot) dX9_loadOf_2 lX9_40 kX9_slot ⟨by decide, by decide⟩ rfl rfl (by decide) (hS.k t_x0) (Nat.le_of_ble_eq_true rfl) (kc_X9_slot hG hS t_x0 ok.1) ?_
  have ok := ok.2
  refine c_istore_2 dX9_loadOf_5 (by decide) rfl ?_
  refine c_iload_n dX9_loadOf_6 rfl rfl ?_
  refine c_if_ge (tgt := 14) dX9_loadOf_7 (by decide) (fun c_7 => ?_) (fun c_7 => ?_)
  · have ok := ok.1 c_7
    have hx := xif_p c_7 hx
    refine c_aload_nQ dX9_loadOf_14 rfl rfl ?_
    refine c_getS (C := RX9) (T := TX9) (N := 13) (ci := 7) (k := 5) ⟨rfl, inT9, by decide, fX9_29⟩ (by decide) (by decide) (by decide) dX9_loadOf_15 (hS.k t_x0) (hS.r (c := 7) t_x0 rfl (by omega)) ?_
    refine c_iload_n dX9_loadOf_18 rfl rfl ?_
    have p_19 := hS.row24 (hS.rk (c := 7) (k := 5) t_x0 rfl (by omega)) (k_X9_slot N g H T S x0 x1).toNatClampNeg
    refine c_aald (t := 4) (ty := (.object "QuorumLedger$Message")) rfl rfl (by decide) dX9_loadOf_19 ⟨(tK.cis (hS.rk (c := 7) (k := 5) t_x0 rfl (by omega)) (Option.some_ne_none _)), (vk_cast (hS.rl (c := 7) (k := 5) t_x0 rfl (by decide) (by omega)) ok.1)⟩ ?_
    have ok := ok.2
    exact cX.cutz (kb_X9_loadOf_20 hG hR hS p_19 ok hx) trivial
  · have ok := ok.2 c_7
    have hx := xif_n c_7 hx
    refine c_null' dX9_loadOf_10 ?_
    refine c_goto (tgt := 20) dX9_loadOf_11 (by decide) ?_
    exact cX.cutz (kb_X9_loadOf_20 hG hR hS tK_none ok hx) trivial
def k_X9_loadOf (N g H T : Nat) (S : cS) (a0 : Nat) (x1 : Int32) : Option Nat := KF_X9_loadOf_0 N g H T a0 x1 S
def p_X9_loadOf (N g H T : Nat) (S : cS) (a0 : Nat) (x1 : Int32) : Prop := KO_X9_loadOf_0 N g H T a0 x1 S
set_option maxRecDepth 100000 in
set_option maxHeartbeats 4000000 in
theorem kc_X9_loadOf {G : zG} {o : cO} {u g H T N : Nat} {S : cS} (hG : zOK G) {a0 : Nat} {x1 : Int32} (hS : St u g H T S) (t_x0 : isO g H 7 a0) (ok : p_X9_loadOf N g H T S a0 x1) : cCq G o dX9_loadOf mX9_loadOf [.ref a0, .int x1] S (fun v S' => (v = k_X9_loadOf N g H T S a0 x1 ∧ S' = S) ∧ tK S 5 v) := by
  refine cC.ofX rfl (by exact Nat.le_of_ble_eq_true rfl) ?_
  show cX G o dX9_loadOf mX9_loadOf 0 [some (va_rf (some a0)), some (.int x1), none] [] S _
  exact cX.cutz (kb_X9_loadOf_0 (X := fun F => F = k_X9_loadOf N g H T S a0 x1) hG (fun v h3 h => ⟨v, rfl, ⟨h, rfl⟩, h3⟩) hS t_x0 ok rfl) ⟨rfl, rfl, trivial⟩
/-! X9_senderOf -/
def KF_X9_senderOf_20 (N g H T : Nat) (s0 : Int32) (S : cS) : Int32 := s0
def KO_X9_senderOf_20 (N g H T : Nat) (s0 : Int32) (S : cS) : Prop := True
set_option maxRecDepth 100000 in
set_option maxHeartbeats 4000000 in
theorem kb_X9_senderOf_20 {G : zG} {o : cO} {u g H T N : Nat} {S : cS} {Q : Option Value → cS → Prop} {X : Int32 → Prop} (hG : zOK G) (hR : ∀ v, X v → Q (some (.int v)) S) {s0 : Int32} (hS : St u g H T S) (ok : KO_X9_senderOf_20 N g H T s0 S) (hx : X (KF_X9_senderOf_20 N g H T s0 S)) : cX G o dX9_senderOf mX9_senderOf 20 [none, none, none] [.int s0] S Q := by
  unfold KO_X9_senderOf_20 at ok
  unfold KF_X9_senderOf_20 at hx
  exact c_ireturn rfl rfl dX9_senderOf_20 (hR _ hx)
def KF_X9_senderOf_0 (N g H T : Nat) (x0 : Nat) (x1 : Int32) (S : cS) : Int32 := (if 0 ≤ (k_X9_slot N g H T S x0 x1) then (KF_X9_senderOf_20 N g H T (cA S (x0 + 3) (k_X9_slot N g H T S x0 x1).toNatClampNeg) S) else (KF_X9_senderOf_20 N g H T (-1) S))
def KO_X9_senderOf_0 (N g H T : Nat) (x0 : Nat) (x1 : Int32) (S : cS) : Prop := (p_X9_slot N g H T S x0 x1) ∧ ((0 ≤ (k_X9_slot N g H T S x0 x1) → (vp_in (k_X9_slot N g H T S x0 x1) 1000) ∧ KO_X9_senderOf_20 N g H T (cA S (x0 + 3) (k_X9_slot N g H T S x0 x1).toNatClampNeg) S) ∧ (¬ 0 ≤ (k_X9_slot N g H T S x0 x1) → KO_X9_senderOf_20 N g H T (-1) S))
set_option maxRecDepth 100000 in
set_option maxHeartbeats 4000000 in
theorem kb_X9_senderOf_0 {G : zG} {o : cO} {u g H T N : Nat} {S : cS} {Q : Option Value → cS → Prop} {X : Int32 → Prop} (hG : zOK G) (hR : ∀ v, X v → Q (some (.int v)) S) {x0 : Nat} {x1 : Int32} (hS : St u g H T S) (t_x0 : isO g H 7 x0) (ok : KO_X9_senderOf_0 N g H T x0 x1 S) (hx : X (KF_X9_senderOf_0 N g H T x0 x1 S)) : cX G o dX9_senderOf mX9_senderOf 0 [some (va_rf (some x0)), some (.int x1), none] [] S Q := by
  unfold KO_X9_senderOf_0 at ok
  unfold KF_X9_senderOf_0 at hx
  refine c_aload_nQ dX9_senderOf_0 rfl rfl ?_
  refine c_iload_n dX9_senderOf_1 rfl rfl ?_
  refine c_V1iE (ci := 7) (rr := (RX9, TX9, 13)) (y' := mX9_slot) dX9_senderOf_2 lX9_40 kX9_slot ⟨by decide, by decide⟩ rfl rfl (by decide) (hS.k t_x0) (Nat.le_of_ble_eq_true rfl) (kc_X9_slot hG hS t_x0 ok.1) ?_
  have ok := ok.2
  refine c_istore_2 dX9_senderOf_5 (by decide) rfl ?_
  refine c_iload_n dX9_senderOf_6 rfl rfl ?_
  refine c_if_ge (tgt := 14) dX9_senderOf_7 (by decide) (fun c_7 => ?_) (fun c_7 => ?_)
  · have ok := ok.1 c_7
    have hx := xif_p c_7 hx
    refine c_aload_nQ dX9_senderOf_14 rfl rfl ?_
    refine c_getS (C := RX9) (T := TX9) (N := 13) (ci := 7) (k := 2) ⟨rfl, inT9, by decide, fX9_18⟩ (by decide) (by decide) (by decide) dX9_senderOf_15 (hS.k t_x0) (hS.r (c := 7) t_x0 rfl (by omega)) ?_
    refine c_iload_n dX9_senderOf_18 rfl rfl ?_
    refine c_iald dX9_senderOf_19 ⟨(tK.cis (hS.rk (c := 7) (k := 2) t_x0 rfl (by omega)) (Option.some_ne_none _)), (vk_cast (hS.rl (c := 7) (k := 2) t_x0 rfl (by decide) (by omega)) ok.1)⟩ ?_
    have ok := ok.2
    exact cX.cutz (kb_X9_senderOf_20 hG hR hS  ok hx) trivial
  · have ok := ok.2 c_7
    have hx := xif_n c_7 hx
    refine c_iconst (v := -1) dX9_senderOf_10 (by decide) ?_
    refine c_goto (tgt := 20) dX9_senderOf_11 (by decide) ?_
    exact cX.cutz (kb_X9_senderOf_20 hG hR hS  ok hx) trivial
def k_X9_senderOf (N g H T : Nat) (S : cS) (a0 : Nat) (x1 : Int32) : Int32 := KF_X9_senderOf_0 N g H T a0 x1 S
def p_X9_senderOf (N g H T : Nat) (S : cS) (a0 : Nat) (x1 : Int32) : Prop := KO_X9_senderOf_0 N g H T a0 x1 S
set_option maxRecDepth 100000 in
set_option maxHeartbeats 4000000 in
theorem kc_X9_senderOf {G : zG} {o : cO} {u g H T N : Nat} {S : cS} (hG : zOK G) {a0 : Nat} {x1 : Int32} (hS : St u g H T S) (t_x0 : isO g H 7 a0) (ok : p_X9_senderOf N g H T S a0 x1) : cCi G o dX9_senderOf mX9_senderOf [.ref a0, .int x1] S (fun v S' => (v = k_X9_senderOf N g H T S a0 x1 ∧ S' = S)) := by
  refine cC.ofX rfl (by exact Nat.le_of_ble_eq_true rfl) ?_
  show cX G o dX9_senderOf mX9_senderOf 0 [some (va_rf (some a0)), some (.int x1), none] [] S _
  exact cX.cutz (kb_X9_senderOf_0 (X := fun F => F = k_X9_senderOf N g H T S a0 x1) hG (fun v h => ⟨v, rfl, h, rfl⟩) hS t_x0 ok rfl) ⟨rfl, rfl, trivial⟩
/-! X9_receiverOf -/
def KF_X9_receiverOf_20 (N g H T : Nat) (s0 : Int32) (S : cS) : Int32 := s0
def KO_X9_receiverOf_20 (N g H T : Nat) (s0 : Int32) (S : cS) : Prop := True
set_option maxRecDepth 100000 in
set_option maxHeartbeats 4000000 in
theorem kb_X9_receiverOf_20 {G : zG} {o : cO} {u g H T N : Nat} {S : cS} {Q : Option Value → cS → Prop} {X : Int32 → Prop} (hG : zOK G) (hR : ∀ v, X v → Q (some (.int v)) S) {s0 : Int32} (hS : St u g H T S) (ok : KO_X9_receiverOf_20 N g H T s0 S) (hx : X (KF_X9_receiverOf_20 N g H T s0 S)) : cX G o dX9_receiverOf mX9_receiverOf 20 [none, none, none] [.int s0] S Q := by
  unfold KO_X9_receiverOf_20 at ok
  unfold KF_X9_receiverOf_20 at hx
  exact c_ireturn rfl rfl dX9_receiverOf_20 (hR _ hx)
def KF_X9_receiverOf_0 (N g H T : Nat) (x0 : Nat) (x1 : Int32) (S : cS) : Int32 := (if 0 ≤ (k_X9_slot N g H T S x0 x1) then (KF_X9_receiverOf_20 N g H T (cA S (x0 + 4) (k_X9_slot N g H T S x0 x1).toNatClampNeg) S) else (KF_X9_receiverOf_20 N g H T (-1) S))
def KO_X9_receiverOf_0 (N g H T : Nat) (x0 : Nat) (x1 : Int32) (S : cS) : Prop := (p_X9_slot N g H T S x0 x1) ∧ ((0 ≤ (k_X9_slot N g H T S x0 x1) → (vp_in (k_X9_slot N g H T S x0 x1) 1000) ∧ KO_X9_receiverOf_20 N g H T (cA S (x0 + 4) (k_X9_slot N g H T S x0 x1).toNatClampNeg) S) ∧ (¬ 0 ≤ (k_X9_slot N g H T S x0 x1) → KO_X9_receiverOf_20 N g H T (-1) S))
set_option maxRecDepth 100000 in
set_option maxHeartbeats 4000000 in
theorem kb_X9_receiverOf_0 {G : zG} {o : cO} {u g H T N : Nat} {S : cS} {Q : Option Value → cS → Prop} {X : Int32 → Prop} (hG : zOK G) (hR : ∀ v, X v → Q (some (.int v)) S) {x0 : Nat} {x1 : Int32} (hS : St u g H T S) (t_x0 : isO g H 7 x0) (ok : KO_X9_receiverOf_0 N g H T x0 x1 S) (hx : X (KF_X9_receiverOf_0 N g H T x0 x1 S)) : cX G o dX9_receiverOf mX9_receiverOf 0 [some (va_rf (some x0)), some (.int x1), none] [] S Q := by
  unfold KO_X9_receiverOf_0 at ok
  unfold KF_X9_receiverOf_0 at hx
  refine c_aload_nQ dX9_receiverOf_0 rfl rfl ?_
  refine c_iload_n dX9_receiverOf_1 rfl rfl ?_
  refine c_V1iE (ci := 7) (rr := (RX9, TX9, 13)) (y' := mX9_slot) dX9_receiverOf_2 lX9_40 kX9_slot ⟨by decide, by decide⟩ rfl rfl (by decide) (hS.k t_x0) (Nat.le_of_ble_eq_true rfl) (kc_X9_slot hG hS t_x0 ok.1) ?_
  have ok := ok.2
  refine c_istore_2 dX9_receiverOf_5 (by decide) rfl ?_
  refine c_iload_n dX9_receiverOf_6 rfl rfl ?_
  refine c_if_ge (tgt := 14) dX9_receiverOf_7 (by decide) (fun c_7 => ?_) (fun c_7 => ?_)
  · have ok := ok.1 c_7
    have hx := xif_p c_7 hx
    refine c_aload_nQ dX9_receiverOf_14 rfl rfl ?_
    refine c_getS (C := RX9) (T := TX9) (N := 13) (ci := 7) (k := 3) ⟨rfl, inT9, by decide, fX9_21⟩ (by decide) (by decide) (by decide) dX9_receiverOf_15 (hS.k t_x0) (hS.r (c := 7) t_x0 rfl (by omega)) ?_
    refine c_iload_n dX9_receiverOf_18 rfl rfl ?_
    refine c_iald dX9_receiverOf_19 ⟨(tK.cis (hS.rk (c := 7) (k := 3) t_x0 rfl (by omega)) (Option.some_ne_none _)), (vk_cast (hS.rl (c := 7) (k := 3) t_x0 rfl (by decide) (by omega)) ok.1)⟩ ?_
    have ok := ok.2
    exact cX.cutz (kb_X9_receiverOf_20 hG hR hS  ok hx) trivial
  · have ok := ok.2 c_7
    have hx := xif_n c_7 hx
    refine c_iconst (v := -1) dX9_receiverOf_10 (by decide) ?_
    refine c_goto (tgt := 20) dX9_receiverOf_11 (by decide) ?_
    exact cX.cutz (kb_X9_receiverOf_20 hG hR hS  ok hx) trivial
def k_X9_receiverOf (N g H T : Nat) (S : cS) (a0 : Nat) (x1 : Int32) : Int32 := KF_X9_receiverOf_0 N g H T a0 x1 S
def p_X9_receiverOf (N g H T : Nat) (S : cS) (a0 : Nat) (x1 : Int32) : Prop := KO_X9_receiverOf_0 N g H T a0 x1 S
set_option maxRecDepth 100000 in
set_option maxHeartbeats 4000000 in
theorem kc_X9_receiverOf {G : zG} {o : cO} {u g H T N : Nat} {S : cS} (hG : zOK G) {a0 : Nat} {x1 : Int32} (hS : St u g H T S) (t_x0 : isO g H 7 a0) (ok : p_X9_receiverOf N g H T S a0 x1) : cCi G o dX9_receiverOf mX9_receiverOf [.ref a0, .int x1] S (fun v S' => (v = k_X9_receiverOf N g H T S a0 x1 ∧ S' = S)) := by
  refine cC.ofX rfl (by exact Nat.le_of_ble_eq_true rfl) ?_
  show cX G o dX9_receiverOf mX9_receiverOf 0 [some (va_rf (some a0)), some (.int x1), none] [] S _
  exact cX.cutz (kb_X9_receiverOf_0 (X := fun F => F = k_X9_receiverOf N g H T S a0 x1) hG (fun v h => ⟨v, rfl, h, rfl⟩) hS t_x0 ok rfl) ⟨rfl, rfl, trivial⟩
/-! X9_isRipe -/
def KF_X9_isRipe_30 (N g H T : Nat) (s0 : Int32) (S : cS) : Int32 := s0
def KO_X9_isRipe_30 (N g H T : Nat) (s0 : Int32) (S : cS) : Prop := narrow .boolean (.int s0) = .int s0
set_option maxRecDepth 100000 in
set_option maxHeartbeats 4000000 in
theorem kb_X9_isRipe_30 {G : zG} {o : cO} {u g H T N : Nat} {S : cS} {Q : Option Value → cS → Prop} {X : Int32 → Prop} (hG : zOK G) (hR : ∀ v, X v → Q (some (.int v)) S) {s0 : Int32} (hS : St u g H T S) (ok : KO_X9_isRipe_30 N g H T s0 S) (hx : X (KF_X9_isRipe_30 N g H T s0 S)) : cX G o dX9_isRipe mX9_isRipe 30 [none, none, none] [.int s0] S Q := by
  unfold KO_X9_isRipe_30 at ok
  unfold KF_X9_isRipe_30 at hx
  exact c_ireturn rfl ok dX9_isRipe_30 (hR _ hx)
def KF_X9_isRipe_29 (N g H T : Nat)  (S : cS) : Int32 := (KF_X9_isRipe_30 N g H T (nI 0) S)
def KO_X9_isRipe_29 (N g H T : Nat)  (S : cS) : Prop := KO_X9_isRipe_30 N g H T (nI 0) S
set_option maxRecDepth 100000 in
set_option maxHeartbeats 4000000 in
theorem kb_X9_isRipe_29 {G : zG} {o : cO} {u g H T N : Nat} {S : cS} {Q : Option Value → cS → Prop} {X : Int32 → Prop} (hG : zOK G) (hR : ∀ v, X v → Q (some (.int v)) S) (hS : St u g H T S) (ok : KO_X9_isRipe_29 N g H T S) (hx : X (KF_X9_isRipe_29 N g H T S)) : cX G o dX9_isRipe mX9_isRipe 29 [none, none, none] [] S Q := by
  unfold KO_X9_isRipe_29 at ok
  unfold KF_X9_isRipe_29 at hx
  refine c_iconst (v := nI 0) dX9_isRipe_29 (by decide) ?_
  exact cX.cutz (kb_X9_isRipe_30 hG hR hS  ok hx) trivial
def KF_X9_isRipe_0 (N g H T : Nat) (x0 : Nat) (x1 : Int32) (S : cS) : Int32 := (if (k_X9_slot N g H T S x0 (nI 0)) < 0 then (KF_X9_isRipe_29 N g H T S) else (if (cI S 10 x0) < ((cA S (x0 + 5) (k_X9_slot N g H T S x0 (nI 0)).toNatClampNeg) + x1) then (KF_X9_isRipe_29 N g H T S) else (KF_X9_isRipe_30 N g H T (nI 1) S)))
def KO_X9_isRipe_0 (N g H T : Nat) (x0 : Nat) (x1 : Int32) (S : cS) : Prop := (p_X9_slot N g H T S x0 (nI 0)) ∧ (((k_X9_slot N g H T S x0 (nI 0)) < 0 → KO_X9_isRipe_29 N g H T S) ∧ (¬ (k_X9_slot N g H T S x0 (nI 0)) < 0 → (vp_in (k_X9_slot N g H T S x0 (nI 0)) 1000) ∧ (((cI S 10 x0) < ((cA S (x0 + 5) (k_X9_slot N g H T S x0 (nI 0)).toNatClampNeg) + x1) → KO_X9_isRipe_29 N g H T S) ∧ (¬ (cI S 10 x0) < ((cA S (x0 + 5) (k_X9_slot N g H T S x0 (nI 0)).toNatClampNeg) + x1) → KO_X9_isRipe_30 N g H T (nI 1) S))))
set_option maxRecDepth 100000 in
set_option maxHeartbeats 4000000 in
theorem kb_X9_isRipe_0 {G : zG} {o : cO} {u g H T N : Nat} {S : cS} {Q : Option Value → cS → Prop} {X : Int32 → Prop} (hG : zOK G) (hR : ∀ v, X v → Q (some (.int v)) S) {x0 : Nat} {x1 : Int32} (hS : St u g H T S) (t_x0 : isO g H 7 x0) (ok : KO_X9_isRipe_0 N g H T x0 x1 S) (hx : X (KF_X9_isRipe_0 N g H T x0 x1 S)) : cX G o dX9_isRipe mX9_isRipe 0 [some (va_rf (some x0)), some (.int x1), none] [] S Q := by
  unfold KO_X9_isRipe_0 at ok
  unfold KF_X9_isRipe_0 at hx
  refine c_aload_nQ dX9_isRipe_0 rfl rfl ?_
  refine c_iconst (v := nI 0) dX9_isRipe_1 (by decide) ?_
  refine c_V1iE (ci := 7) (rr := (RX9, TX9, 13)) (y' := mX9_slot) dX9_isRipe_2 lX9_40 kX9_slot ⟨by decide, by decide⟩ rfl rfl (by decide) (hS.k t_x0) (Nat.le_of_ble_eq_true rfl) (kc_X9_slot hG hS t_x0 ok.1) ?_
  have ok := ok.2
  refine c_istore_2 dX9_isRipe_5 (by decide) rfl ?_
  refine c_iload_n dX9_isRipe_6 rfl rfl ?_
  refine c_if_lt (tgt := 29) dX9_isRipe_7 (by decide) (fun c_7 => ?_) (fun c_7 => ?_)
  · have ok := ok.1 c_7
    have hx := xif_p c_7 hx
    exact cX.cutz (kb_X9_isRipe_29 hG hR hS  ok hx) trivial
  · have ok := ok.2 c_7
    have hx := xif_n c_7 hx
    refine c_aload_nQ dX9_isRipe_10 rfl rfl ?_
    refine c_getS (C := RX9) (T := TX9) (N := 13) (ci := 7) (k := 4) ⟨rfl, inT9, by decide, fX9_24⟩ (by decide) (by decide) (by decide) dX9_isRipe_11 (hS.k t_x0) (hS.r (c := 7) t_x0 rfl (by omega)) ?_
    refine c_iload_n dX9_isRipe_14 rfl rfl ?_
    refine c_iald dX9_isRipe_15 ⟨(tK.cis (hS.rk (c := 7) (k := 4) t_x0 rfl (by omega)) (Option.some_ne_none _)), (vk_cast (hS.rl (c := 7) (k := 4) t_x0 rfl (by decide) (by omega)) ok.1)⟩ ?_
    have ok := ok.2
    refine c_iload_n dX9_isRipe_16 rfl rfl ?_
    refine c_iadd dX9_isRipe_17 ?_
    refine c_aload_nQ dX9_isRipe_18 rfl rfl ?_
    refine c_getI (C := RX9) (T := TX9) (N := 13) (ci := 7) (k := 10) ⟨rfl, inT9, by decide, fX9_44⟩ (by decide) (by decide) (by decide) dX9_isRipe_19 (hS.k t_x0) ?_
    refine c_icmp_gt (tgt := 29) dX9_isRipe_22 (by decide) (fun c_22 => ?_) (fun c_22 => ?_)
    · have ok := ok.1 c_22
      have hx := xif_p c_22 hx
      exact cX.cutz (kb_X9_isRipe_29 hG hR hS  ok hx) trivial
    · have ok := ok.2 c_22
      have hx := xif_n c_22 hx
      refine c_iconst (v := nI 1) dX9_isRipe_25 (by decide) ?_
      refine c_goto (tgt := 30) dX9_isRipe_26 (by decide) ?_
      exact cX.cutz (kb_X9_isRipe_30 hG hR hS  ok hx) trivial
def k_X9_isRipe (N g H T : Nat) (S : cS) (a0 : Nat) (x1 : Int32) : Int32 := KF_X9_isRipe_0 N g H T a0 x1 S
def p_X9_isRipe (N g H T : Nat) (S : cS) (a0 : Nat) (x1 : Int32) : Prop := KO_X9_isRipe_0 N g H T a0 x1 S
set_option maxRecDepth 100000 in
set_option maxHeartbeats 4000000 in
theorem kc_X9_isRipe {G : zG} {o : cO} {u g H T N : Nat} {S : cS} (hG : zOK G) {a0 : Nat} {x1 : Int32} (hS : St u g H T S) (t_x0 : isO g H 7 a0) (ok : p_X9_isRipe N g H T S a0 x1) : cCi G o dX9_isRipe mX9_isRipe [.ref a0, .int x1] S (fun v S' => (v = k_X9_isRipe N g H T S a0 x1 ∧ S' = S)) := by
  refine cC.ofX rfl (by exact Nat.le_of_ble_eq_true rfl) ?_
  show cX G o dX9_isRipe mX9_isRipe 0 [some (va_rf (some a0)), some (.int x1), none] [] S _
  exact cX.cutz (kb_X9_isRipe_0 (X := fun F => F = k_X9_isRipe N g H T S a0 x1) hG (fun v h => ⟨v, rfl, h, rfl⟩) hS t_x0 ok rfl) ⟨rfl, rfl, trivial⟩
/-! X9_take -/
def KF_X9_take_98 (N g H T : Nat) (x0 : Nat) (x2 : Int32) (x3 : Option Nat) (S : cS) : Option Nat × cS := (x3, (csA S (x0 + 2) (cI S 9 x0).toNatClampNeg x2))
def KO_X9_take_98 (N g H T : Nat) (x0 : Nat) (x2 : Int32) (x3 : Option Nat) (S : cS) : Prop := (vp_in (cI S 9 x0) 1000) ∧ True
set_option maxRecDepth 100000 in
set_option maxHeartbeats 4000000 in
theorem kb_X9_take_98 {G : zG} {o : cO} {u g H T N : Nat} {S : cS} {S0 : cS} {Q : Option Value → cS → Prop} {X : Option Nat × cS → Prop} (hG : zOK G) (hR : ∀ v S', St u g H T S' → Mono S0 S' → tK S' 5 v → X (v, S') → Q (some (va_rf v)) S') {x0 : Nat} {x2 : Int32} {x3 : Option Nat} (hS : St u g H T S) (hM : Mono S0 S) (t_x0 : isO g H 7 x0) (t_x3 : tK S 5 x3) (ok : KO_X9_take_98 N g H T x0 x2 x3 S) (hx : X (KF_X9_take_98 N g H T x0 x2 x3 S)) : cX G o dX9_take mX9_take 98 [some (va_rf (some x0)), none, some (.int x2), some (va_rf x3), none] [] S Q := by
  unfold KO_X9_take_98 at ok
  unfold KF_X9_take_98 at hx
  refine c_aload_nQ dX9_take_98 rfl rfl ?_
  refine c_getS (C := RX9) (T := TX9) (N := 13) (ci := 7) (k := 1) ⟨rfl, inT9, by decide, fX9_15⟩ (by decide) (by decide) (by decide) dX9_take_99 (hS.k t_x0) (hS.r (c := 7) t_x0 rfl (by omega)) ?_
  refine c_aload_nQ dX9_take_102 rfl rfl ?_
  refine c_getI (C := RX9) (T := TX9) (N := 13) (ci := 7) (k := 9) ⟨rfl, inT9, by decide, fX9_33⟩ (by decide) (by decide) (by decide) dX9_take_103 (hS.k t_x0) ?_
  refine c_iload_n dX9_take_106 rfl rfl ?_
  have tq_107 : tK S 21 (some (x0 + 2)) := tK_some (tK.cis (hS.rk (c := 7) (k := 1) t_x0 rfl (by omega)) (Option.some_ne_none _)).2
  refine c_iast hG dX9_take_107 ⟨(tK.cis (hS.rk (c := 7) (k := 1) t_x0 rfl (by omega)) (Option.some_ne_none _)), (vk_cast (hS.rl (c := 7) (k := 1) t_x0 rfl (by decide) (by omega)) ok.1)⟩ ?_
  have hS := hS.Aw (k := 21) (x0 + 2) (cI S 9 x0).toNatClampNeg x2 tq_107 (by decide)
  have hM := hM.A (x0 + 2) (cI S 9 x0).toNatClampNeg x2
  have ok := ok.2
  refine c_aload_nQ dX9_take_108 rfl rfl ?_
  exact c_areturn rfl (Or.inl ⟨_, rfl⟩) dX9_take_109 (hR _ _ hS hM (tK_A t_x3) hx)
def KF_X9_take_74 (N g H T : Nat) (x0 : Nat) (x2 : Int32) (x3 : Option Nat) (S : cS) : Option Nat × cS := (KF_X9_take_98 N g H T x0 x2 x3 (csI (csI S 6 x0 (((cI S 6 x0) + (nI 1)) &&& (nI 1023))) 9 x0 ((cI (csI S 6 x0 (((cI S 6 x0) + (nI 1)) &&& (nI 1023))) 9 x0) - (nI 1))))
def KO_X9_take_74 (N g H T : Nat) (x0 : Nat) (x2 : Int32) (x3 : Option Nat) (S : cS) : Prop := KO_X9_take_98 N g H T x0 x2 x3 (csI (csI S 6 x0 (((cI S 6 x0) + (nI 1)) &&& (nI 1023))) 9 x0 ((cI (csI S 6 x0 (((cI S 6 x0) + (nI 1)) &&& (nI 1023))) 9 x0) - (nI 1)))
set_option maxRecDepth 100000 in
set_option maxHeartbeats 4000000 in
theorem kb_X9_take_74 {G : zG} {o : cO} {u g H T N : Nat} {S : cS} {S0 : cS} {Q : Option Value → cS → Prop} {X : Option Nat × cS → Prop} (hG : zOK G) (hR : ∀ v S', St u g H T S' → Mono S0 S' → tK S' 5 v → X (v, S') → Q (some (va_rf v)) S') {x0 : Nat} {x2 : Int32} {x3 : Option Nat} (hS : St u g H T S) (hM : Mono S0 S) (t_x0 : isO g H 7 x0) (t_x3 : tK S 5 x3) (ok : KO_X9_take_74 N g H T x0 x2 x3 S) (hx : X (KF_X9_take_74 N g H T x0 x2 x3 S)) : cX G o dX9_take mX9_take 74 [some (va_rf (some x0)), none, some (.int x2), some (va_rf x3), none] [] S Q := by
  unfold KO_X9_take_74 at ok
  unfold KF_X9_take_74 at hx
  refine c_aload_nQ dX9_take_74 rfl rfl ?_
  refine c_aload_nQ dX9_take_75 rfl rfl ?_
  refine c_getI (C := RX9) (T := TX9) (N := 13) (ci := 7) (k := 6) ⟨rfl, inT9, by decide, fX9_37⟩ (by decide) (by decide) (by decide) dX9_take_76 (hS.k t_x0) ?_
  refine c_iconst (v := nI 1) dX9_take_79 (by decide) ?_
  refine c_iadd dX9_take_80 ?_
  refine c_sipush (v := nI 1023) dX9_take_81 (by decide) ?_
  refine c_iand dX9_take_84 ?_
  refine c_putI (C := RX9) (T := TX9) (N := 13) (ci := 7) (k := 6) ⟨rfl, inT9, by decide, fX9_37⟩ ftT9 rfl (by decide) (by decide) (by decide) rfl rfl dX9_take_85 (hS.k t_x0) ?_
  have hS := hS.I 6 x0 (((cI S 6 x0) + (nI 1)) &&& (nI 1023))
  have hM := hM.I 6 x0 (((cI S 6 x0) + (nI 1)) &&& (nI 1023))
  refine c_aload_nQ dX9_take_88 rfl rfl ?_
  refine c_dup dX9_take_89 (zcat_rf _) ?_
  refine c_getI (C := RX9) (T := TX9) (N := 13) (ci := 7) (k := 9) ⟨rfl, inT9, by decide, fX9_33⟩ (by decide) (by decide) (by decide) dX9_take_90 (hS.k t_x0) ?_
  refine c_iconst (v := nI 1) dX9_take_93 (by decide) ?_
  refine c_isub dX9_take_94 ?_
  refine c_putI (C := RX9) (T := TX9) (N := 13) (ci := 7) (k := 9) ⟨rfl, inT9, by decide, fX9_33⟩ ftT9 rfl (by decide) (by decide) (by decide) rfl rfl dX9_take_95 (hS.k t_x0) ?_
  have hS := hS.I 9 x0 ((cI (csI S 6 x0 (((cI S 6 x0) + (nI 1)) &&& (nI 1023))) 9 x0) - (nI 1))
  have hM := hM.I 9 x0 ((cI (csI S 6 x0 (((cI S 6 x0) + (nI 1)) &&& (nI 1023))) 9 x0) - (nI 1))
  exact cX.cutz (kb_X9_take_98 hG hR hS hM t_x0 (tK_I (tK_I t_x3)) ok hx) ⟨rfl, rfl, rfl, trivial⟩
def KB_X9_take_29 (N g H T : Nat) (rec : Nat → Int32 → Option Nat → Int32 → cS → Nat × Nat × Int32 × Option Nat × cS) (x0 : Nat) (x2 : Int32) (x3 : Option Nat) (x4 : Int32) (S : cS) : Nat × Nat × Int32 × Option Nat × cS := (if x4 ≤ 0 then (0, x0, x2, x3, S) else (rec x0 x2 x3 (x4 + (-1)) (csA S (x0 + 1) (((cI S 6 x0) + x4) &&& (nI 1023)).toNatClampNeg (cA S (x0 + 1) ((((cI S 6 x0) + x4) - (nI 1)) &&& (nI 1023)).toNatClampNeg))))
def KOB_X9_take_29 (N g H T : Nat) (rok : Nat → Int32 → Option Nat → Int32 → cS → Prop) (x0 : Nat) (x2 : Int32) (x3 : Option Nat) (x4 : Int32) (S : cS) : Prop := ((x4 ≤ 0 → True) ∧ (¬ x4 ≤ 0 → (vp_in ((((cI S 6 x0) + x4) - (nI 1)) &&& (nI 1023)) 1024) ∧ (vp_in (((cI S 6 x0) + x4) &&& (nI 1023)) 1024) ∧ rok x0 x2 x3 (x4 + (-1)) (csA S (x0 + 1) (((cI S 6 x0) + x4) &&& (nI 1023)).toNatClampNeg (cA S (x0 + 1) ((((cI S 6 x0) + x4) - (nI 1)) &&& (nI 1023)).toNatClampNeg))))
set_option maxRecDepth 100000 in
set_option maxHeartbeats 4000000 in
theorem kbb_X9_take_29 {G : zG} {o : cO} {u g H T N : Nat} {S : cS} {S0 : cS} {Q : Option Value → cS → Prop} {X : Nat × Nat × Int32 × Option Nat × cS → Prop} (hG : zOK G) (hX0 : ∀ (x0 : Nat) (x2 : Int32) (x3 : Option Nat) (S' : cS), St u g H T S' → Mono S0 S' → isO g H 7 x0 → tK S' 5 x3 → X (0, x0, x2, x3, S') → cX G o dX9_take mX9_take 74 [some (va_rf (some x0)), none, some (.int x2), some (va_rf x3), none] [] S' Q) {rec : Nat → Int32 → Option Nat → Int32 → cS → Nat × Nat × Int32 × Option Nat × cS} {rok : Nat → Int32 → Option Nat → Int32 → cS → Prop} (hrec : ∀ (x0 : Nat) (x2 : Int32) (x3 : Option Nat) (x4 : Int32) (S : cS), St u g H T S → Mono S0 S → isO g H 7 x0 → tK S 5 x3 → rok x0 x2 x3 x4 S → X (rec x0 x2 x3 x4 S) → cX G o dX9_take mX9_take 29 [some (va_rf (some x0)), none, some (.int x2), some (va_rf x3), some (.int x4)] [] S Q) {x0 : Nat} {x2 : Int32} {x3 : Option Nat} {x4 : Int32} (hS : St u g H T S) (hM : Mono S0 S) (t_x0 : isO g H 7 x0) (t_x3 : tK S 5 x3) (ok : KOB_X9_take_29 N g H T rok x0 x2 x3 x4 S) (hx : X (KB_X9_take_29 N g H T rec x0 x2 x3 x4 S)) : cX G o dX9_take mX9_take 29 [some (va_rf (some x0)), none, some (.int x2), some (va_rf x3), some (.int x4)] [] S Q := by
  unfold KOB_X9_take_29 at ok
  unfold KB_X9_take_29 at hx
  refine c_iload dX9_take_29 rfl ?_
  refine c_if_le (tgt := 74) dX9_take_31 (by decide) (fun c_31 => ?_) (fun c_31 => ?_)
  · have ok := ok.1 c_31
    have hx := xif_p c_31 hx
    exact cX.cutz (hX0 _ _ _ S hS hM t_x0 t_x3 hx) ⟨rfl, rfl, rfl, trivial⟩
  · have ok := ok.2 c_31
    have hx := xif_n c_31 hx
    refine c_aload_nQ dX9_take_34 rfl rfl ?_
    refine c_getS (C := RX9) (T := TX9) (N := 13) (ci := 7) (k := 0) ⟨rfl, inT9, by decide, fX9_11⟩ (by decide) (by decide) (by decide) dX9_take_35 (hS.k t_x0) (hS.r (c := 7) t_x0 rfl (by omega)) ?_
    refine c_aload_nQ dX9_take_38 rfl rfl ?_
    refine c_getI (C := RX9) (T := TX9) (N := 13) (ci := 7) (k := 6) ⟨rfl, inT9, by decide, fX9_37⟩ (by decide) (by decide) (by decide) dX9_take_39 (hS.k t_x0) ?_
    refine c_iload dX9_take_42 rfl ?_
    refine c_iadd dX9_take_44 ?_
    refine c_sipush (v := nI 1023) dX9_take_45 (by decide) ?_
    refine c_iand dX9_take_48 ?_
    refine c_aload_nQ dX9_take_49 rfl rfl ?_
    refine c_getS (C := RX9) (T := TX9) (N := 13) (ci := 7) (k := 0) ⟨rfl, inT9, by decide, fX9_11⟩ (by decide) (by decide) (by decide) dX9_take_50 (hS.k t_x0) (hS.r (c := 7) t_x0 rfl (by omega)) ?_
    refine c_aload_nQ dX9_take_53 rfl rfl ?_
    refine c_getI (C := RX9) (T := TX9) (N := 13) (ci := 7) (k := 6) ⟨rfl, inT9, by decide, fX9_37⟩ (by decide) (by decide) (by decide) dX9_take_54 (hS.k t_x0) ?_
    refine c_iload dX9_take_57 rfl ?_
    refine c_iadd dX9_take_59 ?_
    refine c_iconst (v := nI 1) dX9_take_60 (by decide) ?_
    refine c_isub dX9_take_61 ?_
    refine c_sipush (v := nI 1023) dX9_take_62 (by decide) ?_
    refine c_iand dX9_take_65 ?_
    refine c_iald dX9_take_66 ⟨(tK.cis (hS.rk (c := 7) (k := 0) t_x0 rfl (by omega)) (Option.some_ne_none _)), (vk_cast (hS.rl (c := 7) (k := 0) t_x0 rfl (by decide) (by omega)) ok.1)⟩ ?_
    have ok := ok.2
    have tq_67 : tK S 21 (some (x0 + 1)) := tK_some (tK.cis (hS.rk (c := 7) (k := 0) t_x0 rfl (by omega)) (Option.some_ne_none _)).2
    refine c_iast hG dX9_take_67 ⟨(tK.cis (hS.rk (c := 7) (k := 0) t_x0 rfl (by omega)) (Option.some_ne_none _)), (vk_cast (hS.rl (c := 7) (k := 0) t_x0 rfl (by decide) (by omega)) ok.1)⟩ ?_
    have hS := hS.Aw (k := 21) (x0 + 1) (((cI S 6 x0) + x4) &&& (nI 1023)).toNatClampNeg (cA S (x0 + 1) ((((cI S 6 x0) + x4) - (nI 1)) &&& (nI 1023)).toNatClampNeg) tq_67 (by decide)
    have hM := hM.A (x0 + 1) (((cI S 6 x0) + x4) &&& (nI 1023)).toNatClampNeg (cA S (x0 + 1) ((((cI S 6 x0) + x4) - (nI 1)) &&& (nI 1023)).toNatClampNeg)
    have ok := ok.2
    refine c_iinc_4 (v := (x4 + (-1))) dX9_take_68 rfl (by first | rfl | (congr 1)) (by decide) (by simp [zok, zg, zcat_rf]) ?_
    refine c_goto (tgt := 29) dX9_take_71 (by decide) ?_
    exact cX.cutz (hrec _ _ _ _ (csA S (x0 + 1) (((cI S 6 x0) + x4) &&& (nI 1023)).toNatClampNeg (cA S (x0 + 1) ((((cI S 6 x0) + x4) - (nI 1)) &&& (nI 1023)).toNatClampNeg)) hS hM t_x0 (tK_A t_x3) ok hx) ⟨rfl, rfl, rfl, rfl, trivial⟩
def KL_X9_take_29 (N g H T : Nat) : Nat → Nat → Int32 → Option Nat → Int32 → cS → Nat × Nat × Int32 × Option Nat × cS
  | 0, x0, x2, x3, x4, S => (0, 0, 0, none, S)
  | n + 1, x0, x2, x3, x4, S => KB_X9_take_29 N g H T (KL_X9_take_29 N g H T n) x0 x2 x3 x4 S
def KOL_X9_take_29 (N g H T : Nat) : Nat → Nat → Int32 → Option Nat → Int32 → cS → Prop
  | 0, _, _, _, _, _ => False
  | n + 1, x0, x2, x3, x4, S => KOB_X9_take_29 N g H T (KOL_X9_take_29 N g H T n) x0 x2 x3 x4 S
set_option maxRecDepth 100000 in
set_option maxHeartbeats 4000000 in
theorem kl_X9_take_29 {G : zG} {o : cO} {u g H T N : Nat} {S0 : cS} {Q : Option Value → cS → Prop} {X : Nat × Nat × Int32 × Option Nat × cS → Prop} (hG : zOK G) (hX0 : ∀ (x0 : Nat) (x2 : Int32) (x3 : Option Nat) (S' : cS), St u g H T S' → Mono S0 S' → isO g H 7 x0 → tK S' 5 x3 → X (0, x0, x2, x3, S') → cX G o dX9_take mX9_take 74 [some (va_rf (some x0)), none, some (.int x2), some (va_rf x3), none] [] S' Q) : ∀ (n : Nat) (x0 : Nat) (x2 : Int32) (x3 : Option Nat) (x4 : Int32) (S : cS), St u g H T S → Mono S0 S → isO g H 7 x0 → tK S 5 x3 → KOL_X9_take_29 N g H T n x0 x2 x3 x4 S → X (KL_X9_take_29 N g H T n x0 x2 x3 x4 S) → cX G o dX9_take mX9_take 29 [some (va_rf (some x0)), none, some (.int x2), some (va_rf x3), some (.int x4)] [] S Q := by
  intro n
  induction n with
  | zero => intro x0 x2 x3 x4 S hS hM t_x0 t_x3 ok; exact absurd ok id
  | succ n ih =>
    intro x0 x2 x3 x4 S hS hM t_x0 t_x3 ok hx
    exact kbb_X9_take_29 hG hX0 (rec := KL_X9_take_29 N g H T n) (rok := KOL_X9_take_29 N g H T n) (fun x0 x2 x3 x4 S hS hM t_x0 t_x3 ok hx => ih x0 x2 x3 x4 S hS hM t_x0 t_x3 ok hx) hS hM t_x0 t_x3 ok hx
def KA_X9_take_29 (N g H T : Nat) (x0 : Nat) (x2 : Int32) (x3 : Option Nat) (x4 : Int32) (S : cS) (z : Nat × Nat × Int32 × Option Nat × cS) : Option Nat × cS := (KF_X9_take_74 N g H T (z.2.1) (z.2.2.1) (z.2.2.2.1) z.2.2.2.2)
def KOA_X9_take_29 (N g H T : Nat) (x0 : Nat) (x2 : Int32) (x3 : Option Nat) (x4 : Int32) (S : cS) (z : Nat × Nat × Int32 × Option Nat × cS) : Prop := KO_X9_take_74 N g H T (z.2.1) (z.2.2.1) (z.2.2.2.1) z.2.2.2.2
set_option maxRecDepth 100000 in
set_option maxHeartbeats 4000000 in
theorem kd_X9_take_29 {G : zG} {o : cO} {u g H T N : Nat} {S : cS} {S0 : cS} {Q : Option Value → cS → Prop} {X : Option Nat × cS → Prop} (hG : zOK G) (hR : ∀ v S', St u g H T S' → Mono S0 S' → tK S' 5 v → X (v, S') → Q (some (va_rf v)) S') {x0 : Nat} {x2 : Int32} {x3 : Option Nat} {x4 : Int32} (hS : St u g H T S) (hM : Mono S0 S) (t_x0 : isO g H 7 x0) (t_x3 : tK S 5 x3) (ok : KOL_X9_take_29 N g H T N x0 x2 x3 x4 S ∧ KOA_X9_take_29 N g H T x0 x2 x3 x4 S (KL_X9_take_29 N g H T N x0 x2 x3 x4 S)) (hx : X (KA_X9_take_29 N g H T x0 x2 x3 x4 S (KL_X9_take_29 N g H T N x0 x2 x3 x4 S))) : cX G o dX9_take mX9_take 29 [some (va_rf (some x0)), none, some (.int x2), some (va_rf x3), some (.int x4)] [] S Q := by
  refine kl_X9_take_29 hG ?_ N x0 x2 x3 x4 S hS hM t_x0 t_x3 ok.1 (X := fun z => KOA_X9_take_29 N g H T x0 x2 x3 x4 S z ∧ X (KA_X9_take_29 N g H T x0 x2 x3 x4 S z)) ⟨ok.2, hx⟩
  · intro x0' x2' x3' S' hS hM t_x0 t_x3 hz
    obtain ⟨ok, hx⟩ := hz
    unfold KOA_X9_take_29 at ok
    unfold KA_X9_take_29 at hx
    exact cX.cutz (kb_X9_take_74 hG hR hS hM t_x0 t_x3 ok hx) ⟨rfl, rfl, rfl, trivial⟩
def KF_X9_take_0 (N g H T : Nat) (x0 : Nat) (x1 : Int32) (S : cS) : Option Nat × cS := (if 0 ≤ (k_X9_slot N g H T S x0 x1) then (KA_X9_take_29 N g H T x0 (k_X9_slot N g H T S x0 x1) (cP S (x0 + 6) (k_X9_slot N g H T S x0 x1).toNatClampNeg) x1 (csP S (x0 + 6) (k_X9_slot N g H T S x0 x1).toNatClampNeg (none : Option Nat)) (KL_X9_take_29 N g H T N x0 (k_X9_slot N g H T S x0 x1) (cP S (x0 + 6) (k_X9_slot N g H T S x0 x1).toNatClampNeg) x1 (csP S (x0 + 6) (k_X9_slot N g H T S x0 x1).toNatClampNeg (none : Option Nat)))) else ((none : Option Nat), S))
def KO_X9_take_0 (N g H T : Nat) (x0 : Nat) (x1 : Int32) (S : cS) : Prop := (p_X9_slot N g H T S x0 x1) ∧ ((0 ≤ (k_X9_slot N g H T S x0 x1) → (vp_in (k_X9_slot N g H T S x0 x1) 1000) ∧ (vp_in (k_X9_slot N g H T S x0 x1) 1000) ∧ (KOL_X9_take_29 N g H T N x0 (k_X9_slot N g H T S x0 x1) (cP S (x0 + 6) (k_X9_slot N g H T S x0 x1).toNatClampNeg) x1 (csP S (x0 + 6) (k_X9_slot N g H T S x0 x1).toNatClampNeg (none : Option Nat)) ∧ KOA_X9_take_29 N g H T x0 (k_X9_slot N g H T S x0 x1) (cP S (x0 + 6) (k_X9_slot N g H T S x0 x1).toNatClampNeg) x1 (csP S (x0 + 6) (k_X9_slot N g H T S x0 x1).toNatClampNeg (none : Option Nat)) (KL_X9_take_29 N g H T N x0 (k_X9_slot N g H T S x0 x1) (cP S (x0 + 6) (k_X9_slot N g H T S x0 x1).toNatClampNeg) x1 (csP S (x0 + 6) (k_X9_slot N g H T S x0 x1).toNatClampNeg (none : Option Nat))))) ∧ (¬ 0 ≤ (k_X9_slot N g H T S x0 x1) → True))
set_option maxRecDepth 100000 in
set_option maxHeartbeats 4000000 in
theorem kb_X9_take_0 {G : zG} {o : cO} {u g H T N : Nat} {S : cS} {S0 : cS} {Q : Option Value → cS → Prop} {X : Option Nat × cS → Prop} (hG : zOK G) (hR : ∀ v S', St u g H T S' → Mono S0 S' → tK S' 5 v → X (v, S') → Q (some (va_rf v)) S') {x0 : Nat} {x1 : Int32} (hS : St u g H T S) (hM : Mono S0 S) (t_x0 : isO g H 7 x0) (ok : KO_X9_take_0 N g H T x0 x1 S) (hx : X (KF_X9_take_0 N g H T x0 x1 S)) : cX G o dX9_take mX9_take 0 [some (va_rf (some x0)), some (.int x1), none, none, none] [] S Q := by
  unfold KO_X9_take_0 at ok
  unfold KF_X9_take_0 at hx
  refine c_aload_nQ dX9_take_0 rfl rfl ?_
  refine c_iload_n dX9_take_1 rfl rfl ?_
  refine c_V1iE (ci := 7) (rr := (RX9, TX9, 13)) (y' := mX9_slot) dX9_take_2 lX9_40 kX9_slot ⟨by decide, by decide⟩ rfl rfl (by decide) (hS.k t_x0) (Nat.le_of_ble_eq_true rfl) (kc_X9_slot hG hS t_x0 ok.1) ?_
  have ok := ok.2
  refine c_istore_2 dX9_take_5 (by decide) rfl ?_
  refine c_iload_n dX9_take_6 rfl rfl ?_
  refine c_if_ge (tgt := 12) dX9_take_7 (by decide) (fun c_7 => ?_) (fun c_7 => ?_)
  · have ok := ok.1 c_7
    have hx := xif_p c_7 hx
    refine c_aload_nQ dX9_take_12 rfl rfl ?_
    refine c_getS (C := RX9) (T := TX9) (N := 13) (ci := 7) (k := 5) ⟨rfl, inT9, by decide, fX9_29⟩ (by decide) (by decide) (by decide) dX9_take_13 (hS.k t_x0) (hS.r (c := 7) t_x0 rfl (by omega)) ?_
    refine c_iload_n dX9_take_16 rfl rfl ?_
    have p_17 := hS.row24 (hS.rk (c := 7) (k := 5) t_x0 rfl (by omega)) (k_X9_slot N g H T S x0 x1).toNatClampNeg
    refine c_aald (t := 4) (ty := (.object "QuorumLedger$Message")) rfl rfl (by decide) dX9_take_17 ⟨(tK.cis (hS.rk (c := 7) (k := 5) t_x0 rfl (by omega)) (Option.some_ne_none _)), (vk_cast (hS.rl (c := 7) (k := 5) t_x0 rfl (by decide) (by omega)) ok.1)⟩ ?_
    have ok := ok.2
    refine c_astore_3Q dX9_take_18 (by decide) rfl ?_
    refine c_aload_nQ dX9_take_19 rfl rfl ?_
    refine c_getS (C := RX9) (T := TX9) (N := 13) (ci := 7) (k := 5) ⟨rfl, inT9, by decide, fX9_29⟩ (by decide) (by decide) (by decide) dX9_take_20 (hS.k t_x0) (hS.r (c := 7) t_x0 rfl (by omega)) ?_
    refine c_iload_n dX9_take_23 rfl rfl ?_
    refine c_null' dX9_take_24 ?_
    have hS2 := hS.P24 (i := (k_X9_slot N g H T S x0 x1).toNatClampNeg) ((hS.rk (c := 7) (k := 5) t_x0 rfl (by omega)) _ rfl) tK_none
    refine c_aast (t := 4) (ci := 4) (rr := (RX5, TX5, 7)) rfl rfl (by decide) (by decide) dX9_take_25 ⟨(tK.cis (hS.rk (c := 7) (k := 5) t_x0 rfl (by omega)) (Option.some_ne_none _)), (vk_cast (hS.rl (c := 7) (k := 5) t_x0 rfl (by decide) (by omega)) ok.1), tKor tK_none⟩ ?_
    have hS := hS2
    have hM := hM.P (x0 + 6) (k_X9_slot N g H T S x0 x1).toNatClampNeg (none : Option Nat)
    have ok := ok.2
    refine c_iload_n dX9_take_26 rfl rfl ?_
    refine c_istore_4 dX9_take_27 (by decide) (by simp [zok, zg, zcat_rf]) ?_
    exact cX.cutz (kd_X9_take_29 hG hR hS hM t_x0 (tK_P p_17) ok hx) ⟨rfl, rfl, rfl, rfl, trivial⟩
  · have ok := ok.2 c_7
    have hx := xif_n c_7 hx
    refine c_null' dX9_take_10 ?_
    exact c_areturn rfl (Or.inl ⟨_, rfl⟩) dX9_take_11 (hR _ _ hS hM tK_none hx)
def k_X9_take (N g H T : Nat) (S : cS) (a0 : Nat) (x1 : Int32) : Option Nat × cS := KF_X9_take_0 N g H T a0 x1 S
def p_X9_take (N g H T : Nat) (S : cS) (a0 : Nat) (x1 : Int32) : Prop := KO_X9_take_0 N g H T a0 x1 S
set_option maxRecDepth 100000 in
set_option maxHeartbeats 4000000 in
theorem kc_X9_take {G : zG} {o : cO} {u g H T N : Nat} {S : cS} (hG : zOK G) {a0 : Nat} {x1 : Int32} (hS : St u g H T S) (t_x0 : isO g H 7 a0) (ok : p_X9_take N g H T S a0 x1) : cCq G o dX9_take mX9_take [.ref a0, .int x1] S (fun v S' => (v = (k_X9_take N g H T S a0 x1).1 ∧ S' = (k_X9_take N g H T S a0 x1).2) ∧ St u g H T S' ∧ Mono S S' ∧ tK S' 5 v) := by
  refine cC.ofX rfl (by exact Nat.le_of_ble_eq_true rfl) ?_
  show cX G o dX9_take mX9_take 0 [some (va_rf (some a0)), some (.int x1), none, none, none] [] S _
  exact cX.cutz (kb_X9_take_0 (X := fun F => F = k_X9_take N g H T S a0 x1) hG (fun v S' h1 h2 h3 h => ⟨v, rfl, ⟨by rw [← h], by rw [← h]⟩, h1, h2, h3⟩) hS Mono.rfl' t_x0 ok rfl) ⟨rfl, rfl, trivial⟩
/-! X10_land -/
def KF_X10_land_117 (N g H T : Nat) (x6 : Int32) (S : cS) : Int32 × cS := (x6, S)
def KO_X10_land_117 (N g H T : Nat) (x6 : Int32) (S : cS) : Prop := True
set_option maxRecDepth 100000 in
set_option maxHeartbeats 4000000 in
theorem kb_X10_land_117 {G : zG} {o : cO} {u g H T N : Nat} {S : cS} {S0 : cS} {Q : Option Value → cS → Prop} {X : Int32 × cS → Prop} (hG : zOK G) (hR : ∀ v S', St u g H T S' → Mono S0 S' → X (v, S') → Q (some (.int v)) S') {x6 : Int32} (hS : St u g H T S) (hM : Mono S0 S) (ok : KO_X10_land_117 N g H T x6 S) (hx : X (KF_X10_land_117 N g H T x6 S)) : cX G o dX10_land mX10_land 117 [none, none, none, none, none, none, some (.int x6)] [] S Q := by
  unfold KO_X10_land_117 at ok
  unfold KF_X10_land_117 at hx
  refine c_iload dX10_land_117 rfl ?_
  exact c_ireturn rfl rfl dX10_land_119 (hR _ _ hS hM hx)
def KF_X10_land_100 (N g H T : Nat) (x0 : Nat) (x4 : Option Nat) (S : cS) : Int32 × cS := (KF_X10_land_117 N g H T (k_X5_at N g H T S (za x4) (nI 0)) (k_X9_drop N g H T S (g + 11) x4))
def KO_X10_land_100 (N g H T : Nat) (x0 : Nat) (x4 : Option Nat) (S : cS) : Prop := (¬ x4 = none ∧ p_X5_at N g H T S (za x4) (nI 0)) ∧ (p_X9_drop N g H T S (g + 11) x4) ∧ KO_X10_land_117 N g H T (k_X5_at N g H T S (za x4) (nI 0)) (k_X9_drop N g H T S (g + 11) x4)
set_option maxRecDepth 100000 in
set_option maxHeartbeats 4000000 in
theorem kb_X10_land_100 {G : zG} {o : cO} {u g H T N : Nat} {S : cS} {S0 : cS} {Q : Option Value → cS → Prop} {X : Int32 × cS → Prop} (hG : zOK G) (hR : ∀ v S', St u g H T S' → Mono S0 S' → X (v, S') → Q (some (.int v)) S') {x0 : Nat} {x4 : Option Nat} (hS : St u g H T S) (hM : Mono S0 S) (t_x0 : isO g H 8 x0) (t_x4 : tK S 5 x4) (ok : KO_X10_land_100 N g H T x0 x4 S) (hx : X (KF_X10_land_100 N g H T x0 x4 S)) : cX G o dX10_land mX10_land 100 [some (va_rf (some x0)), none, none, none, some (va_rf x4), none, none] [] S Q := by
  unfold KO_X10_land_100 at ok
  unfold KF_X10_land_100 at hx
  refine c_aloadQ dX10_land_100 rfl ?_
  refine c_iconst (v := nI 0) dX10_land_102 (by decide) ?_
  have nn_103 := ok.1.1
  refine c_V1iE (ci := 4) (rr := (RX5, TX5, 7)) (y' := mX5_at) dX10_land_103 lX10_120 kX5_at ⟨by decide, by decide⟩ rfl rfl (by decide) (tK.cis t_x4 nn_103) (Nat.le_of_ble_eq_true rfl) (kc_X5_at hG hS (t_x4 _ (za_of nn_103)) ok.1.2) ?_
  have ok := ok.2
  refine c_istore_6 dX10_land_106 (by decide) rfl ?_
  refine c_aload_nQ dX10_land_108 rfl rfl ?_
  refine c_getS (C := RX10) (T := TX10) (N := 12) (ci := 8) (k := 6) ⟨rfl, inT10, by decide, fX10_12⟩ (by decide) (by decide) (by decide) dX10_land_109 (hS.k t_x0) (hS.r (c := 8) t_x0 rfl (by omega)) ?_
  refine c_aloadQ dX10_land_112 rfl ?_
  refine c_V1vK (ci := 7) (rr := (RX9, TX9, 13)) (y' := mX9_drop) dX10_land_114 lX10_125 kX9_drop ⟨by decide, by decide⟩ rfl rfl (by decide) (hS.k (o86 t_x0)) (Nat.le_of_ble_eq_true rfl) (kc_X9_drop hG hS (o86 t_x0) t_x4 ok.1) (fun ⟨hS, hm_114⟩ => ?_)
  have hM := hM.trans hm_114
  have ok := ok.2
  exact cX.cutz (kb_X10_land_117 hG hR hS hM  ok hx) ⟨rfl, trivial⟩
def KF_X10_land_92 (N g H T : Nat) (x0 : Nat) (x4 : Option Nat) (x5 : Option Nat) (s0 : Int32) (S : cS) : Int32 × cS := (if s0 = 0 then (KF_X10_land_100 N g H T x0 x4 S) else (KF_X10_land_100 N g H T x0 x4 (k_X7_settle N g H T S x5)))
def KO_X10_land_92 (N g H T : Nat) (x0 : Nat) (x4 : Option Nat) (x5 : Option Nat) (s0 : Int32) (S : cS) : Prop := ((s0 = 0 → KO_X10_land_100 N g H T x0 x4 S) ∧ (¬ s0 = 0 → (p_X7_settle N g H T S x5) ∧ KO_X10_land_100 N g H T x0 x4 (k_X7_settle N g H T S x5)))
set_option maxRecDepth 100000 in
set_option maxHeartbeats 4000000 in
theorem kb_X10_land_92 {G : zG} {o : cO} {u g H T N : Nat} {S : cS} {S0 : cS} {Q : Option Value → cS → Prop} {X : Int32 × cS → Prop} (hG : zOK G) (hR : ∀ v S', St u g H T S' → Mono S0 S' → X (v, S') → Q (some (.int v)) S') {x0 : Nat} {x4 : Option Nat} {x5 : Option Nat} {s0 : Int32} (hS : St u g H T S) (hM : Mono S0 S) (t_x0 : isO g H 8 x0) (t_x4 : tK S 5 x4) (t_x5 : tN g H x5) (ok : KO_X10_land_92 N g H T x0 x4 x5 s0 S) (hx : X (KF_X10_land_92 N g H T x0 x4 x5 s0 S)) : cX G o dX10_land mX10_land 92 [some (va_rf (some x0)), none, none, none, some (va_rf x4), some (va_rf x5), none] [.int s0] S Q := by
  unfold KO_X10_land_92 at ok
  unfold KF_X10_land_92 at hx
  refine c_if_eq (tgt := 100) dX10_land_92 (by decide) (fun c_92 => ?_) (fun c_92 => ?_)
  · have ok := ok.1 c_92
    have hx := xif_p c_92 hx
    exact cX.cutz (kb_X10_land_100 hG hR hS hM t_x0 t_x4 ok hx) ⟨rfl, rfl, trivial⟩
  · have ok := ok.2 c_92
    have hx := xif_n c_92 hx
    refine c_aloadQ dX10_land_95 rfl ?_
    refine c_S1vK (y' := mX7_settle) dX10_land_97 lX10_85 kX7_settle ⟨by decide, by decide⟩ (Nat.le_of_ble_eq_true rfl) (kc_X7_settle hG hS t_x5 ok.1) (fun ⟨hS, hm_97⟩ => ?_)
    have hM := hM.trans hm_97
    have ok := ok.2
    exact cX.cutz (kb_X10_land_100 hG hR hS hM t_x0 (hm_97.tK t_x4 (by decide)) ok hx) ⟨rfl, rfl, trivial⟩
def KF_X10_land_81 (N g H T : Nat) (x0 : Nat) (x2 : Int32) (x4 : Option Nat) (x5 : Option Nat) (s0 : Int32) (S : cS) : Int32 × cS := (if s0 = 0 then (KF_X10_land_100 N g H T x0 x4 S) else (KF_X10_land_92 N g H T x0 x4 x5 ((k_X3_receive N g H T S x5 x2 x4).1) (k_X3_receive N g H T S x5 x2 x4).2))
def KO_X10_land_81 (N g H T : Nat) (x0 : Nat) (x2 : Int32) (x4 : Option Nat) (x5 : Option Nat) (s0 : Int32) (S : cS) : Prop := ((s0 = 0 → KO_X10_land_100 N g H T x0 x4 S) ∧ (¬ s0 = 0 → (p_X3_receive N g H T S x5 x2 x4) ∧ KO_X10_land_92 N g H T x0 x4 x5 ((k_X3_receive N g H T S x5 x2 x4).1) (k_X3_receive N g H T S x5 x2 x4).2))
set_option maxRecDepth 100000 in
set_option maxHeartbeats 4000000 in
theorem kb_X10_land_81 {G : zG} {o : cO} {u g H T N : Nat} {S : cS} {S0 : cS} {Q : Option Value → cS → Prop} {X : Int32 × cS → Prop} (hG : zOK G) (hR : ∀ v S', St u g H T S' → Mono S0 S' → X (v, S') → Q (some (.int v)) S') {x0 : Nat} {x2 : Int32} {x4 : Option Nat} {x5 : Option Nat} {s0 : Int32} (hS : St u g H T S) (hM : Mono S0 S) (t_x0 : isO g H 8 x0) (t_x4 : tK S 5 x4) (t_x5 : tN g H x5) (ok : KO_X10_land_81 N g H T x0 x2 x4 x5 s0 S) (hx : X (KF_X10_land_81 N g H T x0 x2 x4 x5 s0 S)) : cX G o dX10_land mX10_land 81 [some (va_rf (some x0)), none, some (.int x2), none, some (va_rf x4), some (va_rf x5), none] [.int s0] S Q := by
  unfold KO_X10_land_81 at ok
  unfold KF_X10_land_81 at hx
  refine c_if_eq (tgt := 100) dX10_land_81 (by decide) (fun c_81 => ?_) (fun c_81 => ?_)
  · have ok := ok.1 c_81
    have hx := xif_p c_81 hx
    exact cX.cutz (kb_X10_land_100 hG hR hS hM t_x0 t_x4 ok hx) ⟨rfl, rfl, trivial⟩
  · have ok := ok.2 c_81
    have hx := xif_n c_81 hx
    refine c_aloadQ dX10_land_84 rfl ?_
    refine c_iload_n dX10_land_86 rfl rfl ?_
    refine c_aloadQ dX10_land_87 rfl ?_
    refine c_S3iK (y' := mX3_receive) dX10_land_89 lX10_114 kX3_receive ⟨by decide, by decide⟩ (Nat.le_of_ble_eq_true rfl) (kc_X3_receive hG hS t_x5 t_x4 ok.1) (fun ⟨hS, hm_89⟩ => ?_)
    have hM := hM.trans hm_89
    have ok := ok.2
    exact cX.cutz (kb_X10_land_92 hG hR hS hM t_x0 (hm_89.tK t_x4 (by decide)) t_x5 ok hx) ⟨rfl, rfl, rfl, trivial⟩
def KF_X10_land_57 (N g H T : Nat) (x0 : Nat) (x2 : Int32) (x4 : Option Nat) (s0 : Option Nat) (S : cS) : Int32 × cS := (if s0 = none then (KF_X10_land_100 N g H T x0 x4 S) else (if (cI S 8 (za s0)) = 0 then (KF_X10_land_100 N g H T x0 x4 S) else (KF_X10_land_81 N g H T x0 x2 x4 s0 ((k_X1_look N g H T S (g + 9) x4).1) (k_X1_look N g H T S (g + 9) x4).2)))
def KO_X10_land_57 (N g H T : Nat) (x0 : Nat) (x2 : Int32) (x4 : Option Nat) (s0 : Option Nat) (S : cS) : Prop := ((s0 = none → KO_X10_land_100 N g H T x0 x4 S) ∧ (¬ s0 = none → (((cI S 8 (za s0)) = 0 → KO_X10_land_100 N g H T x0 x4 S) ∧ (¬ (cI S 8 (za s0)) = 0 → (p_X1_look N g H T S (g + 9) x4) ∧ KO_X10_land_81 N g H T x0 x2 x4 s0 ((k_X1_look N g H T S (g + 9) x4).1) (k_X1_look N g H T S (g + 9) x4).2))))
set_option maxRecDepth 100000 in
set_option maxHeartbeats 4000000 in
theorem kb_X10_land_57 {G : zG} {o : cO} {u g H T N : Nat} {S : cS} {S0 : cS} {Q : Option Value → cS → Prop} {X : Int32 × cS → Prop} (hG : zOK G) (hR : ∀ v S', St u g H T S' → Mono S0 S' → X (v, S') → Q (some (.int v)) S') {x0 : Nat} {x2 : Int32} {x4 : Option Nat} {s0 : Option Nat} (hS : St u g H T S) (hM : Mono S0 S) (t_x0 : isO g H 8 x0) (t_x4 : tK S 5 x4) (t_s0 : tN g H s0) (ok : KO_X10_land_57 N g H T x0 x2 x4 s0 S) (hx : X (KF_X10_land_57 N g H T x0 x2 x4 s0 S)) : cX G o dX10_land mX10_land 57 [some (va_rf (some x0)), none, some (.int x2), none, some (va_rf x4), none, none] [va_rf s0] S Q := by
  unfold KO_X10_land_57 at ok
  unfold KF_X10_land_57 at hx
  refine c_astore_5Q dX10_land_57 (by decide) (by simp [zok, zg, zcat_rf]) ?_
  refine c_aloadQ dX10_land_59 rfl ?_
  refine c_ifnullI (tgt := 100) dX10_land_61 (by decide) (fun c_61 => ?_) (fun c_61 => ?_)
  · have ok := ok.1 c_61
    have hx := xif_p c_61 hx
    exact cX.cutz (kb_X10_land_100 hG hR hS hM t_x0 t_x4 ok hx) ⟨rfl, rfl, trivial⟩
  · have ok := ok.2 c_61
    have hx := xif_n c_61 hx
    refine c_aloadQ dX10_land_64 rfl ?_
    refine c_getI (C := RX6) (T := TX6) (N := 19) (ci := 5) (k := 8) ⟨rfl, inT6, by decide, fX10_106⟩ (by decide) (by decide) (by decide) dX10_land_66 (hS.kN t_s0 c_61) ?_
    refine c_if_eq (tgt := 100) dX10_land_69 (by decide) (fun c_69 => ?_) (fun c_69 => ?_)
    · have ok := ok.1 c_69
      have hx := xif_p c_69 hx
      exact cX.cutz (kb_X10_land_100 hG hR hS hM t_x0 t_x4 ok hx) ⟨rfl, rfl, trivial⟩
    · have ok := ok.2 c_69
      have hx := xif_n c_69 hx
      refine c_aload_nQ dX10_land_72 rfl rfl ?_
      refine c_getS (C := RX10) (T := TX10) (N := 12) (ci := 8) (k := 7) ⟨rfl, inT10, by decide, fX10_43⟩ (by decide) (by decide) (by decide) dX10_land_73 (hS.k t_x0) (hS.r (c := 8) t_x0 rfl (by omega)) ?_
      refine c_aloadQ dX10_land_76 rfl ?_
      refine c_V1iK (ci := 1) (rr := (RX1, TX1, 3)) (y' := mX1_look) dX10_land_78 lX10_110 kX1_look ⟨by decide, by decide⟩ rfl rfl (by decide) (hS.k (o87 t_x0)) (Nat.le_of_ble_eq_true rfl) (kc_X1_look hG hS (o87 t_x0) t_x4 ok.1) (fun ⟨hS, hm_78⟩ => ?_)
      have hM := hM.trans hm_78
      have ok := ok.2
      exact cX.cutz (kb_X10_land_81 hG hR hS hM t_x0 (hm_78.tK t_x4 (by decide)) t_s0 ok hx) ⟨rfl, rfl, rfl, rfl, trivial⟩
def KF_X10_land_56 (N g H T : Nat) (x0 : Nat) (x2 : Int32) (x4 : Option Nat) (S : cS) : Int32 × cS := (KF_X10_land_57 N g H T x0 x2 x4 (none : Option Nat) S)
def KO_X10_land_56 (N g H T : Nat) (x0 : Nat) (x2 : Int32) (x4 : Option Nat) (S : cS) : Prop := KO_X10_land_57 N g H T x0 x2 x4 (none : Option Nat) S
set_option maxRecDepth 100000 in
set_option maxHeartbeats 4000000 in
theorem kb_X10_land_56 {G : zG} {o : cO} {u g H T N : Nat} {S : cS} {S0 : cS} {Q : Option Value → cS → Prop} {X : Int32 × cS → Prop} (hG : zOK G) (hR : ∀ v S', St u g H T S' → Mono S0 S' → X (v, S') → Q (some (.int v)) S') {x0 : Nat} {x2 : Int32} {x4 : Option Nat} (hS : St u g H T S) (hM : Mono S0 S) (t_x0 : isO g H 8 x0) (t_x4 : tK S 5 x4) (ok : KO_X10_land_56 N g H T x0 x2 x4 S) (hx : X (KF_X10_land_56 N g H T x0 x2 x4 S)) : cX G o dX10_land mX10_land 56 [some (va_rf (some x0)), none, some (.int x2), none, some (va_rf x4), none, none] [] S Q := by
  unfold KO_X10_land_56 at ok
  unfold KF_X10_land_56 at hx
  refine c_null' dX10_land_56 ?_
  exact cX.cutz (kb_X10_land_57 hG hR hS hM t_x0 t_x4 tN_none ok hx) ⟨rfl, rfl, rfl, trivial⟩
def KF_X10_land_26 (N g H T : Nat) (x0 : Nat) (x2 : Int32) (x3 : Int32) (s0 : Option Nat) (S : cS) : Int32 × cS := (if s0 = none then ((-1), S) else (if x3 < 0 then (KF_X10_land_56 N g H T x0 x2 s0 S) else (if (cI S 2 x0) ≤ x3 then (KF_X10_land_56 N g H T x0 x2 s0 S) else (KF_X10_land_57 N g H T x0 x2 s0 (cP S (g + 30) x3.toNatClampNeg) S))))
def KO_X10_land_26 (N g H T : Nat) (x0 : Nat) (x2 : Int32) (x3 : Int32) (s0 : Option Nat) (S : cS) : Prop := ((s0 = none → True) ∧ (¬ s0 = none → ((x3 < 0 → KO_X10_land_56 N g H T x0 x2 s0 S) ∧ (¬ x3 < 0 → (((cI S 2 x0) ≤ x3 → KO_X10_land_56 N g H T x0 x2 s0 S) ∧ (¬ (cI S 2 x0) ≤ x3 → (vp_in x3 H) ∧ KO_X10_land_57 N g H T x0 x2 s0 (cP S (g + 30) x3.toNatClampNeg) S))))))
set_option maxRecDepth 100000 in
set_option maxHeartbeats 4000000 in
theorem kb_X10_land_26 {G : zG} {o : cO} {u g H T N : Nat} {S : cS} {S0 : cS} {Q : Option Value → cS → Prop} {X : Int32 × cS → Prop} (hG : zOK G) (hR : ∀ v S', St u g H T S' → Mono S0 S' → X (v, S') → Q (some (.int v)) S') {x0 : Nat} {x2 : Int32} {x3 : Int32} {s0 : Option Nat} (hS : St u g H T S) (hM : Mono S0 S) (t_x0 : isO g H 8 x0) (t_s0 : tK S 5 s0) (ok : KO_X10_land_26 N g H T x0 x2 x3 s0 S) (hx : X (KF_X10_land_26 N g H T x0 x2 x3 s0 S)) : cX G o dX10_land mX10_land 26 [some (va_rf (some x0)), none, some (.int x2), some (.int x3), none, none, none] [va_rf s0] S Q := by
  unfold KO_X10_land_26 at ok
  unfold KF_X10_land_26 at hx
  refine c_astore_4Q dX10_land_26 (by decide) rfl ?_
  refine c_aloadQ dX10_land_28 rfl ?_
  refine c_ifnonnullI (tgt := 35) dX10_land_30 (by decide) (fun c_30 => ?_) (fun c_30 => ?_)
  · have ok := ok.2 c_30
    have hx := xif_n c_30 hx
    refine c_iload_n dX10_land_35 rfl rfl ?_
    refine c_if_lt (tgt := 56) dX10_land_36 (by decide) (fun c_36 => ?_) (fun c_36 => ?_)
    · have ok := ok.1 c_36
      have hx := xif_p c_36 hx
      exact cX.cutz (kb_X10_land_56 hG hR hS hM t_x0 t_s0 ok hx) ⟨rfl, rfl, rfl, trivial⟩
    · have ok := ok.2 c_36
      have hx := xif_n c_36 hx
      refine c_iload_n dX10_land_39 rfl rfl ?_
      refine c_aload_nQ dX10_land_40 rfl rfl ?_
      refine c_getI (C := RX10) (T := TX10) (N := 12) (ci := 8) (k := 2) ⟨rfl, inT10, by decide, fX10_50⟩ (by decide) (by decide) (by decide) dX10_land_41 (hS.k t_x0) ?_
      refine c_icmp_ge (tgt := 56) dX10_land_44 (by decide) (fun c_44 => ?_) (fun c_44 => ?_)
      · have ok := ok.1 c_44
        have hx := xif_p c_44 hx
        exact cX.cutz (kb_X10_land_56 hG hR hS hM t_x0 t_s0 ok hx) ⟨rfl, rfl, rfl, trivial⟩
      · have ok := ok.2 c_44
        have hx := xif_n c_44 hx
        refine c_aload_nQ dX10_land_47 rfl rfl ?_
        refine c_getS (C := RX10) (T := TX10) (N := 12) (ci := 8) (k := 4) ⟨rfl, inT10, by decide, fX10_64⟩ (by decide) (by decide) (by decide) dX10_land_48 (hS.k t_x0) (hS.r (c := 8) t_x0 rfl (by omega)) ?_
        refine c_iload_n dX10_land_51 rfl rfl ?_
        have p_52 := hS.row25 x3.toNatClampNeg
        refine c_aald (t := 5) (ty := (.object "QuorumLedger$Node")) rfl rfl (by decide) dX10_land_52 ⟨(tK.cis (hS.rk (c := 8) (k := 4) t_x0 rfl (by omega)) (Option.some_ne_none _)), (vk_cast hS.l25 ok.1)⟩ ?_
        have ok := ok.2
        refine c_goto (tgt := 57) dX10_land_53 (by decide) ?_
        exact cX.cutz (kb_X10_land_57 hG hR hS hM t_x0 t_s0 p_52 ok hx) ⟨rfl, rfl, rfl, trivial⟩
  · have ok := ok.1 c_30
    have hx := xif_p c_30 hx
    refine c_iconst (v := -1) dX10_land_33 (by decide) ?_
    exact c_ireturn rfl rfl dX10_land_34 (hR _ _ hS hM hx)
def KF_X10_land_0 (N g H T : Nat) (x0 : Nat) (x1 : Int32) (S : cS) : Int32 × cS := (KF_X10_land_26 N g H T x0 (k_X9_senderOf N g H T S (g + 11) x1) (k_X9_receiverOf N g H T S (g + 11) x1) ((k_X9_take N g H T S (g + 11) x1).1) (k_X9_take N g H T S (g + 11) x1).2)
def KO_X10_land_0 (N g H T : Nat) (x0 : Nat) (x1 : Int32) (S : cS) : Prop := (p_X9_senderOf N g H T S (g + 11) x1) ∧ (p_X9_receiverOf N g H T S (g + 11) x1) ∧ (p_X9_take N g H T S (g + 11) x1) ∧ KO_X10_land_26 N g H T x0 (k_X9_senderOf N g H T S (g + 11) x1) (k_X9_receiverOf N g H T S (g + 11) x1) ((k_X9_take N g H T S (g + 11) x1).1) (k_X9_take N g H T S (g + 11) x1).2
set_option maxRecDepth 100000 in
set_option maxHeartbeats 4000000 in
theorem kb_X10_land_0 {G : zG} {o : cO} {u g H T N : Nat} {S : cS} {S0 : cS} {Q : Option Value → cS → Prop} {X : Int32 × cS → Prop} (hG : zOK G) (hR : ∀ v S', St u g H T S' → Mono S0 S' → X (v, S') → Q (some (.int v)) S') {x0 : Nat} {x1 : Int32} (hS : St u g H T S) (hM : Mono S0 S) (t_x0 : isO g H 8 x0) (ok : KO_X10_land_0 N g H T x0 x1 S) (hx : X (KF_X10_land_0 N g H T x0 x1 S)) : cX G o dX10_land mX10_land 0 [some (va_rf (some x0)), some (.int x1), none, none, none, none, none] [] S Q := by
  unfold KO_X10_land_0 at ok
  unfold KF_X10_land_0 at hx
  refine c_aload_nQ dX10_land_0 rfl rfl ?_
  refine c_getS (C := RX10) (T := TX10) (N := 12) (ci := 8) (k := 6) ⟨rfl, inT10, by decide, fX10_12⟩ (by decide) (by decide) (by decide) dX10_land_1 (hS.k t_x0) (hS.r (c := 8) t_x0 rfl (by omega)) ?_
  refine c_iload_n dX10_land_4 rfl rfl ?_
  refine c_V1iE (ci := 7) (rr := (RX9, TX9, 13)) (y' := mX9_senderOf) dX10_land_5 lX10_95 kX9_senderOf ⟨by decide, by decide⟩ rfl rfl (by decide) (hS.k (o86 t_x0)) (Nat.le_of_ble_eq_true rfl) (kc_X9_senderOf hG hS (o86 t_x0) ok.1) ?_
  have ok := ok.2
  refine c_istore_2 dX10_land_8 (by decide) rfl ?_
  refine c_aload_nQ dX10_land_9 rfl rfl ?_
  refine c_getS (C := RX10) (T := TX10) (N := 12) (ci := 8) (k := 6) ⟨rfl, inT10, by decide, fX10_12⟩ (by decide) (by decide) (by decide) dX10_land_10 (hS.k t_x0) (hS.r (c := 8) t_x0 rfl (by omega)) ?_
  refine c_iload_n dX10_land_13 rfl rfl ?_
  refine c_V1iE (ci := 7) (rr := (RX9, TX9, 13)) (y' := mX9_receiverOf) dX10_land_14 lX10_99 kX9_receiverOf ⟨by decide, by decide⟩ rfl rfl (by decide) (hS.k (o86 t_x0)) (Nat.le_of_ble_eq_true rfl) (kc_X9_receiverOf hG hS (o86 t_x0) ok.1) ?_
  have ok := ok.2
  refine c_istore_3 dX10_land_17 (by decide) rfl ?_
  refine c_aload_nQ dX10_land_18 rfl rfl ?_
  refine c_getS (C := RX10) (T := TX10) (N := 12) (ci := 8) (k := 6) ⟨rfl, inT10, by decide, fX10_12⟩ (by decide) (by decide) (by decide) dX10_land_19 (hS.k t_x0) (hS.r (c := 8) t_x0 rfl (by omega)) ?_
  refine c_iload_n dX10_land_22 rfl rfl ?_
  refine c_V1qK (ci := 7) (rr := (RX9, TX9, 13)) (y' := mX9_take) dX10_land_23 lX10_102 kX9_take ⟨by decide, by decide⟩ rfl rfl (by decide) (hS.k (o86 t_x0)) (Nat.le_of_ble_eq_true rfl) (kc_X9_take hG hS (o86 t_x0) ok.1) (fun ⟨hS, hm_23, tv_23⟩ => ?_)
  have hM := hM.trans hm_23
  have ok := ok.2
  exact cX.cutz (kb_X10_land_26 hG hR hS hM t_x0 tv_23 ok hx) ⟨rfl, rfl, rfl, trivial⟩
def k_X10_land (N g H T : Nat) (S : cS) (a0 : Nat) (x1 : Int32) : Int32 × cS := KF_X10_land_0 N g H T a0 x1 S
def p_X10_land (N g H T : Nat) (S : cS) (a0 : Nat) (x1 : Int32) : Prop := KO_X10_land_0 N g H T a0 x1 S
set_option maxRecDepth 100000 in
set_option maxHeartbeats 4000000 in
theorem kc_X10_land {G : zG} {o : cO} {u g H T N : Nat} {S : cS} (hG : zOK G) {a0 : Nat} {x1 : Int32} (hS : St u g H T S) (t_x0 : isO g H 8 a0) (ok : p_X10_land N g H T S a0 x1) : cCi G o dX10_land mX10_land [.ref a0, .int x1] S (fun v S' => (v = (k_X10_land N g H T S a0 x1).1 ∧ S' = (k_X10_land N g H T S a0 x1).2) ∧ St u g H T S' ∧ Mono S S') := by
  refine cC.ofX rfl (by exact Nat.le_of_ble_eq_true rfl) ?_
  show cX G o dX10_land mX10_land 0 [some (va_rf (some a0)), some (.int x1), none, none, none, none, none] [] S _
  exact cX.cutz (kb_X10_land_0 (X := fun F => F = k_X10_land N g H T S a0 x1) hG (fun v S' h1 h2 h => ⟨v, rfl, ⟨by rw [← h], by rw [← h]⟩, h1, h2⟩) hS Mono.rfl' t_x0 ok rfl) ⟨rfl, rfl, trivial⟩

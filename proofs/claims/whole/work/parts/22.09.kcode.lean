/-! X8_inOrder -/
def KF_X8_inOrder_59 (N g H T : Nat) (s0 : Option Nat) (S : cS) : Option Nat := s0
def KO_X8_inOrder_59 (N g H T : Nat) (s0 : Option Nat) (S : cS) : Prop := True
set_option maxRecDepth 100000 in
set_option maxHeartbeats 4000000 in
theorem kb_X8_inOrder_59 {G : zG} {o : cO} {u g H T N : Nat} {S : cS} {Q : Option Value → cS → Prop} {X : Option Nat → Prop} (hG : zOK G) (hR : ∀ v, tK S 5 v → X v → Q (some (va_rf v)) S) {s0 : Option Nat} (hS : St u g H T S) (t_s0 : tK S 5 s0) (ok : KO_X8_inOrder_59 N g H T s0 S) (hx : X (KF_X8_inOrder_59 N g H T s0 S)) : cX G o dX8_inOrder mX8_inOrder 59 [none, none, none, none, none] [va_rf s0] S Q := by
  unfold KO_X8_inOrder_59 at ok
  unfold KF_X8_inOrder_59 at hx
  exact c_areturn rfl (Or.inl ⟨_, rfl⟩) dX8_inOrder_59 (hR _ t_s0 hx)
def KF_X8_inOrder_27 (N g H T : Nat)  (S : cS) : Option Nat := (none : Option Nat)
def KO_X8_inOrder_27 (N g H T : Nat)  (S : cS) : Prop := True
set_option maxRecDepth 100000 in
set_option maxHeartbeats 4000000 in
theorem kb_X8_inOrder_27 {G : zG} {o : cO} {u g H T N : Nat} {S : cS} {Q : Option Value → cS → Prop} {X : Option Nat → Prop} (hG : zOK G) (hR : ∀ v, tK S 5 v → X v → Q (some (va_rf v)) S) (hS : St u g H T S) (ok : KO_X8_inOrder_27 N g H T S) (hx : X (KF_X8_inOrder_27 N g H T S)) : cX G o dX8_inOrder mX8_inOrder 27 [none, none, none, none, none] [] S Q := by
  unfold KO_X8_inOrder_27 at ok
  unfold KF_X8_inOrder_27 at hx
  refine c_null' dX8_inOrder_27 ?_
  exact c_areturn rfl (Or.inl ⟨_, rfl⟩) dX8_inOrder_28 (hR _ tK_none hx)
def KF_X8_inOrder_0 (N g H T : Nat) (x0 : Nat) (x1 : Int32) (x2 : Int32) (x3 : Int32) (S : cS) : Option Nat := (if (k_X8_page N g H T S x0 x1 x2) < 0 then (KF_X8_inOrder_27 N g H T S) else (if x3 < 0 then (KF_X8_inOrder_27 N g H T S) else (if x3 ≤ ((nI 2) * (cI S 1 x0)) then (if x3 = 0 then (KF_X8_inOrder_59 N g H T (cP S (x0 + 1) (k_X8_page N g H T S x0 x1 x2).toNatClampNeg) S) else (KF_X8_inOrder_59 N g H T (cP S (x0 + 5) (((k_X8_ballots N g H T S x0 (k_X8_page N g H T S x0 x1 x2) (nI 2)) + x3) - (nI 1)).toNatClampNeg) S)) else (KF_X8_inOrder_27 N g H T S))))
def KO_X8_inOrder_0 (N g H T : Nat) (x0 : Nat) (x1 : Int32) (x2 : Int32) (x3 : Int32) (S : cS) : Prop := (p_X8_page N g H T S x0 x1 x2) ∧ (((k_X8_page N g H T S x0 x1 x2) < 0 → KO_X8_inOrder_27 N g H T S) ∧ (¬ (k_X8_page N g H T S x0 x1 x2) < 0 → ((x3 < 0 → KO_X8_inOrder_27 N g H T S) ∧ (¬ x3 < 0 → ((x3 ≤ ((nI 2) * (cI S 1 x0)) → ((x3 = 0 → (vp_in (k_X8_page N g H T S x0 x1 x2) 32) ∧ KO_X8_inOrder_59 N g H T (cP S (x0 + 1) (k_X8_page N g H T S x0 x1 x2).toNatClampNeg) S) ∧ (¬ x3 = 0 → (p_X8_ballots N g H T S x0 (k_X8_page N g H T S x0 x1 x2) (nI 2)) ∧ (vp_in (((k_X8_ballots N g H T S x0 (k_X8_page N g H T S x0 x1 x2) (nI 2)) + x3) - (nI 1)) (64 * T)) ∧ KO_X8_inOrder_59 N g H T (cP S (x0 + 5) (((k_X8_ballots N g H T S x0 (k_X8_page N g H T S x0 x1 x2) (nI 2)) + x3) - (nI 1)).toNatClampNeg) S))) ∧ (¬ x3 ≤ ((nI 2) * (cI S 1 x0)) → KO_X8_inOrder_27 N g H T S))))))
set_option maxRecDepth 100000 in
set_option maxHeartbeats 4000000 in
theorem kb_X8_inOrder_0 {G : zG} {o : cO} {u g H T N : Nat} {S : cS} {Q : Option Value → cS → Prop} {X : Option Nat → Prop} (hG : zOK G) (hR : ∀ v, tK S 5 v → X v → Q (some (va_rf v)) S) {x0 : Nat} {x1 : Int32} {x2 : Int32} {x3 : Int32} (hS : St u g H T S) (t_x0 : isO g H 6 x0) (ok : KO_X8_inOrder_0 N g H T x0 x1 x2 x3 S) (hx : X (KF_X8_inOrder_0 N g H T x0 x1 x2 x3 S)) : cX G o dX8_inOrder mX8_inOrder 0 [some (va_rf (some x0)), some (.int x1), some (.int x2), some (.int x3), none] [] S Q := by
  unfold KO_X8_inOrder_0 at ok
  unfold KF_X8_inOrder_0 at hx
  refine c_aload_nQ dX8_inOrder_0 rfl rfl ?_
  refine c_iload_n dX8_inOrder_1 rfl rfl ?_
  refine c_iload_n dX8_inOrder_2 rfl rfl ?_
  refine c_V2iE (ci := 6) (rr := (RX8, TX8, 14)) (y' := mX8_page) dX8_inOrder_3 lX8_51 kX8_page ⟨by decide, by decide⟩ rfl rfl (by decide) (hS.k t_x0) (Nat.le_of_ble_eq_true rfl) (kc_X8_page hG hS t_x0 ok.1) ?_
  have ok := ok.2
  refine c_istore_4 dX8_inOrder_6 (by decide) rfl ?_
  refine c_iload dX8_inOrder_8 rfl ?_
  refine c_if_lt (tgt := 27) dX8_inOrder_10 (by decide) (fun c_10 => ?_) (fun c_10 => ?_)
  · have ok := ok.1 c_10
    have hx := xif_p c_10 hx
    exact cX.cutz (kb_X8_inOrder_27 hG hR hS  ok hx) trivial
  · have ok := ok.2 c_10
    have hx := xif_n c_10 hx
    refine c_iload_n dX8_inOrder_13 rfl rfl ?_
    refine c_if_lt (tgt := 27) dX8_inOrder_14 (by decide) (fun c_14 => ?_) (fun c_14 => ?_)
    · have ok := ok.1 c_14
      have hx := xif_p c_14 hx
      exact cX.cutz (kb_X8_inOrder_27 hG hR hS  ok hx) trivial
    · have ok := ok.2 c_14
      have hx := xif_n c_14 hx
      refine c_iload_n dX8_inOrder_17 rfl rfl ?_
      refine c_iconst (v := nI 2) dX8_inOrder_18 (by decide) ?_
      refine c_aload_nQ dX8_inOrder_19 rfl rfl ?_
      refine c_getI (C := RX8) (T := TX8) (N := 14) (ci := 6) (k := 1) ⟨rfl, inT8, by decide, fX8_32⟩ (by decide) (by decide) (by decide) dX8_inOrder_20 (hS.k t_x0) ?_
      refine c_imul dX8_inOrder_23 ?_
      refine c_icmp_le (tgt := 29) dX8_inOrder_24 (by decide) (fun c_24 => ?_) (fun c_24 => ?_)
      · have ok := ok.1 c_24
        have hx := xif_p c_24 hx
        refine c_iload_n dX8_inOrder_29 rfl rfl ?_
        refine c_if_ne (tgt := 43) dX8_inOrder_30 (by decide) (fun c_30 => ?_) (fun c_30 => ?_)
        · have ok := ok.2 c_30
          have hx := xif_n c_30 hx
          refine c_aload_nQ dX8_inOrder_43 rfl rfl ?_
          refine c_getS (C := RX8) (T := TX8) (N := 14) (ci := 6) (k := 4) ⟨rfl, inT8, by decide, fX8_36⟩ (by decide) (by decide) (by decide) dX8_inOrder_44 (hS.k t_x0) (hS.r (c := 6) t_x0 rfl (by omega)) ?_
          refine c_aload_nQ dX8_inOrder_47 rfl rfl ?_
          refine c_iload dX8_inOrder_48 rfl ?_
          refine c_iconst (v := nI 2) dX8_inOrder_50 (by decide) ?_
          refine c_V2iE (ci := 6) (rr := (RX8, TX8, 14)) (y' := mX8_ballots) dX8_inOrder_51 lX8_69 kX8_ballots ⟨by decide, by decide⟩ rfl rfl (by decide) (hS.k t_x0) (by simp only [List.map_cons, List.map_nil, List.sum_cons, List.sum_nil, zcat_rf, zcat_i, zcat_l, zcat_r] <;> decide) (kc_X8_ballots hG hS t_x0 ok.1) ?_
          have ok := ok.2
          refine c_iload_n dX8_inOrder_54 rfl rfl ?_
          refine c_iadd dX8_inOrder_55 ?_
          refine c_iconst (v := nI 1) dX8_inOrder_56 (by decide) ?_
          refine c_isub dX8_inOrder_57 ?_
          have p_58 := hS.row24 (hS.rk (c := 6) (k := 4) t_x0 rfl (by omega)) (((k_X8_ballots N g H T S x0 (k_X8_page N g H T S x0 x1 x2) (nI 2)) + x3) - (nI 1)).toNatClampNeg
          refine c_aald (t := 4) (ty := (.object "QuorumLedger$Message")) rfl rfl (by decide) dX8_inOrder_58 ⟨(tK.cis (hS.rk (c := 6) (k := 4) t_x0 rfl (by omega)) (Option.some_ne_none _)), (vk_cast (hS.rl (c := 6) (k := 4) t_x0 rfl (by decide) (by omega)) ok.1)⟩ ?_
          have ok := ok.2
          exact cX.cutz (kb_X8_inOrder_59 hG hR hS p_58 ok hx) trivial
        · have ok := ok.1 c_30
          have hx := xif_p c_30 hx
          refine c_aload_nQ dX8_inOrder_33 rfl rfl ?_
          refine c_getS (C := RX8) (T := TX8) (N := 14) (ci := 6) (k := 2) ⟨rfl, inT8, by decide, fX8_11⟩ (by decide) (by decide) (by decide) dX8_inOrder_34 (hS.k t_x0) (hS.r (c := 6) t_x0 rfl (by omega)) ?_
          refine c_iload dX8_inOrder_37 rfl ?_
          have p_39 := hS.row24 (hS.rk (c := 6) (k := 2) t_x0 rfl (by omega)) (k_X8_page N g H T S x0 x1 x2).toNatClampNeg
          refine c_aald (t := 4) (ty := (.object "QuorumLedger$Message")) rfl rfl (by decide) dX8_inOrder_39 ⟨(tK.cis (hS.rk (c := 6) (k := 2) t_x0 rfl (by omega)) (Option.some_ne_none _)), (vk_cast (hS.rl (c := 6) (k := 2) t_x0 rfl (by decide) (by omega)) ok.1)⟩ ?_
          have ok := ok.2
          refine c_goto (tgt := 59) dX8_inOrder_40 (by decide) ?_
          exact cX.cutz (kb_X8_inOrder_59 hG hR hS p_39 ok hx) trivial
      · have ok := ok.2 c_24
        have hx := xif_n c_24 hx
        exact cX.cutz (kb_X8_inOrder_27 hG hR hS  ok hx) trivial
def k_X8_inOrder (N g H T : Nat) (S : cS) (a0 : Nat) (x1 : Int32) (x2 : Int32) (x3 : Int32) : Option Nat := KF_X8_inOrder_0 N g H T a0 x1 x2 x3 S
def p_X8_inOrder (N g H T : Nat) (S : cS) (a0 : Nat) (x1 : Int32) (x2 : Int32) (x3 : Int32) : Prop := KO_X8_inOrder_0 N g H T a0 x1 x2 x3 S
set_option maxRecDepth 100000 in
set_option maxHeartbeats 4000000 in
theorem kc_X8_inOrder {G : zG} {o : cO} {u g H T N : Nat} {S : cS} (hG : zOK G) {a0 : Nat} {x1 : Int32} {x2 : Int32} {x3 : Int32} (hS : St u g H T S) (t_x0 : isO g H 6 a0) (ok : p_X8_inOrder N g H T S a0 x1 x2 x3) : cCq G o dX8_inOrder mX8_inOrder [.ref a0, .int x1, .int x2, .int x3] S (fun v S' => (v = k_X8_inOrder N g H T S a0 x1 x2 x3 ∧ S' = S) ∧ tK S 5 v) := by
  refine cC.ofX rfl (by exact Nat.le_of_ble_eq_true rfl) ?_
  show cX G o dX8_inOrder mX8_inOrder 0 [some (va_rf (some a0)), some (.int x1), some (.int x2), some (.int x3), none] [] S _
  exact cX.cutz (kb_X8_inOrder_0 (X := fun F => F = k_X8_inOrder N g H T S a0 x1 x2 x3) hG (fun v h3 h => ⟨v, rfl, ⟨h, rfl⟩, h3⟩) hS t_x0 ok rfl) ⟨rfl, rfl, rfl, rfl, trivial⟩
/-! X3_answerAll -/
def KF_X3_answerAll_88 (N g H T : Nat)  (S : cS) : cS := S
def KO_X3_answerAll_88 (N g H T : Nat)  (S : cS) : Prop := True
set_option maxRecDepth 100000 in
set_option maxHeartbeats 4000000 in
theorem kb_X3_answerAll_88 {G : zG} {o : cO} {u g H T N : Nat} {S : cS} {S0 : cS} {Q : Option Value → cS → Prop} {X : cS → Prop} (hG : zOK G) (hR : ∀ S', St u g H T S' → Mono S0 S' → X S' → Q none S') (hS : St u g H T S) (hM : Mono S0 S) (ok : KO_X3_answerAll_88 N g H T S) (hx : X (KF_X3_answerAll_88 N g H T S)) : cX G o dX3_answerAll mX3_answerAll 88 [none, none, none, none, none, none] [] S Q := by
  unfold KO_X3_answerAll_88 at ok
  unfold KF_X3_answerAll_88 at hx
  exact c_return rfl dX3_answerAll_88 (hR _ hS hM hx)
def KF_X3_answerAll_82 (N g H T : Nat) (rec : Option Nat → Int32 → Int32 → Int32 → cS → Nat × cS) (x0 : Option Nat) (x1 : Int32) (x2 : Int32) (x3 : Int32) (S : cS) : Nat × cS := (rec x0 x1 x2 (x3 + nI 1) S)
def KO_X3_answerAll_82 (N g H T : Nat) (rok : Option Nat → Int32 → Int32 → Int32 → cS → Prop) (x0 : Option Nat) (x1 : Int32) (x2 : Int32) (x3 : Int32) (S : cS) : Prop := rok x0 x1 x2 (x3 + nI 1) S
set_option maxRecDepth 100000 in
set_option maxHeartbeats 4000000 in
theorem kb_X3_answerAll_82 {G : zG} {o : cO} {u g H T N : Nat} {S : cS} {S0 : cS} {Q : Option Value → cS → Prop} {X : Nat × cS → Prop} (hG : zOK G) (hX0 : ∀ (S' : cS), St u g H T S' → Mono S0 S' → X (0, S') → cX G o dX3_answerAll mX3_answerAll 88 [none, none, none, none, none, none] [] S' Q) {rec : Option Nat → Int32 → Int32 → Int32 → cS → Nat × cS} {rok : Option Nat → Int32 → Int32 → Int32 → cS → Prop} (hrec : ∀ (x0 : Option Nat) (x1 : Int32) (x2 : Int32) (x3 : Int32) (S : cS), St u g H T S → Mono S0 S → tN g H x0 → rok x0 x1 x2 x3 S → X (rec x0 x1 x2 x3 S) → cX G o dX3_answerAll mX3_answerAll 14 [some (va_rf x0), some (.int x1), some (.int x2), some (.int x3), none, none] [] S Q) {x0 : Option Nat} {x1 : Int32} {x2 : Int32} {x3 : Int32} (hS : St u g H T S) (hM : Mono S0 S) (t_x0 : tN g H x0) (ok : KO_X3_answerAll_82 N g H T rok x0 x1 x2 x3 S) (hx : X (KF_X3_answerAll_82 N g H T rec x0 x1 x2 x3 S)) : cX G o dX3_answerAll mX3_answerAll 82 [some (va_rf x0), some (.int x1), some (.int x2), some (.int x3), none, none] [] S Q := by
  unfold KO_X3_answerAll_82 at ok
  unfold KF_X3_answerAll_82 at hx
  refine c_iinc_3 (v := (x3 + nI 1)) dX3_answerAll_82 rfl (by first | rfl | (congr 1)) (by decide) rfl ?_
  refine c_goto (tgt := 14) dX3_answerAll_85 (by decide) ?_
  exact cX.cutz (hrec _ _ _ _ S hS hM t_x0 ok hx) ⟨rfl, rfl, rfl, rfl, trivial⟩
def KF_X3_answerAll_76 (N g H T : Nat) (rec : Option Nat → Int32 → Int32 → Int32 → Int32 → cS → Nat × Option Nat × Int32 × Int32 × Int32 × cS) (x0 : Option Nat) (x1 : Int32) (x2 : Int32) (x3 : Int32) (x4 : Int32) (S : cS) : Nat × Option Nat × Int32 × Int32 × Int32 × cS := (rec x0 x1 x2 x3 (x4 + nI 1) S)
def KO_X3_answerAll_76 (N g H T : Nat) (rok : Option Nat → Int32 → Int32 → Int32 → Int32 → cS → Prop) (x0 : Option Nat) (x1 : Int32) (x2 : Int32) (x3 : Int32) (x4 : Int32) (S : cS) : Prop := rok x0 x1 x2 x3 (x4 + nI 1) S
set_option maxRecDepth 100000 in
set_option maxHeartbeats 4000000 in
theorem kb_X3_answerAll_76 {G : zG} {o : cO} {u g H T N : Nat} {S : cS} {S0 : cS} {Q : Option Value → cS → Prop} {X : Nat × Option Nat × Int32 × Int32 × Int32 × cS → Prop} (hG : zOK G) (hX0 : ∀ (x0 : Option Nat) (x1 : Int32) (x2 : Int32) (x3 : Int32) (S' : cS), St u g H T S' → Mono S0 S' → tN g H x0 → X (0, x0, x1, x2, x3, S') → cX G o dX3_answerAll mX3_answerAll 82 [some (va_rf x0), some (.int x1), some (.int x2), some (.int x3), none, none] [] S' Q) {rec : Option Nat → Int32 → Int32 → Int32 → Int32 → cS → Nat × Option Nat × Int32 × Int32 × Int32 × cS} {rok : Option Nat → Int32 → Int32 → Int32 → Int32 → cS → Prop} (hrec : ∀ (x0 : Option Nat) (x1 : Int32) (x2 : Int32) (x3 : Int32) (x4 : Int32) (S : cS), St u g H T S → Mono S0 S → tN g H x0 → rok x0 x1 x2 x3 x4 S → X (rec x0 x1 x2 x3 x4 S) → cX G o dX3_answerAll mX3_answerAll 32 [some (va_rf x0), some (.int x1), some (.int x2), some (.int x3), some (.int x4), none] [] S Q) {x0 : Option Nat} {x1 : Int32} {x2 : Int32} {x3 : Int32} {x4 : Int32} (hS : St u g H T S) (hM : Mono S0 S) (t_x0 : tN g H x0) (ok : KO_X3_answerAll_76 N g H T rok x0 x1 x2 x3 x4 S) (hx : X (KF_X3_answerAll_76 N g H T rec x0 x1 x2 x3 x4 S)) : cX G o dX3_answerAll mX3_answerAll 76 [some (va_rf x0), some (.int x1), some (.int x2), some (.int x3), some (.int x4), none] [] S Q := by
  unfold KO_X3_answerAll_76 at ok
  unfold KF_X3_answerAll_76 at hx
  refine c_iinc_4 (v := (x4 + nI 1)) dX3_answerAll_76 rfl (by first | rfl | (congr 1)) (by decide) rfl ?_
  refine c_goto (tgt := 32) dX3_answerAll_79 (by decide) ?_
  exact cX.cutz (hrec _ _ _ _ _ S hS hM t_x0 ok hx) ⟨rfl, rfl, rfl, rfl, rfl, trivial⟩
def KB_X3_answerAll_32 (N g H T : Nat) (rec : Option Nat → Int32 → Int32 → Int32 → Int32 → cS → Nat × Option Nat × Int32 × Int32 × Int32 × cS) (x0 : Option Nat) (x1 : Int32) (x2 : Int32) (x3 : Int32) (x4 : Int32) (S : cS) : Nat × Option Nat × Int32 × Int32 × Int32 × cS := (if x2 ≤ x4 then (0, x0, x1, x2, x3, S) else (if (k_X8_inOrder N g H T S ((za x0) + 14) (cI S 9 (za x0)) x3 x4) = none then (KF_X3_answerAll_76 N g H T rec x0 x1 x2 x3 x4 S) else (KF_X3_answerAll_76 N g H T rec x0 x1 x2 x3 x4 (k_X9_post N g H T S (g + 11) (cI S 1 (za x0)) x1 (k_X8_inOrder N g H T S ((za x0) + 14) (cI S 9 (za x0)) x3 x4)))))
def KOB_X3_answerAll_32 (N g H T : Nat) (rok : Option Nat → Int32 → Int32 → Int32 → Int32 → cS → Prop) (x0 : Option Nat) (x1 : Int32) (x2 : Int32) (x3 : Int32) (x4 : Int32) (S : cS) : Prop := ((x2 ≤ x4 → True) ∧ (¬ x2 ≤ x4 → (¬ x0 = none) ∧ (p_X8_inOrder N g H T S ((za x0) + 14) (cI S 9 (za x0)) x3 x4) ∧ (((k_X8_inOrder N g H T S ((za x0) + 14) (cI S 9 (za x0)) x3 x4) = none → KO_X3_answerAll_76 N g H T rok x0 x1 x2 x3 x4 S) ∧ (¬ (k_X8_inOrder N g H T S ((za x0) + 14) (cI S 9 (za x0)) x3 x4) = none → (p_X9_post N g H T S (g + 11) (cI S 1 (za x0)) x1 (k_X8_inOrder N g H T S ((za x0) + 14) (cI S 9 (za x0)) x3 x4)) ∧ KO_X3_answerAll_76 N g H T rok x0 x1 x2 x3 x4 (k_X9_post N g H T S (g + 11) (cI S 1 (za x0)) x1 (k_X8_inOrder N g H T S ((za x0) + 14) (cI S 9 (za x0)) x3 x4))))))
set_option maxRecDepth 100000 in
set_option maxHeartbeats 4000000 in
theorem kbb_X3_answerAll_32 {G : zG} {o : cO} {u g H T N : Nat} {S : cS} {S0 : cS} {Q : Option Value → cS → Prop} {X : Nat × Option Nat × Int32 × Int32 × Int32 × cS → Prop} (hG : zOK G) (hX0 : ∀ (x0 : Option Nat) (x1 : Int32) (x2 : Int32) (x3 : Int32) (S' : cS), St u g H T S' → Mono S0 S' → tN g H x0 → X (0, x0, x1, x2, x3, S') → cX G o dX3_answerAll mX3_answerAll 82 [some (va_rf x0), some (.int x1), some (.int x2), some (.int x3), none, none] [] S' Q) {rec : Option Nat → Int32 → Int32 → Int32 → Int32 → cS → Nat × Option Nat × Int32 × Int32 × Int32 × cS} {rok : Option Nat → Int32 → Int32 → Int32 → Int32 → cS → Prop} (hrec : ∀ (x0 : Option Nat) (x1 : Int32) (x2 : Int32) (x3 : Int32) (x4 : Int32) (S : cS), St u g H T S → Mono S0 S → tN g H x0 → rok x0 x1 x2 x3 x4 S → X (rec x0 x1 x2 x3 x4 S) → cX G o dX3_answerAll mX3_answerAll 32 [some (va_rf x0), some (.int x1), some (.int x2), some (.int x3), some (.int x4), none] [] S Q) {x0 : Option Nat} {x1 : Int32} {x2 : Int32} {x3 : Int32} {x4 : Int32} (hS : St u g H T S) (hM : Mono S0 S) (t_x0 : tN g H x0) (ok : KOB_X3_answerAll_32 N g H T rok x0 x1 x2 x3 x4 S) (hx : X (KB_X3_answerAll_32 N g H T rec x0 x1 x2 x3 x4 S)) : cX G o dX3_answerAll mX3_answerAll 32 [some (va_rf x0), some (.int x1), some (.int x2), some (.int x3), some (.int x4), none] [] S Q := by
  unfold KOB_X3_answerAll_32 at ok
  unfold KB_X3_answerAll_32 at hx
  refine c_iload dX3_answerAll_32 rfl ?_
  refine c_iload_n dX3_answerAll_34 rfl rfl ?_
  refine c_icmp_ge (tgt := 82) dX3_answerAll_35 (by decide) (fun c_35 => ?_) (fun c_35 => ?_)
  · have ok := ok.1 c_35
    have hx := xif_p c_35 hx
    exact cX.cutz (hX0 _ _ _ _ S hS hM t_x0 hx) ⟨rfl, rfl, rfl, rfl, trivial⟩
  · have ok := ok.2 c_35
    have hx := xif_n c_35 hx
    refine c_aload_nQ dX3_answerAll_38 rfl rfl ?_
    have nn_39 := ok.1
    refine c_getS (C := RX6) (T := TX6) (N := 19) (ci := 5) (k := 3) ⟨rfl, inT6, by decide, fX3_21⟩ (by decide) (by decide) (by decide) dX3_answerAll_39 (hS.kN t_x0 ok.1) (hS.r (c := 5) (tN.o t_x0 ok.1) rfl (by omega)) ?_
    have ok := ok.2
    refine c_aload_nQ dX3_answerAll_42 rfl rfl ?_
    refine c_getI (C := RX6) (T := TX6) (N := 19) (ci := 5) (k := 9) ⟨rfl, inT6, by decide, fX3_54⟩ (by decide) (by decide) (by decide) dX3_answerAll_43 (hS.kN t_x0 nn_39) ?_
    refine c_iload_n dX3_answerAll_46 rfl rfl ?_
    refine c_iload dX3_answerAll_47 rfl ?_
    refine c_V3qK (ci := 6) (rr := (RX8, TX8, 14)) (y' := mX8_inOrder) dX3_answerAll_49 lX3_121 kX8_inOrder ⟨by decide, by decide⟩ rfl rfl (by decide) (hS.k (o53 (tN.o t_x0 nn_39))) (Nat.le_of_ble_eq_true rfl) (kc_X8_inOrder hG hS (o53 (tN.o t_x0 nn_39)) ok.1) (fun tv_49 => ?_)
    have ok := ok.2
    refine c_astore_5Q dX3_answerAll_52 (by decide) rfl ?_
    refine c_aloadQ dX3_answerAll_54 rfl ?_
    refine c_ifnullI (tgt := 76) dX3_answerAll_56 (by decide) (fun c_56 => ?_) (fun c_56 => ?_)
    · have ok := ok.1 c_56
      have hx := xif_p c_56 hx
      exact cX.cutz (kb_X3_answerAll_76 hG hX0 hrec hS hM t_x0 ok hx) ⟨rfl, rfl, rfl, rfl, rfl, trivial⟩
    · have ok := ok.2 c_56
      have hx := xif_n c_56 hx
      refine c_aload_nQ dX3_answerAll_59 rfl rfl ?_
      refine c_getS (C := RX6) (T := TX6) (N := 19) (ci := 5) (k := 0) ⟨rfl, inT6, by decide, fX3_33⟩ (by decide) (by decide) (by decide) dX3_answerAll_60 (hS.kN t_x0 nn_39) (hS.r (c := 5) (tN.o t_x0 nn_39) rfl (by omega)) ?_
      refine c_getS (C := RX10) (T := TX10) (N := 12) (ci := 8) (k := 6) ⟨rfl, inT10, by decide, fX3_73⟩ (by decide) (by decide) (by decide) dX3_answerAll_63 (hS.k (o50 (tN.o t_x0 nn_39))) (hS.r (c := 8) (o50 (tN.o t_x0 nn_39)) rfl (by omega)) ?_
      refine c_aload_nQ dX3_answerAll_66 rfl rfl ?_
      refine c_getI (C := RX6) (T := TX6) (N := 19) (ci := 5) (k := 1) ⟨rfl, inT6, by decide, fX3_37⟩ (by decide) (by decide) (by decide) dX3_answerAll_67 (hS.kN t_x0 nn_39) ?_
      refine c_iload_n dX3_answerAll_70 rfl rfl ?_
      refine c_aloadQ dX3_answerAll_71 rfl ?_
      refine c_V3vK (ci := 7) (rr := (RX9, TX9, 13)) (y' := mX9_post) dX3_answerAll_73 lX3_77 kX9_post ⟨by decide, by decide⟩ rfl rfl (by decide) (hS.k (o86 (o50 (tN.o t_x0 nn_39)))) (Nat.le_of_ble_eq_true rfl) (kc_X9_post hG hS (o86 (o50 (tN.o t_x0 nn_39))) tv_49 ok.1) (fun ⟨hS, hm_73⟩ => ?_)
      have hM := hM.trans hm_73
      have ok := ok.2
      exact cX.cutz (kb_X3_answerAll_76 hG hX0 hrec hS hM t_x0 ok hx) ⟨rfl, rfl, rfl, rfl, rfl, trivial⟩
def KL_X3_answerAll_32 (N g H T : Nat) : Nat → Option Nat → Int32 → Int32 → Int32 → Int32 → cS → Nat × Option Nat × Int32 × Int32 × Int32 × cS
  | 0, x0, x1, x2, x3, x4, S => (0, none, 0, 0, 0, S)
  | n + 1, x0, x1, x2, x3, x4, S => KB_X3_answerAll_32 N g H T (KL_X3_answerAll_32 N g H T n) x0 x1 x2 x3 x4 S
def KOL_X3_answerAll_32 (N g H T : Nat) : Nat → Option Nat → Int32 → Int32 → Int32 → Int32 → cS → Prop
  | 0, _, _, _, _, _, _ => False
  | n + 1, x0, x1, x2, x3, x4, S => KOB_X3_answerAll_32 N g H T (KOL_X3_answerAll_32 N g H T n) x0 x1 x2 x3 x4 S
set_option maxRecDepth 100000 in
set_option maxHeartbeats 4000000 in
theorem kl_X3_answerAll_32 {G : zG} {o : cO} {u g H T N : Nat} {S0 : cS} {Q : Option Value → cS → Prop} {X : Nat × Option Nat × Int32 × Int32 × Int32 × cS → Prop} (hG : zOK G) (hX0 : ∀ (x0 : Option Nat) (x1 : Int32) (x2 : Int32) (x3 : Int32) (S' : cS), St u g H T S' → Mono S0 S' → tN g H x0 → X (0, x0, x1, x2, x3, S') → cX G o dX3_answerAll mX3_answerAll 82 [some (va_rf x0), some (.int x1), some (.int x2), some (.int x3), none, none] [] S' Q) : ∀ (n : Nat) (x0 : Option Nat) (x1 : Int32) (x2 : Int32) (x3 : Int32) (x4 : Int32) (S : cS), St u g H T S → Mono S0 S → tN g H x0 → KOL_X3_answerAll_32 N g H T n x0 x1 x2 x3 x4 S → X (KL_X3_answerAll_32 N g H T n x0 x1 x2 x3 x4 S) → cX G o dX3_answerAll mX3_answerAll 32 [some (va_rf x0), some (.int x1), some (.int x2), some (.int x3), some (.int x4), none] [] S Q := by
  intro n
  induction n with
  | zero => intro x0 x1 x2 x3 x4 S hS hM t_x0 ok; exact absurd ok id
  | succ n ih =>
    intro x0 x1 x2 x3 x4 S hS hM t_x0 ok hx
    exact kbb_X3_answerAll_32 hG hX0 (rec := KL_X3_answerAll_32 N g H T n) (rok := KOL_X3_answerAll_32 N g H T n) (fun x0 x1 x2 x3 x4 S hS hM t_x0 ok hx => ih x0 x1 x2 x3 x4 S hS hM t_x0 ok hx) hS hM t_x0 ok hx
def KA_X3_answerAll_32 (N g H T : Nat) (rec : Option Nat → Int32 → Int32 → Int32 → cS → Nat × cS) (x0 : Option Nat) (x1 : Int32) (x2 : Int32) (x3 : Int32) (x4 : Int32) (S : cS) (z : Nat × Option Nat × Int32 × Int32 × Int32 × cS) : Nat × cS := (KF_X3_answerAll_82 N g H T rec (z.2.1) (z.2.2.1) (z.2.2.2.1) (z.2.2.2.2.1) z.2.2.2.2.2)
def KOA_X3_answerAll_32 (N g H T : Nat) (rok : Option Nat → Int32 → Int32 → Int32 → cS → Prop) (x0 : Option Nat) (x1 : Int32) (x2 : Int32) (x3 : Int32) (x4 : Int32) (S : cS) (z : Nat × Option Nat × Int32 × Int32 × Int32 × cS) : Prop := KO_X3_answerAll_82 N g H T rok (z.2.1) (z.2.2.1) (z.2.2.2.1) (z.2.2.2.2.1) z.2.2.2.2.2
set_option maxRecDepth 100000 in
set_option maxHeartbeats 4000000 in
theorem kd_X3_answerAll_32 {G : zG} {o : cO} {u g H T N : Nat} {S : cS} {S0 : cS} {Q : Option Value → cS → Prop} {X : Nat × cS → Prop} (hG : zOK G) (hX0 : ∀ (S' : cS), St u g H T S' → Mono S0 S' → X (0, S') → cX G o dX3_answerAll mX3_answerAll 88 [none, none, none, none, none, none] [] S' Q) {rec : Option Nat → Int32 → Int32 → Int32 → cS → Nat × cS} {rok : Option Nat → Int32 → Int32 → Int32 → cS → Prop} (hrec : ∀ (x0 : Option Nat) (x1 : Int32) (x2 : Int32) (x3 : Int32) (S : cS), St u g H T S → Mono S0 S → tN g H x0 → rok x0 x1 x2 x3 S → X (rec x0 x1 x2 x3 S) → cX G o dX3_answerAll mX3_answerAll 14 [some (va_rf x0), some (.int x1), some (.int x2), some (.int x3), none, none] [] S Q) {x0 : Option Nat} {x1 : Int32} {x2 : Int32} {x3 : Int32} {x4 : Int32} (hS : St u g H T S) (hM : Mono S0 S) (t_x0 : tN g H x0) (ok : KOL_X3_answerAll_32 N g H T N x0 x1 x2 x3 x4 S ∧ KOA_X3_answerAll_32 N g H T rok x0 x1 x2 x3 x4 S (KL_X3_answerAll_32 N g H T N x0 x1 x2 x3 x4 S)) (hx : X (KA_X3_answerAll_32 N g H T rec x0 x1 x2 x3 x4 S (KL_X3_answerAll_32 N g H T N x0 x1 x2 x3 x4 S))) : cX G o dX3_answerAll mX3_answerAll 32 [some (va_rf x0), some (.int x1), some (.int x2), some (.int x3), some (.int x4), none] [] S Q := by
  refine kl_X3_answerAll_32 hG ?_ N x0 x1 x2 x3 x4 S hS hM t_x0 ok.1 (X := fun z => KOA_X3_answerAll_32 N g H T rok x0 x1 x2 x3 x4 S z ∧ X (KA_X3_answerAll_32 N g H T rec x0 x1 x2 x3 x4 S z)) ⟨ok.2, hx⟩
  · intro x0' x1' x2' x3' S' hS hM t_x0 hz
    obtain ⟨ok, hx⟩ := hz
    unfold KOA_X3_answerAll_32 at ok
    unfold KA_X3_answerAll_32 at hx
    exact cX.cutz (kb_X3_answerAll_82 hG hX0 hrec hS hM t_x0 ok hx) ⟨rfl, rfl, rfl, rfl, trivial⟩
def KB_X3_answerAll_14 (N g H T : Nat) (rec : Option Nat → Int32 → Int32 → Int32 → cS → Nat × cS) (x0 : Option Nat) (x1 : Int32) (x2 : Int32) (x3 : Int32) (S : cS) : Nat × cS := (if (k_X8_top N g H T S ((za x0) + 14) (cI S 9 (za x0))) ≤ x3 then (0, S) else (KA_X3_answerAll_32 N g H T rec x0 x1 x2 x3 (nI 0) S (KL_X3_answerAll_32 N g H T N x0 x1 x2 x3 (nI 0) S)))
def KOB_X3_answerAll_14 (N g H T : Nat) (rok : Option Nat → Int32 → Int32 → Int32 → cS → Prop) (x0 : Option Nat) (x1 : Int32) (x2 : Int32) (x3 : Int32) (S : cS) : Prop := (¬ x0 = none) ∧ (p_X8_top N g H T S ((za x0) + 14) (cI S 9 (za x0))) ∧ (((k_X8_top N g H T S ((za x0) + 14) (cI S 9 (za x0))) ≤ x3 → True) ∧ (¬ (k_X8_top N g H T S ((za x0) + 14) (cI S 9 (za x0))) ≤ x3 → (KOL_X3_answerAll_32 N g H T N x0 x1 x2 x3 (nI 0) S ∧ KOA_X3_answerAll_32 N g H T rok x0 x1 x2 x3 (nI 0) S (KL_X3_answerAll_32 N g H T N x0 x1 x2 x3 (nI 0) S))))
set_option maxRecDepth 100000 in
set_option maxHeartbeats 4000000 in
theorem kbb_X3_answerAll_14 {G : zG} {o : cO} {u g H T N : Nat} {S : cS} {S0 : cS} {Q : Option Value → cS → Prop} {X : Nat × cS → Prop} (hG : zOK G) (hX0 : ∀ (S' : cS), St u g H T S' → Mono S0 S' → X (0, S') → cX G o dX3_answerAll mX3_answerAll 88 [none, none, none, none, none, none] [] S' Q) {rec : Option Nat → Int32 → Int32 → Int32 → cS → Nat × cS} {rok : Option Nat → Int32 → Int32 → Int32 → cS → Prop} (hrec : ∀ (x0 : Option Nat) (x1 : Int32) (x2 : Int32) (x3 : Int32) (S : cS), St u g H T S → Mono S0 S → tN g H x0 → rok x0 x1 x2 x3 S → X (rec x0 x1 x2 x3 S) → cX G o dX3_answerAll mX3_answerAll 14 [some (va_rf x0), some (.int x1), some (.int x2), some (.int x3), none, none] [] S Q) {x0 : Option Nat} {x1 : Int32} {x2 : Int32} {x3 : Int32} (hS : St u g H T S) (hM : Mono S0 S) (t_x0 : tN g H x0) (ok : KOB_X3_answerAll_14 N g H T rok x0 x1 x2 x3 S) (hx : X (KB_X3_answerAll_14 N g H T rec x0 x1 x2 x3 S)) : cX G o dX3_answerAll mX3_answerAll 14 [some (va_rf x0), some (.int x1), some (.int x2), some (.int x3), none, none] [] S Q := by
  unfold KOB_X3_answerAll_14 at ok
  unfold KB_X3_answerAll_14 at hx
  refine c_iload_n dX3_answerAll_14 rfl rfl ?_
  refine c_aload_nQ dX3_answerAll_15 rfl rfl ?_
  have nn_16 := ok.1
  refine c_getS (C := RX6) (T := TX6) (N := 19) (ci := 5) (k := 3) ⟨rfl, inT6, by decide, fX3_21⟩ (by decide) (by decide) (by decide) dX3_answerAll_16 (hS.kN t_x0 ok.1) (hS.r (c := 5) (tN.o t_x0 ok.1) rfl (by omega)) ?_
  have ok := ok.2
  refine c_aload_nQ dX3_answerAll_19 rfl rfl ?_
  refine c_getI (C := RX6) (T := TX6) (N := 19) (ci := 5) (k := 9) ⟨rfl, inT6, by decide, fX3_54⟩ (by decide) (by decide) (by decide) dX3_answerAll_20 (hS.kN t_x0 nn_16) ?_
  refine c_V1iE (ci := 6) (rr := (RX8, TX8, 14)) (y' := mX8_top) dX3_answerAll_23 lX3_118 kX8_top ⟨by decide, by decide⟩ rfl rfl (by decide) (hS.k (o53 (tN.o t_x0 nn_16))) (Nat.le_of_ble_eq_true rfl) (kc_X8_top hG hS (o53 (tN.o t_x0 nn_16)) ok.1) ?_
  have ok := ok.2
  refine c_icmp_ge (tgt := 88) dX3_answerAll_26 (by decide) (fun c_26 => ?_) (fun c_26 => ?_)
  · have ok := ok.1 c_26
    have hx := xif_p c_26 hx
    exact cX.cutz (hX0 S hS hM  hx) trivial
  · have ok := ok.2 c_26
    have hx := xif_n c_26 hx
    refine c_iconst (v := nI 0) dX3_answerAll_29 (by decide) ?_
    refine c_istore_4 dX3_answerAll_30 (by decide) rfl ?_
    exact cX.cutz (kd_X3_answerAll_32 hG hX0 hrec hS hM t_x0 ok hx) ⟨rfl, rfl, rfl, rfl, rfl, trivial⟩
def KL_X3_answerAll_14 (N g H T : Nat) : Nat → Option Nat → Int32 → Int32 → Int32 → cS → Nat × cS
  | 0, x0, x1, x2, x3, S => (0, S)
  | n + 1, x0, x1, x2, x3, S => KB_X3_answerAll_14 N g H T (KL_X3_answerAll_14 N g H T n) x0 x1 x2 x3 S
def KOL_X3_answerAll_14 (N g H T : Nat) : Nat → Option Nat → Int32 → Int32 → Int32 → cS → Prop
  | 0, _, _, _, _, _ => False
  | n + 1, x0, x1, x2, x3, S => KOB_X3_answerAll_14 N g H T (KOL_X3_answerAll_14 N g H T n) x0 x1 x2 x3 S
set_option maxRecDepth 100000 in
set_option maxHeartbeats 4000000 in
theorem kl_X3_answerAll_14 {G : zG} {o : cO} {u g H T N : Nat} {S0 : cS} {Q : Option Value → cS → Prop} {X : Nat × cS → Prop} (hG : zOK G) (hX0 : ∀ (S' : cS), St u g H T S' → Mono S0 S' → X (0, S') → cX G o dX3_answerAll mX3_answerAll 88 [none, none, none, none, none, none] [] S' Q) : ∀ (n : Nat) (x0 : Option Nat) (x1 : Int32) (x2 : Int32) (x3 : Int32) (S : cS), St u g H T S → Mono S0 S → tN g H x0 → KOL_X3_answerAll_14 N g H T n x0 x1 x2 x3 S → X (KL_X3_answerAll_14 N g H T n x0 x1 x2 x3 S) → cX G o dX3_answerAll mX3_answerAll 14 [some (va_rf x0), some (.int x1), some (.int x2), some (.int x3), none, none] [] S Q := by
  intro n
  induction n with
  | zero => intro x0 x1 x2 x3 S hS hM t_x0 ok; exact absurd ok id
  | succ n ih =>
    intro x0 x1 x2 x3 S hS hM t_x0 ok hx
    exact kbb_X3_answerAll_14 hG hX0 (rec := KL_X3_answerAll_14 N g H T n) (rok := KOL_X3_answerAll_14 N g H T n) (fun x0 x1 x2 x3 S hS hM t_x0 ok hx => ih x0 x1 x2 x3 S hS hM t_x0 ok hx) hS hM t_x0 ok hx
def KA_X3_answerAll_14 (N g H T : Nat) (x0 : Option Nat) (x1 : Int32) (x2 : Int32) (x3 : Int32) (S : cS) (z : Nat × cS) : cS := (KF_X3_answerAll_88 N g H T z.2)
def KOA_X3_answerAll_14 (N g H T : Nat) (x0 : Option Nat) (x1 : Int32) (x2 : Int32) (x3 : Int32) (S : cS) (z : Nat × cS) : Prop := KO_X3_answerAll_88 N g H T z.2
set_option maxRecDepth 100000 in
set_option maxHeartbeats 4000000 in
theorem kd_X3_answerAll_14 {G : zG} {o : cO} {u g H T N : Nat} {S : cS} {S0 : cS} {Q : Option Value → cS → Prop} {X : cS → Prop} (hG : zOK G) (hR : ∀ S', St u g H T S' → Mono S0 S' → X S' → Q none S') {x0 : Option Nat} {x1 : Int32} {x2 : Int32} {x3 : Int32} (hS : St u g H T S) (hM : Mono S0 S) (t_x0 : tN g H x0) (ok : KOL_X3_answerAll_14 N g H T N x0 x1 x2 x3 S ∧ KOA_X3_answerAll_14 N g H T x0 x1 x2 x3 S (KL_X3_answerAll_14 N g H T N x0 x1 x2 x3 S)) (hx : X (KA_X3_answerAll_14 N g H T x0 x1 x2 x3 S (KL_X3_answerAll_14 N g H T N x0 x1 x2 x3 S))) : cX G o dX3_answerAll mX3_answerAll 14 [some (va_rf x0), some (.int x1), some (.int x2), some (.int x3), none, none] [] S Q := by
  refine kl_X3_answerAll_14 hG ?_ N x0 x1 x2 x3 S hS hM t_x0 ok.1 (X := fun z => KOA_X3_answerAll_14 N g H T x0 x1 x2 x3 S z ∧ X (KA_X3_answerAll_14 N g H T x0 x1 x2 x3 S z)) ⟨ok.2, hx⟩
  · intro S' hS hM hz
    obtain ⟨ok, hx⟩ := hz
    unfold KOA_X3_answerAll_14 at ok
    unfold KA_X3_answerAll_14 at hx
    exact cX.cutz (kb_X3_answerAll_88 hG hR hS hM  ok hx) trivial
def KF_X3_answerAll_0 (N g H T : Nat) (x0 : Option Nat) (x1 : Int32) (S : cS) : cS := (KA_X3_answerAll_14 N g H T x0 x1 ((nI 1) + ((nI 2) * (cI S 1 (g + 8)))) (nI 0) S (KL_X3_answerAll_14 N g H T N x0 x1 ((nI 1) + ((nI 2) * (cI S 1 (g + 8)))) (nI 0) S))
def KO_X3_answerAll_0 (N g H T : Nat) (x0 : Option Nat) (x1 : Int32) (S : cS) : Prop := (¬ x0 = none) ∧ (KOL_X3_answerAll_14 N g H T N x0 x1 ((nI 1) + ((nI 2) * (cI S 1 (g + 8)))) (nI 0) S ∧ KOA_X3_answerAll_14 N g H T x0 x1 ((nI 1) + ((nI 2) * (cI S 1 (g + 8)))) (nI 0) S (KL_X3_answerAll_14 N g H T N x0 x1 ((nI 1) + ((nI 2) * (cI S 1 (g + 8)))) (nI 0) S))
set_option maxRecDepth 100000 in
set_option maxHeartbeats 4000000 in
theorem kb_X3_answerAll_0 {G : zG} {o : cO} {u g H T N : Nat} {S : cS} {S0 : cS} {Q : Option Value → cS → Prop} {X : cS → Prop} (hG : zOK G) (hR : ∀ S', St u g H T S' → Mono S0 S' → X S' → Q none S') {x0 : Option Nat} {x1 : Int32} (hS : St u g H T S) (hM : Mono S0 S) (t_x0 : tN g H x0) (ok : KO_X3_answerAll_0 N g H T x0 x1 S) (hx : X (KF_X3_answerAll_0 N g H T x0 x1 S)) : cX G o dX3_answerAll mX3_answerAll 0 [some (va_rf x0), some (.int x1), none, none, none, none] [] S Q := by
  unfold KO_X3_answerAll_0 at ok
  unfold KF_X3_answerAll_0 at hx
  refine c_iconst (v := nI 1) dX3_answerAll_0 (by decide) ?_
  refine c_iconst (v := nI 2) dX3_answerAll_1 (by decide) ?_
  refine c_aload_nQ dX3_answerAll_2 rfl rfl ?_
  have nn_3 := ok.1
  refine c_getS (C := RX6) (T := TX6) (N := 19) (ci := 5) (k := 0) ⟨rfl, inT6, by decide, fX3_33⟩ (by decide) (by decide) (by decide) dX3_answerAll_3 (hS.kN t_x0 ok.1) (hS.r (c := 5) (tN.o t_x0 ok.1) rfl (by omega)) ?_
  have ok := ok.2
  refine c_getI (C := RX10) (T := TX10) (N := 12) (ci := 8) (k := 1) ⟨rfl, inT10, by decide, fX3_115⟩ (by decide) (by decide) (by decide) dX3_answerAll_6 (hS.k (o50 (tN.o t_x0 nn_3))) ?_
  refine c_imul dX3_answerAll_9 ?_
  refine c_iadd dX3_answerAll_10 ?_
  refine c_istore_2 dX3_answerAll_11 (by decide) rfl ?_
  refine c_iconst (v := nI 0) dX3_answerAll_12 (by decide) ?_
  refine c_istore_3 dX3_answerAll_13 (by decide) rfl ?_
  exact cX.cutz (kd_X3_answerAll_14 hG hR hS hM t_x0 ok hx) ⟨rfl, rfl, rfl, rfl, trivial⟩
def k_X3_answerAll (N g H T : Nat) (S : cS) (x0 : Option Nat) (x1 : Int32) : cS := KF_X3_answerAll_0 N g H T x0 x1 S
def p_X3_answerAll (N g H T : Nat) (S : cS) (x0 : Option Nat) (x1 : Int32) : Prop := KO_X3_answerAll_0 N g H T x0 x1 S
set_option maxRecDepth 100000 in
set_option maxHeartbeats 4000000 in
theorem kc_X3_answerAll {G : zG} {o : cO} {u g H T N : Nat} {S : cS} (hG : zOK G) {x0 : Option Nat} {x1 : Int32} (hS : St u g H T S) (t_x0 : tN g H x0) (ok : p_X3_answerAll N g H T S x0 x1) : cCv G o dX3_answerAll mX3_answerAll [va_rf x0, .int x1] S (fun S' => S' = k_X3_answerAll N g H T S x0 x1 ∧ St u g H T S' ∧ Mono S S') := by
  refine cC.ofX rfl (by cases x0 <;> exact Nat.le_of_ble_eq_true rfl) ?_
  rw [show zargs mX3_answerAll.2.2.1 [va_rf x0, .int x1] = [some (va_rf x0), some (.int x1), none, none, none, none] from by cases x0 <;> rfl]
  exact cX.cutz (kb_X3_answerAll_0 (X := fun F => F = k_X3_answerAll N g H T S x0 x1) hG (fun S' h1 h2 h => ⟨rfl, h, h1, h2⟩) hS Mono.rfl' t_x0 ok rfl) ⟨rfl, rfl, trivial⟩
/-! X6_ask -/
def KF_X6_ask_31 (N g H T : Nat) (x1 : Option Nat) (S : cS) : Option Nat × cS := (x1, S)
def KO_X6_ask_31 (N g H T : Nat) (x1 : Option Nat) (S : cS) : Prop := True
set_option maxRecDepth 100000 in
set_option maxHeartbeats 4000000 in
theorem kb_X6_ask_31 {G : zG} {o : cO} {u g H T N : Nat} {S : cS} {S0 : cS} {Q : Option Value → cS → Prop} {X : Option Nat × cS → Prop} (hG : zOK G) (hR : ∀ v S', St u g H T S' → Mono S0 S' → tK S' 5 v → X (v, S') → Q (some (va_rf v)) S') {x1 : Option Nat} (hS : St u g H T S) (hM : Mono S0 S) (t_x1 : tK S 5 x1) (ok : KO_X6_ask_31 N g H T x1 S) (hx : X (KF_X6_ask_31 N g H T x1 S)) : cX G o dX6_ask mX6_ask 31 [none, some (va_rf x1)] [] S Q := by
  unfold KO_X6_ask_31 at ok
  unfold KF_X6_ask_31 at hx
  refine c_aload_nQ dX6_ask_31 rfl rfl ?_
  exact c_areturn rfl (Or.inl ⟨_, rfl⟩) dX6_ask_32 (hR _ _ hS hM t_x1 hx)
def KF_X6_ask_11 (N g H T : Nat) (x0 : Option Nat) (s0 : Option Nat) (S : cS) : Option Nat × cS := (KF_X6_ask_31 N g H T s0 (k_X11_putTwo N g H T (csA S ((za s0) + 2) (nI 0).toNatClampNeg ((nI 5).toInt8.toInt32)) (some ((za s0) + 2)) (nI 1) (cI (csA S ((za s0) + 2) (nI 0).toNatClampNeg ((nI 5).toInt8.toInt32)) 9 (za x0))))
def KO_X6_ask_11 (N g H T : Nat) (x0 : Option Nat) (s0 : Option Nat) (S : cS) : Prop := (¬ s0 = none) ∧ (vp_in (nI 0) (cL S ((za s0) + 2))) ∧ (¬ x0 = none) ∧ (p_X11_putTwo N g H T (csA S ((za s0) + 2) (nI 0).toNatClampNeg ((nI 5).toInt8.toInt32)) (some ((za s0) + 2)) (nI 1) (cI (csA S ((za s0) + 2) (nI 0).toNatClampNeg ((nI 5).toInt8.toInt32)) 9 (za x0))) ∧ KO_X6_ask_31 N g H T s0 (k_X11_putTwo N g H T (csA S ((za s0) + 2) (nI 0).toNatClampNeg ((nI 5).toInt8.toInt32)) (some ((za s0) + 2)) (nI 1) (cI (csA S ((za s0) + 2) (nI 0).toNatClampNeg ((nI 5).toInt8.toInt32)) 9 (za x0)))
set_option maxRecDepth 100000 in
set_option maxHeartbeats 4000000 in
theorem kb_X6_ask_11 {G : zG} {o : cO} {u g H T N : Nat} {S : cS} {S0 : cS} {Q : Option Value → cS → Prop} {X : Option Nat × cS → Prop} (hG : zOK G) (hR : ∀ v S', St u g H T S' → Mono S0 S' → tK S' 5 v → X (v, S') → Q (some (va_rf v)) S') {x0 : Option Nat} {s0 : Option Nat} (hS : St u g H T S) (hM : Mono S0 S) (t_x0 : tN g H x0) (t_s0 : tK S 5 s0) (ok : KO_X6_ask_11 N g H T x0 s0 S) (hx : X (KF_X6_ask_11 N g H T x0 s0 S)) : cX G o dX6_ask mX6_ask 11 [some (va_rf x0), none] [va_rf s0] S Q := by
  unfold KO_X6_ask_11 at ok
  unfold KF_X6_ask_11 at hx
  refine c_astore_1Q dX6_ask_11 (by decide) (by simp [zok, zg, zcat_rf]) ?_
  refine c_aload_nQ dX6_ask_12 rfl rfl ?_
  have nn_13 := ok.1
  have p_13 := hS.m0k t_s0 ok.1
  refine c_getS (C := RX5) (T := TX5) (N := 7) (ci := 4) (k := 0) ⟨rfl, inT5, by decide, fX6_131⟩ (by decide) (by decide) (by decide) dX6_ask_13 (tK.cis t_s0 ok.1) (hS.m0 t_s0 ok.1) ?_
  have ok := ok.2
  refine c_iconst (v := nI 0) dX6_ask_16 (by decide) ?_
  refine c_iconst (v := nI 5) dX6_ask_17 (by decide) ?_
  refine c_bast dX6_ask_18 ⟨(tK.cis p_13 (Option.some_ne_none _)), ok.1⟩ ?_
  have hS := hS.Ab ((za s0) + 2) (nI 0).toNatClampNeg (nI 5)
  have hM := hM.A ((za s0) + 2) (nI 0).toNatClampNeg ((nI 5).toInt8.toInt32)
  have ok := ok.2
  refine c_aload_nQ dX6_ask_19 rfl rfl ?_
  have p_20 := hS.m0k (tK_A t_s0) nn_13
  refine c_getS (C := RX5) (T := TX5) (N := 7) (ci := 4) (k := 0) ⟨rfl, inT5, by decide, fX6_131⟩ (by decide) (by decide) (by decide) dX6_ask_20 (tK.cis (tK_A t_s0) nn_13) (hS.m0 (tK_A t_s0) nn_13) ?_
  refine c_iconst (v := nI 1) dX6_ask_23 (by decide) ?_
  refine c_aload_nQ dX6_ask_24 rfl rfl ?_
  have nn_25 := ok.1
  refine c_getI (C := RX6) (T := TX6) (N := 19) (ci := 5) (k := 9) ⟨rfl, inT6, by decide, fX6_43⟩ (by decide) (by decide) (by decide) dX6_ask_25 (hS.kN t_x0 ok.1) ?_
  have ok := ok.2
  refine c_SN3vK (y' := mX11_putTwo) dX6_ask_28 lX6_134 kX11_putTwo ⟨by decide, by decide⟩ (Nat.le_of_ble_eq_true rfl) (kc_X11_putTwo hG hS p_20 ok.1) (fun ⟨hS, hm_28⟩ => ?_)
  have hM := hM.trans hm_28
  have ok := ok.2
  exact cX.cutz (kb_X6_ask_31 hG hR hS hM (hm_28.tK (tK_A t_s0) (by decide)) ok hx) ⟨rfl, trivial⟩
def KF_X6_ask_0 (N g H T : Nat) (x0 : Option Nat) (S : cS) : Option Nat × cS := (KF_X6_ask_11 N g H T x0 ((k_X9_fresh N g H T S (g + 11) (nI 3)).1) (k_X9_fresh N g H T S (g + 11) (nI 3)).2)
def KO_X6_ask_0 (N g H T : Nat) (x0 : Option Nat) (S : cS) : Prop := (¬ x0 = none) ∧ (p_X9_fresh N g H T S (g + 11) (nI 3)) ∧ KO_X6_ask_11 N g H T x0 ((k_X9_fresh N g H T S (g + 11) (nI 3)).1) (k_X9_fresh N g H T S (g + 11) (nI 3)).2
set_option maxRecDepth 100000 in
set_option maxHeartbeats 4000000 in
theorem kb_X6_ask_0 {G : zG} {o : cO} {u g H T N : Nat} {S : cS} {S0 : cS} {Q : Option Value → cS → Prop} {X : Option Nat × cS → Prop} (hG : zOK G) (hR : ∀ v S', St u g H T S' → Mono S0 S' → tK S' 5 v → X (v, S') → Q (some (va_rf v)) S') {x0 : Option Nat} (hS : St u g H T S) (hM : Mono S0 S) (t_x0 : tN g H x0) (ok : KO_X6_ask_0 N g H T x0 S) (hx : X (KF_X6_ask_0 N g H T x0 S)) : cX G o dX6_ask mX6_ask 0 [some (va_rf x0), none] [] S Q := by
  unfold KO_X6_ask_0 at ok
  unfold KF_X6_ask_0 at hx
  refine c_aload_nQ dX6_ask_0 rfl rfl ?_
  have nn_1 := ok.1
  refine c_getS (C := RX6) (T := TX6) (N := 19) (ci := 5) (k := 0) ⟨rfl, inT6, by decide, fX6_56⟩ (by decide) (by decide) (by decide) dX6_ask_1 (hS.kN t_x0 ok.1) (hS.r (c := 5) (tN.o t_x0 ok.1) rfl (by omega)) ?_
  have ok := ok.2
  refine c_getS (C := RX10) (T := TX10) (N := 12) (ci := 8) (k := 6) ⟨rfl, inT10, by decide, fX6_65⟩ (by decide) (by decide) (by decide) dX6_ask_4 (hS.k (o50 (tN.o t_x0 nn_1))) (hS.r (c := 8) (o50 (tN.o t_x0 nn_1)) rfl (by omega)) ?_
  refine c_iconst (v := nI 3) dX6_ask_7 (by decide) ?_
  refine c_V1qK (ci := 7) (rr := (RX9, TX9, 13)) (y' := mX9_fresh) dX6_ask_8 lX6_127 kX9_fresh ⟨by decide, by decide⟩ rfl rfl (by decide) (hS.k (o86 (o50 (tN.o t_x0 nn_1)))) (Nat.le_of_ble_eq_true rfl) (kc_X9_fresh hG hS (o86 (o50 (tN.o t_x0 nn_1))) ok.1) (fun ⟨hS, hm_8, tv_8⟩ => ?_)
  have hM := hM.trans hm_8
  have ok := ok.2
  exact cX.cutz (kb_X6_ask_11 hG hR hS hM t_x0 tv_8 ok hx) ⟨rfl, trivial⟩
def k_X6_ask (N g H T : Nat) (S : cS) (a0 : Nat) : Option Nat × cS := KF_X6_ask_0 N g H T (some a0) S
def p_X6_ask (N g H T : Nat) (S : cS) (a0 : Nat) : Prop := KO_X6_ask_0 N g H T (some a0) S
set_option maxRecDepth 100000 in
set_option maxHeartbeats 4000000 in
theorem kc_X6_ask {G : zG} {o : cO} {u g H T N : Nat} {S : cS} (hG : zOK G) {a0 : Nat} (hS : St u g H T S) (t_x0 : isO g H 5 a0) (ok : p_X6_ask N g H T S a0) : cCq G o dX6_ask mX6_ask [.ref a0] S (fun v S' => (v = (k_X6_ask N g H T S a0).1 ∧ S' = (k_X6_ask N g H T S a0).2) ∧ St u g H T S' ∧ Mono S S' ∧ tK S' 5 v) := by
  refine cC.ofX rfl (by exact Nat.le_of_ble_eq_true rfl) ?_
  show cX G o dX6_ask mX6_ask 0 [some (va_rf (some a0)), none] [] S _
  exact cX.cutz (kb_X6_ask_0 (X := fun F => F = k_X6_ask N g H T S a0) hG (fun v S' h1 h2 h3 h => ⟨v, rfl, ⟨by rw [← h], by rw [← h]⟩, h1, h2, h3⟩) hS Mono.rfl' (tN_some t_x0) ok rfl) ⟨rfl, trivial⟩
/-! X8_holdDecided -/
def KF_X8_holdDecided_57 (N g H T : Nat)  (S : cS) : Int32 × cS := ((nI 1), S)
def KO_X8_holdDecided_57 (N g H T : Nat)  (S : cS) : Prop := True
set_option maxRecDepth 100000 in
set_option maxHeartbeats 4000000 in
theorem kb_X8_holdDecided_57 {G : zG} {o : cO} {u g H T N : Nat} {S : cS} {S0 : cS} {Q : Option Value → cS → Prop} {X : Int32 × cS → Prop} (hG : zOK G) (hR : ∀ v S', St u g H T S' → Mono S0 S' → X (v, S') → Q (some (.int v)) S') (hS : St u g H T S) (hM : Mono S0 S) (ok : KO_X8_holdDecided_57 N g H T S) (hx : X (KF_X8_holdDecided_57 N g H T S)) : cX G o dX8_holdDecided mX8_holdDecided 57 [none, none, none] [] S Q := by
  unfold KO_X8_holdDecided_57 at ok
  unfold KF_X8_holdDecided_57 at hx
  refine c_iconst (v := nI 1) dX8_holdDecided_57 (by decide) ?_
  exact c_ireturn rfl rfl dX8_holdDecided_58 (hR _ _ hS hM hx)
def KF_X8_holdDecided_37 (N g H T : Nat) (x0 : Nat) (x2 : Option Nat) (S : cS) : Int32 × cS := (KF_X8_holdDecided_57 N g H T (csI (csI S 3 (za x2) ((cI S 3 (za x2)) + (nI 1))) 11 x0 ((cI (csI S 3 (za x2) ((cI S 3 (za x2)) + (nI 1))) 11 x0) + (nI 1))))
def KO_X8_holdDecided_37 (N g H T : Nat) (x0 : Nat) (x2 : Option Nat) (S : cS) : Prop := (¬ x2 = none) ∧ KO_X8_holdDecided_57 N g H T (csI (csI S 3 (za x2) ((cI S 3 (za x2)) + (nI 1))) 11 x0 ((cI (csI S 3 (za x2) ((cI S 3 (za x2)) + (nI 1))) 11 x0) + (nI 1)))
set_option maxRecDepth 100000 in
set_option maxHeartbeats 4000000 in
theorem kb_X8_holdDecided_37 {G : zG} {o : cO} {u g H T N : Nat} {S : cS} {S0 : cS} {Q : Option Value → cS → Prop} {X : Int32 × cS → Prop} (hG : zOK G) (hR : ∀ v S', St u g H T S' → Mono S0 S' → X (v, S') → Q (some (.int v)) S') {x0 : Nat} {x2 : Option Nat} (hS : St u g H T S) (hM : Mono S0 S) (t_x0 : isO g H 6 x0) (t_x2 : tK S 5 x2) (ok : KO_X8_holdDecided_37 N g H T x0 x2 S) (hx : X (KF_X8_holdDecided_37 N g H T x0 x2 S)) : cX G o dX8_holdDecided mX8_holdDecided 37 [some (va_rf (some x0)), none, some (va_rf x2)] [] S Q := by
  unfold KO_X8_holdDecided_37 at ok
  unfold KF_X8_holdDecided_37 at hx
  refine c_aload_nQ dX8_holdDecided_37 rfl rfl ?_
  refine c_dup dX8_holdDecided_38 (zcat_rf _) ?_
  have nn_39 := ok.1
  refine c_getI (C := RX5) (T := TX5) (N := 7) (ci := 4) (k := 3) ⟨rfl, inT5, by decide, fX8_72⟩ (by decide) (by decide) (by decide) dX8_holdDecided_39 (tK.cis t_x2 ok.1) ?_
  have ok := ok.2
  refine c_iconst (v := nI 1) dX8_holdDecided_42 (by decide) ?_
  refine c_iadd dX8_holdDecided_43 ?_
  refine c_putI (C := RX5) (T := TX5) (N := 7) (ci := 4) (k := 3) ⟨rfl, inT5, by decide, fX8_72⟩ ftT5 rfl (by decide) (by decide) (by decide) rfl rfl dX8_holdDecided_44 (tK.cis t_x2 nn_39) ?_
  have hS := hS.I 3 (za x2) ((cI S 3 (za x2)) + (nI 1))
  have hM := hM.I 3 (za x2) ((cI S 3 (za x2)) + (nI 1))
  refine c_aload_nQ dX8_holdDecided_47 rfl rfl ?_
  refine c_dup dX8_holdDecided_48 (zcat_rf _) ?_
  refine c_getI (C := RX8) (T := TX8) (N := 14) (ci := 6) (k := 11) ⟨rfl, inT8, by decide, fX8_88⟩ (by decide) (by decide) (by decide) dX8_holdDecided_49 (hS.k t_x0) ?_
  refine c_iconst (v := nI 1) dX8_holdDecided_52 (by decide) ?_
  refine c_iadd dX8_holdDecided_53 ?_
  refine c_putI (C := RX8) (T := TX8) (N := 14) (ci := 6) (k := 11) ⟨rfl, inT8, by decide, fX8_88⟩ ftT8 rfl (by decide) (by decide) (by decide) rfl rfl dX8_holdDecided_54 (hS.k t_x0) ?_
  have hS := hS.I 11 x0 ((cI (csI S 3 (za x2) ((cI S 3 (za x2)) + (nI 1))) 11 x0) + (nI 1))
  have hM := hM.I 11 x0 ((cI (csI S 3 (za x2) ((cI S 3 (za x2)) + (nI 1))) 11 x0) + (nI 1))
  exact cX.cutz (kb_X8_holdDecided_57 hG hR hS hM  ok hx) trivial
def KF_X8_holdDecided_21 (N g H T : Nat)  (S : cS) : Int32 × cS := ((nI 0), S)
def KO_X8_holdDecided_21 (N g H T : Nat)  (S : cS) : Prop := True
set_option maxRecDepth 100000 in
set_option maxHeartbeats 4000000 in
theorem kb_X8_holdDecided_21 {G : zG} {o : cO} {u g H T N : Nat} {S : cS} {S0 : cS} {Q : Option Value → cS → Prop} {X : Int32 × cS → Prop} (hG : zOK G) (hR : ∀ v S', St u g H T S' → Mono S0 S' → X (v, S') → Q (some (.int v)) S') (hS : St u g H T S) (hM : Mono S0 S) (ok : KO_X8_holdDecided_21 N g H T S) (hx : X (KF_X8_holdDecided_21 N g H T S)) : cX G o dX8_holdDecided mX8_holdDecided 21 [none, none, none] [] S Q := by
  unfold KO_X8_holdDecided_21 at ok
  unfold KF_X8_holdDecided_21 at hx
  refine c_iconst (v := nI 0) dX8_holdDecided_21 (by decide) ?_
  exact c_ireturn rfl rfl dX8_holdDecided_22 (hR _ _ hS hM hx)
def KF_X8_holdDecided_0 (N g H T : Nat) (x0 : Nat) (x1 : Int32) (x2 : Option Nat) (S : cS) : Int32 × cS := (if x1 < 0 then (KF_X8_holdDecided_21 N g H T S) else (if (cI S 1 x0) ≤ x1 then (KF_X8_holdDecided_21 N g H T S) else (if (cP S (x0 + 6) x1.toNatClampNeg) = none then (KF_X8_holdDecided_37 N g H T x0 x2 (csA (csP S (x0 + 6) x1.toNatClampNeg x2) (x0 + 7) x1.toNatClampNeg (nI 0))) else (KF_X8_holdDecided_21 N g H T S))))
def KO_X8_holdDecided_0 (N g H T : Nat) (x0 : Nat) (x1 : Int32) (x2 : Option Nat) (S : cS) : Prop := ((x1 < 0 → KO_X8_holdDecided_21 N g H T S) ∧ (¬ x1 < 0 → (((cI S 1 x0) ≤ x1 → KO_X8_holdDecided_21 N g H T S) ∧ (¬ (cI S 1 x0) ≤ x1 → (vp_in x1 T) ∧ (((cP S (x0 + 6) x1.toNatClampNeg) = none → (vp_in x1 T) ∧ (vp_in x1 T) ∧ KO_X8_holdDecided_37 N g H T x0 x2 (csA (csP S (x0 + 6) x1.toNatClampNeg x2) (x0 + 7) x1.toNatClampNeg (nI 0))) ∧ (¬ (cP S (x0 + 6) x1.toNatClampNeg) = none → KO_X8_holdDecided_21 N g H T S))))))
set_option maxRecDepth 100000 in
set_option maxHeartbeats 4000000 in
theorem kb_X8_holdDecided_0 {G : zG} {o : cO} {u g H T N : Nat} {S : cS} {S0 : cS} {Q : Option Value → cS → Prop} {X : Int32 × cS → Prop} (hG : zOK G) (hR : ∀ v S', St u g H T S' → Mono S0 S' → X (v, S') → Q (some (.int v)) S') {x0 : Nat} {x1 : Int32} {x2 : Option Nat} (hS : St u g H T S) (hM : Mono S0 S) (t_x0 : isO g H 6 x0) (t_x2 : tK S 5 x2) (ok : KO_X8_holdDecided_0 N g H T x0 x1 x2 S) (hx : X (KF_X8_holdDecided_0 N g H T x0 x1 x2 S)) : cX G o dX8_holdDecided mX8_holdDecided 0 [some (va_rf (some x0)), some (.int x1), some (va_rf x2)] [] S Q := by
  unfold KO_X8_holdDecided_0 at ok
  unfold KF_X8_holdDecided_0 at hx
  refine c_iload_n dX8_holdDecided_0 rfl rfl ?_
  refine c_if_lt (tgt := 21) dX8_holdDecided_1 (by decide) (fun c_1 => ?_) (fun c_1 => ?_)
  · have ok := ok.1 c_1
    have hx := xif_p c_1 hx
    exact cX.cutz (kb_X8_holdDecided_21 hG hR hS hM  ok hx) trivial
  · have ok := ok.2 c_1
    have hx := xif_n c_1 hx
    refine c_iload_n dX8_holdDecided_4 rfl rfl ?_
    refine c_aload_nQ dX8_holdDecided_5 rfl rfl ?_
    refine c_getI (C := RX8) (T := TX8) (N := 14) (ci := 6) (k := 1) ⟨rfl, inT8, by decide, fX8_32⟩ (by decide) (by decide) (by decide) dX8_holdDecided_6 (hS.k t_x0) ?_
    refine c_icmp_ge (tgt := 21) dX8_holdDecided_9 (by decide) (fun c_9 => ?_) (fun c_9 => ?_)
    · have ok := ok.1 c_9
      have hx := xif_p c_9 hx
      exact cX.cutz (kb_X8_holdDecided_21 hG hR hS hM  ok hx) trivial
    · have ok := ok.2 c_9
      have hx := xif_n c_9 hx
      refine c_aload_nQ dX8_holdDecided_12 rfl rfl ?_
      refine c_getS (C := RX8) (T := TX8) (N := 14) (ci := 6) (k := 6) ⟨rfl, inT8, by decide, fX8_39⟩ (by decide) (by decide) (by decide) dX8_holdDecided_13 (hS.k t_x0) (hS.r (c := 6) t_x0 rfl (by omega)) ?_
      refine c_iload_n dX8_holdDecided_16 rfl rfl ?_
      have p_17 := hS.row24 (hS.rk (c := 6) (k := 6) t_x0 rfl (by omega)) x1.toNatClampNeg
      refine c_aald (t := 4) (ty := (.object "QuorumLedger$Message")) rfl rfl (by decide) dX8_holdDecided_17 ⟨(tK.cis (hS.rk (c := 6) (k := 6) t_x0 rfl (by omega)) (Option.some_ne_none _)), (vk_cast (hS.rl (c := 6) (k := 6) t_x0 rfl (by decide) (by omega)) ok.1)⟩ ?_
      have ok := ok.2
      refine c_ifnullI (tgt := 23) dX8_holdDecided_18 (by decide) (fun c_18 => ?_) (fun c_18 => ?_)
      · have ok := ok.1 c_18
        have hx := xif_p c_18 hx
        refine c_aload_nQ dX8_holdDecided_23 rfl rfl ?_
        refine c_getS (C := RX8) (T := TX8) (N := 14) (ci := 6) (k := 6) ⟨rfl, inT8, by decide, fX8_39⟩ (by decide) (by decide) (by decide) dX8_holdDecided_24 (hS.k t_x0) (hS.r (c := 6) t_x0 rfl (by omega)) ?_
        refine c_iload_n dX8_holdDecided_27 rfl rfl ?_
        refine c_aload_nQ dX8_holdDecided_28 rfl rfl ?_
        have hS2 := hS.P24 (i := x1.toNatClampNeg) ((hS.rk (c := 6) (k := 6) t_x0 rfl (by omega)) _ rfl) t_x2
        refine c_aast (t := 4) (ci := 4) (rr := (RX5, TX5, 7)) rfl rfl (by decide) (by decide) dX8_holdDecided_29 ⟨(tK.cis (hS.rk (c := 6) (k := 6) t_x0 rfl (by omega)) (Option.some_ne_none _)), (vk_cast (hS.rl (c := 6) (k := 6) t_x0 rfl (by decide) (by omega)) ok.1), tKor t_x2⟩ ?_
        have hS := hS2
        have hM := hM.P (x0 + 6) x1.toNatClampNeg x2
        have ok := ok.2
        refine c_aload_nQ dX8_holdDecided_30 rfl rfl ?_
        refine c_getS (C := RX8) (T := TX8) (N := 14) (ci := 6) (k := 7) ⟨rfl, inT8, by decide, fX8_42⟩ (by decide) (by decide) (by decide) dX8_holdDecided_31 (hS.k t_x0) (hS.r (c := 6) t_x0 rfl (by omega)) ?_
        refine c_iload_n dX8_holdDecided_34 rfl rfl ?_
        refine c_iconst (v := nI 0) dX8_holdDecided_35 (by decide) ?_
        have tq_36 : tK (csP S (x0 + 6) x1.toNatClampNeg x2) 21 (some (x0 + 7)) := tK_some (tK.cis (hS.rk (c := 6) (k := 7) t_x0 rfl (by omega)) (Option.some_ne_none _)).2
        refine c_iast hG dX8_holdDecided_36 ⟨(tK.cis (hS.rk (c := 6) (k := 7) t_x0 rfl (by omega)) (Option.some_ne_none _)), (vk_cast (hS.rl (c := 6) (k := 7) t_x0 rfl (by decide) (by omega)) ok.1)⟩ ?_
        have hS := hS.Aw (k := 21) (x0 + 7) x1.toNatClampNeg (nI 0) tq_36 (by decide)
        have hM := hM.A (x0 + 7) x1.toNatClampNeg (nI 0)
        have ok := ok.2
        exact cX.cutz (kb_X8_holdDecided_37 hG hR hS hM t_x0 (tK_A (tK_P t_x2)) ok hx) ⟨rfl, rfl, trivial⟩
      · have ok := ok.2 c_18
        have hx := xif_n c_18 hx
        exact cX.cutz (kb_X8_holdDecided_21 hG hR hS hM  ok hx) trivial
def k_X8_holdDecided (N g H T : Nat) (S : cS) (a0 : Nat) (x1 : Int32) (x2 : Option Nat) : Int32 × cS := KF_X8_holdDecided_0 N g H T a0 x1 x2 S
def p_X8_holdDecided (N g H T : Nat) (S : cS) (a0 : Nat) (x1 : Int32) (x2 : Option Nat) : Prop := KO_X8_holdDecided_0 N g H T a0 x1 x2 S
set_option maxRecDepth 100000 in
set_option maxHeartbeats 4000000 in
theorem kc_X8_holdDecided {G : zG} {o : cO} {u g H T N : Nat} {S : cS} (hG : zOK G) {a0 : Nat} {x1 : Int32} {x2 : Option Nat} (hS : St u g H T S) (t_x0 : isO g H 6 a0) (t_x2 : tK S 5 x2) (ok : p_X8_holdDecided N g H T S a0 x1 x2) : cCi G o dX8_holdDecided mX8_holdDecided [.ref a0, .int x1, va_rf x2] S (fun v S' => (v = (k_X8_holdDecided N g H T S a0 x1 x2).1 ∧ S' = (k_X8_holdDecided N g H T S a0 x1 x2).2) ∧ St u g H T S' ∧ Mono S S') := by
  refine cC.ofX rfl (by cases x2 <;> exact Nat.le_of_ble_eq_true rfl) ?_
  rw [show zargs mX8_holdDecided.2.2.1 [.ref a0, .int x1, va_rf x2] = [some (va_rf (some a0)), some (.int x1), some (va_rf x2)] from by cases x2 <;> rfl]
  exact cX.cutz (kb_X8_holdDecided_0 (X := fun F => F = k_X8_holdDecided N g H T S a0 x1 x2) hG (fun v S' h1 h2 h => ⟨v, rfl, ⟨by rw [← h], by rw [← h]⟩, h1, h2⟩) hS Mono.rfl' t_x0 t_x2 ok rfl) ⟨rfl, rfl, rfl, trivial⟩
/-! X10_proposer -/
def KF_X10_proposer_19 (N g H T : Nat) (s0 : Int32) (S : cS) : Int32 := s0
def KO_X10_proposer_19 (N g H T : Nat) (s0 : Int32) (S : cS) : Prop := True
set_option maxRecDepth 100000 in
set_option maxHeartbeats 4000000 in
theorem kb_X10_proposer_19 {G : zG} {o : cO} {u g H T N : Nat} {S : cS} {Q : Option Value → cS → Prop} {X : Int32 → Prop} (hG : zOK G) (hR : ∀ v, X v → Q (some (.int v)) S) {s0 : Int32} (hS : St u g H T S) (ok : KO_X10_proposer_19 N g H T s0 S) (hx : X (KF_X10_proposer_19 N g H T s0 S)) : cX G o dX10_proposer mX10_proposer 19 [none, none, none] [.int s0] S Q := by
  unfold KO_X10_proposer_19 at ok
  unfold KF_X10_proposer_19 at hx
  exact c_ireturn rfl rfl dX10_proposer_19 (hR _ hx)
def KF_X10_proposer_0 (N g H T : Nat) (x0 : Nat) (x1 : Int32) (x2 : Int32) (S : cS) : Int32 := (if 0 < (cI S 1 x0) then (KF_X10_proposer_19 N g H T ((x1 + x2) - (x1 + x2) / (cI S 1 x0) * (cI S 1 x0)) S) else (KF_X10_proposer_19 N g H T (nI 0) S))
def KO_X10_proposer_0 (N g H T : Nat) (x0 : Nat) (x1 : Int32) (x2 : Int32) (S : cS) : Prop := ((0 < (cI S 1 x0) → (¬ (cI S 1 x0) = 0) ∧ KO_X10_proposer_19 N g H T ((x1 + x2) - (x1 + x2) / (cI S 1 x0) * (cI S 1 x0)) S) ∧ (¬ 0 < (cI S 1 x0) → KO_X10_proposer_19 N g H T (nI 0) S))
set_option maxRecDepth 100000 in
set_option maxHeartbeats 4000000 in
theorem kb_X10_proposer_0 {G : zG} {o : cO} {u g H T N : Nat} {S : cS} {Q : Option Value → cS → Prop} {X : Int32 → Prop} (hG : zOK G) (hR : ∀ v, X v → Q (some (.int v)) S) {x0 : Nat} {x1 : Int32} {x2 : Int32} (hS : St u g H T S) (t_x0 : isO g H 8 x0) (ok : KO_X10_proposer_0 N g H T x0 x1 x2 S) (hx : X (KF_X10_proposer_0 N g H T x0 x1 x2 S)) : cX G o dX10_proposer mX10_proposer 0 [some (va_rf (some x0)), some (.int x1), some (.int x2)] [] S Q := by
  unfold KO_X10_proposer_0 at ok
  unfold KF_X10_proposer_0 at hx
  refine c_aload_nQ dX10_proposer_0 rfl rfl ?_
  refine c_getI (C := RX10) (T := TX10) (N := 12) (ci := 8) (k := 1) ⟨rfl, inT10, by decide, fX10_47⟩ (by decide) (by decide) (by decide) dX10_proposer_1 (hS.k t_x0) ?_
  refine c_if_gt (tgt := 11) dX10_proposer_4 (by decide) (fun c_4 => ?_) (fun c_4 => ?_)
  · have ok := ok.1 c_4
    have hx := xif_p c_4 hx
    refine c_iload_n dX10_proposer_11 rfl rfl ?_
    refine c_iload_n dX10_proposer_12 rfl rfl ?_
    refine c_iadd dX10_proposer_13 ?_
    refine c_aload_nQ dX10_proposer_14 rfl rfl ?_
    refine c_getI (C := RX10) (T := TX10) (N := 12) (ci := 8) (k := 1) ⟨rfl, inT10, by decide, fX10_47⟩ (by decide) (by decide) (by decide) dX10_proposer_15 (hS.k t_x0) ?_
    refine c_irem dX10_proposer_18 ok.1 ?_
    have ok := ok.2
    exact cX.cutz (kb_X10_proposer_19 hG hR hS  ok hx) trivial
  · have ok := ok.2 c_4
    have hx := xif_n c_4 hx
    refine c_iconst (v := nI 0) dX10_proposer_7 (by decide) ?_
    refine c_goto (tgt := 19) dX10_proposer_8 (by decide) ?_
    exact cX.cutz (kb_X10_proposer_19 hG hR hS  ok hx) trivial
def k_X10_proposer (N g H T : Nat) (S : cS) (a0 : Nat) (x1 : Int32) (x2 : Int32) : Int32 := KF_X10_proposer_0 N g H T a0 x1 x2 S
def p_X10_proposer (N g H T : Nat) (S : cS) (a0 : Nat) (x1 : Int32) (x2 : Int32) : Prop := KO_X10_proposer_0 N g H T a0 x1 x2 S
set_option maxRecDepth 100000 in
set_option maxHeartbeats 4000000 in
theorem kc_X10_proposer {G : zG} {o : cO} {u g H T N : Nat} {S : cS} (hG : zOK G) {a0 : Nat} {x1 : Int32} {x2 : Int32} (hS : St u g H T S) (t_x0 : isO g H 8 a0) (ok : p_X10_proposer N g H T S a0 x1 x2) : cCi G o dX10_proposer mX10_proposer [.ref a0, .int x1, .int x2] S (fun v S' => (v = k_X10_proposer N g H T S a0 x1 x2 ∧ S' = S)) := by
  refine cC.ofX rfl (by exact Nat.le_of_ble_eq_true rfl) ?_
  show cX G o dX10_proposer mX10_proposer 0 [some (va_rf (some a0)), some (.int x1), some (.int x2)] [] S _
  exact cX.cutz (kb_X10_proposer_0 (X := fun F => F = k_X10_proposer N g H T S a0 x1 x2) hG (fun v h => ⟨v, rfl, h, rfl⟩) hS t_x0 ok rfl) ⟨rfl, rfl, rfl, trivial⟩
/-! X8_like -/
def KF_X8_like_68 (N g H T : Nat) (s0 : Option Nat) (S : cS) : Option Nat := s0
def KO_X8_like_68 (N g H T : Nat) (s0 : Option Nat) (S : cS) : Prop := True
set_option maxRecDepth 100000 in
set_option maxHeartbeats 4000000 in
theorem kb_X8_like_68 {G : zG} {o : cO} {u g H T N : Nat} {S : cS} {Q : Option Value → cS → Prop} {X : Option Nat → Prop} (hG : zOK G) (hR : ∀ v, tK S 5 v → X v → Q (some (va_rf v)) S) {s0 : Option Nat} (hS : St u g H T S) (t_s0 : tK S 5 s0) (ok : KO_X8_like_68 N g H T s0 S) (hx : X (KF_X8_like_68 N g H T s0 S)) : cX G o dX8_like mX8_like 68 [none, none, none] [va_rf s0] S Q := by
  unfold KO_X8_like_68 at ok
  unfold KF_X8_like_68 at hx
  exact c_areturn rfl (Or.inl ⟨_, rfl⟩) dX8_like_68 (hR _ t_s0 hx)
def KF_X8_like_67 (N g H T : Nat) (s0 : Option Nat) (s1 : Int32) (S : cS) : Option Nat := (KF_X8_like_68 N g H T (cP S (za s0) s1.toNatClampNeg) S)
def KO_X8_like_67 (N g H T : Nat) (s0 : Option Nat) (s1 : Int32) (S : cS) : Prop := (¬ s0 = none ∧ vp_in s1 (cL S (za s0))) ∧ KO_X8_like_68 N g H T (cP S (za s0) s1.toNatClampNeg) S
set_option maxRecDepth 100000 in
set_option maxHeartbeats 4000000 in
theorem kb_X8_like_67 {G : zG} {o : cO} {u g H T N : Nat} {S : cS} {Q : Option Value → cS → Prop} {X : Option Nat → Prop} (hG : zOK G) (hR : ∀ v, tK S 5 v → X v → Q (some (va_rf v)) S) {s0 : Option Nat} {s1 : Int32} (hS : St u g H T S) (t_s0 : tK S 24 s0) (ok : KO_X8_like_67 N g H T s0 s1 S) (hx : X (KF_X8_like_67 N g H T s0 s1 S)) : cX G o dX8_like mX8_like 67 [none, none, none] [.int s1, va_rf s0] S Q := by
  unfold KO_X8_like_67 at ok
  unfold KF_X8_like_67 at hx
  have p_67 := hS.row24x t_s0 ok.1.1 s1.toNatClampNeg
  refine c_aald (t := 4) (ty := (.object "QuorumLedger$Message")) rfl rfl (by decide) dX8_like_67 ⟨(tK.cis t_s0 ok.1.1), ok.1.2⟩ ?_
  have ok := ok.2
  exact cX.cutz (kb_X8_like_68 hG hR hS p_67 ok hx) trivial
def KF_X8_like_30 (N g H T : Nat)  (S : cS) : Option Nat := (none : Option Nat)
def KO_X8_like_30 (N g H T : Nat)  (S : cS) : Prop := True
set_option maxRecDepth 100000 in
set_option maxHeartbeats 4000000 in
theorem kb_X8_like_30 {G : zG} {o : cO} {u g H T N : Nat} {S : cS} {Q : Option Value → cS → Prop} {X : Option Nat → Prop} (hG : zOK G) (hR : ∀ v, tK S 5 v → X v → Q (some (va_rf v)) S) (hS : St u g H T S) (ok : KO_X8_like_30 N g H T S) (hx : X (KF_X8_like_30 N g H T S)) : cX G o dX8_like mX8_like 30 [none, none, none] [] S Q := by
  unfold KO_X8_like_30 at ok
  unfold KF_X8_like_30 at hx
  refine c_null' dX8_like_30 ?_
  exact c_areturn rfl (Or.inl ⟨_, rfl⟩) dX8_like_31 (hR _ tK_none hx)
def KF_X8_like_0 (N g H T : Nat) (x0 : Nat) (x1 : Option Nat) (S : cS) : Option Nat := (if (k_X8_page N g H T S x0 (k_X5_two N g H T S (za x1) (nI 2)) (k_X5_at N g H T S (za x1) (nI 4))) < 0 then (KF_X8_like_30 N g H T S) else (if (k_X5_signer N g H T S (za x1)) < (cI S 1 x0) then (if (k_X5_kind N g H T S (za x1)) = (nI 1) then (KF_X8_like_68 N g H T (cP S (x0 + 1) (k_X8_page N g H T S x0 (k_X5_two N g H T S (za x1) (nI 2)) (k_X5_at N g H T S (za x1) (nI 4))).toNatClampNeg) S) else (KF_X8_like_67 N g H T (some (x0 + 5)) ((k_X8_ballots N g H T S x0 (k_X8_page N g H T S x0 (k_X5_two N g H T S (za x1) (nI 2)) (k_X5_at N g H T S (za x1) (nI 4))) (k_X5_kind N g H T S (za x1))) + (k_X5_signer N g H T S (za x1))) S)) else (KF_X8_like_30 N g H T S)))
def KO_X8_like_0 (N g H T : Nat) (x0 : Nat) (x1 : Option Nat) (S : cS) : Prop := (¬ x1 = none ∧ p_X5_two N g H T S (za x1) (nI 2)) ∧ (p_X5_at N g H T S (za x1) (nI 4)) ∧ (p_X8_page N g H T S x0 (k_X5_two N g H T S (za x1) (nI 2)) (k_X5_at N g H T S (za x1) (nI 4))) ∧ (((k_X8_page N g H T S x0 (k_X5_two N g H T S (za x1) (nI 2)) (k_X5_at N g H T S (za x1) (nI 4))) < 0 → KO_X8_like_30 N g H T S) ∧ (¬ (k_X8_page N g H T S x0 (k_X5_two N g H T S (za x1) (nI 2)) (k_X5_at N g H T S (za x1) (nI 4))) < 0 → (p_X5_signer N g H T S (za x1)) ∧ (((k_X5_signer N g H T S (za x1)) < (cI S 1 x0) → (p_X5_kind N g H T S (za x1)) ∧ (((k_X5_kind N g H T S (za x1)) = (nI 1) → (vp_in (k_X8_page N g H T S x0 (k_X5_two N g H T S (za x1) (nI 2)) (k_X5_at N g H T S (za x1) (nI 4))) 32) ∧ KO_X8_like_68 N g H T (cP S (x0 + 1) (k_X8_page N g H T S x0 (k_X5_two N g H T S (za x1) (nI 2)) (k_X5_at N g H T S (za x1) (nI 4))).toNatClampNeg) S) ∧ (¬ (k_X5_kind N g H T S (za x1)) = (nI 1) → (p_X5_kind N g H T S (za x1)) ∧ (p_X8_ballots N g H T S x0 (k_X8_page N g H T S x0 (k_X5_two N g H T S (za x1) (nI 2)) (k_X5_at N g H T S (za x1) (nI 4))) (k_X5_kind N g H T S (za x1))) ∧ (p_X5_signer N g H T S (za x1)) ∧ KO_X8_like_67 N g H T (some (x0 + 5)) ((k_X8_ballots N g H T S x0 (k_X8_page N g H T S x0 (k_X5_two N g H T S (za x1) (nI 2)) (k_X5_at N g H T S (za x1) (nI 4))) (k_X5_kind N g H T S (za x1))) + (k_X5_signer N g H T S (za x1))) S))) ∧ (¬ (k_X5_signer N g H T S (za x1)) < (cI S 1 x0) → KO_X8_like_30 N g H T S))))
set_option maxRecDepth 100000 in
set_option maxHeartbeats 4000000 in
theorem kb_X8_like_0 {G : zG} {o : cO} {u g H T N : Nat} {S : cS} {Q : Option Value → cS → Prop} {X : Option Nat → Prop} (hG : zOK G) (hR : ∀ v, tK S 5 v → X v → Q (some (va_rf v)) S) {x0 : Nat} {x1 : Option Nat} (hS : St u g H T S) (t_x0 : isO g H 6 x0) (t_x1 : tK S 5 x1) (ok : KO_X8_like_0 N g H T x0 x1 S) (hx : X (KF_X8_like_0 N g H T x0 x1 S)) : cX G o dX8_like mX8_like 0 [some (va_rf (some x0)), some (va_rf x1), none] [] S Q := by
  unfold KO_X8_like_0 at ok
  unfold KF_X8_like_0 at hx
  refine c_aload_nQ dX8_like_0 rfl rfl ?_
  refine c_aload_nQ dX8_like_1 rfl rfl ?_
  refine c_iconst (v := nI 2) dX8_like_2 (by decide) ?_
  have nn_3 := ok.1.1
  refine c_V1iE (ci := 4) (rr := (RX5, TX5, 7)) (y' := mX5_two) dX8_like_3 lX8_55 kX5_two ⟨by decide, by decide⟩ rfl rfl (by decide) (tK.cis t_x1 nn_3) (by simp only [List.map_cons, List.map_nil, List.sum_cons, List.sum_nil, zcat_rf, zcat_i, zcat_l, zcat_r] <;> decide) (kc_X5_two hG hS (t_x1 _ (za_of nn_3)) ok.1.2) ?_
  have ok := ok.2
  refine c_aload_nQ dX8_like_6 rfl rfl ?_
  refine c_iconst (v := nI 4) dX8_like_7 (by decide) ?_
  refine c_V1iE (ci := 4) (rr := (RX5, TX5, 7)) (y' := mX5_at) dX8_like_8 lX8_59 kX5_at ⟨by decide, by decide⟩ rfl rfl (by decide) (tK.cis t_x1 nn_3) (by simp only [List.map_cons, List.map_nil, List.sum_cons, List.sum_nil, zcat_rf, zcat_i, zcat_l, zcat_r] <;> decide) (kc_X5_at hG hS (t_x1 _ (za_of nn_3)) ok.1) ?_
  have ok := ok.2
  refine c_V2iE (ci := 6) (rr := (RX8, TX8, 14)) (y' := mX8_page) dX8_like_11 lX8_51 kX8_page ⟨by decide, by decide⟩ rfl rfl (by decide) (hS.k t_x0) (Nat.le_of_ble_eq_true rfl) (kc_X8_page hG hS t_x0 ok.1) ?_
  have ok := ok.2
  refine c_istore_2 dX8_like_14 (by decide) (by simp [zok, zg, zcat_rf]) ?_
  refine c_iload_n dX8_like_15 rfl rfl ?_
  refine c_if_lt (tgt := 30) dX8_like_16 (by decide) (fun c_16 => ?_) (fun c_16 => ?_)
  · have ok := ok.1 c_16
    have hx := xif_p c_16 hx
    exact cX.cutz (kb_X8_like_30 hG hR hS  ok hx) trivial
  · have ok := ok.2 c_16
    have hx := xif_n c_16 hx
    refine c_aload_nQ dX8_like_19 rfl rfl ?_
    refine c_V0iE (ci := 4) (rr := (RX5, TX5, 7)) (y' := mX5_signer) dX8_like_20 lX8_62 kX5_signer ⟨by decide, by decide⟩ rfl rfl (by decide) (tK.cis t_x1 nn_3) (Nat.le_of_ble_eq_true rfl) (kc_X5_signer hG hS (t_x1 _ (za_of nn_3)) ok.1) ?_
    have ok := ok.2
    refine c_aload_nQ dX8_like_23 rfl rfl ?_
    refine c_getI (C := RX8) (T := TX8) (N := 14) (ci := 6) (k := 1) ⟨rfl, inT8, by decide, fX8_32⟩ (by decide) (by decide) (by decide) dX8_like_24 (hS.k t_x0) ?_
    refine c_icmp_lt (tgt := 32) dX8_like_27 (by decide) (fun c_27 => ?_) (fun c_27 => ?_)
    · have ok := ok.1 c_27
      have hx := xif_p c_27 hx
      refine c_aload_nQ dX8_like_32 rfl rfl ?_
      refine c_V0iE (ci := 4) (rr := (RX5, TX5, 7)) (y' := mX5_kind) dX8_like_33 lX8_66 kX5_kind ⟨by decide, by decide⟩ rfl rfl (by decide) (tK.cis t_x1 nn_3) (Nat.le_of_ble_eq_true rfl) (kc_X5_kind hG hS (t_x1 _ (za_of nn_3)) ok.1) ?_
      have ok := ok.2
      refine c_iconst (v := nI 1) dX8_like_36 (by decide) ?_
      refine c_icmp_ne (tgt := 49) dX8_like_37 (by decide) (fun c_37 => ?_) (fun c_37 => ?_)
      · have ok := ok.2 c_37
        have hx := xif_n c_37 hx
        refine c_aload_nQ dX8_like_49 rfl rfl ?_
        refine c_getS (C := RX8) (T := TX8) (N := 14) (ci := 6) (k := 4) ⟨rfl, inT8, by decide, fX8_36⟩ (by decide) (by decide) (by decide) dX8_like_50 (hS.k t_x0) (hS.r (c := 6) t_x0 rfl (by omega)) ?_
        refine c_aload_nQ dX8_like_53 rfl rfl ?_
        refine c_iload_n dX8_like_54 rfl rfl ?_
        refine c_aload_nQ dX8_like_55 rfl rfl ?_
        refine c_V0iE (ci := 4) (rr := (RX5, TX5, 7)) (y' := mX5_kind) dX8_like_56 lX8_66 kX5_kind ⟨by decide, by decide⟩ rfl rfl (by decide) (tK.cis t_x1 nn_3) (by simp only [List.map_cons, List.map_nil, List.sum_cons, List.sum_nil, zcat_rf, zcat_i, zcat_l, zcat_r] <;> decide) (kc_X5_kind hG hS (t_x1 _ (za_of nn_3)) ok.1) ?_
        have ok := ok.2
        refine c_V2iE (ci := 6) (rr := (RX8, TX8, 14)) (y' := mX8_ballots) dX8_like_59 lX8_69 kX8_ballots ⟨by decide, by decide⟩ rfl rfl (by decide) (hS.k t_x0) (by simp only [List.map_cons, List.map_nil, List.sum_cons, List.sum_nil, zcat_rf, zcat_i, zcat_l, zcat_r] <;> decide) (kc_X8_ballots hG hS t_x0 ok.1) ?_
        have ok := ok.2
        refine c_aload_nQ dX8_like_62 rfl rfl ?_
        refine c_V0iE (ci := 4) (rr := (RX5, TX5, 7)) (y' := mX5_signer) dX8_like_63 lX8_62 kX5_signer ⟨by decide, by decide⟩ rfl rfl (by decide) (tK.cis t_x1 nn_3) (by simp only [List.map_cons, List.map_nil, List.sum_cons, List.sum_nil, zcat_rf, zcat_i, zcat_l, zcat_r] <;> decide) (kc_X5_signer hG hS (t_x1 _ (za_of nn_3)) ok.1) ?_
        have ok := ok.2
        refine c_iadd dX8_like_66 ?_
        exact cX.cutz (kb_X8_like_67 hG hR hS (hS.rk (c := 6) (k := 4) t_x0 rfl (by omega)) ok hx) trivial
      · have ok := ok.1 c_37
        have hx := xif_p c_37 hx
        refine c_aload_nQ dX8_like_40 rfl rfl ?_
        refine c_getS (C := RX8) (T := TX8) (N := 14) (ci := 6) (k := 2) ⟨rfl, inT8, by decide, fX8_11⟩ (by decide) (by decide) (by decide) dX8_like_41 (hS.k t_x0) (hS.r (c := 6) t_x0 rfl (by omega)) ?_
        refine c_iload_n dX8_like_44 rfl rfl ?_
        have p_45 := hS.row24 (hS.rk (c := 6) (k := 2) t_x0 rfl (by omega)) (k_X8_page N g H T S x0 (k_X5_two N g H T S (za x1) (nI 2)) (k_X5_at N g H T S (za x1) (nI 4))).toNatClampNeg
        refine c_aald (t := 4) (ty := (.object "QuorumLedger$Message")) rfl rfl (by decide) dX8_like_45 ⟨(tK.cis (hS.rk (c := 6) (k := 2) t_x0 rfl (by omega)) (Option.some_ne_none _)), (vk_cast (hS.rl (c := 6) (k := 2) t_x0 rfl (by decide) (by omega)) ok.1)⟩ ?_
        have ok := ok.2
        refine c_goto (tgt := 68) dX8_like_46 (by decide) ?_
        exact cX.cutz (kb_X8_like_68 hG hR hS p_45 ok hx) trivial
    · have ok := ok.2 c_27
      have hx := xif_n c_27 hx
      exact cX.cutz (kb_X8_like_30 hG hR hS  ok hx) trivial
def k_X8_like (N g H T : Nat) (S : cS) (a0 : Nat) (x1 : Option Nat) : Option Nat := KF_X8_like_0 N g H T a0 x1 S
def p_X8_like (N g H T : Nat) (S : cS) (a0 : Nat) (x1 : Option Nat) : Prop := KO_X8_like_0 N g H T a0 x1 S
set_option maxRecDepth 100000 in
set_option maxHeartbeats 4000000 in
theorem kc_X8_like {G : zG} {o : cO} {u g H T N : Nat} {S : cS} (hG : zOK G) {a0 : Nat} {x1 : Option Nat} (hS : St u g H T S) (t_x0 : isO g H 6 a0) (t_x1 : tK S 5 x1) (ok : p_X8_like N g H T S a0 x1) : cCq G o dX8_like mX8_like [.ref a0, va_rf x1] S (fun v S' => (v = k_X8_like N g H T S a0 x1 ∧ S' = S) ∧ tK S 5 v) := by
  refine cC.ofX rfl (by cases x1 <;> exact Nat.le_of_ble_eq_true rfl) ?_
  rw [show zargs mX8_like.2.2.1 [.ref a0, va_rf x1] = [some (va_rf (some a0)), some (va_rf x1), none] from by cases x1 <;> rfl]
  exact cX.cutz (kb_X8_like_0 (X := fun F => F = k_X8_like N g H T S a0 x1) hG (fun v h3 h => ⟨v, rfl, ⟨h, rfl⟩, h3⟩) hS t_x0 t_x1 ok rfl) ⟨rfl, rfl, trivial⟩
/-! X8_hold -/
def KF_X8_hold_134 (N g H T : Nat) (s0 : Option Nat) (s1 : Int32) (s2 : Int32) (S : cS) : cS := (csA S (za s0) s1.toNatClampNeg s2)
def KO_X8_hold_134 (N g H T : Nat) (s0 : Option Nat) (s1 : Int32) (s2 : Int32) (S : cS) : Prop := (¬ s0 = none ∧ vp_in s1 (cL S (za s0))) ∧ True
set_option maxRecDepth 100000 in
set_option maxHeartbeats 4000000 in
theorem kb_X8_hold_134 {G : zG} {o : cO} {u g H T N : Nat} {S : cS} {S0 : cS} {Q : Option Value → cS → Prop} {X : cS → Prop} (hG : zOK G) (hR : ∀ S', St u g H T S' → Mono S0 S' → X S' → Q none S') {s0 : Option Nat} {s1 : Int32} {s2 : Int32} (hS : St u g H T S) (hM : Mono S0 S) (t_s0 : tK S 21 s0) (ok : KO_X8_hold_134 N g H T s0 s1 s2 S) (hx : X (KF_X8_hold_134 N g H T s0 s1 s2 S)) : cX G o dX8_hold mX8_hold 134 [none, none, none, none, none, none] [.int s2, .int s1, va_rf s0] S Q := by
  unfold KO_X8_hold_134 at ok
  unfold KF_X8_hold_134 at hx
  have tq_134 : tK S 21 (some (za s0)) := tK_some (tK.cis t_s0 ok.1.1).2
  refine c_iast hG dX8_hold_134 ⟨(tK.cis t_s0 ok.1.1), ok.1.2⟩ ?_
  have hS := hS.Aw (k := 21) (za s0) s1.toNatClampNeg s2 tq_134 (by decide)
  have hM := hM.A (za s0) s1.toNatClampNeg s2
  have ok := ok.2
  exact c_return rfl dX8_hold_135 (hR _ hS hM hx)
def KF_X8_hold_102 (N g H T : Nat) (x0 : Nat) (x1 : Option Nat) (S : cS) : cS := (KF_X8_hold_134 N g H T (some (x0 + 3)) ((k_X5_two N g H T S (za x1) (nI 2)) &&& (nI 1)) (if (cA S (x0 + 3) ((k_X5_two N g H T S (za x1) (nI 2)) &&& (nI 1)).toNatClampNeg) < ((k_X5_at N g H T S (za x1) (nI 4)) + (nI 1)) then ((k_X5_at N g H T S (za x1) (nI 4)) + (nI 1)) else (cA S (x0 + 3) ((k_X5_two N g H T S (za x1) (nI 2)) &&& (nI 1)).toNatClampNeg)) S)
def KO_X8_hold_102 (N g H T : Nat) (x0 : Nat) (x1 : Option Nat) (S : cS) : Prop := (¬ x1 = none ∧ p_X5_two N g H T S (za x1) (nI 2)) ∧ (vp_in ((k_X5_two N g H T S (za x1) (nI 2)) &&& (nI 1)) 2) ∧ (p_X5_at N g H T S (za x1) (nI 4)) ∧ KO_X8_hold_134 N g H T (some (x0 + 3)) ((k_X5_two N g H T S (za x1) (nI 2)) &&& (nI 1)) (if (cA S (x0 + 3) ((k_X5_two N g H T S (za x1) (nI 2)) &&& (nI 1)).toNatClampNeg) < ((k_X5_at N g H T S (za x1) (nI 4)) + (nI 1)) then ((k_X5_at N g H T S (za x1) (nI 4)) + (nI 1)) else (cA S (x0 + 3) ((k_X5_two N g H T S (za x1) (nI 2)) &&& (nI 1)).toNatClampNeg)) S
set_option maxRecDepth 100000 in
set_option maxHeartbeats 4000000 in
theorem kb_X8_hold_102 {G : zG} {o : cO} {u g H T N : Nat} {S : cS} {S0 : cS} {Q : Option Value → cS → Prop} {X : cS → Prop} (hG : zOK G) (hR : ∀ S', St u g H T S' → Mono S0 S' → X S' → Q none S') {x0 : Nat} {x1 : Option Nat} (hS : St u g H T S) (hM : Mono S0 S) (t_x0 : isO g H 6 x0) (t_x1 : tK S 5 x1) (ok : KO_X8_hold_102 N g H T x0 x1 S) (hx : X (KF_X8_hold_102 N g H T x0 x1 S)) : cX G o dX8_hold mX8_hold 102 [some (va_rf (some x0)), some (va_rf x1), none, none, none, none] [] S Q := by
  unfold KO_X8_hold_102 at ok
  unfold KF_X8_hold_102 at hx
  refine c_aload_nQ dX8_hold_102 rfl rfl ?_
  refine c_iconst (v := nI 2) dX8_hold_103 (by decide) ?_
  have nn_104 := ok.1.1
  refine c_V1iE (ci := 4) (rr := (RX5, TX5, 7)) (y' := mX5_two) dX8_hold_104 lX8_55 kX5_two ⟨by decide, by decide⟩ rfl rfl (by decide) (tK.cis t_x1 nn_104) (Nat.le_of_ble_eq_true rfl) (kc_X5_two hG hS (t_x1 _ (za_of nn_104)) ok.1.2) ?_
  have ok := ok.2
  refine c_iconst (v := nI 1) dX8_hold_107 (by decide) ?_
  refine c_iand dX8_hold_108 ?_
  refine c_istore_5 dX8_hold_109 (by decide) rfl ?_
  refine c_aload_nQ dX8_hold_111 rfl rfl ?_
  refine c_getS (C := RX8) (T := TX8) (N := 14) (ci := 6) (k := 5) ⟨rfl, inT8, by decide, fX8_21⟩ (by decide) (by decide) (by decide) dX8_hold_112 (hS.k t_x0) (hS.r (c := 6) t_x0 rfl (by omega)) ?_
  refine c_iload dX8_hold_115 rfl ?_
  refine c_aload_nQ dX8_hold_117 rfl rfl ?_
  refine c_getS (C := RX8) (T := TX8) (N := 14) (ci := 6) (k := 5) ⟨rfl, inT8, by decide, fX8_21⟩ (by decide) (by decide) (by decide) dX8_hold_118 (hS.k t_x0) (hS.r (c := 6) t_x0 rfl (by omega)) ?_
  refine c_iload dX8_hold_121 rfl ?_
  refine c_iald dX8_hold_123 ⟨(tK.cis (hS.rk (c := 6) (k := 5) t_x0 rfl (by omega)) (Option.some_ne_none _)), (vk_cast (hS.rl (c := 6) (k := 5) t_x0 rfl (by decide) (by omega)) ok.1)⟩ ?_
  have ok := ok.2
  refine c_aload_nQ dX8_hold_124 rfl rfl ?_
  refine c_iconst (v := nI 4) dX8_hold_125 (by decide) ?_
  refine c_V1iE (ci := 4) (rr := (RX5, TX5, 7)) (y' := mX5_at) dX8_hold_126 lX8_59 kX5_at ⟨by decide, by decide⟩ rfl rfl (by decide) (tK.cis t_x1 nn_104) (by simp only [List.map_cons, List.map_nil, List.sum_cons, List.sum_nil, zcat_rf, zcat_i, zcat_l, zcat_r] <;> decide) (kc_X5_at hG hS (t_x1 _ (za_of nn_104)) ok.1) ?_
  have ok := ok.2
  refine c_iconst (v := nI 1) dX8_hold_129 (by decide) ?_
  refine c_iadd dX8_hold_130 ?_
  refine c_mmax dX8_hold_131 lX8_75.1 (by decide) (by simp only [List.map_cons, List.map_nil, List.sum_cons, List.sum_nil, zcat_rf, zcat_i, zcat_l, zcat_r] <;> decide) ?_
  exact cX.cutz (kb_X8_hold_134 hG hR hS hM (hS.rk (c := 6) (k := 5) t_x0 rfl (by omega)) ok hx) trivial
def KF_X8_hold_77 (N g H T : Nat) (x0 : Nat) (x1 : Option Nat) (x3 : Option Nat) (s0 : Int32) (S : cS) : cS := (if (cP S (za x3) s0.toNatClampNeg) = none then (KF_X8_hold_102 N g H T x0 x1 (csI (csP S (za x3) s0.toNatClampNeg x1) 3 (za x1) ((cI (csP S (za x3) s0.toNatClampNeg x1) 3 (za x1)) + (nI 1)))) else S)
def KO_X8_hold_77 (N g H T : Nat) (x0 : Nat) (x1 : Option Nat) (x3 : Option Nat) (s0 : Int32) (S : cS) : Prop := (¬ x3 = none ∧ vp_in s0 (cL S (za x3))) ∧ (((cP S (za x3) s0.toNatClampNeg) = none → (¬ x3 = none ∧ vp_in s0 (cL S (za x3))) ∧ (¬ x1 = none) ∧ KO_X8_hold_102 N g H T x0 x1 (csI (csP S (za x3) s0.toNatClampNeg x1) 3 (za x1) ((cI (csP S (za x3) s0.toNatClampNeg x1) 3 (za x1)) + (nI 1)))) ∧ (¬ (cP S (za x3) s0.toNatClampNeg) = none → True))
set_option maxRecDepth 100000 in
set_option maxHeartbeats 4000000 in
theorem kb_X8_hold_77 {G : zG} {o : cO} {u g H T N : Nat} {S : cS} {S0 : cS} {Q : Option Value → cS → Prop} {X : cS → Prop} (hG : zOK G) (hR : ∀ S', St u g H T S' → Mono S0 S' → X S' → Q none S') {x0 : Nat} {x1 : Option Nat} {x3 : Option Nat} {s0 : Int32} (hS : St u g H T S) (hM : Mono S0 S) (t_x0 : isO g H 6 x0) (t_x1 : tK S 5 x1) (t_x3 : tK S 24 x3) (ok : KO_X8_hold_77 N g H T x0 x1 x3 s0 S) (hx : X (KF_X8_hold_77 N g H T x0 x1 x3 s0 S)) : cX G o dX8_hold mX8_hold 77 [some (va_rf (some x0)), some (va_rf x1), none, some (va_rf x3), none, none] [.int s0] S Q := by
  unfold KO_X8_hold_77 at ok
  unfold KF_X8_hold_77 at hx
  refine c_istore_4 dX8_hold_77 (by decide) (by simp [zok, zg, zcat_rf]) ?_
  refine c_aload_nQ dX8_hold_79 rfl rfl ?_
  refine c_iload dX8_hold_80 rfl ?_
  have p_82 := hS.row24x t_x3 ok.1.1 s0.toNatClampNeg
  refine c_aald (t := 4) (ty := (.object "QuorumLedger$Message")) rfl rfl (by decide) dX8_hold_82 ⟨(tK.cis t_x3 ok.1.1), ok.1.2⟩ ?_
  have ok := ok.2
  refine c_ifnullI (tgt := 87) dX8_hold_83 (by decide) (fun c_83 => ?_) (fun c_83 => ?_)
  · have ok := ok.1 c_83
    have hx := xif_p c_83 hx
    refine c_aload_nQ dX8_hold_87 rfl rfl ?_
    refine c_iload dX8_hold_88 rfl ?_
    refine c_aload_nQ dX8_hold_90 rfl rfl ?_
    have hS2 := hS.P24 (i := s0.toNatClampNeg) (t_x3 _ (za_of ok.1.1)) t_x1
    refine c_aast (t := 4) (ci := 4) (rr := (RX5, TX5, 7)) rfl rfl (by decide) (by decide) dX8_hold_91 ⟨(tK.cis t_x3 ok.1.1), ok.1.2, tKor t_x1⟩ ?_
    have hS := hS2
    have hM := hM.P (za x3) s0.toNatClampNeg x1
    have ok := ok.2
    refine c_aload_nQ dX8_hold_92 rfl rfl ?_
    refine c_dup dX8_hold_93 (zcat_rf _) ?_
    have nn_94 := ok.1
    refine c_getI (C := RX5) (T := TX5) (N := 7) (ci := 4) (k := 3) ⟨rfl, inT5, by decide, fX8_72⟩ (by decide) (by decide) (by decide) dX8_hold_94 (tK.cis (tK_P t_x1) ok.1) ?_
    have ok := ok.2
    refine c_iconst (v := nI 1) dX8_hold_97 (by decide) ?_
    refine c_iadd dX8_hold_98 ?_
    refine c_putI (C := RX5) (T := TX5) (N := 7) (ci := 4) (k := 3) ⟨rfl, inT5, by decide, fX8_72⟩ ftT5 rfl (by decide) (by decide) (by decide) rfl rfl dX8_hold_99 (tK.cis (tK_P t_x1) nn_94) ?_
    have hS := hS.I 3 (za x1) ((cI (csP S (za x3) s0.toNatClampNeg x1) 3 (za x1)) + (nI 1))
    have hM := hM.I 3 (za x1) ((cI (csP S (za x3) s0.toNatClampNeg x1) 3 (za x1)) + (nI 1))
    exact cX.cutz (kb_X8_hold_102 hG hR hS hM t_x0 (tK_I (tK_P t_x1)) ok hx) ⟨rfl, rfl, trivial⟩
  · have ok := ok.2 c_83
    have hx := xif_n c_83 hx
    exact c_return rfl dX8_hold_86 (hR _ hS hM hx)
def KF_X8_hold_50 (N g H T : Nat) (x0 : Nat) (x1 : Option Nat) (x2 : Int32) (s0 : Option Nat) (S : cS) : cS := (if (k_X5_kind N g H T S (za x1)) = (nI 1) then (KF_X8_hold_77 N g H T x0 x1 s0 x2 S) else (KF_X8_hold_77 N g H T x0 x1 s0 ((k_X8_ballots N g H T S x0 x2 (k_X5_kind N g H T S (za x1))) + (k_X5_signer N g H T S (za x1))) S))
def KO_X8_hold_50 (N g H T : Nat) (x0 : Nat) (x1 : Option Nat) (x2 : Int32) (s0 : Option Nat) (S : cS) : Prop := (¬ x1 = none ∧ p_X5_kind N g H T S (za x1)) ∧ (((k_X5_kind N g H T S (za x1)) = (nI 1) → KO_X8_hold_77 N g H T x0 x1 s0 x2 S) ∧ (¬ (k_X5_kind N g H T S (za x1)) = (nI 1) → (p_X5_kind N g H T S (za x1)) ∧ (p_X8_ballots N g H T S x0 x2 (k_X5_kind N g H T S (za x1))) ∧ (p_X5_signer N g H T S (za x1)) ∧ KO_X8_hold_77 N g H T x0 x1 s0 ((k_X8_ballots N g H T S x0 x2 (k_X5_kind N g H T S (za x1))) + (k_X5_signer N g H T S (za x1))) S))
set_option maxRecDepth 100000 in
set_option maxHeartbeats 4000000 in
theorem kb_X8_hold_50 {G : zG} {o : cO} {u g H T N : Nat} {S : cS} {S0 : cS} {Q : Option Value → cS → Prop} {X : cS → Prop} (hG : zOK G) (hR : ∀ S', St u g H T S' → Mono S0 S' → X S' → Q none S') {x0 : Nat} {x1 : Option Nat} {x2 : Int32} {s0 : Option Nat} (hS : St u g H T S) (hM : Mono S0 S) (t_x0 : isO g H 6 x0) (t_x1 : tK S 5 x1) (t_s0 : tK S 24 s0) (ok : KO_X8_hold_50 N g H T x0 x1 x2 s0 S) (hx : X (KF_X8_hold_50 N g H T x0 x1 x2 s0 S)) : cX G o dX8_hold mX8_hold 50 [some (va_rf (some x0)), some (va_rf x1), some (.int x2), none, none, none] [va_rf s0] S Q := by
  unfold KO_X8_hold_50 at ok
  unfold KF_X8_hold_50 at hx
  refine c_astore_3Q dX8_hold_50 (by decide) rfl ?_
  refine c_aload_nQ dX8_hold_51 rfl rfl ?_
  have nn_52 := ok.1.1
  refine c_V0iE (ci := 4) (rr := (RX5, TX5, 7)) (y' := mX5_kind) dX8_hold_52 lX8_66 kX5_kind ⟨by decide, by decide⟩ rfl rfl (by decide) (tK.cis t_x1 nn_52) (Nat.le_of_ble_eq_true rfl) (kc_X5_kind hG hS (t_x1 _ (za_of nn_52)) ok.1.2) ?_
  have ok := ok.2
  refine c_iconst (v := nI 1) dX8_hold_55 (by decide) ?_
  refine c_icmp_ne (tgt := 63) dX8_hold_56 (by decide) (fun c_56 => ?_) (fun c_56 => ?_)
  · have ok := ok.2 c_56
    have hx := xif_n c_56 hx
    refine c_aload_nQ dX8_hold_63 rfl rfl ?_
    refine c_iload_n dX8_hold_64 rfl rfl ?_
    refine c_aload_nQ dX8_hold_65 rfl rfl ?_
    refine c_V0iE (ci := 4) (rr := (RX5, TX5, 7)) (y' := mX5_kind) dX8_hold_66 lX8_66 kX5_kind ⟨by decide, by decide⟩ rfl rfl (by decide) (tK.cis t_x1 nn_52) (by simp only [List.map_cons, List.map_nil, List.sum_cons, List.sum_nil, zcat_rf, zcat_i, zcat_l, zcat_r] <;> decide) (kc_X5_kind hG hS (t_x1 _ (za_of nn_52)) ok.1) ?_
    have ok := ok.2
    refine c_V2iE (ci := 6) (rr := (RX8, TX8, 14)) (y' := mX8_ballots) dX8_hold_69 lX8_69 kX8_ballots ⟨by decide, by decide⟩ rfl rfl (by decide) (hS.k t_x0) (Nat.le_of_ble_eq_true rfl) (kc_X8_ballots hG hS t_x0 ok.1) ?_
    have ok := ok.2
    refine c_aload_nQ dX8_hold_72 rfl rfl ?_
    refine c_V0iE (ci := 4) (rr := (RX5, TX5, 7)) (y' := mX5_signer) dX8_hold_73 lX8_62 kX5_signer ⟨by decide, by decide⟩ rfl rfl (by decide) (tK.cis t_x1 nn_52) (Nat.le_of_ble_eq_true rfl) (kc_X5_signer hG hS (t_x1 _ (za_of nn_52)) ok.1) ?_
    have ok := ok.2
    refine c_iadd dX8_hold_76 ?_
    exact cX.cutz (kb_X8_hold_77 hG hR hS hM t_x0 t_x1 t_s0 ok hx) ⟨rfl, rfl, rfl, trivial⟩
  · have ok := ok.1 c_56
    have hx := xif_p c_56 hx
    refine c_iload_n dX8_hold_59 rfl rfl ?_
    refine c_goto (tgt := 77) dX8_hold_60 (by decide) ?_
    exact cX.cutz (kb_X8_hold_77 hG hR hS hM t_x0 t_x1 t_s0 ok hx) ⟨rfl, rfl, rfl, trivial⟩
def KF_X8_hold_30 (N g H T : Nat)  (S : cS) : cS := S
def KO_X8_hold_30 (N g H T : Nat)  (S : cS) : Prop := True
set_option maxRecDepth 100000 in
set_option maxHeartbeats 4000000 in
theorem kb_X8_hold_30 {G : zG} {o : cO} {u g H T N : Nat} {S : cS} {S0 : cS} {Q : Option Value → cS → Prop} {X : cS → Prop} (hG : zOK G) (hR : ∀ S', St u g H T S' → Mono S0 S' → X S' → Q none S') (hS : St u g H T S) (hM : Mono S0 S) (ok : KO_X8_hold_30 N g H T S) (hx : X (KF_X8_hold_30 N g H T S)) : cX G o dX8_hold mX8_hold 30 [none, none, none, none, none, none] [] S Q := by
  unfold KO_X8_hold_30 at ok
  unfold KF_X8_hold_30 at hx
  exact c_return rfl dX8_hold_30 (hR _ hS hM hx)
def KF_X8_hold_0 (N g H T : Nat) (x0 : Nat) (x1 : Option Nat) (S : cS) : cS := (if (k_X8_page N g H T S x0 (k_X5_two N g H T S (za x1) (nI 2)) (k_X5_at N g H T S (za x1) (nI 4))) < 0 then (KF_X8_hold_30 N g H T S) else (if (k_X5_signer N g H T S (za x1)) < (cI S 1 x0) then (if (k_X5_kind N g H T S (za x1)) = (nI 1) then (KF_X8_hold_50 N g H T x0 x1 (k_X8_page N g H T S x0 (k_X5_two N g H T S (za x1) (nI 2)) (k_X5_at N g H T S (za x1) (nI 4))) (some (x0 + 1)) S) else (KF_X8_hold_50 N g H T x0 x1 (k_X8_page N g H T S x0 (k_X5_two N g H T S (za x1) (nI 2)) (k_X5_at N g H T S (za x1) (nI 4))) (some (x0 + 5)) S)) else (KF_X8_hold_30 N g H T S)))
def KO_X8_hold_0 (N g H T : Nat) (x0 : Nat) (x1 : Option Nat) (S : cS) : Prop := (¬ x1 = none ∧ p_X5_two N g H T S (za x1) (nI 2)) ∧ (p_X5_at N g H T S (za x1) (nI 4)) ∧ (p_X8_page N g H T S x0 (k_X5_two N g H T S (za x1) (nI 2)) (k_X5_at N g H T S (za x1) (nI 4))) ∧ (((k_X8_page N g H T S x0 (k_X5_two N g H T S (za x1) (nI 2)) (k_X5_at N g H T S (za x1) (nI 4))) < 0 → KO_X8_hold_30 N g H T S) ∧ (¬ (k_X8_page N g H T S x0 (k_X5_two N g H T S (za x1) (nI 2)) (k_X5_at N g H T S (za x1) (nI 4))) < 0 → (p_X5_signer N g H T S (za x1)) ∧ (((k_X5_signer N g H T S (za x1)) < (cI S 1 x0) → (p_X5_kind N g H T S (za x1)) ∧ (((k_X5_kind N g H T S (za x1)) = (nI 1) → KO_X8_hold_50 N g H T x0 x1 (k_X8_page N g H T S x0 (k_X5_two N g H T S (za x1) (nI 2)) (k_X5_at N g H T S (za x1) (nI 4))) (some (x0 + 1)) S) ∧ (¬ (k_X5_kind N g H T S (za x1)) = (nI 1) → KO_X8_hold_50 N g H T x0 x1 (k_X8_page N g H T S x0 (k_X5_two N g H T S (za x1) (nI 2)) (k_X5_at N g H T S (za x1) (nI 4))) (some (x0 + 5)) S))) ∧ (¬ (k_X5_signer N g H T S (za x1)) < (cI S 1 x0) → KO_X8_hold_30 N g H T S))))
set_option maxRecDepth 100000 in
set_option maxHeartbeats 4000000 in
theorem kb_X8_hold_0 {G : zG} {o : cO} {u g H T N : Nat} {S : cS} {S0 : cS} {Q : Option Value → cS → Prop} {X : cS → Prop} (hG : zOK G) (hR : ∀ S', St u g H T S' → Mono S0 S' → X S' → Q none S') {x0 : Nat} {x1 : Option Nat} (hS : St u g H T S) (hM : Mono S0 S) (t_x0 : isO g H 6 x0) (t_x1 : tK S 5 x1) (ok : KO_X8_hold_0 N g H T x0 x1 S) (hx : X (KF_X8_hold_0 N g H T x0 x1 S)) : cX G o dX8_hold mX8_hold 0 [some (va_rf (some x0)), some (va_rf x1), none, none, none, none] [] S Q := by
  unfold KO_X8_hold_0 at ok
  unfold KF_X8_hold_0 at hx
  refine c_aload_nQ dX8_hold_0 rfl rfl ?_
  refine c_aload_nQ dX8_hold_1 rfl rfl ?_
  refine c_iconst (v := nI 2) dX8_hold_2 (by decide) ?_
  have nn_3 := ok.1.1
  refine c_V1iE (ci := 4) (rr := (RX5, TX5, 7)) (y' := mX5_two) dX8_hold_3 lX8_55 kX5_two ⟨by decide, by decide⟩ rfl rfl (by decide) (tK.cis t_x1 nn_3) (by simp only [List.map_cons, List.map_nil, List.sum_cons, List.sum_nil, zcat_rf, zcat_i, zcat_l, zcat_r] <;> decide) (kc_X5_two hG hS (t_x1 _ (za_of nn_3)) ok.1.2) ?_
  have ok := ok.2
  refine c_aload_nQ dX8_hold_6 rfl rfl ?_
  refine c_iconst (v := nI 4) dX8_hold_7 (by decide) ?_
  refine c_V1iE (ci := 4) (rr := (RX5, TX5, 7)) (y' := mX5_at) dX8_hold_8 lX8_59 kX5_at ⟨by decide, by decide⟩ rfl rfl (by decide) (tK.cis t_x1 nn_3) (by simp only [List.map_cons, List.map_nil, List.sum_cons, List.sum_nil, zcat_rf, zcat_i, zcat_l, zcat_r] <;> decide) (kc_X5_at hG hS (t_x1 _ (za_of nn_3)) ok.1) ?_
  have ok := ok.2
  refine c_V2iE (ci := 6) (rr := (RX8, TX8, 14)) (y' := mX8_page) dX8_hold_11 lX8_51 kX8_page ⟨by decide, by decide⟩ rfl rfl (by decide) (hS.k t_x0) (Nat.le_of_ble_eq_true rfl) (kc_X8_page hG hS t_x0 ok.1) ?_
  have ok := ok.2
  refine c_istore_2 dX8_hold_14 (by decide) (by simp [zok, zg, zcat_rf]) ?_
  refine c_iload_n dX8_hold_15 rfl rfl ?_
  refine c_if_lt (tgt := 30) dX8_hold_16 (by decide) (fun c_16 => ?_) (fun c_16 => ?_)
  · have ok := ok.1 c_16
    have hx := xif_p c_16 hx
    exact cX.cutz (kb_X8_hold_30 hG hR hS hM  ok hx) trivial
  · have ok := ok.2 c_16
    have hx := xif_n c_16 hx
    refine c_aload_nQ dX8_hold_19 rfl rfl ?_
    refine c_V0iE (ci := 4) (rr := (RX5, TX5, 7)) (y' := mX5_signer) dX8_hold_20 lX8_62 kX5_signer ⟨by decide, by decide⟩ rfl rfl (by decide) (tK.cis t_x1 nn_3) (Nat.le_of_ble_eq_true rfl) (kc_X5_signer hG hS (t_x1 _ (za_of nn_3)) ok.1) ?_
    have ok := ok.2
    refine c_aload_nQ dX8_hold_23 rfl rfl ?_
    refine c_getI (C := RX8) (T := TX8) (N := 14) (ci := 6) (k := 1) ⟨rfl, inT8, by decide, fX8_32⟩ (by decide) (by decide) (by decide) dX8_hold_24 (hS.k t_x0) ?_
    refine c_icmp_lt (tgt := 31) dX8_hold_27 (by decide) (fun c_27 => ?_) (fun c_27 => ?_)
    · have ok := ok.1 c_27
      have hx := xif_p c_27 hx
      refine c_aload_nQ dX8_hold_31 rfl rfl ?_
      refine c_V0iE (ci := 4) (rr := (RX5, TX5, 7)) (y' := mX5_kind) dX8_hold_32 lX8_66 kX5_kind ⟨by decide, by decide⟩ rfl rfl (by decide) (tK.cis t_x1 nn_3) (Nat.le_of_ble_eq_true rfl) (kc_X5_kind hG hS (t_x1 _ (za_of nn_3)) ok.1) ?_
      have ok := ok.2
      refine c_iconst (v := nI 1) dX8_hold_35 (by decide) ?_
      refine c_icmp_ne (tgt := 46) dX8_hold_36 (by decide) (fun c_36 => ?_) (fun c_36 => ?_)
      · have ok := ok.2 c_36
        have hx := xif_n c_36 hx
        refine c_aload_nQ dX8_hold_46 rfl rfl ?_
        refine c_getS (C := RX8) (T := TX8) (N := 14) (ci := 6) (k := 4) ⟨rfl, inT8, by decide, fX8_36⟩ (by decide) (by decide) (by decide) dX8_hold_47 (hS.k t_x0) (hS.r (c := 6) t_x0 rfl (by omega)) ?_
        exact cX.cutz (kb_X8_hold_50 hG hR hS hM t_x0 t_x1 (hS.rk (c := 6) (k := 4) t_x0 rfl (by omega)) ok hx) ⟨rfl, rfl, rfl, trivial⟩
      · have ok := ok.1 c_36
        have hx := xif_p c_36 hx
        refine c_aload_nQ dX8_hold_39 rfl rfl ?_
        refine c_getS (C := RX8) (T := TX8) (N := 14) (ci := 6) (k := 2) ⟨rfl, inT8, by decide, fX8_11⟩ (by decide) (by decide) (by decide) dX8_hold_40 (hS.k t_x0) (hS.r (c := 6) t_x0 rfl (by omega)) ?_
        refine c_goto (tgt := 50) dX8_hold_43 (by decide) ?_
        exact cX.cutz (kb_X8_hold_50 hG hR hS hM t_x0 t_x1 (hS.rk (c := 6) (k := 2) t_x0 rfl (by omega)) ok hx) ⟨rfl, rfl, rfl, trivial⟩
    · have ok := ok.2 c_27
      have hx := xif_n c_27 hx
      exact cX.cutz (kb_X8_hold_30 hG hR hS hM  ok hx) trivial
def k_X8_hold (N g H T : Nat) (S : cS) (a0 : Nat) (x1 : Option Nat) : cS := KF_X8_hold_0 N g H T a0 x1 S
def p_X8_hold (N g H T : Nat) (S : cS) (a0 : Nat) (x1 : Option Nat) : Prop := KO_X8_hold_0 N g H T a0 x1 S
set_option maxRecDepth 100000 in
set_option maxHeartbeats 4000000 in
theorem kc_X8_hold {G : zG} {o : cO} {u g H T N : Nat} {S : cS} (hG : zOK G) {a0 : Nat} {x1 : Option Nat} (hS : St u g H T S) (t_x0 : isO g H 6 a0) (t_x1 : tK S 5 x1) (ok : p_X8_hold N g H T S a0 x1) : cCv G o dX8_hold mX8_hold [.ref a0, va_rf x1] S (fun S' => S' = k_X8_hold N g H T S a0 x1 ∧ St u g H T S' ∧ Mono S S') := by
  refine cC.ofX rfl (by cases x1 <;> exact Nat.le_of_ble_eq_true rfl) ?_
  rw [show zargs mX8_hold.2.2.1 [.ref a0, va_rf x1] = [some (va_rf (some a0)), some (va_rf x1), none, none, none, none] from by cases x1 <;> rfl]
  exact cX.cutz (kb_X8_hold_0 (X := fun F => F = k_X8_hold N g H T S a0 x1) hG (fun S' h1 h2 h => ⟨rfl, h, h1, h2⟩) hS Mono.rfl' t_x0 t_x1 ok rfl) ⟨rfl, rfl, trivial⟩
/-! X5_isFor -/
def KF_X5_isFor_69 (N g H T : Nat) (s0 : Int32) (S : cS) : Int32 := s0
def KO_X5_isFor_69 (N g H T : Nat) (s0 : Int32) (S : cS) : Prop := narrow .boolean (.int s0) = .int s0
set_option maxRecDepth 100000 in
set_option maxHeartbeats 4000000 in
theorem kb_X5_isFor_69 {G : zG} {o : cO} {u g H T N : Nat} {S : cS} {Q : Option Value → cS → Prop} {X : Int32 → Prop} (hG : zOK G) (hR : ∀ v, X v → Q (some (.int v)) S) {s0 : Int32} (hS : St u g H T S) (ok : KO_X5_isFor_69 N g H T s0 S) (hx : X (KF_X5_isFor_69 N g H T s0 S)) : cX G o dX5_isFor mX5_isFor 69 [none, none, none, none] [.int s0] S Q := by
  unfold KO_X5_isFor_69 at ok
  unfold KF_X5_isFor_69 at hx
  exact c_ireturn rfl ok dX5_isFor_69 (hR _ hx)
def KF_X5_isFor_68 (N g H T : Nat)  (S : cS) : Int32 := (KF_X5_isFor_69 N g H T (nI 0) S)
def KO_X5_isFor_68 (N g H T : Nat)  (S : cS) : Prop := KO_X5_isFor_69 N g H T (nI 0) S
set_option maxRecDepth 100000 in
set_option maxHeartbeats 4000000 in
theorem kb_X5_isFor_68 {G : zG} {o : cO} {u g H T N : Nat} {S : cS} {Q : Option Value → cS → Prop} {X : Int32 → Prop} (hG : zOK G) (hR : ∀ v, X v → Q (some (.int v)) S) (hS : St u g H T S) (ok : KO_X5_isFor_68 N g H T S) (hx : X (KF_X5_isFor_68 N g H T S)) : cX G o dX5_isFor mX5_isFor 68 [none, none, none, none] [] S Q := by
  unfold KO_X5_isFor_68 at ok
  unfold KF_X5_isFor_68 at hx
  refine c_iconst (v := nI 0) dX5_isFor_68 (by decide) ?_
  exact cX.cutz (kb_X5_isFor_69 hG hR hS  ok hx) trivial
def KF_X5_isFor_0 (N g H T : Nat) (x0 : Option Nat) (x1 : Option Nat) (S : cS) : Int32 := (if (cI S 5 (za x0)) = 0 then (KF_X5_isFor_68 N g H T S) else (if (cI S 5 (za x1)) = 0 then (KF_X5_isFor_68 N g H T S) else (if (lg_cmp (cJ S ((za x0) + 1) (nI 0).toNatClampNeg) (cJ S ((za x1) + 1) (nI 0).toNatClampNeg)) = 0 then (if (lg_cmp (cJ S ((za x0) + 1) (nI 1).toNatClampNeg) (cJ S ((za x1) + 1) (nI 1).toNatClampNeg)) = 0 then (if (lg_cmp (cJ S ((za x0) + 1) (nI 2).toNatClampNeg) (cJ S ((za x1) + 1) (nI 2).toNatClampNeg)) = 0 then (if (lg_cmp (cJ S ((za x0) + 1) (nI 3).toNatClampNeg) (cJ S ((za x1) + 1) (nI 3).toNatClampNeg)) = 0 then (KF_X5_isFor_69 N g H T (nI 1) S) else (KF_X5_isFor_68 N g H T S)) else (KF_X5_isFor_68 N g H T S)) else (KF_X5_isFor_68 N g H T S)) else (KF_X5_isFor_68 N g H T S))))
def KO_X5_isFor_0 (N g H T : Nat) (x0 : Option Nat) (x1 : Option Nat) (S : cS) : Prop := (¬ x0 = none) ∧ (¬ x1 = none) ∧ (((cI S 5 (za x0)) = 0 → KO_X5_isFor_68 N g H T S) ∧ (¬ (cI S 5 (za x0)) = 0 → (((cI S 5 (za x1)) = 0 → KO_X5_isFor_68 N g H T S) ∧ (¬ (cI S 5 (za x1)) = 0 → (vp_in (nI 0) 4) ∧ (vp_in (nI 0) 4) ∧ (((lg_cmp (cJ S ((za x0) + 1) (nI 0).toNatClampNeg) (cJ S ((za x1) + 1) (nI 0).toNatClampNeg)) = 0 → (vp_in (nI 1) 4) ∧ (vp_in (nI 1) 4) ∧ (((lg_cmp (cJ S ((za x0) + 1) (nI 1).toNatClampNeg) (cJ S ((za x1) + 1) (nI 1).toNatClampNeg)) = 0 → (vp_in (nI 2) 4) ∧ (vp_in (nI 2) 4) ∧ (((lg_cmp (cJ S ((za x0) + 1) (nI 2).toNatClampNeg) (cJ S ((za x1) + 1) (nI 2).toNatClampNeg)) = 0 → (vp_in (nI 3) 4) ∧ (vp_in (nI 3) 4) ∧ (((lg_cmp (cJ S ((za x0) + 1) (nI 3).toNatClampNeg) (cJ S ((za x1) + 1) (nI 3).toNatClampNeg)) = 0 → KO_X5_isFor_69 N g H T (nI 1) S) ∧ (¬ (lg_cmp (cJ S ((za x0) + 1) (nI 3).toNatClampNeg) (cJ S ((za x1) + 1) (nI 3).toNatClampNeg)) = 0 → KO_X5_isFor_68 N g H T S))) ∧ (¬ (lg_cmp (cJ S ((za x0) + 1) (nI 2).toNatClampNeg) (cJ S ((za x1) + 1) (nI 2).toNatClampNeg)) = 0 → KO_X5_isFor_68 N g H T S))) ∧ (¬ (lg_cmp (cJ S ((za x0) + 1) (nI 1).toNatClampNeg) (cJ S ((za x1) + 1) (nI 1).toNatClampNeg)) = 0 → KO_X5_isFor_68 N g H T S))) ∧ (¬ (lg_cmp (cJ S ((za x0) + 1) (nI 0).toNatClampNeg) (cJ S ((za x1) + 1) (nI 0).toNatClampNeg)) = 0 → KO_X5_isFor_68 N g H T S))))))
set_option maxRecDepth 100000 in
set_option maxHeartbeats 4000000 in
theorem kb_X5_isFor_0 {G : zG} {o : cO} {u g H T N : Nat} {S : cS} {Q : Option Value → cS → Prop} {X : Int32 → Prop} (hG : zOK G) (hR : ∀ v, X v → Q (some (.int v)) S) {x0 : Option Nat} {x1 : Option Nat} (hS : St u g H T S) (t_x0 : tK S 5 x0) (t_x1 : tK S 5 x1) (ok : KO_X5_isFor_0 N g H T x0 x1 S) (hx : X (KF_X5_isFor_0 N g H T x0 x1 S)) : cX G o dX5_isFor mX5_isFor 0 [some (va_rf x0), some (va_rf x1), none, none] [] S Q := by
  unfold KO_X5_isFor_0 at ok
  unfold KF_X5_isFor_0 at hx
  refine c_aload_nQ dX5_isFor_0 rfl rfl ?_
  have nn_1 := ok.1
  have p_1 := hS.m1k t_x0 ok.1
  have q_1 := hS.m1l t_x0 ok.1
  refine c_getS (C := RX5) (T := TX5) (N := 7) (ci := 4) (k := 1) ⟨rfl, inT5, by decide, fX5_9⟩ (by decide) (by decide) (by decide) dX5_isFor_1 (tK.cis t_x0 ok.1) (hS.m1 t_x0 ok.1) ?_
  have ok := ok.2
  refine c_astore_2Q dX5_isFor_4 (by decide) (by simp [zok, zg, zcat_rf]) ?_
  refine c_aload_nQ dX5_isFor_5 rfl rfl ?_
  have nn_6 := ok.1
  have p_6 := hS.m1k t_x1 ok.1
  have q_6 := hS.m1l t_x1 ok.1
  refine c_getS (C := RX5) (T := TX5) (N := 7) (ci := 4) (k := 1) ⟨rfl, inT5, by decide, fX5_9⟩ (by decide) (by decide) (by decide) dX5_isFor_6 (tK.cis t_x1 ok.1) (hS.m1 t_x1 ok.1) ?_
  have ok := ok.2
  refine c_astore_3Q dX5_isFor_9 (by decide) (by simp [zok, zg, zcat_rf]) ?_
  refine c_aload_nQ dX5_isFor_10 rfl rfl ?_
  refine c_getI (C := RX5) (T := TX5) (N := 7) (ci := 4) (k := 5) ⟨rfl, inT5, by decide, fX5_27⟩ (by decide) (by decide) (by decide) dX5_isFor_11 (tK.cis t_x0 nn_1) ?_
  refine c_if_eq (tgt := 68) dX5_isFor_14 (by decide) (fun c_14 => ?_) (fun c_14 => ?_)
  · have ok := ok.1 c_14
    have hx := xif_p c_14 hx
    exact cX.cutz (kb_X5_isFor_68 hG hR hS  ok hx) trivial
  · have ok := ok.2 c_14
    have hx := xif_n c_14 hx
    refine c_aload_nQ dX5_isFor_17 rfl rfl ?_
    refine c_getI (C := RX5) (T := TX5) (N := 7) (ci := 4) (k := 5) ⟨rfl, inT5, by decide, fX5_27⟩ (by decide) (by decide) (by decide) dX5_isFor_18 (tK.cis t_x1 nn_6) ?_
    refine c_if_eq (tgt := 68) dX5_isFor_21 (by decide) (fun c_21 => ?_) (fun c_21 => ?_)
    · have ok := ok.1 c_21
      have hx := xif_p c_21 hx
      exact cX.cutz (kb_X5_isFor_68 hG hR hS  ok hx) trivial
    · have ok := ok.2 c_21
      have hx := xif_n c_21 hx
      refine c_aload_nQ dX5_isFor_24 rfl rfl ?_
      refine c_iconst (v := nI 0) dX5_isFor_25 (by decide) ?_
      refine c_lald dX5_isFor_26 ⟨(tK.cis p_1 (Option.some_ne_none _)), (vk_cast q_1 ok.1)⟩ ?_
      have ok := ok.2
      refine c_aload_nQ dX5_isFor_27 rfl rfl ?_
      refine c_iconst (v := nI 0) dX5_isFor_28 (by decide) ?_
      refine c_lald dX5_isFor_29 ⟨(tK.cis p_6 (Option.some_ne_none _)), (vk_cast q_6 ok.1)⟩ ?_
      have ok := ok.2
      refine c_lcmp dX5_isFor_30 ?_
      refine c_if_ne (tgt := 68) dX5_isFor_31 (by decide) (fun c_31 => ?_) (fun c_31 => ?_)
      · have ok := ok.2 c_31
        have hx := xif_n c_31 hx
        exact cX.cutz (kb_X5_isFor_68 hG hR hS  ok hx) trivial
      · have ok := ok.1 c_31
        have hx := xif_p c_31 hx
        refine c_aload_nQ dX5_isFor_34 rfl rfl ?_
        refine c_iconst (v := nI 1) dX5_isFor_35 (by decide) ?_
        refine c_lald dX5_isFor_36 ⟨(tK.cis p_1 (Option.some_ne_none _)), (vk_cast q_1 ok.1)⟩ ?_
        have ok := ok.2
        refine c_aload_nQ dX5_isFor_37 rfl rfl ?_
        refine c_iconst (v := nI 1) dX5_isFor_38 (by decide) ?_
        refine c_lald dX5_isFor_39 ⟨(tK.cis p_6 (Option.some_ne_none _)), (vk_cast q_6 ok.1)⟩ ?_
        have ok := ok.2
        refine c_lcmp dX5_isFor_40 ?_
        refine c_if_ne (tgt := 68) dX5_isFor_41 (by decide) (fun c_41 => ?_) (fun c_41 => ?_)
        · have ok := ok.2 c_41
          have hx := xif_n c_41 hx
          exact cX.cutz (kb_X5_isFor_68 hG hR hS  ok hx) trivial
        · have ok := ok.1 c_41
          have hx := xif_p c_41 hx
          refine c_aload_nQ dX5_isFor_44 rfl rfl ?_
          refine c_iconst (v := nI 2) dX5_isFor_45 (by decide) ?_
          refine c_lald dX5_isFor_46 ⟨(tK.cis p_1 (Option.some_ne_none _)), (vk_cast q_1 ok.1)⟩ ?_
          have ok := ok.2
          refine c_aload_nQ dX5_isFor_47 rfl rfl ?_
          refine c_iconst (v := nI 2) dX5_isFor_48 (by decide) ?_
          refine c_lald dX5_isFor_49 ⟨(tK.cis p_6 (Option.some_ne_none _)), (vk_cast q_6 ok.1)⟩ ?_
          have ok := ok.2
          refine c_lcmp dX5_isFor_50 ?_
          refine c_if_ne (tgt := 68) dX5_isFor_51 (by decide) (fun c_51 => ?_) (fun c_51 => ?_)
          · have ok := ok.2 c_51
            have hx := xif_n c_51 hx
            exact cX.cutz (kb_X5_isFor_68 hG hR hS  ok hx) trivial
          · have ok := ok.1 c_51
            have hx := xif_p c_51 hx
            refine c_aload_nQ dX5_isFor_54 rfl rfl ?_
            refine c_iconst (v := nI 3) dX5_isFor_55 (by decide) ?_
            refine c_lald dX5_isFor_56 ⟨(tK.cis p_1 (Option.some_ne_none _)), (vk_cast q_1 ok.1)⟩ ?_
            have ok := ok.2
            refine c_aload_nQ dX5_isFor_57 rfl rfl ?_
            refine c_iconst (v := nI 3) dX5_isFor_58 (by decide) ?_
            refine c_lald dX5_isFor_59 ⟨(tK.cis p_6 (Option.some_ne_none _)), (vk_cast q_6 ok.1)⟩ ?_
            have ok := ok.2
            refine c_lcmp dX5_isFor_60 ?_
            refine c_if_ne (tgt := 68) dX5_isFor_61 (by decide) (fun c_61 => ?_) (fun c_61 => ?_)
            · have ok := ok.2 c_61
              have hx := xif_n c_61 hx
              exact cX.cutz (kb_X5_isFor_68 hG hR hS  ok hx) trivial
            · have ok := ok.1 c_61
              have hx := xif_p c_61 hx
              refine c_iconst (v := nI 1) dX5_isFor_64 (by decide) ?_
              refine c_goto (tgt := 69) dX5_isFor_65 (by decide) ?_
              exact cX.cutz (kb_X5_isFor_69 hG hR hS  ok hx) trivial
def k_X5_isFor (N g H T : Nat) (S : cS) (a0 : Nat) (x1 : Option Nat) : Int32 := KF_X5_isFor_0 N g H T (some a0) x1 S
def p_X5_isFor (N g H T : Nat) (S : cS) (a0 : Nat) (x1 : Option Nat) : Prop := KO_X5_isFor_0 N g H T (some a0) x1 S
set_option maxRecDepth 100000 in
set_option maxHeartbeats 4000000 in
theorem kc_X5_isFor {G : zG} {o : cO} {u g H T N : Nat} {S : cS} (hG : zOK G) {a0 : Nat} {x1 : Option Nat} (hS : St u g H T S) (t_x0 : cK S a0 = 5) (t_x1 : tK S 5 x1) (ok : p_X5_isFor N g H T S a0 x1) : cCi G o dX5_isFor mX5_isFor [.ref a0, va_rf x1] S (fun v S' => (v = k_X5_isFor N g H T S a0 x1 ∧ S' = S)) := by
  refine cC.ofX rfl (by cases x1 <;> exact Nat.le_of_ble_eq_true rfl) ?_
  rw [show zargs mX5_isFor.2.2.1 [.ref a0, va_rf x1] = [some (va_rf (some a0)), some (va_rf x1), none, none] from by cases x1 <;> rfl]
  exact cX.cutz (kb_X5_isFor_0 (X := fun F => F = k_X5_isFor N g H T S a0 x1) hG (fun v h => ⟨v, rfl, h, rfl⟩) hS (tK_some t_x0) t_x1 ok rfl) ⟨rfl, rfl, trivial⟩
/-! X5_endsLike -/
def KF_X5_endsLike_27 (N g H T : Nat) (s0 : Int32) (S : cS) : Int32 := s0
def KO_X5_endsLike_27 (N g H T : Nat) (s0 : Int32) (S : cS) : Prop := narrow .boolean (.int s0) = .int s0
set_option maxRecDepth 100000 in
set_option maxHeartbeats 4000000 in
theorem kb_X5_endsLike_27 {G : zG} {o : cO} {u g H T N : Nat} {S : cS} {Q : Option Value → cS → Prop} {X : Int32 → Prop} (hG : zOK G) (hR : ∀ v, X v → Q (some (.int v)) S) {s0 : Int32} (hS : St u g H T S) (ok : KO_X5_endsLike_27 N g H T s0 S) (hx : X (KF_X5_endsLike_27 N g H T s0 S)) : cX G o dX5_endsLike mX5_endsLike 27 [none, none] [.int s0] S Q := by
  unfold KO_X5_endsLike_27 at ok
  unfold KF_X5_endsLike_27 at hx
  exact c_ireturn rfl ok dX5_endsLike_27 (hR _ hx)
def KF_X5_endsLike_0 (N g H T : Nat) (x0 : Option Nat) (x1 : Option Nat) (S : cS) : Int32 := (if (cI S 5 (za x0)) = 0 then (if (cI S 5 (za x1)) = 0 then (KF_X5_endsLike_27 N g H T (nI 1) S) else (KF_X5_endsLike_27 N g H T (nI 0) S)) else (KF_X5_endsLike_27 N g H T (k_X5_isFor N g H T S (za x0) x1) S))
def KO_X5_endsLike_0 (N g H T : Nat) (x0 : Option Nat) (x1 : Option Nat) (S : cS) : Prop := (¬ x0 = none) ∧ (((cI S 5 (za x0)) = 0 → (¬ x1 = none) ∧ (((cI S 5 (za x1)) = 0 → KO_X5_endsLike_27 N g H T (nI 1) S) ∧ (¬ (cI S 5 (za x1)) = 0 → KO_X5_endsLike_27 N g H T (nI 0) S))) ∧ (¬ (cI S 5 (za x0)) = 0 → (p_X5_isFor N g H T S (za x0) x1) ∧ KO_X5_endsLike_27 N g H T (k_X5_isFor N g H T S (za x0) x1) S))
set_option maxRecDepth 100000 in
set_option maxHeartbeats 4000000 in
theorem kb_X5_endsLike_0 {G : zG} {o : cO} {u g H T N : Nat} {S : cS} {Q : Option Value → cS → Prop} {X : Int32 → Prop} (hG : zOK G) (hR : ∀ v, X v → Q (some (.int v)) S) {x0 : Option Nat} {x1 : Option Nat} (hS : St u g H T S) (t_x0 : tK S 5 x0) (t_x1 : tK S 5 x1) (ok : KO_X5_endsLike_0 N g H T x0 x1 S) (hx : X (KF_X5_endsLike_0 N g H T x0 x1 S)) : cX G o dX5_endsLike mX5_endsLike 0 [some (va_rf x0), some (va_rf x1)] [] S Q := by
  unfold KO_X5_endsLike_0 at ok
  unfold KF_X5_endsLike_0 at hx
  refine c_aload_nQ dX5_endsLike_0 rfl rfl ?_
  have nn_1 := ok.1
  refine c_getI (C := RX5) (T := TX5) (N := 7) (ci := 4) (k := 5) ⟨rfl, inT5, by decide, fX5_27⟩ (by decide) (by decide) (by decide) dX5_endsLike_1 (tK.cis t_x0 ok.1) ?_
  have ok := ok.2
  refine c_if_eq (tgt := 15) dX5_endsLike_4 (by decide) (fun c_4 => ?_) (fun c_4 => ?_)
  · have ok := ok.1 c_4
    have hx := xif_p c_4 hx
    refine c_aload_nQ dX5_endsLike_15 rfl rfl ?_
    have nn_16 := ok.1
    refine c_getI (C := RX5) (T := TX5) (N := 7) (ci := 4) (k := 5) ⟨rfl, inT5, by decide, fX5_27⟩ (by decide) (by decide) (by decide) dX5_endsLike_16 (tK.cis t_x1 ok.1) ?_
    have ok := ok.2
    refine c_if_ne (tgt := 26) dX5_endsLike_19 (by decide) (fun c_19 => ?_) (fun c_19 => ?_)
    · have ok := ok.2 c_19
      have hx := xif_n c_19 hx
      refine c_iconst (v := nI 0) dX5_endsLike_26 (by decide) ?_
      exact cX.cutz (kb_X5_endsLike_27 hG hR hS  ok hx) trivial
    · have ok := ok.1 c_19
      have hx := xif_p c_19 hx
      refine c_iconst (v := nI 1) dX5_endsLike_22 (by decide) ?_
      refine c_goto (tgt := 27) dX5_endsLike_23 (by decide) ?_
      exact cX.cutz (kb_X5_endsLike_27 hG hR hS  ok hx) trivial
  · have ok := ok.2 c_4
    have hx := xif_n c_4 hx
    refine c_aload_nQ dX5_endsLike_7 rfl rfl ?_
    refine c_aload_nQ dX5_endsLike_8 rfl rfl ?_
    refine c_V1iE (ci := 4) (rr := (RX5, TX5, 7)) (y' := mX5_isFor) dX5_endsLike_9 lX5_35 kX5_isFor ⟨by decide, by decide⟩ rfl rfl (by decide) (tK.cis t_x0 nn_1) (Nat.le_of_ble_eq_true rfl) (kc_X5_isFor hG hS (t_x0 _ (za_of nn_1)) t_x1 ok.1) ?_
    have ok := ok.2
    refine c_goto (tgt := 27) dX5_endsLike_12 (by decide) ?_
    exact cX.cutz (kb_X5_endsLike_27 hG hR hS  ok hx) trivial
def k_X5_endsLike (N g H T : Nat) (S : cS) (a0 : Nat) (x1 : Option Nat) : Int32 := KF_X5_endsLike_0 N g H T (some a0) x1 S
def p_X5_endsLike (N g H T : Nat) (S : cS) (a0 : Nat) (x1 : Option Nat) : Prop := KO_X5_endsLike_0 N g H T (some a0) x1 S
set_option maxRecDepth 100000 in
set_option maxHeartbeats 4000000 in
theorem kc_X5_endsLike {G : zG} {o : cO} {u g H T N : Nat} {S : cS} (hG : zOK G) {a0 : Nat} {x1 : Option Nat} (hS : St u g H T S) (t_x0 : cK S a0 = 5) (t_x1 : tK S 5 x1) (ok : p_X5_endsLike N g H T S a0 x1) : cCi G o dX5_endsLike mX5_endsLike [.ref a0, va_rf x1] S (fun v S' => (v = k_X5_endsLike N g H T S a0 x1 ∧ S' = S)) := by
  refine cC.ofX rfl (by cases x1 <;> exact Nat.le_of_ble_eq_true rfl) ?_
  rw [show zargs mX5_endsLike.2.2.1 [.ref a0, va_rf x1] = [some (va_rf (some a0)), some (va_rf x1)] from by cases x1 <;> rfl]
  exact cX.cutz (kb_X5_endsLike_0 (X := fun F => F = k_X5_endsLike N g H T S a0 x1) hG (fun v h => ⟨v, rfl, h, rfl⟩) hS (tK_some t_x0) t_x1 ok rfl) ⟨rfl, rfl, trivial⟩
/-! X8_proofOf -/
def KF_X8_proofOf_22 (N g H T : Nat) (s0 : Option Nat) (S : cS) : Option Nat := s0
def KO_X8_proofOf_22 (N g H T : Nat) (s0 : Option Nat) (S : cS) : Prop := True
set_option maxRecDepth 100000 in
set_option maxHeartbeats 4000000 in
theorem kb_X8_proofOf_22 {G : zG} {o : cO} {u g H T N : Nat} {S : cS} {Q : Option Value → cS → Prop} {X : Option Nat → Prop} (hG : zOK G) (hR : ∀ v, tK S 5 v → X v → Q (some (va_rf v)) S) {s0 : Option Nat} (hS : St u g H T S) (t_s0 : tK S 5 s0) (ok : KO_X8_proofOf_22 N g H T s0 S) (hx : X (KF_X8_proofOf_22 N g H T s0 S)) : cX G o dX8_proofOf mX8_proofOf 22 [none, none] [va_rf s0] S Q := by
  unfold KO_X8_proofOf_22 at ok
  unfold KF_X8_proofOf_22 at hx
  exact c_areturn rfl (Or.inl ⟨_, rfl⟩) dX8_proofOf_22 (hR _ t_s0 hx)
def KF_X8_proofOf_21 (N g H T : Nat)  (S : cS) : Option Nat := (KF_X8_proofOf_22 N g H T (none : Option Nat) S)
def KO_X8_proofOf_21 (N g H T : Nat)  (S : cS) : Prop := KO_X8_proofOf_22 N g H T (none : Option Nat) S
set_option maxRecDepth 100000 in
set_option maxHeartbeats 4000000 in
theorem kb_X8_proofOf_21 {G : zG} {o : cO} {u g H T N : Nat} {S : cS} {Q : Option Value → cS → Prop} {X : Option Nat → Prop} (hG : zOK G) (hR : ∀ v, tK S 5 v → X v → Q (some (va_rf v)) S) (hS : St u g H T S) (ok : KO_X8_proofOf_21 N g H T S) (hx : X (KF_X8_proofOf_21 N g H T S)) : cX G o dX8_proofOf mX8_proofOf 21 [none, none] [] S Q := by
  unfold KO_X8_proofOf_21 at ok
  unfold KF_X8_proofOf_21 at hx
  refine c_null' dX8_proofOf_21 ?_
  exact cX.cutz (kb_X8_proofOf_22 hG hR hS tK_none ok hx) trivial
def KF_X8_proofOf_0 (N g H T : Nat) (x0 : Nat) (x1 : Int32) (S : cS) : Option Nat := (if x1 < 0 then (KF_X8_proofOf_21 N g H T S) else (if (cI S 1 x0) ≤ x1 then (KF_X8_proofOf_21 N g H T S) else (KF_X8_proofOf_22 N g H T (cP S (x0 + 9) x1.toNatClampNeg) S)))
def KO_X8_proofOf_0 (N g H T : Nat) (x0 : Nat) (x1 : Int32) (S : cS) : Prop := ((x1 < 0 → KO_X8_proofOf_21 N g H T S) ∧ (¬ x1 < 0 → (((cI S 1 x0) ≤ x1 → KO_X8_proofOf_21 N g H T S) ∧ (¬ (cI S 1 x0) ≤ x1 → (vp_in x1 T) ∧ KO_X8_proofOf_22 N g H T (cP S (x0 + 9) x1.toNatClampNeg) S))))
set_option maxRecDepth 100000 in
set_option maxHeartbeats 4000000 in
theorem kb_X8_proofOf_0 {G : zG} {o : cO} {u g H T N : Nat} {S : cS} {Q : Option Value → cS → Prop} {X : Option Nat → Prop} (hG : zOK G) (hR : ∀ v, tK S 5 v → X v → Q (some (va_rf v)) S) {x0 : Nat} {x1 : Int32} (hS : St u g H T S) (t_x0 : isO g H 6 x0) (ok : KO_X8_proofOf_0 N g H T x0 x1 S) (hx : X (KF_X8_proofOf_0 N g H T x0 x1 S)) : cX G o dX8_proofOf mX8_proofOf 0 [some (va_rf (some x0)), some (.int x1)] [] S Q := by
  unfold KO_X8_proofOf_0 at ok
  unfold KF_X8_proofOf_0 at hx
  refine c_iload_n dX8_proofOf_0 rfl rfl ?_
  refine c_if_lt (tgt := 21) dX8_proofOf_1 (by decide) (fun c_1 => ?_) (fun c_1 => ?_)
  · have ok := ok.1 c_1
    have hx := xif_p c_1 hx
    exact cX.cutz (kb_X8_proofOf_21 hG hR hS  ok hx) trivial
  · have ok := ok.2 c_1
    have hx := xif_n c_1 hx
    refine c_iload_n dX8_proofOf_4 rfl rfl ?_
    refine c_aload_nQ dX8_proofOf_5 rfl rfl ?_
    refine c_getI (C := RX8) (T := TX8) (N := 14) (ci := 6) (k := 1) ⟨rfl, inT8, by decide, fX8_32⟩ (by decide) (by decide) (by decide) dX8_proofOf_6 (hS.k t_x0) ?_
    refine c_icmp_ge (tgt := 21) dX8_proofOf_9 (by decide) (fun c_9 => ?_) (fun c_9 => ?_)
    · have ok := ok.1 c_9
      have hx := xif_p c_9 hx
      exact cX.cutz (kb_X8_proofOf_21 hG hR hS  ok hx) trivial
    · have ok := ok.2 c_9
      have hx := xif_n c_9 hx
      refine c_aload_nQ dX8_proofOf_12 rfl rfl ?_
      refine c_getS (C := RX8) (T := TX8) (N := 14) (ci := 6) (k := 9) ⟨rfl, inT8, by decide, fX8_48⟩ (by decide) (by decide) (by decide) dX8_proofOf_13 (hS.k t_x0) (hS.r (c := 6) t_x0 rfl (by omega)) ?_
      refine c_iload_n dX8_proofOf_16 rfl rfl ?_
      have p_17 := hS.row24 (hS.rk (c := 6) (k := 9) t_x0 rfl (by omega)) x1.toNatClampNeg
      refine c_aald (t := 4) (ty := (.object "QuorumLedger$Message")) rfl rfl (by decide) dX8_proofOf_17 ⟨(tK.cis (hS.rk (c := 6) (k := 9) t_x0 rfl (by omega)) (Option.some_ne_none _)), (vk_cast (hS.rl (c := 6) (k := 9) t_x0 rfl (by decide) (by omega)) ok.1)⟩ ?_
      have ok := ok.2
      refine c_goto (tgt := 22) dX8_proofOf_18 (by decide) ?_
      exact cX.cutz (kb_X8_proofOf_22 hG hR hS p_17 ok hx) trivial
def k_X8_proofOf (N g H T : Nat) (S : cS) (a0 : Nat) (x1 : Int32) : Option Nat := KF_X8_proofOf_0 N g H T a0 x1 S
def p_X8_proofOf (N g H T : Nat) (S : cS) (a0 : Nat) (x1 : Int32) : Prop := KO_X8_proofOf_0 N g H T a0 x1 S
set_option maxRecDepth 100000 in
set_option maxHeartbeats 4000000 in
theorem kc_X8_proofOf {G : zG} {o : cO} {u g H T N : Nat} {S : cS} (hG : zOK G) {a0 : Nat} {x1 : Int32} (hS : St u g H T S) (t_x0 : isO g H 6 a0) (ok : p_X8_proofOf N g H T S a0 x1) : cCq G o dX8_proofOf mX8_proofOf [.ref a0, .int x1] S (fun v S' => (v = k_X8_proofOf N g H T S a0 x1 ∧ S' = S) ∧ tK S 5 v) := by
  refine cC.ofX rfl (by exact Nat.le_of_ble_eq_true rfl) ?_
  show cX G o dX8_proofOf mX8_proofOf 0 [some (va_rf (some a0)), some (.int x1)] [] S _
  exact cX.cutz (kb_X8_proofOf_0 (X := fun F => F = k_X8_proofOf N g H T S a0 x1) hG (fun v h3 h => ⟨v, rfl, ⟨h, rfl⟩, h3⟩) hS t_x0 ok rfl) ⟨rfl, rfl, trivial⟩
/-! J13_compare_74951 -/
def KF_J13_compare_74951_21 (N g H T : Nat) (s0 : Int32) (S : cS) : Int32 := s0
def KO_J13_compare_74951_21 (N g H T : Nat) (s0 : Int32) (S : cS) : Prop := True
set_option maxRecDepth 100000 in
set_option maxHeartbeats 4000000 in
theorem kb_J13_compare_74951_21 {G : zG} {o : cO} {u g H T N : Nat} {S : cS} {Q : Option Value → cS → Prop} {X : Int32 → Prop} (hG : zOK G) (hR : ∀ v, X v → Q (some (.int v)) S) {s0 : Int32} (hS : St u g H T S) (ok : KO_J13_compare_74951_21 N g H T s0 S) (hx : X (KF_J13_compare_74951_21 N g H T s0 S)) : cX G o dJ13_compare_74951 mJ13_compare_74951 21 [none, none, none, none] [.int s0] S Q := by
  unfold KO_J13_compare_74951_21 at ok
  unfold KF_J13_compare_74951_21 at hx
  exact c_ireturn rfl rfl dJ13_compare_74951_21 (hR _ hx)
def KF_J13_compare_74951_0 (N g H T : Nat) (x0 : Int64) (x2 : Int64) (S : cS) : Int32 := (if 0 ≤ (lg_cmp x0 x2) then (if (lg_cmp x0 x2) = 0 then (KF_J13_compare_74951_21 N g H T (nI 0) S) else (KF_J13_compare_74951_21 N g H T (nI 1) S)) else (KF_J13_compare_74951_21 N g H T (-1) S))
def KO_J13_compare_74951_0 (N g H T : Nat) (x0 : Int64) (x2 : Int64) (S : cS) : Prop := ((0 ≤ (lg_cmp x0 x2) → (((lg_cmp x0 x2) = 0 → KO_J13_compare_74951_21 N g H T (nI 0) S) ∧ (¬ (lg_cmp x0 x2) = 0 → KO_J13_compare_74951_21 N g H T (nI 1) S))) ∧ (¬ 0 ≤ (lg_cmp x0 x2) → KO_J13_compare_74951_21 N g H T (-1) S))
set_option maxRecDepth 100000 in
set_option maxHeartbeats 4000000 in
theorem kb_J13_compare_74951_0 {G : zG} {o : cO} {u g H T N : Nat} {S : cS} {Q : Option Value → cS → Prop} {X : Int32 → Prop} (hG : zOK G) (hR : ∀ v, X v → Q (some (.int v)) S) {x0 : Int64} {x2 : Int64} (hS : St u g H T S) (ok : KO_J13_compare_74951_0 N g H T x0 x2 S) (hx : X (KF_J13_compare_74951_0 N g H T x0 x2 S)) : cX G o dJ13_compare_74951 mJ13_compare_74951 0 [some (.long x0), none, some (.long x2), none] [] S Q := by
  unfold KO_J13_compare_74951_0 at ok
  unfold KF_J13_compare_74951_0 at hx
  refine c_lload_n dJ13_compare_74951_0 rfl rfl ?_
  refine c_lload_n dJ13_compare_74951_1 rfl rfl ?_
  refine c_lcmp dJ13_compare_74951_2 ?_
  refine c_if_ge (tgt := 10) dJ13_compare_74951_3 (by decide) (fun c_3 => ?_) (fun c_3 => ?_)
  · have ok := ok.1 c_3
    have hx := xif_p c_3 hx
    refine c_lload_n dJ13_compare_74951_10 rfl rfl ?_
    refine c_lload_n dJ13_compare_74951_11 rfl rfl ?_
    refine c_lcmp dJ13_compare_74951_12 ?_
    refine c_if_ne (tgt := 20) dJ13_compare_74951_13 (by decide) (fun c_13 => ?_) (fun c_13 => ?_)
    · have ok := ok.2 c_13
      have hx := xif_n c_13 hx
      refine c_iconst (v := nI 1) dJ13_compare_74951_20 (by decide) ?_
      exact cX.cutz (kb_J13_compare_74951_21 hG hR hS  ok hx) trivial
    · have ok := ok.1 c_13
      have hx := xif_p c_13 hx
      refine c_iconst (v := nI 0) dJ13_compare_74951_16 (by decide) ?_
      refine c_goto (tgt := 21) dJ13_compare_74951_17 (by decide) ?_
      exact cX.cutz (kb_J13_compare_74951_21 hG hR hS  ok hx) trivial
  · have ok := ok.2 c_3
    have hx := xif_n c_3 hx
    refine c_iconst (v := -1) dJ13_compare_74951_6 (by decide) ?_
    refine c_goto (tgt := 21) dJ13_compare_74951_7 (by decide) ?_
    exact cX.cutz (kb_J13_compare_74951_21 hG hR hS  ok hx) trivial
def k_J13_compare_74951 (N g H T : Nat) (S : cS) (x0 : Int64) (x2 : Int64) : Int32 := KF_J13_compare_74951_0 N g H T x0 x2 S
def p_J13_compare_74951 (N g H T : Nat) (S : cS) (x0 : Int64) (x2 : Int64) : Prop := KO_J13_compare_74951_0 N g H T x0 x2 S
set_option maxRecDepth 100000 in
set_option maxHeartbeats 4000000 in
theorem kc_J13_compare_74951 {G : zG} {o : cO} {u g H T N : Nat} {S : cS} (hG : zOK G) {x0 : Int64} {x2 : Int64} (hS : St u g H T S) (ok : p_J13_compare_74951 N g H T S x0 x2) : cCi G o dJ13_compare_74951 mJ13_compare_74951 [.long x0, .long x2] S (fun v S' => (v = k_J13_compare_74951 N g H T S x0 x2 ∧ S' = S)) := by
  refine cC.ofX rfl (by exact Nat.le_of_ble_eq_true rfl) ?_
  show cX G o dJ13_compare_74951 mJ13_compare_74951 0 [some (.long x0), none, some (.long x2), none] [] S _
  exact cX.cutz (kb_J13_compare_74951_0 (X := fun F => F = k_J13_compare_74951 N g H T S x0 x2) hG (fun v h => ⟨v, rfl, h, rfl⟩) hS  ok rfl) ⟨rfl, rfl, trivial⟩
/-! J13_compareUnsigned_74951 -/
def KF_J13_compareUnsigned_74951_0 (N g H T : Nat) (x0 : Int64) (x2 : Int64) (S : cS) : Int32 := (k_J13_compare_74951 N g H T S (x0 + (zMin)) (x2 + (zMin)))
def KO_J13_compareUnsigned_74951_0 (N g H T : Nat) (x0 : Int64) (x2 : Int64) (S : cS) : Prop := (p_J13_compare_74951 N g H T S (x0 + (zMin)) (x2 + (zMin))) ∧ True
set_option maxRecDepth 100000 in
set_option maxHeartbeats 4000000 in
theorem kb_J13_compareUnsigned_74951_0 {G : zG} {o : cO} {u g H T N : Nat} {S : cS} {Q : Option Value → cS → Prop} {X : Int32 → Prop} (hG : zOK G) (hR : ∀ v, X v → Q (some (.int v)) S) {x0 : Int64} {x2 : Int64} (hS : St u g H T S) (ok : KO_J13_compareUnsigned_74951_0 N g H T x0 x2 S) (hx : X (KF_J13_compareUnsigned_74951_0 N g H T x0 x2 S)) : cX G o dJ13_compareUnsigned_74951 mJ13_compareUnsigned_74951 0 [some (.long x0), none, some (.long x2), none] [] S Q := by
  unfold KO_J13_compareUnsigned_74951_0 at ok
  unfold KF_J13_compareUnsigned_74951_0 at hx
  refine c_lload_n dJ13_compareUnsigned_74951_0 rfl rfl ?_
  refine c_ldc2 (v := zMin) dJ13_compareUnsigned_74951_1 nJ13_168 ?_
  refine c_ladd dJ13_compareUnsigned_74951_4 ?_
  refine c_lload_n dJ13_compareUnsigned_74951_5 rfl rfl ?_
  refine c_ldc2 (v := zMin) dJ13_compareUnsigned_74951_6 nJ13_168 ?_
  refine c_ladd dJ13_compareUnsigned_74951_9 ?_
  refine c_S2iE (y' := mJ13_compare_74951) dJ13_compareUnsigned_74951_10 lJ13_302 kJ13_compare_74951 ⟨by decide, by decide⟩ (Nat.le_of_ble_eq_true rfl) (kc_J13_compare_74951 hG hS ok.1) ?_
  have ok := ok.2
  exact c_ireturn rfl rfl dJ13_compareUnsigned_74951_13 (hR _ hx)
def k_J13_compareUnsigned_74951 (N g H T : Nat) (S : cS) (x0 : Int64) (x2 : Int64) : Int32 := KF_J13_compareUnsigned_74951_0 N g H T x0 x2 S
def p_J13_compareUnsigned_74951 (N g H T : Nat) (S : cS) (x0 : Int64) (x2 : Int64) : Prop := KO_J13_compareUnsigned_74951_0 N g H T x0 x2 S
set_option maxRecDepth 100000 in
set_option maxHeartbeats 4000000 in
theorem kc_J13_compareUnsigned_74951 {G : zG} {o : cO} {u g H T N : Nat} {S : cS} (hG : zOK G) {x0 : Int64} {x2 : Int64} (hS : St u g H T S) (ok : p_J13_compareUnsigned_74951 N g H T S x0 x2) : cCi G o dJ13_compareUnsigned_74951 mJ13_compareUnsigned_74951 [.long x0, .long x2] S (fun v S' => (v = k_J13_compareUnsigned_74951 N g H T S x0 x2 ∧ S' = S)) := by
  refine cC.ofX rfl (by exact Nat.le_of_ble_eq_true rfl) ?_
  show cX G o dJ13_compareUnsigned_74951 mJ13_compareUnsigned_74951 0 [some (.long x0), none, some (.long x2), none] [] S _
  exact cX.cutz (kb_J13_compareUnsigned_74951_0 (X := fun F => F = k_J13_compareUnsigned_74951 N g H T S x0 x2) hG (fun v h => ⟨v, rfl, h, rfl⟩) hS  ok rfl) ⟨rfl, rfl, trivial⟩

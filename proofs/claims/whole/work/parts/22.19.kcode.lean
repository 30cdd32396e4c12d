/-! X10_passTime -/
def KF_X10_passTime_98 (N g H T : Nat) (x1 : Int32) (S : cS) : Int32 × cS := (x1, S)
def KO_X10_passTime_98 (N g H T : Nat) (x1 : Int32) (S : cS) : Prop := True
set_option maxRecDepth 100000 in
set_option maxHeartbeats 4000000 in
theorem kb_X10_passTime_98 {G : zG} {o : cO} {u g H T N : Nat} {S : cS} {S0 : cS} {Q : Option Value → cS → Prop} {X : Int32 × cS → Prop} (hG : zOK G) (hR : ∀ v S', St u g H T S' → Mono S0 S' → X (v, S') → Q (some (.int v)) S') {x1 : Int32} (hS : St u g H T S) (hM : Mono S0 S) (ok : KO_X10_passTime_98 N g H T x1 S) (hx : X (KF_X10_passTime_98 N g H T x1 S)) : cX G o dX10_passTime mX10_passTime 98 [none, some (.int x1), none, none, none] [] S Q := by
  unfold KO_X10_passTime_98 at ok
  unfold KF_X10_passTime_98 at hx
  refine c_iload_n dX10_passTime_98 rfl rfl ?_
  exact c_ireturn rfl rfl dX10_passTime_99 (hR _ _ hS hM hx)
def KF_X10_passTime_92 (N g H T : Nat) (rec : Nat → Int32 → Int32 → cS → Nat × Int32 × cS) (x0 : Nat) (x1 : Int32) (x2 : Int32) (S : cS) : Nat × Int32 × cS := (rec x0 x1 (x2 + nI 1) S)
def KO_X10_passTime_92 (N g H T : Nat) (rok : Nat → Int32 → Int32 → cS → Prop) (x0 : Nat) (x1 : Int32) (x2 : Int32) (S : cS) : Prop := rok x0 x1 (x2 + nI 1) S
set_option maxRecDepth 100000 in
set_option maxHeartbeats 4000000 in
theorem kb_X10_passTime_92 {G : zG} {o : cO} {u g H T N : Nat} {S : cS} {S0 : cS} {Q : Option Value → cS → Prop} {X : Nat × Int32 × cS → Prop} (hG : zOK G) (hX0 : ∀ (x1 : Int32) (S' : cS), St u g H T S' → Mono S0 S' → X (0, x1, S') → cX G o dX10_passTime mX10_passTime 98 [none, some (.int x1), none, none, none] [] S' Q) {rec : Nat → Int32 → Int32 → cS → Nat × Int32 × cS} {rok : Nat → Int32 → Int32 → cS → Prop} (hrec : ∀ (x0 : Nat) (x1 : Int32) (x2 : Int32) (S : cS), St u g H T S → Mono S0 S → isO g H 8 x0 → rok x0 x1 x2 S → X (rec x0 x1 x2 S) → cX G o dX10_passTime mX10_passTime 17 [some (va_rf (some x0)), some (.int x1), some (.int x2), none, none] [] S Q) {x0 : Nat} {x1 : Int32} {x2 : Int32} (hS : St u g H T S) (hM : Mono S0 S) (t_x0 : isO g H 8 x0) (ok : KO_X10_passTime_92 N g H T rok x0 x1 x2 S) (hx : X (KF_X10_passTime_92 N g H T rec x0 x1 x2 S)) : cX G o dX10_passTime mX10_passTime 92 [some (va_rf (some x0)), some (.int x1), some (.int x2), none, none] [] S Q := by
  unfold KO_X10_passTime_92 at ok
  unfold KF_X10_passTime_92 at hx
  refine c_iinc_2 (v := (x2 + nI 1)) dX10_passTime_92 rfl (by first | rfl | (congr 1)) (by decide) rfl ?_
  refine c_goto (tgt := 17) dX10_passTime_95 (by decide) ?_
  exact cX.cutz (hrec _ _ _ S hS hM t_x0 ok hx) ⟨rfl, rfl, rfl, trivial⟩
def KF_X10_passTime_86 (N g H T : Nat) (rec : Nat → Int32 → Int32 → Option Nat → Int32 → cS → Nat × Nat × Int32 × Int32 × cS) (x0 : Nat) (x1 : Int32) (x2 : Int32) (x3 : Option Nat) (x4 : Int32) (S : cS) : Nat × Nat × Int32 × Int32 × cS := (rec x0 x1 x2 x3 (x4 + nI 1) S)
def KO_X10_passTime_86 (N g H T : Nat) (rok : Nat → Int32 → Int32 → Option Nat → Int32 → cS → Prop) (x0 : Nat) (x1 : Int32) (x2 : Int32) (x3 : Option Nat) (x4 : Int32) (S : cS) : Prop := rok x0 x1 x2 x3 (x4 + nI 1) S
set_option maxRecDepth 100000 in
set_option maxHeartbeats 4000000 in
theorem kb_X10_passTime_86 {G : zG} {o : cO} {u g H T N : Nat} {S : cS} {S0 : cS} {Q : Option Value → cS → Prop} {X : Nat × Nat × Int32 × Int32 × cS → Prop} (hG : zOK G) (hX0 : ∀ (x0 : Nat) (x1 : Int32) (x2 : Int32) (S' : cS), St u g H T S' → Mono S0 S' → isO g H 8 x0 → X (0, x0, x1, x2, S') → cX G o dX10_passTime mX10_passTime 92 [some (va_rf (some x0)), some (.int x1), some (.int x2), none, none] [] S' Q) {rec : Nat → Int32 → Int32 → Option Nat → Int32 → cS → Nat × Nat × Int32 × Int32 × cS} {rok : Nat → Int32 → Int32 → Option Nat → Int32 → cS → Prop} (hrec : ∀ (x0 : Nat) (x1 : Int32) (x2 : Int32) (x3 : Option Nat) (x4 : Int32) (S : cS), St u g H T S → Mono S0 S → isO g H 8 x0 → tN g H x3 → rok x0 x1 x2 x3 x4 S → X (rec x0 x1 x2 x3 x4 S) → cX G o dX10_passTime mX10_passTime 35 [some (va_rf (some x0)), some (.int x1), some (.int x2), some (va_rf x3), some (.int x4)] [] S Q) {x0 : Nat} {x1 : Int32} {x2 : Int32} {x3 : Option Nat} {x4 : Int32} (hS : St u g H T S) (hM : Mono S0 S) (t_x0 : isO g H 8 x0) (t_x3 : tN g H x3) (ok : KO_X10_passTime_86 N g H T rok x0 x1 x2 x3 x4 S) (hx : X (KF_X10_passTime_86 N g H T rec x0 x1 x2 x3 x4 S)) : cX G o dX10_passTime mX10_passTime 86 [some (va_rf (some x0)), some (.int x1), some (.int x2), some (va_rf x3), some (.int x4)] [] S Q := by
  unfold KO_X10_passTime_86 at ok
  unfold KF_X10_passTime_86 at hx
  refine c_iinc_4 (v := (x4 + nI 1)) dX10_passTime_86 rfl (by first | rfl | (congr 1)) (by decide) (by simp [zok, zg, zcat_rf]) ?_
  refine c_goto (tgt := 35) dX10_passTime_89 (by decide) ?_
  exact cX.cutz (hrec _ _ _ _ _ S hS hM t_x0 t_x3 ok hx) ⟨rfl, rfl, rfl, rfl, rfl, trivial⟩
def KF_X10_passTime_82 (N g H T : Nat) (rec : Nat → Int32 → Int32 → Option Nat → Int32 → cS → Nat × Nat × Int32 × Int32 × cS) (x0 : Nat) (x1 : Int32) (x2 : Int32) (x3 : Option Nat) (x4 : Int32) (S : cS) : Nat × Nat × Int32 × Int32 × cS := (KF_X10_passTime_86 N g H T rec x0 x1 x2 x3 x4 (k_X7_settle N g H T S x3))
def KO_X10_passTime_82 (N g H T : Nat) (rok : Nat → Int32 → Int32 → Option Nat → Int32 → cS → Prop) (x0 : Nat) (x1 : Int32) (x2 : Int32) (x3 : Option Nat) (x4 : Int32) (S : cS) : Prop := (p_X7_settle N g H T S x3) ∧ KO_X10_passTime_86 N g H T rok x0 x1 x2 x3 x4 (k_X7_settle N g H T S x3)
set_option maxRecDepth 100000 in
set_option maxHeartbeats 4000000 in
theorem kb_X10_passTime_82 {G : zG} {o : cO} {u g H T N : Nat} {S : cS} {S0 : cS} {Q : Option Value → cS → Prop} {X : Nat × Nat × Int32 × Int32 × cS → Prop} (hG : zOK G) (hX0 : ∀ (x0 : Nat) (x1 : Int32) (x2 : Int32) (S' : cS), St u g H T S' → Mono S0 S' → isO g H 8 x0 → X (0, x0, x1, x2, S') → cX G o dX10_passTime mX10_passTime 92 [some (va_rf (some x0)), some (.int x1), some (.int x2), none, none] [] S' Q) {rec : Nat → Int32 → Int32 → Option Nat → Int32 → cS → Nat × Nat × Int32 × Int32 × cS} {rok : Nat → Int32 → Int32 → Option Nat → Int32 → cS → Prop} (hrec : ∀ (x0 : Nat) (x1 : Int32) (x2 : Int32) (x3 : Option Nat) (x4 : Int32) (S : cS), St u g H T S → Mono S0 S → isO g H 8 x0 → tN g H x3 → rok x0 x1 x2 x3 x4 S → X (rec x0 x1 x2 x3 x4 S) → cX G o dX10_passTime mX10_passTime 35 [some (va_rf (some x0)), some (.int x1), some (.int x2), some (va_rf x3), some (.int x4)] [] S Q) {x0 : Nat} {x1 : Int32} {x2 : Int32} {x3 : Option Nat} {x4 : Int32} (hS : St u g H T S) (hM : Mono S0 S) (t_x0 : isO g H 8 x0) (t_x3 : tN g H x3) (ok : KO_X10_passTime_82 N g H T rok x0 x1 x2 x3 x4 S) (hx : X (KF_X10_passTime_82 N g H T rec x0 x1 x2 x3 x4 S)) : cX G o dX10_passTime mX10_passTime 82 [some (va_rf (some x0)), some (.int x1), some (.int x2), some (va_rf x3), some (.int x4)] [] S Q := by
  unfold KO_X10_passTime_82 at ok
  unfold KF_X10_passTime_82 at hx
  refine c_aload_nQ dX10_passTime_82 rfl rfl ?_
  refine c_S1vK (y' := mX7_settle) dX10_passTime_83 lX10_85 kX7_settle ⟨by decide, by decide⟩ (Nat.le_of_ble_eq_true rfl) (kc_X7_settle hG hS t_x3 ok.1) (fun ⟨hS, hm_83⟩ => ?_)
  have hM := hM.trans hm_83
  have ok := ok.2
  exact cX.cutz (kb_X10_passTime_86 hG hX0 hrec hS hM t_x0 t_x3 ok hx) ⟨rfl, rfl, rfl, rfl, rfl, trivial⟩
def KB_X10_passTime_35 (N g H T : Nat) (rec : Nat → Int32 → Int32 → Option Nat → Int32 → cS → Nat × Nat × Int32 × Int32 × cS) (x0 : Nat) (x1 : Int32) (x2 : Int32) (x3 : Option Nat) (x4 : Int32) (S : cS) : Nat × Nat × Int32 × Int32 × cS := (if (nI 3) ≤ x4 then (0, x0, x1, x2, S) else (if (cI S 8 (za x3)) = 0 then (0, x0, x1, x2, S) else (if (cA S ((za x3) + 12) x4.toNatClampNeg) = (cI S 10 (g + 11)) then (KF_X10_passTime_82 N g H T rec x0 (x1 + nI 1) x2 x3 x4 (k_X7_ring N g H T (csA S ((za x3) + 12) x4.toNatClampNeg (nI 0)) x3 x4)) else (KF_X10_passTime_86 N g H T rec x0 x1 x2 x3 x4 S))))
def KOB_X10_passTime_35 (N g H T : Nat) (rok : Nat → Int32 → Int32 → Option Nat → Int32 → cS → Prop) (x0 : Nat) (x1 : Int32) (x2 : Int32) (x3 : Option Nat) (x4 : Int32) (S : cS) : Prop := (((nI 3) ≤ x4 → True) ∧ (¬ (nI 3) ≤ x4 → (¬ x3 = none) ∧ (((cI S 8 (za x3)) = 0 → True) ∧ (¬ (cI S 8 (za x3)) = 0 → (vp_in x4 3) ∧ (((cA S ((za x3) + 12) x4.toNatClampNeg) = (cI S 10 (g + 11)) → (vp_in x4 3) ∧ (p_X7_ring N g H T (csA S ((za x3) + 12) x4.toNatClampNeg (nI 0)) x3 x4) ∧ KO_X10_passTime_82 N g H T rok x0 (x1 + nI 1) x2 x3 x4 (k_X7_ring N g H T (csA S ((za x3) + 12) x4.toNatClampNeg (nI 0)) x3 x4)) ∧ (¬ (cA S ((za x3) + 12) x4.toNatClampNeg) = (cI S 10 (g + 11)) → KO_X10_passTime_86 N g H T rok x0 x1 x2 x3 x4 S))))))
set_option maxRecDepth 100000 in
set_option maxHeartbeats 4000000 in
theorem kbb_X10_passTime_35 {G : zG} {o : cO} {u g H T N : Nat} {S : cS} {S0 : cS} {Q : Option Value → cS → Prop} {X : Nat × Nat × Int32 × Int32 × cS → Prop} (hG : zOK G) (hX0 : ∀ (x0 : Nat) (x1 : Int32) (x2 : Int32) (S' : cS), St u g H T S' → Mono S0 S' → isO g H 8 x0 → X (0, x0, x1, x2, S') → cX G o dX10_passTime mX10_passTime 92 [some (va_rf (some x0)), some (.int x1), some (.int x2), none, none] [] S' Q) {rec : Nat → Int32 → Int32 → Option Nat → Int32 → cS → Nat × Nat × Int32 × Int32 × cS} {rok : Nat → Int32 → Int32 → Option Nat → Int32 → cS → Prop} (hrec : ∀ (x0 : Nat) (x1 : Int32) (x2 : Int32) (x3 : Option Nat) (x4 : Int32) (S : cS), St u g H T S → Mono S0 S → isO g H 8 x0 → tN g H x3 → rok x0 x1 x2 x3 x4 S → X (rec x0 x1 x2 x3 x4 S) → cX G o dX10_passTime mX10_passTime 35 [some (va_rf (some x0)), some (.int x1), some (.int x2), some (va_rf x3), some (.int x4)] [] S Q) {x0 : Nat} {x1 : Int32} {x2 : Int32} {x3 : Option Nat} {x4 : Int32} (hS : St u g H T S) (hM : Mono S0 S) (t_x0 : isO g H 8 x0) (t_x3 : tN g H x3) (ok : KOB_X10_passTime_35 N g H T rok x0 x1 x2 x3 x4 S) (hx : X (KB_X10_passTime_35 N g H T rec x0 x1 x2 x3 x4 S)) : cX G o dX10_passTime mX10_passTime 35 [some (va_rf (some x0)), some (.int x1), some (.int x2), some (va_rf x3), some (.int x4)] [] S Q := by
  unfold KOB_X10_passTime_35 at ok
  unfold KB_X10_passTime_35 at hx
  refine c_iload dX10_passTime_35 rfl ?_
  refine c_iconst (v := nI 3) dX10_passTime_37 (by decide) ?_
  refine c_icmp_ge (tgt := 92) dX10_passTime_38 (by decide) (fun c_38 => ?_) (fun c_38 => ?_)
  · have ok := ok.1 c_38
    have hx := xif_p c_38 hx
    exact cX.cutz (hX0 _ _ _ S hS hM t_x0 hx) ⟨rfl, rfl, rfl, trivial⟩
  · have ok := ok.2 c_38
    have hx := xif_n c_38 hx
    refine c_aload_nQ dX10_passTime_41 rfl rfl ?_
    have nn_42 := ok.1
    refine c_getI (C := RX6) (T := TX6) (N := 19) (ci := 5) (k := 8) ⟨rfl, inT6, by decide, fX10_106⟩ (by decide) (by decide) (by decide) dX10_passTime_42 (hS.kN t_x3 ok.1) ?_
    have ok := ok.2
    refine c_if_eq (tgt := 92) dX10_passTime_45 (by decide) (fun c_45 => ?_) (fun c_45 => ?_)
    · have ok := ok.1 c_45
      have hx := xif_p c_45 hx
      exact cX.cutz (hX0 _ _ _ S hS hM t_x0 hx) ⟨rfl, rfl, rfl, trivial⟩
    · have ok := ok.2 c_45
      have hx := xif_n c_45 hx
      refine c_aload_nQ dX10_passTime_48 rfl rfl ?_
      refine c_getS (C := RX6) (T := TX6) (N := 19) (ci := 5) (k := 6) ⟨rfl, inT6, by decide, fX10_132⟩ (by decide) (by decide) (by decide) dX10_passTime_49 (hS.kN t_x3 nn_42) (hS.r (c := 5) (tN.o t_x3 nn_42) rfl (by omega)) ?_
      refine c_iload dX10_passTime_52 rfl ?_
      refine c_iald dX10_passTime_54 ⟨(tK.cis (hS.rk (c := 5) (k := 6) (tN.o t_x3 nn_42) rfl (by omega)) (Option.some_ne_none _)), (vk_cast (hS.rl (c := 5) (k := 6) (tN.o t_x3 nn_42) rfl (by decide) (by omega)) ok.1)⟩ ?_
      have ok := ok.2
      refine c_aload_nQ dX10_passTime_55 rfl rfl ?_
      refine c_getS (C := RX10) (T := TX10) (N := 12) (ci := 8) (k := 6) ⟨rfl, inT10, by decide, fX10_12⟩ (by decide) (by decide) (by decide) dX10_passTime_56 (hS.k t_x0) (hS.r (c := 8) t_x0 rfl (by omega)) ?_
      refine c_getI (C := RX9) (T := TX9) (N := 13) (ci := 7) (k := 10) ⟨rfl, inT9, by decide, fX10_129⟩ (by decide) (by decide) (by decide) dX10_passTime_59 (hS.k (o86 t_x0)) ?_
      refine c_icmp_ne (tgt := 86) dX10_passTime_62 (by decide) (fun c_62 => ?_) (fun c_62 => ?_)
      · have ok := ok.2 c_62
        have hx := xif_n c_62 hx
        exact cX.cutz (kb_X10_passTime_86 hG hX0 hrec hS hM t_x0 t_x3 ok hx) ⟨rfl, rfl, rfl, rfl, rfl, trivial⟩
      · have ok := ok.1 c_62
        have hx := xif_p c_62 hx
        refine c_aload_nQ dX10_passTime_65 rfl rfl ?_
        refine c_getS (C := RX6) (T := TX6) (N := 19) (ci := 5) (k := 6) ⟨rfl, inT6, by decide, fX10_132⟩ (by decide) (by decide) (by decide) dX10_passTime_66 (hS.kN t_x3 nn_42) (hS.r (c := 5) (tN.o t_x3 nn_42) rfl (by omega)) ?_
        refine c_iload dX10_passTime_69 rfl ?_
        refine c_iconst (v := nI 0) dX10_passTime_71 (by decide) ?_
        have tq_72 : tK S 21 (some ((za x3) + 12)) := tK_some (tK.cis (hS.rk (c := 5) (k := 6) (tN.o t_x3 nn_42) rfl (by omega)) (Option.some_ne_none _)).2
        refine c_iast hG dX10_passTime_72 ⟨(tK.cis (hS.rk (c := 5) (k := 6) (tN.o t_x3 nn_42) rfl (by omega)) (Option.some_ne_none _)), (vk_cast (hS.rl (c := 5) (k := 6) (tN.o t_x3 nn_42) rfl (by decide) (by omega)) ok.1)⟩ ?_
        have hS := hS.Aw (k := 21) ((za x3) + 12) x4.toNatClampNeg (nI 0) tq_72 (by decide)
        have hM := hM.A ((za x3) + 12) x4.toNatClampNeg (nI 0)
        have ok := ok.2
        refine c_iinc_1 (v := (x1 + nI 1)) dX10_passTime_73 rfl (by first | rfl | (congr 1)) (by decide) (by simp [zok, zg, zcat_rf]) ?_
        refine c_aload_nQ dX10_passTime_76 rfl rfl ?_
        refine c_iload dX10_passTime_77 rfl ?_
        refine c_S2vK (y' := mX7_ring) dX10_passTime_79 lX10_136 kX7_ring ⟨by decide, by decide⟩ (Nat.le_of_ble_eq_true rfl) (kc_X7_ring hG hS t_x3 ok.1) (fun ⟨hS, hm_79⟩ => ?_)
        have hM := hM.trans hm_79
        have ok := ok.2
        exact cX.cutz (kb_X10_passTime_82 hG hX0 hrec hS hM t_x0 t_x3 ok hx) ⟨rfl, rfl, rfl, rfl, rfl, trivial⟩
def KL_X10_passTime_35 (N g H T : Nat) : Nat → Nat → Int32 → Int32 → Option Nat → Int32 → cS → Nat × Nat × Int32 × Int32 × cS
  | 0, x0, x1, x2, x3, x4, S => (0, 0, 0, 0, S)
  | n + 1, x0, x1, x2, x3, x4, S => KB_X10_passTime_35 N g H T (KL_X10_passTime_35 N g H T n) x0 x1 x2 x3 x4 S
def KOL_X10_passTime_35 (N g H T : Nat) : Nat → Nat → Int32 → Int32 → Option Nat → Int32 → cS → Prop
  | 0, _, _, _, _, _, _ => False
  | n + 1, x0, x1, x2, x3, x4, S => KOB_X10_passTime_35 N g H T (KOL_X10_passTime_35 N g H T n) x0 x1 x2 x3 x4 S
set_option maxRecDepth 100000 in
set_option maxHeartbeats 4000000 in
theorem kl_X10_passTime_35 {G : zG} {o : cO} {u g H T N : Nat} {S0 : cS} {Q : Option Value → cS → Prop} {X : Nat × Nat × Int32 × Int32 × cS → Prop} (hG : zOK G) (hX0 : ∀ (x0 : Nat) (x1 : Int32) (x2 : Int32) (S' : cS), St u g H T S' → Mono S0 S' → isO g H 8 x0 → X (0, x0, x1, x2, S') → cX G o dX10_passTime mX10_passTime 92 [some (va_rf (some x0)), some (.int x1), some (.int x2), none, none] [] S' Q) : ∀ (n : Nat) (x0 : Nat) (x1 : Int32) (x2 : Int32) (x3 : Option Nat) (x4 : Int32) (S : cS), St u g H T S → Mono S0 S → isO g H 8 x0 → tN g H x3 → KOL_X10_passTime_35 N g H T n x0 x1 x2 x3 x4 S → X (KL_X10_passTime_35 N g H T n x0 x1 x2 x3 x4 S) → cX G o dX10_passTime mX10_passTime 35 [some (va_rf (some x0)), some (.int x1), some (.int x2), some (va_rf x3), some (.int x4)] [] S Q := by
  intro n
  induction n with
  | zero => intro x0 x1 x2 x3 x4 S hS hM t_x0 t_x3 ok; exact absurd ok id
  | succ n ih =>
    intro x0 x1 x2 x3 x4 S hS hM t_x0 t_x3 ok hx
    exact kbb_X10_passTime_35 hG hX0 (rec := KL_X10_passTime_35 N g H T n) (rok := KOL_X10_passTime_35 N g H T n) (fun x0 x1 x2 x3 x4 S hS hM t_x0 t_x3 ok hx => ih x0 x1 x2 x3 x4 S hS hM t_x0 t_x3 ok hx) hS hM t_x0 t_x3 ok hx
def KA_X10_passTime_35 (N g H T : Nat) (rec : Nat → Int32 → Int32 → cS → Nat × Int32 × cS) (x0 : Nat) (x1 : Int32) (x2 : Int32) (x3 : Option Nat) (x4 : Int32) (S : cS) (z : Nat × Nat × Int32 × Int32 × cS) : Nat × Int32 × cS := (KF_X10_passTime_92 N g H T rec (z.2.1) (z.2.2.1) (z.2.2.2.1) z.2.2.2.2)
def KOA_X10_passTime_35 (N g H T : Nat) (rok : Nat → Int32 → Int32 → cS → Prop) (x0 : Nat) (x1 : Int32) (x2 : Int32) (x3 : Option Nat) (x4 : Int32) (S : cS) (z : Nat × Nat × Int32 × Int32 × cS) : Prop := KO_X10_passTime_92 N g H T rok (z.2.1) (z.2.2.1) (z.2.2.2.1) z.2.2.2.2
set_option maxRecDepth 100000 in
set_option maxHeartbeats 4000000 in
theorem kd_X10_passTime_35 {G : zG} {o : cO} {u g H T N : Nat} {S : cS} {S0 : cS} {Q : Option Value → cS → Prop} {X : Nat × Int32 × cS → Prop} (hG : zOK G) (hX0 : ∀ (x1 : Int32) (S' : cS), St u g H T S' → Mono S0 S' → X (0, x1, S') → cX G o dX10_passTime mX10_passTime 98 [none, some (.int x1), none, none, none] [] S' Q) {rec : Nat → Int32 → Int32 → cS → Nat × Int32 × cS} {rok : Nat → Int32 → Int32 → cS → Prop} (hrec : ∀ (x0 : Nat) (x1 : Int32) (x2 : Int32) (S : cS), St u g H T S → Mono S0 S → isO g H 8 x0 → rok x0 x1 x2 S → X (rec x0 x1 x2 S) → cX G o dX10_passTime mX10_passTime 17 [some (va_rf (some x0)), some (.int x1), some (.int x2), none, none] [] S Q) {x0 : Nat} {x1 : Int32} {x2 : Int32} {x3 : Option Nat} {x4 : Int32} (hS : St u g H T S) (hM : Mono S0 S) (t_x0 : isO g H 8 x0) (t_x3 : tN g H x3) (ok : KOL_X10_passTime_35 N g H T N x0 x1 x2 x3 x4 S ∧ KOA_X10_passTime_35 N g H T rok x0 x1 x2 x3 x4 S (KL_X10_passTime_35 N g H T N x0 x1 x2 x3 x4 S)) (hx : X (KA_X10_passTime_35 N g H T rec x0 x1 x2 x3 x4 S (KL_X10_passTime_35 N g H T N x0 x1 x2 x3 x4 S))) : cX G o dX10_passTime mX10_passTime 35 [some (va_rf (some x0)), some (.int x1), some (.int x2), some (va_rf x3), some (.int x4)] [] S Q := by
  refine kl_X10_passTime_35 hG ?_ N x0 x1 x2 x3 x4 S hS hM t_x0 t_x3 ok.1 (X := fun z => KOA_X10_passTime_35 N g H T rok x0 x1 x2 x3 x4 S z ∧ X (KA_X10_passTime_35 N g H T rec x0 x1 x2 x3 x4 S z)) ⟨ok.2, hx⟩
  · intro x0' x1' x2' S' hS hM t_x0 hz
    obtain ⟨ok, hx⟩ := hz
    unfold KOA_X10_passTime_35 at ok
    unfold KA_X10_passTime_35 at hx
    exact cX.cutz (kb_X10_passTime_92 hG hX0 hrec hS hM t_x0 ok hx) ⟨rfl, rfl, rfl, trivial⟩
def KB_X10_passTime_17 (N g H T : Nat) (rec : Nat → Int32 → Int32 → cS → Nat × Int32 × cS) (x0 : Nat) (x1 : Int32) (x2 : Int32) (S : cS) : Nat × Int32 × cS := (if (cI S 2 x0) ≤ x2 then (0, x1, S) else (KA_X10_passTime_35 N g H T rec x0 x1 x2 (cP S (g + 30) x2.toNatClampNeg) (nI 0) S (KL_X10_passTime_35 N g H T N x0 x1 x2 (cP S (g + 30) x2.toNatClampNeg) (nI 0) S)))
def KOB_X10_passTime_17 (N g H T : Nat) (rok : Nat → Int32 → Int32 → cS → Prop) (x0 : Nat) (x1 : Int32) (x2 : Int32) (S : cS) : Prop := (((cI S 2 x0) ≤ x2 → True) ∧ (¬ (cI S 2 x0) ≤ x2 → (vp_in x2 H) ∧ (KOL_X10_passTime_35 N g H T N x0 x1 x2 (cP S (g + 30) x2.toNatClampNeg) (nI 0) S ∧ KOA_X10_passTime_35 N g H T rok x0 x1 x2 (cP S (g + 30) x2.toNatClampNeg) (nI 0) S (KL_X10_passTime_35 N g H T N x0 x1 x2 (cP S (g + 30) x2.toNatClampNeg) (nI 0) S))))
set_option maxRecDepth 100000 in
set_option maxHeartbeats 4000000 in
theorem kbb_X10_passTime_17 {G : zG} {o : cO} {u g H T N : Nat} {S : cS} {S0 : cS} {Q : Option Value → cS → Prop} {X : Nat × Int32 × cS → Prop} (hG : zOK G) (hX0 : ∀ (x1 : Int32) (S' : cS), St u g H T S' → Mono S0 S' → X (0, x1, S') → cX G o dX10_passTime mX10_passTime 98 [none, some (.int x1), none, none, none] [] S' Q) {rec : Nat → Int32 → Int32 → cS → Nat × Int32 × cS} {rok : Nat → Int32 → Int32 → cS → Prop} (hrec : ∀ (x0 : Nat) (x1 : Int32) (x2 : Int32) (S : cS), St u g H T S → Mono S0 S → isO g H 8 x0 → rok x0 x1 x2 S → X (rec x0 x1 x2 S) → cX G o dX10_passTime mX10_passTime 17 [some (va_rf (some x0)), some (.int x1), some (.int x2), none, none] [] S Q) {x0 : Nat} {x1 : Int32} {x2 : Int32} (hS : St u g H T S) (hM : Mono S0 S) (t_x0 : isO g H 8 x0) (ok : KOB_X10_passTime_17 N g H T rok x0 x1 x2 S) (hx : X (KB_X10_passTime_17 N g H T rec x0 x1 x2 S)) : cX G o dX10_passTime mX10_passTime 17 [some (va_rf (some x0)), some (.int x1), some (.int x2), none, none] [] S Q := by
  unfold KOB_X10_passTime_17 at ok
  unfold KB_X10_passTime_17 at hx
  refine c_iload_n dX10_passTime_17 rfl rfl ?_
  refine c_aload_nQ dX10_passTime_18 rfl rfl ?_
  refine c_getI (C := RX10) (T := TX10) (N := 12) (ci := 8) (k := 2) ⟨rfl, inT10, by decide, fX10_50⟩ (by decide) (by decide) (by decide) dX10_passTime_19 (hS.k t_x0) ?_
  refine c_icmp_ge (tgt := 98) dX10_passTime_22 (by decide) (fun c_22 => ?_) (fun c_22 => ?_)
  · have ok := ok.1 c_22
    have hx := xif_p c_22 hx
    exact cX.cutz (hX0 _ S hS hM  hx) ⟨rfl, trivial⟩
  · have ok := ok.2 c_22
    have hx := xif_n c_22 hx
    refine c_aload_nQ dX10_passTime_25 rfl rfl ?_
    refine c_getS (C := RX10) (T := TX10) (N := 12) (ci := 8) (k := 4) ⟨rfl, inT10, by decide, fX10_64⟩ (by decide) (by decide) (by decide) dX10_passTime_26 (hS.k t_x0) (hS.r (c := 8) t_x0 rfl (by omega)) ?_
    refine c_iload_n dX10_passTime_29 rfl rfl ?_
    have p_30 := hS.row25 x2.toNatClampNeg
    refine c_aald (t := 5) (ty := (.object "QuorumLedger$Node")) rfl rfl (by decide) dX10_passTime_30 ⟨(tK.cis (hS.rk (c := 8) (k := 4) t_x0 rfl (by omega)) (Option.some_ne_none _)), (vk_cast hS.l25 ok.1)⟩ ?_
    have ok := ok.2
    refine c_astore_3Q dX10_passTime_31 (by decide) rfl ?_
    refine c_iconst (v := nI 0) dX10_passTime_32 (by decide) ?_
    refine c_istore_4 dX10_passTime_33 (by decide) (by simp [zok, zg, zcat_rf]) ?_
    exact cX.cutz (kd_X10_passTime_35 hG hX0 hrec hS hM t_x0 p_30 ok hx) ⟨rfl, rfl, rfl, rfl, rfl, trivial⟩
def KL_X10_passTime_17 (N g H T : Nat) : Nat → Nat → Int32 → Int32 → cS → Nat × Int32 × cS
  | 0, x0, x1, x2, S => (0, 0, S)
  | n + 1, x0, x1, x2, S => KB_X10_passTime_17 N g H T (KL_X10_passTime_17 N g H T n) x0 x1 x2 S
def KOL_X10_passTime_17 (N g H T : Nat) : Nat → Nat → Int32 → Int32 → cS → Prop
  | 0, _, _, _, _ => False
  | n + 1, x0, x1, x2, S => KOB_X10_passTime_17 N g H T (KOL_X10_passTime_17 N g H T n) x0 x1 x2 S
set_option maxRecDepth 100000 in
set_option maxHeartbeats 4000000 in
theorem kl_X10_passTime_17 {G : zG} {o : cO} {u g H T N : Nat} {S0 : cS} {Q : Option Value → cS → Prop} {X : Nat × Int32 × cS → Prop} (hG : zOK G) (hX0 : ∀ (x1 : Int32) (S' : cS), St u g H T S' → Mono S0 S' → X (0, x1, S') → cX G o dX10_passTime mX10_passTime 98 [none, some (.int x1), none, none, none] [] S' Q) : ∀ (n : Nat) (x0 : Nat) (x1 : Int32) (x2 : Int32) (S : cS), St u g H T S → Mono S0 S → isO g H 8 x0 → KOL_X10_passTime_17 N g H T n x0 x1 x2 S → X (KL_X10_passTime_17 N g H T n x0 x1 x2 S) → cX G o dX10_passTime mX10_passTime 17 [some (va_rf (some x0)), some (.int x1), some (.int x2), none, none] [] S Q := by
  intro n
  induction n with
  | zero => intro x0 x1 x2 S hS hM t_x0 ok; exact absurd ok id
  | succ n ih =>
    intro x0 x1 x2 S hS hM t_x0 ok hx
    exact kbb_X10_passTime_17 hG hX0 (rec := KL_X10_passTime_17 N g H T n) (rok := KOL_X10_passTime_17 N g H T n) (fun x0 x1 x2 S hS hM t_x0 ok hx => ih x0 x1 x2 S hS hM t_x0 ok hx) hS hM t_x0 ok hx
def KA_X10_passTime_17 (N g H T : Nat) (x0 : Nat) (x1 : Int32) (x2 : Int32) (S : cS) (z : Nat × Int32 × cS) : Int32 × cS := (KF_X10_passTime_98 N g H T (z.2.1) z.2.2)
def KOA_X10_passTime_17 (N g H T : Nat) (x0 : Nat) (x1 : Int32) (x2 : Int32) (S : cS) (z : Nat × Int32 × cS) : Prop := KO_X10_passTime_98 N g H T (z.2.1) z.2.2
set_option maxRecDepth 100000 in
set_option maxHeartbeats 4000000 in
theorem kd_X10_passTime_17 {G : zG} {o : cO} {u g H T N : Nat} {S : cS} {S0 : cS} {Q : Option Value → cS → Prop} {X : Int32 × cS → Prop} (hG : zOK G) (hR : ∀ v S', St u g H T S' → Mono S0 S' → X (v, S') → Q (some (.int v)) S') {x0 : Nat} {x1 : Int32} {x2 : Int32} (hS : St u g H T S) (hM : Mono S0 S) (t_x0 : isO g H 8 x0) (ok : KOL_X10_passTime_17 N g H T N x0 x1 x2 S ∧ KOA_X10_passTime_17 N g H T x0 x1 x2 S (KL_X10_passTime_17 N g H T N x0 x1 x2 S)) (hx : X (KA_X10_passTime_17 N g H T x0 x1 x2 S (KL_X10_passTime_17 N g H T N x0 x1 x2 S))) : cX G o dX10_passTime mX10_passTime 17 [some (va_rf (some x0)), some (.int x1), some (.int x2), none, none] [] S Q := by
  refine kl_X10_passTime_17 hG ?_ N x0 x1 x2 S hS hM t_x0 ok.1 (X := fun z => KOA_X10_passTime_17 N g H T x0 x1 x2 S z ∧ X (KA_X10_passTime_17 N g H T x0 x1 x2 S z)) ⟨ok.2, hx⟩
  · intro x1' S' hS hM hz
    obtain ⟨ok, hx⟩ := hz
    unfold KOA_X10_passTime_17 at ok
    unfold KA_X10_passTime_17 at hx
    exact cX.cutz (kb_X10_passTime_98 hG hR hS hM  ok hx) ⟨rfl, trivial⟩
def KF_X10_passTime_0 (N g H T : Nat) (x0 : Nat) (S : cS) : Int32 × cS := (KA_X10_passTime_17 N g H T x0 (nI 0) (nI 0) (csI S 10 (g + 11) ((cI S 10 (g + 11)) + (nI 1))) (KL_X10_passTime_17 N g H T N x0 (nI 0) (nI 0) (csI S 10 (g + 11) ((cI S 10 (g + 11)) + (nI 1)))))
def KO_X10_passTime_0 (N g H T : Nat) (x0 : Nat) (S : cS) : Prop := (KOL_X10_passTime_17 N g H T N x0 (nI 0) (nI 0) (csI S 10 (g + 11) ((cI S 10 (g + 11)) + (nI 1))) ∧ KOA_X10_passTime_17 N g H T x0 (nI 0) (nI 0) (csI S 10 (g + 11) ((cI S 10 (g + 11)) + (nI 1))) (KL_X10_passTime_17 N g H T N x0 (nI 0) (nI 0) (csI S 10 (g + 11) ((cI S 10 (g + 11)) + (nI 1)))))
set_option maxRecDepth 100000 in
set_option maxHeartbeats 4000000 in
theorem kb_X10_passTime_0 {G : zG} {o : cO} {u g H T N : Nat} {S : cS} {S0 : cS} {Q : Option Value → cS → Prop} {X : Int32 × cS → Prop} (hG : zOK G) (hR : ∀ v S', St u g H T S' → Mono S0 S' → X (v, S') → Q (some (.int v)) S') {x0 : Nat} (hS : St u g H T S) (hM : Mono S0 S) (t_x0 : isO g H 8 x0) (ok : KO_X10_passTime_0 N g H T x0 S) (hx : X (KF_X10_passTime_0 N g H T x0 S)) : cX G o dX10_passTime mX10_passTime 0 [some (va_rf (some x0)), none, none, none, none] [] S Q := by
  unfold KO_X10_passTime_0 at ok
  unfold KF_X10_passTime_0 at hx
  refine c_aload_nQ dX10_passTime_0 rfl rfl ?_
  refine c_getS (C := RX10) (T := TX10) (N := 12) (ci := 8) (k := 6) ⟨rfl, inT10, by decide, fX10_12⟩ (by decide) (by decide) (by decide) dX10_passTime_1 (hS.k t_x0) (hS.r (c := 8) t_x0 rfl (by omega)) ?_
  refine c_dup dX10_passTime_4 (zcat_rf _) ?_
  refine c_getI (C := RX9) (T := TX9) (N := 13) (ci := 7) (k := 10) ⟨rfl, inT9, by decide, fX10_129⟩ (by decide) (by decide) (by decide) dX10_passTime_5 (hS.k (o86 t_x0)) ?_
  refine c_iconst (v := nI 1) dX10_passTime_8 (by decide) ?_
  refine c_iadd dX10_passTime_9 ?_
  refine c_putI (C := RX9) (T := TX9) (N := 13) (ci := 7) (k := 10) ⟨rfl, inT9, by decide, fX10_129⟩ ftT9 rfl (by decide) (by decide) (by decide) rfl rfl dX10_passTime_10 (hS.k (o86 t_x0)) ?_
  have hS := hS.I 10 (g + 11) ((cI S 10 (g + 11)) + (nI 1))
  have hM := hM.I 10 (g + 11) ((cI S 10 (g + 11)) + (nI 1))
  refine c_iconst (v := nI 0) dX10_passTime_13 (by decide) ?_
  refine c_istore_1 dX10_passTime_14 (by decide) (by simp [zok, zg, zcat_rf]) ?_
  refine c_iconst (v := nI 0) dX10_passTime_15 (by decide) ?_
  refine c_istore_2 dX10_passTime_16 (by decide) rfl ?_
  exact cX.cutz (kd_X10_passTime_17 hG hR hS hM t_x0 ok hx) ⟨rfl, rfl, rfl, trivial⟩
def k_X10_passTime (N g H T : Nat) (S : cS) (a0 : Nat) : Int32 × cS := KF_X10_passTime_0 N g H T a0 S
def p_X10_passTime (N g H T : Nat) (S : cS) (a0 : Nat) : Prop := KO_X10_passTime_0 N g H T a0 S
set_option maxRecDepth 100000 in
set_option maxHeartbeats 4000000 in
theorem kc_X10_passTime {G : zG} {o : cO} {u g H T N : Nat} {S : cS} (hG : zOK G) {a0 : Nat} (hS : St u g H T S) (t_x0 : isO g H 8 a0) (ok : p_X10_passTime N g H T S a0) : cCi G o dX10_passTime mX10_passTime [.ref a0] S (fun v S' => (v = (k_X10_passTime N g H T S a0).1 ∧ S' = (k_X10_passTime N g H T S a0).2) ∧ St u g H T S' ∧ Mono S S') := by
  refine cC.ofX rfl (by exact Nat.le_of_ble_eq_true rfl) ?_
  show cX G o dX10_passTime mX10_passTime 0 [some (va_rf (some a0)), none, none, none, none] [] S _
  exact cX.cutz (kb_X10_passTime_0 (X := fun F => F = k_X10_passTime N g H T S a0) hG (fun v S' h1 h2 h => ⟨v, rfl, ⟨by rw [← h], by rw [← h]⟩, h1, h2⟩) hS Mono.rfl' t_x0 ok rfl) ⟨rfl, trivial⟩
/-! X11_putInt -/
def KF_X11_putInt_46 (N g H T : Nat)  (S : cS) : cS := S
def KO_X11_putInt_46 (N g H T : Nat)  (S : cS) : Prop := True
set_option maxRecDepth 100000 in
set_option maxHeartbeats 4000000 in
theorem kb_X11_putInt_46 {G : zG} {o : cO} {g H T N : Nat} {S : cS} {S0 : cS} {Q : Option Value → cS → Prop} {X : cS → Prop} (hG : zOK G) (hR : ∀ S', St 1 g H T S' → Mono S0 S' → X S' → Q none S') (hS : St 1 g H T S) (hM : Mono S0 S) (ok : KO_X11_putInt_46 N g H T S) (hx : X (KF_X11_putInt_46 N g H T S)) : cX G o dX11_putInt mX11_putInt 46 [none, none, none] [] S Q := by
  unfold KO_X11_putInt_46 at ok
  unfold KF_X11_putInt_46 at hx
  exact c_return rfl dX11_putInt_46 (hR _ hS hM hx)
def KF_X11_putInt_40 (N g H T : Nat) (rec : Nat → Int32 → Int32 → cS → Nat × cS) (x0 : Nat) (x1 : Int32) (x2 : Int32) (S : cS) : Nat × cS := (rec x0 x1 (x2 + (-8)) S)
def KO_X11_putInt_40 (N g H T : Nat) (rok : Nat → Int32 → Int32 → cS → Prop) (x0 : Nat) (x1 : Int32) (x2 : Int32) (S : cS) : Prop := rok x0 x1 (x2 + (-8)) S
set_option maxRecDepth 100000 in
set_option maxHeartbeats 4000000 in
theorem kb_X11_putInt_40 {G : zG} {o : cO} {g H T N : Nat} {S : cS} {S0 : cS} {Q : Option Value → cS → Prop} {X : Nat × cS → Prop} (hG : zOK G) (hX0 : ∀ (S' : cS), St 1 g H T S' → Mono S0 S' → X (0, S') → cX G o dX11_putInt mX11_putInt 46 [none, none, none] [] S' Q) {rec : Nat → Int32 → Int32 → cS → Nat × cS} {rok : Nat → Int32 → Int32 → cS → Prop} (hrec : ∀ (x0 : Nat) (x1 : Int32) (x2 : Int32) (S : cS), St 1 g H T S → Mono S0 S → isO g H 9 x0 → rok x0 x1 x2 S → X (rec x0 x1 x2 S) → cX G o dX11_putInt mX11_putInt 3 [some (va_rf (some x0)), some (.int x1), some (.int x2)] [] S Q) {x0 : Nat} {x1 : Int32} {x2 : Int32} (hS : St 1 g H T S) (hM : Mono S0 S) (t_x0 : isO g H 9 x0) (ok : KO_X11_putInt_40 N g H T rok x0 x1 x2 S) (hx : X (KF_X11_putInt_40 N g H T rec x0 x1 x2 S)) : cX G o dX11_putInt mX11_putInt 40 [some (va_rf (some x0)), some (.int x1), some (.int x2)] [] S Q := by
  unfold KO_X11_putInt_40 at ok
  unfold KF_X11_putInt_40 at hx
  refine c_iinc_2 (v := (x2 + (-8))) dX11_putInt_40 rfl (by first | rfl | (congr 1)) (by decide) rfl ?_
  refine c_goto (tgt := 3) dX11_putInt_43 (by decide) ?_
  exact cX.cutz (hrec _ _ _ S hS hM t_x0 ok hx) ⟨rfl, rfl, rfl, trivial⟩
def KB_X11_putInt_3 (N g H T : Nat) (rec : Nat → Int32 → Int32 → cS → Nat × cS) (x0 : Nat) (x1 : Int32) (x2 : Int32) (S : cS) : Nat × cS := (if x2 < 0 then (0, S) else (if (nI 1000) ≤ (cI S 3 x0) then (0, S) else (KF_X11_putInt_40 N g H T rec x0 x1 x2 (csI (csA S (g + 1) (cI S 3 x0).toNatClampNeg (((x1 >>> (x2 &&& 31)).toInt8.toInt32).toInt8.toInt32)) 3 x0 ((cI (csA S (g + 1) (cI S 3 x0).toNatClampNeg (((x1 >>> (x2 &&& 31)).toInt8.toInt32).toInt8.toInt32)) 3 x0) + (nI 1))))))
def KOB_X11_putInt_3 (N g H T : Nat) (rok : Nat → Int32 → Int32 → cS → Prop) (x0 : Nat) (x1 : Int32) (x2 : Int32) (S : cS) : Prop := ((x2 < 0 → True) ∧ (¬ x2 < 0 → (((nI 1000) ≤ (cI S 3 x0) → True) ∧ (¬ (nI 1000) ≤ (cI S 3 x0) → (vp_in (cI S 3 x0) 1000) ∧ KO_X11_putInt_40 N g H T rok x0 x1 x2 (csI (csA S (g + 1) (cI S 3 x0).toNatClampNeg (((x1 >>> (x2 &&& 31)).toInt8.toInt32).toInt8.toInt32)) 3 x0 ((cI (csA S (g + 1) (cI S 3 x0).toNatClampNeg (((x1 >>> (x2 &&& 31)).toInt8.toInt32).toInt8.toInt32)) 3 x0) + (nI 1)))))))
set_option maxRecDepth 100000 in
set_option maxHeartbeats 4000000 in
theorem kbb_X11_putInt_3 {G : zG} {o : cO} {g H T N : Nat} {S : cS} {S0 : cS} {Q : Option Value → cS → Prop} {X : Nat × cS → Prop} (hG : zOK G) (hX0 : ∀ (S' : cS), St 1 g H T S' → Mono S0 S' → X (0, S') → cX G o dX11_putInt mX11_putInt 46 [none, none, none] [] S' Q) {rec : Nat → Int32 → Int32 → cS → Nat × cS} {rok : Nat → Int32 → Int32 → cS → Prop} (hrec : ∀ (x0 : Nat) (x1 : Int32) (x2 : Int32) (S : cS), St 1 g H T S → Mono S0 S → isO g H 9 x0 → rok x0 x1 x2 S → X (rec x0 x1 x2 S) → cX G o dX11_putInt mX11_putInt 3 [some (va_rf (some x0)), some (.int x1), some (.int x2)] [] S Q) {x0 : Nat} {x1 : Int32} {x2 : Int32} (hS : St 1 g H T S) (hM : Mono S0 S) (t_x0 : isO g H 9 x0) (ok : KOB_X11_putInt_3 N g H T rok x0 x1 x2 S) (hx : X (KB_X11_putInt_3 N g H T rec x0 x1 x2 S)) : cX G o dX11_putInt mX11_putInt 3 [some (va_rf (some x0)), some (.int x1), some (.int x2)] [] S Q := by
  unfold KOB_X11_putInt_3 at ok
  unfold KB_X11_putInt_3 at hx
  refine c_iload_n dX11_putInt_3 rfl rfl ?_
  refine c_if_lt (tgt := 46) dX11_putInt_4 (by decide) (fun c_4 => ?_) (fun c_4 => ?_)
  · have ok := ok.1 c_4
    have hx := xif_p c_4 hx
    exact cX.cutz (hX0 S hS hM  hx) trivial
  · have ok := ok.2 c_4
    have hx := xif_n c_4 hx
    refine c_aload_nQ dX11_putInt_7 rfl rfl ?_
    refine c_getI (C := RX11) (T := TX11) (N := 4) (ci := 9) (k := 3) ⟨rfl, inT11, by decide, fX11_26⟩ (by decide) (by decide) (by decide) dX11_putInt_8 (hS.k t_x0) ?_
    refine c_sipush (v := nI 1000) dX11_putInt_11 (by decide) ?_
    refine c_icmp_ge (tgt := 46) dX11_putInt_14 (by decide) (fun c_14 => ?_) (fun c_14 => ?_)
    · have ok := ok.1 c_14
      have hx := xif_p c_14 hx
      exact cX.cutz (hX0 S hS hM  hx) trivial
    · have ok := ok.2 c_14
      have hx := xif_n c_14 hx
      refine c_aload_nQ dX11_putInt_17 rfl rfl ?_
      refine c_getS (C := RX11) (T := TX11) (N := 4) (ci := 9) (k := 1) ⟨rfl, inT11, by decide, fX11_9⟩ (by decide) (by decide) (by decide) dX11_putInt_18 (hS.k t_x0) (hS.r (c := 9) t_x0 rfl (by omega)) ?_
      refine c_aload_nQ dX11_putInt_21 rfl rfl ?_
      refine c_getI (C := RX11) (T := TX11) (N := 4) (ci := 9) (k := 3) ⟨rfl, inT11, by decide, fX11_26⟩ (by decide) (by decide) (by decide) dX11_putInt_22 (hS.k t_x0) ?_
      refine c_iload_n dX11_putInt_25 rfl rfl ?_
      refine c_iload_n dX11_putInt_26 rfl rfl ?_
      refine c_ishr dX11_putInt_27 ?_
      refine c_i2b dX11_putInt_28 ?_
      refine c_bast dX11_putInt_29 ⟨(tK.cis (hS.rk (c := 9) (k := 1) t_x0 rfl (by omega)) (Option.some_ne_none _)), (vk_cast (hS.rl (c := 9) (k := 1) t_x0 rfl (by decide) (by omega)) ok.1)⟩ ?_
      have hS := hS.Ab (g + 1) (cI S 3 x0).toNatClampNeg ((x1 >>> (x2 &&& 31)).toInt8.toInt32)
      have hM := hM.A (g + 1) (cI S 3 x0).toNatClampNeg (((x1 >>> (x2 &&& 31)).toInt8.toInt32).toInt8.toInt32)
      have ok := ok.2
      refine c_aload_nQ dX11_putInt_30 rfl rfl ?_
      refine c_dup dX11_putInt_31 (zcat_rf _) ?_
      refine c_getI (C := RX11) (T := TX11) (N := 4) (ci := 9) (k := 3) ⟨rfl, inT11, by decide, fX11_26⟩ (by decide) (by decide) (by decide) dX11_putInt_32 (hS.k t_x0) ?_
      refine c_iconst (v := nI 1) dX11_putInt_35 (by decide) ?_
      refine c_iadd dX11_putInt_36 ?_
      refine c_putI (C := RX11) (T := TX11) (N := 4) (ci := 9) (k := 3) ⟨rfl, inT11, by decide, fX11_26⟩ ftT11 rfl (by decide) (by decide) (by decide) rfl rfl dX11_putInt_37 (hS.k t_x0) ?_
      have hS := hS.I 3 x0 ((cI (csA S (g + 1) (cI S 3 x0).toNatClampNeg (((x1 >>> (x2 &&& 31)).toInt8.toInt32).toInt8.toInt32)) 3 x0) + (nI 1))
      have hM := hM.I 3 x0 ((cI (csA S (g + 1) (cI S 3 x0).toNatClampNeg (((x1 >>> (x2 &&& 31)).toInt8.toInt32).toInt8.toInt32)) 3 x0) + (nI 1))
      exact cX.cutz (kb_X11_putInt_40 hG hX0 hrec hS hM t_x0 ok hx) ⟨rfl, rfl, rfl, trivial⟩
def KL_X11_putInt_3 (N g H T : Nat) : Nat → Nat → Int32 → Int32 → cS → Nat × cS
  | 0, x0, x1, x2, S => (0, S)
  | n + 1, x0, x1, x2, S => KB_X11_putInt_3 N g H T (KL_X11_putInt_3 N g H T n) x0 x1 x2 S
def KOL_X11_putInt_3 (N g H T : Nat) : Nat → Nat → Int32 → Int32 → cS → Prop
  | 0, _, _, _, _ => False
  | n + 1, x0, x1, x2, S => KOB_X11_putInt_3 N g H T (KOL_X11_putInt_3 N g H T n) x0 x1 x2 S
set_option maxRecDepth 100000 in
set_option maxHeartbeats 4000000 in
theorem kl_X11_putInt_3 {G : zG} {o : cO} {g H T N : Nat} {S0 : cS} {Q : Option Value → cS → Prop} {X : Nat × cS → Prop} (hG : zOK G) (hX0 : ∀ (S' : cS), St 1 g H T S' → Mono S0 S' → X (0, S') → cX G o dX11_putInt mX11_putInt 46 [none, none, none] [] S' Q) : ∀ (n : Nat) (x0 : Nat) (x1 : Int32) (x2 : Int32) (S : cS), St 1 g H T S → Mono S0 S → isO g H 9 x0 → KOL_X11_putInt_3 N g H T n x0 x1 x2 S → X (KL_X11_putInt_3 N g H T n x0 x1 x2 S) → cX G o dX11_putInt mX11_putInt 3 [some (va_rf (some x0)), some (.int x1), some (.int x2)] [] S Q := by
  intro n
  induction n with
  | zero => intro x0 x1 x2 S hS hM t_x0 ok; exact absurd ok id
  | succ n ih =>
    intro x0 x1 x2 S hS hM t_x0 ok hx
    exact kbb_X11_putInt_3 hG hX0 (rec := KL_X11_putInt_3 N g H T n) (rok := KOL_X11_putInt_3 N g H T n) (fun x0 x1 x2 S hS hM t_x0 ok hx => ih x0 x1 x2 S hS hM t_x0 ok hx) hS hM t_x0 ok hx
def KA_X11_putInt_3 (N g H T : Nat) (x0 : Nat) (x1 : Int32) (x2 : Int32) (S : cS) (z : Nat × cS) : cS := (KF_X11_putInt_46 N g H T z.2)
def KOA_X11_putInt_3 (N g H T : Nat) (x0 : Nat) (x1 : Int32) (x2 : Int32) (S : cS) (z : Nat × cS) : Prop := KO_X11_putInt_46 N g H T z.2
set_option maxRecDepth 100000 in
set_option maxHeartbeats 4000000 in
theorem kd_X11_putInt_3 {G : zG} {o : cO} {g H T N : Nat} {S : cS} {S0 : cS} {Q : Option Value → cS → Prop} {X : cS → Prop} (hG : zOK G) (hR : ∀ S', St 1 g H T S' → Mono S0 S' → X S' → Q none S') {x0 : Nat} {x1 : Int32} {x2 : Int32} (hS : St 1 g H T S) (hM : Mono S0 S) (t_x0 : isO g H 9 x0) (ok : KOL_X11_putInt_3 N g H T N x0 x1 x2 S ∧ KOA_X11_putInt_3 N g H T x0 x1 x2 S (KL_X11_putInt_3 N g H T N x0 x1 x2 S)) (hx : X (KA_X11_putInt_3 N g H T x0 x1 x2 S (KL_X11_putInt_3 N g H T N x0 x1 x2 S))) : cX G o dX11_putInt mX11_putInt 3 [some (va_rf (some x0)), some (.int x1), some (.int x2)] [] S Q := by
  refine kl_X11_putInt_3 hG ?_ N x0 x1 x2 S hS hM t_x0 ok.1 (X := fun z => KOA_X11_putInt_3 N g H T x0 x1 x2 S z ∧ X (KA_X11_putInt_3 N g H T x0 x1 x2 S z)) ⟨ok.2, hx⟩
  · intro S' hS hM hz
    obtain ⟨ok, hx⟩ := hz
    unfold KOA_X11_putInt_3 at ok
    unfold KA_X11_putInt_3 at hx
    exact cX.cutz (kb_X11_putInt_46 hG hR hS hM  ok hx) trivial
def KF_X11_putInt_0 (N g H T : Nat) (x0 : Nat) (x1 : Int32) (S : cS) : cS := (KA_X11_putInt_3 N g H T x0 x1 (nI 24) S (KL_X11_putInt_3 N g H T N x0 x1 (nI 24) S))
def KO_X11_putInt_0 (N g H T : Nat) (x0 : Nat) (x1 : Int32) (S : cS) : Prop := (KOL_X11_putInt_3 N g H T N x0 x1 (nI 24) S ∧ KOA_X11_putInt_3 N g H T x0 x1 (nI 24) S (KL_X11_putInt_3 N g H T N x0 x1 (nI 24) S))
set_option maxRecDepth 100000 in
set_option maxHeartbeats 4000000 in
theorem kb_X11_putInt_0 {G : zG} {o : cO} {g H T N : Nat} {S : cS} {S0 : cS} {Q : Option Value → cS → Prop} {X : cS → Prop} (hG : zOK G) (hR : ∀ S', St 1 g H T S' → Mono S0 S' → X S' → Q none S') {x0 : Nat} {x1 : Int32} (hS : St 1 g H T S) (hM : Mono S0 S) (t_x0 : isO g H 9 x0) (ok : KO_X11_putInt_0 N g H T x0 x1 S) (hx : X (KF_X11_putInt_0 N g H T x0 x1 S)) : cX G o dX11_putInt mX11_putInt 0 [some (va_rf (some x0)), some (.int x1), none] [] S Q := by
  unfold KO_X11_putInt_0 at ok
  unfold KF_X11_putInt_0 at hx
  refine c_bipush (v := nI 24) dX11_putInt_0 (by decide) ?_
  refine c_istore_2 dX11_putInt_2 (by decide) rfl ?_
  exact cX.cutz (kd_X11_putInt_3 hG hR hS hM t_x0 ok hx) ⟨rfl, rfl, rfl, trivial⟩
def k_X11_putInt (N g H T : Nat) (S : cS) (a0 : Nat) (x1 : Int32) : cS := KF_X11_putInt_0 N g H T a0 x1 S
def p_X11_putInt (N g H T : Nat) (S : cS) (a0 : Nat) (x1 : Int32) : Prop := KO_X11_putInt_0 N g H T a0 x1 S
set_option maxRecDepth 100000 in
set_option maxHeartbeats 4000000 in
theorem kc_X11_putInt {G : zG} {o : cO} {g H T N : Nat} {S : cS} (hG : zOK G) {a0 : Nat} {x1 : Int32} (hS : St 1 g H T S) (t_x0 : isO g H 9 a0) (ok : p_X11_putInt N g H T S a0 x1) : cCv G o dX11_putInt mX11_putInt [.ref a0, .int x1] S (fun S' => S' = k_X11_putInt N g H T S a0 x1 ∧ St 1 g H T S' ∧ Mono S S') := by
  refine cC.ofX rfl (by exact Nat.le_of_ble_eq_true rfl) ?_
  show cX G o dX11_putInt mX11_putInt 0 [some (va_rf (some a0)), some (.int x1), none] [] S _
  exact cX.cutz (kb_X11_putInt_0 (X := fun F => F = k_X11_putInt N g H T S a0 x1) hG (fun S' h1 h2 h => ⟨rfl, h, h1, h2⟩) hS Mono.rfl' t_x0 ok rfl) ⟨rfl, rfl, trivial⟩
/-! X11_feed -/
def KF_X11_feed_42 (N g H T : Nat)  (S : cS) : Int32 × cS := ((nI 1), S)
def KO_X11_feed_42 (N g H T : Nat)  (S : cS) : Prop := True
set_option maxRecDepth 100000 in
set_option maxHeartbeats 4000000 in
theorem kb_X11_feed_42 {G : zG} {o : cO} {g H T N : Nat} {S : cS} {S0 : cS} {Q : Option Value → cS → Prop} {X : Int32 × cS → Prop} (hG : zOK G) (hR : ∀ v S', St 1 g H T S' → Mono S0 S' → X (v, S') → Q (some (.int v)) S') (hS : St 1 g H T S) (hM : Mono S0 S) (ok : KO_X11_feed_42 N g H T S) (hx : X (KF_X11_feed_42 N g H T S)) : cX G o dX11_feed mX11_feed 42 [none, none, none, none, none, none] [] S Q := by
  unfold KO_X11_feed_42 at ok
  unfold KF_X11_feed_42 at hx
  refine c_iconst (v := nI 1) dX11_feed_42 (by decide) ?_
  exact c_ireturn rfl rfl dX11_feed_43 (hR _ _ hS hM hx)
def KF_X11_feed_36 (N g H T : Nat) (x0 : Nat) (x5 : Int32) (S : cS) : Int32 × cS := (KF_X11_feed_42 N g H T (k_X11_putInt N g H T S x0 x5))
def KO_X11_feed_36 (N g H T : Nat) (x0 : Nat) (x5 : Int32) (S : cS) : Prop := (p_X11_putInt N g H T S x0 x5) ∧ KO_X11_feed_42 N g H T (k_X11_putInt N g H T S x0 x5)
set_option maxRecDepth 100000 in
set_option maxHeartbeats 4000000 in
theorem kb_X11_feed_36 {G : zG} {o : cO} {g H T N : Nat} {S : cS} {S0 : cS} {Q : Option Value → cS → Prop} {X : Int32 × cS → Prop} (hG : zOK G) (hR : ∀ v S', St 1 g H T S' → Mono S0 S' → X (v, S') → Q (some (.int v)) S') {x0 : Nat} {x5 : Int32} (hS : St 1 g H T S) (hM : Mono S0 S) (t_x0 : isO g H 9 x0) (ok : KO_X11_feed_36 N g H T x0 x5 S) (hx : X (KF_X11_feed_36 N g H T x0 x5 S)) : cX G o dX11_feed mX11_feed 36 [some (va_rf (some x0)), none, none, none, none, some (.int x5)] [] S Q := by
  unfold KO_X11_feed_36 at ok
  unfold KF_X11_feed_36 at hx
  refine c_aload_nQ dX11_feed_36 rfl rfl ?_
  refine c_iload dX11_feed_37 rfl ?_
  refine c_V1vK (ci := 9) (rr := (RX11, TX11, 4)) (y' := mX11_putInt) dX11_feed_39 lX11_30 kX11_putInt ⟨by decide, by decide⟩ rfl rfl (by decide) (hS.k t_x0) (Nat.le_of_ble_eq_true rfl) (kc_X11_putInt hG hS t_x0 ok.1) (fun ⟨hS, hm_39⟩ => ?_)
  have hM := hM.trans hm_39
  have ok := ok.2
  exact cX.cutz (kb_X11_feed_42 hG hR hS hM  ok hx) trivial
def KF_X11_feed_30 (N g H T : Nat) (x0 : Nat) (x4 : Int32) (x5 : Int32) (S : cS) : Int32 × cS := (KF_X11_feed_36 N g H T x0 x5 (k_X11_putInt N g H T S x0 x4))
def KO_X11_feed_30 (N g H T : Nat) (x0 : Nat) (x4 : Int32) (x5 : Int32) (S : cS) : Prop := (p_X11_putInt N g H T S x0 x4) ∧ KO_X11_feed_36 N g H T x0 x5 (k_X11_putInt N g H T S x0 x4)
set_option maxRecDepth 100000 in
set_option maxHeartbeats 4000000 in
theorem kb_X11_feed_30 {G : zG} {o : cO} {g H T N : Nat} {S : cS} {S0 : cS} {Q : Option Value → cS → Prop} {X : Int32 × cS → Prop} (hG : zOK G) (hR : ∀ v S', St 1 g H T S' → Mono S0 S' → X (v, S') → Q (some (.int v)) S') {x0 : Nat} {x4 : Int32} {x5 : Int32} (hS : St 1 g H T S) (hM : Mono S0 S) (t_x0 : isO g H 9 x0) (ok : KO_X11_feed_30 N g H T x0 x4 x5 S) (hx : X (KF_X11_feed_30 N g H T x0 x4 x5 S)) : cX G o dX11_feed mX11_feed 30 [some (va_rf (some x0)), none, none, none, some (.int x4), some (.int x5)] [] S Q := by
  unfold KO_X11_feed_30 at ok
  unfold KF_X11_feed_30 at hx
  refine c_aload_nQ dX11_feed_30 rfl rfl ?_
  refine c_iload dX11_feed_31 rfl ?_
  refine c_V1vK (ci := 9) (rr := (RX11, TX11, 4)) (y' := mX11_putInt) dX11_feed_33 lX11_30 kX11_putInt ⟨by decide, by decide⟩ rfl rfl (by decide) (hS.k t_x0) (Nat.le_of_ble_eq_true rfl) (kc_X11_putInt hG hS t_x0 ok.1) (fun ⟨hS, hm_33⟩ => ?_)
  have hM := hM.trans hm_33
  have ok := ok.2
  exact cX.cutz (kb_X11_feed_36 hG hR hS hM t_x0 ok hx) ⟨rfl, rfl, trivial⟩
def KF_X11_feed_25 (N g H T : Nat) (x0 : Nat) (x3 : Int32) (x4 : Int32) (x5 : Int32) (S : cS) : Int32 × cS := (KF_X11_feed_30 N g H T x0 x4 x5 (k_X11_putInt N g H T S x0 x3))
def KO_X11_feed_25 (N g H T : Nat) (x0 : Nat) (x3 : Int32) (x4 : Int32) (x5 : Int32) (S : cS) : Prop := (p_X11_putInt N g H T S x0 x3) ∧ KO_X11_feed_30 N g H T x0 x4 x5 (k_X11_putInt N g H T S x0 x3)
set_option maxRecDepth 100000 in
set_option maxHeartbeats 4000000 in
theorem kb_X11_feed_25 {G : zG} {o : cO} {g H T N : Nat} {S : cS} {S0 : cS} {Q : Option Value → cS → Prop} {X : Int32 × cS → Prop} (hG : zOK G) (hR : ∀ v S', St 1 g H T S' → Mono S0 S' → X (v, S') → Q (some (.int v)) S') {x0 : Nat} {x3 : Int32} {x4 : Int32} {x5 : Int32} (hS : St 1 g H T S) (hM : Mono S0 S) (t_x0 : isO g H 9 x0) (ok : KO_X11_feed_25 N g H T x0 x3 x4 x5 S) (hx : X (KF_X11_feed_25 N g H T x0 x3 x4 x5 S)) : cX G o dX11_feed mX11_feed 25 [some (va_rf (some x0)), none, none, some (.int x3), some (.int x4), some (.int x5)] [] S Q := by
  unfold KO_X11_feed_25 at ok
  unfold KF_X11_feed_25 at hx
  refine c_aload_nQ dX11_feed_25 rfl rfl ?_
  refine c_iload_n dX11_feed_26 rfl rfl ?_
  refine c_V1vK (ci := 9) (rr := (RX11, TX11, 4)) (y' := mX11_putInt) dX11_feed_27 lX11_30 kX11_putInt ⟨by decide, by decide⟩ rfl rfl (by decide) (hS.k t_x0) (Nat.le_of_ble_eq_true rfl) (kc_X11_putInt hG hS t_x0 ok.1) (fun ⟨hS, hm_27⟩ => ?_)
  have hM := hM.trans hm_27
  have ok := ok.2
  exact cX.cutz (kb_X11_feed_30 hG hR hS hM t_x0 ok hx) ⟨rfl, rfl, rfl, trivial⟩
def KF_X11_feed_20 (N g H T : Nat) (x0 : Nat) (x2 : Int32) (x3 : Int32) (x4 : Int32) (x5 : Int32) (S : cS) : Int32 × cS := (KF_X11_feed_25 N g H T x0 x3 x4 x5 (k_X11_putInt N g H T S x0 x2))
def KO_X11_feed_20 (N g H T : Nat) (x0 : Nat) (x2 : Int32) (x3 : Int32) (x4 : Int32) (x5 : Int32) (S : cS) : Prop := (p_X11_putInt N g H T S x0 x2) ∧ KO_X11_feed_25 N g H T x0 x3 x4 x5 (k_X11_putInt N g H T S x0 x2)
set_option maxRecDepth 100000 in
set_option maxHeartbeats 4000000 in
theorem kb_X11_feed_20 {G : zG} {o : cO} {g H T N : Nat} {S : cS} {S0 : cS} {Q : Option Value → cS → Prop} {X : Int32 × cS → Prop} (hG : zOK G) (hR : ∀ v S', St 1 g H T S' → Mono S0 S' → X (v, S') → Q (some (.int v)) S') {x0 : Nat} {x2 : Int32} {x3 : Int32} {x4 : Int32} {x5 : Int32} (hS : St 1 g H T S) (hM : Mono S0 S) (t_x0 : isO g H 9 x0) (ok : KO_X11_feed_20 N g H T x0 x2 x3 x4 x5 S) (hx : X (KF_X11_feed_20 N g H T x0 x2 x3 x4 x5 S)) : cX G o dX11_feed mX11_feed 20 [some (va_rf (some x0)), none, some (.int x2), some (.int x3), some (.int x4), some (.int x5)] [] S Q := by
  unfold KO_X11_feed_20 at ok
  unfold KF_X11_feed_20 at hx
  refine c_aload_nQ dX11_feed_20 rfl rfl ?_
  refine c_iload_n dX11_feed_21 rfl rfl ?_
  refine c_V1vK (ci := 9) (rr := (RX11, TX11, 4)) (y' := mX11_putInt) dX11_feed_22 lX11_30 kX11_putInt ⟨by decide, by decide⟩ rfl rfl (by decide) (hS.k t_x0) (Nat.le_of_ble_eq_true rfl) (kc_X11_putInt hG hS t_x0 ok.1) (fun ⟨hS, hm_22⟩ => ?_)
  have hM := hM.trans hm_22
  have ok := ok.2
  exact cX.cutz (kb_X11_feed_25 hG hR hS hM t_x0 ok hx) ⟨rfl, rfl, rfl, rfl, trivial⟩
def KF_X11_feed_0 (N g H T : Nat) (x0 : Nat) (x1 : Int32) (x2 : Int32) (x3 : Int32) (x4 : Int32) (x5 : Int32) (S : cS) : Int32 × cS := (if ((cI S 3 x0) + (nI 20)) ≤ (nI 1000) then (KF_X11_feed_20 N g H T x0 x2 x3 x4 x5 (k_X11_putInt N g H T S x0 x1)) else ((nI 0), S))
def KO_X11_feed_0 (N g H T : Nat) (x0 : Nat) (x1 : Int32) (x2 : Int32) (x3 : Int32) (x4 : Int32) (x5 : Int32) (S : cS) : Prop := ((((cI S 3 x0) + (nI 20)) ≤ (nI 1000) → (p_X11_putInt N g H T S x0 x1) ∧ KO_X11_feed_20 N g H T x0 x2 x3 x4 x5 (k_X11_putInt N g H T S x0 x1)) ∧ (¬ ((cI S 3 x0) + (nI 20)) ≤ (nI 1000) → True))
set_option maxRecDepth 100000 in
set_option maxHeartbeats 4000000 in
theorem kb_X11_feed_0 {G : zG} {o : cO} {g H T N : Nat} {S : cS} {S0 : cS} {Q : Option Value → cS → Prop} {X : Int32 × cS → Prop} (hG : zOK G) (hR : ∀ v S', St 1 g H T S' → Mono S0 S' → X (v, S') → Q (some (.int v)) S') {x0 : Nat} {x1 : Int32} {x2 : Int32} {x3 : Int32} {x4 : Int32} {x5 : Int32} (hS : St 1 g H T S) (hM : Mono S0 S) (t_x0 : isO g H 9 x0) (ok : KO_X11_feed_0 N g H T x0 x1 x2 x3 x4 x5 S) (hx : X (KF_X11_feed_0 N g H T x0 x1 x2 x3 x4 x5 S)) : cX G o dX11_feed mX11_feed 0 [some (va_rf (some x0)), some (.int x1), some (.int x2), some (.int x3), some (.int x4), some (.int x5)] [] S Q := by
  unfold KO_X11_feed_0 at ok
  unfold KF_X11_feed_0 at hx
  refine c_aload_nQ dX11_feed_0 rfl rfl ?_
  refine c_getI (C := RX11) (T := TX11) (N := 4) (ci := 9) (k := 3) ⟨rfl, inT11, by decide, fX11_26⟩ (by decide) (by decide) (by decide) dX11_feed_1 (hS.k t_x0) ?_
  refine c_bipush (v := nI 20) dX11_feed_4 (by decide) ?_
  refine c_iadd dX11_feed_6 ?_
  refine c_sipush (v := nI 1000) dX11_feed_7 (by decide) ?_
  refine c_icmp_le (tgt := 15) dX11_feed_10 (by decide) (fun c_10 => ?_) (fun c_10 => ?_)
  · have ok := ok.1 c_10
    have hx := xif_p c_10 hx
    refine c_aload_nQ dX11_feed_15 rfl rfl ?_
    refine c_iload_n dX11_feed_16 rfl rfl ?_
    refine c_V1vK (ci := 9) (rr := (RX11, TX11, 4)) (y' := mX11_putInt) dX11_feed_17 lX11_30 kX11_putInt ⟨by decide, by decide⟩ rfl rfl (by decide) (hS.k t_x0) (Nat.le_of_ble_eq_true rfl) (kc_X11_putInt hG hS t_x0 ok.1) (fun ⟨hS, hm_17⟩ => ?_)
    have hM := hM.trans hm_17
    have ok := ok.2
    exact cX.cutz (kb_X11_feed_20 hG hR hS hM t_x0 ok hx) ⟨rfl, rfl, rfl, rfl, rfl, trivial⟩
  · have ok := ok.2 c_10
    have hx := xif_n c_10 hx
    refine c_iconst (v := nI 0) dX11_feed_13 (by decide) ?_
    exact c_ireturn rfl rfl dX11_feed_14 (hR _ _ hS hM hx)
def k_X11_feed (N g H T : Nat) (S : cS) (a0 : Nat) (x1 : Int32) (x2 : Int32) (x3 : Int32) (x4 : Int32) (x5 : Int32) : Int32 × cS := KF_X11_feed_0 N g H T a0 x1 x2 x3 x4 x5 S
def p_X11_feed (N g H T : Nat) (S : cS) (a0 : Nat) (x1 : Int32) (x2 : Int32) (x3 : Int32) (x4 : Int32) (x5 : Int32) : Prop := KO_X11_feed_0 N g H T a0 x1 x2 x3 x4 x5 S
set_option maxRecDepth 100000 in
set_option maxHeartbeats 4000000 in
theorem kc_X11_feed {G : zG} {o : cO} {g H T N : Nat} {S : cS} (hG : zOK G) {a0 : Nat} {x1 : Int32} {x2 : Int32} {x3 : Int32} {x4 : Int32} {x5 : Int32} (hS : St 1 g H T S) (t_x0 : isO g H 9 a0) (ok : p_X11_feed N g H T S a0 x1 x2 x3 x4 x5) : cCi G o dX11_feed mX11_feed [.ref a0, .int x1, .int x2, .int x3, .int x4, .int x5] S (fun v S' => (v = (k_X11_feed N g H T S a0 x1 x2 x3 x4 x5).1 ∧ S' = (k_X11_feed N g H T S a0 x1 x2 x3 x4 x5).2) ∧ St 1 g H T S' ∧ Mono S S') := by
  refine cC.ofX rfl (by exact Nat.le_of_ble_eq_true rfl) ?_
  show cX G o dX11_feed mX11_feed 0 [some (va_rf (some a0)), some (.int x1), some (.int x2), some (.int x3), some (.int x4), some (.int x5)] [] S _
  exact cX.cutz (kb_X11_feed_0 (X := fun F => F = k_X11_feed N g H T S a0 x1 x2 x3 x4 x5) hG (fun v S' h1 h2 h => ⟨v, rfl, ⟨by rw [← h], by rw [← h]⟩, h1, h2⟩) hS Mono.rfl' t_x0 ok rfl) ⟨rfl, rfl, rfl, rfl, rfl, rfl, trivial⟩
/-! X11_mayLie -/
def KF_X11_mayLie_60 (N g H T : Nat) (s0 : Int32) (S : cS) : Int32 := s0
def KO_X11_mayLie_60 (N g H T : Nat) (s0 : Int32) (S : cS) : Prop := narrow .boolean (.int s0) = .int s0
set_option maxRecDepth 100000 in
set_option maxHeartbeats 4000000 in
theorem kb_X11_mayLie_60 {G : zG} {o : cO} {g H T N : Nat} {S : cS} {Q : Option Value → cS → Prop} {X : Int32 → Prop} (hG : zOK G) (hR : ∀ v, X v → Q (some (.int v)) S) {s0 : Int32} (hS : St 1 g H T S) (ok : KO_X11_mayLie_60 N g H T s0 S) (hx : X (KF_X11_mayLie_60 N g H T s0 S)) : cX G o dX11_mayLie mX11_mayLie 60 [none, none, none] [.int s0] S Q := by
  unfold KO_X11_mayLie_60 at ok
  unfold KF_X11_mayLie_60 at hx
  exact c_ireturn rfl ok dX11_mayLie_60 (hR _ hx)
def KF_X11_mayLie_59 (N g H T : Nat)  (S : cS) : Int32 := (KF_X11_mayLie_60 N g H T (nI 0) S)
def KO_X11_mayLie_59 (N g H T : Nat)  (S : cS) : Prop := KO_X11_mayLie_60 N g H T (nI 0) S
set_option maxRecDepth 100000 in
set_option maxHeartbeats 4000000 in
theorem kb_X11_mayLie_59 {G : zG} {o : cO} {g H T N : Nat} {S : cS} {Q : Option Value → cS → Prop} {X : Int32 → Prop} (hG : zOK G) (hR : ∀ v, X v → Q (some (.int v)) S) (hS : St 1 g H T S) (ok : KO_X11_mayLie_59 N g H T S) (hx : X (KF_X11_mayLie_59 N g H T S)) : cX G o dX11_mayLie mX11_mayLie 59 [none, none, none] [] S Q := by
  unfold KO_X11_mayLie_59 at ok
  unfold KF_X11_mayLie_59 at hx
  refine c_iconst (v := nI 0) dX11_mayLie_59 (by decide) ?_
  exact cX.cutz (kb_X11_mayLie_60 hG hR hS  ok hx) trivial
def KF_X11_mayLie_0 (N g H T : Nat) (x0 : Nat) (x1 : Int32) (x2 : Int32) (S : cS) : Int32 := (if x1 < (cI S 2 (g + 8)) then (KF_X11_mayLie_59 N g H T S) else (if (cI S 1 (g + 8)) ≤ x1 then (KF_X11_mayLie_59 N g H T S) else (if x2 < 0 then (KF_X11_mayLie_59 N g H T S) else (if (cI S 1 (g + 8)) ≤ x2 then (KF_X11_mayLie_59 N g H T S) else (if x1 = x2 then (KF_X11_mayLie_59 N g H T S) else (if (k_X9_hasRoom N g H T S (g + 11)) = 0 then (KF_X11_mayLie_59 N g H T S) else (KF_X11_mayLie_60 N g H T (nI 1) S)))))))
def KO_X11_mayLie_0 (N g H T : Nat) (x0 : Nat) (x1 : Int32) (x2 : Int32) (S : cS) : Prop := ((x1 < (cI S 2 (g + 8)) → KO_X11_mayLie_59 N g H T S) ∧ (¬ x1 < (cI S 2 (g + 8)) → (((cI S 1 (g + 8)) ≤ x1 → KO_X11_mayLie_59 N g H T S) ∧ (¬ (cI S 1 (g + 8)) ≤ x1 → ((x2 < 0 → KO_X11_mayLie_59 N g H T S) ∧ (¬ x2 < 0 → (((cI S 1 (g + 8)) ≤ x2 → KO_X11_mayLie_59 N g H T S) ∧ (¬ (cI S 1 (g + 8)) ≤ x2 → ((x1 = x2 → KO_X11_mayLie_59 N g H T S) ∧ (¬ x1 = x2 → (p_X9_hasRoom N g H T S (g + 11)) ∧ (((k_X9_hasRoom N g H T S (g + 11)) = 0 → KO_X11_mayLie_59 N g H T S) ∧ (¬ (k_X9_hasRoom N g H T S (g + 11)) = 0 → KO_X11_mayLie_60 N g H T (nI 1) S))))))))))))
set_option maxRecDepth 100000 in
set_option maxHeartbeats 4000000 in
theorem kb_X11_mayLie_0 {G : zG} {o : cO} {g H T N : Nat} {S : cS} {Q : Option Value → cS → Prop} {X : Int32 → Prop} (hG : zOK G) (hR : ∀ v, X v → Q (some (.int v)) S) {x0 : Nat} {x1 : Int32} {x2 : Int32} (hS : St 1 g H T S) (t_x0 : isO g H 9 x0) (ok : KO_X11_mayLie_0 N g H T x0 x1 x2 S) (hx : X (KF_X11_mayLie_0 N g H T x0 x1 x2 S)) : cX G o dX11_mayLie mX11_mayLie 0 [some (va_rf (some x0)), some (.int x1), some (.int x2)] [] S Q := by
  unfold KO_X11_mayLie_0 at ok
  unfold KF_X11_mayLie_0 at hx
  refine c_iload_n dX11_mayLie_0 rfl rfl ?_
  refine c_aload_nQ dX11_mayLie_1 rfl rfl ?_
  refine c_getS (C := RX11) (T := TX11) (N := 4) (ci := 9) (k := 0) ⟨rfl, inT11, by decide, fX11_22⟩ (by decide) (by decide) (by decide) dX11_mayLie_2 (hS.k t_x0) (hS.r (c := 9) t_x0 rfl (by omega)) ?_
  refine c_getI (C := RX10) (T := TX10) (N := 12) (ci := 8) (k := 2) ⟨rfl, inT10, by decide, fX11_69⟩ (by decide) (by decide) (by decide) dX11_mayLie_5 (hS.k (o90 t_x0)) ?_
  refine c_icmp_lt (tgt := 59) dX11_mayLie_8 (by decide) (fun c_8 => ?_) (fun c_8 => ?_)
  · have ok := ok.1 c_8
    have hx := xif_p c_8 hx
    exact cX.cutz (kb_X11_mayLie_59 hG hR hS  ok hx) trivial
  · have ok := ok.2 c_8
    have hx := xif_n c_8 hx
    refine c_iload_n dX11_mayLie_11 rfl rfl ?_
    refine c_aload_nQ dX11_mayLie_12 rfl rfl ?_
    refine c_getS (C := RX11) (T := TX11) (N := 4) (ci := 9) (k := 0) ⟨rfl, inT11, by decide, fX11_22⟩ (by decide) (by decide) (by decide) dX11_mayLie_13 (hS.k t_x0) (hS.r (c := 9) t_x0 rfl (by omega)) ?_
    refine c_getI (C := RX10) (T := TX10) (N := 12) (ci := 8) (k := 1) ⟨rfl, inT10, by decide, fX11_87⟩ (by decide) (by decide) (by decide) dX11_mayLie_16 (hS.k (o90 t_x0)) ?_
    refine c_icmp_ge (tgt := 59) dX11_mayLie_19 (by decide) (fun c_19 => ?_) (fun c_19 => ?_)
    · have ok := ok.1 c_19
      have hx := xif_p c_19 hx
      exact cX.cutz (kb_X11_mayLie_59 hG hR hS  ok hx) trivial
    · have ok := ok.2 c_19
      have hx := xif_n c_19 hx
      refine c_iload_n dX11_mayLie_22 rfl rfl ?_
      refine c_if_lt (tgt := 59) dX11_mayLie_23 (by decide) (fun c_23 => ?_) (fun c_23 => ?_)
      · have ok := ok.1 c_23
        have hx := xif_p c_23 hx
        exact cX.cutz (kb_X11_mayLie_59 hG hR hS  ok hx) trivial
      · have ok := ok.2 c_23
        have hx := xif_n c_23 hx
        refine c_iload_n dX11_mayLie_26 rfl rfl ?_
        refine c_aload_nQ dX11_mayLie_27 rfl rfl ?_
        refine c_getS (C := RX11) (T := TX11) (N := 4) (ci := 9) (k := 0) ⟨rfl, inT11, by decide, fX11_22⟩ (by decide) (by decide) (by decide) dX11_mayLie_28 (hS.k t_x0) (hS.r (c := 9) t_x0 rfl (by omega)) ?_
        refine c_getI (C := RX10) (T := TX10) (N := 12) (ci := 8) (k := 1) ⟨rfl, inT10, by decide, fX11_87⟩ (by decide) (by decide) (by decide) dX11_mayLie_31 (hS.k (o90 t_x0)) ?_
        refine c_icmp_ge (tgt := 59) dX11_mayLie_34 (by decide) (fun c_34 => ?_) (fun c_34 => ?_)
        · have ok := ok.1 c_34
          have hx := xif_p c_34 hx
          exact cX.cutz (kb_X11_mayLie_59 hG hR hS  ok hx) trivial
        · have ok := ok.2 c_34
          have hx := xif_n c_34 hx
          refine c_iload_n dX11_mayLie_37 rfl rfl ?_
          refine c_iload_n dX11_mayLie_38 rfl rfl ?_
          refine c_icmp_eq (tgt := 59) dX11_mayLie_39 (by decide) (fun c_39 => ?_) (fun c_39 => ?_)
          · have ok := ok.1 c_39
            have hx := xif_p c_39 hx
            exact cX.cutz (kb_X11_mayLie_59 hG hR hS  ok hx) trivial
          · have ok := ok.2 c_39
            have hx := xif_n c_39 hx
            refine c_aload_nQ dX11_mayLie_42 rfl rfl ?_
            refine c_getS (C := RX11) (T := TX11) (N := 4) (ci := 9) (k := 0) ⟨rfl, inT11, by decide, fX11_22⟩ (by decide) (by decide) (by decide) dX11_mayLie_43 (hS.k t_x0) (hS.r (c := 9) t_x0 rfl (by omega)) ?_
            refine c_getS (C := RX10) (T := TX10) (N := 12) (ci := 8) (k := 6) ⟨rfl, inT10, by decide, fX11_38⟩ (by decide) (by decide) (by decide) dX11_mayLie_46 (hS.k (o90 t_x0)) (hS.r (c := 8) (o90 t_x0) rfl (by omega)) ?_
            refine c_V0iE (ci := 7) (rr := (RX9, TX9, 13)) (y' := mX9_hasRoom) dX11_mayLie_49 lX11_90 kX9_hasRoom ⟨by decide, by decide⟩ rfl rfl (by decide) (hS.k (o86 (o90 t_x0))) (Nat.le_of_ble_eq_true rfl) (kc_X9_hasRoom hG hS (o86 (o90 t_x0)) ok.1) ?_
            have ok := ok.2
            refine c_if_eq (tgt := 59) dX11_mayLie_52 (by decide) (fun c_52 => ?_) (fun c_52 => ?_)
            · have ok := ok.1 c_52
              have hx := xif_p c_52 hx
              exact cX.cutz (kb_X11_mayLie_59 hG hR hS  ok hx) trivial
            · have ok := ok.2 c_52
              have hx := xif_n c_52 hx
              refine c_iconst (v := nI 1) dX11_mayLie_55 (by decide) ?_
              refine c_goto (tgt := 60) dX11_mayLie_56 (by decide) ?_
              exact cX.cutz (kb_X11_mayLie_60 hG hR hS  ok hx) trivial
def k_X11_mayLie (N g H T : Nat) (S : cS) (a0 : Nat) (x1 : Int32) (x2 : Int32) : Int32 := KF_X11_mayLie_0 N g H T a0 x1 x2 S
def p_X11_mayLie (N g H T : Nat) (S : cS) (a0 : Nat) (x1 : Int32) (x2 : Int32) : Prop := KO_X11_mayLie_0 N g H T a0 x1 x2 S
set_option maxRecDepth 100000 in
set_option maxHeartbeats 4000000 in
theorem kc_X11_mayLie {G : zG} {o : cO} {g H T N : Nat} {S : cS} (hG : zOK G) {a0 : Nat} {x1 : Int32} {x2 : Int32} (hS : St 1 g H T S) (t_x0 : isO g H 9 a0) (ok : p_X11_mayLie N g H T S a0 x1 x2) : cCi G o dX11_mayLie mX11_mayLie [.ref a0, .int x1, .int x2] S (fun v S' => (v = k_X11_mayLie N g H T S a0 x1 x2 ∧ S' = S)) := by
  refine cC.ofX rfl (by exact Nat.le_of_ble_eq_true rfl) ?_
  show cX G o dX11_mayLie mX11_mayLie 0 [some (va_rf (some a0)), some (.int x1), some (.int x2)] [] S _
  exact cX.cutz (kb_X11_mayLie_0 (X := fun F => F = k_X11_mayLie N g H T S a0 x1 x2) hG (fun v h => ⟨v, rfl, h, rfl⟩) hS t_x0 ok rfl) ⟨rfl, rfl, rfl, trivial⟩
/-! X11_lie -/
def KF_X11_lie_142 (N g H T : Nat) (s0 : Int32) (S : cS) : Int32 × cS := (s0, S)
def KO_X11_lie_142 (N g H T : Nat) (s0 : Int32) (S : cS) : Prop := narrow .boolean (.int s0) = .int s0
set_option maxRecDepth 100000 in
set_option maxHeartbeats 4000000 in
theorem kb_X11_lie_142 {G : zG} {o : cO} {g H T N : Nat} {S : cS} {S0 : cS} {Q : Option Value → cS → Prop} {X : Int32 × cS → Prop} (hG : zOK G) (hR : ∀ v S', St 1 g H T S' → Mono S0 S' → X (v, S') → Q (some (.int v)) S') {s0 : Int32} (hS : St 1 g H T S) (hM : Mono S0 S) (ok : KO_X11_lie_142 N g H T s0 S) (hx : X (KF_X11_lie_142 N g H T s0 S)) : cX G o dX11_lie mX11_lie 142 [none, none, none, none, none, none] [.int s0] S Q := by
  unfold KO_X11_lie_142 at ok
  unfold KF_X11_lie_142 at hx
  exact c_ireturn rfl ok dX11_lie_142 (hR _ _ hS hM hx)
def KF_X11_lie_132 (N g H T : Nat) (x5 : Int32) (S : cS) : Int32 × cS := (if x5 = 0 then (KF_X11_lie_142 N g H T (nI 1) S) else (KF_X11_lie_142 N g H T (nI 0) S))
def KO_X11_lie_132 (N g H T : Nat) (x5 : Int32) (S : cS) : Prop := ((x5 = 0 → KO_X11_lie_142 N g H T (nI 1) S) ∧ (¬ x5 = 0 → KO_X11_lie_142 N g H T (nI 0) S))
set_option maxRecDepth 100000 in
set_option maxHeartbeats 4000000 in
theorem kb_X11_lie_132 {G : zG} {o : cO} {g H T N : Nat} {S : cS} {S0 : cS} {Q : Option Value → cS → Prop} {X : Int32 × cS → Prop} (hG : zOK G) (hR : ∀ v S', St 1 g H T S' → Mono S0 S' → X (v, S') → Q (some (.int v)) S') {x5 : Int32} (hS : St 1 g H T S) (hM : Mono S0 S) (ok : KO_X11_lie_132 N g H T x5 S) (hx : X (KF_X11_lie_132 N g H T x5 S)) : cX G o dX11_lie mX11_lie 132 [none, none, none, none, none, some (.int x5)] [] S Q := by
  unfold KO_X11_lie_132 at ok
  unfold KF_X11_lie_132 at hx
  refine c_iload dX11_lie_132 rfl ?_
  refine c_if_ne (tgt := 141) dX11_lie_134 (by decide) (fun c_134 => ?_) (fun c_134 => ?_)
  · have ok := ok.2 c_134
    have hx := xif_n c_134 hx
    refine c_iconst (v := nI 0) dX11_lie_141 (by decide) ?_
    exact cX.cutz (kb_X11_lie_142 hG hR hS hM  ok hx) trivial
  · have ok := ok.1 c_134
    have hx := xif_p c_134 hx
    refine c_iconst (v := nI 1) dX11_lie_137 (by decide) ?_
    refine c_goto (tgt := 142) dX11_lie_138 (by decide) ?_
    exact cX.cutz (kb_X11_lie_142 hG hR hS hM  ok hx) trivial
def KF_X11_lie_120 (N g H T : Nat) (x0 : Nat) (x4 : Option Nat) (x5 : Int32) (S : cS) : Int32 × cS := (KF_X11_lie_132 N g H T x5 (k_X9_drop N g H T S (g + 11) x4))
def KO_X11_lie_120 (N g H T : Nat) (x0 : Nat) (x4 : Option Nat) (x5 : Int32) (S : cS) : Prop := (p_X9_drop N g H T S (g + 11) x4) ∧ KO_X11_lie_132 N g H T x5 (k_X9_drop N g H T S (g + 11) x4)
set_option maxRecDepth 100000 in
set_option maxHeartbeats 4000000 in
theorem kb_X11_lie_120 {G : zG} {o : cO} {g H T N : Nat} {S : cS} {S0 : cS} {Q : Option Value → cS → Prop} {X : Int32 × cS → Prop} (hG : zOK G) (hR : ∀ v S', St 1 g H T S' → Mono S0 S' → X (v, S') → Q (some (.int v)) S') {x0 : Nat} {x4 : Option Nat} {x5 : Int32} (hS : St 1 g H T S) (hM : Mono S0 S) (t_x0 : isO g H 9 x0) (t_x4 : tK S 5 x4) (ok : KO_X11_lie_120 N g H T x0 x4 x5 S) (hx : X (KF_X11_lie_120 N g H T x0 x4 x5 S)) : cX G o dX11_lie mX11_lie 120 [some (va_rf (some x0)), none, none, none, some (va_rf x4), some (.int x5)] [] S Q := by
  unfold KO_X11_lie_120 at ok
  unfold KF_X11_lie_120 at hx
  refine c_aload_nQ dX11_lie_120 rfl rfl ?_
  refine c_getS (C := RX11) (T := TX11) (N := 4) (ci := 9) (k := 0) ⟨rfl, inT11, by decide, fX11_22⟩ (by decide) (by decide) (by decide) dX11_lie_121 (hS.k t_x0) (hS.r (c := 9) t_x0 rfl (by omega)) ?_
  refine c_getS (C := RX10) (T := TX10) (N := 12) (ci := 8) (k := 6) ⟨rfl, inT10, by decide, fX11_38⟩ (by decide) (by decide) (by decide) dX11_lie_124 (hS.k (o90 t_x0)) (hS.r (c := 8) (o90 t_x0) rfl (by omega)) ?_
  refine c_aloadQ dX11_lie_127 rfl ?_
  refine c_V1vK (ci := 7) (rr := (RX9, TX9, 13)) (y' := mX9_drop) dX11_lie_129 lX11_80 kX9_drop ⟨by decide, by decide⟩ rfl rfl (by decide) (hS.k (o86 (o90 t_x0))) (Nat.le_of_ble_eq_true rfl) (kc_X9_drop hG hS (o86 (o90 t_x0)) t_x4 ok.1) (fun ⟨hS, hm_129⟩ => ?_)
  have hM := hM.trans hm_129
  have ok := ok.2
  exact cX.cutz (kb_X11_lie_132 hG hR hS hM  ok hx) ⟨rfl, trivial⟩
def KF_X11_lie_115 (N g H T : Nat) (x0 : Nat) (x4 : Option Nat) (x5 : Int32) (S : cS) : Int32 × cS := (KF_X11_lie_120 N g H T x0 x4 x5 (csI S 3 x0 (nI 0)))
def KO_X11_lie_115 (N g H T : Nat) (x0 : Nat) (x4 : Option Nat) (x5 : Int32) (S : cS) : Prop := KO_X11_lie_120 N g H T x0 x4 x5 (csI S 3 x0 (nI 0))
set_option maxRecDepth 100000 in
set_option maxHeartbeats 4000000 in
theorem kb_X11_lie_115 {G : zG} {o : cO} {g H T N : Nat} {S : cS} {S0 : cS} {Q : Option Value → cS → Prop} {X : Int32 × cS → Prop} (hG : zOK G) (hR : ∀ v S', St 1 g H T S' → Mono S0 S' → X (v, S') → Q (some (.int v)) S') {x0 : Nat} {x4 : Option Nat} {x5 : Int32} (hS : St 1 g H T S) (hM : Mono S0 S) (t_x0 : isO g H 9 x0) (t_x4 : tK S 5 x4) (ok : KO_X11_lie_115 N g H T x0 x4 x5 S) (hx : X (KF_X11_lie_115 N g H T x0 x4 x5 S)) : cX G o dX11_lie mX11_lie 115 [some (va_rf (some x0)), none, none, none, some (va_rf x4), some (.int x5)] [] S Q := by
  unfold KO_X11_lie_115 at ok
  unfold KF_X11_lie_115 at hx
  refine c_aload_nQ dX11_lie_115 rfl rfl ?_
  refine c_iconst (v := nI 0) dX11_lie_116 (by decide) ?_
  refine c_putI (C := RX11) (T := TX11) (N := 4) (ci := 9) (k := 3) ⟨rfl, inT11, by decide, fX11_26⟩ ftT11 rfl (by decide) (by decide) (by decide) rfl rfl dX11_lie_117 (hS.k t_x0) ?_
  have hS := hS.I 3 x0 (nI 0)
  have hM := hM.I 3 x0 (nI 0)
  exact cX.cutz (kb_X11_lie_120 hG hR hS hM t_x0 (tK_I t_x4) ok hx) ⟨rfl, rfl, rfl, trivial⟩
def KF_X11_lie_94 (N g H T : Nat) (x0 : Nat) (x1 : Int32) (x2 : Int32) (x4 : Option Nat) (s0 : Int32) (S : cS) : Int32 × cS := (if s0 = 0 then (KF_X11_lie_115 N g H T x0 x4 s0 (k_X9_post N g H T S (g + 11) x1 x2 x4)) else (KF_X11_lie_120 N g H T x0 x4 s0 S))
def KO_X11_lie_94 (N g H T : Nat) (x0 : Nat) (x1 : Int32) (x2 : Int32) (x4 : Option Nat) (s0 : Int32) (S : cS) : Prop := ((s0 = 0 → (p_X9_post N g H T S (g + 11) x1 x2 x4) ∧ KO_X11_lie_115 N g H T x0 x4 s0 (k_X9_post N g H T S (g + 11) x1 x2 x4)) ∧ (¬ s0 = 0 → KO_X11_lie_120 N g H T x0 x4 s0 S))
set_option maxRecDepth 100000 in
set_option maxHeartbeats 4000000 in
theorem kb_X11_lie_94 {G : zG} {o : cO} {g H T N : Nat} {S : cS} {S0 : cS} {Q : Option Value → cS → Prop} {X : Int32 × cS → Prop} (hG : zOK G) (hR : ∀ v S', St 1 g H T S' → Mono S0 S' → X (v, S') → Q (some (.int v)) S') {x0 : Nat} {x1 : Int32} {x2 : Int32} {x4 : Option Nat} {s0 : Int32} (hS : St 1 g H T S) (hM : Mono S0 S) (t_x0 : isO g H 9 x0) (t_x4 : tK S 5 x4) (ok : KO_X11_lie_94 N g H T x0 x1 x2 x4 s0 S) (hx : X (KF_X11_lie_94 N g H T x0 x1 x2 x4 s0 S)) : cX G o dX11_lie mX11_lie 94 [some (va_rf (some x0)), some (.int x1), some (.int x2), none, some (va_rf x4), none] [.int s0] S Q := by
  unfold KO_X11_lie_94 at ok
  unfold KF_X11_lie_94 at hx
  refine c_istore_5 dX11_lie_94 (by decide) (by simp [zok, zg, zcat_rf]) ?_
  refine c_iload dX11_lie_96 rfl ?_
  refine c_if_ne (tgt := 120) dX11_lie_98 (by decide) (fun c_98 => ?_) (fun c_98 => ?_)
  · have ok := ok.2 c_98
    have hx := xif_n c_98 hx
    exact cX.cutz (kb_X11_lie_120 hG hR hS hM t_x0 t_x4 ok hx) ⟨rfl, rfl, rfl, trivial⟩
  · have ok := ok.1 c_98
    have hx := xif_p c_98 hx
    refine c_aload_nQ dX11_lie_101 rfl rfl ?_
    refine c_getS (C := RX11) (T := TX11) (N := 4) (ci := 9) (k := 0) ⟨rfl, inT11, by decide, fX11_22⟩ (by decide) (by decide) (by decide) dX11_lie_102 (hS.k t_x0) (hS.r (c := 9) t_x0 rfl (by omega)) ?_
    refine c_getS (C := RX10) (T := TX10) (N := 12) (ci := 8) (k := 6) ⟨rfl, inT10, by decide, fX11_38⟩ (by decide) (by decide) (by decide) dX11_lie_105 (hS.k (o90 t_x0)) (hS.r (c := 8) (o90 t_x0) rfl (by omega)) ?_
    refine c_iload_n dX11_lie_108 rfl rfl ?_
    refine c_iload_n dX11_lie_109 rfl rfl ?_
    refine c_aloadQ dX11_lie_110 rfl ?_
    refine c_V3vK (ci := 7) (rr := (RX9, TX9, 13)) (y' := mX9_post) dX11_lie_112 lX11_76 kX9_post ⟨by decide, by decide⟩ rfl rfl (by decide) (hS.k (o86 (o90 t_x0))) (Nat.le_of_ble_eq_true rfl) (kc_X9_post hG hS (o86 (o90 t_x0)) t_x4 ok.1) (fun ⟨hS, hm_112⟩ => ?_)
    have hM := hM.trans hm_112
    have ok := ok.2
    exact cX.cutz (kb_X11_lie_115 hG hR hS hM t_x0 (hm_112.tK t_x4 (by decide)) ok hx) ⟨rfl, rfl, rfl, trivial⟩
def KF_X11_lie_93 (N g H T : Nat) (x0 : Nat) (x1 : Int32) (x2 : Int32) (x4 : Option Nat) (S : cS) : Int32 × cS := (KF_X11_lie_94 N g H T x0 x1 x2 x4 (nI 0) S)
def KO_X11_lie_93 (N g H T : Nat) (x0 : Nat) (x1 : Int32) (x2 : Int32) (x4 : Option Nat) (S : cS) : Prop := KO_X11_lie_94 N g H T x0 x1 x2 x4 (nI 0) S
set_option maxRecDepth 100000 in
set_option maxHeartbeats 4000000 in
theorem kb_X11_lie_93 {G : zG} {o : cO} {g H T N : Nat} {S : cS} {S0 : cS} {Q : Option Value → cS → Prop} {X : Int32 × cS → Prop} (hG : zOK G) (hR : ∀ v S', St 1 g H T S' → Mono S0 S' → X (v, S') → Q (some (.int v)) S') {x0 : Nat} {x1 : Int32} {x2 : Int32} {x4 : Option Nat} (hS : St 1 g H T S) (hM : Mono S0 S) (t_x0 : isO g H 9 x0) (t_x4 : tK S 5 x4) (ok : KO_X11_lie_93 N g H T x0 x1 x2 x4 S) (hx : X (KF_X11_lie_93 N g H T x0 x1 x2 x4 S)) : cX G o dX11_lie mX11_lie 93 [some (va_rf (some x0)), some (.int x1), some (.int x2), none, some (va_rf x4), none] [] S Q := by
  unfold KO_X11_lie_93 at ok
  unfold KF_X11_lie_93 at hx
  refine c_iconst (v := nI 0) dX11_lie_93 (by decide) ?_
  exact cX.cutz (kb_X11_lie_94 hG hR hS hM t_x0 t_x4 ok hx) ⟨rfl, rfl, rfl, rfl, trivial⟩
def KF_X11_lie_64 (N g H T : Nat) (x0 : Nat) (x1 : Int32) (x2 : Int32) (x4 : Option Nat) (s0 : Int32) (S : cS) : Int32 × cS := (if s0 = 0 then (KF_X11_lie_93 N g H T x0 x1 x2 x4 S) else (if (k_X1_tellsBelow N g H T S (g + 9) x4 (cI S 2 (g + 8))) = 0 then (KF_X11_lie_93 N g H T x0 x1 x2 x4 S) else (KF_X11_lie_94 N g H T x0 x1 x2 x4 (nI 1) S)))
def KO_X11_lie_64 (N g H T : Nat) (x0 : Nat) (x1 : Int32) (x2 : Int32) (x4 : Option Nat) (s0 : Int32) (S : cS) : Prop := ((s0 = 0 → KO_X11_lie_93 N g H T x0 x1 x2 x4 S) ∧ (¬ s0 = 0 → (p_X1_tellsBelow N g H T S (g + 9) x4 (cI S 2 (g + 8))) ∧ (((k_X1_tellsBelow N g H T S (g + 9) x4 (cI S 2 (g + 8))) = 0 → KO_X11_lie_93 N g H T x0 x1 x2 x4 S) ∧ (¬ (k_X1_tellsBelow N g H T S (g + 9) x4 (cI S 2 (g + 8))) = 0 → KO_X11_lie_94 N g H T x0 x1 x2 x4 (nI 1) S))))
set_option maxRecDepth 100000 in
set_option maxHeartbeats 4000000 in
theorem kb_X11_lie_64 {G : zG} {o : cO} {g H T N : Nat} {S : cS} {S0 : cS} {Q : Option Value → cS → Prop} {X : Int32 × cS → Prop} (hG : zOK G) (hR : ∀ v S', St 1 g H T S' → Mono S0 S' → X (v, S') → Q (some (.int v)) S') {x0 : Nat} {x1 : Int32} {x2 : Int32} {x4 : Option Nat} {s0 : Int32} (hS : St 1 g H T S) (hM : Mono S0 S) (t_x0 : isO g H 9 x0) (t_x4 : tK S 5 x4) (ok : KO_X11_lie_64 N g H T x0 x1 x2 x4 s0 S) (hx : X (KF_X11_lie_64 N g H T x0 x1 x2 x4 s0 S)) : cX G o dX11_lie mX11_lie 64 [some (va_rf (some x0)), some (.int x1), some (.int x2), none, some (va_rf x4), none] [.int s0] S Q := by
  unfold KO_X11_lie_64 at ok
  unfold KF_X11_lie_64 at hx
  refine c_if_eq (tgt := 93) dX11_lie_64 (by decide) (fun c_64 => ?_) (fun c_64 => ?_)
  · have ok := ok.1 c_64
    have hx := xif_p c_64 hx
    exact cX.cutz (kb_X11_lie_93 hG hR hS hM t_x0 t_x4 ok hx) ⟨rfl, rfl, rfl, rfl, trivial⟩
  · have ok := ok.2 c_64
    have hx := xif_n c_64 hx
    refine c_aload_nQ dX11_lie_67 rfl rfl ?_
    refine c_getS (C := RX11) (T := TX11) (N := 4) (ci := 9) (k := 0) ⟨rfl, inT11, by decide, fX11_22⟩ (by decide) (by decide) (by decide) dX11_lie_68 (hS.k t_x0) (hS.r (c := 9) t_x0 rfl (by omega)) ?_
    refine c_getS (C := RX10) (T := TX10) (N := 12) (ci := 8) (k := 7) ⟨rfl, inT10, by decide, fX11_59⟩ (by decide) (by decide) (by decide) dX11_lie_71 (hS.k (o90 t_x0)) (hS.r (c := 8) (o90 t_x0) rfl (by omega)) ?_
    refine c_aloadQ dX11_lie_74 rfl ?_
    refine c_aload_nQ dX11_lie_76 rfl rfl ?_
    refine c_getS (C := RX11) (T := TX11) (N := 4) (ci := 9) (k := 0) ⟨rfl, inT11, by decide, fX11_22⟩ (by decide) (by decide) (by decide) dX11_lie_77 (hS.k t_x0) (hS.r (c := 9) t_x0 rfl (by omega)) ?_
    refine c_getI (C := RX10) (T := TX10) (N := 12) (ci := 8) (k := 2) ⟨rfl, inT10, by decide, fX11_69⟩ (by decide) (by decide) (by decide) dX11_lie_80 (hS.k (o90 t_x0)) ?_
    refine c_V2iE (ci := 1) (rr := (RX1, TX1, 3)) (y' := mX1_tellsBelow) dX11_lie_83 lX11_72 kX1_tellsBelow ⟨by decide, by decide⟩ rfl rfl (by decide) (hS.k (o87 (o90 t_x0))) (Nat.le_of_ble_eq_true rfl) (kc_X1_tellsBelow hG hS (o87 (o90 t_x0)) t_x4 ok.1) ?_
    have ok := ok.2
    refine c_if_eq (tgt := 93) dX11_lie_86 (by decide) (fun c_86 => ?_) (fun c_86 => ?_)
    · have ok := ok.1 c_86
      have hx := xif_p c_86 hx
      exact cX.cutz (kb_X11_lie_93 hG hR hS hM t_x0 t_x4 ok hx) ⟨rfl, rfl, rfl, rfl, trivial⟩
    · have ok := ok.2 c_86
      have hx := xif_n c_86 hx
      refine c_iconst (v := nI 1) dX11_lie_89 (by decide) ?_
      refine c_goto (tgt := 94) dX11_lie_90 (by decide) ?_
      exact cX.cutz (kb_X11_lie_94 hG hR hS hM t_x0 t_x4 ok hx) ⟨rfl, rfl, rfl, rfl, trivial⟩
def KF_X11_lie_52 (N g H T : Nat) (x0 : Nat) (x1 : Int32) (x2 : Int32) (x4 : Option Nat) (S : cS) : Int32 × cS := (KF_X11_lie_64 N g H T x0 x1 x2 x4 ((k_X1_look N g H T S (g + 9) x4).1) (k_X1_look N g H T S (g + 9) x4).2)
def KO_X11_lie_52 (N g H T : Nat) (x0 : Nat) (x1 : Int32) (x2 : Int32) (x4 : Option Nat) (S : cS) : Prop := (p_X1_look N g H T S (g + 9) x4) ∧ KO_X11_lie_64 N g H T x0 x1 x2 x4 ((k_X1_look N g H T S (g + 9) x4).1) (k_X1_look N g H T S (g + 9) x4).2
set_option maxRecDepth 100000 in
set_option maxHeartbeats 4000000 in
theorem kb_X11_lie_52 {G : zG} {o : cO} {g H T N : Nat} {S : cS} {S0 : cS} {Q : Option Value → cS → Prop} {X : Int32 × cS → Prop} (hG : zOK G) (hR : ∀ v S', St 1 g H T S' → Mono S0 S' → X (v, S') → Q (some (.int v)) S') {x0 : Nat} {x1 : Int32} {x2 : Int32} {x4 : Option Nat} (hS : St 1 g H T S) (hM : Mono S0 S) (t_x0 : isO g H 9 x0) (t_x4 : tK S 5 x4) (ok : KO_X11_lie_52 N g H T x0 x1 x2 x4 S) (hx : X (KF_X11_lie_52 N g H T x0 x1 x2 x4 S)) : cX G o dX11_lie mX11_lie 52 [some (va_rf (some x0)), some (.int x1), some (.int x2), none, some (va_rf x4), none] [] S Q := by
  unfold KO_X11_lie_52 at ok
  unfold KF_X11_lie_52 at hx
  refine c_aload_nQ dX11_lie_52 rfl rfl ?_
  refine c_getS (C := RX11) (T := TX11) (N := 4) (ci := 9) (k := 0) ⟨rfl, inT11, by decide, fX11_22⟩ (by decide) (by decide) (by decide) dX11_lie_53 (hS.k t_x0) (hS.r (c := 9) t_x0 rfl (by omega)) ?_
  refine c_getS (C := RX10) (T := TX10) (N := 12) (ci := 8) (k := 7) ⟨rfl, inT10, by decide, fX11_59⟩ (by decide) (by decide) (by decide) dX11_lie_56 (hS.k (o90 t_x0)) (hS.r (c := 8) (o90 t_x0) rfl (by omega)) ?_
  refine c_aloadQ dX11_lie_59 rfl ?_
  refine c_V1iK (ci := 1) (rr := (RX1, TX1, 3)) (y' := mX1_look) dX11_lie_61 lX11_63 kX1_look ⟨by decide, by decide⟩ rfl rfl (by decide) (hS.k (o87 (o90 t_x0))) (Nat.le_of_ble_eq_true rfl) (kc_X1_look hG hS (o87 (o90 t_x0)) t_x4 ok.1) (fun ⟨hS, hm_61⟩ => ?_)
  have hM := hM.trans hm_61
  have ok := ok.2
  exact cX.cutz (kb_X11_lie_64 hG hR hS hM t_x0 (hm_61.tK t_x4 (by decide)) ok hx) ⟨rfl, rfl, rfl, rfl, trivial⟩
def KF_X11_lie_35 (N g H T : Nat) (x0 : Nat) (x1 : Int32) (x2 : Int32) (x3 : Int32) (s0 : Option Nat) (S : cS) : Int32 × cS := (KF_X11_lie_52 N g H T x0 x1 x2 s0 (csArow S ((za s0) + 2) (va_cpy (cA S (g + 1)) (cA S ((za s0) + 2)) (nI 0).toNatClampNeg (nI 0).toNatClampNeg x3.toNatClampNeg)))
def KO_X11_lie_35 (N g H T : Nat) (x0 : Nat) (x1 : Int32) (x2 : Int32) (x3 : Int32) (s0 : Option Nat) (S : cS) : Prop := (¬ s0 = none) ∧ ((¬ (nI 0) < 0 ∧ ¬ (nI 0) < 0 ∧ ¬ x3 < 0) ∧ (nI 0).toNatClampNeg + x3.toNatClampNeg ≤ 1000 ∧ (nI 0).toNatClampNeg + x3.toNatClampNeg ≤ (cL S ((za s0) + 2))) ∧ KO_X11_lie_52 N g H T x0 x1 x2 s0 (csArow S ((za s0) + 2) (va_cpy (cA S (g + 1)) (cA S ((za s0) + 2)) (nI 0).toNatClampNeg (nI 0).toNatClampNeg x3.toNatClampNeg))
set_option maxRecDepth 100000 in
set_option maxHeartbeats 4000000 in
theorem kb_X11_lie_35 {G : zG} {o : cO} {g H T N : Nat} {S : cS} {S0 : cS} {Q : Option Value → cS → Prop} {X : Int32 × cS → Prop} (hG : zOK G) (hR : ∀ v S', St 1 g H T S' → Mono S0 S' → X (v, S') → Q (some (.int v)) S') {x0 : Nat} {x1 : Int32} {x2 : Int32} {x3 : Int32} {s0 : Option Nat} (hS : St 1 g H T S) (hM : Mono S0 S) (t_x0 : isO g H 9 x0) (t_s0 : tK S 5 s0) (ok : KO_X11_lie_35 N g H T x0 x1 x2 x3 s0 S) (hx : X (KF_X11_lie_35 N g H T x0 x1 x2 x3 s0 S)) : cX G o dX11_lie mX11_lie 35 [some (va_rf (some x0)), some (.int x1), some (.int x2), some (.int x3), none, none] [va_rf s0] S Q := by
  unfold KO_X11_lie_35 at ok
  unfold KF_X11_lie_35 at hx
  refine c_astore_4Q dX11_lie_35 (by decide) rfl ?_
  refine c_aload_nQ dX11_lie_37 rfl rfl ?_
  refine c_getS (C := RX11) (T := TX11) (N := 4) (ci := 9) (k := 1) ⟨rfl, inT11, by decide, fX11_9⟩ (by decide) (by decide) (by decide) dX11_lie_38 (hS.k t_x0) (hS.r (c := 9) t_x0 rfl (by omega)) ?_
  refine c_iconst (v := nI 0) dX11_lie_41 (by decide) ?_
  refine c_aloadQ dX11_lie_42 rfl ?_
  have nn_44 := ok.1
  have p_44 := hS.m0k t_s0 ok.1
  refine c_getS (C := RX5) (T := TX5) (N := 7) (ci := 4) (k := 0) ⟨rfl, inT5, by decide, fX11_48⟩ (by decide) (by decide) (by decide) dX11_lie_44 (tK.cis t_s0 ok.1) (hS.m0 t_s0 ok.1) ?_
  have ok := ok.2
  refine c_iconst (v := nI 0) dX11_lie_47 (by decide) ?_
  refine c_iload_n dX11_lie_48 rfl rfl ?_
  have tq_49 : tK S 20 (some (g + 1)) := tK_some (tK.cis (hS.rk (c := 9) (k := 1) t_x0 rfl (by omega)) (Option.some_ne_none _)).2
  refine c_copy0 hG dX11_lie_49 qX11_53 (by decide) (by decide) ⟨tK.cis (hS.rk (c := 9) (k := 1) t_x0 rfl (by omega)) (Option.some_ne_none _), tK.cis p_44 (Option.some_ne_none _), ok.1.1, (le_cast (hS.rl (c := 9) (k := 1) t_x0 rfl (by decide) (by omega)) ok.1.2.1), ok.1.2.2⟩ ?_
  have hS := hS.Ac ((za s0) + 2) (g + 1) (nI 0).toNatClampNeg (nI 0).toNatClampNeg x3.toNatClampNeg tq_49
  have hM := hM.Ar ((za s0) + 2) (va_cpy (cA S (g + 1)) (cA S ((za s0) + 2)) (nI 0).toNatClampNeg (nI 0).toNatClampNeg x3.toNatClampNeg)
  have ok := ok.2
  exact cX.cutz (kb_X11_lie_52 hG hR hS hM t_x0 (tK_Ar t_s0) ok hx) ⟨rfl, rfl, rfl, rfl, trivial⟩
def KF_X11_lie_22 (N g H T : Nat)  (S : cS) : Int32 × cS := ((nI 0), S)
def KO_X11_lie_22 (N g H T : Nat)  (S : cS) : Prop := True
set_option maxRecDepth 100000 in
set_option maxHeartbeats 4000000 in
theorem kb_X11_lie_22 {G : zG} {o : cO} {g H T N : Nat} {S : cS} {S0 : cS} {Q : Option Value → cS → Prop} {X : Int32 × cS → Prop} (hG : zOK G) (hR : ∀ v S', St 1 g H T S' → Mono S0 S' → X (v, S') → Q (some (.int v)) S') (hS : St 1 g H T S) (hM : Mono S0 S) (ok : KO_X11_lie_22 N g H T S) (hx : X (KF_X11_lie_22 N g H T S)) : cX G o dX11_lie mX11_lie 22 [none, none, none, none, none, none] [] S Q := by
  unfold KO_X11_lie_22 at ok
  unfold KF_X11_lie_22 at hx
  refine c_iconst (v := nI 0) dX11_lie_22 (by decide) ?_
  exact c_ireturn rfl rfl dX11_lie_23 (hR _ _ hS hM hx)
def KF_X11_lie_0 (N g H T : Nat) (x0 : Nat) (x1 : Int32) (x2 : Int32) (x3 : Int32) (S : cS) : Int32 × cS := (if (k_X11_mayLie N g H T S x0 x1 x2) = 0 then (KF_X11_lie_22 N g H T S) else (if x3 < (nI 1) then (KF_X11_lie_22 N g H T S) else (if x3 ≤ (cI S 3 x0) then (KF_X11_lie_35 N g H T x0 x1 x2 x3 ((k_X9_fresh N g H T S (g + 11) x3).1) (k_X9_fresh N g H T S (g + 11) x3).2) else (KF_X11_lie_22 N g H T S))))
def KO_X11_lie_0 (N g H T : Nat) (x0 : Nat) (x1 : Int32) (x2 : Int32) (x3 : Int32) (S : cS) : Prop := (p_X11_mayLie N g H T S x0 x1 x2) ∧ (((k_X11_mayLie N g H T S x0 x1 x2) = 0 → KO_X11_lie_22 N g H T S) ∧ (¬ (k_X11_mayLie N g H T S x0 x1 x2) = 0 → ((x3 < (nI 1) → KO_X11_lie_22 N g H T S) ∧ (¬ x3 < (nI 1) → ((x3 ≤ (cI S 3 x0) → (p_X9_fresh N g H T S (g + 11) x3) ∧ KO_X11_lie_35 N g H T x0 x1 x2 x3 ((k_X9_fresh N g H T S (g + 11) x3).1) (k_X9_fresh N g H T S (g + 11) x3).2) ∧ (¬ x3 ≤ (cI S 3 x0) → KO_X11_lie_22 N g H T S))))))
set_option maxRecDepth 100000 in
set_option maxHeartbeats 4000000 in
theorem kb_X11_lie_0 {G : zG} {o : cO} {g H T N : Nat} {S : cS} {S0 : cS} {Q : Option Value → cS → Prop} {X : Int32 × cS → Prop} (hG : zOK G) (hR : ∀ v S', St 1 g H T S' → Mono S0 S' → X (v, S') → Q (some (.int v)) S') {x0 : Nat} {x1 : Int32} {x2 : Int32} {x3 : Int32} (hS : St 1 g H T S) (hM : Mono S0 S) (t_x0 : isO g H 9 x0) (ok : KO_X11_lie_0 N g H T x0 x1 x2 x3 S) (hx : X (KF_X11_lie_0 N g H T x0 x1 x2 x3 S)) : cX G o dX11_lie mX11_lie 0 [some (va_rf (some x0)), some (.int x1), some (.int x2), some (.int x3), none, none] [] S Q := by
  unfold KO_X11_lie_0 at ok
  unfold KF_X11_lie_0 at hx
  refine c_aload_nQ dX11_lie_0 rfl rfl ?_
  refine c_iload_n dX11_lie_1 rfl rfl ?_
  refine c_iload_n dX11_lie_2 rfl rfl ?_
  refine c_V2iE (ci := 9) (rr := (RX11, TX11, 4)) (y' := mX11_mayLie) dX11_lie_3 lX11_34 kX11_mayLie ⟨by decide, by decide⟩ rfl rfl (by decide) (hS.k t_x0) (Nat.le_of_ble_eq_true rfl) (kc_X11_mayLie hG hS t_x0 ok.1) ?_
  have ok := ok.2
  refine c_if_eq (tgt := 22) dX11_lie_6 (by decide) (fun c_6 => ?_) (fun c_6 => ?_)
  · have ok := ok.1 c_6
    have hx := xif_p c_6 hx
    exact cX.cutz (kb_X11_lie_22 hG hR hS hM  ok hx) trivial
  · have ok := ok.2 c_6
    have hx := xif_n c_6 hx
    refine c_iload_n dX11_lie_9 rfl rfl ?_
    refine c_iconst (v := nI 1) dX11_lie_10 (by decide) ?_
    refine c_icmp_lt (tgt := 22) dX11_lie_11 (by decide) (fun c_11 => ?_) (fun c_11 => ?_)
    · have ok := ok.1 c_11
      have hx := xif_p c_11 hx
      exact cX.cutz (kb_X11_lie_22 hG hR hS hM  ok hx) trivial
    · have ok := ok.2 c_11
      have hx := xif_n c_11 hx
      refine c_iload_n dX11_lie_14 rfl rfl ?_
      refine c_aload_nQ dX11_lie_15 rfl rfl ?_
      refine c_getI (C := RX11) (T := TX11) (N := 4) (ci := 9) (k := 3) ⟨rfl, inT11, by decide, fX11_26⟩ (by decide) (by decide) (by decide) dX11_lie_16 (hS.k t_x0) ?_
      refine c_icmp_le (tgt := 24) dX11_lie_19 (by decide) (fun c_19 => ?_) (fun c_19 => ?_)
      · have ok := ok.1 c_19
        have hx := xif_p c_19 hx
        refine c_aload_nQ dX11_lie_24 rfl rfl ?_
        refine c_getS (C := RX11) (T := TX11) (N := 4) (ci := 9) (k := 0) ⟨rfl, inT11, by decide, fX11_22⟩ (by decide) (by decide) (by decide) dX11_lie_25 (hS.k t_x0) (hS.r (c := 9) t_x0 rfl (by omega)) ?_
        refine c_getS (C := RX10) (T := TX10) (N := 12) (ci := 8) (k := 6) ⟨rfl, inT10, by decide, fX11_38⟩ (by decide) (by decide) (by decide) dX11_lie_28 (hS.k (o90 t_x0)) (hS.r (c := 8) (o90 t_x0) rfl (by omega)) ?_
        refine c_iload_n dX11_lie_31 rfl rfl ?_
        refine c_V1qK (ci := 7) (rr := (RX9, TX9, 13)) (y' := mX9_fresh) dX11_lie_32 lX11_42 kX9_fresh ⟨by decide, by decide⟩ rfl rfl (by decide) (hS.k (o86 (o90 t_x0))) (Nat.le_of_ble_eq_true rfl) (kc_X9_fresh hG hS (o86 (o90 t_x0)) ok.1) (fun ⟨hS, hm_32, tv_32⟩ => ?_)
        have hM := hM.trans hm_32
        have ok := ok.2
        exact cX.cutz (kb_X11_lie_35 hG hR hS hM t_x0 tv_32 ok hx) ⟨rfl, rfl, rfl, rfl, trivial⟩
      · have ok := ok.2 c_19
        have hx := xif_n c_19 hx
        exact cX.cutz (kb_X11_lie_22 hG hR hS hM  ok hx) trivial
def k_X11_lie (N g H T : Nat) (S : cS) (a0 : Nat) (x1 : Int32) (x2 : Int32) (x3 : Int32) : Int32 × cS := KF_X11_lie_0 N g H T a0 x1 x2 x3 S
def p_X11_lie (N g H T : Nat) (S : cS) (a0 : Nat) (x1 : Int32) (x2 : Int32) (x3 : Int32) : Prop := KO_X11_lie_0 N g H T a0 x1 x2 x3 S
set_option maxRecDepth 100000 in
set_option maxHeartbeats 4000000 in
theorem kc_X11_lie {G : zG} {o : cO} {g H T N : Nat} {S : cS} (hG : zOK G) {a0 : Nat} {x1 : Int32} {x2 : Int32} {x3 : Int32} (hS : St 1 g H T S) (t_x0 : isO g H 9 a0) (ok : p_X11_lie N g H T S a0 x1 x2 x3) : cCi G o dX11_lie mX11_lie [.ref a0, .int x1, .int x2, .int x3] S (fun v S' => (v = (k_X11_lie N g H T S a0 x1 x2 x3).1 ∧ S' = (k_X11_lie N g H T S a0 x1 x2 x3).2) ∧ St 1 g H T S' ∧ Mono S S') := by
  refine cC.ofX rfl (by exact Nat.le_of_ble_eq_true rfl) ?_
  show cX G o dX11_lie mX11_lie 0 [some (va_rf (some a0)), some (.int x1), some (.int x2), some (.int x3), none, none] [] S _
  exact cX.cutz (kb_X11_lie_0 (X := fun F => F = k_X11_lie N g H T S a0 x1 x2 x3) hG (fun v S' h1 h2 h => ⟨v, rfl, ⟨by rw [← h], by rw [← h]⟩, h1, h2⟩) hS Mono.rfl' t_x0 ok rfl) ⟨rfl, rfl, rfl, rfl, trivial⟩
/-! X11_pass -/
def KF_X11_pass_43 (N g H T : Nat)  (S : cS) : Int32 × cS := ((nI 1), S)
def KO_X11_pass_43 (N g H T : Nat)  (S : cS) : Prop := True
set_option maxRecDepth 100000 in
set_option maxHeartbeats 4000000 in
theorem kb_X11_pass_43 {G : zG} {o : cO} {g H T N : Nat} {S : cS} {S0 : cS} {Q : Option Value → cS → Prop} {X : Int32 × cS → Prop} (hG : zOK G) (hR : ∀ v S', St 1 g H T S' → Mono S0 S' → X (v, S') → Q (some (.int v)) S') (hS : St 1 g H T S) (hM : Mono S0 S) (ok : KO_X11_pass_43 N g H T S) (hx : X (KF_X11_pass_43 N g H T S)) : cX G o dX11_pass mX11_pass 43 [none, none, none, none, none] [] S Q := by
  unfold KO_X11_pass_43 at ok
  unfold KF_X11_pass_43 at hx
  refine c_iconst (v := nI 1) dX11_pass_43 (by decide) ?_
  exact c_ireturn rfl rfl dX11_pass_44 (hR _ _ hS hM hx)
def KF_X11_pass_27 (N g H T : Nat)  (S : cS) : Int32 × cS := ((nI 0), S)
def KO_X11_pass_27 (N g H T : Nat)  (S : cS) : Prop := True
set_option maxRecDepth 100000 in
set_option maxHeartbeats 4000000 in
theorem kb_X11_pass_27 {G : zG} {o : cO} {g H T N : Nat} {S : cS} {S0 : cS} {Q : Option Value → cS → Prop} {X : Int32 × cS → Prop} (hG : zOK G) (hR : ∀ v S', St 1 g H T S' → Mono S0 S' → X (v, S') → Q (some (.int v)) S') (hS : St 1 g H T S) (hM : Mono S0 S) (ok : KO_X11_pass_27 N g H T S) (hx : X (KF_X11_pass_27 N g H T S)) : cX G o dX11_pass mX11_pass 27 [none, none, none, none, none] [] S Q := by
  unfold KO_X11_pass_27 at ok
  unfold KF_X11_pass_27 at hx
  refine c_iconst (v := nI 0) dX11_pass_27 (by decide) ?_
  exact c_ireturn rfl rfl dX11_pass_28 (hR _ _ hS hM hx)
def KF_X11_pass_0 (N g H T : Nat) (x0 : Nat) (x1 : Int32) (x2 : Int32) (x3 : Int32) (S : cS) : Int32 × cS := (if (k_X9_loadOf N g H T S (g + 11) x3) = none then (KF_X11_pass_27 N g H T S) else (if (k_X11_mayLie N g H T S x0 x1 x2) = 0 then (KF_X11_pass_27 N g H T S) else (KF_X11_pass_43 N g H T (k_X9_post N g H T S (g + 11) x1 x2 (k_X9_loadOf N g H T S (g + 11) x3)))))
def KO_X11_pass_0 (N g H T : Nat) (x0 : Nat) (x1 : Int32) (x2 : Int32) (x3 : Int32) (S : cS) : Prop := (p_X9_loadOf N g H T S (g + 11) x3) ∧ (((k_X9_loadOf N g H T S (g + 11) x3) = none → KO_X11_pass_27 N g H T S) ∧ (¬ (k_X9_loadOf N g H T S (g + 11) x3) = none → (p_X11_mayLie N g H T S x0 x1 x2) ∧ (((k_X11_mayLie N g H T S x0 x1 x2) = 0 → KO_X11_pass_27 N g H T S) ∧ (¬ (k_X11_mayLie N g H T S x0 x1 x2) = 0 → (p_X9_post N g H T S (g + 11) x1 x2 (k_X9_loadOf N g H T S (g + 11) x3)) ∧ KO_X11_pass_43 N g H T (k_X9_post N g H T S (g + 11) x1 x2 (k_X9_loadOf N g H T S (g + 11) x3))))))
set_option maxRecDepth 100000 in
set_option maxHeartbeats 4000000 in
theorem kb_X11_pass_0 {G : zG} {o : cO} {g H T N : Nat} {S : cS} {S0 : cS} {Q : Option Value → cS → Prop} {X : Int32 × cS → Prop} (hG : zOK G) (hR : ∀ v S', St 1 g H T S' → Mono S0 S' → X (v, S') → Q (some (.int v)) S') {x0 : Nat} {x1 : Int32} {x2 : Int32} {x3 : Int32} (hS : St 1 g H T S) (hM : Mono S0 S) (t_x0 : isO g H 9 x0) (ok : KO_X11_pass_0 N g H T x0 x1 x2 x3 S) (hx : X (KF_X11_pass_0 N g H T x0 x1 x2 x3 S)) : cX G o dX11_pass mX11_pass 0 [some (va_rf (some x0)), some (.int x1), some (.int x2), some (.int x3), none] [] S Q := by
  unfold KO_X11_pass_0 at ok
  unfold KF_X11_pass_0 at hx
  refine c_aload_nQ dX11_pass_0 rfl rfl ?_
  refine c_getS (C := RX11) (T := TX11) (N := 4) (ci := 9) (k := 0) ⟨rfl, inT11, by decide, fX11_22⟩ (by decide) (by decide) (by decide) dX11_pass_1 (hS.k t_x0) (hS.r (c := 9) t_x0 rfl (by omega)) ?_
  refine c_getS (C := RX10) (T := TX10) (N := 12) (ci := 8) (k := 6) ⟨rfl, inT10, by decide, fX11_38⟩ (by decide) (by decide) (by decide) dX11_pass_4 (hS.k (o90 t_x0)) (hS.r (c := 8) (o90 t_x0) rfl (by omega)) ?_
  refine c_iload_n dX11_pass_7 rfl rfl ?_
  refine c_V1qK (ci := 7) (rr := (RX9, TX9, 13)) (y' := mX9_loadOf) dX11_pass_8 lX11_84 kX9_loadOf ⟨by decide, by decide⟩ rfl rfl (by decide) (hS.k (o86 (o90 t_x0))) (Nat.le_of_ble_eq_true rfl) (kc_X9_loadOf hG hS (o86 (o90 t_x0)) ok.1) (fun tv_8 => ?_)
  have ok := ok.2
  refine c_astore_4Q dX11_pass_11 (by decide) rfl ?_
  refine c_aloadQ dX11_pass_13 rfl ?_
  refine c_ifnullI (tgt := 27) dX11_pass_15 (by decide) (fun c_15 => ?_) (fun c_15 => ?_)
  · have ok := ok.1 c_15
    have hx := xif_p c_15 hx
    exact cX.cutz (kb_X11_pass_27 hG hR hS hM  ok hx) trivial
  · have ok := ok.2 c_15
    have hx := xif_n c_15 hx
    refine c_aload_nQ dX11_pass_18 rfl rfl ?_
    refine c_iload_n dX11_pass_19 rfl rfl ?_
    refine c_iload_n dX11_pass_20 rfl rfl ?_
    refine c_V2iE (ci := 9) (rr := (RX11, TX11, 4)) (y' := mX11_mayLie) dX11_pass_21 lX11_34 kX11_mayLie ⟨by decide, by decide⟩ rfl rfl (by decide) (hS.k t_x0) (Nat.le_of_ble_eq_true rfl) (kc_X11_mayLie hG hS t_x0 ok.1) ?_
    have ok := ok.2
    refine c_if_ne (tgt := 29) dX11_pass_24 (by decide) (fun c_24 => ?_) (fun c_24 => ?_)
    · have ok := ok.2 c_24
      have hx := xif_n c_24 hx
      refine c_aload_nQ dX11_pass_29 rfl rfl ?_
      refine c_getS (C := RX11) (T := TX11) (N := 4) (ci := 9) (k := 0) ⟨rfl, inT11, by decide, fX11_22⟩ (by decide) (by decide) (by decide) dX11_pass_30 (hS.k t_x0) (hS.r (c := 9) t_x0 rfl (by omega)) ?_
      refine c_getS (C := RX10) (T := TX10) (N := 12) (ci := 8) (k := 6) ⟨rfl, inT10, by decide, fX11_38⟩ (by decide) (by decide) (by decide) dX11_pass_33 (hS.k (o90 t_x0)) (hS.r (c := 8) (o90 t_x0) rfl (by omega)) ?_
      refine c_iload_n dX11_pass_36 rfl rfl ?_
      refine c_iload_n dX11_pass_37 rfl rfl ?_
      refine c_aloadQ dX11_pass_38 rfl ?_
      refine c_V3vK (ci := 7) (rr := (RX9, TX9, 13)) (y' := mX9_post) dX11_pass_40 lX11_76 kX9_post ⟨by decide, by decide⟩ rfl rfl (by decide) (hS.k (o86 (o90 t_x0))) (Nat.le_of_ble_eq_true rfl) (kc_X9_post hG hS (o86 (o90 t_x0)) tv_8 ok.1) (fun ⟨hS, hm_40⟩ => ?_)
      have hM := hM.trans hm_40
      have ok := ok.2
      exact cX.cutz (kb_X11_pass_43 hG hR hS hM  ok hx) trivial
    · have ok := ok.1 c_24
      have hx := xif_p c_24 hx
      exact cX.cutz (kb_X11_pass_27 hG hR hS hM  ok hx) trivial
def k_X11_pass (N g H T : Nat) (S : cS) (a0 : Nat) (x1 : Int32) (x2 : Int32) (x3 : Int32) : Int32 × cS := KF_X11_pass_0 N g H T a0 x1 x2 x3 S
def p_X11_pass (N g H T : Nat) (S : cS) (a0 : Nat) (x1 : Int32) (x2 : Int32) (x3 : Int32) : Prop := KO_X11_pass_0 N g H T a0 x1 x2 x3 S
set_option maxRecDepth 100000 in
set_option maxHeartbeats 4000000 in
theorem kc_X11_pass {G : zG} {o : cO} {g H T N : Nat} {S : cS} (hG : zOK G) {a0 : Nat} {x1 : Int32} {x2 : Int32} {x3 : Int32} (hS : St 1 g H T S) (t_x0 : isO g H 9 a0) (ok : p_X11_pass N g H T S a0 x1 x2 x3) : cCi G o dX11_pass mX11_pass [.ref a0, .int x1, .int x2, .int x3] S (fun v S' => (v = (k_X11_pass N g H T S a0 x1 x2 x3).1 ∧ S' = (k_X11_pass N g H T S a0 x1 x2 x3).2) ∧ St 1 g H T S' ∧ Mono S S') := by
  refine cC.ofX rfl (by exact Nat.le_of_ble_eq_true rfl) ?_
  show cX G o dX11_pass mX11_pass 0 [some (va_rf (some a0)), some (.int x1), some (.int x2), some (.int x3), none] [] S _
  exact cX.cutz (kb_X11_pass_0 (X := fun F => F = k_X11_pass N g H T S a0 x1 x2 x3) hG (fun v S' h1 h2 h => ⟨v, rfl, ⟨by rw [← h], by rw [← h]⟩, h1, h2⟩) hS Mono.rfl' t_x0 ok rfl) ⟨rfl, rfl, rfl, rfl, trivial⟩
/-! X11_behindEvidences -/
def KF_X11_behindEvidences_68 (N g H T : Nat) (x4 : Int32) (S : cS) : Int32 := x4
def KO_X11_behindEvidences_68 (N g H T : Nat) (x4 : Int32) (S : cS) : Prop := True
set_option maxRecDepth 100000 in
set_option maxHeartbeats 4000000 in
theorem kb_X11_behindEvidences_68 {G : zG} {o : cO} {g H T N : Nat} {S : cS} {Q : Option Value → cS → Prop} {X : Int32 → Prop} (hG : zOK G) (hR : ∀ v, X v → Q (some (.int v)) S) {x4 : Int32} (hS : St 1 g H T S) (ok : KO_X11_behindEvidences_68 N g H T x4 S) (hx : X (KF_X11_behindEvidences_68 N g H T x4 S)) : cX G o dX11_behindEvidences mX11_behindEvidences 68 [none, none, none, none, some (.int x4), none, none] [] S Q := by
  unfold KO_X11_behindEvidences_68 at ok
  unfold KF_X11_behindEvidences_68 at hx
  refine c_iload dX11_behindEvidences_68 rfl ?_
  exact c_ireturn rfl rfl dX11_behindEvidences_70 (hR _ hx)
def KF_X11_behindEvidences_53 (N g H T : Nat)  (S : cS) : Int32 := (-1)
def KO_X11_behindEvidences_53 (N g H T : Nat)  (S : cS) : Prop := True
set_option maxRecDepth 100000 in
set_option maxHeartbeats 4000000 in
theorem kb_X11_behindEvidences_53 {G : zG} {o : cO} {g H T N : Nat} {S : cS} {Q : Option Value → cS → Prop} {X : Int32 → Prop} (hG : zOK G) (hR : ∀ v, X v → Q (some (.int v)) S) (hS : St 1 g H T S) (ok : KO_X11_behindEvidences_53 N g H T S) (hx : X (KF_X11_behindEvidences_53 N g H T S)) : cX G o dX11_behindEvidences mX11_behindEvidences 53 [none, none, none, none, none, none, none] [] S Q := by
  unfold KO_X11_behindEvidences_53 at ok
  unfold KF_X11_behindEvidences_53 at hx
  refine c_iconst (v := -1) dX11_behindEvidences_53 (by decide) ?_
  exact c_ireturn rfl rfl dX11_behindEvidences_54 (hR _ hx)
def KB_X11_behindEvidences_30 (N g H T : Nat) (rec : Nat → Int32 → Int32 → Int32 → Int32 → Nat × Int32 × Unit) (x0 : Nat) (x2 : Int32) (x3 : Int32) (x4 : Int32) (x5 : Int32) (S : cS) : Nat × Int32 × Unit := (if x3 ≤ x5 then (1, x4, ()) else (if 0 ≤ (k_X1_evidenceSize N g H T S (some (g + 1)) x4 x2) then (rec x0 x2 x3 (x4 + (k_X1_evidenceSize N g H T S (some (g + 1)) x4 x2)) (x5 + nI 1)) else (0, 0, ())))
def KOB_X11_behindEvidences_30 (N g H T : Nat) (rok : Nat → Int32 → Int32 → Int32 → Int32 → Prop) (x0 : Nat) (x2 : Int32) (x3 : Int32) (x4 : Int32) (x5 : Int32) (S : cS) : Prop := ((x3 ≤ x5 → True) ∧ (¬ x3 ≤ x5 → (p_X1_evidenceSize N g H T S (some (g + 1)) x4 x2) ∧ ((0 ≤ (k_X1_evidenceSize N g H T S (some (g + 1)) x4 x2) → rok x0 x2 x3 (x4 + (k_X1_evidenceSize N g H T S (some (g + 1)) x4 x2)) (x5 + nI 1)) ∧ (¬ 0 ≤ (k_X1_evidenceSize N g H T S (some (g + 1)) x4 x2) → True))))
set_option maxRecDepth 100000 in
set_option maxHeartbeats 4000000 in
theorem kbb_X11_behindEvidences_30 {G : zG} {o : cO} {g H T N : Nat} {S : cS} {Q : Option Value → cS → Prop} {X : Nat × Int32 × Unit → Prop} (hG : zOK G) (hX0 : ∀ (x4 : Int32) , X (0, x4, ()) → cX G o dX11_behindEvidences mX11_behindEvidences 53 [none, none, none, none, none, none, none] [] S Q) (hX1 : ∀ (x4 : Int32) , X (1, x4, ()) → cX G o dX11_behindEvidences mX11_behindEvidences 68 [none, none, none, none, some (.int x4), none, none] [] S Q) {rec : Nat → Int32 → Int32 → Int32 → Int32 → Nat × Int32 × Unit} {rok : Nat → Int32 → Int32 → Int32 → Int32 → Prop} (hrec : ∀ (x0 : Nat) (x2 : Int32) (x3 : Int32) (x4 : Int32) (x5 : Int32), isO g H 9 x0 → rok x0 x2 x3 x4 x5 → X (rec x0 x2 x3 x4 x5) → cX G o dX11_behindEvidences mX11_behindEvidences 30 [some (va_rf (some x0)), none, some (.int x2), some (.int x3), some (.int x4), some (.int x5), none] [] S Q) {x0 : Nat} {x2 : Int32} {x3 : Int32} {x4 : Int32} {x5 : Int32} (hS : St 1 g H T S) (t_x0 : isO g H 9 x0) (ok : KOB_X11_behindEvidences_30 N g H T rok x0 x2 x3 x4 x5 S) (hx : X (KB_X11_behindEvidences_30 N g H T rec x0 x2 x3 x4 x5 S)) : cX G o dX11_behindEvidences mX11_behindEvidences 30 [some (va_rf (some x0)), none, some (.int x2), some (.int x3), some (.int x4), some (.int x5), none] [] S Q := by
  unfold KOB_X11_behindEvidences_30 at ok
  unfold KB_X11_behindEvidences_30 at hx
  refine c_iload dX11_behindEvidences_30 rfl ?_
  refine c_iload_n dX11_behindEvidences_32 rfl rfl ?_
  refine c_icmp_ge (tgt := 68) dX11_behindEvidences_33 (by decide) (fun c_33 => ?_) (fun c_33 => ?_)
  · have ok := ok.1 c_33
    have hx := xif_p c_33 hx
    exact cX.cutz (hX1 _   hx) ⟨rfl, trivial⟩
  · have ok := ok.2 c_33
    have hx := xif_n c_33 hx
    refine c_aload_nQ dX11_behindEvidences_36 rfl rfl ?_
    refine c_getS (C := RX11) (T := TX11) (N := 4) (ci := 9) (k := 1) ⟨rfl, inT11, by decide, fX11_9⟩ (by decide) (by decide) (by decide) dX11_behindEvidences_37 (hS.k t_x0) (hS.r (c := 9) t_x0 rfl (by omega)) ?_
    refine c_iload dX11_behindEvidences_40 rfl ?_
    refine c_iload_n dX11_behindEvidences_42 rfl rfl ?_
    refine c_S3iE (y' := mX1_evidenceSize) dX11_behindEvidences_43 lX11_138 kX1_evidenceSize ⟨by decide, by decide⟩ (Nat.le_of_ble_eq_true rfl) (kc_X1_evidenceSize hG hS (hS.rk (c := 9) (k := 1) t_x0 rfl (by omega)) ok.1) ?_
    have ok := ok.2
    refine c_istore_6 dX11_behindEvidences_46 (by decide) rfl ?_
    refine c_iload dX11_behindEvidences_48 rfl ?_
    refine c_if_ge (tgt := 55) dX11_behindEvidences_50 (by decide) (fun c_50 => ?_) (fun c_50 => ?_)
    · have ok := ok.1 c_50
      have hx := xif_p c_50 hx
      refine c_iload dX11_behindEvidences_55 rfl ?_
      refine c_iload dX11_behindEvidences_57 rfl ?_
      refine c_iadd dX11_behindEvidences_59 ?_
      refine c_istore_4 dX11_behindEvidences_60 (by decide) rfl ?_
      refine c_iinc_5 (v := (x5 + nI 1)) dX11_behindEvidences_62 rfl (by first | rfl | (congr 1)) (by decide) rfl ?_
      refine c_goto (tgt := 30) dX11_behindEvidences_65 (by decide) ?_
      exact cX.cutz (hrec _ _ _ _ _ t_x0 ok hx) ⟨rfl, rfl, rfl, rfl, rfl, trivial⟩
    · have ok := ok.2 c_50
      have hx := xif_n c_50 hx
      exact cX.cutz (hX0 _   hx) trivial
def KL_X11_behindEvidences_30 (N g H T : Nat) : Nat → Nat → Int32 → Int32 → Int32 → Int32 → cS → Nat × Int32 × Unit
  | 0, x0, x2, x3, x4, x5, S => (0, 0, ())
  | n + 1, x0, x2, x3, x4, x5, S => KB_X11_behindEvidences_30 N g H T (fun x0 x2 x3 x4 x5 => KL_X11_behindEvidences_30 N g H T n x0 x2 x3 x4 x5 S) x0 x2 x3 x4 x5 S
def KOL_X11_behindEvidences_30 (N g H T : Nat) : Nat → Nat → Int32 → Int32 → Int32 → Int32 → cS → Prop
  | 0, _, _, _, _, _, _ => False
  | n + 1, x0, x2, x3, x4, x5, S => KOB_X11_behindEvidences_30 N g H T (fun x0 x2 x3 x4 x5 => KOL_X11_behindEvidences_30 N g H T n x0 x2 x3 x4 x5 S) x0 x2 x3 x4 x5 S
set_option maxRecDepth 100000 in
set_option maxHeartbeats 4000000 in
theorem kl_X11_behindEvidences_30 {G : zG} {o : cO} {g H T N : Nat} {S : cS} {Q : Option Value → cS → Prop} {X : Nat × Int32 × Unit → Prop} (hG : zOK G) (hX0 : ∀ (x4 : Int32) , X (0, x4, ()) → cX G o dX11_behindEvidences mX11_behindEvidences 53 [none, none, none, none, none, none, none] [] S Q) (hX1 : ∀ (x4 : Int32) , X (1, x4, ()) → cX G o dX11_behindEvidences mX11_behindEvidences 68 [none, none, none, none, some (.int x4), none, none] [] S Q) (hS : St 1 g H T S) : ∀ (n : Nat) (x0 : Nat) (x2 : Int32) (x3 : Int32) (x4 : Int32) (x5 : Int32) , isO g H 9 x0 → KOL_X11_behindEvidences_30 N g H T n x0 x2 x3 x4 x5 S → X (KL_X11_behindEvidences_30 N g H T n x0 x2 x3 x4 x5 S) → cX G o dX11_behindEvidences mX11_behindEvidences 30 [some (va_rf (some x0)), none, some (.int x2), some (.int x3), some (.int x4), some (.int x5), none] [] S Q := by
  intro n
  induction n with
  | zero => intro x0 x2 x3 x4 x5 t_x0 ok; exact absurd ok id
  | succ n ih =>
    intro x0 x2 x3 x4 x5 t_x0 ok hx
    exact kbb_X11_behindEvidences_30 hG hX0 hX1 (rec := fun x0 x2 x3 x4 x5 => KL_X11_behindEvidences_30 N g H T n x0 x2 x3 x4 x5 S) (rok := fun x0 x2 x3 x4 x5 => KOL_X11_behindEvidences_30 N g H T n x0 x2 x3 x4 x5 S) (fun x0 x2 x3 x4 x5 t_x0 ok hx => ih x0 x2 x3 x4 x5 t_x0 ok hx) hS t_x0 ok hx
def KA_X11_behindEvidences_30 (N g H T : Nat) (x0 : Nat) (x2 : Int32) (x3 : Int32) (x4 : Int32) (x5 : Int32) (S : cS) (z : Nat × Int32 × Unit) : Int32 := (if z.1 = 0 then (KF_X11_behindEvidences_53 N g H T S) else (KF_X11_behindEvidences_68 N g H T (z.2.1) S))
def KOA_X11_behindEvidences_30 (N g H T : Nat) (x0 : Nat) (x2 : Int32) (x3 : Int32) (x4 : Int32) (x5 : Int32) (S : cS) (z : Nat × Int32 × Unit) : Prop := (if z.1 = 0 then KO_X11_behindEvidences_53 N g H T S else KO_X11_behindEvidences_68 N g H T (z.2.1) S)
set_option maxRecDepth 100000 in
set_option maxHeartbeats 4000000 in
theorem kd_X11_behindEvidences_30 {G : zG} {o : cO} {g H T N : Nat} {S : cS} {Q : Option Value → cS → Prop} {X : Int32 → Prop} (hG : zOK G) (hR : ∀ v, X v → Q (some (.int v)) S) {x0 : Nat} {x2 : Int32} {x3 : Int32} {x4 : Int32} {x5 : Int32} (hS : St 1 g H T S) (t_x0 : isO g H 9 x0) (ok : KOL_X11_behindEvidences_30 N g H T N x0 x2 x3 x4 x5 S ∧ KOA_X11_behindEvidences_30 N g H T x0 x2 x3 x4 x5 S (KL_X11_behindEvidences_30 N g H T N x0 x2 x3 x4 x5 S)) (hx : X (KA_X11_behindEvidences_30 N g H T x0 x2 x3 x4 x5 S (KL_X11_behindEvidences_30 N g H T N x0 x2 x3 x4 x5 S))) : cX G o dX11_behindEvidences mX11_behindEvidences 30 [some (va_rf (some x0)), none, some (.int x2), some (.int x3), some (.int x4), some (.int x5), none] [] S Q := by
  refine kl_X11_behindEvidences_30 hG ?_ ?_ hS N x0 x2 x3 x4 x5 t_x0 ok.1 (X := fun z => KOA_X11_behindEvidences_30 N g H T x0 x2 x3 x4 x5 S z ∧ X (KA_X11_behindEvidences_30 N g H T x0 x2 x3 x4 x5 S z)) ⟨ok.2, hx⟩
  · intro x4' hz
    obtain ⟨ok, hx⟩ := hz
    unfold KOA_X11_behindEvidences_30 at ok
    unfold KA_X11_behindEvidences_30 at hx
    have ok := xif_P (show (0 : Nat) = 0 from rfl) ok
    have hx := xif_p (show (0 : Nat) = 0 from rfl) hx
    exact cX.cutz (kb_X11_behindEvidences_53 hG hR hS  ok hx) trivial
  · intro x4' hz
    obtain ⟨ok, hx⟩ := hz
    unfold KOA_X11_behindEvidences_30 at ok
    unfold KA_X11_behindEvidences_30 at hx
    have ok := xif_N (show ¬ (1 : Nat) = 0 by decide) ok
    have hx := xif_n (show ¬ (1 : Nat) = 0 by decide) hx
    exact cX.cutz (kb_X11_behindEvidences_68 hG hR hS  ok hx) ⟨rfl, trivial⟩
def KF_X11_behindEvidences_0 (N g H T : Nat) (x0 : Nat) (x1 : Int32) (x2 : Int32) (S : cS) : Int32 := (if ((cA S (g + 1) (x1 + (nI 100)).toNatClampNeg) &&& (nI 255)) ≤ (nI 2) then (KA_X11_behindEvidences_30 N g H T x0 x2 ((cA S (g + 1) (x1 + (nI 100)).toNatClampNeg) &&& (nI 255)) (x1 + (nI 101)) (nI 0) S (KL_X11_behindEvidences_30 N g H T N x0 x2 ((cA S (g + 1) (x1 + (nI 100)).toNatClampNeg) &&& (nI 255)) (x1 + (nI 101)) (nI 0) S)) else (-1))
def KO_X11_behindEvidences_0 (N g H T : Nat) (x0 : Nat) (x1 : Int32) (x2 : Int32) (S : cS) : Prop := (vp_in (x1 + (nI 100)) 1000) ∧ ((((cA S (g + 1) (x1 + (nI 100)).toNatClampNeg) &&& (nI 255)) ≤ (nI 2) → (KOL_X11_behindEvidences_30 N g H T N x0 x2 ((cA S (g + 1) (x1 + (nI 100)).toNatClampNeg) &&& (nI 255)) (x1 + (nI 101)) (nI 0) S ∧ KOA_X11_behindEvidences_30 N g H T x0 x2 ((cA S (g + 1) (x1 + (nI 100)).toNatClampNeg) &&& (nI 255)) (x1 + (nI 101)) (nI 0) S (KL_X11_behindEvidences_30 N g H T N x0 x2 ((cA S (g + 1) (x1 + (nI 100)).toNatClampNeg) &&& (nI 255)) (x1 + (nI 101)) (nI 0) S))) ∧ (¬ ((cA S (g + 1) (x1 + (nI 100)).toNatClampNeg) &&& (nI 255)) ≤ (nI 2) → True))
set_option maxRecDepth 100000 in
set_option maxHeartbeats 4000000 in
theorem kb_X11_behindEvidences_0 {G : zG} {o : cO} {g H T N : Nat} {S : cS} {Q : Option Value → cS → Prop} {X : Int32 → Prop} (hG : zOK G) (hR : ∀ v, X v → Q (some (.int v)) S) {x0 : Nat} {x1 : Int32} {x2 : Int32} (hS : St 1 g H T S) (t_x0 : isO g H 9 x0) (ok : KO_X11_behindEvidences_0 N g H T x0 x1 x2 S) (hx : X (KF_X11_behindEvidences_0 N g H T x0 x1 x2 S)) : cX G o dX11_behindEvidences mX11_behindEvidences 0 [some (va_rf (some x0)), some (.int x1), some (.int x2), none, none, none, none] [] S Q := by
  unfold KO_X11_behindEvidences_0 at ok
  unfold KF_X11_behindEvidences_0 at hx
  refine c_aload_nQ dX11_behindEvidences_0 rfl rfl ?_
  refine c_getS (C := RX11) (T := TX11) (N := 4) (ci := 9) (k := 1) ⟨rfl, inT11, by decide, fX11_9⟩ (by decide) (by decide) (by decide) dX11_behindEvidences_1 (hS.k t_x0) (hS.r (c := 9) t_x0 rfl (by omega)) ?_
  refine c_iload_n dX11_behindEvidences_4 rfl rfl ?_
  refine c_bipush (v := nI 100) dX11_behindEvidences_5 (by decide) ?_
  refine c_iadd dX11_behindEvidences_7 ?_
  refine c_bald dX11_behindEvidences_8 ⟨(tK.cis (hS.rk (c := 9) (k := 1) t_x0 rfl (by omega)) (Option.some_ne_none _)), (vk_cast (hS.rl (c := 9) (k := 1) t_x0 rfl (by decide) (by omega)) ok.1)⟩ ?_
  have ok := ok.2
  refine c_sipush (v := nI 255) dX11_behindEvidences_9 (by decide) ?_
  refine c_iand dX11_behindEvidences_12 ?_
  refine c_istore_3 dX11_behindEvidences_13 (by decide) rfl ?_
  refine c_iload_n dX11_behindEvidences_14 rfl rfl ?_
  refine c_iconst (v := nI 2) dX11_behindEvidences_15 (by decide) ?_
  refine c_icmp_le (tgt := 21) dX11_behindEvidences_16 (by decide) (fun c_16 => ?_) (fun c_16 => ?_)
  · have ok := ok.1 c_16
    have hx := xif_p c_16 hx
    refine c_iload_n dX11_behindEvidences_21 rfl rfl ?_
    refine c_bipush (v := nI 101) dX11_behindEvidences_22 (by decide) ?_
    refine c_iadd dX11_behindEvidences_24 ?_
    refine c_istore_4 dX11_behindEvidences_25 (by decide) rfl ?_
    refine c_iconst (v := nI 0) dX11_behindEvidences_27 (by decide) ?_
    refine c_istore_5 dX11_behindEvidences_28 (by decide) rfl ?_
    exact cX.cutz (kd_X11_behindEvidences_30 hG hR hS t_x0 ok hx) ⟨rfl, rfl, rfl, rfl, rfl, trivial⟩
  · have ok := ok.2 c_16
    have hx := xif_n c_16 hx
    refine c_iconst (v := -1) dX11_behindEvidences_19 (by decide) ?_
    exact c_ireturn rfl rfl dX11_behindEvidences_20 (hR _ hx)
def k_X11_behindEvidences (N g H T : Nat) (S : cS) (a0 : Nat) (x1 : Int32) (x2 : Int32) : Int32 := KF_X11_behindEvidences_0 N g H T a0 x1 x2 S
def p_X11_behindEvidences (N g H T : Nat) (S : cS) (a0 : Nat) (x1 : Int32) (x2 : Int32) : Prop := KO_X11_behindEvidences_0 N g H T a0 x1 x2 S
set_option maxRecDepth 100000 in
set_option maxHeartbeats 4000000 in
theorem kc_X11_behindEvidences {G : zG} {o : cO} {g H T N : Nat} {S : cS} (hG : zOK G) {a0 : Nat} {x1 : Int32} {x2 : Int32} (hS : St 1 g H T S) (t_x0 : isO g H 9 a0) (ok : p_X11_behindEvidences N g H T S a0 x1 x2) : cCi G o dX11_behindEvidences mX11_behindEvidences [.ref a0, .int x1, .int x2] S (fun v S' => (v = k_X11_behindEvidences N g H T S a0 x1 x2 ∧ S' = S)) := by
  refine cC.ofX rfl (by exact Nat.le_of_ble_eq_true rfl) ?_
  show cX G o dX11_behindEvidences mX11_behindEvidences 0 [some (va_rf (some a0)), some (.int x1), some (.int x2), none, none, none, none] [] S _
  exact cX.cutz (kb_X11_behindEvidences_0 (X := fun F => F = k_X11_behindEvidences N g H T S a0 x1 x2) hG (fun v h => ⟨v, rfl, h, rfl⟩) hS t_x0 ok rfl) ⟨rfl, rfl, rfl, trivial⟩
/-! X11_honestNode -/
def KF_X11_honestNode_28 (N g H T : Nat) (s0 : Option Nat) (S : cS) : Option Nat := s0
def KO_X11_honestNode_28 (N g H T : Nat) (s0 : Option Nat) (S : cS) : Prop := True
set_option maxRecDepth 100000 in
set_option maxHeartbeats 4000000 in
theorem kb_X11_honestNode_28 {G : zG} {o : cO} {g H T N : Nat} {S : cS} {Q : Option Value → cS → Prop} {X : Option Nat → Prop} (hG : zOK G) (hR : ∀ v, tN g H v → X v → Q (some (va_rf v)) S) {s0 : Option Nat} (hS : St 1 g H T S) (t_s0 : tN g H s0) (ok : KO_X11_honestNode_28 N g H T s0 S) (hx : X (KF_X11_honestNode_28 N g H T s0 S)) : cX G o dX11_honestNode mX11_honestNode 28 [none, none] [va_rf s0] S Q := by
  unfold KO_X11_honestNode_28 at ok
  unfold KF_X11_honestNode_28 at hx
  exact c_areturn rfl (Or.inl ⟨_, rfl⟩) dX11_honestNode_28 (hR _ t_s0 hx)
def KF_X11_honestNode_27 (N g H T : Nat)  (S : cS) : Option Nat := (KF_X11_honestNode_28 N g H T (none : Option Nat) S)
def KO_X11_honestNode_27 (N g H T : Nat)  (S : cS) : Prop := KO_X11_honestNode_28 N g H T (none : Option Nat) S
set_option maxRecDepth 100000 in
set_option maxHeartbeats 4000000 in
theorem kb_X11_honestNode_27 {G : zG} {o : cO} {g H T N : Nat} {S : cS} {Q : Option Value → cS → Prop} {X : Option Nat → Prop} (hG : zOK G) (hR : ∀ v, tN g H v → X v → Q (some (va_rf v)) S) (hS : St 1 g H T S) (ok : KO_X11_honestNode_27 N g H T S) (hx : X (KF_X11_honestNode_27 N g H T S)) : cX G o dX11_honestNode mX11_honestNode 27 [none, none] [] S Q := by
  unfold KO_X11_honestNode_27 at ok
  unfold KF_X11_honestNode_27 at hx
  refine c_null' dX11_honestNode_27 ?_
  exact cX.cutz (kb_X11_honestNode_28 hG hR hS tN_none ok hx) trivial
def KF_X11_honestNode_0 (N g H T : Nat) (x0 : Nat) (x1 : Int32) (S : cS) : Option Nat := (if x1 < 0 then (KF_X11_honestNode_27 N g H T S) else (if (cI S 2 (g + 8)) ≤ x1 then (KF_X11_honestNode_27 N g H T S) else (KF_X11_honestNode_28 N g H T (cP S (g + 30) x1.toNatClampNeg) S)))
def KO_X11_honestNode_0 (N g H T : Nat) (x0 : Nat) (x1 : Int32) (S : cS) : Prop := ((x1 < 0 → KO_X11_honestNode_27 N g H T S) ∧ (¬ x1 < 0 → (((cI S 2 (g + 8)) ≤ x1 → KO_X11_honestNode_27 N g H T S) ∧ (¬ (cI S 2 (g + 8)) ≤ x1 → (vp_in x1 H) ∧ KO_X11_honestNode_28 N g H T (cP S (g + 30) x1.toNatClampNeg) S))))
set_option maxRecDepth 100000 in
set_option maxHeartbeats 4000000 in
theorem kb_X11_honestNode_0 {G : zG} {o : cO} {g H T N : Nat} {S : cS} {Q : Option Value → cS → Prop} {X : Option Nat → Prop} (hG : zOK G) (hR : ∀ v, tN g H v → X v → Q (some (va_rf v)) S) {x0 : Nat} {x1 : Int32} (hS : St 1 g H T S) (t_x0 : isO g H 9 x0) (ok : KO_X11_honestNode_0 N g H T x0 x1 S) (hx : X (KF_X11_honestNode_0 N g H T x0 x1 S)) : cX G o dX11_honestNode mX11_honestNode 0 [some (va_rf (some x0)), some (.int x1)] [] S Q := by
  unfold KO_X11_honestNode_0 at ok
  unfold KF_X11_honestNode_0 at hx
  refine c_iload_n dX11_honestNode_0 rfl rfl ?_
  refine c_if_lt (tgt := 27) dX11_honestNode_1 (by decide) (fun c_1 => ?_) (fun c_1 => ?_)
  · have ok := ok.1 c_1
    have hx := xif_p c_1 hx
    exact cX.cutz (kb_X11_honestNode_27 hG hR hS  ok hx) trivial
  · have ok := ok.2 c_1
    have hx := xif_n c_1 hx
    refine c_iload_n dX11_honestNode_4 rfl rfl ?_
    refine c_aload_nQ dX11_honestNode_5 rfl rfl ?_
    refine c_getS (C := RX11) (T := TX11) (N := 4) (ci := 9) (k := 0) ⟨rfl, inT11, by decide, fX11_22⟩ (by decide) (by decide) (by decide) dX11_honestNode_6 (hS.k t_x0) (hS.r (c := 9) t_x0 rfl (by omega)) ?_
    refine c_getI (C := RX10) (T := TX10) (N := 12) (ci := 8) (k := 2) ⟨rfl, inT10, by decide, fX11_69⟩ (by decide) (by decide) (by decide) dX11_honestNode_9 (hS.k (o90 t_x0)) ?_
    refine c_icmp_ge (tgt := 27) dX11_honestNode_12 (by decide) (fun c_12 => ?_) (fun c_12 => ?_)
    · have ok := ok.1 c_12
      have hx := xif_p c_12 hx
      exact cX.cutz (kb_X11_honestNode_27 hG hR hS  ok hx) trivial
    · have ok := ok.2 c_12
      have hx := xif_n c_12 hx
      refine c_aload_nQ dX11_honestNode_15 rfl rfl ?_
      refine c_getS (C := RX11) (T := TX11) (N := 4) (ci := 9) (k := 0) ⟨rfl, inT11, by decide, fX11_22⟩ (by decide) (by decide) (by decide) dX11_honestNode_16 (hS.k t_x0) (hS.r (c := 9) t_x0 rfl (by omega)) ?_
      refine c_getS (C := RX10) (T := TX10) (N := 12) (ci := 8) (k := 4) ⟨rfl, inT10, by decide, fX11_322⟩ (by decide) (by decide) (by decide) dX11_honestNode_19 (hS.k (o90 t_x0)) (hS.r (c := 8) (o90 t_x0) rfl (by omega)) ?_
      refine c_iload_n dX11_honestNode_22 rfl rfl ?_
      have p_23 := hS.row25 x1.toNatClampNeg
      refine c_aald (t := 5) (ty := (.object "QuorumLedger$Node")) rfl rfl (by decide) dX11_honestNode_23 ⟨(tK.cis (hS.rk (c := 8) (k := 4) (o90 t_x0) rfl (by omega)) (Option.some_ne_none _)), (vk_cast hS.l25 ok.1)⟩ ?_
      have ok := ok.2
      refine c_goto (tgt := 28) dX11_honestNode_24 (by decide) ?_
      exact cX.cutz (kb_X11_honestNode_28 hG hR hS p_23 ok hx) trivial
def k_X11_honestNode (N g H T : Nat) (S : cS) (a0 : Nat) (x1 : Int32) : Option Nat := KF_X11_honestNode_0 N g H T a0 x1 S
def p_X11_honestNode (N g H T : Nat) (S : cS) (a0 : Nat) (x1 : Int32) : Prop := KO_X11_honestNode_0 N g H T a0 x1 S
set_option maxRecDepth 100000 in
set_option maxHeartbeats 4000000 in
theorem kc_X11_honestNode {G : zG} {o : cO} {g H T N : Nat} {S : cS} (hG : zOK G) {a0 : Nat} {x1 : Int32} (hS : St 1 g H T S) (t_x0 : isO g H 9 a0) (ok : p_X11_honestNode N g H T S a0 x1) : cCq G o dX11_honestNode mX11_honestNode [.ref a0, .int x1] S (fun v S' => (v = k_X11_honestNode N g H T S a0 x1 ∧ S' = S) ∧ tN g H v) := by
  refine cC.ofX rfl (by exact Nat.le_of_ble_eq_true rfl) ?_
  show cX G o dX11_honestNode mX11_honestNode 0 [some (va_rf (some a0)), some (.int x1)] [] S _
  exact cX.cutz (kb_X11_honestNode_0 (X := fun F => F = k_X11_honestNode N g H T S a0 x1) hG (fun v h3 h => ⟨v, rfl, ⟨h, rfl⟩, h3⟩) hS t_x0 ok rfl) ⟨rfl, rfl, trivial⟩
/-! X11_seal -/
def KF_X11_seal_183 (N g H T : Nat) (x5 : Int32) (S : cS) : Int32 × cS := (x5, S)
def KO_X11_seal_183 (N g H T : Nat) (x5 : Int32) (S : cS) : Prop := True
set_option maxRecDepth 100000 in
set_option maxHeartbeats 4000000 in
theorem kb_X11_seal_183 {G : zG} {o : cO} {g H T N : Nat} {S : cS} {S0 : cS} {Q : Option Value → cS → Prop} {X : Int32 × cS → Prop} (hG : zOK G) (hR : ∀ v S', St 1 g H T S' → Mono S0 S' → X (v, S') → Q (some (.int v)) S') {x5 : Int32} (hS : St 1 g H T S) (hM : Mono S0 S) (ok : KO_X11_seal_183 N g H T x5 S) (hx : X (KF_X11_seal_183 N g H T x5 S)) : cX G o dX11_seal mX11_seal 183 [none, none, none, none, none, some (.int x5), none] [] S Q := by
  unfold KO_X11_seal_183 at ok
  unfold KF_X11_seal_183 at hx
  refine c_iload dX11_seal_183 rfl ?_
  exact c_ireturn rfl rfl dX11_seal_185 (hR _ _ hS hM hx)
def KF_X11_seal_161 (N g H T : Nat) (x0 : Nat) (x1 : Int32) (x5 : Int32) (x6 : Option Nat) (S : cS) : Int32 × cS := (KF_X11_seal_183 N g H T x5 (csArow S (g + 1) (va_cpy (cA S (((za x6) + 6) + 3)) (cA S (g + 1)) (nI 0).toNatClampNeg (x1 + (nI 35)).toNatClampNeg (nI 32).toNatClampNeg)))
def KO_X11_seal_161 (N g H T : Nat) (x0 : Nat) (x1 : Int32) (x5 : Int32) (x6 : Option Nat) (S : cS) : Prop := (¬ x6 = none) ∧ ((¬ (nI 0) < 0 ∧ ¬ (x1 + (nI 35)) < 0 ∧ ¬ (nI 32) < 0) ∧ (nI 0).toNatClampNeg + (nI 32).toNatClampNeg ≤ 32 ∧ (x1 + (nI 35)).toNatClampNeg + (nI 32).toNatClampNeg ≤ 1000) ∧ KO_X11_seal_183 N g H T x5 (csArow S (g + 1) (va_cpy (cA S (((za x6) + 6) + 3)) (cA S (g + 1)) (nI 0).toNatClampNeg (x1 + (nI 35)).toNatClampNeg (nI 32).toNatClampNeg))
set_option maxRecDepth 100000 in
set_option maxHeartbeats 4000000 in
theorem kb_X11_seal_161 {G : zG} {o : cO} {g H T N : Nat} {S : cS} {S0 : cS} {Q : Option Value → cS → Prop} {X : Int32 × cS → Prop} (hG : zOK G) (hR : ∀ v S', St 1 g H T S' → Mono S0 S' → X (v, S') → Q (some (.int v)) S') {x0 : Nat} {x1 : Int32} {x5 : Int32} {x6 : Option Nat} (hS : St 1 g H T S) (hM : Mono S0 S) (t_x0 : isO g H 9 x0) (t_x6 : tN g H x6) (ok : KO_X11_seal_161 N g H T x0 x1 x5 x6 S) (hx : X (KF_X11_seal_161 N g H T x0 x1 x5 x6 S)) : cX G o dX11_seal mX11_seal 161 [some (va_rf (some x0)), some (.int x1), none, none, none, some (.int x5), some (va_rf x6)] [] S Q := by
  unfold KO_X11_seal_161 at ok
  unfold KF_X11_seal_161 at hx
  refine c_aloadQ dX11_seal_161 rfl ?_
  have nn_163 := ok.1
  refine c_getS (C := RX6) (T := TX6) (N := 19) (ci := 5) (k := 4) ⟨rfl, inT6, by decide, fX11_129⟩ (by decide) (by decide) (by decide) dX11_seal_163 (hS.kN t_x6 ok.1) (hS.r (c := 5) (tN.o t_x6 ok.1) rfl (by omega)) ?_
  have ok := ok.2
  refine c_getS (C := RX0) (T := TX0) (N := 6) (ci := 0) (k := 3) ⟨rfl, inT0, by decide, fX11_133⟩ (by decide) (by decide) (by decide) dX11_seal_166 (hS.k (o54 (tN.o t_x6 nn_163))) (hS.r (c := 0) (o54 (tN.o t_x6 nn_163)) rfl (by omega)) ?_
  refine c_iconst (v := nI 0) dX11_seal_169 (by decide) ?_
  refine c_aload_nQ dX11_seal_170 rfl rfl ?_
  refine c_getS (C := RX11) (T := TX11) (N := 4) (ci := 9) (k := 1) ⟨rfl, inT11, by decide, fX11_9⟩ (by decide) (by decide) (by decide) dX11_seal_171 (hS.k t_x0) (hS.r (c := 9) t_x0 rfl (by omega)) ?_
  refine c_iload_n dX11_seal_174 rfl rfl ?_
  refine c_bipush (v := nI 35) dX11_seal_175 (by decide) ?_
  refine c_iadd dX11_seal_177 ?_
  refine c_bipush (v := nI 32) dX11_seal_178 (by decide) ?_
  have tq_180 : tK S 20 (some (((za x6) + 6) + 3)) := tK_some (tK.cis (hS.rk (c := 0) (k := 3) (o54 (tN.o t_x6 nn_163)) rfl (by omega)) (Option.some_ne_none _)).2
  refine c_copy0 hG dX11_seal_180 qX11_53 (by decide) (by decide) ⟨tK.cis (hS.rk (c := 0) (k := 3) (o54 (tN.o t_x6 nn_163)) rfl (by omega)) (Option.some_ne_none _), tK.cis (hS.rk (c := 9) (k := 1) t_x0 rfl (by omega)) (Option.some_ne_none _), ok.1.1, (le_cast (hS.rl (c := 0) (k := 3) (o54 (tN.o t_x6 nn_163)) rfl (by decide) (by omega)) ok.1.2.1), (le_cast (hS.rl (c := 9) (k := 1) t_x0 rfl (by decide) (by omega)) ok.1.2.2)⟩ ?_
  have hS := hS.Ac (g + 1) (((za x6) + 6) + 3) (nI 0).toNatClampNeg (x1 + (nI 35)).toNatClampNeg (nI 32).toNatClampNeg tq_180
  have hM := hM.Ar (g + 1) (va_cpy (cA S (((za x6) + 6) + 3)) (cA S (g + 1)) (nI 0).toNatClampNeg (x1 + (nI 35)).toNatClampNeg (nI 32).toNatClampNeg)
  have ok := ok.2
  exact cX.cutz (kb_X11_seal_183 hG hR hS hM  ok hx) ⟨rfl, trivial⟩
def KF_X11_seal_131 (N g H T : Nat) (x0 : Nat) (x1 : Int32) (x3 : Int32) (x5 : Int32) (S : cS) : Int32 × cS := (if (k_X11_honestNode N g H T S x0 x3) = none then (KF_X11_seal_183 N g H T x5 S) else (KF_X11_seal_161 N g H T x0 x1 x5 (k_X11_honestNode N g H T S x0 x3) (csArow S (g + 1) (va_cpy (cA S ((za (k_X11_honestNode N g H T S x0 x3)) + 11)) (cA S (g + 1)) (nI 0).toNatClampNeg (x1 + (nI 3)).toNatClampNeg (nI 32).toNatClampNeg))))
def KO_X11_seal_131 (N g H T : Nat) (x0 : Nat) (x1 : Int32) (x3 : Int32) (x5 : Int32) (S : cS) : Prop := (p_X11_honestNode N g H T S x0 x3) ∧ (((k_X11_honestNode N g H T S x0 x3) = none → KO_X11_seal_183 N g H T x5 S) ∧ (¬ (k_X11_honestNode N g H T S x0 x3) = none → ((¬ (nI 0) < 0 ∧ ¬ (x1 + (nI 3)) < 0 ∧ ¬ (nI 32) < 0) ∧ (nI 0).toNatClampNeg + (nI 32).toNatClampNeg ≤ 32 ∧ (x1 + (nI 3)).toNatClampNeg + (nI 32).toNatClampNeg ≤ 1000) ∧ KO_X11_seal_161 N g H T x0 x1 x5 (k_X11_honestNode N g H T S x0 x3) (csArow S (g + 1) (va_cpy (cA S ((za (k_X11_honestNode N g H T S x0 x3)) + 11)) (cA S (g + 1)) (nI 0).toNatClampNeg (x1 + (nI 3)).toNatClampNeg (nI 32).toNatClampNeg))))
set_option maxRecDepth 100000 in
set_option maxHeartbeats 4000000 in
theorem kb_X11_seal_131 {G : zG} {o : cO} {g H T N : Nat} {S : cS} {S0 : cS} {Q : Option Value → cS → Prop} {X : Int32 × cS → Prop} (hG : zOK G) (hR : ∀ v S', St 1 g H T S' → Mono S0 S' → X (v, S') → Q (some (.int v)) S') {x0 : Nat} {x1 : Int32} {x3 : Int32} {x5 : Int32} (hS : St 1 g H T S) (hM : Mono S0 S) (t_x0 : isO g H 9 x0) (ok : KO_X11_seal_131 N g H T x0 x1 x3 x5 S) (hx : X (KF_X11_seal_131 N g H T x0 x1 x3 x5 S)) : cX G o dX11_seal mX11_seal 131 [some (va_rf (some x0)), some (.int x1), none, some (.int x3), none, some (.int x5), none] [] S Q := by
  unfold KO_X11_seal_131 at ok
  unfold KF_X11_seal_131 at hx
  refine c_aload_nQ dX11_seal_131 rfl rfl ?_
  refine c_iload_n dX11_seal_132 rfl rfl ?_
  refine c_V1qK (ci := 9) (rr := (RX11, TX11, 4)) (y' := mX11_honestNode) dX11_seal_133 lX11_120 kX11_honestNode ⟨by decide, by decide⟩ rfl rfl (by decide) (hS.k t_x0) (Nat.le_of_ble_eq_true rfl) (kc_X11_honestNode hG hS t_x0 ok.1) (fun tv_133 => ?_)
  have ok := ok.2
  refine c_astore_6Q dX11_seal_136 (by decide) rfl ?_
  refine c_aloadQ dX11_seal_138 rfl ?_
  refine c_ifnullI (tgt := 183) dX11_seal_140 (by decide) (fun c_140 => ?_) (fun c_140 => ?_)
  · have ok := ok.1 c_140
    have hx := xif_p c_140 hx
    exact cX.cutz (kb_X11_seal_183 hG hR hS hM  ok hx) ⟨rfl, trivial⟩
  · have ok := ok.2 c_140
    have hx := xif_n c_140 hx
    refine c_aloadQ dX11_seal_143 rfl ?_
    refine c_getS (C := RX6) (T := TX6) (N := 19) (ci := 5) (k := 5) ⟨rfl, inT6, by decide, fX11_124⟩ (by decide) (by decide) (by decide) dX11_seal_145 (hS.kN tv_133 c_140) (hS.r (c := 5) (tN.o tv_133 c_140) rfl (by omega)) ?_
    refine c_iconst (v := nI 0) dX11_seal_148 (by decide) ?_
    refine c_aload_nQ dX11_seal_149 rfl rfl ?_
    refine c_getS (C := RX11) (T := TX11) (N := 4) (ci := 9) (k := 1) ⟨rfl, inT11, by decide, fX11_9⟩ (by decide) (by decide) (by decide) dX11_seal_150 (hS.k t_x0) (hS.r (c := 9) t_x0 rfl (by omega)) ?_
    refine c_iload_n dX11_seal_153 rfl rfl ?_
    refine c_iconst (v := nI 3) dX11_seal_154 (by decide) ?_
    refine c_iadd dX11_seal_155 ?_
    refine c_bipush (v := nI 32) dX11_seal_156 (by decide) ?_
    have tq_158 : tK S 20 (some ((za (k_X11_honestNode N g H T S x0 x3)) + 11)) := tK_some (tK.cis (hS.rk (c := 5) (k := 5) (tN.o tv_133 c_140) rfl (by omega)) (Option.some_ne_none _)).2
    refine c_copy0 hG dX11_seal_158 qX11_53 (by decide) (by decide) ⟨tK.cis (hS.rk (c := 5) (k := 5) (tN.o tv_133 c_140) rfl (by omega)) (Option.some_ne_none _), tK.cis (hS.rk (c := 9) (k := 1) t_x0 rfl (by omega)) (Option.some_ne_none _), ok.1.1, (le_cast (hS.rl (c := 5) (k := 5) (tN.o tv_133 c_140) rfl (by decide) (by omega)) ok.1.2.1), (le_cast (hS.rl (c := 9) (k := 1) t_x0 rfl (by decide) (by omega)) ok.1.2.2)⟩ ?_
    have hS := hS.Ac (g + 1) ((za (k_X11_honestNode N g H T S x0 x3)) + 11) (nI 0).toNatClampNeg (x1 + (nI 3)).toNatClampNeg (nI 32).toNatClampNeg tq_158
    have hM := hM.Ar (g + 1) (va_cpy (cA S ((za (k_X11_honestNode N g H T S x0 x3)) + 11)) (cA S (g + 1)) (nI 0).toNatClampNeg (x1 + (nI 3)).toNatClampNeg (nI 32).toNatClampNeg)
    have ok := ok.2
    exact cX.cutz (kb_X11_seal_161 hG hR hS hM t_x0 tv_133 ok hx) ⟨rfl, rfl, rfl, rfl, trivial⟩
def KF_X11_seal_112 (N g H T : Nat) (x0 : Nat) (x1 : Int32) (x3 : Int32) (x5 : Int32) (s0 : Int32) (S : cS) : Int32 × cS := (KF_X11_seal_131 N g H T x0 x1 x3 x5 (k_X2_top N g H T S (g + 3) (some (g + 1)) (x1 + (nI 67))))
def KO_X11_seal_112 (N g H T : Nat) (x0 : Nat) (x1 : Int32) (x3 : Int32) (x5 : Int32) (s0 : Int32) (S : cS) : Prop := (p_X2_top N g H T S (g + 3) (some (g + 1)) (x1 + (nI 67))) ∧ KO_X11_seal_131 N g H T x0 x1 x3 x5 (k_X2_top N g H T S (g + 3) (some (g + 1)) (x1 + (nI 67)))
set_option maxRecDepth 100000 in
set_option maxHeartbeats 4000000 in
theorem kb_X11_seal_112 {G : zG} {o : cO} {g H T N : Nat} {S : cS} {S0 : cS} {Q : Option Value → cS → Prop} {X : Int32 × cS → Prop} (hG : zOK G) (hR : ∀ v S', St 1 g H T S' → Mono S0 S' → X (v, S') → Q (some (.int v)) S') {x0 : Nat} {x1 : Int32} {x3 : Int32} {x5 : Int32} {s0 : Int32} (hS : St 1 g H T S) (hM : Mono S0 S) (t_x0 : isO g H 9 x0) (ok : KO_X11_seal_112 N g H T x0 x1 x3 x5 s0 S) (hx : X (KF_X11_seal_112 N g H T x0 x1 x3 x5 s0 S)) : cX G o dX11_seal mX11_seal 112 [some (va_rf (some x0)), some (.int x1), none, some (.int x3), none, some (.int x5), none] [.int s0] S Q := by
  unfold KO_X11_seal_112 at ok
  unfold KF_X11_seal_112 at hx
  refine c_pop dX11_seal_112 rfl ?_
  refine c_aload_nQ dX11_seal_113 rfl rfl ?_
  refine c_getS (C := RX11) (T := TX11) (N := 4) (ci := 9) (k := 0) ⟨rfl, inT11, by decide, fX11_22⟩ (by decide) (by decide) (by decide) dX11_seal_114 (hS.k t_x0) (hS.r (c := 9) t_x0 rfl (by omega)) ?_
  refine c_getS (C := RX10) (T := TX10) (N := 12) (ci := 8) (k := 5) ⟨rfl, inT10, by decide, fX11_103⟩ (by decide) (by decide) (by decide) dX11_seal_117 (hS.k (o90 t_x0)) (hS.r (c := 8) (o90 t_x0) rfl (by omega)) ?_
  refine c_aload_nQ dX11_seal_120 rfl rfl ?_
  refine c_getS (C := RX11) (T := TX11) (N := 4) (ci := 9) (k := 1) ⟨rfl, inT11, by decide, fX11_9⟩ (by decide) (by decide) (by decide) dX11_seal_121 (hS.k t_x0) (hS.r (c := 9) t_x0 rfl (by omega)) ?_
  refine c_iload_n dX11_seal_124 rfl rfl ?_
  refine c_bipush (v := nI 67) dX11_seal_125 (by decide) ?_
  refine c_iadd dX11_seal_127 ?_
  refine c_V2vK (ci := 2) (rr := (RX2, TX2, 6)) (y' := mX2_top) dX11_seal_128 lX11_117 kX2_top ⟨by decide, by decide⟩ rfl rfl (by decide) (hS.k (o85 (o90 t_x0))) (Nat.le_of_ble_eq_true rfl) (kc_X2_top hG hS (o85 (o90 t_x0)) (hS.rk (c := 9) (k := 1) t_x0 rfl (by omega)) ok.1) (fun ⟨hS, hm_128⟩ => ?_)
  have hM := hM.trans hm_128
  have ok := ok.2
  exact cX.cutz (kb_X11_seal_131 hG hR hS hM t_x0 ok hx) ⟨rfl, rfl, rfl, rfl, trivial⟩
def KF_X11_seal_96 (N g H T : Nat) (x0 : Nat) (x1 : Int32) (x3 : Int32) (x5 : Int32) (S : cS) : Int32 × cS := (KF_X11_seal_112 N g H T x0 x1 x3 x5 ((k_X2_climb N g H T S (g + 3) (-1) (some (g + 1)) x1).1) (k_X2_climb N g H T S (g + 3) (-1) (some (g + 1)) x1).2)
def KO_X11_seal_96 (N g H T : Nat) (x0 : Nat) (x1 : Int32) (x3 : Int32) (x5 : Int32) (S : cS) : Prop := (p_X2_climb N g H T S (g + 3) (-1) (some (g + 1)) x1) ∧ KO_X11_seal_112 N g H T x0 x1 x3 x5 ((k_X2_climb N g H T S (g + 3) (-1) (some (g + 1)) x1).1) (k_X2_climb N g H T S (g + 3) (-1) (some (g + 1)) x1).2
set_option maxRecDepth 100000 in
set_option maxHeartbeats 4000000 in
theorem kb_X11_seal_96 {G : zG} {o : cO} {g H T N : Nat} {S : cS} {S0 : cS} {Q : Option Value → cS → Prop} {X : Int32 × cS → Prop} (hG : zOK G) (hR : ∀ v S', St 1 g H T S' → Mono S0 S' → X (v, S') → Q (some (.int v)) S') {x0 : Nat} {x1 : Int32} {x3 : Int32} {x5 : Int32} (hS : St 1 g H T S) (hM : Mono S0 S) (t_x0 : isO g H 9 x0) (ok : KO_X11_seal_96 N g H T x0 x1 x3 x5 S) (hx : X (KF_X11_seal_96 N g H T x0 x1 x3 x5 S)) : cX G o dX11_seal mX11_seal 96 [some (va_rf (some x0)), some (.int x1), none, some (.int x3), none, some (.int x5), none] [] S Q := by
  unfold KO_X11_seal_96 at ok
  unfold KF_X11_seal_96 at hx
  refine c_aload_nQ dX11_seal_96 rfl rfl ?_
  refine c_getS (C := RX11) (T := TX11) (N := 4) (ci := 9) (k := 0) ⟨rfl, inT11, by decide, fX11_22⟩ (by decide) (by decide) (by decide) dX11_seal_97 (hS.k t_x0) (hS.r (c := 9) t_x0 rfl (by omega)) ?_
  refine c_getS (C := RX10) (T := TX10) (N := 12) (ci := 8) (k := 5) ⟨rfl, inT10, by decide, fX11_103⟩ (by decide) (by decide) (by decide) dX11_seal_100 (hS.k (o90 t_x0)) (hS.r (c := 8) (o90 t_x0) rfl (by omega)) ?_
  refine c_iconst (v := -1) dX11_seal_103 (by decide) ?_
  refine c_aload_nQ dX11_seal_104 rfl rfl ?_
  refine c_getS (C := RX11) (T := TX11) (N := 4) (ci := 9) (k := 1) ⟨rfl, inT11, by decide, fX11_9⟩ (by decide) (by decide) (by decide) dX11_seal_105 (hS.k t_x0) (hS.r (c := 9) t_x0 rfl (by omega)) ?_
  refine c_iload_n dX11_seal_108 rfl rfl ?_
  refine c_V3iK (ci := 2) (rr := (RX2, TX2, 6)) (y' := mX2_climb) dX11_seal_109 lX11_113 kX2_climb ⟨by decide, by decide⟩ rfl rfl (by decide) (hS.k (o85 (o90 t_x0))) (Nat.le_of_ble_eq_true rfl) (kc_X2_climb hG hS (o85 (o90 t_x0)) (hS.rk (c := 9) (k := 1) t_x0 rfl (by omega)) ok.1) (fun ⟨hS, hm_109⟩ => ?_)
  have hM := hM.trans hm_109
  have ok := ok.2
  exact cX.cutz (kb_X11_seal_112 hG hR hS hM t_x0 ok hx) ⟨rfl, rfl, rfl, rfl, trivial⟩
def KF_X11_seal_55 (N g H T : Nat) (x0 : Nat) (x1 : Int32) (x2 : Int32) (x3 : Int32) (x4 : Int32) (S : cS) : Int32 × cS := (KF_X11_seal_96 N g H T x0 x1 x3 (if ((x2 - x4) / (nI 7)) < (nI 64) then ((x2 - x4) / (nI 7)) else (nI 64)) (k_X2_plant N g H T (csA S (g + 1) (x1 + (nI 99)).toNatClampNeg (((if ((x2 - x4) / (nI 7)) < (nI 64) then ((x2 - x4) / (nI 7)) else (nI 64)).toInt8.toInt32).toInt8.toInt32)) (g + 3) (some (g + 1)) x1))
def KO_X11_seal_55 (N g H T : Nat) (x0 : Nat) (x1 : Int32) (x2 : Int32) (x3 : Int32) (x4 : Int32) (S : cS) : Prop := (vp_in (x1 + (nI 99)) 1000) ∧ (p_X2_plant N g H T (csA S (g + 1) (x1 + (nI 99)).toNatClampNeg (((if ((x2 - x4) / (nI 7)) < (nI 64) then ((x2 - x4) / (nI 7)) else (nI 64)).toInt8.toInt32).toInt8.toInt32)) (g + 3) (some (g + 1)) x1) ∧ KO_X11_seal_96 N g H T x0 x1 x3 (if ((x2 - x4) / (nI 7)) < (nI 64) then ((x2 - x4) / (nI 7)) else (nI 64)) (k_X2_plant N g H T (csA S (g + 1) (x1 + (nI 99)).toNatClampNeg (((if ((x2 - x4) / (nI 7)) < (nI 64) then ((x2 - x4) / (nI 7)) else (nI 64)).toInt8.toInt32).toInt8.toInt32)) (g + 3) (some (g + 1)) x1)
set_option maxRecDepth 100000 in
set_option maxHeartbeats 4000000 in
theorem kb_X11_seal_55 {G : zG} {o : cO} {g H T N : Nat} {S : cS} {S0 : cS} {Q : Option Value → cS → Prop} {X : Int32 × cS → Prop} (hG : zOK G) (hR : ∀ v S', St 1 g H T S' → Mono S0 S' → X (v, S') → Q (some (.int v)) S') {x0 : Nat} {x1 : Int32} {x2 : Int32} {x3 : Int32} {x4 : Int32} (hS : St 1 g H T S) (hM : Mono S0 S) (t_x0 : isO g H 9 x0) (ok : KO_X11_seal_55 N g H T x0 x1 x2 x3 x4 S) (hx : X (KF_X11_seal_55 N g H T x0 x1 x2 x3 x4 S)) : cX G o dX11_seal mX11_seal 55 [some (va_rf (some x0)), some (.int x1), some (.int x2), some (.int x3), some (.int x4), none, none] [] S Q := by
  unfold KO_X11_seal_55 at ok
  unfold KF_X11_seal_55 at hx
  refine c_bipush (v := nI 64) dX11_seal_55 (by decide) ?_
  refine c_iload_n dX11_seal_57 rfl rfl ?_
  refine c_iload dX11_seal_58 rfl ?_
  refine c_isub dX11_seal_60 ?_
  refine c_bipush (v := nI 7) dX11_seal_61 (by decide) ?_
  refine c_idiv dX11_seal_63 (by decide) ?_
  refine c_mmin dX11_seal_64 lX11_98.1 (by decide) (by decide) ?_
  refine c_istore_5 dX11_seal_67 (by decide) rfl ?_
  refine c_aload_nQ dX11_seal_69 rfl rfl ?_
  refine c_getS (C := RX11) (T := TX11) (N := 4) (ci := 9) (k := 1) ⟨rfl, inT11, by decide, fX11_9⟩ (by decide) (by decide) (by decide) dX11_seal_70 (hS.k t_x0) (hS.r (c := 9) t_x0 rfl (by omega)) ?_
  refine c_iload_n dX11_seal_73 rfl rfl ?_
  refine c_bipush (v := nI 99) dX11_seal_74 (by decide) ?_
  refine c_iadd dX11_seal_76 ?_
  refine c_iload dX11_seal_77 rfl ?_
  refine c_i2b dX11_seal_79 ?_
  refine c_bast dX11_seal_80 ⟨(tK.cis (hS.rk (c := 9) (k := 1) t_x0 rfl (by omega)) (Option.some_ne_none _)), (vk_cast (hS.rl (c := 9) (k := 1) t_x0 rfl (by decide) (by omega)) ok.1)⟩ ?_
  have hS := hS.Ab (g + 1) (x1 + (nI 99)).toNatClampNeg ((if ((x2 - x4) / (nI 7)) < (nI 64) then ((x2 - x4) / (nI 7)) else (nI 64)).toInt8.toInt32)
  have hM := hM.A (g + 1) (x1 + (nI 99)).toNatClampNeg (((if ((x2 - x4) / (nI 7)) < (nI 64) then ((x2 - x4) / (nI 7)) else (nI 64)).toInt8.toInt32).toInt8.toInt32)
  have ok := ok.2
  refine c_aload_nQ dX11_seal_81 rfl rfl ?_
  refine c_getS (C := RX11) (T := TX11) (N := 4) (ci := 9) (k := 0) ⟨rfl, inT11, by decide, fX11_22⟩ (by decide) (by decide) (by decide) dX11_seal_82 (hS.k t_x0) (hS.r (c := 9) t_x0 rfl (by omega)) ?_
  refine c_getS (C := RX10) (T := TX10) (N := 12) (ci := 8) (k := 5) ⟨rfl, inT10, by decide, fX11_103⟩ (by decide) (by decide) (by decide) dX11_seal_85 (hS.k (o90 t_x0)) (hS.r (c := 8) (o90 t_x0) rfl (by omega)) ?_
  refine c_aload_nQ dX11_seal_88 rfl rfl ?_
  refine c_getS (C := RX11) (T := TX11) (N := 4) (ci := 9) (k := 1) ⟨rfl, inT11, by decide, fX11_9⟩ (by decide) (by decide) (by decide) dX11_seal_89 (hS.k t_x0) (hS.r (c := 9) t_x0 rfl (by omega)) ?_
  refine c_iload_n dX11_seal_92 rfl rfl ?_
  refine c_V2vK (ci := 2) (rr := (RX2, TX2, 6)) (y' := mX2_plant) dX11_seal_93 lX11_107 kX2_plant ⟨by decide, by decide⟩ rfl rfl (by decide) (hS.k (o85 (o90 t_x0))) (Nat.le_of_ble_eq_true rfl) (kc_X2_plant hG hS (o85 (o90 t_x0)) (hS.rk (c := 9) (k := 1) t_x0 rfl (by omega)) ok.1) (fun ⟨hS, hm_93⟩ => ?_)
  have hM := hM.trans hm_93
  have ok := ok.2
  exact cX.cutz (kb_X11_seal_96 hG hR hS hM t_x0 ok hx) ⟨rfl, rfl, rfl, rfl, trivial⟩
def KF_X11_seal_24 (N g H T : Nat)  (S : cS) : Int32 × cS := ((-1), S)
def KO_X11_seal_24 (N g H T : Nat)  (S : cS) : Prop := True
set_option maxRecDepth 100000 in
set_option maxHeartbeats 4000000 in
theorem kb_X11_seal_24 {G : zG} {o : cO} {g H T N : Nat} {S : cS} {S0 : cS} {Q : Option Value → cS → Prop} {X : Int32 × cS → Prop} (hG : zOK G) (hR : ∀ v S', St 1 g H T S' → Mono S0 S' → X (v, S') → Q (some (.int v)) S') (hS : St 1 g H T S) (hM : Mono S0 S) (ok : KO_X11_seal_24 N g H T S) (hx : X (KF_X11_seal_24 N g H T S)) : cX G o dX11_seal mX11_seal 24 [none, none, none, none, none, none, none] [] S Q := by
  unfold KO_X11_seal_24 at ok
  unfold KF_X11_seal_24 at hx
  refine c_iconst (v := -1) dX11_seal_24 (by decide) ?_
  exact c_ireturn rfl rfl dX11_seal_25 (hR _ _ hS hM hx)
def KF_X11_seal_0 (N g H T : Nat) (x0 : Nat) (x1 : Int32) (x2 : Int32) (x3 : Int32) (S : cS) : Int32 × cS := (if x1 < 0 then (KF_X11_seal_24 N g H T S) else (if x2 < 0 then (KF_X11_seal_24 N g H T S) else (if (cI S 3 x0) < x2 then (KF_X11_seal_24 N g H T S) else (if (nI 101) ≤ (x2 - x1) then (if 0 ≤ (k_X11_behindEvidences N g H T S x0 x1 x2) then (KF_X11_seal_55 N g H T x0 x1 x2 x3 (k_X11_behindEvidences N g H T S x0 x1 x2) S) else (KF_X11_seal_55 N g H T x0 x1 x2 x3 (x1 + (nI 101)) (csA S (g + 1) (x1 + (nI 100)).toNatClampNeg ((nI 0).toInt8.toInt32)))) else (KF_X11_seal_24 N g H T S)))))
def KO_X11_seal_0 (N g H T : Nat) (x0 : Nat) (x1 : Int32) (x2 : Int32) (x3 : Int32) (S : cS) : Prop := ((x1 < 0 → KO_X11_seal_24 N g H T S) ∧ (¬ x1 < 0 → ((x2 < 0 → KO_X11_seal_24 N g H T S) ∧ (¬ x2 < 0 → (((cI S 3 x0) < x2 → KO_X11_seal_24 N g H T S) ∧ (¬ (cI S 3 x0) < x2 → (((nI 101) ≤ (x2 - x1) → (p_X11_behindEvidences N g H T S x0 x1 x2) ∧ ((0 ≤ (k_X11_behindEvidences N g H T S x0 x1 x2) → KO_X11_seal_55 N g H T x0 x1 x2 x3 (k_X11_behindEvidences N g H T S x0 x1 x2) S) ∧ (¬ 0 ≤ (k_X11_behindEvidences N g H T S x0 x1 x2) → (vp_in (x1 + (nI 100)) 1000) ∧ KO_X11_seal_55 N g H T x0 x1 x2 x3 (x1 + (nI 101)) (csA S (g + 1) (x1 + (nI 100)).toNatClampNeg ((nI 0).toInt8.toInt32))))) ∧ (¬ (nI 101) ≤ (x2 - x1) → KO_X11_seal_24 N g H T S))))))))
set_option maxRecDepth 100000 in
set_option maxHeartbeats 4000000 in
theorem kb_X11_seal_0 {G : zG} {o : cO} {g H T N : Nat} {S : cS} {S0 : cS} {Q : Option Value → cS → Prop} {X : Int32 × cS → Prop} (hG : zOK G) (hR : ∀ v S', St 1 g H T S' → Mono S0 S' → X (v, S') → Q (some (.int v)) S') {x0 : Nat} {x1 : Int32} {x2 : Int32} {x3 : Int32} (hS : St 1 g H T S) (hM : Mono S0 S) (t_x0 : isO g H 9 x0) (ok : KO_X11_seal_0 N g H T x0 x1 x2 x3 S) (hx : X (KF_X11_seal_0 N g H T x0 x1 x2 x3 S)) : cX G o dX11_seal mX11_seal 0 [some (va_rf (some x0)), some (.int x1), some (.int x2), some (.int x3), none, none, none] [] S Q := by
  unfold KO_X11_seal_0 at ok
  unfold KF_X11_seal_0 at hx
  refine c_iload_n dX11_seal_0 rfl rfl ?_
  refine c_if_lt (tgt := 24) dX11_seal_1 (by decide) (fun c_1 => ?_) (fun c_1 => ?_)
  · have ok := ok.1 c_1
    have hx := xif_p c_1 hx
    exact cX.cutz (kb_X11_seal_24 hG hR hS hM  ok hx) trivial
  · have ok := ok.2 c_1
    have hx := xif_n c_1 hx
    refine c_iload_n dX11_seal_4 rfl rfl ?_
    refine c_if_lt (tgt := 24) dX11_seal_5 (by decide) (fun c_5 => ?_) (fun c_5 => ?_)
    · have ok := ok.1 c_5
      have hx := xif_p c_5 hx
      exact cX.cutz (kb_X11_seal_24 hG hR hS hM  ok hx) trivial
    · have ok := ok.2 c_5
      have hx := xif_n c_5 hx
      refine c_iload_n dX11_seal_8 rfl rfl ?_
      refine c_aload_nQ dX11_seal_9 rfl rfl ?_
      refine c_getI (C := RX11) (T := TX11) (N := 4) (ci := 9) (k := 3) ⟨rfl, inT11, by decide, fX11_26⟩ (by decide) (by decide) (by decide) dX11_seal_10 (hS.k t_x0) ?_
      refine c_icmp_gt (tgt := 24) dX11_seal_13 (by decide) (fun c_13 => ?_) (fun c_13 => ?_)
      · have ok := ok.1 c_13
        have hx := xif_p c_13 hx
        exact cX.cutz (kb_X11_seal_24 hG hR hS hM  ok hx) trivial
      · have ok := ok.2 c_13
        have hx := xif_n c_13 hx
        refine c_iload_n dX11_seal_16 rfl rfl ?_
        refine c_iload_n dX11_seal_17 rfl rfl ?_
        refine c_isub dX11_seal_18 ?_
        refine c_bipush (v := nI 101) dX11_seal_19 (by decide) ?_
        refine c_icmp_ge (tgt := 26) dX11_seal_21 (by decide) (fun c_21 => ?_) (fun c_21 => ?_)
        · have ok := ok.1 c_21
          have hx := xif_p c_21 hx
          refine c_aload_nQ dX11_seal_26 rfl rfl ?_
          refine c_iload_n dX11_seal_27 rfl rfl ?_
          refine c_iload_n dX11_seal_28 rfl rfl ?_
          refine c_V2iE (ci := 9) (rr := (RX11, TX11, 4)) (y' := mX11_behindEvidences) dX11_seal_29 lX11_94 kX11_behindEvidences ⟨by decide, by decide⟩ rfl rfl (by decide) (hS.k t_x0) (Nat.le_of_ble_eq_true rfl) (kc_X11_behindEvidences hG hS t_x0 ok.1) ?_
          have ok := ok.2
          refine c_istore_4 dX11_seal_32 (by decide) rfl ?_
          refine c_iload dX11_seal_34 rfl ?_
          refine c_if_ge (tgt := 55) dX11_seal_36 (by decide) (fun c_36 => ?_) (fun c_36 => ?_)
          · have ok := ok.1 c_36
            have hx := xif_p c_36 hx
            exact cX.cutz (kb_X11_seal_55 hG hR hS hM t_x0 ok hx) ⟨rfl, rfl, rfl, rfl, rfl, trivial⟩
          · have ok := ok.2 c_36
            have hx := xif_n c_36 hx
            refine c_aload_nQ dX11_seal_39 rfl rfl ?_
            refine c_getS (C := RX11) (T := TX11) (N := 4) (ci := 9) (k := 1) ⟨rfl, inT11, by decide, fX11_9⟩ (by decide) (by decide) (by decide) dX11_seal_40 (hS.k t_x0) (hS.r (c := 9) t_x0 rfl (by omega)) ?_
            refine c_iload_n dX11_seal_43 rfl rfl ?_
            refine c_bipush (v := nI 100) dX11_seal_44 (by decide) ?_
            refine c_iadd dX11_seal_46 ?_
            refine c_iconst (v := nI 0) dX11_seal_47 (by decide) ?_
            refine c_bast dX11_seal_48 ⟨(tK.cis (hS.rk (c := 9) (k := 1) t_x0 rfl (by omega)) (Option.some_ne_none _)), (vk_cast (hS.rl (c := 9) (k := 1) t_x0 rfl (by decide) (by omega)) ok.1)⟩ ?_
            have hS := hS.Ab (g + 1) (x1 + (nI 100)).toNatClampNeg (nI 0)
            have hM := hM.A (g + 1) (x1 + (nI 100)).toNatClampNeg ((nI 0).toInt8.toInt32)
            have ok := ok.2
            refine c_iload_n dX11_seal_49 rfl rfl ?_
            refine c_bipush (v := nI 101) dX11_seal_50 (by decide) ?_
            refine c_iadd dX11_seal_52 ?_
            refine c_istore_4 dX11_seal_53 (by decide) rfl ?_
            exact cX.cutz (kb_X11_seal_55 hG hR hS hM t_x0 ok hx) ⟨rfl, rfl, rfl, rfl, rfl, trivial⟩
        · have ok := ok.2 c_21
          have hx := xif_n c_21 hx
          exact cX.cutz (kb_X11_seal_24 hG hR hS hM  ok hx) trivial
def k_X11_seal (N g H T : Nat) (S : cS) (a0 : Nat) (x1 : Int32) (x2 : Int32) (x3 : Int32) : Int32 × cS := KF_X11_seal_0 N g H T a0 x1 x2 x3 S
def p_X11_seal (N g H T : Nat) (S : cS) (a0 : Nat) (x1 : Int32) (x2 : Int32) (x3 : Int32) : Prop := KO_X11_seal_0 N g H T a0 x1 x2 x3 S
set_option maxRecDepth 100000 in
set_option maxHeartbeats 4000000 in
theorem kc_X11_seal {G : zG} {o : cO} {g H T N : Nat} {S : cS} (hG : zOK G) {a0 : Nat} {x1 : Int32} {x2 : Int32} {x3 : Int32} (hS : St 1 g H T S) (t_x0 : isO g H 9 a0) (ok : p_X11_seal N g H T S a0 x1 x2 x3) : cCi G o dX11_seal mX11_seal [.ref a0, .int x1, .int x2, .int x3] S (fun v S' => (v = (k_X11_seal N g H T S a0 x1 x2 x3).1 ∧ S' = (k_X11_seal N g H T S a0 x1 x2 x3).2) ∧ St 1 g H T S' ∧ Mono S S') := by
  refine cC.ofX rfl (by exact Nat.le_of_ble_eq_true rfl) ?_
  show cX G o dX11_seal mX11_seal 0 [some (va_rf (some a0)), some (.int x1), some (.int x2), some (.int x3), none, none, none] [] S _
  exact cX.cutz (kb_X11_seal_0 (X := fun F => F = k_X11_seal N g H T S a0 x1 x2 x3) hG (fun v S' h1 h2 h => ⟨v, rfl, ⟨by rw [← h], by rw [← h]⟩, h1, h2⟩) hS Mono.rfl' t_x0 ok rfl) ⟨rfl, rfl, rfl, rfl, trivial⟩

/-! X7_addEvidences -/
def KF_X7_addEvidences_98 (N g H T : Nat) (x1 : Option Nat) (x3 : Int32) (x4 : Int32) (S : cS) : Int32 × cS := (x3, (csA S (za x1) (nI 106).toNatClampNeg ((x4.toInt8.toInt32).toInt8.toInt32)))
def KO_X7_addEvidences_98 (N g H T : Nat) (x1 : Option Nat) (x3 : Int32) (x4 : Int32) (S : cS) : Prop := (¬ x1 = none ∧ vp_in (nI 106) (cL S (za x1))) ∧ True
set_option maxRecDepth 100000 in
set_option maxHeartbeats 4000000 in
theorem kb_X7_addEvidences_98 {G : zG} {o : cO} {u g H T N : Nat} {S : cS} {S0 : cS} {Q : Option Value → cS → Prop} {X : Int32 × cS → Prop} (hG : zOK G) (hR : ∀ v S', St u g H T S' → Mono S0 S' → X (v, S') → Q (some (.int v)) S') {x1 : Option Nat} {x3 : Int32} {x4 : Int32} (hS : St u g H T S) (hM : Mono S0 S) (t_x1 : tK S 20 x1) (ok : KO_X7_addEvidences_98 N g H T x1 x3 x4 S) (hx : X (KF_X7_addEvidences_98 N g H T x1 x3 x4 S)) : cX G o dX7_addEvidences mX7_addEvidences 98 [none, some (va_rf x1), none, some (.int x3), some (.int x4), none, none] [] S Q := by
  unfold KO_X7_addEvidences_98 at ok
  unfold KF_X7_addEvidences_98 at hx
  refine c_aload_nQ dX7_addEvidences_98 rfl rfl ?_
  refine c_bipush (v := nI 106) dX7_addEvidences_99 (by decide) ?_
  refine c_iload dX7_addEvidences_101 rfl ?_
  refine c_i2b dX7_addEvidences_103 ?_
  refine c_bast dX7_addEvidences_104 ⟨(tK.cis t_x1 ok.1.1), ok.1.2⟩ ?_
  have hS := hS.Ab (za x1) (nI 106).toNatClampNeg (x4.toInt8.toInt32)
  have hM := hM.A (za x1) (nI 106).toNatClampNeg ((x4.toInt8.toInt32).toInt8.toInt32)
  have ok := ok.2
  refine c_iload_n dX7_addEvidences_105 rfl rfl ?_
  exact c_ireturn rfl rfl dX7_addEvidences_106 (hR _ _ hS hM hx)
def KF_X7_addEvidences_92 (N g H T : Nat) (rec : Option Nat → Option Nat → Int32 → Int32 → Int32 → cS → Nat × Option Nat × Int32 × Int32 × cS) (x0 : Option Nat) (x1 : Option Nat) (x3 : Int32) (x4 : Int32) (x5 : Int32) (S : cS) : Nat × Option Nat × Int32 × Int32 × cS := (rec x0 x1 x3 x4 (x5 + nI 1) S)
def KO_X7_addEvidences_92 (N g H T : Nat) (rok : Option Nat → Option Nat → Int32 → Int32 → Int32 → cS → Prop) (x0 : Option Nat) (x1 : Option Nat) (x3 : Int32) (x4 : Int32) (x5 : Int32) (S : cS) : Prop := rok x0 x1 x3 x4 (x5 + nI 1) S
set_option maxRecDepth 100000 in
set_option maxHeartbeats 4000000 in
theorem kb_X7_addEvidences_92 {G : zG} {o : cO} {u g H T N : Nat} {S : cS} {S0 : cS} {Q : Option Value → cS → Prop} {X : Nat × Option Nat × Int32 × Int32 × cS → Prop} (hG : zOK G) (hX0 : ∀ (x1 : Option Nat) (x3 : Int32) (x4 : Int32) (S' : cS), St u g H T S' → Mono S0 S' → tK S' 20 x1 → X (0, x1, x3, x4, S') → cX G o dX7_addEvidences mX7_addEvidences 98 [none, some (va_rf x1), none, some (.int x3), some (.int x4), none, none] [] S' Q) {rec : Option Nat → Option Nat → Int32 → Int32 → Int32 → cS → Nat × Option Nat × Int32 × Int32 × cS} {rok : Option Nat → Option Nat → Int32 → Int32 → Int32 → cS → Prop} (hrec : ∀ (x0 : Option Nat) (x1 : Option Nat) (x3 : Int32) (x4 : Int32) (x5 : Int32) (S : cS), St u g H T S → Mono S0 S → tN g H x0 → tK S 20 x1 → rok x0 x1 x3 x4 x5 S → X (rec x0 x1 x3 x4 x5 S) → cX G o dX7_addEvidences mX7_addEvidences 8 [some (va_rf x0), some (va_rf x1), none, some (.int x3), some (.int x4), some (.int x5), none] [] S Q) {x0 : Option Nat} {x1 : Option Nat} {x3 : Int32} {x4 : Int32} {x5 : Int32} (hS : St u g H T S) (hM : Mono S0 S) (t_x0 : tN g H x0) (t_x1 : tK S 20 x1) (ok : KO_X7_addEvidences_92 N g H T rok x0 x1 x3 x4 x5 S) (hx : X (KF_X7_addEvidences_92 N g H T rec x0 x1 x3 x4 x5 S)) : cX G o dX7_addEvidences mX7_addEvidences 92 [some (va_rf x0), some (va_rf x1), none, some (.int x3), some (.int x4), some (.int x5), none] [] S Q := by
  unfold KO_X7_addEvidences_92 at ok
  unfold KF_X7_addEvidences_92 at hx
  refine c_iinc_5 (v := (x5 + nI 1)) dX7_addEvidences_92 rfl (by first | rfl | (congr 1)) (by decide) rfl ?_
  refine c_goto (tgt := 8) dX7_addEvidences_95 (by decide) ?_
  exact cX.cutz (hrec _ _ _ _ _ S hS hM t_x0 t_x1 ok hx) ⟨rfl, rfl, rfl, rfl, rfl, trivial⟩
def KF_X7_addEvidences_79 (N g H T : Nat) (rec : Option Nat → Option Nat → Int32 → Int32 → Int32 → cS → Nat × Option Nat × Int32 × Int32 × cS) (x0 : Option Nat) (x1 : Option Nat) (x3 : Int32) (x4 : Int32) (x5 : Int32) (x6 : Option Nat) (S : cS) : Nat × Option Nat × Int32 × Int32 × cS := (KF_X7_addEvidences_92 N g H T rec x0 x1 (x3 + ((cI S 2 (za x6)) - (nI 1))) (x4 + nI 1) x5 S)
def KO_X7_addEvidences_79 (N g H T : Nat) (rok : Option Nat → Option Nat → Int32 → Int32 → Int32 → cS → Prop) (x0 : Option Nat) (x1 : Option Nat) (x3 : Int32) (x4 : Int32) (x5 : Int32) (x6 : Option Nat) (S : cS) : Prop := (¬ x6 = none) ∧ KO_X7_addEvidences_92 N g H T rok x0 x1 (x3 + ((cI S 2 (za x6)) - (nI 1))) (x4 + nI 1) x5 S
set_option maxRecDepth 100000 in
set_option maxHeartbeats 4000000 in
theorem kb_X7_addEvidences_79 {G : zG} {o : cO} {u g H T N : Nat} {S : cS} {S0 : cS} {Q : Option Value → cS → Prop} {X : Nat × Option Nat × Int32 × Int32 × cS → Prop} (hG : zOK G) (hX0 : ∀ (x1 : Option Nat) (x3 : Int32) (x4 : Int32) (S' : cS), St u g H T S' → Mono S0 S' → tK S' 20 x1 → X (0, x1, x3, x4, S') → cX G o dX7_addEvidences mX7_addEvidences 98 [none, some (va_rf x1), none, some (.int x3), some (.int x4), none, none] [] S' Q) {rec : Option Nat → Option Nat → Int32 → Int32 → Int32 → cS → Nat × Option Nat × Int32 × Int32 × cS} {rok : Option Nat → Option Nat → Int32 → Int32 → Int32 → cS → Prop} (hrec : ∀ (x0 : Option Nat) (x1 : Option Nat) (x3 : Int32) (x4 : Int32) (x5 : Int32) (S : cS), St u g H T S → Mono S0 S → tN g H x0 → tK S 20 x1 → rok x0 x1 x3 x4 x5 S → X (rec x0 x1 x3 x4 x5 S) → cX G o dX7_addEvidences mX7_addEvidences 8 [some (va_rf x0), some (va_rf x1), none, some (.int x3), some (.int x4), some (.int x5), none] [] S Q) {x0 : Option Nat} {x1 : Option Nat} {x3 : Int32} {x4 : Int32} {x5 : Int32} {x6 : Option Nat} (hS : St u g H T S) (hM : Mono S0 S) (t_x0 : tN g H x0) (t_x1 : tK S 20 x1) (t_x6 : tK S 5 x6) (ok : KO_X7_addEvidences_79 N g H T rok x0 x1 x3 x4 x5 x6 S) (hx : X (KF_X7_addEvidences_79 N g H T rec x0 x1 x3 x4 x5 x6 S)) : cX G o dX7_addEvidences mX7_addEvidences 79 [some (va_rf x0), some (va_rf x1), none, some (.int x3), some (.int x4), some (.int x5), some (va_rf x6)] [] S Q := by
  unfold KO_X7_addEvidences_79 at ok
  unfold KF_X7_addEvidences_79 at hx
  refine c_iload_n dX7_addEvidences_79 rfl rfl ?_
  refine c_aloadQ dX7_addEvidences_80 rfl ?_
  have nn_82 := ok.1
  refine c_getI (C := RX5) (T := TX5) (N := 7) (ci := 4) (k := 2) ⟨rfl, inT5, by decide, fX7_187⟩ (by decide) (by decide) (by decide) dX7_addEvidences_82 (tK.cis t_x6 ok.1) ?_
  have ok := ok.2
  refine c_iconst (v := nI 1) dX7_addEvidences_85 (by decide) ?_
  refine c_isub dX7_addEvidences_86 ?_
  refine c_iadd dX7_addEvidences_87 ?_
  refine c_istore_3 dX7_addEvidences_88 (by decide) rfl ?_
  refine c_iinc_4 (v := (x4 + nI 1)) dX7_addEvidences_89 rfl (by first | rfl | (congr 1)) (by decide) rfl ?_
  exact cX.cutz (kb_X7_addEvidences_92 hG hX0 hrec hS hM t_x0 t_x1 ok hx) ⟨rfl, rfl, rfl, rfl, rfl, trivial⟩
def KF_X7_addEvidences_58 (N g H T : Nat) (rec : Option Nat → Option Nat → Int32 → Int32 → Int32 → cS → Nat × Option Nat × Int32 × Int32 × cS) (x0 : Option Nat) (x1 : Option Nat) (x3 : Int32) (x4 : Int32) (x5 : Int32) (x6 : Option Nat) (s0 : Int32) (S : cS) : Nat × Option Nat × Int32 × Int32 × cS := (if s0 = 0 then (KF_X7_addEvidences_92 N g H T rec x0 x1 x3 x4 x5 S) else (KF_X7_addEvidences_79 N g H T rec x0 x1 x3 x4 x5 x6 (csArow S (za x1) (va_cpy (cA S ((za x6) + 2)) (cA S (za x1)) (nI 1).toNatClampNeg x3.toNatClampNeg ((cI S 2 (za x6)) - (nI 1)).toNatClampNeg))))
def KO_X7_addEvidences_58 (N g H T : Nat) (rok : Option Nat → Option Nat → Int32 → Int32 → Int32 → cS → Prop) (x0 : Option Nat) (x1 : Option Nat) (x3 : Int32) (x4 : Int32) (x5 : Int32) (x6 : Option Nat) (s0 : Int32) (S : cS) : Prop := ((s0 = 0 → KO_X7_addEvidences_92 N g H T rok x0 x1 x3 x4 x5 S) ∧ (¬ s0 = 0 → (¬ x6 = none) ∧ (¬ x1 = none ∧ (¬ (nI 1) < 0 ∧ ¬ x3 < 0 ∧ ¬ ((cI S 2 (za x6)) - (nI 1)) < 0) ∧ (nI 1).toNatClampNeg + ((cI S 2 (za x6)) - (nI 1)).toNatClampNeg ≤ (cL S ((za x6) + 2)) ∧ x3.toNatClampNeg + ((cI S 2 (za x6)) - (nI 1)).toNatClampNeg ≤ (cL S (za x1))) ∧ KO_X7_addEvidences_79 N g H T rok x0 x1 x3 x4 x5 x6 (csArow S (za x1) (va_cpy (cA S ((za x6) + 2)) (cA S (za x1)) (nI 1).toNatClampNeg x3.toNatClampNeg ((cI S 2 (za x6)) - (nI 1)).toNatClampNeg))))
set_option maxRecDepth 100000 in
set_option maxHeartbeats 4000000 in
theorem kb_X7_addEvidences_58 {G : zG} {o : cO} {u g H T N : Nat} {S : cS} {S0 : cS} {Q : Option Value → cS → Prop} {X : Nat × Option Nat × Int32 × Int32 × cS → Prop} (hG : zOK G) (hX0 : ∀ (x1 : Option Nat) (x3 : Int32) (x4 : Int32) (S' : cS), St u g H T S' → Mono S0 S' → tK S' 20 x1 → X (0, x1, x3, x4, S') → cX G o dX7_addEvidences mX7_addEvidences 98 [none, some (va_rf x1), none, some (.int x3), some (.int x4), none, none] [] S' Q) {rec : Option Nat → Option Nat → Int32 → Int32 → Int32 → cS → Nat × Option Nat × Int32 × Int32 × cS} {rok : Option Nat → Option Nat → Int32 → Int32 → Int32 → cS → Prop} (hrec : ∀ (x0 : Option Nat) (x1 : Option Nat) (x3 : Int32) (x4 : Int32) (x5 : Int32) (S : cS), St u g H T S → Mono S0 S → tN g H x0 → tK S 20 x1 → rok x0 x1 x3 x4 x5 S → X (rec x0 x1 x3 x4 x5 S) → cX G o dX7_addEvidences mX7_addEvidences 8 [some (va_rf x0), some (va_rf x1), none, some (.int x3), some (.int x4), some (.int x5), none] [] S Q) {x0 : Option Nat} {x1 : Option Nat} {x3 : Int32} {x4 : Int32} {x5 : Int32} {x6 : Option Nat} {s0 : Int32} (hS : St u g H T S) (hM : Mono S0 S) (t_x0 : tN g H x0) (t_x1 : tK S 20 x1) (t_x6 : tK S 5 x6) (ok : KO_X7_addEvidences_58 N g H T rok x0 x1 x3 x4 x5 x6 s0 S) (hx : X (KF_X7_addEvidences_58 N g H T rec x0 x1 x3 x4 x5 x6 s0 S)) : cX G o dX7_addEvidences mX7_addEvidences 58 [some (va_rf x0), some (va_rf x1), none, some (.int x3), some (.int x4), some (.int x5), some (va_rf x6)] [.int s0] S Q := by
  unfold KO_X7_addEvidences_58 at ok
  unfold KF_X7_addEvidences_58 at hx
  refine c_if_eq (tgt := 92) dX7_addEvidences_58 (by decide) (fun c_58 => ?_) (fun c_58 => ?_)
  · have ok := ok.1 c_58
    have hx := xif_p c_58 hx
    exact cX.cutz (kb_X7_addEvidences_92 hG hX0 hrec hS hM t_x0 t_x1 ok hx) ⟨rfl, rfl, rfl, rfl, rfl, trivial⟩
  · have ok := ok.2 c_58
    have hx := xif_n c_58 hx
    refine c_aloadQ dX7_addEvidences_61 rfl ?_
    have nn_63 := ok.1
    have p_63 := hS.m0k t_x6 ok.1
    refine c_getS (C := RX5) (T := TX5) (N := 7) (ci := 4) (k := 0) ⟨rfl, inT5, by decide, fX7_123⟩ (by decide) (by decide) (by decide) dX7_addEvidences_63 (tK.cis t_x6 ok.1) (hS.m0 t_x6 ok.1) ?_
    have ok := ok.2
    refine c_iconst (v := nI 1) dX7_addEvidences_66 (by decide) ?_
    refine c_aload_nQ dX7_addEvidences_67 rfl rfl ?_
    refine c_iload_n dX7_addEvidences_68 rfl rfl ?_
    refine c_aloadQ dX7_addEvidences_69 rfl ?_
    refine c_getI (C := RX5) (T := TX5) (N := 7) (ci := 4) (k := 2) ⟨rfl, inT5, by decide, fX7_187⟩ (by decide) (by decide) (by decide) dX7_addEvidences_71 (tK.cis t_x6 nn_63) ?_
    refine c_iconst (v := nI 1) dX7_addEvidences_74 (by decide) ?_
    refine c_isub dX7_addEvidences_75 ?_
    have tq_76 : tK S 20 (some ((za x6) + 2)) := tK_some (tK.cis p_63 (Option.some_ne_none _)).2
    refine c_copy0 hG dX7_addEvidences_76 qX7_130 (by decide) (by decide) ⟨tK.cis p_63 (Option.some_ne_none _), tK.cis t_x1 ok.1.1, ok.1.2.1, ok.1.2.2.1, ok.1.2.2.2⟩ ?_
    have hS := hS.Ac (za x1) ((za x6) + 2) (nI 1).toNatClampNeg x3.toNatClampNeg ((cI S 2 (za x6)) - (nI 1)).toNatClampNeg tq_76
    have hM := hM.Ar (za x1) (va_cpy (cA S ((za x6) + 2)) (cA S (za x1)) (nI 1).toNatClampNeg x3.toNatClampNeg ((cI S 2 (za x6)) - (nI 1)).toNatClampNeg)
    have ok := ok.2
    exact cX.cutz (kb_X7_addEvidences_79 hG hX0 hrec hS hM t_x0 (tK_Ar t_x1) (tK_Ar t_x6) ok hx) ⟨rfl, rfl, rfl, rfl, rfl, rfl, trivial⟩
def KB_X7_addEvidences_8 (N g H T : Nat) (rec : Option Nat → Option Nat → Int32 → Int32 → Int32 → cS → Nat × Option Nat × Int32 × Int32 × cS) (x0 : Option Nat) (x1 : Option Nat) (x3 : Int32) (x4 : Int32) (x5 : Int32) (S : cS) : Nat × Option Nat × Int32 × Int32 × cS := (if (cI S 1 (g + 8)) ≤ x5 then (0, x1, x3, x4, S) else (if (nI 2) ≤ x4 then (0, x1, x3, x4, S) else (if (k_X8_proofOf N g H T S ((za x0) + 14) x5) = none then (KF_X7_addEvidences_92 N g H T rec x0 x1 x3 x4 x5 S) else (KF_X7_addEvidences_58 N g H T rec x0 x1 x3 x4 x5 (k_X8_proofOf N g H T S ((za x0) + 14) x5) ((k_X0_punish N g H T S (g + 18) x5 (cI S 1 (za x0))).1) (k_X0_punish N g H T S (g + 18) x5 (cI S 1 (za x0))).2))))
def KOB_X7_addEvidences_8 (N g H T : Nat) (rok : Option Nat → Option Nat → Int32 → Int32 → Int32 → cS → Prop) (x0 : Option Nat) (x1 : Option Nat) (x3 : Int32) (x4 : Int32) (x5 : Int32) (S : cS) : Prop := (¬ x0 = none) ∧ (((cI S 1 (g + 8)) ≤ x5 → True) ∧ (¬ (cI S 1 (g + 8)) ≤ x5 → (((nI 2) ≤ x4 → True) ∧ (¬ (nI 2) ≤ x4 → (p_X8_proofOf N g H T S ((za x0) + 14) x5) ∧ (((k_X8_proofOf N g H T S ((za x0) + 14) x5) = none → KO_X7_addEvidences_92 N g H T rok x0 x1 x3 x4 x5 S) ∧ (¬ (k_X8_proofOf N g H T S ((za x0) + 14) x5) = none → (p_X0_punish N g H T S (g + 18) x5 (cI S 1 (za x0))) ∧ KO_X7_addEvidences_58 N g H T rok x0 x1 x3 x4 x5 (k_X8_proofOf N g H T S ((za x0) + 14) x5) ((k_X0_punish N g H T S (g + 18) x5 (cI S 1 (za x0))).1) (k_X0_punish N g H T S (g + 18) x5 (cI S 1 (za x0))).2))))))
set_option maxRecDepth 100000 in
set_option maxHeartbeats 4000000 in
theorem kbb_X7_addEvidences_8 {G : zG} {o : cO} {u g H T N : Nat} {S : cS} {S0 : cS} {Q : Option Value → cS → Prop} {X : Nat × Option Nat × Int32 × Int32 × cS → Prop} (hG : zOK G) (hX0 : ∀ (x1 : Option Nat) (x3 : Int32) (x4 : Int32) (S' : cS), St u g H T S' → Mono S0 S' → tK S' 20 x1 → X (0, x1, x3, x4, S') → cX G o dX7_addEvidences mX7_addEvidences 98 [none, some (va_rf x1), none, some (.int x3), some (.int x4), none, none] [] S' Q) {rec : Option Nat → Option Nat → Int32 → Int32 → Int32 → cS → Nat × Option Nat × Int32 × Int32 × cS} {rok : Option Nat → Option Nat → Int32 → Int32 → Int32 → cS → Prop} (hrec : ∀ (x0 : Option Nat) (x1 : Option Nat) (x3 : Int32) (x4 : Int32) (x5 : Int32) (S : cS), St u g H T S → Mono S0 S → tN g H x0 → tK S 20 x1 → rok x0 x1 x3 x4 x5 S → X (rec x0 x1 x3 x4 x5 S) → cX G o dX7_addEvidences mX7_addEvidences 8 [some (va_rf x0), some (va_rf x1), none, some (.int x3), some (.int x4), some (.int x5), none] [] S Q) {x0 : Option Nat} {x1 : Option Nat} {x3 : Int32} {x4 : Int32} {x5 : Int32} (hS : St u g H T S) (hM : Mono S0 S) (t_x0 : tN g H x0) (t_x1 : tK S 20 x1) (ok : KOB_X7_addEvidences_8 N g H T rok x0 x1 x3 x4 x5 S) (hx : X (KB_X7_addEvidences_8 N g H T rec x0 x1 x3 x4 x5 S)) : cX G o dX7_addEvidences mX7_addEvidences 8 [some (va_rf x0), some (va_rf x1), none, some (.int x3), some (.int x4), some (.int x5), none] [] S Q := by
  unfold KOB_X7_addEvidences_8 at ok
  unfold KB_X7_addEvidences_8 at hx
  refine c_iload dX7_addEvidences_8 rfl ?_
  refine c_aload_nQ dX7_addEvidences_10 rfl rfl ?_
  have nn_11 := ok.1
  refine c_getS (C := RX6) (T := TX6) (N := 19) (ci := 5) (k := 0) ⟨rfl, inT6, by decide, fX7_26⟩ (by decide) (by decide) (by decide) dX7_addEvidences_11 (hS.kN t_x0 ok.1) (hS.r (c := 5) (tN.o t_x0 ok.1) rfl (by omega)) ?_
  have ok := ok.2
  refine c_getI (C := RX10) (T := TX10) (N := 12) (ci := 8) (k := 1) ⟨rfl, inT10, by decide, fX7_84⟩ (by decide) (by decide) (by decide) dX7_addEvidences_14 (hS.k (o50 (tN.o t_x0 nn_11))) ?_
  refine c_icmp_ge (tgt := 98) dX7_addEvidences_17 (by decide) (fun c_17 => ?_) (fun c_17 => ?_)
  · have ok := ok.1 c_17
    have hx := xif_p c_17 hx
    exact cX.cutz (hX0 _ _ _ S hS hM t_x1 hx) ⟨rfl, rfl, rfl, trivial⟩
  · have ok := ok.2 c_17
    have hx := xif_n c_17 hx
    refine c_iload dX7_addEvidences_20 rfl ?_
    refine c_iconst (v := nI 2) dX7_addEvidences_22 (by decide) ?_
    refine c_icmp_ge (tgt := 98) dX7_addEvidences_23 (by decide) (fun c_23 => ?_) (fun c_23 => ?_)
    · have ok := ok.1 c_23
      have hx := xif_p c_23 hx
      exact cX.cutz (hX0 _ _ _ S hS hM t_x1 hx) ⟨rfl, rfl, rfl, trivial⟩
    · have ok := ok.2 c_23
      have hx := xif_n c_23 hx
      refine c_aload_nQ dX7_addEvidences_26 rfl rfl ?_
      refine c_getS (C := RX6) (T := TX6) (N := 19) (ci := 5) (k := 3) ⟨rfl, inT6, by decide, fX7_80⟩ (by decide) (by decide) (by decide) dX7_addEvidences_27 (hS.kN t_x0 nn_11) (hS.r (c := 5) (tN.o t_x0 nn_11) rfl (by omega)) ?_
      refine c_iload dX7_addEvidences_30 rfl ?_
      refine c_V1qK (ci := 6) (rr := (RX8, TX8, 14)) (y' := mX8_proofOf) dX7_addEvidences_32 lX7_372 kX8_proofOf ⟨by decide, by decide⟩ rfl rfl (by decide) (hS.k (o53 (tN.o t_x0 nn_11))) (Nat.le_of_ble_eq_true rfl) (kc_X8_proofOf hG hS (o53 (tN.o t_x0 nn_11)) ok.1) (fun tv_32 => ?_)
      have ok := ok.2
      refine c_astore_6Q dX7_addEvidences_35 (by decide) rfl ?_
      refine c_aloadQ dX7_addEvidences_37 rfl ?_
      refine c_ifnullI (tgt := 92) dX7_addEvidences_39 (by decide) (fun c_39 => ?_) (fun c_39 => ?_)
      · have ok := ok.1 c_39
        have hx := xif_p c_39 hx
        exact cX.cutz (kb_X7_addEvidences_92 hG hX0 hrec hS hM t_x0 t_x1 ok hx) ⟨rfl, rfl, rfl, rfl, rfl, trivial⟩
      · have ok := ok.2 c_39
        have hx := xif_n c_39 hx
        refine c_aload_nQ dX7_addEvidences_42 rfl rfl ?_
        refine c_getS (C := RX6) (T := TX6) (N := 19) (ci := 5) (k := 0) ⟨rfl, inT6, by decide, fX7_26⟩ (by decide) (by decide) (by decide) dX7_addEvidences_43 (hS.kN t_x0 nn_11) (hS.r (c := 5) (tN.o t_x0 nn_11) rfl (by omega)) ?_
        refine c_getS (C := RX10) (T := TX10) (N := 12) (ci := 8) (k := 8) ⟨rfl, inT10, by decide, fX7_338⟩ (by decide) (by decide) (by decide) dX7_addEvidences_46 (hS.k (o50 (tN.o t_x0 nn_11))) (hS.r (c := 8) (o50 (tN.o t_x0 nn_11)) rfl (by omega)) ?_
        refine c_iload dX7_addEvidences_49 rfl ?_
        refine c_aload_nQ dX7_addEvidences_51 rfl rfl ?_
        refine c_getI (C := RX6) (T := TX6) (N := 19) (ci := 5) (k := 1) ⟨rfl, inT6, by decide, fX7_271⟩ (by decide) (by decide) (by decide) dX7_addEvidences_52 (hS.kN t_x0 nn_11) ?_
        refine c_V2iK (ci := 0) (rr := (RX0, TX0, 6)) (y' := mX0_punish) dX7_addEvidences_55 lX7_375 kX0_punish ⟨by decide, by decide⟩ rfl rfl (by decide) (hS.k (o88 (o50 (tN.o t_x0 nn_11)))) (Nat.le_of_ble_eq_true rfl) (kc_X0_punish hG hS (o88 (o50 (tN.o t_x0 nn_11))) ok.1) (fun ⟨hS, hm_55⟩ => ?_)
        have hM := hM.trans hm_55
        have ok := ok.2
        exact cX.cutz (kb_X7_addEvidences_58 hG hX0 hrec hS hM t_x0 (hm_55.tK t_x1 (by decide)) (hm_55.tK tv_32 (by decide)) ok hx) ⟨rfl, rfl, rfl, rfl, rfl, rfl, trivial⟩
def KL_X7_addEvidences_8 (N g H T : Nat) : Nat → Option Nat → Option Nat → Int32 → Int32 → Int32 → cS → Nat × Option Nat × Int32 × Int32 × cS
  | 0, x0, x1, x3, x4, x5, S => (0, none, 0, 0, S)
  | n + 1, x0, x1, x3, x4, x5, S => KB_X7_addEvidences_8 N g H T (KL_X7_addEvidences_8 N g H T n) x0 x1 x3 x4 x5 S
def KOL_X7_addEvidences_8 (N g H T : Nat) : Nat → Option Nat → Option Nat → Int32 → Int32 → Int32 → cS → Prop
  | 0, _, _, _, _, _, _ => False
  | n + 1, x0, x1, x3, x4, x5, S => KOB_X7_addEvidences_8 N g H T (KOL_X7_addEvidences_8 N g H T n) x0 x1 x3 x4 x5 S
set_option maxRecDepth 100000 in
set_option maxHeartbeats 4000000 in
theorem kl_X7_addEvidences_8 {G : zG} {o : cO} {u g H T N : Nat} {S0 : cS} {Q : Option Value → cS → Prop} {X : Nat × Option Nat × Int32 × Int32 × cS → Prop} (hG : zOK G) (hX0 : ∀ (x1 : Option Nat) (x3 : Int32) (x4 : Int32) (S' : cS), St u g H T S' → Mono S0 S' → tK S' 20 x1 → X (0, x1, x3, x4, S') → cX G o dX7_addEvidences mX7_addEvidences 98 [none, some (va_rf x1), none, some (.int x3), some (.int x4), none, none] [] S' Q) : ∀ (n : Nat) (x0 : Option Nat) (x1 : Option Nat) (x3 : Int32) (x4 : Int32) (x5 : Int32) (S : cS), St u g H T S → Mono S0 S → tN g H x0 → tK S 20 x1 → KOL_X7_addEvidences_8 N g H T n x0 x1 x3 x4 x5 S → X (KL_X7_addEvidences_8 N g H T n x0 x1 x3 x4 x5 S) → cX G o dX7_addEvidences mX7_addEvidences 8 [some (va_rf x0), some (va_rf x1), none, some (.int x3), some (.int x4), some (.int x5), none] [] S Q := by
  intro n
  induction n with
  | zero => intro x0 x1 x3 x4 x5 S hS hM t_x0 t_x1 ok; exact absurd ok id
  | succ n ih =>
    intro x0 x1 x3 x4 x5 S hS hM t_x0 t_x1 ok hx
    exact kbb_X7_addEvidences_8 hG hX0 (rec := KL_X7_addEvidences_8 N g H T n) (rok := KOL_X7_addEvidences_8 N g H T n) (fun x0 x1 x3 x4 x5 S hS hM t_x0 t_x1 ok hx => ih x0 x1 x3 x4 x5 S hS hM t_x0 t_x1 ok hx) hS hM t_x0 t_x1 ok hx
def KA_X7_addEvidences_8 (N g H T : Nat) (x0 : Option Nat) (x1 : Option Nat) (x3 : Int32) (x4 : Int32) (x5 : Int32) (S : cS) (z : Nat × Option Nat × Int32 × Int32 × cS) : Int32 × cS := (KF_X7_addEvidences_98 N g H T (z.2.1) (z.2.2.1) (z.2.2.2.1) z.2.2.2.2)
def KOA_X7_addEvidences_8 (N g H T : Nat) (x0 : Option Nat) (x1 : Option Nat) (x3 : Int32) (x4 : Int32) (x5 : Int32) (S : cS) (z : Nat × Option Nat × Int32 × Int32 × cS) : Prop := KO_X7_addEvidences_98 N g H T (z.2.1) (z.2.2.1) (z.2.2.2.1) z.2.2.2.2
set_option maxRecDepth 100000 in
set_option maxHeartbeats 4000000 in
theorem kd_X7_addEvidences_8 {G : zG} {o : cO} {u g H T N : Nat} {S : cS} {S0 : cS} {Q : Option Value → cS → Prop} {X : Int32 × cS → Prop} (hG : zOK G) (hR : ∀ v S', St u g H T S' → Mono S0 S' → X (v, S') → Q (some (.int v)) S') {x0 : Option Nat} {x1 : Option Nat} {x3 : Int32} {x4 : Int32} {x5 : Int32} (hS : St u g H T S) (hM : Mono S0 S) (t_x0 : tN g H x0) (t_x1 : tK S 20 x1) (ok : KOL_X7_addEvidences_8 N g H T N x0 x1 x3 x4 x5 S ∧ KOA_X7_addEvidences_8 N g H T x0 x1 x3 x4 x5 S (KL_X7_addEvidences_8 N g H T N x0 x1 x3 x4 x5 S)) (hx : X (KA_X7_addEvidences_8 N g H T x0 x1 x3 x4 x5 S (KL_X7_addEvidences_8 N g H T N x0 x1 x3 x4 x5 S))) : cX G o dX7_addEvidences mX7_addEvidences 8 [some (va_rf x0), some (va_rf x1), none, some (.int x3), some (.int x4), some (.int x5), none] [] S Q := by
  refine kl_X7_addEvidences_8 hG ?_ N x0 x1 x3 x4 x5 S hS hM t_x0 t_x1 ok.1 (X := fun z => KOA_X7_addEvidences_8 N g H T x0 x1 x3 x4 x5 S z ∧ X (KA_X7_addEvidences_8 N g H T x0 x1 x3 x4 x5 S z)) ⟨ok.2, hx⟩
  · intro x1' x3' x4' S' hS hM t_x1 hz
    obtain ⟨ok, hx⟩ := hz
    unfold KOA_X7_addEvidences_8 at ok
    unfold KA_X7_addEvidences_8 at hx
    exact cX.cutz (kb_X7_addEvidences_98 hG hR hS hM t_x1 ok hx) ⟨rfl, rfl, rfl, trivial⟩
def KF_X7_addEvidences_0 (N g H T : Nat) (x0 : Option Nat) (x1 : Option Nat) (x2 : Int32) (S : cS) : Int32 × cS := (KA_X7_addEvidences_8 N g H T x0 x1 x2 (nI 0) (nI 0) S (KL_X7_addEvidences_8 N g H T N x0 x1 x2 (nI 0) (nI 0) S))
def KO_X7_addEvidences_0 (N g H T : Nat) (x0 : Option Nat) (x1 : Option Nat) (x2 : Int32) (S : cS) : Prop := (KOL_X7_addEvidences_8 N g H T N x0 x1 x2 (nI 0) (nI 0) S ∧ KOA_X7_addEvidences_8 N g H T x0 x1 x2 (nI 0) (nI 0) S (KL_X7_addEvidences_8 N g H T N x0 x1 x2 (nI 0) (nI 0) S))
set_option maxRecDepth 100000 in
set_option maxHeartbeats 4000000 in
theorem kb_X7_addEvidences_0 {G : zG} {o : cO} {u g H T N : Nat} {S : cS} {S0 : cS} {Q : Option Value → cS → Prop} {X : Int32 × cS → Prop} (hG : zOK G) (hR : ∀ v S', St u g H T S' → Mono S0 S' → X (v, S') → Q (some (.int v)) S') {x0 : Option Nat} {x1 : Option Nat} {x2 : Int32} (hS : St u g H T S) (hM : Mono S0 S) (t_x0 : tN g H x0) (t_x1 : tK S 20 x1) (ok : KO_X7_addEvidences_0 N g H T x0 x1 x2 S) (hx : X (KF_X7_addEvidences_0 N g H T x0 x1 x2 S)) : cX G o dX7_addEvidences mX7_addEvidences 0 [some (va_rf x0), some (va_rf x1), some (.int x2), none, none, none, none] [] S Q := by
  unfold KO_X7_addEvidences_0 at ok
  unfold KF_X7_addEvidences_0 at hx
  refine c_iload_n dX7_addEvidences_0 rfl rfl ?_
  refine c_istore_3 dX7_addEvidences_1 (by decide) rfl ?_
  refine c_iconst (v := nI 0) dX7_addEvidences_2 (by decide) ?_
  refine c_istore_4 dX7_addEvidences_3 (by decide) rfl ?_
  refine c_iconst (v := nI 0) dX7_addEvidences_5 (by decide) ?_
  refine c_istore_5 dX7_addEvidences_6 (by decide) rfl ?_
  exact cX.cutz (kd_X7_addEvidences_8 hG hR hS hM t_x0 t_x1 ok hx) ⟨rfl, rfl, rfl, rfl, rfl, trivial⟩
def k_X7_addEvidences (N g H T : Nat) (S : cS) (x0 : Option Nat) (x1 : Option Nat) (x2 : Int32) : Int32 × cS := KF_X7_addEvidences_0 N g H T x0 x1 x2 S
def p_X7_addEvidences (N g H T : Nat) (S : cS) (x0 : Option Nat) (x1 : Option Nat) (x2 : Int32) : Prop := KO_X7_addEvidences_0 N g H T x0 x1 x2 S
set_option maxRecDepth 100000 in
set_option maxHeartbeats 4000000 in
theorem kc_X7_addEvidences {G : zG} {o : cO} {u g H T N : Nat} {S : cS} (hG : zOK G) {x0 : Option Nat} {x1 : Option Nat} {x2 : Int32} (hS : St u g H T S) (t_x0 : tN g H x0) (t_x1 : tK S 20 x1) (ok : p_X7_addEvidences N g H T S x0 x1 x2) : cCi G o dX7_addEvidences mX7_addEvidences [va_rf x0, va_rf x1, .int x2] S (fun v S' => (v = (k_X7_addEvidences N g H T S x0 x1 x2).1 ∧ S' = (k_X7_addEvidences N g H T S x0 x1 x2).2) ∧ St u g H T S' ∧ Mono S S') := by
  refine cC.ofX rfl (by cases x0 <;> cases x1 <;> exact Nat.le_of_ble_eq_true rfl) ?_
  rw [show zargs mX7_addEvidences.2.2.1 [va_rf x0, va_rf x1, .int x2] = [some (va_rf x0), some (va_rf x1), some (.int x2), none, none, none, none] from by cases x0 <;> cases x1 <;> rfl]
  exact cX.cutz (kb_X7_addEvidences_0 (X := fun F => F = k_X7_addEvidences N g H T S x0 x1 x2) hG (fun v S' h1 h2 h => ⟨v, rfl, ⟨by rw [← h], by rw [← h]⟩, h1, h2⟩) hS Mono.rfl' t_x0 t_x1 ok rfl) ⟨rfl, rfl, rfl, trivial⟩
/-! X8_paymentAt -/
def KF_X8_paymentAt_22 (N g H T : Nat) (s0 : Int64) (S : cS) : Int64 := s0
def KO_X8_paymentAt_22 (N g H T : Nat) (s0 : Int64) (S : cS) : Prop := True
set_option maxRecDepth 100000 in
set_option maxHeartbeats 4000000 in
theorem kb_X8_paymentAt_22 {G : zG} {o : cO} {u g H T N : Nat} {S : cS} {Q : Option Value → cS → Prop} {X : Int64 → Prop} (hG : zOK G) (hR : ∀ v, X v → Q (some (.long v)) S) {s0 : Int64} (hS : St u g H T S) (ok : KO_X8_paymentAt_22 N g H T s0 S) (hx : X (KF_X8_paymentAt_22 N g H T s0 S)) : cX G o dX8_paymentAt mX8_paymentAt 22 [none, none] [.long s0] S Q := by
  unfold KO_X8_paymentAt_22 at ok
  unfold KF_X8_paymentAt_22 at hx
  exact c_lreturn rfl dX8_paymentAt_22 (hR _ hx)
def KF_X8_paymentAt_21 (N g H T : Nat)  (S : cS) : Int64 := (KF_X8_paymentAt_22 N g H T (0 : Int64) S)
def KO_X8_paymentAt_21 (N g H T : Nat)  (S : cS) : Prop := KO_X8_paymentAt_22 N g H T (0 : Int64) S
set_option maxRecDepth 100000 in
set_option maxHeartbeats 4000000 in
theorem kb_X8_paymentAt_21 {G : zG} {o : cO} {u g H T N : Nat} {S : cS} {Q : Option Value → cS → Prop} {X : Int64 → Prop} (hG : zOK G) (hR : ∀ v, X v → Q (some (.long v)) S) (hS : St u g H T S) (ok : KO_X8_paymentAt_21 N g H T S) (hx : X (KF_X8_paymentAt_21 N g H T S)) : cX G o dX8_paymentAt mX8_paymentAt 21 [none, none] [] S Q := by
  unfold KO_X8_paymentAt_21 at ok
  unfold KF_X8_paymentAt_21 at hx
  refine c_lconst (v := 0) dX8_paymentAt_21 rfl ?_
  exact cX.cutz (kb_X8_paymentAt_22 hG hR hS  ok hx) trivial
def KF_X8_paymentAt_0 (N g H T : Nat) (x0 : Nat) (x1 : Int32) (S : cS) : Int64 := (if x1 < 0 then (KF_X8_paymentAt_21 N g H T S) else (if (cI S 12 x0) ≤ x1 then (KF_X8_paymentAt_21 N g H T S) else (KF_X8_paymentAt_22 N g H T (cJ S (x0 + 4) x1.toNatClampNeg) S)))
def KO_X8_paymentAt_0 (N g H T : Nat) (x0 : Nat) (x1 : Int32) (S : cS) : Prop := ((x1 < 0 → KO_X8_paymentAt_21 N g H T S) ∧ (¬ x1 < 0 → (((cI S 12 x0) ≤ x1 → KO_X8_paymentAt_21 N g H T S) ∧ (¬ (cI S 12 x0) ≤ x1 → (vp_in x1 80) ∧ KO_X8_paymentAt_22 N g H T (cJ S (x0 + 4) x1.toNatClampNeg) S))))
set_option maxRecDepth 100000 in
set_option maxHeartbeats 4000000 in
theorem kb_X8_paymentAt_0 {G : zG} {o : cO} {u g H T N : Nat} {S : cS} {Q : Option Value → cS → Prop} {X : Int64 → Prop} (hG : zOK G) (hR : ∀ v, X v → Q (some (.long v)) S) {x0 : Nat} {x1 : Int32} (hS : St u g H T S) (t_x0 : isO g H 6 x0) (ok : KO_X8_paymentAt_0 N g H T x0 x1 S) (hx : X (KF_X8_paymentAt_0 N g H T x0 x1 S)) : cX G o dX8_paymentAt mX8_paymentAt 0 [some (va_rf (some x0)), some (.int x1)] [] S Q := by
  unfold KO_X8_paymentAt_0 at ok
  unfold KF_X8_paymentAt_0 at hx
  refine c_iload_n dX8_paymentAt_0 rfl rfl ?_
  refine c_if_lt (tgt := 21) dX8_paymentAt_1 (by decide) (fun c_1 => ?_) (fun c_1 => ?_)
  · have ok := ok.1 c_1
    have hx := xif_p c_1 hx
    exact cX.cutz (kb_X8_paymentAt_21 hG hR hS  ok hx) trivial
  · have ok := ok.2 c_1
    have hx := xif_n c_1 hx
    refine c_iload_n dX8_paymentAt_4 rfl rfl ?_
    refine c_aload_nQ dX8_paymentAt_5 rfl rfl ?_
    refine c_getI (C := RX8) (T := TX8) (N := 14) (ci := 6) (k := 12) ⟨rfl, inT8, by decide, fX8_108⟩ (by decide) (by decide) (by decide) dX8_paymentAt_6 (hS.k t_x0) ?_
    refine c_icmp_ge (tgt := 21) dX8_paymentAt_9 (by decide) (fun c_9 => ?_) (fun c_9 => ?_)
    · have ok := ok.1 c_9
      have hx := xif_p c_9 hx
      exact cX.cutz (kb_X8_paymentAt_21 hG hR hS  ok hx) trivial
    · have ok := ok.2 c_9
      have hx := xif_n c_9 hx
      refine c_aload_nQ dX8_paymentAt_12 rfl rfl ?_
      refine c_getS (C := RX8) (T := TX8) (N := 14) (ci := 6) (k := 10) ⟨rfl, inT8, by decide, fX8_24⟩ (by decide) (by decide) (by decide) dX8_paymentAt_13 (hS.k t_x0) (hS.r (c := 6) t_x0 rfl (by omega)) ?_
      refine c_iload_n dX8_paymentAt_16 rfl rfl ?_
      refine c_lald dX8_paymentAt_17 ⟨(tK.cis (hS.rk (c := 6) (k := 10) t_x0 rfl (by omega)) (Option.some_ne_none _)), (vk_cast (hS.rl (c := 6) (k := 10) t_x0 rfl (by decide) (by omega)) ok.1)⟩ ?_
      have ok := ok.2
      refine c_goto (tgt := 22) dX8_paymentAt_18 (by decide) ?_
      exact cX.cutz (kb_X8_paymentAt_22 hG hR hS  ok hx) trivial
def k_X8_paymentAt (N g H T : Nat) (S : cS) (a0 : Nat) (x1 : Int32) : Int64 := KF_X8_paymentAt_0 N g H T a0 x1 S
def p_X8_paymentAt (N g H T : Nat) (S : cS) (a0 : Nat) (x1 : Int32) : Prop := KO_X8_paymentAt_0 N g H T a0 x1 S
set_option maxRecDepth 100000 in
set_option maxHeartbeats 4000000 in
theorem kc_X8_paymentAt {G : zG} {o : cO} {u g H T N : Nat} {S : cS} (hG : zOK G) {a0 : Nat} {x1 : Int32} (hS : St u g H T S) (t_x0 : isO g H 6 a0) (ok : p_X8_paymentAt N g H T S a0 x1) : cCl G o dX8_paymentAt mX8_paymentAt [.ref a0, .int x1] S (fun v S' => (v = k_X8_paymentAt N g H T S a0 x1 ∧ S' = S)) := by
  refine cC.ofX rfl (by exact Nat.le_of_ble_eq_true rfl) ?_
  show cX G o dX8_paymentAt mX8_paymentAt 0 [some (va_rf (some a0)), some (.int x1)] [] S _
  exact cX.cutz (kb_X8_paymentAt_0 (X := fun F => F = k_X8_paymentAt N g H T S a0 x1) hG (fun v h => ⟨v, rfl, h, rfl⟩) hS t_x0 ok rfl) ⟨rfl, rfl, trivial⟩
/-! X7_addPayments -/
def KF_X7_addPayments_76 (N g H T : Nat) (x1 : Option Nat) (x3 : Int32) (x4 : Int32) (S : cS) : Int32 × cS := (x3, (csA S (za x1) (nI 105).toNatClampNeg ((x4.toInt8.toInt32).toInt8.toInt32)))
def KO_X7_addPayments_76 (N g H T : Nat) (x1 : Option Nat) (x3 : Int32) (x4 : Int32) (S : cS) : Prop := (¬ x1 = none ∧ vp_in (nI 105) (cL S (za x1))) ∧ True
set_option maxRecDepth 100000 in
set_option maxHeartbeats 4000000 in
theorem kb_X7_addPayments_76 {G : zG} {o : cO} {u g H T N : Nat} {S : cS} {S0 : cS} {Q : Option Value → cS → Prop} {X : Int32 × cS → Prop} (hG : zOK G) (hR : ∀ v S', St u g H T S' → Mono S0 S' → X (v, S') → Q (some (.int v)) S') {x1 : Option Nat} {x3 : Int32} {x4 : Int32} (hS : St u g H T S) (hM : Mono S0 S) (t_x1 : tK S 20 x1) (ok : KO_X7_addPayments_76 N g H T x1 x3 x4 S) (hx : X (KF_X7_addPayments_76 N g H T x1 x3 x4 S)) : cX G o dX7_addPayments mX7_addPayments 76 [none, some (va_rf x1), none, some (.int x3), some (.int x4), none, none, none] [] S Q := by
  unfold KO_X7_addPayments_76 at ok
  unfold KF_X7_addPayments_76 at hx
  refine c_aload_nQ dX7_addPayments_76 rfl rfl ?_
  refine c_bipush (v := nI 105) dX7_addPayments_77 (by decide) ?_
  refine c_iload dX7_addPayments_79 rfl ?_
  refine c_i2b dX7_addPayments_81 ?_
  refine c_bast dX7_addPayments_82 ⟨(tK.cis t_x1 ok.1.1), ok.1.2⟩ ?_
  have hS := hS.Ab (za x1) (nI 105).toNatClampNeg (x4.toInt8.toInt32)
  have hM := hM.A (za x1) (nI 105).toNatClampNeg ((x4.toInt8.toInt32).toInt8.toInt32)
  have ok := ok.2
  refine c_iload_n dX7_addPayments_83 rfl rfl ?_
  exact c_ireturn rfl rfl dX7_addPayments_84 (hR _ _ hS hM hx)
def KF_X7_addPayments_70 (N g H T : Nat) (rec : Option Nat → Option Nat → Int32 → Int32 → Int32 → cS → Nat × Option Nat × Int32 × Int32 × cS) (x0 : Option Nat) (x1 : Option Nat) (x3 : Int32) (x4 : Int32) (x5 : Int32) (S : cS) : Nat × Option Nat × Int32 × Int32 × cS := (rec x0 x1 x3 x4 (x5 + nI 1) S)
def KO_X7_addPayments_70 (N g H T : Nat) (rok : Option Nat → Option Nat → Int32 → Int32 → Int32 → cS → Prop) (x0 : Option Nat) (x1 : Option Nat) (x3 : Int32) (x4 : Int32) (x5 : Int32) (S : cS) : Prop := rok x0 x1 x3 x4 (x5 + nI 1) S
set_option maxRecDepth 100000 in
set_option maxHeartbeats 4000000 in
theorem kb_X7_addPayments_70 {G : zG} {o : cO} {u g H T N : Nat} {S : cS} {S0 : cS} {Q : Option Value → cS → Prop} {X : Nat × Option Nat × Int32 × Int32 × cS → Prop} (hG : zOK G) (hX0 : ∀ (x1 : Option Nat) (x3 : Int32) (x4 : Int32) (S' : cS), St u g H T S' → Mono S0 S' → tK S' 20 x1 → X (0, x1, x3, x4, S') → cX G o dX7_addPayments mX7_addPayments 76 [none, some (va_rf x1), none, some (.int x3), some (.int x4), none, none, none] [] S' Q) {rec : Option Nat → Option Nat → Int32 → Int32 → Int32 → cS → Nat × Option Nat × Int32 × Int32 × cS} {rok : Option Nat → Option Nat → Int32 → Int32 → Int32 → cS → Prop} (hrec : ∀ (x0 : Option Nat) (x1 : Option Nat) (x3 : Int32) (x4 : Int32) (x5 : Int32) (S : cS), St u g H T S → Mono S0 S → tN g H x0 → tK S 20 x1 → rok x0 x1 x3 x4 x5 S → X (rec x0 x1 x3 x4 x5 S) → cX G o dX7_addPayments mX7_addPayments 8 [some (va_rf x0), some (va_rf x1), none, some (.int x3), some (.int x4), some (.int x5), none, none] [] S Q) {x0 : Option Nat} {x1 : Option Nat} {x3 : Int32} {x4 : Int32} {x5 : Int32} (hS : St u g H T S) (hM : Mono S0 S) (t_x0 : tN g H x0) (t_x1 : tK S 20 x1) (ok : KO_X7_addPayments_70 N g H T rok x0 x1 x3 x4 x5 S) (hx : X (KF_X7_addPayments_70 N g H T rec x0 x1 x3 x4 x5 S)) : cX G o dX7_addPayments mX7_addPayments 70 [some (va_rf x0), some (va_rf x1), none, some (.int x3), some (.int x4), some (.int x5), none, none] [] S Q := by
  unfold KO_X7_addPayments_70 at ok
  unfold KF_X7_addPayments_70 at hx
  refine c_iinc_5 (v := (x5 + nI 1)) dX7_addPayments_70 rfl (by first | rfl | (congr 1)) (by decide) rfl ?_
  refine c_goto (tgt := 8) dX7_addPayments_73 (by decide) ?_
  exact cX.cutz (hrec _ _ _ _ _ S hS hM t_x0 t_x1 ok hx) ⟨rfl, rfl, rfl, rfl, rfl, trivial⟩
def KF_X7_addPayments_64 (N g H T : Nat) (rec : Option Nat → Option Nat → Int32 → Int32 → Int32 → cS → Nat × Option Nat × Int32 × Int32 × cS) (x0 : Option Nat) (x1 : Option Nat) (x3 : Int32) (x4 : Int32) (x5 : Int32) (S : cS) : Nat × Option Nat × Int32 × Int32 × cS := (KF_X7_addPayments_70 N g H T rec x0 x1 (x3 + nI 7) (x4 + nI 1) x5 S)
def KO_X7_addPayments_64 (N g H T : Nat) (rok : Option Nat → Option Nat → Int32 → Int32 → Int32 → cS → Prop) (x0 : Option Nat) (x1 : Option Nat) (x3 : Int32) (x4 : Int32) (x5 : Int32) (S : cS) : Prop := KO_X7_addPayments_70 N g H T rok x0 x1 (x3 + nI 7) (x4 + nI 1) x5 S
set_option maxRecDepth 100000 in
set_option maxHeartbeats 4000000 in
theorem kb_X7_addPayments_64 {G : zG} {o : cO} {u g H T N : Nat} {S : cS} {S0 : cS} {Q : Option Value → cS → Prop} {X : Nat × Option Nat × Int32 × Int32 × cS → Prop} (hG : zOK G) (hX0 : ∀ (x1 : Option Nat) (x3 : Int32) (x4 : Int32) (S' : cS), St u g H T S' → Mono S0 S' → tK S' 20 x1 → X (0, x1, x3, x4, S') → cX G o dX7_addPayments mX7_addPayments 76 [none, some (va_rf x1), none, some (.int x3), some (.int x4), none, none, none] [] S' Q) {rec : Option Nat → Option Nat → Int32 → Int32 → Int32 → cS → Nat × Option Nat × Int32 × Int32 × cS} {rok : Option Nat → Option Nat → Int32 → Int32 → Int32 → cS → Prop} (hrec : ∀ (x0 : Option Nat) (x1 : Option Nat) (x3 : Int32) (x4 : Int32) (x5 : Int32) (S : cS), St u g H T S → Mono S0 S → tN g H x0 → tK S 20 x1 → rok x0 x1 x3 x4 x5 S → X (rec x0 x1 x3 x4 x5 S) → cX G o dX7_addPayments mX7_addPayments 8 [some (va_rf x0), some (va_rf x1), none, some (.int x3), some (.int x4), some (.int x5), none, none] [] S Q) {x0 : Option Nat} {x1 : Option Nat} {x3 : Int32} {x4 : Int32} {x5 : Int32} (hS : St u g H T S) (hM : Mono S0 S) (t_x0 : tN g H x0) (t_x1 : tK S 20 x1) (ok : KO_X7_addPayments_64 N g H T rok x0 x1 x3 x4 x5 S) (hx : X (KF_X7_addPayments_64 N g H T rec x0 x1 x3 x4 x5 S)) : cX G o dX7_addPayments mX7_addPayments 64 [some (va_rf x0), some (va_rf x1), none, some (.int x3), some (.int x4), some (.int x5), none, none] [] S Q := by
  unfold KO_X7_addPayments_64 at ok
  unfold KF_X7_addPayments_64 at hx
  refine c_iinc_3 (v := (x3 + nI 7)) dX7_addPayments_64 rfl (by first | rfl | (congr 1)) (by decide) rfl ?_
  refine c_iinc_4 (v := (x4 + nI 1)) dX7_addPayments_67 rfl (by first | rfl | (congr 1)) (by decide) rfl ?_
  exact cX.cutz (kb_X7_addPayments_70 hG hX0 hrec hS hM t_x0 t_x1 ok hx) ⟨rfl, rfl, rfl, rfl, rfl, trivial⟩
def KF_X7_addPayments_54 (N g H T : Nat) (rec : Option Nat → Option Nat → Int32 → Int32 → Int32 → cS → Nat × Option Nat × Int32 × Int32 × cS) (x0 : Option Nat) (x1 : Option Nat) (x3 : Int32) (x4 : Int32) (x5 : Int32) (x6 : Int64) (s0 : Int32) (S : cS) : Nat × Option Nat × Int32 × Int32 × cS := (if s0 = 0 then (KF_X7_addPayments_70 N g H T rec x0 x1 x3 x4 x5 S) else (KF_X7_addPayments_64 N g H T rec x0 x1 x3 x4 x5 (k_X0_putCode N g H T S x6 x1 x3)))
def KO_X7_addPayments_54 (N g H T : Nat) (rok : Option Nat → Option Nat → Int32 → Int32 → Int32 → cS → Prop) (x0 : Option Nat) (x1 : Option Nat) (x3 : Int32) (x4 : Int32) (x5 : Int32) (x6 : Int64) (s0 : Int32) (S : cS) : Prop := ((s0 = 0 → KO_X7_addPayments_70 N g H T rok x0 x1 x3 x4 x5 S) ∧ (¬ s0 = 0 → (p_X0_putCode N g H T S x6 x1 x3) ∧ KO_X7_addPayments_64 N g H T rok x0 x1 x3 x4 x5 (k_X0_putCode N g H T S x6 x1 x3)))
set_option maxRecDepth 100000 in
set_option maxHeartbeats 4000000 in
theorem kb_X7_addPayments_54 {G : zG} {o : cO} {u g H T N : Nat} {S : cS} {S0 : cS} {Q : Option Value → cS → Prop} {X : Nat × Option Nat × Int32 × Int32 × cS → Prop} (hG : zOK G) (hX0 : ∀ (x1 : Option Nat) (x3 : Int32) (x4 : Int32) (S' : cS), St u g H T S' → Mono S0 S' → tK S' 20 x1 → X (0, x1, x3, x4, S') → cX G o dX7_addPayments mX7_addPayments 76 [none, some (va_rf x1), none, some (.int x3), some (.int x4), none, none, none] [] S' Q) {rec : Option Nat → Option Nat → Int32 → Int32 → Int32 → cS → Nat × Option Nat × Int32 × Int32 × cS} {rok : Option Nat → Option Nat → Int32 → Int32 → Int32 → cS → Prop} (hrec : ∀ (x0 : Option Nat) (x1 : Option Nat) (x3 : Int32) (x4 : Int32) (x5 : Int32) (S : cS), St u g H T S → Mono S0 S → tN g H x0 → tK S 20 x1 → rok x0 x1 x3 x4 x5 S → X (rec x0 x1 x3 x4 x5 S) → cX G o dX7_addPayments mX7_addPayments 8 [some (va_rf x0), some (va_rf x1), none, some (.int x3), some (.int x4), some (.int x5), none, none] [] S Q) {x0 : Option Nat} {x1 : Option Nat} {x3 : Int32} {x4 : Int32} {x5 : Int32} {x6 : Int64} {s0 : Int32} (hS : St u g H T S) (hM : Mono S0 S) (t_x0 : tN g H x0) (t_x1 : tK S 20 x1) (ok : KO_X7_addPayments_54 N g H T rok x0 x1 x3 x4 x5 x6 s0 S) (hx : X (KF_X7_addPayments_54 N g H T rec x0 x1 x3 x4 x5 x6 s0 S)) : cX G o dX7_addPayments mX7_addPayments 54 [some (va_rf x0), some (va_rf x1), none, some (.int x3), some (.int x4), some (.int x5), some (.long x6), none] [.int s0] S Q := by
  unfold KO_X7_addPayments_54 at ok
  unfold KF_X7_addPayments_54 at hx
  refine c_if_eq (tgt := 70) dX7_addPayments_54 (by decide) (fun c_54 => ?_) (fun c_54 => ?_)
  · have ok := ok.1 c_54
    have hx := xif_p c_54 hx
    exact cX.cutz (kb_X7_addPayments_70 hG hX0 hrec hS hM t_x0 t_x1 ok hx) ⟨rfl, rfl, rfl, rfl, rfl, trivial⟩
  · have ok := ok.2 c_54
    have hx := xif_n c_54 hx
    refine c_lload dX7_addPayments_57 rfl ?_
    refine c_aload_nQ dX7_addPayments_59 rfl rfl ?_
    refine c_iload_n dX7_addPayments_60 rfl rfl ?_
    refine c_S3vK (y' := mX0_putCode) dX7_addPayments_61 lX7_390 kX0_putCode ⟨by decide, by decide⟩ (Nat.le_of_ble_eq_true rfl) (kc_X0_putCode hG hS t_x1 ok.1) (fun ⟨hS, hm_61⟩ => ?_)
    have hM := hM.trans hm_61
    have ok := ok.2
    exact cX.cutz (kb_X7_addPayments_64 hG hX0 hrec hS hM t_x0 (hm_61.tK t_x1 (by decide)) ok hx) ⟨rfl, rfl, rfl, rfl, rfl, trivial⟩
def KB_X7_addPayments_8 (N g H T : Nat) (rec : Option Nat → Option Nat → Int32 → Int32 → Int32 → cS → Nat × Option Nat × Int32 × Int32 × cS) (x0 : Option Nat) (x1 : Option Nat) (x3 : Int32) (x4 : Int32) (x5 : Int32) (S : cS) : Nat × Option Nat × Int32 × Int32 × cS := (if (cI S 12 ((za x0) + 14)) ≤ x5 then (0, x1, x3, x4, S) else (if (nI 64) ≤ x4 then (0, x1, x3, x4, S) else (KF_X7_addPayments_54 N g H T rec x0 x1 x3 x4 x5 (k_X8_paymentAt N g H T S ((za x0) + 14) x5) ((k_X0_pay N g H T S (g + 18) (k_X8_paymentAt N g H T S ((za x0) + 14) x5) (cI S 1 (za x0))).1) (k_X0_pay N g H T S (g + 18) (k_X8_paymentAt N g H T S ((za x0) + 14) x5) (cI S 1 (za x0))).2)))
def KOB_X7_addPayments_8 (N g H T : Nat) (rok : Option Nat → Option Nat → Int32 → Int32 → Int32 → cS → Prop) (x0 : Option Nat) (x1 : Option Nat) (x3 : Int32) (x4 : Int32) (x5 : Int32) (S : cS) : Prop := (¬ x0 = none) ∧ (((cI S 12 ((za x0) + 14)) ≤ x5 → True) ∧ (¬ (cI S 12 ((za x0) + 14)) ≤ x5 → (((nI 64) ≤ x4 → True) ∧ (¬ (nI 64) ≤ x4 → (p_X8_paymentAt N g H T S ((za x0) + 14) x5) ∧ (p_X0_pay N g H T S (g + 18) (k_X8_paymentAt N g H T S ((za x0) + 14) x5) (cI S 1 (za x0))) ∧ KO_X7_addPayments_54 N g H T rok x0 x1 x3 x4 x5 (k_X8_paymentAt N g H T S ((za x0) + 14) x5) ((k_X0_pay N g H T S (g + 18) (k_X8_paymentAt N g H T S ((za x0) + 14) x5) (cI S 1 (za x0))).1) (k_X0_pay N g H T S (g + 18) (k_X8_paymentAt N g H T S ((za x0) + 14) x5) (cI S 1 (za x0))).2))))
set_option maxRecDepth 100000 in
set_option maxHeartbeats 4000000 in
theorem kbb_X7_addPayments_8 {G : zG} {o : cO} {u g H T N : Nat} {S : cS} {S0 : cS} {Q : Option Value → cS → Prop} {X : Nat × Option Nat × Int32 × Int32 × cS → Prop} (hG : zOK G) (hX0 : ∀ (x1 : Option Nat) (x3 : Int32) (x4 : Int32) (S' : cS), St u g H T S' → Mono S0 S' → tK S' 20 x1 → X (0, x1, x3, x4, S') → cX G o dX7_addPayments mX7_addPayments 76 [none, some (va_rf x1), none, some (.int x3), some (.int x4), none, none, none] [] S' Q) {rec : Option Nat → Option Nat → Int32 → Int32 → Int32 → cS → Nat × Option Nat × Int32 × Int32 × cS} {rok : Option Nat → Option Nat → Int32 → Int32 → Int32 → cS → Prop} (hrec : ∀ (x0 : Option Nat) (x1 : Option Nat) (x3 : Int32) (x4 : Int32) (x5 : Int32) (S : cS), St u g H T S → Mono S0 S → tN g H x0 → tK S 20 x1 → rok x0 x1 x3 x4 x5 S → X (rec x0 x1 x3 x4 x5 S) → cX G o dX7_addPayments mX7_addPayments 8 [some (va_rf x0), some (va_rf x1), none, some (.int x3), some (.int x4), some (.int x5), none, none] [] S Q) {x0 : Option Nat} {x1 : Option Nat} {x3 : Int32} {x4 : Int32} {x5 : Int32} (hS : St u g H T S) (hM : Mono S0 S) (t_x0 : tN g H x0) (t_x1 : tK S 20 x1) (ok : KOB_X7_addPayments_8 N g H T rok x0 x1 x3 x4 x5 S) (hx : X (KB_X7_addPayments_8 N g H T rec x0 x1 x3 x4 x5 S)) : cX G o dX7_addPayments mX7_addPayments 8 [some (va_rf x0), some (va_rf x1), none, some (.int x3), some (.int x4), some (.int x5), none, none] [] S Q := by
  unfold KOB_X7_addPayments_8 at ok
  unfold KB_X7_addPayments_8 at hx
  refine c_iload dX7_addPayments_8 rfl ?_
  refine c_aload_nQ dX7_addPayments_10 rfl rfl ?_
  have nn_11 := ok.1
  refine c_getS (C := RX6) (T := TX6) (N := 19) (ci := 5) (k := 3) ⟨rfl, inT6, by decide, fX7_80⟩ (by decide) (by decide) (by decide) dX7_addPayments_11 (hS.kN t_x0 ok.1) (hS.r (c := 5) (tN.o t_x0 ok.1) rfl (by omega)) ?_
  have ok := ok.2
  refine c_getI (C := RX8) (T := TX8) (N := 14) (ci := 6) (k := 12) ⟨rfl, inT8, by decide, fX7_379⟩ (by decide) (by decide) (by decide) dX7_addPayments_14 (hS.k (o53 (tN.o t_x0 nn_11))) ?_
  refine c_icmp_ge (tgt := 76) dX7_addPayments_17 (by decide) (fun c_17 => ?_) (fun c_17 => ?_)
  · have ok := ok.1 c_17
    have hx := xif_p c_17 hx
    exact cX.cutz (hX0 _ _ _ S hS hM t_x1 hx) ⟨rfl, rfl, rfl, trivial⟩
  · have ok := ok.2 c_17
    have hx := xif_n c_17 hx
    refine c_iload dX7_addPayments_20 rfl ?_
    refine c_bipush (v := nI 64) dX7_addPayments_22 (by decide) ?_
    refine c_icmp_ge (tgt := 76) dX7_addPayments_24 (by decide) (fun c_24 => ?_) (fun c_24 => ?_)
    · have ok := ok.1 c_24
      have hx := xif_p c_24 hx
      exact cX.cutz (hX0 _ _ _ S hS hM t_x1 hx) ⟨rfl, rfl, rfl, trivial⟩
    · have ok := ok.2 c_24
      have hx := xif_n c_24 hx
      refine c_aload_nQ dX7_addPayments_27 rfl rfl ?_
      refine c_getS (C := RX6) (T := TX6) (N := 19) (ci := 5) (k := 3) ⟨rfl, inT6, by decide, fX7_80⟩ (by decide) (by decide) (by decide) dX7_addPayments_28 (hS.kN t_x0 nn_11) (hS.r (c := 5) (tN.o t_x0 nn_11) rfl (by omega)) ?_
      refine c_iload dX7_addPayments_31 rfl ?_
      refine c_V1lE (ci := 6) (rr := (RX8, TX8, 14)) (y' := mX8_paymentAt) dX7_addPayments_33 lX7_382 kX8_paymentAt ⟨by decide, by decide⟩ rfl rfl (by decide) (hS.k (o53 (tN.o t_x0 nn_11))) (Nat.le_of_ble_eq_true rfl) (kc_X8_paymentAt hG hS (o53 (tN.o t_x0 nn_11)) ok.1) ?_
      have ok := ok.2
      refine c_lstore_6 dX7_addPayments_36 (by decide) rfl ?_
      refine c_aload_nQ dX7_addPayments_38 rfl rfl ?_
      refine c_getS (C := RX6) (T := TX6) (N := 19) (ci := 5) (k := 0) ⟨rfl, inT6, by decide, fX7_26⟩ (by decide) (by decide) (by decide) dX7_addPayments_39 (hS.kN t_x0 nn_11) (hS.r (c := 5) (tN.o t_x0 nn_11) rfl (by omega)) ?_
      refine c_getS (C := RX10) (T := TX10) (N := 12) (ci := 8) (k := 8) ⟨rfl, inT10, by decide, fX7_338⟩ (by decide) (by decide) (by decide) dX7_addPayments_42 (hS.k (o50 (tN.o t_x0 nn_11))) (hS.r (c := 8) (o50 (tN.o t_x0 nn_11)) rfl (by omega)) ?_
      refine c_lload dX7_addPayments_45 rfl ?_
      refine c_aload_nQ dX7_addPayments_47 rfl rfl ?_
      refine c_getI (C := RX6) (T := TX6) (N := 19) (ci := 5) (k := 1) ⟨rfl, inT6, by decide, fX7_271⟩ (by decide) (by decide) (by decide) dX7_addPayments_48 (hS.kN t_x0 nn_11) ?_
      refine c_V2iK (ci := 0) (rr := (RX0, TX0, 6)) (y' := mX0_pay) dX7_addPayments_51 lX7_386 kX0_pay ⟨by decide, by decide⟩ rfl rfl (by decide) (hS.k (o88 (o50 (tN.o t_x0 nn_11)))) (Nat.le_of_ble_eq_true rfl) (kc_X0_pay hG hS (o88 (o50 (tN.o t_x0 nn_11))) ok.1) (fun ⟨hS, hm_51⟩ => ?_)
      have hM := hM.trans hm_51
      have ok := ok.2
      exact cX.cutz (kb_X7_addPayments_54 hG hX0 hrec hS hM t_x0 (hm_51.tK t_x1 (by decide)) ok hx) ⟨rfl, rfl, rfl, rfl, rfl, rfl, trivial⟩
def KL_X7_addPayments_8 (N g H T : Nat) : Nat → Option Nat → Option Nat → Int32 → Int32 → Int32 → cS → Nat × Option Nat × Int32 × Int32 × cS
  | 0, x0, x1, x3, x4, x5, S => (0, none, 0, 0, S)
  | n + 1, x0, x1, x3, x4, x5, S => KB_X7_addPayments_8 N g H T (KL_X7_addPayments_8 N g H T n) x0 x1 x3 x4 x5 S
def KOL_X7_addPayments_8 (N g H T : Nat) : Nat → Option Nat → Option Nat → Int32 → Int32 → Int32 → cS → Prop
  | 0, _, _, _, _, _, _ => False
  | n + 1, x0, x1, x3, x4, x5, S => KOB_X7_addPayments_8 N g H T (KOL_X7_addPayments_8 N g H T n) x0 x1 x3 x4 x5 S
set_option maxRecDepth 100000 in
set_option maxHeartbeats 4000000 in
theorem kl_X7_addPayments_8 {G : zG} {o : cO} {u g H T N : Nat} {S0 : cS} {Q : Option Value → cS → Prop} {X : Nat × Option Nat × Int32 × Int32 × cS → Prop} (hG : zOK G) (hX0 : ∀ (x1 : Option Nat) (x3 : Int32) (x4 : Int32) (S' : cS), St u g H T S' → Mono S0 S' → tK S' 20 x1 → X (0, x1, x3, x4, S') → cX G o dX7_addPayments mX7_addPayments 76 [none, some (va_rf x1), none, some (.int x3), some (.int x4), none, none, none] [] S' Q) : ∀ (n : Nat) (x0 : Option Nat) (x1 : Option Nat) (x3 : Int32) (x4 : Int32) (x5 : Int32) (S : cS), St u g H T S → Mono S0 S → tN g H x0 → tK S 20 x1 → KOL_X7_addPayments_8 N g H T n x0 x1 x3 x4 x5 S → X (KL_X7_addPayments_8 N g H T n x0 x1 x3 x4 x5 S) → cX G o dX7_addPayments mX7_addPayments 8 [some (va_rf x0), some (va_rf x1), none, some (.int x3), some (.int x4), some (.int x5), none, none] [] S Q := by
  intro n
  induction n with
  | zero => intro x0 x1 x3 x4 x5 S hS hM t_x0 t_x1 ok; exact absurd ok id
  | succ n ih =>
    intro x0 x1 x3 x4 x5 S hS hM t_x0 t_x1 ok hx
    exact kbb_X7_addPayments_8 hG hX0 (rec := KL_X7_addPayments_8 N g H T n) (rok := KOL_X7_addPayments_8 N g H T n) (fun x0 x1 x3 x4 x5 S hS hM t_x0 t_x1 ok hx => ih x0 x1 x3 x4 x5 S hS hM t_x0 t_x1 ok hx) hS hM t_x0 t_x1 ok hx
def KA_X7_addPayments_8 (N g H T : Nat) (x0 : Option Nat) (x1 : Option Nat) (x3 : Int32) (x4 : Int32) (x5 : Int32) (S : cS) (z : Nat × Option Nat × Int32 × Int32 × cS) : Int32 × cS := (KF_X7_addPayments_76 N g H T (z.2.1) (z.2.2.1) (z.2.2.2.1) z.2.2.2.2)
def KOA_X7_addPayments_8 (N g H T : Nat) (x0 : Option Nat) (x1 : Option Nat) (x3 : Int32) (x4 : Int32) (x5 : Int32) (S : cS) (z : Nat × Option Nat × Int32 × Int32 × cS) : Prop := KO_X7_addPayments_76 N g H T (z.2.1) (z.2.2.1) (z.2.2.2.1) z.2.2.2.2
set_option maxRecDepth 100000 in
set_option maxHeartbeats 4000000 in
theorem kd_X7_addPayments_8 {G : zG} {o : cO} {u g H T N : Nat} {S : cS} {S0 : cS} {Q : Option Value → cS → Prop} {X : Int32 × cS → Prop} (hG : zOK G) (hR : ∀ v S', St u g H T S' → Mono S0 S' → X (v, S') → Q (some (.int v)) S') {x0 : Option Nat} {x1 : Option Nat} {x3 : Int32} {x4 : Int32} {x5 : Int32} (hS : St u g H T S) (hM : Mono S0 S) (t_x0 : tN g H x0) (t_x1 : tK S 20 x1) (ok : KOL_X7_addPayments_8 N g H T N x0 x1 x3 x4 x5 S ∧ KOA_X7_addPayments_8 N g H T x0 x1 x3 x4 x5 S (KL_X7_addPayments_8 N g H T N x0 x1 x3 x4 x5 S)) (hx : X (KA_X7_addPayments_8 N g H T x0 x1 x3 x4 x5 S (KL_X7_addPayments_8 N g H T N x0 x1 x3 x4 x5 S))) : cX G o dX7_addPayments mX7_addPayments 8 [some (va_rf x0), some (va_rf x1), none, some (.int x3), some (.int x4), some (.int x5), none, none] [] S Q := by
  refine kl_X7_addPayments_8 hG ?_ N x0 x1 x3 x4 x5 S hS hM t_x0 t_x1 ok.1 (X := fun z => KOA_X7_addPayments_8 N g H T x0 x1 x3 x4 x5 S z ∧ X (KA_X7_addPayments_8 N g H T x0 x1 x3 x4 x5 S z)) ⟨ok.2, hx⟩
  · intro x1' x3' x4' S' hS hM t_x1 hz
    obtain ⟨ok, hx⟩ := hz
    unfold KOA_X7_addPayments_8 at ok
    unfold KA_X7_addPayments_8 at hx
    exact cX.cutz (kb_X7_addPayments_76 hG hR hS hM t_x1 ok hx) ⟨rfl, rfl, rfl, trivial⟩
def KF_X7_addPayments_0 (N g H T : Nat) (x0 : Option Nat) (x1 : Option Nat) (x2 : Int32) (S : cS) : Int32 × cS := (KA_X7_addPayments_8 N g H T x0 x1 x2 (nI 0) (nI 0) S (KL_X7_addPayments_8 N g H T N x0 x1 x2 (nI 0) (nI 0) S))
def KO_X7_addPayments_0 (N g H T : Nat) (x0 : Option Nat) (x1 : Option Nat) (x2 : Int32) (S : cS) : Prop := (KOL_X7_addPayments_8 N g H T N x0 x1 x2 (nI 0) (nI 0) S ∧ KOA_X7_addPayments_8 N g H T x0 x1 x2 (nI 0) (nI 0) S (KL_X7_addPayments_8 N g H T N x0 x1 x2 (nI 0) (nI 0) S))
set_option maxRecDepth 100000 in
set_option maxHeartbeats 4000000 in
theorem kb_X7_addPayments_0 {G : zG} {o : cO} {u g H T N : Nat} {S : cS} {S0 : cS} {Q : Option Value → cS → Prop} {X : Int32 × cS → Prop} (hG : zOK G) (hR : ∀ v S', St u g H T S' → Mono S0 S' → X (v, S') → Q (some (.int v)) S') {x0 : Option Nat} {x1 : Option Nat} {x2 : Int32} (hS : St u g H T S) (hM : Mono S0 S) (t_x0 : tN g H x0) (t_x1 : tK S 20 x1) (ok : KO_X7_addPayments_0 N g H T x0 x1 x2 S) (hx : X (KF_X7_addPayments_0 N g H T x0 x1 x2 S)) : cX G o dX7_addPayments mX7_addPayments 0 [some (va_rf x0), some (va_rf x1), some (.int x2), none, none, none, none, none] [] S Q := by
  unfold KO_X7_addPayments_0 at ok
  unfold KF_X7_addPayments_0 at hx
  refine c_iload_n dX7_addPayments_0 rfl rfl ?_
  refine c_istore_3 dX7_addPayments_1 (by decide) rfl ?_
  refine c_iconst (v := nI 0) dX7_addPayments_2 (by decide) ?_
  refine c_istore_4 dX7_addPayments_3 (by decide) rfl ?_
  refine c_iconst (v := nI 0) dX7_addPayments_5 (by decide) ?_
  refine c_istore_5 dX7_addPayments_6 (by decide) rfl ?_
  exact cX.cutz (kd_X7_addPayments_8 hG hR hS hM t_x0 t_x1 ok hx) ⟨rfl, rfl, rfl, rfl, rfl, trivial⟩
def k_X7_addPayments (N g H T : Nat) (S : cS) (x0 : Option Nat) (x1 : Option Nat) (x2 : Int32) : Int32 × cS := KF_X7_addPayments_0 N g H T x0 x1 x2 S
def p_X7_addPayments (N g H T : Nat) (S : cS) (x0 : Option Nat) (x1 : Option Nat) (x2 : Int32) : Prop := KO_X7_addPayments_0 N g H T x0 x1 x2 S
set_option maxRecDepth 100000 in
set_option maxHeartbeats 4000000 in
theorem kc_X7_addPayments {G : zG} {o : cO} {u g H T N : Nat} {S : cS} (hG : zOK G) {x0 : Option Nat} {x1 : Option Nat} {x2 : Int32} (hS : St u g H T S) (t_x0 : tN g H x0) (t_x1 : tK S 20 x1) (ok : p_X7_addPayments N g H T S x0 x1 x2) : cCi G o dX7_addPayments mX7_addPayments [va_rf x0, va_rf x1, .int x2] S (fun v S' => (v = (k_X7_addPayments N g H T S x0 x1 x2).1 ∧ S' = (k_X7_addPayments N g H T S x0 x1 x2).2) ∧ St u g H T S' ∧ Mono S S') := by
  refine cC.ofX rfl (by cases x0 <;> cases x1 <;> exact Nat.le_of_ble_eq_true rfl) ?_
  rw [show zargs mX7_addPayments.2.2.1 [va_rf x0, va_rf x1, .int x2] = [some (va_rf x0), some (va_rf x1), some (.int x2), none, none, none, none, none] from by cases x0 <;> cases x1 <;> rfl]
  exact cX.cutz (kb_X7_addPayments_0 (X := fun F => F = k_X7_addPayments N g H T S x0 x1 x2) hG (fun v S' h1 h2 h => ⟨v, rfl, ⟨by rw [← h], by rw [← h]⟩, h1, h2⟩) hS Mono.rfl' t_x0 t_x1 ok rfl) ⟨rfl, rfl, rfl, trivial⟩
/-! X7_build -/
def KF_X7_build_183 (N g H T : Nat) (x5 : Option Nat) (S : cS) : Option Nat × cS := (x5, (csI S 4 (za x5) (nI 1)))
def KO_X7_build_183 (N g H T : Nat) (x5 : Option Nat) (S : cS) : Prop := (¬ x5 = none) ∧ True
set_option maxRecDepth 100000 in
set_option maxHeartbeats 4000000 in
theorem kb_X7_build_183 {G : zG} {o : cO} {u g H T N : Nat} {S : cS} {S0 : cS} {Q : Option Value → cS → Prop} {X : Option Nat × cS → Prop} (hG : zOK G) (hR : ∀ v S', St u g H T S' → Mono S0 S' → tK S' 5 v → X (v, S') → Q (some (va_rf v)) S') {x5 : Option Nat} (hS : St u g H T S) (hM : Mono S0 S) (t_x5 : tK S 5 x5) (ok : KO_X7_build_183 N g H T x5 S) (hx : X (KF_X7_build_183 N g H T x5 S)) : cX G o dX7_build mX7_build 183 [none, none, none, none, none, some (va_rf x5)] [] S Q := by
  unfold KO_X7_build_183 at ok
  unfold KF_X7_build_183 at hx
  refine c_aloadQ dX7_build_183 rfl ?_
  refine c_iconst (v := nI 1) dX7_build_185 (by decide) ?_
  have nn_186 := ok.1
  refine c_putI (C := RX5) (T := TX5) (N := 7) (ci := 4) (k := 4) ⟨rfl, inT5, by decide, fX7_325⟩ ftT5 rfl (by decide) (by decide) (by decide) rfl rfl dX7_build_186 (tK.cis t_x5 ok.1) ?_
  have hS := hS.I 4 (za x5) (nI 1)
  have hM := hM.I 4 (za x5) (nI 1)
  have ok := ok.2
  refine c_aloadQ dX7_build_189 rfl ?_
  exact c_areturn rfl (Or.inl ⟨_, rfl⟩) dX7_build_191 (hR _ _ hS hM (tK_I t_x5) hx)
def KF_X7_build_173 (N g H T : Nat) (x1 : Nat) (x5 : Option Nat) (S : cS) : Option Nat × cS := (KF_X7_build_183 N g H T x5 (k_X5_readId N g H T S (za x5) (some (g + 29)) (nI 0)))
def KO_X7_build_173 (N g H T : Nat) (x1 : Nat) (x5 : Option Nat) (S : cS) : Prop := (¬ x5 = none ∧ p_X5_readId N g H T S (za x5) (some (g + 29)) (nI 0)) ∧ KO_X7_build_183 N g H T x5 (k_X5_readId N g H T S (za x5) (some (g + 29)) (nI 0))
set_option maxRecDepth 100000 in
set_option maxHeartbeats 4000000 in
theorem kb_X7_build_173 {G : zG} {o : cO} {u g H T N : Nat} {S : cS} {S0 : cS} {Q : Option Value → cS → Prop} {X : Option Nat × cS → Prop} (hG : zOK G) (hR : ∀ v S', St u g H T S' → Mono S0 S' → tK S' 5 v → X (v, S') → Q (some (va_rf v)) S') {x1 : Nat} {x5 : Option Nat} (hS : St u g H T S) (hM : Mono S0 S) (t_x1 : isO g H 8 x1) (t_x5 : tK S 5 x5) (ok : KO_X7_build_173 N g H T x1 x5 S) (hx : X (KF_X7_build_173 N g H T x1 x5 S)) : cX G o dX7_build mX7_build 173 [none, some (va_rf (some x1)), none, none, none, some (va_rf x5)] [] S Q := by
  unfold KO_X7_build_173 at ok
  unfold KF_X7_build_173 at hx
  refine c_aloadQ dX7_build_173 rfl ?_
  refine c_aload_nQ dX7_build_175 rfl rfl ?_
  refine c_getS (C := RX10) (T := TX10) (N := 12) (ci := 8) (k := 11) ⟨rfl, inT10, by decide, fX7_363⟩ (by decide) (by decide) (by decide) dX7_build_176 (hS.k t_x1) (hS.r (c := 8) t_x1 rfl (by omega)) ?_
  refine c_iconst (v := nI 0) dX7_build_179 (by decide) ?_
  have nn_180 := ok.1.1
  refine c_V2vK (ci := 4) (rr := (RX5, TX5, 7)) (y' := mX5_readId) dX7_build_180 lX7_369 kX5_readId ⟨by decide, by decide⟩ rfl rfl (by decide) (tK.cis t_x5 nn_180) (Nat.le_of_ble_eq_true rfl) (kc_X5_readId hG hS (t_x5 _ (za_of nn_180)) (hS.rk (c := 8) (k := 11) t_x1 rfl (by omega)) ok.1.2) (fun ⟨hS, hm_180⟩ => ?_)
  have hM := hM.trans hm_180
  have ok := ok.2
  exact cX.cutz (kb_X7_build_183 hG hR hS hM (hm_180.tK t_x5 (by decide)) ok hx) ⟨rfl, trivial⟩
def KF_X7_build_155 (N g H T : Nat) (x1 : Nat) (x2 : Option Nat) (x3 : Int32) (x5 : Option Nat) (S : cS) : Option Nat × cS := (KF_X7_build_173 N g H T x1 x5 (k_X2_digest N g H T S (g + 3) x2 x3 (x3 + (nI 101)) (some (g + 29)) (nI 0)))
def KO_X7_build_155 (N g H T : Nat) (x1 : Nat) (x2 : Option Nat) (x3 : Int32) (x5 : Option Nat) (S : cS) : Prop := (p_X2_digest N g H T S (g + 3) x2 x3 (x3 + (nI 101)) (some (g + 29)) (nI 0)) ∧ KO_X7_build_173 N g H T x1 x5 (k_X2_digest N g H T S (g + 3) x2 x3 (x3 + (nI 101)) (some (g + 29)) (nI 0))
set_option maxRecDepth 100000 in
set_option maxHeartbeats 4000000 in
theorem kb_X7_build_155 {G : zG} {o : cO} {u g H T N : Nat} {S : cS} {S0 : cS} {Q : Option Value → cS → Prop} {X : Option Nat × cS → Prop} (hG : zOK G) (hR : ∀ v S', St u g H T S' → Mono S0 S' → tK S' 5 v → X (v, S') → Q (some (va_rf v)) S') {x1 : Nat} {x2 : Option Nat} {x3 : Int32} {x5 : Option Nat} (hS : St u g H T S) (hM : Mono S0 S) (t_x1 : isO g H 8 x1) (t_x2 : tK S 20 x2) (t_x5 : tK S 5 x5) (ok : KO_X7_build_155 N g H T x1 x2 x3 x5 S) (hx : X (KF_X7_build_155 N g H T x1 x2 x3 x5 S)) : cX G o dX7_build mX7_build 155 [none, some (va_rf (some x1)), some (va_rf x2), some (.int x3), none, some (va_rf x5)] [] S Q := by
  unfold KO_X7_build_155 at ok
  unfold KF_X7_build_155 at hx
  refine c_aload_nQ dX7_build_155 rfl rfl ?_
  refine c_getS (C := RX10) (T := TX10) (N := 12) (ci := 8) (k := 5) ⟨rfl, inT10, by decide, fX7_30⟩ (by decide) (by decide) (by decide) dX7_build_156 (hS.k t_x1) (hS.r (c := 8) t_x1 rfl (by omega)) ?_
  refine c_aload_nQ dX7_build_159 rfl rfl ?_
  refine c_iload_n dX7_build_160 rfl rfl ?_
  refine c_iload_n dX7_build_161 rfl rfl ?_
  refine c_bipush (v := nI 101) dX7_build_162 (by decide) ?_
  refine c_iadd dX7_build_164 ?_
  refine c_aload_nQ dX7_build_165 rfl rfl ?_
  refine c_getS (C := RX10) (T := TX10) (N := 12) (ci := 8) (k := 11) ⟨rfl, inT10, by decide, fX7_363⟩ (by decide) (by decide) (by decide) dX7_build_166 (hS.k t_x1) (hS.r (c := 8) t_x1 rfl (by omega)) ?_
  refine c_iconst (v := nI 0) dX7_build_169 (by decide) ?_
  refine c_V5vK (ci := 2) (rr := (RX2, TX2, 6)) (y' := mX2_digest) dX7_build_170 lX7_366 kX2_digest ⟨by decide, by decide⟩ rfl rfl (by decide) (hS.k (o85 t_x1)) (Nat.le_of_ble_eq_true rfl) (kc_X2_digest hG hS (o85 t_x1) t_x2 (hS.rk (c := 8) (k := 11) t_x1 rfl (by omega)) ok.1) (fun ⟨hS, hm_170⟩ => ?_)
  have hM := hM.trans hm_170
  have ok := ok.2
  exact cX.cutz (kb_X7_build_173 hG hR hS hM t_x1 (hm_170.tK t_x5 (by decide)) ok hx) ⟨rfl, rfl, trivial⟩
def KF_X7_build_140 (N g H T : Nat) (x1 : Nat) (x2 : Option Nat) (x3 : Int32) (x4 : Int32) (s0 : Option Nat) (S : cS) : Option Nat × cS := (KF_X7_build_155 N g H T x1 x2 x3 s0 (csArow S ((za s0) + 2) (va_cpy (cA S (za x2)) (cA S ((za s0) + 2)) (nI 0).toNatClampNeg (nI 0).toNatClampNeg x4.toNatClampNeg)))
def KO_X7_build_140 (N g H T : Nat) (x1 : Nat) (x2 : Option Nat) (x3 : Int32) (x4 : Int32) (s0 : Option Nat) (S : cS) : Prop := (¬ s0 = none) ∧ (¬ x2 = none ∧ (¬ (nI 0) < 0 ∧ ¬ (nI 0) < 0 ∧ ¬ x4 < 0) ∧ (nI 0).toNatClampNeg + x4.toNatClampNeg ≤ (cL S (za x2)) ∧ (nI 0).toNatClampNeg + x4.toNatClampNeg ≤ (cL S ((za s0) + 2))) ∧ KO_X7_build_155 N g H T x1 x2 x3 s0 (csArow S ((za s0) + 2) (va_cpy (cA S (za x2)) (cA S ((za s0) + 2)) (nI 0).toNatClampNeg (nI 0).toNatClampNeg x4.toNatClampNeg))
set_option maxRecDepth 100000 in
set_option maxHeartbeats 4000000 in
theorem kb_X7_build_140 {G : zG} {o : cO} {u g H T N : Nat} {S : cS} {S0 : cS} {Q : Option Value → cS → Prop} {X : Option Nat × cS → Prop} (hG : zOK G) (hR : ∀ v S', St u g H T S' → Mono S0 S' → tK S' 5 v → X (v, S') → Q (some (va_rf v)) S') {x1 : Nat} {x2 : Option Nat} {x3 : Int32} {x4 : Int32} {s0 : Option Nat} (hS : St u g H T S) (hM : Mono S0 S) (t_x1 : isO g H 8 x1) (t_x2 : tK S 20 x2) (t_s0 : tK S 5 s0) (ok : KO_X7_build_140 N g H T x1 x2 x3 x4 s0 S) (hx : X (KF_X7_build_140 N g H T x1 x2 x3 x4 s0 S)) : cX G o dX7_build mX7_build 140 [none, some (va_rf (some x1)), some (va_rf x2), some (.int x3), some (.int x4), none] [va_rf s0] S Q := by
  unfold KO_X7_build_140 at ok
  unfold KF_X7_build_140 at hx
  refine c_astore_5Q dX7_build_140 (by decide) rfl ?_
  refine c_aload_nQ dX7_build_142 rfl rfl ?_
  refine c_iconst (v := nI 0) dX7_build_143 (by decide) ?_
  refine c_aloadQ dX7_build_144 rfl ?_
  have nn_146 := ok.1
  have p_146 := hS.m0k t_s0 ok.1
  refine c_getS (C := RX5) (T := TX5) (N := 7) (ci := 4) (k := 0) ⟨rfl, inT5, by decide, fX7_123⟩ (by decide) (by decide) (by decide) dX7_build_146 (tK.cis t_s0 ok.1) (hS.m0 t_s0 ok.1) ?_
  have ok := ok.2
  refine c_iconst (v := nI 0) dX7_build_149 (by decide) ?_
  refine c_iload dX7_build_150 rfl ?_
  have tq_152 : tK S 20 (some (za x2)) := tK_some (tK.cis t_x2 ok.1.1).2
  refine c_copy0 hG dX7_build_152 qX7_130 (by decide) (by decide) ⟨tK.cis t_x2 ok.1.1, tK.cis p_146 (Option.some_ne_none _), ok.1.2.1, ok.1.2.2.1, ok.1.2.2.2⟩ ?_
  have hS := hS.Ac ((za s0) + 2) (za x2) (nI 0).toNatClampNeg (nI 0).toNatClampNeg x4.toNatClampNeg tq_152
  have hM := hM.Ar ((za s0) + 2) (va_cpy (cA S (za x2)) (cA S ((za s0) + 2)) (nI 0).toNatClampNeg (nI 0).toNatClampNeg x4.toNatClampNeg)
  have ok := ok.2
  exact cX.cutz (kb_X7_build_155 hG hR hS hM t_x1 (tK_Ar t_x2) (tK_Ar t_s0) ok hx) ⟨rfl, rfl, rfl, rfl, trivial⟩
def KF_X7_build_131 (N g H T : Nat) (x1 : Nat) (x2 : Option Nat) (x3 : Int32) (x4 : Int32) (S : cS) : Option Nat × cS := (KF_X7_build_140 N g H T x1 x2 x3 x4 ((k_X9_fresh N g H T S (g + 11) x4).1) (k_X9_fresh N g H T S (g + 11) x4).2)
def KO_X7_build_131 (N g H T : Nat) (x1 : Nat) (x2 : Option Nat) (x3 : Int32) (x4 : Int32) (S : cS) : Prop := (p_X9_fresh N g H T S (g + 11) x4) ∧ KO_X7_build_140 N g H T x1 x2 x3 x4 ((k_X9_fresh N g H T S (g + 11) x4).1) (k_X9_fresh N g H T S (g + 11) x4).2
set_option maxRecDepth 100000 in
set_option maxHeartbeats 4000000 in
theorem kb_X7_build_131 {G : zG} {o : cO} {u g H T N : Nat} {S : cS} {S0 : cS} {Q : Option Value → cS → Prop} {X : Option Nat × cS → Prop} (hG : zOK G) (hR : ∀ v S', St u g H T S' → Mono S0 S' → tK S' 5 v → X (v, S') → Q (some (va_rf v)) S') {x1 : Nat} {x2 : Option Nat} {x3 : Int32} {x4 : Int32} (hS : St u g H T S) (hM : Mono S0 S) (t_x1 : isO g H 8 x1) (t_x2 : tK S 20 x2) (ok : KO_X7_build_131 N g H T x1 x2 x3 x4 S) (hx : X (KF_X7_build_131 N g H T x1 x2 x3 x4 S)) : cX G o dX7_build mX7_build 131 [none, some (va_rf (some x1)), some (va_rf x2), some (.int x3), some (.int x4), none] [] S Q := by
  unfold KO_X7_build_131 at ok
  unfold KF_X7_build_131 at hx
  refine c_aload_nQ dX7_build_131 rfl rfl ?_
  refine c_getS (C := RX10) (T := TX10) (N := 12) (ci := 8) (k := 6) ⟨rfl, inT10, by decide, fX7_278⟩ (by decide) (by decide) (by decide) dX7_build_132 (hS.k t_x1) (hS.r (c := 8) t_x1 rfl (by omega)) ?_
  refine c_iload dX7_build_135 rfl ?_
  refine c_V1qK (ci := 7) (rr := (RX9, TX9, 13)) (y' := mX9_fresh) dX7_build_137 lX7_310 kX9_fresh ⟨by decide, by decide⟩ rfl rfl (by decide) (hS.k (o86 t_x1)) (Nat.le_of_ble_eq_true rfl) (kc_X9_fresh hG hS (o86 t_x1) ok.1) (fun ⟨hS, hm_137, tv_137⟩ => ?_)
  have hM := hM.trans hm_137
  have ok := ok.2
  exact cX.cutz (kb_X7_build_140 hG hR hS hM t_x1 (hm_137.tK t_x2 (by decide)) tv_137 ok hx) ⟨rfl, rfl, rfl, rfl, trivial⟩
def KF_X7_build_118 (N g H T : Nat) (x1 : Nat) (x2 : Option Nat) (x3 : Int32) (x4 : Int32) (s0 : Int32) (S : cS) : Option Nat × cS := (KF_X7_build_131 N g H T x1 x2 x3 x4 (k_X2_top N g H T S (g + 3) x2 (x3 + (nI 67))))
def KO_X7_build_118 (N g H T : Nat) (x1 : Nat) (x2 : Option Nat) (x3 : Int32) (x4 : Int32) (s0 : Int32) (S : cS) : Prop := (p_X2_top N g H T S (g + 3) x2 (x3 + (nI 67))) ∧ KO_X7_build_131 N g H T x1 x2 x3 x4 (k_X2_top N g H T S (g + 3) x2 (x3 + (nI 67)))
set_option maxRecDepth 100000 in
set_option maxHeartbeats 4000000 in
theorem kb_X7_build_118 {G : zG} {o : cO} {u g H T N : Nat} {S : cS} {S0 : cS} {Q : Option Value → cS → Prop} {X : Option Nat × cS → Prop} (hG : zOK G) (hR : ∀ v S', St u g H T S' → Mono S0 S' → tK S' 5 v → X (v, S') → Q (some (va_rf v)) S') {x1 : Nat} {x2 : Option Nat} {x3 : Int32} {x4 : Int32} {s0 : Int32} (hS : St u g H T S) (hM : Mono S0 S) (t_x1 : isO g H 8 x1) (t_x2 : tK S 20 x2) (ok : KO_X7_build_118 N g H T x1 x2 x3 x4 s0 S) (hx : X (KF_X7_build_118 N g H T x1 x2 x3 x4 s0 S)) : cX G o dX7_build mX7_build 118 [none, some (va_rf (some x1)), some (va_rf x2), some (.int x3), some (.int x4), none] [.int s0] S Q := by
  unfold KO_X7_build_118 at ok
  unfold KF_X7_build_118 at hx
  refine c_pop dX7_build_118 rfl ?_
  refine c_aload_nQ dX7_build_119 rfl rfl ?_
  refine c_getS (C := RX10) (T := TX10) (N := 12) (ci := 8) (k := 5) ⟨rfl, inT10, by decide, fX7_30⟩ (by decide) (by decide) (by decide) dX7_build_120 (hS.k t_x1) (hS.r (c := 8) t_x1 rfl (by omega)) ?_
  refine c_aload_nQ dX7_build_123 rfl rfl ?_
  refine c_iload_n dX7_build_124 rfl rfl ?_
  refine c_bipush (v := nI 67) dX7_build_125 (by decide) ?_
  refine c_iadd dX7_build_127 ?_
  refine c_V2vK (ci := 2) (rr := (RX2, TX2, 6)) (y' := mX2_top) dX7_build_128 lX7_361 kX2_top ⟨by decide, by decide⟩ rfl rfl (by decide) (hS.k (o85 t_x1)) (Nat.le_of_ble_eq_true rfl) (kc_X2_top hG hS (o85 t_x1) t_x2 ok.1) (fun ⟨hS, hm_128⟩ => ?_)
  have hM := hM.trans hm_128
  have ok := ok.2
  exact cX.cutz (kb_X7_build_131 hG hR hS hM t_x1 (hm_128.tK t_x2 (by decide)) ok hx) ⟨rfl, rfl, rfl, rfl, trivial⟩
def KF_X7_build_108 (N g H T : Nat) (x1 : Nat) (x2 : Option Nat) (x3 : Int32) (x4 : Int32) (S : cS) : Option Nat × cS := (KF_X7_build_118 N g H T x1 x2 x3 x4 ((k_X2_climb N g H T S (g + 3) (-1) x2 x3).1) (k_X2_climb N g H T S (g + 3) (-1) x2 x3).2)
def KO_X7_build_108 (N g H T : Nat) (x1 : Nat) (x2 : Option Nat) (x3 : Int32) (x4 : Int32) (S : cS) : Prop := (p_X2_climb N g H T S (g + 3) (-1) x2 x3) ∧ KO_X7_build_118 N g H T x1 x2 x3 x4 ((k_X2_climb N g H T S (g + 3) (-1) x2 x3).1) (k_X2_climb N g H T S (g + 3) (-1) x2 x3).2
set_option maxRecDepth 100000 in
set_option maxHeartbeats 4000000 in
theorem kb_X7_build_108 {G : zG} {o : cO} {u g H T N : Nat} {S : cS} {S0 : cS} {Q : Option Value → cS → Prop} {X : Option Nat × cS → Prop} (hG : zOK G) (hR : ∀ v S', St u g H T S' → Mono S0 S' → tK S' 5 v → X (v, S') → Q (some (va_rf v)) S') {x1 : Nat} {x2 : Option Nat} {x3 : Int32} {x4 : Int32} (hS : St u g H T S) (hM : Mono S0 S) (t_x1 : isO g H 8 x1) (t_x2 : tK S 20 x2) (ok : KO_X7_build_108 N g H T x1 x2 x3 x4 S) (hx : X (KF_X7_build_108 N g H T x1 x2 x3 x4 S)) : cX G o dX7_build mX7_build 108 [none, some (va_rf (some x1)), some (va_rf x2), some (.int x3), some (.int x4), none] [] S Q := by
  unfold KO_X7_build_108 at ok
  unfold KF_X7_build_108 at hx
  refine c_aload_nQ dX7_build_108 rfl rfl ?_
  refine c_getS (C := RX10) (T := TX10) (N := 12) (ci := 8) (k := 5) ⟨rfl, inT10, by decide, fX7_30⟩ (by decide) (by decide) (by decide) dX7_build_109 (hS.k t_x1) (hS.r (c := 8) t_x1 rfl (by omega)) ?_
  refine c_iconst (v := -1) dX7_build_112 (by decide) ?_
  refine c_aload_nQ dX7_build_113 rfl rfl ?_
  refine c_iload_n dX7_build_114 rfl rfl ?_
  refine c_V3iK (ci := 2) (rr := (RX2, TX2, 6)) (y' := mX2_climb) dX7_build_115 lX7_357 kX2_climb ⟨by decide, by decide⟩ rfl rfl (by decide) (hS.k (o85 t_x1)) (Nat.le_of_ble_eq_true rfl) (kc_X2_climb hG hS (o85 t_x1) t_x2 ok.1) (fun ⟨hS, hm_115⟩ => ?_)
  have hM := hM.trans hm_115
  have ok := ok.2
  exact cX.cutz (kb_X7_build_118 hG hR hS hM t_x1 (hm_115.tK t_x2 (by decide)) ok hx) ⟨rfl, rfl, rfl, rfl, trivial⟩
def KF_X7_build_97 (N g H T : Nat) (x1 : Nat) (x2 : Option Nat) (x3 : Int32) (s0 : Int32) (S : cS) : Option Nat × cS := (KF_X7_build_108 N g H T x1 x2 x3 s0 (k_X2_plant N g H T S (g + 3) x2 x3))
def KO_X7_build_97 (N g H T : Nat) (x1 : Nat) (x2 : Option Nat) (x3 : Int32) (s0 : Int32) (S : cS) : Prop := (p_X2_plant N g H T S (g + 3) x2 x3) ∧ KO_X7_build_108 N g H T x1 x2 x3 s0 (k_X2_plant N g H T S (g + 3) x2 x3)
set_option maxRecDepth 100000 in
set_option maxHeartbeats 4000000 in
theorem kb_X7_build_97 {G : zG} {o : cO} {u g H T N : Nat} {S : cS} {S0 : cS} {Q : Option Value → cS → Prop} {X : Option Nat × cS → Prop} (hG : zOK G) (hR : ∀ v S', St u g H T S' → Mono S0 S' → tK S' 5 v → X (v, S') → Q (some (va_rf v)) S') {x1 : Nat} {x2 : Option Nat} {x3 : Int32} {s0 : Int32} (hS : St u g H T S) (hM : Mono S0 S) (t_x1 : isO g H 8 x1) (t_x2 : tK S 20 x2) (ok : KO_X7_build_97 N g H T x1 x2 x3 s0 S) (hx : X (KF_X7_build_97 N g H T x1 x2 x3 s0 S)) : cX G o dX7_build mX7_build 97 [none, some (va_rf (some x1)), some (va_rf x2), some (.int x3), none, none] [.int s0] S Q := by
  unfold KO_X7_build_97 at ok
  unfold KF_X7_build_97 at hx
  refine c_istore_4 dX7_build_97 (by decide) rfl ?_
  refine c_aload_nQ dX7_build_99 rfl rfl ?_
  refine c_getS (C := RX10) (T := TX10) (N := 12) (ci := 8) (k := 5) ⟨rfl, inT10, by decide, fX7_30⟩ (by decide) (by decide) (by decide) dX7_build_100 (hS.k t_x1) (hS.r (c := 8) t_x1 rfl (by omega)) ?_
  refine c_aload_nQ dX7_build_103 rfl rfl ?_
  refine c_iload_n dX7_build_104 rfl rfl ?_
  refine c_V2vK (ci := 2) (rr := (RX2, TX2, 6)) (y' := mX2_plant) dX7_build_105 lX7_352 kX2_plant ⟨by decide, by decide⟩ rfl rfl (by decide) (hS.k (o85 t_x1)) (Nat.le_of_ble_eq_true rfl) (kc_X2_plant hG hS (o85 t_x1) t_x2 ok.1) (fun ⟨hS, hm_105⟩ => ?_)
  have hM := hM.trans hm_105
  have ok := ok.2
  exact cX.cutz (kb_X7_build_108 hG hR hS hM t_x1 (hm_105.tK t_x2 (by decide)) ok hx) ⟨rfl, rfl, rfl, rfl, trivial⟩
def KF_X7_build_94 (N g H T : Nat) (x1 : Nat) (x2 : Option Nat) (x3 : Int32) (s0 : Option Nat) (s1 : Option Nat) (s2 : Int32) (S : cS) : Option Nat × cS := (KF_X7_build_97 N g H T x1 x2 x3 ((k_X7_addPayments N g H T S s0 s1 s2).1) (k_X7_addPayments N g H T S s0 s1 s2).2)
def KO_X7_build_94 (N g H T : Nat) (x1 : Nat) (x2 : Option Nat) (x3 : Int32) (s0 : Option Nat) (s1 : Option Nat) (s2 : Int32) (S : cS) : Prop := (p_X7_addPayments N g H T S s0 s1 s2) ∧ KO_X7_build_97 N g H T x1 x2 x3 ((k_X7_addPayments N g H T S s0 s1 s2).1) (k_X7_addPayments N g H T S s0 s1 s2).2
set_option maxRecDepth 100000 in
set_option maxHeartbeats 4000000 in
theorem kb_X7_build_94 {G : zG} {o : cO} {u g H T N : Nat} {S : cS} {S0 : cS} {Q : Option Value → cS → Prop} {X : Option Nat × cS → Prop} (hG : zOK G) (hR : ∀ v S', St u g H T S' → Mono S0 S' → tK S' 5 v → X (v, S') → Q (some (va_rf v)) S') {x1 : Nat} {x2 : Option Nat} {x3 : Int32} {s0 : Option Nat} {s1 : Option Nat} {s2 : Int32} (hS : St u g H T S) (hM : Mono S0 S) (t_x1 : isO g H 8 x1) (t_x2 : tK S 20 x2) (t_s0 : tN g H s0) (t_s1 : tK S 20 s1) (ok : KO_X7_build_94 N g H T x1 x2 x3 s0 s1 s2 S) (hx : X (KF_X7_build_94 N g H T x1 x2 x3 s0 s1 s2 S)) : cX G o dX7_build mX7_build 94 [none, some (va_rf (some x1)), some (va_rf x2), some (.int x3), none, none] [.int s2, va_rf s1, va_rf s0] S Q := by
  unfold KO_X7_build_94 at ok
  unfold KF_X7_build_94 at hx
  refine c_S3iK (y' := mX7_addPayments) dX7_build_94 lX7_349 kX7_addPayments ⟨by decide, by decide⟩ (Nat.le_of_ble_eq_true rfl) (kc_X7_addPayments hG hS t_s0 t_s1 ok.1) (fun ⟨hS, hm_94⟩ => ?_)
  have hM := hM.trans hm_94
  have ok := ok.2
  exact cX.cutz (kb_X7_build_97 hG hR hS hM t_x1 (hm_94.tK t_x2 (by decide)) ok hx) ⟨rfl, rfl, rfl, trivial⟩
def KF_X7_build_83 (N g H T : Nat) (x0 : Option Nat) (x1 : Nat) (x2 : Option Nat) (x3 : Int32) (S : cS) : Option Nat × cS := (KF_X7_build_94 N g H T x1 x2 x3 x0 x2 ((k_X7_addEvidences N g H T S x0 x2 (x3 + (nI 101))).1) (k_X7_addEvidences N g H T S x0 x2 (x3 + (nI 101))).2)
def KO_X7_build_83 (N g H T : Nat) (x0 : Option Nat) (x1 : Nat) (x2 : Option Nat) (x3 : Int32) (S : cS) : Prop := (p_X7_addEvidences N g H T S x0 x2 (x3 + (nI 101))) ∧ KO_X7_build_94 N g H T x1 x2 x3 x0 x2 ((k_X7_addEvidences N g H T S x0 x2 (x3 + (nI 101))).1) (k_X7_addEvidences N g H T S x0 x2 (x3 + (nI 101))).2
set_option maxRecDepth 100000 in
set_option maxHeartbeats 4000000 in
theorem kb_X7_build_83 {G : zG} {o : cO} {u g H T N : Nat} {S : cS} {S0 : cS} {Q : Option Value → cS → Prop} {X : Option Nat × cS → Prop} (hG : zOK G) (hR : ∀ v S', St u g H T S' → Mono S0 S' → tK S' 5 v → X (v, S') → Q (some (va_rf v)) S') {x0 : Option Nat} {x1 : Nat} {x2 : Option Nat} {x3 : Int32} (hS : St u g H T S) (hM : Mono S0 S) (t_x0 : tN g H x0) (t_x1 : isO g H 8 x1) (t_x2 : tK S 20 x2) (ok : KO_X7_build_83 N g H T x0 x1 x2 x3 S) (hx : X (KF_X7_build_83 N g H T x0 x1 x2 x3 S)) : cX G o dX7_build mX7_build 83 [some (va_rf x0), some (va_rf (some x1)), some (va_rf x2), some (.int x3), none, none] [] S Q := by
  unfold KO_X7_build_83 at ok
  unfold KF_X7_build_83 at hx
  refine c_aload_nQ dX7_build_83 rfl rfl ?_
  refine c_aload_nQ dX7_build_84 rfl rfl ?_
  refine c_aload_nQ dX7_build_85 rfl rfl ?_
  refine c_aload_nQ dX7_build_86 rfl rfl ?_
  refine c_iload_n dX7_build_87 rfl rfl ?_
  refine c_bipush (v := nI 101) dX7_build_88 (by decide) ?_
  refine c_iadd dX7_build_90 ?_
  refine c_S3iK (y' := mX7_addEvidences) dX7_build_91 lX7_345 kX7_addEvidences ⟨by decide, by decide⟩ (by simp only [List.map_cons, List.map_nil, List.sum_cons, List.sum_nil, zcat_rf, zcat_i, zcat_l, zcat_r] <;> decide) (kc_X7_addEvidences hG hS t_x0 t_x2 ok.1) (fun ⟨hS, hm_91⟩ => ?_)
  have hM := hM.trans hm_91
  have ok := ok.2
  exact cX.cutz (kb_X7_build_94 hG hR hS hM t_x1 (hm_91.tK t_x2 (by decide)) t_x0 (hm_91.tK t_x2 (by decide)) ok hx) ⟨rfl, rfl, rfl, trivial⟩
def KF_X7_build_72 (N g H T : Nat) (x0 : Option Nat) (x1 : Nat) (x2 : Option Nat) (x3 : Int32) (S : cS) : Option Nat × cS := (KF_X7_build_83 N g H T x0 x1 x2 x3 (k_X0_mirror N g H T S (g + 18) ((za x0) + 6)))
def KO_X7_build_72 (N g H T : Nat) (x0 : Option Nat) (x1 : Nat) (x2 : Option Nat) (x3 : Int32) (S : cS) : Prop := (¬ x0 = none) ∧ (p_X0_mirror N g H T S (g + 18) ((za x0) + 6)) ∧ KO_X7_build_83 N g H T x0 x1 x2 x3 (k_X0_mirror N g H T S (g + 18) ((za x0) + 6))
set_option maxRecDepth 100000 in
set_option maxHeartbeats 4000000 in
theorem kb_X7_build_72 {G : zG} {o : cO} {u g H T N : Nat} {S : cS} {S0 : cS} {Q : Option Value → cS → Prop} {X : Option Nat × cS → Prop} (hG : zOK G) (hR : ∀ v S', St u g H T S' → Mono S0 S' → tK S' 5 v → X (v, S') → Q (some (va_rf v)) S') {x0 : Option Nat} {x1 : Nat} {x2 : Option Nat} {x3 : Int32} (hS : St u g H T S) (hM : Mono S0 S) (t_x0 : tN g H x0) (t_x1 : isO g H 8 x1) (t_x2 : tK S 20 x2) (ok : KO_X7_build_72 N g H T x0 x1 x2 x3 S) (hx : X (KF_X7_build_72 N g H T x0 x1 x2 x3 S)) : cX G o dX7_build mX7_build 72 [some (va_rf x0), some (va_rf (some x1)), some (va_rf x2), some (.int x3), none, none] [] S Q := by
  unfold KO_X7_build_72 at ok
  unfold KF_X7_build_72 at hx
  refine c_aload_nQ dX7_build_72 rfl rfl ?_
  refine c_getS (C := RX10) (T := TX10) (N := 12) (ci := 8) (k := 8) ⟨rfl, inT10, by decide, fX7_338⟩ (by decide) (by decide) (by decide) dX7_build_73 (hS.k t_x1) (hS.r (c := 8) t_x1 rfl (by omega)) ?_
  refine c_aload_nQ dX7_build_76 rfl rfl ?_
  have nn_77 := ok.1
  refine c_getS (C := RX6) (T := TX6) (N := 19) (ci := 5) (k := 4) ⟨rfl, inT6, by decide, fX7_22⟩ (by decide) (by decide) (by decide) dX7_build_77 (hS.kN t_x0 ok.1) (hS.r (c := 5) (tN.o t_x0 ok.1) rfl (by omega)) ?_
  have ok := ok.2
  refine c_V1vK (ci := 0) (rr := (RX0, TX0, 6)) (y' := mX0_mirror) dX7_build_80 lX7_341 kX0_mirror ⟨by decide, by decide⟩ rfl rfl (by decide) (hS.k (o88 t_x1)) (Nat.le_of_ble_eq_true rfl) (kc_X0_mirror hG hS (o88 t_x1) (o54 (tN.o t_x0 nn_77)) ok.1) (fun ⟨hS, hm_80⟩ => ?_)
  have hM := hM.trans hm_80
  have ok := ok.2
  exact cX.cutz (kb_X7_build_83 hG hR hS hM t_x0 t_x1 (hm_80.tK t_x2 (by decide)) ok hx) ⟨rfl, rfl, rfl, rfl, trivial⟩
def KF_X7_build_54 (N g H T : Nat) (x0 : Option Nat) (x1 : Nat) (x2 : Option Nat) (x3 : Int32) (S : cS) : Option Nat × cS := (KF_X7_build_72 N g H T x0 x1 x2 x3 (csArow S (za x2) (va_cpy (cA S (((za x0) + 6) + 3)) (cA S (za x2)) (nI 0).toNatClampNeg (x3 + (nI 35)).toNatClampNeg (nI 32).toNatClampNeg)))
def KO_X7_build_54 (N g H T : Nat) (x0 : Option Nat) (x1 : Nat) (x2 : Option Nat) (x3 : Int32) (S : cS) : Prop := (¬ x0 = none) ∧ (¬ x2 = none ∧ (¬ (nI 0) < 0 ∧ ¬ (x3 + (nI 35)) < 0 ∧ ¬ (nI 32) < 0) ∧ (nI 0).toNatClampNeg + (nI 32).toNatClampNeg ≤ 32 ∧ (x3 + (nI 35)).toNatClampNeg + (nI 32).toNatClampNeg ≤ (cL S (za x2))) ∧ KO_X7_build_72 N g H T x0 x1 x2 x3 (csArow S (za x2) (va_cpy (cA S (((za x0) + 6) + 3)) (cA S (za x2)) (nI 0).toNatClampNeg (x3 + (nI 35)).toNatClampNeg (nI 32).toNatClampNeg))
set_option maxRecDepth 100000 in
set_option maxHeartbeats 4000000 in
theorem kb_X7_build_54 {G : zG} {o : cO} {u g H T N : Nat} {S : cS} {S0 : cS} {Q : Option Value → cS → Prop} {X : Option Nat × cS → Prop} (hG : zOK G) (hR : ∀ v S', St u g H T S' → Mono S0 S' → tK S' 5 v → X (v, S') → Q (some (va_rf v)) S') {x0 : Option Nat} {x1 : Nat} {x2 : Option Nat} {x3 : Int32} (hS : St u g H T S) (hM : Mono S0 S) (t_x0 : tN g H x0) (t_x1 : isO g H 8 x1) (t_x2 : tK S 20 x2) (ok : KO_X7_build_54 N g H T x0 x1 x2 x3 S) (hx : X (KF_X7_build_54 N g H T x0 x1 x2 x3 S)) : cX G o dX7_build mX7_build 54 [some (va_rf x0), some (va_rf (some x1)), some (va_rf x2), some (.int x3), none, none] [] S Q := by
  unfold KO_X7_build_54 at ok
  unfold KF_X7_build_54 at hx
  refine c_aload_nQ dX7_build_54 rfl rfl ?_
  have nn_55 := ok.1
  refine c_getS (C := RX6) (T := TX6) (N := 19) (ci := 5) (k := 4) ⟨rfl, inT6, by decide, fX7_22⟩ (by decide) (by decide) (by decide) dX7_build_55 (hS.kN t_x0 ok.1) (hS.r (c := 5) (tN.o t_x0 ok.1) rfl (by omega)) ?_
  have ok := ok.2
  refine c_getS (C := RX0) (T := TX0) (N := 6) (ci := 0) (k := 3) ⟨rfl, inT0, by decide, fX7_335⟩ (by decide) (by decide) (by decide) dX7_build_58 (hS.k (o54 (tN.o t_x0 nn_55))) (hS.r (c := 0) (o54 (tN.o t_x0 nn_55)) rfl (by omega)) ?_
  refine c_iconst (v := nI 0) dX7_build_61 (by decide) ?_
  refine c_aload_nQ dX7_build_62 rfl rfl ?_
  refine c_iload_n dX7_build_63 rfl rfl ?_
  refine c_bipush (v := nI 35) dX7_build_64 (by decide) ?_
  refine c_iadd dX7_build_66 ?_
  refine c_bipush (v := nI 32) dX7_build_67 (by decide) ?_
  have tq_69 : tK S 20 (some (((za x0) + 6) + 3)) := tK_some (tK.cis (hS.rk (c := 0) (k := 3) (o54 (tN.o t_x0 nn_55)) rfl (by omega)) (Option.some_ne_none _)).2
  refine c_copy0 hG dX7_build_69 qX7_130 (by decide) (by decide) ⟨tK.cis (hS.rk (c := 0) (k := 3) (o54 (tN.o t_x0 nn_55)) rfl (by omega)) (Option.some_ne_none _), tK.cis t_x2 ok.1.1, ok.1.2.1, (le_cast (hS.rl (c := 0) (k := 3) (o54 (tN.o t_x0 nn_55)) rfl (by decide) (by omega)) ok.1.2.2.1), ok.1.2.2.2⟩ ?_
  have hS := hS.Ac (za x2) (((za x0) + 6) + 3) (nI 0).toNatClampNeg (x3 + (nI 35)).toNatClampNeg (nI 32).toNatClampNeg tq_69
  have hM := hM.Ar (za x2) (va_cpy (cA S (((za x0) + 6) + 3)) (cA S (za x2)) (nI 0).toNatClampNeg (x3 + (nI 35)).toNatClampNeg (nI 32).toNatClampNeg)
  have ok := ok.2
  exact cX.cutz (kb_X7_build_72 hG hR hS hM t_x0 t_x1 (tK_Ar t_x2) ok hx) ⟨rfl, rfl, rfl, rfl, trivial⟩
def KF_X7_build_30 (N g H T : Nat) (x0 : Option Nat) (x1 : Nat) (x2 : Option Nat) (x3 : Int32) (S : cS) : Option Nat × cS := (KF_X7_build_54 N g H T x0 x1 x2 x3 (csArow (csA S (za x2) (x3 + (nI 2)).toNatClampNeg (((cI S 1 (za x0)).toInt8.toInt32).toInt8.toInt32)) (za x2) (va_cpy (cA (csA S (za x2) (x3 + (nI 2)).toNatClampNeg (((cI S 1 (za x0)).toInt8.toInt32).toInt8.toInt32)) ((za x0) + 11)) (cA (csA S (za x2) (x3 + (nI 2)).toNatClampNeg (((cI S 1 (za x0)).toInt8.toInt32).toInt8.toInt32)) (za x2)) (nI 0).toNatClampNeg (x3 + (nI 3)).toNatClampNeg (nI 32).toNatClampNeg)))
def KO_X7_build_30 (N g H T : Nat) (x0 : Option Nat) (x1 : Nat) (x2 : Option Nat) (x3 : Int32) (S : cS) : Prop := (¬ x0 = none) ∧ (¬ x2 = none ∧ vp_in (x3 + (nI 2)) (cL S (za x2))) ∧ (¬ x2 = none ∧ (¬ (nI 0) < 0 ∧ ¬ (x3 + (nI 3)) < 0 ∧ ¬ (nI 32) < 0) ∧ (nI 0).toNatClampNeg + (nI 32).toNatClampNeg ≤ 32 ∧ (x3 + (nI 3)).toNatClampNeg + (nI 32).toNatClampNeg ≤ (cL (csA S (za x2) (x3 + (nI 2)).toNatClampNeg (((cI S 1 (za x0)).toInt8.toInt32).toInt8.toInt32)) (za x2))) ∧ KO_X7_build_54 N g H T x0 x1 x2 x3 (csArow (csA S (za x2) (x3 + (nI 2)).toNatClampNeg (((cI S 1 (za x0)).toInt8.toInt32).toInt8.toInt32)) (za x2) (va_cpy (cA (csA S (za x2) (x3 + (nI 2)).toNatClampNeg (((cI S 1 (za x0)).toInt8.toInt32).toInt8.toInt32)) ((za x0) + 11)) (cA (csA S (za x2) (x3 + (nI 2)).toNatClampNeg (((cI S 1 (za x0)).toInt8.toInt32).toInt8.toInt32)) (za x2)) (nI 0).toNatClampNeg (x3 + (nI 3)).toNatClampNeg (nI 32).toNatClampNeg))
set_option maxRecDepth 100000 in
set_option maxHeartbeats 4000000 in
theorem kb_X7_build_30 {G : zG} {o : cO} {u g H T N : Nat} {S : cS} {S0 : cS} {Q : Option Value → cS → Prop} {X : Option Nat × cS → Prop} (hG : zOK G) (hR : ∀ v S', St u g H T S' → Mono S0 S' → tK S' 5 v → X (v, S') → Q (some (va_rf v)) S') {x0 : Option Nat} {x1 : Nat} {x2 : Option Nat} {x3 : Int32} (hS : St u g H T S) (hM : Mono S0 S) (t_x0 : tN g H x0) (t_x1 : isO g H 8 x1) (t_x2 : tK S 20 x2) (ok : KO_X7_build_30 N g H T x0 x1 x2 x3 S) (hx : X (KF_X7_build_30 N g H T x0 x1 x2 x3 S)) : cX G o dX7_build mX7_build 30 [some (va_rf x0), some (va_rf (some x1)), some (va_rf x2), some (.int x3), none, none] [] S Q := by
  unfold KO_X7_build_30 at ok
  unfold KF_X7_build_30 at hx
  refine c_aload_nQ dX7_build_30 rfl rfl ?_
  refine c_iload_n dX7_build_31 rfl rfl ?_
  refine c_iconst (v := nI 2) dX7_build_32 (by decide) ?_
  refine c_iadd dX7_build_33 ?_
  refine c_aload_nQ dX7_build_34 rfl rfl ?_
  have nn_35 := ok.1
  refine c_getI (C := RX6) (T := TX6) (N := 19) (ci := 5) (k := 1) ⟨rfl, inT6, by decide, fX7_271⟩ (by decide) (by decide) (by decide) dX7_build_35 (hS.kN t_x0 ok.1) ?_
  have ok := ok.2
  refine c_i2b dX7_build_38 ?_
  refine c_bast dX7_build_39 ⟨(tK.cis t_x2 ok.1.1), ok.1.2⟩ ?_
  have hS := hS.Ab (za x2) (x3 + (nI 2)).toNatClampNeg ((cI S 1 (za x0)).toInt8.toInt32)
  have hM := hM.A (za x2) (x3 + (nI 2)).toNatClampNeg (((cI S 1 (za x0)).toInt8.toInt32).toInt8.toInt32)
  have ok := ok.2
  refine c_aload_nQ dX7_build_40 rfl rfl ?_
  refine c_getS (C := RX6) (T := TX6) (N := 19) (ci := 5) (k := 5) ⟨rfl, inT6, by decide, fX7_127⟩ (by decide) (by decide) (by decide) dX7_build_41 (hS.kN t_x0 nn_35) (hS.r (c := 5) (tN.o t_x0 nn_35) rfl (by omega)) ?_
  refine c_iconst (v := nI 0) dX7_build_44 (by decide) ?_
  refine c_aload_nQ dX7_build_45 rfl rfl ?_
  refine c_iload_n dX7_build_46 rfl rfl ?_
  refine c_iconst (v := nI 3) dX7_build_47 (by decide) ?_
  refine c_iadd dX7_build_48 ?_
  refine c_bipush (v := nI 32) dX7_build_49 (by decide) ?_
  have tq_51 : tK (csA S (za x2) (x3 + (nI 2)).toNatClampNeg (((cI S 1 (za x0)).toInt8.toInt32).toInt8.toInt32)) 20 (some ((za x0) + 11)) := tK_some (tK.cis (hS.rk (c := 5) (k := 5) (tN.o t_x0 nn_35) rfl (by omega)) (Option.some_ne_none _)).2
  refine c_copy0 hG dX7_build_51 qX7_130 (by decide) (by decide) ⟨tK.cis (hS.rk (c := 5) (k := 5) (tN.o t_x0 nn_35) rfl (by omega)) (Option.some_ne_none _), tK.cis (tK_A t_x2) ok.1.1, ok.1.2.1, (le_cast (hS.rl (c := 5) (k := 5) (tN.o t_x0 nn_35) rfl (by decide) (by omega)) ok.1.2.2.1), ok.1.2.2.2⟩ ?_
  have hS := hS.Ac (za x2) ((za x0) + 11) (nI 0).toNatClampNeg (x3 + (nI 3)).toNatClampNeg (nI 32).toNatClampNeg tq_51
  have hM := hM.Ar (za x2) (va_cpy (cA (csA S (za x2) (x3 + (nI 2)).toNatClampNeg (((cI S 1 (za x0)).toInt8.toInt32).toInt8.toInt32)) ((za x0) + 11)) (cA (csA S (za x2) (x3 + (nI 2)).toNatClampNeg (((cI S 1 (za x0)).toInt8.toInt32).toInt8.toInt32)) (za x2)) (nI 0).toNatClampNeg (x3 + (nI 3)).toNatClampNeg (nI 32).toNatClampNeg)
  have ok := ok.2
  exact cX.cutz (kb_X7_build_54 hG hR hS hM t_x0 t_x1 (tK_Ar (tK_A t_x2)) ok hx) ⟨rfl, rfl, rfl, rfl, trivial⟩
def KF_X7_build_21 (N g H T : Nat) (x0 : Option Nat) (x1 : Nat) (x2 : Option Nat) (x3 : Int32) (S : cS) : Option Nat × cS := (KF_X7_build_30 N g H T x0 x1 x2 x3 (k_X11_putTwo N g H T S x2 x3 (cI S 9 (za x0))))
def KO_X7_build_21 (N g H T : Nat) (x0 : Option Nat) (x1 : Nat) (x2 : Option Nat) (x3 : Int32) (S : cS) : Prop := (¬ x0 = none) ∧ (p_X11_putTwo N g H T S x2 x3 (cI S 9 (za x0))) ∧ KO_X7_build_30 N g H T x0 x1 x2 x3 (k_X11_putTwo N g H T S x2 x3 (cI S 9 (za x0)))
set_option maxRecDepth 100000 in
set_option maxHeartbeats 4000000 in
theorem kb_X7_build_21 {G : zG} {o : cO} {u g H T N : Nat} {S : cS} {S0 : cS} {Q : Option Value → cS → Prop} {X : Option Nat × cS → Prop} (hG : zOK G) (hR : ∀ v S', St u g H T S' → Mono S0 S' → tK S' 5 v → X (v, S') → Q (some (va_rf v)) S') {x0 : Option Nat} {x1 : Nat} {x2 : Option Nat} {x3 : Int32} (hS : St u g H T S) (hM : Mono S0 S) (t_x0 : tN g H x0) (t_x1 : isO g H 8 x1) (t_x2 : tK S 20 x2) (ok : KO_X7_build_21 N g H T x0 x1 x2 x3 S) (hx : X (KF_X7_build_21 N g H T x0 x1 x2 x3 S)) : cX G o dX7_build mX7_build 21 [some (va_rf x0), some (va_rf (some x1)), some (va_rf x2), some (.int x3), none, none] [] S Q := by
  unfold KO_X7_build_21 at ok
  unfold KF_X7_build_21 at hx
  refine c_aload_nQ dX7_build_21 rfl rfl ?_
  refine c_iload_n dX7_build_22 rfl rfl ?_
  refine c_aload_nQ dX7_build_23 rfl rfl ?_
  have nn_24 := ok.1
  refine c_getI (C := RX6) (T := TX6) (N := 19) (ci := 5) (k := 9) ⟨rfl, inT6, by decide, fX7_18⟩ (by decide) (by decide) (by decide) dX7_build_24 (hS.kN t_x0 ok.1) ?_
  have ok := ok.2
  refine c_SN3vK (y' := mX11_putTwo) dX7_build_27 lX7_331 kX11_putTwo ⟨by decide, by decide⟩ (Nat.le_of_ble_eq_true rfl) (kc_X11_putTwo hG hS t_x2 ok.1) (fun ⟨hS, hm_27⟩ => ?_)
  have hM := hM.trans hm_27
  have ok := ok.2
  exact cX.cutz (kb_X7_build_30 hG hR hS hM t_x0 t_x1 (hm_27.tK t_x2 (by decide)) ok hx) ⟨rfl, rfl, rfl, rfl, trivial⟩
def KF_X7_build_0 (N g H T : Nat) (x0 : Option Nat) (S : cS) : Option Nat × cS := (KF_X7_build_21 N g H T x0 (g + 8) (some (g + 28)) (nI 6) (k_X7_signProposal N g H T S x0 (some (g + 28)) (nI 255)))
def KO_X7_build_0 (N g H T : Nat) (x0 : Option Nat) (S : cS) : Prop := (¬ x0 = none) ∧ (p_X7_signProposal N g H T S x0 (some (g + 28)) (nI 255)) ∧ KO_X7_build_21 N g H T x0 (g + 8) (some (g + 28)) (nI 6) (k_X7_signProposal N g H T S x0 (some (g + 28)) (nI 255))
set_option maxRecDepth 100000 in
set_option maxHeartbeats 4000000 in
theorem kb_X7_build_0 {G : zG} {o : cO} {u g H T N : Nat} {S : cS} {S0 : cS} {Q : Option Value → cS → Prop} {X : Option Nat × cS → Prop} (hG : zOK G) (hR : ∀ v S', St u g H T S' → Mono S0 S' → tK S' 5 v → X (v, S') → Q (some (va_rf v)) S') {x0 : Option Nat} (hS : St u g H T S) (hM : Mono S0 S) (t_x0 : tN g H x0) (ok : KO_X7_build_0 N g H T x0 S) (hx : X (KF_X7_build_0 N g H T x0 S)) : cX G o dX7_build mX7_build 0 [some (va_rf x0), none, none, none, none, none] [] S Q := by
  unfold KO_X7_build_0 at ok
  unfold KF_X7_build_0 at hx
  refine c_aload_nQ dX7_build_0 rfl rfl ?_
  have nn_1 := ok.1
  refine c_getS (C := RX6) (T := TX6) (N := 19) (ci := 5) (k := 0) ⟨rfl, inT6, by decide, fX7_26⟩ (by decide) (by decide) (by decide) dX7_build_1 (hS.kN t_x0 ok.1) (hS.r (c := 5) (tN.o t_x0 ok.1) rfl (by omega)) ?_
  have ok := ok.2
  refine c_astore_1Q dX7_build_4 (by decide) (by simp [zok, zg, zcat_rf]) ?_
  refine c_aload_nQ dX7_build_5 rfl rfl ?_
  refine c_getS (C := RX10) (T := TX10) (N := 12) (ci := 8) (k := 10) ⟨rfl, inT10, by decide, fX7_328⟩ (by decide) (by decide) (by decide) dX7_build_6 (hS.k (o50 (tN.o t_x0 nn_1))) (hS.r (c := 8) (o50 (tN.o t_x0 nn_1)) rfl (by omega)) ?_
  refine c_astore_2Q dX7_build_9 (by decide) (by simp [zok, zg, zcat_rf]) ?_
  refine c_bipush (v := nI 6) dX7_build_10 (by decide) ?_
  refine c_istore_3 dX7_build_12 (by decide) (by simp [zok, zg, zcat_rf]) ?_
  refine c_aload_nQ dX7_build_13 rfl rfl ?_
  refine c_aload_nQ dX7_build_14 rfl rfl ?_
  refine c_sipush (v := nI 255) dX7_build_15 (by decide) ?_
  refine c_S3vK (y' := mX7_signProposal) dX7_build_18 lX7_314 kX7_signProposal ⟨by decide, by decide⟩ (Nat.le_of_ble_eq_true rfl) (kc_X7_signProposal hG hS t_x0 (hS.rk (c := 8) (k := 10) (o50 (tN.o t_x0 nn_1)) rfl (by omega)) ok.1) (fun ⟨hS, hm_18⟩ => ?_)
  have hM := hM.trans hm_18
  have ok := ok.2
  exact cX.cutz (kb_X7_build_21 hG hR hS hM t_x0 (o50 (tN.o t_x0 nn_1)) (hS.rk (c := 8) (k := 10) (o50 (tN.o t_x0 nn_1)) rfl (by omega)) ok hx) ⟨rfl, rfl, rfl, rfl, trivial⟩
def k_X7_build (N g H T : Nat) (S : cS) (x0 : Option Nat) : Option Nat × cS := KF_X7_build_0 N g H T x0 S
def p_X7_build (N g H T : Nat) (S : cS) (x0 : Option Nat) : Prop := KO_X7_build_0 N g H T x0 S
set_option maxRecDepth 100000 in
set_option maxHeartbeats 4000000 in
theorem kc_X7_build {G : zG} {o : cO} {u g H T N : Nat} {S : cS} (hG : zOK G) {x0 : Option Nat} (hS : St u g H T S) (t_x0 : tN g H x0) (ok : p_X7_build N g H T S x0) : cCq G o dX7_build mX7_build [va_rf x0] S (fun v S' => (v = (k_X7_build N g H T S x0).1 ∧ S' = (k_X7_build N g H T S x0).2) ∧ St u g H T S' ∧ Mono S S' ∧ tK S' 5 v) := by
  refine cC.ofX rfl (by cases x0 <;> exact Nat.le_of_ble_eq_true rfl) ?_
  rw [show zargs mX7_build.2.2.1 [va_rf x0] = [some (va_rf x0), none, none, none, none, none] from by cases x0 <;> rfl]
  exact cX.cutz (kb_X7_build_0 (X := fun F => F = k_X7_build N g H T S x0) hG (fun v S' h1 h2 h3 h => ⟨v, rfl, ⟨by rw [← h], by rw [← h]⟩, h1, h2, h3⟩) hS Mono.rfl' t_x0 ok rfl) ⟨rfl, trivial⟩
/-! X7_utter -/
def KF_X7_utter_68 (N g H T : Nat) (x0 : Option Nat) (x1 : Option Nat) (S : cS) : cS := (k_X9_drop N g H T S (g + 11) x1)
def KO_X7_utter_68 (N g H T : Nat) (x0 : Option Nat) (x1 : Option Nat) (S : cS) : Prop := (¬ x0 = none) ∧ (p_X9_drop N g H T S (g + 11) x1) ∧ True
set_option maxRecDepth 100000 in
set_option maxHeartbeats 4000000 in
theorem kb_X7_utter_68 {G : zG} {o : cO} {u g H T N : Nat} {S : cS} {S0 : cS} {Q : Option Value → cS → Prop} {X : cS → Prop} (hG : zOK G) (hR : ∀ S', St u g H T S' → Mono S0 S' → X S' → Q none S') {x0 : Option Nat} {x1 : Option Nat} (hS : St u g H T S) (hM : Mono S0 S) (t_x0 : tN g H x0) (t_x1 : tK S 5 x1) (ok : KO_X7_utter_68 N g H T x0 x1 S) (hx : X (KF_X7_utter_68 N g H T x0 x1 S)) : cX G o dX7_utter mX7_utter 68 [some (va_rf x0), some (va_rf x1), none] [] S Q := by
  unfold KO_X7_utter_68 at ok
  unfold KF_X7_utter_68 at hx
  refine c_aload_nQ dX7_utter_68 rfl rfl ?_
  have nn_69 := ok.1
  refine c_getS (C := RX6) (T := TX6) (N := 19) (ci := 5) (k := 0) ⟨rfl, inT6, by decide, fX7_26⟩ (by decide) (by decide) (by decide) dX7_utter_69 (hS.kN t_x0 ok.1) (hS.r (c := 5) (tN.o t_x0 ok.1) rfl (by omega)) ?_
  have ok := ok.2
  refine c_getS (C := RX10) (T := TX10) (N := 12) (ci := 8) (k := 6) ⟨rfl, inT10, by decide, fX7_278⟩ (by decide) (by decide) (by decide) dX7_utter_72 (hS.k (o50 (tN.o t_x0 nn_69))) (hS.r (c := 8) (o50 (tN.o t_x0 nn_69)) rfl (by omega)) ?_
  refine c_aload_nQ dX7_utter_75 rfl rfl ?_
  refine c_V1vK (ci := 7) (rr := (RX9, TX9, 13)) (y' := mX9_drop) dX7_utter_76 lX7_282 kX9_drop ⟨by decide, by decide⟩ rfl rfl (by decide) (hS.k (o86 (o50 (tN.o t_x0 nn_69)))) (Nat.le_of_ble_eq_true rfl) (kc_X9_drop hG hS (o86 (o50 (tN.o t_x0 nn_69))) t_x1 ok.1) (fun ⟨hS, hm_76⟩ => ?_)
  have hM := hM.trans hm_76
  have ok := ok.2
  exact c_return rfl dX7_utter_79 (hR _ hS hM hx)
def KF_X7_utter_61 (N g H T : Nat) (x0 : Option Nat) (x1 : Option Nat) (S : cS) : cS := (KF_X7_utter_68 N g H T x0 x1 S)
def KO_X7_utter_61 (N g H T : Nat) (x0 : Option Nat) (x1 : Option Nat) (S : cS) : Prop := KO_X7_utter_68 N g H T x0 x1 S
set_option maxRecDepth 100000 in
set_option maxHeartbeats 4000000 in
theorem kb_X7_utter_61 {G : zG} {o : cO} {u g H T N : Nat} {S : cS} {S0 : cS} {Q : Option Value → cS → Prop} {X : cS → Prop} (hG : zOK G) (hR : ∀ S', St u g H T S' → Mono S0 S' → X S' → Q none S') {x0 : Option Nat} {x1 : Option Nat} (hS : St u g H T S) (hM : Mono S0 S) (t_x0 : tN g H x0) (t_x1 : tK S 5 x1) (ok : KO_X7_utter_61 N g H T x0 x1 S) (hx : X (KF_X7_utter_61 N g H T x0 x1 S)) : cX G o dX7_utter mX7_utter 61 [some (va_rf x0), some (va_rf x1), none] [] S Q := by
  unfold KO_X7_utter_61 at ok
  unfold KF_X7_utter_61 at hx
  refine c_goto (tgt := 68) dX7_utter_61 (by decide) ?_
  exact cX.cutz (kb_X7_utter_68 hG hR hS hM t_x0 t_x1 ok hx) ⟨rfl, rfl, trivial⟩
def KF_X7_utter_41 (N g H T : Nat) (x0 : Option Nat) (x1 : Option Nat) (S : cS) : cS := (KF_X7_utter_61 N g H T x0 x1 (k_X10_spread N g H T S (g + 8) (cI S 1 (za x0)) x1 (cI S 1 (za x0)) (cI S 1 (za x0))))
def KO_X7_utter_41 (N g H T : Nat) (x0 : Option Nat) (x1 : Option Nat) (S : cS) : Prop := (¬ x0 = none) ∧ (p_X10_spread N g H T S (g + 8) (cI S 1 (za x0)) x1 (cI S 1 (za x0)) (cI S 1 (za x0))) ∧ KO_X7_utter_61 N g H T x0 x1 (k_X10_spread N g H T S (g + 8) (cI S 1 (za x0)) x1 (cI S 1 (za x0)) (cI S 1 (za x0)))
set_option maxRecDepth 100000 in
set_option maxHeartbeats 4000000 in
theorem kb_X7_utter_41 {G : zG} {o : cO} {u g H T N : Nat} {S : cS} {S0 : cS} {Q : Option Value → cS → Prop} {X : cS → Prop} (hG : zOK G) (hR : ∀ S', St u g H T S' → Mono S0 S' → X S' → Q none S') {x0 : Option Nat} {x1 : Option Nat} (hS : St u g H T S) (hM : Mono S0 S) (t_x0 : tN g H x0) (t_x1 : tK S 5 x1) (ok : KO_X7_utter_41 N g H T x0 x1 S) (hx : X (KF_X7_utter_41 N g H T x0 x1 S)) : cX G o dX7_utter mX7_utter 41 [some (va_rf x0), some (va_rf x1), none] [] S Q := by
  unfold KO_X7_utter_41 at ok
  unfold KF_X7_utter_41 at hx
  refine c_aload_nQ dX7_utter_41 rfl rfl ?_
  have nn_42 := ok.1
  refine c_getS (C := RX6) (T := TX6) (N := 19) (ci := 5) (k := 0) ⟨rfl, inT6, by decide, fX7_26⟩ (by decide) (by decide) (by decide) dX7_utter_42 (hS.kN t_x0 ok.1) (hS.r (c := 5) (tN.o t_x0 ok.1) rfl (by omega)) ?_
  have ok := ok.2
  refine c_aload_nQ dX7_utter_45 rfl rfl ?_
  refine c_getI (C := RX6) (T := TX6) (N := 19) (ci := 5) (k := 1) ⟨rfl, inT6, by decide, fX7_271⟩ (by decide) (by decide) (by decide) dX7_utter_46 (hS.kN t_x0 nn_42) ?_
  refine c_aload_nQ dX7_utter_49 rfl rfl ?_
  refine c_aload_nQ dX7_utter_50 rfl rfl ?_
  refine c_getI (C := RX6) (T := TX6) (N := 19) (ci := 5) (k := 1) ⟨rfl, inT6, by decide, fX7_271⟩ (by decide) (by decide) (by decide) dX7_utter_51 (hS.kN t_x0 nn_42) ?_
  refine c_aload_nQ dX7_utter_54 rfl rfl ?_
  refine c_getI (C := RX6) (T := TX6) (N := 19) (ci := 5) (k := 1) ⟨rfl, inT6, by decide, fX7_271⟩ (by decide) (by decide) (by decide) dX7_utter_55 (hS.kN t_x0 nn_42) ?_
  refine c_V4vK (ci := 8) (rr := (RX10, TX10, 12)) (y' := mX10_spread) dX7_utter_58 lX7_274 kX10_spread ⟨by decide, by decide⟩ rfl rfl (by decide) (hS.k (o50 (tN.o t_x0 nn_42))) (Nat.le_of_ble_eq_true rfl) (kc_X10_spread hG hS (o50 (tN.o t_x0 nn_42)) t_x1 ok.1) (fun ⟨hS, hm_58⟩ => ?_)
  have hM := hM.trans hm_58
  have ok := ok.2
  exact cX.cutz (kb_X7_utter_61 hG hR hS hM t_x0 (hm_58.tK t_x1 (by decide)) ok hx) ⟨rfl, rfl, trivial⟩
def KF_X7_utter_33 (N g H T : Nat) (x0 : Option Nat) (x1 : Option Nat) (S : cS) : cS := (KF_X7_utter_41 N g H T x0 x1 (k_X8_hold N g H T S ((za x0) + 14) x1))
def KO_X7_utter_33 (N g H T : Nat) (x0 : Option Nat) (x1 : Option Nat) (S : cS) : Prop := (¬ x0 = none) ∧ (p_X8_hold N g H T S ((za x0) + 14) x1) ∧ KO_X7_utter_41 N g H T x0 x1 (k_X8_hold N g H T S ((za x0) + 14) x1)
set_option maxRecDepth 100000 in
set_option maxHeartbeats 4000000 in
theorem kb_X7_utter_33 {G : zG} {o : cO} {u g H T N : Nat} {S : cS} {S0 : cS} {Q : Option Value → cS → Prop} {X : cS → Prop} (hG : zOK G) (hR : ∀ S', St u g H T S' → Mono S0 S' → X S' → Q none S') {x0 : Option Nat} {x1 : Option Nat} (hS : St u g H T S) (hM : Mono S0 S) (t_x0 : tN g H x0) (t_x1 : tK S 5 x1) (ok : KO_X7_utter_33 N g H T x0 x1 S) (hx : X (KF_X7_utter_33 N g H T x0 x1 S)) : cX G o dX7_utter mX7_utter 33 [some (va_rf x0), some (va_rf x1), none] [] S Q := by
  unfold KO_X7_utter_33 at ok
  unfold KF_X7_utter_33 at hx
  refine c_aload_nQ dX7_utter_33 rfl rfl ?_
  have nn_34 := ok.1
  refine c_getS (C := RX6) (T := TX6) (N := 19) (ci := 5) (k := 3) ⟨rfl, inT6, by decide, fX7_80⟩ (by decide) (by decide) (by decide) dX7_utter_34 (hS.kN t_x0 ok.1) (hS.r (c := 5) (tN.o t_x0 ok.1) rfl (by omega)) ?_
  have ok := ok.2
  refine c_aload_nQ dX7_utter_37 rfl rfl ?_
  refine c_V1vK (ci := 6) (rr := (RX8, TX8, 14)) (y' := mX8_hold) dX7_utter_38 lX7_267 kX8_hold ⟨by decide, by decide⟩ rfl rfl (by decide) (hS.k (o53 (tN.o t_x0 nn_34))) (Nat.le_of_ble_eq_true rfl) (kc_X8_hold hG hS (o53 (tN.o t_x0 nn_34)) t_x1 ok.1) (fun ⟨hS, hm_38⟩ => ?_)
  have hM := hM.trans hm_38
  have ok := ok.2
  exact cX.cutz (kb_X7_utter_41 hG hR hS hM t_x0 (hm_38.tK t_x1 (by decide)) ok hx) ⟨rfl, rfl, trivial⟩
def KF_X7_utter_15 (N g H T : Nat) (x0 : Option Nat) (x1 : Option Nat) (x2 : Int32) (s0 : Int32) (S : cS) : cS := (if s0 = 0 then (KF_X7_utter_68 N g H T x0 x1 (k_X6_fall N g H T S (za x0))) else (KF_X7_utter_33 N g H T x0 x1 (csI (csI S 17 (za x0) ((cI S 17 (za x0)) + (nI 1))) 11 (za x0) x2)))
def KO_X7_utter_15 (N g H T : Nat) (x0 : Option Nat) (x1 : Option Nat) (x2 : Int32) (s0 : Int32) (S : cS) : Prop := ((s0 = 0 → (¬ x0 = none ∧ p_X6_fall N g H T S (za x0)) ∧ KO_X7_utter_68 N g H T x0 x1 (k_X6_fall N g H T S (za x0))) ∧ (¬ s0 = 0 → (¬ x0 = none) ∧ KO_X7_utter_33 N g H T x0 x1 (csI (csI S 17 (za x0) ((cI S 17 (za x0)) + (nI 1))) 11 (za x0) x2)))
set_option maxRecDepth 100000 in
set_option maxHeartbeats 4000000 in
theorem kb_X7_utter_15 {G : zG} {o : cO} {u g H T N : Nat} {S : cS} {S0 : cS} {Q : Option Value → cS → Prop} {X : cS → Prop} (hG : zOK G) (hR : ∀ S', St u g H T S' → Mono S0 S' → X S' → Q none S') {x0 : Option Nat} {x1 : Option Nat} {x2 : Int32} {s0 : Int32} (hS : St u g H T S) (hM : Mono S0 S) (t_x0 : tN g H x0) (t_x1 : tK S 5 x1) (ok : KO_X7_utter_15 N g H T x0 x1 x2 s0 S) (hx : X (KF_X7_utter_15 N g H T x0 x1 x2 s0 S)) : cX G o dX7_utter mX7_utter 15 [some (va_rf x0), some (va_rf x1), some (.int x2)] [.int s0] S Q := by
  unfold KO_X7_utter_15 at ok
  unfold KF_X7_utter_15 at hx
  refine c_if_eq (tgt := 64) dX7_utter_15 (by decide) (fun c_15 => ?_) (fun c_15 => ?_)
  · have ok := ok.1 c_15
    have hx := xif_p c_15 hx
    refine c_aload_nQ dX7_utter_64 rfl rfl ?_
    have nn_65 := ok.1.1
    refine c_V0vK (ci := 5) (rr := (RX6, TX6, 19)) (y' := mX6_fall) dX7_utter_65 lX7_120 kX6_fall ⟨by decide, by decide⟩ rfl rfl (by decide) (hS.kN t_x0 nn_65) (Nat.le_of_ble_eq_true rfl) (kc_X6_fall hG hS (tN.o t_x0 nn_65) ok.1.2) (fun ⟨hS, hm_65⟩ => ?_)
    have hM := hM.trans hm_65
    have ok := ok.2
    exact cX.cutz (kb_X7_utter_68 hG hR hS hM t_x0 (hm_65.tK t_x1 (by decide)) ok hx) ⟨rfl, rfl, trivial⟩
  · have ok := ok.2 c_15
    have hx := xif_n c_15 hx
    refine c_aload_nQ dX7_utter_18 rfl rfl ?_
    refine c_dup dX7_utter_19 (zcat_rf _) ?_
    have nn_20 := ok.1
    refine c_getI (C := RX6) (T := TX6) (N := 19) (ci := 5) (k := 17) ⟨rfl, inT6, by decide, fX7_264⟩ (by decide) (by decide) (by decide) dX7_utter_20 (hS.kN t_x0 ok.1) ?_
    have ok := ok.2
    refine c_iconst (v := nI 1) dX7_utter_23 (by decide) ?_
    refine c_iadd dX7_utter_24 ?_
    refine c_putI (C := RX6) (T := TX6) (N := 19) (ci := 5) (k := 17) ⟨rfl, inT6, by decide, fX7_264⟩ ftT6 rfl (by decide) (by decide) (by decide) rfl rfl dX7_utter_25 (hS.kN t_x0 nn_20) ?_
    have hS := hS.I 17 (za x0) ((cI S 17 (za x0)) + (nI 1))
    have hM := hM.I 17 (za x0) ((cI S 17 (za x0)) + (nI 1))
    refine c_aload_nQ dX7_utter_28 rfl rfl ?_
    refine c_iload_n dX7_utter_29 rfl rfl ?_
    refine c_putI (C := RX6) (T := TX6) (N := 19) (ci := 5) (k := 11) ⟨rfl, inT6, by decide, fX7_220⟩ ftT6 rfl (by decide) (by decide) (by decide) rfl rfl dX7_utter_30 (hS.kN t_x0 nn_20) ?_
    have hS := hS.I 11 (za x0) x2
    have hM := hM.I 11 (za x0) x2
    exact cX.cutz (kb_X7_utter_33 hG hR hS hM t_x0 (tK_I (tK_I t_x1)) ok hx) ⟨rfl, rfl, trivial⟩
def KF_X7_utter_0 (N g H T : Nat) (x0 : Option Nat) (x1 : Option Nat) (x2 : Int32) (S : cS) : cS := (KF_X7_utter_15 N g H T x0 x1 x2 ((k_X4_jot N g H T S ((za x0) + 1) (nI 3) (cI S 9 (za x0)) x2 x1 (nI 0)).1) (k_X4_jot N g H T S ((za x0) + 1) (nI 3) (cI S 9 (za x0)) x2 x1 (nI 0)).2)
def KO_X7_utter_0 (N g H T : Nat) (x0 : Option Nat) (x1 : Option Nat) (x2 : Int32) (S : cS) : Prop := (¬ x0 = none) ∧ (p_X4_jot N g H T S ((za x0) + 1) (nI 3) (cI S 9 (za x0)) x2 x1 (nI 0)) ∧ KO_X7_utter_15 N g H T x0 x1 x2 ((k_X4_jot N g H T S ((za x0) + 1) (nI 3) (cI S 9 (za x0)) x2 x1 (nI 0)).1) (k_X4_jot N g H T S ((za x0) + 1) (nI 3) (cI S 9 (za x0)) x2 x1 (nI 0)).2
set_option maxRecDepth 100000 in
set_option maxHeartbeats 4000000 in
theorem kb_X7_utter_0 {G : zG} {o : cO} {u g H T N : Nat} {S : cS} {S0 : cS} {Q : Option Value → cS → Prop} {X : cS → Prop} (hG : zOK G) (hR : ∀ S', St u g H T S' → Mono S0 S' → X S' → Q none S') {x0 : Option Nat} {x1 : Option Nat} {x2 : Int32} (hS : St u g H T S) (hM : Mono S0 S) (t_x0 : tN g H x0) (t_x1 : tK S 5 x1) (ok : KO_X7_utter_0 N g H T x0 x1 x2 S) (hx : X (KF_X7_utter_0 N g H T x0 x1 x2 S)) : cX G o dX7_utter mX7_utter 0 [some (va_rf x0), some (va_rf x1), some (.int x2)] [] S Q := by
  unfold KO_X7_utter_0 at ok
  unfold KF_X7_utter_0 at hx
  refine c_aload_nQ dX7_utter_0 rfl rfl ?_
  have nn_1 := ok.1
  refine c_getS (C := RX6) (T := TX6) (N := 19) (ci := 5) (k := 2) ⟨rfl, inT6, by decide, fX7_110⟩ (by decide) (by decide) (by decide) dX7_utter_1 (hS.kN t_x0 ok.1) (hS.r (c := 5) (tN.o t_x0 ok.1) rfl (by omega)) ?_
  have ok := ok.2
  refine c_iconst (v := nI 3) dX7_utter_4 (by decide) ?_
  refine c_aload_nQ dX7_utter_5 rfl rfl ?_
  refine c_getI (C := RX6) (T := TX6) (N := 19) (ci := 5) (k := 9) ⟨rfl, inT6, by decide, fX7_18⟩ (by decide) (by decide) (by decide) dX7_utter_6 (hS.kN t_x0 nn_1) ?_
  refine c_iload_n dX7_utter_9 rfl rfl ?_
  refine c_aload_nQ dX7_utter_10 rfl rfl ?_
  refine c_iconst (v := nI 0) dX7_utter_11 (by decide) ?_
  refine c_V5iK (ci := 3) (rr := (RX4, TX4, 10)) (y' := mX4_jot) dX7_utter_12 lX7_243 kX4_jot ⟨by decide, by decide⟩ rfl rfl (by decide) (hS.k (o52 (tN.o t_x0 nn_1))) (Nat.le_of_ble_eq_true rfl) (kc_X4_jot hG hS (o52 (tN.o t_x0 nn_1)) t_x1 ok.1) (fun ⟨hS, hm_12⟩ => ?_)
  have hM := hM.trans hm_12
  have ok := ok.2
  exact cX.cutz (kb_X7_utter_15 hG hR hS hM t_x0 (hm_12.tK t_x1 (by decide)) ok hx) ⟨rfl, rfl, rfl, trivial⟩
def k_X7_utter (N g H T : Nat) (S : cS) (x0 : Option Nat) (x1 : Option Nat) (x2 : Int32) : cS := KF_X7_utter_0 N g H T x0 x1 x2 S
def p_X7_utter (N g H T : Nat) (S : cS) (x0 : Option Nat) (x1 : Option Nat) (x2 : Int32) : Prop := KO_X7_utter_0 N g H T x0 x1 x2 S
set_option maxRecDepth 100000 in
set_option maxHeartbeats 4000000 in
theorem kc_X7_utter {G : zG} {o : cO} {u g H T N : Nat} {S : cS} (hG : zOK G) {x0 : Option Nat} {x1 : Option Nat} {x2 : Int32} (hS : St u g H T S) (t_x0 : tN g H x0) (t_x1 : tK S 5 x1) (ok : p_X7_utter N g H T S x0 x1 x2) : cCv G o dX7_utter mX7_utter [va_rf x0, va_rf x1, .int x2] S (fun S' => S' = k_X7_utter N g H T S x0 x1 x2 ∧ St u g H T S' ∧ Mono S S') := by
  refine cC.ofX rfl (by cases x0 <;> cases x1 <;> exact Nat.le_of_ble_eq_true rfl) ?_
  rw [show zargs mX7_utter.2.2.1 [va_rf x0, va_rf x1, .int x2] = [some (va_rf x0), some (va_rf x1), some (.int x2)] from by cases x0 <;> cases x1 <;> rfl]
  exact cX.cutz (kb_X7_utter_0 (X := fun F => F = k_X7_utter N g H T S x0 x1 x2) hG (fun S' h1 h2 h => ⟨rfl, h, h1, h2⟩) hS Mono.rfl' t_x0 t_x1 ok rfl) ⟨rfl, rfl, rfl, trivial⟩
/-! X7_begin -/
def KF_X7_begin_106 (N g H T : Nat)  (S : cS) : cS := S
def KO_X7_begin_106 (N g H T : Nat)  (S : cS) : Prop := True
set_option maxRecDepth 100000 in
set_option maxHeartbeats 4000000 in
theorem kb_X7_begin_106 {G : zG} {o : cO} {u g H T N : Nat} {S : cS} {S0 : cS} {Q : Option Value → cS → Prop} {X : cS → Prop} (hG : zOK G) (hR : ∀ S', St u g H T S' → Mono S0 S' → X S' → Q none S') (hS : St u g H T S) (hM : Mono S0 S) (ok : KO_X7_begin_106 N g H T S) (hx : X (KF_X7_begin_106 N g H T S)) : cX G o dX7_begin mX7_begin 106 [none, none, none] [] S Q := by
  unfold KO_X7_begin_106 at ok
  unfold KF_X7_begin_106 at hx
  exact c_return rfl dX7_begin_106 (hR _ hS hM hx)
def KF_X7_begin_102 (N g H T : Nat) (s0 : Option Nat) (s1 : Option Nat) (S : cS) : cS := (KF_X7_begin_106 N g H T (k_X7_utter N g H T S s0 s1 (nI 0)))
def KO_X7_begin_102 (N g H T : Nat) (s0 : Option Nat) (s1 : Option Nat) (S : cS) : Prop := (p_X7_utter N g H T S s0 s1 (nI 0)) ∧ KO_X7_begin_106 N g H T (k_X7_utter N g H T S s0 s1 (nI 0))
set_option maxRecDepth 100000 in
set_option maxHeartbeats 4000000 in
theorem kb_X7_begin_102 {G : zG} {o : cO} {u g H T N : Nat} {S : cS} {S0 : cS} {Q : Option Value → cS → Prop} {X : cS → Prop} (hG : zOK G) (hR : ∀ S', St u g H T S' → Mono S0 S' → X S' → Q none S') {s0 : Option Nat} {s1 : Option Nat} (hS : St u g H T S) (hM : Mono S0 S) (t_s0 : tN g H s0) (t_s1 : tK S 5 s1) (ok : KO_X7_begin_102 N g H T s0 s1 S) (hx : X (KF_X7_begin_102 N g H T s0 s1 S)) : cX G o dX7_begin mX7_begin 102 [none, none, none] [va_rf s1, va_rf s0] S Q := by
  unfold KO_X7_begin_102 at ok
  unfold KF_X7_begin_102 at hx
  refine c_iconst (v := nI 0) dX7_begin_102 (by decide) ?_
  refine c_S3vK (y' := mX7_utter) dX7_begin_103 lX7_234 kX7_utter ⟨by decide, by decide⟩ (Nat.le_of_ble_eq_true rfl) (kc_X7_utter hG hS t_s0 t_s1 ok.1) (fun ⟨hS, hm_103⟩ => ?_)
  have hM := hM.trans hm_103
  have ok := ok.2
  exact cX.cutz (kb_X7_begin_106 hG hR hS hM  ok hx) trivial
def KF_X7_begin_95 (N g H T : Nat) (s0 : Option Nat) (s1 : Option Nat) (S : cS) : cS := (KF_X7_begin_102 N g H T s0 s1 S)
def KO_X7_begin_95 (N g H T : Nat) (s0 : Option Nat) (s1 : Option Nat) (S : cS) : Prop := KO_X7_begin_102 N g H T s0 s1 S
set_option maxRecDepth 100000 in
set_option maxHeartbeats 4000000 in
theorem kb_X7_begin_95 {G : zG} {o : cO} {u g H T N : Nat} {S : cS} {S0 : cS} {Q : Option Value → cS → Prop} {X : cS → Prop} (hG : zOK G) (hR : ∀ S', St u g H T S' → Mono S0 S' → X S' → Q none S') {s0 : Option Nat} {s1 : Option Nat} (hS : St u g H T S) (hM : Mono S0 S) (t_s0 : tN g H s0) (t_s1 : tK S 5 s1) (ok : KO_X7_begin_95 N g H T s0 s1 S) (hx : X (KF_X7_begin_95 N g H T s0 s1 S)) : cX G o dX7_begin mX7_begin 95 [none, none, none] [va_rf s1, va_rf s0] S Q := by
  unfold KO_X7_begin_95 at ok
  unfold KF_X7_begin_95 at hx
  refine c_goto (tgt := 102) dX7_begin_95 (by decide) ?_
  exact cX.cutz (kb_X7_begin_102 hG hR hS hM t_s0 t_s1 ok hx) trivial
def KF_X7_begin_61 (N g H T : Nat) (x0 : Option Nat) (x1 : Int32) (S : cS) : cS := (if (k_X10_proposer N g H T S (g + 8) (cI S 9 (za x0)) x1) = (cI S 1 (za x0)) then (if (cR S 15 (za x0)) = none then (KF_X7_begin_102 N g H T x0 ((k_X7_build N g H T S x0).1) (k_X7_build N g H T S x0).2) else (KF_X7_begin_95 N g H T x0 ((k_X7_again N g H T S x0 (cR S 15 (za x0))).1) (k_X7_again N g H T S x0 (cR S 15 (za x0))).2)) else (KF_X7_begin_106 N g H T S))
def KO_X7_begin_61 (N g H T : Nat) (x0 : Option Nat) (x1 : Int32) (S : cS) : Prop := (¬ x0 = none) ∧ (p_X10_proposer N g H T S (g + 8) (cI S 9 (za x0)) x1) ∧ (((k_X10_proposer N g H T S (g + 8) (cI S 9 (za x0)) x1) = (cI S 1 (za x0)) → (((cR S 15 (za x0)) = none → (p_X7_build N g H T S x0) ∧ KO_X7_begin_102 N g H T x0 ((k_X7_build N g H T S x0).1) (k_X7_build N g H T S x0).2) ∧ (¬ (cR S 15 (za x0)) = none → (p_X7_again N g H T S x0 (cR S 15 (za x0))) ∧ KO_X7_begin_95 N g H T x0 ((k_X7_again N g H T S x0 (cR S 15 (za x0))).1) (k_X7_again N g H T S x0 (cR S 15 (za x0))).2))) ∧ (¬ (k_X10_proposer N g H T S (g + 8) (cI S 9 (za x0)) x1) = (cI S 1 (za x0)) → KO_X7_begin_106 N g H T S))
set_option maxRecDepth 100000 in
set_option maxHeartbeats 4000000 in
theorem kb_X7_begin_61 {G : zG} {o : cO} {u g H T N : Nat} {S : cS} {S0 : cS} {Q : Option Value → cS → Prop} {X : cS → Prop} (hG : zOK G) (hR : ∀ S', St u g H T S' → Mono S0 S' → X S' → Q none S') {x0 : Option Nat} {x1 : Int32} (hS : St u g H T S) (hM : Mono S0 S) (t_x0 : tN g H x0) (ok : KO_X7_begin_61 N g H T x0 x1 S) (hx : X (KF_X7_begin_61 N g H T x0 x1 S)) : cX G o dX7_begin mX7_begin 61 [some (va_rf x0), some (.int x1), none] [] S Q := by
  unfold KO_X7_begin_61 at ok
  unfold KF_X7_begin_61 at hx
  refine c_aload_nQ dX7_begin_61 rfl rfl ?_
  have nn_62 := ok.1
  refine c_getS (C := RX6) (T := TX6) (N := 19) (ci := 5) (k := 0) ⟨rfl, inT6, by decide, fX7_26⟩ (by decide) (by decide) (by decide) dX7_begin_62 (hS.kN t_x0 ok.1) (hS.r (c := 5) (tN.o t_x0 ok.1) rfl (by omega)) ?_
  have ok := ok.2
  refine c_aload_nQ dX7_begin_65 rfl rfl ?_
  refine c_getI (C := RX6) (T := TX6) (N := 19) (ci := 5) (k := 9) ⟨rfl, inT6, by decide, fX7_18⟩ (by decide) (by decide) (by decide) dX7_begin_66 (hS.kN t_x0 nn_62) ?_
  refine c_iload_n dX7_begin_69 rfl rfl ?_
  refine c_V2iE (ci := 8) (rr := (RX10, TX10, 12)) (y' := mX10_proposer) dX7_begin_70 lX7_296 kX10_proposer ⟨by decide, by decide⟩ rfl rfl (by decide) (hS.k (o50 (tN.o t_x0 nn_62))) (Nat.le_of_ble_eq_true rfl) (kc_X10_proposer hG hS (o50 (tN.o t_x0 nn_62)) ok.1) ?_
  have ok := ok.2
  refine c_aload_nQ dX7_begin_73 rfl rfl ?_
  refine c_getI (C := RX6) (T := TX6) (N := 19) (ci := 5) (k := 1) ⟨rfl, inT6, by decide, fX7_271⟩ (by decide) (by decide) (by decide) dX7_begin_74 (hS.kN t_x0 nn_62) ?_
  refine c_icmp_ne (tgt := 106) dX7_begin_77 (by decide) (fun c_77 => ?_) (fun c_77 => ?_)
  · have ok := ok.2 c_77
    have hx := xif_n c_77 hx
    exact cX.cutz (kb_X7_begin_106 hG hR hS hM  ok hx) trivial
  · have ok := ok.1 c_77
    have hx := xif_p c_77 hx
    refine c_aload_nQ dX7_begin_80 rfl rfl ?_
    have p_81 := hS.lk (tN.o t_x0 nn_62) (Or.inr rfl)
    refine c_getR (C := RX6) (T := TX6) (N := 19) (ci := 5) (k := 15) ⟨rfl, inT6, by decide, fX7_299⟩ (by decide) (by decide) (by decide) dX7_begin_81 (hS.kN t_x0 nn_62) ?_
    refine c_astore_2Q dX7_begin_84 (by decide) rfl ?_
    refine c_aload_nQ dX7_begin_85 rfl rfl ?_
    refine c_aload_nQ dX7_begin_86 rfl rfl ?_
    refine c_ifnullI (tgt := 98) dX7_begin_87 (by decide) (fun c_87 => ?_) (fun c_87 => ?_)
    · have ok := ok.1 c_87
      have hx := xif_p c_87 hx
      refine c_aload_nQ dX7_begin_98 rfl rfl ?_
      refine c_S1qK (y' := mX7_build) dX7_begin_99 lX7_306 kX7_build ⟨by decide, by decide⟩ (by simp only [List.map_cons, List.map_nil, List.sum_cons, List.sum_nil, zcat_rf, zcat_i, zcat_l, zcat_r] <;> decide) (kc_X7_build hG hS t_x0 ok.1) (fun ⟨hS, hm_99, tv_99⟩ => ?_)
      have hM := hM.trans hm_99
      have ok := ok.2
      exact cX.cutz (kb_X7_begin_102 hG hR hS hM t_x0 tv_99 ok hx) trivial
    · have ok := ok.2 c_87
      have hx := xif_n c_87 hx
      refine c_aload_nQ dX7_begin_90 rfl rfl ?_
      refine c_aload_nQ dX7_begin_91 rfl rfl ?_
      refine c_S2qK (y' := mX7_again) dX7_begin_92 lX7_302 kX7_again ⟨by decide, by decide⟩ (by simp only [List.map_cons, List.map_nil, List.sum_cons, List.sum_nil, zcat_rf, zcat_i, zcat_l, zcat_r] <;> decide) (kc_X7_again hG hS t_x0 p_81 ok.1) (fun ⟨hS, hm_92, tv_92⟩ => ?_)
      have hM := hM.trans hm_92
      have ok := ok.2
      exact cX.cutz (kb_X7_begin_95 hG hR hS hM t_x0 tv_92 ok hx) trivial
def KF_X7_begin_56 (N g H T : Nat) (x0 : Option Nat) (x1 : Int32) (S : cS) : cS := (KF_X7_begin_61 N g H T x0 x1 (k_X6_setTimer N g H T S (za x0) (nI 0)))
def KO_X7_begin_56 (N g H T : Nat) (x0 : Option Nat) (x1 : Int32) (S : cS) : Prop := (¬ x0 = none ∧ p_X6_setTimer N g H T S (za x0) (nI 0)) ∧ KO_X7_begin_61 N g H T x0 x1 (k_X6_setTimer N g H T S (za x0) (nI 0))
set_option maxRecDepth 100000 in
set_option maxHeartbeats 4000000 in
theorem kb_X7_begin_56 {G : zG} {o : cO} {u g H T N : Nat} {S : cS} {S0 : cS} {Q : Option Value → cS → Prop} {X : cS → Prop} (hG : zOK G) (hR : ∀ S', St u g H T S' → Mono S0 S' → X S' → Q none S') {x0 : Option Nat} {x1 : Int32} (hS : St u g H T S) (hM : Mono S0 S) (t_x0 : tN g H x0) (ok : KO_X7_begin_56 N g H T x0 x1 S) (hx : X (KF_X7_begin_56 N g H T x0 x1 S)) : cX G o dX7_begin mX7_begin 56 [some (va_rf x0), some (.int x1), none] [] S Q := by
  unfold KO_X7_begin_56 at ok
  unfold KF_X7_begin_56 at hx
  refine c_aload_nQ dX7_begin_56 rfl rfl ?_
  refine c_iconst (v := nI 0) dX7_begin_57 (by decide) ?_
  have nn_58 := ok.1.1
  refine c_V1vK (ci := 5) (rr := (RX6, TX6, 19)) (y' := mX6_setTimer) dX7_begin_58 lX7_261 kX6_setTimer ⟨by decide, by decide⟩ rfl rfl (by decide) (hS.kN t_x0 nn_58) (Nat.le_of_ble_eq_true rfl) (kc_X6_setTimer hG hS (tN.o t_x0 nn_58) ok.1.2) (fun ⟨hS, hm_58⟩ => ?_)
  have hM := hM.trans hm_58
  have ok := ok.2
  exact cX.cutz (kb_X7_begin_61 hG hR hS hM t_x0 ok hx) ⟨rfl, rfl, trivial⟩
def KF_X7_begin_43 (N g H T : Nat) (x0 : Option Nat) (x1 : Int32) (S : cS) : cS := (KF_X7_begin_56 N g H T x0 x1 (k_J7_fill_53178 N g H T (csI S 16 (za x0) (nI 0)) (some ((za x0) + 12)) (nI 0)))
def KO_X7_begin_43 (N g H T : Nat) (x0 : Option Nat) (x1 : Int32) (S : cS) : Prop := (¬ x0 = none) ∧ (p_J7_fill_53178 N g H T (csI S 16 (za x0) (nI 0)) (some ((za x0) + 12)) (nI 0)) ∧ KO_X7_begin_56 N g H T x0 x1 (k_J7_fill_53178 N g H T (csI S 16 (za x0) (nI 0)) (some ((za x0) + 12)) (nI 0))
set_option maxRecDepth 100000 in
set_option maxHeartbeats 4000000 in
theorem kb_X7_begin_43 {G : zG} {o : cO} {u g H T N : Nat} {S : cS} {S0 : cS} {Q : Option Value → cS → Prop} {X : cS → Prop} (hG : zOK G) (hR : ∀ S', St u g H T S' → Mono S0 S' → X S' → Q none S') {x0 : Option Nat} {x1 : Int32} (hS : St u g H T S) (hM : Mono S0 S) (t_x0 : tN g H x0) (ok : KO_X7_begin_43 N g H T x0 x1 S) (hx : X (KF_X7_begin_43 N g H T x0 x1 S)) : cX G o dX7_begin mX7_begin 43 [some (va_rf x0), some (.int x1), none] [] S Q := by
  unfold KO_X7_begin_43 at ok
  unfold KF_X7_begin_43 at hx
  refine c_aload_nQ dX7_begin_43 rfl rfl ?_
  refine c_iconst (v := nI 0) dX7_begin_44 (by decide) ?_
  have nn_45 := ok.1
  refine c_putI (C := RX6) (T := TX6) (N := 19) (ci := 5) (k := 16) ⟨rfl, inT6, by decide, fX7_240⟩ ftT6 rfl (by decide) (by decide) (by decide) rfl rfl dX7_begin_45 (hS.kN t_x0 ok.1) ?_
  have hS := hS.I 16 (za x0) (nI 0)
  have hM := hM.I 16 (za x0) (nI 0)
  have ok := ok.2
  refine c_aload_nQ dX7_begin_48 rfl rfl ?_
  refine c_getS (C := RX6) (T := TX6) (N := 19) (ci := 5) (k := 6) ⟨rfl, inT6, by decide, fX7_287⟩ (by decide) (by decide) (by decide) dX7_begin_49 (hS.kN t_x0 nn_45) (hS.r (c := 5) (tN.o t_x0 nn_45) rfl (by omega)) ?_
  refine c_iconst (v := nI 0) dX7_begin_52 (by decide) ?_
  refine c_S2vK (y' := mJ7_fill_53178) dX7_begin_53 lX7_290 kJ7_fill_53178 ⟨by decide, by decide⟩ (Nat.le_of_ble_eq_true rfl) (kc_J7_fill_53178 hG hS (hS.rk (c := 5) (k := 6) (tN.o t_x0 nn_45) rfl (by omega)) ok.1) (fun ⟨hS, hm_53⟩ => ?_)
  have hM := hM.trans hm_53
  have ok := ok.2
  exact cX.cutz (kb_X7_begin_56 hG hR hS hM t_x0 ok hx) ⟨rfl, rfl, trivial⟩
def KF_X7_begin_25 (N g H T : Nat) (x0 : Option Nat) (x1 : Int32) (s0 : Int32) (S : cS) : cS := (if s0 = 0 then (k_X6_fall N g H T S (za x0)) else (KF_X7_begin_43 N g H T x0 x1 (csI (csI S 10 (za x0) x1) 11 (za x0) (nI 0))))
def KO_X7_begin_25 (N g H T : Nat) (x0 : Option Nat) (x1 : Int32) (s0 : Int32) (S : cS) : Prop := ((s0 = 0 → (¬ x0 = none ∧ p_X6_fall N g H T S (za x0)) ∧ True) ∧ (¬ s0 = 0 → (¬ x0 = none) ∧ KO_X7_begin_43 N g H T x0 x1 (csI (csI S 10 (za x0) x1) 11 (za x0) (nI 0))))
set_option maxRecDepth 100000 in
set_option maxHeartbeats 4000000 in
theorem kb_X7_begin_25 {G : zG} {o : cO} {u g H T N : Nat} {S : cS} {S0 : cS} {Q : Option Value → cS → Prop} {X : cS → Prop} (hG : zOK G) (hR : ∀ S', St u g H T S' → Mono S0 S' → X S' → Q none S') {x0 : Option Nat} {x1 : Int32} {s0 : Int32} (hS : St u g H T S) (hM : Mono S0 S) (t_x0 : tN g H x0) (ok : KO_X7_begin_25 N g H T x0 x1 s0 S) (hx : X (KF_X7_begin_25 N g H T x0 x1 s0 S)) : cX G o dX7_begin mX7_begin 25 [some (va_rf x0), some (.int x1), none] [.int s0] S Q := by
  unfold KO_X7_begin_25 at ok
  unfold KF_X7_begin_25 at hx
  refine c_if_ne (tgt := 33) dX7_begin_25 (by decide) (fun c_25 => ?_) (fun c_25 => ?_)
  · have ok := ok.2 c_25
    have hx := xif_n c_25 hx
    refine c_aload_nQ dX7_begin_33 rfl rfl ?_
    refine c_iload_n dX7_begin_34 rfl rfl ?_
    have nn_35 := ok.1
    refine c_putI (C := RX6) (T := TX6) (N := 19) (ci := 5) (k := 10) ⟨rfl, inT6, by decide, fX7_213⟩ ftT6 rfl (by decide) (by decide) (by decide) rfl rfl dX7_begin_35 (hS.kN t_x0 ok.1) ?_
    have hS := hS.I 10 (za x0) x1
    have hM := hM.I 10 (za x0) x1
    have ok := ok.2
    refine c_aload_nQ dX7_begin_38 rfl rfl ?_
    refine c_iconst (v := nI 0) dX7_begin_39 (by decide) ?_
    refine c_putI (C := RX6) (T := TX6) (N := 19) (ci := 5) (k := 11) ⟨rfl, inT6, by decide, fX7_220⟩ ftT6 rfl (by decide) (by decide) (by decide) rfl rfl dX7_begin_40 (hS.kN t_x0 nn_35) ?_
    have hS := hS.I 11 (za x0) (nI 0)
    have hM := hM.I 11 (za x0) (nI 0)
    exact cX.cutz (kb_X7_begin_43 hG hR hS hM t_x0 ok hx) ⟨rfl, rfl, trivial⟩
  · have ok := ok.1 c_25
    have hx := xif_p c_25 hx
    refine c_aload_nQ dX7_begin_28 rfl rfl ?_
    have nn_29 := ok.1.1
    refine c_V0vK (ci := 5) (rr := (RX6, TX6, 19)) (y' := mX6_fall) dX7_begin_29 lX7_120 kX6_fall ⟨by decide, by decide⟩ rfl rfl (by decide) (hS.kN t_x0 nn_29) (Nat.le_of_ble_eq_true rfl) (kc_X6_fall hG hS (tN.o t_x0 nn_29) ok.1.2) (fun ⟨hS, hm_29⟩ => ?_)
    have hM := hM.trans hm_29
    have ok := ok.2
    exact c_return rfl dX7_begin_32 (hR _ hS hM hx)
def KF_X7_begin_0 (N g H T : Nat) (x0 : Option Nat) (S : cS) : cS := (KF_X7_begin_25 N g H T x0 (cI S 18 (za x0)) ((k_X4_jot N g H T (csI S 18 (za x0) (-1)) ((za x0) + 1) (nI 2) (cI (csI S 18 (za x0) (-1)) 9 (za x0)) (cI S 18 (za x0)) (none : Option Nat) (nI 0)).1) (k_X4_jot N g H T (csI S 18 (za x0) (-1)) ((za x0) + 1) (nI 2) (cI (csI S 18 (za x0) (-1)) 9 (za x0)) (cI S 18 (za x0)) (none : Option Nat) (nI 0)).2)
def KO_X7_begin_0 (N g H T : Nat) (x0 : Option Nat) (S : cS) : Prop := (¬ x0 = none) ∧ (p_X4_jot N g H T (csI S 18 (za x0) (-1)) ((za x0) + 1) (nI 2) (cI (csI S 18 (za x0) (-1)) 9 (za x0)) (cI S 18 (za x0)) (none : Option Nat) (nI 0)) ∧ KO_X7_begin_25 N g H T x0 (cI S 18 (za x0)) ((k_X4_jot N g H T (csI S 18 (za x0) (-1)) ((za x0) + 1) (nI 2) (cI (csI S 18 (za x0) (-1)) 9 (za x0)) (cI S 18 (za x0)) (none : Option Nat) (nI 0)).1) (k_X4_jot N g H T (csI S 18 (za x0) (-1)) ((za x0) + 1) (nI 2) (cI (csI S 18 (za x0) (-1)) 9 (za x0)) (cI S 18 (za x0)) (none : Option Nat) (nI 0)).2
set_option maxRecDepth 100000 in
set_option maxHeartbeats 4000000 in
theorem kb_X7_begin_0 {G : zG} {o : cO} {u g H T N : Nat} {S : cS} {S0 : cS} {Q : Option Value → cS → Prop} {X : cS → Prop} (hG : zOK G) (hR : ∀ S', St u g H T S' → Mono S0 S' → X S' → Q none S') {x0 : Option Nat} (hS : St u g H T S) (hM : Mono S0 S) (t_x0 : tN g H x0) (ok : KO_X7_begin_0 N g H T x0 S) (hx : X (KF_X7_begin_0 N g H T x0 S)) : cX G o dX7_begin mX7_begin 0 [some (va_rf x0), none, none] [] S Q := by
  unfold KO_X7_begin_0 at ok
  unfold KF_X7_begin_0 at hx
  refine c_aload_nQ dX7_begin_0 rfl rfl ?_
  have nn_1 := ok.1
  refine c_getI (C := RX6) (T := TX6) (N := 19) (ci := 5) (k := 18) ⟨rfl, inT6, by decide, fX7_45⟩ (by decide) (by decide) (by decide) dX7_begin_1 (hS.kN t_x0 ok.1) ?_
  have ok := ok.2
  refine c_istore_1 dX7_begin_4 (by decide) (by simp [zok, zg, zcat_rf]) ?_
  refine c_aload_nQ dX7_begin_5 rfl rfl ?_
  refine c_iconst (v := -1) dX7_begin_6 (by decide) ?_
  refine c_putI (C := RX6) (T := TX6) (N := 19) (ci := 5) (k := 18) ⟨rfl, inT6, by decide, fX7_45⟩ ftT6 rfl (by decide) (by decide) (by decide) rfl rfl dX7_begin_7 (hS.kN t_x0 nn_1) ?_
  have hS := hS.I 18 (za x0) (-1)
  have hM := hM.I 18 (za x0) (-1)
  refine c_aload_nQ dX7_begin_10 rfl rfl ?_
  refine c_getS (C := RX6) (T := TX6) (N := 19) (ci := 5) (k := 2) ⟨rfl, inT6, by decide, fX7_110⟩ (by decide) (by decide) (by decide) dX7_begin_11 (hS.kN t_x0 nn_1) (hS.r (c := 5) (tN.o t_x0 nn_1) rfl (by omega)) ?_
  refine c_iconst (v := nI 2) dX7_begin_14 (by decide) ?_
  refine c_aload_nQ dX7_begin_15 rfl rfl ?_
  refine c_getI (C := RX6) (T := TX6) (N := 19) (ci := 5) (k := 9) ⟨rfl, inT6, by decide, fX7_18⟩ (by decide) (by decide) (by decide) dX7_begin_16 (hS.kN t_x0 nn_1) ?_
  refine c_iload_n dX7_begin_19 rfl rfl ?_
  refine c_null' dX7_begin_20 ?_
  refine c_iconst (v := nI 0) dX7_begin_21 (by decide) ?_
  refine c_V5iK (ci := 3) (rr := (RX4, TX4, 10)) (y' := mX4_jot) dX7_begin_22 lX7_243 kX4_jot ⟨by decide, by decide⟩ rfl rfl (by decide) (hS.k (o52 (tN.o t_x0 nn_1))) (Nat.le_of_ble_eq_true rfl) (kc_X4_jot hG hS (o52 (tN.o t_x0 nn_1)) tK_none ok.1) (fun ⟨hS, hm_22⟩ => ?_)
  have hM := hM.trans hm_22
  have ok := ok.2
  exact cX.cutz (kb_X7_begin_25 hG hR hS hM t_x0 ok hx) ⟨rfl, rfl, trivial⟩
def k_X7_begin (N g H T : Nat) (S : cS) (x0 : Option Nat) : cS := KF_X7_begin_0 N g H T x0 S
def p_X7_begin (N g H T : Nat) (S : cS) (x0 : Option Nat) : Prop := KO_X7_begin_0 N g H T x0 S
set_option maxRecDepth 100000 in
set_option maxHeartbeats 4000000 in
theorem kc_X7_begin {G : zG} {o : cO} {u g H T N : Nat} {S : cS} (hG : zOK G) {x0 : Option Nat} (hS : St u g H T S) (t_x0 : tN g H x0) (ok : p_X7_begin N g H T S x0) : cCv G o dX7_begin mX7_begin [va_rf x0] S (fun S' => S' = k_X7_begin N g H T S x0 ∧ St u g H T S' ∧ Mono S S') := by
  refine cC.ofX rfl (by cases x0 <;> exact Nat.le_of_ble_eq_true rfl) ?_
  rw [show zargs mX7_begin.2.2.1 [va_rf x0] = [some (va_rf x0), none, none] from by cases x0 <;> rfl]
  exact cX.cutz (kb_X7_begin_0 (X := fun F => F = k_X7_begin N g H T S x0) hG (fun S' h1 h2 h => ⟨rfl, h, h1, h2⟩) hS Mono.rfl' t_x0 ok rfl) ⟨rfl, trivial⟩
/-! X8_snapshotsLike -/
def KF_X8_snapshotsLike_59 (N g H T : Nat) (x2 : Int32) (S : cS) : Int32 := x2
def KO_X8_snapshotsLike_59 (N g H T : Nat) (x2 : Int32) (S : cS) : Prop := True
set_option maxRecDepth 100000 in
set_option maxHeartbeats 4000000 in
theorem kb_X8_snapshotsLike_59 {G : zG} {o : cO} {u g H T N : Nat} {S : cS} {Q : Option Value → cS → Prop} {X : Int32 → Prop} (hG : zOK G) (hR : ∀ v, X v → Q (some (.int v)) S) {x2 : Int32} (hS : St u g H T S) (ok : KO_X8_snapshotsLike_59 N g H T x2 S) (hx : X (KF_X8_snapshotsLike_59 N g H T x2 S)) : cX G o dX8_snapshotsLike mX8_snapshotsLike 59 [none, none, some (.int x2), none, none] [] S Q := by
  unfold KO_X8_snapshotsLike_59 at ok
  unfold KF_X8_snapshotsLike_59 at hx
  refine c_iload_n dX8_snapshotsLike_59 rfl rfl ?_
  exact c_ireturn rfl rfl dX8_snapshotsLike_60 (hR _ hx)
def KF_X8_snapshotsLike_53 (N g H T : Nat) (rec : Nat → Option Nat → Int32 → Int32 → Nat × Int32 × Unit) (x0 : Nat) (x1 : Option Nat) (x2 : Int32) (x3 : Int32) (S : cS) : Nat × Int32 × Unit := (rec x0 x1 x2 (x3 + nI 1))
def KO_X8_snapshotsLike_53 (N g H T : Nat) (rok : Nat → Option Nat → Int32 → Int32 → Prop) (x0 : Nat) (x1 : Option Nat) (x2 : Int32) (x3 : Int32) (S : cS) : Prop := rok x0 x1 x2 (x3 + nI 1)
set_option maxRecDepth 100000 in
set_option maxHeartbeats 4000000 in
theorem kb_X8_snapshotsLike_53 {G : zG} {o : cO} {u g H T N : Nat} {S : cS} {Q : Option Value → cS → Prop} {X : Nat × Int32 × Unit → Prop} (hG : zOK G) (hX0 : ∀ (x2 : Int32) , X (0, x2, ()) → cX G o dX8_snapshotsLike mX8_snapshotsLike 59 [none, none, some (.int x2), none, none] [] S Q) {rec : Nat → Option Nat → Int32 → Int32 → Nat × Int32 × Unit} {rok : Nat → Option Nat → Int32 → Int32 → Prop} (hrec : ∀ (x0 : Nat) (x1 : Option Nat) (x2 : Int32) (x3 : Int32), isO g H 6 x0 → tK S 5 x1 → rok x0 x1 x2 x3 → X (rec x0 x1 x2 x3) → cX G o dX8_snapshotsLike mX8_snapshotsLike 4 [some (va_rf (some x0)), some (va_rf x1), some (.int x2), some (.int x3), none] [] S Q) {x0 : Nat} {x1 : Option Nat} {x2 : Int32} {x3 : Int32} (hS : St u g H T S) (t_x0 : isO g H 6 x0) (t_x1 : tK S 5 x1) (ok : KO_X8_snapshotsLike_53 N g H T rok x0 x1 x2 x3 S) (hx : X (KF_X8_snapshotsLike_53 N g H T rec x0 x1 x2 x3 S)) : cX G o dX8_snapshotsLike mX8_snapshotsLike 53 [some (va_rf (some x0)), some (va_rf x1), some (.int x2), some (.int x3), none] [] S Q := by
  unfold KO_X8_snapshotsLike_53 at ok
  unfold KF_X8_snapshotsLike_53 at hx
  refine c_iinc_3 (v := (x3 + nI 1)) dX8_snapshotsLike_53 rfl (by first | rfl | (congr 1)) (by decide) rfl ?_
  refine c_goto (tgt := 4) dX8_snapshotsLike_56 (by decide) ?_
  exact cX.cutz (hrec _ _ _ _ t_x0 t_x1 ok hx) ⟨rfl, rfl, rfl, rfl, trivial⟩
def KF_X8_snapshotsLike_50 (N g H T : Nat) (rec : Nat → Option Nat → Int32 → Int32 → Nat × Int32 × Unit) (x0 : Nat) (x1 : Option Nat) (x2 : Int32) (x3 : Int32) (S : cS) : Nat × Int32 × Unit := (KF_X8_snapshotsLike_53 N g H T rec x0 x1 (x2 + nI 1) x3 S)
def KO_X8_snapshotsLike_50 (N g H T : Nat) (rok : Nat → Option Nat → Int32 → Int32 → Prop) (x0 : Nat) (x1 : Option Nat) (x2 : Int32) (x3 : Int32) (S : cS) : Prop := KO_X8_snapshotsLike_53 N g H T rok x0 x1 (x2 + nI 1) x3 S
set_option maxRecDepth 100000 in
set_option maxHeartbeats 4000000 in
theorem kb_X8_snapshotsLike_50 {G : zG} {o : cO} {u g H T N : Nat} {S : cS} {Q : Option Value → cS → Prop} {X : Nat × Int32 × Unit → Prop} (hG : zOK G) (hX0 : ∀ (x2 : Int32) , X (0, x2, ()) → cX G o dX8_snapshotsLike mX8_snapshotsLike 59 [none, none, some (.int x2), none, none] [] S Q) {rec : Nat → Option Nat → Int32 → Int32 → Nat × Int32 × Unit} {rok : Nat → Option Nat → Int32 → Int32 → Prop} (hrec : ∀ (x0 : Nat) (x1 : Option Nat) (x2 : Int32) (x3 : Int32), isO g H 6 x0 → tK S 5 x1 → rok x0 x1 x2 x3 → X (rec x0 x1 x2 x3) → cX G o dX8_snapshotsLike mX8_snapshotsLike 4 [some (va_rf (some x0)), some (va_rf x1), some (.int x2), some (.int x3), none] [] S Q) {x0 : Nat} {x1 : Option Nat} {x2 : Int32} {x3 : Int32} (hS : St u g H T S) (t_x0 : isO g H 6 x0) (t_x1 : tK S 5 x1) (ok : KO_X8_snapshotsLike_50 N g H T rok x0 x1 x2 x3 S) (hx : X (KF_X8_snapshotsLike_50 N g H T rec x0 x1 x2 x3 S)) : cX G o dX8_snapshotsLike mX8_snapshotsLike 50 [some (va_rf (some x0)), some (va_rf x1), some (.int x2), some (.int x3), none] [] S Q := by
  unfold KO_X8_snapshotsLike_50 at ok
  unfold KF_X8_snapshotsLike_50 at hx
  refine c_iinc_2 (v := (x2 + nI 1)) dX8_snapshotsLike_50 rfl (by first | rfl | (congr 1)) (by decide) (by simp [zok, zg, zcat_rf]) ?_
  exact cX.cutz (kb_X8_snapshotsLike_53 hG hX0 hrec hS t_x0 t_x1 ok hx) ⟨rfl, rfl, rfl, rfl, trivial⟩
def KB_X8_snapshotsLike_4 (N g H T : Nat) (rec : Nat → Option Nat → Int32 → Int32 → Nat × Int32 × Unit) (x0 : Nat) (x1 : Option Nat) (x2 : Int32) (x3 : Int32) (S : cS) : Nat × Int32 × Unit := (if (cI S 1 x0) ≤ x3 then (0, x2, ()) else (if (cP S (x0 + 8) x3.toNatClampNeg) = none then (KF_X8_snapshotsLike_53 N g H T rec x0 x1 x2 x3 S) else (if (cP S (x0 + 8) x3.toNatClampNeg) = x1 then (KF_X8_snapshotsLike_50 N g H T rec x0 x1 x2 x3 S) else (if (k_X11_sameBytes N g H T S (some ((za (cP S (x0 + 8) x3.toNatClampNeg)) + 2)) (nI 0) (some ((za x1) + 2)) (nI 0) (nI 115)) = 0 then (KF_X8_snapshotsLike_53 N g H T rec x0 x1 x2 x3 S) else (KF_X8_snapshotsLike_50 N g H T rec x0 x1 x2 x3 S)))))
def KOB_X8_snapshotsLike_4 (N g H T : Nat) (rok : Nat → Option Nat → Int32 → Int32 → Prop) (x0 : Nat) (x1 : Option Nat) (x2 : Int32) (x3 : Int32) (S : cS) : Prop := (((cI S 1 x0) ≤ x3 → True) ∧ (¬ (cI S 1 x0) ≤ x3 → (vp_in x3 T) ∧ (((cP S (x0 + 8) x3.toNatClampNeg) = none → KO_X8_snapshotsLike_53 N g H T rok x0 x1 x2 x3 S) ∧ (¬ (cP S (x0 + 8) x3.toNatClampNeg) = none → (((cP S (x0 + 8) x3.toNatClampNeg) = x1 → KO_X8_snapshotsLike_50 N g H T rok x0 x1 x2 x3 S) ∧ (¬ (cP S (x0 + 8) x3.toNatClampNeg) = x1 → (¬ x1 = none) ∧ (p_X11_sameBytes N g H T S (some ((za (cP S (x0 + 8) x3.toNatClampNeg)) + 2)) (nI 0) (some ((za x1) + 2)) (nI 0) (nI 115)) ∧ (((k_X11_sameBytes N g H T S (some ((za (cP S (x0 + 8) x3.toNatClampNeg)) + 2)) (nI 0) (some ((za x1) + 2)) (nI 0) (nI 115)) = 0 → KO_X8_snapshotsLike_53 N g H T rok x0 x1 x2 x3 S) ∧ (¬ (k_X11_sameBytes N g H T S (some ((za (cP S (x0 + 8) x3.toNatClampNeg)) + 2)) (nI 0) (some ((za x1) + 2)) (nI 0) (nI 115)) = 0 → KO_X8_snapshotsLike_50 N g H T rok x0 x1 x2 x3 S))))))))
set_option maxRecDepth 100000 in
set_option maxHeartbeats 4000000 in
theorem kbb_X8_snapshotsLike_4 {G : zG} {o : cO} {u g H T N : Nat} {S : cS} {Q : Option Value → cS → Prop} {X : Nat × Int32 × Unit → Prop} (hG : zOK G) (hX0 : ∀ (x2 : Int32) , X (0, x2, ()) → cX G o dX8_snapshotsLike mX8_snapshotsLike 59 [none, none, some (.int x2), none, none] [] S Q) {rec : Nat → Option Nat → Int32 → Int32 → Nat × Int32 × Unit} {rok : Nat → Option Nat → Int32 → Int32 → Prop} (hrec : ∀ (x0 : Nat) (x1 : Option Nat) (x2 : Int32) (x3 : Int32), isO g H 6 x0 → tK S 5 x1 → rok x0 x1 x2 x3 → X (rec x0 x1 x2 x3) → cX G o dX8_snapshotsLike mX8_snapshotsLike 4 [some (va_rf (some x0)), some (va_rf x1), some (.int x2), some (.int x3), none] [] S Q) {x0 : Nat} {x1 : Option Nat} {x2 : Int32} {x3 : Int32} (hS : St u g H T S) (t_x0 : isO g H 6 x0) (t_x1 : tK S 5 x1) (ok : KOB_X8_snapshotsLike_4 N g H T rok x0 x1 x2 x3 S) (hx : X (KB_X8_snapshotsLike_4 N g H T rec x0 x1 x2 x3 S)) : cX G o dX8_snapshotsLike mX8_snapshotsLike 4 [some (va_rf (some x0)), some (va_rf x1), some (.int x2), some (.int x3), none] [] S Q := by
  unfold KOB_X8_snapshotsLike_4 at ok
  unfold KB_X8_snapshotsLike_4 at hx
  refine c_iload_n dX8_snapshotsLike_4 rfl rfl ?_
  refine c_aload_nQ dX8_snapshotsLike_5 rfl rfl ?_
  refine c_getI (C := RX8) (T := TX8) (N := 14) (ci := 6) (k := 1) ⟨rfl, inT8, by decide, fX8_32⟩ (by decide) (by decide) (by decide) dX8_snapshotsLike_6 (hS.k t_x0) ?_
  refine c_icmp_ge (tgt := 59) dX8_snapshotsLike_9 (by decide) (fun c_9 => ?_) (fun c_9 => ?_)
  · have ok := ok.1 c_9
    have hx := xif_p c_9 hx
    exact cX.cutz (hX0 _   hx) ⟨rfl, trivial⟩
  · have ok := ok.2 c_9
    have hx := xif_n c_9 hx
    refine c_aload_nQ dX8_snapshotsLike_12 rfl rfl ?_
    refine c_getS (C := RX8) (T := TX8) (N := 14) (ci := 6) (k := 8) ⟨rfl, inT8, by decide, fX8_45⟩ (by decide) (by decide) (by decide) dX8_snapshotsLike_13 (hS.k t_x0) (hS.r (c := 6) t_x0 rfl (by omega)) ?_
    refine c_iload_n dX8_snapshotsLike_16 rfl rfl ?_
    have p_17 := hS.row24 (hS.rk (c := 6) (k := 8) t_x0 rfl (by omega)) x3.toNatClampNeg
    refine c_aald (t := 4) (ty := (.object "QuorumLedger$Message")) rfl rfl (by decide) dX8_snapshotsLike_17 ⟨(tK.cis (hS.rk (c := 6) (k := 8) t_x0 rfl (by omega)) (Option.some_ne_none _)), (vk_cast (hS.rl (c := 6) (k := 8) t_x0 rfl (by decide) (by omega)) ok.1)⟩ ?_
    have ok := ok.2
    refine c_astore_4Q dX8_snapshotsLike_18 (by decide) rfl ?_
    refine c_aloadQ dX8_snapshotsLike_20 rfl ?_
    refine c_ifnullI (tgt := 53) dX8_snapshotsLike_22 (by decide) (fun c_22 => ?_) (fun c_22 => ?_)
    · have ok := ok.1 c_22
      have hx := xif_p c_22 hx
      exact cX.cutz (kb_X8_snapshotsLike_53 hG hX0 hrec hS t_x0 t_x1 ok hx) ⟨rfl, rfl, rfl, rfl, trivial⟩
    · have ok := ok.2 c_22
      have hx := xif_n c_22 hx
      refine c_aloadQ dX8_snapshotsLike_25 rfl ?_
      refine c_aload_nQ dX8_snapshotsLike_27 rfl rfl ?_
      refine c_acmp_eq (tgt := 50) dX8_snapshotsLike_28 (by decide) (fun c_28 => ?_) (fun c_28 => ?_)
      · have ok := ok.1 c_28
        have hx := xif_p c_28 hx
        exact cX.cutz (kb_X8_snapshotsLike_50 hG hX0 hrec hS t_x0 t_x1 ok hx) ⟨rfl, rfl, rfl, rfl, trivial⟩
      · have ok := ok.2 c_28
        have hx := xif_n c_28 hx
        refine c_aloadQ dX8_snapshotsLike_31 rfl ?_
        have p_33 := hS.m0k p_17 c_22
        refine c_getS (C := RX5) (T := TX5) (N := 7) (ci := 4) (k := 0) ⟨rfl, inT5, by decide, fX8_97⟩ (by decide) (by decide) (by decide) dX8_snapshotsLike_33 (tK.cis p_17 c_22) (hS.m0 p_17 c_22) ?_
        refine c_iconst (v := nI 0) dX8_snapshotsLike_36 (by decide) ?_
        refine c_aload_nQ dX8_snapshotsLike_37 rfl rfl ?_
        have nn_38 := ok.1
        have p_38 := hS.m0k t_x1 ok.1
        refine c_getS (C := RX5) (T := TX5) (N := 7) (ci := 4) (k := 0) ⟨rfl, inT5, by decide, fX8_97⟩ (by decide) (by decide) (by decide) dX8_snapshotsLike_38 (tK.cis t_x1 ok.1) (hS.m0 t_x1 ok.1) ?_
        have ok := ok.2
        refine c_iconst (v := nI 0) dX8_snapshotsLike_41 (by decide) ?_
        refine c_bipush (v := nI 115) dX8_snapshotsLike_42 (by decide) ?_
        refine c_SN5iE (y' := mX11_sameBytes) dX8_snapshotsLike_44 lX8_101 kX11_sameBytes ⟨by decide, by decide⟩ (Nat.le_of_ble_eq_true rfl) (kc_X11_sameBytes hG hS p_33 p_38 ok.1) ?_
        have ok := ok.2
        refine c_if_eq (tgt := 53) dX8_snapshotsLike_47 (by decide) (fun c_47 => ?_) (fun c_47 => ?_)
        · have ok := ok.1 c_47
          have hx := xif_p c_47 hx
          exact cX.cutz (kb_X8_snapshotsLike_53 hG hX0 hrec hS t_x0 t_x1 ok hx) ⟨rfl, rfl, rfl, rfl, trivial⟩
        · have ok := ok.2 c_47
          have hx := xif_n c_47 hx
          exact cX.cutz (kb_X8_snapshotsLike_50 hG hX0 hrec hS t_x0 t_x1 ok hx) ⟨rfl, rfl, rfl, rfl, trivial⟩
def KL_X8_snapshotsLike_4 (N g H T : Nat) : Nat → Nat → Option Nat → Int32 → Int32 → cS → Nat × Int32 × Unit
  | 0, x0, x1, x2, x3, S => (0, 0, ())
  | n + 1, x0, x1, x2, x3, S => KB_X8_snapshotsLike_4 N g H T (fun x0 x1 x2 x3 => KL_X8_snapshotsLike_4 N g H T n x0 x1 x2 x3 S) x0 x1 x2 x3 S
def KOL_X8_snapshotsLike_4 (N g H T : Nat) : Nat → Nat → Option Nat → Int32 → Int32 → cS → Prop
  | 0, _, _, _, _, _ => False
  | n + 1, x0, x1, x2, x3, S => KOB_X8_snapshotsLike_4 N g H T (fun x0 x1 x2 x3 => KOL_X8_snapshotsLike_4 N g H T n x0 x1 x2 x3 S) x0 x1 x2 x3 S
set_option maxRecDepth 100000 in
set_option maxHeartbeats 4000000 in
theorem kl_X8_snapshotsLike_4 {G : zG} {o : cO} {u g H T N : Nat} {S : cS} {Q : Option Value → cS → Prop} {X : Nat × Int32 × Unit → Prop} (hG : zOK G) (hX0 : ∀ (x2 : Int32) , X (0, x2, ()) → cX G o dX8_snapshotsLike mX8_snapshotsLike 59 [none, none, some (.int x2), none, none] [] S Q) (hS : St u g H T S) : ∀ (n : Nat) (x0 : Nat) (x1 : Option Nat) (x2 : Int32) (x3 : Int32) , isO g H 6 x0 → tK S 5 x1 → KOL_X8_snapshotsLike_4 N g H T n x0 x1 x2 x3 S → X (KL_X8_snapshotsLike_4 N g H T n x0 x1 x2 x3 S) → cX G o dX8_snapshotsLike mX8_snapshotsLike 4 [some (va_rf (some x0)), some (va_rf x1), some (.int x2), some (.int x3), none] [] S Q := by
  intro n
  induction n with
  | zero => intro x0 x1 x2 x3 t_x0 t_x1 ok; exact absurd ok id
  | succ n ih =>
    intro x0 x1 x2 x3 t_x0 t_x1 ok hx
    exact kbb_X8_snapshotsLike_4 hG hX0 (rec := fun x0 x1 x2 x3 => KL_X8_snapshotsLike_4 N g H T n x0 x1 x2 x3 S) (rok := fun x0 x1 x2 x3 => KOL_X8_snapshotsLike_4 N g H T n x0 x1 x2 x3 S) (fun x0 x1 x2 x3 t_x0 t_x1 ok hx => ih x0 x1 x2 x3 t_x0 t_x1 ok hx) hS t_x0 t_x1 ok hx
def KA_X8_snapshotsLike_4 (N g H T : Nat) (x0 : Nat) (x1 : Option Nat) (x2 : Int32) (x3 : Int32) (S : cS) (z : Nat × Int32 × Unit) : Int32 := (KF_X8_snapshotsLike_59 N g H T (z.2.1) S)
def KOA_X8_snapshotsLike_4 (N g H T : Nat) (x0 : Nat) (x1 : Option Nat) (x2 : Int32) (x3 : Int32) (S : cS) (z : Nat × Int32 × Unit) : Prop := KO_X8_snapshotsLike_59 N g H T (z.2.1) S
set_option maxRecDepth 100000 in
set_option maxHeartbeats 4000000 in
theorem kd_X8_snapshotsLike_4 {G : zG} {o : cO} {u g H T N : Nat} {S : cS} {Q : Option Value → cS → Prop} {X : Int32 → Prop} (hG : zOK G) (hR : ∀ v, X v → Q (some (.int v)) S) {x0 : Nat} {x1 : Option Nat} {x2 : Int32} {x3 : Int32} (hS : St u g H T S) (t_x0 : isO g H 6 x0) (t_x1 : tK S 5 x1) (ok : KOL_X8_snapshotsLike_4 N g H T N x0 x1 x2 x3 S ∧ KOA_X8_snapshotsLike_4 N g H T x0 x1 x2 x3 S (KL_X8_snapshotsLike_4 N g H T N x0 x1 x2 x3 S)) (hx : X (KA_X8_snapshotsLike_4 N g H T x0 x1 x2 x3 S (KL_X8_snapshotsLike_4 N g H T N x0 x1 x2 x3 S))) : cX G o dX8_snapshotsLike mX8_snapshotsLike 4 [some (va_rf (some x0)), some (va_rf x1), some (.int x2), some (.int x3), none] [] S Q := by
  refine kl_X8_snapshotsLike_4 hG ?_ hS N x0 x1 x2 x3 t_x0 t_x1 ok.1 (X := fun z => KOA_X8_snapshotsLike_4 N g H T x0 x1 x2 x3 S z ∧ X (KA_X8_snapshotsLike_4 N g H T x0 x1 x2 x3 S z)) ⟨ok.2, hx⟩
  · intro x2' hz
    obtain ⟨ok, hx⟩ := hz
    unfold KOA_X8_snapshotsLike_4 at ok
    unfold KA_X8_snapshotsLike_4 at hx
    exact cX.cutz (kb_X8_snapshotsLike_59 hG hR hS  ok hx) ⟨rfl, trivial⟩
def KF_X8_snapshotsLike_0 (N g H T : Nat) (x0 : Nat) (x1 : Option Nat) (S : cS) : Int32 := (KA_X8_snapshotsLike_4 N g H T x0 x1 (nI 0) (nI 0) S (KL_X8_snapshotsLike_4 N g H T N x0 x1 (nI 0) (nI 0) S))
def KO_X8_snapshotsLike_0 (N g H T : Nat) (x0 : Nat) (x1 : Option Nat) (S : cS) : Prop := (KOL_X8_snapshotsLike_4 N g H T N x0 x1 (nI 0) (nI 0) S ∧ KOA_X8_snapshotsLike_4 N g H T x0 x1 (nI 0) (nI 0) S (KL_X8_snapshotsLike_4 N g H T N x0 x1 (nI 0) (nI 0) S))
set_option maxRecDepth 100000 in
set_option maxHeartbeats 4000000 in
theorem kb_X8_snapshotsLike_0 {G : zG} {o : cO} {u g H T N : Nat} {S : cS} {Q : Option Value → cS → Prop} {X : Int32 → Prop} (hG : zOK G) (hR : ∀ v, X v → Q (some (.int v)) S) {x0 : Nat} {x1 : Option Nat} (hS : St u g H T S) (t_x0 : isO g H 6 x0) (t_x1 : tK S 5 x1) (ok : KO_X8_snapshotsLike_0 N g H T x0 x1 S) (hx : X (KF_X8_snapshotsLike_0 N g H T x0 x1 S)) : cX G o dX8_snapshotsLike mX8_snapshotsLike 0 [some (va_rf (some x0)), some (va_rf x1), none, none, none] [] S Q := by
  unfold KO_X8_snapshotsLike_0 at ok
  unfold KF_X8_snapshotsLike_0 at hx
  refine c_iconst (v := nI 0) dX8_snapshotsLike_0 (by decide) ?_
  refine c_istore_2 dX8_snapshotsLike_1 (by decide) (by simp [zok, zg, zcat_rf]) ?_
  refine c_iconst (v := nI 0) dX8_snapshotsLike_2 (by decide) ?_
  refine c_istore_3 dX8_snapshotsLike_3 (by decide) rfl ?_
  exact cX.cutz (kd_X8_snapshotsLike_4 hG hR hS t_x0 t_x1 ok hx) ⟨rfl, rfl, rfl, rfl, trivial⟩
def k_X8_snapshotsLike (N g H T : Nat) (S : cS) (a0 : Nat) (x1 : Option Nat) : Int32 := KF_X8_snapshotsLike_0 N g H T a0 x1 S
def p_X8_snapshotsLike (N g H T : Nat) (S : cS) (a0 : Nat) (x1 : Option Nat) : Prop := KO_X8_snapshotsLike_0 N g H T a0 x1 S
set_option maxRecDepth 100000 in
set_option maxHeartbeats 4000000 in
theorem kc_X8_snapshotsLike {G : zG} {o : cO} {u g H T N : Nat} {S : cS} (hG : zOK G) {a0 : Nat} {x1 : Option Nat} (hS : St u g H T S) (t_x0 : isO g H 6 a0) (t_x1 : tK S 5 x1) (ok : p_X8_snapshotsLike N g H T S a0 x1) : cCi G o dX8_snapshotsLike mX8_snapshotsLike [.ref a0, va_rf x1] S (fun v S' => (v = k_X8_snapshotsLike N g H T S a0 x1 ∧ S' = S)) := by
  refine cC.ofX rfl (by cases x1 <;> exact Nat.le_of_ble_eq_true rfl) ?_
  rw [show zargs mX8_snapshotsLike.2.2.1 [.ref a0, va_rf x1] = [some (va_rf (some a0)), some (va_rf x1), none, none, none] from by cases x1 <;> rfl]
  exact cX.cutz (kb_X8_snapshotsLike_0 (X := fun F => F = k_X8_snapshotsLike N g H T S a0 x1) hG (fun v h => ⟨v, rfl, h, rfl⟩) hS t_x0 t_x1 ok rfl) ⟨rfl, rfl, trivial⟩

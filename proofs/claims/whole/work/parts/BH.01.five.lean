set_option maxRecDepth 100000 in
set_option maxHeartbeats 4000000 in
theorem k5b_X0_mirror_30 {u g H T N : Nat} {S : cS} {S0 : cS} {R_ : Prop} {X : cS → Prop} (hR : ∀ S', St u g H T S' → M5 g H S0 S' → X S' → R_) {x0 : Nat} {x1 : Nat} (hS : St u g H T S) (hM : M5 g H S0 S) (t_x0 : isO g H 0 x0) (t_x1 : isO g H 0 x1) (ok : KO_X0_mirror_30 N g H T x0 x1 S) (hx : X (KF_X0_mirror_30 N g H T x0 x1 S)) : R_ := by
  unfold KO_X0_mirror_30 at ok
  unfold KF_X0_mirror_30 at hx
  have hS := hS.I 2 x0 (cI S 2 x1)
  have hM := hM.I 2 x0 (cI S 2 x1)
  exact hR _ hS hM hx
set_option maxRecDepth 100000 in
set_option maxHeartbeats 4000000 in
theorem k5b_X0_mirror_15 {u g H T N : Nat} {S : cS} {S0 : cS} {R_ : Prop} {X : cS → Prop} (hR : ∀ S', St u g H T S' → M5 g H S0 S' → X S' → R_) {x0 : Nat} {x1 : Nat} (hS : St u g H T S) (hM : M5 g H S0 S) (t_x0 : isO g H 0 x0) (t_x1 : isO g H 0 x1) (ok : KO_X0_mirror_15 N g H T x0 x1 S) (hx : X (KF_X0_mirror_15 N g H T x0 x1 S)) : R_ := by
  unfold KO_X0_mirror_15 at ok
  unfold KF_X0_mirror_15 at hx
  have tq_27 : tK S 21 (some (x0 + 2)) := tK_some (tK.cis (hS.rk (c := 0) (k := 1) t_x0 rfl (by omega)) (Option.some_ne_none _)).2
  have hS := hS.Ad (k := 21) (x0 + 2) (va_cpy (cA S (x1 + 2)) (cA S (x0 + 2)) (nI 0).toNatClampNeg (nI 0).toNatClampNeg (nI 16).toNatClampNeg) tq_27 (by decide)
  have hM := hM.Ar (x0 + 2) (va_cpy (cA S (x1 + 2)) (cA S (x0 + 2)) (nI 0).toNatClampNeg (nI 0).toNatClampNeg (nI 16).toNatClampNeg)
  have ok := ok.2
  exact k5b_X0_mirror_30 hR hS hM t_x0 t_x1 ok hx
set_option maxRecDepth 100000 in
set_option maxHeartbeats 4000000 in
theorem k5b_X0_mirror_0 {u g H T N : Nat} {S : cS} {S0 : cS} {R_ : Prop} {X : cS → Prop} (hR : ∀ S', St u g H T S' → M5 g H S0 S' → X S' → R_) {x0 : Nat} {x1 : Nat} (hS : St u g H T S) (hM : M5 g H S0 S) (t_x0 : isO g H 0 x0) (t_x1 : isO g H 0 x1) (ok : KO_X0_mirror_0 N g H T x0 x1 S) (hx : X (KF_X0_mirror_0 N g H T x0 x1 S)) : R_ := by
  unfold KO_X0_mirror_0 at ok
  unfold KF_X0_mirror_0 at hx
  have tq_12 : tK S 21 (some (x0 + 1)) := tK_some (tK.cis (hS.rk (c := 0) (k := 0) t_x0 rfl (by omega)) (Option.some_ne_none _)).2
  have hS := hS.Ad (k := 21) (x0 + 1) (va_cpy (cA S (x1 + 1)) (cA S (x0 + 1)) (nI 0).toNatClampNeg (nI 0).toNatClampNeg (nI 16).toNatClampNeg) tq_12 (by decide)
  have hM := hM.Ar (x0 + 1) (va_cpy (cA S (x1 + 1)) (cA S (x0 + 1)) (nI 0).toNatClampNeg (nI 0).toNatClampNeg (nI 16).toNatClampNeg)
  have ok := ok.2
  exact k5b_X0_mirror_15 hR hS hM t_x0 t_x1 ok hx
set_option maxRecDepth 100000 in
set_option maxHeartbeats 4000000 in
theorem k5c_X0_mirror {u g H T N : Nat} {S : cS} {a0 : Nat} {x1 : Nat} (hS : St u g H T S) (t_x0 : isO g H 0 a0) (t_x1 : isO g H 0 x1) (ok : p_X0_mirror N g H T S a0 x1) : St u g H T (k_X0_mirror N g H T S a0 x1) ∧ M5 g H S (k_X0_mirror N g H T S a0 x1) := by
  exact k5b_X0_mirror_0 (X := fun F => F = k_X0_mirror N g H T S a0 x1) (fun S' h1 h2 h => by rw [← h]; exact ⟨h1, h2⟩) hS M5.rfl' t_x0 t_x1 ok rfl
set_option maxRecDepth 100000 in
set_option maxHeartbeats 4000000 in
theorem k5b_X0_punish_81 {u g H T N : Nat} {S : cS} {S0 : cS} {R_ : Prop} {X : Int32 × cS → Prop} (hR : ∀ v S', St u g H T S' → M5 g H S0 S' → X (v, S') → R_) {x0 : Nat} {x2 : Int32} {x3 : Int32} (hS : St u g H T S) (hM : M5 g H S0 S) (t_x0 : isO g H 0 x0) (ok : KO_X0_punish_81 N g H T x0 x2 x3 S) (hx : X (KF_X0_punish_81 N g H T x0 x2 x3 S)) : R_ := by
  unfold KO_X0_punish_81 at ok
  unfold KF_X0_punish_81 at hx
  have ok := ok.2
  have tq_90 : tK S 21 (some (x0 + 1)) := tK_some (tK.cis (hS.rk (c := 0) (k := 0) t_x0 rfl (by omega)) (Option.some_ne_none _)).2
  have hS := hS.Aw (k := 21) (x0 + 1) x2.toNatClampNeg ((cA S (x0 + 1) x2.toNatClampNeg) + x3) tq_90 (by decide)
  have hM := hM.A (x0 + 1) x2.toNatClampNeg ((cA S (x0 + 1) x2.toNatClampNeg) + x3)
  have ok := ok.2
  exact hR _ _ hS hM hx
set_option maxRecDepth 100000 in
set_option maxHeartbeats 4000000 in
theorem k5b_X0_punish_58 {u g H T N : Nat} {S : cS} {S0 : cS} {R_ : Prop} {X : Int32 × cS → Prop} (hR : ∀ v S', St u g H T S' → M5 g H S0 S' → X (v, S') → R_) {x0 : Nat} {x1 : Int32} {x2 : Int32} {s0 : Int32} (hS : St u g H T S) (hM : M5 g H S0 S) (t_x0 : isO g H 0 x0) (ok : KO_X0_punish_58 N g H T x0 x1 x2 s0 S) (hx : X (KF_X0_punish_58 N g H T x0 x1 x2 s0 S)) : R_ := by
  unfold KO_X0_punish_58 at ok
  unfold KF_X0_punish_58 at hx
  have hS := hS.I 2 x0 ((cI S 2 x0) ||| ((nI 1) <<< (x1 &&& 31)))
  have hM := hM.I 2 x0 ((cI S 2 x0) ||| ((nI 1) <<< (x1 &&& 31)))
  have ok := ok.2
  have tq_80 : tK (csI S 2 x0 ((cI S 2 x0) ||| ((nI 1) <<< (x1 &&& 31)))) 21 (some (x0 + 1)) := tK_some (tK.cis (hS.rk (c := 0) (k := 0) t_x0 rfl (by omega)) (Option.some_ne_none _)).2
  have hS := hS.Aw (k := 21) (x0 + 1) x1.toNatClampNeg ((cA (csI S 2 x0 ((cI S 2 x0) ||| ((nI 1) <<< (x1 &&& 31)))) (x0 + 1) x1.toNatClampNeg) - s0) tq_80 (by decide)
  have hM := hM.A (x0 + 1) x1.toNatClampNeg ((cA (csI S 2 x0 ((cI S 2 x0) ||| ((nI 1) <<< (x1 &&& 31)))) (x0 + 1) x1.toNatClampNeg) - s0)
  have ok := ok.2
  exact k5b_X0_punish_81 hR hS hM t_x0 ok hx
set_option maxRecDepth 100000 in
set_option maxHeartbeats 4000000 in
theorem k5b_X0_punish_20 {u g H T N : Nat} {S : cS} {S0 : cS} {R_ : Prop} {X : Int32 × cS → Prop} (hR : ∀ v S', St u g H T S' → M5 g H S0 S' → X (v, S') → R_) (hS : St u g H T S) (hM : M5 g H S0 S) (ok : KO_X0_punish_20 N g H T S) (hx : X (KF_X0_punish_20 N g H T S)) : R_ := by
  unfold KO_X0_punish_20 at ok
  unfold KF_X0_punish_20 at hx
  exact hR _ _ hS hM hx
set_option maxRecDepth 100000 in
set_option maxHeartbeats 4000000 in
theorem k5b_X0_punish_0 {u g H T N : Nat} {S : cS} {S0 : cS} {R_ : Prop} {X : Int32 × cS → Prop} (hR : ∀ v S', St u g H T S' → M5 g H S0 S' → X (v, S') → R_) {x0 : Nat} {x1 : Int32} {x2 : Int32} (hS : St u g H T S) (hM : M5 g H S0 S) (t_x0 : isO g H 0 x0) (ok : KO_X0_punish_0 N g H T x0 x1 x2 S) (hx : X (KF_X0_punish_0 N g H T x0 x1 x2 S)) : R_ := by
  unfold KO_X0_punish_0 at ok
  unfold KF_X0_punish_0 at hx
  refine pif_p ok (fun c_1 => ?_) (fun c_1 => ?_)
  · have ok := ok.1 c_1
    have hx := xif_p c_1 hx
    exact k5b_X0_punish_20 hR hS hM  ok hx
  · have ok := ok.2 c_1
    have hx := xif_n c_1 hx
    refine pif_p ok (fun c_7 => ?_) (fun c_7 => ?_)
    · have ok := ok.1 c_7
      have hx := xif_p c_7 hx
      exact k5b_X0_punish_20 hR hS hM  ok hx
    · have ok := ok.2 c_7
      have hx := xif_n c_7 hx
      refine pif_p ok (fun c_11 => ?_) (fun c_11 => ?_)
      · have ok := ok.1 c_11
        have hx := xif_p c_11 hx
        exact k5b_X0_punish_20 hR hS hM  ok hx
      · have ok := ok.2 c_11
        have hx := xif_n c_11 hx
        refine pif_p ok (fun c_17 => ?_) (fun c_17 => ?_)
        · have ok := ok.1 c_17
          have hx := xif_p c_17 hx
          refine pif_n ok (fun c_31 => ?_) (fun c_31 => ?_)
          · have ok := ok.2 c_31
            have hx := xif_n c_31 hx
            have ok := ok.2
            refine pif_p ok (fun c_44 => ?_) (fun c_44 => ?_)
            · have ok := ok.1 c_44
              have hx := xif_p c_44 hx
              exact k5b_X0_punish_58 hR hS hM t_x0 ok hx
            · have ok := ok.2 c_44
              have hx := xif_n c_44 hx
              have ok := ok.2
              exact k5b_X0_punish_58 hR hS hM t_x0 ok hx
          · have ok := ok.1 c_31
            have hx := xif_p c_31 hx
            exact hR _ _ hS hM hx
        · have ok := ok.2 c_17
          have hx := xif_n c_17 hx
          exact k5b_X0_punish_20 hR hS hM  ok hx
set_option maxRecDepth 100000 in
set_option maxHeartbeats 4000000 in
theorem k5c_X0_punish {u g H T N : Nat} {S : cS} {a0 : Nat} {x1 : Int32} {x2 : Int32} (hS : St u g H T S) (t_x0 : isO g H 0 a0) (ok : p_X0_punish N g H T S a0 x1 x2) : St u g H T (k_X0_punish N g H T S a0 x1 x2).2 ∧ M5 g H S (k_X0_punish N g H T S a0 x1 x2).2 := by
  exact k5b_X0_punish_0 (X := fun F => F = k_X0_punish N g H T S a0 x1 x2) (fun v S' h1 h2 h => by rw [← h]; exact ⟨h1, h2⟩) hS M5.rfl' t_x0 ok rfl
set_option maxRecDepth 100000 in
set_option maxHeartbeats 4000000 in
theorem k5b_X0_pay_154 {u g H T N : Nat} {S : cS} {S0 : cS} {R_ : Prop} {X : Int32 × cS → Prop} (hR : ∀ v S', St u g H T S' → M5 g H S0 S' → X (v, S') → R_) (hS : St u g H T S) (hM : M5 g H S0 S) (ok : KO_X0_pay_154 N g H T S) (hx : X (KF_X0_pay_154 N g H T S)) : R_ := by
  unfold KO_X0_pay_154 at ok
  unfold KF_X0_pay_154 at hx
  exact hR _ _ hS hM hx
set_option maxRecDepth 100000 in
set_option maxHeartbeats 4000000 in
theorem k5b_X0_pay_131 {u g H T N : Nat} {S : cS} {S0 : cS} {R_ : Prop} {X : Int32 × cS → Prop} (hR : ∀ v S', St u g H T S' → M5 g H S0 S' → X (v, S') → R_) {x0 : Nat} {x3 : Int32} {x5 : Int32} {x6 : Int32} {x8 : Int32} (hS : St u g H T S) (hM : M5 g H S0 S) (t_x0 : isO g H 0 x0) (ok : KO_X0_pay_131 N g H T x0 x3 x5 x6 x8 S) (hx : X (KF_X0_pay_131 N g H T x0 x3 x5 x6 x8 S)) : R_ := by
  unfold KO_X0_pay_131 at ok
  unfold KF_X0_pay_131 at hx
  have ok := ok.2
  have tq_142 : tK S 21 (some (x0 + 1)) := tK_some (tK.cis (hS.rk (c := 0) (k := 0) t_x0 rfl (by omega)) (Option.some_ne_none _)).2
  have hS := hS.Aw (k := 21) (x0 + 1) x5.toNatClampNeg ((cA S (x0 + 1) x5.toNatClampNeg) + x6) tq_142 (by decide)
  have hM := hM.A (x0 + 1) x5.toNatClampNeg ((cA S (x0 + 1) x5.toNatClampNeg) + x6)
  have ok := ok.2
  have ok := ok.2
  have tq_153 : tK (csA S (x0 + 1) x5.toNatClampNeg ((cA S (x0 + 1) x5.toNatClampNeg) + x6)) 21 (some (x0 + 1)) := tK_some (tK.cis (hS.rk (c := 0) (k := 0) t_x0 rfl (by omega)) (Option.some_ne_none _)).2
  have hS := hS.Aw (k := 21) (x0 + 1) x3.toNatClampNeg ((cA (csA S (x0 + 1) x5.toNatClampNeg ((cA S (x0 + 1) x5.toNatClampNeg) + x6)) (x0 + 1) x3.toNatClampNeg) + x8) tq_153 (by decide)
  have hM := hM.A (x0 + 1) x3.toNatClampNeg ((cA (csA S (x0 + 1) x5.toNatClampNeg ((cA S (x0 + 1) x5.toNatClampNeg) + x6)) (x0 + 1) x3.toNatClampNeg) + x8)
  have ok := ok.2
  exact k5b_X0_pay_154 hR hS hM  ok hx
set_option maxRecDepth 100000 in
set_option maxHeartbeats 4000000 in
theorem k5b_X0_pay_116 {u g H T N : Nat} {S : cS} {S0 : cS} {R_ : Prop} {X : Int32 × cS → Prop} (hR : ∀ v S', St u g H T S' → M5 g H S0 S' → X (v, S') → R_) {x0 : Nat} {x3 : Int32} {x4 : Int32} {x5 : Int32} {x6 : Int32} {x8 : Int32} (hS : St u g H T S) (hM : M5 g H S0 S) (t_x0 : isO g H 0 x0) (ok : KO_X0_pay_116 N g H T x0 x3 x4 x5 x6 x8 S) (hx : X (KF_X0_pay_116 N g H T x0 x3 x4 x5 x6 x8 S)) : R_ := by
  unfold KO_X0_pay_116 at ok
  unfold KF_X0_pay_116 at hx
  have ok := ok.2
  have tq_130 : tK S 21 (some (x0 + 1)) := tK_some (tK.cis (hS.rk (c := 0) (k := 0) t_x0 rfl (by omega)) (Option.some_ne_none _)).2
  have hS := hS.Aw (k := 21) (x0 + 1) x4.toNatClampNeg ((cA S (x0 + 1) x4.toNatClampNeg) - (x6 + x8)) tq_130 (by decide)
  have hM := hM.A (x0 + 1) x4.toNatClampNeg ((cA S (x0 + 1) x4.toNatClampNeg) - (x6 + x8))
  have ok := ok.2
  exact k5b_X0_pay_131 hR hS hM t_x0 ok hx
set_option maxRecDepth 100000 in
set_option maxHeartbeats 4000000 in
theorem k5b_X0_pay_103 {u g H T N : Nat} {S : cS} {S0 : cS} {R_ : Prop} {X : Int32 × cS → Prop} (hR : ∀ v S', St u g H T S' → M5 g H S0 S' → X (v, S') → R_) (hS : St u g H T S) (hM : M5 g H S0 S) (ok : KO_X0_pay_103 N g H T S) (hx : X (KF_X0_pay_103 N g H T S)) : R_ := by
  unfold KO_X0_pay_103 at ok
  unfold KF_X0_pay_103 at hx
  exact hR _ _ hS hM hx
set_option maxRecDepth 100000 in
set_option maxHeartbeats 4000000 in
theorem k5b_X0_pay_74 {u g H T N : Nat} {S : cS} {S0 : cS} {R_ : Prop} {X : Int32 × cS → Prop} (hR : ∀ v S', St u g H T S' → M5 g H S0 S' → X (v, S') → R_) (hS : St u g H T S) (hM : M5 g H S0 S) (ok : KO_X0_pay_74 N g H T S) (hx : X (KF_X0_pay_74 N g H T S)) : R_ := by
  unfold KO_X0_pay_74 at ok
  unfold KF_X0_pay_74 at hx
  exact hR _ _ hS hM hx
set_option maxRecDepth 100000 in
set_option maxHeartbeats 4000000 in
theorem k5b_X0_pay_0 {u g H T N : Nat} {S : cS} {S0 : cS} {R_ : Prop} {X : Int32 × cS → Prop} (hR : ∀ v S', St u g H T S' → M5 g H S0 S' → X (v, S') → R_) {x0 : Nat} {x1 : Int64} {x3 : Int32} (hS : St u g H T S) (hM : M5 g H S0 S) (t_x0 : isO g H 0 x0) (ok : KO_X0_pay_0 N g H T x0 x1 x3 S) (hx : X (KF_X0_pay_0 N g H T x0 x1 x3 S)) : R_ := by
  unfold KO_X0_pay_0 at ok
  unfold KF_X0_pay_0 at hx
  refine pif_p ok (fun c_54 => ?_) (fun c_54 => ?_)
  · have ok := ok.1 c_54
    have hx := xif_p c_54 hx
    exact k5b_X0_pay_74 hR hS hM  ok hx
  · have ok := ok.2 c_54
    have hx := xif_n c_54 hx
    refine pif_p ok (fun c_61 => ?_) (fun c_61 => ?_)
    · have ok := ok.1 c_61
      have hx := xif_p c_61 hx
      exact k5b_X0_pay_74 hR hS hM  ok hx
    · have ok := ok.2 c_61
      have hx := xif_n c_61 hx
      refine pif_p ok (fun c_65 => ?_) (fun c_65 => ?_)
      · have ok := ok.1 c_65
        have hx := xif_p c_65 hx
        exact k5b_X0_pay_74 hR hS hM  ok hx
      · have ok := ok.2 c_65
        have hx := xif_n c_65 hx
        refine pif_p ok (fun c_71 => ?_) (fun c_71 => ?_)
        · have ok := ok.1 c_71
          have hx := xif_p c_71 hx
          have ok := ok.2
          refine pif_n ok (fun c_85 => ?_) (fun c_85 => ?_)
          · have ok := ok.2 c_85
            have hx := xif_n c_85 hx
            exact k5b_X0_pay_103 hR hS hM  ok hx
          · have ok := ok.1 c_85
            have hx := xif_p c_85 hx
            have ok := ok.2
            refine pif_p ok (fun c_100 => ?_) (fun c_100 => ?_)
            · have ok := ok.1 c_100
              have hx := xif_p c_100 hx
              have ok := ok.2
              have tq_115 : tK S 21 (some (x0 + 2)) := tK_some (tK.cis (hS.rk (c := 0) (k := 1) t_x0 rfl (by omega)) (Option.some_ne_none _)).2
              have hS := hS.Aw (k := 21) (x0 + 2) ((Int64.toInt32 (x1 >>> (Int32.toInt64 (nI 48) &&& 63))) &&& (nI 255)).toNatClampNeg ((cA S (x0 + 2) ((Int64.toInt32 (x1 >>> (Int32.toInt64 (nI 48) &&& 63))) &&& (nI 255)).toNatClampNeg) + (nI 1)) tq_115 (by decide)
              have hM := hM.A (x0 + 2) ((Int64.toInt32 (x1 >>> (Int32.toInt64 (nI 48) &&& 63))) &&& (nI 255)).toNatClampNeg ((cA S (x0 + 2) ((Int64.toInt32 (x1 >>> (Int32.toInt64 (nI 48) &&& 63))) &&& (nI 255)).toNatClampNeg) + (nI 1))
              have ok := ok.2
              exact k5b_X0_pay_116 hR hS hM t_x0 ok hx
            · have ok := ok.2 c_100
              have hx := xif_n c_100 hx
              exact k5b_X0_pay_103 hR hS hM  ok hx
        · have ok := ok.2 c_71
          have hx := xif_n c_71 hx
          exact k5b_X0_pay_74 hR hS hM  ok hx
set_option maxRecDepth 100000 in
set_option maxHeartbeats 4000000 in
theorem k5c_X0_pay {u g H T N : Nat} {S : cS} {a0 : Nat} {x1 : Int64} {x3 : Int32} (hS : St u g H T S) (t_x0 : isO g H 0 a0) (ok : p_X0_pay N g H T S a0 x1 x3) : St u g H T (k_X0_pay N g H T S a0 x1 x3).2 ∧ M5 g H S (k_X0_pay N g H T S a0 x1 x3).2 := by
  exact k5b_X0_pay_0 (X := fun F => F = k_X0_pay N g H T S a0 x1 x3) (fun v S' h1 h2 h => by rw [← h]; exact ⟨h1, h2⟩) hS M5.rfl' t_x0 ok rfl
set_option maxRecDepth 100000 in
set_option maxHeartbeats 4000000 in
theorem k5b_X0_play_148 {u g H T N : Nat} {S : cS} {S0 : cS} {R_ : Prop} {X : Int32 × cS → Prop} (hR : ∀ v S', St u g H T S' → M5 g H S0 S' → X (v, S') → R_) (hS : St u g H T S) (hM : M5 g H S0 S) (ok : KO_X0_play_148 N g H T S) (hx : X (KF_X0_play_148 N g H T S)) : R_ := by
  unfold KO_X0_play_148 at ok
  unfold KF_X0_play_148 at hx
  exact hR _ _ hS hM hx
set_option maxRecDepth 100000 in
set_option maxHeartbeats 4000000 in
theorem k5b_X0_play_140 {u g H T N : Nat} {S : cS} {S0 : cS} {R_ : Prop} {X : Int32 × cS → Prop} (hR : ∀ v S', St u g H T S' → M5 g H S0 S' → X (v, S') → R_) (hS : St u g H T S) (hM : M5 g H S0 S) (ok : KO_X0_play_140 N g H T S) (hx : X (KF_X0_play_140 N g H T S)) : R_ := by
  unfold KO_X0_play_140 at ok
  unfold KF_X0_play_140 at hx
  exact hR _ _ hS hM hx
set_option maxRecDepth 100000 in
set_option maxHeartbeats 4000000 in
theorem k5b_X0_play_137 {u g H T N : Nat} {S : cS} {S0 : cS} {R_ : Prop} {X : Nat × cS → Prop} (hX0 : ∀ (S' : cS), St u g H T S' → M5 g H S0 S' → X (0, S') → R_) (hX1 : ∀ (S' : cS), St u g H T S' → M5 g H S0 S' → X (1, S') → R_) {rec : Nat → Option Nat → Int32 → Int32 → Int32 → cS → Nat × cS} {rok : Nat → Option Nat → Int32 → Int32 → Int32 → cS → Prop} (hrec : ∀ (x0 : Nat) (x1 : Option Nat) (x3 : Int32) (x4 : Int32) (x5 : Int32) (S : cS), St u g H T S → M5 g H S0 S → isO g H 0 x0 → tK S 20 x1 → rok x0 x1 x3 x4 x5 S → X (rec x0 x1 x3 x4 x5 S) → R_) {x0 : Nat} {x1 : Option Nat} {x3 : Int32} {x4 : Int32} {x5 : Int32} {s0 : Int32} (hS : St u g H T S) (hM : M5 g H S0 S) (t_x0 : isO g H 0 x0) (t_x1 : tK S 20 x1) (ok : KO_X0_play_137 N g H T rok x0 x1 x3 x4 x5 s0 S) (hx : X (KF_X0_play_137 N g H T rec x0 x1 x3 x4 x5 s0 S)) : R_ := by
  unfold KO_X0_play_137 at ok
  unfold KF_X0_play_137 at hx
  refine pif_n ok (fun c_137 => ?_) (fun c_137 => ?_)
  · have ok := ok.2 c_137
    have hx := xif_n c_137 hx
    exact hrec _ _ _ _ _ S hS hM t_x0 t_x1 ok hx
  · have ok := ok.1 c_137
    have hx := xif_p c_137 hx
    exact hX0 S hS hM  hx
set_option maxRecDepth 100000 in
set_option maxHeartbeats 4000000 in
theorem k5bb_X0_play_116 {u g H T N : Nat} {S : cS} {S0 : cS} {R_ : Prop} {X : Nat × cS → Prop} (hX0 : ∀ (S' : cS), St u g H T S' → M5 g H S0 S' → X (0, S') → R_) (hX1 : ∀ (S' : cS), St u g H T S' → M5 g H S0 S' → X (1, S') → R_) {rec : Nat → Option Nat → Int32 → Int32 → Int32 → cS → Nat × cS} {rok : Nat → Option Nat → Int32 → Int32 → Int32 → cS → Prop} (hrec : ∀ (x0 : Nat) (x1 : Option Nat) (x3 : Int32) (x4 : Int32) (x5 : Int32) (S : cS), St u g H T S → M5 g H S0 S → isO g H 0 x0 → tK S 20 x1 → rok x0 x1 x3 x4 x5 S → X (rec x0 x1 x3 x4 x5 S) → R_) {x0 : Nat} {x1 : Option Nat} {x3 : Int32} {x4 : Int32} {x5 : Int32} (hS : St u g H T S) (hM : M5 g H S0 S) (t_x0 : isO g H 0 x0) (t_x1 : tK S 20 x1) (ok : KOB_X0_play_116 N g H T rok x0 x1 x3 x4 x5 S) (hx : X (KB_X0_play_116 N g H T rec x0 x1 x3 x4 x5 S)) : R_ := by
  unfold KOB_X0_play_116 at ok
  unfold KB_X0_play_116 at hx
  refine pif_p ok (fun c_122 => ?_) (fun c_122 => ?_)
  · have ok := ok.1 c_122
    have hx := xif_p c_122 hx
    exact hX1 S hS hM  hx
  · have ok := ok.2 c_122
    have hx := xif_n c_122 hx
    have ok := ok.2
    obtain ⟨hS, hm_134⟩ := k5c_X0_pay hS t_x0 ok.1
    have hM := hM.trans hm_134
    have ok := ok.2
    exact k5b_X0_play_137 hX0 hX1 hrec hS hM t_x0 (hm_134.tK t_x1 (by decide)) ok hx
set_option maxRecDepth 100000 in
set_option maxHeartbeats 4000000 in
theorem k5l_X0_play_116 {u g H T N : Nat} {S0 : cS} {R_ : Prop} {X : Nat × cS → Prop} (hX0 : ∀ (S' : cS), St u g H T S' → M5 g H S0 S' → X (0, S') → R_) (hX1 : ∀ (S' : cS), St u g H T S' → M5 g H S0 S' → X (1, S') → R_) : ∀ (n : Nat) (x0 : Nat) (x1 : Option Nat) (x3 : Int32) (x4 : Int32) (x5 : Int32) (S : cS), St u g H T S → M5 g H S0 S → isO g H 0 x0 → tK S 20 x1 → KOL_X0_play_116 N g H T n x0 x1 x3 x4 x5 S → X (KL_X0_play_116 N g H T n x0 x1 x3 x4 x5 S) → R_ := by
  intro n
  induction n with
  | zero => intro x0 x1 x3 x4 x5 S hS hM t_x0 t_x1 ok; exact absurd ok id
  | succ n ih =>
    intro x0 x1 x3 x4 x5 S hS hM t_x0 t_x1 ok hx
    exact k5bb_X0_play_116 hX0 hX1 (rec := KL_X0_play_116 N g H T n) (rok := KOL_X0_play_116 N g H T n) (fun x0 x1 x3 x4 x5 S hS hM t_x0 t_x1 ok hx => ih x0 x1 x3 x4 x5 S hS hM t_x0 t_x1 ok hx) hS hM t_x0 t_x1 ok hx
set_option maxRecDepth 100000 in
set_option maxHeartbeats 4000000 in
theorem k5d_X0_play_116 {u g H T N : Nat} {S : cS} {S0 : cS} {R_ : Prop} {X : Int32 × cS → Prop} (hR : ∀ v S', St u g H T S' → M5 g H S0 S' → X (v, S') → R_) {x0 : Nat} {x1 : Option Nat} {x3 : Int32} {x4 : Int32} {x5 : Int32} (hS : St u g H T S) (hM : M5 g H S0 S) (t_x0 : isO g H 0 x0) (t_x1 : tK S 20 x1) (ok : KOL_X0_play_116 N g H T N x0 x1 x3 x4 x5 S ∧ KOA_X0_play_116 N g H T x0 x1 x3 x4 x5 S (KL_X0_play_116 N g H T N x0 x1 x3 x4 x5 S)) (hx : X (KA_X0_play_116 N g H T x0 x1 x3 x4 x5 S (KL_X0_play_116 N g H T N x0 x1 x3 x4 x5 S))) : R_ := by
  refine k5l_X0_play_116 ?_ ?_ N x0 x1 x3 x4 x5 S hS hM t_x0 t_x1 ok.1 (X := fun z => KOA_X0_play_116 N g H T x0 x1 x3 x4 x5 S z ∧ X (KA_X0_play_116 N g H T x0 x1 x3 x4 x5 S z)) ⟨ok.2, hx⟩
  · intro S' hS hM hz
    obtain ⟨ok, hx⟩ := hz
    unfold KOA_X0_play_116 at ok
    unfold KA_X0_play_116 at hx
    have ok := xif_P (show (0 : Nat) = 0 from rfl) ok
    have hx := xif_p (show (0 : Nat) = 0 from rfl) hx
    exact k5b_X0_play_140 hR hS hM  ok hx
  · intro S' hS hM hz
    obtain ⟨ok, hx⟩ := hz
    unfold KOA_X0_play_116 at ok
    unfold KA_X0_play_116 at hx
    have ok := xif_N (show ¬ (1 : Nat) = 0 by decide) ok
    have hx := xif_n (show ¬ (1 : Nat) = 0 by decide) hx
    exact k5b_X0_play_148 hR hS hM  ok hx
set_option maxRecDepth 100000 in
set_option maxHeartbeats 4000000 in
theorem k5b_X0_play_101 {u g H T N : Nat} {S : cS} {S0 : cS} {R_ : Prop} {X : Int32 × cS → Prop} (hR : ∀ v S', St u g H T S' → M5 g H S0 S' → X (v, S') → R_) (hS : St u g H T S) (hM : M5 g H S0 S) (ok : KO_X0_play_101 N g H T S) (hx : X (KF_X0_play_101 N g H T S)) : R_ := by
  unfold KO_X0_play_101 at ok
  unfold KF_X0_play_101 at hx
  exact hR _ _ hS hM hx
set_option maxRecDepth 100000 in
set_option maxHeartbeats 4000000 in
theorem k5b_X0_play_98 {u g H T N : Nat} {S : cS} {S0 : cS} {R_ : Prop} {X : Nat × Nat × Option Nat × Int32 × Int32 × Int32 × cS → Prop} (hX0 : ∀ (x0 : Nat) (x1 : Option Nat) (x3 : Int32) (x4 : Int32) (x5 : Int32) (S' : cS), St u g H T S' → M5 g H S0 S' → X (0, x0, x1, x3, x4, x5, S') → R_) (hX1 : ∀ (x0 : Nat) (x1 : Option Nat) (x3 : Int32) (x4 : Int32) (x5 : Int32) (S' : cS), St u g H T S' → M5 g H S0 S' → isO g H 0 x0 → tK S' 20 x1 → X (1, x0, x1, x3, x4, x5, S') → R_) {rec : Nat → Option Nat → Int32 → Int32 → Int32 → Int32 → Int32 → cS → Nat × Nat × Option Nat × Int32 × Int32 × Int32 × cS} {rok : Nat → Option Nat → Int32 → Int32 → Int32 → Int32 → Int32 → cS → Prop} (hrec : ∀ (x0 : Nat) (x1 : Option Nat) (x3 : Int32) (x4 : Int32) (x5 : Int32) (x6 : Int32) (x7 : Int32) (S : cS), St u g H T S → M5 g H S0 S → isO g H 0 x0 → tK S 20 x1 → rok x0 x1 x3 x4 x5 x6 x7 S → X (rec x0 x1 x3 x4 x5 x6 x7 S) → R_) {x0 : Nat} {x1 : Option Nat} {x3 : Int32} {x4 : Int32} {x5 : Int32} {x6 : Int32} {x7 : Int32} {x8 : Int32} {s0 : Int32} (hS : St u g H T S) (hM : M5 g H S0 S) (t_x0 : isO g H 0 x0) (t_x1 : tK S 20 x1) (ok : KO_X0_play_98 N g H T rok x0 x1 x3 x4 x5 x6 x7 x8 s0 S) (hx : X (KF_X0_play_98 N g H T rec x0 x1 x3 x4 x5 x6 x7 x8 s0 S)) : R_ := by
  unfold KO_X0_play_98 at ok
  unfold KF_X0_play_98 at hx
  refine pif_n ok (fun c_98 => ?_) (fun c_98 => ?_)
  · have ok := ok.2 c_98
    have hx := xif_n c_98 hx
    exact hrec _ _ _ _ _ _ _ S hS hM t_x0 t_x1 ok hx
  · have ok := ok.1 c_98
    have hx := xif_p c_98 hx
    exact hX0 _ _ _ _ _ S hS hM  hx
set_option maxRecDepth 100000 in
set_option maxHeartbeats 4000000 in
theorem k5bb_X0_play_57 {u g H T N : Nat} {S : cS} {S0 : cS} {R_ : Prop} {X : Nat × Nat × Option Nat × Int32 × Int32 × Int32 × cS → Prop} (hX0 : ∀ (x0 : Nat) (x1 : Option Nat) (x3 : Int32) (x4 : Int32) (x5 : Int32) (S' : cS), St u g H T S' → M5 g H S0 S' → X (0, x0, x1, x3, x4, x5, S') → R_) (hX1 : ∀ (x0 : Nat) (x1 : Option Nat) (x3 : Int32) (x4 : Int32) (x5 : Int32) (S' : cS), St u g H T S' → M5 g H S0 S' → isO g H 0 x0 → tK S' 20 x1 → X (1, x0, x1, x3, x4, x5, S') → R_) {rec : Nat → Option Nat → Int32 → Int32 → Int32 → Int32 → Int32 → cS → Nat × Nat × Option Nat × Int32 × Int32 × Int32 × cS} {rok : Nat → Option Nat → Int32 → Int32 → Int32 → Int32 → Int32 → cS → Prop} (hrec : ∀ (x0 : Nat) (x1 : Option Nat) (x3 : Int32) (x4 : Int32) (x5 : Int32) (x6 : Int32) (x7 : Int32) (S : cS), St u g H T S → M5 g H S0 S → isO g H 0 x0 → tK S 20 x1 → rok x0 x1 x3 x4 x5 x6 x7 S → X (rec x0 x1 x3 x4 x5 x6 x7 S) → R_) {x0 : Nat} {x1 : Option Nat} {x3 : Int32} {x4 : Int32} {x5 : Int32} {x6 : Int32} {x7 : Int32} (hS : St u g H T S) (hM : M5 g H S0 S) (t_x0 : isO g H 0 x0) (t_x1 : tK S 20 x1) (ok : KOB_X0_play_57 N g H T rok x0 x1 x3 x4 x5 x6 x7 S) (hx : X (KB_X0_play_57 N g H T rec x0 x1 x3 x4 x5 x6 x7 S)) : R_ := by
  unfold KOB_X0_play_57 at ok
  unfold KB_X0_play_57 at hx
  refine pif_p ok (fun c_61 => ?_) (fun c_61 => ?_)
  · have ok := ok.1 c_61
    have hx := xif_p c_61 hx
    exact hX1 _ _ _ _ _ S hS hM t_x0 t_x1 hx
  · have ok := ok.2 c_61
    have hx := xif_n c_61 hx
    refine pif_p ok (fun c_67 => ?_) (fun c_67 => ?_)
    · have ok := ok.1 c_67
      have hx := xif_p c_67 hx
      exact hX1 _ _ _ _ _ S hS hM t_x0 t_x1 hx
    · have ok := ok.2 c_67
      have hx := xif_n c_67 hx
      have ok := ok.2
      refine pif_p ok (fun c_81 => ?_) (fun c_81 => ?_)
      · have ok := ok.1 c_81
        have hx := xif_p c_81 hx
        exact hX0 _ _ _ _ _ S hS hM  hx
      · have ok := ok.2 c_81
        have hx := xif_n c_81 hx
        have ok := ok.2
        obtain ⟨hS, hm_95⟩ := k5c_X0_punish hS t_x0 ok.1
        have hM := hM.trans hm_95
        have ok := ok.2
        exact k5b_X0_play_98 hX0 hX1 hrec hS hM t_x0 (hm_95.tK t_x1 (by decide)) ok hx
set_option maxRecDepth 100000 in
set_option maxHeartbeats 4000000 in
theorem k5l_X0_play_57 {u g H T N : Nat} {S0 : cS} {R_ : Prop} {X : Nat × Nat × Option Nat × Int32 × Int32 × Int32 × cS → Prop} (hX0 : ∀ (x0 : Nat) (x1 : Option Nat) (x3 : Int32) (x4 : Int32) (x5 : Int32) (S' : cS), St u g H T S' → M5 g H S0 S' → X (0, x0, x1, x3, x4, x5, S') → R_) (hX1 : ∀ (x0 : Nat) (x1 : Option Nat) (x3 : Int32) (x4 : Int32) (x5 : Int32) (S' : cS), St u g H T S' → M5 g H S0 S' → isO g H 0 x0 → tK S' 20 x1 → X (1, x0, x1, x3, x4, x5, S') → R_) : ∀ (n : Nat) (x0 : Nat) (x1 : Option Nat) (x3 : Int32) (x4 : Int32) (x5 : Int32) (x6 : Int32) (x7 : Int32) (S : cS), St u g H T S → M5 g H S0 S → isO g H 0 x0 → tK S 20 x1 → KOL_X0_play_57 N g H T n x0 x1 x3 x4 x5 x6 x7 S → X (KL_X0_play_57 N g H T n x0 x1 x3 x4 x5 x6 x7 S) → R_ := by
  intro n
  induction n with
  | zero => intro x0 x1 x3 x4 x5 x6 x7 S hS hM t_x0 t_x1 ok; exact absurd ok id
  | succ n ih =>
    intro x0 x1 x3 x4 x5 x6 x7 S hS hM t_x0 t_x1 ok hx
    exact k5bb_X0_play_57 hX0 hX1 (rec := KL_X0_play_57 N g H T n) (rok := KOL_X0_play_57 N g H T n) (fun x0 x1 x3 x4 x5 x6 x7 S hS hM t_x0 t_x1 ok hx => ih x0 x1 x3 x4 x5 x6 x7 S hS hM t_x0 t_x1 ok hx) hS hM t_x0 t_x1 ok hx
set_option maxRecDepth 100000 in
set_option maxHeartbeats 4000000 in
theorem k5d_X0_play_57 {u g H T N : Nat} {S : cS} {S0 : cS} {R_ : Prop} {X : Int32 × cS → Prop} (hR : ∀ v S', St u g H T S' → M5 g H S0 S' → X (v, S') → R_) {x0 : Nat} {x1 : Option Nat} {x3 : Int32} {x4 : Int32} {x5 : Int32} {x6 : Int32} {x7 : Int32} (hS : St u g H T S) (hM : M5 g H S0 S) (t_x0 : isO g H 0 x0) (t_x1 : tK S 20 x1) (ok : KOL_X0_play_57 N g H T N x0 x1 x3 x4 x5 x6 x7 S ∧ KOA_X0_play_57 N g H T x0 x1 x3 x4 x5 x6 x7 S (KL_X0_play_57 N g H T N x0 x1 x3 x4 x5 x6 x7 S)) (hx : X (KA_X0_play_57 N g H T x0 x1 x3 x4 x5 x6 x7 S (KL_X0_play_57 N g H T N x0 x1 x3 x4 x5 x6 x7 S))) : R_ := by
  refine k5l_X0_play_57 ?_ ?_ N x0 x1 x3 x4 x5 x6 x7 S hS hM t_x0 t_x1 ok.1 (X := fun z => KOA_X0_play_57 N g H T x0 x1 x3 x4 x5 x6 x7 S z ∧ X (KA_X0_play_57 N g H T x0 x1 x3 x4 x5 x6 x7 S z)) ⟨ok.2, hx⟩
  · intro x0' x1' x3' x4' x5' S' hS hM hz
    obtain ⟨ok, hx⟩ := hz
    unfold KOA_X0_play_57 at ok
    unfold KA_X0_play_57 at hx
    have ok := xif_P (show (0 : Nat) = 0 from rfl) ok
    have hx := xif_p (show (0 : Nat) = 0 from rfl) hx
    exact k5b_X0_play_101 hR hS hM  ok hx
  · intro x0' x1' x3' x4' x5' S' hS hM t_x0 t_x1 hz
    obtain ⟨ok, hx⟩ := hz
    unfold KOA_X0_play_57 at ok
    unfold KA_X0_play_57 at hx
    have ok := xif_N (show ¬ (1 : Nat) = 0 by decide) ok
    have hx := xif_n (show ¬ (1 : Nat) = 0 by decide) hx
    exact k5d_X0_play_116 hR hS hM t_x0 t_x1 ok hx
set_option maxRecDepth 100000 in
set_option maxHeartbeats 4000000 in
theorem k5b_X0_play_23 {u g H T N : Nat} {S : cS} {S0 : cS} {R_ : Prop} {X : Int32 × cS → Prop} (hR : ∀ v S', St u g H T S' → M5 g H S0 S' → X (v, S') → R_) (hS : St u g H T S) (hM : M5 g H S0 S) (ok : KO_X0_play_23 N g H T S) (hx : X (KF_X0_play_23 N g H T S)) : R_ := by
  unfold KO_X0_play_23 at ok
  unfold KF_X0_play_23 at hx
  exact hR _ _ hS hM hx
set_option maxRecDepth 100000 in
set_option maxHeartbeats 4000000 in
theorem k5b_X0_play_0 {u g H T N : Nat} {S : cS} {S0 : cS} {R_ : Prop} {X : Int32 × cS → Prop} (hR : ∀ v S', St u g H T S' → M5 g H S0 S' → X (v, S') → R_) {x0 : Nat} {x1 : Option Nat} {x2 : Int32} {x3 : Int32} (hS : St u g H T S) (hM : M5 g H S0 S) (t_x0 : isO g H 0 x0) (hb : ∀ m, m < H → nd g m + 6 ≠ x0) (t_x1 : tK S 20 x1) (ok : KO_X0_play_0 N g H T x0 x1 x2 x3 S) (hx : X (KF_X0_play_0 N g H T x0 x1 x2 x3 S)) : R_ := by
  unfold KO_X0_play_0 at ok
  unfold KF_X0_play_0 at hx
  have hS0 := hS
  have hS := hS.I 5 x0 (nI 1)
  have hM := hM.I5 x0 (nI 1) hb
  refine pif_p ok (fun c_6 => ?_) (fun c_6 => ?_)
  · have ok := ok.1 c_6
    have hx := xif_p c_6 hx
    exact k5b_X0_play_23 hR hS hM  ok hx
  · have ok := ok.2 c_6
    have hx := xif_n c_6 hx
    have ok := ok.2
    refine pif_p ok (fun c_12 => ?_) (fun c_12 => ?_)
    · have ok := ok.1 c_12
      have hx := xif_p c_12 hx
      exact k5b_X0_play_23 hR hS hM  ok hx
    · have ok := ok.2 c_12
      have hx := xif_n c_12 hx
      refine pif_p ok (fun c_20 => ?_) (fun c_20 => ?_)
      · have ok := ok.1 c_20
        have hx := xif_p c_20 hx
        have ok := ok.2
        have ok := ok.2
        exact k5d_X0_play_57 hR hS hM t_x0 (tK_I t_x1) ok hx
      · have ok := ok.2 c_20
        have hx := xif_n c_20 hx
        exact k5b_X0_play_23 hR hS hM  ok hx
set_option maxRecDepth 100000 in
set_option maxHeartbeats 4000000 in
theorem k5c_X0_play {u g H T N : Nat} {S : cS} {a0 : Nat} {x1 : Option Nat} {x2 : Int32} {x3 : Int32} (hS : St u g H T S) (t_x0 : isO g H 0 a0) (hb : ∀ m, m < H → nd g m + 6 ≠ a0) (t_x1 : tK S 20 x1) (ok : p_X0_play N g H T S a0 x1 x2 x3) : St u g H T (k_X0_play N g H T S a0 x1 x2 x3).2 ∧ M5 g H S (k_X0_play N g H T S a0 x1 x2 x3).2 := by
  exact k5b_X0_play_0 (X := fun F => F = k_X0_play N g H T S a0 x1 x2 x3) (fun v S' h1 h2 h => by rw [← h]; exact ⟨h1, h2⟩) hS M5.rfl' t_x0 hb t_x1 ok rfl
set_option maxRecDepth 100000 in
set_option maxHeartbeats 4000000 in
theorem k5b_X0_putCode_47 {u g H T N : Nat} {S : cS} {S0 : cS} {R_ : Prop} {X : cS → Prop} (hR : ∀ S', St u g H T S' → M5 g H S0 S' → X S' → R_) (hS : St u g H T S) (hM : M5 g H S0 S) (ok : KO_X0_putCode_47 N g H T S) (hx : X (KF_X0_putCode_47 N g H T S)) : R_ := by
  unfold KO_X0_putCode_47 at ok
  unfold KF_X0_putCode_47 at hx
  exact hR _ hS hM hx
set_option maxRecDepth 100000 in
set_option maxHeartbeats 4000000 in
theorem k5bb_X0_putCode_3 {u g H T N : Nat} {S : cS} {S0 : cS} {R_ : Prop} {X : Nat × cS → Prop} (hX0 : ∀ (S' : cS), St u g H T S' → M5 g H S0 S' → X (0, S') → R_) {rec : Int64 → Option Nat → Int32 → Int32 → cS → Nat × cS} {rok : Int64 → Option Nat → Int32 → Int32 → cS → Prop} (hrec : ∀ (x0 : Int64) (x2 : Option Nat) (x3 : Int32) (x4 : Int32) (S : cS), St u g H T S → M5 g H S0 S → tK S 20 x2 → rok x0 x2 x3 x4 S → X (rec x0 x2 x3 x4 S) → R_) {x0 : Int64} {x2 : Option Nat} {x3 : Int32} {x4 : Int32} (hS : St u g H T S) (hM : M5 g H S0 S) (t_x2 : tK S 20 x2) (ok : KOB_X0_putCode_3 N g H T rok x0 x2 x3 x4 S) (hx : X (KB_X0_putCode_3 N g H T rec x0 x2 x3 x4 S)) : R_ := by
  unfold KOB_X0_putCode_3 at ok
  unfold KB_X0_putCode_3 at hx
  refine pif_p ok (fun c_7 => ?_) (fun c_7 => ?_)
  · have ok := ok.1 c_7
    have hx := xif_p c_7 hx
    exact hX0 S hS hM  hx
  · have ok := ok.2 c_7
    have hx := xif_n c_7 hx
    refine pif_p ok (fun c_11 => ?_) (fun c_11 => ?_)
    · have ok := ok.1 c_11
      have hx := xif_p c_11 hx
      exact hX0 S hS hM  hx
    · have ok := ok.2 c_11
      have hx := xif_n c_11 hx
      have ok := ok.2
      refine pif_p ok (fun c_20 => ?_) (fun c_20 => ?_)
      · have ok := ok.1 c_20
        have hx := xif_p c_20 hx
        exact hX0 S hS hM  hx
      · have ok := ok.2 c_20
        have hx := xif_n c_20 hx
        have hS := hS.Ab (za x2) (x3 + x4).toNatClampNeg ((Int64.toInt32 (x0 >>> (Int32.toInt64 ((nI 48) - ((nI 8) * x4)) &&& 63))).toInt8.toInt32)
        have hM := hM.A (za x2) (x3 + x4).toNatClampNeg (((Int64.toInt32 (x0 >>> (Int32.toInt64 ((nI 48) - ((nI 8) * x4)) &&& 63))).toInt8.toInt32).toInt8.toInt32)
        have ok := ok.2
        exact hrec _ _ _ _ (csA S (za x2) (x3 + x4).toNatClampNeg (((Int64.toInt32 (x0 >>> (Int32.toInt64 ((nI 48) - ((nI 8) * x4)) &&& 63))).toInt8.toInt32).toInt8.toInt32)) hS hM (tK_A t_x2) ok hx
set_option maxRecDepth 100000 in
set_option maxHeartbeats 4000000 in
theorem k5l_X0_putCode_3 {u g H T N : Nat} {S0 : cS} {R_ : Prop} {X : Nat × cS → Prop} (hX0 : ∀ (S' : cS), St u g H T S' → M5 g H S0 S' → X (0, S') → R_) : ∀ (n : Nat) (x0 : Int64) (x2 : Option Nat) (x3 : Int32) (x4 : Int32) (S : cS), St u g H T S → M5 g H S0 S → tK S 20 x2 → KOL_X0_putCode_3 N g H T n x0 x2 x3 x4 S → X (KL_X0_putCode_3 N g H T n x0 x2 x3 x4 S) → R_ := by
  intro n
  induction n with
  | zero => intro x0 x2 x3 x4 S hS hM t_x2 ok; exact absurd ok id
  | succ n ih =>
    intro x0 x2 x3 x4 S hS hM t_x2 ok hx
    exact k5bb_X0_putCode_3 hX0 (rec := KL_X0_putCode_3 N g H T n) (rok := KOL_X0_putCode_3 N g H T n) (fun x0 x2 x3 x4 S hS hM t_x2 ok hx => ih x0 x2 x3 x4 S hS hM t_x2 ok hx) hS hM t_x2 ok hx
set_option maxRecDepth 100000 in
set_option maxHeartbeats 4000000 in
theorem k5d_X0_putCode_3 {u g H T N : Nat} {S : cS} {S0 : cS} {R_ : Prop} {X : cS → Prop} (hR : ∀ S', St u g H T S' → M5 g H S0 S' → X S' → R_) {x0 : Int64} {x2 : Option Nat} {x3 : Int32} {x4 : Int32} (hS : St u g H T S) (hM : M5 g H S0 S) (t_x2 : tK S 20 x2) (ok : KOL_X0_putCode_3 N g H T N x0 x2 x3 x4 S ∧ KOA_X0_putCode_3 N g H T x0 x2 x3 x4 S (KL_X0_putCode_3 N g H T N x0 x2 x3 x4 S)) (hx : X (KA_X0_putCode_3 N g H T x0 x2 x3 x4 S (KL_X0_putCode_3 N g H T N x0 x2 x3 x4 S))) : R_ := by
  refine k5l_X0_putCode_3 ?_ N x0 x2 x3 x4 S hS hM t_x2 ok.1 (X := fun z => KOA_X0_putCode_3 N g H T x0 x2 x3 x4 S z ∧ X (KA_X0_putCode_3 N g H T x0 x2 x3 x4 S z)) ⟨ok.2, hx⟩
  · intro S' hS hM hz
    obtain ⟨ok, hx⟩ := hz
    unfold KOA_X0_putCode_3 at ok
    unfold KA_X0_putCode_3 at hx
    exact k5b_X0_putCode_47 hR hS hM  ok hx
set_option maxRecDepth 100000 in
set_option maxHeartbeats 4000000 in
theorem k5b_X0_putCode_0 {u g H T N : Nat} {S : cS} {S0 : cS} {R_ : Prop} {X : cS → Prop} (hR : ∀ S', St u g H T S' → M5 g H S0 S' → X S' → R_) {x0 : Int64} {x2 : Option Nat} {x3 : Int32} (hS : St u g H T S) (hM : M5 g H S0 S) (t_x2 : tK S 20 x2) (ok : KO_X0_putCode_0 N g H T x0 x2 x3 S) (hx : X (KF_X0_putCode_0 N g H T x0 x2 x3 S)) : R_ := by
  unfold KO_X0_putCode_0 at ok
  unfold KF_X0_putCode_0 at hx
  exact k5d_X0_putCode_3 hR hS hM t_x2 ok hx
set_option maxRecDepth 100000 in
set_option maxHeartbeats 4000000 in
theorem k5c_X0_putCode {u g H T N : Nat} {S : cS} {x0 : Int64} {x2 : Option Nat} {x3 : Int32} (hS : St u g H T S) (t_x2 : tK S 20 x2) (ok : p_X0_putCode N g H T S x0 x2 x3) : St u g H T (k_X0_putCode N g H T S x0 x2 x3) ∧ M5 g H S (k_X0_putCode N g H T S x0 x2 x3) := by
  exact k5b_X0_putCode_0 (X := fun F => F = k_X0_putCode N g H T S x0 x2 x3) (fun S' h1 h2 h => by rw [← h]; exact ⟨h1, h2⟩) hS M5.rfl' t_x2 ok rfl
set_option maxRecDepth 100000 in
set_option maxHeartbeats 4000000 in
theorem k5b_X11_putTwo_27 {u g H T N : Nat} {S : cS} {S0 : cS} {R_ : Prop} {X : cS → Prop} (hR : ∀ S', St u g H T S' → M5 g H S0 S' → X S' → R_) (hS : St u g H T S) (hM : M5 g H S0 S) (ok : KO_X11_putTwo_27 N g H T S) (hx : X (KF_X11_putTwo_27 N g H T S)) : R_ := by
  unfold KO_X11_putTwo_27 at ok
  unfold KF_X11_putTwo_27 at hx
  exact hR _ hS hM hx
set_option maxRecDepth 100000 in
set_option maxHeartbeats 4000000 in
theorem k5b_X11_putTwo_0 {u g H T N : Nat} {S : cS} {S0 : cS} {R_ : Prop} {X : cS → Prop} (hR : ∀ S', St u g H T S' → M5 g H S0 S' → X S' → R_) {x0 : Option Nat} {x1 : Int32} {x2 : Int32} (hS : St u g H T S) (hM : M5 g H S0 S) (t_x0 : tK S 20 x0) (ok : KO_X11_putTwo_0 N g H T x0 x1 x2 S) (hx : X (KF_X11_putTwo_0 N g H T x0 x1 x2 S)) : R_ := by
  unfold KO_X11_putTwo_0 at ok
  unfold KF_X11_putTwo_0 at hx
  refine pif_p ok (fun c_1 => ?_) (fun c_1 => ?_)
  · have ok := ok.1 c_1
    have hx := xif_p c_1 hx
    exact k5b_X11_putTwo_27 hR hS hM  ok hx
  · have ok := ok.2 c_1
    have hx := xif_n c_1 hx
    have ok := ok.2
    refine pif_p ok (fun c_9 => ?_) (fun c_9 => ?_)
    · have ok := ok.1 c_9
      have hx := xif_p c_9 hx
      exact k5b_X11_putTwo_27 hR hS hM  ok hx
    · have ok := ok.2 c_9
      have hx := xif_n c_9 hx
      have hS := hS.Ab (za x0) x1.toNatClampNeg ((x2 >>> ((nI 8) &&& 31)).toInt8.toInt32)
      have hM := hM.A (za x0) x1.toNatClampNeg (((x2 >>> ((nI 8) &&& 31)).toInt8.toInt32).toInt8.toInt32)
      have ok := ok.2
      have hS := hS.Ab (za x0) (x1 + (nI 1)).toNatClampNeg (x2.toInt8.toInt32)
      have hM := hM.A (za x0) (x1 + (nI 1)).toNatClampNeg ((x2.toInt8.toInt32).toInt8.toInt32)
      have ok := ok.2
      exact k5b_X11_putTwo_27 hR hS hM  ok hx
set_option maxRecDepth 100000 in
set_option maxHeartbeats 4000000 in
theorem k5c_X11_putTwo {u g H T N : Nat} {S : cS} {x0 : Option Nat} {x1 : Int32} {x2 : Int32} (hS : St u g H T S) (t_x0 : tK S 20 x0) (ok : p_X11_putTwo N g H T S x0 x1 x2) : St u g H T (k_X11_putTwo N g H T S x0 x1 x2) ∧ M5 g H S (k_X11_putTwo N g H T S x0 x1 x2) := by
  exact k5b_X11_putTwo_0 (X := fun F => F = k_X11_putTwo N g H T S x0 x1 x2) (fun S' h1 h2 h => by rw [← h]; exact ⟨h1, h2⟩) hS M5.rfl' t_x0 ok rfl

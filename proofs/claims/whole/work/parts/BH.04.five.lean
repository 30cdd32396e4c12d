set_option maxRecDepth 100000 in
set_option maxHeartbeats 4000000 in
theorem k5b_X2_step_110 {u g H T N : Nat} {S : cS} {S0 : cS} {R_ : Prop} {X : Int32 × cS → Prop} (hR : ∀ v S', St u g H T S' → M5 g H S0 S' → X (v, S') → R_) {x4 : Int32} (hS : St u g H T S) (hM : M5 g H S0 S) (ok : KO_X2_step_110 N g H T x4 S) (hx : X (KF_X2_step_110 N g H T x4 S)) : R_ := by
  unfold KO_X2_step_110 at ok
  unfold KF_X2_step_110 at hx
  exact hR _ _ hS hM hx
set_option maxRecDepth 100000 in
set_option maxHeartbeats 4000000 in
theorem k5b_X2_step_89 {u g H T N : Nat} {S : cS} {S0 : cS} {R_ : Prop} {X : Int32 × cS → Prop} (hR : ∀ v S', St u g H T S' → M5 g H S0 S' → X (v, S') → R_) {x0 : Nat} {x3 : Option Nat} {x4 : Int32} {x6 : Int32} {s0 : Option Nat} {s1 : Int32} {s2 : Int32} (hS : St u g H T S) (hM : M5 g H S0 S) (t_x0 : isO g H 2 x0) (t_x3 : tK S 20 x3) (t_s0 : tK S 20 s0) (ok : KO_X2_step_89 N g H T x0 x3 x4 x6 s0 s1 s2 S) (hx : X (KF_X2_step_89 N g H T x0 x3 x4 x6 s0 s1 s2 S)) : R_ := by
  unfold KO_X2_step_89 at ok
  unfold KF_X2_step_89 at hx
  have hS := hS.Ab (za s0) s1.toNatClampNeg (s2.toInt8.toInt32)
  have hM := hM.A (za s0) s1.toNatClampNeg ((s2.toInt8.toInt32).toInt8.toInt32)
  have ok := ok.2
  have tq_107 : tK (csA S (za s0) s1.toNatClampNeg ((s2.toInt8.toInt32).toInt8.toInt32)) 20 (some (x0 + 4)) := tK_some (tK.cis (hS.rk (c := 2) (k := 3) t_x0 rfl (by omega)) (Option.some_ne_none _)).2
  have hS := hS.Ac (za x3) (x0 + 4) (x6 * (nI 32)).toNatClampNeg (x4 + (nI 1)).toNatClampNeg (nI 32).toNatClampNeg tq_107
  have hM := hM.Ar (za x3) (va_cpy (cA (csA S (za s0) s1.toNatClampNeg ((s2.toInt8.toInt32).toInt8.toInt32)) (x0 + 4)) (cA (csA S (za s0) s1.toNatClampNeg ((s2.toInt8.toInt32).toInt8.toInt32)) (za x3)) (x6 * (nI 32)).toNatClampNeg (x4 + (nI 1)).toNatClampNeg (nI 32).toNatClampNeg)
  have ok := ok.2
  exact k5b_X2_step_110 hR hS hM  ok hx
set_option maxRecDepth 100000 in
set_option maxHeartbeats 4000000 in
theorem k5b_X2_step_57 {u g H T N : Nat} {S : cS} {S0 : cS} {R_ : Prop} {X : Int32 × cS → Prop} (hR : ∀ v S', St u g H T S' → M5 g H S0 S' → X (v, S') → R_) {x4 : Int32} (hS : St u g H T S) (hM : M5 g H S0 S) (ok : KO_X2_step_57 N g H T x4 S) (hx : X (KF_X2_step_57 N g H T x4 S)) : R_ := by
  unfold KO_X2_step_57 at ok
  unfold KF_X2_step_57 at hx
  exact hR _ _ hS hM hx
set_option maxRecDepth 100000 in
set_option maxHeartbeats 4000000 in
theorem k5b_X2_step_28 {u g H T N : Nat} {S : cS} {S0 : cS} {R_ : Prop} {X : Int32 × cS → Prop} (hR : ∀ v S', St u g H T S' → M5 g H S0 S' → X (v, S') → R_) {x0 : Nat} {x1 : Int32} {x2 : Int32} {x3 : Option Nat} {x4 : Int32} {x5 : Int32} {s0 : Int32} (hS : St u g H T S) (hM : M5 g H S0 S) (t_x0 : isO g H 2 x0) (t_x3 : tK S 20 x3) (ok : KO_X2_step_28 N g H T x0 x1 x2 x3 x4 x5 s0 S) (hx : X (KF_X2_step_28 N g H T x0 x1 x2 x3 x4 x5 s0 S)) : R_ := by
  unfold KO_X2_step_28 at ok
  unfold KF_X2_step_28 at hx
  refine pif_p ok (fun c_32 => ?_) (fun c_32 => ?_)
  · have ok := ok.1 c_32
    have hx := xif_p c_32 hx
    exact k5b_X2_step_57 hR hS hM  ok hx
  · have ok := ok.2 c_32
    have hx := xif_n c_32 hx
    have ok := ok.2
    refine pif_p ok (fun c_44 => ?_) (fun c_44 => ?_)
    · have ok := ok.1 c_44
      have hx := xif_p c_44 hx
      exact k5b_X2_step_57 hR hS hM  ok hx
    · have ok := ok.2 c_44
      have hx := xif_n c_44 hx
      refine pif_p ok (fun c_49 => ?_) (fun c_49 => ?_)
      · have ok := ok.1 c_49
        have hx := xif_p c_49 hx
        exact k5b_X2_step_57 hR hS hM  ok hx
      · have ok := ok.2 c_49
        have hx := xif_n c_49 hx
        refine pif_p ok (fun c_54 => ?_) (fun c_54 => ?_)
        · have ok := ok.1 c_54
          have hx := xif_p c_54 hx
          refine pif_p ok (fun c_63 => ?_) (fun c_63 => ?_)
          · have ok := ok.1 c_63
            have hx := xif_p c_63 hx
            refine pif_p ok (fun c_81 => ?_) (fun c_81 => ?_)
            · have ok := ok.1 c_81
              have hx := xif_p c_81 hx
              exact k5b_X2_step_89 hR hS hM t_x0 t_x3 t_x3 ok hx
            · have ok := ok.2 c_81
              have hx := xif_n c_81 hx
              exact k5b_X2_step_89 hR hS hM t_x0 t_x3 t_x3 ok hx
          · have ok := ok.2 c_63
            have hx := xif_n c_63 hx
            have hS := hS.Ab (za x3) x4.toNatClampNeg (nI 0)
            have hM := hM.A (za x3) x4.toNatClampNeg ((nI 0).toInt8.toInt32)
            have ok := ok.2
            exact hR _ _ hS hM hx
        · have ok := ok.2 c_54
          have hx := xif_n c_54 hx
          exact k5b_X2_step_57 hR hS hM  ok hx
set_option maxRecDepth 100000 in
set_option maxHeartbeats 4000000 in
theorem k5b_X2_step_12 {u g H T N : Nat} {S : cS} {S0 : cS} {R_ : Prop} {X : Int32 × cS → Prop} (hR : ∀ v S', St u g H T S' → M5 g H S0 S' → X (v, S') → R_) {x0 : Nat} {x1 : Int32} {x2 : Int32} {x3 : Option Nat} {x4 : Int32} {s0 : Int32} (hS : St u g H T S) (hM : M5 g H S0 S) (t_x0 : isO g H 2 x0) (t_x3 : tK S 20 x3) (ok : KO_X2_step_12 N g H T x0 x1 x2 x3 x4 s0 S) (hx : X (KF_X2_step_12 N g H T x0 x1 x2 x3 x4 s0 S)) : R_ := by
  unfold KO_X2_step_12 at ok
  unfold KF_X2_step_12 at hx
  refine pif_p ok (fun c_16 => ?_) (fun c_16 => ?_)
  · have ok := ok.1 c_16
    have hx := xif_p c_16 hx
    exact k5b_X2_step_28 hR hS hM t_x0 t_x3 ok hx
  · have ok := ok.2 c_16
    have hx := xif_n c_16 hx
    exact k5b_X2_step_28 hR hS hM t_x0 t_x3 ok hx
set_option maxRecDepth 100000 in
set_option maxHeartbeats 4000000 in
theorem k5b_X2_step_0 {u g H T N : Nat} {S : cS} {S0 : cS} {R_ : Prop} {X : Int32 × cS → Prop} (hR : ∀ v S', St u g H T S' → M5 g H S0 S' → X (v, S') → R_) {x0 : Nat} {x1 : Int32} {x2 : Int32} {x3 : Option Nat} {x4 : Int32} (hS : St u g H T S) (hM : M5 g H S0 S) (t_x0 : isO g H 2 x0) (t_x3 : tK S 20 x3) (ok : KO_X2_step_0 N g H T x0 x1 x2 x3 x4 S) (hx : X (KF_X2_step_0 N g H T x0 x1 x2 x3 x4 S)) : R_ := by
  unfold KO_X2_step_0 at ok
  unfold KF_X2_step_0 at hx
  refine pif_n ok (fun c_4 => ?_) (fun c_4 => ?_)
  · have ok := ok.2 c_4
    have hx := xif_n c_4 hx
    exact k5b_X2_step_12 hR hS hM t_x0 t_x3 ok hx
  · have ok := ok.1 c_4
    have hx := xif_p c_4 hx
    exact k5b_X2_step_12 hR hS hM t_x0 t_x3 ok hx
set_option maxRecDepth 100000 in
set_option maxHeartbeats 4000000 in
theorem k5c_X2_step {u g H T N : Nat} {S : cS} {a0 : Nat} {x1 : Int32} {x2 : Int32} {x3 : Option Nat} {x4 : Int32} (hS : St u g H T S) (t_x0 : isO g H 2 a0) (t_x3 : tK S 20 x3) (ok : p_X2_step N g H T S a0 x1 x2 x3 x4) : St u g H T (k_X2_step N g H T S a0 x1 x2 x3 x4).2 ∧ M5 g H S (k_X2_step N g H T S a0 x1 x2 x3 x4).2 := by
  exact k5b_X2_step_0 (X := fun F => F = k_X2_step N g H T S a0 x1 x2 x3 x4) (fun v S' h1 h2 h => by rw [← h]; exact ⟨h1, h2⟩) hS M5.rfl' t_x0 t_x3 ok rfl
set_option maxRecDepth 100000 in
set_option maxHeartbeats 4000000 in
theorem k5b_X2_climb_152 {u g H T N : Nat} {S : cS} {S0 : cS} {R_ : Prop} {X : Int32 × cS → Prop} (hR : ∀ v S', St u g H T S' → M5 g H S0 S' → X (v, S') → R_) {x3 : Int32} {x5 : Int32} (hS : St u g H T S) (hM : M5 g H S0 S) (ok : KO_X2_climb_152 N g H T x3 x5 S) (hx : X (KF_X2_climb_152 N g H T x3 x5 S)) : R_ := by
  unfold KO_X2_climb_152 at ok
  unfold KF_X2_climb_152 at hx
  exact hR _ _ hS hM hx
set_option maxRecDepth 100000 in
set_option maxHeartbeats 4000000 in
theorem k5b_X2_climb_141 {u g H T N : Nat} {S : cS} {S0 : cS} {R_ : Prop} {X : Nat × Int32 × Int32 × cS → Prop} (hX0 : ∀ (x3 : Int32) (x5 : Int32) (S' : cS), St u g H T S' → M5 g H S0 S' → X (0, x3, x5, S') → R_) {rec : Nat → Option Nat → Int32 → Int32 → Int32 → Int32 → cS → Nat × Int32 × Int32 × cS} {rok : Nat → Option Nat → Int32 → Int32 → Int32 → Int32 → cS → Prop} (hrec : ∀ (x0 : Nat) (x2 : Option Nat) (x3 : Int32) (x4 : Int32) (x5 : Int32) (x6 : Int32) (S : cS), St u g H T S → M5 g H S0 S → isO g H 2 x0 → tK S 20 x2 → rok x0 x2 x3 x4 x5 x6 S → X (rec x0 x2 x3 x4 x5 x6 S) → R_) {x0 : Nat} {x2 : Option Nat} {x3 : Int32} {x4 : Int32} {x5 : Int32} {x6 : Int32} (hS : St u g H T S) (hM : M5 g H S0 S) (t_x0 : isO g H 2 x0) (t_x2 : tK S 20 x2) (ok : KO_X2_climb_141 N g H T rok x0 x2 x3 x4 x5 x6 S) (hx : X (KF_X2_climb_141 N g H T rec x0 x2 x3 x4 x5 x6 S)) : R_ := by
  unfold KO_X2_climb_141 at ok
  unfold KF_X2_climb_141 at hx
  exact hrec _ _ _ _ _ _ S hS hM t_x0 t_x2 ok hx
set_option maxRecDepth 100000 in
set_option maxHeartbeats 4000000 in
theorem k5b_X2_climb_106 {u g H T N : Nat} {S : cS} {S0 : cS} {R_ : Prop} {X : Nat × Int32 × Int32 × cS → Prop} (hX0 : ∀ (x3 : Int32) (x5 : Int32) (S' : cS), St u g H T S' → M5 g H S0 S' → X (0, x3, x5, S') → R_) {rec : Nat → Option Nat → Int32 → Int32 → Int32 → Int32 → cS → Nat × Int32 × Int32 × cS} {rok : Nat → Option Nat → Int32 → Int32 → Int32 → Int32 → cS → Prop} (hrec : ∀ (x0 : Nat) (x2 : Option Nat) (x3 : Int32) (x4 : Int32) (x5 : Int32) (x6 : Int32) (S : cS), St u g H T S → M5 g H S0 S → isO g H 2 x0 → tK S 20 x2 → rok x0 x2 x3 x4 x5 x6 S → X (rec x0 x2 x3 x4 x5 x6 S) → R_) {x0 : Nat} {x2 : Option Nat} {x3 : Int32} {x4 : Int32} {x5 : Int32} {x6 : Int32} (hS : St u g H T S) (hM : M5 g H S0 S) (t_x0 : isO g H 2 x0) (t_x2 : tK S 20 x2) (ok : KO_X2_climb_106 N g H T rok x0 x2 x3 x4 x5 x6 S) (hx : X (KF_X2_climb_106 N g H T rec x0 x2 x3 x4 x5 x6 S)) : R_ := by
  unfold KO_X2_climb_106 at ok
  unfold KF_X2_climb_106 at hx
  refine pif_n ok (fun c_111 => ?_) (fun c_111 => ?_)
  · have ok := ok.2 c_111
    have hx := xif_n c_111 hx
    exact k5b_X2_climb_141 hX0 hrec hS hM t_x0 t_x2 ok hx
  · have ok := ok.1 c_111
    have hx := xif_p c_111 hx
    have tq_138 : tK S 20 (some (x0 + 4)) := tK_some (tK.cis (hS.rk (c := 2) (k := 3) t_x0 rfl (by omega)) (Option.some_ne_none _)).2
    have hS := hS.Ac (x0 + 4) (x0 + 4) ((x6 - (nI 1)) * (nI 32)).toNatClampNeg ((x6 / (nI 2)) * (nI 32)).toNatClampNeg (nI 32).toNatClampNeg tq_138
    have hM := hM.Ar (x0 + 4) (va_cpy (cA S (x0 + 4)) (cA S (x0 + 4)) ((x6 - (nI 1)) * (nI 32)).toNatClampNeg ((x6 / (nI 2)) * (nI 32)).toNatClampNeg (nI 32).toNatClampNeg)
    have ok := ok.2
    exact k5b_X2_climb_141 hX0 hrec hS hM t_x0 (tK_Ar t_x2) ok hx
set_option maxRecDepth 100000 in
set_option maxHeartbeats 4000000 in
theorem k5b_X2_climb_100 {u g H T N : Nat} {S : cS} {S0 : cS} {R_ : Prop} {X : Nat × Nat × Option Nat × Int32 × Int32 × Int32 × Int32 × cS → Prop} (hX0 : ∀ (x0 : Nat) (x2 : Option Nat) (x3 : Int32) (x4 : Int32) (x5 : Int32) (x6 : Int32) (S' : cS), St u g H T S' → M5 g H S0 S' → isO g H 2 x0 → tK S' 20 x2 → X (0, x0, x2, x3, x4, x5, x6, S') → R_) {rec : Nat → Option Nat → Int32 → Int32 → Int32 → Int32 → Int32 → cS → Nat × Nat × Option Nat × Int32 × Int32 × Int32 × Int32 × cS} {rok : Nat → Option Nat → Int32 → Int32 → Int32 → Int32 → Int32 → cS → Prop} (hrec : ∀ (x0 : Nat) (x2 : Option Nat) (x3 : Int32) (x4 : Int32) (x5 : Int32) (x6 : Int32) (x7 : Int32) (S : cS), St u g H T S → M5 g H S0 S → isO g H 2 x0 → tK S 20 x2 → rok x0 x2 x3 x4 x5 x6 x7 S → X (rec x0 x2 x3 x4 x5 x6 x7 S) → R_) {x0 : Nat} {x2 : Option Nat} {x3 : Int32} {x4 : Int32} {x5 : Int32} {x6 : Int32} {x7 : Int32} (hS : St u g H T S) (hM : M5 g H S0 S) (t_x0 : isO g H 2 x0) (t_x2 : tK S 20 x2) (ok : KO_X2_climb_100 N g H T rok x0 x2 x3 x4 x5 x6 x7 S) (hx : X (KF_X2_climb_100 N g H T rec x0 x2 x3 x4 x5 x6 x7 S)) : R_ := by
  unfold KO_X2_climb_100 at ok
  unfold KF_X2_climb_100 at hx
  exact hrec _ _ _ _ _ _ _ S hS hM t_x0 t_x2 ok hx
set_option maxRecDepth 100000 in
set_option maxHeartbeats 4000000 in
theorem k5b_X2_climb_87 {u g H T N : Nat} {S : cS} {S0 : cS} {R_ : Prop} {X : Nat × Nat × Option Nat × Int32 × Int32 × Int32 × Int32 × cS → Prop} (hX0 : ∀ (x0 : Nat) (x2 : Option Nat) (x3 : Int32) (x4 : Int32) (x5 : Int32) (x6 : Int32) (S' : cS), St u g H T S' → M5 g H S0 S' → isO g H 2 x0 → tK S' 20 x2 → X (0, x0, x2, x3, x4, x5, x6, S') → R_) {rec : Nat → Option Nat → Int32 → Int32 → Int32 → Int32 → Int32 → cS → Nat × Nat × Option Nat × Int32 × Int32 × Int32 × Int32 × cS} {rok : Nat → Option Nat → Int32 → Int32 → Int32 → Int32 → Int32 → cS → Prop} (hrec : ∀ (x0 : Nat) (x2 : Option Nat) (x3 : Int32) (x4 : Int32) (x5 : Int32) (x6 : Int32) (x7 : Int32) (S : cS), St u g H T S → M5 g H S0 S → isO g H 2 x0 → tK S 20 x2 → rok x0 x2 x3 x4 x5 x6 x7 S → X (rec x0 x2 x3 x4 x5 x6 x7 S) → R_) {x0 : Nat} {x2 : Option Nat} {x3 : Int32} {x4 : Int32} {x5 : Int32} {x6 : Int32} {x7 : Int32} (hS : St u g H T S) (hM : M5 g H S0 S) (t_x0 : isO g H 2 x0) (t_x2 : tK S 20 x2) (ok : KO_X2_climb_87 N g H T rok x0 x2 x3 x4 x5 x6 x7 S) (hx : X (KF_X2_climb_87 N g H T rec x0 x2 x3 x4 x5 x6 x7 S)) : R_ := by
  unfold KO_X2_climb_87 at ok
  unfold KF_X2_climb_87 at hx
  obtain ⟨hS, hm_97⟩ := k5c_X2_close hS t_x0 (hS.rk (c := 2) (k := 3) t_x0 rfl (by omega)) ok.1
  have hM := hM.trans hm_97
  have ok := ok.2
  exact k5b_X2_climb_100 hX0 hrec hS hM t_x0 (hm_97.tK t_x2 (by decide)) ok hx
set_option maxRecDepth 100000 in
set_option maxHeartbeats 4000000 in
theorem k5b_X2_climb_63 {u g H T N : Nat} {S : cS} {S0 : cS} {R_ : Prop} {X : Nat × Nat × Option Nat × Int32 × Int32 × Int32 × Int32 × cS → Prop} (hX0 : ∀ (x0 : Nat) (x2 : Option Nat) (x3 : Int32) (x4 : Int32) (x5 : Int32) (x6 : Int32) (S' : cS), St u g H T S' → M5 g H S0 S' → isO g H 2 x0 → tK S' 20 x2 → X (0, x0, x2, x3, x4, x5, x6, S') → R_) {rec : Nat → Option Nat → Int32 → Int32 → Int32 → Int32 → Int32 → cS → Nat × Nat × Option Nat × Int32 × Int32 × Int32 × Int32 × cS} {rok : Nat → Option Nat → Int32 → Int32 → Int32 → Int32 → Int32 → cS → Prop} (hrec : ∀ (x0 : Nat) (x2 : Option Nat) (x3 : Int32) (x4 : Int32) (x5 : Int32) (x6 : Int32) (x7 : Int32) (S : cS), St u g H T S → M5 g H S0 S → isO g H 2 x0 → tK S 20 x2 → rok x0 x2 x3 x4 x5 x6 x7 S → X (rec x0 x2 x3 x4 x5 x6 x7 S) → R_) {x0 : Nat} {x2 : Option Nat} {x3 : Int32} {x4 : Int32} {x5 : Int32} {x6 : Int32} {x7 : Int32} (hS : St u g H T S) (hM : M5 g H S0 S) (t_x0 : isO g H 2 x0) (t_x2 : tK S 20 x2) (ok : KO_X2_climb_63 N g H T rok x0 x2 x3 x4 x5 x6 x7 S) (hx : X (KF_X2_climb_63 N g H T rec x0 x2 x3 x4 x5 x6 x7 S)) : R_ := by
  unfold KO_X2_climb_63 at ok
  unfold KF_X2_climb_63 at hx
  obtain ⟨hS, hm_84⟩ := k5c_X2_add_ hS t_x0 (hS.rk (c := 2) (k := 3) t_x0 rfl (by omega)) ok.1
  have hM := hM.trans hm_84
  have ok := ok.2
  exact k5b_X2_climb_87 hX0 hrec hS hM t_x0 (hm_84.tK t_x2 (by decide)) ok hx
set_option maxRecDepth 100000 in
set_option maxHeartbeats 4000000 in
theorem k5b_X2_climb_58 {u g H T N : Nat} {S : cS} {S0 : cS} {R_ : Prop} {X : Nat × Nat × Option Nat × Int32 × Int32 × Int32 × Int32 × cS → Prop} (hX0 : ∀ (x0 : Nat) (x2 : Option Nat) (x3 : Int32) (x4 : Int32) (x5 : Int32) (x6 : Int32) (S' : cS), St u g H T S' → M5 g H S0 S' → isO g H 2 x0 → tK S' 20 x2 → X (0, x0, x2, x3, x4, x5, x6, S') → R_) {rec : Nat → Option Nat → Int32 → Int32 → Int32 → Int32 → Int32 → cS → Nat × Nat × Option Nat × Int32 × Int32 × Int32 × Int32 × cS} {rok : Nat → Option Nat → Int32 → Int32 → Int32 → Int32 → Int32 → cS → Prop} (hrec : ∀ (x0 : Nat) (x2 : Option Nat) (x3 : Int32) (x4 : Int32) (x5 : Int32) (x6 : Int32) (x7 : Int32) (S : cS), St u g H T S → M5 g H S0 S → isO g H 2 x0 → tK S 20 x2 → rok x0 x2 x3 x4 x5 x6 x7 S → X (rec x0 x2 x3 x4 x5 x6 x7 S) → R_) {x0 : Nat} {x2 : Option Nat} {x3 : Int32} {x4 : Int32} {x5 : Int32} {x6 : Int32} {x7 : Int32} (hS : St u g H T S) (hM : M5 g H S0 S) (t_x0 : isO g H 2 x0) (t_x2 : tK S 20 x2) (ok : KO_X2_climb_58 N g H T rok x0 x2 x3 x4 x5 x6 x7 S) (hx : X (KF_X2_climb_58 N g H T rec x0 x2 x3 x4 x5 x6 x7 S)) : R_ := by
  unfold KO_X2_climb_58 at ok
  unfold KF_X2_climb_58 at hx
  obtain ⟨hS, hm_60⟩ := k5c_X2_add hS t_x0 ok.1
  have hM := hM.trans hm_60
  have ok := ok.2
  exact k5b_X2_climb_63 hX0 hrec hS hM t_x0 (hm_60.tK t_x2 (by decide)) ok hx
set_option maxRecDepth 100000 in
set_option maxHeartbeats 4000000 in
theorem k5bb_X2_climb_45 {u g H T N : Nat} {S : cS} {S0 : cS} {R_ : Prop} {X : Nat × Nat × Option Nat × Int32 × Int32 × Int32 × Int32 × cS → Prop} (hX0 : ∀ (x0 : Nat) (x2 : Option Nat) (x3 : Int32) (x4 : Int32) (x5 : Int32) (x6 : Int32) (S' : cS), St u g H T S' → M5 g H S0 S' → isO g H 2 x0 → tK S' 20 x2 → X (0, x0, x2, x3, x4, x5, x6, S') → R_) {rec : Nat → Option Nat → Int32 → Int32 → Int32 → Int32 → Int32 → cS → Nat × Nat × Option Nat × Int32 × Int32 × Int32 × Int32 × cS} {rok : Nat → Option Nat → Int32 → Int32 → Int32 → Int32 → Int32 → cS → Prop} (hrec : ∀ (x0 : Nat) (x2 : Option Nat) (x3 : Int32) (x4 : Int32) (x5 : Int32) (x6 : Int32) (x7 : Int32) (S : cS), St u g H T S → M5 g H S0 S → isO g H 2 x0 → tK S 20 x2 → rok x0 x2 x3 x4 x5 x6 x7 S → X (rec x0 x2 x3 x4 x5 x6 x7 S) → R_) {x0 : Nat} {x2 : Option Nat} {x3 : Int32} {x4 : Int32} {x5 : Int32} {x6 : Int32} {x7 : Int32} (hS : St u g H T S) (hM : M5 g H S0 S) (t_x0 : isO g H 2 x0) (t_x2 : tK S 20 x2) (ok : KOB_X2_climb_45 N g H T rok x0 x2 x3 x4 x5 x6 x7 S) (hx : X (KB_X2_climb_45 N g H T rec x0 x2 x3 x4 x5 x6 x7 S)) : R_ := by
  unfold KOB_X2_climb_45 at ok
  unfold KB_X2_climb_45 at hx
  refine pif_p ok (fun c_51 => ?_) (fun c_51 => ?_)
  · have ok := ok.1 c_51
    have hx := xif_p c_51 hx
    exact hX0 _ _ _ _ _ _ S hS hM t_x0 t_x2 hx
  · have ok := ok.2 c_51
    have hx := xif_n c_51 hx
    obtain ⟨hS, hm_55⟩ := k5c_X2_open hS t_x0 ok.1
    have hM := hM.trans hm_55
    have ok := ok.2
    exact k5b_X2_climb_58 hX0 hrec hS hM t_x0 (hm_55.tK t_x2 (by decide)) ok hx
set_option maxRecDepth 100000 in
set_option maxHeartbeats 4000000 in
theorem k5l_X2_climb_45 {u g H T N : Nat} {S0 : cS} {R_ : Prop} {X : Nat × Nat × Option Nat × Int32 × Int32 × Int32 × Int32 × cS → Prop} (hX0 : ∀ (x0 : Nat) (x2 : Option Nat) (x3 : Int32) (x4 : Int32) (x5 : Int32) (x6 : Int32) (S' : cS), St u g H T S' → M5 g H S0 S' → isO g H 2 x0 → tK S' 20 x2 → X (0, x0, x2, x3, x4, x5, x6, S') → R_) : ∀ (n : Nat) (x0 : Nat) (x2 : Option Nat) (x3 : Int32) (x4 : Int32) (x5 : Int32) (x6 : Int32) (x7 : Int32) (S : cS), St u g H T S → M5 g H S0 S → isO g H 2 x0 → tK S 20 x2 → KOL_X2_climb_45 N g H T n x0 x2 x3 x4 x5 x6 x7 S → X (KL_X2_climb_45 N g H T n x0 x2 x3 x4 x5 x6 x7 S) → R_ := by
  intro n
  induction n with
  | zero => intro x0 x2 x3 x4 x5 x6 x7 S hS hM t_x0 t_x2 ok; exact absurd ok id
  | succ n ih =>
    intro x0 x2 x3 x4 x5 x6 x7 S hS hM t_x0 t_x2 ok hx
    exact k5bb_X2_climb_45 hX0 (rec := KL_X2_climb_45 N g H T n) (rok := KOL_X2_climb_45 N g H T n) (fun x0 x2 x3 x4 x5 x6 x7 S hS hM t_x0 t_x2 ok hx => ih x0 x2 x3 x4 x5 x6 x7 S hS hM t_x0 t_x2 ok hx) hS hM t_x0 t_x2 ok hx
set_option maxRecDepth 100000 in
set_option maxHeartbeats 4000000 in
theorem k5d_X2_climb_45 {u g H T N : Nat} {S : cS} {S0 : cS} {R_ : Prop} {X : Nat × Int32 × Int32 × cS → Prop} (hX0 : ∀ (x3 : Int32) (x5 : Int32) (S' : cS), St u g H T S' → M5 g H S0 S' → X (0, x3, x5, S') → R_) {rec : Nat → Option Nat → Int32 → Int32 → Int32 → Int32 → cS → Nat × Int32 × Int32 × cS} {rok : Nat → Option Nat → Int32 → Int32 → Int32 → Int32 → cS → Prop} (hrec : ∀ (x0 : Nat) (x2 : Option Nat) (x3 : Int32) (x4 : Int32) (x5 : Int32) (x6 : Int32) (S : cS), St u g H T S → M5 g H S0 S → isO g H 2 x0 → tK S 20 x2 → rok x0 x2 x3 x4 x5 x6 S → X (rec x0 x2 x3 x4 x5 x6 S) → R_) {x0 : Nat} {x2 : Option Nat} {x3 : Int32} {x4 : Int32} {x5 : Int32} {x6 : Int32} {x7 : Int32} (hS : St u g H T S) (hM : M5 g H S0 S) (t_x0 : isO g H 2 x0) (t_x2 : tK S 20 x2) (ok : KOL_X2_climb_45 N g H T N x0 x2 x3 x4 x5 x6 x7 S ∧ KOA_X2_climb_45 N g H T rok x0 x2 x3 x4 x5 x6 x7 S (KL_X2_climb_45 N g H T N x0 x2 x3 x4 x5 x6 x7 S)) (hx : X (KA_X2_climb_45 N g H T rec x0 x2 x3 x4 x5 x6 x7 S (KL_X2_climb_45 N g H T N x0 x2 x3 x4 x5 x6 x7 S))) : R_ := by
  refine k5l_X2_climb_45 ?_ N x0 x2 x3 x4 x5 x6 x7 S hS hM t_x0 t_x2 ok.1 (X := fun z => KOA_X2_climb_45 N g H T rok x0 x2 x3 x4 x5 x6 x7 S z ∧ X (KA_X2_climb_45 N g H T rec x0 x2 x3 x4 x5 x6 x7 S z)) ⟨ok.2, hx⟩
  · intro x0' x2' x3' x4' x5' x6' S' hS hM t_x0 t_x2 hz
    obtain ⟨ok, hx⟩ := hz
    unfold KOA_X2_climb_45 at ok
    unfold KA_X2_climb_45 at hx
    exact k5b_X2_climb_106 hX0 hrec hS hM t_x0 t_x2 ok hx
set_option maxRecDepth 100000 in
set_option maxHeartbeats 4000000 in
theorem k5b_X2_climb_42 {u g H T N : Nat} {S : cS} {S0 : cS} {R_ : Prop} {X : Nat × Int32 × Int32 × cS → Prop} (hX0 : ∀ (x3 : Int32) (x5 : Int32) (S' : cS), St u g H T S' → M5 g H S0 S' → X (0, x3, x5, S') → R_) {rec : Nat → Option Nat → Int32 → Int32 → Int32 → Int32 → cS → Nat × Int32 × Int32 × cS} {rok : Nat → Option Nat → Int32 → Int32 → Int32 → Int32 → cS → Prop} (hrec : ∀ (x0 : Nat) (x2 : Option Nat) (x3 : Int32) (x4 : Int32) (x5 : Int32) (x6 : Int32) (S : cS), St u g H T S → M5 g H S0 S → isO g H 2 x0 → tK S 20 x2 → rok x0 x2 x3 x4 x5 x6 S → X (rec x0 x2 x3 x4 x5 x6 S) → R_) {x0 : Nat} {x2 : Option Nat} {x3 : Int32} {x4 : Int32} {x5 : Int32} {x6 : Int32} (hS : St u g H T S) (hM : M5 g H S0 S) (t_x0 : isO g H 2 x0) (t_x2 : tK S 20 x2) (ok : KO_X2_climb_42 N g H T rok x0 x2 x3 x4 x5 x6 S) (hx : X (KF_X2_climb_42 N g H T rec x0 x2 x3 x4 x5 x6 S)) : R_ := by
  unfold KO_X2_climb_42 at ok
  unfold KF_X2_climb_42 at hx
  exact k5d_X2_climb_45 hX0 hrec hS hM t_x0 t_x2 ok hx
set_option maxRecDepth 100000 in
set_option maxHeartbeats 4000000 in
theorem k5b_X2_climb_34 {u g H T N : Nat} {S : cS} {S0 : cS} {R_ : Prop} {X : Nat × Int32 × Int32 × cS → Prop} (hX0 : ∀ (x3 : Int32) (x5 : Int32) (S' : cS), St u g H T S' → M5 g H S0 S' → X (0, x3, x5, S') → R_) {rec : Nat → Option Nat → Int32 → Int32 → Int32 → Int32 → cS → Nat × Int32 × Int32 × cS} {rok : Nat → Option Nat → Int32 → Int32 → Int32 → Int32 → cS → Prop} (hrec : ∀ (x0 : Nat) (x2 : Option Nat) (x3 : Int32) (x4 : Int32) (x5 : Int32) (x6 : Int32) (S : cS), St u g H T S → M5 g H S0 S → isO g H 2 x0 → tK S 20 x2 → rok x0 x2 x3 x4 x5 x6 S → X (rec x0 x2 x3 x4 x5 x6 S) → R_) {x0 : Nat} {x2 : Option Nat} {x3 : Int32} {x4 : Int32} {x6 : Int32} {s0 : Int32} (hS : St u g H T S) (hM : M5 g H S0 S) (t_x0 : isO g H 2 x0) (t_x2 : tK S 20 x2) (ok : KO_X2_climb_34 N g H T rok x0 x2 x3 x4 x6 s0 S) (hx : X (KF_X2_climb_34 N g H T rec x0 x2 x3 x4 x6 s0 S)) : R_ := by
  unfold KO_X2_climb_34 at ok
  unfold KF_X2_climb_34 at hx
  exact k5b_X2_climb_42 hX0 hrec hS hM t_x0 t_x2 ok hx
set_option maxRecDepth 100000 in
set_option maxHeartbeats 4000000 in
theorem k5bb_X2_climb_12 {u g H T N : Nat} {S : cS} {S0 : cS} {R_ : Prop} {X : Nat × Int32 × Int32 × cS → Prop} (hX0 : ∀ (x3 : Int32) (x5 : Int32) (S' : cS), St u g H T S' → M5 g H S0 S' → X (0, x3, x5, S') → R_) {rec : Nat → Option Nat → Int32 → Int32 → Int32 → Int32 → cS → Nat × Int32 × Int32 × cS} {rok : Nat → Option Nat → Int32 → Int32 → Int32 → Int32 → cS → Prop} (hrec : ∀ (x0 : Nat) (x2 : Option Nat) (x3 : Int32) (x4 : Int32) (x5 : Int32) (x6 : Int32) (S : cS), St u g H T S → M5 g H S0 S → isO g H 2 x0 → tK S 20 x2 → rok x0 x2 x3 x4 x5 x6 S → X (rec x0 x2 x3 x4 x5 x6 S) → R_) {x0 : Nat} {x2 : Option Nat} {x3 : Int32} {x4 : Int32} {x5 : Int32} {x6 : Int32} (hS : St u g H T S) (hM : M5 g H S0 S) (t_x0 : isO g H 2 x0) (t_x2 : tK S 20 x2) (ok : KOB_X2_climb_12 N g H T rok x0 x2 x3 x4 x5 x6 S) (hx : X (KB_X2_climb_12 N g H T rec x0 x2 x3 x4 x5 x6 S)) : R_ := by
  unfold KOB_X2_climb_12 at ok
  unfold KB_X2_climb_12 at hx
  refine pif_p ok (fun c_15 => ?_) (fun c_15 => ?_)
  · have ok := ok.1 c_15
    have hx := xif_p c_15 hx
    exact hX0 _ _ S hS hM  hx
  · have ok := ok.2 c_15
    have hx := xif_n c_15 hx
    refine pif_p ok (fun c_20 => ?_) (fun c_20 => ?_)
    · have ok := ok.1 c_20
      have hx := xif_p c_20 hx
      exact k5b_X2_climb_42 hX0 hrec hS hM t_x0 t_x2 ok hx
    · have ok := ok.2 c_20
      have hx := xif_n c_20 hx
      obtain ⟨hS, hm_31⟩ := k5c_X2_step hS t_x0 t_x2 ok.1
      have hM := hM.trans hm_31
      have ok := ok.2
      exact k5b_X2_climb_34 hX0 hrec hS hM t_x0 (hm_31.tK t_x2 (by decide)) ok hx
set_option maxRecDepth 100000 in
set_option maxHeartbeats 4000000 in
theorem k5l_X2_climb_12 {u g H T N : Nat} {S0 : cS} {R_ : Prop} {X : Nat × Int32 × Int32 × cS → Prop} (hX0 : ∀ (x3 : Int32) (x5 : Int32) (S' : cS), St u g H T S' → M5 g H S0 S' → X (0, x3, x5, S') → R_) : ∀ (n : Nat) (x0 : Nat) (x2 : Option Nat) (x3 : Int32) (x4 : Int32) (x5 : Int32) (x6 : Int32) (S : cS), St u g H T S → M5 g H S0 S → isO g H 2 x0 → tK S 20 x2 → KOL_X2_climb_12 N g H T n x0 x2 x3 x4 x5 x6 S → X (KL_X2_climb_12 N g H T n x0 x2 x3 x4 x5 x6 S) → R_ := by
  intro n
  induction n with
  | zero => intro x0 x2 x3 x4 x5 x6 S hS hM t_x0 t_x2 ok; exact absurd ok id
  | succ n ih =>
    intro x0 x2 x3 x4 x5 x6 S hS hM t_x0 t_x2 ok hx
    exact k5bb_X2_climb_12 hX0 (rec := KL_X2_climb_12 N g H T n) (rok := KOL_X2_climb_12 N g H T n) (fun x0 x2 x3 x4 x5 x6 S hS hM t_x0 t_x2 ok hx => ih x0 x2 x3 x4 x5 x6 S hS hM t_x0 t_x2 ok hx) hS hM t_x0 t_x2 ok hx
set_option maxRecDepth 100000 in
set_option maxHeartbeats 4000000 in
theorem k5d_X2_climb_12 {u g H T N : Nat} {S : cS} {S0 : cS} {R_ : Prop} {X : Int32 × cS → Prop} (hR : ∀ v S', St u g H T S' → M5 g H S0 S' → X (v, S') → R_) {x0 : Nat} {x2 : Option Nat} {x3 : Int32} {x4 : Int32} {x5 : Int32} {x6 : Int32} (hS : St u g H T S) (hM : M5 g H S0 S) (t_x0 : isO g H 2 x0) (t_x2 : tK S 20 x2) (ok : KOL_X2_climb_12 N g H T N x0 x2 x3 x4 x5 x6 S ∧ KOA_X2_climb_12 N g H T x0 x2 x3 x4 x5 x6 S (KL_X2_climb_12 N g H T N x0 x2 x3 x4 x5 x6 S)) (hx : X (KA_X2_climb_12 N g H T x0 x2 x3 x4 x5 x6 S (KL_X2_climb_12 N g H T N x0 x2 x3 x4 x5 x6 S))) : R_ := by
  refine k5l_X2_climb_12 ?_ N x0 x2 x3 x4 x5 x6 S hS hM t_x0 t_x2 ok.1 (X := fun z => KOA_X2_climb_12 N g H T x0 x2 x3 x4 x5 x6 S z ∧ X (KA_X2_climb_12 N g H T x0 x2 x3 x4 x5 x6 S z)) ⟨ok.2, hx⟩
  · intro x3' x5' S' hS hM hz
    obtain ⟨ok, hx⟩ := hz
    unfold KOA_X2_climb_12 at ok
    unfold KA_X2_climb_12 at hx
    exact k5b_X2_climb_152 hR hS hM  ok hx
set_option maxRecDepth 100000 in
set_option maxHeartbeats 4000000 in
theorem k5b_X2_climb_0 {u g H T N : Nat} {S : cS} {S0 : cS} {R_ : Prop} {X : Int32 × cS → Prop} (hR : ∀ v S', St u g H T S' → M5 g H S0 S' → X (v, S') → R_) {x0 : Nat} {x1 : Int32} {x2 : Option Nat} {x3 : Int32} (hS : St u g H T S) (hM : M5 g H S0 S) (t_x0 : isO g H 2 x0) (t_x2 : tK S 20 x2) (ok : KO_X2_climb_0 N g H T x0 x1 x2 x3 S) (hx : X (KF_X2_climb_0 N g H T x0 x1 x2 x3 S)) : R_ := by
  unfold KO_X2_climb_0 at ok
  unfold KF_X2_climb_0 at hx
  exact k5d_X2_climb_12 hR hS hM t_x0 t_x2 ok hx
set_option maxRecDepth 100000 in
set_option maxHeartbeats 4000000 in
theorem k5c_X2_climb {u g H T N : Nat} {S : cS} {a0 : Nat} {x1 : Int32} {x2 : Option Nat} {x3 : Int32} (hS : St u g H T S) (t_x0 : isO g H 2 a0) (t_x2 : tK S 20 x2) (ok : p_X2_climb N g H T S a0 x1 x2 x3) : St u g H T (k_X2_climb N g H T S a0 x1 x2 x3).2 ∧ M5 g H S (k_X2_climb N g H T S a0 x1 x2 x3).2 := by
  exact k5b_X2_climb_0 (X := fun F => F = k_X2_climb N g H T S a0 x1 x2 x3) (fun v S' h1 h2 h => by rw [← h]; exact ⟨h1, h2⟩) hS M5.rfl' t_x0 t_x2 ok rfl
set_option maxRecDepth 100000 in
set_option maxHeartbeats 4000000 in
theorem k5b_X2_top_46 {u g H T N : Nat} {S : cS} {S0 : cS} {R_ : Prop} {X : cS → Prop} (hR : ∀ S', St u g H T S' → M5 g H S0 S' → X S' → R_) (hS : St u g H T S) (hM : M5 g H S0 S) (ok : KO_X2_top_46 N g H T S) (hx : X (KF_X2_top_46 N g H T S)) : R_ := by
  unfold KO_X2_top_46 at ok
  unfold KF_X2_top_46 at hx
  exact hR _ hS hM hx
set_option maxRecDepth 100000 in
set_option maxHeartbeats 4000000 in
theorem k5b_X2_top_31 {u g H T N : Nat} {S : cS} {S0 : cS} {R_ : Prop} {X : cS → Prop} (hR : ∀ S', St u g H T S' → M5 g H S0 S' → X S' → R_) (hS : St u g H T S) (hM : M5 g H S0 S) (ok : KO_X2_top_31 N g H T S) (hx : X (KF_X2_top_31 N g H T S)) : R_ := by
  unfold KO_X2_top_31 at ok
  unfold KF_X2_top_31 at hx
  exact k5b_X2_top_46 hR hS hM  ok hx
set_option maxRecDepth 100000 in
set_option maxHeartbeats 4000000 in
theorem k5b_X2_top_13 {u g H T N : Nat} {S : cS} {S0 : cS} {R_ : Prop} {X : cS → Prop} (hR : ∀ S', St u g H T S' → M5 g H S0 S' → X S' → R_) (hS : St u g H T S) (hM : M5 g H S0 S) (ok : KO_X2_top_13 N g H T S) (hx : X (KF_X2_top_13 N g H T S)) : R_ := by
  unfold KO_X2_top_13 at ok
  unfold KF_X2_top_13 at hx
  exact hR _ hS hM hx
set_option maxRecDepth 100000 in
set_option maxHeartbeats 4000000 in
theorem k5b_X2_top_0 {u g H T N : Nat} {S : cS} {S0 : cS} {R_ : Prop} {X : cS → Prop} (hR : ∀ S', St u g H T S' → M5 g H S0 S' → X S' → R_) {x0 : Nat} {x1 : Option Nat} {x2 : Int32} (hS : St u g H T S) (hM : M5 g H S0 S) (t_x0 : isO g H 2 x0) (t_x1 : tK S 20 x1) (ok : KO_X2_top_0 N g H T x0 x1 x2 S) (hx : X (KF_X2_top_0 N g H T x0 x1 x2 S)) : R_ := by
  unfold KO_X2_top_0 at ok
  unfold KF_X2_top_0 at hx
  refine pif_p ok (fun c_1 => ?_) (fun c_1 => ?_)
  · have ok := ok.1 c_1
    have hx := xif_p c_1 hx
    exact k5b_X2_top_13 hR hS hM  ok hx
  · have ok := ok.2 c_1
    have hx := xif_n c_1 hx
    have ok := ok.2
    refine pif_p ok (fun c_10 => ?_) (fun c_10 => ?_)
    · have ok := ok.1 c_10
      have hx := xif_p c_10 hx
      refine pif_n ok (fun c_18 => ?_) (fun c_18 => ?_)
      · have ok := ok.2 c_18
        have hx := xif_n c_18 hx
        have tq_43 : tK S 20 (some (x0 + 4)) := tK_some (tK.cis (hS.rk (c := 2) (k := 3) t_x0 rfl (by omega)) (Option.some_ne_none _)).2
        have hS := hS.Ac (za x1) (x0 + 4) (nI 0).toNatClampNeg x2.toNatClampNeg (nI 32).toNatClampNeg tq_43
        have hM := hM.Ar (za x1) (va_cpy (cA S (x0 + 4)) (cA S (za x1)) (nI 0).toNatClampNeg x2.toNatClampNeg (nI 32).toNatClampNeg)
        have ok := ok.2
        exact k5b_X2_top_46 hR hS hM  ok hx
      · have ok := ok.1 c_18
        have hx := xif_p c_18 hx
        obtain ⟨hS, hm_28⟩ := k5c_J7_fill_eb02e hS t_x1 ok.1
        have hM := hM.trans hm_28
        have ok := ok.2
        exact k5b_X2_top_31 hR hS hM  ok hx
    · have ok := ok.2 c_10
      have hx := xif_n c_10 hx
      exact k5b_X2_top_13 hR hS hM  ok hx
set_option maxRecDepth 100000 in
set_option maxHeartbeats 4000000 in
theorem k5c_X2_top {u g H T N : Nat} {S : cS} {a0 : Nat} {x1 : Option Nat} {x2 : Int32} (hS : St u g H T S) (t_x0 : isO g H 2 a0) (t_x1 : tK S 20 x1) (ok : p_X2_top N g H T S a0 x1 x2) : St u g H T (k_X2_top N g H T S a0 x1 x2) ∧ M5 g H S (k_X2_top N g H T S a0 x1 x2) := by
  exact k5b_X2_top_0 (X := fun F => F = k_X2_top N g H T S a0 x1 x2) (fun S' h1 h2 h => by rw [← h]; exact ⟨h1, h2⟩) hS M5.rfl' t_x0 t_x1 ok rfl

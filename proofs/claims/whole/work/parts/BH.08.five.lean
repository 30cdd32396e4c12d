set_option maxRecDepth 100000 in
set_option maxHeartbeats 4000000 in
theorem k5b_X9_drop_63 {u g H T N : Nat} {S : cS} {S0 : cS} {R_ : Prop} {X : cS → Prop} (hR : ∀ S', St u g H T S' → M5 g H S0 S' → X S' → R_) (hS : St u g H T S) (hM : M5 g H S0 S) (ok : KO_X9_drop_63 N g H T S) (hx : X (KF_X9_drop_63 N g H T S)) : R_ := by
  unfold KO_X9_drop_63 at ok
  unfold KF_X9_drop_63 at hx
  exact hR _ hS hM hx
set_option maxRecDepth 100000 in
set_option maxHeartbeats 4000000 in
theorem k5b_X9_drop_58 {u g H T N : Nat} {S : cS} {S0 : cS} {R_ : Prop} {X : cS → Prop} (hR : ∀ S', St u g H T S' → M5 g H S0 S' → X S' → R_) {x0 : Nat} {x1 : Option Nat} (hS : St u g H T S) (hM : M5 g H S0 S) (t_x0 : isO g H 7 x0) (t_x1 : tK S 5 x1) (ok : KO_X9_drop_58 N g H T x0 x1 S) (hx : X (KF_X9_drop_58 N g H T x0 x1 S)) : R_ := by
  unfold KO_X9_drop_58 at ok
  unfold KF_X9_drop_58 at hx
  have hS := hS.R7 t_x0 (k := 8) (by decide) t_x1
  have hM := hM.R 8 x0 x1
  exact k5b_X9_drop_63 hR hS hM  ok hx
set_option maxRecDepth 100000 in
set_option maxHeartbeats 4000000 in
theorem k5b_X9_drop_42 {u g H T N : Nat} {S : cS} {S0 : cS} {R_ : Prop} {X : cS → Prop} (hR : ∀ S', St u g H T S' → M5 g H S0 S' → X S' → R_) {x0 : Nat} {x1 : Option Nat} (hS : St u g H T S) (hM : M5 g H S0 S) (t_x0 : isO g H 7 x0) (t_x1 : tK S 5 x1) (ok : KO_X9_drop_42 N g H T x0 x1 S) (hx : X (KF_X9_drop_42 N g H T x0 x1 S)) : R_ := by
  unfold KO_X9_drop_42 at ok
  unfold KF_X9_drop_42 at hx
  have hS := hS.R7 t_x0 (k := 7) (by decide) t_x1
  have hM := hM.R 7 x0 x1
  exact k5b_X9_drop_63 hR hS hM  ok hx
set_option maxRecDepth 100000 in
set_option maxHeartbeats 4000000 in
theorem k5b_X9_drop_0 {u g H T N : Nat} {S : cS} {S0 : cS} {R_ : Prop} {X : cS → Prop} (hR : ∀ S', St u g H T S' → M5 g H S0 S' → X S' → R_) {x0 : Nat} {x1 : Option Nat} (hS : St u g H T S) (hM : M5 g H S0 S) (t_x0 : isO g H 7 x0) (t_x1 : tK S 5 x1) (ok : KO_X9_drop_0 N g H T x0 x1 S) (hx : X (KF_X9_drop_0 N g H T x0 x1 S)) : R_ := by
  unfold KO_X9_drop_0 at ok
  unfold KF_X9_drop_0 at hx
  refine pif_n ok (fun c_1 => ?_) (fun c_1 => ?_)
  · have ok := ok.2 c_1
    have hx := xif_n c_1 hx
    have hS := hS.I 3 (za x1) ((cI S 3 (za x1)) - (nI 1))
    have hM := hM.I 3 (za x1) ((cI S 3 (za x1)) - (nI 1))
    refine pif_p ok (fun c_19 => ?_) (fun c_19 => ?_)
    · have ok := ok.1 c_19
      have hx := xif_p c_19 hx
      have p_24 := hS.m0k (tK_I t_x1) c_1
      refine pif_n ok (fun c_31 => ?_) (fun c_31 => ?_)
      · have ok := ok.2 c_31
        have hx := xif_n c_31 hx
        have p_52 := hS.sk t_x0 (Or.inr rfl)
        have hS := hS.R4 ((tK_I t_x1) _ (za_of c_1)) p_52
        have hM := hM.R 6 (za x1) (cR (csI S 3 (za x1) ((cI S 3 (za x1)) - (nI 1))) 8 x0)
        exact k5b_X9_drop_58 hR hS hM t_x0 (tK_R (tK_I t_x1)) ok hx
      · have ok := ok.1 c_31
        have hx := xif_p c_31 hx
        have p_36 := hS.sk t_x0 (Or.inl rfl)
        have hS := hS.R4 ((tK_I t_x1) _ (za_of c_1)) p_36
        have hM := hM.R 6 (za x1) (cR (csI S 3 (za x1) ((cI S 3 (za x1)) - (nI 1))) 7 x0)
        exact k5b_X9_drop_42 hR hS hM t_x0 (tK_R (tK_I t_x1)) ok hx
    · have ok := ok.2 c_19
      have hx := xif_n c_19 hx
      exact hR _ hS hM hx
  · have ok := ok.1 c_1
    have hx := xif_p c_1 hx
    exact hR _ hS hM hx
set_option maxRecDepth 100000 in
set_option maxHeartbeats 4000000 in
theorem k5c_X9_drop {u g H T N : Nat} {S : cS} {a0 : Nat} {x1 : Option Nat} (hS : St u g H T S) (t_x0 : isO g H 7 a0) (t_x1 : tK S 5 x1) (ok : p_X9_drop N g H T S a0 x1) : St u g H T (k_X9_drop N g H T S a0 x1) ∧ M5 g H S (k_X9_drop N g H T S a0 x1) := by
  exact k5b_X9_drop_0 (X := fun F => F = k_X9_drop N g H T S a0 x1) (fun S' h1 h2 h => by rw [← h]; exact ⟨h1, h2⟩) hS M5.rfl' t_x0 t_x1 ok rfl
set_option maxRecDepth 100000 in
set_option maxHeartbeats 4000000 in
theorem k5b_X8_holdSnapshot_37 {u g H T N : Nat} {S : cS} {S0 : cS} {R_ : Prop} {X : Int32 × cS → Prop} (hR : ∀ v S', St u g H T S' → M5 g H S0 S' → X (v, S') → R_) {x0 : Nat} {x1 : Int32} {x2 : Option Nat} (hS : St u g H T S) (hM : M5 g H S0 S) (t_x0 : isO g H 6 x0) (t_x2 : tK S 5 x2) (ok : KO_X8_holdSnapshot_37 N g H T x0 x1 x2 S) (hx : X (KF_X8_holdSnapshot_37 N g H T x0 x1 x2 S)) : R_ := by
  unfold KO_X8_holdSnapshot_37 at ok
  unfold KF_X8_holdSnapshot_37 at hx
  have hS2 := hS.P24 (i := x1.toNatClampNeg) ((hS.rk (c := 6) (k := 8) t_x0 rfl (by omega)) _ rfl) t_x2
  have hS := hS2
  have hM := hM.P (x0 + 8) x1.toNatClampNeg x2
  have ok := ok.2
  exact hR _ _ hS hM hx
set_option maxRecDepth 100000 in
set_option maxHeartbeats 4000000 in
theorem k5b_X8_holdSnapshot_12 {u g H T N : Nat} {S : cS} {S0 : cS} {R_ : Prop} {X : Int32 × cS → Prop} (hR : ∀ v S', St u g H T S' → M5 g H S0 S' → X (v, S') → R_) (hS : St u g H T S) (hM : M5 g H S0 S) (ok : KO_X8_holdSnapshot_12 N g H T S) (hx : X (KF_X8_holdSnapshot_12 N g H T S)) : R_ := by
  unfold KO_X8_holdSnapshot_12 at ok
  unfold KF_X8_holdSnapshot_12 at hx
  exact hR _ _ hS hM hx
set_option maxRecDepth 100000 in
set_option maxHeartbeats 4000000 in
theorem k5b_X8_holdSnapshot_0 {u g H T N : Nat} {S : cS} {S0 : cS} {R_ : Prop} {X : Int32 × cS → Prop} (hR : ∀ v S', St u g H T S' → M5 g H S0 S' → X (v, S') → R_) {x0 : Nat} {x1 : Int32} {x2 : Option Nat} (hS : St u g H T S) (hM : M5 g H S0 S) (t_x0 : isO g H 6 x0) (t_x2 : tK S 5 x2) (ok : KO_X8_holdSnapshot_0 N g H T x0 x1 x2 S) (hx : X (KF_X8_holdSnapshot_0 N g H T x0 x1 x2 S)) : R_ := by
  unfold KO_X8_holdSnapshot_0 at ok
  unfold KF_X8_holdSnapshot_0 at hx
  refine pif_p ok (fun c_1 => ?_) (fun c_1 => ?_)
  · have ok := ok.1 c_1
    have hx := xif_p c_1 hx
    exact k5b_X8_holdSnapshot_12 hR hS hM  ok hx
  · have ok := ok.2 c_1
    have hx := xif_n c_1 hx
    refine pif_p ok (fun c_9 => ?_) (fun c_9 => ?_)
    · have ok := ok.1 c_9
      have hx := xif_p c_9 hx
      have nn_16 := ok.1
      have ok := ok.2
      have hS := hS.I 3 (za x2) ((cI S 3 (za x2)) + (nI 1))
      have hM := hM.I 3 (za x2) ((cI S 3 (za x2)) + (nI 1))
      have p_33 := hS.row24 (hS.rk (c := 6) (k := 8) t_x0 rfl (by omega)) x1.toNatClampNeg
      have ok := ok.2
      obtain ⟨hS, hm_34⟩ := k5c_X9_drop hS (o60 t_x0) p_33 ok.1
      have hM := hM.trans hm_34
      have ok := ok.2
      exact k5b_X8_holdSnapshot_37 hR hS hM t_x0 (hm_34.tK (tK_I t_x2) (by decide)) ok hx
    · have ok := ok.2 c_9
      have hx := xif_n c_9 hx
      exact k5b_X8_holdSnapshot_12 hR hS hM  ok hx
set_option maxRecDepth 100000 in
set_option maxHeartbeats 4000000 in
theorem k5c_X8_holdSnapshot {u g H T N : Nat} {S : cS} {a0 : Nat} {x1 : Int32} {x2 : Option Nat} (hS : St u g H T S) (t_x0 : isO g H 6 a0) (t_x2 : tK S 5 x2) (ok : p_X8_holdSnapshot N g H T S a0 x1 x2) : St u g H T (k_X8_holdSnapshot N g H T S a0 x1 x2).2 ∧ M5 g H S (k_X8_holdSnapshot N g H T S a0 x1 x2).2 := by
  exact k5b_X8_holdSnapshot_0 (X := fun F => F = k_X8_holdSnapshot N g H T S a0 x1 x2) (fun v S' h1 h2 h => by rw [← h]; exact ⟨h1, h2⟩) hS M5.rfl' t_x0 t_x2 ok rfl
set_option maxRecDepth 100000 in
set_option maxHeartbeats 4000000 in
theorem k5b_X4_fetch_137 {u g H T N : Nat} {S : cS} {S0 : cS} {R_ : Prop} {X : Int32 × cS → Prop} (hR : ∀ v S', St u g H T S' → M5 g H S0 S' → X (v, S') → R_) {x4 : Int32} (hS : St u g H T S) (hM : M5 g H S0 S) (ok : KO_X4_fetch_137 N g H T x4 S) (hx : X (KF_X4_fetch_137 N g H T x4 S)) : R_ := by
  unfold KO_X4_fetch_137 at ok
  unfold KF_X4_fetch_137 at hx
  exact hR _ _ hS hM hx
set_option maxRecDepth 100000 in
set_option maxHeartbeats 4000000 in
theorem k5b_X4_fetch_107 {u g H T N : Nat} {S : cS} {S0 : cS} {R_ : Prop} {X : Int32 × cS → Prop} (hR : ∀ v S', St u g H T S' → M5 g H S0 S' → X (v, S') → R_) {x0 : Nat} {x2 : Option Nat} {x3 : Int32} {x4 : Int32} {x5 : Int32} {x6 : Int32} (hS : St u g H T S) (hM : M5 g H S0 S) (t_x0 : isO g H 3 x0) (t_x2 : tK S 20 x2) (ok : KO_X4_fetch_107 N g H T x0 x2 x3 x4 x5 x6 S) (hx : X (KF_X4_fetch_107 N g H T x0 x2 x3 x4 x5 x6 S)) : R_ := by
  unfold KO_X4_fetch_107 at ok
  unfold KF_X4_fetch_107 at hx
  refine pif_p ok (fun c_111 => ?_) (fun c_111 => ?_)
  · have ok := ok.1 c_111
    have hx := xif_p c_111 hx
    exact k5b_X4_fetch_137 hR hS hM  ok hx
  · have ok := ok.2 c_111
    have hx := xif_n c_111 hx
    have p_122 := hS.row26 (hS.rk (c := 3) (k := 0) t_x0 rfl (by omega)) (x6 + (nI 1)).toNatClampNeg
    have ok := ok.2
    have tq_134 : tK S 20 (some (za (cP S (x0 + 1) (x6 + (nI 1)).toNatClampNeg))) := tK_some (tK.cis p_122 ok.1.2.1).2
    have hS := hS.Ac (za x2) (za (cP S (x0 + 1) (x6 + (nI 1)).toNatClampNeg)) (nI 0).toNatClampNeg (x3 + x5).toNatClampNeg (x4 - x5).toNatClampNeg tq_134
    have hM := hM.Ar (za x2) (va_cpy (cA S (za (cP S (x0 + 1) (x6 + (nI 1)).toNatClampNeg))) (cA S (za x2)) (nI 0).toNatClampNeg (x3 + x5).toNatClampNeg (x4 - x5).toNatClampNeg)
    have ok := ok.2
    exact k5b_X4_fetch_137 hR hS hM  ok hx
set_option maxRecDepth 100000 in
set_option maxHeartbeats 4000000 in
theorem k5b_X4_fetch_91 {u g H T N : Nat} {S : cS} {S0 : cS} {R_ : Prop} {X : Int32 × cS → Prop} (hR : ∀ v S', St u g H T S' → M5 g H S0 S' → X (v, S') → R_) {x0 : Nat} {x2 : Option Nat} {x3 : Int32} {x4 : Int32} {x5 : Int32} {x6 : Int32} (hS : St u g H T S) (hM : M5 g H S0 S) (t_x0 : isO g H 3 x0) (t_x2 : tK S 20 x2) (ok : KO_X4_fetch_91 N g H T x0 x2 x3 x4 x5 x6 S) (hx : X (KF_X4_fetch_91 N g H T x0 x2 x3 x4 x5 x6 S)) : R_ := by
  unfold KO_X4_fetch_91 at ok
  unfold KF_X4_fetch_91 at hx
  have p_97 := hS.row26 (hS.rk (c := 3) (k := 0) t_x0 rfl (by omega)) x6.toNatClampNeg
  have ok := ok.2
  have tq_104 : tK S 20 (some (za (cP S (x0 + 1) x6.toNatClampNeg))) := tK_some (tK.cis p_97 ok.1.2.1).2
  have hS := hS.Ac (za x2) (za (cP S (x0 + 1) x6.toNatClampNeg)) (nI 8).toNatClampNeg x3.toNatClampNeg x5.toNatClampNeg tq_104
  have hM := hM.Ar (za x2) (va_cpy (cA S (za (cP S (x0 + 1) x6.toNatClampNeg))) (cA S (za x2)) (nI 8).toNatClampNeg x3.toNatClampNeg x5.toNatClampNeg)
  have ok := ok.2
  exact k5b_X4_fetch_107 hR hS hM t_x0 (tK_Ar t_x2) ok hx
set_option maxRecDepth 100000 in
set_option maxHeartbeats 4000000 in
theorem k5b_X4_fetch_89 {u g H T N : Nat} {S : cS} {S0 : cS} {R_ : Prop} {X : Int32 × cS → Prop} (hR : ∀ v S', St u g H T S' → M5 g H S0 S' → X (v, S') → R_) (hS : St u g H T S) (hM : M5 g H S0 S) (ok : KO_X4_fetch_89 N g H T S) (hx : X (KF_X4_fetch_89 N g H T S)) : R_ := by
  unfold KO_X4_fetch_89 at ok
  unfold KF_X4_fetch_89 at hx
  exact hR _ _ hS hM hx
set_option maxRecDepth 100000 in
set_option maxHeartbeats 4000000 in
theorem k5b_X4_fetch_43 {u g H T N : Nat} {S : cS} {S0 : cS} {R_ : Prop} {X : Int32 × cS → Prop} (hR : ∀ v S', St u g H T S' → M5 g H S0 S' → X (v, S') → R_) (hS : St u g H T S) (hM : M5 g H S0 S) (ok : KO_X4_fetch_43 N g H T S) (hx : X (KF_X4_fetch_43 N g H T S)) : R_ := by
  unfold KO_X4_fetch_43 at ok
  unfold KF_X4_fetch_43 at hx
  exact hR _ _ hS hM hx
set_option maxRecDepth 100000 in
set_option maxHeartbeats 4000000 in
theorem k5b_X4_fetch_20 {u g H T N : Nat} {S : cS} {S0 : cS} {R_ : Prop} {X : Int32 × cS → Prop} (hR : ∀ v S', St u g H T S' → M5 g H S0 S' → X (v, S') → R_) (hS : St u g H T S) (hM : M5 g H S0 S) (ok : KO_X4_fetch_20 N g H T S) (hx : X (KF_X4_fetch_20 N g H T S)) : R_ := by
  unfold KO_X4_fetch_20 at ok
  unfold KF_X4_fetch_20 at hx
  exact hR _ _ hS hM hx
set_option maxRecDepth 100000 in
set_option maxHeartbeats 4000000 in
theorem k5b_X4_fetch_0 {u g H T N : Nat} {S : cS} {S0 : cS} {R_ : Prop} {X : Int32 × cS → Prop} (hR : ∀ v S', St u g H T S' → M5 g H S0 S' → X (v, S') → R_) {x0 : Nat} {x1 : Int32} {x2 : Option Nat} {x3 : Int32} (hS : St u g H T S) (hM : M5 g H S0 S) (t_x0 : isO g H 3 x0) (t_x2 : tK S 20 x2) (ok : KO_X4_fetch_0 N g H T x0 x1 x2 x3 S) (hx : X (KF_X4_fetch_0 N g H T x0 x1 x2 x3 S)) : R_ := by
  unfold KO_X4_fetch_0 at ok
  unfold KF_X4_fetch_0 at hx
  refine pif_p ok (fun c_2 => ?_) (fun c_2 => ?_)
  · have ok := ok.1 c_2
    have hx := xif_p c_2 hx
    exact k5b_X4_fetch_20 hR hS hM  ok hx
  · have ok := ok.2 c_2
    have hx := xif_n c_2 hx
    refine pif_p ok (fun c_8 => ?_) (fun c_8 => ?_)
    · have ok := ok.1 c_8
      have hx := xif_p c_8 hx
      exact k5b_X4_fetch_20 hR hS hM  ok hx
    · have ok := ok.2 c_8
      have hx := xif_n c_8 hx
      have ok := ok.2
      refine pif_n ok (fun c_17 => ?_) (fun c_17 => ?_)
      · have ok := ok.2 c_17
        have hx := xif_n c_17 hx
        have ok := ok.2
        refine pif_p ok (fun c_31 => ?_) (fun c_31 => ?_)
        · have ok := ok.1 c_31
          have hx := xif_p c_31 hx
          exact k5b_X4_fetch_43 hR hS hM  ok hx
        · have ok := ok.2 c_31
          have hx := xif_n c_31 hx
          have ok := ok.2
          refine pif_p ok (fun c_40 => ?_) (fun c_40 => ?_)
          · have ok := ok.1 c_40
            have hx := xif_p c_40 hx
            have ok := ok.2
            refine pif_p ok (fun c_68 => ?_) (fun c_68 => ?_)
            · have ok := ok.1 c_68
              have hx := xif_p c_68 hx
              exact k5b_X4_fetch_89 hR hS hM  ok hx
            · have ok := ok.2 c_68
              have hx := xif_n c_68 hx
              refine pif_p ok (fun c_75 => ?_) (fun c_75 => ?_)
              · have ok := ok.1 c_75
                have hx := xif_p c_75 hx
                exact k5b_X4_fetch_91 hR hS hM t_x0 t_x2 ok hx
              · have ok := ok.2 c_75
                have hx := xif_n c_75 hx
                have ok := ok.2
                refine pif_n ok (fun c_86 => ?_) (fun c_86 => ?_)
                · have ok := ok.2 c_86
                  have hx := xif_n c_86 hx
                  exact k5b_X4_fetch_91 hR hS hM t_x0 t_x2 ok hx
                · have ok := ok.1 c_86
                  have hx := xif_p c_86 hx
                  exact k5b_X4_fetch_89 hR hS hM  ok hx
          · have ok := ok.2 c_40
            have hx := xif_n c_40 hx
            exact k5b_X4_fetch_43 hR hS hM  ok hx
      · have ok := ok.1 c_17
        have hx := xif_p c_17 hx
        exact k5b_X4_fetch_20 hR hS hM  ok hx
set_option maxRecDepth 100000 in
set_option maxHeartbeats 4000000 in
theorem k5c_X4_fetch {u g H T N : Nat} {S : cS} {a0 : Nat} {x1 : Int32} {x2 : Option Nat} {x3 : Int32} (hS : St u g H T S) (t_x0 : isO g H 3 a0) (t_x2 : tK S 20 x2) (ok : p_X4_fetch N g H T S a0 x1 x2 x3) : St u g H T (k_X4_fetch N g H T S a0 x1 x2 x3).2 ∧ M5 g H S (k_X4_fetch N g H T S a0 x1 x2 x3).2 := by
  exact k5b_X4_fetch_0 (X := fun F => F = k_X4_fetch N g H T S a0 x1 x2 x3) (fun v S' h1 h2 h => by rw [← h]; exact ⟨h1, h2⟩) hS M5.rfl' t_x0 t_x2 ok rfl
set_option maxRecDepth 100000 in
set_option maxHeartbeats 4000000 in
theorem k5b_X6_decided_101 {u g H T N : Nat} {S : cS} {S0 : cS} {R_ : Prop} {X : Option Nat × cS → Prop} (hR : ∀ v S', St u g H T S' → M5 g H S0 S' → tK S' 5 v → X (v, S') → R_) {x0 : Option Nat} {x1 : Int32} (hS : St u g H T S) (hM : M5 g H S0 S) (t_x0 : tN g H x0) (ok : KO_X6_decided_101 N g H T x0 x1 S) (hx : X (KF_X6_decided_101 N g H T x0 x1 S)) : R_ := by
  unfold KO_X6_decided_101 at ok
  unfold KF_X6_decided_101 at hx
  have nn_102 := ok.1
  have ok := ok.2
  have p_108 := hS.row24 (hS.rk (c := 5) (k := 7) (tN.o t_x0 nn_102) rfl (by omega)) (x1 &&& (nI 3)).toNatClampNeg
  have ok := ok.2
  exact hR _ _ hS hM p_108 hx
set_option maxRecDepth 100000 in
set_option maxHeartbeats 4000000 in
theorem k5b_X6_decided_92 {u g H T N : Nat} {S : cS} {S0 : cS} {R_ : Prop} {X : Option Nat × cS → Prop} (hR : ∀ v S', St u g H T S' → M5 g H S0 S' → tK S' 5 v → X (v, S') → R_) {x0 : Option Nat} {x1 : Int32} {x3 : Option Nat} (hS : St u g H T S) (hM : M5 g H S0 S) (t_x0 : tN g H x0) (t_x3 : tK S 5 x3) (ok : KO_X6_decided_92 N g H T x0 x1 x3 S) (hx : X (KF_X6_decided_92 N g H T x0 x1 x3 S)) : R_ := by
  unfold KO_X6_decided_92 at ok
  unfold KF_X6_decided_92 at hx
  have nn_93 := ok.1
  have ok := ok.2
  have hS2 := hS.P24 (i := (x1 &&& (nI 3)).toNatClampNeg) ((hS.rk (c := 5) (k := 7) (tN.o t_x0 nn_93) rfl (by omega)) _ rfl) t_x3
  have hS := hS2
  have hM := hM.P ((za x0) + 13) (x1 &&& (nI 3)).toNatClampNeg x3
  have ok := ok.2
  exact k5b_X6_decided_101 hR hS hM t_x0 ok hx
set_option maxRecDepth 100000 in
set_option maxHeartbeats 4000000 in
theorem k5b_X6_decided_67 {u g H T N : Nat} {S : cS} {S0 : cS} {R_ : Prop} {X : Option Nat × cS → Prop} (hR : ∀ v S', St u g H T S' → M5 g H S0 S' → tK S' 5 v → X (v, S') → R_) {x0 : Option Nat} {x1 : Int32} {x2 : Int32} {s0 : Option Nat} (hS : St u g H T S) (hM : M5 g H S0 S) (t_x0 : tN g H x0) (t_s0 : tK S 5 s0) (ok : KO_X6_decided_67 N g H T x0 x1 x2 s0 S) (hx : X (KF_X6_decided_67 N g H T x0 x1 x2 s0 S)) : R_ := by
  unfold KO_X6_decided_67 at ok
  unfold KF_X6_decided_67 at hx
  have nn_69 := ok.1
  have p_69 := hS.m0k t_s0 ok.1
  have ok := ok.2
  have hS := hS.Ab ((za s0) + 2) (nI 0).toNatClampNeg (nI 4)
  have hM := hM.A ((za s0) + 2) (nI 0).toNatClampNeg ((nI 4).toInt8.toInt32)
  have ok := ok.2
  have nn_76 := ok.1
  have ok := ok.2
  have p_84 := hS.m0k (tK_A t_s0) nn_69
  have tq_89 : tK (csA S ((za s0) + 2) (nI 0).toNatClampNeg ((nI 4).toInt8.toInt32)) 20 (some (g + 28)) := tK_some (tK.cis (hS.rk (c := 8) (k := 10) (o50 (tN.o t_x0 nn_76)) rfl (by omega)) (Option.some_ne_none _)).2
  have hS := hS.Ac ((za s0) + 2) (g + 28) (nI 0).toNatClampNeg (nI 1).toNatClampNeg x2.toNatClampNeg tq_89
  have hM := hM.Ar ((za s0) + 2) (va_cpy (cA (csA S ((za s0) + 2) (nI 0).toNatClampNeg ((nI 4).toInt8.toInt32)) (g + 28)) (cA (csA S ((za s0) + 2) (nI 0).toNatClampNeg ((nI 4).toInt8.toInt32)) ((za s0) + 2)) (nI 0).toNatClampNeg (nI 1).toNatClampNeg x2.toNatClampNeg)
  have ok := ok.2
  exact k5b_X6_decided_92 hR hS hM t_x0 (tK_Ar (tK_A t_s0)) ok hx
set_option maxRecDepth 100000 in
set_option maxHeartbeats 4000000 in
theorem k5b_X6_decided_47 {u g H T N : Nat} {S : cS} {S0 : cS} {R_ : Prop} {X : Option Nat × cS → Prop} (hR : ∀ v S', St u g H T S' → M5 g H S0 S' → tK S' 5 v → X (v, S') → R_) {x0 : Option Nat} {x1 : Int32} {s0 : Int32} (hS : St u g H T S) (hM : M5 g H S0 S) (t_x0 : tN g H x0) (ok : KO_X6_decided_47 N g H T x0 x1 s0 S) (hx : X (KF_X6_decided_47 N g H T x0 x1 s0 S)) : R_ := by
  unfold KO_X6_decided_47 at ok
  unfold KF_X6_decided_47 at hx
  refine pif_p ok (fun c_49 => ?_) (fun c_49 => ?_)
  · have ok := ok.1 c_49
    have hx := xif_p c_49 hx
    have nn_55 := ok.1
    have ok := ok.2
    obtain ⟨hS, hm_64, tv_64⟩ := k5c_X9_fresh hS (o86 (o50 (tN.o t_x0 nn_55))) ok.1
    have hM := hM.trans hm_64
    have ok := ok.2
    exact k5b_X6_decided_67 hR hS hM t_x0 tv_64 ok hx
  · have ok := ok.2 c_49
    have hx := xif_n c_49 hx
    exact hR _ _ hS hM tK_none hx
set_option maxRecDepth 100000 in
set_option maxHeartbeats 4000000 in
theorem k5b_X6_decided_18 {u g H T N : Nat} {S : cS} {S0 : cS} {R_ : Prop} {X : Option Nat × cS → Prop} (hR : ∀ v S', St u g H T S' → M5 g H S0 S' → tK S' 5 v → X (v, S') → R_) (hS : St u g H T S) (hM : M5 g H S0 S) (ok : KO_X6_decided_18 N g H T S) (hx : X (KF_X6_decided_18 N g H T S)) : R_ := by
  unfold KO_X6_decided_18 at ok
  unfold KF_X6_decided_18 at hx
  exact hR _ _ hS hM tK_none hx
set_option maxRecDepth 100000 in
set_option maxHeartbeats 4000000 in
theorem k5b_X6_decided_0 {u g H T N : Nat} {S : cS} {S0 : cS} {R_ : Prop} {X : Option Nat × cS → Prop} (hR : ∀ v S', St u g H T S' → M5 g H S0 S' → tK S' 5 v → X (v, S') → R_) {x0 : Option Nat} {x1 : Int32} (hS : St u g H T S) (hM : M5 g H S0 S) (t_x0 : tN g H x0) (ok : KO_X6_decided_0 N g H T x0 x1 S) (hx : X (KF_X6_decided_0 N g H T x0 x1 S)) : R_ := by
  unfold KO_X6_decided_0 at ok
  unfold KF_X6_decided_0 at hx
  have nn_2 := ok.1
  have ok := ok.2
  refine pif_p ok (fun c_7 => ?_) (fun c_7 => ?_)
  · have ok := ok.1 c_7
    have hx := xif_p c_7 hx
    exact k5b_X6_decided_18 hR hS hM  ok hx
  · have ok := ok.2 c_7
    have hx := xif_n c_7 hx
    refine pif_p ok (fun c_15 => ?_) (fun c_15 => ?_)
    · have ok := ok.1 c_15
      have hx := xif_p c_15 hx
      have p_27 := hS.row24 (hS.rk (c := 5) (k := 7) (tN.o t_x0 nn_2) rfl (by omega)) (x1 &&& (nI 3)).toNatClampNeg
      have ok := ok.2
      refine pif_n ok (fun c_28 => ?_) (fun c_28 => ?_)
      · have ok := ok.2 c_28
        have hx := xif_n c_28 hx
        exact k5b_X6_decided_101 hR hS hM t_x0 ok hx
      · have ok := ok.1 c_28
        have hx := xif_p c_28 hx
        obtain ⟨hS, hm_44⟩ := k5c_X4_fetch hS (o52 (tN.o t_x0 nn_2)) (hS.rk (c := 8) (k := 10) (o50 (tN.o t_x0 nn_2)) rfl (by omega)) ok.1
        have hM := hM.trans hm_44
        have ok := ok.2
        exact k5b_X6_decided_47 hR hS hM t_x0 ok hx
    · have ok := ok.2 c_15
      have hx := xif_n c_15 hx
      exact k5b_X6_decided_18 hR hS hM  ok hx
set_option maxRecDepth 100000 in
set_option maxHeartbeats 4000000 in
theorem k5c_X6_decided {u g H T N : Nat} {S : cS} {a0 : Nat} {x1 : Int32} (hS : St u g H T S) (t_x0 : isO g H 5 a0) (ok : p_X6_decided N g H T S a0 x1) : St u g H T (k_X6_decided N g H T S a0 x1).2 ∧ M5 g H S (k_X6_decided N g H T S a0 x1).2 ∧ tK (k_X6_decided N g H T S a0 x1).2 5 (k_X6_decided N g H T S a0 x1).1 := by
  exact k5b_X6_decided_0 (X := fun F => F = k_X6_decided N g H T S a0 x1) (fun v S' h1 h2 h3 h => by rw [← h]; exact ⟨h1, h2, h3⟩) hS M5.rfl' (tN_some t_x0) ok rfl
set_option maxRecDepth 100000 in
set_option maxHeartbeats 4000000 in
theorem k5b_X6_snapshot_101 {u g H T N : Nat} {S : cS} {S0 : cS} {R_ : Prop} {X : Option Nat × cS → Prop} (hR : ∀ v S', St u g H T S' → M5 g H S0 S' → tK S' 5 v → X (v, S') → R_) {x1 : Option Nat} (hS : St u g H T S) (hM : M5 g H S0 S) (t_x1 : tK S 5 x1) (ok : KO_X6_snapshot_101 N g H T x1 S) (hx : X (KF_X6_snapshot_101 N g H T x1 S)) : R_ := by
  unfold KO_X6_snapshot_101 at ok
  unfold KF_X6_snapshot_101 at hx
  exact hR _ _ hS hM t_x1 hx
set_option maxRecDepth 100000 in
set_option maxHeartbeats 4000000 in
theorem k5b_X6_snapshot_92 {u g H T N : Nat} {S : cS} {S0 : cS} {R_ : Prop} {X : Nat × Option Nat × cS → Prop} (hX0 : ∀ (x1 : Option Nat) (S' : cS), St u g H T S' → M5 g H S0 S' → tK S' 5 x1 → X (0, x1, S') → R_) {rec : Option Nat → Option Nat → Int32 → Int32 → cS → Nat × Option Nat × cS} {rok : Option Nat → Option Nat → Int32 → Int32 → cS → Prop} (hrec : ∀ (x0 : Option Nat) (x1 : Option Nat) (x2 : Int32) (x3 : Int32) (S : cS), St u g H T S → M5 g H S0 S → tN g H x0 → tK S 5 x1 → rok x0 x1 x2 x3 S → X (rec x0 x1 x2 x3 S) → R_) {x0 : Option Nat} {x1 : Option Nat} {x2 : Int32} {x3 : Int32} (hS : St u g H T S) (hM : M5 g H S0 S) (t_x0 : tN g H x0) (t_x1 : tK S 5 x1) (ok : KO_X6_snapshot_92 N g H T rok x0 x1 x2 x3 S) (hx : X (KF_X6_snapshot_92 N g H T rec x0 x1 x2 x3 S)) : R_ := by
  unfold KO_X6_snapshot_92 at ok
  unfold KF_X6_snapshot_92 at hx
  exact hrec _ _ _ _ S hS hM t_x0 t_x1 ok hx
set_option maxRecDepth 100000 in
set_option maxHeartbeats 4000000 in
theorem k5b_X6_snapshot_75 {u g H T N : Nat} {S : cS} {S0 : cS} {R_ : Prop} {X : Nat × Option Nat × cS → Prop} (hX0 : ∀ (x1 : Option Nat) (S' : cS), St u g H T S' → M5 g H S0 S' → tK S' 5 x1 → X (0, x1, S') → R_) {rec : Option Nat → Option Nat → Int32 → Int32 → cS → Nat × Option Nat × cS} {rok : Option Nat → Option Nat → Int32 → Int32 → cS → Prop} (hrec : ∀ (x0 : Option Nat) (x1 : Option Nat) (x2 : Int32) (x3 : Int32) (S : cS), St u g H T S → M5 g H S0 S → tN g H x0 → tK S 5 x1 → rok x0 x1 x2 x3 S → X (rec x0 x1 x2 x3 S) → R_) {x0 : Option Nat} {x1 : Option Nat} {x2 : Int32} {x3 : Int32} (hS : St u g H T S) (hM : M5 g H S0 S) (t_x0 : tN g H x0) (t_x1 : tK S 5 x1) (ok : KO_X6_snapshot_75 N g H T rok x0 x1 x2 x3 S) (hx : X (KF_X6_snapshot_75 N g H T rec x0 x1 x2 x3 S)) : R_ := by
  unfold KO_X6_snapshot_75 at ok
  unfold KF_X6_snapshot_75 at hx
  have nn_76 := ok.1
  have ok := ok.2
  have nn_84 := ok.1
  have p_84 := hS.m0k t_x1 ok.1
  have ok := ok.2
  have tq_89 : tK S 20 (some (g + 29)) := tK_some (tK.cis (hS.rk (c := 8) (k := 11) (o50 (tN.o t_x0 nn_76)) rfl (by omega)) (Option.some_ne_none _)).2
  have hS := hS.Ac ((za x1) + 2) (g + 29) (nI 1).toNatClampNeg x3.toNatClampNeg (nI 5).toNatClampNeg tq_89
  have hM := hM.Ar ((za x1) + 2) (va_cpy (cA S (g + 29)) (cA S ((za x1) + 2)) (nI 1).toNatClampNeg x3.toNatClampNeg (nI 5).toNatClampNeg)
  have ok := ok.2
  exact k5b_X6_snapshot_92 hX0 hrec hS hM t_x0 (tK_Ar t_x1) ok hx
set_option maxRecDepth 100000 in
set_option maxHeartbeats 4000000 in
theorem k5bb_X6_snapshot_53 {u g H T N : Nat} {S : cS} {S0 : cS} {R_ : Prop} {X : Nat × Option Nat × cS → Prop} (hX0 : ∀ (x1 : Option Nat) (S' : cS), St u g H T S' → M5 g H S0 S' → tK S' 5 x1 → X (0, x1, S') → R_) {rec : Option Nat → Option Nat → Int32 → Int32 → cS → Nat × Option Nat × cS} {rok : Option Nat → Option Nat → Int32 → Int32 → cS → Prop} (hrec : ∀ (x0 : Option Nat) (x1 : Option Nat) (x2 : Int32) (x3 : Int32) (S : cS), St u g H T S → M5 g H S0 S → tN g H x0 → tK S 5 x1 → rok x0 x1 x2 x3 S → X (rec x0 x1 x2 x3 S) → R_) {x0 : Option Nat} {x1 : Option Nat} {x2 : Int32} {x3 : Int32} (hS : St u g H T S) (hM : M5 g H S0 S) (t_x0 : tN g H x0) (t_x1 : tK S 5 x1) (ok : KOB_X6_snapshot_53 N g H T rok x0 x1 x2 x3 S) (hx : X (KB_X6_snapshot_53 N g H T rec x0 x1 x2 x3 S)) : R_ := by
  unfold KOB_X6_snapshot_53 at ok
  unfold KB_X6_snapshot_53 at hx
  refine pif_p ok (fun c_56 => ?_) (fun c_56 => ?_)
  · have ok := ok.1 c_56
    have hx := xif_p c_56 hx
    exact hX0 _ S hS hM t_x1 hx
  · have ok := ok.2 c_56
    have hx := xif_n c_56 hx
    have nn_60 := ok.1
    have ok := ok.2
    obtain ⟨hS, hm_72⟩ := k5c_X0_encode hS (o54 (tN.o t_x0 nn_60)) (hS.rk (c := 8) (k := 11) (o50 (tN.o t_x0 nn_60)) rfl (by omega)) ok.1
    have hM := hM.trans hm_72
    have ok := ok.2
    exact k5b_X6_snapshot_75 hX0 hrec hS hM t_x0 (hm_72.tK t_x1 (by decide)) ok hx
set_option maxRecDepth 100000 in
set_option maxHeartbeats 4000000 in
theorem k5l_X6_snapshot_53 {u g H T N : Nat} {S0 : cS} {R_ : Prop} {X : Nat × Option Nat × cS → Prop} (hX0 : ∀ (x1 : Option Nat) (S' : cS), St u g H T S' → M5 g H S0 S' → tK S' 5 x1 → X (0, x1, S') → R_) : ∀ (n : Nat) (x0 : Option Nat) (x1 : Option Nat) (x2 : Int32) (x3 : Int32) (S : cS), St u g H T S → M5 g H S0 S → tN g H x0 → tK S 5 x1 → KOL_X6_snapshot_53 N g H T n x0 x1 x2 x3 S → X (KL_X6_snapshot_53 N g H T n x0 x1 x2 x3 S) → R_ := by
  intro n
  induction n with
  | zero => intro x0 x1 x2 x3 S hS hM t_x0 t_x1 ok; exact absurd ok id
  | succ n ih =>
    intro x0 x1 x2 x3 S hS hM t_x0 t_x1 ok hx
    exact k5bb_X6_snapshot_53 hX0 (rec := KL_X6_snapshot_53 N g H T n) (rok := KOL_X6_snapshot_53 N g H T n) (fun x0 x1 x2 x3 S hS hM t_x0 t_x1 ok hx => ih x0 x1 x2 x3 S hS hM t_x0 t_x1 ok hx) hS hM t_x0 t_x1 ok hx
set_option maxRecDepth 100000 in
set_option maxHeartbeats 4000000 in
theorem k5d_X6_snapshot_53 {u g H T N : Nat} {S : cS} {S0 : cS} {R_ : Prop} {X : Option Nat × cS → Prop} (hR : ∀ v S', St u g H T S' → M5 g H S0 S' → tK S' 5 v → X (v, S') → R_) {x0 : Option Nat} {x1 : Option Nat} {x2 : Int32} {x3 : Int32} (hS : St u g H T S) (hM : M5 g H S0 S) (t_x0 : tN g H x0) (t_x1 : tK S 5 x1) (ok : KOL_X6_snapshot_53 N g H T N x0 x1 x2 x3 S ∧ KOA_X6_snapshot_53 N g H T x0 x1 x2 x3 S (KL_X6_snapshot_53 N g H T N x0 x1 x2 x3 S)) (hx : X (KA_X6_snapshot_53 N g H T x0 x1 x2 x3 S (KL_X6_snapshot_53 N g H T N x0 x1 x2 x3 S))) : R_ := by
  refine k5l_X6_snapshot_53 ?_ N x0 x1 x2 x3 S hS hM t_x0 t_x1 ok.1 (X := fun z => KOA_X6_snapshot_53 N g H T x0 x1 x2 x3 S z ∧ X (KA_X6_snapshot_53 N g H T x0 x1 x2 x3 S z)) ⟨ok.2, hx⟩
  · intro x1' S' hS hM t_x1 hz
    obtain ⟨ok, hx⟩ := hz
    unfold KOA_X6_snapshot_53 at ok
    unfold KA_X6_snapshot_53 at hx
    exact k5b_X6_snapshot_101 hR hS hM t_x1 ok hx
set_option maxRecDepth 100000 in
set_option maxHeartbeats 4000000 in
theorem k5b_X6_snapshot_48 {u g H T N : Nat} {S : cS} {S0 : cS} {R_ : Prop} {X : Option Nat × cS → Prop} (hR : ∀ v S', St u g H T S' → M5 g H S0 S' → tK S' 5 v → X (v, S') → R_) {x0 : Option Nat} {x1 : Option Nat} (hS : St u g H T S) (hM : M5 g H S0 S) (t_x0 : tN g H x0) (t_x1 : tK S 5 x1) (ok : KO_X6_snapshot_48 N g H T x0 x1 S) (hx : X (KF_X6_snapshot_48 N g H T x0 x1 S)) : R_ := by
  unfold KO_X6_snapshot_48 at ok
  unfold KF_X6_snapshot_48 at hx
  exact k5d_X6_snapshot_53 hR hS hM t_x0 t_x1 ok hx
set_option maxRecDepth 100000 in
set_option maxHeartbeats 4000000 in
theorem k5b_X6_snapshot_33 {u g H T N : Nat} {S : cS} {S0 : cS} {R_ : Prop} {X : Option Nat × cS → Prop} (hR : ∀ v S', St u g H T S' → M5 g H S0 S' → tK S' 5 v → X (v, S') → R_) {x0 : Option Nat} {x1 : Option Nat} (hS : St u g H T S) (hM : M5 g H S0 S) (t_x0 : tN g H x0) (t_x1 : tK S 5 x1) (ok : KO_X6_snapshot_33 N g H T x0 x1 S) (hx : X (KF_X6_snapshot_33 N g H T x0 x1 S)) : R_ := by
  unfold KO_X6_snapshot_33 at ok
  unfold KF_X6_snapshot_33 at hx
  have nn_34 := ok.1
  have ok := ok.2
  have nn_39 := ok.1
  have p_39 := hS.m0k t_x1 ok.1
  have ok := ok.2
  have tq_45 : tK S 20 (some ((za x0) + 11)) := tK_some (tK.cis (hS.rk (c := 5) (k := 5) (tN.o t_x0 nn_34) rfl (by omega)) (Option.some_ne_none _)).2
  have hS := hS.Ac ((za x1) + 2) ((za x0) + 11) (nI 0).toNatClampNeg (nI 3).toNatClampNeg (nI 32).toNatClampNeg tq_45
  have hM := hM.Ar ((za x1) + 2) (va_cpy (cA S ((za x0) + 11)) (cA S ((za x1) + 2)) (nI 0).toNatClampNeg (nI 3).toNatClampNeg (nI 32).toNatClampNeg)
  have ok := ok.2
  exact k5b_X6_snapshot_48 hR hS hM t_x0 (tK_Ar t_x1) ok hx
set_option maxRecDepth 100000 in
set_option maxHeartbeats 4000000 in
theorem k5b_X6_snapshot_12 {u g H T N : Nat} {S : cS} {S0 : cS} {R_ : Prop} {X : Option Nat × cS → Prop} (hR : ∀ v S', St u g H T S' → M5 g H S0 S' → tK S' 5 v → X (v, S') → R_) {x0 : Option Nat} {s0 : Option Nat} (hS : St u g H T S) (hM : M5 g H S0 S) (t_x0 : tN g H x0) (t_s0 : tK S 5 s0) (ok : KO_X6_snapshot_12 N g H T x0 s0 S) (hx : X (KF_X6_snapshot_12 N g H T x0 s0 S)) : R_ := by
  unfold KO_X6_snapshot_12 at ok
  unfold KF_X6_snapshot_12 at hx
  have nn_14 := ok.1
  have p_14 := hS.m0k t_s0 ok.1
  have ok := ok.2
  have hS := hS.Ab ((za s0) + 2) (nI 0).toNatClampNeg (nI 7)
  have hM := hM.A ((za s0) + 2) (nI 0).toNatClampNeg ((nI 7).toInt8.toInt32)
  have ok := ok.2
  have p_22 := hS.m0k (tK_A t_s0) nn_14
  have nn_27 := ok.1
  have ok := ok.2
  obtain ⟨hS, hm_30⟩ := k5c_X11_putTwo hS p_22 ok.1
  have hM := hM.trans hm_30
  have ok := ok.2
  exact k5b_X6_snapshot_33 hR hS hM t_x0 (hm_30.tK (tK_A t_s0) (by decide)) ok hx
set_option maxRecDepth 100000 in
set_option maxHeartbeats 4000000 in
theorem k5b_X6_snapshot_0 {u g H T N : Nat} {S : cS} {S0 : cS} {R_ : Prop} {X : Option Nat × cS → Prop} (hR : ∀ v S', St u g H T S' → M5 g H S0 S' → tK S' 5 v → X (v, S') → R_) {x0 : Option Nat} (hS : St u g H T S) (hM : M5 g H S0 S) (t_x0 : tN g H x0) (ok : KO_X6_snapshot_0 N g H T x0 S) (hx : X (KF_X6_snapshot_0 N g H T x0 S)) : R_ := by
  unfold KO_X6_snapshot_0 at ok
  unfold KF_X6_snapshot_0 at hx
  have nn_1 := ok.1
  have ok := ok.2
  obtain ⟨hS, hm_9, tv_9⟩ := k5c_X9_fresh hS (o86 (o50 (tN.o t_x0 nn_1))) ok.1
  have hM := hM.trans hm_9
  have ok := ok.2
  exact k5b_X6_snapshot_12 hR hS hM t_x0 tv_9 ok hx
set_option maxRecDepth 100000 in
set_option maxHeartbeats 4000000 in
theorem k5c_X6_snapshot {u g H T N : Nat} {S : cS} {a0 : Nat} (hS : St u g H T S) (t_x0 : isO g H 5 a0) (ok : p_X6_snapshot N g H T S a0) : St u g H T (k_X6_snapshot N g H T S a0).2 ∧ M5 g H S (k_X6_snapshot N g H T S a0).2 ∧ tK (k_X6_snapshot N g H T S a0).2 5 (k_X6_snapshot N g H T S a0).1 := by
  exact k5b_X6_snapshot_0 (X := fun F => F = k_X6_snapshot N g H T S a0) (fun v S' h1 h2 h3 h => by rw [← h]; exact ⟨h1, h2, h3⟩) hS M5.rfl' (tN_some t_x0) ok rfl
set_option maxRecDepth 100000 in
set_option maxHeartbeats 4000000 in
theorem k5b_X3_answerBelow_49 {u g H T N : Nat} {S : cS} {S0 : cS} {R_ : Prop} {X : cS → Prop} (hR : ∀ S', St u g H T S' → M5 g H S0 S' → X S' → R_) {x3 : Nat} {x5 : Option Nat} (hS : St u g H T S) (hM : M5 g H S0 S) (t_x3 : isO g H 7 x3) (t_x5 : tK S 5 x5) (ok : KO_X3_answerBelow_49 N g H T x3 x5 S) (hx : X (KF_X3_answerBelow_49 N g H T x3 x5 S)) : R_ := by
  unfold KO_X3_answerBelow_49 at ok
  unfold KF_X3_answerBelow_49 at hx
  obtain ⟨hS, hm_52⟩ := k5c_X9_drop hS t_x3 t_x5 ok.1
  have hM := hM.trans hm_52
  have ok := ok.2
  exact hR _ hS hM hx
set_option maxRecDepth 100000 in
set_option maxHeartbeats 4000000 in
theorem k5b_X3_answerBelow_36 {u g H T N : Nat} {S : cS} {S0 : cS} {R_ : Prop} {X : cS → Prop} (hR : ∀ S', St u g H T S' → M5 g H S0 S' → X S' → R_) {x0 : Option Nat} {x1 : Int32} {x3 : Nat} {s0 : Option Nat} (hS : St u g H T S) (hM : M5 g H S0 S) (t_x0 : tN g H x0) (t_x3 : isO g H 7 x3) (t_s0 : tK S 5 s0) (ok : KO_X3_answerBelow_36 N g H T x0 x1 x3 s0 S) (hx : X (KF_X3_answerBelow_36 N g H T x0 x1 x3 s0 S)) : R_ := by
  unfold KO_X3_answerBelow_36 at ok
  unfold KF_X3_answerBelow_36 at hx
  have nn_40 := ok.1
  have ok := ok.2
  obtain ⟨hS, hm_46⟩ := k5c_X9_post hS t_x3 t_s0 ok.1
  have hM := hM.trans hm_46
  have ok := ok.2
  exact k5b_X3_answerBelow_49 hR hS hM t_x3 (hm_46.tK t_s0 (by decide)) ok hx
set_option maxRecDepth 100000 in
set_option maxHeartbeats 4000000 in
theorem k5b_X3_answerBelow_13 {u g H T N : Nat} {S : cS} {S0 : cS} {R_ : Prop} {X : cS → Prop} (hR : ∀ S', St u g H T S' → M5 g H S0 S' → X S' → R_) {x0 : Option Nat} {x1 : Int32} {x3 : Nat} {s0 : Option Nat} (hS : St u g H T S) (hM : M5 g H S0 S) (t_x0 : tN g H x0) (t_x3 : isO g H 7 x3) (t_s0 : tK S 5 s0) (ok : KO_X3_answerBelow_13 N g H T x0 x1 x3 s0 S) (hx : X (KF_X3_answerBelow_13 N g H T x0 x1 x3 s0 S)) : R_ := by
  unfold KO_X3_answerBelow_13 at ok
  unfold KF_X3_answerBelow_13 at hx
  refine pif_p ok (fun c_17 => ?_) (fun c_17 => ?_)
  · have ok := ok.1 c_17
    have hx := xif_p c_17 hx
    have nn_33 := ok.1.1
    obtain ⟨hS, hm_33, tv_33⟩ := k5c_X6_snapshot hS (tN.o t_x0 nn_33) ok.1.2
    have hM := hM.trans hm_33
    have ok := ok.2
    exact k5b_X3_answerBelow_36 hR hS hM t_x0 t_x3 tv_33 ok hx
  · have ok := ok.2 c_17
    have hx := xif_n c_17 hx
    have nn_22 := ok.1
    have ok := ok.2
    obtain ⟨hS, hm_28⟩ := k5c_X9_post hS t_x3 t_s0 ok.1
    have hM := hM.trans hm_28
    have ok := ok.2
    exact hR _ hS hM hx
set_option maxRecDepth 100000 in
set_option maxHeartbeats 4000000 in
theorem k5b_X3_answerBelow_0 {u g H T N : Nat} {S : cS} {S0 : cS} {R_ : Prop} {X : cS → Prop} (hR : ∀ S', St u g H T S' → M5 g H S0 S' → X S' → R_) {x0 : Option Nat} {x1 : Int32} {x2 : Int32} (hS : St u g H T S) (hM : M5 g H S0 S) (t_x0 : tN g H x0) (ok : KO_X3_answerBelow_0 N g H T x0 x1 x2 S) (hx : X (KF_X3_answerBelow_0 N g H T x0 x1 x2 S)) : R_ := by
  unfold KO_X3_answerBelow_0 at ok
  unfold KF_X3_answerBelow_0 at hx
  have nn_1 := ok.1
  have ok := ok.2
  obtain ⟨hS, hm_10, tv_10⟩ := k5c_X6_decided hS (tN.o t_x0 nn_1) ok.1
  have hM := hM.trans hm_10
  have ok := ok.2
  exact k5b_X3_answerBelow_13 hR hS hM t_x0 (o86 (o50 (tN.o t_x0 nn_1))) tv_10 ok hx
set_option maxRecDepth 100000 in
set_option maxHeartbeats 4000000 in
theorem k5c_X3_answerBelow {u g H T N : Nat} {S : cS} {x0 : Option Nat} {x1 : Int32} {x2 : Int32} (hS : St u g H T S) (t_x0 : tN g H x0) (ok : p_X3_answerBelow N g H T S x0 x1 x2) : St u g H T (k_X3_answerBelow N g H T S x0 x1 x2) ∧ M5 g H S (k_X3_answerBelow N g H T S x0 x1 x2) := by
  exact k5b_X3_answerBelow_0 (X := fun F => F = k_X3_answerBelow N g H T S x0 x1 x2) (fun S' h1 h2 h => by rw [← h]; exact ⟨h1, h2⟩) hS M5.rfl' t_x0 ok rfl

set_option maxRecDepth 100000 in
set_option maxHeartbeats 4000000 in
theorem k5b_X2_plant_145 {u g H T N : Nat} {S : cS} {S0 : cS} {R_ : Prop} {X : cS → Prop} (hR : ∀ S', St u g H T S' → M5 g H S0 S' → X S' → R_) (hS : St u g H T S) (hM : M5 g H S0 S) (ok : KO_X2_plant_145 N g H T S) (hx : X (KF_X2_plant_145 N g H T S)) : R_ := by
  unfold KO_X2_plant_145 at ok
  unfold KF_X2_plant_145 at hx
  exact hR _ hS hM hx
set_option maxRecDepth 100000 in
set_option maxHeartbeats 4000000 in
theorem k5b_X2_plant_122 {u g H T N : Nat} {S : cS} {S0 : cS} {R_ : Prop} {X : Nat × cS → Prop} (hX0 : ∀ (S' : cS), St u g H T S' → M5 g H S0 S' → X (0, S') → R_) {rec : Nat → Option Nat → Int32 → Int32 → Int32 → Int32 → cS → Nat × cS} {rok : Nat → Option Nat → Int32 → Int32 → Int32 → Int32 → cS → Prop} (hrec : ∀ (x0 : Nat) (x1 : Option Nat) (x3 : Int32) (x4 : Int32) (x5 : Int32) (x6 : Int32) (S : cS), St u g H T S → M5 g H S0 S → isO g H 2 x0 → tK S 20 x1 → rok x0 x1 x3 x4 x5 x6 S → X (rec x0 x1 x3 x4 x5 x6 S) → R_) {x0 : Nat} {x1 : Option Nat} {x3 : Int32} {x4 : Int32} {x5 : Int32} {x6 : Int32} {x7 : Int32} (hS : St u g H T S) (hM : M5 g H S0 S) (t_x0 : isO g H 2 x0) (t_x1 : tK S 20 x1) (ok : KO_X2_plant_122 N g H T rok x0 x1 x3 x4 x5 x6 x7 S) (hx : X (KF_X2_plant_122 N g H T rec x0 x1 x3 x4 x5 x6 x7 S)) : R_ := by
  unfold KO_X2_plant_122 at ok
  unfold KF_X2_plant_122 at hx
  have hS0 := hS
  have hS := hS.I 5 x0 ((cI S 5 x0) + (nI 1))
  have hM := hM.I5 x0 ((cI S 5 x0) + (nI 1)) (ne5O hS0 t_x0 (by decide))
  exact hrec _ _ _ _ _ _ (csI S 5 x0 ((cI S 5 x0) + (nI 1))) hS hM t_x0 (tK_I t_x1) ok hx
set_option maxRecDepth 100000 in
set_option maxHeartbeats 4000000 in
theorem k5b_X2_plant_109 {u g H T N : Nat} {S : cS} {S0 : cS} {R_ : Prop} {X : Nat × cS → Prop} (hX0 : ∀ (S' : cS), St u g H T S' → M5 g H S0 S' → X (0, S') → R_) {rec : Nat → Option Nat → Int32 → Int32 → Int32 → Int32 → cS → Nat × cS} {rok : Nat → Option Nat → Int32 → Int32 → Int32 → Int32 → cS → Prop} (hrec : ∀ (x0 : Nat) (x1 : Option Nat) (x3 : Int32) (x4 : Int32) (x5 : Int32) (x6 : Int32) (S : cS), St u g H T S → M5 g H S0 S → isO g H 2 x0 → tK S 20 x1 → rok x0 x1 x3 x4 x5 x6 S → X (rec x0 x1 x3 x4 x5 x6 S) → R_) {x0 : Nat} {x1 : Option Nat} {x3 : Int32} {x4 : Int32} {x5 : Int32} {x6 : Int32} {x7 : Int32} (hS : St u g H T S) (hM : M5 g H S0 S) (t_x0 : isO g H 2 x0) (t_x1 : tK S 20 x1) (ok : KO_X2_plant_109 N g H T rok x0 x1 x3 x4 x5 x6 x7 S) (hx : X (KF_X2_plant_109 N g H T rec x0 x1 x3 x4 x5 x6 x7 S)) : R_ := by
  unfold KO_X2_plant_109 at ok
  unfold KF_X2_plant_109 at hx
  obtain ⟨hS, hm_119⟩ := k5c_X2_close hS t_x0 (hS.rk (c := 2) (k := 3) t_x0 rfl (by omega)) ok.1
  have hM := hM.trans hm_119
  have ok := ok.2
  exact k5b_X2_plant_122 hX0 hrec hS hM t_x0 (hm_119.tK t_x1 (by decide)) ok hx
set_option maxRecDepth 100000 in
set_option maxHeartbeats 4000000 in
theorem k5b_X2_plant_97 {u g H T N : Nat} {S : cS} {S0 : cS} {R_ : Prop} {X : Nat × cS → Prop} (hX0 : ∀ (S' : cS), St u g H T S' → M5 g H S0 S' → X (0, S') → R_) {rec : Nat → Option Nat → Int32 → Int32 → Int32 → Int32 → cS → Nat × cS} {rok : Nat → Option Nat → Int32 → Int32 → Int32 → Int32 → cS → Prop} (hrec : ∀ (x0 : Nat) (x1 : Option Nat) (x3 : Int32) (x4 : Int32) (x5 : Int32) (x6 : Int32) (S : cS), St u g H T S → M5 g H S0 S → isO g H 2 x0 → tK S 20 x1 → rok x0 x1 x3 x4 x5 x6 S → X (rec x0 x1 x3 x4 x5 x6 S) → R_) {x0 : Nat} {x1 : Option Nat} {x3 : Int32} {x4 : Int32} {x5 : Int32} {x6 : Int32} {x7 : Int32} (hS : St u g H T S) (hM : M5 g H S0 S) (t_x0 : isO g H 2 x0) (t_x1 : tK S 20 x1) (ok : KO_X2_plant_97 N g H T rok x0 x1 x3 x4 x5 x6 x7 S) (hx : X (KF_X2_plant_97 N g H T rec x0 x1 x3 x4 x5 x6 x7 S)) : R_ := by
  unfold KO_X2_plant_97 at ok
  unfold KF_X2_plant_97 at hx
  obtain ⟨hS, hm_106⟩ := k5c_X2_add_ hS t_x0 t_x1 ok.1
  have hM := hM.trans hm_106
  have ok := ok.2
  exact k5b_X2_plant_109 hX0 hrec hS hM t_x0 (hm_106.tK t_x1 (by decide)) ok hx
set_option maxRecDepth 100000 in
set_option maxHeartbeats 4000000 in
theorem k5b_X2_plant_92 {u g H T N : Nat} {S : cS} {S0 : cS} {R_ : Prop} {X : Nat × cS → Prop} (hX0 : ∀ (S' : cS), St u g H T S' → M5 g H S0 S' → X (0, S') → R_) {rec : Nat → Option Nat → Int32 → Int32 → Int32 → Int32 → cS → Nat × cS} {rok : Nat → Option Nat → Int32 → Int32 → Int32 → Int32 → cS → Prop} (hrec : ∀ (x0 : Nat) (x1 : Option Nat) (x3 : Int32) (x4 : Int32) (x5 : Int32) (x6 : Int32) (S : cS), St u g H T S → M5 g H S0 S → isO g H 2 x0 → tK S 20 x1 → rok x0 x1 x3 x4 x5 x6 S → X (rec x0 x1 x3 x4 x5 x6 S) → R_) {x0 : Nat} {x1 : Option Nat} {x3 : Int32} {x4 : Int32} {x5 : Int32} {x6 : Int32} {x7 : Int32} (hS : St u g H T S) (hM : M5 g H S0 S) (t_x0 : isO g H 2 x0) (t_x1 : tK S 20 x1) (ok : KO_X2_plant_92 N g H T rok x0 x1 x3 x4 x5 x6 x7 S) (hx : X (KF_X2_plant_92 N g H T rec x0 x1 x3 x4 x5 x6 x7 S)) : R_ := by
  unfold KO_X2_plant_92 at ok
  unfold KF_X2_plant_92 at hx
  obtain ⟨hS, hm_94⟩ := k5c_X2_add hS t_x0 ok.1
  have hM := hM.trans hm_94
  have ok := ok.2
  exact k5b_X2_plant_97 hX0 hrec hS hM t_x0 (hm_94.tK t_x1 (by decide)) ok hx
set_option maxRecDepth 100000 in
set_option maxHeartbeats 4000000 in
theorem k5b_X2_plant_86 {u g H T N : Nat} {S : cS} {S0 : cS} {R_ : Prop} {X : Nat × cS → Prop} (hX0 : ∀ (S' : cS), St u g H T S' → M5 g H S0 S' → X (0, S') → R_) {rec : Nat → Option Nat → Int32 → Int32 → Int32 → Int32 → cS → Nat × cS} {rok : Nat → Option Nat → Int32 → Int32 → Int32 → Int32 → cS → Prop} (hrec : ∀ (x0 : Nat) (x1 : Option Nat) (x3 : Int32) (x4 : Int32) (x5 : Int32) (x6 : Int32) (S : cS), St u g H T S → M5 g H S0 S → isO g H 2 x0 → tK S 20 x1 → rok x0 x1 x3 x4 x5 x6 S → X (rec x0 x1 x3 x4 x5 x6 S) → R_) {x0 : Nat} {x1 : Option Nat} {x3 : Int32} {x4 : Int32} {x5 : Int32} {x6 : Int32} {s0 : Int32} (hS : St u g H T S) (hM : M5 g H S0 S) (t_x0 : isO g H 2 x0) (t_x1 : tK S 20 x1) (ok : KO_X2_plant_86 N g H T rok x0 x1 x3 x4 x5 x6 s0 S) (hx : X (KF_X2_plant_86 N g H T rec x0 x1 x3 x4 x5 x6 s0 S)) : R_ := by
  unfold KO_X2_plant_86 at ok
  unfold KF_X2_plant_86 at hx
  obtain ⟨hS, hm_89⟩ := k5c_X2_open hS t_x0 ok.1
  have hM := hM.trans hm_89
  have ok := ok.2
  exact k5b_X2_plant_92 hX0 hrec hS hM t_x0 (hm_89.tK t_x1 (by decide)) ok hx
set_option maxRecDepth 100000 in
set_option maxHeartbeats 4000000 in
theorem k5bb_X2_plant_53 {u g H T N : Nat} {S : cS} {S0 : cS} {R_ : Prop} {X : Nat × cS → Prop} (hX0 : ∀ (S' : cS), St u g H T S' → M5 g H S0 S' → X (0, S') → R_) {rec : Nat → Option Nat → Int32 → Int32 → Int32 → Int32 → cS → Nat × cS} {rok : Nat → Option Nat → Int32 → Int32 → Int32 → Int32 → cS → Prop} (hrec : ∀ (x0 : Nat) (x1 : Option Nat) (x3 : Int32) (x4 : Int32) (x5 : Int32) (x6 : Int32) (S : cS), St u g H T S → M5 g H S0 S → isO g H 2 x0 → tK S 20 x1 → rok x0 x1 x3 x4 x5 x6 S → X (rec x0 x1 x3 x4 x5 x6 S) → R_) {x0 : Nat} {x1 : Option Nat} {x3 : Int32} {x4 : Int32} {x5 : Int32} {x6 : Int32} (hS : St u g H T S) (hM : M5 g H S0 S) (t_x0 : isO g H 2 x0) (t_x1 : tK S 20 x1) (ok : KOB_X2_plant_53 N g H T rok x0 x1 x3 x4 x5 x6 S) (hx : X (KB_X2_plant_53 N g H T rec x0 x1 x3 x4 x5 x6 S)) : R_ := by
  unfold KOB_X2_plant_53 at ok
  unfold KB_X2_plant_53 at hx
  refine pif_p ok (fun c_57 => ?_) (fun c_57 => ?_)
  · have ok := ok.1 c_57
    have hx := xif_p c_57 hx
    exact hX0 S hS hM  hx
  · have ok := ok.2 c_57
    have hx := xif_n c_57 hx
    refine pif_p ok (fun c_64 => ?_) (fun c_64 => ?_)
    · have ok := ok.1 c_64
      have hx := xif_p c_64 hx
      exact hX0 S hS hM  hx
    · have ok := ok.2 c_64
      have hx := xif_n c_64 hx
      refine pif_p ok (fun c_70 => ?_) (fun c_70 => ?_)
      · have ok := ok.1 c_70
        have hx := xif_p c_70 hx
        exact k5b_X2_plant_86 hX0 hrec hS hM t_x0 t_x1 ok hx
      · have ok := ok.2 c_70
        have hx := xif_n c_70 hx
        have ok := ok.2
        have ok := ok.2
        exact k5b_X2_plant_86 hX0 hrec hS hM t_x0 t_x1 ok hx
set_option maxRecDepth 100000 in
set_option maxHeartbeats 4000000 in
theorem k5l_X2_plant_53 {u g H T N : Nat} {S0 : cS} {R_ : Prop} {X : Nat × cS → Prop} (hX0 : ∀ (S' : cS), St u g H T S' → M5 g H S0 S' → X (0, S') → R_) : ∀ (n : Nat) (x0 : Nat) (x1 : Option Nat) (x3 : Int32) (x4 : Int32) (x5 : Int32) (x6 : Int32) (S : cS), St u g H T S → M5 g H S0 S → isO g H 2 x0 → tK S 20 x1 → KOL_X2_plant_53 N g H T n x0 x1 x3 x4 x5 x6 S → X (KL_X2_plant_53 N g H T n x0 x1 x3 x4 x5 x6 S) → R_ := by
  intro n
  induction n with
  | zero => intro x0 x1 x3 x4 x5 x6 S hS hM t_x0 t_x1 ok; exact absurd ok id
  | succ n ih =>
    intro x0 x1 x3 x4 x5 x6 S hS hM t_x0 t_x1 ok hx
    exact k5bb_X2_plant_53 hX0 (rec := KL_X2_plant_53 N g H T n) (rok := KOL_X2_plant_53 N g H T n) (fun x0 x1 x3 x4 x5 x6 S hS hM t_x0 t_x1 ok hx => ih x0 x1 x3 x4 x5 x6 S hS hM t_x0 t_x1 ok hx) hS hM t_x0 t_x1 ok hx
set_option maxRecDepth 100000 in
set_option maxHeartbeats 4000000 in
theorem k5d_X2_plant_53 {u g H T N : Nat} {S : cS} {S0 : cS} {R_ : Prop} {X : cS → Prop} (hR : ∀ S', St u g H T S' → M5 g H S0 S' → X S' → R_) {x0 : Nat} {x1 : Option Nat} {x3 : Int32} {x4 : Int32} {x5 : Int32} {x6 : Int32} (hS : St u g H T S) (hM : M5 g H S0 S) (t_x0 : isO g H 2 x0) (t_x1 : tK S 20 x1) (ok : KOL_X2_plant_53 N g H T N x0 x1 x3 x4 x5 x6 S ∧ KOA_X2_plant_53 N g H T x0 x1 x3 x4 x5 x6 S (KL_X2_plant_53 N g H T N x0 x1 x3 x4 x5 x6 S)) (hx : X (KA_X2_plant_53 N g H T x0 x1 x3 x4 x5 x6 S (KL_X2_plant_53 N g H T N x0 x1 x3 x4 x5 x6 S))) : R_ := by
  refine k5l_X2_plant_53 ?_ N x0 x1 x3 x4 x5 x6 S hS hM t_x0 t_x1 ok.1 (X := fun z => KOA_X2_plant_53 N g H T x0 x1 x3 x4 x5 x6 S z ∧ X (KA_X2_plant_53 N g H T x0 x1 x3 x4 x5 x6 S z)) ⟨ok.2, hx⟩
  · intro S' hS hM hz
    obtain ⟨ok, hx⟩ := hz
    unfold KOA_X2_plant_53 at ok
    unfold KA_X2_plant_53 at hx
    exact k5b_X2_plant_145 hR hS hM  ok hx
set_option maxRecDepth 100000 in
set_option maxHeartbeats 4000000 in
theorem k5b_X2_plant_18 {u g H T N : Nat} {S : cS} {S0 : cS} {R_ : Prop} {X : cS → Prop} (hR : ∀ S', St u g H T S' → M5 g H S0 S' → X S' → R_) (hS : St u g H T S) (hM : M5 g H S0 S) (ok : KO_X2_plant_18 N g H T S) (hx : X (KF_X2_plant_18 N g H T S)) : R_ := by
  unfold KO_X2_plant_18 at ok
  unfold KF_X2_plant_18 at hx
  exact hR _ hS hM hx
set_option maxRecDepth 100000 in
set_option maxHeartbeats 4000000 in
theorem k5b_X2_plant_0 {u g H T N : Nat} {S : cS} {S0 : cS} {R_ : Prop} {X : cS → Prop} (hR : ∀ S', St u g H T S' → M5 g H S0 S' → X S' → R_) {x0 : Nat} {x1 : Option Nat} {x2 : Int32} (hS : St u g H T S) (hM : M5 g H S0 S) (t_x0 : isO g H 2 x0) (t_x1 : tK S 20 x1) (ok : KO_X2_plant_0 N g H T x0 x1 x2 S) (hx : X (KF_X2_plant_0 N g H T x0 x1 x2 S)) : R_ := by
  unfold KO_X2_plant_0 at ok
  unfold KF_X2_plant_0 at hx
  have hS0 := hS
  have hS := hS.I 5 x0 (nI 0)
  have hM := hM.I5 x0 (nI 0) (ne5O hS0 t_x0 (by decide))
  refine pif_p ok (fun c_6 => ?_) (fun c_6 => ?_)
  · have ok := ok.1 c_6
    have hx := xif_p c_6 hx
    exact k5b_X2_plant_18 hR hS hM  ok hx
  · have ok := ok.2 c_6
    have hx := xif_n c_6 hx
    have ok := ok.2
    refine pif_p ok (fun c_15 => ?_) (fun c_15 => ?_)
    · have ok := ok.1 c_15
      have hx := xif_p c_15 hx
      have ok := ok.2
      have ok := ok.2
      exact k5d_X2_plant_53 hR hS hM t_x0 (tK_I t_x1) ok hx
    · have ok := ok.2 c_15
      have hx := xif_n c_15 hx
      exact k5b_X2_plant_18 hR hS hM  ok hx
set_option maxRecDepth 100000 in
set_option maxHeartbeats 4000000 in
theorem k5c_X2_plant {u g H T N : Nat} {S : cS} {a0 : Nat} {x1 : Option Nat} {x2 : Int32} (hS : St u g H T S) (t_x0 : isO g H 2 a0) (t_x1 : tK S 20 x1) (ok : p_X2_plant N g H T S a0 x1 x2) : St u g H T (k_X2_plant N g H T S a0 x1 x2) ∧ M5 g H S (k_X2_plant N g H T S a0 x1 x2) := by
  exact k5b_X2_plant_0 (X := fun F => F = k_X2_plant N g H T S a0 x1 x2) (fun S' h1 h2 h => by rw [← h]; exact ⟨h1, h2⟩) hS M5.rfl' t_x0 t_x1 ok rfl
set_option maxRecDepth 100000 in
set_option maxHeartbeats 4000000 in
theorem k5b_X1_blockFits_194 {u g H T N : Nat} {S : cS} {S0 : cS} {R_ : Prop} {X : Int32 × cS → Prop} (hR : ∀ v S', St u g H T S' → M5 g H S0 S' → X (v, S') → R_) {x0 : Nat} {x1 : Option Nat} {x2 : Int32} (hS : St u g H T S) (hM : M5 g H S0 S) (t_x0 : isO g H 1 x0) (t_x1 : tK S 20 x1) (ok : KO_X1_blockFits_194 N g H T x0 x1 x2 S) (hx : X (KF_X1_blockFits_194 N g H T x0 x1 x2 S)) : R_ := by
  unfold KO_X1_blockFits_194 at ok
  unfold KF_X1_blockFits_194 at hx
  have ok := ok.2
  exact hR _ _ hS hM hx
set_option maxRecDepth 100000 in
set_option maxHeartbeats 4000000 in
theorem k5b_X1_blockFits_181 {u g H T N : Nat} {S : cS} {S0 : cS} {R_ : Prop} {X : Int32 × cS → Prop} (hR : ∀ v S', St u g H T S' → M5 g H S0 S' → X (v, S') → R_) {x0 : Nat} {x1 : Option Nat} {x2 : Int32} {s0 : Int32} (hS : St u g H T S) (hM : M5 g H S0 S) (t_x0 : isO g H 1 x0) (t_x1 : tK S 20 x1) (ok : KO_X1_blockFits_181 N g H T x0 x1 x2 s0 S) (hx : X (KF_X1_blockFits_181 N g H T x0 x1 x2 s0 S)) : R_ := by
  unfold KO_X1_blockFits_181 at ok
  unfold KF_X1_blockFits_181 at hx
  obtain ⟨hS, hm_191⟩ := k5c_X2_top hS (o10 t_x0) (hS.rk (c := 1) (k := 2) t_x0 rfl (by omega)) ok.1
  have hM := hM.trans hm_191
  have ok := ok.2
  exact k5b_X1_blockFits_194 hR hS hM t_x0 (hm_191.tK t_x1 (by decide)) ok hx
set_option maxRecDepth 100000 in
set_option maxHeartbeats 4000000 in
theorem k5b_X1_blockFits_168 {u g H T N : Nat} {S : cS} {S0 : cS} {R_ : Prop} {X : Int32 × cS → Prop} (hR : ∀ v S', St u g H T S' → M5 g H S0 S' → X (v, S') → R_) {x0 : Nat} {x1 : Option Nat} {x2 : Int32} (hS : St u g H T S) (hM : M5 g H S0 S) (t_x0 : isO g H 1 x0) (t_x1 : tK S 20 x1) (ok : KO_X1_blockFits_168 N g H T x0 x1 x2 S) (hx : X (KF_X1_blockFits_168 N g H T x0 x1 x2 S)) : R_ := by
  unfold KO_X1_blockFits_168 at ok
  unfold KF_X1_blockFits_168 at hx
  obtain ⟨hS, hm_178⟩ := k5c_X2_climb hS (o10 t_x0) (hS.rk (c := 1) (k := 2) t_x0 rfl (by omega)) ok.1
  have hM := hM.trans hm_178
  have ok := ok.2
  exact k5b_X1_blockFits_181 hR hS hM t_x0 (hm_178.tK t_x1 (by decide)) ok hx
set_option maxRecDepth 100000 in
set_option maxHeartbeats 4000000 in
theorem k5b_X1_blockFits_159 {u g H T N : Nat} {S : cS} {S0 : cS} {R_ : Prop} {X : Int32 × cS → Prop} (hR : ∀ v S', St u g H T S' → M5 g H S0 S' → X (v, S') → R_) {x0 : Nat} {x1 : Option Nat} {x2 : Int32} (hS : St u g H T S) (hM : M5 g H S0 S) (t_x0 : isO g H 1 x0) (t_x1 : tK S 20 x1) (ok : KO_X1_blockFits_159 N g H T x0 x1 x2 S) (hx : X (KF_X1_blockFits_159 N g H T x0 x1 x2 S)) : R_ := by
  unfold KO_X1_blockFits_159 at ok
  unfold KF_X1_blockFits_159 at hx
  obtain ⟨hS, hm_165⟩ := k5c_X2_plant hS (o10 t_x0) t_x1 ok.1
  have hM := hM.trans hm_165
  have ok := ok.2
  exact k5b_X1_blockFits_168 hR hS hM t_x0 (hm_165.tK t_x1 (by decide)) ok hx
set_option maxRecDepth 100000 in
set_option maxHeartbeats 4000000 in
theorem k5b_X1_blockFits_151 {u g H T N : Nat} {S : cS} {S0 : cS} {R_ : Prop} {X : Int32 × cS → Prop} (hR : ∀ v S', St u g H T S' → M5 g H S0 S' → X (v, S') → R_) (hS : St u g H T S) (hM : M5 g H S0 S) (ok : KO_X1_blockFits_151 N g H T S) (hx : X (KF_X1_blockFits_151 N g H T S)) : R_ := by
  unfold KO_X1_blockFits_151 at ok
  unfold KF_X1_blockFits_151 at hx
  exact hR _ _ hS hM hx
set_option maxRecDepth 100000 in
set_option maxHeartbeats 4000000 in
theorem k5bb_X1_blockFits_129 {u g H T N : Nat} {S : cS} {S0 : cS} {R_ : Prop} {X : Nat × Nat × Option Nat × Int32 × cS → Prop} (hX0 : ∀ (x0 : Nat) (x1 : Option Nat) (x2 : Int32) (S' : cS), St u g H T S' → M5 g H S0 S' → X (0, x0, x1, x2, S') → R_) (hX1 : ∀ (x0 : Nat) (x1 : Option Nat) (x2 : Int32) (S' : cS), St u g H T S' → M5 g H S0 S' → isO g H 1 x0 → tK S' 20 x1 → X (1, x0, x1, x2, S') → R_) {rec : Nat → Option Nat → Int32 → Int32 → Int32 → Int32 → cS → Nat × Nat × Option Nat × Int32 × cS} {rok : Nat → Option Nat → Int32 → Int32 → Int32 → Int32 → cS → Prop} (hrec : ∀ (x0 : Nat) (x1 : Option Nat) (x2 : Int32) (x4 : Int32) (x6 : Int32) (x7 : Int32) (S : cS), St u g H T S → M5 g H S0 S → isO g H 1 x0 → tK S 20 x1 → rok x0 x1 x2 x4 x6 x7 S → X (rec x0 x1 x2 x4 x6 x7 S) → R_) {x0 : Nat} {x1 : Option Nat} {x2 : Int32} {x4 : Int32} {x6 : Int32} {x7 : Int32} (hS : St u g H T S) (hM : M5 g H S0 S) (t_x0 : isO g H 1 x0) (t_x1 : tK S 20 x1) (ok : KOB_X1_blockFits_129 N g H T rok x0 x1 x2 x4 x6 x7 S) (hx : X (KB_X1_blockFits_129 N g H T rec x0 x1 x2 x4 x6 x7 S)) : R_ := by
  unfold KOB_X1_blockFits_129 at ok
  unfold KB_X1_blockFits_129 at hx
  refine pif_p ok (fun c_133 => ?_) (fun c_133 => ?_)
  · have ok := ok.1 c_133
    have hx := xif_p c_133 hx
    exact hX1 _ _ _ S hS hM t_x0 t_x1 hx
  · have ok := ok.2 c_133
    have hx := xif_n c_133 hx
    have ok := ok.2
    refine pif_n ok (fun c_148 => ?_) (fun c_148 => ?_)
    · have ok := ok.2 c_148
      have hx := xif_n c_148 hx
      exact hrec _ _ _ _ _ _ S hS hM t_x0 t_x1 ok hx
    · have ok := ok.1 c_148
      have hx := xif_p c_148 hx
      exact hX0 _ _ _ S hS hM  hx
set_option maxRecDepth 100000 in
set_option maxHeartbeats 4000000 in
theorem k5l_X1_blockFits_129 {u g H T N : Nat} {S0 : cS} {R_ : Prop} {X : Nat × Nat × Option Nat × Int32 × cS → Prop} (hX0 : ∀ (x0 : Nat) (x1 : Option Nat) (x2 : Int32) (S' : cS), St u g H T S' → M5 g H S0 S' → X (0, x0, x1, x2, S') → R_) (hX1 : ∀ (x0 : Nat) (x1 : Option Nat) (x2 : Int32) (S' : cS), St u g H T S' → M5 g H S0 S' → isO g H 1 x0 → tK S' 20 x1 → X (1, x0, x1, x2, S') → R_) : ∀ (n : Nat) (x0 : Nat) (x1 : Option Nat) (x2 : Int32) (x4 : Int32) (x6 : Int32) (x7 : Int32) (S : cS), St u g H T S → M5 g H S0 S → isO g H 1 x0 → tK S 20 x1 → KOL_X1_blockFits_129 N g H T n x0 x1 x2 x4 x6 x7 S → X (KL_X1_blockFits_129 N g H T n x0 x1 x2 x4 x6 x7 S) → R_ := by
  intro n
  induction n with
  | zero => intro x0 x1 x2 x4 x6 x7 S hS hM t_x0 t_x1 ok; exact absurd ok id
  | succ n ih =>
    intro x0 x1 x2 x4 x6 x7 S hS hM t_x0 t_x1 ok hx
    exact k5bb_X1_blockFits_129 hX0 hX1 (rec := KL_X1_blockFits_129 N g H T n) (rok := KOL_X1_blockFits_129 N g H T n) (fun x0 x1 x2 x4 x6 x7 S hS hM t_x0 t_x1 ok hx => ih x0 x1 x2 x4 x6 x7 S hS hM t_x0 t_x1 ok hx) hS hM t_x0 t_x1 ok hx
set_option maxRecDepth 100000 in
set_option maxHeartbeats 4000000 in
theorem k5d_X1_blockFits_129 {u g H T N : Nat} {S : cS} {S0 : cS} {R_ : Prop} {X : Int32 × cS → Prop} (hR : ∀ v S', St u g H T S' → M5 g H S0 S' → X (v, S') → R_) {x0 : Nat} {x1 : Option Nat} {x2 : Int32} {x4 : Int32} {x6 : Int32} {x7 : Int32} (hS : St u g H T S) (hM : M5 g H S0 S) (t_x0 : isO g H 1 x0) (t_x1 : tK S 20 x1) (ok : KOL_X1_blockFits_129 N g H T N x0 x1 x2 x4 x6 x7 S ∧ KOA_X1_blockFits_129 N g H T x0 x1 x2 x4 x6 x7 S (KL_X1_blockFits_129 N g H T N x0 x1 x2 x4 x6 x7 S)) (hx : X (KA_X1_blockFits_129 N g H T x0 x1 x2 x4 x6 x7 S (KL_X1_blockFits_129 N g H T N x0 x1 x2 x4 x6 x7 S))) : R_ := by
  refine k5l_X1_blockFits_129 ?_ ?_ N x0 x1 x2 x4 x6 x7 S hS hM t_x0 t_x1 ok.1 (X := fun z => KOA_X1_blockFits_129 N g H T x0 x1 x2 x4 x6 x7 S z ∧ X (KA_X1_blockFits_129 N g H T x0 x1 x2 x4 x6 x7 S z)) ⟨ok.2, hx⟩
  · intro x0' x1' x2' S' hS hM hz
    obtain ⟨ok, hx⟩ := hz
    unfold KOA_X1_blockFits_129 at ok
    unfold KA_X1_blockFits_129 at hx
    have ok := xif_P (show (0 : Nat) = 0 from rfl) ok
    have hx := xif_p (show (0 : Nat) = 0 from rfl) hx
    exact k5b_X1_blockFits_151 hR hS hM  ok hx
  · intro x0' x1' x2' S' hS hM t_x0 t_x1 hz
    obtain ⟨ok, hx⟩ := hz
    unfold KOA_X1_blockFits_129 at ok
    unfold KA_X1_blockFits_129 at hx
    have ok := xif_N (show ¬ (1 : Nat) = 0 by decide) ok
    have hx := xif_n (show ¬ (1 : Nat) = 0 by decide) hx
    exact k5b_X1_blockFits_159 hR hS hM t_x0 t_x1 ok hx
set_option maxRecDepth 100000 in
set_option maxHeartbeats 4000000 in
theorem k5b_X1_blockFits_112 {u g H T N : Nat} {S : cS} {S0 : cS} {R_ : Prop} {X : Int32 × cS → Prop} (hR : ∀ v S', St u g H T S' → M5 g H S0 S' → X (v, S') → R_) {x0 : Nat} {x1 : Option Nat} {x2 : Int32} {x3 : Int32} {x4 : Int32} {x6 : Int32} (hS : St u g H T S) (hM : M5 g H S0 S) (t_x0 : isO g H 1 x0) (t_x1 : tK S 20 x1) (ok : KO_X1_blockFits_112 N g H T x0 x1 x2 x3 x4 x6 S) (hx : X (KF_X1_blockFits_112 N g H T x0 x1 x2 x3 x4 x6 S)) : R_ := by
  unfold KO_X1_blockFits_112 at ok
  unfold KF_X1_blockFits_112 at hx
  refine pif_p ok (fun c_121 => ?_) (fun c_121 => ?_)
  · have ok := ok.1 c_121
    have hx := xif_p c_121 hx
    exact k5d_X1_blockFits_129 hR hS hM t_x0 t_x1 ok hx
  · have ok := ok.2 c_121
    have hx := xif_n c_121 hx
    exact hR _ _ hS hM hx
set_option maxRecDepth 100000 in
set_option maxHeartbeats 4000000 in
theorem k5b_X1_blockFits_104 {u g H T N : Nat} {S : cS} {S0 : cS} {R_ : Prop} {X : Int32 × cS → Prop} (hR : ∀ v S', St u g H T S' → M5 g H S0 S' → X (v, S') → R_) (hS : St u g H T S) (hM : M5 g H S0 S) (ok : KO_X1_blockFits_104 N g H T S) (hx : X (KF_X1_blockFits_104 N g H T S)) : R_ := by
  unfold KO_X1_blockFits_104 at ok
  unfold KF_X1_blockFits_104 at hx
  exact hR _ _ hS hM hx
set_option maxRecDepth 100000 in
set_option maxHeartbeats 4000000 in
theorem k5bb_X1_blockFits_82 {u g H T N : Nat} {S : cS} {S0 : cS} {R_ : Prop} {X : Nat × Nat × Option Nat × Int32 × Int32 × Int32 × Int32 × cS → Prop} (hX0 : ∀ (x0 : Nat) (x1 : Option Nat) (x2 : Int32) (x3 : Int32) (x4 : Int32) (x6 : Int32) (S' : cS), St u g H T S' → M5 g H S0 S' → X (0, x0, x1, x2, x3, x4, x6, S') → R_) (hX1 : ∀ (x0 : Nat) (x1 : Option Nat) (x2 : Int32) (x3 : Int32) (x4 : Int32) (x6 : Int32) (S' : cS), St u g H T S' → M5 g H S0 S' → isO g H 1 x0 → tK S' 20 x1 → X (1, x0, x1, x2, x3, x4, x6, S') → R_) {rec : Nat → Option Nat → Int32 → Int32 → Int32 → Int32 → Int32 → Int32 → cS → Nat × Nat × Option Nat × Int32 × Int32 × Int32 × Int32 × cS} {rok : Nat → Option Nat → Int32 → Int32 → Int32 → Int32 → Int32 → Int32 → cS → Prop} (hrec : ∀ (x0 : Nat) (x1 : Option Nat) (x2 : Int32) (x3 : Int32) (x4 : Int32) (x5 : Int32) (x6 : Int32) (x7 : Int32) (S : cS), St u g H T S → M5 g H S0 S → isO g H 1 x0 → tK S 20 x1 → rok x0 x1 x2 x3 x4 x5 x6 x7 S → X (rec x0 x1 x2 x3 x4 x5 x6 x7 S) → R_) {x0 : Nat} {x1 : Option Nat} {x2 : Int32} {x3 : Int32} {x4 : Int32} {x5 : Int32} {x6 : Int32} {x7 : Int32} (hS : St u g H T S) (hM : M5 g H S0 S) (t_x0 : isO g H 1 x0) (t_x1 : tK S 20 x1) (ok : KOB_X1_blockFits_82 N g H T rok x0 x1 x2 x3 x4 x5 x6 x7 S) (hx : X (KB_X1_blockFits_82 N g H T rec x0 x1 x2 x3 x4 x5 x6 x7 S)) : R_ := by
  unfold KOB_X1_blockFits_82 at ok
  unfold KB_X1_blockFits_82 at hx
  refine pif_p ok (fun c_86 => ?_) (fun c_86 => ?_)
  · have ok := ok.1 c_86
    have hx := xif_p c_86 hx
    exact hX1 _ _ _ _ _ _ S hS hM t_x0 t_x1 hx
  · have ok := ok.2 c_86
    have hx := xif_n c_86 hx
    have ok := ok.2
    refine pif_p ok (fun c_101 => ?_) (fun c_101 => ?_)
    · have ok := ok.1 c_101
      have hx := xif_p c_101 hx
      exact hrec _ _ _ _ _ _ _ _ S hS hM t_x0 t_x1 ok hx
    · have ok := ok.2 c_101
      have hx := xif_n c_101 hx
      exact hX0 _ _ _ _ _ _ S hS hM  hx
set_option maxRecDepth 100000 in
set_option maxHeartbeats 4000000 in
theorem k5l_X1_blockFits_82 {u g H T N : Nat} {S0 : cS} {R_ : Prop} {X : Nat × Nat × Option Nat × Int32 × Int32 × Int32 × Int32 × cS → Prop} (hX0 : ∀ (x0 : Nat) (x1 : Option Nat) (x2 : Int32) (x3 : Int32) (x4 : Int32) (x6 : Int32) (S' : cS), St u g H T S' → M5 g H S0 S' → X (0, x0, x1, x2, x3, x4, x6, S') → R_) (hX1 : ∀ (x0 : Nat) (x1 : Option Nat) (x2 : Int32) (x3 : Int32) (x4 : Int32) (x6 : Int32) (S' : cS), St u g H T S' → M5 g H S0 S' → isO g H 1 x0 → tK S' 20 x1 → X (1, x0, x1, x2, x3, x4, x6, S') → R_) : ∀ (n : Nat) (x0 : Nat) (x1 : Option Nat) (x2 : Int32) (x3 : Int32) (x4 : Int32) (x5 : Int32) (x6 : Int32) (x7 : Int32) (S : cS), St u g H T S → M5 g H S0 S → isO g H 1 x0 → tK S 20 x1 → KOL_X1_blockFits_82 N g H T n x0 x1 x2 x3 x4 x5 x6 x7 S → X (KL_X1_blockFits_82 N g H T n x0 x1 x2 x3 x4 x5 x6 x7 S) → R_ := by
  intro n
  induction n with
  | zero => intro x0 x1 x2 x3 x4 x5 x6 x7 S hS hM t_x0 t_x1 ok; exact absurd ok id
  | succ n ih =>
    intro x0 x1 x2 x3 x4 x5 x6 x7 S hS hM t_x0 t_x1 ok hx
    exact k5bb_X1_blockFits_82 hX0 hX1 (rec := KL_X1_blockFits_82 N g H T n) (rok := KOL_X1_blockFits_82 N g H T n) (fun x0 x1 x2 x3 x4 x5 x6 x7 S hS hM t_x0 t_x1 ok hx => ih x0 x1 x2 x3 x4 x5 x6 x7 S hS hM t_x0 t_x1 ok hx) hS hM t_x0 t_x1 ok hx
set_option maxRecDepth 100000 in
set_option maxHeartbeats 4000000 in
theorem k5d_X1_blockFits_82 {u g H T N : Nat} {S : cS} {S0 : cS} {R_ : Prop} {X : Int32 × cS → Prop} (hR : ∀ v S', St u g H T S' → M5 g H S0 S' → X (v, S') → R_) {x0 : Nat} {x1 : Option Nat} {x2 : Int32} {x3 : Int32} {x4 : Int32} {x5 : Int32} {x6 : Int32} {x7 : Int32} (hS : St u g H T S) (hM : M5 g H S0 S) (t_x0 : isO g H 1 x0) (t_x1 : tK S 20 x1) (ok : KOL_X1_blockFits_82 N g H T N x0 x1 x2 x3 x4 x5 x6 x7 S ∧ KOA_X1_blockFits_82 N g H T x0 x1 x2 x3 x4 x5 x6 x7 S (KL_X1_blockFits_82 N g H T N x0 x1 x2 x3 x4 x5 x6 x7 S)) (hx : X (KA_X1_blockFits_82 N g H T x0 x1 x2 x3 x4 x5 x6 x7 S (KL_X1_blockFits_82 N g H T N x0 x1 x2 x3 x4 x5 x6 x7 S))) : R_ := by
  refine k5l_X1_blockFits_82 ?_ ?_ N x0 x1 x2 x3 x4 x5 x6 x7 S hS hM t_x0 t_x1 ok.1 (X := fun z => KOA_X1_blockFits_82 N g H T x0 x1 x2 x3 x4 x5 x6 x7 S z ∧ X (KA_X1_blockFits_82 N g H T x0 x1 x2 x3 x4 x5 x6 x7 S z)) ⟨ok.2, hx⟩
  · intro x0' x1' x2' x3' x4' x6' S' hS hM hz
    obtain ⟨ok, hx⟩ := hz
    unfold KOA_X1_blockFits_82 at ok
    unfold KA_X1_blockFits_82 at hx
    have ok := xif_P (show (0 : Nat) = 0 from rfl) ok
    have hx := xif_p (show (0 : Nat) = 0 from rfl) hx
    exact k5b_X1_blockFits_104 hR hS hM  ok hx
  · intro x0' x1' x2' x3' x4' x6' S' hS hM t_x0 t_x1 hz
    obtain ⟨ok, hx⟩ := hz
    unfold KOA_X1_blockFits_82 at ok
    unfold KA_X1_blockFits_82 at hx
    have ok := xif_N (show ¬ (1 : Nat) = 0 by decide) ok
    have hx := xif_n (show ¬ (1 : Nat) = 0 by decide) hx
    exact k5b_X1_blockFits_112 hR hS hM t_x0 t_x1 ok hx
set_option maxRecDepth 100000 in
set_option maxHeartbeats 4000000 in
theorem k5b_X1_blockFits_71 {u g H T N : Nat} {S : cS} {S0 : cS} {R_ : Prop} {X : Int32 × cS → Prop} (hR : ∀ v S', St u g H T S' → M5 g H S0 S' → X (v, S') → R_) (hS : St u g H T S) (hM : M5 g H S0 S) (ok : KO_X1_blockFits_71 N g H T S) (hx : X (KF_X1_blockFits_71 N g H T S)) : R_ := by
  unfold KO_X1_blockFits_71 at ok
  unfold KF_X1_blockFits_71 at hx
  exact hR _ _ hS hM hx
set_option maxRecDepth 100000 in
set_option maxHeartbeats 4000000 in
theorem k5b_X1_blockFits_32 {u g H T N : Nat} {S : cS} {S0 : cS} {R_ : Prop} {X : Int32 × cS → Prop} (hR : ∀ v S', St u g H T S' → M5 g H S0 S' → X (v, S') → R_) (hS : St u g H T S) (hM : M5 g H S0 S) (ok : KO_X1_blockFits_32 N g H T S) (hx : X (KF_X1_blockFits_32 N g H T S)) : R_ := by
  unfold KO_X1_blockFits_32 at ok
  unfold KF_X1_blockFits_32 at hx
  exact hR _ _ hS hM hx
set_option maxRecDepth 100000 in
set_option maxHeartbeats 4000000 in
theorem k5b_X1_blockFits_0 {u g H T N : Nat} {S : cS} {S0 : cS} {R_ : Prop} {X : Int32 × cS → Prop} (hR : ∀ v S', St u g H T S' → M5 g H S0 S' → X (v, S') → R_) {x0 : Nat} {x1 : Option Nat} {x2 : Int32} {x3 : Int32} (hS : St u g H T S) (hM : M5 g H S0 S) (t_x0 : isO g H 1 x0) (t_x1 : tK S 20 x1) (ok : KO_X1_blockFits_0 N g H T x0 x1 x2 x3 S) (hx : X (KF_X1_blockFits_0 N g H T x0 x1 x2 x3 S)) : R_ := by
  unfold KO_X1_blockFits_0 at ok
  unfold KF_X1_blockFits_0 at hx
  refine pif_p ok (fun c_5 => ?_) (fun c_5 => ?_)
  · have ok := ok.1 c_5
    have hx := xif_p c_5 hx
    exact k5b_X1_blockFits_32 hR hS hM  ok hx
  · have ok := ok.2 c_5
    have hx := xif_n c_5 hx
    have ok := ok.2
    refine pif_p ok (fun c_13 => ?_) (fun c_13 => ?_)
    · have ok := ok.1 c_13
      have hx := xif_p c_13 hx
      exact k5b_X1_blockFits_32 hR hS hM  ok hx
    · have ok := ok.2 c_13
      have hx := xif_n c_13 hx
      have ok := ok.2
      refine pif_p ok (fun c_29 => ?_) (fun c_29 => ?_)
      · have ok := ok.1 c_29
        have hx := xif_p c_29 hx
        have ok := ok.2
        have ok := ok.2
        refine pif_p ok (fun c_62 => ?_) (fun c_62 => ?_)
        · have ok := ok.1 c_62
          have hx := xif_p c_62 hx
          exact k5b_X1_blockFits_71 hR hS hM  ok hx
        · have ok := ok.2 c_62
          have hx := xif_n c_62 hx
          refine pif_p ok (fun c_68 => ?_) (fun c_68 => ?_)
          · have ok := ok.1 c_68
            have hx := xif_p c_68 hx
            exact k5d_X1_blockFits_82 hR hS hM t_x0 t_x1 ok hx
          · have ok := ok.2 c_68
            have hx := xif_n c_68 hx
            exact k5b_X1_blockFits_71 hR hS hM  ok hx
      · have ok := ok.2 c_29
        have hx := xif_n c_29 hx
        exact k5b_X1_blockFits_32 hR hS hM  ok hx
set_option maxRecDepth 100000 in
set_option maxHeartbeats 4000000 in
theorem k5c_X1_blockFits {u g H T N : Nat} {S : cS} {a0 : Nat} {x1 : Option Nat} {x2 : Int32} {x3 : Int32} (hS : St u g H T S) (t_x0 : isO g H 1 a0) (t_x1 : tK S 20 x1) (ok : p_X1_blockFits N g H T S a0 x1 x2 x3) : St u g H T (k_X1_blockFits N g H T S a0 x1 x2 x3).2 ∧ M5 g H S (k_X1_blockFits N g H T S a0 x1 x2 x3).2 := by
  exact k5b_X1_blockFits_0 (X := fun F => F = k_X1_blockFits N g H T S a0 x1 x2 x3) (fun v S' h1 h2 h => by rw [← h]; exact ⟨h1, h2⟩) hS M5.rfl' t_x0 t_x1 ok rfl

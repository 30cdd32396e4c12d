set_option maxRecDepth 100000 in
set_option maxHeartbeats 4000000 in
theorem k5b_X7_addEvidences_98 {u g H T N : Nat} {S : cS} {S0 : cS} {R_ : Prop} {X : Int32 × cS → Prop} (hR : ∀ v S', St u g H T S' → M5 g H S0 S' → X (v, S') → R_) {x1 : Option Nat} {x3 : Int32} {x4 : Int32} (hS : St u g H T S) (hM : M5 g H S0 S) (t_x1 : tK S 20 x1) (ok : KO_X7_addEvidences_98 N g H T x1 x3 x4 S) (hx : X (KF_X7_addEvidences_98 N g H T x1 x3 x4 S)) : R_ := by
  unfold KO_X7_addEvidences_98 at ok
  unfold KF_X7_addEvidences_98 at hx
  have hS := hS.Ab (za x1) (nI 106).toNatClampNeg (x4.toInt8.toInt32)
  have hM := hM.A (za x1) (nI 106).toNatClampNeg ((x4.toInt8.toInt32).toInt8.toInt32)
  have ok := ok.2
  exact hR _ _ hS hM hx
set_option maxRecDepth 100000 in
set_option maxHeartbeats 4000000 in
theorem k5b_X7_addEvidences_92 {u g H T N : Nat} {S : cS} {S0 : cS} {R_ : Prop} {X : Nat × Option Nat × Int32 × Int32 × cS → Prop} (hX0 : ∀ (x1 : Option Nat) (x3 : Int32) (x4 : Int32) (S' : cS), St u g H T S' → M5 g H S0 S' → tK S' 20 x1 → X (0, x1, x3, x4, S') → R_) {rec : Option Nat → Option Nat → Int32 → Int32 → Int32 → cS → Nat × Option Nat × Int32 × Int32 × cS} {rok : Option Nat → Option Nat → Int32 → Int32 → Int32 → cS → Prop} (hrec : ∀ (x0 : Option Nat) (x1 : Option Nat) (x3 : Int32) (x4 : Int32) (x5 : Int32) (S : cS), St u g H T S → M5 g H S0 S → tN g H x0 → tK S 20 x1 → rok x0 x1 x3 x4 x5 S → X (rec x0 x1 x3 x4 x5 S) → R_) {x0 : Option Nat} {x1 : Option Nat} {x3 : Int32} {x4 : Int32} {x5 : Int32} (hS : St u g H T S) (hM : M5 g H S0 S) (t_x0 : tN g H x0) (t_x1 : tK S 20 x1) (ok : KO_X7_addEvidences_92 N g H T rok x0 x1 x3 x4 x5 S) (hx : X (KF_X7_addEvidences_92 N g H T rec x0 x1 x3 x4 x5 S)) : R_ := by
  unfold KO_X7_addEvidences_92 at ok
  unfold KF_X7_addEvidences_92 at hx
  exact hrec _ _ _ _ _ S hS hM t_x0 t_x1 ok hx
set_option maxRecDepth 100000 in
set_option maxHeartbeats 4000000 in
theorem k5b_X7_addEvidences_79 {u g H T N : Nat} {S : cS} {S0 : cS} {R_ : Prop} {X : Nat × Option Nat × Int32 × Int32 × cS → Prop} (hX0 : ∀ (x1 : Option Nat) (x3 : Int32) (x4 : Int32) (S' : cS), St u g H T S' → M5 g H S0 S' → tK S' 20 x1 → X (0, x1, x3, x4, S') → R_) {rec : Option Nat → Option Nat → Int32 → Int32 → Int32 → cS → Nat × Option Nat × Int32 × Int32 × cS} {rok : Option Nat → Option Nat → Int32 → Int32 → Int32 → cS → Prop} (hrec : ∀ (x0 : Option Nat) (x1 : Option Nat) (x3 : Int32) (x4 : Int32) (x5 : Int32) (S : cS), St u g H T S → M5 g H S0 S → tN g H x0 → tK S 20 x1 → rok x0 x1 x3 x4 x5 S → X (rec x0 x1 x3 x4 x5 S) → R_) {x0 : Option Nat} {x1 : Option Nat} {x3 : Int32} {x4 : Int32} {x5 : Int32} {x6 : Option Nat} (hS : St u g H T S) (hM : M5 g H S0 S) (t_x0 : tN g H x0) (t_x1 : tK S 20 x1) (t_x6 : tK S 5 x6) (ok : KO_X7_addEvidences_79 N g H T rok x0 x1 x3 x4 x5 x6 S) (hx : X (KF_X7_addEvidences_79 N g H T rec x0 x1 x3 x4 x5 x6 S)) : R_ := by
  unfold KO_X7_addEvidences_79 at ok
  unfold KF_X7_addEvidences_79 at hx
  have nn_82 := ok.1
  have ok := ok.2
  exact k5b_X7_addEvidences_92 hX0 hrec hS hM t_x0 t_x1 ok hx
set_option maxRecDepth 100000 in
set_option maxHeartbeats 4000000 in
theorem k5b_X7_addEvidences_58 {u g H T N : Nat} {S : cS} {S0 : cS} {R_ : Prop} {X : Nat × Option Nat × Int32 × Int32 × cS → Prop} (hX0 : ∀ (x1 : Option Nat) (x3 : Int32) (x4 : Int32) (S' : cS), St u g H T S' → M5 g H S0 S' → tK S' 20 x1 → X (0, x1, x3, x4, S') → R_) {rec : Option Nat → Option Nat → Int32 → Int32 → Int32 → cS → Nat × Option Nat × Int32 × Int32 × cS} {rok : Option Nat → Option Nat → Int32 → Int32 → Int32 → cS → Prop} (hrec : ∀ (x0 : Option Nat) (x1 : Option Nat) (x3 : Int32) (x4 : Int32) (x5 : Int32) (S : cS), St u g H T S → M5 g H S0 S → tN g H x0 → tK S 20 x1 → rok x0 x1 x3 x4 x5 S → X (rec x0 x1 x3 x4 x5 S) → R_) {x0 : Option Nat} {x1 : Option Nat} {x3 : Int32} {x4 : Int32} {x5 : Int32} {x6 : Option Nat} {s0 : Int32} (hS : St u g H T S) (hM : M5 g H S0 S) (t_x0 : tN g H x0) (t_x1 : tK S 20 x1) (t_x6 : tK S 5 x6) (ok : KO_X7_addEvidences_58 N g H T rok x0 x1 x3 x4 x5 x6 s0 S) (hx : X (KF_X7_addEvidences_58 N g H T rec x0 x1 x3 x4 x5 x6 s0 S)) : R_ := by
  unfold KO_X7_addEvidences_58 at ok
  unfold KF_X7_addEvidences_58 at hx
  refine pif_p ok (fun c_58 => ?_) (fun c_58 => ?_)
  · have ok := ok.1 c_58
    have hx := xif_p c_58 hx
    exact k5b_X7_addEvidences_92 hX0 hrec hS hM t_x0 t_x1 ok hx
  · have ok := ok.2 c_58
    have hx := xif_n c_58 hx
    have nn_63 := ok.1
    have p_63 := hS.m0k t_x6 ok.1
    have ok := ok.2
    have tq_76 : tK S 20 (some ((za x6) + 2)) := tK_some (tK.cis p_63 (Option.some_ne_none _)).2
    have hS := hS.Ac (za x1) ((za x6) + 2) (nI 1).toNatClampNeg x3.toNatClampNeg ((cI S 2 (za x6)) - (nI 1)).toNatClampNeg tq_76
    have hM := hM.Ar (za x1) (va_cpy (cA S ((za x6) + 2)) (cA S (za x1)) (nI 1).toNatClampNeg x3.toNatClampNeg ((cI S 2 (za x6)) - (nI 1)).toNatClampNeg)
    have ok := ok.2
    exact k5b_X7_addEvidences_79 hX0 hrec hS hM t_x0 (tK_Ar t_x1) (tK_Ar t_x6) ok hx
set_option maxRecDepth 100000 in
set_option maxHeartbeats 4000000 in
theorem k5bb_X7_addEvidences_8 {u g H T N : Nat} {S : cS} {S0 : cS} {R_ : Prop} {X : Nat × Option Nat × Int32 × Int32 × cS → Prop} (hX0 : ∀ (x1 : Option Nat) (x3 : Int32) (x4 : Int32) (S' : cS), St u g H T S' → M5 g H S0 S' → tK S' 20 x1 → X (0, x1, x3, x4, S') → R_) {rec : Option Nat → Option Nat → Int32 → Int32 → Int32 → cS → Nat × Option Nat × Int32 × Int32 × cS} {rok : Option Nat → Option Nat → Int32 → Int32 → Int32 → cS → Prop} (hrec : ∀ (x0 : Option Nat) (x1 : Option Nat) (x3 : Int32) (x4 : Int32) (x5 : Int32) (S : cS), St u g H T S → M5 g H S0 S → tN g H x0 → tK S 20 x1 → rok x0 x1 x3 x4 x5 S → X (rec x0 x1 x3 x4 x5 S) → R_) {x0 : Option Nat} {x1 : Option Nat} {x3 : Int32} {x4 : Int32} {x5 : Int32} (hS : St u g H T S) (hM : M5 g H S0 S) (t_x0 : tN g H x0) (t_x1 : tK S 20 x1) (ok : KOB_X7_addEvidences_8 N g H T rok x0 x1 x3 x4 x5 S) (hx : X (KB_X7_addEvidences_8 N g H T rec x0 x1 x3 x4 x5 S)) : R_ := by
  unfold KOB_X7_addEvidences_8 at ok
  unfold KB_X7_addEvidences_8 at hx
  have nn_11 := ok.1
  have ok := ok.2
  refine pif_p ok (fun c_17 => ?_) (fun c_17 => ?_)
  · have ok := ok.1 c_17
    have hx := xif_p c_17 hx
    exact hX0 _ _ _ S hS hM t_x1 hx
  · have ok := ok.2 c_17
    have hx := xif_n c_17 hx
    refine pif_p ok (fun c_23 => ?_) (fun c_23 => ?_)
    · have ok := ok.1 c_23
      have hx := xif_p c_23 hx
      exact hX0 _ _ _ S hS hM t_x1 hx
    · have ok := ok.2 c_23
      have hx := xif_n c_23 hx
      have tv_32 := kpc_X8_proofOf hS (o53 (tN.o t_x0 nn_11)) ok.1
      have ok := ok.2
      refine pif_p ok (fun c_39 => ?_) (fun c_39 => ?_)
      · have ok := ok.1 c_39
        have hx := xif_p c_39 hx
        exact k5b_X7_addEvidences_92 hX0 hrec hS hM t_x0 t_x1 ok hx
      · have ok := ok.2 c_39
        have hx := xif_n c_39 hx
        obtain ⟨hS, hm_55⟩ := k5c_X0_punish hS (o88 (o50 (tN.o t_x0 nn_11))) ok.1
        have hM := hM.trans hm_55
        have ok := ok.2
        exact k5b_X7_addEvidences_58 hX0 hrec hS hM t_x0 (hm_55.tK t_x1 (by decide)) (hm_55.tK tv_32 (by decide)) ok hx
set_option maxRecDepth 100000 in
set_option maxHeartbeats 4000000 in
theorem k5l_X7_addEvidences_8 {u g H T N : Nat} {S0 : cS} {R_ : Prop} {X : Nat × Option Nat × Int32 × Int32 × cS → Prop} (hX0 : ∀ (x1 : Option Nat) (x3 : Int32) (x4 : Int32) (S' : cS), St u g H T S' → M5 g H S0 S' → tK S' 20 x1 → X (0, x1, x3, x4, S') → R_) : ∀ (n : Nat) (x0 : Option Nat) (x1 : Option Nat) (x3 : Int32) (x4 : Int32) (x5 : Int32) (S : cS), St u g H T S → M5 g H S0 S → tN g H x0 → tK S 20 x1 → KOL_X7_addEvidences_8 N g H T n x0 x1 x3 x4 x5 S → X (KL_X7_addEvidences_8 N g H T n x0 x1 x3 x4 x5 S) → R_ := by
  intro n
  induction n with
  | zero => intro x0 x1 x3 x4 x5 S hS hM t_x0 t_x1 ok; exact absurd ok id
  | succ n ih =>
    intro x0 x1 x3 x4 x5 S hS hM t_x0 t_x1 ok hx
    exact k5bb_X7_addEvidences_8 hX0 (rec := KL_X7_addEvidences_8 N g H T n) (rok := KOL_X7_addEvidences_8 N g H T n) (fun x0 x1 x3 x4 x5 S hS hM t_x0 t_x1 ok hx => ih x0 x1 x3 x4 x5 S hS hM t_x0 t_x1 ok hx) hS hM t_x0 t_x1 ok hx
set_option maxRecDepth 100000 in
set_option maxHeartbeats 4000000 in
theorem k5d_X7_addEvidences_8 {u g H T N : Nat} {S : cS} {S0 : cS} {R_ : Prop} {X : Int32 × cS → Prop} (hR : ∀ v S', St u g H T S' → M5 g H S0 S' → X (v, S') → R_) {x0 : Option Nat} {x1 : Option Nat} {x3 : Int32} {x4 : Int32} {x5 : Int32} (hS : St u g H T S) (hM : M5 g H S0 S) (t_x0 : tN g H x0) (t_x1 : tK S 20 x1) (ok : KOL_X7_addEvidences_8 N g H T N x0 x1 x3 x4 x5 S ∧ KOA_X7_addEvidences_8 N g H T x0 x1 x3 x4 x5 S (KL_X7_addEvidences_8 N g H T N x0 x1 x3 x4 x5 S)) (hx : X (KA_X7_addEvidences_8 N g H T x0 x1 x3 x4 x5 S (KL_X7_addEvidences_8 N g H T N x0 x1 x3 x4 x5 S))) : R_ := by
  refine k5l_X7_addEvidences_8 ?_ N x0 x1 x3 x4 x5 S hS hM t_x0 t_x1 ok.1 (X := fun z => KOA_X7_addEvidences_8 N g H T x0 x1 x3 x4 x5 S z ∧ X (KA_X7_addEvidences_8 N g H T x0 x1 x3 x4 x5 S z)) ⟨ok.2, hx⟩
  · intro x1' x3' x4' S' hS hM t_x1 hz
    obtain ⟨ok, hx⟩ := hz
    unfold KOA_X7_addEvidences_8 at ok
    unfold KA_X7_addEvidences_8 at hx
    exact k5b_X7_addEvidences_98 hR hS hM t_x1 ok hx
set_option maxRecDepth 100000 in
set_option maxHeartbeats 4000000 in
theorem k5b_X7_addEvidences_0 {u g H T N : Nat} {S : cS} {S0 : cS} {R_ : Prop} {X : Int32 × cS → Prop} (hR : ∀ v S', St u g H T S' → M5 g H S0 S' → X (v, S') → R_) {x0 : Option Nat} {x1 : Option Nat} {x2 : Int32} (hS : St u g H T S) (hM : M5 g H S0 S) (t_x0 : tN g H x0) (t_x1 : tK S 20 x1) (ok : KO_X7_addEvidences_0 N g H T x0 x1 x2 S) (hx : X (KF_X7_addEvidences_0 N g H T x0 x1 x2 S)) : R_ := by
  unfold KO_X7_addEvidences_0 at ok
  unfold KF_X7_addEvidences_0 at hx
  exact k5d_X7_addEvidences_8 hR hS hM t_x0 t_x1 ok hx
set_option maxRecDepth 100000 in
set_option maxHeartbeats 4000000 in
theorem k5c_X7_addEvidences {u g H T N : Nat} {S : cS} {x0 : Option Nat} {x1 : Option Nat} {x2 : Int32} (hS : St u g H T S) (t_x0 : tN g H x0) (t_x1 : tK S 20 x1) (ok : p_X7_addEvidences N g H T S x0 x1 x2) : St u g H T (k_X7_addEvidences N g H T S x0 x1 x2).2 ∧ M5 g H S (k_X7_addEvidences N g H T S x0 x1 x2).2 := by
  exact k5b_X7_addEvidences_0 (X := fun F => F = k_X7_addEvidences N g H T S x0 x1 x2) (fun v S' h1 h2 h => by rw [← h]; exact ⟨h1, h2⟩) hS M5.rfl' t_x0 t_x1 ok rfl
set_option maxRecDepth 100000 in
set_option maxHeartbeats 4000000 in
theorem k5b_X7_addPayments_76 {u g H T N : Nat} {S : cS} {S0 : cS} {R_ : Prop} {X : Int32 × cS → Prop} (hR : ∀ v S', St u g H T S' → M5 g H S0 S' → X (v, S') → R_) {x1 : Option Nat} {x3 : Int32} {x4 : Int32} (hS : St u g H T S) (hM : M5 g H S0 S) (t_x1 : tK S 20 x1) (ok : KO_X7_addPayments_76 N g H T x1 x3 x4 S) (hx : X (KF_X7_addPayments_76 N g H T x1 x3 x4 S)) : R_ := by
  unfold KO_X7_addPayments_76 at ok
  unfold KF_X7_addPayments_76 at hx
  have hS := hS.Ab (za x1) (nI 105).toNatClampNeg (x4.toInt8.toInt32)
  have hM := hM.A (za x1) (nI 105).toNatClampNeg ((x4.toInt8.toInt32).toInt8.toInt32)
  have ok := ok.2
  exact hR _ _ hS hM hx
set_option maxRecDepth 100000 in
set_option maxHeartbeats 4000000 in
theorem k5b_X7_addPayments_70 {u g H T N : Nat} {S : cS} {S0 : cS} {R_ : Prop} {X : Nat × Option Nat × Int32 × Int32 × cS → Prop} (hX0 : ∀ (x1 : Option Nat) (x3 : Int32) (x4 : Int32) (S' : cS), St u g H T S' → M5 g H S0 S' → tK S' 20 x1 → X (0, x1, x3, x4, S') → R_) {rec : Option Nat → Option Nat → Int32 → Int32 → Int32 → cS → Nat × Option Nat × Int32 × Int32 × cS} {rok : Option Nat → Option Nat → Int32 → Int32 → Int32 → cS → Prop} (hrec : ∀ (x0 : Option Nat) (x1 : Option Nat) (x3 : Int32) (x4 : Int32) (x5 : Int32) (S : cS), St u g H T S → M5 g H S0 S → tN g H x0 → tK S 20 x1 → rok x0 x1 x3 x4 x5 S → X (rec x0 x1 x3 x4 x5 S) → R_) {x0 : Option Nat} {x1 : Option Nat} {x3 : Int32} {x4 : Int32} {x5 : Int32} (hS : St u g H T S) (hM : M5 g H S0 S) (t_x0 : tN g H x0) (t_x1 : tK S 20 x1) (ok : KO_X7_addPayments_70 N g H T rok x0 x1 x3 x4 x5 S) (hx : X (KF_X7_addPayments_70 N g H T rec x0 x1 x3 x4 x5 S)) : R_ := by
  unfold KO_X7_addPayments_70 at ok
  unfold KF_X7_addPayments_70 at hx
  exact hrec _ _ _ _ _ S hS hM t_x0 t_x1 ok hx
set_option maxRecDepth 100000 in
set_option maxHeartbeats 4000000 in
theorem k5b_X7_addPayments_64 {u g H T N : Nat} {S : cS} {S0 : cS} {R_ : Prop} {X : Nat × Option Nat × Int32 × Int32 × cS → Prop} (hX0 : ∀ (x1 : Option Nat) (x3 : Int32) (x4 : Int32) (S' : cS), St u g H T S' → M5 g H S0 S' → tK S' 20 x1 → X (0, x1, x3, x4, S') → R_) {rec : Option Nat → Option Nat → Int32 → Int32 → Int32 → cS → Nat × Option Nat × Int32 × Int32 × cS} {rok : Option Nat → Option Nat → Int32 → Int32 → Int32 → cS → Prop} (hrec : ∀ (x0 : Option Nat) (x1 : Option Nat) (x3 : Int32) (x4 : Int32) (x5 : Int32) (S : cS), St u g H T S → M5 g H S0 S → tN g H x0 → tK S 20 x1 → rok x0 x1 x3 x4 x5 S → X (rec x0 x1 x3 x4 x5 S) → R_) {x0 : Option Nat} {x1 : Option Nat} {x3 : Int32} {x4 : Int32} {x5 : Int32} (hS : St u g H T S) (hM : M5 g H S0 S) (t_x0 : tN g H x0) (t_x1 : tK S 20 x1) (ok : KO_X7_addPayments_64 N g H T rok x0 x1 x3 x4 x5 S) (hx : X (KF_X7_addPayments_64 N g H T rec x0 x1 x3 x4 x5 S)) : R_ := by
  unfold KO_X7_addPayments_64 at ok
  unfold KF_X7_addPayments_64 at hx
  exact k5b_X7_addPayments_70 hX0 hrec hS hM t_x0 t_x1 ok hx
set_option maxRecDepth 100000 in
set_option maxHeartbeats 4000000 in
theorem k5b_X7_addPayments_54 {u g H T N : Nat} {S : cS} {S0 : cS} {R_ : Prop} {X : Nat × Option Nat × Int32 × Int32 × cS → Prop} (hX0 : ∀ (x1 : Option Nat) (x3 : Int32) (x4 : Int32) (S' : cS), St u g H T S' → M5 g H S0 S' → tK S' 20 x1 → X (0, x1, x3, x4, S') → R_) {rec : Option Nat → Option Nat → Int32 → Int32 → Int32 → cS → Nat × Option Nat × Int32 × Int32 × cS} {rok : Option Nat → Option Nat → Int32 → Int32 → Int32 → cS → Prop} (hrec : ∀ (x0 : Option Nat) (x1 : Option Nat) (x3 : Int32) (x4 : Int32) (x5 : Int32) (S : cS), St u g H T S → M5 g H S0 S → tN g H x0 → tK S 20 x1 → rok x0 x1 x3 x4 x5 S → X (rec x0 x1 x3 x4 x5 S) → R_) {x0 : Option Nat} {x1 : Option Nat} {x3 : Int32} {x4 : Int32} {x5 : Int32} {x6 : Int64} {s0 : Int32} (hS : St u g H T S) (hM : M5 g H S0 S) (t_x0 : tN g H x0) (t_x1 : tK S 20 x1) (ok : KO_X7_addPayments_54 N g H T rok x0 x1 x3 x4 x5 x6 s0 S) (hx : X (KF_X7_addPayments_54 N g H T rec x0 x1 x3 x4 x5 x6 s0 S)) : R_ := by
  unfold KO_X7_addPayments_54 at ok
  unfold KF_X7_addPayments_54 at hx
  refine pif_p ok (fun c_54 => ?_) (fun c_54 => ?_)
  · have ok := ok.1 c_54
    have hx := xif_p c_54 hx
    exact k5b_X7_addPayments_70 hX0 hrec hS hM t_x0 t_x1 ok hx
  · have ok := ok.2 c_54
    have hx := xif_n c_54 hx
    obtain ⟨hS, hm_61⟩ := k5c_X0_putCode hS t_x1 ok.1
    have hM := hM.trans hm_61
    have ok := ok.2
    exact k5b_X7_addPayments_64 hX0 hrec hS hM t_x0 (hm_61.tK t_x1 (by decide)) ok hx
set_option maxRecDepth 100000 in
set_option maxHeartbeats 4000000 in
theorem k5bb_X7_addPayments_8 {u g H T N : Nat} {S : cS} {S0 : cS} {R_ : Prop} {X : Nat × Option Nat × Int32 × Int32 × cS → Prop} (hX0 : ∀ (x1 : Option Nat) (x3 : Int32) (x4 : Int32) (S' : cS), St u g H T S' → M5 g H S0 S' → tK S' 20 x1 → X (0, x1, x3, x4, S') → R_) {rec : Option Nat → Option Nat → Int32 → Int32 → Int32 → cS → Nat × Option Nat × Int32 × Int32 × cS} {rok : Option Nat → Option Nat → Int32 → Int32 → Int32 → cS → Prop} (hrec : ∀ (x0 : Option Nat) (x1 : Option Nat) (x3 : Int32) (x4 : Int32) (x5 : Int32) (S : cS), St u g H T S → M5 g H S0 S → tN g H x0 → tK S 20 x1 → rok x0 x1 x3 x4 x5 S → X (rec x0 x1 x3 x4 x5 S) → R_) {x0 : Option Nat} {x1 : Option Nat} {x3 : Int32} {x4 : Int32} {x5 : Int32} (hS : St u g H T S) (hM : M5 g H S0 S) (t_x0 : tN g H x0) (t_x1 : tK S 20 x1) (ok : KOB_X7_addPayments_8 N g H T rok x0 x1 x3 x4 x5 S) (hx : X (KB_X7_addPayments_8 N g H T rec x0 x1 x3 x4 x5 S)) : R_ := by
  unfold KOB_X7_addPayments_8 at ok
  unfold KB_X7_addPayments_8 at hx
  have nn_11 := ok.1
  have ok := ok.2
  refine pif_p ok (fun c_17 => ?_) (fun c_17 => ?_)
  · have ok := ok.1 c_17
    have hx := xif_p c_17 hx
    exact hX0 _ _ _ S hS hM t_x1 hx
  · have ok := ok.2 c_17
    have hx := xif_n c_17 hx
    refine pif_p ok (fun c_24 => ?_) (fun c_24 => ?_)
    · have ok := ok.1 c_24
      have hx := xif_p c_24 hx
      exact hX0 _ _ _ S hS hM t_x1 hx
    · have ok := ok.2 c_24
      have hx := xif_n c_24 hx
      have ok := ok.2
      obtain ⟨hS, hm_51⟩ := k5c_X0_pay hS (o88 (o50 (tN.o t_x0 nn_11))) ok.1
      have hM := hM.trans hm_51
      have ok := ok.2
      exact k5b_X7_addPayments_54 hX0 hrec hS hM t_x0 (hm_51.tK t_x1 (by decide)) ok hx
set_option maxRecDepth 100000 in
set_option maxHeartbeats 4000000 in
theorem k5l_X7_addPayments_8 {u g H T N : Nat} {S0 : cS} {R_ : Prop} {X : Nat × Option Nat × Int32 × Int32 × cS → Prop} (hX0 : ∀ (x1 : Option Nat) (x3 : Int32) (x4 : Int32) (S' : cS), St u g H T S' → M5 g H S0 S' → tK S' 20 x1 → X (0, x1, x3, x4, S') → R_) : ∀ (n : Nat) (x0 : Option Nat) (x1 : Option Nat) (x3 : Int32) (x4 : Int32) (x5 : Int32) (S : cS), St u g H T S → M5 g H S0 S → tN g H x0 → tK S 20 x1 → KOL_X7_addPayments_8 N g H T n x0 x1 x3 x4 x5 S → X (KL_X7_addPayments_8 N g H T n x0 x1 x3 x4 x5 S) → R_ := by
  intro n
  induction n with
  | zero => intro x0 x1 x3 x4 x5 S hS hM t_x0 t_x1 ok; exact absurd ok id
  | succ n ih =>
    intro x0 x1 x3 x4 x5 S hS hM t_x0 t_x1 ok hx
    exact k5bb_X7_addPayments_8 hX0 (rec := KL_X7_addPayments_8 N g H T n) (rok := KOL_X7_addPayments_8 N g H T n) (fun x0 x1 x3 x4 x5 S hS hM t_x0 t_x1 ok hx => ih x0 x1 x3 x4 x5 S hS hM t_x0 t_x1 ok hx) hS hM t_x0 t_x1 ok hx
set_option maxRecDepth 100000 in
set_option maxHeartbeats 4000000 in
theorem k5d_X7_addPayments_8 {u g H T N : Nat} {S : cS} {S0 : cS} {R_ : Prop} {X : Int32 × cS → Prop} (hR : ∀ v S', St u g H T S' → M5 g H S0 S' → X (v, S') → R_) {x0 : Option Nat} {x1 : Option Nat} {x3 : Int32} {x4 : Int32} {x5 : Int32} (hS : St u g H T S) (hM : M5 g H S0 S) (t_x0 : tN g H x0) (t_x1 : tK S 20 x1) (ok : KOL_X7_addPayments_8 N g H T N x0 x1 x3 x4 x5 S ∧ KOA_X7_addPayments_8 N g H T x0 x1 x3 x4 x5 S (KL_X7_addPayments_8 N g H T N x0 x1 x3 x4 x5 S)) (hx : X (KA_X7_addPayments_8 N g H T x0 x1 x3 x4 x5 S (KL_X7_addPayments_8 N g H T N x0 x1 x3 x4 x5 S))) : R_ := by
  refine k5l_X7_addPayments_8 ?_ N x0 x1 x3 x4 x5 S hS hM t_x0 t_x1 ok.1 (X := fun z => KOA_X7_addPayments_8 N g H T x0 x1 x3 x4 x5 S z ∧ X (KA_X7_addPayments_8 N g H T x0 x1 x3 x4 x5 S z)) ⟨ok.2, hx⟩
  · intro x1' x3' x4' S' hS hM t_x1 hz
    obtain ⟨ok, hx⟩ := hz
    unfold KOA_X7_addPayments_8 at ok
    unfold KA_X7_addPayments_8 at hx
    exact k5b_X7_addPayments_76 hR hS hM t_x1 ok hx
set_option maxRecDepth 100000 in
set_option maxHeartbeats 4000000 in
theorem k5b_X7_addPayments_0 {u g H T N : Nat} {S : cS} {S0 : cS} {R_ : Prop} {X : Int32 × cS → Prop} (hR : ∀ v S', St u g H T S' → M5 g H S0 S' → X (v, S') → R_) {x0 : Option Nat} {x1 : Option Nat} {x2 : Int32} (hS : St u g H T S) (hM : M5 g H S0 S) (t_x0 : tN g H x0) (t_x1 : tK S 20 x1) (ok : KO_X7_addPayments_0 N g H T x0 x1 x2 S) (hx : X (KF_X7_addPayments_0 N g H T x0 x1 x2 S)) : R_ := by
  unfold KO_X7_addPayments_0 at ok
  unfold KF_X7_addPayments_0 at hx
  exact k5d_X7_addPayments_8 hR hS hM t_x0 t_x1 ok hx
set_option maxRecDepth 100000 in
set_option maxHeartbeats 4000000 in
theorem k5c_X7_addPayments {u g H T N : Nat} {S : cS} {x0 : Option Nat} {x1 : Option Nat} {x2 : Int32} (hS : St u g H T S) (t_x0 : tN g H x0) (t_x1 : tK S 20 x1) (ok : p_X7_addPayments N g H T S x0 x1 x2) : St u g H T (k_X7_addPayments N g H T S x0 x1 x2).2 ∧ M5 g H S (k_X7_addPayments N g H T S x0 x1 x2).2 := by
  exact k5b_X7_addPayments_0 (X := fun F => F = k_X7_addPayments N g H T S x0 x1 x2) (fun v S' h1 h2 h => by rw [← h]; exact ⟨h1, h2⟩) hS M5.rfl' t_x0 t_x1 ok rfl
set_option maxRecDepth 100000 in
set_option maxHeartbeats 4000000 in
theorem k5b_X7_build_183 {u g H T N : Nat} {S : cS} {S0 : cS} {R_ : Prop} {X : Option Nat × cS → Prop} (hR : ∀ v S', St u g H T S' → M5 g H S0 S' → tK S' 5 v → X (v, S') → R_) {x5 : Option Nat} (hS : St u g H T S) (hM : M5 g H S0 S) (t_x5 : tK S 5 x5) (ok : KO_X7_build_183 N g H T x5 S) (hx : X (KF_X7_build_183 N g H T x5 S)) : R_ := by
  unfold KO_X7_build_183 at ok
  unfold KF_X7_build_183 at hx
  have nn_186 := ok.1
  have hS := hS.I 4 (za x5) (nI 1)
  have hM := hM.I 4 (za x5) (nI 1)
  have ok := ok.2
  exact hR _ _ hS hM (tK_I t_x5) hx
set_option maxRecDepth 100000 in
set_option maxHeartbeats 4000000 in
theorem k5b_X7_build_173 {u g H T N : Nat} {S : cS} {S0 : cS} {R_ : Prop} {X : Option Nat × cS → Prop} (hR : ∀ v S', St u g H T S' → M5 g H S0 S' → tK S' 5 v → X (v, S') → R_) {x1 : Nat} {x5 : Option Nat} (hS : St u g H T S) (hM : M5 g H S0 S) (t_x1 : isO g H 8 x1) (t_x5 : tK S 5 x5) (ok : KO_X7_build_173 N g H T x1 x5 S) (hx : X (KF_X7_build_173 N g H T x1 x5 S)) : R_ := by
  unfold KO_X7_build_173 at ok
  unfold KF_X7_build_173 at hx
  have nn_180 := ok.1.1
  obtain ⟨hS, hm_180⟩ := k5c_X5_readId hS (t_x5 _ (za_of nn_180)) (hS.rk (c := 8) (k := 11) t_x1 rfl (by omega)) ok.1.2
  have hM := hM.trans hm_180
  have ok := ok.2
  exact k5b_X7_build_183 hR hS hM (hm_180.tK t_x5 (by decide)) ok hx
set_option maxRecDepth 100000 in
set_option maxHeartbeats 4000000 in
theorem k5b_X7_build_155 {u g H T N : Nat} {S : cS} {S0 : cS} {R_ : Prop} {X : Option Nat × cS → Prop} (hR : ∀ v S', St u g H T S' → M5 g H S0 S' → tK S' 5 v → X (v, S') → R_) {x1 : Nat} {x2 : Option Nat} {x3 : Int32} {x5 : Option Nat} (hS : St u g H T S) (hM : M5 g H S0 S) (t_x1 : isO g H 8 x1) (t_x2 : tK S 20 x2) (t_x5 : tK S 5 x5) (ok : KO_X7_build_155 N g H T x1 x2 x3 x5 S) (hx : X (KF_X7_build_155 N g H T x1 x2 x3 x5 S)) : R_ := by
  unfold KO_X7_build_155 at ok
  unfold KF_X7_build_155 at hx
  obtain ⟨hS, hm_170⟩ := k5c_X2_digest hS (o85 t_x1) t_x2 (hS.rk (c := 8) (k := 11) t_x1 rfl (by omega)) ok.1
  have hM := hM.trans hm_170
  have ok := ok.2
  exact k5b_X7_build_173 hR hS hM t_x1 (hm_170.tK t_x5 (by decide)) ok hx
set_option maxRecDepth 100000 in
set_option maxHeartbeats 4000000 in
theorem k5b_X7_build_140 {u g H T N : Nat} {S : cS} {S0 : cS} {R_ : Prop} {X : Option Nat × cS → Prop} (hR : ∀ v S', St u g H T S' → M5 g H S0 S' → tK S' 5 v → X (v, S') → R_) {x1 : Nat} {x2 : Option Nat} {x3 : Int32} {x4 : Int32} {s0 : Option Nat} (hS : St u g H T S) (hM : M5 g H S0 S) (t_x1 : isO g H 8 x1) (t_x2 : tK S 20 x2) (t_s0 : tK S 5 s0) (ok : KO_X7_build_140 N g H T x1 x2 x3 x4 s0 S) (hx : X (KF_X7_build_140 N g H T x1 x2 x3 x4 s0 S)) : R_ := by
  unfold KO_X7_build_140 at ok
  unfold KF_X7_build_140 at hx
  have nn_146 := ok.1
  have p_146 := hS.m0k t_s0 ok.1
  have ok := ok.2
  have tq_152 : tK S 20 (some (za x2)) := tK_some (tK.cis t_x2 ok.1.1).2
  have hS := hS.Ac ((za s0) + 2) (za x2) (nI 0).toNatClampNeg (nI 0).toNatClampNeg x4.toNatClampNeg tq_152
  have hM := hM.Ar ((za s0) + 2) (va_cpy (cA S (za x2)) (cA S ((za s0) + 2)) (nI 0).toNatClampNeg (nI 0).toNatClampNeg x4.toNatClampNeg)
  have ok := ok.2
  exact k5b_X7_build_155 hR hS hM t_x1 (tK_Ar t_x2) (tK_Ar t_s0) ok hx
set_option maxRecDepth 100000 in
set_option maxHeartbeats 4000000 in
theorem k5b_X7_build_131 {u g H T N : Nat} {S : cS} {S0 : cS} {R_ : Prop} {X : Option Nat × cS → Prop} (hR : ∀ v S', St u g H T S' → M5 g H S0 S' → tK S' 5 v → X (v, S') → R_) {x1 : Nat} {x2 : Option Nat} {x3 : Int32} {x4 : Int32} (hS : St u g H T S) (hM : M5 g H S0 S) (t_x1 : isO g H 8 x1) (t_x2 : tK S 20 x2) (ok : KO_X7_build_131 N g H T x1 x2 x3 x4 S) (hx : X (KF_X7_build_131 N g H T x1 x2 x3 x4 S)) : R_ := by
  unfold KO_X7_build_131 at ok
  unfold KF_X7_build_131 at hx
  obtain ⟨hS, hm_137, tv_137⟩ := k5c_X9_fresh hS (o86 t_x1) ok.1
  have hM := hM.trans hm_137
  have ok := ok.2
  exact k5b_X7_build_140 hR hS hM t_x1 (hm_137.tK t_x2 (by decide)) tv_137 ok hx
set_option maxRecDepth 100000 in
set_option maxHeartbeats 4000000 in
theorem k5b_X7_build_118 {u g H T N : Nat} {S : cS} {S0 : cS} {R_ : Prop} {X : Option Nat × cS → Prop} (hR : ∀ v S', St u g H T S' → M5 g H S0 S' → tK S' 5 v → X (v, S') → R_) {x1 : Nat} {x2 : Option Nat} {x3 : Int32} {x4 : Int32} {s0 : Int32} (hS : St u g H T S) (hM : M5 g H S0 S) (t_x1 : isO g H 8 x1) (t_x2 : tK S 20 x2) (ok : KO_X7_build_118 N g H T x1 x2 x3 x4 s0 S) (hx : X (KF_X7_build_118 N g H T x1 x2 x3 x4 s0 S)) : R_ := by
  unfold KO_X7_build_118 at ok
  unfold KF_X7_build_118 at hx
  obtain ⟨hS, hm_128⟩ := k5c_X2_top hS (o85 t_x1) t_x2 ok.1
  have hM := hM.trans hm_128
  have ok := ok.2
  exact k5b_X7_build_131 hR hS hM t_x1 (hm_128.tK t_x2 (by decide)) ok hx
set_option maxRecDepth 100000 in
set_option maxHeartbeats 4000000 in
theorem k5b_X7_build_108 {u g H T N : Nat} {S : cS} {S0 : cS} {R_ : Prop} {X : Option Nat × cS → Prop} (hR : ∀ v S', St u g H T S' → M5 g H S0 S' → tK S' 5 v → X (v, S') → R_) {x1 : Nat} {x2 : Option Nat} {x3 : Int32} {x4 : Int32} (hS : St u g H T S) (hM : M5 g H S0 S) (t_x1 : isO g H 8 x1) (t_x2 : tK S 20 x2) (ok : KO_X7_build_108 N g H T x1 x2 x3 x4 S) (hx : X (KF_X7_build_108 N g H T x1 x2 x3 x4 S)) : R_ := by
  unfold KO_X7_build_108 at ok
  unfold KF_X7_build_108 at hx
  obtain ⟨hS, hm_115⟩ := k5c_X2_climb hS (o85 t_x1) t_x2 ok.1
  have hM := hM.trans hm_115
  have ok := ok.2
  exact k5b_X7_build_118 hR hS hM t_x1 (hm_115.tK t_x2 (by decide)) ok hx
set_option maxRecDepth 100000 in
set_option maxHeartbeats 4000000 in
theorem k5b_X7_build_97 {u g H T N : Nat} {S : cS} {S0 : cS} {R_ : Prop} {X : Option Nat × cS → Prop} (hR : ∀ v S', St u g H T S' → M5 g H S0 S' → tK S' 5 v → X (v, S') → R_) {x1 : Nat} {x2 : Option Nat} {x3 : Int32} {s0 : Int32} (hS : St u g H T S) (hM : M5 g H S0 S) (t_x1 : isO g H 8 x1) (t_x2 : tK S 20 x2) (ok : KO_X7_build_97 N g H T x1 x2 x3 s0 S) (hx : X (KF_X7_build_97 N g H T x1 x2 x3 s0 S)) : R_ := by
  unfold KO_X7_build_97 at ok
  unfold KF_X7_build_97 at hx
  obtain ⟨hS, hm_105⟩ := k5c_X2_plant hS (o85 t_x1) t_x2 ok.1
  have hM := hM.trans hm_105
  have ok := ok.2
  exact k5b_X7_build_108 hR hS hM t_x1 (hm_105.tK t_x2 (by decide)) ok hx
set_option maxRecDepth 100000 in
set_option maxHeartbeats 4000000 in
theorem k5b_X7_build_94 {u g H T N : Nat} {S : cS} {S0 : cS} {R_ : Prop} {X : Option Nat × cS → Prop} (hR : ∀ v S', St u g H T S' → M5 g H S0 S' → tK S' 5 v → X (v, S') → R_) {x1 : Nat} {x2 : Option Nat} {x3 : Int32} {s0 : Option Nat} {s1 : Option Nat} {s2 : Int32} (hS : St u g H T S) (hM : M5 g H S0 S) (t_x1 : isO g H 8 x1) (t_x2 : tK S 20 x2) (t_s0 : tN g H s0) (t_s1 : tK S 20 s1) (ok : KO_X7_build_94 N g H T x1 x2 x3 s0 s1 s2 S) (hx : X (KF_X7_build_94 N g H T x1 x2 x3 s0 s1 s2 S)) : R_ := by
  unfold KO_X7_build_94 at ok
  unfold KF_X7_build_94 at hx
  obtain ⟨hS, hm_94⟩ := k5c_X7_addPayments hS t_s0 t_s1 ok.1
  have hM := hM.trans hm_94
  have ok := ok.2
  exact k5b_X7_build_97 hR hS hM t_x1 (hm_94.tK t_x2 (by decide)) ok hx
set_option maxRecDepth 100000 in
set_option maxHeartbeats 4000000 in
theorem k5b_X7_build_83 {u g H T N : Nat} {S : cS} {S0 : cS} {R_ : Prop} {X : Option Nat × cS → Prop} (hR : ∀ v S', St u g H T S' → M5 g H S0 S' → tK S' 5 v → X (v, S') → R_) {x0 : Option Nat} {x1 : Nat} {x2 : Option Nat} {x3 : Int32} (hS : St u g H T S) (hM : M5 g H S0 S) (t_x0 : tN g H x0) (t_x1 : isO g H 8 x1) (t_x2 : tK S 20 x2) (ok : KO_X7_build_83 N g H T x0 x1 x2 x3 S) (hx : X (KF_X7_build_83 N g H T x0 x1 x2 x3 S)) : R_ := by
  unfold KO_X7_build_83 at ok
  unfold KF_X7_build_83 at hx
  obtain ⟨hS, hm_91⟩ := k5c_X7_addEvidences hS t_x0 t_x2 ok.1
  have hM := hM.trans hm_91
  have ok := ok.2
  exact k5b_X7_build_94 hR hS hM t_x1 (hm_91.tK t_x2 (by decide)) t_x0 (hm_91.tK t_x2 (by decide)) ok hx
set_option maxRecDepth 100000 in
set_option maxHeartbeats 4000000 in
theorem k5b_X7_build_72 {u g H T N : Nat} {S : cS} {S0 : cS} {R_ : Prop} {X : Option Nat × cS → Prop} (hR : ∀ v S', St u g H T S' → M5 g H S0 S' → tK S' 5 v → X (v, S') → R_) {x0 : Option Nat} {x1 : Nat} {x2 : Option Nat} {x3 : Int32} (hS : St u g H T S) (hM : M5 g H S0 S) (t_x0 : tN g H x0) (t_x1 : isO g H 8 x1) (t_x2 : tK S 20 x2) (ok : KO_X7_build_72 N g H T x0 x1 x2 x3 S) (hx : X (KF_X7_build_72 N g H T x0 x1 x2 x3 S)) : R_ := by
  unfold KO_X7_build_72 at ok
  unfold KF_X7_build_72 at hx
  have nn_77 := ok.1
  have ok := ok.2
  obtain ⟨hS, hm_80⟩ := k5c_X0_mirror hS (o88 t_x1) (o54 (tN.o t_x0 nn_77)) ok.1
  have hM := hM.trans hm_80
  have ok := ok.2
  exact k5b_X7_build_83 hR hS hM t_x0 t_x1 (hm_80.tK t_x2 (by decide)) ok hx
set_option maxRecDepth 100000 in
set_option maxHeartbeats 4000000 in
theorem k5b_X7_build_54 {u g H T N : Nat} {S : cS} {S0 : cS} {R_ : Prop} {X : Option Nat × cS → Prop} (hR : ∀ v S', St u g H T S' → M5 g H S0 S' → tK S' 5 v → X (v, S') → R_) {x0 : Option Nat} {x1 : Nat} {x2 : Option Nat} {x3 : Int32} (hS : St u g H T S) (hM : M5 g H S0 S) (t_x0 : tN g H x0) (t_x1 : isO g H 8 x1) (t_x2 : tK S 20 x2) (ok : KO_X7_build_54 N g H T x0 x1 x2 x3 S) (hx : X (KF_X7_build_54 N g H T x0 x1 x2 x3 S)) : R_ := by
  unfold KO_X7_build_54 at ok
  unfold KF_X7_build_54 at hx
  have nn_55 := ok.1
  have ok := ok.2
  have tq_69 : tK S 20 (some (((za x0) + 6) + 3)) := tK_some (tK.cis (hS.rk (c := 0) (k := 3) (o54 (tN.o t_x0 nn_55)) rfl (by omega)) (Option.some_ne_none _)).2
  have hS := hS.Ac (za x2) (((za x0) + 6) + 3) (nI 0).toNatClampNeg (x3 + (nI 35)).toNatClampNeg (nI 32).toNatClampNeg tq_69
  have hM := hM.Ar (za x2) (va_cpy (cA S (((za x0) + 6) + 3)) (cA S (za x2)) (nI 0).toNatClampNeg (x3 + (nI 35)).toNatClampNeg (nI 32).toNatClampNeg)
  have ok := ok.2
  exact k5b_X7_build_72 hR hS hM t_x0 t_x1 (tK_Ar t_x2) ok hx
set_option maxRecDepth 100000 in
set_option maxHeartbeats 4000000 in
theorem k5b_X7_build_30 {u g H T N : Nat} {S : cS} {S0 : cS} {R_ : Prop} {X : Option Nat × cS → Prop} (hR : ∀ v S', St u g H T S' → M5 g H S0 S' → tK S' 5 v → X (v, S') → R_) {x0 : Option Nat} {x1 : Nat} {x2 : Option Nat} {x3 : Int32} (hS : St u g H T S) (hM : M5 g H S0 S) (t_x0 : tN g H x0) (t_x1 : isO g H 8 x1) (t_x2 : tK S 20 x2) (ok : KO_X7_build_30 N g H T x0 x1 x2 x3 S) (hx : X (KF_X7_build_30 N g H T x0 x1 x2 x3 S)) : R_ := by
  unfold KO_X7_build_30 at ok
  unfold KF_X7_build_30 at hx
  have nn_35 := ok.1
  have ok := ok.2
  have hS := hS.Ab (za x2) (x3 + (nI 2)).toNatClampNeg ((cI S 1 (za x0)).toInt8.toInt32)
  have hM := hM.A (za x2) (x3 + (nI 2)).toNatClampNeg (((cI S 1 (za x0)).toInt8.toInt32).toInt8.toInt32)
  have ok := ok.2
  have tq_51 : tK (csA S (za x2) (x3 + (nI 2)).toNatClampNeg (((cI S 1 (za x0)).toInt8.toInt32).toInt8.toInt32)) 20 (some ((za x0) + 11)) := tK_some (tK.cis (hS.rk (c := 5) (k := 5) (tN.o t_x0 nn_35) rfl (by omega)) (Option.some_ne_none _)).2
  have hS := hS.Ac (za x2) ((za x0) + 11) (nI 0).toNatClampNeg (x3 + (nI 3)).toNatClampNeg (nI 32).toNatClampNeg tq_51
  have hM := hM.Ar (za x2) (va_cpy (cA (csA S (za x2) (x3 + (nI 2)).toNatClampNeg (((cI S 1 (za x0)).toInt8.toInt32).toInt8.toInt32)) ((za x0) + 11)) (cA (csA S (za x2) (x3 + (nI 2)).toNatClampNeg (((cI S 1 (za x0)).toInt8.toInt32).toInt8.toInt32)) (za x2)) (nI 0).toNatClampNeg (x3 + (nI 3)).toNatClampNeg (nI 32).toNatClampNeg)
  have ok := ok.2
  exact k5b_X7_build_54 hR hS hM t_x0 t_x1 (tK_Ar (tK_A t_x2)) ok hx
set_option maxRecDepth 100000 in
set_option maxHeartbeats 4000000 in
theorem k5b_X7_build_21 {u g H T N : Nat} {S : cS} {S0 : cS} {R_ : Prop} {X : Option Nat × cS → Prop} (hR : ∀ v S', St u g H T S' → M5 g H S0 S' → tK S' 5 v → X (v, S') → R_) {x0 : Option Nat} {x1 : Nat} {x2 : Option Nat} {x3 : Int32} (hS : St u g H T S) (hM : M5 g H S0 S) (t_x0 : tN g H x0) (t_x1 : isO g H 8 x1) (t_x2 : tK S 20 x2) (ok : KO_X7_build_21 N g H T x0 x1 x2 x3 S) (hx : X (KF_X7_build_21 N g H T x0 x1 x2 x3 S)) : R_ := by
  unfold KO_X7_build_21 at ok
  unfold KF_X7_build_21 at hx
  have nn_24 := ok.1
  have ok := ok.2
  obtain ⟨hS, hm_27⟩ := k5c_X11_putTwo hS t_x2 ok.1
  have hM := hM.trans hm_27
  have ok := ok.2
  exact k5b_X7_build_30 hR hS hM t_x0 t_x1 (hm_27.tK t_x2 (by decide)) ok hx
set_option maxRecDepth 100000 in
set_option maxHeartbeats 4000000 in
theorem k5b_X7_build_0 {u g H T N : Nat} {S : cS} {S0 : cS} {R_ : Prop} {X : Option Nat × cS → Prop} (hR : ∀ v S', St u g H T S' → M5 g H S0 S' → tK S' 5 v → X (v, S') → R_) {x0 : Option Nat} (hS : St u g H T S) (hM : M5 g H S0 S) (t_x0 : tN g H x0) (ok : KO_X7_build_0 N g H T x0 S) (hx : X (KF_X7_build_0 N g H T x0 S)) : R_ := by
  unfold KO_X7_build_0 at ok
  unfold KF_X7_build_0 at hx
  have nn_1 := ok.1
  have ok := ok.2
  obtain ⟨hS, hm_18⟩ := k5c_X7_signProposal hS t_x0 (hS.rk (c := 8) (k := 10) (o50 (tN.o t_x0 nn_1)) rfl (by omega)) ok.1
  have hM := hM.trans hm_18
  have ok := ok.2
  exact k5b_X7_build_21 hR hS hM t_x0 (o50 (tN.o t_x0 nn_1)) (hS.rk (c := 8) (k := 10) (o50 (tN.o t_x0 nn_1)) rfl (by omega)) ok hx
set_option maxRecDepth 100000 in
set_option maxHeartbeats 4000000 in
theorem k5c_X7_build {u g H T N : Nat} {S : cS} {x0 : Option Nat} (hS : St u g H T S) (t_x0 : tN g H x0) (ok : p_X7_build N g H T S x0) : St u g H T (k_X7_build N g H T S x0).2 ∧ M5 g H S (k_X7_build N g H T S x0).2 ∧ tK (k_X7_build N g H T S x0).2 5 (k_X7_build N g H T S x0).1 := by
  exact k5b_X7_build_0 (X := fun F => F = k_X7_build N g H T S x0) (fun v S' h1 h2 h3 h => by rw [← h]; exact ⟨h1, h2, h3⟩) hS M5.rfl' t_x0 ok rfl
set_option maxRecDepth 100000 in
set_option maxHeartbeats 4000000 in
theorem k5b_X7_utter_68 {u g H T N : Nat} {S : cS} {S0 : cS} {R_ : Prop} {X : cS → Prop} (hR : ∀ S', St u g H T S' → M5 g H S0 S' → X S' → R_) {x0 : Option Nat} {x1 : Option Nat} (hS : St u g H T S) (hM : M5 g H S0 S) (t_x0 : tN g H x0) (t_x1 : tK S 5 x1) (ok : KO_X7_utter_68 N g H T x0 x1 S) (hx : X (KF_X7_utter_68 N g H T x0 x1 S)) : R_ := by
  unfold KO_X7_utter_68 at ok
  unfold KF_X7_utter_68 at hx
  have nn_69 := ok.1
  have ok := ok.2
  obtain ⟨hS, hm_76⟩ := k5c_X9_drop hS (o86 (o50 (tN.o t_x0 nn_69))) t_x1 ok.1
  have hM := hM.trans hm_76
  have ok := ok.2
  exact hR _ hS hM hx
set_option maxRecDepth 100000 in
set_option maxHeartbeats 4000000 in
theorem k5b_X7_utter_61 {u g H T N : Nat} {S : cS} {S0 : cS} {R_ : Prop} {X : cS → Prop} (hR : ∀ S', St u g H T S' → M5 g H S0 S' → X S' → R_) {x0 : Option Nat} {x1 : Option Nat} (hS : St u g H T S) (hM : M5 g H S0 S) (t_x0 : tN g H x0) (t_x1 : tK S 5 x1) (ok : KO_X7_utter_61 N g H T x0 x1 S) (hx : X (KF_X7_utter_61 N g H T x0 x1 S)) : R_ := by
  unfold KO_X7_utter_61 at ok
  unfold KF_X7_utter_61 at hx
  exact k5b_X7_utter_68 hR hS hM t_x0 t_x1 ok hx
set_option maxRecDepth 100000 in
set_option maxHeartbeats 4000000 in
theorem k5b_X7_utter_41 {u g H T N : Nat} {S : cS} {S0 : cS} {R_ : Prop} {X : cS → Prop} (hR : ∀ S', St u g H T S' → M5 g H S0 S' → X S' → R_) {x0 : Option Nat} {x1 : Option Nat} (hS : St u g H T S) (hM : M5 g H S0 S) (t_x0 : tN g H x0) (t_x1 : tK S 5 x1) (ok : KO_X7_utter_41 N g H T x0 x1 S) (hx : X (KF_X7_utter_41 N g H T x0 x1 S)) : R_ := by
  unfold KO_X7_utter_41 at ok
  unfold KF_X7_utter_41 at hx
  have nn_42 := ok.1
  have ok := ok.2
  obtain ⟨hS, hm_58⟩ := k5c_X10_spread hS (o50 (tN.o t_x0 nn_42)) t_x1 ok.1
  have hM := hM.trans hm_58
  have ok := ok.2
  exact k5b_X7_utter_61 hR hS hM t_x0 (hm_58.tK t_x1 (by decide)) ok hx
set_option maxRecDepth 100000 in
set_option maxHeartbeats 4000000 in
theorem k5b_X7_utter_33 {u g H T N : Nat} {S : cS} {S0 : cS} {R_ : Prop} {X : cS → Prop} (hR : ∀ S', St u g H T S' → M5 g H S0 S' → X S' → R_) {x0 : Option Nat} {x1 : Option Nat} (hS : St u g H T S) (hM : M5 g H S0 S) (t_x0 : tN g H x0) (t_x1 : tK S 5 x1) (ok : KO_X7_utter_33 N g H T x0 x1 S) (hx : X (KF_X7_utter_33 N g H T x0 x1 S)) : R_ := by
  unfold KO_X7_utter_33 at ok
  unfold KF_X7_utter_33 at hx
  have nn_34 := ok.1
  have ok := ok.2
  obtain ⟨hS, hm_38⟩ := k5c_X8_hold hS (o53 (tN.o t_x0 nn_34)) t_x1 ok.1
  have hM := hM.trans hm_38
  have ok := ok.2
  exact k5b_X7_utter_41 hR hS hM t_x0 (hm_38.tK t_x1 (by decide)) ok hx
set_option maxRecDepth 100000 in
set_option maxHeartbeats 4000000 in
theorem k5b_X7_utter_15 {u g H T N : Nat} {S : cS} {S0 : cS} {R_ : Prop} {X : cS → Prop} (hR : ∀ S', St u g H T S' → M5 g H S0 S' → X S' → R_) {x0 : Option Nat} {x1 : Option Nat} {x2 : Int32} {s0 : Int32} (hS : St u g H T S) (hM : M5 g H S0 S) (t_x0 : tN g H x0) (t_x1 : tK S 5 x1) (ok : KO_X7_utter_15 N g H T x0 x1 x2 s0 S) (hx : X (KF_X7_utter_15 N g H T x0 x1 x2 s0 S)) : R_ := by
  unfold KO_X7_utter_15 at ok
  unfold KF_X7_utter_15 at hx
  refine pif_p ok (fun c_15 => ?_) (fun c_15 => ?_)
  · have ok := ok.1 c_15
    have hx := xif_p c_15 hx
    have nn_65 := ok.1.1
    obtain ⟨hS, hm_65⟩ := k5c_X6_fall hS (tN.o t_x0 nn_65) ok.1.2
    have hM := hM.trans hm_65
    have ok := ok.2
    exact k5b_X7_utter_68 hR hS hM t_x0 (hm_65.tK t_x1 (by decide)) ok hx
  · have ok := ok.2 c_15
    have hx := xif_n c_15 hx
    have nn_20 := ok.1
    have ok := ok.2
    have hS := hS.I 17 (za x0) ((cI S 17 (za x0)) + (nI 1))
    have hM := hM.I 17 (za x0) ((cI S 17 (za x0)) + (nI 1))
    have hS := hS.I 11 (za x0) x2
    have hM := hM.I 11 (za x0) x2
    exact k5b_X7_utter_33 hR hS hM t_x0 (tK_I (tK_I t_x1)) ok hx
set_option maxRecDepth 100000 in
set_option maxHeartbeats 4000000 in
theorem k5b_X7_utter_0 {u g H T N : Nat} {S : cS} {S0 : cS} {R_ : Prop} {X : cS → Prop} (hR : ∀ S', St u g H T S' → M5 g H S0 S' → X S' → R_) {x0 : Option Nat} {x1 : Option Nat} {x2 : Int32} (hS : St u g H T S) (hM : M5 g H S0 S) (t_x0 : tN g H x0) (t_x1 : tK S 5 x1) (ok : KO_X7_utter_0 N g H T x0 x1 x2 S) (hx : X (KF_X7_utter_0 N g H T x0 x1 x2 S)) : R_ := by
  unfold KO_X7_utter_0 at ok
  unfold KF_X7_utter_0 at hx
  have nn_1 := ok.1
  have ok := ok.2
  obtain ⟨hS, hm_12⟩ := k5c_X4_jot hS (o52 (tN.o t_x0 nn_1)) t_x1 ok.1
  have hM := hM.trans hm_12
  have ok := ok.2
  exact k5b_X7_utter_15 hR hS hM t_x0 (hm_12.tK t_x1 (by decide)) ok hx
set_option maxRecDepth 100000 in
set_option maxHeartbeats 4000000 in
theorem k5c_X7_utter {u g H T N : Nat} {S : cS} {x0 : Option Nat} {x1 : Option Nat} {x2 : Int32} (hS : St u g H T S) (t_x0 : tN g H x0) (t_x1 : tK S 5 x1) (ok : p_X7_utter N g H T S x0 x1 x2) : St u g H T (k_X7_utter N g H T S x0 x1 x2) ∧ M5 g H S (k_X7_utter N g H T S x0 x1 x2) := by
  exact k5b_X7_utter_0 (X := fun F => F = k_X7_utter N g H T S x0 x1 x2) (fun S' h1 h2 h => by rw [← h]; exact ⟨h1, h2⟩) hS M5.rfl' t_x0 t_x1 ok rfl
set_option maxRecDepth 100000 in
set_option maxHeartbeats 4000000 in
theorem k5b_X7_begin_106 {u g H T N : Nat} {S : cS} {S0 : cS} {R_ : Prop} {X : cS → Prop} (hR : ∀ S', St u g H T S' → M5 g H S0 S' → X S' → R_) (hS : St u g H T S) (hM : M5 g H S0 S) (ok : KO_X7_begin_106 N g H T S) (hx : X (KF_X7_begin_106 N g H T S)) : R_ := by
  unfold KO_X7_begin_106 at ok
  unfold KF_X7_begin_106 at hx
  exact hR _ hS hM hx
set_option maxRecDepth 100000 in
set_option maxHeartbeats 4000000 in
theorem k5b_X7_begin_102 {u g H T N : Nat} {S : cS} {S0 : cS} {R_ : Prop} {X : cS → Prop} (hR : ∀ S', St u g H T S' → M5 g H S0 S' → X S' → R_) {s0 : Option Nat} {s1 : Option Nat} (hS : St u g H T S) (hM : M5 g H S0 S) (t_s0 : tN g H s0) (t_s1 : tK S 5 s1) (ok : KO_X7_begin_102 N g H T s0 s1 S) (hx : X (KF_X7_begin_102 N g H T s0 s1 S)) : R_ := by
  unfold KO_X7_begin_102 at ok
  unfold KF_X7_begin_102 at hx
  obtain ⟨hS, hm_103⟩ := k5c_X7_utter hS t_s0 t_s1 ok.1
  have hM := hM.trans hm_103
  have ok := ok.2
  exact k5b_X7_begin_106 hR hS hM  ok hx
set_option maxRecDepth 100000 in
set_option maxHeartbeats 4000000 in
theorem k5b_X7_begin_95 {u g H T N : Nat} {S : cS} {S0 : cS} {R_ : Prop} {X : cS → Prop} (hR : ∀ S', St u g H T S' → M5 g H S0 S' → X S' → R_) {s0 : Option Nat} {s1 : Option Nat} (hS : St u g H T S) (hM : M5 g H S0 S) (t_s0 : tN g H s0) (t_s1 : tK S 5 s1) (ok : KO_X7_begin_95 N g H T s0 s1 S) (hx : X (KF_X7_begin_95 N g H T s0 s1 S)) : R_ := by
  unfold KO_X7_begin_95 at ok
  unfold KF_X7_begin_95 at hx
  exact k5b_X7_begin_102 hR hS hM t_s0 t_s1 ok hx
set_option maxRecDepth 100000 in
set_option maxHeartbeats 4000000 in
theorem k5b_X7_begin_61 {u g H T N : Nat} {S : cS} {S0 : cS} {R_ : Prop} {X : cS → Prop} (hR : ∀ S', St u g H T S' → M5 g H S0 S' → X S' → R_) {x0 : Option Nat} {x1 : Int32} (hS : St u g H T S) (hM : M5 g H S0 S) (t_x0 : tN g H x0) (ok : KO_X7_begin_61 N g H T x0 x1 S) (hx : X (KF_X7_begin_61 N g H T x0 x1 S)) : R_ := by
  unfold KO_X7_begin_61 at ok
  unfold KF_X7_begin_61 at hx
  have nn_62 := ok.1
  have ok := ok.2
  have ok := ok.2
  refine pif_n ok (fun c_77 => ?_) (fun c_77 => ?_)
  · have ok := ok.2 c_77
    have hx := xif_n c_77 hx
    exact k5b_X7_begin_106 hR hS hM  ok hx
  · have ok := ok.1 c_77
    have hx := xif_p c_77 hx
    have p_81 := hS.lk (tN.o t_x0 nn_62) (Or.inr rfl)
    refine pif_p ok (fun c_87 => ?_) (fun c_87 => ?_)
    · have ok := ok.1 c_87
      have hx := xif_p c_87 hx
      obtain ⟨hS, hm_99, tv_99⟩ := k5c_X7_build hS t_x0 ok.1
      have hM := hM.trans hm_99
      have ok := ok.2
      exact k5b_X7_begin_102 hR hS hM t_x0 tv_99 ok hx
    · have ok := ok.2 c_87
      have hx := xif_n c_87 hx
      obtain ⟨hS, hm_92, tv_92⟩ := k5c_X7_again hS t_x0 p_81 ok.1
      have hM := hM.trans hm_92
      have ok := ok.2
      exact k5b_X7_begin_95 hR hS hM t_x0 tv_92 ok hx
set_option maxRecDepth 100000 in
set_option maxHeartbeats 4000000 in
theorem k5b_X7_begin_56 {u g H T N : Nat} {S : cS} {S0 : cS} {R_ : Prop} {X : cS → Prop} (hR : ∀ S', St u g H T S' → M5 g H S0 S' → X S' → R_) {x0 : Option Nat} {x1 : Int32} (hS : St u g H T S) (hM : M5 g H S0 S) (t_x0 : tN g H x0) (ok : KO_X7_begin_56 N g H T x0 x1 S) (hx : X (KF_X7_begin_56 N g H T x0 x1 S)) : R_ := by
  unfold KO_X7_begin_56 at ok
  unfold KF_X7_begin_56 at hx
  have nn_58 := ok.1.1
  obtain ⟨hS, hm_58⟩ := k5c_X6_setTimer hS (tN.o t_x0 nn_58) ok.1.2
  have hM := hM.trans hm_58
  have ok := ok.2
  exact k5b_X7_begin_61 hR hS hM t_x0 ok hx
set_option maxRecDepth 100000 in
set_option maxHeartbeats 4000000 in
theorem k5b_X7_begin_43 {u g H T N : Nat} {S : cS} {S0 : cS} {R_ : Prop} {X : cS → Prop} (hR : ∀ S', St u g H T S' → M5 g H S0 S' → X S' → R_) {x0 : Option Nat} {x1 : Int32} (hS : St u g H T S) (hM : M5 g H S0 S) (t_x0 : tN g H x0) (ok : KO_X7_begin_43 N g H T x0 x1 S) (hx : X (KF_X7_begin_43 N g H T x0 x1 S)) : R_ := by
  unfold KO_X7_begin_43 at ok
  unfold KF_X7_begin_43 at hx
  have nn_45 := ok.1
  have hS := hS.I 16 (za x0) (nI 0)
  have hM := hM.I 16 (za x0) (nI 0)
  have ok := ok.2
  obtain ⟨hS, hm_53⟩ := k5c_J7_fill_53178 hS (hS.rk (c := 5) (k := 6) (tN.o t_x0 nn_45) rfl (by omega)) ok.1
  have hM := hM.trans hm_53
  have ok := ok.2
  exact k5b_X7_begin_56 hR hS hM t_x0 ok hx
set_option maxRecDepth 100000 in
set_option maxHeartbeats 4000000 in
theorem k5b_X7_begin_25 {u g H T N : Nat} {S : cS} {S0 : cS} {R_ : Prop} {X : cS → Prop} (hR : ∀ S', St u g H T S' → M5 g H S0 S' → X S' → R_) {x0 : Option Nat} {x1 : Int32} {s0 : Int32} (hS : St u g H T S) (hM : M5 g H S0 S) (t_x0 : tN g H x0) (ok : KO_X7_begin_25 N g H T x0 x1 s0 S) (hx : X (KF_X7_begin_25 N g H T x0 x1 s0 S)) : R_ := by
  unfold KO_X7_begin_25 at ok
  unfold KF_X7_begin_25 at hx
  refine pif_n ok (fun c_25 => ?_) (fun c_25 => ?_)
  · have ok := ok.2 c_25
    have hx := xif_n c_25 hx
    have nn_35 := ok.1
    have hS := hS.I 10 (za x0) x1
    have hM := hM.I 10 (za x0) x1
    have ok := ok.2
    have hS := hS.I 11 (za x0) (nI 0)
    have hM := hM.I 11 (za x0) (nI 0)
    exact k5b_X7_begin_43 hR hS hM t_x0 ok hx
  · have ok := ok.1 c_25
    have hx := xif_p c_25 hx
    have nn_29 := ok.1.1
    obtain ⟨hS, hm_29⟩ := k5c_X6_fall hS (tN.o t_x0 nn_29) ok.1.2
    have hM := hM.trans hm_29
    have ok := ok.2
    exact hR _ hS hM hx
set_option maxRecDepth 100000 in
set_option maxHeartbeats 4000000 in
theorem k5b_X7_begin_0 {u g H T N : Nat} {S : cS} {S0 : cS} {R_ : Prop} {X : cS → Prop} (hR : ∀ S', St u g H T S' → M5 g H S0 S' → X S' → R_) {x0 : Option Nat} (hS : St u g H T S) (hM : M5 g H S0 S) (t_x0 : tN g H x0) (ok : KO_X7_begin_0 N g H T x0 S) (hx : X (KF_X7_begin_0 N g H T x0 S)) : R_ := by
  unfold KO_X7_begin_0 at ok
  unfold KF_X7_begin_0 at hx
  have nn_1 := ok.1
  have ok := ok.2
  have hS := hS.I 18 (za x0) (-1)
  have hM := hM.I 18 (za x0) (-1)
  obtain ⟨hS, hm_22⟩ := k5c_X4_jot hS (o52 (tN.o t_x0 nn_1)) tK_none ok.1
  have hM := hM.trans hm_22
  have ok := ok.2
  exact k5b_X7_begin_25 hR hS hM t_x0 ok hx
set_option maxRecDepth 100000 in
set_option maxHeartbeats 4000000 in
theorem k5c_X7_begin {u g H T N : Nat} {S : cS} {x0 : Option Nat} (hS : St u g H T S) (t_x0 : tN g H x0) (ok : p_X7_begin N g H T S x0) : St u g H T (k_X7_begin N g H T S x0) ∧ M5 g H S (k_X7_begin N g H T S x0) := by
  exact k5b_X7_begin_0 (X := fun F => F = k_X7_begin N g H T S x0) (fun S' h1 h2 h => by rw [← h]; exact ⟨h1, h2⟩) hS M5.rfl' t_x0 ok rfl

set_option maxRecDepth 100000 in
set_option maxHeartbeats 4000000 in
theorem k5b_X3_answerAll_88 {u g H T N : Nat} {S : cS} {S0 : cS} {R_ : Prop} {X : cS → Prop} (hR : ∀ S', St u g H T S' → M5 g H S0 S' → X S' → R_) (hS : St u g H T S) (hM : M5 g H S0 S) (ok : KO_X3_answerAll_88 N g H T S) (hx : X (KF_X3_answerAll_88 N g H T S)) : R_ := by
  unfold KO_X3_answerAll_88 at ok
  unfold KF_X3_answerAll_88 at hx
  exact hR _ hS hM hx
set_option maxRecDepth 100000 in
set_option maxHeartbeats 4000000 in
theorem k5b_X3_answerAll_82 {u g H T N : Nat} {S : cS} {S0 : cS} {R_ : Prop} {X : Nat × cS → Prop} (hX0 : ∀ (S' : cS), St u g H T S' → M5 g H S0 S' → X (0, S') → R_) {rec : Option Nat → Int32 → Int32 → Int32 → cS → Nat × cS} {rok : Option Nat → Int32 → Int32 → Int32 → cS → Prop} (hrec : ∀ (x0 : Option Nat) (x1 : Int32) (x2 : Int32) (x3 : Int32) (S : cS), St u g H T S → M5 g H S0 S → tN g H x0 → rok x0 x1 x2 x3 S → X (rec x0 x1 x2 x3 S) → R_) {x0 : Option Nat} {x1 : Int32} {x2 : Int32} {x3 : Int32} (hS : St u g H T S) (hM : M5 g H S0 S) (t_x0 : tN g H x0) (ok : KO_X3_answerAll_82 N g H T rok x0 x1 x2 x3 S) (hx : X (KF_X3_answerAll_82 N g H T rec x0 x1 x2 x3 S)) : R_ := by
  unfold KO_X3_answerAll_82 at ok
  unfold KF_X3_answerAll_82 at hx
  exact hrec _ _ _ _ S hS hM t_x0 ok hx
set_option maxRecDepth 100000 in
set_option maxHeartbeats 4000000 in
theorem k5b_X3_answerAll_76 {u g H T N : Nat} {S : cS} {S0 : cS} {R_ : Prop} {X : Nat × Option Nat × Int32 × Int32 × Int32 × cS → Prop} (hX0 : ∀ (x0 : Option Nat) (x1 : Int32) (x2 : Int32) (x3 : Int32) (S' : cS), St u g H T S' → M5 g H S0 S' → tN g H x0 → X (0, x0, x1, x2, x3, S') → R_) {rec : Option Nat → Int32 → Int32 → Int32 → Int32 → cS → Nat × Option Nat × Int32 × Int32 × Int32 × cS} {rok : Option Nat → Int32 → Int32 → Int32 → Int32 → cS → Prop} (hrec : ∀ (x0 : Option Nat) (x1 : Int32) (x2 : Int32) (x3 : Int32) (x4 : Int32) (S : cS), St u g H T S → M5 g H S0 S → tN g H x0 → rok x0 x1 x2 x3 x4 S → X (rec x0 x1 x2 x3 x4 S) → R_) {x0 : Option Nat} {x1 : Int32} {x2 : Int32} {x3 : Int32} {x4 : Int32} (hS : St u g H T S) (hM : M5 g H S0 S) (t_x0 : tN g H x0) (ok : KO_X3_answerAll_76 N g H T rok x0 x1 x2 x3 x4 S) (hx : X (KF_X3_answerAll_76 N g H T rec x0 x1 x2 x3 x4 S)) : R_ := by
  unfold KO_X3_answerAll_76 at ok
  unfold KF_X3_answerAll_76 at hx
  exact hrec _ _ _ _ _ S hS hM t_x0 ok hx
set_option maxRecDepth 100000 in
set_option maxHeartbeats 4000000 in
theorem k5bb_X3_answerAll_32 {u g H T N : Nat} {S : cS} {S0 : cS} {R_ : Prop} {X : Nat × Option Nat × Int32 × Int32 × Int32 × cS → Prop} (hX0 : ∀ (x0 : Option Nat) (x1 : Int32) (x2 : Int32) (x3 : Int32) (S' : cS), St u g H T S' → M5 g H S0 S' → tN g H x0 → X (0, x0, x1, x2, x3, S') → R_) {rec : Option Nat → Int32 → Int32 → Int32 → Int32 → cS → Nat × Option Nat × Int32 × Int32 × Int32 × cS} {rok : Option Nat → Int32 → Int32 → Int32 → Int32 → cS → Prop} (hrec : ∀ (x0 : Option Nat) (x1 : Int32) (x2 : Int32) (x3 : Int32) (x4 : Int32) (S : cS), St u g H T S → M5 g H S0 S → tN g H x0 → rok x0 x1 x2 x3 x4 S → X (rec x0 x1 x2 x3 x4 S) → R_) {x0 : Option Nat} {x1 : Int32} {x2 : Int32} {x3 : Int32} {x4 : Int32} (hS : St u g H T S) (hM : M5 g H S0 S) (t_x0 : tN g H x0) (ok : KOB_X3_answerAll_32 N g H T rok x0 x1 x2 x3 x4 S) (hx : X (KB_X3_answerAll_32 N g H T rec x0 x1 x2 x3 x4 S)) : R_ := by
  unfold KOB_X3_answerAll_32 at ok
  unfold KB_X3_answerAll_32 at hx
  refine pif_p ok (fun c_35 => ?_) (fun c_35 => ?_)
  · have ok := ok.1 c_35
    have hx := xif_p c_35 hx
    exact hX0 _ _ _ _ S hS hM t_x0 hx
  · have ok := ok.2 c_35
    have hx := xif_n c_35 hx
    have nn_39 := ok.1
    have ok := ok.2
    have tv_49 := kpc_X8_inOrder hS (o53 (tN.o t_x0 nn_39)) ok.1
    have ok := ok.2
    refine pif_p ok (fun c_56 => ?_) (fun c_56 => ?_)
    · have ok := ok.1 c_56
      have hx := xif_p c_56 hx
      exact k5b_X3_answerAll_76 hX0 hrec hS hM t_x0 ok hx
    · have ok := ok.2 c_56
      have hx := xif_n c_56 hx
      obtain ⟨hS, hm_73⟩ := k5c_X9_post hS (o86 (o50 (tN.o t_x0 nn_39))) tv_49 ok.1
      have hM := hM.trans hm_73
      have ok := ok.2
      exact k5b_X3_answerAll_76 hX0 hrec hS hM t_x0 ok hx
set_option maxRecDepth 100000 in
set_option maxHeartbeats 4000000 in
theorem k5l_X3_answerAll_32 {u g H T N : Nat} {S0 : cS} {R_ : Prop} {X : Nat × Option Nat × Int32 × Int32 × Int32 × cS → Prop} (hX0 : ∀ (x0 : Option Nat) (x1 : Int32) (x2 : Int32) (x3 : Int32) (S' : cS), St u g H T S' → M5 g H S0 S' → tN g H x0 → X (0, x0, x1, x2, x3, S') → R_) : ∀ (n : Nat) (x0 : Option Nat) (x1 : Int32) (x2 : Int32) (x3 : Int32) (x4 : Int32) (S : cS), St u g H T S → M5 g H S0 S → tN g H x0 → KOL_X3_answerAll_32 N g H T n x0 x1 x2 x3 x4 S → X (KL_X3_answerAll_32 N g H T n x0 x1 x2 x3 x4 S) → R_ := by
  intro n
  induction n with
  | zero => intro x0 x1 x2 x3 x4 S hS hM t_x0 ok; exact absurd ok id
  | succ n ih =>
    intro x0 x1 x2 x3 x4 S hS hM t_x0 ok hx
    exact k5bb_X3_answerAll_32 hX0 (rec := KL_X3_answerAll_32 N g H T n) (rok := KOL_X3_answerAll_32 N g H T n) (fun x0 x1 x2 x3 x4 S hS hM t_x0 ok hx => ih x0 x1 x2 x3 x4 S hS hM t_x0 ok hx) hS hM t_x0 ok hx
set_option maxRecDepth 100000 in
set_option maxHeartbeats 4000000 in
theorem k5d_X3_answerAll_32 {u g H T N : Nat} {S : cS} {S0 : cS} {R_ : Prop} {X : Nat × cS → Prop} (hX0 : ∀ (S' : cS), St u g H T S' → M5 g H S0 S' → X (0, S') → R_) {rec : Option Nat → Int32 → Int32 → Int32 → cS → Nat × cS} {rok : Option Nat → Int32 → Int32 → Int32 → cS → Prop} (hrec : ∀ (x0 : Option Nat) (x1 : Int32) (x2 : Int32) (x3 : Int32) (S : cS), St u g H T S → M5 g H S0 S → tN g H x0 → rok x0 x1 x2 x3 S → X (rec x0 x1 x2 x3 S) → R_) {x0 : Option Nat} {x1 : Int32} {x2 : Int32} {x3 : Int32} {x4 : Int32} (hS : St u g H T S) (hM : M5 g H S0 S) (t_x0 : tN g H x0) (ok : KOL_X3_answerAll_32 N g H T N x0 x1 x2 x3 x4 S ∧ KOA_X3_answerAll_32 N g H T rok x0 x1 x2 x3 x4 S (KL_X3_answerAll_32 N g H T N x0 x1 x2 x3 x4 S)) (hx : X (KA_X3_answerAll_32 N g H T rec x0 x1 x2 x3 x4 S (KL_X3_answerAll_32 N g H T N x0 x1 x2 x3 x4 S))) : R_ := by
  refine k5l_X3_answerAll_32 ?_ N x0 x1 x2 x3 x4 S hS hM t_x0 ok.1 (X := fun z => KOA_X3_answerAll_32 N g H T rok x0 x1 x2 x3 x4 S z ∧ X (KA_X3_answerAll_32 N g H T rec x0 x1 x2 x3 x4 S z)) ⟨ok.2, hx⟩
  · intro x0' x1' x2' x3' S' hS hM t_x0 hz
    obtain ⟨ok, hx⟩ := hz
    unfold KOA_X3_answerAll_32 at ok
    unfold KA_X3_answerAll_32 at hx
    exact k5b_X3_answerAll_82 hX0 hrec hS hM t_x0 ok hx
set_option maxRecDepth 100000 in
set_option maxHeartbeats 4000000 in
theorem k5bb_X3_answerAll_14 {u g H T N : Nat} {S : cS} {S0 : cS} {R_ : Prop} {X : Nat × cS → Prop} (hX0 : ∀ (S' : cS), St u g H T S' → M5 g H S0 S' → X (0, S') → R_) {rec : Option Nat → Int32 → Int32 → Int32 → cS → Nat × cS} {rok : Option Nat → Int32 → Int32 → Int32 → cS → Prop} (hrec : ∀ (x0 : Option Nat) (x1 : Int32) (x2 : Int32) (x3 : Int32) (S : cS), St u g H T S → M5 g H S0 S → tN g H x0 → rok x0 x1 x2 x3 S → X (rec x0 x1 x2 x3 S) → R_) {x0 : Option Nat} {x1 : Int32} {x2 : Int32} {x3 : Int32} (hS : St u g H T S) (hM : M5 g H S0 S) (t_x0 : tN g H x0) (ok : KOB_X3_answerAll_14 N g H T rok x0 x1 x2 x3 S) (hx : X (KB_X3_answerAll_14 N g H T rec x0 x1 x2 x3 S)) : R_ := by
  unfold KOB_X3_answerAll_14 at ok
  unfold KB_X3_answerAll_14 at hx
  have nn_16 := ok.1
  have ok := ok.2
  have ok := ok.2
  refine pif_p ok (fun c_26 => ?_) (fun c_26 => ?_)
  · have ok := ok.1 c_26
    have hx := xif_p c_26 hx
    exact hX0 S hS hM  hx
  · have ok := ok.2 c_26
    have hx := xif_n c_26 hx
    exact k5d_X3_answerAll_32 hX0 hrec hS hM t_x0 ok hx
set_option maxRecDepth 100000 in
set_option maxHeartbeats 4000000 in
theorem k5l_X3_answerAll_14 {u g H T N : Nat} {S0 : cS} {R_ : Prop} {X : Nat × cS → Prop} (hX0 : ∀ (S' : cS), St u g H T S' → M5 g H S0 S' → X (0, S') → R_) : ∀ (n : Nat) (x0 : Option Nat) (x1 : Int32) (x2 : Int32) (x3 : Int32) (S : cS), St u g H T S → M5 g H S0 S → tN g H x0 → KOL_X3_answerAll_14 N g H T n x0 x1 x2 x3 S → X (KL_X3_answerAll_14 N g H T n x0 x1 x2 x3 S) → R_ := by
  intro n
  induction n with
  | zero => intro x0 x1 x2 x3 S hS hM t_x0 ok; exact absurd ok id
  | succ n ih =>
    intro x0 x1 x2 x3 S hS hM t_x0 ok hx
    exact k5bb_X3_answerAll_14 hX0 (rec := KL_X3_answerAll_14 N g H T n) (rok := KOL_X3_answerAll_14 N g H T n) (fun x0 x1 x2 x3 S hS hM t_x0 ok hx => ih x0 x1 x2 x3 S hS hM t_x0 ok hx) hS hM t_x0 ok hx
set_option maxRecDepth 100000 in
set_option maxHeartbeats 4000000 in
theorem k5d_X3_answerAll_14 {u g H T N : Nat} {S : cS} {S0 : cS} {R_ : Prop} {X : cS → Prop} (hR : ∀ S', St u g H T S' → M5 g H S0 S' → X S' → R_) {x0 : Option Nat} {x1 : Int32} {x2 : Int32} {x3 : Int32} (hS : St u g H T S) (hM : M5 g H S0 S) (t_x0 : tN g H x0) (ok : KOL_X3_answerAll_14 N g H T N x0 x1 x2 x3 S ∧ KOA_X3_answerAll_14 N g H T x0 x1 x2 x3 S (KL_X3_answerAll_14 N g H T N x0 x1 x2 x3 S)) (hx : X (KA_X3_answerAll_14 N g H T x0 x1 x2 x3 S (KL_X3_answerAll_14 N g H T N x0 x1 x2 x3 S))) : R_ := by
  refine k5l_X3_answerAll_14 ?_ N x0 x1 x2 x3 S hS hM t_x0 ok.1 (X := fun z => KOA_X3_answerAll_14 N g H T x0 x1 x2 x3 S z ∧ X (KA_X3_answerAll_14 N g H T x0 x1 x2 x3 S z)) ⟨ok.2, hx⟩
  · intro S' hS hM hz
    obtain ⟨ok, hx⟩ := hz
    unfold KOA_X3_answerAll_14 at ok
    unfold KA_X3_answerAll_14 at hx
    exact k5b_X3_answerAll_88 hR hS hM  ok hx
set_option maxRecDepth 100000 in
set_option maxHeartbeats 4000000 in
theorem k5b_X3_answerAll_0 {u g H T N : Nat} {S : cS} {S0 : cS} {R_ : Prop} {X : cS → Prop} (hR : ∀ S', St u g H T S' → M5 g H S0 S' → X S' → R_) {x0 : Option Nat} {x1 : Int32} (hS : St u g H T S) (hM : M5 g H S0 S) (t_x0 : tN g H x0) (ok : KO_X3_answerAll_0 N g H T x0 x1 S) (hx : X (KF_X3_answerAll_0 N g H T x0 x1 S)) : R_ := by
  unfold KO_X3_answerAll_0 at ok
  unfold KF_X3_answerAll_0 at hx
  have nn_3 := ok.1
  have ok := ok.2
  exact k5d_X3_answerAll_14 hR hS hM t_x0 ok hx
set_option maxRecDepth 100000 in
set_option maxHeartbeats 4000000 in
theorem k5c_X3_answerAll {u g H T N : Nat} {S : cS} {x0 : Option Nat} {x1 : Int32} (hS : St u g H T S) (t_x0 : tN g H x0) (ok : p_X3_answerAll N g H T S x0 x1) : St u g H T (k_X3_answerAll N g H T S x0 x1) ∧ M5 g H S (k_X3_answerAll N g H T S x0 x1) := by
  exact k5b_X3_answerAll_0 (X := fun F => F = k_X3_answerAll N g H T S x0 x1) (fun S' h1 h2 h => by rw [← h]; exact ⟨h1, h2⟩) hS M5.rfl' t_x0 ok rfl
set_option maxRecDepth 100000 in
set_option maxHeartbeats 4000000 in
theorem k5b_X6_ask_31 {u g H T N : Nat} {S : cS} {S0 : cS} {R_ : Prop} {X : Option Nat × cS → Prop} (hR : ∀ v S', St u g H T S' → M5 g H S0 S' → tK S' 5 v → X (v, S') → R_) {x1 : Option Nat} (hS : St u g H T S) (hM : M5 g H S0 S) (t_x1 : tK S 5 x1) (ok : KO_X6_ask_31 N g H T x1 S) (hx : X (KF_X6_ask_31 N g H T x1 S)) : R_ := by
  unfold KO_X6_ask_31 at ok
  unfold KF_X6_ask_31 at hx
  exact hR _ _ hS hM t_x1 hx
set_option maxRecDepth 100000 in
set_option maxHeartbeats 4000000 in
theorem k5b_X6_ask_11 {u g H T N : Nat} {S : cS} {S0 : cS} {R_ : Prop} {X : Option Nat × cS → Prop} (hR : ∀ v S', St u g H T S' → M5 g H S0 S' → tK S' 5 v → X (v, S') → R_) {x0 : Option Nat} {s0 : Option Nat} (hS : St u g H T S) (hM : M5 g H S0 S) (t_x0 : tN g H x0) (t_s0 : tK S 5 s0) (ok : KO_X6_ask_11 N g H T x0 s0 S) (hx : X (KF_X6_ask_11 N g H T x0 s0 S)) : R_ := by
  unfold KO_X6_ask_11 at ok
  unfold KF_X6_ask_11 at hx
  have nn_13 := ok.1
  have p_13 := hS.m0k t_s0 ok.1
  have ok := ok.2
  have hS := hS.Ab ((za s0) + 2) (nI 0).toNatClampNeg (nI 5)
  have hM := hM.A ((za s0) + 2) (nI 0).toNatClampNeg ((nI 5).toInt8.toInt32)
  have ok := ok.2
  have p_20 := hS.m0k (tK_A t_s0) nn_13
  have nn_25 := ok.1
  have ok := ok.2
  obtain ⟨hS, hm_28⟩ := k5c_X11_putTwo hS p_20 ok.1
  have hM := hM.trans hm_28
  have ok := ok.2
  exact k5b_X6_ask_31 hR hS hM (hm_28.tK (tK_A t_s0) (by decide)) ok hx
set_option maxRecDepth 100000 in
set_option maxHeartbeats 4000000 in
theorem k5b_X6_ask_0 {u g H T N : Nat} {S : cS} {S0 : cS} {R_ : Prop} {X : Option Nat × cS → Prop} (hR : ∀ v S', St u g H T S' → M5 g H S0 S' → tK S' 5 v → X (v, S') → R_) {x0 : Option Nat} (hS : St u g H T S) (hM : M5 g H S0 S) (t_x0 : tN g H x0) (ok : KO_X6_ask_0 N g H T x0 S) (hx : X (KF_X6_ask_0 N g H T x0 S)) : R_ := by
  unfold KO_X6_ask_0 at ok
  unfold KF_X6_ask_0 at hx
  have nn_1 := ok.1
  have ok := ok.2
  obtain ⟨hS, hm_8, tv_8⟩ := k5c_X9_fresh hS (o86 (o50 (tN.o t_x0 nn_1))) ok.1
  have hM := hM.trans hm_8
  have ok := ok.2
  exact k5b_X6_ask_11 hR hS hM t_x0 tv_8 ok hx
set_option maxRecDepth 100000 in
set_option maxHeartbeats 4000000 in
theorem k5c_X6_ask {u g H T N : Nat} {S : cS} {a0 : Nat} (hS : St u g H T S) (t_x0 : isO g H 5 a0) (ok : p_X6_ask N g H T S a0) : St u g H T (k_X6_ask N g H T S a0).2 ∧ M5 g H S (k_X6_ask N g H T S a0).2 ∧ tK (k_X6_ask N g H T S a0).2 5 (k_X6_ask N g H T S a0).1 := by
  exact k5b_X6_ask_0 (X := fun F => F = k_X6_ask N g H T S a0) (fun v S' h1 h2 h3 h => by rw [← h]; exact ⟨h1, h2, h3⟩) hS M5.rfl' (tN_some t_x0) ok rfl
set_option maxRecDepth 100000 in
set_option maxHeartbeats 4000000 in
theorem k5b_X8_holdDecided_57 {u g H T N : Nat} {S : cS} {S0 : cS} {R_ : Prop} {X : Int32 × cS → Prop} (hR : ∀ v S', St u g H T S' → M5 g H S0 S' → X (v, S') → R_) (hS : St u g H T S) (hM : M5 g H S0 S) (ok : KO_X8_holdDecided_57 N g H T S) (hx : X (KF_X8_holdDecided_57 N g H T S)) : R_ := by
  unfold KO_X8_holdDecided_57 at ok
  unfold KF_X8_holdDecided_57 at hx
  exact hR _ _ hS hM hx
set_option maxRecDepth 100000 in
set_option maxHeartbeats 4000000 in
theorem k5b_X8_holdDecided_37 {u g H T N : Nat} {S : cS} {S0 : cS} {R_ : Prop} {X : Int32 × cS → Prop} (hR : ∀ v S', St u g H T S' → M5 g H S0 S' → X (v, S') → R_) {x0 : Nat} {x2 : Option Nat} (hS : St u g H T S) (hM : M5 g H S0 S) (t_x0 : isO g H 6 x0) (t_x2 : tK S 5 x2) (ok : KO_X8_holdDecided_37 N g H T x0 x2 S) (hx : X (KF_X8_holdDecided_37 N g H T x0 x2 S)) : R_ := by
  unfold KO_X8_holdDecided_37 at ok
  unfold KF_X8_holdDecided_37 at hx
  have nn_39 := ok.1
  have ok := ok.2
  have hS := hS.I 3 (za x2) ((cI S 3 (za x2)) + (nI 1))
  have hM := hM.I 3 (za x2) ((cI S 3 (za x2)) + (nI 1))
  have hS := hS.I 11 x0 ((cI (csI S 3 (za x2) ((cI S 3 (za x2)) + (nI 1))) 11 x0) + (nI 1))
  have hM := hM.I 11 x0 ((cI (csI S 3 (za x2) ((cI S 3 (za x2)) + (nI 1))) 11 x0) + (nI 1))
  exact k5b_X8_holdDecided_57 hR hS hM  ok hx
set_option maxRecDepth 100000 in
set_option maxHeartbeats 4000000 in
theorem k5b_X8_holdDecided_21 {u g H T N : Nat} {S : cS} {S0 : cS} {R_ : Prop} {X : Int32 × cS → Prop} (hR : ∀ v S', St u g H T S' → M5 g H S0 S' → X (v, S') → R_) (hS : St u g H T S) (hM : M5 g H S0 S) (ok : KO_X8_holdDecided_21 N g H T S) (hx : X (KF_X8_holdDecided_21 N g H T S)) : R_ := by
  unfold KO_X8_holdDecided_21 at ok
  unfold KF_X8_holdDecided_21 at hx
  exact hR _ _ hS hM hx
set_option maxRecDepth 100000 in
set_option maxHeartbeats 4000000 in
theorem k5b_X8_holdDecided_0 {u g H T N : Nat} {S : cS} {S0 : cS} {R_ : Prop} {X : Int32 × cS → Prop} (hR : ∀ v S', St u g H T S' → M5 g H S0 S' → X (v, S') → R_) {x0 : Nat} {x1 : Int32} {x2 : Option Nat} (hS : St u g H T S) (hM : M5 g H S0 S) (t_x0 : isO g H 6 x0) (t_x2 : tK S 5 x2) (ok : KO_X8_holdDecided_0 N g H T x0 x1 x2 S) (hx : X (KF_X8_holdDecided_0 N g H T x0 x1 x2 S)) : R_ := by
  unfold KO_X8_holdDecided_0 at ok
  unfold KF_X8_holdDecided_0 at hx
  refine pif_p ok (fun c_1 => ?_) (fun c_1 => ?_)
  · have ok := ok.1 c_1
    have hx := xif_p c_1 hx
    exact k5b_X8_holdDecided_21 hR hS hM  ok hx
  · have ok := ok.2 c_1
    have hx := xif_n c_1 hx
    refine pif_p ok (fun c_9 => ?_) (fun c_9 => ?_)
    · have ok := ok.1 c_9
      have hx := xif_p c_9 hx
      exact k5b_X8_holdDecided_21 hR hS hM  ok hx
    · have ok := ok.2 c_9
      have hx := xif_n c_9 hx
      have p_17 := hS.row24 (hS.rk (c := 6) (k := 6) t_x0 rfl (by omega)) x1.toNatClampNeg
      have ok := ok.2
      refine pif_p ok (fun c_18 => ?_) (fun c_18 => ?_)
      · have ok := ok.1 c_18
        have hx := xif_p c_18 hx
        have hS2 := hS.P24 (i := x1.toNatClampNeg) ((hS.rk (c := 6) (k := 6) t_x0 rfl (by omega)) _ rfl) t_x2
        have hS := hS2
        have hM := hM.P (x0 + 6) x1.toNatClampNeg x2
        have ok := ok.2
        have tq_36 : tK (csP S (x0 + 6) x1.toNatClampNeg x2) 21 (some (x0 + 7)) := tK_some (tK.cis (hS.rk (c := 6) (k := 7) t_x0 rfl (by omega)) (Option.some_ne_none _)).2
        have hS := hS.Aw (k := 21) (x0 + 7) x1.toNatClampNeg (nI 0) tq_36 (by decide)
        have hM := hM.A (x0 + 7) x1.toNatClampNeg (nI 0)
        have ok := ok.2
        exact k5b_X8_holdDecided_37 hR hS hM t_x0 (tK_A (tK_P t_x2)) ok hx
      · have ok := ok.2 c_18
        have hx := xif_n c_18 hx
        exact k5b_X8_holdDecided_21 hR hS hM  ok hx
set_option maxRecDepth 100000 in
set_option maxHeartbeats 4000000 in
theorem k5c_X8_holdDecided {u g H T N : Nat} {S : cS} {a0 : Nat} {x1 : Int32} {x2 : Option Nat} (hS : St u g H T S) (t_x0 : isO g H 6 a0) (t_x2 : tK S 5 x2) (ok : p_X8_holdDecided N g H T S a0 x1 x2) : St u g H T (k_X8_holdDecided N g H T S a0 x1 x2).2 ∧ M5 g H S (k_X8_holdDecided N g H T S a0 x1 x2).2 := by
  exact k5b_X8_holdDecided_0 (X := fun F => F = k_X8_holdDecided N g H T S a0 x1 x2) (fun v S' h1 h2 h => by rw [← h]; exact ⟨h1, h2⟩) hS M5.rfl' t_x0 t_x2 ok rfl
set_option maxRecDepth 100000 in
set_option maxHeartbeats 4000000 in
theorem k5b_X8_hold_134 {u g H T N : Nat} {S : cS} {S0 : cS} {R_ : Prop} {X : cS → Prop} (hR : ∀ S', St u g H T S' → M5 g H S0 S' → X S' → R_) {s0 : Option Nat} {s1 : Int32} {s2 : Int32} (hS : St u g H T S) (hM : M5 g H S0 S) (t_s0 : tK S 21 s0) (ok : KO_X8_hold_134 N g H T s0 s1 s2 S) (hx : X (KF_X8_hold_134 N g H T s0 s1 s2 S)) : R_ := by
  unfold KO_X8_hold_134 at ok
  unfold KF_X8_hold_134 at hx
  have tq_134 : tK S 21 (some (za s0)) := tK_some (tK.cis t_s0 ok.1.1).2
  have hS := hS.Aw (k := 21) (za s0) s1.toNatClampNeg s2 tq_134 (by decide)
  have hM := hM.A (za s0) s1.toNatClampNeg s2
  have ok := ok.2
  exact hR _ hS hM hx
set_option maxRecDepth 100000 in
set_option maxHeartbeats 4000000 in
theorem k5b_X8_hold_102 {u g H T N : Nat} {S : cS} {S0 : cS} {R_ : Prop} {X : cS → Prop} (hR : ∀ S', St u g H T S' → M5 g H S0 S' → X S' → R_) {x0 : Nat} {x1 : Option Nat} (hS : St u g H T S) (hM : M5 g H S0 S) (t_x0 : isO g H 6 x0) (t_x1 : tK S 5 x1) (ok : KO_X8_hold_102 N g H T x0 x1 S) (hx : X (KF_X8_hold_102 N g H T x0 x1 S)) : R_ := by
  unfold KO_X8_hold_102 at ok
  unfold KF_X8_hold_102 at hx
  have nn_104 := ok.1.1
  have ok := ok.2
  have ok := ok.2
  have ok := ok.2
  exact k5b_X8_hold_134 hR hS hM (hS.rk (c := 6) (k := 5) t_x0 rfl (by omega)) ok hx
set_option maxRecDepth 100000 in
set_option maxHeartbeats 4000000 in
theorem k5b_X8_hold_77 {u g H T N : Nat} {S : cS} {S0 : cS} {R_ : Prop} {X : cS → Prop} (hR : ∀ S', St u g H T S' → M5 g H S0 S' → X S' → R_) {x0 : Nat} {x1 : Option Nat} {x3 : Option Nat} {s0 : Int32} (hS : St u g H T S) (hM : M5 g H S0 S) (t_x0 : isO g H 6 x0) (t_x1 : tK S 5 x1) (t_x3 : tK S 24 x3) (ok : KO_X8_hold_77 N g H T x0 x1 x3 s0 S) (hx : X (KF_X8_hold_77 N g H T x0 x1 x3 s0 S)) : R_ := by
  unfold KO_X8_hold_77 at ok
  unfold KF_X8_hold_77 at hx
  have p_82 := hS.row24x t_x3 ok.1.1 s0.toNatClampNeg
  have ok := ok.2
  refine pif_p ok (fun c_83 => ?_) (fun c_83 => ?_)
  · have ok := ok.1 c_83
    have hx := xif_p c_83 hx
    have hS2 := hS.P24 (i := s0.toNatClampNeg) (t_x3 _ (za_of ok.1.1)) t_x1
    have hS := hS2
    have hM := hM.P (za x3) s0.toNatClampNeg x1
    have ok := ok.2
    have nn_94 := ok.1
    have ok := ok.2
    have hS := hS.I 3 (za x1) ((cI (csP S (za x3) s0.toNatClampNeg x1) 3 (za x1)) + (nI 1))
    have hM := hM.I 3 (za x1) ((cI (csP S (za x3) s0.toNatClampNeg x1) 3 (za x1)) + (nI 1))
    exact k5b_X8_hold_102 hR hS hM t_x0 (tK_I (tK_P t_x1)) ok hx
  · have ok := ok.2 c_83
    have hx := xif_n c_83 hx
    exact hR _ hS hM hx
set_option maxRecDepth 100000 in
set_option maxHeartbeats 4000000 in
theorem k5b_X8_hold_50 {u g H T N : Nat} {S : cS} {S0 : cS} {R_ : Prop} {X : cS → Prop} (hR : ∀ S', St u g H T S' → M5 g H S0 S' → X S' → R_) {x0 : Nat} {x1 : Option Nat} {x2 : Int32} {s0 : Option Nat} (hS : St u g H T S) (hM : M5 g H S0 S) (t_x0 : isO g H 6 x0) (t_x1 : tK S 5 x1) (t_s0 : tK S 24 s0) (ok : KO_X8_hold_50 N g H T x0 x1 x2 s0 S) (hx : X (KF_X8_hold_50 N g H T x0 x1 x2 s0 S)) : R_ := by
  unfold KO_X8_hold_50 at ok
  unfold KF_X8_hold_50 at hx
  have nn_52 := ok.1.1
  have ok := ok.2
  refine pif_n ok (fun c_56 => ?_) (fun c_56 => ?_)
  · have ok := ok.2 c_56
    have hx := xif_n c_56 hx
    have ok := ok.2
    have ok := ok.2
    have ok := ok.2
    exact k5b_X8_hold_77 hR hS hM t_x0 t_x1 t_s0 ok hx
  · have ok := ok.1 c_56
    have hx := xif_p c_56 hx
    exact k5b_X8_hold_77 hR hS hM t_x0 t_x1 t_s0 ok hx
set_option maxRecDepth 100000 in
set_option maxHeartbeats 4000000 in
theorem k5b_X8_hold_30 {u g H T N : Nat} {S : cS} {S0 : cS} {R_ : Prop} {X : cS → Prop} (hR : ∀ S', St u g H T S' → M5 g H S0 S' → X S' → R_) (hS : St u g H T S) (hM : M5 g H S0 S) (ok : KO_X8_hold_30 N g H T S) (hx : X (KF_X8_hold_30 N g H T S)) : R_ := by
  unfold KO_X8_hold_30 at ok
  unfold KF_X8_hold_30 at hx
  exact hR _ hS hM hx
set_option maxRecDepth 100000 in
set_option maxHeartbeats 4000000 in
theorem k5b_X8_hold_0 {u g H T N : Nat} {S : cS} {S0 : cS} {R_ : Prop} {X : cS → Prop} (hR : ∀ S', St u g H T S' → M5 g H S0 S' → X S' → R_) {x0 : Nat} {x1 : Option Nat} (hS : St u g H T S) (hM : M5 g H S0 S) (t_x0 : isO g H 6 x0) (t_x1 : tK S 5 x1) (ok : KO_X8_hold_0 N g H T x0 x1 S) (hx : X (KF_X8_hold_0 N g H T x0 x1 S)) : R_ := by
  unfold KO_X8_hold_0 at ok
  unfold KF_X8_hold_0 at hx
  have nn_3 := ok.1.1
  have ok := ok.2
  have ok := ok.2
  have ok := ok.2
  refine pif_p ok (fun c_16 => ?_) (fun c_16 => ?_)
  · have ok := ok.1 c_16
    have hx := xif_p c_16 hx
    exact k5b_X8_hold_30 hR hS hM  ok hx
  · have ok := ok.2 c_16
    have hx := xif_n c_16 hx
    have ok := ok.2
    refine pif_p ok (fun c_27 => ?_) (fun c_27 => ?_)
    · have ok := ok.1 c_27
      have hx := xif_p c_27 hx
      have ok := ok.2
      refine pif_n ok (fun c_36 => ?_) (fun c_36 => ?_)
      · have ok := ok.2 c_36
        have hx := xif_n c_36 hx
        exact k5b_X8_hold_50 hR hS hM t_x0 t_x1 (hS.rk (c := 6) (k := 4) t_x0 rfl (by omega)) ok hx
      · have ok := ok.1 c_36
        have hx := xif_p c_36 hx
        exact k5b_X8_hold_50 hR hS hM t_x0 t_x1 (hS.rk (c := 6) (k := 2) t_x0 rfl (by omega)) ok hx
    · have ok := ok.2 c_27
      have hx := xif_n c_27 hx
      exact k5b_X8_hold_30 hR hS hM  ok hx
set_option maxRecDepth 100000 in
set_option maxHeartbeats 4000000 in
theorem k5c_X8_hold {u g H T N : Nat} {S : cS} {a0 : Nat} {x1 : Option Nat} (hS : St u g H T S) (t_x0 : isO g H 6 a0) (t_x1 : tK S 5 x1) (ok : p_X8_hold N g H T S a0 x1) : St u g H T (k_X8_hold N g H T S a0 x1) ∧ M5 g H S (k_X8_hold N g H T S a0 x1) := by
  exact k5b_X8_hold_0 (X := fun F => F = k_X8_hold N g H T S a0 x1) (fun S' h1 h2 h => by rw [← h]; exact ⟨h1, h2⟩) hS M5.rfl' t_x0 t_x1 ok rfl

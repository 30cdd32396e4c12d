set_option maxRecDepth 100000 in
set_option maxHeartbeats 4000000 in
theorem k5b_X7_approves_80 {u g H T N : Nat} {S : cS} {S0 : cS} {R_ : Prop} {X : Int32 × cS → Prop} (hR : ∀ v S', St u g H T S' → M5 g H S0 S' → X (v, S') → R_) {s0 : Int32} (hS : St u g H T S) (hM : M5 g H S0 S) (ok : KO_X7_approves_80 N g H T s0 S) (hx : X (KF_X7_approves_80 N g H T s0 S)) : R_ := by
  unfold KO_X7_approves_80 at ok
  unfold KF_X7_approves_80 at hx
  exact hR _ _ hS hM hx
set_option maxRecDepth 100000 in
set_option maxHeartbeats 4000000 in
theorem k5b_X7_approves_59 {u g H T N : Nat} {S : cS} {S0 : cS} {R_ : Prop} {X : Int32 × cS → Prop} (hR : ∀ v S', St u g H T S' → M5 g H S0 S' → X (v, S') → R_) {x0 : Option Nat} {x1 : Int32} (hS : St u g H T S) (hM : M5 g H S0 S) (t_x0 : tN g H x0) (ok : KO_X7_approves_59 N g H T x0 x1 S) (hx : X (KF_X7_approves_59 N g H T x0 x1 S)) : R_ := by
  unfold KO_X7_approves_59 at ok
  unfold KF_X7_approves_59 at hx
  have nn_60 := ok.1
  have ok := ok.2
  have ok := ok.2
  refine pif_n ok (fun c_72 => ?_) (fun c_72 => ?_)
  · have ok := ok.2 c_72
    have hx := xif_n c_72 hx
    exact k5b_X7_approves_80 hR hS hM  ok hx
  · have ok := ok.1 c_72
    have hx := xif_p c_72 hx
    exact k5b_X7_approves_80 hR hS hM  ok hx
set_option maxRecDepth 100000 in
set_option maxHeartbeats 4000000 in
theorem k5b_X7_approves_56 {u g H T N : Nat} {S : cS} {S0 : cS} {R_ : Prop} {X : Int32 × cS → Prop} (hR : ∀ v S', St u g H T S' → M5 g H S0 S' → X (v, S') → R_) {x0 : Option Nat} {x1 : Int32} {s0 : Nat} {s1 : Int32} {s2 : Int32} {s3 : Int32} (hS : St u g H T S) (hM : M5 g H S0 S) (t_x0 : tN g H x0) (t_s0 : isO g H 6 s0) (ok : KO_X7_approves_56 N g H T x0 x1 s0 s1 s2 s3 S) (hx : X (KF_X7_approves_56 N g H T x0 x1 s0 s1 s2 s3 S)) : R_ := by
  unfold KO_X7_approves_56 at ok
  unfold KF_X7_approves_56 at hx
  obtain ⟨hS, hm_56⟩ := k5c_X8_judge hS t_s0 ok.1
  have hM := hM.trans hm_56
  have ok := ok.2
  exact k5b_X7_approves_59 hR hS hM t_x0 ok hx
set_option maxRecDepth 100000 in
set_option maxHeartbeats 4000000 in
theorem k5b_X7_approves_55 {u g H T N : Nat} {S : cS} {S0 : cS} {R_ : Prop} {X : Int32 × cS → Prop} (hR : ∀ v S', St u g H T S' → M5 g H S0 S' → X (v, S') → R_) {x0 : Option Nat} {x1 : Int32} {s0 : Nat} {s1 : Int32} {s2 : Int32} (hS : St u g H T S) (hM : M5 g H S0 S) (t_x0 : tN g H x0) (t_s0 : isO g H 6 s0) (ok : KO_X7_approves_55 N g H T x0 x1 s0 s1 s2 S) (hx : X (KF_X7_approves_55 N g H T x0 x1 s0 s1 s2 S)) : R_ := by
  unfold KO_X7_approves_55 at ok
  unfold KF_X7_approves_55 at hx
  exact k5b_X7_approves_56 hR hS hM t_x0 t_s0 ok hx
set_option maxRecDepth 100000 in
set_option maxHeartbeats 4000000 in
theorem k5b_X7_approves_48 {u g H T N : Nat} {S : cS} {S0 : cS} {R_ : Prop} {X : Int32 × cS → Prop} (hR : ∀ v S', St u g H T S' → M5 g H S0 S' → X (v, S') → R_) {x0 : Option Nat} {x1 : Int32} {s0 : Nat} {s1 : Int32} {s2 : Int32} {s3 : Int32} (hS : St u g H T S) (hM : M5 g H S0 S) (t_x0 : tN g H x0) (t_s0 : isO g H 6 s0) (ok : KO_X7_approves_48 N g H T x0 x1 s0 s1 s2 s3 S) (hx : X (KF_X7_approves_48 N g H T x0 x1 s0 s1 s2 s3 S)) : R_ := by
  unfold KO_X7_approves_48 at ok
  unfold KF_X7_approves_48 at hx
  refine pif_p ok (fun c_48 => ?_) (fun c_48 => ?_)
  · have ok := ok.1 c_48
    have hx := xif_p c_48 hx
    exact k5b_X7_approves_55 hR hS hM t_x0 t_s0 ok hx
  · have ok := ok.2 c_48
    have hx := xif_n c_48 hx
    exact k5b_X7_approves_56 hR hS hM t_x0 t_s0 ok hx
set_option maxRecDepth 100000 in
set_option maxHeartbeats 4000000 in
theorem k5b_X7_approves_0 {u g H T N : Nat} {S : cS} {S0 : cS} {R_ : Prop} {X : Int32 × cS → Prop} (hR : ∀ v S', St u g H T S' → M5 g H S0 S' → X (v, S') → R_) {x0 : Option Nat} {x1 : Int32} (hS : St u g H T S) (hM : M5 g H S0 S) (t_x0 : tN g H x0) (ok : KO_X7_approves_0 N g H T x0 x1 S) (hx : X (KF_X7_approves_0 N g H T x0 x1 S)) : R_ := by
  unfold KO_X7_approves_0 at ok
  unfold KF_X7_approves_0 at hx
  have nn_1 := ok.1
  have ok := ok.2
  have ok := ok.2
  refine pif_n ok (fun c_12 => ?_) (fun c_12 => ?_)
  · have ok := ok.2 c_12
    have hx := xif_n c_12 hx
    exact k5b_X7_approves_59 hR hS hM t_x0 ok hx
  · have ok := ok.1 c_12
    have hx := xif_p c_12 hx
    have tv_24 := kpc_X8_proposal hS (o53 (tN.o t_x0 nn_1)) ok.1
    have ok := ok.2
    refine pif_p ok (fun c_38 => ?_) (fun c_38 => ?_)
    · have ok := ok.1 c_38
      have hx := xif_p c_38 hx
      exact k5b_X7_approves_55 hR hS hM t_x0 (o53 (tN.o t_x0 nn_1)) ok hx
    · have ok := ok.2 c_38
      have hx := xif_n c_38 hx
      obtain ⟨hS, hm_45⟩ := k5c_X7_isValid hS t_x0 tv_24 ok.1
      have hM := hM.trans hm_45
      have ok := ok.2
      exact k5b_X7_approves_48 hR hS hM t_x0 (o53 (tN.o t_x0 nn_1)) ok hx
set_option maxRecDepth 100000 in
set_option maxHeartbeats 4000000 in
theorem k5c_X7_approves {u g H T N : Nat} {S : cS} {x0 : Option Nat} {x1 : Int32} (hS : St u g H T S) (t_x0 : tN g H x0) (ok : p_X7_approves N g H T S x0 x1) : St u g H T (k_X7_approves N g H T S x0 x1).2 ∧ M5 g H S (k_X7_approves N g H T S x0 x1).2 := by
  exact k5b_X7_approves_0 (X := fun F => F = k_X7_approves N g H T S x0 x1) (fun v S' h1 h2 h => by rw [← h]; exact ⟨h1, h2⟩) hS M5.rfl' t_x0 ok rfl
set_option maxRecDepth 100000 in
set_option maxHeartbeats 4000000 in
theorem k5b_X7_skips_57 {u g H T N : Nat} {S : cS} {S0 : cS} {R_ : Prop} {X : Int32 × cS → Prop} (hR : ∀ v S', St u g H T S' → M5 g H S0 S' → X (v, S') → R_) (hS : St u g H T S) (hM : M5 g H S0 S) (ok : KO_X7_skips_57 N g H T S) (hx : X (KF_X7_skips_57 N g H T S)) : R_ := by
  unfold KO_X7_skips_57 at ok
  unfold KF_X7_skips_57 at hx
  exact hR _ _ hS hM hx
set_option maxRecDepth 100000 in
set_option maxHeartbeats 4000000 in
theorem k5b_X7_skips_44 {u g H T N : Nat} {S : cS} {S0 : cS} {R_ : Prop} {X : Int32 × cS → Prop} (hR : ∀ v S', St u g H T S' → M5 g H S0 S' → X (v, S') → R_) {x0 : Option Nat} {x1 : Int32} (hS : St u g H T S) (hM : M5 g H S0 S) (t_x0 : tN g H x0) (ok : KO_X7_skips_44 N g H T x0 x1 S) (hx : X (KF_X7_skips_44 N g H T x0 x1 S)) : R_ := by
  unfold KO_X7_skips_44 at ok
  unfold KF_X7_skips_44 at hx
  have nn_46 := ok.1
  have hS := hS.I 18 (za x0) x1
  have hM := hM.I 18 (za x0) x1
  have ok := ok.2
  exact hR _ _ hS hM hx
set_option maxRecDepth 100000 in
set_option maxHeartbeats 4000000 in
theorem k5bb_X7_skips_14 {u g H T N : Nat} {S : cS} {S0 : cS} {R_ : Prop} {X : Nat × Option Nat × Int32 × cS → Prop} (hX0 : ∀ (x0 : Option Nat) (x1 : Int32) (S' : cS), St u g H T S' → M5 g H S0 S' → tN g H x0 → X (0, x0, x1, S') → R_) (hX1 : ∀ (x0 : Option Nat) (x1 : Int32) (S' : cS), St u g H T S' → M5 g H S0 S' → X (1, x0, x1, S') → R_) {rec : Option Nat → Int32 → cS → Nat × Option Nat × Int32 × cS} {rok : Option Nat → Int32 → cS → Prop} (hrec : ∀ (x0 : Option Nat) (x1 : Int32) (S : cS), St u g H T S → M5 g H S0 S → tN g H x0 → rok x0 x1 S → X (rec x0 x1 S) → R_) {x0 : Option Nat} {x1 : Int32} (hS : St u g H T S) (hM : M5 g H S0 S) (t_x0 : tN g H x0) (ok : KOB_X7_skips_14 N g H T rok x0 x1 S) (hx : X (KB_X7_skips_14 N g H T rec x0 x1 S)) : R_ := by
  unfold KOB_X7_skips_14 at ok
  unfold KB_X7_skips_14 at hx
  have nn_16 := ok.1
  have ok := ok.2
  refine pif_p ok (fun c_19 => ?_) (fun c_19 => ?_)
  · have ok := ok.1 c_19
    have hx := xif_p c_19 hx
    exact hX1 _ _ S hS hM  hx
  · have ok := ok.2 c_19
    have hx := xif_n c_19 hx
    have ok := ok.2
    refine pif_p ok (fun c_41 => ?_) (fun c_41 => ?_)
    · have ok := ok.1 c_41
      have hx := xif_p c_41 hx
      exact hrec _ _ S hS hM t_x0 ok hx
    · have ok := ok.2 c_41
      have hx := xif_n c_41 hx
      exact hX0 _ _ S hS hM t_x0 hx
set_option maxRecDepth 100000 in
set_option maxHeartbeats 4000000 in
theorem k5l_X7_skips_14 {u g H T N : Nat} {S0 : cS} {R_ : Prop} {X : Nat × Option Nat × Int32 × cS → Prop} (hX0 : ∀ (x0 : Option Nat) (x1 : Int32) (S' : cS), St u g H T S' → M5 g H S0 S' → tN g H x0 → X (0, x0, x1, S') → R_) (hX1 : ∀ (x0 : Option Nat) (x1 : Int32) (S' : cS), St u g H T S' → M5 g H S0 S' → X (1, x0, x1, S') → R_) : ∀ (n : Nat) (x0 : Option Nat) (x1 : Int32) (S : cS), St u g H T S → M5 g H S0 S → tN g H x0 → KOL_X7_skips_14 N g H T n x0 x1 S → X (KL_X7_skips_14 N g H T n x0 x1 S) → R_ := by
  intro n
  induction n with
  | zero => intro x0 x1 S hS hM t_x0 ok; exact absurd ok id
  | succ n ih =>
    intro x0 x1 S hS hM t_x0 ok hx
    exact k5bb_X7_skips_14 hX0 hX1 (rec := KL_X7_skips_14 N g H T n) (rok := KOL_X7_skips_14 N g H T n) (fun x0 x1 S hS hM t_x0 ok hx => ih x0 x1 S hS hM t_x0 ok hx) hS hM t_x0 ok hx
set_option maxRecDepth 100000 in
set_option maxHeartbeats 4000000 in
theorem k5d_X7_skips_14 {u g H T N : Nat} {S : cS} {S0 : cS} {R_ : Prop} {X : Int32 × cS → Prop} (hR : ∀ v S', St u g H T S' → M5 g H S0 S' → X (v, S') → R_) {x0 : Option Nat} {x1 : Int32} (hS : St u g H T S) (hM : M5 g H S0 S) (t_x0 : tN g H x0) (ok : KOL_X7_skips_14 N g H T N x0 x1 S ∧ KOA_X7_skips_14 N g H T x0 x1 S (KL_X7_skips_14 N g H T N x0 x1 S)) (hx : X (KA_X7_skips_14 N g H T x0 x1 S (KL_X7_skips_14 N g H T N x0 x1 S))) : R_ := by
  refine k5l_X7_skips_14 ?_ ?_ N x0 x1 S hS hM t_x0 ok.1 (X := fun z => KOA_X7_skips_14 N g H T x0 x1 S z ∧ X (KA_X7_skips_14 N g H T x0 x1 S z)) ⟨ok.2, hx⟩
  · intro x0' x1' S' hS hM t_x0 hz
    obtain ⟨ok, hx⟩ := hz
    unfold KOA_X7_skips_14 at ok
    unfold KA_X7_skips_14 at hx
    have ok := xif_P (show (0 : Nat) = 0 from rfl) ok
    have hx := xif_p (show (0 : Nat) = 0 from rfl) hx
    exact k5b_X7_skips_44 hR hS hM t_x0 ok hx
  · intro x0' x1' S' hS hM hz
    obtain ⟨ok, hx⟩ := hz
    unfold KOA_X7_skips_14 at ok
    unfold KA_X7_skips_14 at hx
    have ok := xif_N (show ¬ (1 : Nat) = 0 by decide) ok
    have hx := xif_n (show ¬ (1 : Nat) = 0 by decide) hx
    exact k5b_X7_skips_57 hR hS hM  ok hx
set_option maxRecDepth 100000 in
set_option maxHeartbeats 4000000 in
theorem k5b_X7_skips_0 {u g H T N : Nat} {S : cS} {S0 : cS} {R_ : Prop} {X : Int32 × cS → Prop} (hR : ∀ v S', St u g H T S' → M5 g H S0 S' → X (v, S') → R_) {x0 : Option Nat} (hS : St u g H T S) (hM : M5 g H S0 S) (t_x0 : tN g H x0) (ok : KO_X7_skips_0 N g H T x0 S) (hx : X (KF_X7_skips_0 N g H T x0 S)) : R_ := by
  unfold KO_X7_skips_0 at ok
  unfold KF_X7_skips_0 at hx
  have nn_1 := ok.1
  have ok := ok.2
  have ok := ok.2
  exact k5d_X7_skips_14 hR hS hM t_x0 ok hx
set_option maxRecDepth 100000 in
set_option maxHeartbeats 4000000 in
theorem k5c_X7_skips {u g H T N : Nat} {S : cS} {x0 : Option Nat} (hS : St u g H T S) (t_x0 : tN g H x0) (ok : p_X7_skips N g H T S x0) : St u g H T (k_X7_skips N g H T S x0).2 ∧ M5 g H S (k_X7_skips N g H T S x0).2 := by
  exact k5b_X7_skips_0 (X := fun F => F = k_X7_skips N g H T S x0) (fun v S' h1 h2 h => by rw [← h]; exact ⟨h1, h2⟩) hS M5.rfl' t_x0 ok rfl
set_option maxRecDepth 100000 in
set_option maxHeartbeats 4000000 in
theorem k5b_X7_prevotesNew_98 {u g H T N : Nat} {S : cS} {S0 : cS} {R_ : Prop} {X : Int32 × cS → Prop} (hR : ∀ v S', St u g H T S' → M5 g H S0 S' → X (v, S') → R_) (hS : St u g H T S) (hM : M5 g H S0 S) (ok : KO_X7_prevotesNew_98 N g H T S) (hx : X (KF_X7_prevotesNew_98 N g H T S)) : R_ := by
  unfold KO_X7_prevotesNew_98 at ok
  unfold KF_X7_prevotesNew_98 at hx
  exact hR _ _ hS hM hx
set_option maxRecDepth 100000 in
set_option maxHeartbeats 4000000 in
theorem k5b_X7_prevotesNew_94 {u g H T N : Nat} {S : cS} {S0 : cS} {R_ : Prop} {X : Int32 × cS → Prop} (hR : ∀ v S', St u g H T S' → M5 g H S0 S' → X (v, S') → R_) {s0 : Option Nat} {s1 : Option Nat} (hS : St u g H T S) (hM : M5 g H S0 S) (t_s0 : tN g H s0) (t_s1 : tK S 5 s1) (ok : KO_X7_prevotesNew_94 N g H T s0 s1 S) (hx : X (KF_X7_prevotesNew_94 N g H T s0 s1 S)) : R_ := by
  unfold KO_X7_prevotesNew_94 at ok
  unfold KF_X7_prevotesNew_94 at hx
  obtain ⟨hS, hm_95⟩ := k5c_X7_utter hS t_s0 t_s1 ok.1
  have hM := hM.trans hm_95
  have ok := ok.2
  exact k5b_X7_prevotesNew_98 hR hS hM  ok hx
set_option maxRecDepth 100000 in
set_option maxHeartbeats 4000000 in
theorem k5b_X7_prevotesNew_91 {u g H T N : Nat} {S : cS} {S0 : cS} {R_ : Prop} {X : Int32 × cS → Prop} (hR : ∀ v S', St u g H T S' → M5 g H S0 S' → X (v, S') → R_) {s0 : Option Nat} {s1 : Option Nat} {s2 : Int32} {s3 : Option Nat} (hS : St u g H T S) (hM : M5 g H S0 S) (t_s0 : tN g H s0) (t_s1 : tN g H s1) (t_s3 : tK S 5 s3) (ok : KO_X7_prevotesNew_91 N g H T s0 s1 s2 s3 S) (hx : X (KF_X7_prevotesNew_91 N g H T s0 s1 s2 s3 S)) : R_ := by
  unfold KO_X7_prevotesNew_91 at ok
  unfold KF_X7_prevotesNew_91 at hx
  have nn_91 := ok.1.1
  obtain ⟨hS, hm_91, tv_91⟩ := k5c_X6_vote hS (tN.o t_s1 nn_91) t_s3 ok.1.2
  have hM := hM.trans hm_91
  have ok := ok.2
  exact k5b_X7_prevotesNew_94 hR hS hM t_s0 tv_91 ok hx
set_option maxRecDepth 100000 in
set_option maxHeartbeats 4000000 in
theorem k5b_X7_prevotesNew_78 {u g H T N : Nat} {S : cS} {S0 : cS} {R_ : Prop} {X : Int32 × cS → Prop} (hR : ∀ v S', St u g H T S' → M5 g H S0 S' → X (v, S') → R_) {x0 : Option Nat} {x1 : Option Nat} {s0 : Int32} (hS : St u g H T S) (hM : M5 g H S0 S) (t_x0 : tN g H x0) (t_x1 : tK S 5 x1) (ok : KO_X7_prevotesNew_78 N g H T x0 x1 s0 S) (hx : X (KF_X7_prevotesNew_78 N g H T x0 x1 s0 S)) : R_ := by
  unfold KO_X7_prevotesNew_78 at ok
  unfold KF_X7_prevotesNew_78 at hx
  refine pif_p ok (fun c_83 => ?_) (fun c_83 => ?_)
  · have ok := ok.1 c_83
    have hx := xif_p c_83 hx
    exact k5b_X7_prevotesNew_91 hR hS hM t_x0 t_x0 tK_none ok hx
  · have ok := ok.2 c_83
    have hx := xif_n c_83 hx
    exact k5b_X7_prevotesNew_91 hR hS hM t_x0 t_x0 t_x1 ok hx
set_option maxRecDepth 100000 in
set_option maxHeartbeats 4000000 in
theorem k5b_X7_prevotesNew_77 {u g H T N : Nat} {S : cS} {S0 : cS} {R_ : Prop} {X : Int32 × cS → Prop} (hR : ∀ v S', St u g H T S' → M5 g H S0 S' → X (v, S') → R_) {x0 : Option Nat} {x1 : Option Nat} (hS : St u g H T S) (hM : M5 g H S0 S) (t_x0 : tN g H x0) (t_x1 : tK S 5 x1) (ok : KO_X7_prevotesNew_77 N g H T x0 x1 S) (hx : X (KF_X7_prevotesNew_77 N g H T x0 x1 S)) : R_ := by
  unfold KO_X7_prevotesNew_77 at ok
  unfold KF_X7_prevotesNew_77 at hx
  exact k5b_X7_prevotesNew_78 hR hS hM t_x0 t_x1 ok hx
set_option maxRecDepth 100000 in
set_option maxHeartbeats 4000000 in
theorem k5b_X7_prevotesNew_73 {u g H T N : Nat} {S : cS} {S0 : cS} {R_ : Prop} {X : Int32 × cS → Prop} (hR : ∀ v S', St u g H T S' → M5 g H S0 S' → X (v, S') → R_) {x0 : Option Nat} {x1 : Option Nat} (hS : St u g H T S) (hM : M5 g H S0 S) (t_x0 : tN g H x0) (t_x1 : tK S 5 x1) (ok : KO_X7_prevotesNew_73 N g H T x0 x1 S) (hx : X (KF_X7_prevotesNew_73 N g H T x0 x1 S)) : R_ := by
  unfold KO_X7_prevotesNew_73 at ok
  unfold KF_X7_prevotesNew_73 at hx
  exact k5b_X7_prevotesNew_78 hR hS hM t_x0 t_x1 ok hx
set_option maxRecDepth 100000 in
set_option maxHeartbeats 4000000 in
theorem k5b_X7_prevotesNew_52 {u g H T N : Nat} {S : cS} {S0 : cS} {R_ : Prop} {X : Int32 × cS → Prop} (hR : ∀ v S', St u g H T S' → M5 g H S0 S' → X (v, S') → R_) {x0 : Option Nat} {x1 : Option Nat} {s0 : Int32} (hS : St u g H T S) (hM : M5 g H S0 S) (t_x0 : tN g H x0) (t_x1 : tK S 5 x1) (ok : KO_X7_prevotesNew_52 N g H T x0 x1 s0 S) (hx : X (KF_X7_prevotesNew_52 N g H T x0 x1 s0 S)) : R_ := by
  unfold KO_X7_prevotesNew_52 at ok
  unfold KF_X7_prevotesNew_52 at hx
  refine pif_p ok (fun c_52 => ?_) (fun c_52 => ?_)
  · have ok := ok.1 c_52
    have hx := xif_p c_52 hx
    exact k5b_X7_prevotesNew_77 hR hS hM t_x0 t_x1 ok hx
  · have ok := ok.2 c_52
    have hx := xif_n c_52 hx
    have nn_56 := ok.1
    have p_56 := hS.lk (tN.o t_x0 ok.1) (Or.inl rfl)
    have ok := ok.2
    refine pif_p ok (fun c_59 => ?_) (fun c_59 => ?_)
    · have ok := ok.1 c_59
      have hx := xif_p c_59 hx
      exact k5b_X7_prevotesNew_73 hR hS hM t_x0 t_x1 ok hx
    · have ok := ok.2 c_59
      have hx := xif_n c_59 hx
      have p_63 := hS.lk (tN.o t_x0 nn_56) (Or.inl rfl)
      have ok := ok.2
      refine pif_p ok (fun c_70 => ?_) (fun c_70 => ?_)
      · have ok := ok.1 c_70
        have hx := xif_p c_70 hx
        exact k5b_X7_prevotesNew_77 hR hS hM t_x0 t_x1 ok hx
      · have ok := ok.2 c_70
        have hx := xif_n c_70 hx
        exact k5b_X7_prevotesNew_73 hR hS hM t_x0 t_x1 ok hx
set_option maxRecDepth 100000 in
set_option maxHeartbeats 4000000 in
theorem k5b_X7_prevotesNew_42 {u g H T N : Nat} {S : cS} {S0 : cS} {R_ : Prop} {X : Int32 × cS → Prop} (hR : ∀ v S', St u g H T S' → M5 g H S0 S' → X (v, S') → R_) (hS : St u g H T S) (hM : M5 g H S0 S) (ok : KO_X7_prevotesNew_42 N g H T S) (hx : X (KF_X7_prevotesNew_42 N g H T S)) : R_ := by
  unfold KO_X7_prevotesNew_42 at ok
  unfold KF_X7_prevotesNew_42 at hx
  exact hR _ _ hS hM hx
set_option maxRecDepth 100000 in
set_option maxHeartbeats 4000000 in
theorem k5b_X7_prevotesNew_26 {u g H T N : Nat} {S : cS} {S0 : cS} {R_ : Prop} {X : Int32 × cS → Prop} (hR : ∀ v S', St u g H T S' → M5 g H S0 S' → X (v, S') → R_) {x0 : Option Nat} {s0 : Option Nat} (hS : St u g H T S) (hM : M5 g H S0 S) (t_x0 : tN g H x0) (t_s0 : tK S 5 s0) (ok : KO_X7_prevotesNew_26 N g H T x0 s0 S) (hx : X (KF_X7_prevotesNew_26 N g H T x0 s0 S)) : R_ := by
  unfold KO_X7_prevotesNew_26 at ok
  unfold KF_X7_prevotesNew_26 at hx
  refine pif_p ok (fun c_28 => ?_) (fun c_28 => ?_)
  · have ok := ok.1 c_28
    have hx := xif_p c_28 hx
    exact k5b_X7_prevotesNew_42 hR hS hM  ok hx
  · have ok := ok.2 c_28
    have hx := xif_n c_28 hx
    have ok := ok.2
    refine pif_p ok (fun c_39 => ?_) (fun c_39 => ?_)
    · have ok := ok.1 c_39
      have hx := xif_p c_39 hx
      have nn_46 := ok.1
      have ok := ok.2
      obtain ⟨hS, hm_49⟩ := k5c_X7_approves hS t_x0 ok.1
      have hM := hM.trans hm_49
      have ok := ok.2
      exact k5b_X7_prevotesNew_52 hR hS hM t_x0 (hm_49.tK t_s0 (by decide)) ok hx
    · have ok := ok.2 c_39
      have hx := xif_n c_39 hx
      exact k5b_X7_prevotesNew_42 hR hS hM  ok hx
set_option maxRecDepth 100000 in
set_option maxHeartbeats 4000000 in
theorem k5b_X7_prevotesNew_0 {u g H T N : Nat} {S : cS} {S0 : cS} {R_ : Prop} {X : Int32 × cS → Prop} (hR : ∀ v S', St u g H T S' → M5 g H S0 S' → X (v, S') → R_) {x0 : Option Nat} (hS : St u g H T S) (hM : M5 g H S0 S) (t_x0 : tN g H x0) (ok : KO_X7_prevotesNew_0 N g H T x0 S) (hx : X (KF_X7_prevotesNew_0 N g H T x0 S)) : R_ := by
  unfold KO_X7_prevotesNew_0 at ok
  unfold KF_X7_prevotesNew_0 at hx
  have nn_1 := ok.1
  have ok := ok.2
  refine pif_n ok (fun c_4 => ?_) (fun c_4 => ?_)
  · have ok := ok.2 c_4
    have hx := xif_n c_4 hx
    exact k5b_X7_prevotesNew_26 hR hS hM t_x0 tK_none ok hx
  · have ok := ok.1 c_4
    have hx := xif_p c_4 hx
    have tv_19 := kpc_X8_proposal hS (o53 (tN.o t_x0 nn_1)) ok.1
    have ok := ok.2
    exact k5b_X7_prevotesNew_26 hR hS hM t_x0 tv_19 ok hx
set_option maxRecDepth 100000 in
set_option maxHeartbeats 4000000 in
theorem k5c_X7_prevotesNew {u g H T N : Nat} {S : cS} {x0 : Option Nat} (hS : St u g H T S) (t_x0 : tN g H x0) (ok : p_X7_prevotesNew N g H T S x0) : St u g H T (k_X7_prevotesNew N g H T S x0).2 ∧ M5 g H S (k_X7_prevotesNew N g H T S x0).2 := by
  exact k5b_X7_prevotesNew_0 (X := fun F => F = k_X7_prevotesNew N g H T S x0) (fun v S' h1 h2 h => by rw [← h]; exact ⟨h1, h2⟩) hS M5.rfl' t_x0 ok rfl

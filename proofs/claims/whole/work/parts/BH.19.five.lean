set_option maxRecDepth 100000 in
set_option maxHeartbeats 4000000 in
theorem k5b_X11_putInt_46 {g H T N : Nat} {S : cS} {S0 : cS} {R_ : Prop} {X : cS → Prop} (hR : ∀ S', St 1 g H T S' → M5 g H S0 S' → X S' → R_) (hS : St 1 g H T S) (hM : M5 g H S0 S) (ok : KO_X11_putInt_46 N g H T S) (hx : X (KF_X11_putInt_46 N g H T S)) : R_ := by
  unfold KO_X11_putInt_46 at ok
  unfold KF_X11_putInt_46 at hx
  exact hR _ hS hM hx
set_option maxRecDepth 100000 in
set_option maxHeartbeats 4000000 in
theorem k5b_X11_putInt_40 {g H T N : Nat} {S : cS} {S0 : cS} {R_ : Prop} {X : Nat × cS → Prop} (hX0 : ∀ (S' : cS), St 1 g H T S' → M5 g H S0 S' → X (0, S') → R_) {rec : Nat → Int32 → Int32 → cS → Nat × cS} {rok : Nat → Int32 → Int32 → cS → Prop} (hrec : ∀ (x0 : Nat) (x1 : Int32) (x2 : Int32) (S : cS), St 1 g H T S → M5 g H S0 S → isO g H 9 x0 → rok x0 x1 x2 S → X (rec x0 x1 x2 S) → R_) {x0 : Nat} {x1 : Int32} {x2 : Int32} (hS : St 1 g H T S) (hM : M5 g H S0 S) (t_x0 : isO g H 9 x0) (ok : KO_X11_putInt_40 N g H T rok x0 x1 x2 S) (hx : X (KF_X11_putInt_40 N g H T rec x0 x1 x2 S)) : R_ := by
  unfold KO_X11_putInt_40 at ok
  unfold KF_X11_putInt_40 at hx
  exact hrec _ _ _ S hS hM t_x0 ok hx
set_option maxRecDepth 100000 in
set_option maxHeartbeats 4000000 in
theorem k5bb_X11_putInt_3 {g H T N : Nat} {S : cS} {S0 : cS} {R_ : Prop} {X : Nat × cS → Prop} (hX0 : ∀ (S' : cS), St 1 g H T S' → M5 g H S0 S' → X (0, S') → R_) {rec : Nat → Int32 → Int32 → cS → Nat × cS} {rok : Nat → Int32 → Int32 → cS → Prop} (hrec : ∀ (x0 : Nat) (x1 : Int32) (x2 : Int32) (S : cS), St 1 g H T S → M5 g H S0 S → isO g H 9 x0 → rok x0 x1 x2 S → X (rec x0 x1 x2 S) → R_) {x0 : Nat} {x1 : Int32} {x2 : Int32} (hS : St 1 g H T S) (hM : M5 g H S0 S) (t_x0 : isO g H 9 x0) (ok : KOB_X11_putInt_3 N g H T rok x0 x1 x2 S) (hx : X (KB_X11_putInt_3 N g H T rec x0 x1 x2 S)) : R_ := by
  unfold KOB_X11_putInt_3 at ok
  unfold KB_X11_putInt_3 at hx
  refine pif_p ok (fun c_4 => ?_) (fun c_4 => ?_)
  · have ok := ok.1 c_4
    have hx := xif_p c_4 hx
    exact hX0 S hS hM  hx
  · have ok := ok.2 c_4
    have hx := xif_n c_4 hx
    refine pif_p ok (fun c_14 => ?_) (fun c_14 => ?_)
    · have ok := ok.1 c_14
      have hx := xif_p c_14 hx
      exact hX0 S hS hM  hx
    · have ok := ok.2 c_14
      have hx := xif_n c_14 hx
      have hS := hS.Ab (g + 1) (cI S 3 x0).toNatClampNeg ((x1 >>> (x2 &&& 31)).toInt8.toInt32)
      have hM := hM.A (g + 1) (cI S 3 x0).toNatClampNeg (((x1 >>> (x2 &&& 31)).toInt8.toInt32).toInt8.toInt32)
      have ok := ok.2
      have hS := hS.I 3 x0 ((cI (csA S (g + 1) (cI S 3 x0).toNatClampNeg (((x1 >>> (x2 &&& 31)).toInt8.toInt32).toInt8.toInt32)) 3 x0) + (nI 1))
      have hM := hM.I 3 x0 ((cI (csA S (g + 1) (cI S 3 x0).toNatClampNeg (((x1 >>> (x2 &&& 31)).toInt8.toInt32).toInt8.toInt32)) 3 x0) + (nI 1))
      exact k5b_X11_putInt_40 hX0 hrec hS hM t_x0 ok hx
set_option maxRecDepth 100000 in
set_option maxHeartbeats 4000000 in
theorem k5l_X11_putInt_3 {g H T N : Nat} {S0 : cS} {R_ : Prop} {X : Nat × cS → Prop} (hX0 : ∀ (S' : cS), St 1 g H T S' → M5 g H S0 S' → X (0, S') → R_) : ∀ (n : Nat) (x0 : Nat) (x1 : Int32) (x2 : Int32) (S : cS), St 1 g H T S → M5 g H S0 S → isO g H 9 x0 → KOL_X11_putInt_3 N g H T n x0 x1 x2 S → X (KL_X11_putInt_3 N g H T n x0 x1 x2 S) → R_ := by
  intro n
  induction n with
  | zero => intro x0 x1 x2 S hS hM t_x0 ok; exact absurd ok id
  | succ n ih =>
    intro x0 x1 x2 S hS hM t_x0 ok hx
    exact k5bb_X11_putInt_3 hX0 (rec := KL_X11_putInt_3 N g H T n) (rok := KOL_X11_putInt_3 N g H T n) (fun x0 x1 x2 S hS hM t_x0 ok hx => ih x0 x1 x2 S hS hM t_x0 ok hx) hS hM t_x0 ok hx
set_option maxRecDepth 100000 in
set_option maxHeartbeats 4000000 in
theorem k5d_X11_putInt_3 {g H T N : Nat} {S : cS} {S0 : cS} {R_ : Prop} {X : cS → Prop} (hR : ∀ S', St 1 g H T S' → M5 g H S0 S' → X S' → R_) {x0 : Nat} {x1 : Int32} {x2 : Int32} (hS : St 1 g H T S) (hM : M5 g H S0 S) (t_x0 : isO g H 9 x0) (ok : KOL_X11_putInt_3 N g H T N x0 x1 x2 S ∧ KOA_X11_putInt_3 N g H T x0 x1 x2 S (KL_X11_putInt_3 N g H T N x0 x1 x2 S)) (hx : X (KA_X11_putInt_3 N g H T x0 x1 x2 S (KL_X11_putInt_3 N g H T N x0 x1 x2 S))) : R_ := by
  refine k5l_X11_putInt_3 ?_ N x0 x1 x2 S hS hM t_x0 ok.1 (X := fun z => KOA_X11_putInt_3 N g H T x0 x1 x2 S z ∧ X (KA_X11_putInt_3 N g H T x0 x1 x2 S z)) ⟨ok.2, hx⟩
  · intro S' hS hM hz
    obtain ⟨ok, hx⟩ := hz
    unfold KOA_X11_putInt_3 at ok
    unfold KA_X11_putInt_3 at hx
    exact k5b_X11_putInt_46 hR hS hM  ok hx
set_option maxRecDepth 100000 in
set_option maxHeartbeats 4000000 in
theorem k5b_X11_putInt_0 {g H T N : Nat} {S : cS} {S0 : cS} {R_ : Prop} {X : cS → Prop} (hR : ∀ S', St 1 g H T S' → M5 g H S0 S' → X S' → R_) {x0 : Nat} {x1 : Int32} (hS : St 1 g H T S) (hM : M5 g H S0 S) (t_x0 : isO g H 9 x0) (ok : KO_X11_putInt_0 N g H T x0 x1 S) (hx : X (KF_X11_putInt_0 N g H T x0 x1 S)) : R_ := by
  unfold KO_X11_putInt_0 at ok
  unfold KF_X11_putInt_0 at hx
  exact k5d_X11_putInt_3 hR hS hM t_x0 ok hx
set_option maxRecDepth 100000 in
set_option maxHeartbeats 4000000 in
theorem k5c_X11_putInt {g H T N : Nat} {S : cS} {a0 : Nat} {x1 : Int32} (hS : St 1 g H T S) (t_x0 : isO g H 9 a0) (ok : p_X11_putInt N g H T S a0 x1) : St 1 g H T (k_X11_putInt N g H T S a0 x1) ∧ M5 g H S (k_X11_putInt N g H T S a0 x1) := by
  exact k5b_X11_putInt_0 (X := fun F => F = k_X11_putInt N g H T S a0 x1) (fun S' h1 h2 h => by rw [← h]; exact ⟨h1, h2⟩) hS M5.rfl' t_x0 ok rfl
set_option maxRecDepth 100000 in
set_option maxHeartbeats 4000000 in
theorem k5b_X11_feed_42 {g H T N : Nat} {S : cS} {S0 : cS} {R_ : Prop} {X : Int32 × cS → Prop} (hR : ∀ v S', St 1 g H T S' → M5 g H S0 S' → X (v, S') → R_) (hS : St 1 g H T S) (hM : M5 g H S0 S) (ok : KO_X11_feed_42 N g H T S) (hx : X (KF_X11_feed_42 N g H T S)) : R_ := by
  unfold KO_X11_feed_42 at ok
  unfold KF_X11_feed_42 at hx
  exact hR _ _ hS hM hx
set_option maxRecDepth 100000 in
set_option maxHeartbeats 4000000 in
theorem k5b_X11_feed_36 {g H T N : Nat} {S : cS} {S0 : cS} {R_ : Prop} {X : Int32 × cS → Prop} (hR : ∀ v S', St 1 g H T S' → M5 g H S0 S' → X (v, S') → R_) {x0 : Nat} {x5 : Int32} (hS : St 1 g H T S) (hM : M5 g H S0 S) (t_x0 : isO g H 9 x0) (ok : KO_X11_feed_36 N g H T x0 x5 S) (hx : X (KF_X11_feed_36 N g H T x0 x5 S)) : R_ := by
  unfold KO_X11_feed_36 at ok
  unfold KF_X11_feed_36 at hx
  obtain ⟨hS, hm_39⟩ := k5c_X11_putInt hS t_x0 ok.1
  have hM := hM.trans hm_39
  have ok := ok.2
  exact k5b_X11_feed_42 hR hS hM  ok hx
set_option maxRecDepth 100000 in
set_option maxHeartbeats 4000000 in
theorem k5b_X11_feed_30 {g H T N : Nat} {S : cS} {S0 : cS} {R_ : Prop} {X : Int32 × cS → Prop} (hR : ∀ v S', St 1 g H T S' → M5 g H S0 S' → X (v, S') → R_) {x0 : Nat} {x4 : Int32} {x5 : Int32} (hS : St 1 g H T S) (hM : M5 g H S0 S) (t_x0 : isO g H 9 x0) (ok : KO_X11_feed_30 N g H T x0 x4 x5 S) (hx : X (KF_X11_feed_30 N g H T x0 x4 x5 S)) : R_ := by
  unfold KO_X11_feed_30 at ok
  unfold KF_X11_feed_30 at hx
  obtain ⟨hS, hm_33⟩ := k5c_X11_putInt hS t_x0 ok.1
  have hM := hM.trans hm_33
  have ok := ok.2
  exact k5b_X11_feed_36 hR hS hM t_x0 ok hx
set_option maxRecDepth 100000 in
set_option maxHeartbeats 4000000 in
theorem k5b_X11_feed_25 {g H T N : Nat} {S : cS} {S0 : cS} {R_ : Prop} {X : Int32 × cS → Prop} (hR : ∀ v S', St 1 g H T S' → M5 g H S0 S' → X (v, S') → R_) {x0 : Nat} {x3 : Int32} {x4 : Int32} {x5 : Int32} (hS : St 1 g H T S) (hM : M5 g H S0 S) (t_x0 : isO g H 9 x0) (ok : KO_X11_feed_25 N g H T x0 x3 x4 x5 S) (hx : X (KF_X11_feed_25 N g H T x0 x3 x4 x5 S)) : R_ := by
  unfold KO_X11_feed_25 at ok
  unfold KF_X11_feed_25 at hx
  obtain ⟨hS, hm_27⟩ := k5c_X11_putInt hS t_x0 ok.1
  have hM := hM.trans hm_27
  have ok := ok.2
  exact k5b_X11_feed_30 hR hS hM t_x0 ok hx
set_option maxRecDepth 100000 in
set_option maxHeartbeats 4000000 in
theorem k5b_X11_feed_20 {g H T N : Nat} {S : cS} {S0 : cS} {R_ : Prop} {X : Int32 × cS → Prop} (hR : ∀ v S', St 1 g H T S' → M5 g H S0 S' → X (v, S') → R_) {x0 : Nat} {x2 : Int32} {x3 : Int32} {x4 : Int32} {x5 : Int32} (hS : St 1 g H T S) (hM : M5 g H S0 S) (t_x0 : isO g H 9 x0) (ok : KO_X11_feed_20 N g H T x0 x2 x3 x4 x5 S) (hx : X (KF_X11_feed_20 N g H T x0 x2 x3 x4 x5 S)) : R_ := by
  unfold KO_X11_feed_20 at ok
  unfold KF_X11_feed_20 at hx
  obtain ⟨hS, hm_22⟩ := k5c_X11_putInt hS t_x0 ok.1
  have hM := hM.trans hm_22
  have ok := ok.2
  exact k5b_X11_feed_25 hR hS hM t_x0 ok hx
set_option maxRecDepth 100000 in
set_option maxHeartbeats 4000000 in
theorem k5b_X11_feed_0 {g H T N : Nat} {S : cS} {S0 : cS} {R_ : Prop} {X : Int32 × cS → Prop} (hR : ∀ v S', St 1 g H T S' → M5 g H S0 S' → X (v, S') → R_) {x0 : Nat} {x1 : Int32} {x2 : Int32} {x3 : Int32} {x4 : Int32} {x5 : Int32} (hS : St 1 g H T S) (hM : M5 g H S0 S) (t_x0 : isO g H 9 x0) (ok : KO_X11_feed_0 N g H T x0 x1 x2 x3 x4 x5 S) (hx : X (KF_X11_feed_0 N g H T x0 x1 x2 x3 x4 x5 S)) : R_ := by
  unfold KO_X11_feed_0 at ok
  unfold KF_X11_feed_0 at hx
  refine pif_p ok (fun c_10 => ?_) (fun c_10 => ?_)
  · have ok := ok.1 c_10
    have hx := xif_p c_10 hx
    obtain ⟨hS, hm_17⟩ := k5c_X11_putInt hS t_x0 ok.1
    have hM := hM.trans hm_17
    have ok := ok.2
    exact k5b_X11_feed_20 hR hS hM t_x0 ok hx
  · have ok := ok.2 c_10
    have hx := xif_n c_10 hx
    exact hR _ _ hS hM hx
set_option maxRecDepth 100000 in
set_option maxHeartbeats 4000000 in
theorem k5c_X11_feed {g H T N : Nat} {S : cS} {a0 : Nat} {x1 : Int32} {x2 : Int32} {x3 : Int32} {x4 : Int32} {x5 : Int32} (hS : St 1 g H T S) (t_x0 : isO g H 9 a0) (ok : p_X11_feed N g H T S a0 x1 x2 x3 x4 x5) : St 1 g H T (k_X11_feed N g H T S a0 x1 x2 x3 x4 x5).2 ∧ M5 g H S (k_X11_feed N g H T S a0 x1 x2 x3 x4 x5).2 := by
  exact k5b_X11_feed_0 (X := fun F => F = k_X11_feed N g H T S a0 x1 x2 x3 x4 x5) (fun v S' h1 h2 h => by rw [← h]; exact ⟨h1, h2⟩) hS M5.rfl' t_x0 ok rfl
set_option maxRecDepth 100000 in
set_option maxHeartbeats 4000000 in
theorem k5b_X11_lie_142 {g H T N : Nat} {S : cS} {S0 : cS} {R_ : Prop} {X : Int32 × cS → Prop} (hR : ∀ v S', St 1 g H T S' → M5 g H S0 S' → X (v, S') → R_) {s0 : Int32} (hS : St 1 g H T S) (hM : M5 g H S0 S) (ok : KO_X11_lie_142 N g H T s0 S) (hx : X (KF_X11_lie_142 N g H T s0 S)) : R_ := by
  unfold KO_X11_lie_142 at ok
  unfold KF_X11_lie_142 at hx
  exact hR _ _ hS hM hx
set_option maxRecDepth 100000 in
set_option maxHeartbeats 4000000 in
theorem k5b_X11_lie_132 {g H T N : Nat} {S : cS} {S0 : cS} {R_ : Prop} {X : Int32 × cS → Prop} (hR : ∀ v S', St 1 g H T S' → M5 g H S0 S' → X (v, S') → R_) {x5 : Int32} (hS : St 1 g H T S) (hM : M5 g H S0 S) (ok : KO_X11_lie_132 N g H T x5 S) (hx : X (KF_X11_lie_132 N g H T x5 S)) : R_ := by
  unfold KO_X11_lie_132 at ok
  unfold KF_X11_lie_132 at hx
  refine pif_n ok (fun c_134 => ?_) (fun c_134 => ?_)
  · have ok := ok.2 c_134
    have hx := xif_n c_134 hx
    exact k5b_X11_lie_142 hR hS hM  ok hx
  · have ok := ok.1 c_134
    have hx := xif_p c_134 hx
    exact k5b_X11_lie_142 hR hS hM  ok hx
set_option maxRecDepth 100000 in
set_option maxHeartbeats 4000000 in
theorem k5b_X11_lie_120 {g H T N : Nat} {S : cS} {S0 : cS} {R_ : Prop} {X : Int32 × cS → Prop} (hR : ∀ v S', St 1 g H T S' → M5 g H S0 S' → X (v, S') → R_) {x0 : Nat} {x4 : Option Nat} {x5 : Int32} (hS : St 1 g H T S) (hM : M5 g H S0 S) (t_x0 : isO g H 9 x0) (t_x4 : tK S 5 x4) (ok : KO_X11_lie_120 N g H T x0 x4 x5 S) (hx : X (KF_X11_lie_120 N g H T x0 x4 x5 S)) : R_ := by
  unfold KO_X11_lie_120 at ok
  unfold KF_X11_lie_120 at hx
  obtain ⟨hS, hm_129⟩ := k5c_X9_drop hS (o86 (o90 t_x0)) t_x4 ok.1
  have hM := hM.trans hm_129
  have ok := ok.2
  exact k5b_X11_lie_132 hR hS hM  ok hx
set_option maxRecDepth 100000 in
set_option maxHeartbeats 4000000 in
theorem k5b_X11_lie_115 {g H T N : Nat} {S : cS} {S0 : cS} {R_ : Prop} {X : Int32 × cS → Prop} (hR : ∀ v S', St 1 g H T S' → M5 g H S0 S' → X (v, S') → R_) {x0 : Nat} {x4 : Option Nat} {x5 : Int32} (hS : St 1 g H T S) (hM : M5 g H S0 S) (t_x0 : isO g H 9 x0) (t_x4 : tK S 5 x4) (ok : KO_X11_lie_115 N g H T x0 x4 x5 S) (hx : X (KF_X11_lie_115 N g H T x0 x4 x5 S)) : R_ := by
  unfold KO_X11_lie_115 at ok
  unfold KF_X11_lie_115 at hx
  have hS := hS.I 3 x0 (nI 0)
  have hM := hM.I 3 x0 (nI 0)
  exact k5b_X11_lie_120 hR hS hM t_x0 (tK_I t_x4) ok hx
set_option maxRecDepth 100000 in
set_option maxHeartbeats 4000000 in
theorem k5b_X11_lie_94 {g H T N : Nat} {S : cS} {S0 : cS} {R_ : Prop} {X : Int32 × cS → Prop} (hR : ∀ v S', St 1 g H T S' → M5 g H S0 S' → X (v, S') → R_) {x0 : Nat} {x1 : Int32} {x2 : Int32} {x4 : Option Nat} {s0 : Int32} (hS : St 1 g H T S) (hM : M5 g H S0 S) (t_x0 : isO g H 9 x0) (t_x4 : tK S 5 x4) (ok : KO_X11_lie_94 N g H T x0 x1 x2 x4 s0 S) (hx : X (KF_X11_lie_94 N g H T x0 x1 x2 x4 s0 S)) : R_ := by
  unfold KO_X11_lie_94 at ok
  unfold KF_X11_lie_94 at hx
  refine pif_n ok (fun c_98 => ?_) (fun c_98 => ?_)
  · have ok := ok.2 c_98
    have hx := xif_n c_98 hx
    exact k5b_X11_lie_120 hR hS hM t_x0 t_x4 ok hx
  · have ok := ok.1 c_98
    have hx := xif_p c_98 hx
    obtain ⟨hS, hm_112⟩ := k5c_X9_post hS (o86 (o90 t_x0)) t_x4 ok.1
    have hM := hM.trans hm_112
    have ok := ok.2
    exact k5b_X11_lie_115 hR hS hM t_x0 (hm_112.tK t_x4 (by decide)) ok hx
set_option maxRecDepth 100000 in
set_option maxHeartbeats 4000000 in
theorem k5b_X11_lie_93 {g H T N : Nat} {S : cS} {S0 : cS} {R_ : Prop} {X : Int32 × cS → Prop} (hR : ∀ v S', St 1 g H T S' → M5 g H S0 S' → X (v, S') → R_) {x0 : Nat} {x1 : Int32} {x2 : Int32} {x4 : Option Nat} (hS : St 1 g H T S) (hM : M5 g H S0 S) (t_x0 : isO g H 9 x0) (t_x4 : tK S 5 x4) (ok : KO_X11_lie_93 N g H T x0 x1 x2 x4 S) (hx : X (KF_X11_lie_93 N g H T x0 x1 x2 x4 S)) : R_ := by
  unfold KO_X11_lie_93 at ok
  unfold KF_X11_lie_93 at hx
  exact k5b_X11_lie_94 hR hS hM t_x0 t_x4 ok hx
set_option maxRecDepth 100000 in
set_option maxHeartbeats 4000000 in
theorem k5b_X11_lie_64 {g H T N : Nat} {S : cS} {S0 : cS} {R_ : Prop} {X : Int32 × cS → Prop} (hR : ∀ v S', St 1 g H T S' → M5 g H S0 S' → X (v, S') → R_) {x0 : Nat} {x1 : Int32} {x2 : Int32} {x4 : Option Nat} {s0 : Int32} (hS : St 1 g H T S) (hM : M5 g H S0 S) (t_x0 : isO g H 9 x0) (t_x4 : tK S 5 x4) (ok : KO_X11_lie_64 N g H T x0 x1 x2 x4 s0 S) (hx : X (KF_X11_lie_64 N g H T x0 x1 x2 x4 s0 S)) : R_ := by
  unfold KO_X11_lie_64 at ok
  unfold KF_X11_lie_64 at hx
  refine pif_p ok (fun c_64 => ?_) (fun c_64 => ?_)
  · have ok := ok.1 c_64
    have hx := xif_p c_64 hx
    exact k5b_X11_lie_93 hR hS hM t_x0 t_x4 ok hx
  · have ok := ok.2 c_64
    have hx := xif_n c_64 hx
    have ok := ok.2
    refine pif_p ok (fun c_86 => ?_) (fun c_86 => ?_)
    · have ok := ok.1 c_86
      have hx := xif_p c_86 hx
      exact k5b_X11_lie_93 hR hS hM t_x0 t_x4 ok hx
    · have ok := ok.2 c_86
      have hx := xif_n c_86 hx
      exact k5b_X11_lie_94 hR hS hM t_x0 t_x4 ok hx
set_option maxRecDepth 100000 in
set_option maxHeartbeats 4000000 in
theorem k5b_X11_lie_52 {g H T N : Nat} {S : cS} {S0 : cS} {R_ : Prop} {X : Int32 × cS → Prop} (hR : ∀ v S', St 1 g H T S' → M5 g H S0 S' → X (v, S') → R_) {x0 : Nat} {x1 : Int32} {x2 : Int32} {x4 : Option Nat} (hS : St 1 g H T S) (hM : M5 g H S0 S) (t_x0 : isO g H 9 x0) (t_x4 : tK S 5 x4) (ok : KO_X11_lie_52 N g H T x0 x1 x2 x4 S) (hx : X (KF_X11_lie_52 N g H T x0 x1 x2 x4 S)) : R_ := by
  unfold KO_X11_lie_52 at ok
  unfold KF_X11_lie_52 at hx
  obtain ⟨hS, hm_61⟩ := k5c_X1_look hS (o87 (o90 t_x0)) t_x4 ok.1
  have hM := hM.trans hm_61
  have ok := ok.2
  exact k5b_X11_lie_64 hR hS hM t_x0 (hm_61.tK t_x4 (by decide)) ok hx
set_option maxRecDepth 100000 in
set_option maxHeartbeats 4000000 in
theorem k5b_X11_lie_35 {g H T N : Nat} {S : cS} {S0 : cS} {R_ : Prop} {X : Int32 × cS → Prop} (hR : ∀ v S', St 1 g H T S' → M5 g H S0 S' → X (v, S') → R_) {x0 : Nat} {x1 : Int32} {x2 : Int32} {x3 : Int32} {s0 : Option Nat} (hS : St 1 g H T S) (hM : M5 g H S0 S) (t_x0 : isO g H 9 x0) (t_s0 : tK S 5 s0) (ok : KO_X11_lie_35 N g H T x0 x1 x2 x3 s0 S) (hx : X (KF_X11_lie_35 N g H T x0 x1 x2 x3 s0 S)) : R_ := by
  unfold KO_X11_lie_35 at ok
  unfold KF_X11_lie_35 at hx
  have nn_44 := ok.1
  have p_44 := hS.m0k t_s0 ok.1
  have ok := ok.2
  have tq_49 : tK S 20 (some (g + 1)) := tK_some (tK.cis (hS.rk (c := 9) (k := 1) t_x0 rfl (by omega)) (Option.some_ne_none _)).2
  have hS := hS.Ac ((za s0) + 2) (g + 1) (nI 0).toNatClampNeg (nI 0).toNatClampNeg x3.toNatClampNeg tq_49
  have hM := hM.Ar ((za s0) + 2) (va_cpy (cA S (g + 1)) (cA S ((za s0) + 2)) (nI 0).toNatClampNeg (nI 0).toNatClampNeg x3.toNatClampNeg)
  have ok := ok.2
  exact k5b_X11_lie_52 hR hS hM t_x0 (tK_Ar t_s0) ok hx
set_option maxRecDepth 100000 in
set_option maxHeartbeats 4000000 in
theorem k5b_X11_lie_22 {g H T N : Nat} {S : cS} {S0 : cS} {R_ : Prop} {X : Int32 × cS → Prop} (hR : ∀ v S', St 1 g H T S' → M5 g H S0 S' → X (v, S') → R_) (hS : St 1 g H T S) (hM : M5 g H S0 S) (ok : KO_X11_lie_22 N g H T S) (hx : X (KF_X11_lie_22 N g H T S)) : R_ := by
  unfold KO_X11_lie_22 at ok
  unfold KF_X11_lie_22 at hx
  exact hR _ _ hS hM hx
set_option maxRecDepth 100000 in
set_option maxHeartbeats 4000000 in
theorem k5b_X11_lie_0 {g H T N : Nat} {S : cS} {S0 : cS} {R_ : Prop} {X : Int32 × cS → Prop} (hR : ∀ v S', St 1 g H T S' → M5 g H S0 S' → X (v, S') → R_) {x0 : Nat} {x1 : Int32} {x2 : Int32} {x3 : Int32} (hS : St 1 g H T S) (hM : M5 g H S0 S) (t_x0 : isO g H 9 x0) (ok : KO_X11_lie_0 N g H T x0 x1 x2 x3 S) (hx : X (KF_X11_lie_0 N g H T x0 x1 x2 x3 S)) : R_ := by
  unfold KO_X11_lie_0 at ok
  unfold KF_X11_lie_0 at hx
  have ok := ok.2
  refine pif_p ok (fun c_6 => ?_) (fun c_6 => ?_)
  · have ok := ok.1 c_6
    have hx := xif_p c_6 hx
    exact k5b_X11_lie_22 hR hS hM  ok hx
  · have ok := ok.2 c_6
    have hx := xif_n c_6 hx
    refine pif_p ok (fun c_11 => ?_) (fun c_11 => ?_)
    · have ok := ok.1 c_11
      have hx := xif_p c_11 hx
      exact k5b_X11_lie_22 hR hS hM  ok hx
    · have ok := ok.2 c_11
      have hx := xif_n c_11 hx
      refine pif_p ok (fun c_19 => ?_) (fun c_19 => ?_)
      · have ok := ok.1 c_19
        have hx := xif_p c_19 hx
        obtain ⟨hS, hm_32, tv_32⟩ := k5c_X9_fresh hS (o86 (o90 t_x0)) ok.1
        have hM := hM.trans hm_32
        have ok := ok.2
        exact k5b_X11_lie_35 hR hS hM t_x0 tv_32 ok hx
      · have ok := ok.2 c_19
        have hx := xif_n c_19 hx
        exact k5b_X11_lie_22 hR hS hM  ok hx
set_option maxRecDepth 100000 in
set_option maxHeartbeats 4000000 in
theorem k5c_X11_lie {g H T N : Nat} {S : cS} {a0 : Nat} {x1 : Int32} {x2 : Int32} {x3 : Int32} (hS : St 1 g H T S) (t_x0 : isO g H 9 a0) (ok : p_X11_lie N g H T S a0 x1 x2 x3) : St 1 g H T (k_X11_lie N g H T S a0 x1 x2 x3).2 ∧ M5 g H S (k_X11_lie N g H T S a0 x1 x2 x3).2 := by
  exact k5b_X11_lie_0 (X := fun F => F = k_X11_lie N g H T S a0 x1 x2 x3) (fun v S' h1 h2 h => by rw [← h]; exact ⟨h1, h2⟩) hS M5.rfl' t_x0 ok rfl
set_option maxRecDepth 100000 in
set_option maxHeartbeats 4000000 in
theorem k5b_X11_pass_43 {g H T N : Nat} {S : cS} {S0 : cS} {R_ : Prop} {X : Int32 × cS → Prop} (hR : ∀ v S', St 1 g H T S' → M5 g H S0 S' → X (v, S') → R_) (hS : St 1 g H T S) (hM : M5 g H S0 S) (ok : KO_X11_pass_43 N g H T S) (hx : X (KF_X11_pass_43 N g H T S)) : R_ := by
  unfold KO_X11_pass_43 at ok
  unfold KF_X11_pass_43 at hx
  exact hR _ _ hS hM hx
set_option maxRecDepth 100000 in
set_option maxHeartbeats 4000000 in
theorem k5b_X11_pass_27 {g H T N : Nat} {S : cS} {S0 : cS} {R_ : Prop} {X : Int32 × cS → Prop} (hR : ∀ v S', St 1 g H T S' → M5 g H S0 S' → X (v, S') → R_) (hS : St 1 g H T S) (hM : M5 g H S0 S) (ok : KO_X11_pass_27 N g H T S) (hx : X (KF_X11_pass_27 N g H T S)) : R_ := by
  unfold KO_X11_pass_27 at ok
  unfold KF_X11_pass_27 at hx
  exact hR _ _ hS hM hx
set_option maxRecDepth 100000 in
set_option maxHeartbeats 4000000 in
theorem k5b_X11_pass_0 {g H T N : Nat} {S : cS} {S0 : cS} {R_ : Prop} {X : Int32 × cS → Prop} (hR : ∀ v S', St 1 g H T S' → M5 g H S0 S' → X (v, S') → R_) {x0 : Nat} {x1 : Int32} {x2 : Int32} {x3 : Int32} (hS : St 1 g H T S) (hM : M5 g H S0 S) (t_x0 : isO g H 9 x0) (ok : KO_X11_pass_0 N g H T x0 x1 x2 x3 S) (hx : X (KF_X11_pass_0 N g H T x0 x1 x2 x3 S)) : R_ := by
  unfold KO_X11_pass_0 at ok
  unfold KF_X11_pass_0 at hx
  have tv_8 := kpc_X9_loadOf hS (o86 (o90 t_x0)) ok.1
  have ok := ok.2
  refine pif_p ok (fun c_15 => ?_) (fun c_15 => ?_)
  · have ok := ok.1 c_15
    have hx := xif_p c_15 hx
    exact k5b_X11_pass_27 hR hS hM  ok hx
  · have ok := ok.2 c_15
    have hx := xif_n c_15 hx
    have ok := ok.2
    refine pif_n ok (fun c_24 => ?_) (fun c_24 => ?_)
    · have ok := ok.2 c_24
      have hx := xif_n c_24 hx
      obtain ⟨hS, hm_40⟩ := k5c_X9_post hS (o86 (o90 t_x0)) tv_8 ok.1
      have hM := hM.trans hm_40
      have ok := ok.2
      exact k5b_X11_pass_43 hR hS hM  ok hx
    · have ok := ok.1 c_24
      have hx := xif_p c_24 hx
      exact k5b_X11_pass_27 hR hS hM  ok hx
set_option maxRecDepth 100000 in
set_option maxHeartbeats 4000000 in
theorem k5c_X11_pass {g H T N : Nat} {S : cS} {a0 : Nat} {x1 : Int32} {x2 : Int32} {x3 : Int32} (hS : St 1 g H T S) (t_x0 : isO g H 9 a0) (ok : p_X11_pass N g H T S a0 x1 x2 x3) : St 1 g H T (k_X11_pass N g H T S a0 x1 x2 x3).2 ∧ M5 g H S (k_X11_pass N g H T S a0 x1 x2 x3).2 := by
  exact k5b_X11_pass_0 (X := fun F => F = k_X11_pass N g H T S a0 x1 x2 x3) (fun v S' h1 h2 h => by rw [← h]; exact ⟨h1, h2⟩) hS M5.rfl' t_x0 ok rfl
set_option maxRecDepth 100000 in
set_option maxHeartbeats 4000000 in
theorem k5b_X11_seal_183 {g H T N : Nat} {S : cS} {S0 : cS} {R_ : Prop} {X : Int32 × cS → Prop} (hR : ∀ v S', St 1 g H T S' → M5 g H S0 S' → X (v, S') → R_) {x5 : Int32} (hS : St 1 g H T S) (hM : M5 g H S0 S) (ok : KO_X11_seal_183 N g H T x5 S) (hx : X (KF_X11_seal_183 N g H T x5 S)) : R_ := by
  unfold KO_X11_seal_183 at ok
  unfold KF_X11_seal_183 at hx
  exact hR _ _ hS hM hx
set_option maxRecDepth 100000 in
set_option maxHeartbeats 4000000 in
theorem k5b_X11_seal_161 {g H T N : Nat} {S : cS} {S0 : cS} {R_ : Prop} {X : Int32 × cS → Prop} (hR : ∀ v S', St 1 g H T S' → M5 g H S0 S' → X (v, S') → R_) {x0 : Nat} {x1 : Int32} {x5 : Int32} {x6 : Option Nat} (hS : St 1 g H T S) (hM : M5 g H S0 S) (t_x0 : isO g H 9 x0) (t_x6 : tN g H x6) (ok : KO_X11_seal_161 N g H T x0 x1 x5 x6 S) (hx : X (KF_X11_seal_161 N g H T x0 x1 x5 x6 S)) : R_ := by
  unfold KO_X11_seal_161 at ok
  unfold KF_X11_seal_161 at hx
  have nn_163 := ok.1
  have ok := ok.2
  have tq_180 : tK S 20 (some (((za x6) + 6) + 3)) := tK_some (tK.cis (hS.rk (c := 0) (k := 3) (o54 (tN.o t_x6 nn_163)) rfl (by omega)) (Option.some_ne_none _)).2
  have hS := hS.Ac (g + 1) (((za x6) + 6) + 3) (nI 0).toNatClampNeg (x1 + (nI 35)).toNatClampNeg (nI 32).toNatClampNeg tq_180
  have hM := hM.Ar (g + 1) (va_cpy (cA S (((za x6) + 6) + 3)) (cA S (g + 1)) (nI 0).toNatClampNeg (x1 + (nI 35)).toNatClampNeg (nI 32).toNatClampNeg)
  have ok := ok.2
  exact k5b_X11_seal_183 hR hS hM  ok hx
set_option maxRecDepth 100000 in
set_option maxHeartbeats 4000000 in
theorem k5b_X11_seal_131 {g H T N : Nat} {S : cS} {S0 : cS} {R_ : Prop} {X : Int32 × cS → Prop} (hR : ∀ v S', St 1 g H T S' → M5 g H S0 S' → X (v, S') → R_) {x0 : Nat} {x1 : Int32} {x3 : Int32} {x5 : Int32} (hS : St 1 g H T S) (hM : M5 g H S0 S) (t_x0 : isO g H 9 x0) (ok : KO_X11_seal_131 N g H T x0 x1 x3 x5 S) (hx : X (KF_X11_seal_131 N g H T x0 x1 x3 x5 S)) : R_ := by
  unfold KO_X11_seal_131 at ok
  unfold KF_X11_seal_131 at hx
  have tv_133 := kpc_X11_honestNode hS t_x0 ok.1
  have ok := ok.2
  refine pif_p ok (fun c_140 => ?_) (fun c_140 => ?_)
  · have ok := ok.1 c_140
    have hx := xif_p c_140 hx
    exact k5b_X11_seal_183 hR hS hM  ok hx
  · have ok := ok.2 c_140
    have hx := xif_n c_140 hx
    have tq_158 : tK S 20 (some ((za (k_X11_honestNode N g H T S x0 x3)) + 11)) := tK_some (tK.cis (hS.rk (c := 5) (k := 5) (tN.o tv_133 c_140) rfl (by omega)) (Option.some_ne_none _)).2
    have hS := hS.Ac (g + 1) ((za (k_X11_honestNode N g H T S x0 x3)) + 11) (nI 0).toNatClampNeg (x1 + (nI 3)).toNatClampNeg (nI 32).toNatClampNeg tq_158
    have hM := hM.Ar (g + 1) (va_cpy (cA S ((za (k_X11_honestNode N g H T S x0 x3)) + 11)) (cA S (g + 1)) (nI 0).toNatClampNeg (x1 + (nI 3)).toNatClampNeg (nI 32).toNatClampNeg)
    have ok := ok.2
    exact k5b_X11_seal_161 hR hS hM t_x0 tv_133 ok hx
set_option maxRecDepth 100000 in
set_option maxHeartbeats 4000000 in
theorem k5b_X11_seal_112 {g H T N : Nat} {S : cS} {S0 : cS} {R_ : Prop} {X : Int32 × cS → Prop} (hR : ∀ v S', St 1 g H T S' → M5 g H S0 S' → X (v, S') → R_) {x0 : Nat} {x1 : Int32} {x3 : Int32} {x5 : Int32} {s0 : Int32} (hS : St 1 g H T S) (hM : M5 g H S0 S) (t_x0 : isO g H 9 x0) (ok : KO_X11_seal_112 N g H T x0 x1 x3 x5 s0 S) (hx : X (KF_X11_seal_112 N g H T x0 x1 x3 x5 s0 S)) : R_ := by
  unfold KO_X11_seal_112 at ok
  unfold KF_X11_seal_112 at hx
  obtain ⟨hS, hm_128⟩ := k5c_X2_top hS (o85 (o90 t_x0)) (hS.rk (c := 9) (k := 1) t_x0 rfl (by omega)) ok.1
  have hM := hM.trans hm_128
  have ok := ok.2
  exact k5b_X11_seal_131 hR hS hM t_x0 ok hx
set_option maxRecDepth 100000 in
set_option maxHeartbeats 4000000 in
theorem k5b_X11_seal_96 {g H T N : Nat} {S : cS} {S0 : cS} {R_ : Prop} {X : Int32 × cS → Prop} (hR : ∀ v S', St 1 g H T S' → M5 g H S0 S' → X (v, S') → R_) {x0 : Nat} {x1 : Int32} {x3 : Int32} {x5 : Int32} (hS : St 1 g H T S) (hM : M5 g H S0 S) (t_x0 : isO g H 9 x0) (ok : KO_X11_seal_96 N g H T x0 x1 x3 x5 S) (hx : X (KF_X11_seal_96 N g H T x0 x1 x3 x5 S)) : R_ := by
  unfold KO_X11_seal_96 at ok
  unfold KF_X11_seal_96 at hx
  obtain ⟨hS, hm_109⟩ := k5c_X2_climb hS (o85 (o90 t_x0)) (hS.rk (c := 9) (k := 1) t_x0 rfl (by omega)) ok.1
  have hM := hM.trans hm_109
  have ok := ok.2
  exact k5b_X11_seal_112 hR hS hM t_x0 ok hx
set_option maxRecDepth 100000 in
set_option maxHeartbeats 4000000 in
theorem k5b_X11_seal_55 {g H T N : Nat} {S : cS} {S0 : cS} {R_ : Prop} {X : Int32 × cS → Prop} (hR : ∀ v S', St 1 g H T S' → M5 g H S0 S' → X (v, S') → R_) {x0 : Nat} {x1 : Int32} {x2 : Int32} {x3 : Int32} {x4 : Int32} (hS : St 1 g H T S) (hM : M5 g H S0 S) (t_x0 : isO g H 9 x0) (ok : KO_X11_seal_55 N g H T x0 x1 x2 x3 x4 S) (hx : X (KF_X11_seal_55 N g H T x0 x1 x2 x3 x4 S)) : R_ := by
  unfold KO_X11_seal_55 at ok
  unfold KF_X11_seal_55 at hx
  have hS := hS.Ab (g + 1) (x1 + (nI 99)).toNatClampNeg ((if ((x2 - x4) / (nI 7)) < (nI 64) then ((x2 - x4) / (nI 7)) else (nI 64)).toInt8.toInt32)
  have hM := hM.A (g + 1) (x1 + (nI 99)).toNatClampNeg (((if ((x2 - x4) / (nI 7)) < (nI 64) then ((x2 - x4) / (nI 7)) else (nI 64)).toInt8.toInt32).toInt8.toInt32)
  have ok := ok.2
  obtain ⟨hS, hm_93⟩ := k5c_X2_plant hS (o85 (o90 t_x0)) (hS.rk (c := 9) (k := 1) t_x0 rfl (by omega)) ok.1
  have hM := hM.trans hm_93
  have ok := ok.2
  exact k5b_X11_seal_96 hR hS hM t_x0 ok hx
set_option maxRecDepth 100000 in
set_option maxHeartbeats 4000000 in
theorem k5b_X11_seal_24 {g H T N : Nat} {S : cS} {S0 : cS} {R_ : Prop} {X : Int32 × cS → Prop} (hR : ∀ v S', St 1 g H T S' → M5 g H S0 S' → X (v, S') → R_) (hS : St 1 g H T S) (hM : M5 g H S0 S) (ok : KO_X11_seal_24 N g H T S) (hx : X (KF_X11_seal_24 N g H T S)) : R_ := by
  unfold KO_X11_seal_24 at ok
  unfold KF_X11_seal_24 at hx
  exact hR _ _ hS hM hx
set_option maxRecDepth 100000 in
set_option maxHeartbeats 4000000 in
theorem k5b_X11_seal_0 {g H T N : Nat} {S : cS} {S0 : cS} {R_ : Prop} {X : Int32 × cS → Prop} (hR : ∀ v S', St 1 g H T S' → M5 g H S0 S' → X (v, S') → R_) {x0 : Nat} {x1 : Int32} {x2 : Int32} {x3 : Int32} (hS : St 1 g H T S) (hM : M5 g H S0 S) (t_x0 : isO g H 9 x0) (ok : KO_X11_seal_0 N g H T x0 x1 x2 x3 S) (hx : X (KF_X11_seal_0 N g H T x0 x1 x2 x3 S)) : R_ := by
  unfold KO_X11_seal_0 at ok
  unfold KF_X11_seal_0 at hx
  refine pif_p ok (fun c_1 => ?_) (fun c_1 => ?_)
  · have ok := ok.1 c_1
    have hx := xif_p c_1 hx
    exact k5b_X11_seal_24 hR hS hM  ok hx
  · have ok := ok.2 c_1
    have hx := xif_n c_1 hx
    refine pif_p ok (fun c_5 => ?_) (fun c_5 => ?_)
    · have ok := ok.1 c_5
      have hx := xif_p c_5 hx
      exact k5b_X11_seal_24 hR hS hM  ok hx
    · have ok := ok.2 c_5
      have hx := xif_n c_5 hx
      refine pif_p ok (fun c_13 => ?_) (fun c_13 => ?_)
      · have ok := ok.1 c_13
        have hx := xif_p c_13 hx
        exact k5b_X11_seal_24 hR hS hM  ok hx
      · have ok := ok.2 c_13
        have hx := xif_n c_13 hx
        refine pif_p ok (fun c_21 => ?_) (fun c_21 => ?_)
        · have ok := ok.1 c_21
          have hx := xif_p c_21 hx
          have ok := ok.2
          refine pif_p ok (fun c_36 => ?_) (fun c_36 => ?_)
          · have ok := ok.1 c_36
            have hx := xif_p c_36 hx
            exact k5b_X11_seal_55 hR hS hM t_x0 ok hx
          · have ok := ok.2 c_36
            have hx := xif_n c_36 hx
            have hS := hS.Ab (g + 1) (x1 + (nI 100)).toNatClampNeg (nI 0)
            have hM := hM.A (g + 1) (x1 + (nI 100)).toNatClampNeg ((nI 0).toInt8.toInt32)
            have ok := ok.2
            exact k5b_X11_seal_55 hR hS hM t_x0 ok hx
        · have ok := ok.2 c_21
          have hx := xif_n c_21 hx
          exact k5b_X11_seal_24 hR hS hM  ok hx
set_option maxRecDepth 100000 in
set_option maxHeartbeats 4000000 in
theorem k5c_X11_seal {g H T N : Nat} {S : cS} {a0 : Nat} {x1 : Int32} {x2 : Int32} {x3 : Int32} (hS : St 1 g H T S) (t_x0 : isO g H 9 a0) (ok : p_X11_seal N g H T S a0 x1 x2 x3) : St 1 g H T (k_X11_seal N g H T S a0 x1 x2 x3).2 ∧ M5 g H S (k_X11_seal N g H T S a0 x1 x2 x3).2 := by
  exact k5b_X11_seal_0 (X := fun F => F = k_X11_seal N g H T S a0 x1 x2 x3) (fun v S' h1 h2 h => by rw [← h]; exact ⟨h1, h2⟩) hS M5.rfl' t_x0 ok rfl

set_option maxRecDepth 100000 in
set_option maxHeartbeats 4000000 in
theorem k5b_X4_noteSnap_50 {u g H T N : Nat} {S : cS} {S0 : cS} {R_ : Prop} {X : Int32 × cS → Prop} (hR : ∀ v S', St u g H T S' → M5 g H S0 S' → X (v, S') → R_) {x0 : Nat} {x2 : Int32} {s0 : Int32} (hS : St u g H T S) (hM : M5 g H S0 S) (t_x0 : isO g H 3 x0) (ok : KO_X4_noteSnap_50 N g H T x0 x2 s0 S) (hx : X (KF_X4_noteSnap_50 N g H T x0 x2 s0 S)) : R_ := by
  unfold KO_X4_noteSnap_50 at ok
  unfold KF_X4_noteSnap_50 at hx
  refine pif_n ok (fun c_50 => ?_) (fun c_50 => ?_)
  · have ok := ok.2 c_50
    have hx := xif_n c_50 hx
    have hS0 := hS
    have hS := hS.I 5 x0 x2
    have hM := hM.I5 x0 x2 (ne5O hS0 t_x0 (by decide))
    exact hR _ _ hS hM hx
  · have ok := ok.1 c_50
    have hx := xif_p c_50 hx
    exact hR _ _ hS hM hx
set_option maxRecDepth 100000 in
set_option maxHeartbeats 4000000 in
theorem k5b_X4_noteSnap_45 {u g H T N : Nat} {S : cS} {S0 : cS} {R_ : Prop} {X : Int32 × cS → Prop} (hR : ∀ v S', St u g H T S' → M5 g H S0 S' → X (v, S') → R_) {x0 : Nat} {x2 : Int32} (hS : St u g H T S) (hM : M5 g H S0 S) (t_x0 : isO g H 3 x0) (ok : KO_X4_noteSnap_45 N g H T x0 x2 S) (hx : X (KF_X4_noteSnap_45 N g H T x0 x2 S)) : R_ := by
  unfold KO_X4_noteSnap_45 at ok
  unfold KF_X4_noteSnap_45 at hx
  obtain ⟨hS, hm_47⟩ := k5c_X4_write hS t_x0 ok.1
  have hM := hM.trans hm_47
  have ok := ok.2
  exact k5b_X4_noteSnap_50 hR hS hM t_x0 ok hx
set_option maxRecDepth 100000 in
set_option maxHeartbeats 4000000 in
theorem k5b_X4_noteSnap_32 {u g H T N : Nat} {S : cS} {S0 : cS} {R_ : Prop} {X : Int32 × cS → Prop} (hR : ∀ v S', St u g H T S' → M5 g H S0 S' → X (v, S') → R_) {x0 : Nat} {x1 : Option Nat} {x2 : Int32} (hS : St u g H T S) (hM : M5 g H S0 S) (t_x0 : isO g H 3 x0) (t_x1 : tK S 5 x1) (ok : KO_X4_noteSnap_32 N g H T x0 x1 x2 S) (hx : X (KF_X4_noteSnap_32 N g H T x0 x1 x2 S)) : R_ := by
  unfold KO_X4_noteSnap_32 at ok
  unfold KF_X4_noteSnap_32 at hx
  have nn_34 := ok.1
  have p_34 := hS.m0k t_x1 ok.1
  have ok := ok.2
  obtain ⟨hS, hm_42⟩ := k5c_X4_add hS t_x0 p_34 ok.1
  have hM := hM.trans hm_42
  have ok := ok.2
  exact k5b_X4_noteSnap_45 hR hS hM t_x0 ok hx
set_option maxRecDepth 100000 in
set_option maxHeartbeats 4000000 in
theorem k5b_X4_noteSnap_19 {u g H T N : Nat} {S : cS} {S0 : cS} {R_ : Prop} {X : Int32 × cS → Prop} (hR : ∀ v S', St u g H T S' → M5 g H S0 S' → X (v, S') → R_) {x0 : Nat} {x1 : Option Nat} {s0 : Int32} (hS : St u g H T S) (hM : M5 g H S0 S) (t_x0 : isO g H 3 x0) (t_x1 : tK S 5 x1) (ok : KO_X4_noteSnap_19 N g H T x0 x1 s0 S) (hx : X (KF_X4_noteSnap_19 N g H T x0 x1 s0 S)) : R_ := by
  unfold KO_X4_noteSnap_19 at ok
  unfold KF_X4_noteSnap_19 at hx
  have nn_25 := ok.1.1
  have ok := ok.2
  obtain ⟨hS, hm_29⟩ := k5c_X4_open hS t_x0 ok.1
  have hM := hM.trans hm_29
  have ok := ok.2
  exact k5b_X4_noteSnap_32 hR hS hM t_x0 (hm_29.tK t_x1 (by decide)) ok hx
set_option maxRecDepth 100000 in
set_option maxHeartbeats 4000000 in
theorem k5b_X4_noteSnap_0 {u g H T N : Nat} {S : cS} {S0 : cS} {R_ : Prop} {X : Int32 × cS → Prop} (hR : ∀ v S', St u g H T S' → M5 g H S0 S' → X (v, S') → R_) {x0 : Nat} {x1 : Option Nat} (hS : St u g H T S) (hM : M5 g H S0 S) (t_x0 : isO g H 3 x0) (t_x1 : tK S 5 x1) (ok : KO_X4_noteSnap_0 N g H T x0 x1 S) (hx : X (KF_X4_noteSnap_0 N g H T x0 x1 S)) : R_ := by
  unfold KO_X4_noteSnap_0 at ok
  unfold KF_X4_noteSnap_0 at hx
  refine pif_n ok (fun c_7 => ?_) (fun c_7 => ?_)
  · have ok := ok.2 c_7
    have hx := xif_n c_7 hx
    exact k5b_X4_noteSnap_19 hR hS hM t_x0 t_x1 ok hx
  · have ok := ok.1 c_7
    have hx := xif_p c_7 hx
    exact k5b_X4_noteSnap_19 hR hS hM t_x0 t_x1 ok hx
set_option maxRecDepth 100000 in
set_option maxHeartbeats 4000000 in
theorem k5c_X4_noteSnap {u g H T N : Nat} {S : cS} {a0 : Nat} {x1 : Option Nat} (hS : St u g H T S) (t_x0 : isO g H 3 a0) (t_x1 : tK S 5 x1) (ok : p_X4_noteSnap N g H T S a0 x1) : St u g H T (k_X4_noteSnap N g H T S a0 x1).2 ∧ M5 g H S (k_X4_noteSnap N g H T S a0 x1).2 := by
  exact k5b_X4_noteSnap_0 (X := fun F => F = k_X4_noteSnap N g H T S a0 x1) (fun v S' h1 h2 h => by rw [← h]; exact ⟨h1, h2⟩) hS M5.rfl' t_x0 t_x1 ok rfl
set_option maxRecDepth 100000 in
set_option maxHeartbeats 4000000 in
theorem k5b_X4_jot_65 {u g H T N : Nat} {S : cS} {S0 : cS} {R_ : Prop} {X : Int32 × cS → Prop} (hR : ∀ v S', St u g H T S' → M5 g H S0 S' → X (v, S') → R_) {x0 : Nat} {s0 : Int32} (hS : St u g H T S) (hM : M5 g H S0 S) (t_x0 : isO g H 3 x0) (ok : KO_X4_jot_65 N g H T x0 s0 S) (hx : X (KF_X4_jot_65 N g H T x0 s0 S)) : R_ := by
  unfold KO_X4_jot_65 at ok
  unfold KF_X4_jot_65 at hx
  refine pif_n ok (fun c_65 => ?_) (fun c_65 => ?_)
  · have ok := ok.2 c_65
    have hx := xif_n c_65 hx
    have hS := hS.I 6 x0 ((cI S 6 x0) + (nI 1))
    have hM := hM.I 6 x0 ((cI S 6 x0) + (nI 1))
    exact hR _ _ hS hM hx
  · have ok := ok.1 c_65
    have hx := xif_p c_65 hx
    exact hR _ _ hS hM hx
set_option maxRecDepth 100000 in
set_option maxHeartbeats 4000000 in
theorem k5b_X4_jot_52 {u g H T N : Nat} {S : cS} {S0 : cS} {R_ : Prop} {X : Int32 × cS → Prop} (hR : ∀ v S', St u g H T S' → M5 g H S0 S' → X (v, S') → R_) {x0 : Nat} (hS : St u g H T S) (hM : M5 g H S0 S) (t_x0 : isO g H 3 x0) (ok : KO_X4_jot_52 N g H T x0 S) (hx : X (KF_X4_jot_52 N g H T x0 S)) : R_ := by
  unfold KO_X4_jot_52 at ok
  unfold KF_X4_jot_52 at hx
  obtain ⟨hS, hm_62⟩ := k5c_X4_write hS t_x0 ok.1
  have hM := hM.trans hm_62
  have ok := ok.2
  exact k5b_X4_jot_65 hR hS hM t_x0 ok hx
set_option maxRecDepth 100000 in
set_option maxHeartbeats 4000000 in
theorem k5b_X4_jot_31 {u g H T N : Nat} {S : cS} {S0 : cS} {R_ : Prop} {X : Int32 × cS → Prop} (hR : ∀ v S', St u g H T S' → M5 g H S0 S' → X (v, S') → R_) {x0 : Nat} {x4 : Option Nat} {x5 : Int32} (hS : St u g H T S) (hM : M5 g H S0 S) (t_x0 : isO g H 3 x0) (t_x4 : tK S 5 x4) (ok : KO_X4_jot_31 N g H T x0 x4 x5 S) (hx : X (KF_X4_jot_31 N g H T x0 x4 x5 S)) : R_ := by
  unfold KO_X4_jot_31 at ok
  unfold KF_X4_jot_31 at hx
  refine pif_p ok (fun c_33 => ?_) (fun c_33 => ?_)
  · have ok := ok.1 c_33
    have hx := xif_p c_33 hx
    exact k5b_X4_jot_52 hR hS hM t_x0 ok hx
  · have ok := ok.2 c_33
    have hx := xif_n c_33 hx
    have p_39 := hS.m0k t_x4 c_33
    obtain ⟨hS, hm_49⟩ := k5c_X4_add hS t_x0 p_39 ok.1
    have hM := hM.trans hm_49
    have ok := ok.2
    exact k5b_X4_jot_52 hR hS hM t_x0 ok hx
set_option maxRecDepth 100000 in
set_option maxHeartbeats 4000000 in
theorem k5b_X4_jot_10 {u g H T N : Nat} {S : cS} {S0 : cS} {R_ : Prop} {X : Int32 × cS → Prop} (hR : ∀ v S', St u g H T S' → M5 g H S0 S' → X (v, S') → R_) {x0 : Nat} {x3 : Int32} {x4 : Option Nat} {x5 : Int32} (hS : St u g H T S) (hM : M5 g H S0 S) (t_x0 : isO g H 3 x0) (t_x4 : tK S 5 x4) (ok : KO_X4_jot_10 N g H T x0 x3 x4 x5 S) (hx : X (KF_X4_jot_10 N g H T x0 x3 x4 x5 S)) : R_ := by
  unfold KO_X4_jot_10 at ok
  unfold KF_X4_jot_10 at hx
  have hS := hS.Ab (x0 + 3) (cI S 4 x0).toNatClampNeg (x3.toInt8.toInt32)
  have hM := hM.A (x0 + 3) (cI S 4 x0).toNatClampNeg ((x3.toInt8.toInt32).toInt8.toInt32)
  have ok := ok.2
  have hS := hS.I 4 x0 ((cI (csA S (x0 + 3) (cI S 4 x0).toNatClampNeg ((x3.toInt8.toInt32).toInt8.toInt32)) 4 x0) + (nI 1))
  have hM := hM.I 4 x0 ((cI (csA S (x0 + 3) (cI S 4 x0).toNatClampNeg ((x3.toInt8.toInt32).toInt8.toInt32)) 4 x0) + (nI 1))
  exact k5b_X4_jot_31 hR hS hM t_x0 (tK_I (tK_A t_x4)) ok hx
set_option maxRecDepth 100000 in
set_option maxHeartbeats 4000000 in
theorem k5b_X4_jot_0 {u g H T N : Nat} {S : cS} {S0 : cS} {R_ : Prop} {X : Int32 × cS → Prop} (hR : ∀ v S', St u g H T S' → M5 g H S0 S' → X (v, S') → R_) {x0 : Nat} {x1 : Int32} {x2 : Int32} {x3 : Int32} {x4 : Option Nat} {x5 : Int32} (hS : St u g H T S) (hM : M5 g H S0 S) (t_x0 : isO g H 3 x0) (t_x4 : tK S 5 x4) (ok : KO_X4_jot_0 N g H T x0 x1 x2 x3 x4 x5 S) (hx : X (KF_X4_jot_0 N g H T x0 x1 x2 x3 x4 x5 S)) : R_ := by
  unfold KO_X4_jot_0 at ok
  unfold KF_X4_jot_0 at hx
  obtain ⟨hS, hm_7⟩ := k5c_X4_open hS t_x0 ok.1
  have hM := hM.trans hm_7
  have ok := ok.2
  exact k5b_X4_jot_10 hR hS hM t_x0 (hm_7.tK t_x4 (by decide)) ok hx
set_option maxRecDepth 100000 in
set_option maxHeartbeats 4000000 in
theorem k5c_X4_jot {u g H T N : Nat} {S : cS} {a0 : Nat} {x1 : Int32} {x2 : Int32} {x3 : Int32} {x4 : Option Nat} {x5 : Int32} (hS : St u g H T S) (t_x0 : isO g H 3 a0) (t_x4 : tK S 5 x4) (ok : p_X4_jot N g H T S a0 x1 x2 x3 x4 x5) : St u g H T (k_X4_jot N g H T S a0 x1 x2 x3 x4 x5).2 ∧ M5 g H S (k_X4_jot N g H T S a0 x1 x2 x3 x4 x5).2 := by
  exact k5b_X4_jot_0 (X := fun F => F = k_X4_jot N g H T S a0 x1 x2 x3 x4 x5) (fun v S' h1 h2 h => by rw [← h]; exact ⟨h1, h2⟩) hS M5.rfl' t_x0 t_x4 ok rfl
set_option maxRecDepth 100000 in
set_option maxHeartbeats 4000000 in
theorem k5b_X6_setTimer_36 {u g H T N : Nat} {S : cS} {S0 : cS} {R_ : Prop} {X : cS → Prop} (hR : ∀ S', St u g H T S' → M5 g H S0 S' → X S' → R_) (hS : St u g H T S) (hM : M5 g H S0 S) (ok : KO_X6_setTimer_36 N g H T S) (hx : X (KF_X6_setTimer_36 N g H T S)) : R_ := by
  unfold KO_X6_setTimer_36 at ok
  unfold KF_X6_setTimer_36 at hx
  exact hR _ hS hM hx
set_option maxRecDepth 100000 in
set_option maxHeartbeats 4000000 in
theorem k5b_X6_setTimer_0 {u g H T N : Nat} {S : cS} {S0 : cS} {R_ : Prop} {X : cS → Prop} (hR : ∀ S', St u g H T S' → M5 g H S0 S' → X S' → R_) {x0 : Option Nat} {x1 : Int32} (hS : St u g H T S) (hM : M5 g H S0 S) (t_x0 : tN g H x0) (ok : KO_X6_setTimer_0 N g H T x0 x1 S) (hx : X (KF_X6_setTimer_0 N g H T x0 x1 S)) : R_ := by
  unfold KO_X6_setTimer_0 at ok
  unfold KF_X6_setTimer_0 at hx
  refine pif_p ok (fun c_1 => ?_) (fun c_1 => ?_)
  · have ok := ok.1 c_1
    have hx := xif_p c_1 hx
    exact k5b_X6_setTimer_36 hR hS hM  ok hx
  · have ok := ok.2 c_1
    have hx := xif_n c_1 hx
    have nn_6 := ok.1
    have ok := ok.2
    refine pif_p ok (fun c_10 => ?_) (fun c_10 => ?_)
    · have ok := ok.1 c_10
      have hx := xif_p c_10 hx
      exact k5b_X6_setTimer_36 hR hS hM  ok hx
    · have ok := ok.2 c_10
      have hx := xif_n c_10 hx
      have tq_35 : tK S 21 (some ((za x0) + 12)) := tK_some (tK.cis (hS.rk (c := 5) (k := 6) (tN.o t_x0 nn_6) rfl (by omega)) (Option.some_ne_none _)).2
      have hS := hS.Aw (k := 21) ((za x0) + 12) x1.toNatClampNeg (((cI S 10 (g + 11)) + (nI 4)) + (cI S 10 (za x0))) tq_35 (by decide)
      have hM := hM.A ((za x0) + 12) x1.toNatClampNeg (((cI S 10 (g + 11)) + (nI 4)) + (cI S 10 (za x0)))
      have ok := ok.2
      exact k5b_X6_setTimer_36 hR hS hM  ok hx
set_option maxRecDepth 100000 in
set_option maxHeartbeats 4000000 in
theorem k5c_X6_setTimer {u g H T N : Nat} {S : cS} {a0 : Nat} {x1 : Int32} (hS : St u g H T S) (t_x0 : isO g H 5 a0) (ok : p_X6_setTimer N g H T S a0 x1) : St u g H T (k_X6_setTimer N g H T S a0 x1) ∧ M5 g H S (k_X6_setTimer N g H T S a0 x1) := by
  exact k5b_X6_setTimer_0 (X := fun F => F = k_X6_setTimer N g H T S a0 x1) (fun S' h1 h2 h => by rw [← h]; exact ⟨h1, h2⟩) hS M5.rfl' (tN_some t_x0) ok rfl
set_option maxRecDepth 100000 in
set_option maxHeartbeats 4000000 in
theorem k5b_J7_fill_53178_20 {u g H T N : Nat} {S : cS} {S0 : cS} {R_ : Prop} {X : cS → Prop} (hR : ∀ S', St u g H T S' → M5 g H S0 S' → X S' → R_) (hS : St u g H T S) (hM : M5 g H S0 S) (ok : KO_J7_fill_53178_20 N g H T S) (hx : X (KF_J7_fill_53178_20 N g H T S)) : R_ := by
  unfold KO_J7_fill_53178_20 at ok
  unfold KF_J7_fill_53178_20 at hx
  exact hR _ hS hM hx
set_option maxRecDepth 100000 in
set_option maxHeartbeats 4000000 in
theorem k5bb_J7_fill_53178_5 {u g H T N : Nat} {S : cS} {S0 : cS} {R_ : Prop} {X : Nat × cS → Prop} (hX0 : ∀ (S' : cS), St u g H T S' → M5 g H S0 S' → X (0, S') → R_) {rec : Option Nat → Int32 → Int32 → Int32 → cS → Nat × cS} {rok : Option Nat → Int32 → Int32 → Int32 → cS → Prop} (hrec : ∀ (x0 : Option Nat) (x1 : Int32) (x2 : Int32) (x3 : Int32) (S : cS), St u g H T S → M5 g H S0 S → tK S 21 x0 → rok x0 x1 x2 x3 S → X (rec x0 x1 x2 x3 S) → R_) {x0 : Option Nat} {x1 : Int32} {x2 : Int32} {x3 : Int32} (hS : St u g H T S) (hM : M5 g H S0 S) (t_x0 : tK S 21 x0) (ok : KOB_J7_fill_53178_5 N g H T rok x0 x1 x2 x3 S) (hx : X (KB_J7_fill_53178_5 N g H T rec x0 x1 x2 x3 S)) : R_ := by
  unfold KOB_J7_fill_53178_5 at ok
  unfold KB_J7_fill_53178_5 at hx
  refine pif_p ok (fun c_7 => ?_) (fun c_7 => ?_)
  · have ok := ok.1 c_7
    have hx := xif_p c_7 hx
    exact hX0 S hS hM  hx
  · have ok := ok.2 c_7
    have hx := xif_n c_7 hx
    have tq_13 : tK S 21 (some (za x0)) := tK_some (tK.cis t_x0 ok.1.1).2
    have hS := hS.Aw (k := 21) (za x0) x2.toNatClampNeg x1 tq_13 (by decide)
    have hM := hM.A (za x0) x2.toNatClampNeg x1
    have ok := ok.2
    exact hrec _ _ _ _ (csA S (za x0) x2.toNatClampNeg x1) hS hM (tK_A t_x0) ok hx
set_option maxRecDepth 100000 in
set_option maxHeartbeats 4000000 in
theorem k5l_J7_fill_53178_5 {u g H T N : Nat} {S0 : cS} {R_ : Prop} {X : Nat × cS → Prop} (hX0 : ∀ (S' : cS), St u g H T S' → M5 g H S0 S' → X (0, S') → R_) : ∀ (n : Nat) (x0 : Option Nat) (x1 : Int32) (x2 : Int32) (x3 : Int32) (S : cS), St u g H T S → M5 g H S0 S → tK S 21 x0 → KOL_J7_fill_53178_5 N g H T n x0 x1 x2 x3 S → X (KL_J7_fill_53178_5 N g H T n x0 x1 x2 x3 S) → R_ := by
  intro n
  induction n with
  | zero => intro x0 x1 x2 x3 S hS hM t_x0 ok; exact absurd ok id
  | succ n ih =>
    intro x0 x1 x2 x3 S hS hM t_x0 ok hx
    exact k5bb_J7_fill_53178_5 hX0 (rec := KL_J7_fill_53178_5 N g H T n) (rok := KOL_J7_fill_53178_5 N g H T n) (fun x0 x1 x2 x3 S hS hM t_x0 ok hx => ih x0 x1 x2 x3 S hS hM t_x0 ok hx) hS hM t_x0 ok hx
set_option maxRecDepth 100000 in
set_option maxHeartbeats 4000000 in
theorem k5d_J7_fill_53178_5 {u g H T N : Nat} {S : cS} {S0 : cS} {R_ : Prop} {X : cS → Prop} (hR : ∀ S', St u g H T S' → M5 g H S0 S' → X S' → R_) {x0 : Option Nat} {x1 : Int32} {x2 : Int32} {x3 : Int32} (hS : St u g H T S) (hM : M5 g H S0 S) (t_x0 : tK S 21 x0) (ok : KOL_J7_fill_53178_5 N g H T N x0 x1 x2 x3 S ∧ KOA_J7_fill_53178_5 N g H T x0 x1 x2 x3 S (KL_J7_fill_53178_5 N g H T N x0 x1 x2 x3 S)) (hx : X (KA_J7_fill_53178_5 N g H T x0 x1 x2 x3 S (KL_J7_fill_53178_5 N g H T N x0 x1 x2 x3 S))) : R_ := by
  refine k5l_J7_fill_53178_5 ?_ N x0 x1 x2 x3 S hS hM t_x0 ok.1 (X := fun z => KOA_J7_fill_53178_5 N g H T x0 x1 x2 x3 S z ∧ X (KA_J7_fill_53178_5 N g H T x0 x1 x2 x3 S z)) ⟨ok.2, hx⟩
  · intro S' hS hM hz
    obtain ⟨ok, hx⟩ := hz
    unfold KOA_J7_fill_53178_5 at ok
    unfold KA_J7_fill_53178_5 at hx
    exact k5b_J7_fill_53178_20 hR hS hM  ok hx
set_option maxRecDepth 100000 in
set_option maxHeartbeats 4000000 in
theorem k5b_J7_fill_53178_0 {u g H T N : Nat} {S : cS} {S0 : cS} {R_ : Prop} {X : cS → Prop} (hR : ∀ S', St u g H T S' → M5 g H S0 S' → X S' → R_) {x0 : Option Nat} {x1 : Int32} (hS : St u g H T S) (hM : M5 g H S0 S) (t_x0 : tK S 21 x0) (ok : KO_J7_fill_53178_0 N g H T x0 x1 S) (hx : X (KF_J7_fill_53178_0 N g H T x0 x1 S)) : R_ := by
  unfold KO_J7_fill_53178_0 at ok
  unfold KF_J7_fill_53178_0 at hx
  have ok := ok.2
  exact k5d_J7_fill_53178_5 hR hS hM t_x0 ok hx
set_option maxRecDepth 100000 in
set_option maxHeartbeats 4000000 in
theorem k5c_J7_fill_53178 {u g H T N : Nat} {S : cS} {x0 : Option Nat} {x1 : Int32} (hS : St u g H T S) (t_x0 : tK S 21 x0) (ok : p_J7_fill_53178 N g H T S x0 x1) : St u g H T (k_J7_fill_53178 N g H T S x0 x1) ∧ M5 g H S (k_J7_fill_53178 N g H T S x0 x1) := by
  exact k5b_J7_fill_53178_0 (X := fun F => F = k_J7_fill_53178 N g H T S x0 x1) (fun S' h1 h2 h => by rw [← h]; exact ⟨h1, h2⟩) hS M5.rfl' t_x0 ok rfl
set_option maxRecDepth 100000 in
set_option maxHeartbeats 4000000 in
theorem k5b_X8_clear_231 {u g H T N : Nat} {S : cS} {S0 : cS} {R_ : Prop} {X : cS → Prop} (hR : ∀ S', St u g H T S' → M5 g H S0 S' → X S' → R_) {x0 : Nat} {x3 : Int32} {x4 : Int32} (hS : St u g H T S) (hM : M5 g H S0 S) (t_x0 : isO g H 6 x0) (ok : KO_X8_clear_231 N g H T x0 x3 x4 S) (hx : X (KF_X8_clear_231 N g H T x0 x3 x4 S)) : R_ := by
  unfold KO_X8_clear_231 at ok
  unfold KF_X8_clear_231 at hx
  have tq_238 : tK S 21 (some (x0 + 3)) := tK_some (tK.cis (hS.rk (c := 6) (k := 5) t_x0 rfl (by omega)) (Option.some_ne_none _)).2
  have hS := hS.Aw (k := 21) (x0 + 3) x3.toNatClampNeg x4 tq_238 (by decide)
  have hM := hM.A (x0 + 3) x3.toNatClampNeg x4
  have ok := ok.2
  exact hR _ hS hM hx
set_option maxRecDepth 100000 in
set_option maxHeartbeats 4000000 in
theorem k5b_X8_clear_223 {u g H T N : Nat} {S : cS} {S0 : cS} {R_ : Prop} {X : Nat × Nat × Int32 × Int32 × cS → Prop} (hX0 : ∀ (x0 : Nat) (x3 : Int32) (x4 : Int32) (S' : cS), St u g H T S' → M5 g H S0 S' → isO g H 6 x0 → X (0, x0, x3, x4, S') → R_) {rec : Nat → Int32 → Int32 → Int32 → Int32 → cS → Nat × Nat × Int32 × Int32 × cS} {rok : Nat → Int32 → Int32 → Int32 → Int32 → cS → Prop} (hrec : ∀ (x0 : Nat) (x2 : Int32) (x3 : Int32) (x4 : Int32) (x5 : Int32) (S : cS), St u g H T S → M5 g H S0 S → isO g H 6 x0 → rok x0 x2 x3 x4 x5 S → X (rec x0 x2 x3 x4 x5 S) → R_) {x0 : Nat} {x2 : Int32} {x3 : Int32} {x5 : Int32} {s0 : Int32} (hS : St u g H T S) (hM : M5 g H S0 S) (t_x0 : isO g H 6 x0) (ok : KO_X8_clear_223 N g H T rok x0 x2 x3 x5 s0 S) (hx : X (KF_X8_clear_223 N g H T rec x0 x2 x3 x5 s0 S)) : R_ := by
  unfold KO_X8_clear_223 at ok
  unfold KF_X8_clear_223 at hx
  exact hrec _ _ _ _ _ S hS hM t_x0 ok hx
set_option maxRecDepth 100000 in
set_option maxHeartbeats 4000000 in
theorem k5b_X8_clear_209 {u g H T N : Nat} {S : cS} {S0 : cS} {R_ : Prop} {X : Nat × Nat × Int32 × Int32 × cS → Prop} (hX0 : ∀ (x0 : Nat) (x3 : Int32) (x4 : Int32) (S' : cS), St u g H T S' → M5 g H S0 S' → isO g H 6 x0 → X (0, x0, x3, x4, S') → R_) {rec : Nat → Int32 → Int32 → Int32 → Int32 → cS → Nat × Nat × Int32 × Int32 × cS} {rok : Nat → Int32 → Int32 → Int32 → Int32 → cS → Prop} (hrec : ∀ (x0 : Nat) (x2 : Int32) (x3 : Int32) (x4 : Int32) (x5 : Int32) (S : cS), St u g H T S → M5 g H S0 S → isO g H 6 x0 → rok x0 x2 x3 x4 x5 S → X (rec x0 x2 x3 x4 x5 S) → R_) {x0 : Nat} {x2 : Int32} {x3 : Int32} {x4 : Int32} {x5 : Int32} {x7 : Int32} (hS : St u g H T S) (hM : M5 g H S0 S) (t_x0 : isO g H 6 x0) (ok : KO_X8_clear_209 N g H T rok x0 x2 x3 x4 x5 x7 S) (hx : X (KF_X8_clear_209 N g H T rec x0 x2 x3 x4 x5 x7 S)) : R_ := by
  unfold KO_X8_clear_209 at ok
  unfold KF_X8_clear_209 at hx
  refine pif_p ok (fun c_211 => ?_) (fun c_211 => ?_)
  · have ok := ok.1 c_211
    have hx := xif_p c_211 hx
    exact k5b_X8_clear_223 hX0 hrec hS hM t_x0 ok hx
  · have ok := ok.2 c_211
    have hx := xif_n c_211 hx
    exact k5b_X8_clear_223 hX0 hrec hS hM t_x0 ok hx
set_option maxRecDepth 100000 in
set_option maxHeartbeats 4000000 in
theorem k5b_X8_clear_201 {u g H T N : Nat} {S : cS} {S0 : cS} {R_ : Prop} {X : Nat × Nat × Int32 × Int32 × Int32 × Int32 × Int32 × cS → Prop} (hX0 : ∀ (x0 : Nat) (x2 : Int32) (x3 : Int32) (x4 : Int32) (x5 : Int32) (x7 : Int32) (S' : cS), St u g H T S' → M5 g H S0 S' → isO g H 6 x0 → X (0, x0, x2, x3, x4, x5, x7, S') → R_) {rec : Nat → Int32 → Int32 → Int32 → Int32 → Int32 → Int32 → Int32 → cS → Nat × Nat × Int32 × Int32 × Int32 × Int32 × Int32 × cS} {rok : Nat → Int32 → Int32 → Int32 → Int32 → Int32 → Int32 → Int32 → cS → Prop} (hrec : ∀ (x0 : Nat) (x2 : Int32) (x3 : Int32) (x4 : Int32) (x5 : Int32) (x7 : Int32) (x8 : Int32) (x9 : Int32) (S : cS), St u g H T S → M5 g H S0 S → isO g H 6 x0 → rok x0 x2 x3 x4 x5 x7 x8 x9 S → X (rec x0 x2 x3 x4 x5 x7 x8 x9 S) → R_) {x0 : Nat} {x2 : Int32} {x3 : Int32} {x4 : Int32} {x5 : Int32} {x8 : Int32} {x9 : Int32} {s0 : Int32} (hS : St u g H T S) (hM : M5 g H S0 S) (t_x0 : isO g H 6 x0) (ok : KO_X8_clear_201 N g H T rok x0 x2 x3 x4 x5 x8 x9 s0 S) (hx : X (KF_X8_clear_201 N g H T rec x0 x2 x3 x4 x5 x8 x9 s0 S)) : R_ := by
  unfold KO_X8_clear_201 at ok
  unfold KF_X8_clear_201 at hx
  exact hrec _ _ _ _ _ _ _ _ S hS hM t_x0 ok hx
set_option maxRecDepth 100000 in
set_option maxHeartbeats 4000000 in
theorem k5b_X8_clear_196 {u g H T N : Nat} {S : cS} {S0 : cS} {R_ : Prop} {X : Nat × Nat × Int32 × Int32 × Int32 × Int32 × Int32 × cS → Prop} (hX0 : ∀ (x0 : Nat) (x2 : Int32) (x3 : Int32) (x4 : Int32) (x5 : Int32) (x7 : Int32) (S' : cS), St u g H T S' → M5 g H S0 S' → isO g H 6 x0 → X (0, x0, x2, x3, x4, x5, x7, S') → R_) {rec : Nat → Int32 → Int32 → Int32 → Int32 → Int32 → Int32 → Int32 → cS → Nat × Nat × Int32 × Int32 × Int32 × Int32 × Int32 × cS} {rok : Nat → Int32 → Int32 → Int32 → Int32 → Int32 → Int32 → Int32 → cS → Prop} (hrec : ∀ (x0 : Nat) (x2 : Int32) (x3 : Int32) (x4 : Int32) (x5 : Int32) (x7 : Int32) (x8 : Int32) (x9 : Int32) (S : cS), St u g H T S → M5 g H S0 S → isO g H 6 x0 → rok x0 x2 x3 x4 x5 x7 x8 x9 S → X (rec x0 x2 x3 x4 x5 x7 x8 x9 S) → R_) {x0 : Nat} {x2 : Int32} {x3 : Int32} {x4 : Int32} {x5 : Int32} {x8 : Int32} {x9 : Int32} (hS : St u g H T S) (hM : M5 g H S0 S) (t_x0 : isO g H 6 x0) (ok : KO_X8_clear_196 N g H T rok x0 x2 x3 x4 x5 x8 x9 S) (hx : X (KF_X8_clear_196 N g H T rec x0 x2 x3 x4 x5 x8 x9 S)) : R_ := by
  unfold KO_X8_clear_196 at ok
  unfold KF_X8_clear_196 at hx
  exact k5b_X8_clear_201 hX0 hrec hS hM t_x0 ok hx
set_option maxRecDepth 100000 in
set_option maxHeartbeats 4000000 in
theorem k5b_X8_clear_181 {u g H T N : Nat} {S : cS} {S0 : cS} {R_ : Prop} {X : Nat × Nat × Int32 × Int32 × Int32 × Int32 × Int32 × cS → Prop} (hX0 : ∀ (x0 : Nat) (x2 : Int32) (x3 : Int32) (x4 : Int32) (x5 : Int32) (x7 : Int32) (S' : cS), St u g H T S' → M5 g H S0 S' → isO g H 6 x0 → X (0, x0, x2, x3, x4, x5, x7, S') → R_) {rec : Nat → Int32 → Int32 → Int32 → Int32 → Int32 → Int32 → Int32 → cS → Nat × Nat × Int32 × Int32 × Int32 × Int32 × Int32 × cS} {rok : Nat → Int32 → Int32 → Int32 → Int32 → Int32 → Int32 → Int32 → cS → Prop} (hrec : ∀ (x0 : Nat) (x2 : Int32) (x3 : Int32) (x4 : Int32) (x5 : Int32) (x7 : Int32) (x8 : Int32) (x9 : Int32) (S : cS), St u g H T S → M5 g H S0 S → isO g H 6 x0 → rok x0 x2 x3 x4 x5 x7 x8 x9 S → X (rec x0 x2 x3 x4 x5 x7 x8 x9 S) → R_) {x0 : Nat} {x2 : Int32} {x3 : Int32} {x4 : Int32} {x5 : Int32} {x7 : Int32} {x8 : Int32} {x9 : Int32} (hS : St u g H T S) (hM : M5 g H S0 S) (t_x0 : isO g H 6 x0) (ok : KO_X8_clear_181 N g H T rok x0 x2 x3 x4 x5 x7 x8 x9 S) (hx : X (KF_X8_clear_181 N g H T rec x0 x2 x3 x4 x5 x7 x8 x9 S)) : R_ := by
  unfold KO_X8_clear_181 at ok
  unfold KF_X8_clear_181 at hx
  refine pif_n ok (fun c_183 => ?_) (fun c_183 => ?_)
  · have ok := ok.2 c_183
    have hx := xif_n c_183 hx
    exact k5b_X8_clear_196 hX0 hrec hS hM t_x0 ok hx
  · have ok := ok.1 c_183
    have hx := xif_p c_183 hx
    have p_192 := hS.row24 (hS.rk (c := 6) (k := 4) t_x0 rfl (by omega)) x9.toNatClampNeg
    have ok := ok.2
    refine pif_p ok (fun c_193 => ?_) (fun c_193 => ?_)
    · have ok := ok.1 c_193
      have hx := xif_p c_193 hx
      exact k5b_X8_clear_201 hX0 hrec hS hM t_x0 ok hx
    · have ok := ok.2 c_193
      have hx := xif_n c_193 hx
      exact k5b_X8_clear_196 hX0 hrec hS hM t_x0 ok hx
set_option maxRecDepth 100000 in
set_option maxHeartbeats 4000000 in
theorem k5b_X8_clear_173 {u g H T N : Nat} {S : cS} {S0 : cS} {R_ : Prop} {X : Nat × Nat × Int32 × Int32 × Int32 × Int32 × Int32 × cS → Prop} (hX0 : ∀ (x0 : Nat) (x2 : Int32) (x3 : Int32) (x4 : Int32) (x5 : Int32) (x7 : Int32) (S' : cS), St u g H T S' → M5 g H S0 S' → isO g H 6 x0 → X (0, x0, x2, x3, x4, x5, x7, S') → R_) {rec : Nat → Int32 → Int32 → Int32 → Int32 → Int32 → Int32 → Int32 → cS → Nat × Nat × Int32 × Int32 × Int32 × Int32 × Int32 × cS} {rok : Nat → Int32 → Int32 → Int32 → Int32 → Int32 → Int32 → Int32 → cS → Prop} (hrec : ∀ (x0 : Nat) (x2 : Int32) (x3 : Int32) (x4 : Int32) (x5 : Int32) (x7 : Int32) (x8 : Int32) (x9 : Int32) (S : cS), St u g H T S → M5 g H S0 S → isO g H 6 x0 → rok x0 x2 x3 x4 x5 x7 x8 x9 S → X (rec x0 x2 x3 x4 x5 x7 x8 x9 S) → R_) {x0 : Nat} {x2 : Int32} {x3 : Int32} {x4 : Int32} {x5 : Int32} {x7 : Int32} {x8 : Int32} {x9 : Int32} (hS : St u g H T S) (hM : M5 g H S0 S) (t_x0 : isO g H 6 x0) (ok : KO_X8_clear_173 N g H T rok x0 x2 x3 x4 x5 x7 x8 x9 S) (hx : X (KF_X8_clear_173 N g H T rec x0 x2 x3 x4 x5 x7 x8 x9 S)) : R_ := by
  unfold KO_X8_clear_173 at ok
  unfold KF_X8_clear_173 at hx
  have hS2 := hS.P24 (i := x9.toNatClampNeg) ((hS.rk (c := 6) (k := 4) t_x0 rfl (by omega)) _ rfl) tK_none
  have hS := hS2
  have hM := hM.P (x0 + 5) x9.toNatClampNeg (none : Option Nat)
  have ok := ok.2
  exact k5b_X8_clear_181 hX0 hrec hS hM t_x0 ok hx
set_option maxRecDepth 100000 in
set_option maxHeartbeats 4000000 in
theorem k5bb_X8_clear_121 {u g H T N : Nat} {S : cS} {S0 : cS} {R_ : Prop} {X : Nat × Nat × Int32 × Int32 × Int32 × Int32 × Int32 × cS → Prop} (hX0 : ∀ (x0 : Nat) (x2 : Int32) (x3 : Int32) (x4 : Int32) (x5 : Int32) (x7 : Int32) (S' : cS), St u g H T S' → M5 g H S0 S' → isO g H 6 x0 → X (0, x0, x2, x3, x4, x5, x7, S') → R_) {rec : Nat → Int32 → Int32 → Int32 → Int32 → Int32 → Int32 → Int32 → cS → Nat × Nat × Int32 × Int32 × Int32 × Int32 × Int32 × cS} {rok : Nat → Int32 → Int32 → Int32 → Int32 → Int32 → Int32 → Int32 → cS → Prop} (hrec : ∀ (x0 : Nat) (x2 : Int32) (x3 : Int32) (x4 : Int32) (x5 : Int32) (x7 : Int32) (x8 : Int32) (x9 : Int32) (S : cS), St u g H T S → M5 g H S0 S → isO g H 6 x0 → rok x0 x2 x3 x4 x5 x7 x8 x9 S → X (rec x0 x2 x3 x4 x5 x7 x8 x9 S) → R_) {x0 : Nat} {x2 : Int32} {x3 : Int32} {x4 : Int32} {x5 : Int32} {x7 : Int32} {x8 : Int32} {x9 : Int32} (hS : St u g H T S) (hM : M5 g H S0 S) (t_x0 : isO g H 6 x0) (ok : KOB_X8_clear_121 N g H T rok x0 x2 x3 x4 x5 x7 x8 x9 S) (hx : X (KB_X8_clear_121 N g H T rec x0 x2 x3 x4 x5 x7 x8 x9 S)) : R_ := by
  unfold KOB_X8_clear_121 at ok
  unfold KB_X8_clear_121 at hx
  refine pif_p ok (fun c_132 => ?_) (fun c_132 => ?_)
  · have ok := ok.1 c_132
    have hx := xif_p c_132 hx
    exact hX0 _ _ _ _ _ _ S hS hM t_x0 hx
  · have ok := ok.2 c_132
    have hx := xif_n c_132 hx
    have p_141 := hS.row24 (hS.rk (c := 6) (k := 4) t_x0 rfl (by omega)) x9.toNatClampNeg
    have ok := ok.2
    refine pif_p ok (fun c_142 => ?_) (fun c_142 => ?_)
    · have ok := ok.1 c_142
      have hx := xif_p c_142 hx
      exact k5b_X8_clear_181 hX0 hrec hS hM t_x0 ok hx
    · have ok := ok.2 c_142
      have hx := xif_n c_142 hx
      have p_151 := hS.row24 (hS.rk (c := 6) (k := 4) t_x0 rfl (by omega)) x9.toNatClampNeg
      have ok := ok.2
      have ok := ok.2
      refine pif_p ok (fun c_156 => ?_) (fun c_156 => ?_)
      · have ok := ok.1 c_156
        have hx := xif_p c_156 hx
        exact k5b_X8_clear_181 hX0 hrec hS hM t_x0 ok hx
      · have ok := ok.2 c_156
        have hx := xif_n c_156 hx
        have p_169 := hS.row24 (hS.rk (c := 6) (k := 4) t_x0 rfl (by omega)) x9.toNatClampNeg
        have ok := ok.2
        obtain ⟨hS, hm_170⟩ := k5c_X9_drop hS (o60 t_x0) p_169 ok.1
        have hM := hM.trans hm_170
        have ok := ok.2
        exact k5b_X8_clear_173 hX0 hrec hS hM t_x0 ok hx
set_option maxRecDepth 100000 in
set_option maxHeartbeats 4000000 in
theorem k5l_X8_clear_121 {u g H T N : Nat} {S0 : cS} {R_ : Prop} {X : Nat × Nat × Int32 × Int32 × Int32 × Int32 × Int32 × cS → Prop} (hX0 : ∀ (x0 : Nat) (x2 : Int32) (x3 : Int32) (x4 : Int32) (x5 : Int32) (x7 : Int32) (S' : cS), St u g H T S' → M5 g H S0 S' → isO g H 6 x0 → X (0, x0, x2, x3, x4, x5, x7, S') → R_) : ∀ (n : Nat) (x0 : Nat) (x2 : Int32) (x3 : Int32) (x4 : Int32) (x5 : Int32) (x7 : Int32) (x8 : Int32) (x9 : Int32) (S : cS), St u g H T S → M5 g H S0 S → isO g H 6 x0 → KOL_X8_clear_121 N g H T n x0 x2 x3 x4 x5 x7 x8 x9 S → X (KL_X8_clear_121 N g H T n x0 x2 x3 x4 x5 x7 x8 x9 S) → R_ := by
  intro n
  induction n with
  | zero => intro x0 x2 x3 x4 x5 x7 x8 x9 S hS hM t_x0 ok; exact absurd ok id
  | succ n ih =>
    intro x0 x2 x3 x4 x5 x7 x8 x9 S hS hM t_x0 ok hx
    exact k5bb_X8_clear_121 hX0 (rec := KL_X8_clear_121 N g H T n) (rok := KOL_X8_clear_121 N g H T n) (fun x0 x2 x3 x4 x5 x7 x8 x9 S hS hM t_x0 ok hx => ih x0 x2 x3 x4 x5 x7 x8 x9 S hS hM t_x0 ok hx) hS hM t_x0 ok hx
set_option maxRecDepth 100000 in
set_option maxHeartbeats 4000000 in
theorem k5d_X8_clear_121 {u g H T N : Nat} {S : cS} {S0 : cS} {R_ : Prop} {X : Nat × Nat × Int32 × Int32 × cS → Prop} (hX0 : ∀ (x0 : Nat) (x3 : Int32) (x4 : Int32) (S' : cS), St u g H T S' → M5 g H S0 S' → isO g H 6 x0 → X (0, x0, x3, x4, S') → R_) {rec : Nat → Int32 → Int32 → Int32 → Int32 → cS → Nat × Nat × Int32 × Int32 × cS} {rok : Nat → Int32 → Int32 → Int32 → Int32 → cS → Prop} (hrec : ∀ (x0 : Nat) (x2 : Int32) (x3 : Int32) (x4 : Int32) (x5 : Int32) (S : cS), St u g H T S → M5 g H S0 S → isO g H 6 x0 → rok x0 x2 x3 x4 x5 S → X (rec x0 x2 x3 x4 x5 S) → R_) {x0 : Nat} {x2 : Int32} {x3 : Int32} {x4 : Int32} {x5 : Int32} {x7 : Int32} {x8 : Int32} {x9 : Int32} (hS : St u g H T S) (hM : M5 g H S0 S) (t_x0 : isO g H 6 x0) (ok : KOL_X8_clear_121 N g H T N x0 x2 x3 x4 x5 x7 x8 x9 S ∧ KOA_X8_clear_121 N g H T rok x0 x2 x3 x4 x5 x7 x8 x9 S (KL_X8_clear_121 N g H T N x0 x2 x3 x4 x5 x7 x8 x9 S)) (hx : X (KA_X8_clear_121 N g H T rec x0 x2 x3 x4 x5 x7 x8 x9 S (KL_X8_clear_121 N g H T N x0 x2 x3 x4 x5 x7 x8 x9 S))) : R_ := by
  refine k5l_X8_clear_121 ?_ N x0 x2 x3 x4 x5 x7 x8 x9 S hS hM t_x0 ok.1 (X := fun z => KOA_X8_clear_121 N g H T rok x0 x2 x3 x4 x5 x7 x8 x9 S z ∧ X (KA_X8_clear_121 N g H T rec x0 x2 x3 x4 x5 x7 x8 x9 S z)) ⟨ok.2, hx⟩
  · intro x0' x2' x3' x4' x5' x7' S' hS hM t_x0 hz
    obtain ⟨ok, hx⟩ := hz
    unfold KOA_X8_clear_121 at ok
    unfold KA_X8_clear_121 at hx
    exact k5b_X8_clear_209 hX0 hrec hS hM t_x0 ok hx
set_option maxRecDepth 100000 in
set_option maxHeartbeats 4000000 in
theorem k5b_X8_clear_106 {u g H T N : Nat} {S : cS} {S0 : cS} {R_ : Prop} {X : Nat × Nat × Int32 × Int32 × cS → Prop} (hX0 : ∀ (x0 : Nat) (x3 : Int32) (x4 : Int32) (S' : cS), St u g H T S' → M5 g H S0 S' → isO g H 6 x0 → X (0, x0, x3, x4, S') → R_) {rec : Nat → Int32 → Int32 → Int32 → Int32 → cS → Nat × Nat × Int32 × Int32 × cS} {rok : Nat → Int32 → Int32 → Int32 → Int32 → cS → Prop} (hrec : ∀ (x0 : Nat) (x2 : Int32) (x3 : Int32) (x4 : Int32) (x5 : Int32) (S : cS), St u g H T S → M5 g H S0 S → isO g H 6 x0 → rok x0 x2 x3 x4 x5 S → X (rec x0 x2 x3 x4 x5 S) → R_) {x0 : Nat} {x2 : Int32} {x3 : Int32} {x4 : Int32} {x5 : Int32} {x6 : Int32} {s0 : Int32} (hS : St u g H T S) (hM : M5 g H S0 S) (t_x0 : isO g H 6 x0) (ok : KO_X8_clear_106 N g H T rok x0 x2 x3 x4 x5 x6 s0 S) (hx : X (KF_X8_clear_106 N g H T rec x0 x2 x3 x4 x5 x6 s0 S)) : R_ := by
  unfold KO_X8_clear_106 at ok
  unfold KF_X8_clear_106 at hx
  have ok := ok.2
  exact k5d_X8_clear_121 hX0 hrec hS hM t_x0 ok hx
set_option maxRecDepth 100000 in
set_option maxHeartbeats 4000000 in
theorem k5b_X8_clear_83 {u g H T N : Nat} {S : cS} {S0 : cS} {R_ : Prop} {X : Nat × Nat × Int32 × Int32 × cS → Prop} (hX0 : ∀ (x0 : Nat) (x3 : Int32) (x4 : Int32) (S' : cS), St u g H T S' → M5 g H S0 S' → isO g H 6 x0 → X (0, x0, x3, x4, S') → R_) {rec : Nat → Int32 → Int32 → Int32 → Int32 → cS → Nat × Nat × Int32 × Int32 × cS} {rok : Nat → Int32 → Int32 → Int32 → Int32 → cS → Prop} (hrec : ∀ (x0 : Nat) (x2 : Int32) (x3 : Int32) (x4 : Int32) (x5 : Int32) (S : cS), St u g H T S → M5 g H S0 S → isO g H 6 x0 → rok x0 x2 x3 x4 x5 S → X (rec x0 x2 x3 x4 x5 S) → R_) {x0 : Nat} {x2 : Int32} {x3 : Int32} {x4 : Int32} {x5 : Int32} {x6 : Int32} (hS : St u g H T S) (hM : M5 g H S0 S) (t_x0 : isO g H 6 x0) (ok : KO_X8_clear_83 N g H T rok x0 x2 x3 x4 x5 x6 S) (hx : X (KF_X8_clear_83 N g H T rec x0 x2 x3 x4 x5 x6 S)) : R_ := by
  unfold KO_X8_clear_83 at ok
  unfold KF_X8_clear_83 at hx
  have tq_90 : tK S 21 (some (x0 + 2)) := tK_some (tK.cis (hS.rk (c := 6) (k := 3) t_x0 rfl (by omega)) (Option.some_ne_none _)).2
  have hS := hS.Aw (k := 21) (x0 + 2) x6.toNatClampNeg (nI 0) tq_90 (by decide)
  have hM := hM.A (x0 + 2) x6.toNatClampNeg (nI 0)
  have ok := ok.2
  have p_97 := hS.row24 (hS.rk (c := 6) (k := 2) t_x0 rfl (by omega)) x6.toNatClampNeg
  have ok := ok.2
  refine pif_p ok (fun c_98 => ?_) (fun c_98 => ?_)
  · have ok := ok.1 c_98
    have hx := xif_p c_98 hx
    exact k5b_X8_clear_106 hX0 hrec hS hM t_x0 ok hx
  · have ok := ok.2 c_98
    have hx := xif_n c_98 hx
    exact k5b_X8_clear_106 hX0 hrec hS hM t_x0 ok hx
set_option maxRecDepth 100000 in
set_option maxHeartbeats 4000000 in
theorem k5b_X8_clear_75 {u g H T N : Nat} {S : cS} {S0 : cS} {R_ : Prop} {X : Nat × Nat × Int32 × Int32 × cS → Prop} (hX0 : ∀ (x0 : Nat) (x3 : Int32) (x4 : Int32) (S' : cS), St u g H T S' → M5 g H S0 S' → isO g H 6 x0 → X (0, x0, x3, x4, S') → R_) {rec : Nat → Int32 → Int32 → Int32 → Int32 → cS → Nat × Nat × Int32 × Int32 × cS} {rok : Nat → Int32 → Int32 → Int32 → Int32 → cS → Prop} (hrec : ∀ (x0 : Nat) (x2 : Int32) (x3 : Int32) (x4 : Int32) (x5 : Int32) (S : cS), St u g H T S → M5 g H S0 S → isO g H 6 x0 → rok x0 x2 x3 x4 x5 S → X (rec x0 x2 x3 x4 x5 S) → R_) {x0 : Nat} {x2 : Int32} {x3 : Int32} {x4 : Int32} {x5 : Int32} {x6 : Int32} (hS : St u g H T S) (hM : M5 g H S0 S) (t_x0 : isO g H 6 x0) (ok : KO_X8_clear_75 N g H T rok x0 x2 x3 x4 x5 x6 S) (hx : X (KF_X8_clear_75 N g H T rec x0 x2 x3 x4 x5 x6 S)) : R_ := by
  unfold KO_X8_clear_75 at ok
  unfold KF_X8_clear_75 at hx
  have hS2 := hS.P24 (i := x6.toNatClampNeg) ((hS.rk (c := 6) (k := 2) t_x0 rfl (by omega)) _ rfl) tK_none
  have hS := hS2
  have hM := hM.P (x0 + 1) x6.toNatClampNeg (none : Option Nat)
  have ok := ok.2
  exact k5b_X8_clear_83 hX0 hrec hS hM t_x0 ok hx
set_option maxRecDepth 100000 in
set_option maxHeartbeats 4000000 in
theorem k5bb_X8_clear_10 {u g H T N : Nat} {S : cS} {S0 : cS} {R_ : Prop} {X : Nat × Nat × Int32 × Int32 × cS → Prop} (hX0 : ∀ (x0 : Nat) (x3 : Int32) (x4 : Int32) (S' : cS), St u g H T S' → M5 g H S0 S' → isO g H 6 x0 → X (0, x0, x3, x4, S') → R_) {rec : Nat → Int32 → Int32 → Int32 → Int32 → cS → Nat × Nat × Int32 × Int32 × cS} {rok : Nat → Int32 → Int32 → Int32 → Int32 → cS → Prop} (hrec : ∀ (x0 : Nat) (x2 : Int32) (x3 : Int32) (x4 : Int32) (x5 : Int32) (S : cS), St u g H T S → M5 g H S0 S → isO g H 6 x0 → rok x0 x2 x3 x4 x5 S → X (rec x0 x2 x3 x4 x5 S) → R_) {x0 : Nat} {x2 : Int32} {x3 : Int32} {x4 : Int32} {x5 : Int32} (hS : St u g H T S) (hM : M5 g H S0 S) (t_x0 : isO g H 6 x0) (ok : KOB_X8_clear_10 N g H T rok x0 x2 x3 x4 x5 S) (hx : X (KB_X8_clear_10 N g H T rec x0 x2 x3 x4 x5 S)) : R_ := by
  unfold KOB_X8_clear_10 at ok
  unfold KB_X8_clear_10 at hx
  have ok := ok.2
  refine pif_p ok (fun c_18 => ?_) (fun c_18 => ?_)
  · have ok := ok.1 c_18
    have hx := xif_p c_18 hx
    exact hX0 _ _ _ S hS hM t_x0 hx
  · have ok := ok.2 c_18
    have hx := xif_n c_18 hx
    refine pif_p ok (fun c_25 => ?_) (fun c_25 => ?_)
    · have ok := ok.1 c_25
      have hx := xif_p c_25 hx
      exact hX0 _ _ _ S hS hM t_x0 hx
    · have ok := ok.2 c_25
      have hx := xif_n c_25 hx
      have p_43 := hS.row24 (hS.rk (c := 6) (k := 2) t_x0 rfl (by omega)) ((x3 * (nI 16)) + x5).toNatClampNeg
      have ok := ok.2
      refine pif_p ok (fun c_44 => ?_) (fun c_44 => ?_)
      · have ok := ok.1 c_44
        have hx := xif_p c_44 hx
        exact k5b_X8_clear_83 hX0 hrec hS hM t_x0 ok hx
      · have ok := ok.2 c_44
        have hx := xif_n c_44 hx
        have p_53 := hS.row24 (hS.rk (c := 6) (k := 2) t_x0 rfl (by omega)) ((x3 * (nI 16)) + x5).toNatClampNeg
        have ok := ok.2
        have ok := ok.2
        refine pif_p ok (fun c_58 => ?_) (fun c_58 => ?_)
        · have ok := ok.1 c_58
          have hx := xif_p c_58 hx
          exact k5b_X8_clear_83 hX0 hrec hS hM t_x0 ok hx
        · have ok := ok.2 c_58
          have hx := xif_n c_58 hx
          have p_71 := hS.row24 (hS.rk (c := 6) (k := 2) t_x0 rfl (by omega)) ((x3 * (nI 16)) + x5).toNatClampNeg
          have ok := ok.2
          obtain ⟨hS, hm_72⟩ := k5c_X9_drop hS (o60 t_x0) p_71 ok.1
          have hM := hM.trans hm_72
          have ok := ok.2
          exact k5b_X8_clear_75 hX0 hrec hS hM t_x0 ok hx
set_option maxRecDepth 100000 in
set_option maxHeartbeats 4000000 in
theorem k5l_X8_clear_10 {u g H T N : Nat} {S0 : cS} {R_ : Prop} {X : Nat × Nat × Int32 × Int32 × cS → Prop} (hX0 : ∀ (x0 : Nat) (x3 : Int32) (x4 : Int32) (S' : cS), St u g H T S' → M5 g H S0 S' → isO g H 6 x0 → X (0, x0, x3, x4, S') → R_) : ∀ (n : Nat) (x0 : Nat) (x2 : Int32) (x3 : Int32) (x4 : Int32) (x5 : Int32) (S : cS), St u g H T S → M5 g H S0 S → isO g H 6 x0 → KOL_X8_clear_10 N g H T n x0 x2 x3 x4 x5 S → X (KL_X8_clear_10 N g H T n x0 x2 x3 x4 x5 S) → R_ := by
  intro n
  induction n with
  | zero => intro x0 x2 x3 x4 x5 S hS hM t_x0 ok; exact absurd ok id
  | succ n ih =>
    intro x0 x2 x3 x4 x5 S hS hM t_x0 ok hx
    exact k5bb_X8_clear_10 hX0 (rec := KL_X8_clear_10 N g H T n) (rok := KOL_X8_clear_10 N g H T n) (fun x0 x2 x3 x4 x5 S hS hM t_x0 ok hx => ih x0 x2 x3 x4 x5 S hS hM t_x0 ok hx) hS hM t_x0 ok hx
set_option maxRecDepth 100000 in
set_option maxHeartbeats 4000000 in
theorem k5d_X8_clear_10 {u g H T N : Nat} {S : cS} {S0 : cS} {R_ : Prop} {X : cS → Prop} (hR : ∀ S', St u g H T S' → M5 g H S0 S' → X S' → R_) {x0 : Nat} {x2 : Int32} {x3 : Int32} {x4 : Int32} {x5 : Int32} (hS : St u g H T S) (hM : M5 g H S0 S) (t_x0 : isO g H 6 x0) (ok : KOL_X8_clear_10 N g H T N x0 x2 x3 x4 x5 S ∧ KOA_X8_clear_10 N g H T x0 x2 x3 x4 x5 S (KL_X8_clear_10 N g H T N x0 x2 x3 x4 x5 S)) (hx : X (KA_X8_clear_10 N g H T x0 x2 x3 x4 x5 S (KL_X8_clear_10 N g H T N x0 x2 x3 x4 x5 S))) : R_ := by
  refine k5l_X8_clear_10 ?_ N x0 x2 x3 x4 x5 S hS hM t_x0 ok.1 (X := fun z => KOA_X8_clear_10 N g H T x0 x2 x3 x4 x5 S z ∧ X (KA_X8_clear_10 N g H T x0 x2 x3 x4 x5 S z)) ⟨ok.2, hx⟩
  · intro x0' x3' x4' S' hS hM t_x0 hz
    obtain ⟨ok, hx⟩ := hz
    unfold KOA_X8_clear_10 at ok
    unfold KA_X8_clear_10 at hx
    exact k5b_X8_clear_231 hR hS hM t_x0 ok hx
set_option maxRecDepth 100000 in
set_option maxHeartbeats 4000000 in
theorem k5b_X8_clear_0 {u g H T N : Nat} {S : cS} {S0 : cS} {R_ : Prop} {X : cS → Prop} (hR : ∀ S', St u g H T S' → M5 g H S0 S' → X S' → R_) {x0 : Nat} {x1 : Int32} {x2 : Int32} (hS : St u g H T S) (hM : M5 g H S0 S) (t_x0 : isO g H 6 x0) (ok : KO_X8_clear_0 N g H T x0 x1 x2 S) (hx : X (KF_X8_clear_0 N g H T x0 x1 x2 S)) : R_ := by
  unfold KO_X8_clear_0 at ok
  unfold KF_X8_clear_0 at hx
  exact k5d_X8_clear_10 hR hS hM t_x0 ok hx
set_option maxRecDepth 100000 in
set_option maxHeartbeats 4000000 in
theorem k5c_X8_clear {u g H T N : Nat} {S : cS} {a0 : Nat} {x1 : Int32} {x2 : Int32} (hS : St u g H T S) (t_x0 : isO g H 6 a0) (ok : p_X8_clear N g H T S a0 x1 x2) : St u g H T (k_X8_clear N g H T S a0 x1 x2) ∧ M5 g H S (k_X8_clear N g H T S a0 x1 x2) := by
  exact k5b_X8_clear_0 (X := fun F => F = k_X8_clear N g H T S a0 x1 x2) (fun S' h1 h2 h => by rw [← h]; exact ⟨h1, h2⟩) hS M5.rfl' t_x0 ok rfl
set_option maxRecDepth 100000 in
set_option maxHeartbeats 4000000 in
theorem k5b_X8_clearDecided_62 {u g H T N : Nat} {S : cS} {S0 : cS} {R_ : Prop} {X : cS → Prop} (hR : ∀ S', St u g H T S' → M5 g H S0 S' → X S' → R_) (hS : St u g H T S) (hM : M5 g H S0 S) (ok : KO_X8_clearDecided_62 N g H T S) (hx : X (KF_X8_clearDecided_62 N g H T S)) : R_ := by
  unfold KO_X8_clearDecided_62 at ok
  unfold KF_X8_clearDecided_62 at hx
  exact hR _ hS hM hx
set_option maxRecDepth 100000 in
set_option maxHeartbeats 4000000 in
theorem k5b_X8_clearDecided_56 {u g H T N : Nat} {S : cS} {S0 : cS} {R_ : Prop} {X : Nat × cS → Prop} (hX0 : ∀ (S' : cS), St u g H T S' → M5 g H S0 S' → X (0, S') → R_) {rec : Nat → Int32 → cS → Nat × cS} {rok : Nat → Int32 → cS → Prop} (hrec : ∀ (x0 : Nat) (x1 : Int32) (S : cS), St u g H T S → M5 g H S0 S → isO g H 6 x0 → rok x0 x1 S → X (rec x0 x1 S) → R_) {x0 : Nat} {x1 : Int32} (hS : St u g H T S) (hM : M5 g H S0 S) (t_x0 : isO g H 6 x0) (ok : KO_X8_clearDecided_56 N g H T rok x0 x1 S) (hx : X (KF_X8_clearDecided_56 N g H T rec x0 x1 S)) : R_ := by
  unfold KO_X8_clearDecided_56 at ok
  unfold KF_X8_clearDecided_56 at hx
  exact hrec _ _ S hS hM t_x0 ok hx
set_option maxRecDepth 100000 in
set_option maxHeartbeats 4000000 in
theorem k5b_X8_clearDecided_39 {u g H T N : Nat} {S : cS} {S0 : cS} {R_ : Prop} {X : Nat × cS → Prop} (hX0 : ∀ (S' : cS), St u g H T S' → M5 g H S0 S' → X (0, S') → R_) {rec : Nat → Int32 → cS → Nat × cS} {rok : Nat → Int32 → cS → Prop} (hrec : ∀ (x0 : Nat) (x1 : Int32) (S : cS), St u g H T S → M5 g H S0 S → isO g H 6 x0 → rok x0 x1 S → X (rec x0 x1 S) → R_) {x0 : Nat} {x1 : Int32} (hS : St u g H T S) (hM : M5 g H S0 S) (t_x0 : isO g H 6 x0) (ok : KO_X8_clearDecided_39 N g H T rok x0 x1 S) (hx : X (KF_X8_clearDecided_39 N g H T rec x0 x1 S)) : R_ := by
  unfold KO_X8_clearDecided_39 at ok
  unfold KF_X8_clearDecided_39 at hx
  have hS2 := hS.P24 (i := x1.toNatClampNeg) ((hS.rk (c := 6) (k := 6) t_x0 rfl (by omega)) _ rfl) tK_none
  have hS := hS2
  have hM := hM.P (x0 + 6) x1.toNatClampNeg (none : Option Nat)
  have ok := ok.2
  have hS := hS.I 11 x0 ((cI (csP S (x0 + 6) x1.toNatClampNeg (none : Option Nat)) 11 x0) - (nI 1))
  have hM := hM.I 11 x0 ((cI (csP S (x0 + 6) x1.toNatClampNeg (none : Option Nat)) 11 x0) - (nI 1))
  exact k5b_X8_clearDecided_56 hX0 hrec hS hM t_x0 ok hx
set_option maxRecDepth 100000 in
set_option maxHeartbeats 4000000 in
theorem k5bb_X8_clearDecided_2 {u g H T N : Nat} {S : cS} {S0 : cS} {R_ : Prop} {X : Nat × cS → Prop} (hX0 : ∀ (S' : cS), St u g H T S' → M5 g H S0 S' → X (0, S') → R_) {rec : Nat → Int32 → cS → Nat × cS} {rok : Nat → Int32 → cS → Prop} (hrec : ∀ (x0 : Nat) (x1 : Int32) (S : cS), St u g H T S → M5 g H S0 S → isO g H 6 x0 → rok x0 x1 S → X (rec x0 x1 S) → R_) {x0 : Nat} {x1 : Int32} (hS : St u g H T S) (hM : M5 g H S0 S) (t_x0 : isO g H 6 x0) (ok : KOB_X8_clearDecided_2 N g H T rok x0 x1 S) (hx : X (KB_X8_clearDecided_2 N g H T rec x0 x1 S)) : R_ := by
  unfold KOB_X8_clearDecided_2 at ok
  unfold KB_X8_clearDecided_2 at hx
  refine pif_p ok (fun c_7 => ?_) (fun c_7 => ?_)
  · have ok := ok.1 c_7
    have hx := xif_p c_7 hx
    exact hX0 S hS hM  hx
  · have ok := ok.2 c_7
    have hx := xif_n c_7 hx
    refine pif_p ok (fun c_14 => ?_) (fun c_14 => ?_)
    · have ok := ok.1 c_14
      have hx := xif_p c_14 hx
      exact hX0 S hS hM  hx
    · have ok := ok.2 c_14
      have hx := xif_n c_14 hx
      have p_22 := hS.row24 (hS.rk (c := 6) (k := 6) t_x0 rfl (by omega)) x1.toNatClampNeg
      have ok := ok.2
      refine pif_p ok (fun c_23 => ?_) (fun c_23 => ?_)
      · have ok := ok.1 c_23
        have hx := xif_p c_23 hx
        exact k5b_X8_clearDecided_56 hX0 hrec hS hM t_x0 ok hx
      · have ok := ok.2 c_23
        have hx := xif_n c_23 hx
        have p_35 := hS.row24 (hS.rk (c := 6) (k := 6) t_x0 rfl (by omega)) x1.toNatClampNeg
        have ok := ok.2
        obtain ⟨hS, hm_36⟩ := k5c_X9_drop hS (o60 t_x0) p_35 ok.1
        have hM := hM.trans hm_36
        have ok := ok.2
        exact k5b_X8_clearDecided_39 hX0 hrec hS hM t_x0 ok hx
set_option maxRecDepth 100000 in
set_option maxHeartbeats 4000000 in
theorem k5l_X8_clearDecided_2 {u g H T N : Nat} {S0 : cS} {R_ : Prop} {X : Nat × cS → Prop} (hX0 : ∀ (S' : cS), St u g H T S' → M5 g H S0 S' → X (0, S') → R_) : ∀ (n : Nat) (x0 : Nat) (x1 : Int32) (S : cS), St u g H T S → M5 g H S0 S → isO g H 6 x0 → KOL_X8_clearDecided_2 N g H T n x0 x1 S → X (KL_X8_clearDecided_2 N g H T n x0 x1 S) → R_ := by
  intro n
  induction n with
  | zero => intro x0 x1 S hS hM t_x0 ok; exact absurd ok id
  | succ n ih =>
    intro x0 x1 S hS hM t_x0 ok hx
    exact k5bb_X8_clearDecided_2 hX0 (rec := KL_X8_clearDecided_2 N g H T n) (rok := KOL_X8_clearDecided_2 N g H T n) (fun x0 x1 S hS hM t_x0 ok hx => ih x0 x1 S hS hM t_x0 ok hx) hS hM t_x0 ok hx
set_option maxRecDepth 100000 in
set_option maxHeartbeats 4000000 in
theorem k5d_X8_clearDecided_2 {u g H T N : Nat} {S : cS} {S0 : cS} {R_ : Prop} {X : cS → Prop} (hR : ∀ S', St u g H T S' → M5 g H S0 S' → X S' → R_) {x0 : Nat} {x1 : Int32} (hS : St u g H T S) (hM : M5 g H S0 S) (t_x0 : isO g H 6 x0) (ok : KOL_X8_clearDecided_2 N g H T N x0 x1 S ∧ KOA_X8_clearDecided_2 N g H T x0 x1 S (KL_X8_clearDecided_2 N g H T N x0 x1 S)) (hx : X (KA_X8_clearDecided_2 N g H T x0 x1 S (KL_X8_clearDecided_2 N g H T N x0 x1 S))) : R_ := by
  refine k5l_X8_clearDecided_2 ?_ N x0 x1 S hS hM t_x0 ok.1 (X := fun z => KOA_X8_clearDecided_2 N g H T x0 x1 S z ∧ X (KA_X8_clearDecided_2 N g H T x0 x1 S z)) ⟨ok.2, hx⟩
  · intro S' hS hM hz
    obtain ⟨ok, hx⟩ := hz
    unfold KOA_X8_clearDecided_2 at ok
    unfold KA_X8_clearDecided_2 at hx
    exact k5b_X8_clearDecided_62 hR hS hM  ok hx
set_option maxRecDepth 100000 in
set_option maxHeartbeats 4000000 in
theorem k5b_X8_clearDecided_0 {u g H T N : Nat} {S : cS} {S0 : cS} {R_ : Prop} {X : cS → Prop} (hR : ∀ S', St u g H T S' → M5 g H S0 S' → X S' → R_) {x0 : Nat} (hS : St u g H T S) (hM : M5 g H S0 S) (t_x0 : isO g H 6 x0) (ok : KO_X8_clearDecided_0 N g H T x0 S) (hx : X (KF_X8_clearDecided_0 N g H T x0 S)) : R_ := by
  unfold KO_X8_clearDecided_0 at ok
  unfold KF_X8_clearDecided_0 at hx
  exact k5d_X8_clearDecided_2 hR hS hM t_x0 ok hx
set_option maxRecDepth 100000 in
set_option maxHeartbeats 4000000 in
theorem k5c_X8_clearDecided {u g H T N : Nat} {S : cS} {a0 : Nat} (hS : St u g H T S) (t_x0 : isO g H 6 a0) (ok : p_X8_clearDecided N g H T S a0) : St u g H T (k_X8_clearDecided N g H T S a0) ∧ M5 g H S (k_X8_clearDecided N g H T S a0) := by
  exact k5b_X8_clearDecided_0 (X := fun F => F = k_X8_clearDecided N g H T S a0) (fun S' h1 h2 h => by rw [← h]; exact ⟨h1, h2⟩) hS M5.rfl' t_x0 ok rfl
set_option maxRecDepth 100000 in
set_option maxHeartbeats 4000000 in
theorem k5b_X8_clearRest_56 {u g H T N : Nat} {S : cS} {S0 : cS} {R_ : Prop} {X : cS → Prop} (hR : ∀ S', St u g H T S' → M5 g H S0 S' → X S' → R_) {x0 : Nat} (hS : St u g H T S) (hM : M5 g H S0 S) (t_x0 : isO g H 6 x0) (ok : KO_X8_clearRest_56 N g H T x0 S) (hx : X (KF_X8_clearRest_56 N g H T x0 S)) : R_ := by
  unfold KO_X8_clearRest_56 at ok
  unfold KF_X8_clearRest_56 at hx
  have hS := hS.I 13 x0 (nI 0)
  have hM := hM.I 13 x0 (nI 0)
  have hS := hS.I 12 x0 (nI 0)
  have hM := hM.I 12 x0 (nI 0)
  exact hR _ hS hM hx
set_option maxRecDepth 100000 in
set_option maxHeartbeats 4000000 in
theorem k5b_X8_clearRest_50 {u g H T N : Nat} {S : cS} {S0 : cS} {R_ : Prop} {X : Nat × Nat × cS → Prop} (hX0 : ∀ (x0 : Nat) (S' : cS), St u g H T S' → M5 g H S0 S' → isO g H 6 x0 → X (0, x0, S') → R_) {rec : Nat → Int32 → cS → Nat × Nat × cS} {rok : Nat → Int32 → cS → Prop} (hrec : ∀ (x0 : Nat) (x1 : Int32) (S : cS), St u g H T S → M5 g H S0 S → isO g H 6 x0 → rok x0 x1 S → X (rec x0 x1 S) → R_) {x0 : Nat} {x1 : Int32} (hS : St u g H T S) (hM : M5 g H S0 S) (t_x0 : isO g H 6 x0) (ok : KO_X8_clearRest_50 N g H T rok x0 x1 S) (hx : X (KF_X8_clearRest_50 N g H T rec x0 x1 S)) : R_ := by
  unfold KO_X8_clearRest_50 at ok
  unfold KF_X8_clearRest_50 at hx
  exact hrec _ _ S hS hM t_x0 ok hx
set_option maxRecDepth 100000 in
set_option maxHeartbeats 4000000 in
theorem k5b_X8_clearRest_36 {u g H T N : Nat} {S : cS} {S0 : cS} {R_ : Prop} {X : Nat × Nat × cS → Prop} (hX0 : ∀ (x0 : Nat) (S' : cS), St u g H T S' → M5 g H S0 S' → isO g H 6 x0 → X (0, x0, S') → R_) {rec : Nat → Int32 → cS → Nat × Nat × cS} {rok : Nat → Int32 → cS → Prop} (hrec : ∀ (x0 : Nat) (x1 : Int32) (S : cS), St u g H T S → M5 g H S0 S → isO g H 6 x0 → rok x0 x1 S → X (rec x0 x1 S) → R_) {x0 : Nat} {x1 : Int32} (hS : St u g H T S) (hM : M5 g H S0 S) (t_x0 : isO g H 6 x0) (ok : KO_X8_clearRest_36 N g H T rok x0 x1 S) (hx : X (KF_X8_clearRest_36 N g H T rec x0 x1 S)) : R_ := by
  unfold KO_X8_clearRest_36 at ok
  unfold KF_X8_clearRest_36 at hx
  have hS2 := hS.P24 (i := x1.toNatClampNeg) ((hS.rk (c := 6) (k := 8) t_x0 rfl (by omega)) _ rfl) tK_none
  have hS := hS2
  have hM := hM.P (x0 + 8) x1.toNatClampNeg (none : Option Nat)
  have ok := ok.2
  have hS2 := hS.P24 (i := x1.toNatClampNeg) ((hS.rk (c := 6) (k := 9) t_x0 rfl (by omega)) _ rfl) tK_none
  have hS := hS2
  have hM := hM.P (x0 + 9) x1.toNatClampNeg (none : Option Nat)
  have ok := ok.2
  exact k5b_X8_clearRest_50 hX0 hrec hS hM t_x0 ok hx
set_option maxRecDepth 100000 in
set_option maxHeartbeats 4000000 in
theorem k5b_X8_clearRest_23 {u g H T N : Nat} {S : cS} {S0 : cS} {R_ : Prop} {X : Nat × Nat × cS → Prop} (hX0 : ∀ (x0 : Nat) (S' : cS), St u g H T S' → M5 g H S0 S' → isO g H 6 x0 → X (0, x0, S') → R_) {rec : Nat → Int32 → cS → Nat × Nat × cS} {rok : Nat → Int32 → cS → Prop} (hrec : ∀ (x0 : Nat) (x1 : Int32) (S : cS), St u g H T S → M5 g H S0 S → isO g H 6 x0 → rok x0 x1 S → X (rec x0 x1 S) → R_) {x0 : Nat} {x1 : Int32} (hS : St u g H T S) (hM : M5 g H S0 S) (t_x0 : isO g H 6 x0) (ok : KO_X8_clearRest_23 N g H T rok x0 x1 S) (hx : X (KF_X8_clearRest_23 N g H T rec x0 x1 S)) : R_ := by
  unfold KO_X8_clearRest_23 at ok
  unfold KF_X8_clearRest_23 at hx
  have p_32 := hS.row24 (hS.rk (c := 6) (k := 9) t_x0 rfl (by omega)) x1.toNatClampNeg
  have ok := ok.2
  obtain ⟨hS, hm_33⟩ := k5c_X9_drop hS (o60 t_x0) p_32 ok.1
  have hM := hM.trans hm_33
  have ok := ok.2
  exact k5b_X8_clearRest_36 hX0 hrec hS hM t_x0 ok hx
set_option maxRecDepth 100000 in
set_option maxHeartbeats 4000000 in
theorem k5bb_X8_clearRest_2 {u g H T N : Nat} {S : cS} {S0 : cS} {R_ : Prop} {X : Nat × Nat × cS → Prop} (hX0 : ∀ (x0 : Nat) (S' : cS), St u g H T S' → M5 g H S0 S' → isO g H 6 x0 → X (0, x0, S') → R_) {rec : Nat → Int32 → cS → Nat × Nat × cS} {rok : Nat → Int32 → cS → Prop} (hrec : ∀ (x0 : Nat) (x1 : Int32) (S : cS), St u g H T S → M5 g H S0 S → isO g H 6 x0 → rok x0 x1 S → X (rec x0 x1 S) → R_) {x0 : Nat} {x1 : Int32} (hS : St u g H T S) (hM : M5 g H S0 S) (t_x0 : isO g H 6 x0) (ok : KOB_X8_clearRest_2 N g H T rok x0 x1 S) (hx : X (KB_X8_clearRest_2 N g H T rec x0 x1 S)) : R_ := by
  unfold KOB_X8_clearRest_2 at ok
  unfold KB_X8_clearRest_2 at hx
  refine pif_p ok (fun c_7 => ?_) (fun c_7 => ?_)
  · have ok := ok.1 c_7
    have hx := xif_p c_7 hx
    exact hX0 _ S hS hM t_x0 hx
  · have ok := ok.2 c_7
    have hx := xif_n c_7 hx
    have p_19 := hS.row24 (hS.rk (c := 6) (k := 8) t_x0 rfl (by omega)) x1.toNatClampNeg
    have ok := ok.2
    obtain ⟨hS, hm_20⟩ := k5c_X9_drop hS (o60 t_x0) p_19 ok.1
    have hM := hM.trans hm_20
    have ok := ok.2
    exact k5b_X8_clearRest_23 hX0 hrec hS hM t_x0 ok hx
set_option maxRecDepth 100000 in
set_option maxHeartbeats 4000000 in
theorem k5l_X8_clearRest_2 {u g H T N : Nat} {S0 : cS} {R_ : Prop} {X : Nat × Nat × cS → Prop} (hX0 : ∀ (x0 : Nat) (S' : cS), St u g H T S' → M5 g H S0 S' → isO g H 6 x0 → X (0, x0, S') → R_) : ∀ (n : Nat) (x0 : Nat) (x1 : Int32) (S : cS), St u g H T S → M5 g H S0 S → isO g H 6 x0 → KOL_X8_clearRest_2 N g H T n x0 x1 S → X (KL_X8_clearRest_2 N g H T n x0 x1 S) → R_ := by
  intro n
  induction n with
  | zero => intro x0 x1 S hS hM t_x0 ok; exact absurd ok id
  | succ n ih =>
    intro x0 x1 S hS hM t_x0 ok hx
    exact k5bb_X8_clearRest_2 hX0 (rec := KL_X8_clearRest_2 N g H T n) (rok := KOL_X8_clearRest_2 N g H T n) (fun x0 x1 S hS hM t_x0 ok hx => ih x0 x1 S hS hM t_x0 ok hx) hS hM t_x0 ok hx
set_option maxRecDepth 100000 in
set_option maxHeartbeats 4000000 in
theorem k5d_X8_clearRest_2 {u g H T N : Nat} {S : cS} {S0 : cS} {R_ : Prop} {X : cS → Prop} (hR : ∀ S', St u g H T S' → M5 g H S0 S' → X S' → R_) {x0 : Nat} {x1 : Int32} (hS : St u g H T S) (hM : M5 g H S0 S) (t_x0 : isO g H 6 x0) (ok : KOL_X8_clearRest_2 N g H T N x0 x1 S ∧ KOA_X8_clearRest_2 N g H T x0 x1 S (KL_X8_clearRest_2 N g H T N x0 x1 S)) (hx : X (KA_X8_clearRest_2 N g H T x0 x1 S (KL_X8_clearRest_2 N g H T N x0 x1 S))) : R_ := by
  refine k5l_X8_clearRest_2 ?_ N x0 x1 S hS hM t_x0 ok.1 (X := fun z => KOA_X8_clearRest_2 N g H T x0 x1 S z ∧ X (KA_X8_clearRest_2 N g H T x0 x1 S z)) ⟨ok.2, hx⟩
  · intro x0' S' hS hM t_x0 hz
    obtain ⟨ok, hx⟩ := hz
    unfold KOA_X8_clearRest_2 at ok
    unfold KA_X8_clearRest_2 at hx
    exact k5b_X8_clearRest_56 hR hS hM t_x0 ok hx
set_option maxRecDepth 100000 in
set_option maxHeartbeats 4000000 in
theorem k5b_X8_clearRest_0 {u g H T N : Nat} {S : cS} {S0 : cS} {R_ : Prop} {X : cS → Prop} (hR : ∀ S', St u g H T S' → M5 g H S0 S' → X S' → R_) {x0 : Nat} (hS : St u g H T S) (hM : M5 g H S0 S) (t_x0 : isO g H 6 x0) (ok : KO_X8_clearRest_0 N g H T x0 S) (hx : X (KF_X8_clearRest_0 N g H T x0 S)) : R_ := by
  unfold KO_X8_clearRest_0 at ok
  unfold KF_X8_clearRest_0 at hx
  exact k5d_X8_clearRest_2 hR hS hM t_x0 ok hx
set_option maxRecDepth 100000 in
set_option maxHeartbeats 4000000 in
theorem k5c_X8_clearRest {u g H T N : Nat} {S : cS} {a0 : Nat} (hS : St u g H T S) (t_x0 : isO g H 6 a0) (ok : p_X8_clearRest N g H T S a0) : St u g H T (k_X8_clearRest N g H T S a0) ∧ M5 g H S (k_X8_clearRest N g H T S a0) := by
  exact k5b_X8_clearRest_0 (X := fun F => F = k_X8_clearRest N g H T S a0) (fun S' h1 h2 h => by rw [← h]; exact ⟨h1, h2⟩) hS M5.rfl' t_x0 ok rfl

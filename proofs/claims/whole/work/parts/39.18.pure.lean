/-! EVERY METHOD THAT WRITES KEEPS St AND KINDS (pure) -/
set_option maxRecDepth 100000 in
set_option maxHeartbeats 4000000 in
theorem kpb_X7_settle_139 {u g H T N : Nat} {S : cS} {S0 : cS} {R_ : Prop} {X : cS → Prop} (hR : ∀ S', St u g H T S' → Mono S0 S' → X S' → R_) {x0 : Option Nat} (hS : St u g H T S) (hM : Mono S0 S) (t_x0 : tN g H x0) (ok : KO_X7_settle_139 N g H T x0 S) (hx : X (KF_X7_settle_139 N g H T x0 S)) : R_ := by
  unfold KO_X7_settle_139 at ok
  unfold KF_X7_settle_139 at hx
  have nn_140 := ok.1
  have ok := ok.2
  obtain ⟨hS, hm_157⟩ := kpc_X0_refresh hS (o54 (tN.o t_x0 nn_140)) (o85 (o50 (tN.o t_x0 nn_140))) (o89 (o50 (tN.o t_x0 nn_140))) ok.1
  have hM := hM.trans hm_157
  have ok := ok.2
  exact hR _ hS hM hx
set_option maxRecDepth 100000 in
set_option maxHeartbeats 4000000 in
theorem kpb_X7_settle_133 {u g H T N : Nat} {S : cS} {S0 : cS} {R_ : Prop} {X : Nat × Option Nat × cS → Prop} (hX0 : ∀ (x0 : Option Nat) (S' : cS), St u g H T S' → Mono S0 S' → X (0, x0, S') → R_) (hX1 : ∀ (x0 : Option Nat) (S' : cS), St u g H T S' → Mono S0 S' → tN g H x0 → X (1, x0, S') → R_) {rec : Option Nat → Int32 → cS → Nat × Option Nat × cS} {rok : Option Nat → Int32 → cS → Prop} (hrec : ∀ (x0 : Option Nat) (x1 : Int32) (S : cS), St u g H T S → Mono S0 S → tN g H x0 → rok x0 x1 S → X (rec x0 x1 S) → R_) {x0 : Option Nat} {x1 : Int32} (hS : St u g H T S) (hM : Mono S0 S) (t_x0 : tN g H x0) (ok : KO_X7_settle_133 N g H T rok x0 x1 S) (hx : X (KF_X7_settle_133 N g H T rec x0 x1 S)) : R_ := by
  unfold KO_X7_settle_133 at ok
  unfold KF_X7_settle_133 at hx
  exact hrec _ _ S hS hM t_x0 ok hx
set_option maxRecDepth 100000 in
set_option maxHeartbeats 4000000 in
theorem kpb_X7_settle_132 {u g H T N : Nat} {S : cS} {S0 : cS} {R_ : Prop} {X : cS → Prop} (hR : ∀ S', St u g H T S' → Mono S0 S' → X S' → R_) (hS : St u g H T S) (hM : Mono S0 S) (ok : KO_X7_settle_132 N g H T S) (hx : X (KF_X7_settle_132 N g H T S)) : R_ := by
  unfold KO_X7_settle_132 at ok
  unfold KF_X7_settle_132 at hx
  exact hR _ hS hM hx
set_option maxRecDepth 100000 in
set_option maxHeartbeats 4000000 in
theorem kpb_X7_settle_127 {u g H T N : Nat} {S : cS} {S0 : cS} {R_ : Prop} {X : Nat × Option Nat × cS → Prop} (hX0 : ∀ (x0 : Option Nat) (S' : cS), St u g H T S' → Mono S0 S' → X (0, x0, S') → R_) (hX1 : ∀ (x0 : Option Nat) (S' : cS), St u g H T S' → Mono S0 S' → tN g H x0 → X (1, x0, S') → R_) {rec : Option Nat → Int32 → cS → Nat × Option Nat × cS} {rok : Option Nat → Int32 → cS → Prop} (hrec : ∀ (x0 : Option Nat) (x1 : Int32) (S : cS), St u g H T S → Mono S0 S → tN g H x0 → rok x0 x1 S → X (rec x0 x1 S) → R_) {x0 : Option Nat} {x1 : Int32} {s0 : Int32} (hS : St u g H T S) (hM : Mono S0 S) (t_x0 : tN g H x0) (ok : KO_X7_settle_127 N g H T rok x0 x1 s0 S) (hx : X (KF_X7_settle_127 N g H T rec x0 x1 s0 S)) : R_ := by
  unfold KO_X7_settle_127 at ok
  unfold KF_X7_settle_127 at hx
  refine pif_n ok (fun c_129 => ?_) (fun c_129 => ?_)
  · have ok := ok.2 c_129
    have hx := xif_n c_129 hx
    exact kpb_X7_settle_133 hX0 hX1 hrec hS hM t_x0 ok hx
  · have ok := ok.1 c_129
    have hx := xif_p c_129 hx
    exact hX0 _ S hS hM  hx
set_option maxRecDepth 100000 in
set_option maxHeartbeats 4000000 in
theorem kpb_X7_settle_122 {u g H T N : Nat} {S : cS} {S0 : cS} {R_ : Prop} {X : Nat × Option Nat × cS → Prop} (hX0 : ∀ (x0 : Option Nat) (S' : cS), St u g H T S' → Mono S0 S' → X (0, x0, S') → R_) (hX1 : ∀ (x0 : Option Nat) (S' : cS), St u g H T S' → Mono S0 S' → tN g H x0 → X (1, x0, S') → R_) {rec : Option Nat → Int32 → cS → Nat × Option Nat × cS} {rok : Option Nat → Int32 → cS → Prop} (hrec : ∀ (x0 : Option Nat) (x1 : Int32) (S : cS), St u g H T S → Mono S0 S → tN g H x0 → rok x0 x1 S → X (rec x0 x1 S) → R_) {x0 : Option Nat} {x1 : Int32} (hS : St u g H T S) (hM : Mono S0 S) (t_x0 : tN g H x0) (ok : KO_X7_settle_122 N g H T rok x0 x1 S) (hx : X (KF_X7_settle_122 N g H T rec x0 x1 S)) : R_ := by
  unfold KO_X7_settle_122 at ok
  unfold KF_X7_settle_122 at hx
  exact kpb_X7_settle_127 hX0 hX1 hrec hS hM t_x0 ok hx
set_option maxRecDepth 100000 in
set_option maxHeartbeats 4000000 in
theorem kpb_X7_settle_119 {u g H T N : Nat} {S : cS} {S0 : cS} {R_ : Prop} {X : Nat × Option Nat × cS → Prop} (hX0 : ∀ (x0 : Option Nat) (S' : cS), St u g H T S' → Mono S0 S' → X (0, x0, S') → R_) (hX1 : ∀ (x0 : Option Nat) (S' : cS), St u g H T S' → Mono S0 S' → tN g H x0 → X (1, x0, S') → R_) {rec : Option Nat → Int32 → cS → Nat × Option Nat × cS} {rok : Option Nat → Int32 → cS → Prop} (hrec : ∀ (x0 : Option Nat) (x1 : Int32) (S : cS), St u g H T S → Mono S0 S → tN g H x0 → rok x0 x1 S → X (rec x0 x1 S) → R_) {x0 : Option Nat} {x1 : Int32} {s0 : Int32} (hS : St u g H T S) (hM : Mono S0 S) (t_x0 : tN g H x0) (ok : KO_X7_settle_119 N g H T rok x0 x1 s0 S) (hx : X (KF_X7_settle_119 N g H T rec x0 x1 s0 S)) : R_ := by
  unfold KO_X7_settle_119 at ok
  unfold KF_X7_settle_119 at hx
  refine pif_p ok (fun c_119 => ?_) (fun c_119 => ?_)
  · have ok := ok.1 c_119
    have hx := xif_p c_119 hx
    exact kpb_X7_settle_127 hX0 hX1 hrec hS hM t_x0 ok hx
  · have ok := ok.2 c_119
    have hx := xif_n c_119 hx
    exact kpb_X7_settle_122 hX0 hX1 hrec hS hM t_x0 ok hx
set_option maxRecDepth 100000 in
set_option maxHeartbeats 4000000 in
theorem kpb_X7_settle_112 {u g H T N : Nat} {S : cS} {S0 : cS} {R_ : Prop} {X : Nat × Option Nat × cS → Prop} (hX0 : ∀ (x0 : Option Nat) (S' : cS), St u g H T S' → Mono S0 S' → X (0, x0, S') → R_) (hX1 : ∀ (x0 : Option Nat) (S' : cS), St u g H T S' → Mono S0 S' → tN g H x0 → X (1, x0, S') → R_) {rec : Option Nat → Int32 → cS → Nat × Option Nat × cS} {rok : Option Nat → Int32 → cS → Prop} (hrec : ∀ (x0 : Option Nat) (x1 : Int32) (S : cS), St u g H T S → Mono S0 S → tN g H x0 → rok x0 x1 S → X (rec x0 x1 S) → R_) {x0 : Option Nat} {x1 : Int32} {s0 : Int32} (hS : St u g H T S) (hM : Mono S0 S) (t_x0 : tN g H x0) (ok : KO_X7_settle_112 N g H T rok x0 x1 s0 S) (hx : X (KF_X7_settle_112 N g H T rec x0 x1 s0 S)) : R_ := by
  unfold KO_X7_settle_112 at ok
  unfold KF_X7_settle_112 at hx
  refine pif_n ok (fun c_112 => ?_) (fun c_112 => ?_)
  · have ok := ok.2 c_112
    have hx := xif_n c_112 hx
    exact kpb_X7_settle_122 hX0 hX1 hrec hS hM t_x0 ok hx
  · have ok := ok.1 c_112
    have hx := xif_p c_112 hx
    obtain ⟨hS, hm_116⟩ := kpc_X7_awaitsPrecommits hS t_x0 ok.1
    have hM := hM.trans hm_116
    have ok := ok.2
    exact kpb_X7_settle_119 hX0 hX1 hrec hS hM t_x0 ok hx
set_option maxRecDepth 100000 in
set_option maxHeartbeats 4000000 in
theorem kpb_X7_settle_105 {u g H T N : Nat} {S : cS} {S0 : cS} {R_ : Prop} {X : Nat × Option Nat × cS → Prop} (hX0 : ∀ (x0 : Option Nat) (S' : cS), St u g H T S' → Mono S0 S' → X (0, x0, S') → R_) (hX1 : ∀ (x0 : Option Nat) (S' : cS), St u g H T S' → Mono S0 S' → tN g H x0 → X (1, x0, S') → R_) {rec : Option Nat → Int32 → cS → Nat × Option Nat × cS} {rok : Option Nat → Int32 → cS → Prop} (hrec : ∀ (x0 : Option Nat) (x1 : Int32) (S : cS), St u g H T S → Mono S0 S → tN g H x0 → rok x0 x1 S → X (rec x0 x1 S) → R_) {x0 : Option Nat} {x1 : Int32} {s0 : Int32} (hS : St u g H T S) (hM : Mono S0 S) (t_x0 : tN g H x0) (ok : KO_X7_settle_105 N g H T rok x0 x1 s0 S) (hx : X (KF_X7_settle_105 N g H T rec x0 x1 s0 S)) : R_ := by
  unfold KO_X7_settle_105 at ok
  unfold KF_X7_settle_105 at hx
  refine pif_n ok (fun c_105 => ?_) (fun c_105 => ?_)
  · have ok := ok.2 c_105
    have hx := xif_n c_105 hx
    exact kpb_X7_settle_122 hX0 hX1 hrec hS hM t_x0 ok hx
  · have ok := ok.1 c_105
    have hx := xif_p c_105 hx
    obtain ⟨hS, hm_109⟩ := kpc_X7_awaitsPrevotes hS t_x0 ok.1
    have hM := hM.trans hm_109
    have ok := ok.2
    exact kpb_X7_settle_112 hX0 hX1 hrec hS hM t_x0 ok hx
set_option maxRecDepth 100000 in
set_option maxHeartbeats 4000000 in
theorem kpb_X7_settle_98 {u g H T N : Nat} {S : cS} {S0 : cS} {R_ : Prop} {X : Nat × Option Nat × cS → Prop} (hX0 : ∀ (x0 : Option Nat) (S' : cS), St u g H T S' → Mono S0 S' → X (0, x0, S') → R_) (hX1 : ∀ (x0 : Option Nat) (S' : cS), St u g H T S' → Mono S0 S' → tN g H x0 → X (1, x0, S') → R_) {rec : Option Nat → Int32 → cS → Nat × Option Nat × cS} {rok : Option Nat → Int32 → cS → Prop} (hrec : ∀ (x0 : Option Nat) (x1 : Int32) (S : cS), St u g H T S → Mono S0 S → tN g H x0 → rok x0 x1 S → X (rec x0 x1 S) → R_) {x0 : Option Nat} {x1 : Int32} {s0 : Int32} (hS : St u g H T S) (hM : Mono S0 S) (t_x0 : tN g H x0) (ok : KO_X7_settle_98 N g H T rok x0 x1 s0 S) (hx : X (KF_X7_settle_98 N g H T rec x0 x1 s0 S)) : R_ := by
  unfold KO_X7_settle_98 at ok
  unfold KF_X7_settle_98 at hx
  refine pif_n ok (fun c_98 => ?_) (fun c_98 => ?_)
  · have ok := ok.2 c_98
    have hx := xif_n c_98 hx
    exact kpb_X7_settle_122 hX0 hX1 hrec hS hM t_x0 ok hx
  · have ok := ok.1 c_98
    have hx := xif_p c_98 hx
    obtain ⟨hS, hm_102⟩ := kpc_X7_precommitsNone hS t_x0 ok.1
    have hM := hM.trans hm_102
    have ok := ok.2
    exact kpb_X7_settle_105 hX0 hX1 hrec hS hM t_x0 ok hx
set_option maxRecDepth 100000 in
set_option maxHeartbeats 4000000 in
theorem kpb_X7_settle_91 {u g H T N : Nat} {S : cS} {S0 : cS} {R_ : Prop} {X : Nat × Option Nat × cS → Prop} (hX0 : ∀ (x0 : Option Nat) (S' : cS), St u g H T S' → Mono S0 S' → X (0, x0, S') → R_) (hX1 : ∀ (x0 : Option Nat) (S' : cS), St u g H T S' → Mono S0 S' → tN g H x0 → X (1, x0, S') → R_) {rec : Option Nat → Int32 → cS → Nat × Option Nat × cS} {rok : Option Nat → Int32 → cS → Prop} (hrec : ∀ (x0 : Option Nat) (x1 : Int32) (S : cS), St u g H T S → Mono S0 S → tN g H x0 → rok x0 x1 S → X (rec x0 x1 S) → R_) {x0 : Option Nat} {x1 : Int32} {s0 : Int32} (hS : St u g H T S) (hM : Mono S0 S) (t_x0 : tN g H x0) (ok : KO_X7_settle_91 N g H T rok x0 x1 s0 S) (hx : X (KF_X7_settle_91 N g H T rec x0 x1 s0 S)) : R_ := by
  unfold KO_X7_settle_91 at ok
  unfold KF_X7_settle_91 at hx
  refine pif_n ok (fun c_91 => ?_) (fun c_91 => ?_)
  · have ok := ok.2 c_91
    have hx := xif_n c_91 hx
    exact kpb_X7_settle_122 hX0 hX1 hrec hS hM t_x0 ok hx
  · have ok := ok.1 c_91
    have hx := xif_p c_91 hx
    obtain ⟨hS, hm_95⟩ := kpc_X7_locks hS t_x0 ok.1
    have hM := hM.trans hm_95
    have ok := ok.2
    exact kpb_X7_settle_98 hX0 hX1 hrec hS hM t_x0 ok hx
set_option maxRecDepth 100000 in
set_option maxHeartbeats 4000000 in
theorem kpb_X7_settle_84 {u g H T N : Nat} {S : cS} {S0 : cS} {R_ : Prop} {X : Nat × Option Nat × cS → Prop} (hX0 : ∀ (x0 : Option Nat) (S' : cS), St u g H T S' → Mono S0 S' → X (0, x0, S') → R_) (hX1 : ∀ (x0 : Option Nat) (S' : cS), St u g H T S' → Mono S0 S' → tN g H x0 → X (1, x0, S') → R_) {rec : Option Nat → Int32 → cS → Nat × Option Nat × cS} {rok : Option Nat → Int32 → cS → Prop} (hrec : ∀ (x0 : Option Nat) (x1 : Int32) (S : cS), St u g H T S → Mono S0 S → tN g H x0 → rok x0 x1 S → X (rec x0 x1 S) → R_) {x0 : Option Nat} {x1 : Int32} {s0 : Int32} (hS : St u g H T S) (hM : Mono S0 S) (t_x0 : tN g H x0) (ok : KO_X7_settle_84 N g H T rok x0 x1 s0 S) (hx : X (KF_X7_settle_84 N g H T rec x0 x1 s0 S)) : R_ := by
  unfold KO_X7_settle_84 at ok
  unfold KF_X7_settle_84 at hx
  refine pif_n ok (fun c_84 => ?_) (fun c_84 => ?_)
  · have ok := ok.2 c_84
    have hx := xif_n c_84 hx
    exact kpb_X7_settle_122 hX0 hX1 hrec hS hM t_x0 ok hx
  · have ok := ok.1 c_84
    have hx := xif_p c_84 hx
    obtain ⟨hS, hm_88⟩ := kpc_X7_prevotesOld hS t_x0 ok.1
    have hM := hM.trans hm_88
    have ok := ok.2
    exact kpb_X7_settle_91 hX0 hX1 hrec hS hM t_x0 ok hx
set_option maxRecDepth 100000 in
set_option maxHeartbeats 4000000 in
theorem kpb_X7_settle_77 {u g H T N : Nat} {S : cS} {S0 : cS} {R_ : Prop} {X : Nat × Option Nat × cS → Prop} (hX0 : ∀ (x0 : Option Nat) (S' : cS), St u g H T S' → Mono S0 S' → X (0, x0, S') → R_) (hX1 : ∀ (x0 : Option Nat) (S' : cS), St u g H T S' → Mono S0 S' → tN g H x0 → X (1, x0, S') → R_) {rec : Option Nat → Int32 → cS → Nat × Option Nat × cS} {rok : Option Nat → Int32 → cS → Prop} (hrec : ∀ (x0 : Option Nat) (x1 : Int32) (S : cS), St u g H T S → Mono S0 S → tN g H x0 → rok x0 x1 S → X (rec x0 x1 S) → R_) {x0 : Option Nat} {x1 : Int32} {s0 : Int32} (hS : St u g H T S) (hM : Mono S0 S) (t_x0 : tN g H x0) (ok : KO_X7_settle_77 N g H T rok x0 x1 s0 S) (hx : X (KF_X7_settle_77 N g H T rec x0 x1 s0 S)) : R_ := by
  unfold KO_X7_settle_77 at ok
  unfold KF_X7_settle_77 at hx
  refine pif_n ok (fun c_77 => ?_) (fun c_77 => ?_)
  · have ok := ok.2 c_77
    have hx := xif_n c_77 hx
    exact kpb_X7_settle_122 hX0 hX1 hrec hS hM t_x0 ok hx
  · have ok := ok.1 c_77
    have hx := xif_p c_77 hx
    obtain ⟨hS, hm_81⟩ := kpc_X7_prevotesNew hS t_x0 ok.1
    have hM := hM.trans hm_81
    have ok := ok.2
    exact kpb_X7_settle_84 hX0 hX1 hrec hS hM t_x0 ok hx
set_option maxRecDepth 100000 in
set_option maxHeartbeats 4000000 in
theorem kpb_X7_settle_70 {u g H T N : Nat} {S : cS} {S0 : cS} {R_ : Prop} {X : Nat × Option Nat × cS → Prop} (hX0 : ∀ (x0 : Option Nat) (S' : cS), St u g H T S' → Mono S0 S' → X (0, x0, S') → R_) (hX1 : ∀ (x0 : Option Nat) (S' : cS), St u g H T S' → Mono S0 S' → tN g H x0 → X (1, x0, S') → R_) {rec : Option Nat → Int32 → cS → Nat × Option Nat × cS} {rok : Option Nat → Int32 → cS → Prop} (hrec : ∀ (x0 : Option Nat) (x1 : Int32) (S : cS), St u g H T S → Mono S0 S → tN g H x0 → rok x0 x1 S → X (rec x0 x1 S) → R_) {x0 : Option Nat} {x1 : Int32} {s0 : Int32} (hS : St u g H T S) (hM : Mono S0 S) (t_x0 : tN g H x0) (ok : KO_X7_settle_70 N g H T rok x0 x1 s0 S) (hx : X (KF_X7_settle_70 N g H T rec x0 x1 s0 S)) : R_ := by
  unfold KO_X7_settle_70 at ok
  unfold KF_X7_settle_70 at hx
  refine pif_n ok (fun c_70 => ?_) (fun c_70 => ?_)
  · have ok := ok.2 c_70
    have hx := xif_n c_70 hx
    exact kpb_X7_settle_122 hX0 hX1 hrec hS hM t_x0 ok hx
  · have ok := ok.1 c_70
    have hx := xif_p c_70 hx
    obtain ⟨hS, hm_74⟩ := kpc_X7_skips hS t_x0 ok.1
    have hM := hM.trans hm_74
    have ok := ok.2
    exact kpb_X7_settle_77 hX0 hX1 hrec hS hM t_x0 ok hx
set_option maxRecDepth 100000 in
set_option maxHeartbeats 4000000 in
theorem kpb_X7_settle_63 {u g H T N : Nat} {S : cS} {S0 : cS} {R_ : Prop} {X : Nat × Option Nat × cS → Prop} (hX0 : ∀ (x0 : Option Nat) (S' : cS), St u g H T S' → Mono S0 S' → X (0, x0, S') → R_) (hX1 : ∀ (x0 : Option Nat) (S' : cS), St u g H T S' → Mono S0 S' → tN g H x0 → X (1, x0, S') → R_) {rec : Option Nat → Int32 → cS → Nat × Option Nat × cS} {rok : Option Nat → Int32 → cS → Prop} (hrec : ∀ (x0 : Option Nat) (x1 : Int32) (S : cS), St u g H T S → Mono S0 S → tN g H x0 → rok x0 x1 S → X (rec x0 x1 S) → R_) {x0 : Option Nat} {x1 : Int32} {s0 : Int32} (hS : St u g H T S) (hM : Mono S0 S) (t_x0 : tN g H x0) (ok : KO_X7_settle_63 N g H T rok x0 x1 s0 S) (hx : X (KF_X7_settle_63 N g H T rec x0 x1 s0 S)) : R_ := by
  unfold KO_X7_settle_63 at ok
  unfold KF_X7_settle_63 at hx
  refine pif_n ok (fun c_63 => ?_) (fun c_63 => ?_)
  · have ok := ok.2 c_63
    have hx := xif_n c_63 hx
    exact kpb_X7_settle_122 hX0 hX1 hrec hS hM t_x0 ok hx
  · have ok := ok.1 c_63
    have hx := xif_p c_63 hx
    obtain ⟨hS, hm_67⟩ := kpc_X7_decides hS t_x0 ok.1
    have hM := hM.trans hm_67
    have ok := ok.2
    exact kpb_X7_settle_70 hX0 hX1 hrec hS hM t_x0 ok hx
set_option maxRecDepth 100000 in
set_option maxHeartbeats 4000000 in
theorem kpb_X7_settle_56 {u g H T N : Nat} {S : cS} {S0 : cS} {R_ : Prop} {X : Nat × Option Nat × cS → Prop} (hX0 : ∀ (x0 : Option Nat) (S' : cS), St u g H T S' → Mono S0 S' → X (0, x0, S') → R_) (hX1 : ∀ (x0 : Option Nat) (S' : cS), St u g H T S' → Mono S0 S' → tN g H x0 → X (1, x0, S') → R_) {rec : Option Nat → Int32 → cS → Nat × Option Nat × cS} {rok : Option Nat → Int32 → cS → Prop} (hrec : ∀ (x0 : Option Nat) (x1 : Int32) (S : cS), St u g H T S → Mono S0 S → tN g H x0 → rok x0 x1 S → X (rec x0 x1 S) → R_) {x0 : Option Nat} {x1 : Int32} (hS : St u g H T S) (hM : Mono S0 S) (t_x0 : tN g H x0) (ok : KO_X7_settle_56 N g H T rok x0 x1 S) (hx : X (KF_X7_settle_56 N g H T rec x0 x1 S)) : R_ := by
  unfold KO_X7_settle_56 at ok
  unfold KF_X7_settle_56 at hx
  exact kpb_X7_settle_133 hX0 hX1 hrec hS hM t_x0 ok hx
set_option maxRecDepth 100000 in
set_option maxHeartbeats 4000000 in
theorem kpb_X7_settle_45 {u g H T N : Nat} {S : cS} {S0 : cS} {R_ : Prop} {X : Nat × Option Nat × cS → Prop} (hX0 : ∀ (x0 : Option Nat) (S' : cS), St u g H T S' → Mono S0 S' → X (0, x0, S') → R_) (hX1 : ∀ (x0 : Option Nat) (S' : cS), St u g H T S' → Mono S0 S' → tN g H x0 → X (1, x0, S') → R_) {rec : Option Nat → Int32 → cS → Nat × Option Nat × cS} {rok : Option Nat → Int32 → cS → Prop} (hrec : ∀ (x0 : Option Nat) (x1 : Int32) (S : cS), St u g H T S → Mono S0 S → tN g H x0 → rok x0 x1 S → X (rec x0 x1 S) → R_) {x0 : Option Nat} {x1 : Int32} (hS : St u g H T S) (hM : Mono S0 S) (t_x0 : tN g H x0) (ok : KO_X7_settle_45 N g H T rok x0 x1 S) (hx : X (KF_X7_settle_45 N g H T rec x0 x1 S)) : R_ := by
  unfold KO_X7_settle_45 at ok
  unfold KF_X7_settle_45 at hx
  have nn_46 := ok.1
  have ok := ok.2
  refine pif_p ok (fun c_49 => ?_) (fun c_49 => ?_)
  · have ok := ok.1 c_49
    have hx := xif_p c_49 hx
    obtain ⟨hS, hm_60⟩ := kpc_X7_takes hS t_x0 ok.1
    have hM := hM.trans hm_60
    have ok := ok.2
    exact kpb_X7_settle_63 hX0 hX1 hrec hS hM t_x0 ok hx
  · have ok := ok.2 c_49
    have hx := xif_n c_49 hx
    obtain ⟨hS, hm_53⟩ := kpc_X7_begin hS t_x0 ok.1
    have hM := hM.trans hm_53
    have ok := ok.2
    exact kpb_X7_settle_56 hX0 hX1 hrec hS hM t_x0 ok hx
set_option maxRecDepth 100000 in
set_option maxHeartbeats 4000000 in
theorem kpbb_X7_settle_2 {u g H T N : Nat} {S : cS} {S0 : cS} {R_ : Prop} {X : Nat × Option Nat × cS → Prop} (hX0 : ∀ (x0 : Option Nat) (S' : cS), St u g H T S' → Mono S0 S' → X (0, x0, S') → R_) (hX1 : ∀ (x0 : Option Nat) (S' : cS), St u g H T S' → Mono S0 S' → tN g H x0 → X (1, x0, S') → R_) {rec : Option Nat → Int32 → cS → Nat × Option Nat × cS} {rok : Option Nat → Int32 → cS → Prop} (hrec : ∀ (x0 : Option Nat) (x1 : Int32) (S : cS), St u g H T S → Mono S0 S → tN g H x0 → rok x0 x1 S → X (rec x0 x1 S) → R_) {x0 : Option Nat} {x1 : Int32} (hS : St u g H T S) (hM : Mono S0 S) (t_x0 : tN g H x0) (ok : KOB_X7_settle_2 N g H T rok x0 x1 S) (hx : X (KB_X7_settle_2 N g H T rec x0 x1 S)) : R_ := by
  unfold KOB_X7_settle_2 at ok
  unfold KB_X7_settle_2 at hx
  refine pif_p ok (fun c_5 => ?_) (fun c_5 => ?_)
  · have ok := ok.1 c_5
    have hx := xif_p c_5 hx
    exact hX1 _ S hS hM t_x0 hx
  · have ok := ok.2 c_5
    have hx := xif_n c_5 hx
    have nn_9 := ok.1
    have ok := ok.2
    refine pif_p ok (fun c_12 => ?_) (fun c_12 => ?_)
    · have ok := ok.1 c_12
      have hx := xif_p c_12 hx
      exact hX1 _ S hS hM t_x0 hx
    · have ok := ok.2 c_12
      have hx := xif_n c_12 hx
      refine pif_p ok (fun c_21 => ?_) (fun c_21 => ?_)
      · have ok := ok.1 c_21
        have hx := xif_p c_21 hx
        exact hX1 _ S hS hM t_x0 hx
      · have ok := ok.2 c_21
        have hx := xif_n c_21 hx
        obtain ⟨hS, hm_42⟩ := kpc_X0_refresh hS (o54 (tN.o t_x0 nn_9)) (o85 (o50 (tN.o t_x0 nn_9))) (o89 (o50 (tN.o t_x0 nn_9))) ok.1
        have hM := hM.trans hm_42
        have ok := ok.2
        exact kpb_X7_settle_45 hX0 hX1 hrec hS hM t_x0 ok hx
set_option maxRecDepth 100000 in
set_option maxHeartbeats 4000000 in
theorem kpl_X7_settle_2 {u g H T N : Nat} {S0 : cS} {R_ : Prop} {X : Nat × Option Nat × cS → Prop} (hX0 : ∀ (x0 : Option Nat) (S' : cS), St u g H T S' → Mono S0 S' → X (0, x0, S') → R_) (hX1 : ∀ (x0 : Option Nat) (S' : cS), St u g H T S' → Mono S0 S' → tN g H x0 → X (1, x0, S') → R_) : ∀ (n : Nat) (x0 : Option Nat) (x1 : Int32) (S : cS), St u g H T S → Mono S0 S → tN g H x0 → KOL_X7_settle_2 N g H T n x0 x1 S → X (KL_X7_settle_2 N g H T n x0 x1 S) → R_ := by
  intro n
  induction n with
  | zero => intro x0 x1 S hS hM t_x0 ok; exact absurd ok id
  | succ n ih =>
    intro x0 x1 S hS hM t_x0 ok hx
    exact kpbb_X7_settle_2 hX0 hX1 (rec := KL_X7_settle_2 N g H T n) (rok := KOL_X7_settle_2 N g H T n) (fun x0 x1 S hS hM t_x0 ok hx => ih x0 x1 S hS hM t_x0 ok hx) hS hM t_x0 ok hx
set_option maxRecDepth 100000 in
set_option maxHeartbeats 4000000 in
theorem kpd_X7_settle_2 {u g H T N : Nat} {S : cS} {S0 : cS} {R_ : Prop} {X : cS → Prop} (hR : ∀ S', St u g H T S' → Mono S0 S' → X S' → R_) {x0 : Option Nat} {x1 : Int32} (hS : St u g H T S) (hM : Mono S0 S) (t_x0 : tN g H x0) (ok : KOL_X7_settle_2 N g H T N x0 x1 S ∧ KOA_X7_settle_2 N g H T x0 x1 S (KL_X7_settle_2 N g H T N x0 x1 S)) (hx : X (KA_X7_settle_2 N g H T x0 x1 S (KL_X7_settle_2 N g H T N x0 x1 S))) : R_ := by
  refine kpl_X7_settle_2 ?_ ?_ N x0 x1 S hS hM t_x0 ok.1 (X := fun z => KOA_X7_settle_2 N g H T x0 x1 S z ∧ X (KA_X7_settle_2 N g H T x0 x1 S z)) ⟨ok.2, hx⟩
  · intro x0' S' hS hM hz
    obtain ⟨ok, hx⟩ := hz
    unfold KOA_X7_settle_2 at ok
    unfold KA_X7_settle_2 at hx
    have ok := xif_P (show (0 : Nat) = 0 from rfl) ok
    have hx := xif_p (show (0 : Nat) = 0 from rfl) hx
    exact kpb_X7_settle_132 hR hS hM  ok hx
  · intro x0' S' hS hM t_x0 hz
    obtain ⟨ok, hx⟩ := hz
    unfold KOA_X7_settle_2 at ok
    unfold KA_X7_settle_2 at hx
    have ok := xif_N (show ¬ (1 : Nat) = 0 by decide) ok
    have hx := xif_n (show ¬ (1 : Nat) = 0 by decide) hx
    exact kpb_X7_settle_139 hR hS hM t_x0 ok hx
set_option maxRecDepth 100000 in
set_option maxHeartbeats 4000000 in
theorem kpb_X7_settle_0 {u g H T N : Nat} {S : cS} {S0 : cS} {R_ : Prop} {X : cS → Prop} (hR : ∀ S', St u g H T S' → Mono S0 S' → X S' → R_) {x0 : Option Nat} (hS : St u g H T S) (hM : Mono S0 S) (t_x0 : tN g H x0) (ok : KO_X7_settle_0 N g H T x0 S) (hx : X (KF_X7_settle_0 N g H T x0 S)) : R_ := by
  unfold KO_X7_settle_0 at ok
  unfold KF_X7_settle_0 at hx
  exact kpd_X7_settle_2 hR hS hM t_x0 ok hx
set_option maxRecDepth 100000 in
set_option maxHeartbeats 4000000 in
theorem kpc_X7_settle {u g H T N : Nat} {S : cS} {x0 : Option Nat} (hS : St u g H T S) (t_x0 : tN g H x0) (ok : p_X7_settle N g H T S x0) : St u g H T (k_X7_settle N g H T S x0) ∧ Mono S (k_X7_settle N g H T S x0) := by
  exact kpb_X7_settle_0 (X := fun F => F = k_X7_settle N g H T S x0) (fun S' h1 h2 h => by rw [← h]; exact ⟨h1, h2⟩) hS Mono.rfl' t_x0 ok rfl
set_option maxRecDepth 100000 in
set_option maxHeartbeats 4000000 in
theorem kpb_X7_ring_76 {u g H T N : Nat} {S : cS} {S0 : cS} {R_ : Prop} {X : cS → Prop} (hR : ∀ S', St u g H T S' → Mono S0 S' → X S' → R_) (hS : St u g H T S) (hM : Mono S0 S) (ok : KO_X7_ring_76 N g H T S) (hx : X (KF_X7_ring_76 N g H T S)) : R_ := by
  unfold KO_X7_ring_76 at ok
  unfold KF_X7_ring_76 at hx
  exact hR _ hS hM hx
set_option maxRecDepth 100000 in
set_option maxHeartbeats 4000000 in
theorem kpb_X7_ring_52 {u g H T N : Nat} {S : cS} {S0 : cS} {R_ : Prop} {X : cS → Prop} (hR : ∀ S', St u g H T S' → Mono S0 S' → X S' → R_) {x0 : Option Nat} {x1 : Int32} (hS : St u g H T S) (hM : Mono S0 S) (t_x0 : tN g H x0) (ok : KO_X7_ring_52 N g H T x0 x1 S) (hx : X (KF_X7_ring_52 N g H T x0 x1 S)) : R_ := by
  unfold KO_X7_ring_52 at ok
  unfold KF_X7_ring_52 at hx
  refine pif_n ok (fun c_54 => ?_) (fun c_54 => ?_)
  · have ok := ok.2 c_54
    have hx := xif_n c_54 hx
    exact kpb_X7_ring_76 hR hS hM  ok hx
  · have ok := ok.1 c_54
    have hx := xif_p c_54 hx
    have nn_58 := ok.1
    have ok := ok.2
    refine pif_p ok (fun c_63 => ?_) (fun c_63 => ?_)
    · have ok := ok.1 c_63
      have hx := xif_p c_63 hx
      exact kpb_X7_ring_76 hR hS hM  ok hx
    · have ok := ok.2 c_63
      have hx := xif_n c_63 hx
      have hS := hS.I 18 (za x0) ((cI S 10 (za x0)) + (nI 1))
      have hM := hM.I 18 (za x0) ((cI S 10 (za x0)) + (nI 1))
      exact kpb_X7_ring_76 hR hS hM  ok hx
set_option maxRecDepth 100000 in
set_option maxHeartbeats 4000000 in
theorem kpb_X7_ring_49 {u g H T N : Nat} {S : cS} {S0 : cS} {R_ : Prop} {X : cS → Prop} (hR : ∀ S', St u g H T S' → Mono S0 S' → X S' → R_) (hS : St u g H T S) (hM : Mono S0 S) (ok : KO_X7_ring_49 N g H T S) (hx : X (KF_X7_ring_49 N g H T S)) : R_ := by
  unfold KO_X7_ring_49 at ok
  unfold KF_X7_ring_49 at hx
  exact kpb_X7_ring_76 hR hS hM  ok hx
set_option maxRecDepth 100000 in
set_option maxHeartbeats 4000000 in
theorem kpb_X7_ring_45 {u g H T N : Nat} {S : cS} {S0 : cS} {R_ : Prop} {X : cS → Prop} (hR : ∀ S', St u g H T S' → Mono S0 S' → X S' → R_) {s0 : Option Nat} {s1 : Option Nat} (hS : St u g H T S) (hM : Mono S0 S) (t_s0 : tN g H s0) (t_s1 : tK S 5 s1) (ok : KO_X7_ring_45 N g H T s0 s1 S) (hx : X (KF_X7_ring_45 N g H T s0 s1 S)) : R_ := by
  unfold KO_X7_ring_45 at ok
  unfold KF_X7_ring_45 at hx
  obtain ⟨hS, hm_46⟩ := kpc_X7_utter hS t_s0 t_s1 ok.1
  have hM := hM.trans hm_46
  have ok := ok.2
  exact kpb_X7_ring_49 hR hS hM  ok hx
set_option maxRecDepth 100000 in
set_option maxHeartbeats 4000000 in
theorem kpb_X7_ring_25 {u g H T N : Nat} {S : cS} {S0 : cS} {R_ : Prop} {X : cS → Prop} (hR : ∀ S', St u g H T S' → Mono S0 S' → X S' → R_) {x0 : Option Nat} {x1 : Int32} (hS : St u g H T S) (hM : Mono S0 S) (t_x0 : tN g H x0) (ok : KO_X7_ring_25 N g H T x0 x1 S) (hx : X (KF_X7_ring_25 N g H T x0 x1 S)) : R_ := by
  unfold KO_X7_ring_25 at ok
  unfold KF_X7_ring_25 at hx
  refine pif_n ok (fun c_27 => ?_) (fun c_27 => ?_)
  · have ok := ok.2 c_27
    have hx := xif_n c_27 hx
    exact kpb_X7_ring_52 hR hS hM t_x0 ok hx
  · have ok := ok.1 c_27
    have hx := xif_p c_27 hx
    have nn_31 := ok.1
    have ok := ok.2
    refine pif_n ok (fun c_35 => ?_) (fun c_35 => ?_)
    · have ok := ok.2 c_35
      have hx := xif_n c_35 hx
      exact kpb_X7_ring_52 hR hS hM t_x0 ok hx
    · have ok := ok.1 c_35
      have hx := xif_p c_35 hx
      obtain ⟨hS, hm_42, tv_42⟩ := kpc_X6_vote hS (tN.o t_x0 nn_31) tK_none ok.1
      have hM := hM.trans hm_42
      have ok := ok.2
      exact kpb_X7_ring_45 hR hS hM t_x0 tv_42 ok hx
set_option maxRecDepth 100000 in
set_option maxHeartbeats 4000000 in
theorem kpb_X7_ring_22 {u g H T N : Nat} {S : cS} {S0 : cS} {R_ : Prop} {X : cS → Prop} (hR : ∀ S', St u g H T S' → Mono S0 S' → X S' → R_) (hS : St u g H T S) (hM : Mono S0 S) (ok : KO_X7_ring_22 N g H T S) (hx : X (KF_X7_ring_22 N g H T S)) : R_ := by
  unfold KO_X7_ring_22 at ok
  unfold KF_X7_ring_22 at hx
  exact kpb_X7_ring_76 hR hS hM  ok hx
set_option maxRecDepth 100000 in
set_option maxHeartbeats 4000000 in
theorem kpb_X7_ring_18 {u g H T N : Nat} {S : cS} {S0 : cS} {R_ : Prop} {X : cS → Prop} (hR : ∀ S', St u g H T S' → Mono S0 S' → X S' → R_) {s0 : Option Nat} {s1 : Option Nat} (hS : St u g H T S) (hM : Mono S0 S) (t_s0 : tN g H s0) (t_s1 : tK S 5 s1) (ok : KO_X7_ring_18 N g H T s0 s1 S) (hx : X (KF_X7_ring_18 N g H T s0 s1 S)) : R_ := by
  unfold KO_X7_ring_18 at ok
  unfold KF_X7_ring_18 at hx
  obtain ⟨hS, hm_19⟩ := kpc_X7_utter hS t_s0 t_s1 ok.1
  have hM := hM.trans hm_19
  have ok := ok.2
  exact kpb_X7_ring_22 hR hS hM  ok hx
set_option maxRecDepth 100000 in
set_option maxHeartbeats 4000000 in
theorem kpb_X7_ring_0 {u g H T N : Nat} {S : cS} {S0 : cS} {R_ : Prop} {X : cS → Prop} (hR : ∀ S', St u g H T S' → Mono S0 S' → X S' → R_) {x0 : Option Nat} {x1 : Int32} (hS : St u g H T S) (hM : Mono S0 S) (t_x0 : tN g H x0) (ok : KO_X7_ring_0 N g H T x0 x1 S) (hx : X (KF_X7_ring_0 N g H T x0 x1 S)) : R_ := by
  unfold KO_X7_ring_0 at ok
  unfold KF_X7_ring_0 at hx
  refine pif_n ok (fun c_1 => ?_) (fun c_1 => ?_)
  · have ok := ok.2 c_1
    have hx := xif_n c_1 hx
    exact kpb_X7_ring_25 hR hS hM t_x0 ok hx
  · have ok := ok.1 c_1
    have hx := xif_p c_1 hx
    have nn_5 := ok.1
    have ok := ok.2
    refine pif_n ok (fun c_8 => ?_) (fun c_8 => ?_)
    · have ok := ok.2 c_8
      have hx := xif_n c_8 hx
      exact kpb_X7_ring_25 hR hS hM t_x0 ok hx
    · have ok := ok.1 c_8
      have hx := xif_p c_8 hx
      obtain ⟨hS, hm_15, tv_15⟩ := kpc_X6_vote hS (tN.o t_x0 nn_5) tK_none ok.1
      have hM := hM.trans hm_15
      have ok := ok.2
      exact kpb_X7_ring_18 hR hS hM t_x0 tv_15 ok hx
set_option maxRecDepth 100000 in
set_option maxHeartbeats 4000000 in
theorem kpc_X7_ring {u g H T N : Nat} {S : cS} {x0 : Option Nat} {x1 : Int32} (hS : St u g H T S) (t_x0 : tN g H x0) (ok : p_X7_ring N g H T S x0 x1) : St u g H T (k_X7_ring N g H T S x0 x1) ∧ Mono S (k_X7_ring N g H T S x0 x1) := by
  exact kpb_X7_ring_0 (X := fun F => F = k_X7_ring N g H T S x0 x1) (fun S' h1 h2 h => by rw [← h]; exact ⟨h1, h2⟩) hS Mono.rfl' t_x0 ok rfl
set_option maxRecDepth 100000 in
set_option maxHeartbeats 4000000 in
theorem kpb_X9_loadOf_20 {u g H T N : Nat} {S : cS} {R_ : Prop} {X : Option Nat → Prop} (hR : ∀ v, tK S 5 v → X v → R_) {s0 : Option Nat} (hS : St u g H T S) (t_s0 : tK S 5 s0) (ok : KO_X9_loadOf_20 N g H T s0 S) (hx : X (KF_X9_loadOf_20 N g H T s0 S)) : R_ := by
  unfold KO_X9_loadOf_20 at ok
  unfold KF_X9_loadOf_20 at hx
  exact hR _ t_s0 hx
set_option maxRecDepth 100000 in
set_option maxHeartbeats 4000000 in
theorem kpb_X9_loadOf_0 {u g H T N : Nat} {S : cS} {R_ : Prop} {X : Option Nat → Prop} (hR : ∀ v, tK S 5 v → X v → R_) {x0 : Nat} {x1 : Int32} (hS : St u g H T S) (t_x0 : isO g H 7 x0) (ok : KO_X9_loadOf_0 N g H T x0 x1 S) (hx : X (KF_X9_loadOf_0 N g H T x0 x1 S)) : R_ := by
  unfold KO_X9_loadOf_0 at ok
  unfold KF_X9_loadOf_0 at hx
  have ok := ok.2
  refine pif_p ok (fun c_7 => ?_) (fun c_7 => ?_)
  · have ok := ok.1 c_7
    have hx := xif_p c_7 hx
    have p_19 := hS.row24 (hS.rk (c := 7) (k := 5) t_x0 rfl (by omega)) (k_X9_slot N g H T S x0 x1).toNatClampNeg
    have ok := ok.2
    exact kpb_X9_loadOf_20 hR hS p_19 ok hx
  · have ok := ok.2 c_7
    have hx := xif_n c_7 hx
    exact kpb_X9_loadOf_20 hR hS tK_none ok hx
set_option maxRecDepth 100000 in
set_option maxHeartbeats 4000000 in
theorem kpc_X9_loadOf {u g H T N : Nat} {S : cS} {a0 : Nat} {x1 : Int32} (hS : St u g H T S) (t_x0 : isO g H 7 a0) (ok : p_X9_loadOf N g H T S a0 x1) : tK S 5 (k_X9_loadOf N g H T S a0 x1) := by
  exact kpb_X9_loadOf_0 (X := fun F => F = k_X9_loadOf N g H T S a0 x1) (fun v h3 h => by rw [← h]; exact h3) hS t_x0 ok rfl
set_option maxRecDepth 100000 in
set_option maxHeartbeats 4000000 in
theorem kpb_X9_take_98 {u g H T N : Nat} {S : cS} {S0 : cS} {R_ : Prop} {X : Option Nat × cS → Prop} (hR : ∀ v S', St u g H T S' → Mono S0 S' → tK S' 5 v → X (v, S') → R_) {x0 : Nat} {x2 : Int32} {x3 : Option Nat} (hS : St u g H T S) (hM : Mono S0 S) (t_x0 : isO g H 7 x0) (t_x3 : tK S 5 x3) (ok : KO_X9_take_98 N g H T x0 x2 x3 S) (hx : X (KF_X9_take_98 N g H T x0 x2 x3 S)) : R_ := by
  unfold KO_X9_take_98 at ok
  unfold KF_X9_take_98 at hx
  have tq_107 : tK S 21 (some (x0 + 2)) := tK_some (tK.cis (hS.rk (c := 7) (k := 1) t_x0 rfl (by omega)) (Option.some_ne_none _)).2
  have hS := hS.Aw (k := 21) (x0 + 2) (cI S 9 x0).toNatClampNeg x2 tq_107 (by decide)
  have hM := hM.A (x0 + 2) (cI S 9 x0).toNatClampNeg x2
  have ok := ok.2
  exact hR _ _ hS hM (tK_A t_x3) hx
set_option maxRecDepth 100000 in
set_option maxHeartbeats 4000000 in
theorem kpb_X9_take_74 {u g H T N : Nat} {S : cS} {S0 : cS} {R_ : Prop} {X : Option Nat × cS → Prop} (hR : ∀ v S', St u g H T S' → Mono S0 S' → tK S' 5 v → X (v, S') → R_) {x0 : Nat} {x2 : Int32} {x3 : Option Nat} (hS : St u g H T S) (hM : Mono S0 S) (t_x0 : isO g H 7 x0) (t_x3 : tK S 5 x3) (ok : KO_X9_take_74 N g H T x0 x2 x3 S) (hx : X (KF_X9_take_74 N g H T x0 x2 x3 S)) : R_ := by
  unfold KO_X9_take_74 at ok
  unfold KF_X9_take_74 at hx
  have hS := hS.I 6 x0 (((cI S 6 x0) + (nI 1)) &&& (nI 1023))
  have hM := hM.I 6 x0 (((cI S 6 x0) + (nI 1)) &&& (nI 1023))
  have hS := hS.I 9 x0 ((cI (csI S 6 x0 (((cI S 6 x0) + (nI 1)) &&& (nI 1023))) 9 x0) - (nI 1))
  have hM := hM.I 9 x0 ((cI (csI S 6 x0 (((cI S 6 x0) + (nI 1)) &&& (nI 1023))) 9 x0) - (nI 1))
  exact kpb_X9_take_98 hR hS hM t_x0 (tK_I (tK_I t_x3)) ok hx
set_option maxRecDepth 100000 in
set_option maxHeartbeats 4000000 in
theorem kpbb_X9_take_29 {u g H T N : Nat} {S : cS} {S0 : cS} {R_ : Prop} {X : Nat × Nat × Int32 × Option Nat × cS → Prop} (hX0 : ∀ (x0 : Nat) (x2 : Int32) (x3 : Option Nat) (S' : cS), St u g H T S' → Mono S0 S' → isO g H 7 x0 → tK S' 5 x3 → X (0, x0, x2, x3, S') → R_) {rec : Nat → Int32 → Option Nat → Int32 → cS → Nat × Nat × Int32 × Option Nat × cS} {rok : Nat → Int32 → Option Nat → Int32 → cS → Prop} (hrec : ∀ (x0 : Nat) (x2 : Int32) (x3 : Option Nat) (x4 : Int32) (S : cS), St u g H T S → Mono S0 S → isO g H 7 x0 → tK S 5 x3 → rok x0 x2 x3 x4 S → X (rec x0 x2 x3 x4 S) → R_) {x0 : Nat} {x2 : Int32} {x3 : Option Nat} {x4 : Int32} (hS : St u g H T S) (hM : Mono S0 S) (t_x0 : isO g H 7 x0) (t_x3 : tK S 5 x3) (ok : KOB_X9_take_29 N g H T rok x0 x2 x3 x4 S) (hx : X (KB_X9_take_29 N g H T rec x0 x2 x3 x4 S)) : R_ := by
  unfold KOB_X9_take_29 at ok
  unfold KB_X9_take_29 at hx
  refine pif_p ok (fun c_31 => ?_) (fun c_31 => ?_)
  · have ok := ok.1 c_31
    have hx := xif_p c_31 hx
    exact hX0 _ _ _ S hS hM t_x0 t_x3 hx
  · have ok := ok.2 c_31
    have hx := xif_n c_31 hx
    have ok := ok.2
    have tq_67 : tK S 21 (some (x0 + 1)) := tK_some (tK.cis (hS.rk (c := 7) (k := 0) t_x0 rfl (by omega)) (Option.some_ne_none _)).2
    have hS := hS.Aw (k := 21) (x0 + 1) (((cI S 6 x0) + x4) &&& (nI 1023)).toNatClampNeg (cA S (x0 + 1) ((((cI S 6 x0) + x4) - (nI 1)) &&& (nI 1023)).toNatClampNeg) tq_67 (by decide)
    have hM := hM.A (x0 + 1) (((cI S 6 x0) + x4) &&& (nI 1023)).toNatClampNeg (cA S (x0 + 1) ((((cI S 6 x0) + x4) - (nI 1)) &&& (nI 1023)).toNatClampNeg)
    have ok := ok.2
    exact hrec _ _ _ _ (csA S (x0 + 1) (((cI S 6 x0) + x4) &&& (nI 1023)).toNatClampNeg (cA S (x0 + 1) ((((cI S 6 x0) + x4) - (nI 1)) &&& (nI 1023)).toNatClampNeg)) hS hM t_x0 (tK_A t_x3) ok hx
set_option maxRecDepth 100000 in
set_option maxHeartbeats 4000000 in
theorem kpl_X9_take_29 {u g H T N : Nat} {S0 : cS} {R_ : Prop} {X : Nat × Nat × Int32 × Option Nat × cS → Prop} (hX0 : ∀ (x0 : Nat) (x2 : Int32) (x3 : Option Nat) (S' : cS), St u g H T S' → Mono S0 S' → isO g H 7 x0 → tK S' 5 x3 → X (0, x0, x2, x3, S') → R_) : ∀ (n : Nat) (x0 : Nat) (x2 : Int32) (x3 : Option Nat) (x4 : Int32) (S : cS), St u g H T S → Mono S0 S → isO g H 7 x0 → tK S 5 x3 → KOL_X9_take_29 N g H T n x0 x2 x3 x4 S → X (KL_X9_take_29 N g H T n x0 x2 x3 x4 S) → R_ := by
  intro n
  induction n with
  | zero => intro x0 x2 x3 x4 S hS hM t_x0 t_x3 ok; exact absurd ok id
  | succ n ih =>
    intro x0 x2 x3 x4 S hS hM t_x0 t_x3 ok hx
    exact kpbb_X9_take_29 hX0 (rec := KL_X9_take_29 N g H T n) (rok := KOL_X9_take_29 N g H T n) (fun x0 x2 x3 x4 S hS hM t_x0 t_x3 ok hx => ih x0 x2 x3 x4 S hS hM t_x0 t_x3 ok hx) hS hM t_x0 t_x3 ok hx
set_option maxRecDepth 100000 in
set_option maxHeartbeats 4000000 in
theorem kpd_X9_take_29 {u g H T N : Nat} {S : cS} {S0 : cS} {R_ : Prop} {X : Option Nat × cS → Prop} (hR : ∀ v S', St u g H T S' → Mono S0 S' → tK S' 5 v → X (v, S') → R_) {x0 : Nat} {x2 : Int32} {x3 : Option Nat} {x4 : Int32} (hS : St u g H T S) (hM : Mono S0 S) (t_x0 : isO g H 7 x0) (t_x3 : tK S 5 x3) (ok : KOL_X9_take_29 N g H T N x0 x2 x3 x4 S ∧ KOA_X9_take_29 N g H T x0 x2 x3 x4 S (KL_X9_take_29 N g H T N x0 x2 x3 x4 S)) (hx : X (KA_X9_take_29 N g H T x0 x2 x3 x4 S (KL_X9_take_29 N g H T N x0 x2 x3 x4 S))) : R_ := by
  refine kpl_X9_take_29 ?_ N x0 x2 x3 x4 S hS hM t_x0 t_x3 ok.1 (X := fun z => KOA_X9_take_29 N g H T x0 x2 x3 x4 S z ∧ X (KA_X9_take_29 N g H T x0 x2 x3 x4 S z)) ⟨ok.2, hx⟩
  · intro x0' x2' x3' S' hS hM t_x0 t_x3 hz
    obtain ⟨ok, hx⟩ := hz
    unfold KOA_X9_take_29 at ok
    unfold KA_X9_take_29 at hx
    exact kpb_X9_take_74 hR hS hM t_x0 t_x3 ok hx
set_option maxRecDepth 100000 in
set_option maxHeartbeats 4000000 in
theorem kpb_X9_take_0 {u g H T N : Nat} {S : cS} {S0 : cS} {R_ : Prop} {X : Option Nat × cS → Prop} (hR : ∀ v S', St u g H T S' → Mono S0 S' → tK S' 5 v → X (v, S') → R_) {x0 : Nat} {x1 : Int32} (hS : St u g H T S) (hM : Mono S0 S) (t_x0 : isO g H 7 x0) (ok : KO_X9_take_0 N g H T x0 x1 S) (hx : X (KF_X9_take_0 N g H T x0 x1 S)) : R_ := by
  unfold KO_X9_take_0 at ok
  unfold KF_X9_take_0 at hx
  have ok := ok.2
  refine pif_p ok (fun c_7 => ?_) (fun c_7 => ?_)
  · have ok := ok.1 c_7
    have hx := xif_p c_7 hx
    have p_17 := hS.row24 (hS.rk (c := 7) (k := 5) t_x0 rfl (by omega)) (k_X9_slot N g H T S x0 x1).toNatClampNeg
    have ok := ok.2
    have hS2 := hS.P24 (i := (k_X9_slot N g H T S x0 x1).toNatClampNeg) ((hS.rk (c := 7) (k := 5) t_x0 rfl (by omega)) _ rfl) tK_none
    have hS := hS2
    have hM := hM.P (x0 + 6) (k_X9_slot N g H T S x0 x1).toNatClampNeg (none : Option Nat)
    have ok := ok.2
    exact kpd_X9_take_29 hR hS hM t_x0 (tK_P p_17) ok hx
  · have ok := ok.2 c_7
    have hx := xif_n c_7 hx
    exact hR _ _ hS hM tK_none hx
set_option maxRecDepth 100000 in
set_option maxHeartbeats 4000000 in
theorem kpc_X9_take {u g H T N : Nat} {S : cS} {a0 : Nat} {x1 : Int32} (hS : St u g H T S) (t_x0 : isO g H 7 a0) (ok : p_X9_take N g H T S a0 x1) : St u g H T (k_X9_take N g H T S a0 x1).2 ∧ Mono S (k_X9_take N g H T S a0 x1).2 ∧ tK (k_X9_take N g H T S a0 x1).2 5 (k_X9_take N g H T S a0 x1).1 := by
  exact kpb_X9_take_0 (X := fun F => F = k_X9_take N g H T S a0 x1) (fun v S' h1 h2 h3 h => by rw [← h]; exact ⟨h1, h2, h3⟩) hS Mono.rfl' t_x0 ok rfl
set_option maxRecDepth 100000 in
set_option maxHeartbeats 4000000 in
theorem kpb_X10_land_117 {u g H T N : Nat} {S : cS} {S0 : cS} {R_ : Prop} {X : Int32 × cS → Prop} (hR : ∀ v S', St u g H T S' → Mono S0 S' → X (v, S') → R_) {x6 : Int32} (hS : St u g H T S) (hM : Mono S0 S) (ok : KO_X10_land_117 N g H T x6 S) (hx : X (KF_X10_land_117 N g H T x6 S)) : R_ := by
  unfold KO_X10_land_117 at ok
  unfold KF_X10_land_117 at hx
  exact hR _ _ hS hM hx
set_option maxRecDepth 100000 in
set_option maxHeartbeats 4000000 in
theorem kpb_X10_land_100 {u g H T N : Nat} {S : cS} {S0 : cS} {R_ : Prop} {X : Int32 × cS → Prop} (hR : ∀ v S', St u g H T S' → Mono S0 S' → X (v, S') → R_) {x0 : Nat} {x4 : Option Nat} (hS : St u g H T S) (hM : Mono S0 S) (t_x0 : isO g H 8 x0) (t_x4 : tK S 5 x4) (ok : KO_X10_land_100 N g H T x0 x4 S) (hx : X (KF_X10_land_100 N g H T x0 x4 S)) : R_ := by
  unfold KO_X10_land_100 at ok
  unfold KF_X10_land_100 at hx
  have nn_103 := ok.1.1
  have ok := ok.2
  obtain ⟨hS, hm_114⟩ := kpc_X9_drop hS (o86 t_x0) t_x4 ok.1
  have hM := hM.trans hm_114
  have ok := ok.2
  exact kpb_X10_land_117 hR hS hM  ok hx
set_option maxRecDepth 100000 in
set_option maxHeartbeats 4000000 in
theorem kpb_X10_land_92 {u g H T N : Nat} {S : cS} {S0 : cS} {R_ : Prop} {X : Int32 × cS → Prop} (hR : ∀ v S', St u g H T S' → Mono S0 S' → X (v, S') → R_) {x0 : Nat} {x4 : Option Nat} {x5 : Option Nat} {s0 : Int32} (hS : St u g H T S) (hM : Mono S0 S) (t_x0 : isO g H 8 x0) (t_x4 : tK S 5 x4) (t_x5 : tN g H x5) (ok : KO_X10_land_92 N g H T x0 x4 x5 s0 S) (hx : X (KF_X10_land_92 N g H T x0 x4 x5 s0 S)) : R_ := by
  unfold KO_X10_land_92 at ok
  unfold KF_X10_land_92 at hx
  refine pif_p ok (fun c_92 => ?_) (fun c_92 => ?_)
  · have ok := ok.1 c_92
    have hx := xif_p c_92 hx
    exact kpb_X10_land_100 hR hS hM t_x0 t_x4 ok hx
  · have ok := ok.2 c_92
    have hx := xif_n c_92 hx
    obtain ⟨hS, hm_97⟩ := kpc_X7_settle hS t_x5 ok.1
    have hM := hM.trans hm_97
    have ok := ok.2
    exact kpb_X10_land_100 hR hS hM t_x0 (hm_97.tK t_x4 (by decide)) ok hx
set_option maxRecDepth 100000 in
set_option maxHeartbeats 4000000 in
theorem kpb_X10_land_81 {u g H T N : Nat} {S : cS} {S0 : cS} {R_ : Prop} {X : Int32 × cS → Prop} (hR : ∀ v S', St u g H T S' → Mono S0 S' → X (v, S') → R_) {x0 : Nat} {x2 : Int32} {x4 : Option Nat} {x5 : Option Nat} {s0 : Int32} (hS : St u g H T S) (hM : Mono S0 S) (t_x0 : isO g H 8 x0) (t_x4 : tK S 5 x4) (t_x5 : tN g H x5) (ok : KO_X10_land_81 N g H T x0 x2 x4 x5 s0 S) (hx : X (KF_X10_land_81 N g H T x0 x2 x4 x5 s0 S)) : R_ := by
  unfold KO_X10_land_81 at ok
  unfold KF_X10_land_81 at hx
  refine pif_p ok (fun c_81 => ?_) (fun c_81 => ?_)
  · have ok := ok.1 c_81
    have hx := xif_p c_81 hx
    exact kpb_X10_land_100 hR hS hM t_x0 t_x4 ok hx
  · have ok := ok.2 c_81
    have hx := xif_n c_81 hx
    obtain ⟨hS, hm_89⟩ := kpc_X3_receive hS t_x5 t_x4 ok.1
    have hM := hM.trans hm_89
    have ok := ok.2
    exact kpb_X10_land_92 hR hS hM t_x0 (hm_89.tK t_x4 (by decide)) t_x5 ok hx
set_option maxRecDepth 100000 in
set_option maxHeartbeats 4000000 in
theorem kpb_X10_land_57 {u g H T N : Nat} {S : cS} {S0 : cS} {R_ : Prop} {X : Int32 × cS → Prop} (hR : ∀ v S', St u g H T S' → Mono S0 S' → X (v, S') → R_) {x0 : Nat} {x2 : Int32} {x4 : Option Nat} {s0 : Option Nat} (hS : St u g H T S) (hM : Mono S0 S) (t_x0 : isO g H 8 x0) (t_x4 : tK S 5 x4) (t_s0 : tN g H s0) (ok : KO_X10_land_57 N g H T x0 x2 x4 s0 S) (hx : X (KF_X10_land_57 N g H T x0 x2 x4 s0 S)) : R_ := by
  unfold KO_X10_land_57 at ok
  unfold KF_X10_land_57 at hx
  refine pif_p ok (fun c_61 => ?_) (fun c_61 => ?_)
  · have ok := ok.1 c_61
    have hx := xif_p c_61 hx
    exact kpb_X10_land_100 hR hS hM t_x0 t_x4 ok hx
  · have ok := ok.2 c_61
    have hx := xif_n c_61 hx
    refine pif_p ok (fun c_69 => ?_) (fun c_69 => ?_)
    · have ok := ok.1 c_69
      have hx := xif_p c_69 hx
      exact kpb_X10_land_100 hR hS hM t_x0 t_x4 ok hx
    · have ok := ok.2 c_69
      have hx := xif_n c_69 hx
      obtain ⟨hS, hm_78⟩ := kpc_X1_look hS (o87 t_x0) t_x4 ok.1
      have hM := hM.trans hm_78
      have ok := ok.2
      exact kpb_X10_land_81 hR hS hM t_x0 (hm_78.tK t_x4 (by decide)) t_s0 ok hx
set_option maxRecDepth 100000 in
set_option maxHeartbeats 4000000 in
theorem kpb_X10_land_56 {u g H T N : Nat} {S : cS} {S0 : cS} {R_ : Prop} {X : Int32 × cS → Prop} (hR : ∀ v S', St u g H T S' → Mono S0 S' → X (v, S') → R_) {x0 : Nat} {x2 : Int32} {x4 : Option Nat} (hS : St u g H T S) (hM : Mono S0 S) (t_x0 : isO g H 8 x0) (t_x4 : tK S 5 x4) (ok : KO_X10_land_56 N g H T x0 x2 x4 S) (hx : X (KF_X10_land_56 N g H T x0 x2 x4 S)) : R_ := by
  unfold KO_X10_land_56 at ok
  unfold KF_X10_land_56 at hx
  exact kpb_X10_land_57 hR hS hM t_x0 t_x4 tN_none ok hx
set_option maxRecDepth 100000 in
set_option maxHeartbeats 4000000 in
theorem kpb_X10_land_26 {u g H T N : Nat} {S : cS} {S0 : cS} {R_ : Prop} {X : Int32 × cS → Prop} (hR : ∀ v S', St u g H T S' → Mono S0 S' → X (v, S') → R_) {x0 : Nat} {x2 : Int32} {x3 : Int32} {s0 : Option Nat} (hS : St u g H T S) (hM : Mono S0 S) (t_x0 : isO g H 8 x0) (t_s0 : tK S 5 s0) (ok : KO_X10_land_26 N g H T x0 x2 x3 s0 S) (hx : X (KF_X10_land_26 N g H T x0 x2 x3 s0 S)) : R_ := by
  unfold KO_X10_land_26 at ok
  unfold KF_X10_land_26 at hx
  refine pif_n ok (fun c_30 => ?_) (fun c_30 => ?_)
  · have ok := ok.2 c_30
    have hx := xif_n c_30 hx
    refine pif_p ok (fun c_36 => ?_) (fun c_36 => ?_)
    · have ok := ok.1 c_36
      have hx := xif_p c_36 hx
      exact kpb_X10_land_56 hR hS hM t_x0 t_s0 ok hx
    · have ok := ok.2 c_36
      have hx := xif_n c_36 hx
      refine pif_p ok (fun c_44 => ?_) (fun c_44 => ?_)
      · have ok := ok.1 c_44
        have hx := xif_p c_44 hx
        exact kpb_X10_land_56 hR hS hM t_x0 t_s0 ok hx
      · have ok := ok.2 c_44
        have hx := xif_n c_44 hx
        have p_52 := hS.row25 x3.toNatClampNeg
        have ok := ok.2
        exact kpb_X10_land_57 hR hS hM t_x0 t_s0 p_52 ok hx
  · have ok := ok.1 c_30
    have hx := xif_p c_30 hx
    exact hR _ _ hS hM hx
set_option maxRecDepth 100000 in
set_option maxHeartbeats 4000000 in
theorem kpb_X10_land_0 {u g H T N : Nat} {S : cS} {S0 : cS} {R_ : Prop} {X : Int32 × cS → Prop} (hR : ∀ v S', St u g H T S' → Mono S0 S' → X (v, S') → R_) {x0 : Nat} {x1 : Int32} (hS : St u g H T S) (hM : Mono S0 S) (t_x0 : isO g H 8 x0) (ok : KO_X10_land_0 N g H T x0 x1 S) (hx : X (KF_X10_land_0 N g H T x0 x1 S)) : R_ := by
  unfold KO_X10_land_0 at ok
  unfold KF_X10_land_0 at hx
  have ok := ok.2
  have ok := ok.2
  obtain ⟨hS, hm_23, tv_23⟩ := kpc_X9_take hS (o86 t_x0) ok.1
  have hM := hM.trans hm_23
  have ok := ok.2
  exact kpb_X10_land_26 hR hS hM t_x0 tv_23 ok hx
set_option maxRecDepth 100000 in
set_option maxHeartbeats 4000000 in
theorem kpc_X10_land {u g H T N : Nat} {S : cS} {a0 : Nat} {x1 : Int32} (hS : St u g H T S) (t_x0 : isO g H 8 a0) (ok : p_X10_land N g H T S a0 x1) : St u g H T (k_X10_land N g H T S a0 x1).2 ∧ Mono S (k_X10_land N g H T S a0 x1).2 := by
  exact kpb_X10_land_0 (X := fun F => F = k_X10_land N g H T S a0 x1) (fun v S' h1 h2 h => by rw [← h]; exact ⟨h1, h2⟩) hS Mono.rfl' t_x0 ok rfl

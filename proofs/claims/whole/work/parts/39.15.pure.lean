/-! EVERY METHOD THAT WRITES KEEPS St AND KINDS (pure) -/
set_option maxRecDepth 100000 in
set_option maxHeartbeats 4000000 in
theorem kpb_X7_take_48 {u g H T N : Nat} {S : cS} {S0 : cS} {R_ : Prop} {X : cS → Prop} (hR : ∀ S', St u g H T S' → Mono S0 S' → X S' → R_) {x0 : Option Nat} {x1 : Option Nat} (hS : St u g H T S) (hM : Mono S0 S) (t_x0 : tN g H x0) (t_x1 : tK S 5 x1) (ok : KO_X7_take_48 N g H T x0 x1 S) (hx : X (KF_X7_take_48 N g H T x0 x1 S)) : R_ := by
  unfold KO_X7_take_48 at ok
  unfold KF_X7_take_48 at hx
  have nn_51 := ok.1.1
  have ok := ok.2
  have nn_54 := ok.1.1
  obtain ⟨hS, hm_54⟩ := kpc_X6_enter hS (tN.o t_x0 nn_54) ok.1.2
  have hM := hM.trans hm_54
  have ok := ok.2
  exact hR _ hS hM hx
set_option maxRecDepth 100000 in
set_option maxHeartbeats 4000000 in
theorem kpb_X7_take_42 {u g H T N : Nat} {S : cS} {S0 : cS} {R_ : Prop} {X : cS → Prop} (hR : ∀ S', St u g H T S' → Mono S0 S' → X S' → R_) {x0 : Option Nat} {x1 : Option Nat} (hS : St u g H T S) (hM : Mono S0 S) (t_x0 : tN g H x0) (t_x1 : tK S 5 x1) (ok : KO_X7_take_42 N g H T x0 x1 S) (hx : X (KF_X7_take_42 N g H T x0 x1 S)) : R_ := by
  unfold KO_X7_take_42 at ok
  unfold KF_X7_take_42 at hx
  have nn_45 := ok.1.1
  obtain ⟨hS, hm_45⟩ := kpc_X6_forgetAnswers hS (tN.o t_x0 nn_45) ok.1.2
  have hM := hM.trans hm_45
  have ok := ok.2
  exact kpb_X7_take_48 hR hS hM t_x0 (hm_45.tK t_x1 (by decide)) ok hx
set_option maxRecDepth 100000 in
set_option maxHeartbeats 4000000 in
theorem kpb_X7_take_31 {u g H T N : Nat} {S : cS} {S0 : cS} {R_ : Prop} {X : cS → Prop} (hR : ∀ S', St u g H T S' → Mono S0 S' → X S' → R_) {x0 : Option Nat} {x1 : Option Nat} (hS : St u g H T S) (hM : Mono S0 S) (t_x0 : tN g H x0) (t_x1 : tK S 5 x1) (ok : KO_X7_take_31 N g H T x0 x1 S) (hx : X (KF_X7_take_31 N g H T x0 x1 S)) : R_ := by
  unfold KO_X7_take_31 at ok
  unfold KF_X7_take_31 at hx
  have nn_32 := ok.1
  have ok := ok.2
  have nn_36 := ok.1
  have p_36 := hS.m0k t_x1 ok.1
  have ok := ok.2
  obtain ⟨hS, hm_39⟩ := kpc_X0_load hS (o54 (tN.o t_x0 nn_32)) p_36 ok.1
  have hM := hM.trans hm_39
  have ok := ok.2
  exact kpb_X7_take_42 hR hS hM t_x0 (hm_39.tK t_x1 (by decide)) ok hx
set_option maxRecDepth 100000 in
set_option maxHeartbeats 4000000 in
theorem kpb_X7_take_8 {u g H T N : Nat} {S : cS} {S0 : cS} {R_ : Prop} {X : cS → Prop} (hR : ∀ S', St u g H T S' → Mono S0 S' → X S' → R_) {x0 : Option Nat} {x1 : Option Nat} {s0 : Int32} (hS : St u g H T S) (hM : Mono S0 S) (t_x0 : tN g H x0) (t_x1 : tK S 5 x1) (ok : KO_X7_take_8 N g H T x0 x1 s0 S) (hx : X (KF_X7_take_8 N g H T x0 x1 s0 S)) : R_ := by
  unfold KO_X7_take_8 at ok
  unfold KF_X7_take_8 at hx
  refine pif_n ok (fun c_8 => ?_) (fun c_8 => ?_)
  · have ok := ok.2 c_8
    have hx := xif_n c_8 hx
    have nn_17 := ok.1
    have p_17 := hS.m0k t_x1 ok.1
    have ok := ok.2
    have nn_22 := ok.1
    have ok := ok.2
    have tq_28 : tK S 20 (some ((za x1) + 2)) := tK_some (tK.cis p_17 (Option.some_ne_none _)).2
    have hS := hS.Ac ((za x0) + 11) ((za x1) + 2) (nI 3).toNatClampNeg (nI 0).toNatClampNeg (nI 32).toNatClampNeg tq_28
    have hM := hM.Ar ((za x0) + 11) (va_cpy (cA S ((za x1) + 2)) (cA S ((za x0) + 11)) (nI 3).toNatClampNeg (nI 0).toNatClampNeg (nI 32).toNatClampNeg)
    have ok := ok.2
    exact kpb_X7_take_31 hR hS hM t_x0 (tK_Ar t_x1) ok hx
  · have ok := ok.1 c_8
    have hx := xif_p c_8 hx
    have nn_12 := ok.1.1
    obtain ⟨hS, hm_12⟩ := kpc_X6_fall hS (tN.o t_x0 nn_12) ok.1.2
    have hM := hM.trans hm_12
    have ok := ok.2
    exact hR _ hS hM hx
set_option maxRecDepth 100000 in
set_option maxHeartbeats 4000000 in
theorem kpb_X7_take_0 {u g H T N : Nat} {S : cS} {S0 : cS} {R_ : Prop} {X : cS → Prop} (hR : ∀ S', St u g H T S' → Mono S0 S' → X S' → R_) {x0 : Option Nat} {x1 : Option Nat} (hS : St u g H T S) (hM : Mono S0 S) (t_x0 : tN g H x0) (t_x1 : tK S 5 x1) (ok : KO_X7_take_0 N g H T x0 x1 S) (hx : X (KF_X7_take_0 N g H T x0 x1 S)) : R_ := by
  unfold KO_X7_take_0 at ok
  unfold KF_X7_take_0 at hx
  have nn_1 := ok.1
  have ok := ok.2
  obtain ⟨hS, hm_5⟩ := kpc_X4_noteSnap hS (o52 (tN.o t_x0 nn_1)) t_x1 ok.1
  have hM := hM.trans hm_5
  have ok := ok.2
  exact kpb_X7_take_8 hR hS hM t_x0 (hm_5.tK t_x1 (by decide)) ok hx
set_option maxRecDepth 100000 in
set_option maxHeartbeats 4000000 in
theorem kpc_X7_take {u g H T N : Nat} {S : cS} {x0 : Option Nat} {x1 : Option Nat} (hS : St u g H T S) (t_x0 : tN g H x0) (t_x1 : tK S 5 x1) (ok : p_X7_take N g H T S x0 x1) : St u g H T (k_X7_take N g H T S x0 x1) ∧ Mono S (k_X7_take N g H T S x0 x1) := by
  exact kpb_X7_take_0 (X := fun F => F = k_X7_take N g H T S x0 x1) (fun S' h1 h2 h => by rw [← h]; exact ⟨h1, h2⟩) hS Mono.rfl' t_x0 t_x1 ok rfl
set_option maxRecDepth 100000 in
set_option maxHeartbeats 4000000 in
theorem kpb_X7_takes_69 {u g H T N : Nat} {S : cS} {S0 : cS} {R_ : Prop} {X : Int32 × cS → Prop} (hR : ∀ v S', St u g H T S' → Mono S0 S' → X (v, S') → R_) (hS : St u g H T S) (hM : Mono S0 S) (ok : KO_X7_takes_69 N g H T S) (hx : X (KF_X7_takes_69 N g H T S)) : R_ := by
  unfold KO_X7_takes_69 at ok
  unfold KF_X7_takes_69 at hx
  exact hR _ _ hS hM hx
set_option maxRecDepth 100000 in
set_option maxHeartbeats 4000000 in
theorem kpb_X7_takes_63 {u g H T N : Nat} {S : cS} {S0 : cS} {R_ : Prop} {X : Nat × Option Nat × Option Nat × cS → Prop} (hX0 : ∀ (x0 : Option Nat) (x3 : Option Nat) (S' : cS), St u g H T S' → Mono S0 S' → tN g H x0 → tK S' 5 x3 → X (0, x0, x3, S') → R_) (hX1 : ∀ (x0 : Option Nat) (x3 : Option Nat) (S' : cS), St u g H T S' → Mono S0 S' → X (1, x0, x3, S') → R_) {rec : Option Nat → Nat → Int32 → cS → Nat × Option Nat × Option Nat × cS} {rok : Option Nat → Nat → Int32 → cS → Prop} (hrec : ∀ (x0 : Option Nat) (x1 : Nat) (x2 : Int32) (S : cS), St u g H T S → Mono S0 S → tN g H x0 → isO g H 6 x1 → rok x0 x1 x2 S → X (rec x0 x1 x2 S) → R_) {x0 : Option Nat} {x1 : Nat} {x2 : Int32} (hS : St u g H T S) (hM : Mono S0 S) (t_x0 : tN g H x0) (t_x1 : isO g H 6 x1) (ok : KO_X7_takes_63 N g H T rok x0 x1 x2 S) (hx : X (KF_X7_takes_63 N g H T rec x0 x1 x2 S)) : R_ := by
  unfold KO_X7_takes_63 at ok
  unfold KF_X7_takes_63 at hx
  exact hrec _ _ _ S hS hM t_x0 t_x1 ok hx
set_option maxRecDepth 100000 in
set_option maxHeartbeats 4000000 in
theorem kpb_X7_takes_61 {u g H T N : Nat} {S : cS} {S0 : cS} {R_ : Prop} {X : Int32 × cS → Prop} (hR : ∀ v S', St u g H T S' → Mono S0 S' → X (v, S') → R_) (hS : St u g H T S) (hM : Mono S0 S) (ok : KO_X7_takes_61 N g H T S) (hx : X (KF_X7_takes_61 N g H T S)) : R_ := by
  unfold KO_X7_takes_61 at ok
  unfold KF_X7_takes_61 at hx
  exact hR _ _ hS hM hx
set_option maxRecDepth 100000 in
set_option maxHeartbeats 4000000 in
theorem kpb_X7_takes_56 {u g H T N : Nat} {S : cS} {S0 : cS} {R_ : Prop} {X : Int32 × cS → Prop} (hR : ∀ v S', St u g H T S' → Mono S0 S' → X (v, S') → R_) {x0 : Option Nat} {x3 : Option Nat} (hS : St u g H T S) (hM : Mono S0 S) (t_x0 : tN g H x0) (t_x3 : tK S 5 x3) (ok : KO_X7_takes_56 N g H T x0 x3 S) (hx : X (KF_X7_takes_56 N g H T x0 x3 S)) : R_ := by
  unfold KO_X7_takes_56 at ok
  unfold KF_X7_takes_56 at hx
  obtain ⟨hS, hm_58⟩ := kpc_X7_take hS t_x0 t_x3 ok.1
  have hM := hM.trans hm_58
  have ok := ok.2
  exact kpb_X7_takes_61 hR hS hM  ok hx
set_option maxRecDepth 100000 in
set_option maxHeartbeats 4000000 in
theorem kpbb_X7_takes_7 {u g H T N : Nat} {S : cS} {S0 : cS} {R_ : Prop} {X : Nat × Option Nat × Option Nat × cS → Prop} (hX0 : ∀ (x0 : Option Nat) (x3 : Option Nat) (S' : cS), St u g H T S' → Mono S0 S' → tN g H x0 → tK S' 5 x3 → X (0, x0, x3, S') → R_) (hX1 : ∀ (x0 : Option Nat) (x3 : Option Nat) (S' : cS), St u g H T S' → Mono S0 S' → X (1, x0, x3, S') → R_) {rec : Option Nat → Nat → Int32 → cS → Nat × Option Nat × Option Nat × cS} {rok : Option Nat → Nat → Int32 → cS → Prop} (hrec : ∀ (x0 : Option Nat) (x1 : Nat) (x2 : Int32) (S : cS), St u g H T S → Mono S0 S → tN g H x0 → isO g H 6 x1 → rok x0 x1 x2 S → X (rec x0 x1 x2 S) → R_) {x0 : Option Nat} {x1 : Nat} {x2 : Int32} (hS : St u g H T S) (hM : Mono S0 S) (t_x0 : tN g H x0) (t_x1 : isO g H 6 x1) (ok : KOB_X7_takes_7 N g H T rok x0 x1 x2 S) (hx : X (KB_X7_takes_7 N g H T rec x0 x1 x2 S)) : R_ := by
  unfold KOB_X7_takes_7 at ok
  unfold KB_X7_takes_7 at hx
  have nn_9 := ok.1
  have ok := ok.2
  refine pif_p ok (fun c_15 => ?_) (fun c_15 => ?_)
  · have ok := ok.1 c_15
    have hx := xif_p c_15 hx
    exact hX1 _ _ S hS hM  hx
  · have ok := ok.2 c_15
    have hx := xif_n c_15 hx
    have p_23 := hS.row24 (hS.rk (c := 6) (k := 8) t_x1 rfl (by omega)) x2.toNatClampNeg
    have ok := ok.2
    refine pif_p ok (fun c_26 => ?_) (fun c_26 => ?_)
    · have ok := ok.1 c_26
      have hx := xif_p c_26 hx
      exact kpb_X7_takes_63 hX0 hX1 hrec hS hM t_x0 t_x1 ok hx
    · have ok := ok.2 c_26
      have hx := xif_n c_26 hx
      have ok := ok.2
      refine pif_p ok (fun c_38 => ?_) (fun c_38 => ?_)
      · have ok := ok.1 c_38
        have hx := xif_p c_38 hx
        exact kpb_X7_takes_63 hX0 hX1 hrec hS hM t_x0 t_x1 ok hx
      · have ok := ok.2 c_38
        have hx := xif_n c_38 hx
        have ok := ok.2
        refine pif_p ok (fun c_53 => ?_) (fun c_53 => ?_)
        · have ok := ok.1 c_53
          have hx := xif_p c_53 hx
          exact kpb_X7_takes_63 hX0 hX1 hrec hS hM t_x0 t_x1 ok hx
        · have ok := ok.2 c_53
          have hx := xif_n c_53 hx
          exact hX0 _ _ S hS hM t_x0 p_23 hx
set_option maxRecDepth 100000 in
set_option maxHeartbeats 4000000 in
theorem kpl_X7_takes_7 {u g H T N : Nat} {S0 : cS} {R_ : Prop} {X : Nat × Option Nat × Option Nat × cS → Prop} (hX0 : ∀ (x0 : Option Nat) (x3 : Option Nat) (S' : cS), St u g H T S' → Mono S0 S' → tN g H x0 → tK S' 5 x3 → X (0, x0, x3, S') → R_) (hX1 : ∀ (x0 : Option Nat) (x3 : Option Nat) (S' : cS), St u g H T S' → Mono S0 S' → X (1, x0, x3, S') → R_) : ∀ (n : Nat) (x0 : Option Nat) (x1 : Nat) (x2 : Int32) (S : cS), St u g H T S → Mono S0 S → tN g H x0 → isO g H 6 x1 → KOL_X7_takes_7 N g H T n x0 x1 x2 S → X (KL_X7_takes_7 N g H T n x0 x1 x2 S) → R_ := by
  intro n
  induction n with
  | zero => intro x0 x1 x2 S hS hM t_x0 t_x1 ok; exact absurd ok id
  | succ n ih =>
    intro x0 x1 x2 S hS hM t_x0 t_x1 ok hx
    exact kpbb_X7_takes_7 hX0 hX1 (rec := KL_X7_takes_7 N g H T n) (rok := KOL_X7_takes_7 N g H T n) (fun x0 x1 x2 S hS hM t_x0 t_x1 ok hx => ih x0 x1 x2 S hS hM t_x0 t_x1 ok hx) hS hM t_x0 t_x1 ok hx
set_option maxRecDepth 100000 in
set_option maxHeartbeats 4000000 in
theorem kpd_X7_takes_7 {u g H T N : Nat} {S : cS} {S0 : cS} {R_ : Prop} {X : Int32 × cS → Prop} (hR : ∀ v S', St u g H T S' → Mono S0 S' → X (v, S') → R_) {x0 : Option Nat} {x1 : Nat} {x2 : Int32} (hS : St u g H T S) (hM : Mono S0 S) (t_x0 : tN g H x0) (t_x1 : isO g H 6 x1) (ok : KOL_X7_takes_7 N g H T N x0 x1 x2 S ∧ KOA_X7_takes_7 N g H T x0 x1 x2 S (KL_X7_takes_7 N g H T N x0 x1 x2 S)) (hx : X (KA_X7_takes_7 N g H T x0 x1 x2 S (KL_X7_takes_7 N g H T N x0 x1 x2 S))) : R_ := by
  refine kpl_X7_takes_7 ?_ ?_ N x0 x1 x2 S hS hM t_x0 t_x1 ok.1 (X := fun z => KOA_X7_takes_7 N g H T x0 x1 x2 S z ∧ X (KA_X7_takes_7 N g H T x0 x1 x2 S z)) ⟨ok.2, hx⟩
  · intro x0' x3' S' hS hM t_x0 t_x3 hz
    obtain ⟨ok, hx⟩ := hz
    unfold KOA_X7_takes_7 at ok
    unfold KA_X7_takes_7 at hx
    have ok := xif_P (show (0 : Nat) = 0 from rfl) ok
    have hx := xif_p (show (0 : Nat) = 0 from rfl) hx
    exact kpb_X7_takes_56 hR hS hM t_x0 t_x3 ok hx
  · intro x0' x3' S' hS hM hz
    obtain ⟨ok, hx⟩ := hz
    unfold KOA_X7_takes_7 at ok
    unfold KA_X7_takes_7 at hx
    have ok := xif_N (show ¬ (1 : Nat) = 0 by decide) ok
    have hx := xif_n (show ¬ (1 : Nat) = 0 by decide) hx
    exact kpb_X7_takes_69 hR hS hM  ok hx
set_option maxRecDepth 100000 in
set_option maxHeartbeats 4000000 in
theorem kpb_X7_takes_0 {u g H T N : Nat} {S : cS} {S0 : cS} {R_ : Prop} {X : Int32 × cS → Prop} (hR : ∀ v S', St u g H T S' → Mono S0 S' → X (v, S') → R_) {x0 : Option Nat} (hS : St u g H T S) (hM : Mono S0 S) (t_x0 : tN g H x0) (ok : KO_X7_takes_0 N g H T x0 S) (hx : X (KF_X7_takes_0 N g H T x0 S)) : R_ := by
  unfold KO_X7_takes_0 at ok
  unfold KF_X7_takes_0 at hx
  have nn_1 := ok.1
  have ok := ok.2
  exact kpd_X7_takes_7 hR hS hM t_x0 (o53 (tN.o t_x0 nn_1)) ok hx
set_option maxRecDepth 100000 in
set_option maxHeartbeats 4000000 in
theorem kpc_X7_takes {u g H T N : Nat} {S : cS} {x0 : Option Nat} (hS : St u g H T S) (t_x0 : tN g H x0) (ok : p_X7_takes N g H T S x0) : St u g H T (k_X7_takes N g H T S x0).2 ∧ Mono S (k_X7_takes N g H T S x0).2 := by
  exact kpb_X7_takes_0 (X := fun F => F = k_X7_takes N g H T S x0) (fun v S' h1 h2 h => by rw [← h]; exact ⟨h1, h2⟩) hS Mono.rfl' t_x0 ok rfl
set_option maxRecDepth 100000 in
set_option maxHeartbeats 4000000 in
theorem kpb_X7_isValid_91 {u g H T N : Nat} {S : cS} {S0 : cS} {R_ : Prop} {X : Int32 × cS → Prop} (hR : ∀ v S', St u g H T S' → Mono S0 S' → X (v, S') → R_) {s0 : Int32} (hS : St u g H T S) (hM : Mono S0 S) (ok : KO_X7_isValid_91 N g H T s0 S) (hx : X (KF_X7_isValid_91 N g H T s0 S)) : R_ := by
  unfold KO_X7_isValid_91 at ok
  unfold KF_X7_isValid_91 at hx
  exact hR _ _ hS hM hx
set_option maxRecDepth 100000 in
set_option maxHeartbeats 4000000 in
theorem kpb_X7_isValid_72 {u g H T N : Nat} {S : cS} {S0 : cS} {R_ : Prop} {X : Int32 × cS → Prop} (hR : ∀ v S', St u g H T S' → Mono S0 S' → X (v, S') → R_) {x0 : Option Nat} {x1 : Option Nat} {x2 : Int32} (hS : St u g H T S) (hM : Mono S0 S) (t_x0 : tN g H x0) (t_x1 : tK S 5 x1) (ok : KO_X7_isValid_72 N g H T x0 x1 x2 S) (hx : X (KF_X7_isValid_72 N g H T x0 x1 x2 S)) : R_ := by
  unfold KO_X7_isValid_72 at ok
  unfold KF_X7_isValid_72 at hx
  have nn_73 := ok.1
  have ok := ok.2
  have nn_80 := ok.1
  have p_80 := hS.m0k t_x1 ok.1
  have ok := ok.2
  obtain ⟨hS, hm_88⟩ := kpc_X0_play hS (o88 (o50 (tN.o t_x0 nn_73))) p_80 ok.1
  have hM := hM.trans hm_88
  have ok := ok.2
  exact kpb_X7_isValid_91 hR hS hM  ok hx
set_option maxRecDepth 100000 in
set_option maxHeartbeats 4000000 in
theorem kpb_X7_isValid_56 {u g H T N : Nat} {S : cS} {S0 : cS} {R_ : Prop} {X : Int32 × cS → Prop} (hR : ∀ v S', St u g H T S' → Mono S0 S' → X (v, S') → R_) (hS : St u g H T S) (hM : Mono S0 S) (ok : KO_X7_isValid_56 N g H T S) (hx : X (KF_X7_isValid_56 N g H T S)) : R_ := by
  unfold KO_X7_isValid_56 at ok
  unfold KF_X7_isValid_56 at hx
  exact hR _ _ hS hM hx
set_option maxRecDepth 100000 in
set_option maxHeartbeats 4000000 in
theorem kpb_X7_isValid_0 {u g H T N : Nat} {S : cS} {S0 : cS} {R_ : Prop} {X : Int32 × cS → Prop} (hR : ∀ v S', St u g H T S' → Mono S0 S' → X (v, S') → R_) {x0 : Option Nat} {x1 : Option Nat} {x2 : Int32} (hS : St u g H T S) (hM : Mono S0 S) (t_x0 : tN g H x0) (t_x1 : tK S 5 x1) (ok : KO_X7_isValid_0 N g H T x0 x1 x2 S) (hx : X (KF_X7_isValid_0 N g H T x0 x1 x2 S)) : R_ := by
  unfold KO_X7_isValid_0 at ok
  unfold KF_X7_isValid_0 at hx
  have nn_2 := ok.1.1
  have ok := ok.2
  have nn_6 := ok.1
  have ok := ok.2
  refine pif_n ok (fun c_9 => ?_) (fun c_9 => ?_)
  · have ok := ok.2 c_9
    have hx := xif_n c_9 hx
    exact kpb_X7_isValid_56 hR hS hM  ok hx
  · have ok := ok.1 c_9
    have hx := xif_p c_9 hx
    have p_13 := hS.m0k t_x1 nn_2
    have ok := ok.2
    refine pif_p ok (fun c_29 => ?_) (fun c_29 => ?_)
    · have ok := ok.1 c_29
      have hx := xif_p c_29 hx
      exact kpb_X7_isValid_56 hR hS hM  ok hx
    · have ok := ok.2 c_29
      have hx := xif_n c_29 hx
      have p_33 := hS.m0k t_x1 nn_2
      have ok := ok.2
      refine pif_n ok (fun c_53 => ?_) (fun c_53 => ?_)
      · have ok := ok.2 c_53
        have hx := xif_n c_53 hx
        obtain ⟨hS, hm_69⟩ := kpc_X0_mirror hS (o88 (o50 (tN.o t_x0 nn_6))) (o54 (tN.o t_x0 nn_6)) ok.1
        have hM := hM.trans hm_69
        have ok := ok.2
        exact kpb_X7_isValid_72 hR hS hM t_x0 (hm_69.tK t_x1 (by decide)) ok hx
      · have ok := ok.1 c_53
        have hx := xif_p c_53 hx
        exact kpb_X7_isValid_56 hR hS hM  ok hx
set_option maxRecDepth 100000 in
set_option maxHeartbeats 4000000 in
theorem kpc_X7_isValid {u g H T N : Nat} {S : cS} {x0 : Option Nat} {x1 : Option Nat} {x2 : Int32} (hS : St u g H T S) (t_x0 : tN g H x0) (t_x1 : tK S 5 x1) (ok : p_X7_isValid N g H T S x0 x1 x2) : St u g H T (k_X7_isValid N g H T S x0 x1 x2).2 ∧ Mono S (k_X7_isValid N g H T S x0 x1 x2).2 := by
  exact kpb_X7_isValid_0 (X := fun F => F = k_X7_isValid N g H T S x0 x1 x2) (fun v S' h1 h2 h => by rw [← h]; exact ⟨h1, h2⟩) hS Mono.rfl' t_x0 t_x1 ok rfl
set_option maxRecDepth 100000 in
set_option maxHeartbeats 4000000 in
theorem kpb_X8_removePayment_43 {u g H T N : Nat} {S : cS} {S0 : cS} {R_ : Prop} {X : cS → Prop} (hR : ∀ S', St u g H T S' → Mono S0 S' → X S' → R_) (hS : St u g H T S) (hM : Mono S0 S) (ok : KO_X8_removePayment_43 N g H T S) (hx : X (KF_X8_removePayment_43 N g H T S)) : R_ := by
  unfold KO_X8_removePayment_43 at ok
  unfold KF_X8_removePayment_43 at hx
  exact hR _ hS hM hx
set_option maxRecDepth 100000 in
set_option maxHeartbeats 4000000 in
theorem kpb_X8_removePayment_33 {u g H T N : Nat} {S : cS} {S0 : cS} {R_ : Prop} {X : cS → Prop} (hR : ∀ S', St u g H T S' → Mono S0 S' → X S' → R_) {x0 : Nat} (hS : St u g H T S) (hM : Mono S0 S) (t_x0 : isO g H 6 x0) (ok : KO_X8_removePayment_33 N g H T x0 S) (hx : X (KF_X8_removePayment_33 N g H T x0 S)) : R_ := by
  unfold KO_X8_removePayment_33 at ok
  unfold KF_X8_removePayment_33 at hx
  have hS := hS.I 12 x0 ((cI S 12 x0) - (nI 1))
  have hM := hM.I 12 x0 ((cI S 12 x0) - (nI 1))
  exact kpb_X8_removePayment_43 hR hS hM  ok hx
set_option maxRecDepth 100000 in
set_option maxHeartbeats 4000000 in
theorem kpb_X8_removePayment_0 {u g H T N : Nat} {S : cS} {S0 : cS} {R_ : Prop} {X : cS → Prop} (hR : ∀ S', St u g H T S' → Mono S0 S' → X S' → R_) {x0 : Nat} {x1 : Int64} (hS : St u g H T S) (hM : Mono S0 S) (t_x0 : isO g H 6 x0) (ok : KO_X8_removePayment_0 N g H T x0 x1 S) (hx : X (KF_X8_removePayment_0 N g H T x0 x1 S)) : R_ := by
  unfold KO_X8_removePayment_0 at ok
  unfold KF_X8_removePayment_0 at hx
  have ok := ok.2
  refine pif_p ok (fun c_7 => ?_) (fun c_7 => ?_)
  · have ok := ok.1 c_7
    have hx := xif_p c_7 hx
    exact kpb_X8_removePayment_43 hR hS hM  ok hx
  · have ok := ok.2 c_7
    have hx := xif_n c_7 hx
    have hS := hS.Jr (x0 + 4) (va_cpy (cJ S (x0 + 4)) (cJ S (x0 + 4)) ((k_X8_find N g H T S x0 x1) + (nI 1)).toNatClampNeg (k_X8_find N g H T S x0 x1).toNatClampNeg (((cI S 12 x0) - (k_X8_find N g H T S x0 x1)) - (nI 1)).toNatClampNeg)
    have hM := hM.Jr (x0 + 4) (va_cpy (cJ S (x0 + 4)) (cJ S (x0 + 4)) ((k_X8_find N g H T S x0 x1) + (nI 1)).toNatClampNeg (k_X8_find N g H T S x0 x1).toNatClampNeg (((cI S 12 x0) - (k_X8_find N g H T S x0 x1)) - (nI 1)).toNatClampNeg)
    have ok := ok.2
    exact kpb_X8_removePayment_33 hR hS hM t_x0 ok hx
set_option maxRecDepth 100000 in
set_option maxHeartbeats 4000000 in
theorem kpc_X8_removePayment {u g H T N : Nat} {S : cS} {a0 : Nat} {x1 : Int64} (hS : St u g H T S) (t_x0 : isO g H 6 a0) (ok : p_X8_removePayment N g H T S a0 x1) : St u g H T (k_X8_removePayment N g H T S a0 x1) ∧ Mono S (k_X8_removePayment N g H T S a0 x1) := by
  exact kpb_X8_removePayment_0 (X := fun F => F = k_X8_removePayment N g H T S a0 x1) (fun S' h1 h2 h => by rw [← h]; exact ⟨h1, h2⟩) hS Mono.rfl' t_x0 ok rfl
set_option maxRecDepth 100000 in
set_option maxHeartbeats 4000000 in
theorem kpb_X7_adopt_116 {u g H T N : Nat} {S : cS} {S0 : cS} {R_ : Prop} {X : cS → Prop} (hR : ∀ S', St u g H T S' → Mono S0 S' → X S' → R_) {x0 : Option Nat} (hS : St u g H T S) (hM : Mono S0 S) (t_x0 : tN g H x0) (ok : KO_X7_adopt_116 N g H T x0 S) (hx : X (KF_X7_adopt_116 N g H T x0 S)) : R_ := by
  unfold KO_X7_adopt_116 at ok
  unfold KF_X7_adopt_116 at hx
  have nn_118 := ok.1
  have ok := ok.2
  obtain ⟨hS, hm_123⟩ := kpc_X6_enter hS (tN.o t_x0 nn_118) ok.1
  have hM := hM.trans hm_123
  have ok := ok.2
  exact hR _ hS hM hx
set_option maxRecDepth 100000 in
set_option maxHeartbeats 4000000 in
theorem kpb_X7_adopt_102 {u g H T N : Nat} {S : cS} {S0 : cS} {R_ : Prop} {X : cS → Prop} (hR : ∀ S', St u g H T S' → Mono S0 S' → X S' → R_) {x0 : Option Nat} (hS : St u g H T S) (hM : Mono S0 S) (t_x0 : tN g H x0) (ok : KO_X7_adopt_102 N g H T x0 S) (hx : X (KF_X7_adopt_102 N g H T x0 S)) : R_ := by
  unfold KO_X7_adopt_102 at ok
  unfold KF_X7_adopt_102 at hx
  have nn_104 := ok.1
  have ok := ok.2
  obtain ⟨hS, hm_113⟩ := kpc_X6_forgetAnswers hS (tN.o t_x0 nn_104) ok.1
  have hM := hM.trans hm_113
  have ok := ok.2
  exact kpb_X7_adopt_116 hR hS hM t_x0 ok hx
set_option maxRecDepth 100000 in
set_option maxHeartbeats 4000000 in
theorem kpb_X7_adopt_96 {u g H T N : Nat} {S : cS} {S0 : cS} {R_ : Prop} {X : Nat × Option Nat × cS → Prop} (hX0 : ∀ (x0 : Option Nat) (S' : cS), St u g H T S' → Mono S0 S' → tN g H x0 → X (0, x0, S') → R_) {rec : Option Nat → Option Nat → Int32 → Int32 → cS → Nat × Option Nat × cS} {rok : Option Nat → Option Nat → Int32 → Int32 → cS → Prop} (hrec : ∀ (x0 : Option Nat) (x1 : Option Nat) (x3 : Int32) (x4 : Int32) (S : cS), St u g H T S → Mono S0 S → tN g H x0 → tK S 5 x1 → rok x0 x1 x3 x4 S → X (rec x0 x1 x3 x4 S) → R_) {x0 : Option Nat} {x1 : Option Nat} {x3 : Int32} {x4 : Int32} (hS : St u g H T S) (hM : Mono S0 S) (t_x0 : tN g H x0) (t_x1 : tK S 5 x1) (ok : KO_X7_adopt_96 N g H T rok x0 x1 x3 x4 S) (hx : X (KF_X7_adopt_96 N g H T rec x0 x1 x3 x4 S)) : R_ := by
  unfold KO_X7_adopt_96 at ok
  unfold KF_X7_adopt_96 at hx
  exact hrec _ _ _ _ S hS hM t_x0 t_x1 ok hx
set_option maxRecDepth 100000 in
set_option maxHeartbeats 4000000 in
theorem kpbb_X7_adopt_66 {u g H T N : Nat} {S : cS} {S0 : cS} {R_ : Prop} {X : Nat × Option Nat × cS → Prop} (hX0 : ∀ (x0 : Option Nat) (S' : cS), St u g H T S' → Mono S0 S' → tN g H x0 → X (0, x0, S') → R_) {rec : Option Nat → Option Nat → Int32 → Int32 → cS → Nat × Option Nat × cS} {rok : Option Nat → Option Nat → Int32 → Int32 → cS → Prop} (hrec : ∀ (x0 : Option Nat) (x1 : Option Nat) (x3 : Int32) (x4 : Int32) (S : cS), St u g H T S → Mono S0 S → tN g H x0 → tK S 5 x1 → rok x0 x1 x3 x4 S → X (rec x0 x1 x3 x4 S) → R_) {x0 : Option Nat} {x1 : Option Nat} {x3 : Int32} {x4 : Int32} (hS : St u g H T S) (hM : Mono S0 S) (t_x0 : tN g H x0) (t_x1 : tK S 5 x1) (ok : KOB_X7_adopt_66 N g H T rok x0 x1 x3 x4 S) (hx : X (KB_X7_adopt_66 N g H T rec x0 x1 x3 x4 S)) : R_ := by
  unfold KOB_X7_adopt_66 at ok
  unfold KB_X7_adopt_66 at hx
  refine pif_p ok (fun c_69 => ?_) (fun c_69 => ?_)
  · have ok := ok.1 c_69
    have hx := xif_p c_69 hx
    exact hX0 _ S hS hM t_x0 hx
  · have ok := ok.2 c_69
    have hx := xif_n c_69 hx
    have nn_73 := ok.1
    have ok := ok.2
    have nn_77 := ok.1
    have p_77 := hS.m0k t_x1 ok.1
    have ok := ok.2
    have ok := ok.2
    obtain ⟨hS, hm_93⟩ := kpc_X8_removePayment hS (o53 (tN.o t_x0 nn_73)) ok.1
    have hM := hM.trans hm_93
    have ok := ok.2
    exact kpb_X7_adopt_96 hX0 hrec hS hM t_x0 (hm_93.tK t_x1 (by decide)) ok hx
set_option maxRecDepth 100000 in
set_option maxHeartbeats 4000000 in
theorem kpl_X7_adopt_66 {u g H T N : Nat} {S0 : cS} {R_ : Prop} {X : Nat × Option Nat × cS → Prop} (hX0 : ∀ (x0 : Option Nat) (S' : cS), St u g H T S' → Mono S0 S' → tN g H x0 → X (0, x0, S') → R_) : ∀ (n : Nat) (x0 : Option Nat) (x1 : Option Nat) (x3 : Int32) (x4 : Int32) (S : cS), St u g H T S → Mono S0 S → tN g H x0 → tK S 5 x1 → KOL_X7_adopt_66 N g H T n x0 x1 x3 x4 S → X (KL_X7_adopt_66 N g H T n x0 x1 x3 x4 S) → R_ := by
  intro n
  induction n with
  | zero => intro x0 x1 x3 x4 S hS hM t_x0 t_x1 ok; exact absurd ok id
  | succ n ih =>
    intro x0 x1 x3 x4 S hS hM t_x0 t_x1 ok hx
    exact kpbb_X7_adopt_66 hX0 (rec := KL_X7_adopt_66 N g H T n) (rok := KOL_X7_adopt_66 N g H T n) (fun x0 x1 x3 x4 S hS hM t_x0 t_x1 ok hx => ih x0 x1 x3 x4 S hS hM t_x0 t_x1 ok hx) hS hM t_x0 t_x1 ok hx
set_option maxRecDepth 100000 in
set_option maxHeartbeats 4000000 in
theorem kpd_X7_adopt_66 {u g H T N : Nat} {S : cS} {S0 : cS} {R_ : Prop} {X : cS → Prop} (hR : ∀ S', St u g H T S' → Mono S0 S' → X S' → R_) {x0 : Option Nat} {x1 : Option Nat} {x3 : Int32} {x4 : Int32} (hS : St u g H T S) (hM : Mono S0 S) (t_x0 : tN g H x0) (t_x1 : tK S 5 x1) (ok : KOL_X7_adopt_66 N g H T N x0 x1 x3 x4 S ∧ KOA_X7_adopt_66 N g H T x0 x1 x3 x4 S (KL_X7_adopt_66 N g H T N x0 x1 x3 x4 S)) (hx : X (KA_X7_adopt_66 N g H T x0 x1 x3 x4 S (KL_X7_adopt_66 N g H T N x0 x1 x3 x4 S))) : R_ := by
  refine kpl_X7_adopt_66 ?_ N x0 x1 x3 x4 S hS hM t_x0 t_x1 ok.1 (X := fun z => KOA_X7_adopt_66 N g H T x0 x1 x3 x4 S z ∧ X (KA_X7_adopt_66 N g H T x0 x1 x3 x4 S z)) ⟨ok.2, hx⟩
  · intro x0' S' hS hM t_x0 hz
    obtain ⟨ok, hx⟩ := hz
    unfold KOA_X7_adopt_66 at ok
    unfold KA_X7_adopt_66 at hx
    exact kpb_X7_adopt_102 hR hS hM t_x0 ok hx
set_option maxRecDepth 100000 in
set_option maxHeartbeats 4000000 in
theorem kpb_X7_adopt_54 {u g H T N : Nat} {S : cS} {S0 : cS} {R_ : Prop} {X : cS → Prop} (hR : ∀ S', St u g H T S' → Mono S0 S' → X S' → R_) {x0 : Option Nat} {x1 : Option Nat} {x2 : Int32} (hS : St u g H T S) (hM : Mono S0 S) (t_x0 : tN g H x0) (t_x1 : tK S 5 x1) (ok : KO_X7_adopt_54 N g H T x0 x1 x2 S) (hx : X (KF_X7_adopt_54 N g H T x0 x1 x2 S)) : R_ := by
  unfold KO_X7_adopt_54 at ok
  unfold KF_X7_adopt_54 at hx
  have nn_59 := ok.1.1
  have ok := ok.2
  exact kpd_X7_adopt_66 hR hS hM t_x0 t_x1 ok hx
set_option maxRecDepth 100000 in
set_option maxHeartbeats 4000000 in
theorem kpb_X7_adopt_44 {u g H T N : Nat} {S : cS} {S0 : cS} {R_ : Prop} {X : cS → Prop} (hR : ∀ S', St u g H T S' → Mono S0 S' → X S' → R_) {x0 : Option Nat} {x1 : Option Nat} {x2 : Int32} {s0 : Int32} (hS : St u g H T S) (hM : Mono S0 S) (t_x0 : tN g H x0) (t_x1 : tK S 5 x1) (ok : KO_X7_adopt_44 N g H T x0 x1 x2 s0 S) (hx : X (KF_X7_adopt_44 N g H T x0 x1 x2 s0 S)) : R_ := by
  unfold KO_X7_adopt_44 at ok
  unfold KF_X7_adopt_44 at hx
  have nn_47 := ok.1
  have ok := ok.2
  have nn_51 := ok.1.1
  obtain ⟨hS, hm_51⟩ := kpc_X5_writeId hS (t_x1 _ (za_of nn_51)) (hS.rk (c := 5) (k := 5) (tN.o t_x0 nn_47) rfl (by omega)) ok.1.2
  have hM := hM.trans hm_51
  have ok := ok.2
  exact kpb_X7_adopt_54 hR hS hM t_x0 (hm_51.tK t_x1 (by decide)) ok hx
set_option maxRecDepth 100000 in
set_option maxHeartbeats 4000000 in
theorem kpb_X7_adopt_20 {u g H T N : Nat} {S : cS} {S0 : cS} {R_ : Prop} {X : cS → Prop} (hR : ∀ S', St u g H T S' → Mono S0 S' → X S' → R_) {x0 : Option Nat} {x1 : Option Nat} {x2 : Int32} {s0 : Int32} (hS : St u g H T S) (hM : Mono S0 S) (t_x0 : tN g H x0) (t_x1 : tK S 5 x1) (ok : KO_X7_adopt_20 N g H T x0 x1 x2 s0 S) (hx : X (KF_X7_adopt_20 N g H T x0 x1 x2 s0 S)) : R_ := by
  unfold KO_X7_adopt_20 at ok
  unfold KF_X7_adopt_20 at hx
  refine pif_n ok (fun c_20 => ?_) (fun c_20 => ?_)
  · have ok := ok.2 c_20
    have hx := xif_n c_20 hx
    have nn_29 := ok.1
    have ok := ok.2
    have nn_33 := ok.1
    have p_33 := hS.m0k t_x1 ok.1
    have ok := ok.2
    obtain ⟨hS, hm_41⟩ := kpc_X0_play hS (o54 (tN.o t_x0 nn_29)) p_33 ok.1
    have hM := hM.trans hm_41
    have ok := ok.2
    exact kpb_X7_adopt_44 hR hS hM t_x0 (hm_41.tK t_x1 (by decide)) ok hx
  · have ok := ok.1 c_20
    have hx := xif_p c_20 hx
    have nn_24 := ok.1.1
    obtain ⟨hS, hm_24⟩ := kpc_X6_fall hS (tN.o t_x0 nn_24) ok.1.2
    have hM := hM.trans hm_24
    have ok := ok.2
    exact hR _ hS hM hx
set_option maxRecDepth 100000 in
set_option maxHeartbeats 4000000 in
theorem kpb_X7_adopt_0 {u g H T N : Nat} {S : cS} {S0 : cS} {R_ : Prop} {X : cS → Prop} (hR : ∀ S', St u g H T S' → Mono S0 S' → X S' → R_) {x0 : Option Nat} {x1 : Option Nat} {x2 : Int32} (hS : St u g H T S) (hM : Mono S0 S) (t_x0 : tN g H x0) (t_x1 : tK S 5 x1) (ok : KO_X7_adopt_0 N g H T x0 x1 x2 S) (hx : X (KF_X7_adopt_0 N g H T x0 x1 x2 S)) : R_ := by
  unfold KO_X7_adopt_0 at ok
  unfold KF_X7_adopt_0 at hx
  have nn_1 := ok.1
  have ok := ok.2
  have nn_9 := ok.1
  have p_9 := hS.m0k t_x1 ok.1
  have ok := ok.2
  obtain ⟨hS, hm_17⟩ := kpc_X4_noteChain hS (o52 (tN.o t_x0 nn_1)) p_9 ok.1
  have hM := hM.trans hm_17
  have ok := ok.2
  exact kpb_X7_adopt_20 hR hS hM t_x0 (hm_17.tK t_x1 (by decide)) ok hx
set_option maxRecDepth 100000 in
set_option maxHeartbeats 4000000 in
theorem kpc_X7_adopt {u g H T N : Nat} {S : cS} {x0 : Option Nat} {x1 : Option Nat} {x2 : Int32} (hS : St u g H T S) (t_x0 : tN g H x0) (t_x1 : tK S 5 x1) (ok : p_X7_adopt N g H T S x0 x1 x2) : St u g H T (k_X7_adopt N g H T S x0 x1 x2) ∧ Mono S (k_X7_adopt N g H T S x0 x1 x2) := by
  exact kpb_X7_adopt_0 (X := fun F => F = k_X7_adopt N g H T S x0 x1 x2) (fun S' h1 h2 h => by rw [← h]; exact ⟨h1, h2⟩) hS Mono.rfl' t_x0 t_x1 ok rfl
set_option maxRecDepth 100000 in
set_option maxHeartbeats 4000000 in
theorem kpb_X8_proposal_21 {u g H T N : Nat} {S : cS} {R_ : Prop} {X : Option Nat → Prop} (hR : ∀ v, tK S 5 v → X v → R_) {s0 : Option Nat} (hS : St u g H T S) (t_s0 : tK S 5 s0) (ok : KO_X8_proposal_21 N g H T s0 S) (hx : X (KF_X8_proposal_21 N g H T s0 S)) : R_ := by
  unfold KO_X8_proposal_21 at ok
  unfold KF_X8_proposal_21 at hx
  exact hR _ t_s0 hx
set_option maxRecDepth 100000 in
set_option maxHeartbeats 4000000 in
theorem kpb_X8_proposal_0 {u g H T N : Nat} {S : cS} {R_ : Prop} {X : Option Nat → Prop} (hR : ∀ v, tK S 5 v → X v → R_) {x0 : Nat} {x1 : Int32} {x2 : Int32} (hS : St u g H T S) (t_x0 : isO g H 6 x0) (ok : KO_X8_proposal_0 N g H T x0 x1 x2 S) (hx : X (KF_X8_proposal_0 N g H T x0 x1 x2 S)) : R_ := by
  unfold KO_X8_proposal_0 at ok
  unfold KF_X8_proposal_0 at hx
  have ok := ok.2
  refine pif_p ok (fun c_8 => ?_) (fun c_8 => ?_)
  · have ok := ok.1 c_8
    have hx := xif_p c_8 hx
    have p_20 := hS.row24 (hS.rk (c := 6) (k := 2) t_x0 rfl (by omega)) (k_X8_page N g H T S x0 x1 x2).toNatClampNeg
    have ok := ok.2
    exact kpb_X8_proposal_21 hR hS p_20 ok hx
  · have ok := ok.2 c_8
    have hx := xif_n c_8 hx
    exact kpb_X8_proposal_21 hR hS tK_none ok hx
set_option maxRecDepth 100000 in
set_option maxHeartbeats 4000000 in
theorem kpc_X8_proposal {u g H T N : Nat} {S : cS} {a0 : Nat} {x1 : Int32} {x2 : Int32} (hS : St u g H T S) (t_x0 : isO g H 6 a0) (ok : p_X8_proposal N g H T S a0 x1 x2) : tK S 5 (k_X8_proposal N g H T S a0 x1 x2) := by
  exact kpb_X8_proposal_0 (X := fun F => F = k_X8_proposal N g H T S a0 x1 x2) (fun v h3 h => by rw [← h]; exact h3) hS t_x0 ok rfl
set_option maxRecDepth 100000 in
set_option maxHeartbeats 4000000 in
theorem kpb_X8_judge_29 {u g H T N : Nat} {S : cS} {S0 : cS} {R_ : Prop} {X : cS → Prop} (hR : ∀ S', St u g H T S' → Mono S0 S' → X S' → R_) (hS : St u g H T S) (hM : Mono S0 S) (ok : KO_X8_judge_29 N g H T S) (hx : X (KF_X8_judge_29 N g H T S)) : R_ := by
  unfold KO_X8_judge_29 at ok
  unfold KF_X8_judge_29 at hx
  exact hR _ hS hM hx
set_option maxRecDepth 100000 in
set_option maxHeartbeats 4000000 in
theorem kpb_X8_judge_28 {u g H T N : Nat} {S : cS} {S0 : cS} {R_ : Prop} {X : cS → Prop} (hR : ∀ S', St u g H T S' → Mono S0 S' → X S' → R_) {s0 : Option Nat} {s1 : Int32} {s2 : Int32} (hS : St u g H T S) (hM : Mono S0 S) (t_s0 : tK S 21 s0) (ok : KO_X8_judge_28 N g H T s0 s1 s2 S) (hx : X (KF_X8_judge_28 N g H T s0 s1 s2 S)) : R_ := by
  unfold KO_X8_judge_28 at ok
  unfold KF_X8_judge_28 at hx
  have tq_28 : tK S 21 (some (za s0)) := tK_some (tK.cis t_s0 ok.1.1).2
  have hS := hS.Aw (k := 21) (za s0) s1.toNatClampNeg s2 tq_28 (by decide)
  have hM := hM.A (za s0) s1.toNatClampNeg s2
  have ok := ok.2
  exact kpb_X8_judge_29 hR hS hM  ok hx
set_option maxRecDepth 100000 in
set_option maxHeartbeats 4000000 in
theorem kpb_X8_judge_0 {u g H T N : Nat} {S : cS} {S0 : cS} {R_ : Prop} {X : cS → Prop} (hR : ∀ S', St u g H T S' → Mono S0 S' → X S' → R_) {x0 : Nat} {x1 : Int32} {x2 : Int32} {x3 : Int32} (hS : St u g H T S) (hM : Mono S0 S) (t_x0 : isO g H 6 x0) (ok : KO_X8_judge_0 N g H T x0 x1 x2 x3 S) (hx : X (KF_X8_judge_0 N g H T x0 x1 x2 x3 S)) : R_ := by
  unfold KO_X8_judge_0 at ok
  unfold KF_X8_judge_0 at hx
  have ok := ok.2
  refine pif_p ok (fun c_10 => ?_) (fun c_10 => ?_)
  · have ok := ok.1 c_10
    have hx := xif_p c_10 hx
    exact kpb_X8_judge_29 hR hS hM  ok hx
  · have ok := ok.2 c_10
    have hx := xif_n c_10 hx
    refine pif_p ok (fun c_20 => ?_) (fun c_20 => ?_)
    · have ok := ok.1 c_20
      have hx := xif_p c_20 hx
      exact kpb_X8_judge_28 hR hS hM (hS.rk (c := 6) (k := 3) t_x0 rfl (by omega)) ok hx
    · have ok := ok.2 c_20
      have hx := xif_n c_20 hx
      exact kpb_X8_judge_28 hR hS hM (hS.rk (c := 6) (k := 3) t_x0 rfl (by omega)) ok hx
set_option maxRecDepth 100000 in
set_option maxHeartbeats 4000000 in
theorem kpc_X8_judge {u g H T N : Nat} {S : cS} {a0 : Nat} {x1 : Int32} {x2 : Int32} {x3 : Int32} (hS : St u g H T S) (t_x0 : isO g H 6 a0) (ok : p_X8_judge N g H T S a0 x1 x2 x3) : St u g H T (k_X8_judge N g H T S a0 x1 x2 x3) ∧ Mono S (k_X8_judge N g H T S a0 x1 x2 x3) := by
  exact kpb_X8_judge_0 (X := fun F => F = k_X8_judge N g H T S a0 x1 x2 x3) (fun S' h1 h2 h => by rw [← h]; exact ⟨h1, h2⟩) hS Mono.rfl' t_x0 ok rfl

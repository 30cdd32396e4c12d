set_option maxRecDepth 100000 in
set_option maxHeartbeats 4000000 in
theorem k5b_X7_ring_76 {u g H T N : Nat} {S : cS} {S0 : cS} {R_ : Prop} {X : cS → Prop} (hR : ∀ S', St u g H T S' → M5 g H S0 S' → X S' → R_) (hS : St u g H T S) (hM : M5 g H S0 S) (ok : KO_X7_ring_76 N g H T S) (hx : X (KF_X7_ring_76 N g H T S)) : R_ := by
  unfold KO_X7_ring_76 at ok
  unfold KF_X7_ring_76 at hx
  exact hR _ hS hM hx
set_option maxRecDepth 100000 in
set_option maxHeartbeats 4000000 in
theorem k5b_X7_ring_52 {u g H T N : Nat} {S : cS} {S0 : cS} {R_ : Prop} {X : cS → Prop} (hR : ∀ S', St u g H T S' → M5 g H S0 S' → X S' → R_) {x0 : Option Nat} {x1 : Int32} (hS : St u g H T S) (hM : M5 g H S0 S) (t_x0 : tN g H x0) (ok : KO_X7_ring_52 N g H T x0 x1 S) (hx : X (KF_X7_ring_52 N g H T x0 x1 S)) : R_ := by
  unfold KO_X7_ring_52 at ok
  unfold KF_X7_ring_52 at hx
  refine pif_n ok (fun c_54 => ?_) (fun c_54 => ?_)
  · have ok := ok.2 c_54
    have hx := xif_n c_54 hx
    exact k5b_X7_ring_76 hR hS hM  ok hx
  · have ok := ok.1 c_54
    have hx := xif_p c_54 hx
    have nn_58 := ok.1
    have ok := ok.2
    refine pif_p ok (fun c_63 => ?_) (fun c_63 => ?_)
    · have ok := ok.1 c_63
      have hx := xif_p c_63 hx
      exact k5b_X7_ring_76 hR hS hM  ok hx
    · have ok := ok.2 c_63
      have hx := xif_n c_63 hx
      have hS := hS.I 18 (za x0) ((cI S 10 (za x0)) + (nI 1))
      have hM := hM.I 18 (za x0) ((cI S 10 (za x0)) + (nI 1))
      exact k5b_X7_ring_76 hR hS hM  ok hx
set_option maxRecDepth 100000 in
set_option maxHeartbeats 4000000 in
theorem k5b_X7_ring_49 {u g H T N : Nat} {S : cS} {S0 : cS} {R_ : Prop} {X : cS → Prop} (hR : ∀ S', St u g H T S' → M5 g H S0 S' → X S' → R_) (hS : St u g H T S) (hM : M5 g H S0 S) (ok : KO_X7_ring_49 N g H T S) (hx : X (KF_X7_ring_49 N g H T S)) : R_ := by
  unfold KO_X7_ring_49 at ok
  unfold KF_X7_ring_49 at hx
  exact k5b_X7_ring_76 hR hS hM  ok hx
set_option maxRecDepth 100000 in
set_option maxHeartbeats 4000000 in
theorem k5b_X7_ring_45 {u g H T N : Nat} {S : cS} {S0 : cS} {R_ : Prop} {X : cS → Prop} (hR : ∀ S', St u g H T S' → M5 g H S0 S' → X S' → R_) {s0 : Option Nat} {s1 : Option Nat} (hS : St u g H T S) (hM : M5 g H S0 S) (t_s0 : tN g H s0) (t_s1 : tK S 5 s1) (ok : KO_X7_ring_45 N g H T s0 s1 S) (hx : X (KF_X7_ring_45 N g H T s0 s1 S)) : R_ := by
  unfold KO_X7_ring_45 at ok
  unfold KF_X7_ring_45 at hx
  obtain ⟨hS, hm_46⟩ := k5c_X7_utter hS t_s0 t_s1 ok.1
  have hM := hM.trans hm_46
  have ok := ok.2
  exact k5b_X7_ring_49 hR hS hM  ok hx
set_option maxRecDepth 100000 in
set_option maxHeartbeats 4000000 in
theorem k5b_X7_ring_25 {u g H T N : Nat} {S : cS} {S0 : cS} {R_ : Prop} {X : cS → Prop} (hR : ∀ S', St u g H T S' → M5 g H S0 S' → X S' → R_) {x0 : Option Nat} {x1 : Int32} (hS : St u g H T S) (hM : M5 g H S0 S) (t_x0 : tN g H x0) (ok : KO_X7_ring_25 N g H T x0 x1 S) (hx : X (KF_X7_ring_25 N g H T x0 x1 S)) : R_ := by
  unfold KO_X7_ring_25 at ok
  unfold KF_X7_ring_25 at hx
  refine pif_n ok (fun c_27 => ?_) (fun c_27 => ?_)
  · have ok := ok.2 c_27
    have hx := xif_n c_27 hx
    exact k5b_X7_ring_52 hR hS hM t_x0 ok hx
  · have ok := ok.1 c_27
    have hx := xif_p c_27 hx
    have nn_31 := ok.1
    have ok := ok.2
    refine pif_n ok (fun c_35 => ?_) (fun c_35 => ?_)
    · have ok := ok.2 c_35
      have hx := xif_n c_35 hx
      exact k5b_X7_ring_52 hR hS hM t_x0 ok hx
    · have ok := ok.1 c_35
      have hx := xif_p c_35 hx
      obtain ⟨hS, hm_42, tv_42⟩ := k5c_X6_vote hS (tN.o t_x0 nn_31) tK_none ok.1
      have hM := hM.trans hm_42
      have ok := ok.2
      exact k5b_X7_ring_45 hR hS hM t_x0 tv_42 ok hx
set_option maxRecDepth 100000 in
set_option maxHeartbeats 4000000 in
theorem k5b_X7_ring_22 {u g H T N : Nat} {S : cS} {S0 : cS} {R_ : Prop} {X : cS → Prop} (hR : ∀ S', St u g H T S' → M5 g H S0 S' → X S' → R_) (hS : St u g H T S) (hM : M5 g H S0 S) (ok : KO_X7_ring_22 N g H T S) (hx : X (KF_X7_ring_22 N g H T S)) : R_ := by
  unfold KO_X7_ring_22 at ok
  unfold KF_X7_ring_22 at hx
  exact k5b_X7_ring_76 hR hS hM  ok hx
set_option maxRecDepth 100000 in
set_option maxHeartbeats 4000000 in
theorem k5b_X7_ring_18 {u g H T N : Nat} {S : cS} {S0 : cS} {R_ : Prop} {X : cS → Prop} (hR : ∀ S', St u g H T S' → M5 g H S0 S' → X S' → R_) {s0 : Option Nat} {s1 : Option Nat} (hS : St u g H T S) (hM : M5 g H S0 S) (t_s0 : tN g H s0) (t_s1 : tK S 5 s1) (ok : KO_X7_ring_18 N g H T s0 s1 S) (hx : X (KF_X7_ring_18 N g H T s0 s1 S)) : R_ := by
  unfold KO_X7_ring_18 at ok
  unfold KF_X7_ring_18 at hx
  obtain ⟨hS, hm_19⟩ := k5c_X7_utter hS t_s0 t_s1 ok.1
  have hM := hM.trans hm_19
  have ok := ok.2
  exact k5b_X7_ring_22 hR hS hM  ok hx
set_option maxRecDepth 100000 in
set_option maxHeartbeats 4000000 in
theorem k5b_X7_ring_0 {u g H T N : Nat} {S : cS} {S0 : cS} {R_ : Prop} {X : cS → Prop} (hR : ∀ S', St u g H T S' → M5 g H S0 S' → X S' → R_) {x0 : Option Nat} {x1 : Int32} (hS : St u g H T S) (hM : M5 g H S0 S) (t_x0 : tN g H x0) (ok : KO_X7_ring_0 N g H T x0 x1 S) (hx : X (KF_X7_ring_0 N g H T x0 x1 S)) : R_ := by
  unfold KO_X7_ring_0 at ok
  unfold KF_X7_ring_0 at hx
  refine pif_n ok (fun c_1 => ?_) (fun c_1 => ?_)
  · have ok := ok.2 c_1
    have hx := xif_n c_1 hx
    exact k5b_X7_ring_25 hR hS hM t_x0 ok hx
  · have ok := ok.1 c_1
    have hx := xif_p c_1 hx
    have nn_5 := ok.1
    have ok := ok.2
    refine pif_n ok (fun c_8 => ?_) (fun c_8 => ?_)
    · have ok := ok.2 c_8
      have hx := xif_n c_8 hx
      exact k5b_X7_ring_25 hR hS hM t_x0 ok hx
    · have ok := ok.1 c_8
      have hx := xif_p c_8 hx
      obtain ⟨hS, hm_15, tv_15⟩ := k5c_X6_vote hS (tN.o t_x0 nn_5) tK_none ok.1
      have hM := hM.trans hm_15
      have ok := ok.2
      exact k5b_X7_ring_18 hR hS hM t_x0 tv_15 ok hx
set_option maxRecDepth 100000 in
set_option maxHeartbeats 4000000 in
theorem k5c_X7_ring {u g H T N : Nat} {S : cS} {x0 : Option Nat} {x1 : Int32} (hS : St u g H T S) (t_x0 : tN g H x0) (ok : p_X7_ring N g H T S x0 x1) : St u g H T (k_X7_ring N g H T S x0 x1) ∧ M5 g H S (k_X7_ring N g H T S x0 x1) := by
  exact k5b_X7_ring_0 (X := fun F => F = k_X7_ring N g H T S x0 x1) (fun S' h1 h2 h => by rw [← h]; exact ⟨h1, h2⟩) hS M5.rfl' t_x0 ok rfl
set_option maxRecDepth 100000 in
set_option maxHeartbeats 4000000 in
theorem k5b_X9_take_98 {u g H T N : Nat} {S : cS} {S0 : cS} {R_ : Prop} {X : Option Nat × cS → Prop} (hR : ∀ v S', St u g H T S' → M5 g H S0 S' → tK S' 5 v → X (v, S') → R_) {x0 : Nat} {x2 : Int32} {x3 : Option Nat} (hS : St u g H T S) (hM : M5 g H S0 S) (t_x0 : isO g H 7 x0) (t_x3 : tK S 5 x3) (ok : KO_X9_take_98 N g H T x0 x2 x3 S) (hx : X (KF_X9_take_98 N g H T x0 x2 x3 S)) : R_ := by
  unfold KO_X9_take_98 at ok
  unfold KF_X9_take_98 at hx
  have tq_107 : tK S 21 (some (x0 + 2)) := tK_some (tK.cis (hS.rk (c := 7) (k := 1) t_x0 rfl (by omega)) (Option.some_ne_none _)).2
  have hS := hS.Aw (k := 21) (x0 + 2) (cI S 9 x0).toNatClampNeg x2 tq_107 (by decide)
  have hM := hM.A (x0 + 2) (cI S 9 x0).toNatClampNeg x2
  have ok := ok.2
  exact hR _ _ hS hM (tK_A t_x3) hx
set_option maxRecDepth 100000 in
set_option maxHeartbeats 4000000 in
theorem k5b_X9_take_74 {u g H T N : Nat} {S : cS} {S0 : cS} {R_ : Prop} {X : Option Nat × cS → Prop} (hR : ∀ v S', St u g H T S' → M5 g H S0 S' → tK S' 5 v → X (v, S') → R_) {x0 : Nat} {x2 : Int32} {x3 : Option Nat} (hS : St u g H T S) (hM : M5 g H S0 S) (t_x0 : isO g H 7 x0) (t_x3 : tK S 5 x3) (ok : KO_X9_take_74 N g H T x0 x2 x3 S) (hx : X (KF_X9_take_74 N g H T x0 x2 x3 S)) : R_ := by
  unfold KO_X9_take_74 at ok
  unfold KF_X9_take_74 at hx
  have hS := hS.I 6 x0 (((cI S 6 x0) + (nI 1)) &&& (nI 1023))
  have hM := hM.I 6 x0 (((cI S 6 x0) + (nI 1)) &&& (nI 1023))
  have hS := hS.I 9 x0 ((cI (csI S 6 x0 (((cI S 6 x0) + (nI 1)) &&& (nI 1023))) 9 x0) - (nI 1))
  have hM := hM.I 9 x0 ((cI (csI S 6 x0 (((cI S 6 x0) + (nI 1)) &&& (nI 1023))) 9 x0) - (nI 1))
  exact k5b_X9_take_98 hR hS hM t_x0 (tK_I (tK_I t_x3)) ok hx
set_option maxRecDepth 100000 in
set_option maxHeartbeats 4000000 in
theorem k5bb_X9_take_29 {u g H T N : Nat} {S : cS} {S0 : cS} {R_ : Prop} {X : Nat × Nat × Int32 × Option Nat × cS → Prop} (hX0 : ∀ (x0 : Nat) (x2 : Int32) (x3 : Option Nat) (S' : cS), St u g H T S' → M5 g H S0 S' → isO g H 7 x0 → tK S' 5 x3 → X (0, x0, x2, x3, S') → R_) {rec : Nat → Int32 → Option Nat → Int32 → cS → Nat × Nat × Int32 × Option Nat × cS} {rok : Nat → Int32 → Option Nat → Int32 → cS → Prop} (hrec : ∀ (x0 : Nat) (x2 : Int32) (x3 : Option Nat) (x4 : Int32) (S : cS), St u g H T S → M5 g H S0 S → isO g H 7 x0 → tK S 5 x3 → rok x0 x2 x3 x4 S → X (rec x0 x2 x3 x4 S) → R_) {x0 : Nat} {x2 : Int32} {x3 : Option Nat} {x4 : Int32} (hS : St u g H T S) (hM : M5 g H S0 S) (t_x0 : isO g H 7 x0) (t_x3 : tK S 5 x3) (ok : KOB_X9_take_29 N g H T rok x0 x2 x3 x4 S) (hx : X (KB_X9_take_29 N g H T rec x0 x2 x3 x4 S)) : R_ := by
  unfold KOB_X9_take_29 at ok
  unfold KB_X9_take_29 at hx
  refine pif_p ok (fun c_31 => ?_) (fun c_31 => ?_)
  · have ok := ok.1 c_31
    have hx := xif_p c_31 hx
    exact hX0 _ _ _ S hS hM t_x0 t_x3 hx
  · have ok := ok.2 c_31
    have hx := xif_n c_31 hx
    have ok := ok.2
    have tq_67 : tK S 21 (some (x0 + 1)) := tK_some (tK.cis (hS.rk (c := 7) (k := 0) t_x0 rfl (by omega)) (Option.some_ne_none _)).2
    have hS := hS.Aw (k := 21) (x0 + 1) (((cI S 6 x0) + x4) &&& (nI 1023)).toNatClampNeg (cA S (x0 + 1) ((((cI S 6 x0) + x4) - (nI 1)) &&& (nI 1023)).toNatClampNeg) tq_67 (by decide)
    have hM := hM.A (x0 + 1) (((cI S 6 x0) + x4) &&& (nI 1023)).toNatClampNeg (cA S (x0 + 1) ((((cI S 6 x0) + x4) - (nI 1)) &&& (nI 1023)).toNatClampNeg)
    have ok := ok.2
    exact hrec _ _ _ _ (csA S (x0 + 1) (((cI S 6 x0) + x4) &&& (nI 1023)).toNatClampNeg (cA S (x0 + 1) ((((cI S 6 x0) + x4) - (nI 1)) &&& (nI 1023)).toNatClampNeg)) hS hM t_x0 (tK_A t_x3) ok hx
set_option maxRecDepth 100000 in
set_option maxHeartbeats 4000000 in
theorem k5l_X9_take_29 {u g H T N : Nat} {S0 : cS} {R_ : Prop} {X : Nat × Nat × Int32 × Option Nat × cS → Prop} (hX0 : ∀ (x0 : Nat) (x2 : Int32) (x3 : Option Nat) (S' : cS), St u g H T S' → M5 g H S0 S' → isO g H 7 x0 → tK S' 5 x3 → X (0, x0, x2, x3, S') → R_) : ∀ (n : Nat) (x0 : Nat) (x2 : Int32) (x3 : Option Nat) (x4 : Int32) (S : cS), St u g H T S → M5 g H S0 S → isO g H 7 x0 → tK S 5 x3 → KOL_X9_take_29 N g H T n x0 x2 x3 x4 S → X (KL_X9_take_29 N g H T n x0 x2 x3 x4 S) → R_ := by
  intro n
  induction n with
  | zero => intro x0 x2 x3 x4 S hS hM t_x0 t_x3 ok; exact absurd ok id
  | succ n ih =>
    intro x0 x2 x3 x4 S hS hM t_x0 t_x3 ok hx
    exact k5bb_X9_take_29 hX0 (rec := KL_X9_take_29 N g H T n) (rok := KOL_X9_take_29 N g H T n) (fun x0 x2 x3 x4 S hS hM t_x0 t_x3 ok hx => ih x0 x2 x3 x4 S hS hM t_x0 t_x3 ok hx) hS hM t_x0 t_x3 ok hx
set_option maxRecDepth 100000 in
set_option maxHeartbeats 4000000 in
theorem k5d_X9_take_29 {u g H T N : Nat} {S : cS} {S0 : cS} {R_ : Prop} {X : Option Nat × cS → Prop} (hR : ∀ v S', St u g H T S' → M5 g H S0 S' → tK S' 5 v → X (v, S') → R_) {x0 : Nat} {x2 : Int32} {x3 : Option Nat} {x4 : Int32} (hS : St u g H T S) (hM : M5 g H S0 S) (t_x0 : isO g H 7 x0) (t_x3 : tK S 5 x3) (ok : KOL_X9_take_29 N g H T N x0 x2 x3 x4 S ∧ KOA_X9_take_29 N g H T x0 x2 x3 x4 S (KL_X9_take_29 N g H T N x0 x2 x3 x4 S)) (hx : X (KA_X9_take_29 N g H T x0 x2 x3 x4 S (KL_X9_take_29 N g H T N x0 x2 x3 x4 S))) : R_ := by
  refine k5l_X9_take_29 ?_ N x0 x2 x3 x4 S hS hM t_x0 t_x3 ok.1 (X := fun z => KOA_X9_take_29 N g H T x0 x2 x3 x4 S z ∧ X (KA_X9_take_29 N g H T x0 x2 x3 x4 S z)) ⟨ok.2, hx⟩
  · intro x0' x2' x3' S' hS hM t_x0 t_x3 hz
    obtain ⟨ok, hx⟩ := hz
    unfold KOA_X9_take_29 at ok
    unfold KA_X9_take_29 at hx
    exact k5b_X9_take_74 hR hS hM t_x0 t_x3 ok hx
set_option maxRecDepth 100000 in
set_option maxHeartbeats 4000000 in
theorem k5b_X9_take_0 {u g H T N : Nat} {S : cS} {S0 : cS} {R_ : Prop} {X : Option Nat × cS → Prop} (hR : ∀ v S', St u g H T S' → M5 g H S0 S' → tK S' 5 v → X (v, S') → R_) {x0 : Nat} {x1 : Int32} (hS : St u g H T S) (hM : M5 g H S0 S) (t_x0 : isO g H 7 x0) (ok : KO_X9_take_0 N g H T x0 x1 S) (hx : X (KF_X9_take_0 N g H T x0 x1 S)) : R_ := by
  unfold KO_X9_take_0 at ok
  unfold KF_X9_take_0 at hx
  have ok := ok.2
  refine pif_p ok (fun c_7 => ?_) (fun c_7 => ?_)
  · have ok := ok.1 c_7
    have hx := xif_p c_7 hx
    have p_17 := hS.row24 (hS.rk (c := 7) (k := 5) t_x0 rfl (by omega)) (k_X9_slot N g H T S x0 x1).toNatClampNeg
    have ok := ok.2
    have hS2 := hS.P24 (i := (k_X9_slot N g H T S x0 x1).toNatClampNeg) ((hS.rk (c := 7) (k := 5) t_x0 rfl (by omega)) _ rfl) tK_none
    have hS := hS2
    have hM := hM.P (x0 + 6) (k_X9_slot N g H T S x0 x1).toNatClampNeg (none : Option Nat)
    have ok := ok.2
    exact k5d_X9_take_29 hR hS hM t_x0 (tK_P p_17) ok hx
  · have ok := ok.2 c_7
    have hx := xif_n c_7 hx
    exact hR _ _ hS hM tK_none hx
set_option maxRecDepth 100000 in
set_option maxHeartbeats 4000000 in
theorem k5c_X9_take {u g H T N : Nat} {S : cS} {a0 : Nat} {x1 : Int32} (hS : St u g H T S) (t_x0 : isO g H 7 a0) (ok : p_X9_take N g H T S a0 x1) : St u g H T (k_X9_take N g H T S a0 x1).2 ∧ M5 g H S (k_X9_take N g H T S a0 x1).2 ∧ tK (k_X9_take N g H T S a0 x1).2 5 (k_X9_take N g H T S a0 x1).1 := by
  exact k5b_X9_take_0 (X := fun F => F = k_X9_take N g H T S a0 x1) (fun v S' h1 h2 h3 h => by rw [← h]; exact ⟨h1, h2, h3⟩) hS M5.rfl' t_x0 ok rfl

set_option maxRecDepth 100000 in
set_option maxHeartbeats 4000000 in
theorem k5b_X5_writeId_54 {u g H T N : Nat} {S : cS} {S0 : cS} {R_ : Prop} {X : cS → Prop} (hR : ∀ S', St u g H T S' → M5 g H S0 S' → X S' → R_) (hS : St u g H T S) (hM : M5 g H S0 S) (ok : KO_X5_writeId_54 N g H T S) (hx : X (KF_X5_writeId_54 N g H T S)) : R_ := by
  unfold KO_X5_writeId_54 at ok
  unfold KF_X5_writeId_54 at hx
  exact hR _ hS hM hx
set_option maxRecDepth 100000 in
set_option maxHeartbeats 4000000 in
theorem k5b_X5_writeId_48 {u g H T N : Nat} {S : cS} {S0 : cS} {R_ : Prop} {X : Nat × cS → Prop} (hX0 : ∀ (S' : cS), St u g H T S' → M5 g H S0 S' → X (0, S') → R_) {rec : Option Nat → Option Nat → Int32 → Int32 → cS → Nat × cS} {rok : Option Nat → Option Nat → Int32 → Int32 → cS → Prop} (hrec : ∀ (x0 : Option Nat) (x1 : Option Nat) (x2 : Int32) (x3 : Int32) (S : cS), St u g H T S → M5 g H S0 S → tK S 5 x0 → tK S 20 x1 → rok x0 x1 x2 x3 S → X (rec x0 x1 x2 x3 S) → R_) {x0 : Option Nat} {x1 : Option Nat} {x2 : Int32} {x3 : Int32} (hS : St u g H T S) (hM : M5 g H S0 S) (t_x0 : tK S 5 x0) (t_x1 : tK S 20 x1) (ok : KO_X5_writeId_48 N g H T rok x0 x1 x2 x3 S) (hx : X (KF_X5_writeId_48 N g H T rec x0 x1 x2 x3 S)) : R_ := by
  unfold KO_X5_writeId_48 at ok
  unfold KF_X5_writeId_48 at hx
  exact hrec _ _ _ _ S hS hM t_x0 t_x1 ok hx
set_option maxRecDepth 100000 in
set_option maxHeartbeats 4000000 in
theorem k5bb_X5_writeId_16 {u g H T N : Nat} {S : cS} {S0 : cS} {R_ : Prop} {X : Nat × cS → Prop} (hX0 : ∀ (S' : cS), St u g H T S' → M5 g H S0 S' → X (0, S') → R_) {rec : Option Nat → Option Nat → Int32 → Int32 → cS → Nat × cS} {rok : Option Nat → Option Nat → Int32 → Int32 → cS → Prop} (hrec : ∀ (x0 : Option Nat) (x1 : Option Nat) (x2 : Int32) (x3 : Int32) (S : cS), St u g H T S → M5 g H S0 S → tK S 5 x0 → tK S 20 x1 → rok x0 x1 x2 x3 S → X (rec x0 x1 x2 x3 S) → R_) {x0 : Option Nat} {x1 : Option Nat} {x2 : Int32} {x3 : Int32} (hS : St u g H T S) (hM : M5 g H S0 S) (t_x0 : tK S 5 x0) (t_x1 : tK S 20 x1) (ok : KOB_X5_writeId_16 N g H T rok x0 x1 x2 x3 S) (hx : X (KB_X5_writeId_16 N g H T rec x0 x1 x2 x3 S)) : R_ := by
  unfold KOB_X5_writeId_16 at ok
  unfold KB_X5_writeId_16 at hx
  refine pif_p ok (fun c_19 => ?_) (fun c_19 => ?_)
  · have ok := ok.1 c_19
    have hx := xif_p c_19 hx
    exact hX0 S hS hM  hx
  · have ok := ok.2 c_19
    have hx := xif_n c_19 hx
    have nn_27 := ok.1
    have p_27 := hS.m1k t_x0 ok.1
    have q_27 := hS.m1l t_x0 ok.1
    have ok := ok.2
    have ok := ok.2
    have hS := hS.Ab (za x1) (x2 + x3).toNatClampNeg ((Int64.toInt32 ((cJ S ((za x0) + 1) (x3 >>> ((nI 3) &&& 31)).toNatClampNeg) >>> (Int32.toInt64 ((nI 56) - ((nI 8) * (x3 &&& (nI 7)))) &&& 63))).toInt8.toInt32)
    have hM := hM.A (za x1) (x2 + x3).toNatClampNeg (((Int64.toInt32 ((cJ S ((za x0) + 1) (x3 >>> ((nI 3) &&& 31)).toNatClampNeg) >>> (Int32.toInt64 ((nI 56) - ((nI 8) * (x3 &&& (nI 7)))) &&& 63))).toInt8.toInt32).toInt8.toInt32)
    have ok := ok.2
    exact k5b_X5_writeId_48 hX0 hrec hS hM (tK_A t_x0) (tK_A t_x1) ok hx
set_option maxRecDepth 100000 in
set_option maxHeartbeats 4000000 in
theorem k5l_X5_writeId_16 {u g H T N : Nat} {S0 : cS} {R_ : Prop} {X : Nat × cS → Prop} (hX0 : ∀ (S' : cS), St u g H T S' → M5 g H S0 S' → X (0, S') → R_) : ∀ (n : Nat) (x0 : Option Nat) (x1 : Option Nat) (x2 : Int32) (x3 : Int32) (S : cS), St u g H T S → M5 g H S0 S → tK S 5 x0 → tK S 20 x1 → KOL_X5_writeId_16 N g H T n x0 x1 x2 x3 S → X (KL_X5_writeId_16 N g H T n x0 x1 x2 x3 S) → R_ := by
  intro n
  induction n with
  | zero => intro x0 x1 x2 x3 S hS hM t_x0 t_x1 ok; exact absurd ok id
  | succ n ih =>
    intro x0 x1 x2 x3 S hS hM t_x0 t_x1 ok hx
    exact k5bb_X5_writeId_16 hX0 (rec := KL_X5_writeId_16 N g H T n) (rok := KOL_X5_writeId_16 N g H T n) (fun x0 x1 x2 x3 S hS hM t_x0 t_x1 ok hx => ih x0 x1 x2 x3 S hS hM t_x0 t_x1 ok hx) hS hM t_x0 t_x1 ok hx
set_option maxRecDepth 100000 in
set_option maxHeartbeats 4000000 in
theorem k5d_X5_writeId_16 {u g H T N : Nat} {S : cS} {S0 : cS} {R_ : Prop} {X : cS → Prop} (hR : ∀ S', St u g H T S' → M5 g H S0 S' → X S' → R_) {x0 : Option Nat} {x1 : Option Nat} {x2 : Int32} {x3 : Int32} (hS : St u g H T S) (hM : M5 g H S0 S) (t_x0 : tK S 5 x0) (t_x1 : tK S 20 x1) (ok : KOL_X5_writeId_16 N g H T N x0 x1 x2 x3 S ∧ KOA_X5_writeId_16 N g H T x0 x1 x2 x3 S (KL_X5_writeId_16 N g H T N x0 x1 x2 x3 S)) (hx : X (KA_X5_writeId_16 N g H T x0 x1 x2 x3 S (KL_X5_writeId_16 N g H T N x0 x1 x2 x3 S))) : R_ := by
  refine k5l_X5_writeId_16 ?_ N x0 x1 x2 x3 S hS hM t_x0 t_x1 ok.1 (X := fun z => KOA_X5_writeId_16 N g H T x0 x1 x2 x3 S z ∧ X (KA_X5_writeId_16 N g H T x0 x1 x2 x3 S z)) ⟨ok.2, hx⟩
  · intro S' hS hM hz
    obtain ⟨ok, hx⟩ := hz
    unfold KOA_X5_writeId_16 at ok
    unfold KA_X5_writeId_16 at hx
    exact k5b_X5_writeId_54 hR hS hM  ok hx
set_option maxRecDepth 100000 in
set_option maxHeartbeats 4000000 in
theorem k5b_X5_writeId_13 {u g H T N : Nat} {S : cS} {S0 : cS} {R_ : Prop} {X : cS → Prop} (hR : ∀ S', St u g H T S' → M5 g H S0 S' → X S' → R_) (hS : St u g H T S) (hM : M5 g H S0 S) (ok : KO_X5_writeId_13 N g H T S) (hx : X (KF_X5_writeId_13 N g H T S)) : R_ := by
  unfold KO_X5_writeId_13 at ok
  unfold KF_X5_writeId_13 at hx
  exact hR _ hS hM hx
set_option maxRecDepth 100000 in
set_option maxHeartbeats 4000000 in
theorem k5b_X5_writeId_0 {u g H T N : Nat} {S : cS} {S0 : cS} {R_ : Prop} {X : cS → Prop} (hR : ∀ S', St u g H T S' → M5 g H S0 S' → X S' → R_) {x0 : Option Nat} {x1 : Option Nat} {x2 : Int32} (hS : St u g H T S) (hM : M5 g H S0 S) (t_x0 : tK S 5 x0) (t_x1 : tK S 20 x1) (ok : KO_X5_writeId_0 N g H T x0 x1 x2 S) (hx : X (KF_X5_writeId_0 N g H T x0 x1 x2 S)) : R_ := by
  unfold KO_X5_writeId_0 at ok
  unfold KF_X5_writeId_0 at hx
  refine pif_p ok (fun c_1 => ?_) (fun c_1 => ?_)
  · have ok := ok.1 c_1
    have hx := xif_p c_1 hx
    exact k5b_X5_writeId_13 hR hS hM  ok hx
  · have ok := ok.2 c_1
    have hx := xif_n c_1 hx
    have ok := ok.2
    refine pif_p ok (fun c_10 => ?_) (fun c_10 => ?_)
    · have ok := ok.1 c_10
      have hx := xif_p c_10 hx
      exact k5d_X5_writeId_16 hR hS hM t_x0 t_x1 ok hx
    · have ok := ok.2 c_10
      have hx := xif_n c_10 hx
      exact k5b_X5_writeId_13 hR hS hM  ok hx
set_option maxRecDepth 100000 in
set_option maxHeartbeats 4000000 in
theorem k5c_X5_writeId {u g H T N : Nat} {S : cS} {a0 : Nat} {x1 : Option Nat} {x2 : Int32} (hS : St u g H T S) (t_x0 : cK S a0 = 5) (t_x1 : tK S 20 x1) (ok : p_X5_writeId N g H T S a0 x1 x2) : St u g H T (k_X5_writeId N g H T S a0 x1 x2) ∧ M5 g H S (k_X5_writeId N g H T S a0 x1 x2) := by
  exact k5b_X5_writeId_0 (X := fun F => F = k_X5_writeId N g H T S a0 x1 x2) (fun S' h1 h2 h => by rw [← h]; exact ⟨h1, h2⟩) hS M5.rfl' (tK_some t_x0) t_x1 ok rfl
set_option maxRecDepth 100000 in
set_option maxHeartbeats 4000000 in
theorem k5b_X3_accuse_223 {u g H T N : Nat} {S : cS} {S0 : cS} {R_ : Prop} {X : cS → Prop} (hR : ∀ S', St u g H T S' → M5 g H S0 S' → X S' → R_) {x0 : Option Nat} {x5 : Option Nat} (hS : St u g H T S) (hM : M5 g H S0 S) (t_x0 : tN g H x0) (t_x5 : tK S 5 x5) (ok : KO_X3_accuse_223 N g H T x0 x5 S) (hx : X (KF_X3_accuse_223 N g H T x0 x5 S)) : R_ := by
  unfold KO_X3_accuse_223 at ok
  unfold KF_X3_accuse_223 at hx
  have nn_224 := ok.1
  have ok := ok.2
  obtain ⟨hS, hm_232⟩ := k5c_X9_drop hS (o86 (o50 (tN.o t_x0 nn_224))) t_x5 ok.1
  have hM := hM.trans hm_232
  have ok := ok.2
  exact hR _ hS hM hx
set_option maxRecDepth 100000 in
set_option maxHeartbeats 4000000 in
theorem k5b_X3_accuse_201 {u g H T N : Nat} {S : cS} {S0 : cS} {R_ : Prop} {X : cS → Prop} (hR : ∀ S', St u g H T S' → M5 g H S0 S' → X S' → R_) {x0 : Option Nat} {x5 : Option Nat} {s0 : Int32} (hS : St u g H T S) (hM : M5 g H S0 S) (t_x0 : tN g H x0) (t_x5 : tK S 5 x5) (ok : KO_X3_accuse_201 N g H T x0 x5 s0 S) (hx : X (KF_X3_accuse_201 N g H T x0 x5 s0 S)) : R_ := by
  unfold KO_X3_accuse_201 at ok
  unfold KF_X3_accuse_201 at hx
  have nn_203 := ok.1
  have ok := ok.2
  obtain ⟨hS, hm_220⟩ := k5c_X10_spread hS (o50 (tN.o t_x0 nn_203)) t_x5 ok.1
  have hM := hM.trans hm_220
  have ok := ok.2
  exact k5b_X3_accuse_223 hR hS hM t_x0 (hm_220.tK t_x5 (by decide)) ok hx
set_option maxRecDepth 100000 in
set_option maxHeartbeats 4000000 in
theorem k5b_X3_accuse_192 {u g H T N : Nat} {S : cS} {S0 : cS} {R_ : Prop} {X : cS → Prop} (hR : ∀ S', St u g H T S' → M5 g H S0 S' → X S' → R_) {x0 : Option Nat} {x5 : Option Nat} (hS : St u g H T S) (hM : M5 g H S0 S) (t_x0 : tN g H x0) (t_x5 : tK S 5 x5) (ok : KO_X3_accuse_192 N g H T x0 x5 S) (hx : X (KF_X3_accuse_192 N g H T x0 x5 S)) : R_ := by
  unfold KO_X3_accuse_192 at ok
  unfold KF_X3_accuse_192 at hx
  have nn_193 := ok.1
  have ok := ok.2
  obtain ⟨hS, hm_198⟩ := k5c_X8_addProof hS (o53 (tN.o t_x0 nn_193)) t_x5 ok.1
  have hM := hM.trans hm_198
  have ok := ok.2
  exact k5b_X3_accuse_201 hR hS hM t_x0 (hm_198.tK t_x5 (by decide)) ok hx
set_option maxRecDepth 100000 in
set_option maxHeartbeats 4000000 in
theorem k5b_X3_accuse_167 {u g H T N : Nat} {S : cS} {S0 : cS} {R_ : Prop} {X : cS → Prop} (hR : ∀ S', St u g H T S' → M5 g H S0 S' → X S' → R_) {x0 : Option Nat} {x4 : Option Nat} {x5 : Option Nat} {s0 : Int32} (hS : St u g H T S) (hM : M5 g H S0 S) (t_x0 : tN g H x0) (t_x4 : tK S 5 x4) (t_x5 : tK S 5 x5) (ok : KO_X3_accuse_167 N g H T x0 x4 x5 s0 S) (hx : X (KF_X3_accuse_167 N g H T x0 x4 x5 s0 S)) : R_ := by
  unfold KO_X3_accuse_167 at ok
  unfold KF_X3_accuse_167 at hx
  have nn_171 := ok.1
  have p_171 := hS.m0k t_x5 ok.1
  have ok := ok.2
  have hS := hS.Ab ((za x5) + 2) s0.toNatClampNeg (nI 1)
  have hM := hM.A ((za x5) + 2) s0.toNatClampNeg ((nI 1).toInt8.toInt32)
  have ok := ok.2
  have p_182 := hS.m0k (tK_A t_x5) nn_171
  have nn_189 := ok.1.1
  obtain ⟨hS, hm_189⟩ := k5c_X5_writeId hS ((tK_A t_x4) _ (za_of nn_189)) p_182 ok.1.2
  have hM := hM.trans hm_189
  have ok := ok.2
  exact k5b_X3_accuse_192 hR hS hM t_x0 (hm_189.tK (tK_A t_x5) (by decide)) ok hx
set_option maxRecDepth 100000 in
set_option maxHeartbeats 4000000 in
theorem k5b_X3_accuse_153 {u g H T N : Nat} {S : cS} {S0 : cS} {R_ : Prop} {X : cS → Prop} (hR : ∀ S', St u g H T S' → M5 g H S0 S' → X S' → R_) {x0 : Option Nat} {x3 : Option Nat} {x4 : Option Nat} {x5 : Option Nat} (hS : St u g H T S) (hM : M5 g H S0 S) (t_x0 : tN g H x0) (t_x3 : tK S 5 x3) (t_x4 : tK S 5 x4) (t_x5 : tK S 5 x5) (ok : KO_X3_accuse_153 N g H T x0 x3 x4 x5 S) (hx : X (KF_X3_accuse_153 N g H T x0 x3 x4 x5 S)) : R_ := by
  unfold KO_X3_accuse_153 at ok
  unfold KF_X3_accuse_153 at hx
  have nn_154 := ok.1
  have ok := ok.2
  refine pif_p ok (fun c_157 => ?_) (fun c_157 => ?_)
  · have ok := ok.1 c_157
    have hx := xif_p c_157 hx
    exact k5b_X3_accuse_167 hR hS hM t_x0 t_x4 t_x5 ok hx
  · have ok := ok.2 c_157
    have hx := xif_n c_157 hx
    exact k5b_X3_accuse_167 hR hS hM t_x0 t_x4 t_x5 ok hx
set_option maxRecDepth 100000 in
set_option maxHeartbeats 4000000 in
theorem k5b_X3_accuse_133 {u g H T N : Nat} {S : cS} {S0 : cS} {R_ : Prop} {X : cS → Prop} (hR : ∀ S', St u g H T S' → M5 g H S0 S' → X S' → R_) {x0 : Option Nat} {x3 : Option Nat} {x4 : Option Nat} {x5 : Option Nat} {s0 : Option Nat} {s1 : Int32} {s2 : Int32} (hS : St u g H T S) (hM : M5 g H S0 S) (t_x0 : tN g H x0) (t_x3 : tK S 5 x3) (t_x4 : tK S 5 x4) (t_x5 : tK S 5 x5) (t_s0 : tK S 20 s0) (ok : KO_X3_accuse_133 N g H T x0 x3 x4 x5 s0 s1 s2 S) (hx : X (KF_X3_accuse_133 N g H T x0 x3 x4 x5 s0 s1 s2 S)) : R_ := by
  unfold KO_X3_accuse_133 at ok
  unfold KF_X3_accuse_133 at hx
  have hS := hS.Ab (za s0) s1.toNatClampNeg (s2.toInt8.toInt32)
  have hM := hM.A (za s0) s1.toNatClampNeg ((s2.toInt8.toInt32).toInt8.toInt32)
  have ok := ok.2
  have nn_136 := ok.1
  have ok := ok.2
  refine pif_p ok (fun c_139 => ?_) (fun c_139 => ?_)
  · have ok := ok.1 c_139
    have hx := xif_p c_139 hx
    exact k5b_X3_accuse_153 hR hS hM t_x0 (tK_A t_x3) (tK_A t_x4) (tK_A t_x5) ok hx
  · have ok := ok.2 c_139
    have hx := xif_n c_139 hx
    have nn_145 := ok.1
    have p_145 := hS.m0k (tK_A t_x5) ok.1
    have ok := ok.2
    obtain ⟨hS, hm_150⟩ := k5c_X5_writeId hS ((tK_A t_x3) _ (za_of nn_136)) p_145 ok.1
    have hM := hM.trans hm_150
    have ok := ok.2
    exact k5b_X3_accuse_153 hR hS hM t_x0 (hm_150.tK (tK_A t_x3) (by decide)) (hm_150.tK (tK_A t_x4) (by decide)) (hm_150.tK (tK_A t_x5) (by decide)) ok hx
set_option maxRecDepth 100000 in
set_option maxHeartbeats 4000000 in
theorem k5b_X3_accuse_101 {u g H T N : Nat} {S : cS} {S0 : cS} {R_ : Prop} {X : cS → Prop} (hR : ∀ S', St u g H T S' → M5 g H S0 S' → X S' → R_) {x0 : Option Nat} {x1 : Option Nat} {x3 : Option Nat} {x4 : Option Nat} {x5 : Option Nat} (hS : St u g H T S) (hM : M5 g H S0 S) (t_x0 : tN g H x0) (t_x1 : tK S 5 x1) (t_x3 : tK S 5 x3) (t_x4 : tK S 5 x4) (t_x5 : tK S 5 x5) (ok : KO_X3_accuse_101 N g H T x0 x1 x3 x4 x5 S) (hx : X (KF_X3_accuse_101 N g H T x0 x1 x3 x4 x5 S)) : R_ := by
  unfold KO_X3_accuse_101 at ok
  unfold KF_X3_accuse_101 at hx
  have nn_103 := ok.1
  have p_103 := hS.m0k t_x5 ok.1
  have ok := ok.2
  have nn_109 := ok.1.1
  have ok := ok.2
  have hS := hS.Ab ((za x5) + 2) (nI 5).toNatClampNeg ((k_X5_at N g H T S (za x1) (nI 4)).toInt8.toInt32)
  have hM := hM.A ((za x5) + 2) (nI 5).toNatClampNeg (((k_X5_at N g H T S (za x1) (nI 4)).toInt8.toInt32).toInt8.toInt32)
  have ok := ok.2
  have p_116 := hS.m0k (tK_A t_x5) nn_103
  have nn_122 := ok.1
  have ok := ok.2
  refine pif_p ok (fun c_125 => ?_) (fun c_125 => ?_)
  · have ok := ok.1 c_125
    have hx := xif_p c_125 hx
    exact k5b_X3_accuse_133 hR hS hM t_x0 (tK_A t_x3) (tK_A t_x4) (tK_A t_x5) p_116 ok hx
  · have ok := ok.2 c_125
    have hx := xif_n c_125 hx
    exact k5b_X3_accuse_133 hR hS hM t_x0 (tK_A t_x3) (tK_A t_x4) (tK_A t_x5) p_116 ok hx
set_option maxRecDepth 100000 in
set_option maxHeartbeats 4000000 in
theorem k5b_X3_accuse_75 {u g H T N : Nat} {S : cS} {S0 : cS} {R_ : Prop} {X : cS → Prop} (hR : ∀ S', St u g H T S' → M5 g H S0 S' → X S' → R_) {x0 : Option Nat} {x1 : Option Nat} {x3 : Option Nat} {x4 : Option Nat} {x5 : Option Nat} (hS : St u g H T S) (hM : M5 g H S0 S) (t_x0 : tN g H x0) (t_x1 : tK S 5 x1) (t_x3 : tK S 5 x3) (t_x4 : tK S 5 x4) (t_x5 : tK S 5 x5) (ok : KO_X3_accuse_75 N g H T x0 x1 x3 x4 x5 S) (hx : X (KF_X3_accuse_75 N g H T x0 x1 x3 x4 x5 S)) : R_ := by
  unfold KO_X3_accuse_75 at ok
  unfold KF_X3_accuse_75 at hx
  have nn_77 := ok.1
  have p_77 := hS.m0k t_x5 ok.1
  have ok := ok.2
  have nn_82 := ok.1.1
  have ok := ok.2
  have hS := hS.Ab ((za x5) + 2) (nI 2).toNatClampNeg ((k_X5_kind N g H T S (za x1)).toInt8.toInt32)
  have hM := hM.A ((za x5) + 2) (nI 2).toNatClampNeg (((k_X5_kind N g H T S (za x1)).toInt8.toInt32).toInt8.toInt32)
  have ok := ok.2
  have p_89 := hS.m0k (tK_A t_x5) nn_77
  have ok := ok.2
  obtain ⟨hS, hm_98⟩ := k5c_X11_putTwo hS p_89 ok.1
  have hM := hM.trans hm_98
  have ok := ok.2
  exact k5b_X3_accuse_101 hR hS hM t_x0 (hm_98.tK (tK_A t_x1) (by decide)) (hm_98.tK (tK_A t_x3) (by decide)) (hm_98.tK (tK_A t_x4) (by decide)) (hm_98.tK (tK_A t_x5) (by decide)) ok hx
set_option maxRecDepth 100000 in
set_option maxHeartbeats 4000000 in
theorem k5b_X3_accuse_52 {u g H T N : Nat} {S : cS} {S0 : cS} {R_ : Prop} {X : cS → Prop} (hR : ∀ S', St u g H T S' → M5 g H S0 S' → X S' → R_) {x0 : Option Nat} {x1 : Option Nat} {x3 : Option Nat} {x4 : Option Nat} {s0 : Option Nat} (hS : St u g H T S) (hM : M5 g H S0 S) (t_x0 : tN g H x0) (t_x1 : tK S 5 x1) (t_x3 : tK S 5 x3) (t_x4 : tK S 5 x4) (t_s0 : tK S 5 s0) (ok : KO_X3_accuse_52 N g H T x0 x1 x3 x4 s0 S) (hx : X (KF_X3_accuse_52 N g H T x0 x1 x3 x4 s0 S)) : R_ := by
  unfold KO_X3_accuse_52 at ok
  unfold KF_X3_accuse_52 at hx
  have nn_56 := ok.1
  have p_56 := hS.m0k t_s0 ok.1
  have ok := ok.2
  have hS := hS.Ab ((za s0) + 2) (nI 0).toNatClampNeg (nI 6)
  have hM := hM.A ((za s0) + 2) (nI 0).toNatClampNeg ((nI 6).toInt8.toInt32)
  have ok := ok.2
  have p_65 := hS.m0k (tK_A t_s0) nn_56
  have nn_70 := ok.1.1
  have ok := ok.2
  have hS := hS.Ab ((za s0) + 2) (nI 1).toNatClampNeg ((k_X5_signer N g H T (csA S ((za s0) + 2) (nI 0).toNatClampNeg ((nI 6).toInt8.toInt32)) (za x1)).toInt8.toInt32)
  have hM := hM.A ((za s0) + 2) (nI 1).toNatClampNeg (((k_X5_signer N g H T (csA S ((za s0) + 2) (nI 0).toNatClampNeg ((nI 6).toInt8.toInt32)) (za x1)).toInt8.toInt32).toInt8.toInt32)
  have ok := ok.2
  exact k5b_X3_accuse_75 hR hS hM t_x0 (tK_A (tK_A t_x1)) (tK_A (tK_A t_x3)) (tK_A (tK_A t_x4)) (tK_A (tK_A t_s0)) ok hx
set_option maxRecDepth 100000 in
set_option maxHeartbeats 4000000 in
theorem k5b_X3_accuse_48 {u g H T N : Nat} {S : cS} {S0 : cS} {R_ : Prop} {X : cS → Prop} (hR : ∀ S', St u g H T S' → M5 g H S0 S' → X S' → R_) {x0 : Option Nat} {x1 : Option Nat} {x3 : Option Nat} {x4 : Option Nat} {s0 : Nat} {s1 : Int32} {s2 : Int32} (hS : St u g H T S) (hM : M5 g H S0 S) (t_x0 : tN g H x0) (t_x1 : tK S 5 x1) (t_x3 : tK S 5 x3) (t_x4 : tK S 5 x4) (t_s0 : isO g H 7 s0) (ok : KO_X3_accuse_48 N g H T x0 x1 x3 x4 s0 s1 s2 S) (hx : X (KF_X3_accuse_48 N g H T x0 x1 x3 x4 s0 s1 s2 S)) : R_ := by
  unfold KO_X3_accuse_48 at ok
  unfold KF_X3_accuse_48 at hx
  obtain ⟨hS, hm_49, tv_49⟩ := k5c_X9_fresh hS t_s0 ok.1
  have hM := hM.trans hm_49
  have ok := ok.2
  exact k5b_X3_accuse_52 hR hS hM t_x0 (hm_49.tK t_x1 (by decide)) (hm_49.tK t_x3 (by decide)) (hm_49.tK t_x4 (by decide)) tv_49 ok hx
set_option maxRecDepth 100000 in
set_option maxHeartbeats 4000000 in
theorem k5b_X3_accuse_24 {u g H T N : Nat} {S : cS} {S0 : cS} {R_ : Prop} {X : cS → Prop} (hR : ∀ S', St u g H T S' → M5 g H S0 S' → X S' → R_) {x0 : Option Nat} {x1 : Option Nat} {x3 : Option Nat} {s0 : Option Nat} (hS : St u g H T S) (hM : M5 g H S0 S) (t_x0 : tN g H x0) (t_x1 : tK S 5 x1) (t_x3 : tK S 5 x3) (t_s0 : tK S 5 s0) (ok : KO_X3_accuse_24 N g H T x0 x1 x3 s0 S) (hx : X (KF_X3_accuse_24 N g H T x0 x1 x3 s0 S)) : R_ := by
  unfold KO_X3_accuse_24 at ok
  unfold KF_X3_accuse_24 at hx
  have nn_27 := ok.1
  have ok := ok.2
  have nn_35 := ok.1
  have ok := ok.2
  refine pif_p ok (fun c_38 => ?_) (fun c_38 => ?_)
  · have ok := ok.1 c_38
    have hx := xif_p c_38 hx
    exact k5b_X3_accuse_48 hR hS hM t_x0 t_x1 t_x3 t_s0 (o86 (o50 (tN.o t_x0 nn_27))) ok hx
  · have ok := ok.2 c_38
    have hx := xif_n c_38 hx
    exact k5b_X3_accuse_48 hR hS hM t_x0 t_x1 t_x3 t_s0 (o86 (o50 (tN.o t_x0 nn_27))) ok hx
set_option maxRecDepth 100000 in
set_option maxHeartbeats 4000000 in
theorem k5b_X3_accuse_13 {u g H T N : Nat} {S : cS} {S0 : cS} {R_ : Prop} {X : cS → Prop} (hR : ∀ S', St u g H T S' → M5 g H S0 S' → X S' → R_) {x0 : Option Nat} {x1 : Option Nat} {x2 : Option Nat} {s0 : Option Nat} (hS : St u g H T S) (hM : M5 g H S0 S) (t_x0 : tN g H x0) (t_x1 : tK S 5 x1) (t_x2 : tK S 5 x2) (t_s0 : tK S 5 s0) (ok : KO_X3_accuse_13 N g H T x0 x1 x2 s0 S) (hx : X (KF_X3_accuse_13 N g H T x0 x1 x2 s0 S)) : R_ := by
  unfold KO_X3_accuse_13 at ok
  unfold KF_X3_accuse_13 at hx
  refine pif_n ok (fun c_16 => ?_) (fun c_16 => ?_)
  · have ok := ok.2 c_16
    have hx := xif_n c_16 hx
    exact k5b_X3_accuse_24 hR hS hM t_x0 t_x1 t_s0 t_x1 ok hx
  · have ok := ok.1 c_16
    have hx := xif_p c_16 hx
    exact k5b_X3_accuse_24 hR hS hM t_x0 t_x1 t_s0 t_x2 ok hx
set_option maxRecDepth 100000 in
set_option maxHeartbeats 4000000 in
theorem k5b_X3_accuse_0 {u g H T N : Nat} {S : cS} {S0 : cS} {R_ : Prop} {X : cS → Prop} (hR : ∀ S', St u g H T S' → M5 g H S0 S' → X S' → R_) {x0 : Option Nat} {x1 : Option Nat} {x2 : Option Nat} (hS : St u g H T S) (hM : M5 g H S0 S) (t_x0 : tN g H x0) (t_x1 : tK S 5 x1) (t_x2 : tK S 5 x2) (ok : KO_X3_accuse_0 N g H T x0 x1 x2 S) (hx : X (KF_X3_accuse_0 N g H T x0 x1 x2 S)) : R_ := by
  unfold KO_X3_accuse_0 at ok
  unfold KF_X3_accuse_0 at hx
  have nn_2 := ok.1.1
  have ok := ok.2
  refine pif_p ok (fun c_5 => ?_) (fun c_5 => ?_)
  · have ok := ok.1 c_5
    have hx := xif_p c_5 hx
    exact k5b_X3_accuse_13 hR hS hM t_x0 t_x1 t_x2 t_x2 ok hx
  · have ok := ok.2 c_5
    have hx := xif_n c_5 hx
    exact k5b_X3_accuse_13 hR hS hM t_x0 t_x1 t_x2 t_x1 ok hx
set_option maxRecDepth 100000 in
set_option maxHeartbeats 4000000 in
theorem k5c_X3_accuse {u g H T N : Nat} {S : cS} {x0 : Option Nat} {x1 : Option Nat} {x2 : Option Nat} (hS : St u g H T S) (t_x0 : tN g H x0) (t_x1 : tK S 5 x1) (t_x2 : tK S 5 x2) (ok : p_X3_accuse N g H T S x0 x1 x2) : St u g H T (k_X3_accuse N g H T S x0 x1 x2) ∧ M5 g H S (k_X3_accuse N g H T S x0 x1 x2) := by
  exact k5b_X3_accuse_0 (X := fun F => F = k_X3_accuse N g H T S x0 x1 x2) (fun S' h1 h2 h => by rw [← h]; exact ⟨h1, h2⟩) hS M5.rfl' t_x0 t_x1 t_x2 ok rfl
set_option maxRecDepth 100000 in
set_option maxHeartbeats 4000000 in
theorem k5b_X3_takeSigned_102 {u g H T N : Nat} {S : cS} {S0 : cS} {R_ : Prop} {X : Int32 × cS → Prop} (hR : ∀ v S', St u g H T S' → M5 g H S0 S' → X (v, S') → R_) (hS : St u g H T S) (hM : M5 g H S0 S) (ok : KO_X3_takeSigned_102 N g H T S) (hx : X (KF_X3_takeSigned_102 N g H T S)) : R_ := by
  unfold KO_X3_takeSigned_102 at ok
  unfold KF_X3_takeSigned_102 at hx
  exact hR _ _ hS hM hx
set_option maxRecDepth 100000 in
set_option maxHeartbeats 4000000 in
theorem k5b_X3_takeSigned_72 {u g H T N : Nat} {S : cS} {S0 : cS} {R_ : Prop} {X : Int32 × cS → Prop} (hR : ∀ v S', St u g H T S' → M5 g H S0 S' → X (v, S') → R_) (hS : St u g H T S) (hM : M5 g H S0 S) (ok : KO_X3_takeSigned_72 N g H T S) (hx : X (KF_X3_takeSigned_72 N g H T S)) : R_ := by
  unfold KO_X3_takeSigned_72 at ok
  unfold KF_X3_takeSigned_72 at hx
  exact hR _ _ hS hM hx
set_option maxRecDepth 100000 in
set_option maxHeartbeats 4000000 in
theorem k5b_X3_takeSigned_55 {u g H T N : Nat} {S : cS} {S0 : cS} {R_ : Prop} {X : Int32 × cS → Prop} (hR : ∀ v S', St u g H T S' → M5 g H S0 S' → X (v, S') → R_) {x0 : Option Nat} {x1 : Int32} {x2 : Option Nat} (hS : St u g H T S) (hM : M5 g H S0 S) (t_x0 : tN g H x0) (t_x2 : tK S 5 x2) (ok : KO_X3_takeSigned_55 N g H T x0 x1 x2 S) (hx : X (KF_X3_takeSigned_55 N g H T x0 x1 x2 S)) : R_ := by
  unfold KO_X3_takeSigned_55 at ok
  unfold KF_X3_takeSigned_55 at hx
  have nn_56 := ok.1
  have ok := ok.2
  have nn_66 := ok.1.1
  have ok := ok.2
  obtain ⟨hS, hm_69⟩ := k5c_X10_spread hS (o50 (tN.o t_x0 nn_56)) t_x2 ok.1
  have hM := hM.trans hm_69
  have ok := ok.2
  exact k5b_X3_takeSigned_72 hR hS hM  ok hx
set_option maxRecDepth 100000 in
set_option maxHeartbeats 4000000 in
theorem k5b_X3_takeSigned_34 {u g H T N : Nat} {S : cS} {S0 : cS} {R_ : Prop} {X : Int32 × cS → Prop} (hR : ∀ v S', St u g H T S' → M5 g H S0 S' → X (v, S') → R_) {x0 : Option Nat} {x1 : Int32} {x2 : Option Nat} (hS : St u g H T S) (hM : M5 g H S0 S) (t_x0 : tN g H x0) (t_x2 : tK S 5 x2) (ok : KO_X3_takeSigned_34 N g H T x0 x1 x2 S) (hx : X (KF_X3_takeSigned_34 N g H T x0 x1 x2 S)) : R_ := by
  unfold KO_X3_takeSigned_34 at ok
  unfold KF_X3_takeSigned_34 at hx
  have nn_35 := ok.1
  have ok := ok.2
  have tv_39 := kpc_X8_like hS (o53 (tN.o t_x0 nn_35)) t_x2 ok.1
  have ok := ok.2
  refine pif_n ok (fun c_44 => ?_) (fun c_44 => ?_)
  · have ok := ok.2 c_44
    have hx := xif_n c_44 hx
    have ok := ok.2
    refine pif_n ok (fun c_79 => ?_) (fun c_79 => ?_)
    · have ok := ok.2 c_79
      have hx := xif_n c_79 hx
      exact k5b_X3_takeSigned_102 hR hS hM  ok hx
    · have ok := ok.1 c_79
      have hx := xif_p c_79 hx
      have nn_87 := ok.1.1
      have ok := ok.2
      have tv_90 := kpc_X8_proofOf hS (o53 (tN.o t_x0 nn_35)) ok.1
      have ok := ok.2
      refine pif_n ok (fun c_93 => ?_) (fun c_93 => ?_)
      · have ok := ok.2 c_93
        have hx := xif_n c_93 hx
        exact k5b_X3_takeSigned_102 hR hS hM  ok hx
      · have ok := ok.1 c_93
        have hx := xif_p c_93 hx
        obtain ⟨hS, hm_99⟩ := k5c_X3_accuse hS t_x0 tv_39 t_x2 ok.1
        have hM := hM.trans hm_99
        have ok := ok.2
        exact k5b_X3_takeSigned_102 hR hS hM  ok hx
  · have ok := ok.1 c_44
    have hx := xif_p c_44 hx
    obtain ⟨hS, hm_52⟩ := k5c_X8_hold hS (o53 (tN.o t_x0 nn_35)) t_x2 ok.1
    have hM := hM.trans hm_52
    have ok := ok.2
    exact k5b_X3_takeSigned_55 hR hS hM t_x0 (hm_52.tK t_x2 (by decide)) ok hx
set_option maxRecDepth 100000 in
set_option maxHeartbeats 4000000 in
theorem k5b_X3_takeSigned_0 {u g H T N : Nat} {S : cS} {S0 : cS} {R_ : Prop} {X : Int32 × cS → Prop} (hR : ∀ v S', St u g H T S' → M5 g H S0 S' → X (v, S') → R_) {x0 : Option Nat} {x1 : Int32} {x2 : Option Nat} (hS : St u g H T S) (hM : M5 g H S0 S) (t_x0 : tN g H x0) (t_x2 : tK S 5 x2) (ok : KO_X3_takeSigned_0 N g H T x0 x1 x2 S) (hx : X (KF_X3_takeSigned_0 N g H T x0 x1 x2 S)) : R_ := by
  unfold KO_X3_takeSigned_0 at ok
  unfold KF_X3_takeSigned_0 at hx
  have nn_1 := ok.1.1
  have ok := ok.2
  refine pif_n ok (fun c_5 => ?_) (fun c_5 => ?_)
  · have ok := ok.2 c_5
    have hx := xif_n c_5 hx
    exact k5b_X3_takeSigned_34 hR hS hM t_x0 t_x2 ok hx
  · have ok := ok.1 c_5
    have hx := xif_p c_5 hx
    have nn_9 := ok.1
    have ok := ok.2
    have ok := ok.2
    have ok := ok.2
    have ok := ok.2
    have ok := ok.2
    refine pif_p ok (fun c_29 => ?_) (fun c_29 => ?_)
    · have ok := ok.1 c_29
      have hx := xif_p c_29 hx
      exact k5b_X3_takeSigned_34 hR hS hM t_x0 t_x2 ok hx
    · have ok := ok.2 c_29
      have hx := xif_n c_29 hx
      exact hR _ _ hS hM hx
set_option maxRecDepth 100000 in
set_option maxHeartbeats 4000000 in
theorem k5c_X3_takeSigned {u g H T N : Nat} {S : cS} {x0 : Option Nat} {x1 : Int32} {x2 : Option Nat} (hS : St u g H T S) (t_x0 : tN g H x0) (t_x2 : tK S 5 x2) (ok : p_X3_takeSigned N g H T S x0 x1 x2) : St u g H T (k_X3_takeSigned N g H T S x0 x1 x2).2 ∧ M5 g H S (k_X3_takeSigned N g H T S x0 x1 x2).2 := by
  exact k5b_X3_takeSigned_0 (X := fun F => F = k_X3_takeSigned N g H T S x0 x1 x2) (fun v S' h1 h2 h => by rw [← h]; exact ⟨h1, h2⟩) hS M5.rfl' t_x0 t_x2 ok rfl

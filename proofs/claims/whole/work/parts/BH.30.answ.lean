/-! THE ROWS OF ANSWERS are not written by drop, clear, clearDecided -/
def M3 (g H : Nat) (s s' : cS) : Prop := Mono s s' ∧ ∀ m, m < H → cP s' (nd g m + 13) = cP s (nd g m + 13)
theorem M3.rfl' {g H : Nat} {s : cS} : M3 g H s s := ⟨Mono.rfl', fun _ _ => rfl⟩
theorem M3.trans {g H : Nat} {s s1 s2 : cS} (h : M3 g H s s1) (h' : M3 g H s1 s2) : M3 g H s s2 := ⟨h.1.trans h'.1, fun m hm => (h'.2 m hm).trans (h.2 m hm)⟩
theorem M3.tK {g H : Nat} {s s' : cS} (h : M3 g H s s') {k : Nat} {x : Option Nat} (t : tK s k x) (hk : k ≠ 0) : tK s' k x := h.1.tK t hk
theorem M3.I {g H : Nat} {s0 s : cS} (h : M3 g H s0 s) (k a : Nat) (v : Int32) : M3 g H s0 (csI s k a v) := h
theorem M3.R {g H : Nat} {s0 s : cS} (h : M3 g H s0 s) (k a : Nat) (v : Option Nat) : M3 g H s0 (csR s k a v) := h
theorem M3.A {g H : Nat} {s0 s : cS} (h : M3 g H s0 s) (a i : Nat) (x : Int32) : M3 g H s0 (csA s a i x) := h
theorem M3.Ar {g H : Nat} {s0 s : cS} (h : M3 g H s0 s) (a : Nat) (f : Nat → Int32) : M3 g H s0 (csArow s a f) := h
theorem M3.P {g H : Nat} {s0 s : cS} (h : M3 g H s0 s) (a i : Nat) (v : Option Nat) (ha : ∀ m, m < H → nd g m + 13 ≠ a) : M3 g H s0 (csP s a i v) := ⟨h.1, fun m hm => (cP_other _ _ _ (ha m hm)).trans (h.2 m hm)⟩
theorem ne13 {g H x k : Nat} (t : isO g H 6 x) (hk : 1 ≤ k) (hk2 : k < 10) : ∀ m, m < H → nd g m + 13 ≠ x + k := fun m _ => by
  rcases t with t | t | t | t | t | t | t | t | t <;> first | exact absurd t.1 (by decide) | skip
  obtain ⟨-, i, -, rfl⟩ := t
  unfold nd
  omega
set_option maxRecDepth 100000 in
set_option maxHeartbeats 4000000 in
theorem k3b_X9_drop_63 {u g H T N : Nat} {S : cS} {S0 : cS} {R_ : Prop} {X : cS → Prop} (hR : ∀ S', St u g H T S' → M3 g H S0 S' → X S' → R_) (hS : St u g H T S) (hM : M3 g H S0 S) (ok : KO_X9_drop_63 N g H T S) (hx : X (KF_X9_drop_63 N g H T S)) : R_ := by
  unfold KO_X9_drop_63 at ok
  unfold KF_X9_drop_63 at hx
  exact hR _ hS hM hx
set_option maxRecDepth 100000 in
set_option maxHeartbeats 4000000 in
theorem k3b_X9_drop_58 {u g H T N : Nat} {S : cS} {S0 : cS} {R_ : Prop} {X : cS → Prop} (hR : ∀ S', St u g H T S' → M3 g H S0 S' → X S' → R_) {x0 : Nat} {x1 : Option Nat} (hS : St u g H T S) (hM : M3 g H S0 S) (t_x0 : isO g H 7 x0) (t_x1 : tK S 5 x1) (ok : KO_X9_drop_58 N g H T x0 x1 S) (hx : X (KF_X9_drop_58 N g H T x0 x1 S)) : R_ := by
  unfold KO_X9_drop_58 at ok
  unfold KF_X9_drop_58 at hx
  have hS := hS.R7 t_x0 (k := 8) (by decide) t_x1
  have hM := hM.R 8 x0 x1
  exact k3b_X9_drop_63 hR hS hM  ok hx
set_option maxRecDepth 100000 in
set_option maxHeartbeats 4000000 in
theorem k3b_X9_drop_42 {u g H T N : Nat} {S : cS} {S0 : cS} {R_ : Prop} {X : cS → Prop} (hR : ∀ S', St u g H T S' → M3 g H S0 S' → X S' → R_) {x0 : Nat} {x1 : Option Nat} (hS : St u g H T S) (hM : M3 g H S0 S) (t_x0 : isO g H 7 x0) (t_x1 : tK S 5 x1) (ok : KO_X9_drop_42 N g H T x0 x1 S) (hx : X (KF_X9_drop_42 N g H T x0 x1 S)) : R_ := by
  unfold KO_X9_drop_42 at ok
  unfold KF_X9_drop_42 at hx
  have hS := hS.R7 t_x0 (k := 7) (by decide) t_x1
  have hM := hM.R 7 x0 x1
  exact k3b_X9_drop_63 hR hS hM  ok hx
set_option maxRecDepth 100000 in
set_option maxHeartbeats 4000000 in
theorem k3b_X9_drop_0 {u g H T N : Nat} {S : cS} {S0 : cS} {R_ : Prop} {X : cS → Prop} (hR : ∀ S', St u g H T S' → M3 g H S0 S' → X S' → R_) {x0 : Nat} {x1 : Option Nat} (hS : St u g H T S) (hM : M3 g H S0 S) (t_x0 : isO g H 7 x0) (t_x1 : tK S 5 x1) (ok : KO_X9_drop_0 N g H T x0 x1 S) (hx : X (KF_X9_drop_0 N g H T x0 x1 S)) : R_ := by
  unfold KO_X9_drop_0 at ok
  unfold KF_X9_drop_0 at hx
  refine pif_n ok (fun c_1 => ?_) (fun c_1 => ?_)
  · have ok := ok.2 c_1
    have hx := xif_n c_1 hx
    have hS := hS.I 3 (za x1) ((cI S 3 (za x1)) - (nI 1))
    have hM := hM.I 3 (za x1) ((cI S 3 (za x1)) - (nI 1))
    refine pif_p ok (fun c_19 => ?_) (fun c_19 => ?_)
    · have ok := ok.1 c_19
      have hx := xif_p c_19 hx
      have p_24 := hS.m0k (tK_I t_x1) c_1
      refine pif_n ok (fun c_31 => ?_) (fun c_31 => ?_)
      · have ok := ok.2 c_31
        have hx := xif_n c_31 hx
        have p_52 := hS.sk t_x0 (Or.inr rfl)
        have hS := hS.R4 ((tK_I t_x1) _ (za_of c_1)) p_52
        have hM := hM.R 6 (za x1) (cR (csI S 3 (za x1) ((cI S 3 (za x1)) - (nI 1))) 8 x0)
        exact k3b_X9_drop_58 hR hS hM t_x0 (tK_R (tK_I t_x1)) ok hx
      · have ok := ok.1 c_31
        have hx := xif_p c_31 hx
        have p_36 := hS.sk t_x0 (Or.inl rfl)
        have hS := hS.R4 ((tK_I t_x1) _ (za_of c_1)) p_36
        have hM := hM.R 6 (za x1) (cR (csI S 3 (za x1) ((cI S 3 (za x1)) - (nI 1))) 7 x0)
        exact k3b_X9_drop_42 hR hS hM t_x0 (tK_R (tK_I t_x1)) ok hx
    · have ok := ok.2 c_19
      have hx := xif_n c_19 hx
      exact hR _ hS hM hx
  · have ok := ok.1 c_1
    have hx := xif_p c_1 hx
    exact hR _ hS hM hx
set_option maxRecDepth 100000 in
set_option maxHeartbeats 4000000 in
theorem k3c_X9_drop {u g H T N : Nat} {S : cS} {a0 : Nat} {x1 : Option Nat} (hS : St u g H T S) (t_x0 : isO g H 7 a0) (t_x1 : tK S 5 x1) (ok : p_X9_drop N g H T S a0 x1) : St u g H T (k_X9_drop N g H T S a0 x1) ∧ M3 g H S (k_X9_drop N g H T S a0 x1) := by
  exact k3b_X9_drop_0 (X := fun F => F = k_X9_drop N g H T S a0 x1) (fun S' h1 h2 h => by rw [← h]; exact ⟨h1, h2⟩) hS M3.rfl' t_x0 t_x1 ok rfl
set_option maxRecDepth 100000 in
set_option maxHeartbeats 4000000 in
theorem k3b_X8_clear_231 {u g H T N : Nat} {S : cS} {S0 : cS} {R_ : Prop} {X : cS → Prop} (hR : ∀ S', St u g H T S' → M3 g H S0 S' → X S' → R_) {x0 : Nat} {x3 : Int32} {x4 : Int32} (hS : St u g H T S) (hM : M3 g H S0 S) (t_x0 : isO g H 6 x0) (ok : KO_X8_clear_231 N g H T x0 x3 x4 S) (hx : X (KF_X8_clear_231 N g H T x0 x3 x4 S)) : R_ := by
  unfold KO_X8_clear_231 at ok
  unfold KF_X8_clear_231 at hx
  have tq_238 : tK S 21 (some (x0 + 3)) := tK_some (tK.cis (hS.rk (c := 6) (k := 5) t_x0 rfl (by omega)) (Option.some_ne_none _)).2
  have hS := hS.Aw (k := 21) (x0 + 3) x3.toNatClampNeg x4 tq_238 (by decide)
  have hM := hM.A (x0 + 3) x3.toNatClampNeg x4
  have ok := ok.2
  exact hR _ hS hM hx
set_option maxRecDepth 100000 in
set_option maxHeartbeats 4000000 in
theorem k3b_X8_clear_223 {u g H T N : Nat} {S : cS} {S0 : cS} {R_ : Prop} {X : Nat × Nat × Int32 × Int32 × cS → Prop} (hX0 : ∀ (x0 : Nat) (x3 : Int32) (x4 : Int32) (S' : cS), St u g H T S' → M3 g H S0 S' → isO g H 6 x0 → X (0, x0, x3, x4, S') → R_) {rec : Nat → Int32 → Int32 → Int32 → Int32 → cS → Nat × Nat × Int32 × Int32 × cS} {rok : Nat → Int32 → Int32 → Int32 → Int32 → cS → Prop} (hrec : ∀ (x0 : Nat) (x2 : Int32) (x3 : Int32) (x4 : Int32) (x5 : Int32) (S : cS), St u g H T S → M3 g H S0 S → isO g H 6 x0 → rok x0 x2 x3 x4 x5 S → X (rec x0 x2 x3 x4 x5 S) → R_) {x0 : Nat} {x2 : Int32} {x3 : Int32} {x5 : Int32} {s0 : Int32} (hS : St u g H T S) (hM : M3 g H S0 S) (t_x0 : isO g H 6 x0) (ok : KO_X8_clear_223 N g H T rok x0 x2 x3 x5 s0 S) (hx : X (KF_X8_clear_223 N g H T rec x0 x2 x3 x5 s0 S)) : R_ := by
  unfold KO_X8_clear_223 at ok
  unfold KF_X8_clear_223 at hx
  exact hrec _ _ _ _ _ S hS hM t_x0 ok hx
set_option maxRecDepth 100000 in
set_option maxHeartbeats 4000000 in
theorem k3b_X8_clear_209 {u g H T N : Nat} {S : cS} {S0 : cS} {R_ : Prop} {X : Nat × Nat × Int32 × Int32 × cS → Prop} (hX0 : ∀ (x0 : Nat) (x3 : Int32) (x4 : Int32) (S' : cS), St u g H T S' → M3 g H S0 S' → isO g H 6 x0 → X (0, x0, x3, x4, S') → R_) {rec : Nat → Int32 → Int32 → Int32 → Int32 → cS → Nat × Nat × Int32 × Int32 × cS} {rok : Nat → Int32 → Int32 → Int32 → Int32 → cS → Prop} (hrec : ∀ (x0 : Nat) (x2 : Int32) (x3 : Int32) (x4 : Int32) (x5 : Int32) (S : cS), St u g H T S → M3 g H S0 S → isO g H 6 x0 → rok x0 x2 x3 x4 x5 S → X (rec x0 x2 x3 x4 x5 S) → R_) {x0 : Nat} {x2 : Int32} {x3 : Int32} {x4 : Int32} {x5 : Int32} {x7 : Int32} (hS : St u g H T S) (hM : M3 g H S0 S) (t_x0 : isO g H 6 x0) (ok : KO_X8_clear_209 N g H T rok x0 x2 x3 x4 x5 x7 S) (hx : X (KF_X8_clear_209 N g H T rec x0 x2 x3 x4 x5 x7 S)) : R_ := by
  unfold KO_X8_clear_209 at ok
  unfold KF_X8_clear_209 at hx
  refine pif_p ok (fun c_211 => ?_) (fun c_211 => ?_)
  · have ok := ok.1 c_211
    have hx := xif_p c_211 hx
    exact k3b_X8_clear_223 hX0 hrec hS hM t_x0 ok hx
  · have ok := ok.2 c_211
    have hx := xif_n c_211 hx
    exact k3b_X8_clear_223 hX0 hrec hS hM t_x0 ok hx
set_option maxRecDepth 100000 in
set_option maxHeartbeats 4000000 in
theorem k3b_X8_clear_201 {u g H T N : Nat} {S : cS} {S0 : cS} {R_ : Prop} {X : Nat × Nat × Int32 × Int32 × Int32 × Int32 × Int32 × cS → Prop} (hX0 : ∀ (x0 : Nat) (x2 : Int32) (x3 : Int32) (x4 : Int32) (x5 : Int32) (x7 : Int32) (S' : cS), St u g H T S' → M3 g H S0 S' → isO g H 6 x0 → X (0, x0, x2, x3, x4, x5, x7, S') → R_) {rec : Nat → Int32 → Int32 → Int32 → Int32 → Int32 → Int32 → Int32 → cS → Nat × Nat × Int32 × Int32 × Int32 × Int32 × Int32 × cS} {rok : Nat → Int32 → Int32 → Int32 → Int32 → Int32 → Int32 → Int32 → cS → Prop} (hrec : ∀ (x0 : Nat) (x2 : Int32) (x3 : Int32) (x4 : Int32) (x5 : Int32) (x7 : Int32) (x8 : Int32) (x9 : Int32) (S : cS), St u g H T S → M3 g H S0 S → isO g H 6 x0 → rok x0 x2 x3 x4 x5 x7 x8 x9 S → X (rec x0 x2 x3 x4 x5 x7 x8 x9 S) → R_) {x0 : Nat} {x2 : Int32} {x3 : Int32} {x4 : Int32} {x5 : Int32} {x8 : Int32} {x9 : Int32} {s0 : Int32} (hS : St u g H T S) (hM : M3 g H S0 S) (t_x0 : isO g H 6 x0) (ok : KO_X8_clear_201 N g H T rok x0 x2 x3 x4 x5 x8 x9 s0 S) (hx : X (KF_X8_clear_201 N g H T rec x0 x2 x3 x4 x5 x8 x9 s0 S)) : R_ := by
  unfold KO_X8_clear_201 at ok
  unfold KF_X8_clear_201 at hx
  exact hrec _ _ _ _ _ _ _ _ S hS hM t_x0 ok hx
set_option maxRecDepth 100000 in
set_option maxHeartbeats 4000000 in
theorem k3b_X8_clear_196 {u g H T N : Nat} {S : cS} {S0 : cS} {R_ : Prop} {X : Nat × Nat × Int32 × Int32 × Int32 × Int32 × Int32 × cS → Prop} (hX0 : ∀ (x0 : Nat) (x2 : Int32) (x3 : Int32) (x4 : Int32) (x5 : Int32) (x7 : Int32) (S' : cS), St u g H T S' → M3 g H S0 S' → isO g H 6 x0 → X (0, x0, x2, x3, x4, x5, x7, S') → R_) {rec : Nat → Int32 → Int32 → Int32 → Int32 → Int32 → Int32 → Int32 → cS → Nat × Nat × Int32 × Int32 × Int32 × Int32 × Int32 × cS} {rok : Nat → Int32 → Int32 → Int32 → Int32 → Int32 → Int32 → Int32 → cS → Prop} (hrec : ∀ (x0 : Nat) (x2 : Int32) (x3 : Int32) (x4 : Int32) (x5 : Int32) (x7 : Int32) (x8 : Int32) (x9 : Int32) (S : cS), St u g H T S → M3 g H S0 S → isO g H 6 x0 → rok x0 x2 x3 x4 x5 x7 x8 x9 S → X (rec x0 x2 x3 x4 x5 x7 x8 x9 S) → R_) {x0 : Nat} {x2 : Int32} {x3 : Int32} {x4 : Int32} {x5 : Int32} {x8 : Int32} {x9 : Int32} (hS : St u g H T S) (hM : M3 g H S0 S) (t_x0 : isO g H 6 x0) (ok : KO_X8_clear_196 N g H T rok x0 x2 x3 x4 x5 x8 x9 S) (hx : X (KF_X8_clear_196 N g H T rec x0 x2 x3 x4 x5 x8 x9 S)) : R_ := by
  unfold KO_X8_clear_196 at ok
  unfold KF_X8_clear_196 at hx
  exact k3b_X8_clear_201 hX0 hrec hS hM t_x0 ok hx
set_option maxRecDepth 100000 in
set_option maxHeartbeats 4000000 in
theorem k3b_X8_clear_181 {u g H T N : Nat} {S : cS} {S0 : cS} {R_ : Prop} {X : Nat × Nat × Int32 × Int32 × Int32 × Int32 × Int32 × cS → Prop} (hX0 : ∀ (x0 : Nat) (x2 : Int32) (x3 : Int32) (x4 : Int32) (x5 : Int32) (x7 : Int32) (S' : cS), St u g H T S' → M3 g H S0 S' → isO g H 6 x0 → X (0, x0, x2, x3, x4, x5, x7, S') → R_) {rec : Nat → Int32 → Int32 → Int32 → Int32 → Int32 → Int32 → Int32 → cS → Nat × Nat × Int32 × Int32 × Int32 × Int32 × Int32 × cS} {rok : Nat → Int32 → Int32 → Int32 → Int32 → Int32 → Int32 → Int32 → cS → Prop} (hrec : ∀ (x0 : Nat) (x2 : Int32) (x3 : Int32) (x4 : Int32) (x5 : Int32) (x7 : Int32) (x8 : Int32) (x9 : Int32) (S : cS), St u g H T S → M3 g H S0 S → isO g H 6 x0 → rok x0 x2 x3 x4 x5 x7 x8 x9 S → X (rec x0 x2 x3 x4 x5 x7 x8 x9 S) → R_) {x0 : Nat} {x2 : Int32} {x3 : Int32} {x4 : Int32} {x5 : Int32} {x7 : Int32} {x8 : Int32} {x9 : Int32} (hS : St u g H T S) (hM : M3 g H S0 S) (t_x0 : isO g H 6 x0) (ok : KO_X8_clear_181 N g H T rok x0 x2 x3 x4 x5 x7 x8 x9 S) (hx : X (KF_X8_clear_181 N g H T rec x0 x2 x3 x4 x5 x7 x8 x9 S)) : R_ := by
  unfold KO_X8_clear_181 at ok
  unfold KF_X8_clear_181 at hx
  refine pif_n ok (fun c_183 => ?_) (fun c_183 => ?_)
  · have ok := ok.2 c_183
    have hx := xif_n c_183 hx
    exact k3b_X8_clear_196 hX0 hrec hS hM t_x0 ok hx
  · have ok := ok.1 c_183
    have hx := xif_p c_183 hx
    have p_192 := hS.row24 (hS.rk (c := 6) (k := 4) t_x0 rfl (by omega)) x9.toNatClampNeg
    have ok := ok.2
    refine pif_p ok (fun c_193 => ?_) (fun c_193 => ?_)
    · have ok := ok.1 c_193
      have hx := xif_p c_193 hx
      exact k3b_X8_clear_201 hX0 hrec hS hM t_x0 ok hx
    · have ok := ok.2 c_193
      have hx := xif_n c_193 hx
      exact k3b_X8_clear_196 hX0 hrec hS hM t_x0 ok hx
set_option maxRecDepth 100000 in
set_option maxHeartbeats 4000000 in
theorem k3b_X8_clear_173 {u g H T N : Nat} {S : cS} {S0 : cS} {R_ : Prop} {X : Nat × Nat × Int32 × Int32 × Int32 × Int32 × Int32 × cS → Prop} (hX0 : ∀ (x0 : Nat) (x2 : Int32) (x3 : Int32) (x4 : Int32) (x5 : Int32) (x7 : Int32) (S' : cS), St u g H T S' → M3 g H S0 S' → isO g H 6 x0 → X (0, x0, x2, x3, x4, x5, x7, S') → R_) {rec : Nat → Int32 → Int32 → Int32 → Int32 → Int32 → Int32 → Int32 → cS → Nat × Nat × Int32 × Int32 × Int32 × Int32 × Int32 × cS} {rok : Nat → Int32 → Int32 → Int32 → Int32 → Int32 → Int32 → Int32 → cS → Prop} (hrec : ∀ (x0 : Nat) (x2 : Int32) (x3 : Int32) (x4 : Int32) (x5 : Int32) (x7 : Int32) (x8 : Int32) (x9 : Int32) (S : cS), St u g H T S → M3 g H S0 S → isO g H 6 x0 → rok x0 x2 x3 x4 x5 x7 x8 x9 S → X (rec x0 x2 x3 x4 x5 x7 x8 x9 S) → R_) {x0 : Nat} {x2 : Int32} {x3 : Int32} {x4 : Int32} {x5 : Int32} {x7 : Int32} {x8 : Int32} {x9 : Int32} (hS : St u g H T S) (hM : M3 g H S0 S) (t_x0 : isO g H 6 x0) (ok : KO_X8_clear_173 N g H T rok x0 x2 x3 x4 x5 x7 x8 x9 S) (hx : X (KF_X8_clear_173 N g H T rec x0 x2 x3 x4 x5 x7 x8 x9 S)) : R_ := by
  unfold KO_X8_clear_173 at ok
  unfold KF_X8_clear_173 at hx
  have hS2 := hS.P24 (i := x9.toNatClampNeg) ((hS.rk (c := 6) (k := 4) t_x0 rfl (by omega)) _ rfl) tK_none
  have hS := hS2
  have hM := hM.P (x0 + 5) x9.toNatClampNeg (none : Option Nat) (ne13 t_x0 (by decide) (by decide))
  have ok := ok.2
  exact k3b_X8_clear_181 hX0 hrec hS hM t_x0 ok hx
set_option maxRecDepth 100000 in
set_option maxHeartbeats 4000000 in
theorem k3bb_X8_clear_121 {u g H T N : Nat} {S : cS} {S0 : cS} {R_ : Prop} {X : Nat × Nat × Int32 × Int32 × Int32 × Int32 × Int32 × cS → Prop} (hX0 : ∀ (x0 : Nat) (x2 : Int32) (x3 : Int32) (x4 : Int32) (x5 : Int32) (x7 : Int32) (S' : cS), St u g H T S' → M3 g H S0 S' → isO g H 6 x0 → X (0, x0, x2, x3, x4, x5, x7, S') → R_) {rec : Nat → Int32 → Int32 → Int32 → Int32 → Int32 → Int32 → Int32 → cS → Nat × Nat × Int32 × Int32 × Int32 × Int32 × Int32 × cS} {rok : Nat → Int32 → Int32 → Int32 → Int32 → Int32 → Int32 → Int32 → cS → Prop} (hrec : ∀ (x0 : Nat) (x2 : Int32) (x3 : Int32) (x4 : Int32) (x5 : Int32) (x7 : Int32) (x8 : Int32) (x9 : Int32) (S : cS), St u g H T S → M3 g H S0 S → isO g H 6 x0 → rok x0 x2 x3 x4 x5 x7 x8 x9 S → X (rec x0 x2 x3 x4 x5 x7 x8 x9 S) → R_) {x0 : Nat} {x2 : Int32} {x3 : Int32} {x4 : Int32} {x5 : Int32} {x7 : Int32} {x8 : Int32} {x9 : Int32} (hS : St u g H T S) (hM : M3 g H S0 S) (t_x0 : isO g H 6 x0) (ok : KOB_X8_clear_121 N g H T rok x0 x2 x3 x4 x5 x7 x8 x9 S) (hx : X (KB_X8_clear_121 N g H T rec x0 x2 x3 x4 x5 x7 x8 x9 S)) : R_ := by
  unfold KOB_X8_clear_121 at ok
  unfold KB_X8_clear_121 at hx
  refine pif_p ok (fun c_132 => ?_) (fun c_132 => ?_)
  · have ok := ok.1 c_132
    have hx := xif_p c_132 hx
    exact hX0 _ _ _ _ _ _ S hS hM t_x0 hx
  · have ok := ok.2 c_132
    have hx := xif_n c_132 hx
    have p_141 := hS.row24 (hS.rk (c := 6) (k := 4) t_x0 rfl (by omega)) x9.toNatClampNeg
    have ok := ok.2
    refine pif_p ok (fun c_142 => ?_) (fun c_142 => ?_)
    · have ok := ok.1 c_142
      have hx := xif_p c_142 hx
      exact k3b_X8_clear_181 hX0 hrec hS hM t_x0 ok hx
    · have ok := ok.2 c_142
      have hx := xif_n c_142 hx
      have p_151 := hS.row24 (hS.rk (c := 6) (k := 4) t_x0 rfl (by omega)) x9.toNatClampNeg
      have ok := ok.2
      have ok := ok.2
      refine pif_p ok (fun c_156 => ?_) (fun c_156 => ?_)
      · have ok := ok.1 c_156
        have hx := xif_p c_156 hx
        exact k3b_X8_clear_181 hX0 hrec hS hM t_x0 ok hx
      · have ok := ok.2 c_156
        have hx := xif_n c_156 hx
        have p_169 := hS.row24 (hS.rk (c := 6) (k := 4) t_x0 rfl (by omega)) x9.toNatClampNeg
        have ok := ok.2
        obtain ⟨hS, hm_170⟩ := k3c_X9_drop hS (o60 t_x0) p_169 ok.1
        have hM := hM.trans hm_170
        have ok := ok.2
        exact k3b_X8_clear_173 hX0 hrec hS hM t_x0 ok hx
set_option maxRecDepth 100000 in
set_option maxHeartbeats 4000000 in
theorem k3l_X8_clear_121 {u g H T N : Nat} {S0 : cS} {R_ : Prop} {X : Nat × Nat × Int32 × Int32 × Int32 × Int32 × Int32 × cS → Prop} (hX0 : ∀ (x0 : Nat) (x2 : Int32) (x3 : Int32) (x4 : Int32) (x5 : Int32) (x7 : Int32) (S' : cS), St u g H T S' → M3 g H S0 S' → isO g H 6 x0 → X (0, x0, x2, x3, x4, x5, x7, S') → R_) : ∀ (n : Nat) (x0 : Nat) (x2 : Int32) (x3 : Int32) (x4 : Int32) (x5 : Int32) (x7 : Int32) (x8 : Int32) (x9 : Int32) (S : cS), St u g H T S → M3 g H S0 S → isO g H 6 x0 → KOL_X8_clear_121 N g H T n x0 x2 x3 x4 x5 x7 x8 x9 S → X (KL_X8_clear_121 N g H T n x0 x2 x3 x4 x5 x7 x8 x9 S) → R_ := by
  intro n
  induction n with
  | zero => intro x0 x2 x3 x4 x5 x7 x8 x9 S hS hM t_x0 ok; exact absurd ok id
  | succ n ih =>
    intro x0 x2 x3 x4 x5 x7 x8 x9 S hS hM t_x0 ok hx
    exact k3bb_X8_clear_121 hX0 (rec := KL_X8_clear_121 N g H T n) (rok := KOL_X8_clear_121 N g H T n) (fun x0 x2 x3 x4 x5 x7 x8 x9 S hS hM t_x0 ok hx => ih x0 x2 x3 x4 x5 x7 x8 x9 S hS hM t_x0 ok hx) hS hM t_x0 ok hx
set_option maxRecDepth 100000 in
set_option maxHeartbeats 4000000 in
theorem k3d_X8_clear_121 {u g H T N : Nat} {S : cS} {S0 : cS} {R_ : Prop} {X : Nat × Nat × Int32 × Int32 × cS → Prop} (hX0 : ∀ (x0 : Nat) (x3 : Int32) (x4 : Int32) (S' : cS), St u g H T S' → M3 g H S0 S' → isO g H 6 x0 → X (0, x0, x3, x4, S') → R_) {rec : Nat → Int32 → Int32 → Int32 → Int32 → cS → Nat × Nat × Int32 × Int32 × cS} {rok : Nat → Int32 → Int32 → Int32 → Int32 → cS → Prop} (hrec : ∀ (x0 : Nat) (x2 : Int32) (x3 : Int32) (x4 : Int32) (x5 : Int32) (S : cS), St u g H T S → M3 g H S0 S → isO g H 6 x0 → rok x0 x2 x3 x4 x5 S → X (rec x0 x2 x3 x4 x5 S) → R_) {x0 : Nat} {x2 : Int32} {x3 : Int32} {x4 : Int32} {x5 : Int32} {x7 : Int32} {x8 : Int32} {x9 : Int32} (hS : St u g H T S) (hM : M3 g H S0 S) (t_x0 : isO g H 6 x0) (ok : KOL_X8_clear_121 N g H T N x0 x2 x3 x4 x5 x7 x8 x9 S ∧ KOA_X8_clear_121 N g H T rok x0 x2 x3 x4 x5 x7 x8 x9 S (KL_X8_clear_121 N g H T N x0 x2 x3 x4 x5 x7 x8 x9 S)) (hx : X (KA_X8_clear_121 N g H T rec x0 x2 x3 x4 x5 x7 x8 x9 S (KL_X8_clear_121 N g H T N x0 x2 x3 x4 x5 x7 x8 x9 S))) : R_ := by
  refine k3l_X8_clear_121 ?_ N x0 x2 x3 x4 x5 x7 x8 x9 S hS hM t_x0 ok.1 (X := fun z => KOA_X8_clear_121 N g H T rok x0 x2 x3 x4 x5 x7 x8 x9 S z ∧ X (KA_X8_clear_121 N g H T rec x0 x2 x3 x4 x5 x7 x8 x9 S z)) ⟨ok.2, hx⟩
  · intro x0' x2' x3' x4' x5' x7' S' hS hM t_x0 hz
    obtain ⟨ok, hx⟩ := hz
    unfold KOA_X8_clear_121 at ok
    unfold KA_X8_clear_121 at hx
    exact k3b_X8_clear_209 hX0 hrec hS hM t_x0 ok hx
set_option maxRecDepth 100000 in
set_option maxHeartbeats 4000000 in
theorem k3b_X8_clear_106 {u g H T N : Nat} {S : cS} {S0 : cS} {R_ : Prop} {X : Nat × Nat × Int32 × Int32 × cS → Prop} (hX0 : ∀ (x0 : Nat) (x3 : Int32) (x4 : Int32) (S' : cS), St u g H T S' → M3 g H S0 S' → isO g H 6 x0 → X (0, x0, x3, x4, S') → R_) {rec : Nat → Int32 → Int32 → Int32 → Int32 → cS → Nat × Nat × Int32 × Int32 × cS} {rok : Nat → Int32 → Int32 → Int32 → Int32 → cS → Prop} (hrec : ∀ (x0 : Nat) (x2 : Int32) (x3 : Int32) (x4 : Int32) (x5 : Int32) (S : cS), St u g H T S → M3 g H S0 S → isO g H 6 x0 → rok x0 x2 x3 x4 x5 S → X (rec x0 x2 x3 x4 x5 S) → R_) {x0 : Nat} {x2 : Int32} {x3 : Int32} {x4 : Int32} {x5 : Int32} {x6 : Int32} {s0 : Int32} (hS : St u g H T S) (hM : M3 g H S0 S) (t_x0 : isO g H 6 x0) (ok : KO_X8_clear_106 N g H T rok x0 x2 x3 x4 x5 x6 s0 S) (hx : X (KF_X8_clear_106 N g H T rec x0 x2 x3 x4 x5 x6 s0 S)) : R_ := by
  unfold KO_X8_clear_106 at ok
  unfold KF_X8_clear_106 at hx
  have ok := ok.2
  exact k3d_X8_clear_121 hX0 hrec hS hM t_x0 ok hx
set_option maxRecDepth 100000 in
set_option maxHeartbeats 4000000 in
theorem k3b_X8_clear_83 {u g H T N : Nat} {S : cS} {S0 : cS} {R_ : Prop} {X : Nat × Nat × Int32 × Int32 × cS → Prop} (hX0 : ∀ (x0 : Nat) (x3 : Int32) (x4 : Int32) (S' : cS), St u g H T S' → M3 g H S0 S' → isO g H 6 x0 → X (0, x0, x3, x4, S') → R_) {rec : Nat → Int32 → Int32 → Int32 → Int32 → cS → Nat × Nat × Int32 × Int32 × cS} {rok : Nat → Int32 → Int32 → Int32 → Int32 → cS → Prop} (hrec : ∀ (x0 : Nat) (x2 : Int32) (x3 : Int32) (x4 : Int32) (x5 : Int32) (S : cS), St u g H T S → M3 g H S0 S → isO g H 6 x0 → rok x0 x2 x3 x4 x5 S → X (rec x0 x2 x3 x4 x5 S) → R_) {x0 : Nat} {x2 : Int32} {x3 : Int32} {x4 : Int32} {x5 : Int32} {x6 : Int32} (hS : St u g H T S) (hM : M3 g H S0 S) (t_x0 : isO g H 6 x0) (ok : KO_X8_clear_83 N g H T rok x0 x2 x3 x4 x5 x6 S) (hx : X (KF_X8_clear_83 N g H T rec x0 x2 x3 x4 x5 x6 S)) : R_ := by
  unfold KO_X8_clear_83 at ok
  unfold KF_X8_clear_83 at hx
  have tq_90 : tK S 21 (some (x0 + 2)) := tK_some (tK.cis (hS.rk (c := 6) (k := 3) t_x0 rfl (by omega)) (Option.some_ne_none _)).2
  have hS := hS.Aw (k := 21) (x0 + 2) x6.toNatClampNeg (nI 0) tq_90 (by decide)
  have hM := hM.A (x0 + 2) x6.toNatClampNeg (nI 0)
  have ok := ok.2
  have p_97 := hS.row24 (hS.rk (c := 6) (k := 2) t_x0 rfl (by omega)) x6.toNatClampNeg
  have ok := ok.2
  refine pif_p ok (fun c_98 => ?_) (fun c_98 => ?_)
  · have ok := ok.1 c_98
    have hx := xif_p c_98 hx
    exact k3b_X8_clear_106 hX0 hrec hS hM t_x0 ok hx
  · have ok := ok.2 c_98
    have hx := xif_n c_98 hx
    exact k3b_X8_clear_106 hX0 hrec hS hM t_x0 ok hx
set_option maxRecDepth 100000 in
set_option maxHeartbeats 4000000 in
theorem k3b_X8_clear_75 {u g H T N : Nat} {S : cS} {S0 : cS} {R_ : Prop} {X : Nat × Nat × Int32 × Int32 × cS → Prop} (hX0 : ∀ (x0 : Nat) (x3 : Int32) (x4 : Int32) (S' : cS), St u g H T S' → M3 g H S0 S' → isO g H 6 x0 → X (0, x0, x3, x4, S') → R_) {rec : Nat → Int32 → Int32 → Int32 → Int32 → cS → Nat × Nat × Int32 × Int32 × cS} {rok : Nat → Int32 → Int32 → Int32 → Int32 → cS → Prop} (hrec : ∀ (x0 : Nat) (x2 : Int32) (x3 : Int32) (x4 : Int32) (x5 : Int32) (S : cS), St u g H T S → M3 g H S0 S → isO g H 6 x0 → rok x0 x2 x3 x4 x5 S → X (rec x0 x2 x3 x4 x5 S) → R_) {x0 : Nat} {x2 : Int32} {x3 : Int32} {x4 : Int32} {x5 : Int32} {x6 : Int32} (hS : St u g H T S) (hM : M3 g H S0 S) (t_x0 : isO g H 6 x0) (ok : KO_X8_clear_75 N g H T rok x0 x2 x3 x4 x5 x6 S) (hx : X (KF_X8_clear_75 N g H T rec x0 x2 x3 x4 x5 x6 S)) : R_ := by
  unfold KO_X8_clear_75 at ok
  unfold KF_X8_clear_75 at hx
  have hS2 := hS.P24 (i := x6.toNatClampNeg) ((hS.rk (c := 6) (k := 2) t_x0 rfl (by omega)) _ rfl) tK_none
  have hS := hS2
  have hM := hM.P (x0 + 1) x6.toNatClampNeg (none : Option Nat) (ne13 t_x0 (by decide) (by decide))
  have ok := ok.2
  exact k3b_X8_clear_83 hX0 hrec hS hM t_x0 ok hx
set_option maxRecDepth 100000 in
set_option maxHeartbeats 4000000 in
theorem k3bb_X8_clear_10 {u g H T N : Nat} {S : cS} {S0 : cS} {R_ : Prop} {X : Nat × Nat × Int32 × Int32 × cS → Prop} (hX0 : ∀ (x0 : Nat) (x3 : Int32) (x4 : Int32) (S' : cS), St u g H T S' → M3 g H S0 S' → isO g H 6 x0 → X (0, x0, x3, x4, S') → R_) {rec : Nat → Int32 → Int32 → Int32 → Int32 → cS → Nat × Nat × Int32 × Int32 × cS} {rok : Nat → Int32 → Int32 → Int32 → Int32 → cS → Prop} (hrec : ∀ (x0 : Nat) (x2 : Int32) (x3 : Int32) (x4 : Int32) (x5 : Int32) (S : cS), St u g H T S → M3 g H S0 S → isO g H 6 x0 → rok x0 x2 x3 x4 x5 S → X (rec x0 x2 x3 x4 x5 S) → R_) {x0 : Nat} {x2 : Int32} {x3 : Int32} {x4 : Int32} {x5 : Int32} (hS : St u g H T S) (hM : M3 g H S0 S) (t_x0 : isO g H 6 x0) (ok : KOB_X8_clear_10 N g H T rok x0 x2 x3 x4 x5 S) (hx : X (KB_X8_clear_10 N g H T rec x0 x2 x3 x4 x5 S)) : R_ := by
  unfold KOB_X8_clear_10 at ok
  unfold KB_X8_clear_10 at hx
  have ok := ok.2
  refine pif_p ok (fun c_18 => ?_) (fun c_18 => ?_)
  · have ok := ok.1 c_18
    have hx := xif_p c_18 hx
    exact hX0 _ _ _ S hS hM t_x0 hx
  · have ok := ok.2 c_18
    have hx := xif_n c_18 hx
    refine pif_p ok (fun c_25 => ?_) (fun c_25 => ?_)
    · have ok := ok.1 c_25
      have hx := xif_p c_25 hx
      exact hX0 _ _ _ S hS hM t_x0 hx
    · have ok := ok.2 c_25
      have hx := xif_n c_25 hx
      have p_43 := hS.row24 (hS.rk (c := 6) (k := 2) t_x0 rfl (by omega)) ((x3 * (nI 16)) + x5).toNatClampNeg
      have ok := ok.2
      refine pif_p ok (fun c_44 => ?_) (fun c_44 => ?_)
      · have ok := ok.1 c_44
        have hx := xif_p c_44 hx
        exact k3b_X8_clear_83 hX0 hrec hS hM t_x0 ok hx
      · have ok := ok.2 c_44
        have hx := xif_n c_44 hx
        have p_53 := hS.row24 (hS.rk (c := 6) (k := 2) t_x0 rfl (by omega)) ((x3 * (nI 16)) + x5).toNatClampNeg
        have ok := ok.2
        have ok := ok.2
        refine pif_p ok (fun c_58 => ?_) (fun c_58 => ?_)
        · have ok := ok.1 c_58
          have hx := xif_p c_58 hx
          exact k3b_X8_clear_83 hX0 hrec hS hM t_x0 ok hx
        · have ok := ok.2 c_58
          have hx := xif_n c_58 hx
          have p_71 := hS.row24 (hS.rk (c := 6) (k := 2) t_x0 rfl (by omega)) ((x3 * (nI 16)) + x5).toNatClampNeg
          have ok := ok.2
          obtain ⟨hS, hm_72⟩ := k3c_X9_drop hS (o60 t_x0) p_71 ok.1
          have hM := hM.trans hm_72
          have ok := ok.2
          exact k3b_X8_clear_75 hX0 hrec hS hM t_x0 ok hx
set_option maxRecDepth 100000 in
set_option maxHeartbeats 4000000 in
theorem k3l_X8_clear_10 {u g H T N : Nat} {S0 : cS} {R_ : Prop} {X : Nat × Nat × Int32 × Int32 × cS → Prop} (hX0 : ∀ (x0 : Nat) (x3 : Int32) (x4 : Int32) (S' : cS), St u g H T S' → M3 g H S0 S' → isO g H 6 x0 → X (0, x0, x3, x4, S') → R_) : ∀ (n : Nat) (x0 : Nat) (x2 : Int32) (x3 : Int32) (x4 : Int32) (x5 : Int32) (S : cS), St u g H T S → M3 g H S0 S → isO g H 6 x0 → KOL_X8_clear_10 N g H T n x0 x2 x3 x4 x5 S → X (KL_X8_clear_10 N g H T n x0 x2 x3 x4 x5 S) → R_ := by
  intro n
  induction n with
  | zero => intro x0 x2 x3 x4 x5 S hS hM t_x0 ok; exact absurd ok id
  | succ n ih =>
    intro x0 x2 x3 x4 x5 S hS hM t_x0 ok hx
    exact k3bb_X8_clear_10 hX0 (rec := KL_X8_clear_10 N g H T n) (rok := KOL_X8_clear_10 N g H T n) (fun x0 x2 x3 x4 x5 S hS hM t_x0 ok hx => ih x0 x2 x3 x4 x5 S hS hM t_x0 ok hx) hS hM t_x0 ok hx
set_option maxRecDepth 100000 in
set_option maxHeartbeats 4000000 in
theorem k3d_X8_clear_10 {u g H T N : Nat} {S : cS} {S0 : cS} {R_ : Prop} {X : cS → Prop} (hR : ∀ S', St u g H T S' → M3 g H S0 S' → X S' → R_) {x0 : Nat} {x2 : Int32} {x3 : Int32} {x4 : Int32} {x5 : Int32} (hS : St u g H T S) (hM : M3 g H S0 S) (t_x0 : isO g H 6 x0) (ok : KOL_X8_clear_10 N g H T N x0 x2 x3 x4 x5 S ∧ KOA_X8_clear_10 N g H T x0 x2 x3 x4 x5 S (KL_X8_clear_10 N g H T N x0 x2 x3 x4 x5 S)) (hx : X (KA_X8_clear_10 N g H T x0 x2 x3 x4 x5 S (KL_X8_clear_10 N g H T N x0 x2 x3 x4 x5 S))) : R_ := by
  refine k3l_X8_clear_10 ?_ N x0 x2 x3 x4 x5 S hS hM t_x0 ok.1 (X := fun z => KOA_X8_clear_10 N g H T x0 x2 x3 x4 x5 S z ∧ X (KA_X8_clear_10 N g H T x0 x2 x3 x4 x5 S z)) ⟨ok.2, hx⟩
  · intro x0' x3' x4' S' hS hM t_x0 hz
    obtain ⟨ok, hx⟩ := hz
    unfold KOA_X8_clear_10 at ok
    unfold KA_X8_clear_10 at hx
    exact k3b_X8_clear_231 hR hS hM t_x0 ok hx
set_option maxRecDepth 100000 in
set_option maxHeartbeats 4000000 in
theorem k3b_X8_clear_0 {u g H T N : Nat} {S : cS} {S0 : cS} {R_ : Prop} {X : cS → Prop} (hR : ∀ S', St u g H T S' → M3 g H S0 S' → X S' → R_) {x0 : Nat} {x1 : Int32} {x2 : Int32} (hS : St u g H T S) (hM : M3 g H S0 S) (t_x0 : isO g H 6 x0) (ok : KO_X8_clear_0 N g H T x0 x1 x2 S) (hx : X (KF_X8_clear_0 N g H T x0 x1 x2 S)) : R_ := by
  unfold KO_X8_clear_0 at ok
  unfold KF_X8_clear_0 at hx
  exact k3d_X8_clear_10 hR hS hM t_x0 ok hx
set_option maxRecDepth 100000 in
set_option maxHeartbeats 4000000 in
theorem k3c_X8_clear {u g H T N : Nat} {S : cS} {a0 : Nat} {x1 : Int32} {x2 : Int32} (hS : St u g H T S) (t_x0 : isO g H 6 a0) (ok : p_X8_clear N g H T S a0 x1 x2) : St u g H T (k_X8_clear N g H T S a0 x1 x2) ∧ M3 g H S (k_X8_clear N g H T S a0 x1 x2) := by
  exact k3b_X8_clear_0 (X := fun F => F = k_X8_clear N g H T S a0 x1 x2) (fun S' h1 h2 h => by rw [← h]; exact ⟨h1, h2⟩) hS M3.rfl' t_x0 ok rfl
set_option maxRecDepth 100000 in
set_option maxHeartbeats 4000000 in
theorem k3b_X8_clearDecided_62 {u g H T N : Nat} {S : cS} {S0 : cS} {R_ : Prop} {X : cS → Prop} (hR : ∀ S', St u g H T S' → M3 g H S0 S' → X S' → R_) (hS : St u g H T S) (hM : M3 g H S0 S) (ok : KO_X8_clearDecided_62 N g H T S) (hx : X (KF_X8_clearDecided_62 N g H T S)) : R_ := by
  unfold KO_X8_clearDecided_62 at ok
  unfold KF_X8_clearDecided_62 at hx
  exact hR _ hS hM hx
set_option maxRecDepth 100000 in
set_option maxHeartbeats 4000000 in
theorem k3b_X8_clearDecided_56 {u g H T N : Nat} {S : cS} {S0 : cS} {R_ : Prop} {X : Nat × cS → Prop} (hX0 : ∀ (S' : cS), St u g H T S' → M3 g H S0 S' → X (0, S') → R_) {rec : Nat → Int32 → cS → Nat × cS} {rok : Nat → Int32 → cS → Prop} (hrec : ∀ (x0 : Nat) (x1 : Int32) (S : cS), St u g H T S → M3 g H S0 S → isO g H 6 x0 → rok x0 x1 S → X (rec x0 x1 S) → R_) {x0 : Nat} {x1 : Int32} (hS : St u g H T S) (hM : M3 g H S0 S) (t_x0 : isO g H 6 x0) (ok : KO_X8_clearDecided_56 N g H T rok x0 x1 S) (hx : X (KF_X8_clearDecided_56 N g H T rec x0 x1 S)) : R_ := by
  unfold KO_X8_clearDecided_56 at ok
  unfold KF_X8_clearDecided_56 at hx
  exact hrec _ _ S hS hM t_x0 ok hx
set_option maxRecDepth 100000 in
set_option maxHeartbeats 4000000 in
theorem k3b_X8_clearDecided_39 {u g H T N : Nat} {S : cS} {S0 : cS} {R_ : Prop} {X : Nat × cS → Prop} (hX0 : ∀ (S' : cS), St u g H T S' → M3 g H S0 S' → X (0, S') → R_) {rec : Nat → Int32 → cS → Nat × cS} {rok : Nat → Int32 → cS → Prop} (hrec : ∀ (x0 : Nat) (x1 : Int32) (S : cS), St u g H T S → M3 g H S0 S → isO g H 6 x0 → rok x0 x1 S → X (rec x0 x1 S) → R_) {x0 : Nat} {x1 : Int32} (hS : St u g H T S) (hM : M3 g H S0 S) (t_x0 : isO g H 6 x0) (ok : KO_X8_clearDecided_39 N g H T rok x0 x1 S) (hx : X (KF_X8_clearDecided_39 N g H T rec x0 x1 S)) : R_ := by
  unfold KO_X8_clearDecided_39 at ok
  unfold KF_X8_clearDecided_39 at hx
  have hS2 := hS.P24 (i := x1.toNatClampNeg) ((hS.rk (c := 6) (k := 6) t_x0 rfl (by omega)) _ rfl) tK_none
  have hS := hS2
  have hM := hM.P (x0 + 6) x1.toNatClampNeg (none : Option Nat) (ne13 t_x0 (by decide) (by decide))
  have ok := ok.2
  have hS := hS.I 11 x0 ((cI (csP S (x0 + 6) x1.toNatClampNeg (none : Option Nat)) 11 x0) - (nI 1))
  have hM := hM.I 11 x0 ((cI (csP S (x0 + 6) x1.toNatClampNeg (none : Option Nat)) 11 x0) - (nI 1))
  exact k3b_X8_clearDecided_56 hX0 hrec hS hM t_x0 ok hx
set_option maxRecDepth 100000 in
set_option maxHeartbeats 4000000 in
theorem k3bb_X8_clearDecided_2 {u g H T N : Nat} {S : cS} {S0 : cS} {R_ : Prop} {X : Nat × cS → Prop} (hX0 : ∀ (S' : cS), St u g H T S' → M3 g H S0 S' → X (0, S') → R_) {rec : Nat → Int32 → cS → Nat × cS} {rok : Nat → Int32 → cS → Prop} (hrec : ∀ (x0 : Nat) (x1 : Int32) (S : cS), St u g H T S → M3 g H S0 S → isO g H 6 x0 → rok x0 x1 S → X (rec x0 x1 S) → R_) {x0 : Nat} {x1 : Int32} (hS : St u g H T S) (hM : M3 g H S0 S) (t_x0 : isO g H 6 x0) (ok : KOB_X8_clearDecided_2 N g H T rok x0 x1 S) (hx : X (KB_X8_clearDecided_2 N g H T rec x0 x1 S)) : R_ := by
  unfold KOB_X8_clearDecided_2 at ok
  unfold KB_X8_clearDecided_2 at hx
  refine pif_p ok (fun c_7 => ?_) (fun c_7 => ?_)
  · have ok := ok.1 c_7
    have hx := xif_p c_7 hx
    exact hX0 S hS hM  hx
  · have ok := ok.2 c_7
    have hx := xif_n c_7 hx
    refine pif_p ok (fun c_14 => ?_) (fun c_14 => ?_)
    · have ok := ok.1 c_14
      have hx := xif_p c_14 hx
      exact hX0 S hS hM  hx
    · have ok := ok.2 c_14
      have hx := xif_n c_14 hx
      have p_22 := hS.row24 (hS.rk (c := 6) (k := 6) t_x0 rfl (by omega)) x1.toNatClampNeg
      have ok := ok.2
      refine pif_p ok (fun c_23 => ?_) (fun c_23 => ?_)
      · have ok := ok.1 c_23
        have hx := xif_p c_23 hx
        exact k3b_X8_clearDecided_56 hX0 hrec hS hM t_x0 ok hx
      · have ok := ok.2 c_23
        have hx := xif_n c_23 hx
        have p_35 := hS.row24 (hS.rk (c := 6) (k := 6) t_x0 rfl (by omega)) x1.toNatClampNeg
        have ok := ok.2
        obtain ⟨hS, hm_36⟩ := k3c_X9_drop hS (o60 t_x0) p_35 ok.1
        have hM := hM.trans hm_36
        have ok := ok.2
        exact k3b_X8_clearDecided_39 hX0 hrec hS hM t_x0 ok hx
set_option maxRecDepth 100000 in
set_option maxHeartbeats 4000000 in
theorem k3l_X8_clearDecided_2 {u g H T N : Nat} {S0 : cS} {R_ : Prop} {X : Nat × cS → Prop} (hX0 : ∀ (S' : cS), St u g H T S' → M3 g H S0 S' → X (0, S') → R_) : ∀ (n : Nat) (x0 : Nat) (x1 : Int32) (S : cS), St u g H T S → M3 g H S0 S → isO g H 6 x0 → KOL_X8_clearDecided_2 N g H T n x0 x1 S → X (KL_X8_clearDecided_2 N g H T n x0 x1 S) → R_ := by
  intro n
  induction n with
  | zero => intro x0 x1 S hS hM t_x0 ok; exact absurd ok id
  | succ n ih =>
    intro x0 x1 S hS hM t_x0 ok hx
    exact k3bb_X8_clearDecided_2 hX0 (rec := KL_X8_clearDecided_2 N g H T n) (rok := KOL_X8_clearDecided_2 N g H T n) (fun x0 x1 S hS hM t_x0 ok hx => ih x0 x1 S hS hM t_x0 ok hx) hS hM t_x0 ok hx
set_option maxRecDepth 100000 in
set_option maxHeartbeats 4000000 in
theorem k3d_X8_clearDecided_2 {u g H T N : Nat} {S : cS} {S0 : cS} {R_ : Prop} {X : cS → Prop} (hR : ∀ S', St u g H T S' → M3 g H S0 S' → X S' → R_) {x0 : Nat} {x1 : Int32} (hS : St u g H T S) (hM : M3 g H S0 S) (t_x0 : isO g H 6 x0) (ok : KOL_X8_clearDecided_2 N g H T N x0 x1 S ∧ KOA_X8_clearDecided_2 N g H T x0 x1 S (KL_X8_clearDecided_2 N g H T N x0 x1 S)) (hx : X (KA_X8_clearDecided_2 N g H T x0 x1 S (KL_X8_clearDecided_2 N g H T N x0 x1 S))) : R_ := by
  refine k3l_X8_clearDecided_2 ?_ N x0 x1 S hS hM t_x0 ok.1 (X := fun z => KOA_X8_clearDecided_2 N g H T x0 x1 S z ∧ X (KA_X8_clearDecided_2 N g H T x0 x1 S z)) ⟨ok.2, hx⟩
  · intro S' hS hM hz
    obtain ⟨ok, hx⟩ := hz
    unfold KOA_X8_clearDecided_2 at ok
    unfold KA_X8_clearDecided_2 at hx
    exact k3b_X8_clearDecided_62 hR hS hM  ok hx
set_option maxRecDepth 100000 in
set_option maxHeartbeats 4000000 in
theorem k3b_X8_clearDecided_0 {u g H T N : Nat} {S : cS} {S0 : cS} {R_ : Prop} {X : cS → Prop} (hR : ∀ S', St u g H T S' → M3 g H S0 S' → X S' → R_) {x0 : Nat} (hS : St u g H T S) (hM : M3 g H S0 S) (t_x0 : isO g H 6 x0) (ok : KO_X8_clearDecided_0 N g H T x0 S) (hx : X (KF_X8_clearDecided_0 N g H T x0 S)) : R_ := by
  unfold KO_X8_clearDecided_0 at ok
  unfold KF_X8_clearDecided_0 at hx
  exact k3d_X8_clearDecided_2 hR hS hM t_x0 ok hx
set_option maxRecDepth 100000 in
set_option maxHeartbeats 4000000 in
theorem k3c_X8_clearDecided {u g H T N : Nat} {S : cS} {a0 : Nat} (hS : St u g H T S) (t_x0 : isO g H 6 a0) (ok : p_X8_clearDecided N g H T S a0) : St u g H T (k_X8_clearDecided N g H T S a0) ∧ M3 g H S (k_X8_clearDecided N g H T S a0) := by
  exact k3b_X8_clearDecided_0 (X := fun F => F = k_X8_clearDecided N g H T S a0) (fun S' h1 h2 h => by rw [← h]; exact ⟨h1, h2⟩) hS M3.rfl' t_x0 ok rfl

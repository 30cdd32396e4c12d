set_option maxRecDepth 100000 in
set_option maxHeartbeats 4000000 in
theorem k5b_X2_squeeze_480 {u g H T N : Nat} {S : cS} {S0 : cS} {R_ : Prop} {X : cS → Prop} (hR : ∀ S', St u g H T S' → M5 g H S0 S' → X S' → R_) {x0 : Nat} {x9 : Int32} {x10 : Int32} (hS : St u g H T S) (hM : M5 g H S0 S) (t_x0 : isO g H 2 x0) (ok : KO_X2_squeeze_480 N g H T x0 x9 x10 S) (hx : X (KF_X2_squeeze_480 N g H T x0 x9 x10 S)) : R_ := by
  unfold KO_X2_squeeze_480 at ok
  unfold KF_X2_squeeze_480 at hx
  have ok := ok.2
  have tq_491 : tK S 21 (some (x0 + 3)) := tK_some (tK.cis (hS.rk (c := 2) (k := 2) t_x0 rfl (by omega)) (Option.some_ne_none _)).2
  have hS := hS.Aw (k := 21) (x0 + 3) (nI 6).toNatClampNeg ((cA S (x0 + 3) (nI 6).toNatClampNeg) + x9) tq_491 (by decide)
  have hM := hM.A (x0 + 3) (nI 6).toNatClampNeg ((cA S (x0 + 3) (nI 6).toNatClampNeg) + x9)
  have ok := ok.2
  have ok := ok.2
  have tq_503 : tK (csA S (x0 + 3) (nI 6).toNatClampNeg ((cA S (x0 + 3) (nI 6).toNatClampNeg) + x9)) 21 (some (x0 + 3)) := tK_some (tK.cis (hS.rk (c := 2) (k := 2) t_x0 rfl (by omega)) (Option.some_ne_none _)).2
  have hS := hS.Aw (k := 21) (x0 + 3) (nI 7).toNatClampNeg ((cA (csA S (x0 + 3) (nI 6).toNatClampNeg ((cA S (x0 + 3) (nI 6).toNatClampNeg) + x9)) (x0 + 3) (nI 7).toNatClampNeg) + x10) tq_503 (by decide)
  have hM := hM.A (x0 + 3) (nI 7).toNatClampNeg ((cA (csA S (x0 + 3) (nI 6).toNatClampNeg ((cA S (x0 + 3) (nI 6).toNatClampNeg) + x9)) (x0 + 3) (nI 7).toNatClampNeg) + x10)
  have ok := ok.2
  exact hR _ hS hM hx
set_option maxRecDepth 100000 in
set_option maxHeartbeats 4000000 in
theorem k5b_X2_squeeze_458 {u g H T N : Nat} {S : cS} {S0 : cS} {R_ : Prop} {X : cS → Prop} (hR : ∀ S', St u g H T S' → M5 g H S0 S' → X S' → R_) {x0 : Nat} {x7 : Int32} {x8 : Int32} {x9 : Int32} {x10 : Int32} (hS : St u g H T S) (hM : M5 g H S0 S) (t_x0 : isO g H 2 x0) (ok : KO_X2_squeeze_458 N g H T x0 x7 x8 x9 x10 S) (hx : X (KF_X2_squeeze_458 N g H T x0 x7 x8 x9 x10 S)) : R_ := by
  unfold KO_X2_squeeze_458 at ok
  unfold KF_X2_squeeze_458 at hx
  have ok := ok.2
  have tq_468 : tK S 21 (some (x0 + 3)) := tK_some (tK.cis (hS.rk (c := 2) (k := 2) t_x0 rfl (by omega)) (Option.some_ne_none _)).2
  have hS := hS.Aw (k := 21) (x0 + 3) (nI 4).toNatClampNeg ((cA S (x0 + 3) (nI 4).toNatClampNeg) + x7) tq_468 (by decide)
  have hM := hM.A (x0 + 3) (nI 4).toNatClampNeg ((cA S (x0 + 3) (nI 4).toNatClampNeg) + x7)
  have ok := ok.2
  have ok := ok.2
  have tq_479 : tK (csA S (x0 + 3) (nI 4).toNatClampNeg ((cA S (x0 + 3) (nI 4).toNatClampNeg) + x7)) 21 (some (x0 + 3)) := tK_some (tK.cis (hS.rk (c := 2) (k := 2) t_x0 rfl (by omega)) (Option.some_ne_none _)).2
  have hS := hS.Aw (k := 21) (x0 + 3) (nI 5).toNatClampNeg ((cA (csA S (x0 + 3) (nI 4).toNatClampNeg ((cA S (x0 + 3) (nI 4).toNatClampNeg) + x7)) (x0 + 3) (nI 5).toNatClampNeg) + x8) tq_479 (by decide)
  have hM := hM.A (x0 + 3) (nI 5).toNatClampNeg ((cA (csA S (x0 + 3) (nI 4).toNatClampNeg ((cA S (x0 + 3) (nI 4).toNatClampNeg) + x7)) (x0 + 3) (nI 5).toNatClampNeg) + x8)
  have ok := ok.2
  exact k5b_X2_squeeze_480 hR hS hM t_x0 ok hx
set_option maxRecDepth 100000 in
set_option maxHeartbeats 4000000 in
theorem k5b_X2_squeeze_436 {u g H T N : Nat} {S : cS} {S0 : cS} {R_ : Prop} {X : cS → Prop} (hR : ∀ S', St u g H T S' → M5 g H S0 S' → X S' → R_) {x0 : Nat} {x5 : Int32} {x6 : Int32} {x7 : Int32} {x8 : Int32} {x9 : Int32} {x10 : Int32} (hS : St u g H T S) (hM : M5 g H S0 S) (t_x0 : isO g H 2 x0) (ok : KO_X2_squeeze_436 N g H T x0 x5 x6 x7 x8 x9 x10 S) (hx : X (KF_X2_squeeze_436 N g H T x0 x5 x6 x7 x8 x9 x10 S)) : R_ := by
  unfold KO_X2_squeeze_436 at ok
  unfold KF_X2_squeeze_436 at hx
  have ok := ok.2
  have tq_446 : tK S 21 (some (x0 + 3)) := tK_some (tK.cis (hS.rk (c := 2) (k := 2) t_x0 rfl (by omega)) (Option.some_ne_none _)).2
  have hS := hS.Aw (k := 21) (x0 + 3) (nI 2).toNatClampNeg ((cA S (x0 + 3) (nI 2).toNatClampNeg) + x5) tq_446 (by decide)
  have hM := hM.A (x0 + 3) (nI 2).toNatClampNeg ((cA S (x0 + 3) (nI 2).toNatClampNeg) + x5)
  have ok := ok.2
  have ok := ok.2
  have tq_457 : tK (csA S (x0 + 3) (nI 2).toNatClampNeg ((cA S (x0 + 3) (nI 2).toNatClampNeg) + x5)) 21 (some (x0 + 3)) := tK_some (tK.cis (hS.rk (c := 2) (k := 2) t_x0 rfl (by omega)) (Option.some_ne_none _)).2
  have hS := hS.Aw (k := 21) (x0 + 3) (nI 3).toNatClampNeg ((cA (csA S (x0 + 3) (nI 2).toNatClampNeg ((cA S (x0 + 3) (nI 2).toNatClampNeg) + x5)) (x0 + 3) (nI 3).toNatClampNeg) + x6) tq_457 (by decide)
  have hM := hM.A (x0 + 3) (nI 3).toNatClampNeg ((cA (csA S (x0 + 3) (nI 2).toNatClampNeg ((cA S (x0 + 3) (nI 2).toNatClampNeg) + x5)) (x0 + 3) (nI 3).toNatClampNeg) + x6)
  have ok := ok.2
  exact k5b_X2_squeeze_458 hR hS hM t_x0 ok hx
set_option maxRecDepth 100000 in
set_option maxHeartbeats 4000000 in
theorem k5b_X2_squeeze_415 {u g H T N : Nat} {S : cS} {S0 : cS} {R_ : Prop} {X : cS → Prop} (hR : ∀ S', St u g H T S' → M5 g H S0 S' → X S' → R_) {x0 : Nat} {x3 : Int32} {x4 : Int32} {x5 : Int32} {x6 : Int32} {x7 : Int32} {x8 : Int32} {x9 : Int32} {x10 : Int32} (hS : St u g H T S) (hM : M5 g H S0 S) (t_x0 : isO g H 2 x0) (ok : KO_X2_squeeze_415 N g H T x0 x3 x4 x5 x6 x7 x8 x9 x10 S) (hx : X (KF_X2_squeeze_415 N g H T x0 x3 x4 x5 x6 x7 x8 x9 x10 S)) : R_ := by
  unfold KO_X2_squeeze_415 at ok
  unfold KF_X2_squeeze_415 at hx
  have ok := ok.2
  have tq_424 : tK S 21 (some (x0 + 3)) := tK_some (tK.cis (hS.rk (c := 2) (k := 2) t_x0 rfl (by omega)) (Option.some_ne_none _)).2
  have hS := hS.Aw (k := 21) (x0 + 3) (nI 0).toNatClampNeg ((cA S (x0 + 3) (nI 0).toNatClampNeg) + x3) tq_424 (by decide)
  have hM := hM.A (x0 + 3) (nI 0).toNatClampNeg ((cA S (x0 + 3) (nI 0).toNatClampNeg) + x3)
  have ok := ok.2
  have ok := ok.2
  have tq_435 : tK (csA S (x0 + 3) (nI 0).toNatClampNeg ((cA S (x0 + 3) (nI 0).toNatClampNeg) + x3)) 21 (some (x0 + 3)) := tK_some (tK.cis (hS.rk (c := 2) (k := 2) t_x0 rfl (by omega)) (Option.some_ne_none _)).2
  have hS := hS.Aw (k := 21) (x0 + 3) (nI 1).toNatClampNeg ((cA (csA S (x0 + 3) (nI 0).toNatClampNeg ((cA S (x0 + 3) (nI 0).toNatClampNeg) + x3)) (x0 + 3) (nI 1).toNatClampNeg) + x4) tq_435 (by decide)
  have hM := hM.A (x0 + 3) (nI 1).toNatClampNeg ((cA (csA S (x0 + 3) (nI 0).toNatClampNeg ((cA S (x0 + 3) (nI 0).toNatClampNeg) + x3)) (x0 + 3) (nI 1).toNatClampNeg) + x4)
  have ok := ok.2
  exact k5b_X2_squeeze_436 hR hS hM t_x0 ok hx
set_option maxRecDepth 100000 in
set_option maxHeartbeats 4000000 in
theorem k5b_X2_squeeze_408 {u g H T N : Nat} {S : cS} {S0 : cS} {R_ : Prop} {X : Nat × Nat × Int32 × Int32 × Int32 × Int32 × Int32 × Int32 × Int32 × Int32 × cS → Prop} (hX0 : ∀ (x0 : Nat) (x3 : Int32) (x4 : Int32) (x5 : Int32) (x6 : Int32) (x7 : Int32) (x8 : Int32) (x9 : Int32) (x10 : Int32) (S' : cS), St u g H T S' → M5 g H S0 S' → isO g H 2 x0 → X (0, x0, x3, x4, x5, x6, x7, x8, x9, x10, S') → R_) {rec : Nat → Option Nat → Int32 → Int32 → Int32 → Int32 → Int32 → Int32 → Int32 → Int32 → Int32 → cS → Nat × Nat × Int32 × Int32 × Int32 × Int32 × Int32 × Int32 × Int32 × Int32 × cS} {rok : Nat → Option Nat → Int32 → Int32 → Int32 → Int32 → Int32 → Int32 → Int32 → Int32 → Int32 → cS → Prop} (hrec : ∀ (x0 : Nat) (x2 : Option Nat) (x3 : Int32) (x4 : Int32) (x5 : Int32) (x6 : Int32) (x7 : Int32) (x8 : Int32) (x9 : Int32) (x10 : Int32) (x11 : Int32) (S : cS), St u g H T S → M5 g H S0 S → isO g H 2 x0 → tK S 21 x2 → rok x0 x2 x3 x4 x5 x6 x7 x8 x9 x10 x11 S → X (rec x0 x2 x3 x4 x5 x6 x7 x8 x9 x10 x11 S) → R_) {x0 : Nat} {x2 : Option Nat} {x4 : Int32} {x5 : Int32} {x6 : Int32} {x7 : Int32} {x8 : Int32} {x9 : Int32} {x10 : Int32} {x11 : Int32} {s0 : Int32} (hS : St u g H T S) (hM : M5 g H S0 S) (t_x0 : isO g H 2 x0) (t_x2 : tK S 21 x2) (ok : KO_X2_squeeze_408 N g H T rok x0 x2 x4 x5 x6 x7 x8 x9 x10 x11 s0 S) (hx : X (KF_X2_squeeze_408 N g H T rec x0 x2 x4 x5 x6 x7 x8 x9 x10 x11 s0 S)) : R_ := by
  unfold KO_X2_squeeze_408 at ok
  unfold KF_X2_squeeze_408 at hx
  exact hrec _ _ _ _ _ _ _ _ _ _ _ S hS hM t_x0 t_x2 ok hx
set_option maxRecDepth 100000 in
set_option maxHeartbeats 4000000 in
theorem k5b_X2_squeeze_348 {u g H T N : Nat} {S : cS} {S0 : cS} {R_ : Prop} {X : Nat × Nat × Int32 × Int32 × Int32 × Int32 × Int32 × Int32 × Int32 × Int32 × cS → Prop} (hX0 : ∀ (x0 : Nat) (x3 : Int32) (x4 : Int32) (x5 : Int32) (x6 : Int32) (x7 : Int32) (x8 : Int32) (x9 : Int32) (x10 : Int32) (S' : cS), St u g H T S' → M5 g H S0 S' → isO g H 2 x0 → X (0, x0, x3, x4, x5, x6, x7, x8, x9, x10, S') → R_) {rec : Nat → Option Nat → Int32 → Int32 → Int32 → Int32 → Int32 → Int32 → Int32 → Int32 → Int32 → cS → Nat × Nat × Int32 × Int32 × Int32 × Int32 × Int32 × Int32 × Int32 × Int32 × cS} {rok : Nat → Option Nat → Int32 → Int32 → Int32 → Int32 → Int32 → Int32 → Int32 → Int32 → Int32 → cS → Prop} (hrec : ∀ (x0 : Nat) (x2 : Option Nat) (x3 : Int32) (x4 : Int32) (x5 : Int32) (x6 : Int32) (x7 : Int32) (x8 : Int32) (x9 : Int32) (x10 : Int32) (x11 : Int32) (S : cS), St u g H T S → M5 g H S0 S → isO g H 2 x0 → tK S 21 x2 → rok x0 x2 x3 x4 x5 x6 x7 x8 x9 x10 x11 S → X (rec x0 x2 x3 x4 x5 x6 x7 x8 x9 x10 x11 S) → R_) {x0 : Nat} {x2 : Option Nat} {x3 : Int32} {x4 : Int32} {x5 : Int32} {x6 : Int32} {x7 : Int32} {x8 : Int32} {x9 : Int32} {x11 : Int32} {x12 : Int32} {s0 : Int32} (hS : St u g H T S) (hM : M5 g H S0 S) (t_x0 : isO g H 2 x0) (t_x2 : tK S 21 x2) (ok : KO_X2_squeeze_348 N g H T rok x0 x2 x3 x4 x5 x6 x7 x8 x9 x11 x12 s0 S) (hx : X (KF_X2_squeeze_348 N g H T rec x0 x2 x3 x4 x5 x6 x7 x8 x9 x11 x12 s0 S)) : R_ := by
  unfold KO_X2_squeeze_348 at ok
  unfold KF_X2_squeeze_348 at hx
  exact k5b_X2_squeeze_408 hX0 hrec hS hM t_x0 t_x2 ok hx
set_option maxRecDepth 100000 in
set_option maxHeartbeats 4000000 in
theorem k5b_X2_squeeze_323 {u g H T N : Nat} {S : cS} {S0 : cS} {R_ : Prop} {X : Nat × Nat × Int32 × Int32 × Int32 × Int32 × Int32 × Int32 × Int32 × Int32 × cS → Prop} (hX0 : ∀ (x0 : Nat) (x3 : Int32) (x4 : Int32) (x5 : Int32) (x6 : Int32) (x7 : Int32) (x8 : Int32) (x9 : Int32) (x10 : Int32) (S' : cS), St u g H T S' → M5 g H S0 S' → isO g H 2 x0 → X (0, x0, x3, x4, x5, x6, x7, x8, x9, x10, S') → R_) {rec : Nat → Option Nat → Int32 → Int32 → Int32 → Int32 → Int32 → Int32 → Int32 → Int32 → Int32 → cS → Nat × Nat × Int32 × Int32 × Int32 × Int32 × Int32 × Int32 × Int32 × Int32 × cS} {rok : Nat → Option Nat → Int32 → Int32 → Int32 → Int32 → Int32 → Int32 → Int32 → Int32 → Int32 → cS → Prop} (hrec : ∀ (x0 : Nat) (x2 : Option Nat) (x3 : Int32) (x4 : Int32) (x5 : Int32) (x6 : Int32) (x7 : Int32) (x8 : Int32) (x9 : Int32) (x10 : Int32) (x11 : Int32) (S : cS), St u g H T S → M5 g H S0 S → isO g H 2 x0 → tK S 21 x2 → rok x0 x2 x3 x4 x5 x6 x7 x8 x9 x10 x11 S → X (rec x0 x2 x3 x4 x5 x6 x7 x8 x9 x10 x11 S) → R_) {x0 : Nat} {x2 : Option Nat} {x3 : Int32} {x4 : Int32} {x5 : Int32} {x6 : Int32} {x7 : Int32} {x8 : Int32} {x9 : Int32} {x11 : Int32} {s0 : Int32} (hS : St u g H T S) (hM : M5 g H S0 S) (t_x0 : isO g H 2 x0) (t_x2 : tK S 21 x2) (ok : KO_X2_squeeze_323 N g H T rok x0 x2 x3 x4 x5 x6 x7 x8 x9 x11 s0 S) (hx : X (KF_X2_squeeze_323 N g H T rec x0 x2 x3 x4 x5 x6 x7 x8 x9 x11 s0 S)) : R_ := by
  unfold KO_X2_squeeze_323 at ok
  unfold KF_X2_squeeze_323 at hx
  have ok := ok.2
  exact k5b_X2_squeeze_348 hX0 hrec hS hM t_x0 t_x2 ok hx
set_option maxRecDepth 100000 in
set_option maxHeartbeats 4000000 in
theorem k5b_X2_squeeze_291 {u g H T N : Nat} {S : cS} {S0 : cS} {R_ : Prop} {X : Nat × Nat × Int32 × Int32 × Int32 × Int32 × Int32 × Int32 × Int32 × Int32 × cS → Prop} (hX0 : ∀ (x0 : Nat) (x3 : Int32) (x4 : Int32) (x5 : Int32) (x6 : Int32) (x7 : Int32) (x8 : Int32) (x9 : Int32) (x10 : Int32) (S' : cS), St u g H T S' → M5 g H S0 S' → isO g H 2 x0 → X (0, x0, x3, x4, x5, x6, x7, x8, x9, x10, S') → R_) {rec : Nat → Option Nat → Int32 → Int32 → Int32 → Int32 → Int32 → Int32 → Int32 → Int32 → Int32 → cS → Nat × Nat × Int32 × Int32 × Int32 × Int32 × Int32 × Int32 × Int32 × Int32 × cS} {rok : Nat → Option Nat → Int32 → Int32 → Int32 → Int32 → Int32 → Int32 → Int32 → Int32 → Int32 → cS → Prop} (hrec : ∀ (x0 : Nat) (x2 : Option Nat) (x3 : Int32) (x4 : Int32) (x5 : Int32) (x6 : Int32) (x7 : Int32) (x8 : Int32) (x9 : Int32) (x10 : Int32) (x11 : Int32) (S : cS), St u g H T S → M5 g H S0 S → isO g H 2 x0 → tK S 21 x2 → rok x0 x2 x3 x4 x5 x6 x7 x8 x9 x10 x11 S → X (rec x0 x2 x3 x4 x5 x6 x7 x8 x9 x10 x11 S) → R_) {x0 : Nat} {x2 : Option Nat} {x3 : Int32} {x4 : Int32} {x5 : Int32} {x6 : Int32} {x7 : Int32} {x8 : Int32} {x9 : Int32} {x11 : Int32} {s0 : Int32} {s1 : Int32} (hS : St u g H T S) (hM : M5 g H S0 S) (t_x0 : isO g H 2 x0) (t_x2 : tK S 21 x2) (ok : KO_X2_squeeze_291 N g H T rok x0 x2 x3 x4 x5 x6 x7 x8 x9 x11 s0 s1 S) (hx : X (KF_X2_squeeze_291 N g H T rec x0 x2 x3 x4 x5 x6 x7 x8 x9 x11 s0 s1 S)) : R_ := by
  unfold KO_X2_squeeze_291 at ok
  unfold KF_X2_squeeze_291 at hx
  have ok := ok.2
  exact k5b_X2_squeeze_323 hX0 hrec hS hM t_x0 t_x2 ok hx
set_option maxRecDepth 100000 in
set_option maxHeartbeats 4000000 in
theorem k5bb_X2_squeeze_259 {u g H T N : Nat} {S : cS} {S0 : cS} {R_ : Prop} {X : Nat × Nat × Int32 × Int32 × Int32 × Int32 × Int32 × Int32 × Int32 × Int32 × cS → Prop} (hX0 : ∀ (x0 : Nat) (x3 : Int32) (x4 : Int32) (x5 : Int32) (x6 : Int32) (x7 : Int32) (x8 : Int32) (x9 : Int32) (x10 : Int32) (S' : cS), St u g H T S' → M5 g H S0 S' → isO g H 2 x0 → X (0, x0, x3, x4, x5, x6, x7, x8, x9, x10, S') → R_) {rec : Nat → Option Nat → Int32 → Int32 → Int32 → Int32 → Int32 → Int32 → Int32 → Int32 → Int32 → cS → Nat × Nat × Int32 × Int32 × Int32 × Int32 × Int32 × Int32 × Int32 × Int32 × cS} {rok : Nat → Option Nat → Int32 → Int32 → Int32 → Int32 → Int32 → Int32 → Int32 → Int32 → Int32 → cS → Prop} (hrec : ∀ (x0 : Nat) (x2 : Option Nat) (x3 : Int32) (x4 : Int32) (x5 : Int32) (x6 : Int32) (x7 : Int32) (x8 : Int32) (x9 : Int32) (x10 : Int32) (x11 : Int32) (S : cS), St u g H T S → M5 g H S0 S → isO g H 2 x0 → tK S 21 x2 → rok x0 x2 x3 x4 x5 x6 x7 x8 x9 x10 x11 S → X (rec x0 x2 x3 x4 x5 x6 x7 x8 x9 x10 x11 S) → R_) {x0 : Nat} {x2 : Option Nat} {x3 : Int32} {x4 : Int32} {x5 : Int32} {x6 : Int32} {x7 : Int32} {x8 : Int32} {x9 : Int32} {x10 : Int32} {x11 : Int32} (hS : St u g H T S) (hM : M5 g H S0 S) (t_x0 : isO g H 2 x0) (t_x2 : tK S 21 x2) (ok : KOB_X2_squeeze_259 N g H T rok x0 x2 x3 x4 x5 x6 x7 x8 x9 x10 x11 S) (hx : X (KB_X2_squeeze_259 N g H T rec x0 x2 x3 x4 x5 x6 x7 x8 x9 x10 x11 S)) : R_ := by
  unfold KOB_X2_squeeze_259 at ok
  unfold KB_X2_squeeze_259 at hx
  refine pif_p ok (fun c_263 => ?_) (fun c_263 => ?_)
  · have ok := ok.1 c_263
    have hx := xif_p c_263 hx
    exact hX0 _ _ _ _ _ _ _ _ _ S hS hM t_x0 hx
  · have ok := ok.2 c_263
    have hx := xif_n c_263 hx
    exact k5b_X2_squeeze_291 hX0 hrec hS hM t_x0 t_x2 ok hx
set_option maxRecDepth 100000 in
set_option maxHeartbeats 4000000 in
theorem k5l_X2_squeeze_259 {u g H T N : Nat} {S0 : cS} {R_ : Prop} {X : Nat × Nat × Int32 × Int32 × Int32 × Int32 × Int32 × Int32 × Int32 × Int32 × cS → Prop} (hX0 : ∀ (x0 : Nat) (x3 : Int32) (x4 : Int32) (x5 : Int32) (x6 : Int32) (x7 : Int32) (x8 : Int32) (x9 : Int32) (x10 : Int32) (S' : cS), St u g H T S' → M5 g H S0 S' → isO g H 2 x0 → X (0, x0, x3, x4, x5, x6, x7, x8, x9, x10, S') → R_) : ∀ (n : Nat) (x0 : Nat) (x2 : Option Nat) (x3 : Int32) (x4 : Int32) (x5 : Int32) (x6 : Int32) (x7 : Int32) (x8 : Int32) (x9 : Int32) (x10 : Int32) (x11 : Int32) (S : cS), St u g H T S → M5 g H S0 S → isO g H 2 x0 → tK S 21 x2 → KOL_X2_squeeze_259 N g H T n x0 x2 x3 x4 x5 x6 x7 x8 x9 x10 x11 S → X (KL_X2_squeeze_259 N g H T n x0 x2 x3 x4 x5 x6 x7 x8 x9 x10 x11 S) → R_ := by
  intro n
  induction n with
  | zero => intro x0 x2 x3 x4 x5 x6 x7 x8 x9 x10 x11 S hS hM t_x0 t_x2 ok; exact absurd ok id
  | succ n ih =>
    intro x0 x2 x3 x4 x5 x6 x7 x8 x9 x10 x11 S hS hM t_x0 t_x2 ok hx
    exact k5bb_X2_squeeze_259 hX0 (rec := KL_X2_squeeze_259 N g H T n) (rok := KOL_X2_squeeze_259 N g H T n) (fun x0 x2 x3 x4 x5 x6 x7 x8 x9 x10 x11 S hS hM t_x0 t_x2 ok hx => ih x0 x2 x3 x4 x5 x6 x7 x8 x9 x10 x11 S hS hM t_x0 t_x2 ok hx) hS hM t_x0 t_x2 ok hx
set_option maxRecDepth 100000 in
set_option maxHeartbeats 4000000 in
theorem k5d_X2_squeeze_259 {u g H T N : Nat} {S : cS} {S0 : cS} {R_ : Prop} {X : cS → Prop} (hR : ∀ S', St u g H T S' → M5 g H S0 S' → X S' → R_) {x0 : Nat} {x2 : Option Nat} {x3 : Int32} {x4 : Int32} {x5 : Int32} {x6 : Int32} {x7 : Int32} {x8 : Int32} {x9 : Int32} {x10 : Int32} {x11 : Int32} (hS : St u g H T S) (hM : M5 g H S0 S) (t_x0 : isO g H 2 x0) (t_x2 : tK S 21 x2) (ok : KOL_X2_squeeze_259 N g H T N x0 x2 x3 x4 x5 x6 x7 x8 x9 x10 x11 S ∧ KOA_X2_squeeze_259 N g H T x0 x2 x3 x4 x5 x6 x7 x8 x9 x10 x11 S (KL_X2_squeeze_259 N g H T N x0 x2 x3 x4 x5 x6 x7 x8 x9 x10 x11 S)) (hx : X (KA_X2_squeeze_259 N g H T x0 x2 x3 x4 x5 x6 x7 x8 x9 x10 x11 S (KL_X2_squeeze_259 N g H T N x0 x2 x3 x4 x5 x6 x7 x8 x9 x10 x11 S))) : R_ := by
  refine k5l_X2_squeeze_259 ?_ N x0 x2 x3 x4 x5 x6 x7 x8 x9 x10 x11 S hS hM t_x0 t_x2 ok.1 (X := fun z => KOA_X2_squeeze_259 N g H T x0 x2 x3 x4 x5 x6 x7 x8 x9 x10 x11 S z ∧ X (KA_X2_squeeze_259 N g H T x0 x2 x3 x4 x5 x6 x7 x8 x9 x10 x11 S z)) ⟨ok.2, hx⟩
  · intro x0' x3' x4' x5' x6' x7' x8' x9' x10' S' hS hM t_x0 hz
    obtain ⟨ok, hx⟩ := hz
    unfold KOA_X2_squeeze_259 at ok
    unfold KA_X2_squeeze_259 at hx
    exact k5b_X2_squeeze_415 hR hS hM t_x0 ok hx
set_option maxRecDepth 100000 in
set_option maxHeartbeats 4000000 in
theorem k5b_X2_squeeze_191 {u g H T N : Nat} {S : cS} {S0 : cS} {R_ : Prop} {X : cS → Prop} (hR : ∀ S', St u g H T S' → M5 g H S0 S' → X S' → R_) {x0 : Nat} {x2 : Option Nat} (hS : St u g H T S) (hM : M5 g H S0 S) (t_x0 : isO g H 2 x0) (t_x2 : tK S 21 x2) (ok : KO_X2_squeeze_191 N g H T x0 x2 S) (hx : X (KF_X2_squeeze_191 N g H T x0 x2 S)) : R_ := by
  unfold KO_X2_squeeze_191 at ok
  unfold KF_X2_squeeze_191 at hx
  have ok := ok.2
  have ok := ok.2
  have ok := ok.2
  have ok := ok.2
  have ok := ok.2
  have ok := ok.2
  have ok := ok.2
  have ok := ok.2
  exact k5d_X2_squeeze_259 hR hS hM t_x0 t_x2 ok hx
set_option maxRecDepth 100000 in
set_option maxHeartbeats 4000000 in
theorem k5b_X2_squeeze_177 {u g H T N : Nat} {S : cS} {S0 : cS} {R_ : Prop} {X : Nat × Nat × Option Nat × cS → Prop} (hX0 : ∀ (x0 : Nat) (x2 : Option Nat) (S' : cS), St u g H T S' → M5 g H S0 S' → isO g H 2 x0 → tK S' 21 x2 → X (0, x0, x2, S') → R_) {rec : Nat → Option Nat → Int32 → cS → Nat × Nat × Option Nat × cS} {rok : Nat → Option Nat → Int32 → cS → Prop} (hrec : ∀ (x0 : Nat) (x2 : Option Nat) (x3 : Int32) (S : cS), St u g H T S → M5 g H S0 S → isO g H 2 x0 → tK S 21 x2 → rok x0 x2 x3 S → X (rec x0 x2 x3 S) → R_) {x0 : Nat} {x2 : Option Nat} {x3 : Int32} {x5 : Int32} {s0 : Option Nat} {s1 : Int32} {s2 : Int32} {s3 : Int32} (hS : St u g H T S) (hM : M5 g H S0 S) (t_x0 : isO g H 2 x0) (t_x2 : tK S 21 x2) (t_s0 : tK S 21 s0) (ok : KO_X2_squeeze_177 N g H T rok x0 x2 x3 x5 s0 s1 s2 s3 S) (hx : X (KF_X2_squeeze_177 N g H T rec x0 x2 x3 x5 s0 s1 s2 s3 S)) : R_ := by
  unfold KO_X2_squeeze_177 at ok
  unfold KF_X2_squeeze_177 at hx
  have tq_184 : tK S 21 (some (za s0)) := tK_some (tK.cis t_s0 ok.1.1).2
  have hS := hS.Aw (k := 21) (za s0) s1.toNatClampNeg (s2 + (s3 ^^^ ((Int32.toUInt32 x5 >>> (Int32.toUInt32 ((nI 10)) &&& Int32.toUInt32 31)).toInt32))) tq_184 (by decide)
  have hM := hM.A (za s0) s1.toNatClampNeg (s2 + (s3 ^^^ ((Int32.toUInt32 x5 >>> (Int32.toUInt32 ((nI 10)) &&& Int32.toUInt32 31)).toInt32)))
  have ok := ok.2
  exact hrec _ _ _ (csA S (za s0) s1.toNatClampNeg (s2 + (s3 ^^^ ((Int32.toUInt32 x5 >>> (Int32.toUInt32 ((nI 10)) &&& Int32.toUInt32 31)).toInt32)))) hS hM t_x0 (tK_A t_x2) ok hx
set_option maxRecDepth 100000 in
set_option maxHeartbeats 4000000 in
theorem k5b_X2_squeeze_153 {u g H T N : Nat} {S : cS} {S0 : cS} {R_ : Prop} {X : Nat × Nat × Option Nat × cS → Prop} (hX0 : ∀ (x0 : Nat) (x2 : Option Nat) (S' : cS), St u g H T S' → M5 g H S0 S' → isO g H 2 x0 → tK S' 21 x2 → X (0, x0, x2, S') → R_) {rec : Nat → Option Nat → Int32 → cS → Nat × Nat × Option Nat × cS} {rok : Nat → Option Nat → Int32 → cS → Prop} (hrec : ∀ (x0 : Nat) (x2 : Option Nat) (x3 : Int32) (S : cS), St u g H T S → M5 g H S0 S → isO g H 2 x0 → tK S 21 x2 → rok x0 x2 x3 S → X (rec x0 x2 x3 S) → R_) {x0 : Nat} {x2 : Option Nat} {x3 : Int32} {x5 : Int32} {s0 : Option Nat} {s1 : Int32} {s2 : Int32} {s3 : Int32} (hS : St u g H T S) (hM : M5 g H S0 S) (t_x0 : isO g H 2 x0) (t_x2 : tK S 21 x2) (t_s0 : tK S 21 s0) (ok : KO_X2_squeeze_153 N g H T rok x0 x2 x3 x5 s0 s1 s2 s3 S) (hx : X (KF_X2_squeeze_153 N g H T rec x0 x2 x3 x5 s0 s1 s2 s3 S)) : R_ := by
  unfold KO_X2_squeeze_153 at ok
  unfold KF_X2_squeeze_153 at hx
  exact k5b_X2_squeeze_177 hX0 hrec hS hM t_x0 t_x2 t_s0 ok hx
set_option maxRecDepth 100000 in
set_option maxHeartbeats 4000000 in
theorem k5b_X2_squeeze_136 {u g H T N : Nat} {S : cS} {S0 : cS} {R_ : Prop} {X : Nat × Nat × Option Nat × cS → Prop} (hX0 : ∀ (x0 : Nat) (x2 : Option Nat) (S' : cS), St u g H T S' → M5 g H S0 S' → isO g H 2 x0 → tK S' 21 x2 → X (0, x0, x2, S') → R_) {rec : Nat → Option Nat → Int32 → cS → Nat × Nat × Option Nat × cS} {rok : Nat → Option Nat → Int32 → cS → Prop} (hrec : ∀ (x0 : Nat) (x2 : Option Nat) (x3 : Int32) (S : cS), St u g H T S → M5 g H S0 S → isO g H 2 x0 → tK S 21 x2 → rok x0 x2 x3 S → X (rec x0 x2 x3 S) → R_) {x0 : Nat} {x2 : Option Nat} {x3 : Int32} {x4 : Int32} {x5 : Int32} {s0 : Option Nat} {s1 : Int32} {s2 : Int32} {s3 : Int32} (hS : St u g H T S) (hM : M5 g H S0 S) (t_x0 : isO g H 2 x0) (t_x2 : tK S 21 x2) (t_s0 : tK S 21 s0) (ok : KO_X2_squeeze_136 N g H T rok x0 x2 x3 x4 x5 s0 s1 s2 s3 S) (hx : X (KF_X2_squeeze_136 N g H T rec x0 x2 x3 x4 x5 s0 s1 s2 s3 S)) : R_ := by
  unfold KO_X2_squeeze_136 at ok
  unfold KF_X2_squeeze_136 at hx
  exact k5b_X2_squeeze_153 hX0 hrec hS hM t_x0 t_x2 t_s0 ok hx
set_option maxRecDepth 100000 in
set_option maxHeartbeats 4000000 in
theorem k5bb_X2_squeeze_89 {u g H T N : Nat} {S : cS} {S0 : cS} {R_ : Prop} {X : Nat × Nat × Option Nat × cS → Prop} (hX0 : ∀ (x0 : Nat) (x2 : Option Nat) (S' : cS), St u g H T S' → M5 g H S0 S' → isO g H 2 x0 → tK S' 21 x2 → X (0, x0, x2, S') → R_) {rec : Nat → Option Nat → Int32 → cS → Nat × Nat × Option Nat × cS} {rok : Nat → Option Nat → Int32 → cS → Prop} (hrec : ∀ (x0 : Nat) (x2 : Option Nat) (x3 : Int32) (S : cS), St u g H T S → M5 g H S0 S → isO g H 2 x0 → tK S 21 x2 → rok x0 x2 x3 S → X (rec x0 x2 x3 S) → R_) {x0 : Nat} {x2 : Option Nat} {x3 : Int32} (hS : St u g H T S) (hM : M5 g H S0 S) (t_x0 : isO g H 2 x0) (t_x2 : tK S 21 x2) (ok : KOB_X2_squeeze_89 N g H T rok x0 x2 x3 S) (hx : X (KB_X2_squeeze_89 N g H T rec x0 x2 x3 S)) : R_ := by
  unfold KOB_X2_squeeze_89 at ok
  unfold KB_X2_squeeze_89 at hx
  refine pif_p ok (fun c_92 => ?_) (fun c_92 => ?_)
  · have ok := ok.1 c_92
    have hx := xif_p c_92 hx
    exact hX0 _ _ S hS hM t_x0 t_x2 hx
  · have ok := ok.2 c_92
    have hx := xif_n c_92 hx
    have ok := ok.2
    have ok := ok.2
    have ok := ok.2
    have ok := ok.2
    exact k5b_X2_squeeze_136 hX0 hrec hS hM t_x0 t_x2 t_x2 ok hx
set_option maxRecDepth 100000 in
set_option maxHeartbeats 4000000 in
theorem k5l_X2_squeeze_89 {u g H T N : Nat} {S0 : cS} {R_ : Prop} {X : Nat × Nat × Option Nat × cS → Prop} (hX0 : ∀ (x0 : Nat) (x2 : Option Nat) (S' : cS), St u g H T S' → M5 g H S0 S' → isO g H 2 x0 → tK S' 21 x2 → X (0, x0, x2, S') → R_) : ∀ (n : Nat) (x0 : Nat) (x2 : Option Nat) (x3 : Int32) (S : cS), St u g H T S → M5 g H S0 S → isO g H 2 x0 → tK S 21 x2 → KOL_X2_squeeze_89 N g H T n x0 x2 x3 S → X (KL_X2_squeeze_89 N g H T n x0 x2 x3 S) → R_ := by
  intro n
  induction n with
  | zero => intro x0 x2 x3 S hS hM t_x0 t_x2 ok; exact absurd ok id
  | succ n ih =>
    intro x0 x2 x3 S hS hM t_x0 t_x2 ok hx
    exact k5bb_X2_squeeze_89 hX0 (rec := KL_X2_squeeze_89 N g H T n) (rok := KOL_X2_squeeze_89 N g H T n) (fun x0 x2 x3 S hS hM t_x0 t_x2 ok hx => ih x0 x2 x3 S hS hM t_x0 t_x2 ok hx) hS hM t_x0 t_x2 ok hx
set_option maxRecDepth 100000 in
set_option maxHeartbeats 4000000 in
theorem k5d_X2_squeeze_89 {u g H T N : Nat} {S : cS} {S0 : cS} {R_ : Prop} {X : cS → Prop} (hR : ∀ S', St u g H T S' → M5 g H S0 S' → X S' → R_) {x0 : Nat} {x2 : Option Nat} {x3 : Int32} (hS : St u g H T S) (hM : M5 g H S0 S) (t_x0 : isO g H 2 x0) (t_x2 : tK S 21 x2) (ok : KOL_X2_squeeze_89 N g H T N x0 x2 x3 S ∧ KOA_X2_squeeze_89 N g H T x0 x2 x3 S (KL_X2_squeeze_89 N g H T N x0 x2 x3 S)) (hx : X (KA_X2_squeeze_89 N g H T x0 x2 x3 S (KL_X2_squeeze_89 N g H T N x0 x2 x3 S))) : R_ := by
  refine k5l_X2_squeeze_89 ?_ N x0 x2 x3 S hS hM t_x0 t_x2 ok.1 (X := fun z => KOA_X2_squeeze_89 N g H T x0 x2 x3 S z ∧ X (KA_X2_squeeze_89 N g H T x0 x2 x3 S z)) ⟨ok.2, hx⟩
  · intro x0' x2' S' hS hM t_x0 t_x2 hz
    obtain ⟨ok, hx⟩ := hz
    unfold KOA_X2_squeeze_89 at ok
    unfold KA_X2_squeeze_89 at hx
    exact k5b_X2_squeeze_191 hR hS hM t_x0 t_x2 ok hx
set_option maxRecDepth 100000 in
set_option maxHeartbeats 4000000 in
theorem k5b_X2_squeeze_86 {u g H T N : Nat} {S : cS} {S0 : cS} {R_ : Prop} {X : cS → Prop} (hR : ∀ S', St u g H T S' → M5 g H S0 S' → X S' → R_) {x0 : Nat} {x2 : Option Nat} (hS : St u g H T S) (hM : M5 g H S0 S) (t_x0 : isO g H 2 x0) (t_x2 : tK S 21 x2) (ok : KO_X2_squeeze_86 N g H T x0 x2 S) (hx : X (KF_X2_squeeze_86 N g H T x0 x2 S)) : R_ := by
  unfold KO_X2_squeeze_86 at ok
  unfold KF_X2_squeeze_86 at hx
  exact k5d_X2_squeeze_89 hR hS hM t_x0 t_x2 ok hx
set_option maxRecDepth 100000 in
set_option maxHeartbeats 4000000 in
theorem k5b_X2_squeeze_62 {u g H T N : Nat} {S : cS} {S0 : cS} {R_ : Prop} {X : Nat × Nat × Option Nat × cS → Prop} (hX0 : ∀ (x0 : Nat) (x2 : Option Nat) (S' : cS), St u g H T S' → M5 g H S0 S' → isO g H 2 x0 → tK S' 21 x2 → X (0, x0, x2, S') → R_) {rec : Nat → Option Nat → Int32 → Int32 → cS → Nat × Nat × Option Nat × cS} {rok : Nat → Option Nat → Int32 → Int32 → cS → Prop} (hrec : ∀ (x0 : Nat) (x2 : Option Nat) (x3 : Int32) (x4 : Int32) (S : cS), St u g H T S → M5 g H S0 S → isO g H 2 x0 → tK S 21 x2 → rok x0 x2 x3 x4 S → X (rec x0 x2 x3 x4 S) → R_) {x0 : Nat} {x2 : Option Nat} {x3 : Int32} {x4 : Int32} {s0 : Option Nat} {s1 : Int32} {s2 : Int32} (hS : St u g H T S) (hM : M5 g H S0 S) (t_x0 : isO g H 2 x0) (t_x2 : tK S 21 x2) (t_s0 : tK S 21 s0) (ok : KO_X2_squeeze_62 N g H T rok x0 x2 x3 x4 s0 s1 s2 S) (hx : X (KF_X2_squeeze_62 N g H T rec x0 x2 x3 x4 s0 s1 s2 S)) : R_ := by
  unfold KO_X2_squeeze_62 at ok
  unfold KF_X2_squeeze_62 at hx
  have ok := ok.2
  have tq_76 : tK S 21 (some (za s0)) := tK_some (tK.cis t_s0 ok.1.1).2
  have hS := hS.Aw (k := 21) (za s0) s1.toNatClampNeg (s2 ||| ((cA S (x0 + 1) (x4 + (nI 3)).toNatClampNeg) &&& (nI 255))) tq_76 (by decide)
  have hM := hM.A (za s0) s1.toNatClampNeg (s2 ||| ((cA S (x0 + 1) (x4 + (nI 3)).toNatClampNeg) &&& (nI 255)))
  have ok := ok.2
  exact hrec _ _ _ _ (csA S (za s0) s1.toNatClampNeg (s2 ||| ((cA S (x0 + 1) (x4 + (nI 3)).toNatClampNeg) &&& (nI 255)))) hS hM t_x0 (tK_A t_x2) ok hx
set_option maxRecDepth 100000 in
set_option maxHeartbeats 4000000 in
theorem k5bb_X2_squeeze_10 {u g H T N : Nat} {S : cS} {S0 : cS} {R_ : Prop} {X : Nat × Nat × Option Nat × cS → Prop} (hX0 : ∀ (x0 : Nat) (x2 : Option Nat) (S' : cS), St u g H T S' → M5 g H S0 S' → isO g H 2 x0 → tK S' 21 x2 → X (0, x0, x2, S') → R_) {rec : Nat → Option Nat → Int32 → Int32 → cS → Nat × Nat × Option Nat × cS} {rok : Nat → Option Nat → Int32 → Int32 → cS → Prop} (hrec : ∀ (x0 : Nat) (x2 : Option Nat) (x3 : Int32) (x4 : Int32) (S : cS), St u g H T S → M5 g H S0 S → isO g H 2 x0 → tK S 21 x2 → rok x0 x2 x3 x4 S → X (rec x0 x2 x3 x4 S) → R_) {x0 : Nat} {x2 : Option Nat} {x3 : Int32} {x4 : Int32} (hS : St u g H T S) (hM : M5 g H S0 S) (t_x0 : isO g H 2 x0) (t_x2 : tK S 21 x2) (ok : KOB_X2_squeeze_10 N g H T rok x0 x2 x3 x4 S) (hx : X (KB_X2_squeeze_10 N g H T rec x0 x2 x3 x4 S)) : R_ := by
  unfold KOB_X2_squeeze_10 at ok
  unfold KB_X2_squeeze_10 at hx
  refine pif_p ok (fun c_13 => ?_) (fun c_13 => ?_)
  · have ok := ok.1 c_13
    have hx := xif_p c_13 hx
    exact hX0 _ _ S hS hM t_x0 t_x2 hx
  · have ok := ok.2 c_13
    have hx := xif_n c_13 hx
    have ok := ok.2
    have ok := ok.2
    have ok := ok.2
    exact k5b_X2_squeeze_62 hX0 hrec hS hM t_x0 t_x2 t_x2 ok hx
set_option maxRecDepth 100000 in
set_option maxHeartbeats 4000000 in
theorem k5l_X2_squeeze_10 {u g H T N : Nat} {S0 : cS} {R_ : Prop} {X : Nat × Nat × Option Nat × cS → Prop} (hX0 : ∀ (x0 : Nat) (x2 : Option Nat) (S' : cS), St u g H T S' → M5 g H S0 S' → isO g H 2 x0 → tK S' 21 x2 → X (0, x0, x2, S') → R_) : ∀ (n : Nat) (x0 : Nat) (x2 : Option Nat) (x3 : Int32) (x4 : Int32) (S : cS), St u g H T S → M5 g H S0 S → isO g H 2 x0 → tK S 21 x2 → KOL_X2_squeeze_10 N g H T n x0 x2 x3 x4 S → X (KL_X2_squeeze_10 N g H T n x0 x2 x3 x4 S) → R_ := by
  intro n
  induction n with
  | zero => intro x0 x2 x3 x4 S hS hM t_x0 t_x2 ok; exact absurd ok id
  | succ n ih =>
    intro x0 x2 x3 x4 S hS hM t_x0 t_x2 ok hx
    exact k5bb_X2_squeeze_10 hX0 (rec := KL_X2_squeeze_10 N g H T n) (rok := KOL_X2_squeeze_10 N g H T n) (fun x0 x2 x3 x4 S hS hM t_x0 t_x2 ok hx => ih x0 x2 x3 x4 S hS hM t_x0 t_x2 ok hx) hS hM t_x0 t_x2 ok hx
set_option maxRecDepth 100000 in
set_option maxHeartbeats 4000000 in
theorem k5d_X2_squeeze_10 {u g H T N : Nat} {S : cS} {S0 : cS} {R_ : Prop} {X : cS → Prop} (hR : ∀ S', St u g H T S' → M5 g H S0 S' → X S' → R_) {x0 : Nat} {x2 : Option Nat} {x3 : Int32} {x4 : Int32} (hS : St u g H T S) (hM : M5 g H S0 S) (t_x0 : isO g H 2 x0) (t_x2 : tK S 21 x2) (ok : KOL_X2_squeeze_10 N g H T N x0 x2 x3 x4 S ∧ KOA_X2_squeeze_10 N g H T x0 x2 x3 x4 S (KL_X2_squeeze_10 N g H T N x0 x2 x3 x4 S)) (hx : X (KA_X2_squeeze_10 N g H T x0 x2 x3 x4 S (KL_X2_squeeze_10 N g H T N x0 x2 x3 x4 S))) : R_ := by
  refine k5l_X2_squeeze_10 ?_ N x0 x2 x3 x4 S hS hM t_x0 t_x2 ok.1 (X := fun z => KOA_X2_squeeze_10 N g H T x0 x2 x3 x4 S z ∧ X (KA_X2_squeeze_10 N g H T x0 x2 x3 x4 S z)) ⟨ok.2, hx⟩
  · intro x0' x2' S' hS hM t_x0 t_x2 hz
    obtain ⟨ok, hx⟩ := hz
    unfold KOA_X2_squeeze_10 at ok
    unfold KA_X2_squeeze_10 at hx
    exact k5b_X2_squeeze_86 hR hS hM t_x0 t_x2 ok hx
set_option maxRecDepth 100000 in
set_option maxHeartbeats 4000000 in
theorem k5b_X2_squeeze_0 {u g H T N : Nat} {S : cS} {S0 : cS} {R_ : Prop} {X : cS → Prop} (hR : ∀ S', St u g H T S' → M5 g H S0 S' → X S' → R_) {x0 : Nat} {x1 : Int32} (hS : St u g H T S) (hM : M5 g H S0 S) (t_x0 : isO g H 2 x0) (ok : KO_X2_squeeze_0 N g H T x0 x1 S) (hx : X (KF_X2_squeeze_0 N g H T x0 x1 S)) : R_ := by
  unfold KO_X2_squeeze_0 at ok
  unfold KF_X2_squeeze_0 at hx
  exact k5d_X2_squeeze_10 hR hS hM t_x0 (hS.rk (c := 2) (k := 1) t_x0 rfl (by omega)) ok hx
set_option maxRecDepth 100000 in
set_option maxHeartbeats 4000000 in
theorem k5c_X2_squeeze {u g H T N : Nat} {S : cS} {a0 : Nat} {x1 : Int32} (hS : St u g H T S) (t_x0 : isO g H 2 a0) (ok : p_X2_squeeze N g H T S a0 x1) : St u g H T (k_X2_squeeze N g H T S a0 x1) ∧ M5 g H S (k_X2_squeeze N g H T S a0 x1) := by
  exact k5b_X2_squeeze_0 (X := fun F => F = k_X2_squeeze N g H T S a0 x1) (fun S' h1 h2 h => by rw [← h]; exact ⟨h1, h2⟩) hS M5.rfl' t_x0 ok rfl
set_option maxRecDepth 100000 in
set_option maxHeartbeats 4000000 in
theorem k5b_X2_close_165 {u g H T N : Nat} {S : cS} {S0 : cS} {R_ : Prop} {X : cS → Prop} (hR : ∀ S', St u g H T S' → M5 g H S0 S' → X S' → R_) (hS : St u g H T S) (hM : M5 g H S0 S) (ok : KO_X2_close_165 N g H T S) (hx : X (KF_X2_close_165 N g H T S)) : R_ := by
  unfold KO_X2_close_165 at ok
  unfold KF_X2_close_165 at hx
  exact hR _ hS hM hx
set_option maxRecDepth 100000 in
set_option maxHeartbeats 4000000 in
theorem k5b_X2_close_159 {u g H T N : Nat} {S : cS} {S0 : cS} {R_ : Prop} {X : Nat × cS → Prop} (hX0 : ∀ (S' : cS), St u g H T S' → M5 g H S0 S' → X (0, S') → R_) {rec : Nat → Option Nat → Int32 → Int32 → cS → Nat × cS} {rok : Nat → Option Nat → Int32 → Int32 → cS → Prop} (hrec : ∀ (x0 : Nat) (x1 : Option Nat) (x2 : Int32) (x5 : Int32) (S : cS), St u g H T S → M5 g H S0 S → isO g H 2 x0 → tK S 20 x1 → rok x0 x1 x2 x5 S → X (rec x0 x1 x2 x5 S) → R_) {x0 : Nat} {x1 : Option Nat} {x2 : Int32} {x5 : Int32} (hS : St u g H T S) (hM : M5 g H S0 S) (t_x0 : isO g H 2 x0) (t_x1 : tK S 20 x1) (ok : KO_X2_close_159 N g H T rok x0 x1 x2 x5 S) (hx : X (KF_X2_close_159 N g H T rec x0 x1 x2 x5 S)) : R_ := by
  unfold KO_X2_close_159 at ok
  unfold KF_X2_close_159 at hx
  exact hrec _ _ _ _ S hS hM t_x0 t_x1 ok hx
set_option maxRecDepth 100000 in
set_option maxHeartbeats 4000000 in
theorem k5bb_X2_close_125 {u g H T N : Nat} {S : cS} {S0 : cS} {R_ : Prop} {X : Nat × cS → Prop} (hX0 : ∀ (S' : cS), St u g H T S' → M5 g H S0 S' → X (0, S') → R_) {rec : Nat → Option Nat → Int32 → Int32 → cS → Nat × cS} {rok : Nat → Option Nat → Int32 → Int32 → cS → Prop} (hrec : ∀ (x0 : Nat) (x1 : Option Nat) (x2 : Int32) (x5 : Int32) (S : cS), St u g H T S → M5 g H S0 S → isO g H 2 x0 → tK S 20 x1 → rok x0 x1 x2 x5 S → X (rec x0 x1 x2 x5 S) → R_) {x0 : Nat} {x1 : Option Nat} {x2 : Int32} {x5 : Int32} (hS : St u g H T S) (hM : M5 g H S0 S) (t_x0 : isO g H 2 x0) (t_x1 : tK S 20 x1) (ok : KOB_X2_close_125 N g H T rok x0 x1 x2 x5 S) (hx : X (KB_X2_close_125 N g H T rec x0 x1 x2 x5 S)) : R_ := by
  unfold KOB_X2_close_125 at ok
  unfold KB_X2_close_125 at hx
  refine pif_p ok (fun c_129 => ?_) (fun c_129 => ?_)
  · have ok := ok.1 c_129
    have hx := xif_p c_129 hx
    exact hX0 S hS hM  hx
  · have ok := ok.2 c_129
    have hx := xif_n c_129 hx
    have ok := ok.2
    have hS := hS.Ab (za x1) (x2 + x5).toNatClampNeg (((cA S (x0 + 3) (x5 >>> ((nI 2) &&& 31)).toNatClampNeg) >>> (((nI 24) - ((nI 8) * (x5 &&& (nI 3)))) &&& 31)).toInt8.toInt32)
    have hM := hM.A (za x1) (x2 + x5).toNatClampNeg ((((cA S (x0 + 3) (x5 >>> ((nI 2) &&& 31)).toNatClampNeg) >>> (((nI 24) - ((nI 8) * (x5 &&& (nI 3)))) &&& 31)).toInt8.toInt32).toInt8.toInt32)
    have ok := ok.2
    exact k5b_X2_close_159 hX0 hrec hS hM t_x0 (tK_A t_x1) ok hx
set_option maxRecDepth 100000 in
set_option maxHeartbeats 4000000 in
theorem k5l_X2_close_125 {u g H T N : Nat} {S0 : cS} {R_ : Prop} {X : Nat × cS → Prop} (hX0 : ∀ (S' : cS), St u g H T S' → M5 g H S0 S' → X (0, S') → R_) : ∀ (n : Nat) (x0 : Nat) (x1 : Option Nat) (x2 : Int32) (x5 : Int32) (S : cS), St u g H T S → M5 g H S0 S → isO g H 2 x0 → tK S 20 x1 → KOL_X2_close_125 N g H T n x0 x1 x2 x5 S → X (KL_X2_close_125 N g H T n x0 x1 x2 x5 S) → R_ := by
  intro n
  induction n with
  | zero => intro x0 x1 x2 x5 S hS hM t_x0 t_x1 ok; exact absurd ok id
  | succ n ih =>
    intro x0 x1 x2 x5 S hS hM t_x0 t_x1 ok hx
    exact k5bb_X2_close_125 hX0 (rec := KL_X2_close_125 N g H T n) (rok := KOL_X2_close_125 N g H T n) (fun x0 x1 x2 x5 S hS hM t_x0 t_x1 ok hx => ih x0 x1 x2 x5 S hS hM t_x0 t_x1 ok hx) hS hM t_x0 t_x1 ok hx
set_option maxRecDepth 100000 in
set_option maxHeartbeats 4000000 in
theorem k5d_X2_close_125 {u g H T N : Nat} {S : cS} {S0 : cS} {R_ : Prop} {X : cS → Prop} (hR : ∀ S', St u g H T S' → M5 g H S0 S' → X S' → R_) {x0 : Nat} {x1 : Option Nat} {x2 : Int32} {x5 : Int32} (hS : St u g H T S) (hM : M5 g H S0 S) (t_x0 : isO g H 2 x0) (t_x1 : tK S 20 x1) (ok : KOL_X2_close_125 N g H T N x0 x1 x2 x5 S ∧ KOA_X2_close_125 N g H T x0 x1 x2 x5 S (KL_X2_close_125 N g H T N x0 x1 x2 x5 S)) (hx : X (KA_X2_close_125 N g H T x0 x1 x2 x5 S (KL_X2_close_125 N g H T N x0 x1 x2 x5 S))) : R_ := by
  refine k5l_X2_close_125 ?_ N x0 x1 x2 x5 S hS hM t_x0 t_x1 ok.1 (X := fun z => KOA_X2_close_125 N g H T x0 x1 x2 x5 S z ∧ X (KA_X2_close_125 N g H T x0 x1 x2 x5 S z)) ⟨ok.2, hx⟩
  · intro S' hS hM hz
    obtain ⟨ok, hx⟩ := hz
    unfold KOA_X2_close_125 at ok
    unfold KA_X2_close_125 at hx
    exact k5b_X2_close_165 hR hS hM  ok hx
set_option maxRecDepth 100000 in
set_option maxHeartbeats 4000000 in
theorem k5b_X2_close_109 {u g H T N : Nat} {S : cS} {S0 : cS} {R_ : Prop} {X : cS → Prop} (hR : ∀ S', St u g H T S' → M5 g H S0 S' → X S' → R_) {x0 : Nat} {x1 : Option Nat} {x2 : Int32} (hS : St u g H T S) (hM : M5 g H S0 S) (t_x0 : isO g H 2 x0) (t_x1 : tK S 20 x1) (ok : KO_X2_close_109 N g H T x0 x1 x2 S) (hx : X (KF_X2_close_109 N g H T x0 x1 x2 S)) : R_ := by
  unfold KO_X2_close_109 at ok
  unfold KF_X2_close_109 at hx
  refine pif_p ok (fun c_110 => ?_) (fun c_110 => ?_)
  · have ok := ok.1 c_110
    have hx := xif_p c_110 hx
    exact k5b_X2_close_165 hR hS hM  ok hx
  · have ok := ok.2 c_110
    have hx := xif_n c_110 hx
    have ok := ok.2
    refine pif_p ok (fun c_119 => ?_) (fun c_119 => ?_)
    · have ok := ok.1 c_119
      have hx := xif_p c_119 hx
      exact k5b_X2_close_165 hR hS hM  ok hx
    · have ok := ok.2 c_119
      have hx := xif_n c_119 hx
      exact k5d_X2_close_125 hR hS hM t_x0 t_x1 ok hx
set_option maxRecDepth 100000 in
set_option maxHeartbeats 4000000 in
theorem k5b_X2_close_103 {u g H T N : Nat} {S : cS} {S0 : cS} {R_ : Prop} {X : Nat × Nat × Option Nat × Int32 × cS → Prop} (hX0 : ∀ (x0 : Nat) (x1 : Option Nat) (x2 : Int32) (S' : cS), St u g H T S' → M5 g H S0 S' → isO g H 2 x0 → tK S' 20 x1 → X (0, x0, x1, x2, S') → R_) {rec : Nat → Option Nat → Int32 → Int32 → Int32 → cS → Nat × Nat × Option Nat × Int32 × cS} {rok : Nat → Option Nat → Int32 → Int32 → Int32 → cS → Prop} (hrec : ∀ (x0 : Nat) (x1 : Option Nat) (x2 : Int32) (x4 : Int32) (x5 : Int32) (S : cS), St u g H T S → M5 g H S0 S → isO g H 2 x0 → tK S 20 x1 → rok x0 x1 x2 x4 x5 S → X (rec x0 x1 x2 x4 x5 S) → R_) {x0 : Nat} {x1 : Option Nat} {x2 : Int32} {x4 : Int32} {x5 : Int32} (hS : St u g H T S) (hM : M5 g H S0 S) (t_x0 : isO g H 2 x0) (t_x1 : tK S 20 x1) (ok : KO_X2_close_103 N g H T rok x0 x1 x2 x4 x5 S) (hx : X (KF_X2_close_103 N g H T rec x0 x1 x2 x4 x5 S)) : R_ := by
  unfold KO_X2_close_103 at ok
  unfold KF_X2_close_103 at hx
  exact hrec _ _ _ _ _ S hS hM t_x0 t_x1 ok hx
set_option maxRecDepth 100000 in
set_option maxHeartbeats 4000000 in
theorem k5bb_X2_close_90 {u g H T N : Nat} {S : cS} {S0 : cS} {R_ : Prop} {X : Nat × Nat × Option Nat × Int32 × cS → Prop} (hX0 : ∀ (x0 : Nat) (x1 : Option Nat) (x2 : Int32) (S' : cS), St u g H T S' → M5 g H S0 S' → isO g H 2 x0 → tK S' 20 x1 → X (0, x0, x1, x2, S') → R_) {rec : Nat → Option Nat → Int32 → Int32 → Int32 → cS → Nat × Nat × Option Nat × Int32 × cS} {rok : Nat → Option Nat → Int32 → Int32 → Int32 → cS → Prop} (hrec : ∀ (x0 : Nat) (x1 : Option Nat) (x2 : Int32) (x4 : Int32) (x5 : Int32) (S : cS), St u g H T S → M5 g H S0 S → isO g H 2 x0 → tK S 20 x1 → rok x0 x1 x2 x4 x5 S → X (rec x0 x1 x2 x4 x5 S) → R_) {x0 : Nat} {x1 : Option Nat} {x2 : Int32} {x4 : Int32} {x5 : Int32} (hS : St u g H T S) (hM : M5 g H S0 S) (t_x0 : isO g H 2 x0) (t_x1 : tK S 20 x1) (ok : KOB_X2_close_90 N g H T rok x0 x1 x2 x4 x5 S) (hx : X (KB_X2_close_90 N g H T rec x0 x1 x2 x4 x5 S)) : R_ := by
  unfold KOB_X2_close_90 at ok
  unfold KB_X2_close_90 at hx
  refine pif_p ok (fun c_94 => ?_) (fun c_94 => ?_)
  · have ok := ok.1 c_94
    have hx := xif_p c_94 hx
    exact hX0 _ _ _ S hS hM t_x0 t_x1 hx
  · have ok := ok.2 c_94
    have hx := xif_n c_94 hx
    obtain ⟨hS, hm_100⟩ := k5c_X2_squeeze hS t_x0 ok.1
    have hM := hM.trans hm_100
    have ok := ok.2
    exact k5b_X2_close_103 hX0 hrec hS hM t_x0 (hm_100.tK t_x1 (by decide)) ok hx
set_option maxRecDepth 100000 in
set_option maxHeartbeats 4000000 in
theorem k5l_X2_close_90 {u g H T N : Nat} {S0 : cS} {R_ : Prop} {X : Nat × Nat × Option Nat × Int32 × cS → Prop} (hX0 : ∀ (x0 : Nat) (x1 : Option Nat) (x2 : Int32) (S' : cS), St u g H T S' → M5 g H S0 S' → isO g H 2 x0 → tK S' 20 x1 → X (0, x0, x1, x2, S') → R_) : ∀ (n : Nat) (x0 : Nat) (x1 : Option Nat) (x2 : Int32) (x4 : Int32) (x5 : Int32) (S : cS), St u g H T S → M5 g H S0 S → isO g H 2 x0 → tK S 20 x1 → KOL_X2_close_90 N g H T n x0 x1 x2 x4 x5 S → X (KL_X2_close_90 N g H T n x0 x1 x2 x4 x5 S) → R_ := by
  intro n
  induction n with
  | zero => intro x0 x1 x2 x4 x5 S hS hM t_x0 t_x1 ok; exact absurd ok id
  | succ n ih =>
    intro x0 x1 x2 x4 x5 S hS hM t_x0 t_x1 ok hx
    exact k5bb_X2_close_90 hX0 (rec := KL_X2_close_90 N g H T n) (rok := KOL_X2_close_90 N g H T n) (fun x0 x1 x2 x4 x5 S hS hM t_x0 t_x1 ok hx => ih x0 x1 x2 x4 x5 S hS hM t_x0 t_x1 ok hx) hS hM t_x0 t_x1 ok hx
set_option maxRecDepth 100000 in
set_option maxHeartbeats 4000000 in
theorem k5d_X2_close_90 {u g H T N : Nat} {S : cS} {S0 : cS} {R_ : Prop} {X : cS → Prop} (hR : ∀ S', St u g H T S' → M5 g H S0 S' → X S' → R_) {x0 : Nat} {x1 : Option Nat} {x2 : Int32} {x4 : Int32} {x5 : Int32} (hS : St u g H T S) (hM : M5 g H S0 S) (t_x0 : isO g H 2 x0) (t_x1 : tK S 20 x1) (ok : KOL_X2_close_90 N g H T N x0 x1 x2 x4 x5 S ∧ KOA_X2_close_90 N g H T x0 x1 x2 x4 x5 S (KL_X2_close_90 N g H T N x0 x1 x2 x4 x5 S)) (hx : X (KA_X2_close_90 N g H T x0 x1 x2 x4 x5 S (KL_X2_close_90 N g H T N x0 x1 x2 x4 x5 S))) : R_ := by
  refine k5l_X2_close_90 ?_ N x0 x1 x2 x4 x5 S hS hM t_x0 t_x1 ok.1 (X := fun z => KOA_X2_close_90 N g H T x0 x1 x2 x4 x5 S z ∧ X (KA_X2_close_90 N g H T x0 x1 x2 x4 x5 S z)) ⟨ok.2, hx⟩
  · intro x0' x1' x2' S' hS hM t_x0 t_x1 hz
    obtain ⟨ok, hx⟩ := hz
    unfold KOA_X2_close_90 at ok
    unfold KA_X2_close_90 at hx
    exact k5b_X2_close_109 hR hS hM t_x0 t_x1 ok hx
set_option maxRecDepth 100000 in
set_option maxHeartbeats 4000000 in
theorem k5b_X2_close_87 {u g H T N : Nat} {S : cS} {S0 : cS} {R_ : Prop} {X : cS → Prop} (hR : ∀ S', St u g H T S' → M5 g H S0 S' → X S' → R_) {x0 : Nat} {x1 : Option Nat} {x2 : Int32} {x4 : Int32} (hS : St u g H T S) (hM : M5 g H S0 S) (t_x0 : isO g H 2 x0) (t_x1 : tK S 20 x1) (ok : KO_X2_close_87 N g H T x0 x1 x2 x4 S) (hx : X (KF_X2_close_87 N g H T x0 x1 x2 x4 S)) : R_ := by
  unfold KO_X2_close_87 at ok
  unfold KF_X2_close_87 at hx
  exact k5d_X2_close_90 hR hS hM t_x0 t_x1 ok hx
set_option maxRecDepth 100000 in
set_option maxHeartbeats 4000000 in
theorem k5b_X2_close_62 {u g H T N : Nat} {S : cS} {S0 : cS} {R_ : Prop} {X : cS → Prop} (hR : ∀ S', St u g H T S' → M5 g H S0 S' → X S' → R_) {x0 : Nat} {x1 : Option Nat} {x2 : Int32} {x3 : Int32} {x4 : Int32} (hS : St u g H T S) (hM : M5 g H S0 S) (t_x0 : isO g H 2 x0) (t_x1 : tK S 20 x1) (ok : KO_X2_close_62 N g H T x0 x1 x2 x3 x4 S) (hx : X (KF_X2_close_62 N g H T x0 x1 x2 x3 x4 S)) : R_ := by
  unfold KO_X2_close_62 at ok
  unfold KF_X2_close_62 at hx
  have hS := hS.Ab (x0 + 1) (x4 - (nI 1)).toNatClampNeg (x3.toInt8.toInt32)
  have hM := hM.A (x0 + 1) (x4 - (nI 1)).toNatClampNeg ((x3.toInt8.toInt32).toInt8.toInt32)
  have ok := ok.2
  have tq_84 : tK (csA S (x0 + 1) (x4 - (nI 1)).toNatClampNeg ((x3.toInt8.toInt32).toInt8.toInt32)) 21 (some (x0 + 3)) := tK_some (tK.cis (hS.rk (c := 2) (k := 2) t_x0 rfl (by omega)) (Option.some_ne_none _)).2
  have hS := hS.Ad (k := 21) (x0 + 3) (va_cpy (fun j => zFIRST.getD j 0) (cA (csA S (x0 + 1) (x4 - (nI 1)).toNatClampNeg ((x3.toInt8.toInt32).toInt8.toInt32)) (x0 + 3)) (nI 0).toNatClampNeg (nI 0).toNatClampNeg (nI 8).toNatClampNeg) tq_84 (by decide)
  have hM := hM.Ar (x0 + 3) (va_cpy (fun j => zFIRST.getD j 0) (cA (csA S (x0 + 1) (x4 - (nI 1)).toNatClampNeg ((x3.toInt8.toInt32).toInt8.toInt32)) (x0 + 3)) (nI 0).toNatClampNeg (nI 0).toNatClampNeg (nI 8).toNatClampNeg)
  have ok := ok.2
  exact k5b_X2_close_87 hR hS hM t_x0 (tK_Ar (tK_A t_x1)) ok hx
set_option maxRecDepth 100000 in
set_option maxHeartbeats 4000000 in
theorem k5b_X2_close_37 {u g H T N : Nat} {S : cS} {S0 : cS} {R_ : Prop} {X : cS → Prop} (hR : ∀ S', St u g H T S' → M5 g H S0 S' → X S' → R_) {x0 : Nat} {x1 : Option Nat} {x2 : Int32} {x3 : Int32} {x4 : Int32} (hS : St u g H T S) (hM : M5 g H S0 S) (t_x0 : isO g H 2 x0) (t_x1 : tK S 20 x1) (ok : KO_X2_close_37 N g H T x0 x1 x2 x3 x4 S) (hx : X (KF_X2_close_37 N g H T x0 x1 x2 x3 x4 S)) : R_ := by
  unfold KO_X2_close_37 at ok
  unfold KF_X2_close_37 at hx
  have hS := hS.Ab (x0 + 1) (cI S 4 x0).toNatClampNeg (-128)
  have hM := hM.A (x0 + 1) (cI S 4 x0).toNatClampNeg ((-128).toInt8.toInt32)
  have ok := ok.2
  have hS := hS.Ab (x0 + 1) (x4 - (nI 2)).toNatClampNeg ((x3 >>> ((nI 8) &&& 31)).toInt8.toInt32)
  have hM := hM.A (x0 + 1) (x4 - (nI 2)).toNatClampNeg (((x3 >>> ((nI 8) &&& 31)).toInt8.toInt32).toInt8.toInt32)
  have ok := ok.2
  exact k5b_X2_close_62 hR hS hM t_x0 (tK_A (tK_A t_x1)) ok hx
set_option maxRecDepth 100000 in
set_option maxHeartbeats 4000000 in
theorem k5b_X2_close_0 {u g H T N : Nat} {S : cS} {S0 : cS} {R_ : Prop} {X : cS → Prop} (hR : ∀ S', St u g H T S' → M5 g H S0 S' → X S' → R_) {x0 : Nat} {x1 : Option Nat} {x2 : Int32} (hS : St u g H T S) (hM : M5 g H S0 S) (t_x0 : isO g H 2 x0) (t_x1 : tK S 20 x1) (ok : KO_X2_close_0 N g H T x0 x1 x2 S) (hx : X (KF_X2_close_0 N g H T x0 x1 x2 S)) : R_ := by
  unfold KO_X2_close_0 at ok
  unfold KF_X2_close_0 at hx
  obtain ⟨hS, hm_34⟩ := k5c_J7_fill_eb02e hS (hS.rk (c := 2) (k := 0) t_x0 rfl (by omega)) ok.1
  have hM := hM.trans hm_34
  have ok := ok.2
  exact k5b_X2_close_37 hR hS hM t_x0 (hm_34.tK t_x1 (by decide)) ok hx
set_option maxRecDepth 100000 in
set_option maxHeartbeats 4000000 in
theorem k5c_X2_close {u g H T N : Nat} {S : cS} {a0 : Nat} {x1 : Option Nat} {x2 : Int32} (hS : St u g H T S) (t_x0 : isO g H 2 a0) (t_x1 : tK S 20 x1) (ok : p_X2_close N g H T S a0 x1 x2) : St u g H T (k_X2_close N g H T S a0 x1 x2) ∧ M5 g H S (k_X2_close N g H T S a0 x1 x2) := by
  exact k5b_X2_close_0 (X := fun F => F = k_X2_close N g H T S a0 x1 x2) (fun S' h1 h2 h => by rw [← h]; exact ⟨h1, h2⟩) hS M5.rfl' t_x0 t_x1 ok rfl
set_option maxRecDepth 100000 in
set_option maxHeartbeats 4000000 in
theorem k5b_X2_leaf_50 {u g H T N : Nat} {S : cS} {S0 : cS} {R_ : Prop} {X : cS → Prop} (hR : ∀ S', St u g H T S' → M5 g H S0 S' → X S' → R_) (hS : St u g H T S) (hM : M5 g H S0 S) (ok : KO_X2_leaf_50 N g H T S) (hx : X (KF_X2_leaf_50 N g H T S)) : R_ := by
  unfold KO_X2_leaf_50 at ok
  unfold KF_X2_leaf_50 at hx
  exact hR _ hS hM hx
set_option maxRecDepth 100000 in
set_option maxHeartbeats 4000000 in
theorem k5b_X2_leaf_40 {u g H T N : Nat} {S : cS} {S0 : cS} {R_ : Prop} {X : cS → Prop} (hR : ∀ S', St u g H T S' → M5 g H S0 S' → X S' → R_) {x0 : Nat} (hS : St u g H T S) (hM : M5 g H S0 S) (t_x0 : isO g H 2 x0) (ok : KO_X2_leaf_40 N g H T x0 S) (hx : X (KF_X2_leaf_40 N g H T x0 S)) : R_ := by
  unfold KO_X2_leaf_40 at ok
  unfold KF_X2_leaf_40 at hx
  have hS0 := hS
  have hS := hS.I 5 x0 ((cI S 5 x0) + (nI 1))
  have hM := hM.I5 x0 ((cI S 5 x0) + (nI 1)) (ne5O hS0 t_x0 (by decide))
  exact k5b_X2_leaf_50 hR hS hM  ok hx
set_option maxRecDepth 100000 in
set_option maxHeartbeats 4000000 in
theorem k5b_X2_leaf_25 {u g H T N : Nat} {S : cS} {S0 : cS} {R_ : Prop} {X : cS → Prop} (hR : ∀ S', St u g H T S' → M5 g H S0 S' → X S' → R_) {x0 : Nat} (hS : St u g H T S) (hM : M5 g H S0 S) (t_x0 : isO g H 2 x0) (ok : KO_X2_leaf_25 N g H T x0 S) (hx : X (KF_X2_leaf_25 N g H T x0 S)) : R_ := by
  unfold KO_X2_leaf_25 at ok
  unfold KF_X2_leaf_25 at hx
  obtain ⟨hS, hm_37⟩ := k5c_X2_close hS t_x0 (hS.rk (c := 2) (k := 3) t_x0 rfl (by omega)) ok.1
  have hM := hM.trans hm_37
  have ok := ok.2
  exact k5b_X2_leaf_40 hR hS hM t_x0 ok hx
set_option maxRecDepth 100000 in
set_option maxHeartbeats 4000000 in
theorem k5b_X2_leaf_18 {u g H T N : Nat} {S : cS} {S0 : cS} {R_ : Prop} {X : cS → Prop} (hR : ∀ S', St u g H T S' → M5 g H S0 S' → X S' → R_) {x0 : Nat} {x1 : Option Nat} {x2 : Int32} {x3 : Int32} (hS : St u g H T S) (hM : M5 g H S0 S) (t_x0 : isO g H 2 x0) (t_x1 : tK S 20 x1) (ok : KO_X2_leaf_18 N g H T x0 x1 x2 x3 S) (hx : X (KF_X2_leaf_18 N g H T x0 x1 x2 x3 S)) : R_ := by
  unfold KO_X2_leaf_18 at ok
  unfold KF_X2_leaf_18 at hx
  obtain ⟨hS, hm_22⟩ := k5c_X2_add_ hS t_x0 t_x1 ok.1
  have hM := hM.trans hm_22
  have ok := ok.2
  exact k5b_X2_leaf_25 hR hS hM t_x0 ok hx
set_option maxRecDepth 100000 in
set_option maxHeartbeats 4000000 in
theorem k5b_X2_leaf_13 {u g H T N : Nat} {S : cS} {S0 : cS} {R_ : Prop} {X : cS → Prop} (hR : ∀ S', St u g H T S' → M5 g H S0 S' → X S' → R_) {x0 : Nat} {x1 : Option Nat} {x2 : Int32} {x3 : Int32} (hS : St u g H T S) (hM : M5 g H S0 S) (t_x0 : isO g H 2 x0) (t_x1 : tK S 20 x1) (ok : KO_X2_leaf_13 N g H T x0 x1 x2 x3 S) (hx : X (KF_X2_leaf_13 N g H T x0 x1 x2 x3 S)) : R_ := by
  unfold KO_X2_leaf_13 at ok
  unfold KF_X2_leaf_13 at hx
  obtain ⟨hS, hm_15⟩ := k5c_X2_add hS t_x0 ok.1
  have hM := hM.trans hm_15
  have ok := ok.2
  exact k5b_X2_leaf_18 hR hS hM t_x0 (hm_15.tK t_x1 (by decide)) ok hx
set_option maxRecDepth 100000 in
set_option maxHeartbeats 4000000 in
theorem k5b_X2_leaf_0 {u g H T N : Nat} {S : cS} {S0 : cS} {R_ : Prop} {X : cS → Prop} (hR : ∀ S', St u g H T S' → M5 g H S0 S' → X S' → R_) {x0 : Nat} {x1 : Option Nat} {x2 : Int32} {x3 : Int32} (hS : St u g H T S) (hM : M5 g H S0 S) (t_x0 : isO g H 2 x0) (t_x1 : tK S 20 x1) (ok : KO_X2_leaf_0 N g H T x0 x1 x2 x3 S) (hx : X (KF_X2_leaf_0 N g H T x0 x1 x2 x3 S)) : R_ := by
  unfold KO_X2_leaf_0 at ok
  unfold KF_X2_leaf_0 at hx
  refine pif_p ok (fun c_6 => ?_) (fun c_6 => ?_)
  · have ok := ok.1 c_6
    have hx := xif_p c_6 hx
    exact k5b_X2_leaf_50 hR hS hM  ok hx
  · have ok := ok.2 c_6
    have hx := xif_n c_6 hx
    obtain ⟨hS, hm_10⟩ := k5c_X2_open hS t_x0 ok.1
    have hM := hM.trans hm_10
    have ok := ok.2
    exact k5b_X2_leaf_13 hR hS hM t_x0 (hm_10.tK t_x1 (by decide)) ok hx
set_option maxRecDepth 100000 in
set_option maxHeartbeats 4000000 in
theorem k5c_X2_leaf {u g H T N : Nat} {S : cS} {a0 : Nat} {x1 : Option Nat} {x2 : Int32} {x3 : Int32} (hS : St u g H T S) (t_x0 : isO g H 2 a0) (t_x1 : tK S 20 x1) (ok : p_X2_leaf N g H T S a0 x1 x2 x3) : St u g H T (k_X2_leaf N g H T S a0 x1 x2 x3) ∧ M5 g H S (k_X2_leaf N g H T S a0 x1 x2 x3) := by
  exact k5b_X2_leaf_0 (X := fun F => F = k_X2_leaf N g H T S a0 x1 x2 x3) (fun S' h1 h2 h => by rw [← h]; exact ⟨h1, h2⟩) hS M5.rfl' t_x0 t_x1 ok rfl
set_option maxRecDepth 100000 in
set_option maxHeartbeats 4000000 in
theorem k5b_X0_plant_39 {u g H T N : Nat} {S : cS} {S0 : cS} {R_ : Prop} {X : cS → Prop} (hR : ∀ S', St u g H T S' → M5 g H S0 S' → X S' → R_) (hS : St u g H T S) (hM : M5 g H S0 S) (ok : KO_X0_plant_39 N g H T S) (hx : X (KF_X0_plant_39 N g H T S)) : R_ := by
  unfold KO_X0_plant_39 at ok
  unfold KF_X0_plant_39 at hx
  exact hR _ hS hM hx
set_option maxRecDepth 100000 in
set_option maxHeartbeats 4000000 in
theorem k5b_X0_plant_33 {u g H T N : Nat} {S : cS} {S0 : cS} {R_ : Prop} {X : Nat × cS → Prop} (hX0 : ∀ (S' : cS), St u g H T S' → M5 g H S0 S' → X (0, S') → R_) {rec : Nat → Nat → Int32 → cS → Nat × cS} {rok : Nat → Nat → Int32 → cS → Prop} (hrec : ∀ (x0 : Nat) (x1 : Nat) (x2 : Int32) (S : cS), St u g H T S → M5 g H S0 S → isO g H 0 x0 → isO g H 2 x1 → rok x0 x1 x2 S → X (rec x0 x1 x2 S) → R_) {x0 : Nat} {x1 : Nat} {x2 : Int32} (hS : St u g H T S) (hM : M5 g H S0 S) (t_x0 : isO g H 0 x0) (t_x1 : isO g H 2 x1) (ok : KO_X0_plant_33 N g H T rok x0 x1 x2 S) (hx : X (KF_X0_plant_33 N g H T rec x0 x1 x2 S)) : R_ := by
  unfold KO_X0_plant_33 at ok
  unfold KF_X0_plant_33 at hx
  exact hrec _ _ _ S hS hM t_x0 t_x1 ok hx
set_option maxRecDepth 100000 in
set_option maxHeartbeats 4000000 in
theorem k5b_X0_plant_22 {u g H T N : Nat} {S : cS} {S0 : cS} {R_ : Prop} {X : Nat × cS → Prop} (hX0 : ∀ (S' : cS), St u g H T S' → M5 g H S0 S' → X (0, S') → R_) {rec : Nat → Nat → Int32 → cS → Nat × cS} {rok : Nat → Nat → Int32 → cS → Prop} (hrec : ∀ (x0 : Nat) (x1 : Nat) (x2 : Int32) (S : cS), St u g H T S → M5 g H S0 S → isO g H 0 x0 → isO g H 2 x1 → rok x0 x1 x2 S → X (rec x0 x1 x2 S) → R_) {x0 : Nat} {x1 : Nat} {x2 : Int32} (hS : St u g H T S) (hM : M5 g H S0 S) (t_x0 : isO g H 0 x0) (t_x1 : isO g H 2 x1) (ok : KO_X0_plant_22 N g H T rok x0 x1 x2 S) (hx : X (KF_X0_plant_22 N g H T rec x0 x1 x2 S)) : R_ := by
  unfold KO_X0_plant_22 at ok
  unfold KF_X0_plant_22 at hx
  obtain ⟨hS, hm_30⟩ := k5c_X2_leaf hS t_x1 (hS.rk (c := 0) (k := 4) t_x0 rfl (by omega)) ok.1
  have hM := hM.trans hm_30
  have ok := ok.2
  exact k5b_X0_plant_33 hX0 hrec hS hM t_x0 t_x1 ok hx
set_option maxRecDepth 100000 in
set_option maxHeartbeats 4000000 in
theorem k5bb_X0_plant_6 {u g H T N : Nat} {S : cS} {S0 : cS} {R_ : Prop} {X : Nat × cS → Prop} (hX0 : ∀ (S' : cS), St u g H T S' → M5 g H S0 S' → X (0, S') → R_) {rec : Nat → Nat → Int32 → cS → Nat × cS} {rok : Nat → Nat → Int32 → cS → Prop} (hrec : ∀ (x0 : Nat) (x1 : Nat) (x2 : Int32) (S : cS), St u g H T S → M5 g H S0 S → isO g H 0 x0 → isO g H 2 x1 → rok x0 x1 x2 S → X (rec x0 x1 x2 S) → R_) {x0 : Nat} {x1 : Nat} {x2 : Int32} (hS : St u g H T S) (hM : M5 g H S0 S) (t_x0 : isO g H 0 x0) (t_x1 : isO g H 2 x1) (ok : KOB_X0_plant_6 N g H T rok x0 x1 x2 S) (hx : X (KB_X0_plant_6 N g H T rec x0 x1 x2 S)) : R_ := by
  unfold KOB_X0_plant_6 at ok
  unfold KB_X0_plant_6 at hx
  refine pif_p ok (fun c_9 => ?_) (fun c_9 => ?_)
  · have ok := ok.1 c_9
    have hx := xif_p c_9 hx
    exact hX0 S hS hM  hx
  · have ok := ok.2 c_9
    have hx := xif_n c_9 hx
    obtain ⟨hS, hm_19⟩ := k5c_X0_encode hS t_x0 (hS.rk (c := 0) (k := 4) t_x0 rfl (by omega)) ok.1
    have hM := hM.trans hm_19
    have ok := ok.2
    exact k5b_X0_plant_22 hX0 hrec hS hM t_x0 t_x1 ok hx
set_option maxRecDepth 100000 in
set_option maxHeartbeats 4000000 in
theorem k5l_X0_plant_6 {u g H T N : Nat} {S0 : cS} {R_ : Prop} {X : Nat × cS → Prop} (hX0 : ∀ (S' : cS), St u g H T S' → M5 g H S0 S' → X (0, S') → R_) : ∀ (n : Nat) (x0 : Nat) (x1 : Nat) (x2 : Int32) (S : cS), St u g H T S → M5 g H S0 S → isO g H 0 x0 → isO g H 2 x1 → KOL_X0_plant_6 N g H T n x0 x1 x2 S → X (KL_X0_plant_6 N g H T n x0 x1 x2 S) → R_ := by
  intro n
  induction n with
  | zero => intro x0 x1 x2 S hS hM t_x0 t_x1 ok; exact absurd ok id
  | succ n ih =>
    intro x0 x1 x2 S hS hM t_x0 t_x1 ok hx
    exact k5bb_X0_plant_6 hX0 (rec := KL_X0_plant_6 N g H T n) (rok := KOL_X0_plant_6 N g H T n) (fun x0 x1 x2 S hS hM t_x0 t_x1 ok hx => ih x0 x1 x2 S hS hM t_x0 t_x1 ok hx) hS hM t_x0 t_x1 ok hx
set_option maxRecDepth 100000 in
set_option maxHeartbeats 4000000 in
theorem k5d_X0_plant_6 {u g H T N : Nat} {S : cS} {S0 : cS} {R_ : Prop} {X : cS → Prop} (hR : ∀ S', St u g H T S' → M5 g H S0 S' → X S' → R_) {x0 : Nat} {x1 : Nat} {x2 : Int32} (hS : St u g H T S) (hM : M5 g H S0 S) (t_x0 : isO g H 0 x0) (t_x1 : isO g H 2 x1) (ok : KOL_X0_plant_6 N g H T N x0 x1 x2 S ∧ KOA_X0_plant_6 N g H T x0 x1 x2 S (KL_X0_plant_6 N g H T N x0 x1 x2 S)) (hx : X (KA_X0_plant_6 N g H T x0 x1 x2 S (KL_X0_plant_6 N g H T N x0 x1 x2 S))) : R_ := by
  refine k5l_X0_plant_6 ?_ N x0 x1 x2 S hS hM t_x0 t_x1 ok.1 (X := fun z => KOA_X0_plant_6 N g H T x0 x1 x2 S z ∧ X (KA_X0_plant_6 N g H T x0 x1 x2 S z)) ⟨ok.2, hx⟩
  · intro S' hS hM hz
    obtain ⟨ok, hx⟩ := hz
    unfold KOA_X0_plant_6 at ok
    unfold KA_X0_plant_6 at hx
    exact k5b_X0_plant_39 hR hS hM  ok hx
set_option maxRecDepth 100000 in
set_option maxHeartbeats 4000000 in
theorem k5b_X0_plant_4 {u g H T N : Nat} {S : cS} {S0 : cS} {R_ : Prop} {X : cS → Prop} (hR : ∀ S', St u g H T S' → M5 g H S0 S' → X S' → R_) {x0 : Nat} {x1 : Nat} (hS : St u g H T S) (hM : M5 g H S0 S) (t_x0 : isO g H 0 x0) (t_x1 : isO g H 2 x1) (ok : KO_X0_plant_4 N g H T x0 x1 S) (hx : X (KF_X0_plant_4 N g H T x0 x1 S)) : R_ := by
  unfold KO_X0_plant_4 at ok
  unfold KF_X0_plant_4 at hx
  exact k5d_X0_plant_6 hR hS hM t_x0 t_x1 ok hx
set_option maxRecDepth 100000 in
set_option maxHeartbeats 4000000 in
theorem k5b_X0_plant_0 {u g H T N : Nat} {S : cS} {S0 : cS} {R_ : Prop} {X : cS → Prop} (hR : ∀ S', St u g H T S' → M5 g H S0 S' → X S' → R_) {x0 : Nat} {x1 : Nat} (hS : St u g H T S) (hM : M5 g H S0 S) (t_x0 : isO g H 0 x0) (t_x1 : isO g H 2 x1) (ok : KO_X0_plant_0 N g H T x0 x1 S) (hx : X (KF_X0_plant_0 N g H T x0 x1 S)) : R_ := by
  unfold KO_X0_plant_0 at ok
  unfold KF_X0_plant_0 at hx
  obtain ⟨hS, hm_1⟩ := k5c_X2_clear hS t_x1 ok.1
  have hM := hM.trans hm_1
  have ok := ok.2
  exact k5b_X0_plant_4 hR hS hM t_x0 t_x1 ok hx
set_option maxRecDepth 100000 in
set_option maxHeartbeats 4000000 in
theorem k5c_X0_plant {u g H T N : Nat} {S : cS} {a0 : Nat} {x1 : Nat} (hS : St u g H T S) (t_x0 : isO g H 0 a0) (t_x1 : isO g H 2 x1) (ok : p_X0_plant N g H T S a0 x1) : St u g H T (k_X0_plant N g H T S a0 x1) ∧ M5 g H S (k_X0_plant N g H T S a0 x1) := by
  exact k5b_X0_plant_0 (X := fun F => F = k_X0_plant N g H T S a0 x1) (fun S' h1 h2 h => by rw [← h]; exact ⟨h1, h2⟩) hS M5.rfl' t_x0 t_x1 ok rfl

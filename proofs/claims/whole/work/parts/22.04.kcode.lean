/-! X0_isLike -/
def KF_X0_isLike_62 (N g H T : Nat) (s0 : Int32) (S : cS) : Int32 := s0
def KO_X0_isLike_62 (N g H T : Nat) (s0 : Int32) (S : cS) : Prop := narrow .boolean (.int s0) = .int s0
set_option maxRecDepth 100000 in
set_option maxHeartbeats 4000000 in
theorem kb_X0_isLike_62 {G : zG} {o : cO} {u g H T N : Nat} {S : cS} {Q : Option Value → cS → Prop} {X : Int32 → Prop} (hG : zOK G) (hR : ∀ v, X v → Q (some (.int v)) S) {s0 : Int32} (hS : St u g H T S) (ok : KO_X0_isLike_62 N g H T s0 S) (hx : X (KF_X0_isLike_62 N g H T s0 S)) : cX G o dX0_isLike mX0_isLike 62 [none, none, none] [.int s0] S Q := by
  unfold KO_X0_isLike_62 at ok
  unfold KF_X0_isLike_62 at hx
  exact c_ireturn rfl ok dX0_isLike_62 (hR _ hx)
def KF_X0_isLike_46 (N g H T : Nat) (x0 : Nat) (x1 : Nat) (S : cS) : Int32 := (if (cI S 2 x0) = (cI S 2 x1) then (KF_X0_isLike_62 N g H T (nI 1) S) else (KF_X0_isLike_62 N g H T (nI 0) S))
def KO_X0_isLike_46 (N g H T : Nat) (x0 : Nat) (x1 : Nat) (S : cS) : Prop := (((cI S 2 x0) = (cI S 2 x1) → KO_X0_isLike_62 N g H T (nI 1) S) ∧ (¬ (cI S 2 x0) = (cI S 2 x1) → KO_X0_isLike_62 N g H T (nI 0) S))
set_option maxRecDepth 100000 in
set_option maxHeartbeats 4000000 in
theorem kb_X0_isLike_46 {G : zG} {o : cO} {u g H T N : Nat} {S : cS} {Q : Option Value → cS → Prop} {X : Int32 → Prop} (hG : zOK G) (hR : ∀ v, X v → Q (some (.int v)) S) {x0 : Nat} {x1 : Nat} (hS : St u g H T S) (t_x0 : isO g H 0 x0) (t_x1 : isO g H 0 x1) (ok : KO_X0_isLike_46 N g H T x0 x1 S) (hx : X (KF_X0_isLike_46 N g H T x0 x1 S)) : cX G o dX0_isLike mX0_isLike 46 [some (va_rf (some x0)), some (va_rf (some x1)), none] [] S Q := by
  unfold KO_X0_isLike_46 at ok
  unfold KF_X0_isLike_46 at hx
  refine c_aload_nQ dX0_isLike_46 rfl rfl ?_
  refine c_getI (C := RX0) (T := TX0) (N := 6) (ci := 0) (k := 2) ⟨rfl, inT0, by decide, fX0_41⟩ (by decide) (by decide) (by decide) dX0_isLike_47 (hS.k t_x0) ?_
  refine c_aload_nQ dX0_isLike_50 rfl rfl ?_
  refine c_getI (C := RX0) (T := TX0) (N := 6) (ci := 0) (k := 2) ⟨rfl, inT0, by decide, fX0_41⟩ (by decide) (by decide) (by decide) dX0_isLike_51 (hS.k t_x1) ?_
  refine c_icmp_ne (tgt := 61) dX0_isLike_54 (by decide) (fun c_54 => ?_) (fun c_54 => ?_)
  · have ok := ok.2 c_54
    have hx := xif_n c_54 hx
    refine c_iconst (v := nI 0) dX0_isLike_61 (by decide) ?_
    exact cX.cutz (kb_X0_isLike_62 hG hR hS  ok hx) trivial
  · have ok := ok.1 c_54
    have hx := xif_p c_54 hx
    refine c_iconst (v := nI 1) dX0_isLike_57 (by decide) ?_
    refine c_goto (tgt := 62) dX0_isLike_58 (by decide) ?_
    exact cX.cutz (kb_X0_isLike_62 hG hR hS  ok hx) trivial
def KF_X0_isLike_38 (N g H T : Nat)  (S : cS) : Int32 := (nI 0)
def KO_X0_isLike_38 (N g H T : Nat)  (S : cS) : Prop := True
set_option maxRecDepth 100000 in
set_option maxHeartbeats 4000000 in
theorem kb_X0_isLike_38 {G : zG} {o : cO} {u g H T N : Nat} {S : cS} {Q : Option Value → cS → Prop} {X : Int32 → Prop} (hG : zOK G) (hR : ∀ v, X v → Q (some (.int v)) S) (hS : St u g H T S) (ok : KO_X0_isLike_38 N g H T S) (hx : X (KF_X0_isLike_38 N g H T S)) : cX G o dX0_isLike mX0_isLike 38 [none, none, none] [] S Q := by
  unfold KO_X0_isLike_38 at ok
  unfold KF_X0_isLike_38 at hx
  refine c_iconst (v := nI 0) dX0_isLike_38 (by decide) ?_
  exact c_ireturn rfl rfl dX0_isLike_39 (hR _ hx)
def KB_X0_isLike_2 (N g H T : Nat) (rec : Nat → Nat → Int32 → Nat × Nat × Nat × Unit) (x0 : Nat) (x1 : Nat) (x2 : Int32) (S : cS) : Nat × Nat × Nat × Unit := (if (nI 16) ≤ x2 then (1, x0, x1, ()) else (if (cA S (x0 + 1) x2.toNatClampNeg) = (cA S (x1 + 1) x2.toNatClampNeg) then (if (cA S (x0 + 2) x2.toNatClampNeg) = (cA S (x1 + 2) x2.toNatClampNeg) then (rec x0 x1 (x2 + nI 1)) else (0, 0, 0, ())) else (0, 0, 0, ())))
def KOB_X0_isLike_2 (N g H T : Nat) (rok : Nat → Nat → Int32 → Prop) (x0 : Nat) (x1 : Nat) (x2 : Int32) (S : cS) : Prop := (((nI 16) ≤ x2 → True) ∧ (¬ (nI 16) ≤ x2 → (vp_in x2 16) ∧ (vp_in x2 16) ∧ (((cA S (x0 + 1) x2.toNatClampNeg) = (cA S (x1 + 1) x2.toNatClampNeg) → (vp_in x2 16) ∧ (vp_in x2 16) ∧ (((cA S (x0 + 2) x2.toNatClampNeg) = (cA S (x1 + 2) x2.toNatClampNeg) → rok x0 x1 (x2 + nI 1)) ∧ (¬ (cA S (x0 + 2) x2.toNatClampNeg) = (cA S (x1 + 2) x2.toNatClampNeg) → True))) ∧ (¬ (cA S (x0 + 1) x2.toNatClampNeg) = (cA S (x1 + 1) x2.toNatClampNeg) → True))))
set_option maxRecDepth 100000 in
set_option maxHeartbeats 4000000 in
theorem kbb_X0_isLike_2 {G : zG} {o : cO} {u g H T N : Nat} {S : cS} {Q : Option Value → cS → Prop} {X : Nat × Nat × Nat × Unit → Prop} (hG : zOK G) (hX0 : ∀ (x0 : Nat) (x1 : Nat) , X (0, x0, x1, ()) → cX G o dX0_isLike mX0_isLike 38 [none, none, none] [] S Q) (hX1 : ∀ (x0 : Nat) (x1 : Nat) , isO g H 0 x0 → isO g H 0 x1 → X (1, x0, x1, ()) → cX G o dX0_isLike mX0_isLike 46 [some (va_rf (some x0)), some (va_rf (some x1)), none] [] S Q) {rec : Nat → Nat → Int32 → Nat × Nat × Nat × Unit} {rok : Nat → Nat → Int32 → Prop} (hrec : ∀ (x0 : Nat) (x1 : Nat) (x2 : Int32), isO g H 0 x0 → isO g H 0 x1 → rok x0 x1 x2 → X (rec x0 x1 x2) → cX G o dX0_isLike mX0_isLike 2 [some (va_rf (some x0)), some (va_rf (some x1)), some (.int x2)] [] S Q) {x0 : Nat} {x1 : Nat} {x2 : Int32} (hS : St u g H T S) (t_x0 : isO g H 0 x0) (t_x1 : isO g H 0 x1) (ok : KOB_X0_isLike_2 N g H T rok x0 x1 x2 S) (hx : X (KB_X0_isLike_2 N g H T rec x0 x1 x2 S)) : cX G o dX0_isLike mX0_isLike 2 [some (va_rf (some x0)), some (va_rf (some x1)), some (.int x2)] [] S Q := by
  unfold KOB_X0_isLike_2 at ok
  unfold KB_X0_isLike_2 at hx
  refine c_iload_n dX0_isLike_2 rfl rfl ?_
  refine c_bipush (v := nI 16) dX0_isLike_3 (by decide) ?_
  refine c_icmp_ge (tgt := 46) dX0_isLike_5 (by decide) (fun c_5 => ?_) (fun c_5 => ?_)
  · have ok := ok.1 c_5
    have hx := xif_p c_5 hx
    exact cX.cutz (hX1 _ _  t_x0 t_x1 hx) ⟨rfl, rfl, trivial⟩
  · have ok := ok.2 c_5
    have hx := xif_n c_5 hx
    refine c_aload_nQ dX0_isLike_8 rfl rfl ?_
    refine c_getS (C := RX0) (T := TX0) (N := 6) (ci := 0) (k := 0) ⟨rfl, inT0, by decide, fX0_9⟩ (by decide) (by decide) (by decide) dX0_isLike_9 (hS.k t_x0) (hS.r (c := 0) t_x0 rfl (by omega)) ?_
    refine c_iload_n dX0_isLike_12 rfl rfl ?_
    refine c_iald dX0_isLike_13 ⟨(tK.cis (hS.rk (c := 0) (k := 0) t_x0 rfl (by omega)) (Option.some_ne_none _)), (vk_cast (hS.rl (c := 0) (k := 0) t_x0 rfl (by decide) (by omega)) ok.1)⟩ ?_
    have ok := ok.2
    refine c_aload_nQ dX0_isLike_14 rfl rfl ?_
    refine c_getS (C := RX0) (T := TX0) (N := 6) (ci := 0) (k := 0) ⟨rfl, inT0, by decide, fX0_9⟩ (by decide) (by decide) (by decide) dX0_isLike_15 (hS.k t_x1) (hS.r (c := 0) t_x1 rfl (by omega)) ?_
    refine c_iload_n dX0_isLike_18 rfl rfl ?_
    refine c_iald dX0_isLike_19 ⟨(tK.cis (hS.rk (c := 0) (k := 0) t_x1 rfl (by omega)) (Option.some_ne_none _)), (vk_cast (hS.rl (c := 0) (k := 0) t_x1 rfl (by decide) (by omega)) ok.1)⟩ ?_
    have ok := ok.2
    refine c_icmp_ne (tgt := 38) dX0_isLike_20 (by decide) (fun c_20 => ?_) (fun c_20 => ?_)
    · have ok := ok.2 c_20
      have hx := xif_n c_20 hx
      exact cX.cutz (hX0 _ _   hx) trivial
    · have ok := ok.1 c_20
      have hx := xif_p c_20 hx
      refine c_aload_nQ dX0_isLike_23 rfl rfl ?_
      refine c_getS (C := RX0) (T := TX0) (N := 6) (ci := 0) (k := 1) ⟨rfl, inT0, by decide, fX0_15⟩ (by decide) (by decide) (by decide) dX0_isLike_24 (hS.k t_x0) (hS.r (c := 0) t_x0 rfl (by omega)) ?_
      refine c_iload_n dX0_isLike_27 rfl rfl ?_
      refine c_iald dX0_isLike_28 ⟨(tK.cis (hS.rk (c := 0) (k := 1) t_x0 rfl (by omega)) (Option.some_ne_none _)), (vk_cast (hS.rl (c := 0) (k := 1) t_x0 rfl (by decide) (by omega)) ok.1)⟩ ?_
      have ok := ok.2
      refine c_aload_nQ dX0_isLike_29 rfl rfl ?_
      refine c_getS (C := RX0) (T := TX0) (N := 6) (ci := 0) (k := 1) ⟨rfl, inT0, by decide, fX0_15⟩ (by decide) (by decide) (by decide) dX0_isLike_30 (hS.k t_x1) (hS.r (c := 0) t_x1 rfl (by omega)) ?_
      refine c_iload_n dX0_isLike_33 rfl rfl ?_
      refine c_iald dX0_isLike_34 ⟨(tK.cis (hS.rk (c := 0) (k := 1) t_x1 rfl (by omega)) (Option.some_ne_none _)), (vk_cast (hS.rl (c := 0) (k := 1) t_x1 rfl (by decide) (by omega)) ok.1)⟩ ?_
      have ok := ok.2
      refine c_icmp_eq (tgt := 40) dX0_isLike_35 (by decide) (fun c_35 => ?_) (fun c_35 => ?_)
      · have ok := ok.1 c_35
        have hx := xif_p c_35 hx
        refine c_iinc_2 (v := (x2 + nI 1)) dX0_isLike_40 rfl (by first | rfl | (congr 1)) (by decide) (by simp [zok, zg, zcat_rf]) ?_
        refine c_goto (tgt := 2) dX0_isLike_43 (by decide) ?_
        exact cX.cutz (hrec _ _ _ t_x0 t_x1 ok hx) ⟨rfl, rfl, rfl, trivial⟩
      · have ok := ok.2 c_35
        have hx := xif_n c_35 hx
        exact cX.cutz (hX0 _ _   hx) trivial
def KL_X0_isLike_2 (N g H T : Nat) : Nat → Nat → Nat → Int32 → cS → Nat × Nat × Nat × Unit
  | 0, x0, x1, x2, S => (0, 0, 0, ())
  | n + 1, x0, x1, x2, S => KB_X0_isLike_2 N g H T (fun x0 x1 x2 => KL_X0_isLike_2 N g H T n x0 x1 x2 S) x0 x1 x2 S
def KOL_X0_isLike_2 (N g H T : Nat) : Nat → Nat → Nat → Int32 → cS → Prop
  | 0, _, _, _, _ => False
  | n + 1, x0, x1, x2, S => KOB_X0_isLike_2 N g H T (fun x0 x1 x2 => KOL_X0_isLike_2 N g H T n x0 x1 x2 S) x0 x1 x2 S
set_option maxRecDepth 100000 in
set_option maxHeartbeats 4000000 in
theorem kl_X0_isLike_2 {G : zG} {o : cO} {u g H T N : Nat} {S : cS} {Q : Option Value → cS → Prop} {X : Nat × Nat × Nat × Unit → Prop} (hG : zOK G) (hX0 : ∀ (x0 : Nat) (x1 : Nat) , X (0, x0, x1, ()) → cX G o dX0_isLike mX0_isLike 38 [none, none, none] [] S Q) (hX1 : ∀ (x0 : Nat) (x1 : Nat) , isO g H 0 x0 → isO g H 0 x1 → X (1, x0, x1, ()) → cX G o dX0_isLike mX0_isLike 46 [some (va_rf (some x0)), some (va_rf (some x1)), none] [] S Q) (hS : St u g H T S) : ∀ (n : Nat) (x0 : Nat) (x1 : Nat) (x2 : Int32) , isO g H 0 x0 → isO g H 0 x1 → KOL_X0_isLike_2 N g H T n x0 x1 x2 S → X (KL_X0_isLike_2 N g H T n x0 x1 x2 S) → cX G o dX0_isLike mX0_isLike 2 [some (va_rf (some x0)), some (va_rf (some x1)), some (.int x2)] [] S Q := by
  intro n
  induction n with
  | zero => intro x0 x1 x2 t_x0 t_x1 ok; exact absurd ok id
  | succ n ih =>
    intro x0 x1 x2 t_x0 t_x1 ok hx
    exact kbb_X0_isLike_2 hG hX0 hX1 (rec := fun x0 x1 x2 => KL_X0_isLike_2 N g H T n x0 x1 x2 S) (rok := fun x0 x1 x2 => KOL_X0_isLike_2 N g H T n x0 x1 x2 S) (fun x0 x1 x2 t_x0 t_x1 ok hx => ih x0 x1 x2 t_x0 t_x1 ok hx) hS t_x0 t_x1 ok hx
def KA_X0_isLike_2 (N g H T : Nat) (x0 : Nat) (x1 : Nat) (x2 : Int32) (S : cS) (z : Nat × Nat × Nat × Unit) : Int32 := (if z.1 = 0 then (KF_X0_isLike_38 N g H T S) else (KF_X0_isLike_46 N g H T (z.2.1) (z.2.2.1) S))
def KOA_X0_isLike_2 (N g H T : Nat) (x0 : Nat) (x1 : Nat) (x2 : Int32) (S : cS) (z : Nat × Nat × Nat × Unit) : Prop := (if z.1 = 0 then KO_X0_isLike_38 N g H T S else KO_X0_isLike_46 N g H T (z.2.1) (z.2.2.1) S)
set_option maxRecDepth 100000 in
set_option maxHeartbeats 4000000 in
theorem kd_X0_isLike_2 {G : zG} {o : cO} {u g H T N : Nat} {S : cS} {Q : Option Value → cS → Prop} {X : Int32 → Prop} (hG : zOK G) (hR : ∀ v, X v → Q (some (.int v)) S) {x0 : Nat} {x1 : Nat} {x2 : Int32} (hS : St u g H T S) (t_x0 : isO g H 0 x0) (t_x1 : isO g H 0 x1) (ok : KOL_X0_isLike_2 N g H T N x0 x1 x2 S ∧ KOA_X0_isLike_2 N g H T x0 x1 x2 S (KL_X0_isLike_2 N g H T N x0 x1 x2 S)) (hx : X (KA_X0_isLike_2 N g H T x0 x1 x2 S (KL_X0_isLike_2 N g H T N x0 x1 x2 S))) : cX G o dX0_isLike mX0_isLike 2 [some (va_rf (some x0)), some (va_rf (some x1)), some (.int x2)] [] S Q := by
  refine kl_X0_isLike_2 hG ?_ ?_ hS N x0 x1 x2 t_x0 t_x1 ok.1 (X := fun z => KOA_X0_isLike_2 N g H T x0 x1 x2 S z ∧ X (KA_X0_isLike_2 N g H T x0 x1 x2 S z)) ⟨ok.2, hx⟩
  · intro x0' x1' hz
    obtain ⟨ok, hx⟩ := hz
    unfold KOA_X0_isLike_2 at ok
    unfold KA_X0_isLike_2 at hx
    have ok := xif_P (show (0 : Nat) = 0 from rfl) ok
    have hx := xif_p (show (0 : Nat) = 0 from rfl) hx
    exact cX.cutz (kb_X0_isLike_38 hG hR hS  ok hx) trivial
  · intro x0' x1' t_x0 t_x1 hz
    obtain ⟨ok, hx⟩ := hz
    unfold KOA_X0_isLike_2 at ok
    unfold KA_X0_isLike_2 at hx
    have ok := xif_N (show ¬ (1 : Nat) = 0 by decide) ok
    have hx := xif_n (show ¬ (1 : Nat) = 0 by decide) hx
    exact cX.cutz (kb_X0_isLike_46 hG hR hS t_x0 t_x1 ok hx) ⟨rfl, rfl, trivial⟩
def KF_X0_isLike_0 (N g H T : Nat) (x0 : Nat) (x1 : Nat) (S : cS) : Int32 := (KA_X0_isLike_2 N g H T x0 x1 (nI 0) S (KL_X0_isLike_2 N g H T N x0 x1 (nI 0) S))
def KO_X0_isLike_0 (N g H T : Nat) (x0 : Nat) (x1 : Nat) (S : cS) : Prop := (KOL_X0_isLike_2 N g H T N x0 x1 (nI 0) S ∧ KOA_X0_isLike_2 N g H T x0 x1 (nI 0) S (KL_X0_isLike_2 N g H T N x0 x1 (nI 0) S))
set_option maxRecDepth 100000 in
set_option maxHeartbeats 4000000 in
theorem kb_X0_isLike_0 {G : zG} {o : cO} {u g H T N : Nat} {S : cS} {Q : Option Value → cS → Prop} {X : Int32 → Prop} (hG : zOK G) (hR : ∀ v, X v → Q (some (.int v)) S) {x0 : Nat} {x1 : Nat} (hS : St u g H T S) (t_x0 : isO g H 0 x0) (t_x1 : isO g H 0 x1) (ok : KO_X0_isLike_0 N g H T x0 x1 S) (hx : X (KF_X0_isLike_0 N g H T x0 x1 S)) : cX G o dX0_isLike mX0_isLike 0 [some (va_rf (some x0)), some (va_rf (some x1)), none] [] S Q := by
  unfold KO_X0_isLike_0 at ok
  unfold KF_X0_isLike_0 at hx
  refine c_iconst (v := nI 0) dX0_isLike_0 (by decide) ?_
  refine c_istore_2 dX0_isLike_1 (by decide) (by simp [zok, zg, zcat_rf]) ?_
  exact cX.cutz (kd_X0_isLike_2 hG hR hS t_x0 t_x1 ok hx) ⟨rfl, rfl, rfl, trivial⟩
def k_X0_isLike (N g H T : Nat) (S : cS) (a0 : Nat) (x1 : Nat) : Int32 := KF_X0_isLike_0 N g H T a0 x1 S
def p_X0_isLike (N g H T : Nat) (S : cS) (a0 : Nat) (x1 : Nat) : Prop := KO_X0_isLike_0 N g H T a0 x1 S
set_option maxRecDepth 100000 in
set_option maxHeartbeats 4000000 in
theorem kc_X0_isLike {G : zG} {o : cO} {u g H T N : Nat} {S : cS} (hG : zOK G) {a0 : Nat} {x1 : Nat} (hS : St u g H T S) (t_x0 : isO g H 0 a0) (t_x1 : isO g H 0 x1) (ok : p_X0_isLike N g H T S a0 x1) : cCi G o dX0_isLike mX0_isLike [.ref a0, va_rf (some x1)] S (fun v S' => (v = k_X0_isLike N g H T S a0 x1 ∧ S' = S)) := by
  refine cC.ofX rfl (by exact Nat.le_of_ble_eq_true rfl) ?_
  show cX G o dX0_isLike mX0_isLike 0 [some (va_rf (some a0)), some (va_rf (some x1)), none] [] S _
  exact cX.cutz (kb_X0_isLike_0 (X := fun F => F = k_X0_isLike N g H T S a0 x1) hG (fun v h => ⟨v, rfl, h, rfl⟩) hS t_x0 t_x1 ok rfl) ⟨rfl, rfl, trivial⟩
/-! X2_step -/
def KF_X2_step_110 (N g H T : Nat) (x4 : Int32) (S : cS) : Int32 × cS := (((x4 + (nI 1)) + (nI 32)), S)
def KO_X2_step_110 (N g H T : Nat) (x4 : Int32) (S : cS) : Prop := True
set_option maxRecDepth 100000 in
set_option maxHeartbeats 4000000 in
theorem kb_X2_step_110 {G : zG} {o : cO} {u g H T N : Nat} {S : cS} {S0 : cS} {Q : Option Value → cS → Prop} {X : Int32 × cS → Prop} (hG : zOK G) (hR : ∀ v S', St u g H T S' → Mono S0 S' → X (v, S') → Q (some (.int v)) S') {x4 : Int32} (hS : St u g H T S) (hM : Mono S0 S) (ok : KO_X2_step_110 N g H T x4 S) (hx : X (KF_X2_step_110 N g H T x4 S)) : cX G o dX2_step mX2_step 110 [none, none, none, none, some (.int x4), none, none] [] S Q := by
  unfold KO_X2_step_110 at ok
  unfold KF_X2_step_110 at hx
  refine c_iload dX2_step_110 rfl ?_
  refine c_iconst (v := nI 1) dX2_step_112 (by decide) ?_
  refine c_iadd dX2_step_113 ?_
  refine c_bipush (v := nI 32) dX2_step_114 (by decide) ?_
  refine c_iadd dX2_step_116 ?_
  exact c_ireturn rfl rfl dX2_step_117 (hR _ _ hS hM hx)
def KF_X2_step_89 (N g H T : Nat) (x0 : Nat) (x3 : Option Nat) (x4 : Int32) (x6 : Int32) (s0 : Option Nat) (s1 : Int32) (s2 : Int32) (S : cS) : Int32 × cS := (KF_X2_step_110 N g H T x4 (csArow (csA S (za s0) s1.toNatClampNeg ((s2.toInt8.toInt32).toInt8.toInt32)) (za x3) (va_cpy (cA (csA S (za s0) s1.toNatClampNeg ((s2.toInt8.toInt32).toInt8.toInt32)) (x0 + 4)) (cA (csA S (za s0) s1.toNatClampNeg ((s2.toInt8.toInt32).toInt8.toInt32)) (za x3)) (x6 * (nI 32)).toNatClampNeg (x4 + (nI 1)).toNatClampNeg (nI 32).toNatClampNeg)))
def KO_X2_step_89 (N g H T : Nat) (x0 : Nat) (x3 : Option Nat) (x4 : Int32) (x6 : Int32) (s0 : Option Nat) (s1 : Int32) (s2 : Int32) (S : cS) : Prop := (¬ s0 = none ∧ vp_in s1 (cL S (za s0))) ∧ (¬ x3 = none ∧ (¬ (x6 * (nI 32)) < 0 ∧ ¬ (x4 + (nI 1)) < 0 ∧ ¬ (nI 32) < 0) ∧ (x6 * (nI 32)).toNatClampNeg + (nI 32).toNatClampNeg ≤ 2112 ∧ (x4 + (nI 1)).toNatClampNeg + (nI 32).toNatClampNeg ≤ (cL (csA S (za s0) s1.toNatClampNeg ((s2.toInt8.toInt32).toInt8.toInt32)) (za x3))) ∧ KO_X2_step_110 N g H T x4 (csArow (csA S (za s0) s1.toNatClampNeg ((s2.toInt8.toInt32).toInt8.toInt32)) (za x3) (va_cpy (cA (csA S (za s0) s1.toNatClampNeg ((s2.toInt8.toInt32).toInt8.toInt32)) (x0 + 4)) (cA (csA S (za s0) s1.toNatClampNeg ((s2.toInt8.toInt32).toInt8.toInt32)) (za x3)) (x6 * (nI 32)).toNatClampNeg (x4 + (nI 1)).toNatClampNeg (nI 32).toNatClampNeg))
set_option maxRecDepth 100000 in
set_option maxHeartbeats 4000000 in
theorem kb_X2_step_89 {G : zG} {o : cO} {u g H T N : Nat} {S : cS} {S0 : cS} {Q : Option Value → cS → Prop} {X : Int32 × cS → Prop} (hG : zOK G) (hR : ∀ v S', St u g H T S' → Mono S0 S' → X (v, S') → Q (some (.int v)) S') {x0 : Nat} {x3 : Option Nat} {x4 : Int32} {x6 : Int32} {s0 : Option Nat} {s1 : Int32} {s2 : Int32} (hS : St u g H T S) (hM : Mono S0 S) (t_x0 : isO g H 2 x0) (t_x3 : tK S 20 x3) (t_s0 : tK S 20 s0) (ok : KO_X2_step_89 N g H T x0 x3 x4 x6 s0 s1 s2 S) (hx : X (KF_X2_step_89 N g H T x0 x3 x4 x6 s0 s1 s2 S)) : cX G o dX2_step mX2_step 89 [some (va_rf (some x0)), none, none, some (va_rf x3), some (.int x4), none, some (.int x6)] [.int s2, .int s1, va_rf s0] S Q := by
  unfold KO_X2_step_89 at ok
  unfold KF_X2_step_89 at hx
  refine c_i2b dX2_step_89 ?_
  refine c_bast dX2_step_90 ⟨(tK.cis t_s0 ok.1.1), ok.1.2⟩ ?_
  have hS := hS.Ab (za s0) s1.toNatClampNeg (s2.toInt8.toInt32)
  have hM := hM.A (za s0) s1.toNatClampNeg ((s2.toInt8.toInt32).toInt8.toInt32)
  have ok := ok.2
  refine c_aload_nQ dX2_step_91 rfl rfl ?_
  refine c_getS (C := RX2) (T := TX2) (N := 6) (ci := 2) (k := 3) ⟨rfl, inT2, by decide, fX2_22⟩ (by decide) (by decide) (by decide) dX2_step_92 (hS.k t_x0) (hS.r (c := 2) t_x0 rfl (by omega)) ?_
  refine c_iload dX2_step_95 rfl ?_
  refine c_bipush (v := nI 32) dX2_step_97 (by decide) ?_
  refine c_imul dX2_step_99 ?_
  refine c_aload_nQ dX2_step_100 rfl rfl ?_
  refine c_iload dX2_step_101 rfl ?_
  refine c_iconst (v := nI 1) dX2_step_103 (by decide) ?_
  refine c_iadd dX2_step_104 ?_
  refine c_bipush (v := nI 32) dX2_step_105 (by decide) ?_
  have tq_107 : tK (csA S (za s0) s1.toNatClampNeg ((s2.toInt8.toInt32).toInt8.toInt32)) 20 (some (x0 + 4)) := tK_some (tK.cis (hS.rk (c := 2) (k := 3) t_x0 rfl (by omega)) (Option.some_ne_none _)).2
  refine c_copy0 hG dX2_step_107 qX2_29 (by decide) (by decide) ⟨tK.cis (hS.rk (c := 2) (k := 3) t_x0 rfl (by omega)) (Option.some_ne_none _), tK.cis (tK_A t_x3) ok.1.1, ok.1.2.1, (le_cast (hS.rl (c := 2) (k := 3) t_x0 rfl (by decide) (by omega)) ok.1.2.2.1), ok.1.2.2.2⟩ ?_
  have hS := hS.Ac (za x3) (x0 + 4) (x6 * (nI 32)).toNatClampNeg (x4 + (nI 1)).toNatClampNeg (nI 32).toNatClampNeg tq_107
  have hM := hM.Ar (za x3) (va_cpy (cA (csA S (za s0) s1.toNatClampNeg ((s2.toInt8.toInt32).toInt8.toInt32)) (x0 + 4)) (cA (csA S (za s0) s1.toNatClampNeg ((s2.toInt8.toInt32).toInt8.toInt32)) (za x3)) (x6 * (nI 32)).toNatClampNeg (x4 + (nI 1)).toNatClampNeg (nI 32).toNatClampNeg)
  have ok := ok.2
  exact cX.cutz (kb_X2_step_110 hG hR hS hM  ok hx) ⟨rfl, trivial⟩
def KF_X2_step_57 (N g H T : Nat) (x4 : Int32) (S : cS) : Int32 × cS := (x4, S)
def KO_X2_step_57 (N g H T : Nat) (x4 : Int32) (S : cS) : Prop := True
set_option maxRecDepth 100000 in
set_option maxHeartbeats 4000000 in
theorem kb_X2_step_57 {G : zG} {o : cO} {u g H T N : Nat} {S : cS} {S0 : cS} {Q : Option Value → cS → Prop} {X : Int32 × cS → Prop} (hG : zOK G) (hR : ∀ v S', St u g H T S' → Mono S0 S' → X (v, S') → Q (some (.int v)) S') {x4 : Int32} (hS : St u g H T S) (hM : Mono S0 S) (ok : KO_X2_step_57 N g H T x4 S) (hx : X (KF_X2_step_57 N g H T x4 S)) : cX G o dX2_step mX2_step 57 [none, none, none, none, some (.int x4), none, none] [] S Q := by
  unfold KO_X2_step_57 at ok
  unfold KF_X2_step_57 at hx
  refine c_iload dX2_step_57 rfl ?_
  exact c_ireturn rfl rfl dX2_step_59 (hR _ _ hS hM hx)
def KF_X2_step_28 (N g H T : Nat) (x0 : Nat) (x1 : Int32) (x2 : Int32) (x3 : Option Nat) (x4 : Int32) (x5 : Int32) (s0 : Int32) (S : cS) : Int32 × cS := (if x4 < 0 then (KF_X2_step_57 N g H T x4 S) else (if (((nI (cL S (za x3))) - (nI 1)) - (nI 32)) < x4 then (KF_X2_step_57 N g H T x4 S) else (if s0 < 0 then (KF_X2_step_57 N g H T x4 S) else (if x1 < x2 then (if s0 < x2 then (if x5 = 0 then (KF_X2_step_89 N g H T x0 x3 x4 s0 x3 x4 (nI 2) S) else (KF_X2_step_89 N g H T x0 x3 x4 s0 x3 x4 (nI 1) S)) else ((x4 + (nI 1)), (csA S (za x3) x4.toNatClampNeg ((nI 0).toInt8.toInt32)))) else (KF_X2_step_57 N g H T x4 S)))))
def KO_X2_step_28 (N g H T : Nat) (x0 : Nat) (x1 : Int32) (x2 : Int32) (x3 : Option Nat) (x4 : Int32) (x5 : Int32) (s0 : Int32) (S : cS) : Prop := ((x4 < 0 → KO_X2_step_57 N g H T x4 S) ∧ (¬ x4 < 0 → (¬ x3 = none) ∧ (((((nI (cL S (za x3))) - (nI 1)) - (nI 32)) < x4 → KO_X2_step_57 N g H T x4 S) ∧ (¬ (((nI (cL S (za x3))) - (nI 1)) - (nI 32)) < x4 → ((s0 < 0 → KO_X2_step_57 N g H T x4 S) ∧ (¬ s0 < 0 → ((x1 < x2 → ((s0 < x2 → ((x5 = 0 → KO_X2_step_89 N g H T x0 x3 x4 s0 x3 x4 (nI 2) S) ∧ (¬ x5 = 0 → KO_X2_step_89 N g H T x0 x3 x4 s0 x3 x4 (nI 1) S))) ∧ (¬ s0 < x2 → (¬ x3 = none ∧ vp_in x4 (cL S (za x3))) ∧ True))) ∧ (¬ x1 < x2 → KO_X2_step_57 N g H T x4 S))))))))
set_option maxRecDepth 100000 in
set_option maxHeartbeats 4000000 in
theorem kb_X2_step_28 {G : zG} {o : cO} {u g H T N : Nat} {S : cS} {S0 : cS} {Q : Option Value → cS → Prop} {X : Int32 × cS → Prop} (hG : zOK G) (hR : ∀ v S', St u g H T S' → Mono S0 S' → X (v, S') → Q (some (.int v)) S') {x0 : Nat} {x1 : Int32} {x2 : Int32} {x3 : Option Nat} {x4 : Int32} {x5 : Int32} {s0 : Int32} (hS : St u g H T S) (hM : Mono S0 S) (t_x0 : isO g H 2 x0) (t_x3 : tK S 20 x3) (ok : KO_X2_step_28 N g H T x0 x1 x2 x3 x4 x5 s0 S) (hx : X (KF_X2_step_28 N g H T x0 x1 x2 x3 x4 x5 s0 S)) : cX G o dX2_step mX2_step 28 [some (va_rf (some x0)), some (.int x1), some (.int x2), some (va_rf x3), some (.int x4), some (.int x5), none] [.int s0] S Q := by
  unfold KO_X2_step_28 at ok
  unfold KF_X2_step_28 at hx
  refine c_istore_6 dX2_step_28 (by decide) rfl ?_
  refine c_iload dX2_step_30 rfl ?_
  refine c_if_lt (tgt := 57) dX2_step_32 (by decide) (fun c_32 => ?_) (fun c_32 => ?_)
  · have ok := ok.1 c_32
    have hx := xif_p c_32 hx
    exact cX.cutz (kb_X2_step_57 hG hR hS hM  ok hx) ⟨rfl, trivial⟩
  · have ok := ok.2 c_32
    have hx := xif_n c_32 hx
    refine c_iload dX2_step_35 rfl ?_
    refine c_aload_nQ dX2_step_37 rfl rfl ?_
    refine c_alenS (t := 0) (ty := .byte) rfl dX2_step_38 (tK.cis t_x3 ok.1) rfl ?_
    have ok := ok.2
    refine c_iconst (v := nI 1) dX2_step_39 (by decide) ?_
    refine c_isub dX2_step_40 ?_
    refine c_bipush (v := nI 32) dX2_step_41 (by decide) ?_
    refine c_isub dX2_step_43 ?_
    refine c_icmp_gt (tgt := 57) dX2_step_44 (by decide) (fun c_44 => ?_) (fun c_44 => ?_)
    · have ok := ok.1 c_44
      have hx := xif_p c_44 hx
      exact cX.cutz (kb_X2_step_57 hG hR hS hM  ok hx) ⟨rfl, trivial⟩
    · have ok := ok.2 c_44
      have hx := xif_n c_44 hx
      refine c_iload dX2_step_47 rfl ?_
      refine c_if_lt (tgt := 57) dX2_step_49 (by decide) (fun c_49 => ?_) (fun c_49 => ?_)
      · have ok := ok.1 c_49
        have hx := xif_p c_49 hx
        exact cX.cutz (kb_X2_step_57 hG hR hS hM  ok hx) ⟨rfl, trivial⟩
      · have ok := ok.2 c_49
        have hx := xif_n c_49 hx
        refine c_iload_n dX2_step_52 rfl rfl ?_
        refine c_iload_n dX2_step_53 rfl rfl ?_
        refine c_icmp_lt (tgt := 60) dX2_step_54 (by decide) (fun c_54 => ?_) (fun c_54 => ?_)
        · have ok := ok.1 c_54
          have hx := xif_p c_54 hx
          refine c_iload dX2_step_60 rfl ?_
          refine c_iload_n dX2_step_62 rfl rfl ?_
          refine c_icmp_lt (tgt := 76) dX2_step_63 (by decide) (fun c_63 => ?_) (fun c_63 => ?_)
          · have ok := ok.1 c_63
            have hx := xif_p c_63 hx
            refine c_aload_nQ dX2_step_76 rfl rfl ?_
            refine c_iload dX2_step_77 rfl ?_
            refine c_iload dX2_step_79 rfl ?_
            refine c_if_eq (tgt := 88) dX2_step_81 (by decide) (fun c_81 => ?_) (fun c_81 => ?_)
            · have ok := ok.1 c_81
              have hx := xif_p c_81 hx
              refine c_iconst (v := nI 2) dX2_step_88 (by decide) ?_
              exact cX.cutz (kb_X2_step_89 hG hR hS hM t_x0 t_x3 t_x3 ok hx) ⟨rfl, rfl, rfl, rfl, trivial⟩
            · have ok := ok.2 c_81
              have hx := xif_n c_81 hx
              refine c_iconst (v := nI 1) dX2_step_84 (by decide) ?_
              refine c_goto (tgt := 89) dX2_step_85 (by decide) ?_
              exact cX.cutz (kb_X2_step_89 hG hR hS hM t_x0 t_x3 t_x3 ok hx) ⟨rfl, rfl, rfl, rfl, trivial⟩
          · have ok := ok.2 c_63
            have hx := xif_n c_63 hx
            refine c_aload_nQ dX2_step_66 rfl rfl ?_
            refine c_iload dX2_step_67 rfl ?_
            refine c_iconst (v := nI 0) dX2_step_69 (by decide) ?_
            refine c_bast dX2_step_70 ⟨(tK.cis t_x3 ok.1.1), ok.1.2⟩ ?_
            have hS := hS.Ab (za x3) x4.toNatClampNeg (nI 0)
            have hM := hM.A (za x3) x4.toNatClampNeg ((nI 0).toInt8.toInt32)
            have ok := ok.2
            refine c_iload dX2_step_71 rfl ?_
            refine c_iconst (v := nI 1) dX2_step_73 (by decide) ?_
            refine c_iadd dX2_step_74 ?_
            exact c_ireturn rfl rfl dX2_step_75 (hR _ _ hS hM hx)
        · have ok := ok.2 c_54
          have hx := xif_n c_54 hx
          exact cX.cutz (kb_X2_step_57 hG hR hS hM  ok hx) ⟨rfl, trivial⟩
def KF_X2_step_12 (N g H T : Nat) (x0 : Nat) (x1 : Int32) (x2 : Int32) (x3 : Option Nat) (x4 : Int32) (s0 : Int32) (S : cS) : Int32 × cS := (if s0 = 0 then (KF_X2_step_28 N g H T x0 x1 x2 x3 x4 s0 (x1 + (nI 1)) S) else (KF_X2_step_28 N g H T x0 x1 x2 x3 x4 s0 (x1 - (nI 1)) S))
def KO_X2_step_12 (N g H T : Nat) (x0 : Nat) (x1 : Int32) (x2 : Int32) (x3 : Option Nat) (x4 : Int32) (s0 : Int32) (S : cS) : Prop := ((s0 = 0 → KO_X2_step_28 N g H T x0 x1 x2 x3 x4 s0 (x1 + (nI 1)) S) ∧ (¬ s0 = 0 → KO_X2_step_28 N g H T x0 x1 x2 x3 x4 s0 (x1 - (nI 1)) S))
set_option maxRecDepth 100000 in
set_option maxHeartbeats 4000000 in
theorem kb_X2_step_12 {G : zG} {o : cO} {u g H T N : Nat} {S : cS} {S0 : cS} {Q : Option Value → cS → Prop} {X : Int32 × cS → Prop} (hG : zOK G) (hR : ∀ v S', St u g H T S' → Mono S0 S' → X (v, S') → Q (some (.int v)) S') {x0 : Nat} {x1 : Int32} {x2 : Int32} {x3 : Option Nat} {x4 : Int32} {s0 : Int32} (hS : St u g H T S) (hM : Mono S0 S) (t_x0 : isO g H 2 x0) (t_x3 : tK S 20 x3) (ok : KO_X2_step_12 N g H T x0 x1 x2 x3 x4 s0 S) (hx : X (KF_X2_step_12 N g H T x0 x1 x2 x3 x4 s0 S)) : cX G o dX2_step mX2_step 12 [some (va_rf (some x0)), some (.int x1), some (.int x2), some (va_rf x3), some (.int x4), none, none] [.int s0] S Q := by
  unfold KO_X2_step_12 at ok
  unfold KF_X2_step_12 at hx
  refine c_istore_5 dX2_step_12 (by decide) rfl ?_
  refine c_iload dX2_step_14 rfl ?_
  refine c_if_eq (tgt := 25) dX2_step_16 (by decide) (fun c_16 => ?_) (fun c_16 => ?_)
  · have ok := ok.1 c_16
    have hx := xif_p c_16 hx
    refine c_iload_n dX2_step_25 rfl rfl ?_
    refine c_iconst (v := nI 1) dX2_step_26 (by decide) ?_
    refine c_iadd dX2_step_27 ?_
    exact cX.cutz (kb_X2_step_28 hG hR hS hM t_x0 t_x3 ok hx) ⟨rfl, rfl, rfl, rfl, rfl, rfl, trivial⟩
  · have ok := ok.2 c_16
    have hx := xif_n c_16 hx
    refine c_iload_n dX2_step_19 rfl rfl ?_
    refine c_iconst (v := nI 1) dX2_step_20 (by decide) ?_
    refine c_isub dX2_step_21 ?_
    refine c_goto (tgt := 28) dX2_step_22 (by decide) ?_
    exact cX.cutz (kb_X2_step_28 hG hR hS hM t_x0 t_x3 ok hx) ⟨rfl, rfl, rfl, rfl, rfl, rfl, trivial⟩
def KF_X2_step_0 (N g H T : Nat) (x0 : Nat) (x1 : Int32) (x2 : Int32) (x3 : Option Nat) (x4 : Int32) (S : cS) : Int32 × cS := (if (x1 &&& (nI 1)) = (nI 1) then (KF_X2_step_12 N g H T x0 x1 x2 x3 x4 (nI 1) S) else (KF_X2_step_12 N g H T x0 x1 x2 x3 x4 (nI 0) S))
def KO_X2_step_0 (N g H T : Nat) (x0 : Nat) (x1 : Int32) (x2 : Int32) (x3 : Option Nat) (x4 : Int32) (S : cS) : Prop := (((x1 &&& (nI 1)) = (nI 1) → KO_X2_step_12 N g H T x0 x1 x2 x3 x4 (nI 1) S) ∧ (¬ (x1 &&& (nI 1)) = (nI 1) → KO_X2_step_12 N g H T x0 x1 x2 x3 x4 (nI 0) S))
set_option maxRecDepth 100000 in
set_option maxHeartbeats 4000000 in
theorem kb_X2_step_0 {G : zG} {o : cO} {u g H T N : Nat} {S : cS} {S0 : cS} {Q : Option Value → cS → Prop} {X : Int32 × cS → Prop} (hG : zOK G) (hR : ∀ v S', St u g H T S' → Mono S0 S' → X (v, S') → Q (some (.int v)) S') {x0 : Nat} {x1 : Int32} {x2 : Int32} {x3 : Option Nat} {x4 : Int32} (hS : St u g H T S) (hM : Mono S0 S) (t_x0 : isO g H 2 x0) (t_x3 : tK S 20 x3) (ok : KO_X2_step_0 N g H T x0 x1 x2 x3 x4 S) (hx : X (KF_X2_step_0 N g H T x0 x1 x2 x3 x4 S)) : cX G o dX2_step mX2_step 0 [some (va_rf (some x0)), some (.int x1), some (.int x2), some (va_rf x3), some (.int x4), none, none] [] S Q := by
  unfold KO_X2_step_0 at ok
  unfold KF_X2_step_0 at hx
  refine c_iload_n dX2_step_0 rfl rfl ?_
  refine c_iconst (v := nI 1) dX2_step_1 (by decide) ?_
  refine c_iand dX2_step_2 ?_
  refine c_iconst (v := nI 1) dX2_step_3 (by decide) ?_
  refine c_icmp_ne (tgt := 11) dX2_step_4 (by decide) (fun c_4 => ?_) (fun c_4 => ?_)
  · have ok := ok.2 c_4
    have hx := xif_n c_4 hx
    refine c_iconst (v := nI 0) dX2_step_11 (by decide) ?_
    exact cX.cutz (kb_X2_step_12 hG hR hS hM t_x0 t_x3 ok hx) ⟨rfl, rfl, rfl, rfl, rfl, trivial⟩
  · have ok := ok.1 c_4
    have hx := xif_p c_4 hx
    refine c_iconst (v := nI 1) dX2_step_7 (by decide) ?_
    refine c_goto (tgt := 12) dX2_step_8 (by decide) ?_
    exact cX.cutz (kb_X2_step_12 hG hR hS hM t_x0 t_x3 ok hx) ⟨rfl, rfl, rfl, rfl, rfl, trivial⟩
def k_X2_step (N g H T : Nat) (S : cS) (a0 : Nat) (x1 : Int32) (x2 : Int32) (x3 : Option Nat) (x4 : Int32) : Int32 × cS := KF_X2_step_0 N g H T a0 x1 x2 x3 x4 S
def p_X2_step (N g H T : Nat) (S : cS) (a0 : Nat) (x1 : Int32) (x2 : Int32) (x3 : Option Nat) (x4 : Int32) : Prop := KO_X2_step_0 N g H T a0 x1 x2 x3 x4 S
set_option maxRecDepth 100000 in
set_option maxHeartbeats 4000000 in
theorem kc_X2_step {G : zG} {o : cO} {u g H T N : Nat} {S : cS} (hG : zOK G) {a0 : Nat} {x1 : Int32} {x2 : Int32} {x3 : Option Nat} {x4 : Int32} (hS : St u g H T S) (t_x0 : isO g H 2 a0) (t_x3 : tK S 20 x3) (ok : p_X2_step N g H T S a0 x1 x2 x3 x4) : cCi G o dX2_step mX2_step [.ref a0, .int x1, .int x2, va_rf x3, .int x4] S (fun v S' => (v = (k_X2_step N g H T S a0 x1 x2 x3 x4).1 ∧ S' = (k_X2_step N g H T S a0 x1 x2 x3 x4).2) ∧ St u g H T S' ∧ Mono S S') := by
  refine cC.ofX rfl (by cases x3 <;> exact Nat.le_of_ble_eq_true rfl) ?_
  rw [show zargs mX2_step.2.2.1 [.ref a0, .int x1, .int x2, va_rf x3, .int x4] = [some (va_rf (some a0)), some (.int x1), some (.int x2), some (va_rf x3), some (.int x4), none, none] from by cases x3 <;> rfl]
  exact cX.cutz (kb_X2_step_0 (X := fun F => F = k_X2_step N g H T S a0 x1 x2 x3 x4) hG (fun v S' h1 h2 h => ⟨v, rfl, ⟨by rw [← h], by rw [← h]⟩, h1, h2⟩) hS Mono.rfl' t_x0 t_x3 ok rfl) ⟨rfl, rfl, rfl, rfl, rfl, trivial⟩
/-! X2_climb -/
def KF_X2_climb_152 (N g H T : Nat) (x3 : Int32) (x5 : Int32) (S : cS) : Int32 × cS := ((x5 - x3), S)
def KO_X2_climb_152 (N g H T : Nat) (x3 : Int32) (x5 : Int32) (S : cS) : Prop := True
set_option maxRecDepth 100000 in
set_option maxHeartbeats 4000000 in
theorem kb_X2_climb_152 {G : zG} {o : cO} {u g H T N : Nat} {S : cS} {S0 : cS} {Q : Option Value → cS → Prop} {X : Int32 × cS → Prop} (hG : zOK G) (hR : ∀ v S', St u g H T S' → Mono S0 S' → X (v, S') → Q (some (.int v)) S') {x3 : Int32} {x5 : Int32} (hS : St u g H T S) (hM : Mono S0 S) (ok : KO_X2_climb_152 N g H T x3 x5 S) (hx : X (KF_X2_climb_152 N g H T x3 x5 S)) : cX G o dX2_climb mX2_climb 152 [none, none, none, some (.int x3), none, some (.int x5), none, none] [] S Q := by
  unfold KO_X2_climb_152 at ok
  unfold KF_X2_climb_152 at hx
  refine c_iload dX2_climb_152 rfl ?_
  refine c_iload_n dX2_climb_154 rfl rfl ?_
  refine c_isub dX2_climb_155 ?_
  exact c_ireturn rfl rfl dX2_climb_156 (hR _ _ hS hM hx)
def KF_X2_climb_141 (N g H T : Nat) (rec : Nat → Option Nat → Int32 → Int32 → Int32 → Int32 → cS → Nat × Int32 × Int32 × cS) (x0 : Nat) (x2 : Option Nat) (x3 : Int32) (x4 : Int32) (x5 : Int32) (x6 : Int32) (S : cS) : Nat × Int32 × Int32 × cS := (rec x0 x2 x3 x4 x5 ((x6 + (nI 1)) / (nI 2)) S)
def KO_X2_climb_141 (N g H T : Nat) (rok : Nat → Option Nat → Int32 → Int32 → Int32 → Int32 → cS → Prop) (x0 : Nat) (x2 : Option Nat) (x3 : Int32) (x4 : Int32) (x5 : Int32) (x6 : Int32) (S : cS) : Prop := rok x0 x2 x3 x4 x5 ((x6 + (nI 1)) / (nI 2)) S
set_option maxRecDepth 100000 in
set_option maxHeartbeats 4000000 in
theorem kb_X2_climb_141 {G : zG} {o : cO} {u g H T N : Nat} {S : cS} {S0 : cS} {Q : Option Value → cS → Prop} {X : Nat × Int32 × Int32 × cS → Prop} (hG : zOK G) (hX0 : ∀ (x3 : Int32) (x5 : Int32) (S' : cS), St u g H T S' → Mono S0 S' → X (0, x3, x5, S') → cX G o dX2_climb mX2_climb 152 [none, none, none, some (.int x3), none, some (.int x5), none, none] [] S' Q) {rec : Nat → Option Nat → Int32 → Int32 → Int32 → Int32 → cS → Nat × Int32 × Int32 × cS} {rok : Nat → Option Nat → Int32 → Int32 → Int32 → Int32 → cS → Prop} (hrec : ∀ (x0 : Nat) (x2 : Option Nat) (x3 : Int32) (x4 : Int32) (x5 : Int32) (x6 : Int32) (S : cS), St u g H T S → Mono S0 S → isO g H 2 x0 → tK S 20 x2 → rok x0 x2 x3 x4 x5 x6 S → X (rec x0 x2 x3 x4 x5 x6 S) → cX G o dX2_climb mX2_climb 12 [some (va_rf (some x0)), none, some (va_rf x2), some (.int x3), some (.int x4), some (.int x5), some (.int x6), none] [] S Q) {x0 : Nat} {x2 : Option Nat} {x3 : Int32} {x4 : Int32} {x5 : Int32} {x6 : Int32} (hS : St u g H T S) (hM : Mono S0 S) (t_x0 : isO g H 2 x0) (t_x2 : tK S 20 x2) (ok : KO_X2_climb_141 N g H T rok x0 x2 x3 x4 x5 x6 S) (hx : X (KF_X2_climb_141 N g H T rec x0 x2 x3 x4 x5 x6 S)) : cX G o dX2_climb mX2_climb 141 [some (va_rf (some x0)), none, some (va_rf x2), some (.int x3), some (.int x4), some (.int x5), some (.int x6), none] [] S Q := by
  unfold KO_X2_climb_141 at ok
  unfold KF_X2_climb_141 at hx
  refine c_iload dX2_climb_141 rfl ?_
  refine c_iconst (v := nI 1) dX2_climb_143 (by decide) ?_
  refine c_iadd dX2_climb_144 ?_
  refine c_iconst (v := nI 2) dX2_climb_145 (by decide) ?_
  refine c_idiv dX2_climb_146 (by decide) ?_
  refine c_istore_6 dX2_climb_147 (by decide) rfl ?_
  refine c_goto (tgt := 12) dX2_climb_149 (by decide) ?_
  exact cX.cutz (hrec _ _ _ _ _ _ S hS hM t_x0 t_x2 ok hx) ⟨rfl, rfl, rfl, rfl, rfl, rfl, trivial⟩
def KF_X2_climb_106 (N g H T : Nat) (rec : Nat → Option Nat → Int32 → Int32 → Int32 → Int32 → cS → Nat × Int32 × Int32 × cS) (x0 : Nat) (x2 : Option Nat) (x3 : Int32) (x4 : Int32) (x5 : Int32) (x6 : Int32) (S : cS) : Nat × Int32 × Int32 × cS := (if (x6 &&& (nI 1)) = (nI 1) then (KF_X2_climb_141 N g H T rec x0 x2 x3 x4 x5 x6 (csArow S (x0 + 4) (va_cpy (cA S (x0 + 4)) (cA S (x0 + 4)) ((x6 - (nI 1)) * (nI 32)).toNatClampNeg ((x6 / (nI 2)) * (nI 32)).toNatClampNeg (nI 32).toNatClampNeg))) else (KF_X2_climb_141 N g H T rec x0 x2 x3 x4 x5 x6 S))
def KO_X2_climb_106 (N g H T : Nat) (rok : Nat → Option Nat → Int32 → Int32 → Int32 → Int32 → cS → Prop) (x0 : Nat) (x2 : Option Nat) (x3 : Int32) (x4 : Int32) (x5 : Int32) (x6 : Int32) (S : cS) : Prop := (((x6 &&& (nI 1)) = (nI 1) → ((¬ ((x6 - (nI 1)) * (nI 32)) < 0 ∧ ¬ ((x6 / (nI 2)) * (nI 32)) < 0 ∧ ¬ (nI 32) < 0) ∧ ((x6 - (nI 1)) * (nI 32)).toNatClampNeg + (nI 32).toNatClampNeg ≤ 2112 ∧ ((x6 / (nI 2)) * (nI 32)).toNatClampNeg + (nI 32).toNatClampNeg ≤ 2112) ∧ KO_X2_climb_141 N g H T rok x0 x2 x3 x4 x5 x6 (csArow S (x0 + 4) (va_cpy (cA S (x0 + 4)) (cA S (x0 + 4)) ((x6 - (nI 1)) * (nI 32)).toNatClampNeg ((x6 / (nI 2)) * (nI 32)).toNatClampNeg (nI 32).toNatClampNeg))) ∧ (¬ (x6 &&& (nI 1)) = (nI 1) → KO_X2_climb_141 N g H T rok x0 x2 x3 x4 x5 x6 S))
set_option maxRecDepth 100000 in
set_option maxHeartbeats 4000000 in
theorem kb_X2_climb_106 {G : zG} {o : cO} {u g H T N : Nat} {S : cS} {S0 : cS} {Q : Option Value → cS → Prop} {X : Nat × Int32 × Int32 × cS → Prop} (hG : zOK G) (hX0 : ∀ (x3 : Int32) (x5 : Int32) (S' : cS), St u g H T S' → Mono S0 S' → X (0, x3, x5, S') → cX G o dX2_climb mX2_climb 152 [none, none, none, some (.int x3), none, some (.int x5), none, none] [] S' Q) {rec : Nat → Option Nat → Int32 → Int32 → Int32 → Int32 → cS → Nat × Int32 × Int32 × cS} {rok : Nat → Option Nat → Int32 → Int32 → Int32 → Int32 → cS → Prop} (hrec : ∀ (x0 : Nat) (x2 : Option Nat) (x3 : Int32) (x4 : Int32) (x5 : Int32) (x6 : Int32) (S : cS), St u g H T S → Mono S0 S → isO g H 2 x0 → tK S 20 x2 → rok x0 x2 x3 x4 x5 x6 S → X (rec x0 x2 x3 x4 x5 x6 S) → cX G o dX2_climb mX2_climb 12 [some (va_rf (some x0)), none, some (va_rf x2), some (.int x3), some (.int x4), some (.int x5), some (.int x6), none] [] S Q) {x0 : Nat} {x2 : Option Nat} {x3 : Int32} {x4 : Int32} {x5 : Int32} {x6 : Int32} (hS : St u g H T S) (hM : Mono S0 S) (t_x0 : isO g H 2 x0) (t_x2 : tK S 20 x2) (ok : KO_X2_climb_106 N g H T rok x0 x2 x3 x4 x5 x6 S) (hx : X (KF_X2_climb_106 N g H T rec x0 x2 x3 x4 x5 x6 S)) : cX G o dX2_climb mX2_climb 106 [some (va_rf (some x0)), none, some (va_rf x2), some (.int x3), some (.int x4), some (.int x5), some (.int x6), none] [] S Q := by
  unfold KO_X2_climb_106 at ok
  unfold KF_X2_climb_106 at hx
  refine c_iload dX2_climb_106 rfl ?_
  refine c_iconst (v := nI 1) dX2_climb_108 (by decide) ?_
  refine c_iand dX2_climb_109 ?_
  refine c_iconst (v := nI 1) dX2_climb_110 (by decide) ?_
  refine c_icmp_ne (tgt := 141) dX2_climb_111 (by decide) (fun c_111 => ?_) (fun c_111 => ?_)
  · have ok := ok.2 c_111
    have hx := xif_n c_111 hx
    exact cX.cutz (kb_X2_climb_141 hG hX0 hrec hS hM t_x0 t_x2 ok hx) ⟨rfl, rfl, rfl, rfl, rfl, rfl, trivial⟩
  · have ok := ok.1 c_111
    have hx := xif_p c_111 hx
    refine c_aload_nQ dX2_climb_114 rfl rfl ?_
    refine c_getS (C := RX2) (T := TX2) (N := 6) (ci := 2) (k := 3) ⟨rfl, inT2, by decide, fX2_22⟩ (by decide) (by decide) (by decide) dX2_climb_115 (hS.k t_x0) (hS.r (c := 2) t_x0 rfl (by omega)) ?_
    refine c_iload dX2_climb_118 rfl ?_
    refine c_iconst (v := nI 1) dX2_climb_120 (by decide) ?_
    refine c_isub dX2_climb_121 ?_
    refine c_bipush (v := nI 32) dX2_climb_122 (by decide) ?_
    refine c_imul dX2_climb_124 ?_
    refine c_aload_nQ dX2_climb_125 rfl rfl ?_
    refine c_getS (C := RX2) (T := TX2) (N := 6) (ci := 2) (k := 3) ⟨rfl, inT2, by decide, fX2_22⟩ (by decide) (by decide) (by decide) dX2_climb_126 (hS.k t_x0) (hS.r (c := 2) t_x0 rfl (by omega)) ?_
    refine c_iload dX2_climb_129 rfl ?_
    refine c_iconst (v := nI 2) dX2_climb_131 (by decide) ?_
    refine c_idiv dX2_climb_132 (by decide) ?_
    refine c_bipush (v := nI 32) dX2_climb_133 (by decide) ?_
    refine c_imul dX2_climb_135 ?_
    refine c_bipush (v := nI 32) dX2_climb_136 (by decide) ?_
    have tq_138 : tK S 20 (some (x0 + 4)) := tK_some (tK.cis (hS.rk (c := 2) (k := 3) t_x0 rfl (by omega)) (Option.some_ne_none _)).2
    refine c_copy0 hG dX2_climb_138 qX2_29 (by decide) (by decide) ⟨tK.cis (hS.rk (c := 2) (k := 3) t_x0 rfl (by omega)) (Option.some_ne_none _), tK.cis (hS.rk (c := 2) (k := 3) t_x0 rfl (by omega)) (Option.some_ne_none _), ok.1.1, (le_cast (hS.rl (c := 2) (k := 3) t_x0 rfl (by decide) (by omega)) ok.1.2.1), (le_cast (hS.rl (c := 2) (k := 3) t_x0 rfl (by decide) (by omega)) ok.1.2.2)⟩ ?_
    have hS := hS.Ac (x0 + 4) (x0 + 4) ((x6 - (nI 1)) * (nI 32)).toNatClampNeg ((x6 / (nI 2)) * (nI 32)).toNatClampNeg (nI 32).toNatClampNeg tq_138
    have hM := hM.Ar (x0 + 4) (va_cpy (cA S (x0 + 4)) (cA S (x0 + 4)) ((x6 - (nI 1)) * (nI 32)).toNatClampNeg ((x6 / (nI 2)) * (nI 32)).toNatClampNeg (nI 32).toNatClampNeg)
    have ok := ok.2
    exact cX.cutz (kb_X2_climb_141 hG hX0 hrec hS hM t_x0 (tK_Ar t_x2) ok hx) ⟨rfl, rfl, rfl, rfl, rfl, rfl, trivial⟩
def KF_X2_climb_100 (N g H T : Nat) (rec : Nat → Option Nat → Int32 → Int32 → Int32 → Int32 → Int32 → cS → Nat × Nat × Option Nat × Int32 × Int32 × Int32 × Int32 × cS) (x0 : Nat) (x2 : Option Nat) (x3 : Int32) (x4 : Int32) (x5 : Int32) (x6 : Int32) (x7 : Int32) (S : cS) : Nat × Nat × Option Nat × Int32 × Int32 × Int32 × Int32 × cS := (rec x0 x2 x3 x4 x5 x6 (x7 + nI 1) S)
def KO_X2_climb_100 (N g H T : Nat) (rok : Nat → Option Nat → Int32 → Int32 → Int32 → Int32 → Int32 → cS → Prop) (x0 : Nat) (x2 : Option Nat) (x3 : Int32) (x4 : Int32) (x5 : Int32) (x6 : Int32) (x7 : Int32) (S : cS) : Prop := rok x0 x2 x3 x4 x5 x6 (x7 + nI 1) S
set_option maxRecDepth 100000 in
set_option maxHeartbeats 4000000 in
theorem kb_X2_climb_100 {G : zG} {o : cO} {u g H T N : Nat} {S : cS} {S0 : cS} {Q : Option Value → cS → Prop} {X : Nat × Nat × Option Nat × Int32 × Int32 × Int32 × Int32 × cS → Prop} (hG : zOK G) (hX0 : ∀ (x0 : Nat) (x2 : Option Nat) (x3 : Int32) (x4 : Int32) (x5 : Int32) (x6 : Int32) (S' : cS), St u g H T S' → Mono S0 S' → isO g H 2 x0 → tK S' 20 x2 → X (0, x0, x2, x3, x4, x5, x6, S') → cX G o dX2_climb mX2_climb 106 [some (va_rf (some x0)), none, some (va_rf x2), some (.int x3), some (.int x4), some (.int x5), some (.int x6), none] [] S' Q) {rec : Nat → Option Nat → Int32 → Int32 → Int32 → Int32 → Int32 → cS → Nat × Nat × Option Nat × Int32 × Int32 × Int32 × Int32 × cS} {rok : Nat → Option Nat → Int32 → Int32 → Int32 → Int32 → Int32 → cS → Prop} (hrec : ∀ (x0 : Nat) (x2 : Option Nat) (x3 : Int32) (x4 : Int32) (x5 : Int32) (x6 : Int32) (x7 : Int32) (S : cS), St u g H T S → Mono S0 S → isO g H 2 x0 → tK S 20 x2 → rok x0 x2 x3 x4 x5 x6 x7 S → X (rec x0 x2 x3 x4 x5 x6 x7 S) → cX G o dX2_climb mX2_climb 45 [some (va_rf (some x0)), none, some (va_rf x2), some (.int x3), some (.int x4), some (.int x5), some (.int x6), some (.int x7)] [] S Q) {x0 : Nat} {x2 : Option Nat} {x3 : Int32} {x4 : Int32} {x5 : Int32} {x6 : Int32} {x7 : Int32} (hS : St u g H T S) (hM : Mono S0 S) (t_x0 : isO g H 2 x0) (t_x2 : tK S 20 x2) (ok : KO_X2_climb_100 N g H T rok x0 x2 x3 x4 x5 x6 x7 S) (hx : X (KF_X2_climb_100 N g H T rec x0 x2 x3 x4 x5 x6 x7 S)) : cX G o dX2_climb mX2_climb 100 [some (va_rf (some x0)), none, some (va_rf x2), some (.int x3), some (.int x4), some (.int x5), some (.int x6), some (.int x7)] [] S Q := by
  unfold KO_X2_climb_100 at ok
  unfold KF_X2_climb_100 at hx
  refine c_iinc_7 (v := (x7 + nI 1)) dX2_climb_100 rfl (by first | rfl | (congr 1)) (by decide) rfl ?_
  refine c_goto (tgt := 45) dX2_climb_103 (by decide) ?_
  exact cX.cutz (hrec _ _ _ _ _ _ _ S hS hM t_x0 t_x2 ok hx) ⟨rfl, rfl, rfl, rfl, rfl, rfl, rfl, trivial⟩
def KF_X2_climb_87 (N g H T : Nat) (rec : Nat → Option Nat → Int32 → Int32 → Int32 → Int32 → Int32 → cS → Nat × Nat × Option Nat × Int32 × Int32 × Int32 × Int32 × cS) (x0 : Nat) (x2 : Option Nat) (x3 : Int32) (x4 : Int32) (x5 : Int32) (x6 : Int32) (x7 : Int32) (S : cS) : Nat × Nat × Option Nat × Int32 × Int32 × Int32 × Int32 × cS := (KF_X2_climb_100 N g H T rec x0 x2 x3 x4 x5 x6 x7 (k_X2_close N g H T S x0 (some (x0 + 4)) (x7 * (nI 32))))
def KO_X2_climb_87 (N g H T : Nat) (rok : Nat → Option Nat → Int32 → Int32 → Int32 → Int32 → Int32 → cS → Prop) (x0 : Nat) (x2 : Option Nat) (x3 : Int32) (x4 : Int32) (x5 : Int32) (x6 : Int32) (x7 : Int32) (S : cS) : Prop := (p_X2_close N g H T S x0 (some (x0 + 4)) (x7 * (nI 32))) ∧ KO_X2_climb_100 N g H T rok x0 x2 x3 x4 x5 x6 x7 (k_X2_close N g H T S x0 (some (x0 + 4)) (x7 * (nI 32)))
set_option maxRecDepth 100000 in
set_option maxHeartbeats 4000000 in
theorem kb_X2_climb_87 {G : zG} {o : cO} {u g H T N : Nat} {S : cS} {S0 : cS} {Q : Option Value → cS → Prop} {X : Nat × Nat × Option Nat × Int32 × Int32 × Int32 × Int32 × cS → Prop} (hG : zOK G) (hX0 : ∀ (x0 : Nat) (x2 : Option Nat) (x3 : Int32) (x4 : Int32) (x5 : Int32) (x6 : Int32) (S' : cS), St u g H T S' → Mono S0 S' → isO g H 2 x0 → tK S' 20 x2 → X (0, x0, x2, x3, x4, x5, x6, S') → cX G o dX2_climb mX2_climb 106 [some (va_rf (some x0)), none, some (va_rf x2), some (.int x3), some (.int x4), some (.int x5), some (.int x6), none] [] S' Q) {rec : Nat → Option Nat → Int32 → Int32 → Int32 → Int32 → Int32 → cS → Nat × Nat × Option Nat × Int32 × Int32 × Int32 × Int32 × cS} {rok : Nat → Option Nat → Int32 → Int32 → Int32 → Int32 → Int32 → cS → Prop} (hrec : ∀ (x0 : Nat) (x2 : Option Nat) (x3 : Int32) (x4 : Int32) (x5 : Int32) (x6 : Int32) (x7 : Int32) (S : cS), St u g H T S → Mono S0 S → isO g H 2 x0 → tK S 20 x2 → rok x0 x2 x3 x4 x5 x6 x7 S → X (rec x0 x2 x3 x4 x5 x6 x7 S) → cX G o dX2_climb mX2_climb 45 [some (va_rf (some x0)), none, some (va_rf x2), some (.int x3), some (.int x4), some (.int x5), some (.int x6), some (.int x7)] [] S Q) {x0 : Nat} {x2 : Option Nat} {x3 : Int32} {x4 : Int32} {x5 : Int32} {x6 : Int32} {x7 : Int32} (hS : St u g H T S) (hM : Mono S0 S) (t_x0 : isO g H 2 x0) (t_x2 : tK S 20 x2) (ok : KO_X2_climb_87 N g H T rok x0 x2 x3 x4 x5 x6 x7 S) (hx : X (KF_X2_climb_87 N g H T rec x0 x2 x3 x4 x5 x6 x7 S)) : cX G o dX2_climb mX2_climb 87 [some (va_rf (some x0)), none, some (va_rf x2), some (.int x3), some (.int x4), some (.int x5), some (.int x6), some (.int x7)] [] S Q := by
  unfold KO_X2_climb_87 at ok
  unfold KF_X2_climb_87 at hx
  refine c_aload_nQ dX2_climb_87 rfl rfl ?_
  refine c_aload_nQ dX2_climb_88 rfl rfl ?_
  refine c_getS (C := RX2) (T := TX2) (N := 6) (ci := 2) (k := 3) ⟨rfl, inT2, by decide, fX2_22⟩ (by decide) (by decide) (by decide) dX2_climb_89 (hS.k t_x0) (hS.r (c := 2) t_x0 rfl (by omega)) ?_
  refine c_iload dX2_climb_92 rfl ?_
  refine c_bipush (v := nI 32) dX2_climb_94 (by decide) ?_
  refine c_imul dX2_climb_96 ?_
  refine c_V2vK (ci := 2) (rr := (RX2, TX2, 6)) (y' := mX2_close) dX2_climb_97 lX2_58 kX2_close ⟨by decide, by decide⟩ rfl rfl (by decide) (hS.k t_x0) (Nat.le_of_ble_eq_true rfl) (kc_X2_close hG hS t_x0 (hS.rk (c := 2) (k := 3) t_x0 rfl (by omega)) ok.1) (fun ⟨hS, hm_97⟩ => ?_)
  have hM := hM.trans hm_97
  have ok := ok.2
  exact cX.cutz (kb_X2_climb_100 hG hX0 hrec hS hM t_x0 (hm_97.tK t_x2 (by decide)) ok hx) ⟨rfl, rfl, rfl, rfl, rfl, rfl, rfl, trivial⟩
def KF_X2_climb_63 (N g H T : Nat) (rec : Nat → Option Nat → Int32 → Int32 → Int32 → Int32 → Int32 → cS → Nat × Nat × Option Nat × Int32 × Int32 × Int32 × Int32 × cS) (x0 : Nat) (x2 : Option Nat) (x3 : Int32) (x4 : Int32) (x5 : Int32) (x6 : Int32) (x7 : Int32) (S : cS) : Nat × Nat × Option Nat × Int32 × Int32 × Int32 × Int32 × cS := (KF_X2_climb_87 N g H T rec x0 x2 x3 x4 x5 x6 x7 (k_X2_add_ N g H T S x0 (some (x0 + 4)) (((nI 2) * x7) * (nI 32)) ((((nI 2) * x7) + (nI 2)) * (nI 32))))
def KO_X2_climb_63 (N g H T : Nat) (rok : Nat → Option Nat → Int32 → Int32 → Int32 → Int32 → Int32 → cS → Prop) (x0 : Nat) (x2 : Option Nat) (x3 : Int32) (x4 : Int32) (x5 : Int32) (x6 : Int32) (x7 : Int32) (S : cS) : Prop := (p_X2_add_ N g H T S x0 (some (x0 + 4)) (((nI 2) * x7) * (nI 32)) ((((nI 2) * x7) + (nI 2)) * (nI 32))) ∧ KO_X2_climb_87 N g H T rok x0 x2 x3 x4 x5 x6 x7 (k_X2_add_ N g H T S x0 (some (x0 + 4)) (((nI 2) * x7) * (nI 32)) ((((nI 2) * x7) + (nI 2)) * (nI 32)))
set_option maxRecDepth 100000 in
set_option maxHeartbeats 4000000 in
theorem kb_X2_climb_63 {G : zG} {o : cO} {u g H T N : Nat} {S : cS} {S0 : cS} {Q : Option Value → cS → Prop} {X : Nat × Nat × Option Nat × Int32 × Int32 × Int32 × Int32 × cS → Prop} (hG : zOK G) (hX0 : ∀ (x0 : Nat) (x2 : Option Nat) (x3 : Int32) (x4 : Int32) (x5 : Int32) (x6 : Int32) (S' : cS), St u g H T S' → Mono S0 S' → isO g H 2 x0 → tK S' 20 x2 → X (0, x0, x2, x3, x4, x5, x6, S') → cX G o dX2_climb mX2_climb 106 [some (va_rf (some x0)), none, some (va_rf x2), some (.int x3), some (.int x4), some (.int x5), some (.int x6), none] [] S' Q) {rec : Nat → Option Nat → Int32 → Int32 → Int32 → Int32 → Int32 → cS → Nat × Nat × Option Nat × Int32 × Int32 × Int32 × Int32 × cS} {rok : Nat → Option Nat → Int32 → Int32 → Int32 → Int32 → Int32 → cS → Prop} (hrec : ∀ (x0 : Nat) (x2 : Option Nat) (x3 : Int32) (x4 : Int32) (x5 : Int32) (x6 : Int32) (x7 : Int32) (S : cS), St u g H T S → Mono S0 S → isO g H 2 x0 → tK S 20 x2 → rok x0 x2 x3 x4 x5 x6 x7 S → X (rec x0 x2 x3 x4 x5 x6 x7 S) → cX G o dX2_climb mX2_climb 45 [some (va_rf (some x0)), none, some (va_rf x2), some (.int x3), some (.int x4), some (.int x5), some (.int x6), some (.int x7)] [] S Q) {x0 : Nat} {x2 : Option Nat} {x3 : Int32} {x4 : Int32} {x5 : Int32} {x6 : Int32} {x7 : Int32} (hS : St u g H T S) (hM : Mono S0 S) (t_x0 : isO g H 2 x0) (t_x2 : tK S 20 x2) (ok : KO_X2_climb_63 N g H T rok x0 x2 x3 x4 x5 x6 x7 S) (hx : X (KF_X2_climb_63 N g H T rec x0 x2 x3 x4 x5 x6 x7 S)) : cX G o dX2_climb mX2_climb 63 [some (va_rf (some x0)), none, some (va_rf x2), some (.int x3), some (.int x4), some (.int x5), some (.int x6), some (.int x7)] [] S Q := by
  unfold KO_X2_climb_63 at ok
  unfold KF_X2_climb_63 at hx
  refine c_aload_nQ dX2_climb_63 rfl rfl ?_
  refine c_aload_nQ dX2_climb_64 rfl rfl ?_
  refine c_getS (C := RX2) (T := TX2) (N := 6) (ci := 2) (k := 3) ⟨rfl, inT2, by decide, fX2_22⟩ (by decide) (by decide) (by decide) dX2_climb_65 (hS.k t_x0) (hS.r (c := 2) t_x0 rfl (by omega)) ?_
  refine c_iconst (v := nI 2) dX2_climb_68 (by decide) ?_
  refine c_iload dX2_climb_69 rfl ?_
  refine c_imul dX2_climb_71 ?_
  refine c_bipush (v := nI 32) dX2_climb_72 (by decide) ?_
  refine c_imul dX2_climb_74 ?_
  refine c_iconst (v := nI 2) dX2_climb_75 (by decide) ?_
  refine c_iload dX2_climb_76 rfl ?_
  refine c_imul dX2_climb_78 ?_
  refine c_iconst (v := nI 2) dX2_climb_79 (by decide) ?_
  refine c_iadd dX2_climb_80 ?_
  refine c_bipush (v := nI 32) dX2_climb_81 (by decide) ?_
  refine c_imul dX2_climb_83 ?_
  refine c_V3vK (ci := 2) (rr := (RX2, TX2, 6)) (y' := mX2_add_) dX2_climb_84 lX2_54 kX2_add_ ⟨by decide, by decide⟩ rfl rfl (by decide) (hS.k t_x0) (Nat.le_of_ble_eq_true rfl) (kc_X2_add_ hG hS t_x0 (hS.rk (c := 2) (k := 3) t_x0 rfl (by omega)) ok.1) (fun ⟨hS, hm_84⟩ => ?_)
  have hM := hM.trans hm_84
  have ok := ok.2
  exact cX.cutz (kb_X2_climb_87 hG hX0 hrec hS hM t_x0 (hm_84.tK t_x2 (by decide)) ok hx) ⟨rfl, rfl, rfl, rfl, rfl, rfl, rfl, trivial⟩
def KF_X2_climb_58 (N g H T : Nat) (rec : Nat → Option Nat → Int32 → Int32 → Int32 → Int32 → Int32 → cS → Nat × Nat × Option Nat × Int32 × Int32 × Int32 × Int32 × cS) (x0 : Nat) (x2 : Option Nat) (x3 : Int32) (x4 : Int32) (x5 : Int32) (x6 : Int32) (x7 : Int32) (S : cS) : Nat × Nat × Option Nat × Int32 × Int32 × Int32 × Int32 × cS := (KF_X2_climb_63 N g H T rec x0 x2 x3 x4 x5 x6 x7 (k_X2_add N g H T S x0 (nI 1)))
def KO_X2_climb_58 (N g H T : Nat) (rok : Nat → Option Nat → Int32 → Int32 → Int32 → Int32 → Int32 → cS → Prop) (x0 : Nat) (x2 : Option Nat) (x3 : Int32) (x4 : Int32) (x5 : Int32) (x6 : Int32) (x7 : Int32) (S : cS) : Prop := (p_X2_add N g H T S x0 (nI 1)) ∧ KO_X2_climb_63 N g H T rok x0 x2 x3 x4 x5 x6 x7 (k_X2_add N g H T S x0 (nI 1))
set_option maxRecDepth 100000 in
set_option maxHeartbeats 4000000 in
theorem kb_X2_climb_58 {G : zG} {o : cO} {u g H T N : Nat} {S : cS} {S0 : cS} {Q : Option Value → cS → Prop} {X : Nat × Nat × Option Nat × Int32 × Int32 × Int32 × Int32 × cS → Prop} (hG : zOK G) (hX0 : ∀ (x0 : Nat) (x2 : Option Nat) (x3 : Int32) (x4 : Int32) (x5 : Int32) (x6 : Int32) (S' : cS), St u g H T S' → Mono S0 S' → isO g H 2 x0 → tK S' 20 x2 → X (0, x0, x2, x3, x4, x5, x6, S') → cX G o dX2_climb mX2_climb 106 [some (va_rf (some x0)), none, some (va_rf x2), some (.int x3), some (.int x4), some (.int x5), some (.int x6), none] [] S' Q) {rec : Nat → Option Nat → Int32 → Int32 → Int32 → Int32 → Int32 → cS → Nat × Nat × Option Nat × Int32 × Int32 × Int32 × Int32 × cS} {rok : Nat → Option Nat → Int32 → Int32 → Int32 → Int32 → Int32 → cS → Prop} (hrec : ∀ (x0 : Nat) (x2 : Option Nat) (x3 : Int32) (x4 : Int32) (x5 : Int32) (x6 : Int32) (x7 : Int32) (S : cS), St u g H T S → Mono S0 S → isO g H 2 x0 → tK S 20 x2 → rok x0 x2 x3 x4 x5 x6 x7 S → X (rec x0 x2 x3 x4 x5 x6 x7 S) → cX G o dX2_climb mX2_climb 45 [some (va_rf (some x0)), none, some (va_rf x2), some (.int x3), some (.int x4), some (.int x5), some (.int x6), some (.int x7)] [] S Q) {x0 : Nat} {x2 : Option Nat} {x3 : Int32} {x4 : Int32} {x5 : Int32} {x6 : Int32} {x7 : Int32} (hS : St u g H T S) (hM : Mono S0 S) (t_x0 : isO g H 2 x0) (t_x2 : tK S 20 x2) (ok : KO_X2_climb_58 N g H T rok x0 x2 x3 x4 x5 x6 x7 S) (hx : X (KF_X2_climb_58 N g H T rec x0 x2 x3 x4 x5 x6 x7 S)) : cX G o dX2_climb mX2_climb 58 [some (va_rf (some x0)), none, some (va_rf x2), some (.int x3), some (.int x4), some (.int x5), some (.int x6), some (.int x7)] [] S Q := by
  unfold KO_X2_climb_58 at ok
  unfold KF_X2_climb_58 at hx
  refine c_aload_nQ dX2_climb_58 rfl rfl ?_
  refine c_iconst (v := nI 1) dX2_climb_59 (by decide) ?_
  refine c_V1vK (ci := 2) (rr := (RX2, TX2, 6)) (y' := mX2_add) dX2_climb_60 lX2_65 kX2_add ⟨by decide, by decide⟩ rfl rfl (by decide) (hS.k t_x0) (Nat.le_of_ble_eq_true rfl) (kc_X2_add hG hS t_x0 ok.1) (fun ⟨hS, hm_60⟩ => ?_)
  have hM := hM.trans hm_60
  have ok := ok.2
  exact cX.cutz (kb_X2_climb_63 hG hX0 hrec hS hM t_x0 (hm_60.tK t_x2 (by decide)) ok hx) ⟨rfl, rfl, rfl, rfl, rfl, rfl, rfl, trivial⟩
def KB_X2_climb_45 (N g H T : Nat) (rec : Nat → Option Nat → Int32 → Int32 → Int32 → Int32 → Int32 → cS → Nat × Nat × Option Nat × Int32 × Int32 × Int32 × Int32 × cS) (x0 : Nat) (x2 : Option Nat) (x3 : Int32) (x4 : Int32) (x5 : Int32) (x6 : Int32) (x7 : Int32) (S : cS) : Nat × Nat × Option Nat × Int32 × Int32 × Int32 × Int32 × cS := (if (x6 / (nI 2)) ≤ x7 then (0, x0, x2, x3, x4, x5, x6, S) else (KF_X2_climb_58 N g H T rec x0 x2 x3 x4 x5 x6 x7 (k_X2_open N g H T S x0)))
def KOB_X2_climb_45 (N g H T : Nat) (rok : Nat → Option Nat → Int32 → Int32 → Int32 → Int32 → Int32 → cS → Prop) (x0 : Nat) (x2 : Option Nat) (x3 : Int32) (x4 : Int32) (x5 : Int32) (x6 : Int32) (x7 : Int32) (S : cS) : Prop := (((x6 / (nI 2)) ≤ x7 → True) ∧ (¬ (x6 / (nI 2)) ≤ x7 → (p_X2_open N g H T S x0) ∧ KO_X2_climb_58 N g H T rok x0 x2 x3 x4 x5 x6 x7 (k_X2_open N g H T S x0)))
set_option maxRecDepth 100000 in
set_option maxHeartbeats 4000000 in
theorem kbb_X2_climb_45 {G : zG} {o : cO} {u g H T N : Nat} {S : cS} {S0 : cS} {Q : Option Value → cS → Prop} {X : Nat × Nat × Option Nat × Int32 × Int32 × Int32 × Int32 × cS → Prop} (hG : zOK G) (hX0 : ∀ (x0 : Nat) (x2 : Option Nat) (x3 : Int32) (x4 : Int32) (x5 : Int32) (x6 : Int32) (S' : cS), St u g H T S' → Mono S0 S' → isO g H 2 x0 → tK S' 20 x2 → X (0, x0, x2, x3, x4, x5, x6, S') → cX G o dX2_climb mX2_climb 106 [some (va_rf (some x0)), none, some (va_rf x2), some (.int x3), some (.int x4), some (.int x5), some (.int x6), none] [] S' Q) {rec : Nat → Option Nat → Int32 → Int32 → Int32 → Int32 → Int32 → cS → Nat × Nat × Option Nat × Int32 × Int32 × Int32 × Int32 × cS} {rok : Nat → Option Nat → Int32 → Int32 → Int32 → Int32 → Int32 → cS → Prop} (hrec : ∀ (x0 : Nat) (x2 : Option Nat) (x3 : Int32) (x4 : Int32) (x5 : Int32) (x6 : Int32) (x7 : Int32) (S : cS), St u g H T S → Mono S0 S → isO g H 2 x0 → tK S 20 x2 → rok x0 x2 x3 x4 x5 x6 x7 S → X (rec x0 x2 x3 x4 x5 x6 x7 S) → cX G o dX2_climb mX2_climb 45 [some (va_rf (some x0)), none, some (va_rf x2), some (.int x3), some (.int x4), some (.int x5), some (.int x6), some (.int x7)] [] S Q) {x0 : Nat} {x2 : Option Nat} {x3 : Int32} {x4 : Int32} {x5 : Int32} {x6 : Int32} {x7 : Int32} (hS : St u g H T S) (hM : Mono S0 S) (t_x0 : isO g H 2 x0) (t_x2 : tK S 20 x2) (ok : KOB_X2_climb_45 N g H T rok x0 x2 x3 x4 x5 x6 x7 S) (hx : X (KB_X2_climb_45 N g H T rec x0 x2 x3 x4 x5 x6 x7 S)) : cX G o dX2_climb mX2_climb 45 [some (va_rf (some x0)), none, some (va_rf x2), some (.int x3), some (.int x4), some (.int x5), some (.int x6), some (.int x7)] [] S Q := by
  unfold KOB_X2_climb_45 at ok
  unfold KB_X2_climb_45 at hx
  refine c_iload dX2_climb_45 rfl ?_
  refine c_iload dX2_climb_47 rfl ?_
  refine c_iconst (v := nI 2) dX2_climb_49 (by decide) ?_
  refine c_idiv dX2_climb_50 (by decide) ?_
  refine c_icmp_ge (tgt := 106) dX2_climb_51 (by decide) (fun c_51 => ?_) (fun c_51 => ?_)
  · have ok := ok.1 c_51
    have hx := xif_p c_51 hx
    exact cX.cutz (hX0 _ _ _ _ _ _ S hS hM t_x0 t_x2 hx) ⟨rfl, rfl, rfl, rfl, rfl, rfl, trivial⟩
  · have ok := ok.2 c_51
    have hx := xif_n c_51 hx
    refine c_aload_nQ dX2_climb_54 rfl rfl ?_
    refine c_V0vK (ci := 2) (rr := (RX2, TX2, 6)) (y' := mX2_open) dX2_climb_55 lX2_51 kX2_open ⟨by decide, by decide⟩ rfl rfl (by decide) (hS.k t_x0) (Nat.le_of_ble_eq_true rfl) (kc_X2_open hG hS t_x0 ok.1) (fun ⟨hS, hm_55⟩ => ?_)
    have hM := hM.trans hm_55
    have ok := ok.2
    exact cX.cutz (kb_X2_climb_58 hG hX0 hrec hS hM t_x0 (hm_55.tK t_x2 (by decide)) ok hx) ⟨rfl, rfl, rfl, rfl, rfl, rfl, rfl, trivial⟩
def KL_X2_climb_45 (N g H T : Nat) : Nat → Nat → Option Nat → Int32 → Int32 → Int32 → Int32 → Int32 → cS → Nat × Nat × Option Nat × Int32 × Int32 × Int32 × Int32 × cS
  | 0, x0, x2, x3, x4, x5, x6, x7, S => (0, 0, none, 0, 0, 0, 0, S)
  | n + 1, x0, x2, x3, x4, x5, x6, x7, S => KB_X2_climb_45 N g H T (KL_X2_climb_45 N g H T n) x0 x2 x3 x4 x5 x6 x7 S
def KOL_X2_climb_45 (N g H T : Nat) : Nat → Nat → Option Nat → Int32 → Int32 → Int32 → Int32 → Int32 → cS → Prop
  | 0, _, _, _, _, _, _, _, _ => False
  | n + 1, x0, x2, x3, x4, x5, x6, x7, S => KOB_X2_climb_45 N g H T (KOL_X2_climb_45 N g H T n) x0 x2 x3 x4 x5 x6 x7 S
set_option maxRecDepth 100000 in
set_option maxHeartbeats 4000000 in
theorem kl_X2_climb_45 {G : zG} {o : cO} {u g H T N : Nat} {S0 : cS} {Q : Option Value → cS → Prop} {X : Nat × Nat × Option Nat × Int32 × Int32 × Int32 × Int32 × cS → Prop} (hG : zOK G) (hX0 : ∀ (x0 : Nat) (x2 : Option Nat) (x3 : Int32) (x4 : Int32) (x5 : Int32) (x6 : Int32) (S' : cS), St u g H T S' → Mono S0 S' → isO g H 2 x0 → tK S' 20 x2 → X (0, x0, x2, x3, x4, x5, x6, S') → cX G o dX2_climb mX2_climb 106 [some (va_rf (some x0)), none, some (va_rf x2), some (.int x3), some (.int x4), some (.int x5), some (.int x6), none] [] S' Q) : ∀ (n : Nat) (x0 : Nat) (x2 : Option Nat) (x3 : Int32) (x4 : Int32) (x5 : Int32) (x6 : Int32) (x7 : Int32) (S : cS), St u g H T S → Mono S0 S → isO g H 2 x0 → tK S 20 x2 → KOL_X2_climb_45 N g H T n x0 x2 x3 x4 x5 x6 x7 S → X (KL_X2_climb_45 N g H T n x0 x2 x3 x4 x5 x6 x7 S) → cX G o dX2_climb mX2_climb 45 [some (va_rf (some x0)), none, some (va_rf x2), some (.int x3), some (.int x4), some (.int x5), some (.int x6), some (.int x7)] [] S Q := by
  intro n
  induction n with
  | zero => intro x0 x2 x3 x4 x5 x6 x7 S hS hM t_x0 t_x2 ok; exact absurd ok id
  | succ n ih =>
    intro x0 x2 x3 x4 x5 x6 x7 S hS hM t_x0 t_x2 ok hx
    exact kbb_X2_climb_45 hG hX0 (rec := KL_X2_climb_45 N g H T n) (rok := KOL_X2_climb_45 N g H T n) (fun x0 x2 x3 x4 x5 x6 x7 S hS hM t_x0 t_x2 ok hx => ih x0 x2 x3 x4 x5 x6 x7 S hS hM t_x0 t_x2 ok hx) hS hM t_x0 t_x2 ok hx
def KA_X2_climb_45 (N g H T : Nat) (rec : Nat → Option Nat → Int32 → Int32 → Int32 → Int32 → cS → Nat × Int32 × Int32 × cS) (x0 : Nat) (x2 : Option Nat) (x3 : Int32) (x4 : Int32) (x5 : Int32) (x6 : Int32) (x7 : Int32) (S : cS) (z : Nat × Nat × Option Nat × Int32 × Int32 × Int32 × Int32 × cS) : Nat × Int32 × Int32 × cS := (KF_X2_climb_106 N g H T rec (z.2.1) (z.2.2.1) (z.2.2.2.1) (z.2.2.2.2.1) (z.2.2.2.2.2.1) (z.2.2.2.2.2.2.1) z.2.2.2.2.2.2.2)
def KOA_X2_climb_45 (N g H T : Nat) (rok : Nat → Option Nat → Int32 → Int32 → Int32 → Int32 → cS → Prop) (x0 : Nat) (x2 : Option Nat) (x3 : Int32) (x4 : Int32) (x5 : Int32) (x6 : Int32) (x7 : Int32) (S : cS) (z : Nat × Nat × Option Nat × Int32 × Int32 × Int32 × Int32 × cS) : Prop := KO_X2_climb_106 N g H T rok (z.2.1) (z.2.2.1) (z.2.2.2.1) (z.2.2.2.2.1) (z.2.2.2.2.2.1) (z.2.2.2.2.2.2.1) z.2.2.2.2.2.2.2
set_option maxRecDepth 100000 in
set_option maxHeartbeats 4000000 in
theorem kd_X2_climb_45 {G : zG} {o : cO} {u g H T N : Nat} {S : cS} {S0 : cS} {Q : Option Value → cS → Prop} {X : Nat × Int32 × Int32 × cS → Prop} (hG : zOK G) (hX0 : ∀ (x3 : Int32) (x5 : Int32) (S' : cS), St u g H T S' → Mono S0 S' → X (0, x3, x5, S') → cX G o dX2_climb mX2_climb 152 [none, none, none, some (.int x3), none, some (.int x5), none, none] [] S' Q) {rec : Nat → Option Nat → Int32 → Int32 → Int32 → Int32 → cS → Nat × Int32 × Int32 × cS} {rok : Nat → Option Nat → Int32 → Int32 → Int32 → Int32 → cS → Prop} (hrec : ∀ (x0 : Nat) (x2 : Option Nat) (x3 : Int32) (x4 : Int32) (x5 : Int32) (x6 : Int32) (S : cS), St u g H T S → Mono S0 S → isO g H 2 x0 → tK S 20 x2 → rok x0 x2 x3 x4 x5 x6 S → X (rec x0 x2 x3 x4 x5 x6 S) → cX G o dX2_climb mX2_climb 12 [some (va_rf (some x0)), none, some (va_rf x2), some (.int x3), some (.int x4), some (.int x5), some (.int x6), none] [] S Q) {x0 : Nat} {x2 : Option Nat} {x3 : Int32} {x4 : Int32} {x5 : Int32} {x6 : Int32} {x7 : Int32} (hS : St u g H T S) (hM : Mono S0 S) (t_x0 : isO g H 2 x0) (t_x2 : tK S 20 x2) (ok : KOL_X2_climb_45 N g H T N x0 x2 x3 x4 x5 x6 x7 S ∧ KOA_X2_climb_45 N g H T rok x0 x2 x3 x4 x5 x6 x7 S (KL_X2_climb_45 N g H T N x0 x2 x3 x4 x5 x6 x7 S)) (hx : X (KA_X2_climb_45 N g H T rec x0 x2 x3 x4 x5 x6 x7 S (KL_X2_climb_45 N g H T N x0 x2 x3 x4 x5 x6 x7 S))) : cX G o dX2_climb mX2_climb 45 [some (va_rf (some x0)), none, some (va_rf x2), some (.int x3), some (.int x4), some (.int x5), some (.int x6), some (.int x7)] [] S Q := by
  refine kl_X2_climb_45 hG ?_ N x0 x2 x3 x4 x5 x6 x7 S hS hM t_x0 t_x2 ok.1 (X := fun z => KOA_X2_climb_45 N g H T rok x0 x2 x3 x4 x5 x6 x7 S z ∧ X (KA_X2_climb_45 N g H T rec x0 x2 x3 x4 x5 x6 x7 S z)) ⟨ok.2, hx⟩
  · intro x0' x2' x3' x4' x5' x6' S' hS hM t_x0 t_x2 hz
    obtain ⟨ok, hx⟩ := hz
    unfold KOA_X2_climb_45 at ok
    unfold KA_X2_climb_45 at hx
    exact cX.cutz (kb_X2_climb_106 hG hX0 hrec hS hM t_x0 t_x2 ok hx) ⟨rfl, rfl, rfl, rfl, rfl, rfl, trivial⟩
def KF_X2_climb_42 (N g H T : Nat) (rec : Nat → Option Nat → Int32 → Int32 → Int32 → Int32 → cS → Nat × Int32 × Int32 × cS) (x0 : Nat) (x2 : Option Nat) (x3 : Int32) (x4 : Int32) (x5 : Int32) (x6 : Int32) (S : cS) : Nat × Int32 × Int32 × cS := (KA_X2_climb_45 N g H T rec x0 x2 x3 x4 x5 x6 (nI 0) S (KL_X2_climb_45 N g H T N x0 x2 x3 x4 x5 x6 (nI 0) S))
def KO_X2_climb_42 (N g H T : Nat) (rok : Nat → Option Nat → Int32 → Int32 → Int32 → Int32 → cS → Prop) (x0 : Nat) (x2 : Option Nat) (x3 : Int32) (x4 : Int32) (x5 : Int32) (x6 : Int32) (S : cS) : Prop := (KOL_X2_climb_45 N g H T N x0 x2 x3 x4 x5 x6 (nI 0) S ∧ KOA_X2_climb_45 N g H T rok x0 x2 x3 x4 x5 x6 (nI 0) S (KL_X2_climb_45 N g H T N x0 x2 x3 x4 x5 x6 (nI 0) S))
set_option maxRecDepth 100000 in
set_option maxHeartbeats 4000000 in
theorem kb_X2_climb_42 {G : zG} {o : cO} {u g H T N : Nat} {S : cS} {S0 : cS} {Q : Option Value → cS → Prop} {X : Nat × Int32 × Int32 × cS → Prop} (hG : zOK G) (hX0 : ∀ (x3 : Int32) (x5 : Int32) (S' : cS), St u g H T S' → Mono S0 S' → X (0, x3, x5, S') → cX G o dX2_climb mX2_climb 152 [none, none, none, some (.int x3), none, some (.int x5), none, none] [] S' Q) {rec : Nat → Option Nat → Int32 → Int32 → Int32 → Int32 → cS → Nat × Int32 × Int32 × cS} {rok : Nat → Option Nat → Int32 → Int32 → Int32 → Int32 → cS → Prop} (hrec : ∀ (x0 : Nat) (x2 : Option Nat) (x3 : Int32) (x4 : Int32) (x5 : Int32) (x6 : Int32) (S : cS), St u g H T S → Mono S0 S → isO g H 2 x0 → tK S 20 x2 → rok x0 x2 x3 x4 x5 x6 S → X (rec x0 x2 x3 x4 x5 x6 S) → cX G o dX2_climb mX2_climb 12 [some (va_rf (some x0)), none, some (va_rf x2), some (.int x3), some (.int x4), some (.int x5), some (.int x6), none] [] S Q) {x0 : Nat} {x2 : Option Nat} {x3 : Int32} {x4 : Int32} {x5 : Int32} {x6 : Int32} (hS : St u g H T S) (hM : Mono S0 S) (t_x0 : isO g H 2 x0) (t_x2 : tK S 20 x2) (ok : KO_X2_climb_42 N g H T rok x0 x2 x3 x4 x5 x6 S) (hx : X (KF_X2_climb_42 N g H T rec x0 x2 x3 x4 x5 x6 S)) : cX G o dX2_climb mX2_climb 42 [some (va_rf (some x0)), none, some (va_rf x2), some (.int x3), some (.int x4), some (.int x5), some (.int x6), none] [] S Q := by
  unfold KO_X2_climb_42 at ok
  unfold KF_X2_climb_42 at hx
  refine c_iconst (v := nI 0) dX2_climb_42 (by decide) ?_
  refine c_istore_7 dX2_climb_43 (by decide) rfl ?_
  exact cX.cutz (kd_X2_climb_45 hG hX0 hrec hS hM t_x0 t_x2 ok hx) ⟨rfl, rfl, rfl, rfl, rfl, rfl, rfl, trivial⟩
def KF_X2_climb_34 (N g H T : Nat) (rec : Nat → Option Nat → Int32 → Int32 → Int32 → Int32 → cS → Nat × Int32 × Int32 × cS) (x0 : Nat) (x2 : Option Nat) (x3 : Int32) (x4 : Int32) (x6 : Int32) (s0 : Int32) (S : cS) : Nat × Int32 × Int32 × cS := (KF_X2_climb_42 N g H T rec x0 x2 x3 (x4 / (nI 2)) s0 x6 S)
def KO_X2_climb_34 (N g H T : Nat) (rok : Nat → Option Nat → Int32 → Int32 → Int32 → Int32 → cS → Prop) (x0 : Nat) (x2 : Option Nat) (x3 : Int32) (x4 : Int32) (x6 : Int32) (s0 : Int32) (S : cS) : Prop := KO_X2_climb_42 N g H T rok x0 x2 x3 (x4 / (nI 2)) s0 x6 S
set_option maxRecDepth 100000 in
set_option maxHeartbeats 4000000 in
theorem kb_X2_climb_34 {G : zG} {o : cO} {u g H T N : Nat} {S : cS} {S0 : cS} {Q : Option Value → cS → Prop} {X : Nat × Int32 × Int32 × cS → Prop} (hG : zOK G) (hX0 : ∀ (x3 : Int32) (x5 : Int32) (S' : cS), St u g H T S' → Mono S0 S' → X (0, x3, x5, S') → cX G o dX2_climb mX2_climb 152 [none, none, none, some (.int x3), none, some (.int x5), none, none] [] S' Q) {rec : Nat → Option Nat → Int32 → Int32 → Int32 → Int32 → cS → Nat × Int32 × Int32 × cS} {rok : Nat → Option Nat → Int32 → Int32 → Int32 → Int32 → cS → Prop} (hrec : ∀ (x0 : Nat) (x2 : Option Nat) (x3 : Int32) (x4 : Int32) (x5 : Int32) (x6 : Int32) (S : cS), St u g H T S → Mono S0 S → isO g H 2 x0 → tK S 20 x2 → rok x0 x2 x3 x4 x5 x6 S → X (rec x0 x2 x3 x4 x5 x6 S) → cX G o dX2_climb mX2_climb 12 [some (va_rf (some x0)), none, some (va_rf x2), some (.int x3), some (.int x4), some (.int x5), some (.int x6), none] [] S Q) {x0 : Nat} {x2 : Option Nat} {x3 : Int32} {x4 : Int32} {x6 : Int32} {s0 : Int32} (hS : St u g H T S) (hM : Mono S0 S) (t_x0 : isO g H 2 x0) (t_x2 : tK S 20 x2) (ok : KO_X2_climb_34 N g H T rok x0 x2 x3 x4 x6 s0 S) (hx : X (KF_X2_climb_34 N g H T rec x0 x2 x3 x4 x6 s0 S)) : cX G o dX2_climb mX2_climb 34 [some (va_rf (some x0)), none, some (va_rf x2), some (.int x3), some (.int x4), none, some (.int x6), none] [.int s0] S Q := by
  unfold KO_X2_climb_34 at ok
  unfold KF_X2_climb_34 at hx
  refine c_istore_5 dX2_climb_34 (by decide) rfl ?_
  refine c_iload dX2_climb_36 rfl ?_
  refine c_iconst (v := nI 2) dX2_climb_38 (by decide) ?_
  refine c_idiv dX2_climb_39 (by decide) ?_
  refine c_istore_4 dX2_climb_40 (by decide) rfl ?_
  exact cX.cutz (kb_X2_climb_42 hG hX0 hrec hS hM t_x0 t_x2 ok hx) ⟨rfl, rfl, rfl, rfl, rfl, rfl, trivial⟩
def KB_X2_climb_12 (N g H T : Nat) (rec : Nat → Option Nat → Int32 → Int32 → Int32 → Int32 → cS → Nat × Int32 × Int32 × cS) (x0 : Nat) (x2 : Option Nat) (x3 : Int32) (x4 : Int32) (x5 : Int32) (x6 : Int32) (S : cS) : Nat × Int32 × Int32 × cS := (if x6 ≤ (nI 1) then (0, x3, x5, S) else (if x4 < 0 then (KF_X2_climb_42 N g H T rec x0 x2 x3 x4 x5 x6 S) else (KF_X2_climb_34 N g H T rec x0 x2 x3 x4 x6 ((k_X2_step N g H T S x0 x4 x6 x2 x5).1) (k_X2_step N g H T S x0 x4 x6 x2 x5).2)))
def KOB_X2_climb_12 (N g H T : Nat) (rok : Nat → Option Nat → Int32 → Int32 → Int32 → Int32 → cS → Prop) (x0 : Nat) (x2 : Option Nat) (x3 : Int32) (x4 : Int32) (x5 : Int32) (x6 : Int32) (S : cS) : Prop := ((x6 ≤ (nI 1) → True) ∧ (¬ x6 ≤ (nI 1) → ((x4 < 0 → KO_X2_climb_42 N g H T rok x0 x2 x3 x4 x5 x6 S) ∧ (¬ x4 < 0 → (p_X2_step N g H T S x0 x4 x6 x2 x5) ∧ KO_X2_climb_34 N g H T rok x0 x2 x3 x4 x6 ((k_X2_step N g H T S x0 x4 x6 x2 x5).1) (k_X2_step N g H T S x0 x4 x6 x2 x5).2))))
set_option maxRecDepth 100000 in
set_option maxHeartbeats 4000000 in
theorem kbb_X2_climb_12 {G : zG} {o : cO} {u g H T N : Nat} {S : cS} {S0 : cS} {Q : Option Value → cS → Prop} {X : Nat × Int32 × Int32 × cS → Prop} (hG : zOK G) (hX0 : ∀ (x3 : Int32) (x5 : Int32) (S' : cS), St u g H T S' → Mono S0 S' → X (0, x3, x5, S') → cX G o dX2_climb mX2_climb 152 [none, none, none, some (.int x3), none, some (.int x5), none, none] [] S' Q) {rec : Nat → Option Nat → Int32 → Int32 → Int32 → Int32 → cS → Nat × Int32 × Int32 × cS} {rok : Nat → Option Nat → Int32 → Int32 → Int32 → Int32 → cS → Prop} (hrec : ∀ (x0 : Nat) (x2 : Option Nat) (x3 : Int32) (x4 : Int32) (x5 : Int32) (x6 : Int32) (S : cS), St u g H T S → Mono S0 S → isO g H 2 x0 → tK S 20 x2 → rok x0 x2 x3 x4 x5 x6 S → X (rec x0 x2 x3 x4 x5 x6 S) → cX G o dX2_climb mX2_climb 12 [some (va_rf (some x0)), none, some (va_rf x2), some (.int x3), some (.int x4), some (.int x5), some (.int x6), none] [] S Q) {x0 : Nat} {x2 : Option Nat} {x3 : Int32} {x4 : Int32} {x5 : Int32} {x6 : Int32} (hS : St u g H T S) (hM : Mono S0 S) (t_x0 : isO g H 2 x0) (t_x2 : tK S 20 x2) (ok : KOB_X2_climb_12 N g H T rok x0 x2 x3 x4 x5 x6 S) (hx : X (KB_X2_climb_12 N g H T rec x0 x2 x3 x4 x5 x6 S)) : cX G o dX2_climb mX2_climb 12 [some (va_rf (some x0)), none, some (va_rf x2), some (.int x3), some (.int x4), some (.int x5), some (.int x6), none] [] S Q := by
  unfold KOB_X2_climb_12 at ok
  unfold KB_X2_climb_12 at hx
  refine c_iload dX2_climb_12 rfl ?_
  refine c_iconst (v := nI 1) dX2_climb_14 (by decide) ?_
  refine c_icmp_le (tgt := 152) dX2_climb_15 (by decide) (fun c_15 => ?_) (fun c_15 => ?_)
  · have ok := ok.1 c_15
    have hx := xif_p c_15 hx
    exact cX.cutz (hX0 _ _ S hS hM  hx) ⟨rfl, rfl, trivial⟩
  · have ok := ok.2 c_15
    have hx := xif_n c_15 hx
    refine c_iload dX2_climb_18 rfl ?_
    refine c_if_lt (tgt := 42) dX2_climb_20 (by decide) (fun c_20 => ?_) (fun c_20 => ?_)
    · have ok := ok.1 c_20
      have hx := xif_p c_20 hx
      exact cX.cutz (kb_X2_climb_42 hG hX0 hrec hS hM t_x0 t_x2 ok hx) ⟨rfl, rfl, rfl, rfl, rfl, rfl, trivial⟩
    · have ok := ok.2 c_20
      have hx := xif_n c_20 hx
      refine c_aload_nQ dX2_climb_23 rfl rfl ?_
      refine c_iload dX2_climb_24 rfl ?_
      refine c_iload dX2_climb_26 rfl ?_
      refine c_aload_nQ dX2_climb_28 rfl rfl ?_
      refine c_iload dX2_climb_29 rfl ?_
      refine c_V4iK (ci := 2) (rr := (RX2, TX2, 6)) (y' := mX2_step) dX2_climb_31 lX2_73 kX2_step ⟨by decide, by decide⟩ rfl rfl (by decide) (hS.k t_x0) (Nat.le_of_ble_eq_true rfl) (kc_X2_step hG hS t_x0 t_x2 ok.1) (fun ⟨hS, hm_31⟩ => ?_)
      have hM := hM.trans hm_31
      have ok := ok.2
      exact cX.cutz (kb_X2_climb_34 hG hX0 hrec hS hM t_x0 (hm_31.tK t_x2 (by decide)) ok hx) ⟨rfl, rfl, rfl, rfl, rfl, trivial⟩
def KL_X2_climb_12 (N g H T : Nat) : Nat → Nat → Option Nat → Int32 → Int32 → Int32 → Int32 → cS → Nat × Int32 × Int32 × cS
  | 0, x0, x2, x3, x4, x5, x6, S => (0, 0, 0, S)
  | n + 1, x0, x2, x3, x4, x5, x6, S => KB_X2_climb_12 N g H T (KL_X2_climb_12 N g H T n) x0 x2 x3 x4 x5 x6 S
def KOL_X2_climb_12 (N g H T : Nat) : Nat → Nat → Option Nat → Int32 → Int32 → Int32 → Int32 → cS → Prop
  | 0, _, _, _, _, _, _, _ => False
  | n + 1, x0, x2, x3, x4, x5, x6, S => KOB_X2_climb_12 N g H T (KOL_X2_climb_12 N g H T n) x0 x2 x3 x4 x5 x6 S
set_option maxRecDepth 100000 in
set_option maxHeartbeats 4000000 in
theorem kl_X2_climb_12 {G : zG} {o : cO} {u g H T N : Nat} {S0 : cS} {Q : Option Value → cS → Prop} {X : Nat × Int32 × Int32 × cS → Prop} (hG : zOK G) (hX0 : ∀ (x3 : Int32) (x5 : Int32) (S' : cS), St u g H T S' → Mono S0 S' → X (0, x3, x5, S') → cX G o dX2_climb mX2_climb 152 [none, none, none, some (.int x3), none, some (.int x5), none, none] [] S' Q) : ∀ (n : Nat) (x0 : Nat) (x2 : Option Nat) (x3 : Int32) (x4 : Int32) (x5 : Int32) (x6 : Int32) (S : cS), St u g H T S → Mono S0 S → isO g H 2 x0 → tK S 20 x2 → KOL_X2_climb_12 N g H T n x0 x2 x3 x4 x5 x6 S → X (KL_X2_climb_12 N g H T n x0 x2 x3 x4 x5 x6 S) → cX G o dX2_climb mX2_climb 12 [some (va_rf (some x0)), none, some (va_rf x2), some (.int x3), some (.int x4), some (.int x5), some (.int x6), none] [] S Q := by
  intro n
  induction n with
  | zero => intro x0 x2 x3 x4 x5 x6 S hS hM t_x0 t_x2 ok; exact absurd ok id
  | succ n ih =>
    intro x0 x2 x3 x4 x5 x6 S hS hM t_x0 t_x2 ok hx
    exact kbb_X2_climb_12 hG hX0 (rec := KL_X2_climb_12 N g H T n) (rok := KOL_X2_climb_12 N g H T n) (fun x0 x2 x3 x4 x5 x6 S hS hM t_x0 t_x2 ok hx => ih x0 x2 x3 x4 x5 x6 S hS hM t_x0 t_x2 ok hx) hS hM t_x0 t_x2 ok hx
def KA_X2_climb_12 (N g H T : Nat) (x0 : Nat) (x2 : Option Nat) (x3 : Int32) (x4 : Int32) (x5 : Int32) (x6 : Int32) (S : cS) (z : Nat × Int32 × Int32 × cS) : Int32 × cS := (KF_X2_climb_152 N g H T (z.2.1) (z.2.2.1) z.2.2.2)
def KOA_X2_climb_12 (N g H T : Nat) (x0 : Nat) (x2 : Option Nat) (x3 : Int32) (x4 : Int32) (x5 : Int32) (x6 : Int32) (S : cS) (z : Nat × Int32 × Int32 × cS) : Prop := KO_X2_climb_152 N g H T (z.2.1) (z.2.2.1) z.2.2.2
set_option maxRecDepth 100000 in
set_option maxHeartbeats 4000000 in
theorem kd_X2_climb_12 {G : zG} {o : cO} {u g H T N : Nat} {S : cS} {S0 : cS} {Q : Option Value → cS → Prop} {X : Int32 × cS → Prop} (hG : zOK G) (hR : ∀ v S', St u g H T S' → Mono S0 S' → X (v, S') → Q (some (.int v)) S') {x0 : Nat} {x2 : Option Nat} {x3 : Int32} {x4 : Int32} {x5 : Int32} {x6 : Int32} (hS : St u g H T S) (hM : Mono S0 S) (t_x0 : isO g H 2 x0) (t_x2 : tK S 20 x2) (ok : KOL_X2_climb_12 N g H T N x0 x2 x3 x4 x5 x6 S ∧ KOA_X2_climb_12 N g H T x0 x2 x3 x4 x5 x6 S (KL_X2_climb_12 N g H T N x0 x2 x3 x4 x5 x6 S)) (hx : X (KA_X2_climb_12 N g H T x0 x2 x3 x4 x5 x6 S (KL_X2_climb_12 N g H T N x0 x2 x3 x4 x5 x6 S))) : cX G o dX2_climb mX2_climb 12 [some (va_rf (some x0)), none, some (va_rf x2), some (.int x3), some (.int x4), some (.int x5), some (.int x6), none] [] S Q := by
  refine kl_X2_climb_12 hG ?_ N x0 x2 x3 x4 x5 x6 S hS hM t_x0 t_x2 ok.1 (X := fun z => KOA_X2_climb_12 N g H T x0 x2 x3 x4 x5 x6 S z ∧ X (KA_X2_climb_12 N g H T x0 x2 x3 x4 x5 x6 S z)) ⟨ok.2, hx⟩
  · intro x3' x5' S' hS hM hz
    obtain ⟨ok, hx⟩ := hz
    unfold KOA_X2_climb_12 at ok
    unfold KA_X2_climb_12 at hx
    exact cX.cutz (kb_X2_climb_152 hG hR hS hM  ok hx) ⟨rfl, rfl, trivial⟩
def KF_X2_climb_0 (N g H T : Nat) (x0 : Nat) (x1 : Int32) (x2 : Option Nat) (x3 : Int32) (S : cS) : Int32 × cS := (KA_X2_climb_12 N g H T x0 x2 x3 x1 x3 (cI S 5 x0) S (KL_X2_climb_12 N g H T N x0 x2 x3 x1 x3 (cI S 5 x0) S))
def KO_X2_climb_0 (N g H T : Nat) (x0 : Nat) (x1 : Int32) (x2 : Option Nat) (x3 : Int32) (S : cS) : Prop := (KOL_X2_climb_12 N g H T N x0 x2 x3 x1 x3 (cI S 5 x0) S ∧ KOA_X2_climb_12 N g H T x0 x2 x3 x1 x3 (cI S 5 x0) S (KL_X2_climb_12 N g H T N x0 x2 x3 x1 x3 (cI S 5 x0) S))
set_option maxRecDepth 100000 in
set_option maxHeartbeats 4000000 in
theorem kb_X2_climb_0 {G : zG} {o : cO} {u g H T N : Nat} {S : cS} {S0 : cS} {Q : Option Value → cS → Prop} {X : Int32 × cS → Prop} (hG : zOK G) (hR : ∀ v S', St u g H T S' → Mono S0 S' → X (v, S') → Q (some (.int v)) S') {x0 : Nat} {x1 : Int32} {x2 : Option Nat} {x3 : Int32} (hS : St u g H T S) (hM : Mono S0 S) (t_x0 : isO g H 2 x0) (t_x2 : tK S 20 x2) (ok : KO_X2_climb_0 N g H T x0 x1 x2 x3 S) (hx : X (KF_X2_climb_0 N g H T x0 x1 x2 x3 S)) : cX G o dX2_climb mX2_climb 0 [some (va_rf (some x0)), some (.int x1), some (va_rf x2), some (.int x3), none, none, none, none] [] S Q := by
  unfold KO_X2_climb_0 at ok
  unfold KF_X2_climb_0 at hx
  refine c_iload_n dX2_climb_0 rfl rfl ?_
  refine c_istore_4 dX2_climb_1 (by decide) rfl ?_
  refine c_iload_n dX2_climb_3 rfl rfl ?_
  refine c_istore_5 dX2_climb_4 (by decide) rfl ?_
  refine c_aload_nQ dX2_climb_6 rfl rfl ?_
  refine c_getI (C := RX2) (T := TX2) (N := 6) (ci := 2) (k := 5) ⟨rfl, inT2, by decide, fX2_62⟩ (by decide) (by decide) (by decide) dX2_climb_7 (hS.k t_x0) ?_
  refine c_istore_6 dX2_climb_10 (by decide) rfl ?_
  exact cX.cutz (kd_X2_climb_12 hG hR hS hM t_x0 t_x2 ok hx) ⟨rfl, rfl, rfl, rfl, rfl, rfl, trivial⟩
def k_X2_climb (N g H T : Nat) (S : cS) (a0 : Nat) (x1 : Int32) (x2 : Option Nat) (x3 : Int32) : Int32 × cS := KF_X2_climb_0 N g H T a0 x1 x2 x3 S
def p_X2_climb (N g H T : Nat) (S : cS) (a0 : Nat) (x1 : Int32) (x2 : Option Nat) (x3 : Int32) : Prop := KO_X2_climb_0 N g H T a0 x1 x2 x3 S
set_option maxRecDepth 100000 in
set_option maxHeartbeats 4000000 in
theorem kc_X2_climb {G : zG} {o : cO} {u g H T N : Nat} {S : cS} (hG : zOK G) {a0 : Nat} {x1 : Int32} {x2 : Option Nat} {x3 : Int32} (hS : St u g H T S) (t_x0 : isO g H 2 a0) (t_x2 : tK S 20 x2) (ok : p_X2_climb N g H T S a0 x1 x2 x3) : cCi G o dX2_climb mX2_climb [.ref a0, .int x1, va_rf x2, .int x3] S (fun v S' => (v = (k_X2_climb N g H T S a0 x1 x2 x3).1 ∧ S' = (k_X2_climb N g H T S a0 x1 x2 x3).2) ∧ St u g H T S' ∧ Mono S S') := by
  refine cC.ofX rfl (by cases x2 <;> exact Nat.le_of_ble_eq_true rfl) ?_
  rw [show zargs mX2_climb.2.2.1 [.ref a0, .int x1, va_rf x2, .int x3] = [some (va_rf (some a0)), some (.int x1), some (va_rf x2), some (.int x3), none, none, none, none] from by cases x2 <;> rfl]
  exact cX.cutz (kb_X2_climb_0 (X := fun F => F = k_X2_climb N g H T S a0 x1 x2 x3) hG (fun v S' h1 h2 h => ⟨v, rfl, ⟨by rw [← h], by rw [← h]⟩, h1, h2⟩) hS Mono.rfl' t_x0 t_x2 ok rfl) ⟨rfl, rfl, rfl, rfl, trivial⟩
/-! X2_top -/
def KF_X2_top_46 (N g H T : Nat)  (S : cS) : cS := S
def KO_X2_top_46 (N g H T : Nat)  (S : cS) : Prop := True
set_option maxRecDepth 100000 in
set_option maxHeartbeats 4000000 in
theorem kb_X2_top_46 {G : zG} {o : cO} {u g H T N : Nat} {S : cS} {S0 : cS} {Q : Option Value → cS → Prop} {X : cS → Prop} (hG : zOK G) (hR : ∀ S', St u g H T S' → Mono S0 S' → X S' → Q none S') (hS : St u g H T S) (hM : Mono S0 S) (ok : KO_X2_top_46 N g H T S) (hx : X (KF_X2_top_46 N g H T S)) : cX G o dX2_top mX2_top 46 [none, none, none] [] S Q := by
  unfold KO_X2_top_46 at ok
  unfold KF_X2_top_46 at hx
  exact c_return rfl dX2_top_46 (hR _ hS hM hx)
def KF_X2_top_31 (N g H T : Nat)  (S : cS) : cS := (KF_X2_top_46 N g H T S)
def KO_X2_top_31 (N g H T : Nat)  (S : cS) : Prop := KO_X2_top_46 N g H T S
set_option maxRecDepth 100000 in
set_option maxHeartbeats 4000000 in
theorem kb_X2_top_31 {G : zG} {o : cO} {u g H T N : Nat} {S : cS} {S0 : cS} {Q : Option Value → cS → Prop} {X : cS → Prop} (hG : zOK G) (hR : ∀ S', St u g H T S' → Mono S0 S' → X S' → Q none S') (hS : St u g H T S) (hM : Mono S0 S) (ok : KO_X2_top_31 N g H T S) (hx : X (KF_X2_top_31 N g H T S)) : cX G o dX2_top mX2_top 31 [none, none, none] [] S Q := by
  unfold KO_X2_top_31 at ok
  unfold KF_X2_top_31 at hx
  refine c_goto (tgt := 46) dX2_top_31 (by decide) ?_
  exact cX.cutz (kb_X2_top_46 hG hR hS hM  ok hx) trivial
def KF_X2_top_13 (N g H T : Nat)  (S : cS) : cS := S
def KO_X2_top_13 (N g H T : Nat)  (S : cS) : Prop := True
set_option maxRecDepth 100000 in
set_option maxHeartbeats 4000000 in
theorem kb_X2_top_13 {G : zG} {o : cO} {u g H T N : Nat} {S : cS} {S0 : cS} {Q : Option Value → cS → Prop} {X : cS → Prop} (hG : zOK G) (hR : ∀ S', St u g H T S' → Mono S0 S' → X S' → Q none S') (hS : St u g H T S) (hM : Mono S0 S) (ok : KO_X2_top_13 N g H T S) (hx : X (KF_X2_top_13 N g H T S)) : cX G o dX2_top mX2_top 13 [none, none, none] [] S Q := by
  unfold KO_X2_top_13 at ok
  unfold KF_X2_top_13 at hx
  exact c_return rfl dX2_top_13 (hR _ hS hM hx)
def KF_X2_top_0 (N g H T : Nat) (x0 : Nat) (x1 : Option Nat) (x2 : Int32) (S : cS) : cS := (if x2 < 0 then (KF_X2_top_13 N g H T S) else (if x2 ≤ ((nI (cL S (za x1))) - (nI 32)) then (if (cI S 5 x0) = 0 then (KF_X2_top_31 N g H T (k_J7_fill_eb02e N g H T S x1 x2 (x2 + (nI 32)) (nI 0))) else (KF_X2_top_46 N g H T (csArow S (za x1) (va_cpy (cA S (x0 + 4)) (cA S (za x1)) (nI 0).toNatClampNeg x2.toNatClampNeg (nI 32).toNatClampNeg)))) else (KF_X2_top_13 N g H T S)))
def KO_X2_top_0 (N g H T : Nat) (x0 : Nat) (x1 : Option Nat) (x2 : Int32) (S : cS) : Prop := ((x2 < 0 → KO_X2_top_13 N g H T S) ∧ (¬ x2 < 0 → (¬ x1 = none) ∧ ((x2 ≤ ((nI (cL S (za x1))) - (nI 32)) → (((cI S 5 x0) = 0 → (p_J7_fill_eb02e N g H T S x1 x2 (x2 + (nI 32)) (nI 0)) ∧ KO_X2_top_31 N g H T (k_J7_fill_eb02e N g H T S x1 x2 (x2 + (nI 32)) (nI 0))) ∧ (¬ (cI S 5 x0) = 0 → (¬ x1 = none ∧ (¬ (nI 0) < 0 ∧ ¬ x2 < 0 ∧ ¬ (nI 32) < 0) ∧ (nI 0).toNatClampNeg + (nI 32).toNatClampNeg ≤ 2112 ∧ x2.toNatClampNeg + (nI 32).toNatClampNeg ≤ (cL S (za x1))) ∧ KO_X2_top_46 N g H T (csArow S (za x1) (va_cpy (cA S (x0 + 4)) (cA S (za x1)) (nI 0).toNatClampNeg x2.toNatClampNeg (nI 32).toNatClampNeg))))) ∧ (¬ x2 ≤ ((nI (cL S (za x1))) - (nI 32)) → KO_X2_top_13 N g H T S))))
set_option maxRecDepth 100000 in
set_option maxHeartbeats 4000000 in
theorem kb_X2_top_0 {G : zG} {o : cO} {u g H T N : Nat} {S : cS} {S0 : cS} {Q : Option Value → cS → Prop} {X : cS → Prop} (hG : zOK G) (hR : ∀ S', St u g H T S' → Mono S0 S' → X S' → Q none S') {x0 : Nat} {x1 : Option Nat} {x2 : Int32} (hS : St u g H T S) (hM : Mono S0 S) (t_x0 : isO g H 2 x0) (t_x1 : tK S 20 x1) (ok : KO_X2_top_0 N g H T x0 x1 x2 S) (hx : X (KF_X2_top_0 N g H T x0 x1 x2 S)) : cX G o dX2_top mX2_top 0 [some (va_rf (some x0)), some (va_rf x1), some (.int x2)] [] S Q := by
  unfold KO_X2_top_0 at ok
  unfold KF_X2_top_0 at hx
  refine c_iload_n dX2_top_0 rfl rfl ?_
  refine c_if_lt (tgt := 13) dX2_top_1 (by decide) (fun c_1 => ?_) (fun c_1 => ?_)
  · have ok := ok.1 c_1
    have hx := xif_p c_1 hx
    exact cX.cutz (kb_X2_top_13 hG hR hS hM  ok hx) trivial
  · have ok := ok.2 c_1
    have hx := xif_n c_1 hx
    refine c_iload_n dX2_top_4 rfl rfl ?_
    refine c_aload_nQ dX2_top_5 rfl rfl ?_
    refine c_alenS (t := 0) (ty := .byte) rfl dX2_top_6 (tK.cis t_x1 ok.1) rfl ?_
    have ok := ok.2
    refine c_bipush (v := nI 32) dX2_top_7 (by decide) ?_
    refine c_isub dX2_top_9 ?_
    refine c_icmp_le (tgt := 14) dX2_top_10 (by decide) (fun c_10 => ?_) (fun c_10 => ?_)
    · have ok := ok.1 c_10
      have hx := xif_p c_10 hx
      refine c_aload_nQ dX2_top_14 rfl rfl ?_
      refine c_getI (C := RX2) (T := TX2) (N := 6) (ci := 2) (k := 5) ⟨rfl, inT2, by decide, fX2_62⟩ (by decide) (by decide) (by decide) dX2_top_15 (hS.k t_x0) ?_
      refine c_if_ne (tgt := 34) dX2_top_18 (by decide) (fun c_18 => ?_) (fun c_18 => ?_)
      · have ok := ok.2 c_18
        have hx := xif_n c_18 hx
        refine c_aload_nQ dX2_top_34 rfl rfl ?_
        refine c_getS (C := RX2) (T := TX2) (N := 6) (ci := 2) (k := 3) ⟨rfl, inT2, by decide, fX2_22⟩ (by decide) (by decide) (by decide) dX2_top_35 (hS.k t_x0) (hS.r (c := 2) t_x0 rfl (by omega)) ?_
        refine c_iconst (v := nI 0) dX2_top_38 (by decide) ?_
        refine c_aload_nQ dX2_top_39 rfl rfl ?_
        refine c_iload_n dX2_top_40 rfl rfl ?_
        refine c_bipush (v := nI 32) dX2_top_41 (by decide) ?_
        have tq_43 : tK S 20 (some (x0 + 4)) := tK_some (tK.cis (hS.rk (c := 2) (k := 3) t_x0 rfl (by omega)) (Option.some_ne_none _)).2
        refine c_copy0 hG dX2_top_43 qX2_29 (by decide) (by decide) ⟨tK.cis (hS.rk (c := 2) (k := 3) t_x0 rfl (by omega)) (Option.some_ne_none _), tK.cis t_x1 ok.1.1, ok.1.2.1, (le_cast (hS.rl (c := 2) (k := 3) t_x0 rfl (by decide) (by omega)) ok.1.2.2.1), ok.1.2.2.2⟩ ?_
        have hS := hS.Ac (za x1) (x0 + 4) (nI 0).toNatClampNeg x2.toNatClampNeg (nI 32).toNatClampNeg tq_43
        have hM := hM.Ar (za x1) (va_cpy (cA S (x0 + 4)) (cA S (za x1)) (nI 0).toNatClampNeg x2.toNatClampNeg (nI 32).toNatClampNeg)
        have ok := ok.2
        exact cX.cutz (kb_X2_top_46 hG hR hS hM  ok hx) trivial
      · have ok := ok.1 c_18
        have hx := xif_p c_18 hx
        refine c_aload_nQ dX2_top_21 rfl rfl ?_
        refine c_iload_n dX2_top_22 rfl rfl ?_
        refine c_iload_n dX2_top_23 rfl rfl ?_
        refine c_bipush (v := nI 32) dX2_top_24 (by decide) ?_
        refine c_iadd dX2_top_26 ?_
        refine c_iconst (v := nI 0) dX2_top_27 (by decide) ?_
        refine c_S4vK (y' := mJ7_fill_eb02e) dX2_top_28 lX2_35 kJ7_fill_eb02e ⟨by decide, by decide⟩ (Nat.le_of_ble_eq_true rfl) (kc_J7_fill_eb02e hG hS t_x1 ok.1) (fun ⟨hS, hm_28⟩ => ?_)
        have hM := hM.trans hm_28
        have ok := ok.2
        exact cX.cutz (kb_X2_top_31 hG hR hS hM  ok hx) trivial
    · have ok := ok.2 c_10
      have hx := xif_n c_10 hx
      exact cX.cutz (kb_X2_top_13 hG hR hS hM  ok hx) trivial
def k_X2_top (N g H T : Nat) (S : cS) (a0 : Nat) (x1 : Option Nat) (x2 : Int32) : cS := KF_X2_top_0 N g H T a0 x1 x2 S
def p_X2_top (N g H T : Nat) (S : cS) (a0 : Nat) (x1 : Option Nat) (x2 : Int32) : Prop := KO_X2_top_0 N g H T a0 x1 x2 S
set_option maxRecDepth 100000 in
set_option maxHeartbeats 4000000 in
theorem kc_X2_top {G : zG} {o : cO} {u g H T N : Nat} {S : cS} (hG : zOK G) {a0 : Nat} {x1 : Option Nat} {x2 : Int32} (hS : St u g H T S) (t_x0 : isO g H 2 a0) (t_x1 : tK S 20 x1) (ok : p_X2_top N g H T S a0 x1 x2) : cCv G o dX2_top mX2_top [.ref a0, va_rf x1, .int x2] S (fun S' => S' = k_X2_top N g H T S a0 x1 x2 ∧ St u g H T S' ∧ Mono S S') := by
  refine cC.ofX rfl (by cases x1 <;> exact Nat.le_of_ble_eq_true rfl) ?_
  rw [show zargs mX2_top.2.2.1 [.ref a0, va_rf x1, .int x2] = [some (va_rf (some a0)), some (va_rf x1), some (.int x2)] from by cases x1 <;> rfl]
  exact cX.cutz (kb_X2_top_0 (X := fun F => F = k_X2_top N g H T S a0 x1 x2) hG (fun S' h1 h2 h => ⟨rfl, h, h1, h2⟩) hS Mono.rfl' t_x0 t_x1 ok rfl) ⟨rfl, rfl, rfl, trivial⟩
/-! X0_refresh -/
def KF_X0_refresh_73 (N g H T : Nat) (x0 : Nat) (S : cS) : cS := (csI S 5 x0 (nI 0))
def KO_X0_refresh_73 (N g H T : Nat) (x0 : Nat) (S : cS) : Prop := True
set_option maxRecDepth 100000 in
set_option maxHeartbeats 4000000 in
theorem kb_X0_refresh_73 {G : zG} {o : cO} {u g H T N : Nat} {S : cS} {S0 : cS} {Q : Option Value → cS → Prop} {X : cS → Prop} (hG : zOK G) (hR : ∀ S', St u g H T S' → Mono S0 S' → X S' → Q none S') {x0 : Nat} (hS : St u g H T S) (hM : Mono S0 S) (t_x0 : isO g H 0 x0) (ok : KO_X0_refresh_73 N g H T x0 S) (hx : X (KF_X0_refresh_73 N g H T x0 S)) : cX G o dX0_refresh mX0_refresh 73 [some (va_rf (some x0)), none, none] [] S Q := by
  unfold KO_X0_refresh_73 at ok
  unfold KF_X0_refresh_73 at hx
  refine c_aload_nQ dX0_refresh_73 rfl rfl ?_
  refine c_iconst (v := nI 0) dX0_refresh_74 (by decide) ?_
  refine c_putI (C := RX0) (T := TX0) (N := 6) (ci := 0) (k := 5) ⟨rfl, inT0, by decide, fX0_25⟩ ftT0 rfl (by decide) (by decide) (by decide) rfl rfl dX0_refresh_75 (hS.k t_x0) ?_
  have hS := hS.I 5 x0 (nI 0)
  have hM := hM.I 5 x0 (nI 0)
  exact c_return rfl dX0_refresh_78 (hR _ hS hM hx)
def KF_X0_refresh_58 (N g H T : Nat) (x0 : Nat) (x2 : Nat) (S : cS) : cS := (KF_X0_refresh_73 N g H T x0 (csArow S (x0 + 3) (va_cpy (cA S (x2 + 3)) (cA S (x0 + 3)) (nI 0).toNatClampNeg (nI 0).toNatClampNeg (nI 32).toNatClampNeg)))
def KO_X0_refresh_58 (N g H T : Nat) (x0 : Nat) (x2 : Nat) (S : cS) : Prop := ((¬ (nI 0) < 0 ∧ ¬ (nI 0) < 0 ∧ ¬ (nI 32) < 0) ∧ (nI 0).toNatClampNeg + (nI 32).toNatClampNeg ≤ 32 ∧ (nI 0).toNatClampNeg + (nI 32).toNatClampNeg ≤ 32) ∧ KO_X0_refresh_73 N g H T x0 (csArow S (x0 + 3) (va_cpy (cA S (x2 + 3)) (cA S (x0 + 3)) (nI 0).toNatClampNeg (nI 0).toNatClampNeg (nI 32).toNatClampNeg))
set_option maxRecDepth 100000 in
set_option maxHeartbeats 4000000 in
theorem kb_X0_refresh_58 {G : zG} {o : cO} {u g H T N : Nat} {S : cS} {S0 : cS} {Q : Option Value → cS → Prop} {X : cS → Prop} (hG : zOK G) (hR : ∀ S', St u g H T S' → Mono S0 S' → X S' → Q none S') {x0 : Nat} {x2 : Nat} (hS : St u g H T S) (hM : Mono S0 S) (t_x0 : isO g H 0 x0) (t_x2 : isO g H 0 x2) (ok : KO_X0_refresh_58 N g H T x0 x2 S) (hx : X (KF_X0_refresh_58 N g H T x0 x2 S)) : cX G o dX0_refresh mX0_refresh 58 [some (va_rf (some x0)), none, some (va_rf (some x2))] [] S Q := by
  unfold KO_X0_refresh_58 at ok
  unfold KF_X0_refresh_58 at hx
  refine c_aload_nQ dX0_refresh_58 rfl rfl ?_
  refine c_getS (C := RX0) (T := TX0) (N := 6) (ci := 0) (k := 3) ⟨rfl, inT0, by decide, fX0_18⟩ (by decide) (by decide) (by decide) dX0_refresh_59 (hS.k t_x2) (hS.r (c := 0) t_x2 rfl (by omega)) ?_
  refine c_iconst (v := nI 0) dX0_refresh_62 (by decide) ?_
  refine c_aload_nQ dX0_refresh_63 rfl rfl ?_
  refine c_getS (C := RX0) (T := TX0) (N := 6) (ci := 0) (k := 3) ⟨rfl, inT0, by decide, fX0_18⟩ (by decide) (by decide) (by decide) dX0_refresh_64 (hS.k t_x0) (hS.r (c := 0) t_x0 rfl (by omega)) ?_
  refine c_iconst (v := nI 0) dX0_refresh_67 (by decide) ?_
  refine c_bipush (v := nI 32) dX0_refresh_68 (by decide) ?_
  have tq_70 : tK S 20 (some (x2 + 3)) := tK_some (tK.cis (hS.rk (c := 0) (k := 3) t_x2 rfl (by omega)) (Option.some_ne_none _)).2
  refine c_copy0 hG dX0_refresh_70 qX0_35 (by decide) (by decide) ⟨tK.cis (hS.rk (c := 0) (k := 3) t_x2 rfl (by omega)) (Option.some_ne_none _), tK.cis (hS.rk (c := 0) (k := 3) t_x0 rfl (by omega)) (Option.some_ne_none _), ok.1.1, (le_cast (hS.rl (c := 0) (k := 3) t_x2 rfl (by decide) (by omega)) ok.1.2.1), (le_cast (hS.rl (c := 0) (k := 3) t_x0 rfl (by decide) (by omega)) ok.1.2.2)⟩ ?_
  have hS := hS.Ac (x0 + 3) (x2 + 3) (nI 0).toNatClampNeg (nI 0).toNatClampNeg (nI 32).toNatClampNeg tq_70
  have hM := hM.Ar (x0 + 3) (va_cpy (cA S (x2 + 3)) (cA S (x0 + 3)) (nI 0).toNatClampNeg (nI 0).toNatClampNeg (nI 32).toNatClampNeg)
  have ok := ok.2
  exact cX.cutz (kb_X0_refresh_73 hG hR hS hM t_x0 ok hx) ⟨rfl, trivial⟩
def KF_X0_refresh_53 (N g H T : Nat) (x0 : Nat) (x2 : Nat) (S : cS) : cS := (KF_X0_refresh_58 N g H T x0 x2 (csI S 5 x2 (nI 0)))
def KO_X0_refresh_53 (N g H T : Nat) (x0 : Nat) (x2 : Nat) (S : cS) : Prop := KO_X0_refresh_58 N g H T x0 x2 (csI S 5 x2 (nI 0))
set_option maxRecDepth 100000 in
set_option maxHeartbeats 4000000 in
theorem kb_X0_refresh_53 {G : zG} {o : cO} {u g H T N : Nat} {S : cS} {S0 : cS} {Q : Option Value → cS → Prop} {X : cS → Prop} (hG : zOK G) (hR : ∀ S', St u g H T S' → Mono S0 S' → X S' → Q none S') {x0 : Nat} {x2 : Nat} (hS : St u g H T S) (hM : Mono S0 S) (t_x0 : isO g H 0 x0) (t_x2 : isO g H 0 x2) (ok : KO_X0_refresh_53 N g H T x0 x2 S) (hx : X (KF_X0_refresh_53 N g H T x0 x2 S)) : cX G o dX0_refresh mX0_refresh 53 [some (va_rf (some x0)), none, some (va_rf (some x2))] [] S Q := by
  unfold KO_X0_refresh_53 at ok
  unfold KF_X0_refresh_53 at hx
  refine c_aload_nQ dX0_refresh_53 rfl rfl ?_
  refine c_iconst (v := nI 0) dX0_refresh_54 (by decide) ?_
  refine c_putI (C := RX0) (T := TX0) (N := 6) (ci := 0) (k := 5) ⟨rfl, inT0, by decide, fX0_25⟩ ftT0 rfl (by decide) (by decide) (by decide) rfl rfl dX0_refresh_55 (hS.k t_x2) ?_
  have hS := hS.I 5 x2 (nI 0)
  have hM := hM.I 5 x2 (nI 0)
  exact cX.cutz (kb_X0_refresh_58 hG hR hS hM t_x0 t_x2 ok hx) ⟨rfl, rfl, trivial⟩
def KF_X0_refresh_43 (N g H T : Nat) (x0 : Nat) (x1 : Nat) (x2 : Nat) (s0 : Int32) (S : cS) : cS := (KF_X0_refresh_53 N g H T x0 x2 (k_X2_top N g H T S x1 (some (x2 + 3)) (nI 0)))
def KO_X0_refresh_43 (N g H T : Nat) (x0 : Nat) (x1 : Nat) (x2 : Nat) (s0 : Int32) (S : cS) : Prop := (p_X2_top N g H T S x1 (some (x2 + 3)) (nI 0)) ∧ KO_X0_refresh_53 N g H T x0 x2 (k_X2_top N g H T S x1 (some (x2 + 3)) (nI 0))
set_option maxRecDepth 100000 in
set_option maxHeartbeats 4000000 in
theorem kb_X0_refresh_43 {G : zG} {o : cO} {u g H T N : Nat} {S : cS} {S0 : cS} {Q : Option Value → cS → Prop} {X : cS → Prop} (hG : zOK G) (hR : ∀ S', St u g H T S' → Mono S0 S' → X S' → Q none S') {x0 : Nat} {x1 : Nat} {x2 : Nat} {s0 : Int32} (hS : St u g H T S) (hM : Mono S0 S) (t_x0 : isO g H 0 x0) (t_x1 : isO g H 2 x1) (t_x2 : isO g H 0 x2) (ok : KO_X0_refresh_43 N g H T x0 x1 x2 s0 S) (hx : X (KF_X0_refresh_43 N g H T x0 x1 x2 s0 S)) : cX G o dX0_refresh mX0_refresh 43 [some (va_rf (some x0)), some (va_rf (some x1)), some (va_rf (some x2))] [.int s0] S Q := by
  unfold KO_X0_refresh_43 at ok
  unfold KF_X0_refresh_43 at hx
  refine c_pop dX0_refresh_43 rfl ?_
  refine c_aload_nQ dX0_refresh_44 rfl rfl ?_
  refine c_aload_nQ dX0_refresh_45 rfl rfl ?_
  refine c_getS (C := RX0) (T := TX0) (N := 6) (ci := 0) (k := 3) ⟨rfl, inT0, by decide, fX0_18⟩ (by decide) (by decide) (by decide) dX0_refresh_46 (hS.k t_x2) (hS.r (c := 0) t_x2 rfl (by omega)) ?_
  refine c_iconst (v := nI 0) dX0_refresh_49 (by decide) ?_
  refine c_V2vK (ci := 2) (rr := (RX2, TX2, 6)) (y' := mX2_top) dX0_refresh_50 lX0_104 kX2_top ⟨by decide, by decide⟩ rfl rfl (by decide) (hS.k t_x1) (Nat.le_of_ble_eq_true rfl) (kc_X2_top hG hS t_x1 (hS.rk (c := 0) (k := 3) t_x2 rfl (by omega)) ok.1) (fun ⟨hS, hm_50⟩ => ?_)
  have hM := hM.trans hm_50
  have ok := ok.2
  exact cX.cutz (kb_X0_refresh_53 hG hR hS hM t_x0 t_x2 ok hx) ⟨rfl, rfl, trivial⟩
def KF_X0_refresh_33 (N g H T : Nat) (x0 : Nat) (x1 : Nat) (x2 : Nat) (S : cS) : cS := (KF_X0_refresh_43 N g H T x0 x1 x2 ((k_X2_climb N g H T S x1 (-1) (some (x2 + 3)) (nI 0)).1) (k_X2_climb N g H T S x1 (-1) (some (x2 + 3)) (nI 0)).2)
def KO_X0_refresh_33 (N g H T : Nat) (x0 : Nat) (x1 : Nat) (x2 : Nat) (S : cS) : Prop := (p_X2_climb N g H T S x1 (-1) (some (x2 + 3)) (nI 0)) ∧ KO_X0_refresh_43 N g H T x0 x1 x2 ((k_X2_climb N g H T S x1 (-1) (some (x2 + 3)) (nI 0)).1) (k_X2_climb N g H T S x1 (-1) (some (x2 + 3)) (nI 0)).2
set_option maxRecDepth 100000 in
set_option maxHeartbeats 4000000 in
theorem kb_X0_refresh_33 {G : zG} {o : cO} {u g H T N : Nat} {S : cS} {S0 : cS} {Q : Option Value → cS → Prop} {X : cS → Prop} (hG : zOK G) (hR : ∀ S', St u g H T S' → Mono S0 S' → X S' → Q none S') {x0 : Nat} {x1 : Nat} {x2 : Nat} (hS : St u g H T S) (hM : Mono S0 S) (t_x0 : isO g H 0 x0) (t_x1 : isO g H 2 x1) (t_x2 : isO g H 0 x2) (ok : KO_X0_refresh_33 N g H T x0 x1 x2 S) (hx : X (KF_X0_refresh_33 N g H T x0 x1 x2 S)) : cX G o dX0_refresh mX0_refresh 33 [some (va_rf (some x0)), some (va_rf (some x1)), some (va_rf (some x2))] [] S Q := by
  unfold KO_X0_refresh_33 at ok
  unfold KF_X0_refresh_33 at hx
  refine c_aload_nQ dX0_refresh_33 rfl rfl ?_
  refine c_iconst (v := -1) dX0_refresh_34 (by decide) ?_
  refine c_aload_nQ dX0_refresh_35 rfl rfl ?_
  refine c_getS (C := RX0) (T := TX0) (N := 6) (ci := 0) (k := 3) ⟨rfl, inT0, by decide, fX0_18⟩ (by decide) (by decide) (by decide) dX0_refresh_36 (hS.k t_x2) (hS.r (c := 0) t_x2 rfl (by omega)) ?_
  refine c_iconst (v := nI 0) dX0_refresh_39 (by decide) ?_
  refine c_V3iK (ci := 2) (rr := (RX2, TX2, 6)) (y' := mX2_climb) dX0_refresh_40 lX0_100 kX2_climb ⟨by decide, by decide⟩ rfl rfl (by decide) (hS.k t_x1) (Nat.le_of_ble_eq_true rfl) (kc_X2_climb hG hS t_x1 (hS.rk (c := 0) (k := 3) t_x2 rfl (by omega)) ok.1) (fun ⟨hS, hm_40⟩ => ?_)
  have hM := hM.trans hm_40
  have ok := ok.2
  exact cX.cutz (kb_X0_refresh_43 hG hR hS hM t_x0 t_x1 t_x2 ok hx) ⟨rfl, rfl, rfl, trivial⟩
def KF_X0_refresh_28 (N g H T : Nat) (x0 : Nat) (x1 : Nat) (x2 : Nat) (S : cS) : cS := (KF_X0_refresh_33 N g H T x0 x1 x2 (k_X0_plant N g H T S x2 x1))
def KO_X0_refresh_28 (N g H T : Nat) (x0 : Nat) (x1 : Nat) (x2 : Nat) (S : cS) : Prop := (p_X0_plant N g H T S x2 x1) ∧ KO_X0_refresh_33 N g H T x0 x1 x2 (k_X0_plant N g H T S x2 x1)
set_option maxRecDepth 100000 in
set_option maxHeartbeats 4000000 in
theorem kb_X0_refresh_28 {G : zG} {o : cO} {u g H T N : Nat} {S : cS} {S0 : cS} {Q : Option Value → cS → Prop} {X : cS → Prop} (hG : zOK G) (hR : ∀ S', St u g H T S' → Mono S0 S' → X S' → Q none S') {x0 : Nat} {x1 : Nat} {x2 : Nat} (hS : St u g H T S) (hM : Mono S0 S) (t_x0 : isO g H 0 x0) (t_x1 : isO g H 2 x1) (t_x2 : isO g H 0 x2) (ok : KO_X0_refresh_28 N g H T x0 x1 x2 S) (hx : X (KF_X0_refresh_28 N g H T x0 x1 x2 S)) : cX G o dX0_refresh mX0_refresh 28 [some (va_rf (some x0)), some (va_rf (some x1)), some (va_rf (some x2))] [] S Q := by
  unfold KO_X0_refresh_28 at ok
  unfold KF_X0_refresh_28 at hx
  refine c_aload_nQ dX0_refresh_28 rfl rfl ?_
  refine c_aload_nQ dX0_refresh_29 rfl rfl ?_
  refine c_V1vK (ci := 0) (rr := (RX0, TX0, 6)) (y' := mX0_plant) dX0_refresh_30 lX0_96 kX0_plant ⟨by decide, by decide⟩ rfl rfl (by decide) (hS.k t_x2) (Nat.le_of_ble_eq_true rfl) (kc_X0_plant hG hS t_x2 t_x1 ok.1) (fun ⟨hS, hm_30⟩ => ?_)
  have hM := hM.trans hm_30
  have ok := ok.2
  exact cX.cutz (kb_X0_refresh_33 hG hR hS hM t_x0 t_x1 t_x2 ok hx) ⟨rfl, rfl, rfl, trivial⟩
def KF_X0_refresh_23 (N g H T : Nat) (x0 : Nat) (x1 : Nat) (x2 : Nat) (S : cS) : cS := (KF_X0_refresh_28 N g H T x0 x1 x2 (k_X0_mirror N g H T S x2 x0))
def KO_X0_refresh_23 (N g H T : Nat) (x0 : Nat) (x1 : Nat) (x2 : Nat) (S : cS) : Prop := (p_X0_mirror N g H T S x2 x0) ∧ KO_X0_refresh_28 N g H T x0 x1 x2 (k_X0_mirror N g H T S x2 x0)
set_option maxRecDepth 100000 in
set_option maxHeartbeats 4000000 in
theorem kb_X0_refresh_23 {G : zG} {o : cO} {u g H T N : Nat} {S : cS} {S0 : cS} {Q : Option Value → cS → Prop} {X : cS → Prop} (hG : zOK G) (hR : ∀ S', St u g H T S' → Mono S0 S' → X S' → Q none S') {x0 : Nat} {x1 : Nat} {x2 : Nat} (hS : St u g H T S) (hM : Mono S0 S) (t_x0 : isO g H 0 x0) (t_x1 : isO g H 2 x1) (t_x2 : isO g H 0 x2) (ok : KO_X0_refresh_23 N g H T x0 x1 x2 S) (hx : X (KF_X0_refresh_23 N g H T x0 x1 x2 S)) : cX G o dX0_refresh mX0_refresh 23 [some (va_rf (some x0)), some (va_rf (some x1)), some (va_rf (some x2))] [] S Q := by
  unfold KO_X0_refresh_23 at ok
  unfold KF_X0_refresh_23 at hx
  refine c_aload_nQ dX0_refresh_23 rfl rfl ?_
  refine c_aload_nQ dX0_refresh_24 rfl rfl ?_
  refine c_V1vK (ci := 0) (rr := (RX0, TX0, 6)) (y' := mX0_mirror) dX0_refresh_25 lX0_92 kX0_mirror ⟨by decide, by decide⟩ rfl rfl (by decide) (hS.k t_x2) (Nat.le_of_ble_eq_true rfl) (kc_X0_mirror hG hS t_x2 t_x0 ok.1) (fun ⟨hS, hm_25⟩ => ?_)
  have hM := hM.trans hm_25
  have ok := ok.2
  exact cX.cutz (kb_X0_refresh_28 hG hR hS hM t_x0 t_x1 t_x2 ok hx) ⟨rfl, rfl, rfl, trivial⟩
def KF_X0_refresh_0 (N g H T : Nat) (x0 : Nat) (x1 : Nat) (x2 : Nat) (S : cS) : cS := (if (cI S 5 x0) = 0 then S else (if (cI S 5 x2) = 0 then (if (k_X0_isLike N g H T S x0 x2) = 0 then (KF_X0_refresh_23 N g H T x0 x1 x2 S) else (KF_X0_refresh_58 N g H T x0 x2 S)) else (KF_X0_refresh_23 N g H T x0 x1 x2 S)))
def KO_X0_refresh_0 (N g H T : Nat) (x0 : Nat) (x1 : Nat) (x2 : Nat) (S : cS) : Prop := (((cI S 5 x0) = 0 → True) ∧ (¬ (cI S 5 x0) = 0 → (((cI S 5 x2) = 0 → (p_X0_isLike N g H T S x0 x2) ∧ (((k_X0_isLike N g H T S x0 x2) = 0 → KO_X0_refresh_23 N g H T x0 x1 x2 S) ∧ (¬ (k_X0_isLike N g H T S x0 x2) = 0 → KO_X0_refresh_58 N g H T x0 x2 S))) ∧ (¬ (cI S 5 x2) = 0 → KO_X0_refresh_23 N g H T x0 x1 x2 S))))
set_option maxRecDepth 100000 in
set_option maxHeartbeats 4000000 in
theorem kb_X0_refresh_0 {G : zG} {o : cO} {u g H T N : Nat} {S : cS} {S0 : cS} {Q : Option Value → cS → Prop} {X : cS → Prop} (hG : zOK G) (hR : ∀ S', St u g H T S' → Mono S0 S' → X S' → Q none S') {x0 : Nat} {x1 : Nat} {x2 : Nat} (hS : St u g H T S) (hM : Mono S0 S) (t_x0 : isO g H 0 x0) (t_x1 : isO g H 2 x1) (t_x2 : isO g H 0 x2) (ok : KO_X0_refresh_0 N g H T x0 x1 x2 S) (hx : X (KF_X0_refresh_0 N g H T x0 x1 x2 S)) : cX G o dX0_refresh mX0_refresh 0 [some (va_rf (some x0)), some (va_rf (some x1)), some (va_rf (some x2))] [] S Q := by
  unfold KO_X0_refresh_0 at ok
  unfold KF_X0_refresh_0 at hx
  refine c_aload_nQ dX0_refresh_0 rfl rfl ?_
  refine c_getI (C := RX0) (T := TX0) (N := 6) (ci := 0) (k := 5) ⟨rfl, inT0, by decide, fX0_25⟩ (by decide) (by decide) (by decide) dX0_refresh_1 (hS.k t_x0) ?_
  refine c_if_ne (tgt := 8) dX0_refresh_4 (by decide) (fun c_4 => ?_) (fun c_4 => ?_)
  · have ok := ok.2 c_4
    have hx := xif_n c_4 hx
    refine c_aload_nQ dX0_refresh_8 rfl rfl ?_
    refine c_getI (C := RX0) (T := TX0) (N := 6) (ci := 0) (k := 5) ⟨rfl, inT0, by decide, fX0_25⟩ (by decide) (by decide) (by decide) dX0_refresh_9 (hS.k t_x2) ?_
    refine c_if_ne (tgt := 23) dX0_refresh_12 (by decide) (fun c_12 => ?_) (fun c_12 => ?_)
    · have ok := ok.2 c_12
      have hx := xif_n c_12 hx
      exact cX.cutz (kb_X0_refresh_23 hG hR hS hM t_x0 t_x1 t_x2 ok hx) ⟨rfl, rfl, rfl, trivial⟩
    · have ok := ok.1 c_12
      have hx := xif_p c_12 hx
      refine c_aload_nQ dX0_refresh_15 rfl rfl ?_
      refine c_aload_nQ dX0_refresh_16 rfl rfl ?_
      refine c_V1iE (ci := 0) (rr := (RX0, TX0, 6)) (y' := mX0_isLike) dX0_refresh_17 lX0_88 kX0_isLike ⟨by decide, by decide⟩ rfl rfl (by decide) (hS.k t_x0) (Nat.le_of_ble_eq_true rfl) (kc_X0_isLike hG hS t_x0 t_x2 ok.1) ?_
      have ok := ok.2
      refine c_if_ne (tgt := 58) dX0_refresh_20 (by decide) (fun c_20 => ?_) (fun c_20 => ?_)
      · have ok := ok.2 c_20
        have hx := xif_n c_20 hx
        exact cX.cutz (kb_X0_refresh_58 hG hR hS hM t_x0 t_x2 ok hx) ⟨rfl, rfl, trivial⟩
      · have ok := ok.1 c_20
        have hx := xif_p c_20 hx
        exact cX.cutz (kb_X0_refresh_23 hG hR hS hM t_x0 t_x1 t_x2 ok hx) ⟨rfl, rfl, rfl, trivial⟩
  · have ok := ok.1 c_4
    have hx := xif_p c_4 hx
    exact c_return rfl dX0_refresh_7 (hR _ hS hM hx)
def k_X0_refresh (N g H T : Nat) (S : cS) (a0 : Nat) (x1 : Nat) (x2 : Nat) : cS := KF_X0_refresh_0 N g H T a0 x1 x2 S
def p_X0_refresh (N g H T : Nat) (S : cS) (a0 : Nat) (x1 : Nat) (x2 : Nat) : Prop := KO_X0_refresh_0 N g H T a0 x1 x2 S
set_option maxRecDepth 100000 in
set_option maxHeartbeats 4000000 in
theorem kc_X0_refresh {G : zG} {o : cO} {u g H T N : Nat} {S : cS} (hG : zOK G) {a0 : Nat} {x1 : Nat} {x2 : Nat} (hS : St u g H T S) (t_x0 : isO g H 0 a0) (t_x1 : isO g H 2 x1) (t_x2 : isO g H 0 x2) (ok : p_X0_refresh N g H T S a0 x1 x2) : cCv G o dX0_refresh mX0_refresh [.ref a0, va_rf (some x1), va_rf (some x2)] S (fun S' => S' = k_X0_refresh N g H T S a0 x1 x2 ∧ St u g H T S' ∧ Mono S S') := by
  refine cC.ofX rfl (by exact Nat.le_of_ble_eq_true rfl) ?_
  show cX G o dX0_refresh mX0_refresh 0 [some (va_rf (some a0)), some (va_rf (some x1)), some (va_rf (some x2))] [] S _
  exact cX.cutz (kb_X0_refresh_0 (X := fun F => F = k_X0_refresh N g H T S a0 x1 x2) hG (fun S' h1 h2 h => ⟨rfl, h, h1, h2⟩) hS Mono.rfl' t_x0 t_x1 t_x2 ok rfl) ⟨rfl, rfl, rfl, trivial⟩
/-! X1_paymentFits -/
def KF_X1_paymentFits_99 (N g H T : Nat) (s0 : Int32) (S : cS) : Int32 := s0
def KO_X1_paymentFits_99 (N g H T : Nat) (s0 : Int32) (S : cS) : Prop := narrow .boolean (.int s0) = .int s0
set_option maxRecDepth 100000 in
set_option maxHeartbeats 4000000 in
theorem kb_X1_paymentFits_99 {G : zG} {o : cO} {u g H T N : Nat} {S : cS} {Q : Option Value → cS → Prop} {X : Int32 → Prop} (hG : zOK G) (hR : ∀ v, X v → Q (some (.int v)) S) {s0 : Int32} (hS : St u g H T S) (ok : KO_X1_paymentFits_99 N g H T s0 S) (hx : X (KF_X1_paymentFits_99 N g H T s0 S)) : cX G o dX1_paymentFits mX1_paymentFits 99 [none, none, none, none, none] [.int s0] S Q := by
  unfold KO_X1_paymentFits_99 at ok
  unfold KF_X1_paymentFits_99 at hx
  exact c_ireturn rfl ok dX1_paymentFits_99 (hR _ hx)
def KF_X1_paymentFits_98 (N g H T : Nat)  (S : cS) : Int32 := (KF_X1_paymentFits_99 N g H T (nI 0) S)
def KO_X1_paymentFits_98 (N g H T : Nat)  (S : cS) : Prop := KO_X1_paymentFits_99 N g H T (nI 0) S
set_option maxRecDepth 100000 in
set_option maxHeartbeats 4000000 in
theorem kb_X1_paymentFits_98 {G : zG} {o : cO} {u g H T N : Nat} {S : cS} {Q : Option Value → cS → Prop} {X : Int32 → Prop} (hG : zOK G) (hR : ∀ v, X v → Q (some (.int v)) S) (hS : St u g H T S) (ok : KO_X1_paymentFits_98 N g H T S) (hx : X (KF_X1_paymentFits_98 N g H T S)) : cX G o dX1_paymentFits mX1_paymentFits 98 [none, none, none, none, none] [] S Q := by
  unfold KO_X1_paymentFits_98 at ok
  unfold KF_X1_paymentFits_98 at hx
  refine c_iconst (v := nI 0) dX1_paymentFits_98 (by decide) ?_
  exact cX.cutz (kb_X1_paymentFits_99 hG hR hS  ok hx) trivial
def KF_X1_paymentFits_13 (N g H T : Nat)  (S : cS) : Int32 := (nI 0)
def KO_X1_paymentFits_13 (N g H T : Nat)  (S : cS) : Prop := True
set_option maxRecDepth 100000 in
set_option maxHeartbeats 4000000 in
theorem kb_X1_paymentFits_13 {G : zG} {o : cO} {u g H T N : Nat} {S : cS} {Q : Option Value → cS → Prop} {X : Int32 → Prop} (hG : zOK G) (hR : ∀ v, X v → Q (some (.int v)) S) (hS : St u g H T S) (ok : KO_X1_paymentFits_13 N g H T S) (hx : X (KF_X1_paymentFits_13 N g H T S)) : cX G o dX1_paymentFits mX1_paymentFits 13 [none, none, none, none, none] [] S Q := by
  unfold KO_X1_paymentFits_13 at ok
  unfold KF_X1_paymentFits_13 at hx
  refine c_iconst (v := nI 0) dX1_paymentFits_13 (by decide) ?_
  exact c_ireturn rfl rfl dX1_paymentFits_14 (hR _ hx)
def KF_X1_paymentFits_0 (N g H T : Nat) (x0 : Option Nat) (x1 : Int32) (S : cS) : Int32 := (if x1 < 0 then (KF_X1_paymentFits_13 N g H T S) else (if x1 ≤ ((nI (cL S (za x0))) - (nI 7)) then (if (nI 16) ≤ ((cA S (za x0) x1.toNatClampNeg) &&& (nI 255)) then (KF_X1_paymentFits_98 N g H T S) else (if (nI 16) ≤ ((cA S (za x0) (x1 + (nI 1)).toNatClampNeg) &&& (nI 255)) then (KF_X1_paymentFits_98 N g H T S) else (if ((cA S (za x0) x1.toNatClampNeg) &&& (nI 255)) = ((cA S (za x0) (x1 + (nI 1)).toNatClampNeg) &&& (nI 255)) then (KF_X1_paymentFits_98 N g H T S) else (if (k_X11_twoBytes N g H T S x0 (x1 + (nI 2))) < (nI 1) then (KF_X1_paymentFits_98 N g H T S) else (if (nI 1000) < (k_X11_twoBytes N g H T S x0 (x1 + (nI 2))) then (KF_X1_paymentFits_98 N g H T S) else (if (cA S (za x0) (x1 + (nI 6)).toNatClampNeg) < (nI 1) then (KF_X1_paymentFits_98 N g H T S) else (if (nI 9) < (cA S (za x0) (x1 + (nI 6)).toNatClampNeg) then (KF_X1_paymentFits_98 N g H T S) else (KF_X1_paymentFits_99 N g H T (nI 1) S)))))))) else (KF_X1_paymentFits_13 N g H T S)))
def KO_X1_paymentFits_0 (N g H T : Nat) (x0 : Option Nat) (x1 : Int32) (S : cS) : Prop := ((x1 < 0 → KO_X1_paymentFits_13 N g H T S) ∧ (¬ x1 < 0 → (¬ x0 = none) ∧ ((x1 ≤ ((nI (cL S (za x0))) - (nI 7)) → (¬ x0 = none ∧ vp_in x1 (cL S (za x0))) ∧ (¬ x0 = none ∧ vp_in (x1 + (nI 1)) (cL S (za x0))) ∧ (p_X11_twoBytes N g H T S x0 (x1 + (nI 2))) ∧ (((nI 16) ≤ ((cA S (za x0) x1.toNatClampNeg) &&& (nI 255)) → KO_X1_paymentFits_98 N g H T S) ∧ (¬ (nI 16) ≤ ((cA S (za x0) x1.toNatClampNeg) &&& (nI 255)) → (((nI 16) ≤ ((cA S (za x0) (x1 + (nI 1)).toNatClampNeg) &&& (nI 255)) → KO_X1_paymentFits_98 N g H T S) ∧ (¬ (nI 16) ≤ ((cA S (za x0) (x1 + (nI 1)).toNatClampNeg) &&& (nI 255)) → ((((cA S (za x0) x1.toNatClampNeg) &&& (nI 255)) = ((cA S (za x0) (x1 + (nI 1)).toNatClampNeg) &&& (nI 255)) → KO_X1_paymentFits_98 N g H T S) ∧ (¬ ((cA S (za x0) x1.toNatClampNeg) &&& (nI 255)) = ((cA S (za x0) (x1 + (nI 1)).toNatClampNeg) &&& (nI 255)) → (((k_X11_twoBytes N g H T S x0 (x1 + (nI 2))) < (nI 1) → KO_X1_paymentFits_98 N g H T S) ∧ (¬ (k_X11_twoBytes N g H T S x0 (x1 + (nI 2))) < (nI 1) → (((nI 1000) < (k_X11_twoBytes N g H T S x0 (x1 + (nI 2))) → KO_X1_paymentFits_98 N g H T S) ∧ (¬ (nI 1000) < (k_X11_twoBytes N g H T S x0 (x1 + (nI 2))) → (¬ x0 = none ∧ vp_in (x1 + (nI 6)) (cL S (za x0))) ∧ (((cA S (za x0) (x1 + (nI 6)).toNatClampNeg) < (nI 1) → KO_X1_paymentFits_98 N g H T S) ∧ (¬ (cA S (za x0) (x1 + (nI 6)).toNatClampNeg) < (nI 1) → (¬ x0 = none ∧ vp_in (x1 + (nI 6)) (cL S (za x0))) ∧ (((nI 9) < (cA S (za x0) (x1 + (nI 6)).toNatClampNeg) → KO_X1_paymentFits_98 N g H T S) ∧ (¬ (nI 9) < (cA S (za x0) (x1 + (nI 6)).toNatClampNeg) → KO_X1_paymentFits_99 N g H T (nI 1) S))))))))))))))) ∧ (¬ x1 ≤ ((nI (cL S (za x0))) - (nI 7)) → KO_X1_paymentFits_13 N g H T S))))
set_option maxRecDepth 100000 in
set_option maxHeartbeats 4000000 in
theorem kb_X1_paymentFits_0 {G : zG} {o : cO} {u g H T N : Nat} {S : cS} {Q : Option Value → cS → Prop} {X : Int32 → Prop} (hG : zOK G) (hR : ∀ v, X v → Q (some (.int v)) S) {x0 : Option Nat} {x1 : Int32} (hS : St u g H T S) (t_x0 : tK S 20 x0) (ok : KO_X1_paymentFits_0 N g H T x0 x1 S) (hx : X (KF_X1_paymentFits_0 N g H T x0 x1 S)) : cX G o dX1_paymentFits mX1_paymentFits 0 [some (va_rf x0), some (.int x1), none, none, none] [] S Q := by
  unfold KO_X1_paymentFits_0 at ok
  unfold KF_X1_paymentFits_0 at hx
  refine c_iload_n dX1_paymentFits_0 rfl rfl ?_
  refine c_if_lt (tgt := 13) dX1_paymentFits_1 (by decide) (fun c_1 => ?_) (fun c_1 => ?_)
  · have ok := ok.1 c_1
    have hx := xif_p c_1 hx
    exact cX.cutz (kb_X1_paymentFits_13 hG hR hS  ok hx) trivial
  · have ok := ok.2 c_1
    have hx := xif_n c_1 hx
    refine c_iload_n dX1_paymentFits_4 rfl rfl ?_
    refine c_aload_nQ dX1_paymentFits_5 rfl rfl ?_
    refine c_alenS (t := 0) (ty := .byte) rfl dX1_paymentFits_6 (tK.cis t_x0 ok.1) rfl ?_
    have ok := ok.2
    refine c_bipush (v := nI 7) dX1_paymentFits_7 (by decide) ?_
    refine c_isub dX1_paymentFits_9 ?_
    refine c_icmp_le (tgt := 15) dX1_paymentFits_10 (by decide) (fun c_10 => ?_) (fun c_10 => ?_)
    · have ok := ok.1 c_10
      have hx := xif_p c_10 hx
      refine c_aload_nQ dX1_paymentFits_15 rfl rfl ?_
      refine c_iload_n dX1_paymentFits_16 rfl rfl ?_
      refine c_bald dX1_paymentFits_17 ⟨(tK.cis t_x0 ok.1.1), ok.1.2⟩ ?_
      have ok := ok.2
      refine c_sipush (v := nI 255) dX1_paymentFits_18 (by decide) ?_
      refine c_iand dX1_paymentFits_21 ?_
      refine c_istore_2 dX1_paymentFits_22 (by decide) rfl ?_
      refine c_aload_nQ dX1_paymentFits_23 rfl rfl ?_
      refine c_iload_n dX1_paymentFits_24 rfl rfl ?_
      refine c_iconst (v := nI 1) dX1_paymentFits_25 (by decide) ?_
      refine c_iadd dX1_paymentFits_26 ?_
      refine c_bald dX1_paymentFits_27 ⟨(tK.cis t_x0 ok.1.1), ok.1.2⟩ ?_
      have ok := ok.2
      refine c_sipush (v := nI 255) dX1_paymentFits_28 (by decide) ?_
      refine c_iand dX1_paymentFits_31 ?_
      refine c_istore_3 dX1_paymentFits_32 (by decide) rfl ?_
      refine c_aload_nQ dX1_paymentFits_33 rfl rfl ?_
      refine c_iload_n dX1_paymentFits_34 rfl rfl ?_
      refine c_iconst (v := nI 2) dX1_paymentFits_35 (by decide) ?_
      refine c_iadd dX1_paymentFits_36 ?_
      refine c_SN2iE (y' := mX11_twoBytes) dX1_paymentFits_37 lX1_69 kX11_twoBytes ⟨by decide, by decide⟩ (Nat.le_of_ble_eq_true rfl) (kc_X11_twoBytes hG hS t_x0 ok.1) ?_
      have ok := ok.2
      refine c_istore_4 dX1_paymentFits_40 (by decide) rfl ?_
      refine c_iload_n dX1_paymentFits_42 rfl rfl ?_
      refine c_bipush (v := nI 16) dX1_paymentFits_43 (by decide) ?_
      refine c_icmp_ge (tgt := 98) dX1_paymentFits_45 (by decide) (fun c_45 => ?_) (fun c_45 => ?_)
      · have ok := ok.1 c_45
        have hx := xif_p c_45 hx
        exact cX.cutz (kb_X1_paymentFits_98 hG hR hS  ok hx) trivial
      · have ok := ok.2 c_45
        have hx := xif_n c_45 hx
        refine c_iload_n dX1_paymentFits_48 rfl rfl ?_
        refine c_bipush (v := nI 16) dX1_paymentFits_49 (by decide) ?_
        refine c_icmp_ge (tgt := 98) dX1_paymentFits_51 (by decide) (fun c_51 => ?_) (fun c_51 => ?_)
        · have ok := ok.1 c_51
          have hx := xif_p c_51 hx
          exact cX.cutz (kb_X1_paymentFits_98 hG hR hS  ok hx) trivial
        · have ok := ok.2 c_51
          have hx := xif_n c_51 hx
          refine c_iload_n dX1_paymentFits_54 rfl rfl ?_
          refine c_iload_n dX1_paymentFits_55 rfl rfl ?_
          refine c_icmp_eq (tgt := 98) dX1_paymentFits_56 (by decide) (fun c_56 => ?_) (fun c_56 => ?_)
          · have ok := ok.1 c_56
            have hx := xif_p c_56 hx
            exact cX.cutz (kb_X1_paymentFits_98 hG hR hS  ok hx) trivial
          · have ok := ok.2 c_56
            have hx := xif_n c_56 hx
            refine c_iload dX1_paymentFits_59 rfl ?_
            refine c_iconst (v := nI 1) dX1_paymentFits_61 (by decide) ?_
            refine c_icmp_lt (tgt := 98) dX1_paymentFits_62 (by decide) (fun c_62 => ?_) (fun c_62 => ?_)
            · have ok := ok.1 c_62
              have hx := xif_p c_62 hx
              exact cX.cutz (kb_X1_paymentFits_98 hG hR hS  ok hx) trivial
            · have ok := ok.2 c_62
              have hx := xif_n c_62 hx
              refine c_iload dX1_paymentFits_65 rfl ?_
              refine c_sipush (v := nI 1000) dX1_paymentFits_67 (by decide) ?_
              refine c_icmp_gt (tgt := 98) dX1_paymentFits_70 (by decide) (fun c_70 => ?_) (fun c_70 => ?_)
              · have ok := ok.1 c_70
                have hx := xif_p c_70 hx
                exact cX.cutz (kb_X1_paymentFits_98 hG hR hS  ok hx) trivial
              · have ok := ok.2 c_70
                have hx := xif_n c_70 hx
                refine c_aload_nQ dX1_paymentFits_73 rfl rfl ?_
                refine c_iload_n dX1_paymentFits_74 rfl rfl ?_
                refine c_bipush (v := nI 6) dX1_paymentFits_75 (by decide) ?_
                refine c_iadd dX1_paymentFits_77 ?_
                refine c_bald dX1_paymentFits_78 ⟨(tK.cis t_x0 ok.1.1), ok.1.2⟩ ?_
                have ok := ok.2
                refine c_iconst (v := nI 1) dX1_paymentFits_79 (by decide) ?_
                refine c_icmp_lt (tgt := 98) dX1_paymentFits_80 (by decide) (fun c_80 => ?_) (fun c_80 => ?_)
                · have ok := ok.1 c_80
                  have hx := xif_p c_80 hx
                  exact cX.cutz (kb_X1_paymentFits_98 hG hR hS  ok hx) trivial
                · have ok := ok.2 c_80
                  have hx := xif_n c_80 hx
                  refine c_aload_nQ dX1_paymentFits_83 rfl rfl ?_
                  refine c_iload_n dX1_paymentFits_84 rfl rfl ?_
                  refine c_bipush (v := nI 6) dX1_paymentFits_85 (by decide) ?_
                  refine c_iadd dX1_paymentFits_87 ?_
                  refine c_bald dX1_paymentFits_88 ⟨(tK.cis t_x0 ok.1.1), ok.1.2⟩ ?_
                  have ok := ok.2
                  refine c_bipush (v := nI 9) dX1_paymentFits_89 (by decide) ?_
                  refine c_icmp_gt (tgt := 98) dX1_paymentFits_91 (by decide) (fun c_91 => ?_) (fun c_91 => ?_)
                  · have ok := ok.1 c_91
                    have hx := xif_p c_91 hx
                    exact cX.cutz (kb_X1_paymentFits_98 hG hR hS  ok hx) trivial
                  · have ok := ok.2 c_91
                    have hx := xif_n c_91 hx
                    refine c_iconst (v := nI 1) dX1_paymentFits_94 (by decide) ?_
                    refine c_goto (tgt := 99) dX1_paymentFits_95 (by decide) ?_
                    exact cX.cutz (kb_X1_paymentFits_99 hG hR hS  ok hx) trivial
    · have ok := ok.2 c_10
      have hx := xif_n c_10 hx
      exact cX.cutz (kb_X1_paymentFits_13 hG hR hS  ok hx) trivial
def k_X1_paymentFits (N g H T : Nat) (S : cS) (x0 : Option Nat) (x1 : Int32) : Int32 := KF_X1_paymentFits_0 N g H T x0 x1 S
def p_X1_paymentFits (N g H T : Nat) (S : cS) (x0 : Option Nat) (x1 : Int32) : Prop := KO_X1_paymentFits_0 N g H T x0 x1 S
set_option maxRecDepth 100000 in
set_option maxHeartbeats 4000000 in
theorem kc_X1_paymentFits {G : zG} {o : cO} {u g H T N : Nat} {S : cS} (hG : zOK G) {x0 : Option Nat} {x1 : Int32} (hS : St u g H T S) (t_x0 : tK S 20 x0) (ok : p_X1_paymentFits N g H T S x0 x1) : cCi G o dX1_paymentFits mX1_paymentFits [va_rf x0, .int x1] S (fun v S' => (v = k_X1_paymentFits N g H T S x0 x1 ∧ S' = S)) := by
  refine cC.ofX rfl (by cases x0 <;> exact Nat.le_of_ble_eq_true rfl) ?_
  rw [show zargs mX1_paymentFits.2.2.1 [va_rf x0, .int x1] = [some (va_rf x0), some (.int x1), none, none, none] from by cases x0 <;> rfl]
  exact cX.cutz (kb_X1_paymentFits_0 (X := fun F => F = k_X1_paymentFits N g H T S x0 x1) hG (fun v h => ⟨v, rfl, h, rfl⟩) hS t_x0 ok rfl) ⟨rfl, rfl, trivial⟩
/-! X1_heightFits -/
def KF_X1_heightFits_22 (N g H T : Nat) (s0 : Int32) (S : cS) : Int32 := s0
def KO_X1_heightFits_22 (N g H T : Nat) (s0 : Int32) (S : cS) : Prop := narrow .boolean (.int s0) = .int s0
set_option maxRecDepth 100000 in
set_option maxHeartbeats 4000000 in
theorem kb_X1_heightFits_22 {G : zG} {o : cO} {u g H T N : Nat} {S : cS} {Q : Option Value → cS → Prop} {X : Int32 → Prop} (hG : zOK G) (hR : ∀ v, X v → Q (some (.int v)) S) {s0 : Int32} (hS : St u g H T S) (ok : KO_X1_heightFits_22 N g H T s0 S) (hx : X (KF_X1_heightFits_22 N g H T s0 S)) : cX G o dX1_heightFits mX1_heightFits 22 [none, none, none] [.int s0] S Q := by
  unfold KO_X1_heightFits_22 at ok
  unfold KF_X1_heightFits_22 at hx
  exact c_ireturn rfl ok dX1_heightFits_22 (hR _ hx)
def KF_X1_heightFits_21 (N g H T : Nat)  (S : cS) : Int32 := (KF_X1_heightFits_22 N g H T (nI 0) S)
def KO_X1_heightFits_21 (N g H T : Nat)  (S : cS) : Prop := KO_X1_heightFits_22 N g H T (nI 0) S
set_option maxRecDepth 100000 in
set_option maxHeartbeats 4000000 in
theorem kb_X1_heightFits_21 {G : zG} {o : cO} {u g H T N : Nat} {S : cS} {Q : Option Value → cS → Prop} {X : Int32 → Prop} (hG : zOK G) (hR : ∀ v, X v → Q (some (.int v)) S) (hS : St u g H T S) (ok : KO_X1_heightFits_21 N g H T S) (hx : X (KF_X1_heightFits_21 N g H T S)) : cX G o dX1_heightFits mX1_heightFits 21 [none, none, none] [] S Q := by
  unfold KO_X1_heightFits_21 at ok
  unfold KF_X1_heightFits_21 at hx
  refine c_iconst (v := nI 0) dX1_heightFits_21 (by decide) ?_
  exact cX.cutz (kb_X1_heightFits_22 hG hR hS  ok hx) trivial
def KF_X1_heightFits_0 (N g H T : Nat) (x0 : Option Nat) (x1 : Int32) (S : cS) : Int32 := (if (k_X11_twoBytes N g H T S x0 x1) < (nI 1) then (KF_X1_heightFits_21 N g H T S) else (if (nI 41) < (k_X11_twoBytes N g H T S x0 x1) then (KF_X1_heightFits_21 N g H T S) else (KF_X1_heightFits_22 N g H T (nI 1) S)))
def KO_X1_heightFits_0 (N g H T : Nat) (x0 : Option Nat) (x1 : Int32) (S : cS) : Prop := (p_X11_twoBytes N g H T S x0 x1) ∧ (((k_X11_twoBytes N g H T S x0 x1) < (nI 1) → KO_X1_heightFits_21 N g H T S) ∧ (¬ (k_X11_twoBytes N g H T S x0 x1) < (nI 1) → (((nI 41) < (k_X11_twoBytes N g H T S x0 x1) → KO_X1_heightFits_21 N g H T S) ∧ (¬ (nI 41) < (k_X11_twoBytes N g H T S x0 x1) → KO_X1_heightFits_22 N g H T (nI 1) S))))
set_option maxRecDepth 100000 in
set_option maxHeartbeats 4000000 in
theorem kb_X1_heightFits_0 {G : zG} {o : cO} {u g H T N : Nat} {S : cS} {Q : Option Value → cS → Prop} {X : Int32 → Prop} (hG : zOK G) (hR : ∀ v, X v → Q (some (.int v)) S) {x0 : Option Nat} {x1 : Int32} (hS : St u g H T S) (t_x0 : tK S 20 x0) (ok : KO_X1_heightFits_0 N g H T x0 x1 S) (hx : X (KF_X1_heightFits_0 N g H T x0 x1 S)) : cX G o dX1_heightFits mX1_heightFits 0 [some (va_rf x0), some (.int x1), none] [] S Q := by
  unfold KO_X1_heightFits_0 at ok
  unfold KF_X1_heightFits_0 at hx
  refine c_aload_nQ dX1_heightFits_0 rfl rfl ?_
  refine c_iload_n dX1_heightFits_1 rfl rfl ?_
  refine c_SN2iE (y' := mX11_twoBytes) dX1_heightFits_2 lX1_69 kX11_twoBytes ⟨by decide, by decide⟩ (Nat.le_of_ble_eq_true rfl) (kc_X11_twoBytes hG hS t_x0 ok.1) ?_
  have ok := ok.2
  refine c_istore_2 dX1_heightFits_5 (by decide) rfl ?_
  refine c_iload_n dX1_heightFits_6 rfl rfl ?_
  refine c_iconst (v := nI 1) dX1_heightFits_7 (by decide) ?_
  refine c_icmp_lt (tgt := 21) dX1_heightFits_8 (by decide) (fun c_8 => ?_) (fun c_8 => ?_)
  · have ok := ok.1 c_8
    have hx := xif_p c_8 hx
    exact cX.cutz (kb_X1_heightFits_21 hG hR hS  ok hx) trivial
  · have ok := ok.2 c_8
    have hx := xif_n c_8 hx
    refine c_iload_n dX1_heightFits_11 rfl rfl ?_
    refine c_bipush (v := nI 41) dX1_heightFits_12 (by decide) ?_
    refine c_icmp_gt (tgt := 21) dX1_heightFits_14 (by decide) (fun c_14 => ?_) (fun c_14 => ?_)
    · have ok := ok.1 c_14
      have hx := xif_p c_14 hx
      exact cX.cutz (kb_X1_heightFits_21 hG hR hS  ok hx) trivial
    · have ok := ok.2 c_14
      have hx := xif_n c_14 hx
      refine c_iconst (v := nI 1) dX1_heightFits_17 (by decide) ?_
      refine c_goto (tgt := 22) dX1_heightFits_18 (by decide) ?_
      exact cX.cutz (kb_X1_heightFits_22 hG hR hS  ok hx) trivial
def k_X1_heightFits (N g H T : Nat) (S : cS) (x0 : Option Nat) (x1 : Int32) : Int32 := KF_X1_heightFits_0 N g H T x0 x1 S
def p_X1_heightFits (N g H T : Nat) (S : cS) (x0 : Option Nat) (x1 : Int32) : Prop := KO_X1_heightFits_0 N g H T x0 x1 S
set_option maxRecDepth 100000 in
set_option maxHeartbeats 4000000 in
theorem kc_X1_heightFits {G : zG} {o : cO} {u g H T N : Nat} {S : cS} (hG : zOK G) {x0 : Option Nat} {x1 : Int32} (hS : St u g H T S) (t_x0 : tK S 20 x0) (ok : p_X1_heightFits N g H T S x0 x1) : cCi G o dX1_heightFits mX1_heightFits [va_rf x0, .int x1] S (fun v S' => (v = k_X1_heightFits N g H T S x0 x1 ∧ S' = S)) := by
  refine cC.ofX rfl (by cases x0 <;> exact Nat.le_of_ble_eq_true rfl) ?_
  rw [show zargs mX1_heightFits.2.2.1 [va_rf x0, .int x1] = [some (va_rf x0), some (.int x1), none] from by cases x0 <;> rfl]
  exact cX.cutz (kb_X1_heightFits_0 (X := fun F => F = k_X1_heightFits N g H T S x0 x1) hG (fun v h => ⟨v, rfl, h, rfl⟩) hS t_x0 ok rfl) ⟨rfl, rfl, trivial⟩
/-! X1_signFits -/
def KF_X1_signFits_39 (N g H T : Nat) (s0 : Int32) (S : cS) : Int32 := s0
def KO_X1_signFits_39 (N g H T : Nat) (s0 : Int32) (S : cS) : Prop := narrow .boolean (.int s0) = .int s0
set_option maxRecDepth 100000 in
set_option maxHeartbeats 4000000 in
theorem kb_X1_signFits_39 {G : zG} {o : cO} {u g H T N : Nat} {S : cS} {Q : Option Value → cS → Prop} {X : Int32 → Prop} (hG : zOK G) (hR : ∀ v, X v → Q (some (.int v)) S) {s0 : Int32} (hS : St u g H T S) (ok : KO_X1_signFits_39 N g H T s0 S) (hx : X (KF_X1_signFits_39 N g H T s0 S)) : cX G o dX1_signFits mX1_signFits 39 [none, none] [.int s0] S Q := by
  unfold KO_X1_signFits_39 at ok
  unfold KF_X1_signFits_39 at hx
  exact c_ireturn rfl ok dX1_signFits_39 (hR _ hx)
def KF_X1_signFits_38 (N g H T : Nat)  (S : cS) : Int32 := (KF_X1_signFits_39 N g H T (nI 0) S)
def KO_X1_signFits_38 (N g H T : Nat)  (S : cS) : Prop := KO_X1_signFits_39 N g H T (nI 0) S
set_option maxRecDepth 100000 in
set_option maxHeartbeats 4000000 in
theorem kb_X1_signFits_38 {G : zG} {o : cO} {u g H T N : Nat} {S : cS} {Q : Option Value → cS → Prop} {X : Int32 → Prop} (hG : zOK G) (hR : ∀ v, X v → Q (some (.int v)) S) (hS : St u g H T S) (ok : KO_X1_signFits_38 N g H T S) (hx : X (KF_X1_signFits_38 N g H T S)) : cX G o dX1_signFits mX1_signFits 38 [none, none] [] S Q := by
  unfold KO_X1_signFits_38 at ok
  unfold KF_X1_signFits_38 at hx
  refine c_iconst (v := nI 0) dX1_signFits_38 (by decide) ?_
  exact cX.cutz (kb_X1_signFits_39 hG hR hS  ok hx) trivial
def KF_X1_signFits_0 (N g H T : Nat) (x0 : Nat) (x1 : Option Nat) (S : cS) : Int32 := (if (cI S 1 x0) ≤ ((cA S (za x1) (nI 1).toNatClampNeg) &&& (nI 255)) then (KF_X1_signFits_38 N g H T S) else (if (k_X1_heightFits N g H T S x1 (nI 2)) = 0 then (KF_X1_signFits_38 N g H T S) else (if (nI 16) ≤ ((cA S (za x1) (nI 4).toNatClampNeg) &&& (nI 255)) then (KF_X1_signFits_38 N g H T S) else (KF_X1_signFits_39 N g H T (nI 1) S))))
def KO_X1_signFits_0 (N g H T : Nat) (x0 : Nat) (x1 : Option Nat) (S : cS) : Prop := (¬ x1 = none ∧ vp_in (nI 1) (cL S (za x1))) ∧ (((cI S 1 x0) ≤ ((cA S (za x1) (nI 1).toNatClampNeg) &&& (nI 255)) → KO_X1_signFits_38 N g H T S) ∧ (¬ (cI S 1 x0) ≤ ((cA S (za x1) (nI 1).toNatClampNeg) &&& (nI 255)) → (p_X1_heightFits N g H T S x1 (nI 2)) ∧ (((k_X1_heightFits N g H T S x1 (nI 2)) = 0 → KO_X1_signFits_38 N g H T S) ∧ (¬ (k_X1_heightFits N g H T S x1 (nI 2)) = 0 → (¬ x1 = none ∧ vp_in (nI 4) (cL S (za x1))) ∧ (((nI 16) ≤ ((cA S (za x1) (nI 4).toNatClampNeg) &&& (nI 255)) → KO_X1_signFits_38 N g H T S) ∧ (¬ (nI 16) ≤ ((cA S (za x1) (nI 4).toNatClampNeg) &&& (nI 255)) → KO_X1_signFits_39 N g H T (nI 1) S))))))
set_option maxRecDepth 100000 in
set_option maxHeartbeats 4000000 in
theorem kb_X1_signFits_0 {G : zG} {o : cO} {u g H T N : Nat} {S : cS} {Q : Option Value → cS → Prop} {X : Int32 → Prop} (hG : zOK G) (hR : ∀ v, X v → Q (some (.int v)) S) {x0 : Nat} {x1 : Option Nat} (hS : St u g H T S) (t_x0 : isO g H 1 x0) (t_x1 : tK S 20 x1) (ok : KO_X1_signFits_0 N g H T x0 x1 S) (hx : X (KF_X1_signFits_0 N g H T x0 x1 S)) : cX G o dX1_signFits mX1_signFits 0 [some (va_rf (some x0)), some (va_rf x1)] [] S Q := by
  unfold KO_X1_signFits_0 at ok
  unfold KF_X1_signFits_0 at hx
  refine c_aload_nQ dX1_signFits_0 rfl rfl ?_
  refine c_iconst (v := nI 1) dX1_signFits_1 (by decide) ?_
  refine c_bald dX1_signFits_2 ⟨(tK.cis t_x1 ok.1.1), ok.1.2⟩ ?_
  have ok := ok.2
  refine c_sipush (v := nI 255) dX1_signFits_3 (by decide) ?_
  refine c_iand dX1_signFits_6 ?_
  refine c_aload_nQ dX1_signFits_7 rfl rfl ?_
  refine c_getI (C := RX1) (T := TX1) (N := 3) (ci := 1) (k := 1) ⟨rfl, inT1, by decide, fX1_19⟩ (by decide) (by decide) (by decide) dX1_signFits_8 (hS.k t_x0) ?_
  refine c_icmp_ge (tgt := 38) dX1_signFits_11 (by decide) (fun c_11 => ?_) (fun c_11 => ?_)
  · have ok := ok.1 c_11
    have hx := xif_p c_11 hx
    exact cX.cutz (kb_X1_signFits_38 hG hR hS  ok hx) trivial
  · have ok := ok.2 c_11
    have hx := xif_n c_11 hx
    refine c_aload_nQ dX1_signFits_14 rfl rfl ?_
    refine c_iconst (v := nI 2) dX1_signFits_15 (by decide) ?_
    refine c_S2iE (y' := mX1_heightFits) dX1_signFits_16 lX1_77 kX1_heightFits ⟨by decide, by decide⟩ (Nat.le_of_ble_eq_true rfl) (kc_X1_heightFits hG hS t_x1 ok.1) ?_
    have ok := ok.2
    refine c_if_eq (tgt := 38) dX1_signFits_19 (by decide) (fun c_19 => ?_) (fun c_19 => ?_)
    · have ok := ok.1 c_19
      have hx := xif_p c_19 hx
      exact cX.cutz (kb_X1_signFits_38 hG hR hS  ok hx) trivial
    · have ok := ok.2 c_19
      have hx := xif_n c_19 hx
      refine c_aload_nQ dX1_signFits_22 rfl rfl ?_
      refine c_iconst (v := nI 4) dX1_signFits_23 (by decide) ?_
      refine c_bald dX1_signFits_24 ⟨(tK.cis t_x1 ok.1.1), ok.1.2⟩ ?_
      have ok := ok.2
      refine c_sipush (v := nI 255) dX1_signFits_25 (by decide) ?_
      refine c_iand dX1_signFits_28 ?_
      refine c_bipush (v := nI 16) dX1_signFits_29 (by decide) ?_
      refine c_icmp_ge (tgt := 38) dX1_signFits_31 (by decide) (fun c_31 => ?_) (fun c_31 => ?_)
      · have ok := ok.1 c_31
        have hx := xif_p c_31 hx
        exact cX.cutz (kb_X1_signFits_38 hG hR hS  ok hx) trivial
      · have ok := ok.2 c_31
        have hx := xif_n c_31 hx
        refine c_iconst (v := nI 1) dX1_signFits_34 (by decide) ?_
        refine c_goto (tgt := 39) dX1_signFits_35 (by decide) ?_
        exact cX.cutz (kb_X1_signFits_39 hG hR hS  ok hx) trivial
def k_X1_signFits (N g H T : Nat) (S : cS) (a0 : Nat) (x1 : Option Nat) : Int32 := KF_X1_signFits_0 N g H T a0 x1 S
def p_X1_signFits (N g H T : Nat) (S : cS) (a0 : Nat) (x1 : Option Nat) : Prop := KO_X1_signFits_0 N g H T a0 x1 S
set_option maxRecDepth 100000 in
set_option maxHeartbeats 4000000 in
theorem kc_X1_signFits {G : zG} {o : cO} {u g H T N : Nat} {S : cS} (hG : zOK G) {a0 : Nat} {x1 : Option Nat} (hS : St u g H T S) (t_x0 : isO g H 1 a0) (t_x1 : tK S 20 x1) (ok : p_X1_signFits N g H T S a0 x1) : cCi G o dX1_signFits mX1_signFits [.ref a0, va_rf x1] S (fun v S' => (v = k_X1_signFits N g H T S a0 x1 ∧ S' = S)) := by
  refine cC.ofX rfl (by cases x1 <;> exact Nat.le_of_ble_eq_true rfl) ?_
  rw [show zargs mX1_signFits.2.2.1 [.ref a0, va_rf x1] = [some (va_rf (some a0)), some (va_rf x1)] from by cases x1 <;> rfl]
  exact cX.cutz (kb_X1_signFits_0 (X := fun F => F = k_X1_signFits N g H T S a0 x1) hG (fun v h => ⟨v, rfl, h, rfl⟩) hS t_x0 t_x1 ok rfl) ⟨rfl, rfl, trivial⟩

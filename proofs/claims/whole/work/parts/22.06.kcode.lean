/-! X1_snapshotFits -/
def KF_X1_snapshotFits_69 (N g H T : Nat)  (S : cS) : Int32 := (nI 1)
def KO_X1_snapshotFits_69 (N g H T : Nat)  (S : cS) : Prop := True
set_option maxRecDepth 100000 in
set_option maxHeartbeats 4000000 in
theorem kb_X1_snapshotFits_69 {G : zG} {o : cO} {u g H T N : Nat} {S : cS} {Q : Option Value → cS → Prop} {X : Int32 → Prop} (hG : zOK G) (hR : ∀ v, X v → Q (some (.int v)) S) (hS : St u g H T S) (ok : KO_X1_snapshotFits_69 N g H T S) (hx : X (KF_X1_snapshotFits_69 N g H T S)) : cX G o dX1_snapshotFits mX1_snapshotFits 69 [none, none, none, none] [] S Q := by
  unfold KO_X1_snapshotFits_69 at ok
  unfold KF_X1_snapshotFits_69 at hx
  refine c_iconst (v := nI 1) dX1_snapshotFits_69 (by decide) ?_
  exact c_ireturn rfl rfl dX1_snapshotFits_70 (hR _ hx)
def KF_X1_snapshotFits_60 (N g H T : Nat) (rec : Option Nat → Int32 → Int32 → Nat × Unit) (x0 : Option Nat) (x2 : Int32) (x3 : Int32) (S : cS) : Nat × Unit := (rec x0 (x2 + nI 1) (x3 + nI 5))
def KO_X1_snapshotFits_60 (N g H T : Nat) (rok : Option Nat → Int32 → Int32 → Prop) (x0 : Option Nat) (x2 : Int32) (x3 : Int32) (S : cS) : Prop := rok x0 (x2 + nI 1) (x3 + nI 5)
set_option maxRecDepth 100000 in
set_option maxHeartbeats 4000000 in
theorem kb_X1_snapshotFits_60 {G : zG} {o : cO} {u g H T N : Nat} {S : cS} {Q : Option Value → cS → Prop} {X : Nat × Unit → Prop} (hG : zOK G) (hX0 : ∀ _u : Unit, X (0, ()) → cX G o dX1_snapshotFits mX1_snapshotFits 58 [none, none, none, none] [] S Q) (hX1 : ∀ _u : Unit, X (1, ()) → cX G o dX1_snapshotFits mX1_snapshotFits 69 [none, none, none, none] [] S Q) {rec : Option Nat → Int32 → Int32 → Nat × Unit} {rok : Option Nat → Int32 → Int32 → Prop} (hrec : ∀ (x0 : Option Nat) (x2 : Int32) (x3 : Int32), tK S 20 x0 → rok x0 x2 x3 → X (rec x0 x2 x3) → cX G o dX1_snapshotFits mX1_snapshotFits 24 [some (va_rf x0), none, some (.int x2), some (.int x3)] [] S Q) {x0 : Option Nat} {x2 : Int32} {x3 : Int32} (hS : St u g H T S) (t_x0 : tK S 20 x0) (ok : KO_X1_snapshotFits_60 N g H T rok x0 x2 x3 S) (hx : X (KF_X1_snapshotFits_60 N g H T rec x0 x2 x3 S)) : cX G o dX1_snapshotFits mX1_snapshotFits 60 [some (va_rf x0), none, some (.int x2), some (.int x3)] [] S Q := by
  unfold KO_X1_snapshotFits_60 at ok
  unfold KF_X1_snapshotFits_60 at hx
  refine c_iinc_2 (v := (x2 + nI 1)) dX1_snapshotFits_60 rfl (by first | rfl | (congr 1)) (by decide) rfl ?_
  refine c_iinc_3 (v := (x3 + nI 5)) dX1_snapshotFits_63 rfl (by first | rfl | (congr 1)) (by decide) rfl ?_
  refine c_goto (tgt := 24) dX1_snapshotFits_66 (by decide) ?_
  exact cX.cutz (hrec _ _ _ t_x0 ok hx) ⟨rfl, rfl, rfl, trivial⟩
def KF_X1_snapshotFits_58 (N g H T : Nat)  (S : cS) : Int32 := (nI 0)
def KO_X1_snapshotFits_58 (N g H T : Nat)  (S : cS) : Prop := True
set_option maxRecDepth 100000 in
set_option maxHeartbeats 4000000 in
theorem kb_X1_snapshotFits_58 {G : zG} {o : cO} {u g H T N : Nat} {S : cS} {Q : Option Value → cS → Prop} {X : Int32 → Prop} (hG : zOK G) (hR : ∀ v, X v → Q (some (.int v)) S) (hS : St u g H T S) (ok : KO_X1_snapshotFits_58 N g H T S) (hx : X (KF_X1_snapshotFits_58 N g H T S)) : cX G o dX1_snapshotFits mX1_snapshotFits 58 [none, none, none, none] [] S Q := by
  unfold KO_X1_snapshotFits_58 at ok
  unfold KF_X1_snapshotFits_58 at hx
  refine c_iconst (v := nI 0) dX1_snapshotFits_58 (by decide) ?_
  exact c_ireturn rfl rfl dX1_snapshotFits_59 (hR _ hx)
def KB_X1_snapshotFits_24 (N g H T : Nat) (rec : Option Nat → Int32 → Int32 → Nat × Unit) (x0 : Option Nat) (x2 : Int32) (x3 : Int32) (S : cS) : Nat × Unit := (if (nI 16) ≤ x2 then (1, ()) else (if (nI 16000) < (k_X11_twoBytes N g H T S x0 x3) then (0, ()) else (if (cA S (za x0) (x3 + (nI 4)).toNatClampNeg) = 0 then (KF_X1_snapshotFits_60 N g H T rec x0 x2 x3 S) else (if (cA S (za x0) (x3 + (nI 4)).toNatClampNeg) = (nI 1) then (KF_X1_snapshotFits_60 N g H T rec x0 x2 x3 S) else (0, ())))))
def KOB_X1_snapshotFits_24 (N g H T : Nat) (rok : Option Nat → Int32 → Int32 → Prop) (x0 : Option Nat) (x2 : Int32) (x3 : Int32) (S : cS) : Prop := (((nI 16) ≤ x2 → True) ∧ (¬ (nI 16) ≤ x2 → (p_X11_twoBytes N g H T S x0 x3) ∧ (((nI 16000) < (k_X11_twoBytes N g H T S x0 x3) → True) ∧ (¬ (nI 16000) < (k_X11_twoBytes N g H T S x0 x3) → (¬ x0 = none ∧ vp_in (x3 + (nI 4)) (cL S (za x0))) ∧ (((cA S (za x0) (x3 + (nI 4)).toNatClampNeg) = 0 → KO_X1_snapshotFits_60 N g H T rok x0 x2 x3 S) ∧ (¬ (cA S (za x0) (x3 + (nI 4)).toNatClampNeg) = 0 → (¬ x0 = none ∧ vp_in (x3 + (nI 4)) (cL S (za x0))) ∧ (((cA S (za x0) (x3 + (nI 4)).toNatClampNeg) = (nI 1) → KO_X1_snapshotFits_60 N g H T rok x0 x2 x3 S) ∧ (¬ (cA S (za x0) (x3 + (nI 4)).toNatClampNeg) = (nI 1) → True))))))))
set_option maxRecDepth 100000 in
set_option maxHeartbeats 4000000 in
theorem kbb_X1_snapshotFits_24 {G : zG} {o : cO} {u g H T N : Nat} {S : cS} {Q : Option Value → cS → Prop} {X : Nat × Unit → Prop} (hG : zOK G) (hX0 : ∀ _u : Unit, X (0, ()) → cX G o dX1_snapshotFits mX1_snapshotFits 58 [none, none, none, none] [] S Q) (hX1 : ∀ _u : Unit, X (1, ()) → cX G o dX1_snapshotFits mX1_snapshotFits 69 [none, none, none, none] [] S Q) {rec : Option Nat → Int32 → Int32 → Nat × Unit} {rok : Option Nat → Int32 → Int32 → Prop} (hrec : ∀ (x0 : Option Nat) (x2 : Int32) (x3 : Int32), tK S 20 x0 → rok x0 x2 x3 → X (rec x0 x2 x3) → cX G o dX1_snapshotFits mX1_snapshotFits 24 [some (va_rf x0), none, some (.int x2), some (.int x3)] [] S Q) {x0 : Option Nat} {x2 : Int32} {x3 : Int32} (hS : St u g H T S) (t_x0 : tK S 20 x0) (ok : KOB_X1_snapshotFits_24 N g H T rok x0 x2 x3 S) (hx : X (KB_X1_snapshotFits_24 N g H T rec x0 x2 x3 S)) : cX G o dX1_snapshotFits mX1_snapshotFits 24 [some (va_rf x0), none, some (.int x2), some (.int x3)] [] S Q := by
  unfold KOB_X1_snapshotFits_24 at ok
  unfold KB_X1_snapshotFits_24 at hx
  refine c_iload_n dX1_snapshotFits_24 rfl rfl ?_
  refine c_bipush (v := nI 16) dX1_snapshotFits_25 (by decide) ?_
  refine c_icmp_ge (tgt := 69) dX1_snapshotFits_27 (by decide) (fun c_27 => ?_) (fun c_27 => ?_)
  · have ok := ok.1 c_27
    have hx := xif_p c_27 hx
    exact cX.cutz (hX1 ()  hx) trivial
  · have ok := ok.2 c_27
    have hx := xif_n c_27 hx
    refine c_aload_nQ dX1_snapshotFits_30 rfl rfl ?_
    refine c_iload_n dX1_snapshotFits_31 rfl rfl ?_
    refine c_SN2iE (y' := mX11_twoBytes) dX1_snapshotFits_32 lX1_69 kX11_twoBytes ⟨by decide, by decide⟩ (Nat.le_of_ble_eq_true rfl) (kc_X11_twoBytes hG hS t_x0 ok.1) ?_
    have ok := ok.2
    refine c_sipush (v := nI 16000) dX1_snapshotFits_35 (by decide) ?_
    refine c_icmp_gt (tgt := 58) dX1_snapshotFits_38 (by decide) (fun c_38 => ?_) (fun c_38 => ?_)
    · have ok := ok.1 c_38
      have hx := xif_p c_38 hx
      exact cX.cutz (hX0 ()  hx) trivial
    · have ok := ok.2 c_38
      have hx := xif_n c_38 hx
      refine c_aload_nQ dX1_snapshotFits_41 rfl rfl ?_
      refine c_iload_n dX1_snapshotFits_42 rfl rfl ?_
      refine c_iconst (v := nI 4) dX1_snapshotFits_43 (by decide) ?_
      refine c_iadd dX1_snapshotFits_44 ?_
      refine c_bald dX1_snapshotFits_45 ⟨(tK.cis t_x0 ok.1.1), ok.1.2⟩ ?_
      have ok := ok.2
      refine c_if_eq (tgt := 60) dX1_snapshotFits_46 (by decide) (fun c_46 => ?_) (fun c_46 => ?_)
      · have ok := ok.1 c_46
        have hx := xif_p c_46 hx
        exact cX.cutz (kb_X1_snapshotFits_60 hG hX0 hX1 hrec hS t_x0 ok hx) ⟨rfl, rfl, rfl, trivial⟩
      · have ok := ok.2 c_46
        have hx := xif_n c_46 hx
        refine c_aload_nQ dX1_snapshotFits_49 rfl rfl ?_
        refine c_iload_n dX1_snapshotFits_50 rfl rfl ?_
        refine c_iconst (v := nI 4) dX1_snapshotFits_51 (by decide) ?_
        refine c_iadd dX1_snapshotFits_52 ?_
        refine c_bald dX1_snapshotFits_53 ⟨(tK.cis t_x0 ok.1.1), ok.1.2⟩ ?_
        have ok := ok.2
        refine c_iconst (v := nI 1) dX1_snapshotFits_54 (by decide) ?_
        refine c_icmp_eq (tgt := 60) dX1_snapshotFits_55 (by decide) (fun c_55 => ?_) (fun c_55 => ?_)
        · have ok := ok.1 c_55
          have hx := xif_p c_55 hx
          exact cX.cutz (kb_X1_snapshotFits_60 hG hX0 hX1 hrec hS t_x0 ok hx) ⟨rfl, rfl, rfl, trivial⟩
        · have ok := ok.2 c_55
          have hx := xif_n c_55 hx
          exact cX.cutz (hX0 ()  hx) trivial
def KL_X1_snapshotFits_24 (N g H T : Nat) : Nat → Option Nat → Int32 → Int32 → cS → Nat × Unit
  | 0, x0, x2, x3, S => (0, ())
  | n + 1, x0, x2, x3, S => KB_X1_snapshotFits_24 N g H T (fun x0 x2 x3 => KL_X1_snapshotFits_24 N g H T n x0 x2 x3 S) x0 x2 x3 S
def KOL_X1_snapshotFits_24 (N g H T : Nat) : Nat → Option Nat → Int32 → Int32 → cS → Prop
  | 0, _, _, _, _ => False
  | n + 1, x0, x2, x3, S => KOB_X1_snapshotFits_24 N g H T (fun x0 x2 x3 => KOL_X1_snapshotFits_24 N g H T n x0 x2 x3 S) x0 x2 x3 S
set_option maxRecDepth 100000 in
set_option maxHeartbeats 4000000 in
theorem kl_X1_snapshotFits_24 {G : zG} {o : cO} {u g H T N : Nat} {S : cS} {Q : Option Value → cS → Prop} {X : Nat × Unit → Prop} (hG : zOK G) (hX0 : ∀ _u : Unit, X (0, ()) → cX G o dX1_snapshotFits mX1_snapshotFits 58 [none, none, none, none] [] S Q) (hX1 : ∀ _u : Unit, X (1, ()) → cX G o dX1_snapshotFits mX1_snapshotFits 69 [none, none, none, none] [] S Q) (hS : St u g H T S) : ∀ (n : Nat) (x0 : Option Nat) (x2 : Int32) (x3 : Int32) , tK S 20 x0 → KOL_X1_snapshotFits_24 N g H T n x0 x2 x3 S → X (KL_X1_snapshotFits_24 N g H T n x0 x2 x3 S) → cX G o dX1_snapshotFits mX1_snapshotFits 24 [some (va_rf x0), none, some (.int x2), some (.int x3)] [] S Q := by
  intro n
  induction n with
  | zero => intro x0 x2 x3 t_x0 ok; exact absurd ok id
  | succ n ih =>
    intro x0 x2 x3 t_x0 ok hx
    exact kbb_X1_snapshotFits_24 hG hX0 hX1 (rec := fun x0 x2 x3 => KL_X1_snapshotFits_24 N g H T n x0 x2 x3 S) (rok := fun x0 x2 x3 => KOL_X1_snapshotFits_24 N g H T n x0 x2 x3 S) (fun x0 x2 x3 t_x0 ok hx => ih x0 x2 x3 t_x0 ok hx) hS t_x0 ok hx
def KA_X1_snapshotFits_24 (N g H T : Nat) (x0 : Option Nat) (x2 : Int32) (x3 : Int32) (S : cS) (z : Nat × Unit) : Int32 := (if z.1 = 0 then (KF_X1_snapshotFits_58 N g H T S) else (KF_X1_snapshotFits_69 N g H T S))
def KOA_X1_snapshotFits_24 (N g H T : Nat) (x0 : Option Nat) (x2 : Int32) (x3 : Int32) (S : cS) (z : Nat × Unit) : Prop := (if z.1 = 0 then KO_X1_snapshotFits_58 N g H T S else KO_X1_snapshotFits_69 N g H T S)
set_option maxRecDepth 100000 in
set_option maxHeartbeats 4000000 in
theorem kd_X1_snapshotFits_24 {G : zG} {o : cO} {u g H T N : Nat} {S : cS} {Q : Option Value → cS → Prop} {X : Int32 → Prop} (hG : zOK G) (hR : ∀ v, X v → Q (some (.int v)) S) {x0 : Option Nat} {x2 : Int32} {x3 : Int32} (hS : St u g H T S) (t_x0 : tK S 20 x0) (ok : KOL_X1_snapshotFits_24 N g H T N x0 x2 x3 S ∧ KOA_X1_snapshotFits_24 N g H T x0 x2 x3 S (KL_X1_snapshotFits_24 N g H T N x0 x2 x3 S)) (hx : X (KA_X1_snapshotFits_24 N g H T x0 x2 x3 S (KL_X1_snapshotFits_24 N g H T N x0 x2 x3 S))) : cX G o dX1_snapshotFits mX1_snapshotFits 24 [some (va_rf x0), none, some (.int x2), some (.int x3)] [] S Q := by
  refine kl_X1_snapshotFits_24 hG ?_ ?_ hS N x0 x2 x3 t_x0 ok.1 (X := fun z => KOA_X1_snapshotFits_24 N g H T x0 x2 x3 S z ∧ X (KA_X1_snapshotFits_24 N g H T x0 x2 x3 S z)) ⟨ok.2, hx⟩
  · intro _u hz
    obtain ⟨ok, hx⟩ := hz
    unfold KOA_X1_snapshotFits_24 at ok
    unfold KA_X1_snapshotFits_24 at hx
    have ok := xif_P (show (0 : Nat) = 0 from rfl) ok
    have hx := xif_p (show (0 : Nat) = 0 from rfl) hx
    exact cX.cutz (kb_X1_snapshotFits_58 hG hR hS  ok hx) trivial
  · intro _u hz
    obtain ⟨ok, hx⟩ := hz
    unfold KOA_X1_snapshotFits_24 at ok
    unfold KA_X1_snapshotFits_24 at hx
    have ok := xif_N (show ¬ (1 : Nat) = 0 by decide) ok
    have hx := xif_n (show ¬ (1 : Nat) = 0 by decide) hx
    exact cX.cutz (kb_X1_snapshotFits_69 hG hR hS  ok hx) trivial
def KF_X1_snapshotFits_17 (N g H T : Nat)  (S : cS) : Int32 := (nI 0)
def KO_X1_snapshotFits_17 (N g H T : Nat)  (S : cS) : Prop := True
set_option maxRecDepth 100000 in
set_option maxHeartbeats 4000000 in
theorem kb_X1_snapshotFits_17 {G : zG} {o : cO} {u g H T N : Nat} {S : cS} {Q : Option Value → cS → Prop} {X : Int32 → Prop} (hG : zOK G) (hR : ∀ v, X v → Q (some (.int v)) S) (hS : St u g H T S) (ok : KO_X1_snapshotFits_17 N g H T S) (hx : X (KF_X1_snapshotFits_17 N g H T S)) : cX G o dX1_snapshotFits mX1_snapshotFits 17 [none, none, none, none] [] S Q := by
  unfold KO_X1_snapshotFits_17 at ok
  unfold KF_X1_snapshotFits_17 at hx
  refine c_iconst (v := nI 0) dX1_snapshotFits_17 (by decide) ?_
  exact c_ireturn rfl rfl dX1_snapshotFits_18 (hR _ hx)
def KF_X1_snapshotFits_0 (N g H T : Nat) (x0 : Option Nat) (S : cS) : Int32 := (if (k_X11_twoBytes N g H T S x0 (nI 1)) < (nI 2) then (KF_X1_snapshotFits_17 N g H T S) else (if (k_X11_twoBytes N g H T S x0 (nI 1)) ≤ (nI 41) then (KA_X1_snapshotFits_24 N g H T x0 (nI 0) (nI 35) S (KL_X1_snapshotFits_24 N g H T N x0 (nI 0) (nI 35) S)) else (KF_X1_snapshotFits_17 N g H T S)))
def KO_X1_snapshotFits_0 (N g H T : Nat) (x0 : Option Nat) (S : cS) : Prop := (p_X11_twoBytes N g H T S x0 (nI 1)) ∧ (((k_X11_twoBytes N g H T S x0 (nI 1)) < (nI 2) → KO_X1_snapshotFits_17 N g H T S) ∧ (¬ (k_X11_twoBytes N g H T S x0 (nI 1)) < (nI 2) → (((k_X11_twoBytes N g H T S x0 (nI 1)) ≤ (nI 41) → (KOL_X1_snapshotFits_24 N g H T N x0 (nI 0) (nI 35) S ∧ KOA_X1_snapshotFits_24 N g H T x0 (nI 0) (nI 35) S (KL_X1_snapshotFits_24 N g H T N x0 (nI 0) (nI 35) S))) ∧ (¬ (k_X11_twoBytes N g H T S x0 (nI 1)) ≤ (nI 41) → KO_X1_snapshotFits_17 N g H T S))))
set_option maxRecDepth 100000 in
set_option maxHeartbeats 4000000 in
theorem kb_X1_snapshotFits_0 {G : zG} {o : cO} {u g H T N : Nat} {S : cS} {Q : Option Value → cS → Prop} {X : Int32 → Prop} (hG : zOK G) (hR : ∀ v, X v → Q (some (.int v)) S) {x0 : Option Nat} (hS : St u g H T S) (t_x0 : tK S 20 x0) (ok : KO_X1_snapshotFits_0 N g H T x0 S) (hx : X (KF_X1_snapshotFits_0 N g H T x0 S)) : cX G o dX1_snapshotFits mX1_snapshotFits 0 [some (va_rf x0), none, none, none] [] S Q := by
  unfold KO_X1_snapshotFits_0 at ok
  unfold KF_X1_snapshotFits_0 at hx
  refine c_aload_nQ dX1_snapshotFits_0 rfl rfl ?_
  refine c_iconst (v := nI 1) dX1_snapshotFits_1 (by decide) ?_
  refine c_SN2iE (y' := mX11_twoBytes) dX1_snapshotFits_2 lX1_69 kX11_twoBytes ⟨by decide, by decide⟩ (Nat.le_of_ble_eq_true rfl) (kc_X11_twoBytes hG hS t_x0 ok.1) ?_
  have ok := ok.2
  refine c_istore_1 dX1_snapshotFits_5 (by decide) (by simp [zok, zg, zcat_rf]) ?_
  refine c_iload_n dX1_snapshotFits_6 rfl rfl ?_
  refine c_iconst (v := nI 2) dX1_snapshotFits_7 (by decide) ?_
  refine c_icmp_lt (tgt := 17) dX1_snapshotFits_8 (by decide) (fun c_8 => ?_) (fun c_8 => ?_)
  · have ok := ok.1 c_8
    have hx := xif_p c_8 hx
    exact cX.cutz (kb_X1_snapshotFits_17 hG hR hS  ok hx) trivial
  · have ok := ok.2 c_8
    have hx := xif_n c_8 hx
    refine c_iload_n dX1_snapshotFits_11 rfl rfl ?_
    refine c_bipush (v := nI 41) dX1_snapshotFits_12 (by decide) ?_
    refine c_icmp_le (tgt := 19) dX1_snapshotFits_14 (by decide) (fun c_14 => ?_) (fun c_14 => ?_)
    · have ok := ok.1 c_14
      have hx := xif_p c_14 hx
      refine c_iconst (v := nI 0) dX1_snapshotFits_19 (by decide) ?_
      refine c_istore_2 dX1_snapshotFits_20 (by decide) rfl ?_
      refine c_bipush (v := nI 35) dX1_snapshotFits_21 (by decide) ?_
      refine c_istore_3 dX1_snapshotFits_23 (by decide) rfl ?_
      exact cX.cutz (kd_X1_snapshotFits_24 hG hR hS t_x0 ok hx) ⟨rfl, rfl, rfl, trivial⟩
    · have ok := ok.2 c_14
      have hx := xif_n c_14 hx
      exact cX.cutz (kb_X1_snapshotFits_17 hG hR hS  ok hx) trivial
def k_X1_snapshotFits (N g H T : Nat) (S : cS) (x0 : Option Nat) : Int32 := KF_X1_snapshotFits_0 N g H T x0 S
def p_X1_snapshotFits (N g H T : Nat) (S : cS) (x0 : Option Nat) : Prop := KO_X1_snapshotFits_0 N g H T x0 S
set_option maxRecDepth 100000 in
set_option maxHeartbeats 4000000 in
theorem kc_X1_snapshotFits {G : zG} {o : cO} {u g H T N : Nat} {S : cS} (hG : zOK G) {x0 : Option Nat} (hS : St u g H T S) (t_x0 : tK S 20 x0) (ok : p_X1_snapshotFits N g H T S x0) : cCi G o dX1_snapshotFits mX1_snapshotFits [va_rf x0] S (fun v S' => (v = k_X1_snapshotFits N g H T S x0 ∧ S' = S)) := by
  refine cC.ofX rfl (by cases x0 <;> exact Nat.le_of_ble_eq_true rfl) ?_
  rw [show zargs mX1_snapshotFits.2.2.1 [va_rf x0] = [some (va_rf x0), none, none, none] from by cases x0 <;> rfl]
  exact cX.cutz (kb_X1_snapshotFits_0 (X := fun F => F = k_X1_snapshotFits N g H T S x0) hG (fun v h => ⟨v, rfl, h, rfl⟩) hS t_x0 ok rfl) ⟨rfl, trivial⟩
/-! X1_fits -/
def KF_X1_fits_239 (N g H T : Nat) (s0 : Int32) (S : cS) : Int32 × cS := (s0, S)
def KO_X1_fits_239 (N g H T : Nat) (s0 : Int32) (S : cS) : Prop := narrow .boolean (.int s0) = .int s0
set_option maxRecDepth 100000 in
set_option maxHeartbeats 4000000 in
theorem kb_X1_fits_239 {G : zG} {o : cO} {u g H T N : Nat} {S : cS} {S0 : cS} {Q : Option Value → cS → Prop} {X : Int32 × cS → Prop} (hG : zOK G) (hR : ∀ v S', St u g H T S' → Mono S0 S' → X (v, S') → Q (some (.int v)) S') {s0 : Int32} (hS : St u g H T S) (hM : Mono S0 S) (ok : KO_X1_fits_239 N g H T s0 S) (hx : X (KF_X1_fits_239 N g H T s0 S)) : cX G o dX1_fits mX1_fits 239 [none, none, none] [.int s0] S Q := by
  unfold KO_X1_fits_239 at ok
  unfold KF_X1_fits_239 at hx
  exact c_ireturn rfl ok dX1_fits_239 (hR _ _ hS hM hx)
def KF_X1_fits_238 (N g H T : Nat)  (S : cS) : Int32 × cS := (KF_X1_fits_239 N g H T (nI 0) S)
def KO_X1_fits_238 (N g H T : Nat)  (S : cS) : Prop := KO_X1_fits_239 N g H T (nI 0) S
set_option maxRecDepth 100000 in
set_option maxHeartbeats 4000000 in
theorem kb_X1_fits_238 {G : zG} {o : cO} {u g H T N : Nat} {S : cS} {S0 : cS} {Q : Option Value → cS → Prop} {X : Int32 × cS → Prop} (hG : zOK G) (hR : ∀ v S', St u g H T S' → Mono S0 S' → X (v, S') → Q (some (.int v)) S') (hS : St u g H T S) (hM : Mono S0 S) (ok : KO_X1_fits_238 N g H T S) (hx : X (KF_X1_fits_238 N g H T S)) : cX G o dX1_fits mX1_fits 238 [none, none, none] [] S Q := by
  unfold KO_X1_fits_238 at ok
  unfold KF_X1_fits_238 at hx
  refine c_iconst (v := nI 0) dX1_fits_238 (by decide) ?_
  exact cX.cutz (kb_X1_fits_239 hG hR hS hM  ok hx) trivial
def KF_X1_fits_220 (N g H T : Nat) (s0 : Int32) (S : cS) : Int32 × cS := (s0, S)
def KO_X1_fits_220 (N g H T : Nat) (s0 : Int32) (S : cS) : Prop := narrow .boolean (.int s0) = .int s0
set_option maxRecDepth 100000 in
set_option maxHeartbeats 4000000 in
theorem kb_X1_fits_220 {G : zG} {o : cO} {u g H T N : Nat} {S : cS} {S0 : cS} {Q : Option Value → cS → Prop} {X : Int32 × cS → Prop} (hG : zOK G) (hR : ∀ v S', St u g H T S' → Mono S0 S' → X (v, S') → Q (some (.int v)) S') {s0 : Int32} (hS : St u g H T S) (hM : Mono S0 S) (ok : KO_X1_fits_220 N g H T s0 S) (hx : X (KF_X1_fits_220 N g H T s0 S)) : cX G o dX1_fits mX1_fits 220 [none, none, none] [.int s0] S Q := by
  unfold KO_X1_fits_220 at ok
  unfold KF_X1_fits_220 at hx
  exact c_ireturn rfl ok dX1_fits_220 (hR _ _ hS hM hx)
def KF_X1_fits_203 (N g H T : Nat) (s0 : Int32) (S : cS) : Int32 × cS := (s0, S)
def KO_X1_fits_203 (N g H T : Nat) (s0 : Int32) (S : cS) : Prop := narrow .boolean (.int s0) = .int s0
set_option maxRecDepth 100000 in
set_option maxHeartbeats 4000000 in
theorem kb_X1_fits_203 {G : zG} {o : cO} {u g H T N : Nat} {S : cS} {S0 : cS} {Q : Option Value → cS → Prop} {X : Int32 × cS → Prop} (hG : zOK G) (hR : ∀ v S', St u g H T S' → Mono S0 S' → X (v, S') → Q (some (.int v)) S') {s0 : Int32} (hS : St u g H T S) (hM : Mono S0 S) (ok : KO_X1_fits_203 N g H T s0 S) (hx : X (KF_X1_fits_203 N g H T s0 S)) : cX G o dX1_fits mX1_fits 203 [none, none, none] [.int s0] S Q := by
  unfold KO_X1_fits_203 at ok
  unfold KF_X1_fits_203 at hx
  exact c_ireturn rfl ok dX1_fits_203 (hR _ _ hS hM hx)
def KF_X1_fits_202 (N g H T : Nat)  (S : cS) : Int32 × cS := (KF_X1_fits_203 N g H T (nI 0) S)
def KO_X1_fits_202 (N g H T : Nat)  (S : cS) : Prop := KO_X1_fits_203 N g H T (nI 0) S
set_option maxRecDepth 100000 in
set_option maxHeartbeats 4000000 in
theorem kb_X1_fits_202 {G : zG} {o : cO} {u g H T N : Nat} {S : cS} {S0 : cS} {Q : Option Value → cS → Prop} {X : Int32 × cS → Prop} (hG : zOK G) (hR : ∀ v S', St u g H T S' → Mono S0 S' → X (v, S') → Q (some (.int v)) S') (hS : St u g H T S) (hM : Mono S0 S) (ok : KO_X1_fits_202 N g H T S) (hx : X (KF_X1_fits_202 N g H T S)) : cX G o dX1_fits mX1_fits 202 [none, none, none] [] S Q := by
  unfold KO_X1_fits_202 at ok
  unfold KF_X1_fits_202 at hx
  refine c_iconst (v := nI 0) dX1_fits_202 (by decide) ?_
  exact cX.cutz (kb_X1_fits_203 hG hR hS hM  ok hx) trivial
def KF_X1_fits_184 (N g H T : Nat) (s0 : Int32) (S : cS) : Int32 × cS := (s0, S)
def KO_X1_fits_184 (N g H T : Nat) (s0 : Int32) (S : cS) : Prop := narrow .boolean (.int s0) = .int s0
set_option maxRecDepth 100000 in
set_option maxHeartbeats 4000000 in
theorem kb_X1_fits_184 {G : zG} {o : cO} {u g H T N : Nat} {S : cS} {S0 : cS} {Q : Option Value → cS → Prop} {X : Int32 × cS → Prop} (hG : zOK G) (hR : ∀ v S', St u g H T S' → Mono S0 S' → X (v, S') → Q (some (.int v)) S') {s0 : Int32} (hS : St u g H T S) (hM : Mono S0 S) (ok : KO_X1_fits_184 N g H T s0 S) (hx : X (KF_X1_fits_184 N g H T s0 S)) : cX G o dX1_fits mX1_fits 184 [none, none, none] [.int s0] S Q := by
  unfold KO_X1_fits_184 at ok
  unfold KF_X1_fits_184 at hx
  exact c_ireturn rfl ok dX1_fits_184 (hR _ _ hS hM hx)
def KF_X1_fits_176 (N g H T : Nat) (s0 : Int32) (S : cS) : Int32 × cS := (s0, S)
def KO_X1_fits_176 (N g H T : Nat) (s0 : Int32) (S : cS) : Prop := narrow .boolean (.int s0) = .int s0
set_option maxRecDepth 100000 in
set_option maxHeartbeats 4000000 in
theorem kb_X1_fits_176 {G : zG} {o : cO} {u g H T N : Nat} {S : cS} {S0 : cS} {Q : Option Value → cS → Prop} {X : Int32 × cS → Prop} (hG : zOK G) (hR : ∀ v S', St u g H T S' → Mono S0 S' → X (v, S') → Q (some (.int v)) S') {s0 : Int32} (hS : St u g H T S) (hM : Mono S0 S) (ok : KO_X1_fits_176 N g H T s0 S) (hx : X (KF_X1_fits_176 N g H T s0 S)) : cX G o dX1_fits mX1_fits 176 [none, none, none] [.int s0] S Q := by
  unfold KO_X1_fits_176 at ok
  unfold KF_X1_fits_176 at hx
  exact c_ireturn rfl ok dX1_fits_176 (hR _ _ hS hM hx)
def KF_X1_fits_175 (N g H T : Nat)  (S : cS) : Int32 × cS := (KF_X1_fits_176 N g H T (nI 0) S)
def KO_X1_fits_175 (N g H T : Nat)  (S : cS) : Prop := KO_X1_fits_176 N g H T (nI 0) S
set_option maxRecDepth 100000 in
set_option maxHeartbeats 4000000 in
theorem kb_X1_fits_175 {G : zG} {o : cO} {u g H T N : Nat} {S : cS} {S0 : cS} {Q : Option Value → cS → Prop} {X : Int32 × cS → Prop} (hG : zOK G) (hR : ∀ v S', St u g H T S' → Mono S0 S' → X (v, S') → Q (some (.int v)) S') (hS : St u g H T S) (hM : Mono S0 S) (ok : KO_X1_fits_175 N g H T S) (hx : X (KF_X1_fits_175 N g H T S)) : cX G o dX1_fits mX1_fits 175 [none, none, none] [] S Q := by
  unfold KO_X1_fits_175 at ok
  unfold KF_X1_fits_175 at hx
  refine c_iconst (v := nI 0) dX1_fits_175 (by decide) ?_
  exact cX.cutz (kb_X1_fits_176 hG hR hS hM  ok hx) trivial
def KF_X1_fits_163 (N g H T : Nat) (x0 : Nat) (x1 : Option Nat) (S : cS) : Int32 × cS := (if (k_X1_signFits N g H T S x0 x1) = 0 then (KF_X1_fits_175 N g H T S) else (KF_X1_fits_176 N g H T (nI 1) S))
def KO_X1_fits_163 (N g H T : Nat) (x0 : Nat) (x1 : Option Nat) (S : cS) : Prop := (p_X1_signFits N g H T S x0 x1) ∧ (((k_X1_signFits N g H T S x0 x1) = 0 → KO_X1_fits_175 N g H T S) ∧ (¬ (k_X1_signFits N g H T S x0 x1) = 0 → KO_X1_fits_176 N g H T (nI 1) S))
set_option maxRecDepth 100000 in
set_option maxHeartbeats 4000000 in
theorem kb_X1_fits_163 {G : zG} {o : cO} {u g H T N : Nat} {S : cS} {S0 : cS} {Q : Option Value → cS → Prop} {X : Int32 × cS → Prop} (hG : zOK G) (hR : ∀ v S', St u g H T S' → Mono S0 S' → X (v, S') → Q (some (.int v)) S') {x0 : Nat} {x1 : Option Nat} (hS : St u g H T S) (hM : Mono S0 S) (t_x0 : isO g H 1 x0) (t_x1 : tK S 20 x1) (ok : KO_X1_fits_163 N g H T x0 x1 S) (hx : X (KF_X1_fits_163 N g H T x0 x1 S)) : cX G o dX1_fits mX1_fits 163 [some (va_rf (some x0)), some (va_rf x1), none] [] S Q := by
  unfold KO_X1_fits_163 at ok
  unfold KF_X1_fits_163 at hx
  refine c_aload_nQ dX1_fits_163 rfl rfl ?_
  refine c_aload_nQ dX1_fits_164 rfl rfl ?_
  refine c_V1iE (ci := 1) (rr := (RX1, TX1, 3)) (y' := mX1_signFits) dX1_fits_165 lX1_65 kX1_signFits ⟨by decide, by decide⟩ rfl rfl (by decide) (hS.k t_x0) (Nat.le_of_ble_eq_true rfl) (kc_X1_signFits hG hS t_x0 t_x1 ok.1) ?_
  have ok := ok.2
  refine c_if_eq (tgt := 175) dX1_fits_168 (by decide) (fun c_168 => ?_) (fun c_168 => ?_)
  · have ok := ok.1 c_168
    have hx := xif_p c_168 hx
    exact cX.cutz (kb_X1_fits_175 hG hR hS hM  ok hx) trivial
  · have ok := ok.2 c_168
    have hx := xif_n c_168 hx
    refine c_iconst (v := nI 1) dX1_fits_171 (by decide) ?_
    refine c_goto (tgt := 176) dX1_fits_172 (by decide) ?_
    exact cX.cutz (kb_X1_fits_176 hG hR hS hM  ok hx) trivial
def KF_X1_fits_150 (N g H T : Nat) (x0 : Nat) (x1 : Option Nat) (x2 : Int32) (S : cS) : Int32 × cS := (if x2 = (nI 38) then (if (cA S (za x1) (nI 5).toNatClampNeg) = (nI 1) then (KF_X1_fits_163 N g H T x0 x1 S) else (KF_X1_fits_175 N g H T S)) else (KF_X1_fits_175 N g H T S))
def KO_X1_fits_150 (N g H T : Nat) (x0 : Nat) (x1 : Option Nat) (x2 : Int32) (S : cS) : Prop := ((x2 = (nI 38) → (¬ x1 = none ∧ vp_in (nI 5) (cL S (za x1))) ∧ (((cA S (za x1) (nI 5).toNatClampNeg) = (nI 1) → KO_X1_fits_163 N g H T x0 x1 S) ∧ (¬ (cA S (za x1) (nI 5).toNatClampNeg) = (nI 1) → KO_X1_fits_175 N g H T S))) ∧ (¬ x2 = (nI 38) → KO_X1_fits_175 N g H T S))
set_option maxRecDepth 100000 in
set_option maxHeartbeats 4000000 in
theorem kb_X1_fits_150 {G : zG} {o : cO} {u g H T N : Nat} {S : cS} {S0 : cS} {Q : Option Value → cS → Prop} {X : Int32 × cS → Prop} (hG : zOK G) (hR : ∀ v S', St u g H T S' → Mono S0 S' → X (v, S') → Q (some (.int v)) S') {x0 : Nat} {x1 : Option Nat} {x2 : Int32} (hS : St u g H T S) (hM : Mono S0 S) (t_x0 : isO g H 1 x0) (t_x1 : tK S 20 x1) (ok : KO_X1_fits_150 N g H T x0 x1 x2 S) (hx : X (KF_X1_fits_150 N g H T x0 x1 x2 S)) : cX G o dX1_fits mX1_fits 150 [some (va_rf (some x0)), some (va_rf x1), some (.int x2)] [] S Q := by
  unfold KO_X1_fits_150 at ok
  unfold KF_X1_fits_150 at hx
  refine c_iload_n dX1_fits_150 rfl rfl ?_
  refine c_bipush (v := nI 38) dX1_fits_151 (by decide) ?_
  refine c_icmp_ne (tgt := 175) dX1_fits_153 (by decide) (fun c_153 => ?_) (fun c_153 => ?_)
  · have ok := ok.2 c_153
    have hx := xif_n c_153 hx
    exact cX.cutz (kb_X1_fits_175 hG hR hS hM  ok hx) trivial
  · have ok := ok.1 c_153
    have hx := xif_p c_153 hx
    refine c_aload_nQ dX1_fits_156 rfl rfl ?_
    refine c_iconst (v := nI 5) dX1_fits_157 (by decide) ?_
    refine c_bald dX1_fits_158 ⟨(tK.cis t_x1 ok.1.1), ok.1.2⟩ ?_
    have ok := ok.2
    refine c_iconst (v := nI 1) dX1_fits_159 (by decide) ?_
    refine c_icmp_ne (tgt := 175) dX1_fits_160 (by decide) (fun c_160 => ?_) (fun c_160 => ?_)
    · have ok := ok.2 c_160
      have hx := xif_n c_160 hx
      exact cX.cutz (kb_X1_fits_175 hG hR hS hM  ok hx) trivial
    · have ok := ok.1 c_160
      have hx := xif_p c_160 hx
      exact cX.cutz (kb_X1_fits_163 hG hR hS hM t_x0 t_x1 ok hx) ⟨rfl, rfl, trivial⟩
def KF_X1_fits_137 (N g H T : Nat) (s0 : Int32) (S : cS) : Int32 × cS := (s0, S)
def KO_X1_fits_137 (N g H T : Nat) (s0 : Int32) (S : cS) : Prop := narrow .boolean (.int s0) = .int s0
set_option maxRecDepth 100000 in
set_option maxHeartbeats 4000000 in
theorem kb_X1_fits_137 {G : zG} {o : cO} {u g H T N : Nat} {S : cS} {S0 : cS} {Q : Option Value → cS → Prop} {X : Int32 × cS → Prop} (hG : zOK G) (hR : ∀ v S', St u g H T S' → Mono S0 S' → X (v, S') → Q (some (.int v)) S') {s0 : Int32} (hS : St u g H T S) (hM : Mono S0 S) (ok : KO_X1_fits_137 N g H T s0 S) (hx : X (KF_X1_fits_137 N g H T s0 S)) : cX G o dX1_fits mX1_fits 137 [none, none, none] [.int s0] S Q := by
  unfold KO_X1_fits_137 at ok
  unfold KF_X1_fits_137 at hx
  exact c_ireturn rfl ok dX1_fits_137 (hR _ _ hS hM hx)
def KF_X1_fits_136 (N g H T : Nat)  (S : cS) : Int32 × cS := (KF_X1_fits_137 N g H T (nI 0) S)
def KO_X1_fits_136 (N g H T : Nat)  (S : cS) : Prop := KO_X1_fits_137 N g H T (nI 0) S
set_option maxRecDepth 100000 in
set_option maxHeartbeats 4000000 in
theorem kb_X1_fits_136 {G : zG} {o : cO} {u g H T N : Nat} {S : cS} {S0 : cS} {Q : Option Value → cS → Prop} {X : Int32 × cS → Prop} (hG : zOK G) (hR : ∀ v S', St u g H T S' → Mono S0 S' → X (v, S') → Q (some (.int v)) S') (hS : St u g H T S) (hM : Mono S0 S) (ok : KO_X1_fits_136 N g H T S) (hx : X (KF_X1_fits_136 N g H T S)) : cX G o dX1_fits mX1_fits 136 [none, none, none] [] S Q := by
  unfold KO_X1_fits_136 at ok
  unfold KF_X1_fits_136 at hx
  refine c_iconst (v := nI 0) dX1_fits_136 (by decide) ?_
  exact cX.cutz (kb_X1_fits_137 hG hR hS hM  ok hx) trivial
def KF_X1_fits_129 (N g H T : Nat) (s0 : Int32) (S : cS) : Int32 × cS := (if s0 = 0 then (KF_X1_fits_136 N g H T S) else (KF_X1_fits_137 N g H T (nI 1) S))
def KO_X1_fits_129 (N g H T : Nat) (s0 : Int32) (S : cS) : Prop := ((s0 = 0 → KO_X1_fits_136 N g H T S) ∧ (¬ s0 = 0 → KO_X1_fits_137 N g H T (nI 1) S))
set_option maxRecDepth 100000 in
set_option maxHeartbeats 4000000 in
theorem kb_X1_fits_129 {G : zG} {o : cO} {u g H T N : Nat} {S : cS} {S0 : cS} {Q : Option Value → cS → Prop} {X : Int32 × cS → Prop} (hG : zOK G) (hR : ∀ v S', St u g H T S' → Mono S0 S' → X (v, S') → Q (some (.int v)) S') {s0 : Int32} (hS : St u g H T S) (hM : Mono S0 S) (ok : KO_X1_fits_129 N g H T s0 S) (hx : X (KF_X1_fits_129 N g H T s0 S)) : cX G o dX1_fits mX1_fits 129 [none, none, none] [.int s0] S Q := by
  unfold KO_X1_fits_129 at ok
  unfold KF_X1_fits_129 at hx
  refine c_if_eq (tgt := 136) dX1_fits_129 (by decide) (fun c_129 => ?_) (fun c_129 => ?_)
  · have ok := ok.1 c_129
    have hx := xif_p c_129 hx
    exact cX.cutz (kb_X1_fits_136 hG hR hS hM  ok hx) trivial
  · have ok := ok.2 c_129
    have hx := xif_n c_129 hx
    refine c_iconst (v := nI 1) dX1_fits_132 (by decide) ?_
    refine c_goto (tgt := 137) dX1_fits_133 (by decide) ?_
    exact cX.cutz (kb_X1_fits_137 hG hR hS hM  ok hx) trivial
def KF_X1_fits_107 (N g H T : Nat) (x0 : Nat) (x1 : Option Nat) (x2 : Int32) (S : cS) : Int32 × cS := (if (k_X11_twoBytes N g H T S x1 (nI 2)) = (k_X11_twoBytes N g H T S x1 (nI 6)) then (KF_X1_fits_129 N g H T ((k_X1_blockFits N g H T S x0 x1 (nI 6) x2).1) (k_X1_blockFits N g H T S x0 x1 (nI 6) x2).2) else (KF_X1_fits_136 N g H T S))
def KO_X1_fits_107 (N g H T : Nat) (x0 : Nat) (x1 : Option Nat) (x2 : Int32) (S : cS) : Prop := (p_X11_twoBytes N g H T S x1 (nI 2)) ∧ (p_X11_twoBytes N g H T S x1 (nI 6)) ∧ (((k_X11_twoBytes N g H T S x1 (nI 2)) = (k_X11_twoBytes N g H T S x1 (nI 6)) → (p_X1_blockFits N g H T S x0 x1 (nI 6) x2) ∧ KO_X1_fits_129 N g H T ((k_X1_blockFits N g H T S x0 x1 (nI 6) x2).1) (k_X1_blockFits N g H T S x0 x1 (nI 6) x2).2) ∧ (¬ (k_X11_twoBytes N g H T S x1 (nI 2)) = (k_X11_twoBytes N g H T S x1 (nI 6)) → KO_X1_fits_136 N g H T S))
set_option maxRecDepth 100000 in
set_option maxHeartbeats 4000000 in
theorem kb_X1_fits_107 {G : zG} {o : cO} {u g H T N : Nat} {S : cS} {S0 : cS} {Q : Option Value → cS → Prop} {X : Int32 × cS → Prop} (hG : zOK G) (hR : ∀ v S', St u g H T S' → Mono S0 S' → X (v, S') → Q (some (.int v)) S') {x0 : Nat} {x1 : Option Nat} {x2 : Int32} (hS : St u g H T S) (hM : Mono S0 S) (t_x0 : isO g H 1 x0) (t_x1 : tK S 20 x1) (ok : KO_X1_fits_107 N g H T x0 x1 x2 S) (hx : X (KF_X1_fits_107 N g H T x0 x1 x2 S)) : cX G o dX1_fits mX1_fits 107 [some (va_rf (some x0)), some (va_rf x1), some (.int x2)] [] S Q := by
  unfold KO_X1_fits_107 at ok
  unfold KF_X1_fits_107 at hx
  refine c_aload_nQ dX1_fits_107 rfl rfl ?_
  refine c_iconst (v := nI 2) dX1_fits_108 (by decide) ?_
  refine c_SN2iE (y' := mX11_twoBytes) dX1_fits_109 lX1_69 kX11_twoBytes ⟨by decide, by decide⟩ (Nat.le_of_ble_eq_true rfl) (kc_X11_twoBytes hG hS t_x1 ok.1) ?_
  have ok := ok.2
  refine c_aload_nQ dX1_fits_112 rfl rfl ?_
  refine c_bipush (v := nI 6) dX1_fits_113 (by decide) ?_
  refine c_SN2iE (y' := mX11_twoBytes) dX1_fits_115 lX1_69 kX11_twoBytes ⟨by decide, by decide⟩ (Nat.le_of_ble_eq_true rfl) (kc_X11_twoBytes hG hS t_x1 ok.1) ?_
  have ok := ok.2
  refine c_icmp_ne (tgt := 136) dX1_fits_118 (by decide) (fun c_118 => ?_) (fun c_118 => ?_)
  · have ok := ok.2 c_118
    have hx := xif_n c_118 hx
    exact cX.cutz (kb_X1_fits_136 hG hR hS hM  ok hx) trivial
  · have ok := ok.1 c_118
    have hx := xif_p c_118 hx
    refine c_aload_nQ dX1_fits_121 rfl rfl ?_
    refine c_aload_nQ dX1_fits_122 rfl rfl ?_
    refine c_bipush (v := nI 6) dX1_fits_123 (by decide) ?_
    refine c_iload_n dX1_fits_125 rfl rfl ?_
    refine c_V3iK (ci := 1) (rr := (RX1, TX1, 3)) (y' := mX1_blockFits) dX1_fits_126 lX1_73 kX1_blockFits ⟨by decide, by decide⟩ rfl rfl (by decide) (hS.k t_x0) (Nat.le_of_ble_eq_true rfl) (kc_X1_blockFits hG hS t_x0 t_x1 ok.1) (fun ⟨hS, hm_126⟩ => ?_)
    have hM := hM.trans hm_126
    have ok := ok.2
    exact cX.cutz (kb_X1_fits_129 hG hR hS hM  ok hx) trivial
def KF_X1_fits_67 (N g H T : Nat) (s0 : Int32) (S : cS) : Int32 × cS := (s0, S)
def KO_X1_fits_67 (N g H T : Nat) (s0 : Int32) (S : cS) : Prop := narrow .boolean (.int s0) = .int s0
set_option maxRecDepth 100000 in
set_option maxHeartbeats 4000000 in
theorem kb_X1_fits_67 {G : zG} {o : cO} {u g H T N : Nat} {S : cS} {S0 : cS} {Q : Option Value → cS → Prop} {X : Int32 × cS → Prop} (hG : zOK G) (hR : ∀ v S', St u g H T S' → Mono S0 S' → X (v, S') → Q (some (.int v)) S') {s0 : Int32} (hS : St u g H T S) (hM : Mono S0 S) (ok : KO_X1_fits_67 N g H T s0 S) (hx : X (KF_X1_fits_67 N g H T s0 S)) : cX G o dX1_fits mX1_fits 67 [none, none, none] [.int s0] S Q := by
  unfold KO_X1_fits_67 at ok
  unfold KF_X1_fits_67 at hx
  exact c_ireturn rfl ok dX1_fits_67 (hR _ _ hS hM hx)
def KF_X1_fits_66 (N g H T : Nat)  (S : cS) : Int32 × cS := (KF_X1_fits_67 N g H T (nI 0) S)
def KO_X1_fits_66 (N g H T : Nat)  (S : cS) : Prop := KO_X1_fits_67 N g H T (nI 0) S
set_option maxRecDepth 100000 in
set_option maxHeartbeats 4000000 in
theorem kb_X1_fits_66 {G : zG} {o : cO} {u g H T N : Nat} {S : cS} {S0 : cS} {Q : Option Value → cS → Prop} {X : Int32 × cS → Prop} (hG : zOK G) (hR : ∀ v S', St u g H T S' → Mono S0 S' → X (v, S') → Q (some (.int v)) S') (hS : St u g H T S) (hM : Mono S0 S) (ok : KO_X1_fits_66 N g H T S) (hx : X (KF_X1_fits_66 N g H T S)) : cX G o dX1_fits mX1_fits 66 [none, none, none] [] S Q := by
  unfold KO_X1_fits_66 at ok
  unfold KF_X1_fits_66 at hx
  refine c_iconst (v := nI 0) dX1_fits_66 (by decide) ?_
  exact cX.cutz (kb_X1_fits_67 hG hR hS hM  ok hx) trivial
def KF_X1_fits_0 (N g H T : Nat) (x0 : Nat) (x1 : Option Nat) (x2 : Int32) (S : cS) : Int32 × cS := (if (cA S (za x1) (nI 0).toNatClampNeg) = nI 0 then (if x2 = (nI 8) then (if (k_X1_paymentFits N g H T S x1 (nI 1)) = 0 then (KF_X1_fits_66 N g H T S) else (KF_X1_fits_67 N g H T (nI 1) S)) else (KF_X1_fits_66 N g H T S)) else (if (cA S (za x1) (nI 0).toNatClampNeg) = nI 1 then (if x2 < (nI 107) then (KF_X1_fits_136 N g H T S) else (if (k_X1_signFits N g H T S x0 x1) = 0 then (KF_X1_fits_136 N g H T S) else (if ((cA S (za x1) (nI 5).toNatClampNeg) &&& (nI 255)) < (nI 16) then (KF_X1_fits_107 N g H T x0 x1 x2 S) else (if ((cA S (za x1) (nI 5).toNatClampNeg) &&& (nI 255)) = (nI 255) then (KF_X1_fits_107 N g H T x0 x1 x2 S) else (KF_X1_fits_136 N g H T S))))) else (if (cA S (za x1) (nI 0).toNatClampNeg) = nI 2 then (if x2 = (nI 6) then (if (cA S (za x1) (nI 5).toNatClampNeg) = 0 then (KF_X1_fits_163 N g H T x0 x1 S) else (KF_X1_fits_150 N g H T x0 x1 x2 S)) else (KF_X1_fits_150 N g H T x0 x1 x2 S)) else (if (cA S (za x1) (nI 0).toNatClampNeg) = nI 3 then (if x2 = (nI 6) then (if (cA S (za x1) (nI 5).toNatClampNeg) = 0 then (KF_X1_fits_163 N g H T x0 x1 S) else (KF_X1_fits_150 N g H T x0 x1 x2 S)) else (KF_X1_fits_150 N g H T x0 x1 x2 S)) else (if (cA S (za x1) (nI 0).toNatClampNeg) = nI 4 then (KF_X1_fits_184 N g H T ((k_X1_blockFits N g H T S x0 x1 (nI 1) x2).1) (k_X1_blockFits N g H T S x0 x1 (nI 1) x2).2) else (if (cA S (za x1) (nI 0).toNatClampNeg) = nI 5 then (if x2 = (nI 3) then (if (k_X1_heightFits N g H T S x1 (nI 1)) = 0 then (KF_X1_fits_202 N g H T S) else (KF_X1_fits_203 N g H T (nI 1) S)) else (KF_X1_fits_202 N g H T S)) else (if (cA S (za x1) (nI 0).toNatClampNeg) = nI 6 then (if (k_X1_evidenceFits N g H T S x0 x1 (nI 1) x2) = x2 then (KF_X1_fits_220 N g H T (nI 1) S) else (KF_X1_fits_220 N g H T (nI 0) S)) else (if (cA S (za x1) (nI 0).toNatClampNeg) = nI 7 then (if x2 = (nI 115) then (if (k_X1_snapshotFits N g H T S x1) = 0 then (KF_X1_fits_238 N g H T S) else (KF_X1_fits_239 N g H T (nI 1) S)) else (KF_X1_fits_238 N g H T S)) else ((nI 0), S)))))))))
def KO_X1_fits_0 (N g H T : Nat) (x0 : Nat) (x1 : Option Nat) (x2 : Int32) (S : cS) : Prop := (¬ x1 = none ∧ vp_in (nI 0) (cL S (za x1))) ∧ (((cA S (za x1) (nI 0).toNatClampNeg) = nI 0 → ((x2 = (nI 8) → (p_X1_paymentFits N g H T S x1 (nI 1)) ∧ (((k_X1_paymentFits N g H T S x1 (nI 1)) = 0 → KO_X1_fits_66 N g H T S) ∧ (¬ (k_X1_paymentFits N g H T S x1 (nI 1)) = 0 → KO_X1_fits_67 N g H T (nI 1) S))) ∧ (¬ x2 = (nI 8) → KO_X1_fits_66 N g H T S))) ∧ (¬ (cA S (za x1) (nI 0).toNatClampNeg) = nI 0 → (((cA S (za x1) (nI 0).toNatClampNeg) = nI 1 → ((x2 < (nI 107) → KO_X1_fits_136 N g H T S) ∧ (¬ x2 < (nI 107) → (p_X1_signFits N g H T S x0 x1) ∧ (((k_X1_signFits N g H T S x0 x1) = 0 → KO_X1_fits_136 N g H T S) ∧ (¬ (k_X1_signFits N g H T S x0 x1) = 0 → (¬ x1 = none ∧ vp_in (nI 5) (cL S (za x1))) ∧ ((((cA S (za x1) (nI 5).toNatClampNeg) &&& (nI 255)) < (nI 16) → KO_X1_fits_107 N g H T x0 x1 x2 S) ∧ (¬ ((cA S (za x1) (nI 5).toNatClampNeg) &&& (nI 255)) < (nI 16) → (¬ x1 = none ∧ vp_in (nI 5) (cL S (za x1))) ∧ ((((cA S (za x1) (nI 5).toNatClampNeg) &&& (nI 255)) = (nI 255) → KO_X1_fits_107 N g H T x0 x1 x2 S) ∧ (¬ ((cA S (za x1) (nI 5).toNatClampNeg) &&& (nI 255)) = (nI 255) → KO_X1_fits_136 N g H T S))))))))) ∧ (¬ (cA S (za x1) (nI 0).toNatClampNeg) = nI 1 → (((cA S (za x1) (nI 0).toNatClampNeg) = nI 2 → ((x2 = (nI 6) → (¬ x1 = none ∧ vp_in (nI 5) (cL S (za x1))) ∧ (((cA S (za x1) (nI 5).toNatClampNeg) = 0 → KO_X1_fits_163 N g H T x0 x1 S) ∧ (¬ (cA S (za x1) (nI 5).toNatClampNeg) = 0 → KO_X1_fits_150 N g H T x0 x1 x2 S))) ∧ (¬ x2 = (nI 6) → KO_X1_fits_150 N g H T x0 x1 x2 S))) ∧ (¬ (cA S (za x1) (nI 0).toNatClampNeg) = nI 2 → (((cA S (za x1) (nI 0).toNatClampNeg) = nI 3 → ((x2 = (nI 6) → (¬ x1 = none ∧ vp_in (nI 5) (cL S (za x1))) ∧ (((cA S (za x1) (nI 5).toNatClampNeg) = 0 → KO_X1_fits_163 N g H T x0 x1 S) ∧ (¬ (cA S (za x1) (nI 5).toNatClampNeg) = 0 → KO_X1_fits_150 N g H T x0 x1 x2 S))) ∧ (¬ x2 = (nI 6) → KO_X1_fits_150 N g H T x0 x1 x2 S))) ∧ (¬ (cA S (za x1) (nI 0).toNatClampNeg) = nI 3 → (((cA S (za x1) (nI 0).toNatClampNeg) = nI 4 → (p_X1_blockFits N g H T S x0 x1 (nI 1) x2) ∧ KO_X1_fits_184 N g H T ((k_X1_blockFits N g H T S x0 x1 (nI 1) x2).1) (k_X1_blockFits N g H T S x0 x1 (nI 1) x2).2) ∧ (¬ (cA S (za x1) (nI 0).toNatClampNeg) = nI 4 → (((cA S (za x1) (nI 0).toNatClampNeg) = nI 5 → ((x2 = (nI 3) → (p_X1_heightFits N g H T S x1 (nI 1)) ∧ (((k_X1_heightFits N g H T S x1 (nI 1)) = 0 → KO_X1_fits_202 N g H T S) ∧ (¬ (k_X1_heightFits N g H T S x1 (nI 1)) = 0 → KO_X1_fits_203 N g H T (nI 1) S))) ∧ (¬ x2 = (nI 3) → KO_X1_fits_202 N g H T S))) ∧ (¬ (cA S (za x1) (nI 0).toNatClampNeg) = nI 5 → (((cA S (za x1) (nI 0).toNatClampNeg) = nI 6 → (p_X1_evidenceFits N g H T S x0 x1 (nI 1) x2) ∧ (((k_X1_evidenceFits N g H T S x0 x1 (nI 1) x2) = x2 → KO_X1_fits_220 N g H T (nI 1) S) ∧ (¬ (k_X1_evidenceFits N g H T S x0 x1 (nI 1) x2) = x2 → KO_X1_fits_220 N g H T (nI 0) S))) ∧ (¬ (cA S (za x1) (nI 0).toNatClampNeg) = nI 6 → (((cA S (za x1) (nI 0).toNatClampNeg) = nI 7 → ((x2 = (nI 115) → (p_X1_snapshotFits N g H T S x1) ∧ (((k_X1_snapshotFits N g H T S x1) = 0 → KO_X1_fits_238 N g H T S) ∧ (¬ (k_X1_snapshotFits N g H T S x1) = 0 → KO_X1_fits_239 N g H T (nI 1) S))) ∧ (¬ x2 = (nI 115) → KO_X1_fits_238 N g H T S))) ∧ (¬ (cA S (za x1) (nI 0).toNatClampNeg) = nI 7 → True))))))))))))))))
set_option maxRecDepth 100000 in
set_option maxHeartbeats 4000000 in
theorem kb_X1_fits_0 {G : zG} {o : cO} {u g H T N : Nat} {S : cS} {S0 : cS} {Q : Option Value → cS → Prop} {X : Int32 × cS → Prop} (hG : zOK G) (hR : ∀ v S', St u g H T S' → Mono S0 S' → X (v, S') → Q (some (.int v)) S') {x0 : Nat} {x1 : Option Nat} {x2 : Int32} (hS : St u g H T S) (hM : Mono S0 S) (t_x0 : isO g H 1 x0) (t_x1 : tK S 20 x1) (ok : KO_X1_fits_0 N g H T x0 x1 x2 S) (hx : X (KF_X1_fits_0 N g H T x0 x1 x2 S)) : cX G o dX1_fits mX1_fits 0 [some (va_rf (some x0)), some (va_rf x1), some (.int x2)] [] S Q := by
  unfold KO_X1_fits_0 at ok
  unfold KF_X1_fits_0 at hx
  refine c_aload_nQ dX1_fits_0 rfl rfl ?_
  refine c_iconst (v := nI 0) dX1_fits_1 (by decide) ?_
  refine c_bald dX1_fits_2 ⟨(tK.cis t_x1 ok.1.1), ok.1.2⟩ ?_
  have ok := ok.2
  by_cases c_3_0 : (cA S (za x1) (nI 0).toNatClampNeg) = nI 0
  · have ok := ok.1 c_3_0
    have hx := xif_p c_3_0 hx
    refine c_tableIn (off := 45) (tgt := 48) dX1_fits_3 (by rw [c_3_0]; decide) (by rw [c_3_0]; decide) (by rw [c_3_0]; rfl) (by decide) ?_
    refine c_iload_n dX1_fits_48 rfl rfl ?_
    refine c_bipush (v := nI 8) dX1_fits_49 (by decide) ?_
    refine c_icmp_ne (tgt := 66) dX1_fits_51 (by decide) (fun c_51 => ?_) (fun c_51 => ?_)
    · have ok := ok.2 c_51
      have hx := xif_n c_51 hx
      exact cX.cutz (kb_X1_fits_66 hG hR hS hM  ok hx) trivial
    · have ok := ok.1 c_51
      have hx := xif_p c_51 hx
      refine c_aload_nQ dX1_fits_54 rfl rfl ?_
      refine c_iconst (v := nI 1) dX1_fits_55 (by decide) ?_
      refine c_S2iE (y' := mX1_paymentFits) dX1_fits_56 lX1_62 kX1_paymentFits ⟨by decide, by decide⟩ (Nat.le_of_ble_eq_true rfl) (kc_X1_paymentFits hG hS t_x1 ok.1) ?_
      have ok := ok.2
      refine c_if_eq (tgt := 66) dX1_fits_59 (by decide) (fun c_59 => ?_) (fun c_59 => ?_)
      · have ok := ok.1 c_59
        have hx := xif_p c_59 hx
        exact cX.cutz (kb_X1_fits_66 hG hR hS hM  ok hx) trivial
      · have ok := ok.2 c_59
        have hx := xif_n c_59 hx
        refine c_iconst (v := nI 1) dX1_fits_62 (by decide) ?_
        refine c_goto (tgt := 67) dX1_fits_63 (by decide) ?_
        exact cX.cutz (kb_X1_fits_67 hG hR hS hM  ok hx) trivial
  · have ok := ok.2 c_3_0
    have hx := xif_n c_3_0 hx
    by_cases c_3_1 : (cA S (za x1) (nI 0).toNatClampNeg) = nI 1
    · have ok := ok.1 c_3_1
      have hx := xif_p c_3_1 hx
      refine c_tableIn (off := 65) (tgt := 68) dX1_fits_3 (by rw [c_3_1]; decide) (by rw [c_3_1]; decide) (by rw [c_3_1]; rfl) (by decide) ?_
      refine c_iload_n dX1_fits_68 rfl rfl ?_
      refine c_bipush (v := nI 107) dX1_fits_69 (by decide) ?_
      refine c_icmp_lt (tgt := 136) dX1_fits_71 (by decide) (fun c_71 => ?_) (fun c_71 => ?_)
      · have ok := ok.1 c_71
        have hx := xif_p c_71 hx
        exact cX.cutz (kb_X1_fits_136 hG hR hS hM  ok hx) trivial
      · have ok := ok.2 c_71
        have hx := xif_n c_71 hx
        refine c_aload_nQ dX1_fits_74 rfl rfl ?_
        refine c_aload_nQ dX1_fits_75 rfl rfl ?_
        refine c_V1iE (ci := 1) (rr := (RX1, TX1, 3)) (y' := mX1_signFits) dX1_fits_76 lX1_65 kX1_signFits ⟨by decide, by decide⟩ rfl rfl (by decide) (hS.k t_x0) (Nat.le_of_ble_eq_true rfl) (kc_X1_signFits hG hS t_x0 t_x1 ok.1) ?_
        have ok := ok.2
        refine c_if_eq (tgt := 136) dX1_fits_79 (by decide) (fun c_79 => ?_) (fun c_79 => ?_)
        · have ok := ok.1 c_79
          have hx := xif_p c_79 hx
          exact cX.cutz (kb_X1_fits_136 hG hR hS hM  ok hx) trivial
        · have ok := ok.2 c_79
          have hx := xif_n c_79 hx
          refine c_aload_nQ dX1_fits_82 rfl rfl ?_
          refine c_iconst (v := nI 5) dX1_fits_83 (by decide) ?_
          refine c_bald dX1_fits_84 ⟨(tK.cis t_x1 ok.1.1), ok.1.2⟩ ?_
          have ok := ok.2
          refine c_sipush (v := nI 255) dX1_fits_85 (by decide) ?_
          refine c_iand dX1_fits_88 ?_
          refine c_bipush (v := nI 16) dX1_fits_89 (by decide) ?_
          refine c_icmp_lt (tgt := 107) dX1_fits_91 (by decide) (fun c_91 => ?_) (fun c_91 => ?_)
          · have ok := ok.1 c_91
            have hx := xif_p c_91 hx
            exact cX.cutz (kb_X1_fits_107 hG hR hS hM t_x0 t_x1 ok hx) ⟨rfl, rfl, rfl, trivial⟩
          · have ok := ok.2 c_91
            have hx := xif_n c_91 hx
            refine c_aload_nQ dX1_fits_94 rfl rfl ?_
            refine c_iconst (v := nI 5) dX1_fits_95 (by decide) ?_
            refine c_bald dX1_fits_96 ⟨(tK.cis t_x1 ok.1.1), ok.1.2⟩ ?_
            have ok := ok.2
            refine c_sipush (v := nI 255) dX1_fits_97 (by decide) ?_
            refine c_iand dX1_fits_100 ?_
            refine c_sipush (v := nI 255) dX1_fits_101 (by decide) ?_
            refine c_icmp_ne (tgt := 136) dX1_fits_104 (by decide) (fun c_104 => ?_) (fun c_104 => ?_)
            · have ok := ok.2 c_104
              have hx := xif_n c_104 hx
              exact cX.cutz (kb_X1_fits_136 hG hR hS hM  ok hx) trivial
            · have ok := ok.1 c_104
              have hx := xif_p c_104 hx
              exact cX.cutz (kb_X1_fits_107 hG hR hS hM t_x0 t_x1 ok hx) ⟨rfl, rfl, rfl, trivial⟩
    · have ok := ok.2 c_3_1
      have hx := xif_n c_3_1 hx
      by_cases c_3_2 : (cA S (za x1) (nI 0).toNatClampNeg) = nI 2
      · have ok := ok.1 c_3_2
        have hx := xif_p c_3_2 hx
        refine c_tableIn (off := 135) (tgt := 138) dX1_fits_3 (by rw [c_3_2]; decide) (by rw [c_3_2]; decide) (by rw [c_3_2]; rfl) (by decide) ?_
        refine c_iload_n dX1_fits_138 rfl rfl ?_
        refine c_bipush (v := nI 6) dX1_fits_139 (by decide) ?_
        refine c_icmp_ne (tgt := 150) dX1_fits_141 (by decide) (fun c_141 => ?_) (fun c_141 => ?_)
        · have ok := ok.2 c_141
          have hx := xif_n c_141 hx
          exact cX.cutz (kb_X1_fits_150 hG hR hS hM t_x0 t_x1 ok hx) ⟨rfl, rfl, rfl, trivial⟩
        · have ok := ok.1 c_141
          have hx := xif_p c_141 hx
          refine c_aload_nQ dX1_fits_144 rfl rfl ?_
          refine c_iconst (v := nI 5) dX1_fits_145 (by decide) ?_
          refine c_bald dX1_fits_146 ⟨(tK.cis t_x1 ok.1.1), ok.1.2⟩ ?_
          have ok := ok.2
          refine c_if_eq (tgt := 163) dX1_fits_147 (by decide) (fun c_147 => ?_) (fun c_147 => ?_)
          · have ok := ok.1 c_147
            have hx := xif_p c_147 hx
            exact cX.cutz (kb_X1_fits_163 hG hR hS hM t_x0 t_x1 ok hx) ⟨rfl, rfl, trivial⟩
          · have ok := ok.2 c_147
            have hx := xif_n c_147 hx
            exact cX.cutz (kb_X1_fits_150 hG hR hS hM t_x0 t_x1 ok hx) ⟨rfl, rfl, rfl, trivial⟩
      · have ok := ok.2 c_3_2
        have hx := xif_n c_3_2 hx
        by_cases c_3_3 : (cA S (za x1) (nI 0).toNatClampNeg) = nI 3
        · have ok := ok.1 c_3_3
          have hx := xif_p c_3_3 hx
          refine c_tableIn (off := 135) (tgt := 138) dX1_fits_3 (by rw [c_3_3]; decide) (by rw [c_3_3]; decide) (by rw [c_3_3]; rfl) (by decide) ?_
          refine c_iload_n dX1_fits_138 rfl rfl ?_
          refine c_bipush (v := nI 6) dX1_fits_139 (by decide) ?_
          refine c_icmp_ne (tgt := 150) dX1_fits_141 (by decide) (fun c_141 => ?_) (fun c_141 => ?_)
          · have ok := ok.2 c_141
            have hx := xif_n c_141 hx
            exact cX.cutz (kb_X1_fits_150 hG hR hS hM t_x0 t_x1 ok hx) ⟨rfl, rfl, rfl, trivial⟩
          · have ok := ok.1 c_141
            have hx := xif_p c_141 hx
            refine c_aload_nQ dX1_fits_144 rfl rfl ?_
            refine c_iconst (v := nI 5) dX1_fits_145 (by decide) ?_
            refine c_bald dX1_fits_146 ⟨(tK.cis t_x1 ok.1.1), ok.1.2⟩ ?_
            have ok := ok.2
            refine c_if_eq (tgt := 163) dX1_fits_147 (by decide) (fun c_147 => ?_) (fun c_147 => ?_)
            · have ok := ok.1 c_147
              have hx := xif_p c_147 hx
              exact cX.cutz (kb_X1_fits_163 hG hR hS hM t_x0 t_x1 ok hx) ⟨rfl, rfl, trivial⟩
            · have ok := ok.2 c_147
              have hx := xif_n c_147 hx
              exact cX.cutz (kb_X1_fits_150 hG hR hS hM t_x0 t_x1 ok hx) ⟨rfl, rfl, rfl, trivial⟩
        · have ok := ok.2 c_3_3
          have hx := xif_n c_3_3 hx
          by_cases c_3_4 : (cA S (za x1) (nI 0).toNatClampNeg) = nI 4
          · have ok := ok.1 c_3_4
            have hx := xif_p c_3_4 hx
            refine c_tableIn (off := 174) (tgt := 177) dX1_fits_3 (by rw [c_3_4]; decide) (by rw [c_3_4]; decide) (by rw [c_3_4]; rfl) (by decide) ?_
            refine c_aload_nQ dX1_fits_177 rfl rfl ?_
            refine c_aload_nQ dX1_fits_178 rfl rfl ?_
            refine c_iconst (v := nI 1) dX1_fits_179 (by decide) ?_
            refine c_iload_n dX1_fits_180 rfl rfl ?_
            refine c_V3iK (ci := 1) (rr := (RX1, TX1, 3)) (y' := mX1_blockFits) dX1_fits_181 lX1_73 kX1_blockFits ⟨by decide, by decide⟩ rfl rfl (by decide) (hS.k t_x0) (Nat.le_of_ble_eq_true rfl) (kc_X1_blockFits hG hS t_x0 t_x1 ok.1) (fun ⟨hS, hm_181⟩ => ?_)
            have hM := hM.trans hm_181
            have ok := ok.2
            exact cX.cutz (kb_X1_fits_184 hG hR hS hM  ok hx) trivial
          · have ok := ok.2 c_3_4
            have hx := xif_n c_3_4 hx
            by_cases c_3_5 : (cA S (za x1) (nI 0).toNatClampNeg) = nI 5
            · have ok := ok.1 c_3_5
              have hx := xif_p c_3_5 hx
              refine c_tableIn (off := 182) (tgt := 185) dX1_fits_3 (by rw [c_3_5]; decide) (by rw [c_3_5]; decide) (by rw [c_3_5]; rfl) (by decide) ?_
              refine c_iload_n dX1_fits_185 rfl rfl ?_
              refine c_iconst (v := nI 3) dX1_fits_186 (by decide) ?_
              refine c_icmp_ne (tgt := 202) dX1_fits_187 (by decide) (fun c_187 => ?_) (fun c_187 => ?_)
              · have ok := ok.2 c_187
                have hx := xif_n c_187 hx
                exact cX.cutz (kb_X1_fits_202 hG hR hS hM  ok hx) trivial
              · have ok := ok.1 c_187
                have hx := xif_p c_187 hx
                refine c_aload_nQ dX1_fits_190 rfl rfl ?_
                refine c_iconst (v := nI 1) dX1_fits_191 (by decide) ?_
                refine c_S2iE (y' := mX1_heightFits) dX1_fits_192 lX1_77 kX1_heightFits ⟨by decide, by decide⟩ (Nat.le_of_ble_eq_true rfl) (kc_X1_heightFits hG hS t_x1 ok.1) ?_
                have ok := ok.2
                refine c_if_eq (tgt := 202) dX1_fits_195 (by decide) (fun c_195 => ?_) (fun c_195 => ?_)
                · have ok := ok.1 c_195
                  have hx := xif_p c_195 hx
                  exact cX.cutz (kb_X1_fits_202 hG hR hS hM  ok hx) trivial
                · have ok := ok.2 c_195
                  have hx := xif_n c_195 hx
                  refine c_iconst (v := nI 1) dX1_fits_198 (by decide) ?_
                  refine c_goto (tgt := 203) dX1_fits_199 (by decide) ?_
                  exact cX.cutz (kb_X1_fits_203 hG hR hS hM  ok hx) trivial
            · have ok := ok.2 c_3_5
              have hx := xif_n c_3_5 hx
              by_cases c_3_6 : (cA S (za x1) (nI 0).toNatClampNeg) = nI 6
              · have ok := ok.1 c_3_6
                have hx := xif_p c_3_6 hx
                refine c_tableIn (off := 201) (tgt := 204) dX1_fits_3 (by rw [c_3_6]; decide) (by rw [c_3_6]; decide) (by rw [c_3_6]; rfl) (by decide) ?_
                refine c_aload_nQ dX1_fits_204 rfl rfl ?_
                refine c_aload_nQ dX1_fits_205 rfl rfl ?_
                refine c_iconst (v := nI 1) dX1_fits_206 (by decide) ?_
                refine c_iload_n dX1_fits_207 rfl rfl ?_
                refine c_V3iE (ci := 1) (rr := (RX1, TX1, 3)) (y' := mX1_evidenceFits) dX1_fits_208 lX1_80 kX1_evidenceFits ⟨by decide, by decide⟩ rfl rfl (by decide) (hS.k t_x0) (Nat.le_of_ble_eq_true rfl) (kc_X1_evidenceFits hG hS t_x0 t_x1 ok.1) ?_
                have ok := ok.2
                refine c_iload_n dX1_fits_211 rfl rfl ?_
                refine c_icmp_ne (tgt := 219) dX1_fits_212 (by decide) (fun c_212 => ?_) (fun c_212 => ?_)
                · have ok := ok.2 c_212
                  have hx := xif_n c_212 hx
                  refine c_iconst (v := nI 0) dX1_fits_219 (by decide) ?_
                  exact cX.cutz (kb_X1_fits_220 hG hR hS hM  ok hx) trivial
                · have ok := ok.1 c_212
                  have hx := xif_p c_212 hx
                  refine c_iconst (v := nI 1) dX1_fits_215 (by decide) ?_
                  refine c_goto (tgt := 220) dX1_fits_216 (by decide) ?_
                  exact cX.cutz (kb_X1_fits_220 hG hR hS hM  ok hx) trivial
              · have ok := ok.2 c_3_6
                have hx := xif_n c_3_6 hx
                by_cases c_3_7 : (cA S (za x1) (nI 0).toNatClampNeg) = nI 7
                · have ok := ok.1 c_3_7
                  have hx := xif_p c_3_7 hx
                  refine c_tableIn (off := 218) (tgt := 221) dX1_fits_3 (by rw [c_3_7]; decide) (by rw [c_3_7]; decide) (by rw [c_3_7]; rfl) (by decide) ?_
                  refine c_iload_n dX1_fits_221 rfl rfl ?_
                  refine c_bipush (v := nI 115) dX1_fits_222 (by decide) ?_
                  refine c_icmp_ne (tgt := 238) dX1_fits_224 (by decide) (fun c_224 => ?_) (fun c_224 => ?_)
                  · have ok := ok.2 c_224
                    have hx := xif_n c_224 hx
                    exact cX.cutz (kb_X1_fits_238 hG hR hS hM  ok hx) trivial
                  · have ok := ok.1 c_224
                    have hx := xif_p c_224 hx
                    refine c_aload_nQ dX1_fits_227 rfl rfl ?_
                    refine c_S1iE (y' := mX1_snapshotFits) dX1_fits_228 lX1_84 kX1_snapshotFits ⟨by decide, by decide⟩ (Nat.le_of_ble_eq_true rfl) (kc_X1_snapshotFits hG hS t_x1 ok.1) ?_
                    have ok := ok.2
                    refine c_if_eq (tgt := 238) dX1_fits_231 (by decide) (fun c_231 => ?_) (fun c_231 => ?_)
                    · have ok := ok.1 c_231
                      have hx := xif_p c_231 hx
                      exact cX.cutz (kb_X1_fits_238 hG hR hS hM  ok hx) trivial
                    · have ok := ok.2 c_231
                      have hx := xif_n c_231 hx
                      refine c_iconst (v := nI 1) dX1_fits_234 (by decide) ?_
                      refine c_goto (tgt := 239) dX1_fits_235 (by decide) ?_
                      exact cX.cutz (kb_X1_fits_239 hG hR hS hM  ok hx) trivial
                · have ok := ok.2 c_3_7
                  have hx := xif_n c_3_7 hx
                  refine c_tableOut (tgt := 240) dX1_fits_3 (zsw 8 (by intro k hk; rcases (show k = 0 ∨ k = 1 ∨ k = 2 ∨ k = 3 ∨ k = 4 ∨ k = 5 ∨ k = 6 ∨ k = 7 by omega) with rfl | rfl | rfl | rfl | rfl | rfl | rfl | rfl <;> assumption) (by decide) (by decide)) (by decide) ?_
                  refine c_iconst (v := nI 0) dX1_fits_240 (by decide) ?_
                  exact c_ireturn rfl rfl dX1_fits_241 (hR _ _ hS hM hx)
def k_X1_fits (N g H T : Nat) (S : cS) (a0 : Nat) (x1 : Option Nat) (x2 : Int32) : Int32 × cS := KF_X1_fits_0 N g H T a0 x1 x2 S
def p_X1_fits (N g H T : Nat) (S : cS) (a0 : Nat) (x1 : Option Nat) (x2 : Int32) : Prop := KO_X1_fits_0 N g H T a0 x1 x2 S
set_option maxRecDepth 100000 in
set_option maxHeartbeats 4000000 in
theorem kc_X1_fits {G : zG} {o : cO} {u g H T N : Nat} {S : cS} (hG : zOK G) {a0 : Nat} {x1 : Option Nat} {x2 : Int32} (hS : St u g H T S) (t_x0 : isO g H 1 a0) (t_x1 : tK S 20 x1) (ok : p_X1_fits N g H T S a0 x1 x2) : cCi G o dX1_fits mX1_fits [.ref a0, va_rf x1, .int x2] S (fun v S' => (v = (k_X1_fits N g H T S a0 x1 x2).1 ∧ S' = (k_X1_fits N g H T S a0 x1 x2).2) ∧ St u g H T S' ∧ Mono S S') := by
  refine cC.ofX rfl (by cases x1 <;> exact Nat.le_of_ble_eq_true rfl) ?_
  rw [show zargs mX1_fits.2.2.1 [.ref a0, va_rf x1, .int x2] = [some (va_rf (some a0)), some (va_rf x1), some (.int x2)] from by cases x1 <;> rfl]
  exact cX.cutz (kb_X1_fits_0 (X := fun F => F = k_X1_fits N g H T S a0 x1 x2) hG (fun v S' h1 h2 h => ⟨v, rfl, ⟨by rw [← h], by rw [← h]⟩, h1, h2⟩) hS Mono.rfl' t_x0 t_x1 ok rfl) ⟨rfl, rfl, rfl, trivial⟩
/-! X5_kind -/
def KF_X5_kind_21 (N g H T : Nat) (s0 : Int32) (S : cS) : Int32 := s0
def KO_X5_kind_21 (N g H T : Nat) (s0 : Int32) (S : cS) : Prop := True
set_option maxRecDepth 100000 in
set_option maxHeartbeats 4000000 in
theorem kb_X5_kind_21 {G : zG} {o : cO} {u g H T N : Nat} {S : cS} {Q : Option Value → cS → Prop} {X : Int32 → Prop} (hG : zOK G) (hR : ∀ v, X v → Q (some (.int v)) S) {s0 : Int32} (hS : St u g H T S) (ok : KO_X5_kind_21 N g H T s0 S) (hx : X (KF_X5_kind_21 N g H T s0 S)) : cX G o dX5_kind mX5_kind 21 [none] [.int s0] S Q := by
  unfold KO_X5_kind_21 at ok
  unfold KF_X5_kind_21 at hx
  exact c_ireturn rfl rfl dX5_kind_21 (hR _ hx)
def KF_X5_kind_0 (N g H T : Nat) (x0 : Option Nat) (S : cS) : Int32 := (if (cI S 2 (za x0)) ≤ 0 then (KF_X5_kind_21 N g H T (nI 0) S) else (KF_X5_kind_21 N g H T ((cA S ((za x0) + 2) (nI 0).toNatClampNeg) &&& (nI 255)) S))
def KO_X5_kind_0 (N g H T : Nat) (x0 : Option Nat) (S : cS) : Prop := (¬ x0 = none) ∧ (((cI S 2 (za x0)) ≤ 0 → KO_X5_kind_21 N g H T (nI 0) S) ∧ (¬ (cI S 2 (za x0)) ≤ 0 → (vp_in (nI 0) (cL S ((za x0) + 2))) ∧ KO_X5_kind_21 N g H T ((cA S ((za x0) + 2) (nI 0).toNatClampNeg) &&& (nI 255)) S))
set_option maxRecDepth 100000 in
set_option maxHeartbeats 4000000 in
theorem kb_X5_kind_0 {G : zG} {o : cO} {u g H T N : Nat} {S : cS} {Q : Option Value → cS → Prop} {X : Int32 → Prop} (hG : zOK G) (hR : ∀ v, X v → Q (some (.int v)) S) {x0 : Option Nat} (hS : St u g H T S) (t_x0 : tK S 5 x0) (ok : KO_X5_kind_0 N g H T x0 S) (hx : X (KF_X5_kind_0 N g H T x0 S)) : cX G o dX5_kind mX5_kind 0 [some (va_rf x0)] [] S Q := by
  unfold KO_X5_kind_0 at ok
  unfold KF_X5_kind_0 at hx
  refine c_aload_nQ dX5_kind_0 rfl rfl ?_
  have nn_1 := ok.1
  refine c_getI (C := RX5) (T := TX5) (N := 7) (ci := 4) (k := 2) ⟨rfl, inT5, by decide, fX5_19⟩ (by decide) (by decide) (by decide) dX5_kind_1 (tK.cis t_x0 ok.1) ?_
  have ok := ok.2
  refine c_if_le (tgt := 20) dX5_kind_4 (by decide) (fun c_4 => ?_) (fun c_4 => ?_)
  · have ok := ok.1 c_4
    have hx := xif_p c_4 hx
    refine c_iconst (v := nI 0) dX5_kind_20 (by decide) ?_
    exact cX.cutz (kb_X5_kind_21 hG hR hS  ok hx) trivial
  · have ok := ok.2 c_4
    have hx := xif_n c_4 hx
    refine c_aload_nQ dX5_kind_7 rfl rfl ?_
    have p_8 := hS.m0k t_x0 nn_1
    refine c_getS (C := RX5) (T := TX5) (N := 7) (ci := 4) (k := 0) ⟨rfl, inT5, by decide, fX5_15⟩ (by decide) (by decide) (by decide) dX5_kind_8 (tK.cis t_x0 nn_1) (hS.m0 t_x0 nn_1) ?_
    refine c_iconst (v := nI 0) dX5_kind_11 (by decide) ?_
    refine c_bald dX5_kind_12 ⟨(tK.cis p_8 (Option.some_ne_none _)), ok.1⟩ ?_
    have ok := ok.2
    refine c_sipush (v := nI 255) dX5_kind_13 (by decide) ?_
    refine c_iand dX5_kind_16 ?_
    refine c_goto (tgt := 21) dX5_kind_17 (by decide) ?_
    exact cX.cutz (kb_X5_kind_21 hG hR hS  ok hx) trivial
def k_X5_kind (N g H T : Nat) (S : cS) (a0 : Nat) : Int32 := KF_X5_kind_0 N g H T (some a0) S
def p_X5_kind (N g H T : Nat) (S : cS) (a0 : Nat) : Prop := KO_X5_kind_0 N g H T (some a0) S
set_option maxRecDepth 100000 in
set_option maxHeartbeats 4000000 in
theorem kc_X5_kind {G : zG} {o : cO} {u g H T N : Nat} {S : cS} (hG : zOK G) {a0 : Nat} (hS : St u g H T S) (t_x0 : cK S a0 = 5) (ok : p_X5_kind N g H T S a0) : cCi G o dX5_kind mX5_kind [.ref a0] S (fun v S' => (v = k_X5_kind N g H T S a0 ∧ S' = S)) := by
  refine cC.ofX rfl (by exact Nat.le_of_ble_eq_true rfl) ?_
  show cX G o dX5_kind mX5_kind 0 [some (va_rf (some a0))] [] S _
  exact cX.cutz (kb_X5_kind_0 (X := fun F => F = k_X5_kind N g H T S a0) hG (fun v h => ⟨v, rfl, h, rfl⟩) hS (tK_some t_x0) ok rfl) ⟨rfl, trivial⟩
/-! X5_blockAt -/
def KF_X5_blockAt_26 (N g H T : Nat) (s0 : Int32) (S : cS) : Int32 := s0
def KO_X5_blockAt_26 (N g H T : Nat) (s0 : Int32) (S : cS) : Prop := True
set_option maxRecDepth 100000 in
set_option maxHeartbeats 4000000 in
theorem kb_X5_blockAt_26 {G : zG} {o : cO} {u g H T N : Nat} {S : cS} {Q : Option Value → cS → Prop} {X : Int32 → Prop} (hG : zOK G) (hR : ∀ v, X v → Q (some (.int v)) S) {s0 : Int32} (hS : St u g H T S) (ok : KO_X5_blockAt_26 N g H T s0 S) (hx : X (KF_X5_blockAt_26 N g H T s0 S)) : cX G o dX5_blockAt mX5_blockAt 26 [none] [.int s0] S Q := by
  unfold KO_X5_blockAt_26 at ok
  unfold KF_X5_blockAt_26 at hx
  exact c_ireturn rfl rfl dX5_blockAt_26 (hR _ hx)
def KF_X5_blockAt_0 (N g H T : Nat) (x0 : Option Nat) (S : cS) : Int32 := (if (k_X5_kind N g H T S (za x0)) = (nI 1) then (KF_X5_blockAt_26 N g H T (nI 6) S) else (if (k_X5_kind N g H T S (za x0)) = (nI 4) then (KF_X5_blockAt_26 N g H T (nI 1) S) else (KF_X5_blockAt_26 N g H T (-1) S)))
def KO_X5_blockAt_0 (N g H T : Nat) (x0 : Option Nat) (S : cS) : Prop := (¬ x0 = none ∧ p_X5_kind N g H T S (za x0)) ∧ (((k_X5_kind N g H T S (za x0)) = (nI 1) → KO_X5_blockAt_26 N g H T (nI 6) S) ∧ (¬ (k_X5_kind N g H T S (za x0)) = (nI 1) → (p_X5_kind N g H T S (za x0)) ∧ (((k_X5_kind N g H T S (za x0)) = (nI 4) → KO_X5_blockAt_26 N g H T (nI 1) S) ∧ (¬ (k_X5_kind N g H T S (za x0)) = (nI 4) → KO_X5_blockAt_26 N g H T (-1) S))))
set_option maxRecDepth 100000 in
set_option maxHeartbeats 4000000 in
theorem kb_X5_blockAt_0 {G : zG} {o : cO} {u g H T N : Nat} {S : cS} {Q : Option Value → cS → Prop} {X : Int32 → Prop} (hG : zOK G) (hR : ∀ v, X v → Q (some (.int v)) S) {x0 : Option Nat} (hS : St u g H T S) (t_x0 : tK S 5 x0) (ok : KO_X5_blockAt_0 N g H T x0 S) (hx : X (KF_X5_blockAt_0 N g H T x0 S)) : cX G o dX5_blockAt mX5_blockAt 0 [some (va_rf x0)] [] S Q := by
  unfold KO_X5_blockAt_0 at ok
  unfold KF_X5_blockAt_0 at hx
  refine c_aload_nQ dX5_blockAt_0 rfl rfl ?_
  have nn_1 := ok.1.1
  refine c_V0iE (ci := 4) (rr := (RX5, TX5, 7)) (y' := mX5_kind) dX5_blockAt_1 lX5_23 kX5_kind ⟨by decide, by decide⟩ rfl rfl (by decide) (tK.cis t_x0 nn_1) (Nat.le_of_ble_eq_true rfl) (kc_X5_kind hG hS (t_x0 _ (za_of nn_1)) ok.1.2) ?_
  have ok := ok.2
  refine c_iconst (v := nI 1) dX5_blockAt_4 (by decide) ?_
  refine c_icmp_ne (tgt := 13) dX5_blockAt_5 (by decide) (fun c_5 => ?_) (fun c_5 => ?_)
  · have ok := ok.2 c_5
    have hx := xif_n c_5 hx
    refine c_aload_nQ dX5_blockAt_13 rfl rfl ?_
    refine c_V0iE (ci := 4) (rr := (RX5, TX5, 7)) (y' := mX5_kind) dX5_blockAt_14 lX5_23 kX5_kind ⟨by decide, by decide⟩ rfl rfl (by decide) (tK.cis t_x0 nn_1) (Nat.le_of_ble_eq_true rfl) (kc_X5_kind hG hS (t_x0 _ (za_of nn_1)) ok.1) ?_
    have ok := ok.2
    refine c_iconst (v := nI 4) dX5_blockAt_17 (by decide) ?_
    refine c_icmp_ne (tgt := 25) dX5_blockAt_18 (by decide) (fun c_18 => ?_) (fun c_18 => ?_)
    · have ok := ok.2 c_18
      have hx := xif_n c_18 hx
      refine c_iconst (v := -1) dX5_blockAt_25 (by decide) ?_
      exact cX.cutz (kb_X5_blockAt_26 hG hR hS  ok hx) trivial
    · have ok := ok.1 c_18
      have hx := xif_p c_18 hx
      refine c_iconst (v := nI 1) dX5_blockAt_21 (by decide) ?_
      refine c_goto (tgt := 26) dX5_blockAt_22 (by decide) ?_
      exact cX.cutz (kb_X5_blockAt_26 hG hR hS  ok hx) trivial
  · have ok := ok.1 c_5
    have hx := xif_p c_5 hx
    refine c_bipush (v := nI 6) dX5_blockAt_8 (by decide) ?_
    refine c_goto (tgt := 26) dX5_blockAt_10 (by decide) ?_
    exact cX.cutz (kb_X5_blockAt_26 hG hR hS  ok hx) trivial
def k_X5_blockAt (N g H T : Nat) (S : cS) (a0 : Nat) : Int32 := KF_X5_blockAt_0 N g H T (some a0) S
def p_X5_blockAt (N g H T : Nat) (S : cS) (a0 : Nat) : Prop := KO_X5_blockAt_0 N g H T (some a0) S
set_option maxRecDepth 100000 in
set_option maxHeartbeats 4000000 in
theorem kc_X5_blockAt {G : zG} {o : cO} {u g H T N : Nat} {S : cS} (hG : zOK G) {a0 : Nat} (hS : St u g H T S) (t_x0 : cK S a0 = 5) (ok : p_X5_blockAt N g H T S a0) : cCi G o dX5_blockAt mX5_blockAt [.ref a0] S (fun v S' => (v = k_X5_blockAt N g H T S a0 ∧ S' = S)) := by
  refine cC.ofX rfl (by exact Nat.le_of_ble_eq_true rfl) ?_
  show cX G o dX5_blockAt mX5_blockAt 0 [some (va_rf (some a0))] [] S _
  exact cX.cutz (kb_X5_blockAt_0 (X := fun F => F = k_X5_blockAt N g H T S a0) hG (fun v h => ⟨v, rfl, h, rfl⟩) hS (tK_some t_x0) ok rfl) ⟨rfl, trivial⟩
/-! X2_digest -/
def KF_X2_digest_11 (N g H T : Nat) (x0 : Nat) (x4 : Option Nat) (x5 : Int32) (S : cS) : cS := (k_X2_close N g H T S x0 x4 x5)
def KO_X2_digest_11 (N g H T : Nat) (x0 : Nat) (x4 : Option Nat) (x5 : Int32) (S : cS) : Prop := (p_X2_close N g H T S x0 x4 x5) ∧ True
set_option maxRecDepth 100000 in
set_option maxHeartbeats 4000000 in
theorem kb_X2_digest_11 {G : zG} {o : cO} {u g H T N : Nat} {S : cS} {S0 : cS} {Q : Option Value → cS → Prop} {X : cS → Prop} (hG : zOK G) (hR : ∀ S', St u g H T S' → Mono S0 S' → X S' → Q none S') {x0 : Nat} {x4 : Option Nat} {x5 : Int32} (hS : St u g H T S) (hM : Mono S0 S) (t_x0 : isO g H 2 x0) (t_x4 : tK S 20 x4) (ok : KO_X2_digest_11 N g H T x0 x4 x5 S) (hx : X (KF_X2_digest_11 N g H T x0 x4 x5 S)) : cX G o dX2_digest mX2_digest 11 [some (va_rf (some x0)), none, none, none, some (va_rf x4), some (.int x5)] [] S Q := by
  unfold KO_X2_digest_11 at ok
  unfold KF_X2_digest_11 at hx
  refine c_aload_nQ dX2_digest_11 rfl rfl ?_
  refine c_aloadQ dX2_digest_12 rfl ?_
  refine c_iload dX2_digest_14 rfl ?_
  refine c_V2vK (ci := 2) (rr := (RX2, TX2, 6)) (y' := mX2_close) dX2_digest_16 lX2_58 kX2_close ⟨by decide, by decide⟩ rfl rfl (by decide) (hS.k t_x0) (Nat.le_of_ble_eq_true rfl) (kc_X2_close hG hS t_x0 t_x4 ok.1) (fun ⟨hS, hm_16⟩ => ?_)
  have hM := hM.trans hm_16
  have ok := ok.2
  exact c_return rfl dX2_digest_19 (hR _ hS hM hx)
def KF_X2_digest_4 (N g H T : Nat) (x0 : Nat) (x1 : Option Nat) (x2 : Int32) (x3 : Int32) (x4 : Option Nat) (x5 : Int32) (S : cS) : cS := (KF_X2_digest_11 N g H T x0 x4 x5 (k_X2_add_ N g H T S x0 x1 x2 x3))
def KO_X2_digest_4 (N g H T : Nat) (x0 : Nat) (x1 : Option Nat) (x2 : Int32) (x3 : Int32) (x4 : Option Nat) (x5 : Int32) (S : cS) : Prop := (p_X2_add_ N g H T S x0 x1 x2 x3) ∧ KO_X2_digest_11 N g H T x0 x4 x5 (k_X2_add_ N g H T S x0 x1 x2 x3)
set_option maxRecDepth 100000 in
set_option maxHeartbeats 4000000 in
theorem kb_X2_digest_4 {G : zG} {o : cO} {u g H T N : Nat} {S : cS} {S0 : cS} {Q : Option Value → cS → Prop} {X : cS → Prop} (hG : zOK G) (hR : ∀ S', St u g H T S' → Mono S0 S' → X S' → Q none S') {x0 : Nat} {x1 : Option Nat} {x2 : Int32} {x3 : Int32} {x4 : Option Nat} {x5 : Int32} (hS : St u g H T S) (hM : Mono S0 S) (t_x0 : isO g H 2 x0) (t_x1 : tK S 20 x1) (t_x4 : tK S 20 x4) (ok : KO_X2_digest_4 N g H T x0 x1 x2 x3 x4 x5 S) (hx : X (KF_X2_digest_4 N g H T x0 x1 x2 x3 x4 x5 S)) : cX G o dX2_digest mX2_digest 4 [some (va_rf (some x0)), some (va_rf x1), some (.int x2), some (.int x3), some (va_rf x4), some (.int x5)] [] S Q := by
  unfold KO_X2_digest_4 at ok
  unfold KF_X2_digest_4 at hx
  refine c_aload_nQ dX2_digest_4 rfl rfl ?_
  refine c_aload_nQ dX2_digest_5 rfl rfl ?_
  refine c_iload_n dX2_digest_6 rfl rfl ?_
  refine c_iload_n dX2_digest_7 rfl rfl ?_
  refine c_V3vK (ci := 2) (rr := (RX2, TX2, 6)) (y' := mX2_add_) dX2_digest_8 lX2_54 kX2_add_ ⟨by decide, by decide⟩ rfl rfl (by decide) (hS.k t_x0) (Nat.le_of_ble_eq_true rfl) (kc_X2_add_ hG hS t_x0 t_x1 ok.1) (fun ⟨hS, hm_8⟩ => ?_)
  have hM := hM.trans hm_8
  have ok := ok.2
  exact cX.cutz (kb_X2_digest_11 hG hR hS hM t_x0 (hm_8.tK t_x4 (by decide)) ok hx) ⟨rfl, rfl, rfl, trivial⟩
def KF_X2_digest_0 (N g H T : Nat) (x0 : Nat) (x1 : Option Nat) (x2 : Int32) (x3 : Int32) (x4 : Option Nat) (x5 : Int32) (S : cS) : cS := (KF_X2_digest_4 N g H T x0 x1 x2 x3 x4 x5 (k_X2_open N g H T S x0))
def KO_X2_digest_0 (N g H T : Nat) (x0 : Nat) (x1 : Option Nat) (x2 : Int32) (x3 : Int32) (x4 : Option Nat) (x5 : Int32) (S : cS) : Prop := (p_X2_open N g H T S x0) ∧ KO_X2_digest_4 N g H T x0 x1 x2 x3 x4 x5 (k_X2_open N g H T S x0)
set_option maxRecDepth 100000 in
set_option maxHeartbeats 4000000 in
theorem kb_X2_digest_0 {G : zG} {o : cO} {u g H T N : Nat} {S : cS} {S0 : cS} {Q : Option Value → cS → Prop} {X : cS → Prop} (hG : zOK G) (hR : ∀ S', St u g H T S' → Mono S0 S' → X S' → Q none S') {x0 : Nat} {x1 : Option Nat} {x2 : Int32} {x3 : Int32} {x4 : Option Nat} {x5 : Int32} (hS : St u g H T S) (hM : Mono S0 S) (t_x0 : isO g H 2 x0) (t_x1 : tK S 20 x1) (t_x4 : tK S 20 x4) (ok : KO_X2_digest_0 N g H T x0 x1 x2 x3 x4 x5 S) (hx : X (KF_X2_digest_0 N g H T x0 x1 x2 x3 x4 x5 S)) : cX G o dX2_digest mX2_digest 0 [some (va_rf (some x0)), some (va_rf x1), some (.int x2), some (.int x3), some (va_rf x4), some (.int x5)] [] S Q := by
  unfold KO_X2_digest_0 at ok
  unfold KF_X2_digest_0 at hx
  refine c_aload_nQ dX2_digest_0 rfl rfl ?_
  refine c_V0vK (ci := 2) (rr := (RX2, TX2, 6)) (y' := mX2_open) dX2_digest_1 lX2_51 kX2_open ⟨by decide, by decide⟩ rfl rfl (by decide) (hS.k t_x0) (Nat.le_of_ble_eq_true rfl) (kc_X2_open hG hS t_x0 ok.1) (fun ⟨hS, hm_1⟩ => ?_)
  have hM := hM.trans hm_1
  have ok := ok.2
  exact cX.cutz (kb_X2_digest_4 hG hR hS hM t_x0 (hm_1.tK t_x1 (by decide)) (hm_1.tK t_x4 (by decide)) ok hx) ⟨rfl, rfl, rfl, rfl, rfl, rfl, trivial⟩
def k_X2_digest (N g H T : Nat) (S : cS) (a0 : Nat) (x1 : Option Nat) (x2 : Int32) (x3 : Int32) (x4 : Option Nat) (x5 : Int32) : cS := KF_X2_digest_0 N g H T a0 x1 x2 x3 x4 x5 S
def p_X2_digest (N g H T : Nat) (S : cS) (a0 : Nat) (x1 : Option Nat) (x2 : Int32) (x3 : Int32) (x4 : Option Nat) (x5 : Int32) : Prop := KO_X2_digest_0 N g H T a0 x1 x2 x3 x4 x5 S
set_option maxRecDepth 100000 in
set_option maxHeartbeats 4000000 in
theorem kc_X2_digest {G : zG} {o : cO} {u g H T N : Nat} {S : cS} (hG : zOK G) {a0 : Nat} {x1 : Option Nat} {x2 : Int32} {x3 : Int32} {x4 : Option Nat} {x5 : Int32} (hS : St u g H T S) (t_x0 : isO g H 2 a0) (t_x1 : tK S 20 x1) (t_x4 : tK S 20 x4) (ok : p_X2_digest N g H T S a0 x1 x2 x3 x4 x5) : cCv G o dX2_digest mX2_digest [.ref a0, va_rf x1, .int x2, .int x3, va_rf x4, .int x5] S (fun S' => S' = k_X2_digest N g H T S a0 x1 x2 x3 x4 x5 ∧ St u g H T S' ∧ Mono S S') := by
  refine cC.ofX rfl (by cases x1 <;> cases x4 <;> exact Nat.le_of_ble_eq_true rfl) ?_
  rw [show zargs mX2_digest.2.2.1 [.ref a0, va_rf x1, .int x2, .int x3, va_rf x4, .int x5] = [some (va_rf (some a0)), some (va_rf x1), some (.int x2), some (.int x3), some (va_rf x4), some (.int x5)] from by cases x1 <;> cases x4 <;> rfl]
  exact cX.cutz (kb_X2_digest_0 (X := fun F => F = k_X2_digest N g H T S a0 x1 x2 x3 x4 x5) hG (fun S' h1 h2 h => ⟨rfl, h, h1, h2⟩) hS Mono.rfl' t_x0 t_x1 t_x4 ok rfl) ⟨rfl, rfl, rfl, rfl, rfl, rfl, trivial⟩
/-! X11_eight -/
def KF_X11_eight_72 (N g H T : Nat) (x3 : Int64) (S : cS) : Int64 := x3
def KO_X11_eight_72 (N g H T : Nat) (x3 : Int64) (S : cS) : Prop := True
set_option maxRecDepth 100000 in
set_option maxHeartbeats 4000000 in
theorem kb_X11_eight_72 {G : zG} {o : cO} {u g H T N : Nat} {S : cS} {Q : Option Value → cS → Prop} {X : Int64 → Prop} (hG : zOK G) (hR : ∀ v, X v → Q (some (.long v)) S) {x3 : Int64} (hS : St u g H T S) (ok : KO_X11_eight_72 N g H T x3 S) (hx : X (KF_X11_eight_72 N g H T x3 S)) : cX G o dX11_eight mX11_eight 72 [none, none, none, some (.long x3), none, none, none] [] S Q := by
  unfold KO_X11_eight_72 at ok
  unfold KF_X11_eight_72 at hx
  refine c_lload_n dX11_eight_72 rfl rfl ?_
  exact c_lreturn rfl dX11_eight_73 (hR _ hx)
def KF_X11_eight_63 (N g H T : Nat) (rec : Option Nat → Int32 → Int32 → Int64 → Int32 → Nat × Int64 × Unit) (x0 : Option Nat) (x1 : Int32) (x2 : Int32) (x5 : Int32) (s0 : Int64) (s1 : Int32) (S : cS) : Nat × Int64 × Unit := (rec x0 x1 x2 (s0 ||| (Int32.toInt64 s1)) (x5 + nI 1))
def KO_X11_eight_63 (N g H T : Nat) (rok : Option Nat → Int32 → Int32 → Int64 → Int32 → Prop) (x0 : Option Nat) (x1 : Int32) (x2 : Int32) (x5 : Int32) (s0 : Int64) (s1 : Int32) (S : cS) : Prop := rok x0 x1 x2 (s0 ||| (Int32.toInt64 s1)) (x5 + nI 1)
set_option maxRecDepth 100000 in
set_option maxHeartbeats 4000000 in
theorem kb_X11_eight_63 {G : zG} {o : cO} {u g H T N : Nat} {S : cS} {Q : Option Value → cS → Prop} {X : Nat × Int64 × Unit → Prop} (hG : zOK G) (hX0 : ∀ (x3 : Int64) , X (0, x3, ()) → cX G o dX11_eight mX11_eight 72 [none, none, none, some (.long x3), none, none, none] [] S Q) {rec : Option Nat → Int32 → Int32 → Int64 → Int32 → Nat × Int64 × Unit} {rok : Option Nat → Int32 → Int32 → Int64 → Int32 → Prop} (hrec : ∀ (x0 : Option Nat) (x1 : Int32) (x2 : Int32) (x3 : Int64) (x5 : Int32), tK S 20 x0 → rok x0 x1 x2 x3 x5 → X (rec x0 x1 x2 x3 x5) → cX G o dX11_eight mX11_eight 5 [some (va_rf x0), some (.int x1), some (.int x2), some (.long x3), none, some (.int x5), none] [] S Q) {x0 : Option Nat} {x1 : Int32} {x2 : Int32} {x5 : Int32} {s0 : Int64} {s1 : Int32} (hS : St u g H T S) (t_x0 : tK S 20 x0) (ok : KO_X11_eight_63 N g H T rok x0 x1 x2 x5 s0 s1 S) (hx : X (KF_X11_eight_63 N g H T rec x0 x1 x2 x5 s0 s1 S)) : cX G o dX11_eight mX11_eight 63 [some (va_rf x0), some (.int x1), some (.int x2), none, none, some (.int x5), none] [.int s1, .long s0] S Q := by
  unfold KO_X11_eight_63 at ok
  unfold KF_X11_eight_63 at hx
  refine c_i2l dX11_eight_63 ?_
  refine c_lor dX11_eight_64 ?_
  refine c_lstore_3 dX11_eight_65 (by decide) rfl ?_
  refine c_iinc_5 (v := (x5 + nI 1)) dX11_eight_66 rfl (by first | rfl | (congr 1)) (by decide) rfl ?_
  refine c_goto (tgt := 5) dX11_eight_69 (by decide) ?_
  exact cX.cutz (hrec _ _ _ _ _ t_x0 ok hx) ⟨rfl, rfl, rfl, rfl, rfl, trivial⟩
def KF_X11_eight_38 (N g H T : Nat) (rec : Option Nat → Int32 → Int32 → Int64 → Int32 → Nat × Int64 × Unit) (x0 : Option Nat) (x1 : Int32) (x2 : Int32) (x3 : Int64) (x5 : Int32) (s0 : Int32) (S : cS) : Nat × Int64 × Unit := (if s0 = 0 then (KF_X11_eight_63 N g H T rec x0 x1 x2 x5 (x3 <<< (Int32.toInt64 (nI 8) &&& 63)) (nI 0) S) else (KF_X11_eight_63 N g H T rec x0 x1 x2 x5 (x3 <<< (Int32.toInt64 (nI 8) &&& 63)) ((cA S (za x0) (x2 + x5).toNatClampNeg) &&& (nI 255)) S))
def KO_X11_eight_38 (N g H T : Nat) (rok : Option Nat → Int32 → Int32 → Int64 → Int32 → Prop) (x0 : Option Nat) (x1 : Int32) (x2 : Int32) (x3 : Int64) (x5 : Int32) (s0 : Int32) (S : cS) : Prop := ((s0 = 0 → KO_X11_eight_63 N g H T rok x0 x1 x2 x5 (x3 <<< (Int32.toInt64 (nI 8) &&& 63)) (nI 0) S) ∧ (¬ s0 = 0 → (¬ x0 = none ∧ vp_in (x2 + x5) (cL S (za x0))) ∧ KO_X11_eight_63 N g H T rok x0 x1 x2 x5 (x3 <<< (Int32.toInt64 (nI 8) &&& 63)) ((cA S (za x0) (x2 + x5).toNatClampNeg) &&& (nI 255)) S))
set_option maxRecDepth 100000 in
set_option maxHeartbeats 4000000 in
theorem kb_X11_eight_38 {G : zG} {o : cO} {u g H T N : Nat} {S : cS} {Q : Option Value → cS → Prop} {X : Nat × Int64 × Unit → Prop} (hG : zOK G) (hX0 : ∀ (x3 : Int64) , X (0, x3, ()) → cX G o dX11_eight mX11_eight 72 [none, none, none, some (.long x3), none, none, none] [] S Q) {rec : Option Nat → Int32 → Int32 → Int64 → Int32 → Nat × Int64 × Unit} {rok : Option Nat → Int32 → Int32 → Int64 → Int32 → Prop} (hrec : ∀ (x0 : Option Nat) (x1 : Int32) (x2 : Int32) (x3 : Int64) (x5 : Int32), tK S 20 x0 → rok x0 x1 x2 x3 x5 → X (rec x0 x1 x2 x3 x5) → cX G o dX11_eight mX11_eight 5 [some (va_rf x0), some (.int x1), some (.int x2), some (.long x3), none, some (.int x5), none] [] S Q) {x0 : Option Nat} {x1 : Int32} {x2 : Int32} {x3 : Int64} {x5 : Int32} {s0 : Int32} (hS : St u g H T S) (t_x0 : tK S 20 x0) (ok : KO_X11_eight_38 N g H T rok x0 x1 x2 x3 x5 s0 S) (hx : X (KF_X11_eight_38 N g H T rec x0 x1 x2 x3 x5 s0 S)) : cX G o dX11_eight mX11_eight 38 [some (va_rf x0), some (.int x1), some (.int x2), some (.long x3), none, some (.int x5), none] [.int s0] S Q := by
  unfold KO_X11_eight_38 at ok
  unfold KF_X11_eight_38 at hx
  refine c_istore_6 dX11_eight_38 (by decide) rfl ?_
  refine c_lload_n dX11_eight_40 rfl rfl ?_
  refine c_bipush (v := nI 8) dX11_eight_41 (by decide) ?_
  refine c_lshl dX11_eight_43 ?_
  refine c_iload dX11_eight_44 rfl ?_
  refine c_if_eq (tgt := 62) dX11_eight_46 (by decide) (fun c_46 => ?_) (fun c_46 => ?_)
  · have ok := ok.1 c_46
    have hx := xif_p c_46 hx
    refine c_iconst (v := nI 0) dX11_eight_62 (by decide) ?_
    exact cX.cutz (kb_X11_eight_63 hG hX0 hrec hS t_x0 ok hx) ⟨rfl, rfl, rfl, rfl, trivial⟩
  · have ok := ok.2 c_46
    have hx := xif_n c_46 hx
    refine c_aload_nQ dX11_eight_49 rfl rfl ?_
    refine c_iload_n dX11_eight_50 rfl rfl ?_
    refine c_iload dX11_eight_51 rfl ?_
    refine c_iadd dX11_eight_53 ?_
    refine c_bald dX11_eight_54 ⟨(tK.cis t_x0 ok.1.1), ok.1.2⟩ ?_
    have ok := ok.2
    refine c_sipush (v := nI 255) dX11_eight_55 (by decide) ?_
    refine c_iand dX11_eight_58 ?_
    refine c_goto (tgt := 63) dX11_eight_59 (by decide) ?_
    exact cX.cutz (kb_X11_eight_63 hG hX0 hrec hS t_x0 ok hx) ⟨rfl, rfl, rfl, rfl, trivial⟩
def KF_X11_eight_37 (N g H T : Nat) (rec : Option Nat → Int32 → Int32 → Int64 → Int32 → Nat × Int64 × Unit) (x0 : Option Nat) (x1 : Int32) (x2 : Int32) (x3 : Int64) (x5 : Int32) (S : cS) : Nat × Int64 × Unit := (KF_X11_eight_38 N g H T rec x0 x1 x2 x3 x5 (nI 0) S)
def KO_X11_eight_37 (N g H T : Nat) (rok : Option Nat → Int32 → Int32 → Int64 → Int32 → Prop) (x0 : Option Nat) (x1 : Int32) (x2 : Int32) (x3 : Int64) (x5 : Int32) (S : cS) : Prop := KO_X11_eight_38 N g H T rok x0 x1 x2 x3 x5 (nI 0) S
set_option maxRecDepth 100000 in
set_option maxHeartbeats 4000000 in
theorem kb_X11_eight_37 {G : zG} {o : cO} {u g H T N : Nat} {S : cS} {Q : Option Value → cS → Prop} {X : Nat × Int64 × Unit → Prop} (hG : zOK G) (hX0 : ∀ (x3 : Int64) , X (0, x3, ()) → cX G o dX11_eight mX11_eight 72 [none, none, none, some (.long x3), none, none, none] [] S Q) {rec : Option Nat → Int32 → Int32 → Int64 → Int32 → Nat × Int64 × Unit} {rok : Option Nat → Int32 → Int32 → Int64 → Int32 → Prop} (hrec : ∀ (x0 : Option Nat) (x1 : Int32) (x2 : Int32) (x3 : Int64) (x5 : Int32), tK S 20 x0 → rok x0 x1 x2 x3 x5 → X (rec x0 x1 x2 x3 x5) → cX G o dX11_eight mX11_eight 5 [some (va_rf x0), some (.int x1), some (.int x2), some (.long x3), none, some (.int x5), none] [] S Q) {x0 : Option Nat} {x1 : Int32} {x2 : Int32} {x3 : Int64} {x5 : Int32} (hS : St u g H T S) (t_x0 : tK S 20 x0) (ok : KO_X11_eight_37 N g H T rok x0 x1 x2 x3 x5 S) (hx : X (KF_X11_eight_37 N g H T rec x0 x1 x2 x3 x5 S)) : cX G o dX11_eight mX11_eight 37 [some (va_rf x0), some (.int x1), some (.int x2), some (.long x3), none, some (.int x5), none] [] S Q := by
  unfold KO_X11_eight_37 at ok
  unfold KF_X11_eight_37 at hx
  refine c_iconst (v := nI 0) dX11_eight_37 (by decide) ?_
  exact cX.cutz (kb_X11_eight_38 hG hX0 hrec hS t_x0 ok hx) ⟨rfl, rfl, rfl, rfl, rfl, trivial⟩
def KB_X11_eight_5 (N g H T : Nat) (rec : Option Nat → Int32 → Int32 → Int64 → Int32 → Nat × Int64 × Unit) (x0 : Option Nat) (x1 : Int32) (x2 : Int32) (x3 : Int64) (x5 : Int32) (S : cS) : Nat × Int64 × Unit := (if (nI 8) ≤ x5 then (0, x3, ()) else (if x2 < 0 then (KF_X11_eight_37 N g H T rec x0 x1 x2 x3 x5 S) else (if (x1 - x5) ≤ x2 then (KF_X11_eight_37 N g H T rec x0 x1 x2 x3 x5 S) else (if ((nI (cL S (za x0))) - x5) ≤ x2 then (KF_X11_eight_37 N g H T rec x0 x1 x2 x3 x5 S) else (KF_X11_eight_38 N g H T rec x0 x1 x2 x3 x5 (nI 1) S)))))
def KOB_X11_eight_5 (N g H T : Nat) (rok : Option Nat → Int32 → Int32 → Int64 → Int32 → Prop) (x0 : Option Nat) (x1 : Int32) (x2 : Int32) (x3 : Int64) (x5 : Int32) (S : cS) : Prop := (((nI 8) ≤ x5 → True) ∧ (¬ (nI 8) ≤ x5 → ((x2 < 0 → KO_X11_eight_37 N g H T rok x0 x1 x2 x3 x5 S) ∧ (¬ x2 < 0 → (((x1 - x5) ≤ x2 → KO_X11_eight_37 N g H T rok x0 x1 x2 x3 x5 S) ∧ (¬ (x1 - x5) ≤ x2 → (¬ x0 = none) ∧ ((((nI (cL S (za x0))) - x5) ≤ x2 → KO_X11_eight_37 N g H T rok x0 x1 x2 x3 x5 S) ∧ (¬ ((nI (cL S (za x0))) - x5) ≤ x2 → KO_X11_eight_38 N g H T rok x0 x1 x2 x3 x5 (nI 1) S))))))))
set_option maxRecDepth 100000 in
set_option maxHeartbeats 4000000 in
theorem kbb_X11_eight_5 {G : zG} {o : cO} {u g H T N : Nat} {S : cS} {Q : Option Value → cS → Prop} {X : Nat × Int64 × Unit → Prop} (hG : zOK G) (hX0 : ∀ (x3 : Int64) , X (0, x3, ()) → cX G o dX11_eight mX11_eight 72 [none, none, none, some (.long x3), none, none, none] [] S Q) {rec : Option Nat → Int32 → Int32 → Int64 → Int32 → Nat × Int64 × Unit} {rok : Option Nat → Int32 → Int32 → Int64 → Int32 → Prop} (hrec : ∀ (x0 : Option Nat) (x1 : Int32) (x2 : Int32) (x3 : Int64) (x5 : Int32), tK S 20 x0 → rok x0 x1 x2 x3 x5 → X (rec x0 x1 x2 x3 x5) → cX G o dX11_eight mX11_eight 5 [some (va_rf x0), some (.int x1), some (.int x2), some (.long x3), none, some (.int x5), none] [] S Q) {x0 : Option Nat} {x1 : Int32} {x2 : Int32} {x3 : Int64} {x5 : Int32} (hS : St u g H T S) (t_x0 : tK S 20 x0) (ok : KOB_X11_eight_5 N g H T rok x0 x1 x2 x3 x5 S) (hx : X (KB_X11_eight_5 N g H T rec x0 x1 x2 x3 x5 S)) : cX G o dX11_eight mX11_eight 5 [some (va_rf x0), some (.int x1), some (.int x2), some (.long x3), none, some (.int x5), none] [] S Q := by
  unfold KOB_X11_eight_5 at ok
  unfold KB_X11_eight_5 at hx
  refine c_iload dX11_eight_5 rfl ?_
  refine c_bipush (v := nI 8) dX11_eight_7 (by decide) ?_
  refine c_icmp_ge (tgt := 72) dX11_eight_9 (by decide) (fun c_9 => ?_) (fun c_9 => ?_)
  · have ok := ok.1 c_9
    have hx := xif_p c_9 hx
    exact cX.cutz (hX0 _   hx) ⟨rfl, trivial⟩
  · have ok := ok.2 c_9
    have hx := xif_n c_9 hx
    refine c_iload_n dX11_eight_12 rfl rfl ?_
    refine c_if_lt (tgt := 37) dX11_eight_13 (by decide) (fun c_13 => ?_) (fun c_13 => ?_)
    · have ok := ok.1 c_13
      have hx := xif_p c_13 hx
      exact cX.cutz (kb_X11_eight_37 hG hX0 hrec hS t_x0 ok hx) ⟨rfl, rfl, rfl, rfl, rfl, trivial⟩
    · have ok := ok.2 c_13
      have hx := xif_n c_13 hx
      refine c_iload_n dX11_eight_16 rfl rfl ?_
      refine c_iload_n dX11_eight_17 rfl rfl ?_
      refine c_iload dX11_eight_18 rfl ?_
      refine c_isub dX11_eight_20 ?_
      refine c_icmp_ge (tgt := 37) dX11_eight_21 (by decide) (fun c_21 => ?_) (fun c_21 => ?_)
      · have ok := ok.1 c_21
        have hx := xif_p c_21 hx
        exact cX.cutz (kb_X11_eight_37 hG hX0 hrec hS t_x0 ok hx) ⟨rfl, rfl, rfl, rfl, rfl, trivial⟩
      · have ok := ok.2 c_21
        have hx := xif_n c_21 hx
        refine c_iload_n dX11_eight_24 rfl rfl ?_
        refine c_aload_nQ dX11_eight_25 rfl rfl ?_
        refine c_alenS (t := 0) (ty := .byte) rfl dX11_eight_26 (tK.cis t_x0 ok.1) rfl ?_
        have ok := ok.2
        refine c_iload dX11_eight_27 rfl ?_
        refine c_isub dX11_eight_29 ?_
        refine c_icmp_ge (tgt := 37) dX11_eight_30 (by decide) (fun c_30 => ?_) (fun c_30 => ?_)
        · have ok := ok.1 c_30
          have hx := xif_p c_30 hx
          exact cX.cutz (kb_X11_eight_37 hG hX0 hrec hS t_x0 ok hx) ⟨rfl, rfl, rfl, rfl, rfl, trivial⟩
        · have ok := ok.2 c_30
          have hx := xif_n c_30 hx
          refine c_iconst (v := nI 1) dX11_eight_33 (by decide) ?_
          refine c_goto (tgt := 38) dX11_eight_34 (by decide) ?_
          exact cX.cutz (kb_X11_eight_38 hG hX0 hrec hS t_x0 ok hx) ⟨rfl, rfl, rfl, rfl, rfl, trivial⟩
def KL_X11_eight_5 (N g H T : Nat) : Nat → Option Nat → Int32 → Int32 → Int64 → Int32 → cS → Nat × Int64 × Unit
  | 0, x0, x1, x2, x3, x5, S => (0, 0, ())
  | n + 1, x0, x1, x2, x3, x5, S => KB_X11_eight_5 N g H T (fun x0 x1 x2 x3 x5 => KL_X11_eight_5 N g H T n x0 x1 x2 x3 x5 S) x0 x1 x2 x3 x5 S
def KOL_X11_eight_5 (N g H T : Nat) : Nat → Option Nat → Int32 → Int32 → Int64 → Int32 → cS → Prop
  | 0, _, _, _, _, _, _ => False
  | n + 1, x0, x1, x2, x3, x5, S => KOB_X11_eight_5 N g H T (fun x0 x1 x2 x3 x5 => KOL_X11_eight_5 N g H T n x0 x1 x2 x3 x5 S) x0 x1 x2 x3 x5 S
set_option maxRecDepth 100000 in
set_option maxHeartbeats 4000000 in
theorem kl_X11_eight_5 {G : zG} {o : cO} {u g H T N : Nat} {S : cS} {Q : Option Value → cS → Prop} {X : Nat × Int64 × Unit → Prop} (hG : zOK G) (hX0 : ∀ (x3 : Int64) , X (0, x3, ()) → cX G o dX11_eight mX11_eight 72 [none, none, none, some (.long x3), none, none, none] [] S Q) (hS : St u g H T S) : ∀ (n : Nat) (x0 : Option Nat) (x1 : Int32) (x2 : Int32) (x3 : Int64) (x5 : Int32) , tK S 20 x0 → KOL_X11_eight_5 N g H T n x0 x1 x2 x3 x5 S → X (KL_X11_eight_5 N g H T n x0 x1 x2 x3 x5 S) → cX G o dX11_eight mX11_eight 5 [some (va_rf x0), some (.int x1), some (.int x2), some (.long x3), none, some (.int x5), none] [] S Q := by
  intro n
  induction n with
  | zero => intro x0 x1 x2 x3 x5 t_x0 ok; exact absurd ok id
  | succ n ih =>
    intro x0 x1 x2 x3 x5 t_x0 ok hx
    exact kbb_X11_eight_5 hG hX0 (rec := fun x0 x1 x2 x3 x5 => KL_X11_eight_5 N g H T n x0 x1 x2 x3 x5 S) (rok := fun x0 x1 x2 x3 x5 => KOL_X11_eight_5 N g H T n x0 x1 x2 x3 x5 S) (fun x0 x1 x2 x3 x5 t_x0 ok hx => ih x0 x1 x2 x3 x5 t_x0 ok hx) hS t_x0 ok hx
def KA_X11_eight_5 (N g H T : Nat) (x0 : Option Nat) (x1 : Int32) (x2 : Int32) (x3 : Int64) (x5 : Int32) (S : cS) (z : Nat × Int64 × Unit) : Int64 := (KF_X11_eight_72 N g H T (z.2.1) S)
def KOA_X11_eight_5 (N g H T : Nat) (x0 : Option Nat) (x1 : Int32) (x2 : Int32) (x3 : Int64) (x5 : Int32) (S : cS) (z : Nat × Int64 × Unit) : Prop := KO_X11_eight_72 N g H T (z.2.1) S
set_option maxRecDepth 100000 in
set_option maxHeartbeats 4000000 in
theorem kd_X11_eight_5 {G : zG} {o : cO} {u g H T N : Nat} {S : cS} {Q : Option Value → cS → Prop} {X : Int64 → Prop} (hG : zOK G) (hR : ∀ v, X v → Q (some (.long v)) S) {x0 : Option Nat} {x1 : Int32} {x2 : Int32} {x3 : Int64} {x5 : Int32} (hS : St u g H T S) (t_x0 : tK S 20 x0) (ok : KOL_X11_eight_5 N g H T N x0 x1 x2 x3 x5 S ∧ KOA_X11_eight_5 N g H T x0 x1 x2 x3 x5 S (KL_X11_eight_5 N g H T N x0 x1 x2 x3 x5 S)) (hx : X (KA_X11_eight_5 N g H T x0 x1 x2 x3 x5 S (KL_X11_eight_5 N g H T N x0 x1 x2 x3 x5 S))) : cX G o dX11_eight mX11_eight 5 [some (va_rf x0), some (.int x1), some (.int x2), some (.long x3), none, some (.int x5), none] [] S Q := by
  refine kl_X11_eight_5 hG ?_ hS N x0 x1 x2 x3 x5 t_x0 ok.1 (X := fun z => KOA_X11_eight_5 N g H T x0 x1 x2 x3 x5 S z ∧ X (KA_X11_eight_5 N g H T x0 x1 x2 x3 x5 S z)) ⟨ok.2, hx⟩
  · intro x3' hz
    obtain ⟨ok, hx⟩ := hz
    unfold KOA_X11_eight_5 at ok
    unfold KA_X11_eight_5 at hx
    exact cX.cutz (kb_X11_eight_72 hG hR hS  ok hx) ⟨rfl, trivial⟩
def KF_X11_eight_0 (N g H T : Nat) (x0 : Option Nat) (x1 : Int32) (x2 : Int32) (S : cS) : Int64 := (KA_X11_eight_5 N g H T x0 x1 x2 (0 : Int64) (nI 0) S (KL_X11_eight_5 N g H T N x0 x1 x2 (0 : Int64) (nI 0) S))
def KO_X11_eight_0 (N g H T : Nat) (x0 : Option Nat) (x1 : Int32) (x2 : Int32) (S : cS) : Prop := (KOL_X11_eight_5 N g H T N x0 x1 x2 (0 : Int64) (nI 0) S ∧ KOA_X11_eight_5 N g H T x0 x1 x2 (0 : Int64) (nI 0) S (KL_X11_eight_5 N g H T N x0 x1 x2 (0 : Int64) (nI 0) S))
set_option maxRecDepth 100000 in
set_option maxHeartbeats 4000000 in
theorem kb_X11_eight_0 {G : zG} {o : cO} {u g H T N : Nat} {S : cS} {Q : Option Value → cS → Prop} {X : Int64 → Prop} (hG : zOK G) (hR : ∀ v, X v → Q (some (.long v)) S) {x0 : Option Nat} {x1 : Int32} {x2 : Int32} (hS : St u g H T S) (t_x0 : tK S 20 x0) (ok : KO_X11_eight_0 N g H T x0 x1 x2 S) (hx : X (KF_X11_eight_0 N g H T x0 x1 x2 S)) : cX G o dX11_eight mX11_eight 0 [some (va_rf x0), some (.int x1), some (.int x2), none, none, none, none] [] S Q := by
  unfold KO_X11_eight_0 at ok
  unfold KF_X11_eight_0 at hx
  refine c_lconst (v := 0) dX11_eight_0 rfl ?_
  refine c_lstore_3 dX11_eight_1 (by decide) rfl ?_
  refine c_iconst (v := nI 0) dX11_eight_2 (by decide) ?_
  refine c_istore_5 dX11_eight_3 (by decide) rfl ?_
  exact cX.cutz (kd_X11_eight_5 hG hR hS t_x0 ok hx) ⟨rfl, rfl, rfl, rfl, rfl, trivial⟩
def k_X11_eight (N g H T : Nat) (S : cS) (x0 : Option Nat) (x1 : Int32) (x2 : Int32) : Int64 := KF_X11_eight_0 N g H T x0 x1 x2 S
def p_X11_eight (N g H T : Nat) (S : cS) (x0 : Option Nat) (x1 : Int32) (x2 : Int32) : Prop := KO_X11_eight_0 N g H T x0 x1 x2 S
set_option maxRecDepth 100000 in
set_option maxHeartbeats 4000000 in
theorem kc_X11_eight {G : zG} {o : cO} {u g H T N : Nat} {S : cS} (hG : zOK G) {x0 : Option Nat} {x1 : Int32} {x2 : Int32} (hS : St u g H T S) (t_x0 : tK S 20 x0) (ok : p_X11_eight N g H T S x0 x1 x2) : cCl G o dX11_eight mX11_eight [va_rf x0, .int x1, .int x2] S (fun v S' => (v = k_X11_eight N g H T S x0 x1 x2 ∧ S' = S)) := by
  refine cC.ofX rfl (by cases x0 <;> exact Nat.le_of_ble_eq_true rfl) ?_
  rw [show zargs mX11_eight.2.2.1 [va_rf x0, .int x1, .int x2] = [some (va_rf x0), some (.int x1), some (.int x2), none, none, none, none] from by cases x0 <;> rfl]
  exact cX.cutz (kb_X11_eight_0 (X := fun F => F = k_X11_eight N g H T S x0 x1 x2) hG (fun v h => ⟨v, rfl, h, rfl⟩) hS t_x0 ok rfl) ⟨rfl, rfl, rfl, trivial⟩
/-! X5_readId -/
def KF_X5_readId_60 (N g H T : Nat)  (S : cS) : cS := S
def KO_X5_readId_60 (N g H T : Nat)  (S : cS) : Prop := True
set_option maxRecDepth 100000 in
set_option maxHeartbeats 4000000 in
theorem kb_X5_readId_60 {G : zG} {o : cO} {u g H T N : Nat} {S : cS} {S0 : cS} {Q : Option Value → cS → Prop} {X : cS → Prop} (hG : zOK G) (hR : ∀ S', St u g H T S' → Mono S0 S' → X S' → Q none S') (hS : St u g H T S) (hM : Mono S0 S) (ok : KO_X5_readId_60 N g H T S) (hx : X (KF_X5_readId_60 N g H T S)) : cX G o dX5_readId mX5_readId 60 [none, none, none, none] [] S Q := by
  unfold KO_X5_readId_60 at ok
  unfold KF_X5_readId_60 at hx
  exact c_return rfl dX5_readId_60 (hR _ hS hM hx)
def KB_X5_readId_24 (N g H T : Nat) (rec : Option Nat → Option Nat → Int32 → Int32 → cS → Nat × cS) (x0 : Option Nat) (x1 : Option Nat) (x2 : Int32) (x3 : Int32) (S : cS) : Nat × cS := (if (nI 4) ≤ x3 then (0, S) else (if (cI S 5 (za x0)) = 0 then (0, S) else (rec x0 x1 x2 (x3 + nI 1) (csJ S ((za x0) + 1) x3.toNatClampNeg (k_X11_eight N g H T S x1 (nI (cL S (za x1))) (x2 + ((nI 8) * x3)))))))
def KOB_X5_readId_24 (N g H T : Nat) (rok : Option Nat → Option Nat → Int32 → Int32 → cS → Prop) (x0 : Option Nat) (x1 : Option Nat) (x2 : Int32) (x3 : Int32) (S : cS) : Prop := (((nI 4) ≤ x3 → True) ∧ (¬ (nI 4) ≤ x3 → (¬ x0 = none) ∧ (((cI S 5 (za x0)) = 0 → True) ∧ (¬ (cI S 5 (za x0)) = 0 → (¬ x1 = none) ∧ (p_X11_eight N g H T S x1 (nI (cL S (za x1))) (x2 + ((nI 8) * x3))) ∧ (vp_in x3 4) ∧ rok x0 x1 x2 (x3 + nI 1) (csJ S ((za x0) + 1) x3.toNatClampNeg (k_X11_eight N g H T S x1 (nI (cL S (za x1))) (x2 + ((nI 8) * x3))))))))
set_option maxRecDepth 100000 in
set_option maxHeartbeats 4000000 in
theorem kbb_X5_readId_24 {G : zG} {o : cO} {u g H T N : Nat} {S : cS} {S0 : cS} {Q : Option Value → cS → Prop} {X : Nat × cS → Prop} (hG : zOK G) (hX0 : ∀ (S' : cS), St u g H T S' → Mono S0 S' → X (0, S') → cX G o dX5_readId mX5_readId 60 [none, none, none, none] [] S' Q) {rec : Option Nat → Option Nat → Int32 → Int32 → cS → Nat × cS} {rok : Option Nat → Option Nat → Int32 → Int32 → cS → Prop} (hrec : ∀ (x0 : Option Nat) (x1 : Option Nat) (x2 : Int32) (x3 : Int32) (S : cS), St u g H T S → Mono S0 S → tK S 5 x0 → tK S 20 x1 → rok x0 x1 x2 x3 S → X (rec x0 x1 x2 x3 S) → cX G o dX5_readId mX5_readId 24 [some (va_rf x0), some (va_rf x1), some (.int x2), some (.int x3)] [] S Q) {x0 : Option Nat} {x1 : Option Nat} {x2 : Int32} {x3 : Int32} (hS : St u g H T S) (hM : Mono S0 S) (t_x0 : tK S 5 x0) (t_x1 : tK S 20 x1) (ok : KOB_X5_readId_24 N g H T rok x0 x1 x2 x3 S) (hx : X (KB_X5_readId_24 N g H T rec x0 x1 x2 x3 S)) : cX G o dX5_readId mX5_readId 24 [some (va_rf x0), some (va_rf x1), some (.int x2), some (.int x3)] [] S Q := by
  unfold KOB_X5_readId_24 at ok
  unfold KB_X5_readId_24 at hx
  refine c_iload_n dX5_readId_24 rfl rfl ?_
  refine c_iconst (v := nI 4) dX5_readId_25 (by decide) ?_
  refine c_icmp_ge (tgt := 60) dX5_readId_26 (by decide) (fun c_26 => ?_) (fun c_26 => ?_)
  · have ok := ok.1 c_26
    have hx := xif_p c_26 hx
    exact cX.cutz (hX0 S hS hM  hx) trivial
  · have ok := ok.2 c_26
    have hx := xif_n c_26 hx
    refine c_aload_nQ dX5_readId_29 rfl rfl ?_
    have nn_30 := ok.1
    refine c_getI (C := RX5) (T := TX5) (N := 7) (ci := 4) (k := 5) ⟨rfl, inT5, by decide, fX5_27⟩ (by decide) (by decide) (by decide) dX5_readId_30 (tK.cis t_x0 ok.1) ?_
    have ok := ok.2
    refine c_if_eq (tgt := 60) dX5_readId_33 (by decide) (fun c_33 => ?_) (fun c_33 => ?_)
    · have ok := ok.1 c_33
      have hx := xif_p c_33 hx
      exact cX.cutz (hX0 S hS hM  hx) trivial
    · have ok := ok.2 c_33
      have hx := xif_n c_33 hx
      refine c_aload_nQ dX5_readId_36 rfl rfl ?_
      have p_37 := hS.m1k t_x0 nn_30
      have q_37 := hS.m1l t_x0 nn_30
      refine c_getS (C := RX5) (T := TX5) (N := 7) (ci := 4) (k := 1) ⟨rfl, inT5, by decide, fX5_9⟩ (by decide) (by decide) (by decide) dX5_readId_37 (tK.cis t_x0 nn_30) (hS.m1 t_x0 nn_30) ?_
      refine c_iload_n dX5_readId_40 rfl rfl ?_
      refine c_aload_nQ dX5_readId_41 rfl rfl ?_
      refine c_aload_nQ dX5_readId_42 rfl rfl ?_
      refine c_alenS (t := 0) (ty := .byte) rfl dX5_readId_43 (tK.cis t_x1 ok.1) rfl ?_
      have ok := ok.2
      refine c_iload_n dX5_readId_44 rfl rfl ?_
      refine c_bipush (v := nI 8) dX5_readId_45 (by decide) ?_
      refine c_iload_n dX5_readId_47 rfl rfl ?_
      refine c_imul dX5_readId_48 ?_
      refine c_iadd dX5_readId_49 ?_
      refine c_SN3lE (y' := mX11_eight) dX5_readId_50 lX5_31 kX11_eight ⟨by decide, by decide⟩ (by simp only [List.map_cons, List.map_nil, List.sum_cons, List.sum_nil, zcat_rf, zcat_i, zcat_l, zcat_r] <;> decide) (kc_X11_eight hG hS t_x1 ok.1) ?_
      have ok := ok.2
      refine c_last dX5_readId_53 ⟨(tK.cis p_37 (Option.some_ne_none _)), (vk_cast q_37 ok.1)⟩ ?_
      have hS := hS.J ((za x0) + 1) x3.toNatClampNeg (k_X11_eight N g H T S x1 (nI (cL S (za x1))) (x2 + ((nI 8) * x3)))
      have hM := hM.J ((za x0) + 1) x3.toNatClampNeg (k_X11_eight N g H T S x1 (nI (cL S (za x1))) (x2 + ((nI 8) * x3)))
      have ok := ok.2
      refine c_iinc_3 (v := (x3 + nI 1)) dX5_readId_54 rfl (by first | rfl | (congr 1)) (by decide) rfl ?_
      refine c_goto (tgt := 24) dX5_readId_57 (by decide) ?_
      exact cX.cutz (hrec _ _ _ _ (csJ S ((za x0) + 1) x3.toNatClampNeg (k_X11_eight N g H T S x1 (nI (cL S (za x1))) (x2 + ((nI 8) * x3)))) hS hM (tK_J t_x0) (tK_J t_x1) ok hx) ⟨rfl, rfl, rfl, rfl, trivial⟩
def KL_X5_readId_24 (N g H T : Nat) : Nat → Option Nat → Option Nat → Int32 → Int32 → cS → Nat × cS
  | 0, x0, x1, x2, x3, S => (0, S)
  | n + 1, x0, x1, x2, x3, S => KB_X5_readId_24 N g H T (KL_X5_readId_24 N g H T n) x0 x1 x2 x3 S
def KOL_X5_readId_24 (N g H T : Nat) : Nat → Option Nat → Option Nat → Int32 → Int32 → cS → Prop
  | 0, _, _, _, _, _ => False
  | n + 1, x0, x1, x2, x3, S => KOB_X5_readId_24 N g H T (KOL_X5_readId_24 N g H T n) x0 x1 x2 x3 S
set_option maxRecDepth 100000 in
set_option maxHeartbeats 4000000 in
theorem kl_X5_readId_24 {G : zG} {o : cO} {u g H T N : Nat} {S0 : cS} {Q : Option Value → cS → Prop} {X : Nat × cS → Prop} (hG : zOK G) (hX0 : ∀ (S' : cS), St u g H T S' → Mono S0 S' → X (0, S') → cX G o dX5_readId mX5_readId 60 [none, none, none, none] [] S' Q) : ∀ (n : Nat) (x0 : Option Nat) (x1 : Option Nat) (x2 : Int32) (x3 : Int32) (S : cS), St u g H T S → Mono S0 S → tK S 5 x0 → tK S 20 x1 → KOL_X5_readId_24 N g H T n x0 x1 x2 x3 S → X (KL_X5_readId_24 N g H T n x0 x1 x2 x3 S) → cX G o dX5_readId mX5_readId 24 [some (va_rf x0), some (va_rf x1), some (.int x2), some (.int x3)] [] S Q := by
  intro n
  induction n with
  | zero => intro x0 x1 x2 x3 S hS hM t_x0 t_x1 ok; exact absurd ok id
  | succ n ih =>
    intro x0 x1 x2 x3 S hS hM t_x0 t_x1 ok hx
    exact kbb_X5_readId_24 hG hX0 (rec := KL_X5_readId_24 N g H T n) (rok := KOL_X5_readId_24 N g H T n) (fun x0 x1 x2 x3 S hS hM t_x0 t_x1 ok hx => ih x0 x1 x2 x3 S hS hM t_x0 t_x1 ok hx) hS hM t_x0 t_x1 ok hx
def KA_X5_readId_24 (N g H T : Nat) (x0 : Option Nat) (x1 : Option Nat) (x2 : Int32) (x3 : Int32) (S : cS) (z : Nat × cS) : cS := (KF_X5_readId_60 N g H T z.2)
def KOA_X5_readId_24 (N g H T : Nat) (x0 : Option Nat) (x1 : Option Nat) (x2 : Int32) (x3 : Int32) (S : cS) (z : Nat × cS) : Prop := KO_X5_readId_60 N g H T z.2
set_option maxRecDepth 100000 in
set_option maxHeartbeats 4000000 in
theorem kd_X5_readId_24 {G : zG} {o : cO} {u g H T N : Nat} {S : cS} {S0 : cS} {Q : Option Value → cS → Prop} {X : cS → Prop} (hG : zOK G) (hR : ∀ S', St u g H T S' → Mono S0 S' → X S' → Q none S') {x0 : Option Nat} {x1 : Option Nat} {x2 : Int32} {x3 : Int32} (hS : St u g H T S) (hM : Mono S0 S) (t_x0 : tK S 5 x0) (t_x1 : tK S 20 x1) (ok : KOL_X5_readId_24 N g H T N x0 x1 x2 x3 S ∧ KOA_X5_readId_24 N g H T x0 x1 x2 x3 S (KL_X5_readId_24 N g H T N x0 x1 x2 x3 S)) (hx : X (KA_X5_readId_24 N g H T x0 x1 x2 x3 S (KL_X5_readId_24 N g H T N x0 x1 x2 x3 S))) : cX G o dX5_readId mX5_readId 24 [some (va_rf x0), some (va_rf x1), some (.int x2), some (.int x3)] [] S Q := by
  refine kl_X5_readId_24 hG ?_ N x0 x1 x2 x3 S hS hM t_x0 t_x1 ok.1 (X := fun z => KOA_X5_readId_24 N g H T x0 x1 x2 x3 S z ∧ X (KA_X5_readId_24 N g H T x0 x1 x2 x3 S z)) ⟨ok.2, hx⟩
  · intro S' hS hM hz
    obtain ⟨ok, hx⟩ := hz
    unfold KOA_X5_readId_24 at ok
    unfold KA_X5_readId_24 at hx
    exact cX.cutz (kb_X5_readId_60 hG hR hS hM  ok hx) trivial
def KF_X5_readId_19 (N g H T : Nat) (x0 : Option Nat) (x1 : Option Nat) (x2 : Int32) (s0 : Option Nat) (s1 : Int32) (S : cS) : cS := (KA_X5_readId_24 N g H T x0 x1 x2 (nI 0) (csI S 5 (za s0) s1) (KL_X5_readId_24 N g H T N x0 x1 x2 (nI 0) (csI S 5 (za s0) s1)))
def KO_X5_readId_19 (N g H T : Nat) (x0 : Option Nat) (x1 : Option Nat) (x2 : Int32) (s0 : Option Nat) (s1 : Int32) (S : cS) : Prop := (¬ s0 = none ∧ narrow .boolean (.int s1) = .int s1 ∧ fits .boolean (.int s1) = true) ∧ (KOL_X5_readId_24 N g H T N x0 x1 x2 (nI 0) (csI S 5 (za s0) s1) ∧ KOA_X5_readId_24 N g H T x0 x1 x2 (nI 0) (csI S 5 (za s0) s1) (KL_X5_readId_24 N g H T N x0 x1 x2 (nI 0) (csI S 5 (za s0) s1)))
set_option maxRecDepth 100000 in
set_option maxHeartbeats 4000000 in
theorem kb_X5_readId_19 {G : zG} {o : cO} {u g H T N : Nat} {S : cS} {S0 : cS} {Q : Option Value → cS → Prop} {X : cS → Prop} (hG : zOK G) (hR : ∀ S', St u g H T S' → Mono S0 S' → X S' → Q none S') {x0 : Option Nat} {x1 : Option Nat} {x2 : Int32} {s0 : Option Nat} {s1 : Int32} (hS : St u g H T S) (hM : Mono S0 S) (t_x0 : tK S 5 x0) (t_x1 : tK S 20 x1) (t_s0 : tK S 5 s0) (ok : KO_X5_readId_19 N g H T x0 x1 x2 s0 s1 S) (hx : X (KF_X5_readId_19 N g H T x0 x1 x2 s0 s1 S)) : cX G o dX5_readId mX5_readId 19 [some (va_rf x0), some (va_rf x1), some (.int x2), none] [.int s1, va_rf s0] S Q := by
  unfold KO_X5_readId_19 at ok
  unfold KF_X5_readId_19 at hx
  refine c_putI (C := RX5) (T := TX5) (N := 7) (ci := 4) (k := 5) ⟨rfl, inT5, by decide, fX5_27⟩ ftT5 rfl (by decide) (by decide) (by decide) ok.1.2.1 ok.1.2.2 dX5_readId_19 (tK.cis t_s0 ok.1.1) ?_
  have hS := hS.I 5 (za s0) s1
  have hM := hM.I 5 (za s0) s1
  have ok := ok.2
  refine c_iconst (v := nI 0) dX5_readId_22 (by decide) ?_
  refine c_istore_3 dX5_readId_23 (by decide) rfl ?_
  exact cX.cutz (kd_X5_readId_24 hG hR hS hM (tK_I t_x0) (tK_I t_x1) ok hx) ⟨rfl, rfl, rfl, rfl, trivial⟩
def KF_X5_readId_18 (N g H T : Nat) (x0 : Option Nat) (x1 : Option Nat) (x2 : Int32) (s0 : Option Nat) (S : cS) : cS := (KF_X5_readId_19 N g H T x0 x1 x2 s0 (nI 0) S)
def KO_X5_readId_18 (N g H T : Nat) (x0 : Option Nat) (x1 : Option Nat) (x2 : Int32) (s0 : Option Nat) (S : cS) : Prop := KO_X5_readId_19 N g H T x0 x1 x2 s0 (nI 0) S
set_option maxRecDepth 100000 in
set_option maxHeartbeats 4000000 in
theorem kb_X5_readId_18 {G : zG} {o : cO} {u g H T N : Nat} {S : cS} {S0 : cS} {Q : Option Value → cS → Prop} {X : cS → Prop} (hG : zOK G) (hR : ∀ S', St u g H T S' → Mono S0 S' → X S' → Q none S') {x0 : Option Nat} {x1 : Option Nat} {x2 : Int32} {s0 : Option Nat} (hS : St u g H T S) (hM : Mono S0 S) (t_x0 : tK S 5 x0) (t_x1 : tK S 20 x1) (t_s0 : tK S 5 s0) (ok : KO_X5_readId_18 N g H T x0 x1 x2 s0 S) (hx : X (KF_X5_readId_18 N g H T x0 x1 x2 s0 S)) : cX G o dX5_readId mX5_readId 18 [some (va_rf x0), some (va_rf x1), some (.int x2), none] [va_rf s0] S Q := by
  unfold KO_X5_readId_18 at ok
  unfold KF_X5_readId_18 at hx
  refine c_iconst (v := nI 0) dX5_readId_18 (by decide) ?_
  exact cX.cutz (kb_X5_readId_19 hG hR hS hM t_x0 t_x1 t_s0 ok hx) ⟨rfl, rfl, rfl, trivial⟩
def KF_X5_readId_0 (N g H T : Nat) (x0 : Option Nat) (x1 : Option Nat) (x2 : Int32) (S : cS) : cS := (if x2 < 0 then (KF_X5_readId_18 N g H T x0 x1 x2 x0 S) else (if ((nI (cL S (za x1))) - (nI 32)) < x2 then (KF_X5_readId_18 N g H T x0 x1 x2 x0 S) else (KF_X5_readId_19 N g H T x0 x1 x2 x0 (nI 1) S)))
def KO_X5_readId_0 (N g H T : Nat) (x0 : Option Nat) (x1 : Option Nat) (x2 : Int32) (S : cS) : Prop := ((x2 < 0 → KO_X5_readId_18 N g H T x0 x1 x2 x0 S) ∧ (¬ x2 < 0 → (¬ x1 = none) ∧ ((((nI (cL S (za x1))) - (nI 32)) < x2 → KO_X5_readId_18 N g H T x0 x1 x2 x0 S) ∧ (¬ ((nI (cL S (za x1))) - (nI 32)) < x2 → KO_X5_readId_19 N g H T x0 x1 x2 x0 (nI 1) S))))
set_option maxRecDepth 100000 in
set_option maxHeartbeats 4000000 in
theorem kb_X5_readId_0 {G : zG} {o : cO} {u g H T N : Nat} {S : cS} {S0 : cS} {Q : Option Value → cS → Prop} {X : cS → Prop} (hG : zOK G) (hR : ∀ S', St u g H T S' → Mono S0 S' → X S' → Q none S') {x0 : Option Nat} {x1 : Option Nat} {x2 : Int32} (hS : St u g H T S) (hM : Mono S0 S) (t_x0 : tK S 5 x0) (t_x1 : tK S 20 x1) (ok : KO_X5_readId_0 N g H T x0 x1 x2 S) (hx : X (KF_X5_readId_0 N g H T x0 x1 x2 S)) : cX G o dX5_readId mX5_readId 0 [some (va_rf x0), some (va_rf x1), some (.int x2), none] [] S Q := by
  unfold KO_X5_readId_0 at ok
  unfold KF_X5_readId_0 at hx
  refine c_aload_nQ dX5_readId_0 rfl rfl ?_
  refine c_iload_n dX5_readId_1 rfl rfl ?_
  refine c_if_lt (tgt := 18) dX5_readId_2 (by decide) (fun c_2 => ?_) (fun c_2 => ?_)
  · have ok := ok.1 c_2
    have hx := xif_p c_2 hx
    exact cX.cutz (kb_X5_readId_18 hG hR hS hM t_x0 t_x1 t_x0 ok hx) ⟨rfl, rfl, rfl, trivial⟩
  · have ok := ok.2 c_2
    have hx := xif_n c_2 hx
    refine c_iload_n dX5_readId_5 rfl rfl ?_
    refine c_aload_nQ dX5_readId_6 rfl rfl ?_
    refine c_alenS (t := 0) (ty := .byte) rfl dX5_readId_7 (tK.cis t_x1 ok.1) rfl ?_
    have ok := ok.2
    refine c_bipush (v := nI 32) dX5_readId_8 (by decide) ?_
    refine c_isub dX5_readId_10 ?_
    refine c_icmp_gt (tgt := 18) dX5_readId_11 (by decide) (fun c_11 => ?_) (fun c_11 => ?_)
    · have ok := ok.1 c_11
      have hx := xif_p c_11 hx
      exact cX.cutz (kb_X5_readId_18 hG hR hS hM t_x0 t_x1 t_x0 ok hx) ⟨rfl, rfl, rfl, trivial⟩
    · have ok := ok.2 c_11
      have hx := xif_n c_11 hx
      refine c_iconst (v := nI 1) dX5_readId_14 (by decide) ?_
      refine c_goto (tgt := 19) dX5_readId_15 (by decide) ?_
      exact cX.cutz (kb_X5_readId_19 hG hR hS hM t_x0 t_x1 t_x0 ok hx) ⟨rfl, rfl, rfl, trivial⟩
def k_X5_readId (N g H T : Nat) (S : cS) (a0 : Nat) (x1 : Option Nat) (x2 : Int32) : cS := KF_X5_readId_0 N g H T (some a0) x1 x2 S
def p_X5_readId (N g H T : Nat) (S : cS) (a0 : Nat) (x1 : Option Nat) (x2 : Int32) : Prop := KO_X5_readId_0 N g H T (some a0) x1 x2 S
set_option maxRecDepth 100000 in
set_option maxHeartbeats 4000000 in
theorem kc_X5_readId {G : zG} {o : cO} {u g H T N : Nat} {S : cS} (hG : zOK G) {a0 : Nat} {x1 : Option Nat} {x2 : Int32} (hS : St u g H T S) (t_x0 : cK S a0 = 5) (t_x1 : tK S 20 x1) (ok : p_X5_readId N g H T S a0 x1 x2) : cCv G o dX5_readId mX5_readId [.ref a0, va_rf x1, .int x2] S (fun S' => S' = k_X5_readId N g H T S a0 x1 x2 ∧ St u g H T S' ∧ Mono S S') := by
  refine cC.ofX rfl (by cases x1 <;> exact Nat.le_of_ble_eq_true rfl) ?_
  rw [show zargs mX5_readId.2.2.1 [.ref a0, va_rf x1, .int x2] = [some (va_rf (some a0)), some (va_rf x1), some (.int x2), none] from by cases x1 <;> rfl]
  exact cX.cutz (kb_X5_readId_0 (X := fun F => F = k_X5_readId N g H T S a0 x1 x2) hG (fun S' h1 h2 h => ⟨rfl, h, h1, h2⟩) hS Mono.rfl' (tK_some t_x0) t_x1 ok rfl) ⟨rfl, rfl, rfl, trivial⟩
/-! X5_at -/
def KF_X5_at_26 (N g H T : Nat) (s0 : Int32) (S : cS) : Int32 := s0
def KO_X5_at_26 (N g H T : Nat) (s0 : Int32) (S : cS) : Prop := True
set_option maxRecDepth 100000 in
set_option maxHeartbeats 4000000 in
theorem kb_X5_at_26 {G : zG} {o : cO} {u g H T N : Nat} {S : cS} {Q : Option Value → cS → Prop} {X : Int32 → Prop} (hG : zOK G) (hR : ∀ v, X v → Q (some (.int v)) S) {s0 : Int32} (hS : St u g H T S) (ok : KO_X5_at_26 N g H T s0 S) (hx : X (KF_X5_at_26 N g H T s0 S)) : cX G o dX5_at mX5_at 26 [none, none] [.int s0] S Q := by
  unfold KO_X5_at_26 at ok
  unfold KF_X5_at_26 at hx
  exact c_ireturn rfl rfl dX5_at_26 (hR _ hx)
def KF_X5_at_25 (N g H T : Nat)  (S : cS) : Int32 := (KF_X5_at_26 N g H T (nI 0) S)
def KO_X5_at_25 (N g H T : Nat)  (S : cS) : Prop := KO_X5_at_26 N g H T (nI 0) S
set_option maxRecDepth 100000 in
set_option maxHeartbeats 4000000 in
theorem kb_X5_at_25 {G : zG} {o : cO} {u g H T N : Nat} {S : cS} {Q : Option Value → cS → Prop} {X : Int32 → Prop} (hG : zOK G) (hR : ∀ v, X v → Q (some (.int v)) S) (hS : St u g H T S) (ok : KO_X5_at_25 N g H T S) (hx : X (KF_X5_at_25 N g H T S)) : cX G o dX5_at mX5_at 25 [none, none] [] S Q := by
  unfold KO_X5_at_25 at ok
  unfold KF_X5_at_25 at hx
  refine c_iconst (v := nI 0) dX5_at_25 (by decide) ?_
  exact cX.cutz (kb_X5_at_26 hG hR hS  ok hx) trivial
def KF_X5_at_0 (N g H T : Nat) (x0 : Option Nat) (x1 : Int32) (S : cS) : Int32 := (if x1 < 0 then (KF_X5_at_25 N g H T S) else (if (cI S 2 (za x0)) ≤ x1 then (KF_X5_at_25 N g H T S) else (KF_X5_at_26 N g H T ((cA S ((za x0) + 2) x1.toNatClampNeg) &&& (nI 255)) S)))
def KO_X5_at_0 (N g H T : Nat) (x0 : Option Nat) (x1 : Int32) (S : cS) : Prop := ((x1 < 0 → KO_X5_at_25 N g H T S) ∧ (¬ x1 < 0 → (¬ x0 = none) ∧ (((cI S 2 (za x0)) ≤ x1 → KO_X5_at_25 N g H T S) ∧ (¬ (cI S 2 (za x0)) ≤ x1 → (vp_in x1 (cL S ((za x0) + 2))) ∧ KO_X5_at_26 N g H T ((cA S ((za x0) + 2) x1.toNatClampNeg) &&& (nI 255)) S))))
set_option maxRecDepth 100000 in
set_option maxHeartbeats 4000000 in
theorem kb_X5_at_0 {G : zG} {o : cO} {u g H T N : Nat} {S : cS} {Q : Option Value → cS → Prop} {X : Int32 → Prop} (hG : zOK G) (hR : ∀ v, X v → Q (some (.int v)) S) {x0 : Option Nat} {x1 : Int32} (hS : St u g H T S) (t_x0 : tK S 5 x0) (ok : KO_X5_at_0 N g H T x0 x1 S) (hx : X (KF_X5_at_0 N g H T x0 x1 S)) : cX G o dX5_at mX5_at 0 [some (va_rf x0), some (.int x1)] [] S Q := by
  unfold KO_X5_at_0 at ok
  unfold KF_X5_at_0 at hx
  refine c_iload_n dX5_at_0 rfl rfl ?_
  refine c_if_lt (tgt := 25) dX5_at_1 (by decide) (fun c_1 => ?_) (fun c_1 => ?_)
  · have ok := ok.1 c_1
    have hx := xif_p c_1 hx
    exact cX.cutz (kb_X5_at_25 hG hR hS  ok hx) trivial
  · have ok := ok.2 c_1
    have hx := xif_n c_1 hx
    refine c_iload_n dX5_at_4 rfl rfl ?_
    refine c_aload_nQ dX5_at_5 rfl rfl ?_
    have nn_6 := ok.1
    refine c_getI (C := RX5) (T := TX5) (N := 7) (ci := 4) (k := 2) ⟨rfl, inT5, by decide, fX5_19⟩ (by decide) (by decide) (by decide) dX5_at_6 (tK.cis t_x0 ok.1) ?_
    have ok := ok.2
    refine c_icmp_ge (tgt := 25) dX5_at_9 (by decide) (fun c_9 => ?_) (fun c_9 => ?_)
    · have ok := ok.1 c_9
      have hx := xif_p c_9 hx
      exact cX.cutz (kb_X5_at_25 hG hR hS  ok hx) trivial
    · have ok := ok.2 c_9
      have hx := xif_n c_9 hx
      refine c_aload_nQ dX5_at_12 rfl rfl ?_
      have p_13 := hS.m0k t_x0 nn_6
      refine c_getS (C := RX5) (T := TX5) (N := 7) (ci := 4) (k := 0) ⟨rfl, inT5, by decide, fX5_15⟩ (by decide) (by decide) (by decide) dX5_at_13 (tK.cis t_x0 nn_6) (hS.m0 t_x0 nn_6) ?_
      refine c_iload_n dX5_at_16 rfl rfl ?_
      refine c_bald dX5_at_17 ⟨(tK.cis p_13 (Option.some_ne_none _)), ok.1⟩ ?_
      have ok := ok.2
      refine c_sipush (v := nI 255) dX5_at_18 (by decide) ?_
      refine c_iand dX5_at_21 ?_
      refine c_goto (tgt := 26) dX5_at_22 (by decide) ?_
      exact cX.cutz (kb_X5_at_26 hG hR hS  ok hx) trivial
def k_X5_at (N g H T : Nat) (S : cS) (a0 : Nat) (x1 : Int32) : Int32 := KF_X5_at_0 N g H T (some a0) x1 S
def p_X5_at (N g H T : Nat) (S : cS) (a0 : Nat) (x1 : Int32) : Prop := KO_X5_at_0 N g H T (some a0) x1 S
set_option maxRecDepth 100000 in
set_option maxHeartbeats 4000000 in
theorem kc_X5_at {G : zG} {o : cO} {u g H T N : Nat} {S : cS} (hG : zOK G) {a0 : Nat} {x1 : Int32} (hS : St u g H T S) (t_x0 : cK S a0 = 5) (ok : p_X5_at N g H T S a0 x1) : cCi G o dX5_at mX5_at [.ref a0, .int x1] S (fun v S' => (v = k_X5_at N g H T S a0 x1 ∧ S' = S)) := by
  refine cC.ofX rfl (by exact Nat.le_of_ble_eq_true rfl) ?_
  show cX G o dX5_at mX5_at 0 [some (va_rf (some a0)), some (.int x1)] [] S _
  exact cX.cutz (kb_X5_at_0 (X := fun F => F = k_X5_at N g H T S a0 x1) hG (fun v h => ⟨v, rfl, h, rfl⟩) hS (tK_some t_x0) ok rfl) ⟨rfl, rfl, trivial⟩

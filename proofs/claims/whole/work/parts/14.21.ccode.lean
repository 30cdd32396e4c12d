/-! X11_calm -/
def F_X11_calm_84 (N : Nat) (x3 : Int32) (S : cS) : Int32 × cS := (x3, S)
def O_X11_calm_84 (N : Nat) (x3 : Int32) (S : cS) : Prop := True
set_option maxRecDepth 100000 in
set_option maxHeartbeats 4000000 in
theorem b_X11_calm_84 {G : zG} {o : cO} {S : cS} {N : Nat} {Q : Option Value → cS → Prop} {X : Int32 × cS → Prop} (hG : zOK G) (hR : ∀ v S', X (v, S') → Q (some (.int v)) S') {x3 : Int32} (ok : O_X11_calm_84 N x3 S) (hx : X (F_X11_calm_84 N x3 S)) : cX G o dX11_calm mX11_calm 84 [none, none, none, some (.int x3), none] [] S Q := by
  unfold O_X11_calm_84 at ok
  unfold F_X11_calm_84 at hx
  refine c_iload_n dX11_calm_84 rfl rfl ?_
  exact c_ireturn rfl rfl dX11_calm_85 (hR _ _ hx)
def F_X11_calm_77 (N : Nat) (rec : Option Nat → Int32 → Int32 → Int32 → Int32 → cS → Nat × Int32 × cS) (x0 : Option Nat) (x1 : Int32) (x2 : Int32) (x3 : Int32) (x4 : Int32) (s0 : Int32) (S : cS) : Nat × Int32 × cS := (rec x0 x1 x2 x3 (x4 + nI 1) S)
def O_X11_calm_77 (N : Nat) (rok : Option Nat → Int32 → Int32 → Int32 → Int32 → cS → Prop) (x0 : Option Nat) (x1 : Int32) (x2 : Int32) (x3 : Int32) (x4 : Int32) (s0 : Int32) (S : cS) : Prop := rok x0 x1 x2 x3 (x4 + nI 1) S
set_option maxRecDepth 100000 in
set_option maxHeartbeats 4000000 in
theorem b_X11_calm_77 {G : zG} {o : cO} {S : cS} {N : Nat} {Q : Option Value → cS → Prop} {X : Nat × Int32 × cS → Prop} (hG : zOK G) (hX0 : ∀ (x3 : Int32) (S' : cS), X (0, x3, S') → cX G o dX11_calm mX11_calm 84 [none, none, none, some (.int x3), none] [] S' Q) {rec : Option Nat → Int32 → Int32 → Int32 → Int32 → cS → Nat × Int32 × cS} {rok : Option Nat → Int32 → Int32 → Int32 → Int32 → cS → Prop} (hrec : ∀ (x0 : Option Nat) (x1 : Int32) (x2 : Int32) (x3 : Int32) (x4 : Int32) (S : cS), rok x0 x1 x2 x3 x4 S → X (rec x0 x1 x2 x3 x4 S) → cX G o dX11_calm mX11_calm 28 [some (va_rf x0), some (.int x1), some (.int x2), some (.int x3), some (.int x4)] [] S Q) {x0 : Option Nat} {x1 : Int32} {x2 : Int32} {x3 : Int32} {x4 : Int32} {s0 : Int32} (ok : O_X11_calm_77 N rok x0 x1 x2 x3 x4 s0 S) (hx : X (F_X11_calm_77 N rec x0 x1 x2 x3 x4 s0 S)) : cX G o dX11_calm mX11_calm 77 [some (va_rf x0), some (.int x1), some (.int x2), some (.int x3), some (.int x4)] [.int s0] S Q := by
  unfold O_X11_calm_77 at ok
  unfold F_X11_calm_77 at hx
  refine c_pop dX11_calm_77 rfl ?_
  refine c_iinc_4 (v := (x4 + nI 1)) dX11_calm_78 rfl (by first | rfl | (congr 1)) (by decide) rfl ?_
  refine c_goto (tgt := 28) dX11_calm_81 (by decide) ?_
  exact cX.cutz (hrec _ _ _ _ _ S ok hx) ⟨rfl, rfl, rfl, rfl, rfl, trivial⟩
def F_X11_calm_70 (N : Nat) (rec : Option Nat → Int32 → Int32 → Int32 → Int32 → cS → Nat × Int32 × cS) (x0 : Option Nat) (x1 : Int32) (x2 : Int32) (x3 : Int32) (x4 : Int32) (S : cS) : Nat × Int32 × cS := (F_X11_calm_77 N rec x0 x1 x2 x3 x4 ((f_X10_passTime N S (za (cR S 0 (za x0)))).1) (f_X10_passTime N S (za (cR S 0 (za x0)))).2)
def O_X11_calm_70 (N : Nat) (rok : Option Nat → Int32 → Int32 → Int32 → Int32 → cS → Prop) (x0 : Option Nat) (x1 : Int32) (x2 : Int32) (x3 : Int32) (x4 : Int32) (S : cS) : Prop := (cis S x0 10) ∧ (cis S (cR S 0 (za x0)) 9 ∧ o_X10_passTime N S (za (cR S 0 (za x0)))) ∧ O_X11_calm_77 N rok x0 x1 x2 x3 x4 ((f_X10_passTime N S (za (cR S 0 (za x0)))).1) (f_X10_passTime N S (za (cR S 0 (za x0)))).2
set_option maxRecDepth 100000 in
set_option maxHeartbeats 4000000 in
theorem b_X11_calm_70 {G : zG} {o : cO} {S : cS} {N : Nat} {Q : Option Value → cS → Prop} {X : Nat × Int32 × cS → Prop} (hG : zOK G) (hX0 : ∀ (x3 : Int32) (S' : cS), X (0, x3, S') → cX G o dX11_calm mX11_calm 84 [none, none, none, some (.int x3), none] [] S' Q) {rec : Option Nat → Int32 → Int32 → Int32 → Int32 → cS → Nat × Int32 × cS} {rok : Option Nat → Int32 → Int32 → Int32 → Int32 → cS → Prop} (hrec : ∀ (x0 : Option Nat) (x1 : Int32) (x2 : Int32) (x3 : Int32) (x4 : Int32) (S : cS), rok x0 x1 x2 x3 x4 S → X (rec x0 x1 x2 x3 x4 S) → cX G o dX11_calm mX11_calm 28 [some (va_rf x0), some (.int x1), some (.int x2), some (.int x3), some (.int x4)] [] S Q) {x0 : Option Nat} {x1 : Int32} {x2 : Int32} {x3 : Int32} {x4 : Int32} (ok : O_X11_calm_70 N rok x0 x1 x2 x3 x4 S) (hx : X (F_X11_calm_70 N rec x0 x1 x2 x3 x4 S)) : cX G o dX11_calm mX11_calm 70 [some (va_rf x0), some (.int x1), some (.int x2), some (.int x3), some (.int x4)] [] S Q := by
  unfold O_X11_calm_70 at ok
  unfold F_X11_calm_70 at hx
  refine c_aload_nQ dX11_calm_70 rfl rfl ?_
  refine c_getR (C := RX11) (T := TX11) (N := 4) (ci := 9) (k := 0) ⟨rfl, inT11, by decide, fX11_22⟩ (by decide) (by decide) (by decide) dX11_calm_71 ok.1 ?_
  have ok := ok.2
  refine c_V0iE (ci := 8) (rr := (RX10, TX10, 12)) (y' := mX10_passTime) dX11_calm_74 lX11_188 kX10_passTime ⟨by decide, by decide⟩ rfl rfl (by decide) ok.1.1 (Nat.le_of_ble_eq_true rfl) (cc_X10_passTime hG ok.1.2) ?_
  have ok := ok.2
  exact cX.cutz (b_X11_calm_77 hG hX0 hrec ok hx) ⟨rfl, rfl, rfl, rfl, rfl, trivial⟩
def F_X11_calm_63 (N : Nat) (rec : Option Nat → Int32 → Int32 → Int32 → Int32 → cS → Nat × Option Nat × Int32 × Int32 × Int32 × Int32 × cS) (x0 : Option Nat) (x1 : Int32) (x2 : Int32) (x3 : Int32) (x4 : Int32) (s0 : Int32) (S : cS) : Nat × Option Nat × Int32 × Int32 × Int32 × Int32 × cS := (rec x0 x1 x2 (x3 + nI 1) x4 S)
def O_X11_calm_63 (N : Nat) (rok : Option Nat → Int32 → Int32 → Int32 → Int32 → cS → Prop) (x0 : Option Nat) (x1 : Int32) (x2 : Int32) (x3 : Int32) (x4 : Int32) (s0 : Int32) (S : cS) : Prop := rok x0 x1 x2 (x3 + nI 1) x4 S
set_option maxRecDepth 100000 in
set_option maxHeartbeats 4000000 in
theorem b_X11_calm_63 {G : zG} {o : cO} {S : cS} {N : Nat} {Q : Option Value → cS → Prop} {X : Nat × Option Nat × Int32 × Int32 × Int32 × Int32 × cS → Prop} (hG : zOK G) (hX0 : ∀ (x0 : Option Nat) (x1 : Int32) (x2 : Int32) (x3 : Int32) (x4 : Int32) (S' : cS), X (0, x0, x1, x2, x3, x4, S') → cX G o dX11_calm mX11_calm 70 [some (va_rf x0), some (.int x1), some (.int x2), some (.int x3), some (.int x4)] [] S' Q) {rec : Option Nat → Int32 → Int32 → Int32 → Int32 → cS → Nat × Option Nat × Int32 × Int32 × Int32 × Int32 × cS} {rok : Option Nat → Int32 → Int32 → Int32 → Int32 → cS → Prop} (hrec : ∀ (x0 : Option Nat) (x1 : Int32) (x2 : Int32) (x3 : Int32) (x4 : Int32) (S : cS), rok x0 x1 x2 x3 x4 S → X (rec x0 x1 x2 x3 x4 S) → cX G o dX11_calm mX11_calm 34 [some (va_rf x0), some (.int x1), some (.int x2), some (.int x3), some (.int x4)] [] S Q) {x0 : Option Nat} {x1 : Int32} {x2 : Int32} {x3 : Int32} {x4 : Int32} {s0 : Int32} (ok : O_X11_calm_63 N rok x0 x1 x2 x3 x4 s0 S) (hx : X (F_X11_calm_63 N rec x0 x1 x2 x3 x4 s0 S)) : cX G o dX11_calm mX11_calm 63 [some (va_rf x0), some (.int x1), some (.int x2), some (.int x3), some (.int x4)] [.int s0] S Q := by
  unfold O_X11_calm_63 at ok
  unfold F_X11_calm_63 at hx
  refine c_pop dX11_calm_63 rfl ?_
  refine c_iinc_3 (v := (x3 + nI 1)) dX11_calm_64 rfl (by first | rfl | (congr 1)) (by decide) rfl ?_
  refine c_goto (tgt := 34) dX11_calm_67 (by decide) ?_
  exact cX.cutz (hrec _ _ _ _ _ S ok hx) ⟨rfl, rfl, rfl, rfl, rfl, trivial⟩
def B_X11_calm_34 (N : Nat) (rec : Option Nat → Int32 → Int32 → Int32 → Int32 → cS → Nat × Option Nat × Int32 × Int32 × Int32 × Int32 × cS) (x0 : Option Nat) (x1 : Int32) (x2 : Int32) (x3 : Int32) (x4 : Int32) (S : cS) : Nat × Option Nat × Int32 × Int32 × Int32 × Int32 × cS := (if (nI 5000) ≤ x3 then (0, x0, x1, x2, x3, x4, S) else (if (f_X9_isRipe N S (za (cR S 6 (za (cR S 0 (za x0))))) x2) = 0 then (0, x0, x1, x2, x3, x4, S) else (F_X11_calm_63 N rec x0 x1 x2 x3 x4 ((f_X10_land N S (za (cR S 0 (za x0))) (nI 0)).1) (f_X10_land N S (za (cR S 0 (za x0))) (nI 0)).2)))
def OB_X11_calm_34 (N : Nat) (rok : Option Nat → Int32 → Int32 → Int32 → Int32 → cS → Prop) (x0 : Option Nat) (x1 : Int32) (x2 : Int32) (x3 : Int32) (x4 : Int32) (S : cS) : Prop := (((nI 5000) ≤ x3 → True) ∧ (¬ (nI 5000) ≤ x3 → (cis S x0 10) ∧ (cis S (cR S 0 (za x0)) 9) ∧ (cis S (cR S 6 (za (cR S 0 (za x0)))) 8 ∧ o_X9_isRipe N S (za (cR S 6 (za (cR S 0 (za x0))))) x2) ∧ (((f_X9_isRipe N S (za (cR S 6 (za (cR S 0 (za x0))))) x2) = 0 → True) ∧ (¬ (f_X9_isRipe N S (za (cR S 6 (za (cR S 0 (za x0))))) x2) = 0 → (cis S x0 10) ∧ (cis S (cR S 0 (za x0)) 9 ∧ o_X10_land N S (za (cR S 0 (za x0))) (nI 0)) ∧ O_X11_calm_63 N rok x0 x1 x2 x3 x4 ((f_X10_land N S (za (cR S 0 (za x0))) (nI 0)).1) (f_X10_land N S (za (cR S 0 (za x0))) (nI 0)).2))))
set_option maxRecDepth 100000 in
set_option maxHeartbeats 4000000 in
theorem bb_X11_calm_34 {G : zG} {o : cO} {S : cS} {N : Nat} {Q : Option Value → cS → Prop} {X : Nat × Option Nat × Int32 × Int32 × Int32 × Int32 × cS → Prop} (hG : zOK G) (hX0 : ∀ (x0 : Option Nat) (x1 : Int32) (x2 : Int32) (x3 : Int32) (x4 : Int32) (S' : cS), X (0, x0, x1, x2, x3, x4, S') → cX G o dX11_calm mX11_calm 70 [some (va_rf x0), some (.int x1), some (.int x2), some (.int x3), some (.int x4)] [] S' Q) {rec : Option Nat → Int32 → Int32 → Int32 → Int32 → cS → Nat × Option Nat × Int32 × Int32 × Int32 × Int32 × cS} {rok : Option Nat → Int32 → Int32 → Int32 → Int32 → cS → Prop} (hrec : ∀ (x0 : Option Nat) (x1 : Int32) (x2 : Int32) (x3 : Int32) (x4 : Int32) (S : cS), rok x0 x1 x2 x3 x4 S → X (rec x0 x1 x2 x3 x4 S) → cX G o dX11_calm mX11_calm 34 [some (va_rf x0), some (.int x1), some (.int x2), some (.int x3), some (.int x4)] [] S Q) {x0 : Option Nat} {x1 : Int32} {x2 : Int32} {x3 : Int32} {x4 : Int32} (ok : OB_X11_calm_34 N rok x0 x1 x2 x3 x4 S) (hx : X (B_X11_calm_34 N rec x0 x1 x2 x3 x4 S)) : cX G o dX11_calm mX11_calm 34 [some (va_rf x0), some (.int x1), some (.int x2), some (.int x3), some (.int x4)] [] S Q := by
  unfold OB_X11_calm_34 at ok
  unfold B_X11_calm_34 at hx
  refine c_iload_n dX11_calm_34 rfl rfl ?_
  refine c_sipush (v := nI 5000) dX11_calm_35 (by decide) ?_
  refine c_icmp_ge (tgt := 70) dX11_calm_38 (by decide) (fun c_38 => ?_) (fun c_38 => ?_)
  · have ok := ok.1 c_38
    have hx := xif_p c_38 hx
    exact cX.cutz (hX0 _ _ _ _ _ S hx) ⟨rfl, rfl, rfl, rfl, rfl, trivial⟩
  · have ok := ok.2 c_38
    have hx := xif_n c_38 hx
    refine c_aload_nQ dX11_calm_41 rfl rfl ?_
    refine c_getR (C := RX11) (T := TX11) (N := 4) (ci := 9) (k := 0) ⟨rfl, inT11, by decide, fX11_22⟩ (by decide) (by decide) (by decide) dX11_calm_42 ok.1 ?_
    have ok := ok.2
    refine c_getR (C := RX10) (T := TX10) (N := 12) (ci := 8) (k := 6) ⟨rfl, inT10, by decide, fX11_38⟩ (by decide) (by decide) (by decide) dX11_calm_45 ok.1 ?_
    have ok := ok.2
    refine c_iload_n dX11_calm_48 rfl rfl ?_
    refine c_V1iE (ci := 7) (rr := (RX9, TX9, 13)) (y' := mX9_isRipe) dX11_calm_49 lX11_184 kX9_isRipe ⟨by decide, by decide⟩ rfl rfl (by decide) ok.1.1 (Nat.le_of_ble_eq_true rfl) (cc_X9_isRipe hG ok.1.2) ?_
    have ok := ok.2
    refine c_if_eq (tgt := 70) dX11_calm_52 (by decide) (fun c_52 => ?_) (fun c_52 => ?_)
    · have ok := ok.1 c_52
      have hx := xif_p c_52 hx
      exact cX.cutz (hX0 _ _ _ _ _ S hx) ⟨rfl, rfl, rfl, rfl, rfl, trivial⟩
    · have ok := ok.2 c_52
      have hx := xif_n c_52 hx
      refine c_aload_nQ dX11_calm_55 rfl rfl ?_
      refine c_getR (C := RX11) (T := TX11) (N := 4) (ci := 9) (k := 0) ⟨rfl, inT11, by decide, fX11_22⟩ (by decide) (by decide) (by decide) dX11_calm_56 ok.1 ?_
      have ok := ok.2
      refine c_iconst (v := nI 0) dX11_calm_59 (by decide) ?_
      refine c_V1iE (ci := 8) (rr := (RX10, TX10, 12)) (y' := mX10_land) dX11_calm_60 lX11_180 kX10_land ⟨by decide, by decide⟩ rfl rfl (by decide) ok.1.1 (Nat.le_of_ble_eq_true rfl) (cc_X10_land hG ok.1.2) ?_
      have ok := ok.2
      exact cX.cutz (b_X11_calm_63 hG hX0 hrec ok hx) ⟨rfl, rfl, rfl, rfl, rfl, trivial⟩
def L_X11_calm_34 (N : Nat) : Nat → Option Nat → Int32 → Int32 → Int32 → Int32 → cS → Nat × Option Nat × Int32 × Int32 × Int32 × Int32 × cS
  | 0, x0, x1, x2, x3, x4, S => (0, none, 0, 0, 0, 0, S)
  | n + 1, x0, x1, x2, x3, x4, S => B_X11_calm_34 N (L_X11_calm_34 N n) x0 x1 x2 x3 x4 S
def OL_X11_calm_34 (N : Nat) : Nat → Option Nat → Int32 → Int32 → Int32 → Int32 → cS → Prop
  | 0, _, _, _, _, _, _ => False
  | n + 1, x0, x1, x2, x3, x4, S => OB_X11_calm_34 N (OL_X11_calm_34 N n) x0 x1 x2 x3 x4 S
set_option maxRecDepth 100000 in
set_option maxHeartbeats 4000000 in
theorem l_X11_calm_34 {G : zG} {o : cO} {N : Nat} {Q : Option Value → cS → Prop} {X : Nat × Option Nat × Int32 × Int32 × Int32 × Int32 × cS → Prop} (hG : zOK G) (hX0 : ∀ (x0 : Option Nat) (x1 : Int32) (x2 : Int32) (x3 : Int32) (x4 : Int32) (S' : cS), X (0, x0, x1, x2, x3, x4, S') → cX G o dX11_calm mX11_calm 70 [some (va_rf x0), some (.int x1), some (.int x2), some (.int x3), some (.int x4)] [] S' Q) : ∀ (n : Nat) (x0 : Option Nat) (x1 : Int32) (x2 : Int32) (x3 : Int32) (x4 : Int32) (S : cS), OL_X11_calm_34 N n x0 x1 x2 x3 x4 S → X (L_X11_calm_34 N n x0 x1 x2 x3 x4 S) → cX G o dX11_calm mX11_calm 34 [some (va_rf x0), some (.int x1), some (.int x2), some (.int x3), some (.int x4)] [] S Q := by
  intro n
  induction n with
  | zero => intro x0 x1 x2 x3 x4 S ok; exact absurd ok id
  | succ n ih =>
    intro x0 x1 x2 x3 x4 S ok hx
    exact bb_X11_calm_34 hG hX0 (rec := L_X11_calm_34 N n) (rok := OL_X11_calm_34 N n) (fun x0 x1 x2 x3 x4 S ok hx => ih x0 x1 x2 x3 x4 S ok hx) ok hx
def A_X11_calm_34 (N : Nat) (rec : Option Nat → Int32 → Int32 → Int32 → Int32 → cS → Nat × Int32 × cS) (x0 : Option Nat) (x1 : Int32) (x2 : Int32) (x3 : Int32) (x4 : Int32) (S : cS) (z : Nat × Option Nat × Int32 × Int32 × Int32 × Int32 × cS) : Nat × Int32 × cS := (F_X11_calm_70 N rec (z.2.1) (z.2.2.1) (z.2.2.2.1) (z.2.2.2.2.1) (z.2.2.2.2.2.1) z.2.2.2.2.2.2)
def OA_X11_calm_34 (N : Nat) (rok : Option Nat → Int32 → Int32 → Int32 → Int32 → cS → Prop) (x0 : Option Nat) (x1 : Int32) (x2 : Int32) (x3 : Int32) (x4 : Int32) (S : cS) (z : Nat × Option Nat × Int32 × Int32 × Int32 × Int32 × cS) : Prop := O_X11_calm_70 N rok (z.2.1) (z.2.2.1) (z.2.2.2.1) (z.2.2.2.2.1) (z.2.2.2.2.2.1) z.2.2.2.2.2.2
set_option maxRecDepth 100000 in
set_option maxHeartbeats 4000000 in
theorem c_X11_calm_34 {G : zG} {o : cO} {S : cS} {N : Nat} {Q : Option Value → cS → Prop} {X : Nat × Int32 × cS → Prop} (hG : zOK G) (hX0 : ∀ (x3 : Int32) (S' : cS), X (0, x3, S') → cX G o dX11_calm mX11_calm 84 [none, none, none, some (.int x3), none] [] S' Q) {rec : Option Nat → Int32 → Int32 → Int32 → Int32 → cS → Nat × Int32 × cS} {rok : Option Nat → Int32 → Int32 → Int32 → Int32 → cS → Prop} (hrec : ∀ (x0 : Option Nat) (x1 : Int32) (x2 : Int32) (x3 : Int32) (x4 : Int32) (S : cS), rok x0 x1 x2 x3 x4 S → X (rec x0 x1 x2 x3 x4 S) → cX G o dX11_calm mX11_calm 28 [some (va_rf x0), some (.int x1), some (.int x2), some (.int x3), some (.int x4)] [] S Q) {x0 : Option Nat} {x1 : Int32} {x2 : Int32} {x3 : Int32} {x4 : Int32} (ok : OL_X11_calm_34 N N x0 x1 x2 x3 x4 S ∧ OA_X11_calm_34 N rok x0 x1 x2 x3 x4 S (L_X11_calm_34 N N x0 x1 x2 x3 x4 S)) (hx : X (A_X11_calm_34 N rec x0 x1 x2 x3 x4 S (L_X11_calm_34 N N x0 x1 x2 x3 x4 S))) : cX G o dX11_calm mX11_calm 34 [some (va_rf x0), some (.int x1), some (.int x2), some (.int x3), some (.int x4)] [] S Q := by
  refine l_X11_calm_34 hG ?_ N x0 x1 x2 x3 x4 S ok.1 (X := fun z => OA_X11_calm_34 N rok x0 x1 x2 x3 x4 S z ∧ X (A_X11_calm_34 N rec x0 x1 x2 x3 x4 S z)) ⟨ok.2, hx⟩
  · intro x0' x1' x2' x3' x4' S' hz
    obtain ⟨ok, hx⟩ := hz
    unfold OA_X11_calm_34 at ok
    unfold A_X11_calm_34 at hx
    exact cX.cutz (b_X11_calm_70 hG hX0 hrec ok hx) ⟨rfl, rfl, rfl, rfl, rfl, trivial⟩
def B_X11_calm_28 (N : Nat) (rec : Option Nat → Int32 → Int32 → Int32 → Int32 → cS → Nat × Int32 × cS) (x0 : Option Nat) (x1 : Int32) (x2 : Int32) (x3 : Int32) (x4 : Int32) (S : cS) : Nat × Int32 × cS := (if x1 ≤ x4 then (0, x3, S) else (A_X11_calm_34 N rec x0 x1 x2 x3 x4 S (L_X11_calm_34 N N x0 x1 x2 x3 x4 S)))
def OB_X11_calm_28 (N : Nat) (rok : Option Nat → Int32 → Int32 → Int32 → Int32 → cS → Prop) (x0 : Option Nat) (x1 : Int32) (x2 : Int32) (x3 : Int32) (x4 : Int32) (S : cS) : Prop := ((x1 ≤ x4 → True) ∧ (¬ x1 ≤ x4 → (OL_X11_calm_34 N N x0 x1 x2 x3 x4 S ∧ OA_X11_calm_34 N rok x0 x1 x2 x3 x4 S (L_X11_calm_34 N N x0 x1 x2 x3 x4 S))))
set_option maxRecDepth 100000 in
set_option maxHeartbeats 4000000 in
theorem bb_X11_calm_28 {G : zG} {o : cO} {S : cS} {N : Nat} {Q : Option Value → cS → Prop} {X : Nat × Int32 × cS → Prop} (hG : zOK G) (hX0 : ∀ (x3 : Int32) (S' : cS), X (0, x3, S') → cX G o dX11_calm mX11_calm 84 [none, none, none, some (.int x3), none] [] S' Q) {rec : Option Nat → Int32 → Int32 → Int32 → Int32 → cS → Nat × Int32 × cS} {rok : Option Nat → Int32 → Int32 → Int32 → Int32 → cS → Prop} (hrec : ∀ (x0 : Option Nat) (x1 : Int32) (x2 : Int32) (x3 : Int32) (x4 : Int32) (S : cS), rok x0 x1 x2 x3 x4 S → X (rec x0 x1 x2 x3 x4 S) → cX G o dX11_calm mX11_calm 28 [some (va_rf x0), some (.int x1), some (.int x2), some (.int x3), some (.int x4)] [] S Q) {x0 : Option Nat} {x1 : Int32} {x2 : Int32} {x3 : Int32} {x4 : Int32} (ok : OB_X11_calm_28 N rok x0 x1 x2 x3 x4 S) (hx : X (B_X11_calm_28 N rec x0 x1 x2 x3 x4 S)) : cX G o dX11_calm mX11_calm 28 [some (va_rf x0), some (.int x1), some (.int x2), some (.int x3), some (.int x4)] [] S Q := by
  unfold OB_X11_calm_28 at ok
  unfold B_X11_calm_28 at hx
  refine c_iload dX11_calm_28 rfl ?_
  refine c_iload_n dX11_calm_30 rfl rfl ?_
  refine c_icmp_ge (tgt := 84) dX11_calm_31 (by decide) (fun c_31 => ?_) (fun c_31 => ?_)
  · have ok := ok.1 c_31
    have hx := xif_p c_31 hx
    exact cX.cutz (hX0 _ S hx) ⟨rfl, trivial⟩
  · have ok := ok.2 c_31
    have hx := xif_n c_31 hx
    exact cX.cutz (c_X11_calm_34 hG hX0 hrec ok hx) ⟨rfl, rfl, rfl, rfl, rfl, trivial⟩
def L_X11_calm_28 (N : Nat) : Nat → Option Nat → Int32 → Int32 → Int32 → Int32 → cS → Nat × Int32 × cS
  | 0, x0, x1, x2, x3, x4, S => (0, 0, S)
  | n + 1, x0, x1, x2, x3, x4, S => B_X11_calm_28 N (L_X11_calm_28 N n) x0 x1 x2 x3 x4 S
def OL_X11_calm_28 (N : Nat) : Nat → Option Nat → Int32 → Int32 → Int32 → Int32 → cS → Prop
  | 0, _, _, _, _, _, _ => False
  | n + 1, x0, x1, x2, x3, x4, S => OB_X11_calm_28 N (OL_X11_calm_28 N n) x0 x1 x2 x3 x4 S
set_option maxRecDepth 100000 in
set_option maxHeartbeats 4000000 in
theorem l_X11_calm_28 {G : zG} {o : cO} {N : Nat} {Q : Option Value → cS → Prop} {X : Nat × Int32 × cS → Prop} (hG : zOK G) (hX0 : ∀ (x3 : Int32) (S' : cS), X (0, x3, S') → cX G o dX11_calm mX11_calm 84 [none, none, none, some (.int x3), none] [] S' Q) : ∀ (n : Nat) (x0 : Option Nat) (x1 : Int32) (x2 : Int32) (x3 : Int32) (x4 : Int32) (S : cS), OL_X11_calm_28 N n x0 x1 x2 x3 x4 S → X (L_X11_calm_28 N n x0 x1 x2 x3 x4 S) → cX G o dX11_calm mX11_calm 28 [some (va_rf x0), some (.int x1), some (.int x2), some (.int x3), some (.int x4)] [] S Q := by
  intro n
  induction n with
  | zero => intro x0 x1 x2 x3 x4 S ok; exact absurd ok id
  | succ n ih =>
    intro x0 x1 x2 x3 x4 S ok hx
    exact bb_X11_calm_28 hG hX0 (rec := L_X11_calm_28 N n) (rok := OL_X11_calm_28 N n) (fun x0 x1 x2 x3 x4 S ok hx => ih x0 x1 x2 x3 x4 S ok hx) ok hx
def A_X11_calm_28 (N : Nat) (x0 : Option Nat) (x1 : Int32) (x2 : Int32) (x3 : Int32) (x4 : Int32) (S : cS) (z : Nat × Int32 × cS) : Int32 × cS := (F_X11_calm_84 N (z.2.1) z.2.2)
def OA_X11_calm_28 (N : Nat) (x0 : Option Nat) (x1 : Int32) (x2 : Int32) (x3 : Int32) (x4 : Int32) (S : cS) (z : Nat × Int32 × cS) : Prop := O_X11_calm_84 N (z.2.1) z.2.2
set_option maxRecDepth 100000 in
set_option maxHeartbeats 4000000 in
theorem c_X11_calm_28 {G : zG} {o : cO} {S : cS} {N : Nat} {Q : Option Value → cS → Prop} {X : Int32 × cS → Prop} (hG : zOK G) (hR : ∀ v S', X (v, S') → Q (some (.int v)) S') {x0 : Option Nat} {x1 : Int32} {x2 : Int32} {x3 : Int32} {x4 : Int32} (ok : OL_X11_calm_28 N N x0 x1 x2 x3 x4 S ∧ OA_X11_calm_28 N x0 x1 x2 x3 x4 S (L_X11_calm_28 N N x0 x1 x2 x3 x4 S)) (hx : X (A_X11_calm_28 N x0 x1 x2 x3 x4 S (L_X11_calm_28 N N x0 x1 x2 x3 x4 S))) : cX G o dX11_calm mX11_calm 28 [some (va_rf x0), some (.int x1), some (.int x2), some (.int x3), some (.int x4)] [] S Q := by
  refine l_X11_calm_28 hG ?_ N x0 x1 x2 x3 x4 S ok.1 (X := fun z => OA_X11_calm_28 N x0 x1 x2 x3 x4 S z ∧ X (A_X11_calm_28 N x0 x1 x2 x3 x4 S z)) ⟨ok.2, hx⟩
  · intro x3' S' hz
    obtain ⟨ok, hx⟩ := hz
    unfold OA_X11_calm_28 at ok
    unfold A_X11_calm_28 at hx
    exact cX.cutz (b_X11_calm_84 hG hR ok hx) ⟨rfl, trivial⟩
def F_X11_calm_21 (N : Nat)  (S : cS) : Int32 × cS := ((-1), S)
def O_X11_calm_21 (N : Nat)  (S : cS) : Prop := True
set_option maxRecDepth 100000 in
set_option maxHeartbeats 4000000 in
theorem b_X11_calm_21 {G : zG} {o : cO} {S : cS} {N : Nat} {Q : Option Value → cS → Prop} {X : Int32 × cS → Prop} (hG : zOK G) (hR : ∀ v S', X (v, S') → Q (some (.int v)) S') (ok : O_X11_calm_21 N S) (hx : X (F_X11_calm_21 N S)) : cX G o dX11_calm mX11_calm 21 [none, none, none, none, none] [] S Q := by
  unfold O_X11_calm_21 at ok
  unfold F_X11_calm_21 at hx
  refine c_iconst (v := -1) dX11_calm_21 (by decide) ?_
  exact c_ireturn rfl rfl dX11_calm_22 (hR _ _ hx)
def F_X11_calm_0 (N : Nat) (x0 : Option Nat) (x1 : Int32) (x2 : Int32) (S : cS) : Int32 × cS := (if x1 < (nI 1) then (F_X11_calm_21 N S) else (if (nI 64) < x1 then (F_X11_calm_21 N S) else (if x2 < 0 then (F_X11_calm_21 N S) else (if x2 ≤ (nI 9) then (A_X11_calm_28 N x0 x1 x2 (nI 0) (nI 0) S (L_X11_calm_28 N N x0 x1 x2 (nI 0) (nI 0) S)) else (F_X11_calm_21 N S)))))
def O_X11_calm_0 (N : Nat) (x0 : Option Nat) (x1 : Int32) (x2 : Int32) (S : cS) : Prop := ((x1 < (nI 1) → O_X11_calm_21 N S) ∧ (¬ x1 < (nI 1) → (((nI 64) < x1 → O_X11_calm_21 N S) ∧ (¬ (nI 64) < x1 → ((x2 < 0 → O_X11_calm_21 N S) ∧ (¬ x2 < 0 → ((x2 ≤ (nI 9) → (OL_X11_calm_28 N N x0 x1 x2 (nI 0) (nI 0) S ∧ OA_X11_calm_28 N x0 x1 x2 (nI 0) (nI 0) S (L_X11_calm_28 N N x0 x1 x2 (nI 0) (nI 0) S))) ∧ (¬ x2 ≤ (nI 9) → O_X11_calm_21 N S))))))))
set_option maxRecDepth 100000 in
set_option maxHeartbeats 4000000 in
theorem b_X11_calm_0 {G : zG} {o : cO} {S : cS} {N : Nat} {Q : Option Value → cS → Prop} {X : Int32 × cS → Prop} (hG : zOK G) (hR : ∀ v S', X (v, S') → Q (some (.int v)) S') {x0 : Option Nat} {x1 : Int32} {x2 : Int32} (ok : O_X11_calm_0 N x0 x1 x2 S) (hx : X (F_X11_calm_0 N x0 x1 x2 S)) : cX G o dX11_calm mX11_calm 0 [some (va_rf x0), some (.int x1), some (.int x2), none, none] [] S Q := by
  unfold O_X11_calm_0 at ok
  unfold F_X11_calm_0 at hx
  refine c_iload_n dX11_calm_0 rfl rfl ?_
  refine c_iconst (v := nI 1) dX11_calm_1 (by decide) ?_
  refine c_icmp_lt (tgt := 21) dX11_calm_2 (by decide) (fun c_2 => ?_) (fun c_2 => ?_)
  · have ok := ok.1 c_2
    have hx := xif_p c_2 hx
    exact cX.cutz (b_X11_calm_21 hG hR ok hx) trivial
  · have ok := ok.2 c_2
    have hx := xif_n c_2 hx
    refine c_iload_n dX11_calm_5 rfl rfl ?_
    refine c_bipush (v := nI 64) dX11_calm_6 (by decide) ?_
    refine c_icmp_gt (tgt := 21) dX11_calm_8 (by decide) (fun c_8 => ?_) (fun c_8 => ?_)
    · have ok := ok.1 c_8
      have hx := xif_p c_8 hx
      exact cX.cutz (b_X11_calm_21 hG hR ok hx) trivial
    · have ok := ok.2 c_8
      have hx := xif_n c_8 hx
      refine c_iload_n dX11_calm_11 rfl rfl ?_
      refine c_if_lt (tgt := 21) dX11_calm_12 (by decide) (fun c_12 => ?_) (fun c_12 => ?_)
      · have ok := ok.1 c_12
        have hx := xif_p c_12 hx
        exact cX.cutz (b_X11_calm_21 hG hR ok hx) trivial
      · have ok := ok.2 c_12
        have hx := xif_n c_12 hx
        refine c_iload_n dX11_calm_15 rfl rfl ?_
        refine c_bipush (v := nI 9) dX11_calm_16 (by decide) ?_
        refine c_icmp_le (tgt := 23) dX11_calm_18 (by decide) (fun c_18 => ?_) (fun c_18 => ?_)
        · have ok := ok.1 c_18
          have hx := xif_p c_18 hx
          refine c_iconst (v := nI 0) dX11_calm_23 (by decide) ?_
          refine c_istore_3 dX11_calm_24 (by decide) rfl ?_
          refine c_iconst (v := nI 0) dX11_calm_25 (by decide) ?_
          refine c_istore_4 dX11_calm_26 (by decide) rfl ?_
          exact cX.cutz (c_X11_calm_28 hG hR ok hx) ⟨rfl, rfl, rfl, rfl, rfl, trivial⟩
        · have ok := ok.2 c_18
          have hx := xif_n c_18 hx
          exact cX.cutz (b_X11_calm_21 hG hR ok hx) trivial
def f_X11_calm (N : Nat) (S : cS) (a0 : Nat) (x1 : Int32) (x2 : Int32) : Int32 × cS := F_X11_calm_0 N (some a0) x1 x2 S
def o_X11_calm (N : Nat) (S : cS) (a0 : Nat) (x1 : Int32) (x2 : Int32) : Prop := O_X11_calm_0 N (some a0) x1 x2 S
set_option maxRecDepth 100000 in
set_option maxHeartbeats 4000000 in
theorem cc_X11_calm {G : zG} {o : cO} {S : cS} {N : Nat} (hG : zOK G) {a0 : Nat} {x1 : Int32} {x2 : Int32} (ok : o_X11_calm N S a0 x1 x2) : cCi G o dX11_calm mX11_calm [.ref a0, .int x1, .int x2] S (fun v S' => v = (f_X11_calm N S a0 x1 x2).1 ∧ S' = (f_X11_calm N S a0 x1 x2).2) := by
  refine cC.ofX rfl (by exact Nat.le_of_ble_eq_true rfl) ?_
  show cX G o dX11_calm mX11_calm 0 [some (.ref a0), some (.int x1), some (.int x2), none, none] [] S _
  exact cX.cutz (b_X11_calm_0 (X := fun F => F = f_X11_calm N S a0 x1 x2) hG (fun v S' h => ⟨v, rfl, by rw [← h], by rw [← h]⟩) ok rfl) ⟨rfl, rfl, rfl, trivial⟩
/-! X11_copy -/
def F_X11_copy_42 (N : Nat)  (S : cS) : Int32 × cS := ((nI 1), S)
def O_X11_copy_42 (N : Nat)  (S : cS) : Prop := True
set_option maxRecDepth 100000 in
set_option maxHeartbeats 4000000 in
theorem b_X11_copy_42 {G : zG} {o : cO} {S : cS} {N : Nat} {Q : Option Value → cS → Prop} {X : Int32 × cS → Prop} (hG : zOK G) (hR : ∀ v S', X (v, S') → Q (some (.int v)) S') (ok : O_X11_copy_42 N S) (hx : X (F_X11_copy_42 N S)) : cX G o dX11_copy mX11_copy 42 [none, none, none, none] [] S Q := by
  unfold O_X11_copy_42 at ok
  unfold F_X11_copy_42 at hx
  refine c_iconst (v := nI 1) dX11_copy_42 (by decide) ?_
  exact c_ireturn rfl rfl dX11_copy_43 (hR _ _ hx)
def F_X11_copy_25 (N : Nat)  (S : cS) : Int32 × cS := ((nI 0), S)
def O_X11_copy_25 (N : Nat)  (S : cS) : Prop := True
set_option maxRecDepth 100000 in
set_option maxHeartbeats 4000000 in
theorem b_X11_copy_25 {G : zG} {o : cO} {S : cS} {N : Nat} {Q : Option Value → cS → Prop} {X : Int32 × cS → Prop} (hG : zOK G) (hR : ∀ v S', X (v, S') → Q (some (.int v)) S') (ok : O_X11_copy_25 N S) (hx : X (F_X11_copy_25 N S)) : cX G o dX11_copy mX11_copy 25 [none, none, none, none] [] S Q := by
  unfold O_X11_copy_25 at ok
  unfold F_X11_copy_25 at hx
  refine c_iconst (v := nI 0) dX11_copy_25 (by decide) ?_
  exact c_ireturn rfl rfl dX11_copy_26 (hR _ _ hx)
def F_X11_copy_0 (N : Nat) (x0 : Option Nat) (x1 : Int32) (S : cS) : Int32 × cS := (if (f_X9_loadOf N S (za (cR S 6 (za (cR S 0 (za x0))))) x1) = none then (F_X11_copy_25 N S) else (if (f_X9_hasRoom N S (za (cR S 6 (za (cR S 0 (za x0)))))) = 0 then (F_X11_copy_25 N S) else (F_X11_copy_42 N (f_X9_launch N S (za (cR S 6 (za (cR S 0 (za x0))))) (f_X9_senderOf N S (za (cR S 6 (za (cR S 0 (za x0))))) x1) (f_X9_receiverOf N S (za (cR S 6 (za (cR S 0 (za x0))))) x1) (f_X9_loadOf N S (za (cR S 6 (za (cR S 0 (za x0))))) x1)))))
def O_X11_copy_0 (N : Nat) (x0 : Option Nat) (x1 : Int32) (S : cS) : Prop := (cis S x0 10) ∧ (cis S (cR S 0 (za x0)) 9) ∧ (cis S (cR S 6 (za (cR S 0 (za x0)))) 8 ∧ o_X9_loadOf N S (za (cR S 6 (za (cR S 0 (za x0))))) x1) ∧ (((f_X9_loadOf N S (za (cR S 6 (za (cR S 0 (za x0))))) x1) = none → O_X11_copy_25 N S) ∧ (¬ (f_X9_loadOf N S (za (cR S 6 (za (cR S 0 (za x0))))) x1) = none → (cis S (cR S 6 (za (cR S 0 (za x0)))) 8 ∧ o_X9_hasRoom N S (za (cR S 6 (za (cR S 0 (za x0)))))) ∧ (((f_X9_hasRoom N S (za (cR S 6 (za (cR S 0 (za x0)))))) = 0 → O_X11_copy_25 N S) ∧ (¬ (f_X9_hasRoom N S (za (cR S 6 (za (cR S 0 (za x0)))))) = 0 → (cis S (cR S 6 (za (cR S 0 (za x0)))) 8 ∧ o_X9_senderOf N S (za (cR S 6 (za (cR S 0 (za x0))))) x1) ∧ (cis S (cR S 6 (za (cR S 0 (za x0)))) 8 ∧ o_X9_receiverOf N S (za (cR S 6 (za (cR S 0 (za x0))))) x1) ∧ (cis S (cR S 6 (za (cR S 0 (za x0)))) 8 ∧ o_X9_launch N S (za (cR S 6 (za (cR S 0 (za x0))))) (f_X9_senderOf N S (za (cR S 6 (za (cR S 0 (za x0))))) x1) (f_X9_receiverOf N S (za (cR S 6 (za (cR S 0 (za x0))))) x1) (f_X9_loadOf N S (za (cR S 6 (za (cR S 0 (za x0))))) x1)) ∧ O_X11_copy_42 N (f_X9_launch N S (za (cR S 6 (za (cR S 0 (za x0))))) (f_X9_senderOf N S (za (cR S 6 (za (cR S 0 (za x0))))) x1) (f_X9_receiverOf N S (za (cR S 6 (za (cR S 0 (za x0))))) x1) (f_X9_loadOf N S (za (cR S 6 (za (cR S 0 (za x0))))) x1))))))
set_option maxRecDepth 100000 in
set_option maxHeartbeats 4000000 in
theorem b_X11_copy_0 {G : zG} {o : cO} {S : cS} {N : Nat} {Q : Option Value → cS → Prop} {X : Int32 × cS → Prop} (hG : zOK G) (hR : ∀ v S', X (v, S') → Q (some (.int v)) S') {x0 : Option Nat} {x1 : Int32} (ok : O_X11_copy_0 N x0 x1 S) (hx : X (F_X11_copy_0 N x0 x1 S)) : cX G o dX11_copy mX11_copy 0 [some (va_rf x0), some (.int x1), none, none] [] S Q := by
  unfold O_X11_copy_0 at ok
  unfold F_X11_copy_0 at hx
  refine c_aload_nQ dX11_copy_0 rfl rfl ?_
  refine c_getR (C := RX11) (T := TX11) (N := 4) (ci := 9) (k := 0) ⟨rfl, inT11, by decide, fX11_22⟩ (by decide) (by decide) (by decide) dX11_copy_1 ok.1 ?_
  have ok := ok.2
  refine c_getR (C := RX10) (T := TX10) (N := 12) (ci := 8) (k := 6) ⟨rfl, inT10, by decide, fX11_38⟩ (by decide) (by decide) (by decide) dX11_copy_4 ok.1 ?_
  have ok := ok.2
  refine c_astore_2Q dX11_copy_7 (by decide) rfl ?_
  refine c_aload_nQ dX11_copy_8 rfl rfl ?_
  refine c_iload_n dX11_copy_9 rfl rfl ?_
  refine c_V1qE (ci := 7) (rr := (RX9, TX9, 13)) (y' := mX9_loadOf) dX11_copy_10 lX11_84 kX9_loadOf ⟨by decide, by decide⟩ rfl rfl (by decide) ok.1.1 (Nat.le_of_ble_eq_true rfl) (cc_X9_loadOf hG ok.1.2) ?_
  have ok := ok.2
  refine c_astore_3Q dX11_copy_13 (by decide) (by simp [zok, zg, zcat_rf]) ?_
  refine c_aload_nQ dX11_copy_14 rfl rfl ?_
  refine c_ifnullI (tgt := 25) dX11_copy_15 (by decide) (fun c_15 => ?_) (fun c_15 => ?_)
  · have ok := ok.1 c_15
    have hx := xif_p c_15 hx
    exact cX.cutz (b_X11_copy_25 hG hR ok hx) trivial
  · have ok := ok.2 c_15
    have hx := xif_n c_15 hx
    refine c_aload_nQ dX11_copy_18 rfl rfl ?_
    refine c_V0iE (ci := 7) (rr := (RX9, TX9, 13)) (y' := mX9_hasRoom) dX11_copy_19 lX11_90 kX9_hasRoom ⟨by decide, by decide⟩ rfl rfl (by decide) ok.1.1 (Nat.le_of_ble_eq_true rfl) (cc_X9_hasRoom hG ok.1.2) ?_
    have ok := ok.2
    refine c_if_ne (tgt := 27) dX11_copy_22 (by decide) (fun c_22 => ?_) (fun c_22 => ?_)
    · have ok := ok.2 c_22
      have hx := xif_n c_22 hx
      refine c_aload_nQ dX11_copy_27 rfl rfl ?_
      refine c_aload_nQ dX11_copy_28 rfl rfl ?_
      refine c_iload_n dX11_copy_29 rfl rfl ?_
      refine c_V1iE (ci := 7) (rr := (RX9, TX9, 13)) (y' := mX9_senderOf) dX11_copy_30 lX11_191 kX9_senderOf ⟨by decide, by decide⟩ rfl rfl (by decide) ok.1.1 (by simp only [List.map_cons, List.map_nil, List.sum_cons, List.sum_nil, zcat_rf, zcat_i, zcat_l, zcat_r] <;> decide) (cc_X9_senderOf hG ok.1.2) ?_
      have ok := ok.2
      refine c_aload_nQ dX11_copy_33 rfl rfl ?_
      refine c_iload_n dX11_copy_34 rfl rfl ?_
      refine c_V1iE (ci := 7) (rr := (RX9, TX9, 13)) (y' := mX9_receiverOf) dX11_copy_35 lX11_194 kX9_receiverOf ⟨by decide, by decide⟩ rfl rfl (by decide) ok.1.1 (by simp only [List.map_cons, List.map_nil, List.sum_cons, List.sum_nil, zcat_rf, zcat_i, zcat_l, zcat_r] <;> decide) (cc_X9_receiverOf hG ok.1.2) ?_
      have ok := ok.2
      refine c_aload_nQ dX11_copy_38 rfl rfl ?_
      refine c_V3vE (ci := 7) (rr := (RX9, TX9, 13)) (y' := mX9_launch) dX11_copy_39 lX11_197 kX9_launch ⟨by decide, by decide⟩ rfl rfl (by decide) ok.1.1 (Nat.le_of_ble_eq_true rfl) (cc_X9_launch hG ok.1.2) ?_
      have ok := ok.2
      exact cX.cutz (b_X11_copy_42 hG hR ok hx) trivial
    · have ok := ok.1 c_22
      have hx := xif_p c_22 hx
      exact cX.cutz (b_X11_copy_25 hG hR ok hx) trivial
def f_X11_copy (N : Nat) (S : cS) (a0 : Nat) (x1 : Int32) : Int32 × cS := F_X11_copy_0 N (some a0) x1 S
def o_X11_copy (N : Nat) (S : cS) (a0 : Nat) (x1 : Int32) : Prop := O_X11_copy_0 N (some a0) x1 S
set_option maxRecDepth 100000 in
set_option maxHeartbeats 4000000 in
theorem cc_X11_copy {G : zG} {o : cO} {S : cS} {N : Nat} (hG : zOK G) {a0 : Nat} {x1 : Int32} (ok : o_X11_copy N S a0 x1) : cCi G o dX11_copy mX11_copy [.ref a0, .int x1] S (fun v S' => v = (f_X11_copy N S a0 x1).1 ∧ S' = (f_X11_copy N S a0 x1).2) := by
  refine cC.ofX rfl (by exact Nat.le_of_ble_eq_true rfl) ?_
  show cX G o dX11_copy mX11_copy 0 [some (.ref a0), some (.int x1), none, none] [] S _
  exact cX.cutz (b_X11_copy_0 (X := fun F => F = f_X11_copy N S a0 x1) hG (fun v S' h => ⟨v, rfl, by rw [← h], by rw [← h]⟩) ok rfl) ⟨rfl, rfl, trivial⟩
/-! X11_flying -/
def F_X11_flying_0 (N : Nat) (x0 : Option Nat) (x1 : Int32) (x2 : Int32) (S : cS) : Int32 := (if (f_X9_loadOf N S (za (cR S 6 (za (cR S 0 (za x0))))) x1) = none then (-1) else (if x2 = nI 0 then (f_X9_senderOf N S (za (cR S 6 (za (cR S 0 (za x0))))) x1) else (if x2 = nI 1 then (f_X9_receiverOf N S (za (cR S 6 (za (cR S 0 (za x0))))) x1) else (if x2 = nI 2 then (cI S 2 (za (f_X9_loadOf N S (za (cR S 6 (za (cR S 0 (za x0))))) x1))) else (-1)))))
def O_X11_flying_0 (N : Nat) (x0 : Option Nat) (x1 : Int32) (x2 : Int32) (S : cS) : Prop := (cis S x0 10) ∧ (cis S (cR S 0 (za x0)) 9) ∧ (cis S (cR S 6 (za (cR S 0 (za x0)))) 8 ∧ o_X9_loadOf N S (za (cR S 6 (za (cR S 0 (za x0))))) x1) ∧ (((f_X9_loadOf N S (za (cR S 6 (za (cR S 0 (za x0))))) x1) = none → True) ∧ (¬ (f_X9_loadOf N S (za (cR S 6 (za (cR S 0 (za x0))))) x1) = none → ((x2 = nI 0 → (cis S x0 10) ∧ (cis S (cR S 0 (za x0)) 9) ∧ (cis S (cR S 6 (za (cR S 0 (za x0)))) 8 ∧ o_X9_senderOf N S (za (cR S 6 (za (cR S 0 (za x0))))) x1) ∧ True) ∧ (¬ x2 = nI 0 → ((x2 = nI 1 → (cis S x0 10) ∧ (cis S (cR S 0 (za x0)) 9) ∧ (cis S (cR S 6 (za (cR S 0 (za x0)))) 8 ∧ o_X9_receiverOf N S (za (cR S 6 (za (cR S 0 (za x0))))) x1) ∧ True) ∧ (¬ x2 = nI 1 → ((x2 = nI 2 → (cis S (f_X9_loadOf N S (za (cR S 6 (za (cR S 0 (za x0))))) x1) 5) ∧ True) ∧ (¬ x2 = nI 2 → True))))))))
set_option maxRecDepth 100000 in
set_option maxHeartbeats 4000000 in
theorem b_X11_flying_0 {G : zG} {o : cO} {S : cS} {N : Nat} {Q : Option Value → cS → Prop} {X : Int32 → Prop} (hG : zOK G) (hR : ∀ v, X v → Q (some (.int v)) S) {x0 : Option Nat} {x1 : Int32} {x2 : Int32} (ok : O_X11_flying_0 N x0 x1 x2 S) (hx : X (F_X11_flying_0 N x0 x1 x2 S)) : cX G o dX11_flying mX11_flying 0 [some (va_rf x0), some (.int x1), some (.int x2), none] [] S Q := by
  unfold O_X11_flying_0 at ok
  unfold F_X11_flying_0 at hx
  refine c_aload_nQ dX11_flying_0 rfl rfl ?_
  refine c_getR (C := RX11) (T := TX11) (N := 4) (ci := 9) (k := 0) ⟨rfl, inT11, by decide, fX11_22⟩ (by decide) (by decide) (by decide) dX11_flying_1 ok.1 ?_
  have ok := ok.2
  refine c_getR (C := RX10) (T := TX10) (N := 12) (ci := 8) (k := 6) ⟨rfl, inT10, by decide, fX11_38⟩ (by decide) (by decide) (by decide) dX11_flying_4 ok.1 ?_
  have ok := ok.2
  refine c_iload_n dX11_flying_7 rfl rfl ?_
  refine c_V1qE (ci := 7) (rr := (RX9, TX9, 13)) (y' := mX9_loadOf) dX11_flying_8 lX11_84 kX9_loadOf ⟨by decide, by decide⟩ rfl rfl (by decide) ok.1.1 (Nat.le_of_ble_eq_true rfl) (cc_X9_loadOf hG ok.1.2) ?_
  have ok := ok.2
  refine c_astore_3Q dX11_flying_11 (by decide) rfl ?_
  refine c_aload_nQ dX11_flying_12 rfl rfl ?_
  refine c_ifnonnullI (tgt := 18) dX11_flying_13 (by decide) (fun c_13 => ?_) (fun c_13 => ?_)
  · have ok := ok.2 c_13
    have hx := xif_n c_13 hx
    refine c_iload_n dX11_flying_18 rfl rfl ?_
    by_cases c_19_0 : x2 = nI 0
    · have ok := ok.1 c_19_0
      have hx := xif_p c_19_0 hx
      refine c_tableIn (off := 25) (tgt := 44) dX11_flying_19 (by rw [c_19_0]; decide) (by rw [c_19_0]; decide) (by rw [c_19_0]; rfl) (by decide) ?_
      refine c_aload_nQ dX11_flying_44 rfl rfl ?_
      refine c_getR (C := RX11) (T := TX11) (N := 4) (ci := 9) (k := 0) ⟨rfl, inT11, by decide, fX11_22⟩ (by decide) (by decide) (by decide) dX11_flying_45 ok.1 ?_
      have ok := ok.2
      refine c_getR (C := RX10) (T := TX10) (N := 12) (ci := 8) (k := 6) ⟨rfl, inT10, by decide, fX11_38⟩ (by decide) (by decide) (by decide) dX11_flying_48 ok.1 ?_
      have ok := ok.2
      refine c_iload_n dX11_flying_51 rfl rfl ?_
      refine c_V1iE (ci := 7) (rr := (RX9, TX9, 13)) (y' := mX9_senderOf) dX11_flying_52 lX11_191 kX9_senderOf ⟨by decide, by decide⟩ rfl rfl (by decide) ok.1.1 (Nat.le_of_ble_eq_true rfl) (cc_X9_senderOf hG ok.1.2) ?_
      have ok := ok.2
      exact c_ireturn rfl rfl dX11_flying_55 (hR _ hx)
    · have ok := ok.2 c_19_0
      have hx := xif_n c_19_0 hx
      by_cases c_19_1 : x2 = nI 1
      · have ok := ok.1 c_19_1
        have hx := xif_p c_19_1 hx
        refine c_tableIn (off := 37) (tgt := 56) dX11_flying_19 (by rw [c_19_1]; decide) (by rw [c_19_1]; decide) (by rw [c_19_1]; rfl) (by decide) ?_
        refine c_aload_nQ dX11_flying_56 rfl rfl ?_
        refine c_getR (C := RX11) (T := TX11) (N := 4) (ci := 9) (k := 0) ⟨rfl, inT11, by decide, fX11_22⟩ (by decide) (by decide) (by decide) dX11_flying_57 ok.1 ?_
        have ok := ok.2
        refine c_getR (C := RX10) (T := TX10) (N := 12) (ci := 8) (k := 6) ⟨rfl, inT10, by decide, fX11_38⟩ (by decide) (by decide) (by decide) dX11_flying_60 ok.1 ?_
        have ok := ok.2
        refine c_iload_n dX11_flying_63 rfl rfl ?_
        refine c_V1iE (ci := 7) (rr := (RX9, TX9, 13)) (y' := mX9_receiverOf) dX11_flying_64 lX11_194 kX9_receiverOf ⟨by decide, by decide⟩ rfl rfl (by decide) ok.1.1 (Nat.le_of_ble_eq_true rfl) (cc_X9_receiverOf hG ok.1.2) ?_
        have ok := ok.2
        exact c_ireturn rfl rfl dX11_flying_67 (hR _ hx)
      · have ok := ok.2 c_19_1
        have hx := xif_n c_19_1 hx
        by_cases c_19_2 : x2 = nI 2
        · have ok := ok.1 c_19_2
          have hx := xif_p c_19_2 hx
          refine c_tableIn (off := 49) (tgt := 68) dX11_flying_19 (by rw [c_19_2]; decide) (by rw [c_19_2]; decide) (by rw [c_19_2]; rfl) (by decide) ?_
          refine c_aload_nQ dX11_flying_68 rfl rfl ?_
          refine c_getI (C := RX5) (T := TX5) (N := 7) (ci := 4) (k := 2) ⟨rfl, inT5, by decide, fX11_150⟩ (by decide) (by decide) (by decide) dX11_flying_69 ok.1 ?_
          have ok := ok.2
          exact c_ireturn rfl rfl dX11_flying_72 (hR _ hx)
        · have ok := ok.2 c_19_2
          have hx := xif_n c_19_2 hx
          refine c_tableOut (tgt := 73) dX11_flying_19 (zsw 3 (by intro k hk; rcases (show k = 0 ∨ k = 1 ∨ k = 2 by omega) with rfl | rfl | rfl <;> assumption) (by decide) (by decide)) (by decide) ?_
          refine c_iconst (v := -1) dX11_flying_73 (by decide) ?_
          exact c_ireturn rfl rfl dX11_flying_74 (hR _ hx)
  · have ok := ok.1 c_13
    have hx := xif_p c_13 hx
    refine c_iconst (v := -1) dX11_flying_16 (by decide) ?_
    exact c_ireturn rfl rfl dX11_flying_17 (hR _ hx)
def f_X11_flying (N : Nat) (S : cS) (a0 : Nat) (x1 : Int32) (x2 : Int32) : Int32 := F_X11_flying_0 N (some a0) x1 x2 S
def o_X11_flying (N : Nat) (S : cS) (a0 : Nat) (x1 : Int32) (x2 : Int32) : Prop := O_X11_flying_0 N (some a0) x1 x2 S
set_option maxRecDepth 100000 in
set_option maxHeartbeats 4000000 in
theorem cc_X11_flying {G : zG} {o : cO} {S : cS} {N : Nat} (hG : zOK G) {a0 : Nat} {x1 : Int32} {x2 : Int32} (ok : o_X11_flying N S a0 x1 x2) : cCi G o dX11_flying mX11_flying [.ref a0, .int x1, .int x2] S (fun v S' => v = f_X11_flying N S a0 x1 x2 ∧ S' = S) := by
  refine cC.ofX rfl (by exact Nat.le_of_ble_eq_true rfl) ?_
  show cX G o dX11_flying mX11_flying 0 [some (.ref a0), some (.int x1), some (.int x2), none] [] S _
  exact cX.cutz (b_X11_flying_0 (X := fun F => F = f_X11_flying N S a0 x1 x2) hG (fun v h => ⟨v, rfl, h, rfl⟩) ok rfl) ⟨rfl, rfl, rfl, trivial⟩
/-! X11_bytes -/
def F_X11_bytes_38 (N : Nat) (s0 : Int64) (S : cS) : Int64 := s0
def O_X11_bytes_38 (N : Nat) (s0 : Int64) (S : cS) : Prop := True
set_option maxRecDepth 100000 in
set_option maxHeartbeats 4000000 in
theorem b_X11_bytes_38 {G : zG} {o : cO} {S : cS} {N : Nat} {Q : Option Value → cS → Prop} {X : Int64 → Prop} (hG : zOK G) (hR : ∀ v, X v → Q (some (.long v)) S) {s0 : Int64} (ok : O_X11_bytes_38 N s0 S) (hx : X (F_X11_bytes_38 N s0 S)) : cX G o dX11_bytes mX11_bytes 38 [none, none, none, none] [.long s0] S Q := by
  unfold O_X11_bytes_38 at ok
  unfold F_X11_bytes_38 at hx
  exact c_lreturn rfl dX11_bytes_38 (hR _ hx)
def F_X11_bytes_20 (N : Nat)  (S : cS) : Int64 := (F_X11_bytes_38 N (-1 : Int64) S)
def O_X11_bytes_20 (N : Nat)  (S : cS) : Prop := O_X11_bytes_38 N (-1 : Int64) S
set_option maxRecDepth 100000 in
set_option maxHeartbeats 4000000 in
theorem b_X11_bytes_20 {G : zG} {o : cO} {S : cS} {N : Nat} {Q : Option Value → cS → Prop} {X : Int64 → Prop} (hG : zOK G) (hR : ∀ v, X v → Q (some (.long v)) S) (ok : O_X11_bytes_20 N S) (hx : X (F_X11_bytes_20 N S)) : cX G o dX11_bytes mX11_bytes 20 [none, none, none, none] [] S Q := by
  unfold O_X11_bytes_20 at ok
  unfold F_X11_bytes_20 at hx
  refine c_ldc2 dX11_bytes_20 nX11_200 ?_
  refine c_goto (tgt := 38) dX11_bytes_23 (by decide) ?_
  exact cX.cutz (b_X11_bytes_38 hG hR ok hx) trivial
def F_X11_bytes_0 (N : Nat) (x0 : Option Nat) (x1 : Int32) (x2 : Int32) (S : cS) : Int64 := (if (f_X9_loadOf N S (za (cR S 6 (za (cR S 0 (za x0))))) x1) = none then (F_X11_bytes_20 N S) else (if 0 ≤ x2 then (F_X11_bytes_38 N (f_X11_eight N S (cR S 0 (za (f_X9_loadOf N S (za (cR S 6 (za (cR S 0 (za x0))))) x1))) (cI S 2 (za (f_X9_loadOf N S (za (cR S 6 (za (cR S 0 (za x0))))) x1))) x2) S) else (F_X11_bytes_20 N S)))
def O_X11_bytes_0 (N : Nat) (x0 : Option Nat) (x1 : Int32) (x2 : Int32) (S : cS) : Prop := (cis S x0 10) ∧ (cis S (cR S 0 (za x0)) 9) ∧ (cis S (cR S 6 (za (cR S 0 (za x0)))) 8 ∧ o_X9_loadOf N S (za (cR S 6 (za (cR S 0 (za x0))))) x1) ∧ (((f_X9_loadOf N S (za (cR S 6 (za (cR S 0 (za x0))))) x1) = none → O_X11_bytes_20 N S) ∧ (¬ (f_X9_loadOf N S (za (cR S 6 (za (cR S 0 (za x0))))) x1) = none → ((0 ≤ x2 → (cis S (f_X9_loadOf N S (za (cR S 6 (za (cR S 0 (za x0))))) x1) 5) ∧ (cis S (f_X9_loadOf N S (za (cR S 6 (za (cR S 0 (za x0))))) x1) 5) ∧ (o_X11_eight N S (cR S 0 (za (f_X9_loadOf N S (za (cR S 6 (za (cR S 0 (za x0))))) x1))) (cI S 2 (za (f_X9_loadOf N S (za (cR S 6 (za (cR S 0 (za x0))))) x1))) x2) ∧ O_X11_bytes_38 N (f_X11_eight N S (cR S 0 (za (f_X9_loadOf N S (za (cR S 6 (za (cR S 0 (za x0))))) x1))) (cI S 2 (za (f_X9_loadOf N S (za (cR S 6 (za (cR S 0 (za x0))))) x1))) x2) S) ∧ (¬ 0 ≤ x2 → O_X11_bytes_20 N S))))
set_option maxRecDepth 100000 in
set_option maxHeartbeats 4000000 in
theorem b_X11_bytes_0 {G : zG} {o : cO} {S : cS} {N : Nat} {Q : Option Value → cS → Prop} {X : Int64 → Prop} (hG : zOK G) (hR : ∀ v, X v → Q (some (.long v)) S) {x0 : Option Nat} {x1 : Int32} {x2 : Int32} (ok : O_X11_bytes_0 N x0 x1 x2 S) (hx : X (F_X11_bytes_0 N x0 x1 x2 S)) : cX G o dX11_bytes mX11_bytes 0 [some (va_rf x0), some (.int x1), some (.int x2), none] [] S Q := by
  unfold O_X11_bytes_0 at ok
  unfold F_X11_bytes_0 at hx
  refine c_aload_nQ dX11_bytes_0 rfl rfl ?_
  refine c_getR (C := RX11) (T := TX11) (N := 4) (ci := 9) (k := 0) ⟨rfl, inT11, by decide, fX11_22⟩ (by decide) (by decide) (by decide) dX11_bytes_1 ok.1 ?_
  have ok := ok.2
  refine c_getR (C := RX10) (T := TX10) (N := 12) (ci := 8) (k := 6) ⟨rfl, inT10, by decide, fX11_38⟩ (by decide) (by decide) (by decide) dX11_bytes_4 ok.1 ?_
  have ok := ok.2
  refine c_iload_n dX11_bytes_7 rfl rfl ?_
  refine c_V1qE (ci := 7) (rr := (RX9, TX9, 13)) (y' := mX9_loadOf) dX11_bytes_8 lX11_84 kX9_loadOf ⟨by decide, by decide⟩ rfl rfl (by decide) ok.1.1 (Nat.le_of_ble_eq_true rfl) (cc_X9_loadOf hG ok.1.2) ?_
  have ok := ok.2
  refine c_astore_3Q dX11_bytes_11 (by decide) rfl ?_
  refine c_aload_nQ dX11_bytes_12 rfl rfl ?_
  refine c_ifnullI (tgt := 20) dX11_bytes_13 (by decide) (fun c_13 => ?_) (fun c_13 => ?_)
  · have ok := ok.1 c_13
    have hx := xif_p c_13 hx
    exact cX.cutz (b_X11_bytes_20 hG hR ok hx) trivial
  · have ok := ok.2 c_13
    have hx := xif_n c_13 hx
    refine c_iload_n dX11_bytes_16 rfl rfl ?_
    refine c_if_ge (tgt := 26) dX11_bytes_17 (by decide) (fun c_17 => ?_) (fun c_17 => ?_)
    · have ok := ok.1 c_17
      have hx := xif_p c_17 hx
      refine c_aload_nQ dX11_bytes_26 rfl rfl ?_
      refine c_getR (C := RX5) (T := TX5) (N := 7) (ci := 4) (k := 0) ⟨rfl, inT5, by decide, fX11_48⟩ (by decide) (by decide) (by decide) dX11_bytes_27 ok.1 ?_
      have ok := ok.2
      refine c_aload_nQ dX11_bytes_30 rfl rfl ?_
      refine c_getI (C := RX5) (T := TX5) (N := 7) (ci := 4) (k := 2) ⟨rfl, inT5, by decide, fX11_150⟩ (by decide) (by decide) (by decide) dX11_bytes_31 ok.1 ?_
      have ok := ok.2
      refine c_iload_n dX11_bytes_34 rfl rfl ?_
      refine c_S3lE (y' := mX11_eight) dX11_bytes_35 lX11_153 kX11_eight ⟨by decide, by decide⟩ (Nat.le_of_ble_eq_true rfl) (cc_X11_eight hG ok.1) ?_
      have ok := ok.2
      exact cX.cutz (b_X11_bytes_38 hG hR ok hx) trivial
    · have ok := ok.2 c_17
      have hx := xif_n c_17 hx
      exact cX.cutz (b_X11_bytes_20 hG hR ok hx) trivial
def f_X11_bytes (N : Nat) (S : cS) (a0 : Nat) (x1 : Int32) (x2 : Int32) : Int64 := F_X11_bytes_0 N (some a0) x1 x2 S
def o_X11_bytes (N : Nat) (S : cS) (a0 : Nat) (x1 : Int32) (x2 : Int32) : Prop := O_X11_bytes_0 N (some a0) x1 x2 S
set_option maxRecDepth 100000 in
set_option maxHeartbeats 4000000 in
theorem cc_X11_bytes {G : zG} {o : cO} {S : cS} {N : Nat} (hG : zOK G) {a0 : Nat} {x1 : Int32} {x2 : Int32} (ok : o_X11_bytes N S a0 x1 x2) : cCl G o dX11_bytes mX11_bytes [.ref a0, .int x1, .int x2] S (fun v S' => v = f_X11_bytes N S a0 x1 x2 ∧ S' = S) := by
  refine cC.ofX rfl (by exact Nat.le_of_ble_eq_true rfl) ?_
  show cX G o dX11_bytes mX11_bytes 0 [some (.ref a0), some (.int x1), some (.int x2), none] [] S _
  exact cX.cutz (b_X11_bytes_0 (X := fun F => F = f_X11_bytes N S a0 x1 x2) hG (fun v h => ⟨v, rfl, h, rfl⟩) ok rfl) ⟨rfl, rfl, rfl, trivial⟩
/-! X11_tick -/
def F_X11_tick_7 (N : Nat) (s0 : Int32) (S : cS) : Int32 × cS := (s0, S)
def O_X11_tick_7 (N : Nat) (s0 : Int32) (S : cS) : Prop := True
set_option maxRecDepth 100000 in
set_option maxHeartbeats 4000000 in
theorem b_X11_tick_7 {G : zG} {o : cO} {S : cS} {N : Nat} {Q : Option Value → cS → Prop} {X : Int32 × cS → Prop} (hG : zOK G) (hR : ∀ v S', X (v, S') → Q (some (.int v)) S') {s0 : Int32} (ok : O_X11_tick_7 N s0 S) (hx : X (F_X11_tick_7 N s0 S)) : cX G o dX11_tick mX11_tick 7 [none] [.int s0] S Q := by
  unfold O_X11_tick_7 at ok
  unfold F_X11_tick_7 at hx
  exact c_ireturn rfl rfl dX11_tick_7 (hR _ _ hx)
def F_X11_tick_0 (N : Nat) (x0 : Option Nat) (S : cS) : Int32 × cS := (F_X11_tick_7 N ((f_X10_passTime N S (za (cR S 0 (za x0)))).1) (f_X10_passTime N S (za (cR S 0 (za x0)))).2)
def O_X11_tick_0 (N : Nat) (x0 : Option Nat) (S : cS) : Prop := (cis S x0 10) ∧ (cis S (cR S 0 (za x0)) 9 ∧ o_X10_passTime N S (za (cR S 0 (za x0)))) ∧ O_X11_tick_7 N ((f_X10_passTime N S (za (cR S 0 (za x0)))).1) (f_X10_passTime N S (za (cR S 0 (za x0)))).2
set_option maxRecDepth 100000 in
set_option maxHeartbeats 4000000 in
theorem b_X11_tick_0 {G : zG} {o : cO} {S : cS} {N : Nat} {Q : Option Value → cS → Prop} {X : Int32 × cS → Prop} (hG : zOK G) (hR : ∀ v S', X (v, S') → Q (some (.int v)) S') {x0 : Option Nat} (ok : O_X11_tick_0 N x0 S) (hx : X (F_X11_tick_0 N x0 S)) : cX G o dX11_tick mX11_tick 0 [some (va_rf x0)] [] S Q := by
  unfold O_X11_tick_0 at ok
  unfold F_X11_tick_0 at hx
  refine c_aload_nQ dX11_tick_0 rfl rfl ?_
  refine c_getR (C := RX11) (T := TX11) (N := 4) (ci := 9) (k := 0) ⟨rfl, inT11, by decide, fX11_22⟩ (by decide) (by decide) (by decide) dX11_tick_1 ok.1 ?_
  have ok := ok.2
  refine c_V0iE (ci := 8) (rr := (RX10, TX10, 12)) (y' := mX10_passTime) dX11_tick_4 lX11_188 kX10_passTime ⟨by decide, by decide⟩ rfl rfl (by decide) ok.1.1 (Nat.le_of_ble_eq_true rfl) (cc_X10_passTime hG ok.1.2) ?_
  have ok := ok.2
  exact cX.cutz (b_X11_tick_7 hG hR ok hx) trivial
def f_X11_tick (N : Nat) (S : cS) (a0 : Nat) : Int32 × cS := F_X11_tick_0 N (some a0) S
def o_X11_tick (N : Nat) (S : cS) (a0 : Nat) : Prop := O_X11_tick_0 N (some a0) S
set_option maxRecDepth 100000 in
set_option maxHeartbeats 4000000 in
theorem cc_X11_tick {G : zG} {o : cO} {S : cS} {N : Nat} (hG : zOK G) {a0 : Nat} (ok : o_X11_tick N S a0) : cCi G o dX11_tick mX11_tick [.ref a0] S (fun v S' => v = (f_X11_tick N S a0).1 ∧ S' = (f_X11_tick N S a0).2) := by
  refine cC.ofX rfl (by exact Nat.le_of_ble_eq_true rfl) ?_
  show cX G o dX11_tick mX11_tick 0 [some (.ref a0)] [] S _
  exact cX.cutz (b_X11_tick_0 (X := fun F => F = f_X11_tick N S a0) hG (fun v S' h => ⟨v, rfl, by rw [← h], by rw [← h]⟩) ok rfl) ⟨rfl, trivial⟩
/-! X11_crash -/
def F_X11_crash_23 (N : Nat)  (S : cS) : Int32 × cS := ((nI 1), S)
def O_X11_crash_23 (N : Nat)  (S : cS) : Prop := True
set_option maxRecDepth 100000 in
set_option maxHeartbeats 4000000 in
theorem b_X11_crash_23 {G : zG} {o : cO} {S : cS} {N : Nat} {Q : Option Value → cS → Prop} {X : Int32 × cS → Prop} (hG : zOK G) (hR : ∀ v S', X (v, S') → Q (some (.int v)) S') (ok : O_X11_crash_23 N S) (hx : X (F_X11_crash_23 N S)) : cX G o dX11_crash mX11_crash 23 [none, none, none] [] S Q := by
  unfold O_X11_crash_23 at ok
  unfold F_X11_crash_23 at hx
  refine c_iconst (v := nI 1) dX11_crash_23 (by decide) ?_
  exact c_ireturn rfl rfl dX11_crash_24 (hR _ _ hx)
def F_X11_crash_17 (N : Nat)  (S : cS) : Int32 × cS := ((nI 0), S)
def O_X11_crash_17 (N : Nat)  (S : cS) : Prop := True
set_option maxRecDepth 100000 in
set_option maxHeartbeats 4000000 in
theorem b_X11_crash_17 {G : zG} {o : cO} {S : cS} {N : Nat} {Q : Option Value → cS → Prop} {X : Int32 × cS → Prop} (hG : zOK G) (hR : ∀ v S', X (v, S') → Q (some (.int v)) S') (ok : O_X11_crash_17 N S) (hx : X (F_X11_crash_17 N S)) : cX G o dX11_crash mX11_crash 17 [none, none, none] [] S Q := by
  unfold O_X11_crash_17 at ok
  unfold F_X11_crash_17 at hx
  refine c_iconst (v := nI 0) dX11_crash_17 (by decide) ?_
  exact c_ireturn rfl rfl dX11_crash_18 (hR _ _ hx)
def F_X11_crash_0 (N : Nat) (x0 : Option Nat) (x1 : Int32) (S : cS) : Int32 × cS := (if (f_X11_honestNode N S (za x0) x1) = none then (F_X11_crash_17 N S) else (if (cI S 8 (za (f_X11_honestNode N S (za x0) x1))) = 0 then (F_X11_crash_17 N S) else (F_X11_crash_23 N (f_X6_fall N S (za (f_X11_honestNode N S (za x0) x1))))))
def O_X11_crash_0 (N : Nat) (x0 : Option Nat) (x1 : Int32) (S : cS) : Prop := (cis S x0 10 ∧ o_X11_honestNode N S (za x0) x1) ∧ (((f_X11_honestNode N S (za x0) x1) = none → O_X11_crash_17 N S) ∧ (¬ (f_X11_honestNode N S (za x0) x1) = none → (cis S (f_X11_honestNode N S (za x0) x1) 6) ∧ (((cI S 8 (za (f_X11_honestNode N S (za x0) x1))) = 0 → O_X11_crash_17 N S) ∧ (¬ (cI S 8 (za (f_X11_honestNode N S (za x0) x1))) = 0 → (cis S (f_X11_honestNode N S (za x0) x1) 6 ∧ o_X6_fall N S (za (f_X11_honestNode N S (za x0) x1))) ∧ O_X11_crash_23 N (f_X6_fall N S (za (f_X11_honestNode N S (za x0) x1)))))))
set_option maxRecDepth 100000 in
set_option maxHeartbeats 4000000 in
theorem b_X11_crash_0 {G : zG} {o : cO} {S : cS} {N : Nat} {Q : Option Value → cS → Prop} {X : Int32 × cS → Prop} (hG : zOK G) (hR : ∀ v S', X (v, S') → Q (some (.int v)) S') {x0 : Option Nat} {x1 : Int32} (ok : O_X11_crash_0 N x0 x1 S) (hx : X (F_X11_crash_0 N x0 x1 S)) : cX G o dX11_crash mX11_crash 0 [some (va_rf x0), some (.int x1), none] [] S Q := by
  unfold O_X11_crash_0 at ok
  unfold F_X11_crash_0 at hx
  refine c_aload_nQ dX11_crash_0 rfl rfl ?_
  refine c_iload_n dX11_crash_1 rfl rfl ?_
  refine c_V1qE (ci := 9) (rr := (RX11, TX11, 4)) (y' := mX11_honestNode) dX11_crash_2 lX11_120 kX11_honestNode ⟨by decide, by decide⟩ rfl rfl (by decide) ok.1.1 (Nat.le_of_ble_eq_true rfl) (cc_X11_honestNode hG ok.1.2) ?_
  have ok := ok.2
  refine c_astore_2Q dX11_crash_5 (by decide) rfl ?_
  refine c_aload_nQ dX11_crash_6 rfl rfl ?_
  refine c_ifnullI (tgt := 17) dX11_crash_7 (by decide) (fun c_7 => ?_) (fun c_7 => ?_)
  · have ok := ok.1 c_7
    have hx := xif_p c_7 hx
    exact cX.cutz (b_X11_crash_17 hG hR ok hx) trivial
  · have ok := ok.2 c_7
    have hx := xif_n c_7 hx
    refine c_aload_nQ dX11_crash_10 rfl rfl ?_
    refine c_getI (C := RX6) (T := TX6) (N := 19) (ci := 5) (k := 8) ⟨rfl, inT6, by decide, fX11_157⟩ (by decide) (by decide) (by decide) dX11_crash_11 ok.1 ?_
    have ok := ok.2
    refine c_if_ne (tgt := 19) dX11_crash_14 (by decide) (fun c_14 => ?_) (fun c_14 => ?_)
    · have ok := ok.2 c_14
      have hx := xif_n c_14 hx
      refine c_aload_nQ dX11_crash_19 rfl rfl ?_
      refine c_V0vE (ci := 5) (rr := (RX6, TX6, 19)) (y' := mX6_fall) dX11_crash_20 lX11_202 kX6_fall ⟨by decide, by decide⟩ rfl rfl (by decide) ok.1.1 (Nat.le_of_ble_eq_true rfl) (cc_X6_fall hG ok.1.2) ?_
      have ok := ok.2
      exact cX.cutz (b_X11_crash_23 hG hR ok hx) trivial
    · have ok := ok.1 c_14
      have hx := xif_p c_14 hx
      exact cX.cutz (b_X11_crash_17 hG hR ok hx) trivial
def f_X11_crash (N : Nat) (S : cS) (a0 : Nat) (x1 : Int32) : Int32 × cS := F_X11_crash_0 N (some a0) x1 S
def o_X11_crash (N : Nat) (S : cS) (a0 : Nat) (x1 : Int32) : Prop := O_X11_crash_0 N (some a0) x1 S
set_option maxRecDepth 100000 in
set_option maxHeartbeats 4000000 in
theorem cc_X11_crash {G : zG} {o : cO} {S : cS} {N : Nat} (hG : zOK G) {a0 : Nat} {x1 : Int32} (ok : o_X11_crash N S a0 x1) : cCi G o dX11_crash mX11_crash [.ref a0, .int x1] S (fun v S' => v = (f_X11_crash N S a0 x1).1 ∧ S' = (f_X11_crash N S a0 x1).2) := by
  refine cC.ofX rfl (by exact Nat.le_of_ble_eq_true rfl) ?_
  show cX G o dX11_crash mX11_crash 0 [some (.ref a0), some (.int x1), none] [] S _
  exact cX.cutz (b_X11_crash_0 (X := fun F => F = f_X11_crash N S a0 x1) hG (fun v S' h => ⟨v, rfl, by rw [← h], by rw [← h]⟩) ok rfl) ⟨rfl, rfl, trivial⟩
/-! X11_cut -/
def F_X11_cut_21 (N : Nat)  (S : cS) : Int32 × cS := ((nI 0), S)
def O_X11_cut_21 (N : Nat)  (S : cS) : Prop := True
set_option maxRecDepth 100000 in
set_option maxHeartbeats 4000000 in
theorem b_X11_cut_21 {G : zG} {o : cO} {S : cS} {N : Nat} {Q : Option Value → cS → Prop} {X : Int32 × cS → Prop} (hG : zOK G) (hR : ∀ v S', X (v, S') → Q (some (.int v)) S') (ok : O_X11_cut_21 N S) (hx : X (F_X11_cut_21 N S)) : cX G o dX11_cut mX11_cut 21 [none, none, none, none] [] S Q := by
  unfold O_X11_cut_21 at ok
  unfold F_X11_cut_21 at hx
  refine c_iconst (v := nI 0) dX11_cut_21 (by decide) ?_
  exact c_ireturn rfl rfl dX11_cut_22 (hR _ _ hx)
def F_X11_cut_0 (N : Nat) (x0 : Option Nat) (x1 : Int32) (x2 : Int32) (S : cS) : Int32 × cS := (if (f_X11_honestNode N S (za x0) x1) = none then (F_X11_cut_21 N S) else (if x2 < 0 then (F_X11_cut_21 N S) else (if x2 ≤ (nI 1000) then ((nI 1), (csI S 9 (za (cR S 2 (za (f_X11_honestNode N S (za x0) x1)))) x2)) else (F_X11_cut_21 N S))))
def O_X11_cut_0 (N : Nat) (x0 : Option Nat) (x1 : Int32) (x2 : Int32) (S : cS) : Prop := (cis S x0 10 ∧ o_X11_honestNode N S (za x0) x1) ∧ (((f_X11_honestNode N S (za x0) x1) = none → O_X11_cut_21 N S) ∧ (¬ (f_X11_honestNode N S (za x0) x1) = none → ((x2 < 0 → O_X11_cut_21 N S) ∧ (¬ x2 < 0 → ((x2 ≤ (nI 1000) → (cis S (f_X11_honestNode N S (za x0) x1) 6) ∧ (cis S (cR S 2 (za (f_X11_honestNode N S (za x0) x1))) 4) ∧ True) ∧ (¬ x2 ≤ (nI 1000) → O_X11_cut_21 N S))))))
set_option maxRecDepth 100000 in
set_option maxHeartbeats 4000000 in
theorem b_X11_cut_0 {G : zG} {o : cO} {S : cS} {N : Nat} {Q : Option Value → cS → Prop} {X : Int32 × cS → Prop} (hG : zOK G) (hR : ∀ v S', X (v, S') → Q (some (.int v)) S') {x0 : Option Nat} {x1 : Int32} {x2 : Int32} (ok : O_X11_cut_0 N x0 x1 x2 S) (hx : X (F_X11_cut_0 N x0 x1 x2 S)) : cX G o dX11_cut mX11_cut 0 [some (va_rf x0), some (.int x1), some (.int x2), none] [] S Q := by
  unfold O_X11_cut_0 at ok
  unfold F_X11_cut_0 at hx
  refine c_aload_nQ dX11_cut_0 rfl rfl ?_
  refine c_iload_n dX11_cut_1 rfl rfl ?_
  refine c_V1qE (ci := 9) (rr := (RX11, TX11, 4)) (y' := mX11_honestNode) dX11_cut_2 lX11_120 kX11_honestNode ⟨by decide, by decide⟩ rfl rfl (by decide) ok.1.1 (Nat.le_of_ble_eq_true rfl) (cc_X11_honestNode hG ok.1.2) ?_
  have ok := ok.2
  refine c_astore_3Q dX11_cut_5 (by decide) rfl ?_
  refine c_aload_nQ dX11_cut_6 rfl rfl ?_
  refine c_ifnullI (tgt := 21) dX11_cut_7 (by decide) (fun c_7 => ?_) (fun c_7 => ?_)
  · have ok := ok.1 c_7
    have hx := xif_p c_7 hx
    exact cX.cutz (b_X11_cut_21 hG hR ok hx) trivial
  · have ok := ok.2 c_7
    have hx := xif_n c_7 hx
    refine c_iload_n dX11_cut_10 rfl rfl ?_
    refine c_if_lt (tgt := 21) dX11_cut_11 (by decide) (fun c_11 => ?_) (fun c_11 => ?_)
    · have ok := ok.1 c_11
      have hx := xif_p c_11 hx
      exact cX.cutz (b_X11_cut_21 hG hR ok hx) trivial
    · have ok := ok.2 c_11
      have hx := xif_n c_11 hx
      refine c_iload_n dX11_cut_14 rfl rfl ?_
      refine c_sipush (v := nI 1000) dX11_cut_15 (by decide) ?_
      refine c_icmp_le (tgt := 23) dX11_cut_18 (by decide) (fun c_18 => ?_) (fun c_18 => ?_)
      · have ok := ok.1 c_18
        have hx := xif_p c_18 hx
        refine c_aload_nQ dX11_cut_23 rfl rfl ?_
        refine c_getR (C := RX6) (T := TX6) (N := 19) (ci := 5) (k := 2) ⟨rfl, inT6, by decide, fX11_205⟩ (by decide) (by decide) (by decide) dX11_cut_24 ok.1 ?_
        have ok := ok.2
        refine c_iload_n dX11_cut_27 rfl rfl ?_
        refine c_putI (C := RX4) (T := TX4) (N := 10) (ci := 3) (k := 9) ⟨rfl, inT4, by decide, fX11_209⟩ ftT4 rfl (by decide) (by decide) (by decide) rfl rfl dX11_cut_28 ok.1 ?_
        have ok := ok.2
        refine c_iconst (v := nI 1) dX11_cut_31 (by decide) ?_
        exact c_ireturn rfl rfl dX11_cut_32 (hR _ _ hx)
      · have ok := ok.2 c_18
        have hx := xif_n c_18 hx
        exact cX.cutz (b_X11_cut_21 hG hR ok hx) trivial
def f_X11_cut (N : Nat) (S : cS) (a0 : Nat) (x1 : Int32) (x2 : Int32) : Int32 × cS := F_X11_cut_0 N (some a0) x1 x2 S
def o_X11_cut (N : Nat) (S : cS) (a0 : Nat) (x1 : Int32) (x2 : Int32) : Prop := O_X11_cut_0 N (some a0) x1 x2 S
set_option maxRecDepth 100000 in
set_option maxHeartbeats 4000000 in
theorem cc_X11_cut {G : zG} {o : cO} {S : cS} {N : Nat} (hG : zOK G) {a0 : Nat} {x1 : Int32} {x2 : Int32} (ok : o_X11_cut N S a0 x1 x2) : cCi G o dX11_cut mX11_cut [.ref a0, .int x1, .int x2] S (fun v S' => v = (f_X11_cut N S a0 x1 x2).1 ∧ S' = (f_X11_cut N S a0 x1 x2).2) := by
  refine cC.ofX rfl (by exact Nat.le_of_ble_eq_true rfl) ?_
  show cX G o dX11_cut mX11_cut 0 [some (.ref a0), some (.int x1), some (.int x2), none] [] S _
  exact cX.cutz (b_X11_cut_0 (X := fun F => F = f_X11_cut N S a0 x1 x2) hG (fun v S' h => ⟨v, rfl, by rw [← h], by rw [← h]⟩) ok rfl) ⟨rfl, rfl, rfl, trivial⟩
/-! X11_restart -/
def F_X11_restart_27 (N : Nat)  (S : cS) : Int32 × cS := ((nI 1), S)
def O_X11_restart_27 (N : Nat)  (S : cS) : Prop := True
set_option maxRecDepth 100000 in
set_option maxHeartbeats 4000000 in
theorem b_X11_restart_27 {G : zG} {o : cO} {S : cS} {N : Nat} {Q : Option Value → cS → Prop} {X : Int32 × cS → Prop} (hG : zOK G) (hR : ∀ v S', X (v, S') → Q (some (.int v)) S') (ok : O_X11_restart_27 N S) (hx : X (F_X11_restart_27 N S)) : cX G o dX11_restart mX11_restart 27 [none, none, none] [] S Q := by
  unfold O_X11_restart_27 at ok
  unfold F_X11_restart_27 at hx
  refine c_iconst (v := nI 1) dX11_restart_27 (by decide) ?_
  exact c_ireturn rfl rfl dX11_restart_28 (hR _ _ hx)
def F_X11_restart_23 (N : Nat) (x2 : Option Nat) (S : cS) : Int32 × cS := (F_X11_restart_27 N (f_X7_settle N S x2))
def O_X11_restart_23 (N : Nat) (x2 : Option Nat) (S : cS) : Prop := (o_X7_settle N S x2) ∧ O_X11_restart_27 N (f_X7_settle N S x2)
set_option maxRecDepth 100000 in
set_option maxHeartbeats 4000000 in
theorem b_X11_restart_23 {G : zG} {o : cO} {S : cS} {N : Nat} {Q : Option Value → cS → Prop} {X : Int32 × cS → Prop} (hG : zOK G) (hR : ∀ v S', X (v, S') → Q (some (.int v)) S') {x2 : Option Nat} (ok : O_X11_restart_23 N x2 S) (hx : X (F_X11_restart_23 N x2 S)) : cX G o dX11_restart mX11_restart 23 [none, none, some (va_rf x2)] [] S Q := by
  unfold O_X11_restart_23 at ok
  unfold F_X11_restart_23 at hx
  refine c_aload_nQ dX11_restart_23 rfl rfl ?_
  refine c_S1vE (y' := mX7_settle) dX11_restart_24 lX11_217 kX7_settle ⟨by decide, by decide⟩ (Nat.le_of_ble_eq_true rfl) (cc_X7_settle hG ok.1) ?_
  have ok := ok.2
  exact cX.cutz (b_X11_restart_27 hG hR ok hx) trivial
def F_X11_restart_17 (N : Nat)  (S : cS) : Int32 × cS := ((nI 0), S)
def O_X11_restart_17 (N : Nat)  (S : cS) : Prop := True
set_option maxRecDepth 100000 in
set_option maxHeartbeats 4000000 in
theorem b_X11_restart_17 {G : zG} {o : cO} {S : cS} {N : Nat} {Q : Option Value → cS → Prop} {X : Int32 × cS → Prop} (hG : zOK G) (hR : ∀ v S', X (v, S') → Q (some (.int v)) S') (ok : O_X11_restart_17 N S) (hx : X (F_X11_restart_17 N S)) : cX G o dX11_restart mX11_restart 17 [none, none, none] [] S Q := by
  unfold O_X11_restart_17 at ok
  unfold F_X11_restart_17 at hx
  refine c_iconst (v := nI 0) dX11_restart_17 (by decide) ?_
  exact c_ireturn rfl rfl dX11_restart_18 (hR _ _ hx)
def F_X11_restart_0 (N : Nat) (x0 : Option Nat) (x1 : Int32) (S : cS) : Int32 × cS := (if (f_X11_honestNode N S (za x0) x1) = none then (F_X11_restart_17 N S) else (if (cI S 8 (za (f_X11_honestNode N S (za x0) x1))) = 0 then (F_X11_restart_23 N (f_X11_honestNode N S (za x0) x1) (f_X6_wake N S (za (f_X11_honestNode N S (za x0) x1)))) else (F_X11_restart_17 N S)))
def O_X11_restart_0 (N : Nat) (x0 : Option Nat) (x1 : Int32) (S : cS) : Prop := (cis S x0 10 ∧ o_X11_honestNode N S (za x0) x1) ∧ (((f_X11_honestNode N S (za x0) x1) = none → O_X11_restart_17 N S) ∧ (¬ (f_X11_honestNode N S (za x0) x1) = none → (cis S (f_X11_honestNode N S (za x0) x1) 6) ∧ (((cI S 8 (za (f_X11_honestNode N S (za x0) x1))) = 0 → (cis S (f_X11_honestNode N S (za x0) x1) 6 ∧ o_X6_wake N S (za (f_X11_honestNode N S (za x0) x1))) ∧ O_X11_restart_23 N (f_X11_honestNode N S (za x0) x1) (f_X6_wake N S (za (f_X11_honestNode N S (za x0) x1)))) ∧ (¬ (cI S 8 (za (f_X11_honestNode N S (za x0) x1))) = 0 → O_X11_restart_17 N S))))
set_option maxRecDepth 100000 in
set_option maxHeartbeats 4000000 in
theorem b_X11_restart_0 {G : zG} {o : cO} {S : cS} {N : Nat} {Q : Option Value → cS → Prop} {X : Int32 × cS → Prop} (hG : zOK G) (hR : ∀ v S', X (v, S') → Q (some (.int v)) S') {x0 : Option Nat} {x1 : Int32} (ok : O_X11_restart_0 N x0 x1 S) (hx : X (F_X11_restart_0 N x0 x1 S)) : cX G o dX11_restart mX11_restart 0 [some (va_rf x0), some (.int x1), none] [] S Q := by
  unfold O_X11_restart_0 at ok
  unfold F_X11_restart_0 at hx
  refine c_aload_nQ dX11_restart_0 rfl rfl ?_
  refine c_iload_n dX11_restart_1 rfl rfl ?_
  refine c_V1qE (ci := 9) (rr := (RX11, TX11, 4)) (y' := mX11_honestNode) dX11_restart_2 lX11_120 kX11_honestNode ⟨by decide, by decide⟩ rfl rfl (by decide) ok.1.1 (Nat.le_of_ble_eq_true rfl) (cc_X11_honestNode hG ok.1.2) ?_
  have ok := ok.2
  refine c_astore_2Q dX11_restart_5 (by decide) rfl ?_
  refine c_aload_nQ dX11_restart_6 rfl rfl ?_
  refine c_ifnullI (tgt := 17) dX11_restart_7 (by decide) (fun c_7 => ?_) (fun c_7 => ?_)
  · have ok := ok.1 c_7
    have hx := xif_p c_7 hx
    exact cX.cutz (b_X11_restart_17 hG hR ok hx) trivial
  · have ok := ok.2 c_7
    have hx := xif_n c_7 hx
    refine c_aload_nQ dX11_restart_10 rfl rfl ?_
    refine c_getI (C := RX6) (T := TX6) (N := 19) (ci := 5) (k := 8) ⟨rfl, inT6, by decide, fX11_157⟩ (by decide) (by decide) (by decide) dX11_restart_11 ok.1 ?_
    have ok := ok.2
    refine c_if_eq (tgt := 19) dX11_restart_14 (by decide) (fun c_14 => ?_) (fun c_14 => ?_)
    · have ok := ok.1 c_14
      have hx := xif_p c_14 hx
      refine c_aload_nQ dX11_restart_19 rfl rfl ?_
      refine c_V0vE (ci := 5) (rr := (RX6, TX6, 19)) (y' := mX6_wake) dX11_restart_20 lX11_214 kX6_wake ⟨by decide, by decide⟩ rfl rfl (by decide) ok.1.1 (Nat.le_of_ble_eq_true rfl) (cc_X6_wake hG ok.1.2) ?_
      have ok := ok.2
      exact cX.cutz (b_X11_restart_23 hG hR ok hx) ⟨rfl, trivial⟩
    · have ok := ok.2 c_14
      have hx := xif_n c_14 hx
      exact cX.cutz (b_X11_restart_17 hG hR ok hx) trivial
def f_X11_restart (N : Nat) (S : cS) (a0 : Nat) (x1 : Int32) : Int32 × cS := F_X11_restart_0 N (some a0) x1 S
def o_X11_restart (N : Nat) (S : cS) (a0 : Nat) (x1 : Int32) : Prop := O_X11_restart_0 N (some a0) x1 S
set_option maxRecDepth 100000 in
set_option maxHeartbeats 4000000 in
theorem cc_X11_restart {G : zG} {o : cO} {S : cS} {N : Nat} (hG : zOK G) {a0 : Nat} {x1 : Int32} (ok : o_X11_restart N S a0 x1) : cCi G o dX11_restart mX11_restart [.ref a0, .int x1] S (fun v S' => v = (f_X11_restart N S a0 x1).1 ∧ S' = (f_X11_restart N S a0 x1).2) := by
  refine cC.ofX rfl (by exact Nat.le_of_ble_eq_true rfl) ?_
  show cX G o dX11_restart mX11_restart 0 [some (.ref a0), some (.int x1), none] [] S _
  exact cX.cutz (b_X11_restart_0 (X := fun F => F = f_X11_restart N S a0 x1) hG (fun v S' h => ⟨v, rfl, by rw [← h], by rw [← h]⟩) ok rfl) ⟨rfl, rfl, trivial⟩
/-! X11_state -/
def F_X11_state_113 (N : Nat) (s0 : Int32) (S : cS) : Int32 := s0
def O_X11_state_113 (N : Nat) (s0 : Int32) (S : cS) : Prop := True
set_option maxRecDepth 100000 in
set_option maxHeartbeats 4000000 in
theorem b_X11_state_113 {G : zG} {o : cO} {S : cS} {N : Nat} {Q : Option Value → cS → Prop} {X : Int32 → Prop} (hG : zOK G) (hR : ∀ v, X v → Q (some (.int v)) S) {s0 : Int32} (ok : O_X11_state_113 N s0 S) (hx : X (F_X11_state_113 N s0 S)) : cX G o dX11_state mX11_state 113 [none, none, none, none] [.int s0] S Q := by
  unfold O_X11_state_113 at ok
  unfold F_X11_state_113 at hx
  exact c_ireturn rfl rfl dX11_state_113 (hR _ hx)
def F_X11_state_0 (N : Nat) (x0 : Option Nat) (x1 : Int32) (x2 : Int32) (S : cS) : Int32 := (if (f_X11_honestNode N S (za x0) x1) = none then (-1) else (if x2 = nI 0 then (cI S 9 (za (f_X11_honestNode N S (za x0) x1))) else (if x2 = nI 1 then (cI S 10 (za (f_X11_honestNode N S (za x0) x1))) else (if x2 = nI 2 then (cI S 11 (za (f_X11_honestNode N S (za x0) x1))) else (if x2 = nI 3 then (cI S 12 (za (f_X11_honestNode N S (za x0) x1))) else (if x2 = nI 4 then (cI S 13 (za (f_X11_honestNode N S (za x0) x1))) else (if x2 = nI 5 then (if (cI S 8 (za (f_X11_honestNode N S (za x0) x1))) = 0 then (F_X11_state_113 N (nI 0) S) else (F_X11_state_113 N (nI 1) S)) else (if x2 = nI 6 then (cI S 12 (za (cR S 3 (za (f_X11_honestNode N S (za x0) x1))))) else (if x2 = nI 7 then (f_X6_timersSet N S (za (f_X11_honestNode N S (za x0) x1))) else (if x2 = nI 8 then (cI S 17 (za (f_X11_honestNode N S (za x0) x1))) else (if x2 = nI 9 then (cI S 7 (za (cR S 2 (za (f_X11_honestNode N S (za x0) x1))))) else (if x2 = nI 10 then (cI S 8 (za (cR S 2 (za (f_X11_honestNode N S (za x0) x1))))) else (if x2 = nI 11 then (cI S 13 (za (cR S 3 (za (f_X11_honestNode N S (za x0) x1))))) else (-1))))))))))))))
def O_X11_state_0 (N : Nat) (x0 : Option Nat) (x1 : Int32) (x2 : Int32) (S : cS) : Prop := (cis S x0 10 ∧ o_X11_honestNode N S (za x0) x1) ∧ (((f_X11_honestNode N S (za x0) x1) = none → True) ∧ (¬ (f_X11_honestNode N S (za x0) x1) = none → ((x2 = nI 0 → (cis S (f_X11_honestNode N S (za x0) x1) 6) ∧ True) ∧ (¬ x2 = nI 0 → ((x2 = nI 1 → (cis S (f_X11_honestNode N S (za x0) x1) 6) ∧ True) ∧ (¬ x2 = nI 1 → ((x2 = nI 2 → (cis S (f_X11_honestNode N S (za x0) x1) 6) ∧ True) ∧ (¬ x2 = nI 2 → ((x2 = nI 3 → (cis S (f_X11_honestNode N S (za x0) x1) 6) ∧ True) ∧ (¬ x2 = nI 3 → ((x2 = nI 4 → (cis S (f_X11_honestNode N S (za x0) x1) 6) ∧ True) ∧ (¬ x2 = nI 4 → ((x2 = nI 5 → (cis S (f_X11_honestNode N S (za x0) x1) 6) ∧ (((cI S 8 (za (f_X11_honestNode N S (za x0) x1))) = 0 → O_X11_state_113 N (nI 0) S) ∧ (¬ (cI S 8 (za (f_X11_honestNode N S (za x0) x1))) = 0 → O_X11_state_113 N (nI 1) S))) ∧ (¬ x2 = nI 5 → ((x2 = nI 6 → (cis S (f_X11_honestNode N S (za x0) x1) 6) ∧ (cis S (cR S 3 (za (f_X11_honestNode N S (za x0) x1))) 7) ∧ True) ∧ (¬ x2 = nI 6 → ((x2 = nI 7 → (cis S (f_X11_honestNode N S (za x0) x1) 6 ∧ o_X6_timersSet N S (za (f_X11_honestNode N S (za x0) x1))) ∧ True) ∧ (¬ x2 = nI 7 → ((x2 = nI 8 → (cis S (f_X11_honestNode N S (za x0) x1) 6) ∧ True) ∧ (¬ x2 = nI 8 → ((x2 = nI 9 → (cis S (f_X11_honestNode N S (za x0) x1) 6) ∧ (cis S (cR S 2 (za (f_X11_honestNode N S (za x0) x1))) 4) ∧ True) ∧ (¬ x2 = nI 9 → ((x2 = nI 10 → (cis S (f_X11_honestNode N S (za x0) x1) 6) ∧ (cis S (cR S 2 (za (f_X11_honestNode N S (za x0) x1))) 4) ∧ True) ∧ (¬ x2 = nI 10 → ((x2 = nI 11 → (cis S (f_X11_honestNode N S (za x0) x1) 6) ∧ (cis S (cR S 3 (za (f_X11_honestNode N S (za x0) x1))) 7) ∧ True) ∧ (¬ x2 = nI 11 → True))))))))))))))))))))))))))
set_option maxRecDepth 100000 in
set_option maxHeartbeats 4000000 in
theorem b_X11_state_0 {G : zG} {o : cO} {S : cS} {N : Nat} {Q : Option Value → cS → Prop} {X : Int32 → Prop} (hG : zOK G) (hR : ∀ v, X v → Q (some (.int v)) S) {x0 : Option Nat} {x1 : Int32} {x2 : Int32} (ok : O_X11_state_0 N x0 x1 x2 S) (hx : X (F_X11_state_0 N x0 x1 x2 S)) : cX G o dX11_state mX11_state 0 [some (va_rf x0), some (.int x1), some (.int x2), none] [] S Q := by
  unfold O_X11_state_0 at ok
  unfold F_X11_state_0 at hx
  refine c_aload_nQ dX11_state_0 rfl rfl ?_
  refine c_iload_n dX11_state_1 rfl rfl ?_
  refine c_V1qE (ci := 9) (rr := (RX11, TX11, 4)) (y' := mX11_honestNode) dX11_state_2 lX11_120 kX11_honestNode ⟨by decide, by decide⟩ rfl rfl (by decide) ok.1.1 (Nat.le_of_ble_eq_true rfl) (cc_X11_honestNode hG ok.1.2) ?_
  have ok := ok.2
  refine c_astore_3Q dX11_state_5 (by decide) rfl ?_
  refine c_aload_nQ dX11_state_6 rfl rfl ?_
  refine c_ifnonnullI (tgt := 12) dX11_state_7 (by decide) (fun c_7 => ?_) (fun c_7 => ?_)
  · have ok := ok.2 c_7
    have hx := xif_n c_7 hx
    refine c_iload_n dX11_state_12 rfl rfl ?_
    by_cases c_13_0 : x2 = nI 0
    · have ok := ok.1 c_13_0
      have hx := xif_p c_13_0 hx
      refine c_tableIn (off := 63) (tgt := 76) dX11_state_13 (by rw [c_13_0]; decide) (by rw [c_13_0]; decide) (by rw [c_13_0]; rfl) (by decide) ?_
      refine c_aload_nQ dX11_state_76 rfl rfl ?_
      refine c_getI (C := RX6) (T := TX6) (N := 19) (ci := 5) (k := 9) ⟨rfl, inT6, by decide, fX11_223⟩ (by decide) (by decide) (by decide) dX11_state_77 ok.1 ?_
      have ok := ok.2
      exact c_ireturn rfl rfl dX11_state_80 (hR _ hx)
    · have ok := ok.2 c_13_0
      have hx := xif_n c_13_0 hx
      by_cases c_13_1 : x2 = nI 1
      · have ok := ok.1 c_13_1
        have hx := xif_p c_13_1 hx
        refine c_tableIn (off := 68) (tgt := 81) dX11_state_13 (by rw [c_13_1]; decide) (by rw [c_13_1]; decide) (by rw [c_13_1]; rfl) (by decide) ?_
        refine c_aload_nQ dX11_state_81 rfl rfl ?_
        refine c_getI (C := RX6) (T := TX6) (N := 19) (ci := 5) (k := 10) ⟨rfl, inT6, by decide, fX11_226⟩ (by decide) (by decide) (by decide) dX11_state_82 ok.1 ?_
        have ok := ok.2
        exact c_ireturn rfl rfl dX11_state_85 (hR _ hx)
      · have ok := ok.2 c_13_1
        have hx := xif_n c_13_1 hx
        by_cases c_13_2 : x2 = nI 2
        · have ok := ok.1 c_13_2
          have hx := xif_p c_13_2 hx
          refine c_tableIn (off := 73) (tgt := 86) dX11_state_13 (by rw [c_13_2]; decide) (by rw [c_13_2]; decide) (by rw [c_13_2]; rfl) (by decide) ?_
          refine c_aload_nQ dX11_state_86 rfl rfl ?_
          refine c_getI (C := RX6) (T := TX6) (N := 19) (ci := 5) (k := 11) ⟨rfl, inT6, by decide, fX11_229⟩ (by decide) (by decide) (by decide) dX11_state_87 ok.1 ?_
          have ok := ok.2
          exact c_ireturn rfl rfl dX11_state_90 (hR _ hx)
        · have ok := ok.2 c_13_2
          have hx := xif_n c_13_2 hx
          by_cases c_13_3 : x2 = nI 3
          · have ok := ok.1 c_13_3
            have hx := xif_p c_13_3 hx
            refine c_tableIn (off := 78) (tgt := 91) dX11_state_13 (by rw [c_13_3]; decide) (by rw [c_13_3]; decide) (by rw [c_13_3]; rfl) (by decide) ?_
            refine c_aload_nQ dX11_state_91 rfl rfl ?_
            refine c_getI (C := RX6) (T := TX6) (N := 19) (ci := 5) (k := 12) ⟨rfl, inT6, by decide, fX11_232⟩ (by decide) (by decide) (by decide) dX11_state_92 ok.1 ?_
            have ok := ok.2
            exact c_ireturn rfl rfl dX11_state_95 (hR _ hx)
          · have ok := ok.2 c_13_3
            have hx := xif_n c_13_3 hx
            by_cases c_13_4 : x2 = nI 4
            · have ok := ok.1 c_13_4
              have hx := xif_p c_13_4 hx
              refine c_tableIn (off := 83) (tgt := 96) dX11_state_13 (by rw [c_13_4]; decide) (by rw [c_13_4]; decide) (by rw [c_13_4]; rfl) (by decide) ?_
              refine c_aload_nQ dX11_state_96 rfl rfl ?_
              refine c_getI (C := RX6) (T := TX6) (N := 19) (ci := 5) (k := 13) ⟨rfl, inT6, by decide, fX11_235⟩ (by decide) (by decide) (by decide) dX11_state_97 ok.1 ?_
              have ok := ok.2
              exact c_ireturn rfl rfl dX11_state_100 (hR _ hx)
            · have ok := ok.2 c_13_4
              have hx := xif_n c_13_4 hx
              by_cases c_13_5 : x2 = nI 5
              · have ok := ok.1 c_13_5
                have hx := xif_p c_13_5 hx
                refine c_tableIn (off := 88) (tgt := 101) dX11_state_13 (by rw [c_13_5]; decide) (by rw [c_13_5]; decide) (by rw [c_13_5]; rfl) (by decide) ?_
                refine c_aload_nQ dX11_state_101 rfl rfl ?_
                refine c_getI (C := RX6) (T := TX6) (N := 19) (ci := 5) (k := 8) ⟨rfl, inT6, by decide, fX11_157⟩ (by decide) (by decide) (by decide) dX11_state_102 ok.1 ?_
                have ok := ok.2
                refine c_if_eq (tgt := 112) dX11_state_105 (by decide) (fun c_105 => ?_) (fun c_105 => ?_)
                · have ok := ok.1 c_105
                  have hx := xif_p c_105 hx
                  refine c_iconst (v := nI 0) dX11_state_112 (by decide) ?_
                  exact cX.cutz (b_X11_state_113 hG hR ok hx) trivial
                · have ok := ok.2 c_105
                  have hx := xif_n c_105 hx
                  refine c_iconst (v := nI 1) dX11_state_108 (by decide) ?_
                  refine c_goto (tgt := 113) dX11_state_109 (by decide) ?_
                  exact cX.cutz (b_X11_state_113 hG hR ok hx) trivial
              · have ok := ok.2 c_13_5
                have hx := xif_n c_13_5 hx
                by_cases c_13_6 : x2 = nI 6
                · have ok := ok.1 c_13_6
                  have hx := xif_p c_13_6 hx
                  refine c_tableIn (off := 101) (tgt := 114) dX11_state_13 (by rw [c_13_6]; decide) (by rw [c_13_6]; decide) (by rw [c_13_6]; rfl) (by decide) ?_
                  refine c_aload_nQ dX11_state_114 rfl rfl ?_
                  refine c_getR (C := RX6) (T := TX6) (N := 19) (ci := 5) (k := 3) ⟨rfl, inT6, by decide, fX11_162⟩ (by decide) (by decide) (by decide) dX11_state_115 ok.1 ?_
                  have ok := ok.2
                  refine c_getI (C := RX8) (T := TX8) (N := 14) (ci := 6) (k := 12) ⟨rfl, inT8, by decide, fX11_238⟩ (by decide) (by decide) (by decide) dX11_state_118 ok.1 ?_
                  have ok := ok.2
                  exact c_ireturn rfl rfl dX11_state_121 (hR _ hx)
                · have ok := ok.2 c_13_6
                  have hx := xif_n c_13_6 hx
                  by_cases c_13_7 : x2 = nI 7
                  · have ok := ok.1 c_13_7
                    have hx := xif_p c_13_7 hx
                    refine c_tableIn (off := 109) (tgt := 122) dX11_state_13 (by rw [c_13_7]; decide) (by rw [c_13_7]; decide) (by rw [c_13_7]; rfl) (by decide) ?_
                    refine c_aload_nQ dX11_state_122 rfl rfl ?_
                    refine c_V0iE (ci := 5) (rr := (RX6, TX6, 19)) (y' := mX6_timersSet) dX11_state_123 lX11_241 kX6_timersSet ⟨by decide, by decide⟩ rfl rfl (by decide) ok.1.1 (Nat.le_of_ble_eq_true rfl) (cc_X6_timersSet hG ok.1.2) ?_
                    have ok := ok.2
                    exact c_ireturn rfl rfl dX11_state_126 (hR _ hx)
                  · have ok := ok.2 c_13_7
                    have hx := xif_n c_13_7 hx
                    by_cases c_13_8 : x2 = nI 8
                    · have ok := ok.1 c_13_8
                      have hx := xif_p c_13_8 hx
                      refine c_tableIn (off := 114) (tgt := 127) dX11_state_13 (by rw [c_13_8]; decide) (by rw [c_13_8]; decide) (by rw [c_13_8]; rfl) (by decide) ?_
                      refine c_aload_nQ dX11_state_127 rfl rfl ?_
                      refine c_getI (C := RX6) (T := TX6) (N := 19) (ci := 5) (k := 17) ⟨rfl, inT6, by decide, fX11_244⟩ (by decide) (by decide) (by decide) dX11_state_128 ok.1 ?_
                      have ok := ok.2
                      exact c_ireturn rfl rfl dX11_state_131 (hR _ hx)
                    · have ok := ok.2 c_13_8
                      have hx := xif_n c_13_8 hx
                      by_cases c_13_9 : x2 = nI 9
                      · have ok := ok.1 c_13_9
                        have hx := xif_p c_13_9 hx
                        refine c_tableIn (off := 119) (tgt := 132) dX11_state_13 (by rw [c_13_9]; decide) (by rw [c_13_9]; decide) (by rw [c_13_9]; rfl) (by decide) ?_
                        refine c_aload_nQ dX11_state_132 rfl rfl ?_
                        refine c_getR (C := RX6) (T := TX6) (N := 19) (ci := 5) (k := 2) ⟨rfl, inT6, by decide, fX11_205⟩ (by decide) (by decide) (by decide) dX11_state_133 ok.1 ?_
                        have ok := ok.2
                        refine c_getI (C := RX4) (T := TX4) (N := 10) (ci := 3) (k := 7) ⟨rfl, inT4, by decide, fX11_247⟩ (by decide) (by decide) (by decide) dX11_state_136 ok.1 ?_
                        have ok := ok.2
                        exact c_ireturn rfl rfl dX11_state_139 (hR _ hx)
                      · have ok := ok.2 c_13_9
                        have hx := xif_n c_13_9 hx
                        by_cases c_13_10 : x2 = nI 10
                        · have ok := ok.1 c_13_10
                          have hx := xif_p c_13_10 hx
                          refine c_tableIn (off := 127) (tgt := 140) dX11_state_13 (by rw [c_13_10]; decide) (by rw [c_13_10]; decide) (by rw [c_13_10]; rfl) (by decide) ?_
                          refine c_aload_nQ dX11_state_140 rfl rfl ?_
                          refine c_getR (C := RX6) (T := TX6) (N := 19) (ci := 5) (k := 2) ⟨rfl, inT6, by decide, fX11_205⟩ (by decide) (by decide) (by decide) dX11_state_141 ok.1 ?_
                          have ok := ok.2
                          refine c_getI (C := RX4) (T := TX4) (N := 10) (ci := 3) (k := 8) ⟨rfl, inT4, by decide, fX11_250⟩ (by decide) (by decide) (by decide) dX11_state_144 ok.1 ?_
                          have ok := ok.2
                          exact c_ireturn rfl rfl dX11_state_147 (hR _ hx)
                        · have ok := ok.2 c_13_10
                          have hx := xif_n c_13_10 hx
                          by_cases c_13_11 : x2 = nI 11
                          · have ok := ok.1 c_13_11
                            have hx := xif_p c_13_11 hx
                            refine c_tableIn (off := 135) (tgt := 148) dX11_state_13 (by rw [c_13_11]; decide) (by rw [c_13_11]; decide) (by rw [c_13_11]; rfl) (by decide) ?_
                            refine c_aload_nQ dX11_state_148 rfl rfl ?_
                            refine c_getR (C := RX6) (T := TX6) (N := 19) (ci := 5) (k := 3) ⟨rfl, inT6, by decide, fX11_162⟩ (by decide) (by decide) (by decide) dX11_state_149 ok.1 ?_
                            have ok := ok.2
                            refine c_getI (C := RX8) (T := TX8) (N := 14) (ci := 6) (k := 13) ⟨rfl, inT8, by decide, fX11_253⟩ (by decide) (by decide) (by decide) dX11_state_152 ok.1 ?_
                            have ok := ok.2
                            exact c_ireturn rfl rfl dX11_state_155 (hR _ hx)
                          · have ok := ok.2 c_13_11
                            have hx := xif_n c_13_11 hx
                            refine c_tableOut (tgt := 156) dX11_state_13 (zsw 12 (by intro k hk; rcases (show k = 0 ∨ k = 1 ∨ k = 2 ∨ k = 3 ∨ k = 4 ∨ k = 5 ∨ k = 6 ∨ k = 7 ∨ k = 8 ∨ k = 9 ∨ k = 10 ∨ k = 11 by omega) with rfl | rfl | rfl | rfl | rfl | rfl | rfl | rfl | rfl | rfl | rfl | rfl <;> assumption) (by decide) (by decide)) (by decide) ?_
                            refine c_iconst (v := -1) dX11_state_156 (by decide) ?_
                            exact c_ireturn rfl rfl dX11_state_157 (hR _ hx)
  · have ok := ok.1 c_7
    have hx := xif_p c_7 hx
    refine c_iconst (v := -1) dX11_state_10 (by decide) ?_
    exact c_ireturn rfl rfl dX11_state_11 (hR _ hx)
def f_X11_state (N : Nat) (S : cS) (a0 : Nat) (x1 : Int32) (x2 : Int32) : Int32 := F_X11_state_0 N (some a0) x1 x2 S
def o_X11_state (N : Nat) (S : cS) (a0 : Nat) (x1 : Int32) (x2 : Int32) : Prop := O_X11_state_0 N (some a0) x1 x2 S
set_option maxRecDepth 100000 in
set_option maxHeartbeats 4000000 in
theorem cc_X11_state {G : zG} {o : cO} {S : cS} {N : Nat} (hG : zOK G) {a0 : Nat} {x1 : Int32} {x2 : Int32} (ok : o_X11_state N S a0 x1 x2) : cCi G o dX11_state mX11_state [.ref a0, .int x1, .int x2] S (fun v S' => v = f_X11_state N S a0 x1 x2 ∧ S' = S) := by
  refine cC.ofX rfl (by exact Nat.le_of_ble_eq_true rfl) ?_
  show cX G o dX11_state mX11_state 0 [some (.ref a0), some (.int x1), some (.int x2), none] [] S _
  exact cX.cutz (b_X11_state_0 (X := fun F => F = f_X11_state N S a0 x1 x2) hG (fun v h => ⟨v, rfl, h, rfl⟩) ok rfl) ⟨rfl, rfl, rfl, trivial⟩
/-! X11_block -/
def F_X11_block_137 (N : Nat) (s0 : Int64) (S : cS) : Int64 × cS := (s0, S)
def O_X11_block_137 (N : Nat) (s0 : Int64) (S : cS) : Prop := True
set_option maxRecDepth 100000 in
set_option maxHeartbeats 4000000 in
theorem b_X11_block_137 {G : zG} {o : cO} {S : cS} {N : Nat} {Q : Option Value → cS → Prop} {X : Int64 × cS → Prop} (hG : zOK G) (hR : ∀ v S', X (v, S') → Q (some (.long v)) S') {s0 : Int64} (ok : O_X11_block_137 N s0 S) (hx : X (F_X11_block_137 N s0 S)) : cX G o dX11_block mX11_block 137 [none, none, none, none, none, none] [.long s0] S Q := by
  unfold O_X11_block_137 at ok
  unfold F_X11_block_137 at hx
  exact c_lreturn rfl dX11_block_137 (hR _ _ hx)
def F_X11_block_96 (N : Nat) (x3 : Int32) (s0 : Option Nat) (S : cS) : Int64 × cS := (if s0 = none then ((-1 : Int64), S) else (if x3 ≤ (cI S 2 (za s0)) then (F_X11_block_137 N (f_X11_eight N S (cR S 0 (za s0)) (cI S 2 (za s0)) (x3 + (nI 6))) S) else (F_X11_block_137 N (0 : Int64) S)))
def O_X11_block_96 (N : Nat) (x3 : Int32) (s0 : Option Nat) (S : cS) : Prop := ((s0 = none → True) ∧ (¬ s0 = none → (cis S s0 5) ∧ ((x3 ≤ (cI S 2 (za s0)) → (cis S s0 5) ∧ (cis S s0 5) ∧ (o_X11_eight N S (cR S 0 (za s0)) (cI S 2 (za s0)) (x3 + (nI 6))) ∧ O_X11_block_137 N (f_X11_eight N S (cR S 0 (za s0)) (cI S 2 (za s0)) (x3 + (nI 6))) S) ∧ (¬ x3 ≤ (cI S 2 (za s0)) → O_X11_block_137 N (0 : Int64) S))))
set_option maxRecDepth 100000 in
set_option maxHeartbeats 4000000 in
theorem b_X11_block_96 {G : zG} {o : cO} {S : cS} {N : Nat} {Q : Option Value → cS → Prop} {X : Int64 × cS → Prop} (hG : zOK G) (hR : ∀ v S', X (v, S') → Q (some (.long v)) S') {x3 : Int32} {s0 : Option Nat} (ok : O_X11_block_96 N x3 s0 S) (hx : X (F_X11_block_96 N x3 s0 S)) : cX G o dX11_block mX11_block 96 [none, none, none, some (.int x3), none, none] [va_rf s0] S Q := by
  unfold O_X11_block_96 at ok
  unfold F_X11_block_96 at hx
  refine c_astore_5Q dX11_block_96 (by decide) rfl ?_
  refine c_aloadQ dX11_block_98 rfl ?_
  refine c_ifnonnullI (tgt := 107) dX11_block_100 (by decide) (fun c_100 => ?_) (fun c_100 => ?_)
  · have ok := ok.2 c_100
    have hx := xif_n c_100 hx
    refine c_iload_n dX11_block_107 rfl rfl ?_
    refine c_aloadQ dX11_block_108 rfl ?_
    refine c_getI (C := RX5) (T := TX5) (N := 7) (ci := 4) (k := 2) ⟨rfl, inT5, by decide, fX11_150⟩ (by decide) (by decide) (by decide) dX11_block_110 ok.1 ?_
    have ok := ok.2
    refine c_icmp_le (tgt := 120) dX11_block_113 (by decide) (fun c_113 => ?_) (fun c_113 => ?_)
    · have ok := ok.1 c_113
      have hx := xif_p c_113 hx
      refine c_aloadQ dX11_block_120 rfl ?_
      refine c_getR (C := RX5) (T := TX5) (N := 7) (ci := 4) (k := 0) ⟨rfl, inT5, by decide, fX11_48⟩ (by decide) (by decide) (by decide) dX11_block_122 ok.1 ?_
      have ok := ok.2
      refine c_aloadQ dX11_block_125 rfl ?_
      refine c_getI (C := RX5) (T := TX5) (N := 7) (ci := 4) (k := 2) ⟨rfl, inT5, by decide, fX11_150⟩ (by decide) (by decide) (by decide) dX11_block_127 ok.1 ?_
      have ok := ok.2
      refine c_iload_n dX11_block_130 rfl rfl ?_
      refine c_bipush (v := nI 6) dX11_block_131 (by decide) ?_
      refine c_iadd dX11_block_133 ?_
      refine c_S3lE (y' := mX11_eight) dX11_block_134 lX11_153 kX11_eight ⟨by decide, by decide⟩ (Nat.le_of_ble_eq_true rfl) (cc_X11_eight hG ok.1) ?_
      have ok := ok.2
      exact cX.cutz (b_X11_block_137 hG hR ok hx) trivial
    · have ok := ok.2 c_113
      have hx := xif_n c_113 hx
      refine c_lconst (v := 0) dX11_block_116 rfl ?_
      refine c_goto (tgt := 137) dX11_block_117 (by decide) ?_
      exact cX.cutz (b_X11_block_137 hG hR ok hx) trivial
  · have ok := ok.1 c_100
    have hx := xif_p c_100 hx
    refine c_ldc2 dX11_block_103 nX11_200 ?_
    exact c_lreturn rfl dX11_block_106 (hR _ _ hx)
def F_X11_block_78 (N : Nat) (s0 : Int64) (S : cS) : Int64 × cS := (s0, S)
def O_X11_block_78 (N : Nat) (s0 : Int64) (S : cS) : Prop := True
set_option maxRecDepth 100000 in
set_option maxHeartbeats 4000000 in
theorem b_X11_block_78 {G : zG} {o : cO} {S : cS} {N : Nat} {Q : Option Value → cS → Prop} {X : Int64 × cS → Prop} (hG : zOK G) (hR : ∀ v S', X (v, S') → Q (some (.long v)) S') {s0 : Int64} (ok : O_X11_block_78 N s0 S) (hx : X (F_X11_block_78 N s0 S)) : cX G o dX11_block mX11_block 78 [none, none, none, none, none, none] [.long s0] S Q := by
  unfold O_X11_block_78 at ok
  unfold F_X11_block_78 at hx
  exact c_lreturn rfl dX11_block_78 (hR _ _ hx)
def F_X11_block_52 (N : Nat) (x0 : Option Nat) (x3 : Int32) (s0 : Int32) (S : cS) : Int64 × cS := (if 0 ≤ s0 then (F_X11_block_78 N (f_X11_eight N S (cR S 10 (za (cR S 0 (za x0)))) s0 x3) S) else (F_X11_block_78 N (-1 : Int64) S))
def O_X11_block_52 (N : Nat) (x0 : Option Nat) (x3 : Int32) (s0 : Int32) (S : cS) : Prop := ((0 ≤ s0 → (cis S x0 10) ∧ (cis S (cR S 0 (za x0)) 9) ∧ (o_X11_eight N S (cR S 10 (za (cR S 0 (za x0)))) s0 x3) ∧ O_X11_block_78 N (f_X11_eight N S (cR S 10 (za (cR S 0 (za x0)))) s0 x3) S) ∧ (¬ 0 ≤ s0 → O_X11_block_78 N (-1 : Int64) S))
set_option maxRecDepth 100000 in
set_option maxHeartbeats 4000000 in
theorem b_X11_block_52 {G : zG} {o : cO} {S : cS} {N : Nat} {Q : Option Value → cS → Prop} {X : Int64 × cS → Prop} (hG : zOK G) (hR : ∀ v S', X (v, S') → Q (some (.long v)) S') {x0 : Option Nat} {x3 : Int32} {s0 : Int32} (ok : O_X11_block_52 N x0 x3 s0 S) (hx : X (F_X11_block_52 N x0 x3 s0 S)) : cX G o dX11_block mX11_block 52 [some (va_rf x0), none, none, some (.int x3), none, none] [.int s0] S Q := by
  unfold O_X11_block_52 at ok
  unfold F_X11_block_52 at hx
  refine c_istore_5 dX11_block_52 (by decide) rfl ?_
  refine c_iload dX11_block_54 rfl ?_
  refine c_if_ge (tgt := 65) dX11_block_56 (by decide) (fun c_56 => ?_) (fun c_56 => ?_)
  · have ok := ok.1 c_56
    have hx := xif_p c_56 hx
    refine c_aload_nQ dX11_block_65 rfl rfl ?_
    refine c_getR (C := RX11) (T := TX11) (N := 4) (ci := 9) (k := 0) ⟨rfl, inT11, by decide, fX11_22⟩ (by decide) (by decide) (by decide) dX11_block_66 ok.1 ?_
    have ok := ok.2
    refine c_getR (C := RX10) (T := TX10) (N := 12) (ci := 8) (k := 10) ⟨rfl, inT10, by decide, fX11_256⟩ (by decide) (by decide) (by decide) dX11_block_69 ok.1 ?_
    have ok := ok.2
    refine c_iload dX11_block_72 rfl ?_
    refine c_iload_n dX11_block_74 rfl rfl ?_
    refine c_S3lE (y' := mX11_eight) dX11_block_75 lX11_153 kX11_eight ⟨by decide, by decide⟩ (Nat.le_of_ble_eq_true rfl) (cc_X11_eight hG ok.1) ?_
    have ok := ok.2
    exact cX.cutz (b_X11_block_78 hG hR ok hx) trivial
  · have ok := ok.2 c_56
    have hx := xif_n c_56 hx
    refine c_ldc2 dX11_block_59 nX11_200 ?_
    refine c_goto (tgt := 78) dX11_block_62 (by decide) ?_
    exact cX.cutz (b_X11_block_78 hG hR ok hx) trivial
def F_X11_block_27 (N : Nat)  (S : cS) : Int64 × cS := ((-1 : Int64), S)
def O_X11_block_27 (N : Nat)  (S : cS) : Prop := True
set_option maxRecDepth 100000 in
set_option maxHeartbeats 4000000 in
theorem b_X11_block_27 {G : zG} {o : cO} {S : cS} {N : Nat} {Q : Option Value → cS → Prop} {X : Int64 × cS → Prop} (hG : zOK G) (hR : ∀ v S', X (v, S') → Q (some (.long v)) S') (ok : O_X11_block_27 N S) (hx : X (F_X11_block_27 N S)) : cX G o dX11_block mX11_block 27 [none, none, none, none, none, none] [] S Q := by
  unfold O_X11_block_27 at ok
  unfold F_X11_block_27 at hx
  refine c_ldc2 dX11_block_27 nX11_200 ?_
  exact c_lreturn rfl dX11_block_30 (hR _ _ hx)
def F_X11_block_0 (N : Nat) (x0 : Option Nat) (x1 : Int32) (x2 : Int32) (x3 : Int32) (S : cS) : Int64 × cS := (if (f_X11_honestNode N S (za x0) x1) = none then (F_X11_block_27 N S) else (if x3 < 0 then (F_X11_block_27 N S) else (if x2 < (-1) then (F_X11_block_27 N S) else (if x2 ≤ (nI 40) then (if x2 ≤ 0 then (if x2 = 0 then (F_X11_block_96 N x3 (cR S 14 (za (f_X11_honestNode N S (za x0) x1))) S) else (F_X11_block_96 N x3 (cR S 15 (za (f_X11_honestNode N S (za x0) x1))) S)) else (F_X11_block_52 N x0 x3 ((f_X4_fetch N S (za (cR S 2 (za (f_X11_honestNode N S (za x0) x1)))) x2 (cR S 10 (za (cR S 0 (za x0)))) (nI 0)).1) (f_X4_fetch N S (za (cR S 2 (za (f_X11_honestNode N S (za x0) x1)))) x2 (cR S 10 (za (cR S 0 (za x0)))) (nI 0)).2)) else (F_X11_block_27 N S)))))
def O_X11_block_0 (N : Nat) (x0 : Option Nat) (x1 : Int32) (x2 : Int32) (x3 : Int32) (S : cS) : Prop := (cis S x0 10 ∧ o_X11_honestNode N S (za x0) x1) ∧ (((f_X11_honestNode N S (za x0) x1) = none → O_X11_block_27 N S) ∧ (¬ (f_X11_honestNode N S (za x0) x1) = none → ((x3 < 0 → O_X11_block_27 N S) ∧ (¬ x3 < 0 → ((x2 < (-1) → O_X11_block_27 N S) ∧ (¬ x2 < (-1) → ((x2 ≤ (nI 40) → ((x2 ≤ 0 → ((x2 = 0 → (cis S (f_X11_honestNode N S (za x0) x1) 6) ∧ O_X11_block_96 N x3 (cR S 14 (za (f_X11_honestNode N S (za x0) x1))) S) ∧ (¬ x2 = 0 → (cis S (f_X11_honestNode N S (za x0) x1) 6) ∧ O_X11_block_96 N x3 (cR S 15 (za (f_X11_honestNode N S (za x0) x1))) S))) ∧ (¬ x2 ≤ 0 → (cis S (f_X11_honestNode N S (za x0) x1) 6) ∧ (cis S x0 10) ∧ (cis S (cR S 0 (za x0)) 9) ∧ (cis S (cR S 2 (za (f_X11_honestNode N S (za x0) x1))) 4 ∧ o_X4_fetch N S (za (cR S 2 (za (f_X11_honestNode N S (za x0) x1)))) x2 (cR S 10 (za (cR S 0 (za x0)))) (nI 0)) ∧ O_X11_block_52 N x0 x3 ((f_X4_fetch N S (za (cR S 2 (za (f_X11_honestNode N S (za x0) x1)))) x2 (cR S 10 (za (cR S 0 (za x0)))) (nI 0)).1) (f_X4_fetch N S (za (cR S 2 (za (f_X11_honestNode N S (za x0) x1)))) x2 (cR S 10 (za (cR S 0 (za x0)))) (nI 0)).2))) ∧ (¬ x2 ≤ (nI 40) → O_X11_block_27 N S))))))))
set_option maxRecDepth 100000 in
set_option maxHeartbeats 4000000 in
theorem b_X11_block_0 {G : zG} {o : cO} {S : cS} {N : Nat} {Q : Option Value → cS → Prop} {X : Int64 × cS → Prop} (hG : zOK G) (hR : ∀ v S', X (v, S') → Q (some (.long v)) S') {x0 : Option Nat} {x1 : Int32} {x2 : Int32} {x3 : Int32} (ok : O_X11_block_0 N x0 x1 x2 x3 S) (hx : X (F_X11_block_0 N x0 x1 x2 x3 S)) : cX G o dX11_block mX11_block 0 [some (va_rf x0), some (.int x1), some (.int x2), some (.int x3), none, none] [] S Q := by
  unfold O_X11_block_0 at ok
  unfold F_X11_block_0 at hx
  refine c_aload_nQ dX11_block_0 rfl rfl ?_
  refine c_iload_n dX11_block_1 rfl rfl ?_
  refine c_V1qE (ci := 9) (rr := (RX11, TX11, 4)) (y' := mX11_honestNode) dX11_block_2 lX11_120 kX11_honestNode ⟨by decide, by decide⟩ rfl rfl (by decide) ok.1.1 (Nat.le_of_ble_eq_true rfl) (cc_X11_honestNode hG ok.1.2) ?_
  have ok := ok.2
  refine c_astore_4Q dX11_block_5 (by decide) rfl ?_
  refine c_aloadQ dX11_block_7 rfl ?_
  refine c_ifnullI (tgt := 27) dX11_block_9 (by decide) (fun c_9 => ?_) (fun c_9 => ?_)
  · have ok := ok.1 c_9
    have hx := xif_p c_9 hx
    exact cX.cutz (b_X11_block_27 hG hR ok hx) trivial
  · have ok := ok.2 c_9
    have hx := xif_n c_9 hx
    refine c_iload_n dX11_block_12 rfl rfl ?_
    refine c_if_lt (tgt := 27) dX11_block_13 (by decide) (fun c_13 => ?_) (fun c_13 => ?_)
    · have ok := ok.1 c_13
      have hx := xif_p c_13 hx
      exact cX.cutz (b_X11_block_27 hG hR ok hx) trivial
    · have ok := ok.2 c_13
      have hx := xif_n c_13 hx
      refine c_iload_n dX11_block_16 rfl rfl ?_
      refine c_iconst (v := -1) dX11_block_17 (by decide) ?_
      refine c_icmp_lt (tgt := 27) dX11_block_18 (by decide) (fun c_18 => ?_) (fun c_18 => ?_)
      · have ok := ok.1 c_18
        have hx := xif_p c_18 hx
        exact cX.cutz (b_X11_block_27 hG hR ok hx) trivial
      · have ok := ok.2 c_18
        have hx := xif_n c_18 hx
        refine c_iload_n dX11_block_21 rfl rfl ?_
        refine c_bipush (v := nI 40) dX11_block_22 (by decide) ?_
        refine c_icmp_le (tgt := 31) dX11_block_24 (by decide) (fun c_24 => ?_) (fun c_24 => ?_)
        · have ok := ok.1 c_24
          have hx := xif_p c_24 hx
          refine c_iload_n dX11_block_31 rfl rfl ?_
          refine c_if_le (tgt := 79) dX11_block_32 (by decide) (fun c_32 => ?_) (fun c_32 => ?_)
          · have ok := ok.1 c_32
            have hx := xif_p c_32 hx
            refine c_iload_n dX11_block_79 rfl rfl ?_
            refine c_if_ne (tgt := 91) dX11_block_80 (by decide) (fun c_80 => ?_) (fun c_80 => ?_)
            · have ok := ok.2 c_80
              have hx := xif_n c_80 hx
              refine c_aloadQ dX11_block_91 rfl ?_
              refine c_getR (C := RX6) (T := TX6) (N := 19) (ci := 5) (k := 15) ⟨rfl, inT6, by decide, fX11_266⟩ (by decide) (by decide) (by decide) dX11_block_93 ok.1 ?_
              have ok := ok.2
              exact cX.cutz (b_X11_block_96 hG hR ok hx) ⟨rfl, trivial⟩
            · have ok := ok.1 c_80
              have hx := xif_p c_80 hx
              refine c_aloadQ dX11_block_83 rfl ?_
              refine c_getR (C := RX6) (T := TX6) (N := 19) (ci := 5) (k := 14) ⟨rfl, inT6, by decide, fX11_262⟩ (by decide) (by decide) (by decide) dX11_block_85 ok.1 ?_
              have ok := ok.2
              refine c_goto (tgt := 96) dX11_block_88 (by decide) ?_
              exact cX.cutz (b_X11_block_96 hG hR ok hx) ⟨rfl, trivial⟩
          · have ok := ok.2 c_32
            have hx := xif_n c_32 hx
            refine c_aloadQ dX11_block_35 rfl ?_
            refine c_getR (C := RX6) (T := TX6) (N := 19) (ci := 5) (k := 2) ⟨rfl, inT6, by decide, fX11_205⟩ (by decide) (by decide) (by decide) dX11_block_37 ok.1 ?_
            have ok := ok.2
            refine c_iload_n dX11_block_40 rfl rfl ?_
            refine c_aload_nQ dX11_block_41 rfl rfl ?_
            refine c_getR (C := RX11) (T := TX11) (N := 4) (ci := 9) (k := 0) ⟨rfl, inT11, by decide, fX11_22⟩ (by decide) (by decide) (by decide) dX11_block_42 ok.1 ?_
            have ok := ok.2
            refine c_getR (C := RX10) (T := TX10) (N := 12) (ci := 8) (k := 10) ⟨rfl, inT10, by decide, fX11_256⟩ (by decide) (by decide) (by decide) dX11_block_45 ok.1 ?_
            have ok := ok.2
            refine c_iconst (v := nI 0) dX11_block_48 (by decide) ?_
            refine c_V3iE (ci := 3) (rr := (RX4, TX4, 10)) (y' := mX4_fetch) dX11_block_49 lX11_259 kX4_fetch ⟨by decide, by decide⟩ rfl rfl (by decide) ok.1.1 (Nat.le_of_ble_eq_true rfl) (cc_X4_fetch hG ok.1.2) ?_
            have ok := ok.2
            exact cX.cutz (b_X11_block_52 hG hR ok hx) ⟨rfl, rfl, trivial⟩
        · have ok := ok.2 c_24
          have hx := xif_n c_24 hx
          exact cX.cutz (b_X11_block_27 hG hR ok hx) trivial
def f_X11_block (N : Nat) (S : cS) (a0 : Nat) (x1 : Int32) (x2 : Int32) (x3 : Int32) : Int64 × cS := F_X11_block_0 N (some a0) x1 x2 x3 S
def o_X11_block (N : Nat) (S : cS) (a0 : Nat) (x1 : Int32) (x2 : Int32) (x3 : Int32) : Prop := O_X11_block_0 N (some a0) x1 x2 x3 S
set_option maxRecDepth 100000 in
set_option maxHeartbeats 4000000 in
theorem cc_X11_block {G : zG} {o : cO} {S : cS} {N : Nat} (hG : zOK G) {a0 : Nat} {x1 : Int32} {x2 : Int32} {x3 : Int32} (ok : o_X11_block N S a0 x1 x2 x3) : cCl G o dX11_block mX11_block [.ref a0, .int x1, .int x2, .int x3] S (fun v S' => v = (f_X11_block N S a0 x1 x2 x3).1 ∧ S' = (f_X11_block N S a0 x1 x2 x3).2) := by
  refine cC.ofX rfl (by exact Nat.le_of_ble_eq_true rfl) ?_
  show cX G o dX11_block mX11_block 0 [some (.ref a0), some (.int x1), some (.int x2), some (.int x3), none, none] [] S _
  exact cX.cutz (b_X11_block_0 (X := fun F => F = f_X11_block N S a0 x1 x2 x3) hG (fun v S' h => ⟨v, rfl, by rw [← h], by rw [← h]⟩) ok rfl) ⟨rfl, rfl, rfl, rfl, trivial⟩
/-! X11_paid -/
def F_X11_paid_59 (N : Nat) (s0 : Int32) (s1 : Int32) (S : cS) : Int32 := (s0 + s1)
def O_X11_paid_59 (N : Nat) (s0 : Int32) (s1 : Int32) (S : cS) : Prop := True
set_option maxRecDepth 100000 in
set_option maxHeartbeats 4000000 in
theorem b_X11_paid_59 {G : zG} {o : cO} {S : cS} {N : Nat} {Q : Option Value → cS → Prop} {X : Int32 → Prop} (hG : zOK G) (hR : ∀ v, X v → Q (some (.int v)) S) {s0 : Int32} {s1 : Int32} (ok : O_X11_paid_59 N s0 s1 S) (hx : X (F_X11_paid_59 N s0 s1 S)) : cX G o dX11_paid mX11_paid 59 [none, none, none, none] [.int s1, .int s0] S Q := by
  unfold O_X11_paid_59 at ok
  unfold F_X11_paid_59 at hx
  refine c_iadd dX11_paid_59 ?_
  exact c_ireturn rfl rfl dX11_paid_60 (hR _ hx)
def F_X11_paid_43 (N : Nat) (x2 : Int32) (x3 : Option Nat) (s0 : Int32) (S : cS) : Int32 := (if (f_X8_proofOf N S (za (cR S 3 (za x3))) x2) = none then (F_X11_paid_59 N s0 (nI 0) S) else (F_X11_paid_59 N s0 (nI 2) S))
def O_X11_paid_43 (N : Nat) (x2 : Int32) (x3 : Option Nat) (s0 : Int32) (S : cS) : Prop := (cis S x3 6) ∧ (cis S (cR S 3 (za x3)) 7 ∧ o_X8_proofOf N S (za (cR S 3 (za x3))) x2) ∧ (((f_X8_proofOf N S (za (cR S 3 (za x3))) x2) = none → O_X11_paid_59 N s0 (nI 0) S) ∧ (¬ (f_X8_proofOf N S (za (cR S 3 (za x3))) x2) = none → O_X11_paid_59 N s0 (nI 2) S))
set_option maxRecDepth 100000 in
set_option maxHeartbeats 4000000 in
theorem b_X11_paid_43 {G : zG} {o : cO} {S : cS} {N : Nat} {Q : Option Value → cS → Prop} {X : Int32 → Prop} (hG : zOK G) (hR : ∀ v, X v → Q (some (.int v)) S) {x2 : Int32} {x3 : Option Nat} {s0 : Int32} (ok : O_X11_paid_43 N x2 x3 s0 S) (hx : X (F_X11_paid_43 N x2 x3 s0 S)) : cX G o dX11_paid mX11_paid 43 [none, none, some (.int x2), some (va_rf x3)] [.int s0] S Q := by
  unfold O_X11_paid_43 at ok
  unfold F_X11_paid_43 at hx
  refine c_aload_nQ dX11_paid_43 rfl rfl ?_
  refine c_getR (C := RX6) (T := TX6) (N := 19) (ci := 5) (k := 3) ⟨rfl, inT6, by decide, fX11_162⟩ (by decide) (by decide) (by decide) dX11_paid_44 ok.1 ?_
  have ok := ok.2
  refine c_iload_n dX11_paid_47 rfl rfl ?_
  refine c_V1qE (ci := 6) (rr := (RX8, TX8, 14)) (y' := mX8_proofOf) dX11_paid_48 lX11_272 kX8_proofOf ⟨by decide, by decide⟩ rfl rfl (by decide) ok.1.1 (Nat.le_of_ble_eq_true rfl) (cc_X8_proofOf hG ok.1.2) ?_
  have ok := ok.2
  refine c_ifnullI (tgt := 58) dX11_paid_51 (by decide) (fun c_51 => ?_) (fun c_51 => ?_)
  · have ok := ok.1 c_51
    have hx := xif_p c_51 hx
    refine c_iconst (v := nI 0) dX11_paid_58 (by decide) ?_
    exact cX.cutz (b_X11_paid_59 hG hR ok hx) trivial
  · have ok := ok.2 c_51
    have hx := xif_n c_51 hx
    refine c_iconst (v := nI 2) dX11_paid_54 (by decide) ?_
    refine c_goto (tgt := 59) dX11_paid_55 (by decide) ?_
    exact cX.cutz (b_X11_paid_59 hG hR ok hx) trivial
def F_X11_paid_25 (N : Nat)  (S : cS) : Int32 := (-1)
def O_X11_paid_25 (N : Nat)  (S : cS) : Prop := True
set_option maxRecDepth 100000 in
set_option maxHeartbeats 4000000 in
theorem b_X11_paid_25 {G : zG} {o : cO} {S : cS} {N : Nat} {Q : Option Value → cS → Prop} {X : Int32 → Prop} (hG : zOK G) (hR : ∀ v, X v → Q (some (.int v)) S) (ok : O_X11_paid_25 N S) (hx : X (F_X11_paid_25 N S)) : cX G o dX11_paid mX11_paid 25 [none, none, none, none] [] S Q := by
  unfold O_X11_paid_25 at ok
  unfold F_X11_paid_25 at hx
  refine c_iconst (v := -1) dX11_paid_25 (by decide) ?_
  exact c_ireturn rfl rfl dX11_paid_26 (hR _ hx)
def F_X11_paid_0 (N : Nat) (x0 : Option Nat) (x1 : Int32) (x2 : Int32) (S : cS) : Int32 := (if (f_X11_honestNode N S (za x0) x1) = none then (F_X11_paid_25 N S) else (if x2 < 0 then (F_X11_paid_25 N S) else (if x2 < (cI S 1 (za (cR S 0 (za x0)))) then (if (f_X0_hasPaid N S (za (cR S 4 (za (f_X11_honestNode N S (za x0) x1)))) x2) = 0 then (F_X11_paid_43 N x2 (f_X11_honestNode N S (za x0) x1) (nI 0) S) else (F_X11_paid_43 N x2 (f_X11_honestNode N S (za x0) x1) (nI 1) S)) else (F_X11_paid_25 N S))))
def O_X11_paid_0 (N : Nat) (x0 : Option Nat) (x1 : Int32) (x2 : Int32) (S : cS) : Prop := (cis S x0 10 ∧ o_X11_honestNode N S (za x0) x1) ∧ (((f_X11_honestNode N S (za x0) x1) = none → O_X11_paid_25 N S) ∧ (¬ (f_X11_honestNode N S (za x0) x1) = none → ((x2 < 0 → O_X11_paid_25 N S) ∧ (¬ x2 < 0 → (cis S x0 10) ∧ (cis S (cR S 0 (za x0)) 9) ∧ ((x2 < (cI S 1 (za (cR S 0 (za x0)))) → (cis S (f_X11_honestNode N S (za x0) x1) 6) ∧ (cis S (cR S 4 (za (f_X11_honestNode N S (za x0) x1))) 1 ∧ o_X0_hasPaid N S (za (cR S 4 (za (f_X11_honestNode N S (za x0) x1)))) x2) ∧ (((f_X0_hasPaid N S (za (cR S 4 (za (f_X11_honestNode N S (za x0) x1)))) x2) = 0 → O_X11_paid_43 N x2 (f_X11_honestNode N S (za x0) x1) (nI 0) S) ∧ (¬ (f_X0_hasPaid N S (za (cR S 4 (za (f_X11_honestNode N S (za x0) x1)))) x2) = 0 → O_X11_paid_43 N x2 (f_X11_honestNode N S (za x0) x1) (nI 1) S))) ∧ (¬ x2 < (cI S 1 (za (cR S 0 (za x0)))) → O_X11_paid_25 N S))))))
set_option maxRecDepth 100000 in
set_option maxHeartbeats 4000000 in
theorem b_X11_paid_0 {G : zG} {o : cO} {S : cS} {N : Nat} {Q : Option Value → cS → Prop} {X : Int32 → Prop} (hG : zOK G) (hR : ∀ v, X v → Q (some (.int v)) S) {x0 : Option Nat} {x1 : Int32} {x2 : Int32} (ok : O_X11_paid_0 N x0 x1 x2 S) (hx : X (F_X11_paid_0 N x0 x1 x2 S)) : cX G o dX11_paid mX11_paid 0 [some (va_rf x0), some (.int x1), some (.int x2), none] [] S Q := by
  unfold O_X11_paid_0 at ok
  unfold F_X11_paid_0 at hx
  refine c_aload_nQ dX11_paid_0 rfl rfl ?_
  refine c_iload_n dX11_paid_1 rfl rfl ?_
  refine c_V1qE (ci := 9) (rr := (RX11, TX11, 4)) (y' := mX11_honestNode) dX11_paid_2 lX11_120 kX11_honestNode ⟨by decide, by decide⟩ rfl rfl (by decide) ok.1.1 (Nat.le_of_ble_eq_true rfl) (cc_X11_honestNode hG ok.1.2) ?_
  have ok := ok.2
  refine c_astore_3Q dX11_paid_5 (by decide) rfl ?_
  refine c_aload_nQ dX11_paid_6 rfl rfl ?_
  refine c_ifnullI (tgt := 25) dX11_paid_7 (by decide) (fun c_7 => ?_) (fun c_7 => ?_)
  · have ok := ok.1 c_7
    have hx := xif_p c_7 hx
    exact cX.cutz (b_X11_paid_25 hG hR ok hx) trivial
  · have ok := ok.2 c_7
    have hx := xif_n c_7 hx
    refine c_iload_n dX11_paid_10 rfl rfl ?_
    refine c_if_lt (tgt := 25) dX11_paid_11 (by decide) (fun c_11 => ?_) (fun c_11 => ?_)
    · have ok := ok.1 c_11
      have hx := xif_p c_11 hx
      exact cX.cutz (b_X11_paid_25 hG hR ok hx) trivial
    · have ok := ok.2 c_11
      have hx := xif_n c_11 hx
      refine c_iload_n dX11_paid_14 rfl rfl ?_
      refine c_aload_nQ dX11_paid_15 rfl rfl ?_
      refine c_getR (C := RX11) (T := TX11) (N := 4) (ci := 9) (k := 0) ⟨rfl, inT11, by decide, fX11_22⟩ (by decide) (by decide) (by decide) dX11_paid_16 ok.1 ?_
      have ok := ok.2
      refine c_getI (C := RX10) (T := TX10) (N := 12) (ci := 8) (k := 1) ⟨rfl, inT10, by decide, fX11_87⟩ (by decide) (by decide) (by decide) dX11_paid_19 ok.1 ?_
      have ok := ok.2
      refine c_icmp_lt (tgt := 27) dX11_paid_22 (by decide) (fun c_22 => ?_) (fun c_22 => ?_)
      · have ok := ok.1 c_22
        have hx := xif_p c_22 hx
        refine c_aload_nQ dX11_paid_27 rfl rfl ?_
        refine c_getR (C := RX6) (T := TX6) (N := 19) (ci := 5) (k := 4) ⟨rfl, inT6, by decide, fX11_129⟩ (by decide) (by decide) (by decide) dX11_paid_28 ok.1 ?_
        have ok := ok.2
        refine c_iload_n dX11_paid_31 rfl rfl ?_
        refine c_V1iE (ci := 0) (rr := (RX0, TX0, 6)) (y' := mX0_hasPaid) dX11_paid_32 lX11_269 kX0_hasPaid ⟨by decide, by decide⟩ rfl rfl (by decide) ok.1.1 (Nat.le_of_ble_eq_true rfl) (cc_X0_hasPaid hG ok.1.2) ?_
        have ok := ok.2
        refine c_if_eq (tgt := 42) dX11_paid_35 (by decide) (fun c_35 => ?_) (fun c_35 => ?_)
        · have ok := ok.1 c_35
          have hx := xif_p c_35 hx
          refine c_iconst (v := nI 0) dX11_paid_42 (by decide) ?_
          exact cX.cutz (b_X11_paid_43 hG hR ok hx) ⟨rfl, rfl, trivial⟩
        · have ok := ok.2 c_35
          have hx := xif_n c_35 hx
          refine c_iconst (v := nI 1) dX11_paid_38 (by decide) ?_
          refine c_goto (tgt := 43) dX11_paid_39 (by decide) ?_
          exact cX.cutz (b_X11_paid_43 hG hR ok hx) ⟨rfl, rfl, trivial⟩
      · have ok := ok.2 c_22
        have hx := xif_n c_22 hx
        exact cX.cutz (b_X11_paid_25 hG hR ok hx) trivial
def f_X11_paid (N : Nat) (S : cS) (a0 : Nat) (x1 : Int32) (x2 : Int32) : Int32 := F_X11_paid_0 N (some a0) x1 x2 S
def o_X11_paid (N : Nat) (S : cS) (a0 : Nat) (x1 : Int32) (x2 : Int32) : Prop := O_X11_paid_0 N (some a0) x1 x2 S
set_option maxRecDepth 100000 in
set_option maxHeartbeats 4000000 in
theorem cc_X11_paid {G : zG} {o : cO} {S : cS} {N : Nat} (hG : zOK G) {a0 : Nat} {x1 : Int32} {x2 : Int32} (ok : o_X11_paid N S a0 x1 x2) : cCi G o dX11_paid mX11_paid [.ref a0, .int x1, .int x2] S (fun v S' => v = f_X11_paid N S a0 x1 x2 ∧ S' = S) := by
  refine cC.ofX rfl (by exact Nat.le_of_ble_eq_true rfl) ?_
  show cX G o dX11_paid mX11_paid 0 [some (.ref a0), some (.int x1), some (.int x2), none] [] S _
  exact cX.cutz (b_X11_paid_0 (X := fun F => F = f_X11_paid N S a0 x1 x2) hG (fun v h => ⟨v, rfl, h, rfl⟩) ok rfl) ⟨rfl, rfl, rfl, trivial⟩

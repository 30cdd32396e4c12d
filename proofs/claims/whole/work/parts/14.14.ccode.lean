/-! X7_again -/
def F_X7_again_73 (N : Nat) (x2 : Option Nat) (S : cS) : Option Nat × cS := (x2, S)
def O_X7_again_73 (N : Nat) (x2 : Option Nat) (S : cS) : Prop := True
set_option maxRecDepth 100000 in
set_option maxHeartbeats 4000000 in
theorem b_X7_again_73 {G : zG} {o : cO} {S : cS} {N : Nat} {Q : Option Value → cS → Prop} {X : Option Nat × cS → Prop} (hG : zOK G) (hR : ∀ v S', X (v, S') → Q (some (va_rf v)) S') {x2 : Option Nat} (ok : O_X7_again_73 N x2 S) (hx : X (F_X7_again_73 N x2 S)) : cX G o dX7_again mX7_again 73 [none, none, some (va_rf x2)] [] S Q := by
  unfold O_X7_again_73 at ok
  unfold F_X7_again_73 at hx
  refine c_aload_nQ dX7_again_73 rfl rfl ?_
  exact c_areturn rfl (Or.inl ⟨_, rfl⟩) dX7_again_74 (hR _ _ hx)
def F_X7_again_63 (N : Nat) (x2 : Option Nat) (S : cS) : Option Nat × cS := (F_X7_again_73 N x2 (csI (csI S 5 (za x2) (nI 1)) 4 (za x2) (nI 1)))
def O_X7_again_63 (N : Nat) (x2 : Option Nat) (S : cS) : Prop := (cis S x2 5) ∧ (cis (csI S 5 (za x2) (nI 1)) x2 5) ∧ O_X7_again_73 N x2 (csI (csI S 5 (za x2) (nI 1)) 4 (za x2) (nI 1))
set_option maxRecDepth 100000 in
set_option maxHeartbeats 4000000 in
theorem b_X7_again_63 {G : zG} {o : cO} {S : cS} {N : Nat} {Q : Option Value → cS → Prop} {X : Option Nat × cS → Prop} (hG : zOK G) (hR : ∀ v S', X (v, S') → Q (some (va_rf v)) S') {x2 : Option Nat} (ok : O_X7_again_63 N x2 S) (hx : X (F_X7_again_63 N x2 S)) : cX G o dX7_again mX7_again 63 [none, none, some (va_rf x2)] [] S Q := by
  unfold O_X7_again_63 at ok
  unfold F_X7_again_63 at hx
  refine c_aload_nQ dX7_again_63 rfl rfl ?_
  refine c_iconst (v := nI 1) dX7_again_64 (by decide) ?_
  refine c_putI (C := RX5) (T := TX5) (N := 7) (ci := 4) (k := 5) ⟨rfl, inT5, by decide, fX7_322⟩ ftT5 rfl (by decide) (by decide) (by decide) rfl rfl dX7_again_65 ok.1 ?_
  have ok := ok.2
  refine c_aload_nQ dX7_again_68 rfl rfl ?_
  refine c_iconst (v := nI 1) dX7_again_69 (by decide) ?_
  refine c_putI (C := RX5) (T := TX5) (N := 7) (ci := 4) (k := 4) ⟨rfl, inT5, by decide, fX7_325⟩ ftT5 rfl (by decide) (by decide) (by decide) rfl rfl dX7_again_70 ok.1 ?_
  have ok := ok.2
  exact cX.cutz (b_X7_again_73 hG hR ok hx) ⟨rfl, trivial⟩
def F_X7_again_49 (N : Nat) (x1 : Option Nat) (x2 : Option Nat) (S : cS) : Option Nat × cS := (F_X7_again_63 N x2 (csJrow S (za (cR S 1 (za x2))) (va_cpy (cJ S (za (cR S 1 (za x1)))) (cJ S (za (cR S 1 (za x2)))) (nI 0).toNatClampNeg (nI 0).toNatClampNeg (nI 4).toNatClampNeg)))
def O_X7_again_49 (N : Nat) (x1 : Option Nat) (x2 : Option Nat) (S : cS) : Prop := (cis S x1 5) ∧ (cis S x2 5) ∧ (cis S (cR S 1 (za x1)) 22 ∧ cis S (cR S 1 (za x2)) 22 ∧ (¬ (nI 0) < 0 ∧ ¬ (nI 0) < 0 ∧ ¬ (nI 4) < 0) ∧ (nI 0).toNatClampNeg + (nI 4).toNatClampNeg ≤ cL S (za (cR S 1 (za x1))) ∧ (nI 0).toNatClampNeg + (nI 4).toNatClampNeg ≤ cL S (za (cR S 1 (za x2)))) ∧ O_X7_again_63 N x2 (csJrow S (za (cR S 1 (za x2))) (va_cpy (cJ S (za (cR S 1 (za x1)))) (cJ S (za (cR S 1 (za x2)))) (nI 0).toNatClampNeg (nI 0).toNatClampNeg (nI 4).toNatClampNeg))
set_option maxRecDepth 100000 in
set_option maxHeartbeats 4000000 in
theorem b_X7_again_49 {G : zG} {o : cO} {S : cS} {N : Nat} {Q : Option Value → cS → Prop} {X : Option Nat × cS → Prop} (hG : zOK G) (hR : ∀ v S', X (v, S') → Q (some (va_rf v)) S') {x1 : Option Nat} {x2 : Option Nat} (ok : O_X7_again_49 N x1 x2 S) (hx : X (F_X7_again_49 N x1 x2 S)) : cX G o dX7_again mX7_again 49 [none, some (va_rf x1), some (va_rf x2)] [] S Q := by
  unfold O_X7_again_49 at ok
  unfold F_X7_again_49 at hx
  refine c_aload_nQ dX7_again_49 rfl rfl ?_
  refine c_getR (C := RX5) (T := TX5) (N := 7) (ci := 4) (k := 1) ⟨rfl, inT5, by decide, fX7_318⟩ (by decide) (by decide) (by decide) dX7_again_50 ok.1 ?_
  have ok := ok.2
  refine c_iconst (v := nI 0) dX7_again_53 (by decide) ?_
  refine c_aload_nQ dX7_again_54 rfl rfl ?_
  refine c_getR (C := RX5) (T := TX5) (N := 7) (ci := 4) (k := 1) ⟨rfl, inT5, by decide, fX7_318⟩ (by decide) (by decide) (by decide) dX7_again_55 ok.1 ?_
  have ok := ok.2
  refine c_iconst (v := nI 0) dX7_again_58 (by decide) ?_
  refine c_iconst (v := nI 4) dX7_again_59 (by decide) ?_
  refine c_copy2 hG dX7_again_60 qX7_130 (by decide) (by decide) ok.1 ?_
  have ok := ok.2
  exact cX.cutz (b_X7_again_63 hG hR ok hx) ⟨rfl, trivial⟩
def F_X7_again_27 (N : Nat) (x1 : Option Nat) (x2 : Option Nat) (S : cS) : Option Nat × cS := (F_X7_again_49 N x1 x2 (csArow S (za (cR S 0 (za x2))) (va_cpy (cA S (za (cR S 0 (za x1)))) (cA S (za (cR S 0 (za x2)))) (nI 6).toNatClampNeg (nI 6).toNatClampNeg ((cI S 2 (za x2)) - (nI 6)).toNatClampNeg)))
def O_X7_again_27 (N : Nat) (x1 : Option Nat) (x2 : Option Nat) (S : cS) : Prop := (cis S x1 5) ∧ (cis S x2 5) ∧ (cis S x2 5) ∧ (cis S (cR S 0 (za x1)) 20 ∧ cis S (cR S 0 (za x2)) 20 ∧ (¬ (nI 6) < 0 ∧ ¬ (nI 6) < 0 ∧ ¬ ((cI S 2 (za x2)) - (nI 6)) < 0) ∧ (nI 6).toNatClampNeg + ((cI S 2 (za x2)) - (nI 6)).toNatClampNeg ≤ cL S (za (cR S 0 (za x1))) ∧ (nI 6).toNatClampNeg + ((cI S 2 (za x2)) - (nI 6)).toNatClampNeg ≤ cL S (za (cR S 0 (za x2)))) ∧ O_X7_again_49 N x1 x2 (csArow S (za (cR S 0 (za x2))) (va_cpy (cA S (za (cR S 0 (za x1)))) (cA S (za (cR S 0 (za x2)))) (nI 6).toNatClampNeg (nI 6).toNatClampNeg ((cI S 2 (za x2)) - (nI 6)).toNatClampNeg))
set_option maxRecDepth 100000 in
set_option maxHeartbeats 4000000 in
theorem b_X7_again_27 {G : zG} {o : cO} {S : cS} {N : Nat} {Q : Option Value → cS → Prop} {X : Option Nat × cS → Prop} (hG : zOK G) (hR : ∀ v S', X (v, S') → Q (some (va_rf v)) S') {x1 : Option Nat} {x2 : Option Nat} (ok : O_X7_again_27 N x1 x2 S) (hx : X (F_X7_again_27 N x1 x2 S)) : cX G o dX7_again mX7_again 27 [none, some (va_rf x1), some (va_rf x2)] [] S Q := by
  unfold O_X7_again_27 at ok
  unfold F_X7_again_27 at hx
  refine c_aload_nQ dX7_again_27 rfl rfl ?_
  refine c_getR (C := RX5) (T := TX5) (N := 7) (ci := 4) (k := 0) ⟨rfl, inT5, by decide, fX7_123⟩ (by decide) (by decide) (by decide) dX7_again_28 ok.1 ?_
  have ok := ok.2
  refine c_bipush (v := nI 6) dX7_again_31 (by decide) ?_
  refine c_aload_nQ dX7_again_33 rfl rfl ?_
  refine c_getR (C := RX5) (T := TX5) (N := 7) (ci := 4) (k := 0) ⟨rfl, inT5, by decide, fX7_123⟩ (by decide) (by decide) (by decide) dX7_again_34 ok.1 ?_
  have ok := ok.2
  refine c_bipush (v := nI 6) dX7_again_37 (by decide) ?_
  refine c_aload_nQ dX7_again_39 rfl rfl ?_
  refine c_getI (C := RX5) (T := TX5) (N := 7) (ci := 4) (k := 2) ⟨rfl, inT5, by decide, fX7_187⟩ (by decide) (by decide) (by decide) dX7_again_40 ok.1 ?_
  have ok := ok.2
  refine c_bipush (v := nI 6) dX7_again_43 (by decide) ?_
  refine c_isub dX7_again_45 ?_
  refine c_copy0 hG dX7_again_46 qX7_130 (by decide) (by decide) ok.1 ?_
  have ok := ok.2
  exact cX.cutz (b_X7_again_49 hG hR ok hx) ⟨rfl, rfl, trivial⟩
def F_X7_again_14 (N : Nat) (x0 : Option Nat) (x1 : Option Nat) (s0 : Option Nat) (S : cS) : Option Nat × cS := (F_X7_again_27 N x1 s0 (f_X7_signProposal N S x0 (cR S 0 (za s0)) (cI S 13 (za x0))))
def O_X7_again_14 (N : Nat) (x0 : Option Nat) (x1 : Option Nat) (s0 : Option Nat) (S : cS) : Prop := (cis S s0 5) ∧ (cis S x0 6) ∧ (o_X7_signProposal N S x0 (cR S 0 (za s0)) (cI S 13 (za x0))) ∧ O_X7_again_27 N x1 s0 (f_X7_signProposal N S x0 (cR S 0 (za s0)) (cI S 13 (za x0)))
set_option maxRecDepth 100000 in
set_option maxHeartbeats 4000000 in
theorem b_X7_again_14 {G : zG} {o : cO} {S : cS} {N : Nat} {Q : Option Value → cS → Prop} {X : Option Nat × cS → Prop} (hG : zOK G) (hR : ∀ v S', X (v, S') → Q (some (va_rf v)) S') {x0 : Option Nat} {x1 : Option Nat} {s0 : Option Nat} (ok : O_X7_again_14 N x0 x1 s0 S) (hx : X (F_X7_again_14 N x0 x1 s0 S)) : cX G o dX7_again mX7_again 14 [some (va_rf x0), some (va_rf x1), none] [va_rf s0] S Q := by
  unfold O_X7_again_14 at ok
  unfold F_X7_again_14 at hx
  refine c_astore_2Q dX7_again_14 (by decide) (by simp [zok, zg, zcat_rf]) ?_
  refine c_aload_nQ dX7_again_15 rfl rfl ?_
  refine c_aload_nQ dX7_again_16 rfl rfl ?_
  refine c_getR (C := RX5) (T := TX5) (N := 7) (ci := 4) (k := 0) ⟨rfl, inT5, by decide, fX7_123⟩ (by decide) (by decide) (by decide) dX7_again_17 ok.1 ?_
  have ok := ok.2
  refine c_aload_nQ dX7_again_20 rfl rfl ?_
  refine c_getI (C := RX6) (T := TX6) (N := 19) (ci := 5) (k := 13) ⟨rfl, inT6, by decide, fX7_254⟩ (by decide) (by decide) (by decide) dX7_again_21 ok.1 ?_
  have ok := ok.2
  refine c_S3vE (y' := mX7_signProposal) dX7_again_24 lX7_314 kX7_signProposal ⟨by decide, by decide⟩ (Nat.le_of_ble_eq_true rfl) (cc_X7_signProposal hG ok.1) ?_
  have ok := ok.2
  exact cX.cutz (b_X7_again_27 hG hR ok hx) ⟨rfl, rfl, trivial⟩
def F_X7_again_0 (N : Nat) (x0 : Option Nat) (x1 : Option Nat) (S : cS) : Option Nat × cS := (F_X7_again_14 N x0 x1 ((f_X9_fresh N S (za (cR S 6 (za (cR S 0 (za x0))))) (cI S 2 (za x1))).1) (f_X9_fresh N S (za (cR S 6 (za (cR S 0 (za x0))))) (cI S 2 (za x1))).2)
def O_X7_again_0 (N : Nat) (x0 : Option Nat) (x1 : Option Nat) (S : cS) : Prop := (cis S x0 6) ∧ (cis S (cR S 0 (za x0)) 9) ∧ (cis S x1 5) ∧ (cis S (cR S 6 (za (cR S 0 (za x0)))) 8 ∧ o_X9_fresh N S (za (cR S 6 (za (cR S 0 (za x0))))) (cI S 2 (za x1))) ∧ O_X7_again_14 N x0 x1 ((f_X9_fresh N S (za (cR S 6 (za (cR S 0 (za x0))))) (cI S 2 (za x1))).1) (f_X9_fresh N S (za (cR S 6 (za (cR S 0 (za x0))))) (cI S 2 (za x1))).2
set_option maxRecDepth 100000 in
set_option maxHeartbeats 4000000 in
theorem b_X7_again_0 {G : zG} {o : cO} {S : cS} {N : Nat} {Q : Option Value → cS → Prop} {X : Option Nat × cS → Prop} (hG : zOK G) (hR : ∀ v S', X (v, S') → Q (some (va_rf v)) S') {x0 : Option Nat} {x1 : Option Nat} (ok : O_X7_again_0 N x0 x1 S) (hx : X (F_X7_again_0 N x0 x1 S)) : cX G o dX7_again mX7_again 0 [some (va_rf x0), some (va_rf x1), none] [] S Q := by
  unfold O_X7_again_0 at ok
  unfold F_X7_again_0 at hx
  refine c_aload_nQ dX7_again_0 rfl rfl ?_
  refine c_getR (C := RX6) (T := TX6) (N := 19) (ci := 5) (k := 0) ⟨rfl, inT6, by decide, fX7_26⟩ (by decide) (by decide) (by decide) dX7_again_1 ok.1 ?_
  have ok := ok.2
  refine c_getR (C := RX10) (T := TX10) (N := 12) (ci := 8) (k := 6) ⟨rfl, inT10, by decide, fX7_278⟩ (by decide) (by decide) (by decide) dX7_again_4 ok.1 ?_
  have ok := ok.2
  refine c_aload_nQ dX7_again_7 rfl rfl ?_
  refine c_getI (C := RX5) (T := TX5) (N := 7) (ci := 4) (k := 2) ⟨rfl, inT5, by decide, fX7_187⟩ (by decide) (by decide) (by decide) dX7_again_8 ok.1 ?_
  have ok := ok.2
  refine c_V1qE (ci := 7) (rr := (RX9, TX9, 13)) (y' := mX9_fresh) dX7_again_11 lX7_310 kX9_fresh ⟨by decide, by decide⟩ rfl rfl (by decide) ok.1.1 (Nat.le_of_ble_eq_true rfl) (cc_X9_fresh hG ok.1.2) ?_
  have ok := ok.2
  exact cX.cutz (b_X7_again_14 hG hR ok hx) ⟨rfl, rfl, trivial⟩
def f_X7_again (N : Nat) (S : cS) (x0 : Option Nat) (x1 : Option Nat) : Option Nat × cS := F_X7_again_0 N x0 x1 S
def o_X7_again (N : Nat) (S : cS) (x0 : Option Nat) (x1 : Option Nat) : Prop := O_X7_again_0 N x0 x1 S
set_option maxRecDepth 100000 in
set_option maxHeartbeats 4000000 in
theorem cc_X7_again {G : zG} {o : cO} {S : cS} {N : Nat} (hG : zOK G) {x0 : Option Nat} {x1 : Option Nat} (ok : o_X7_again N S x0 x1) : cCq G o dX7_again mX7_again [va_rf x0, va_rf x1] S (fun v S' => v = (f_X7_again N S x0 x1).1 ∧ S' = (f_X7_again N S x0 x1).2) := by
  refine cC.ofX rfl (by cases x0 <;> cases x1 <;> exact Nat.le_of_ble_eq_true rfl) ?_
  rw [show zargs mX7_again.2.2.1 [va_rf x0, va_rf x1] = [some (va_rf x0), some (va_rf x1), none] from by cases x0 <;> cases x1 <;> rfl]
  exact cX.cutz (b_X7_again_0 (X := fun F => F = f_X7_again N S x0 x1) hG (fun v S' h => ⟨v, rfl, by rw [← h], by rw [← h]⟩) ok rfl) ⟨rfl, rfl, trivial⟩
/-! X7_addEvidences -/
def F_X7_addEvidences_98 (N : Nat) (x1 : Option Nat) (x3 : Int32) (x4 : Int32) (S : cS) : Int32 × cS := (x3, (csA S (za x1) (nI 106).toNatClampNeg ((x4.toInt8.toInt32).toInt8.toInt32)))
def O_X7_addEvidences_98 (N : Nat) (x1 : Option Nat) (x3 : Int32) (x4 : Int32) (S : cS) : Prop := (cis S x1 20 ∧ vp_in (nI 106) (cL S (za x1))) ∧ True
set_option maxRecDepth 100000 in
set_option maxHeartbeats 4000000 in
theorem b_X7_addEvidences_98 {G : zG} {o : cO} {S : cS} {N : Nat} {Q : Option Value → cS → Prop} {X : Int32 × cS → Prop} (hG : zOK G) (hR : ∀ v S', X (v, S') → Q (some (.int v)) S') {x1 : Option Nat} {x3 : Int32} {x4 : Int32} (ok : O_X7_addEvidences_98 N x1 x3 x4 S) (hx : X (F_X7_addEvidences_98 N x1 x3 x4 S)) : cX G o dX7_addEvidences mX7_addEvidences 98 [none, some (va_rf x1), none, some (.int x3), some (.int x4), none, none] [] S Q := by
  unfold O_X7_addEvidences_98 at ok
  unfold F_X7_addEvidences_98 at hx
  refine c_aload_nQ dX7_addEvidences_98 rfl rfl ?_
  refine c_bipush (v := nI 106) dX7_addEvidences_99 (by decide) ?_
  refine c_iload dX7_addEvidences_101 rfl ?_
  refine c_i2b dX7_addEvidences_103 ?_
  refine c_bast dX7_addEvidences_104 ok.1 ?_
  have ok := ok.2
  refine c_iload_n dX7_addEvidences_105 rfl rfl ?_
  exact c_ireturn rfl rfl dX7_addEvidences_106 (hR _ _ hx)
def F_X7_addEvidences_92 (N : Nat) (rec : Option Nat → Option Nat → Int32 → Int32 → Int32 → cS → Nat × Option Nat × Int32 × Int32 × cS) (x0 : Option Nat) (x1 : Option Nat) (x3 : Int32) (x4 : Int32) (x5 : Int32) (S : cS) : Nat × Option Nat × Int32 × Int32 × cS := (rec x0 x1 x3 x4 (x5 + nI 1) S)
def O_X7_addEvidences_92 (N : Nat) (rok : Option Nat → Option Nat → Int32 → Int32 → Int32 → cS → Prop) (x0 : Option Nat) (x1 : Option Nat) (x3 : Int32) (x4 : Int32) (x5 : Int32) (S : cS) : Prop := rok x0 x1 x3 x4 (x5 + nI 1) S
set_option maxRecDepth 100000 in
set_option maxHeartbeats 4000000 in
theorem b_X7_addEvidences_92 {G : zG} {o : cO} {S : cS} {N : Nat} {Q : Option Value → cS → Prop} {X : Nat × Option Nat × Int32 × Int32 × cS → Prop} (hG : zOK G) (hX0 : ∀ (x1 : Option Nat) (x3 : Int32) (x4 : Int32) (S' : cS), X (0, x1, x3, x4, S') → cX G o dX7_addEvidences mX7_addEvidences 98 [none, some (va_rf x1), none, some (.int x3), some (.int x4), none, none] [] S' Q) {rec : Option Nat → Option Nat → Int32 → Int32 → Int32 → cS → Nat × Option Nat × Int32 × Int32 × cS} {rok : Option Nat → Option Nat → Int32 → Int32 → Int32 → cS → Prop} (hrec : ∀ (x0 : Option Nat) (x1 : Option Nat) (x3 : Int32) (x4 : Int32) (x5 : Int32) (S : cS), rok x0 x1 x3 x4 x5 S → X (rec x0 x1 x3 x4 x5 S) → cX G o dX7_addEvidences mX7_addEvidences 8 [some (va_rf x0), some (va_rf x1), none, some (.int x3), some (.int x4), some (.int x5), none] [] S Q) {x0 : Option Nat} {x1 : Option Nat} {x3 : Int32} {x4 : Int32} {x5 : Int32} (ok : O_X7_addEvidences_92 N rok x0 x1 x3 x4 x5 S) (hx : X (F_X7_addEvidences_92 N rec x0 x1 x3 x4 x5 S)) : cX G o dX7_addEvidences mX7_addEvidences 92 [some (va_rf x0), some (va_rf x1), none, some (.int x3), some (.int x4), some (.int x5), none] [] S Q := by
  unfold O_X7_addEvidences_92 at ok
  unfold F_X7_addEvidences_92 at hx
  refine c_iinc_5 (v := (x5 + nI 1)) dX7_addEvidences_92 rfl (by first | rfl | (congr 1)) (by decide) rfl ?_
  refine c_goto (tgt := 8) dX7_addEvidences_95 (by decide) ?_
  exact cX.cutz (hrec _ _ _ _ _ S ok hx) ⟨rfl, rfl, rfl, rfl, rfl, trivial⟩
def F_X7_addEvidences_79 (N : Nat) (rec : Option Nat → Option Nat → Int32 → Int32 → Int32 → cS → Nat × Option Nat × Int32 × Int32 × cS) (x0 : Option Nat) (x1 : Option Nat) (x3 : Int32) (x4 : Int32) (x5 : Int32) (x6 : Option Nat) (S : cS) : Nat × Option Nat × Int32 × Int32 × cS := (F_X7_addEvidences_92 N rec x0 x1 (x3 + ((cI S 2 (za x6)) - (nI 1))) (x4 + nI 1) x5 S)
def O_X7_addEvidences_79 (N : Nat) (rok : Option Nat → Option Nat → Int32 → Int32 → Int32 → cS → Prop) (x0 : Option Nat) (x1 : Option Nat) (x3 : Int32) (x4 : Int32) (x5 : Int32) (x6 : Option Nat) (S : cS) : Prop := (cis S x6 5) ∧ O_X7_addEvidences_92 N rok x0 x1 (x3 + ((cI S 2 (za x6)) - (nI 1))) (x4 + nI 1) x5 S
set_option maxRecDepth 100000 in
set_option maxHeartbeats 4000000 in
theorem b_X7_addEvidences_79 {G : zG} {o : cO} {S : cS} {N : Nat} {Q : Option Value → cS → Prop} {X : Nat × Option Nat × Int32 × Int32 × cS → Prop} (hG : zOK G) (hX0 : ∀ (x1 : Option Nat) (x3 : Int32) (x4 : Int32) (S' : cS), X (0, x1, x3, x4, S') → cX G o dX7_addEvidences mX7_addEvidences 98 [none, some (va_rf x1), none, some (.int x3), some (.int x4), none, none] [] S' Q) {rec : Option Nat → Option Nat → Int32 → Int32 → Int32 → cS → Nat × Option Nat × Int32 × Int32 × cS} {rok : Option Nat → Option Nat → Int32 → Int32 → Int32 → cS → Prop} (hrec : ∀ (x0 : Option Nat) (x1 : Option Nat) (x3 : Int32) (x4 : Int32) (x5 : Int32) (S : cS), rok x0 x1 x3 x4 x5 S → X (rec x0 x1 x3 x4 x5 S) → cX G o dX7_addEvidences mX7_addEvidences 8 [some (va_rf x0), some (va_rf x1), none, some (.int x3), some (.int x4), some (.int x5), none] [] S Q) {x0 : Option Nat} {x1 : Option Nat} {x3 : Int32} {x4 : Int32} {x5 : Int32} {x6 : Option Nat} (ok : O_X7_addEvidences_79 N rok x0 x1 x3 x4 x5 x6 S) (hx : X (F_X7_addEvidences_79 N rec x0 x1 x3 x4 x5 x6 S)) : cX G o dX7_addEvidences mX7_addEvidences 79 [some (va_rf x0), some (va_rf x1), none, some (.int x3), some (.int x4), some (.int x5), some (va_rf x6)] [] S Q := by
  unfold O_X7_addEvidences_79 at ok
  unfold F_X7_addEvidences_79 at hx
  refine c_iload_n dX7_addEvidences_79 rfl rfl ?_
  refine c_aloadQ dX7_addEvidences_80 rfl ?_
  refine c_getI (C := RX5) (T := TX5) (N := 7) (ci := 4) (k := 2) ⟨rfl, inT5, by decide, fX7_187⟩ (by decide) (by decide) (by decide) dX7_addEvidences_82 ok.1 ?_
  have ok := ok.2
  refine c_iconst (v := nI 1) dX7_addEvidences_85 (by decide) ?_
  refine c_isub dX7_addEvidences_86 ?_
  refine c_iadd dX7_addEvidences_87 ?_
  refine c_istore_3 dX7_addEvidences_88 (by decide) rfl ?_
  refine c_iinc_4 (v := (x4 + nI 1)) dX7_addEvidences_89 rfl (by first | rfl | (congr 1)) (by decide) rfl ?_
  exact cX.cutz (b_X7_addEvidences_92 hG hX0 hrec ok hx) ⟨rfl, rfl, rfl, rfl, rfl, trivial⟩
def F_X7_addEvidences_58 (N : Nat) (rec : Option Nat → Option Nat → Int32 → Int32 → Int32 → cS → Nat × Option Nat × Int32 × Int32 × cS) (x0 : Option Nat) (x1 : Option Nat) (x3 : Int32) (x4 : Int32) (x5 : Int32) (x6 : Option Nat) (s0 : Int32) (S : cS) : Nat × Option Nat × Int32 × Int32 × cS := (if s0 = 0 then (F_X7_addEvidences_92 N rec x0 x1 x3 x4 x5 S) else (F_X7_addEvidences_79 N rec x0 x1 x3 x4 x5 x6 (csArow S (za x1) (va_cpy (cA S (za (cR S 0 (za x6)))) (cA S (za x1)) (nI 1).toNatClampNeg x3.toNatClampNeg ((cI S 2 (za x6)) - (nI 1)).toNatClampNeg))))
def O_X7_addEvidences_58 (N : Nat) (rok : Option Nat → Option Nat → Int32 → Int32 → Int32 → cS → Prop) (x0 : Option Nat) (x1 : Option Nat) (x3 : Int32) (x4 : Int32) (x5 : Int32) (x6 : Option Nat) (s0 : Int32) (S : cS) : Prop := ((s0 = 0 → O_X7_addEvidences_92 N rok x0 x1 x3 x4 x5 S) ∧ (¬ s0 = 0 → (cis S x6 5) ∧ (cis S x6 5) ∧ (cis S (cR S 0 (za x6)) 20 ∧ cis S x1 20 ∧ (¬ (nI 1) < 0 ∧ ¬ x3 < 0 ∧ ¬ ((cI S 2 (za x6)) - (nI 1)) < 0) ∧ (nI 1).toNatClampNeg + ((cI S 2 (za x6)) - (nI 1)).toNatClampNeg ≤ cL S (za (cR S 0 (za x6))) ∧ x3.toNatClampNeg + ((cI S 2 (za x6)) - (nI 1)).toNatClampNeg ≤ cL S (za x1)) ∧ O_X7_addEvidences_79 N rok x0 x1 x3 x4 x5 x6 (csArow S (za x1) (va_cpy (cA S (za (cR S 0 (za x6)))) (cA S (za x1)) (nI 1).toNatClampNeg x3.toNatClampNeg ((cI S 2 (za x6)) - (nI 1)).toNatClampNeg))))
set_option maxRecDepth 100000 in
set_option maxHeartbeats 4000000 in
theorem b_X7_addEvidences_58 {G : zG} {o : cO} {S : cS} {N : Nat} {Q : Option Value → cS → Prop} {X : Nat × Option Nat × Int32 × Int32 × cS → Prop} (hG : zOK G) (hX0 : ∀ (x1 : Option Nat) (x3 : Int32) (x4 : Int32) (S' : cS), X (0, x1, x3, x4, S') → cX G o dX7_addEvidences mX7_addEvidences 98 [none, some (va_rf x1), none, some (.int x3), some (.int x4), none, none] [] S' Q) {rec : Option Nat → Option Nat → Int32 → Int32 → Int32 → cS → Nat × Option Nat × Int32 × Int32 × cS} {rok : Option Nat → Option Nat → Int32 → Int32 → Int32 → cS → Prop} (hrec : ∀ (x0 : Option Nat) (x1 : Option Nat) (x3 : Int32) (x4 : Int32) (x5 : Int32) (S : cS), rok x0 x1 x3 x4 x5 S → X (rec x0 x1 x3 x4 x5 S) → cX G o dX7_addEvidences mX7_addEvidences 8 [some (va_rf x0), some (va_rf x1), none, some (.int x3), some (.int x4), some (.int x5), none] [] S Q) {x0 : Option Nat} {x1 : Option Nat} {x3 : Int32} {x4 : Int32} {x5 : Int32} {x6 : Option Nat} {s0 : Int32} (ok : O_X7_addEvidences_58 N rok x0 x1 x3 x4 x5 x6 s0 S) (hx : X (F_X7_addEvidences_58 N rec x0 x1 x3 x4 x5 x6 s0 S)) : cX G o dX7_addEvidences mX7_addEvidences 58 [some (va_rf x0), some (va_rf x1), none, some (.int x3), some (.int x4), some (.int x5), some (va_rf x6)] [.int s0] S Q := by
  unfold O_X7_addEvidences_58 at ok
  unfold F_X7_addEvidences_58 at hx
  refine c_if_eq (tgt := 92) dX7_addEvidences_58 (by decide) (fun c_58 => ?_) (fun c_58 => ?_)
  · have ok := ok.1 c_58
    have hx := xif_p c_58 hx
    exact cX.cutz (b_X7_addEvidences_92 hG hX0 hrec ok hx) ⟨rfl, rfl, rfl, rfl, rfl, trivial⟩
  · have ok := ok.2 c_58
    have hx := xif_n c_58 hx
    refine c_aloadQ dX7_addEvidences_61 rfl ?_
    refine c_getR (C := RX5) (T := TX5) (N := 7) (ci := 4) (k := 0) ⟨rfl, inT5, by decide, fX7_123⟩ (by decide) (by decide) (by decide) dX7_addEvidences_63 ok.1 ?_
    have ok := ok.2
    refine c_iconst (v := nI 1) dX7_addEvidences_66 (by decide) ?_
    refine c_aload_nQ dX7_addEvidences_67 rfl rfl ?_
    refine c_iload_n dX7_addEvidences_68 rfl rfl ?_
    refine c_aloadQ dX7_addEvidences_69 rfl ?_
    refine c_getI (C := RX5) (T := TX5) (N := 7) (ci := 4) (k := 2) ⟨rfl, inT5, by decide, fX7_187⟩ (by decide) (by decide) (by decide) dX7_addEvidences_71 ok.1 ?_
    have ok := ok.2
    refine c_iconst (v := nI 1) dX7_addEvidences_74 (by decide) ?_
    refine c_isub dX7_addEvidences_75 ?_
    refine c_copy0 hG dX7_addEvidences_76 qX7_130 (by decide) (by decide) ok.1 ?_
    have ok := ok.2
    exact cX.cutz (b_X7_addEvidences_79 hG hX0 hrec ok hx) ⟨rfl, rfl, rfl, rfl, rfl, rfl, trivial⟩
def B_X7_addEvidences_8 (N : Nat) (rec : Option Nat → Option Nat → Int32 → Int32 → Int32 → cS → Nat × Option Nat × Int32 × Int32 × cS) (x0 : Option Nat) (x1 : Option Nat) (x3 : Int32) (x4 : Int32) (x5 : Int32) (S : cS) : Nat × Option Nat × Int32 × Int32 × cS := (if (cI S 1 (za (cR S 0 (za x0)))) ≤ x5 then (0, x1, x3, x4, S) else (if (nI 2) ≤ x4 then (0, x1, x3, x4, S) else (if (f_X8_proofOf N S (za (cR S 3 (za x0))) x5) = none then (F_X7_addEvidences_92 N rec x0 x1 x3 x4 x5 S) else (F_X7_addEvidences_58 N rec x0 x1 x3 x4 x5 (f_X8_proofOf N S (za (cR S 3 (za x0))) x5) ((f_X0_punish N S (za (cR S 8 (za (cR S 0 (za x0))))) x5 (cI S 1 (za x0))).1) (f_X0_punish N S (za (cR S 8 (za (cR S 0 (za x0))))) x5 (cI S 1 (za x0))).2))))
def OB_X7_addEvidences_8 (N : Nat) (rok : Option Nat → Option Nat → Int32 → Int32 → Int32 → cS → Prop) (x0 : Option Nat) (x1 : Option Nat) (x3 : Int32) (x4 : Int32) (x5 : Int32) (S : cS) : Prop := (cis S x0 6) ∧ (cis S (cR S 0 (za x0)) 9) ∧ (((cI S 1 (za (cR S 0 (za x0)))) ≤ x5 → True) ∧ (¬ (cI S 1 (za (cR S 0 (za x0)))) ≤ x5 → (((nI 2) ≤ x4 → True) ∧ (¬ (nI 2) ≤ x4 → (cis S x0 6) ∧ (cis S (cR S 3 (za x0)) 7 ∧ o_X8_proofOf N S (za (cR S 3 (za x0))) x5) ∧ (((f_X8_proofOf N S (za (cR S 3 (za x0))) x5) = none → O_X7_addEvidences_92 N rok x0 x1 x3 x4 x5 S) ∧ (¬ (f_X8_proofOf N S (za (cR S 3 (za x0))) x5) = none → (cis S x0 6) ∧ (cis S (cR S 0 (za x0)) 9) ∧ (cis S x0 6) ∧ (cis S (cR S 8 (za (cR S 0 (za x0)))) 1 ∧ o_X0_punish N S (za (cR S 8 (za (cR S 0 (za x0))))) x5 (cI S 1 (za x0))) ∧ O_X7_addEvidences_58 N rok x0 x1 x3 x4 x5 (f_X8_proofOf N S (za (cR S 3 (za x0))) x5) ((f_X0_punish N S (za (cR S 8 (za (cR S 0 (za x0))))) x5 (cI S 1 (za x0))).1) (f_X0_punish N S (za (cR S 8 (za (cR S 0 (za x0))))) x5 (cI S 1 (za x0))).2))))))
set_option maxRecDepth 100000 in
set_option maxHeartbeats 4000000 in
theorem bb_X7_addEvidences_8 {G : zG} {o : cO} {S : cS} {N : Nat} {Q : Option Value → cS → Prop} {X : Nat × Option Nat × Int32 × Int32 × cS → Prop} (hG : zOK G) (hX0 : ∀ (x1 : Option Nat) (x3 : Int32) (x4 : Int32) (S' : cS), X (0, x1, x3, x4, S') → cX G o dX7_addEvidences mX7_addEvidences 98 [none, some (va_rf x1), none, some (.int x3), some (.int x4), none, none] [] S' Q) {rec : Option Nat → Option Nat → Int32 → Int32 → Int32 → cS → Nat × Option Nat × Int32 × Int32 × cS} {rok : Option Nat → Option Nat → Int32 → Int32 → Int32 → cS → Prop} (hrec : ∀ (x0 : Option Nat) (x1 : Option Nat) (x3 : Int32) (x4 : Int32) (x5 : Int32) (S : cS), rok x0 x1 x3 x4 x5 S → X (rec x0 x1 x3 x4 x5 S) → cX G o dX7_addEvidences mX7_addEvidences 8 [some (va_rf x0), some (va_rf x1), none, some (.int x3), some (.int x4), some (.int x5), none] [] S Q) {x0 : Option Nat} {x1 : Option Nat} {x3 : Int32} {x4 : Int32} {x5 : Int32} (ok : OB_X7_addEvidences_8 N rok x0 x1 x3 x4 x5 S) (hx : X (B_X7_addEvidences_8 N rec x0 x1 x3 x4 x5 S)) : cX G o dX7_addEvidences mX7_addEvidences 8 [some (va_rf x0), some (va_rf x1), none, some (.int x3), some (.int x4), some (.int x5), none] [] S Q := by
  unfold OB_X7_addEvidences_8 at ok
  unfold B_X7_addEvidences_8 at hx
  refine c_iload dX7_addEvidences_8 rfl ?_
  refine c_aload_nQ dX7_addEvidences_10 rfl rfl ?_
  refine c_getR (C := RX6) (T := TX6) (N := 19) (ci := 5) (k := 0) ⟨rfl, inT6, by decide, fX7_26⟩ (by decide) (by decide) (by decide) dX7_addEvidences_11 ok.1 ?_
  have ok := ok.2
  refine c_getI (C := RX10) (T := TX10) (N := 12) (ci := 8) (k := 1) ⟨rfl, inT10, by decide, fX7_84⟩ (by decide) (by decide) (by decide) dX7_addEvidences_14 ok.1 ?_
  have ok := ok.2
  refine c_icmp_ge (tgt := 98) dX7_addEvidences_17 (by decide) (fun c_17 => ?_) (fun c_17 => ?_)
  · have ok := ok.1 c_17
    have hx := xif_p c_17 hx
    exact cX.cutz (hX0 _ _ _ S hx) ⟨rfl, rfl, rfl, trivial⟩
  · have ok := ok.2 c_17
    have hx := xif_n c_17 hx
    refine c_iload dX7_addEvidences_20 rfl ?_
    refine c_iconst (v := nI 2) dX7_addEvidences_22 (by decide) ?_
    refine c_icmp_ge (tgt := 98) dX7_addEvidences_23 (by decide) (fun c_23 => ?_) (fun c_23 => ?_)
    · have ok := ok.1 c_23
      have hx := xif_p c_23 hx
      exact cX.cutz (hX0 _ _ _ S hx) ⟨rfl, rfl, rfl, trivial⟩
    · have ok := ok.2 c_23
      have hx := xif_n c_23 hx
      refine c_aload_nQ dX7_addEvidences_26 rfl rfl ?_
      refine c_getR (C := RX6) (T := TX6) (N := 19) (ci := 5) (k := 3) ⟨rfl, inT6, by decide, fX7_80⟩ (by decide) (by decide) (by decide) dX7_addEvidences_27 ok.1 ?_
      have ok := ok.2
      refine c_iload dX7_addEvidences_30 rfl ?_
      refine c_V1qE (ci := 6) (rr := (RX8, TX8, 14)) (y' := mX8_proofOf) dX7_addEvidences_32 lX7_372 kX8_proofOf ⟨by decide, by decide⟩ rfl rfl (by decide) ok.1.1 (Nat.le_of_ble_eq_true rfl) (cc_X8_proofOf hG ok.1.2) ?_
      have ok := ok.2
      refine c_astore_6Q dX7_addEvidences_35 (by decide) rfl ?_
      refine c_aloadQ dX7_addEvidences_37 rfl ?_
      refine c_ifnullI (tgt := 92) dX7_addEvidences_39 (by decide) (fun c_39 => ?_) (fun c_39 => ?_)
      · have ok := ok.1 c_39
        have hx := xif_p c_39 hx
        exact cX.cutz (b_X7_addEvidences_92 hG hX0 hrec ok hx) ⟨rfl, rfl, rfl, rfl, rfl, trivial⟩
      · have ok := ok.2 c_39
        have hx := xif_n c_39 hx
        refine c_aload_nQ dX7_addEvidences_42 rfl rfl ?_
        refine c_getR (C := RX6) (T := TX6) (N := 19) (ci := 5) (k := 0) ⟨rfl, inT6, by decide, fX7_26⟩ (by decide) (by decide) (by decide) dX7_addEvidences_43 ok.1 ?_
        have ok := ok.2
        refine c_getR (C := RX10) (T := TX10) (N := 12) (ci := 8) (k := 8) ⟨rfl, inT10, by decide, fX7_338⟩ (by decide) (by decide) (by decide) dX7_addEvidences_46 ok.1 ?_
        have ok := ok.2
        refine c_iload dX7_addEvidences_49 rfl ?_
        refine c_aload_nQ dX7_addEvidences_51 rfl rfl ?_
        refine c_getI (C := RX6) (T := TX6) (N := 19) (ci := 5) (k := 1) ⟨rfl, inT6, by decide, fX7_271⟩ (by decide) (by decide) (by decide) dX7_addEvidences_52 ok.1 ?_
        have ok := ok.2
        refine c_V2iE (ci := 0) (rr := (RX0, TX0, 6)) (y' := mX0_punish) dX7_addEvidences_55 lX7_375 kX0_punish ⟨by decide, by decide⟩ rfl rfl (by decide) ok.1.1 (Nat.le_of_ble_eq_true rfl) (cc_X0_punish hG ok.1.2) ?_
        have ok := ok.2
        exact cX.cutz (b_X7_addEvidences_58 hG hX0 hrec ok hx) ⟨rfl, rfl, rfl, rfl, rfl, rfl, trivial⟩
def L_X7_addEvidences_8 (N : Nat) : Nat → Option Nat → Option Nat → Int32 → Int32 → Int32 → cS → Nat × Option Nat × Int32 × Int32 × cS
  | 0, x0, x1, x3, x4, x5, S => (0, none, 0, 0, S)
  | n + 1, x0, x1, x3, x4, x5, S => B_X7_addEvidences_8 N (L_X7_addEvidences_8 N n) x0 x1 x3 x4 x5 S
def OL_X7_addEvidences_8 (N : Nat) : Nat → Option Nat → Option Nat → Int32 → Int32 → Int32 → cS → Prop
  | 0, _, _, _, _, _, _ => False
  | n + 1, x0, x1, x3, x4, x5, S => OB_X7_addEvidences_8 N (OL_X7_addEvidences_8 N n) x0 x1 x3 x4 x5 S
set_option maxRecDepth 100000 in
set_option maxHeartbeats 4000000 in
theorem l_X7_addEvidences_8 {G : zG} {o : cO} {N : Nat} {Q : Option Value → cS → Prop} {X : Nat × Option Nat × Int32 × Int32 × cS → Prop} (hG : zOK G) (hX0 : ∀ (x1 : Option Nat) (x3 : Int32) (x4 : Int32) (S' : cS), X (0, x1, x3, x4, S') → cX G o dX7_addEvidences mX7_addEvidences 98 [none, some (va_rf x1), none, some (.int x3), some (.int x4), none, none] [] S' Q) : ∀ (n : Nat) (x0 : Option Nat) (x1 : Option Nat) (x3 : Int32) (x4 : Int32) (x5 : Int32) (S : cS), OL_X7_addEvidences_8 N n x0 x1 x3 x4 x5 S → X (L_X7_addEvidences_8 N n x0 x1 x3 x4 x5 S) → cX G o dX7_addEvidences mX7_addEvidences 8 [some (va_rf x0), some (va_rf x1), none, some (.int x3), some (.int x4), some (.int x5), none] [] S Q := by
  intro n
  induction n with
  | zero => intro x0 x1 x3 x4 x5 S ok; exact absurd ok id
  | succ n ih =>
    intro x0 x1 x3 x4 x5 S ok hx
    exact bb_X7_addEvidences_8 hG hX0 (rec := L_X7_addEvidences_8 N n) (rok := OL_X7_addEvidences_8 N n) (fun x0 x1 x3 x4 x5 S ok hx => ih x0 x1 x3 x4 x5 S ok hx) ok hx
def A_X7_addEvidences_8 (N : Nat) (x0 : Option Nat) (x1 : Option Nat) (x3 : Int32) (x4 : Int32) (x5 : Int32) (S : cS) (z : Nat × Option Nat × Int32 × Int32 × cS) : Int32 × cS := (F_X7_addEvidences_98 N (z.2.1) (z.2.2.1) (z.2.2.2.1) z.2.2.2.2)
def OA_X7_addEvidences_8 (N : Nat) (x0 : Option Nat) (x1 : Option Nat) (x3 : Int32) (x4 : Int32) (x5 : Int32) (S : cS) (z : Nat × Option Nat × Int32 × Int32 × cS) : Prop := O_X7_addEvidences_98 N (z.2.1) (z.2.2.1) (z.2.2.2.1) z.2.2.2.2
set_option maxRecDepth 100000 in
set_option maxHeartbeats 4000000 in
theorem c_X7_addEvidences_8 {G : zG} {o : cO} {S : cS} {N : Nat} {Q : Option Value → cS → Prop} {X : Int32 × cS → Prop} (hG : zOK G) (hR : ∀ v S', X (v, S') → Q (some (.int v)) S') {x0 : Option Nat} {x1 : Option Nat} {x3 : Int32} {x4 : Int32} {x5 : Int32} (ok : OL_X7_addEvidences_8 N N x0 x1 x3 x4 x5 S ∧ OA_X7_addEvidences_8 N x0 x1 x3 x4 x5 S (L_X7_addEvidences_8 N N x0 x1 x3 x4 x5 S)) (hx : X (A_X7_addEvidences_8 N x0 x1 x3 x4 x5 S (L_X7_addEvidences_8 N N x0 x1 x3 x4 x5 S))) : cX G o dX7_addEvidences mX7_addEvidences 8 [some (va_rf x0), some (va_rf x1), none, some (.int x3), some (.int x4), some (.int x5), none] [] S Q := by
  refine l_X7_addEvidences_8 hG ?_ N x0 x1 x3 x4 x5 S ok.1 (X := fun z => OA_X7_addEvidences_8 N x0 x1 x3 x4 x5 S z ∧ X (A_X7_addEvidences_8 N x0 x1 x3 x4 x5 S z)) ⟨ok.2, hx⟩
  · intro x1' x3' x4' S' hz
    obtain ⟨ok, hx⟩ := hz
    unfold OA_X7_addEvidences_8 at ok
    unfold A_X7_addEvidences_8 at hx
    exact cX.cutz (b_X7_addEvidences_98 hG hR ok hx) ⟨rfl, rfl, rfl, trivial⟩
def F_X7_addEvidences_0 (N : Nat) (x0 : Option Nat) (x1 : Option Nat) (x2 : Int32) (S : cS) : Int32 × cS := (A_X7_addEvidences_8 N x0 x1 x2 (nI 0) (nI 0) S (L_X7_addEvidences_8 N N x0 x1 x2 (nI 0) (nI 0) S))
def O_X7_addEvidences_0 (N : Nat) (x0 : Option Nat) (x1 : Option Nat) (x2 : Int32) (S : cS) : Prop := (OL_X7_addEvidences_8 N N x0 x1 x2 (nI 0) (nI 0) S ∧ OA_X7_addEvidences_8 N x0 x1 x2 (nI 0) (nI 0) S (L_X7_addEvidences_8 N N x0 x1 x2 (nI 0) (nI 0) S))
set_option maxRecDepth 100000 in
set_option maxHeartbeats 4000000 in
theorem b_X7_addEvidences_0 {G : zG} {o : cO} {S : cS} {N : Nat} {Q : Option Value → cS → Prop} {X : Int32 × cS → Prop} (hG : zOK G) (hR : ∀ v S', X (v, S') → Q (some (.int v)) S') {x0 : Option Nat} {x1 : Option Nat} {x2 : Int32} (ok : O_X7_addEvidences_0 N x0 x1 x2 S) (hx : X (F_X7_addEvidences_0 N x0 x1 x2 S)) : cX G o dX7_addEvidences mX7_addEvidences 0 [some (va_rf x0), some (va_rf x1), some (.int x2), none, none, none, none] [] S Q := by
  unfold O_X7_addEvidences_0 at ok
  unfold F_X7_addEvidences_0 at hx
  refine c_iload_n dX7_addEvidences_0 rfl rfl ?_
  refine c_istore_3 dX7_addEvidences_1 (by decide) rfl ?_
  refine c_iconst (v := nI 0) dX7_addEvidences_2 (by decide) ?_
  refine c_istore_4 dX7_addEvidences_3 (by decide) rfl ?_
  refine c_iconst (v := nI 0) dX7_addEvidences_5 (by decide) ?_
  refine c_istore_5 dX7_addEvidences_6 (by decide) rfl ?_
  exact cX.cutz (c_X7_addEvidences_8 hG hR ok hx) ⟨rfl, rfl, rfl, rfl, rfl, trivial⟩
def f_X7_addEvidences (N : Nat) (S : cS) (x0 : Option Nat) (x1 : Option Nat) (x2 : Int32) : Int32 × cS := F_X7_addEvidences_0 N x0 x1 x2 S
def o_X7_addEvidences (N : Nat) (S : cS) (x0 : Option Nat) (x1 : Option Nat) (x2 : Int32) : Prop := O_X7_addEvidences_0 N x0 x1 x2 S
set_option maxRecDepth 100000 in
set_option maxHeartbeats 4000000 in
theorem cc_X7_addEvidences {G : zG} {o : cO} {S : cS} {N : Nat} (hG : zOK G) {x0 : Option Nat} {x1 : Option Nat} {x2 : Int32} (ok : o_X7_addEvidences N S x0 x1 x2) : cCi G o dX7_addEvidences mX7_addEvidences [va_rf x0, va_rf x1, .int x2] S (fun v S' => v = (f_X7_addEvidences N S x0 x1 x2).1 ∧ S' = (f_X7_addEvidences N S x0 x1 x2).2) := by
  refine cC.ofX rfl (by cases x0 <;> cases x1 <;> exact Nat.le_of_ble_eq_true rfl) ?_
  rw [show zargs mX7_addEvidences.2.2.1 [va_rf x0, va_rf x1, .int x2] = [some (va_rf x0), some (va_rf x1), some (.int x2), none, none, none, none] from by cases x0 <;> cases x1 <;> rfl]
  exact cX.cutz (b_X7_addEvidences_0 (X := fun F => F = f_X7_addEvidences N S x0 x1 x2) hG (fun v S' h => ⟨v, rfl, by rw [← h], by rw [← h]⟩) ok rfl) ⟨rfl, rfl, rfl, trivial⟩
/-! X8_paymentAt -/
def F_X8_paymentAt_22 (N : Nat) (s0 : Int64) (S : cS) : Int64 := s0
def O_X8_paymentAt_22 (N : Nat) (s0 : Int64) (S : cS) : Prop := True
set_option maxRecDepth 100000 in
set_option maxHeartbeats 4000000 in
theorem b_X8_paymentAt_22 {G : zG} {o : cO} {S : cS} {N : Nat} {Q : Option Value → cS → Prop} {X : Int64 → Prop} (hG : zOK G) (hR : ∀ v, X v → Q (some (.long v)) S) {s0 : Int64} (ok : O_X8_paymentAt_22 N s0 S) (hx : X (F_X8_paymentAt_22 N s0 S)) : cX G o dX8_paymentAt mX8_paymentAt 22 [none, none] [.long s0] S Q := by
  unfold O_X8_paymentAt_22 at ok
  unfold F_X8_paymentAt_22 at hx
  exact c_lreturn rfl dX8_paymentAt_22 (hR _ hx)
def F_X8_paymentAt_21 (N : Nat)  (S : cS) : Int64 := (F_X8_paymentAt_22 N (0 : Int64) S)
def O_X8_paymentAt_21 (N : Nat)  (S : cS) : Prop := O_X8_paymentAt_22 N (0 : Int64) S
set_option maxRecDepth 100000 in
set_option maxHeartbeats 4000000 in
theorem b_X8_paymentAt_21 {G : zG} {o : cO} {S : cS} {N : Nat} {Q : Option Value → cS → Prop} {X : Int64 → Prop} (hG : zOK G) (hR : ∀ v, X v → Q (some (.long v)) S) (ok : O_X8_paymentAt_21 N S) (hx : X (F_X8_paymentAt_21 N S)) : cX G o dX8_paymentAt mX8_paymentAt 21 [none, none] [] S Q := by
  unfold O_X8_paymentAt_21 at ok
  unfold F_X8_paymentAt_21 at hx
  refine c_lconst (v := 0) dX8_paymentAt_21 rfl ?_
  exact cX.cutz (b_X8_paymentAt_22 hG hR ok hx) trivial
def F_X8_paymentAt_0 (N : Nat) (x0 : Option Nat) (x1 : Int32) (S : cS) : Int64 := (if x1 < 0 then (F_X8_paymentAt_21 N S) else (if (cI S 12 (za x0)) ≤ x1 then (F_X8_paymentAt_21 N S) else (F_X8_paymentAt_22 N (cJ S (za (cR S 10 (za x0))) x1.toNatClampNeg) S)))
def O_X8_paymentAt_0 (N : Nat) (x0 : Option Nat) (x1 : Int32) (S : cS) : Prop := ((x1 < 0 → O_X8_paymentAt_21 N S) ∧ (¬ x1 < 0 → (cis S x0 7) ∧ (((cI S 12 (za x0)) ≤ x1 → O_X8_paymentAt_21 N S) ∧ (¬ (cI S 12 (za x0)) ≤ x1 → (cis S x0 7) ∧ (cis S (cR S 10 (za x0)) 22 ∧ vp_in x1 (cL S (za (cR S 10 (za x0))))) ∧ O_X8_paymentAt_22 N (cJ S (za (cR S 10 (za x0))) x1.toNatClampNeg) S))))
set_option maxRecDepth 100000 in
set_option maxHeartbeats 4000000 in
theorem b_X8_paymentAt_0 {G : zG} {o : cO} {S : cS} {N : Nat} {Q : Option Value → cS → Prop} {X : Int64 → Prop} (hG : zOK G) (hR : ∀ v, X v → Q (some (.long v)) S) {x0 : Option Nat} {x1 : Int32} (ok : O_X8_paymentAt_0 N x0 x1 S) (hx : X (F_X8_paymentAt_0 N x0 x1 S)) : cX G o dX8_paymentAt mX8_paymentAt 0 [some (va_rf x0), some (.int x1)] [] S Q := by
  unfold O_X8_paymentAt_0 at ok
  unfold F_X8_paymentAt_0 at hx
  refine c_iload_n dX8_paymentAt_0 rfl rfl ?_
  refine c_if_lt (tgt := 21) dX8_paymentAt_1 (by decide) (fun c_1 => ?_) (fun c_1 => ?_)
  · have ok := ok.1 c_1
    have hx := xif_p c_1 hx
    exact cX.cutz (b_X8_paymentAt_21 hG hR ok hx) trivial
  · have ok := ok.2 c_1
    have hx := xif_n c_1 hx
    refine c_iload_n dX8_paymentAt_4 rfl rfl ?_
    refine c_aload_nQ dX8_paymentAt_5 rfl rfl ?_
    refine c_getI (C := RX8) (T := TX8) (N := 14) (ci := 6) (k := 12) ⟨rfl, inT8, by decide, fX8_108⟩ (by decide) (by decide) (by decide) dX8_paymentAt_6 ok.1 ?_
    have ok := ok.2
    refine c_icmp_ge (tgt := 21) dX8_paymentAt_9 (by decide) (fun c_9 => ?_) (fun c_9 => ?_)
    · have ok := ok.1 c_9
      have hx := xif_p c_9 hx
      exact cX.cutz (b_X8_paymentAt_21 hG hR ok hx) trivial
    · have ok := ok.2 c_9
      have hx := xif_n c_9 hx
      refine c_aload_nQ dX8_paymentAt_12 rfl rfl ?_
      refine c_getR (C := RX8) (T := TX8) (N := 14) (ci := 6) (k := 10) ⟨rfl, inT8, by decide, fX8_24⟩ (by decide) (by decide) (by decide) dX8_paymentAt_13 ok.1 ?_
      have ok := ok.2
      refine c_iload_n dX8_paymentAt_16 rfl rfl ?_
      refine c_lald dX8_paymentAt_17 ok.1 ?_
      have ok := ok.2
      refine c_goto (tgt := 22) dX8_paymentAt_18 (by decide) ?_
      exact cX.cutz (b_X8_paymentAt_22 hG hR ok hx) trivial
def f_X8_paymentAt (N : Nat) (S : cS) (a0 : Nat) (x1 : Int32) : Int64 := F_X8_paymentAt_0 N (some a0) x1 S
def o_X8_paymentAt (N : Nat) (S : cS) (a0 : Nat) (x1 : Int32) : Prop := O_X8_paymentAt_0 N (some a0) x1 S
set_option maxRecDepth 100000 in
set_option maxHeartbeats 4000000 in
theorem cc_X8_paymentAt {G : zG} {o : cO} {S : cS} {N : Nat} (hG : zOK G) {a0 : Nat} {x1 : Int32} (ok : o_X8_paymentAt N S a0 x1) : cCl G o dX8_paymentAt mX8_paymentAt [.ref a0, .int x1] S (fun v S' => v = f_X8_paymentAt N S a0 x1 ∧ S' = S) := by
  refine cC.ofX rfl (by exact Nat.le_of_ble_eq_true rfl) ?_
  show cX G o dX8_paymentAt mX8_paymentAt 0 [some (.ref a0), some (.int x1)] [] S _
  exact cX.cutz (b_X8_paymentAt_0 (X := fun F => F = f_X8_paymentAt N S a0 x1) hG (fun v h => ⟨v, rfl, h, rfl⟩) ok rfl) ⟨rfl, rfl, trivial⟩
/-! X7_addPayments -/
def F_X7_addPayments_76 (N : Nat) (x1 : Option Nat) (x3 : Int32) (x4 : Int32) (S : cS) : Int32 × cS := (x3, (csA S (za x1) (nI 105).toNatClampNeg ((x4.toInt8.toInt32).toInt8.toInt32)))
def O_X7_addPayments_76 (N : Nat) (x1 : Option Nat) (x3 : Int32) (x4 : Int32) (S : cS) : Prop := (cis S x1 20 ∧ vp_in (nI 105) (cL S (za x1))) ∧ True
set_option maxRecDepth 100000 in
set_option maxHeartbeats 4000000 in
theorem b_X7_addPayments_76 {G : zG} {o : cO} {S : cS} {N : Nat} {Q : Option Value → cS → Prop} {X : Int32 × cS → Prop} (hG : zOK G) (hR : ∀ v S', X (v, S') → Q (some (.int v)) S') {x1 : Option Nat} {x3 : Int32} {x4 : Int32} (ok : O_X7_addPayments_76 N x1 x3 x4 S) (hx : X (F_X7_addPayments_76 N x1 x3 x4 S)) : cX G o dX7_addPayments mX7_addPayments 76 [none, some (va_rf x1), none, some (.int x3), some (.int x4), none, none, none] [] S Q := by
  unfold O_X7_addPayments_76 at ok
  unfold F_X7_addPayments_76 at hx
  refine c_aload_nQ dX7_addPayments_76 rfl rfl ?_
  refine c_bipush (v := nI 105) dX7_addPayments_77 (by decide) ?_
  refine c_iload dX7_addPayments_79 rfl ?_
  refine c_i2b dX7_addPayments_81 ?_
  refine c_bast dX7_addPayments_82 ok.1 ?_
  have ok := ok.2
  refine c_iload_n dX7_addPayments_83 rfl rfl ?_
  exact c_ireturn rfl rfl dX7_addPayments_84 (hR _ _ hx)
def F_X7_addPayments_70 (N : Nat) (rec : Option Nat → Option Nat → Int32 → Int32 → Int32 → cS → Nat × Option Nat × Int32 × Int32 × cS) (x0 : Option Nat) (x1 : Option Nat) (x3 : Int32) (x4 : Int32) (x5 : Int32) (S : cS) : Nat × Option Nat × Int32 × Int32 × cS := (rec x0 x1 x3 x4 (x5 + nI 1) S)
def O_X7_addPayments_70 (N : Nat) (rok : Option Nat → Option Nat → Int32 → Int32 → Int32 → cS → Prop) (x0 : Option Nat) (x1 : Option Nat) (x3 : Int32) (x4 : Int32) (x5 : Int32) (S : cS) : Prop := rok x0 x1 x3 x4 (x5 + nI 1) S
set_option maxRecDepth 100000 in
set_option maxHeartbeats 4000000 in
theorem b_X7_addPayments_70 {G : zG} {o : cO} {S : cS} {N : Nat} {Q : Option Value → cS → Prop} {X : Nat × Option Nat × Int32 × Int32 × cS → Prop} (hG : zOK G) (hX0 : ∀ (x1 : Option Nat) (x3 : Int32) (x4 : Int32) (S' : cS), X (0, x1, x3, x4, S') → cX G o dX7_addPayments mX7_addPayments 76 [none, some (va_rf x1), none, some (.int x3), some (.int x4), none, none, none] [] S' Q) {rec : Option Nat → Option Nat → Int32 → Int32 → Int32 → cS → Nat × Option Nat × Int32 × Int32 × cS} {rok : Option Nat → Option Nat → Int32 → Int32 → Int32 → cS → Prop} (hrec : ∀ (x0 : Option Nat) (x1 : Option Nat) (x3 : Int32) (x4 : Int32) (x5 : Int32) (S : cS), rok x0 x1 x3 x4 x5 S → X (rec x0 x1 x3 x4 x5 S) → cX G o dX7_addPayments mX7_addPayments 8 [some (va_rf x0), some (va_rf x1), none, some (.int x3), some (.int x4), some (.int x5), none, none] [] S Q) {x0 : Option Nat} {x1 : Option Nat} {x3 : Int32} {x4 : Int32} {x5 : Int32} (ok : O_X7_addPayments_70 N rok x0 x1 x3 x4 x5 S) (hx : X (F_X7_addPayments_70 N rec x0 x1 x3 x4 x5 S)) : cX G o dX7_addPayments mX7_addPayments 70 [some (va_rf x0), some (va_rf x1), none, some (.int x3), some (.int x4), some (.int x5), none, none] [] S Q := by
  unfold O_X7_addPayments_70 at ok
  unfold F_X7_addPayments_70 at hx
  refine c_iinc_5 (v := (x5 + nI 1)) dX7_addPayments_70 rfl (by first | rfl | (congr 1)) (by decide) rfl ?_
  refine c_goto (tgt := 8) dX7_addPayments_73 (by decide) ?_
  exact cX.cutz (hrec _ _ _ _ _ S ok hx) ⟨rfl, rfl, rfl, rfl, rfl, trivial⟩
def F_X7_addPayments_64 (N : Nat) (rec : Option Nat → Option Nat → Int32 → Int32 → Int32 → cS → Nat × Option Nat × Int32 × Int32 × cS) (x0 : Option Nat) (x1 : Option Nat) (x3 : Int32) (x4 : Int32) (x5 : Int32) (S : cS) : Nat × Option Nat × Int32 × Int32 × cS := (F_X7_addPayments_70 N rec x0 x1 (x3 + nI 7) (x4 + nI 1) x5 S)
def O_X7_addPayments_64 (N : Nat) (rok : Option Nat → Option Nat → Int32 → Int32 → Int32 → cS → Prop) (x0 : Option Nat) (x1 : Option Nat) (x3 : Int32) (x4 : Int32) (x5 : Int32) (S : cS) : Prop := O_X7_addPayments_70 N rok x0 x1 (x3 + nI 7) (x4 + nI 1) x5 S
set_option maxRecDepth 100000 in
set_option maxHeartbeats 4000000 in
theorem b_X7_addPayments_64 {G : zG} {o : cO} {S : cS} {N : Nat} {Q : Option Value → cS → Prop} {X : Nat × Option Nat × Int32 × Int32 × cS → Prop} (hG : zOK G) (hX0 : ∀ (x1 : Option Nat) (x3 : Int32) (x4 : Int32) (S' : cS), X (0, x1, x3, x4, S') → cX G o dX7_addPayments mX7_addPayments 76 [none, some (va_rf x1), none, some (.int x3), some (.int x4), none, none, none] [] S' Q) {rec : Option Nat → Option Nat → Int32 → Int32 → Int32 → cS → Nat × Option Nat × Int32 × Int32 × cS} {rok : Option Nat → Option Nat → Int32 → Int32 → Int32 → cS → Prop} (hrec : ∀ (x0 : Option Nat) (x1 : Option Nat) (x3 : Int32) (x4 : Int32) (x5 : Int32) (S : cS), rok x0 x1 x3 x4 x5 S → X (rec x0 x1 x3 x4 x5 S) → cX G o dX7_addPayments mX7_addPayments 8 [some (va_rf x0), some (va_rf x1), none, some (.int x3), some (.int x4), some (.int x5), none, none] [] S Q) {x0 : Option Nat} {x1 : Option Nat} {x3 : Int32} {x4 : Int32} {x5 : Int32} (ok : O_X7_addPayments_64 N rok x0 x1 x3 x4 x5 S) (hx : X (F_X7_addPayments_64 N rec x0 x1 x3 x4 x5 S)) : cX G o dX7_addPayments mX7_addPayments 64 [some (va_rf x0), some (va_rf x1), none, some (.int x3), some (.int x4), some (.int x5), none, none] [] S Q := by
  unfold O_X7_addPayments_64 at ok
  unfold F_X7_addPayments_64 at hx
  refine c_iinc_3 (v := (x3 + nI 7)) dX7_addPayments_64 rfl (by first | rfl | (congr 1)) (by decide) rfl ?_
  refine c_iinc_4 (v := (x4 + nI 1)) dX7_addPayments_67 rfl (by first | rfl | (congr 1)) (by decide) rfl ?_
  exact cX.cutz (b_X7_addPayments_70 hG hX0 hrec ok hx) ⟨rfl, rfl, rfl, rfl, rfl, trivial⟩
def F_X7_addPayments_54 (N : Nat) (rec : Option Nat → Option Nat → Int32 → Int32 → Int32 → cS → Nat × Option Nat × Int32 × Int32 × cS) (x0 : Option Nat) (x1 : Option Nat) (x3 : Int32) (x4 : Int32) (x5 : Int32) (x6 : Int64) (s0 : Int32) (S : cS) : Nat × Option Nat × Int32 × Int32 × cS := (if s0 = 0 then (F_X7_addPayments_70 N rec x0 x1 x3 x4 x5 S) else (F_X7_addPayments_64 N rec x0 x1 x3 x4 x5 (f_X0_putCode N S x6 x1 x3)))
def O_X7_addPayments_54 (N : Nat) (rok : Option Nat → Option Nat → Int32 → Int32 → Int32 → cS → Prop) (x0 : Option Nat) (x1 : Option Nat) (x3 : Int32) (x4 : Int32) (x5 : Int32) (x6 : Int64) (s0 : Int32) (S : cS) : Prop := ((s0 = 0 → O_X7_addPayments_70 N rok x0 x1 x3 x4 x5 S) ∧ (¬ s0 = 0 → (o_X0_putCode N S x6 x1 x3) ∧ O_X7_addPayments_64 N rok x0 x1 x3 x4 x5 (f_X0_putCode N S x6 x1 x3)))
set_option maxRecDepth 100000 in
set_option maxHeartbeats 4000000 in
theorem b_X7_addPayments_54 {G : zG} {o : cO} {S : cS} {N : Nat} {Q : Option Value → cS → Prop} {X : Nat × Option Nat × Int32 × Int32 × cS → Prop} (hG : zOK G) (hX0 : ∀ (x1 : Option Nat) (x3 : Int32) (x4 : Int32) (S' : cS), X (0, x1, x3, x4, S') → cX G o dX7_addPayments mX7_addPayments 76 [none, some (va_rf x1), none, some (.int x3), some (.int x4), none, none, none] [] S' Q) {rec : Option Nat → Option Nat → Int32 → Int32 → Int32 → cS → Nat × Option Nat × Int32 × Int32 × cS} {rok : Option Nat → Option Nat → Int32 → Int32 → Int32 → cS → Prop} (hrec : ∀ (x0 : Option Nat) (x1 : Option Nat) (x3 : Int32) (x4 : Int32) (x5 : Int32) (S : cS), rok x0 x1 x3 x4 x5 S → X (rec x0 x1 x3 x4 x5 S) → cX G o dX7_addPayments mX7_addPayments 8 [some (va_rf x0), some (va_rf x1), none, some (.int x3), some (.int x4), some (.int x5), none, none] [] S Q) {x0 : Option Nat} {x1 : Option Nat} {x3 : Int32} {x4 : Int32} {x5 : Int32} {x6 : Int64} {s0 : Int32} (ok : O_X7_addPayments_54 N rok x0 x1 x3 x4 x5 x6 s0 S) (hx : X (F_X7_addPayments_54 N rec x0 x1 x3 x4 x5 x6 s0 S)) : cX G o dX7_addPayments mX7_addPayments 54 [some (va_rf x0), some (va_rf x1), none, some (.int x3), some (.int x4), some (.int x5), some (.long x6), none] [.int s0] S Q := by
  unfold O_X7_addPayments_54 at ok
  unfold F_X7_addPayments_54 at hx
  refine c_if_eq (tgt := 70) dX7_addPayments_54 (by decide) (fun c_54 => ?_) (fun c_54 => ?_)
  · have ok := ok.1 c_54
    have hx := xif_p c_54 hx
    exact cX.cutz (b_X7_addPayments_70 hG hX0 hrec ok hx) ⟨rfl, rfl, rfl, rfl, rfl, trivial⟩
  · have ok := ok.2 c_54
    have hx := xif_n c_54 hx
    refine c_lload dX7_addPayments_57 rfl ?_
    refine c_aload_nQ dX7_addPayments_59 rfl rfl ?_
    refine c_iload_n dX7_addPayments_60 rfl rfl ?_
    refine c_S3vE (y' := mX0_putCode) dX7_addPayments_61 lX7_390 kX0_putCode ⟨by decide, by decide⟩ (Nat.le_of_ble_eq_true rfl) (cc_X0_putCode hG ok.1) ?_
    have ok := ok.2
    exact cX.cutz (b_X7_addPayments_64 hG hX0 hrec ok hx) ⟨rfl, rfl, rfl, rfl, rfl, trivial⟩
def B_X7_addPayments_8 (N : Nat) (rec : Option Nat → Option Nat → Int32 → Int32 → Int32 → cS → Nat × Option Nat × Int32 × Int32 × cS) (x0 : Option Nat) (x1 : Option Nat) (x3 : Int32) (x4 : Int32) (x5 : Int32) (S : cS) : Nat × Option Nat × Int32 × Int32 × cS := (if (cI S 12 (za (cR S 3 (za x0)))) ≤ x5 then (0, x1, x3, x4, S) else (if (nI 64) ≤ x4 then (0, x1, x3, x4, S) else (F_X7_addPayments_54 N rec x0 x1 x3 x4 x5 (f_X8_paymentAt N S (za (cR S 3 (za x0))) x5) ((f_X0_pay N S (za (cR S 8 (za (cR S 0 (za x0))))) (f_X8_paymentAt N S (za (cR S 3 (za x0))) x5) (cI S 1 (za x0))).1) (f_X0_pay N S (za (cR S 8 (za (cR S 0 (za x0))))) (f_X8_paymentAt N S (za (cR S 3 (za x0))) x5) (cI S 1 (za x0))).2)))
def OB_X7_addPayments_8 (N : Nat) (rok : Option Nat → Option Nat → Int32 → Int32 → Int32 → cS → Prop) (x0 : Option Nat) (x1 : Option Nat) (x3 : Int32) (x4 : Int32) (x5 : Int32) (S : cS) : Prop := (cis S x0 6) ∧ (cis S (cR S 3 (za x0)) 7) ∧ (((cI S 12 (za (cR S 3 (za x0)))) ≤ x5 → True) ∧ (¬ (cI S 12 (za (cR S 3 (za x0)))) ≤ x5 → (((nI 64) ≤ x4 → True) ∧ (¬ (nI 64) ≤ x4 → (cis S x0 6) ∧ (cis S (cR S 3 (za x0)) 7 ∧ o_X8_paymentAt N S (za (cR S 3 (za x0))) x5) ∧ (cis S x0 6) ∧ (cis S (cR S 0 (za x0)) 9) ∧ (cis S x0 6) ∧ (cis S (cR S 8 (za (cR S 0 (za x0)))) 1 ∧ o_X0_pay N S (za (cR S 8 (za (cR S 0 (za x0))))) (f_X8_paymentAt N S (za (cR S 3 (za x0))) x5) (cI S 1 (za x0))) ∧ O_X7_addPayments_54 N rok x0 x1 x3 x4 x5 (f_X8_paymentAt N S (za (cR S 3 (za x0))) x5) ((f_X0_pay N S (za (cR S 8 (za (cR S 0 (za x0))))) (f_X8_paymentAt N S (za (cR S 3 (za x0))) x5) (cI S 1 (za x0))).1) (f_X0_pay N S (za (cR S 8 (za (cR S 0 (za x0))))) (f_X8_paymentAt N S (za (cR S 3 (za x0))) x5) (cI S 1 (za x0))).2))))
set_option maxRecDepth 100000 in
set_option maxHeartbeats 4000000 in
theorem bb_X7_addPayments_8 {G : zG} {o : cO} {S : cS} {N : Nat} {Q : Option Value → cS → Prop} {X : Nat × Option Nat × Int32 × Int32 × cS → Prop} (hG : zOK G) (hX0 : ∀ (x1 : Option Nat) (x3 : Int32) (x4 : Int32) (S' : cS), X (0, x1, x3, x4, S') → cX G o dX7_addPayments mX7_addPayments 76 [none, some (va_rf x1), none, some (.int x3), some (.int x4), none, none, none] [] S' Q) {rec : Option Nat → Option Nat → Int32 → Int32 → Int32 → cS → Nat × Option Nat × Int32 × Int32 × cS} {rok : Option Nat → Option Nat → Int32 → Int32 → Int32 → cS → Prop} (hrec : ∀ (x0 : Option Nat) (x1 : Option Nat) (x3 : Int32) (x4 : Int32) (x5 : Int32) (S : cS), rok x0 x1 x3 x4 x5 S → X (rec x0 x1 x3 x4 x5 S) → cX G o dX7_addPayments mX7_addPayments 8 [some (va_rf x0), some (va_rf x1), none, some (.int x3), some (.int x4), some (.int x5), none, none] [] S Q) {x0 : Option Nat} {x1 : Option Nat} {x3 : Int32} {x4 : Int32} {x5 : Int32} (ok : OB_X7_addPayments_8 N rok x0 x1 x3 x4 x5 S) (hx : X (B_X7_addPayments_8 N rec x0 x1 x3 x4 x5 S)) : cX G o dX7_addPayments mX7_addPayments 8 [some (va_rf x0), some (va_rf x1), none, some (.int x3), some (.int x4), some (.int x5), none, none] [] S Q := by
  unfold OB_X7_addPayments_8 at ok
  unfold B_X7_addPayments_8 at hx
  refine c_iload dX7_addPayments_8 rfl ?_
  refine c_aload_nQ dX7_addPayments_10 rfl rfl ?_
  refine c_getR (C := RX6) (T := TX6) (N := 19) (ci := 5) (k := 3) ⟨rfl, inT6, by decide, fX7_80⟩ (by decide) (by decide) (by decide) dX7_addPayments_11 ok.1 ?_
  have ok := ok.2
  refine c_getI (C := RX8) (T := TX8) (N := 14) (ci := 6) (k := 12) ⟨rfl, inT8, by decide, fX7_379⟩ (by decide) (by decide) (by decide) dX7_addPayments_14 ok.1 ?_
  have ok := ok.2
  refine c_icmp_ge (tgt := 76) dX7_addPayments_17 (by decide) (fun c_17 => ?_) (fun c_17 => ?_)
  · have ok := ok.1 c_17
    have hx := xif_p c_17 hx
    exact cX.cutz (hX0 _ _ _ S hx) ⟨rfl, rfl, rfl, trivial⟩
  · have ok := ok.2 c_17
    have hx := xif_n c_17 hx
    refine c_iload dX7_addPayments_20 rfl ?_
    refine c_bipush (v := nI 64) dX7_addPayments_22 (by decide) ?_
    refine c_icmp_ge (tgt := 76) dX7_addPayments_24 (by decide) (fun c_24 => ?_) (fun c_24 => ?_)
    · have ok := ok.1 c_24
      have hx := xif_p c_24 hx
      exact cX.cutz (hX0 _ _ _ S hx) ⟨rfl, rfl, rfl, trivial⟩
    · have ok := ok.2 c_24
      have hx := xif_n c_24 hx
      refine c_aload_nQ dX7_addPayments_27 rfl rfl ?_
      refine c_getR (C := RX6) (T := TX6) (N := 19) (ci := 5) (k := 3) ⟨rfl, inT6, by decide, fX7_80⟩ (by decide) (by decide) (by decide) dX7_addPayments_28 ok.1 ?_
      have ok := ok.2
      refine c_iload dX7_addPayments_31 rfl ?_
      refine c_V1lE (ci := 6) (rr := (RX8, TX8, 14)) (y' := mX8_paymentAt) dX7_addPayments_33 lX7_382 kX8_paymentAt ⟨by decide, by decide⟩ rfl rfl (by decide) ok.1.1 (Nat.le_of_ble_eq_true rfl) (cc_X8_paymentAt hG ok.1.2) ?_
      have ok := ok.2
      refine c_lstore_6 dX7_addPayments_36 (by decide) rfl ?_
      refine c_aload_nQ dX7_addPayments_38 rfl rfl ?_
      refine c_getR (C := RX6) (T := TX6) (N := 19) (ci := 5) (k := 0) ⟨rfl, inT6, by decide, fX7_26⟩ (by decide) (by decide) (by decide) dX7_addPayments_39 ok.1 ?_
      have ok := ok.2
      refine c_getR (C := RX10) (T := TX10) (N := 12) (ci := 8) (k := 8) ⟨rfl, inT10, by decide, fX7_338⟩ (by decide) (by decide) (by decide) dX7_addPayments_42 ok.1 ?_
      have ok := ok.2
      refine c_lload dX7_addPayments_45 rfl ?_
      refine c_aload_nQ dX7_addPayments_47 rfl rfl ?_
      refine c_getI (C := RX6) (T := TX6) (N := 19) (ci := 5) (k := 1) ⟨rfl, inT6, by decide, fX7_271⟩ (by decide) (by decide) (by decide) dX7_addPayments_48 ok.1 ?_
      have ok := ok.2
      refine c_V2iE (ci := 0) (rr := (RX0, TX0, 6)) (y' := mX0_pay) dX7_addPayments_51 lX7_386 kX0_pay ⟨by decide, by decide⟩ rfl rfl (by decide) ok.1.1 (Nat.le_of_ble_eq_true rfl) (cc_X0_pay hG ok.1.2) ?_
      have ok := ok.2
      exact cX.cutz (b_X7_addPayments_54 hG hX0 hrec ok hx) ⟨rfl, rfl, rfl, rfl, rfl, rfl, trivial⟩
def L_X7_addPayments_8 (N : Nat) : Nat → Option Nat → Option Nat → Int32 → Int32 → Int32 → cS → Nat × Option Nat × Int32 × Int32 × cS
  | 0, x0, x1, x3, x4, x5, S => (0, none, 0, 0, S)
  | n + 1, x0, x1, x3, x4, x5, S => B_X7_addPayments_8 N (L_X7_addPayments_8 N n) x0 x1 x3 x4 x5 S
def OL_X7_addPayments_8 (N : Nat) : Nat → Option Nat → Option Nat → Int32 → Int32 → Int32 → cS → Prop
  | 0, _, _, _, _, _, _ => False
  | n + 1, x0, x1, x3, x4, x5, S => OB_X7_addPayments_8 N (OL_X7_addPayments_8 N n) x0 x1 x3 x4 x5 S
set_option maxRecDepth 100000 in
set_option maxHeartbeats 4000000 in
theorem l_X7_addPayments_8 {G : zG} {o : cO} {N : Nat} {Q : Option Value → cS → Prop} {X : Nat × Option Nat × Int32 × Int32 × cS → Prop} (hG : zOK G) (hX0 : ∀ (x1 : Option Nat) (x3 : Int32) (x4 : Int32) (S' : cS), X (0, x1, x3, x4, S') → cX G o dX7_addPayments mX7_addPayments 76 [none, some (va_rf x1), none, some (.int x3), some (.int x4), none, none, none] [] S' Q) : ∀ (n : Nat) (x0 : Option Nat) (x1 : Option Nat) (x3 : Int32) (x4 : Int32) (x5 : Int32) (S : cS), OL_X7_addPayments_8 N n x0 x1 x3 x4 x5 S → X (L_X7_addPayments_8 N n x0 x1 x3 x4 x5 S) → cX G o dX7_addPayments mX7_addPayments 8 [some (va_rf x0), some (va_rf x1), none, some (.int x3), some (.int x4), some (.int x5), none, none] [] S Q := by
  intro n
  induction n with
  | zero => intro x0 x1 x3 x4 x5 S ok; exact absurd ok id
  | succ n ih =>
    intro x0 x1 x3 x4 x5 S ok hx
    exact bb_X7_addPayments_8 hG hX0 (rec := L_X7_addPayments_8 N n) (rok := OL_X7_addPayments_8 N n) (fun x0 x1 x3 x4 x5 S ok hx => ih x0 x1 x3 x4 x5 S ok hx) ok hx
def A_X7_addPayments_8 (N : Nat) (x0 : Option Nat) (x1 : Option Nat) (x3 : Int32) (x4 : Int32) (x5 : Int32) (S : cS) (z : Nat × Option Nat × Int32 × Int32 × cS) : Int32 × cS := (F_X7_addPayments_76 N (z.2.1) (z.2.2.1) (z.2.2.2.1) z.2.2.2.2)
def OA_X7_addPayments_8 (N : Nat) (x0 : Option Nat) (x1 : Option Nat) (x3 : Int32) (x4 : Int32) (x5 : Int32) (S : cS) (z : Nat × Option Nat × Int32 × Int32 × cS) : Prop := O_X7_addPayments_76 N (z.2.1) (z.2.2.1) (z.2.2.2.1) z.2.2.2.2
set_option maxRecDepth 100000 in
set_option maxHeartbeats 4000000 in
theorem c_X7_addPayments_8 {G : zG} {o : cO} {S : cS} {N : Nat} {Q : Option Value → cS → Prop} {X : Int32 × cS → Prop} (hG : zOK G) (hR : ∀ v S', X (v, S') → Q (some (.int v)) S') {x0 : Option Nat} {x1 : Option Nat} {x3 : Int32} {x4 : Int32} {x5 : Int32} (ok : OL_X7_addPayments_8 N N x0 x1 x3 x4 x5 S ∧ OA_X7_addPayments_8 N x0 x1 x3 x4 x5 S (L_X7_addPayments_8 N N x0 x1 x3 x4 x5 S)) (hx : X (A_X7_addPayments_8 N x0 x1 x3 x4 x5 S (L_X7_addPayments_8 N N x0 x1 x3 x4 x5 S))) : cX G o dX7_addPayments mX7_addPayments 8 [some (va_rf x0), some (va_rf x1), none, some (.int x3), some (.int x4), some (.int x5), none, none] [] S Q := by
  refine l_X7_addPayments_8 hG ?_ N x0 x1 x3 x4 x5 S ok.1 (X := fun z => OA_X7_addPayments_8 N x0 x1 x3 x4 x5 S z ∧ X (A_X7_addPayments_8 N x0 x1 x3 x4 x5 S z)) ⟨ok.2, hx⟩
  · intro x1' x3' x4' S' hz
    obtain ⟨ok, hx⟩ := hz
    unfold OA_X7_addPayments_8 at ok
    unfold A_X7_addPayments_8 at hx
    exact cX.cutz (b_X7_addPayments_76 hG hR ok hx) ⟨rfl, rfl, rfl, trivial⟩
def F_X7_addPayments_0 (N : Nat) (x0 : Option Nat) (x1 : Option Nat) (x2 : Int32) (S : cS) : Int32 × cS := (A_X7_addPayments_8 N x0 x1 x2 (nI 0) (nI 0) S (L_X7_addPayments_8 N N x0 x1 x2 (nI 0) (nI 0) S))
def O_X7_addPayments_0 (N : Nat) (x0 : Option Nat) (x1 : Option Nat) (x2 : Int32) (S : cS) : Prop := (OL_X7_addPayments_8 N N x0 x1 x2 (nI 0) (nI 0) S ∧ OA_X7_addPayments_8 N x0 x1 x2 (nI 0) (nI 0) S (L_X7_addPayments_8 N N x0 x1 x2 (nI 0) (nI 0) S))
set_option maxRecDepth 100000 in
set_option maxHeartbeats 4000000 in
theorem b_X7_addPayments_0 {G : zG} {o : cO} {S : cS} {N : Nat} {Q : Option Value → cS → Prop} {X : Int32 × cS → Prop} (hG : zOK G) (hR : ∀ v S', X (v, S') → Q (some (.int v)) S') {x0 : Option Nat} {x1 : Option Nat} {x2 : Int32} (ok : O_X7_addPayments_0 N x0 x1 x2 S) (hx : X (F_X7_addPayments_0 N x0 x1 x2 S)) : cX G o dX7_addPayments mX7_addPayments 0 [some (va_rf x0), some (va_rf x1), some (.int x2), none, none, none, none, none] [] S Q := by
  unfold O_X7_addPayments_0 at ok
  unfold F_X7_addPayments_0 at hx
  refine c_iload_n dX7_addPayments_0 rfl rfl ?_
  refine c_istore_3 dX7_addPayments_1 (by decide) rfl ?_
  refine c_iconst (v := nI 0) dX7_addPayments_2 (by decide) ?_
  refine c_istore_4 dX7_addPayments_3 (by decide) rfl ?_
  refine c_iconst (v := nI 0) dX7_addPayments_5 (by decide) ?_
  refine c_istore_5 dX7_addPayments_6 (by decide) rfl ?_
  exact cX.cutz (c_X7_addPayments_8 hG hR ok hx) ⟨rfl, rfl, rfl, rfl, rfl, trivial⟩
def f_X7_addPayments (N : Nat) (S : cS) (x0 : Option Nat) (x1 : Option Nat) (x2 : Int32) : Int32 × cS := F_X7_addPayments_0 N x0 x1 x2 S
def o_X7_addPayments (N : Nat) (S : cS) (x0 : Option Nat) (x1 : Option Nat) (x2 : Int32) : Prop := O_X7_addPayments_0 N x0 x1 x2 S
set_option maxRecDepth 100000 in
set_option maxHeartbeats 4000000 in
theorem cc_X7_addPayments {G : zG} {o : cO} {S : cS} {N : Nat} (hG : zOK G) {x0 : Option Nat} {x1 : Option Nat} {x2 : Int32} (ok : o_X7_addPayments N S x0 x1 x2) : cCi G o dX7_addPayments mX7_addPayments [va_rf x0, va_rf x1, .int x2] S (fun v S' => v = (f_X7_addPayments N S x0 x1 x2).1 ∧ S' = (f_X7_addPayments N S x0 x1 x2).2) := by
  refine cC.ofX rfl (by cases x0 <;> cases x1 <;> exact Nat.le_of_ble_eq_true rfl) ?_
  rw [show zargs mX7_addPayments.2.2.1 [va_rf x0, va_rf x1, .int x2] = [some (va_rf x0), some (va_rf x1), some (.int x2), none, none, none, none, none] from by cases x0 <;> cases x1 <;> rfl]
  exact cX.cutz (b_X7_addPayments_0 (X := fun F => F = f_X7_addPayments N S x0 x1 x2) hG (fun v S' h => ⟨v, rfl, by rw [← h], by rw [← h]⟩) ok rfl) ⟨rfl, rfl, rfl, trivial⟩
/-! X7_build -/
def F_X7_build_183 (N : Nat) (x5 : Option Nat) (S : cS) : Option Nat × cS := (x5, (csI S 4 (za x5) (nI 1)))
def O_X7_build_183 (N : Nat) (x5 : Option Nat) (S : cS) : Prop := (cis S x5 5) ∧ True
set_option maxRecDepth 100000 in
set_option maxHeartbeats 4000000 in
theorem b_X7_build_183 {G : zG} {o : cO} {S : cS} {N : Nat} {Q : Option Value → cS → Prop} {X : Option Nat × cS → Prop} (hG : zOK G) (hR : ∀ v S', X (v, S') → Q (some (va_rf v)) S') {x5 : Option Nat} (ok : O_X7_build_183 N x5 S) (hx : X (F_X7_build_183 N x5 S)) : cX G o dX7_build mX7_build 183 [none, none, none, none, none, some (va_rf x5)] [] S Q := by
  unfold O_X7_build_183 at ok
  unfold F_X7_build_183 at hx
  refine c_aloadQ dX7_build_183 rfl ?_
  refine c_iconst (v := nI 1) dX7_build_185 (by decide) ?_
  refine c_putI (C := RX5) (T := TX5) (N := 7) (ci := 4) (k := 4) ⟨rfl, inT5, by decide, fX7_325⟩ ftT5 rfl (by decide) (by decide) (by decide) rfl rfl dX7_build_186 ok.1 ?_
  have ok := ok.2
  refine c_aloadQ dX7_build_189 rfl ?_
  exact c_areturn rfl (Or.inl ⟨_, rfl⟩) dX7_build_191 (hR _ _ hx)
def F_X7_build_173 (N : Nat) (x1 : Option Nat) (x5 : Option Nat) (S : cS) : Option Nat × cS := (F_X7_build_183 N x5 (f_X5_readId N S (za x5) (cR S 11 (za x1)) (nI 0)))
def O_X7_build_173 (N : Nat) (x1 : Option Nat) (x5 : Option Nat) (S : cS) : Prop := (cis S x1 9) ∧ (cis S x5 5 ∧ o_X5_readId N S (za x5) (cR S 11 (za x1)) (nI 0)) ∧ O_X7_build_183 N x5 (f_X5_readId N S (za x5) (cR S 11 (za x1)) (nI 0))
set_option maxRecDepth 100000 in
set_option maxHeartbeats 4000000 in
theorem b_X7_build_173 {G : zG} {o : cO} {S : cS} {N : Nat} {Q : Option Value → cS → Prop} {X : Option Nat × cS → Prop} (hG : zOK G) (hR : ∀ v S', X (v, S') → Q (some (va_rf v)) S') {x1 : Option Nat} {x5 : Option Nat} (ok : O_X7_build_173 N x1 x5 S) (hx : X (F_X7_build_173 N x1 x5 S)) : cX G o dX7_build mX7_build 173 [none, some (va_rf x1), none, none, none, some (va_rf x5)] [] S Q := by
  unfold O_X7_build_173 at ok
  unfold F_X7_build_173 at hx
  refine c_aloadQ dX7_build_173 rfl ?_
  refine c_aload_nQ dX7_build_175 rfl rfl ?_
  refine c_getR (C := RX10) (T := TX10) (N := 12) (ci := 8) (k := 11) ⟨rfl, inT10, by decide, fX7_363⟩ (by decide) (by decide) (by decide) dX7_build_176 ok.1 ?_
  have ok := ok.2
  refine c_iconst (v := nI 0) dX7_build_179 (by decide) ?_
  refine c_V2vE (ci := 4) (rr := (RX5, TX5, 7)) (y' := mX5_readId) dX7_build_180 lX7_369 kX5_readId ⟨by decide, by decide⟩ rfl rfl (by decide) ok.1.1 (Nat.le_of_ble_eq_true rfl) (cc_X5_readId hG ok.1.2) ?_
  have ok := ok.2
  exact cX.cutz (b_X7_build_183 hG hR ok hx) ⟨rfl, trivial⟩
def F_X7_build_155 (N : Nat) (x1 : Option Nat) (x2 : Option Nat) (x3 : Int32) (x5 : Option Nat) (S : cS) : Option Nat × cS := (F_X7_build_173 N x1 x5 (f_X2_digest N S (za (cR S 5 (za x1))) x2 x3 (x3 + (nI 101)) (cR S 11 (za x1)) (nI 0)))
def O_X7_build_155 (N : Nat) (x1 : Option Nat) (x2 : Option Nat) (x3 : Int32) (x5 : Option Nat) (S : cS) : Prop := (cis S x1 9) ∧ (cis S x1 9) ∧ (cis S (cR S 5 (za x1)) 3 ∧ o_X2_digest N S (za (cR S 5 (za x1))) x2 x3 (x3 + (nI 101)) (cR S 11 (za x1)) (nI 0)) ∧ O_X7_build_173 N x1 x5 (f_X2_digest N S (za (cR S 5 (za x1))) x2 x3 (x3 + (nI 101)) (cR S 11 (za x1)) (nI 0))
set_option maxRecDepth 100000 in
set_option maxHeartbeats 4000000 in
theorem b_X7_build_155 {G : zG} {o : cO} {S : cS} {N : Nat} {Q : Option Value → cS → Prop} {X : Option Nat × cS → Prop} (hG : zOK G) (hR : ∀ v S', X (v, S') → Q (some (va_rf v)) S') {x1 : Option Nat} {x2 : Option Nat} {x3 : Int32} {x5 : Option Nat} (ok : O_X7_build_155 N x1 x2 x3 x5 S) (hx : X (F_X7_build_155 N x1 x2 x3 x5 S)) : cX G o dX7_build mX7_build 155 [none, some (va_rf x1), some (va_rf x2), some (.int x3), none, some (va_rf x5)] [] S Q := by
  unfold O_X7_build_155 at ok
  unfold F_X7_build_155 at hx
  refine c_aload_nQ dX7_build_155 rfl rfl ?_
  refine c_getR (C := RX10) (T := TX10) (N := 12) (ci := 8) (k := 5) ⟨rfl, inT10, by decide, fX7_30⟩ (by decide) (by decide) (by decide) dX7_build_156 ok.1 ?_
  have ok := ok.2
  refine c_aload_nQ dX7_build_159 rfl rfl ?_
  refine c_iload_n dX7_build_160 rfl rfl ?_
  refine c_iload_n dX7_build_161 rfl rfl ?_
  refine c_bipush (v := nI 101) dX7_build_162 (by decide) ?_
  refine c_iadd dX7_build_164 ?_
  refine c_aload_nQ dX7_build_165 rfl rfl ?_
  refine c_getR (C := RX10) (T := TX10) (N := 12) (ci := 8) (k := 11) ⟨rfl, inT10, by decide, fX7_363⟩ (by decide) (by decide) (by decide) dX7_build_166 ok.1 ?_
  have ok := ok.2
  refine c_iconst (v := nI 0) dX7_build_169 (by decide) ?_
  refine c_V5vE (ci := 2) (rr := (RX2, TX2, 6)) (y' := mX2_digest) dX7_build_170 lX7_366 kX2_digest ⟨by decide, by decide⟩ rfl rfl (by decide) ok.1.1 (Nat.le_of_ble_eq_true rfl) (cc_X2_digest hG ok.1.2) ?_
  have ok := ok.2
  exact cX.cutz (b_X7_build_173 hG hR ok hx) ⟨rfl, rfl, trivial⟩
def F_X7_build_140 (N : Nat) (x1 : Option Nat) (x2 : Option Nat) (x3 : Int32) (x4 : Int32) (s0 : Option Nat) (S : cS) : Option Nat × cS := (F_X7_build_155 N x1 x2 x3 s0 (csArow S (za (cR S 0 (za s0))) (va_cpy (cA S (za x2)) (cA S (za (cR S 0 (za s0)))) (nI 0).toNatClampNeg (nI 0).toNatClampNeg x4.toNatClampNeg)))
def O_X7_build_140 (N : Nat) (x1 : Option Nat) (x2 : Option Nat) (x3 : Int32) (x4 : Int32) (s0 : Option Nat) (S : cS) : Prop := (cis S s0 5) ∧ (cis S x2 20 ∧ cis S (cR S 0 (za s0)) 20 ∧ (¬ (nI 0) < 0 ∧ ¬ (nI 0) < 0 ∧ ¬ x4 < 0) ∧ (nI 0).toNatClampNeg + x4.toNatClampNeg ≤ cL S (za x2) ∧ (nI 0).toNatClampNeg + x4.toNatClampNeg ≤ cL S (za (cR S 0 (za s0)))) ∧ O_X7_build_155 N x1 x2 x3 s0 (csArow S (za (cR S 0 (za s0))) (va_cpy (cA S (za x2)) (cA S (za (cR S 0 (za s0)))) (nI 0).toNatClampNeg (nI 0).toNatClampNeg x4.toNatClampNeg))
set_option maxRecDepth 100000 in
set_option maxHeartbeats 4000000 in
theorem b_X7_build_140 {G : zG} {o : cO} {S : cS} {N : Nat} {Q : Option Value → cS → Prop} {X : Option Nat × cS → Prop} (hG : zOK G) (hR : ∀ v S', X (v, S') → Q (some (va_rf v)) S') {x1 : Option Nat} {x2 : Option Nat} {x3 : Int32} {x4 : Int32} {s0 : Option Nat} (ok : O_X7_build_140 N x1 x2 x3 x4 s0 S) (hx : X (F_X7_build_140 N x1 x2 x3 x4 s0 S)) : cX G o dX7_build mX7_build 140 [none, some (va_rf x1), some (va_rf x2), some (.int x3), some (.int x4), none] [va_rf s0] S Q := by
  unfold O_X7_build_140 at ok
  unfold F_X7_build_140 at hx
  refine c_astore_5Q dX7_build_140 (by decide) rfl ?_
  refine c_aload_nQ dX7_build_142 rfl rfl ?_
  refine c_iconst (v := nI 0) dX7_build_143 (by decide) ?_
  refine c_aloadQ dX7_build_144 rfl ?_
  refine c_getR (C := RX5) (T := TX5) (N := 7) (ci := 4) (k := 0) ⟨rfl, inT5, by decide, fX7_123⟩ (by decide) (by decide) (by decide) dX7_build_146 ok.1 ?_
  have ok := ok.2
  refine c_iconst (v := nI 0) dX7_build_149 (by decide) ?_
  refine c_iload dX7_build_150 rfl ?_
  refine c_copy0 hG dX7_build_152 qX7_130 (by decide) (by decide) ok.1 ?_
  have ok := ok.2
  exact cX.cutz (b_X7_build_155 hG hR ok hx) ⟨rfl, rfl, rfl, rfl, trivial⟩
def F_X7_build_131 (N : Nat) (x1 : Option Nat) (x2 : Option Nat) (x3 : Int32) (x4 : Int32) (S : cS) : Option Nat × cS := (F_X7_build_140 N x1 x2 x3 x4 ((f_X9_fresh N S (za (cR S 6 (za x1))) x4).1) (f_X9_fresh N S (za (cR S 6 (za x1))) x4).2)
def O_X7_build_131 (N : Nat) (x1 : Option Nat) (x2 : Option Nat) (x3 : Int32) (x4 : Int32) (S : cS) : Prop := (cis S x1 9) ∧ (cis S (cR S 6 (za x1)) 8 ∧ o_X9_fresh N S (za (cR S 6 (za x1))) x4) ∧ O_X7_build_140 N x1 x2 x3 x4 ((f_X9_fresh N S (za (cR S 6 (za x1))) x4).1) (f_X9_fresh N S (za (cR S 6 (za x1))) x4).2
set_option maxRecDepth 100000 in
set_option maxHeartbeats 4000000 in
theorem b_X7_build_131 {G : zG} {o : cO} {S : cS} {N : Nat} {Q : Option Value → cS → Prop} {X : Option Nat × cS → Prop} (hG : zOK G) (hR : ∀ v S', X (v, S') → Q (some (va_rf v)) S') {x1 : Option Nat} {x2 : Option Nat} {x3 : Int32} {x4 : Int32} (ok : O_X7_build_131 N x1 x2 x3 x4 S) (hx : X (F_X7_build_131 N x1 x2 x3 x4 S)) : cX G o dX7_build mX7_build 131 [none, some (va_rf x1), some (va_rf x2), some (.int x3), some (.int x4), none] [] S Q := by
  unfold O_X7_build_131 at ok
  unfold F_X7_build_131 at hx
  refine c_aload_nQ dX7_build_131 rfl rfl ?_
  refine c_getR (C := RX10) (T := TX10) (N := 12) (ci := 8) (k := 6) ⟨rfl, inT10, by decide, fX7_278⟩ (by decide) (by decide) (by decide) dX7_build_132 ok.1 ?_
  have ok := ok.2
  refine c_iload dX7_build_135 rfl ?_
  refine c_V1qE (ci := 7) (rr := (RX9, TX9, 13)) (y' := mX9_fresh) dX7_build_137 lX7_310 kX9_fresh ⟨by decide, by decide⟩ rfl rfl (by decide) ok.1.1 (Nat.le_of_ble_eq_true rfl) (cc_X9_fresh hG ok.1.2) ?_
  have ok := ok.2
  exact cX.cutz (b_X7_build_140 hG hR ok hx) ⟨rfl, rfl, rfl, rfl, trivial⟩
def F_X7_build_118 (N : Nat) (x1 : Option Nat) (x2 : Option Nat) (x3 : Int32) (x4 : Int32) (s0 : Int32) (S : cS) : Option Nat × cS := (F_X7_build_131 N x1 x2 x3 x4 (f_X2_top N S (za (cR S 5 (za x1))) x2 (x3 + (nI 67))))
def O_X7_build_118 (N : Nat) (x1 : Option Nat) (x2 : Option Nat) (x3 : Int32) (x4 : Int32) (s0 : Int32) (S : cS) : Prop := (cis S x1 9) ∧ (cis S (cR S 5 (za x1)) 3 ∧ o_X2_top N S (za (cR S 5 (za x1))) x2 (x3 + (nI 67))) ∧ O_X7_build_131 N x1 x2 x3 x4 (f_X2_top N S (za (cR S 5 (za x1))) x2 (x3 + (nI 67)))
set_option maxRecDepth 100000 in
set_option maxHeartbeats 4000000 in
theorem b_X7_build_118 {G : zG} {o : cO} {S : cS} {N : Nat} {Q : Option Value → cS → Prop} {X : Option Nat × cS → Prop} (hG : zOK G) (hR : ∀ v S', X (v, S') → Q (some (va_rf v)) S') {x1 : Option Nat} {x2 : Option Nat} {x3 : Int32} {x4 : Int32} {s0 : Int32} (ok : O_X7_build_118 N x1 x2 x3 x4 s0 S) (hx : X (F_X7_build_118 N x1 x2 x3 x4 s0 S)) : cX G o dX7_build mX7_build 118 [none, some (va_rf x1), some (va_rf x2), some (.int x3), some (.int x4), none] [.int s0] S Q := by
  unfold O_X7_build_118 at ok
  unfold F_X7_build_118 at hx
  refine c_pop dX7_build_118 rfl ?_
  refine c_aload_nQ dX7_build_119 rfl rfl ?_
  refine c_getR (C := RX10) (T := TX10) (N := 12) (ci := 8) (k := 5) ⟨rfl, inT10, by decide, fX7_30⟩ (by decide) (by decide) (by decide) dX7_build_120 ok.1 ?_
  have ok := ok.2
  refine c_aload_nQ dX7_build_123 rfl rfl ?_
  refine c_iload_n dX7_build_124 rfl rfl ?_
  refine c_bipush (v := nI 67) dX7_build_125 (by decide) ?_
  refine c_iadd dX7_build_127 ?_
  refine c_V2vE (ci := 2) (rr := (RX2, TX2, 6)) (y' := mX2_top) dX7_build_128 lX7_361 kX2_top ⟨by decide, by decide⟩ rfl rfl (by decide) ok.1.1 (Nat.le_of_ble_eq_true rfl) (cc_X2_top hG ok.1.2) ?_
  have ok := ok.2
  exact cX.cutz (b_X7_build_131 hG hR ok hx) ⟨rfl, rfl, rfl, rfl, trivial⟩
def F_X7_build_108 (N : Nat) (x1 : Option Nat) (x2 : Option Nat) (x3 : Int32) (x4 : Int32) (S : cS) : Option Nat × cS := (F_X7_build_118 N x1 x2 x3 x4 ((f_X2_climb N S (za (cR S 5 (za x1))) (-1) x2 x3).1) (f_X2_climb N S (za (cR S 5 (za x1))) (-1) x2 x3).2)
def O_X7_build_108 (N : Nat) (x1 : Option Nat) (x2 : Option Nat) (x3 : Int32) (x4 : Int32) (S : cS) : Prop := (cis S x1 9) ∧ (cis S (cR S 5 (za x1)) 3 ∧ o_X2_climb N S (za (cR S 5 (za x1))) (-1) x2 x3) ∧ O_X7_build_118 N x1 x2 x3 x4 ((f_X2_climb N S (za (cR S 5 (za x1))) (-1) x2 x3).1) (f_X2_climb N S (za (cR S 5 (za x1))) (-1) x2 x3).2
set_option maxRecDepth 100000 in
set_option maxHeartbeats 4000000 in
theorem b_X7_build_108 {G : zG} {o : cO} {S : cS} {N : Nat} {Q : Option Value → cS → Prop} {X : Option Nat × cS → Prop} (hG : zOK G) (hR : ∀ v S', X (v, S') → Q (some (va_rf v)) S') {x1 : Option Nat} {x2 : Option Nat} {x3 : Int32} {x4 : Int32} (ok : O_X7_build_108 N x1 x2 x3 x4 S) (hx : X (F_X7_build_108 N x1 x2 x3 x4 S)) : cX G o dX7_build mX7_build 108 [none, some (va_rf x1), some (va_rf x2), some (.int x3), some (.int x4), none] [] S Q := by
  unfold O_X7_build_108 at ok
  unfold F_X7_build_108 at hx
  refine c_aload_nQ dX7_build_108 rfl rfl ?_
  refine c_getR (C := RX10) (T := TX10) (N := 12) (ci := 8) (k := 5) ⟨rfl, inT10, by decide, fX7_30⟩ (by decide) (by decide) (by decide) dX7_build_109 ok.1 ?_
  have ok := ok.2
  refine c_iconst (v := -1) dX7_build_112 (by decide) ?_
  refine c_aload_nQ dX7_build_113 rfl rfl ?_
  refine c_iload_n dX7_build_114 rfl rfl ?_
  refine c_V3iE (ci := 2) (rr := (RX2, TX2, 6)) (y' := mX2_climb) dX7_build_115 lX7_357 kX2_climb ⟨by decide, by decide⟩ rfl rfl (by decide) ok.1.1 (Nat.le_of_ble_eq_true rfl) (cc_X2_climb hG ok.1.2) ?_
  have ok := ok.2
  exact cX.cutz (b_X7_build_118 hG hR ok hx) ⟨rfl, rfl, rfl, rfl, trivial⟩
def F_X7_build_97 (N : Nat) (x1 : Option Nat) (x2 : Option Nat) (x3 : Int32) (s0 : Int32) (S : cS) : Option Nat × cS := (F_X7_build_108 N x1 x2 x3 s0 (f_X2_plant N S (za (cR S 5 (za x1))) x2 x3))
def O_X7_build_97 (N : Nat) (x1 : Option Nat) (x2 : Option Nat) (x3 : Int32) (s0 : Int32) (S : cS) : Prop := (cis S x1 9) ∧ (cis S (cR S 5 (za x1)) 3 ∧ o_X2_plant N S (za (cR S 5 (za x1))) x2 x3) ∧ O_X7_build_108 N x1 x2 x3 s0 (f_X2_plant N S (za (cR S 5 (za x1))) x2 x3)
set_option maxRecDepth 100000 in
set_option maxHeartbeats 4000000 in
theorem b_X7_build_97 {G : zG} {o : cO} {S : cS} {N : Nat} {Q : Option Value → cS → Prop} {X : Option Nat × cS → Prop} (hG : zOK G) (hR : ∀ v S', X (v, S') → Q (some (va_rf v)) S') {x1 : Option Nat} {x2 : Option Nat} {x3 : Int32} {s0 : Int32} (ok : O_X7_build_97 N x1 x2 x3 s0 S) (hx : X (F_X7_build_97 N x1 x2 x3 s0 S)) : cX G o dX7_build mX7_build 97 [none, some (va_rf x1), some (va_rf x2), some (.int x3), none, none] [.int s0] S Q := by
  unfold O_X7_build_97 at ok
  unfold F_X7_build_97 at hx
  refine c_istore_4 dX7_build_97 (by decide) rfl ?_
  refine c_aload_nQ dX7_build_99 rfl rfl ?_
  refine c_getR (C := RX10) (T := TX10) (N := 12) (ci := 8) (k := 5) ⟨rfl, inT10, by decide, fX7_30⟩ (by decide) (by decide) (by decide) dX7_build_100 ok.1 ?_
  have ok := ok.2
  refine c_aload_nQ dX7_build_103 rfl rfl ?_
  refine c_iload_n dX7_build_104 rfl rfl ?_
  refine c_V2vE (ci := 2) (rr := (RX2, TX2, 6)) (y' := mX2_plant) dX7_build_105 lX7_352 kX2_plant ⟨by decide, by decide⟩ rfl rfl (by decide) ok.1.1 (Nat.le_of_ble_eq_true rfl) (cc_X2_plant hG ok.1.2) ?_
  have ok := ok.2
  exact cX.cutz (b_X7_build_108 hG hR ok hx) ⟨rfl, rfl, rfl, rfl, trivial⟩
def F_X7_build_94 (N : Nat) (x1 : Option Nat) (x2 : Option Nat) (x3 : Int32) (s0 : Option Nat) (s1 : Option Nat) (s2 : Int32) (S : cS) : Option Nat × cS := (F_X7_build_97 N x1 x2 x3 ((f_X7_addPayments N S s0 s1 s2).1) (f_X7_addPayments N S s0 s1 s2).2)
def O_X7_build_94 (N : Nat) (x1 : Option Nat) (x2 : Option Nat) (x3 : Int32) (s0 : Option Nat) (s1 : Option Nat) (s2 : Int32) (S : cS) : Prop := (o_X7_addPayments N S s0 s1 s2) ∧ O_X7_build_97 N x1 x2 x3 ((f_X7_addPayments N S s0 s1 s2).1) (f_X7_addPayments N S s0 s1 s2).2
set_option maxRecDepth 100000 in
set_option maxHeartbeats 4000000 in
theorem b_X7_build_94 {G : zG} {o : cO} {S : cS} {N : Nat} {Q : Option Value → cS → Prop} {X : Option Nat × cS → Prop} (hG : zOK G) (hR : ∀ v S', X (v, S') → Q (some (va_rf v)) S') {x1 : Option Nat} {x2 : Option Nat} {x3 : Int32} {s0 : Option Nat} {s1 : Option Nat} {s2 : Int32} (ok : O_X7_build_94 N x1 x2 x3 s0 s1 s2 S) (hx : X (F_X7_build_94 N x1 x2 x3 s0 s1 s2 S)) : cX G o dX7_build mX7_build 94 [none, some (va_rf x1), some (va_rf x2), some (.int x3), none, none] [.int s2, va_rf s1, va_rf s0] S Q := by
  unfold O_X7_build_94 at ok
  unfold F_X7_build_94 at hx
  refine c_S3iE (y' := mX7_addPayments) dX7_build_94 lX7_349 kX7_addPayments ⟨by decide, by decide⟩ (Nat.le_of_ble_eq_true rfl) (cc_X7_addPayments hG ok.1) ?_
  have ok := ok.2
  exact cX.cutz (b_X7_build_97 hG hR ok hx) ⟨rfl, rfl, rfl, trivial⟩
def F_X7_build_83 (N : Nat) (x0 : Option Nat) (x1 : Option Nat) (x2 : Option Nat) (x3 : Int32) (S : cS) : Option Nat × cS := (F_X7_build_94 N x1 x2 x3 x0 x2 ((f_X7_addEvidences N S x0 x2 (x3 + (nI 101))).1) (f_X7_addEvidences N S x0 x2 (x3 + (nI 101))).2)
def O_X7_build_83 (N : Nat) (x0 : Option Nat) (x1 : Option Nat) (x2 : Option Nat) (x3 : Int32) (S : cS) : Prop := (o_X7_addEvidences N S x0 x2 (x3 + (nI 101))) ∧ O_X7_build_94 N x1 x2 x3 x0 x2 ((f_X7_addEvidences N S x0 x2 (x3 + (nI 101))).1) (f_X7_addEvidences N S x0 x2 (x3 + (nI 101))).2
set_option maxRecDepth 100000 in
set_option maxHeartbeats 4000000 in
theorem b_X7_build_83 {G : zG} {o : cO} {S : cS} {N : Nat} {Q : Option Value → cS → Prop} {X : Option Nat × cS → Prop} (hG : zOK G) (hR : ∀ v S', X (v, S') → Q (some (va_rf v)) S') {x0 : Option Nat} {x1 : Option Nat} {x2 : Option Nat} {x3 : Int32} (ok : O_X7_build_83 N x0 x1 x2 x3 S) (hx : X (F_X7_build_83 N x0 x1 x2 x3 S)) : cX G o dX7_build mX7_build 83 [some (va_rf x0), some (va_rf x1), some (va_rf x2), some (.int x3), none, none] [] S Q := by
  unfold O_X7_build_83 at ok
  unfold F_X7_build_83 at hx
  refine c_aload_nQ dX7_build_83 rfl rfl ?_
  refine c_aload_nQ dX7_build_84 rfl rfl ?_
  refine c_aload_nQ dX7_build_85 rfl rfl ?_
  refine c_aload_nQ dX7_build_86 rfl rfl ?_
  refine c_iload_n dX7_build_87 rfl rfl ?_
  refine c_bipush (v := nI 101) dX7_build_88 (by decide) ?_
  refine c_iadd dX7_build_90 ?_
  refine c_S3iE (y' := mX7_addEvidences) dX7_build_91 lX7_345 kX7_addEvidences ⟨by decide, by decide⟩ (by simp only [List.map_cons, List.map_nil, List.sum_cons, List.sum_nil, zcat_rf, zcat_i, zcat_l, zcat_r] <;> decide) (cc_X7_addEvidences hG ok.1) ?_
  have ok := ok.2
  exact cX.cutz (b_X7_build_94 hG hR ok hx) ⟨rfl, rfl, rfl, trivial⟩
def F_X7_build_72 (N : Nat) (x0 : Option Nat) (x1 : Option Nat) (x2 : Option Nat) (x3 : Int32) (S : cS) : Option Nat × cS := (F_X7_build_83 N x0 x1 x2 x3 (f_X0_mirror N S (za (cR S 8 (za x1))) (cR S 4 (za x0))))
def O_X7_build_72 (N : Nat) (x0 : Option Nat) (x1 : Option Nat) (x2 : Option Nat) (x3 : Int32) (S : cS) : Prop := (cis S x1 9) ∧ (cis S x0 6) ∧ (cis S (cR S 8 (za x1)) 1 ∧ o_X0_mirror N S (za (cR S 8 (za x1))) (cR S 4 (za x0))) ∧ O_X7_build_83 N x0 x1 x2 x3 (f_X0_mirror N S (za (cR S 8 (za x1))) (cR S 4 (za x0)))
set_option maxRecDepth 100000 in
set_option maxHeartbeats 4000000 in
theorem b_X7_build_72 {G : zG} {o : cO} {S : cS} {N : Nat} {Q : Option Value → cS → Prop} {X : Option Nat × cS → Prop} (hG : zOK G) (hR : ∀ v S', X (v, S') → Q (some (va_rf v)) S') {x0 : Option Nat} {x1 : Option Nat} {x2 : Option Nat} {x3 : Int32} (ok : O_X7_build_72 N x0 x1 x2 x3 S) (hx : X (F_X7_build_72 N x0 x1 x2 x3 S)) : cX G o dX7_build mX7_build 72 [some (va_rf x0), some (va_rf x1), some (va_rf x2), some (.int x3), none, none] [] S Q := by
  unfold O_X7_build_72 at ok
  unfold F_X7_build_72 at hx
  refine c_aload_nQ dX7_build_72 rfl rfl ?_
  refine c_getR (C := RX10) (T := TX10) (N := 12) (ci := 8) (k := 8) ⟨rfl, inT10, by decide, fX7_338⟩ (by decide) (by decide) (by decide) dX7_build_73 ok.1 ?_
  have ok := ok.2
  refine c_aload_nQ dX7_build_76 rfl rfl ?_
  refine c_getR (C := RX6) (T := TX6) (N := 19) (ci := 5) (k := 4) ⟨rfl, inT6, by decide, fX7_22⟩ (by decide) (by decide) (by decide) dX7_build_77 ok.1 ?_
  have ok := ok.2
  refine c_V1vE (ci := 0) (rr := (RX0, TX0, 6)) (y' := mX0_mirror) dX7_build_80 lX7_341 kX0_mirror ⟨by decide, by decide⟩ rfl rfl (by decide) ok.1.1 (Nat.le_of_ble_eq_true rfl) (cc_X0_mirror hG ok.1.2) ?_
  have ok := ok.2
  exact cX.cutz (b_X7_build_83 hG hR ok hx) ⟨rfl, rfl, rfl, rfl, trivial⟩
def F_X7_build_54 (N : Nat) (x0 : Option Nat) (x1 : Option Nat) (x2 : Option Nat) (x3 : Int32) (S : cS) : Option Nat × cS := (F_X7_build_72 N x0 x1 x2 x3 (csArow S (za x2) (va_cpy (cA S (za (cR S 3 (za (cR S 4 (za x0)))))) (cA S (za x2)) (nI 0).toNatClampNeg (x3 + (nI 35)).toNatClampNeg (nI 32).toNatClampNeg)))
def O_X7_build_54 (N : Nat) (x0 : Option Nat) (x1 : Option Nat) (x2 : Option Nat) (x3 : Int32) (S : cS) : Prop := (cis S x0 6) ∧ (cis S (cR S 4 (za x0)) 1) ∧ (cis S (cR S 3 (za (cR S 4 (za x0)))) 20 ∧ cis S x2 20 ∧ (¬ (nI 0) < 0 ∧ ¬ (x3 + (nI 35)) < 0 ∧ ¬ (nI 32) < 0) ∧ (nI 0).toNatClampNeg + (nI 32).toNatClampNeg ≤ cL S (za (cR S 3 (za (cR S 4 (za x0))))) ∧ (x3 + (nI 35)).toNatClampNeg + (nI 32).toNatClampNeg ≤ cL S (za x2)) ∧ O_X7_build_72 N x0 x1 x2 x3 (csArow S (za x2) (va_cpy (cA S (za (cR S 3 (za (cR S 4 (za x0)))))) (cA S (za x2)) (nI 0).toNatClampNeg (x3 + (nI 35)).toNatClampNeg (nI 32).toNatClampNeg))
set_option maxRecDepth 100000 in
set_option maxHeartbeats 4000000 in
theorem b_X7_build_54 {G : zG} {o : cO} {S : cS} {N : Nat} {Q : Option Value → cS → Prop} {X : Option Nat × cS → Prop} (hG : zOK G) (hR : ∀ v S', X (v, S') → Q (some (va_rf v)) S') {x0 : Option Nat} {x1 : Option Nat} {x2 : Option Nat} {x3 : Int32} (ok : O_X7_build_54 N x0 x1 x2 x3 S) (hx : X (F_X7_build_54 N x0 x1 x2 x3 S)) : cX G o dX7_build mX7_build 54 [some (va_rf x0), some (va_rf x1), some (va_rf x2), some (.int x3), none, none] [] S Q := by
  unfold O_X7_build_54 at ok
  unfold F_X7_build_54 at hx
  refine c_aload_nQ dX7_build_54 rfl rfl ?_
  refine c_getR (C := RX6) (T := TX6) (N := 19) (ci := 5) (k := 4) ⟨rfl, inT6, by decide, fX7_22⟩ (by decide) (by decide) (by decide) dX7_build_55 ok.1 ?_
  have ok := ok.2
  refine c_getR (C := RX0) (T := TX0) (N := 6) (ci := 0) (k := 3) ⟨rfl, inT0, by decide, fX7_335⟩ (by decide) (by decide) (by decide) dX7_build_58 ok.1 ?_
  have ok := ok.2
  refine c_iconst (v := nI 0) dX7_build_61 (by decide) ?_
  refine c_aload_nQ dX7_build_62 rfl rfl ?_
  refine c_iload_n dX7_build_63 rfl rfl ?_
  refine c_bipush (v := nI 35) dX7_build_64 (by decide) ?_
  refine c_iadd dX7_build_66 ?_
  refine c_bipush (v := nI 32) dX7_build_67 (by decide) ?_
  refine c_copy0 hG dX7_build_69 qX7_130 (by decide) (by decide) ok.1 ?_
  have ok := ok.2
  exact cX.cutz (b_X7_build_72 hG hR ok hx) ⟨rfl, rfl, rfl, rfl, trivial⟩
def F_X7_build_30 (N : Nat) (x0 : Option Nat) (x1 : Option Nat) (x2 : Option Nat) (x3 : Int32) (S : cS) : Option Nat × cS := (F_X7_build_54 N x0 x1 x2 x3 (csArow (csA S (za x2) (x3 + (nI 2)).toNatClampNeg (((cI S 1 (za x0)).toInt8.toInt32).toInt8.toInt32)) (za x2) (va_cpy (cA (csA S (za x2) (x3 + (nI 2)).toNatClampNeg (((cI S 1 (za x0)).toInt8.toInt32).toInt8.toInt32)) (za (cR (csA S (za x2) (x3 + (nI 2)).toNatClampNeg (((cI S 1 (za x0)).toInt8.toInt32).toInt8.toInt32)) 5 (za x0)))) (cA (csA S (za x2) (x3 + (nI 2)).toNatClampNeg (((cI S 1 (za x0)).toInt8.toInt32).toInt8.toInt32)) (za x2)) (nI 0).toNatClampNeg (x3 + (nI 3)).toNatClampNeg (nI 32).toNatClampNeg)))
def O_X7_build_30 (N : Nat) (x0 : Option Nat) (x1 : Option Nat) (x2 : Option Nat) (x3 : Int32) (S : cS) : Prop := (cis S x0 6) ∧ (cis S x2 20 ∧ vp_in (x3 + (nI 2)) (cL S (za x2))) ∧ (cis (csA S (za x2) (x3 + (nI 2)).toNatClampNeg (((cI S 1 (za x0)).toInt8.toInt32).toInt8.toInt32)) x0 6) ∧ (cis (csA S (za x2) (x3 + (nI 2)).toNatClampNeg (((cI S 1 (za x0)).toInt8.toInt32).toInt8.toInt32)) (cR (csA S (za x2) (x3 + (nI 2)).toNatClampNeg (((cI S 1 (za x0)).toInt8.toInt32).toInt8.toInt32)) 5 (za x0)) 20 ∧ cis (csA S (za x2) (x3 + (nI 2)).toNatClampNeg (((cI S 1 (za x0)).toInt8.toInt32).toInt8.toInt32)) x2 20 ∧ (¬ (nI 0) < 0 ∧ ¬ (x3 + (nI 3)) < 0 ∧ ¬ (nI 32) < 0) ∧ (nI 0).toNatClampNeg + (nI 32).toNatClampNeg ≤ cL (csA S (za x2) (x3 + (nI 2)).toNatClampNeg (((cI S 1 (za x0)).toInt8.toInt32).toInt8.toInt32)) (za (cR (csA S (za x2) (x3 + (nI 2)).toNatClampNeg (((cI S 1 (za x0)).toInt8.toInt32).toInt8.toInt32)) 5 (za x0))) ∧ (x3 + (nI 3)).toNatClampNeg + (nI 32).toNatClampNeg ≤ cL (csA S (za x2) (x3 + (nI 2)).toNatClampNeg (((cI S 1 (za x0)).toInt8.toInt32).toInt8.toInt32)) (za x2)) ∧ O_X7_build_54 N x0 x1 x2 x3 (csArow (csA S (za x2) (x3 + (nI 2)).toNatClampNeg (((cI S 1 (za x0)).toInt8.toInt32).toInt8.toInt32)) (za x2) (va_cpy (cA (csA S (za x2) (x3 + (nI 2)).toNatClampNeg (((cI S 1 (za x0)).toInt8.toInt32).toInt8.toInt32)) (za (cR (csA S (za x2) (x3 + (nI 2)).toNatClampNeg (((cI S 1 (za x0)).toInt8.toInt32).toInt8.toInt32)) 5 (za x0)))) (cA (csA S (za x2) (x3 + (nI 2)).toNatClampNeg (((cI S 1 (za x0)).toInt8.toInt32).toInt8.toInt32)) (za x2)) (nI 0).toNatClampNeg (x3 + (nI 3)).toNatClampNeg (nI 32).toNatClampNeg))
set_option maxRecDepth 100000 in
set_option maxHeartbeats 4000000 in
theorem b_X7_build_30 {G : zG} {o : cO} {S : cS} {N : Nat} {Q : Option Value → cS → Prop} {X : Option Nat × cS → Prop} (hG : zOK G) (hR : ∀ v S', X (v, S') → Q (some (va_rf v)) S') {x0 : Option Nat} {x1 : Option Nat} {x2 : Option Nat} {x3 : Int32} (ok : O_X7_build_30 N x0 x1 x2 x3 S) (hx : X (F_X7_build_30 N x0 x1 x2 x3 S)) : cX G o dX7_build mX7_build 30 [some (va_rf x0), some (va_rf x1), some (va_rf x2), some (.int x3), none, none] [] S Q := by
  unfold O_X7_build_30 at ok
  unfold F_X7_build_30 at hx
  refine c_aload_nQ dX7_build_30 rfl rfl ?_
  refine c_iload_n dX7_build_31 rfl rfl ?_
  refine c_iconst (v := nI 2) dX7_build_32 (by decide) ?_
  refine c_iadd dX7_build_33 ?_
  refine c_aload_nQ dX7_build_34 rfl rfl ?_
  refine c_getI (C := RX6) (T := TX6) (N := 19) (ci := 5) (k := 1) ⟨rfl, inT6, by decide, fX7_271⟩ (by decide) (by decide) (by decide) dX7_build_35 ok.1 ?_
  have ok := ok.2
  refine c_i2b dX7_build_38 ?_
  refine c_bast dX7_build_39 ok.1 ?_
  have ok := ok.2
  refine c_aload_nQ dX7_build_40 rfl rfl ?_
  refine c_getR (C := RX6) (T := TX6) (N := 19) (ci := 5) (k := 5) ⟨rfl, inT6, by decide, fX7_127⟩ (by decide) (by decide) (by decide) dX7_build_41 ok.1 ?_
  have ok := ok.2
  refine c_iconst (v := nI 0) dX7_build_44 (by decide) ?_
  refine c_aload_nQ dX7_build_45 rfl rfl ?_
  refine c_iload_n dX7_build_46 rfl rfl ?_
  refine c_iconst (v := nI 3) dX7_build_47 (by decide) ?_
  refine c_iadd dX7_build_48 ?_
  refine c_bipush (v := nI 32) dX7_build_49 (by decide) ?_
  refine c_copy0 hG dX7_build_51 qX7_130 (by decide) (by decide) ok.1 ?_
  have ok := ok.2
  exact cX.cutz (b_X7_build_54 hG hR ok hx) ⟨rfl, rfl, rfl, rfl, trivial⟩
def F_X7_build_21 (N : Nat) (x0 : Option Nat) (x1 : Option Nat) (x2 : Option Nat) (x3 : Int32) (S : cS) : Option Nat × cS := (F_X7_build_30 N x0 x1 x2 x3 (f_X11_putTwo N S x2 x3 (cI S 9 (za x0))))
def O_X7_build_21 (N : Nat) (x0 : Option Nat) (x1 : Option Nat) (x2 : Option Nat) (x3 : Int32) (S : cS) : Prop := (cis S x0 6) ∧ (o_X11_putTwo N S x2 x3 (cI S 9 (za x0))) ∧ O_X7_build_30 N x0 x1 x2 x3 (f_X11_putTwo N S x2 x3 (cI S 9 (za x0)))
set_option maxRecDepth 100000 in
set_option maxHeartbeats 4000000 in
theorem b_X7_build_21 {G : zG} {o : cO} {S : cS} {N : Nat} {Q : Option Value → cS → Prop} {X : Option Nat × cS → Prop} (hG : zOK G) (hR : ∀ v S', X (v, S') → Q (some (va_rf v)) S') {x0 : Option Nat} {x1 : Option Nat} {x2 : Option Nat} {x3 : Int32} (ok : O_X7_build_21 N x0 x1 x2 x3 S) (hx : X (F_X7_build_21 N x0 x1 x2 x3 S)) : cX G o dX7_build mX7_build 21 [some (va_rf x0), some (va_rf x1), some (va_rf x2), some (.int x3), none, none] [] S Q := by
  unfold O_X7_build_21 at ok
  unfold F_X7_build_21 at hx
  refine c_aload_nQ dX7_build_21 rfl rfl ?_
  refine c_iload_n dX7_build_22 rfl rfl ?_
  refine c_aload_nQ dX7_build_23 rfl rfl ?_
  refine c_getI (C := RX6) (T := TX6) (N := 19) (ci := 5) (k := 9) ⟨rfl, inT6, by decide, fX7_18⟩ (by decide) (by decide) (by decide) dX7_build_24 ok.1 ?_
  have ok := ok.2
  refine c_SN3vE (y' := mX11_putTwo) dX7_build_27 lX7_331 kX11_putTwo ⟨by decide, by decide⟩ (Nat.le_of_ble_eq_true rfl) (cc_X11_putTwo hG ok.1) ?_
  have ok := ok.2
  exact cX.cutz (b_X7_build_30 hG hR ok hx) ⟨rfl, rfl, rfl, rfl, trivial⟩
def F_X7_build_0 (N : Nat) (x0 : Option Nat) (S : cS) : Option Nat × cS := (F_X7_build_21 N x0 (cR S 0 (za x0)) (cR S 10 (za (cR S 0 (za x0)))) (nI 6) (f_X7_signProposal N S x0 (cR S 10 (za (cR S 0 (za x0)))) (nI 255)))
def O_X7_build_0 (N : Nat) (x0 : Option Nat) (S : cS) : Prop := (cis S x0 6) ∧ (cis S (cR S 0 (za x0)) 9) ∧ (o_X7_signProposal N S x0 (cR S 10 (za (cR S 0 (za x0)))) (nI 255)) ∧ O_X7_build_21 N x0 (cR S 0 (za x0)) (cR S 10 (za (cR S 0 (za x0)))) (nI 6) (f_X7_signProposal N S x0 (cR S 10 (za (cR S 0 (za x0)))) (nI 255))
set_option maxRecDepth 100000 in
set_option maxHeartbeats 4000000 in
theorem b_X7_build_0 {G : zG} {o : cO} {S : cS} {N : Nat} {Q : Option Value → cS → Prop} {X : Option Nat × cS → Prop} (hG : zOK G) (hR : ∀ v S', X (v, S') → Q (some (va_rf v)) S') {x0 : Option Nat} (ok : O_X7_build_0 N x0 S) (hx : X (F_X7_build_0 N x0 S)) : cX G o dX7_build mX7_build 0 [some (va_rf x0), none, none, none, none, none] [] S Q := by
  unfold O_X7_build_0 at ok
  unfold F_X7_build_0 at hx
  refine c_aload_nQ dX7_build_0 rfl rfl ?_
  refine c_getR (C := RX6) (T := TX6) (N := 19) (ci := 5) (k := 0) ⟨rfl, inT6, by decide, fX7_26⟩ (by decide) (by decide) (by decide) dX7_build_1 ok.1 ?_
  have ok := ok.2
  refine c_astore_1Q dX7_build_4 (by decide) (by simp [zok, zg, zcat_rf]) ?_
  refine c_aload_nQ dX7_build_5 rfl rfl ?_
  refine c_getR (C := RX10) (T := TX10) (N := 12) (ci := 8) (k := 10) ⟨rfl, inT10, by decide, fX7_328⟩ (by decide) (by decide) (by decide) dX7_build_6 ok.1 ?_
  have ok := ok.2
  refine c_astore_2Q dX7_build_9 (by decide) (by simp [zok, zg, zcat_rf]) ?_
  refine c_bipush (v := nI 6) dX7_build_10 (by decide) ?_
  refine c_istore_3 dX7_build_12 (by decide) (by simp [zok, zg, zcat_rf]) ?_
  refine c_aload_nQ dX7_build_13 rfl rfl ?_
  refine c_aload_nQ dX7_build_14 rfl rfl ?_
  refine c_sipush (v := nI 255) dX7_build_15 (by decide) ?_
  refine c_S3vE (y' := mX7_signProposal) dX7_build_18 lX7_314 kX7_signProposal ⟨by decide, by decide⟩ (Nat.le_of_ble_eq_true rfl) (cc_X7_signProposal hG ok.1) ?_
  have ok := ok.2
  exact cX.cutz (b_X7_build_21 hG hR ok hx) ⟨rfl, rfl, rfl, rfl, trivial⟩
def f_X7_build (N : Nat) (S : cS) (x0 : Option Nat) : Option Nat × cS := F_X7_build_0 N x0 S
def o_X7_build (N : Nat) (S : cS) (x0 : Option Nat) : Prop := O_X7_build_0 N x0 S
set_option maxRecDepth 100000 in
set_option maxHeartbeats 4000000 in
theorem cc_X7_build {G : zG} {o : cO} {S : cS} {N : Nat} (hG : zOK G) {x0 : Option Nat} (ok : o_X7_build N S x0) : cCq G o dX7_build mX7_build [va_rf x0] S (fun v S' => v = (f_X7_build N S x0).1 ∧ S' = (f_X7_build N S x0).2) := by
  refine cC.ofX rfl (by cases x0 <;> exact Nat.le_of_ble_eq_true rfl) ?_
  rw [show zargs mX7_build.2.2.1 [va_rf x0] = [some (va_rf x0), none, none, none, none, none] from by cases x0 <;> rfl]
  exact cX.cutz (b_X7_build_0 (X := fun F => F = f_X7_build N S x0) hG (fun v S' h => ⟨v, rfl, by rw [← h], by rw [← h]⟩) ok rfl) ⟨rfl, trivial⟩
/-! X7_utter -/
def F_X7_utter_68 (N : Nat) (x0 : Option Nat) (x1 : Option Nat) (S : cS) : cS := (f_X9_drop N S (za (cR S 6 (za (cR S 0 (za x0))))) x1)
def O_X7_utter_68 (N : Nat) (x0 : Option Nat) (x1 : Option Nat) (S : cS) : Prop := (cis S x0 6) ∧ (cis S (cR S 0 (za x0)) 9) ∧ (cis S (cR S 6 (za (cR S 0 (za x0)))) 8 ∧ o_X9_drop N S (za (cR S 6 (za (cR S 0 (za x0))))) x1) ∧ True
set_option maxRecDepth 100000 in
set_option maxHeartbeats 4000000 in
theorem b_X7_utter_68 {G : zG} {o : cO} {S : cS} {N : Nat} {Q : Option Value → cS → Prop} {X : cS → Prop} (hG : zOK G) (hR : ∀ S', X S' → Q none S') {x0 : Option Nat} {x1 : Option Nat} (ok : O_X7_utter_68 N x0 x1 S) (hx : X (F_X7_utter_68 N x0 x1 S)) : cX G o dX7_utter mX7_utter 68 [some (va_rf x0), some (va_rf x1), none] [] S Q := by
  unfold O_X7_utter_68 at ok
  unfold F_X7_utter_68 at hx
  refine c_aload_nQ dX7_utter_68 rfl rfl ?_
  refine c_getR (C := RX6) (T := TX6) (N := 19) (ci := 5) (k := 0) ⟨rfl, inT6, by decide, fX7_26⟩ (by decide) (by decide) (by decide) dX7_utter_69 ok.1 ?_
  have ok := ok.2
  refine c_getR (C := RX10) (T := TX10) (N := 12) (ci := 8) (k := 6) ⟨rfl, inT10, by decide, fX7_278⟩ (by decide) (by decide) (by decide) dX7_utter_72 ok.1 ?_
  have ok := ok.2
  refine c_aload_nQ dX7_utter_75 rfl rfl ?_
  refine c_V1vE (ci := 7) (rr := (RX9, TX9, 13)) (y' := mX9_drop) dX7_utter_76 lX7_282 kX9_drop ⟨by decide, by decide⟩ rfl rfl (by decide) ok.1.1 (Nat.le_of_ble_eq_true rfl) (cc_X9_drop hG ok.1.2) ?_
  have ok := ok.2
  exact c_return rfl dX7_utter_79 (hR _ hx)
def F_X7_utter_61 (N : Nat) (x0 : Option Nat) (x1 : Option Nat) (S : cS) : cS := (F_X7_utter_68 N x0 x1 S)
def O_X7_utter_61 (N : Nat) (x0 : Option Nat) (x1 : Option Nat) (S : cS) : Prop := O_X7_utter_68 N x0 x1 S
set_option maxRecDepth 100000 in
set_option maxHeartbeats 4000000 in
theorem b_X7_utter_61 {G : zG} {o : cO} {S : cS} {N : Nat} {Q : Option Value → cS → Prop} {X : cS → Prop} (hG : zOK G) (hR : ∀ S', X S' → Q none S') {x0 : Option Nat} {x1 : Option Nat} (ok : O_X7_utter_61 N x0 x1 S) (hx : X (F_X7_utter_61 N x0 x1 S)) : cX G o dX7_utter mX7_utter 61 [some (va_rf x0), some (va_rf x1), none] [] S Q := by
  unfold O_X7_utter_61 at ok
  unfold F_X7_utter_61 at hx
  refine c_goto (tgt := 68) dX7_utter_61 (by decide) ?_
  exact cX.cutz (b_X7_utter_68 hG hR ok hx) ⟨rfl, rfl, trivial⟩
def F_X7_utter_41 (N : Nat) (x0 : Option Nat) (x1 : Option Nat) (S : cS) : cS := (F_X7_utter_61 N x0 x1 (f_X10_spread N S (za (cR S 0 (za x0))) (cI S 1 (za x0)) x1 (cI S 1 (za x0)) (cI S 1 (za x0))))
def O_X7_utter_41 (N : Nat) (x0 : Option Nat) (x1 : Option Nat) (S : cS) : Prop := (cis S x0 6) ∧ (cis S x0 6) ∧ (cis S x0 6) ∧ (cis S x0 6) ∧ (cis S (cR S 0 (za x0)) 9 ∧ o_X10_spread N S (za (cR S 0 (za x0))) (cI S 1 (za x0)) x1 (cI S 1 (za x0)) (cI S 1 (za x0))) ∧ O_X7_utter_61 N x0 x1 (f_X10_spread N S (za (cR S 0 (za x0))) (cI S 1 (za x0)) x1 (cI S 1 (za x0)) (cI S 1 (za x0)))
set_option maxRecDepth 100000 in
set_option maxHeartbeats 4000000 in
theorem b_X7_utter_41 {G : zG} {o : cO} {S : cS} {N : Nat} {Q : Option Value → cS → Prop} {X : cS → Prop} (hG : zOK G) (hR : ∀ S', X S' → Q none S') {x0 : Option Nat} {x1 : Option Nat} (ok : O_X7_utter_41 N x0 x1 S) (hx : X (F_X7_utter_41 N x0 x1 S)) : cX G o dX7_utter mX7_utter 41 [some (va_rf x0), some (va_rf x1), none] [] S Q := by
  unfold O_X7_utter_41 at ok
  unfold F_X7_utter_41 at hx
  refine c_aload_nQ dX7_utter_41 rfl rfl ?_
  refine c_getR (C := RX6) (T := TX6) (N := 19) (ci := 5) (k := 0) ⟨rfl, inT6, by decide, fX7_26⟩ (by decide) (by decide) (by decide) dX7_utter_42 ok.1 ?_
  have ok := ok.2
  refine c_aload_nQ dX7_utter_45 rfl rfl ?_
  refine c_getI (C := RX6) (T := TX6) (N := 19) (ci := 5) (k := 1) ⟨rfl, inT6, by decide, fX7_271⟩ (by decide) (by decide) (by decide) dX7_utter_46 ok.1 ?_
  have ok := ok.2
  refine c_aload_nQ dX7_utter_49 rfl rfl ?_
  refine c_aload_nQ dX7_utter_50 rfl rfl ?_
  refine c_getI (C := RX6) (T := TX6) (N := 19) (ci := 5) (k := 1) ⟨rfl, inT6, by decide, fX7_271⟩ (by decide) (by decide) (by decide) dX7_utter_51 ok.1 ?_
  have ok := ok.2
  refine c_aload_nQ dX7_utter_54 rfl rfl ?_
  refine c_getI (C := RX6) (T := TX6) (N := 19) (ci := 5) (k := 1) ⟨rfl, inT6, by decide, fX7_271⟩ (by decide) (by decide) (by decide) dX7_utter_55 ok.1 ?_
  have ok := ok.2
  refine c_V4vE (ci := 8) (rr := (RX10, TX10, 12)) (y' := mX10_spread) dX7_utter_58 lX7_274 kX10_spread ⟨by decide, by decide⟩ rfl rfl (by decide) ok.1.1 (Nat.le_of_ble_eq_true rfl) (cc_X10_spread hG ok.1.2) ?_
  have ok := ok.2
  exact cX.cutz (b_X7_utter_61 hG hR ok hx) ⟨rfl, rfl, trivial⟩
def F_X7_utter_33 (N : Nat) (x0 : Option Nat) (x1 : Option Nat) (S : cS) : cS := (F_X7_utter_41 N x0 x1 (f_X8_hold N S (za (cR S 3 (za x0))) x1))
def O_X7_utter_33 (N : Nat) (x0 : Option Nat) (x1 : Option Nat) (S : cS) : Prop := (cis S x0 6) ∧ (cis S (cR S 3 (za x0)) 7 ∧ o_X8_hold N S (za (cR S 3 (za x0))) x1) ∧ O_X7_utter_41 N x0 x1 (f_X8_hold N S (za (cR S 3 (za x0))) x1)
set_option maxRecDepth 100000 in
set_option maxHeartbeats 4000000 in
theorem b_X7_utter_33 {G : zG} {o : cO} {S : cS} {N : Nat} {Q : Option Value → cS → Prop} {X : cS → Prop} (hG : zOK G) (hR : ∀ S', X S' → Q none S') {x0 : Option Nat} {x1 : Option Nat} (ok : O_X7_utter_33 N x0 x1 S) (hx : X (F_X7_utter_33 N x0 x1 S)) : cX G o dX7_utter mX7_utter 33 [some (va_rf x0), some (va_rf x1), none] [] S Q := by
  unfold O_X7_utter_33 at ok
  unfold F_X7_utter_33 at hx
  refine c_aload_nQ dX7_utter_33 rfl rfl ?_
  refine c_getR (C := RX6) (T := TX6) (N := 19) (ci := 5) (k := 3) ⟨rfl, inT6, by decide, fX7_80⟩ (by decide) (by decide) (by decide) dX7_utter_34 ok.1 ?_
  have ok := ok.2
  refine c_aload_nQ dX7_utter_37 rfl rfl ?_
  refine c_V1vE (ci := 6) (rr := (RX8, TX8, 14)) (y' := mX8_hold) dX7_utter_38 lX7_267 kX8_hold ⟨by decide, by decide⟩ rfl rfl (by decide) ok.1.1 (Nat.le_of_ble_eq_true rfl) (cc_X8_hold hG ok.1.2) ?_
  have ok := ok.2
  exact cX.cutz (b_X7_utter_41 hG hR ok hx) ⟨rfl, rfl, trivial⟩
def F_X7_utter_15 (N : Nat) (x0 : Option Nat) (x1 : Option Nat) (x2 : Int32) (s0 : Int32) (S : cS) : cS := (if s0 = 0 then (F_X7_utter_68 N x0 x1 (f_X6_fall N S (za x0))) else (F_X7_utter_33 N x0 x1 (csI (csI S 17 (za x0) ((cI S 17 (za x0)) + (nI 1))) 11 (za x0) x2)))
def O_X7_utter_15 (N : Nat) (x0 : Option Nat) (x1 : Option Nat) (x2 : Int32) (s0 : Int32) (S : cS) : Prop := ((s0 = 0 → (cis S x0 6 ∧ o_X6_fall N S (za x0)) ∧ O_X7_utter_68 N x0 x1 (f_X6_fall N S (za x0))) ∧ (¬ s0 = 0 → (cis S x0 6) ∧ (cis S x0 6) ∧ (cis (csI S 17 (za x0) ((cI S 17 (za x0)) + (nI 1))) x0 6) ∧ O_X7_utter_33 N x0 x1 (csI (csI S 17 (za x0) ((cI S 17 (za x0)) + (nI 1))) 11 (za x0) x2)))
set_option maxRecDepth 100000 in
set_option maxHeartbeats 4000000 in
theorem b_X7_utter_15 {G : zG} {o : cO} {S : cS} {N : Nat} {Q : Option Value → cS → Prop} {X : cS → Prop} (hG : zOK G) (hR : ∀ S', X S' → Q none S') {x0 : Option Nat} {x1 : Option Nat} {x2 : Int32} {s0 : Int32} (ok : O_X7_utter_15 N x0 x1 x2 s0 S) (hx : X (F_X7_utter_15 N x0 x1 x2 s0 S)) : cX G o dX7_utter mX7_utter 15 [some (va_rf x0), some (va_rf x1), some (.int x2)] [.int s0] S Q := by
  unfold O_X7_utter_15 at ok
  unfold F_X7_utter_15 at hx
  refine c_if_eq (tgt := 64) dX7_utter_15 (by decide) (fun c_15 => ?_) (fun c_15 => ?_)
  · have ok := ok.1 c_15
    have hx := xif_p c_15 hx
    refine c_aload_nQ dX7_utter_64 rfl rfl ?_
    refine c_V0vE (ci := 5) (rr := (RX6, TX6, 19)) (y' := mX6_fall) dX7_utter_65 lX7_120 kX6_fall ⟨by decide, by decide⟩ rfl rfl (by decide) ok.1.1 (Nat.le_of_ble_eq_true rfl) (cc_X6_fall hG ok.1.2) ?_
    have ok := ok.2
    exact cX.cutz (b_X7_utter_68 hG hR ok hx) ⟨rfl, rfl, trivial⟩
  · have ok := ok.2 c_15
    have hx := xif_n c_15 hx
    refine c_aload_nQ dX7_utter_18 rfl rfl ?_
    refine c_dup dX7_utter_19 (zcat_rf _) ?_
    refine c_getI (C := RX6) (T := TX6) (N := 19) (ci := 5) (k := 17) ⟨rfl, inT6, by decide, fX7_264⟩ (by decide) (by decide) (by decide) dX7_utter_20 ok.1 ?_
    have ok := ok.2
    refine c_iconst (v := nI 1) dX7_utter_23 (by decide) ?_
    refine c_iadd dX7_utter_24 ?_
    refine c_putI (C := RX6) (T := TX6) (N := 19) (ci := 5) (k := 17) ⟨rfl, inT6, by decide, fX7_264⟩ ftT6 rfl (by decide) (by decide) (by decide) rfl rfl dX7_utter_25 ok.1 ?_
    have ok := ok.2
    refine c_aload_nQ dX7_utter_28 rfl rfl ?_
    refine c_iload_n dX7_utter_29 rfl rfl ?_
    refine c_putI (C := RX6) (T := TX6) (N := 19) (ci := 5) (k := 11) ⟨rfl, inT6, by decide, fX7_220⟩ ftT6 rfl (by decide) (by decide) (by decide) rfl rfl dX7_utter_30 ok.1 ?_
    have ok := ok.2
    exact cX.cutz (b_X7_utter_33 hG hR ok hx) ⟨rfl, rfl, trivial⟩
def F_X7_utter_0 (N : Nat) (x0 : Option Nat) (x1 : Option Nat) (x2 : Int32) (S : cS) : cS := (F_X7_utter_15 N x0 x1 x2 ((f_X4_jot N S (za (cR S 2 (za x0))) (nI 3) (cI S 9 (za x0)) x2 x1 (nI 0)).1) (f_X4_jot N S (za (cR S 2 (za x0))) (nI 3) (cI S 9 (za x0)) x2 x1 (nI 0)).2)
def O_X7_utter_0 (N : Nat) (x0 : Option Nat) (x1 : Option Nat) (x2 : Int32) (S : cS) : Prop := (cis S x0 6) ∧ (cis S x0 6) ∧ (cis S (cR S 2 (za x0)) 4 ∧ o_X4_jot N S (za (cR S 2 (za x0))) (nI 3) (cI S 9 (za x0)) x2 x1 (nI 0)) ∧ O_X7_utter_15 N x0 x1 x2 ((f_X4_jot N S (za (cR S 2 (za x0))) (nI 3) (cI S 9 (za x0)) x2 x1 (nI 0)).1) (f_X4_jot N S (za (cR S 2 (za x0))) (nI 3) (cI S 9 (za x0)) x2 x1 (nI 0)).2
set_option maxRecDepth 100000 in
set_option maxHeartbeats 4000000 in
theorem b_X7_utter_0 {G : zG} {o : cO} {S : cS} {N : Nat} {Q : Option Value → cS → Prop} {X : cS → Prop} (hG : zOK G) (hR : ∀ S', X S' → Q none S') {x0 : Option Nat} {x1 : Option Nat} {x2 : Int32} (ok : O_X7_utter_0 N x0 x1 x2 S) (hx : X (F_X7_utter_0 N x0 x1 x2 S)) : cX G o dX7_utter mX7_utter 0 [some (va_rf x0), some (va_rf x1), some (.int x2)] [] S Q := by
  unfold O_X7_utter_0 at ok
  unfold F_X7_utter_0 at hx
  refine c_aload_nQ dX7_utter_0 rfl rfl ?_
  refine c_getR (C := RX6) (T := TX6) (N := 19) (ci := 5) (k := 2) ⟨rfl, inT6, by decide, fX7_110⟩ (by decide) (by decide) (by decide) dX7_utter_1 ok.1 ?_
  have ok := ok.2
  refine c_iconst (v := nI 3) dX7_utter_4 (by decide) ?_
  refine c_aload_nQ dX7_utter_5 rfl rfl ?_
  refine c_getI (C := RX6) (T := TX6) (N := 19) (ci := 5) (k := 9) ⟨rfl, inT6, by decide, fX7_18⟩ (by decide) (by decide) (by decide) dX7_utter_6 ok.1 ?_
  have ok := ok.2
  refine c_iload_n dX7_utter_9 rfl rfl ?_
  refine c_aload_nQ dX7_utter_10 rfl rfl ?_
  refine c_iconst (v := nI 0) dX7_utter_11 (by decide) ?_
  refine c_V5iE (ci := 3) (rr := (RX4, TX4, 10)) (y' := mX4_jot) dX7_utter_12 lX7_243 kX4_jot ⟨by decide, by decide⟩ rfl rfl (by decide) ok.1.1 (Nat.le_of_ble_eq_true rfl) (cc_X4_jot hG ok.1.2) ?_
  have ok := ok.2
  exact cX.cutz (b_X7_utter_15 hG hR ok hx) ⟨rfl, rfl, rfl, trivial⟩
def f_X7_utter (N : Nat) (S : cS) (x0 : Option Nat) (x1 : Option Nat) (x2 : Int32) : cS := F_X7_utter_0 N x0 x1 x2 S
def o_X7_utter (N : Nat) (S : cS) (x0 : Option Nat) (x1 : Option Nat) (x2 : Int32) : Prop := O_X7_utter_0 N x0 x1 x2 S
set_option maxRecDepth 100000 in
set_option maxHeartbeats 4000000 in
theorem cc_X7_utter {G : zG} {o : cO} {S : cS} {N : Nat} (hG : zOK G) {x0 : Option Nat} {x1 : Option Nat} {x2 : Int32} (ok : o_X7_utter N S x0 x1 x2) : cCv G o dX7_utter mX7_utter [va_rf x0, va_rf x1, .int x2] S (fun S' => S' = f_X7_utter N S x0 x1 x2) := by
  refine cC.ofX rfl (by cases x0 <;> cases x1 <;> exact Nat.le_of_ble_eq_true rfl) ?_
  rw [show zargs mX7_utter.2.2.1 [va_rf x0, va_rf x1, .int x2] = [some (va_rf x0), some (va_rf x1), some (.int x2)] from by cases x0 <;> cases x1 <;> rfl]
  exact cX.cutz (b_X7_utter_0 (X := fun F => F = f_X7_utter N S x0 x1 x2) hG (fun S' h => ⟨rfl, h⟩) ok rfl) ⟨rfl, rfl, rfl, trivial⟩
/-! X7_begin -/
def F_X7_begin_106 (N : Nat)  (S : cS) : cS := S
def O_X7_begin_106 (N : Nat)  (S : cS) : Prop := True
set_option maxRecDepth 100000 in
set_option maxHeartbeats 4000000 in
theorem b_X7_begin_106 {G : zG} {o : cO} {S : cS} {N : Nat} {Q : Option Value → cS → Prop} {X : cS → Prop} (hG : zOK G) (hR : ∀ S', X S' → Q none S') (ok : O_X7_begin_106 N S) (hx : X (F_X7_begin_106 N S)) : cX G o dX7_begin mX7_begin 106 [none, none, none] [] S Q := by
  unfold O_X7_begin_106 at ok
  unfold F_X7_begin_106 at hx
  exact c_return rfl dX7_begin_106 (hR _ hx)
def F_X7_begin_102 (N : Nat) (s0 : Option Nat) (s1 : Option Nat) (S : cS) : cS := (F_X7_begin_106 N (f_X7_utter N S s0 s1 (nI 0)))
def O_X7_begin_102 (N : Nat) (s0 : Option Nat) (s1 : Option Nat) (S : cS) : Prop := (o_X7_utter N S s0 s1 (nI 0)) ∧ O_X7_begin_106 N (f_X7_utter N S s0 s1 (nI 0))
set_option maxRecDepth 100000 in
set_option maxHeartbeats 4000000 in
theorem b_X7_begin_102 {G : zG} {o : cO} {S : cS} {N : Nat} {Q : Option Value → cS → Prop} {X : cS → Prop} (hG : zOK G) (hR : ∀ S', X S' → Q none S') {s0 : Option Nat} {s1 : Option Nat} (ok : O_X7_begin_102 N s0 s1 S) (hx : X (F_X7_begin_102 N s0 s1 S)) : cX G o dX7_begin mX7_begin 102 [none, none, none] [va_rf s1, va_rf s0] S Q := by
  unfold O_X7_begin_102 at ok
  unfold F_X7_begin_102 at hx
  refine c_iconst (v := nI 0) dX7_begin_102 (by decide) ?_
  refine c_S3vE (y' := mX7_utter) dX7_begin_103 lX7_234 kX7_utter ⟨by decide, by decide⟩ (Nat.le_of_ble_eq_true rfl) (cc_X7_utter hG ok.1) ?_
  have ok := ok.2
  exact cX.cutz (b_X7_begin_106 hG hR ok hx) trivial
def F_X7_begin_95 (N : Nat) (s0 : Option Nat) (s1 : Option Nat) (S : cS) : cS := (F_X7_begin_102 N s0 s1 S)
def O_X7_begin_95 (N : Nat) (s0 : Option Nat) (s1 : Option Nat) (S : cS) : Prop := O_X7_begin_102 N s0 s1 S
set_option maxRecDepth 100000 in
set_option maxHeartbeats 4000000 in
theorem b_X7_begin_95 {G : zG} {o : cO} {S : cS} {N : Nat} {Q : Option Value → cS → Prop} {X : cS → Prop} (hG : zOK G) (hR : ∀ S', X S' → Q none S') {s0 : Option Nat} {s1 : Option Nat} (ok : O_X7_begin_95 N s0 s1 S) (hx : X (F_X7_begin_95 N s0 s1 S)) : cX G o dX7_begin mX7_begin 95 [none, none, none] [va_rf s1, va_rf s0] S Q := by
  unfold O_X7_begin_95 at ok
  unfold F_X7_begin_95 at hx
  refine c_goto (tgt := 102) dX7_begin_95 (by decide) ?_
  exact cX.cutz (b_X7_begin_102 hG hR ok hx) trivial
def F_X7_begin_61 (N : Nat) (x0 : Option Nat) (x1 : Int32) (S : cS) : cS := (if (f_X10_proposer N S (za (cR S 0 (za x0))) (cI S 9 (za x0)) x1) = (cI S 1 (za x0)) then (if (cR S 15 (za x0)) = none then (F_X7_begin_102 N x0 ((f_X7_build N S x0).1) (f_X7_build N S x0).2) else (F_X7_begin_95 N x0 ((f_X7_again N S x0 (cR S 15 (za x0))).1) (f_X7_again N S x0 (cR S 15 (za x0))).2)) else (F_X7_begin_106 N S))
def O_X7_begin_61 (N : Nat) (x0 : Option Nat) (x1 : Int32) (S : cS) : Prop := (cis S x0 6) ∧ (cis S x0 6) ∧ (cis S (cR S 0 (za x0)) 9 ∧ o_X10_proposer N S (za (cR S 0 (za x0))) (cI S 9 (za x0)) x1) ∧ (cis S x0 6) ∧ (((f_X10_proposer N S (za (cR S 0 (za x0))) (cI S 9 (za x0)) x1) = (cI S 1 (za x0)) → (cis S x0 6) ∧ (((cR S 15 (za x0)) = none → (o_X7_build N S x0) ∧ O_X7_begin_102 N x0 ((f_X7_build N S x0).1) (f_X7_build N S x0).2) ∧ (¬ (cR S 15 (za x0)) = none → (o_X7_again N S x0 (cR S 15 (za x0))) ∧ O_X7_begin_95 N x0 ((f_X7_again N S x0 (cR S 15 (za x0))).1) (f_X7_again N S x0 (cR S 15 (za x0))).2))) ∧ (¬ (f_X10_proposer N S (za (cR S 0 (za x0))) (cI S 9 (za x0)) x1) = (cI S 1 (za x0)) → O_X7_begin_106 N S))
set_option maxRecDepth 100000 in
set_option maxHeartbeats 4000000 in
theorem b_X7_begin_61 {G : zG} {o : cO} {S : cS} {N : Nat} {Q : Option Value → cS → Prop} {X : cS → Prop} (hG : zOK G) (hR : ∀ S', X S' → Q none S') {x0 : Option Nat} {x1 : Int32} (ok : O_X7_begin_61 N x0 x1 S) (hx : X (F_X7_begin_61 N x0 x1 S)) : cX G o dX7_begin mX7_begin 61 [some (va_rf x0), some (.int x1), none] [] S Q := by
  unfold O_X7_begin_61 at ok
  unfold F_X7_begin_61 at hx
  refine c_aload_nQ dX7_begin_61 rfl rfl ?_
  refine c_getR (C := RX6) (T := TX6) (N := 19) (ci := 5) (k := 0) ⟨rfl, inT6, by decide, fX7_26⟩ (by decide) (by decide) (by decide) dX7_begin_62 ok.1 ?_
  have ok := ok.2
  refine c_aload_nQ dX7_begin_65 rfl rfl ?_
  refine c_getI (C := RX6) (T := TX6) (N := 19) (ci := 5) (k := 9) ⟨rfl, inT6, by decide, fX7_18⟩ (by decide) (by decide) (by decide) dX7_begin_66 ok.1 ?_
  have ok := ok.2
  refine c_iload_n dX7_begin_69 rfl rfl ?_
  refine c_V2iE (ci := 8) (rr := (RX10, TX10, 12)) (y' := mX10_proposer) dX7_begin_70 lX7_296 kX10_proposer ⟨by decide, by decide⟩ rfl rfl (by decide) ok.1.1 (Nat.le_of_ble_eq_true rfl) (cc_X10_proposer hG ok.1.2) ?_
  have ok := ok.2
  refine c_aload_nQ dX7_begin_73 rfl rfl ?_
  refine c_getI (C := RX6) (T := TX6) (N := 19) (ci := 5) (k := 1) ⟨rfl, inT6, by decide, fX7_271⟩ (by decide) (by decide) (by decide) dX7_begin_74 ok.1 ?_
  have ok := ok.2
  refine c_icmp_ne (tgt := 106) dX7_begin_77 (by decide) (fun c_77 => ?_) (fun c_77 => ?_)
  · have ok := ok.2 c_77
    have hx := xif_n c_77 hx
    exact cX.cutz (b_X7_begin_106 hG hR ok hx) trivial
  · have ok := ok.1 c_77
    have hx := xif_p c_77 hx
    refine c_aload_nQ dX7_begin_80 rfl rfl ?_
    refine c_getR (C := RX6) (T := TX6) (N := 19) (ci := 5) (k := 15) ⟨rfl, inT6, by decide, fX7_299⟩ (by decide) (by decide) (by decide) dX7_begin_81 ok.1 ?_
    have ok := ok.2
    refine c_astore_2Q dX7_begin_84 (by decide) rfl ?_
    refine c_aload_nQ dX7_begin_85 rfl rfl ?_
    refine c_aload_nQ dX7_begin_86 rfl rfl ?_
    refine c_ifnullI (tgt := 98) dX7_begin_87 (by decide) (fun c_87 => ?_) (fun c_87 => ?_)
    · have ok := ok.1 c_87
      have hx := xif_p c_87 hx
      refine c_aload_nQ dX7_begin_98 rfl rfl ?_
      refine c_S1qE (y' := mX7_build) dX7_begin_99 lX7_306 kX7_build ⟨by decide, by decide⟩ (by simp only [List.map_cons, List.map_nil, List.sum_cons, List.sum_nil, zcat_rf, zcat_i, zcat_l, zcat_r] <;> decide) (cc_X7_build hG ok.1) ?_
      have ok := ok.2
      exact cX.cutz (b_X7_begin_102 hG hR ok hx) trivial
    · have ok := ok.2 c_87
      have hx := xif_n c_87 hx
      refine c_aload_nQ dX7_begin_90 rfl rfl ?_
      refine c_aload_nQ dX7_begin_91 rfl rfl ?_
      refine c_S2qE (y' := mX7_again) dX7_begin_92 lX7_302 kX7_again ⟨by decide, by decide⟩ (by simp only [List.map_cons, List.map_nil, List.sum_cons, List.sum_nil, zcat_rf, zcat_i, zcat_l, zcat_r] <;> decide) (cc_X7_again hG ok.1) ?_
      have ok := ok.2
      exact cX.cutz (b_X7_begin_95 hG hR ok hx) trivial
def F_X7_begin_56 (N : Nat) (x0 : Option Nat) (x1 : Int32) (S : cS) : cS := (F_X7_begin_61 N x0 x1 (f_X6_setTimer N S (za x0) (nI 0)))
def O_X7_begin_56 (N : Nat) (x0 : Option Nat) (x1 : Int32) (S : cS) : Prop := (cis S x0 6 ∧ o_X6_setTimer N S (za x0) (nI 0)) ∧ O_X7_begin_61 N x0 x1 (f_X6_setTimer N S (za x0) (nI 0))
set_option maxRecDepth 100000 in
set_option maxHeartbeats 4000000 in
theorem b_X7_begin_56 {G : zG} {o : cO} {S : cS} {N : Nat} {Q : Option Value → cS → Prop} {X : cS → Prop} (hG : zOK G) (hR : ∀ S', X S' → Q none S') {x0 : Option Nat} {x1 : Int32} (ok : O_X7_begin_56 N x0 x1 S) (hx : X (F_X7_begin_56 N x0 x1 S)) : cX G o dX7_begin mX7_begin 56 [some (va_rf x0), some (.int x1), none] [] S Q := by
  unfold O_X7_begin_56 at ok
  unfold F_X7_begin_56 at hx
  refine c_aload_nQ dX7_begin_56 rfl rfl ?_
  refine c_iconst (v := nI 0) dX7_begin_57 (by decide) ?_
  refine c_V1vE (ci := 5) (rr := (RX6, TX6, 19)) (y' := mX6_setTimer) dX7_begin_58 lX7_261 kX6_setTimer ⟨by decide, by decide⟩ rfl rfl (by decide) ok.1.1 (Nat.le_of_ble_eq_true rfl) (cc_X6_setTimer hG ok.1.2) ?_
  have ok := ok.2
  exact cX.cutz (b_X7_begin_61 hG hR ok hx) ⟨rfl, rfl, trivial⟩
def F_X7_begin_43 (N : Nat) (x0 : Option Nat) (x1 : Int32) (S : cS) : cS := (F_X7_begin_56 N x0 x1 (f_J7_fill_53178 N (csI S 16 (za x0) (nI 0)) (cR (csI S 16 (za x0) (nI 0)) 6 (za x0)) (nI 0)))
def O_X7_begin_43 (N : Nat) (x0 : Option Nat) (x1 : Int32) (S : cS) : Prop := (cis S x0 6) ∧ (cis (csI S 16 (za x0) (nI 0)) x0 6) ∧ (o_J7_fill_53178 N (csI S 16 (za x0) (nI 0)) (cR (csI S 16 (za x0) (nI 0)) 6 (za x0)) (nI 0)) ∧ O_X7_begin_56 N x0 x1 (f_J7_fill_53178 N (csI S 16 (za x0) (nI 0)) (cR (csI S 16 (za x0) (nI 0)) 6 (za x0)) (nI 0))
set_option maxRecDepth 100000 in
set_option maxHeartbeats 4000000 in
theorem b_X7_begin_43 {G : zG} {o : cO} {S : cS} {N : Nat} {Q : Option Value → cS → Prop} {X : cS → Prop} (hG : zOK G) (hR : ∀ S', X S' → Q none S') {x0 : Option Nat} {x1 : Int32} (ok : O_X7_begin_43 N x0 x1 S) (hx : X (F_X7_begin_43 N x0 x1 S)) : cX G o dX7_begin mX7_begin 43 [some (va_rf x0), some (.int x1), none] [] S Q := by
  unfold O_X7_begin_43 at ok
  unfold F_X7_begin_43 at hx
  refine c_aload_nQ dX7_begin_43 rfl rfl ?_
  refine c_iconst (v := nI 0) dX7_begin_44 (by decide) ?_
  refine c_putI (C := RX6) (T := TX6) (N := 19) (ci := 5) (k := 16) ⟨rfl, inT6, by decide, fX7_240⟩ ftT6 rfl (by decide) (by decide) (by decide) rfl rfl dX7_begin_45 ok.1 ?_
  have ok := ok.2
  refine c_aload_nQ dX7_begin_48 rfl rfl ?_
  refine c_getR (C := RX6) (T := TX6) (N := 19) (ci := 5) (k := 6) ⟨rfl, inT6, by decide, fX7_287⟩ (by decide) (by decide) (by decide) dX7_begin_49 ok.1 ?_
  have ok := ok.2
  refine c_iconst (v := nI 0) dX7_begin_52 (by decide) ?_
  refine c_S2vE (y' := mJ7_fill_53178) dX7_begin_53 lX7_290 kJ7_fill_53178 ⟨by decide, by decide⟩ (Nat.le_of_ble_eq_true rfl) (cc_J7_fill_53178 hG ok.1) ?_
  have ok := ok.2
  exact cX.cutz (b_X7_begin_56 hG hR ok hx) ⟨rfl, rfl, trivial⟩
def F_X7_begin_25 (N : Nat) (x0 : Option Nat) (x1 : Int32) (s0 : Int32) (S : cS) : cS := (if s0 = 0 then (f_X6_fall N S (za x0)) else (F_X7_begin_43 N x0 x1 (csI (csI S 10 (za x0) x1) 11 (za x0) (nI 0))))
def O_X7_begin_25 (N : Nat) (x0 : Option Nat) (x1 : Int32) (s0 : Int32) (S : cS) : Prop := ((s0 = 0 → (cis S x0 6 ∧ o_X6_fall N S (za x0)) ∧ True) ∧ (¬ s0 = 0 → (cis S x0 6) ∧ (cis (csI S 10 (za x0) x1) x0 6) ∧ O_X7_begin_43 N x0 x1 (csI (csI S 10 (za x0) x1) 11 (za x0) (nI 0))))
set_option maxRecDepth 100000 in
set_option maxHeartbeats 4000000 in
theorem b_X7_begin_25 {G : zG} {o : cO} {S : cS} {N : Nat} {Q : Option Value → cS → Prop} {X : cS → Prop} (hG : zOK G) (hR : ∀ S', X S' → Q none S') {x0 : Option Nat} {x1 : Int32} {s0 : Int32} (ok : O_X7_begin_25 N x0 x1 s0 S) (hx : X (F_X7_begin_25 N x0 x1 s0 S)) : cX G o dX7_begin mX7_begin 25 [some (va_rf x0), some (.int x1), none] [.int s0] S Q := by
  unfold O_X7_begin_25 at ok
  unfold F_X7_begin_25 at hx
  refine c_if_ne (tgt := 33) dX7_begin_25 (by decide) (fun c_25 => ?_) (fun c_25 => ?_)
  · have ok := ok.2 c_25
    have hx := xif_n c_25 hx
    refine c_aload_nQ dX7_begin_33 rfl rfl ?_
    refine c_iload_n dX7_begin_34 rfl rfl ?_
    refine c_putI (C := RX6) (T := TX6) (N := 19) (ci := 5) (k := 10) ⟨rfl, inT6, by decide, fX7_213⟩ ftT6 rfl (by decide) (by decide) (by decide) rfl rfl dX7_begin_35 ok.1 ?_
    have ok := ok.2
    refine c_aload_nQ dX7_begin_38 rfl rfl ?_
    refine c_iconst (v := nI 0) dX7_begin_39 (by decide) ?_
    refine c_putI (C := RX6) (T := TX6) (N := 19) (ci := 5) (k := 11) ⟨rfl, inT6, by decide, fX7_220⟩ ftT6 rfl (by decide) (by decide) (by decide) rfl rfl dX7_begin_40 ok.1 ?_
    have ok := ok.2
    exact cX.cutz (b_X7_begin_43 hG hR ok hx) ⟨rfl, rfl, trivial⟩
  · have ok := ok.1 c_25
    have hx := xif_p c_25 hx
    refine c_aload_nQ dX7_begin_28 rfl rfl ?_
    refine c_V0vE (ci := 5) (rr := (RX6, TX6, 19)) (y' := mX6_fall) dX7_begin_29 lX7_120 kX6_fall ⟨by decide, by decide⟩ rfl rfl (by decide) ok.1.1 (Nat.le_of_ble_eq_true rfl) (cc_X6_fall hG ok.1.2) ?_
    have ok := ok.2
    exact c_return rfl dX7_begin_32 (hR _ hx)
def F_X7_begin_0 (N : Nat) (x0 : Option Nat) (S : cS) : cS := (F_X7_begin_25 N x0 (cI S 18 (za x0)) ((f_X4_jot N (csI S 18 (za x0) (-1)) (za (cR (csI S 18 (za x0) (-1)) 2 (za x0))) (nI 2) (cI (csI S 18 (za x0) (-1)) 9 (za x0)) (cI S 18 (za x0)) (none : Option Nat) (nI 0)).1) (f_X4_jot N (csI S 18 (za x0) (-1)) (za (cR (csI S 18 (za x0) (-1)) 2 (za x0))) (nI 2) (cI (csI S 18 (za x0) (-1)) 9 (za x0)) (cI S 18 (za x0)) (none : Option Nat) (nI 0)).2)
def O_X7_begin_0 (N : Nat) (x0 : Option Nat) (S : cS) : Prop := (cis S x0 6) ∧ (cis S x0 6) ∧ (cis (csI S 18 (za x0) (-1)) x0 6) ∧ (cis (csI S 18 (za x0) (-1)) x0 6) ∧ (cis (csI S 18 (za x0) (-1)) (cR (csI S 18 (za x0) (-1)) 2 (za x0)) 4 ∧ o_X4_jot N (csI S 18 (za x0) (-1)) (za (cR (csI S 18 (za x0) (-1)) 2 (za x0))) (nI 2) (cI (csI S 18 (za x0) (-1)) 9 (za x0)) (cI S 18 (za x0)) (none : Option Nat) (nI 0)) ∧ O_X7_begin_25 N x0 (cI S 18 (za x0)) ((f_X4_jot N (csI S 18 (za x0) (-1)) (za (cR (csI S 18 (za x0) (-1)) 2 (za x0))) (nI 2) (cI (csI S 18 (za x0) (-1)) 9 (za x0)) (cI S 18 (za x0)) (none : Option Nat) (nI 0)).1) (f_X4_jot N (csI S 18 (za x0) (-1)) (za (cR (csI S 18 (za x0) (-1)) 2 (za x0))) (nI 2) (cI (csI S 18 (za x0) (-1)) 9 (za x0)) (cI S 18 (za x0)) (none : Option Nat) (nI 0)).2
set_option maxRecDepth 100000 in
set_option maxHeartbeats 4000000 in
theorem b_X7_begin_0 {G : zG} {o : cO} {S : cS} {N : Nat} {Q : Option Value → cS → Prop} {X : cS → Prop} (hG : zOK G) (hR : ∀ S', X S' → Q none S') {x0 : Option Nat} (ok : O_X7_begin_0 N x0 S) (hx : X (F_X7_begin_0 N x0 S)) : cX G o dX7_begin mX7_begin 0 [some (va_rf x0), none, none] [] S Q := by
  unfold O_X7_begin_0 at ok
  unfold F_X7_begin_0 at hx
  refine c_aload_nQ dX7_begin_0 rfl rfl ?_
  refine c_getI (C := RX6) (T := TX6) (N := 19) (ci := 5) (k := 18) ⟨rfl, inT6, by decide, fX7_45⟩ (by decide) (by decide) (by decide) dX7_begin_1 ok.1 ?_
  have ok := ok.2
  refine c_istore_1 dX7_begin_4 (by decide) (by simp [zok, zg, zcat_rf]) ?_
  refine c_aload_nQ dX7_begin_5 rfl rfl ?_
  refine c_iconst (v := -1) dX7_begin_6 (by decide) ?_
  refine c_putI (C := RX6) (T := TX6) (N := 19) (ci := 5) (k := 18) ⟨rfl, inT6, by decide, fX7_45⟩ ftT6 rfl (by decide) (by decide) (by decide) rfl rfl dX7_begin_7 ok.1 ?_
  have ok := ok.2
  refine c_aload_nQ dX7_begin_10 rfl rfl ?_
  refine c_getR (C := RX6) (T := TX6) (N := 19) (ci := 5) (k := 2) ⟨rfl, inT6, by decide, fX7_110⟩ (by decide) (by decide) (by decide) dX7_begin_11 ok.1 ?_
  have ok := ok.2
  refine c_iconst (v := nI 2) dX7_begin_14 (by decide) ?_
  refine c_aload_nQ dX7_begin_15 rfl rfl ?_
  refine c_getI (C := RX6) (T := TX6) (N := 19) (ci := 5) (k := 9) ⟨rfl, inT6, by decide, fX7_18⟩ (by decide) (by decide) (by decide) dX7_begin_16 ok.1 ?_
  have ok := ok.2
  refine c_iload_n dX7_begin_19 rfl rfl ?_
  refine c_null' dX7_begin_20 ?_
  refine c_iconst (v := nI 0) dX7_begin_21 (by decide) ?_
  refine c_V5iE (ci := 3) (rr := (RX4, TX4, 10)) (y' := mX4_jot) dX7_begin_22 lX7_243 kX4_jot ⟨by decide, by decide⟩ rfl rfl (by decide) ok.1.1 (Nat.le_of_ble_eq_true rfl) (cc_X4_jot hG ok.1.2) ?_
  have ok := ok.2
  exact cX.cutz (b_X7_begin_25 hG hR ok hx) ⟨rfl, rfl, trivial⟩
def f_X7_begin (N : Nat) (S : cS) (x0 : Option Nat) : cS := F_X7_begin_0 N x0 S
def o_X7_begin (N : Nat) (S : cS) (x0 : Option Nat) : Prop := O_X7_begin_0 N x0 S
set_option maxRecDepth 100000 in
set_option maxHeartbeats 4000000 in
theorem cc_X7_begin {G : zG} {o : cO} {S : cS} {N : Nat} (hG : zOK G) {x0 : Option Nat} (ok : o_X7_begin N S x0) : cCv G o dX7_begin mX7_begin [va_rf x0] S (fun S' => S' = f_X7_begin N S x0) := by
  refine cC.ofX rfl (by cases x0 <;> exact Nat.le_of_ble_eq_true rfl) ?_
  rw [show zargs mX7_begin.2.2.1 [va_rf x0] = [some (va_rf x0), none, none] from by cases x0 <;> rfl]
  exact cX.cutz (b_X7_begin_0 (X := fun F => F = f_X7_begin N S x0) hG (fun S' h => ⟨rfl, h⟩) ok rfl) ⟨rfl, trivial⟩
/-! X8_snapshotsLike -/
def F_X8_snapshotsLike_59 (N : Nat) (x2 : Int32) (S : cS) : Int32 := x2
def O_X8_snapshotsLike_59 (N : Nat) (x2 : Int32) (S : cS) : Prop := True
set_option maxRecDepth 100000 in
set_option maxHeartbeats 4000000 in
theorem b_X8_snapshotsLike_59 {G : zG} {o : cO} {S : cS} {N : Nat} {Q : Option Value → cS → Prop} {X : Int32 → Prop} (hG : zOK G) (hR : ∀ v, X v → Q (some (.int v)) S) {x2 : Int32} (ok : O_X8_snapshotsLike_59 N x2 S) (hx : X (F_X8_snapshotsLike_59 N x2 S)) : cX G o dX8_snapshotsLike mX8_snapshotsLike 59 [none, none, some (.int x2), none, none] [] S Q := by
  unfold O_X8_snapshotsLike_59 at ok
  unfold F_X8_snapshotsLike_59 at hx
  refine c_iload_n dX8_snapshotsLike_59 rfl rfl ?_
  exact c_ireturn rfl rfl dX8_snapshotsLike_60 (hR _ hx)
def F_X8_snapshotsLike_53 (N : Nat) (rec : Option Nat → Option Nat → Int32 → Int32 → Nat × Int32 × Unit) (x0 : Option Nat) (x1 : Option Nat) (x2 : Int32) (x3 : Int32) (S : cS) : Nat × Int32 × Unit := (rec x0 x1 x2 (x3 + nI 1))
def O_X8_snapshotsLike_53 (N : Nat) (rok : Option Nat → Option Nat → Int32 → Int32 → Prop) (x0 : Option Nat) (x1 : Option Nat) (x2 : Int32) (x3 : Int32) (S : cS) : Prop := rok x0 x1 x2 (x3 + nI 1)
set_option maxRecDepth 100000 in
set_option maxHeartbeats 4000000 in
theorem b_X8_snapshotsLike_53 {G : zG} {o : cO} {S : cS} {N : Nat} {Q : Option Value → cS → Prop} {X : Nat × Int32 × Unit → Prop} (hG : zOK G) (hX0 : ∀ (x2 : Int32) , X (0, x2, ()) → cX G o dX8_snapshotsLike mX8_snapshotsLike 59 [none, none, some (.int x2), none, none] [] S Q) {rec : Option Nat → Option Nat → Int32 → Int32 → Nat × Int32 × Unit} {rok : Option Nat → Option Nat → Int32 → Int32 → Prop} (hrec : ∀ (x0 : Option Nat) (x1 : Option Nat) (x2 : Int32) (x3 : Int32), rok x0 x1 x2 x3 → X (rec x0 x1 x2 x3) → cX G o dX8_snapshotsLike mX8_snapshotsLike 4 [some (va_rf x0), some (va_rf x1), some (.int x2), some (.int x3), none] [] S Q) {x0 : Option Nat} {x1 : Option Nat} {x2 : Int32} {x3 : Int32} (ok : O_X8_snapshotsLike_53 N rok x0 x1 x2 x3 S) (hx : X (F_X8_snapshotsLike_53 N rec x0 x1 x2 x3 S)) : cX G o dX8_snapshotsLike mX8_snapshotsLike 53 [some (va_rf x0), some (va_rf x1), some (.int x2), some (.int x3), none] [] S Q := by
  unfold O_X8_snapshotsLike_53 at ok
  unfold F_X8_snapshotsLike_53 at hx
  refine c_iinc_3 (v := (x3 + nI 1)) dX8_snapshotsLike_53 rfl (by first | rfl | (congr 1)) (by decide) rfl ?_
  refine c_goto (tgt := 4) dX8_snapshotsLike_56 (by decide) ?_
  exact cX.cutz (hrec _ _ _ _ ok hx) ⟨rfl, rfl, rfl, rfl, trivial⟩
def F_X8_snapshotsLike_50 (N : Nat) (rec : Option Nat → Option Nat → Int32 → Int32 → Nat × Int32 × Unit) (x0 : Option Nat) (x1 : Option Nat) (x2 : Int32) (x3 : Int32) (S : cS) : Nat × Int32 × Unit := (F_X8_snapshotsLike_53 N rec x0 x1 (x2 + nI 1) x3 S)
def O_X8_snapshotsLike_50 (N : Nat) (rok : Option Nat → Option Nat → Int32 → Int32 → Prop) (x0 : Option Nat) (x1 : Option Nat) (x2 : Int32) (x3 : Int32) (S : cS) : Prop := O_X8_snapshotsLike_53 N rok x0 x1 (x2 + nI 1) x3 S
set_option maxRecDepth 100000 in
set_option maxHeartbeats 4000000 in
theorem b_X8_snapshotsLike_50 {G : zG} {o : cO} {S : cS} {N : Nat} {Q : Option Value → cS → Prop} {X : Nat × Int32 × Unit → Prop} (hG : zOK G) (hX0 : ∀ (x2 : Int32) , X (0, x2, ()) → cX G o dX8_snapshotsLike mX8_snapshotsLike 59 [none, none, some (.int x2), none, none] [] S Q) {rec : Option Nat → Option Nat → Int32 → Int32 → Nat × Int32 × Unit} {rok : Option Nat → Option Nat → Int32 → Int32 → Prop} (hrec : ∀ (x0 : Option Nat) (x1 : Option Nat) (x2 : Int32) (x3 : Int32), rok x0 x1 x2 x3 → X (rec x0 x1 x2 x3) → cX G o dX8_snapshotsLike mX8_snapshotsLike 4 [some (va_rf x0), some (va_rf x1), some (.int x2), some (.int x3), none] [] S Q) {x0 : Option Nat} {x1 : Option Nat} {x2 : Int32} {x3 : Int32} (ok : O_X8_snapshotsLike_50 N rok x0 x1 x2 x3 S) (hx : X (F_X8_snapshotsLike_50 N rec x0 x1 x2 x3 S)) : cX G o dX8_snapshotsLike mX8_snapshotsLike 50 [some (va_rf x0), some (va_rf x1), some (.int x2), some (.int x3), none] [] S Q := by
  unfold O_X8_snapshotsLike_50 at ok
  unfold F_X8_snapshotsLike_50 at hx
  refine c_iinc_2 (v := (x2 + nI 1)) dX8_snapshotsLike_50 rfl (by first | rfl | (congr 1)) (by decide) (by simp [zok, zg, zcat_rf]) ?_
  exact cX.cutz (b_X8_snapshotsLike_53 hG hX0 hrec ok hx) ⟨rfl, rfl, rfl, rfl, trivial⟩
def B_X8_snapshotsLike_4 (N : Nat) (rec : Option Nat → Option Nat → Int32 → Int32 → Nat × Int32 × Unit) (x0 : Option Nat) (x1 : Option Nat) (x2 : Int32) (x3 : Int32) (S : cS) : Nat × Int32 × Unit := (if (cI S 1 (za x0)) ≤ x3 then (0, x2, ()) else (if (cP S (za (cR S 8 (za x0))) x3.toNatClampNeg) = none then (F_X8_snapshotsLike_53 N rec x0 x1 x2 x3 S) else (if (cP S (za (cR S 8 (za x0))) x3.toNatClampNeg) = x1 then (F_X8_snapshotsLike_50 N rec x0 x1 x2 x3 S) else (if (f_X11_sameBytes N S (cR S 0 (za (cP S (za (cR S 8 (za x0))) x3.toNatClampNeg))) (nI 0) (cR S 0 (za x1)) (nI 0) (nI 115)) = 0 then (F_X8_snapshotsLike_53 N rec x0 x1 x2 x3 S) else (F_X8_snapshotsLike_50 N rec x0 x1 x2 x3 S)))))
def OB_X8_snapshotsLike_4 (N : Nat) (rok : Option Nat → Option Nat → Int32 → Int32 → Prop) (x0 : Option Nat) (x1 : Option Nat) (x2 : Int32) (x3 : Int32) (S : cS) : Prop := (cis S x0 7) ∧ (((cI S 1 (za x0)) ≤ x3 → True) ∧ (¬ (cI S 1 (za x0)) ≤ x3 → (cis S x0 7) ∧ (cis S (cR S 8 (za x0)) 24 ∧ vp_in x3 (cL S (za (cR S 8 (za x0))))) ∧ (((cP S (za (cR S 8 (za x0))) x3.toNatClampNeg) = none → O_X8_snapshotsLike_53 N rok x0 x1 x2 x3 S) ∧ (¬ (cP S (za (cR S 8 (za x0))) x3.toNatClampNeg) = none → (((cP S (za (cR S 8 (za x0))) x3.toNatClampNeg) = x1 → O_X8_snapshotsLike_50 N rok x0 x1 x2 x3 S) ∧ (¬ (cP S (za (cR S 8 (za x0))) x3.toNatClampNeg) = x1 → (cis S (cP S (za (cR S 8 (za x0))) x3.toNatClampNeg) 5) ∧ (cis S x1 5) ∧ (o_X11_sameBytes N S (cR S 0 (za (cP S (za (cR S 8 (za x0))) x3.toNatClampNeg))) (nI 0) (cR S 0 (za x1)) (nI 0) (nI 115)) ∧ (((f_X11_sameBytes N S (cR S 0 (za (cP S (za (cR S 8 (za x0))) x3.toNatClampNeg))) (nI 0) (cR S 0 (za x1)) (nI 0) (nI 115)) = 0 → O_X8_snapshotsLike_53 N rok x0 x1 x2 x3 S) ∧ (¬ (f_X11_sameBytes N S (cR S 0 (za (cP S (za (cR S 8 (za x0))) x3.toNatClampNeg))) (nI 0) (cR S 0 (za x1)) (nI 0) (nI 115)) = 0 → O_X8_snapshotsLike_50 N rok x0 x1 x2 x3 S))))))))
set_option maxRecDepth 100000 in
set_option maxHeartbeats 4000000 in
theorem bb_X8_snapshotsLike_4 {G : zG} {o : cO} {S : cS} {N : Nat} {Q : Option Value → cS → Prop} {X : Nat × Int32 × Unit → Prop} (hG : zOK G) (hX0 : ∀ (x2 : Int32) , X (0, x2, ()) → cX G o dX8_snapshotsLike mX8_snapshotsLike 59 [none, none, some (.int x2), none, none] [] S Q) {rec : Option Nat → Option Nat → Int32 → Int32 → Nat × Int32 × Unit} {rok : Option Nat → Option Nat → Int32 → Int32 → Prop} (hrec : ∀ (x0 : Option Nat) (x1 : Option Nat) (x2 : Int32) (x3 : Int32), rok x0 x1 x2 x3 → X (rec x0 x1 x2 x3) → cX G o dX8_snapshotsLike mX8_snapshotsLike 4 [some (va_rf x0), some (va_rf x1), some (.int x2), some (.int x3), none] [] S Q) {x0 : Option Nat} {x1 : Option Nat} {x2 : Int32} {x3 : Int32} (ok : OB_X8_snapshotsLike_4 N rok x0 x1 x2 x3 S) (hx : X (B_X8_snapshotsLike_4 N rec x0 x1 x2 x3 S)) : cX G o dX8_snapshotsLike mX8_snapshotsLike 4 [some (va_rf x0), some (va_rf x1), some (.int x2), some (.int x3), none] [] S Q := by
  unfold OB_X8_snapshotsLike_4 at ok
  unfold B_X8_snapshotsLike_4 at hx
  refine c_iload_n dX8_snapshotsLike_4 rfl rfl ?_
  refine c_aload_nQ dX8_snapshotsLike_5 rfl rfl ?_
  refine c_getI (C := RX8) (T := TX8) (N := 14) (ci := 6) (k := 1) ⟨rfl, inT8, by decide, fX8_32⟩ (by decide) (by decide) (by decide) dX8_snapshotsLike_6 ok.1 ?_
  have ok := ok.2
  refine c_icmp_ge (tgt := 59) dX8_snapshotsLike_9 (by decide) (fun c_9 => ?_) (fun c_9 => ?_)
  · have ok := ok.1 c_9
    have hx := xif_p c_9 hx
    exact cX.cutz (hX0 _  hx) ⟨rfl, trivial⟩
  · have ok := ok.2 c_9
    have hx := xif_n c_9 hx
    refine c_aload_nQ dX8_snapshotsLike_12 rfl rfl ?_
    refine c_getR (C := RX8) (T := TX8) (N := 14) (ci := 6) (k := 8) ⟨rfl, inT8, by decide, fX8_45⟩ (by decide) (by decide) (by decide) dX8_snapshotsLike_13 ok.1 ?_
    have ok := ok.2
    refine c_iload_n dX8_snapshotsLike_16 rfl rfl ?_
    refine c_aald (t := 4) (ty := (.object "QuorumLedger$Message")) rfl rfl (by decide) dX8_snapshotsLike_17 ok.1 ?_
    have ok := ok.2
    refine c_astore_4Q dX8_snapshotsLike_18 (by decide) rfl ?_
    refine c_aloadQ dX8_snapshotsLike_20 rfl ?_
    refine c_ifnullI (tgt := 53) dX8_snapshotsLike_22 (by decide) (fun c_22 => ?_) (fun c_22 => ?_)
    · have ok := ok.1 c_22
      have hx := xif_p c_22 hx
      exact cX.cutz (b_X8_snapshotsLike_53 hG hX0 hrec ok hx) ⟨rfl, rfl, rfl, rfl, trivial⟩
    · have ok := ok.2 c_22
      have hx := xif_n c_22 hx
      refine c_aloadQ dX8_snapshotsLike_25 rfl ?_
      refine c_aload_nQ dX8_snapshotsLike_27 rfl rfl ?_
      refine c_acmp_eq (tgt := 50) dX8_snapshotsLike_28 (by decide) (fun c_28 => ?_) (fun c_28 => ?_)
      · have ok := ok.1 c_28
        have hx := xif_p c_28 hx
        exact cX.cutz (b_X8_snapshotsLike_50 hG hX0 hrec ok hx) ⟨rfl, rfl, rfl, rfl, trivial⟩
      · have ok := ok.2 c_28
        have hx := xif_n c_28 hx
        refine c_aloadQ dX8_snapshotsLike_31 rfl ?_
        refine c_getR (C := RX5) (T := TX5) (N := 7) (ci := 4) (k := 0) ⟨rfl, inT5, by decide, fX8_97⟩ (by decide) (by decide) (by decide) dX8_snapshotsLike_33 ok.1 ?_
        have ok := ok.2
        refine c_iconst (v := nI 0) dX8_snapshotsLike_36 (by decide) ?_
        refine c_aload_nQ dX8_snapshotsLike_37 rfl rfl ?_
        refine c_getR (C := RX5) (T := TX5) (N := 7) (ci := 4) (k := 0) ⟨rfl, inT5, by decide, fX8_97⟩ (by decide) (by decide) (by decide) dX8_snapshotsLike_38 ok.1 ?_
        have ok := ok.2
        refine c_iconst (v := nI 0) dX8_snapshotsLike_41 (by decide) ?_
        refine c_bipush (v := nI 115) dX8_snapshotsLike_42 (by decide) ?_
        refine c_SN5iE (y' := mX11_sameBytes) dX8_snapshotsLike_44 lX8_101 kX11_sameBytes ⟨by decide, by decide⟩ (Nat.le_of_ble_eq_true rfl) (cc_X11_sameBytes hG ok.1) ?_
        have ok := ok.2
        refine c_if_eq (tgt := 53) dX8_snapshotsLike_47 (by decide) (fun c_47 => ?_) (fun c_47 => ?_)
        · have ok := ok.1 c_47
          have hx := xif_p c_47 hx
          exact cX.cutz (b_X8_snapshotsLike_53 hG hX0 hrec ok hx) ⟨rfl, rfl, rfl, rfl, trivial⟩
        · have ok := ok.2 c_47
          have hx := xif_n c_47 hx
          exact cX.cutz (b_X8_snapshotsLike_50 hG hX0 hrec ok hx) ⟨rfl, rfl, rfl, rfl, trivial⟩
def L_X8_snapshotsLike_4 (N : Nat) : Nat → Option Nat → Option Nat → Int32 → Int32 → cS → Nat × Int32 × Unit
  | 0, x0, x1, x2, x3, S => (0, 0, ())
  | n + 1, x0, x1, x2, x3, S => B_X8_snapshotsLike_4 N (fun x0 x1 x2 x3 => L_X8_snapshotsLike_4 N n x0 x1 x2 x3 S) x0 x1 x2 x3 S
def OL_X8_snapshotsLike_4 (N : Nat) : Nat → Option Nat → Option Nat → Int32 → Int32 → cS → Prop
  | 0, _, _, _, _, _ => False
  | n + 1, x0, x1, x2, x3, S => OB_X8_snapshotsLike_4 N (fun x0 x1 x2 x3 => OL_X8_snapshotsLike_4 N n x0 x1 x2 x3 S) x0 x1 x2 x3 S
set_option maxRecDepth 100000 in
set_option maxHeartbeats 4000000 in
theorem l_X8_snapshotsLike_4 {G : zG} {o : cO} {S : cS} {N : Nat} {Q : Option Value → cS → Prop} {X : Nat × Int32 × Unit → Prop} (hG : zOK G) (hX0 : ∀ (x2 : Int32) , X (0, x2, ()) → cX G o dX8_snapshotsLike mX8_snapshotsLike 59 [none, none, some (.int x2), none, none] [] S Q) : ∀ (n : Nat) (x0 : Option Nat) (x1 : Option Nat) (x2 : Int32) (x3 : Int32) , OL_X8_snapshotsLike_4 N n x0 x1 x2 x3 S → X (L_X8_snapshotsLike_4 N n x0 x1 x2 x3 S) → cX G o dX8_snapshotsLike mX8_snapshotsLike 4 [some (va_rf x0), some (va_rf x1), some (.int x2), some (.int x3), none] [] S Q := by
  intro n
  induction n with
  | zero => intro x0 x1 x2 x3 ok; exact absurd ok id
  | succ n ih =>
    intro x0 x1 x2 x3 ok hx
    exact bb_X8_snapshotsLike_4 hG hX0 (rec := fun x0 x1 x2 x3 => L_X8_snapshotsLike_4 N n x0 x1 x2 x3 S) (rok := fun x0 x1 x2 x3 => OL_X8_snapshotsLike_4 N n x0 x1 x2 x3 S) (fun x0 x1 x2 x3 ok hx => ih x0 x1 x2 x3 ok hx) ok hx
def A_X8_snapshotsLike_4 (N : Nat) (x0 : Option Nat) (x1 : Option Nat) (x2 : Int32) (x3 : Int32) (S : cS) (z : Nat × Int32 × Unit) : Int32 := (F_X8_snapshotsLike_59 N (z.2.1) S)
def OA_X8_snapshotsLike_4 (N : Nat) (x0 : Option Nat) (x1 : Option Nat) (x2 : Int32) (x3 : Int32) (S : cS) (z : Nat × Int32 × Unit) : Prop := O_X8_snapshotsLike_59 N (z.2.1) S
set_option maxRecDepth 100000 in
set_option maxHeartbeats 4000000 in
theorem c_X8_snapshotsLike_4 {G : zG} {o : cO} {S : cS} {N : Nat} {Q : Option Value → cS → Prop} {X : Int32 → Prop} (hG : zOK G) (hR : ∀ v, X v → Q (some (.int v)) S) {x0 : Option Nat} {x1 : Option Nat} {x2 : Int32} {x3 : Int32} (ok : OL_X8_snapshotsLike_4 N N x0 x1 x2 x3 S ∧ OA_X8_snapshotsLike_4 N x0 x1 x2 x3 S (L_X8_snapshotsLike_4 N N x0 x1 x2 x3 S)) (hx : X (A_X8_snapshotsLike_4 N x0 x1 x2 x3 S (L_X8_snapshotsLike_4 N N x0 x1 x2 x3 S))) : cX G o dX8_snapshotsLike mX8_snapshotsLike 4 [some (va_rf x0), some (va_rf x1), some (.int x2), some (.int x3), none] [] S Q := by
  refine l_X8_snapshotsLike_4 hG ?_ N x0 x1 x2 x3 ok.1 (X := fun z => OA_X8_snapshotsLike_4 N x0 x1 x2 x3 S z ∧ X (A_X8_snapshotsLike_4 N x0 x1 x2 x3 S z)) ⟨ok.2, hx⟩
  · intro x2' hz
    obtain ⟨ok, hx⟩ := hz
    unfold OA_X8_snapshotsLike_4 at ok
    unfold A_X8_snapshotsLike_4 at hx
    exact cX.cutz (b_X8_snapshotsLike_59 hG hR ok hx) ⟨rfl, trivial⟩
def F_X8_snapshotsLike_0 (N : Nat) (x0 : Option Nat) (x1 : Option Nat) (S : cS) : Int32 := (A_X8_snapshotsLike_4 N x0 x1 (nI 0) (nI 0) S (L_X8_snapshotsLike_4 N N x0 x1 (nI 0) (nI 0) S))
def O_X8_snapshotsLike_0 (N : Nat) (x0 : Option Nat) (x1 : Option Nat) (S : cS) : Prop := (OL_X8_snapshotsLike_4 N N x0 x1 (nI 0) (nI 0) S ∧ OA_X8_snapshotsLike_4 N x0 x1 (nI 0) (nI 0) S (L_X8_snapshotsLike_4 N N x0 x1 (nI 0) (nI 0) S))
set_option maxRecDepth 100000 in
set_option maxHeartbeats 4000000 in
theorem b_X8_snapshotsLike_0 {G : zG} {o : cO} {S : cS} {N : Nat} {Q : Option Value → cS → Prop} {X : Int32 → Prop} (hG : zOK G) (hR : ∀ v, X v → Q (some (.int v)) S) {x0 : Option Nat} {x1 : Option Nat} (ok : O_X8_snapshotsLike_0 N x0 x1 S) (hx : X (F_X8_snapshotsLike_0 N x0 x1 S)) : cX G o dX8_snapshotsLike mX8_snapshotsLike 0 [some (va_rf x0), some (va_rf x1), none, none, none] [] S Q := by
  unfold O_X8_snapshotsLike_0 at ok
  unfold F_X8_snapshotsLike_0 at hx
  refine c_iconst (v := nI 0) dX8_snapshotsLike_0 (by decide) ?_
  refine c_istore_2 dX8_snapshotsLike_1 (by decide) (by simp [zok, zg, zcat_rf]) ?_
  refine c_iconst (v := nI 0) dX8_snapshotsLike_2 (by decide) ?_
  refine c_istore_3 dX8_snapshotsLike_3 (by decide) rfl ?_
  exact cX.cutz (c_X8_snapshotsLike_4 hG hR ok hx) ⟨rfl, rfl, rfl, rfl, trivial⟩
def f_X8_snapshotsLike (N : Nat) (S : cS) (a0 : Nat) (x1 : Option Nat) : Int32 := F_X8_snapshotsLike_0 N (some a0) x1 S
def o_X8_snapshotsLike (N : Nat) (S : cS) (a0 : Nat) (x1 : Option Nat) : Prop := O_X8_snapshotsLike_0 N (some a0) x1 S
set_option maxRecDepth 100000 in
set_option maxHeartbeats 4000000 in
theorem cc_X8_snapshotsLike {G : zG} {o : cO} {S : cS} {N : Nat} (hG : zOK G) {a0 : Nat} {x1 : Option Nat} (ok : o_X8_snapshotsLike N S a0 x1) : cCi G o dX8_snapshotsLike mX8_snapshotsLike [.ref a0, va_rf x1] S (fun v S' => v = f_X8_snapshotsLike N S a0 x1 ∧ S' = S) := by
  refine cC.ofX rfl (by cases x1 <;> exact Nat.le_of_ble_eq_true rfl) ?_
  rw [show zargs mX8_snapshotsLike.2.2.1 [.ref a0, va_rf x1] = [some (.ref a0), some (va_rf x1), none, none, none] from by cases x1 <;> rfl]
  exact cX.cutz (b_X8_snapshotsLike_0 (X := fun F => F = f_X8_snapshotsLike N S a0 x1) hG (fun v h => ⟨v, rfl, h, rfl⟩) ok rfl) ⟨rfl, rfl, trivial⟩

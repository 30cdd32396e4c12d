/-! X5_two -/
def F_X5_two_44 (N : Nat) (s0 : Int32) (S : cS) : Int32 := s0
def O_X5_two_44 (N : Nat) (s0 : Int32) (S : cS) : Prop := True
set_option maxRecDepth 100000 in
set_option maxHeartbeats 4000000 in
theorem b_X5_two_44 {G : zG} {o : cO} {S : cS} {N : Nat} {Q : Option Value → cS → Prop} {X : Int32 → Prop} (hG : zOK G) (hR : ∀ v, X v → Q (some (.int v)) S) {s0 : Int32} (ok : O_X5_two_44 N s0 S) (hx : X (F_X5_two_44 N s0 S)) : cX G o dX5_two mX5_two 44 [none, none] [.int s0] S Q := by
  unfold O_X5_two_44 at ok
  unfold F_X5_two_44 at hx
  exact c_ireturn rfl rfl dX5_two_44 (hR _ hx)
def F_X5_two_43 (N : Nat)  (S : cS) : Int32 := (F_X5_two_44 N (nI 0) S)
def O_X5_two_43 (N : Nat)  (S : cS) : Prop := O_X5_two_44 N (nI 0) S
set_option maxRecDepth 100000 in
set_option maxHeartbeats 4000000 in
theorem b_X5_two_43 {G : zG} {o : cO} {S : cS} {N : Nat} {Q : Option Value → cS → Prop} {X : Int32 → Prop} (hG : zOK G) (hR : ∀ v, X v → Q (some (.int v)) S) (ok : O_X5_two_43 N S) (hx : X (F_X5_two_43 N S)) : cX G o dX5_two mX5_two 43 [none, none] [] S Q := by
  unfold O_X5_two_43 at ok
  unfold F_X5_two_43 at hx
  refine c_iconst (v := nI 0) dX5_two_43 (by decide) ?_
  exact cX.cutz (b_X5_two_44 hG hR ok hx) trivial
def F_X5_two_0 (N : Nat) (x0 : Option Nat) (x1 : Int32) (S : cS) : Int32 := (if x1 < 0 then (F_X5_two_43 N S) else (if ((cI S 2 (za x0)) - (nI 1)) ≤ x1 then (F_X5_two_43 N S) else (F_X5_two_44 N ((((cA S (za (cR S 0 (za x0))) x1.toNatClampNeg) &&& (nI 255)) <<< ((nI 8) &&& 31)) ||| ((cA S (za (cR S 0 (za x0))) (x1 + (nI 1)).toNatClampNeg) &&& (nI 255))) S)))
def O_X5_two_0 (N : Nat) (x0 : Option Nat) (x1 : Int32) (S : cS) : Prop := ((x1 < 0 → O_X5_two_43 N S) ∧ (¬ x1 < 0 → (cis S x0 5) ∧ ((((cI S 2 (za x0)) - (nI 1)) ≤ x1 → O_X5_two_43 N S) ∧ (¬ ((cI S 2 (za x0)) - (nI 1)) ≤ x1 → (cis S x0 5) ∧ (cis S (cR S 0 (za x0)) 20 ∧ vp_in x1 (cL S (za (cR S 0 (za x0))))) ∧ (cis S x0 5) ∧ (cis S (cR S 0 (za x0)) 20 ∧ vp_in (x1 + (nI 1)) (cL S (za (cR S 0 (za x0))))) ∧ O_X5_two_44 N ((((cA S (za (cR S 0 (za x0))) x1.toNatClampNeg) &&& (nI 255)) <<< ((nI 8) &&& 31)) ||| ((cA S (za (cR S 0 (za x0))) (x1 + (nI 1)).toNatClampNeg) &&& (nI 255))) S))))
set_option maxRecDepth 100000 in
set_option maxHeartbeats 4000000 in
theorem b_X5_two_0 {G : zG} {o : cO} {S : cS} {N : Nat} {Q : Option Value → cS → Prop} {X : Int32 → Prop} (hG : zOK G) (hR : ∀ v, X v → Q (some (.int v)) S) {x0 : Option Nat} {x1 : Int32} (ok : O_X5_two_0 N x0 x1 S) (hx : X (F_X5_two_0 N x0 x1 S)) : cX G o dX5_two mX5_two 0 [some (va_rf x0), some (.int x1)] [] S Q := by
  unfold O_X5_two_0 at ok
  unfold F_X5_two_0 at hx
  refine c_iload_n dX5_two_0 rfl rfl ?_
  refine c_if_lt (tgt := 43) dX5_two_1 (by decide) (fun c_1 => ?_) (fun c_1 => ?_)
  · have ok := ok.1 c_1
    have hx := xif_p c_1 hx
    exact cX.cutz (b_X5_two_43 hG hR ok hx) trivial
  · have ok := ok.2 c_1
    have hx := xif_n c_1 hx
    refine c_iload_n dX5_two_4 rfl rfl ?_
    refine c_aload_nQ dX5_two_5 rfl rfl ?_
    refine c_getI (C := RX5) (T := TX5) (N := 7) (ci := 4) (k := 2) ⟨rfl, inT5, by decide, fX5_19⟩ (by decide) (by decide) (by decide) dX5_two_6 ok.1 ?_
    have ok := ok.2
    refine c_iconst (v := nI 1) dX5_two_9 (by decide) ?_
    refine c_isub dX5_two_10 ?_
    refine c_icmp_ge (tgt := 43) dX5_two_11 (by decide) (fun c_11 => ?_) (fun c_11 => ?_)
    · have ok := ok.1 c_11
      have hx := xif_p c_11 hx
      exact cX.cutz (b_X5_two_43 hG hR ok hx) trivial
    · have ok := ok.2 c_11
      have hx := xif_n c_11 hx
      refine c_aload_nQ dX5_two_14 rfl rfl ?_
      refine c_getR (C := RX5) (T := TX5) (N := 7) (ci := 4) (k := 0) ⟨rfl, inT5, by decide, fX5_15⟩ (by decide) (by decide) (by decide) dX5_two_15 ok.1 ?_
      have ok := ok.2
      refine c_iload_n dX5_two_18 rfl rfl ?_
      refine c_bald dX5_two_19 ok.1 ?_
      have ok := ok.2
      refine c_sipush (v := nI 255) dX5_two_20 (by decide) ?_
      refine c_iand dX5_two_23 ?_
      refine c_bipush (v := nI 8) dX5_two_24 (by decide) ?_
      refine c_ishl dX5_two_26 ?_
      refine c_aload_nQ dX5_two_27 rfl rfl ?_
      refine c_getR (C := RX5) (T := TX5) (N := 7) (ci := 4) (k := 0) ⟨rfl, inT5, by decide, fX5_15⟩ (by decide) (by decide) (by decide) dX5_two_28 ok.1 ?_
      have ok := ok.2
      refine c_iload_n dX5_two_31 rfl rfl ?_
      refine c_iconst (v := nI 1) dX5_two_32 (by decide) ?_
      refine c_iadd dX5_two_33 ?_
      refine c_bald dX5_two_34 ok.1 ?_
      have ok := ok.2
      refine c_sipush (v := nI 255) dX5_two_35 (by decide) ?_
      refine c_iand dX5_two_38 ?_
      refine c_ior dX5_two_39 ?_
      refine c_goto (tgt := 44) dX5_two_40 (by decide) ?_
      exact cX.cutz (b_X5_two_44 hG hR ok hx) trivial
def f_X5_two (N : Nat) (S : cS) (a0 : Nat) (x1 : Int32) : Int32 := F_X5_two_0 N (some a0) x1 S
def o_X5_two (N : Nat) (S : cS) (a0 : Nat) (x1 : Int32) : Prop := O_X5_two_0 N (some a0) x1 S
set_option maxRecDepth 100000 in
set_option maxHeartbeats 4000000 in
theorem cc_X5_two {G : zG} {o : cO} {S : cS} {N : Nat} (hG : zOK G) {a0 : Nat} {x1 : Int32} (ok : o_X5_two N S a0 x1) : cCi G o dX5_two mX5_two [.ref a0, .int x1] S (fun v S' => v = f_X5_two N S a0 x1 ∧ S' = S) := by
  refine cC.ofX rfl (by exact Nat.le_of_ble_eq_true rfl) ?_
  show cX G o dX5_two mX5_two 0 [some (.ref a0), some (.int x1)] [] S _
  exact cX.cutz (b_X5_two_0 (X := fun F => F = f_X5_two N S a0 x1) hG (fun v h => ⟨v, rfl, h, rfl⟩) ok rfl) ⟨rfl, rfl, trivial⟩
/-! X9_drop -/
def F_X9_drop_63 (N : Nat)  (S : cS) : cS := S
def O_X9_drop_63 (N : Nat)  (S : cS) : Prop := True
set_option maxRecDepth 100000 in
set_option maxHeartbeats 4000000 in
theorem b_X9_drop_63 {G : zG} {o : cO} {S : cS} {N : Nat} {Q : Option Value → cS → Prop} {X : cS → Prop} (hG : zOK G) (hR : ∀ S', X S' → Q none S') (ok : O_X9_drop_63 N S) (hx : X (F_X9_drop_63 N S)) : cX G o dX9_drop mX9_drop 63 [none, none] [] S Q := by
  unfold O_X9_drop_63 at ok
  unfold F_X9_drop_63 at hx
  exact c_return rfl dX9_drop_63 (hR _ hx)
def F_X9_drop_58 (N : Nat) (x0 : Option Nat) (x1 : Option Nat) (S : cS) : cS := (F_X9_drop_63 N (csR S 8 (za x0) x1))
def O_X9_drop_58 (N : Nat) (x0 : Option Nat) (x1 : Option Nat) (S : cS) : Prop := (cis S x0 8) ∧ O_X9_drop_63 N (csR S 8 (za x0) x1)
set_option maxRecDepth 100000 in
set_option maxHeartbeats 4000000 in
theorem b_X9_drop_58 {G : zG} {o : cO} {S : cS} {N : Nat} {Q : Option Value → cS → Prop} {X : cS → Prop} (hG : zOK G) (hR : ∀ S', X S' → Q none S') {x0 : Option Nat} {x1 : Option Nat} (ok : O_X9_drop_58 N x0 x1 S) (hx : X (F_X9_drop_58 N x0 x1 S)) : cX G o dX9_drop mX9_drop 58 [some (va_rf x0), some (va_rf x1)] [] S Q := by
  unfold O_X9_drop_58 at ok
  unfold F_X9_drop_58 at hx
  refine c_aload_nQ dX9_drop_58 rfl rfl ?_
  refine c_aload_nQ dX9_drop_59 rfl rfl ?_
  refine c_putR (C := RX9) (T := TX9) (N := 13) (ci := 7) (k := 8) ⟨rfl, inT9, by decide, fX9_64⟩ ftT9 rfl (by decide) (by decide) (by decide) (fun v => by cases v <;> rfl) (fun v => by cases v <;> rfl) dX9_drop_60 ok.1 ?_
  have ok := ok.2
  exact cX.cutz (b_X9_drop_63 hG hR ok hx) trivial
def F_X9_drop_42 (N : Nat) (x0 : Option Nat) (x1 : Option Nat) (S : cS) : cS := (F_X9_drop_63 N (csR S 7 (za x0) x1))
def O_X9_drop_42 (N : Nat) (x0 : Option Nat) (x1 : Option Nat) (S : cS) : Prop := (cis S x0 8) ∧ O_X9_drop_63 N (csR S 7 (za x0) x1)
set_option maxRecDepth 100000 in
set_option maxHeartbeats 4000000 in
theorem b_X9_drop_42 {G : zG} {o : cO} {S : cS} {N : Nat} {Q : Option Value → cS → Prop} {X : cS → Prop} (hG : zOK G) (hR : ∀ S', X S' → Q none S') {x0 : Option Nat} {x1 : Option Nat} (ok : O_X9_drop_42 N x0 x1 S) (hx : X (F_X9_drop_42 N x0 x1 S)) : cX G o dX9_drop mX9_drop 42 [some (va_rf x0), some (va_rf x1)] [] S Q := by
  unfold O_X9_drop_42 at ok
  unfold F_X9_drop_42 at hx
  refine c_aload_nQ dX9_drop_42 rfl rfl ?_
  refine c_aload_nQ dX9_drop_43 rfl rfl ?_
  refine c_putR (C := RX9) (T := TX9) (N := 13) (ci := 7) (k := 7) ⟨rfl, inT9, by decide, fX9_60⟩ ftT9 rfl (by decide) (by decide) (by decide) (fun v => by cases v <;> rfl) (fun v => by cases v <;> rfl) dX9_drop_44 ok.1 ?_
  have ok := ok.2
  refine c_goto (tgt := 63) dX9_drop_47 (by decide) ?_
  exact cX.cutz (b_X9_drop_63 hG hR ok hx) trivial
def F_X9_drop_0 (N : Nat) (x0 : Option Nat) (x1 : Option Nat) (S : cS) : cS := (if x1 = none then S else (if (cI (csI S 3 (za x1) ((cI S 3 (za x1)) - (nI 1))) 3 (za x1)) ≤ 0 then (if (nI (cL (csI S 3 (za x1) ((cI S 3 (za x1)) - (nI 1))) (za (cR (csI S 3 (za x1) ((cI S 3 (za x1)) - (nI 1))) 0 (za x1))))) = (nI 128) then (F_X9_drop_42 N x0 x1 (csR (csI S 3 (za x1) ((cI S 3 (za x1)) - (nI 1))) 6 (za x1) (cR (csI S 3 (za x1) ((cI S 3 (za x1)) - (nI 1))) 7 (za x0)))) else (F_X9_drop_58 N x0 x1 (csR (csI S 3 (za x1) ((cI S 3 (za x1)) - (nI 1))) 6 (za x1) (cR (csI S 3 (za x1) ((cI S 3 (za x1)) - (nI 1))) 8 (za x0))))) else (csI S 3 (za x1) ((cI S 3 (za x1)) - (nI 1)))))
def O_X9_drop_0 (N : Nat) (x0 : Option Nat) (x1 : Option Nat) (S : cS) : Prop := ((x1 = none → True) ∧ (¬ x1 = none → (cis S x1 5) ∧ (cis S x1 5) ∧ (cis (csI S 3 (za x1) ((cI S 3 (za x1)) - (nI 1))) x1 5) ∧ (((cI (csI S 3 (za x1) ((cI S 3 (za x1)) - (nI 1))) 3 (za x1)) ≤ 0 → (cis (csI S 3 (za x1) ((cI S 3 (za x1)) - (nI 1))) x1 5) ∧ (cis (csI S 3 (za x1) ((cI S 3 (za x1)) - (nI 1))) (cR (csI S 3 (za x1) ((cI S 3 (za x1)) - (nI 1))) 0 (za x1)) 20) ∧ (((nI (cL (csI S 3 (za x1) ((cI S 3 (za x1)) - (nI 1))) (za (cR (csI S 3 (za x1) ((cI S 3 (za x1)) - (nI 1))) 0 (za x1))))) = (nI 128) → (cis (csI S 3 (za x1) ((cI S 3 (za x1)) - (nI 1))) x0 8) ∧ (cis (csI S 3 (za x1) ((cI S 3 (za x1)) - (nI 1))) x1 5) ∧ O_X9_drop_42 N x0 x1 (csR (csI S 3 (za x1) ((cI S 3 (za x1)) - (nI 1))) 6 (za x1) (cR (csI S 3 (za x1) ((cI S 3 (za x1)) - (nI 1))) 7 (za x0)))) ∧ (¬ (nI (cL (csI S 3 (za x1) ((cI S 3 (za x1)) - (nI 1))) (za (cR (csI S 3 (za x1) ((cI S 3 (za x1)) - (nI 1))) 0 (za x1))))) = (nI 128) → (cis (csI S 3 (za x1) ((cI S 3 (za x1)) - (nI 1))) x0 8) ∧ (cis (csI S 3 (za x1) ((cI S 3 (za x1)) - (nI 1))) x1 5) ∧ O_X9_drop_58 N x0 x1 (csR (csI S 3 (za x1) ((cI S 3 (za x1)) - (nI 1))) 6 (za x1) (cR (csI S 3 (za x1) ((cI S 3 (za x1)) - (nI 1))) 8 (za x0)))))) ∧ (¬ (cI (csI S 3 (za x1) ((cI S 3 (za x1)) - (nI 1))) 3 (za x1)) ≤ 0 → True))))
set_option maxRecDepth 100000 in
set_option maxHeartbeats 4000000 in
theorem b_X9_drop_0 {G : zG} {o : cO} {S : cS} {N : Nat} {Q : Option Value → cS → Prop} {X : cS → Prop} (hG : zOK G) (hR : ∀ S', X S' → Q none S') {x0 : Option Nat} {x1 : Option Nat} (ok : O_X9_drop_0 N x0 x1 S) (hx : X (F_X9_drop_0 N x0 x1 S)) : cX G o dX9_drop mX9_drop 0 [some (va_rf x0), some (va_rf x1)] [] S Q := by
  unfold O_X9_drop_0 at ok
  unfold F_X9_drop_0 at hx
  refine c_aload_nQ dX9_drop_0 rfl rfl ?_
  refine c_ifnonnullI (tgt := 5) dX9_drop_1 (by decide) (fun c_1 => ?_) (fun c_1 => ?_)
  · have ok := ok.2 c_1
    have hx := xif_n c_1 hx
    refine c_aload_nQ dX9_drop_5 rfl rfl ?_
    refine c_dup dX9_drop_6 (zcat_rf _) ?_
    refine c_getI (C := RX5) (T := TX5) (N := 7) (ci := 4) (k := 3) ⟨rfl, inT5, by decide, fX9_57⟩ (by decide) (by decide) (by decide) dX9_drop_7 ok.1 ?_
    have ok := ok.2
    refine c_iconst (v := nI 1) dX9_drop_10 (by decide) ?_
    refine c_isub dX9_drop_11 ?_
    refine c_putI (C := RX5) (T := TX5) (N := 7) (ci := 4) (k := 3) ⟨rfl, inT5, by decide, fX9_57⟩ ftT5 rfl (by decide) (by decide) (by decide) rfl rfl dX9_drop_12 ok.1 ?_
    have ok := ok.2
    refine c_aload_nQ dX9_drop_15 rfl rfl ?_
    refine c_getI (C := RX5) (T := TX5) (N := 7) (ci := 4) (k := 3) ⟨rfl, inT5, by decide, fX9_57⟩ (by decide) (by decide) (by decide) dX9_drop_16 ok.1 ?_
    have ok := ok.2
    refine c_if_le (tgt := 23) dX9_drop_19 (by decide) (fun c_19 => ?_) (fun c_19 => ?_)
    · have ok := ok.1 c_19
      have hx := xif_p c_19 hx
      refine c_aload_nQ dX9_drop_23 rfl rfl ?_
      refine c_getR (C := RX5) (T := TX5) (N := 7) (ci := 4) (k := 0) ⟨rfl, inT5, by decide, fX9_73⟩ (by decide) (by decide) (by decide) dX9_drop_24 ok.1 ?_
      have ok := ok.2
      refine c_alen (t := 0) (ty := .byte) rfl dX9_drop_27 ok.1 ?_
      have ok := ok.2
      refine c_sipush (v := nI 128) dX9_drop_28 (by decide) ?_
      refine c_icmp_ne (tgt := 50) dX9_drop_31 (by decide) (fun c_31 => ?_) (fun c_31 => ?_)
      · have ok := ok.2 c_31
        have hx := xif_n c_31 hx
        refine c_aload_nQ dX9_drop_50 rfl rfl ?_
        refine c_aload_nQ dX9_drop_51 rfl rfl ?_
        refine c_getR (C := RX9) (T := TX9) (N := 13) (ci := 7) (k := 8) ⟨rfl, inT9, by decide, fX9_64⟩ (by decide) (by decide) (by decide) dX9_drop_52 ok.1 ?_
        have ok := ok.2
        refine c_putR (C := RX5) (T := TX5) (N := 7) (ci := 4) (k := 6) ⟨rfl, inT5, by decide, fX9_70⟩ ftT5 rfl (by decide) (by decide) (by decide) (fun v => by cases v <;> rfl) (fun v => by cases v <;> rfl) dX9_drop_55 ok.1 ?_
        have ok := ok.2
        exact cX.cutz (b_X9_drop_58 hG hR ok hx) ⟨rfl, rfl, trivial⟩
      · have ok := ok.1 c_31
        have hx := xif_p c_31 hx
        refine c_aload_nQ dX9_drop_34 rfl rfl ?_
        refine c_aload_nQ dX9_drop_35 rfl rfl ?_
        refine c_getR (C := RX9) (T := TX9) (N := 13) (ci := 7) (k := 7) ⟨rfl, inT9, by decide, fX9_60⟩ (by decide) (by decide) (by decide) dX9_drop_36 ok.1 ?_
        have ok := ok.2
        refine c_putR (C := RX5) (T := TX5) (N := 7) (ci := 4) (k := 6) ⟨rfl, inT5, by decide, fX9_70⟩ ftT5 rfl (by decide) (by decide) (by decide) (fun v => by cases v <;> rfl) (fun v => by cases v <;> rfl) dX9_drop_39 ok.1 ?_
        have ok := ok.2
        exact cX.cutz (b_X9_drop_42 hG hR ok hx) ⟨rfl, rfl, trivial⟩
    · have ok := ok.2 c_19
      have hx := xif_n c_19 hx
      exact c_return rfl dX9_drop_22 (hR _ hx)
  · have ok := ok.1 c_1
    have hx := xif_p c_1 hx
    exact c_return rfl dX9_drop_4 (hR _ hx)
def f_X9_drop (N : Nat) (S : cS) (a0 : Nat) (x1 : Option Nat) : cS := F_X9_drop_0 N (some a0) x1 S
def o_X9_drop (N : Nat) (S : cS) (a0 : Nat) (x1 : Option Nat) : Prop := O_X9_drop_0 N (some a0) x1 S
set_option maxRecDepth 100000 in
set_option maxHeartbeats 4000000 in
theorem cc_X9_drop {G : zG} {o : cO} {S : cS} {N : Nat} (hG : zOK G) {a0 : Nat} {x1 : Option Nat} (ok : o_X9_drop N S a0 x1) : cCv G o dX9_drop mX9_drop [.ref a0, va_rf x1] S (fun S' => S' = f_X9_drop N S a0 x1) := by
  refine cC.ofX rfl (by cases x1 <;> exact Nat.le_of_ble_eq_true rfl) ?_
  rw [show zargs mX9_drop.2.2.1 [.ref a0, va_rf x1] = [some (.ref a0), some (va_rf x1)] from by cases x1 <;> rfl]
  exact cX.cutz (b_X9_drop_0 (X := fun F => F = f_X9_drop N S a0 x1) hG (fun S' h => ⟨rfl, h⟩) ok rfl) ⟨rfl, rfl, trivial⟩
/-! X8_holdSnapshot -/
def F_X8_holdSnapshot_37 (N : Nat) (x0 : Option Nat) (x1 : Int32) (x2 : Option Nat) (S : cS) : Int32 × cS := ((nI 1), (csP S (za (cR S 8 (za x0))) x1.toNatClampNeg x2))
def O_X8_holdSnapshot_37 (N : Nat) (x0 : Option Nat) (x1 : Int32) (x2 : Option Nat) (S : cS) : Prop := (cis S x0 7) ∧ (cis S (cR S 8 (za x0)) 24 ∧ vp_in x1 (cL S (za (cR S 8 (za x0)))) ∧ (x2 = none ∨ cis S x2 5)) ∧ True
set_option maxRecDepth 100000 in
set_option maxHeartbeats 4000000 in
theorem b_X8_holdSnapshot_37 {G : zG} {o : cO} {S : cS} {N : Nat} {Q : Option Value → cS → Prop} {X : Int32 × cS → Prop} (hG : zOK G) (hR : ∀ v S', X (v, S') → Q (some (.int v)) S') {x0 : Option Nat} {x1 : Int32} {x2 : Option Nat} (ok : O_X8_holdSnapshot_37 N x0 x1 x2 S) (hx : X (F_X8_holdSnapshot_37 N x0 x1 x2 S)) : cX G o dX8_holdSnapshot mX8_holdSnapshot 37 [some (va_rf x0), some (.int x1), some (va_rf x2)] [] S Q := by
  unfold O_X8_holdSnapshot_37 at ok
  unfold F_X8_holdSnapshot_37 at hx
  refine c_aload_nQ dX8_holdSnapshot_37 rfl rfl ?_
  refine c_getR (C := RX8) (T := TX8) (N := 14) (ci := 6) (k := 8) ⟨rfl, inT8, by decide, fX8_45⟩ (by decide) (by decide) (by decide) dX8_holdSnapshot_38 ok.1 ?_
  have ok := ok.2
  refine c_iload_n dX8_holdSnapshot_41 rfl rfl ?_
  refine c_aload_nQ dX8_holdSnapshot_42 rfl rfl ?_
  refine c_aast (t := 4) (ci := 4) (rr := (RX5, TX5, 7)) rfl rfl (by decide) (by decide) dX8_holdSnapshot_43 ok.1 ?_
  have ok := ok.2
  refine c_iconst (v := nI 1) dX8_holdSnapshot_44 (by decide) ?_
  exact c_ireturn rfl rfl dX8_holdSnapshot_45 (hR _ _ hx)
def F_X8_holdSnapshot_12 (N : Nat)  (S : cS) : Int32 × cS := ((nI 0), S)
def O_X8_holdSnapshot_12 (N : Nat)  (S : cS) : Prop := True
set_option maxRecDepth 100000 in
set_option maxHeartbeats 4000000 in
theorem b_X8_holdSnapshot_12 {G : zG} {o : cO} {S : cS} {N : Nat} {Q : Option Value → cS → Prop} {X : Int32 × cS → Prop} (hG : zOK G) (hR : ∀ v S', X (v, S') → Q (some (.int v)) S') (ok : O_X8_holdSnapshot_12 N S) (hx : X (F_X8_holdSnapshot_12 N S)) : cX G o dX8_holdSnapshot mX8_holdSnapshot 12 [none, none, none] [] S Q := by
  unfold O_X8_holdSnapshot_12 at ok
  unfold F_X8_holdSnapshot_12 at hx
  refine c_iconst (v := nI 0) dX8_holdSnapshot_12 (by decide) ?_
  exact c_ireturn rfl rfl dX8_holdSnapshot_13 (hR _ _ hx)
def F_X8_holdSnapshot_0 (N : Nat) (x0 : Option Nat) (x1 : Int32) (x2 : Option Nat) (S : cS) : Int32 × cS := (if x1 < 0 then (F_X8_holdSnapshot_12 N S) else (if x1 < (cI S 1 (za x0)) then (F_X8_holdSnapshot_37 N x0 x1 x2 (f_X9_drop N (csI S 3 (za x2) ((cI S 3 (za x2)) + (nI 1))) (za (cR (csI S 3 (za x2) ((cI S 3 (za x2)) + (nI 1))) 0 (za x0))) (cP (csI S 3 (za x2) ((cI S 3 (za x2)) + (nI 1))) (za (cR (csI S 3 (za x2) ((cI S 3 (za x2)) + (nI 1))) 8 (za x0))) x1.toNatClampNeg))) else (F_X8_holdSnapshot_12 N S)))
def O_X8_holdSnapshot_0 (N : Nat) (x0 : Option Nat) (x1 : Int32) (x2 : Option Nat) (S : cS) : Prop := ((x1 < 0 → O_X8_holdSnapshot_12 N S) ∧ (¬ x1 < 0 → (cis S x0 7) ∧ ((x1 < (cI S 1 (za x0)) → (cis S x2 5) ∧ (cis S x2 5) ∧ (cis (csI S 3 (za x2) ((cI S 3 (za x2)) + (nI 1))) x0 7) ∧ (cis (csI S 3 (za x2) ((cI S 3 (za x2)) + (nI 1))) x0 7) ∧ (cis (csI S 3 (za x2) ((cI S 3 (za x2)) + (nI 1))) (cR (csI S 3 (za x2) ((cI S 3 (za x2)) + (nI 1))) 8 (za x0)) 24 ∧ vp_in x1 (cL (csI S 3 (za x2) ((cI S 3 (za x2)) + (nI 1))) (za (cR (csI S 3 (za x2) ((cI S 3 (za x2)) + (nI 1))) 8 (za x0))))) ∧ (cis (csI S 3 (za x2) ((cI S 3 (za x2)) + (nI 1))) (cR (csI S 3 (za x2) ((cI S 3 (za x2)) + (nI 1))) 0 (za x0)) 8 ∧ o_X9_drop N (csI S 3 (za x2) ((cI S 3 (za x2)) + (nI 1))) (za (cR (csI S 3 (za x2) ((cI S 3 (za x2)) + (nI 1))) 0 (za x0))) (cP (csI S 3 (za x2) ((cI S 3 (za x2)) + (nI 1))) (za (cR (csI S 3 (za x2) ((cI S 3 (za x2)) + (nI 1))) 8 (za x0))) x1.toNatClampNeg)) ∧ O_X8_holdSnapshot_37 N x0 x1 x2 (f_X9_drop N (csI S 3 (za x2) ((cI S 3 (za x2)) + (nI 1))) (za (cR (csI S 3 (za x2) ((cI S 3 (za x2)) + (nI 1))) 0 (za x0))) (cP (csI S 3 (za x2) ((cI S 3 (za x2)) + (nI 1))) (za (cR (csI S 3 (za x2) ((cI S 3 (za x2)) + (nI 1))) 8 (za x0))) x1.toNatClampNeg))) ∧ (¬ x1 < (cI S 1 (za x0)) → O_X8_holdSnapshot_12 N S))))
set_option maxRecDepth 100000 in
set_option maxHeartbeats 4000000 in
theorem b_X8_holdSnapshot_0 {G : zG} {o : cO} {S : cS} {N : Nat} {Q : Option Value → cS → Prop} {X : Int32 × cS → Prop} (hG : zOK G) (hR : ∀ v S', X (v, S') → Q (some (.int v)) S') {x0 : Option Nat} {x1 : Int32} {x2 : Option Nat} (ok : O_X8_holdSnapshot_0 N x0 x1 x2 S) (hx : X (F_X8_holdSnapshot_0 N x0 x1 x2 S)) : cX G o dX8_holdSnapshot mX8_holdSnapshot 0 [some (va_rf x0), some (.int x1), some (va_rf x2)] [] S Q := by
  unfold O_X8_holdSnapshot_0 at ok
  unfold F_X8_holdSnapshot_0 at hx
  refine c_iload_n dX8_holdSnapshot_0 rfl rfl ?_
  refine c_if_lt (tgt := 12) dX8_holdSnapshot_1 (by decide) (fun c_1 => ?_) (fun c_1 => ?_)
  · have ok := ok.1 c_1
    have hx := xif_p c_1 hx
    exact cX.cutz (b_X8_holdSnapshot_12 hG hR ok hx) trivial
  · have ok := ok.2 c_1
    have hx := xif_n c_1 hx
    refine c_iload_n dX8_holdSnapshot_4 rfl rfl ?_
    refine c_aload_nQ dX8_holdSnapshot_5 rfl rfl ?_
    refine c_getI (C := RX8) (T := TX8) (N := 14) (ci := 6) (k := 1) ⟨rfl, inT8, by decide, fX8_32⟩ (by decide) (by decide) (by decide) dX8_holdSnapshot_6 ok.1 ?_
    have ok := ok.2
    refine c_icmp_lt (tgt := 14) dX8_holdSnapshot_9 (by decide) (fun c_9 => ?_) (fun c_9 => ?_)
    · have ok := ok.1 c_9
      have hx := xif_p c_9 hx
      refine c_aload_nQ dX8_holdSnapshot_14 rfl rfl ?_
      refine c_dup dX8_holdSnapshot_15 (zcat_rf _) ?_
      refine c_getI (C := RX5) (T := TX5) (N := 7) (ci := 4) (k := 3) ⟨rfl, inT5, by decide, fX8_72⟩ (by decide) (by decide) (by decide) dX8_holdSnapshot_16 ok.1 ?_
      have ok := ok.2
      refine c_iconst (v := nI 1) dX8_holdSnapshot_19 (by decide) ?_
      refine c_iadd dX8_holdSnapshot_20 ?_
      refine c_putI (C := RX5) (T := TX5) (N := 7) (ci := 4) (k := 3) ⟨rfl, inT5, by decide, fX8_72⟩ ftT5 rfl (by decide) (by decide) (by decide) rfl rfl dX8_holdSnapshot_21 ok.1 ?_
      have ok := ok.2
      refine c_aload_nQ dX8_holdSnapshot_24 rfl rfl ?_
      refine c_getR (C := RX8) (T := TX8) (N := 14) (ci := 6) (k := 0) ⟨rfl, inT8, by decide, fX8_28⟩ (by decide) (by decide) (by decide) dX8_holdSnapshot_25 ok.1 ?_
      have ok := ok.2
      refine c_aload_nQ dX8_holdSnapshot_28 rfl rfl ?_
      refine c_getR (C := RX8) (T := TX8) (N := 14) (ci := 6) (k := 8) ⟨rfl, inT8, by decide, fX8_45⟩ (by decide) (by decide) (by decide) dX8_holdSnapshot_29 ok.1 ?_
      have ok := ok.2
      refine c_iload_n dX8_holdSnapshot_32 rfl rfl ?_
      refine c_aald (t := 4) (ty := (.object "QuorumLedger$Message")) rfl rfl (by decide) dX8_holdSnapshot_33 ok.1 ?_
      have ok := ok.2
      refine c_V1vE (ci := 7) (rr := (RX9, TX9, 13)) (y' := mX9_drop) dX8_holdSnapshot_34 lX8_91 kX9_drop ⟨by decide, by decide⟩ rfl rfl (by decide) ok.1.1 (Nat.le_of_ble_eq_true rfl) (cc_X9_drop hG ok.1.2) ?_
      have ok := ok.2
      exact cX.cutz (b_X8_holdSnapshot_37 hG hR ok hx) ⟨rfl, rfl, rfl, trivial⟩
    · have ok := ok.2 c_9
      have hx := xif_n c_9 hx
      exact cX.cutz (b_X8_holdSnapshot_12 hG hR ok hx) trivial
def f_X8_holdSnapshot (N : Nat) (S : cS) (a0 : Nat) (x1 : Int32) (x2 : Option Nat) : Int32 × cS := F_X8_holdSnapshot_0 N (some a0) x1 x2 S
def o_X8_holdSnapshot (N : Nat) (S : cS) (a0 : Nat) (x1 : Int32) (x2 : Option Nat) : Prop := O_X8_holdSnapshot_0 N (some a0) x1 x2 S
set_option maxRecDepth 100000 in
set_option maxHeartbeats 4000000 in
theorem cc_X8_holdSnapshot {G : zG} {o : cO} {S : cS} {N : Nat} (hG : zOK G) {a0 : Nat} {x1 : Int32} {x2 : Option Nat} (ok : o_X8_holdSnapshot N S a0 x1 x2) : cCi G o dX8_holdSnapshot mX8_holdSnapshot [.ref a0, .int x1, va_rf x2] S (fun v S' => v = (f_X8_holdSnapshot N S a0 x1 x2).1 ∧ S' = (f_X8_holdSnapshot N S a0 x1 x2).2) := by
  refine cC.ofX rfl (by cases x2 <;> exact Nat.le_of_ble_eq_true rfl) ?_
  rw [show zargs mX8_holdSnapshot.2.2.1 [.ref a0, .int x1, va_rf x2] = [some (.ref a0), some (.int x1), some (va_rf x2)] from by cases x2 <;> rfl]
  exact cX.cutz (b_X8_holdSnapshot_0 (X := fun F => F = f_X8_holdSnapshot N S a0 x1 x2) hG (fun v S' h => ⟨v, rfl, by rw [← h], by rw [← h]⟩) ok rfl) ⟨rfl, rfl, rfl, trivial⟩
/-! X4_canRead -/
def F_X4_canRead_34 (N : Nat) (s0 : Int32) (S : cS) : Int32 := s0
def O_X4_canRead_34 (N : Nat) (s0 : Int32) (S : cS) : Prop := narrow .boolean (.int s0) = .int s0
set_option maxRecDepth 100000 in
set_option maxHeartbeats 4000000 in
theorem b_X4_canRead_34 {G : zG} {o : cO} {S : cS} {N : Nat} {Q : Option Value → cS → Prop} {X : Int32 → Prop} (hG : zOK G) (hR : ∀ v, X v → Q (some (.int v)) S) {s0 : Int32} (ok : O_X4_canRead_34 N s0 S) (hx : X (F_X4_canRead_34 N s0 S)) : cX G o dX4_canRead mX4_canRead 34 [none, none] [.int s0] S Q := by
  unfold O_X4_canRead_34 at ok
  unfold F_X4_canRead_34 at hx
  exact c_ireturn rfl ok dX4_canRead_34 (hR _ hx)
def F_X4_canRead_33 (N : Nat)  (S : cS) : Int32 := (F_X4_canRead_34 N (nI 0) S)
def O_X4_canRead_33 (N : Nat)  (S : cS) : Prop := O_X4_canRead_34 N (nI 0) S
set_option maxRecDepth 100000 in
set_option maxHeartbeats 4000000 in
theorem b_X4_canRead_33 {G : zG} {o : cO} {S : cS} {N : Nat} {Q : Option Value → cS → Prop} {X : Int32 → Prop} (hG : zOK G) (hR : ∀ v, X v → Q (some (.int v)) S) (ok : O_X4_canRead_33 N S) (hx : X (F_X4_canRead_33 N S)) : cX G o dX4_canRead mX4_canRead 33 [none, none] [] S Q := by
  unfold O_X4_canRead_33 at ok
  unfold F_X4_canRead_33 at hx
  refine c_iconst (v := nI 0) dX4_canRead_33 (by decide) ?_
  exact cX.cutz (b_X4_canRead_34 hG hR ok hx) trivial
def F_X4_canRead_0 (N : Nat) (x0 : Option Nat) (x1 : Int32) (S : cS) : Int32 := (if x1 < 0 then (F_X4_canRead_33 N S) else (if (nI 284) ≤ x1 then (F_X4_canRead_33 N S) else (if (cA S (za (cR S 1 (za x0))) x1.toNatClampNeg) = 0 then (F_X4_canRead_33 N S) else (if (cP S (za (cR S 0 (za x0))) x1.toNatClampNeg) = none then (F_X4_canRead_33 N S) else (F_X4_canRead_34 N (nI 1) S)))))
def O_X4_canRead_0 (N : Nat) (x0 : Option Nat) (x1 : Int32) (S : cS) : Prop := ((x1 < 0 → O_X4_canRead_33 N S) ∧ (¬ x1 < 0 → (((nI 284) ≤ x1 → O_X4_canRead_33 N S) ∧ (¬ (nI 284) ≤ x1 → (cis S x0 4) ∧ (cis S (cR S 1 (za x0)) 23 ∧ vp_in x1 (cL S (za (cR S 1 (za x0))))) ∧ (((cA S (za (cR S 1 (za x0))) x1.toNatClampNeg) = 0 → O_X4_canRead_33 N S) ∧ (¬ (cA S (za (cR S 1 (za x0))) x1.toNatClampNeg) = 0 → (cis S x0 4) ∧ (cis S (cR S 0 (za x0)) 26 ∧ vp_in x1 (cL S (za (cR S 0 (za x0))))) ∧ (((cP S (za (cR S 0 (za x0))) x1.toNatClampNeg) = none → O_X4_canRead_33 N S) ∧ (¬ (cP S (za (cR S 0 (za x0))) x1.toNatClampNeg) = none → O_X4_canRead_34 N (nI 1) S))))))))
set_option maxRecDepth 100000 in
set_option maxHeartbeats 4000000 in
theorem b_X4_canRead_0 {G : zG} {o : cO} {S : cS} {N : Nat} {Q : Option Value → cS → Prop} {X : Int32 → Prop} (hG : zOK G) (hR : ∀ v, X v → Q (some (.int v)) S) {x0 : Option Nat} {x1 : Int32} (ok : O_X4_canRead_0 N x0 x1 S) (hx : X (F_X4_canRead_0 N x0 x1 S)) : cX G o dX4_canRead mX4_canRead 0 [some (va_rf x0), some (.int x1)] [] S Q := by
  unfold O_X4_canRead_0 at ok
  unfold F_X4_canRead_0 at hx
  refine c_iload_n dX4_canRead_0 rfl rfl ?_
  refine c_if_lt (tgt := 33) dX4_canRead_1 (by decide) (fun c_1 => ?_) (fun c_1 => ?_)
  · have ok := ok.1 c_1
    have hx := xif_p c_1 hx
    exact cX.cutz (b_X4_canRead_33 hG hR ok hx) trivial
  · have ok := ok.2 c_1
    have hx := xif_n c_1 hx
    refine c_iload_n dX4_canRead_4 rfl rfl ?_
    refine c_sipush (v := nI 284) dX4_canRead_5 (by decide) ?_
    refine c_icmp_ge (tgt := 33) dX4_canRead_8 (by decide) (fun c_8 => ?_) (fun c_8 => ?_)
    · have ok := ok.1 c_8
      have hx := xif_p c_8 hx
      exact cX.cutz (b_X4_canRead_33 hG hR ok hx) trivial
    · have ok := ok.2 c_8
      have hx := xif_n c_8 hx
      refine c_aload_nQ dX4_canRead_11 rfl rfl ?_
      refine c_getR (C := RX4) (T := TX4) (N := 10) (ci := 3) (k := 1) ⟨rfl, inT4, by decide, fX4_17⟩ (by decide) (by decide) (by decide) dX4_canRead_12 ok.1 ?_
      have ok := ok.2
      refine c_iload_n dX4_canRead_15 rfl rfl ?_
      refine c_zald dX4_canRead_16 ok.1 ?_
      have ok := ok.2
      refine c_if_eq (tgt := 33) dX4_canRead_17 (by decide) (fun c_17 => ?_) (fun c_17 => ?_)
      · have ok := ok.1 c_17
        have hx := xif_p c_17 hx
        exact cX.cutz (b_X4_canRead_33 hG hR ok hx) trivial
      · have ok := ok.2 c_17
        have hx := xif_n c_17 hx
        refine c_aload_nQ dX4_canRead_20 rfl rfl ?_
        refine c_getR (C := RX4) (T := TX4) (N := 10) (ci := 3) (k := 0) ⟨rfl, inT4, by decide, fX4_13⟩ (by decide) (by decide) (by decide) dX4_canRead_21 ok.1 ?_
        have ok := ok.2
        refine c_iload_n dX4_canRead_24 rfl rfl ?_
        refine c_aald (t := 6) (ty := (.array .byte)) rfl rfl (by decide) dX4_canRead_25 ok.1 ?_
        have ok := ok.2
        refine c_ifnullI (tgt := 33) dX4_canRead_26 (by decide) (fun c_26 => ?_) (fun c_26 => ?_)
        · have ok := ok.1 c_26
          have hx := xif_p c_26 hx
          exact cX.cutz (b_X4_canRead_33 hG hR ok hx) trivial
        · have ok := ok.2 c_26
          have hx := xif_n c_26 hx
          refine c_iconst (v := nI 1) dX4_canRead_29 (by decide) ?_
          refine c_goto (tgt := 34) dX4_canRead_30 (by decide) ?_
          exact cX.cutz (b_X4_canRead_34 hG hR ok hx) trivial
def f_X4_canRead (N : Nat) (S : cS) (a0 : Nat) (x1 : Int32) : Int32 := F_X4_canRead_0 N (some a0) x1 S
def o_X4_canRead (N : Nat) (S : cS) (a0 : Nat) (x1 : Int32) : Prop := O_X4_canRead_0 N (some a0) x1 S
set_option maxRecDepth 100000 in
set_option maxHeartbeats 4000000 in
theorem cc_X4_canRead {G : zG} {o : cO} {S : cS} {N : Nat} (hG : zOK G) {a0 : Nat} {x1 : Int32} (ok : o_X4_canRead N S a0 x1) : cCi G o dX4_canRead mX4_canRead [.ref a0, .int x1] S (fun v S' => v = f_X4_canRead N S a0 x1 ∧ S' = S) := by
  refine cC.ofX rfl (by exact Nat.le_of_ble_eq_true rfl) ?_
  show cX G o dX4_canRead mX4_canRead 0 [some (.ref a0), some (.int x1)] [] S _
  exact cX.cutz (b_X4_canRead_0 (X := fun F => F = f_X4_canRead N S a0 x1) hG (fun v h => ⟨v, rfl, h, rfl⟩) ok rfl) ⟨rfl, rfl, trivial⟩
/-! X4_fetch -/
def F_X4_fetch_137 (N : Nat) (x4 : Int32) (S : cS) : Int32 × cS := (x4, S)
def O_X4_fetch_137 (N : Nat) (x4 : Int32) (S : cS) : Prop := True
set_option maxRecDepth 100000 in
set_option maxHeartbeats 4000000 in
theorem b_X4_fetch_137 {G : zG} {o : cO} {S : cS} {N : Nat} {Q : Option Value → cS → Prop} {X : Int32 × cS → Prop} (hG : zOK G) (hR : ∀ v S', X (v, S') → Q (some (.int v)) S') {x4 : Int32} (ok : O_X4_fetch_137 N x4 S) (hx : X (F_X4_fetch_137 N x4 S)) : cX G o dX4_fetch mX4_fetch 137 [none, none, none, none, some (.int x4), none, none] [] S Q := by
  unfold O_X4_fetch_137 at ok
  unfold F_X4_fetch_137 at hx
  refine c_iload dX4_fetch_137 rfl ?_
  exact c_ireturn rfl rfl dX4_fetch_139 (hR _ _ hx)
def F_X4_fetch_107 (N : Nat) (x0 : Option Nat) (x2 : Option Nat) (x3 : Int32) (x4 : Int32) (x5 : Int32) (x6 : Int32) (S : cS) : Int32 × cS := (if x4 ≤ x5 then (F_X4_fetch_137 N x4 S) else (F_X4_fetch_137 N x4 (csArow S (za x2) (va_cpy (cA S (za (cP S (za (cR S 0 (za x0))) (x6 + (nI 1)).toNatClampNeg))) (cA S (za x2)) (nI 0).toNatClampNeg (x3 + x5).toNatClampNeg (x4 - x5).toNatClampNeg))))
def O_X4_fetch_107 (N : Nat) (x0 : Option Nat) (x2 : Option Nat) (x3 : Int32) (x4 : Int32) (x5 : Int32) (x6 : Int32) (S : cS) : Prop := ((x4 ≤ x5 → O_X4_fetch_137 N x4 S) ∧ (¬ x4 ≤ x5 → (cis S x0 4) ∧ (cis S (cR S 0 (za x0)) 26 ∧ vp_in (x6 + (nI 1)) (cL S (za (cR S 0 (za x0))))) ∧ (cis S (cP S (za (cR S 0 (za x0))) (x6 + (nI 1)).toNatClampNeg) 20 ∧ cis S x2 20 ∧ (¬ (nI 0) < 0 ∧ ¬ (x3 + x5) < 0 ∧ ¬ (x4 - x5) < 0) ∧ (nI 0).toNatClampNeg + (x4 - x5).toNatClampNeg ≤ cL S (za (cP S (za (cR S 0 (za x0))) (x6 + (nI 1)).toNatClampNeg)) ∧ (x3 + x5).toNatClampNeg + (x4 - x5).toNatClampNeg ≤ cL S (za x2)) ∧ O_X4_fetch_137 N x4 (csArow S (za x2) (va_cpy (cA S (za (cP S (za (cR S 0 (za x0))) (x6 + (nI 1)).toNatClampNeg))) (cA S (za x2)) (nI 0).toNatClampNeg (x3 + x5).toNatClampNeg (x4 - x5).toNatClampNeg))))
set_option maxRecDepth 100000 in
set_option maxHeartbeats 4000000 in
theorem b_X4_fetch_107 {G : zG} {o : cO} {S : cS} {N : Nat} {Q : Option Value → cS → Prop} {X : Int32 × cS → Prop} (hG : zOK G) (hR : ∀ v S', X (v, S') → Q (some (.int v)) S') {x0 : Option Nat} {x2 : Option Nat} {x3 : Int32} {x4 : Int32} {x5 : Int32} {x6 : Int32} (ok : O_X4_fetch_107 N x0 x2 x3 x4 x5 x6 S) (hx : X (F_X4_fetch_107 N x0 x2 x3 x4 x5 x6 S)) : cX G o dX4_fetch mX4_fetch 107 [some (va_rf x0), none, some (va_rf x2), some (.int x3), some (.int x4), some (.int x5), some (.int x6)] [] S Q := by
  unfold O_X4_fetch_107 at ok
  unfold F_X4_fetch_107 at hx
  refine c_iload dX4_fetch_107 rfl ?_
  refine c_iload dX4_fetch_109 rfl ?_
  refine c_icmp_le (tgt := 137) dX4_fetch_111 (by decide) (fun c_111 => ?_) (fun c_111 => ?_)
  · have ok := ok.1 c_111
    have hx := xif_p c_111 hx
    exact cX.cutz (b_X4_fetch_137 hG hR ok hx) ⟨rfl, trivial⟩
  · have ok := ok.2 c_111
    have hx := xif_n c_111 hx
    refine c_aload_nQ dX4_fetch_114 rfl rfl ?_
    refine c_getR (C := RX4) (T := TX4) (N := 10) (ci := 3) (k := 0) ⟨rfl, inT4, by decide, fX4_13⟩ (by decide) (by decide) (by decide) dX4_fetch_115 ok.1 ?_
    have ok := ok.2
    refine c_iload dX4_fetch_118 rfl ?_
    refine c_iconst (v := nI 1) dX4_fetch_120 (by decide) ?_
    refine c_iadd dX4_fetch_121 ?_
    refine c_aald (t := 6) (ty := (.array .byte)) rfl rfl (by decide) dX4_fetch_122 ok.1 ?_
    have ok := ok.2
    refine c_iconst (v := nI 0) dX4_fetch_123 (by decide) ?_
    refine c_aload_nQ dX4_fetch_124 rfl rfl ?_
    refine c_iload_n dX4_fetch_125 rfl rfl ?_
    refine c_iload dX4_fetch_126 rfl ?_
    refine c_iadd dX4_fetch_128 ?_
    refine c_iload dX4_fetch_129 rfl ?_
    refine c_iload dX4_fetch_131 rfl ?_
    refine c_isub dX4_fetch_133 ?_
    refine c_copy0 hG dX4_fetch_134 qX4_36 (by decide) (by decide) ok.1 ?_
    have ok := ok.2
    exact cX.cutz (b_X4_fetch_137 hG hR ok hx) ⟨rfl, trivial⟩
def F_X4_fetch_91 (N : Nat) (x0 : Option Nat) (x2 : Option Nat) (x3 : Int32) (x4 : Int32) (x5 : Int32) (x6 : Int32) (S : cS) : Int32 × cS := (F_X4_fetch_107 N x0 x2 x3 x4 x5 x6 (csArow S (za x2) (va_cpy (cA S (za (cP S (za (cR S 0 (za x0))) x6.toNatClampNeg))) (cA S (za x2)) (nI 8).toNatClampNeg x3.toNatClampNeg x5.toNatClampNeg)))
def O_X4_fetch_91 (N : Nat) (x0 : Option Nat) (x2 : Option Nat) (x3 : Int32) (x4 : Int32) (x5 : Int32) (x6 : Int32) (S : cS) : Prop := (cis S x0 4) ∧ (cis S (cR S 0 (za x0)) 26 ∧ vp_in x6 (cL S (za (cR S 0 (za x0))))) ∧ (cis S (cP S (za (cR S 0 (za x0))) x6.toNatClampNeg) 20 ∧ cis S x2 20 ∧ (¬ (nI 8) < 0 ∧ ¬ x3 < 0 ∧ ¬ x5 < 0) ∧ (nI 8).toNatClampNeg + x5.toNatClampNeg ≤ cL S (za (cP S (za (cR S 0 (za x0))) x6.toNatClampNeg)) ∧ x3.toNatClampNeg + x5.toNatClampNeg ≤ cL S (za x2)) ∧ O_X4_fetch_107 N x0 x2 x3 x4 x5 x6 (csArow S (za x2) (va_cpy (cA S (za (cP S (za (cR S 0 (za x0))) x6.toNatClampNeg))) (cA S (za x2)) (nI 8).toNatClampNeg x3.toNatClampNeg x5.toNatClampNeg))
set_option maxRecDepth 100000 in
set_option maxHeartbeats 4000000 in
theorem b_X4_fetch_91 {G : zG} {o : cO} {S : cS} {N : Nat} {Q : Option Value → cS → Prop} {X : Int32 × cS → Prop} (hG : zOK G) (hR : ∀ v S', X (v, S') → Q (some (.int v)) S') {x0 : Option Nat} {x2 : Option Nat} {x3 : Int32} {x4 : Int32} {x5 : Int32} {x6 : Int32} (ok : O_X4_fetch_91 N x0 x2 x3 x4 x5 x6 S) (hx : X (F_X4_fetch_91 N x0 x2 x3 x4 x5 x6 S)) : cX G o dX4_fetch mX4_fetch 91 [some (va_rf x0), none, some (va_rf x2), some (.int x3), some (.int x4), some (.int x5), some (.int x6)] [] S Q := by
  unfold O_X4_fetch_91 at ok
  unfold F_X4_fetch_91 at hx
  refine c_aload_nQ dX4_fetch_91 rfl rfl ?_
  refine c_getR (C := RX4) (T := TX4) (N := 10) (ci := 3) (k := 0) ⟨rfl, inT4, by decide, fX4_13⟩ (by decide) (by decide) (by decide) dX4_fetch_92 ok.1 ?_
  have ok := ok.2
  refine c_iload dX4_fetch_95 rfl ?_
  refine c_aald (t := 6) (ty := (.array .byte)) rfl rfl (by decide) dX4_fetch_97 ok.1 ?_
  have ok := ok.2
  refine c_bipush (v := nI 8) dX4_fetch_98 (by decide) ?_
  refine c_aload_nQ dX4_fetch_100 rfl rfl ?_
  refine c_iload_n dX4_fetch_101 rfl rfl ?_
  refine c_iload dX4_fetch_102 rfl ?_
  refine c_copy0 hG dX4_fetch_104 qX4_36 (by decide) (by decide) ok.1 ?_
  have ok := ok.2
  exact cX.cutz (b_X4_fetch_107 hG hR ok hx) ⟨rfl, rfl, rfl, rfl, rfl, rfl, trivial⟩
def F_X4_fetch_89 (N : Nat)  (S : cS) : Int32 × cS := ((-1), S)
def O_X4_fetch_89 (N : Nat)  (S : cS) : Prop := True
set_option maxRecDepth 100000 in
set_option maxHeartbeats 4000000 in
theorem b_X4_fetch_89 {G : zG} {o : cO} {S : cS} {N : Nat} {Q : Option Value → cS → Prop} {X : Int32 × cS → Prop} (hG : zOK G) (hR : ∀ v S', X (v, S') → Q (some (.int v)) S') (ok : O_X4_fetch_89 N S) (hx : X (F_X4_fetch_89 N S)) : cX G o dX4_fetch mX4_fetch 89 [none, none, none, none, none, none, none] [] S Q := by
  unfold O_X4_fetch_89 at ok
  unfold F_X4_fetch_89 at hx
  refine c_iconst (v := -1) dX4_fetch_89 (by decide) ?_
  exact c_ireturn rfl rfl dX4_fetch_90 (hR _ _ hx)
def F_X4_fetch_43 (N : Nat)  (S : cS) : Int32 × cS := ((-1), S)
def O_X4_fetch_43 (N : Nat)  (S : cS) : Prop := True
set_option maxRecDepth 100000 in
set_option maxHeartbeats 4000000 in
theorem b_X4_fetch_43 {G : zG} {o : cO} {S : cS} {N : Nat} {Q : Option Value → cS → Prop} {X : Int32 × cS → Prop} (hG : zOK G) (hR : ∀ v S', X (v, S') → Q (some (.int v)) S') (ok : O_X4_fetch_43 N S) (hx : X (F_X4_fetch_43 N S)) : cX G o dX4_fetch mX4_fetch 43 [none, none, none, none, none, none, none] [] S Q := by
  unfold O_X4_fetch_43 at ok
  unfold F_X4_fetch_43 at hx
  refine c_iconst (v := -1) dX4_fetch_43 (by decide) ?_
  exact c_ireturn rfl rfl dX4_fetch_44 (hR _ _ hx)
def F_X4_fetch_20 (N : Nat)  (S : cS) : Int32 × cS := ((-1), S)
def O_X4_fetch_20 (N : Nat)  (S : cS) : Prop := True
set_option maxRecDepth 100000 in
set_option maxHeartbeats 4000000 in
theorem b_X4_fetch_20 {G : zG} {o : cO} {S : cS} {N : Nat} {Q : Option Value → cS → Prop} {X : Int32 × cS → Prop} (hG : zOK G) (hR : ∀ v S', X (v, S') → Q (some (.int v)) S') (ok : O_X4_fetch_20 N S) (hx : X (F_X4_fetch_20 N S)) : cX G o dX4_fetch mX4_fetch 20 [none, none, none, none, none, none, none] [] S Q := by
  unfold O_X4_fetch_20 at ok
  unfold F_X4_fetch_20 at hx
  refine c_iconst (v := -1) dX4_fetch_20 (by decide) ?_
  exact c_ireturn rfl rfl dX4_fetch_21 (hR _ _ hx)
def F_X4_fetch_0 (N : Nat) (x0 : Option Nat) (x1 : Int32) (x2 : Option Nat) (x3 : Int32) (S : cS) : Int32 × cS := (if x1 < (nI 1) then (F_X4_fetch_20 N S) else (if (nI 40) < x1 then (F_X4_fetch_20 N S) else (if (cA S (za (cR S 3 (za x0))) x1.toNatClampNeg) = 0 then (F_X4_fetch_20 N S) else (if x3 < 0 then (F_X4_fetch_43 N S) else (if (cA S (za (cR S 3 (za x0))) x1.toNatClampNeg) ≤ ((nI (cL S (za x2))) - x3) then (if (f_X4_canRead N S (za x0) (((nI 2) * x1) - (nI 2))) = 0 then (F_X4_fetch_89 N S) else (if (cA S (za (cR S 3 (za x0))) x1.toNatClampNeg) ≤ (if (nI 504) < (cA S (za (cR S 3 (za x0))) x1.toNatClampNeg) then (nI 504) else (cA S (za (cR S 3 (za x0))) x1.toNatClampNeg)) then (F_X4_fetch_91 N x0 x2 x3 (cA S (za (cR S 3 (za x0))) x1.toNatClampNeg) (if (nI 504) < (cA S (za (cR S 3 (za x0))) x1.toNatClampNeg) then (nI 504) else (cA S (za (cR S 3 (za x0))) x1.toNatClampNeg)) (((nI 2) * x1) - (nI 2)) S) else (if (f_X4_canRead N S (za x0) ((((nI 2) * x1) - (nI 2)) + (nI 1))) = 0 then (F_X4_fetch_89 N S) else (F_X4_fetch_91 N x0 x2 x3 (cA S (za (cR S 3 (za x0))) x1.toNatClampNeg) (if (nI 504) < (cA S (za (cR S 3 (za x0))) x1.toNatClampNeg) then (nI 504) else (cA S (za (cR S 3 (za x0))) x1.toNatClampNeg)) (((nI 2) * x1) - (nI 2)) S)))) else (F_X4_fetch_43 N S))))))
def O_X4_fetch_0 (N : Nat) (x0 : Option Nat) (x1 : Int32) (x2 : Option Nat) (x3 : Int32) (S : cS) : Prop := ((x1 < (nI 1) → O_X4_fetch_20 N S) ∧ (¬ x1 < (nI 1) → (((nI 40) < x1 → O_X4_fetch_20 N S) ∧ (¬ (nI 40) < x1 → (cis S x0 4) ∧ (cis S (cR S 3 (za x0)) 21 ∧ vp_in x1 (cL S (za (cR S 3 (za x0))))) ∧ (((cA S (za (cR S 3 (za x0))) x1.toNatClampNeg) = 0 → O_X4_fetch_20 N S) ∧ (¬ (cA S (za (cR S 3 (za x0))) x1.toNatClampNeg) = 0 → (cis S x0 4) ∧ (cis S (cR S 3 (za x0)) 21 ∧ vp_in x1 (cL S (za (cR S 3 (za x0))))) ∧ ((x3 < 0 → O_X4_fetch_43 N S) ∧ (¬ x3 < 0 → (cis S x2 20) ∧ (((cA S (za (cR S 3 (za x0))) x1.toNatClampNeg) ≤ ((nI (cL S (za x2))) - x3) → (cis S x0 4 ∧ o_X4_canRead N S (za x0) (((nI 2) * x1) - (nI 2))) ∧ (((f_X4_canRead N S (za x0) (((nI 2) * x1) - (nI 2))) = 0 → O_X4_fetch_89 N S) ∧ (¬ (f_X4_canRead N S (za x0) (((nI 2) * x1) - (nI 2))) = 0 → (((cA S (za (cR S 3 (za x0))) x1.toNatClampNeg) ≤ (if (nI 504) < (cA S (za (cR S 3 (za x0))) x1.toNatClampNeg) then (nI 504) else (cA S (za (cR S 3 (za x0))) x1.toNatClampNeg)) → O_X4_fetch_91 N x0 x2 x3 (cA S (za (cR S 3 (za x0))) x1.toNatClampNeg) (if (nI 504) < (cA S (za (cR S 3 (za x0))) x1.toNatClampNeg) then (nI 504) else (cA S (za (cR S 3 (za x0))) x1.toNatClampNeg)) (((nI 2) * x1) - (nI 2)) S) ∧ (¬ (cA S (za (cR S 3 (za x0))) x1.toNatClampNeg) ≤ (if (nI 504) < (cA S (za (cR S 3 (za x0))) x1.toNatClampNeg) then (nI 504) else (cA S (za (cR S 3 (za x0))) x1.toNatClampNeg)) → (cis S x0 4 ∧ o_X4_canRead N S (za x0) ((((nI 2) * x1) - (nI 2)) + (nI 1))) ∧ (((f_X4_canRead N S (za x0) ((((nI 2) * x1) - (nI 2)) + (nI 1))) = 0 → O_X4_fetch_89 N S) ∧ (¬ (f_X4_canRead N S (za x0) ((((nI 2) * x1) - (nI 2)) + (nI 1))) = 0 → O_X4_fetch_91 N x0 x2 x3 (cA S (za (cR S 3 (za x0))) x1.toNatClampNeg) (if (nI 504) < (cA S (za (cR S 3 (za x0))) x1.toNatClampNeg) then (nI 504) else (cA S (za (cR S 3 (za x0))) x1.toNatClampNeg)) (((nI 2) * x1) - (nI 2)) S))))))) ∧ (¬ (cA S (za (cR S 3 (za x0))) x1.toNatClampNeg) ≤ ((nI (cL S (za x2))) - x3) → O_X4_fetch_43 N S))))))))))
set_option maxRecDepth 100000 in
set_option maxHeartbeats 4000000 in
theorem b_X4_fetch_0 {G : zG} {o : cO} {S : cS} {N : Nat} {Q : Option Value → cS → Prop} {X : Int32 × cS → Prop} (hG : zOK G) (hR : ∀ v S', X (v, S') → Q (some (.int v)) S') {x0 : Option Nat} {x1 : Int32} {x2 : Option Nat} {x3 : Int32} (ok : O_X4_fetch_0 N x0 x1 x2 x3 S) (hx : X (F_X4_fetch_0 N x0 x1 x2 x3 S)) : cX G o dX4_fetch mX4_fetch 0 [some (va_rf x0), some (.int x1), some (va_rf x2), some (.int x3), none, none, none] [] S Q := by
  unfold O_X4_fetch_0 at ok
  unfold F_X4_fetch_0 at hx
  refine c_iload_n dX4_fetch_0 rfl rfl ?_
  refine c_iconst (v := nI 1) dX4_fetch_1 (by decide) ?_
  refine c_icmp_lt (tgt := 20) dX4_fetch_2 (by decide) (fun c_2 => ?_) (fun c_2 => ?_)
  · have ok := ok.1 c_2
    have hx := xif_p c_2 hx
    exact cX.cutz (b_X4_fetch_20 hG hR ok hx) trivial
  · have ok := ok.2 c_2
    have hx := xif_n c_2 hx
    refine c_iload_n dX4_fetch_5 rfl rfl ?_
    refine c_bipush (v := nI 40) dX4_fetch_6 (by decide) ?_
    refine c_icmp_gt (tgt := 20) dX4_fetch_8 (by decide) (fun c_8 => ?_) (fun c_8 => ?_)
    · have ok := ok.1 c_8
      have hx := xif_p c_8 hx
      exact cX.cutz (b_X4_fetch_20 hG hR ok hx) trivial
    · have ok := ok.2 c_8
      have hx := xif_n c_8 hx
      refine c_aload_nQ dX4_fetch_11 rfl rfl ?_
      refine c_getR (C := RX4) (T := TX4) (N := 10) (ci := 3) (k := 3) ⟨rfl, inT4, by decide, fX4_24⟩ (by decide) (by decide) (by decide) dX4_fetch_12 ok.1 ?_
      have ok := ok.2
      refine c_iload_n dX4_fetch_15 rfl rfl ?_
      refine c_iald dX4_fetch_16 ok.1 ?_
      have ok := ok.2
      refine c_if_ne (tgt := 22) dX4_fetch_17 (by decide) (fun c_17 => ?_) (fun c_17 => ?_)
      · have ok := ok.2 c_17
        have hx := xif_n c_17 hx
        refine c_aload_nQ dX4_fetch_22 rfl rfl ?_
        refine c_getR (C := RX4) (T := TX4) (N := 10) (ci := 3) (k := 3) ⟨rfl, inT4, by decide, fX4_24⟩ (by decide) (by decide) (by decide) dX4_fetch_23 ok.1 ?_
        have ok := ok.2
        refine c_iload_n dX4_fetch_26 rfl rfl ?_
        refine c_iald dX4_fetch_27 ok.1 ?_
        have ok := ok.2
        refine c_istore_4 dX4_fetch_28 (by decide) rfl ?_
        refine c_iload_n dX4_fetch_30 rfl rfl ?_
        refine c_if_lt (tgt := 43) dX4_fetch_31 (by decide) (fun c_31 => ?_) (fun c_31 => ?_)
        · have ok := ok.1 c_31
          have hx := xif_p c_31 hx
          exact cX.cutz (b_X4_fetch_43 hG hR ok hx) trivial
        · have ok := ok.2 c_31
          have hx := xif_n c_31 hx
          refine c_iload dX4_fetch_34 rfl ?_
          refine c_aload_nQ dX4_fetch_36 rfl rfl ?_
          refine c_alen (t := 0) (ty := .byte) rfl dX4_fetch_37 ok.1 ?_
          have ok := ok.2
          refine c_iload_n dX4_fetch_38 rfl rfl ?_
          refine c_isub dX4_fetch_39 ?_
          refine c_icmp_le (tgt := 45) dX4_fetch_40 (by decide) (fun c_40 => ?_) (fun c_40 => ?_)
          · have ok := ok.1 c_40
            have hx := xif_p c_40 hx
            refine c_iload dX4_fetch_45 rfl ?_
            refine c_sipush (v := nI 504) dX4_fetch_47 (by decide) ?_
            refine c_mmin dX4_fetch_50 lX4_45.1 (by decide) (by decide) ?_
            refine c_istore_5 dX4_fetch_53 (by decide) rfl ?_
            refine c_iconst (v := nI 2) dX4_fetch_55 (by decide) ?_
            refine c_iload_n dX4_fetch_56 rfl rfl ?_
            refine c_imul dX4_fetch_57 ?_
            refine c_iconst (v := nI 2) dX4_fetch_58 (by decide) ?_
            refine c_isub dX4_fetch_59 ?_
            refine c_istore_6 dX4_fetch_60 (by decide) rfl ?_
            refine c_aload_nQ dX4_fetch_62 rfl rfl ?_
            refine c_iload dX4_fetch_63 rfl ?_
            refine c_V1iE (ci := 3) (rr := (RX4, TX4, 10)) (y' := mX4_canRead) dX4_fetch_65 lX4_84 kX4_canRead ⟨by decide, by decide⟩ rfl rfl (by decide) ok.1.1 (Nat.le_of_ble_eq_true rfl) (cc_X4_canRead hG ok.1.2) ?_
            have ok := ok.2
            refine c_if_eq (tgt := 89) dX4_fetch_68 (by decide) (fun c_68 => ?_) (fun c_68 => ?_)
            · have ok := ok.1 c_68
              have hx := xif_p c_68 hx
              exact cX.cutz (b_X4_fetch_89 hG hR ok hx) trivial
            · have ok := ok.2 c_68
              have hx := xif_n c_68 hx
              refine c_iload dX4_fetch_71 rfl ?_
              refine c_iload dX4_fetch_73 rfl ?_
              refine c_icmp_le (tgt := 91) dX4_fetch_75 (by decide) (fun c_75 => ?_) (fun c_75 => ?_)
              · have ok := ok.1 c_75
                have hx := xif_p c_75 hx
                exact cX.cutz (b_X4_fetch_91 hG hR ok hx) ⟨rfl, rfl, rfl, rfl, rfl, rfl, trivial⟩
              · have ok := ok.2 c_75
                have hx := xif_n c_75 hx
                refine c_aload_nQ dX4_fetch_78 rfl rfl ?_
                refine c_iload dX4_fetch_79 rfl ?_
                refine c_iconst (v := nI 1) dX4_fetch_81 (by decide) ?_
                refine c_iadd dX4_fetch_82 ?_
                refine c_V1iE (ci := 3) (rr := (RX4, TX4, 10)) (y' := mX4_canRead) dX4_fetch_83 lX4_84 kX4_canRead ⟨by decide, by decide⟩ rfl rfl (by decide) ok.1.1 (Nat.le_of_ble_eq_true rfl) (cc_X4_canRead hG ok.1.2) ?_
                have ok := ok.2
                refine c_if_ne (tgt := 91) dX4_fetch_86 (by decide) (fun c_86 => ?_) (fun c_86 => ?_)
                · have ok := ok.2 c_86
                  have hx := xif_n c_86 hx
                  exact cX.cutz (b_X4_fetch_91 hG hR ok hx) ⟨rfl, rfl, rfl, rfl, rfl, rfl, trivial⟩
                · have ok := ok.1 c_86
                  have hx := xif_p c_86 hx
                  exact cX.cutz (b_X4_fetch_89 hG hR ok hx) trivial
          · have ok := ok.2 c_40
            have hx := xif_n c_40 hx
            exact cX.cutz (b_X4_fetch_43 hG hR ok hx) trivial
      · have ok := ok.1 c_17
        have hx := xif_p c_17 hx
        exact cX.cutz (b_X4_fetch_20 hG hR ok hx) trivial
def f_X4_fetch (N : Nat) (S : cS) (a0 : Nat) (x1 : Int32) (x2 : Option Nat) (x3 : Int32) : Int32 × cS := F_X4_fetch_0 N (some a0) x1 x2 x3 S
def o_X4_fetch (N : Nat) (S : cS) (a0 : Nat) (x1 : Int32) (x2 : Option Nat) (x3 : Int32) : Prop := O_X4_fetch_0 N (some a0) x1 x2 x3 S
set_option maxRecDepth 100000 in
set_option maxHeartbeats 4000000 in
theorem cc_X4_fetch {G : zG} {o : cO} {S : cS} {N : Nat} (hG : zOK G) {a0 : Nat} {x1 : Int32} {x2 : Option Nat} {x3 : Int32} (ok : o_X4_fetch N S a0 x1 x2 x3) : cCi G o dX4_fetch mX4_fetch [.ref a0, .int x1, va_rf x2, .int x3] S (fun v S' => v = (f_X4_fetch N S a0 x1 x2 x3).1 ∧ S' = (f_X4_fetch N S a0 x1 x2 x3).2) := by
  refine cC.ofX rfl (by cases x2 <;> exact Nat.le_of_ble_eq_true rfl) ?_
  rw [show zargs mX4_fetch.2.2.1 [.ref a0, .int x1, va_rf x2, .int x3] = [some (.ref a0), some (.int x1), some (va_rf x2), some (.int x3), none, none, none] from by cases x2 <;> rfl]
  exact cX.cutz (b_X4_fetch_0 (X := fun F => F = f_X4_fetch N S a0 x1 x2 x3) hG (fun v S' h => ⟨v, rfl, by rw [← h], by rw [← h]⟩) ok rfl) ⟨rfl, rfl, rfl, rfl, trivial⟩
/-! X5_init -/
def F_X5_init_11 (N : Nat) (x0 : Option Nat) (x1 : Int32) (S : cS) : cS := (csR (csNew S 20 x1.toNatClampNeg) 0 (za x0) (some (cn S)))
def O_X5_init_11 (N : Nat) (x0 : Option Nat) (x1 : Int32) (S : cS) : Prop := (¬ x1 < 0 ∧ x1.toNatClampNeg ≤ 1000000) ∧ (cis (csNew S 20 x1.toNatClampNeg) x0 5) ∧ True
set_option maxRecDepth 100000 in
set_option maxHeartbeats 4000000 in
theorem b_X5_init_11 {G : zG} {o : cO} {S : cS} {N : Nat} {Q : Option Value → cS → Prop} {X : cS → Prop} (hG : zOK G) (hR : ∀ S', X S' → Q none S') {x0 : Option Nat} {x1 : Int32} (ok : O_X5_init_11 N x0 x1 S) (hx : X (F_X5_init_11 N x0 x1 S)) : cX G o dX5_init mX5_init 11 [some (va_rf x0), some (.int x1)] [] S Q := by
  unfold O_X5_init_11 at ok
  unfold F_X5_init_11 at hx
  refine c_aload_nQ dX5_init_11 rfl rfl ?_
  refine c_iload_n dX5_init_12 rfl rfl ?_
  refine c_newa0 dX5_init_13 ok.1.1 ok.1.2 ?_
  have ok := ok.2
  refine c_putRF (C := RX5) (T := TX5) (N := 7) (ci := 4) (k := 0) ⟨rfl, inT5, by decide, fX5_15⟩ ftT5 rfl rfl rfl (by decide) (by decide) (by decide) (fun v => by cases v <;> rfl) (fun v => by cases v <;> rfl) dX5_init_15 ok.1 ?_
  have ok := ok.2
  exact c_return rfl dX5_init_18 (hR _ hx)
def F_X5_init_0 (N : Nat) (x0 : Option Nat) (x1 : Int32) (S : cS) : cS := (F_X5_init_11 N x0 x1 (csR (csNew S 22 (nI 4).toNatClampNeg) 1 (za x0) (some (cn S))))
def O_X5_init_0 (N : Nat) (x0 : Option Nat) (x1 : Int32) (S : cS) : Prop := (x0 = some (za x0)) ∧ (¬ (nI 4) < 0 ∧ (nI 4).toNatClampNeg ≤ 1000000) ∧ (cis (csNew S 22 (nI 4).toNatClampNeg) x0 5) ∧ O_X5_init_11 N x0 x1 (csR (csNew S 22 (nI 4).toNatClampNeg) 1 (za x0) (some (cn S)))
set_option maxRecDepth 100000 in
set_option maxHeartbeats 4000000 in
theorem b_X5_init_0 {G : zG} {o : cO} {S : cS} {N : Nat} {Q : Option Value → cS → Prop} {X : cS → Prop} (hG : zOK G) (hR : ∀ S', X S' → Q none S') {x0 : Option Nat} {x1 : Int32} (ok : O_X5_init_0 N x0 x1 S) (hx : X (F_X5_init_0 N x0 x1 S)) : cX G o dX5_init mX5_init 0 [some (va_rf x0), some (.int x1)] [] S Q := by
  unfold O_X5_init_0 at ok
  unfold F_X5_init_0 at hx
  refine c_aload_nQ dX5_init_0 rfl rfl ?_
  refine c_objInit dX5_init_1 qX5_3 objI objC (by decide) (Nat.le_of_ble_eq_true rfl) ok.1 ?_
  have ok := ok.2
  refine c_aload_nQ dX5_init_4 rfl rfl ?_
  refine c_iconst (v := nI 4) dX5_init_5 (by decide) ?_
  refine c_newa2 dX5_init_6 ok.1.1 ok.1.2 ?_
  have ok := ok.2
  refine c_putRF (C := RX5) (T := TX5) (N := 7) (ci := 4) (k := 1) ⟨rfl, inT5, by decide, fX5_9⟩ ftT5 rfl rfl rfl (by decide) (by decide) (by decide) (fun v => by cases v <;> rfl) (fun v => by cases v <;> rfl) dX5_init_8 ok.1 ?_
  have ok := ok.2
  exact cX.cutz (b_X5_init_11 hG hR ok hx) ⟨rfl, rfl, trivial⟩
def f_X5_init (N : Nat) (S : cS) (a0 : Nat) (x1 : Int32) : cS := F_X5_init_0 N (some a0) x1 S
def o_X5_init (N : Nat) (S : cS) (a0 : Nat) (x1 : Int32) : Prop := O_X5_init_0 N (some a0) x1 S
set_option maxRecDepth 100000 in
set_option maxHeartbeats 4000000 in
theorem cc_X5_init {G : zG} {o : cO} {S : cS} {N : Nat} (hG : zOK G) {a0 : Nat} {x1 : Int32} (ok : o_X5_init N S a0 x1) : cCv G o dX5_init mX5_init [.ref a0, .int x1] S (fun S' => S' = f_X5_init N S a0 x1) := by
  refine cC.ofX rfl (by exact Nat.le_of_ble_eq_true rfl) ?_
  show cX G o dX5_init mX5_init 0 [some (.ref a0), some (.int x1)] [] S _
  exact cX.cutz (b_X5_init_0 (X := fun F => F = f_X5_init N S a0 x1) hG (fun S' h => ⟨rfl, h⟩) ok rfl) ⟨rfl, rfl, trivial⟩
/-! X9_fresh -/
def F_X9_fresh_112 (N : Nat) (x3 : Option Nat) (S : cS) : Option Nat × cS := (x3, (csI S 5 (za x3) (nI 0)))
def O_X9_fresh_112 (N : Nat) (x3 : Option Nat) (S : cS) : Prop := (cis S x3 5) ∧ True
set_option maxRecDepth 100000 in
set_option maxHeartbeats 4000000 in
theorem b_X9_fresh_112 {G : zG} {o : cO} {S : cS} {N : Nat} {Q : Option Value → cS → Prop} {X : Option Nat × cS → Prop} (hG : zOK G) (hR : ∀ v S', X (v, S') → Q (some (va_rf v)) S') {x3 : Option Nat} (ok : O_X9_fresh_112 N x3 S) (hx : X (F_X9_fresh_112 N x3 S)) : cX G o dX9_fresh mX9_fresh 112 [none, none, none, some (va_rf x3)] [] S Q := by
  unfold O_X9_fresh_112 at ok
  unfold F_X9_fresh_112 at hx
  refine c_aload_nQ dX9_fresh_112 rfl rfl ?_
  refine c_iconst (v := nI 0) dX9_fresh_113 (by decide) ?_
  refine c_putI (C := RX5) (T := TX5) (N := 7) (ci := 4) (k := 5) ⟨rfl, inT5, by decide, fX9_92⟩ ftT5 rfl (by decide) (by decide) (by decide) rfl rfl dX9_fresh_114 ok.1 ?_
  have ok := ok.2
  refine c_aload_nQ dX9_fresh_117 rfl rfl ?_
  exact c_areturn rfl (Or.inl ⟨_, rfl⟩) dX9_fresh_118 (hR _ _ hx)
def F_X9_fresh_102 (N : Nat) (x3 : Option Nat) (S : cS) : Option Nat × cS := (F_X9_fresh_112 N x3 (csI (csI S 3 (za x3) (nI 1)) 4 (za x3) (nI 0)))
def O_X9_fresh_102 (N : Nat) (x3 : Option Nat) (S : cS) : Prop := (cis S x3 5) ∧ (cis (csI S 3 (za x3) (nI 1)) x3 5) ∧ O_X9_fresh_112 N x3 (csI (csI S 3 (za x3) (nI 1)) 4 (za x3) (nI 0))
set_option maxRecDepth 100000 in
set_option maxHeartbeats 4000000 in
theorem b_X9_fresh_102 {G : zG} {o : cO} {S : cS} {N : Nat} {Q : Option Value → cS → Prop} {X : Option Nat × cS → Prop} (hG : zOK G) (hR : ∀ v S', X (v, S') → Q (some (va_rf v)) S') {x3 : Option Nat} (ok : O_X9_fresh_102 N x3 S) (hx : X (F_X9_fresh_102 N x3 S)) : cX G o dX9_fresh mX9_fresh 102 [none, none, none, some (va_rf x3)] [] S Q := by
  unfold O_X9_fresh_102 at ok
  unfold F_X9_fresh_102 at hx
  refine c_aload_nQ dX9_fresh_102 rfl rfl ?_
  refine c_iconst (v := nI 1) dX9_fresh_103 (by decide) ?_
  refine c_putI (C := RX5) (T := TX5) (N := 7) (ci := 4) (k := 3) ⟨rfl, inT5, by decide, fX9_57⟩ ftT5 rfl (by decide) (by decide) (by decide) rfl rfl dX9_fresh_104 ok.1 ?_
  have ok := ok.2
  refine c_aload_nQ dX9_fresh_107 rfl rfl ?_
  refine c_iconst (v := nI 0) dX9_fresh_108 (by decide) ?_
  refine c_putI (C := RX5) (T := TX5) (N := 7) (ci := 4) (k := 4) ⟨rfl, inT5, by decide, fX9_89⟩ ftT5 rfl (by decide) (by decide) (by decide) rfl rfl dX9_fresh_109 ok.1 ?_
  have ok := ok.2
  exact cX.cutz (b_X9_fresh_112 hG hR ok hx) ⟨rfl, trivial⟩
def F_X9_fresh_96 (N : Nat) (x3 : Option Nat) (s0 : Option Nat) (s1 : Int32) (s2 : Int32) (S : cS) : Option Nat × cS := (F_X9_fresh_102 N x3 (csI S 2 (za s0) (if s1 < s2 then s2 else s1)))
def O_X9_fresh_96 (N : Nat) (x3 : Option Nat) (s0 : Option Nat) (s1 : Int32) (s2 : Int32) (S : cS) : Prop := (cis S s0 5) ∧ O_X9_fresh_102 N x3 (csI S 2 (za s0) (if s1 < s2 then s2 else s1))
set_option maxRecDepth 100000 in
set_option maxHeartbeats 4000000 in
theorem b_X9_fresh_96 {G : zG} {o : cO} {S : cS} {N : Nat} {Q : Option Value → cS → Prop} {X : Option Nat × cS → Prop} (hG : zOK G) (hR : ∀ v S', X (v, S') → Q (some (va_rf v)) S') {x3 : Option Nat} {s0 : Option Nat} {s1 : Int32} {s2 : Int32} (ok : O_X9_fresh_96 N x3 s0 s1 s2 S) (hx : X (F_X9_fresh_96 N x3 s0 s1 s2 S)) : cX G o dX9_fresh mX9_fresh 96 [none, none, none, some (va_rf x3)] [.int s2, .int s1, va_rf s0] S Q := by
  unfold O_X9_fresh_96 at ok
  unfold F_X9_fresh_96 at hx
  refine c_mmax dX9_fresh_96 lX9_83.1 (by decide) (by simp only [List.map_cons, List.map_nil, List.sum_cons, List.sum_nil, zcat_rf, zcat_i, zcat_l, zcat_r] <;> decide) ?_
  refine c_putI (C := RX5) (T := TX5) (N := 7) (ci := 4) (k := 2) ⟨rfl, inT5, by decide, fX9_86⟩ ftT5 rfl (by decide) (by decide) (by decide) rfl rfl dX9_fresh_99 ok.1 ?_
  have ok := ok.2
  exact cX.cutz (b_X9_fresh_102 hG hR ok hx) ⟨rfl, trivial⟩
def F_X9_fresh_80 (N : Nat) (x1 : Int32) (x3 : Option Nat) (S : cS) : Option Nat × cS := (F_X9_fresh_96 N x3 x3 (nI 0) (if (nI (cL (csR S 6 (za x3) (none : Option Nat)) (za (cR (csR S 6 (za x3) (none : Option Nat)) 0 (za x3))))) < x1 then (nI (cL (csR S 6 (za x3) (none : Option Nat)) (za (cR (csR S 6 (za x3) (none : Option Nat)) 0 (za x3))))) else x1) (csR S 6 (za x3) (none : Option Nat)))
def O_X9_fresh_80 (N : Nat) (x1 : Int32) (x3 : Option Nat) (S : cS) : Prop := (cis S x3 5) ∧ (cis (csR S 6 (za x3) (none : Option Nat)) x3 5) ∧ (cis (csR S 6 (za x3) (none : Option Nat)) (cR (csR S 6 (za x3) (none : Option Nat)) 0 (za x3)) 20) ∧ O_X9_fresh_96 N x3 x3 (nI 0) (if (nI (cL (csR S 6 (za x3) (none : Option Nat)) (za (cR (csR S 6 (za x3) (none : Option Nat)) 0 (za x3))))) < x1 then (nI (cL (csR S 6 (za x3) (none : Option Nat)) (za (cR (csR S 6 (za x3) (none : Option Nat)) 0 (za x3))))) else x1) (csR S 6 (za x3) (none : Option Nat))
set_option maxRecDepth 100000 in
set_option maxHeartbeats 4000000 in
theorem b_X9_fresh_80 {G : zG} {o : cO} {S : cS} {N : Nat} {Q : Option Value → cS → Prop} {X : Option Nat × cS → Prop} (hG : zOK G) (hR : ∀ v S', X (v, S') → Q (some (va_rf v)) S') {x1 : Int32} {x3 : Option Nat} (ok : O_X9_fresh_80 N x1 x3 S) (hx : X (F_X9_fresh_80 N x1 x3 S)) : cX G o dX9_fresh mX9_fresh 80 [none, some (.int x1), none, some (va_rf x3)] [] S Q := by
  unfold O_X9_fresh_80 at ok
  unfold F_X9_fresh_80 at hx
  refine c_aload_nQ dX9_fresh_80 rfl rfl ?_
  refine c_null' dX9_fresh_81 ?_
  refine c_putR (C := RX5) (T := TX5) (N := 7) (ci := 4) (k := 6) ⟨rfl, inT5, by decide, fX9_70⟩ ftT5 rfl (by decide) (by decide) (by decide) (fun v => by cases v <;> rfl) (fun v => by cases v <;> rfl) dX9_fresh_82 ok.1 ?_
  have ok := ok.2
  refine c_aload_nQ dX9_fresh_85 rfl rfl ?_
  refine c_iconst (v := nI 0) dX9_fresh_86 (by decide) ?_
  refine c_iload_n dX9_fresh_87 rfl rfl ?_
  refine c_aload_nQ dX9_fresh_88 rfl rfl ?_
  refine c_getR (C := RX5) (T := TX5) (N := 7) (ci := 4) (k := 0) ⟨rfl, inT5, by decide, fX9_73⟩ (by decide) (by decide) (by decide) dX9_fresh_89 ok.1 ?_
  have ok := ok.2
  refine c_alen (t := 0) (ty := .byte) rfl dX9_fresh_92 ok.1 ?_
  have ok := ok.2
  refine c_mmin dX9_fresh_93 lX9_77.1 (by decide) (by simp only [List.map_cons, List.map_nil, List.sum_cons, List.sum_nil, zcat_rf, zcat_i, zcat_l, zcat_r] <;> decide) ?_
  exact cX.cutz (b_X9_fresh_96 hG hR ok hx) ⟨rfl, trivial⟩
def F_X9_fresh_53 (N : Nat) (x1 : Int32) (s0 : Option Nat) (S : cS) : Option Nat × cS := (F_X9_fresh_80 N x1 s0 S)
def O_X9_fresh_53 (N : Nat) (x1 : Int32) (s0 : Option Nat) (S : cS) : Prop := O_X9_fresh_80 N x1 s0 S
set_option maxRecDepth 100000 in
set_option maxHeartbeats 4000000 in
theorem b_X9_fresh_53 {G : zG} {o : cO} {S : cS} {N : Nat} {Q : Option Value → cS → Prop} {X : Option Nat × cS → Prop} (hG : zOK G) (hR : ∀ v S', X (v, S') → Q (some (va_rf v)) S') {x1 : Int32} {s0 : Option Nat} (ok : O_X9_fresh_53 N x1 s0 S) (hx : X (F_X9_fresh_53 N x1 s0 S)) : cX G o dX9_fresh mX9_fresh 53 [none, some (.int x1), none, none] [va_rf s0] S Q := by
  unfold O_X9_fresh_53 at ok
  unfold F_X9_fresh_53 at hx
  refine c_astore_3Q dX9_fresh_53 (by decide) rfl ?_
  refine c_goto (tgt := 80) dX9_fresh_54 (by decide) ?_
  exact cX.cutz (b_X9_fresh_80 hG hR ok hx) ⟨rfl, rfl, trivial⟩
def F_X9_fresh_50 (N : Nat) (x1 : Int32) (s0 : Option Nat) (s1 : Option Nat) (s2 : Int32) (S : cS) : Option Nat × cS := (F_X9_fresh_53 N x1 s0 (f_X5_init N S (za s1) s2))
def O_X9_fresh_50 (N : Nat) (x1 : Int32) (s0 : Option Nat) (s1 : Option Nat) (s2 : Int32) (S : cS) : Prop := (s1 = some (za s1) ∧ o_X5_init N S (za s1) s2) ∧ O_X9_fresh_53 N x1 s0 (f_X5_init N S (za s1) s2)
set_option maxRecDepth 100000 in
set_option maxHeartbeats 4000000 in
theorem b_X9_fresh_50 {G : zG} {o : cO} {S : cS} {N : Nat} {Q : Option Value → cS → Prop} {X : Option Nat × cS → Prop} (hG : zOK G) (hR : ∀ v S', X (v, S') → Q (some (va_rf v)) S') {x1 : Int32} {s0 : Option Nat} {s1 : Option Nat} {s2 : Int32} (ok : O_X9_fresh_50 N x1 s0 s1 s2 S) (hx : X (F_X9_fresh_50 N x1 s0 s1 s2 S)) : cX G o dX9_fresh mX9_fresh 50 [none, some (.int x1), none, none] [.int s2, va_rf s1, va_rf s0] S Q := by
  unfold O_X9_fresh_50 at ok
  unfold F_X9_fresh_50 at hx
  refine c_I1vE (y' := mX5_init) dX9_fresh_50 lX9_67 kX5_init ⟨by decide, by decide⟩ ⟨rfl, rfl⟩ ok.1.1 (by simp only [List.map_cons, List.map_nil, List.sum_cons, List.sum_nil, zcat_rf, zcat_i, zcat_l, zcat_r] <;> decide) (cc_X5_init hG ok.1.2) ?_
  have ok := ok.2
  exact cX.cutz (b_X9_fresh_53 hG hR ok hx) ⟨rfl, trivial⟩
def F_X9_fresh_28 (N : Nat) (x0 : Option Nat) (x1 : Int32) (x2 : Int32) (s0 : Option Nat) (S : cS) : Option Nat × cS := (if s0 = none then (if x2 = 0 then (F_X9_fresh_50 N x1 (some (cn S)) (some (cn S)) (nI 1000) (csNew S 5 7)) else (F_X9_fresh_50 N x1 (some (cn S)) (some (cn S)) (nI 128) (csNew S 5 7))) else (if x2 = 0 then (F_X9_fresh_80 N x1 s0 (csR S 8 (za x0) (cR S 6 (za s0)))) else (F_X9_fresh_80 N x1 s0 (csR S 7 (za x0) (cR S 6 (za s0))))))
def O_X9_fresh_28 (N : Nat) (x0 : Option Nat) (x1 : Int32) (x2 : Int32) (s0 : Option Nat) (S : cS) : Prop := ((s0 = none → ((x2 = 0 → O_X9_fresh_50 N x1 (some (cn S)) (some (cn S)) (nI 1000) (csNew S 5 7)) ∧ (¬ x2 = 0 → O_X9_fresh_50 N x1 (some (cn S)) (some (cn S)) (nI 128) (csNew S 5 7)))) ∧ (¬ s0 = none → ((x2 = 0 → (cis S s0 5) ∧ (cis S x0 8) ∧ O_X9_fresh_80 N x1 s0 (csR S 8 (za x0) (cR S 6 (za s0)))) ∧ (¬ x2 = 0 → (cis S s0 5) ∧ (cis S x0 8) ∧ O_X9_fresh_80 N x1 s0 (csR S 7 (za x0) (cR S 6 (za s0)))))))
set_option maxRecDepth 100000 in
set_option maxHeartbeats 4000000 in
theorem b_X9_fresh_28 {G : zG} {o : cO} {S : cS} {N : Nat} {Q : Option Value → cS → Prop} {X : Option Nat × cS → Prop} (hG : zOK G) (hR : ∀ v S', X (v, S') → Q (some (va_rf v)) S') {x0 : Option Nat} {x1 : Int32} {x2 : Int32} {s0 : Option Nat} (ok : O_X9_fresh_28 N x0 x1 x2 s0 S) (hx : X (F_X9_fresh_28 N x0 x1 x2 s0 S)) : cX G o dX9_fresh mX9_fresh 28 [some (va_rf x0), some (.int x1), some (.int x2), none] [va_rf s0] S Q := by
  unfold O_X9_fresh_28 at ok
  unfold F_X9_fresh_28 at hx
  refine c_astore_3Q dX9_fresh_28 (by decide) rfl ?_
  refine c_aload_nQ dX9_fresh_29 rfl rfl ?_
  refine c_ifnonnullI (tgt := 57) dX9_fresh_30 (by decide) (fun c_30 => ?_) (fun c_30 => ?_)
  · have ok := ok.2 c_30
    have hx := xif_n c_30 hx
    refine c_iload_n dX9_fresh_57 rfl rfl ?_
    refine c_if_eq (tgt := 72) dX9_fresh_58 (by decide) (fun c_58 => ?_) (fun c_58 => ?_)
    · have ok := ok.1 c_58
      have hx := xif_p c_58 hx
      refine c_aload_nQ dX9_fresh_72 rfl rfl ?_
      refine c_aload_nQ dX9_fresh_73 rfl rfl ?_
      refine c_getR (C := RX5) (T := TX5) (N := 7) (ci := 4) (k := 6) ⟨rfl, inT5, by decide, fX9_70⟩ (by decide) (by decide) (by decide) dX9_fresh_74 ok.1 ?_
      have ok := ok.2
      refine c_putR (C := RX9) (T := TX9) (N := 13) (ci := 7) (k := 8) ⟨rfl, inT9, by decide, fX9_64⟩ ftT9 rfl (by decide) (by decide) (by decide) (fun v => by cases v <;> rfl) (fun v => by cases v <;> rfl) dX9_fresh_77 ok.1 ?_
      have ok := ok.2
      exact cX.cutz (b_X9_fresh_80 hG hR ok hx) ⟨rfl, rfl, trivial⟩
    · have ok := ok.2 c_58
      have hx := xif_n c_58 hx
      refine c_aload_nQ dX9_fresh_61 rfl rfl ?_
      refine c_aload_nQ dX9_fresh_62 rfl rfl ?_
      refine c_getR (C := RX5) (T := TX5) (N := 7) (ci := 4) (k := 6) ⟨rfl, inT5, by decide, fX9_70⟩ (by decide) (by decide) (by decide) dX9_fresh_63 ok.1 ?_
      have ok := ok.2
      refine c_putR (C := RX9) (T := TX9) (N := 13) (ci := 7) (k := 7) ⟨rfl, inT9, by decide, fX9_60⟩ ftT9 rfl (by decide) (by decide) (by decide) (fun v => by cases v <;> rfl) (fun v => by cases v <;> rfl) dX9_fresh_66 ok.1 ?_
      have ok := ok.2
      refine c_goto (tgt := 80) dX9_fresh_69 (by decide) ?_
      exact cX.cutz (b_X9_fresh_80 hG hR ok hx) ⟨rfl, rfl, trivial⟩
  · have ok := ok.1 c_30
    have hx := xif_p c_30 hx
    refine c_new4 clX9_27 dX9_fresh_33 ?_
    refine c_dup dX9_fresh_36 (zcat_rf _) ?_
    refine c_iload_n dX9_fresh_37 rfl rfl ?_
    refine c_if_eq (tgt := 47) dX9_fresh_38 (by decide) (fun c_38 => ?_) (fun c_38 => ?_)
    · have ok := ok.1 c_38
      have hx := xif_p c_38 hx
      refine c_sipush (v := nI 1000) dX9_fresh_47 (by decide) ?_
      exact cX.cutz (b_X9_fresh_50 hG hR ok hx) ⟨rfl, trivial⟩
    · have ok := ok.2 c_38
      have hx := xif_n c_38 hx
      refine c_sipush (v := nI 128) dX9_fresh_41 (by decide) ?_
      refine c_goto (tgt := 50) dX9_fresh_44 (by decide) ?_
      exact cX.cutz (b_X9_fresh_50 hG hR ok hx) ⟨rfl, trivial⟩
def F_X9_fresh_12 (N : Nat) (x0 : Option Nat) (x1 : Int32) (s0 : Int32) (S : cS) : Option Nat × cS := (if s0 = 0 then (F_X9_fresh_28 N x0 x1 s0 (cR S 8 (za x0)) S) else (F_X9_fresh_28 N x0 x1 s0 (cR S 7 (za x0)) S))
def O_X9_fresh_12 (N : Nat) (x0 : Option Nat) (x1 : Int32) (s0 : Int32) (S : cS) : Prop := ((s0 = 0 → (cis S x0 8) ∧ O_X9_fresh_28 N x0 x1 s0 (cR S 8 (za x0)) S) ∧ (¬ s0 = 0 → (cis S x0 8) ∧ O_X9_fresh_28 N x0 x1 s0 (cR S 7 (za x0)) S))
set_option maxRecDepth 100000 in
set_option maxHeartbeats 4000000 in
theorem b_X9_fresh_12 {G : zG} {o : cO} {S : cS} {N : Nat} {Q : Option Value → cS → Prop} {X : Option Nat × cS → Prop} (hG : zOK G) (hR : ∀ v S', X (v, S') → Q (some (va_rf v)) S') {x0 : Option Nat} {x1 : Int32} {s0 : Int32} (ok : O_X9_fresh_12 N x0 x1 s0 S) (hx : X (F_X9_fresh_12 N x0 x1 s0 S)) : cX G o dX9_fresh mX9_fresh 12 [some (va_rf x0), some (.int x1), none, none] [.int s0] S Q := by
  unfold O_X9_fresh_12 at ok
  unfold F_X9_fresh_12 at hx
  refine c_istore_2 dX9_fresh_12 (by decide) rfl ?_
  refine c_iload_n dX9_fresh_13 rfl rfl ?_
  refine c_if_eq (tgt := 24) dX9_fresh_14 (by decide) (fun c_14 => ?_) (fun c_14 => ?_)
  · have ok := ok.1 c_14
    have hx := xif_p c_14 hx
    refine c_aload_nQ dX9_fresh_24 rfl rfl ?_
    refine c_getR (C := RX9) (T := TX9) (N := 13) (ci := 7) (k := 8) ⟨rfl, inT9, by decide, fX9_64⟩ (by decide) (by decide) (by decide) dX9_fresh_25 ok.1 ?_
    have ok := ok.2
    exact cX.cutz (b_X9_fresh_28 hG hR ok hx) ⟨rfl, rfl, rfl, trivial⟩
  · have ok := ok.2 c_14
    have hx := xif_n c_14 hx
    refine c_aload_nQ dX9_fresh_17 rfl rfl ?_
    refine c_getR (C := RX9) (T := TX9) (N := 13) (ci := 7) (k := 7) ⟨rfl, inT9, by decide, fX9_60⟩ (by decide) (by decide) (by decide) dX9_fresh_18 ok.1 ?_
    have ok := ok.2
    refine c_goto (tgt := 28) dX9_fresh_21 (by decide) ?_
    exact cX.cutz (b_X9_fresh_28 hG hR ok hx) ⟨rfl, rfl, rfl, trivial⟩
def F_X9_fresh_0 (N : Nat) (x0 : Option Nat) (x1 : Int32) (S : cS) : Option Nat × cS := (if (nI 128) < x1 then (F_X9_fresh_12 N x0 x1 (nI 0) S) else (F_X9_fresh_12 N x0 x1 (nI 1) S))
def O_X9_fresh_0 (N : Nat) (x0 : Option Nat) (x1 : Int32) (S : cS) : Prop := (((nI 128) < x1 → O_X9_fresh_12 N x0 x1 (nI 0) S) ∧ (¬ (nI 128) < x1 → O_X9_fresh_12 N x0 x1 (nI 1) S))
set_option maxRecDepth 100000 in
set_option maxHeartbeats 4000000 in
theorem b_X9_fresh_0 {G : zG} {o : cO} {S : cS} {N : Nat} {Q : Option Value → cS → Prop} {X : Option Nat × cS → Prop} (hG : zOK G) (hR : ∀ v S', X (v, S') → Q (some (va_rf v)) S') {x0 : Option Nat} {x1 : Int32} (ok : O_X9_fresh_0 N x0 x1 S) (hx : X (F_X9_fresh_0 N x0 x1 S)) : cX G o dX9_fresh mX9_fresh 0 [some (va_rf x0), some (.int x1), none, none] [] S Q := by
  unfold O_X9_fresh_0 at ok
  unfold F_X9_fresh_0 at hx
  refine c_iload_n dX9_fresh_0 rfl rfl ?_
  refine c_sipush (v := nI 128) dX9_fresh_1 (by decide) ?_
  refine c_icmp_gt (tgt := 11) dX9_fresh_4 (by decide) (fun c_4 => ?_) (fun c_4 => ?_)
  · have ok := ok.1 c_4
    have hx := xif_p c_4 hx
    refine c_iconst (v := nI 0) dX9_fresh_11 (by decide) ?_
    exact cX.cutz (b_X9_fresh_12 hG hR ok hx) ⟨rfl, rfl, trivial⟩
  · have ok := ok.2 c_4
    have hx := xif_n c_4 hx
    refine c_iconst (v := nI 1) dX9_fresh_7 (by decide) ?_
    refine c_goto (tgt := 12) dX9_fresh_8 (by decide) ?_
    exact cX.cutz (b_X9_fresh_12 hG hR ok hx) ⟨rfl, rfl, trivial⟩
def f_X9_fresh (N : Nat) (S : cS) (a0 : Nat) (x1 : Int32) : Option Nat × cS := F_X9_fresh_0 N (some a0) x1 S
def o_X9_fresh (N : Nat) (S : cS) (a0 : Nat) (x1 : Int32) : Prop := O_X9_fresh_0 N (some a0) x1 S
set_option maxRecDepth 100000 in
set_option maxHeartbeats 4000000 in
theorem cc_X9_fresh {G : zG} {o : cO} {S : cS} {N : Nat} (hG : zOK G) {a0 : Nat} {x1 : Int32} (ok : o_X9_fresh N S a0 x1) : cCq G o dX9_fresh mX9_fresh [.ref a0, .int x1] S (fun v S' => v = (f_X9_fresh N S a0 x1).1 ∧ S' = (f_X9_fresh N S a0 x1).2) := by
  refine cC.ofX rfl (by exact Nat.le_of_ble_eq_true rfl) ?_
  show cX G o dX9_fresh mX9_fresh 0 [some (.ref a0), some (.int x1), none, none] [] S _
  exact cX.cutz (b_X9_fresh_0 (X := fun F => F = f_X9_fresh N S a0 x1) hG (fun v S' h => ⟨v, rfl, by rw [← h], by rw [← h]⟩) ok rfl) ⟨rfl, rfl, trivial⟩
/-! X6_decided -/
def F_X6_decided_101 (N : Nat) (x0 : Option Nat) (x1 : Int32) (S : cS) : Option Nat × cS := ((cP S (za (cR S 7 (za x0))) (x1 &&& (nI 3)).toNatClampNeg), S)
def O_X6_decided_101 (N : Nat) (x0 : Option Nat) (x1 : Int32) (S : cS) : Prop := (cis S x0 6) ∧ (cis S (cR S 7 (za x0)) 24 ∧ vp_in (x1 &&& (nI 3)) (cL S (za (cR S 7 (za x0))))) ∧ True
set_option maxRecDepth 100000 in
set_option maxHeartbeats 4000000 in
theorem b_X6_decided_101 {G : zG} {o : cO} {S : cS} {N : Nat} {Q : Option Value → cS → Prop} {X : Option Nat × cS → Prop} (hG : zOK G) (hR : ∀ v S', X (v, S') → Q (some (va_rf v)) S') {x0 : Option Nat} {x1 : Int32} (ok : O_X6_decided_101 N x0 x1 S) (hx : X (F_X6_decided_101 N x0 x1 S)) : cX G o dX6_decided mX6_decided 101 [some (va_rf x0), some (.int x1), none, none] [] S Q := by
  unfold O_X6_decided_101 at ok
  unfold F_X6_decided_101 at hx
  refine c_aload_nQ dX6_decided_101 rfl rfl ?_
  refine c_getR (C := RX6) (T := TX6) (N := 19) (ci := 5) (k := 7) ⟨rfl, inT6, by decide, fX6_35⟩ (by decide) (by decide) (by decide) dX6_decided_102 ok.1 ?_
  have ok := ok.2
  refine c_iload_n dX6_decided_105 rfl rfl ?_
  refine c_iconst (v := nI 3) dX6_decided_106 (by decide) ?_
  refine c_iand dX6_decided_107 ?_
  refine c_aald (t := 4) (ty := (.object "QuorumLedger$Message")) rfl rfl (by decide) dX6_decided_108 ok.1 ?_
  have ok := ok.2
  exact c_areturn rfl (Or.inl ⟨_, rfl⟩) dX6_decided_109 (hR _ _ hx)
def F_X6_decided_92 (N : Nat) (x0 : Option Nat) (x1 : Int32) (x3 : Option Nat) (S : cS) : Option Nat × cS := (F_X6_decided_101 N x0 x1 (csP S (za (cR S 7 (za x0))) (x1 &&& (nI 3)).toNatClampNeg x3))
def O_X6_decided_92 (N : Nat) (x0 : Option Nat) (x1 : Int32) (x3 : Option Nat) (S : cS) : Prop := (cis S x0 6) ∧ (cis S (cR S 7 (za x0)) 24 ∧ vp_in (x1 &&& (nI 3)) (cL S (za (cR S 7 (za x0)))) ∧ (x3 = none ∨ cis S x3 5)) ∧ O_X6_decided_101 N x0 x1 (csP S (za (cR S 7 (za x0))) (x1 &&& (nI 3)).toNatClampNeg x3)
set_option maxRecDepth 100000 in
set_option maxHeartbeats 4000000 in
theorem b_X6_decided_92 {G : zG} {o : cO} {S : cS} {N : Nat} {Q : Option Value → cS → Prop} {X : Option Nat × cS → Prop} (hG : zOK G) (hR : ∀ v S', X (v, S') → Q (some (va_rf v)) S') {x0 : Option Nat} {x1 : Int32} {x3 : Option Nat} (ok : O_X6_decided_92 N x0 x1 x3 S) (hx : X (F_X6_decided_92 N x0 x1 x3 S)) : cX G o dX6_decided mX6_decided 92 [some (va_rf x0), some (.int x1), none, some (va_rf x3)] [] S Q := by
  unfold O_X6_decided_92 at ok
  unfold F_X6_decided_92 at hx
  refine c_aload_nQ dX6_decided_92 rfl rfl ?_
  refine c_getR (C := RX6) (T := TX6) (N := 19) (ci := 5) (k := 7) ⟨rfl, inT6, by decide, fX6_35⟩ (by decide) (by decide) (by decide) dX6_decided_93 ok.1 ?_
  have ok := ok.2
  refine c_iload_n dX6_decided_96 rfl rfl ?_
  refine c_iconst (v := nI 3) dX6_decided_97 (by decide) ?_
  refine c_iand dX6_decided_98 ?_
  refine c_aload_nQ dX6_decided_99 rfl rfl ?_
  refine c_aast (t := 4) (ci := 4) (rr := (RX5, TX5, 7)) rfl rfl (by decide) (by decide) dX6_decided_100 ok.1 ?_
  have ok := ok.2
  exact cX.cutz (b_X6_decided_101 hG hR ok hx) ⟨rfl, rfl, trivial⟩
def F_X6_decided_67 (N : Nat) (x0 : Option Nat) (x1 : Int32) (x2 : Int32) (s0 : Option Nat) (S : cS) : Option Nat × cS := (F_X6_decided_92 N x0 x1 s0 (csArow (csA S (za (cR S 0 (za s0))) (nI 0).toNatClampNeg ((nI 4).toInt8.toInt32)) (za (cR (csA S (za (cR S 0 (za s0))) (nI 0).toNatClampNeg ((nI 4).toInt8.toInt32)) 0 (za s0))) (va_cpy (cA (csA S (za (cR S 0 (za s0))) (nI 0).toNatClampNeg ((nI 4).toInt8.toInt32)) (za (cR (csA S (za (cR S 0 (za s0))) (nI 0).toNatClampNeg ((nI 4).toInt8.toInt32)) 10 (za (cR (csA S (za (cR S 0 (za s0))) (nI 0).toNatClampNeg ((nI 4).toInt8.toInt32)) 0 (za x0)))))) (cA (csA S (za (cR S 0 (za s0))) (nI 0).toNatClampNeg ((nI 4).toInt8.toInt32)) (za (cR (csA S (za (cR S 0 (za s0))) (nI 0).toNatClampNeg ((nI 4).toInt8.toInt32)) 0 (za s0)))) (nI 0).toNatClampNeg (nI 1).toNatClampNeg x2.toNatClampNeg)))
def O_X6_decided_67 (N : Nat) (x0 : Option Nat) (x1 : Int32) (x2 : Int32) (s0 : Option Nat) (S : cS) : Prop := (cis S s0 5) ∧ (cis S (cR S 0 (za s0)) 20 ∧ vp_in (nI 0) (cL S (za (cR S 0 (za s0))))) ∧ (cis (csA S (za (cR S 0 (za s0))) (nI 0).toNatClampNeg ((nI 4).toInt8.toInt32)) x0 6) ∧ (cis (csA S (za (cR S 0 (za s0))) (nI 0).toNatClampNeg ((nI 4).toInt8.toInt32)) (cR (csA S (za (cR S 0 (za s0))) (nI 0).toNatClampNeg ((nI 4).toInt8.toInt32)) 0 (za x0)) 9) ∧ (cis (csA S (za (cR S 0 (za s0))) (nI 0).toNatClampNeg ((nI 4).toInt8.toInt32)) s0 5) ∧ (cis (csA S (za (cR S 0 (za s0))) (nI 0).toNatClampNeg ((nI 4).toInt8.toInt32)) (cR (csA S (za (cR S 0 (za s0))) (nI 0).toNatClampNeg ((nI 4).toInt8.toInt32)) 10 (za (cR (csA S (za (cR S 0 (za s0))) (nI 0).toNatClampNeg ((nI 4).toInt8.toInt32)) 0 (za x0)))) 20 ∧ cis (csA S (za (cR S 0 (za s0))) (nI 0).toNatClampNeg ((nI 4).toInt8.toInt32)) (cR (csA S (za (cR S 0 (za s0))) (nI 0).toNatClampNeg ((nI 4).toInt8.toInt32)) 0 (za s0)) 20 ∧ (¬ (nI 0) < 0 ∧ ¬ (nI 1) < 0 ∧ ¬ x2 < 0) ∧ (nI 0).toNatClampNeg + x2.toNatClampNeg ≤ cL (csA S (za (cR S 0 (za s0))) (nI 0).toNatClampNeg ((nI 4).toInt8.toInt32)) (za (cR (csA S (za (cR S 0 (za s0))) (nI 0).toNatClampNeg ((nI 4).toInt8.toInt32)) 10 (za (cR (csA S (za (cR S 0 (za s0))) (nI 0).toNatClampNeg ((nI 4).toInt8.toInt32)) 0 (za x0))))) ∧ (nI 1).toNatClampNeg + x2.toNatClampNeg ≤ cL (csA S (za (cR S 0 (za s0))) (nI 0).toNatClampNeg ((nI 4).toInt8.toInt32)) (za (cR (csA S (za (cR S 0 (za s0))) (nI 0).toNatClampNeg ((nI 4).toInt8.toInt32)) 0 (za s0)))) ∧ O_X6_decided_92 N x0 x1 s0 (csArow (csA S (za (cR S 0 (za s0))) (nI 0).toNatClampNeg ((nI 4).toInt8.toInt32)) (za (cR (csA S (za (cR S 0 (za s0))) (nI 0).toNatClampNeg ((nI 4).toInt8.toInt32)) 0 (za s0))) (va_cpy (cA (csA S (za (cR S 0 (za s0))) (nI 0).toNatClampNeg ((nI 4).toInt8.toInt32)) (za (cR (csA S (za (cR S 0 (za s0))) (nI 0).toNatClampNeg ((nI 4).toInt8.toInt32)) 10 (za (cR (csA S (za (cR S 0 (za s0))) (nI 0).toNatClampNeg ((nI 4).toInt8.toInt32)) 0 (za x0)))))) (cA (csA S (za (cR S 0 (za s0))) (nI 0).toNatClampNeg ((nI 4).toInt8.toInt32)) (za (cR (csA S (za (cR S 0 (za s0))) (nI 0).toNatClampNeg ((nI 4).toInt8.toInt32)) 0 (za s0)))) (nI 0).toNatClampNeg (nI 1).toNatClampNeg x2.toNatClampNeg))
set_option maxRecDepth 100000 in
set_option maxHeartbeats 4000000 in
theorem b_X6_decided_67 {G : zG} {o : cO} {S : cS} {N : Nat} {Q : Option Value → cS → Prop} {X : Option Nat × cS → Prop} (hG : zOK G) (hR : ∀ v S', X (v, S') → Q (some (va_rf v)) S') {x0 : Option Nat} {x1 : Int32} {x2 : Int32} {s0 : Option Nat} (ok : O_X6_decided_67 N x0 x1 x2 s0 S) (hx : X (F_X6_decided_67 N x0 x1 x2 s0 S)) : cX G o dX6_decided mX6_decided 67 [some (va_rf x0), some (.int x1), some (.int x2), none] [va_rf s0] S Q := by
  unfold O_X6_decided_67 at ok
  unfold F_X6_decided_67 at hx
  refine c_astore_3Q dX6_decided_67 (by decide) rfl ?_
  refine c_aload_nQ dX6_decided_68 rfl rfl ?_
  refine c_getR (C := RX5) (T := TX5) (N := 7) (ci := 4) (k := 0) ⟨rfl, inT5, by decide, fX6_131⟩ (by decide) (by decide) (by decide) dX6_decided_69 ok.1 ?_
  have ok := ok.2
  refine c_iconst (v := nI 0) dX6_decided_72 (by decide) ?_
  refine c_iconst (v := nI 4) dX6_decided_73 (by decide) ?_
  refine c_bast dX6_decided_74 ok.1 ?_
  have ok := ok.2
  refine c_aload_nQ dX6_decided_75 rfl rfl ?_
  refine c_getR (C := RX6) (T := TX6) (N := 19) (ci := 5) (k := 0) ⟨rfl, inT6, by decide, fX6_56⟩ (by decide) (by decide) (by decide) dX6_decided_76 ok.1 ?_
  have ok := ok.2
  refine c_getR (C := RX10) (T := TX10) (N := 12) (ci := 8) (k := 10) ⟨rfl, inT10, by decide, fX6_179⟩ (by decide) (by decide) (by decide) dX6_decided_79 ok.1 ?_
  have ok := ok.2
  refine c_iconst (v := nI 0) dX6_decided_82 (by decide) ?_
  refine c_aload_nQ dX6_decided_83 rfl rfl ?_
  refine c_getR (C := RX5) (T := TX5) (N := 7) (ci := 4) (k := 0) ⟨rfl, inT5, by decide, fX6_131⟩ (by decide) (by decide) (by decide) dX6_decided_84 ok.1 ?_
  have ok := ok.2
  refine c_iconst (v := nI 1) dX6_decided_87 (by decide) ?_
  refine c_iload_n dX6_decided_88 rfl rfl ?_
  refine c_copy0 hG dX6_decided_89 qX6_166 (by decide) (by decide) ok.1 ?_
  have ok := ok.2
  exact cX.cutz (b_X6_decided_92 hG hR ok hx) ⟨rfl, rfl, rfl, trivial⟩
def F_X6_decided_47 (N : Nat) (x0 : Option Nat) (x1 : Int32) (s0 : Int32) (S : cS) : Option Nat × cS := (if 0 ≤ s0 then (F_X6_decided_67 N x0 x1 s0 ((f_X9_fresh N S (za (cR S 6 (za (cR S 0 (za x0))))) ((nI 1) + s0)).1) (f_X9_fresh N S (za (cR S 6 (za (cR S 0 (za x0))))) ((nI 1) + s0)).2) else ((none : Option Nat), S))
def O_X6_decided_47 (N : Nat) (x0 : Option Nat) (x1 : Int32) (s0 : Int32) (S : cS) : Prop := ((0 ≤ s0 → (cis S x0 6) ∧ (cis S (cR S 0 (za x0)) 9) ∧ (cis S (cR S 6 (za (cR S 0 (za x0)))) 8 ∧ o_X9_fresh N S (za (cR S 6 (za (cR S 0 (za x0))))) ((nI 1) + s0)) ∧ O_X6_decided_67 N x0 x1 s0 ((f_X9_fresh N S (za (cR S 6 (za (cR S 0 (za x0))))) ((nI 1) + s0)).1) (f_X9_fresh N S (za (cR S 6 (za (cR S 0 (za x0))))) ((nI 1) + s0)).2) ∧ (¬ 0 ≤ s0 → True))
set_option maxRecDepth 100000 in
set_option maxHeartbeats 4000000 in
theorem b_X6_decided_47 {G : zG} {o : cO} {S : cS} {N : Nat} {Q : Option Value → cS → Prop} {X : Option Nat × cS → Prop} (hG : zOK G) (hR : ∀ v S', X (v, S') → Q (some (va_rf v)) S') {x0 : Option Nat} {x1 : Int32} {s0 : Int32} (ok : O_X6_decided_47 N x0 x1 s0 S) (hx : X (F_X6_decided_47 N x0 x1 s0 S)) : cX G o dX6_decided mX6_decided 47 [some (va_rf x0), some (.int x1), none, none] [.int s0] S Q := by
  unfold O_X6_decided_47 at ok
  unfold F_X6_decided_47 at hx
  refine c_istore_2 dX6_decided_47 (by decide) rfl ?_
  refine c_iload_n dX6_decided_48 rfl rfl ?_
  refine c_if_ge (tgt := 54) dX6_decided_49 (by decide) (fun c_49 => ?_) (fun c_49 => ?_)
  · have ok := ok.1 c_49
    have hx := xif_p c_49 hx
    refine c_aload_nQ dX6_decided_54 rfl rfl ?_
    refine c_getR (C := RX6) (T := TX6) (N := 19) (ci := 5) (k := 0) ⟨rfl, inT6, by decide, fX6_56⟩ (by decide) (by decide) (by decide) dX6_decided_55 ok.1 ?_
    have ok := ok.2
    refine c_getR (C := RX10) (T := TX10) (N := 12) (ci := 8) (k := 6) ⟨rfl, inT10, by decide, fX6_65⟩ (by decide) (by decide) (by decide) dX6_decided_58 ok.1 ?_
    have ok := ok.2
    refine c_iconst (v := nI 1) dX6_decided_61 (by decide) ?_
    refine c_iload_n dX6_decided_62 rfl rfl ?_
    refine c_iadd dX6_decided_63 ?_
    refine c_V1qE (ci := 7) (rr := (RX9, TX9, 13)) (y' := mX9_fresh) dX6_decided_64 lX6_127 kX9_fresh ⟨by decide, by decide⟩ rfl rfl (by decide) ok.1.1 (Nat.le_of_ble_eq_true rfl) (cc_X9_fresh hG ok.1.2) ?_
    have ok := ok.2
    exact cX.cutz (b_X6_decided_67 hG hR ok hx) ⟨rfl, rfl, rfl, trivial⟩
  · have ok := ok.2 c_49
    have hx := xif_n c_49 hx
    refine c_null' dX6_decided_52 ?_
    exact c_areturn rfl (Or.inl ⟨_, rfl⟩) dX6_decided_53 (hR _ _ hx)
def F_X6_decided_18 (N : Nat)  (S : cS) : Option Nat × cS := ((none : Option Nat), S)
def O_X6_decided_18 (N : Nat)  (S : cS) : Prop := True
set_option maxRecDepth 100000 in
set_option maxHeartbeats 4000000 in
theorem b_X6_decided_18 {G : zG} {o : cO} {S : cS} {N : Nat} {Q : Option Value → cS → Prop} {X : Option Nat × cS → Prop} (hG : zOK G) (hR : ∀ v S', X (v, S') → Q (some (va_rf v)) S') (ok : O_X6_decided_18 N S) (hx : X (F_X6_decided_18 N S)) : cX G o dX6_decided mX6_decided 18 [none, none, none, none] [] S Q := by
  unfold O_X6_decided_18 at ok
  unfold F_X6_decided_18 at hx
  refine c_null' dX6_decided_18 ?_
  exact c_areturn rfl (Or.inl ⟨_, rfl⟩) dX6_decided_19 (hR _ _ hx)
def F_X6_decided_0 (N : Nat) (x0 : Option Nat) (x1 : Int32) (S : cS) : Option Nat × cS := (if x1 < ((cI S 9 (za x0)) - (nI 4)) then (F_X6_decided_18 N S) else (if x1 < (cI S 9 (za x0)) then (if (cP S (za (cR S 7 (za x0))) (x1 &&& (nI 3)).toNatClampNeg) = none then (F_X6_decided_47 N x0 x1 ((f_X4_fetch N S (za (cR S 2 (za x0))) x1 (cR S 10 (za (cR S 0 (za x0)))) (nI 0)).1) (f_X4_fetch N S (za (cR S 2 (za x0))) x1 (cR S 10 (za (cR S 0 (za x0)))) (nI 0)).2) else (F_X6_decided_101 N x0 x1 S)) else (F_X6_decided_18 N S)))
def O_X6_decided_0 (N : Nat) (x0 : Option Nat) (x1 : Int32) (S : cS) : Prop := (cis S x0 6) ∧ ((x1 < ((cI S 9 (za x0)) - (nI 4)) → O_X6_decided_18 N S) ∧ (¬ x1 < ((cI S 9 (za x0)) - (nI 4)) → (cis S x0 6) ∧ ((x1 < (cI S 9 (za x0)) → (cis S x0 6) ∧ (cis S (cR S 7 (za x0)) 24 ∧ vp_in (x1 &&& (nI 3)) (cL S (za (cR S 7 (za x0))))) ∧ (((cP S (za (cR S 7 (za x0))) (x1 &&& (nI 3)).toNatClampNeg) = none → (cis S x0 6) ∧ (cis S x0 6) ∧ (cis S (cR S 0 (za x0)) 9) ∧ (cis S (cR S 2 (za x0)) 4 ∧ o_X4_fetch N S (za (cR S 2 (za x0))) x1 (cR S 10 (za (cR S 0 (za x0)))) (nI 0)) ∧ O_X6_decided_47 N x0 x1 ((f_X4_fetch N S (za (cR S 2 (za x0))) x1 (cR S 10 (za (cR S 0 (za x0)))) (nI 0)).1) (f_X4_fetch N S (za (cR S 2 (za x0))) x1 (cR S 10 (za (cR S 0 (za x0)))) (nI 0)).2) ∧ (¬ (cP S (za (cR S 7 (za x0))) (x1 &&& (nI 3)).toNatClampNeg) = none → O_X6_decided_101 N x0 x1 S))) ∧ (¬ x1 < (cI S 9 (za x0)) → O_X6_decided_18 N S))))
set_option maxRecDepth 100000 in
set_option maxHeartbeats 4000000 in
theorem b_X6_decided_0 {G : zG} {o : cO} {S : cS} {N : Nat} {Q : Option Value → cS → Prop} {X : Option Nat × cS → Prop} (hG : zOK G) (hR : ∀ v S', X (v, S') → Q (some (va_rf v)) S') {x0 : Option Nat} {x1 : Int32} (ok : O_X6_decided_0 N x0 x1 S) (hx : X (F_X6_decided_0 N x0 x1 S)) : cX G o dX6_decided mX6_decided 0 [some (va_rf x0), some (.int x1), none, none] [] S Q := by
  unfold O_X6_decided_0 at ok
  unfold F_X6_decided_0 at hx
  refine c_iload_n dX6_decided_0 rfl rfl ?_
  refine c_aload_nQ dX6_decided_1 rfl rfl ?_
  refine c_getI (C := RX6) (T := TX6) (N := 19) (ci := 5) (k := 9) ⟨rfl, inT6, by decide, fX6_43⟩ (by decide) (by decide) (by decide) dX6_decided_2 ok.1 ?_
  have ok := ok.2
  refine c_iconst (v := nI 4) dX6_decided_5 (by decide) ?_
  refine c_isub dX6_decided_6 ?_
  refine c_icmp_lt (tgt := 18) dX6_decided_7 (by decide) (fun c_7 => ?_) (fun c_7 => ?_)
  · have ok := ok.1 c_7
    have hx := xif_p c_7 hx
    exact cX.cutz (b_X6_decided_18 hG hR ok hx) trivial
  · have ok := ok.2 c_7
    have hx := xif_n c_7 hx
    refine c_iload_n dX6_decided_10 rfl rfl ?_
    refine c_aload_nQ dX6_decided_11 rfl rfl ?_
    refine c_getI (C := RX6) (T := TX6) (N := 19) (ci := 5) (k := 9) ⟨rfl, inT6, by decide, fX6_43⟩ (by decide) (by decide) (by decide) dX6_decided_12 ok.1 ?_
    have ok := ok.2
    refine c_icmp_lt (tgt := 20) dX6_decided_15 (by decide) (fun c_15 => ?_) (fun c_15 => ?_)
    · have ok := ok.1 c_15
      have hx := xif_p c_15 hx
      refine c_aload_nQ dX6_decided_20 rfl rfl ?_
      refine c_getR (C := RX6) (T := TX6) (N := 19) (ci := 5) (k := 7) ⟨rfl, inT6, by decide, fX6_35⟩ (by decide) (by decide) (by decide) dX6_decided_21 ok.1 ?_
      have ok := ok.2
      refine c_iload_n dX6_decided_24 rfl rfl ?_
      refine c_iconst (v := nI 3) dX6_decided_25 (by decide) ?_
      refine c_iand dX6_decided_26 ?_
      refine c_aald (t := 4) (ty := (.object "QuorumLedger$Message")) rfl rfl (by decide) dX6_decided_27 ok.1 ?_
      have ok := ok.2
      refine c_ifnonnullI (tgt := 101) dX6_decided_28 (by decide) (fun c_28 => ?_) (fun c_28 => ?_)
      · have ok := ok.2 c_28
        have hx := xif_n c_28 hx
        exact cX.cutz (b_X6_decided_101 hG hR ok hx) ⟨rfl, rfl, trivial⟩
      · have ok := ok.1 c_28
        have hx := xif_p c_28 hx
        refine c_aload_nQ dX6_decided_31 rfl rfl ?_
        refine c_getR (C := RX6) (T := TX6) (N := 19) (ci := 5) (k := 2) ⟨rfl, inT6, by decide, fX6_12⟩ (by decide) (by decide) (by decide) dX6_decided_32 ok.1 ?_
        have ok := ok.2
        refine c_iload_n dX6_decided_35 rfl rfl ?_
        refine c_aload_nQ dX6_decided_36 rfl rfl ?_
        refine c_getR (C := RX6) (T := TX6) (N := 19) (ci := 5) (k := 0) ⟨rfl, inT6, by decide, fX6_56⟩ (by decide) (by decide) (by decide) dX6_decided_37 ok.1 ?_
        have ok := ok.2
        refine c_getR (C := RX10) (T := TX10) (N := 12) (ci := 8) (k := 10) ⟨rfl, inT10, by decide, fX6_179⟩ (by decide) (by decide) (by decide) dX6_decided_40 ok.1 ?_
        have ok := ok.2
        refine c_iconst (v := nI 0) dX6_decided_43 (by decide) ?_
        refine c_V3iE (ci := 3) (rr := (RX4, TX4, 10)) (y' := mX4_fetch) dX6_decided_44 lX6_182 kX4_fetch ⟨by decide, by decide⟩ rfl rfl (by decide) ok.1.1 (Nat.le_of_ble_eq_true rfl) (cc_X4_fetch hG ok.1.2) ?_
        have ok := ok.2
        exact cX.cutz (b_X6_decided_47 hG hR ok hx) ⟨rfl, rfl, trivial⟩
    · have ok := ok.2 c_15
      have hx := xif_n c_15 hx
      exact cX.cutz (b_X6_decided_18 hG hR ok hx) trivial
def f_X6_decided (N : Nat) (S : cS) (a0 : Nat) (x1 : Int32) : Option Nat × cS := F_X6_decided_0 N (some a0) x1 S
def o_X6_decided (N : Nat) (S : cS) (a0 : Nat) (x1 : Int32) : Prop := O_X6_decided_0 N (some a0) x1 S
set_option maxRecDepth 100000 in
set_option maxHeartbeats 4000000 in
theorem cc_X6_decided {G : zG} {o : cO} {S : cS} {N : Nat} (hG : zOK G) {a0 : Nat} {x1 : Int32} (ok : o_X6_decided N S a0 x1) : cCq G o dX6_decided mX6_decided [.ref a0, .int x1] S (fun v S' => v = (f_X6_decided N S a0 x1).1 ∧ S' = (f_X6_decided N S a0 x1).2) := by
  refine cC.ofX rfl (by exact Nat.le_of_ble_eq_true rfl) ?_
  show cX G o dX6_decided mX6_decided 0 [some (.ref a0), some (.int x1), none, none] [] S _
  exact cX.cutz (b_X6_decided_0 (X := fun F => F = f_X6_decided N S a0 x1) hG (fun v S' h => ⟨v, rfl, by rw [← h], by rw [← h]⟩) ok rfl) ⟨rfl, rfl, trivial⟩
/-! X6_snapshot -/
def F_X6_snapshot_101 (N : Nat) (x1 : Option Nat) (S : cS) : Option Nat × cS := (x1, S)
def O_X6_snapshot_101 (N : Nat) (x1 : Option Nat) (S : cS) : Prop := True
set_option maxRecDepth 100000 in
set_option maxHeartbeats 4000000 in
theorem b_X6_snapshot_101 {G : zG} {o : cO} {S : cS} {N : Nat} {Q : Option Value → cS → Prop} {X : Option Nat × cS → Prop} (hG : zOK G) (hR : ∀ v S', X (v, S') → Q (some (va_rf v)) S') {x1 : Option Nat} (ok : O_X6_snapshot_101 N x1 S) (hx : X (F_X6_snapshot_101 N x1 S)) : cX G o dX6_snapshot mX6_snapshot 101 [none, some (va_rf x1), none, none] [] S Q := by
  unfold O_X6_snapshot_101 at ok
  unfold F_X6_snapshot_101 at hx
  refine c_aload_nQ dX6_snapshot_101 rfl rfl ?_
  exact c_areturn rfl (Or.inl ⟨_, rfl⟩) dX6_snapshot_102 (hR _ _ hx)
def F_X6_snapshot_92 (N : Nat) (rec : Option Nat → Option Nat → Int32 → Int32 → cS → Nat × Option Nat × cS) (x0 : Option Nat) (x1 : Option Nat) (x2 : Int32) (x3 : Int32) (S : cS) : Nat × Option Nat × cS := (rec x0 x1 (x2 + nI 1) (x3 + nI 5) S)
def O_X6_snapshot_92 (N : Nat) (rok : Option Nat → Option Nat → Int32 → Int32 → cS → Prop) (x0 : Option Nat) (x1 : Option Nat) (x2 : Int32) (x3 : Int32) (S : cS) : Prop := rok x0 x1 (x2 + nI 1) (x3 + nI 5) S
set_option maxRecDepth 100000 in
set_option maxHeartbeats 4000000 in
theorem b_X6_snapshot_92 {G : zG} {o : cO} {S : cS} {N : Nat} {Q : Option Value → cS → Prop} {X : Nat × Option Nat × cS → Prop} (hG : zOK G) (hX0 : ∀ (x1 : Option Nat) (S' : cS), X (0, x1, S') → cX G o dX6_snapshot mX6_snapshot 101 [none, some (va_rf x1), none, none] [] S' Q) {rec : Option Nat → Option Nat → Int32 → Int32 → cS → Nat × Option Nat × cS} {rok : Option Nat → Option Nat → Int32 → Int32 → cS → Prop} (hrec : ∀ (x0 : Option Nat) (x1 : Option Nat) (x2 : Int32) (x3 : Int32) (S : cS), rok x0 x1 x2 x3 S → X (rec x0 x1 x2 x3 S) → cX G o dX6_snapshot mX6_snapshot 53 [some (va_rf x0), some (va_rf x1), some (.int x2), some (.int x3)] [] S Q) {x0 : Option Nat} {x1 : Option Nat} {x2 : Int32} {x3 : Int32} (ok : O_X6_snapshot_92 N rok x0 x1 x2 x3 S) (hx : X (F_X6_snapshot_92 N rec x0 x1 x2 x3 S)) : cX G o dX6_snapshot mX6_snapshot 92 [some (va_rf x0), some (va_rf x1), some (.int x2), some (.int x3)] [] S Q := by
  unfold O_X6_snapshot_92 at ok
  unfold F_X6_snapshot_92 at hx
  refine c_iinc_2 (v := (x2 + nI 1)) dX6_snapshot_92 rfl (by first | rfl | (congr 1)) (by decide) (by simp [zok, zg, zcat_rf]) ?_
  refine c_iinc_3 (v := (x3 + nI 5)) dX6_snapshot_95 rfl (by first | rfl | (congr 1)) (by decide) rfl ?_
  refine c_goto (tgt := 53) dX6_snapshot_98 (by decide) ?_
  exact cX.cutz (hrec _ _ _ _ S ok hx) ⟨rfl, rfl, rfl, rfl, trivial⟩
def F_X6_snapshot_75 (N : Nat) (rec : Option Nat → Option Nat → Int32 → Int32 → cS → Nat × Option Nat × cS) (x0 : Option Nat) (x1 : Option Nat) (x2 : Int32) (x3 : Int32) (S : cS) : Nat × Option Nat × cS := (F_X6_snapshot_92 N rec x0 x1 x2 x3 (csArow S (za (cR S 0 (za x1))) (va_cpy (cA S (za (cR S 11 (za (cR S 0 (za x0)))))) (cA S (za (cR S 0 (za x1)))) (nI 1).toNatClampNeg x3.toNatClampNeg (nI 5).toNatClampNeg)))
def O_X6_snapshot_75 (N : Nat) (rok : Option Nat → Option Nat → Int32 → Int32 → cS → Prop) (x0 : Option Nat) (x1 : Option Nat) (x2 : Int32) (x3 : Int32) (S : cS) : Prop := (cis S x0 6) ∧ (cis S (cR S 0 (za x0)) 9) ∧ (cis S x1 5) ∧ (cis S (cR S 11 (za (cR S 0 (za x0)))) 20 ∧ cis S (cR S 0 (za x1)) 20 ∧ (¬ (nI 1) < 0 ∧ ¬ x3 < 0 ∧ ¬ (nI 5) < 0) ∧ (nI 1).toNatClampNeg + (nI 5).toNatClampNeg ≤ cL S (za (cR S 11 (za (cR S 0 (za x0))))) ∧ x3.toNatClampNeg + (nI 5).toNatClampNeg ≤ cL S (za (cR S 0 (za x1)))) ∧ O_X6_snapshot_92 N rok x0 x1 x2 x3 (csArow S (za (cR S 0 (za x1))) (va_cpy (cA S (za (cR S 11 (za (cR S 0 (za x0)))))) (cA S (za (cR S 0 (za x1)))) (nI 1).toNatClampNeg x3.toNatClampNeg (nI 5).toNatClampNeg))
set_option maxRecDepth 100000 in
set_option maxHeartbeats 4000000 in
theorem b_X6_snapshot_75 {G : zG} {o : cO} {S : cS} {N : Nat} {Q : Option Value → cS → Prop} {X : Nat × Option Nat × cS → Prop} (hG : zOK G) (hX0 : ∀ (x1 : Option Nat) (S' : cS), X (0, x1, S') → cX G o dX6_snapshot mX6_snapshot 101 [none, some (va_rf x1), none, none] [] S' Q) {rec : Option Nat → Option Nat → Int32 → Int32 → cS → Nat × Option Nat × cS} {rok : Option Nat → Option Nat → Int32 → Int32 → cS → Prop} (hrec : ∀ (x0 : Option Nat) (x1 : Option Nat) (x2 : Int32) (x3 : Int32) (S : cS), rok x0 x1 x2 x3 S → X (rec x0 x1 x2 x3 S) → cX G o dX6_snapshot mX6_snapshot 53 [some (va_rf x0), some (va_rf x1), some (.int x2), some (.int x3)] [] S Q) {x0 : Option Nat} {x1 : Option Nat} {x2 : Int32} {x3 : Int32} (ok : O_X6_snapshot_75 N rok x0 x1 x2 x3 S) (hx : X (F_X6_snapshot_75 N rec x0 x1 x2 x3 S)) : cX G o dX6_snapshot mX6_snapshot 75 [some (va_rf x0), some (va_rf x1), some (.int x2), some (.int x3)] [] S Q := by
  unfold O_X6_snapshot_75 at ok
  unfold F_X6_snapshot_75 at hx
  refine c_aload_nQ dX6_snapshot_75 rfl rfl ?_
  refine c_getR (C := RX6) (T := TX6) (N := 19) (ci := 5) (k := 0) ⟨rfl, inT6, by decide, fX6_56⟩ (by decide) (by decide) (by decide) dX6_snapshot_76 ok.1 ?_
  have ok := ok.2
  refine c_getR (C := RX10) (T := TX10) (N := 12) (ci := 8) (k := 11) ⟨rfl, inT10, by decide, fX6_186⟩ (by decide) (by decide) (by decide) dX6_snapshot_79 ok.1 ?_
  have ok := ok.2
  refine c_iconst (v := nI 1) dX6_snapshot_82 (by decide) ?_
  refine c_aload_nQ dX6_snapshot_83 rfl rfl ?_
  refine c_getR (C := RX5) (T := TX5) (N := 7) (ci := 4) (k := 0) ⟨rfl, inT5, by decide, fX6_131⟩ (by decide) (by decide) (by decide) dX6_snapshot_84 ok.1 ?_
  have ok := ok.2
  refine c_iload_n dX6_snapshot_87 rfl rfl ?_
  refine c_iconst (v := nI 5) dX6_snapshot_88 (by decide) ?_
  refine c_copy0 hG dX6_snapshot_89 qX6_166 (by decide) (by decide) ok.1 ?_
  have ok := ok.2
  exact cX.cutz (b_X6_snapshot_92 hG hX0 hrec ok hx) ⟨rfl, rfl, rfl, rfl, trivial⟩
def B_X6_snapshot_53 (N : Nat) (rec : Option Nat → Option Nat → Int32 → Int32 → cS → Nat × Option Nat × cS) (x0 : Option Nat) (x1 : Option Nat) (x2 : Int32) (x3 : Int32) (S : cS) : Nat × Option Nat × cS := (if (nI 16) ≤ x2 then (0, x1, S) else (F_X6_snapshot_75 N rec x0 x1 x2 x3 (f_X0_encode N S (za (cR S 4 (za x0))) x2 (cR S 11 (za (cR S 0 (za x0)))) (nI 0))))
def OB_X6_snapshot_53 (N : Nat) (rok : Option Nat → Option Nat → Int32 → Int32 → cS → Prop) (x0 : Option Nat) (x1 : Option Nat) (x2 : Int32) (x3 : Int32) (S : cS) : Prop := (((nI 16) ≤ x2 → True) ∧ (¬ (nI 16) ≤ x2 → (cis S x0 6) ∧ (cis S x0 6) ∧ (cis S (cR S 0 (za x0)) 9) ∧ (cis S (cR S 4 (za x0)) 1 ∧ o_X0_encode N S (za (cR S 4 (za x0))) x2 (cR S 11 (za (cR S 0 (za x0)))) (nI 0)) ∧ O_X6_snapshot_75 N rok x0 x1 x2 x3 (f_X0_encode N S (za (cR S 4 (za x0))) x2 (cR S 11 (za (cR S 0 (za x0)))) (nI 0))))
set_option maxRecDepth 100000 in
set_option maxHeartbeats 4000000 in
theorem bb_X6_snapshot_53 {G : zG} {o : cO} {S : cS} {N : Nat} {Q : Option Value → cS → Prop} {X : Nat × Option Nat × cS → Prop} (hG : zOK G) (hX0 : ∀ (x1 : Option Nat) (S' : cS), X (0, x1, S') → cX G o dX6_snapshot mX6_snapshot 101 [none, some (va_rf x1), none, none] [] S' Q) {rec : Option Nat → Option Nat → Int32 → Int32 → cS → Nat × Option Nat × cS} {rok : Option Nat → Option Nat → Int32 → Int32 → cS → Prop} (hrec : ∀ (x0 : Option Nat) (x1 : Option Nat) (x2 : Int32) (x3 : Int32) (S : cS), rok x0 x1 x2 x3 S → X (rec x0 x1 x2 x3 S) → cX G o dX6_snapshot mX6_snapshot 53 [some (va_rf x0), some (va_rf x1), some (.int x2), some (.int x3)] [] S Q) {x0 : Option Nat} {x1 : Option Nat} {x2 : Int32} {x3 : Int32} (ok : OB_X6_snapshot_53 N rok x0 x1 x2 x3 S) (hx : X (B_X6_snapshot_53 N rec x0 x1 x2 x3 S)) : cX G o dX6_snapshot mX6_snapshot 53 [some (va_rf x0), some (va_rf x1), some (.int x2), some (.int x3)] [] S Q := by
  unfold OB_X6_snapshot_53 at ok
  unfold B_X6_snapshot_53 at hx
  refine c_iload_n dX6_snapshot_53 rfl rfl ?_
  refine c_bipush (v := nI 16) dX6_snapshot_54 (by decide) ?_
  refine c_icmp_ge (tgt := 101) dX6_snapshot_56 (by decide) (fun c_56 => ?_) (fun c_56 => ?_)
  · have ok := ok.1 c_56
    have hx := xif_p c_56 hx
    exact cX.cutz (hX0 _ S hx) ⟨rfl, trivial⟩
  · have ok := ok.2 c_56
    have hx := xif_n c_56 hx
    refine c_aload_nQ dX6_snapshot_59 rfl rfl ?_
    refine c_getR (C := RX6) (T := TX6) (N := 19) (ci := 5) (k := 4) ⟨rfl, inT6, by decide, fX6_21⟩ (by decide) (by decide) (by decide) dX6_snapshot_60 ok.1 ?_
    have ok := ok.2
    refine c_iload_n dX6_snapshot_63 rfl rfl ?_
    refine c_aload_nQ dX6_snapshot_64 rfl rfl ?_
    refine c_getR (C := RX6) (T := TX6) (N := 19) (ci := 5) (k := 0) ⟨rfl, inT6, by decide, fX6_56⟩ (by decide) (by decide) (by decide) dX6_snapshot_65 ok.1 ?_
    have ok := ok.2
    refine c_getR (C := RX10) (T := TX10) (N := 12) (ci := 8) (k := 11) ⟨rfl, inT10, by decide, fX6_186⟩ (by decide) (by decide) (by decide) dX6_snapshot_68 ok.1 ?_
    have ok := ok.2
    refine c_iconst (v := nI 0) dX6_snapshot_71 (by decide) ?_
    refine c_V3vE (ci := 0) (rr := (RX0, TX0, 6)) (y' := mX0_encode) dX6_snapshot_72 lX6_189 kX0_encode ⟨by decide, by decide⟩ rfl rfl (by decide) ok.1.1 (Nat.le_of_ble_eq_true rfl) (cc_X0_encode hG ok.1.2) ?_
    have ok := ok.2
    exact cX.cutz (b_X6_snapshot_75 hG hX0 hrec ok hx) ⟨rfl, rfl, rfl, rfl, trivial⟩
def L_X6_snapshot_53 (N : Nat) : Nat → Option Nat → Option Nat → Int32 → Int32 → cS → Nat × Option Nat × cS
  | 0, x0, x1, x2, x3, S => (0, none, S)
  | n + 1, x0, x1, x2, x3, S => B_X6_snapshot_53 N (L_X6_snapshot_53 N n) x0 x1 x2 x3 S
def OL_X6_snapshot_53 (N : Nat) : Nat → Option Nat → Option Nat → Int32 → Int32 → cS → Prop
  | 0, _, _, _, _, _ => False
  | n + 1, x0, x1, x2, x3, S => OB_X6_snapshot_53 N (OL_X6_snapshot_53 N n) x0 x1 x2 x3 S
set_option maxRecDepth 100000 in
set_option maxHeartbeats 4000000 in
theorem l_X6_snapshot_53 {G : zG} {o : cO} {N : Nat} {Q : Option Value → cS → Prop} {X : Nat × Option Nat × cS → Prop} (hG : zOK G) (hX0 : ∀ (x1 : Option Nat) (S' : cS), X (0, x1, S') → cX G o dX6_snapshot mX6_snapshot 101 [none, some (va_rf x1), none, none] [] S' Q) : ∀ (n : Nat) (x0 : Option Nat) (x1 : Option Nat) (x2 : Int32) (x3 : Int32) (S : cS), OL_X6_snapshot_53 N n x0 x1 x2 x3 S → X (L_X6_snapshot_53 N n x0 x1 x2 x3 S) → cX G o dX6_snapshot mX6_snapshot 53 [some (va_rf x0), some (va_rf x1), some (.int x2), some (.int x3)] [] S Q := by
  intro n
  induction n with
  | zero => intro x0 x1 x2 x3 S ok; exact absurd ok id
  | succ n ih =>
    intro x0 x1 x2 x3 S ok hx
    exact bb_X6_snapshot_53 hG hX0 (rec := L_X6_snapshot_53 N n) (rok := OL_X6_snapshot_53 N n) (fun x0 x1 x2 x3 S ok hx => ih x0 x1 x2 x3 S ok hx) ok hx
def A_X6_snapshot_53 (N : Nat) (x0 : Option Nat) (x1 : Option Nat) (x2 : Int32) (x3 : Int32) (S : cS) (z : Nat × Option Nat × cS) : Option Nat × cS := (F_X6_snapshot_101 N (z.2.1) z.2.2)
def OA_X6_snapshot_53 (N : Nat) (x0 : Option Nat) (x1 : Option Nat) (x2 : Int32) (x3 : Int32) (S : cS) (z : Nat × Option Nat × cS) : Prop := O_X6_snapshot_101 N (z.2.1) z.2.2
set_option maxRecDepth 100000 in
set_option maxHeartbeats 4000000 in
theorem c_X6_snapshot_53 {G : zG} {o : cO} {S : cS} {N : Nat} {Q : Option Value → cS → Prop} {X : Option Nat × cS → Prop} (hG : zOK G) (hR : ∀ v S', X (v, S') → Q (some (va_rf v)) S') {x0 : Option Nat} {x1 : Option Nat} {x2 : Int32} {x3 : Int32} (ok : OL_X6_snapshot_53 N N x0 x1 x2 x3 S ∧ OA_X6_snapshot_53 N x0 x1 x2 x3 S (L_X6_snapshot_53 N N x0 x1 x2 x3 S)) (hx : X (A_X6_snapshot_53 N x0 x1 x2 x3 S (L_X6_snapshot_53 N N x0 x1 x2 x3 S))) : cX G o dX6_snapshot mX6_snapshot 53 [some (va_rf x0), some (va_rf x1), some (.int x2), some (.int x3)] [] S Q := by
  refine l_X6_snapshot_53 hG ?_ N x0 x1 x2 x3 S ok.1 (X := fun z => OA_X6_snapshot_53 N x0 x1 x2 x3 S z ∧ X (A_X6_snapshot_53 N x0 x1 x2 x3 S z)) ⟨ok.2, hx⟩
  · intro x1' S' hz
    obtain ⟨ok, hx⟩ := hz
    unfold OA_X6_snapshot_53 at ok
    unfold A_X6_snapshot_53 at hx
    exact cX.cutz (b_X6_snapshot_101 hG hR ok hx) ⟨rfl, trivial⟩
def F_X6_snapshot_48 (N : Nat) (x0 : Option Nat) (x1 : Option Nat) (S : cS) : Option Nat × cS := (A_X6_snapshot_53 N x0 x1 (nI 0) (nI 35) S (L_X6_snapshot_53 N N x0 x1 (nI 0) (nI 35) S))
def O_X6_snapshot_48 (N : Nat) (x0 : Option Nat) (x1 : Option Nat) (S : cS) : Prop := (OL_X6_snapshot_53 N N x0 x1 (nI 0) (nI 35) S ∧ OA_X6_snapshot_53 N x0 x1 (nI 0) (nI 35) S (L_X6_snapshot_53 N N x0 x1 (nI 0) (nI 35) S))
set_option maxRecDepth 100000 in
set_option maxHeartbeats 4000000 in
theorem b_X6_snapshot_48 {G : zG} {o : cO} {S : cS} {N : Nat} {Q : Option Value → cS → Prop} {X : Option Nat × cS → Prop} (hG : zOK G) (hR : ∀ v S', X (v, S') → Q (some (va_rf v)) S') {x0 : Option Nat} {x1 : Option Nat} (ok : O_X6_snapshot_48 N x0 x1 S) (hx : X (F_X6_snapshot_48 N x0 x1 S)) : cX G o dX6_snapshot mX6_snapshot 48 [some (va_rf x0), some (va_rf x1), none, none] [] S Q := by
  unfold O_X6_snapshot_48 at ok
  unfold F_X6_snapshot_48 at hx
  refine c_iconst (v := nI 0) dX6_snapshot_48 (by decide) ?_
  refine c_istore_2 dX6_snapshot_49 (by decide) (by simp [zok, zg, zcat_rf]) ?_
  refine c_bipush (v := nI 35) dX6_snapshot_50 (by decide) ?_
  refine c_istore_3 dX6_snapshot_52 (by decide) rfl ?_
  exact cX.cutz (c_X6_snapshot_53 hG hR ok hx) ⟨rfl, rfl, rfl, rfl, trivial⟩
def F_X6_snapshot_33 (N : Nat) (x0 : Option Nat) (x1 : Option Nat) (S : cS) : Option Nat × cS := (F_X6_snapshot_48 N x0 x1 (csArow S (za (cR S 0 (za x1))) (va_cpy (cA S (za (cR S 5 (za x0)))) (cA S (za (cR S 0 (za x1)))) (nI 0).toNatClampNeg (nI 3).toNatClampNeg (nI 32).toNatClampNeg)))
def O_X6_snapshot_33 (N : Nat) (x0 : Option Nat) (x1 : Option Nat) (S : cS) : Prop := (cis S x0 6) ∧ (cis S x1 5) ∧ (cis S (cR S 5 (za x0)) 20 ∧ cis S (cR S 0 (za x1)) 20 ∧ (¬ (nI 0) < 0 ∧ ¬ (nI 3) < 0 ∧ ¬ (nI 32) < 0) ∧ (nI 0).toNatClampNeg + (nI 32).toNatClampNeg ≤ cL S (za (cR S 5 (za x0))) ∧ (nI 3).toNatClampNeg + (nI 32).toNatClampNeg ≤ cL S (za (cR S 0 (za x1)))) ∧ O_X6_snapshot_48 N x0 x1 (csArow S (za (cR S 0 (za x1))) (va_cpy (cA S (za (cR S 5 (za x0)))) (cA S (za (cR S 0 (za x1)))) (nI 0).toNatClampNeg (nI 3).toNatClampNeg (nI 32).toNatClampNeg))
set_option maxRecDepth 100000 in
set_option maxHeartbeats 4000000 in
theorem b_X6_snapshot_33 {G : zG} {o : cO} {S : cS} {N : Nat} {Q : Option Value → cS → Prop} {X : Option Nat × cS → Prop} (hG : zOK G) (hR : ∀ v S', X (v, S') → Q (some (va_rf v)) S') {x0 : Option Nat} {x1 : Option Nat} (ok : O_X6_snapshot_33 N x0 x1 S) (hx : X (F_X6_snapshot_33 N x0 x1 S)) : cX G o dX6_snapshot mX6_snapshot 33 [some (va_rf x0), some (va_rf x1), none, none] [] S Q := by
  unfold O_X6_snapshot_33 at ok
  unfold F_X6_snapshot_33 at hx
  refine c_aload_nQ dX6_snapshot_33 rfl rfl ?_
  refine c_getR (C := RX6) (T := TX6) (N := 19) (ci := 5) (k := 5) ⟨rfl, inT6, by decide, fX6_25⟩ (by decide) (by decide) (by decide) dX6_snapshot_34 ok.1 ?_
  have ok := ok.2
  refine c_iconst (v := nI 0) dX6_snapshot_37 (by decide) ?_
  refine c_aload_nQ dX6_snapshot_38 rfl rfl ?_
  refine c_getR (C := RX5) (T := TX5) (N := 7) (ci := 4) (k := 0) ⟨rfl, inT5, by decide, fX6_131⟩ (by decide) (by decide) (by decide) dX6_snapshot_39 ok.1 ?_
  have ok := ok.2
  refine c_iconst (v := nI 3) dX6_snapshot_42 (by decide) ?_
  refine c_bipush (v := nI 32) dX6_snapshot_43 (by decide) ?_
  refine c_copy0 hG dX6_snapshot_45 qX6_166 (by decide) (by decide) ok.1 ?_
  have ok := ok.2
  exact cX.cutz (b_X6_snapshot_48 hG hR ok hx) ⟨rfl, rfl, trivial⟩
def F_X6_snapshot_12 (N : Nat) (x0 : Option Nat) (s0 : Option Nat) (S : cS) : Option Nat × cS := (F_X6_snapshot_33 N x0 s0 (f_X11_putTwo N (csA S (za (cR S 0 (za s0))) (nI 0).toNatClampNeg ((nI 7).toInt8.toInt32)) (cR (csA S (za (cR S 0 (za s0))) (nI 0).toNatClampNeg ((nI 7).toInt8.toInt32)) 0 (za s0)) (nI 1) (cI (csA S (za (cR S 0 (za s0))) (nI 0).toNatClampNeg ((nI 7).toInt8.toInt32)) 9 (za x0))))
def O_X6_snapshot_12 (N : Nat) (x0 : Option Nat) (s0 : Option Nat) (S : cS) : Prop := (cis S s0 5) ∧ (cis S (cR S 0 (za s0)) 20 ∧ vp_in (nI 0) (cL S (za (cR S 0 (za s0))))) ∧ (cis (csA S (za (cR S 0 (za s0))) (nI 0).toNatClampNeg ((nI 7).toInt8.toInt32)) s0 5) ∧ (cis (csA S (za (cR S 0 (za s0))) (nI 0).toNatClampNeg ((nI 7).toInt8.toInt32)) x0 6) ∧ (o_X11_putTwo N (csA S (za (cR S 0 (za s0))) (nI 0).toNatClampNeg ((nI 7).toInt8.toInt32)) (cR (csA S (za (cR S 0 (za s0))) (nI 0).toNatClampNeg ((nI 7).toInt8.toInt32)) 0 (za s0)) (nI 1) (cI (csA S (za (cR S 0 (za s0))) (nI 0).toNatClampNeg ((nI 7).toInt8.toInt32)) 9 (za x0))) ∧ O_X6_snapshot_33 N x0 s0 (f_X11_putTwo N (csA S (za (cR S 0 (za s0))) (nI 0).toNatClampNeg ((nI 7).toInt8.toInt32)) (cR (csA S (za (cR S 0 (za s0))) (nI 0).toNatClampNeg ((nI 7).toInt8.toInt32)) 0 (za s0)) (nI 1) (cI (csA S (za (cR S 0 (za s0))) (nI 0).toNatClampNeg ((nI 7).toInt8.toInt32)) 9 (za x0)))
set_option maxRecDepth 100000 in
set_option maxHeartbeats 4000000 in
theorem b_X6_snapshot_12 {G : zG} {o : cO} {S : cS} {N : Nat} {Q : Option Value → cS → Prop} {X : Option Nat × cS → Prop} (hG : zOK G) (hR : ∀ v S', X (v, S') → Q (some (va_rf v)) S') {x0 : Option Nat} {s0 : Option Nat} (ok : O_X6_snapshot_12 N x0 s0 S) (hx : X (F_X6_snapshot_12 N x0 s0 S)) : cX G o dX6_snapshot mX6_snapshot 12 [some (va_rf x0), none, none, none] [va_rf s0] S Q := by
  unfold O_X6_snapshot_12 at ok
  unfold F_X6_snapshot_12 at hx
  refine c_astore_1Q dX6_snapshot_12 (by decide) (by simp [zok, zg, zcat_rf]) ?_
  refine c_aload_nQ dX6_snapshot_13 rfl rfl ?_
  refine c_getR (C := RX5) (T := TX5) (N := 7) (ci := 4) (k := 0) ⟨rfl, inT5, by decide, fX6_131⟩ (by decide) (by decide) (by decide) dX6_snapshot_14 ok.1 ?_
  have ok := ok.2
  refine c_iconst (v := nI 0) dX6_snapshot_17 (by decide) ?_
  refine c_bipush (v := nI 7) dX6_snapshot_18 (by decide) ?_
  refine c_bast dX6_snapshot_20 ok.1 ?_
  have ok := ok.2
  refine c_aload_nQ dX6_snapshot_21 rfl rfl ?_
  refine c_getR (C := RX5) (T := TX5) (N := 7) (ci := 4) (k := 0) ⟨rfl, inT5, by decide, fX6_131⟩ (by decide) (by decide) (by decide) dX6_snapshot_22 ok.1 ?_
  have ok := ok.2
  refine c_iconst (v := nI 1) dX6_snapshot_25 (by decide) ?_
  refine c_aload_nQ dX6_snapshot_26 rfl rfl ?_
  refine c_getI (C := RX6) (T := TX6) (N := 19) (ci := 5) (k := 9) ⟨rfl, inT6, by decide, fX6_43⟩ (by decide) (by decide) (by decide) dX6_snapshot_27 ok.1 ?_
  have ok := ok.2
  refine c_SN3vE (y' := mX11_putTwo) dX6_snapshot_30 lX6_134 kX11_putTwo ⟨by decide, by decide⟩ (Nat.le_of_ble_eq_true rfl) (cc_X11_putTwo hG ok.1) ?_
  have ok := ok.2
  exact cX.cutz (b_X6_snapshot_33 hG hR ok hx) ⟨rfl, rfl, trivial⟩
def F_X6_snapshot_0 (N : Nat) (x0 : Option Nat) (S : cS) : Option Nat × cS := (F_X6_snapshot_12 N x0 ((f_X9_fresh N S (za (cR S 6 (za (cR S 0 (za x0))))) (nI 115)).1) (f_X9_fresh N S (za (cR S 6 (za (cR S 0 (za x0))))) (nI 115)).2)
def O_X6_snapshot_0 (N : Nat) (x0 : Option Nat) (S : cS) : Prop := (cis S x0 6) ∧ (cis S (cR S 0 (za x0)) 9) ∧ (cis S (cR S 6 (za (cR S 0 (za x0)))) 8 ∧ o_X9_fresh N S (za (cR S 6 (za (cR S 0 (za x0))))) (nI 115)) ∧ O_X6_snapshot_12 N x0 ((f_X9_fresh N S (za (cR S 6 (za (cR S 0 (za x0))))) (nI 115)).1) (f_X9_fresh N S (za (cR S 6 (za (cR S 0 (za x0))))) (nI 115)).2
set_option maxRecDepth 100000 in
set_option maxHeartbeats 4000000 in
theorem b_X6_snapshot_0 {G : zG} {o : cO} {S : cS} {N : Nat} {Q : Option Value → cS → Prop} {X : Option Nat × cS → Prop} (hG : zOK G) (hR : ∀ v S', X (v, S') → Q (some (va_rf v)) S') {x0 : Option Nat} (ok : O_X6_snapshot_0 N x0 S) (hx : X (F_X6_snapshot_0 N x0 S)) : cX G o dX6_snapshot mX6_snapshot 0 [some (va_rf x0), none, none, none] [] S Q := by
  unfold O_X6_snapshot_0 at ok
  unfold F_X6_snapshot_0 at hx
  refine c_aload_nQ dX6_snapshot_0 rfl rfl ?_
  refine c_getR (C := RX6) (T := TX6) (N := 19) (ci := 5) (k := 0) ⟨rfl, inT6, by decide, fX6_56⟩ (by decide) (by decide) (by decide) dX6_snapshot_1 ok.1 ?_
  have ok := ok.2
  refine c_getR (C := RX10) (T := TX10) (N := 12) (ci := 8) (k := 6) ⟨rfl, inT10, by decide, fX6_65⟩ (by decide) (by decide) (by decide) dX6_snapshot_4 ok.1 ?_
  have ok := ok.2
  refine c_bipush (v := nI 115) dX6_snapshot_7 (by decide) ?_
  refine c_V1qE (ci := 7) (rr := (RX9, TX9, 13)) (y' := mX9_fresh) dX6_snapshot_9 lX6_127 kX9_fresh ⟨by decide, by decide⟩ rfl rfl (by decide) ok.1.1 (Nat.le_of_ble_eq_true rfl) (cc_X9_fresh hG ok.1.2) ?_
  have ok := ok.2
  exact cX.cutz (b_X6_snapshot_12 hG hR ok hx) ⟨rfl, trivial⟩
def f_X6_snapshot (N : Nat) (S : cS) (a0 : Nat) : Option Nat × cS := F_X6_snapshot_0 N (some a0) S
def o_X6_snapshot (N : Nat) (S : cS) (a0 : Nat) : Prop := O_X6_snapshot_0 N (some a0) S
set_option maxRecDepth 100000 in
set_option maxHeartbeats 4000000 in
theorem cc_X6_snapshot {G : zG} {o : cO} {S : cS} {N : Nat} (hG : zOK G) {a0 : Nat} (ok : o_X6_snapshot N S a0) : cCq G o dX6_snapshot mX6_snapshot [.ref a0] S (fun v S' => v = (f_X6_snapshot N S a0).1 ∧ S' = (f_X6_snapshot N S a0).2) := by
  refine cC.ofX rfl (by exact Nat.le_of_ble_eq_true rfl) ?_
  show cX G o dX6_snapshot mX6_snapshot 0 [some (.ref a0), none, none, none] [] S _
  exact cX.cutz (b_X6_snapshot_0 (X := fun F => F = f_X6_snapshot N S a0) hG (fun v S' h => ⟨v, rfl, by rw [← h], by rw [← h]⟩) ok rfl) ⟨rfl, trivial⟩
/-! X3_answerBelow -/
def F_X3_answerBelow_49 (N : Nat) (x3 : Option Nat) (x5 : Option Nat) (S : cS) : cS := (f_X9_drop N S (za x3) x5)
def O_X3_answerBelow_49 (N : Nat) (x3 : Option Nat) (x5 : Option Nat) (S : cS) : Prop := (cis S x3 8 ∧ o_X9_drop N S (za x3) x5) ∧ True
set_option maxRecDepth 100000 in
set_option maxHeartbeats 4000000 in
theorem b_X3_answerBelow_49 {G : zG} {o : cO} {S : cS} {N : Nat} {Q : Option Value → cS → Prop} {X : cS → Prop} (hG : zOK G) (hR : ∀ S', X S' → Q none S') {x3 : Option Nat} {x5 : Option Nat} (ok : O_X3_answerBelow_49 N x3 x5 S) (hx : X (F_X3_answerBelow_49 N x3 x5 S)) : cX G o dX3_answerBelow mX3_answerBelow 49 [none, none, none, some (va_rf x3), none, some (va_rf x5)] [] S Q := by
  unfold O_X3_answerBelow_49 at ok
  unfold F_X3_answerBelow_49 at hx
  refine c_aload_nQ dX3_answerBelow_49 rfl rfl ?_
  refine c_aloadQ dX3_answerBelow_50 rfl ?_
  refine c_V1vE (ci := 7) (rr := (RX9, TX9, 13)) (y' := mX9_drop) dX3_answerBelow_52 lX3_83 kX9_drop ⟨by decide, by decide⟩ rfl rfl (by decide) ok.1.1 (Nat.le_of_ble_eq_true rfl) (cc_X9_drop hG ok.1.2) ?_
  have ok := ok.2
  exact c_return rfl dX3_answerBelow_55 (hR _ hx)
def F_X3_answerBelow_36 (N : Nat) (x0 : Option Nat) (x1 : Int32) (x3 : Option Nat) (s0 : Option Nat) (S : cS) : cS := (F_X3_answerBelow_49 N x3 s0 (f_X9_post N S (za x3) (cI S 1 (za x0)) x1 s0))
def O_X3_answerBelow_36 (N : Nat) (x0 : Option Nat) (x1 : Int32) (x3 : Option Nat) (s0 : Option Nat) (S : cS) : Prop := (cis S x0 6) ∧ (cis S x3 8 ∧ o_X9_post N S (za x3) (cI S 1 (za x0)) x1 s0) ∧ O_X3_answerBelow_49 N x3 s0 (f_X9_post N S (za x3) (cI S 1 (za x0)) x1 s0)
set_option maxRecDepth 100000 in
set_option maxHeartbeats 4000000 in
theorem b_X3_answerBelow_36 {G : zG} {o : cO} {S : cS} {N : Nat} {Q : Option Value → cS → Prop} {X : cS → Prop} (hG : zOK G) (hR : ∀ S', X S' → Q none S') {x0 : Option Nat} {x1 : Int32} {x3 : Option Nat} {s0 : Option Nat} (ok : O_X3_answerBelow_36 N x0 x1 x3 s0 S) (hx : X (F_X3_answerBelow_36 N x0 x1 x3 s0 S)) : cX G o dX3_answerBelow mX3_answerBelow 36 [some (va_rf x0), some (.int x1), none, some (va_rf x3), none, none] [va_rf s0] S Q := by
  unfold O_X3_answerBelow_36 at ok
  unfold F_X3_answerBelow_36 at hx
  refine c_astore_5Q dX3_answerBelow_36 (by decide) rfl ?_
  refine c_aload_nQ dX3_answerBelow_38 rfl rfl ?_
  refine c_aload_nQ dX3_answerBelow_39 rfl rfl ?_
  refine c_getI (C := RX6) (T := TX6) (N := 19) (ci := 5) (k := 1) ⟨rfl, inT6, by decide, fX3_37⟩ (by decide) (by decide) (by decide) dX3_answerBelow_40 ok.1 ?_
  have ok := ok.2
  refine c_iload_n dX3_answerBelow_43 rfl rfl ?_
  refine c_aloadQ dX3_answerBelow_44 rfl ?_
  refine c_V3vE (ci := 7) (rr := (RX9, TX9, 13)) (y' := mX9_post) dX3_answerBelow_46 lX3_77 kX9_post ⟨by decide, by decide⟩ rfl rfl (by decide) ok.1.1 (Nat.le_of_ble_eq_true rfl) (cc_X9_post hG ok.1.2) ?_
  have ok := ok.2
  exact cX.cutz (b_X3_answerBelow_49 hG hR ok hx) ⟨rfl, rfl, trivial⟩
def F_X3_answerBelow_13 (N : Nat) (x0 : Option Nat) (x1 : Int32) (x3 : Option Nat) (s0 : Option Nat) (S : cS) : cS := (if s0 = none then (F_X3_answerBelow_36 N x0 x1 x3 ((f_X6_snapshot N S (za x0)).1) (f_X6_snapshot N S (za x0)).2) else (f_X9_post N S (za x3) (cI S 1 (za x0)) x1 s0))
def O_X3_answerBelow_13 (N : Nat) (x0 : Option Nat) (x1 : Int32) (x3 : Option Nat) (s0 : Option Nat) (S : cS) : Prop := ((s0 = none → (cis S x0 6 ∧ o_X6_snapshot N S (za x0)) ∧ O_X3_answerBelow_36 N x0 x1 x3 ((f_X6_snapshot N S (za x0)).1) (f_X6_snapshot N S (za x0)).2) ∧ (¬ s0 = none → (cis S x0 6) ∧ (cis S x3 8 ∧ o_X9_post N S (za x3) (cI S 1 (za x0)) x1 s0) ∧ True))
set_option maxRecDepth 100000 in
set_option maxHeartbeats 4000000 in
theorem b_X3_answerBelow_13 {G : zG} {o : cO} {S : cS} {N : Nat} {Q : Option Value → cS → Prop} {X : cS → Prop} (hG : zOK G) (hR : ∀ S', X S' → Q none S') {x0 : Option Nat} {x1 : Int32} {x3 : Option Nat} {s0 : Option Nat} (ok : O_X3_answerBelow_13 N x0 x1 x3 s0 S) (hx : X (F_X3_answerBelow_13 N x0 x1 x3 s0 S)) : cX G o dX3_answerBelow mX3_answerBelow 13 [some (va_rf x0), some (.int x1), none, some (va_rf x3), none, none] [va_rf s0] S Q := by
  unfold O_X3_answerBelow_13 at ok
  unfold F_X3_answerBelow_13 at hx
  refine c_astore_4Q dX3_answerBelow_13 (by decide) (by simp [zok, zg, zcat_rf]) ?_
  refine c_aloadQ dX3_answerBelow_15 rfl ?_
  refine c_ifnullI (tgt := 32) dX3_answerBelow_17 (by decide) (fun c_17 => ?_) (fun c_17 => ?_)
  · have ok := ok.1 c_17
    have hx := xif_p c_17 hx
    refine c_aload_nQ dX3_answerBelow_32 rfl rfl ?_
    refine c_V0qE (ci := 5) (rr := (RX6, TX6, 19)) (y' := mX6_snapshot) dX3_answerBelow_33 lX3_112 kX6_snapshot ⟨by decide, by decide⟩ rfl rfl (by decide) ok.1.1 (Nat.le_of_ble_eq_true rfl) (cc_X6_snapshot hG ok.1.2) ?_
    have ok := ok.2
    exact cX.cutz (b_X3_answerBelow_36 hG hR ok hx) ⟨rfl, rfl, rfl, trivial⟩
  · have ok := ok.2 c_17
    have hx := xif_n c_17 hx
    refine c_aload_nQ dX3_answerBelow_20 rfl rfl ?_
    refine c_aload_nQ dX3_answerBelow_21 rfl rfl ?_
    refine c_getI (C := RX6) (T := TX6) (N := 19) (ci := 5) (k := 1) ⟨rfl, inT6, by decide, fX3_37⟩ (by decide) (by decide) (by decide) dX3_answerBelow_22 ok.1 ?_
    have ok := ok.2
    refine c_iload_n dX3_answerBelow_25 rfl rfl ?_
    refine c_aloadQ dX3_answerBelow_26 rfl ?_
    refine c_V3vE (ci := 7) (rr := (RX9, TX9, 13)) (y' := mX9_post) dX3_answerBelow_28 lX3_77 kX9_post ⟨by decide, by decide⟩ rfl rfl (by decide) ok.1.1 (Nat.le_of_ble_eq_true rfl) (cc_X9_post hG ok.1.2) ?_
    have ok := ok.2
    exact c_return rfl dX3_answerBelow_31 (hR _ hx)
def F_X3_answerBelow_0 (N : Nat) (x0 : Option Nat) (x1 : Int32) (x2 : Int32) (S : cS) : cS := (F_X3_answerBelow_13 N x0 x1 (cR S 6 (za (cR S 0 (za x0)))) ((f_X6_decided N S (za x0) x2).1) (f_X6_decided N S (za x0) x2).2)
def O_X3_answerBelow_0 (N : Nat) (x0 : Option Nat) (x1 : Int32) (x2 : Int32) (S : cS) : Prop := (cis S x0 6) ∧ (cis S (cR S 0 (za x0)) 9) ∧ (cis S x0 6 ∧ o_X6_decided N S (za x0) x2) ∧ O_X3_answerBelow_13 N x0 x1 (cR S 6 (za (cR S 0 (za x0)))) ((f_X6_decided N S (za x0) x2).1) (f_X6_decided N S (za x0) x2).2
set_option maxRecDepth 100000 in
set_option maxHeartbeats 4000000 in
theorem b_X3_answerBelow_0 {G : zG} {o : cO} {S : cS} {N : Nat} {Q : Option Value → cS → Prop} {X : cS → Prop} (hG : zOK G) (hR : ∀ S', X S' → Q none S') {x0 : Option Nat} {x1 : Int32} {x2 : Int32} (ok : O_X3_answerBelow_0 N x0 x1 x2 S) (hx : X (F_X3_answerBelow_0 N x0 x1 x2 S)) : cX G o dX3_answerBelow mX3_answerBelow 0 [some (va_rf x0), some (.int x1), some (.int x2), none, none, none] [] S Q := by
  unfold O_X3_answerBelow_0 at ok
  unfold F_X3_answerBelow_0 at hx
  refine c_aload_nQ dX3_answerBelow_0 rfl rfl ?_
  refine c_getR (C := RX6) (T := TX6) (N := 19) (ci := 5) (k := 0) ⟨rfl, inT6, by decide, fX3_33⟩ (by decide) (by decide) (by decide) dX3_answerBelow_1 ok.1 ?_
  have ok := ok.2
  refine c_getR (C := RX10) (T := TX10) (N := 12) (ci := 8) (k := 6) ⟨rfl, inT10, by decide, fX3_73⟩ (by decide) (by decide) (by decide) dX3_answerBelow_4 ok.1 ?_
  have ok := ok.2
  refine c_astore_3Q dX3_answerBelow_7 (by decide) rfl ?_
  refine c_aload_nQ dX3_answerBelow_8 rfl rfl ?_
  refine c_iload_n dX3_answerBelow_9 rfl rfl ?_
  refine c_V1qE (ci := 5) (rr := (RX6, TX6, 19)) (y' := mX6_decided) dX3_answerBelow_10 lX3_108 kX6_decided ⟨by decide, by decide⟩ rfl rfl (by decide) ok.1.1 (Nat.le_of_ble_eq_true rfl) (cc_X6_decided hG ok.1.2) ?_
  have ok := ok.2
  exact cX.cutz (b_X3_answerBelow_13 hG hR ok hx) ⟨rfl, rfl, rfl, trivial⟩
def f_X3_answerBelow (N : Nat) (S : cS) (x0 : Option Nat) (x1 : Int32) (x2 : Int32) : cS := F_X3_answerBelow_0 N x0 x1 x2 S
def o_X3_answerBelow (N : Nat) (S : cS) (x0 : Option Nat) (x1 : Int32) (x2 : Int32) : Prop := O_X3_answerBelow_0 N x0 x1 x2 S
set_option maxRecDepth 100000 in
set_option maxHeartbeats 4000000 in
theorem cc_X3_answerBelow {G : zG} {o : cO} {S : cS} {N : Nat} (hG : zOK G) {x0 : Option Nat} {x1 : Int32} {x2 : Int32} (ok : o_X3_answerBelow N S x0 x1 x2) : cCv G o dX3_answerBelow mX3_answerBelow [va_rf x0, .int x1, .int x2] S (fun S' => S' = f_X3_answerBelow N S x0 x1 x2) := by
  refine cC.ofX rfl (by cases x0 <;> exact Nat.le_of_ble_eq_true rfl) ?_
  rw [show zargs mX3_answerBelow.2.2.1 [va_rf x0, .int x1, .int x2] = [some (va_rf x0), some (.int x1), some (.int x2), none, none, none] from by cases x0 <;> rfl]
  exact cX.cutz (b_X3_answerBelow_0 (X := fun F => F = f_X3_answerBelow N S x0 x1 x2) hG (fun S' h => ⟨rfl, h⟩) ok rfl) ⟨rfl, rfl, rfl, trivial⟩
/-! X8_top -/
def F_X8_top_0 (N : Nat) (x0 : Option Nat) (x1 : Int32) (S : cS) : Int32 := (cA S (za (cR S 5 (za x0))) (x1 &&& (nI 1)).toNatClampNeg)
def O_X8_top_0 (N : Nat) (x0 : Option Nat) (x1 : Int32) (S : cS) : Prop := (cis S x0 7) ∧ (cis S (cR S 5 (za x0)) 21 ∧ vp_in (x1 &&& (nI 1)) (cL S (za (cR S 5 (za x0))))) ∧ True
set_option maxRecDepth 100000 in
set_option maxHeartbeats 4000000 in
theorem b_X8_top_0 {G : zG} {o : cO} {S : cS} {N : Nat} {Q : Option Value → cS → Prop} {X : Int32 → Prop} (hG : zOK G) (hR : ∀ v, X v → Q (some (.int v)) S) {x0 : Option Nat} {x1 : Int32} (ok : O_X8_top_0 N x0 x1 S) (hx : X (F_X8_top_0 N x0 x1 S)) : cX G o dX8_top mX8_top 0 [some (va_rf x0), some (.int x1)] [] S Q := by
  unfold O_X8_top_0 at ok
  unfold F_X8_top_0 at hx
  refine c_aload_nQ dX8_top_0 rfl rfl ?_
  refine c_getR (C := RX8) (T := TX8) (N := 14) (ci := 6) (k := 5) ⟨rfl, inT8, by decide, fX8_21⟩ (by decide) (by decide) (by decide) dX8_top_1 ok.1 ?_
  have ok := ok.2
  refine c_iload_n dX8_top_4 rfl rfl ?_
  refine c_iconst (v := nI 1) dX8_top_5 (by decide) ?_
  refine c_iand dX8_top_6 ?_
  refine c_iald dX8_top_7 ok.1 ?_
  have ok := ok.2
  exact c_ireturn rfl rfl dX8_top_8 (hR _ hx)
def f_X8_top (N : Nat) (S : cS) (a0 : Nat) (x1 : Int32) : Int32 := F_X8_top_0 N (some a0) x1 S
def o_X8_top (N : Nat) (S : cS) (a0 : Nat) (x1 : Int32) : Prop := O_X8_top_0 N (some a0) x1 S
set_option maxRecDepth 100000 in
set_option maxHeartbeats 4000000 in
theorem cc_X8_top {G : zG} {o : cO} {S : cS} {N : Nat} (hG : zOK G) {a0 : Nat} {x1 : Int32} (ok : o_X8_top N S a0 x1) : cCi G o dX8_top mX8_top [.ref a0, .int x1] S (fun v S' => v = f_X8_top N S a0 x1 ∧ S' = S) := by
  refine cC.ofX rfl (by exact Nat.le_of_ble_eq_true rfl) ?_
  show cX G o dX8_top mX8_top 0 [some (.ref a0), some (.int x1)] [] S _
  exact cX.cutz (b_X8_top_0 (X := fun F => F = f_X8_top N S a0 x1) hG (fun v h => ⟨v, rfl, h, rfl⟩) ok rfl) ⟨rfl, rfl, trivial⟩

/-! X9_init -/
def F_X9_init_81 (N : Nat)  (S : cS) : cS := S
def O_X9_init_81 (N : Nat)  (S : cS) : Prop := True
set_option maxRecDepth 100000 in
set_option maxHeartbeats 4000000 in
theorem b_X9_init_81 {G : zG} {o : cO} {S : cS} {N : Nat} {Q : Option Value → cS → Prop} {X : cS → Prop} (hG : zOK G) (hR : ∀ S', X S' → Q none S') (ok : O_X9_init_81 N S) (hx : X (F_X9_init_81 N S)) : cX G o dX9_init mX9_init 81 [none, none] [] S Q := by
  unfold O_X9_init_81 at ok
  unfold F_X9_init_81 at hx
  exact c_return rfl dX9_init_81 (hR _ hx)
def B_X9_init_61 (N : Nat) (rec : Option Nat → Int32 → cS → Nat × cS) (x0 : Option Nat) (x1 : Int32) (S : cS) : Nat × cS := (if (nI 1000) ≤ x1 then (0, S) else (rec x0 (x1 + nI 1) (csA S (za (cR S 1 (za x0))) x1.toNatClampNeg x1)))
def OB_X9_init_61 (N : Nat) (rok : Option Nat → Int32 → cS → Prop) (x0 : Option Nat) (x1 : Int32) (S : cS) : Prop := (((nI 1000) ≤ x1 → True) ∧ (¬ (nI 1000) ≤ x1 → (cis S x0 8) ∧ (cis S (cR S 1 (za x0)) 21 ∧ vp_in x1 (cL S (za (cR S 1 (za x0))))) ∧ rok x0 (x1 + nI 1) (csA S (za (cR S 1 (za x0))) x1.toNatClampNeg x1)))
set_option maxRecDepth 100000 in
set_option maxHeartbeats 4000000 in
theorem bb_X9_init_61 {G : zG} {o : cO} {S : cS} {N : Nat} {Q : Option Value → cS → Prop} {X : Nat × cS → Prop} (hG : zOK G) (hX0 : ∀ (S' : cS), X (0, S') → cX G o dX9_init mX9_init 81 [none, none] [] S' Q) {rec : Option Nat → Int32 → cS → Nat × cS} {rok : Option Nat → Int32 → cS → Prop} (hrec : ∀ (x0 : Option Nat) (x1 : Int32) (S : cS), rok x0 x1 S → X (rec x0 x1 S) → cX G o dX9_init mX9_init 61 [some (va_rf x0), some (.int x1)] [] S Q) {x0 : Option Nat} {x1 : Int32} (ok : OB_X9_init_61 N rok x0 x1 S) (hx : X (B_X9_init_61 N rec x0 x1 S)) : cX G o dX9_init mX9_init 61 [some (va_rf x0), some (.int x1)] [] S Q := by
  unfold OB_X9_init_61 at ok
  unfold B_X9_init_61 at hx
  refine c_iload_n dX9_init_61 rfl rfl ?_
  refine c_sipush (v := nI 1000) dX9_init_62 (by decide) ?_
  refine c_icmp_ge (tgt := 81) dX9_init_65 (by decide) (fun c_65 => ?_) (fun c_65 => ?_)
  · have ok := ok.1 c_65
    have hx := xif_p c_65 hx
    exact cX.cutz (hX0 S hx) trivial
  · have ok := ok.2 c_65
    have hx := xif_n c_65 hx
    refine c_aload_nQ dX9_init_68 rfl rfl ?_
    refine c_getR (C := RX9) (T := TX9) (N := 13) (ci := 7) (k := 1) ⟨rfl, inT9, by decide, fX9_15⟩ (by decide) (by decide) (by decide) dX9_init_69 ok.1 ?_
    have ok := ok.2
    refine c_iload_n dX9_init_72 rfl rfl ?_
    refine c_iload_n dX9_init_73 rfl rfl ?_
    refine c_iast hG dX9_init_74 ok.1 ?_
    have ok := ok.2
    refine c_iinc_1 (v := (x1 + nI 1)) dX9_init_75 rfl (by first | rfl | (congr 1)) (by decide) (by simp [zok, zg, zcat_rf]) ?_
    refine c_goto (tgt := 61) dX9_init_78 (by decide) ?_
    exact cX.cutz (hrec _ _ (csA S (za (cR S 1 (za x0))) x1.toNatClampNeg x1) ok hx) ⟨rfl, rfl, trivial⟩
def L_X9_init_61 (N : Nat) : Nat → Option Nat → Int32 → cS → Nat × cS
  | 0, x0, x1, S => (0, S)
  | n + 1, x0, x1, S => B_X9_init_61 N (L_X9_init_61 N n) x0 x1 S
def OL_X9_init_61 (N : Nat) : Nat → Option Nat → Int32 → cS → Prop
  | 0, _, _, _ => False
  | n + 1, x0, x1, S => OB_X9_init_61 N (OL_X9_init_61 N n) x0 x1 S
set_option maxRecDepth 100000 in
set_option maxHeartbeats 4000000 in
theorem l_X9_init_61 {G : zG} {o : cO} {N : Nat} {Q : Option Value → cS → Prop} {X : Nat × cS → Prop} (hG : zOK G) (hX0 : ∀ (S' : cS), X (0, S') → cX G o dX9_init mX9_init 81 [none, none] [] S' Q) : ∀ (n : Nat) (x0 : Option Nat) (x1 : Int32) (S : cS), OL_X9_init_61 N n x0 x1 S → X (L_X9_init_61 N n x0 x1 S) → cX G o dX9_init mX9_init 61 [some (va_rf x0), some (.int x1)] [] S Q := by
  intro n
  induction n with
  | zero => intro x0 x1 S ok; exact absurd ok id
  | succ n ih =>
    intro x0 x1 S ok hx
    exact bb_X9_init_61 hG hX0 (rec := L_X9_init_61 N n) (rok := OL_X9_init_61 N n) (fun x0 x1 S ok hx => ih x0 x1 S ok hx) ok hx
def A_X9_init_61 (N : Nat) (x0 : Option Nat) (x1 : Int32) (S : cS) (z : Nat × cS) : cS := (F_X9_init_81 N z.2)
def OA_X9_init_61 (N : Nat) (x0 : Option Nat) (x1 : Int32) (S : cS) (z : Nat × cS) : Prop := O_X9_init_81 N z.2
set_option maxRecDepth 100000 in
set_option maxHeartbeats 4000000 in
theorem c_X9_init_61 {G : zG} {o : cO} {S : cS} {N : Nat} {Q : Option Value → cS → Prop} {X : cS → Prop} (hG : zOK G) (hR : ∀ S', X S' → Q none S') {x0 : Option Nat} {x1 : Int32} (ok : OL_X9_init_61 N N x0 x1 S ∧ OA_X9_init_61 N x0 x1 S (L_X9_init_61 N N x0 x1 S)) (hx : X (A_X9_init_61 N x0 x1 S (L_X9_init_61 N N x0 x1 S))) : cX G o dX9_init mX9_init 61 [some (va_rf x0), some (.int x1)] [] S Q := by
  refine l_X9_init_61 hG ?_ N x0 x1 S ok.1 (X := fun z => OA_X9_init_61 N x0 x1 S z ∧ X (A_X9_init_61 N x0 x1 S z)) ⟨ok.2, hx⟩
  · intro S' hz
    obtain ⟨ok, hx⟩ := hz
    unfold OA_X9_init_61 at ok
    unfold A_X9_init_61 at hx
    exact cX.cutz (b_X9_init_81 hG hR ok hx) trivial
def F_X9_init_59 (N : Nat) (x0 : Option Nat) (S : cS) : cS := (A_X9_init_61 N x0 (nI 0) S (L_X9_init_61 N N x0 (nI 0) S))
def O_X9_init_59 (N : Nat) (x0 : Option Nat) (S : cS) : Prop := (OL_X9_init_61 N N x0 (nI 0) S ∧ OA_X9_init_61 N x0 (nI 0) S (L_X9_init_61 N N x0 (nI 0) S))
set_option maxRecDepth 100000 in
set_option maxHeartbeats 4000000 in
theorem b_X9_init_59 {G : zG} {o : cO} {S : cS} {N : Nat} {Q : Option Value → cS → Prop} {X : cS → Prop} (hG : zOK G) (hR : ∀ S', X S' → Q none S') {x0 : Option Nat} (ok : O_X9_init_59 N x0 S) (hx : X (F_X9_init_59 N x0 S)) : cX G o dX9_init mX9_init 59 [some (va_rf x0), none] [] S Q := by
  unfold O_X9_init_59 at ok
  unfold F_X9_init_59 at hx
  refine c_iconst (v := nI 0) dX9_init_59 (by decide) ?_
  refine c_istore_1 dX9_init_60 (by decide) (by simp [zok, zg, zcat_rf]) ?_
  exact cX.cutz (c_X9_init_61 hG hR ok hx) ⟨rfl, rfl, trivial⟩
def F_X9_init_49 (N : Nat) (x0 : Option Nat) (S : cS) : cS := (F_X9_init_59 N x0 (csR (csNew S 24 (nI 1000).toNatClampNeg) 5 (za x0) (some (cn S))))
def O_X9_init_49 (N : Nat) (x0 : Option Nat) (S : cS) : Prop := (¬ (nI 1000) < 0 ∧ (nI 1000).toNatClampNeg ≤ 1000000) ∧ (cis (csNew S 24 (nI 1000).toNatClampNeg) x0 8) ∧ O_X9_init_59 N x0 (csR (csNew S 24 (nI 1000).toNatClampNeg) 5 (za x0) (some (cn S)))
set_option maxRecDepth 100000 in
set_option maxHeartbeats 4000000 in
theorem b_X9_init_49 {G : zG} {o : cO} {S : cS} {N : Nat} {Q : Option Value → cS → Prop} {X : cS → Prop} (hG : zOK G) (hR : ∀ S', X S' → Q none S') {x0 : Option Nat} (ok : O_X9_init_49 N x0 S) (hx : X (F_X9_init_49 N x0 S)) : cX G o dX9_init mX9_init 49 [some (va_rf x0), none] [] S Q := by
  unfold O_X9_init_49 at ok
  unfold F_X9_init_49 at hx
  refine c_aload_nQ dX9_init_49 rfl rfl ?_
  refine c_sipush (v := nI 1000) dX9_init_50 (by decide) ?_
  refine c_anew4 clX9_27 dX9_init_53 ok.1.1 ok.1.2 ?_
  have ok := ok.2
  refine c_putRF (C := RX9) (T := TX9) (N := 13) (ci := 7) (k := 5) ⟨rfl, inT9, by decide, fX9_29⟩ ftT9 rfl rfl rfl (by decide) (by decide) (by decide) (fun v => by cases v <;> rfl) (fun v => by cases v <;> rfl) dX9_init_56 ok.1 ?_
  have ok := ok.2
  exact cX.cutz (b_X9_init_59 hG hR ok hx) ⟨rfl, trivial⟩
def F_X9_init_40 (N : Nat) (x0 : Option Nat) (S : cS) : cS := (F_X9_init_49 N x0 (csR (csNew S 21 (nI 1000).toNatClampNeg) 4 (za x0) (some (cn S))))
def O_X9_init_40 (N : Nat) (x0 : Option Nat) (S : cS) : Prop := (¬ (nI 1000) < 0 ∧ (nI 1000).toNatClampNeg ≤ 1000000) ∧ (cis (csNew S 21 (nI 1000).toNatClampNeg) x0 8) ∧ O_X9_init_49 N x0 (csR (csNew S 21 (nI 1000).toNatClampNeg) 4 (za x0) (some (cn S)))
set_option maxRecDepth 100000 in
set_option maxHeartbeats 4000000 in
theorem b_X9_init_40 {G : zG} {o : cO} {S : cS} {N : Nat} {Q : Option Value → cS → Prop} {X : cS → Prop} (hG : zOK G) (hR : ∀ S', X S' → Q none S') {x0 : Option Nat} (ok : O_X9_init_40 N x0 S) (hx : X (F_X9_init_40 N x0 S)) : cX G o dX9_init mX9_init 40 [some (va_rf x0), none] [] S Q := by
  unfold O_X9_init_40 at ok
  unfold F_X9_init_40 at hx
  refine c_aload_nQ dX9_init_40 rfl rfl ?_
  refine c_sipush (v := nI 1000) dX9_init_41 (by decide) ?_
  refine c_newa1 dX9_init_44 ok.1.1 ok.1.2 ?_
  have ok := ok.2
  refine c_putRF (C := RX9) (T := TX9) (N := 13) (ci := 7) (k := 4) ⟨rfl, inT9, by decide, fX9_24⟩ ftT9 rfl rfl rfl (by decide) (by decide) (by decide) (fun v => by cases v <;> rfl) (fun v => by cases v <;> rfl) dX9_init_46 ok.1 ?_
  have ok := ok.2
  exact cX.cutz (b_X9_init_49 hG hR ok hx) ⟨rfl, trivial⟩
def F_X9_init_31 (N : Nat) (x0 : Option Nat) (S : cS) : cS := (F_X9_init_40 N x0 (csR (csNew S 21 (nI 1000).toNatClampNeg) 3 (za x0) (some (cn S))))
def O_X9_init_31 (N : Nat) (x0 : Option Nat) (S : cS) : Prop := (¬ (nI 1000) < 0 ∧ (nI 1000).toNatClampNeg ≤ 1000000) ∧ (cis (csNew S 21 (nI 1000).toNatClampNeg) x0 8) ∧ O_X9_init_40 N x0 (csR (csNew S 21 (nI 1000).toNatClampNeg) 3 (za x0) (some (cn S)))
set_option maxRecDepth 100000 in
set_option maxHeartbeats 4000000 in
theorem b_X9_init_31 {G : zG} {o : cO} {S : cS} {N : Nat} {Q : Option Value → cS → Prop} {X : cS → Prop} (hG : zOK G) (hR : ∀ S', X S' → Q none S') {x0 : Option Nat} (ok : O_X9_init_31 N x0 S) (hx : X (F_X9_init_31 N x0 S)) : cX G o dX9_init mX9_init 31 [some (va_rf x0), none] [] S Q := by
  unfold O_X9_init_31 at ok
  unfold F_X9_init_31 at hx
  refine c_aload_nQ dX9_init_31 rfl rfl ?_
  refine c_sipush (v := nI 1000) dX9_init_32 (by decide) ?_
  refine c_newa1 dX9_init_35 ok.1.1 ok.1.2 ?_
  have ok := ok.2
  refine c_putRF (C := RX9) (T := TX9) (N := 13) (ci := 7) (k := 3) ⟨rfl, inT9, by decide, fX9_21⟩ ftT9 rfl rfl rfl (by decide) (by decide) (by decide) (fun v => by cases v <;> rfl) (fun v => by cases v <;> rfl) dX9_init_37 ok.1 ?_
  have ok := ok.2
  exact cX.cutz (b_X9_init_40 hG hR ok hx) ⟨rfl, trivial⟩
def F_X9_init_22 (N : Nat) (x0 : Option Nat) (S : cS) : cS := (F_X9_init_31 N x0 (csR (csNew S 21 (nI 1000).toNatClampNeg) 2 (za x0) (some (cn S))))
def O_X9_init_22 (N : Nat) (x0 : Option Nat) (S : cS) : Prop := (¬ (nI 1000) < 0 ∧ (nI 1000).toNatClampNeg ≤ 1000000) ∧ (cis (csNew S 21 (nI 1000).toNatClampNeg) x0 8) ∧ O_X9_init_31 N x0 (csR (csNew S 21 (nI 1000).toNatClampNeg) 2 (za x0) (some (cn S)))
set_option maxRecDepth 100000 in
set_option maxHeartbeats 4000000 in
theorem b_X9_init_22 {G : zG} {o : cO} {S : cS} {N : Nat} {Q : Option Value → cS → Prop} {X : cS → Prop} (hG : zOK G) (hR : ∀ S', X S' → Q none S') {x0 : Option Nat} (ok : O_X9_init_22 N x0 S) (hx : X (F_X9_init_22 N x0 S)) : cX G o dX9_init mX9_init 22 [some (va_rf x0), none] [] S Q := by
  unfold O_X9_init_22 at ok
  unfold F_X9_init_22 at hx
  refine c_aload_nQ dX9_init_22 rfl rfl ?_
  refine c_sipush (v := nI 1000) dX9_init_23 (by decide) ?_
  refine c_newa1 dX9_init_26 ok.1.1 ok.1.2 ?_
  have ok := ok.2
  refine c_putRF (C := RX9) (T := TX9) (N := 13) (ci := 7) (k := 2) ⟨rfl, inT9, by decide, fX9_18⟩ ftT9 rfl rfl rfl (by decide) (by decide) (by decide) (fun v => by cases v <;> rfl) (fun v => by cases v <;> rfl) dX9_init_28 ok.1 ?_
  have ok := ok.2
  exact cX.cutz (b_X9_init_31 hG hR ok hx) ⟨rfl, trivial⟩
def F_X9_init_13 (N : Nat) (x0 : Option Nat) (S : cS) : cS := (F_X9_init_22 N x0 (csR (csNew S 21 (nI 1000).toNatClampNeg) 1 (za x0) (some (cn S))))
def O_X9_init_13 (N : Nat) (x0 : Option Nat) (S : cS) : Prop := (¬ (nI 1000) < 0 ∧ (nI 1000).toNatClampNeg ≤ 1000000) ∧ (cis (csNew S 21 (nI 1000).toNatClampNeg) x0 8) ∧ O_X9_init_22 N x0 (csR (csNew S 21 (nI 1000).toNatClampNeg) 1 (za x0) (some (cn S)))
set_option maxRecDepth 100000 in
set_option maxHeartbeats 4000000 in
theorem b_X9_init_13 {G : zG} {o : cO} {S : cS} {N : Nat} {Q : Option Value → cS → Prop} {X : cS → Prop} (hG : zOK G) (hR : ∀ S', X S' → Q none S') {x0 : Option Nat} (ok : O_X9_init_13 N x0 S) (hx : X (F_X9_init_13 N x0 S)) : cX G o dX9_init mX9_init 13 [some (va_rf x0), none] [] S Q := by
  unfold O_X9_init_13 at ok
  unfold F_X9_init_13 at hx
  refine c_aload_nQ dX9_init_13 rfl rfl ?_
  refine c_sipush (v := nI 1000) dX9_init_14 (by decide) ?_
  refine c_newa1 dX9_init_17 ok.1.1 ok.1.2 ?_
  have ok := ok.2
  refine c_putRF (C := RX9) (T := TX9) (N := 13) (ci := 7) (k := 1) ⟨rfl, inT9, by decide, fX9_15⟩ ftT9 rfl rfl rfl (by decide) (by decide) (by decide) (fun v => by cases v <;> rfl) (fun v => by cases v <;> rfl) dX9_init_19 ok.1 ?_
  have ok := ok.2
  exact cX.cutz (b_X9_init_22 hG hR ok hx) ⟨rfl, trivial⟩
def F_X9_init_0 (N : Nat) (x0 : Option Nat) (S : cS) : cS := (F_X9_init_13 N x0 (csR (csNew S 21 (nI 1024).toNatClampNeg) 0 (za x0) (some (cn S))))
def O_X9_init_0 (N : Nat) (x0 : Option Nat) (S : cS) : Prop := (x0 = some (za x0)) ∧ (¬ (nI 1024) < 0 ∧ (nI 1024).toNatClampNeg ≤ 1000000) ∧ (cis (csNew S 21 (nI 1024).toNatClampNeg) x0 8) ∧ O_X9_init_13 N x0 (csR (csNew S 21 (nI 1024).toNatClampNeg) 0 (za x0) (some (cn S)))
set_option maxRecDepth 100000 in
set_option maxHeartbeats 4000000 in
theorem b_X9_init_0 {G : zG} {o : cO} {S : cS} {N : Nat} {Q : Option Value → cS → Prop} {X : cS → Prop} (hG : zOK G) (hR : ∀ S', X S' → Q none S') {x0 : Option Nat} (ok : O_X9_init_0 N x0 S) (hx : X (F_X9_init_0 N x0 S)) : cX G o dX9_init mX9_init 0 [some (va_rf x0), none] [] S Q := by
  unfold O_X9_init_0 at ok
  unfold F_X9_init_0 at hx
  refine c_aload_nQ dX9_init_0 rfl rfl ?_
  refine c_objInit dX9_init_1 qX9_3 objI objC (by decide) (Nat.le_of_ble_eq_true rfl) ok.1 ?_
  have ok := ok.2
  refine c_aload_nQ dX9_init_4 rfl rfl ?_
  refine c_sipush (v := nI 1024) dX9_init_5 (by decide) ?_
  refine c_newa1 dX9_init_8 ok.1.1 ok.1.2 ?_
  have ok := ok.2
  refine c_putRF (C := RX9) (T := TX9) (N := 13) (ci := 7) (k := 0) ⟨rfl, inT9, by decide, fX9_11⟩ ftT9 rfl rfl rfl (by decide) (by decide) (by decide) (fun v => by cases v <;> rfl) (fun v => by cases v <;> rfl) dX9_init_10 ok.1 ?_
  have ok := ok.2
  exact cX.cutz (b_X9_init_13 hG hR ok hx) ⟨rfl, trivial⟩
def f_X9_init (N : Nat) (S : cS) (a0 : Nat) : cS := F_X9_init_0 N (some a0) S
def o_X9_init (N : Nat) (S : cS) (a0 : Nat) : Prop := O_X9_init_0 N (some a0) S
set_option maxRecDepth 100000 in
set_option maxHeartbeats 4000000 in
theorem cc_X9_init {G : zG} {o : cO} {S : cS} {N : Nat} (hG : zOK G) {a0 : Nat} (ok : o_X9_init N S a0) : cCv G o dX9_init mX9_init [.ref a0] S (fun S' => S' = f_X9_init N S a0) := by
  refine cC.ofX rfl (by exact Nat.le_of_ble_eq_true rfl) ?_
  show cX G o dX9_init mX9_init 0 [some (.ref a0), none] [] S _
  exact cX.cutz (b_X9_init_0 (X := fun F => F = f_X9_init N S a0) hG (fun S' h => ⟨rfl, h⟩) ok rfl) ⟨rfl, trivial⟩
/-! X9_hasRoom -/
def F_X9_hasRoom_15 (N : Nat) (s0 : Int32) (S : cS) : Int32 := s0
def O_X9_hasRoom_15 (N : Nat) (s0 : Int32) (S : cS) : Prop := narrow .boolean (.int s0) = .int s0
set_option maxRecDepth 100000 in
set_option maxHeartbeats 4000000 in
theorem b_X9_hasRoom_15 {G : zG} {o : cO} {S : cS} {N : Nat} {Q : Option Value → cS → Prop} {X : Int32 → Prop} (hG : zOK G) (hR : ∀ v, X v → Q (some (.int v)) S) {s0 : Int32} (ok : O_X9_hasRoom_15 N s0 S) (hx : X (F_X9_hasRoom_15 N s0 S)) : cX G o dX9_hasRoom mX9_hasRoom 15 [none] [.int s0] S Q := by
  unfold O_X9_hasRoom_15 at ok
  unfold F_X9_hasRoom_15 at hx
  exact c_ireturn rfl ok dX9_hasRoom_15 (hR _ hx)
def F_X9_hasRoom_0 (N : Nat) (x0 : Option Nat) (S : cS) : Int32 := (if (nI 1000) ≤ (cI S 9 (za x0)) then (F_X9_hasRoom_15 N (nI 0) S) else (F_X9_hasRoom_15 N (nI 1) S))
def O_X9_hasRoom_0 (N : Nat) (x0 : Option Nat) (S : cS) : Prop := (cis S x0 8) ∧ (((nI 1000) ≤ (cI S 9 (za x0)) → O_X9_hasRoom_15 N (nI 0) S) ∧ (¬ (nI 1000) ≤ (cI S 9 (za x0)) → O_X9_hasRoom_15 N (nI 1) S))
set_option maxRecDepth 100000 in
set_option maxHeartbeats 4000000 in
theorem b_X9_hasRoom_0 {G : zG} {o : cO} {S : cS} {N : Nat} {Q : Option Value → cS → Prop} {X : Int32 → Prop} (hG : zOK G) (hR : ∀ v, X v → Q (some (.int v)) S) {x0 : Option Nat} (ok : O_X9_hasRoom_0 N x0 S) (hx : X (F_X9_hasRoom_0 N x0 S)) : cX G o dX9_hasRoom mX9_hasRoom 0 [some (va_rf x0)] [] S Q := by
  unfold O_X9_hasRoom_0 at ok
  unfold F_X9_hasRoom_0 at hx
  refine c_aload_nQ dX9_hasRoom_0 rfl rfl ?_
  refine c_getI (C := RX9) (T := TX9) (N := 13) (ci := 7) (k := 9) ⟨rfl, inT9, by decide, fX9_33⟩ (by decide) (by decide) (by decide) dX9_hasRoom_1 ok.1 ?_
  have ok := ok.2
  refine c_sipush (v := nI 1000) dX9_hasRoom_4 (by decide) ?_
  refine c_icmp_ge (tgt := 14) dX9_hasRoom_7 (by decide) (fun c_7 => ?_) (fun c_7 => ?_)
  · have ok := ok.1 c_7
    have hx := xif_p c_7 hx
    refine c_iconst (v := nI 0) dX9_hasRoom_14 (by decide) ?_
    exact cX.cutz (b_X9_hasRoom_15 hG hR ok hx) trivial
  · have ok := ok.2 c_7
    have hx := xif_n c_7 hx
    refine c_iconst (v := nI 1) dX9_hasRoom_10 (by decide) ?_
    refine c_goto (tgt := 15) dX9_hasRoom_11 (by decide) ?_
    exact cX.cutz (b_X9_hasRoom_15 hG hR ok hx) trivial
def f_X9_hasRoom (N : Nat) (S : cS) (a0 : Nat) : Int32 := F_X9_hasRoom_0 N (some a0) S
def o_X9_hasRoom (N : Nat) (S : cS) (a0 : Nat) : Prop := O_X9_hasRoom_0 N (some a0) S
set_option maxRecDepth 100000 in
set_option maxHeartbeats 4000000 in
theorem cc_X9_hasRoom {G : zG} {o : cO} {S : cS} {N : Nat} (hG : zOK G) {a0 : Nat} (ok : o_X9_hasRoom N S a0) : cCi G o dX9_hasRoom mX9_hasRoom [.ref a0] S (fun v S' => v = f_X9_hasRoom N S a0 ∧ S' = S) := by
  refine cC.ofX rfl (by exact Nat.le_of_ble_eq_true rfl) ?_
  show cX G o dX9_hasRoom mX9_hasRoom 0 [some (.ref a0)] [] S _
  exact cX.cutz (b_X9_hasRoom_0 (X := fun F => F = f_X9_hasRoom N S a0) hG (fun v h => ⟨v, rfl, h, rfl⟩) ok rfl) ⟨rfl, trivial⟩
/-! X9_slot -/
def F_X9_slot_31 (N : Nat) (s0 : Int32) (S : cS) : Int32 := s0
def O_X9_slot_31 (N : Nat) (s0 : Int32) (S : cS) : Prop := True
set_option maxRecDepth 100000 in
set_option maxHeartbeats 4000000 in
theorem b_X9_slot_31 {G : zG} {o : cO} {S : cS} {N : Nat} {Q : Option Value → cS → Prop} {X : Int32 → Prop} (hG : zOK G) (hR : ∀ v, X v → Q (some (.int v)) S) {s0 : Int32} (ok : O_X9_slot_31 N s0 S) (hx : X (F_X9_slot_31 N s0 S)) : cX G o dX9_slot mX9_slot 31 [none, none] [.int s0] S Q := by
  unfold O_X9_slot_31 at ok
  unfold F_X9_slot_31 at hx
  exact c_ireturn rfl rfl dX9_slot_31 (hR _ hx)
def F_X9_slot_30 (N : Nat)  (S : cS) : Int32 := (F_X9_slot_31 N (-1) S)
def O_X9_slot_30 (N : Nat)  (S : cS) : Prop := O_X9_slot_31 N (-1) S
set_option maxRecDepth 100000 in
set_option maxHeartbeats 4000000 in
theorem b_X9_slot_30 {G : zG} {o : cO} {S : cS} {N : Nat} {Q : Option Value → cS → Prop} {X : Int32 → Prop} (hG : zOK G) (hR : ∀ v, X v → Q (some (.int v)) S) (ok : O_X9_slot_30 N S) (hx : X (F_X9_slot_30 N S)) : cX G o dX9_slot mX9_slot 30 [none, none] [] S Q := by
  unfold O_X9_slot_30 at ok
  unfold F_X9_slot_30 at hx
  refine c_iconst (v := -1) dX9_slot_30 (by decide) ?_
  exact cX.cutz (b_X9_slot_31 hG hR ok hx) trivial
def F_X9_slot_0 (N : Nat) (x0 : Option Nat) (x1 : Int32) (S : cS) : Int32 := (if x1 < 0 then (F_X9_slot_30 N S) else (if (cI S 9 (za x0)) ≤ x1 then (F_X9_slot_30 N S) else (F_X9_slot_31 N (cA S (za (cR S 0 (za x0))) (((cI S 6 (za x0)) + x1) &&& (nI 1023)).toNatClampNeg) S)))
def O_X9_slot_0 (N : Nat) (x0 : Option Nat) (x1 : Int32) (S : cS) : Prop := ((x1 < 0 → O_X9_slot_30 N S) ∧ (¬ x1 < 0 → (cis S x0 8) ∧ (((cI S 9 (za x0)) ≤ x1 → O_X9_slot_30 N S) ∧ (¬ (cI S 9 (za x0)) ≤ x1 → (cis S x0 8) ∧ (cis S x0 8) ∧ (cis S (cR S 0 (za x0)) 21 ∧ vp_in (((cI S 6 (za x0)) + x1) &&& (nI 1023)) (cL S (za (cR S 0 (za x0))))) ∧ O_X9_slot_31 N (cA S (za (cR S 0 (za x0))) (((cI S 6 (za x0)) + x1) &&& (nI 1023)).toNatClampNeg) S))))
set_option maxRecDepth 100000 in
set_option maxHeartbeats 4000000 in
theorem b_X9_slot_0 {G : zG} {o : cO} {S : cS} {N : Nat} {Q : Option Value → cS → Prop} {X : Int32 → Prop} (hG : zOK G) (hR : ∀ v, X v → Q (some (.int v)) S) {x0 : Option Nat} {x1 : Int32} (ok : O_X9_slot_0 N x0 x1 S) (hx : X (F_X9_slot_0 N x0 x1 S)) : cX G o dX9_slot mX9_slot 0 [some (va_rf x0), some (.int x1)] [] S Q := by
  unfold O_X9_slot_0 at ok
  unfold F_X9_slot_0 at hx
  refine c_iload_n dX9_slot_0 rfl rfl ?_
  refine c_if_lt (tgt := 30) dX9_slot_1 (by decide) (fun c_1 => ?_) (fun c_1 => ?_)
  · have ok := ok.1 c_1
    have hx := xif_p c_1 hx
    exact cX.cutz (b_X9_slot_30 hG hR ok hx) trivial
  · have ok := ok.2 c_1
    have hx := xif_n c_1 hx
    refine c_iload_n dX9_slot_4 rfl rfl ?_
    refine c_aload_nQ dX9_slot_5 rfl rfl ?_
    refine c_getI (C := RX9) (T := TX9) (N := 13) (ci := 7) (k := 9) ⟨rfl, inT9, by decide, fX9_33⟩ (by decide) (by decide) (by decide) dX9_slot_6 ok.1 ?_
    have ok := ok.2
    refine c_icmp_ge (tgt := 30) dX9_slot_9 (by decide) (fun c_9 => ?_) (fun c_9 => ?_)
    · have ok := ok.1 c_9
      have hx := xif_p c_9 hx
      exact cX.cutz (b_X9_slot_30 hG hR ok hx) trivial
    · have ok := ok.2 c_9
      have hx := xif_n c_9 hx
      refine c_aload_nQ dX9_slot_12 rfl rfl ?_
      refine c_getR (C := RX9) (T := TX9) (N := 13) (ci := 7) (k := 0) ⟨rfl, inT9, by decide, fX9_11⟩ (by decide) (by decide) (by decide) dX9_slot_13 ok.1 ?_
      have ok := ok.2
      refine c_aload_nQ dX9_slot_16 rfl rfl ?_
      refine c_getI (C := RX9) (T := TX9) (N := 13) (ci := 7) (k := 6) ⟨rfl, inT9, by decide, fX9_37⟩ (by decide) (by decide) (by decide) dX9_slot_17 ok.1 ?_
      have ok := ok.2
      refine c_iload_n dX9_slot_20 rfl rfl ?_
      refine c_iadd dX9_slot_21 ?_
      refine c_sipush (v := nI 1023) dX9_slot_22 (by decide) ?_
      refine c_iand dX9_slot_25 ?_
      refine c_iald dX9_slot_26 ok.1 ?_
      have ok := ok.2
      refine c_goto (tgt := 31) dX9_slot_27 (by decide) ?_
      exact cX.cutz (b_X9_slot_31 hG hR ok hx) trivial
def f_X9_slot (N : Nat) (S : cS) (a0 : Nat) (x1 : Int32) : Int32 := F_X9_slot_0 N (some a0) x1 S
def o_X9_slot (N : Nat) (S : cS) (a0 : Nat) (x1 : Int32) : Prop := O_X9_slot_0 N (some a0) x1 S
set_option maxRecDepth 100000 in
set_option maxHeartbeats 4000000 in
theorem cc_X9_slot {G : zG} {o : cO} {S : cS} {N : Nat} (hG : zOK G) {a0 : Nat} {x1 : Int32} (ok : o_X9_slot N S a0 x1) : cCi G o dX9_slot mX9_slot [.ref a0, .int x1] S (fun v S' => v = f_X9_slot N S a0 x1 ∧ S' = S) := by
  refine cC.ofX rfl (by exact Nat.le_of_ble_eq_true rfl) ?_
  show cX G o dX9_slot mX9_slot 0 [some (.ref a0), some (.int x1)] [] S _
  exact cX.cutz (b_X9_slot_0 (X := fun F => F = f_X9_slot N S a0 x1) hG (fun v h => ⟨v, rfl, h, rfl⟩) ok rfl) ⟨rfl, rfl, trivial⟩
/-! X9_loadOf -/
def F_X9_loadOf_20 (N : Nat) (s0 : Option Nat) (S : cS) : Option Nat := s0
def O_X9_loadOf_20 (N : Nat) (s0 : Option Nat) (S : cS) : Prop := True
set_option maxRecDepth 100000 in
set_option maxHeartbeats 4000000 in
theorem b_X9_loadOf_20 {G : zG} {o : cO} {S : cS} {N : Nat} {Q : Option Value → cS → Prop} {X : Option Nat → Prop} (hG : zOK G) (hR : ∀ v, X v → Q (some (va_rf v)) S) {s0 : Option Nat} (ok : O_X9_loadOf_20 N s0 S) (hx : X (F_X9_loadOf_20 N s0 S)) : cX G o dX9_loadOf mX9_loadOf 20 [none, none, none] [va_rf s0] S Q := by
  unfold O_X9_loadOf_20 at ok
  unfold F_X9_loadOf_20 at hx
  exact c_areturn rfl (Or.inl ⟨_, rfl⟩) dX9_loadOf_20 (hR _ hx)
def F_X9_loadOf_0 (N : Nat) (x0 : Option Nat) (x1 : Int32) (S : cS) : Option Nat := (if 0 ≤ (f_X9_slot N S (za x0) x1) then (F_X9_loadOf_20 N (cP S (za (cR S 5 (za x0))) (f_X9_slot N S (za x0) x1).toNatClampNeg) S) else (F_X9_loadOf_20 N (none : Option Nat) S))
def O_X9_loadOf_0 (N : Nat) (x0 : Option Nat) (x1 : Int32) (S : cS) : Prop := (cis S x0 8 ∧ o_X9_slot N S (za x0) x1) ∧ ((0 ≤ (f_X9_slot N S (za x0) x1) → (cis S x0 8) ∧ (cis S (cR S 5 (za x0)) 24 ∧ vp_in (f_X9_slot N S (za x0) x1) (cL S (za (cR S 5 (za x0))))) ∧ O_X9_loadOf_20 N (cP S (za (cR S 5 (za x0))) (f_X9_slot N S (za x0) x1).toNatClampNeg) S) ∧ (¬ 0 ≤ (f_X9_slot N S (za x0) x1) → O_X9_loadOf_20 N (none : Option Nat) S))
set_option maxRecDepth 100000 in
set_option maxHeartbeats 4000000 in
theorem b_X9_loadOf_0 {G : zG} {o : cO} {S : cS} {N : Nat} {Q : Option Value → cS → Prop} {X : Option Nat → Prop} (hG : zOK G) (hR : ∀ v, X v → Q (some (va_rf v)) S) {x0 : Option Nat} {x1 : Int32} (ok : O_X9_loadOf_0 N x0 x1 S) (hx : X (F_X9_loadOf_0 N x0 x1 S)) : cX G o dX9_loadOf mX9_loadOf 0 [some (va_rf x0), some (.int x1), none] [] S Q := by
  unfold O_X9_loadOf_0 at ok
  unfold F_X9_loadOf_0 at hx
  refine c_aload_nQ dX9_loadOf_0 rfl rfl ?_
  refine c_iload_n dX9_loadOf_1 rfl rfl ?_
  refine c_V1iE (ci := 7) (rr := (RX9, TX9, 13)) (y' := mX9_slot) dX9_loadOf_2 lX9_40 kX9_slot ⟨by decide, by decide⟩ rfl rfl (by decide) ok.1.1 (Nat.le_of_ble_eq_true rfl) (cc_X9_slot hG ok.1.2) ?_
  have ok := ok.2
  refine c_istore_2 dX9_loadOf_5 (by decide) rfl ?_
  refine c_iload_n dX9_loadOf_6 rfl rfl ?_
  refine c_if_ge (tgt := 14) dX9_loadOf_7 (by decide) (fun c_7 => ?_) (fun c_7 => ?_)
  · have ok := ok.1 c_7
    have hx := xif_p c_7 hx
    refine c_aload_nQ dX9_loadOf_14 rfl rfl ?_
    refine c_getR (C := RX9) (T := TX9) (N := 13) (ci := 7) (k := 5) ⟨rfl, inT9, by decide, fX9_29⟩ (by decide) (by decide) (by decide) dX9_loadOf_15 ok.1 ?_
    have ok := ok.2
    refine c_iload_n dX9_loadOf_18 rfl rfl ?_
    refine c_aald (t := 4) (ty := (.object "QuorumLedger$Message")) rfl rfl (by decide) dX9_loadOf_19 ok.1 ?_
    have ok := ok.2
    exact cX.cutz (b_X9_loadOf_20 hG hR ok hx) trivial
  · have ok := ok.2 c_7
    have hx := xif_n c_7 hx
    refine c_null' dX9_loadOf_10 ?_
    refine c_goto (tgt := 20) dX9_loadOf_11 (by decide) ?_
    exact cX.cutz (b_X9_loadOf_20 hG hR ok hx) trivial
def f_X9_loadOf (N : Nat) (S : cS) (a0 : Nat) (x1 : Int32) : Option Nat := F_X9_loadOf_0 N (some a0) x1 S
def o_X9_loadOf (N : Nat) (S : cS) (a0 : Nat) (x1 : Int32) : Prop := O_X9_loadOf_0 N (some a0) x1 S
set_option maxRecDepth 100000 in
set_option maxHeartbeats 4000000 in
theorem cc_X9_loadOf {G : zG} {o : cO} {S : cS} {N : Nat} (hG : zOK G) {a0 : Nat} {x1 : Int32} (ok : o_X9_loadOf N S a0 x1) : cCq G o dX9_loadOf mX9_loadOf [.ref a0, .int x1] S (fun v S' => v = f_X9_loadOf N S a0 x1 ∧ S' = S) := by
  refine cC.ofX rfl (by exact Nat.le_of_ble_eq_true rfl) ?_
  show cX G o dX9_loadOf mX9_loadOf 0 [some (.ref a0), some (.int x1), none] [] S _
  exact cX.cutz (b_X9_loadOf_0 (X := fun F => F = f_X9_loadOf N S a0 x1) hG (fun v h => ⟨v, rfl, h, rfl⟩) ok rfl) ⟨rfl, rfl, trivial⟩
/-! X9_senderOf -/
def F_X9_senderOf_20 (N : Nat) (s0 : Int32) (S : cS) : Int32 := s0
def O_X9_senderOf_20 (N : Nat) (s0 : Int32) (S : cS) : Prop := True
set_option maxRecDepth 100000 in
set_option maxHeartbeats 4000000 in
theorem b_X9_senderOf_20 {G : zG} {o : cO} {S : cS} {N : Nat} {Q : Option Value → cS → Prop} {X : Int32 → Prop} (hG : zOK G) (hR : ∀ v, X v → Q (some (.int v)) S) {s0 : Int32} (ok : O_X9_senderOf_20 N s0 S) (hx : X (F_X9_senderOf_20 N s0 S)) : cX G o dX9_senderOf mX9_senderOf 20 [none, none, none] [.int s0] S Q := by
  unfold O_X9_senderOf_20 at ok
  unfold F_X9_senderOf_20 at hx
  exact c_ireturn rfl rfl dX9_senderOf_20 (hR _ hx)
def F_X9_senderOf_0 (N : Nat) (x0 : Option Nat) (x1 : Int32) (S : cS) : Int32 := (if 0 ≤ (f_X9_slot N S (za x0) x1) then (F_X9_senderOf_20 N (cA S (za (cR S 2 (za x0))) (f_X9_slot N S (za x0) x1).toNatClampNeg) S) else (F_X9_senderOf_20 N (-1) S))
def O_X9_senderOf_0 (N : Nat) (x0 : Option Nat) (x1 : Int32) (S : cS) : Prop := (cis S x0 8 ∧ o_X9_slot N S (za x0) x1) ∧ ((0 ≤ (f_X9_slot N S (za x0) x1) → (cis S x0 8) ∧ (cis S (cR S 2 (za x0)) 21 ∧ vp_in (f_X9_slot N S (za x0) x1) (cL S (za (cR S 2 (za x0))))) ∧ O_X9_senderOf_20 N (cA S (za (cR S 2 (za x0))) (f_X9_slot N S (za x0) x1).toNatClampNeg) S) ∧ (¬ 0 ≤ (f_X9_slot N S (za x0) x1) → O_X9_senderOf_20 N (-1) S))
set_option maxRecDepth 100000 in
set_option maxHeartbeats 4000000 in
theorem b_X9_senderOf_0 {G : zG} {o : cO} {S : cS} {N : Nat} {Q : Option Value → cS → Prop} {X : Int32 → Prop} (hG : zOK G) (hR : ∀ v, X v → Q (some (.int v)) S) {x0 : Option Nat} {x1 : Int32} (ok : O_X9_senderOf_0 N x0 x1 S) (hx : X (F_X9_senderOf_0 N x0 x1 S)) : cX G o dX9_senderOf mX9_senderOf 0 [some (va_rf x0), some (.int x1), none] [] S Q := by
  unfold O_X9_senderOf_0 at ok
  unfold F_X9_senderOf_0 at hx
  refine c_aload_nQ dX9_senderOf_0 rfl rfl ?_
  refine c_iload_n dX9_senderOf_1 rfl rfl ?_
  refine c_V1iE (ci := 7) (rr := (RX9, TX9, 13)) (y' := mX9_slot) dX9_senderOf_2 lX9_40 kX9_slot ⟨by decide, by decide⟩ rfl rfl (by decide) ok.1.1 (Nat.le_of_ble_eq_true rfl) (cc_X9_slot hG ok.1.2) ?_
  have ok := ok.2
  refine c_istore_2 dX9_senderOf_5 (by decide) rfl ?_
  refine c_iload_n dX9_senderOf_6 rfl rfl ?_
  refine c_if_ge (tgt := 14) dX9_senderOf_7 (by decide) (fun c_7 => ?_) (fun c_7 => ?_)
  · have ok := ok.1 c_7
    have hx := xif_p c_7 hx
    refine c_aload_nQ dX9_senderOf_14 rfl rfl ?_
    refine c_getR (C := RX9) (T := TX9) (N := 13) (ci := 7) (k := 2) ⟨rfl, inT9, by decide, fX9_18⟩ (by decide) (by decide) (by decide) dX9_senderOf_15 ok.1 ?_
    have ok := ok.2
    refine c_iload_n dX9_senderOf_18 rfl rfl ?_
    refine c_iald dX9_senderOf_19 ok.1 ?_
    have ok := ok.2
    exact cX.cutz (b_X9_senderOf_20 hG hR ok hx) trivial
  · have ok := ok.2 c_7
    have hx := xif_n c_7 hx
    refine c_iconst (v := -1) dX9_senderOf_10 (by decide) ?_
    refine c_goto (tgt := 20) dX9_senderOf_11 (by decide) ?_
    exact cX.cutz (b_X9_senderOf_20 hG hR ok hx) trivial
def f_X9_senderOf (N : Nat) (S : cS) (a0 : Nat) (x1 : Int32) : Int32 := F_X9_senderOf_0 N (some a0) x1 S
def o_X9_senderOf (N : Nat) (S : cS) (a0 : Nat) (x1 : Int32) : Prop := O_X9_senderOf_0 N (some a0) x1 S
set_option maxRecDepth 100000 in
set_option maxHeartbeats 4000000 in
theorem cc_X9_senderOf {G : zG} {o : cO} {S : cS} {N : Nat} (hG : zOK G) {a0 : Nat} {x1 : Int32} (ok : o_X9_senderOf N S a0 x1) : cCi G o dX9_senderOf mX9_senderOf [.ref a0, .int x1] S (fun v S' => v = f_X9_senderOf N S a0 x1 ∧ S' = S) := by
  refine cC.ofX rfl (by exact Nat.le_of_ble_eq_true rfl) ?_
  show cX G o dX9_senderOf mX9_senderOf 0 [some (.ref a0), some (.int x1), none] [] S _
  exact cX.cutz (b_X9_senderOf_0 (X := fun F => F = f_X9_senderOf N S a0 x1) hG (fun v h => ⟨v, rfl, h, rfl⟩) ok rfl) ⟨rfl, rfl, trivial⟩
/-! X9_receiverOf -/
def F_X9_receiverOf_20 (N : Nat) (s0 : Int32) (S : cS) : Int32 := s0
def O_X9_receiverOf_20 (N : Nat) (s0 : Int32) (S : cS) : Prop := True
set_option maxRecDepth 100000 in
set_option maxHeartbeats 4000000 in
theorem b_X9_receiverOf_20 {G : zG} {o : cO} {S : cS} {N : Nat} {Q : Option Value → cS → Prop} {X : Int32 → Prop} (hG : zOK G) (hR : ∀ v, X v → Q (some (.int v)) S) {s0 : Int32} (ok : O_X9_receiverOf_20 N s0 S) (hx : X (F_X9_receiverOf_20 N s0 S)) : cX G o dX9_receiverOf mX9_receiverOf 20 [none, none, none] [.int s0] S Q := by
  unfold O_X9_receiverOf_20 at ok
  unfold F_X9_receiverOf_20 at hx
  exact c_ireturn rfl rfl dX9_receiverOf_20 (hR _ hx)
def F_X9_receiverOf_0 (N : Nat) (x0 : Option Nat) (x1 : Int32) (S : cS) : Int32 := (if 0 ≤ (f_X9_slot N S (za x0) x1) then (F_X9_receiverOf_20 N (cA S (za (cR S 3 (za x0))) (f_X9_slot N S (za x0) x1).toNatClampNeg) S) else (F_X9_receiverOf_20 N (-1) S))
def O_X9_receiverOf_0 (N : Nat) (x0 : Option Nat) (x1 : Int32) (S : cS) : Prop := (cis S x0 8 ∧ o_X9_slot N S (za x0) x1) ∧ ((0 ≤ (f_X9_slot N S (za x0) x1) → (cis S x0 8) ∧ (cis S (cR S 3 (za x0)) 21 ∧ vp_in (f_X9_slot N S (za x0) x1) (cL S (za (cR S 3 (za x0))))) ∧ O_X9_receiverOf_20 N (cA S (za (cR S 3 (za x0))) (f_X9_slot N S (za x0) x1).toNatClampNeg) S) ∧ (¬ 0 ≤ (f_X9_slot N S (za x0) x1) → O_X9_receiverOf_20 N (-1) S))
set_option maxRecDepth 100000 in
set_option maxHeartbeats 4000000 in
theorem b_X9_receiverOf_0 {G : zG} {o : cO} {S : cS} {N : Nat} {Q : Option Value → cS → Prop} {X : Int32 → Prop} (hG : zOK G) (hR : ∀ v, X v → Q (some (.int v)) S) {x0 : Option Nat} {x1 : Int32} (ok : O_X9_receiverOf_0 N x0 x1 S) (hx : X (F_X9_receiverOf_0 N x0 x1 S)) : cX G o dX9_receiverOf mX9_receiverOf 0 [some (va_rf x0), some (.int x1), none] [] S Q := by
  unfold O_X9_receiverOf_0 at ok
  unfold F_X9_receiverOf_0 at hx
  refine c_aload_nQ dX9_receiverOf_0 rfl rfl ?_
  refine c_iload_n dX9_receiverOf_1 rfl rfl ?_
  refine c_V1iE (ci := 7) (rr := (RX9, TX9, 13)) (y' := mX9_slot) dX9_receiverOf_2 lX9_40 kX9_slot ⟨by decide, by decide⟩ rfl rfl (by decide) ok.1.1 (Nat.le_of_ble_eq_true rfl) (cc_X9_slot hG ok.1.2) ?_
  have ok := ok.2
  refine c_istore_2 dX9_receiverOf_5 (by decide) rfl ?_
  refine c_iload_n dX9_receiverOf_6 rfl rfl ?_
  refine c_if_ge (tgt := 14) dX9_receiverOf_7 (by decide) (fun c_7 => ?_) (fun c_7 => ?_)
  · have ok := ok.1 c_7
    have hx := xif_p c_7 hx
    refine c_aload_nQ dX9_receiverOf_14 rfl rfl ?_
    refine c_getR (C := RX9) (T := TX9) (N := 13) (ci := 7) (k := 3) ⟨rfl, inT9, by decide, fX9_21⟩ (by decide) (by decide) (by decide) dX9_receiverOf_15 ok.1 ?_
    have ok := ok.2
    refine c_iload_n dX9_receiverOf_18 rfl rfl ?_
    refine c_iald dX9_receiverOf_19 ok.1 ?_
    have ok := ok.2
    exact cX.cutz (b_X9_receiverOf_20 hG hR ok hx) trivial
  · have ok := ok.2 c_7
    have hx := xif_n c_7 hx
    refine c_iconst (v := -1) dX9_receiverOf_10 (by decide) ?_
    refine c_goto (tgt := 20) dX9_receiverOf_11 (by decide) ?_
    exact cX.cutz (b_X9_receiverOf_20 hG hR ok hx) trivial
def f_X9_receiverOf (N : Nat) (S : cS) (a0 : Nat) (x1 : Int32) : Int32 := F_X9_receiverOf_0 N (some a0) x1 S
def o_X9_receiverOf (N : Nat) (S : cS) (a0 : Nat) (x1 : Int32) : Prop := O_X9_receiverOf_0 N (some a0) x1 S
set_option maxRecDepth 100000 in
set_option maxHeartbeats 4000000 in
theorem cc_X9_receiverOf {G : zG} {o : cO} {S : cS} {N : Nat} (hG : zOK G) {a0 : Nat} {x1 : Int32} (ok : o_X9_receiverOf N S a0 x1) : cCi G o dX9_receiverOf mX9_receiverOf [.ref a0, .int x1] S (fun v S' => v = f_X9_receiverOf N S a0 x1 ∧ S' = S) := by
  refine cC.ofX rfl (by exact Nat.le_of_ble_eq_true rfl) ?_
  show cX G o dX9_receiverOf mX9_receiverOf 0 [some (.ref a0), some (.int x1), none] [] S _
  exact cX.cutz (b_X9_receiverOf_0 (X := fun F => F = f_X9_receiverOf N S a0 x1) hG (fun v h => ⟨v, rfl, h, rfl⟩) ok rfl) ⟨rfl, rfl, trivial⟩
/-! X9_isRipe -/
def F_X9_isRipe_30 (N : Nat) (s0 : Int32) (S : cS) : Int32 := s0
def O_X9_isRipe_30 (N : Nat) (s0 : Int32) (S : cS) : Prop := narrow .boolean (.int s0) = .int s0
set_option maxRecDepth 100000 in
set_option maxHeartbeats 4000000 in
theorem b_X9_isRipe_30 {G : zG} {o : cO} {S : cS} {N : Nat} {Q : Option Value → cS → Prop} {X : Int32 → Prop} (hG : zOK G) (hR : ∀ v, X v → Q (some (.int v)) S) {s0 : Int32} (ok : O_X9_isRipe_30 N s0 S) (hx : X (F_X9_isRipe_30 N s0 S)) : cX G o dX9_isRipe mX9_isRipe 30 [none, none, none] [.int s0] S Q := by
  unfold O_X9_isRipe_30 at ok
  unfold F_X9_isRipe_30 at hx
  exact c_ireturn rfl ok dX9_isRipe_30 (hR _ hx)
def F_X9_isRipe_29 (N : Nat)  (S : cS) : Int32 := (F_X9_isRipe_30 N (nI 0) S)
def O_X9_isRipe_29 (N : Nat)  (S : cS) : Prop := O_X9_isRipe_30 N (nI 0) S
set_option maxRecDepth 100000 in
set_option maxHeartbeats 4000000 in
theorem b_X9_isRipe_29 {G : zG} {o : cO} {S : cS} {N : Nat} {Q : Option Value → cS → Prop} {X : Int32 → Prop} (hG : zOK G) (hR : ∀ v, X v → Q (some (.int v)) S) (ok : O_X9_isRipe_29 N S) (hx : X (F_X9_isRipe_29 N S)) : cX G o dX9_isRipe mX9_isRipe 29 [none, none, none] [] S Q := by
  unfold O_X9_isRipe_29 at ok
  unfold F_X9_isRipe_29 at hx
  refine c_iconst (v := nI 0) dX9_isRipe_29 (by decide) ?_
  exact cX.cutz (b_X9_isRipe_30 hG hR ok hx) trivial
def F_X9_isRipe_0 (N : Nat) (x0 : Option Nat) (x1 : Int32) (S : cS) : Int32 := (if (f_X9_slot N S (za x0) (nI 0)) < 0 then (F_X9_isRipe_29 N S) else (if (cI S 10 (za x0)) < ((cA S (za (cR S 4 (za x0))) (f_X9_slot N S (za x0) (nI 0)).toNatClampNeg) + x1) then (F_X9_isRipe_29 N S) else (F_X9_isRipe_30 N (nI 1) S)))
def O_X9_isRipe_0 (N : Nat) (x0 : Option Nat) (x1 : Int32) (S : cS) : Prop := (cis S x0 8 ∧ o_X9_slot N S (za x0) (nI 0)) ∧ (((f_X9_slot N S (za x0) (nI 0)) < 0 → O_X9_isRipe_29 N S) ∧ (¬ (f_X9_slot N S (za x0) (nI 0)) < 0 → (cis S x0 8) ∧ (cis S (cR S 4 (za x0)) 21 ∧ vp_in (f_X9_slot N S (za x0) (nI 0)) (cL S (za (cR S 4 (za x0))))) ∧ (cis S x0 8) ∧ (((cI S 10 (za x0)) < ((cA S (za (cR S 4 (za x0))) (f_X9_slot N S (za x0) (nI 0)).toNatClampNeg) + x1) → O_X9_isRipe_29 N S) ∧ (¬ (cI S 10 (za x0)) < ((cA S (za (cR S 4 (za x0))) (f_X9_slot N S (za x0) (nI 0)).toNatClampNeg) + x1) → O_X9_isRipe_30 N (nI 1) S))))
set_option maxRecDepth 100000 in
set_option maxHeartbeats 4000000 in
theorem b_X9_isRipe_0 {G : zG} {o : cO} {S : cS} {N : Nat} {Q : Option Value → cS → Prop} {X : Int32 → Prop} (hG : zOK G) (hR : ∀ v, X v → Q (some (.int v)) S) {x0 : Option Nat} {x1 : Int32} (ok : O_X9_isRipe_0 N x0 x1 S) (hx : X (F_X9_isRipe_0 N x0 x1 S)) : cX G o dX9_isRipe mX9_isRipe 0 [some (va_rf x0), some (.int x1), none] [] S Q := by
  unfold O_X9_isRipe_0 at ok
  unfold F_X9_isRipe_0 at hx
  refine c_aload_nQ dX9_isRipe_0 rfl rfl ?_
  refine c_iconst (v := nI 0) dX9_isRipe_1 (by decide) ?_
  refine c_V1iE (ci := 7) (rr := (RX9, TX9, 13)) (y' := mX9_slot) dX9_isRipe_2 lX9_40 kX9_slot ⟨by decide, by decide⟩ rfl rfl (by decide) ok.1.1 (Nat.le_of_ble_eq_true rfl) (cc_X9_slot hG ok.1.2) ?_
  have ok := ok.2
  refine c_istore_2 dX9_isRipe_5 (by decide) rfl ?_
  refine c_iload_n dX9_isRipe_6 rfl rfl ?_
  refine c_if_lt (tgt := 29) dX9_isRipe_7 (by decide) (fun c_7 => ?_) (fun c_7 => ?_)
  · have ok := ok.1 c_7
    have hx := xif_p c_7 hx
    exact cX.cutz (b_X9_isRipe_29 hG hR ok hx) trivial
  · have ok := ok.2 c_7
    have hx := xif_n c_7 hx
    refine c_aload_nQ dX9_isRipe_10 rfl rfl ?_
    refine c_getR (C := RX9) (T := TX9) (N := 13) (ci := 7) (k := 4) ⟨rfl, inT9, by decide, fX9_24⟩ (by decide) (by decide) (by decide) dX9_isRipe_11 ok.1 ?_
    have ok := ok.2
    refine c_iload_n dX9_isRipe_14 rfl rfl ?_
    refine c_iald dX9_isRipe_15 ok.1 ?_
    have ok := ok.2
    refine c_iload_n dX9_isRipe_16 rfl rfl ?_
    refine c_iadd dX9_isRipe_17 ?_
    refine c_aload_nQ dX9_isRipe_18 rfl rfl ?_
    refine c_getI (C := RX9) (T := TX9) (N := 13) (ci := 7) (k := 10) ⟨rfl, inT9, by decide, fX9_44⟩ (by decide) (by decide) (by decide) dX9_isRipe_19 ok.1 ?_
    have ok := ok.2
    refine c_icmp_gt (tgt := 29) dX9_isRipe_22 (by decide) (fun c_22 => ?_) (fun c_22 => ?_)
    · have ok := ok.1 c_22
      have hx := xif_p c_22 hx
      exact cX.cutz (b_X9_isRipe_29 hG hR ok hx) trivial
    · have ok := ok.2 c_22
      have hx := xif_n c_22 hx
      refine c_iconst (v := nI 1) dX9_isRipe_25 (by decide) ?_
      refine c_goto (tgt := 30) dX9_isRipe_26 (by decide) ?_
      exact cX.cutz (b_X9_isRipe_30 hG hR ok hx) trivial
def f_X9_isRipe (N : Nat) (S : cS) (a0 : Nat) (x1 : Int32) : Int32 := F_X9_isRipe_0 N (some a0) x1 S
def o_X9_isRipe (N : Nat) (S : cS) (a0 : Nat) (x1 : Int32) : Prop := O_X9_isRipe_0 N (some a0) x1 S
set_option maxRecDepth 100000 in
set_option maxHeartbeats 4000000 in
theorem cc_X9_isRipe {G : zG} {o : cO} {S : cS} {N : Nat} (hG : zOK G) {a0 : Nat} {x1 : Int32} (ok : o_X9_isRipe N S a0 x1) : cCi G o dX9_isRipe mX9_isRipe [.ref a0, .int x1] S (fun v S' => v = f_X9_isRipe N S a0 x1 ∧ S' = S) := by
  refine cC.ofX rfl (by exact Nat.le_of_ble_eq_true rfl) ?_
  show cX G o dX9_isRipe mX9_isRipe 0 [some (.ref a0), some (.int x1), none] [] S _
  exact cX.cutz (b_X9_isRipe_0 (X := fun F => F = f_X9_isRipe N S a0 x1) hG (fun v h => ⟨v, rfl, h, rfl⟩) ok rfl) ⟨rfl, rfl, trivial⟩
/-! X9_take -/
def F_X9_take_98 (N : Nat) (x0 : Option Nat) (x2 : Int32) (x3 : Option Nat) (S : cS) : Option Nat × cS := (x3, (csA S (za (cR S 1 (za x0))) (cI S 9 (za x0)).toNatClampNeg x2))
def O_X9_take_98 (N : Nat) (x0 : Option Nat) (x2 : Int32) (x3 : Option Nat) (S : cS) : Prop := (cis S x0 8) ∧ (cis S x0 8) ∧ (cis S (cR S 1 (za x0)) 21 ∧ vp_in (cI S 9 (za x0)) (cL S (za (cR S 1 (za x0))))) ∧ True
set_option maxRecDepth 100000 in
set_option maxHeartbeats 4000000 in
theorem b_X9_take_98 {G : zG} {o : cO} {S : cS} {N : Nat} {Q : Option Value → cS → Prop} {X : Option Nat × cS → Prop} (hG : zOK G) (hR : ∀ v S', X (v, S') → Q (some (va_rf v)) S') {x0 : Option Nat} {x2 : Int32} {x3 : Option Nat} (ok : O_X9_take_98 N x0 x2 x3 S) (hx : X (F_X9_take_98 N x0 x2 x3 S)) : cX G o dX9_take mX9_take 98 [some (va_rf x0), none, some (.int x2), some (va_rf x3), none] [] S Q := by
  unfold O_X9_take_98 at ok
  unfold F_X9_take_98 at hx
  refine c_aload_nQ dX9_take_98 rfl rfl ?_
  refine c_getR (C := RX9) (T := TX9) (N := 13) (ci := 7) (k := 1) ⟨rfl, inT9, by decide, fX9_15⟩ (by decide) (by decide) (by decide) dX9_take_99 ok.1 ?_
  have ok := ok.2
  refine c_aload_nQ dX9_take_102 rfl rfl ?_
  refine c_getI (C := RX9) (T := TX9) (N := 13) (ci := 7) (k := 9) ⟨rfl, inT9, by decide, fX9_33⟩ (by decide) (by decide) (by decide) dX9_take_103 ok.1 ?_
  have ok := ok.2
  refine c_iload_n dX9_take_106 rfl rfl ?_
  refine c_iast hG dX9_take_107 ok.1 ?_
  have ok := ok.2
  refine c_aload_nQ dX9_take_108 rfl rfl ?_
  exact c_areturn rfl (Or.inl ⟨_, rfl⟩) dX9_take_109 (hR _ _ hx)
def F_X9_take_74 (N : Nat) (x0 : Option Nat) (x2 : Int32) (x3 : Option Nat) (S : cS) : Option Nat × cS := (F_X9_take_98 N x0 x2 x3 (csI (csI S 6 (za x0) (((cI S 6 (za x0)) + (nI 1)) &&& (nI 1023))) 9 (za x0) ((cI (csI S 6 (za x0) (((cI S 6 (za x0)) + (nI 1)) &&& (nI 1023))) 9 (za x0)) - (nI 1))))
def O_X9_take_74 (N : Nat) (x0 : Option Nat) (x2 : Int32) (x3 : Option Nat) (S : cS) : Prop := (cis S x0 8) ∧ (cis S x0 8) ∧ (cis (csI S 6 (za x0) (((cI S 6 (za x0)) + (nI 1)) &&& (nI 1023))) x0 8) ∧ (cis (csI S 6 (za x0) (((cI S 6 (za x0)) + (nI 1)) &&& (nI 1023))) x0 8) ∧ O_X9_take_98 N x0 x2 x3 (csI (csI S 6 (za x0) (((cI S 6 (za x0)) + (nI 1)) &&& (nI 1023))) 9 (za x0) ((cI (csI S 6 (za x0) (((cI S 6 (za x0)) + (nI 1)) &&& (nI 1023))) 9 (za x0)) - (nI 1)))
set_option maxRecDepth 100000 in
set_option maxHeartbeats 4000000 in
theorem b_X9_take_74 {G : zG} {o : cO} {S : cS} {N : Nat} {Q : Option Value → cS → Prop} {X : Option Nat × cS → Prop} (hG : zOK G) (hR : ∀ v S', X (v, S') → Q (some (va_rf v)) S') {x0 : Option Nat} {x2 : Int32} {x3 : Option Nat} (ok : O_X9_take_74 N x0 x2 x3 S) (hx : X (F_X9_take_74 N x0 x2 x3 S)) : cX G o dX9_take mX9_take 74 [some (va_rf x0), none, some (.int x2), some (va_rf x3), none] [] S Q := by
  unfold O_X9_take_74 at ok
  unfold F_X9_take_74 at hx
  refine c_aload_nQ dX9_take_74 rfl rfl ?_
  refine c_aload_nQ dX9_take_75 rfl rfl ?_
  refine c_getI (C := RX9) (T := TX9) (N := 13) (ci := 7) (k := 6) ⟨rfl, inT9, by decide, fX9_37⟩ (by decide) (by decide) (by decide) dX9_take_76 ok.1 ?_
  have ok := ok.2
  refine c_iconst (v := nI 1) dX9_take_79 (by decide) ?_
  refine c_iadd dX9_take_80 ?_
  refine c_sipush (v := nI 1023) dX9_take_81 (by decide) ?_
  refine c_iand dX9_take_84 ?_
  refine c_putI (C := RX9) (T := TX9) (N := 13) (ci := 7) (k := 6) ⟨rfl, inT9, by decide, fX9_37⟩ ftT9 rfl (by decide) (by decide) (by decide) rfl rfl dX9_take_85 ok.1 ?_
  have ok := ok.2
  refine c_aload_nQ dX9_take_88 rfl rfl ?_
  refine c_dup dX9_take_89 (zcat_rf _) ?_
  refine c_getI (C := RX9) (T := TX9) (N := 13) (ci := 7) (k := 9) ⟨rfl, inT9, by decide, fX9_33⟩ (by decide) (by decide) (by decide) dX9_take_90 ok.1 ?_
  have ok := ok.2
  refine c_iconst (v := nI 1) dX9_take_93 (by decide) ?_
  refine c_isub dX9_take_94 ?_
  refine c_putI (C := RX9) (T := TX9) (N := 13) (ci := 7) (k := 9) ⟨rfl, inT9, by decide, fX9_33⟩ ftT9 rfl (by decide) (by decide) (by decide) rfl rfl dX9_take_95 ok.1 ?_
  have ok := ok.2
  exact cX.cutz (b_X9_take_98 hG hR ok hx) ⟨rfl, rfl, rfl, trivial⟩
def F_X9_take_68 (N : Nat) (rec : Option Nat → Int32 → Option Nat → Int32 → cS → Nat × Option Nat × Int32 × Option Nat × cS) (x0 : Option Nat) (x2 : Int32) (x3 : Option Nat) (x4 : Int32) (S : cS) : Nat × Option Nat × Int32 × Option Nat × cS := (rec x0 x2 x3 (x4 + (-1)) S)
def O_X9_take_68 (N : Nat) (rok : Option Nat → Int32 → Option Nat → Int32 → cS → Prop) (x0 : Option Nat) (x2 : Int32) (x3 : Option Nat) (x4 : Int32) (S : cS) : Prop := rok x0 x2 x3 (x4 + (-1)) S
set_option maxRecDepth 100000 in
set_option maxHeartbeats 4000000 in
theorem b_X9_take_68 {G : zG} {o : cO} {S : cS} {N : Nat} {Q : Option Value → cS → Prop} {X : Nat × Option Nat × Int32 × Option Nat × cS → Prop} (hG : zOK G) (hX0 : ∀ (x0 : Option Nat) (x2 : Int32) (x3 : Option Nat) (S' : cS), X (0, x0, x2, x3, S') → cX G o dX9_take mX9_take 74 [some (va_rf x0), none, some (.int x2), some (va_rf x3), none] [] S' Q) {rec : Option Nat → Int32 → Option Nat → Int32 → cS → Nat × Option Nat × Int32 × Option Nat × cS} {rok : Option Nat → Int32 → Option Nat → Int32 → cS → Prop} (hrec : ∀ (x0 : Option Nat) (x2 : Int32) (x3 : Option Nat) (x4 : Int32) (S : cS), rok x0 x2 x3 x4 S → X (rec x0 x2 x3 x4 S) → cX G o dX9_take mX9_take 29 [some (va_rf x0), none, some (.int x2), some (va_rf x3), some (.int x4)] [] S Q) {x0 : Option Nat} {x2 : Int32} {x3 : Option Nat} {x4 : Int32} (ok : O_X9_take_68 N rok x0 x2 x3 x4 S) (hx : X (F_X9_take_68 N rec x0 x2 x3 x4 S)) : cX G o dX9_take mX9_take 68 [some (va_rf x0), none, some (.int x2), some (va_rf x3), some (.int x4)] [] S Q := by
  unfold O_X9_take_68 at ok
  unfold F_X9_take_68 at hx
  refine c_iinc_4 (v := (x4 + (-1))) dX9_take_68 rfl (by first | rfl | (congr 1)) (by decide) (by simp [zok, zg, zcat_rf]) ?_
  refine c_goto (tgt := 29) dX9_take_71 (by decide) ?_
  exact cX.cutz (hrec _ _ _ _ S ok hx) ⟨rfl, rfl, rfl, rfl, trivial⟩
def B_X9_take_29 (N : Nat) (rec : Option Nat → Int32 → Option Nat → Int32 → cS → Nat × Option Nat × Int32 × Option Nat × cS) (x0 : Option Nat) (x2 : Int32) (x3 : Option Nat) (x4 : Int32) (S : cS) : Nat × Option Nat × Int32 × Option Nat × cS := (if x4 ≤ 0 then (0, x0, x2, x3, S) else (F_X9_take_68 N rec x0 x2 x3 x4 (csA S (za (cR S 0 (za x0))) (((cI S 6 (za x0)) + x4) &&& (nI 1023)).toNatClampNeg (cA S (za (cR S 0 (za x0))) ((((cI S 6 (za x0)) + x4) - (nI 1)) &&& (nI 1023)).toNatClampNeg))))
def OB_X9_take_29 (N : Nat) (rok : Option Nat → Int32 → Option Nat → Int32 → cS → Prop) (x0 : Option Nat) (x2 : Int32) (x3 : Option Nat) (x4 : Int32) (S : cS) : Prop := ((x4 ≤ 0 → True) ∧ (¬ x4 ≤ 0 → (cis S x0 8) ∧ (cis S x0 8) ∧ (cis S x0 8) ∧ (cis S x0 8) ∧ (cis S (cR S 0 (za x0)) 21 ∧ vp_in ((((cI S 6 (za x0)) + x4) - (nI 1)) &&& (nI 1023)) (cL S (za (cR S 0 (za x0))))) ∧ (cis S (cR S 0 (za x0)) 21 ∧ vp_in (((cI S 6 (za x0)) + x4) &&& (nI 1023)) (cL S (za (cR S 0 (za x0))))) ∧ O_X9_take_68 N rok x0 x2 x3 x4 (csA S (za (cR S 0 (za x0))) (((cI S 6 (za x0)) + x4) &&& (nI 1023)).toNatClampNeg (cA S (za (cR S 0 (za x0))) ((((cI S 6 (za x0)) + x4) - (nI 1)) &&& (nI 1023)).toNatClampNeg))))
set_option maxRecDepth 100000 in
set_option maxHeartbeats 4000000 in
theorem bb_X9_take_29 {G : zG} {o : cO} {S : cS} {N : Nat} {Q : Option Value → cS → Prop} {X : Nat × Option Nat × Int32 × Option Nat × cS → Prop} (hG : zOK G) (hX0 : ∀ (x0 : Option Nat) (x2 : Int32) (x3 : Option Nat) (S' : cS), X (0, x0, x2, x3, S') → cX G o dX9_take mX9_take 74 [some (va_rf x0), none, some (.int x2), some (va_rf x3), none] [] S' Q) {rec : Option Nat → Int32 → Option Nat → Int32 → cS → Nat × Option Nat × Int32 × Option Nat × cS} {rok : Option Nat → Int32 → Option Nat → Int32 → cS → Prop} (hrec : ∀ (x0 : Option Nat) (x2 : Int32) (x3 : Option Nat) (x4 : Int32) (S : cS), rok x0 x2 x3 x4 S → X (rec x0 x2 x3 x4 S) → cX G o dX9_take mX9_take 29 [some (va_rf x0), none, some (.int x2), some (va_rf x3), some (.int x4)] [] S Q) {x0 : Option Nat} {x2 : Int32} {x3 : Option Nat} {x4 : Int32} (ok : OB_X9_take_29 N rok x0 x2 x3 x4 S) (hx : X (B_X9_take_29 N rec x0 x2 x3 x4 S)) : cX G o dX9_take mX9_take 29 [some (va_rf x0), none, some (.int x2), some (va_rf x3), some (.int x4)] [] S Q := by
  unfold OB_X9_take_29 at ok
  unfold B_X9_take_29 at hx
  refine c_iload dX9_take_29 rfl ?_
  refine c_if_le (tgt := 74) dX9_take_31 (by decide) (fun c_31 => ?_) (fun c_31 => ?_)
  · have ok := ok.1 c_31
    have hx := xif_p c_31 hx
    exact cX.cutz (hX0 _ _ _ S hx) ⟨rfl, rfl, rfl, trivial⟩
  · have ok := ok.2 c_31
    have hx := xif_n c_31 hx
    refine c_aload_nQ dX9_take_34 rfl rfl ?_
    refine c_getR (C := RX9) (T := TX9) (N := 13) (ci := 7) (k := 0) ⟨rfl, inT9, by decide, fX9_11⟩ (by decide) (by decide) (by decide) dX9_take_35 ok.1 ?_
    have ok := ok.2
    refine c_aload_nQ dX9_take_38 rfl rfl ?_
    refine c_getI (C := RX9) (T := TX9) (N := 13) (ci := 7) (k := 6) ⟨rfl, inT9, by decide, fX9_37⟩ (by decide) (by decide) (by decide) dX9_take_39 ok.1 ?_
    have ok := ok.2
    refine c_iload dX9_take_42 rfl ?_
    refine c_iadd dX9_take_44 ?_
    refine c_sipush (v := nI 1023) dX9_take_45 (by decide) ?_
    refine c_iand dX9_take_48 ?_
    refine c_aload_nQ dX9_take_49 rfl rfl ?_
    refine c_getR (C := RX9) (T := TX9) (N := 13) (ci := 7) (k := 0) ⟨rfl, inT9, by decide, fX9_11⟩ (by decide) (by decide) (by decide) dX9_take_50 ok.1 ?_
    have ok := ok.2
    refine c_aload_nQ dX9_take_53 rfl rfl ?_
    refine c_getI (C := RX9) (T := TX9) (N := 13) (ci := 7) (k := 6) ⟨rfl, inT9, by decide, fX9_37⟩ (by decide) (by decide) (by decide) dX9_take_54 ok.1 ?_
    have ok := ok.2
    refine c_iload dX9_take_57 rfl ?_
    refine c_iadd dX9_take_59 ?_
    refine c_iconst (v := nI 1) dX9_take_60 (by decide) ?_
    refine c_isub dX9_take_61 ?_
    refine c_sipush (v := nI 1023) dX9_take_62 (by decide) ?_
    refine c_iand dX9_take_65 ?_
    refine c_iald dX9_take_66 ok.1 ?_
    have ok := ok.2
    refine c_iast hG dX9_take_67 ok.1 ?_
    have ok := ok.2
    exact cX.cutz (b_X9_take_68 hG hX0 hrec ok hx) ⟨rfl, rfl, rfl, rfl, trivial⟩
def L_X9_take_29 (N : Nat) : Nat → Option Nat → Int32 → Option Nat → Int32 → cS → Nat × Option Nat × Int32 × Option Nat × cS
  | 0, x0, x2, x3, x4, S => (0, none, 0, none, S)
  | n + 1, x0, x2, x3, x4, S => B_X9_take_29 N (L_X9_take_29 N n) x0 x2 x3 x4 S
def OL_X9_take_29 (N : Nat) : Nat → Option Nat → Int32 → Option Nat → Int32 → cS → Prop
  | 0, _, _, _, _, _ => False
  | n + 1, x0, x2, x3, x4, S => OB_X9_take_29 N (OL_X9_take_29 N n) x0 x2 x3 x4 S
set_option maxRecDepth 100000 in
set_option maxHeartbeats 4000000 in
theorem l_X9_take_29 {G : zG} {o : cO} {N : Nat} {Q : Option Value → cS → Prop} {X : Nat × Option Nat × Int32 × Option Nat × cS → Prop} (hG : zOK G) (hX0 : ∀ (x0 : Option Nat) (x2 : Int32) (x3 : Option Nat) (S' : cS), X (0, x0, x2, x3, S') → cX G o dX9_take mX9_take 74 [some (va_rf x0), none, some (.int x2), some (va_rf x3), none] [] S' Q) : ∀ (n : Nat) (x0 : Option Nat) (x2 : Int32) (x3 : Option Nat) (x4 : Int32) (S : cS), OL_X9_take_29 N n x0 x2 x3 x4 S → X (L_X9_take_29 N n x0 x2 x3 x4 S) → cX G o dX9_take mX9_take 29 [some (va_rf x0), none, some (.int x2), some (va_rf x3), some (.int x4)] [] S Q := by
  intro n
  induction n with
  | zero => intro x0 x2 x3 x4 S ok; exact absurd ok id
  | succ n ih =>
    intro x0 x2 x3 x4 S ok hx
    exact bb_X9_take_29 hG hX0 (rec := L_X9_take_29 N n) (rok := OL_X9_take_29 N n) (fun x0 x2 x3 x4 S ok hx => ih x0 x2 x3 x4 S ok hx) ok hx
def A_X9_take_29 (N : Nat) (x0 : Option Nat) (x2 : Int32) (x3 : Option Nat) (x4 : Int32) (S : cS) (z : Nat × Option Nat × Int32 × Option Nat × cS) : Option Nat × cS := (F_X9_take_74 N (z.2.1) (z.2.2.1) (z.2.2.2.1) z.2.2.2.2)
def OA_X9_take_29 (N : Nat) (x0 : Option Nat) (x2 : Int32) (x3 : Option Nat) (x4 : Int32) (S : cS) (z : Nat × Option Nat × Int32 × Option Nat × cS) : Prop := O_X9_take_74 N (z.2.1) (z.2.2.1) (z.2.2.2.1) z.2.2.2.2
set_option maxRecDepth 100000 in
set_option maxHeartbeats 4000000 in
theorem c_X9_take_29 {G : zG} {o : cO} {S : cS} {N : Nat} {Q : Option Value → cS → Prop} {X : Option Nat × cS → Prop} (hG : zOK G) (hR : ∀ v S', X (v, S') → Q (some (va_rf v)) S') {x0 : Option Nat} {x2 : Int32} {x3 : Option Nat} {x4 : Int32} (ok : OL_X9_take_29 N N x0 x2 x3 x4 S ∧ OA_X9_take_29 N x0 x2 x3 x4 S (L_X9_take_29 N N x0 x2 x3 x4 S)) (hx : X (A_X9_take_29 N x0 x2 x3 x4 S (L_X9_take_29 N N x0 x2 x3 x4 S))) : cX G o dX9_take mX9_take 29 [some (va_rf x0), none, some (.int x2), some (va_rf x3), some (.int x4)] [] S Q := by
  refine l_X9_take_29 hG ?_ N x0 x2 x3 x4 S ok.1 (X := fun z => OA_X9_take_29 N x0 x2 x3 x4 S z ∧ X (A_X9_take_29 N x0 x2 x3 x4 S z)) ⟨ok.2, hx⟩
  · intro x0' x2' x3' S' hz
    obtain ⟨ok, hx⟩ := hz
    unfold OA_X9_take_29 at ok
    unfold A_X9_take_29 at hx
    exact cX.cutz (b_X9_take_74 hG hR ok hx) ⟨rfl, rfl, rfl, trivial⟩
def F_X9_take_0 (N : Nat) (x0 : Option Nat) (x1 : Int32) (S : cS) : Option Nat × cS := (if 0 ≤ (f_X9_slot N S (za x0) x1) then (A_X9_take_29 N x0 (f_X9_slot N S (za x0) x1) (cP S (za (cR S 5 (za x0))) (f_X9_slot N S (za x0) x1).toNatClampNeg) x1 (csP S (za (cR S 5 (za x0))) (f_X9_slot N S (za x0) x1).toNatClampNeg (none : Option Nat)) (L_X9_take_29 N N x0 (f_X9_slot N S (za x0) x1) (cP S (za (cR S 5 (za x0))) (f_X9_slot N S (za x0) x1).toNatClampNeg) x1 (csP S (za (cR S 5 (za x0))) (f_X9_slot N S (za x0) x1).toNatClampNeg (none : Option Nat)))) else ((none : Option Nat), S))
def O_X9_take_0 (N : Nat) (x0 : Option Nat) (x1 : Int32) (S : cS) : Prop := (cis S x0 8 ∧ o_X9_slot N S (za x0) x1) ∧ ((0 ≤ (f_X9_slot N S (za x0) x1) → (cis S x0 8) ∧ (cis S (cR S 5 (za x0)) 24 ∧ vp_in (f_X9_slot N S (za x0) x1) (cL S (za (cR S 5 (za x0))))) ∧ (cis S x0 8) ∧ (cis S (cR S 5 (za x0)) 24 ∧ vp_in (f_X9_slot N S (za x0) x1) (cL S (za (cR S 5 (za x0)))) ∧ ((none : Option Nat) = none ∨ cis S (none : Option Nat) 5)) ∧ (OL_X9_take_29 N N x0 (f_X9_slot N S (za x0) x1) (cP S (za (cR S 5 (za x0))) (f_X9_slot N S (za x0) x1).toNatClampNeg) x1 (csP S (za (cR S 5 (za x0))) (f_X9_slot N S (za x0) x1).toNatClampNeg (none : Option Nat)) ∧ OA_X9_take_29 N x0 (f_X9_slot N S (za x0) x1) (cP S (za (cR S 5 (za x0))) (f_X9_slot N S (za x0) x1).toNatClampNeg) x1 (csP S (za (cR S 5 (za x0))) (f_X9_slot N S (za x0) x1).toNatClampNeg (none : Option Nat)) (L_X9_take_29 N N x0 (f_X9_slot N S (za x0) x1) (cP S (za (cR S 5 (za x0))) (f_X9_slot N S (za x0) x1).toNatClampNeg) x1 (csP S (za (cR S 5 (za x0))) (f_X9_slot N S (za x0) x1).toNatClampNeg (none : Option Nat))))) ∧ (¬ 0 ≤ (f_X9_slot N S (za x0) x1) → True))
set_option maxRecDepth 100000 in
set_option maxHeartbeats 4000000 in
theorem b_X9_take_0 {G : zG} {o : cO} {S : cS} {N : Nat} {Q : Option Value → cS → Prop} {X : Option Nat × cS → Prop} (hG : zOK G) (hR : ∀ v S', X (v, S') → Q (some (va_rf v)) S') {x0 : Option Nat} {x1 : Int32} (ok : O_X9_take_0 N x0 x1 S) (hx : X (F_X9_take_0 N x0 x1 S)) : cX G o dX9_take mX9_take 0 [some (va_rf x0), some (.int x1), none, none, none] [] S Q := by
  unfold O_X9_take_0 at ok
  unfold F_X9_take_0 at hx
  refine c_aload_nQ dX9_take_0 rfl rfl ?_
  refine c_iload_n dX9_take_1 rfl rfl ?_
  refine c_V1iE (ci := 7) (rr := (RX9, TX9, 13)) (y' := mX9_slot) dX9_take_2 lX9_40 kX9_slot ⟨by decide, by decide⟩ rfl rfl (by decide) ok.1.1 (Nat.le_of_ble_eq_true rfl) (cc_X9_slot hG ok.1.2) ?_
  have ok := ok.2
  refine c_istore_2 dX9_take_5 (by decide) rfl ?_
  refine c_iload_n dX9_take_6 rfl rfl ?_
  refine c_if_ge (tgt := 12) dX9_take_7 (by decide) (fun c_7 => ?_) (fun c_7 => ?_)
  · have ok := ok.1 c_7
    have hx := xif_p c_7 hx
    refine c_aload_nQ dX9_take_12 rfl rfl ?_
    refine c_getR (C := RX9) (T := TX9) (N := 13) (ci := 7) (k := 5) ⟨rfl, inT9, by decide, fX9_29⟩ (by decide) (by decide) (by decide) dX9_take_13 ok.1 ?_
    have ok := ok.2
    refine c_iload_n dX9_take_16 rfl rfl ?_
    refine c_aald (t := 4) (ty := (.object "QuorumLedger$Message")) rfl rfl (by decide) dX9_take_17 ok.1 ?_
    have ok := ok.2
    refine c_astore_3Q dX9_take_18 (by decide) rfl ?_
    refine c_aload_nQ dX9_take_19 rfl rfl ?_
    refine c_getR (C := RX9) (T := TX9) (N := 13) (ci := 7) (k := 5) ⟨rfl, inT9, by decide, fX9_29⟩ (by decide) (by decide) (by decide) dX9_take_20 ok.1 ?_
    have ok := ok.2
    refine c_iload_n dX9_take_23 rfl rfl ?_
    refine c_null' dX9_take_24 ?_
    refine c_aast (t := 4) (ci := 4) (rr := (RX5, TX5, 7)) rfl rfl (by decide) (by decide) dX9_take_25 ok.1 ?_
    have ok := ok.2
    refine c_iload_n dX9_take_26 rfl rfl ?_
    refine c_istore_4 dX9_take_27 (by decide) (by simp [zok, zg, zcat_rf]) ?_
    exact cX.cutz (c_X9_take_29 hG hR ok hx) ⟨rfl, rfl, rfl, rfl, trivial⟩
  · have ok := ok.2 c_7
    have hx := xif_n c_7 hx
    refine c_null' dX9_take_10 ?_
    exact c_areturn rfl (Or.inl ⟨_, rfl⟩) dX9_take_11 (hR _ _ hx)
def f_X9_take (N : Nat) (S : cS) (a0 : Nat) (x1 : Int32) : Option Nat × cS := F_X9_take_0 N (some a0) x1 S
def o_X9_take (N : Nat) (S : cS) (a0 : Nat) (x1 : Int32) : Prop := O_X9_take_0 N (some a0) x1 S
set_option maxRecDepth 100000 in
set_option maxHeartbeats 4000000 in
theorem cc_X9_take {G : zG} {o : cO} {S : cS} {N : Nat} (hG : zOK G) {a0 : Nat} {x1 : Int32} (ok : o_X9_take N S a0 x1) : cCq G o dX9_take mX9_take [.ref a0, .int x1] S (fun v S' => v = (f_X9_take N S a0 x1).1 ∧ S' = (f_X9_take N S a0 x1).2) := by
  refine cC.ofX rfl (by exact Nat.le_of_ble_eq_true rfl) ?_
  show cX G o dX9_take mX9_take 0 [some (.ref a0), some (.int x1), none, none, none] [] S _
  exact cX.cutz (b_X9_take_0 (X := fun F => F = f_X9_take N S a0 x1) hG (fun v S' h => ⟨v, rfl, by rw [← h], by rw [← h]⟩) ok rfl) ⟨rfl, rfl, trivial⟩
/-! X10_init -/
def F_X10_init_110 (N : Nat) (s0 : Option Nat) (s1 : Option Nat) (S : cS) : cS := (csR S 4 (za s0) s1)
def O_X10_init_110 (N : Nat) (s0 : Option Nat) (s1 : Option Nat) (S : cS) : Prop := (cis S s0 9) ∧ True
set_option maxRecDepth 100000 in
set_option maxHeartbeats 4000000 in
theorem b_X10_init_110 {G : zG} {o : cO} {S : cS} {N : Nat} {Q : Option Value → cS → Prop} {X : cS → Prop} (hG : zOK G) (hR : ∀ S', X S' → Q none S') {s0 : Option Nat} {s1 : Option Nat} (ok : O_X10_init_110 N s0 s1 S) (hx : X (F_X10_init_110 N s0 s1 S)) : cX G o dX10_init mX10_init 110 [none, none, none, none, none] [va_rf s1, va_rf s0] S Q := by
  unfold O_X10_init_110 at ok
  unfold F_X10_init_110 at hx
  refine c_putRF (C := RX10) (T := TX10) (N := 12) (ci := 8) (k := 4) ⟨rfl, inT10, by decide, fX10_64⟩ ftT10 rfl rfl rfl (by decide) (by decide) (by decide) (fun v => by cases v <;> rfl) (fun v => by cases v <;> rfl) dX10_init_110 ok.1 ?_
  have ok := ok.2
  exact c_return rfl dX10_init_113 (hR _ hx)
def F_X10_init_89 (N : Nat) (x0 : Option Nat) (x1 : Int32) (S : cS) : cS := (F_X10_init_110 N x0 (some (cn (csI S 3 (za x0) (((nI 2) * x1) + (nI 1))))) (csNew (csI S 3 (za x0) (((nI 2) * x1) + (nI 1))) 25 (if (nI 0) < (cI (csI S 3 (za x0) (((nI 2) * x1) + (nI 1))) 2 (za x0)) then (cI (csI S 3 (za x0) (((nI 2) * x1) + (nI 1))) 2 (za x0)) else (nI 0)).toNatClampNeg))
def O_X10_init_89 (N : Nat) (x0 : Option Nat) (x1 : Int32) (S : cS) : Prop := (cis S x0 9) ∧ (cis (csI S 3 (za x0) (((nI 2) * x1) + (nI 1))) x0 9) ∧ (¬ (if (nI 0) < (cI (csI S 3 (za x0) (((nI 2) * x1) + (nI 1))) 2 (za x0)) then (cI (csI S 3 (za x0) (((nI 2) * x1) + (nI 1))) 2 (za x0)) else (nI 0)) < 0 ∧ (if (nI 0) < (cI (csI S 3 (za x0) (((nI 2) * x1) + (nI 1))) 2 (za x0)) then (cI (csI S 3 (za x0) (((nI 2) * x1) + (nI 1))) 2 (za x0)) else (nI 0)).toNatClampNeg ≤ 1000000) ∧ O_X10_init_110 N x0 (some (cn (csI S 3 (za x0) (((nI 2) * x1) + (nI 1))))) (csNew (csI S 3 (za x0) (((nI 2) * x1) + (nI 1))) 25 (if (nI 0) < (cI (csI S 3 (za x0) (((nI 2) * x1) + (nI 1))) 2 (za x0)) then (cI (csI S 3 (za x0) (((nI 2) * x1) + (nI 1))) 2 (za x0)) else (nI 0)).toNatClampNeg)
set_option maxRecDepth 100000 in
set_option maxHeartbeats 4000000 in
theorem b_X10_init_89 {G : zG} {o : cO} {S : cS} {N : Nat} {Q : Option Value → cS → Prop} {X : cS → Prop} (hG : zOK G) (hR : ∀ S', X S' → Q none S') {x0 : Option Nat} {x1 : Int32} (ok : O_X10_init_89 N x0 x1 S) (hx : X (F_X10_init_89 N x0 x1 S)) : cX G o dX10_init mX10_init 89 [some (va_rf x0), some (.int x1), none, none, none] [] S Q := by
  unfold O_X10_init_89 at ok
  unfold F_X10_init_89 at hx
  refine c_aload_nQ dX10_init_89 rfl rfl ?_
  refine c_iconst (v := nI 2) dX10_init_90 (by decide) ?_
  refine c_iload_n dX10_init_91 rfl rfl ?_
  refine c_imul dX10_init_92 ?_
  refine c_iconst (v := nI 1) dX10_init_93 (by decide) ?_
  refine c_iadd dX10_init_94 ?_
  refine c_putIF (C := RX10) (T := TX10) (N := 12) (ci := 8) (k := 3) ⟨rfl, inT10, by decide, fX10_53⟩ ftT10 rfl rfl rfl (by decide) (by decide) (by decide) rfl rfl dX10_init_95 ok.1 ?_
  have ok := ok.2
  refine c_aload_nQ dX10_init_98 rfl rfl ?_
  refine c_iconst (v := nI 0) dX10_init_99 (by decide) ?_
  refine c_aload_nQ dX10_init_100 rfl rfl ?_
  refine c_getI (C := RX10) (T := TX10) (N := 12) (ci := 8) (k := 2) ⟨rfl, inT10, by decide, fX10_50⟩ (by decide) (by decide) (by decide) dX10_init_101 ok.1 ?_
  have ok := ok.2
  refine c_mmax dX10_init_104 lX10_56.1 (by decide) (by simp only [List.map_cons, List.map_nil, List.sum_cons, List.sum_nil, zcat_rf, zcat_i, zcat_l, zcat_r] <;> decide) ?_
  refine c_anew5 clX10_62 dX10_init_107 ok.1.1 ok.1.2 ?_
  have ok := ok.2
  exact cX.cutz (b_X10_init_110 hG hR ok hx) trivial
def F_X10_init_70 (N : Nat) (x0 : Option Nat) (x1 : Int32) (x2 : Int32) (S : cS) : cS := (F_X10_init_89 N x0 x1 (csI (csI S 1 (za x0) (((nI 3) * x1) + (nI 1))) 2 (za x0) ((cI (csI S 1 (za x0) (((nI 3) * x1) + (nI 1))) 1 (za x0)) - x2)))
def O_X10_init_70 (N : Nat) (x0 : Option Nat) (x1 : Int32) (x2 : Int32) (S : cS) : Prop := (cis S x0 9) ∧ (cis (csI S 1 (za x0) (((nI 3) * x1) + (nI 1))) x0 9) ∧ (cis (csI S 1 (za x0) (((nI 3) * x1) + (nI 1))) x0 9) ∧ O_X10_init_89 N x0 x1 (csI (csI S 1 (za x0) (((nI 3) * x1) + (nI 1))) 2 (za x0) ((cI (csI S 1 (za x0) (((nI 3) * x1) + (nI 1))) 1 (za x0)) - x2))
set_option maxRecDepth 100000 in
set_option maxHeartbeats 4000000 in
theorem b_X10_init_70 {G : zG} {o : cO} {S : cS} {N : Nat} {Q : Option Value → cS → Prop} {X : cS → Prop} (hG : zOK G) (hR : ∀ S', X S' → Q none S') {x0 : Option Nat} {x1 : Int32} {x2 : Int32} (ok : O_X10_init_70 N x0 x1 x2 S) (hx : X (F_X10_init_70 N x0 x1 x2 S)) : cX G o dX10_init mX10_init 70 [some (va_rf x0), some (.int x1), some (.int x2), none, none] [] S Q := by
  unfold O_X10_init_70 at ok
  unfold F_X10_init_70 at hx
  refine c_aload_nQ dX10_init_70 rfl rfl ?_
  refine c_iconst (v := nI 3) dX10_init_71 (by decide) ?_
  refine c_iload_n dX10_init_72 rfl rfl ?_
  refine c_imul dX10_init_73 ?_
  refine c_iconst (v := nI 1) dX10_init_74 (by decide) ?_
  refine c_iadd dX10_init_75 ?_
  refine c_putIF (C := RX10) (T := TX10) (N := 12) (ci := 8) (k := 1) ⟨rfl, inT10, by decide, fX10_47⟩ ftT10 rfl rfl rfl (by decide) (by decide) (by decide) rfl rfl dX10_init_76 ok.1 ?_
  have ok := ok.2
  refine c_aload_nQ dX10_init_79 rfl rfl ?_
  refine c_aload_nQ dX10_init_80 rfl rfl ?_
  refine c_getI (C := RX10) (T := TX10) (N := 12) (ci := 8) (k := 1) ⟨rfl, inT10, by decide, fX10_47⟩ (by decide) (by decide) (by decide) dX10_init_81 ok.1 ?_
  have ok := ok.2
  refine c_iload_n dX10_init_84 rfl rfl ?_
  refine c_isub dX10_init_85 ?_
  refine c_putIF (C := RX10) (T := TX10) (N := 12) (ci := 8) (k := 2) ⟨rfl, inT10, by decide, fX10_50⟩ ftT10 rfl rfl rfl (by decide) (by decide) (by decide) rfl rfl dX10_init_86 ok.1 ?_
  have ok := ok.2
  exact cX.cutz (b_X10_init_89 hG hR ok hx) ⟨rfl, rfl, trivial⟩
def F_X10_init_59 (N : Nat) (x0 : Option Nat) (x1 : Int32) (x2 : Int32) (x3 : Option Nat) (x4 : Option Nat) (S : cS) : cS := (F_X10_init_70 N x0 x1 x2 (csR (csR S 5 (za x0) x3) 7 (za x0) x4))
def O_X10_init_59 (N : Nat) (x0 : Option Nat) (x1 : Int32) (x2 : Int32) (x3 : Option Nat) (x4 : Option Nat) (S : cS) : Prop := (cis S x0 9) ∧ (cis (csR S 5 (za x0) x3) x0 9) ∧ O_X10_init_70 N x0 x1 x2 (csR (csR S 5 (za x0) x3) 7 (za x0) x4)
set_option maxRecDepth 100000 in
set_option maxHeartbeats 4000000 in
theorem b_X10_init_59 {G : zG} {o : cO} {S : cS} {N : Nat} {Q : Option Value → cS → Prop} {X : cS → Prop} (hG : zOK G) (hR : ∀ S', X S' → Q none S') {x0 : Option Nat} {x1 : Int32} {x2 : Int32} {x3 : Option Nat} {x4 : Option Nat} (ok : O_X10_init_59 N x0 x1 x2 x3 x4 S) (hx : X (F_X10_init_59 N x0 x1 x2 x3 x4 S)) : cX G o dX10_init mX10_init 59 [some (va_rf x0), some (.int x1), some (.int x2), some (va_rf x3), some (va_rf x4)] [] S Q := by
  unfold O_X10_init_59 at ok
  unfold F_X10_init_59 at hx
  refine c_aload_nQ dX10_init_59 rfl rfl ?_
  refine c_aload_nQ dX10_init_60 rfl rfl ?_
  refine c_putRF (C := RX10) (T := TX10) (N := 12) (ci := 8) (k := 5) ⟨rfl, inT10, by decide, fX10_39⟩ ftT10 rfl rfl rfl (by decide) (by decide) (by decide) (fun v => by cases v <;> rfl) (fun v => by cases v <;> rfl) dX10_init_61 ok.1 ?_
  have ok := ok.2
  refine c_aload_nQ dX10_init_64 rfl rfl ?_
  refine c_aloadQ dX10_init_65 rfl ?_
  refine c_putRF (C := RX10) (T := TX10) (N := 12) (ci := 8) (k := 7) ⟨rfl, inT10, by decide, fX10_43⟩ ftT10 rfl rfl rfl (by decide) (by decide) (by decide) (fun v => by cases v <;> rfl) (fun v => by cases v <;> rfl) dX10_init_67 ok.1 ?_
  have ok := ok.2
  exact cX.cutz (b_X10_init_70 hG hR ok hx) ⟨rfl, rfl, rfl, trivial⟩
def F_X10_init_51 (N : Nat) (x0 : Option Nat) (x1 : Int32) (x2 : Int32) (x3 : Option Nat) (x4 : Option Nat) (s0 : Option Nat) (s1 : Option Nat) (S : cS) : cS := (F_X10_init_59 N x0 x1 x2 x3 x4 (csI (csR S 11 (za s0) s1) 0 (za x0) x1))
def O_X10_init_51 (N : Nat) (x0 : Option Nat) (x1 : Int32) (x2 : Int32) (x3 : Option Nat) (x4 : Option Nat) (s0 : Option Nat) (s1 : Option Nat) (S : cS) : Prop := (cis S s0 9) ∧ (cis (csR S 11 (za s0) s1) x0 9) ∧ O_X10_init_59 N x0 x1 x2 x3 x4 (csI (csR S 11 (za s0) s1) 0 (za x0) x1)
set_option maxRecDepth 100000 in
set_option maxHeartbeats 4000000 in
theorem b_X10_init_51 {G : zG} {o : cO} {S : cS} {N : Nat} {Q : Option Value → cS → Prop} {X : cS → Prop} (hG : zOK G) (hR : ∀ S', X S' → Q none S') {x0 : Option Nat} {x1 : Int32} {x2 : Int32} {x3 : Option Nat} {x4 : Option Nat} {s0 : Option Nat} {s1 : Option Nat} (ok : O_X10_init_51 N x0 x1 x2 x3 x4 s0 s1 S) (hx : X (F_X10_init_51 N x0 x1 x2 x3 x4 s0 s1 S)) : cX G o dX10_init mX10_init 51 [some (va_rf x0), some (.int x1), some (.int x2), some (va_rf x3), some (va_rf x4)] [va_rf s1, va_rf s0] S Q := by
  unfold O_X10_init_51 at ok
  unfold F_X10_init_51 at hx
  refine c_putRF (C := RX10) (T := TX10) (N := 12) (ci := 8) (k := 11) ⟨rfl, inT10, by decide, fX10_32⟩ ftT10 rfl rfl rfl (by decide) (by decide) (by decide) (fun v => by cases v <;> rfl) (fun v => by cases v <;> rfl) dX10_init_51 ok.1 ?_
  have ok := ok.2
  refine c_aload_nQ dX10_init_54 rfl rfl ?_
  refine c_iload_n dX10_init_55 rfl rfl ?_
  refine c_putIF (C := RX10) (T := TX10) (N := 12) (ci := 8) (k := 0) ⟨rfl, inT10, by decide, fX10_35⟩ ftT10 rfl rfl rfl (by decide) (by decide) (by decide) rfl rfl dX10_init_56 ok.1 ?_
  have ok := ok.2
  exact cX.cutz (b_X10_init_59 hG hR ok hx) ⟨rfl, rfl, rfl, rfl, rfl, trivial⟩
def F_X10_init_43 (N : Nat) (x0 : Option Nat) (x1 : Int32) (x2 : Int32) (x3 : Option Nat) (x4 : Option Nat) (s0 : Option Nat) (s1 : Option Nat) (S : cS) : cS := (F_X10_init_51 N x0 x1 x2 x3 x4 x0 (some (cn (csR S 10 (za s0) s1))) (csNew (csR S 10 (za s0) s1) 20 (nI 32).toNatClampNeg))
def O_X10_init_43 (N : Nat) (x0 : Option Nat) (x1 : Int32) (x2 : Int32) (x3 : Option Nat) (x4 : Option Nat) (s0 : Option Nat) (s1 : Option Nat) (S : cS) : Prop := (cis S s0 9) ∧ (¬ (nI 32) < 0 ∧ (nI 32).toNatClampNeg ≤ 1000000) ∧ O_X10_init_51 N x0 x1 x2 x3 x4 x0 (some (cn (csR S 10 (za s0) s1))) (csNew (csR S 10 (za s0) s1) 20 (nI 32).toNatClampNeg)
set_option maxRecDepth 100000 in
set_option maxHeartbeats 4000000 in
theorem b_X10_init_43 {G : zG} {o : cO} {S : cS} {N : Nat} {Q : Option Value → cS → Prop} {X : cS → Prop} (hG : zOK G) (hR : ∀ S', X S' → Q none S') {x0 : Option Nat} {x1 : Int32} {x2 : Int32} {x3 : Option Nat} {x4 : Option Nat} {s0 : Option Nat} {s1 : Option Nat} (ok : O_X10_init_43 N x0 x1 x2 x3 x4 s0 s1 S) (hx : X (F_X10_init_43 N x0 x1 x2 x3 x4 s0 s1 S)) : cX G o dX10_init mX10_init 43 [some (va_rf x0), some (.int x1), some (.int x2), some (va_rf x3), some (va_rf x4)] [va_rf s1, va_rf s0] S Q := by
  unfold O_X10_init_43 at ok
  unfold F_X10_init_43 at hx
  refine c_putRF (C := RX10) (T := TX10) (N := 12) (ci := 8) (k := 10) ⟨rfl, inT10, by decide, fX10_28⟩ ftT10 rfl rfl rfl (by decide) (by decide) (by decide) (fun v => by cases v <;> rfl) (fun v => by cases v <;> rfl) dX10_init_43 ok.1 ?_
  have ok := ok.2
  refine c_aload_nQ dX10_init_46 rfl rfl ?_
  refine c_bipush (v := nI 32) dX10_init_47 (by decide) ?_
  refine c_newa0 dX10_init_49 ok.1.1 ok.1.2 ?_
  have ok := ok.2
  exact cX.cutz (b_X10_init_51 hG hR ok hx) ⟨rfl, rfl, rfl, rfl, rfl, trivial⟩
def F_X10_init_34 (N : Nat) (x0 : Option Nat) (x1 : Int32) (x2 : Int32) (x3 : Option Nat) (x4 : Option Nat) (s0 : Option Nat) (s1 : Option Nat) (S : cS) : cS := (F_X10_init_43 N x0 x1 x2 x3 x4 x0 (some (cn (csR S 9 (za s0) s1))) (csNew (csR S 9 (za s0) s1) 20 (nI 1024).toNatClampNeg))
def O_X10_init_34 (N : Nat) (x0 : Option Nat) (x1 : Int32) (x2 : Int32) (x3 : Option Nat) (x4 : Option Nat) (s0 : Option Nat) (s1 : Option Nat) (S : cS) : Prop := (cis S s0 9) ∧ (¬ (nI 1024) < 0 ∧ (nI 1024).toNatClampNeg ≤ 1000000) ∧ O_X10_init_43 N x0 x1 x2 x3 x4 x0 (some (cn (csR S 9 (za s0) s1))) (csNew (csR S 9 (za s0) s1) 20 (nI 1024).toNatClampNeg)
set_option maxRecDepth 100000 in
set_option maxHeartbeats 4000000 in
theorem b_X10_init_34 {G : zG} {o : cO} {S : cS} {N : Nat} {Q : Option Value → cS → Prop} {X : cS → Prop} (hG : zOK G) (hR : ∀ S', X S' → Q none S') {x0 : Option Nat} {x1 : Int32} {x2 : Int32} {x3 : Option Nat} {x4 : Option Nat} {s0 : Option Nat} {s1 : Option Nat} (ok : O_X10_init_34 N x0 x1 x2 x3 x4 s0 s1 S) (hx : X (F_X10_init_34 N x0 x1 x2 x3 x4 s0 s1 S)) : cX G o dX10_init mX10_init 34 [some (va_rf x0), some (.int x1), some (.int x2), some (va_rf x3), some (va_rf x4)] [va_rf s1, va_rf s0] S Q := by
  unfold O_X10_init_34 at ok
  unfold F_X10_init_34 at hx
  refine c_putRF (C := RX10) (T := TX10) (N := 12) (ci := 8) (k := 9) ⟨rfl, inT10, by decide, fX10_25⟩ ftT10 rfl rfl rfl (by decide) (by decide) (by decide) (fun v => by cases v <;> rfl) (fun v => by cases v <;> rfl) dX10_init_34 ok.1 ?_
  have ok := ok.2
  refine c_aload_nQ dX10_init_37 rfl rfl ?_
  refine c_sipush (v := nI 1024) dX10_init_38 (by decide) ?_
  refine c_newa0 dX10_init_41 ok.1.1 ok.1.2 ?_
  have ok := ok.2
  exact cX.cutz (b_X10_init_43 hG hR ok hx) ⟨rfl, rfl, rfl, rfl, rfl, trivial⟩
def F_X10_init_30 (N : Nat) (x0 : Option Nat) (x1 : Int32) (x2 : Int32) (x3 : Option Nat) (x4 : Option Nat) (s0 : Option Nat) (s1 : Option Nat) (S : cS) : cS := (F_X10_init_34 N x0 x1 x2 x3 x4 s0 s1 (f_X0_init N S (za s1)))
def O_X10_init_30 (N : Nat) (x0 : Option Nat) (x1 : Int32) (x2 : Int32) (x3 : Option Nat) (x4 : Option Nat) (s0 : Option Nat) (s1 : Option Nat) (S : cS) : Prop := (s1 = some (za s1) ∧ o_X0_init N S (za s1)) ∧ O_X10_init_34 N x0 x1 x2 x3 x4 s0 s1 (f_X0_init N S (za s1))
set_option maxRecDepth 100000 in
set_option maxHeartbeats 4000000 in
theorem b_X10_init_30 {G : zG} {o : cO} {S : cS} {N : Nat} {Q : Option Value → cS → Prop} {X : cS → Prop} (hG : zOK G) (hR : ∀ S', X S' → Q none S') {x0 : Option Nat} {x1 : Int32} {x2 : Int32} {x3 : Option Nat} {x4 : Option Nat} {s0 : Option Nat} {s1 : Option Nat} (ok : O_X10_init_30 N x0 x1 x2 x3 x4 s0 s1 S) (hx : X (F_X10_init_30 N x0 x1 x2 x3 x4 s0 s1 S)) : cX G o dX10_init mX10_init 30 [some (va_rf x0), some (.int x1), some (.int x2), some (va_rf x3), some (va_rf x4)] [va_rf s1, va_rf s0] S Q := by
  unfold O_X10_init_30 at ok
  unfold F_X10_init_30 at hx
  refine c_dup dX10_init_30 (zcat_rf _) ?_
  refine c_I0vE (y' := mX0_init) dX10_init_31 lX10_20 kX0_init ⟨by decide, by decide⟩ ⟨rfl, rfl⟩ ok.1.1 (by simp only [List.map_cons, List.map_nil, List.sum_cons, List.sum_nil, zcat_rf, zcat_i, zcat_l, zcat_r] <;> decide) (cc_X0_init hG ok.1.2) ?_
  have ok := ok.2
  exact cX.cutz (b_X10_init_34 hG hR ok hx) ⟨rfl, rfl, rfl, rfl, rfl, trivial⟩
def F_X10_init_23 (N : Nat) (x0 : Option Nat) (x1 : Int32) (x2 : Int32) (x3 : Option Nat) (x4 : Option Nat) (s0 : Option Nat) (s1 : Option Nat) (S : cS) : cS := (F_X10_init_30 N x0 x1 x2 x3 x4 x0 (some (cn (csR S 8 (za s0) s1))) (csNew (csR S 8 (za s0) s1) 1 6))
def O_X10_init_23 (N : Nat) (x0 : Option Nat) (x1 : Int32) (x2 : Int32) (x3 : Option Nat) (x4 : Option Nat) (s0 : Option Nat) (s1 : Option Nat) (S : cS) : Prop := (cis S s0 9) ∧ O_X10_init_30 N x0 x1 x2 x3 x4 x0 (some (cn (csR S 8 (za s0) s1))) (csNew (csR S 8 (za s0) s1) 1 6)
set_option maxRecDepth 100000 in
set_option maxHeartbeats 4000000 in
theorem b_X10_init_23 {G : zG} {o : cO} {S : cS} {N : Nat} {Q : Option Value → cS → Prop} {X : cS → Prop} (hG : zOK G) (hR : ∀ S', X S' → Q none S') {x0 : Option Nat} {x1 : Int32} {x2 : Int32} {x3 : Option Nat} {x4 : Option Nat} {s0 : Option Nat} {s1 : Option Nat} (ok : O_X10_init_23 N x0 x1 x2 x3 x4 s0 s1 S) (hx : X (F_X10_init_23 N x0 x1 x2 x3 x4 s0 s1 S)) : cX G o dX10_init mX10_init 23 [some (va_rf x0), some (.int x1), some (.int x2), some (va_rf x3), some (va_rf x4)] [va_rf s1, va_rf s0] S Q := by
  unfold O_X10_init_23 at ok
  unfold F_X10_init_23 at hx
  refine c_putRF (C := RX10) (T := TX10) (N := 12) (ci := 8) (k := 8) ⟨rfl, inT10, by decide, fX10_21⟩ ftT10 rfl rfl rfl (by decide) (by decide) (by decide) (fun v => by cases v <;> rfl) (fun v => by cases v <;> rfl) dX10_init_23 ok.1 ?_
  have ok := ok.2
  refine c_aload_nQ dX10_init_26 rfl rfl ?_
  refine c_new0 clX10_18 dX10_init_27 ?_
  exact cX.cutz (b_X10_init_30 hG hR ok hx) ⟨rfl, rfl, rfl, rfl, rfl, trivial⟩
def F_X10_init_19 (N : Nat) (x0 : Option Nat) (x1 : Int32) (x2 : Int32) (x3 : Option Nat) (x4 : Option Nat) (s0 : Option Nat) (s1 : Option Nat) (S : cS) : cS := (F_X10_init_23 N x0 x1 x2 x3 x4 s0 s1 (f_X0_init N S (za s1)))
def O_X10_init_19 (N : Nat) (x0 : Option Nat) (x1 : Int32) (x2 : Int32) (x3 : Option Nat) (x4 : Option Nat) (s0 : Option Nat) (s1 : Option Nat) (S : cS) : Prop := (s1 = some (za s1) ∧ o_X0_init N S (za s1)) ∧ O_X10_init_23 N x0 x1 x2 x3 x4 s0 s1 (f_X0_init N S (za s1))
set_option maxRecDepth 100000 in
set_option maxHeartbeats 4000000 in
theorem b_X10_init_19 {G : zG} {o : cO} {S : cS} {N : Nat} {Q : Option Value → cS → Prop} {X : cS → Prop} (hG : zOK G) (hR : ∀ S', X S' → Q none S') {x0 : Option Nat} {x1 : Int32} {x2 : Int32} {x3 : Option Nat} {x4 : Option Nat} {s0 : Option Nat} {s1 : Option Nat} (ok : O_X10_init_19 N x0 x1 x2 x3 x4 s0 s1 S) (hx : X (F_X10_init_19 N x0 x1 x2 x3 x4 s0 s1 S)) : cX G o dX10_init mX10_init 19 [some (va_rf x0), some (.int x1), some (.int x2), some (va_rf x3), some (va_rf x4)] [va_rf s1, va_rf s0] S Q := by
  unfold O_X10_init_19 at ok
  unfold F_X10_init_19 at hx
  refine c_dup dX10_init_19 (zcat_rf _) ?_
  refine c_I0vE (y' := mX0_init) dX10_init_20 lX10_20 kX0_init ⟨by decide, by decide⟩ ⟨rfl, rfl⟩ ok.1.1 (by simp only [List.map_cons, List.map_nil, List.sum_cons, List.sum_nil, zcat_rf, zcat_i, zcat_l, zcat_r] <;> decide) (cc_X0_init hG ok.1.2) ?_
  have ok := ok.2
  exact cX.cutz (b_X10_init_23 hG hR ok hx) ⟨rfl, rfl, rfl, rfl, rfl, trivial⟩
def F_X10_init_12 (N : Nat) (x0 : Option Nat) (x1 : Int32) (x2 : Int32) (x3 : Option Nat) (x4 : Option Nat) (s0 : Option Nat) (s1 : Option Nat) (S : cS) : cS := (F_X10_init_19 N x0 x1 x2 x3 x4 x0 (some (cn (csR S 6 (za s0) s1))) (csNew (csR S 6 (za s0) s1) 1 6))
def O_X10_init_12 (N : Nat) (x0 : Option Nat) (x1 : Int32) (x2 : Int32) (x3 : Option Nat) (x4 : Option Nat) (s0 : Option Nat) (s1 : Option Nat) (S : cS) : Prop := (cis S s0 9) ∧ O_X10_init_19 N x0 x1 x2 x3 x4 x0 (some (cn (csR S 6 (za s0) s1))) (csNew (csR S 6 (za s0) s1) 1 6)
set_option maxRecDepth 100000 in
set_option maxHeartbeats 4000000 in
theorem b_X10_init_12 {G : zG} {o : cO} {S : cS} {N : Nat} {Q : Option Value → cS → Prop} {X : cS → Prop} (hG : zOK G) (hR : ∀ S', X S' → Q none S') {x0 : Option Nat} {x1 : Int32} {x2 : Int32} {x3 : Option Nat} {x4 : Option Nat} {s0 : Option Nat} {s1 : Option Nat} (ok : O_X10_init_12 N x0 x1 x2 x3 x4 s0 s1 S) (hx : X (F_X10_init_12 N x0 x1 x2 x3 x4 s0 s1 S)) : cX G o dX10_init mX10_init 12 [some (va_rf x0), some (.int x1), some (.int x2), some (va_rf x3), some (va_rf x4)] [va_rf s1, va_rf s0] S Q := by
  unfold O_X10_init_12 at ok
  unfold F_X10_init_12 at hx
  refine c_putRF (C := RX10) (T := TX10) (N := 12) (ci := 8) (k := 6) ⟨rfl, inT10, by decide, fX10_12⟩ ftT10 rfl rfl rfl (by decide) (by decide) (by decide) (fun v => by cases v <;> rfl) (fun v => by cases v <;> rfl) dX10_init_12 ok.1 ?_
  have ok := ok.2
  refine c_aload_nQ dX10_init_15 rfl rfl ?_
  refine c_new0 clX10_18 dX10_init_16 ?_
  exact cX.cutz (b_X10_init_19 hG hR ok hx) ⟨rfl, rfl, rfl, rfl, rfl, trivial⟩
def F_X10_init_0 (N : Nat) (x0 : Option Nat) (x1 : Int32) (x2 : Int32) (x3 : Option Nat) (x4 : Option Nat) (S : cS) : cS := (F_X10_init_12 N x0 x1 x2 x3 x4 x0 (some (cn S)) (f_X9_init N (csNew S 8 13) (za (some (cn S)))))
def O_X10_init_0 (N : Nat) (x0 : Option Nat) (x1 : Int32) (x2 : Int32) (x3 : Option Nat) (x4 : Option Nat) (S : cS) : Prop := (x0 = some (za x0)) ∧ ((some (cn S)) = some (za (some (cn S))) ∧ o_X9_init N (csNew S 8 13) (za (some (cn S)))) ∧ O_X10_init_12 N x0 x1 x2 x3 x4 x0 (some (cn S)) (f_X9_init N (csNew S 8 13) (za (some (cn S))))
set_option maxRecDepth 100000 in
set_option maxHeartbeats 4000000 in
theorem b_X10_init_0 {G : zG} {o : cO} {S : cS} {N : Nat} {Q : Option Value → cS → Prop} {X : cS → Prop} (hG : zOK G) (hR : ∀ S', X S' → Q none S') {x0 : Option Nat} {x1 : Int32} {x2 : Int32} {x3 : Option Nat} {x4 : Option Nat} (ok : O_X10_init_0 N x0 x1 x2 x3 x4 S) (hx : X (F_X10_init_0 N x0 x1 x2 x3 x4 S)) : cX G o dX10_init mX10_init 0 [some (va_rf x0), some (.int x1), some (.int x2), some (va_rf x3), some (va_rf x4)] [] S Q := by
  unfold O_X10_init_0 at ok
  unfold F_X10_init_0 at hx
  refine c_aload_nQ dX10_init_0 rfl rfl ?_
  refine c_objInit dX10_init_1 qX10_3 objI objC (by decide) (Nat.le_of_ble_eq_true rfl) ok.1 ?_
  have ok := ok.2
  refine c_aload_nQ dX10_init_4 rfl rfl ?_
  refine c_new7 clX10_9 dX10_init_5 ?_
  refine c_dup dX10_init_8 (zcat_rf _) ?_
  refine c_I0vE (y' := mX9_init) dX10_init_9 lX10_11 kX9_init ⟨by decide, by decide⟩ ⟨rfl, rfl⟩ ok.1.1 (by simp only [List.map_cons, List.map_nil, List.sum_cons, List.sum_nil, zcat_rf, zcat_i, zcat_l, zcat_r] <;> decide) (cc_X9_init hG ok.1.2) ?_
  have ok := ok.2
  exact cX.cutz (b_X10_init_12 hG hR ok hx) ⟨rfl, rfl, rfl, rfl, rfl, trivial⟩
def f_X10_init (N : Nat) (S : cS) (a0 : Nat) (x1 : Int32) (x2 : Int32) (x3 : Option Nat) (x4 : Option Nat) : cS := F_X10_init_0 N (some a0) x1 x2 x3 x4 S
def o_X10_init (N : Nat) (S : cS) (a0 : Nat) (x1 : Int32) (x2 : Int32) (x3 : Option Nat) (x4 : Option Nat) : Prop := O_X10_init_0 N (some a0) x1 x2 x3 x4 S
set_option maxRecDepth 100000 in
set_option maxHeartbeats 4000000 in
theorem cc_X10_init {G : zG} {o : cO} {S : cS} {N : Nat} (hG : zOK G) {a0 : Nat} {x1 : Int32} {x2 : Int32} {x3 : Option Nat} {x4 : Option Nat} (ok : o_X10_init N S a0 x1 x2 x3 x4) : cCv G o dX10_init mX10_init [.ref a0, .int x1, .int x2, va_rf x3, va_rf x4] S (fun S' => S' = f_X10_init N S a0 x1 x2 x3 x4) := by
  refine cC.ofX rfl (by cases x3 <;> cases x4 <;> exact Nat.le_of_ble_eq_true rfl) ?_
  rw [show zargs mX10_init.2.2.1 [.ref a0, .int x1, .int x2, va_rf x3, va_rf x4] = [some (.ref a0), some (.int x1), some (.int x2), some (va_rf x3), some (va_rf x4)] from by cases x3 <;> cases x4 <;> rfl]
  exact cX.cutz (b_X10_init_0 (X := fun F => F = f_X10_init N S a0 x1 x2 x3 x4) hG (fun S' h => ⟨rfl, h⟩) ok rfl) ⟨rfl, rfl, rfl, rfl, rfl, trivial⟩
/-! X10_found -/
def F_X10_found_113 (N : Nat) (x3 : Option Nat) (S : cS) : Option Nat × cS := (x3, S)
def O_X10_found_113 (N : Nat) (x3 : Option Nat) (S : cS) : Prop := True
set_option maxRecDepth 100000 in
set_option maxHeartbeats 4000000 in
theorem b_X10_found_113 {G : zG} {o : cO} {S : cS} {N : Nat} {Q : Option Value → cS → Prop} {X : Option Nat × cS → Prop} (hG : zOK G) (hR : ∀ v S', X (v, S') → Q (some (va_rf v)) S') {x3 : Option Nat} (ok : O_X10_found_113 N x3 S) (hx : X (F_X10_found_113 N x3 S)) : cX G o dX10_found mX10_found 113 [none, none, none, some (va_rf x3), none, none, none, none] [] S Q := by
  unfold O_X10_found_113 at ok
  unfold F_X10_found_113 at hx
  refine c_aload_nQ dX10_found_113 rfl rfl ?_
  exact c_areturn rfl (Or.inl ⟨_, rfl⟩) dX10_found_114 (hR _ _ hx)
def F_X10_found_107 (N : Nat) (rec : Option Nat → Option Nat → Int32 → Int32 → cS → Nat × Option Nat × cS) (x3 : Option Nat) (x4 : Option Nat) (x5 : Int32) (x6 : Int32) (S : cS) : Nat × Option Nat × cS := (rec x3 x4 x5 (x6 + nI 1) S)
def O_X10_found_107 (N : Nat) (rok : Option Nat → Option Nat → Int32 → Int32 → cS → Prop) (x3 : Option Nat) (x4 : Option Nat) (x5 : Int32) (x6 : Int32) (S : cS) : Prop := rok x3 x4 x5 (x6 + nI 1) S
set_option maxRecDepth 100000 in
set_option maxHeartbeats 4000000 in
theorem b_X10_found_107 {G : zG} {o : cO} {S : cS} {N : Nat} {Q : Option Value → cS → Prop} {X : Nat × Option Nat × cS → Prop} (hG : zOK G) (hX0 : ∀ (x3 : Option Nat) (S' : cS), X (0, x3, S') → cX G o dX10_found mX10_found 113 [none, none, none, some (va_rf x3), none, none, none, none] [] S' Q) {rec : Option Nat → Option Nat → Int32 → Int32 → cS → Nat × Option Nat × cS} {rok : Option Nat → Option Nat → Int32 → Int32 → cS → Prop} (hrec : ∀ (x3 : Option Nat) (x4 : Option Nat) (x5 : Int32) (x6 : Int32) (S : cS), rok x3 x4 x5 x6 S → X (rec x3 x4 x5 x6 S) → cX G o dX10_found mX10_found 82 [none, none, none, some (va_rf x3), some (va_rf x4), some (.int x5), some (.int x6), none] [] S Q) {x3 : Option Nat} {x4 : Option Nat} {x5 : Int32} {x6 : Int32} (ok : O_X10_found_107 N rok x3 x4 x5 x6 S) (hx : X (F_X10_found_107 N rec x3 x4 x5 x6 S)) : cX G o dX10_found mX10_found 107 [none, none, none, some (va_rf x3), some (va_rf x4), some (.int x5), some (.int x6), none] [] S Q := by
  unfold O_X10_found_107 at ok
  unfold F_X10_found_107 at hx
  refine c_iinc_6 (v := (x6 + nI 1)) dX10_found_107 rfl (by first | rfl | (congr 1)) (by decide) rfl ?_
  refine c_goto (tgt := 82) dX10_found_110 (by decide) ?_
  exact cX.cutz (hrec _ _ _ _ S ok hx) ⟨rfl, rfl, rfl, rfl, trivial⟩
def B_X10_found_82 (N : Nat) (rec : Option Nat → Option Nat → Int32 → Int32 → cS → Nat × Option Nat × cS) (x3 : Option Nat) (x4 : Option Nat) (x5 : Int32) (x6 : Int32) (S : cS) : Nat × Option Nat × cS := (if x5 ≤ x6 then (0, x3, S) else (F_X10_found_107 N rec x3 x4 x5 x6 (f_X7_settle N (csI S 18 (za (cP S (za x4) x6.toNatClampNeg)) (nI 0)) (cP S (za x4) x6.toNatClampNeg))))
def OB_X10_found_82 (N : Nat) (rok : Option Nat → Option Nat → Int32 → Int32 → cS → Prop) (x3 : Option Nat) (x4 : Option Nat) (x5 : Int32) (x6 : Int32) (S : cS) : Prop := ((x5 ≤ x6 → True) ∧ (¬ x5 ≤ x6 → (cis S x4 25 ∧ vp_in x6 (cL S (za x4))) ∧ (cis S (cP S (za x4) x6.toNatClampNeg) 6) ∧ (o_X7_settle N (csI S 18 (za (cP S (za x4) x6.toNatClampNeg)) (nI 0)) (cP S (za x4) x6.toNatClampNeg)) ∧ O_X10_found_107 N rok x3 x4 x5 x6 (f_X7_settle N (csI S 18 (za (cP S (za x4) x6.toNatClampNeg)) (nI 0)) (cP S (za x4) x6.toNatClampNeg))))
set_option maxRecDepth 100000 in
set_option maxHeartbeats 4000000 in
theorem bb_X10_found_82 {G : zG} {o : cO} {S : cS} {N : Nat} {Q : Option Value → cS → Prop} {X : Nat × Option Nat × cS → Prop} (hG : zOK G) (hX0 : ∀ (x3 : Option Nat) (S' : cS), X (0, x3, S') → cX G o dX10_found mX10_found 113 [none, none, none, some (va_rf x3), none, none, none, none] [] S' Q) {rec : Option Nat → Option Nat → Int32 → Int32 → cS → Nat × Option Nat × cS} {rok : Option Nat → Option Nat → Int32 → Int32 → cS → Prop} (hrec : ∀ (x3 : Option Nat) (x4 : Option Nat) (x5 : Int32) (x6 : Int32) (S : cS), rok x3 x4 x5 x6 S → X (rec x3 x4 x5 x6 S) → cX G o dX10_found mX10_found 82 [none, none, none, some (va_rf x3), some (va_rf x4), some (.int x5), some (.int x6), none] [] S Q) {x3 : Option Nat} {x4 : Option Nat} {x5 : Int32} {x6 : Int32} (ok : OB_X10_found_82 N rok x3 x4 x5 x6 S) (hx : X (B_X10_found_82 N rec x3 x4 x5 x6 S)) : cX G o dX10_found mX10_found 82 [none, none, none, some (va_rf x3), some (va_rf x4), some (.int x5), some (.int x6), none] [] S Q := by
  unfold OB_X10_found_82 at ok
  unfold B_X10_found_82 at hx
  refine c_iload dX10_found_82 rfl ?_
  refine c_iload dX10_found_84 rfl ?_
  refine c_icmp_ge (tgt := 113) dX10_found_86 (by decide) (fun c_86 => ?_) (fun c_86 => ?_)
  · have ok := ok.1 c_86
    have hx := xif_p c_86 hx
    exact cX.cutz (hX0 _ S hx) ⟨rfl, trivial⟩
  · have ok := ok.2 c_86
    have hx := xif_n c_86 hx
    refine c_aloadQ dX10_found_89 rfl ?_
    refine c_iload dX10_found_91 rfl ?_
    refine c_aald (t := 5) (ty := (.object "QuorumLedger$Node")) rfl rfl (by decide) dX10_found_93 ok.1 ?_
    have ok := ok.2
    refine c_astore_7Q dX10_found_94 (by decide) rfl ?_
    refine c_aloadQ dX10_found_96 rfl ?_
    refine c_iconst (v := nI 0) dX10_found_98 (by decide) ?_
    refine c_putI (C := RX6) (T := TX6) (N := 19) (ci := 5) (k := 18) ⟨rfl, inT6, by decide, fX10_82⟩ ftT6 rfl (by decide) (by decide) (by decide) rfl rfl dX10_found_99 ok.1 ?_
    have ok := ok.2
    refine c_aloadQ dX10_found_102 rfl ?_
    refine c_S1vE (y' := mX7_settle) dX10_found_104 lX10_85 kX7_settle ⟨by decide, by decide⟩ (Nat.le_of_ble_eq_true rfl) (cc_X7_settle hG ok.1) ?_
    have ok := ok.2
    exact cX.cutz (b_X10_found_107 hG hX0 hrec ok hx) ⟨rfl, rfl, rfl, rfl, trivial⟩
def L_X10_found_82 (N : Nat) : Nat → Option Nat → Option Nat → Int32 → Int32 → cS → Nat × Option Nat × cS
  | 0, x3, x4, x5, x6, S => (0, none, S)
  | n + 1, x3, x4, x5, x6, S => B_X10_found_82 N (L_X10_found_82 N n) x3 x4 x5 x6 S
def OL_X10_found_82 (N : Nat) : Nat → Option Nat → Option Nat → Int32 → Int32 → cS → Prop
  | 0, _, _, _, _, _ => False
  | n + 1, x3, x4, x5, x6, S => OB_X10_found_82 N (OL_X10_found_82 N n) x3 x4 x5 x6 S
set_option maxRecDepth 100000 in
set_option maxHeartbeats 4000000 in
theorem l_X10_found_82 {G : zG} {o : cO} {N : Nat} {Q : Option Value → cS → Prop} {X : Nat × Option Nat × cS → Prop} (hG : zOK G) (hX0 : ∀ (x3 : Option Nat) (S' : cS), X (0, x3, S') → cX G o dX10_found mX10_found 113 [none, none, none, some (va_rf x3), none, none, none, none] [] S' Q) : ∀ (n : Nat) (x3 : Option Nat) (x4 : Option Nat) (x5 : Int32) (x6 : Int32) (S : cS), OL_X10_found_82 N n x3 x4 x5 x6 S → X (L_X10_found_82 N n x3 x4 x5 x6 S) → cX G o dX10_found mX10_found 82 [none, none, none, some (va_rf x3), some (va_rf x4), some (.int x5), some (.int x6), none] [] S Q := by
  intro n
  induction n with
  | zero => intro x3 x4 x5 x6 S ok; exact absurd ok id
  | succ n ih =>
    intro x3 x4 x5 x6 S ok hx
    exact bb_X10_found_82 hG hX0 (rec := L_X10_found_82 N n) (rok := OL_X10_found_82 N n) (fun x3 x4 x5 x6 S ok hx => ih x3 x4 x5 x6 S ok hx) ok hx
def A_X10_found_82 (N : Nat) (x3 : Option Nat) (x4 : Option Nat) (x5 : Int32) (x6 : Int32) (S : cS) (z : Nat × Option Nat × cS) : Option Nat × cS := (F_X10_found_113 N (z.2.1) z.2.2)
def OA_X10_found_82 (N : Nat) (x3 : Option Nat) (x4 : Option Nat) (x5 : Int32) (x6 : Int32) (S : cS) (z : Nat × Option Nat × cS) : Prop := O_X10_found_113 N (z.2.1) z.2.2
set_option maxRecDepth 100000 in
set_option maxHeartbeats 4000000 in
theorem c_X10_found_82 {G : zG} {o : cO} {S : cS} {N : Nat} {Q : Option Value → cS → Prop} {X : Option Nat × cS → Prop} (hG : zOK G) (hR : ∀ v S', X (v, S') → Q (some (va_rf v)) S') {x3 : Option Nat} {x4 : Option Nat} {x5 : Int32} {x6 : Int32} (ok : OL_X10_found_82 N N x3 x4 x5 x6 S ∧ OA_X10_found_82 N x3 x4 x5 x6 S (L_X10_found_82 N N x3 x4 x5 x6 S)) (hx : X (A_X10_found_82 N x3 x4 x5 x6 S (L_X10_found_82 N N x3 x4 x5 x6 S))) : cX G o dX10_found mX10_found 82 [none, none, none, some (va_rf x3), some (va_rf x4), some (.int x5), some (.int x6), none] [] S Q := by
  refine l_X10_found_82 hG ?_ N x3 x4 x5 x6 S ok.1 (X := fun z => OA_X10_found_82 N x3 x4 x5 x6 S z ∧ X (A_X10_found_82 N x3 x4 x5 x6 S z)) ⟨ok.2, hx⟩
  · intro x3' S' hz
    obtain ⟨ok, hx⟩ := hz
    unfold OA_X10_found_82 at ok
    unfold A_X10_found_82 at hx
    exact cX.cutz (b_X10_found_113 hG hR ok hx) ⟨rfl, trivial⟩
def F_X10_found_68 (N : Nat) (x3 : Option Nat) (S : cS) : Option Nat × cS := (A_X10_found_82 N x3 (cR S 4 (za x3)) (nI (cL S (za (cR S 4 (za x3))))) (nI 0) S (L_X10_found_82 N N x3 (cR S 4 (za x3)) (nI (cL S (za (cR S 4 (za x3))))) (nI 0) S))
def O_X10_found_68 (N : Nat) (x3 : Option Nat) (S : cS) : Prop := (cis S x3 9) ∧ (cis S (cR S 4 (za x3)) 25) ∧ (OL_X10_found_82 N N x3 (cR S 4 (za x3)) (nI (cL S (za (cR S 4 (za x3))))) (nI 0) S ∧ OA_X10_found_82 N x3 (cR S 4 (za x3)) (nI (cL S (za (cR S 4 (za x3))))) (nI 0) S (L_X10_found_82 N N x3 (cR S 4 (za x3)) (nI (cL S (za (cR S 4 (za x3))))) (nI 0) S))
set_option maxRecDepth 100000 in
set_option maxHeartbeats 4000000 in
theorem b_X10_found_68 {G : zG} {o : cO} {S : cS} {N : Nat} {Q : Option Value → cS → Prop} {X : Option Nat × cS → Prop} (hG : zOK G) (hR : ∀ v S', X (v, S') → Q (some (va_rf v)) S') {x3 : Option Nat} (ok : O_X10_found_68 N x3 S) (hx : X (F_X10_found_68 N x3 S)) : cX G o dX10_found mX10_found 68 [none, none, none, some (va_rf x3), none, none, none, none] [] S Q := by
  unfold O_X10_found_68 at ok
  unfold F_X10_found_68 at hx
  refine c_aload_nQ dX10_found_68 rfl rfl ?_
  refine c_getR (C := RX10) (T := TX10) (N := 12) (ci := 8) (k := 4) ⟨rfl, inT10, by decide, fX10_64⟩ (by decide) (by decide) (by decide) dX10_found_69 ok.1 ?_
  have ok := ok.2
  refine c_astore_4Q dX10_found_72 (by decide) (by simp [zok, zg, zcat_rf]) ?_
  refine c_aloadQ dX10_found_74 rfl ?_
  refine c_alen (t := 5) (ty := (.object "QuorumLedger$Node")) rfl dX10_found_76 ok.1 ?_
  have ok := ok.2
  refine c_istore_5 dX10_found_77 (by decide) (by simp [zok, zg, zcat_rf]) ?_
  refine c_iconst (v := nI 0) dX10_found_79 (by decide) ?_
  refine c_istore_6 dX10_found_80 (by decide) rfl ?_
  exact cX.cutz (c_X10_found_82 hG hR ok hx) ⟨rfl, rfl, rfl, rfl, trivial⟩
def F_X10_found_61 (N : Nat) (rec : Option Nat → Int32 → cS → Nat × Option Nat × cS) (x3 : Option Nat) (x4 : Int32) (s0 : Option Nat) (s1 : Int32) (s2 : Option Nat) (S : cS) : Nat × Option Nat × cS := (rec x3 (x4 + nI 1) (csP S (za s0) s1.toNatClampNeg s2))
def O_X10_found_61 (N : Nat) (rok : Option Nat → Int32 → cS → Prop) (x3 : Option Nat) (x4 : Int32) (s0 : Option Nat) (s1 : Int32) (s2 : Option Nat) (S : cS) : Prop := (cis S s0 25 ∧ vp_in s1 (cL S (za s0)) ∧ (s2 = none ∨ cis S s2 6)) ∧ rok x3 (x4 + nI 1) (csP S (za s0) s1.toNatClampNeg s2)
set_option maxRecDepth 100000 in
set_option maxHeartbeats 4000000 in
theorem b_X10_found_61 {G : zG} {o : cO} {S : cS} {N : Nat} {Q : Option Value → cS → Prop} {X : Nat × Option Nat × cS → Prop} (hG : zOK G) (hX0 : ∀ (x3 : Option Nat) (S' : cS), X (0, x3, S') → cX G o dX10_found mX10_found 68 [none, none, none, some (va_rf x3), none, none, none, none] [] S' Q) {rec : Option Nat → Int32 → cS → Nat × Option Nat × cS} {rok : Option Nat → Int32 → cS → Prop} (hrec : ∀ (x3 : Option Nat) (x4 : Int32) (S : cS), rok x3 x4 S → X (rec x3 x4 S) → cX G o dX10_found mX10_found 35 [none, none, none, some (va_rf x3), some (.int x4), none, none, none] [] S Q) {x3 : Option Nat} {x4 : Int32} {s0 : Option Nat} {s1 : Int32} {s2 : Option Nat} (ok : O_X10_found_61 N rok x3 x4 s0 s1 s2 S) (hx : X (F_X10_found_61 N rec x3 x4 s0 s1 s2 S)) : cX G o dX10_found mX10_found 61 [none, none, none, some (va_rf x3), some (.int x4), none, none, none] [va_rf s2, .int s1, va_rf s0] S Q := by
  unfold O_X10_found_61 at ok
  unfold F_X10_found_61 at hx
  refine c_aast (t := 5) (ci := 5) (rr := (RX6, TX6, 19)) rfl rfl (by decide) (by decide) dX10_found_61 ok.1 ?_
  have ok := ok.2
  refine c_iinc_4 (v := (x4 + nI 1)) dX10_found_62 rfl (by first | rfl | (congr 1)) (by decide) (by simp [zok, zg, zcat_rf]) ?_
  refine c_goto (tgt := 35) dX10_found_65 (by decide) ?_
  exact cX.cutz (hrec _ _ (csP S (za s0) s1.toNatClampNeg s2) ok hx) ⟨rfl, rfl, trivial⟩
def B_X10_found_35 (N : Nat) (rec : Option Nat → Int32 → cS → Nat × Option Nat × cS) (x3 : Option Nat) (x4 : Int32) (S : cS) : Nat × Option Nat × cS := (if (nI (cL S (za (cR S 4 (za x3))))) ≤ x4 then (0, x3, S) else (F_X10_found_61 N rec x3 x4 (cR S 4 (za x3)) x4 (some (cn S)) (f_X6_init N (csNew S 6 19) (za (some (cn S))) x3 x4)))
def OB_X10_found_35 (N : Nat) (rok : Option Nat → Int32 → cS → Prop) (x3 : Option Nat) (x4 : Int32) (S : cS) : Prop := (cis S x3 9) ∧ (cis S (cR S 4 (za x3)) 25) ∧ (((nI (cL S (za (cR S 4 (za x3))))) ≤ x4 → True) ∧ (¬ (nI (cL S (za (cR S 4 (za x3))))) ≤ x4 → (cis S x3 9) ∧ ((some (cn S)) = some (za (some (cn S))) ∧ o_X6_init N (csNew S 6 19) (za (some (cn S))) x3 x4) ∧ O_X10_found_61 N rok x3 x4 (cR S 4 (za x3)) x4 (some (cn S)) (f_X6_init N (csNew S 6 19) (za (some (cn S))) x3 x4)))
set_option maxRecDepth 100000 in
set_option maxHeartbeats 4000000 in
theorem bb_X10_found_35 {G : zG} {o : cO} {S : cS} {N : Nat} {Q : Option Value → cS → Prop} {X : Nat × Option Nat × cS → Prop} (hG : zOK G) (hX0 : ∀ (x3 : Option Nat) (S' : cS), X (0, x3, S') → cX G o dX10_found mX10_found 68 [none, none, none, some (va_rf x3), none, none, none, none] [] S' Q) {rec : Option Nat → Int32 → cS → Nat × Option Nat × cS} {rok : Option Nat → Int32 → cS → Prop} (hrec : ∀ (x3 : Option Nat) (x4 : Int32) (S : cS), rok x3 x4 S → X (rec x3 x4 S) → cX G o dX10_found mX10_found 35 [none, none, none, some (va_rf x3), some (.int x4), none, none, none] [] S Q) {x3 : Option Nat} {x4 : Int32} (ok : OB_X10_found_35 N rok x3 x4 S) (hx : X (B_X10_found_35 N rec x3 x4 S)) : cX G o dX10_found mX10_found 35 [none, none, none, some (va_rf x3), some (.int x4), none, none, none] [] S Q := by
  unfold OB_X10_found_35 at ok
  unfold B_X10_found_35 at hx
  refine c_iload dX10_found_35 rfl ?_
  refine c_aload_nQ dX10_found_37 rfl rfl ?_
  refine c_getR (C := RX10) (T := TX10) (N := 12) (ci := 8) (k := 4) ⟨rfl, inT10, by decide, fX10_64⟩ (by decide) (by decide) (by decide) dX10_found_38 ok.1 ?_
  have ok := ok.2
  refine c_alen (t := 5) (ty := (.object "QuorumLedger$Node")) rfl dX10_found_41 ok.1 ?_
  have ok := ok.2
  refine c_icmp_ge (tgt := 68) dX10_found_42 (by decide) (fun c_42 => ?_) (fun c_42 => ?_)
  · have ok := ok.1 c_42
    have hx := xif_p c_42 hx
    exact cX.cutz (hX0 _ S hx) ⟨rfl, trivial⟩
  · have ok := ok.2 c_42
    have hx := xif_n c_42 hx
    refine c_aload_nQ dX10_found_45 rfl rfl ?_
    refine c_getR (C := RX10) (T := TX10) (N := 12) (ci := 8) (k := 4) ⟨rfl, inT10, by decide, fX10_64⟩ (by decide) (by decide) (by decide) dX10_found_46 ok.1 ?_
    have ok := ok.2
    refine c_iload dX10_found_49 rfl ?_
    refine c_new5 clX10_62 dX10_found_51 ?_
    refine c_dup dX10_found_54 (zcat_rf _) ?_
    refine c_aload_nQ dX10_found_55 rfl rfl ?_
    refine c_iload dX10_found_56 rfl ?_
    refine c_I2vE (y' := mX6_init) dX10_found_58 lX10_79 kX6_init ⟨by decide, by decide⟩ ⟨rfl, rfl⟩ ok.1.1 (by simp only [List.map_cons, List.map_nil, List.sum_cons, List.sum_nil, zcat_rf, zcat_i, zcat_l, zcat_r] <;> decide) (cc_X6_init hG ok.1.2) ?_
    have ok := ok.2
    exact cX.cutz (b_X10_found_61 hG hX0 hrec ok hx) ⟨rfl, rfl, trivial⟩
def L_X10_found_35 (N : Nat) : Nat → Option Nat → Int32 → cS → Nat × Option Nat × cS
  | 0, x3, x4, S => (0, none, S)
  | n + 1, x3, x4, S => B_X10_found_35 N (L_X10_found_35 N n) x3 x4 S
def OL_X10_found_35 (N : Nat) : Nat → Option Nat → Int32 → cS → Prop
  | 0, _, _, _ => False
  | n + 1, x3, x4, S => OB_X10_found_35 N (OL_X10_found_35 N n) x3 x4 S
set_option maxRecDepth 100000 in
set_option maxHeartbeats 4000000 in
theorem l_X10_found_35 {G : zG} {o : cO} {N : Nat} {Q : Option Value → cS → Prop} {X : Nat × Option Nat × cS → Prop} (hG : zOK G) (hX0 : ∀ (x3 : Option Nat) (S' : cS), X (0, x3, S') → cX G o dX10_found mX10_found 68 [none, none, none, some (va_rf x3), none, none, none, none] [] S' Q) : ∀ (n : Nat) (x3 : Option Nat) (x4 : Int32) (S : cS), OL_X10_found_35 N n x3 x4 S → X (L_X10_found_35 N n x3 x4 S) → cX G o dX10_found mX10_found 35 [none, none, none, some (va_rf x3), some (.int x4), none, none, none] [] S Q := by
  intro n
  induction n with
  | zero => intro x3 x4 S ok; exact absurd ok id
  | succ n ih =>
    intro x3 x4 S ok hx
    exact bb_X10_found_35 hG hX0 (rec := L_X10_found_35 N n) (rok := OL_X10_found_35 N n) (fun x3 x4 S ok hx => ih x3 x4 S ok hx) ok hx
def A_X10_found_35 (N : Nat) (x3 : Option Nat) (x4 : Int32) (S : cS) (z : Nat × Option Nat × cS) : Option Nat × cS := (F_X10_found_68 N (z.2.1) z.2.2)
def OA_X10_found_35 (N : Nat) (x3 : Option Nat) (x4 : Int32) (S : cS) (z : Nat × Option Nat × cS) : Prop := O_X10_found_68 N (z.2.1) z.2.2
set_option maxRecDepth 100000 in
set_option maxHeartbeats 4000000 in
theorem c_X10_found_35 {G : zG} {o : cO} {S : cS} {N : Nat} {Q : Option Value → cS → Prop} {X : Option Nat × cS → Prop} (hG : zOK G) (hR : ∀ v S', X (v, S') → Q (some (va_rf v)) S') {x3 : Option Nat} {x4 : Int32} (ok : OL_X10_found_35 N N x3 x4 S ∧ OA_X10_found_35 N x3 x4 S (L_X10_found_35 N N x3 x4 S)) (hx : X (A_X10_found_35 N x3 x4 S (L_X10_found_35 N N x3 x4 S))) : cX G o dX10_found mX10_found 35 [none, none, none, some (va_rf x3), some (.int x4), none, none, none] [] S Q := by
  refine l_X10_found_35 hG ?_ N x3 x4 S ok.1 (X := fun z => OA_X10_found_35 N x3 x4 S z ∧ X (A_X10_found_35 N x3 x4 S z)) ⟨ok.2, hx⟩
  · intro x3' S' hz
    obtain ⟨ok, hx⟩ := hz
    unfold OA_X10_found_35 at ok
    unfold A_X10_found_35 at hx
    exact cX.cutz (b_X10_found_68 hG hR ok hx) ⟨rfl, trivial⟩
def F_X10_found_31 (N : Nat) (s0 : Option Nat) (S : cS) : Option Nat × cS := (A_X10_found_35 N s0 (nI 0) S (L_X10_found_35 N N s0 (nI 0) S))
def O_X10_found_31 (N : Nat) (s0 : Option Nat) (S : cS) : Prop := (OL_X10_found_35 N N s0 (nI 0) S ∧ OA_X10_found_35 N s0 (nI 0) S (L_X10_found_35 N N s0 (nI 0) S))
set_option maxRecDepth 100000 in
set_option maxHeartbeats 4000000 in
theorem b_X10_found_31 {G : zG} {o : cO} {S : cS} {N : Nat} {Q : Option Value → cS → Prop} {X : Option Nat × cS → Prop} (hG : zOK G) (hR : ∀ v S', X (v, S') → Q (some (va_rf v)) S') {s0 : Option Nat} (ok : O_X10_found_31 N s0 S) (hx : X (F_X10_found_31 N s0 S)) : cX G o dX10_found mX10_found 31 [none, none, none, none, none, none, none, none] [va_rf s0] S Q := by
  unfold O_X10_found_31 at ok
  unfold F_X10_found_31 at hx
  refine c_astore_3Q dX10_found_31 (by decide) rfl ?_
  refine c_iconst (v := nI 0) dX10_found_32 (by decide) ?_
  refine c_istore_4 dX10_found_33 (by decide) (by simp [zok, zg, zcat_rf]) ?_
  exact cX.cutz (c_X10_found_35 hG hR ok hx) ⟨rfl, rfl, trivial⟩
def F_X10_found_28 (N : Nat) (s0 : Option Nat) (s1 : Option Nat) (s2 : Int32) (s3 : Int32) (s4 : Option Nat) (s5 : Option Nat) (S : cS) : Option Nat × cS := (F_X10_found_31 N s0 (f_X10_init N S (za s1) s2 s3 s4 s5))
def O_X10_found_28 (N : Nat) (s0 : Option Nat) (s1 : Option Nat) (s2 : Int32) (s3 : Int32) (s4 : Option Nat) (s5 : Option Nat) (S : cS) : Prop := (s1 = some (za s1) ∧ o_X10_init N S (za s1) s2 s3 s4 s5) ∧ O_X10_found_31 N s0 (f_X10_init N S (za s1) s2 s3 s4 s5)
set_option maxRecDepth 100000 in
set_option maxHeartbeats 4000000 in
theorem b_X10_found_28 {G : zG} {o : cO} {S : cS} {N : Nat} {Q : Option Value → cS → Prop} {X : Option Nat × cS → Prop} (hG : zOK G) (hR : ∀ v S', X (v, S') → Q (some (va_rf v)) S') {s0 : Option Nat} {s1 : Option Nat} {s2 : Int32} {s3 : Int32} {s4 : Option Nat} {s5 : Option Nat} (ok : O_X10_found_28 N s0 s1 s2 s3 s4 s5 S) (hx : X (F_X10_found_28 N s0 s1 s2 s3 s4 s5 S)) : cX G o dX10_found mX10_found 28 [none, none, none, none, none, none, none, none] [va_rf s5, va_rf s4, .int s3, .int s2, va_rf s1, va_rf s0] S Q := by
  unfold O_X10_found_28 at ok
  unfold F_X10_found_28 at hx
  refine c_I4vE (y' := mX10_init) dX10_found_28 lX10_76 kX10_init ⟨by decide, by decide⟩ ⟨rfl, rfl⟩ ok.1.1 (by simp only [List.map_cons, List.map_nil, List.sum_cons, List.sum_nil, zcat_rf, zcat_i, zcat_l, zcat_r] <;> decide) (cc_X10_init hG ok.1.2) ?_
  have ok := ok.2
  exact cX.cutz (b_X10_found_31 hG hR ok hx) trivial
def F_X10_found_18 (N : Nat) (x0 : Int32) (x2 : Option Nat) (s0 : Option Nat) (s1 : Option Nat) (s2 : Int32) (s3 : Int32) (s4 : Option Nat) (s5 : Option Nat) (S : cS) : Option Nat × cS := (F_X10_found_28 N s0 s1 s2 s3 s4 s5 (f_X1_init N S (za s5) x2 (((nI 3) * x0) + (nI 1))))
def O_X10_found_18 (N : Nat) (x0 : Int32) (x2 : Option Nat) (s0 : Option Nat) (s1 : Option Nat) (s2 : Int32) (s3 : Int32) (s4 : Option Nat) (s5 : Option Nat) (S : cS) : Prop := (s5 = some (za s5) ∧ o_X1_init N S (za s5) x2 (((nI 3) * x0) + (nI 1))) ∧ O_X10_found_28 N s0 s1 s2 s3 s4 s5 (f_X1_init N S (za s5) x2 (((nI 3) * x0) + (nI 1)))
set_option maxRecDepth 100000 in
set_option maxHeartbeats 4000000 in
theorem b_X10_found_18 {G : zG} {o : cO} {S : cS} {N : Nat} {Q : Option Value → cS → Prop} {X : Option Nat × cS → Prop} (hG : zOK G) (hR : ∀ v S', X (v, S') → Q (some (va_rf v)) S') {x0 : Int32} {x2 : Option Nat} {s0 : Option Nat} {s1 : Option Nat} {s2 : Int32} {s3 : Int32} {s4 : Option Nat} {s5 : Option Nat} (ok : O_X10_found_18 N x0 x2 s0 s1 s2 s3 s4 s5 S) (hx : X (F_X10_found_18 N x0 x2 s0 s1 s2 s3 s4 s5 S)) : cX G o dX10_found mX10_found 18 [some (.int x0), none, some (va_rf x2), none, none, none, none, none] [va_rf s5, va_rf s4, .int s3, .int s2, va_rf s1, va_rf s0] S Q := by
  unfold O_X10_found_18 at ok
  unfold F_X10_found_18 at hx
  refine c_dup dX10_found_18 (zcat_rf _) ?_
  refine c_aload_nQ dX10_found_19 rfl rfl ?_
  refine c_iconst (v := nI 3) dX10_found_20 (by decide) ?_
  refine c_iload_n dX10_found_21 rfl rfl ?_
  refine c_imul dX10_found_22 ?_
  refine c_iconst (v := nI 1) dX10_found_23 (by decide) ?_
  refine c_iadd dX10_found_24 ?_
  refine c_I2vE (y' := mX1_init) dX10_found_25 lX10_73 kX1_init ⟨by decide, by decide⟩ ⟨rfl, rfl⟩ ok.1.1 (by simp only [List.map_cons, List.map_nil, List.sum_cons, List.sum_nil, zcat_rf, zcat_i, zcat_l, zcat_r] <;> decide) (cc_X1_init hG ok.1.2) ?_
  have ok := ok.2
  exact cX.cutz (b_X10_found_28 hG hR ok hx) trivial
def F_X10_found_7 (N : Nat) (x0 : Int32) (x1 : Int32) (s0 : Option Nat) (S : cS) : Option Nat × cS := (F_X10_found_18 N x0 s0 (some (cn S)) (some (cn S)) x0 x1 s0 (some (cn (csNew S 9 12))) (csNew (csNew S 9 12) 2 3))
def O_X10_found_7 (N : Nat) (x0 : Int32) (x1 : Int32) (s0 : Option Nat) (S : cS) : Prop := O_X10_found_18 N x0 s0 (some (cn S)) (some (cn S)) x0 x1 s0 (some (cn (csNew S 9 12))) (csNew (csNew S 9 12) 2 3)
set_option maxRecDepth 100000 in
set_option maxHeartbeats 4000000 in
theorem b_X10_found_7 {G : zG} {o : cO} {S : cS} {N : Nat} {Q : Option Value → cS → Prop} {X : Option Nat × cS → Prop} (hG : zOK G) (hR : ∀ v S', X (v, S') → Q (some (va_rf v)) S') {x0 : Int32} {x1 : Int32} {s0 : Option Nat} (ok : O_X10_found_7 N x0 x1 s0 S) (hx : X (F_X10_found_7 N x0 x1 s0 S)) : cX G o dX10_found mX10_found 7 [some (.int x0), some (.int x1), none, none, none, none, none, none] [va_rf s0] S Q := by
  unfold O_X10_found_7 at ok
  unfold F_X10_found_7 at hx
  refine c_astore_2Q dX10_found_7 (by decide) rfl ?_
  refine c_new8 clX10_13 dX10_found_8 ?_
  refine c_dup dX10_found_11 (zcat_rf _) ?_
  refine c_iload_n dX10_found_12 rfl rfl ?_
  refine c_iload_n dX10_found_13 rfl rfl ?_
  refine c_aload_nQ dX10_found_14 rfl rfl ?_
  refine c_new1 clX10_71 dX10_found_15 ?_
  exact cX.cutz (b_X10_found_18 hG hR ok hx) ⟨rfl, rfl, trivial⟩
def F_X10_found_0 (N : Nat) (x0 : Int32) (x1 : Int32) (S : cS) : Option Nat × cS := (F_X10_found_7 N x0 x1 (some (cn S)) (f_X2_init N (csNew S 3 6) (za (some (cn S)))))
def O_X10_found_0 (N : Nat) (x0 : Int32) (x1 : Int32) (S : cS) : Prop := ((some (cn S)) = some (za (some (cn S))) ∧ o_X2_init N (csNew S 3 6) (za (some (cn S)))) ∧ O_X10_found_7 N x0 x1 (some (cn S)) (f_X2_init N (csNew S 3 6) (za (some (cn S))))
set_option maxRecDepth 100000 in
set_option maxHeartbeats 4000000 in
theorem b_X10_found_0 {G : zG} {o : cO} {S : cS} {N : Nat} {Q : Option Value → cS → Prop} {X : Option Nat × cS → Prop} (hG : zOK G) (hR : ∀ v S', X (v, S') → Q (some (va_rf v)) S') {x0 : Int32} {x1 : Int32} (ok : O_X10_found_0 N x0 x1 S) (hx : X (F_X10_found_0 N x0 x1 S)) : cX G o dX10_found mX10_found 0 [some (.int x0), some (.int x1), none, none, none, none, none, none] [] S Q := by
  unfold O_X10_found_0 at ok
  unfold F_X10_found_0 at hx
  refine c_new2 clX10_68 dX10_found_0 ?_
  refine c_dup dX10_found_3 (zcat_rf _) ?_
  refine c_IN0vE (y' := mX2_init) dX10_found_4 lX10_70 kX2_init ⟨by decide, by decide⟩ ⟨rfl, rfl⟩ ok.1.1 (by simp only [List.map_cons, List.map_nil, List.sum_cons, List.sum_nil, zcat_rf, zcat_i, zcat_l, zcat_r] <;> decide) (cc_X2_init hG ok.1.2) ?_
  have ok := ok.2
  exact cX.cutz (b_X10_found_7 hG hR ok hx) ⟨rfl, rfl, trivial⟩
def f_X10_found (N : Nat) (S : cS) (x0 : Int32) (x1 : Int32) : Option Nat × cS := F_X10_found_0 N x0 x1 S
def o_X10_found (N : Nat) (S : cS) (x0 : Int32) (x1 : Int32) : Prop := O_X10_found_0 N x0 x1 S
set_option maxRecDepth 100000 in
set_option maxHeartbeats 4000000 in
theorem cc_X10_found {G : zG} {o : cO} {S : cS} {N : Nat} (hG : zOK G) {x0 : Int32} {x1 : Int32} (ok : o_X10_found N S x0 x1) : cCq G o dX10_found mX10_found [.int x0, .int x1] S (fun v S' => v = (f_X10_found N S x0 x1).1 ∧ S' = (f_X10_found N S x0 x1).2) := by
  refine cC.ofX rfl (by exact Nat.le_of_ble_eq_true rfl) ?_
  show cX G o dX10_found mX10_found 0 [some (.int x0), some (.int x1), none, none, none, none, none, none] [] S _
  exact cX.cutz (b_X10_found_0 (X := fun F => F = f_X10_found N S x0 x1) hG (fun v S' h => ⟨v, rfl, by rw [← h], by rw [← h]⟩) ok rfl) ⟨rfl, rfl, trivial⟩

/-! X4_noteSnap -/
def F_X4_noteSnap_50 (N : Nat) (x0 : Option Nat) (x2 : Int32) (s0 : Int32) (S : cS) : Int32 × cS := (if s0 = 0 then ((nI 0), S) else ((nI 1), (csI S 5 (za x0) x2)))
def O_X4_noteSnap_50 (N : Nat) (x0 : Option Nat) (x2 : Int32) (s0 : Int32) (S : cS) : Prop := ((s0 = 0 → True) ∧ (¬ s0 = 0 → (cis S x0 4) ∧ True))
set_option maxRecDepth 100000 in
set_option maxHeartbeats 4000000 in
theorem b_X4_noteSnap_50 {G : zG} {o : cO} {S : cS} {N : Nat} {Q : Option Value → cS → Prop} {X : Int32 × cS → Prop} (hG : zOK G) (hR : ∀ v S', X (v, S') → Q (some (.int v)) S') {x0 : Option Nat} {x2 : Int32} {s0 : Int32} (ok : O_X4_noteSnap_50 N x0 x2 s0 S) (hx : X (F_X4_noteSnap_50 N x0 x2 s0 S)) : cX G o dX4_noteSnap mX4_noteSnap 50 [some (va_rf x0), none, some (.int x2)] [.int s0] S Q := by
  unfold O_X4_noteSnap_50 at ok
  unfold F_X4_noteSnap_50 at hx
  refine c_if_ne (tgt := 55) dX4_noteSnap_50 (by decide) (fun c_50 => ?_) (fun c_50 => ?_)
  · have ok := ok.2 c_50
    have hx := xif_n c_50 hx
    refine c_aload_nQ dX4_noteSnap_55 rfl rfl ?_
    refine c_iload_n dX4_noteSnap_56 rfl rfl ?_
    refine c_putI (C := RX4) (T := TX4) (N := 10) (ci := 3) (k := 5) ⟨rfl, inT4, by decide, fX4_68⟩ ftT4 rfl (by decide) (by decide) (by decide) rfl rfl dX4_noteSnap_57 ok.1 ?_
    have ok := ok.2
    refine c_iconst (v := nI 1) dX4_noteSnap_60 (by decide) ?_
    exact c_ireturn rfl rfl dX4_noteSnap_61 (hR _ _ hx)
  · have ok := ok.1 c_50
    have hx := xif_p c_50 hx
    refine c_iconst (v := nI 0) dX4_noteSnap_53 (by decide) ?_
    exact c_ireturn rfl rfl dX4_noteSnap_54 (hR _ _ hx)
def F_X4_noteSnap_45 (N : Nat) (x0 : Option Nat) (x2 : Int32) (S : cS) : Int32 × cS := (F_X4_noteSnap_50 N x0 x2 ((f_X4_write N S (za x0) x2).1) (f_X4_write N S (za x0) x2).2)
def O_X4_noteSnap_45 (N : Nat) (x0 : Option Nat) (x2 : Int32) (S : cS) : Prop := (cis S x0 4 ∧ o_X4_write N S (za x0) x2) ∧ O_X4_noteSnap_50 N x0 x2 ((f_X4_write N S (za x0) x2).1) (f_X4_write N S (za x0) x2).2
set_option maxRecDepth 100000 in
set_option maxHeartbeats 4000000 in
theorem b_X4_noteSnap_45 {G : zG} {o : cO} {S : cS} {N : Nat} {Q : Option Value → cS → Prop} {X : Int32 × cS → Prop} (hG : zOK G) (hR : ∀ v S', X (v, S') → Q (some (.int v)) S') {x0 : Option Nat} {x2 : Int32} (ok : O_X4_noteSnap_45 N x0 x2 S) (hx : X (F_X4_noteSnap_45 N x0 x2 S)) : cX G o dX4_noteSnap mX4_noteSnap 45 [some (va_rf x0), none, some (.int x2)] [] S Q := by
  unfold O_X4_noteSnap_45 at ok
  unfold F_X4_noteSnap_45 at hx
  refine c_aload_nQ dX4_noteSnap_45 rfl rfl ?_
  refine c_iload_n dX4_noteSnap_46 rfl rfl ?_
  refine c_V1iE (ci := 3) (rr := (RX4, TX4, 10)) (y' := mX4_write) dX4_noteSnap_47 lX4_64 kX4_write ⟨by decide, by decide⟩ rfl rfl (by decide) ok.1.1 (Nat.le_of_ble_eq_true rfl) (cc_X4_write hG ok.1.2) ?_
  have ok := ok.2
  exact cX.cutz (b_X4_noteSnap_50 hG hR ok hx) ⟨rfl, rfl, trivial⟩
def F_X4_noteSnap_32 (N : Nat) (x0 : Option Nat) (x1 : Option Nat) (x2 : Int32) (S : cS) : Int32 × cS := (F_X4_noteSnap_45 N x0 x2 (f_X4_add N S (za x0) (cR S 0 (za x1)) (nI 0) (cI S 2 (za x1))))
def O_X4_noteSnap_32 (N : Nat) (x0 : Option Nat) (x1 : Option Nat) (x2 : Int32) (S : cS) : Prop := (cis S x1 5) ∧ (cis S x1 5) ∧ (cis S x0 4 ∧ o_X4_add N S (za x0) (cR S 0 (za x1)) (nI 0) (cI S 2 (za x1))) ∧ O_X4_noteSnap_45 N x0 x2 (f_X4_add N S (za x0) (cR S 0 (za x1)) (nI 0) (cI S 2 (za x1)))
set_option maxRecDepth 100000 in
set_option maxHeartbeats 4000000 in
theorem b_X4_noteSnap_32 {G : zG} {o : cO} {S : cS} {N : Nat} {Q : Option Value → cS → Prop} {X : Int32 × cS → Prop} (hG : zOK G) (hR : ∀ v S', X (v, S') → Q (some (.int v)) S') {x0 : Option Nat} {x1 : Option Nat} {x2 : Int32} (ok : O_X4_noteSnap_32 N x0 x1 x2 S) (hx : X (F_X4_noteSnap_32 N x0 x1 x2 S)) : cX G o dX4_noteSnap mX4_noteSnap 32 [some (va_rf x0), some (va_rf x1), some (.int x2)] [] S Q := by
  unfold O_X4_noteSnap_32 at ok
  unfold F_X4_noteSnap_32 at hx
  refine c_aload_nQ dX4_noteSnap_32 rfl rfl ?_
  refine c_aload_nQ dX4_noteSnap_33 rfl rfl ?_
  refine c_getR (C := RX5) (T := TX5) (N := 7) (ci := 4) (k := 0) ⟨rfl, inT5, by decide, fX4_77⟩ (by decide) (by decide) (by decide) dX4_noteSnap_34 ok.1 ?_
  have ok := ok.2
  refine c_iconst (v := nI 0) dX4_noteSnap_37 (by decide) ?_
  refine c_aload_nQ dX4_noteSnap_38 rfl rfl ?_
  refine c_getI (C := RX5) (T := TX5) (N := 7) (ci := 4) (k := 2) ⟨rfl, inT5, by decide, fX4_80⟩ (by decide) (by decide) (by decide) dX4_noteSnap_39 ok.1 ?_
  have ok := ok.2
  refine c_V3vE (ci := 3) (rr := (RX4, TX4, 10)) (y' := mX4_add) dX4_noteSnap_42 lX4_61 kX4_add ⟨by decide, by decide⟩ rfl rfl (by decide) ok.1.1 (Nat.le_of_ble_eq_true rfl) (cc_X4_add hG ok.1.2) ?_
  have ok := ok.2
  exact cX.cutz (b_X4_noteSnap_45 hG hR ok hx) ⟨rfl, rfl, trivial⟩
def F_X4_noteSnap_19 (N : Nat) (x0 : Option Nat) (x1 : Option Nat) (s0 : Int32) (S : cS) : Int32 × cS := (F_X4_noteSnap_32 N x0 x1 s0 (f_X4_open N S (za x0) (nI 6) (f_X5_two N S (za x1) (nI 1)) (nI 0)))
def O_X4_noteSnap_19 (N : Nat) (x0 : Option Nat) (x1 : Option Nat) (s0 : Int32) (S : cS) : Prop := (cis S x1 5 ∧ o_X5_two N S (za x1) (nI 1)) ∧ (cis S x0 4 ∧ o_X4_open N S (za x0) (nI 6) (f_X5_two N S (za x1) (nI 1)) (nI 0)) ∧ O_X4_noteSnap_32 N x0 x1 s0 (f_X4_open N S (za x0) (nI 6) (f_X5_two N S (za x1) (nI 1)) (nI 0))
set_option maxRecDepth 100000 in
set_option maxHeartbeats 4000000 in
theorem b_X4_noteSnap_19 {G : zG} {o : cO} {S : cS} {N : Nat} {Q : Option Value → cS → Prop} {X : Int32 × cS → Prop} (hG : zOK G) (hR : ∀ v S', X (v, S') → Q (some (.int v)) S') {x0 : Option Nat} {x1 : Option Nat} {s0 : Int32} (ok : O_X4_noteSnap_19 N x0 x1 s0 S) (hx : X (F_X4_noteSnap_19 N x0 x1 s0 S)) : cX G o dX4_noteSnap mX4_noteSnap 19 [some (va_rf x0), some (va_rf x1), none] [.int s0] S Q := by
  unfold O_X4_noteSnap_19 at ok
  unfold F_X4_noteSnap_19 at hx
  refine c_istore_2 dX4_noteSnap_19 (by decide) (by simp [zok, zg, zcat_rf]) ?_
  refine c_aload_nQ dX4_noteSnap_20 rfl rfl ?_
  refine c_bipush (v := nI 6) dX4_noteSnap_21 (by decide) ?_
  refine c_aload_nQ dX4_noteSnap_23 rfl rfl ?_
  refine c_iconst (v := nI 1) dX4_noteSnap_24 (by decide) ?_
  refine c_V1iE (ci := 4) (rr := (RX5, TX5, 7)) (y' := mX5_two) dX4_noteSnap_25 lX4_71 kX5_two ⟨by decide, by decide⟩ rfl rfl (by decide) ok.1.1 (by simp only [List.map_cons, List.map_nil, List.sum_cons, List.sum_nil, zcat_rf, zcat_i, zcat_l, zcat_r] <;> decide) (cc_X5_two hG ok.1.2) ?_
  have ok := ok.2
  refine c_iconst (v := nI 0) dX4_noteSnap_28 (by decide) ?_
  refine c_V3vE (ci := 3) (rr := (RX4, TX4, 10)) (y' := mX4_open) dX4_noteSnap_29 lX4_57 kX4_open ⟨by decide, by decide⟩ rfl rfl (by decide) ok.1.1 (Nat.le_of_ble_eq_true rfl) (cc_X4_open hG ok.1.2) ?_
  have ok := ok.2
  exact cX.cutz (b_X4_noteSnap_32 hG hR ok hx) ⟨rfl, rfl, rfl, trivial⟩
def F_X4_noteSnap_0 (N : Nat) (x0 : Option Nat) (x1 : Option Nat) (S : cS) : Int32 × cS := (if (cI S 5 (za x0)) = (nI 280) then (F_X4_noteSnap_19 N x0 x1 (nI 282) S) else (F_X4_noteSnap_19 N x0 x1 (nI 280) S))
def O_X4_noteSnap_0 (N : Nat) (x0 : Option Nat) (x1 : Option Nat) (S : cS) : Prop := (cis S x0 4) ∧ (((cI S 5 (za x0)) = (nI 280) → O_X4_noteSnap_19 N x0 x1 (nI 282) S) ∧ (¬ (cI S 5 (za x0)) = (nI 280) → O_X4_noteSnap_19 N x0 x1 (nI 280) S))
set_option maxRecDepth 100000 in
set_option maxHeartbeats 4000000 in
theorem b_X4_noteSnap_0 {G : zG} {o : cO} {S : cS} {N : Nat} {Q : Option Value → cS → Prop} {X : Int32 × cS → Prop} (hG : zOK G) (hR : ∀ v S', X (v, S') → Q (some (.int v)) S') {x0 : Option Nat} {x1 : Option Nat} (ok : O_X4_noteSnap_0 N x0 x1 S) (hx : X (F_X4_noteSnap_0 N x0 x1 S)) : cX G o dX4_noteSnap mX4_noteSnap 0 [some (va_rf x0), some (va_rf x1), none] [] S Q := by
  unfold O_X4_noteSnap_0 at ok
  unfold F_X4_noteSnap_0 at hx
  refine c_aload_nQ dX4_noteSnap_0 rfl rfl ?_
  refine c_getI (C := RX4) (T := TX4) (N := 10) (ci := 3) (k := 5) ⟨rfl, inT4, by decide, fX4_68⟩ (by decide) (by decide) (by decide) dX4_noteSnap_1 ok.1 ?_
  have ok := ok.2
  refine c_sipush (v := nI 280) dX4_noteSnap_4 (by decide) ?_
  refine c_icmp_ne (tgt := 16) dX4_noteSnap_7 (by decide) (fun c_7 => ?_) (fun c_7 => ?_)
  · have ok := ok.2 c_7
    have hx := xif_n c_7 hx
    refine c_sipush (v := nI 280) dX4_noteSnap_16 (by decide) ?_
    exact cX.cutz (b_X4_noteSnap_19 hG hR ok hx) ⟨rfl, rfl, trivial⟩
  · have ok := ok.1 c_7
    have hx := xif_p c_7 hx
    refine c_sipush (v := nI 282) dX4_noteSnap_10 (by decide) ?_
    refine c_goto (tgt := 19) dX4_noteSnap_13 (by decide) ?_
    exact cX.cutz (b_X4_noteSnap_19 hG hR ok hx) ⟨rfl, rfl, trivial⟩
def f_X4_noteSnap (N : Nat) (S : cS) (a0 : Nat) (x1 : Option Nat) : Int32 × cS := F_X4_noteSnap_0 N (some a0) x1 S
def o_X4_noteSnap (N : Nat) (S : cS) (a0 : Nat) (x1 : Option Nat) : Prop := O_X4_noteSnap_0 N (some a0) x1 S
set_option maxRecDepth 100000 in
set_option maxHeartbeats 4000000 in
theorem cc_X4_noteSnap {G : zG} {o : cO} {S : cS} {N : Nat} (hG : zOK G) {a0 : Nat} {x1 : Option Nat} (ok : o_X4_noteSnap N S a0 x1) : cCi G o dX4_noteSnap mX4_noteSnap [.ref a0, va_rf x1] S (fun v S' => v = (f_X4_noteSnap N S a0 x1).1 ∧ S' = (f_X4_noteSnap N S a0 x1).2) := by
  refine cC.ofX rfl (by cases x1 <;> exact Nat.le_of_ble_eq_true rfl) ?_
  rw [show zargs mX4_noteSnap.2.2.1 [.ref a0, va_rf x1] = [some (.ref a0), some (va_rf x1), none] from by cases x1 <;> rfl]
  exact cX.cutz (b_X4_noteSnap_0 (X := fun F => F = f_X4_noteSnap N S a0 x1) hG (fun v S' h => ⟨v, rfl, by rw [← h], by rw [← h]⟩) ok rfl) ⟨rfl, rfl, trivial⟩
/-! X4_jot -/
def F_X4_jot_65 (N : Nat) (x0 : Option Nat) (s0 : Int32) (S : cS) : Int32 × cS := (if s0 = 0 then ((nI 0), S) else ((nI 1), (csI S 6 (za x0) ((cI S 6 (za x0)) + (nI 1)))))
def O_X4_jot_65 (N : Nat) (x0 : Option Nat) (s0 : Int32) (S : cS) : Prop := ((s0 = 0 → True) ∧ (¬ s0 = 0 → (cis S x0 4) ∧ (cis S x0 4) ∧ True))
set_option maxRecDepth 100000 in
set_option maxHeartbeats 4000000 in
theorem b_X4_jot_65 {G : zG} {o : cO} {S : cS} {N : Nat} {Q : Option Value → cS → Prop} {X : Int32 × cS → Prop} (hG : zOK G) (hR : ∀ v S', X (v, S') → Q (some (.int v)) S') {x0 : Option Nat} {s0 : Int32} (ok : O_X4_jot_65 N x0 s0 S) (hx : X (F_X4_jot_65 N x0 s0 S)) : cX G o dX4_jot mX4_jot 65 [some (va_rf x0), none, none, none, none, none] [.int s0] S Q := by
  unfold O_X4_jot_65 at ok
  unfold F_X4_jot_65 at hx
  refine c_if_ne (tgt := 70) dX4_jot_65 (by decide) (fun c_65 => ?_) (fun c_65 => ?_)
  · have ok := ok.2 c_65
    have hx := xif_n c_65 hx
    refine c_aload_nQ dX4_jot_70 rfl rfl ?_
    refine c_dup dX4_jot_71 (zcat_rf _) ?_
    refine c_getI (C := RX4) (T := TX4) (N := 10) (ci := 3) (k := 6) ⟨rfl, inT4, by decide, fX4_81⟩ (by decide) (by decide) (by decide) dX4_jot_72 ok.1 ?_
    have ok := ok.2
    refine c_iconst (v := nI 1) dX4_jot_75 (by decide) ?_
    refine c_iadd dX4_jot_76 ?_
    refine c_putI (C := RX4) (T := TX4) (N := 10) (ci := 3) (k := 6) ⟨rfl, inT4, by decide, fX4_81⟩ ftT4 rfl (by decide) (by decide) (by decide) rfl rfl dX4_jot_77 ok.1 ?_
    have ok := ok.2
    refine c_iconst (v := nI 1) dX4_jot_80 (by decide) ?_
    exact c_ireturn rfl rfl dX4_jot_81 (hR _ _ hx)
  · have ok := ok.1 c_65
    have hx := xif_p c_65 hx
    refine c_iconst (v := nI 0) dX4_jot_68 (by decide) ?_
    exact c_ireturn rfl rfl dX4_jot_69 (hR _ _ hx)
def F_X4_jot_52 (N : Nat) (x0 : Option Nat) (S : cS) : Int32 × cS := (F_X4_jot_65 N x0 ((f_X4_write N S (za x0) ((nI 80) + ((nI 2) * (cI S 6 (za x0))))).1) (f_X4_write N S (za x0) ((nI 80) + ((nI 2) * (cI S 6 (za x0))))).2)
def O_X4_jot_52 (N : Nat) (x0 : Option Nat) (S : cS) : Prop := (cis S x0 4) ∧ (cis S x0 4 ∧ o_X4_write N S (za x0) ((nI 80) + ((nI 2) * (cI S 6 (za x0))))) ∧ O_X4_jot_65 N x0 ((f_X4_write N S (za x0) ((nI 80) + ((nI 2) * (cI S 6 (za x0))))).1) (f_X4_write N S (za x0) ((nI 80) + ((nI 2) * (cI S 6 (za x0))))).2
set_option maxRecDepth 100000 in
set_option maxHeartbeats 4000000 in
theorem b_X4_jot_52 {G : zG} {o : cO} {S : cS} {N : Nat} {Q : Option Value → cS → Prop} {X : Int32 × cS → Prop} (hG : zOK G) (hR : ∀ v S', X (v, S') → Q (some (.int v)) S') {x0 : Option Nat} (ok : O_X4_jot_52 N x0 S) (hx : X (F_X4_jot_52 N x0 S)) : cX G o dX4_jot mX4_jot 52 [some (va_rf x0), none, none, none, none, none] [] S Q := by
  unfold O_X4_jot_52 at ok
  unfold F_X4_jot_52 at hx
  refine c_aload_nQ dX4_jot_52 rfl rfl ?_
  refine c_bipush (v := nI 80) dX4_jot_53 (by decide) ?_
  refine c_iconst (v := nI 2) dX4_jot_55 (by decide) ?_
  refine c_aload_nQ dX4_jot_56 rfl rfl ?_
  refine c_getI (C := RX4) (T := TX4) (N := 10) (ci := 3) (k := 6) ⟨rfl, inT4, by decide, fX4_81⟩ (by decide) (by decide) (by decide) dX4_jot_57 ok.1 ?_
  have ok := ok.2
  refine c_imul dX4_jot_60 ?_
  refine c_iadd dX4_jot_61 ?_
  refine c_V1iE (ci := 3) (rr := (RX4, TX4, 10)) (y' := mX4_write) dX4_jot_62 lX4_64 kX4_write ⟨by decide, by decide⟩ rfl rfl (by decide) ok.1.1 (Nat.le_of_ble_eq_true rfl) (cc_X4_write hG ok.1.2) ?_
  have ok := ok.2
  exact cX.cutz (b_X4_jot_65 hG hR ok hx) ⟨rfl, trivial⟩
def F_X4_jot_31 (N : Nat) (x0 : Option Nat) (x4 : Option Nat) (x5 : Int32) (S : cS) : Int32 × cS := (if x4 = none then (F_X4_jot_52 N x0 S) else (F_X4_jot_52 N x0 (f_X4_add N S (za x0) (cR S 0 (za x4)) x5 (cI S 2 (za x4)))))
def O_X4_jot_31 (N : Nat) (x0 : Option Nat) (x4 : Option Nat) (x5 : Int32) (S : cS) : Prop := ((x4 = none → O_X4_jot_52 N x0 S) ∧ (¬ x4 = none → (cis S x4 5) ∧ (cis S x4 5) ∧ (cis S x0 4 ∧ o_X4_add N S (za x0) (cR S 0 (za x4)) x5 (cI S 2 (za x4))) ∧ O_X4_jot_52 N x0 (f_X4_add N S (za x0) (cR S 0 (za x4)) x5 (cI S 2 (za x4)))))
set_option maxRecDepth 100000 in
set_option maxHeartbeats 4000000 in
theorem b_X4_jot_31 {G : zG} {o : cO} {S : cS} {N : Nat} {Q : Option Value → cS → Prop} {X : Int32 × cS → Prop} (hG : zOK G) (hR : ∀ v S', X (v, S') → Q (some (.int v)) S') {x0 : Option Nat} {x4 : Option Nat} {x5 : Int32} (ok : O_X4_jot_31 N x0 x4 x5 S) (hx : X (F_X4_jot_31 N x0 x4 x5 S)) : cX G o dX4_jot mX4_jot 31 [some (va_rf x0), none, none, none, some (va_rf x4), some (.int x5)] [] S Q := by
  unfold O_X4_jot_31 at ok
  unfold F_X4_jot_31 at hx
  refine c_aloadQ dX4_jot_31 rfl ?_
  refine c_ifnullI (tgt := 52) dX4_jot_33 (by decide) (fun c_33 => ?_) (fun c_33 => ?_)
  · have ok := ok.1 c_33
    have hx := xif_p c_33 hx
    exact cX.cutz (b_X4_jot_52 hG hR ok hx) ⟨rfl, trivial⟩
  · have ok := ok.2 c_33
    have hx := xif_n c_33 hx
    refine c_aload_nQ dX4_jot_36 rfl rfl ?_
    refine c_aloadQ dX4_jot_37 rfl ?_
    refine c_getR (C := RX5) (T := TX5) (N := 7) (ci := 4) (k := 0) ⟨rfl, inT5, by decide, fX4_77⟩ (by decide) (by decide) (by decide) dX4_jot_39 ok.1 ?_
    have ok := ok.2
    refine c_iload dX4_jot_42 rfl ?_
    refine c_aloadQ dX4_jot_44 rfl ?_
    refine c_getI (C := RX5) (T := TX5) (N := 7) (ci := 4) (k := 2) ⟨rfl, inT5, by decide, fX4_80⟩ (by decide) (by decide) (by decide) dX4_jot_46 ok.1 ?_
    have ok := ok.2
    refine c_V3vE (ci := 3) (rr := (RX4, TX4, 10)) (y' := mX4_add) dX4_jot_49 lX4_61 kX4_add ⟨by decide, by decide⟩ rfl rfl (by decide) ok.1.1 (Nat.le_of_ble_eq_true rfl) (cc_X4_add hG ok.1.2) ?_
    have ok := ok.2
    exact cX.cutz (b_X4_jot_52 hG hR ok hx) ⟨rfl, trivial⟩
def F_X4_jot_10 (N : Nat) (x0 : Option Nat) (x3 : Int32) (x4 : Option Nat) (x5 : Int32) (S : cS) : Int32 × cS := (F_X4_jot_31 N x0 x4 x5 (csI (csA S (za (cR S 2 (za x0))) (cI S 4 (za x0)).toNatClampNeg ((x3.toInt8.toInt32).toInt8.toInt32)) 4 (za x0) ((cI (csA S (za (cR S 2 (za x0))) (cI S 4 (za x0)).toNatClampNeg ((x3.toInt8.toInt32).toInt8.toInt32)) 4 (za x0)) + (nI 1))))
def O_X4_jot_10 (N : Nat) (x0 : Option Nat) (x3 : Int32) (x4 : Option Nat) (x5 : Int32) (S : cS) : Prop := (cis S x0 4) ∧ (cis S x0 4) ∧ (cis S (cR S 2 (za x0)) 20 ∧ vp_in (cI S 4 (za x0)) (cL S (za (cR S 2 (za x0))))) ∧ (cis (csA S (za (cR S 2 (za x0))) (cI S 4 (za x0)).toNatClampNeg ((x3.toInt8.toInt32).toInt8.toInt32)) x0 4) ∧ (cis (csA S (za (cR S 2 (za x0))) (cI S 4 (za x0)).toNatClampNeg ((x3.toInt8.toInt32).toInt8.toInt32)) x0 4) ∧ O_X4_jot_31 N x0 x4 x5 (csI (csA S (za (cR S 2 (za x0))) (cI S 4 (za x0)).toNatClampNeg ((x3.toInt8.toInt32).toInt8.toInt32)) 4 (za x0) ((cI (csA S (za (cR S 2 (za x0))) (cI S 4 (za x0)).toNatClampNeg ((x3.toInt8.toInt32).toInt8.toInt32)) 4 (za x0)) + (nI 1)))
set_option maxRecDepth 100000 in
set_option maxHeartbeats 4000000 in
theorem b_X4_jot_10 {G : zG} {o : cO} {S : cS} {N : Nat} {Q : Option Value → cS → Prop} {X : Int32 × cS → Prop} (hG : zOK G) (hR : ∀ v S', X (v, S') → Q (some (.int v)) S') {x0 : Option Nat} {x3 : Int32} {x4 : Option Nat} {x5 : Int32} (ok : O_X4_jot_10 N x0 x3 x4 x5 S) (hx : X (F_X4_jot_10 N x0 x3 x4 x5 S)) : cX G o dX4_jot mX4_jot 10 [some (va_rf x0), none, none, some (.int x3), some (va_rf x4), some (.int x5)] [] S Q := by
  unfold O_X4_jot_10 at ok
  unfold F_X4_jot_10 at hx
  refine c_aload_nQ dX4_jot_10 rfl rfl ?_
  refine c_getR (C := RX4) (T := TX4) (N := 10) (ci := 3) (k := 2) ⟨rfl, inT4, by decide, fX4_21⟩ (by decide) (by decide) (by decide) dX4_jot_11 ok.1 ?_
  have ok := ok.2
  refine c_aload_nQ dX4_jot_14 rfl rfl ?_
  refine c_getI (C := RX4) (T := TX4) (N := 10) (ci := 3) (k := 4) ⟨rfl, inT4, by decide, fX4_32⟩ (by decide) (by decide) (by decide) dX4_jot_15 ok.1 ?_
  have ok := ok.2
  refine c_iload_n dX4_jot_18 rfl rfl ?_
  refine c_i2b dX4_jot_19 ?_
  refine c_bast dX4_jot_20 ok.1 ?_
  have ok := ok.2
  refine c_aload_nQ dX4_jot_21 rfl rfl ?_
  refine c_dup dX4_jot_22 (zcat_rf _) ?_
  refine c_getI (C := RX4) (T := TX4) (N := 10) (ci := 3) (k := 4) ⟨rfl, inT4, by decide, fX4_32⟩ (by decide) (by decide) (by decide) dX4_jot_23 ok.1 ?_
  have ok := ok.2
  refine c_iconst (v := nI 1) dX4_jot_26 (by decide) ?_
  refine c_iadd dX4_jot_27 ?_
  refine c_putI (C := RX4) (T := TX4) (N := 10) (ci := 3) (k := 4) ⟨rfl, inT4, by decide, fX4_32⟩ ftT4 rfl (by decide) (by decide) (by decide) rfl rfl dX4_jot_28 ok.1 ?_
  have ok := ok.2
  exact cX.cutz (b_X4_jot_31 hG hR ok hx) ⟨rfl, rfl, rfl, trivial⟩
def F_X4_jot_0 (N : Nat) (x0 : Option Nat) (x1 : Int32) (x2 : Int32) (x3 : Int32) (x4 : Option Nat) (x5 : Int32) (S : cS) : Int32 × cS := (F_X4_jot_10 N x0 x3 x4 x5 (f_X4_open N S (za x0) x1 x2 (cI S 6 (za x0))))
def O_X4_jot_0 (N : Nat) (x0 : Option Nat) (x1 : Int32) (x2 : Int32) (x3 : Int32) (x4 : Option Nat) (x5 : Int32) (S : cS) : Prop := (cis S x0 4) ∧ (cis S x0 4 ∧ o_X4_open N S (za x0) x1 x2 (cI S 6 (za x0))) ∧ O_X4_jot_10 N x0 x3 x4 x5 (f_X4_open N S (za x0) x1 x2 (cI S 6 (za x0)))
set_option maxRecDepth 100000 in
set_option maxHeartbeats 4000000 in
theorem b_X4_jot_0 {G : zG} {o : cO} {S : cS} {N : Nat} {Q : Option Value → cS → Prop} {X : Int32 × cS → Prop} (hG : zOK G) (hR : ∀ v S', X (v, S') → Q (some (.int v)) S') {x0 : Option Nat} {x1 : Int32} {x2 : Int32} {x3 : Int32} {x4 : Option Nat} {x5 : Int32} (ok : O_X4_jot_0 N x0 x1 x2 x3 x4 x5 S) (hx : X (F_X4_jot_0 N x0 x1 x2 x3 x4 x5 S)) : cX G o dX4_jot mX4_jot 0 [some (va_rf x0), some (.int x1), some (.int x2), some (.int x3), some (va_rf x4), some (.int x5)] [] S Q := by
  unfold O_X4_jot_0 at ok
  unfold F_X4_jot_0 at hx
  refine c_aload_nQ dX4_jot_0 rfl rfl ?_
  refine c_iload_n dX4_jot_1 rfl rfl ?_
  refine c_iload_n dX4_jot_2 rfl rfl ?_
  refine c_aload_nQ dX4_jot_3 rfl rfl ?_
  refine c_getI (C := RX4) (T := TX4) (N := 10) (ci := 3) (k := 6) ⟨rfl, inT4, by decide, fX4_81⟩ (by decide) (by decide) (by decide) dX4_jot_4 ok.1 ?_
  have ok := ok.2
  refine c_V3vE (ci := 3) (rr := (RX4, TX4, 10)) (y' := mX4_open) dX4_jot_7 lX4_57 kX4_open ⟨by decide, by decide⟩ rfl rfl (by decide) ok.1.1 (Nat.le_of_ble_eq_true rfl) (cc_X4_open hG ok.1.2) ?_
  have ok := ok.2
  exact cX.cutz (b_X4_jot_10 hG hR ok hx) ⟨rfl, rfl, rfl, rfl, trivial⟩
def f_X4_jot (N : Nat) (S : cS) (a0 : Nat) (x1 : Int32) (x2 : Int32) (x3 : Int32) (x4 : Option Nat) (x5 : Int32) : Int32 × cS := F_X4_jot_0 N (some a0) x1 x2 x3 x4 x5 S
def o_X4_jot (N : Nat) (S : cS) (a0 : Nat) (x1 : Int32) (x2 : Int32) (x3 : Int32) (x4 : Option Nat) (x5 : Int32) : Prop := O_X4_jot_0 N (some a0) x1 x2 x3 x4 x5 S
set_option maxRecDepth 100000 in
set_option maxHeartbeats 4000000 in
theorem cc_X4_jot {G : zG} {o : cO} {S : cS} {N : Nat} (hG : zOK G) {a0 : Nat} {x1 : Int32} {x2 : Int32} {x3 : Int32} {x4 : Option Nat} {x5 : Int32} (ok : o_X4_jot N S a0 x1 x2 x3 x4 x5) : cCi G o dX4_jot mX4_jot [.ref a0, .int x1, .int x2, .int x3, va_rf x4, .int x5] S (fun v S' => v = (f_X4_jot N S a0 x1 x2 x3 x4 x5).1 ∧ S' = (f_X4_jot N S a0 x1 x2 x3 x4 x5).2) := by
  refine cC.ofX rfl (by cases x4 <;> exact Nat.le_of_ble_eq_true rfl) ?_
  rw [show zargs mX4_jot.2.2.1 [.ref a0, .int x1, .int x2, .int x3, va_rf x4, .int x5] = [some (.ref a0), some (.int x1), some (.int x2), some (.int x3), some (va_rf x4), some (.int x5)] from by cases x4 <;> rfl]
  exact cX.cutz (b_X4_jot_0 (X := fun F => F = f_X4_jot N S a0 x1 x2 x3 x4 x5) hG (fun v S' h => ⟨v, rfl, by rw [← h], by rw [← h]⟩) ok rfl) ⟨rfl, rfl, rfl, rfl, rfl, rfl, trivial⟩
/-! X8_init -/
def F_X8_init_80 (N : Nat) (x0 : Option Nat) (x2 : Int32) (S : cS) : cS := (csR (csNew S 24 x2.toNatClampNeg) 9 (za x0) (some (cn S)))
def O_X8_init_80 (N : Nat) (x0 : Option Nat) (x2 : Int32) (S : cS) : Prop := (¬ x2 < 0 ∧ x2.toNatClampNeg ≤ 1000000) ∧ (cis (csNew S 24 x2.toNatClampNeg) x0 7) ∧ True
set_option maxRecDepth 100000 in
set_option maxHeartbeats 4000000 in
theorem b_X8_init_80 {G : zG} {o : cO} {S : cS} {N : Nat} {Q : Option Value → cS → Prop} {X : cS → Prop} (hG : zOK G) (hR : ∀ S', X S' → Q none S') {x0 : Option Nat} {x2 : Int32} (ok : O_X8_init_80 N x0 x2 S) (hx : X (F_X8_init_80 N x0 x2 S)) : cX G o dX8_init mX8_init 80 [some (va_rf x0), none, some (.int x2)] [] S Q := by
  unfold O_X8_init_80 at ok
  unfold F_X8_init_80 at hx
  refine c_aload_nQ dX8_init_80 rfl rfl ?_
  refine c_iload_n dX8_init_81 rfl rfl ?_
  refine c_anew4 clX8_9 dX8_init_82 ok.1.1 ok.1.2 ?_
  have ok := ok.2
  refine c_putRF (C := RX8) (T := TX8) (N := 14) (ci := 6) (k := 9) ⟨rfl, inT8, by decide, fX8_48⟩ ftT8 rfl rfl rfl (by decide) (by decide) (by decide) (fun v => by cases v <;> rfl) (fun v => by cases v <;> rfl) dX8_init_85 ok.1 ?_
  have ok := ok.2
  exact c_return rfl dX8_init_88 (hR _ hx)
def F_X8_init_72 (N : Nat) (x0 : Option Nat) (x2 : Int32) (S : cS) : cS := (F_X8_init_80 N x0 x2 (csR (csNew S 24 x2.toNatClampNeg) 8 (za x0) (some (cn S))))
def O_X8_init_72 (N : Nat) (x0 : Option Nat) (x2 : Int32) (S : cS) : Prop := (¬ x2 < 0 ∧ x2.toNatClampNeg ≤ 1000000) ∧ (cis (csNew S 24 x2.toNatClampNeg) x0 7) ∧ O_X8_init_80 N x0 x2 (csR (csNew S 24 x2.toNatClampNeg) 8 (za x0) (some (cn S)))
set_option maxRecDepth 100000 in
set_option maxHeartbeats 4000000 in
theorem b_X8_init_72 {G : zG} {o : cO} {S : cS} {N : Nat} {Q : Option Value → cS → Prop} {X : cS → Prop} (hG : zOK G) (hR : ∀ S', X S' → Q none S') {x0 : Option Nat} {x2 : Int32} (ok : O_X8_init_72 N x0 x2 S) (hx : X (F_X8_init_72 N x0 x2 S)) : cX G o dX8_init mX8_init 72 [some (va_rf x0), none, some (.int x2)] [] S Q := by
  unfold O_X8_init_72 at ok
  unfold F_X8_init_72 at hx
  refine c_aload_nQ dX8_init_72 rfl rfl ?_
  refine c_iload_n dX8_init_73 rfl rfl ?_
  refine c_anew4 clX8_9 dX8_init_74 ok.1.1 ok.1.2 ?_
  have ok := ok.2
  refine c_putRF (C := RX8) (T := TX8) (N := 14) (ci := 6) (k := 8) ⟨rfl, inT8, by decide, fX8_45⟩ ftT8 rfl rfl rfl (by decide) (by decide) (by decide) (fun v => by cases v <;> rfl) (fun v => by cases v <;> rfl) dX8_init_77 ok.1 ?_
  have ok := ok.2
  exact cX.cutz (b_X8_init_80 hG hR ok hx) ⟨rfl, rfl, trivial⟩
def F_X8_init_65 (N : Nat) (x0 : Option Nat) (x2 : Int32) (S : cS) : cS := (F_X8_init_72 N x0 x2 (csR (csNew S 21 x2.toNatClampNeg) 7 (za x0) (some (cn S))))
def O_X8_init_65 (N : Nat) (x0 : Option Nat) (x2 : Int32) (S : cS) : Prop := (¬ x2 < 0 ∧ x2.toNatClampNeg ≤ 1000000) ∧ (cis (csNew S 21 x2.toNatClampNeg) x0 7) ∧ O_X8_init_72 N x0 x2 (csR (csNew S 21 x2.toNatClampNeg) 7 (za x0) (some (cn S)))
set_option maxRecDepth 100000 in
set_option maxHeartbeats 4000000 in
theorem b_X8_init_65 {G : zG} {o : cO} {S : cS} {N : Nat} {Q : Option Value → cS → Prop} {X : cS → Prop} (hG : zOK G) (hR : ∀ S', X S' → Q none S') {x0 : Option Nat} {x2 : Int32} (ok : O_X8_init_65 N x0 x2 S) (hx : X (F_X8_init_65 N x0 x2 S)) : cX G o dX8_init mX8_init 65 [some (va_rf x0), none, some (.int x2)] [] S Q := by
  unfold O_X8_init_65 at ok
  unfold F_X8_init_65 at hx
  refine c_aload_nQ dX8_init_65 rfl rfl ?_
  refine c_iload_n dX8_init_66 rfl rfl ?_
  refine c_newa1 dX8_init_67 ok.1.1 ok.1.2 ?_
  have ok := ok.2
  refine c_putRF (C := RX8) (T := TX8) (N := 14) (ci := 6) (k := 7) ⟨rfl, inT8, by decide, fX8_42⟩ ftT8 rfl rfl rfl (by decide) (by decide) (by decide) (fun v => by cases v <;> rfl) (fun v => by cases v <;> rfl) dX8_init_69 ok.1 ?_
  have ok := ok.2
  exact cX.cutz (b_X8_init_72 hG hR ok hx) ⟨rfl, rfl, trivial⟩
def F_X8_init_57 (N : Nat) (x0 : Option Nat) (x2 : Int32) (S : cS) : cS := (F_X8_init_65 N x0 x2 (csR (csNew S 24 x2.toNatClampNeg) 6 (za x0) (some (cn S))))
def O_X8_init_57 (N : Nat) (x0 : Option Nat) (x2 : Int32) (S : cS) : Prop := (¬ x2 < 0 ∧ x2.toNatClampNeg ≤ 1000000) ∧ (cis (csNew S 24 x2.toNatClampNeg) x0 7) ∧ O_X8_init_65 N x0 x2 (csR (csNew S 24 x2.toNatClampNeg) 6 (za x0) (some (cn S)))
set_option maxRecDepth 100000 in
set_option maxHeartbeats 4000000 in
theorem b_X8_init_57 {G : zG} {o : cO} {S : cS} {N : Nat} {Q : Option Value → cS → Prop} {X : cS → Prop} (hG : zOK G) (hR : ∀ S', X S' → Q none S') {x0 : Option Nat} {x2 : Int32} (ok : O_X8_init_57 N x0 x2 S) (hx : X (F_X8_init_57 N x0 x2 S)) : cX G o dX8_init mX8_init 57 [some (va_rf x0), none, some (.int x2)] [] S Q := by
  unfold O_X8_init_57 at ok
  unfold F_X8_init_57 at hx
  refine c_aload_nQ dX8_init_57 rfl rfl ?_
  refine c_iload_n dX8_init_58 rfl rfl ?_
  refine c_anew4 clX8_9 dX8_init_59 ok.1.1 ok.1.2 ?_
  have ok := ok.2
  refine c_putRF (C := RX8) (T := TX8) (N := 14) (ci := 6) (k := 6) ⟨rfl, inT8, by decide, fX8_39⟩ ftT8 rfl rfl rfl (by decide) (by decide) (by decide) (fun v => by cases v <;> rfl) (fun v => by cases v <;> rfl) dX8_init_62 ok.1 ?_
  have ok := ok.2
  exact cX.cutz (b_X8_init_65 hG hR ok hx) ⟨rfl, rfl, trivial⟩
def F_X8_init_46 (N : Nat) (x0 : Option Nat) (x2 : Int32) (S : cS) : cS := (F_X8_init_57 N x0 x2 (csR (csNew S 24 ((nI 64) * x2).toNatClampNeg) 4 (za x0) (some (cn S))))
def O_X8_init_46 (N : Nat) (x0 : Option Nat) (x2 : Int32) (S : cS) : Prop := (¬ ((nI 64) * x2) < 0 ∧ ((nI 64) * x2).toNatClampNeg ≤ 1000000) ∧ (cis (csNew S 24 ((nI 64) * x2).toNatClampNeg) x0 7) ∧ O_X8_init_57 N x0 x2 (csR (csNew S 24 ((nI 64) * x2).toNatClampNeg) 4 (za x0) (some (cn S)))
set_option maxRecDepth 100000 in
set_option maxHeartbeats 4000000 in
theorem b_X8_init_46 {G : zG} {o : cO} {S : cS} {N : Nat} {Q : Option Value → cS → Prop} {X : cS → Prop} (hG : zOK G) (hR : ∀ S', X S' → Q none S') {x0 : Option Nat} {x2 : Int32} (ok : O_X8_init_46 N x0 x2 S) (hx : X (F_X8_init_46 N x0 x2 S)) : cX G o dX8_init mX8_init 46 [some (va_rf x0), none, some (.int x2)] [] S Q := by
  unfold O_X8_init_46 at ok
  unfold F_X8_init_46 at hx
  refine c_aload_nQ dX8_init_46 rfl rfl ?_
  refine c_bipush (v := nI 64) dX8_init_47 (by decide) ?_
  refine c_iload_n dX8_init_49 rfl rfl ?_
  refine c_imul dX8_init_50 ?_
  refine c_anew4 clX8_9 dX8_init_51 ok.1.1 ok.1.2 ?_
  have ok := ok.2
  refine c_putRF (C := RX8) (T := TX8) (N := 14) (ci := 6) (k := 4) ⟨rfl, inT8, by decide, fX8_36⟩ ftT8 rfl rfl rfl (by decide) (by decide) (by decide) (fun v => by cases v <;> rfl) (fun v => by cases v <;> rfl) dX8_init_54 ok.1 ?_
  have ok := ok.2
  exact cX.cutz (b_X8_init_57 hG hR ok hx) ⟨rfl, rfl, trivial⟩
def F_X8_init_36 (N : Nat) (x0 : Option Nat) (x1 : Option Nat) (x2 : Int32) (S : cS) : cS := (F_X8_init_46 N x0 x2 (csI (csR S 0 (za x0) x1) 1 (za x0) x2))
def O_X8_init_36 (N : Nat) (x0 : Option Nat) (x1 : Option Nat) (x2 : Int32) (S : cS) : Prop := (cis S x0 7) ∧ (cis (csR S 0 (za x0) x1) x0 7) ∧ O_X8_init_46 N x0 x2 (csI (csR S 0 (za x0) x1) 1 (za x0) x2)
set_option maxRecDepth 100000 in
set_option maxHeartbeats 4000000 in
theorem b_X8_init_36 {G : zG} {o : cO} {S : cS} {N : Nat} {Q : Option Value → cS → Prop} {X : cS → Prop} (hG : zOK G) (hR : ∀ S', X S' → Q none S') {x0 : Option Nat} {x1 : Option Nat} {x2 : Int32} (ok : O_X8_init_36 N x0 x1 x2 S) (hx : X (F_X8_init_36 N x0 x1 x2 S)) : cX G o dX8_init mX8_init 36 [some (va_rf x0), some (va_rf x1), some (.int x2)] [] S Q := by
  unfold O_X8_init_36 at ok
  unfold F_X8_init_36 at hx
  refine c_aload_nQ dX8_init_36 rfl rfl ?_
  refine c_aload_nQ dX8_init_37 rfl rfl ?_
  refine c_putRF (C := RX8) (T := TX8) (N := 14) (ci := 6) (k := 0) ⟨rfl, inT8, by decide, fX8_28⟩ ftT8 rfl rfl rfl (by decide) (by decide) (by decide) (fun v => by cases v <;> rfl) (fun v => by cases v <;> rfl) dX8_init_38 ok.1 ?_
  have ok := ok.2
  refine c_aload_nQ dX8_init_41 rfl rfl ?_
  refine c_iload_n dX8_init_42 rfl rfl ?_
  refine c_putIF (C := RX8) (T := TX8) (N := 14) (ci := 6) (k := 1) ⟨rfl, inT8, by decide, fX8_32⟩ ftT8 rfl rfl rfl (by decide) (by decide) (by decide) rfl rfl dX8_init_43 ok.1 ?_
  have ok := ok.2
  exact cX.cutz (b_X8_init_46 hG hR ok hx) ⟨rfl, rfl, trivial⟩
def F_X8_init_28 (N : Nat) (x0 : Option Nat) (x1 : Option Nat) (x2 : Int32) (S : cS) : cS := (F_X8_init_36 N x0 x1 x2 (csR (csNew S 22 (nI 80).toNatClampNeg) 10 (za x0) (some (cn S))))
def O_X8_init_28 (N : Nat) (x0 : Option Nat) (x1 : Option Nat) (x2 : Int32) (S : cS) : Prop := (¬ (nI 80) < 0 ∧ (nI 80).toNatClampNeg ≤ 1000000) ∧ (cis (csNew S 22 (nI 80).toNatClampNeg) x0 7) ∧ O_X8_init_36 N x0 x1 x2 (csR (csNew S 22 (nI 80).toNatClampNeg) 10 (za x0) (some (cn S)))
set_option maxRecDepth 100000 in
set_option maxHeartbeats 4000000 in
theorem b_X8_init_28 {G : zG} {o : cO} {S : cS} {N : Nat} {Q : Option Value → cS → Prop} {X : cS → Prop} (hG : zOK G) (hR : ∀ S', X S' → Q none S') {x0 : Option Nat} {x1 : Option Nat} {x2 : Int32} (ok : O_X8_init_28 N x0 x1 x2 S) (hx : X (F_X8_init_28 N x0 x1 x2 S)) : cX G o dX8_init mX8_init 28 [some (va_rf x0), some (va_rf x1), some (.int x2)] [] S Q := by
  unfold O_X8_init_28 at ok
  unfold F_X8_init_28 at hx
  refine c_aload_nQ dX8_init_28 rfl rfl ?_
  refine c_bipush (v := nI 80) dX8_init_29 (by decide) ?_
  refine c_newa2 dX8_init_31 ok.1.1 ok.1.2 ?_
  have ok := ok.2
  refine c_putRF (C := RX8) (T := TX8) (N := 14) (ci := 6) (k := 10) ⟨rfl, inT8, by decide, fX8_24⟩ ftT8 rfl rfl rfl (by decide) (by decide) (by decide) (fun v => by cases v <;> rfl) (fun v => by cases v <;> rfl) dX8_init_33 ok.1 ?_
  have ok := ok.2
  exact cX.cutz (b_X8_init_36 hG hR ok hx) ⟨rfl, rfl, rfl, trivial⟩
def F_X8_init_21 (N : Nat) (x0 : Option Nat) (x1 : Option Nat) (x2 : Int32) (S : cS) : cS := (F_X8_init_28 N x0 x1 x2 (csR (csNew S 21 (nI 2).toNatClampNeg) 5 (za x0) (some (cn S))))
def O_X8_init_21 (N : Nat) (x0 : Option Nat) (x1 : Option Nat) (x2 : Int32) (S : cS) : Prop := (¬ (nI 2) < 0 ∧ (nI 2).toNatClampNeg ≤ 1000000) ∧ (cis (csNew S 21 (nI 2).toNatClampNeg) x0 7) ∧ O_X8_init_28 N x0 x1 x2 (csR (csNew S 21 (nI 2).toNatClampNeg) 5 (za x0) (some (cn S)))
set_option maxRecDepth 100000 in
set_option maxHeartbeats 4000000 in
theorem b_X8_init_21 {G : zG} {o : cO} {S : cS} {N : Nat} {Q : Option Value → cS → Prop} {X : cS → Prop} (hG : zOK G) (hR : ∀ S', X S' → Q none S') {x0 : Option Nat} {x1 : Option Nat} {x2 : Int32} (ok : O_X8_init_21 N x0 x1 x2 S) (hx : X (F_X8_init_21 N x0 x1 x2 S)) : cX G o dX8_init mX8_init 21 [some (va_rf x0), some (va_rf x1), some (.int x2)] [] S Q := by
  unfold O_X8_init_21 at ok
  unfold F_X8_init_21 at hx
  refine c_aload_nQ dX8_init_21 rfl rfl ?_
  refine c_iconst (v := nI 2) dX8_init_22 (by decide) ?_
  refine c_newa1 dX8_init_23 ok.1.1 ok.1.2 ?_
  have ok := ok.2
  refine c_putRF (C := RX8) (T := TX8) (N := 14) (ci := 6) (k := 5) ⟨rfl, inT8, by decide, fX8_21⟩ ftT8 rfl rfl rfl (by decide) (by decide) (by decide) (fun v => by cases v <;> rfl) (fun v => by cases v <;> rfl) dX8_init_25 ok.1 ?_
  have ok := ok.2
  exact cX.cutz (b_X8_init_28 hG hR ok hx) ⟨rfl, rfl, rfl, trivial⟩
def F_X8_init_13 (N : Nat) (x0 : Option Nat) (x1 : Option Nat) (x2 : Int32) (S : cS) : cS := (F_X8_init_21 N x0 x1 x2 (csR (csNew S 21 (nI 32).toNatClampNeg) 3 (za x0) (some (cn S))))
def O_X8_init_13 (N : Nat) (x0 : Option Nat) (x1 : Option Nat) (x2 : Int32) (S : cS) : Prop := (¬ (nI 32) < 0 ∧ (nI 32).toNatClampNeg ≤ 1000000) ∧ (cis (csNew S 21 (nI 32).toNatClampNeg) x0 7) ∧ O_X8_init_21 N x0 x1 x2 (csR (csNew S 21 (nI 32).toNatClampNeg) 3 (za x0) (some (cn S)))
set_option maxRecDepth 100000 in
set_option maxHeartbeats 4000000 in
theorem b_X8_init_13 {G : zG} {o : cO} {S : cS} {N : Nat} {Q : Option Value → cS → Prop} {X : cS → Prop} (hG : zOK G) (hR : ∀ S', X S' → Q none S') {x0 : Option Nat} {x1 : Option Nat} {x2 : Int32} (ok : O_X8_init_13 N x0 x1 x2 S) (hx : X (F_X8_init_13 N x0 x1 x2 S)) : cX G o dX8_init mX8_init 13 [some (va_rf x0), some (va_rf x1), some (.int x2)] [] S Q := by
  unfold O_X8_init_13 at ok
  unfold F_X8_init_13 at hx
  refine c_aload_nQ dX8_init_13 rfl rfl ?_
  refine c_bipush (v := nI 32) dX8_init_14 (by decide) ?_
  refine c_newa1 dX8_init_16 ok.1.1 ok.1.2 ?_
  have ok := ok.2
  refine c_putRF (C := RX8) (T := TX8) (N := 14) (ci := 6) (k := 3) ⟨rfl, inT8, by decide, fX8_17⟩ ftT8 rfl rfl rfl (by decide) (by decide) (by decide) (fun v => by cases v <;> rfl) (fun v => by cases v <;> rfl) dX8_init_18 ok.1 ?_
  have ok := ok.2
  exact cX.cutz (b_X8_init_21 hG hR ok hx) ⟨rfl, rfl, rfl, trivial⟩
def F_X8_init_0 (N : Nat) (x0 : Option Nat) (x1 : Option Nat) (x2 : Int32) (S : cS) : cS := (F_X8_init_13 N x0 x1 x2 (csR (csNew S 24 (nI 32).toNatClampNeg) 2 (za x0) (some (cn S))))
def O_X8_init_0 (N : Nat) (x0 : Option Nat) (x1 : Option Nat) (x2 : Int32) (S : cS) : Prop := (x0 = some (za x0)) ∧ (¬ (nI 32) < 0 ∧ (nI 32).toNatClampNeg ≤ 1000000) ∧ (cis (csNew S 24 (nI 32).toNatClampNeg) x0 7) ∧ O_X8_init_13 N x0 x1 x2 (csR (csNew S 24 (nI 32).toNatClampNeg) 2 (za x0) (some (cn S)))
set_option maxRecDepth 100000 in
set_option maxHeartbeats 4000000 in
theorem b_X8_init_0 {G : zG} {o : cO} {S : cS} {N : Nat} {Q : Option Value → cS → Prop} {X : cS → Prop} (hG : zOK G) (hR : ∀ S', X S' → Q none S') {x0 : Option Nat} {x1 : Option Nat} {x2 : Int32} (ok : O_X8_init_0 N x0 x1 x2 S) (hx : X (F_X8_init_0 N x0 x1 x2 S)) : cX G o dX8_init mX8_init 0 [some (va_rf x0), some (va_rf x1), some (.int x2)] [] S Q := by
  unfold O_X8_init_0 at ok
  unfold F_X8_init_0 at hx
  refine c_aload_nQ dX8_init_0 rfl rfl ?_
  refine c_objInit dX8_init_1 qX8_3 objI objC (by decide) (Nat.le_of_ble_eq_true rfl) ok.1 ?_
  have ok := ok.2
  refine c_aload_nQ dX8_init_4 rfl rfl ?_
  refine c_bipush (v := nI 32) dX8_init_5 (by decide) ?_
  refine c_anew4 clX8_9 dX8_init_7 ok.1.1 ok.1.2 ?_
  have ok := ok.2
  refine c_putRF (C := RX8) (T := TX8) (N := 14) (ci := 6) (k := 2) ⟨rfl, inT8, by decide, fX8_11⟩ ftT8 rfl rfl rfl (by decide) (by decide) (by decide) (fun v => by cases v <;> rfl) (fun v => by cases v <;> rfl) dX8_init_10 ok.1 ?_
  have ok := ok.2
  exact cX.cutz (b_X8_init_13 hG hR ok hx) ⟨rfl, rfl, rfl, trivial⟩
def f_X8_init (N : Nat) (S : cS) (a0 : Nat) (x1 : Option Nat) (x2 : Int32) : cS := F_X8_init_0 N (some a0) x1 x2 S
def o_X8_init (N : Nat) (S : cS) (a0 : Nat) (x1 : Option Nat) (x2 : Int32) : Prop := O_X8_init_0 N (some a0) x1 x2 S
set_option maxRecDepth 100000 in
set_option maxHeartbeats 4000000 in
theorem cc_X8_init {G : zG} {o : cO} {S : cS} {N : Nat} (hG : zOK G) {a0 : Nat} {x1 : Option Nat} {x2 : Int32} (ok : o_X8_init N S a0 x1 x2) : cCv G o dX8_init mX8_init [.ref a0, va_rf x1, .int x2] S (fun S' => S' = f_X8_init N S a0 x1 x2) := by
  refine cC.ofX rfl (by cases x1 <;> exact Nat.le_of_ble_eq_true rfl) ?_
  rw [show zargs mX8_init.2.2.1 [.ref a0, va_rf x1, .int x2] = [some (.ref a0), some (va_rf x1), some (.int x2)] from by cases x1 <;> rfl]
  exact cX.cutz (b_X8_init_0 (X := fun F => F = f_X8_init N S a0 x1 x2) hG (fun S' h => ⟨rfl, h⟩) ok rfl) ⟨rfl, rfl, rfl, trivial⟩
/-! X6_init -/
def F_X6_init_100 (N : Nat) (s0 : Option Nat) (s1 : Option Nat) (S : cS) : cS := (csR S 3 (za s0) s1)
def O_X6_init_100 (N : Nat) (s0 : Option Nat) (s1 : Option Nat) (S : cS) : Prop := (cis S s0 6) ∧ True
set_option maxRecDepth 100000 in
set_option maxHeartbeats 4000000 in
theorem b_X6_init_100 {G : zG} {o : cO} {S : cS} {N : Nat} {Q : Option Value → cS → Prop} {X : cS → Prop} (hG : zOK G) (hR : ∀ S', X S' → Q none S') {s0 : Option Nat} {s1 : Option Nat} (ok : O_X6_init_100 N s0 s1 S) (hx : X (F_X6_init_100 N s0 s1 S)) : cX G o dX6_init mX6_init 100 [none, none, none] [va_rf s1, va_rf s0] S Q := by
  unfold O_X6_init_100 at ok
  unfold F_X6_init_100 at hx
  refine c_putRF (C := RX6) (T := TX6) (N := 19) (ci := 5) (k := 3) ⟨rfl, inT6, by decide, fX6_77⟩ ftT6 rfl rfl rfl (by decide) (by decide) (by decide) (fun v => by cases v <;> rfl) (fun v => by cases v <;> rfl) dX6_init_100 ok.1 ?_
  have ok := ok.2
  exact c_return rfl dX6_init_103 (hR _ hx)
def F_X6_init_84 (N : Nat) (x0 : Option Nat) (x1 : Option Nat) (S : cS) : cS := (F_X6_init_100 N x0 (some (cn S)) (f_X8_init N (csNew S 7 14) (za (some (cn S))) (cR (csNew S 7 14) 6 (za x1)) (cI (csNew S 7 14) 1 (za x1))))
def O_X6_init_84 (N : Nat) (x0 : Option Nat) (x1 : Option Nat) (S : cS) : Prop := (cis (csNew S 7 14) x1 9) ∧ (cis (csNew S 7 14) x1 9) ∧ ((some (cn S)) = some (za (some (cn S))) ∧ o_X8_init N (csNew S 7 14) (za (some (cn S))) (cR (csNew S 7 14) 6 (za x1)) (cI (csNew S 7 14) 1 (za x1))) ∧ O_X6_init_100 N x0 (some (cn S)) (f_X8_init N (csNew S 7 14) (za (some (cn S))) (cR (csNew S 7 14) 6 (za x1)) (cI (csNew S 7 14) 1 (za x1)))
set_option maxRecDepth 100000 in
set_option maxHeartbeats 4000000 in
theorem b_X6_init_84 {G : zG} {o : cO} {S : cS} {N : Nat} {Q : Option Value → cS → Prop} {X : cS → Prop} (hG : zOK G) (hR : ∀ S', X S' → Q none S') {x0 : Option Nat} {x1 : Option Nat} (ok : O_X6_init_84 N x0 x1 S) (hx : X (F_X6_init_84 N x0 x1 S)) : cX G o dX6_init mX6_init 84 [some (va_rf x0), some (va_rf x1), none] [] S Q := by
  unfold O_X6_init_84 at ok
  unfold F_X6_init_84 at hx
  refine c_aload_nQ dX6_init_84 rfl rfl ?_
  refine c_new6 clX6_63 dX6_init_85 ?_
  refine c_dup dX6_init_88 (zcat_rf _) ?_
  refine c_aload_nQ dX6_init_89 rfl rfl ?_
  refine c_getR (C := RX10) (T := TX10) (N := 12) (ci := 8) (k := 6) ⟨rfl, inT10, by decide, fX6_65⟩ (by decide) (by decide) (by decide) dX6_init_90 ok.1 ?_
  have ok := ok.2
  refine c_aload_nQ dX6_init_93 rfl rfl ?_
  refine c_getI (C := RX10) (T := TX10) (N := 12) (ci := 8) (k := 1) ⟨rfl, inT10, by decide, fX6_71⟩ (by decide) (by decide) (by decide) dX6_init_94 ok.1 ?_
  have ok := ok.2
  refine c_I2vE (y' := mX8_init) dX6_init_97 lX6_74 kX8_init ⟨by decide, by decide⟩ ⟨rfl, rfl⟩ ok.1.1 (by simp only [List.map_cons, List.map_nil, List.sum_cons, List.sum_nil, zcat_rf, zcat_i, zcat_l, zcat_r] <;> decide) (cc_X8_init hG ok.1.2) ?_
  have ok := ok.2
  exact cX.cutz (b_X6_init_100 hG hR ok hx) trivial
def F_X6_init_74 (N : Nat) (x0 : Option Nat) (x1 : Option Nat) (x2 : Int32) (S : cS) : cS := (F_X6_init_84 N x0 x1 (csI (csR S 0 (za x0) x1) 1 (za x0) x2))
def O_X6_init_74 (N : Nat) (x0 : Option Nat) (x1 : Option Nat) (x2 : Int32) (S : cS) : Prop := (cis S x0 6) ∧ (cis (csR S 0 (za x0) x1) x0 6) ∧ O_X6_init_84 N x0 x1 (csI (csR S 0 (za x0) x1) 1 (za x0) x2)
set_option maxRecDepth 100000 in
set_option maxHeartbeats 4000000 in
theorem b_X6_init_74 {G : zG} {o : cO} {S : cS} {N : Nat} {Q : Option Value → cS → Prop} {X : cS → Prop} (hG : zOK G) (hR : ∀ S', X S' → Q none S') {x0 : Option Nat} {x1 : Option Nat} {x2 : Int32} (ok : O_X6_init_74 N x0 x1 x2 S) (hx : X (F_X6_init_74 N x0 x1 x2 S)) : cX G o dX6_init mX6_init 74 [some (va_rf x0), some (va_rf x1), some (.int x2)] [] S Q := by
  unfold O_X6_init_74 at ok
  unfold F_X6_init_74 at hx
  refine c_aload_nQ dX6_init_74 rfl rfl ?_
  refine c_aload_nQ dX6_init_75 rfl rfl ?_
  refine c_putRF (C := RX6) (T := TX6) (N := 19) (ci := 5) (k := 0) ⟨rfl, inT6, by decide, fX6_56⟩ ftT6 rfl rfl rfl (by decide) (by decide) (by decide) (fun v => by cases v <;> rfl) (fun v => by cases v <;> rfl) dX6_init_76 ok.1 ?_
  have ok := ok.2
  refine c_aload_nQ dX6_init_79 rfl rfl ?_
  refine c_iload_n dX6_init_80 rfl rfl ?_
  refine c_putIF (C := RX6) (T := TX6) (N := 19) (ci := 5) (k := 1) ⟨rfl, inT6, by decide, fX6_60⟩ ftT6 rfl rfl rfl (by decide) (by decide) (by decide) rfl rfl dX6_init_81 ok.1 ?_
  have ok := ok.2
  exact cX.cutz (b_X6_init_84 hG hR ok hx) ⟨rfl, rfl, trivial⟩
def F_X6_init_64 (N : Nat) (x0 : Option Nat) (x1 : Option Nat) (x2 : Int32) (S : cS) : cS := (F_X6_init_74 N x0 x1 x2 (csI (csI S 13 (za x0) (-1)) 18 (za x0) (-1)))
def O_X6_init_64 (N : Nat) (x0 : Option Nat) (x1 : Option Nat) (x2 : Int32) (S : cS) : Prop := (cis S x0 6) ∧ (cis (csI S 13 (za x0) (-1)) x0 6) ∧ O_X6_init_74 N x0 x1 x2 (csI (csI S 13 (za x0) (-1)) 18 (za x0) (-1))
set_option maxRecDepth 100000 in
set_option maxHeartbeats 4000000 in
theorem b_X6_init_64 {G : zG} {o : cO} {S : cS} {N : Nat} {Q : Option Value → cS → Prop} {X : cS → Prop} (hG : zOK G) (hR : ∀ S', X S' → Q none S') {x0 : Option Nat} {x1 : Option Nat} {x2 : Int32} (ok : O_X6_init_64 N x0 x1 x2 S) (hx : X (F_X6_init_64 N x0 x1 x2 S)) : cX G o dX6_init mX6_init 64 [some (va_rf x0), some (va_rf x1), some (.int x2)] [] S Q := by
  unfold O_X6_init_64 at ok
  unfold F_X6_init_64 at hx
  refine c_aload_nQ dX6_init_64 rfl rfl ?_
  refine c_iconst (v := -1) dX6_init_65 (by decide) ?_
  refine c_putI (C := RX6) (T := TX6) (N := 19) (ci := 5) (k := 13) ⟨rfl, inT6, by decide, fX6_50⟩ ftT6 rfl (by decide) (by decide) (by decide) rfl rfl dX6_init_66 ok.1 ?_
  have ok := ok.2
  refine c_aload_nQ dX6_init_69 rfl rfl ?_
  refine c_iconst (v := -1) dX6_init_70 (by decide) ?_
  refine c_putI (C := RX6) (T := TX6) (N := 19) (ci := 5) (k := 18) ⟨rfl, inT6, by decide, fX6_53⟩ ftT6 rfl (by decide) (by decide) (by decide) rfl rfl dX6_init_71 ok.1 ?_
  have ok := ok.2
  exact cX.cutz (b_X6_init_74 hG hR ok hx) ⟨rfl, rfl, rfl, trivial⟩
def F_X6_init_54 (N : Nat) (x0 : Option Nat) (x1 : Option Nat) (x2 : Int32) (S : cS) : cS := (F_X6_init_64 N x0 x1 x2 (csI (csI S 9 (za x0) (nI 1)) 12 (za x0) (-1)))
def O_X6_init_54 (N : Nat) (x0 : Option Nat) (x1 : Option Nat) (x2 : Int32) (S : cS) : Prop := (cis S x0 6) ∧ (cis (csI S 9 (za x0) (nI 1)) x0 6) ∧ O_X6_init_64 N x0 x1 x2 (csI (csI S 9 (za x0) (nI 1)) 12 (za x0) (-1))
set_option maxRecDepth 100000 in
set_option maxHeartbeats 4000000 in
theorem b_X6_init_54 {G : zG} {o : cO} {S : cS} {N : Nat} {Q : Option Value → cS → Prop} {X : cS → Prop} (hG : zOK G) (hR : ∀ S', X S' → Q none S') {x0 : Option Nat} {x1 : Option Nat} {x2 : Int32} (ok : O_X6_init_54 N x0 x1 x2 S) (hx : X (F_X6_init_54 N x0 x1 x2 S)) : cX G o dX6_init mX6_init 54 [some (va_rf x0), some (va_rf x1), some (.int x2)] [] S Q := by
  unfold O_X6_init_54 at ok
  unfold F_X6_init_54 at hx
  refine c_aload_nQ dX6_init_54 rfl rfl ?_
  refine c_iconst (v := nI 1) dX6_init_55 (by decide) ?_
  refine c_putI (C := RX6) (T := TX6) (N := 19) (ci := 5) (k := 9) ⟨rfl, inT6, by decide, fX6_43⟩ ftT6 rfl (by decide) (by decide) (by decide) rfl rfl dX6_init_56 ok.1 ?_
  have ok := ok.2
  refine c_aload_nQ dX6_init_59 rfl rfl ?_
  refine c_iconst (v := -1) dX6_init_60 (by decide) ?_
  refine c_putI (C := RX6) (T := TX6) (N := 19) (ci := 5) (k := 12) ⟨rfl, inT6, by decide, fX6_47⟩ ftT6 rfl (by decide) (by decide) (by decide) rfl rfl dX6_init_61 ok.1 ?_
  have ok := ok.2
  exact cX.cutz (b_X6_init_64 hG hR ok hx) ⟨rfl, rfl, rfl, trivial⟩
def F_X6_init_46 (N : Nat) (x0 : Option Nat) (x1 : Option Nat) (x2 : Int32) (s0 : Option Nat) (s1 : Option Nat) (S : cS) : cS := (F_X6_init_54 N x0 x1 x2 (csI (csR S 7 (za s0) s1) 8 (za x0) (nI 1)))
def O_X6_init_46 (N : Nat) (x0 : Option Nat) (x1 : Option Nat) (x2 : Int32) (s0 : Option Nat) (s1 : Option Nat) (S : cS) : Prop := (cis S s0 6) ∧ (cis (csR S 7 (za s0) s1) x0 6) ∧ O_X6_init_54 N x0 x1 x2 (csI (csR S 7 (za s0) s1) 8 (za x0) (nI 1))
set_option maxRecDepth 100000 in
set_option maxHeartbeats 4000000 in
theorem b_X6_init_46 {G : zG} {o : cO} {S : cS} {N : Nat} {Q : Option Value → cS → Prop} {X : cS → Prop} (hG : zOK G) (hR : ∀ S', X S' → Q none S') {x0 : Option Nat} {x1 : Option Nat} {x2 : Int32} {s0 : Option Nat} {s1 : Option Nat} (ok : O_X6_init_46 N x0 x1 x2 s0 s1 S) (hx : X (F_X6_init_46 N x0 x1 x2 s0 s1 S)) : cX G o dX6_init mX6_init 46 [some (va_rf x0), some (va_rf x1), some (.int x2)] [va_rf s1, va_rf s0] S Q := by
  unfold O_X6_init_46 at ok
  unfold F_X6_init_46 at hx
  refine c_putRF (C := RX6) (T := TX6) (N := 19) (ci := 5) (k := 7) ⟨rfl, inT6, by decide, fX6_35⟩ ftT6 rfl rfl rfl (by decide) (by decide) (by decide) (fun v => by cases v <;> rfl) (fun v => by cases v <;> rfl) dX6_init_46 ok.1 ?_
  have ok := ok.2
  refine c_aload_nQ dX6_init_49 rfl rfl ?_
  refine c_iconst (v := nI 1) dX6_init_50 (by decide) ?_
  refine c_putI (C := RX6) (T := TX6) (N := 19) (ci := 5) (k := 8) ⟨rfl, inT6, by decide, fX6_39⟩ ftT6 rfl (by decide) (by decide) (by decide) rfl rfl dX6_init_51 ok.1 ?_
  have ok := ok.2
  exact cX.cutz (b_X6_init_54 hG hR ok hx) ⟨rfl, rfl, rfl, trivial⟩
def F_X6_init_38 (N : Nat) (x0 : Option Nat) (x1 : Option Nat) (x2 : Int32) (s0 : Option Nat) (s1 : Option Nat) (S : cS) : cS := (F_X6_init_46 N x0 x1 x2 x0 (some (cn (csR S 6 (za s0) s1))) (csNew (csR S 6 (za s0) s1) 24 (nI 4).toNatClampNeg))
def O_X6_init_38 (N : Nat) (x0 : Option Nat) (x1 : Option Nat) (x2 : Int32) (s0 : Option Nat) (s1 : Option Nat) (S : cS) : Prop := (cis S s0 6) ∧ (¬ (nI 4) < 0 ∧ (nI 4).toNatClampNeg ≤ 1000000) ∧ O_X6_init_46 N x0 x1 x2 x0 (some (cn (csR S 6 (za s0) s1))) (csNew (csR S 6 (za s0) s1) 24 (nI 4).toNatClampNeg)
set_option maxRecDepth 100000 in
set_option maxHeartbeats 4000000 in
theorem b_X6_init_38 {G : zG} {o : cO} {S : cS} {N : Nat} {Q : Option Value → cS → Prop} {X : cS → Prop} (hG : zOK G) (hR : ∀ S', X S' → Q none S') {x0 : Option Nat} {x1 : Option Nat} {x2 : Int32} {s0 : Option Nat} {s1 : Option Nat} (ok : O_X6_init_38 N x0 x1 x2 s0 s1 S) (hx : X (F_X6_init_38 N x0 x1 x2 s0 s1 S)) : cX G o dX6_init mX6_init 38 [some (va_rf x0), some (va_rf x1), some (.int x2)] [va_rf s1, va_rf s0] S Q := by
  unfold O_X6_init_38 at ok
  unfold F_X6_init_38 at hx
  refine c_putRF (C := RX6) (T := TX6) (N := 19) (ci := 5) (k := 6) ⟨rfl, inT6, by decide, fX6_29⟩ ftT6 rfl rfl rfl (by decide) (by decide) (by decide) (fun v => by cases v <;> rfl) (fun v => by cases v <;> rfl) dX6_init_38 ok.1 ?_
  have ok := ok.2
  refine c_aload_nQ dX6_init_41 rfl rfl ?_
  refine c_iconst (v := nI 4) dX6_init_42 (by decide) ?_
  refine c_anew4 clX6_33 dX6_init_43 ok.1.1 ok.1.2 ?_
  have ok := ok.2
  exact cX.cutz (b_X6_init_46 hG hR ok hx) ⟨rfl, rfl, rfl, trivial⟩
def F_X6_init_31 (N : Nat) (x0 : Option Nat) (x1 : Option Nat) (x2 : Int32) (s0 : Option Nat) (s1 : Option Nat) (S : cS) : cS := (F_X6_init_38 N x0 x1 x2 x0 (some (cn (csR S 5 (za s0) s1))) (csNew (csR S 5 (za s0) s1) 21 (nI 3).toNatClampNeg))
def O_X6_init_31 (N : Nat) (x0 : Option Nat) (x1 : Option Nat) (x2 : Int32) (s0 : Option Nat) (s1 : Option Nat) (S : cS) : Prop := (cis S s0 6) ∧ (¬ (nI 3) < 0 ∧ (nI 3).toNatClampNeg ≤ 1000000) ∧ O_X6_init_38 N x0 x1 x2 x0 (some (cn (csR S 5 (za s0) s1))) (csNew (csR S 5 (za s0) s1) 21 (nI 3).toNatClampNeg)
set_option maxRecDepth 100000 in
set_option maxHeartbeats 4000000 in
theorem b_X6_init_31 {G : zG} {o : cO} {S : cS} {N : Nat} {Q : Option Value → cS → Prop} {X : cS → Prop} (hG : zOK G) (hR : ∀ S', X S' → Q none S') {x0 : Option Nat} {x1 : Option Nat} {x2 : Int32} {s0 : Option Nat} {s1 : Option Nat} (ok : O_X6_init_31 N x0 x1 x2 s0 s1 S) (hx : X (F_X6_init_31 N x0 x1 x2 s0 s1 S)) : cX G o dX6_init mX6_init 31 [some (va_rf x0), some (va_rf x1), some (.int x2)] [va_rf s1, va_rf s0] S Q := by
  unfold O_X6_init_31 at ok
  unfold F_X6_init_31 at hx
  refine c_putRF (C := RX6) (T := TX6) (N := 19) (ci := 5) (k := 5) ⟨rfl, inT6, by decide, fX6_25⟩ ftT6 rfl rfl rfl (by decide) (by decide) (by decide) (fun v => by cases v <;> rfl) (fun v => by cases v <;> rfl) dX6_init_31 ok.1 ?_
  have ok := ok.2
  refine c_aload_nQ dX6_init_34 rfl rfl ?_
  refine c_iconst (v := nI 3) dX6_init_35 (by decide) ?_
  refine c_newa1 dX6_init_36 ok.1.1 ok.1.2 ?_
  have ok := ok.2
  exact cX.cutz (b_X6_init_38 hG hR ok hx) ⟨rfl, rfl, rfl, trivial⟩
def F_X6_init_23 (N : Nat) (x0 : Option Nat) (x1 : Option Nat) (x2 : Int32) (s0 : Option Nat) (s1 : Option Nat) (S : cS) : cS := (F_X6_init_31 N x0 x1 x2 x0 (some (cn (csR S 4 (za s0) s1))) (csNew (csR S 4 (za s0) s1) 20 (nI 32).toNatClampNeg))
def O_X6_init_23 (N : Nat) (x0 : Option Nat) (x1 : Option Nat) (x2 : Int32) (s0 : Option Nat) (s1 : Option Nat) (S : cS) : Prop := (cis S s0 6) ∧ (¬ (nI 32) < 0 ∧ (nI 32).toNatClampNeg ≤ 1000000) ∧ O_X6_init_31 N x0 x1 x2 x0 (some (cn (csR S 4 (za s0) s1))) (csNew (csR S 4 (za s0) s1) 20 (nI 32).toNatClampNeg)
set_option maxRecDepth 100000 in
set_option maxHeartbeats 4000000 in
theorem b_X6_init_23 {G : zG} {o : cO} {S : cS} {N : Nat} {Q : Option Value → cS → Prop} {X : cS → Prop} (hG : zOK G) (hR : ∀ S', X S' → Q none S') {x0 : Option Nat} {x1 : Option Nat} {x2 : Int32} {s0 : Option Nat} {s1 : Option Nat} (ok : O_X6_init_23 N x0 x1 x2 s0 s1 S) (hx : X (F_X6_init_23 N x0 x1 x2 s0 s1 S)) : cX G o dX6_init mX6_init 23 [some (va_rf x0), some (va_rf x1), some (.int x2)] [va_rf s1, va_rf s0] S Q := by
  unfold O_X6_init_23 at ok
  unfold F_X6_init_23 at hx
  refine c_putRF (C := RX6) (T := TX6) (N := 19) (ci := 5) (k := 4) ⟨rfl, inT6, by decide, fX6_21⟩ ftT6 rfl rfl rfl (by decide) (by decide) (by decide) (fun v => by cases v <;> rfl) (fun v => by cases v <;> rfl) dX6_init_23 ok.1 ?_
  have ok := ok.2
  refine c_aload_nQ dX6_init_26 rfl rfl ?_
  refine c_bipush (v := nI 32) dX6_init_27 (by decide) ?_
  refine c_newa0 dX6_init_29 ok.1.1 ok.1.2 ?_
  have ok := ok.2
  exact cX.cutz (b_X6_init_31 hG hR ok hx) ⟨rfl, rfl, rfl, trivial⟩
def F_X6_init_19 (N : Nat) (x0 : Option Nat) (x1 : Option Nat) (x2 : Int32) (s0 : Option Nat) (s1 : Option Nat) (S : cS) : cS := (F_X6_init_23 N x0 x1 x2 s0 s1 (f_X0_init N S (za s1)))
def O_X6_init_19 (N : Nat) (x0 : Option Nat) (x1 : Option Nat) (x2 : Int32) (s0 : Option Nat) (s1 : Option Nat) (S : cS) : Prop := (s1 = some (za s1) ∧ o_X0_init N S (za s1)) ∧ O_X6_init_23 N x0 x1 x2 s0 s1 (f_X0_init N S (za s1))
set_option maxRecDepth 100000 in
set_option maxHeartbeats 4000000 in
theorem b_X6_init_19 {G : zG} {o : cO} {S : cS} {N : Nat} {Q : Option Value → cS → Prop} {X : cS → Prop} (hG : zOK G) (hR : ∀ S', X S' → Q none S') {x0 : Option Nat} {x1 : Option Nat} {x2 : Int32} {s0 : Option Nat} {s1 : Option Nat} (ok : O_X6_init_19 N x0 x1 x2 s0 s1 S) (hx : X (F_X6_init_19 N x0 x1 x2 s0 s1 S)) : cX G o dX6_init mX6_init 19 [some (va_rf x0), some (va_rf x1), some (.int x2)] [va_rf s1, va_rf s0] S Q := by
  unfold O_X6_init_19 at ok
  unfold F_X6_init_19 at hx
  refine c_dup dX6_init_19 (zcat_rf _) ?_
  refine c_I0vE (y' := mX0_init) dX6_init_20 lX6_20 kX0_init ⟨by decide, by decide⟩ ⟨rfl, rfl⟩ ok.1.1 (by simp only [List.map_cons, List.map_nil, List.sum_cons, List.sum_nil, zcat_rf, zcat_i, zcat_l, zcat_r] <;> decide) (cc_X0_init hG ok.1.2) ?_
  have ok := ok.2
  exact cX.cutz (b_X6_init_23 hG hR ok hx) ⟨rfl, rfl, rfl, trivial⟩
def F_X6_init_12 (N : Nat) (x0 : Option Nat) (x1 : Option Nat) (x2 : Int32) (s0 : Option Nat) (s1 : Option Nat) (S : cS) : cS := (F_X6_init_19 N x0 x1 x2 x0 (some (cn (csR S 2 (za s0) s1))) (csNew (csR S 2 (za s0) s1) 1 6))
def O_X6_init_12 (N : Nat) (x0 : Option Nat) (x1 : Option Nat) (x2 : Int32) (s0 : Option Nat) (s1 : Option Nat) (S : cS) : Prop := (cis S s0 6) ∧ O_X6_init_19 N x0 x1 x2 x0 (some (cn (csR S 2 (za s0) s1))) (csNew (csR S 2 (za s0) s1) 1 6)
set_option maxRecDepth 100000 in
set_option maxHeartbeats 4000000 in
theorem b_X6_init_12 {G : zG} {o : cO} {S : cS} {N : Nat} {Q : Option Value → cS → Prop} {X : cS → Prop} (hG : zOK G) (hR : ∀ S', X S' → Q none S') {x0 : Option Nat} {x1 : Option Nat} {x2 : Int32} {s0 : Option Nat} {s1 : Option Nat} (ok : O_X6_init_12 N x0 x1 x2 s0 s1 S) (hx : X (F_X6_init_12 N x0 x1 x2 s0 s1 S)) : cX G o dX6_init mX6_init 12 [some (va_rf x0), some (va_rf x1), some (.int x2)] [va_rf s1, va_rf s0] S Q := by
  unfold O_X6_init_12 at ok
  unfold F_X6_init_12 at hx
  refine c_putRF (C := RX6) (T := TX6) (N := 19) (ci := 5) (k := 2) ⟨rfl, inT6, by decide, fX6_12⟩ ftT6 rfl rfl rfl (by decide) (by decide) (by decide) (fun v => by cases v <;> rfl) (fun v => by cases v <;> rfl) dX6_init_12 ok.1 ?_
  have ok := ok.2
  refine c_aload_nQ dX6_init_15 rfl rfl ?_
  refine c_new0 clX6_18 dX6_init_16 ?_
  exact cX.cutz (b_X6_init_19 hG hR ok hx) ⟨rfl, rfl, rfl, trivial⟩
def F_X6_init_0 (N : Nat) (x0 : Option Nat) (x1 : Option Nat) (x2 : Int32) (S : cS) : cS := (F_X6_init_12 N x0 x1 x2 x0 (some (cn S)) (f_X4_init N (csNew S 4 10) (za (some (cn S)))))
def O_X6_init_0 (N : Nat) (x0 : Option Nat) (x1 : Option Nat) (x2 : Int32) (S : cS) : Prop := (x0 = some (za x0)) ∧ ((some (cn S)) = some (za (some (cn S))) ∧ o_X4_init N (csNew S 4 10) (za (some (cn S)))) ∧ O_X6_init_12 N x0 x1 x2 x0 (some (cn S)) (f_X4_init N (csNew S 4 10) (za (some (cn S))))
set_option maxRecDepth 100000 in
set_option maxHeartbeats 4000000 in
theorem b_X6_init_0 {G : zG} {o : cO} {S : cS} {N : Nat} {Q : Option Value → cS → Prop} {X : cS → Prop} (hG : zOK G) (hR : ∀ S', X S' → Q none S') {x0 : Option Nat} {x1 : Option Nat} {x2 : Int32} (ok : O_X6_init_0 N x0 x1 x2 S) (hx : X (F_X6_init_0 N x0 x1 x2 S)) : cX G o dX6_init mX6_init 0 [some (va_rf x0), some (va_rf x1), some (.int x2)] [] S Q := by
  unfold O_X6_init_0 at ok
  unfold F_X6_init_0 at hx
  refine c_aload_nQ dX6_init_0 rfl rfl ?_
  refine c_objInit dX6_init_1 qX6_3 objI objC (by decide) (Nat.le_of_ble_eq_true rfl) ok.1 ?_
  have ok := ok.2
  refine c_aload_nQ dX6_init_4 rfl rfl ?_
  refine c_new3 clX6_9 dX6_init_5 ?_
  refine c_dup dX6_init_8 (zcat_rf _) ?_
  refine c_IN0vE (y' := mX4_init) dX6_init_9 lX6_11 kX4_init ⟨by decide, by decide⟩ ⟨rfl, rfl⟩ ok.1.1 (by simp only [List.map_cons, List.map_nil, List.sum_cons, List.sum_nil, zcat_rf, zcat_i, zcat_l, zcat_r] <;> decide) (cc_X4_init hG ok.1.2) ?_
  have ok := ok.2
  exact cX.cutz (b_X6_init_12 hG hR ok hx) ⟨rfl, rfl, rfl, trivial⟩
def f_X6_init (N : Nat) (S : cS) (a0 : Nat) (x1 : Option Nat) (x2 : Int32) : cS := F_X6_init_0 N (some a0) x1 x2 S
def o_X6_init (N : Nat) (S : cS) (a0 : Nat) (x1 : Option Nat) (x2 : Int32) : Prop := O_X6_init_0 N (some a0) x1 x2 S
set_option maxRecDepth 100000 in
set_option maxHeartbeats 4000000 in
theorem cc_X6_init {G : zG} {o : cO} {S : cS} {N : Nat} (hG : zOK G) {a0 : Nat} {x1 : Option Nat} {x2 : Int32} (ok : o_X6_init N S a0 x1 x2) : cCv G o dX6_init mX6_init [.ref a0, va_rf x1, .int x2] S (fun S' => S' = f_X6_init N S a0 x1 x2) := by
  refine cC.ofX rfl (by cases x1 <;> exact Nat.le_of_ble_eq_true rfl) ?_
  rw [show zargs mX6_init.2.2.1 [.ref a0, va_rf x1, .int x2] = [some (.ref a0), some (va_rf x1), some (.int x2)] from by cases x1 <;> rfl]
  exact cX.cutz (b_X6_init_0 (X := fun F => F = f_X6_init N S a0 x1 x2) hG (fun S' h => ⟨rfl, h⟩) ok rfl) ⟨rfl, rfl, rfl, trivial⟩
/-! X6_setTimer -/
def F_X6_setTimer_36 (N : Nat)  (S : cS) : cS := S
def O_X6_setTimer_36 (N : Nat)  (S : cS) : Prop := True
set_option maxRecDepth 100000 in
set_option maxHeartbeats 4000000 in
theorem b_X6_setTimer_36 {G : zG} {o : cO} {S : cS} {N : Nat} {Q : Option Value → cS → Prop} {X : cS → Prop} (hG : zOK G) (hR : ∀ S', X S' → Q none S') (ok : O_X6_setTimer_36 N S) (hx : X (F_X6_setTimer_36 N S)) : cX G o dX6_setTimer mX6_setTimer 36 [none, none] [] S Q := by
  unfold O_X6_setTimer_36 at ok
  unfold F_X6_setTimer_36 at hx
  exact c_return rfl dX6_setTimer_36 (hR _ hx)
def F_X6_setTimer_0 (N : Nat) (x0 : Option Nat) (x1 : Int32) (S : cS) : cS := (if x1 < 0 then (F_X6_setTimer_36 N S) else (if (nI (cL S (za (cR S 6 (za x0))))) ≤ x1 then (F_X6_setTimer_36 N S) else (F_X6_setTimer_36 N (csA S (za (cR S 6 (za x0))) x1.toNatClampNeg (((cI S 10 (za (cR S 6 (za (cR S 0 (za x0)))))) + (nI 4)) + (cI S 10 (za x0)))))))
def O_X6_setTimer_0 (N : Nat) (x0 : Option Nat) (x1 : Int32) (S : cS) : Prop := ((x1 < 0 → O_X6_setTimer_36 N S) ∧ (¬ x1 < 0 → (cis S x0 6) ∧ (cis S (cR S 6 (za x0)) 21) ∧ (((nI (cL S (za (cR S 6 (za x0))))) ≤ x1 → O_X6_setTimer_36 N S) ∧ (¬ (nI (cL S (za (cR S 6 (za x0))))) ≤ x1 → (cis S x0 6) ∧ (cis S x0 6) ∧ (cis S (cR S 0 (za x0)) 9) ∧ (cis S (cR S 6 (za (cR S 0 (za x0)))) 8) ∧ (cis S x0 6) ∧ (cis S (cR S 6 (za x0)) 21 ∧ vp_in x1 (cL S (za (cR S 6 (za x0))))) ∧ O_X6_setTimer_36 N (csA S (za (cR S 6 (za x0))) x1.toNatClampNeg (((cI S 10 (za (cR S 6 (za (cR S 0 (za x0)))))) + (nI 4)) + (cI S 10 (za x0))))))))
set_option maxRecDepth 100000 in
set_option maxHeartbeats 4000000 in
theorem b_X6_setTimer_0 {G : zG} {o : cO} {S : cS} {N : Nat} {Q : Option Value → cS → Prop} {X : cS → Prop} (hG : zOK G) (hR : ∀ S', X S' → Q none S') {x0 : Option Nat} {x1 : Int32} (ok : O_X6_setTimer_0 N x0 x1 S) (hx : X (F_X6_setTimer_0 N x0 x1 S)) : cX G o dX6_setTimer mX6_setTimer 0 [some (va_rf x0), some (.int x1)] [] S Q := by
  unfold O_X6_setTimer_0 at ok
  unfold F_X6_setTimer_0 at hx
  refine c_iload_n dX6_setTimer_0 rfl rfl ?_
  refine c_if_lt (tgt := 36) dX6_setTimer_1 (by decide) (fun c_1 => ?_) (fun c_1 => ?_)
  · have ok := ok.1 c_1
    have hx := xif_p c_1 hx
    exact cX.cutz (b_X6_setTimer_36 hG hR ok hx) trivial
  · have ok := ok.2 c_1
    have hx := xif_n c_1 hx
    refine c_iload_n dX6_setTimer_4 rfl rfl ?_
    refine c_aload_nQ dX6_setTimer_5 rfl rfl ?_
    refine c_getR (C := RX6) (T := TX6) (N := 19) (ci := 5) (k := 6) ⟨rfl, inT6, by decide, fX6_29⟩ (by decide) (by decide) (by decide) dX6_setTimer_6 ok.1 ?_
    have ok := ok.2
    refine c_alen (t := 1) (ty := .int) rfl dX6_setTimer_9 ok.1 ?_
    have ok := ok.2
    refine c_icmp_ge (tgt := 36) dX6_setTimer_10 (by decide) (fun c_10 => ?_) (fun c_10 => ?_)
    · have ok := ok.1 c_10
      have hx := xif_p c_10 hx
      exact cX.cutz (b_X6_setTimer_36 hG hR ok hx) trivial
    · have ok := ok.2 c_10
      have hx := xif_n c_10 hx
      refine c_aload_nQ dX6_setTimer_13 rfl rfl ?_
      refine c_getR (C := RX6) (T := TX6) (N := 19) (ci := 5) (k := 6) ⟨rfl, inT6, by decide, fX6_29⟩ (by decide) (by decide) (by decide) dX6_setTimer_14 ok.1 ?_
      have ok := ok.2
      refine c_iload_n dX6_setTimer_17 rfl rfl ?_
      refine c_aload_nQ dX6_setTimer_18 rfl rfl ?_
      refine c_getR (C := RX6) (T := TX6) (N := 19) (ci := 5) (k := 0) ⟨rfl, inT6, by decide, fX6_56⟩ (by decide) (by decide) (by decide) dX6_setTimer_19 ok.1 ?_
      have ok := ok.2
      refine c_getR (C := RX10) (T := TX10) (N := 12) (ci := 8) (k := 6) ⟨rfl, inT10, by decide, fX6_65⟩ (by decide) (by decide) (by decide) dX6_setTimer_22 ok.1 ?_
      have ok := ok.2
      refine c_getI (C := RX9) (T := TX9) (N := 13) (ci := 7) (k := 10) ⟨rfl, inT9, by decide, fX6_81⟩ (by decide) (by decide) (by decide) dX6_setTimer_25 ok.1 ?_
      have ok := ok.2
      refine c_iconst (v := nI 4) dX6_setTimer_28 (by decide) ?_
      refine c_iadd dX6_setTimer_29 ?_
      refine c_aload_nQ dX6_setTimer_30 rfl rfl ?_
      refine c_getI (C := RX6) (T := TX6) (N := 19) (ci := 5) (k := 10) ⟨rfl, inT6, by decide, fX6_86⟩ (by decide) (by decide) (by decide) dX6_setTimer_31 ok.1 ?_
      have ok := ok.2
      refine c_iadd dX6_setTimer_34 ?_
      refine c_iast hG dX6_setTimer_35 ok.1 ?_
      have ok := ok.2
      exact cX.cutz (b_X6_setTimer_36 hG hR ok hx) trivial
def f_X6_setTimer (N : Nat) (S : cS) (a0 : Nat) (x1 : Int32) : cS := F_X6_setTimer_0 N (some a0) x1 S
def o_X6_setTimer (N : Nat) (S : cS) (a0 : Nat) (x1 : Int32) : Prop := O_X6_setTimer_0 N (some a0) x1 S
set_option maxRecDepth 100000 in
set_option maxHeartbeats 4000000 in
theorem cc_X6_setTimer {G : zG} {o : cO} {S : cS} {N : Nat} (hG : zOK G) {a0 : Nat} {x1 : Int32} (ok : o_X6_setTimer N S a0 x1) : cCv G o dX6_setTimer mX6_setTimer [.ref a0, .int x1] S (fun S' => S' = f_X6_setTimer N S a0 x1) := by
  refine cC.ofX rfl (by exact Nat.le_of_ble_eq_true rfl) ?_
  show cX G o dX6_setTimer mX6_setTimer 0 [some (.ref a0), some (.int x1)] [] S _
  exact cX.cutz (b_X6_setTimer_0 (X := fun F => F = f_X6_setTimer N S a0 x1) hG (fun S' h => ⟨rfl, h⟩) ok rfl) ⟨rfl, rfl, trivial⟩
/-! X6_timersSet -/
def F_X6_timersSet_43 (N : Nat) (s0 : Int32) (s1 : Int32) (S : cS) : Int32 := (s0 + s1)
def O_X6_timersSet_43 (N : Nat) (s0 : Int32) (s1 : Int32) (S : cS) : Prop := True
set_option maxRecDepth 100000 in
set_option maxHeartbeats 4000000 in
theorem b_X6_timersSet_43 {G : zG} {o : cO} {S : cS} {N : Nat} {Q : Option Value → cS → Prop} {X : Int32 → Prop} (hG : zOK G) (hR : ∀ v, X v → Q (some (.int v)) S) {s0 : Int32} {s1 : Int32} (ok : O_X6_timersSet_43 N s0 s1 S) (hx : X (F_X6_timersSet_43 N s0 s1 S)) : cX G o dX6_timersSet mX6_timersSet 43 [none] [.int s1, .int s0] S Q := by
  unfold O_X6_timersSet_43 at ok
  unfold F_X6_timersSet_43 at hx
  refine c_iadd dX6_timersSet_43 ?_
  exact c_ireturn rfl rfl dX6_timersSet_44 (hR _ hx)
def F_X6_timersSet_28 (N : Nat) (x0 : Option Nat) (s0 : Int32) (s1 : Int32) (S : cS) : Int32 := (if (cA S (za (cR S 6 (za x0))) (nI 2).toNatClampNeg) ≤ 0 then (F_X6_timersSet_43 N (s0 + s1) (nI 0) S) else (F_X6_timersSet_43 N (s0 + s1) (nI 4) S))
def O_X6_timersSet_28 (N : Nat) (x0 : Option Nat) (s0 : Int32) (s1 : Int32) (S : cS) : Prop := (cis S x0 6) ∧ (cis S (cR S 6 (za x0)) 21 ∧ vp_in (nI 2) (cL S (za (cR S 6 (za x0))))) ∧ (((cA S (za (cR S 6 (za x0))) (nI 2).toNatClampNeg) ≤ 0 → O_X6_timersSet_43 N (s0 + s1) (nI 0) S) ∧ (¬ (cA S (za (cR S 6 (za x0))) (nI 2).toNatClampNeg) ≤ 0 → O_X6_timersSet_43 N (s0 + s1) (nI 4) S))
set_option maxRecDepth 100000 in
set_option maxHeartbeats 4000000 in
theorem b_X6_timersSet_28 {G : zG} {o : cO} {S : cS} {N : Nat} {Q : Option Value → cS → Prop} {X : Int32 → Prop} (hG : zOK G) (hR : ∀ v, X v → Q (some (.int v)) S) {x0 : Option Nat} {s0 : Int32} {s1 : Int32} (ok : O_X6_timersSet_28 N x0 s0 s1 S) (hx : X (F_X6_timersSet_28 N x0 s0 s1 S)) : cX G o dX6_timersSet mX6_timersSet 28 [some (va_rf x0)] [.int s1, .int s0] S Q := by
  unfold O_X6_timersSet_28 at ok
  unfold F_X6_timersSet_28 at hx
  refine c_iadd dX6_timersSet_28 ?_
  refine c_aload_nQ dX6_timersSet_29 rfl rfl ?_
  refine c_getR (C := RX6) (T := TX6) (N := 19) (ci := 5) (k := 6) ⟨rfl, inT6, by decide, fX6_29⟩ (by decide) (by decide) (by decide) dX6_timersSet_30 ok.1 ?_
  have ok := ok.2
  refine c_iconst (v := nI 2) dX6_timersSet_33 (by decide) ?_
  refine c_iald dX6_timersSet_34 ok.1 ?_
  have ok := ok.2
  refine c_if_le (tgt := 42) dX6_timersSet_35 (by decide) (fun c_35 => ?_) (fun c_35 => ?_)
  · have ok := ok.1 c_35
    have hx := xif_p c_35 hx
    refine c_iconst (v := nI 0) dX6_timersSet_42 (by decide) ?_
    exact cX.cutz (b_X6_timersSet_43 hG hR ok hx) trivial
  · have ok := ok.2 c_35
    have hx := xif_n c_35 hx
    refine c_iconst (v := nI 4) dX6_timersSet_38 (by decide) ?_
    refine c_goto (tgt := 43) dX6_timersSet_39 (by decide) ?_
    exact cX.cutz (b_X6_timersSet_43 hG hR ok hx) trivial
def F_X6_timersSet_14 (N : Nat) (x0 : Option Nat) (s0 : Int32) (S : cS) : Int32 := (if (cA S (za (cR S 6 (za x0))) (nI 1).toNatClampNeg) ≤ 0 then (F_X6_timersSet_28 N x0 s0 (nI 0) S) else (F_X6_timersSet_28 N x0 s0 (nI 2) S))
def O_X6_timersSet_14 (N : Nat) (x0 : Option Nat) (s0 : Int32) (S : cS) : Prop := (cis S x0 6) ∧ (cis S (cR S 6 (za x0)) 21 ∧ vp_in (nI 1) (cL S (za (cR S 6 (za x0))))) ∧ (((cA S (za (cR S 6 (za x0))) (nI 1).toNatClampNeg) ≤ 0 → O_X6_timersSet_28 N x0 s0 (nI 0) S) ∧ (¬ (cA S (za (cR S 6 (za x0))) (nI 1).toNatClampNeg) ≤ 0 → O_X6_timersSet_28 N x0 s0 (nI 2) S))
set_option maxRecDepth 100000 in
set_option maxHeartbeats 4000000 in
theorem b_X6_timersSet_14 {G : zG} {o : cO} {S : cS} {N : Nat} {Q : Option Value → cS → Prop} {X : Int32 → Prop} (hG : zOK G) (hR : ∀ v, X v → Q (some (.int v)) S) {x0 : Option Nat} {s0 : Int32} (ok : O_X6_timersSet_14 N x0 s0 S) (hx : X (F_X6_timersSet_14 N x0 s0 S)) : cX G o dX6_timersSet mX6_timersSet 14 [some (va_rf x0)] [.int s0] S Q := by
  unfold O_X6_timersSet_14 at ok
  unfold F_X6_timersSet_14 at hx
  refine c_aload_nQ dX6_timersSet_14 rfl rfl ?_
  refine c_getR (C := RX6) (T := TX6) (N := 19) (ci := 5) (k := 6) ⟨rfl, inT6, by decide, fX6_29⟩ (by decide) (by decide) (by decide) dX6_timersSet_15 ok.1 ?_
  have ok := ok.2
  refine c_iconst (v := nI 1) dX6_timersSet_18 (by decide) ?_
  refine c_iald dX6_timersSet_19 ok.1 ?_
  have ok := ok.2
  refine c_if_le (tgt := 27) dX6_timersSet_20 (by decide) (fun c_20 => ?_) (fun c_20 => ?_)
  · have ok := ok.1 c_20
    have hx := xif_p c_20 hx
    refine c_iconst (v := nI 0) dX6_timersSet_27 (by decide) ?_
    exact cX.cutz (b_X6_timersSet_28 hG hR ok hx) ⟨rfl, trivial⟩
  · have ok := ok.2 c_20
    have hx := xif_n c_20 hx
    refine c_iconst (v := nI 2) dX6_timersSet_23 (by decide) ?_
    refine c_goto (tgt := 28) dX6_timersSet_24 (by decide) ?_
    exact cX.cutz (b_X6_timersSet_28 hG hR ok hx) ⟨rfl, trivial⟩
def F_X6_timersSet_0 (N : Nat) (x0 : Option Nat) (S : cS) : Int32 := (if (cA S (za (cR S 6 (za x0))) (nI 0).toNatClampNeg) ≤ 0 then (F_X6_timersSet_14 N x0 (nI 0) S) else (F_X6_timersSet_14 N x0 (nI 1) S))
def O_X6_timersSet_0 (N : Nat) (x0 : Option Nat) (S : cS) : Prop := (cis S x0 6) ∧ (cis S (cR S 6 (za x0)) 21 ∧ vp_in (nI 0) (cL S (za (cR S 6 (za x0))))) ∧ (((cA S (za (cR S 6 (za x0))) (nI 0).toNatClampNeg) ≤ 0 → O_X6_timersSet_14 N x0 (nI 0) S) ∧ (¬ (cA S (za (cR S 6 (za x0))) (nI 0).toNatClampNeg) ≤ 0 → O_X6_timersSet_14 N x0 (nI 1) S))
set_option maxRecDepth 100000 in
set_option maxHeartbeats 4000000 in
theorem b_X6_timersSet_0 {G : zG} {o : cO} {S : cS} {N : Nat} {Q : Option Value → cS → Prop} {X : Int32 → Prop} (hG : zOK G) (hR : ∀ v, X v → Q (some (.int v)) S) {x0 : Option Nat} (ok : O_X6_timersSet_0 N x0 S) (hx : X (F_X6_timersSet_0 N x0 S)) : cX G o dX6_timersSet mX6_timersSet 0 [some (va_rf x0)] [] S Q := by
  unfold O_X6_timersSet_0 at ok
  unfold F_X6_timersSet_0 at hx
  refine c_aload_nQ dX6_timersSet_0 rfl rfl ?_
  refine c_getR (C := RX6) (T := TX6) (N := 19) (ci := 5) (k := 6) ⟨rfl, inT6, by decide, fX6_29⟩ (by decide) (by decide) (by decide) dX6_timersSet_1 ok.1 ?_
  have ok := ok.2
  refine c_iconst (v := nI 0) dX6_timersSet_4 (by decide) ?_
  refine c_iald dX6_timersSet_5 ok.1 ?_
  have ok := ok.2
  refine c_if_le (tgt := 13) dX6_timersSet_6 (by decide) (fun c_6 => ?_) (fun c_6 => ?_)
  · have ok := ok.1 c_6
    have hx := xif_p c_6 hx
    refine c_iconst (v := nI 0) dX6_timersSet_13 (by decide) ?_
    exact cX.cutz (b_X6_timersSet_14 hG hR ok hx) ⟨rfl, trivial⟩
  · have ok := ok.2 c_6
    have hx := xif_n c_6 hx
    refine c_iconst (v := nI 1) dX6_timersSet_9 (by decide) ?_
    refine c_goto (tgt := 14) dX6_timersSet_10 (by decide) ?_
    exact cX.cutz (b_X6_timersSet_14 hG hR ok hx) ⟨rfl, trivial⟩
def f_X6_timersSet (N : Nat) (S : cS) (a0 : Nat) : Int32 := F_X6_timersSet_0 N (some a0) S
def o_X6_timersSet (N : Nat) (S : cS) (a0 : Nat) : Prop := O_X6_timersSet_0 N (some a0) S
set_option maxRecDepth 100000 in
set_option maxHeartbeats 4000000 in
theorem cc_X6_timersSet {G : zG} {o : cO} {S : cS} {N : Nat} (hG : zOK G) {a0 : Nat} (ok : o_X6_timersSet N S a0) : cCi G o dX6_timersSet mX6_timersSet [.ref a0] S (fun v S' => v = f_X6_timersSet N S a0 ∧ S' = S) := by
  refine cC.ofX rfl (by exact Nat.le_of_ble_eq_true rfl) ?_
  show cX G o dX6_timersSet mX6_timersSet 0 [some (.ref a0)] [] S _
  exact cX.cutz (b_X6_timersSet_0 (X := fun F => F = f_X6_timersSet N S a0) hG (fun v h => ⟨v, rfl, h, rfl⟩) ok rfl) ⟨rfl, trivial⟩
/-! X8_clear -/
def F_X8_clear_231 (N : Nat) (x0 : Option Nat) (x3 : Int32) (x4 : Int32) (S : cS) : cS := (csA S (za (cR S 5 (za x0))) x3.toNatClampNeg x4)
def O_X8_clear_231 (N : Nat) (x0 : Option Nat) (x3 : Int32) (x4 : Int32) (S : cS) : Prop := (cis S x0 7) ∧ (cis S (cR S 5 (za x0)) 21 ∧ vp_in x3 (cL S (za (cR S 5 (za x0))))) ∧ True
set_option maxRecDepth 100000 in
set_option maxHeartbeats 4000000 in
theorem b_X8_clear_231 {G : zG} {o : cO} {S : cS} {N : Nat} {Q : Option Value → cS → Prop} {X : cS → Prop} (hG : zOK G) (hR : ∀ S', X S' → Q none S') {x0 : Option Nat} {x3 : Int32} {x4 : Int32} (ok : O_X8_clear_231 N x0 x3 x4 S) (hx : X (F_X8_clear_231 N x0 x3 x4 S)) : cX G o dX8_clear mX8_clear 231 [some (va_rf x0), none, none, some (.int x3), some (.int x4), none, none, none, none, none] [] S Q := by
  unfold O_X8_clear_231 at ok
  unfold F_X8_clear_231 at hx
  refine c_aload_nQ dX8_clear_231 rfl rfl ?_
  refine c_getR (C := RX8) (T := TX8) (N := 14) (ci := 6) (k := 5) ⟨rfl, inT8, by decide, fX8_21⟩ (by decide) (by decide) (by decide) dX8_clear_232 ok.1 ?_
  have ok := ok.2
  refine c_iload_n dX8_clear_235 rfl rfl ?_
  refine c_iload dX8_clear_236 rfl ?_
  refine c_iast hG dX8_clear_238 ok.1 ?_
  have ok := ok.2
  exact c_return rfl dX8_clear_239 (hR _ hx)
def F_X8_clear_223 (N : Nat) (rec : Option Nat → Int32 → Int32 → Int32 → Int32 → cS → Nat × Option Nat × Int32 × Int32 × cS) (x0 : Option Nat) (x2 : Int32) (x3 : Int32) (x5 : Int32) (s0 : Int32) (S : cS) : Nat × Option Nat × Int32 × Int32 × cS := (rec x0 x2 x3 s0 (x5 + nI 1) S)
def O_X8_clear_223 (N : Nat) (rok : Option Nat → Int32 → Int32 → Int32 → Int32 → cS → Prop) (x0 : Option Nat) (x2 : Int32) (x3 : Int32) (x5 : Int32) (s0 : Int32) (S : cS) : Prop := rok x0 x2 x3 s0 (x5 + nI 1) S
set_option maxRecDepth 100000 in
set_option maxHeartbeats 4000000 in
theorem b_X8_clear_223 {G : zG} {o : cO} {S : cS} {N : Nat} {Q : Option Value → cS → Prop} {X : Nat × Option Nat × Int32 × Int32 × cS → Prop} (hG : zOK G) (hX0 : ∀ (x0 : Option Nat) (x3 : Int32) (x4 : Int32) (S' : cS), X (0, x0, x3, x4, S') → cX G o dX8_clear mX8_clear 231 [some (va_rf x0), none, none, some (.int x3), some (.int x4), none, none, none, none, none] [] S' Q) {rec : Option Nat → Int32 → Int32 → Int32 → Int32 → cS → Nat × Option Nat × Int32 × Int32 × cS} {rok : Option Nat → Int32 → Int32 → Int32 → Int32 → cS → Prop} (hrec : ∀ (x0 : Option Nat) (x2 : Int32) (x3 : Int32) (x4 : Int32) (x5 : Int32) (S : cS), rok x0 x2 x3 x4 x5 S → X (rec x0 x2 x3 x4 x5 S) → cX G o dX8_clear mX8_clear 10 [some (va_rf x0), none, some (.int x2), some (.int x3), some (.int x4), some (.int x5), none, none, none, none] [] S Q) {x0 : Option Nat} {x2 : Int32} {x3 : Int32} {x5 : Int32} {s0 : Int32} (ok : O_X8_clear_223 N rok x0 x2 x3 x5 s0 S) (hx : X (F_X8_clear_223 N rec x0 x2 x3 x5 s0 S)) : cX G o dX8_clear mX8_clear 223 [some (va_rf x0), none, some (.int x2), some (.int x3), none, some (.int x5), none, none, none, none] [.int s0] S Q := by
  unfold O_X8_clear_223 at ok
  unfold F_X8_clear_223 at hx
  refine c_istore_4 dX8_clear_223 (by decide) rfl ?_
  refine c_iinc_5 (v := (x5 + nI 1)) dX8_clear_225 rfl (by first | rfl | (congr 1)) (by decide) rfl ?_
  refine c_goto (tgt := 10) dX8_clear_228 (by decide) ?_
  exact cX.cutz (hrec _ _ _ _ _ S ok hx) ⟨rfl, rfl, rfl, rfl, rfl, trivial⟩
def F_X8_clear_209 (N : Nat) (rec : Option Nat → Int32 → Int32 → Int32 → Int32 → cS → Nat × Option Nat × Int32 × Int32 × cS) (x0 : Option Nat) (x2 : Int32) (x3 : Int32) (x4 : Int32) (x5 : Int32) (x7 : Int32) (S : cS) : Nat × Option Nat × Int32 × Int32 × cS := (if x7 = 0 then (F_X8_clear_223 N rec x0 x2 x3 x5 x4 S) else (F_X8_clear_223 N rec x0 x2 x3 x5 (x5 + (nI 1)) S))
def O_X8_clear_209 (N : Nat) (rok : Option Nat → Int32 → Int32 → Int32 → Int32 → cS → Prop) (x0 : Option Nat) (x2 : Int32) (x3 : Int32) (x4 : Int32) (x5 : Int32) (x7 : Int32) (S : cS) : Prop := ((x7 = 0 → O_X8_clear_223 N rok x0 x2 x3 x5 x4 S) ∧ (¬ x7 = 0 → O_X8_clear_223 N rok x0 x2 x3 x5 (x5 + (nI 1)) S))
set_option maxRecDepth 100000 in
set_option maxHeartbeats 4000000 in
theorem b_X8_clear_209 {G : zG} {o : cO} {S : cS} {N : Nat} {Q : Option Value → cS → Prop} {X : Nat × Option Nat × Int32 × Int32 × cS → Prop} (hG : zOK G) (hX0 : ∀ (x0 : Option Nat) (x3 : Int32) (x4 : Int32) (S' : cS), X (0, x0, x3, x4, S') → cX G o dX8_clear mX8_clear 231 [some (va_rf x0), none, none, some (.int x3), some (.int x4), none, none, none, none, none] [] S' Q) {rec : Option Nat → Int32 → Int32 → Int32 → Int32 → cS → Nat × Option Nat × Int32 × Int32 × cS} {rok : Option Nat → Int32 → Int32 → Int32 → Int32 → cS → Prop} (hrec : ∀ (x0 : Option Nat) (x2 : Int32) (x3 : Int32) (x4 : Int32) (x5 : Int32) (S : cS), rok x0 x2 x3 x4 x5 S → X (rec x0 x2 x3 x4 x5 S) → cX G o dX8_clear mX8_clear 10 [some (va_rf x0), none, some (.int x2), some (.int x3), some (.int x4), some (.int x5), none, none, none, none] [] S Q) {x0 : Option Nat} {x2 : Int32} {x3 : Int32} {x4 : Int32} {x5 : Int32} {x7 : Int32} (ok : O_X8_clear_209 N rok x0 x2 x3 x4 x5 x7 S) (hx : X (F_X8_clear_209 N rec x0 x2 x3 x4 x5 x7 S)) : cX G o dX8_clear mX8_clear 209 [some (va_rf x0), none, some (.int x2), some (.int x3), some (.int x4), some (.int x5), none, some (.int x7), none, none] [] S Q := by
  unfold O_X8_clear_209 at ok
  unfold F_X8_clear_209 at hx
  refine c_iload dX8_clear_209 rfl ?_
  refine c_if_eq (tgt := 221) dX8_clear_211 (by decide) (fun c_211 => ?_) (fun c_211 => ?_)
  · have ok := ok.1 c_211
    have hx := xif_p c_211 hx
    refine c_iload dX8_clear_221 rfl ?_
    exact cX.cutz (b_X8_clear_223 hG hX0 hrec ok hx) ⟨rfl, rfl, rfl, rfl, trivial⟩
  · have ok := ok.2 c_211
    have hx := xif_n c_211 hx
    refine c_iload dX8_clear_214 rfl ?_
    refine c_iconst (v := nI 1) dX8_clear_216 (by decide) ?_
    refine c_iadd dX8_clear_217 ?_
    refine c_goto (tgt := 223) dX8_clear_218 (by decide) ?_
    exact cX.cutz (b_X8_clear_223 hG hX0 hrec ok hx) ⟨rfl, rfl, rfl, rfl, trivial⟩
def F_X8_clear_201 (N : Nat) (rec : Option Nat → Int32 → Int32 → Int32 → Int32 → Int32 → Int32 → Int32 → cS → Nat × Option Nat × Int32 × Int32 × Int32 × Int32 × Int32 × cS) (x0 : Option Nat) (x2 : Int32) (x3 : Int32) (x4 : Int32) (x5 : Int32) (x8 : Int32) (x9 : Int32) (s0 : Int32) (S : cS) : Nat × Option Nat × Int32 × Int32 × Int32 × Int32 × Int32 × cS := (rec x0 x2 x3 x4 x5 s0 x8 (x9 + nI 1) S)
def O_X8_clear_201 (N : Nat) (rok : Option Nat → Int32 → Int32 → Int32 → Int32 → Int32 → Int32 → Int32 → cS → Prop) (x0 : Option Nat) (x2 : Int32) (x3 : Int32) (x4 : Int32) (x5 : Int32) (x8 : Int32) (x9 : Int32) (s0 : Int32) (S : cS) : Prop := rok x0 x2 x3 x4 x5 s0 x8 (x9 + nI 1) S
set_option maxRecDepth 100000 in
set_option maxHeartbeats 4000000 in
theorem b_X8_clear_201 {G : zG} {o : cO} {S : cS} {N : Nat} {Q : Option Value → cS → Prop} {X : Nat × Option Nat × Int32 × Int32 × Int32 × Int32 × Int32 × cS → Prop} (hG : zOK G) (hX0 : ∀ (x0 : Option Nat) (x2 : Int32) (x3 : Int32) (x4 : Int32) (x5 : Int32) (x7 : Int32) (S' : cS), X (0, x0, x2, x3, x4, x5, x7, S') → cX G o dX8_clear mX8_clear 209 [some (va_rf x0), none, some (.int x2), some (.int x3), some (.int x4), some (.int x5), none, some (.int x7), none, none] [] S' Q) {rec : Option Nat → Int32 → Int32 → Int32 → Int32 → Int32 → Int32 → Int32 → cS → Nat × Option Nat × Int32 × Int32 × Int32 × Int32 × Int32 × cS} {rok : Option Nat → Int32 → Int32 → Int32 → Int32 → Int32 → Int32 → Int32 → cS → Prop} (hrec : ∀ (x0 : Option Nat) (x2 : Int32) (x3 : Int32) (x4 : Int32) (x5 : Int32) (x7 : Int32) (x8 : Int32) (x9 : Int32) (S : cS), rok x0 x2 x3 x4 x5 x7 x8 x9 S → X (rec x0 x2 x3 x4 x5 x7 x8 x9 S) → cX G o dX8_clear mX8_clear 121 [some (va_rf x0), none, some (.int x2), some (.int x3), some (.int x4), some (.int x5), none, some (.int x7), some (.int x8), some (.int x9)] [] S Q) {x0 : Option Nat} {x2 : Int32} {x3 : Int32} {x4 : Int32} {x5 : Int32} {x8 : Int32} {x9 : Int32} {s0 : Int32} (ok : O_X8_clear_201 N rok x0 x2 x3 x4 x5 x8 x9 s0 S) (hx : X (F_X8_clear_201 N rec x0 x2 x3 x4 x5 x8 x9 s0 S)) : cX G o dX8_clear mX8_clear 201 [some (va_rf x0), none, some (.int x2), some (.int x3), some (.int x4), some (.int x5), none, none, some (.int x8), some (.int x9)] [.int s0] S Q := by
  unfold O_X8_clear_201 at ok
  unfold F_X8_clear_201 at hx
  refine c_istore_7 dX8_clear_201 (by decide) rfl ?_
  refine c_iinc_9 (v := (x9 + nI 1)) dX8_clear_203 rfl (by first | rfl | (congr 1)) (by decide) rfl ?_
  refine c_goto (tgt := 121) dX8_clear_206 (by decide) ?_
  exact cX.cutz (hrec _ _ _ _ _ _ _ _ S ok hx) ⟨rfl, rfl, rfl, rfl, rfl, rfl, rfl, rfl, trivial⟩
def F_X8_clear_196 (N : Nat) (rec : Option Nat → Int32 → Int32 → Int32 → Int32 → Int32 → Int32 → Int32 → cS → Nat × Option Nat × Int32 × Int32 × Int32 × Int32 × Int32 × cS) (x0 : Option Nat) (x2 : Int32) (x3 : Int32) (x4 : Int32) (x5 : Int32) (x8 : Int32) (x9 : Int32) (S : cS) : Nat × Option Nat × Int32 × Int32 × Int32 × Int32 × Int32 × cS := (F_X8_clear_201 N rec x0 x2 x3 x4 x5 x8 x9 (nI 1) S)
def O_X8_clear_196 (N : Nat) (rok : Option Nat → Int32 → Int32 → Int32 → Int32 → Int32 → Int32 → Int32 → cS → Prop) (x0 : Option Nat) (x2 : Int32) (x3 : Int32) (x4 : Int32) (x5 : Int32) (x8 : Int32) (x9 : Int32) (S : cS) : Prop := O_X8_clear_201 N rok x0 x2 x3 x4 x5 x8 x9 (nI 1) S
set_option maxRecDepth 100000 in
set_option maxHeartbeats 4000000 in
theorem b_X8_clear_196 {G : zG} {o : cO} {S : cS} {N : Nat} {Q : Option Value → cS → Prop} {X : Nat × Option Nat × Int32 × Int32 × Int32 × Int32 × Int32 × cS → Prop} (hG : zOK G) (hX0 : ∀ (x0 : Option Nat) (x2 : Int32) (x3 : Int32) (x4 : Int32) (x5 : Int32) (x7 : Int32) (S' : cS), X (0, x0, x2, x3, x4, x5, x7, S') → cX G o dX8_clear mX8_clear 209 [some (va_rf x0), none, some (.int x2), some (.int x3), some (.int x4), some (.int x5), none, some (.int x7), none, none] [] S' Q) {rec : Option Nat → Int32 → Int32 → Int32 → Int32 → Int32 → Int32 → Int32 → cS → Nat × Option Nat × Int32 × Int32 × Int32 × Int32 × Int32 × cS} {rok : Option Nat → Int32 → Int32 → Int32 → Int32 → Int32 → Int32 → Int32 → cS → Prop} (hrec : ∀ (x0 : Option Nat) (x2 : Int32) (x3 : Int32) (x4 : Int32) (x5 : Int32) (x7 : Int32) (x8 : Int32) (x9 : Int32) (S : cS), rok x0 x2 x3 x4 x5 x7 x8 x9 S → X (rec x0 x2 x3 x4 x5 x7 x8 x9 S) → cX G o dX8_clear mX8_clear 121 [some (va_rf x0), none, some (.int x2), some (.int x3), some (.int x4), some (.int x5), none, some (.int x7), some (.int x8), some (.int x9)] [] S Q) {x0 : Option Nat} {x2 : Int32} {x3 : Int32} {x4 : Int32} {x5 : Int32} {x8 : Int32} {x9 : Int32} (ok : O_X8_clear_196 N rok x0 x2 x3 x4 x5 x8 x9 S) (hx : X (F_X8_clear_196 N rec x0 x2 x3 x4 x5 x8 x9 S)) : cX G o dX8_clear mX8_clear 196 [some (va_rf x0), none, some (.int x2), some (.int x3), some (.int x4), some (.int x5), none, none, some (.int x8), some (.int x9)] [] S Q := by
  unfold O_X8_clear_196 at ok
  unfold F_X8_clear_196 at hx
  refine c_iconst (v := nI 1) dX8_clear_196 (by decide) ?_
  refine c_goto (tgt := 201) dX8_clear_197 (by decide) ?_
  exact cX.cutz (b_X8_clear_201 hG hX0 hrec ok hx) ⟨rfl, rfl, rfl, rfl, rfl, rfl, rfl, trivial⟩
def F_X8_clear_181 (N : Nat) (rec : Option Nat → Int32 → Int32 → Int32 → Int32 → Int32 → Int32 → Int32 → cS → Nat × Option Nat × Int32 × Int32 × Int32 × Int32 × Int32 × cS) (x0 : Option Nat) (x2 : Int32) (x3 : Int32) (x4 : Int32) (x5 : Int32) (x7 : Int32) (x8 : Int32) (x9 : Int32) (S : cS) : Nat × Option Nat × Int32 × Int32 × Int32 × Int32 × Int32 × cS := (if x7 = 0 then (if (cP S (za (cR S 4 (za x0))) x9.toNatClampNeg) = none then (F_X8_clear_201 N rec x0 x2 x3 x4 x5 x8 x9 (nI 0) S) else (F_X8_clear_196 N rec x0 x2 x3 x4 x5 x8 x9 S)) else (F_X8_clear_196 N rec x0 x2 x3 x4 x5 x8 x9 S))
def O_X8_clear_181 (N : Nat) (rok : Option Nat → Int32 → Int32 → Int32 → Int32 → Int32 → Int32 → Int32 → cS → Prop) (x0 : Option Nat) (x2 : Int32) (x3 : Int32) (x4 : Int32) (x5 : Int32) (x7 : Int32) (x8 : Int32) (x9 : Int32) (S : cS) : Prop := ((x7 = 0 → (cis S x0 7) ∧ (cis S (cR S 4 (za x0)) 24 ∧ vp_in x9 (cL S (za (cR S 4 (za x0))))) ∧ (((cP S (za (cR S 4 (za x0))) x9.toNatClampNeg) = none → O_X8_clear_201 N rok x0 x2 x3 x4 x5 x8 x9 (nI 0) S) ∧ (¬ (cP S (za (cR S 4 (za x0))) x9.toNatClampNeg) = none → O_X8_clear_196 N rok x0 x2 x3 x4 x5 x8 x9 S))) ∧ (¬ x7 = 0 → O_X8_clear_196 N rok x0 x2 x3 x4 x5 x8 x9 S))
set_option maxRecDepth 100000 in
set_option maxHeartbeats 4000000 in
theorem b_X8_clear_181 {G : zG} {o : cO} {S : cS} {N : Nat} {Q : Option Value → cS → Prop} {X : Nat × Option Nat × Int32 × Int32 × Int32 × Int32 × Int32 × cS → Prop} (hG : zOK G) (hX0 : ∀ (x0 : Option Nat) (x2 : Int32) (x3 : Int32) (x4 : Int32) (x5 : Int32) (x7 : Int32) (S' : cS), X (0, x0, x2, x3, x4, x5, x7, S') → cX G o dX8_clear mX8_clear 209 [some (va_rf x0), none, some (.int x2), some (.int x3), some (.int x4), some (.int x5), none, some (.int x7), none, none] [] S' Q) {rec : Option Nat → Int32 → Int32 → Int32 → Int32 → Int32 → Int32 → Int32 → cS → Nat × Option Nat × Int32 × Int32 × Int32 × Int32 × Int32 × cS} {rok : Option Nat → Int32 → Int32 → Int32 → Int32 → Int32 → Int32 → Int32 → cS → Prop} (hrec : ∀ (x0 : Option Nat) (x2 : Int32) (x3 : Int32) (x4 : Int32) (x5 : Int32) (x7 : Int32) (x8 : Int32) (x9 : Int32) (S : cS), rok x0 x2 x3 x4 x5 x7 x8 x9 S → X (rec x0 x2 x3 x4 x5 x7 x8 x9 S) → cX G o dX8_clear mX8_clear 121 [some (va_rf x0), none, some (.int x2), some (.int x3), some (.int x4), some (.int x5), none, some (.int x7), some (.int x8), some (.int x9)] [] S Q) {x0 : Option Nat} {x2 : Int32} {x3 : Int32} {x4 : Int32} {x5 : Int32} {x7 : Int32} {x8 : Int32} {x9 : Int32} (ok : O_X8_clear_181 N rok x0 x2 x3 x4 x5 x7 x8 x9 S) (hx : X (F_X8_clear_181 N rec x0 x2 x3 x4 x5 x7 x8 x9 S)) : cX G o dX8_clear mX8_clear 181 [some (va_rf x0), none, some (.int x2), some (.int x3), some (.int x4), some (.int x5), none, some (.int x7), some (.int x8), some (.int x9)] [] S Q := by
  unfold O_X8_clear_181 at ok
  unfold F_X8_clear_181 at hx
  refine c_iload dX8_clear_181 rfl ?_
  refine c_if_ne (tgt := 196) dX8_clear_183 (by decide) (fun c_183 => ?_) (fun c_183 => ?_)
  · have ok := ok.2 c_183
    have hx := xif_n c_183 hx
    exact cX.cutz (b_X8_clear_196 hG hX0 hrec ok hx) ⟨rfl, rfl, rfl, rfl, rfl, rfl, rfl, trivial⟩
  · have ok := ok.1 c_183
    have hx := xif_p c_183 hx
    refine c_aload_nQ dX8_clear_186 rfl rfl ?_
    refine c_getR (C := RX8) (T := TX8) (N := 14) (ci := 6) (k := 4) ⟨rfl, inT8, by decide, fX8_36⟩ (by decide) (by decide) (by decide) dX8_clear_187 ok.1 ?_
    have ok := ok.2
    refine c_iload dX8_clear_190 rfl ?_
    refine c_aald (t := 4) (ty := (.object "QuorumLedger$Message")) rfl rfl (by decide) dX8_clear_192 ok.1 ?_
    have ok := ok.2
    refine c_ifnullI (tgt := 200) dX8_clear_193 (by decide) (fun c_193 => ?_) (fun c_193 => ?_)
    · have ok := ok.1 c_193
      have hx := xif_p c_193 hx
      refine c_iconst (v := nI 0) dX8_clear_200 (by decide) ?_
      exact cX.cutz (b_X8_clear_201 hG hX0 hrec ok hx) ⟨rfl, rfl, rfl, rfl, rfl, rfl, rfl, trivial⟩
    · have ok := ok.2 c_193
      have hx := xif_n c_193 hx
      exact cX.cutz (b_X8_clear_196 hG hX0 hrec ok hx) ⟨rfl, rfl, rfl, rfl, rfl, rfl, rfl, trivial⟩
def F_X8_clear_173 (N : Nat) (rec : Option Nat → Int32 → Int32 → Int32 → Int32 → Int32 → Int32 → Int32 → cS → Nat × Option Nat × Int32 × Int32 × Int32 × Int32 × Int32 × cS) (x0 : Option Nat) (x2 : Int32) (x3 : Int32) (x4 : Int32) (x5 : Int32) (x7 : Int32) (x8 : Int32) (x9 : Int32) (S : cS) : Nat × Option Nat × Int32 × Int32 × Int32 × Int32 × Int32 × cS := (F_X8_clear_181 N rec x0 x2 x3 x4 x5 x7 x8 x9 (csP S (za (cR S 4 (za x0))) x9.toNatClampNeg (none : Option Nat)))
def O_X8_clear_173 (N : Nat) (rok : Option Nat → Int32 → Int32 → Int32 → Int32 → Int32 → Int32 → Int32 → cS → Prop) (x0 : Option Nat) (x2 : Int32) (x3 : Int32) (x4 : Int32) (x5 : Int32) (x7 : Int32) (x8 : Int32) (x9 : Int32) (S : cS) : Prop := (cis S x0 7) ∧ (cis S (cR S 4 (za x0)) 24 ∧ vp_in x9 (cL S (za (cR S 4 (za x0)))) ∧ ((none : Option Nat) = none ∨ cis S (none : Option Nat) 5)) ∧ O_X8_clear_181 N rok x0 x2 x3 x4 x5 x7 x8 x9 (csP S (za (cR S 4 (za x0))) x9.toNatClampNeg (none : Option Nat))
set_option maxRecDepth 100000 in
set_option maxHeartbeats 4000000 in
theorem b_X8_clear_173 {G : zG} {o : cO} {S : cS} {N : Nat} {Q : Option Value → cS → Prop} {X : Nat × Option Nat × Int32 × Int32 × Int32 × Int32 × Int32 × cS → Prop} (hG : zOK G) (hX0 : ∀ (x0 : Option Nat) (x2 : Int32) (x3 : Int32) (x4 : Int32) (x5 : Int32) (x7 : Int32) (S' : cS), X (0, x0, x2, x3, x4, x5, x7, S') → cX G o dX8_clear mX8_clear 209 [some (va_rf x0), none, some (.int x2), some (.int x3), some (.int x4), some (.int x5), none, some (.int x7), none, none] [] S' Q) {rec : Option Nat → Int32 → Int32 → Int32 → Int32 → Int32 → Int32 → Int32 → cS → Nat × Option Nat × Int32 × Int32 × Int32 × Int32 × Int32 × cS} {rok : Option Nat → Int32 → Int32 → Int32 → Int32 → Int32 → Int32 → Int32 → cS → Prop} (hrec : ∀ (x0 : Option Nat) (x2 : Int32) (x3 : Int32) (x4 : Int32) (x5 : Int32) (x7 : Int32) (x8 : Int32) (x9 : Int32) (S : cS), rok x0 x2 x3 x4 x5 x7 x8 x9 S → X (rec x0 x2 x3 x4 x5 x7 x8 x9 S) → cX G o dX8_clear mX8_clear 121 [some (va_rf x0), none, some (.int x2), some (.int x3), some (.int x4), some (.int x5), none, some (.int x7), some (.int x8), some (.int x9)] [] S Q) {x0 : Option Nat} {x2 : Int32} {x3 : Int32} {x4 : Int32} {x5 : Int32} {x7 : Int32} {x8 : Int32} {x9 : Int32} (ok : O_X8_clear_173 N rok x0 x2 x3 x4 x5 x7 x8 x9 S) (hx : X (F_X8_clear_173 N rec x0 x2 x3 x4 x5 x7 x8 x9 S)) : cX G o dX8_clear mX8_clear 173 [some (va_rf x0), none, some (.int x2), some (.int x3), some (.int x4), some (.int x5), none, some (.int x7), some (.int x8), some (.int x9)] [] S Q := by
  unfold O_X8_clear_173 at ok
  unfold F_X8_clear_173 at hx
  refine c_aload_nQ dX8_clear_173 rfl rfl ?_
  refine c_getR (C := RX8) (T := TX8) (N := 14) (ci := 6) (k := 4) ⟨rfl, inT8, by decide, fX8_36⟩ (by decide) (by decide) (by decide) dX8_clear_174 ok.1 ?_
  have ok := ok.2
  refine c_iload dX8_clear_177 rfl ?_
  refine c_null' dX8_clear_179 ?_
  refine c_aast (t := 4) (ci := 4) (rr := (RX5, TX5, 7)) rfl rfl (by decide) (by decide) dX8_clear_180 ok.1 ?_
  have ok := ok.2
  exact cX.cutz (b_X8_clear_181 hG hX0 hrec ok hx) ⟨rfl, rfl, rfl, rfl, rfl, rfl, rfl, rfl, trivial⟩
def B_X8_clear_121 (N : Nat) (rec : Option Nat → Int32 → Int32 → Int32 → Int32 → Int32 → Int32 → Int32 → cS → Nat × Option Nat × Int32 × Int32 × Int32 × Int32 × Int32 × cS) (x0 : Option Nat) (x2 : Int32) (x3 : Int32) (x4 : Int32) (x5 : Int32) (x7 : Int32) (x8 : Int32) (x9 : Int32) (S : cS) : Nat × Option Nat × Int32 × Int32 × Int32 × Int32 × Int32 × cS := (if (x8 + ((nI 2) * (cI S 1 (za x0)))) ≤ x9 then (0, x0, x2, x3, x4, x5, x7, S) else (if (cP S (za (cR S 4 (za x0))) x9.toNatClampNeg) = none then (F_X8_clear_181 N rec x0 x2 x3 x4 x5 x7 x8 x9 S) else (if (f_X5_signer N S (za (cP S (za (cR S 4 (za x0))) x9.toNatClampNeg))) = x2 then (F_X8_clear_181 N rec x0 x2 x3 x4 x5 x7 x8 x9 S) else (F_X8_clear_173 N rec x0 x2 x3 x4 x5 x7 x8 x9 (f_X9_drop N S (za (cR S 0 (za x0))) (cP S (za (cR S 4 (za x0))) x9.toNatClampNeg))))))
def OB_X8_clear_121 (N : Nat) (rok : Option Nat → Int32 → Int32 → Int32 → Int32 → Int32 → Int32 → Int32 → cS → Prop) (x0 : Option Nat) (x2 : Int32) (x3 : Int32) (x4 : Int32) (x5 : Int32) (x7 : Int32) (x8 : Int32) (x9 : Int32) (S : cS) : Prop := (cis S x0 7) ∧ (((x8 + ((nI 2) * (cI S 1 (za x0)))) ≤ x9 → True) ∧ (¬ (x8 + ((nI 2) * (cI S 1 (za x0)))) ≤ x9 → (cis S x0 7) ∧ (cis S (cR S 4 (za x0)) 24 ∧ vp_in x9 (cL S (za (cR S 4 (za x0))))) ∧ (((cP S (za (cR S 4 (za x0))) x9.toNatClampNeg) = none → O_X8_clear_181 N rok x0 x2 x3 x4 x5 x7 x8 x9 S) ∧ (¬ (cP S (za (cR S 4 (za x0))) x9.toNatClampNeg) = none → (cis S x0 7) ∧ (cis S (cR S 4 (za x0)) 24 ∧ vp_in x9 (cL S (za (cR S 4 (za x0))))) ∧ (cis S (cP S (za (cR S 4 (za x0))) x9.toNatClampNeg) 5 ∧ o_X5_signer N S (za (cP S (za (cR S 4 (za x0))) x9.toNatClampNeg))) ∧ (((f_X5_signer N S (za (cP S (za (cR S 4 (za x0))) x9.toNatClampNeg))) = x2 → O_X8_clear_181 N rok x0 x2 x3 x4 x5 x7 x8 x9 S) ∧ (¬ (f_X5_signer N S (za (cP S (za (cR S 4 (za x0))) x9.toNatClampNeg))) = x2 → (cis S x0 7) ∧ (cis S x0 7) ∧ (cis S (cR S 4 (za x0)) 24 ∧ vp_in x9 (cL S (za (cR S 4 (za x0))))) ∧ (cis S (cR S 0 (za x0)) 8 ∧ o_X9_drop N S (za (cR S 0 (za x0))) (cP S (za (cR S 4 (za x0))) x9.toNatClampNeg)) ∧ O_X8_clear_173 N rok x0 x2 x3 x4 x5 x7 x8 x9 (f_X9_drop N S (za (cR S 0 (za x0))) (cP S (za (cR S 4 (za x0))) x9.toNatClampNeg))))))))
set_option maxRecDepth 100000 in
set_option maxHeartbeats 4000000 in
theorem bb_X8_clear_121 {G : zG} {o : cO} {S : cS} {N : Nat} {Q : Option Value → cS → Prop} {X : Nat × Option Nat × Int32 × Int32 × Int32 × Int32 × Int32 × cS → Prop} (hG : zOK G) (hX0 : ∀ (x0 : Option Nat) (x2 : Int32) (x3 : Int32) (x4 : Int32) (x5 : Int32) (x7 : Int32) (S' : cS), X (0, x0, x2, x3, x4, x5, x7, S') → cX G o dX8_clear mX8_clear 209 [some (va_rf x0), none, some (.int x2), some (.int x3), some (.int x4), some (.int x5), none, some (.int x7), none, none] [] S' Q) {rec : Option Nat → Int32 → Int32 → Int32 → Int32 → Int32 → Int32 → Int32 → cS → Nat × Option Nat × Int32 × Int32 × Int32 × Int32 × Int32 × cS} {rok : Option Nat → Int32 → Int32 → Int32 → Int32 → Int32 → Int32 → Int32 → cS → Prop} (hrec : ∀ (x0 : Option Nat) (x2 : Int32) (x3 : Int32) (x4 : Int32) (x5 : Int32) (x7 : Int32) (x8 : Int32) (x9 : Int32) (S : cS), rok x0 x2 x3 x4 x5 x7 x8 x9 S → X (rec x0 x2 x3 x4 x5 x7 x8 x9 S) → cX G o dX8_clear mX8_clear 121 [some (va_rf x0), none, some (.int x2), some (.int x3), some (.int x4), some (.int x5), none, some (.int x7), some (.int x8), some (.int x9)] [] S Q) {x0 : Option Nat} {x2 : Int32} {x3 : Int32} {x4 : Int32} {x5 : Int32} {x7 : Int32} {x8 : Int32} {x9 : Int32} (ok : OB_X8_clear_121 N rok x0 x2 x3 x4 x5 x7 x8 x9 S) (hx : X (B_X8_clear_121 N rec x0 x2 x3 x4 x5 x7 x8 x9 S)) : cX G o dX8_clear mX8_clear 121 [some (va_rf x0), none, some (.int x2), some (.int x3), some (.int x4), some (.int x5), none, some (.int x7), some (.int x8), some (.int x9)] [] S Q := by
  unfold OB_X8_clear_121 at ok
  unfold B_X8_clear_121 at hx
  refine c_iload dX8_clear_121 rfl ?_
  refine c_iload dX8_clear_123 rfl ?_
  refine c_iconst (v := nI 2) dX8_clear_125 (by decide) ?_
  refine c_aload_nQ dX8_clear_126 rfl rfl ?_
  refine c_getI (C := RX8) (T := TX8) (N := 14) (ci := 6) (k := 1) ⟨rfl, inT8, by decide, fX8_32⟩ (by decide) (by decide) (by decide) dX8_clear_127 ok.1 ?_
  have ok := ok.2
  refine c_imul dX8_clear_130 ?_
  refine c_iadd dX8_clear_131 ?_
  refine c_icmp_ge (tgt := 209) dX8_clear_132 (by decide) (fun c_132 => ?_) (fun c_132 => ?_)
  · have ok := ok.1 c_132
    have hx := xif_p c_132 hx
    exact cX.cutz (hX0 _ _ _ _ _ _ S hx) ⟨rfl, rfl, rfl, rfl, rfl, rfl, trivial⟩
  · have ok := ok.2 c_132
    have hx := xif_n c_132 hx
    refine c_aload_nQ dX8_clear_135 rfl rfl ?_
    refine c_getR (C := RX8) (T := TX8) (N := 14) (ci := 6) (k := 4) ⟨rfl, inT8, by decide, fX8_36⟩ (by decide) (by decide) (by decide) dX8_clear_136 ok.1 ?_
    have ok := ok.2
    refine c_iload dX8_clear_139 rfl ?_
    refine c_aald (t := 4) (ty := (.object "QuorumLedger$Message")) rfl rfl (by decide) dX8_clear_141 ok.1 ?_
    have ok := ok.2
    refine c_ifnullI (tgt := 181) dX8_clear_142 (by decide) (fun c_142 => ?_) (fun c_142 => ?_)
    · have ok := ok.1 c_142
      have hx := xif_p c_142 hx
      exact cX.cutz (b_X8_clear_181 hG hX0 hrec ok hx) ⟨rfl, rfl, rfl, rfl, rfl, rfl, rfl, rfl, trivial⟩
    · have ok := ok.2 c_142
      have hx := xif_n c_142 hx
      refine c_aload_nQ dX8_clear_145 rfl rfl ?_
      refine c_getR (C := RX8) (T := TX8) (N := 14) (ci := 6) (k := 4) ⟨rfl, inT8, by decide, fX8_36⟩ (by decide) (by decide) (by decide) dX8_clear_146 ok.1 ?_
      have ok := ok.2
      refine c_iload dX8_clear_149 rfl ?_
      refine c_aald (t := 4) (ty := (.object "QuorumLedger$Message")) rfl rfl (by decide) dX8_clear_151 ok.1 ?_
      have ok := ok.2
      refine c_V0iE (ci := 4) (rr := (RX5, TX5, 7)) (y' := mX5_signer) dX8_clear_152 lX8_62 kX5_signer ⟨by decide, by decide⟩ rfl rfl (by decide) ok.1.1 (Nat.le_of_ble_eq_true rfl) (cc_X5_signer hG ok.1.2) ?_
      have ok := ok.2
      refine c_iload_n dX8_clear_155 rfl rfl ?_
      refine c_icmp_eq (tgt := 181) dX8_clear_156 (by decide) (fun c_156 => ?_) (fun c_156 => ?_)
      · have ok := ok.1 c_156
        have hx := xif_p c_156 hx
        exact cX.cutz (b_X8_clear_181 hG hX0 hrec ok hx) ⟨rfl, rfl, rfl, rfl, rfl, rfl, rfl, rfl, trivial⟩
      · have ok := ok.2 c_156
        have hx := xif_n c_156 hx
        refine c_aload_nQ dX8_clear_159 rfl rfl ?_
        refine c_getR (C := RX8) (T := TX8) (N := 14) (ci := 6) (k := 0) ⟨rfl, inT8, by decide, fX8_28⟩ (by decide) (by decide) (by decide) dX8_clear_160 ok.1 ?_
        have ok := ok.2
        refine c_aload_nQ dX8_clear_163 rfl rfl ?_
        refine c_getR (C := RX8) (T := TX8) (N := 14) (ci := 6) (k := 4) ⟨rfl, inT8, by decide, fX8_36⟩ (by decide) (by decide) (by decide) dX8_clear_164 ok.1 ?_
        have ok := ok.2
        refine c_iload dX8_clear_167 rfl ?_
        refine c_aald (t := 4) (ty := (.object "QuorumLedger$Message")) rfl rfl (by decide) dX8_clear_169 ok.1 ?_
        have ok := ok.2
        refine c_V1vE (ci := 7) (rr := (RX9, TX9, 13)) (y' := mX9_drop) dX8_clear_170 lX8_91 kX9_drop ⟨by decide, by decide⟩ rfl rfl (by decide) ok.1.1 (Nat.le_of_ble_eq_true rfl) (cc_X9_drop hG ok.1.2) ?_
        have ok := ok.2
        exact cX.cutz (b_X8_clear_173 hG hX0 hrec ok hx) ⟨rfl, rfl, rfl, rfl, rfl, rfl, rfl, rfl, trivial⟩
def L_X8_clear_121 (N : Nat) : Nat → Option Nat → Int32 → Int32 → Int32 → Int32 → Int32 → Int32 → Int32 → cS → Nat × Option Nat × Int32 × Int32 × Int32 × Int32 × Int32 × cS
  | 0, x0, x2, x3, x4, x5, x7, x8, x9, S => (0, none, 0, 0, 0, 0, 0, S)
  | n + 1, x0, x2, x3, x4, x5, x7, x8, x9, S => B_X8_clear_121 N (L_X8_clear_121 N n) x0 x2 x3 x4 x5 x7 x8 x9 S
def OL_X8_clear_121 (N : Nat) : Nat → Option Nat → Int32 → Int32 → Int32 → Int32 → Int32 → Int32 → Int32 → cS → Prop
  | 0, _, _, _, _, _, _, _, _, _ => False
  | n + 1, x0, x2, x3, x4, x5, x7, x8, x9, S => OB_X8_clear_121 N (OL_X8_clear_121 N n) x0 x2 x3 x4 x5 x7 x8 x9 S
set_option maxRecDepth 100000 in
set_option maxHeartbeats 4000000 in
theorem l_X8_clear_121 {G : zG} {o : cO} {N : Nat} {Q : Option Value → cS → Prop} {X : Nat × Option Nat × Int32 × Int32 × Int32 × Int32 × Int32 × cS → Prop} (hG : zOK G) (hX0 : ∀ (x0 : Option Nat) (x2 : Int32) (x3 : Int32) (x4 : Int32) (x5 : Int32) (x7 : Int32) (S' : cS), X (0, x0, x2, x3, x4, x5, x7, S') → cX G o dX8_clear mX8_clear 209 [some (va_rf x0), none, some (.int x2), some (.int x3), some (.int x4), some (.int x5), none, some (.int x7), none, none] [] S' Q) : ∀ (n : Nat) (x0 : Option Nat) (x2 : Int32) (x3 : Int32) (x4 : Int32) (x5 : Int32) (x7 : Int32) (x8 : Int32) (x9 : Int32) (S : cS), OL_X8_clear_121 N n x0 x2 x3 x4 x5 x7 x8 x9 S → X (L_X8_clear_121 N n x0 x2 x3 x4 x5 x7 x8 x9 S) → cX G o dX8_clear mX8_clear 121 [some (va_rf x0), none, some (.int x2), some (.int x3), some (.int x4), some (.int x5), none, some (.int x7), some (.int x8), some (.int x9)] [] S Q := by
  intro n
  induction n with
  | zero => intro x0 x2 x3 x4 x5 x7 x8 x9 S ok; exact absurd ok id
  | succ n ih =>
    intro x0 x2 x3 x4 x5 x7 x8 x9 S ok hx
    exact bb_X8_clear_121 hG hX0 (rec := L_X8_clear_121 N n) (rok := OL_X8_clear_121 N n) (fun x0 x2 x3 x4 x5 x7 x8 x9 S ok hx => ih x0 x2 x3 x4 x5 x7 x8 x9 S ok hx) ok hx
def A_X8_clear_121 (N : Nat) (rec : Option Nat → Int32 → Int32 → Int32 → Int32 → cS → Nat × Option Nat × Int32 × Int32 × cS) (x0 : Option Nat) (x2 : Int32) (x3 : Int32) (x4 : Int32) (x5 : Int32) (x7 : Int32) (x8 : Int32) (x9 : Int32) (S : cS) (z : Nat × Option Nat × Int32 × Int32 × Int32 × Int32 × Int32 × cS) : Nat × Option Nat × Int32 × Int32 × cS := (F_X8_clear_209 N rec (z.2.1) (z.2.2.1) (z.2.2.2.1) (z.2.2.2.2.1) (z.2.2.2.2.2.1) (z.2.2.2.2.2.2.1) z.2.2.2.2.2.2.2)
def OA_X8_clear_121 (N : Nat) (rok : Option Nat → Int32 → Int32 → Int32 → Int32 → cS → Prop) (x0 : Option Nat) (x2 : Int32) (x3 : Int32) (x4 : Int32) (x5 : Int32) (x7 : Int32) (x8 : Int32) (x9 : Int32) (S : cS) (z : Nat × Option Nat × Int32 × Int32 × Int32 × Int32 × Int32 × cS) : Prop := O_X8_clear_209 N rok (z.2.1) (z.2.2.1) (z.2.2.2.1) (z.2.2.2.2.1) (z.2.2.2.2.2.1) (z.2.2.2.2.2.2.1) z.2.2.2.2.2.2.2
set_option maxRecDepth 100000 in
set_option maxHeartbeats 4000000 in
theorem c_X8_clear_121 {G : zG} {o : cO} {S : cS} {N : Nat} {Q : Option Value → cS → Prop} {X : Nat × Option Nat × Int32 × Int32 × cS → Prop} (hG : zOK G) (hX0 : ∀ (x0 : Option Nat) (x3 : Int32) (x4 : Int32) (S' : cS), X (0, x0, x3, x4, S') → cX G o dX8_clear mX8_clear 231 [some (va_rf x0), none, none, some (.int x3), some (.int x4), none, none, none, none, none] [] S' Q) {rec : Option Nat → Int32 → Int32 → Int32 → Int32 → cS → Nat × Option Nat × Int32 × Int32 × cS} {rok : Option Nat → Int32 → Int32 → Int32 → Int32 → cS → Prop} (hrec : ∀ (x0 : Option Nat) (x2 : Int32) (x3 : Int32) (x4 : Int32) (x5 : Int32) (S : cS), rok x0 x2 x3 x4 x5 S → X (rec x0 x2 x3 x4 x5 S) → cX G o dX8_clear mX8_clear 10 [some (va_rf x0), none, some (.int x2), some (.int x3), some (.int x4), some (.int x5), none, none, none, none] [] S Q) {x0 : Option Nat} {x2 : Int32} {x3 : Int32} {x4 : Int32} {x5 : Int32} {x7 : Int32} {x8 : Int32} {x9 : Int32} (ok : OL_X8_clear_121 N N x0 x2 x3 x4 x5 x7 x8 x9 S ∧ OA_X8_clear_121 N rok x0 x2 x3 x4 x5 x7 x8 x9 S (L_X8_clear_121 N N x0 x2 x3 x4 x5 x7 x8 x9 S)) (hx : X (A_X8_clear_121 N rec x0 x2 x3 x4 x5 x7 x8 x9 S (L_X8_clear_121 N N x0 x2 x3 x4 x5 x7 x8 x9 S))) : cX G o dX8_clear mX8_clear 121 [some (va_rf x0), none, some (.int x2), some (.int x3), some (.int x4), some (.int x5), none, some (.int x7), some (.int x8), some (.int x9)] [] S Q := by
  refine l_X8_clear_121 hG ?_ N x0 x2 x3 x4 x5 x7 x8 x9 S ok.1 (X := fun z => OA_X8_clear_121 N rok x0 x2 x3 x4 x5 x7 x8 x9 S z ∧ X (A_X8_clear_121 N rec x0 x2 x3 x4 x5 x7 x8 x9 S z)) ⟨ok.2, hx⟩
  · intro x0' x2' x3' x4' x5' x7' S' hz
    obtain ⟨ok, hx⟩ := hz
    unfold OA_X8_clear_121 at ok
    unfold A_X8_clear_121 at hx
    exact cX.cutz (b_X8_clear_209 hG hX0 hrec ok hx) ⟨rfl, rfl, rfl, rfl, rfl, rfl, trivial⟩
def F_X8_clear_106 (N : Nat) (rec : Option Nat → Int32 → Int32 → Int32 → Int32 → cS → Nat × Option Nat × Int32 × Int32 × cS) (x0 : Option Nat) (x2 : Int32) (x3 : Int32) (x4 : Int32) (x5 : Int32) (x6 : Int32) (s0 : Int32) (S : cS) : Nat × Option Nat × Int32 × Int32 × cS := (A_X8_clear_121 N rec x0 x2 x3 x4 x5 s0 (f_X8_ballots N S (za x0) x6 (nI 2)) (f_X8_ballots N S (za x0) x6 (nI 2)) S (L_X8_clear_121 N N x0 x2 x3 x4 x5 s0 (f_X8_ballots N S (za x0) x6 (nI 2)) (f_X8_ballots N S (za x0) x6 (nI 2)) S))
def O_X8_clear_106 (N : Nat) (rok : Option Nat → Int32 → Int32 → Int32 → Int32 → cS → Prop) (x0 : Option Nat) (x2 : Int32) (x3 : Int32) (x4 : Int32) (x5 : Int32) (x6 : Int32) (s0 : Int32) (S : cS) : Prop := (cis S x0 7 ∧ o_X8_ballots N S (za x0) x6 (nI 2)) ∧ (OL_X8_clear_121 N N x0 x2 x3 x4 x5 s0 (f_X8_ballots N S (za x0) x6 (nI 2)) (f_X8_ballots N S (za x0) x6 (nI 2)) S ∧ OA_X8_clear_121 N rok x0 x2 x3 x4 x5 s0 (f_X8_ballots N S (za x0) x6 (nI 2)) (f_X8_ballots N S (za x0) x6 (nI 2)) S (L_X8_clear_121 N N x0 x2 x3 x4 x5 s0 (f_X8_ballots N S (za x0) x6 (nI 2)) (f_X8_ballots N S (za x0) x6 (nI 2)) S))
set_option maxRecDepth 100000 in
set_option maxHeartbeats 4000000 in
theorem b_X8_clear_106 {G : zG} {o : cO} {S : cS} {N : Nat} {Q : Option Value → cS → Prop} {X : Nat × Option Nat × Int32 × Int32 × cS → Prop} (hG : zOK G) (hX0 : ∀ (x0 : Option Nat) (x3 : Int32) (x4 : Int32) (S' : cS), X (0, x0, x3, x4, S') → cX G o dX8_clear mX8_clear 231 [some (va_rf x0), none, none, some (.int x3), some (.int x4), none, none, none, none, none] [] S' Q) {rec : Option Nat → Int32 → Int32 → Int32 → Int32 → cS → Nat × Option Nat × Int32 × Int32 × cS} {rok : Option Nat → Int32 → Int32 → Int32 → Int32 → cS → Prop} (hrec : ∀ (x0 : Option Nat) (x2 : Int32) (x3 : Int32) (x4 : Int32) (x5 : Int32) (S : cS), rok x0 x2 x3 x4 x5 S → X (rec x0 x2 x3 x4 x5 S) → cX G o dX8_clear mX8_clear 10 [some (va_rf x0), none, some (.int x2), some (.int x3), some (.int x4), some (.int x5), none, none, none, none] [] S Q) {x0 : Option Nat} {x2 : Int32} {x3 : Int32} {x4 : Int32} {x5 : Int32} {x6 : Int32} {s0 : Int32} (ok : O_X8_clear_106 N rok x0 x2 x3 x4 x5 x6 s0 S) (hx : X (F_X8_clear_106 N rec x0 x2 x3 x4 x5 x6 s0 S)) : cX G o dX8_clear mX8_clear 106 [some (va_rf x0), none, some (.int x2), some (.int x3), some (.int x4), some (.int x5), some (.int x6), none, none, none] [.int s0] S Q := by
  unfold O_X8_clear_106 at ok
  unfold F_X8_clear_106 at hx
  refine c_istore_7 dX8_clear_106 (by decide) rfl ?_
  refine c_aload_nQ dX8_clear_108 rfl rfl ?_
  refine c_iload dX8_clear_109 rfl ?_
  refine c_iconst (v := nI 2) dX8_clear_111 (by decide) ?_
  refine c_V2iE (ci := 6) (rr := (RX8, TX8, 14)) (y' := mX8_ballots) dX8_clear_112 lX8_69 kX8_ballots ⟨by decide, by decide⟩ rfl rfl (by decide) ok.1.1 (Nat.le_of_ble_eq_true rfl) (cc_X8_ballots hG ok.1.2) ?_
  have ok := ok.2
  refine c_istore_8 dX8_clear_115 (by decide) rfl ?_
  refine c_iload dX8_clear_117 rfl ?_
  refine c_istore_9 dX8_clear_119 (by decide) rfl ?_
  exact cX.cutz (c_X8_clear_121 hG hX0 hrec ok hx) ⟨rfl, rfl, rfl, rfl, rfl, rfl, rfl, rfl, trivial⟩
def F_X8_clear_83 (N : Nat) (rec : Option Nat → Int32 → Int32 → Int32 → Int32 → cS → Nat × Option Nat × Int32 × Int32 × cS) (x0 : Option Nat) (x2 : Int32) (x3 : Int32) (x4 : Int32) (x5 : Int32) (x6 : Int32) (S : cS) : Nat × Option Nat × Int32 × Int32 × cS := (if (cP (csA S (za (cR S 3 (za x0))) x6.toNatClampNeg (nI 0)) (za (cR (csA S (za (cR S 3 (za x0))) x6.toNatClampNeg (nI 0)) 2 (za x0))) x6.toNatClampNeg) = none then (F_X8_clear_106 N rec x0 x2 x3 x4 x5 x6 (nI 0) (csA S (za (cR S 3 (za x0))) x6.toNatClampNeg (nI 0))) else (F_X8_clear_106 N rec x0 x2 x3 x4 x5 x6 (nI 1) (csA S (za (cR S 3 (za x0))) x6.toNatClampNeg (nI 0))))
def O_X8_clear_83 (N : Nat) (rok : Option Nat → Int32 → Int32 → Int32 → Int32 → cS → Prop) (x0 : Option Nat) (x2 : Int32) (x3 : Int32) (x4 : Int32) (x5 : Int32) (x6 : Int32) (S : cS) : Prop := (cis S x0 7) ∧ (cis S (cR S 3 (za x0)) 21 ∧ vp_in x6 (cL S (za (cR S 3 (za x0))))) ∧ (cis (csA S (za (cR S 3 (za x0))) x6.toNatClampNeg (nI 0)) x0 7) ∧ (cis (csA S (za (cR S 3 (za x0))) x6.toNatClampNeg (nI 0)) (cR (csA S (za (cR S 3 (za x0))) x6.toNatClampNeg (nI 0)) 2 (za x0)) 24 ∧ vp_in x6 (cL (csA S (za (cR S 3 (za x0))) x6.toNatClampNeg (nI 0)) (za (cR (csA S (za (cR S 3 (za x0))) x6.toNatClampNeg (nI 0)) 2 (za x0))))) ∧ (((cP (csA S (za (cR S 3 (za x0))) x6.toNatClampNeg (nI 0)) (za (cR (csA S (za (cR S 3 (za x0))) x6.toNatClampNeg (nI 0)) 2 (za x0))) x6.toNatClampNeg) = none → O_X8_clear_106 N rok x0 x2 x3 x4 x5 x6 (nI 0) (csA S (za (cR S 3 (za x0))) x6.toNatClampNeg (nI 0))) ∧ (¬ (cP (csA S (za (cR S 3 (za x0))) x6.toNatClampNeg (nI 0)) (za (cR (csA S (za (cR S 3 (za x0))) x6.toNatClampNeg (nI 0)) 2 (za x0))) x6.toNatClampNeg) = none → O_X8_clear_106 N rok x0 x2 x3 x4 x5 x6 (nI 1) (csA S (za (cR S 3 (za x0))) x6.toNatClampNeg (nI 0))))
set_option maxRecDepth 100000 in
set_option maxHeartbeats 4000000 in
theorem b_X8_clear_83 {G : zG} {o : cO} {S : cS} {N : Nat} {Q : Option Value → cS → Prop} {X : Nat × Option Nat × Int32 × Int32 × cS → Prop} (hG : zOK G) (hX0 : ∀ (x0 : Option Nat) (x3 : Int32) (x4 : Int32) (S' : cS), X (0, x0, x3, x4, S') → cX G o dX8_clear mX8_clear 231 [some (va_rf x0), none, none, some (.int x3), some (.int x4), none, none, none, none, none] [] S' Q) {rec : Option Nat → Int32 → Int32 → Int32 → Int32 → cS → Nat × Option Nat × Int32 × Int32 × cS} {rok : Option Nat → Int32 → Int32 → Int32 → Int32 → cS → Prop} (hrec : ∀ (x0 : Option Nat) (x2 : Int32) (x3 : Int32) (x4 : Int32) (x5 : Int32) (S : cS), rok x0 x2 x3 x4 x5 S → X (rec x0 x2 x3 x4 x5 S) → cX G o dX8_clear mX8_clear 10 [some (va_rf x0), none, some (.int x2), some (.int x3), some (.int x4), some (.int x5), none, none, none, none] [] S Q) {x0 : Option Nat} {x2 : Int32} {x3 : Int32} {x4 : Int32} {x5 : Int32} {x6 : Int32} (ok : O_X8_clear_83 N rok x0 x2 x3 x4 x5 x6 S) (hx : X (F_X8_clear_83 N rec x0 x2 x3 x4 x5 x6 S)) : cX G o dX8_clear mX8_clear 83 [some (va_rf x0), none, some (.int x2), some (.int x3), some (.int x4), some (.int x5), some (.int x6), none, none, none] [] S Q := by
  unfold O_X8_clear_83 at ok
  unfold F_X8_clear_83 at hx
  refine c_aload_nQ dX8_clear_83 rfl rfl ?_
  refine c_getR (C := RX8) (T := TX8) (N := 14) (ci := 6) (k := 3) ⟨rfl, inT8, by decide, fX8_17⟩ (by decide) (by decide) (by decide) dX8_clear_84 ok.1 ?_
  have ok := ok.2
  refine c_iload dX8_clear_87 rfl ?_
  refine c_iconst (v := nI 0) dX8_clear_89 (by decide) ?_
  refine c_iast hG dX8_clear_90 ok.1 ?_
  have ok := ok.2
  refine c_aload_nQ dX8_clear_91 rfl rfl ?_
  refine c_getR (C := RX8) (T := TX8) (N := 14) (ci := 6) (k := 2) ⟨rfl, inT8, by decide, fX8_11⟩ (by decide) (by decide) (by decide) dX8_clear_92 ok.1 ?_
  have ok := ok.2
  refine c_iload dX8_clear_95 rfl ?_
  refine c_aald (t := 4) (ty := (.object "QuorumLedger$Message")) rfl rfl (by decide) dX8_clear_97 ok.1 ?_
  have ok := ok.2
  refine c_ifnullI (tgt := 105) dX8_clear_98 (by decide) (fun c_98 => ?_) (fun c_98 => ?_)
  · have ok := ok.1 c_98
    have hx := xif_p c_98 hx
    refine c_iconst (v := nI 0) dX8_clear_105 (by decide) ?_
    exact cX.cutz (b_X8_clear_106 hG hX0 hrec ok hx) ⟨rfl, rfl, rfl, rfl, rfl, rfl, trivial⟩
  · have ok := ok.2 c_98
    have hx := xif_n c_98 hx
    refine c_iconst (v := nI 1) dX8_clear_101 (by decide) ?_
    refine c_goto (tgt := 106) dX8_clear_102 (by decide) ?_
    exact cX.cutz (b_X8_clear_106 hG hX0 hrec ok hx) ⟨rfl, rfl, rfl, rfl, rfl, rfl, trivial⟩
def F_X8_clear_75 (N : Nat) (rec : Option Nat → Int32 → Int32 → Int32 → Int32 → cS → Nat × Option Nat × Int32 × Int32 × cS) (x0 : Option Nat) (x2 : Int32) (x3 : Int32) (x4 : Int32) (x5 : Int32) (x6 : Int32) (S : cS) : Nat × Option Nat × Int32 × Int32 × cS := (F_X8_clear_83 N rec x0 x2 x3 x4 x5 x6 (csP S (za (cR S 2 (za x0))) x6.toNatClampNeg (none : Option Nat)))
def O_X8_clear_75 (N : Nat) (rok : Option Nat → Int32 → Int32 → Int32 → Int32 → cS → Prop) (x0 : Option Nat) (x2 : Int32) (x3 : Int32) (x4 : Int32) (x5 : Int32) (x6 : Int32) (S : cS) : Prop := (cis S x0 7) ∧ (cis S (cR S 2 (za x0)) 24 ∧ vp_in x6 (cL S (za (cR S 2 (za x0)))) ∧ ((none : Option Nat) = none ∨ cis S (none : Option Nat) 5)) ∧ O_X8_clear_83 N rok x0 x2 x3 x4 x5 x6 (csP S (za (cR S 2 (za x0))) x6.toNatClampNeg (none : Option Nat))
set_option maxRecDepth 100000 in
set_option maxHeartbeats 4000000 in
theorem b_X8_clear_75 {G : zG} {o : cO} {S : cS} {N : Nat} {Q : Option Value → cS → Prop} {X : Nat × Option Nat × Int32 × Int32 × cS → Prop} (hG : zOK G) (hX0 : ∀ (x0 : Option Nat) (x3 : Int32) (x4 : Int32) (S' : cS), X (0, x0, x3, x4, S') → cX G o dX8_clear mX8_clear 231 [some (va_rf x0), none, none, some (.int x3), some (.int x4), none, none, none, none, none] [] S' Q) {rec : Option Nat → Int32 → Int32 → Int32 → Int32 → cS → Nat × Option Nat × Int32 × Int32 × cS} {rok : Option Nat → Int32 → Int32 → Int32 → Int32 → cS → Prop} (hrec : ∀ (x0 : Option Nat) (x2 : Int32) (x3 : Int32) (x4 : Int32) (x5 : Int32) (S : cS), rok x0 x2 x3 x4 x5 S → X (rec x0 x2 x3 x4 x5 S) → cX G o dX8_clear mX8_clear 10 [some (va_rf x0), none, some (.int x2), some (.int x3), some (.int x4), some (.int x5), none, none, none, none] [] S Q) {x0 : Option Nat} {x2 : Int32} {x3 : Int32} {x4 : Int32} {x5 : Int32} {x6 : Int32} (ok : O_X8_clear_75 N rok x0 x2 x3 x4 x5 x6 S) (hx : X (F_X8_clear_75 N rec x0 x2 x3 x4 x5 x6 S)) : cX G o dX8_clear mX8_clear 75 [some (va_rf x0), none, some (.int x2), some (.int x3), some (.int x4), some (.int x5), some (.int x6), none, none, none] [] S Q := by
  unfold O_X8_clear_75 at ok
  unfold F_X8_clear_75 at hx
  refine c_aload_nQ dX8_clear_75 rfl rfl ?_
  refine c_getR (C := RX8) (T := TX8) (N := 14) (ci := 6) (k := 2) ⟨rfl, inT8, by decide, fX8_11⟩ (by decide) (by decide) (by decide) dX8_clear_76 ok.1 ?_
  have ok := ok.2
  refine c_iload dX8_clear_79 rfl ?_
  refine c_null' dX8_clear_81 ?_
  refine c_aast (t := 4) (ci := 4) (rr := (RX5, TX5, 7)) rfl rfl (by decide) (by decide) dX8_clear_82 ok.1 ?_
  have ok := ok.2
  exact cX.cutz (b_X8_clear_83 hG hX0 hrec ok hx) ⟨rfl, rfl, rfl, rfl, rfl, rfl, trivial⟩
def B_X8_clear_10 (N : Nat) (rec : Option Nat → Int32 → Int32 → Int32 → Int32 → cS → Nat × Option Nat × Int32 × Int32 × cS) (x0 : Option Nat) (x2 : Int32) (x3 : Int32) (x4 : Int32) (x5 : Int32) (S : cS) : Nat × Option Nat × Int32 × Int32 × cS := (if (cA S (za (cR S 5 (za x0))) x3.toNatClampNeg) ≤ x5 then (0, x0, x3, x4, S) else (if (nI 16) ≤ x5 then (0, x0, x3, x4, S) else (if (cP S (za (cR S 2 (za x0))) ((x3 * (nI 16)) + x5).toNatClampNeg) = none then (F_X8_clear_83 N rec x0 x2 x3 x4 x5 ((x3 * (nI 16)) + x5) S) else (if (f_X5_signer N S (za (cP S (za (cR S 2 (za x0))) ((x3 * (nI 16)) + x5).toNatClampNeg))) = x2 then (F_X8_clear_83 N rec x0 x2 x3 x4 x5 ((x3 * (nI 16)) + x5) S) else (F_X8_clear_75 N rec x0 x2 x3 x4 x5 ((x3 * (nI 16)) + x5) (f_X9_drop N S (za (cR S 0 (za x0))) (cP S (za (cR S 2 (za x0))) ((x3 * (nI 16)) + x5).toNatClampNeg)))))))
def OB_X8_clear_10 (N : Nat) (rok : Option Nat → Int32 → Int32 → Int32 → Int32 → cS → Prop) (x0 : Option Nat) (x2 : Int32) (x3 : Int32) (x4 : Int32) (x5 : Int32) (S : cS) : Prop := (cis S x0 7) ∧ (cis S (cR S 5 (za x0)) 21 ∧ vp_in x3 (cL S (za (cR S 5 (za x0))))) ∧ (((cA S (za (cR S 5 (za x0))) x3.toNatClampNeg) ≤ x5 → True) ∧ (¬ (cA S (za (cR S 5 (za x0))) x3.toNatClampNeg) ≤ x5 → (((nI 16) ≤ x5 → True) ∧ (¬ (nI 16) ≤ x5 → (cis S x0 7) ∧ (cis S (cR S 2 (za x0)) 24 ∧ vp_in ((x3 * (nI 16)) + x5) (cL S (za (cR S 2 (za x0))))) ∧ (((cP S (za (cR S 2 (za x0))) ((x3 * (nI 16)) + x5).toNatClampNeg) = none → O_X8_clear_83 N rok x0 x2 x3 x4 x5 ((x3 * (nI 16)) + x5) S) ∧ (¬ (cP S (za (cR S 2 (za x0))) ((x3 * (nI 16)) + x5).toNatClampNeg) = none → (cis S x0 7) ∧ (cis S (cR S 2 (za x0)) 24 ∧ vp_in ((x3 * (nI 16)) + x5) (cL S (za (cR S 2 (za x0))))) ∧ (cis S (cP S (za (cR S 2 (za x0))) ((x3 * (nI 16)) + x5).toNatClampNeg) 5 ∧ o_X5_signer N S (za (cP S (za (cR S 2 (za x0))) ((x3 * (nI 16)) + x5).toNatClampNeg))) ∧ (((f_X5_signer N S (za (cP S (za (cR S 2 (za x0))) ((x3 * (nI 16)) + x5).toNatClampNeg))) = x2 → O_X8_clear_83 N rok x0 x2 x3 x4 x5 ((x3 * (nI 16)) + x5) S) ∧ (¬ (f_X5_signer N S (za (cP S (za (cR S 2 (za x0))) ((x3 * (nI 16)) + x5).toNatClampNeg))) = x2 → (cis S x0 7) ∧ (cis S x0 7) ∧ (cis S (cR S 2 (za x0)) 24 ∧ vp_in ((x3 * (nI 16)) + x5) (cL S (za (cR S 2 (za x0))))) ∧ (cis S (cR S 0 (za x0)) 8 ∧ o_X9_drop N S (za (cR S 0 (za x0))) (cP S (za (cR S 2 (za x0))) ((x3 * (nI 16)) + x5).toNatClampNeg)) ∧ O_X8_clear_75 N rok x0 x2 x3 x4 x5 ((x3 * (nI 16)) + x5) (f_X9_drop N S (za (cR S 0 (za x0))) (cP S (za (cR S 2 (za x0))) ((x3 * (nI 16)) + x5).toNatClampNeg))))))))))
set_option maxRecDepth 100000 in
set_option maxHeartbeats 4000000 in
theorem bb_X8_clear_10 {G : zG} {o : cO} {S : cS} {N : Nat} {Q : Option Value → cS → Prop} {X : Nat × Option Nat × Int32 × Int32 × cS → Prop} (hG : zOK G) (hX0 : ∀ (x0 : Option Nat) (x3 : Int32) (x4 : Int32) (S' : cS), X (0, x0, x3, x4, S') → cX G o dX8_clear mX8_clear 231 [some (va_rf x0), none, none, some (.int x3), some (.int x4), none, none, none, none, none] [] S' Q) {rec : Option Nat → Int32 → Int32 → Int32 → Int32 → cS → Nat × Option Nat × Int32 × Int32 × cS} {rok : Option Nat → Int32 → Int32 → Int32 → Int32 → cS → Prop} (hrec : ∀ (x0 : Option Nat) (x2 : Int32) (x3 : Int32) (x4 : Int32) (x5 : Int32) (S : cS), rok x0 x2 x3 x4 x5 S → X (rec x0 x2 x3 x4 x5 S) → cX G o dX8_clear mX8_clear 10 [some (va_rf x0), none, some (.int x2), some (.int x3), some (.int x4), some (.int x5), none, none, none, none] [] S Q) {x0 : Option Nat} {x2 : Int32} {x3 : Int32} {x4 : Int32} {x5 : Int32} (ok : OB_X8_clear_10 N rok x0 x2 x3 x4 x5 S) (hx : X (B_X8_clear_10 N rec x0 x2 x3 x4 x5 S)) : cX G o dX8_clear mX8_clear 10 [some (va_rf x0), none, some (.int x2), some (.int x3), some (.int x4), some (.int x5), none, none, none, none] [] S Q := by
  unfold OB_X8_clear_10 at ok
  unfold B_X8_clear_10 at hx
  refine c_iload dX8_clear_10 rfl ?_
  refine c_aload_nQ dX8_clear_12 rfl rfl ?_
  refine c_getR (C := RX8) (T := TX8) (N := 14) (ci := 6) (k := 5) ⟨rfl, inT8, by decide, fX8_21⟩ (by decide) (by decide) (by decide) dX8_clear_13 ok.1 ?_
  have ok := ok.2
  refine c_iload_n dX8_clear_16 rfl rfl ?_
  refine c_iald dX8_clear_17 ok.1 ?_
  have ok := ok.2
  refine c_icmp_ge (tgt := 231) dX8_clear_18 (by decide) (fun c_18 => ?_) (fun c_18 => ?_)
  · have ok := ok.1 c_18
    have hx := xif_p c_18 hx
    exact cX.cutz (hX0 _ _ _ S hx) ⟨rfl, rfl, rfl, trivial⟩
  · have ok := ok.2 c_18
    have hx := xif_n c_18 hx
    refine c_iload dX8_clear_21 rfl ?_
    refine c_bipush (v := nI 16) dX8_clear_23 (by decide) ?_
    refine c_icmp_ge (tgt := 231) dX8_clear_25 (by decide) (fun c_25 => ?_) (fun c_25 => ?_)
    · have ok := ok.1 c_25
      have hx := xif_p c_25 hx
      exact cX.cutz (hX0 _ _ _ S hx) ⟨rfl, rfl, rfl, trivial⟩
    · have ok := ok.2 c_25
      have hx := xif_n c_25 hx
      refine c_iload_n dX8_clear_28 rfl rfl ?_
      refine c_bipush (v := nI 16) dX8_clear_29 (by decide) ?_
      refine c_imul dX8_clear_31 ?_
      refine c_iload dX8_clear_32 rfl ?_
      refine c_iadd dX8_clear_34 ?_
      refine c_istore_6 dX8_clear_35 (by decide) rfl ?_
      refine c_aload_nQ dX8_clear_37 rfl rfl ?_
      refine c_getR (C := RX8) (T := TX8) (N := 14) (ci := 6) (k := 2) ⟨rfl, inT8, by decide, fX8_11⟩ (by decide) (by decide) (by decide) dX8_clear_38 ok.1 ?_
      have ok := ok.2
      refine c_iload dX8_clear_41 rfl ?_
      refine c_aald (t := 4) (ty := (.object "QuorumLedger$Message")) rfl rfl (by decide) dX8_clear_43 ok.1 ?_
      have ok := ok.2
      refine c_ifnullI (tgt := 83) dX8_clear_44 (by decide) (fun c_44 => ?_) (fun c_44 => ?_)
      · have ok := ok.1 c_44
        have hx := xif_p c_44 hx
        exact cX.cutz (b_X8_clear_83 hG hX0 hrec ok hx) ⟨rfl, rfl, rfl, rfl, rfl, rfl, trivial⟩
      · have ok := ok.2 c_44
        have hx := xif_n c_44 hx
        refine c_aload_nQ dX8_clear_47 rfl rfl ?_
        refine c_getR (C := RX8) (T := TX8) (N := 14) (ci := 6) (k := 2) ⟨rfl, inT8, by decide, fX8_11⟩ (by decide) (by decide) (by decide) dX8_clear_48 ok.1 ?_
        have ok := ok.2
        refine c_iload dX8_clear_51 rfl ?_
        refine c_aald (t := 4) (ty := (.object "QuorumLedger$Message")) rfl rfl (by decide) dX8_clear_53 ok.1 ?_
        have ok := ok.2
        refine c_V0iE (ci := 4) (rr := (RX5, TX5, 7)) (y' := mX5_signer) dX8_clear_54 lX8_62 kX5_signer ⟨by decide, by decide⟩ rfl rfl (by decide) ok.1.1 (Nat.le_of_ble_eq_true rfl) (cc_X5_signer hG ok.1.2) ?_
        have ok := ok.2
        refine c_iload_n dX8_clear_57 rfl rfl ?_
        refine c_icmp_eq (tgt := 83) dX8_clear_58 (by decide) (fun c_58 => ?_) (fun c_58 => ?_)
        · have ok := ok.1 c_58
          have hx := xif_p c_58 hx
          exact cX.cutz (b_X8_clear_83 hG hX0 hrec ok hx) ⟨rfl, rfl, rfl, rfl, rfl, rfl, trivial⟩
        · have ok := ok.2 c_58
          have hx := xif_n c_58 hx
          refine c_aload_nQ dX8_clear_61 rfl rfl ?_
          refine c_getR (C := RX8) (T := TX8) (N := 14) (ci := 6) (k := 0) ⟨rfl, inT8, by decide, fX8_28⟩ (by decide) (by decide) (by decide) dX8_clear_62 ok.1 ?_
          have ok := ok.2
          refine c_aload_nQ dX8_clear_65 rfl rfl ?_
          refine c_getR (C := RX8) (T := TX8) (N := 14) (ci := 6) (k := 2) ⟨rfl, inT8, by decide, fX8_11⟩ (by decide) (by decide) (by decide) dX8_clear_66 ok.1 ?_
          have ok := ok.2
          refine c_iload dX8_clear_69 rfl ?_
          refine c_aald (t := 4) (ty := (.object "QuorumLedger$Message")) rfl rfl (by decide) dX8_clear_71 ok.1 ?_
          have ok := ok.2
          refine c_V1vE (ci := 7) (rr := (RX9, TX9, 13)) (y' := mX9_drop) dX8_clear_72 lX8_91 kX9_drop ⟨by decide, by decide⟩ rfl rfl (by decide) ok.1.1 (Nat.le_of_ble_eq_true rfl) (cc_X9_drop hG ok.1.2) ?_
          have ok := ok.2
          exact cX.cutz (b_X8_clear_75 hG hX0 hrec ok hx) ⟨rfl, rfl, rfl, rfl, rfl, rfl, trivial⟩
def L_X8_clear_10 (N : Nat) : Nat → Option Nat → Int32 → Int32 → Int32 → Int32 → cS → Nat × Option Nat × Int32 × Int32 × cS
  | 0, x0, x2, x3, x4, x5, S => (0, none, 0, 0, S)
  | n + 1, x0, x2, x3, x4, x5, S => B_X8_clear_10 N (L_X8_clear_10 N n) x0 x2 x3 x4 x5 S
def OL_X8_clear_10 (N : Nat) : Nat → Option Nat → Int32 → Int32 → Int32 → Int32 → cS → Prop
  | 0, _, _, _, _, _, _ => False
  | n + 1, x0, x2, x3, x4, x5, S => OB_X8_clear_10 N (OL_X8_clear_10 N n) x0 x2 x3 x4 x5 S
set_option maxRecDepth 100000 in
set_option maxHeartbeats 4000000 in
theorem l_X8_clear_10 {G : zG} {o : cO} {N : Nat} {Q : Option Value → cS → Prop} {X : Nat × Option Nat × Int32 × Int32 × cS → Prop} (hG : zOK G) (hX0 : ∀ (x0 : Option Nat) (x3 : Int32) (x4 : Int32) (S' : cS), X (0, x0, x3, x4, S') → cX G o dX8_clear mX8_clear 231 [some (va_rf x0), none, none, some (.int x3), some (.int x4), none, none, none, none, none] [] S' Q) : ∀ (n : Nat) (x0 : Option Nat) (x2 : Int32) (x3 : Int32) (x4 : Int32) (x5 : Int32) (S : cS), OL_X8_clear_10 N n x0 x2 x3 x4 x5 S → X (L_X8_clear_10 N n x0 x2 x3 x4 x5 S) → cX G o dX8_clear mX8_clear 10 [some (va_rf x0), none, some (.int x2), some (.int x3), some (.int x4), some (.int x5), none, none, none, none] [] S Q := by
  intro n
  induction n with
  | zero => intro x0 x2 x3 x4 x5 S ok; exact absurd ok id
  | succ n ih =>
    intro x0 x2 x3 x4 x5 S ok hx
    exact bb_X8_clear_10 hG hX0 (rec := L_X8_clear_10 N n) (rok := OL_X8_clear_10 N n) (fun x0 x2 x3 x4 x5 S ok hx => ih x0 x2 x3 x4 x5 S ok hx) ok hx
def A_X8_clear_10 (N : Nat) (x0 : Option Nat) (x2 : Int32) (x3 : Int32) (x4 : Int32) (x5 : Int32) (S : cS) (z : Nat × Option Nat × Int32 × Int32 × cS) : cS := (F_X8_clear_231 N (z.2.1) (z.2.2.1) (z.2.2.2.1) z.2.2.2.2)
def OA_X8_clear_10 (N : Nat) (x0 : Option Nat) (x2 : Int32) (x3 : Int32) (x4 : Int32) (x5 : Int32) (S : cS) (z : Nat × Option Nat × Int32 × Int32 × cS) : Prop := O_X8_clear_231 N (z.2.1) (z.2.2.1) (z.2.2.2.1) z.2.2.2.2
set_option maxRecDepth 100000 in
set_option maxHeartbeats 4000000 in
theorem c_X8_clear_10 {G : zG} {o : cO} {S : cS} {N : Nat} {Q : Option Value → cS → Prop} {X : cS → Prop} (hG : zOK G) (hR : ∀ S', X S' → Q none S') {x0 : Option Nat} {x2 : Int32} {x3 : Int32} {x4 : Int32} {x5 : Int32} (ok : OL_X8_clear_10 N N x0 x2 x3 x4 x5 S ∧ OA_X8_clear_10 N x0 x2 x3 x4 x5 S (L_X8_clear_10 N N x0 x2 x3 x4 x5 S)) (hx : X (A_X8_clear_10 N x0 x2 x3 x4 x5 S (L_X8_clear_10 N N x0 x2 x3 x4 x5 S))) : cX G o dX8_clear mX8_clear 10 [some (va_rf x0), none, some (.int x2), some (.int x3), some (.int x4), some (.int x5), none, none, none, none] [] S Q := by
  refine l_X8_clear_10 hG ?_ N x0 x2 x3 x4 x5 S ok.1 (X := fun z => OA_X8_clear_10 N x0 x2 x3 x4 x5 S z ∧ X (A_X8_clear_10 N x0 x2 x3 x4 x5 S z)) ⟨ok.2, hx⟩
  · intro x0' x3' x4' S' hz
    obtain ⟨ok, hx⟩ := hz
    unfold OA_X8_clear_10 at ok
    unfold A_X8_clear_10 at hx
    exact cX.cutz (b_X8_clear_231 hG hR ok hx) ⟨rfl, rfl, rfl, trivial⟩
def F_X8_clear_0 (N : Nat) (x0 : Option Nat) (x1 : Int32) (x2 : Int32) (S : cS) : cS := (A_X8_clear_10 N x0 x2 (x1 &&& (nI 1)) (nI 0) (nI 0) S (L_X8_clear_10 N N x0 x2 (x1 &&& (nI 1)) (nI 0) (nI 0) S))
def O_X8_clear_0 (N : Nat) (x0 : Option Nat) (x1 : Int32) (x2 : Int32) (S : cS) : Prop := (OL_X8_clear_10 N N x0 x2 (x1 &&& (nI 1)) (nI 0) (nI 0) S ∧ OA_X8_clear_10 N x0 x2 (x1 &&& (nI 1)) (nI 0) (nI 0) S (L_X8_clear_10 N N x0 x2 (x1 &&& (nI 1)) (nI 0) (nI 0) S))
set_option maxRecDepth 100000 in
set_option maxHeartbeats 4000000 in
theorem b_X8_clear_0 {G : zG} {o : cO} {S : cS} {N : Nat} {Q : Option Value → cS → Prop} {X : cS → Prop} (hG : zOK G) (hR : ∀ S', X S' → Q none S') {x0 : Option Nat} {x1 : Int32} {x2 : Int32} (ok : O_X8_clear_0 N x0 x1 x2 S) (hx : X (F_X8_clear_0 N x0 x1 x2 S)) : cX G o dX8_clear mX8_clear 0 [some (va_rf x0), some (.int x1), some (.int x2), none, none, none, none, none, none, none] [] S Q := by
  unfold O_X8_clear_0 at ok
  unfold F_X8_clear_0 at hx
  refine c_iload_n dX8_clear_0 rfl rfl ?_
  refine c_iconst (v := nI 1) dX8_clear_1 (by decide) ?_
  refine c_iand dX8_clear_2 ?_
  refine c_istore_3 dX8_clear_3 (by decide) rfl ?_
  refine c_iconst (v := nI 0) dX8_clear_4 (by decide) ?_
  refine c_istore_4 dX8_clear_5 (by decide) rfl ?_
  refine c_iconst (v := nI 0) dX8_clear_7 (by decide) ?_
  refine c_istore_5 dX8_clear_8 (by decide) rfl ?_
  exact cX.cutz (c_X8_clear_10 hG hR ok hx) ⟨rfl, rfl, rfl, rfl, rfl, trivial⟩
def f_X8_clear (N : Nat) (S : cS) (a0 : Nat) (x1 : Int32) (x2 : Int32) : cS := F_X8_clear_0 N (some a0) x1 x2 S
def o_X8_clear (N : Nat) (S : cS) (a0 : Nat) (x1 : Int32) (x2 : Int32) : Prop := O_X8_clear_0 N (some a0) x1 x2 S
set_option maxRecDepth 100000 in
set_option maxHeartbeats 4000000 in
theorem cc_X8_clear {G : zG} {o : cO} {S : cS} {N : Nat} (hG : zOK G) {a0 : Nat} {x1 : Int32} {x2 : Int32} (ok : o_X8_clear N S a0 x1 x2) : cCv G o dX8_clear mX8_clear [.ref a0, .int x1, .int x2] S (fun S' => S' = f_X8_clear N S a0 x1 x2) := by
  refine cC.ofX rfl (by exact Nat.le_of_ble_eq_true rfl) ?_
  show cX G o dX8_clear mX8_clear 0 [some (.ref a0), some (.int x1), some (.int x2), none, none, none, none, none, none, none] [] S _
  exact cX.cutz (b_X8_clear_0 (X := fun F => F = f_X8_clear N S a0 x1 x2) hG (fun S' h => ⟨rfl, h⟩) ok rfl) ⟨rfl, rfl, rfl, trivial⟩

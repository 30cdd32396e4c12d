/-! X6_enter -/
def F_X6_enter_108 (N : Nat) (s0 : Option Nat) (s1 : Int32) (S : cS) : cS := (csI S 18 (za s0) s1)
def O_X6_enter_108 (N : Nat) (s0 : Option Nat) (s1 : Int32) (S : cS) : Prop := (cis S s0 6) ∧ True
set_option maxRecDepth 100000 in
set_option maxHeartbeats 4000000 in
theorem b_X6_enter_108 {G : zG} {o : Nat → Option va_E} {S : cS} {N : Nat} {Q : Option Value → cS → Prop} {X : cS → Prop} (hG : zOK G) (hR : ∀ S', X S' → Q none S') {s0 : Option Nat} {s1 : Int32} (ok : O_X6_enter_108 N s0 s1 S) (hx : X (F_X6_enter_108 N s0 s1 S)) : cX G o dX6_enter mX6_enter 108 [none, none] [.int s1, va_rf s0] S Q := by
  unfold O_X6_enter_108 at ok
  unfold F_X6_enter_108 at hx
  refine c_putI (C := RX6) (T := TX6) (N := 19) (ci := 5) (k := 18) ⟨rfl, inT6, by decide, fX6_53⟩ ftT6 rfl (by decide) (by decide) (by decide) rfl rfl dX6_enter_108 ok.1 ?_
  have ok := ok.2
  exact c_return rfl dX6_enter_111 (hR _ hx)
def F_X6_enter_96 (N : Nat) (x0 : Option Nat) (x1 : Int32) (S : cS) : cS := (if (nI 40) < x1 then (F_X6_enter_108 N x0 (-1) S) else (F_X6_enter_108 N x0 (nI 0) S))
def O_X6_enter_96 (N : Nat) (x0 : Option Nat) (x1 : Int32) (S : cS) : Prop := (((nI 40) < x1 → O_X6_enter_108 N x0 (-1) S) ∧ (¬ (nI 40) < x1 → O_X6_enter_108 N x0 (nI 0) S))
set_option maxRecDepth 100000 in
set_option maxHeartbeats 4000000 in
theorem b_X6_enter_96 {G : zG} {o : Nat → Option va_E} {S : cS} {N : Nat} {Q : Option Value → cS → Prop} {X : cS → Prop} (hG : zOK G) (hR : ∀ S', X S' → Q none S') {x0 : Option Nat} {x1 : Int32} (ok : O_X6_enter_96 N x0 x1 S) (hx : X (F_X6_enter_96 N x0 x1 S)) : cX G o dX6_enter mX6_enter 96 [some (va_rf x0), some (.int x1)] [] S Q := by
  unfold O_X6_enter_96 at ok
  unfold F_X6_enter_96 at hx
  refine c_aload_nQ dX6_enter_96 rfl rfl ?_
  refine c_iload_n dX6_enter_97 rfl rfl ?_
  refine c_bipush (v := nI 40) dX6_enter_98 (by decide) ?_
  refine c_icmp_gt (tgt := 107) dX6_enter_100 (by decide) (fun c_100 => ?_) (fun c_100 => ?_)
  · have ok := ok.1 c_100
    have hx := xif_p c_100 hx
    refine c_iconst (v := -1) dX6_enter_107 (by decide) ?_
    exact cX.cutz (b_X6_enter_108 hG hR ok hx) trivial
  · have ok := ok.2 c_100
    have hx := xif_n c_100 hx
    refine c_iconst (v := nI 0) dX6_enter_103 (by decide) ?_
    refine c_goto (tgt := 108) dX6_enter_104 (by decide) ?_
    exact cX.cutz (b_X6_enter_108 hG hR ok hx) trivial
def F_X6_enter_83 (N : Nat) (x0 : Option Nat) (x1 : Int32) (S : cS) : cS := (F_X6_enter_96 N x0 x1 (csI (csI S 17 (za x0) (nI 0)) 6 (za (cR (csI S 17 (za x0) (nI 0)) 2 (za x0))) (nI 0)))
def O_X6_enter_83 (N : Nat) (x0 : Option Nat) (x1 : Int32) (S : cS) : Prop := (cis S x0 6) ∧ (cis (csI S 17 (za x0) (nI 0)) x0 6) ∧ (cis (csI S 17 (za x0) (nI 0)) (cR (csI S 17 (za x0) (nI 0)) 2 (za x0)) 4) ∧ O_X6_enter_96 N x0 x1 (csI (csI S 17 (za x0) (nI 0)) 6 (za (cR (csI S 17 (za x0) (nI 0)) 2 (za x0))) (nI 0))
set_option maxRecDepth 100000 in
set_option maxHeartbeats 4000000 in
theorem b_X6_enter_83 {G : zG} {o : Nat → Option va_E} {S : cS} {N : Nat} {Q : Option Value → cS → Prop} {X : cS → Prop} (hG : zOK G) (hR : ∀ S', X S' → Q none S') {x0 : Option Nat} {x1 : Int32} (ok : O_X6_enter_83 N x0 x1 S) (hx : X (F_X6_enter_83 N x0 x1 S)) : cX G o dX6_enter mX6_enter 83 [some (va_rf x0), some (.int x1)] [] S Q := by
  unfold O_X6_enter_83 at ok
  unfold F_X6_enter_83 at hx
  refine c_aload_nQ dX6_enter_83 rfl rfl ?_
  refine c_iconst (v := nI 0) dX6_enter_84 (by decide) ?_
  refine c_putI (C := RX6) (T := TX6) (N := 19) (ci := 5) (k := 17) ⟨rfl, inT6, by decide, fX6_145⟩ ftT6 rfl (by decide) (by decide) (by decide) rfl rfl dX6_enter_85 ok.1 ?_
  have ok := ok.2
  refine c_aload_nQ dX6_enter_88 rfl rfl ?_
  refine c_getR (C := RX6) (T := TX6) (N := 19) (ci := 5) (k := 2) ⟨rfl, inT6, by decide, fX6_12⟩ (by decide) (by decide) (by decide) dX6_enter_89 ok.1 ?_
  have ok := ok.2
  refine c_iconst (v := nI 0) dX6_enter_92 (by decide) ?_
  refine c_putI (C := RX4) (T := TX4) (N := 10) (ci := 3) (k := 6) ⟨rfl, inT4, by decide, fX6_148⟩ ftT4 rfl (by decide) (by decide) (by decide) rfl rfl dX6_enter_93 ok.1 ?_
  have ok := ok.2
  exact cX.cutz (b_X6_enter_96 hG hR ok hx) ⟨rfl, rfl, trivial⟩
def F_X6_enter_73 (N : Nat) (x0 : Option Nat) (x1 : Int32) (S : cS) : cS := (F_X6_enter_83 N x0 x1 (csI (csI S 11 (za x0) (nI 0)) 16 (za x0) (nI 0)))
def O_X6_enter_73 (N : Nat) (x0 : Option Nat) (x1 : Int32) (S : cS) : Prop := (cis S x0 6) ∧ (cis (csI S 11 (za x0) (nI 0)) x0 6) ∧ O_X6_enter_83 N x0 x1 (csI (csI S 11 (za x0) (nI 0)) 16 (za x0) (nI 0))
set_option maxRecDepth 100000 in
set_option maxHeartbeats 4000000 in
theorem b_X6_enter_73 {G : zG} {o : Nat → Option va_E} {S : cS} {N : Nat} {Q : Option Value → cS → Prop} {X : cS → Prop} (hG : zOK G) (hR : ∀ S', X S' → Q none S') {x0 : Option Nat} {x1 : Int32} (ok : O_X6_enter_73 N x0 x1 S) (hx : X (F_X6_enter_73 N x0 x1 S)) : cX G o dX6_enter mX6_enter 73 [some (va_rf x0), some (.int x1)] [] S Q := by
  unfold O_X6_enter_73 at ok
  unfold F_X6_enter_73 at hx
  refine c_aload_nQ dX6_enter_73 rfl rfl ?_
  refine c_iconst (v := nI 0) dX6_enter_74 (by decide) ?_
  refine c_putI (C := RX6) (T := TX6) (N := 19) (ci := 5) (k := 11) ⟨rfl, inT6, by decide, fX6_108⟩ ftT6 rfl (by decide) (by decide) (by decide) rfl rfl dX6_enter_75 ok.1 ?_
  have ok := ok.2
  refine c_aload_nQ dX6_enter_78 rfl rfl ?_
  refine c_iconst (v := nI 0) dX6_enter_79 (by decide) ?_
  refine c_putI (C := RX6) (T := TX6) (N := 19) (ci := 5) (k := 16) ⟨rfl, inT6, by decide, fX6_105⟩ ftT6 rfl (by decide) (by decide) (by decide) rfl rfl dX6_enter_80 ok.1 ?_
  have ok := ok.2
  exact cX.cutz (b_X6_enter_83 hG hR ok hx) ⟨rfl, rfl, trivial⟩
def F_X6_enter_63 (N : Nat) (x0 : Option Nat) (x1 : Int32) (S : cS) : cS := (F_X6_enter_73 N x0 x1 (csI (csI S 9 (za x0) x1) 10 (za x0) (nI 0)))
def O_X6_enter_63 (N : Nat) (x0 : Option Nat) (x1 : Int32) (S : cS) : Prop := (cis S x0 6) ∧ (cis (csI S 9 (za x0) x1) x0 6) ∧ O_X6_enter_73 N x0 x1 (csI (csI S 9 (za x0) x1) 10 (za x0) (nI 0))
set_option maxRecDepth 100000 in
set_option maxHeartbeats 4000000 in
theorem b_X6_enter_63 {G : zG} {o : Nat → Option va_E} {S : cS} {N : Nat} {Q : Option Value → cS → Prop} {X : cS → Prop} (hG : zOK G) (hR : ∀ S', X S' → Q none S') {x0 : Option Nat} {x1 : Int32} (ok : O_X6_enter_63 N x0 x1 S) (hx : X (F_X6_enter_63 N x0 x1 S)) : cX G o dX6_enter mX6_enter 63 [some (va_rf x0), some (.int x1)] [] S Q := by
  unfold O_X6_enter_63 at ok
  unfold F_X6_enter_63 at hx
  refine c_aload_nQ dX6_enter_63 rfl rfl ?_
  refine c_iload_n dX6_enter_64 rfl rfl ?_
  refine c_putI (C := RX6) (T := TX6) (N := 19) (ci := 5) (k := 9) ⟨rfl, inT6, by decide, fX6_43⟩ ftT6 rfl (by decide) (by decide) (by decide) rfl rfl dX6_enter_65 ok.1 ?_
  have ok := ok.2
  refine c_aload_nQ dX6_enter_68 rfl rfl ?_
  refine c_iconst (v := nI 0) dX6_enter_69 (by decide) ?_
  refine c_putI (C := RX6) (T := TX6) (N := 19) (ci := 5) (k := 10) ⟨rfl, inT6, by decide, fX6_86⟩ ftT6 rfl (by decide) (by decide) (by decide) rfl rfl dX6_enter_70 ok.1 ?_
  have ok := ok.2
  exact cX.cutz (b_X6_enter_73 hG hR ok hx) ⟨rfl, rfl, trivial⟩
def F_X6_enter_55 (N : Nat) (x0 : Option Nat) (x1 : Int32) (S : cS) : cS := (F_X6_enter_63 N x0 x1 (f_J7_fill_53178 N S (cR S 6 (za x0)) (nI 0)))
def O_X6_enter_55 (N : Nat) (x0 : Option Nat) (x1 : Int32) (S : cS) : Prop := (cis S x0 6) ∧ (o_J7_fill_53178 N S (cR S 6 (za x0)) (nI 0)) ∧ O_X6_enter_63 N x0 x1 (f_J7_fill_53178 N S (cR S 6 (za x0)) (nI 0))
set_option maxRecDepth 100000 in
set_option maxHeartbeats 4000000 in
theorem b_X6_enter_55 {G : zG} {o : Nat → Option va_E} {S : cS} {N : Nat} {Q : Option Value → cS → Prop} {X : cS → Prop} (hG : zOK G) (hR : ∀ S', X S' → Q none S') {x0 : Option Nat} {x1 : Int32} (ok : O_X6_enter_55 N x0 x1 S) (hx : X (F_X6_enter_55 N x0 x1 S)) : cX G o dX6_enter mX6_enter 55 [some (va_rf x0), some (.int x1)] [] S Q := by
  unfold O_X6_enter_55 at ok
  unfold F_X6_enter_55 at hx
  refine c_aload_nQ dX6_enter_55 rfl rfl ?_
  refine c_getR (C := RX6) (T := TX6) (N := 19) (ci := 5) (k := 6) ⟨rfl, inT6, by decide, fX6_29⟩ (by decide) (by decide) (by decide) dX6_enter_56 ok.1 ?_
  have ok := ok.2
  refine c_iconst (v := nI 0) dX6_enter_59 (by decide) ?_
  refine c_S2v (y' := mJ7_fill_53178) dX6_enter_60 lX6_89 kJ7_fill_53178 ⟨by decide, by decide⟩ (Nat.le_of_ble_eq_true rfl) (cc_J7_fill_53178 hG ok.1) (fun S_60 h_60 => ?_)
  subst h_60
  have ok := ok.2
  exact cX.cutz (b_X6_enter_63 hG hR ok hx) ⟨rfl, rfl, trivial⟩
def F_X6_enter_49 (N : Nat) (x0 : Option Nat) (x1 : Int32) (S : cS) : cS := (F_X6_enter_55 N x0 x1 (f_X6_setValid N S (za x0) (none) (-1)))
def O_X6_enter_49 (N : Nat) (x0 : Option Nat) (x1 : Int32) (S : cS) : Prop := (cis S x0 6 ∧ o_X6_setValid N S (za x0) (none) (-1)) ∧ O_X6_enter_55 N x0 x1 (f_X6_setValid N S (za x0) (none) (-1))
set_option maxRecDepth 100000 in
set_option maxHeartbeats 4000000 in
theorem b_X6_enter_49 {G : zG} {o : Nat → Option va_E} {S : cS} {N : Nat} {Q : Option Value → cS → Prop} {X : cS → Prop} (hG : zOK G) (hR : ∀ S', X S' → Q none S') {x0 : Option Nat} {x1 : Int32} (ok : O_X6_enter_49 N x0 x1 S) (hx : X (F_X6_enter_49 N x0 x1 S)) : cX G o dX6_enter mX6_enter 49 [some (va_rf x0), some (.int x1)] [] S Q := by
  unfold O_X6_enter_49 at ok
  unfold F_X6_enter_49 at hx
  refine c_aload_nQ dX6_enter_49 rfl rfl ?_
  refine c_null' dX6_enter_50 ?_
  refine c_iconst (v := -1) dX6_enter_51 (by decide) ?_
  refine c_V2v (ci := 5) (rr := (RX6, TX6, 19)) (y' := mX6_setValid) dX6_enter_52 lX6_142 kX6_setValid ⟨by decide, by decide⟩ rfl rfl (by decide) ok.1.1 (Nat.le_of_ble_eq_true rfl) (cc_X6_setValid hG ok.1.2) (fun S_52 h_52 => ?_)
  subst h_52
  have ok := ok.2
  exact cX.cutz (b_X6_enter_55 hG hR ok hx) ⟨rfl, rfl, trivial⟩
def F_X6_enter_43 (N : Nat) (x0 : Option Nat) (x1 : Int32) (S : cS) : cS := (F_X6_enter_49 N x0 x1 (f_X6_setLocked N S (za x0) (none) (-1)))
def O_X6_enter_43 (N : Nat) (x0 : Option Nat) (x1 : Int32) (S : cS) : Prop := (cis S x0 6 ∧ o_X6_setLocked N S (za x0) (none) (-1)) ∧ O_X6_enter_49 N x0 x1 (f_X6_setLocked N S (za x0) (none) (-1))
set_option maxRecDepth 100000 in
set_option maxHeartbeats 4000000 in
theorem b_X6_enter_43 {G : zG} {o : Nat → Option va_E} {S : cS} {N : Nat} {Q : Option Value → cS → Prop} {X : cS → Prop} (hG : zOK G) (hR : ∀ S', X S' → Q none S') {x0 : Option Nat} {x1 : Int32} (ok : O_X6_enter_43 N x0 x1 S) (hx : X (F_X6_enter_43 N x0 x1 S)) : cX G o dX6_enter mX6_enter 43 [some (va_rf x0), some (.int x1)] [] S Q := by
  unfold O_X6_enter_43 at ok
  unfold F_X6_enter_43 at hx
  refine c_aload_nQ dX6_enter_43 rfl rfl ?_
  refine c_null' dX6_enter_44 ?_
  refine c_iconst (v := -1) dX6_enter_45 (by decide) ?_
  refine c_V2v (ci := 5) (rr := (RX6, TX6, 19)) (y' := mX6_setLocked) dX6_enter_46 lX6_138 kX6_setLocked ⟨by decide, by decide⟩ rfl rfl (by decide) ok.1.1 (Nat.le_of_ble_eq_true rfl) (cc_X6_setLocked hG ok.1.2) (fun S_46 h_46 => ?_)
  subst h_46
  have ok := ok.2
  exact cX.cutz (b_X6_enter_49 hG hR ok hx) ⟨rfl, rfl, trivial⟩
def F_X6_enter_36 (N : Nat) (x0 : Option Nat) (x1 : Int32) (S : cS) : cS := (F_X6_enter_43 N x0 x1 (f_X8_clearDecided N S (za (cR S 3 (za x0)))))
def O_X6_enter_36 (N : Nat) (x0 : Option Nat) (x1 : Int32) (S : cS) : Prop := (cis S x0 6) ∧ (cis S (cR S 3 (za x0)) 7 ∧ o_X8_clearDecided N S (za (cR S 3 (za x0)))) ∧ O_X6_enter_43 N x0 x1 (f_X8_clearDecided N S (za (cR S 3 (za x0))))
set_option maxRecDepth 100000 in
set_option maxHeartbeats 4000000 in
theorem b_X6_enter_36 {G : zG} {o : Nat → Option va_E} {S : cS} {N : Nat} {Q : Option Value → cS → Prop} {X : cS → Prop} (hG : zOK G) (hR : ∀ S', X S' → Q none S') {x0 : Option Nat} {x1 : Int32} (ok : O_X6_enter_36 N x0 x1 S) (hx : X (F_X6_enter_36 N x0 x1 S)) : cX G o dX6_enter mX6_enter 36 [some (va_rf x0), some (.int x1)] [] S Q := by
  unfold O_X6_enter_36 at ok
  unfold F_X6_enter_36 at hx
  refine c_aload_nQ dX6_enter_36 rfl rfl ?_
  refine c_getR (C := RX6) (T := TX6) (N := 19) (ci := 5) (k := 3) ⟨rfl, inT6, by decide, fX6_77⟩ (by decide) (by decide) (by decide) dX6_enter_37 ok.1 ?_
  have ok := ok.2
  refine c_V0v (ci := 6) (rr := (RX8, TX8, 14)) (y' := mX8_clearDecided) dX6_enter_40 lX6_99 kX8_clearDecided ⟨by decide, by decide⟩ rfl rfl (by decide) ok.1.1 (Nat.le_of_ble_eq_true rfl) (cc_X8_clearDecided hG ok.1.2) (fun S_40 h_40 => ?_)
  subst h_40
  have ok := ok.2
  exact cX.cutz (b_X6_enter_43 hG hR ok hx) ⟨rfl, rfl, trivial⟩
def F_X6_enter_12 (N : Nat) (x0 : Option Nat) (x1 : Int32) (S : cS) : cS := (if x1 = ((cI S 9 (za x0)) + (nI 1)) then (F_X6_enter_36 N x0 x1 S) else (F_X6_enter_36 N x0 x1 (f_X8_clear N S (za (cR S 3 (za x0))) ((cI S 9 (za x0)) + (nI 1)) (-1))))
def O_X6_enter_12 (N : Nat) (x0 : Option Nat) (x1 : Int32) (S : cS) : Prop := (cis S x0 6) ∧ ((x1 = ((cI S 9 (za x0)) + (nI 1)) → O_X6_enter_36 N x0 x1 S) ∧ (¬ x1 = ((cI S 9 (za x0)) + (nI 1)) → (cis S x0 6) ∧ (cis S x0 6) ∧ (cis S (cR S 3 (za x0)) 7 ∧ o_X8_clear N S (za (cR S 3 (za x0))) ((cI S 9 (za x0)) + (nI 1)) (-1)) ∧ O_X6_enter_36 N x0 x1 (f_X8_clear N S (za (cR S 3 (za x0))) ((cI S 9 (za x0)) + (nI 1)) (-1))))
set_option maxRecDepth 100000 in
set_option maxHeartbeats 4000000 in
theorem b_X6_enter_12 {G : zG} {o : Nat → Option va_E} {S : cS} {N : Nat} {Q : Option Value → cS → Prop} {X : cS → Prop} (hG : zOK G) (hR : ∀ S', X S' → Q none S') {x0 : Option Nat} {x1 : Int32} (ok : O_X6_enter_12 N x0 x1 S) (hx : X (F_X6_enter_12 N x0 x1 S)) : cX G o dX6_enter mX6_enter 12 [some (va_rf x0), some (.int x1)] [] S Q := by
  unfold O_X6_enter_12 at ok
  unfold F_X6_enter_12 at hx
  refine c_iload_n dX6_enter_12 rfl rfl ?_
  refine c_aload_nQ dX6_enter_13 rfl rfl ?_
  refine c_getI (C := RX6) (T := TX6) (N := 19) (ci := 5) (k := 9) ⟨rfl, inT6, by decide, fX6_43⟩ (by decide) (by decide) (by decide) dX6_enter_14 ok.1 ?_
  have ok := ok.2
  refine c_iconst (v := nI 1) dX6_enter_17 (by decide) ?_
  refine c_iadd dX6_enter_18 ?_
  refine c_icmp_eq (tgt := 36) dX6_enter_19 (by decide) (fun c_19 => ?_) (fun c_19 => ?_)
  · have ok := ok.1 c_19
    have hx := xif_p c_19 hx
    exact cX.cutz (b_X6_enter_36 hG hR ok hx) ⟨rfl, rfl, trivial⟩
  · have ok := ok.2 c_19
    have hx := xif_n c_19 hx
    refine c_aload_nQ dX6_enter_22 rfl rfl ?_
    refine c_getR (C := RX6) (T := TX6) (N := 19) (ci := 5) (k := 3) ⟨rfl, inT6, by decide, fX6_77⟩ (by decide) (by decide) (by decide) dX6_enter_23 ok.1 ?_
    have ok := ok.2
    refine c_aload_nQ dX6_enter_26 rfl rfl ?_
    refine c_getI (C := RX6) (T := TX6) (N := 19) (ci := 5) (k := 9) ⟨rfl, inT6, by decide, fX6_43⟩ (by decide) (by decide) (by decide) dX6_enter_27 ok.1 ?_
    have ok := ok.2
    refine c_iconst (v := nI 1) dX6_enter_30 (by decide) ?_
    refine c_iadd dX6_enter_31 ?_
    refine c_iconst (v := -1) dX6_enter_32 (by decide) ?_
    refine c_V2v (ci := 6) (rr := (RX8, TX8, 14)) (y' := mX8_clear) dX6_enter_33 lX6_95 kX8_clear ⟨by decide, by decide⟩ rfl rfl (by decide) ok.1.1 (Nat.le_of_ble_eq_true rfl) (cc_X8_clear hG ok.1.2) (fun S_33 h_33 => ?_)
    subst h_33
    have ok := ok.2
    exact cX.cutz (b_X6_enter_36 hG hR ok hx) ⟨rfl, rfl, trivial⟩
def F_X6_enter_0 (N : Nat) (x0 : Option Nat) (x1 : Int32) (S : cS) : cS := (F_X6_enter_12 N x0 x1 (f_X8_clear N S (za (cR S 3 (za x0))) (cI S 9 (za x0)) (-1)))
def O_X6_enter_0 (N : Nat) (x0 : Option Nat) (x1 : Int32) (S : cS) : Prop := (cis S x0 6) ∧ (cis S x0 6) ∧ (cis S (cR S 3 (za x0)) 7 ∧ o_X8_clear N S (za (cR S 3 (za x0))) (cI S 9 (za x0)) (-1)) ∧ O_X6_enter_12 N x0 x1 (f_X8_clear N S (za (cR S 3 (za x0))) (cI S 9 (za x0)) (-1))
set_option maxRecDepth 100000 in
set_option maxHeartbeats 4000000 in
theorem b_X6_enter_0 {G : zG} {o : Nat → Option va_E} {S : cS} {N : Nat} {Q : Option Value → cS → Prop} {X : cS → Prop} (hG : zOK G) (hR : ∀ S', X S' → Q none S') {x0 : Option Nat} {x1 : Int32} (ok : O_X6_enter_0 N x0 x1 S) (hx : X (F_X6_enter_0 N x0 x1 S)) : cX G o dX6_enter mX6_enter 0 [some (va_rf x0), some (.int x1)] [] S Q := by
  unfold O_X6_enter_0 at ok
  unfold F_X6_enter_0 at hx
  refine c_aload_nQ dX6_enter_0 rfl rfl ?_
  refine c_getR (C := RX6) (T := TX6) (N := 19) (ci := 5) (k := 3) ⟨rfl, inT6, by decide, fX6_77⟩ (by decide) (by decide) (by decide) dX6_enter_1 ok.1 ?_
  have ok := ok.2
  refine c_aload_nQ dX6_enter_4 rfl rfl ?_
  refine c_getI (C := RX6) (T := TX6) (N := 19) (ci := 5) (k := 9) ⟨rfl, inT6, by decide, fX6_43⟩ (by decide) (by decide) (by decide) dX6_enter_5 ok.1 ?_
  have ok := ok.2
  refine c_iconst (v := -1) dX6_enter_8 (by decide) ?_
  refine c_V2v (ci := 6) (rr := (RX8, TX8, 14)) (y' := mX8_clear) dX6_enter_9 lX6_95 kX8_clear ⟨by decide, by decide⟩ rfl rfl (by decide) ok.1.1 (Nat.le_of_ble_eq_true rfl) (cc_X8_clear hG ok.1.2) (fun S_9 h_9 => ?_)
  subst h_9
  have ok := ok.2
  exact cX.cutz (b_X6_enter_12 hG hR ok hx) ⟨rfl, rfl, trivial⟩
def f_X6_enter (N : Nat) (S : cS) (a0 : Nat) (x1 : Int32) : cS := F_X6_enter_0 N (some a0) x1 S
def o_X6_enter (N : Nat) (S : cS) (a0 : Nat) (x1 : Int32) : Prop := O_X6_enter_0 N (some a0) x1 S
set_option maxRecDepth 100000 in
set_option maxHeartbeats 4000000 in
theorem cc_X6_enter {G : zG} {o : Nat → Option va_E} {S : cS} {N : Nat} (hG : zOK G) {a0 : Nat} {x1 : Int32} (ok : o_X6_enter N S a0 x1) : cCv G o dX6_enter mX6_enter [.ref a0, .int x1] S (fun S' => S' = f_X6_enter N S a0 x1) := by
  refine cC.ofX rfl (by exact Nat.le_of_ble_eq_true rfl) ?_
  show cX G o dX6_enter mX6_enter 0 [some (.ref a0), some (.int x1)] [] S _
  exact cX.cutz (b_X6_enter_0 (X := fun F => F = f_X6_enter N S a0 x1) hG (fun S' h => ⟨rfl, h⟩) ok rfl) ⟨rfl, rfl, trivial⟩
/-! X6_vote -/
def F_X6_vote_118 (N : Nat) (x3 : Option Nat) (S : cS) : Option Nat × cS := (x3, S)
def O_X6_vote_118 (N : Nat) (x3 : Option Nat) (S : cS) : Prop := True
set_option maxRecDepth 100000 in
set_option maxHeartbeats 4000000 in
theorem b_X6_vote_118 {G : zG} {o : Nat → Option va_E} {S : cS} {N : Nat} {Q : Option Value → cS → Prop} {X : Option Nat × cS → Prop} (hG : zOK G) (hR : ∀ v S', X (v, S') → Q (some (va_rf v)) S') {x3 : Option Nat} (ok : O_X6_vote_118 N x3 S) (hx : X (F_X6_vote_118 N x3 S)) : cX G o dX6_vote mX6_vote 118 [none, none, none, some (va_rf x3)] [] S Q := by
  unfold O_X6_vote_118 at ok
  unfold F_X6_vote_118 at hx
  refine c_aload_nQ dX6_vote_118 rfl rfl ?_
  exact c_areturn rfl (Or.inl ⟨_, rfl⟩) dX6_vote_119 (hR _ _ hx)
def F_X6_vote_103 (N : Nat) (x3 : Option Nat) (S : cS) : Option Nat × cS := (F_X6_vote_118 N x3 (f_X5_writeId N (csI S 5 (za x3) (nI 1)) (za x3) (cR (csI S 5 (za x3) (nI 1)) 0 (za x3)) (nI 6)))
def O_X6_vote_103 (N : Nat) (x3 : Option Nat) (S : cS) : Prop := (cis S x3 5) ∧ (cis (csI S 5 (za x3) (nI 1)) x3 5) ∧ (cis (csI S 5 (za x3) (nI 1)) x3 5 ∧ o_X5_writeId N (csI S 5 (za x3) (nI 1)) (za x3) (cR (csI S 5 (za x3) (nI 1)) 0 (za x3)) (nI 6)) ∧ O_X6_vote_118 N x3 (f_X5_writeId N (csI S 5 (za x3) (nI 1)) (za x3) (cR (csI S 5 (za x3) (nI 1)) 0 (za x3)) (nI 6))
set_option maxRecDepth 100000 in
set_option maxHeartbeats 4000000 in
theorem b_X6_vote_103 {G : zG} {o : Nat → Option va_E} {S : cS} {N : Nat} {Q : Option Value → cS → Prop} {X : Option Nat × cS → Prop} (hG : zOK G) (hR : ∀ v S', X (v, S') → Q (some (va_rf v)) S') {x3 : Option Nat} (ok : O_X6_vote_103 N x3 S) (hx : X (F_X6_vote_103 N x3 S)) : cX G o dX6_vote mX6_vote 103 [none, none, none, some (va_rf x3)] [] S Q := by
  unfold O_X6_vote_103 at ok
  unfold F_X6_vote_103 at hx
  refine c_aload_nQ dX6_vote_103 rfl rfl ?_
  refine c_iconst (v := nI 1) dX6_vote_104 (by decide) ?_
  refine c_putI (C := RX5) (T := TX5) (N := 7) (ci := 4) (k := 5) ⟨rfl, inT5, by decide, fX6_172⟩ ftT5 rfl (by decide) (by decide) (by decide) rfl rfl dX6_vote_105 ok.1 ?_
  have ok := ok.2
  refine c_aload_nQ dX6_vote_108 rfl rfl ?_
  refine c_aload_nQ dX6_vote_109 rfl rfl ?_
  refine c_getR (C := RX5) (T := TX5) (N := 7) (ci := 4) (k := 0) ⟨rfl, inT5, by decide, fX6_131⟩ (by decide) (by decide) (by decide) dX6_vote_110 ok.1 ?_
  have ok := ok.2
  refine c_bipush (v := nI 6) dX6_vote_113 (by decide) ?_
  refine c_V2v (ci := 4) (rr := (RX5, TX5, 7)) (y' := mX5_writeId) dX6_vote_115 lX6_175 kX5_writeId ⟨by decide, by decide⟩ rfl rfl (by decide) ok.1.1 (Nat.le_of_ble_eq_true rfl) (cc_X5_writeId hG ok.1.2) (fun S_115 h_115 => ?_)
  subst h_115
  have ok := ok.2
  exact cX.cutz (b_X6_vote_118 hG hR ok hx) ⟨rfl, trivial⟩
def F_X6_vote_85 (N : Nat) (x2 : Option Nat) (x3 : Option Nat) (S : cS) : Option Nat × cS := (if x2 = none then (F_X6_vote_118 N x3 S) else (F_X6_vote_103 N x3 (csJrow S (za (cR S 1 (za x3))) (va_cpy (cJ S (za (cR S 1 (za x2)))) (cJ S (za (cR S 1 (za x3)))) (nI 0).toNatClampNeg (nI 0).toNatClampNeg (nI 4).toNatClampNeg))))
def O_X6_vote_85 (N : Nat) (x2 : Option Nat) (x3 : Option Nat) (S : cS) : Prop := ((x2 = none → O_X6_vote_118 N x3 S) ∧ (¬ x2 = none → (cis S x2 5) ∧ (cis S x3 5) ∧ (cis S (cR S 1 (za x2)) 22 ∧ cis S (cR S 1 (za x3)) 22 ∧ (¬ (nI 0) < 0 ∧ ¬ (nI 0) < 0 ∧ ¬ (nI 4) < 0) ∧ (nI 0).toNatClampNeg + (nI 4).toNatClampNeg ≤ cL S (za (cR S 1 (za x2))) ∧ (nI 0).toNatClampNeg + (nI 4).toNatClampNeg ≤ cL S (za (cR S 1 (za x3)))) ∧ O_X6_vote_103 N x3 (csJrow S (za (cR S 1 (za x3))) (va_cpy (cJ S (za (cR S 1 (za x2)))) (cJ S (za (cR S 1 (za x3)))) (nI 0).toNatClampNeg (nI 0).toNatClampNeg (nI 4).toNatClampNeg))))
set_option maxRecDepth 100000 in
set_option maxHeartbeats 4000000 in
theorem b_X6_vote_85 {G : zG} {o : Nat → Option va_E} {S : cS} {N : Nat} {Q : Option Value → cS → Prop} {X : Option Nat × cS → Prop} (hG : zOK G) (hR : ∀ v S', X (v, S') → Q (some (va_rf v)) S') {x2 : Option Nat} {x3 : Option Nat} (ok : O_X6_vote_85 N x2 x3 S) (hx : X (F_X6_vote_85 N x2 x3 S)) : cX G o dX6_vote mX6_vote 85 [none, none, some (va_rf x2), some (va_rf x3)] [] S Q := by
  unfold O_X6_vote_85 at ok
  unfold F_X6_vote_85 at hx
  refine c_aload_nQ dX6_vote_85 rfl rfl ?_
  refine c_ifnullI (tgt := 118) dX6_vote_86 (by decide) (fun c_86 => ?_) (fun c_86 => ?_)
  · have ok := ok.1 c_86
    have hx := xif_p c_86 hx
    exact cX.cutz (b_X6_vote_118 hG hR ok hx) ⟨rfl, trivial⟩
  · have ok := ok.2 c_86
    have hx := xif_n c_86 hx
    refine c_aload_nQ dX6_vote_89 rfl rfl ?_
    refine c_getR (C := RX5) (T := TX5) (N := 7) (ci := 4) (k := 1) ⟨rfl, inT5, by decide, fX6_162⟩ (by decide) (by decide) (by decide) dX6_vote_90 ok.1 ?_
    have ok := ok.2
    refine c_iconst (v := nI 0) dX6_vote_93 (by decide) ?_
    refine c_aload_nQ dX6_vote_94 rfl rfl ?_
    refine c_getR (C := RX5) (T := TX5) (N := 7) (ci := 4) (k := 1) ⟨rfl, inT5, by decide, fX6_162⟩ (by decide) (by decide) (by decide) dX6_vote_95 ok.1 ?_
    have ok := ok.2
    refine c_iconst (v := nI 0) dX6_vote_98 (by decide) ?_
    refine c_iconst (v := nI 4) dX6_vote_99 (by decide) ?_
    refine c_copy2 hG dX6_vote_100 qX6_166 (by decide) (by decide) ok.1 ?_
    have ok := ok.2
    exact cX.cutz (b_X6_vote_103 hG hR ok hx) ⟨rfl, trivial⟩
def F_X6_vote_78 (N : Nat) (x2 : Option Nat) (x3 : Option Nat) (s0 : Option Nat) (s1 : Int32) (s2 : Int32) (S : cS) : Option Nat × cS := (F_X6_vote_85 N x2 x3 (csI (csA S (za s0) s1.toNatClampNeg ((s2.toInt8.toInt32).toInt8.toInt32)) 4 (za x3) (nI 1)))
def O_X6_vote_78 (N : Nat) (x2 : Option Nat) (x3 : Option Nat) (s0 : Option Nat) (s1 : Int32) (s2 : Int32) (S : cS) : Prop := (cis S s0 20 ∧ vp_in s1 (cL S (za s0))) ∧ (cis (csA S (za s0) s1.toNatClampNeg ((s2.toInt8.toInt32).toInt8.toInt32)) x3 5) ∧ O_X6_vote_85 N x2 x3 (csI (csA S (za s0) s1.toNatClampNeg ((s2.toInt8.toInt32).toInt8.toInt32)) 4 (za x3) (nI 1))
set_option maxRecDepth 100000 in
set_option maxHeartbeats 4000000 in
theorem b_X6_vote_78 {G : zG} {o : Nat → Option va_E} {S : cS} {N : Nat} {Q : Option Value → cS → Prop} {X : Option Nat × cS → Prop} (hG : zOK G) (hR : ∀ v S', X (v, S') → Q (some (va_rf v)) S') {x2 : Option Nat} {x3 : Option Nat} {s0 : Option Nat} {s1 : Int32} {s2 : Int32} (ok : O_X6_vote_78 N x2 x3 s0 s1 s2 S) (hx : X (F_X6_vote_78 N x2 x3 s0 s1 s2 S)) : cX G o dX6_vote mX6_vote 78 [none, none, some (va_rf x2), some (va_rf x3)] [.int s2, .int s1, va_rf s0] S Q := by
  unfold O_X6_vote_78 at ok
  unfold F_X6_vote_78 at hx
  refine c_i2b dX6_vote_78 ?_
  refine c_bast dX6_vote_79 ok.1 ?_
  have ok := ok.2
  refine c_aload_nQ dX6_vote_80 rfl rfl ?_
  refine c_iconst (v := nI 1) dX6_vote_81 (by decide) ?_
  refine c_putI (C := RX5) (T := TX5) (N := 7) (ci := 4) (k := 4) ⟨rfl, inT5, by decide, fX6_159⟩ ftT5 rfl (by decide) (by decide) (by decide) rfl rfl dX6_vote_82 ok.1 ?_
  have ok := ok.2
  exact cX.cutz (b_X6_vote_85 hG hR ok hx) ⟨rfl, rfl, trivial⟩
def F_X6_vote_53 (N : Nat) (x0 : Option Nat) (x2 : Option Nat) (x3 : Option Nat) (S : cS) : Option Nat × cS := (if x2 = none then (F_X6_vote_78 N x2 x3 (cR (csA S (za (cR S 0 (za x3))) (nI 4).toNatClampNeg (((cI S 10 (za x0)).toInt8.toInt32).toInt8.toInt32)) 0 (za x3)) (nI 5) (nI 0) (csA S (za (cR S 0 (za x3))) (nI 4).toNatClampNeg (((cI S 10 (za x0)).toInt8.toInt32).toInt8.toInt32))) else (F_X6_vote_78 N x2 x3 (cR (csA S (za (cR S 0 (za x3))) (nI 4).toNatClampNeg (((cI S 10 (za x0)).toInt8.toInt32).toInt8.toInt32)) 0 (za x3)) (nI 5) (nI 1) (csA S (za (cR S 0 (za x3))) (nI 4).toNatClampNeg (((cI S 10 (za x0)).toInt8.toInt32).toInt8.toInt32))))
def O_X6_vote_53 (N : Nat) (x0 : Option Nat) (x2 : Option Nat) (x3 : Option Nat) (S : cS) : Prop := (cis S x3 5) ∧ (cis S x0 6) ∧ (cis S (cR S 0 (za x3)) 20 ∧ vp_in (nI 4) (cL S (za (cR S 0 (za x3))))) ∧ (cis (csA S (za (cR S 0 (za x3))) (nI 4).toNatClampNeg (((cI S 10 (za x0)).toInt8.toInt32).toInt8.toInt32)) x3 5) ∧ ((x2 = none → O_X6_vote_78 N x2 x3 (cR (csA S (za (cR S 0 (za x3))) (nI 4).toNatClampNeg (((cI S 10 (za x0)).toInt8.toInt32).toInt8.toInt32)) 0 (za x3)) (nI 5) (nI 0) (csA S (za (cR S 0 (za x3))) (nI 4).toNatClampNeg (((cI S 10 (za x0)).toInt8.toInt32).toInt8.toInt32))) ∧ (¬ x2 = none → O_X6_vote_78 N x2 x3 (cR (csA S (za (cR S 0 (za x3))) (nI 4).toNatClampNeg (((cI S 10 (za x0)).toInt8.toInt32).toInt8.toInt32)) 0 (za x3)) (nI 5) (nI 1) (csA S (za (cR S 0 (za x3))) (nI 4).toNatClampNeg (((cI S 10 (za x0)).toInt8.toInt32).toInt8.toInt32))))
set_option maxRecDepth 100000 in
set_option maxHeartbeats 4000000 in
theorem b_X6_vote_53 {G : zG} {o : Nat → Option va_E} {S : cS} {N : Nat} {Q : Option Value → cS → Prop} {X : Option Nat × cS → Prop} (hG : zOK G) (hR : ∀ v S', X (v, S') → Q (some (va_rf v)) S') {x0 : Option Nat} {x2 : Option Nat} {x3 : Option Nat} (ok : O_X6_vote_53 N x0 x2 x3 S) (hx : X (F_X6_vote_53 N x0 x2 x3 S)) : cX G o dX6_vote mX6_vote 53 [some (va_rf x0), none, some (va_rf x2), some (va_rf x3)] [] S Q := by
  unfold O_X6_vote_53 at ok
  unfold F_X6_vote_53 at hx
  refine c_aload_nQ dX6_vote_53 rfl rfl ?_
  refine c_getR (C := RX5) (T := TX5) (N := 7) (ci := 4) (k := 0) ⟨rfl, inT5, by decide, fX6_131⟩ (by decide) (by decide) (by decide) dX6_vote_54 ok.1 ?_
  have ok := ok.2
  refine c_iconst (v := nI 4) dX6_vote_57 (by decide) ?_
  refine c_aload_nQ dX6_vote_58 rfl rfl ?_
  refine c_getI (C := RX6) (T := TX6) (N := 19) (ci := 5) (k := 10) ⟨rfl, inT6, by decide, fX6_86⟩ (by decide) (by decide) (by decide) dX6_vote_59 ok.1 ?_
  have ok := ok.2
  refine c_i2b dX6_vote_62 ?_
  refine c_bast dX6_vote_63 ok.1 ?_
  have ok := ok.2
  refine c_aload_nQ dX6_vote_64 rfl rfl ?_
  refine c_getR (C := RX5) (T := TX5) (N := 7) (ci := 4) (k := 0) ⟨rfl, inT5, by decide, fX6_131⟩ (by decide) (by decide) (by decide) dX6_vote_65 ok.1 ?_
  have ok := ok.2
  refine c_iconst (v := nI 5) dX6_vote_68 (by decide) ?_
  refine c_aload_nQ dX6_vote_69 rfl rfl ?_
  refine c_ifnonnullI (tgt := 77) dX6_vote_70 (by decide) (fun c_70 => ?_) (fun c_70 => ?_)
  · have ok := ok.2 c_70
    have hx := xif_n c_70 hx
    refine c_iconst (v := nI 1) dX6_vote_77 (by decide) ?_
    exact cX.cutz (b_X6_vote_78 hG hR ok hx) ⟨rfl, rfl, trivial⟩
  · have ok := ok.1 c_70
    have hx := xif_p c_70 hx
    refine c_iconst (v := nI 0) dX6_vote_73 (by decide) ?_
    refine c_goto (tgt := 78) dX6_vote_74 (by decide) ?_
    exact cX.cutz (b_X6_vote_78 hG hR ok hx) ⟨rfl, rfl, trivial⟩
def F_X6_vote_41 (N : Nat) (x0 : Option Nat) (x2 : Option Nat) (x3 : Option Nat) (S : cS) : Option Nat × cS := (F_X6_vote_53 N x0 x2 x3 (f_X11_putTwo N S (cR S 0 (za x3)) (nI 2) (cI S 9 (za x0))))
def O_X6_vote_41 (N : Nat) (x0 : Option Nat) (x2 : Option Nat) (x3 : Option Nat) (S : cS) : Prop := (cis S x3 5) ∧ (cis S x0 6) ∧ (o_X11_putTwo N S (cR S 0 (za x3)) (nI 2) (cI S 9 (za x0))) ∧ O_X6_vote_53 N x0 x2 x3 (f_X11_putTwo N S (cR S 0 (za x3)) (nI 2) (cI S 9 (za x0)))
set_option maxRecDepth 100000 in
set_option maxHeartbeats 4000000 in
theorem b_X6_vote_41 {G : zG} {o : Nat → Option va_E} {S : cS} {N : Nat} {Q : Option Value → cS → Prop} {X : Option Nat × cS → Prop} (hG : zOK G) (hR : ∀ v S', X (v, S') → Q (some (va_rf v)) S') {x0 : Option Nat} {x2 : Option Nat} {x3 : Option Nat} (ok : O_X6_vote_41 N x0 x2 x3 S) (hx : X (F_X6_vote_41 N x0 x2 x3 S)) : cX G o dX6_vote mX6_vote 41 [some (va_rf x0), none, some (va_rf x2), some (va_rf x3)] [] S Q := by
  unfold O_X6_vote_41 at ok
  unfold F_X6_vote_41 at hx
  refine c_aload_nQ dX6_vote_41 rfl rfl ?_
  refine c_getR (C := RX5) (T := TX5) (N := 7) (ci := 4) (k := 0) ⟨rfl, inT5, by decide, fX6_131⟩ (by decide) (by decide) (by decide) dX6_vote_42 ok.1 ?_
  have ok := ok.2
  refine c_iconst (v := nI 2) dX6_vote_45 (by decide) ?_
  refine c_aload_nQ dX6_vote_46 rfl rfl ?_
  refine c_getI (C := RX6) (T := TX6) (N := 19) (ci := 5) (k := 9) ⟨rfl, inT6, by decide, fX6_43⟩ (by decide) (by decide) (by decide) dX6_vote_47 ok.1 ?_
  have ok := ok.2
  refine c_SN3v (y' := mX11_putTwo) dX6_vote_50 lX6_134 kX11_putTwo ⟨by decide, by decide⟩ (Nat.le_of_ble_eq_true rfl) (cc_X11_putTwo hG ok.1) (fun S_50 h_50 => ?_)
  subst h_50
  have ok := ok.2
  exact cX.cutz (b_X6_vote_53 hG hR ok hx) ⟨rfl, rfl, rfl, trivial⟩
def F_X6_vote_21 (N : Nat) (x0 : Option Nat) (x1 : Int32) (x2 : Option Nat) (s0 : Option Nat) (S : cS) : Option Nat × cS := (F_X6_vote_41 N x0 x2 s0 (csA (csA S (za (cR S 0 (za s0))) (nI 0).toNatClampNeg ((x1.toInt8.toInt32).toInt8.toInt32)) (za (cR (csA S (za (cR S 0 (za s0))) (nI 0).toNatClampNeg ((x1.toInt8.toInt32).toInt8.toInt32)) 0 (za s0))) (nI 1).toNatClampNeg (((cI (csA S (za (cR S 0 (za s0))) (nI 0).toNatClampNeg ((x1.toInt8.toInt32).toInt8.toInt32)) 1 (za x0)).toInt8.toInt32).toInt8.toInt32)))
def O_X6_vote_21 (N : Nat) (x0 : Option Nat) (x1 : Int32) (x2 : Option Nat) (s0 : Option Nat) (S : cS) : Prop := (cis S s0 5) ∧ (cis S (cR S 0 (za s0)) 20 ∧ vp_in (nI 0) (cL S (za (cR S 0 (za s0))))) ∧ (cis (csA S (za (cR S 0 (za s0))) (nI 0).toNatClampNeg ((x1.toInt8.toInt32).toInt8.toInt32)) s0 5) ∧ (cis (csA S (za (cR S 0 (za s0))) (nI 0).toNatClampNeg ((x1.toInt8.toInt32).toInt8.toInt32)) x0 6) ∧ (cis (csA S (za (cR S 0 (za s0))) (nI 0).toNatClampNeg ((x1.toInt8.toInt32).toInt8.toInt32)) (cR (csA S (za (cR S 0 (za s0))) (nI 0).toNatClampNeg ((x1.toInt8.toInt32).toInt8.toInt32)) 0 (za s0)) 20 ∧ vp_in (nI 1) (cL (csA S (za (cR S 0 (za s0))) (nI 0).toNatClampNeg ((x1.toInt8.toInt32).toInt8.toInt32)) (za (cR (csA S (za (cR S 0 (za s0))) (nI 0).toNatClampNeg ((x1.toInt8.toInt32).toInt8.toInt32)) 0 (za s0))))) ∧ O_X6_vote_41 N x0 x2 s0 (csA (csA S (za (cR S 0 (za s0))) (nI 0).toNatClampNeg ((x1.toInt8.toInt32).toInt8.toInt32)) (za (cR (csA S (za (cR S 0 (za s0))) (nI 0).toNatClampNeg ((x1.toInt8.toInt32).toInt8.toInt32)) 0 (za s0))) (nI 1).toNatClampNeg (((cI (csA S (za (cR S 0 (za s0))) (nI 0).toNatClampNeg ((x1.toInt8.toInt32).toInt8.toInt32)) 1 (za x0)).toInt8.toInt32).toInt8.toInt32))
set_option maxRecDepth 100000 in
set_option maxHeartbeats 4000000 in
theorem b_X6_vote_21 {G : zG} {o : Nat → Option va_E} {S : cS} {N : Nat} {Q : Option Value → cS → Prop} {X : Option Nat × cS → Prop} (hG : zOK G) (hR : ∀ v S', X (v, S') → Q (some (va_rf v)) S') {x0 : Option Nat} {x1 : Int32} {x2 : Option Nat} {s0 : Option Nat} (ok : O_X6_vote_21 N x0 x1 x2 s0 S) (hx : X (F_X6_vote_21 N x0 x1 x2 s0 S)) : cX G o dX6_vote mX6_vote 21 [some (va_rf x0), some (.int x1), some (va_rf x2), none] [va_rf s0] S Q := by
  unfold O_X6_vote_21 at ok
  unfold F_X6_vote_21 at hx
  refine c_astore_3Q dX6_vote_21 (by decide) (by simp [zok, zg, zcat_rf]) ?_
  refine c_aload_nQ dX6_vote_22 rfl rfl ?_
  refine c_getR (C := RX5) (T := TX5) (N := 7) (ci := 4) (k := 0) ⟨rfl, inT5, by decide, fX6_131⟩ (by decide) (by decide) (by decide) dX6_vote_23 ok.1 ?_
  have ok := ok.2
  refine c_iconst (v := nI 0) dX6_vote_26 (by decide) ?_
  refine c_iload_n dX6_vote_27 rfl rfl ?_
  refine c_i2b dX6_vote_28 ?_
  refine c_bast dX6_vote_29 ok.1 ?_
  have ok := ok.2
  refine c_aload_nQ dX6_vote_30 rfl rfl ?_
  refine c_getR (C := RX5) (T := TX5) (N := 7) (ci := 4) (k := 0) ⟨rfl, inT5, by decide, fX6_131⟩ (by decide) (by decide) (by decide) dX6_vote_31 ok.1 ?_
  have ok := ok.2
  refine c_iconst (v := nI 1) dX6_vote_34 (by decide) ?_
  refine c_aload_nQ dX6_vote_35 rfl rfl ?_
  refine c_getI (C := RX6) (T := TX6) (N := 19) (ci := 5) (k := 1) ⟨rfl, inT6, by decide, fX6_60⟩ (by decide) (by decide) (by decide) dX6_vote_36 ok.1 ?_
  have ok := ok.2
  refine c_i2b dX6_vote_39 ?_
  refine c_bast dX6_vote_40 ok.1 ?_
  have ok := ok.2
  exact cX.cutz (b_X6_vote_41 hG hR ok hx) ⟨rfl, rfl, rfl, trivial⟩
def F_X6_vote_18 (N : Nat) (x0 : Option Nat) (x1 : Int32) (x2 : Option Nat) (s0 : Option Nat) (s1 : Int32) (S : cS) : Option Nat × cS := (F_X6_vote_21 N x0 x1 x2 ((f_X9_fresh N S (za s0) s1).1) (f_X9_fresh N S (za s0) s1).2)
def O_X6_vote_18 (N : Nat) (x0 : Option Nat) (x1 : Int32) (x2 : Option Nat) (s0 : Option Nat) (s1 : Int32) (S : cS) : Prop := (cis S s0 8 ∧ o_X9_fresh N S (za s0) s1) ∧ O_X6_vote_21 N x0 x1 x2 ((f_X9_fresh N S (za s0) s1).1) (f_X9_fresh N S (za s0) s1).2
set_option maxRecDepth 100000 in
set_option maxHeartbeats 4000000 in
theorem b_X6_vote_18 {G : zG} {o : Nat → Option va_E} {S : cS} {N : Nat} {Q : Option Value → cS → Prop} {X : Option Nat × cS → Prop} (hG : zOK G) (hR : ∀ v S', X (v, S') → Q (some (va_rf v)) S') {x0 : Option Nat} {x1 : Int32} {x2 : Option Nat} {s0 : Option Nat} {s1 : Int32} (ok : O_X6_vote_18 N x0 x1 x2 s0 s1 S) (hx : X (F_X6_vote_18 N x0 x1 x2 s0 s1 S)) : cX G o dX6_vote mX6_vote 18 [some (va_rf x0), some (.int x1), some (va_rf x2), none] [.int s1, va_rf s0] S Q := by
  unfold O_X6_vote_18 at ok
  unfold F_X6_vote_18 at hx
  refine c_V1q (ci := 7) (rr := (RX9, TX9, 13)) (y' := mX9_fresh) dX6_vote_18 lX6_127 kX9_fresh ⟨by decide, by decide⟩ rfl rfl (by decide) ok.1.1 (Nat.le_of_ble_eq_true rfl) (cc_X9_fresh hG ok.1.2) (fun v_18 S_18 h_18 => ?_)
  obtain ⟨hv_18, hS_18⟩ := h_18
  subst hv_18
  have hS_18 := hS_18.symm
  subst hS_18
  have ok := ok.2
  exact cX.cutz (b_X6_vote_21 hG hR ok hx) ⟨rfl, rfl, rfl, trivial⟩
def F_X6_vote_0 (N : Nat) (x0 : Option Nat) (x1 : Int32) (x2 : Option Nat) (S : cS) : Option Nat × cS := (if x2 = none then (F_X6_vote_18 N x0 x1 x2 (cR S 6 (za (cR S 0 (za x0)))) (nI 6) S) else (F_X6_vote_18 N x0 x1 x2 (cR S 6 (za (cR S 0 (za x0)))) (nI 38) S))
def O_X6_vote_0 (N : Nat) (x0 : Option Nat) (x1 : Int32) (x2 : Option Nat) (S : cS) : Prop := (cis S x0 6) ∧ (cis S (cR S 0 (za x0)) 9) ∧ ((x2 = none → O_X6_vote_18 N x0 x1 x2 (cR S 6 (za (cR S 0 (za x0)))) (nI 6) S) ∧ (¬ x2 = none → O_X6_vote_18 N x0 x1 x2 (cR S 6 (za (cR S 0 (za x0)))) (nI 38) S))
set_option maxRecDepth 100000 in
set_option maxHeartbeats 4000000 in
theorem b_X6_vote_0 {G : zG} {o : Nat → Option va_E} {S : cS} {N : Nat} {Q : Option Value → cS → Prop} {X : Option Nat × cS → Prop} (hG : zOK G) (hR : ∀ v S', X (v, S') → Q (some (va_rf v)) S') {x0 : Option Nat} {x1 : Int32} {x2 : Option Nat} (ok : O_X6_vote_0 N x0 x1 x2 S) (hx : X (F_X6_vote_0 N x0 x1 x2 S)) : cX G o dX6_vote mX6_vote 0 [some (va_rf x0), some (.int x1), some (va_rf x2), none] [] S Q := by
  unfold O_X6_vote_0 at ok
  unfold F_X6_vote_0 at hx
  refine c_aload_nQ dX6_vote_0 rfl rfl ?_
  refine c_getR (C := RX6) (T := TX6) (N := 19) (ci := 5) (k := 0) ⟨rfl, inT6, by decide, fX6_56⟩ (by decide) (by decide) (by decide) dX6_vote_1 ok.1 ?_
  have ok := ok.2
  refine c_getR (C := RX10) (T := TX10) (N := 12) (ci := 8) (k := 6) ⟨rfl, inT10, by decide, fX6_65⟩ (by decide) (by decide) (by decide) dX6_vote_4 ok.1 ?_
  have ok := ok.2
  refine c_aload_nQ dX6_vote_7 rfl rfl ?_
  refine c_ifnonnullI (tgt := 16) dX6_vote_8 (by decide) (fun c_8 => ?_) (fun c_8 => ?_)
  · have ok := ok.2 c_8
    have hx := xif_n c_8 hx
    refine c_bipush (v := nI 38) dX6_vote_16 (by decide) ?_
    exact cX.cutz (b_X6_vote_18 hG hR ok hx) ⟨rfl, rfl, rfl, trivial⟩
  · have ok := ok.1 c_8
    have hx := xif_p c_8 hx
    refine c_bipush (v := nI 6) dX6_vote_11 (by decide) ?_
    refine c_goto (tgt := 18) dX6_vote_13 (by decide) ?_
    exact cX.cutz (b_X6_vote_18 hG hR ok hx) ⟨rfl, rfl, rfl, trivial⟩
def f_X6_vote (N : Nat) (S : cS) (a0 : Nat) (x1 : Int32) (x2 : Option Nat) : Option Nat × cS := F_X6_vote_0 N (some a0) x1 x2 S
def o_X6_vote (N : Nat) (S : cS) (a0 : Nat) (x1 : Int32) (x2 : Option Nat) : Prop := O_X6_vote_0 N (some a0) x1 x2 S
set_option maxRecDepth 100000 in
set_option maxHeartbeats 4000000 in
theorem cc_X6_vote {G : zG} {o : Nat → Option va_E} {S : cS} {N : Nat} (hG : zOK G) {a0 : Nat} {x1 : Int32} {x2 : Option Nat} (ok : o_X6_vote N S a0 x1 x2) : cCq G o dX6_vote mX6_vote [.ref a0, .int x1, va_rf x2] S (fun v S' => v = (f_X6_vote N S a0 x1 x2).1 ∧ S' = (f_X6_vote N S a0 x1 x2).2) := by
  refine cC.ofX rfl (by cases x2 <;> exact Nat.le_of_ble_eq_true rfl) ?_
  rw [show zargs mX6_vote.2.2.1 [.ref a0, .int x1, va_rf x2] = [some (.ref a0), some (.int x1), some (va_rf x2), none] from by cases x2 <;> rfl]
  exact cX.cutz (b_X6_vote_0 (X := fun F => F = f_X6_vote N S a0 x1 x2) hG (fun v S' h => ⟨v, rfl, by rw [← h], by rw [← h]⟩) ok rfl) ⟨rfl, rfl, rfl, trivial⟩
/-! X6_forgetAnswers -/
def F_X6_forgetAnswers_47 (N : Nat)  (S : cS) : cS := S
def O_X6_forgetAnswers_47 (N : Nat)  (S : cS) : Prop := True
set_option maxRecDepth 100000 in
set_option maxHeartbeats 4000000 in
theorem b_X6_forgetAnswers_47 {G : zG} {o : Nat → Option va_E} {S : cS} {N : Nat} {Q : Option Value → cS → Prop} {X : cS → Prop} (hG : zOK G) (hR : ∀ S', X S' → Q none S') (ok : O_X6_forgetAnswers_47 N S) (hx : X (F_X6_forgetAnswers_47 N S)) : cX G o dX6_forgetAnswers mX6_forgetAnswers 47 [none, none, none, none] [] S Q := by
  unfold O_X6_forgetAnswers_47 at ok
  unfold F_X6_forgetAnswers_47 at hx
  exact c_return rfl dX6_forgetAnswers_47 (hR _ hx)
def F_X6_forgetAnswers_32 (N : Nat) (rec : Option Nat → Int32 → Int32 → Int32 → cS → Nat × cS) (x0 : Option Nat) (x1 : Int32) (x2 : Int32) (x3 : Int32) (S : cS) : Nat × cS := (rec x0 x1 x2 (x3 + nI 1) (csP S (za (cR S 7 (za x0))) (x3 &&& (nI 3)).toNatClampNeg (none)))
def O_X6_forgetAnswers_32 (N : Nat) (rok : Option Nat → Int32 → Int32 → Int32 → cS → Prop) (x0 : Option Nat) (x1 : Int32) (x2 : Int32) (x3 : Int32) (S : cS) : Prop := (cis S x0 6) ∧ (cis S (cR S 7 (za x0)) 24 ∧ vp_in (x3 &&& (nI 3)) (cL S (za (cR S 7 (za x0)))) ∧ ((none) = none ∨ cis S (none) 5)) ∧ rok x0 x1 x2 (x3 + nI 1) (csP S (za (cR S 7 (za x0))) (x3 &&& (nI 3)).toNatClampNeg (none))
set_option maxRecDepth 100000 in
set_option maxHeartbeats 4000000 in
theorem b_X6_forgetAnswers_32 {G : zG} {o : Nat → Option va_E} {S : cS} {N : Nat} {Q : Option Value → cS → Prop} {X : Nat × cS → Prop} (hG : zOK G) (hX0 : ∀ (S' : cS), X (0, S') → cX G o dX6_forgetAnswers mX6_forgetAnswers 47 [none, none, none, none] [] S' Q) {rec : Option Nat → Int32 → Int32 → Int32 → cS → Nat × cS} {rok : Option Nat → Int32 → Int32 → Int32 → cS → Prop} (hrec : ∀ (x0 : Option Nat) (x1 : Int32) (x2 : Int32) (x3 : Int32) (S : cS), rok x0 x1 x2 x3 S → X (rec x0 x1 x2 x3 S) → cX G o dX6_forgetAnswers mX6_forgetAnswers 2 [some (va_rf x0), some (.int x1), some (.int x2), some (.int x3)] [] S Q) {x0 : Option Nat} {x1 : Int32} {x2 : Int32} {x3 : Int32} (ok : O_X6_forgetAnswers_32 N rok x0 x1 x2 x3 S) (hx : X (F_X6_forgetAnswers_32 N rec x0 x1 x2 x3 S)) : cX G o dX6_forgetAnswers mX6_forgetAnswers 32 [some (va_rf x0), some (.int x1), some (.int x2), some (.int x3)] [] S Q := by
  unfold O_X6_forgetAnswers_32 at ok
  unfold F_X6_forgetAnswers_32 at hx
  refine c_aload_nQ dX6_forgetAnswers_32 rfl rfl ?_
  refine c_getR (C := RX6) (T := TX6) (N := 19) (ci := 5) (k := 7) ⟨rfl, inT6, by decide, fX6_35⟩ (by decide) (by decide) (by decide) dX6_forgetAnswers_33 ok.1 ?_
  have ok := ok.2
  refine c_iload_n dX6_forgetAnswers_36 rfl rfl ?_
  refine c_iconst (v := nI 3) dX6_forgetAnswers_37 (by decide) ?_
  refine c_iand dX6_forgetAnswers_38 ?_
  refine c_null' dX6_forgetAnswers_39 ?_
  refine c_aast (t := 4) (ci := 4) (rr := (RX5, TX5, 7)) rfl rfl (by decide) (by decide) dX6_forgetAnswers_40 ok.1 ?_
  have ok := ok.2
  refine c_iinc_3 (v := (x3 + nI 1)) dX6_forgetAnswers_41 rfl (by first | rfl | (congr 1)) (by decide) rfl ?_
  refine c_goto (tgt := 2) dX6_forgetAnswers_44 (by decide) ?_
  exact cX.cutz (hrec _ _ _ _ (csP S (za (cR S 7 (za x0))) (x3 &&& (nI 3)).toNatClampNeg (none)) ok hx) ⟨rfl, rfl, rfl, rfl, trivial⟩
def B_X6_forgetAnswers_2 (N : Nat) (rec : Option Nat → Int32 → Int32 → Int32 → cS → Nat × cS) (x0 : Option Nat) (x1 : Int32) (x2 : Int32) (x3 : Int32) (S : cS) : Nat × cS := (if x2 ≤ x3 then (0, S) else (if (x1 + (nI 4)) ≤ x3 then (0, S) else (F_X6_forgetAnswers_32 N rec x0 x1 x2 x3 (f_X9_drop N S (za (cR S 6 (za (cR S 0 (za x0))))) (cP S (za (cR S 7 (za x0))) (x3 &&& (nI 3)).toNatClampNeg)))))
def OB_X6_forgetAnswers_2 (N : Nat) (rok : Option Nat → Int32 → Int32 → Int32 → cS → Prop) (x0 : Option Nat) (x1 : Int32) (x2 : Int32) (x3 : Int32) (S : cS) : Prop := ((x2 ≤ x3 → True) ∧ (¬ x2 ≤ x3 → (((x1 + (nI 4)) ≤ x3 → True) ∧ (¬ (x1 + (nI 4)) ≤ x3 → (cis S x0 6) ∧ (cis S (cR S 0 (za x0)) 9) ∧ (cis S x0 6) ∧ (cis S (cR S 7 (za x0)) 24 ∧ vp_in (x3 &&& (nI 3)) (cL S (za (cR S 7 (za x0))))) ∧ (cis S (cR S 6 (za (cR S 0 (za x0)))) 8 ∧ o_X9_drop N S (za (cR S 6 (za (cR S 0 (za x0))))) (cP S (za (cR S 7 (za x0))) (x3 &&& (nI 3)).toNatClampNeg)) ∧ O_X6_forgetAnswers_32 N rok x0 x1 x2 x3 (f_X9_drop N S (za (cR S 6 (za (cR S 0 (za x0))))) (cP S (za (cR S 7 (za x0))) (x3 &&& (nI 3)).toNatClampNeg))))))
set_option maxRecDepth 100000 in
set_option maxHeartbeats 4000000 in
theorem bb_X6_forgetAnswers_2 {G : zG} {o : Nat → Option va_E} {S : cS} {N : Nat} {Q : Option Value → cS → Prop} {X : Nat × cS → Prop} (hG : zOK G) (hX0 : ∀ (S' : cS), X (0, S') → cX G o dX6_forgetAnswers mX6_forgetAnswers 47 [none, none, none, none] [] S' Q) {rec : Option Nat → Int32 → Int32 → Int32 → cS → Nat × cS} {rok : Option Nat → Int32 → Int32 → Int32 → cS → Prop} (hrec : ∀ (x0 : Option Nat) (x1 : Int32) (x2 : Int32) (x3 : Int32) (S : cS), rok x0 x1 x2 x3 S → X (rec x0 x1 x2 x3 S) → cX G o dX6_forgetAnswers mX6_forgetAnswers 2 [some (va_rf x0), some (.int x1), some (.int x2), some (.int x3)] [] S Q) {x0 : Option Nat} {x1 : Int32} {x2 : Int32} {x3 : Int32} (ok : OB_X6_forgetAnswers_2 N rok x0 x1 x2 x3 S) (hx : X (B_X6_forgetAnswers_2 N rec x0 x1 x2 x3 S)) : cX G o dX6_forgetAnswers mX6_forgetAnswers 2 [some (va_rf x0), some (.int x1), some (.int x2), some (.int x3)] [] S Q := by
  unfold OB_X6_forgetAnswers_2 at ok
  unfold B_X6_forgetAnswers_2 at hx
  refine c_iload_n dX6_forgetAnswers_2 rfl rfl ?_
  refine c_iload_n dX6_forgetAnswers_3 rfl rfl ?_
  refine c_icmp_ge (tgt := 47) dX6_forgetAnswers_4 (by decide) (fun c_4 => ?_) (fun c_4 => ?_)
  · have ok := ok.1 c_4
    have hx := xif_p c_4 hx
    exact cX.cutz (hX0 S hx) trivial
  · have ok := ok.2 c_4
    have hx := xif_n c_4 hx
    refine c_iload_n dX6_forgetAnswers_7 rfl rfl ?_
    refine c_iload_n dX6_forgetAnswers_8 rfl rfl ?_
    refine c_iconst (v := nI 4) dX6_forgetAnswers_9 (by decide) ?_
    refine c_iadd dX6_forgetAnswers_10 ?_
    refine c_icmp_ge (tgt := 47) dX6_forgetAnswers_11 (by decide) (fun c_11 => ?_) (fun c_11 => ?_)
    · have ok := ok.1 c_11
      have hx := xif_p c_11 hx
      exact cX.cutz (hX0 S hx) trivial
    · have ok := ok.2 c_11
      have hx := xif_n c_11 hx
      refine c_aload_nQ dX6_forgetAnswers_14 rfl rfl ?_
      refine c_getR (C := RX6) (T := TX6) (N := 19) (ci := 5) (k := 0) ⟨rfl, inT6, by decide, fX6_56⟩ (by decide) (by decide) (by decide) dX6_forgetAnswers_15 ok.1 ?_
      have ok := ok.2
      refine c_getR (C := RX10) (T := TX10) (N := 12) (ci := 8) (k := 6) ⟨rfl, inT10, by decide, fX6_65⟩ (by decide) (by decide) (by decide) dX6_forgetAnswers_18 ok.1 ?_
      have ok := ok.2
      refine c_aload_nQ dX6_forgetAnswers_21 rfl rfl ?_
      refine c_getR (C := RX6) (T := TX6) (N := 19) (ci := 5) (k := 7) ⟨rfl, inT6, by decide, fX6_35⟩ (by decide) (by decide) (by decide) dX6_forgetAnswers_22 ok.1 ?_
      have ok := ok.2
      refine c_iload_n dX6_forgetAnswers_25 rfl rfl ?_
      refine c_iconst (v := nI 3) dX6_forgetAnswers_26 (by decide) ?_
      refine c_iand dX6_forgetAnswers_27 ?_
      refine c_aald (t := 4) (ty := (.object "QuorumLedger$Message")) rfl rfl (by decide) dX6_forgetAnswers_28 ok.1 ?_
      have ok := ok.2
      refine c_V1v (ci := 7) (rr := (RX9, TX9, 13)) (y' := mX9_drop) dX6_forgetAnswers_29 lX6_123 kX9_drop ⟨by decide, by decide⟩ rfl rfl (by decide) ok.1.1 (Nat.le_of_ble_eq_true rfl) (cc_X9_drop hG ok.1.2) (fun S_29 h_29 => ?_)
      subst h_29
      have ok := ok.2
      exact cX.cutz (b_X6_forgetAnswers_32 hG hX0 hrec ok hx) ⟨rfl, rfl, rfl, rfl, trivial⟩
def L_X6_forgetAnswers_2 (N : Nat) : Nat → Option Nat → Int32 → Int32 → Int32 → cS → Nat × cS
  | 0, x0, x1, x2, x3, S => (0, S)
  | n + 1, x0, x1, x2, x3, S => B_X6_forgetAnswers_2 N (L_X6_forgetAnswers_2 N n) x0 x1 x2 x3 S
def OL_X6_forgetAnswers_2 (N : Nat) : Nat → Option Nat → Int32 → Int32 → Int32 → cS → Prop
  | 0, _, _, _, _, _ => False
  | n + 1, x0, x1, x2, x3, S => OB_X6_forgetAnswers_2 N (OL_X6_forgetAnswers_2 N n) x0 x1 x2 x3 S
set_option maxRecDepth 100000 in
set_option maxHeartbeats 4000000 in
theorem l_X6_forgetAnswers_2 {G : zG} {o : Nat → Option va_E} {N : Nat} {Q : Option Value → cS → Prop} {X : Nat × cS → Prop} (hG : zOK G) (hX0 : ∀ (S' : cS), X (0, S') → cX G o dX6_forgetAnswers mX6_forgetAnswers 47 [none, none, none, none] [] S' Q) : ∀ (n : Nat) (x0 : Option Nat) (x1 : Int32) (x2 : Int32) (x3 : Int32) (S : cS), OL_X6_forgetAnswers_2 N n x0 x1 x2 x3 S → X (L_X6_forgetAnswers_2 N n x0 x1 x2 x3 S) → cX G o dX6_forgetAnswers mX6_forgetAnswers 2 [some (va_rf x0), some (.int x1), some (.int x2), some (.int x3)] [] S Q := by
  intro n
  induction n with
  | zero => intro x0 x1 x2 x3 S ok; exact absurd ok id
  | succ n ih =>
    intro x0 x1 x2 x3 S ok hx
    exact bb_X6_forgetAnswers_2 hG hX0 (rec := L_X6_forgetAnswers_2 N n) (rok := OL_X6_forgetAnswers_2 N n) (fun x0 x1 x2 x3 S ok hx => ih x0 x1 x2 x3 S ok hx) ok hx
def A_X6_forgetAnswers_2 (N : Nat) (x0 : Option Nat) (x1 : Int32) (x2 : Int32) (x3 : Int32) (S : cS) (z : Nat × cS) : cS := (F_X6_forgetAnswers_47 N z.2)
def OA_X6_forgetAnswers_2 (N : Nat) (x0 : Option Nat) (x1 : Int32) (x2 : Int32) (x3 : Int32) (S : cS) (z : Nat × cS) : Prop := O_X6_forgetAnswers_47 N z.2
set_option maxRecDepth 100000 in
set_option maxHeartbeats 4000000 in
theorem c_X6_forgetAnswers_2 {G : zG} {o : Nat → Option va_E} {S : cS} {N : Nat} {Q : Option Value → cS → Prop} {X : cS → Prop} (hG : zOK G) (hR : ∀ S', X S' → Q none S') {x0 : Option Nat} {x1 : Int32} {x2 : Int32} {x3 : Int32} (ok : OL_X6_forgetAnswers_2 N N x0 x1 x2 x3 S ∧ OA_X6_forgetAnswers_2 N x0 x1 x2 x3 S (L_X6_forgetAnswers_2 N N x0 x1 x2 x3 S)) (hx : X (A_X6_forgetAnswers_2 N x0 x1 x2 x3 S (L_X6_forgetAnswers_2 N N x0 x1 x2 x3 S))) : cX G o dX6_forgetAnswers mX6_forgetAnswers 2 [some (va_rf x0), some (.int x1), some (.int x2), some (.int x3)] [] S Q := by
  refine l_X6_forgetAnswers_2 hG ?_ N x0 x1 x2 x3 S ok.1 (X := fun z => OA_X6_forgetAnswers_2 N x0 x1 x2 x3 S z ∧ X (A_X6_forgetAnswers_2 N x0 x1 x2 x3 S z)) ⟨ok.2, hx⟩
  · intro S' hz
    obtain ⟨ok, hx⟩ := hz
    unfold OA_X6_forgetAnswers_2 at ok
    unfold A_X6_forgetAnswers_2 at hx
    exact cX.cutz (b_X6_forgetAnswers_47 hG hR ok hx) trivial
def F_X6_forgetAnswers_0 (N : Nat) (x0 : Option Nat) (x1 : Int32) (x2 : Int32) (S : cS) : cS := (A_X6_forgetAnswers_2 N x0 x1 x2 x1 S (L_X6_forgetAnswers_2 N N x0 x1 x2 x1 S))
def O_X6_forgetAnswers_0 (N : Nat) (x0 : Option Nat) (x1 : Int32) (x2 : Int32) (S : cS) : Prop := (OL_X6_forgetAnswers_2 N N x0 x1 x2 x1 S ∧ OA_X6_forgetAnswers_2 N x0 x1 x2 x1 S (L_X6_forgetAnswers_2 N N x0 x1 x2 x1 S))
set_option maxRecDepth 100000 in
set_option maxHeartbeats 4000000 in
theorem b_X6_forgetAnswers_0 {G : zG} {o : Nat → Option va_E} {S : cS} {N : Nat} {Q : Option Value → cS → Prop} {X : cS → Prop} (hG : zOK G) (hR : ∀ S', X S' → Q none S') {x0 : Option Nat} {x1 : Int32} {x2 : Int32} (ok : O_X6_forgetAnswers_0 N x0 x1 x2 S) (hx : X (F_X6_forgetAnswers_0 N x0 x1 x2 S)) : cX G o dX6_forgetAnswers mX6_forgetAnswers 0 [some (va_rf x0), some (.int x1), some (.int x2), none] [] S Q := by
  unfold O_X6_forgetAnswers_0 at ok
  unfold F_X6_forgetAnswers_0 at hx
  refine c_iload_n dX6_forgetAnswers_0 rfl rfl ?_
  refine c_istore_3 dX6_forgetAnswers_1 (by decide) rfl ?_
  exact cX.cutz (c_X6_forgetAnswers_2 hG hR ok hx) ⟨rfl, rfl, rfl, rfl, trivial⟩
def f_X6_forgetAnswers (N : Nat) (S : cS) (a0 : Nat) (x1 : Int32) (x2 : Int32) : cS := F_X6_forgetAnswers_0 N (some a0) x1 x2 S
def o_X6_forgetAnswers (N : Nat) (S : cS) (a0 : Nat) (x1 : Int32) (x2 : Int32) : Prop := O_X6_forgetAnswers_0 N (some a0) x1 x2 S
set_option maxRecDepth 100000 in
set_option maxHeartbeats 4000000 in
theorem cc_X6_forgetAnswers {G : zG} {o : Nat → Option va_E} {S : cS} {N : Nat} (hG : zOK G) {a0 : Nat} {x1 : Int32} {x2 : Int32} (ok : o_X6_forgetAnswers N S a0 x1 x2) : cCv G o dX6_forgetAnswers mX6_forgetAnswers [.ref a0, .int x1, .int x2] S (fun S' => S' = f_X6_forgetAnswers N S a0 x1 x2) := by
  refine cC.ofX rfl (by exact Nat.le_of_ble_eq_true rfl) ?_
  show cX G o dX6_forgetAnswers mX6_forgetAnswers 0 [some (.ref a0), some (.int x1), some (.int x2), none] [] S _
  exact cX.cutz (b_X6_forgetAnswers_0 (X := fun F => F = f_X6_forgetAnswers N S a0 x1 x2) hG (fun S' h => ⟨rfl, h⟩) ok rfl) ⟨rfl, rfl, rfl, trivial⟩
/-! X7_signProposal -/
def F_X7_signProposal_21 (N : Nat) (x0 : Option Nat) (x1 : Option Nat) (x2 : Int32) (S : cS) : cS := (csA (csA S (za x1) (nI 4).toNatClampNeg (((cI S 10 (za x0)).toInt8.toInt32).toInt8.toInt32)) (za x1) (nI 5).toNatClampNeg ((x2.toInt8.toInt32).toInt8.toInt32))
def O_X7_signProposal_21 (N : Nat) (x0 : Option Nat) (x1 : Option Nat) (x2 : Int32) (S : cS) : Prop := (cis S x0 6) ∧ (cis S x1 20 ∧ vp_in (nI 4) (cL S (za x1))) ∧ (cis (csA S (za x1) (nI 4).toNatClampNeg (((cI S 10 (za x0)).toInt8.toInt32).toInt8.toInt32)) x1 20 ∧ vp_in (nI 5) (cL (csA S (za x1) (nI 4).toNatClampNeg (((cI S 10 (za x0)).toInt8.toInt32).toInt8.toInt32)) (za x1))) ∧ True
set_option maxRecDepth 100000 in
set_option maxHeartbeats 4000000 in
theorem b_X7_signProposal_21 {G : zG} {o : Nat → Option va_E} {S : cS} {N : Nat} {Q : Option Value → cS → Prop} {X : cS → Prop} (hG : zOK G) (hR : ∀ S', X S' → Q none S') {x0 : Option Nat} {x1 : Option Nat} {x2 : Int32} (ok : O_X7_signProposal_21 N x0 x1 x2 S) (hx : X (F_X7_signProposal_21 N x0 x1 x2 S)) : cX G o dX7_signProposal mX7_signProposal 21 [some (va_rf x0), some (va_rf x1), some (.int x2)] [] S Q := by
  unfold O_X7_signProposal_21 at ok
  unfold F_X7_signProposal_21 at hx
  refine c_aload_nQ dX7_signProposal_21 rfl rfl ?_
  refine c_iconst (v := nI 4) dX7_signProposal_22 (by decide) ?_
  refine c_aload_nQ dX7_signProposal_23 rfl rfl ?_
  refine c_getI (C := RX6) (T := TX6) (N := 19) (ci := 5) (k := 10) ⟨rfl, inT6, by decide, fX7_213⟩ (by decide) (by decide) (by decide) dX7_signProposal_24 ok.1 ?_
  have ok := ok.2
  refine c_i2b dX7_signProposal_27 ?_
  refine c_bast dX7_signProposal_28 ok.1 ?_
  have ok := ok.2
  refine c_aload_nQ dX7_signProposal_29 rfl rfl ?_
  refine c_iconst (v := nI 5) dX7_signProposal_30 (by decide) ?_
  refine c_iload_n dX7_signProposal_31 rfl rfl ?_
  refine c_i2b dX7_signProposal_32 ?_
  refine c_bast dX7_signProposal_33 ok.1 ?_
  have ok := ok.2
  exact c_return rfl dX7_signProposal_34 (hR _ hx)
def F_X7_signProposal_12 (N : Nat) (x0 : Option Nat) (x1 : Option Nat) (x2 : Int32) (S : cS) : cS := (F_X7_signProposal_21 N x0 x1 x2 (f_X11_putTwo N S x1 (nI 2) (cI S 9 (za x0))))
def O_X7_signProposal_12 (N : Nat) (x0 : Option Nat) (x1 : Option Nat) (x2 : Int32) (S : cS) : Prop := (cis S x0 6) ∧ (o_X11_putTwo N S x1 (nI 2) (cI S 9 (za x0))) ∧ O_X7_signProposal_21 N x0 x1 x2 (f_X11_putTwo N S x1 (nI 2) (cI S 9 (za x0)))
set_option maxRecDepth 100000 in
set_option maxHeartbeats 4000000 in
theorem b_X7_signProposal_12 {G : zG} {o : Nat → Option va_E} {S : cS} {N : Nat} {Q : Option Value → cS → Prop} {X : cS → Prop} (hG : zOK G) (hR : ∀ S', X S' → Q none S') {x0 : Option Nat} {x1 : Option Nat} {x2 : Int32} (ok : O_X7_signProposal_12 N x0 x1 x2 S) (hx : X (F_X7_signProposal_12 N x0 x1 x2 S)) : cX G o dX7_signProposal mX7_signProposal 12 [some (va_rf x0), some (va_rf x1), some (.int x2)] [] S Q := by
  unfold O_X7_signProposal_12 at ok
  unfold F_X7_signProposal_12 at hx
  refine c_aload_nQ dX7_signProposal_12 rfl rfl ?_
  refine c_iconst (v := nI 2) dX7_signProposal_13 (by decide) ?_
  refine c_aload_nQ dX7_signProposal_14 rfl rfl ?_
  refine c_getI (C := RX6) (T := TX6) (N := 19) (ci := 5) (k := 9) ⟨rfl, inT6, by decide, fX7_18⟩ (by decide) (by decide) (by decide) dX7_signProposal_15 ok.1 ?_
  have ok := ok.2
  refine c_SN3v (y' := mX11_putTwo) dX7_signProposal_18 lX7_331 kX11_putTwo ⟨by decide, by decide⟩ (Nat.le_of_ble_eq_true rfl) (cc_X11_putTwo hG ok.1) (fun S_18 h_18 => ?_)
  subst h_18
  have ok := ok.2
  exact cX.cutz (b_X7_signProposal_21 hG hR ok hx) ⟨rfl, rfl, rfl, trivial⟩
def F_X7_signProposal_0 (N : Nat) (x0 : Option Nat) (x1 : Option Nat) (x2 : Int32) (S : cS) : cS := (F_X7_signProposal_12 N x0 x1 x2 (csA (csA S (za x1) (nI 0).toNatClampNeg ((nI 1).toInt8.toInt32)) (za x1) (nI 1).toNatClampNeg (((cI (csA S (za x1) (nI 0).toNatClampNeg ((nI 1).toInt8.toInt32)) 1 (za x0)).toInt8.toInt32).toInt8.toInt32)))
def O_X7_signProposal_0 (N : Nat) (x0 : Option Nat) (x1 : Option Nat) (x2 : Int32) (S : cS) : Prop := (cis S x1 20 ∧ vp_in (nI 0) (cL S (za x1))) ∧ (cis (csA S (za x1) (nI 0).toNatClampNeg ((nI 1).toInt8.toInt32)) x0 6) ∧ (cis (csA S (za x1) (nI 0).toNatClampNeg ((nI 1).toInt8.toInt32)) x1 20 ∧ vp_in (nI 1) (cL (csA S (za x1) (nI 0).toNatClampNeg ((nI 1).toInt8.toInt32)) (za x1))) ∧ O_X7_signProposal_12 N x0 x1 x2 (csA (csA S (za x1) (nI 0).toNatClampNeg ((nI 1).toInt8.toInt32)) (za x1) (nI 1).toNatClampNeg (((cI (csA S (za x1) (nI 0).toNatClampNeg ((nI 1).toInt8.toInt32)) 1 (za x0)).toInt8.toInt32).toInt8.toInt32))
set_option maxRecDepth 100000 in
set_option maxHeartbeats 4000000 in
theorem b_X7_signProposal_0 {G : zG} {o : Nat → Option va_E} {S : cS} {N : Nat} {Q : Option Value → cS → Prop} {X : cS → Prop} (hG : zOK G) (hR : ∀ S', X S' → Q none S') {x0 : Option Nat} {x1 : Option Nat} {x2 : Int32} (ok : O_X7_signProposal_0 N x0 x1 x2 S) (hx : X (F_X7_signProposal_0 N x0 x1 x2 S)) : cX G o dX7_signProposal mX7_signProposal 0 [some (va_rf x0), some (va_rf x1), some (.int x2)] [] S Q := by
  unfold O_X7_signProposal_0 at ok
  unfold F_X7_signProposal_0 at hx
  refine c_aload_nQ dX7_signProposal_0 rfl rfl ?_
  refine c_iconst (v := nI 0) dX7_signProposal_1 (by decide) ?_
  refine c_iconst (v := nI 1) dX7_signProposal_2 (by decide) ?_
  refine c_bast dX7_signProposal_3 ok.1 ?_
  have ok := ok.2
  refine c_aload_nQ dX7_signProposal_4 rfl rfl ?_
  refine c_iconst (v := nI 1) dX7_signProposal_5 (by decide) ?_
  refine c_aload_nQ dX7_signProposal_6 rfl rfl ?_
  refine c_getI (C := RX6) (T := TX6) (N := 19) (ci := 5) (k := 1) ⟨rfl, inT6, by decide, fX7_271⟩ (by decide) (by decide) (by decide) dX7_signProposal_7 ok.1 ?_
  have ok := ok.2
  refine c_i2b dX7_signProposal_10 ?_
  refine c_bast dX7_signProposal_11 ok.1 ?_
  have ok := ok.2
  exact cX.cutz (b_X7_signProposal_12 hG hR ok hx) ⟨rfl, rfl, rfl, trivial⟩
def f_X7_signProposal (N : Nat) (S : cS) (x0 : Option Nat) (x1 : Option Nat) (x2 : Int32) : cS := F_X7_signProposal_0 N x0 x1 x2 S
def o_X7_signProposal (N : Nat) (S : cS) (x0 : Option Nat) (x1 : Option Nat) (x2 : Int32) : Prop := O_X7_signProposal_0 N x0 x1 x2 S
set_option maxRecDepth 100000 in
set_option maxHeartbeats 4000000 in
theorem cc_X7_signProposal {G : zG} {o : Nat → Option va_E} {S : cS} {N : Nat} (hG : zOK G) {x0 : Option Nat} {x1 : Option Nat} {x2 : Int32} (ok : o_X7_signProposal N S x0 x1 x2) : cCv G o dX7_signProposal mX7_signProposal [va_rf x0, va_rf x1, .int x2] S (fun S' => S' = f_X7_signProposal N S x0 x1 x2) := by
  refine cC.ofX rfl (by cases x0 <;> cases x1 <;> exact Nat.le_of_ble_eq_true rfl) ?_
  rw [show zargs mX7_signProposal.2.2.1 [va_rf x0, va_rf x1, .int x2] = [some (va_rf x0), some (va_rf x1), some (.int x2)] from by cases x0 <;> cases x1 <;> rfl]
  exact cX.cutz (b_X7_signProposal_0 (X := fun F => F = f_X7_signProposal N S x0 x1 x2) hG (fun S' h => ⟨rfl, h⟩) ok rfl) ⟨rfl, rfl, rfl, trivial⟩
/-! X7_again -/
def F_X7_again_73 (N : Nat) (x2 : Option Nat) (S : cS) : Option Nat × cS := (x2, S)
def O_X7_again_73 (N : Nat) (x2 : Option Nat) (S : cS) : Prop := True
set_option maxRecDepth 100000 in
set_option maxHeartbeats 4000000 in
theorem b_X7_again_73 {G : zG} {o : Nat → Option va_E} {S : cS} {N : Nat} {Q : Option Value → cS → Prop} {X : Option Nat × cS → Prop} (hG : zOK G) (hR : ∀ v S', X (v, S') → Q (some (va_rf v)) S') {x2 : Option Nat} (ok : O_X7_again_73 N x2 S) (hx : X (F_X7_again_73 N x2 S)) : cX G o dX7_again mX7_again 73 [none, none, some (va_rf x2)] [] S Q := by
  unfold O_X7_again_73 at ok
  unfold F_X7_again_73 at hx
  refine c_aload_nQ dX7_again_73 rfl rfl ?_
  exact c_areturn rfl (Or.inl ⟨_, rfl⟩) dX7_again_74 (hR _ _ hx)
def F_X7_again_63 (N : Nat) (x2 : Option Nat) (S : cS) : Option Nat × cS := (F_X7_again_73 N x2 (csI (csI S 5 (za x2) (nI 1)) 4 (za x2) (nI 1)))
def O_X7_again_63 (N : Nat) (x2 : Option Nat) (S : cS) : Prop := (cis S x2 5) ∧ (cis (csI S 5 (za x2) (nI 1)) x2 5) ∧ O_X7_again_73 N x2 (csI (csI S 5 (za x2) (nI 1)) 4 (za x2) (nI 1))
set_option maxRecDepth 100000 in
set_option maxHeartbeats 4000000 in
theorem b_X7_again_63 {G : zG} {o : Nat → Option va_E} {S : cS} {N : Nat} {Q : Option Value → cS → Prop} {X : Option Nat × cS → Prop} (hG : zOK G) (hR : ∀ v S', X (v, S') → Q (some (va_rf v)) S') {x2 : Option Nat} (ok : O_X7_again_63 N x2 S) (hx : X (F_X7_again_63 N x2 S)) : cX G o dX7_again mX7_again 63 [none, none, some (va_rf x2)] [] S Q := by
  unfold O_X7_again_63 at ok
  unfold F_X7_again_63 at hx
  refine c_aload_nQ dX7_again_63 rfl rfl ?_
  refine c_iconst (v := nI 1) dX7_again_64 (by decide) ?_
  refine c_putI (C := RX5) (T := TX5) (N := 7) (ci := 4) (k := 5) ⟨rfl, inT5, by decide, fX7_322⟩ ftT5 rfl (by decide) (by decide) (by decide) rfl rfl dX7_again_65 ok.1 ?_
  have ok := ok.2
  refine c_aload_nQ dX7_again_68 rfl rfl ?_
  refine c_iconst (v := nI 1) dX7_again_69 (by decide) ?_
  refine c_putI (C := RX5) (T := TX5) (N := 7) (ci := 4) (k := 4) ⟨rfl, inT5, by decide, fX7_325⟩ ftT5 rfl (by decide) (by decide) (by decide) rfl rfl dX7_again_70 ok.1 ?_
  have ok := ok.2
  exact cX.cutz (b_X7_again_73 hG hR ok hx) ⟨rfl, trivial⟩
def F_X7_again_49 (N : Nat) (x1 : Option Nat) (x2 : Option Nat) (S : cS) : Option Nat × cS := (F_X7_again_63 N x2 (csJrow S (za (cR S 1 (za x2))) (va_cpy (cJ S (za (cR S 1 (za x1)))) (cJ S (za (cR S 1 (za x2)))) (nI 0).toNatClampNeg (nI 0).toNatClampNeg (nI 4).toNatClampNeg)))
def O_X7_again_49 (N : Nat) (x1 : Option Nat) (x2 : Option Nat) (S : cS) : Prop := (cis S x1 5) ∧ (cis S x2 5) ∧ (cis S (cR S 1 (za x1)) 22 ∧ cis S (cR S 1 (za x2)) 22 ∧ (¬ (nI 0) < 0 ∧ ¬ (nI 0) < 0 ∧ ¬ (nI 4) < 0) ∧ (nI 0).toNatClampNeg + (nI 4).toNatClampNeg ≤ cL S (za (cR S 1 (za x1))) ∧ (nI 0).toNatClampNeg + (nI 4).toNatClampNeg ≤ cL S (za (cR S 1 (za x2)))) ∧ O_X7_again_63 N x2 (csJrow S (za (cR S 1 (za x2))) (va_cpy (cJ S (za (cR S 1 (za x1)))) (cJ S (za (cR S 1 (za x2)))) (nI 0).toNatClampNeg (nI 0).toNatClampNeg (nI 4).toNatClampNeg))
set_option maxRecDepth 100000 in
set_option maxHeartbeats 4000000 in
theorem b_X7_again_49 {G : zG} {o : Nat → Option va_E} {S : cS} {N : Nat} {Q : Option Value → cS → Prop} {X : Option Nat × cS → Prop} (hG : zOK G) (hR : ∀ v S', X (v, S') → Q (some (va_rf v)) S') {x1 : Option Nat} {x2 : Option Nat} (ok : O_X7_again_49 N x1 x2 S) (hx : X (F_X7_again_49 N x1 x2 S)) : cX G o dX7_again mX7_again 49 [none, some (va_rf x1), some (va_rf x2)] [] S Q := by
  unfold O_X7_again_49 at ok
  unfold F_X7_again_49 at hx
  refine c_aload_nQ dX7_again_49 rfl rfl ?_
  refine c_getR (C := RX5) (T := TX5) (N := 7) (ci := 4) (k := 1) ⟨rfl, inT5, by decide, fX7_318⟩ (by decide) (by decide) (by decide) dX7_again_50 ok.1 ?_
  have ok := ok.2
  refine c_iconst (v := nI 0) dX7_again_53 (by decide) ?_
  refine c_aload_nQ dX7_again_54 rfl rfl ?_
  refine c_getR (C := RX5) (T := TX5) (N := 7) (ci := 4) (k := 1) ⟨rfl, inT5, by decide, fX7_318⟩ (by decide) (by decide) (by decide) dX7_again_55 ok.1 ?_
  have ok := ok.2
  refine c_iconst (v := nI 0) dX7_again_58 (by decide) ?_
  refine c_iconst (v := nI 4) dX7_again_59 (by decide) ?_
  refine c_copy2 hG dX7_again_60 qX7_130 (by decide) (by decide) ok.1 ?_
  have ok := ok.2
  exact cX.cutz (b_X7_again_63 hG hR ok hx) ⟨rfl, trivial⟩
def F_X7_again_27 (N : Nat) (x1 : Option Nat) (x2 : Option Nat) (S : cS) : Option Nat × cS := (F_X7_again_49 N x1 x2 (csArow S (za (cR S 0 (za x2))) (va_cpy (cA S (za (cR S 0 (za x1)))) (cA S (za (cR S 0 (za x2)))) (nI 6).toNatClampNeg (nI 6).toNatClampNeg ((cI S 2 (za x2)) - (nI 6)).toNatClampNeg)))
def O_X7_again_27 (N : Nat) (x1 : Option Nat) (x2 : Option Nat) (S : cS) : Prop := (cis S x1 5) ∧ (cis S x2 5) ∧ (cis S x2 5) ∧ (cis S (cR S 0 (za x1)) 20 ∧ cis S (cR S 0 (za x2)) 20 ∧ (¬ (nI 6) < 0 ∧ ¬ (nI 6) < 0 ∧ ¬ ((cI S 2 (za x2)) - (nI 6)) < 0) ∧ (nI 6).toNatClampNeg + ((cI S 2 (za x2)) - (nI 6)).toNatClampNeg ≤ cL S (za (cR S 0 (za x1))) ∧ (nI 6).toNatClampNeg + ((cI S 2 (za x2)) - (nI 6)).toNatClampNeg ≤ cL S (za (cR S 0 (za x2)))) ∧ O_X7_again_49 N x1 x2 (csArow S (za (cR S 0 (za x2))) (va_cpy (cA S (za (cR S 0 (za x1)))) (cA S (za (cR S 0 (za x2)))) (nI 6).toNatClampNeg (nI 6).toNatClampNeg ((cI S 2 (za x2)) - (nI 6)).toNatClampNeg))
set_option maxRecDepth 100000 in
set_option maxHeartbeats 4000000 in
theorem b_X7_again_27 {G : zG} {o : Nat → Option va_E} {S : cS} {N : Nat} {Q : Option Value → cS → Prop} {X : Option Nat × cS → Prop} (hG : zOK G) (hR : ∀ v S', X (v, S') → Q (some (va_rf v)) S') {x1 : Option Nat} {x2 : Option Nat} (ok : O_X7_again_27 N x1 x2 S) (hx : X (F_X7_again_27 N x1 x2 S)) : cX G o dX7_again mX7_again 27 [none, some (va_rf x1), some (va_rf x2)] [] S Q := by
  unfold O_X7_again_27 at ok
  unfold F_X7_again_27 at hx
  refine c_aload_nQ dX7_again_27 rfl rfl ?_
  refine c_getR (C := RX5) (T := TX5) (N := 7) (ci := 4) (k := 0) ⟨rfl, inT5, by decide, fX7_123⟩ (by decide) (by decide) (by decide) dX7_again_28 ok.1 ?_
  have ok := ok.2
  refine c_bipush (v := nI 6) dX7_again_31 (by decide) ?_
  refine c_aload_nQ dX7_again_33 rfl rfl ?_
  refine c_getR (C := RX5) (T := TX5) (N := 7) (ci := 4) (k := 0) ⟨rfl, inT5, by decide, fX7_123⟩ (by decide) (by decide) (by decide) dX7_again_34 ok.1 ?_
  have ok := ok.2
  refine c_bipush (v := nI 6) dX7_again_37 (by decide) ?_
  refine c_aload_nQ dX7_again_39 rfl rfl ?_
  refine c_getI (C := RX5) (T := TX5) (N := 7) (ci := 4) (k := 2) ⟨rfl, inT5, by decide, fX7_187⟩ (by decide) (by decide) (by decide) dX7_again_40 ok.1 ?_
  have ok := ok.2
  refine c_bipush (v := nI 6) dX7_again_43 (by decide) ?_
  refine c_isub dX7_again_45 ?_
  refine c_copy0 hG dX7_again_46 qX7_130 (by decide) (by decide) ok.1 ?_
  have ok := ok.2
  exact cX.cutz (b_X7_again_49 hG hR ok hx) ⟨rfl, rfl, trivial⟩
def F_X7_again_14 (N : Nat) (x0 : Option Nat) (x1 : Option Nat) (s0 : Option Nat) (S : cS) : Option Nat × cS := (F_X7_again_27 N x1 s0 (f_X7_signProposal N S x0 (cR S 0 (za s0)) (cI S 13 (za x0))))
def O_X7_again_14 (N : Nat) (x0 : Option Nat) (x1 : Option Nat) (s0 : Option Nat) (S : cS) : Prop := (cis S s0 5) ∧ (cis S x0 6) ∧ (o_X7_signProposal N S x0 (cR S 0 (za s0)) (cI S 13 (za x0))) ∧ O_X7_again_27 N x1 s0 (f_X7_signProposal N S x0 (cR S 0 (za s0)) (cI S 13 (za x0)))
set_option maxRecDepth 100000 in
set_option maxHeartbeats 4000000 in
theorem b_X7_again_14 {G : zG} {o : Nat → Option va_E} {S : cS} {N : Nat} {Q : Option Value → cS → Prop} {X : Option Nat × cS → Prop} (hG : zOK G) (hR : ∀ v S', X (v, S') → Q (some (va_rf v)) S') {x0 : Option Nat} {x1 : Option Nat} {s0 : Option Nat} (ok : O_X7_again_14 N x0 x1 s0 S) (hx : X (F_X7_again_14 N x0 x1 s0 S)) : cX G o dX7_again mX7_again 14 [some (va_rf x0), some (va_rf x1), none] [va_rf s0] S Q := by
  unfold O_X7_again_14 at ok
  unfold F_X7_again_14 at hx
  refine c_astore_2Q dX7_again_14 (by decide) (by simp [zok, zg, zcat_rf]) ?_
  refine c_aload_nQ dX7_again_15 rfl rfl ?_
  refine c_aload_nQ dX7_again_16 rfl rfl ?_
  refine c_getR (C := RX5) (T := TX5) (N := 7) (ci := 4) (k := 0) ⟨rfl, inT5, by decide, fX7_123⟩ (by decide) (by decide) (by decide) dX7_again_17 ok.1 ?_
  have ok := ok.2
  refine c_aload_nQ dX7_again_20 rfl rfl ?_
  refine c_getI (C := RX6) (T := TX6) (N := 19) (ci := 5) (k := 13) ⟨rfl, inT6, by decide, fX7_254⟩ (by decide) (by decide) (by decide) dX7_again_21 ok.1 ?_
  have ok := ok.2
  refine c_S3v (y' := mX7_signProposal) dX7_again_24 lX7_314 kX7_signProposal ⟨by decide, by decide⟩ (Nat.le_of_ble_eq_true rfl) (cc_X7_signProposal hG ok.1) (fun S_24 h_24 => ?_)
  subst h_24
  have ok := ok.2
  exact cX.cutz (b_X7_again_27 hG hR ok hx) ⟨rfl, rfl, trivial⟩
def F_X7_again_0 (N : Nat) (x0 : Option Nat) (x1 : Option Nat) (S : cS) : Option Nat × cS := (F_X7_again_14 N x0 x1 ((f_X9_fresh N S (za (cR S 6 (za (cR S 0 (za x0))))) (cI S 2 (za x1))).1) (f_X9_fresh N S (za (cR S 6 (za (cR S 0 (za x0))))) (cI S 2 (za x1))).2)
def O_X7_again_0 (N : Nat) (x0 : Option Nat) (x1 : Option Nat) (S : cS) : Prop := (cis S x0 6) ∧ (cis S (cR S 0 (za x0)) 9) ∧ (cis S x1 5) ∧ (cis S (cR S 6 (za (cR S 0 (za x0)))) 8 ∧ o_X9_fresh N S (za (cR S 6 (za (cR S 0 (za x0))))) (cI S 2 (za x1))) ∧ O_X7_again_14 N x0 x1 ((f_X9_fresh N S (za (cR S 6 (za (cR S 0 (za x0))))) (cI S 2 (za x1))).1) (f_X9_fresh N S (za (cR S 6 (za (cR S 0 (za x0))))) (cI S 2 (za x1))).2
set_option maxRecDepth 100000 in
set_option maxHeartbeats 4000000 in
theorem b_X7_again_0 {G : zG} {o : Nat → Option va_E} {S : cS} {N : Nat} {Q : Option Value → cS → Prop} {X : Option Nat × cS → Prop} (hG : zOK G) (hR : ∀ v S', X (v, S') → Q (some (va_rf v)) S') {x0 : Option Nat} {x1 : Option Nat} (ok : O_X7_again_0 N x0 x1 S) (hx : X (F_X7_again_0 N x0 x1 S)) : cX G o dX7_again mX7_again 0 [some (va_rf x0), some (va_rf x1), none] [] S Q := by
  unfold O_X7_again_0 at ok
  unfold F_X7_again_0 at hx
  refine c_aload_nQ dX7_again_0 rfl rfl ?_
  refine c_getR (C := RX6) (T := TX6) (N := 19) (ci := 5) (k := 0) ⟨rfl, inT6, by decide, fX7_26⟩ (by decide) (by decide) (by decide) dX7_again_1 ok.1 ?_
  have ok := ok.2
  refine c_getR (C := RX10) (T := TX10) (N := 12) (ci := 8) (k := 6) ⟨rfl, inT10, by decide, fX7_278⟩ (by decide) (by decide) (by decide) dX7_again_4 ok.1 ?_
  have ok := ok.2
  refine c_aload_nQ dX7_again_7 rfl rfl ?_
  refine c_getI (C := RX5) (T := TX5) (N := 7) (ci := 4) (k := 2) ⟨rfl, inT5, by decide, fX7_187⟩ (by decide) (by decide) (by decide) dX7_again_8 ok.1 ?_
  have ok := ok.2
  refine c_V1q (ci := 7) (rr := (RX9, TX9, 13)) (y' := mX9_fresh) dX7_again_11 lX7_310 kX9_fresh ⟨by decide, by decide⟩ rfl rfl (by decide) ok.1.1 (Nat.le_of_ble_eq_true rfl) (cc_X9_fresh hG ok.1.2) (fun v_11 S_11 h_11 => ?_)
  obtain ⟨hv_11, hS_11⟩ := h_11
  subst hv_11
  have hS_11 := hS_11.symm
  subst hS_11
  have ok := ok.2
  exact cX.cutz (b_X7_again_14 hG hR ok hx) ⟨rfl, rfl, trivial⟩
def f_X7_again (N : Nat) (S : cS) (x0 : Option Nat) (x1 : Option Nat) : Option Nat × cS := F_X7_again_0 N x0 x1 S
def o_X7_again (N : Nat) (S : cS) (x0 : Option Nat) (x1 : Option Nat) : Prop := O_X7_again_0 N x0 x1 S
set_option maxRecDepth 100000 in
set_option maxHeartbeats 4000000 in
theorem cc_X7_again {G : zG} {o : Nat → Option va_E} {S : cS} {N : Nat} (hG : zOK G) {x0 : Option Nat} {x1 : Option Nat} (ok : o_X7_again N S x0 x1) : cCq G o dX7_again mX7_again [va_rf x0, va_rf x1] S (fun v S' => v = (f_X7_again N S x0 x1).1 ∧ S' = (f_X7_again N S x0 x1).2) := by
  refine cC.ofX rfl (by cases x0 <;> cases x1 <;> exact Nat.le_of_ble_eq_true rfl) ?_
  rw [show zargs mX7_again.2.2.1 [va_rf x0, va_rf x1] = [some (va_rf x0), some (va_rf x1), none] from by cases x0 <;> cases x1 <;> rfl]
  exact cX.cutz (b_X7_again_0 (X := fun F => F = f_X7_again N S x0 x1) hG (fun v S' h => ⟨v, rfl, by rw [← h], by rw [← h]⟩) ok rfl) ⟨rfl, rfl, trivial⟩
/-! X7_addEvidences -/
def F_X7_addEvidences_98 (N : Nat) (x1 : Option Nat) (x3 : Int32) (x4 : Int32) (S : cS) : Int32 × cS := (x3, (csA S (za x1) (nI 106).toNatClampNeg ((x4.toInt8.toInt32).toInt8.toInt32)))
def O_X7_addEvidences_98 (N : Nat) (x1 : Option Nat) (x3 : Int32) (x4 : Int32) (S : cS) : Prop := (cis S x1 20 ∧ vp_in (nI 106) (cL S (za x1))) ∧ True
set_option maxRecDepth 100000 in
set_option maxHeartbeats 4000000 in
theorem b_X7_addEvidences_98 {G : zG} {o : Nat → Option va_E} {S : cS} {N : Nat} {Q : Option Value → cS → Prop} {X : Int32 × cS → Prop} (hG : zOK G) (hR : ∀ v S', X (v, S') → Q (some (.int v)) S') {x1 : Option Nat} {x3 : Int32} {x4 : Int32} (ok : O_X7_addEvidences_98 N x1 x3 x4 S) (hx : X (F_X7_addEvidences_98 N x1 x3 x4 S)) : cX G o dX7_addEvidences mX7_addEvidences 98 [none, some (va_rf x1), none, some (.int x3), some (.int x4), none, none] [] S Q := by
  unfold O_X7_addEvidences_98 at ok
  unfold F_X7_addEvidences_98 at hx
  refine c_aload_nQ dX7_addEvidences_98 rfl rfl ?_
  refine c_bipush (v := nI 106) dX7_addEvidences_99 (by decide) ?_
  refine c_iload dX7_addEvidences_101 rfl ?_
  refine c_i2b dX7_addEvidences_103 ?_
  refine c_bast dX7_addEvidences_104 ok.1 ?_
  have ok := ok.2
  refine c_iload_n dX7_addEvidences_105 rfl rfl ?_
  exact c_ireturn rfl rfl dX7_addEvidences_106 (hR _ _ hx)
def F_X7_addEvidences_92 (N : Nat) (rec : Option Nat → Option Nat → Int32 → Int32 → Int32 → cS → Nat × Option Nat × Int32 × Int32 × cS) (x0 : Option Nat) (x1 : Option Nat) (x3 : Int32) (x4 : Int32) (x5 : Int32) (S : cS) : Nat × Option Nat × Int32 × Int32 × cS := (rec x0 x1 x3 x4 (x5 + nI 1) S)
def O_X7_addEvidences_92 (N : Nat) (rok : Option Nat → Option Nat → Int32 → Int32 → Int32 → cS → Prop) (x0 : Option Nat) (x1 : Option Nat) (x3 : Int32) (x4 : Int32) (x5 : Int32) (S : cS) : Prop := rok x0 x1 x3 x4 (x5 + nI 1) S
set_option maxRecDepth 100000 in
set_option maxHeartbeats 4000000 in
theorem b_X7_addEvidences_92 {G : zG} {o : Nat → Option va_E} {S : cS} {N : Nat} {Q : Option Value → cS → Prop} {X : Nat × Option Nat × Int32 × Int32 × cS → Prop} (hG : zOK G) (hX0 : ∀ (x1 : Option Nat) (x3 : Int32) (x4 : Int32) (S' : cS), X (0, x1, x3, x4, S') → cX G o dX7_addEvidences mX7_addEvidences 98 [none, some (va_rf x1), none, some (.int x3), some (.int x4), none, none] [] S' Q) {rec : Option Nat → Option Nat → Int32 → Int32 → Int32 → cS → Nat × Option Nat × Int32 × Int32 × cS} {rok : Option Nat → Option Nat → Int32 → Int32 → Int32 → cS → Prop} (hrec : ∀ (x0 : Option Nat) (x1 : Option Nat) (x3 : Int32) (x4 : Int32) (x5 : Int32) (S : cS), rok x0 x1 x3 x4 x5 S → X (rec x0 x1 x3 x4 x5 S) → cX G o dX7_addEvidences mX7_addEvidences 8 [some (va_rf x0), some (va_rf x1), none, some (.int x3), some (.int x4), some (.int x5), none] [] S Q) {x0 : Option Nat} {x1 : Option Nat} {x3 : Int32} {x4 : Int32} {x5 : Int32} (ok : O_X7_addEvidences_92 N rok x0 x1 x3 x4 x5 S) (hx : X (F_X7_addEvidences_92 N rec x0 x1 x3 x4 x5 S)) : cX G o dX7_addEvidences mX7_addEvidences 92 [some (va_rf x0), some (va_rf x1), none, some (.int x3), some (.int x4), some (.int x5), none] [] S Q := by
  unfold O_X7_addEvidences_92 at ok
  unfold F_X7_addEvidences_92 at hx
  refine c_iinc_5 (v := (x5 + nI 1)) dX7_addEvidences_92 rfl (by first | rfl | (congr 1)) (by decide) rfl ?_
  refine c_goto (tgt := 8) dX7_addEvidences_95 (by decide) ?_
  exact cX.cutz (hrec _ _ _ _ _ S ok hx) ⟨rfl, rfl, rfl, rfl, rfl, trivial⟩
def F_X7_addEvidences_79 (N : Nat) (rec : Option Nat → Option Nat → Int32 → Int32 → Int32 → cS → Nat × Option Nat × Int32 × Int32 × cS) (x0 : Option Nat) (x1 : Option Nat) (x3 : Int32) (x4 : Int32) (x5 : Int32) (x6 : Option Nat) (S : cS) : Nat × Option Nat × Int32 × Int32 × cS := (F_X7_addEvidences_92 N rec x0 x1 (x3 + ((cI S 2 (za x6)) - (nI 1))) (x4 + nI 1) x5 S)
def O_X7_addEvidences_79 (N : Nat) (rok : Option Nat → Option Nat → Int32 → Int32 → Int32 → cS → Prop) (x0 : Option Nat) (x1 : Option Nat) (x3 : Int32) (x4 : Int32) (x5 : Int32) (x6 : Option Nat) (S : cS) : Prop := (cis S x6 5) ∧ O_X7_addEvidences_92 N rok x0 x1 (x3 + ((cI S 2 (za x6)) - (nI 1))) (x4 + nI 1) x5 S
set_option maxRecDepth 100000 in
set_option maxHeartbeats 4000000 in
theorem b_X7_addEvidences_79 {G : zG} {o : Nat → Option va_E} {S : cS} {N : Nat} {Q : Option Value → cS → Prop} {X : Nat × Option Nat × Int32 × Int32 × cS → Prop} (hG : zOK G) (hX0 : ∀ (x1 : Option Nat) (x3 : Int32) (x4 : Int32) (S' : cS), X (0, x1, x3, x4, S') → cX G o dX7_addEvidences mX7_addEvidences 98 [none, some (va_rf x1), none, some (.int x3), some (.int x4), none, none] [] S' Q) {rec : Option Nat → Option Nat → Int32 → Int32 → Int32 → cS → Nat × Option Nat × Int32 × Int32 × cS} {rok : Option Nat → Option Nat → Int32 → Int32 → Int32 → cS → Prop} (hrec : ∀ (x0 : Option Nat) (x1 : Option Nat) (x3 : Int32) (x4 : Int32) (x5 : Int32) (S : cS), rok x0 x1 x3 x4 x5 S → X (rec x0 x1 x3 x4 x5 S) → cX G o dX7_addEvidences mX7_addEvidences 8 [some (va_rf x0), some (va_rf x1), none, some (.int x3), some (.int x4), some (.int x5), none] [] S Q) {x0 : Option Nat} {x1 : Option Nat} {x3 : Int32} {x4 : Int32} {x5 : Int32} {x6 : Option Nat} (ok : O_X7_addEvidences_79 N rok x0 x1 x3 x4 x5 x6 S) (hx : X (F_X7_addEvidences_79 N rec x0 x1 x3 x4 x5 x6 S)) : cX G o dX7_addEvidences mX7_addEvidences 79 [some (va_rf x0), some (va_rf x1), none, some (.int x3), some (.int x4), some (.int x5), some (va_rf x6)] [] S Q := by
  unfold O_X7_addEvidences_79 at ok
  unfold F_X7_addEvidences_79 at hx
  refine c_iload_n dX7_addEvidences_79 rfl rfl ?_
  refine c_aloadQ dX7_addEvidences_80 rfl ?_
  refine c_getI (C := RX5) (T := TX5) (N := 7) (ci := 4) (k := 2) ⟨rfl, inT5, by decide, fX7_187⟩ (by decide) (by decide) (by decide) dX7_addEvidences_82 ok.1 ?_
  have ok := ok.2
  refine c_iconst (v := nI 1) dX7_addEvidences_85 (by decide) ?_
  refine c_isub dX7_addEvidences_86 ?_
  refine c_iadd dX7_addEvidences_87 ?_
  refine c_istore_3 dX7_addEvidences_88 (by decide) rfl ?_
  refine c_iinc_4 (v := (x4 + nI 1)) dX7_addEvidences_89 rfl (by first | rfl | (congr 1)) (by decide) rfl ?_
  exact cX.cutz (b_X7_addEvidences_92 hG hX0 hrec ok hx) ⟨rfl, rfl, rfl, rfl, rfl, trivial⟩
def F_X7_addEvidences_58 (N : Nat) (rec : Option Nat → Option Nat → Int32 → Int32 → Int32 → cS → Nat × Option Nat × Int32 × Int32 × cS) (x0 : Option Nat) (x1 : Option Nat) (x3 : Int32) (x4 : Int32) (x5 : Int32) (x6 : Option Nat) (s0 : Int32) (S : cS) : Nat × Option Nat × Int32 × Int32 × cS := (if s0 = 0 then (F_X7_addEvidences_92 N rec x0 x1 x3 x4 x5 S) else (F_X7_addEvidences_79 N rec x0 x1 x3 x4 x5 x6 (csArow S (za x1) (va_cpy (cA S (za (cR S 0 (za x6)))) (cA S (za x1)) (nI 1).toNatClampNeg x3.toNatClampNeg ((cI S 2 (za x6)) - (nI 1)).toNatClampNeg))))
def O_X7_addEvidences_58 (N : Nat) (rok : Option Nat → Option Nat → Int32 → Int32 → Int32 → cS → Prop) (x0 : Option Nat) (x1 : Option Nat) (x3 : Int32) (x4 : Int32) (x5 : Int32) (x6 : Option Nat) (s0 : Int32) (S : cS) : Prop := ((s0 = 0 → O_X7_addEvidences_92 N rok x0 x1 x3 x4 x5 S) ∧ (¬ s0 = 0 → (cis S x6 5) ∧ (cis S x6 5) ∧ (cis S (cR S 0 (za x6)) 20 ∧ cis S x1 20 ∧ (¬ (nI 1) < 0 ∧ ¬ x3 < 0 ∧ ¬ ((cI S 2 (za x6)) - (nI 1)) < 0) ∧ (nI 1).toNatClampNeg + ((cI S 2 (za x6)) - (nI 1)).toNatClampNeg ≤ cL S (za (cR S 0 (za x6))) ∧ x3.toNatClampNeg + ((cI S 2 (za x6)) - (nI 1)).toNatClampNeg ≤ cL S (za x1)) ∧ O_X7_addEvidences_79 N rok x0 x1 x3 x4 x5 x6 (csArow S (za x1) (va_cpy (cA S (za (cR S 0 (za x6)))) (cA S (za x1)) (nI 1).toNatClampNeg x3.toNatClampNeg ((cI S 2 (za x6)) - (nI 1)).toNatClampNeg))))
set_option maxRecDepth 100000 in
set_option maxHeartbeats 4000000 in
theorem b_X7_addEvidences_58 {G : zG} {o : Nat → Option va_E} {S : cS} {N : Nat} {Q : Option Value → cS → Prop} {X : Nat × Option Nat × Int32 × Int32 × cS → Prop} (hG : zOK G) (hX0 : ∀ (x1 : Option Nat) (x3 : Int32) (x4 : Int32) (S' : cS), X (0, x1, x3, x4, S') → cX G o dX7_addEvidences mX7_addEvidences 98 [none, some (va_rf x1), none, some (.int x3), some (.int x4), none, none] [] S' Q) {rec : Option Nat → Option Nat → Int32 → Int32 → Int32 → cS → Nat × Option Nat × Int32 × Int32 × cS} {rok : Option Nat → Option Nat → Int32 → Int32 → Int32 → cS → Prop} (hrec : ∀ (x0 : Option Nat) (x1 : Option Nat) (x3 : Int32) (x4 : Int32) (x5 : Int32) (S : cS), rok x0 x1 x3 x4 x5 S → X (rec x0 x1 x3 x4 x5 S) → cX G o dX7_addEvidences mX7_addEvidences 8 [some (va_rf x0), some (va_rf x1), none, some (.int x3), some (.int x4), some (.int x5), none] [] S Q) {x0 : Option Nat} {x1 : Option Nat} {x3 : Int32} {x4 : Int32} {x5 : Int32} {x6 : Option Nat} {s0 : Int32} (ok : O_X7_addEvidences_58 N rok x0 x1 x3 x4 x5 x6 s0 S) (hx : X (F_X7_addEvidences_58 N rec x0 x1 x3 x4 x5 x6 s0 S)) : cX G o dX7_addEvidences mX7_addEvidences 58 [some (va_rf x0), some (va_rf x1), none, some (.int x3), some (.int x4), some (.int x5), some (va_rf x6)] [.int s0] S Q := by
  unfold O_X7_addEvidences_58 at ok
  unfold F_X7_addEvidences_58 at hx
  refine c_if_eq (tgt := 92) dX7_addEvidences_58 (by decide) (fun c_58 => ?_) (fun c_58 => ?_)
  · have ok := ok.1 c_58
    have hx := xif_p c_58 hx
    exact cX.cutz (b_X7_addEvidences_92 hG hX0 hrec ok hx) ⟨rfl, rfl, rfl, rfl, rfl, trivial⟩
  · have ok := ok.2 c_58
    have hx := xif_n c_58 hx
    refine c_aloadQ dX7_addEvidences_61 rfl ?_
    refine c_getR (C := RX5) (T := TX5) (N := 7) (ci := 4) (k := 0) ⟨rfl, inT5, by decide, fX7_123⟩ (by decide) (by decide) (by decide) dX7_addEvidences_63 ok.1 ?_
    have ok := ok.2
    refine c_iconst (v := nI 1) dX7_addEvidences_66 (by decide) ?_
    refine c_aload_nQ dX7_addEvidences_67 rfl rfl ?_
    refine c_iload_n dX7_addEvidences_68 rfl rfl ?_
    refine c_aloadQ dX7_addEvidences_69 rfl ?_
    refine c_getI (C := RX5) (T := TX5) (N := 7) (ci := 4) (k := 2) ⟨rfl, inT5, by decide, fX7_187⟩ (by decide) (by decide) (by decide) dX7_addEvidences_71 ok.1 ?_
    have ok := ok.2
    refine c_iconst (v := nI 1) dX7_addEvidences_74 (by decide) ?_
    refine c_isub dX7_addEvidences_75 ?_
    refine c_copy0 hG dX7_addEvidences_76 qX7_130 (by decide) (by decide) ok.1 ?_
    have ok := ok.2
    exact cX.cutz (b_X7_addEvidences_79 hG hX0 hrec ok hx) ⟨rfl, rfl, rfl, rfl, rfl, rfl, trivial⟩
def B_X7_addEvidences_8 (N : Nat) (rec : Option Nat → Option Nat → Int32 → Int32 → Int32 → cS → Nat × Option Nat × Int32 × Int32 × cS) (x0 : Option Nat) (x1 : Option Nat) (x3 : Int32) (x4 : Int32) (x5 : Int32) (S : cS) : Nat × Option Nat × Int32 × Int32 × cS := (if (cI S 1 (za (cR S 0 (za x0)))) ≤ x5 then (0, x1, x3, x4, S) else (if (nI 2) ≤ x4 then (0, x1, x3, x4, S) else (if (f_X8_proofOf N S (za (cR S 3 (za x0))) x5) = none then (F_X7_addEvidences_92 N rec x0 x1 x3 x4 x5 S) else (F_X7_addEvidences_58 N rec x0 x1 x3 x4 x5 (f_X8_proofOf N S (za (cR S 3 (za x0))) x5) ((f_X0_punish N S (za (cR S 8 (za (cR S 0 (za x0))))) x5 (cI S 1 (za x0))).1) (f_X0_punish N S (za (cR S 8 (za (cR S 0 (za x0))))) x5 (cI S 1 (za x0))).2))))
def OB_X7_addEvidences_8 (N : Nat) (rok : Option Nat → Option Nat → Int32 → Int32 → Int32 → cS → Prop) (x0 : Option Nat) (x1 : Option Nat) (x3 : Int32) (x4 : Int32) (x5 : Int32) (S : cS) : Prop := (cis S x0 6) ∧ (cis S (cR S 0 (za x0)) 9) ∧ (((cI S 1 (za (cR S 0 (za x0)))) ≤ x5 → True) ∧ (¬ (cI S 1 (za (cR S 0 (za x0)))) ≤ x5 → (((nI 2) ≤ x4 → True) ∧ (¬ (nI 2) ≤ x4 → (cis S x0 6) ∧ (cis S (cR S 3 (za x0)) 7 ∧ o_X8_proofOf N S (za (cR S 3 (za x0))) x5) ∧ (((f_X8_proofOf N S (za (cR S 3 (za x0))) x5) = none → O_X7_addEvidences_92 N rok x0 x1 x3 x4 x5 S) ∧ (¬ (f_X8_proofOf N S (za (cR S 3 (za x0))) x5) = none → (cis S x0 6) ∧ (cis S (cR S 0 (za x0)) 9) ∧ (cis S x0 6) ∧ (cis S (cR S 8 (za (cR S 0 (za x0)))) 1 ∧ o_X0_punish N S (za (cR S 8 (za (cR S 0 (za x0))))) x5 (cI S 1 (za x0))) ∧ O_X7_addEvidences_58 N rok x0 x1 x3 x4 x5 (f_X8_proofOf N S (za (cR S 3 (za x0))) x5) ((f_X0_punish N S (za (cR S 8 (za (cR S 0 (za x0))))) x5 (cI S 1 (za x0))).1) (f_X0_punish N S (za (cR S 8 (za (cR S 0 (za x0))))) x5 (cI S 1 (za x0))).2))))))
set_option maxRecDepth 100000 in
set_option maxHeartbeats 4000000 in
theorem bb_X7_addEvidences_8 {G : zG} {o : Nat → Option va_E} {S : cS} {N : Nat} {Q : Option Value → cS → Prop} {X : Nat × Option Nat × Int32 × Int32 × cS → Prop} (hG : zOK G) (hX0 : ∀ (x1 : Option Nat) (x3 : Int32) (x4 : Int32) (S' : cS), X (0, x1, x3, x4, S') → cX G o dX7_addEvidences mX7_addEvidences 98 [none, some (va_rf x1), none, some (.int x3), some (.int x4), none, none] [] S' Q) {rec : Option Nat → Option Nat → Int32 → Int32 → Int32 → cS → Nat × Option Nat × Int32 × Int32 × cS} {rok : Option Nat → Option Nat → Int32 → Int32 → Int32 → cS → Prop} (hrec : ∀ (x0 : Option Nat) (x1 : Option Nat) (x3 : Int32) (x4 : Int32) (x5 : Int32) (S : cS), rok x0 x1 x3 x4 x5 S → X (rec x0 x1 x3 x4 x5 S) → cX G o dX7_addEvidences mX7_addEvidences 8 [some (va_rf x0), some (va_rf x1), none, some (.int x3), some (.int x4), some (.int x5), none] [] S Q) {x0 : Option Nat} {x1 : Option Nat} {x3 : Int32} {x4 : Int32} {x5 : Int32} (ok : OB_X7_addEvidences_8 N rok x0 x1 x3 x4 x5 S) (hx : X (B_X7_addEvidences_8 N rec x0 x1 x3 x4 x5 S)) : cX G o dX7_addEvidences mX7_addEvidences 8 [some (va_rf x0), some (va_rf x1), none, some (.int x3), some (.int x4), some (.int x5), none] [] S Q := by
  unfold OB_X7_addEvidences_8 at ok
  unfold B_X7_addEvidences_8 at hx
  refine c_iload dX7_addEvidences_8 rfl ?_
  refine c_aload_nQ dX7_addEvidences_10 rfl rfl ?_
  refine c_getR (C := RX6) (T := TX6) (N := 19) (ci := 5) (k := 0) ⟨rfl, inT6, by decide, fX7_26⟩ (by decide) (by decide) (by decide) dX7_addEvidences_11 ok.1 ?_
  have ok := ok.2
  refine c_getI (C := RX10) (T := TX10) (N := 12) (ci := 8) (k := 1) ⟨rfl, inT10, by decide, fX7_84⟩ (by decide) (by decide) (by decide) dX7_addEvidences_14 ok.1 ?_
  have ok := ok.2
  refine c_icmp_ge (tgt := 98) dX7_addEvidences_17 (by decide) (fun c_17 => ?_) (fun c_17 => ?_)
  · have ok := ok.1 c_17
    have hx := xif_p c_17 hx
    exact cX.cutz (hX0 _ _ _ S hx) ⟨rfl, rfl, rfl, trivial⟩
  · have ok := ok.2 c_17
    have hx := xif_n c_17 hx
    refine c_iload dX7_addEvidences_20 rfl ?_
    refine c_iconst (v := nI 2) dX7_addEvidences_22 (by decide) ?_
    refine c_icmp_ge (tgt := 98) dX7_addEvidences_23 (by decide) (fun c_23 => ?_) (fun c_23 => ?_)
    · have ok := ok.1 c_23
      have hx := xif_p c_23 hx
      exact cX.cutz (hX0 _ _ _ S hx) ⟨rfl, rfl, rfl, trivial⟩
    · have ok := ok.2 c_23
      have hx := xif_n c_23 hx
      refine c_aload_nQ dX7_addEvidences_26 rfl rfl ?_
      refine c_getR (C := RX6) (T := TX6) (N := 19) (ci := 5) (k := 3) ⟨rfl, inT6, by decide, fX7_80⟩ (by decide) (by decide) (by decide) dX7_addEvidences_27 ok.1 ?_
      have ok := ok.2
      refine c_iload dX7_addEvidences_30 rfl ?_
      refine c_V1q (ci := 6) (rr := (RX8, TX8, 14)) (y' := mX8_proofOf) dX7_addEvidences_32 lX7_372 kX8_proofOf ⟨by decide, by decide⟩ rfl rfl (by decide) ok.1.1 (Nat.le_of_ble_eq_true rfl) (cc_X8_proofOf hG ok.1.2) (fun v_32 S_32 h_32 => ?_)
      obtain ⟨hv_32, hS_32⟩ := h_32
      subst hv_32
      have hS_32 := hS_32.symm
      subst hS_32
      have ok := ok.2
      refine c_astore_6Q dX7_addEvidences_35 (by decide) rfl ?_
      refine c_aloadQ dX7_addEvidences_37 rfl ?_
      refine c_ifnullI (tgt := 92) dX7_addEvidences_39 (by decide) (fun c_39 => ?_) (fun c_39 => ?_)
      · have ok := ok.1 c_39
        have hx := xif_p c_39 hx
        exact cX.cutz (b_X7_addEvidences_92 hG hX0 hrec ok hx) ⟨rfl, rfl, rfl, rfl, rfl, trivial⟩
      · have ok := ok.2 c_39
        have hx := xif_n c_39 hx
        refine c_aload_nQ dX7_addEvidences_42 rfl rfl ?_
        refine c_getR (C := RX6) (T := TX6) (N := 19) (ci := 5) (k := 0) ⟨rfl, inT6, by decide, fX7_26⟩ (by decide) (by decide) (by decide) dX7_addEvidences_43 ok.1 ?_
        have ok := ok.2
        refine c_getR (C := RX10) (T := TX10) (N := 12) (ci := 8) (k := 8) ⟨rfl, inT10, by decide, fX7_338⟩ (by decide) (by decide) (by decide) dX7_addEvidences_46 ok.1 ?_
        have ok := ok.2
        refine c_iload dX7_addEvidences_49 rfl ?_
        refine c_aload_nQ dX7_addEvidences_51 rfl rfl ?_
        refine c_getI (C := RX6) (T := TX6) (N := 19) (ci := 5) (k := 1) ⟨rfl, inT6, by decide, fX7_271⟩ (by decide) (by decide) (by decide) dX7_addEvidences_52 ok.1 ?_
        have ok := ok.2
        refine c_V2i (ci := 0) (rr := (RX0, TX0, 6)) (y' := mX0_punish) dX7_addEvidences_55 lX7_375 kX0_punish ⟨by decide, by decide⟩ rfl rfl (by decide) ok.1.1 (Nat.le_of_ble_eq_true rfl) (cc_X0_punish hG ok.1.2) (fun v_55 S_55 h_55 => ?_)
        obtain ⟨hv_55, hS_55⟩ := h_55
        subst hv_55
        have hS_55 := hS_55.symm
        subst hS_55
        have ok := ok.2
        exact cX.cutz (b_X7_addEvidences_58 hG hX0 hrec ok hx) ⟨rfl, rfl, rfl, rfl, rfl, rfl, trivial⟩
def L_X7_addEvidences_8 (N : Nat) : Nat → Option Nat → Option Nat → Int32 → Int32 → Int32 → cS → Nat × Option Nat × Int32 × Int32 × cS
  | 0, x0, x1, x3, x4, x5, S => (0, none, 0, 0, S)
  | n + 1, x0, x1, x3, x4, x5, S => B_X7_addEvidences_8 N (L_X7_addEvidences_8 N n) x0 x1 x3 x4 x5 S
def OL_X7_addEvidences_8 (N : Nat) : Nat → Option Nat → Option Nat → Int32 → Int32 → Int32 → cS → Prop
  | 0, _, _, _, _, _, _ => False
  | n + 1, x0, x1, x3, x4, x5, S => OB_X7_addEvidences_8 N (OL_X7_addEvidences_8 N n) x0 x1 x3 x4 x5 S
set_option maxRecDepth 100000 in
set_option maxHeartbeats 4000000 in
theorem l_X7_addEvidences_8 {G : zG} {o : Nat → Option va_E} {N : Nat} {Q : Option Value → cS → Prop} {X : Nat × Option Nat × Int32 × Int32 × cS → Prop} (hG : zOK G) (hX0 : ∀ (x1 : Option Nat) (x3 : Int32) (x4 : Int32) (S' : cS), X (0, x1, x3, x4, S') → cX G o dX7_addEvidences mX7_addEvidences 98 [none, some (va_rf x1), none, some (.int x3), some (.int x4), none, none] [] S' Q) : ∀ (n : Nat) (x0 : Option Nat) (x1 : Option Nat) (x3 : Int32) (x4 : Int32) (x5 : Int32) (S : cS), OL_X7_addEvidences_8 N n x0 x1 x3 x4 x5 S → X (L_X7_addEvidences_8 N n x0 x1 x3 x4 x5 S) → cX G o dX7_addEvidences mX7_addEvidences 8 [some (va_rf x0), some (va_rf x1), none, some (.int x3), some (.int x4), some (.int x5), none] [] S Q := by
  intro n
  induction n with
  | zero => intro x0 x1 x3 x4 x5 S ok; exact absurd ok id
  | succ n ih =>
    intro x0 x1 x3 x4 x5 S ok hx
    exact bb_X7_addEvidences_8 hG hX0 (rec := L_X7_addEvidences_8 N n) (rok := OL_X7_addEvidences_8 N n) (fun x0 x1 x3 x4 x5 S ok hx => ih x0 x1 x3 x4 x5 S ok hx) ok hx
def A_X7_addEvidences_8 (N : Nat) (x0 : Option Nat) (x1 : Option Nat) (x3 : Int32) (x4 : Int32) (x5 : Int32) (S : cS) (z : Nat × Option Nat × Int32 × Int32 × cS) : Int32 × cS := (F_X7_addEvidences_98 N (z.2.1) (z.2.2.1) (z.2.2.2.1) z.2.2.2.2)
def OA_X7_addEvidences_8 (N : Nat) (x0 : Option Nat) (x1 : Option Nat) (x3 : Int32) (x4 : Int32) (x5 : Int32) (S : cS) (z : Nat × Option Nat × Int32 × Int32 × cS) : Prop := O_X7_addEvidences_98 N (z.2.1) (z.2.2.1) (z.2.2.2.1) z.2.2.2.2
set_option maxRecDepth 100000 in
set_option maxHeartbeats 4000000 in
theorem c_X7_addEvidences_8 {G : zG} {o : Nat → Option va_E} {S : cS} {N : Nat} {Q : Option Value → cS → Prop} {X : Int32 × cS → Prop} (hG : zOK G) (hR : ∀ v S', X (v, S') → Q (some (.int v)) S') {x0 : Option Nat} {x1 : Option Nat} {x3 : Int32} {x4 : Int32} {x5 : Int32} (ok : OL_X7_addEvidences_8 N N x0 x1 x3 x4 x5 S ∧ OA_X7_addEvidences_8 N x0 x1 x3 x4 x5 S (L_X7_addEvidences_8 N N x0 x1 x3 x4 x5 S)) (hx : X (A_X7_addEvidences_8 N x0 x1 x3 x4 x5 S (L_X7_addEvidences_8 N N x0 x1 x3 x4 x5 S))) : cX G o dX7_addEvidences mX7_addEvidences 8 [some (va_rf x0), some (va_rf x1), none, some (.int x3), some (.int x4), some (.int x5), none] [] S Q := by
  refine l_X7_addEvidences_8 hG ?_ N x0 x1 x3 x4 x5 S ok.1 (X := fun z => OA_X7_addEvidences_8 N x0 x1 x3 x4 x5 S z ∧ X (A_X7_addEvidences_8 N x0 x1 x3 x4 x5 S z)) ⟨ok.2, hx⟩
  · intro x1' x3' x4' S' hz
    obtain ⟨ok, hx⟩ := hz
    unfold OA_X7_addEvidences_8 at ok
    unfold A_X7_addEvidences_8 at hx
    exact cX.cutz (b_X7_addEvidences_98 hG hR ok hx) ⟨rfl, rfl, rfl, trivial⟩
def F_X7_addEvidences_0 (N : Nat) (x0 : Option Nat) (x1 : Option Nat) (x2 : Int32) (S : cS) : Int32 × cS := (A_X7_addEvidences_8 N x0 x1 x2 (nI 0) (nI 0) S (L_X7_addEvidences_8 N N x0 x1 x2 (nI 0) (nI 0) S))
def O_X7_addEvidences_0 (N : Nat) (x0 : Option Nat) (x1 : Option Nat) (x2 : Int32) (S : cS) : Prop := (OL_X7_addEvidences_8 N N x0 x1 x2 (nI 0) (nI 0) S ∧ OA_X7_addEvidences_8 N x0 x1 x2 (nI 0) (nI 0) S (L_X7_addEvidences_8 N N x0 x1 x2 (nI 0) (nI 0) S))
set_option maxRecDepth 100000 in
set_option maxHeartbeats 4000000 in
theorem b_X7_addEvidences_0 {G : zG} {o : Nat → Option va_E} {S : cS} {N : Nat} {Q : Option Value → cS → Prop} {X : Int32 × cS → Prop} (hG : zOK G) (hR : ∀ v S', X (v, S') → Q (some (.int v)) S') {x0 : Option Nat} {x1 : Option Nat} {x2 : Int32} (ok : O_X7_addEvidences_0 N x0 x1 x2 S) (hx : X (F_X7_addEvidences_0 N x0 x1 x2 S)) : cX G o dX7_addEvidences mX7_addEvidences 0 [some (va_rf x0), some (va_rf x1), some (.int x2), none, none, none, none] [] S Q := by
  unfold O_X7_addEvidences_0 at ok
  unfold F_X7_addEvidences_0 at hx
  refine c_iload_n dX7_addEvidences_0 rfl rfl ?_
  refine c_istore_3 dX7_addEvidences_1 (by decide) rfl ?_
  refine c_iconst (v := nI 0) dX7_addEvidences_2 (by decide) ?_
  refine c_istore_4 dX7_addEvidences_3 (by decide) rfl ?_
  refine c_iconst (v := nI 0) dX7_addEvidences_5 (by decide) ?_
  refine c_istore_5 dX7_addEvidences_6 (by decide) rfl ?_
  exact cX.cutz (c_X7_addEvidences_8 hG hR ok hx) ⟨rfl, rfl, rfl, rfl, rfl, trivial⟩
def f_X7_addEvidences (N : Nat) (S : cS) (x0 : Option Nat) (x1 : Option Nat) (x2 : Int32) : Int32 × cS := F_X7_addEvidences_0 N x0 x1 x2 S
def o_X7_addEvidences (N : Nat) (S : cS) (x0 : Option Nat) (x1 : Option Nat) (x2 : Int32) : Prop := O_X7_addEvidences_0 N x0 x1 x2 S
set_option maxRecDepth 100000 in
set_option maxHeartbeats 4000000 in
theorem cc_X7_addEvidences {G : zG} {o : Nat → Option va_E} {S : cS} {N : Nat} (hG : zOK G) {x0 : Option Nat} {x1 : Option Nat} {x2 : Int32} (ok : o_X7_addEvidences N S x0 x1 x2) : cCi G o dX7_addEvidences mX7_addEvidences [va_rf x0, va_rf x1, .int x2] S (fun v S' => v = (f_X7_addEvidences N S x0 x1 x2).1 ∧ S' = (f_X7_addEvidences N S x0 x1 x2).2) := by
  refine cC.ofX rfl (by cases x0 <;> cases x1 <;> exact Nat.le_of_ble_eq_true rfl) ?_
  rw [show zargs mX7_addEvidences.2.2.1 [va_rf x0, va_rf x1, .int x2] = [some (va_rf x0), some (va_rf x1), some (.int x2), none, none, none, none] from by cases x0 <;> cases x1 <;> rfl]
  exact cX.cutz (b_X7_addEvidences_0 (X := fun F => F = f_X7_addEvidences N S x0 x1 x2) hG (fun v S' h => ⟨v, rfl, by rw [← h], by rw [← h]⟩) ok rfl) ⟨rfl, rfl, rfl, trivial⟩
/-! X8_paymentAt -/
def F_X8_paymentAt_22 (N : Nat) (s0 : Int64) (S : cS) : Int64 := s0
def O_X8_paymentAt_22 (N : Nat) (s0 : Int64) (S : cS) : Prop := True
set_option maxRecDepth 100000 in
set_option maxHeartbeats 4000000 in
theorem b_X8_paymentAt_22 {G : zG} {o : Nat → Option va_E} {S : cS} {N : Nat} {Q : Option Value → cS → Prop} {X : Int64 → Prop} (hG : zOK G) (hR : ∀ v, X v → Q (some (.long v)) S) {s0 : Int64} (ok : O_X8_paymentAt_22 N s0 S) (hx : X (F_X8_paymentAt_22 N s0 S)) : cX G o dX8_paymentAt mX8_paymentAt 22 [none, none] [.long s0] S Q := by
  unfold O_X8_paymentAt_22 at ok
  unfold F_X8_paymentAt_22 at hx
  exact c_lreturn rfl dX8_paymentAt_22 (hR _ hx)
def F_X8_paymentAt_21 (N : Nat)  (S : cS) : Int64 := (F_X8_paymentAt_22 N (0 : Int64) S)
def O_X8_paymentAt_21 (N : Nat)  (S : cS) : Prop := O_X8_paymentAt_22 N (0 : Int64) S
set_option maxRecDepth 100000 in
set_option maxHeartbeats 4000000 in
theorem b_X8_paymentAt_21 {G : zG} {o : Nat → Option va_E} {S : cS} {N : Nat} {Q : Option Value → cS → Prop} {X : Int64 → Prop} (hG : zOK G) (hR : ∀ v, X v → Q (some (.long v)) S) (ok : O_X8_paymentAt_21 N S) (hx : X (F_X8_paymentAt_21 N S)) : cX G o dX8_paymentAt mX8_paymentAt 21 [none, none] [] S Q := by
  unfold O_X8_paymentAt_21 at ok
  unfold F_X8_paymentAt_21 at hx
  refine c_lconst (v := 0) dX8_paymentAt_21 rfl ?_
  exact cX.cutz (b_X8_paymentAt_22 hG hR ok hx) trivial
def F_X8_paymentAt_0 (N : Nat) (x0 : Option Nat) (x1 : Int32) (S : cS) : Int64 := (if x1 < 0 then (F_X8_paymentAt_21 N S) else (if (cI S 12 (za x0)) ≤ x1 then (F_X8_paymentAt_21 N S) else (F_X8_paymentAt_22 N (cJ S (za (cR S 10 (za x0))) x1.toNatClampNeg) S)))
def O_X8_paymentAt_0 (N : Nat) (x0 : Option Nat) (x1 : Int32) (S : cS) : Prop := ((x1 < 0 → O_X8_paymentAt_21 N S) ∧ (¬ x1 < 0 → (cis S x0 7) ∧ (((cI S 12 (za x0)) ≤ x1 → O_X8_paymentAt_21 N S) ∧ (¬ (cI S 12 (za x0)) ≤ x1 → (cis S x0 7) ∧ (cis S (cR S 10 (za x0)) 22 ∧ vp_in x1 (cL S (za (cR S 10 (za x0))))) ∧ O_X8_paymentAt_22 N (cJ S (za (cR S 10 (za x0))) x1.toNatClampNeg) S))))
set_option maxRecDepth 100000 in
set_option maxHeartbeats 4000000 in
theorem b_X8_paymentAt_0 {G : zG} {o : Nat → Option va_E} {S : cS} {N : Nat} {Q : Option Value → cS → Prop} {X : Int64 → Prop} (hG : zOK G) (hR : ∀ v, X v → Q (some (.long v)) S) {x0 : Option Nat} {x1 : Int32} (ok : O_X8_paymentAt_0 N x0 x1 S) (hx : X (F_X8_paymentAt_0 N x0 x1 S)) : cX G o dX8_paymentAt mX8_paymentAt 0 [some (va_rf x0), some (.int x1)] [] S Q := by
  unfold O_X8_paymentAt_0 at ok
  unfold F_X8_paymentAt_0 at hx
  refine c_iload_n dX8_paymentAt_0 rfl rfl ?_
  refine c_if_lt (tgt := 21) dX8_paymentAt_1 (by decide) (fun c_1 => ?_) (fun c_1 => ?_)
  · have ok := ok.1 c_1
    have hx := xif_p c_1 hx
    exact cX.cutz (b_X8_paymentAt_21 hG hR ok hx) trivial
  · have ok := ok.2 c_1
    have hx := xif_n c_1 hx
    refine c_iload_n dX8_paymentAt_4 rfl rfl ?_
    refine c_aload_nQ dX8_paymentAt_5 rfl rfl ?_
    refine c_getI (C := RX8) (T := TX8) (N := 14) (ci := 6) (k := 12) ⟨rfl, inT8, by decide, fX8_108⟩ (by decide) (by decide) (by decide) dX8_paymentAt_6 ok.1 ?_
    have ok := ok.2
    refine c_icmp_ge (tgt := 21) dX8_paymentAt_9 (by decide) (fun c_9 => ?_) (fun c_9 => ?_)
    · have ok := ok.1 c_9
      have hx := xif_p c_9 hx
      exact cX.cutz (b_X8_paymentAt_21 hG hR ok hx) trivial
    · have ok := ok.2 c_9
      have hx := xif_n c_9 hx
      refine c_aload_nQ dX8_paymentAt_12 rfl rfl ?_
      refine c_getR (C := RX8) (T := TX8) (N := 14) (ci := 6) (k := 10) ⟨rfl, inT8, by decide, fX8_24⟩ (by decide) (by decide) (by decide) dX8_paymentAt_13 ok.1 ?_
      have ok := ok.2
      refine c_iload_n dX8_paymentAt_16 rfl rfl ?_
      refine c_lald dX8_paymentAt_17 ok.1 ?_
      have ok := ok.2
      refine c_goto (tgt := 22) dX8_paymentAt_18 (by decide) ?_
      exact cX.cutz (b_X8_paymentAt_22 hG hR ok hx) trivial
def f_X8_paymentAt (N : Nat) (S : cS) (a0 : Nat) (x1 : Int32) : Int64 := F_X8_paymentAt_0 N (some a0) x1 S
def o_X8_paymentAt (N : Nat) (S : cS) (a0 : Nat) (x1 : Int32) : Prop := O_X8_paymentAt_0 N (some a0) x1 S
set_option maxRecDepth 100000 in
set_option maxHeartbeats 4000000 in
theorem cc_X8_paymentAt {G : zG} {o : Nat → Option va_E} {S : cS} {N : Nat} (hG : zOK G) {a0 : Nat} {x1 : Int32} (ok : o_X8_paymentAt N S a0 x1) : cCl G o dX8_paymentAt mX8_paymentAt [.ref a0, .int x1] S (fun v S' => v = f_X8_paymentAt N S a0 x1 ∧ S' = S) := by
  refine cC.ofX rfl (by exact Nat.le_of_ble_eq_true rfl) ?_
  show cX G o dX8_paymentAt mX8_paymentAt 0 [some (.ref a0), some (.int x1)] [] S _
  exact cX.cutz (b_X8_paymentAt_0 (X := fun F => F = f_X8_paymentAt N S a0 x1) hG (fun v h => ⟨v, rfl, h, rfl⟩) ok rfl) ⟨rfl, rfl, trivial⟩
/-! X7_addPayments -/
def F_X7_addPayments_76 (N : Nat) (x1 : Option Nat) (x3 : Int32) (x4 : Int32) (S : cS) : Int32 × cS := (x3, (csA S (za x1) (nI 105).toNatClampNeg ((x4.toInt8.toInt32).toInt8.toInt32)))
def O_X7_addPayments_76 (N : Nat) (x1 : Option Nat) (x3 : Int32) (x4 : Int32) (S : cS) : Prop := (cis S x1 20 ∧ vp_in (nI 105) (cL S (za x1))) ∧ True
set_option maxRecDepth 100000 in
set_option maxHeartbeats 4000000 in
theorem b_X7_addPayments_76 {G : zG} {o : Nat → Option va_E} {S : cS} {N : Nat} {Q : Option Value → cS → Prop} {X : Int32 × cS → Prop} (hG : zOK G) (hR : ∀ v S', X (v, S') → Q (some (.int v)) S') {x1 : Option Nat} {x3 : Int32} {x4 : Int32} (ok : O_X7_addPayments_76 N x1 x3 x4 S) (hx : X (F_X7_addPayments_76 N x1 x3 x4 S)) : cX G o dX7_addPayments mX7_addPayments 76 [none, some (va_rf x1), none, some (.int x3), some (.int x4), none, none, none] [] S Q := by
  unfold O_X7_addPayments_76 at ok
  unfold F_X7_addPayments_76 at hx
  refine c_aload_nQ dX7_addPayments_76 rfl rfl ?_
  refine c_bipush (v := nI 105) dX7_addPayments_77 (by decide) ?_
  refine c_iload dX7_addPayments_79 rfl ?_
  refine c_i2b dX7_addPayments_81 ?_
  refine c_bast dX7_addPayments_82 ok.1 ?_
  have ok := ok.2
  refine c_iload_n dX7_addPayments_83 rfl rfl ?_
  exact c_ireturn rfl rfl dX7_addPayments_84 (hR _ _ hx)
def F_X7_addPayments_70 (N : Nat) (rec : Option Nat → Option Nat → Int32 → Int32 → Int32 → cS → Nat × Option Nat × Int32 × Int32 × cS) (x0 : Option Nat) (x1 : Option Nat) (x3 : Int32) (x4 : Int32) (x5 : Int32) (S : cS) : Nat × Option Nat × Int32 × Int32 × cS := (rec x0 x1 x3 x4 (x5 + nI 1) S)
def O_X7_addPayments_70 (N : Nat) (rok : Option Nat → Option Nat → Int32 → Int32 → Int32 → cS → Prop) (x0 : Option Nat) (x1 : Option Nat) (x3 : Int32) (x4 : Int32) (x5 : Int32) (S : cS) : Prop := rok x0 x1 x3 x4 (x5 + nI 1) S
set_option maxRecDepth 100000 in
set_option maxHeartbeats 4000000 in
theorem b_X7_addPayments_70 {G : zG} {o : Nat → Option va_E} {S : cS} {N : Nat} {Q : Option Value → cS → Prop} {X : Nat × Option Nat × Int32 × Int32 × cS → Prop} (hG : zOK G) (hX0 : ∀ (x1 : Option Nat) (x3 : Int32) (x4 : Int32) (S' : cS), X (0, x1, x3, x4, S') → cX G o dX7_addPayments mX7_addPayments 76 [none, some (va_rf x1), none, some (.int x3), some (.int x4), none, none, none] [] S' Q) {rec : Option Nat → Option Nat → Int32 → Int32 → Int32 → cS → Nat × Option Nat × Int32 × Int32 × cS} {rok : Option Nat → Option Nat → Int32 → Int32 → Int32 → cS → Prop} (hrec : ∀ (x0 : Option Nat) (x1 : Option Nat) (x3 : Int32) (x4 : Int32) (x5 : Int32) (S : cS), rok x0 x1 x3 x4 x5 S → X (rec x0 x1 x3 x4 x5 S) → cX G o dX7_addPayments mX7_addPayments 8 [some (va_rf x0), some (va_rf x1), none, some (.int x3), some (.int x4), some (.int x5), none, none] [] S Q) {x0 : Option Nat} {x1 : Option Nat} {x3 : Int32} {x4 : Int32} {x5 : Int32} (ok : O_X7_addPayments_70 N rok x0 x1 x3 x4 x5 S) (hx : X (F_X7_addPayments_70 N rec x0 x1 x3 x4 x5 S)) : cX G o dX7_addPayments mX7_addPayments 70 [some (va_rf x0), some (va_rf x1), none, some (.int x3), some (.int x4), some (.int x5), none, none] [] S Q := by
  unfold O_X7_addPayments_70 at ok
  unfold F_X7_addPayments_70 at hx
  refine c_iinc_5 (v := (x5 + nI 1)) dX7_addPayments_70 rfl (by first | rfl | (congr 1)) (by decide) rfl ?_
  refine c_goto (tgt := 8) dX7_addPayments_73 (by decide) ?_
  exact cX.cutz (hrec _ _ _ _ _ S ok hx) ⟨rfl, rfl, rfl, rfl, rfl, trivial⟩
def F_X7_addPayments_64 (N : Nat) (rec : Option Nat → Option Nat → Int32 → Int32 → Int32 → cS → Nat × Option Nat × Int32 × Int32 × cS) (x0 : Option Nat) (x1 : Option Nat) (x3 : Int32) (x4 : Int32) (x5 : Int32) (S : cS) : Nat × Option Nat × Int32 × Int32 × cS := (F_X7_addPayments_70 N rec x0 x1 (x3 + nI 7) (x4 + nI 1) x5 S)
def O_X7_addPayments_64 (N : Nat) (rok : Option Nat → Option Nat → Int32 → Int32 → Int32 → cS → Prop) (x0 : Option Nat) (x1 : Option Nat) (x3 : Int32) (x4 : Int32) (x5 : Int32) (S : cS) : Prop := O_X7_addPayments_70 N rok x0 x1 (x3 + nI 7) (x4 + nI 1) x5 S
set_option maxRecDepth 100000 in
set_option maxHeartbeats 4000000 in
theorem b_X7_addPayments_64 {G : zG} {o : Nat → Option va_E} {S : cS} {N : Nat} {Q : Option Value → cS → Prop} {X : Nat × Option Nat × Int32 × Int32 × cS → Prop} (hG : zOK G) (hX0 : ∀ (x1 : Option Nat) (x3 : Int32) (x4 : Int32) (S' : cS), X (0, x1, x3, x4, S') → cX G o dX7_addPayments mX7_addPayments 76 [none, some (va_rf x1), none, some (.int x3), some (.int x4), none, none, none] [] S' Q) {rec : Option Nat → Option Nat → Int32 → Int32 → Int32 → cS → Nat × Option Nat × Int32 × Int32 × cS} {rok : Option Nat → Option Nat → Int32 → Int32 → Int32 → cS → Prop} (hrec : ∀ (x0 : Option Nat) (x1 : Option Nat) (x3 : Int32) (x4 : Int32) (x5 : Int32) (S : cS), rok x0 x1 x3 x4 x5 S → X (rec x0 x1 x3 x4 x5 S) → cX G o dX7_addPayments mX7_addPayments 8 [some (va_rf x0), some (va_rf x1), none, some (.int x3), some (.int x4), some (.int x5), none, none] [] S Q) {x0 : Option Nat} {x1 : Option Nat} {x3 : Int32} {x4 : Int32} {x5 : Int32} (ok : O_X7_addPayments_64 N rok x0 x1 x3 x4 x5 S) (hx : X (F_X7_addPayments_64 N rec x0 x1 x3 x4 x5 S)) : cX G o dX7_addPayments mX7_addPayments 64 [some (va_rf x0), some (va_rf x1), none, some (.int x3), some (.int x4), some (.int x5), none, none] [] S Q := by
  unfold O_X7_addPayments_64 at ok
  unfold F_X7_addPayments_64 at hx
  refine c_iinc_3 (v := (x3 + nI 7)) dX7_addPayments_64 rfl (by first | rfl | (congr 1)) (by decide) rfl ?_
  refine c_iinc_4 (v := (x4 + nI 1)) dX7_addPayments_67 rfl (by first | rfl | (congr 1)) (by decide) rfl ?_
  exact cX.cutz (b_X7_addPayments_70 hG hX0 hrec ok hx) ⟨rfl, rfl, rfl, rfl, rfl, trivial⟩
def F_X7_addPayments_54 (N : Nat) (rec : Option Nat → Option Nat → Int32 → Int32 → Int32 → cS → Nat × Option Nat × Int32 × Int32 × cS) (x0 : Option Nat) (x1 : Option Nat) (x3 : Int32) (x4 : Int32) (x5 : Int32) (x6 : Int64) (s0 : Int32) (S : cS) : Nat × Option Nat × Int32 × Int32 × cS := (if s0 = 0 then (F_X7_addPayments_70 N rec x0 x1 x3 x4 x5 S) else (F_X7_addPayments_64 N rec x0 x1 x3 x4 x5 (f_X0_putCode N S x6 x1 x3)))
def O_X7_addPayments_54 (N : Nat) (rok : Option Nat → Option Nat → Int32 → Int32 → Int32 → cS → Prop) (x0 : Option Nat) (x1 : Option Nat) (x3 : Int32) (x4 : Int32) (x5 : Int32) (x6 : Int64) (s0 : Int32) (S : cS) : Prop := ((s0 = 0 → O_X7_addPayments_70 N rok x0 x1 x3 x4 x5 S) ∧ (¬ s0 = 0 → (o_X0_putCode N S x6 x1 x3) ∧ O_X7_addPayments_64 N rok x0 x1 x3 x4 x5 (f_X0_putCode N S x6 x1 x3)))
set_option maxRecDepth 100000 in
set_option maxHeartbeats 4000000 in
theorem b_X7_addPayments_54 {G : zG} {o : Nat → Option va_E} {S : cS} {N : Nat} {Q : Option Value → cS → Prop} {X : Nat × Option Nat × Int32 × Int32 × cS → Prop} (hG : zOK G) (hX0 : ∀ (x1 : Option Nat) (x3 : Int32) (x4 : Int32) (S' : cS), X (0, x1, x3, x4, S') → cX G o dX7_addPayments mX7_addPayments 76 [none, some (va_rf x1), none, some (.int x3), some (.int x4), none, none, none] [] S' Q) {rec : Option Nat → Option Nat → Int32 → Int32 → Int32 → cS → Nat × Option Nat × Int32 × Int32 × cS} {rok : Option Nat → Option Nat → Int32 → Int32 → Int32 → cS → Prop} (hrec : ∀ (x0 : Option Nat) (x1 : Option Nat) (x3 : Int32) (x4 : Int32) (x5 : Int32) (S : cS), rok x0 x1 x3 x4 x5 S → X (rec x0 x1 x3 x4 x5 S) → cX G o dX7_addPayments mX7_addPayments 8 [some (va_rf x0), some (va_rf x1), none, some (.int x3), some (.int x4), some (.int x5), none, none] [] S Q) {x0 : Option Nat} {x1 : Option Nat} {x3 : Int32} {x4 : Int32} {x5 : Int32} {x6 : Int64} {s0 : Int32} (ok : O_X7_addPayments_54 N rok x0 x1 x3 x4 x5 x6 s0 S) (hx : X (F_X7_addPayments_54 N rec x0 x1 x3 x4 x5 x6 s0 S)) : cX G o dX7_addPayments mX7_addPayments 54 [some (va_rf x0), some (va_rf x1), none, some (.int x3), some (.int x4), some (.int x5), some (.long x6), none] [.int s0] S Q := by
  unfold O_X7_addPayments_54 at ok
  unfold F_X7_addPayments_54 at hx
  refine c_if_eq (tgt := 70) dX7_addPayments_54 (by decide) (fun c_54 => ?_) (fun c_54 => ?_)
  · have ok := ok.1 c_54
    have hx := xif_p c_54 hx
    exact cX.cutz (b_X7_addPayments_70 hG hX0 hrec ok hx) ⟨rfl, rfl, rfl, rfl, rfl, trivial⟩
  · have ok := ok.2 c_54
    have hx := xif_n c_54 hx
    refine c_lload dX7_addPayments_57 rfl ?_
    refine c_aload_nQ dX7_addPayments_59 rfl rfl ?_
    refine c_iload_n dX7_addPayments_60 rfl rfl ?_
    refine c_S3v (y' := mX0_putCode) dX7_addPayments_61 lX7_390 kX0_putCode ⟨by decide, by decide⟩ (Nat.le_of_ble_eq_true rfl) (cc_X0_putCode hG ok.1) (fun S_61 h_61 => ?_)
    subst h_61
    have ok := ok.2
    exact cX.cutz (b_X7_addPayments_64 hG hX0 hrec ok hx) ⟨rfl, rfl, rfl, rfl, rfl, trivial⟩
def B_X7_addPayments_8 (N : Nat) (rec : Option Nat → Option Nat → Int32 → Int32 → Int32 → cS → Nat × Option Nat × Int32 × Int32 × cS) (x0 : Option Nat) (x1 : Option Nat) (x3 : Int32) (x4 : Int32) (x5 : Int32) (S : cS) : Nat × Option Nat × Int32 × Int32 × cS := (if (cI S 12 (za (cR S 3 (za x0)))) ≤ x5 then (0, x1, x3, x4, S) else (if (nI 64) ≤ x4 then (0, x1, x3, x4, S) else (F_X7_addPayments_54 N rec x0 x1 x3 x4 x5 (f_X8_paymentAt N S (za (cR S 3 (za x0))) x5) ((f_X0_pay N S (za (cR S 8 (za (cR S 0 (za x0))))) (f_X8_paymentAt N S (za (cR S 3 (za x0))) x5) (cI S 1 (za x0))).1) (f_X0_pay N S (za (cR S 8 (za (cR S 0 (za x0))))) (f_X8_paymentAt N S (za (cR S 3 (za x0))) x5) (cI S 1 (za x0))).2)))
def OB_X7_addPayments_8 (N : Nat) (rok : Option Nat → Option Nat → Int32 → Int32 → Int32 → cS → Prop) (x0 : Option Nat) (x1 : Option Nat) (x3 : Int32) (x4 : Int32) (x5 : Int32) (S : cS) : Prop := (cis S x0 6) ∧ (cis S (cR S 3 (za x0)) 7) ∧ (((cI S 12 (za (cR S 3 (za x0)))) ≤ x5 → True) ∧ (¬ (cI S 12 (za (cR S 3 (za x0)))) ≤ x5 → (((nI 64) ≤ x4 → True) ∧ (¬ (nI 64) ≤ x4 → (cis S x0 6) ∧ (cis S (cR S 3 (za x0)) 7 ∧ o_X8_paymentAt N S (za (cR S 3 (za x0))) x5) ∧ (cis S x0 6) ∧ (cis S (cR S 0 (za x0)) 9) ∧ (cis S x0 6) ∧ (cis S (cR S 8 (za (cR S 0 (za x0)))) 1 ∧ o_X0_pay N S (za (cR S 8 (za (cR S 0 (za x0))))) (f_X8_paymentAt N S (za (cR S 3 (za x0))) x5) (cI S 1 (za x0))) ∧ O_X7_addPayments_54 N rok x0 x1 x3 x4 x5 (f_X8_paymentAt N S (za (cR S 3 (za x0))) x5) ((f_X0_pay N S (za (cR S 8 (za (cR S 0 (za x0))))) (f_X8_paymentAt N S (za (cR S 3 (za x0))) x5) (cI S 1 (za x0))).1) (f_X0_pay N S (za (cR S 8 (za (cR S 0 (za x0))))) (f_X8_paymentAt N S (za (cR S 3 (za x0))) x5) (cI S 1 (za x0))).2))))
set_option maxRecDepth 100000 in
set_option maxHeartbeats 4000000 in
theorem bb_X7_addPayments_8 {G : zG} {o : Nat → Option va_E} {S : cS} {N : Nat} {Q : Option Value → cS → Prop} {X : Nat × Option Nat × Int32 × Int32 × cS → Prop} (hG : zOK G) (hX0 : ∀ (x1 : Option Nat) (x3 : Int32) (x4 : Int32) (S' : cS), X (0, x1, x3, x4, S') → cX G o dX7_addPayments mX7_addPayments 76 [none, some (va_rf x1), none, some (.int x3), some (.int x4), none, none, none] [] S' Q) {rec : Option Nat → Option Nat → Int32 → Int32 → Int32 → cS → Nat × Option Nat × Int32 × Int32 × cS} {rok : Option Nat → Option Nat → Int32 → Int32 → Int32 → cS → Prop} (hrec : ∀ (x0 : Option Nat) (x1 : Option Nat) (x3 : Int32) (x4 : Int32) (x5 : Int32) (S : cS), rok x0 x1 x3 x4 x5 S → X (rec x0 x1 x3 x4 x5 S) → cX G o dX7_addPayments mX7_addPayments 8 [some (va_rf x0), some (va_rf x1), none, some (.int x3), some (.int x4), some (.int x5), none, none] [] S Q) {x0 : Option Nat} {x1 : Option Nat} {x3 : Int32} {x4 : Int32} {x5 : Int32} (ok : OB_X7_addPayments_8 N rok x0 x1 x3 x4 x5 S) (hx : X (B_X7_addPayments_8 N rec x0 x1 x3 x4 x5 S)) : cX G o dX7_addPayments mX7_addPayments 8 [some (va_rf x0), some (va_rf x1), none, some (.int x3), some (.int x4), some (.int x5), none, none] [] S Q := by
  unfold OB_X7_addPayments_8 at ok
  unfold B_X7_addPayments_8 at hx
  refine c_iload dX7_addPayments_8 rfl ?_
  refine c_aload_nQ dX7_addPayments_10 rfl rfl ?_
  refine c_getR (C := RX6) (T := TX6) (N := 19) (ci := 5) (k := 3) ⟨rfl, inT6, by decide, fX7_80⟩ (by decide) (by decide) (by decide) dX7_addPayments_11 ok.1 ?_
  have ok := ok.2
  refine c_getI (C := RX8) (T := TX8) (N := 14) (ci := 6) (k := 12) ⟨rfl, inT8, by decide, fX7_379⟩ (by decide) (by decide) (by decide) dX7_addPayments_14 ok.1 ?_
  have ok := ok.2
  refine c_icmp_ge (tgt := 76) dX7_addPayments_17 (by decide) (fun c_17 => ?_) (fun c_17 => ?_)
  · have ok := ok.1 c_17
    have hx := xif_p c_17 hx
    exact cX.cutz (hX0 _ _ _ S hx) ⟨rfl, rfl, rfl, trivial⟩
  · have ok := ok.2 c_17
    have hx := xif_n c_17 hx
    refine c_iload dX7_addPayments_20 rfl ?_
    refine c_bipush (v := nI 64) dX7_addPayments_22 (by decide) ?_
    refine c_icmp_ge (tgt := 76) dX7_addPayments_24 (by decide) (fun c_24 => ?_) (fun c_24 => ?_)
    · have ok := ok.1 c_24
      have hx := xif_p c_24 hx
      exact cX.cutz (hX0 _ _ _ S hx) ⟨rfl, rfl, rfl, trivial⟩
    · have ok := ok.2 c_24
      have hx := xif_n c_24 hx
      refine c_aload_nQ dX7_addPayments_27 rfl rfl ?_
      refine c_getR (C := RX6) (T := TX6) (N := 19) (ci := 5) (k := 3) ⟨rfl, inT6, by decide, fX7_80⟩ (by decide) (by decide) (by decide) dX7_addPayments_28 ok.1 ?_
      have ok := ok.2
      refine c_iload dX7_addPayments_31 rfl ?_
      refine c_V1l (ci := 6) (rr := (RX8, TX8, 14)) (y' := mX8_paymentAt) dX7_addPayments_33 lX7_382 kX8_paymentAt ⟨by decide, by decide⟩ rfl rfl (by decide) ok.1.1 (Nat.le_of_ble_eq_true rfl) (cc_X8_paymentAt hG ok.1.2) (fun v_33 S_33 h_33 => ?_)
      obtain ⟨hv_33, hS_33⟩ := h_33
      subst hv_33
      have hS_33 := hS_33.symm
      subst hS_33
      have ok := ok.2
      refine c_lstore_6 dX7_addPayments_36 (by decide) rfl ?_
      refine c_aload_nQ dX7_addPayments_38 rfl rfl ?_
      refine c_getR (C := RX6) (T := TX6) (N := 19) (ci := 5) (k := 0) ⟨rfl, inT6, by decide, fX7_26⟩ (by decide) (by decide) (by decide) dX7_addPayments_39 ok.1 ?_
      have ok := ok.2
      refine c_getR (C := RX10) (T := TX10) (N := 12) (ci := 8) (k := 8) ⟨rfl, inT10, by decide, fX7_338⟩ (by decide) (by decide) (by decide) dX7_addPayments_42 ok.1 ?_
      have ok := ok.2
      refine c_lload dX7_addPayments_45 rfl ?_
      refine c_aload_nQ dX7_addPayments_47 rfl rfl ?_
      refine c_getI (C := RX6) (T := TX6) (N := 19) (ci := 5) (k := 1) ⟨rfl, inT6, by decide, fX7_271⟩ (by decide) (by decide) (by decide) dX7_addPayments_48 ok.1 ?_
      have ok := ok.2
      refine c_V2i (ci := 0) (rr := (RX0, TX0, 6)) (y' := mX0_pay) dX7_addPayments_51 lX7_386 kX0_pay ⟨by decide, by decide⟩ rfl rfl (by decide) ok.1.1 (Nat.le_of_ble_eq_true rfl) (cc_X0_pay hG ok.1.2) (fun v_51 S_51 h_51 => ?_)
      obtain ⟨hv_51, hS_51⟩ := h_51
      subst hv_51
      have hS_51 := hS_51.symm
      subst hS_51
      have ok := ok.2
      exact cX.cutz (b_X7_addPayments_54 hG hX0 hrec ok hx) ⟨rfl, rfl, rfl, rfl, rfl, rfl, trivial⟩
def L_X7_addPayments_8 (N : Nat) : Nat → Option Nat → Option Nat → Int32 → Int32 → Int32 → cS → Nat × Option Nat × Int32 × Int32 × cS
  | 0, x0, x1, x3, x4, x5, S => (0, none, 0, 0, S)
  | n + 1, x0, x1, x3, x4, x5, S => B_X7_addPayments_8 N (L_X7_addPayments_8 N n) x0 x1 x3 x4 x5 S
def OL_X7_addPayments_8 (N : Nat) : Nat → Option Nat → Option Nat → Int32 → Int32 → Int32 → cS → Prop
  | 0, _, _, _, _, _, _ => False
  | n + 1, x0, x1, x3, x4, x5, S => OB_X7_addPayments_8 N (OL_X7_addPayments_8 N n) x0 x1 x3 x4 x5 S
set_option maxRecDepth 100000 in
set_option maxHeartbeats 4000000 in
theorem l_X7_addPayments_8 {G : zG} {o : Nat → Option va_E} {N : Nat} {Q : Option Value → cS → Prop} {X : Nat × Option Nat × Int32 × Int32 × cS → Prop} (hG : zOK G) (hX0 : ∀ (x1 : Option Nat) (x3 : Int32) (x4 : Int32) (S' : cS), X (0, x1, x3, x4, S') → cX G o dX7_addPayments mX7_addPayments 76 [none, some (va_rf x1), none, some (.int x3), some (.int x4), none, none, none] [] S' Q) : ∀ (n : Nat) (x0 : Option Nat) (x1 : Option Nat) (x3 : Int32) (x4 : Int32) (x5 : Int32) (S : cS), OL_X7_addPayments_8 N n x0 x1 x3 x4 x5 S → X (L_X7_addPayments_8 N n x0 x1 x3 x4 x5 S) → cX G o dX7_addPayments mX7_addPayments 8 [some (va_rf x0), some (va_rf x1), none, some (.int x3), some (.int x4), some (.int x5), none, none] [] S Q := by
  intro n
  induction n with
  | zero => intro x0 x1 x3 x4 x5 S ok; exact absurd ok id
  | succ n ih =>
    intro x0 x1 x3 x4 x5 S ok hx
    exact bb_X7_addPayments_8 hG hX0 (rec := L_X7_addPayments_8 N n) (rok := OL_X7_addPayments_8 N n) (fun x0 x1 x3 x4 x5 S ok hx => ih x0 x1 x3 x4 x5 S ok hx) ok hx
def A_X7_addPayments_8 (N : Nat) (x0 : Option Nat) (x1 : Option Nat) (x3 : Int32) (x4 : Int32) (x5 : Int32) (S : cS) (z : Nat × Option Nat × Int32 × Int32 × cS) : Int32 × cS := (F_X7_addPayments_76 N (z.2.1) (z.2.2.1) (z.2.2.2.1) z.2.2.2.2)
def OA_X7_addPayments_8 (N : Nat) (x0 : Option Nat) (x1 : Option Nat) (x3 : Int32) (x4 : Int32) (x5 : Int32) (S : cS) (z : Nat × Option Nat × Int32 × Int32 × cS) : Prop := O_X7_addPayments_76 N (z.2.1) (z.2.2.1) (z.2.2.2.1) z.2.2.2.2
set_option maxRecDepth 100000 in
set_option maxHeartbeats 4000000 in
theorem c_X7_addPayments_8 {G : zG} {o : Nat → Option va_E} {S : cS} {N : Nat} {Q : Option Value → cS → Prop} {X : Int32 × cS → Prop} (hG : zOK G) (hR : ∀ v S', X (v, S') → Q (some (.int v)) S') {x0 : Option Nat} {x1 : Option Nat} {x3 : Int32} {x4 : Int32} {x5 : Int32} (ok : OL_X7_addPayments_8 N N x0 x1 x3 x4 x5 S ∧ OA_X7_addPayments_8 N x0 x1 x3 x4 x5 S (L_X7_addPayments_8 N N x0 x1 x3 x4 x5 S)) (hx : X (A_X7_addPayments_8 N x0 x1 x3 x4 x5 S (L_X7_addPayments_8 N N x0 x1 x3 x4 x5 S))) : cX G o dX7_addPayments mX7_addPayments 8 [some (va_rf x0), some (va_rf x1), none, some (.int x3), some (.int x4), some (.int x5), none, none] [] S Q := by
  refine l_X7_addPayments_8 hG ?_ N x0 x1 x3 x4 x5 S ok.1 (X := fun z => OA_X7_addPayments_8 N x0 x1 x3 x4 x5 S z ∧ X (A_X7_addPayments_8 N x0 x1 x3 x4 x5 S z)) ⟨ok.2, hx⟩
  · intro x1' x3' x4' S' hz
    obtain ⟨ok, hx⟩ := hz
    unfold OA_X7_addPayments_8 at ok
    unfold A_X7_addPayments_8 at hx
    exact cX.cutz (b_X7_addPayments_76 hG hR ok hx) ⟨rfl, rfl, rfl, trivial⟩
def F_X7_addPayments_0 (N : Nat) (x0 : Option Nat) (x1 : Option Nat) (x2 : Int32) (S : cS) : Int32 × cS := (A_X7_addPayments_8 N x0 x1 x2 (nI 0) (nI 0) S (L_X7_addPayments_8 N N x0 x1 x2 (nI 0) (nI 0) S))
def O_X7_addPayments_0 (N : Nat) (x0 : Option Nat) (x1 : Option Nat) (x2 : Int32) (S : cS) : Prop := (OL_X7_addPayments_8 N N x0 x1 x2 (nI 0) (nI 0) S ∧ OA_X7_addPayments_8 N x0 x1 x2 (nI 0) (nI 0) S (L_X7_addPayments_8 N N x0 x1 x2 (nI 0) (nI 0) S))
set_option maxRecDepth 100000 in
set_option maxHeartbeats 4000000 in
theorem b_X7_addPayments_0 {G : zG} {o : Nat → Option va_E} {S : cS} {N : Nat} {Q : Option Value → cS → Prop} {X : Int32 × cS → Prop} (hG : zOK G) (hR : ∀ v S', X (v, S') → Q (some (.int v)) S') {x0 : Option Nat} {x1 : Option Nat} {x2 : Int32} (ok : O_X7_addPayments_0 N x0 x1 x2 S) (hx : X (F_X7_addPayments_0 N x0 x1 x2 S)) : cX G o dX7_addPayments mX7_addPayments 0 [some (va_rf x0), some (va_rf x1), some (.int x2), none, none, none, none, none] [] S Q := by
  unfold O_X7_addPayments_0 at ok
  unfold F_X7_addPayments_0 at hx
  refine c_iload_n dX7_addPayments_0 rfl rfl ?_
  refine c_istore_3 dX7_addPayments_1 (by decide) rfl ?_
  refine c_iconst (v := nI 0) dX7_addPayments_2 (by decide) ?_
  refine c_istore_4 dX7_addPayments_3 (by decide) rfl ?_
  refine c_iconst (v := nI 0) dX7_addPayments_5 (by decide) ?_
  refine c_istore_5 dX7_addPayments_6 (by decide) rfl ?_
  exact cX.cutz (c_X7_addPayments_8 hG hR ok hx) ⟨rfl, rfl, rfl, rfl, rfl, trivial⟩
def f_X7_addPayments (N : Nat) (S : cS) (x0 : Option Nat) (x1 : Option Nat) (x2 : Int32) : Int32 × cS := F_X7_addPayments_0 N x0 x1 x2 S
def o_X7_addPayments (N : Nat) (S : cS) (x0 : Option Nat) (x1 : Option Nat) (x2 : Int32) : Prop := O_X7_addPayments_0 N x0 x1 x2 S
set_option maxRecDepth 100000 in
set_option maxHeartbeats 4000000 in
theorem cc_X7_addPayments {G : zG} {o : Nat → Option va_E} {S : cS} {N : Nat} (hG : zOK G) {x0 : Option Nat} {x1 : Option Nat} {x2 : Int32} (ok : o_X7_addPayments N S x0 x1 x2) : cCi G o dX7_addPayments mX7_addPayments [va_rf x0, va_rf x1, .int x2] S (fun v S' => v = (f_X7_addPayments N S x0 x1 x2).1 ∧ S' = (f_X7_addPayments N S x0 x1 x2).2) := by
  refine cC.ofX rfl (by cases x0 <;> cases x1 <;> exact Nat.le_of_ble_eq_true rfl) ?_
  rw [show zargs mX7_addPayments.2.2.1 [va_rf x0, va_rf x1, .int x2] = [some (va_rf x0), some (va_rf x1), some (.int x2), none, none, none, none, none] from by cases x0 <;> cases x1 <;> rfl]
  exact cX.cutz (b_X7_addPayments_0 (X := fun F => F = f_X7_addPayments N S x0 x1 x2) hG (fun v S' h => ⟨v, rfl, by rw [← h], by rw [← h]⟩) ok rfl) ⟨rfl, rfl, rfl, trivial⟩

/-! X11_submit -/
def F_X11_submit_191 (N : Nat)  (S : cS) : Int32 × cS := ((nI 1), S)
def O_X11_submit_191 (N : Nat)  (S : cS) : Prop := True
set_option maxRecDepth 100000 in
set_option maxHeartbeats 4000000 in
theorem b_X11_submit_191 {G : zG} {o : Nat → Option va_E} {S : cS} {N : Nat} {Q : Option Value → cS → Prop} {X : Int32 × cS → Prop} (hG : zOK G) (hR : ∀ v S', X (v, S') → Q (some (.int v)) S') (ok : O_X11_submit_191 N S) (hx : X (F_X11_submit_191 N S)) : cX G o dX11_submit mX11_submit 191 [none, none, none, none, none, none, none, none, none, none, none] [] S Q := by
  unfold O_X11_submit_191 at ok
  unfold F_X11_submit_191 at hx
  refine c_iconst (v := nI 1) dX11_submit_191 (by decide) ?_
  exact c_ireturn rfl rfl dX11_submit_192 (hR _ _ hx)
def F_X11_submit_179 (N : Nat) (x0 : Option Nat) (x10 : Option Nat) (S : cS) : Int32 × cS := (F_X11_submit_191 N (f_X9_drop N S (za (cR S 6 (za (cR S 0 (za x0))))) x10))
def O_X11_submit_179 (N : Nat) (x0 : Option Nat) (x10 : Option Nat) (S : cS) : Prop := (cis S x0 10) ∧ (cis S (cR S 0 (za x0)) 9) ∧ (cis S (cR S 6 (za (cR S 0 (za x0)))) 8 ∧ o_X9_drop N S (za (cR S 6 (za (cR S 0 (za x0))))) x10) ∧ O_X11_submit_191 N (f_X9_drop N S (za (cR S 6 (za (cR S 0 (za x0))))) x10)
set_option maxRecDepth 100000 in
set_option maxHeartbeats 4000000 in
theorem b_X11_submit_179 {G : zG} {o : Nat → Option va_E} {S : cS} {N : Nat} {Q : Option Value → cS → Prop} {X : Int32 × cS → Prop} (hG : zOK G) (hR : ∀ v S', X (v, S') → Q (some (.int v)) S') {x0 : Option Nat} {x10 : Option Nat} (ok : O_X11_submit_179 N x0 x10 S) (hx : X (F_X11_submit_179 N x0 x10 S)) : cX G o dX11_submit mX11_submit 179 [some (va_rf x0), none, none, none, none, none, none, none, none, none, some (va_rf x10)] [] S Q := by
  unfold O_X11_submit_179 at ok
  unfold F_X11_submit_179 at hx
  refine c_aload_nQ dX11_submit_179 rfl rfl ?_
  refine c_getR (C := RX11) (T := TX11) (N := 4) (ci := 9) (k := 0) ⟨rfl, inT11, by decide, fX11_22⟩ (by decide) (by decide) (by decide) dX11_submit_180 ok.1 ?_
  have ok := ok.2
  refine c_getR (C := RX10) (T := TX10) (N := 12) (ci := 8) (k := 6) ⟨rfl, inT10, by decide, fX11_38⟩ (by decide) (by decide) (by decide) dX11_submit_183 ok.1 ?_
  have ok := ok.2
  refine c_aloadQ dX11_submit_186 rfl ?_
  refine c_V1v (ci := 7) (rr := (RX9, TX9, 13)) (y' := mX9_drop) dX11_submit_188 lX11_80 kX9_drop ⟨by decide, by decide⟩ rfl rfl (by decide) ok.1.1 (Nat.le_of_ble_eq_true rfl) (cc_X9_drop hG ok.1.2) (fun S_188 h_188 => ?_)
  subst h_188
  have ok := ok.2
  exact cX.cutz (b_X11_submit_191 hG hR ok hx) trivial
def F_X11_submit_167 (N : Nat) (x0 : Option Nat) (x1 : Int32) (x10 : Option Nat) (S : cS) : Int32 × cS := (F_X11_submit_179 N x0 x10 (f_X10_spread N S (za (cR S 0 (za x0))) x1 x10 x1 x1))
def O_X11_submit_167 (N : Nat) (x0 : Option Nat) (x1 : Int32) (x10 : Option Nat) (S : cS) : Prop := (cis S x0 10) ∧ (cis S (cR S 0 (za x0)) 9 ∧ o_X10_spread N S (za (cR S 0 (za x0))) x1 x10 x1 x1) ∧ O_X11_submit_179 N x0 x10 (f_X10_spread N S (za (cR S 0 (za x0))) x1 x10 x1 x1)
set_option maxRecDepth 100000 in
set_option maxHeartbeats 4000000 in
theorem b_X11_submit_167 {G : zG} {o : Nat → Option va_E} {S : cS} {N : Nat} {Q : Option Value → cS → Prop} {X : Int32 × cS → Prop} (hG : zOK G) (hR : ∀ v S', X (v, S') → Q (some (.int v)) S') {x0 : Option Nat} {x1 : Int32} {x10 : Option Nat} (ok : O_X11_submit_167 N x0 x1 x10 S) (hx : X (F_X11_submit_167 N x0 x1 x10 S)) : cX G o dX11_submit mX11_submit 167 [some (va_rf x0), some (.int x1), none, none, none, none, none, none, none, none, some (va_rf x10)] [] S Q := by
  unfold O_X11_submit_167 at ok
  unfold F_X11_submit_167 at hx
  refine c_aload_nQ dX11_submit_167 rfl rfl ?_
  refine c_getR (C := RX11) (T := TX11) (N := 4) (ci := 9) (k := 0) ⟨rfl, inT11, by decide, fX11_22⟩ (by decide) (by decide) (by decide) dX11_submit_168 ok.1 ?_
  have ok := ok.2
  refine c_iload_n dX11_submit_171 rfl rfl ?_
  refine c_aloadQ dX11_submit_172 rfl ?_
  refine c_iload_n dX11_submit_174 rfl rfl ?_
  refine c_iload_n dX11_submit_175 rfl rfl ?_
  refine c_V4v (ci := 8) (rr := (RX10, TX10, 12)) (y' := mX10_spread) dX11_submit_176 lX11_176 kX10_spread ⟨by decide, by decide⟩ rfl rfl (by decide) ok.1.1 (Nat.le_of_ble_eq_true rfl) (cc_X10_spread hG ok.1.2) (fun S_176 h_176 => ?_)
  subst h_176
  have ok := ok.2
  exact cX.cutz (b_X11_submit_179 hG hR ok hx) ⟨rfl, rfl, trivial⟩
def F_X11_submit_146 (N : Nat) (x0 : Option Nat) (x1 : Int32) (x8 : Int64) (s0 : Option Nat) (S : cS) : Int32 × cS := (F_X11_submit_167 N x0 x1 s0 (f_X0_putCode N (csA S (za (cR S 0 (za s0))) (nI 0).toNatClampNeg ((nI 0).toInt8.toInt32)) x8 (cR (csA S (za (cR S 0 (za s0))) (nI 0).toNatClampNeg ((nI 0).toInt8.toInt32)) 0 (za s0)) (nI 1)))
def O_X11_submit_146 (N : Nat) (x0 : Option Nat) (x1 : Int32) (x8 : Int64) (s0 : Option Nat) (S : cS) : Prop := (cis S s0 5) ∧ (cis S (cR S 0 (za s0)) 20 ∧ vp_in (nI 0) (cL S (za (cR S 0 (za s0))))) ∧ (cis (csA S (za (cR S 0 (za s0))) (nI 0).toNatClampNeg ((nI 0).toInt8.toInt32)) s0 5) ∧ (o_X0_putCode N (csA S (za (cR S 0 (za s0))) (nI 0).toNatClampNeg ((nI 0).toInt8.toInt32)) x8 (cR (csA S (za (cR S 0 (za s0))) (nI 0).toNatClampNeg ((nI 0).toInt8.toInt32)) 0 (za s0)) (nI 1)) ∧ O_X11_submit_167 N x0 x1 s0 (f_X0_putCode N (csA S (za (cR S 0 (za s0))) (nI 0).toNatClampNeg ((nI 0).toInt8.toInt32)) x8 (cR (csA S (za (cR S 0 (za s0))) (nI 0).toNatClampNeg ((nI 0).toInt8.toInt32)) 0 (za s0)) (nI 1))
set_option maxRecDepth 100000 in
set_option maxHeartbeats 4000000 in
theorem b_X11_submit_146 {G : zG} {o : Nat → Option va_E} {S : cS} {N : Nat} {Q : Option Value → cS → Prop} {X : Int32 × cS → Prop} (hG : zOK G) (hR : ∀ v S', X (v, S') → Q (some (.int v)) S') {x0 : Option Nat} {x1 : Int32} {x8 : Int64} {s0 : Option Nat} (ok : O_X11_submit_146 N x0 x1 x8 s0 S) (hx : X (F_X11_submit_146 N x0 x1 x8 s0 S)) : cX G o dX11_submit mX11_submit 146 [some (va_rf x0), some (.int x1), none, none, none, none, none, none, some (.long x8), none, none] [va_rf s0] S Q := by
  unfold O_X11_submit_146 at ok
  unfold F_X11_submit_146 at hx
  refine c_astore_10Q dX11_submit_146 (by decide) rfl ?_
  refine c_aloadQ dX11_submit_148 rfl ?_
  refine c_getR (C := RX5) (T := TX5) (N := 7) (ci := 4) (k := 0) ⟨rfl, inT5, by decide, fX11_48⟩ (by decide) (by decide) (by decide) dX11_submit_150 ok.1 ?_
  have ok := ok.2
  refine c_iconst (v := nI 0) dX11_submit_153 (by decide) ?_
  refine c_iconst (v := nI 0) dX11_submit_154 (by decide) ?_
  refine c_bast dX11_submit_155 ok.1 ?_
  have ok := ok.2
  refine c_lload dX11_submit_156 rfl ?_
  refine c_aloadQ dX11_submit_158 rfl ?_
  refine c_getR (C := RX5) (T := TX5) (N := 7) (ci := 4) (k := 0) ⟨rfl, inT5, by decide, fX11_48⟩ (by decide) (by decide) (by decide) dX11_submit_160 ok.1 ?_
  have ok := ok.2
  refine c_iconst (v := nI 1) dX11_submit_163 (by decide) ?_
  refine c_S3v (y' := mX0_putCode) dX11_submit_164 lX11_172 kX0_putCode ⟨by decide, by decide⟩ (Nat.le_of_ble_eq_true rfl) (cc_X0_putCode hG ok.1) (fun S_164 h_164 => ?_)
  subst h_164
  have ok := ok.2
  exact cX.cutz (b_X11_submit_167 hG hR ok hx) ⟨rfl, rfl, rfl, trivial⟩
def F_X11_submit_129 (N : Nat) (x0 : Option Nat) (x1 : Int32) (x8 : Int64) (s0 : Int32) (S : cS) : Int32 × cS := (if s0 = 0 then ((nI 0), S) else (F_X11_submit_146 N x0 x1 x8 ((f_X9_fresh N S (za (cR S 6 (za (cR S 0 (za x0))))) (nI 8)).1) (f_X9_fresh N S (za (cR S 6 (za (cR S 0 (za x0))))) (nI 8)).2))
def O_X11_submit_129 (N : Nat) (x0 : Option Nat) (x1 : Int32) (x8 : Int64) (s0 : Int32) (S : cS) : Prop := ((s0 = 0 → True) ∧ (¬ s0 = 0 → (cis S x0 10) ∧ (cis S (cR S 0 (za x0)) 9) ∧ (cis S (cR S 6 (za (cR S 0 (za x0)))) 8 ∧ o_X9_fresh N S (za (cR S 6 (za (cR S 0 (za x0))))) (nI 8)) ∧ O_X11_submit_146 N x0 x1 x8 ((f_X9_fresh N S (za (cR S 6 (za (cR S 0 (za x0))))) (nI 8)).1) (f_X9_fresh N S (za (cR S 6 (za (cR S 0 (za x0))))) (nI 8)).2))
set_option maxRecDepth 100000 in
set_option maxHeartbeats 4000000 in
theorem b_X11_submit_129 {G : zG} {o : Nat → Option va_E} {S : cS} {N : Nat} {Q : Option Value → cS → Prop} {X : Int32 × cS → Prop} (hG : zOK G) (hR : ∀ v S', X (v, S') → Q (some (.int v)) S') {x0 : Option Nat} {x1 : Int32} {x8 : Int64} {s0 : Int32} (ok : O_X11_submit_129 N x0 x1 x8 s0 S) (hx : X (F_X11_submit_129 N x0 x1 x8 s0 S)) : cX G o dX11_submit mX11_submit 129 [some (va_rf x0), some (.int x1), none, none, none, none, none, none, some (.long x8), none, none] [.int s0] S Q := by
  unfold O_X11_submit_129 at ok
  unfold F_X11_submit_129 at hx
  refine c_if_ne (tgt := 134) dX11_submit_129 (by decide) (fun c_129 => ?_) (fun c_129 => ?_)
  · have ok := ok.2 c_129
    have hx := xif_n c_129 hx
    refine c_aload_nQ dX11_submit_134 rfl rfl ?_
    refine c_getR (C := RX11) (T := TX11) (N := 4) (ci := 9) (k := 0) ⟨rfl, inT11, by decide, fX11_22⟩ (by decide) (by decide) (by decide) dX11_submit_135 ok.1 ?_
    have ok := ok.2
    refine c_getR (C := RX10) (T := TX10) (N := 12) (ci := 8) (k := 6) ⟨rfl, inT10, by decide, fX11_38⟩ (by decide) (by decide) (by decide) dX11_submit_138 ok.1 ?_
    have ok := ok.2
    refine c_bipush (v := nI 8) dX11_submit_141 (by decide) ?_
    refine c_V1q (ci := 7) (rr := (RX9, TX9, 13)) (y' := mX9_fresh) dX11_submit_143 lX11_42 kX9_fresh ⟨by decide, by decide⟩ rfl rfl (by decide) ok.1.1 (Nat.le_of_ble_eq_true rfl) (cc_X9_fresh hG ok.1.2) (fun v_143 S_143 h_143 => ?_)
    obtain ⟨hv_143, hS_143⟩ := h_143
    subst hv_143
    have hS_143 := hS_143.symm
    subst hS_143
    have ok := ok.2
    exact cX.cutz (b_X11_submit_146 hG hR ok hx) ⟨rfl, rfl, rfl, trivial⟩
  · have ok := ok.1 c_129
    have hx := xif_p c_129 hx
    refine c_iconst (v := nI 0) dX11_submit_132 (by decide) ?_
    exact c_ireturn rfl rfl dX11_submit_133 (hR _ _ hx)
def F_X11_submit_106 (N : Nat) (x0 : Option Nat) (x1 : Int32) (x5 : Int32) (x6 : Int32) (x7 : Option Nat) (s0 : Int64) (S : cS) : Int32 × cS := (F_X11_submit_129 N x0 x1 ((s0 ||| ((Int32.toInt64 x5) <<< (Int32.toInt64 (nI 8) &&& 63))) ||| (Int32.toInt64 x6)) ((f_X8_addPayment N S (za (cR S 3 (za x7))) ((s0 ||| ((Int32.toInt64 x5) <<< (Int32.toInt64 (nI 8) &&& 63))) ||| (Int32.toInt64 x6))).1) (f_X8_addPayment N S (za (cR S 3 (za x7))) ((s0 ||| ((Int32.toInt64 x5) <<< (Int32.toInt64 (nI 8) &&& 63))) ||| (Int32.toInt64 x6))).2)
def O_X11_submit_106 (N : Nat) (x0 : Option Nat) (x1 : Int32) (x5 : Int32) (x6 : Int32) (x7 : Option Nat) (s0 : Int64) (S : cS) : Prop := (cis S x7 6) ∧ (cis S (cR S 3 (za x7)) 7 ∧ o_X8_addPayment N S (za (cR S 3 (za x7))) ((s0 ||| ((Int32.toInt64 x5) <<< (Int32.toInt64 (nI 8) &&& 63))) ||| (Int32.toInt64 x6))) ∧ O_X11_submit_129 N x0 x1 ((s0 ||| ((Int32.toInt64 x5) <<< (Int32.toInt64 (nI 8) &&& 63))) ||| (Int32.toInt64 x6)) ((f_X8_addPayment N S (za (cR S 3 (za x7))) ((s0 ||| ((Int32.toInt64 x5) <<< (Int32.toInt64 (nI 8) &&& 63))) ||| (Int32.toInt64 x6))).1) (f_X8_addPayment N S (za (cR S 3 (za x7))) ((s0 ||| ((Int32.toInt64 x5) <<< (Int32.toInt64 (nI 8) &&& 63))) ||| (Int32.toInt64 x6))).2
set_option maxRecDepth 100000 in
set_option maxHeartbeats 4000000 in
theorem b_X11_submit_106 {G : zG} {o : Nat → Option va_E} {S : cS} {N : Nat} {Q : Option Value → cS → Prop} {X : Int32 × cS → Prop} (hG : zOK G) (hR : ∀ v S', X (v, S') → Q (some (.int v)) S') {x0 : Option Nat} {x1 : Int32} {x5 : Int32} {x6 : Int32} {x7 : Option Nat} {s0 : Int64} (ok : O_X11_submit_106 N x0 x1 x5 x6 x7 s0 S) (hx : X (F_X11_submit_106 N x0 x1 x5 x6 x7 s0 S)) : cX G o dX11_submit mX11_submit 106 [some (va_rf x0), some (.int x1), none, none, none, some (.int x5), some (.int x6), some (va_rf x7), none, none, none] [.long s0] S Q := by
  unfold O_X11_submit_106 at ok
  unfold F_X11_submit_106 at hx
  refine c_iload dX11_submit_106 rfl ?_
  refine c_i2l dX11_submit_108 ?_
  refine c_bipush (v := nI 8) dX11_submit_109 (by decide) ?_
  refine c_lshl dX11_submit_111 ?_
  refine c_lor dX11_submit_112 ?_
  refine c_iload dX11_submit_113 rfl ?_
  refine c_i2l dX11_submit_115 ?_
  refine c_lor dX11_submit_116 ?_
  refine c_lstore_8 dX11_submit_117 (by decide) (by simp [zok, zg, zcat_rf]) ?_
  refine c_aloadQ dX11_submit_119 rfl ?_
  refine c_getR (C := RX6) (T := TX6) (N := 19) (ci := 5) (k := 3) ⟨rfl, inT6, by decide, fX11_162⟩ (by decide) (by decide) (by decide) dX11_submit_121 ok.1 ?_
  have ok := ok.2
  refine c_lload dX11_submit_124 rfl ?_
  refine c_V1i (ci := 6) (rr := (RX8, TX8, 14)) (y' := mX8_addPayment) dX11_submit_126 lX11_166 kX8_addPayment ⟨by decide, by decide⟩ rfl rfl (by decide) ok.1.1 (Nat.le_of_ble_eq_true rfl) (cc_X8_addPayment hG ok.1.2) (fun v_126 S_126 h_126 => ?_)
  obtain ⟨hv_126, hS_126⟩ := h_126
  subst hv_126
  have hS_126 := hS_126.symm
  subst hS_126
  have ok := ok.2
  exact cX.cutz (b_X11_submit_129 hG hR ok hx) ⟨rfl, rfl, rfl, trivial⟩
def F_X11_submit_86 (N : Nat)  (S : cS) : Int32 × cS := ((nI 0), S)
def O_X11_submit_86 (N : Nat)  (S : cS) : Prop := True
set_option maxRecDepth 100000 in
set_option maxHeartbeats 4000000 in
theorem b_X11_submit_86 {G : zG} {o : Nat → Option va_E} {S : cS} {N : Nat} {Q : Option Value → cS → Prop} {X : Int32 × cS → Prop} (hG : zOK G) (hR : ∀ v S', X (v, S') → Q (some (.int v)) S') (ok : O_X11_submit_86 N S) (hx : X (F_X11_submit_86 N S)) : cX G o dX11_submit mX11_submit 86 [none, none, none, none, none, none, none, none, none, none, none] [] S Q := by
  unfold O_X11_submit_86 at ok
  unfold F_X11_submit_86 at hx
  refine c_iconst (v := nI 0) dX11_submit_86 (by decide) ?_
  exact c_ireturn rfl rfl dX11_submit_87 (hR _ _ hx)
def F_X11_submit_45 (N : Nat)  (S : cS) : Int32 × cS := ((nI 0), S)
def O_X11_submit_45 (N : Nat)  (S : cS) : Prop := True
set_option maxRecDepth 100000 in
set_option maxHeartbeats 4000000 in
theorem b_X11_submit_45 {G : zG} {o : Nat → Option va_E} {S : cS} {N : Nat} {Q : Option Value → cS → Prop} {X : Int32 × cS → Prop} (hG : zOK G) (hR : ∀ v S', X (v, S') → Q (some (.int v)) S') (ok : O_X11_submit_45 N S) (hx : X (F_X11_submit_45 N S)) : cX G o dX11_submit mX11_submit 45 [none, none, none, none, none, none, none, none, none, none, none] [] S Q := by
  unfold O_X11_submit_45 at ok
  unfold F_X11_submit_45 at hx
  refine c_iconst (v := nI 0) dX11_submit_45 (by decide) ?_
  exact c_ireturn rfl rfl dX11_submit_46 (hR _ _ hx)
def F_X11_submit_0 (N : Nat) (x0 : Option Nat) (x1 : Int32) (x2 : Int32) (x3 : Int32) (x4 : Int32) (x5 : Int32) (x6 : Int32) (S : cS) : Int32 × cS := (if (f_X11_honestNode N S (za x0) x1) = none then (F_X11_submit_45 N S) else (if (cI S 8 (za (f_X11_honestNode N S (za x0) x1))) = 0 then (F_X11_submit_45 N S) else (if x2 < 0 then (F_X11_submit_45 N S) else (if (nI 16) ≤ x2 then (F_X11_submit_45 N S) else (if x3 < 0 then (F_X11_submit_45 N S) else (if (nI 16) ≤ x3 then (F_X11_submit_45 N S) else (if x2 = x3 then (F_X11_submit_45 N S) else (if x4 < (nI 1) then (F_X11_submit_86 N S) else (if (nI 1000) < x4 then (F_X11_submit_86 N S) else (if x5 < 0 then (F_X11_submit_86 N S) else (if (65535 : Int32) < x5 then (F_X11_submit_86 N S) else (if x6 < (nI 1) then (F_X11_submit_86 N S) else (if x6 ≤ (nI 9) then (F_X11_submit_106 N x0 x1 x5 x6 (f_X11_honestNode N S (za x0) x1) ((((Int32.toInt64 x2) <<< (Int32.toInt64 (nI 48) &&& 63)) ||| ((Int32.toInt64 x3) <<< (Int32.toInt64 (nI 40) &&& 63))) ||| ((Int32.toInt64 x4) <<< (Int32.toInt64 (nI 24) &&& 63))) S) else (F_X11_submit_86 N S))))))))))))))
def O_X11_submit_0 (N : Nat) (x0 : Option Nat) (x1 : Int32) (x2 : Int32) (x3 : Int32) (x4 : Int32) (x5 : Int32) (x6 : Int32) (S : cS) : Prop := (cis S x0 10 ∧ o_X11_honestNode N S (za x0) x1) ∧ (((f_X11_honestNode N S (za x0) x1) = none → O_X11_submit_45 N S) ∧ (¬ (f_X11_honestNode N S (za x0) x1) = none → (cis S (f_X11_honestNode N S (za x0) x1) 6) ∧ (((cI S 8 (za (f_X11_honestNode N S (za x0) x1))) = 0 → O_X11_submit_45 N S) ∧ (¬ (cI S 8 (za (f_X11_honestNode N S (za x0) x1))) = 0 → ((x2 < 0 → O_X11_submit_45 N S) ∧ (¬ x2 < 0 → (((nI 16) ≤ x2 → O_X11_submit_45 N S) ∧ (¬ (nI 16) ≤ x2 → ((x3 < 0 → O_X11_submit_45 N S) ∧ (¬ x3 < 0 → (((nI 16) ≤ x3 → O_X11_submit_45 N S) ∧ (¬ (nI 16) ≤ x3 → ((x2 = x3 → O_X11_submit_45 N S) ∧ (¬ x2 = x3 → ((x4 < (nI 1) → O_X11_submit_86 N S) ∧ (¬ x4 < (nI 1) → (((nI 1000) < x4 → O_X11_submit_86 N S) ∧ (¬ (nI 1000) < x4 → ((x5 < 0 → O_X11_submit_86 N S) ∧ (¬ x5 < 0 → (((65535 : Int32) < x5 → O_X11_submit_86 N S) ∧ (¬ (65535 : Int32) < x5 → ((x6 < (nI 1) → O_X11_submit_86 N S) ∧ (¬ x6 < (nI 1) → ((x6 ≤ (nI 9) → O_X11_submit_106 N x0 x1 x5 x6 (f_X11_honestNode N S (za x0) x1) ((((Int32.toInt64 x2) <<< (Int32.toInt64 (nI 48) &&& 63)) ||| ((Int32.toInt64 x3) <<< (Int32.toInt64 (nI 40) &&& 63))) ||| ((Int32.toInt64 x4) <<< (Int32.toInt64 (nI 24) &&& 63))) S) ∧ (¬ x6 ≤ (nI 9) → O_X11_submit_86 N S))))))))))))))))))))))))))
set_option maxRecDepth 100000 in
set_option maxHeartbeats 4000000 in
theorem b_X11_submit_0 {G : zG} {o : Nat → Option va_E} {S : cS} {N : Nat} {Q : Option Value → cS → Prop} {X : Int32 × cS → Prop} (hG : zOK G) (hR : ∀ v S', X (v, S') → Q (some (.int v)) S') {x0 : Option Nat} {x1 : Int32} {x2 : Int32} {x3 : Int32} {x4 : Int32} {x5 : Int32} {x6 : Int32} (ok : O_X11_submit_0 N x0 x1 x2 x3 x4 x5 x6 S) (hx : X (F_X11_submit_0 N x0 x1 x2 x3 x4 x5 x6 S)) : cX G o dX11_submit mX11_submit 0 [some (va_rf x0), some (.int x1), some (.int x2), some (.int x3), some (.int x4), some (.int x5), some (.int x6), none, none, none, none] [] S Q := by
  unfold O_X11_submit_0 at ok
  unfold F_X11_submit_0 at hx
  refine c_aload_nQ dX11_submit_0 rfl rfl ?_
  refine c_iload_n dX11_submit_1 rfl rfl ?_
  refine c_V1q (ci := 9) (rr := (RX11, TX11, 4)) (y' := mX11_honestNode) dX11_submit_2 lX11_120 kX11_honestNode ⟨by decide, by decide⟩ rfl rfl (by decide) ok.1.1 (Nat.le_of_ble_eq_true rfl) (cc_X11_honestNode hG ok.1.2) (fun v_2 S_2 h_2 => ?_)
  obtain ⟨hv_2, hS_2⟩ := h_2
  subst hv_2
  have hS_2 := hS_2.symm
  subst hS_2
  have ok := ok.2
  refine c_astore_7Q dX11_submit_5 (by decide) rfl ?_
  refine c_aloadQ dX11_submit_7 rfl ?_
  refine c_ifnullI (tgt := 45) dX11_submit_9 (by decide) (fun c_9 => ?_) (fun c_9 => ?_)
  · have ok := ok.1 c_9
    have hx := xif_p c_9 hx
    exact cX.cutz (b_X11_submit_45 hG hR ok hx) trivial
  · have ok := ok.2 c_9
    have hx := xif_n c_9 hx
    refine c_aloadQ dX11_submit_12 rfl ?_
    refine c_getI (C := RX6) (T := TX6) (N := 19) (ci := 5) (k := 8) ⟨rfl, inT6, by decide, fX11_157⟩ (by decide) (by decide) (by decide) dX11_submit_14 ok.1 ?_
    have ok := ok.2
    refine c_if_eq (tgt := 45) dX11_submit_17 (by decide) (fun c_17 => ?_) (fun c_17 => ?_)
    · have ok := ok.1 c_17
      have hx := xif_p c_17 hx
      exact cX.cutz (b_X11_submit_45 hG hR ok hx) trivial
    · have ok := ok.2 c_17
      have hx := xif_n c_17 hx
      refine c_iload_n dX11_submit_20 rfl rfl ?_
      refine c_if_lt (tgt := 45) dX11_submit_21 (by decide) (fun c_21 => ?_) (fun c_21 => ?_)
      · have ok := ok.1 c_21
        have hx := xif_p c_21 hx
        exact cX.cutz (b_X11_submit_45 hG hR ok hx) trivial
      · have ok := ok.2 c_21
        have hx := xif_n c_21 hx
        refine c_iload_n dX11_submit_24 rfl rfl ?_
        refine c_bipush (v := nI 16) dX11_submit_25 (by decide) ?_
        refine c_icmp_ge (tgt := 45) dX11_submit_27 (by decide) (fun c_27 => ?_) (fun c_27 => ?_)
        · have ok := ok.1 c_27
          have hx := xif_p c_27 hx
          exact cX.cutz (b_X11_submit_45 hG hR ok hx) trivial
        · have ok := ok.2 c_27
          have hx := xif_n c_27 hx
          refine c_iload_n dX11_submit_30 rfl rfl ?_
          refine c_if_lt (tgt := 45) dX11_submit_31 (by decide) (fun c_31 => ?_) (fun c_31 => ?_)
          · have ok := ok.1 c_31
            have hx := xif_p c_31 hx
            exact cX.cutz (b_X11_submit_45 hG hR ok hx) trivial
          · have ok := ok.2 c_31
            have hx := xif_n c_31 hx
            refine c_iload_n dX11_submit_34 rfl rfl ?_
            refine c_bipush (v := nI 16) dX11_submit_35 (by decide) ?_
            refine c_icmp_ge (tgt := 45) dX11_submit_37 (by decide) (fun c_37 => ?_) (fun c_37 => ?_)
            · have ok := ok.1 c_37
              have hx := xif_p c_37 hx
              exact cX.cutz (b_X11_submit_45 hG hR ok hx) trivial
            · have ok := ok.2 c_37
              have hx := xif_n c_37 hx
              refine c_iload_n dX11_submit_40 rfl rfl ?_
              refine c_iload_n dX11_submit_41 rfl rfl ?_
              refine c_icmp_ne (tgt := 47) dX11_submit_42 (by decide) (fun c_42 => ?_) (fun c_42 => ?_)
              · have ok := ok.2 c_42
                have hx := xif_n c_42 hx
                refine c_iload dX11_submit_47 rfl ?_
                refine c_iconst (v := nI 1) dX11_submit_49 (by decide) ?_
                refine c_icmp_lt (tgt := 86) dX11_submit_50 (by decide) (fun c_50 => ?_) (fun c_50 => ?_)
                · have ok := ok.1 c_50
                  have hx := xif_p c_50 hx
                  exact cX.cutz (b_X11_submit_86 hG hR ok hx) trivial
                · have ok := ok.2 c_50
                  have hx := xif_n c_50 hx
                  refine c_iload dX11_submit_53 rfl ?_
                  refine c_sipush (v := nI 1000) dX11_submit_55 (by decide) ?_
                  refine c_icmp_gt (tgt := 86) dX11_submit_58 (by decide) (fun c_58 => ?_) (fun c_58 => ?_)
                  · have ok := ok.1 c_58
                    have hx := xif_p c_58 hx
                    exact cX.cutz (b_X11_submit_86 hG hR ok hx) trivial
                  · have ok := ok.2 c_58
                    have hx := xif_n c_58 hx
                    refine c_iload dX11_submit_61 rfl ?_
                    refine c_if_lt (tgt := 86) dX11_submit_63 (by decide) (fun c_63 => ?_) (fun c_63 => ?_)
                    · have ok := ok.1 c_63
                      have hx := xif_p c_63 hx
                      exact cX.cutz (b_X11_submit_86 hG hR ok hx) trivial
                    · have ok := ok.2 c_63
                      have hx := xif_n c_63 hx
                      refine c_iload dX11_submit_66 rfl ?_
                      refine c_ldc dX11_submit_68 nX11_161 ?_
                      refine c_icmp_gt (tgt := 86) dX11_submit_70 (by decide) (fun c_70 => ?_) (fun c_70 => ?_)
                      · have ok := ok.1 c_70
                        have hx := xif_p c_70 hx
                        exact cX.cutz (b_X11_submit_86 hG hR ok hx) trivial
                      · have ok := ok.2 c_70
                        have hx := xif_n c_70 hx
                        refine c_iload dX11_submit_73 rfl ?_
                        refine c_iconst (v := nI 1) dX11_submit_75 (by decide) ?_
                        refine c_icmp_lt (tgt := 86) dX11_submit_76 (by decide) (fun c_76 => ?_) (fun c_76 => ?_)
                        · have ok := ok.1 c_76
                          have hx := xif_p c_76 hx
                          exact cX.cutz (b_X11_submit_86 hG hR ok hx) trivial
                        · have ok := ok.2 c_76
                          have hx := xif_n c_76 hx
                          refine c_iload dX11_submit_79 rfl ?_
                          refine c_bipush (v := nI 9) dX11_submit_81 (by decide) ?_
                          refine c_icmp_le (tgt := 88) dX11_submit_83 (by decide) (fun c_83 => ?_) (fun c_83 => ?_)
                          · have ok := ok.1 c_83
                            have hx := xif_p c_83 hx
                            refine c_iload_n dX11_submit_88 rfl rfl ?_
                            refine c_i2l dX11_submit_89 ?_
                            refine c_bipush (v := nI 48) dX11_submit_90 (by decide) ?_
                            refine c_lshl dX11_submit_92 ?_
                            refine c_iload_n dX11_submit_93 rfl rfl ?_
                            refine c_i2l dX11_submit_94 ?_
                            refine c_bipush (v := nI 40) dX11_submit_95 (by decide) ?_
                            refine c_lshl dX11_submit_97 ?_
                            refine c_lor dX11_submit_98 ?_
                            refine c_iload dX11_submit_99 rfl ?_
                            refine c_i2l dX11_submit_101 ?_
                            refine c_bipush (v := nI 24) dX11_submit_102 (by decide) ?_
                            refine c_lshl dX11_submit_104 ?_
                            refine c_lor dX11_submit_105 ?_
                            exact cX.cutz (b_X11_submit_106 hG hR ok hx) ⟨rfl, rfl, rfl, rfl, rfl, trivial⟩
                          · have ok := ok.2 c_83
                            have hx := xif_n c_83 hx
                            exact cX.cutz (b_X11_submit_86 hG hR ok hx) trivial
              · have ok := ok.1 c_42
                have hx := xif_p c_42 hx
                exact cX.cutz (b_X11_submit_45 hG hR ok hx) trivial
def f_X11_submit (N : Nat) (S : cS) (a0 : Nat) (x1 : Int32) (x2 : Int32) (x3 : Int32) (x4 : Int32) (x5 : Int32) (x6 : Int32) : Int32 × cS := F_X11_submit_0 N (some a0) x1 x2 x3 x4 x5 x6 S
def o_X11_submit (N : Nat) (S : cS) (a0 : Nat) (x1 : Int32) (x2 : Int32) (x3 : Int32) (x4 : Int32) (x5 : Int32) (x6 : Int32) : Prop := O_X11_submit_0 N (some a0) x1 x2 x3 x4 x5 x6 S
set_option maxRecDepth 100000 in
set_option maxHeartbeats 4000000 in
theorem cc_X11_submit {G : zG} {o : Nat → Option va_E} {S : cS} {N : Nat} (hG : zOK G) {a0 : Nat} {x1 : Int32} {x2 : Int32} {x3 : Int32} {x4 : Int32} {x5 : Int32} {x6 : Int32} (ok : o_X11_submit N S a0 x1 x2 x3 x4 x5 x6) : cCi G o dX11_submit mX11_submit [.ref a0, .int x1, .int x2, .int x3, .int x4, .int x5, .int x6] S (fun v S' => v = (f_X11_submit N S a0 x1 x2 x3 x4 x5 x6).1 ∧ S' = (f_X11_submit N S a0 x1 x2 x3 x4 x5 x6).2) := by
  refine cC.ofX rfl (by exact Nat.le_of_ble_eq_true rfl) ?_
  show cX G o dX11_submit mX11_submit 0 [some (.ref a0), some (.int x1), some (.int x2), some (.int x3), some (.int x4), some (.int x5), some (.int x6), none, none, none, none] [] S _
  exact cX.cutz (b_X11_submit_0 (X := fun F => F = f_X11_submit N S a0 x1 x2 x3 x4 x5 x6) hG (fun v S' h => ⟨v, rfl, by rw [← h], by rw [← h]⟩) ok rfl) ⟨rfl, rfl, rfl, rfl, rfl, rfl, rfl, trivial⟩
/-! X11_deliver -/
def F_X11_deliver_8 (N : Nat) (s0 : Int32) (S : cS) : Int32 × cS := (s0, S)
def O_X11_deliver_8 (N : Nat) (s0 : Int32) (S : cS) : Prop := True
set_option maxRecDepth 100000 in
set_option maxHeartbeats 4000000 in
theorem b_X11_deliver_8 {G : zG} {o : Nat → Option va_E} {S : cS} {N : Nat} {Q : Option Value → cS → Prop} {X : Int32 × cS → Prop} (hG : zOK G) (hR : ∀ v S', X (v, S') → Q (some (.int v)) S') {s0 : Int32} (ok : O_X11_deliver_8 N s0 S) (hx : X (F_X11_deliver_8 N s0 S)) : cX G o dX11_deliver mX11_deliver 8 [none, none] [.int s0] S Q := by
  unfold O_X11_deliver_8 at ok
  unfold F_X11_deliver_8 at hx
  exact c_ireturn rfl rfl dX11_deliver_8 (hR _ _ hx)
def F_X11_deliver_0 (N : Nat) (x0 : Option Nat) (x1 : Int32) (S : cS) : Int32 × cS := (F_X11_deliver_8 N ((f_X10_land N S (za (cR S 0 (za x0))) x1).1) (f_X10_land N S (za (cR S 0 (za x0))) x1).2)
def O_X11_deliver_0 (N : Nat) (x0 : Option Nat) (x1 : Int32) (S : cS) : Prop := (cis S x0 10) ∧ (cis S (cR S 0 (za x0)) 9 ∧ o_X10_land N S (za (cR S 0 (za x0))) x1) ∧ O_X11_deliver_8 N ((f_X10_land N S (za (cR S 0 (za x0))) x1).1) (f_X10_land N S (za (cR S 0 (za x0))) x1).2
set_option maxRecDepth 100000 in
set_option maxHeartbeats 4000000 in
theorem b_X11_deliver_0 {G : zG} {o : Nat → Option va_E} {S : cS} {N : Nat} {Q : Option Value → cS → Prop} {X : Int32 × cS → Prop} (hG : zOK G) (hR : ∀ v S', X (v, S') → Q (some (.int v)) S') {x0 : Option Nat} {x1 : Int32} (ok : O_X11_deliver_0 N x0 x1 S) (hx : X (F_X11_deliver_0 N x0 x1 S)) : cX G o dX11_deliver mX11_deliver 0 [some (va_rf x0), some (.int x1)] [] S Q := by
  unfold O_X11_deliver_0 at ok
  unfold F_X11_deliver_0 at hx
  refine c_aload_nQ dX11_deliver_0 rfl rfl ?_
  refine c_getR (C := RX11) (T := TX11) (N := 4) (ci := 9) (k := 0) ⟨rfl, inT11, by decide, fX11_22⟩ (by decide) (by decide) (by decide) dX11_deliver_1 ok.1 ?_
  have ok := ok.2
  refine c_iload_n dX11_deliver_4 rfl rfl ?_
  refine c_V1i (ci := 8) (rr := (RX10, TX10, 12)) (y' := mX10_land) dX11_deliver_5 lX11_180 kX10_land ⟨by decide, by decide⟩ rfl rfl (by decide) ok.1.1 (Nat.le_of_ble_eq_true rfl) (cc_X10_land hG ok.1.2) (fun v_5 S_5 h_5 => ?_)
  obtain ⟨hv_5, hS_5⟩ := h_5
  subst hv_5
  have hS_5 := hS_5.symm
  subst hS_5
  have ok := ok.2
  exact cX.cutz (b_X11_deliver_8 hG hR ok hx) trivial
def f_X11_deliver (N : Nat) (S : cS) (a0 : Nat) (x1 : Int32) : Int32 × cS := F_X11_deliver_0 N (some a0) x1 S
def o_X11_deliver (N : Nat) (S : cS) (a0 : Nat) (x1 : Int32) : Prop := O_X11_deliver_0 N (some a0) x1 S
set_option maxRecDepth 100000 in
set_option maxHeartbeats 4000000 in
theorem cc_X11_deliver {G : zG} {o : Nat → Option va_E} {S : cS} {N : Nat} (hG : zOK G) {a0 : Nat} {x1 : Int32} (ok : o_X11_deliver N S a0 x1) : cCi G o dX11_deliver mX11_deliver [.ref a0, .int x1] S (fun v S' => v = (f_X11_deliver N S a0 x1).1 ∧ S' = (f_X11_deliver N S a0 x1).2) := by
  refine cC.ofX rfl (by exact Nat.le_of_ble_eq_true rfl) ?_
  show cX G o dX11_deliver mX11_deliver 0 [some (.ref a0), some (.int x1)] [] S _
  exact cX.cutz (b_X11_deliver_0 (X := fun F => F = f_X11_deliver N S a0 x1) hG (fun v S' h => ⟨v, rfl, by rw [← h], by rw [← h]⟩) ok rfl) ⟨rfl, rfl, trivial⟩
/-! X11_calm -/
def F_X11_calm_84 (N : Nat) (x3 : Int32) (S : cS) : Int32 × cS := (x3, S)
def O_X11_calm_84 (N : Nat) (x3 : Int32) (S : cS) : Prop := True
set_option maxRecDepth 100000 in
set_option maxHeartbeats 4000000 in
theorem b_X11_calm_84 {G : zG} {o : Nat → Option va_E} {S : cS} {N : Nat} {Q : Option Value → cS → Prop} {X : Int32 × cS → Prop} (hG : zOK G) (hR : ∀ v S', X (v, S') → Q (some (.int v)) S') {x3 : Int32} (ok : O_X11_calm_84 N x3 S) (hx : X (F_X11_calm_84 N x3 S)) : cX G o dX11_calm mX11_calm 84 [none, none, none, some (.int x3), none] [] S Q := by
  unfold O_X11_calm_84 at ok
  unfold F_X11_calm_84 at hx
  refine c_iload_n dX11_calm_84 rfl rfl ?_
  exact c_ireturn rfl rfl dX11_calm_85 (hR _ _ hx)
def F_X11_calm_77 (N : Nat) (rec : Option Nat → Int32 → Int32 → Int32 → Int32 → cS → Nat × Int32 × cS) (x0 : Option Nat) (x1 : Int32) (x2 : Int32) (x3 : Int32) (x4 : Int32) (s0 : Int32) (S : cS) : Nat × Int32 × cS := (rec x0 x1 x2 x3 (x4 + nI 1) S)
def O_X11_calm_77 (N : Nat) (rok : Option Nat → Int32 → Int32 → Int32 → Int32 → cS → Prop) (x0 : Option Nat) (x1 : Int32) (x2 : Int32) (x3 : Int32) (x4 : Int32) (s0 : Int32) (S : cS) : Prop := rok x0 x1 x2 x3 (x4 + nI 1) S
set_option maxRecDepth 100000 in
set_option maxHeartbeats 4000000 in
theorem b_X11_calm_77 {G : zG} {o : Nat → Option va_E} {S : cS} {N : Nat} {Q : Option Value → cS → Prop} {X : Nat × Int32 × cS → Prop} (hG : zOK G) (hX0 : ∀ (x3 : Int32) (S' : cS), X (0, x3, S') → cX G o dX11_calm mX11_calm 84 [none, none, none, some (.int x3), none] [] S' Q) {rec : Option Nat → Int32 → Int32 → Int32 → Int32 → cS → Nat × Int32 × cS} {rok : Option Nat → Int32 → Int32 → Int32 → Int32 → cS → Prop} (hrec : ∀ (x0 : Option Nat) (x1 : Int32) (x2 : Int32) (x3 : Int32) (x4 : Int32) (S : cS), rok x0 x1 x2 x3 x4 S → X (rec x0 x1 x2 x3 x4 S) → cX G o dX11_calm mX11_calm 28 [some (va_rf x0), some (.int x1), some (.int x2), some (.int x3), some (.int x4)] [] S Q) {x0 : Option Nat} {x1 : Int32} {x2 : Int32} {x3 : Int32} {x4 : Int32} {s0 : Int32} (ok : O_X11_calm_77 N rok x0 x1 x2 x3 x4 s0 S) (hx : X (F_X11_calm_77 N rec x0 x1 x2 x3 x4 s0 S)) : cX G o dX11_calm mX11_calm 77 [some (va_rf x0), some (.int x1), some (.int x2), some (.int x3), some (.int x4)] [.int s0] S Q := by
  unfold O_X11_calm_77 at ok
  unfold F_X11_calm_77 at hx
  refine c_pop dX11_calm_77 rfl ?_
  refine c_iinc_4 (v := (x4 + nI 1)) dX11_calm_78 rfl (by first | rfl | (congr 1)) (by decide) rfl ?_
  refine c_goto (tgt := 28) dX11_calm_81 (by decide) ?_
  exact cX.cutz (hrec _ _ _ _ _ S ok hx) ⟨rfl, rfl, rfl, rfl, rfl, trivial⟩
def F_X11_calm_70 (N : Nat) (rec : Option Nat → Int32 → Int32 → Int32 → Int32 → cS → Nat × Int32 × cS) (x0 : Option Nat) (x1 : Int32) (x2 : Int32) (x3 : Int32) (x4 : Int32) (S : cS) : Nat × Int32 × cS := (F_X11_calm_77 N rec x0 x1 x2 x3 x4 ((f_X10_passTime N S (za (cR S 0 (za x0)))).1) (f_X10_passTime N S (za (cR S 0 (za x0)))).2)
def O_X11_calm_70 (N : Nat) (rok : Option Nat → Int32 → Int32 → Int32 → Int32 → cS → Prop) (x0 : Option Nat) (x1 : Int32) (x2 : Int32) (x3 : Int32) (x4 : Int32) (S : cS) : Prop := (cis S x0 10) ∧ (cis S (cR S 0 (za x0)) 9 ∧ o_X10_passTime N S (za (cR S 0 (za x0)))) ∧ O_X11_calm_77 N rok x0 x1 x2 x3 x4 ((f_X10_passTime N S (za (cR S 0 (za x0)))).1) (f_X10_passTime N S (za (cR S 0 (za x0)))).2
set_option maxRecDepth 100000 in
set_option maxHeartbeats 4000000 in
theorem b_X11_calm_70 {G : zG} {o : Nat → Option va_E} {S : cS} {N : Nat} {Q : Option Value → cS → Prop} {X : Nat × Int32 × cS → Prop} (hG : zOK G) (hX0 : ∀ (x3 : Int32) (S' : cS), X (0, x3, S') → cX G o dX11_calm mX11_calm 84 [none, none, none, some (.int x3), none] [] S' Q) {rec : Option Nat → Int32 → Int32 → Int32 → Int32 → cS → Nat × Int32 × cS} {rok : Option Nat → Int32 → Int32 → Int32 → Int32 → cS → Prop} (hrec : ∀ (x0 : Option Nat) (x1 : Int32) (x2 : Int32) (x3 : Int32) (x4 : Int32) (S : cS), rok x0 x1 x2 x3 x4 S → X (rec x0 x1 x2 x3 x4 S) → cX G o dX11_calm mX11_calm 28 [some (va_rf x0), some (.int x1), some (.int x2), some (.int x3), some (.int x4)] [] S Q) {x0 : Option Nat} {x1 : Int32} {x2 : Int32} {x3 : Int32} {x4 : Int32} (ok : O_X11_calm_70 N rok x0 x1 x2 x3 x4 S) (hx : X (F_X11_calm_70 N rec x0 x1 x2 x3 x4 S)) : cX G o dX11_calm mX11_calm 70 [some (va_rf x0), some (.int x1), some (.int x2), some (.int x3), some (.int x4)] [] S Q := by
  unfold O_X11_calm_70 at ok
  unfold F_X11_calm_70 at hx
  refine c_aload_nQ dX11_calm_70 rfl rfl ?_
  refine c_getR (C := RX11) (T := TX11) (N := 4) (ci := 9) (k := 0) ⟨rfl, inT11, by decide, fX11_22⟩ (by decide) (by decide) (by decide) dX11_calm_71 ok.1 ?_
  have ok := ok.2
  refine c_V0i (ci := 8) (rr := (RX10, TX10, 12)) (y' := mX10_passTime) dX11_calm_74 lX11_188 kX10_passTime ⟨by decide, by decide⟩ rfl rfl (by decide) ok.1.1 (Nat.le_of_ble_eq_true rfl) (cc_X10_passTime hG ok.1.2) (fun v_74 S_74 h_74 => ?_)
  obtain ⟨hv_74, hS_74⟩ := h_74
  subst hv_74
  have hS_74 := hS_74.symm
  subst hS_74
  have ok := ok.2
  exact cX.cutz (b_X11_calm_77 hG hX0 hrec ok hx) ⟨rfl, rfl, rfl, rfl, rfl, trivial⟩
def F_X11_calm_63 (N : Nat) (rec : Option Nat → Int32 → Int32 → Int32 → Int32 → cS → Nat × Option Nat × Int32 × Int32 × Int32 × Int32 × cS) (x0 : Option Nat) (x1 : Int32) (x2 : Int32) (x3 : Int32) (x4 : Int32) (s0 : Int32) (S : cS) : Nat × Option Nat × Int32 × Int32 × Int32 × Int32 × cS := (rec x0 x1 x2 (x3 + nI 1) x4 S)
def O_X11_calm_63 (N : Nat) (rok : Option Nat → Int32 → Int32 → Int32 → Int32 → cS → Prop) (x0 : Option Nat) (x1 : Int32) (x2 : Int32) (x3 : Int32) (x4 : Int32) (s0 : Int32) (S : cS) : Prop := rok x0 x1 x2 (x3 + nI 1) x4 S
set_option maxRecDepth 100000 in
set_option maxHeartbeats 4000000 in
theorem b_X11_calm_63 {G : zG} {o : Nat → Option va_E} {S : cS} {N : Nat} {Q : Option Value → cS → Prop} {X : Nat × Option Nat × Int32 × Int32 × Int32 × Int32 × cS → Prop} (hG : zOK G) (hX0 : ∀ (x0 : Option Nat) (x1 : Int32) (x2 : Int32) (x3 : Int32) (x4 : Int32) (S' : cS), X (0, x0, x1, x2, x3, x4, S') → cX G o dX11_calm mX11_calm 70 [some (va_rf x0), some (.int x1), some (.int x2), some (.int x3), some (.int x4)] [] S' Q) {rec : Option Nat → Int32 → Int32 → Int32 → Int32 → cS → Nat × Option Nat × Int32 × Int32 × Int32 × Int32 × cS} {rok : Option Nat → Int32 → Int32 → Int32 → Int32 → cS → Prop} (hrec : ∀ (x0 : Option Nat) (x1 : Int32) (x2 : Int32) (x3 : Int32) (x4 : Int32) (S : cS), rok x0 x1 x2 x3 x4 S → X (rec x0 x1 x2 x3 x4 S) → cX G o dX11_calm mX11_calm 34 [some (va_rf x0), some (.int x1), some (.int x2), some (.int x3), some (.int x4)] [] S Q) {x0 : Option Nat} {x1 : Int32} {x2 : Int32} {x3 : Int32} {x4 : Int32} {s0 : Int32} (ok : O_X11_calm_63 N rok x0 x1 x2 x3 x4 s0 S) (hx : X (F_X11_calm_63 N rec x0 x1 x2 x3 x4 s0 S)) : cX G o dX11_calm mX11_calm 63 [some (va_rf x0), some (.int x1), some (.int x2), some (.int x3), some (.int x4)] [.int s0] S Q := by
  unfold O_X11_calm_63 at ok
  unfold F_X11_calm_63 at hx
  refine c_pop dX11_calm_63 rfl ?_
  refine c_iinc_3 (v := (x3 + nI 1)) dX11_calm_64 rfl (by first | rfl | (congr 1)) (by decide) rfl ?_
  refine c_goto (tgt := 34) dX11_calm_67 (by decide) ?_
  exact cX.cutz (hrec _ _ _ _ _ S ok hx) ⟨rfl, rfl, rfl, rfl, rfl, trivial⟩
def B_X11_calm_34 (N : Nat) (rec : Option Nat → Int32 → Int32 → Int32 → Int32 → cS → Nat × Option Nat × Int32 × Int32 × Int32 × Int32 × cS) (x0 : Option Nat) (x1 : Int32) (x2 : Int32) (x3 : Int32) (x4 : Int32) (S : cS) : Nat × Option Nat × Int32 × Int32 × Int32 × Int32 × cS := (if (nI 5000) ≤ x3 then (0, x0, x1, x2, x3, x4, S) else (if (f_X9_isRipe N S (za (cR S 6 (za (cR S 0 (za x0))))) x2) = 0 then (0, x0, x1, x2, x3, x4, S) else (F_X11_calm_63 N rec x0 x1 x2 x3 x4 ((f_X10_land N S (za (cR S 0 (za x0))) (nI 0)).1) (f_X10_land N S (za (cR S 0 (za x0))) (nI 0)).2)))
def OB_X11_calm_34 (N : Nat) (rok : Option Nat → Int32 → Int32 → Int32 → Int32 → cS → Prop) (x0 : Option Nat) (x1 : Int32) (x2 : Int32) (x3 : Int32) (x4 : Int32) (S : cS) : Prop := (((nI 5000) ≤ x3 → True) ∧ (¬ (nI 5000) ≤ x3 → (cis S x0 10) ∧ (cis S (cR S 0 (za x0)) 9) ∧ (cis S (cR S 6 (za (cR S 0 (za x0)))) 8 ∧ o_X9_isRipe N S (za (cR S 6 (za (cR S 0 (za x0))))) x2) ∧ (((f_X9_isRipe N S (za (cR S 6 (za (cR S 0 (za x0))))) x2) = 0 → True) ∧ (¬ (f_X9_isRipe N S (za (cR S 6 (za (cR S 0 (za x0))))) x2) = 0 → (cis S x0 10) ∧ (cis S (cR S 0 (za x0)) 9 ∧ o_X10_land N S (za (cR S 0 (za x0))) (nI 0)) ∧ O_X11_calm_63 N rok x0 x1 x2 x3 x4 ((f_X10_land N S (za (cR S 0 (za x0))) (nI 0)).1) (f_X10_land N S (za (cR S 0 (za x0))) (nI 0)).2))))
set_option maxRecDepth 100000 in
set_option maxHeartbeats 4000000 in
theorem bb_X11_calm_34 {G : zG} {o : Nat → Option va_E} {S : cS} {N : Nat} {Q : Option Value → cS → Prop} {X : Nat × Option Nat × Int32 × Int32 × Int32 × Int32 × cS → Prop} (hG : zOK G) (hX0 : ∀ (x0 : Option Nat) (x1 : Int32) (x2 : Int32) (x3 : Int32) (x4 : Int32) (S' : cS), X (0, x0, x1, x2, x3, x4, S') → cX G o dX11_calm mX11_calm 70 [some (va_rf x0), some (.int x1), some (.int x2), some (.int x3), some (.int x4)] [] S' Q) {rec : Option Nat → Int32 → Int32 → Int32 → Int32 → cS → Nat × Option Nat × Int32 × Int32 × Int32 × Int32 × cS} {rok : Option Nat → Int32 → Int32 → Int32 → Int32 → cS → Prop} (hrec : ∀ (x0 : Option Nat) (x1 : Int32) (x2 : Int32) (x3 : Int32) (x4 : Int32) (S : cS), rok x0 x1 x2 x3 x4 S → X (rec x0 x1 x2 x3 x4 S) → cX G o dX11_calm mX11_calm 34 [some (va_rf x0), some (.int x1), some (.int x2), some (.int x3), some (.int x4)] [] S Q) {x0 : Option Nat} {x1 : Int32} {x2 : Int32} {x3 : Int32} {x4 : Int32} (ok : OB_X11_calm_34 N rok x0 x1 x2 x3 x4 S) (hx : X (B_X11_calm_34 N rec x0 x1 x2 x3 x4 S)) : cX G o dX11_calm mX11_calm 34 [some (va_rf x0), some (.int x1), some (.int x2), some (.int x3), some (.int x4)] [] S Q := by
  unfold OB_X11_calm_34 at ok
  unfold B_X11_calm_34 at hx
  refine c_iload_n dX11_calm_34 rfl rfl ?_
  refine c_sipush (v := nI 5000) dX11_calm_35 (by decide) ?_
  refine c_icmp_ge (tgt := 70) dX11_calm_38 (by decide) (fun c_38 => ?_) (fun c_38 => ?_)
  · have ok := ok.1 c_38
    have hx := xif_p c_38 hx
    exact cX.cutz (hX0 _ _ _ _ _ S hx) ⟨rfl, rfl, rfl, rfl, rfl, trivial⟩
  · have ok := ok.2 c_38
    have hx := xif_n c_38 hx
    refine c_aload_nQ dX11_calm_41 rfl rfl ?_
    refine c_getR (C := RX11) (T := TX11) (N := 4) (ci := 9) (k := 0) ⟨rfl, inT11, by decide, fX11_22⟩ (by decide) (by decide) (by decide) dX11_calm_42 ok.1 ?_
    have ok := ok.2
    refine c_getR (C := RX10) (T := TX10) (N := 12) (ci := 8) (k := 6) ⟨rfl, inT10, by decide, fX11_38⟩ (by decide) (by decide) (by decide) dX11_calm_45 ok.1 ?_
    have ok := ok.2
    refine c_iload_n dX11_calm_48 rfl rfl ?_
    refine c_V1i (ci := 7) (rr := (RX9, TX9, 13)) (y' := mX9_isRipe) dX11_calm_49 lX11_184 kX9_isRipe ⟨by decide, by decide⟩ rfl rfl (by decide) ok.1.1 (Nat.le_of_ble_eq_true rfl) (cc_X9_isRipe hG ok.1.2) (fun v_49 S_49 h_49 => ?_)
    obtain ⟨hv_49, hS_49⟩ := h_49
    subst hv_49
    have hS_49 := hS_49.symm
    subst hS_49
    have ok := ok.2
    refine c_if_eq (tgt := 70) dX11_calm_52 (by decide) (fun c_52 => ?_) (fun c_52 => ?_)
    · have ok := ok.1 c_52
      have hx := xif_p c_52 hx
      exact cX.cutz (hX0 _ _ _ _ _ S hx) ⟨rfl, rfl, rfl, rfl, rfl, trivial⟩
    · have ok := ok.2 c_52
      have hx := xif_n c_52 hx
      refine c_aload_nQ dX11_calm_55 rfl rfl ?_
      refine c_getR (C := RX11) (T := TX11) (N := 4) (ci := 9) (k := 0) ⟨rfl, inT11, by decide, fX11_22⟩ (by decide) (by decide) (by decide) dX11_calm_56 ok.1 ?_
      have ok := ok.2
      refine c_iconst (v := nI 0) dX11_calm_59 (by decide) ?_
      refine c_V1i (ci := 8) (rr := (RX10, TX10, 12)) (y' := mX10_land) dX11_calm_60 lX11_180 kX10_land ⟨by decide, by decide⟩ rfl rfl (by decide) ok.1.1 (Nat.le_of_ble_eq_true rfl) (cc_X10_land hG ok.1.2) (fun v_60 S_60 h_60 => ?_)
      obtain ⟨hv_60, hS_60⟩ := h_60
      subst hv_60
      have hS_60 := hS_60.symm
      subst hS_60
      have ok := ok.2
      exact cX.cutz (b_X11_calm_63 hG hX0 hrec ok hx) ⟨rfl, rfl, rfl, rfl, rfl, trivial⟩
def L_X11_calm_34 (N : Nat) : Nat → Option Nat → Int32 → Int32 → Int32 → Int32 → cS → Nat × Option Nat × Int32 × Int32 × Int32 × Int32 × cS
  | 0, x0, x1, x2, x3, x4, S => (0, none, 0, 0, 0, 0, S)
  | n + 1, x0, x1, x2, x3, x4, S => B_X11_calm_34 N (L_X11_calm_34 N n) x0 x1 x2 x3 x4 S
def OL_X11_calm_34 (N : Nat) : Nat → Option Nat → Int32 → Int32 → Int32 → Int32 → cS → Prop
  | 0, _, _, _, _, _, _ => False
  | n + 1, x0, x1, x2, x3, x4, S => OB_X11_calm_34 N (OL_X11_calm_34 N n) x0 x1 x2 x3 x4 S
set_option maxRecDepth 100000 in
set_option maxHeartbeats 4000000 in
theorem l_X11_calm_34 {G : zG} {o : Nat → Option va_E} {N : Nat} {Q : Option Value → cS → Prop} {X : Nat × Option Nat × Int32 × Int32 × Int32 × Int32 × cS → Prop} (hG : zOK G) (hX0 : ∀ (x0 : Option Nat) (x1 : Int32) (x2 : Int32) (x3 : Int32) (x4 : Int32) (S' : cS), X (0, x0, x1, x2, x3, x4, S') → cX G o dX11_calm mX11_calm 70 [some (va_rf x0), some (.int x1), some (.int x2), some (.int x3), some (.int x4)] [] S' Q) : ∀ (n : Nat) (x0 : Option Nat) (x1 : Int32) (x2 : Int32) (x3 : Int32) (x4 : Int32) (S : cS), OL_X11_calm_34 N n x0 x1 x2 x3 x4 S → X (L_X11_calm_34 N n x0 x1 x2 x3 x4 S) → cX G o dX11_calm mX11_calm 34 [some (va_rf x0), some (.int x1), some (.int x2), some (.int x3), some (.int x4)] [] S Q := by
  intro n
  induction n with
  | zero => intro x0 x1 x2 x3 x4 S ok; exact absurd ok id
  | succ n ih =>
    intro x0 x1 x2 x3 x4 S ok hx
    exact bb_X11_calm_34 hG hX0 (rec := L_X11_calm_34 N n) (rok := OL_X11_calm_34 N n) (fun x0 x1 x2 x3 x4 S ok hx => ih x0 x1 x2 x3 x4 S ok hx) ok hx
def A_X11_calm_34 (N : Nat) (rec : Option Nat → Int32 → Int32 → Int32 → Int32 → cS → Nat × Int32 × cS) (x0 : Option Nat) (x1 : Int32) (x2 : Int32) (x3 : Int32) (x4 : Int32) (S : cS) (z : Nat × Option Nat × Int32 × Int32 × Int32 × Int32 × cS) : Nat × Int32 × cS := (F_X11_calm_70 N rec (z.2.1) (z.2.2.1) (z.2.2.2.1) (z.2.2.2.2.1) (z.2.2.2.2.2.1) z.2.2.2.2.2.2)
def OA_X11_calm_34 (N : Nat) (rok : Option Nat → Int32 → Int32 → Int32 → Int32 → cS → Prop) (x0 : Option Nat) (x1 : Int32) (x2 : Int32) (x3 : Int32) (x4 : Int32) (S : cS) (z : Nat × Option Nat × Int32 × Int32 × Int32 × Int32 × cS) : Prop := O_X11_calm_70 N rok (z.2.1) (z.2.2.1) (z.2.2.2.1) (z.2.2.2.2.1) (z.2.2.2.2.2.1) z.2.2.2.2.2.2
set_option maxRecDepth 100000 in
set_option maxHeartbeats 4000000 in
theorem c_X11_calm_34 {G : zG} {o : Nat → Option va_E} {S : cS} {N : Nat} {Q : Option Value → cS → Prop} {X : Nat × Int32 × cS → Prop} (hG : zOK G) (hX0 : ∀ (x3 : Int32) (S' : cS), X (0, x3, S') → cX G o dX11_calm mX11_calm 84 [none, none, none, some (.int x3), none] [] S' Q) {rec : Option Nat → Int32 → Int32 → Int32 → Int32 → cS → Nat × Int32 × cS} {rok : Option Nat → Int32 → Int32 → Int32 → Int32 → cS → Prop} (hrec : ∀ (x0 : Option Nat) (x1 : Int32) (x2 : Int32) (x3 : Int32) (x4 : Int32) (S : cS), rok x0 x1 x2 x3 x4 S → X (rec x0 x1 x2 x3 x4 S) → cX G o dX11_calm mX11_calm 28 [some (va_rf x0), some (.int x1), some (.int x2), some (.int x3), some (.int x4)] [] S Q) {x0 : Option Nat} {x1 : Int32} {x2 : Int32} {x3 : Int32} {x4 : Int32} (ok : OL_X11_calm_34 N N x0 x1 x2 x3 x4 S ∧ OA_X11_calm_34 N rok x0 x1 x2 x3 x4 S (L_X11_calm_34 N N x0 x1 x2 x3 x4 S)) (hx : X (A_X11_calm_34 N rec x0 x1 x2 x3 x4 S (L_X11_calm_34 N N x0 x1 x2 x3 x4 S))) : cX G o dX11_calm mX11_calm 34 [some (va_rf x0), some (.int x1), some (.int x2), some (.int x3), some (.int x4)] [] S Q := by
  refine l_X11_calm_34 hG ?_ N x0 x1 x2 x3 x4 S ok.1 (X := fun z => OA_X11_calm_34 N rok x0 x1 x2 x3 x4 S z ∧ X (A_X11_calm_34 N rec x0 x1 x2 x3 x4 S z)) ⟨ok.2, hx⟩
  · intro x0' x1' x2' x3' x4' S' hz
    obtain ⟨ok, hx⟩ := hz
    unfold OA_X11_calm_34 at ok
    unfold A_X11_calm_34 at hx
    exact cX.cutz (b_X11_calm_70 hG hX0 hrec ok hx) ⟨rfl, rfl, rfl, rfl, rfl, trivial⟩
def B_X11_calm_28 (N : Nat) (rec : Option Nat → Int32 → Int32 → Int32 → Int32 → cS → Nat × Int32 × cS) (x0 : Option Nat) (x1 : Int32) (x2 : Int32) (x3 : Int32) (x4 : Int32) (S : cS) : Nat × Int32 × cS := (if x1 ≤ x4 then (0, x3, S) else (A_X11_calm_34 N rec x0 x1 x2 x3 x4 S (L_X11_calm_34 N N x0 x1 x2 x3 x4 S)))
def OB_X11_calm_28 (N : Nat) (rok : Option Nat → Int32 → Int32 → Int32 → Int32 → cS → Prop) (x0 : Option Nat) (x1 : Int32) (x2 : Int32) (x3 : Int32) (x4 : Int32) (S : cS) : Prop := ((x1 ≤ x4 → True) ∧ (¬ x1 ≤ x4 → (OL_X11_calm_34 N N x0 x1 x2 x3 x4 S ∧ OA_X11_calm_34 N rok x0 x1 x2 x3 x4 S (L_X11_calm_34 N N x0 x1 x2 x3 x4 S))))
set_option maxRecDepth 100000 in
set_option maxHeartbeats 4000000 in
theorem bb_X11_calm_28 {G : zG} {o : Nat → Option va_E} {S : cS} {N : Nat} {Q : Option Value → cS → Prop} {X : Nat × Int32 × cS → Prop} (hG : zOK G) (hX0 : ∀ (x3 : Int32) (S' : cS), X (0, x3, S') → cX G o dX11_calm mX11_calm 84 [none, none, none, some (.int x3), none] [] S' Q) {rec : Option Nat → Int32 → Int32 → Int32 → Int32 → cS → Nat × Int32 × cS} {rok : Option Nat → Int32 → Int32 → Int32 → Int32 → cS → Prop} (hrec : ∀ (x0 : Option Nat) (x1 : Int32) (x2 : Int32) (x3 : Int32) (x4 : Int32) (S : cS), rok x0 x1 x2 x3 x4 S → X (rec x0 x1 x2 x3 x4 S) → cX G o dX11_calm mX11_calm 28 [some (va_rf x0), some (.int x1), some (.int x2), some (.int x3), some (.int x4)] [] S Q) {x0 : Option Nat} {x1 : Int32} {x2 : Int32} {x3 : Int32} {x4 : Int32} (ok : OB_X11_calm_28 N rok x0 x1 x2 x3 x4 S) (hx : X (B_X11_calm_28 N rec x0 x1 x2 x3 x4 S)) : cX G o dX11_calm mX11_calm 28 [some (va_rf x0), some (.int x1), some (.int x2), some (.int x3), some (.int x4)] [] S Q := by
  unfold OB_X11_calm_28 at ok
  unfold B_X11_calm_28 at hx
  refine c_iload dX11_calm_28 rfl ?_
  refine c_iload_n dX11_calm_30 rfl rfl ?_
  refine c_icmp_ge (tgt := 84) dX11_calm_31 (by decide) (fun c_31 => ?_) (fun c_31 => ?_)
  · have ok := ok.1 c_31
    have hx := xif_p c_31 hx
    exact cX.cutz (hX0 _ S hx) ⟨rfl, trivial⟩
  · have ok := ok.2 c_31
    have hx := xif_n c_31 hx
    exact cX.cutz (c_X11_calm_34 hG hX0 hrec ok hx) ⟨rfl, rfl, rfl, rfl, rfl, trivial⟩
def L_X11_calm_28 (N : Nat) : Nat → Option Nat → Int32 → Int32 → Int32 → Int32 → cS → Nat × Int32 × cS
  | 0, x0, x1, x2, x3, x4, S => (0, 0, S)
  | n + 1, x0, x1, x2, x3, x4, S => B_X11_calm_28 N (L_X11_calm_28 N n) x0 x1 x2 x3 x4 S
def OL_X11_calm_28 (N : Nat) : Nat → Option Nat → Int32 → Int32 → Int32 → Int32 → cS → Prop
  | 0, _, _, _, _, _, _ => False
  | n + 1, x0, x1, x2, x3, x4, S => OB_X11_calm_28 N (OL_X11_calm_28 N n) x0 x1 x2 x3 x4 S
set_option maxRecDepth 100000 in
set_option maxHeartbeats 4000000 in
theorem l_X11_calm_28 {G : zG} {o : Nat → Option va_E} {N : Nat} {Q : Option Value → cS → Prop} {X : Nat × Int32 × cS → Prop} (hG : zOK G) (hX0 : ∀ (x3 : Int32) (S' : cS), X (0, x3, S') → cX G o dX11_calm mX11_calm 84 [none, none, none, some (.int x3), none] [] S' Q) : ∀ (n : Nat) (x0 : Option Nat) (x1 : Int32) (x2 : Int32) (x3 : Int32) (x4 : Int32) (S : cS), OL_X11_calm_28 N n x0 x1 x2 x3 x4 S → X (L_X11_calm_28 N n x0 x1 x2 x3 x4 S) → cX G o dX11_calm mX11_calm 28 [some (va_rf x0), some (.int x1), some (.int x2), some (.int x3), some (.int x4)] [] S Q := by
  intro n
  induction n with
  | zero => intro x0 x1 x2 x3 x4 S ok; exact absurd ok id
  | succ n ih =>
    intro x0 x1 x2 x3 x4 S ok hx
    exact bb_X11_calm_28 hG hX0 (rec := L_X11_calm_28 N n) (rok := OL_X11_calm_28 N n) (fun x0 x1 x2 x3 x4 S ok hx => ih x0 x1 x2 x3 x4 S ok hx) ok hx
def A_X11_calm_28 (N : Nat) (x0 : Option Nat) (x1 : Int32) (x2 : Int32) (x3 : Int32) (x4 : Int32) (S : cS) (z : Nat × Int32 × cS) : Int32 × cS := (F_X11_calm_84 N (z.2.1) z.2.2)
def OA_X11_calm_28 (N : Nat) (x0 : Option Nat) (x1 : Int32) (x2 : Int32) (x3 : Int32) (x4 : Int32) (S : cS) (z : Nat × Int32 × cS) : Prop := O_X11_calm_84 N (z.2.1) z.2.2
set_option maxRecDepth 100000 in
set_option maxHeartbeats 4000000 in
theorem c_X11_calm_28 {G : zG} {o : Nat → Option va_E} {S : cS} {N : Nat} {Q : Option Value → cS → Prop} {X : Int32 × cS → Prop} (hG : zOK G) (hR : ∀ v S', X (v, S') → Q (some (.int v)) S') {x0 : Option Nat} {x1 : Int32} {x2 : Int32} {x3 : Int32} {x4 : Int32} (ok : OL_X11_calm_28 N N x0 x1 x2 x3 x4 S ∧ OA_X11_calm_28 N x0 x1 x2 x3 x4 S (L_X11_calm_28 N N x0 x1 x2 x3 x4 S)) (hx : X (A_X11_calm_28 N x0 x1 x2 x3 x4 S (L_X11_calm_28 N N x0 x1 x2 x3 x4 S))) : cX G o dX11_calm mX11_calm 28 [some (va_rf x0), some (.int x1), some (.int x2), some (.int x3), some (.int x4)] [] S Q := by
  refine l_X11_calm_28 hG ?_ N x0 x1 x2 x3 x4 S ok.1 (X := fun z => OA_X11_calm_28 N x0 x1 x2 x3 x4 S z ∧ X (A_X11_calm_28 N x0 x1 x2 x3 x4 S z)) ⟨ok.2, hx⟩
  · intro x3' S' hz
    obtain ⟨ok, hx⟩ := hz
    unfold OA_X11_calm_28 at ok
    unfold A_X11_calm_28 at hx
    exact cX.cutz (b_X11_calm_84 hG hR ok hx) ⟨rfl, trivial⟩
def F_X11_calm_21 (N : Nat)  (S : cS) : Int32 × cS := ((-1), S)
def O_X11_calm_21 (N : Nat)  (S : cS) : Prop := True
set_option maxRecDepth 100000 in
set_option maxHeartbeats 4000000 in
theorem b_X11_calm_21 {G : zG} {o : Nat → Option va_E} {S : cS} {N : Nat} {Q : Option Value → cS → Prop} {X : Int32 × cS → Prop} (hG : zOK G) (hR : ∀ v S', X (v, S') → Q (some (.int v)) S') (ok : O_X11_calm_21 N S) (hx : X (F_X11_calm_21 N S)) : cX G o dX11_calm mX11_calm 21 [none, none, none, none, none] [] S Q := by
  unfold O_X11_calm_21 at ok
  unfold F_X11_calm_21 at hx
  refine c_iconst (v := -1) dX11_calm_21 (by decide) ?_
  exact c_ireturn rfl rfl dX11_calm_22 (hR _ _ hx)
def F_X11_calm_0 (N : Nat) (x0 : Option Nat) (x1 : Int32) (x2 : Int32) (S : cS) : Int32 × cS := (if x1 < (nI 1) then (F_X11_calm_21 N S) else (if (nI 64) < x1 then (F_X11_calm_21 N S) else (if x2 < 0 then (F_X11_calm_21 N S) else (if x2 ≤ (nI 9) then (A_X11_calm_28 N x0 x1 x2 (nI 0) (nI 0) S (L_X11_calm_28 N N x0 x1 x2 (nI 0) (nI 0) S)) else (F_X11_calm_21 N S)))))
def O_X11_calm_0 (N : Nat) (x0 : Option Nat) (x1 : Int32) (x2 : Int32) (S : cS) : Prop := ((x1 < (nI 1) → O_X11_calm_21 N S) ∧ (¬ x1 < (nI 1) → (((nI 64) < x1 → O_X11_calm_21 N S) ∧ (¬ (nI 64) < x1 → ((x2 < 0 → O_X11_calm_21 N S) ∧ (¬ x2 < 0 → ((x2 ≤ (nI 9) → (OL_X11_calm_28 N N x0 x1 x2 (nI 0) (nI 0) S ∧ OA_X11_calm_28 N x0 x1 x2 (nI 0) (nI 0) S (L_X11_calm_28 N N x0 x1 x2 (nI 0) (nI 0) S))) ∧ (¬ x2 ≤ (nI 9) → O_X11_calm_21 N S))))))))
set_option maxRecDepth 100000 in
set_option maxHeartbeats 4000000 in
theorem b_X11_calm_0 {G : zG} {o : Nat → Option va_E} {S : cS} {N : Nat} {Q : Option Value → cS → Prop} {X : Int32 × cS → Prop} (hG : zOK G) (hR : ∀ v S', X (v, S') → Q (some (.int v)) S') {x0 : Option Nat} {x1 : Int32} {x2 : Int32} (ok : O_X11_calm_0 N x0 x1 x2 S) (hx : X (F_X11_calm_0 N x0 x1 x2 S)) : cX G o dX11_calm mX11_calm 0 [some (va_rf x0), some (.int x1), some (.int x2), none, none] [] S Q := by
  unfold O_X11_calm_0 at ok
  unfold F_X11_calm_0 at hx
  refine c_iload_n dX11_calm_0 rfl rfl ?_
  refine c_iconst (v := nI 1) dX11_calm_1 (by decide) ?_
  refine c_icmp_lt (tgt := 21) dX11_calm_2 (by decide) (fun c_2 => ?_) (fun c_2 => ?_)
  · have ok := ok.1 c_2
    have hx := xif_p c_2 hx
    exact cX.cutz (b_X11_calm_21 hG hR ok hx) trivial
  · have ok := ok.2 c_2
    have hx := xif_n c_2 hx
    refine c_iload_n dX11_calm_5 rfl rfl ?_
    refine c_bipush (v := nI 64) dX11_calm_6 (by decide) ?_
    refine c_icmp_gt (tgt := 21) dX11_calm_8 (by decide) (fun c_8 => ?_) (fun c_8 => ?_)
    · have ok := ok.1 c_8
      have hx := xif_p c_8 hx
      exact cX.cutz (b_X11_calm_21 hG hR ok hx) trivial
    · have ok := ok.2 c_8
      have hx := xif_n c_8 hx
      refine c_iload_n dX11_calm_11 rfl rfl ?_
      refine c_if_lt (tgt := 21) dX11_calm_12 (by decide) (fun c_12 => ?_) (fun c_12 => ?_)
      · have ok := ok.1 c_12
        have hx := xif_p c_12 hx
        exact cX.cutz (b_X11_calm_21 hG hR ok hx) trivial
      · have ok := ok.2 c_12
        have hx := xif_n c_12 hx
        refine c_iload_n dX11_calm_15 rfl rfl ?_
        refine c_bipush (v := nI 9) dX11_calm_16 (by decide) ?_
        refine c_icmp_le (tgt := 23) dX11_calm_18 (by decide) (fun c_18 => ?_) (fun c_18 => ?_)
        · have ok := ok.1 c_18
          have hx := xif_p c_18 hx
          refine c_iconst (v := nI 0) dX11_calm_23 (by decide) ?_
          refine c_istore_3 dX11_calm_24 (by decide) rfl ?_
          refine c_iconst (v := nI 0) dX11_calm_25 (by decide) ?_
          refine c_istore_4 dX11_calm_26 (by decide) rfl ?_
          exact cX.cutz (c_X11_calm_28 hG hR ok hx) ⟨rfl, rfl, rfl, rfl, rfl, trivial⟩
        · have ok := ok.2 c_18
          have hx := xif_n c_18 hx
          exact cX.cutz (b_X11_calm_21 hG hR ok hx) trivial
def f_X11_calm (N : Nat) (S : cS) (a0 : Nat) (x1 : Int32) (x2 : Int32) : Int32 × cS := F_X11_calm_0 N (some a0) x1 x2 S
def o_X11_calm (N : Nat) (S : cS) (a0 : Nat) (x1 : Int32) (x2 : Int32) : Prop := O_X11_calm_0 N (some a0) x1 x2 S
set_option maxRecDepth 100000 in
set_option maxHeartbeats 4000000 in
theorem cc_X11_calm {G : zG} {o : Nat → Option va_E} {S : cS} {N : Nat} (hG : zOK G) {a0 : Nat} {x1 : Int32} {x2 : Int32} (ok : o_X11_calm N S a0 x1 x2) : cCi G o dX11_calm mX11_calm [.ref a0, .int x1, .int x2] S (fun v S' => v = (f_X11_calm N S a0 x1 x2).1 ∧ S' = (f_X11_calm N S a0 x1 x2).2) := by
  refine cC.ofX rfl (by exact Nat.le_of_ble_eq_true rfl) ?_
  show cX G o dX11_calm mX11_calm 0 [some (.ref a0), some (.int x1), some (.int x2), none, none] [] S _
  exact cX.cutz (b_X11_calm_0 (X := fun F => F = f_X11_calm N S a0 x1 x2) hG (fun v S' h => ⟨v, rfl, by rw [← h], by rw [← h]⟩) ok rfl) ⟨rfl, rfl, rfl, trivial⟩
/-! X11_copy -/
def F_X11_copy_42 (N : Nat)  (S : cS) : Int32 × cS := ((nI 1), S)
def O_X11_copy_42 (N : Nat)  (S : cS) : Prop := True
set_option maxRecDepth 100000 in
set_option maxHeartbeats 4000000 in
theorem b_X11_copy_42 {G : zG} {o : Nat → Option va_E} {S : cS} {N : Nat} {Q : Option Value → cS → Prop} {X : Int32 × cS → Prop} (hG : zOK G) (hR : ∀ v S', X (v, S') → Q (some (.int v)) S') (ok : O_X11_copy_42 N S) (hx : X (F_X11_copy_42 N S)) : cX G o dX11_copy mX11_copy 42 [none, none, none, none] [] S Q := by
  unfold O_X11_copy_42 at ok
  unfold F_X11_copy_42 at hx
  refine c_iconst (v := nI 1) dX11_copy_42 (by decide) ?_
  exact c_ireturn rfl rfl dX11_copy_43 (hR _ _ hx)
def F_X11_copy_25 (N : Nat)  (S : cS) : Int32 × cS := ((nI 0), S)
def O_X11_copy_25 (N : Nat)  (S : cS) : Prop := True
set_option maxRecDepth 100000 in
set_option maxHeartbeats 4000000 in
theorem b_X11_copy_25 {G : zG} {o : Nat → Option va_E} {S : cS} {N : Nat} {Q : Option Value → cS → Prop} {X : Int32 × cS → Prop} (hG : zOK G) (hR : ∀ v S', X (v, S') → Q (some (.int v)) S') (ok : O_X11_copy_25 N S) (hx : X (F_X11_copy_25 N S)) : cX G o dX11_copy mX11_copy 25 [none, none, none, none] [] S Q := by
  unfold O_X11_copy_25 at ok
  unfold F_X11_copy_25 at hx
  refine c_iconst (v := nI 0) dX11_copy_25 (by decide) ?_
  exact c_ireturn rfl rfl dX11_copy_26 (hR _ _ hx)
def F_X11_copy_0 (N : Nat) (x0 : Option Nat) (x1 : Int32) (S : cS) : Int32 × cS := (if (f_X9_loadOf N S (za (cR S 6 (za (cR S 0 (za x0))))) x1) = none then (F_X11_copy_25 N S) else (if (f_X9_hasRoom N S (za (cR S 6 (za (cR S 0 (za x0)))))) = 0 then (F_X11_copy_25 N S) else (F_X11_copy_42 N (f_X9_launch N S (za (cR S 6 (za (cR S 0 (za x0))))) (f_X9_senderOf N S (za (cR S 6 (za (cR S 0 (za x0))))) x1) (f_X9_receiverOf N S (za (cR S 6 (za (cR S 0 (za x0))))) x1) (f_X9_loadOf N S (za (cR S 6 (za (cR S 0 (za x0))))) x1)))))
def O_X11_copy_0 (N : Nat) (x0 : Option Nat) (x1 : Int32) (S : cS) : Prop := (cis S x0 10) ∧ (cis S (cR S 0 (za x0)) 9) ∧ (cis S (cR S 6 (za (cR S 0 (za x0)))) 8 ∧ o_X9_loadOf N S (za (cR S 6 (za (cR S 0 (za x0))))) x1) ∧ (((f_X9_loadOf N S (za (cR S 6 (za (cR S 0 (za x0))))) x1) = none → O_X11_copy_25 N S) ∧ (¬ (f_X9_loadOf N S (za (cR S 6 (za (cR S 0 (za x0))))) x1) = none → (cis S (cR S 6 (za (cR S 0 (za x0)))) 8 ∧ o_X9_hasRoom N S (za (cR S 6 (za (cR S 0 (za x0)))))) ∧ (((f_X9_hasRoom N S (za (cR S 6 (za (cR S 0 (za x0)))))) = 0 → O_X11_copy_25 N S) ∧ (¬ (f_X9_hasRoom N S (za (cR S 6 (za (cR S 0 (za x0)))))) = 0 → (cis S (cR S 6 (za (cR S 0 (za x0)))) 8 ∧ o_X9_senderOf N S (za (cR S 6 (za (cR S 0 (za x0))))) x1) ∧ (cis S (cR S 6 (za (cR S 0 (za x0)))) 8 ∧ o_X9_receiverOf N S (za (cR S 6 (za (cR S 0 (za x0))))) x1) ∧ (cis S (cR S 6 (za (cR S 0 (za x0)))) 8 ∧ o_X9_launch N S (za (cR S 6 (za (cR S 0 (za x0))))) (f_X9_senderOf N S (za (cR S 6 (za (cR S 0 (za x0))))) x1) (f_X9_receiverOf N S (za (cR S 6 (za (cR S 0 (za x0))))) x1) (f_X9_loadOf N S (za (cR S 6 (za (cR S 0 (za x0))))) x1)) ∧ O_X11_copy_42 N (f_X9_launch N S (za (cR S 6 (za (cR S 0 (za x0))))) (f_X9_senderOf N S (za (cR S 6 (za (cR S 0 (za x0))))) x1) (f_X9_receiverOf N S (za (cR S 6 (za (cR S 0 (za x0))))) x1) (f_X9_loadOf N S (za (cR S 6 (za (cR S 0 (za x0))))) x1))))))
set_option maxRecDepth 100000 in
set_option maxHeartbeats 4000000 in
theorem b_X11_copy_0 {G : zG} {o : Nat → Option va_E} {S : cS} {N : Nat} {Q : Option Value → cS → Prop} {X : Int32 × cS → Prop} (hG : zOK G) (hR : ∀ v S', X (v, S') → Q (some (.int v)) S') {x0 : Option Nat} {x1 : Int32} (ok : O_X11_copy_0 N x0 x1 S) (hx : X (F_X11_copy_0 N x0 x1 S)) : cX G o dX11_copy mX11_copy 0 [some (va_rf x0), some (.int x1), none, none] [] S Q := by
  unfold O_X11_copy_0 at ok
  unfold F_X11_copy_0 at hx
  refine c_aload_nQ dX11_copy_0 rfl rfl ?_
  refine c_getR (C := RX11) (T := TX11) (N := 4) (ci := 9) (k := 0) ⟨rfl, inT11, by decide, fX11_22⟩ (by decide) (by decide) (by decide) dX11_copy_1 ok.1 ?_
  have ok := ok.2
  refine c_getR (C := RX10) (T := TX10) (N := 12) (ci := 8) (k := 6) ⟨rfl, inT10, by decide, fX11_38⟩ (by decide) (by decide) (by decide) dX11_copy_4 ok.1 ?_
  have ok := ok.2
  refine c_astore_2Q dX11_copy_7 (by decide) rfl ?_
  refine c_aload_nQ dX11_copy_8 rfl rfl ?_
  refine c_iload_n dX11_copy_9 rfl rfl ?_
  refine c_V1q (ci := 7) (rr := (RX9, TX9, 13)) (y' := mX9_loadOf) dX11_copy_10 lX11_84 kX9_loadOf ⟨by decide, by decide⟩ rfl rfl (by decide) ok.1.1 (Nat.le_of_ble_eq_true rfl) (cc_X9_loadOf hG ok.1.2) (fun v_10 S_10 h_10 => ?_)
  obtain ⟨hv_10, hS_10⟩ := h_10
  subst hv_10
  have hS_10 := hS_10.symm
  subst hS_10
  have ok := ok.2
  refine c_astore_3Q dX11_copy_13 (by decide) (by simp [zok, zg, zcat_rf]) ?_
  refine c_aload_nQ dX11_copy_14 rfl rfl ?_
  refine c_ifnullI (tgt := 25) dX11_copy_15 (by decide) (fun c_15 => ?_) (fun c_15 => ?_)
  · have ok := ok.1 c_15
    have hx := xif_p c_15 hx
    exact cX.cutz (b_X11_copy_25 hG hR ok hx) trivial
  · have ok := ok.2 c_15
    have hx := xif_n c_15 hx
    refine c_aload_nQ dX11_copy_18 rfl rfl ?_
    refine c_V0i (ci := 7) (rr := (RX9, TX9, 13)) (y' := mX9_hasRoom) dX11_copy_19 lX11_90 kX9_hasRoom ⟨by decide, by decide⟩ rfl rfl (by decide) ok.1.1 (Nat.le_of_ble_eq_true rfl) (cc_X9_hasRoom hG ok.1.2) (fun v_19 S_19 h_19 => ?_)
    obtain ⟨hv_19, hS_19⟩ := h_19
    subst hv_19
    have hS_19 := hS_19.symm
    subst hS_19
    have ok := ok.2
    refine c_if_ne (tgt := 27) dX11_copy_22 (by decide) (fun c_22 => ?_) (fun c_22 => ?_)
    · have ok := ok.2 c_22
      have hx := xif_n c_22 hx
      refine c_aload_nQ dX11_copy_27 rfl rfl ?_
      refine c_aload_nQ dX11_copy_28 rfl rfl ?_
      refine c_iload_n dX11_copy_29 rfl rfl ?_
      refine c_V1i (ci := 7) (rr := (RX9, TX9, 13)) (y' := mX9_senderOf) dX11_copy_30 lX11_191 kX9_senderOf ⟨by decide, by decide⟩ rfl rfl (by decide) ok.1.1 (by simp only [List.map_cons, List.map_nil, List.sum_cons, List.sum_nil, zcat_rf, zcat_i, zcat_l, zcat_r] <;> decide) (cc_X9_senderOf hG ok.1.2) (fun v_30 S_30 h_30 => ?_)
      obtain ⟨hv_30, hS_30⟩ := h_30
      subst hv_30
      have hS_30 := hS_30.symm
      subst hS_30
      have ok := ok.2
      refine c_aload_nQ dX11_copy_33 rfl rfl ?_
      refine c_iload_n dX11_copy_34 rfl rfl ?_
      refine c_V1i (ci := 7) (rr := (RX9, TX9, 13)) (y' := mX9_receiverOf) dX11_copy_35 lX11_194 kX9_receiverOf ⟨by decide, by decide⟩ rfl rfl (by decide) ok.1.1 (by simp only [List.map_cons, List.map_nil, List.sum_cons, List.sum_nil, zcat_rf, zcat_i, zcat_l, zcat_r] <;> decide) (cc_X9_receiverOf hG ok.1.2) (fun v_35 S_35 h_35 => ?_)
      obtain ⟨hv_35, hS_35⟩ := h_35
      subst hv_35
      have hS_35 := hS_35.symm
      subst hS_35
      have ok := ok.2
      refine c_aload_nQ dX11_copy_38 rfl rfl ?_
      refine c_V3v (ci := 7) (rr := (RX9, TX9, 13)) (y' := mX9_launch) dX11_copy_39 lX11_197 kX9_launch ⟨by decide, by decide⟩ rfl rfl (by decide) ok.1.1 (Nat.le_of_ble_eq_true rfl) (cc_X9_launch hG ok.1.2) (fun S_39 h_39 => ?_)
      subst h_39
      have ok := ok.2
      exact cX.cutz (b_X11_copy_42 hG hR ok hx) trivial
    · have ok := ok.1 c_22
      have hx := xif_p c_22 hx
      exact cX.cutz (b_X11_copy_25 hG hR ok hx) trivial
def f_X11_copy (N : Nat) (S : cS) (a0 : Nat) (x1 : Int32) : Int32 × cS := F_X11_copy_0 N (some a0) x1 S
def o_X11_copy (N : Nat) (S : cS) (a0 : Nat) (x1 : Int32) : Prop := O_X11_copy_0 N (some a0) x1 S
set_option maxRecDepth 100000 in
set_option maxHeartbeats 4000000 in
theorem cc_X11_copy {G : zG} {o : Nat → Option va_E} {S : cS} {N : Nat} (hG : zOK G) {a0 : Nat} {x1 : Int32} (ok : o_X11_copy N S a0 x1) : cCi G o dX11_copy mX11_copy [.ref a0, .int x1] S (fun v S' => v = (f_X11_copy N S a0 x1).1 ∧ S' = (f_X11_copy N S a0 x1).2) := by
  refine cC.ofX rfl (by exact Nat.le_of_ble_eq_true rfl) ?_
  show cX G o dX11_copy mX11_copy 0 [some (.ref a0), some (.int x1), none, none] [] S _
  exact cX.cutz (b_X11_copy_0 (X := fun F => F = f_X11_copy N S a0 x1) hG (fun v S' h => ⟨v, rfl, by rw [← h], by rw [← h]⟩) ok rfl) ⟨rfl, rfl, trivial⟩
/-! X11_flying -/
def F_X11_flying_0 (N : Nat) (x0 : Option Nat) (x1 : Int32) (x2 : Int32) (S : cS) : Int32 := (if (f_X9_loadOf N S (za (cR S 6 (za (cR S 0 (za x0))))) x1) = none then (-1) else (if x2 = nI 0 then (f_X9_senderOf N S (za (cR S 6 (za (cR S 0 (za x0))))) x1) else (if x2 = nI 1 then (f_X9_receiverOf N S (za (cR S 6 (za (cR S 0 (za x0))))) x1) else (if x2 = nI 2 then (cI S 2 (za (f_X9_loadOf N S (za (cR S 6 (za (cR S 0 (za x0))))) x1))) else (-1)))))
def O_X11_flying_0 (N : Nat) (x0 : Option Nat) (x1 : Int32) (x2 : Int32) (S : cS) : Prop := (cis S x0 10) ∧ (cis S (cR S 0 (za x0)) 9) ∧ (cis S (cR S 6 (za (cR S 0 (za x0)))) 8 ∧ o_X9_loadOf N S (za (cR S 6 (za (cR S 0 (za x0))))) x1) ∧ (((f_X9_loadOf N S (za (cR S 6 (za (cR S 0 (za x0))))) x1) = none → True) ∧ (¬ (f_X9_loadOf N S (za (cR S 6 (za (cR S 0 (za x0))))) x1) = none → ((x2 = nI 0 → (cis S x0 10) ∧ (cis S (cR S 0 (za x0)) 9) ∧ (cis S (cR S 6 (za (cR S 0 (za x0)))) 8 ∧ o_X9_senderOf N S (za (cR S 6 (za (cR S 0 (za x0))))) x1) ∧ True) ∧ (¬ x2 = nI 0 → ((x2 = nI 1 → (cis S x0 10) ∧ (cis S (cR S 0 (za x0)) 9) ∧ (cis S (cR S 6 (za (cR S 0 (za x0)))) 8 ∧ o_X9_receiverOf N S (za (cR S 6 (za (cR S 0 (za x0))))) x1) ∧ True) ∧ (¬ x2 = nI 1 → ((x2 = nI 2 → (cis S (f_X9_loadOf N S (za (cR S 6 (za (cR S 0 (za x0))))) x1) 5) ∧ True) ∧ (¬ x2 = nI 2 → True))))))))
set_option maxRecDepth 100000 in
set_option maxHeartbeats 4000000 in
theorem b_X11_flying_0 {G : zG} {o : Nat → Option va_E} {S : cS} {N : Nat} {Q : Option Value → cS → Prop} {X : Int32 → Prop} (hG : zOK G) (hR : ∀ v, X v → Q (some (.int v)) S) {x0 : Option Nat} {x1 : Int32} {x2 : Int32} (ok : O_X11_flying_0 N x0 x1 x2 S) (hx : X (F_X11_flying_0 N x0 x1 x2 S)) : cX G o dX11_flying mX11_flying 0 [some (va_rf x0), some (.int x1), some (.int x2), none] [] S Q := by
  unfold O_X11_flying_0 at ok
  unfold F_X11_flying_0 at hx
  refine c_aload_nQ dX11_flying_0 rfl rfl ?_
  refine c_getR (C := RX11) (T := TX11) (N := 4) (ci := 9) (k := 0) ⟨rfl, inT11, by decide, fX11_22⟩ (by decide) (by decide) (by decide) dX11_flying_1 ok.1 ?_
  have ok := ok.2
  refine c_getR (C := RX10) (T := TX10) (N := 12) (ci := 8) (k := 6) ⟨rfl, inT10, by decide, fX11_38⟩ (by decide) (by decide) (by decide) dX11_flying_4 ok.1 ?_
  have ok := ok.2
  refine c_iload_n dX11_flying_7 rfl rfl ?_
  refine c_V1q (ci := 7) (rr := (RX9, TX9, 13)) (y' := mX9_loadOf) dX11_flying_8 lX11_84 kX9_loadOf ⟨by decide, by decide⟩ rfl rfl (by decide) ok.1.1 (Nat.le_of_ble_eq_true rfl) (cc_X9_loadOf hG ok.1.2) (fun v_8 S_8 h_8 => ?_)
  obtain ⟨hv_8, hS_8⟩ := h_8
  subst hv_8
  have hS_8 := hS_8.symm
  subst hS_8
  have ok := ok.2
  refine c_astore_3Q dX11_flying_11 (by decide) rfl ?_
  refine c_aload_nQ dX11_flying_12 rfl rfl ?_
  refine c_ifnonnullI (tgt := 18) dX11_flying_13 (by decide) (fun c_13 => ?_) (fun c_13 => ?_)
  · have ok := ok.2 c_13
    have hx := xif_n c_13 hx
    refine c_iload_n dX11_flying_18 rfl rfl ?_
    by_cases c_19_0 : x2 = nI 0
    · have ok := ok.1 c_19_0
      have hx := xif_p c_19_0 hx
      refine c_tableIn (off := 25) (tgt := 44) dX11_flying_19 (by rw [c_19_0]; decide) (by rw [c_19_0]; decide) (by rw [c_19_0]; rfl) (by decide) ?_
      refine c_aload_nQ dX11_flying_44 rfl rfl ?_
      refine c_getR (C := RX11) (T := TX11) (N := 4) (ci := 9) (k := 0) ⟨rfl, inT11, by decide, fX11_22⟩ (by decide) (by decide) (by decide) dX11_flying_45 ok.1 ?_
      have ok := ok.2
      refine c_getR (C := RX10) (T := TX10) (N := 12) (ci := 8) (k := 6) ⟨rfl, inT10, by decide, fX11_38⟩ (by decide) (by decide) (by decide) dX11_flying_48 ok.1 ?_
      have ok := ok.2
      refine c_iload_n dX11_flying_51 rfl rfl ?_
      refine c_V1i (ci := 7) (rr := (RX9, TX9, 13)) (y' := mX9_senderOf) dX11_flying_52 lX11_191 kX9_senderOf ⟨by decide, by decide⟩ rfl rfl (by decide) ok.1.1 (Nat.le_of_ble_eq_true rfl) (cc_X9_senderOf hG ok.1.2) (fun v_52 S_52 h_52 => ?_)
      obtain ⟨hv_52, hS_52⟩ := h_52
      subst hv_52
      have hS_52 := hS_52.symm
      subst hS_52
      have ok := ok.2
      exact c_ireturn rfl rfl dX11_flying_55 (hR _ hx)
    · have ok := ok.2 c_19_0
      have hx := xif_n c_19_0 hx
      by_cases c_19_1 : x2 = nI 1
      · have ok := ok.1 c_19_1
        have hx := xif_p c_19_1 hx
        refine c_tableIn (off := 37) (tgt := 56) dX11_flying_19 (by rw [c_19_1]; decide) (by rw [c_19_1]; decide) (by rw [c_19_1]; rfl) (by decide) ?_
        refine c_aload_nQ dX11_flying_56 rfl rfl ?_
        refine c_getR (C := RX11) (T := TX11) (N := 4) (ci := 9) (k := 0) ⟨rfl, inT11, by decide, fX11_22⟩ (by decide) (by decide) (by decide) dX11_flying_57 ok.1 ?_
        have ok := ok.2
        refine c_getR (C := RX10) (T := TX10) (N := 12) (ci := 8) (k := 6) ⟨rfl, inT10, by decide, fX11_38⟩ (by decide) (by decide) (by decide) dX11_flying_60 ok.1 ?_
        have ok := ok.2
        refine c_iload_n dX11_flying_63 rfl rfl ?_
        refine c_V1i (ci := 7) (rr := (RX9, TX9, 13)) (y' := mX9_receiverOf) dX11_flying_64 lX11_194 kX9_receiverOf ⟨by decide, by decide⟩ rfl rfl (by decide) ok.1.1 (Nat.le_of_ble_eq_true rfl) (cc_X9_receiverOf hG ok.1.2) (fun v_64 S_64 h_64 => ?_)
        obtain ⟨hv_64, hS_64⟩ := h_64
        subst hv_64
        have hS_64 := hS_64.symm
        subst hS_64
        have ok := ok.2
        exact c_ireturn rfl rfl dX11_flying_67 (hR _ hx)
      · have ok := ok.2 c_19_1
        have hx := xif_n c_19_1 hx
        by_cases c_19_2 : x2 = nI 2
        · have ok := ok.1 c_19_2
          have hx := xif_p c_19_2 hx
          refine c_tableIn (off := 49) (tgt := 68) dX11_flying_19 (by rw [c_19_2]; decide) (by rw [c_19_2]; decide) (by rw [c_19_2]; rfl) (by decide) ?_
          refine c_aload_nQ dX11_flying_68 rfl rfl ?_
          refine c_getI (C := RX5) (T := TX5) (N := 7) (ci := 4) (k := 2) ⟨rfl, inT5, by decide, fX11_150⟩ (by decide) (by decide) (by decide) dX11_flying_69 ok.1 ?_
          have ok := ok.2
          exact c_ireturn rfl rfl dX11_flying_72 (hR _ hx)
        · have ok := ok.2 c_19_2
          have hx := xif_n c_19_2 hx
          refine c_tableOut (tgt := 73) dX11_flying_19 (zsw 3 (by intro k hk; rcases (show k = 0 ∨ k = 1 ∨ k = 2 by omega) with rfl | rfl | rfl <;> assumption) (by decide) (by decide)) (by decide) ?_
          refine c_iconst (v := -1) dX11_flying_73 (by decide) ?_
          exact c_ireturn rfl rfl dX11_flying_74 (hR _ hx)
  · have ok := ok.1 c_13
    have hx := xif_p c_13 hx
    refine c_iconst (v := -1) dX11_flying_16 (by decide) ?_
    exact c_ireturn rfl rfl dX11_flying_17 (hR _ hx)
def f_X11_flying (N : Nat) (S : cS) (a0 : Nat) (x1 : Int32) (x2 : Int32) : Int32 := F_X11_flying_0 N (some a0) x1 x2 S
def o_X11_flying (N : Nat) (S : cS) (a0 : Nat) (x1 : Int32) (x2 : Int32) : Prop := O_X11_flying_0 N (some a0) x1 x2 S
set_option maxRecDepth 100000 in
set_option maxHeartbeats 4000000 in
theorem cc_X11_flying {G : zG} {o : Nat → Option va_E} {S : cS} {N : Nat} (hG : zOK G) {a0 : Nat} {x1 : Int32} {x2 : Int32} (ok : o_X11_flying N S a0 x1 x2) : cCi G o dX11_flying mX11_flying [.ref a0, .int x1, .int x2] S (fun v S' => v = f_X11_flying N S a0 x1 x2 ∧ S' = S) := by
  refine cC.ofX rfl (by exact Nat.le_of_ble_eq_true rfl) ?_
  show cX G o dX11_flying mX11_flying 0 [some (.ref a0), some (.int x1), some (.int x2), none] [] S _
  exact cX.cutz (b_X11_flying_0 (X := fun F => F = f_X11_flying N S a0 x1 x2) hG (fun v h => ⟨v, rfl, h, rfl⟩) ok rfl) ⟨rfl, rfl, rfl, trivial⟩
/-! X11_bytes -/
def F_X11_bytes_38 (N : Nat) (s0 : Int64) (S : cS) : Int64 := s0
def O_X11_bytes_38 (N : Nat) (s0 : Int64) (S : cS) : Prop := True
set_option maxRecDepth 100000 in
set_option maxHeartbeats 4000000 in
theorem b_X11_bytes_38 {G : zG} {o : Nat → Option va_E} {S : cS} {N : Nat} {Q : Option Value → cS → Prop} {X : Int64 → Prop} (hG : zOK G) (hR : ∀ v, X v → Q (some (.long v)) S) {s0 : Int64} (ok : O_X11_bytes_38 N s0 S) (hx : X (F_X11_bytes_38 N s0 S)) : cX G o dX11_bytes mX11_bytes 38 [none, none, none, none] [.long s0] S Q := by
  unfold O_X11_bytes_38 at ok
  unfold F_X11_bytes_38 at hx
  exact c_lreturn rfl dX11_bytes_38 (hR _ hx)
def F_X11_bytes_20 (N : Nat)  (S : cS) : Int64 := (F_X11_bytes_38 N (-1 : Int64) S)
def O_X11_bytes_20 (N : Nat)  (S : cS) : Prop := O_X11_bytes_38 N (-1 : Int64) S
set_option maxRecDepth 100000 in
set_option maxHeartbeats 4000000 in
theorem b_X11_bytes_20 {G : zG} {o : Nat → Option va_E} {S : cS} {N : Nat} {Q : Option Value → cS → Prop} {X : Int64 → Prop} (hG : zOK G) (hR : ∀ v, X v → Q (some (.long v)) S) (ok : O_X11_bytes_20 N S) (hx : X (F_X11_bytes_20 N S)) : cX G o dX11_bytes mX11_bytes 20 [none, none, none, none] [] S Q := by
  unfold O_X11_bytes_20 at ok
  unfold F_X11_bytes_20 at hx
  refine c_ldc2 dX11_bytes_20 nX11_200 ?_
  refine c_goto (tgt := 38) dX11_bytes_23 (by decide) ?_
  exact cX.cutz (b_X11_bytes_38 hG hR ok hx) trivial
def F_X11_bytes_0 (N : Nat) (x0 : Option Nat) (x1 : Int32) (x2 : Int32) (S : cS) : Int64 := (if (f_X9_loadOf N S (za (cR S 6 (za (cR S 0 (za x0))))) x1) = none then (F_X11_bytes_20 N S) else (if 0 ≤ x2 then (F_X11_bytes_38 N (f_X11_eight N S (cR S 0 (za (f_X9_loadOf N S (za (cR S 6 (za (cR S 0 (za x0))))) x1))) (cI S 2 (za (f_X9_loadOf N S (za (cR S 6 (za (cR S 0 (za x0))))) x1))) x2) S) else (F_X11_bytes_20 N S)))
def O_X11_bytes_0 (N : Nat) (x0 : Option Nat) (x1 : Int32) (x2 : Int32) (S : cS) : Prop := (cis S x0 10) ∧ (cis S (cR S 0 (za x0)) 9) ∧ (cis S (cR S 6 (za (cR S 0 (za x0)))) 8 ∧ o_X9_loadOf N S (za (cR S 6 (za (cR S 0 (za x0))))) x1) ∧ (((f_X9_loadOf N S (za (cR S 6 (za (cR S 0 (za x0))))) x1) = none → O_X11_bytes_20 N S) ∧ (¬ (f_X9_loadOf N S (za (cR S 6 (za (cR S 0 (za x0))))) x1) = none → ((0 ≤ x2 → (cis S (f_X9_loadOf N S (za (cR S 6 (za (cR S 0 (za x0))))) x1) 5) ∧ (cis S (f_X9_loadOf N S (za (cR S 6 (za (cR S 0 (za x0))))) x1) 5) ∧ (o_X11_eight N S (cR S 0 (za (f_X9_loadOf N S (za (cR S 6 (za (cR S 0 (za x0))))) x1))) (cI S 2 (za (f_X9_loadOf N S (za (cR S 6 (za (cR S 0 (za x0))))) x1))) x2) ∧ O_X11_bytes_38 N (f_X11_eight N S (cR S 0 (za (f_X9_loadOf N S (za (cR S 6 (za (cR S 0 (za x0))))) x1))) (cI S 2 (za (f_X9_loadOf N S (za (cR S 6 (za (cR S 0 (za x0))))) x1))) x2) S) ∧ (¬ 0 ≤ x2 → O_X11_bytes_20 N S))))
set_option maxRecDepth 100000 in
set_option maxHeartbeats 4000000 in
theorem b_X11_bytes_0 {G : zG} {o : Nat → Option va_E} {S : cS} {N : Nat} {Q : Option Value → cS → Prop} {X : Int64 → Prop} (hG : zOK G) (hR : ∀ v, X v → Q (some (.long v)) S) {x0 : Option Nat} {x1 : Int32} {x2 : Int32} (ok : O_X11_bytes_0 N x0 x1 x2 S) (hx : X (F_X11_bytes_0 N x0 x1 x2 S)) : cX G o dX11_bytes mX11_bytes 0 [some (va_rf x0), some (.int x1), some (.int x2), none] [] S Q := by
  unfold O_X11_bytes_0 at ok
  unfold F_X11_bytes_0 at hx
  refine c_aload_nQ dX11_bytes_0 rfl rfl ?_
  refine c_getR (C := RX11) (T := TX11) (N := 4) (ci := 9) (k := 0) ⟨rfl, inT11, by decide, fX11_22⟩ (by decide) (by decide) (by decide) dX11_bytes_1 ok.1 ?_
  have ok := ok.2
  refine c_getR (C := RX10) (T := TX10) (N := 12) (ci := 8) (k := 6) ⟨rfl, inT10, by decide, fX11_38⟩ (by decide) (by decide) (by decide) dX11_bytes_4 ok.1 ?_
  have ok := ok.2
  refine c_iload_n dX11_bytes_7 rfl rfl ?_
  refine c_V1q (ci := 7) (rr := (RX9, TX9, 13)) (y' := mX9_loadOf) dX11_bytes_8 lX11_84 kX9_loadOf ⟨by decide, by decide⟩ rfl rfl (by decide) ok.1.1 (Nat.le_of_ble_eq_true rfl) (cc_X9_loadOf hG ok.1.2) (fun v_8 S_8 h_8 => ?_)
  obtain ⟨hv_8, hS_8⟩ := h_8
  subst hv_8
  have hS_8 := hS_8.symm
  subst hS_8
  have ok := ok.2
  refine c_astore_3Q dX11_bytes_11 (by decide) rfl ?_
  refine c_aload_nQ dX11_bytes_12 rfl rfl ?_
  refine c_ifnullI (tgt := 20) dX11_bytes_13 (by decide) (fun c_13 => ?_) (fun c_13 => ?_)
  · have ok := ok.1 c_13
    have hx := xif_p c_13 hx
    exact cX.cutz (b_X11_bytes_20 hG hR ok hx) trivial
  · have ok := ok.2 c_13
    have hx := xif_n c_13 hx
    refine c_iload_n dX11_bytes_16 rfl rfl ?_
    refine c_if_ge (tgt := 26) dX11_bytes_17 (by decide) (fun c_17 => ?_) (fun c_17 => ?_)
    · have ok := ok.1 c_17
      have hx := xif_p c_17 hx
      refine c_aload_nQ dX11_bytes_26 rfl rfl ?_
      refine c_getR (C := RX5) (T := TX5) (N := 7) (ci := 4) (k := 0) ⟨rfl, inT5, by decide, fX11_48⟩ (by decide) (by decide) (by decide) dX11_bytes_27 ok.1 ?_
      have ok := ok.2
      refine c_aload_nQ dX11_bytes_30 rfl rfl ?_
      refine c_getI (C := RX5) (T := TX5) (N := 7) (ci := 4) (k := 2) ⟨rfl, inT5, by decide, fX11_150⟩ (by decide) (by decide) (by decide) dX11_bytes_31 ok.1 ?_
      have ok := ok.2
      refine c_iload_n dX11_bytes_34 rfl rfl ?_
      refine c_S3l (y' := mX11_eight) dX11_bytes_35 lX11_153 kX11_eight ⟨by decide, by decide⟩ (Nat.le_of_ble_eq_true rfl) (cc_X11_eight hG ok.1) (fun v_35 S_35 h_35 => ?_)
      obtain ⟨hv_35, hS_35⟩ := h_35
      subst hv_35
      have hS_35 := hS_35.symm
      subst hS_35
      have ok := ok.2
      exact cX.cutz (b_X11_bytes_38 hG hR ok hx) trivial
    · have ok := ok.2 c_17
      have hx := xif_n c_17 hx
      exact cX.cutz (b_X11_bytes_20 hG hR ok hx) trivial
def f_X11_bytes (N : Nat) (S : cS) (a0 : Nat) (x1 : Int32) (x2 : Int32) : Int64 := F_X11_bytes_0 N (some a0) x1 x2 S
def o_X11_bytes (N : Nat) (S : cS) (a0 : Nat) (x1 : Int32) (x2 : Int32) : Prop := O_X11_bytes_0 N (some a0) x1 x2 S
set_option maxRecDepth 100000 in
set_option maxHeartbeats 4000000 in
theorem cc_X11_bytes {G : zG} {o : Nat → Option va_E} {S : cS} {N : Nat} (hG : zOK G) {a0 : Nat} {x1 : Int32} {x2 : Int32} (ok : o_X11_bytes N S a0 x1 x2) : cCl G o dX11_bytes mX11_bytes [.ref a0, .int x1, .int x2] S (fun v S' => v = f_X11_bytes N S a0 x1 x2 ∧ S' = S) := by
  refine cC.ofX rfl (by exact Nat.le_of_ble_eq_true rfl) ?_
  show cX G o dX11_bytes mX11_bytes 0 [some (.ref a0), some (.int x1), some (.int x2), none] [] S _
  exact cX.cutz (b_X11_bytes_0 (X := fun F => F = f_X11_bytes N S a0 x1 x2) hG (fun v h => ⟨v, rfl, h, rfl⟩) ok rfl) ⟨rfl, rfl, rfl, trivial⟩
/-! X11_tick -/
def F_X11_tick_7 (N : Nat) (s0 : Int32) (S : cS) : Int32 × cS := (s0, S)
def O_X11_tick_7 (N : Nat) (s0 : Int32) (S : cS) : Prop := True
set_option maxRecDepth 100000 in
set_option maxHeartbeats 4000000 in
theorem b_X11_tick_7 {G : zG} {o : Nat → Option va_E} {S : cS} {N : Nat} {Q : Option Value → cS → Prop} {X : Int32 × cS → Prop} (hG : zOK G) (hR : ∀ v S', X (v, S') → Q (some (.int v)) S') {s0 : Int32} (ok : O_X11_tick_7 N s0 S) (hx : X (F_X11_tick_7 N s0 S)) : cX G o dX11_tick mX11_tick 7 [none] [.int s0] S Q := by
  unfold O_X11_tick_7 at ok
  unfold F_X11_tick_7 at hx
  exact c_ireturn rfl rfl dX11_tick_7 (hR _ _ hx)
def F_X11_tick_0 (N : Nat) (x0 : Option Nat) (S : cS) : Int32 × cS := (F_X11_tick_7 N ((f_X10_passTime N S (za (cR S 0 (za x0)))).1) (f_X10_passTime N S (za (cR S 0 (za x0)))).2)
def O_X11_tick_0 (N : Nat) (x0 : Option Nat) (S : cS) : Prop := (cis S x0 10) ∧ (cis S (cR S 0 (za x0)) 9 ∧ o_X10_passTime N S (za (cR S 0 (za x0)))) ∧ O_X11_tick_7 N ((f_X10_passTime N S (za (cR S 0 (za x0)))).1) (f_X10_passTime N S (za (cR S 0 (za x0)))).2
set_option maxRecDepth 100000 in
set_option maxHeartbeats 4000000 in
theorem b_X11_tick_0 {G : zG} {o : Nat → Option va_E} {S : cS} {N : Nat} {Q : Option Value → cS → Prop} {X : Int32 × cS → Prop} (hG : zOK G) (hR : ∀ v S', X (v, S') → Q (some (.int v)) S') {x0 : Option Nat} (ok : O_X11_tick_0 N x0 S) (hx : X (F_X11_tick_0 N x0 S)) : cX G o dX11_tick mX11_tick 0 [some (va_rf x0)] [] S Q := by
  unfold O_X11_tick_0 at ok
  unfold F_X11_tick_0 at hx
  refine c_aload_nQ dX11_tick_0 rfl rfl ?_
  refine c_getR (C := RX11) (T := TX11) (N := 4) (ci := 9) (k := 0) ⟨rfl, inT11, by decide, fX11_22⟩ (by decide) (by decide) (by decide) dX11_tick_1 ok.1 ?_
  have ok := ok.2
  refine c_V0i (ci := 8) (rr := (RX10, TX10, 12)) (y' := mX10_passTime) dX11_tick_4 lX11_188 kX10_passTime ⟨by decide, by decide⟩ rfl rfl (by decide) ok.1.1 (Nat.le_of_ble_eq_true rfl) (cc_X10_passTime hG ok.1.2) (fun v_4 S_4 h_4 => ?_)
  obtain ⟨hv_4, hS_4⟩ := h_4
  subst hv_4
  have hS_4 := hS_4.symm
  subst hS_4
  have ok := ok.2
  exact cX.cutz (b_X11_tick_7 hG hR ok hx) trivial
def f_X11_tick (N : Nat) (S : cS) (a0 : Nat) : Int32 × cS := F_X11_tick_0 N (some a0) S
def o_X11_tick (N : Nat) (S : cS) (a0 : Nat) : Prop := O_X11_tick_0 N (some a0) S
set_option maxRecDepth 100000 in
set_option maxHeartbeats 4000000 in
theorem cc_X11_tick {G : zG} {o : Nat → Option va_E} {S : cS} {N : Nat} (hG : zOK G) {a0 : Nat} (ok : o_X11_tick N S a0) : cCi G o dX11_tick mX11_tick [.ref a0] S (fun v S' => v = (f_X11_tick N S a0).1 ∧ S' = (f_X11_tick N S a0).2) := by
  refine cC.ofX rfl (by exact Nat.le_of_ble_eq_true rfl) ?_
  show cX G o dX11_tick mX11_tick 0 [some (.ref a0)] [] S _
  exact cX.cutz (b_X11_tick_0 (X := fun F => F = f_X11_tick N S a0) hG (fun v S' h => ⟨v, rfl, by rw [← h], by rw [← h]⟩) ok rfl) ⟨rfl, trivial⟩
/-! X11_crash -/
def F_X11_crash_23 (N : Nat)  (S : cS) : Int32 × cS := ((nI 1), S)
def O_X11_crash_23 (N : Nat)  (S : cS) : Prop := True
set_option maxRecDepth 100000 in
set_option maxHeartbeats 4000000 in
theorem b_X11_crash_23 {G : zG} {o : Nat → Option va_E} {S : cS} {N : Nat} {Q : Option Value → cS → Prop} {X : Int32 × cS → Prop} (hG : zOK G) (hR : ∀ v S', X (v, S') → Q (some (.int v)) S') (ok : O_X11_crash_23 N S) (hx : X (F_X11_crash_23 N S)) : cX G o dX11_crash mX11_crash 23 [none, none, none] [] S Q := by
  unfold O_X11_crash_23 at ok
  unfold F_X11_crash_23 at hx
  refine c_iconst (v := nI 1) dX11_crash_23 (by decide) ?_
  exact c_ireturn rfl rfl dX11_crash_24 (hR _ _ hx)
def F_X11_crash_17 (N : Nat)  (S : cS) : Int32 × cS := ((nI 0), S)
def O_X11_crash_17 (N : Nat)  (S : cS) : Prop := True
set_option maxRecDepth 100000 in
set_option maxHeartbeats 4000000 in
theorem b_X11_crash_17 {G : zG} {o : Nat → Option va_E} {S : cS} {N : Nat} {Q : Option Value → cS → Prop} {X : Int32 × cS → Prop} (hG : zOK G) (hR : ∀ v S', X (v, S') → Q (some (.int v)) S') (ok : O_X11_crash_17 N S) (hx : X (F_X11_crash_17 N S)) : cX G o dX11_crash mX11_crash 17 [none, none, none] [] S Q := by
  unfold O_X11_crash_17 at ok
  unfold F_X11_crash_17 at hx
  refine c_iconst (v := nI 0) dX11_crash_17 (by decide) ?_
  exact c_ireturn rfl rfl dX11_crash_18 (hR _ _ hx)
def F_X11_crash_0 (N : Nat) (x0 : Option Nat) (x1 : Int32) (S : cS) : Int32 × cS := (if (f_X11_honestNode N S (za x0) x1) = none then (F_X11_crash_17 N S) else (if (cI S 8 (za (f_X11_honestNode N S (za x0) x1))) = 0 then (F_X11_crash_17 N S) else (F_X11_crash_23 N (f_X6_fall N S (za (f_X11_honestNode N S (za x0) x1))))))
def O_X11_crash_0 (N : Nat) (x0 : Option Nat) (x1 : Int32) (S : cS) : Prop := (cis S x0 10 ∧ o_X11_honestNode N S (za x0) x1) ∧ (((f_X11_honestNode N S (za x0) x1) = none → O_X11_crash_17 N S) ∧ (¬ (f_X11_honestNode N S (za x0) x1) = none → (cis S (f_X11_honestNode N S (za x0) x1) 6) ∧ (((cI S 8 (za (f_X11_honestNode N S (za x0) x1))) = 0 → O_X11_crash_17 N S) ∧ (¬ (cI S 8 (za (f_X11_honestNode N S (za x0) x1))) = 0 → (cis S (f_X11_honestNode N S (za x0) x1) 6 ∧ o_X6_fall N S (za (f_X11_honestNode N S (za x0) x1))) ∧ O_X11_crash_23 N (f_X6_fall N S (za (f_X11_honestNode N S (za x0) x1)))))))
set_option maxRecDepth 100000 in
set_option maxHeartbeats 4000000 in
theorem b_X11_crash_0 {G : zG} {o : Nat → Option va_E} {S : cS} {N : Nat} {Q : Option Value → cS → Prop} {X : Int32 × cS → Prop} (hG : zOK G) (hR : ∀ v S', X (v, S') → Q (some (.int v)) S') {x0 : Option Nat} {x1 : Int32} (ok : O_X11_crash_0 N x0 x1 S) (hx : X (F_X11_crash_0 N x0 x1 S)) : cX G o dX11_crash mX11_crash 0 [some (va_rf x0), some (.int x1), none] [] S Q := by
  unfold O_X11_crash_0 at ok
  unfold F_X11_crash_0 at hx
  refine c_aload_nQ dX11_crash_0 rfl rfl ?_
  refine c_iload_n dX11_crash_1 rfl rfl ?_
  refine c_V1q (ci := 9) (rr := (RX11, TX11, 4)) (y' := mX11_honestNode) dX11_crash_2 lX11_120 kX11_honestNode ⟨by decide, by decide⟩ rfl rfl (by decide) ok.1.1 (Nat.le_of_ble_eq_true rfl) (cc_X11_honestNode hG ok.1.2) (fun v_2 S_2 h_2 => ?_)
  obtain ⟨hv_2, hS_2⟩ := h_2
  subst hv_2
  have hS_2 := hS_2.symm
  subst hS_2
  have ok := ok.2
  refine c_astore_2Q dX11_crash_5 (by decide) rfl ?_
  refine c_aload_nQ dX11_crash_6 rfl rfl ?_
  refine c_ifnullI (tgt := 17) dX11_crash_7 (by decide) (fun c_7 => ?_) (fun c_7 => ?_)
  · have ok := ok.1 c_7
    have hx := xif_p c_7 hx
    exact cX.cutz (b_X11_crash_17 hG hR ok hx) trivial
  · have ok := ok.2 c_7
    have hx := xif_n c_7 hx
    refine c_aload_nQ dX11_crash_10 rfl rfl ?_
    refine c_getI (C := RX6) (T := TX6) (N := 19) (ci := 5) (k := 8) ⟨rfl, inT6, by decide, fX11_157⟩ (by decide) (by decide) (by decide) dX11_crash_11 ok.1 ?_
    have ok := ok.2
    refine c_if_ne (tgt := 19) dX11_crash_14 (by decide) (fun c_14 => ?_) (fun c_14 => ?_)
    · have ok := ok.2 c_14
      have hx := xif_n c_14 hx
      refine c_aload_nQ dX11_crash_19 rfl rfl ?_
      refine c_V0v (ci := 5) (rr := (RX6, TX6, 19)) (y' := mX6_fall) dX11_crash_20 lX11_202 kX6_fall ⟨by decide, by decide⟩ rfl rfl (by decide) ok.1.1 (Nat.le_of_ble_eq_true rfl) (cc_X6_fall hG ok.1.2) (fun S_20 h_20 => ?_)
      subst h_20
      have ok := ok.2
      exact cX.cutz (b_X11_crash_23 hG hR ok hx) trivial
    · have ok := ok.1 c_14
      have hx := xif_p c_14 hx
      exact cX.cutz (b_X11_crash_17 hG hR ok hx) trivial
def f_X11_crash (N : Nat) (S : cS) (a0 : Nat) (x1 : Int32) : Int32 × cS := F_X11_crash_0 N (some a0) x1 S
def o_X11_crash (N : Nat) (S : cS) (a0 : Nat) (x1 : Int32) : Prop := O_X11_crash_0 N (some a0) x1 S
set_option maxRecDepth 100000 in
set_option maxHeartbeats 4000000 in
theorem cc_X11_crash {G : zG} {o : Nat → Option va_E} {S : cS} {N : Nat} (hG : zOK G) {a0 : Nat} {x1 : Int32} (ok : o_X11_crash N S a0 x1) : cCi G o dX11_crash mX11_crash [.ref a0, .int x1] S (fun v S' => v = (f_X11_crash N S a0 x1).1 ∧ S' = (f_X11_crash N S a0 x1).2) := by
  refine cC.ofX rfl (by exact Nat.le_of_ble_eq_true rfl) ?_
  show cX G o dX11_crash mX11_crash 0 [some (.ref a0), some (.int x1), none] [] S _
  exact cX.cutz (b_X11_crash_0 (X := fun F => F = f_X11_crash N S a0 x1) hG (fun v S' h => ⟨v, rfl, by rw [← h], by rw [← h]⟩) ok rfl) ⟨rfl, rfl, trivial⟩
/-! X11_cut -/
def F_X11_cut_21 (N : Nat)  (S : cS) : Int32 × cS := ((nI 0), S)
def O_X11_cut_21 (N : Nat)  (S : cS) : Prop := True
set_option maxRecDepth 100000 in
set_option maxHeartbeats 4000000 in
theorem b_X11_cut_21 {G : zG} {o : Nat → Option va_E} {S : cS} {N : Nat} {Q : Option Value → cS → Prop} {X : Int32 × cS → Prop} (hG : zOK G) (hR : ∀ v S', X (v, S') → Q (some (.int v)) S') (ok : O_X11_cut_21 N S) (hx : X (F_X11_cut_21 N S)) : cX G o dX11_cut mX11_cut 21 [none, none, none, none] [] S Q := by
  unfold O_X11_cut_21 at ok
  unfold F_X11_cut_21 at hx
  refine c_iconst (v := nI 0) dX11_cut_21 (by decide) ?_
  exact c_ireturn rfl rfl dX11_cut_22 (hR _ _ hx)
def F_X11_cut_0 (N : Nat) (x0 : Option Nat) (x1 : Int32) (x2 : Int32) (S : cS) : Int32 × cS := (if (f_X11_honestNode N S (za x0) x1) = none then (F_X11_cut_21 N S) else (if x2 < 0 then (F_X11_cut_21 N S) else (if x2 ≤ (nI 1000) then ((nI 1), (csI S 9 (za (cR S 2 (za (f_X11_honestNode N S (za x0) x1)))) x2)) else (F_X11_cut_21 N S))))
def O_X11_cut_0 (N : Nat) (x0 : Option Nat) (x1 : Int32) (x2 : Int32) (S : cS) : Prop := (cis S x0 10 ∧ o_X11_honestNode N S (za x0) x1) ∧ (((f_X11_honestNode N S (za x0) x1) = none → O_X11_cut_21 N S) ∧ (¬ (f_X11_honestNode N S (za x0) x1) = none → ((x2 < 0 → O_X11_cut_21 N S) ∧ (¬ x2 < 0 → ((x2 ≤ (nI 1000) → (cis S (f_X11_honestNode N S (za x0) x1) 6) ∧ (cis S (cR S 2 (za (f_X11_honestNode N S (za x0) x1))) 4) ∧ True) ∧ (¬ x2 ≤ (nI 1000) → O_X11_cut_21 N S))))))
set_option maxRecDepth 100000 in
set_option maxHeartbeats 4000000 in
theorem b_X11_cut_0 {G : zG} {o : Nat → Option va_E} {S : cS} {N : Nat} {Q : Option Value → cS → Prop} {X : Int32 × cS → Prop} (hG : zOK G) (hR : ∀ v S', X (v, S') → Q (some (.int v)) S') {x0 : Option Nat} {x1 : Int32} {x2 : Int32} (ok : O_X11_cut_0 N x0 x1 x2 S) (hx : X (F_X11_cut_0 N x0 x1 x2 S)) : cX G o dX11_cut mX11_cut 0 [some (va_rf x0), some (.int x1), some (.int x2), none] [] S Q := by
  unfold O_X11_cut_0 at ok
  unfold F_X11_cut_0 at hx
  refine c_aload_nQ dX11_cut_0 rfl rfl ?_
  refine c_iload_n dX11_cut_1 rfl rfl ?_
  refine c_V1q (ci := 9) (rr := (RX11, TX11, 4)) (y' := mX11_honestNode) dX11_cut_2 lX11_120 kX11_honestNode ⟨by decide, by decide⟩ rfl rfl (by decide) ok.1.1 (Nat.le_of_ble_eq_true rfl) (cc_X11_honestNode hG ok.1.2) (fun v_2 S_2 h_2 => ?_)
  obtain ⟨hv_2, hS_2⟩ := h_2
  subst hv_2
  have hS_2 := hS_2.symm
  subst hS_2
  have ok := ok.2
  refine c_astore_3Q dX11_cut_5 (by decide) rfl ?_
  refine c_aload_nQ dX11_cut_6 rfl rfl ?_
  refine c_ifnullI (tgt := 21) dX11_cut_7 (by decide) (fun c_7 => ?_) (fun c_7 => ?_)
  · have ok := ok.1 c_7
    have hx := xif_p c_7 hx
    exact cX.cutz (b_X11_cut_21 hG hR ok hx) trivial
  · have ok := ok.2 c_7
    have hx := xif_n c_7 hx
    refine c_iload_n dX11_cut_10 rfl rfl ?_
    refine c_if_lt (tgt := 21) dX11_cut_11 (by decide) (fun c_11 => ?_) (fun c_11 => ?_)
    · have ok := ok.1 c_11
      have hx := xif_p c_11 hx
      exact cX.cutz (b_X11_cut_21 hG hR ok hx) trivial
    · have ok := ok.2 c_11
      have hx := xif_n c_11 hx
      refine c_iload_n dX11_cut_14 rfl rfl ?_
      refine c_sipush (v := nI 1000) dX11_cut_15 (by decide) ?_
      refine c_icmp_le (tgt := 23) dX11_cut_18 (by decide) (fun c_18 => ?_) (fun c_18 => ?_)
      · have ok := ok.1 c_18
        have hx := xif_p c_18 hx
        refine c_aload_nQ dX11_cut_23 rfl rfl ?_
        refine c_getR (C := RX6) (T := TX6) (N := 19) (ci := 5) (k := 2) ⟨rfl, inT6, by decide, fX11_205⟩ (by decide) (by decide) (by decide) dX11_cut_24 ok.1 ?_
        have ok := ok.2
        refine c_iload_n dX11_cut_27 rfl rfl ?_
        refine c_putI (C := RX4) (T := TX4) (N := 10) (ci := 3) (k := 9) ⟨rfl, inT4, by decide, fX11_209⟩ ftT4 rfl (by decide) (by decide) (by decide) rfl rfl dX11_cut_28 ok.1 ?_
        have ok := ok.2
        refine c_iconst (v := nI 1) dX11_cut_31 (by decide) ?_
        exact c_ireturn rfl rfl dX11_cut_32 (hR _ _ hx)
      · have ok := ok.2 c_18
        have hx := xif_n c_18 hx
        exact cX.cutz (b_X11_cut_21 hG hR ok hx) trivial
def f_X11_cut (N : Nat) (S : cS) (a0 : Nat) (x1 : Int32) (x2 : Int32) : Int32 × cS := F_X11_cut_0 N (some a0) x1 x2 S
def o_X11_cut (N : Nat) (S : cS) (a0 : Nat) (x1 : Int32) (x2 : Int32) : Prop := O_X11_cut_0 N (some a0) x1 x2 S
set_option maxRecDepth 100000 in
set_option maxHeartbeats 4000000 in
theorem cc_X11_cut {G : zG} {o : Nat → Option va_E} {S : cS} {N : Nat} (hG : zOK G) {a0 : Nat} {x1 : Int32} {x2 : Int32} (ok : o_X11_cut N S a0 x1 x2) : cCi G o dX11_cut mX11_cut [.ref a0, .int x1, .int x2] S (fun v S' => v = (f_X11_cut N S a0 x1 x2).1 ∧ S' = (f_X11_cut N S a0 x1 x2).2) := by
  refine cC.ofX rfl (by exact Nat.le_of_ble_eq_true rfl) ?_
  show cX G o dX11_cut mX11_cut 0 [some (.ref a0), some (.int x1), some (.int x2), none] [] S _
  exact cX.cutz (b_X11_cut_0 (X := fun F => F = f_X11_cut N S a0 x1 x2) hG (fun v S' h => ⟨v, rfl, by rw [← h], by rw [← h]⟩) ok rfl) ⟨rfl, rfl, rfl, trivial⟩
/-! X11_restart -/
def F_X11_restart_27 (N : Nat)  (S : cS) : Int32 × cS := ((nI 1), S)
def O_X11_restart_27 (N : Nat)  (S : cS) : Prop := True
set_option maxRecDepth 100000 in
set_option maxHeartbeats 4000000 in
theorem b_X11_restart_27 {G : zG} {o : Nat → Option va_E} {S : cS} {N : Nat} {Q : Option Value → cS → Prop} {X : Int32 × cS → Prop} (hG : zOK G) (hR : ∀ v S', X (v, S') → Q (some (.int v)) S') (ok : O_X11_restart_27 N S) (hx : X (F_X11_restart_27 N S)) : cX G o dX11_restart mX11_restart 27 [none, none, none] [] S Q := by
  unfold O_X11_restart_27 at ok
  unfold F_X11_restart_27 at hx
  refine c_iconst (v := nI 1) dX11_restart_27 (by decide) ?_
  exact c_ireturn rfl rfl dX11_restart_28 (hR _ _ hx)
def F_X11_restart_23 (N : Nat) (x2 : Option Nat) (S : cS) : Int32 × cS := (F_X11_restart_27 N (f_X7_settle N S x2))
def O_X11_restart_23 (N : Nat) (x2 : Option Nat) (S : cS) : Prop := (o_X7_settle N S x2) ∧ O_X11_restart_27 N (f_X7_settle N S x2)
set_option maxRecDepth 100000 in
set_option maxHeartbeats 4000000 in
theorem b_X11_restart_23 {G : zG} {o : Nat → Option va_E} {S : cS} {N : Nat} {Q : Option Value → cS → Prop} {X : Int32 × cS → Prop} (hG : zOK G) (hR : ∀ v S', X (v, S') → Q (some (.int v)) S') {x2 : Option Nat} (ok : O_X11_restart_23 N x2 S) (hx : X (F_X11_restart_23 N x2 S)) : cX G o dX11_restart mX11_restart 23 [none, none, some (va_rf x2)] [] S Q := by
  unfold O_X11_restart_23 at ok
  unfold F_X11_restart_23 at hx
  refine c_aload_nQ dX11_restart_23 rfl rfl ?_
  refine c_S1v (y' := mX7_settle) dX11_restart_24 lX11_217 kX7_settle ⟨by decide, by decide⟩ (Nat.le_of_ble_eq_true rfl) (cc_X7_settle hG ok.1) (fun S_24 h_24 => ?_)
  subst h_24
  have ok := ok.2
  exact cX.cutz (b_X11_restart_27 hG hR ok hx) trivial
def F_X11_restart_17 (N : Nat)  (S : cS) : Int32 × cS := ((nI 0), S)
def O_X11_restart_17 (N : Nat)  (S : cS) : Prop := True
set_option maxRecDepth 100000 in
set_option maxHeartbeats 4000000 in
theorem b_X11_restart_17 {G : zG} {o : Nat → Option va_E} {S : cS} {N : Nat} {Q : Option Value → cS → Prop} {X : Int32 × cS → Prop} (hG : zOK G) (hR : ∀ v S', X (v, S') → Q (some (.int v)) S') (ok : O_X11_restart_17 N S) (hx : X (F_X11_restart_17 N S)) : cX G o dX11_restart mX11_restart 17 [none, none, none] [] S Q := by
  unfold O_X11_restart_17 at ok
  unfold F_X11_restart_17 at hx
  refine c_iconst (v := nI 0) dX11_restart_17 (by decide) ?_
  exact c_ireturn rfl rfl dX11_restart_18 (hR _ _ hx)
def F_X11_restart_0 (N : Nat) (x0 : Option Nat) (x1 : Int32) (S : cS) : Int32 × cS := (if (f_X11_honestNode N S (za x0) x1) = none then (F_X11_restart_17 N S) else (if (cI S 8 (za (f_X11_honestNode N S (za x0) x1))) = 0 then (F_X11_restart_23 N (f_X11_honestNode N S (za x0) x1) (f_X6_wake N S (za (f_X11_honestNode N S (za x0) x1)))) else (F_X11_restart_17 N S)))
def O_X11_restart_0 (N : Nat) (x0 : Option Nat) (x1 : Int32) (S : cS) : Prop := (cis S x0 10 ∧ o_X11_honestNode N S (za x0) x1) ∧ (((f_X11_honestNode N S (za x0) x1) = none → O_X11_restart_17 N S) ∧ (¬ (f_X11_honestNode N S (za x0) x1) = none → (cis S (f_X11_honestNode N S (za x0) x1) 6) ∧ (((cI S 8 (za (f_X11_honestNode N S (za x0) x1))) = 0 → (cis S (f_X11_honestNode N S (za x0) x1) 6 ∧ o_X6_wake N S (za (f_X11_honestNode N S (za x0) x1))) ∧ O_X11_restart_23 N (f_X11_honestNode N S (za x0) x1) (f_X6_wake N S (za (f_X11_honestNode N S (za x0) x1)))) ∧ (¬ (cI S 8 (za (f_X11_honestNode N S (za x0) x1))) = 0 → O_X11_restart_17 N S))))
set_option maxRecDepth 100000 in
set_option maxHeartbeats 4000000 in
theorem b_X11_restart_0 {G : zG} {o : Nat → Option va_E} {S : cS} {N : Nat} {Q : Option Value → cS → Prop} {X : Int32 × cS → Prop} (hG : zOK G) (hR : ∀ v S', X (v, S') → Q (some (.int v)) S') {x0 : Option Nat} {x1 : Int32} (ok : O_X11_restart_0 N x0 x1 S) (hx : X (F_X11_restart_0 N x0 x1 S)) : cX G o dX11_restart mX11_restart 0 [some (va_rf x0), some (.int x1), none] [] S Q := by
  unfold O_X11_restart_0 at ok
  unfold F_X11_restart_0 at hx
  refine c_aload_nQ dX11_restart_0 rfl rfl ?_
  refine c_iload_n dX11_restart_1 rfl rfl ?_
  refine c_V1q (ci := 9) (rr := (RX11, TX11, 4)) (y' := mX11_honestNode) dX11_restart_2 lX11_120 kX11_honestNode ⟨by decide, by decide⟩ rfl rfl (by decide) ok.1.1 (Nat.le_of_ble_eq_true rfl) (cc_X11_honestNode hG ok.1.2) (fun v_2 S_2 h_2 => ?_)
  obtain ⟨hv_2, hS_2⟩ := h_2
  subst hv_2
  have hS_2 := hS_2.symm
  subst hS_2
  have ok := ok.2
  refine c_astore_2Q dX11_restart_5 (by decide) rfl ?_
  refine c_aload_nQ dX11_restart_6 rfl rfl ?_
  refine c_ifnullI (tgt := 17) dX11_restart_7 (by decide) (fun c_7 => ?_) (fun c_7 => ?_)
  · have ok := ok.1 c_7
    have hx := xif_p c_7 hx
    exact cX.cutz (b_X11_restart_17 hG hR ok hx) trivial
  · have ok := ok.2 c_7
    have hx := xif_n c_7 hx
    refine c_aload_nQ dX11_restart_10 rfl rfl ?_
    refine c_getI (C := RX6) (T := TX6) (N := 19) (ci := 5) (k := 8) ⟨rfl, inT6, by decide, fX11_157⟩ (by decide) (by decide) (by decide) dX11_restart_11 ok.1 ?_
    have ok := ok.2
    refine c_if_eq (tgt := 19) dX11_restart_14 (by decide) (fun c_14 => ?_) (fun c_14 => ?_)
    · have ok := ok.1 c_14
      have hx := xif_p c_14 hx
      refine c_aload_nQ dX11_restart_19 rfl rfl ?_
      refine c_V0v (ci := 5) (rr := (RX6, TX6, 19)) (y' := mX6_wake) dX11_restart_20 lX11_214 kX6_wake ⟨by decide, by decide⟩ rfl rfl (by decide) ok.1.1 (Nat.le_of_ble_eq_true rfl) (cc_X6_wake hG ok.1.2) (fun S_20 h_20 => ?_)
      subst h_20
      have ok := ok.2
      exact cX.cutz (b_X11_restart_23 hG hR ok hx) ⟨rfl, trivial⟩
    · have ok := ok.2 c_14
      have hx := xif_n c_14 hx
      exact cX.cutz (b_X11_restart_17 hG hR ok hx) trivial
def f_X11_restart (N : Nat) (S : cS) (a0 : Nat) (x1 : Int32) : Int32 × cS := F_X11_restart_0 N (some a0) x1 S
def o_X11_restart (N : Nat) (S : cS) (a0 : Nat) (x1 : Int32) : Prop := O_X11_restart_0 N (some a0) x1 S
set_option maxRecDepth 100000 in
set_option maxHeartbeats 4000000 in
theorem cc_X11_restart {G : zG} {o : Nat → Option va_E} {S : cS} {N : Nat} (hG : zOK G) {a0 : Nat} {x1 : Int32} (ok : o_X11_restart N S a0 x1) : cCi G o dX11_restart mX11_restart [.ref a0, .int x1] S (fun v S' => v = (f_X11_restart N S a0 x1).1 ∧ S' = (f_X11_restart N S a0 x1).2) := by
  refine cC.ofX rfl (by exact Nat.le_of_ble_eq_true rfl) ?_
  show cX G o dX11_restart mX11_restart 0 [some (.ref a0), some (.int x1), none] [] S _
  exact cX.cutz (b_X11_restart_0 (X := fun F => F = f_X11_restart N S a0 x1) hG (fun v S' h => ⟨v, rfl, by rw [← h], by rw [← h]⟩) ok rfl) ⟨rfl, rfl, trivial⟩

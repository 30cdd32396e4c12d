/-! X7_decides -/
def F_X7_decides_186 (N : Nat)  (S : cS) : Int32 × cS := ((nI 0), S)
def O_X7_decides_186 (N : Nat)  (S : cS) : Prop := True
set_option maxRecDepth 100000 in
set_option maxHeartbeats 4000000 in
theorem b_X7_decides_186 {G : zG} {o : cO} {S : cS} {N : Nat} {Q : Option Value → cS → Prop} {X : Int32 × cS → Prop} (hG : zOK G) (hR : ∀ v S', X (v, S') → Q (some (.int v)) S') (ok : O_X7_decides_186 N S) (hx : X (F_X7_decides_186 N S)) : cX G o dX7_decides mX7_decides 186 [none, none, none, none] [] S Q := by
  unfold O_X7_decides_186 at ok
  unfold F_X7_decides_186 at hx
  refine c_iconst (v := nI 0) dX7_decides_186 (by decide) ?_
  exact c_ireturn rfl rfl dX7_decides_187 (hR _ _ hx)
def F_X7_decides_180 (N : Nat) (rec : Option Nat → Option Nat → Int32 → cS → Nat × Option Nat × Option Nat × cS) (x0 : Option Nat) (x1 : Option Nat) (x2 : Int32) (S : cS) : Nat × Option Nat × Option Nat × cS := (rec x0 x1 (x2 + nI 1) S)
def O_X7_decides_180 (N : Nat) (rok : Option Nat → Option Nat → Int32 → cS → Prop) (x0 : Option Nat) (x1 : Option Nat) (x2 : Int32) (S : cS) : Prop := rok x0 x1 (x2 + nI 1) S
set_option maxRecDepth 100000 in
set_option maxHeartbeats 4000000 in
theorem b_X7_decides_180 {G : zG} {o : cO} {S : cS} {N : Nat} {Q : Option Value → cS → Prop} {X : Nat × Option Nat × Option Nat × cS → Prop} (hG : zOK G) (hX0 : ∀ (x0 : Option Nat) (x3 : Option Nat) (S' : cS), X (0, x0, x3, S') → cX G o dX7_decides mX7_decides 171 [some (va_rf x0), none, none, some (va_rf x3)] [] S' Q) (hX1 : ∀ (x0 : Option Nat) (x3 : Option Nat) (S' : cS), X (1, x0, x3, S') → cX G o dX7_decides mX7_decides 186 [none, none, none, none] [] S' Q) {rec : Option Nat → Option Nat → Int32 → cS → Nat × Option Nat × Option Nat × cS} {rok : Option Nat → Option Nat → Int32 → cS → Prop} (hrec : ∀ (x0 : Option Nat) (x1 : Option Nat) (x2 : Int32) (S : cS), rok x0 x1 x2 S → X (rec x0 x1 x2 S) → cX G o dX7_decides mX7_decides 116 [some (va_rf x0), some (va_rf x1), some (.int x2), none] [] S Q) {x0 : Option Nat} {x1 : Option Nat} {x2 : Int32} (ok : O_X7_decides_180 N rok x0 x1 x2 S) (hx : X (F_X7_decides_180 N rec x0 x1 x2 S)) : cX G o dX7_decides mX7_decides 180 [some (va_rf x0), some (va_rf x1), some (.int x2), none] [] S Q := by
  unfold O_X7_decides_180 at ok
  unfold F_X7_decides_180 at hx
  refine c_iinc_2 (v := (x2 + nI 1)) dX7_decides_180 rfl (by first | rfl | (congr 1)) (by decide) (by simp [zok, zg, zcat_rf]) ?_
  refine c_goto (tgt := 116) dX7_decides_183 (by decide) ?_
  exact cX.cutz (hrec _ _ _ S ok hx) ⟨rfl, rfl, rfl, trivial⟩
def F_X7_decides_178 (N : Nat)  (S : cS) : Int32 × cS := ((nI 1), S)
def O_X7_decides_178 (N : Nat)  (S : cS) : Prop := True
set_option maxRecDepth 100000 in
set_option maxHeartbeats 4000000 in
theorem b_X7_decides_178 {G : zG} {o : cO} {S : cS} {N : Nat} {Q : Option Value → cS → Prop} {X : Int32 × cS → Prop} (hG : zOK G) (hR : ∀ v S', X (v, S') → Q (some (.int v)) S') (ok : O_X7_decides_178 N S) (hx : X (F_X7_decides_178 N S)) : cX G o dX7_decides mX7_decides 178 [none, none, none, none] [] S Q := by
  unfold O_X7_decides_178 at ok
  unfold F_X7_decides_178 at hx
  refine c_iconst (v := nI 1) dX7_decides_178 (by decide) ?_
  exact c_ireturn rfl rfl dX7_decides_179 (hR _ _ hx)
def F_X7_decides_171 (N : Nat) (x0 : Option Nat) (x3 : Option Nat) (S : cS) : Int32 × cS := (F_X7_decides_178 N (f_X7_adopt N S x0 x3 (nI 6)))
def O_X7_decides_171 (N : Nat) (x0 : Option Nat) (x3 : Option Nat) (S : cS) : Prop := (o_X7_adopt N S x0 x3 (nI 6)) ∧ O_X7_decides_178 N (f_X7_adopt N S x0 x3 (nI 6))
set_option maxRecDepth 100000 in
set_option maxHeartbeats 4000000 in
theorem b_X7_decides_171 {G : zG} {o : cO} {S : cS} {N : Nat} {Q : Option Value → cS → Prop} {X : Int32 × cS → Prop} (hG : zOK G) (hR : ∀ v S', X (v, S') → Q (some (.int v)) S') {x0 : Option Nat} {x3 : Option Nat} (ok : O_X7_decides_171 N x0 x3 S) (hx : X (F_X7_decides_171 N x0 x3 S)) : cX G o dX7_decides mX7_decides 171 [some (va_rf x0), none, none, some (va_rf x3)] [] S Q := by
  unfold O_X7_decides_171 at ok
  unfold F_X7_decides_171 at hx
  refine c_aload_nQ dX7_decides_171 rfl rfl ?_
  refine c_aload_nQ dX7_decides_172 rfl rfl ?_
  refine c_bipush (v := nI 6) dX7_decides_173 (by decide) ?_
  refine c_S3vE (y' := mX7_adopt) dX7_decides_175 lX7_165 kX7_adopt ⟨by decide, by decide⟩ (Nat.le_of_ble_eq_true rfl) (cc_X7_adopt hG ok.1) ?_
  have ok := ok.2
  exact cX.cutz (b_X7_decides_178 hG hR ok hx) trivial
def F_X7_decides_168 (N : Nat) (rec : Option Nat → Option Nat → Int32 → cS → Nat × Option Nat × Option Nat × cS) (x0 : Option Nat) (x1 : Option Nat) (x2 : Int32) (x3 : Option Nat) (s0 : Int32) (S : cS) : Nat × Option Nat × Option Nat × cS := (if s0 = 0 then (F_X7_decides_180 N rec x0 x1 x2 S) else (0, x0, x3, S))
def O_X7_decides_168 (N : Nat) (rok : Option Nat → Option Nat → Int32 → cS → Prop) (x0 : Option Nat) (x1 : Option Nat) (x2 : Int32) (x3 : Option Nat) (s0 : Int32) (S : cS) : Prop := ((s0 = 0 → O_X7_decides_180 N rok x0 x1 x2 S) ∧ (¬ s0 = 0 → True))
set_option maxRecDepth 100000 in
set_option maxHeartbeats 4000000 in
theorem b_X7_decides_168 {G : zG} {o : cO} {S : cS} {N : Nat} {Q : Option Value → cS → Prop} {X : Nat × Option Nat × Option Nat × cS → Prop} (hG : zOK G) (hX0 : ∀ (x0 : Option Nat) (x3 : Option Nat) (S' : cS), X (0, x0, x3, S') → cX G o dX7_decides mX7_decides 171 [some (va_rf x0), none, none, some (va_rf x3)] [] S' Q) (hX1 : ∀ (x0 : Option Nat) (x3 : Option Nat) (S' : cS), X (1, x0, x3, S') → cX G o dX7_decides mX7_decides 186 [none, none, none, none] [] S' Q) {rec : Option Nat → Option Nat → Int32 → cS → Nat × Option Nat × Option Nat × cS} {rok : Option Nat → Option Nat → Int32 → cS → Prop} (hrec : ∀ (x0 : Option Nat) (x1 : Option Nat) (x2 : Int32) (S : cS), rok x0 x1 x2 S → X (rec x0 x1 x2 S) → cX G o dX7_decides mX7_decides 116 [some (va_rf x0), some (va_rf x1), some (.int x2), none] [] S Q) {x0 : Option Nat} {x1 : Option Nat} {x2 : Int32} {x3 : Option Nat} {s0 : Int32} (ok : O_X7_decides_168 N rok x0 x1 x2 x3 s0 S) (hx : X (F_X7_decides_168 N rec x0 x1 x2 x3 s0 S)) : cX G o dX7_decides mX7_decides 168 [some (va_rf x0), some (va_rf x1), some (.int x2), some (va_rf x3)] [.int s0] S Q := by
  unfold O_X7_decides_168 at ok
  unfold F_X7_decides_168 at hx
  refine c_if_eq (tgt := 180) dX7_decides_168 (by decide) (fun c_168 => ?_) (fun c_168 => ?_)
  · have ok := ok.1 c_168
    have hx := xif_p c_168 hx
    exact cX.cutz (b_X7_decides_180 hG hX0 hX1 hrec ok hx) ⟨rfl, rfl, rfl, trivial⟩
  · have ok := ok.2 c_168
    have hx := xif_n c_168 hx
    exact cX.cutz (hX0 _ _ S hx) ⟨rfl, rfl, trivial⟩
def B_X7_decides_116 (N : Nat) (rec : Option Nat → Option Nat → Int32 → cS → Nat × Option Nat × Option Nat × cS) (x0 : Option Nat) (x1 : Option Nat) (x2 : Int32) (S : cS) : Nat × Option Nat × Option Nat × cS := (if (f_X8_top N S (za x1) (cI S 9 (za x0))) ≤ x2 then (1, none, none, S) else (if (f_X8_proposal N S (za x1) (cI S 9 (za x0)) x2) = none then (F_X7_decides_180 N rec x0 x1 x2 S) else (if (f_X8_votesFor N S (za x1) (nI 3) (cI S 9 (za x0)) x2 (f_X8_proposal N S (za x1) (cI S 9 (za x0)) x2)) < (cI S 3 (za (cR S 0 (za x0)))) then (F_X7_decides_180 N rec x0 x1 x2 S) else (F_X7_decides_168 N rec x0 x1 x2 (f_X8_proposal N S (za x1) (cI S 9 (za x0)) x2) ((f_X7_approves N S x0 x2).1) (f_X7_approves N S x0 x2).2))))
def OB_X7_decides_116 (N : Nat) (rok : Option Nat → Option Nat → Int32 → cS → Prop) (x0 : Option Nat) (x1 : Option Nat) (x2 : Int32) (S : cS) : Prop := (cis S x0 6) ∧ (cis S x1 7 ∧ o_X8_top N S (za x1) (cI S 9 (za x0))) ∧ (((f_X8_top N S (za x1) (cI S 9 (za x0))) ≤ x2 → True) ∧ (¬ (f_X8_top N S (za x1) (cI S 9 (za x0))) ≤ x2 → (cis S x0 6) ∧ (cis S x1 7 ∧ o_X8_proposal N S (za x1) (cI S 9 (za x0)) x2) ∧ (((f_X8_proposal N S (za x1) (cI S 9 (za x0)) x2) = none → O_X7_decides_180 N rok x0 x1 x2 S) ∧ (¬ (f_X8_proposal N S (za x1) (cI S 9 (za x0)) x2) = none → (cis S x0 6) ∧ (cis S x1 7 ∧ o_X8_votesFor N S (za x1) (nI 3) (cI S 9 (za x0)) x2 (f_X8_proposal N S (za x1) (cI S 9 (za x0)) x2)) ∧ (cis S x0 6) ∧ (cis S (cR S 0 (za x0)) 9) ∧ (((f_X8_votesFor N S (za x1) (nI 3) (cI S 9 (za x0)) x2 (f_X8_proposal N S (za x1) (cI S 9 (za x0)) x2)) < (cI S 3 (za (cR S 0 (za x0)))) → O_X7_decides_180 N rok x0 x1 x2 S) ∧ (¬ (f_X8_votesFor N S (za x1) (nI 3) (cI S 9 (za x0)) x2 (f_X8_proposal N S (za x1) (cI S 9 (za x0)) x2)) < (cI S 3 (za (cR S 0 (za x0)))) → (o_X7_approves N S x0 x2) ∧ O_X7_decides_168 N rok x0 x1 x2 (f_X8_proposal N S (za x1) (cI S 9 (za x0)) x2) ((f_X7_approves N S x0 x2).1) (f_X7_approves N S x0 x2).2))))))
set_option maxRecDepth 100000 in
set_option maxHeartbeats 4000000 in
theorem bb_X7_decides_116 {G : zG} {o : cO} {S : cS} {N : Nat} {Q : Option Value → cS → Prop} {X : Nat × Option Nat × Option Nat × cS → Prop} (hG : zOK G) (hX0 : ∀ (x0 : Option Nat) (x3 : Option Nat) (S' : cS), X (0, x0, x3, S') → cX G o dX7_decides mX7_decides 171 [some (va_rf x0), none, none, some (va_rf x3)] [] S' Q) (hX1 : ∀ (x0 : Option Nat) (x3 : Option Nat) (S' : cS), X (1, x0, x3, S') → cX G o dX7_decides mX7_decides 186 [none, none, none, none] [] S' Q) {rec : Option Nat → Option Nat → Int32 → cS → Nat × Option Nat × Option Nat × cS} {rok : Option Nat → Option Nat → Int32 → cS → Prop} (hrec : ∀ (x0 : Option Nat) (x1 : Option Nat) (x2 : Int32) (S : cS), rok x0 x1 x2 S → X (rec x0 x1 x2 S) → cX G o dX7_decides mX7_decides 116 [some (va_rf x0), some (va_rf x1), some (.int x2), none] [] S Q) {x0 : Option Nat} {x1 : Option Nat} {x2 : Int32} (ok : OB_X7_decides_116 N rok x0 x1 x2 S) (hx : X (B_X7_decides_116 N rec x0 x1 x2 S)) : cX G o dX7_decides mX7_decides 116 [some (va_rf x0), some (va_rf x1), some (.int x2), none] [] S Q := by
  unfold OB_X7_decides_116 at ok
  unfold B_X7_decides_116 at hx
  refine c_iload_n dX7_decides_116 rfl rfl ?_
  refine c_aload_nQ dX7_decides_117 rfl rfl ?_
  refine c_aload_nQ dX7_decides_118 rfl rfl ?_
  refine c_getI (C := RX6) (T := TX6) (N := 19) (ci := 5) (k := 9) ⟨rfl, inT6, by decide, fX7_18⟩ (by decide) (by decide) (by decide) dX7_decides_119 ok.1 ?_
  have ok := ok.2
  refine c_V1iE (ci := 6) (rr := (RX8, TX8, 14)) (y' := mX8_top) dX7_decides_122 lX7_169 kX8_top ⟨by decide, by decide⟩ rfl rfl (by decide) ok.1.1 (Nat.le_of_ble_eq_true rfl) (cc_X8_top hG ok.1.2) ?_
  have ok := ok.2
  refine c_icmp_ge (tgt := 186) dX7_decides_125 (by decide) (fun c_125 => ?_) (fun c_125 => ?_)
  · have ok := ok.1 c_125
    have hx := xif_p c_125 hx
    exact cX.cutz (hX1 _ _ S hx) trivial
  · have ok := ok.2 c_125
    have hx := xif_n c_125 hx
    refine c_aload_nQ dX7_decides_128 rfl rfl ?_
    refine c_aload_nQ dX7_decides_129 rfl rfl ?_
    refine c_getI (C := RX6) (T := TX6) (N := 19) (ci := 5) (k := 9) ⟨rfl, inT6, by decide, fX7_18⟩ (by decide) (by decide) (by decide) dX7_decides_130 ok.1 ?_
    have ok := ok.2
    refine c_iload_n dX7_decides_133 rfl rfl ?_
    refine c_V2qE (ci := 6) (rr := (RX8, TX8, 14)) (y' := mX8_proposal) dX7_decides_134 lX7_172 kX8_proposal ⟨by decide, by decide⟩ rfl rfl (by decide) ok.1.1 (Nat.le_of_ble_eq_true rfl) (cc_X8_proposal hG ok.1.2) ?_
    have ok := ok.2
    refine c_astore_3Q dX7_decides_137 (by decide) rfl ?_
    refine c_aload_nQ dX7_decides_138 rfl rfl ?_
    refine c_ifnullI (tgt := 180) dX7_decides_139 (by decide) (fun c_139 => ?_) (fun c_139 => ?_)
    · have ok := ok.1 c_139
      have hx := xif_p c_139 hx
      exact cX.cutz (b_X7_decides_180 hG hX0 hX1 hrec ok hx) ⟨rfl, rfl, rfl, trivial⟩
    · have ok := ok.2 c_139
      have hx := xif_n c_139 hx
      refine c_aload_nQ dX7_decides_142 rfl rfl ?_
      refine c_iconst (v := nI 3) dX7_decides_143 (by decide) ?_
      refine c_aload_nQ dX7_decides_144 rfl rfl ?_
      refine c_getI (C := RX6) (T := TX6) (N := 19) (ci := 5) (k := 9) ⟨rfl, inT6, by decide, fX7_18⟩ (by decide) (by decide) (by decide) dX7_decides_145 ok.1 ?_
      have ok := ok.2
      refine c_iload_n dX7_decides_148 rfl rfl ?_
      refine c_aload_nQ dX7_decides_149 rfl rfl ?_
      refine c_V4iE (ci := 6) (rr := (RX8, TX8, 14)) (y' := mX8_votesFor) dX7_decides_150 lX7_176 kX8_votesFor ⟨by decide, by decide⟩ rfl rfl (by decide) ok.1.1 (Nat.le_of_ble_eq_true rfl) (cc_X8_votesFor hG ok.1.2) ?_
      have ok := ok.2
      refine c_aload_nQ dX7_decides_153 rfl rfl ?_
      refine c_getR (C := RX6) (T := TX6) (N := 19) (ci := 5) (k := 0) ⟨rfl, inT6, by decide, fX7_26⟩ (by decide) (by decide) (by decide) dX7_decides_154 ok.1 ?_
      have ok := ok.2
      refine c_getI (C := RX10) (T := TX10) (N := 12) (ci := 8) (k := 3) ⟨rfl, inT10, by decide, fX7_180⟩ (by decide) (by decide) (by decide) dX7_decides_157 ok.1 ?_
      have ok := ok.2
      refine c_icmp_lt (tgt := 180) dX7_decides_160 (by decide) (fun c_160 => ?_) (fun c_160 => ?_)
      · have ok := ok.1 c_160
        have hx := xif_p c_160 hx
        exact cX.cutz (b_X7_decides_180 hG hX0 hX1 hrec ok hx) ⟨rfl, rfl, rfl, trivial⟩
      · have ok := ok.2 c_160
        have hx := xif_n c_160 hx
        refine c_aload_nQ dX7_decides_163 rfl rfl ?_
        refine c_iload_n dX7_decides_164 rfl rfl ?_
        refine c_S2iE (y' := mX7_approves) dX7_decides_165 lX7_183 kX7_approves ⟨by decide, by decide⟩ (Nat.le_of_ble_eq_true rfl) (cc_X7_approves hG ok.1) ?_
        have ok := ok.2
        exact cX.cutz (b_X7_decides_168 hG hX0 hX1 hrec ok hx) ⟨rfl, rfl, rfl, rfl, trivial⟩
def L_X7_decides_116 (N : Nat) : Nat → Option Nat → Option Nat → Int32 → cS → Nat × Option Nat × Option Nat × cS
  | 0, x0, x1, x2, S => (0, none, none, S)
  | n + 1, x0, x1, x2, S => B_X7_decides_116 N (L_X7_decides_116 N n) x0 x1 x2 S
def OL_X7_decides_116 (N : Nat) : Nat → Option Nat → Option Nat → Int32 → cS → Prop
  | 0, _, _, _, _ => False
  | n + 1, x0, x1, x2, S => OB_X7_decides_116 N (OL_X7_decides_116 N n) x0 x1 x2 S
set_option maxRecDepth 100000 in
set_option maxHeartbeats 4000000 in
theorem l_X7_decides_116 {G : zG} {o : cO} {N : Nat} {Q : Option Value → cS → Prop} {X : Nat × Option Nat × Option Nat × cS → Prop} (hG : zOK G) (hX0 : ∀ (x0 : Option Nat) (x3 : Option Nat) (S' : cS), X (0, x0, x3, S') → cX G o dX7_decides mX7_decides 171 [some (va_rf x0), none, none, some (va_rf x3)] [] S' Q) (hX1 : ∀ (x0 : Option Nat) (x3 : Option Nat) (S' : cS), X (1, x0, x3, S') → cX G o dX7_decides mX7_decides 186 [none, none, none, none] [] S' Q) : ∀ (n : Nat) (x0 : Option Nat) (x1 : Option Nat) (x2 : Int32) (S : cS), OL_X7_decides_116 N n x0 x1 x2 S → X (L_X7_decides_116 N n x0 x1 x2 S) → cX G o dX7_decides mX7_decides 116 [some (va_rf x0), some (va_rf x1), some (.int x2), none] [] S Q := by
  intro n
  induction n with
  | zero => intro x0 x1 x2 S ok; exact absurd ok id
  | succ n ih =>
    intro x0 x1 x2 S ok hx
    exact bb_X7_decides_116 hG hX0 hX1 (rec := L_X7_decides_116 N n) (rok := OL_X7_decides_116 N n) (fun x0 x1 x2 S ok hx => ih x0 x1 x2 S ok hx) ok hx
def A_X7_decides_116 (N : Nat) (x0 : Option Nat) (x1 : Option Nat) (x2 : Int32) (S : cS) (z : Nat × Option Nat × Option Nat × cS) : Int32 × cS := (if z.1 = 0 then (F_X7_decides_171 N (z.2.1) (z.2.2.1) z.2.2.2) else (F_X7_decides_186 N z.2.2.2))
def OA_X7_decides_116 (N : Nat) (x0 : Option Nat) (x1 : Option Nat) (x2 : Int32) (S : cS) (z : Nat × Option Nat × Option Nat × cS) : Prop := (if z.1 = 0 then O_X7_decides_171 N (z.2.1) (z.2.2.1) z.2.2.2 else O_X7_decides_186 N z.2.2.2)
set_option maxRecDepth 100000 in
set_option maxHeartbeats 4000000 in
theorem c_X7_decides_116 {G : zG} {o : cO} {S : cS} {N : Nat} {Q : Option Value → cS → Prop} {X : Int32 × cS → Prop} (hG : zOK G) (hR : ∀ v S', X (v, S') → Q (some (.int v)) S') {x0 : Option Nat} {x1 : Option Nat} {x2 : Int32} (ok : OL_X7_decides_116 N N x0 x1 x2 S ∧ OA_X7_decides_116 N x0 x1 x2 S (L_X7_decides_116 N N x0 x1 x2 S)) (hx : X (A_X7_decides_116 N x0 x1 x2 S (L_X7_decides_116 N N x0 x1 x2 S))) : cX G o dX7_decides mX7_decides 116 [some (va_rf x0), some (va_rf x1), some (.int x2), none] [] S Q := by
  refine l_X7_decides_116 hG ?_ ?_ N x0 x1 x2 S ok.1 (X := fun z => OA_X7_decides_116 N x0 x1 x2 S z ∧ X (A_X7_decides_116 N x0 x1 x2 S z)) ⟨ok.2, hx⟩
  · intro x0' x3' S' hz
    obtain ⟨ok, hx⟩ := hz
    unfold OA_X7_decides_116 at ok
    unfold A_X7_decides_116 at hx
    have ok := xif_P (show (0 : Nat) = 0 from rfl) ok
    have hx := xif_p (show (0 : Nat) = 0 from rfl) hx
    exact cX.cutz (b_X7_decides_171 hG hR ok hx) ⟨rfl, rfl, trivial⟩
  · intro x0' x3' S' hz
    obtain ⟨ok, hx⟩ := hz
    unfold OA_X7_decides_116 at ok
    unfold A_X7_decides_116 at hx
    have ok := xif_N (show ¬ (1 : Nat) = 0 by decide) ok
    have hx := xif_n (show ¬ (1 : Nat) = 0 by decide) hx
    exact cX.cutz (b_X7_decides_186 hG hR ok hx) trivial
def F_X7_decides_114 (N : Nat) (x0 : Option Nat) (x1 : Option Nat) (S : cS) : Int32 × cS := (A_X7_decides_116 N x0 x1 (nI 0) S (L_X7_decides_116 N N x0 x1 (nI 0) S))
def O_X7_decides_114 (N : Nat) (x0 : Option Nat) (x1 : Option Nat) (S : cS) : Prop := (OL_X7_decides_116 N N x0 x1 (nI 0) S ∧ OA_X7_decides_116 N x0 x1 (nI 0) S (L_X7_decides_116 N N x0 x1 (nI 0) S))
set_option maxRecDepth 100000 in
set_option maxHeartbeats 4000000 in
theorem b_X7_decides_114 {G : zG} {o : cO} {S : cS} {N : Nat} {Q : Option Value → cS → Prop} {X : Int32 × cS → Prop} (hG : zOK G) (hR : ∀ v S', X (v, S') → Q (some (.int v)) S') {x0 : Option Nat} {x1 : Option Nat} (ok : O_X7_decides_114 N x0 x1 S) (hx : X (F_X7_decides_114 N x0 x1 S)) : cX G o dX7_decides mX7_decides 114 [some (va_rf x0), some (va_rf x1), none, none] [] S Q := by
  unfold O_X7_decides_114 at ok
  unfold F_X7_decides_114 at hx
  refine c_iconst (v := nI 0) dX7_decides_114 (by decide) ?_
  refine c_istore_2 dX7_decides_115 (by decide) (by simp [zok, zg, zcat_rf]) ?_
  exact cX.cutz (c_X7_decides_116 hG hR ok hx) ⟨rfl, rfl, rfl, trivial⟩
def F_X7_decides_108 (N : Nat) (rec : Option Nat → Option Nat → Int32 → cS → Nat × Option Nat × Option Nat × Option Nat × cS) (x0 : Option Nat) (x1 : Option Nat) (x2 : Int32) (S : cS) : Nat × Option Nat × Option Nat × Option Nat × cS := (rec x0 x1 (x2 + nI 1) S)
def O_X7_decides_108 (N : Nat) (rok : Option Nat → Option Nat → Int32 → cS → Prop) (x0 : Option Nat) (x1 : Option Nat) (x2 : Int32) (S : cS) : Prop := rok x0 x1 (x2 + nI 1) S
set_option maxRecDepth 100000 in
set_option maxHeartbeats 4000000 in
theorem b_X7_decides_108 {G : zG} {o : cO} {S : cS} {N : Nat} {Q : Option Value → cS → Prop} {X : Nat × Option Nat × Option Nat × Option Nat × cS → Prop} (hG : zOK G) (hX0 : ∀ (x0 : Option Nat) (x1 : Option Nat) (x3 : Option Nat) (S' : cS), X (0, x0, x1, x3, S') → cX G o dX7_decides mX7_decides 100 [some (va_rf x0), none, none, some (va_rf x3)] [] S' Q) (hX1 : ∀ (x0 : Option Nat) (x1 : Option Nat) (x3 : Option Nat) (S' : cS), X (1, x0, x1, x3, S') → cX G o dX7_decides mX7_decides 114 [some (va_rf x0), some (va_rf x1), none, none] [] S' Q) {rec : Option Nat → Option Nat → Int32 → cS → Nat × Option Nat × Option Nat × Option Nat × cS} {rok : Option Nat → Option Nat → Int32 → cS → Prop} (hrec : ∀ (x0 : Option Nat) (x1 : Option Nat) (x2 : Int32) (S : cS), rok x0 x1 x2 S → X (rec x0 x1 x2 S) → cX G o dX7_decides mX7_decides 7 [some (va_rf x0), some (va_rf x1), some (.int x2), none] [] S Q) {x0 : Option Nat} {x1 : Option Nat} {x2 : Int32} (ok : O_X7_decides_108 N rok x0 x1 x2 S) (hx : X (F_X7_decides_108 N rec x0 x1 x2 S)) : cX G o dX7_decides mX7_decides 108 [some (va_rf x0), some (va_rf x1), some (.int x2), none] [] S Q := by
  unfold O_X7_decides_108 at ok
  unfold F_X7_decides_108 at hx
  refine c_iinc_2 (v := (x2 + nI 1)) dX7_decides_108 rfl (by first | rfl | (congr 1)) (by decide) (by simp [zok, zg, zcat_rf]) ?_
  refine c_goto (tgt := 7) dX7_decides_111 (by decide) ?_
  exact cX.cutz (hrec _ _ _ S ok hx) ⟨rfl, rfl, rfl, trivial⟩
def F_X7_decides_106 (N : Nat)  (S : cS) : Int32 × cS := ((nI 1), S)
def O_X7_decides_106 (N : Nat)  (S : cS) : Prop := True
set_option maxRecDepth 100000 in
set_option maxHeartbeats 4000000 in
theorem b_X7_decides_106 {G : zG} {o : cO} {S : cS} {N : Nat} {Q : Option Value → cS → Prop} {X : Int32 × cS → Prop} (hG : zOK G) (hR : ∀ v S', X (v, S') → Q (some (.int v)) S') (ok : O_X7_decides_106 N S) (hx : X (F_X7_decides_106 N S)) : cX G o dX7_decides mX7_decides 106 [none, none, none, none] [] S Q := by
  unfold O_X7_decides_106 at ok
  unfold F_X7_decides_106 at hx
  refine c_iconst (v := nI 1) dX7_decides_106 (by decide) ?_
  exact c_ireturn rfl rfl dX7_decides_107 (hR _ _ hx)
def F_X7_decides_100 (N : Nat) (x0 : Option Nat) (x3 : Option Nat) (S : cS) : Int32 × cS := (F_X7_decides_106 N (f_X7_adopt N S x0 x3 (nI 1)))
def O_X7_decides_100 (N : Nat) (x0 : Option Nat) (x3 : Option Nat) (S : cS) : Prop := (o_X7_adopt N S x0 x3 (nI 1)) ∧ O_X7_decides_106 N (f_X7_adopt N S x0 x3 (nI 1))
set_option maxRecDepth 100000 in
set_option maxHeartbeats 4000000 in
theorem b_X7_decides_100 {G : zG} {o : cO} {S : cS} {N : Nat} {Q : Option Value → cS → Prop} {X : Int32 × cS → Prop} (hG : zOK G) (hR : ∀ v S', X (v, S') → Q (some (.int v)) S') {x0 : Option Nat} {x3 : Option Nat} (ok : O_X7_decides_100 N x0 x3 S) (hx : X (F_X7_decides_100 N x0 x3 S)) : cX G o dX7_decides mX7_decides 100 [some (va_rf x0), none, none, some (va_rf x3)] [] S Q := by
  unfold O_X7_decides_100 at ok
  unfold F_X7_decides_100 at hx
  refine c_aload_nQ dX7_decides_100 rfl rfl ?_
  refine c_aload_nQ dX7_decides_101 rfl rfl ?_
  refine c_iconst (v := nI 1) dX7_decides_102 (by decide) ?_
  refine c_S3vE (y' := mX7_adopt) dX7_decides_103 lX7_165 kX7_adopt ⟨by decide, by decide⟩ (Nat.le_of_ble_eq_true rfl) (cc_X7_adopt hG ok.1) ?_
  have ok := ok.2
  exact cX.cutz (b_X7_decides_106 hG hR ok hx) trivial
def F_X7_decides_90 (N : Nat) (rec : Option Nat → Option Nat → Int32 → cS → Nat × Option Nat × Option Nat × Option Nat × cS) (x0 : Option Nat) (x1 : Option Nat) (x2 : Int32) (x3 : Option Nat) (S : cS) : Nat × Option Nat × Option Nat × Option Nat × cS := (if (cA S (za (cR S 7 (za x1))) x2.toNatClampNeg) = (nI 1) then (0, x0, none, x3, S) else (F_X7_decides_108 N rec x0 x1 x2 S))
def O_X7_decides_90 (N : Nat) (rok : Option Nat → Option Nat → Int32 → cS → Prop) (x0 : Option Nat) (x1 : Option Nat) (x2 : Int32) (x3 : Option Nat) (S : cS) : Prop := (cis S x1 7) ∧ (cis S (cR S 7 (za x1)) 21 ∧ vp_in x2 (cL S (za (cR S 7 (za x1))))) ∧ (((cA S (za (cR S 7 (za x1))) x2.toNatClampNeg) = (nI 1) → True) ∧ (¬ (cA S (za (cR S 7 (za x1))) x2.toNatClampNeg) = (nI 1) → O_X7_decides_108 N rok x0 x1 x2 S))
set_option maxRecDepth 100000 in
set_option maxHeartbeats 4000000 in
theorem b_X7_decides_90 {G : zG} {o : cO} {S : cS} {N : Nat} {Q : Option Value → cS → Prop} {X : Nat × Option Nat × Option Nat × Option Nat × cS → Prop} (hG : zOK G) (hX0 : ∀ (x0 : Option Nat) (x1 : Option Nat) (x3 : Option Nat) (S' : cS), X (0, x0, x1, x3, S') → cX G o dX7_decides mX7_decides 100 [some (va_rf x0), none, none, some (va_rf x3)] [] S' Q) (hX1 : ∀ (x0 : Option Nat) (x1 : Option Nat) (x3 : Option Nat) (S' : cS), X (1, x0, x1, x3, S') → cX G o dX7_decides mX7_decides 114 [some (va_rf x0), some (va_rf x1), none, none] [] S' Q) {rec : Option Nat → Option Nat → Int32 → cS → Nat × Option Nat × Option Nat × Option Nat × cS} {rok : Option Nat → Option Nat → Int32 → cS → Prop} (hrec : ∀ (x0 : Option Nat) (x1 : Option Nat) (x2 : Int32) (S : cS), rok x0 x1 x2 S → X (rec x0 x1 x2 S) → cX G o dX7_decides mX7_decides 7 [some (va_rf x0), some (va_rf x1), some (.int x2), none] [] S Q) {x0 : Option Nat} {x1 : Option Nat} {x2 : Int32} {x3 : Option Nat} (ok : O_X7_decides_90 N rok x0 x1 x2 x3 S) (hx : X (F_X7_decides_90 N rec x0 x1 x2 x3 S)) : cX G o dX7_decides mX7_decides 90 [some (va_rf x0), some (va_rf x1), some (.int x2), some (va_rf x3)] [] S Q := by
  unfold O_X7_decides_90 at ok
  unfold F_X7_decides_90 at hx
  refine c_aload_nQ dX7_decides_90 rfl rfl ?_
  refine c_getR (C := RX8) (T := TX8) (N := 14) (ci := 6) (k := 7) ⟨rfl, inT8, by decide, fX7_157⟩ (by decide) (by decide) (by decide) dX7_decides_91 ok.1 ?_
  have ok := ok.2
  refine c_iload_n dX7_decides_94 rfl rfl ?_
  refine c_iald dX7_decides_95 ok.1 ?_
  have ok := ok.2
  refine c_iconst (v := nI 1) dX7_decides_96 (by decide) ?_
  refine c_icmp_ne (tgt := 108) dX7_decides_97 (by decide) (fun c_97 => ?_) (fun c_97 => ?_)
  · have ok := ok.2 c_97
    have hx := xif_n c_97 hx
    exact cX.cutz (b_X7_decides_108 hG hX0 hX1 hrec ok hx) ⟨rfl, rfl, rfl, trivial⟩
  · have ok := ok.1 c_97
    have hx := xif_p c_97 hx
    exact cX.cutz (hX0 _ _ _ S hx) ⟨rfl, rfl, trivial⟩
def F_X7_decides_89 (N : Nat) (rec : Option Nat → Option Nat → Int32 → cS → Nat × Option Nat × Option Nat × Option Nat × cS) (x0 : Option Nat) (x1 : Option Nat) (x2 : Int32) (x3 : Option Nat) (s0 : Option Nat) (s1 : Int32) (s2 : Int32) (S : cS) : Nat × Option Nat × Option Nat × Option Nat × cS := (F_X7_decides_90 N rec x0 x1 x2 x3 (csA S (za s0) s1.toNatClampNeg s2))
def O_X7_decides_89 (N : Nat) (rok : Option Nat → Option Nat → Int32 → cS → Prop) (x0 : Option Nat) (x1 : Option Nat) (x2 : Int32) (x3 : Option Nat) (s0 : Option Nat) (s1 : Int32) (s2 : Int32) (S : cS) : Prop := (cis S s0 21 ∧ vp_in s1 (cL S (za s0))) ∧ O_X7_decides_90 N rok x0 x1 x2 x3 (csA S (za s0) s1.toNatClampNeg s2)
set_option maxRecDepth 100000 in
set_option maxHeartbeats 4000000 in
theorem b_X7_decides_89 {G : zG} {o : cO} {S : cS} {N : Nat} {Q : Option Value → cS → Prop} {X : Nat × Option Nat × Option Nat × Option Nat × cS → Prop} (hG : zOK G) (hX0 : ∀ (x0 : Option Nat) (x1 : Option Nat) (x3 : Option Nat) (S' : cS), X (0, x0, x1, x3, S') → cX G o dX7_decides mX7_decides 100 [some (va_rf x0), none, none, some (va_rf x3)] [] S' Q) (hX1 : ∀ (x0 : Option Nat) (x1 : Option Nat) (x3 : Option Nat) (S' : cS), X (1, x0, x1, x3, S') → cX G o dX7_decides mX7_decides 114 [some (va_rf x0), some (va_rf x1), none, none] [] S' Q) {rec : Option Nat → Option Nat → Int32 → cS → Nat × Option Nat × Option Nat × Option Nat × cS} {rok : Option Nat → Option Nat → Int32 → cS → Prop} (hrec : ∀ (x0 : Option Nat) (x1 : Option Nat) (x2 : Int32) (S : cS), rok x0 x1 x2 S → X (rec x0 x1 x2 S) → cX G o dX7_decides mX7_decides 7 [some (va_rf x0), some (va_rf x1), some (.int x2), none] [] S Q) {x0 : Option Nat} {x1 : Option Nat} {x2 : Int32} {x3 : Option Nat} {s0 : Option Nat} {s1 : Int32} {s2 : Int32} (ok : O_X7_decides_89 N rok x0 x1 x2 x3 s0 s1 s2 S) (hx : X (F_X7_decides_89 N rec x0 x1 x2 x3 s0 s1 s2 S)) : cX G o dX7_decides mX7_decides 89 [some (va_rf x0), some (va_rf x1), some (.int x2), some (va_rf x3)] [.int s2, .int s1, va_rf s0] S Q := by
  unfold O_X7_decides_89 at ok
  unfold F_X7_decides_89 at hx
  refine c_iast hG dX7_decides_89 ok.1 ?_
  have ok := ok.2
  exact cX.cutz (b_X7_decides_90 hG hX0 hX1 hrec ok hx) ⟨rfl, rfl, rfl, rfl, trivial⟩
def F_X7_decides_81 (N : Nat) (rec : Option Nat → Option Nat → Int32 → cS → Nat × Option Nat × Option Nat × Option Nat × cS) (x0 : Option Nat) (x1 : Option Nat) (x2 : Int32) (x3 : Option Nat) (s0 : Option Nat) (s1 : Int32) (s2 : Int32) (S : cS) : Nat × Option Nat × Option Nat × Option Nat × cS := (if s2 = 0 then (F_X7_decides_89 N rec x0 x1 x2 x3 s0 s1 (nI 2) S) else (F_X7_decides_89 N rec x0 x1 x2 x3 s0 s1 (nI 1) S))
def O_X7_decides_81 (N : Nat) (rok : Option Nat → Option Nat → Int32 → cS → Prop) (x0 : Option Nat) (x1 : Option Nat) (x2 : Int32) (x3 : Option Nat) (s0 : Option Nat) (s1 : Int32) (s2 : Int32) (S : cS) : Prop := ((s2 = 0 → O_X7_decides_89 N rok x0 x1 x2 x3 s0 s1 (nI 2) S) ∧ (¬ s2 = 0 → O_X7_decides_89 N rok x0 x1 x2 x3 s0 s1 (nI 1) S))
set_option maxRecDepth 100000 in
set_option maxHeartbeats 4000000 in
theorem b_X7_decides_81 {G : zG} {o : cO} {S : cS} {N : Nat} {Q : Option Value → cS → Prop} {X : Nat × Option Nat × Option Nat × Option Nat × cS → Prop} (hG : zOK G) (hX0 : ∀ (x0 : Option Nat) (x1 : Option Nat) (x3 : Option Nat) (S' : cS), X (0, x0, x1, x3, S') → cX G o dX7_decides mX7_decides 100 [some (va_rf x0), none, none, some (va_rf x3)] [] S' Q) (hX1 : ∀ (x0 : Option Nat) (x1 : Option Nat) (x3 : Option Nat) (S' : cS), X (1, x0, x1, x3, S') → cX G o dX7_decides mX7_decides 114 [some (va_rf x0), some (va_rf x1), none, none] [] S' Q) {rec : Option Nat → Option Nat → Int32 → cS → Nat × Option Nat × Option Nat × Option Nat × cS} {rok : Option Nat → Option Nat → Int32 → cS → Prop} (hrec : ∀ (x0 : Option Nat) (x1 : Option Nat) (x2 : Int32) (S : cS), rok x0 x1 x2 S → X (rec x0 x1 x2 S) → cX G o dX7_decides mX7_decides 7 [some (va_rf x0), some (va_rf x1), some (.int x2), none] [] S Q) {x0 : Option Nat} {x1 : Option Nat} {x2 : Int32} {x3 : Option Nat} {s0 : Option Nat} {s1 : Int32} {s2 : Int32} (ok : O_X7_decides_81 N rok x0 x1 x2 x3 s0 s1 s2 S) (hx : X (F_X7_decides_81 N rec x0 x1 x2 x3 s0 s1 s2 S)) : cX G o dX7_decides mX7_decides 81 [some (va_rf x0), some (va_rf x1), some (.int x2), some (va_rf x3)] [.int s2, .int s1, va_rf s0] S Q := by
  unfold O_X7_decides_81 at ok
  unfold F_X7_decides_81 at hx
  refine c_if_eq (tgt := 88) dX7_decides_81 (by decide) (fun c_81 => ?_) (fun c_81 => ?_)
  · have ok := ok.1 c_81
    have hx := xif_p c_81 hx
    refine c_iconst (v := nI 2) dX7_decides_88 (by decide) ?_
    exact cX.cutz (b_X7_decides_89 hG hX0 hX1 hrec ok hx) ⟨rfl, rfl, rfl, rfl, trivial⟩
  · have ok := ok.2 c_81
    have hx := xif_n c_81 hx
    refine c_iconst (v := nI 1) dX7_decides_84 (by decide) ?_
    refine c_goto (tgt := 89) dX7_decides_85 (by decide) ?_
    exact cX.cutz (b_X7_decides_89 hG hX0 hX1 hrec ok hx) ⟨rfl, rfl, rfl, rfl, trivial⟩
def B_X7_decides_7 (N : Nat) (rec : Option Nat → Option Nat → Int32 → cS → Nat × Option Nat × Option Nat × Option Nat × cS) (x0 : Option Nat) (x1 : Option Nat) (x2 : Int32) (S : cS) : Nat × Option Nat × Option Nat × Option Nat × cS := (if (cI S 1 (za (cR S 0 (za x0)))) ≤ x2 then (1, x0, x1, none, S) else (if (cI S 11 (za x1)) ≤ (cI S 0 (za (cR S 0 (za x0)))) then (1, x0, x1, none, S) else (if (cP S (za (cR S 6 (za x1))) x2.toNatClampNeg) = none then (F_X7_decides_108 N rec x0 x1 x2 S) else (if (cI S 0 (za (cR S 0 (za x0)))) < (f_X8_decisionsFor N S (za x1) (cP S (za (cR S 6 (za x1))) x2.toNatClampNeg)) then (if (cA S (za (cR S 7 (za x1))) x2.toNatClampNeg) = 0 then (F_X7_decides_81 N rec x0 x1 x2 (cP S (za (cR S 6 (za x1))) x2.toNatClampNeg) (cR S 7 (za x1)) x2 ((f_X7_isValid N S x0 (cP S (za (cR S 6 (za x1))) x2.toNatClampNeg) (nI 1)).1) (f_X7_isValid N S x0 (cP S (za (cR S 6 (za x1))) x2.toNatClampNeg) (nI 1)).2) else (F_X7_decides_90 N rec x0 x1 x2 (cP S (za (cR S 6 (za x1))) x2.toNatClampNeg) S)) else (F_X7_decides_108 N rec x0 x1 x2 S)))))
def OB_X7_decides_7 (N : Nat) (rok : Option Nat → Option Nat → Int32 → cS → Prop) (x0 : Option Nat) (x1 : Option Nat) (x2 : Int32) (S : cS) : Prop := (cis S x0 6) ∧ (cis S (cR S 0 (za x0)) 9) ∧ (((cI S 1 (za (cR S 0 (za x0)))) ≤ x2 → True) ∧ (¬ (cI S 1 (za (cR S 0 (za x0)))) ≤ x2 → (cis S x1 7) ∧ (cis S x0 6) ∧ (cis S (cR S 0 (za x0)) 9) ∧ (((cI S 11 (za x1)) ≤ (cI S 0 (za (cR S 0 (za x0)))) → True) ∧ (¬ (cI S 11 (za x1)) ≤ (cI S 0 (za (cR S 0 (za x0)))) → (cis S x1 7) ∧ (cis S (cR S 6 (za x1)) 24 ∧ vp_in x2 (cL S (za (cR S 6 (za x1))))) ∧ (((cP S (za (cR S 6 (za x1))) x2.toNatClampNeg) = none → O_X7_decides_108 N rok x0 x1 x2 S) ∧ (¬ (cP S (za (cR S 6 (za x1))) x2.toNatClampNeg) = none → (cis S x1 7 ∧ o_X8_decisionsFor N S (za x1) (cP S (za (cR S 6 (za x1))) x2.toNatClampNeg)) ∧ (cis S x0 6) ∧ (cis S (cR S 0 (za x0)) 9) ∧ (((cI S 0 (za (cR S 0 (za x0)))) < (f_X8_decisionsFor N S (za x1) (cP S (za (cR S 6 (za x1))) x2.toNatClampNeg)) → (cis S x1 7) ∧ (cis S (cR S 7 (za x1)) 21 ∧ vp_in x2 (cL S (za (cR S 7 (za x1))))) ∧ (((cA S (za (cR S 7 (za x1))) x2.toNatClampNeg) = 0 → (cis S x1 7) ∧ (o_X7_isValid N S x0 (cP S (za (cR S 6 (za x1))) x2.toNatClampNeg) (nI 1)) ∧ O_X7_decides_81 N rok x0 x1 x2 (cP S (za (cR S 6 (za x1))) x2.toNatClampNeg) (cR S 7 (za x1)) x2 ((f_X7_isValid N S x0 (cP S (za (cR S 6 (za x1))) x2.toNatClampNeg) (nI 1)).1) (f_X7_isValid N S x0 (cP S (za (cR S 6 (za x1))) x2.toNatClampNeg) (nI 1)).2) ∧ (¬ (cA S (za (cR S 7 (za x1))) x2.toNatClampNeg) = 0 → O_X7_decides_90 N rok x0 x1 x2 (cP S (za (cR S 6 (za x1))) x2.toNatClampNeg) S))) ∧ (¬ (cI S 0 (za (cR S 0 (za x0)))) < (f_X8_decisionsFor N S (za x1) (cP S (za (cR S 6 (za x1))) x2.toNatClampNeg)) → O_X7_decides_108 N rok x0 x1 x2 S))))))))
set_option maxRecDepth 100000 in
set_option maxHeartbeats 4000000 in
theorem bb_X7_decides_7 {G : zG} {o : cO} {S : cS} {N : Nat} {Q : Option Value → cS → Prop} {X : Nat × Option Nat × Option Nat × Option Nat × cS → Prop} (hG : zOK G) (hX0 : ∀ (x0 : Option Nat) (x1 : Option Nat) (x3 : Option Nat) (S' : cS), X (0, x0, x1, x3, S') → cX G o dX7_decides mX7_decides 100 [some (va_rf x0), none, none, some (va_rf x3)] [] S' Q) (hX1 : ∀ (x0 : Option Nat) (x1 : Option Nat) (x3 : Option Nat) (S' : cS), X (1, x0, x1, x3, S') → cX G o dX7_decides mX7_decides 114 [some (va_rf x0), some (va_rf x1), none, none] [] S' Q) {rec : Option Nat → Option Nat → Int32 → cS → Nat × Option Nat × Option Nat × Option Nat × cS} {rok : Option Nat → Option Nat → Int32 → cS → Prop} (hrec : ∀ (x0 : Option Nat) (x1 : Option Nat) (x2 : Int32) (S : cS), rok x0 x1 x2 S → X (rec x0 x1 x2 S) → cX G o dX7_decides mX7_decides 7 [some (va_rf x0), some (va_rf x1), some (.int x2), none] [] S Q) {x0 : Option Nat} {x1 : Option Nat} {x2 : Int32} (ok : OB_X7_decides_7 N rok x0 x1 x2 S) (hx : X (B_X7_decides_7 N rec x0 x1 x2 S)) : cX G o dX7_decides mX7_decides 7 [some (va_rf x0), some (va_rf x1), some (.int x2), none] [] S Q := by
  unfold OB_X7_decides_7 at ok
  unfold B_X7_decides_7 at hx
  refine c_iload_n dX7_decides_7 rfl rfl ?_
  refine c_aload_nQ dX7_decides_8 rfl rfl ?_
  refine c_getR (C := RX6) (T := TX6) (N := 19) (ci := 5) (k := 0) ⟨rfl, inT6, by decide, fX7_26⟩ (by decide) (by decide) (by decide) dX7_decides_9 ok.1 ?_
  have ok := ok.2
  refine c_getI (C := RX10) (T := TX10) (N := 12) (ci := 8) (k := 1) ⟨rfl, inT10, by decide, fX7_84⟩ (by decide) (by decide) (by decide) dX7_decides_12 ok.1 ?_
  have ok := ok.2
  refine c_icmp_ge (tgt := 114) dX7_decides_15 (by decide) (fun c_15 => ?_) (fun c_15 => ?_)
  · have ok := ok.1 c_15
    have hx := xif_p c_15 hx
    exact cX.cutz (hX1 _ _ _ S hx) ⟨rfl, rfl, trivial⟩
  · have ok := ok.2 c_15
    have hx := xif_n c_15 hx
    refine c_aload_nQ dX7_decides_18 rfl rfl ?_
    refine c_getI (C := RX8) (T := TX8) (N := 14) (ci := 6) (k := 11) ⟨rfl, inT8, by decide, fX7_148⟩ (by decide) (by decide) (by decide) dX7_decides_19 ok.1 ?_
    have ok := ok.2
    refine c_aload_nQ dX7_decides_22 rfl rfl ?_
    refine c_getR (C := RX6) (T := TX6) (N := 19) (ci := 5) (k := 0) ⟨rfl, inT6, by decide, fX7_26⟩ (by decide) (by decide) (by decide) dX7_decides_23 ok.1 ?_
    have ok := ok.2
    refine c_getI (C := RX10) (T := TX10) (N := 12) (ci := 8) (k := 0) ⟨rfl, inT10, by decide, fX7_103⟩ (by decide) (by decide) (by decide) dX7_decides_26 ok.1 ?_
    have ok := ok.2
    refine c_icmp_le (tgt := 114) dX7_decides_29 (by decide) (fun c_29 => ?_) (fun c_29 => ?_)
    · have ok := ok.1 c_29
      have hx := xif_p c_29 hx
      exact cX.cutz (hX1 _ _ _ S hx) ⟨rfl, rfl, trivial⟩
    · have ok := ok.2 c_29
      have hx := xif_n c_29 hx
      refine c_aload_nQ dX7_decides_32 rfl rfl ?_
      refine c_getR (C := RX8) (T := TX8) (N := 14) (ci := 6) (k := 6) ⟨rfl, inT8, by decide, fX7_151⟩ (by decide) (by decide) (by decide) dX7_decides_33 ok.1 ?_
      have ok := ok.2
      refine c_iload_n dX7_decides_36 rfl rfl ?_
      refine c_aald (t := 4) (ty := (.object "QuorumLedger$Message")) rfl rfl (by decide) dX7_decides_37 ok.1 ?_
      have ok := ok.2
      refine c_astore_3Q dX7_decides_38 (by decide) rfl ?_
      refine c_aload_nQ dX7_decides_39 rfl rfl ?_
      refine c_ifnullI (tgt := 108) dX7_decides_40 (by decide) (fun c_40 => ?_) (fun c_40 => ?_)
      · have ok := ok.1 c_40
        have hx := xif_p c_40 hx
        exact cX.cutz (b_X7_decides_108 hG hX0 hX1 hrec ok hx) ⟨rfl, rfl, rfl, trivial⟩
      · have ok := ok.2 c_40
        have hx := xif_n c_40 hx
        refine c_aload_nQ dX7_decides_43 rfl rfl ?_
        refine c_aload_nQ dX7_decides_44 rfl rfl ?_
        refine c_V1iE (ci := 6) (rr := (RX8, TX8, 14)) (y' := mX8_decisionsFor) dX7_decides_45 lX7_154 kX8_decisionsFor ⟨by decide, by decide⟩ rfl rfl (by decide) ok.1.1 (Nat.le_of_ble_eq_true rfl) (cc_X8_decisionsFor hG ok.1.2) ?_
        have ok := ok.2
        refine c_aload_nQ dX7_decides_48 rfl rfl ?_
        refine c_getR (C := RX6) (T := TX6) (N := 19) (ci := 5) (k := 0) ⟨rfl, inT6, by decide, fX7_26⟩ (by decide) (by decide) (by decide) dX7_decides_49 ok.1 ?_
        have ok := ok.2
        refine c_getI (C := RX10) (T := TX10) (N := 12) (ci := 8) (k := 0) ⟨rfl, inT10, by decide, fX7_103⟩ (by decide) (by decide) (by decide) dX7_decides_52 ok.1 ?_
        have ok := ok.2
        refine c_icmp_gt (tgt := 61) dX7_decides_55 (by decide) (fun c_55 => ?_) (fun c_55 => ?_)
        · have ok := ok.1 c_55
          have hx := xif_p c_55 hx
          refine c_aload_nQ dX7_decides_61 rfl rfl ?_
          refine c_getR (C := RX8) (T := TX8) (N := 14) (ci := 6) (k := 7) ⟨rfl, inT8, by decide, fX7_157⟩ (by decide) (by decide) (by decide) dX7_decides_62 ok.1 ?_
          have ok := ok.2
          refine c_iload_n dX7_decides_65 rfl rfl ?_
          refine c_iald dX7_decides_66 ok.1 ?_
          have ok := ok.2
          refine c_if_ne (tgt := 90) dX7_decides_67 (by decide) (fun c_67 => ?_) (fun c_67 => ?_)
          · have ok := ok.2 c_67
            have hx := xif_n c_67 hx
            exact cX.cutz (b_X7_decides_90 hG hX0 hX1 hrec ok hx) ⟨rfl, rfl, rfl, rfl, trivial⟩
          · have ok := ok.1 c_67
            have hx := xif_p c_67 hx
            refine c_aload_nQ dX7_decides_70 rfl rfl ?_
            refine c_getR (C := RX8) (T := TX8) (N := 14) (ci := 6) (k := 7) ⟨rfl, inT8, by decide, fX7_157⟩ (by decide) (by decide) (by decide) dX7_decides_71 ok.1 ?_
            have ok := ok.2
            refine c_iload_n dX7_decides_74 rfl rfl ?_
            refine c_aload_nQ dX7_decides_75 rfl rfl ?_
            refine c_aload_nQ dX7_decides_76 rfl rfl ?_
            refine c_iconst (v := nI 1) dX7_decides_77 (by decide) ?_
            refine c_S3iE (y' := mX7_isValid) dX7_decides_78 lX7_161 kX7_isValid ⟨by decide, by decide⟩ (by simp only [List.map_cons, List.map_nil, List.sum_cons, List.sum_nil, zcat_rf, zcat_i, zcat_l, zcat_r] <;> decide) (cc_X7_isValid hG ok.1) ?_
            have ok := ok.2
            exact cX.cutz (b_X7_decides_81 hG hX0 hX1 hrec ok hx) ⟨rfl, rfl, rfl, rfl, trivial⟩
        · have ok := ok.2 c_55
          have hx := xif_n c_55 hx
          refine c_goto (tgt := 108) dX7_decides_58 (by decide) ?_
          exact cX.cutz (b_X7_decides_108 hG hX0 hX1 hrec ok hx) ⟨rfl, rfl, rfl, trivial⟩
def L_X7_decides_7 (N : Nat) : Nat → Option Nat → Option Nat → Int32 → cS → Nat × Option Nat × Option Nat × Option Nat × cS
  | 0, x0, x1, x2, S => (0, none, none, none, S)
  | n + 1, x0, x1, x2, S => B_X7_decides_7 N (L_X7_decides_7 N n) x0 x1 x2 S
def OL_X7_decides_7 (N : Nat) : Nat → Option Nat → Option Nat → Int32 → cS → Prop
  | 0, _, _, _, _ => False
  | n + 1, x0, x1, x2, S => OB_X7_decides_7 N (OL_X7_decides_7 N n) x0 x1 x2 S
set_option maxRecDepth 100000 in
set_option maxHeartbeats 4000000 in
theorem l_X7_decides_7 {G : zG} {o : cO} {N : Nat} {Q : Option Value → cS → Prop} {X : Nat × Option Nat × Option Nat × Option Nat × cS → Prop} (hG : zOK G) (hX0 : ∀ (x0 : Option Nat) (x1 : Option Nat) (x3 : Option Nat) (S' : cS), X (0, x0, x1, x3, S') → cX G o dX7_decides mX7_decides 100 [some (va_rf x0), none, none, some (va_rf x3)] [] S' Q) (hX1 : ∀ (x0 : Option Nat) (x1 : Option Nat) (x3 : Option Nat) (S' : cS), X (1, x0, x1, x3, S') → cX G o dX7_decides mX7_decides 114 [some (va_rf x0), some (va_rf x1), none, none] [] S' Q) : ∀ (n : Nat) (x0 : Option Nat) (x1 : Option Nat) (x2 : Int32) (S : cS), OL_X7_decides_7 N n x0 x1 x2 S → X (L_X7_decides_7 N n x0 x1 x2 S) → cX G o dX7_decides mX7_decides 7 [some (va_rf x0), some (va_rf x1), some (.int x2), none] [] S Q := by
  intro n
  induction n with
  | zero => intro x0 x1 x2 S ok; exact absurd ok id
  | succ n ih =>
    intro x0 x1 x2 S ok hx
    exact bb_X7_decides_7 hG hX0 hX1 (rec := L_X7_decides_7 N n) (rok := OL_X7_decides_7 N n) (fun x0 x1 x2 S ok hx => ih x0 x1 x2 S ok hx) ok hx
def A_X7_decides_7 (N : Nat) (x0 : Option Nat) (x1 : Option Nat) (x2 : Int32) (S : cS) (z : Nat × Option Nat × Option Nat × Option Nat × cS) : Int32 × cS := (if z.1 = 0 then (F_X7_decides_100 N (z.2.1) (z.2.2.2.1) z.2.2.2.2) else (F_X7_decides_114 N (z.2.1) (z.2.2.1) z.2.2.2.2))
def OA_X7_decides_7 (N : Nat) (x0 : Option Nat) (x1 : Option Nat) (x2 : Int32) (S : cS) (z : Nat × Option Nat × Option Nat × Option Nat × cS) : Prop := (if z.1 = 0 then O_X7_decides_100 N (z.2.1) (z.2.2.2.1) z.2.2.2.2 else O_X7_decides_114 N (z.2.1) (z.2.2.1) z.2.2.2.2)
set_option maxRecDepth 100000 in
set_option maxHeartbeats 4000000 in
theorem c_X7_decides_7 {G : zG} {o : cO} {S : cS} {N : Nat} {Q : Option Value → cS → Prop} {X : Int32 × cS → Prop} (hG : zOK G) (hR : ∀ v S', X (v, S') → Q (some (.int v)) S') {x0 : Option Nat} {x1 : Option Nat} {x2 : Int32} (ok : OL_X7_decides_7 N N x0 x1 x2 S ∧ OA_X7_decides_7 N x0 x1 x2 S (L_X7_decides_7 N N x0 x1 x2 S)) (hx : X (A_X7_decides_7 N x0 x1 x2 S (L_X7_decides_7 N N x0 x1 x2 S))) : cX G o dX7_decides mX7_decides 7 [some (va_rf x0), some (va_rf x1), some (.int x2), none] [] S Q := by
  refine l_X7_decides_7 hG ?_ ?_ N x0 x1 x2 S ok.1 (X := fun z => OA_X7_decides_7 N x0 x1 x2 S z ∧ X (A_X7_decides_7 N x0 x1 x2 S z)) ⟨ok.2, hx⟩
  · intro x0' x1' x3' S' hz
    obtain ⟨ok, hx⟩ := hz
    unfold OA_X7_decides_7 at ok
    unfold A_X7_decides_7 at hx
    have ok := xif_P (show (0 : Nat) = 0 from rfl) ok
    have hx := xif_p (show (0 : Nat) = 0 from rfl) hx
    exact cX.cutz (b_X7_decides_100 hG hR ok hx) ⟨rfl, rfl, trivial⟩
  · intro x0' x1' x3' S' hz
    obtain ⟨ok, hx⟩ := hz
    unfold OA_X7_decides_7 at ok
    unfold A_X7_decides_7 at hx
    have ok := xif_N (show ¬ (1 : Nat) = 0 by decide) ok
    have hx := xif_n (show ¬ (1 : Nat) = 0 by decide) hx
    exact cX.cutz (b_X7_decides_114 hG hR ok hx) ⟨rfl, rfl, trivial⟩
def F_X7_decides_0 (N : Nat) (x0 : Option Nat) (S : cS) : Int32 × cS := (A_X7_decides_7 N x0 (cR S 3 (za x0)) (nI 0) S (L_X7_decides_7 N N x0 (cR S 3 (za x0)) (nI 0) S))
def O_X7_decides_0 (N : Nat) (x0 : Option Nat) (S : cS) : Prop := (cis S x0 6) ∧ (OL_X7_decides_7 N N x0 (cR S 3 (za x0)) (nI 0) S ∧ OA_X7_decides_7 N x0 (cR S 3 (za x0)) (nI 0) S (L_X7_decides_7 N N x0 (cR S 3 (za x0)) (nI 0) S))
set_option maxRecDepth 100000 in
set_option maxHeartbeats 4000000 in
theorem b_X7_decides_0 {G : zG} {o : cO} {S : cS} {N : Nat} {Q : Option Value → cS → Prop} {X : Int32 × cS → Prop} (hG : zOK G) (hR : ∀ v S', X (v, S') → Q (some (.int v)) S') {x0 : Option Nat} (ok : O_X7_decides_0 N x0 S) (hx : X (F_X7_decides_0 N x0 S)) : cX G o dX7_decides mX7_decides 0 [some (va_rf x0), none, none, none] [] S Q := by
  unfold O_X7_decides_0 at ok
  unfold F_X7_decides_0 at hx
  refine c_aload_nQ dX7_decides_0 rfl rfl ?_
  refine c_getR (C := RX6) (T := TX6) (N := 19) (ci := 5) (k := 3) ⟨rfl, inT6, by decide, fX7_80⟩ (by decide) (by decide) (by decide) dX7_decides_1 ok.1 ?_
  have ok := ok.2
  refine c_astore_1Q dX7_decides_4 (by decide) (by simp [zok, zg, zcat_rf]) ?_
  refine c_iconst (v := nI 0) dX7_decides_5 (by decide) ?_
  refine c_istore_2 dX7_decides_6 (by decide) (by simp [zok, zg, zcat_rf]) ?_
  exact cX.cutz (c_X7_decides_7 hG hR ok hx) ⟨rfl, rfl, rfl, trivial⟩
def f_X7_decides (N : Nat) (S : cS) (x0 : Option Nat) : Int32 × cS := F_X7_decides_0 N x0 S
def o_X7_decides (N : Nat) (S : cS) (x0 : Option Nat) : Prop := O_X7_decides_0 N x0 S
set_option maxRecDepth 100000 in
set_option maxHeartbeats 4000000 in
theorem cc_X7_decides {G : zG} {o : cO} {S : cS} {N : Nat} (hG : zOK G) {x0 : Option Nat} (ok : o_X7_decides N S x0) : cCi G o dX7_decides mX7_decides [va_rf x0] S (fun v S' => v = (f_X7_decides N S x0).1 ∧ S' = (f_X7_decides N S x0).2) := by
  refine cC.ofX rfl (by cases x0 <;> exact Nat.le_of_ble_eq_true rfl) ?_
  rw [show zargs mX7_decides.2.2.1 [va_rf x0] = [some (va_rf x0), none, none, none] from by cases x0 <;> rfl]
  exact cX.cutz (b_X7_decides_0 (X := fun F => F = f_X7_decides N S x0) hG (fun v S' h => ⟨v, rfl, by rw [← h], by rw [← h]⟩) ok rfl) ⟨rfl, trivial⟩
/-! X8_signers -/
def F_X8_signers_110 (N : Nat) (x7 : Int32) (S : cS) : Int32 := x7
def O_X8_signers_110 (N : Nat) (x7 : Int32) (S : cS) : Prop := True
set_option maxRecDepth 100000 in
set_option maxHeartbeats 4000000 in
theorem b_X8_signers_110 {G : zG} {o : cO} {S : cS} {N : Nat} {Q : Option Value → cS → Prop} {X : Int32 → Prop} (hG : zOK G) (hR : ∀ v, X v → Q (some (.int v)) S) {x7 : Int32} (ok : O_X8_signers_110 N x7 S) (hx : X (F_X8_signers_110 N x7 S)) : cX G o dX8_signers mX8_signers 110 [none, none, none, none, none, none, none, some (.int x7), none] [] S Q := by
  unfold O_X8_signers_110 at ok
  unfold F_X8_signers_110 at hx
  refine c_iload dX8_signers_110 rfl ?_
  exact c_ireturn rfl rfl dX8_signers_112 (hR _ hx)
def F_X8_signers_104 (N : Nat) (rec : Option Nat → Int32 → Int32 → Int32 → Int32 → Int32 → Nat × Int32 × Unit) (x0 : Option Nat) (x4 : Int32) (x5 : Int32) (x6 : Int32) (x7 : Int32) (x8 : Int32) (S : cS) : Nat × Int32 × Unit := (rec x0 x4 x5 x6 x7 (x8 + nI 1))
def O_X8_signers_104 (N : Nat) (rok : Option Nat → Int32 → Int32 → Int32 → Int32 → Int32 → Prop) (x0 : Option Nat) (x4 : Int32) (x5 : Int32) (x6 : Int32) (x7 : Int32) (x8 : Int32) (S : cS) : Prop := rok x0 x4 x5 x6 x7 (x8 + nI 1)
set_option maxRecDepth 100000 in
set_option maxHeartbeats 4000000 in
theorem b_X8_signers_104 {G : zG} {o : cO} {S : cS} {N : Nat} {Q : Option Value → cS → Prop} {X : Nat × Int32 × Unit → Prop} (hG : zOK G) (hX0 : ∀ (x7 : Int32) , X (0, x7, ()) → cX G o dX8_signers mX8_signers 110 [none, none, none, none, none, none, none, some (.int x7), none] [] S Q) {rec : Option Nat → Int32 → Int32 → Int32 → Int32 → Int32 → Nat × Int32 × Unit} {rok : Option Nat → Int32 → Int32 → Int32 → Int32 → Int32 → Prop} (hrec : ∀ (x0 : Option Nat) (x4 : Int32) (x5 : Int32) (x6 : Int32) (x7 : Int32) (x8 : Int32), rok x0 x4 x5 x6 x7 x8 → X (rec x0 x4 x5 x6 x7 x8) → cX G o dX8_signers mX8_signers 59 [some (va_rf x0), none, none, none, some (.int x4), some (.int x5), some (.int x6), some (.int x7), some (.int x8)] [] S Q) {x0 : Option Nat} {x4 : Int32} {x5 : Int32} {x6 : Int32} {x7 : Int32} {x8 : Int32} (ok : O_X8_signers_104 N rok x0 x4 x5 x6 x7 x8 S) (hx : X (F_X8_signers_104 N rec x0 x4 x5 x6 x7 x8 S)) : cX G o dX8_signers mX8_signers 104 [some (va_rf x0), none, none, none, some (.int x4), some (.int x5), some (.int x6), some (.int x7), some (.int x8)] [] S Q := by
  unfold O_X8_signers_104 at ok
  unfold F_X8_signers_104 at hx
  refine c_iinc_8 (v := (x8 + nI 1)) dX8_signers_104 rfl (by first | rfl | (congr 1)) (by decide) rfl ?_
  refine c_goto (tgt := 59) dX8_signers_107 (by decide) ?_
  exact cX.cutz (hrec _ _ _ _ _ _ ok hx) ⟨rfl, rfl, rfl, rfl, rfl, rfl, trivial⟩
def F_X8_signers_101 (N : Nat) (rec : Option Nat → Int32 → Int32 → Int32 → Int32 → Int32 → Nat × Int32 × Unit) (x0 : Option Nat) (x4 : Int32) (x5 : Int32) (x6 : Int32) (x7 : Int32) (x8 : Int32) (S : cS) : Nat × Int32 × Unit := (F_X8_signers_104 N rec x0 x4 x5 x6 (x7 + nI 1) x8 S)
def O_X8_signers_101 (N : Nat) (rok : Option Nat → Int32 → Int32 → Int32 → Int32 → Int32 → Prop) (x0 : Option Nat) (x4 : Int32) (x5 : Int32) (x6 : Int32) (x7 : Int32) (x8 : Int32) (S : cS) : Prop := O_X8_signers_104 N rok x0 x4 x5 x6 (x7 + nI 1) x8 S
set_option maxRecDepth 100000 in
set_option maxHeartbeats 4000000 in
theorem b_X8_signers_101 {G : zG} {o : cO} {S : cS} {N : Nat} {Q : Option Value → cS → Prop} {X : Nat × Int32 × Unit → Prop} (hG : zOK G) (hX0 : ∀ (x7 : Int32) , X (0, x7, ()) → cX G o dX8_signers mX8_signers 110 [none, none, none, none, none, none, none, some (.int x7), none] [] S Q) {rec : Option Nat → Int32 → Int32 → Int32 → Int32 → Int32 → Nat × Int32 × Unit} {rok : Option Nat → Int32 → Int32 → Int32 → Int32 → Int32 → Prop} (hrec : ∀ (x0 : Option Nat) (x4 : Int32) (x5 : Int32) (x6 : Int32) (x7 : Int32) (x8 : Int32), rok x0 x4 x5 x6 x7 x8 → X (rec x0 x4 x5 x6 x7 x8) → cX G o dX8_signers mX8_signers 59 [some (va_rf x0), none, none, none, some (.int x4), some (.int x5), some (.int x6), some (.int x7), some (.int x8)] [] S Q) {x0 : Option Nat} {x4 : Int32} {x5 : Int32} {x6 : Int32} {x7 : Int32} {x8 : Int32} (ok : O_X8_signers_101 N rok x0 x4 x5 x6 x7 x8 S) (hx : X (F_X8_signers_101 N rec x0 x4 x5 x6 x7 x8 S)) : cX G o dX8_signers mX8_signers 101 [some (va_rf x0), none, none, none, some (.int x4), some (.int x5), some (.int x6), some (.int x7), some (.int x8)] [] S Q := by
  unfold O_X8_signers_101 at ok
  unfold F_X8_signers_101 at hx
  refine c_iinc_7 (v := (x7 + nI 1)) dX8_signers_101 rfl (by first | rfl | (congr 1)) (by decide) rfl ?_
  exact cX.cutz (b_X8_signers_104 hG hX0 hrec ok hx) ⟨rfl, rfl, rfl, rfl, rfl, rfl, trivial⟩
def B_X8_signers_59 (N : Nat) (rec : Option Nat → Int32 → Int32 → Int32 → Int32 → Int32 → Nat × Int32 × Unit) (x0 : Option Nat) (x4 : Int32) (x5 : Int32) (x6 : Int32) (x7 : Int32) (x8 : Int32) (S : cS) : Nat × Int32 × Unit := (if (cI S 1 (za x0)) ≤ x8 then (0, x7, ()) else (if (cP S (za (cR S 4 (za x0))) (x4 + x8).toNatClampNeg) = none then (if (cP S (za (cR S 4 (za x0))) (x5 + x8).toNatClampNeg) = none then (if x8 = x6 then (F_X8_signers_101 N rec x0 x4 x5 x6 x7 x8 S) else (F_X8_signers_104 N rec x0 x4 x5 x6 x7 x8 S)) else (F_X8_signers_101 N rec x0 x4 x5 x6 x7 x8 S)) else (F_X8_signers_101 N rec x0 x4 x5 x6 x7 x8 S)))
def OB_X8_signers_59 (N : Nat) (rok : Option Nat → Int32 → Int32 → Int32 → Int32 → Int32 → Prop) (x0 : Option Nat) (x4 : Int32) (x5 : Int32) (x6 : Int32) (x7 : Int32) (x8 : Int32) (S : cS) : Prop := (cis S x0 7) ∧ (((cI S 1 (za x0)) ≤ x8 → True) ∧ (¬ (cI S 1 (za x0)) ≤ x8 → (cis S x0 7) ∧ (cis S (cR S 4 (za x0)) 24 ∧ vp_in (x4 + x8) (cL S (za (cR S 4 (za x0))))) ∧ (((cP S (za (cR S 4 (za x0))) (x4 + x8).toNatClampNeg) = none → (cis S x0 7) ∧ (cis S (cR S 4 (za x0)) 24 ∧ vp_in (x5 + x8) (cL S (za (cR S 4 (za x0))))) ∧ (((cP S (za (cR S 4 (za x0))) (x5 + x8).toNatClampNeg) = none → ((x8 = x6 → O_X8_signers_101 N rok x0 x4 x5 x6 x7 x8 S) ∧ (¬ x8 = x6 → O_X8_signers_104 N rok x0 x4 x5 x6 x7 x8 S))) ∧ (¬ (cP S (za (cR S 4 (za x0))) (x5 + x8).toNatClampNeg) = none → O_X8_signers_101 N rok x0 x4 x5 x6 x7 x8 S))) ∧ (¬ (cP S (za (cR S 4 (za x0))) (x4 + x8).toNatClampNeg) = none → O_X8_signers_101 N rok x0 x4 x5 x6 x7 x8 S))))
set_option maxRecDepth 100000 in
set_option maxHeartbeats 4000000 in
theorem bb_X8_signers_59 {G : zG} {o : cO} {S : cS} {N : Nat} {Q : Option Value → cS → Prop} {X : Nat × Int32 × Unit → Prop} (hG : zOK G) (hX0 : ∀ (x7 : Int32) , X (0, x7, ()) → cX G o dX8_signers mX8_signers 110 [none, none, none, none, none, none, none, some (.int x7), none] [] S Q) {rec : Option Nat → Int32 → Int32 → Int32 → Int32 → Int32 → Nat × Int32 × Unit} {rok : Option Nat → Int32 → Int32 → Int32 → Int32 → Int32 → Prop} (hrec : ∀ (x0 : Option Nat) (x4 : Int32) (x5 : Int32) (x6 : Int32) (x7 : Int32) (x8 : Int32), rok x0 x4 x5 x6 x7 x8 → X (rec x0 x4 x5 x6 x7 x8) → cX G o dX8_signers mX8_signers 59 [some (va_rf x0), none, none, none, some (.int x4), some (.int x5), some (.int x6), some (.int x7), some (.int x8)] [] S Q) {x0 : Option Nat} {x4 : Int32} {x5 : Int32} {x6 : Int32} {x7 : Int32} {x8 : Int32} (ok : OB_X8_signers_59 N rok x0 x4 x5 x6 x7 x8 S) (hx : X (B_X8_signers_59 N rec x0 x4 x5 x6 x7 x8 S)) : cX G o dX8_signers mX8_signers 59 [some (va_rf x0), none, none, none, some (.int x4), some (.int x5), some (.int x6), some (.int x7), some (.int x8)] [] S Q := by
  unfold OB_X8_signers_59 at ok
  unfold B_X8_signers_59 at hx
  refine c_iload dX8_signers_59 rfl ?_
  refine c_aload_nQ dX8_signers_61 rfl rfl ?_
  refine c_getI (C := RX8) (T := TX8) (N := 14) (ci := 6) (k := 1) ⟨rfl, inT8, by decide, fX8_32⟩ (by decide) (by decide) (by decide) dX8_signers_62 ok.1 ?_
  have ok := ok.2
  refine c_icmp_ge (tgt := 110) dX8_signers_65 (by decide) (fun c_65 => ?_) (fun c_65 => ?_)
  · have ok := ok.1 c_65
    have hx := xif_p c_65 hx
    exact cX.cutz (hX0 _  hx) ⟨rfl, trivial⟩
  · have ok := ok.2 c_65
    have hx := xif_n c_65 hx
    refine c_aload_nQ dX8_signers_68 rfl rfl ?_
    refine c_getR (C := RX8) (T := TX8) (N := 14) (ci := 6) (k := 4) ⟨rfl, inT8, by decide, fX8_36⟩ (by decide) (by decide) (by decide) dX8_signers_69 ok.1 ?_
    have ok := ok.2
    refine c_iload dX8_signers_72 rfl ?_
    refine c_iload dX8_signers_74 rfl ?_
    refine c_iadd dX8_signers_76 ?_
    refine c_aald (t := 4) (ty := (.object "QuorumLedger$Message")) rfl rfl (by decide) dX8_signers_77 ok.1 ?_
    have ok := ok.2
    refine c_ifnonnullI (tgt := 101) dX8_signers_78 (by decide) (fun c_78 => ?_) (fun c_78 => ?_)
    · have ok := ok.2 c_78
      have hx := xif_n c_78 hx
      exact cX.cutz (b_X8_signers_101 hG hX0 hrec ok hx) ⟨rfl, rfl, rfl, rfl, rfl, rfl, trivial⟩
    · have ok := ok.1 c_78
      have hx := xif_p c_78 hx
      refine c_aload_nQ dX8_signers_81 rfl rfl ?_
      refine c_getR (C := RX8) (T := TX8) (N := 14) (ci := 6) (k := 4) ⟨rfl, inT8, by decide, fX8_36⟩ (by decide) (by decide) (by decide) dX8_signers_82 ok.1 ?_
      have ok := ok.2
      refine c_iload dX8_signers_85 rfl ?_
      refine c_iload dX8_signers_87 rfl ?_
      refine c_iadd dX8_signers_89 ?_
      refine c_aald (t := 4) (ty := (.object "QuorumLedger$Message")) rfl rfl (by decide) dX8_signers_90 ok.1 ?_
      have ok := ok.2
      refine c_ifnonnullI (tgt := 101) dX8_signers_91 (by decide) (fun c_91 => ?_) (fun c_91 => ?_)
      · have ok := ok.2 c_91
        have hx := xif_n c_91 hx
        exact cX.cutz (b_X8_signers_101 hG hX0 hrec ok hx) ⟨rfl, rfl, rfl, rfl, rfl, rfl, trivial⟩
      · have ok := ok.1 c_91
        have hx := xif_p c_91 hx
        refine c_iload dX8_signers_94 rfl ?_
        refine c_iload dX8_signers_96 rfl ?_
        refine c_icmp_ne (tgt := 104) dX8_signers_98 (by decide) (fun c_98 => ?_) (fun c_98 => ?_)
        · have ok := ok.2 c_98
          have hx := xif_n c_98 hx
          exact cX.cutz (b_X8_signers_104 hG hX0 hrec ok hx) ⟨rfl, rfl, rfl, rfl, rfl, rfl, trivial⟩
        · have ok := ok.1 c_98
          have hx := xif_p c_98 hx
          exact cX.cutz (b_X8_signers_101 hG hX0 hrec ok hx) ⟨rfl, rfl, rfl, rfl, rfl, rfl, trivial⟩
def L_X8_signers_59 (N : Nat) : Nat → Option Nat → Int32 → Int32 → Int32 → Int32 → Int32 → cS → Nat × Int32 × Unit
  | 0, x0, x4, x5, x6, x7, x8, S => (0, 0, ())
  | n + 1, x0, x4, x5, x6, x7, x8, S => B_X8_signers_59 N (fun x0 x4 x5 x6 x7 x8 => L_X8_signers_59 N n x0 x4 x5 x6 x7 x8 S) x0 x4 x5 x6 x7 x8 S
def OL_X8_signers_59 (N : Nat) : Nat → Option Nat → Int32 → Int32 → Int32 → Int32 → Int32 → cS → Prop
  | 0, _, _, _, _, _, _, _ => False
  | n + 1, x0, x4, x5, x6, x7, x8, S => OB_X8_signers_59 N (fun x0 x4 x5 x6 x7 x8 => OL_X8_signers_59 N n x0 x4 x5 x6 x7 x8 S) x0 x4 x5 x6 x7 x8 S
set_option maxRecDepth 100000 in
set_option maxHeartbeats 4000000 in
theorem l_X8_signers_59 {G : zG} {o : cO} {S : cS} {N : Nat} {Q : Option Value → cS → Prop} {X : Nat × Int32 × Unit → Prop} (hG : zOK G) (hX0 : ∀ (x7 : Int32) , X (0, x7, ()) → cX G o dX8_signers mX8_signers 110 [none, none, none, none, none, none, none, some (.int x7), none] [] S Q) : ∀ (n : Nat) (x0 : Option Nat) (x4 : Int32) (x5 : Int32) (x6 : Int32) (x7 : Int32) (x8 : Int32) , OL_X8_signers_59 N n x0 x4 x5 x6 x7 x8 S → X (L_X8_signers_59 N n x0 x4 x5 x6 x7 x8 S) → cX G o dX8_signers mX8_signers 59 [some (va_rf x0), none, none, none, some (.int x4), some (.int x5), some (.int x6), some (.int x7), some (.int x8)] [] S Q := by
  intro n
  induction n with
  | zero => intro x0 x4 x5 x6 x7 x8 ok; exact absurd ok id
  | succ n ih =>
    intro x0 x4 x5 x6 x7 x8 ok hx
    exact bb_X8_signers_59 hG hX0 (rec := fun x0 x4 x5 x6 x7 x8 => L_X8_signers_59 N n x0 x4 x5 x6 x7 x8 S) (rok := fun x0 x4 x5 x6 x7 x8 => OL_X8_signers_59 N n x0 x4 x5 x6 x7 x8 S) (fun x0 x4 x5 x6 x7 x8 ok hx => ih x0 x4 x5 x6 x7 x8 ok hx) ok hx
def A_X8_signers_59 (N : Nat) (x0 : Option Nat) (x4 : Int32) (x5 : Int32) (x6 : Int32) (x7 : Int32) (x8 : Int32) (S : cS) (z : Nat × Int32 × Unit) : Int32 := (F_X8_signers_110 N (z.2.1) S)
def OA_X8_signers_59 (N : Nat) (x0 : Option Nat) (x4 : Int32) (x5 : Int32) (x6 : Int32) (x7 : Int32) (x8 : Int32) (S : cS) (z : Nat × Int32 × Unit) : Prop := O_X8_signers_110 N (z.2.1) S
set_option maxRecDepth 100000 in
set_option maxHeartbeats 4000000 in
theorem c_X8_signers_59 {G : zG} {o : cO} {S : cS} {N : Nat} {Q : Option Value → cS → Prop} {X : Int32 → Prop} (hG : zOK G) (hR : ∀ v, X v → Q (some (.int v)) S) {x0 : Option Nat} {x4 : Int32} {x5 : Int32} {x6 : Int32} {x7 : Int32} {x8 : Int32} (ok : OL_X8_signers_59 N N x0 x4 x5 x6 x7 x8 S ∧ OA_X8_signers_59 N x0 x4 x5 x6 x7 x8 S (L_X8_signers_59 N N x0 x4 x5 x6 x7 x8 S)) (hx : X (A_X8_signers_59 N x0 x4 x5 x6 x7 x8 S (L_X8_signers_59 N N x0 x4 x5 x6 x7 x8 S))) : cX G o dX8_signers mX8_signers 59 [some (va_rf x0), none, none, none, some (.int x4), some (.int x5), some (.int x6), some (.int x7), some (.int x8)] [] S Q := by
  refine l_X8_signers_59 hG ?_ N x0 x4 x5 x6 x7 x8 ok.1 (X := fun z => OA_X8_signers_59 N x0 x4 x5 x6 x7 x8 S z ∧ X (A_X8_signers_59 N x0 x4 x5 x6 x7 x8 S z)) ⟨ok.2, hx⟩
  · intro x7' hz
    obtain ⟨ok, hx⟩ := hz
    unfold OA_X8_signers_59 at ok
    unfold A_X8_signers_59 at hx
    exact cX.cutz (b_X8_signers_110 hG hR ok hx) ⟨rfl, trivial⟩
def F_X8_signers_51 (N : Nat) (x0 : Option Nat) (x4 : Int32) (x5 : Int32) (s0 : Int32) (S : cS) : Int32 := (A_X8_signers_59 N x0 x4 x5 s0 (nI 0) (nI 0) S (L_X8_signers_59 N N x0 x4 x5 s0 (nI 0) (nI 0) S))
def O_X8_signers_51 (N : Nat) (x0 : Option Nat) (x4 : Int32) (x5 : Int32) (s0 : Int32) (S : cS) : Prop := (OL_X8_signers_59 N N x0 x4 x5 s0 (nI 0) (nI 0) S ∧ OA_X8_signers_59 N x0 x4 x5 s0 (nI 0) (nI 0) S (L_X8_signers_59 N N x0 x4 x5 s0 (nI 0) (nI 0) S))
set_option maxRecDepth 100000 in
set_option maxHeartbeats 4000000 in
theorem b_X8_signers_51 {G : zG} {o : cO} {S : cS} {N : Nat} {Q : Option Value → cS → Prop} {X : Int32 → Prop} (hG : zOK G) (hR : ∀ v, X v → Q (some (.int v)) S) {x0 : Option Nat} {x4 : Int32} {x5 : Int32} {s0 : Int32} (ok : O_X8_signers_51 N x0 x4 x5 s0 S) (hx : X (F_X8_signers_51 N x0 x4 x5 s0 S)) : cX G o dX8_signers mX8_signers 51 [some (va_rf x0), none, none, none, some (.int x4), some (.int x5), none, none, none] [.int s0] S Q := by
  unfold O_X8_signers_51 at ok
  unfold F_X8_signers_51 at hx
  refine c_istore_6 dX8_signers_51 (by decide) rfl ?_
  refine c_iconst (v := nI 0) dX8_signers_53 (by decide) ?_
  refine c_istore_7 dX8_signers_54 (by decide) rfl ?_
  refine c_iconst (v := nI 0) dX8_signers_56 (by decide) ?_
  refine c_istore_8 dX8_signers_57 (by decide) rfl ?_
  exact cX.cutz (c_X8_signers_59 hG hR ok hx) ⟨rfl, rfl, rfl, rfl, rfl, rfl, trivial⟩
def F_X8_signers_0 (N : Nat) (x0 : Option Nat) (x1 : Int32) (x2 : Int32) (S : cS) : Int32 := (if 0 ≤ (f_X8_page N S (za x0) x1 x2) then (if (cP S (za (cR S 2 (za x0))) (f_X8_page N S (za x0) x1 x2).toNatClampNeg) = none then (F_X8_signers_51 N x0 (f_X8_ballots N S (za x0) (f_X8_page N S (za x0) x1 x2) (nI 2)) (f_X8_ballots N S (za x0) (f_X8_page N S (za x0) x1 x2) (nI 3)) (-1) S) else (F_X8_signers_51 N x0 (f_X8_ballots N S (za x0) (f_X8_page N S (za x0) x1 x2) (nI 2)) (f_X8_ballots N S (za x0) (f_X8_page N S (za x0) x1 x2) (nI 3)) (f_X5_signer N S (za (cP S (za (cR S 2 (za x0))) (f_X8_page N S (za x0) x1 x2).toNatClampNeg))) S)) else (nI 0))
def O_X8_signers_0 (N : Nat) (x0 : Option Nat) (x1 : Int32) (x2 : Int32) (S : cS) : Prop := (cis S x0 7 ∧ o_X8_page N S (za x0) x1 x2) ∧ ((0 ≤ (f_X8_page N S (za x0) x1 x2) → (cis S x0 7 ∧ o_X8_ballots N S (za x0) (f_X8_page N S (za x0) x1 x2) (nI 2)) ∧ (cis S x0 7 ∧ o_X8_ballots N S (za x0) (f_X8_page N S (za x0) x1 x2) (nI 3)) ∧ (cis S x0 7) ∧ (cis S (cR S 2 (za x0)) 24 ∧ vp_in (f_X8_page N S (za x0) x1 x2) (cL S (za (cR S 2 (za x0))))) ∧ (((cP S (za (cR S 2 (za x0))) (f_X8_page N S (za x0) x1 x2).toNatClampNeg) = none → O_X8_signers_51 N x0 (f_X8_ballots N S (za x0) (f_X8_page N S (za x0) x1 x2) (nI 2)) (f_X8_ballots N S (za x0) (f_X8_page N S (za x0) x1 x2) (nI 3)) (-1) S) ∧ (¬ (cP S (za (cR S 2 (za x0))) (f_X8_page N S (za x0) x1 x2).toNatClampNeg) = none → (cis S x0 7) ∧ (cis S (cR S 2 (za x0)) 24 ∧ vp_in (f_X8_page N S (za x0) x1 x2) (cL S (za (cR S 2 (za x0))))) ∧ (cis S (cP S (za (cR S 2 (za x0))) (f_X8_page N S (za x0) x1 x2).toNatClampNeg) 5 ∧ o_X5_signer N S (za (cP S (za (cR S 2 (za x0))) (f_X8_page N S (za x0) x1 x2).toNatClampNeg))) ∧ O_X8_signers_51 N x0 (f_X8_ballots N S (za x0) (f_X8_page N S (za x0) x1 x2) (nI 2)) (f_X8_ballots N S (za x0) (f_X8_page N S (za x0) x1 x2) (nI 3)) (f_X5_signer N S (za (cP S (za (cR S 2 (za x0))) (f_X8_page N S (za x0) x1 x2).toNatClampNeg))) S))) ∧ (¬ 0 ≤ (f_X8_page N S (za x0) x1 x2) → True))
set_option maxRecDepth 100000 in
set_option maxHeartbeats 4000000 in
theorem b_X8_signers_0 {G : zG} {o : cO} {S : cS} {N : Nat} {Q : Option Value → cS → Prop} {X : Int32 → Prop} (hG : zOK G) (hR : ∀ v, X v → Q (some (.int v)) S) {x0 : Option Nat} {x1 : Int32} {x2 : Int32} (ok : O_X8_signers_0 N x0 x1 x2 S) (hx : X (F_X8_signers_0 N x0 x1 x2 S)) : cX G o dX8_signers mX8_signers 0 [some (va_rf x0), some (.int x1), some (.int x2), none, none, none, none, none, none] [] S Q := by
  unfold O_X8_signers_0 at ok
  unfold F_X8_signers_0 at hx
  refine c_aload_nQ dX8_signers_0 rfl rfl ?_
  refine c_iload_n dX8_signers_1 rfl rfl ?_
  refine c_iload_n dX8_signers_2 rfl rfl ?_
  refine c_V2iE (ci := 6) (rr := (RX8, TX8, 14)) (y' := mX8_page) dX8_signers_3 lX8_51 kX8_page ⟨by decide, by decide⟩ rfl rfl (by decide) ok.1.1 (Nat.le_of_ble_eq_true rfl) (cc_X8_page hG ok.1.2) ?_
  have ok := ok.2
  refine c_istore_3 dX8_signers_6 (by decide) rfl ?_
  refine c_iload_n dX8_signers_7 rfl rfl ?_
  refine c_if_ge (tgt := 13) dX8_signers_8 (by decide) (fun c_8 => ?_) (fun c_8 => ?_)
  · have ok := ok.1 c_8
    have hx := xif_p c_8 hx
    refine c_aload_nQ dX8_signers_13 rfl rfl ?_
    refine c_iload_n dX8_signers_14 rfl rfl ?_
    refine c_iconst (v := nI 2) dX8_signers_15 (by decide) ?_
    refine c_V2iE (ci := 6) (rr := (RX8, TX8, 14)) (y' := mX8_ballots) dX8_signers_16 lX8_69 kX8_ballots ⟨by decide, by decide⟩ rfl rfl (by decide) ok.1.1 (Nat.le_of_ble_eq_true rfl) (cc_X8_ballots hG ok.1.2) ?_
    have ok := ok.2
    refine c_istore_4 dX8_signers_19 (by decide) rfl ?_
    refine c_aload_nQ dX8_signers_21 rfl rfl ?_
    refine c_iload_n dX8_signers_22 rfl rfl ?_
    refine c_iconst (v := nI 3) dX8_signers_23 (by decide) ?_
    refine c_V2iE (ci := 6) (rr := (RX8, TX8, 14)) (y' := mX8_ballots) dX8_signers_24 lX8_69 kX8_ballots ⟨by decide, by decide⟩ rfl rfl (by decide) ok.1.1 (Nat.le_of_ble_eq_true rfl) (cc_X8_ballots hG ok.1.2) ?_
    have ok := ok.2
    refine c_istore_5 dX8_signers_27 (by decide) rfl ?_
    refine c_aload_nQ dX8_signers_29 rfl rfl ?_
    refine c_getR (C := RX8) (T := TX8) (N := 14) (ci := 6) (k := 2) ⟨rfl, inT8, by decide, fX8_11⟩ (by decide) (by decide) (by decide) dX8_signers_30 ok.1 ?_
    have ok := ok.2
    refine c_iload_n dX8_signers_33 rfl rfl ?_
    refine c_aald (t := 4) (ty := (.object "QuorumLedger$Message")) rfl rfl (by decide) dX8_signers_34 ok.1 ?_
    have ok := ok.2
    refine c_ifnonnullI (tgt := 42) dX8_signers_35 (by decide) (fun c_35 => ?_) (fun c_35 => ?_)
    · have ok := ok.2 c_35
      have hx := xif_n c_35 hx
      refine c_aload_nQ dX8_signers_42 rfl rfl ?_
      refine c_getR (C := RX8) (T := TX8) (N := 14) (ci := 6) (k := 2) ⟨rfl, inT8, by decide, fX8_11⟩ (by decide) (by decide) (by decide) dX8_signers_43 ok.1 ?_
      have ok := ok.2
      refine c_iload_n dX8_signers_46 rfl rfl ?_
      refine c_aald (t := 4) (ty := (.object "QuorumLedger$Message")) rfl rfl (by decide) dX8_signers_47 ok.1 ?_
      have ok := ok.2
      refine c_V0iE (ci := 4) (rr := (RX5, TX5, 7)) (y' := mX5_signer) dX8_signers_48 lX8_62 kX5_signer ⟨by decide, by decide⟩ rfl rfl (by decide) ok.1.1 (Nat.le_of_ble_eq_true rfl) (cc_X5_signer hG ok.1.2) ?_
      have ok := ok.2
      exact cX.cutz (b_X8_signers_51 hG hR ok hx) ⟨rfl, rfl, rfl, trivial⟩
    · have ok := ok.1 c_35
      have hx := xif_p c_35 hx
      refine c_iconst (v := -1) dX8_signers_38 (by decide) ?_
      refine c_goto (tgt := 51) dX8_signers_39 (by decide) ?_
      exact cX.cutz (b_X8_signers_51 hG hR ok hx) ⟨rfl, rfl, rfl, trivial⟩
  · have ok := ok.2 c_8
    have hx := xif_n c_8 hx
    refine c_iconst (v := nI 0) dX8_signers_11 (by decide) ?_
    exact c_ireturn rfl rfl dX8_signers_12 (hR _ hx)
def f_X8_signers (N : Nat) (S : cS) (a0 : Nat) (x1 : Int32) (x2 : Int32) : Int32 := F_X8_signers_0 N (some a0) x1 x2 S
def o_X8_signers (N : Nat) (S : cS) (a0 : Nat) (x1 : Int32) (x2 : Int32) : Prop := O_X8_signers_0 N (some a0) x1 x2 S
set_option maxRecDepth 100000 in
set_option maxHeartbeats 4000000 in
theorem cc_X8_signers {G : zG} {o : cO} {S : cS} {N : Nat} (hG : zOK G) {a0 : Nat} {x1 : Int32} {x2 : Int32} (ok : o_X8_signers N S a0 x1 x2) : cCi G o dX8_signers mX8_signers [.ref a0, .int x1, .int x2] S (fun v S' => v = f_X8_signers N S a0 x1 x2 ∧ S' = S) := by
  refine cC.ofX rfl (by exact Nat.le_of_ble_eq_true rfl) ?_
  show cX G o dX8_signers mX8_signers 0 [some (.ref a0), some (.int x1), some (.int x2), none, none, none, none, none, none] [] S _
  exact cX.cutz (b_X8_signers_0 (X := fun F => F = f_X8_signers N S a0 x1 x2) hG (fun v h => ⟨v, rfl, h, rfl⟩) ok rfl) ⟨rfl, rfl, rfl, trivial⟩
/-! X7_skips -/
def F_X7_skips_57 (N : Nat)  (S : cS) : Int32 × cS := ((nI 0), S)
def O_X7_skips_57 (N : Nat)  (S : cS) : Prop := True
set_option maxRecDepth 100000 in
set_option maxHeartbeats 4000000 in
theorem b_X7_skips_57 {G : zG} {o : cO} {S : cS} {N : Nat} {Q : Option Value → cS → Prop} {X : Int32 × cS → Prop} (hG : zOK G) (hR : ∀ v S', X (v, S') → Q (some (.int v)) S') (ok : O_X7_skips_57 N S) (hx : X (F_X7_skips_57 N S)) : cX G o dX7_skips mX7_skips 57 [none, none] [] S Q := by
  unfold O_X7_skips_57 at ok
  unfold F_X7_skips_57 at hx
  refine c_iconst (v := nI 0) dX7_skips_57 (by decide) ?_
  exact c_ireturn rfl rfl dX7_skips_58 (hR _ _ hx)
def F_X7_skips_44 (N : Nat) (x0 : Option Nat) (x1 : Int32) (S : cS) : Int32 × cS := ((nI 1), (csI S 18 (za x0) x1))
def O_X7_skips_44 (N : Nat) (x0 : Option Nat) (x1 : Int32) (S : cS) : Prop := (cis S x0 6) ∧ True
set_option maxRecDepth 100000 in
set_option maxHeartbeats 4000000 in
theorem b_X7_skips_44 {G : zG} {o : cO} {S : cS} {N : Nat} {Q : Option Value → cS → Prop} {X : Int32 × cS → Prop} (hG : zOK G) (hR : ∀ v S', X (v, S') → Q (some (.int v)) S') {x0 : Option Nat} {x1 : Int32} (ok : O_X7_skips_44 N x0 x1 S) (hx : X (F_X7_skips_44 N x0 x1 S)) : cX G o dX7_skips mX7_skips 44 [some (va_rf x0), some (.int x1)] [] S Q := by
  unfold O_X7_skips_44 at ok
  unfold F_X7_skips_44 at hx
  refine c_aload_nQ dX7_skips_44 rfl rfl ?_
  refine c_iload_n dX7_skips_45 rfl rfl ?_
  refine c_putI (C := RX6) (T := TX6) (N := 19) (ci := 5) (k := 18) ⟨rfl, inT6, by decide, fX7_45⟩ ftT6 rfl (by decide) (by decide) (by decide) rfl rfl dX7_skips_46 ok.1 ?_
  have ok := ok.2
  refine c_iconst (v := nI 1) dX7_skips_49 (by decide) ?_
  exact c_ireturn rfl rfl dX7_skips_50 (hR _ _ hx)
def B_X7_skips_14 (N : Nat) (rec : Option Nat → Int32 → cS → Nat × Option Nat × Int32 × cS) (x0 : Option Nat) (x1 : Int32) (S : cS) : Nat × Option Nat × Int32 × cS := (if x1 ≤ (cI S 10 (za x0)) then (1, none, 0, S) else (if (f_X8_signers N S (za (cR S 3 (za x0))) (cI S 9 (za x0)) x1) ≤ (cI S 0 (za (cR S 0 (za x0)))) then (rec x0 (x1 + (-1)) S) else (0, x0, x1, S)))
def OB_X7_skips_14 (N : Nat) (rok : Option Nat → Int32 → cS → Prop) (x0 : Option Nat) (x1 : Int32) (S : cS) : Prop := (cis S x0 6) ∧ ((x1 ≤ (cI S 10 (za x0)) → True) ∧ (¬ x1 ≤ (cI S 10 (za x0)) → (cis S x0 6) ∧ (cis S x0 6) ∧ (cis S (cR S 3 (za x0)) 7 ∧ o_X8_signers N S (za (cR S 3 (za x0))) (cI S 9 (za x0)) x1) ∧ (cis S x0 6) ∧ (cis S (cR S 0 (za x0)) 9) ∧ (((f_X8_signers N S (za (cR S 3 (za x0))) (cI S 9 (za x0)) x1) ≤ (cI S 0 (za (cR S 0 (za x0)))) → rok x0 (x1 + (-1)) S) ∧ (¬ (f_X8_signers N S (za (cR S 3 (za x0))) (cI S 9 (za x0)) x1) ≤ (cI S 0 (za (cR S 0 (za x0)))) → True))))
set_option maxRecDepth 100000 in
set_option maxHeartbeats 4000000 in
theorem bb_X7_skips_14 {G : zG} {o : cO} {S : cS} {N : Nat} {Q : Option Value → cS → Prop} {X : Nat × Option Nat × Int32 × cS → Prop} (hG : zOK G) (hX0 : ∀ (x0 : Option Nat) (x1 : Int32) (S' : cS), X (0, x0, x1, S') → cX G o dX7_skips mX7_skips 44 [some (va_rf x0), some (.int x1)] [] S' Q) (hX1 : ∀ (x0 : Option Nat) (x1 : Int32) (S' : cS), X (1, x0, x1, S') → cX G o dX7_skips mX7_skips 57 [none, none] [] S' Q) {rec : Option Nat → Int32 → cS → Nat × Option Nat × Int32 × cS} {rok : Option Nat → Int32 → cS → Prop} (hrec : ∀ (x0 : Option Nat) (x1 : Int32) (S : cS), rok x0 x1 S → X (rec x0 x1 S) → cX G o dX7_skips mX7_skips 14 [some (va_rf x0), some (.int x1)] [] S Q) {x0 : Option Nat} {x1 : Int32} (ok : OB_X7_skips_14 N rok x0 x1 S) (hx : X (B_X7_skips_14 N rec x0 x1 S)) : cX G o dX7_skips mX7_skips 14 [some (va_rf x0), some (.int x1)] [] S Q := by
  unfold OB_X7_skips_14 at ok
  unfold B_X7_skips_14 at hx
  refine c_iload_n dX7_skips_14 rfl rfl ?_
  refine c_aload_nQ dX7_skips_15 rfl rfl ?_
  refine c_getI (C := RX6) (T := TX6) (N := 19) (ci := 5) (k := 10) ⟨rfl, inT6, by decide, fX7_213⟩ (by decide) (by decide) (by decide) dX7_skips_16 ok.1 ?_
  have ok := ok.2
  refine c_icmp_le (tgt := 57) dX7_skips_19 (by decide) (fun c_19 => ?_) (fun c_19 => ?_)
  · have ok := ok.1 c_19
    have hx := xif_p c_19 hx
    exact cX.cutz (hX1 _ _ S hx) trivial
  · have ok := ok.2 c_19
    have hx := xif_n c_19 hx
    refine c_aload_nQ dX7_skips_22 rfl rfl ?_
    refine c_getR (C := RX6) (T := TX6) (N := 19) (ci := 5) (k := 3) ⟨rfl, inT6, by decide, fX7_80⟩ (by decide) (by decide) (by decide) dX7_skips_23 ok.1 ?_
    have ok := ok.2
    refine c_aload_nQ dX7_skips_26 rfl rfl ?_
    refine c_getI (C := RX6) (T := TX6) (N := 19) (ci := 5) (k := 9) ⟨rfl, inT6, by decide, fX7_18⟩ (by decide) (by decide) (by decide) dX7_skips_27 ok.1 ?_
    have ok := ok.2
    refine c_iload_n dX7_skips_30 rfl rfl ?_
    refine c_V2iE (ci := 6) (rr := (RX8, TX8, 14)) (y' := mX8_signers) dX7_skips_31 lX7_216 kX8_signers ⟨by decide, by decide⟩ rfl rfl (by decide) ok.1.1 (Nat.le_of_ble_eq_true rfl) (cc_X8_signers hG ok.1.2) ?_
    have ok := ok.2
    refine c_aload_nQ dX7_skips_34 rfl rfl ?_
    refine c_getR (C := RX6) (T := TX6) (N := 19) (ci := 5) (k := 0) ⟨rfl, inT6, by decide, fX7_26⟩ (by decide) (by decide) (by decide) dX7_skips_35 ok.1 ?_
    have ok := ok.2
    refine c_getI (C := RX10) (T := TX10) (N := 12) (ci := 8) (k := 0) ⟨rfl, inT10, by decide, fX7_103⟩ (by decide) (by decide) (by decide) dX7_skips_38 ok.1 ?_
    have ok := ok.2
    refine c_icmp_le (tgt := 51) dX7_skips_41 (by decide) (fun c_41 => ?_) (fun c_41 => ?_)
    · have ok := ok.1 c_41
      have hx := xif_p c_41 hx
      refine c_iinc_1 (v := (x1 + (-1))) dX7_skips_51 rfl (by first | rfl | (congr 1)) (by decide) (by simp [zok, zg, zcat_rf]) ?_
      refine c_goto (tgt := 14) dX7_skips_54 (by decide) ?_
      exact cX.cutz (hrec _ _ S ok hx) ⟨rfl, rfl, trivial⟩
    · have ok := ok.2 c_41
      have hx := xif_n c_41 hx
      exact cX.cutz (hX0 _ _ S hx) ⟨rfl, rfl, trivial⟩
def L_X7_skips_14 (N : Nat) : Nat → Option Nat → Int32 → cS → Nat × Option Nat × Int32 × cS
  | 0, x0, x1, S => (0, none, 0, S)
  | n + 1, x0, x1, S => B_X7_skips_14 N (L_X7_skips_14 N n) x0 x1 S
def OL_X7_skips_14 (N : Nat) : Nat → Option Nat → Int32 → cS → Prop
  | 0, _, _, _ => False
  | n + 1, x0, x1, S => OB_X7_skips_14 N (OL_X7_skips_14 N n) x0 x1 S
set_option maxRecDepth 100000 in
set_option maxHeartbeats 4000000 in
theorem l_X7_skips_14 {G : zG} {o : cO} {N : Nat} {Q : Option Value → cS → Prop} {X : Nat × Option Nat × Int32 × cS → Prop} (hG : zOK G) (hX0 : ∀ (x0 : Option Nat) (x1 : Int32) (S' : cS), X (0, x0, x1, S') → cX G o dX7_skips mX7_skips 44 [some (va_rf x0), some (.int x1)] [] S' Q) (hX1 : ∀ (x0 : Option Nat) (x1 : Int32) (S' : cS), X (1, x0, x1, S') → cX G o dX7_skips mX7_skips 57 [none, none] [] S' Q) : ∀ (n : Nat) (x0 : Option Nat) (x1 : Int32) (S : cS), OL_X7_skips_14 N n x0 x1 S → X (L_X7_skips_14 N n x0 x1 S) → cX G o dX7_skips mX7_skips 14 [some (va_rf x0), some (.int x1)] [] S Q := by
  intro n
  induction n with
  | zero => intro x0 x1 S ok; exact absurd ok id
  | succ n ih =>
    intro x0 x1 S ok hx
    exact bb_X7_skips_14 hG hX0 hX1 (rec := L_X7_skips_14 N n) (rok := OL_X7_skips_14 N n) (fun x0 x1 S ok hx => ih x0 x1 S ok hx) ok hx
def A_X7_skips_14 (N : Nat) (x0 : Option Nat) (x1 : Int32) (S : cS) (z : Nat × Option Nat × Int32 × cS) : Int32 × cS := (if z.1 = 0 then (F_X7_skips_44 N (z.2.1) (z.2.2.1) z.2.2.2) else (F_X7_skips_57 N z.2.2.2))
def OA_X7_skips_14 (N : Nat) (x0 : Option Nat) (x1 : Int32) (S : cS) (z : Nat × Option Nat × Int32 × cS) : Prop := (if z.1 = 0 then O_X7_skips_44 N (z.2.1) (z.2.2.1) z.2.2.2 else O_X7_skips_57 N z.2.2.2)
set_option maxRecDepth 100000 in
set_option maxHeartbeats 4000000 in
theorem c_X7_skips_14 {G : zG} {o : cO} {S : cS} {N : Nat} {Q : Option Value → cS → Prop} {X : Int32 × cS → Prop} (hG : zOK G) (hR : ∀ v S', X (v, S') → Q (some (.int v)) S') {x0 : Option Nat} {x1 : Int32} (ok : OL_X7_skips_14 N N x0 x1 S ∧ OA_X7_skips_14 N x0 x1 S (L_X7_skips_14 N N x0 x1 S)) (hx : X (A_X7_skips_14 N x0 x1 S (L_X7_skips_14 N N x0 x1 S))) : cX G o dX7_skips mX7_skips 14 [some (va_rf x0), some (.int x1)] [] S Q := by
  refine l_X7_skips_14 hG ?_ ?_ N x0 x1 S ok.1 (X := fun z => OA_X7_skips_14 N x0 x1 S z ∧ X (A_X7_skips_14 N x0 x1 S z)) ⟨ok.2, hx⟩
  · intro x0' x1' S' hz
    obtain ⟨ok, hx⟩ := hz
    unfold OA_X7_skips_14 at ok
    unfold A_X7_skips_14 at hx
    have ok := xif_P (show (0 : Nat) = 0 from rfl) ok
    have hx := xif_p (show (0 : Nat) = 0 from rfl) hx
    exact cX.cutz (b_X7_skips_44 hG hR ok hx) ⟨rfl, rfl, trivial⟩
  · intro x0' x1' S' hz
    obtain ⟨ok, hx⟩ := hz
    unfold OA_X7_skips_14 at ok
    unfold A_X7_skips_14 at hx
    have ok := xif_N (show ¬ (1 : Nat) = 0 by decide) ok
    have hx := xif_n (show ¬ (1 : Nat) = 0 by decide) hx
    exact cX.cutz (b_X7_skips_57 hG hR ok hx) trivial
def F_X7_skips_0 (N : Nat) (x0 : Option Nat) (S : cS) : Int32 × cS := (A_X7_skips_14 N x0 ((f_X8_top N S (za (cR S 3 (za x0))) (cI S 9 (za x0))) - (nI 1)) S (L_X7_skips_14 N N x0 ((f_X8_top N S (za (cR S 3 (za x0))) (cI S 9 (za x0))) - (nI 1)) S))
def O_X7_skips_0 (N : Nat) (x0 : Option Nat) (S : cS) : Prop := (cis S x0 6) ∧ (cis S x0 6) ∧ (cis S (cR S 3 (za x0)) 7 ∧ o_X8_top N S (za (cR S 3 (za x0))) (cI S 9 (za x0))) ∧ (OL_X7_skips_14 N N x0 ((f_X8_top N S (za (cR S 3 (za x0))) (cI S 9 (za x0))) - (nI 1)) S ∧ OA_X7_skips_14 N x0 ((f_X8_top N S (za (cR S 3 (za x0))) (cI S 9 (za x0))) - (nI 1)) S (L_X7_skips_14 N N x0 ((f_X8_top N S (za (cR S 3 (za x0))) (cI S 9 (za x0))) - (nI 1)) S))
set_option maxRecDepth 100000 in
set_option maxHeartbeats 4000000 in
theorem b_X7_skips_0 {G : zG} {o : cO} {S : cS} {N : Nat} {Q : Option Value → cS → Prop} {X : Int32 × cS → Prop} (hG : zOK G) (hR : ∀ v S', X (v, S') → Q (some (.int v)) S') {x0 : Option Nat} (ok : O_X7_skips_0 N x0 S) (hx : X (F_X7_skips_0 N x0 S)) : cX G o dX7_skips mX7_skips 0 [some (va_rf x0), none] [] S Q := by
  unfold O_X7_skips_0 at ok
  unfold F_X7_skips_0 at hx
  refine c_aload_nQ dX7_skips_0 rfl rfl ?_
  refine c_getR (C := RX6) (T := TX6) (N := 19) (ci := 5) (k := 3) ⟨rfl, inT6, by decide, fX7_80⟩ (by decide) (by decide) (by decide) dX7_skips_1 ok.1 ?_
  have ok := ok.2
  refine c_aload_nQ dX7_skips_4 rfl rfl ?_
  refine c_getI (C := RX6) (T := TX6) (N := 19) (ci := 5) (k := 9) ⟨rfl, inT6, by decide, fX7_18⟩ (by decide) (by decide) (by decide) dX7_skips_5 ok.1 ?_
  have ok := ok.2
  refine c_V1iE (ci := 6) (rr := (RX8, TX8, 14)) (y' := mX8_top) dX7_skips_8 lX7_169 kX8_top ⟨by decide, by decide⟩ rfl rfl (by decide) ok.1.1 (Nat.le_of_ble_eq_true rfl) (cc_X8_top hG ok.1.2) ?_
  have ok := ok.2
  refine c_iconst (v := nI 1) dX7_skips_11 (by decide) ?_
  refine c_isub dX7_skips_12 ?_
  refine c_istore_1 dX7_skips_13 (by decide) (by simp [zok, zg, zcat_rf]) ?_
  exact cX.cutz (c_X7_skips_14 hG hR ok hx) ⟨rfl, rfl, trivial⟩
def f_X7_skips (N : Nat) (S : cS) (x0 : Option Nat) : Int32 × cS := F_X7_skips_0 N x0 S
def o_X7_skips (N : Nat) (S : cS) (x0 : Option Nat) : Prop := O_X7_skips_0 N x0 S
set_option maxRecDepth 100000 in
set_option maxHeartbeats 4000000 in
theorem cc_X7_skips {G : zG} {o : cO} {S : cS} {N : Nat} (hG : zOK G) {x0 : Option Nat} (ok : o_X7_skips N S x0) : cCi G o dX7_skips mX7_skips [va_rf x0] S (fun v S' => v = (f_X7_skips N S x0).1 ∧ S' = (f_X7_skips N S x0).2) := by
  refine cC.ofX rfl (by cases x0 <;> exact Nat.le_of_ble_eq_true rfl) ?_
  rw [show zargs mX7_skips.2.2.1 [va_rf x0] = [some (va_rf x0), none] from by cases x0 <;> rfl]
  exact cX.cutz (b_X7_skips_0 (X := fun F => F = f_X7_skips N S x0) hG (fun v S' h => ⟨v, rfl, by rw [← h], by rw [← h]⟩) ok rfl) ⟨rfl, trivial⟩
/-! X7_prevotesNew -/
def F_X7_prevotesNew_98 (N : Nat)  (S : cS) : Int32 × cS := ((nI 1), S)
def O_X7_prevotesNew_98 (N : Nat)  (S : cS) : Prop := True
set_option maxRecDepth 100000 in
set_option maxHeartbeats 4000000 in
theorem b_X7_prevotesNew_98 {G : zG} {o : cO} {S : cS} {N : Nat} {Q : Option Value → cS → Prop} {X : Int32 × cS → Prop} (hG : zOK G) (hR : ∀ v S', X (v, S') → Q (some (.int v)) S') (ok : O_X7_prevotesNew_98 N S) (hx : X (F_X7_prevotesNew_98 N S)) : cX G o dX7_prevotesNew mX7_prevotesNew 98 [none, none, none] [] S Q := by
  unfold O_X7_prevotesNew_98 at ok
  unfold F_X7_prevotesNew_98 at hx
  refine c_iconst (v := nI 1) dX7_prevotesNew_98 (by decide) ?_
  exact c_ireturn rfl rfl dX7_prevotesNew_99 (hR _ _ hx)
def F_X7_prevotesNew_94 (N : Nat) (s0 : Option Nat) (s1 : Option Nat) (S : cS) : Int32 × cS := (F_X7_prevotesNew_98 N (f_X7_utter N S s0 s1 (nI 1)))
def O_X7_prevotesNew_94 (N : Nat) (s0 : Option Nat) (s1 : Option Nat) (S : cS) : Prop := (o_X7_utter N S s0 s1 (nI 1)) ∧ O_X7_prevotesNew_98 N (f_X7_utter N S s0 s1 (nI 1))
set_option maxRecDepth 100000 in
set_option maxHeartbeats 4000000 in
theorem b_X7_prevotesNew_94 {G : zG} {o : cO} {S : cS} {N : Nat} {Q : Option Value → cS → Prop} {X : Int32 × cS → Prop} (hG : zOK G) (hR : ∀ v S', X (v, S') → Q (some (.int v)) S') {s0 : Option Nat} {s1 : Option Nat} (ok : O_X7_prevotesNew_94 N s0 s1 S) (hx : X (F_X7_prevotesNew_94 N s0 s1 S)) : cX G o dX7_prevotesNew mX7_prevotesNew 94 [none, none, none] [va_rf s1, va_rf s0] S Q := by
  unfold O_X7_prevotesNew_94 at ok
  unfold F_X7_prevotesNew_94 at hx
  refine c_iconst (v := nI 1) dX7_prevotesNew_94 (by decide) ?_
  refine c_S3vE (y' := mX7_utter) dX7_prevotesNew_95 lX7_234 kX7_utter ⟨by decide, by decide⟩ (Nat.le_of_ble_eq_true rfl) (cc_X7_utter hG ok.1) ?_
  have ok := ok.2
  exact cX.cutz (b_X7_prevotesNew_98 hG hR ok hx) trivial
def F_X7_prevotesNew_91 (N : Nat) (s0 : Option Nat) (s1 : Option Nat) (s2 : Int32) (s3 : Option Nat) (S : cS) : Int32 × cS := (F_X7_prevotesNew_94 N s0 ((f_X6_vote N S (za s1) s2 s3).1) (f_X6_vote N S (za s1) s2 s3).2)
def O_X7_prevotesNew_91 (N : Nat) (s0 : Option Nat) (s1 : Option Nat) (s2 : Int32) (s3 : Option Nat) (S : cS) : Prop := (cis S s1 6 ∧ o_X6_vote N S (za s1) s2 s3) ∧ O_X7_prevotesNew_94 N s0 ((f_X6_vote N S (za s1) s2 s3).1) (f_X6_vote N S (za s1) s2 s3).2
set_option maxRecDepth 100000 in
set_option maxHeartbeats 4000000 in
theorem b_X7_prevotesNew_91 {G : zG} {o : cO} {S : cS} {N : Nat} {Q : Option Value → cS → Prop} {X : Int32 × cS → Prop} (hG : zOK G) (hR : ∀ v S', X (v, S') → Q (some (.int v)) S') {s0 : Option Nat} {s1 : Option Nat} {s2 : Int32} {s3 : Option Nat} (ok : O_X7_prevotesNew_91 N s0 s1 s2 s3 S) (hx : X (F_X7_prevotesNew_91 N s0 s1 s2 s3 S)) : cX G o dX7_prevotesNew mX7_prevotesNew 91 [none, none, none] [va_rf s3, .int s2, va_rf s1, va_rf s0] S Q := by
  unfold O_X7_prevotesNew_91 at ok
  unfold F_X7_prevotesNew_91 at hx
  refine c_V2qE (ci := 5) (rr := (RX6, TX6, 19)) (y' := mX6_vote) dX7_prevotesNew_91 lX7_230 kX6_vote ⟨by decide, by decide⟩ rfl rfl (by decide) ok.1.1 (by simp only [List.map_cons, List.map_nil, List.sum_cons, List.sum_nil, zcat_rf, zcat_i, zcat_l, zcat_r] <;> decide) (cc_X6_vote hG ok.1.2) ?_
  have ok := ok.2
  exact cX.cutz (b_X7_prevotesNew_94 hG hR ok hx) trivial
def F_X7_prevotesNew_78 (N : Nat) (x0 : Option Nat) (x1 : Option Nat) (s0 : Int32) (S : cS) : Int32 × cS := (if s0 = 0 then (F_X7_prevotesNew_91 N x0 x0 (nI 2) (none : Option Nat) S) else (F_X7_prevotesNew_91 N x0 x0 (nI 2) x1 S))
def O_X7_prevotesNew_78 (N : Nat) (x0 : Option Nat) (x1 : Option Nat) (s0 : Int32) (S : cS) : Prop := ((s0 = 0 → O_X7_prevotesNew_91 N x0 x0 (nI 2) (none : Option Nat) S) ∧ (¬ s0 = 0 → O_X7_prevotesNew_91 N x0 x0 (nI 2) x1 S))
set_option maxRecDepth 100000 in
set_option maxHeartbeats 4000000 in
theorem b_X7_prevotesNew_78 {G : zG} {o : cO} {S : cS} {N : Nat} {Q : Option Value → cS → Prop} {X : Int32 × cS → Prop} (hG : zOK G) (hR : ∀ v S', X (v, S') → Q (some (.int v)) S') {x0 : Option Nat} {x1 : Option Nat} {s0 : Int32} (ok : O_X7_prevotesNew_78 N x0 x1 s0 S) (hx : X (F_X7_prevotesNew_78 N x0 x1 s0 S)) : cX G o dX7_prevotesNew mX7_prevotesNew 78 [some (va_rf x0), some (va_rf x1), none] [.int s0] S Q := by
  unfold O_X7_prevotesNew_78 at ok
  unfold F_X7_prevotesNew_78 at hx
  refine c_istore_2 dX7_prevotesNew_78 (by decide) (by simp [zok, zg, zcat_rf]) ?_
  refine c_aload_nQ dX7_prevotesNew_79 rfl rfl ?_
  refine c_aload_nQ dX7_prevotesNew_80 rfl rfl ?_
  refine c_iconst (v := nI 2) dX7_prevotesNew_81 (by decide) ?_
  refine c_iload_n dX7_prevotesNew_82 rfl rfl ?_
  refine c_if_eq (tgt := 90) dX7_prevotesNew_83 (by decide) (fun c_83 => ?_) (fun c_83 => ?_)
  · have ok := ok.1 c_83
    have hx := xif_p c_83 hx
    refine c_null' dX7_prevotesNew_90 ?_
    exact cX.cutz (b_X7_prevotesNew_91 hG hR ok hx) trivial
  · have ok := ok.2 c_83
    have hx := xif_n c_83 hx
    refine c_aload_nQ dX7_prevotesNew_86 rfl rfl ?_
    refine c_goto (tgt := 91) dX7_prevotesNew_87 (by decide) ?_
    exact cX.cutz (b_X7_prevotesNew_91 hG hR ok hx) trivial
def F_X7_prevotesNew_77 (N : Nat) (x0 : Option Nat) (x1 : Option Nat) (S : cS) : Int32 × cS := (F_X7_prevotesNew_78 N x0 x1 (nI 0) S)
def O_X7_prevotesNew_77 (N : Nat) (x0 : Option Nat) (x1 : Option Nat) (S : cS) : Prop := O_X7_prevotesNew_78 N x0 x1 (nI 0) S
set_option maxRecDepth 100000 in
set_option maxHeartbeats 4000000 in
theorem b_X7_prevotesNew_77 {G : zG} {o : cO} {S : cS} {N : Nat} {Q : Option Value → cS → Prop} {X : Int32 × cS → Prop} (hG : zOK G) (hR : ∀ v S', X (v, S') → Q (some (.int v)) S') {x0 : Option Nat} {x1 : Option Nat} (ok : O_X7_prevotesNew_77 N x0 x1 S) (hx : X (F_X7_prevotesNew_77 N x0 x1 S)) : cX G o dX7_prevotesNew mX7_prevotesNew 77 [some (va_rf x0), some (va_rf x1), none] [] S Q := by
  unfold O_X7_prevotesNew_77 at ok
  unfold F_X7_prevotesNew_77 at hx
  refine c_iconst (v := nI 0) dX7_prevotesNew_77 (by decide) ?_
  exact cX.cutz (b_X7_prevotesNew_78 hG hR ok hx) ⟨rfl, rfl, trivial⟩
def F_X7_prevotesNew_73 (N : Nat) (x0 : Option Nat) (x1 : Option Nat) (S : cS) : Int32 × cS := (F_X7_prevotesNew_78 N x0 x1 (nI 1) S)
def O_X7_prevotesNew_73 (N : Nat) (x0 : Option Nat) (x1 : Option Nat) (S : cS) : Prop := O_X7_prevotesNew_78 N x0 x1 (nI 1) S
set_option maxRecDepth 100000 in
set_option maxHeartbeats 4000000 in
theorem b_X7_prevotesNew_73 {G : zG} {o : cO} {S : cS} {N : Nat} {Q : Option Value → cS → Prop} {X : Int32 × cS → Prop} (hG : zOK G) (hR : ∀ v S', X (v, S') → Q (some (.int v)) S') {x0 : Option Nat} {x1 : Option Nat} (ok : O_X7_prevotesNew_73 N x0 x1 S) (hx : X (F_X7_prevotesNew_73 N x0 x1 S)) : cX G o dX7_prevotesNew mX7_prevotesNew 73 [some (va_rf x0), some (va_rf x1), none] [] S Q := by
  unfold O_X7_prevotesNew_73 at ok
  unfold F_X7_prevotesNew_73 at hx
  refine c_iconst (v := nI 1) dX7_prevotesNew_73 (by decide) ?_
  refine c_goto (tgt := 78) dX7_prevotesNew_74 (by decide) ?_
  exact cX.cutz (b_X7_prevotesNew_78 hG hR ok hx) ⟨rfl, rfl, trivial⟩
def F_X7_prevotesNew_52 (N : Nat) (x0 : Option Nat) (x1 : Option Nat) (s0 : Int32) (S : cS) : Int32 × cS := (if s0 = 0 then (F_X7_prevotesNew_77 N x0 x1 S) else (if (cR S 14 (za x0)) = none then (F_X7_prevotesNew_73 N x0 x1 S) else (if (f_X5_isFor N S (za (cR S 14 (za x0))) x1) = 0 then (F_X7_prevotesNew_77 N x0 x1 S) else (F_X7_prevotesNew_73 N x0 x1 S))))
def O_X7_prevotesNew_52 (N : Nat) (x0 : Option Nat) (x1 : Option Nat) (s0 : Int32) (S : cS) : Prop := ((s0 = 0 → O_X7_prevotesNew_77 N x0 x1 S) ∧ (¬ s0 = 0 → (cis S x0 6) ∧ (((cR S 14 (za x0)) = none → O_X7_prevotesNew_73 N x0 x1 S) ∧ (¬ (cR S 14 (za x0)) = none → (cis S x0 6) ∧ (cis S (cR S 14 (za x0)) 5 ∧ o_X5_isFor N S (za (cR S 14 (za x0))) x1) ∧ (((f_X5_isFor N S (za (cR S 14 (za x0))) x1) = 0 → O_X7_prevotesNew_77 N x0 x1 S) ∧ (¬ (f_X5_isFor N S (za (cR S 14 (za x0))) x1) = 0 → O_X7_prevotesNew_73 N x0 x1 S))))))
set_option maxRecDepth 100000 in
set_option maxHeartbeats 4000000 in
theorem b_X7_prevotesNew_52 {G : zG} {o : cO} {S : cS} {N : Nat} {Q : Option Value → cS → Prop} {X : Int32 × cS → Prop} (hG : zOK G) (hR : ∀ v S', X (v, S') → Q (some (.int v)) S') {x0 : Option Nat} {x1 : Option Nat} {s0 : Int32} (ok : O_X7_prevotesNew_52 N x0 x1 s0 S) (hx : X (F_X7_prevotesNew_52 N x0 x1 s0 S)) : cX G o dX7_prevotesNew mX7_prevotesNew 52 [some (va_rf x0), some (va_rf x1), none] [.int s0] S Q := by
  unfold O_X7_prevotesNew_52 at ok
  unfold F_X7_prevotesNew_52 at hx
  refine c_if_eq (tgt := 77) dX7_prevotesNew_52 (by decide) (fun c_52 => ?_) (fun c_52 => ?_)
  · have ok := ok.1 c_52
    have hx := xif_p c_52 hx
    exact cX.cutz (b_X7_prevotesNew_77 hG hR ok hx) ⟨rfl, rfl, trivial⟩
  · have ok := ok.2 c_52
    have hx := xif_n c_52 hx
    refine c_aload_nQ dX7_prevotesNew_55 rfl rfl ?_
    refine c_getR (C := RX6) (T := TX6) (N := 19) (ci := 5) (k := 14) ⟨rfl, inT6, by decide, fX7_223⟩ (by decide) (by decide) (by decide) dX7_prevotesNew_56 ok.1 ?_
    have ok := ok.2
    refine c_ifnullI (tgt := 73) dX7_prevotesNew_59 (by decide) (fun c_59 => ?_) (fun c_59 => ?_)
    · have ok := ok.1 c_59
      have hx := xif_p c_59 hx
      exact cX.cutz (b_X7_prevotesNew_73 hG hR ok hx) ⟨rfl, rfl, trivial⟩
    · have ok := ok.2 c_59
      have hx := xif_n c_59 hx
      refine c_aload_nQ dX7_prevotesNew_62 rfl rfl ?_
      refine c_getR (C := RX6) (T := TX6) (N := 19) (ci := 5) (k := 14) ⟨rfl, inT6, by decide, fX7_223⟩ (by decide) (by decide) (by decide) dX7_prevotesNew_63 ok.1 ?_
      have ok := ok.2
      refine c_aload_nQ dX7_prevotesNew_66 rfl rfl ?_
      refine c_V1iE (ci := 4) (rr := (RX5, TX5, 7)) (y' := mX5_isFor) dX7_prevotesNew_67 lX7_227 kX5_isFor ⟨by decide, by decide⟩ rfl rfl (by decide) ok.1.1 (Nat.le_of_ble_eq_true rfl) (cc_X5_isFor hG ok.1.2) ?_
      have ok := ok.2
      refine c_if_eq (tgt := 77) dX7_prevotesNew_70 (by decide) (fun c_70 => ?_) (fun c_70 => ?_)
      · have ok := ok.1 c_70
        have hx := xif_p c_70 hx
        exact cX.cutz (b_X7_prevotesNew_77 hG hR ok hx) ⟨rfl, rfl, trivial⟩
      · have ok := ok.2 c_70
        have hx := xif_n c_70 hx
        exact cX.cutz (b_X7_prevotesNew_73 hG hR ok hx) ⟨rfl, rfl, trivial⟩
def F_X7_prevotesNew_42 (N : Nat)  (S : cS) : Int32 × cS := ((nI 0), S)
def O_X7_prevotesNew_42 (N : Nat)  (S : cS) : Prop := True
set_option maxRecDepth 100000 in
set_option maxHeartbeats 4000000 in
theorem b_X7_prevotesNew_42 {G : zG} {o : cO} {S : cS} {N : Nat} {Q : Option Value → cS → Prop} {X : Int32 × cS → Prop} (hG : zOK G) (hR : ∀ v S', X (v, S') → Q (some (.int v)) S') (ok : O_X7_prevotesNew_42 N S) (hx : X (F_X7_prevotesNew_42 N S)) : cX G o dX7_prevotesNew mX7_prevotesNew 42 [none, none, none] [] S Q := by
  unfold O_X7_prevotesNew_42 at ok
  unfold F_X7_prevotesNew_42 at hx
  refine c_iconst (v := nI 0) dX7_prevotesNew_42 (by decide) ?_
  exact c_ireturn rfl rfl dX7_prevotesNew_43 (hR _ _ hx)
def F_X7_prevotesNew_26 (N : Nat) (x0 : Option Nat) (s0 : Option Nat) (S : cS) : Int32 × cS := (if s0 = none then (F_X7_prevotesNew_42 N S) else (if (f_X5_at N S (za s0) (nI 5)) = (nI 255) then (F_X7_prevotesNew_52 N x0 s0 ((f_X7_approves N S x0 (cI S 10 (za x0))).1) (f_X7_approves N S x0 (cI S 10 (za x0))).2) else (F_X7_prevotesNew_42 N S)))
def O_X7_prevotesNew_26 (N : Nat) (x0 : Option Nat) (s0 : Option Nat) (S : cS) : Prop := ((s0 = none → O_X7_prevotesNew_42 N S) ∧ (¬ s0 = none → (cis S s0 5 ∧ o_X5_at N S (za s0) (nI 5)) ∧ (((f_X5_at N S (za s0) (nI 5)) = (nI 255) → (cis S x0 6) ∧ (o_X7_approves N S x0 (cI S 10 (za x0))) ∧ O_X7_prevotesNew_52 N x0 s0 ((f_X7_approves N S x0 (cI S 10 (za x0))).1) (f_X7_approves N S x0 (cI S 10 (za x0))).2) ∧ (¬ (f_X5_at N S (za s0) (nI 5)) = (nI 255) → O_X7_prevotesNew_42 N S))))
set_option maxRecDepth 100000 in
set_option maxHeartbeats 4000000 in
theorem b_X7_prevotesNew_26 {G : zG} {o : cO} {S : cS} {N : Nat} {Q : Option Value → cS → Prop} {X : Int32 × cS → Prop} (hG : zOK G) (hR : ∀ v S', X (v, S') → Q (some (.int v)) S') {x0 : Option Nat} {s0 : Option Nat} (ok : O_X7_prevotesNew_26 N x0 s0 S) (hx : X (F_X7_prevotesNew_26 N x0 s0 S)) : cX G o dX7_prevotesNew mX7_prevotesNew 26 [some (va_rf x0), none, none] [va_rf s0] S Q := by
  unfold O_X7_prevotesNew_26 at ok
  unfold F_X7_prevotesNew_26 at hx
  refine c_astore_1Q dX7_prevotesNew_26 (by decide) (by simp [zok, zg, zcat_rf]) ?_
  refine c_aload_nQ dX7_prevotesNew_27 rfl rfl ?_
  refine c_ifnullI (tgt := 42) dX7_prevotesNew_28 (by decide) (fun c_28 => ?_) (fun c_28 => ?_)
  · have ok := ok.1 c_28
    have hx := xif_p c_28 hx
    exact cX.cutz (b_X7_prevotesNew_42 hG hR ok hx) trivial
  · have ok := ok.2 c_28
    have hx := xif_n c_28 hx
    refine c_aload_nQ dX7_prevotesNew_31 rfl rfl ?_
    refine c_iconst (v := nI 5) dX7_prevotesNew_32 (by decide) ?_
    refine c_V1iE (ci := 4) (rr := (RX5, TX5, 7)) (y' := mX5_at) dX7_prevotesNew_33 lX7_202 kX5_at ⟨by decide, by decide⟩ rfl rfl (by decide) ok.1.1 (Nat.le_of_ble_eq_true rfl) (cc_X5_at hG ok.1.2) ?_
    have ok := ok.2
    refine c_sipush (v := nI 255) dX7_prevotesNew_36 (by decide) ?_
    refine c_icmp_eq (tgt := 44) dX7_prevotesNew_39 (by decide) (fun c_39 => ?_) (fun c_39 => ?_)
    · have ok := ok.1 c_39
      have hx := xif_p c_39 hx
      refine c_aload_nQ dX7_prevotesNew_44 rfl rfl ?_
      refine c_aload_nQ dX7_prevotesNew_45 rfl rfl ?_
      refine c_getI (C := RX6) (T := TX6) (N := 19) (ci := 5) (k := 10) ⟨rfl, inT6, by decide, fX7_213⟩ (by decide) (by decide) (by decide) dX7_prevotesNew_46 ok.1 ?_
      have ok := ok.2
      refine c_S2iE (y' := mX7_approves) dX7_prevotesNew_49 lX7_183 kX7_approves ⟨by decide, by decide⟩ (Nat.le_of_ble_eq_true rfl) (cc_X7_approves hG ok.1) ?_
      have ok := ok.2
      exact cX.cutz (b_X7_prevotesNew_52 hG hR ok hx) ⟨rfl, rfl, trivial⟩
    · have ok := ok.2 c_39
      have hx := xif_n c_39 hx
      exact cX.cutz (b_X7_prevotesNew_42 hG hR ok hx) trivial
def F_X7_prevotesNew_0 (N : Nat) (x0 : Option Nat) (S : cS) : Int32 × cS := (if (cI S 11 (za x0)) = 0 then (F_X7_prevotesNew_26 N x0 (f_X8_proposal N S (za (cR S 3 (za x0))) (cI S 9 (za x0)) (cI S 10 (za x0))) S) else (F_X7_prevotesNew_26 N x0 (none : Option Nat) S))
def O_X7_prevotesNew_0 (N : Nat) (x0 : Option Nat) (S : cS) : Prop := (cis S x0 6) ∧ (((cI S 11 (za x0)) = 0 → (cis S x0 6) ∧ (cis S x0 6) ∧ (cis S x0 6) ∧ (cis S (cR S 3 (za x0)) 7 ∧ o_X8_proposal N S (za (cR S 3 (za x0))) (cI S 9 (za x0)) (cI S 10 (za x0))) ∧ O_X7_prevotesNew_26 N x0 (f_X8_proposal N S (za (cR S 3 (za x0))) (cI S 9 (za x0)) (cI S 10 (za x0))) S) ∧ (¬ (cI S 11 (za x0)) = 0 → O_X7_prevotesNew_26 N x0 (none : Option Nat) S))
set_option maxRecDepth 100000 in
set_option maxHeartbeats 4000000 in
theorem b_X7_prevotesNew_0 {G : zG} {o : cO} {S : cS} {N : Nat} {Q : Option Value → cS → Prop} {X : Int32 × cS → Prop} (hG : zOK G) (hR : ∀ v S', X (v, S') → Q (some (.int v)) S') {x0 : Option Nat} (ok : O_X7_prevotesNew_0 N x0 S) (hx : X (F_X7_prevotesNew_0 N x0 S)) : cX G o dX7_prevotesNew mX7_prevotesNew 0 [some (va_rf x0), none, none] [] S Q := by
  unfold O_X7_prevotesNew_0 at ok
  unfold F_X7_prevotesNew_0 at hx
  refine c_aload_nQ dX7_prevotesNew_0 rfl rfl ?_
  refine c_getI (C := RX6) (T := TX6) (N := 19) (ci := 5) (k := 11) ⟨rfl, inT6, by decide, fX7_220⟩ (by decide) (by decide) (by decide) dX7_prevotesNew_1 ok.1 ?_
  have ok := ok.2
  refine c_if_ne (tgt := 25) dX7_prevotesNew_4 (by decide) (fun c_4 => ?_) (fun c_4 => ?_)
  · have ok := ok.2 c_4
    have hx := xif_n c_4 hx
    refine c_null' dX7_prevotesNew_25 ?_
    exact cX.cutz (b_X7_prevotesNew_26 hG hR ok hx) ⟨rfl, trivial⟩
  · have ok := ok.1 c_4
    have hx := xif_p c_4 hx
    refine c_aload_nQ dX7_prevotesNew_7 rfl rfl ?_
    refine c_getR (C := RX6) (T := TX6) (N := 19) (ci := 5) (k := 3) ⟨rfl, inT6, by decide, fX7_80⟩ (by decide) (by decide) (by decide) dX7_prevotesNew_8 ok.1 ?_
    have ok := ok.2
    refine c_aload_nQ dX7_prevotesNew_11 rfl rfl ?_
    refine c_getI (C := RX6) (T := TX6) (N := 19) (ci := 5) (k := 9) ⟨rfl, inT6, by decide, fX7_18⟩ (by decide) (by decide) (by decide) dX7_prevotesNew_12 ok.1 ?_
    have ok := ok.2
    refine c_aload_nQ dX7_prevotesNew_15 rfl rfl ?_
    refine c_getI (C := RX6) (T := TX6) (N := 19) (ci := 5) (k := 10) ⟨rfl, inT6, by decide, fX7_213⟩ (by decide) (by decide) (by decide) dX7_prevotesNew_16 ok.1 ?_
    have ok := ok.2
    refine c_V2qE (ci := 6) (rr := (RX8, TX8, 14)) (y' := mX8_proposal) dX7_prevotesNew_19 lX7_172 kX8_proposal ⟨by decide, by decide⟩ rfl rfl (by decide) ok.1.1 (Nat.le_of_ble_eq_true rfl) (cc_X8_proposal hG ok.1.2) ?_
    have ok := ok.2
    refine c_goto (tgt := 26) dX7_prevotesNew_22 (by decide) ?_
    exact cX.cutz (b_X7_prevotesNew_26 hG hR ok hx) ⟨rfl, trivial⟩
def f_X7_prevotesNew (N : Nat) (S : cS) (x0 : Option Nat) : Int32 × cS := F_X7_prevotesNew_0 N x0 S
def o_X7_prevotesNew (N : Nat) (S : cS) (x0 : Option Nat) : Prop := O_X7_prevotesNew_0 N x0 S
set_option maxRecDepth 100000 in
set_option maxHeartbeats 4000000 in
theorem cc_X7_prevotesNew {G : zG} {o : cO} {S : cS} {N : Nat} (hG : zOK G) {x0 : Option Nat} (ok : o_X7_prevotesNew N S x0) : cCi G o dX7_prevotesNew mX7_prevotesNew [va_rf x0] S (fun v S' => v = (f_X7_prevotesNew N S x0).1 ∧ S' = (f_X7_prevotesNew N S x0).2) := by
  refine cC.ofX rfl (by cases x0 <;> exact Nat.le_of_ble_eq_true rfl) ?_
  rw [show zargs mX7_prevotesNew.2.2.1 [va_rf x0] = [some (va_rf x0), none, none] from by cases x0 <;> rfl]
  exact cX.cutz (b_X7_prevotesNew_0 (X := fun F => F = f_X7_prevotesNew N S x0) hG (fun v S' h => ⟨v, rfl, by rw [← h], by rw [← h]⟩) ok rfl) ⟨rfl, trivial⟩
/-! X7_prevotesOld -/
def F_X7_prevotesOld_139 (N : Nat)  (S : cS) : Int32 × cS := ((nI 1), S)
def O_X7_prevotesOld_139 (N : Nat)  (S : cS) : Prop := True
set_option maxRecDepth 100000 in
set_option maxHeartbeats 4000000 in
theorem b_X7_prevotesOld_139 {G : zG} {o : cO} {S : cS} {N : Nat} {Q : Option Value → cS → Prop} {X : Int32 × cS → Prop} (hG : zOK G) (hR : ∀ v S', X (v, S') → Q (some (.int v)) S') (ok : O_X7_prevotesOld_139 N S) (hx : X (F_X7_prevotesOld_139 N S)) : cX G o dX7_prevotesOld mX7_prevotesOld 139 [none, none, none, none] [] S Q := by
  unfold O_X7_prevotesOld_139 at ok
  unfold F_X7_prevotesOld_139 at hx
  refine c_iconst (v := nI 1) dX7_prevotesOld_139 (by decide) ?_
  exact c_ireturn rfl rfl dX7_prevotesOld_140 (hR _ _ hx)
def F_X7_prevotesOld_135 (N : Nat) (s0 : Option Nat) (s1 : Option Nat) (S : cS) : Int32 × cS := (F_X7_prevotesOld_139 N (f_X7_utter N S s0 s1 (nI 1)))
def O_X7_prevotesOld_135 (N : Nat) (s0 : Option Nat) (s1 : Option Nat) (S : cS) : Prop := (o_X7_utter N S s0 s1 (nI 1)) ∧ O_X7_prevotesOld_139 N (f_X7_utter N S s0 s1 (nI 1))
set_option maxRecDepth 100000 in
set_option maxHeartbeats 4000000 in
theorem b_X7_prevotesOld_135 {G : zG} {o : cO} {S : cS} {N : Nat} {Q : Option Value → cS → Prop} {X : Int32 × cS → Prop} (hG : zOK G) (hR : ∀ v S', X (v, S') → Q (some (.int v)) S') {s0 : Option Nat} {s1 : Option Nat} (ok : O_X7_prevotesOld_135 N s0 s1 S) (hx : X (F_X7_prevotesOld_135 N s0 s1 S)) : cX G o dX7_prevotesOld mX7_prevotesOld 135 [none, none, none, none] [va_rf s1, va_rf s0] S Q := by
  unfold O_X7_prevotesOld_135 at ok
  unfold F_X7_prevotesOld_135 at hx
  refine c_iconst (v := nI 1) dX7_prevotesOld_135 (by decide) ?_
  refine c_S3vE (y' := mX7_utter) dX7_prevotesOld_136 lX7_234 kX7_utter ⟨by decide, by decide⟩ (Nat.le_of_ble_eq_true rfl) (cc_X7_utter hG ok.1) ?_
  have ok := ok.2
  exact cX.cutz (b_X7_prevotesOld_139 hG hR ok hx) trivial
def F_X7_prevotesOld_132 (N : Nat) (s0 : Option Nat) (s1 : Option Nat) (s2 : Int32) (s3 : Option Nat) (S : cS) : Int32 × cS := (F_X7_prevotesOld_135 N s0 ((f_X6_vote N S (za s1) s2 s3).1) (f_X6_vote N S (za s1) s2 s3).2)
def O_X7_prevotesOld_132 (N : Nat) (s0 : Option Nat) (s1 : Option Nat) (s2 : Int32) (s3 : Option Nat) (S : cS) : Prop := (cis S s1 6 ∧ o_X6_vote N S (za s1) s2 s3) ∧ O_X7_prevotesOld_135 N s0 ((f_X6_vote N S (za s1) s2 s3).1) (f_X6_vote N S (za s1) s2 s3).2
set_option maxRecDepth 100000 in
set_option maxHeartbeats 4000000 in
theorem b_X7_prevotesOld_132 {G : zG} {o : cO} {S : cS} {N : Nat} {Q : Option Value → cS → Prop} {X : Int32 × cS → Prop} (hG : zOK G) (hR : ∀ v S', X (v, S') → Q (some (.int v)) S') {s0 : Option Nat} {s1 : Option Nat} {s2 : Int32} {s3 : Option Nat} (ok : O_X7_prevotesOld_132 N s0 s1 s2 s3 S) (hx : X (F_X7_prevotesOld_132 N s0 s1 s2 s3 S)) : cX G o dX7_prevotesOld mX7_prevotesOld 132 [none, none, none, none] [va_rf s3, .int s2, va_rf s1, va_rf s0] S Q := by
  unfold O_X7_prevotesOld_132 at ok
  unfold F_X7_prevotesOld_132 at hx
  refine c_V2qE (ci := 5) (rr := (RX6, TX6, 19)) (y' := mX6_vote) dX7_prevotesOld_132 lX7_230 kX6_vote ⟨by decide, by decide⟩ rfl rfl (by decide) ok.1.1 (by simp only [List.map_cons, List.map_nil, List.sum_cons, List.sum_nil, zcat_rf, zcat_i, zcat_l, zcat_r] <;> decide) (cc_X6_vote hG ok.1.2) ?_
  have ok := ok.2
  exact cX.cutz (b_X7_prevotesOld_135 hG hR ok hx) trivial
def F_X7_prevotesOld_119 (N : Nat) (x0 : Option Nat) (x1 : Option Nat) (s0 : Int32) (S : cS) : Int32 × cS := (if s0 = 0 then (F_X7_prevotesOld_132 N x0 x0 (nI 2) (none : Option Nat) S) else (F_X7_prevotesOld_132 N x0 x0 (nI 2) x1 S))
def O_X7_prevotesOld_119 (N : Nat) (x0 : Option Nat) (x1 : Option Nat) (s0 : Int32) (S : cS) : Prop := ((s0 = 0 → O_X7_prevotesOld_132 N x0 x0 (nI 2) (none : Option Nat) S) ∧ (¬ s0 = 0 → O_X7_prevotesOld_132 N x0 x0 (nI 2) x1 S))
set_option maxRecDepth 100000 in
set_option maxHeartbeats 4000000 in
theorem b_X7_prevotesOld_119 {G : zG} {o : cO} {S : cS} {N : Nat} {Q : Option Value → cS → Prop} {X : Int32 × cS → Prop} (hG : zOK G) (hR : ∀ v S', X (v, S') → Q (some (.int v)) S') {x0 : Option Nat} {x1 : Option Nat} {s0 : Int32} (ok : O_X7_prevotesOld_119 N x0 x1 s0 S) (hx : X (F_X7_prevotesOld_119 N x0 x1 s0 S)) : cX G o dX7_prevotesOld mX7_prevotesOld 119 [some (va_rf x0), some (va_rf x1), none, none] [.int s0] S Q := by
  unfold O_X7_prevotesOld_119 at ok
  unfold F_X7_prevotesOld_119 at hx
  refine c_istore_3 dX7_prevotesOld_119 (by decide) rfl ?_
  refine c_aload_nQ dX7_prevotesOld_120 rfl rfl ?_
  refine c_aload_nQ dX7_prevotesOld_121 rfl rfl ?_
  refine c_iconst (v := nI 2) dX7_prevotesOld_122 (by decide) ?_
  refine c_iload_n dX7_prevotesOld_123 rfl rfl ?_
  refine c_if_eq (tgt := 131) dX7_prevotesOld_124 (by decide) (fun c_124 => ?_) (fun c_124 => ?_)
  · have ok := ok.1 c_124
    have hx := xif_p c_124 hx
    refine c_null' dX7_prevotesOld_131 ?_
    exact cX.cutz (b_X7_prevotesOld_132 hG hR ok hx) trivial
  · have ok := ok.2 c_124
    have hx := xif_n c_124 hx
    refine c_aload_nQ dX7_prevotesOld_127 rfl rfl ?_
    refine c_goto (tgt := 132) dX7_prevotesOld_128 (by decide) ?_
    exact cX.cutz (b_X7_prevotesOld_132 hG hR ok hx) trivial
def F_X7_prevotesOld_118 (N : Nat) (x0 : Option Nat) (x1 : Option Nat) (S : cS) : Int32 × cS := (F_X7_prevotesOld_119 N x0 x1 (nI 0) S)
def O_X7_prevotesOld_118 (N : Nat) (x0 : Option Nat) (x1 : Option Nat) (S : cS) : Prop := O_X7_prevotesOld_119 N x0 x1 (nI 0) S
set_option maxRecDepth 100000 in
set_option maxHeartbeats 4000000 in
theorem b_X7_prevotesOld_118 {G : zG} {o : cO} {S : cS} {N : Nat} {Q : Option Value → cS → Prop} {X : Int32 × cS → Prop} (hG : zOK G) (hR : ∀ v S', X (v, S') → Q (some (.int v)) S') {x0 : Option Nat} {x1 : Option Nat} (ok : O_X7_prevotesOld_118 N x0 x1 S) (hx : X (F_X7_prevotesOld_118 N x0 x1 S)) : cX G o dX7_prevotesOld mX7_prevotesOld 118 [some (va_rf x0), some (va_rf x1), none, none] [] S Q := by
  unfold O_X7_prevotesOld_118 at ok
  unfold F_X7_prevotesOld_118 at hx
  refine c_iconst (v := nI 0) dX7_prevotesOld_118 (by decide) ?_
  exact cX.cutz (b_X7_prevotesOld_119 hG hR ok hx) ⟨rfl, rfl, trivial⟩
def F_X7_prevotesOld_114 (N : Nat) (x0 : Option Nat) (x1 : Option Nat) (S : cS) : Int32 × cS := (F_X7_prevotesOld_119 N x0 x1 (nI 1) S)
def O_X7_prevotesOld_114 (N : Nat) (x0 : Option Nat) (x1 : Option Nat) (S : cS) : Prop := O_X7_prevotesOld_119 N x0 x1 (nI 1) S
set_option maxRecDepth 100000 in
set_option maxHeartbeats 4000000 in
theorem b_X7_prevotesOld_114 {G : zG} {o : cO} {S : cS} {N : Nat} {Q : Option Value → cS → Prop} {X : Int32 × cS → Prop} (hG : zOK G) (hR : ∀ v S', X (v, S') → Q (some (.int v)) S') {x0 : Option Nat} {x1 : Option Nat} (ok : O_X7_prevotesOld_114 N x0 x1 S) (hx : X (F_X7_prevotesOld_114 N x0 x1 S)) : cX G o dX7_prevotesOld mX7_prevotesOld 114 [some (va_rf x0), some (va_rf x1), none, none] [] S Q := by
  unfold O_X7_prevotesOld_114 at ok
  unfold F_X7_prevotesOld_114 at hx
  refine c_iconst (v := nI 1) dX7_prevotesOld_114 (by decide) ?_
  refine c_goto (tgt := 119) dX7_prevotesOld_115 (by decide) ?_
  exact cX.cutz (b_X7_prevotesOld_119 hG hR ok hx) ⟨rfl, rfl, trivial⟩
def F_X7_prevotesOld_85 (N : Nat) (x0 : Option Nat) (x1 : Option Nat) (x2 : Int32) (s0 : Int32) (S : cS) : Int32 × cS := (if s0 = 0 then (F_X7_prevotesOld_118 N x0 x1 S) else (if (cI S 12 (za x0)) ≤ x2 then (F_X7_prevotesOld_114 N x0 x1 S) else (if (cR S 14 (za x0)) = none then (F_X7_prevotesOld_118 N x0 x1 S) else (if (f_X5_isFor N S (za (cR S 14 (za x0))) x1) = 0 then (F_X7_prevotesOld_118 N x0 x1 S) else (F_X7_prevotesOld_114 N x0 x1 S)))))
def O_X7_prevotesOld_85 (N : Nat) (x0 : Option Nat) (x1 : Option Nat) (x2 : Int32) (s0 : Int32) (S : cS) : Prop := ((s0 = 0 → O_X7_prevotesOld_118 N x0 x1 S) ∧ (¬ s0 = 0 → (cis S x0 6) ∧ (((cI S 12 (za x0)) ≤ x2 → O_X7_prevotesOld_114 N x0 x1 S) ∧ (¬ (cI S 12 (za x0)) ≤ x2 → (cis S x0 6) ∧ (((cR S 14 (za x0)) = none → O_X7_prevotesOld_118 N x0 x1 S) ∧ (¬ (cR S 14 (za x0)) = none → (cis S x0 6) ∧ (cis S (cR S 14 (za x0)) 5 ∧ o_X5_isFor N S (za (cR S 14 (za x0))) x1) ∧ (((f_X5_isFor N S (za (cR S 14 (za x0))) x1) = 0 → O_X7_prevotesOld_118 N x0 x1 S) ∧ (¬ (f_X5_isFor N S (za (cR S 14 (za x0))) x1) = 0 → O_X7_prevotesOld_114 N x0 x1 S))))))))
set_option maxRecDepth 100000 in
set_option maxHeartbeats 4000000 in
theorem b_X7_prevotesOld_85 {G : zG} {o : cO} {S : cS} {N : Nat} {Q : Option Value → cS → Prop} {X : Int32 × cS → Prop} (hG : zOK G) (hR : ∀ v S', X (v, S') → Q (some (.int v)) S') {x0 : Option Nat} {x1 : Option Nat} {x2 : Int32} {s0 : Int32} (ok : O_X7_prevotesOld_85 N x0 x1 x2 s0 S) (hx : X (F_X7_prevotesOld_85 N x0 x1 x2 s0 S)) : cX G o dX7_prevotesOld mX7_prevotesOld 85 [some (va_rf x0), some (va_rf x1), some (.int x2), none] [.int s0] S Q := by
  unfold O_X7_prevotesOld_85 at ok
  unfold F_X7_prevotesOld_85 at hx
  refine c_if_eq (tgt := 118) dX7_prevotesOld_85 (by decide) (fun c_85 => ?_) (fun c_85 => ?_)
  · have ok := ok.1 c_85
    have hx := xif_p c_85 hx
    exact cX.cutz (b_X7_prevotesOld_118 hG hR ok hx) ⟨rfl, rfl, trivial⟩
  · have ok := ok.2 c_85
    have hx := xif_n c_85 hx
    refine c_aload_nQ dX7_prevotesOld_88 rfl rfl ?_
    refine c_getI (C := RX6) (T := TX6) (N := 19) (ci := 5) (k := 12) ⟨rfl, inT6, by decide, fX7_237⟩ (by decide) (by decide) (by decide) dX7_prevotesOld_89 ok.1 ?_
    have ok := ok.2
    refine c_iload_n dX7_prevotesOld_92 rfl rfl ?_
    refine c_icmp_le (tgt := 114) dX7_prevotesOld_93 (by decide) (fun c_93 => ?_) (fun c_93 => ?_)
    · have ok := ok.1 c_93
      have hx := xif_p c_93 hx
      exact cX.cutz (b_X7_prevotesOld_114 hG hR ok hx) ⟨rfl, rfl, trivial⟩
    · have ok := ok.2 c_93
      have hx := xif_n c_93 hx
      refine c_aload_nQ dX7_prevotesOld_96 rfl rfl ?_
      refine c_getR (C := RX6) (T := TX6) (N := 19) (ci := 5) (k := 14) ⟨rfl, inT6, by decide, fX7_223⟩ (by decide) (by decide) (by decide) dX7_prevotesOld_97 ok.1 ?_
      have ok := ok.2
      refine c_ifnullI (tgt := 118) dX7_prevotesOld_100 (by decide) (fun c_100 => ?_) (fun c_100 => ?_)
      · have ok := ok.1 c_100
        have hx := xif_p c_100 hx
        exact cX.cutz (b_X7_prevotesOld_118 hG hR ok hx) ⟨rfl, rfl, trivial⟩
      · have ok := ok.2 c_100
        have hx := xif_n c_100 hx
        refine c_aload_nQ dX7_prevotesOld_103 rfl rfl ?_
        refine c_getR (C := RX6) (T := TX6) (N := 19) (ci := 5) (k := 14) ⟨rfl, inT6, by decide, fX7_223⟩ (by decide) (by decide) (by decide) dX7_prevotesOld_104 ok.1 ?_
        have ok := ok.2
        refine c_aload_nQ dX7_prevotesOld_107 rfl rfl ?_
        refine c_V1iE (ci := 4) (rr := (RX5, TX5, 7)) (y' := mX5_isFor) dX7_prevotesOld_108 lX7_227 kX5_isFor ⟨by decide, by decide⟩ rfl rfl (by decide) ok.1.1 (Nat.le_of_ble_eq_true rfl) (cc_X5_isFor hG ok.1.2) ?_
        have ok := ok.2
        refine c_if_eq (tgt := 118) dX7_prevotesOld_111 (by decide) (fun c_111 => ?_) (fun c_111 => ?_)
        · have ok := ok.1 c_111
          have hx := xif_p c_111 hx
          exact cX.cutz (b_X7_prevotesOld_118 hG hR ok hx) ⟨rfl, rfl, trivial⟩
        · have ok := ok.2 c_111
          have hx := xif_n c_111 hx
          exact cX.cutz (b_X7_prevotesOld_114 hG hR ok hx) ⟨rfl, rfl, trivial⟩
def F_X7_prevotesOld_43 (N : Nat)  (S : cS) : Int32 × cS := ((nI 0), S)
def O_X7_prevotesOld_43 (N : Nat)  (S : cS) : Prop := True
set_option maxRecDepth 100000 in
set_option maxHeartbeats 4000000 in
theorem b_X7_prevotesOld_43 {G : zG} {o : cO} {S : cS} {N : Nat} {Q : Option Value → cS → Prop} {X : Int32 × cS → Prop} (hG : zOK G) (hR : ∀ v S', X (v, S') → Q (some (.int v)) S') (ok : O_X7_prevotesOld_43 N S) (hx : X (F_X7_prevotesOld_43 N S)) : cX G o dX7_prevotesOld mX7_prevotesOld 43 [none, none, none, none] [] S Q := by
  unfold O_X7_prevotesOld_43 at ok
  unfold F_X7_prevotesOld_43 at hx
  refine c_iconst (v := nI 0) dX7_prevotesOld_43 (by decide) ?_
  exact c_ireturn rfl rfl dX7_prevotesOld_44 (hR _ _ hx)
def F_X7_prevotesOld_26 (N : Nat) (x0 : Option Nat) (s0 : Option Nat) (S : cS) : Int32 × cS := (if s0 = none then (F_X7_prevotesOld_43 N S) else (if (f_X5_at N S (za s0) (nI 5)) < (cI S 10 (za x0)) then (if (cI S 3 (za (cR S 0 (za x0)))) ≤ (f_X8_votesFor N S (za (cR S 3 (za x0))) (nI 2) (cI S 9 (za x0)) (f_X5_at N S (za s0) (nI 5)) s0) then (F_X7_prevotesOld_85 N x0 s0 (f_X5_at N S (za s0) (nI 5)) ((f_X7_approves N S x0 (cI S 10 (za x0))).1) (f_X7_approves N S x0 (cI S 10 (za x0))).2) else ((nI 0), S)) else (F_X7_prevotesOld_43 N S)))
def O_X7_prevotesOld_26 (N : Nat) (x0 : Option Nat) (s0 : Option Nat) (S : cS) : Prop := ((s0 = none → O_X7_prevotesOld_43 N S) ∧ (¬ s0 = none → (cis S s0 5 ∧ o_X5_at N S (za s0) (nI 5)) ∧ (cis S x0 6) ∧ (((f_X5_at N S (za s0) (nI 5)) < (cI S 10 (za x0)) → (cis S s0 5 ∧ o_X5_at N S (za s0) (nI 5)) ∧ (cis S x0 6) ∧ (cis S x0 6) ∧ (cis S (cR S 3 (za x0)) 7 ∧ o_X8_votesFor N S (za (cR S 3 (za x0))) (nI 2) (cI S 9 (za x0)) (f_X5_at N S (za s0) (nI 5)) s0) ∧ (cis S x0 6) ∧ (cis S (cR S 0 (za x0)) 9) ∧ (((cI S 3 (za (cR S 0 (za x0)))) ≤ (f_X8_votesFor N S (za (cR S 3 (za x0))) (nI 2) (cI S 9 (za x0)) (f_X5_at N S (za s0) (nI 5)) s0) → (cis S x0 6) ∧ (o_X7_approves N S x0 (cI S 10 (za x0))) ∧ O_X7_prevotesOld_85 N x0 s0 (f_X5_at N S (za s0) (nI 5)) ((f_X7_approves N S x0 (cI S 10 (za x0))).1) (f_X7_approves N S x0 (cI S 10 (za x0))).2) ∧ (¬ (cI S 3 (za (cR S 0 (za x0)))) ≤ (f_X8_votesFor N S (za (cR S 3 (za x0))) (nI 2) (cI S 9 (za x0)) (f_X5_at N S (za s0) (nI 5)) s0) → True))) ∧ (¬ (f_X5_at N S (za s0) (nI 5)) < (cI S 10 (za x0)) → O_X7_prevotesOld_43 N S))))
set_option maxRecDepth 100000 in
set_option maxHeartbeats 4000000 in
theorem b_X7_prevotesOld_26 {G : zG} {o : cO} {S : cS} {N : Nat} {Q : Option Value → cS → Prop} {X : Int32 × cS → Prop} (hG : zOK G) (hR : ∀ v S', X (v, S') → Q (some (.int v)) S') {x0 : Option Nat} {s0 : Option Nat} (ok : O_X7_prevotesOld_26 N x0 s0 S) (hx : X (F_X7_prevotesOld_26 N x0 s0 S)) : cX G o dX7_prevotesOld mX7_prevotesOld 26 [some (va_rf x0), none, none, none] [va_rf s0] S Q := by
  unfold O_X7_prevotesOld_26 at ok
  unfold F_X7_prevotesOld_26 at hx
  refine c_astore_1Q dX7_prevotesOld_26 (by decide) (by simp [zok, zg, zcat_rf]) ?_
  refine c_aload_nQ dX7_prevotesOld_27 rfl rfl ?_
  refine c_ifnullI (tgt := 43) dX7_prevotesOld_28 (by decide) (fun c_28 => ?_) (fun c_28 => ?_)
  · have ok := ok.1 c_28
    have hx := xif_p c_28 hx
    exact cX.cutz (b_X7_prevotesOld_43 hG hR ok hx) trivial
  · have ok := ok.2 c_28
    have hx := xif_n c_28 hx
    refine c_aload_nQ dX7_prevotesOld_31 rfl rfl ?_
    refine c_iconst (v := nI 5) dX7_prevotesOld_32 (by decide) ?_
    refine c_V1iE (ci := 4) (rr := (RX5, TX5, 7)) (y' := mX5_at) dX7_prevotesOld_33 lX7_202 kX5_at ⟨by decide, by decide⟩ rfl rfl (by decide) ok.1.1 (Nat.le_of_ble_eq_true rfl) (cc_X5_at hG ok.1.2) ?_
    have ok := ok.2
    refine c_aload_nQ dX7_prevotesOld_36 rfl rfl ?_
    refine c_getI (C := RX6) (T := TX6) (N := 19) (ci := 5) (k := 10) ⟨rfl, inT6, by decide, fX7_213⟩ (by decide) (by decide) (by decide) dX7_prevotesOld_37 ok.1 ?_
    have ok := ok.2
    refine c_icmp_lt (tgt := 45) dX7_prevotesOld_40 (by decide) (fun c_40 => ?_) (fun c_40 => ?_)
    · have ok := ok.1 c_40
      have hx := xif_p c_40 hx
      refine c_aload_nQ dX7_prevotesOld_45 rfl rfl ?_
      refine c_iconst (v := nI 5) dX7_prevotesOld_46 (by decide) ?_
      refine c_V1iE (ci := 4) (rr := (RX5, TX5, 7)) (y' := mX5_at) dX7_prevotesOld_47 lX7_202 kX5_at ⟨by decide, by decide⟩ rfl rfl (by decide) ok.1.1 (Nat.le_of_ble_eq_true rfl) (cc_X5_at hG ok.1.2) ?_
      have ok := ok.2
      refine c_istore_2 dX7_prevotesOld_50 (by decide) (by simp [zok, zg, zcat_rf]) ?_
      refine c_aload_nQ dX7_prevotesOld_51 rfl rfl ?_
      refine c_getR (C := RX6) (T := TX6) (N := 19) (ci := 5) (k := 3) ⟨rfl, inT6, by decide, fX7_80⟩ (by decide) (by decide) (by decide) dX7_prevotesOld_52 ok.1 ?_
      have ok := ok.2
      refine c_iconst (v := nI 2) dX7_prevotesOld_55 (by decide) ?_
      refine c_aload_nQ dX7_prevotesOld_56 rfl rfl ?_
      refine c_getI (C := RX6) (T := TX6) (N := 19) (ci := 5) (k := 9) ⟨rfl, inT6, by decide, fX7_18⟩ (by decide) (by decide) (by decide) dX7_prevotesOld_57 ok.1 ?_
      have ok := ok.2
      refine c_iload_n dX7_prevotesOld_60 rfl rfl ?_
      refine c_aload_nQ dX7_prevotesOld_61 rfl rfl ?_
      refine c_V4iE (ci := 6) (rr := (RX8, TX8, 14)) (y' := mX8_votesFor) dX7_prevotesOld_62 lX7_176 kX8_votesFor ⟨by decide, by decide⟩ rfl rfl (by decide) ok.1.1 (Nat.le_of_ble_eq_true rfl) (cc_X8_votesFor hG ok.1.2) ?_
      have ok := ok.2
      refine c_aload_nQ dX7_prevotesOld_65 rfl rfl ?_
      refine c_getR (C := RX6) (T := TX6) (N := 19) (ci := 5) (k := 0) ⟨rfl, inT6, by decide, fX7_26⟩ (by decide) (by decide) (by decide) dX7_prevotesOld_66 ok.1 ?_
      have ok := ok.2
      refine c_getI (C := RX10) (T := TX10) (N := 12) (ci := 8) (k := 3) ⟨rfl, inT10, by decide, fX7_180⟩ (by decide) (by decide) (by decide) dX7_prevotesOld_69 ok.1 ?_
      have ok := ok.2
      refine c_icmp_ge (tgt := 77) dX7_prevotesOld_72 (by decide) (fun c_72 => ?_) (fun c_72 => ?_)
      · have ok := ok.1 c_72
        have hx := xif_p c_72 hx
        refine c_aload_nQ dX7_prevotesOld_77 rfl rfl ?_
        refine c_aload_nQ dX7_prevotesOld_78 rfl rfl ?_
        refine c_getI (C := RX6) (T := TX6) (N := 19) (ci := 5) (k := 10) ⟨rfl, inT6, by decide, fX7_213⟩ (by decide) (by decide) (by decide) dX7_prevotesOld_79 ok.1 ?_
        have ok := ok.2
        refine c_S2iE (y' := mX7_approves) dX7_prevotesOld_82 lX7_183 kX7_approves ⟨by decide, by decide⟩ (Nat.le_of_ble_eq_true rfl) (cc_X7_approves hG ok.1) ?_
        have ok := ok.2
        exact cX.cutz (b_X7_prevotesOld_85 hG hR ok hx) ⟨rfl, rfl, rfl, trivial⟩
      · have ok := ok.2 c_72
        have hx := xif_n c_72 hx
        refine c_iconst (v := nI 0) dX7_prevotesOld_75 (by decide) ?_
        exact c_ireturn rfl rfl dX7_prevotesOld_76 (hR _ _ hx)
    · have ok := ok.2 c_40
      have hx := xif_n c_40 hx
      exact cX.cutz (b_X7_prevotesOld_43 hG hR ok hx) trivial
def F_X7_prevotesOld_0 (N : Nat) (x0 : Option Nat) (S : cS) : Int32 × cS := (if (cI S 11 (za x0)) = 0 then (F_X7_prevotesOld_26 N x0 (f_X8_proposal N S (za (cR S 3 (za x0))) (cI S 9 (za x0)) (cI S 10 (za x0))) S) else (F_X7_prevotesOld_26 N x0 (none : Option Nat) S))
def O_X7_prevotesOld_0 (N : Nat) (x0 : Option Nat) (S : cS) : Prop := (cis S x0 6) ∧ (((cI S 11 (za x0)) = 0 → (cis S x0 6) ∧ (cis S x0 6) ∧ (cis S x0 6) ∧ (cis S (cR S 3 (za x0)) 7 ∧ o_X8_proposal N S (za (cR S 3 (za x0))) (cI S 9 (za x0)) (cI S 10 (za x0))) ∧ O_X7_prevotesOld_26 N x0 (f_X8_proposal N S (za (cR S 3 (za x0))) (cI S 9 (za x0)) (cI S 10 (za x0))) S) ∧ (¬ (cI S 11 (za x0)) = 0 → O_X7_prevotesOld_26 N x0 (none : Option Nat) S))
set_option maxRecDepth 100000 in
set_option maxHeartbeats 4000000 in
theorem b_X7_prevotesOld_0 {G : zG} {o : cO} {S : cS} {N : Nat} {Q : Option Value → cS → Prop} {X : Int32 × cS → Prop} (hG : zOK G) (hR : ∀ v S', X (v, S') → Q (some (.int v)) S') {x0 : Option Nat} (ok : O_X7_prevotesOld_0 N x0 S) (hx : X (F_X7_prevotesOld_0 N x0 S)) : cX G o dX7_prevotesOld mX7_prevotesOld 0 [some (va_rf x0), none, none, none] [] S Q := by
  unfold O_X7_prevotesOld_0 at ok
  unfold F_X7_prevotesOld_0 at hx
  refine c_aload_nQ dX7_prevotesOld_0 rfl rfl ?_
  refine c_getI (C := RX6) (T := TX6) (N := 19) (ci := 5) (k := 11) ⟨rfl, inT6, by decide, fX7_220⟩ (by decide) (by decide) (by decide) dX7_prevotesOld_1 ok.1 ?_
  have ok := ok.2
  refine c_if_ne (tgt := 25) dX7_prevotesOld_4 (by decide) (fun c_4 => ?_) (fun c_4 => ?_)
  · have ok := ok.2 c_4
    have hx := xif_n c_4 hx
    refine c_null' dX7_prevotesOld_25 ?_
    exact cX.cutz (b_X7_prevotesOld_26 hG hR ok hx) ⟨rfl, trivial⟩
  · have ok := ok.1 c_4
    have hx := xif_p c_4 hx
    refine c_aload_nQ dX7_prevotesOld_7 rfl rfl ?_
    refine c_getR (C := RX6) (T := TX6) (N := 19) (ci := 5) (k := 3) ⟨rfl, inT6, by decide, fX7_80⟩ (by decide) (by decide) (by decide) dX7_prevotesOld_8 ok.1 ?_
    have ok := ok.2
    refine c_aload_nQ dX7_prevotesOld_11 rfl rfl ?_
    refine c_getI (C := RX6) (T := TX6) (N := 19) (ci := 5) (k := 9) ⟨rfl, inT6, by decide, fX7_18⟩ (by decide) (by decide) (by decide) dX7_prevotesOld_12 ok.1 ?_
    have ok := ok.2
    refine c_aload_nQ dX7_prevotesOld_15 rfl rfl ?_
    refine c_getI (C := RX6) (T := TX6) (N := 19) (ci := 5) (k := 10) ⟨rfl, inT6, by decide, fX7_213⟩ (by decide) (by decide) (by decide) dX7_prevotesOld_16 ok.1 ?_
    have ok := ok.2
    refine c_V2qE (ci := 6) (rr := (RX8, TX8, 14)) (y' := mX8_proposal) dX7_prevotesOld_19 lX7_172 kX8_proposal ⟨by decide, by decide⟩ rfl rfl (by decide) ok.1.1 (Nat.le_of_ble_eq_true rfl) (cc_X8_proposal hG ok.1.2) ?_
    have ok := ok.2
    refine c_goto (tgt := 26) dX7_prevotesOld_22 (by decide) ?_
    exact cX.cutz (b_X7_prevotesOld_26 hG hR ok hx) ⟨rfl, trivial⟩
def f_X7_prevotesOld (N : Nat) (S : cS) (x0 : Option Nat) : Int32 × cS := F_X7_prevotesOld_0 N x0 S
def o_X7_prevotesOld (N : Nat) (S : cS) (x0 : Option Nat) : Prop := O_X7_prevotesOld_0 N x0 S
set_option maxRecDepth 100000 in
set_option maxHeartbeats 4000000 in
theorem cc_X7_prevotesOld {G : zG} {o : cO} {S : cS} {N : Nat} (hG : zOK G) {x0 : Option Nat} (ok : o_X7_prevotesOld N S x0) : cCi G o dX7_prevotesOld mX7_prevotesOld [va_rf x0] S (fun v S' => v = (f_X7_prevotesOld N S x0).1 ∧ S' = (f_X7_prevotesOld N S x0).2) := by
  refine cC.ofX rfl (by cases x0 <;> exact Nat.le_of_ble_eq_true rfl) ?_
  rw [show zargs mX7_prevotesOld.2.2.1 [va_rf x0] = [some (va_rf x0), none, none, none] from by cases x0 <;> rfl]
  exact cX.cutz (b_X7_prevotesOld_0 (X := fun F => F = f_X7_prevotesOld N S x0) hG (fun v S' h => ⟨v, rfl, by rw [← h], by rw [← h]⟩) ok rfl) ⟨rfl, trivial⟩

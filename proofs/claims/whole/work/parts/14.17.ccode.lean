/-! X7_locks -/
def F_X7_locks_215 (N : Nat)  (S : cS) : Int32 × cS := ((nI 1), S)
def O_X7_locks_215 (N : Nat)  (S : cS) : Prop := True
set_option maxRecDepth 100000 in
set_option maxHeartbeats 4000000 in
theorem b_X7_locks_215 {G : zG} {o : cO} {S : cS} {N : Nat} {Q : Option Value → cS → Prop} {X : Int32 × cS → Prop} (hG : zOK G) (hR : ∀ v S', X (v, S') → Q (some (.int v)) S') (ok : O_X7_locks_215 N S) (hx : X (F_X7_locks_215 N S)) : cX G o dX7_locks mX7_locks 215 [none, none] [] S Q := by
  unfold O_X7_locks_215 at ok
  unfold F_X7_locks_215 at hx
  refine c_iconst (v := nI 1) dX7_locks_215 (by decide) ?_
  exact c_ireturn rfl rfl dX7_locks_216 (hR _ _ hx)
def F_X7_locks_204 (N : Nat)  (S : cS) : Int32 × cS := ((nI 1), S)
def O_X7_locks_204 (N : Nat)  (S : cS) : Prop := True
set_option maxRecDepth 100000 in
set_option maxHeartbeats 4000000 in
theorem b_X7_locks_204 {G : zG} {o : cO} {S : cS} {N : Nat} {Q : Option Value → cS → Prop} {X : Int32 × cS → Prop} (hG : zOK G) (hR : ∀ v S', X (v, S') → Q (some (.int v)) S') (ok : O_X7_locks_204 N S) (hx : X (F_X7_locks_204 N S)) : cX G o dX7_locks mX7_locks 204 [none, none] [] S Q := by
  unfold O_X7_locks_204 at ok
  unfold F_X7_locks_204 at hx
  refine c_iconst (v := nI 1) dX7_locks_204 (by decide) ?_
  exact c_ireturn rfl rfl dX7_locks_205 (hR _ _ hx)
def F_X7_locks_197 (N : Nat) (x0 : Option Nat) (x1 : Option Nat) (s0 : Int32) (S : cS) : Int32 × cS := (if s0 = 0 then (F_X7_locks_204 N (f_X6_fall N S (za x0))) else (F_X7_locks_215 N (f_X6_setValid N S (za x0) x1 (cI S 10 (za x0)))))
def O_X7_locks_197 (N : Nat) (x0 : Option Nat) (x1 : Option Nat) (s0 : Int32) (S : cS) : Prop := ((s0 = 0 → (cis S x0 6 ∧ o_X6_fall N S (za x0)) ∧ O_X7_locks_204 N (f_X6_fall N S (za x0))) ∧ (¬ s0 = 0 → (cis S x0 6) ∧ (cis S x0 6 ∧ o_X6_setValid N S (za x0) x1 (cI S 10 (za x0))) ∧ O_X7_locks_215 N (f_X6_setValid N S (za x0) x1 (cI S 10 (za x0)))))
set_option maxRecDepth 100000 in
set_option maxHeartbeats 4000000 in
theorem b_X7_locks_197 {G : zG} {o : cO} {S : cS} {N : Nat} {Q : Option Value → cS → Prop} {X : Int32 × cS → Prop} (hG : zOK G) (hR : ∀ v S', X (v, S') → Q (some (.int v)) S') {x0 : Option Nat} {x1 : Option Nat} {s0 : Int32} (ok : O_X7_locks_197 N x0 x1 s0 S) (hx : X (F_X7_locks_197 N x0 x1 s0 S)) : cX G o dX7_locks mX7_locks 197 [some (va_rf x0), some (va_rf x1)] [.int s0] S Q := by
  unfold O_X7_locks_197 at ok
  unfold F_X7_locks_197 at hx
  refine c_if_ne (tgt := 206) dX7_locks_197 (by decide) (fun c_197 => ?_) (fun c_197 => ?_)
  · have ok := ok.2 c_197
    have hx := xif_n c_197 hx
    refine c_aload_nQ dX7_locks_206 rfl rfl ?_
    refine c_aload_nQ dX7_locks_207 rfl rfl ?_
    refine c_aload_nQ dX7_locks_208 rfl rfl ?_
    refine c_getI (C := RX6) (T := TX6) (N := 19) (ci := 5) (k := 10) ⟨rfl, inT6, by decide, fX7_213⟩ (by decide) (by decide) (by decide) dX7_locks_209 ok.1 ?_
    have ok := ok.2
    refine c_V2vE (ci := 5) (rr := (RX6, TX6, 19)) (y' := mX6_setValid) dX7_locks_212 lX7_251 kX6_setValid ⟨by decide, by decide⟩ rfl rfl (by decide) ok.1.1 (Nat.le_of_ble_eq_true rfl) (cc_X6_setValid hG ok.1.2) ?_
    have ok := ok.2
    exact cX.cutz (b_X7_locks_215 hG hR ok hx) trivial
  · have ok := ok.1 c_197
    have hx := xif_p c_197 hx
    refine c_aload_nQ dX7_locks_200 rfl rfl ?_
    refine c_V0vE (ci := 5) (rr := (RX6, TX6, 19)) (y' := mX6_fall) dX7_locks_201 lX7_120 kX6_fall ⟨by decide, by decide⟩ rfl rfl (by decide) ok.1.1 (Nat.le_of_ble_eq_true rfl) (cc_X6_fall hG ok.1.2) ?_
    have ok := ok.2
    exact cX.cutz (b_X7_locks_204 hG hR ok hx) trivial
def F_X7_locks_164 (N : Nat)  (S : cS) : Int32 × cS := (F_X7_locks_215 N S)
def O_X7_locks_164 (N : Nat)  (S : cS) : Prop := O_X7_locks_215 N S
set_option maxRecDepth 100000 in
set_option maxHeartbeats 4000000 in
theorem b_X7_locks_164 {G : zG} {o : cO} {S : cS} {N : Nat} {Q : Option Value → cS → Prop} {X : Int32 × cS → Prop} (hG : zOK G) (hR : ∀ v S', X (v, S') → Q (some (.int v)) S') (ok : O_X7_locks_164 N S) (hx : X (F_X7_locks_164 N S)) : cX G o dX7_locks mX7_locks 164 [none, none] [] S Q := by
  unfold O_X7_locks_164 at ok
  unfold F_X7_locks_164 at hx
  refine c_goto (tgt := 215) dX7_locks_164 (by decide) ?_
  exact cX.cutz (b_X7_locks_215 hG hR ok hx) trivial
def F_X7_locks_160 (N : Nat) (s0 : Option Nat) (s1 : Option Nat) (S : cS) : Int32 × cS := (F_X7_locks_164 N (f_X7_utter N S s0 s1 (nI 2)))
def O_X7_locks_160 (N : Nat) (s0 : Option Nat) (s1 : Option Nat) (S : cS) : Prop := (o_X7_utter N S s0 s1 (nI 2)) ∧ O_X7_locks_164 N (f_X7_utter N S s0 s1 (nI 2))
set_option maxRecDepth 100000 in
set_option maxHeartbeats 4000000 in
theorem b_X7_locks_160 {G : zG} {o : cO} {S : cS} {N : Nat} {Q : Option Value → cS → Prop} {X : Int32 × cS → Prop} (hG : zOK G) (hR : ∀ v S', X (v, S') → Q (some (.int v)) S') {s0 : Option Nat} {s1 : Option Nat} (ok : O_X7_locks_160 N s0 s1 S) (hx : X (F_X7_locks_160 N s0 s1 S)) : cX G o dX7_locks mX7_locks 160 [none, none] [va_rf s1, va_rf s0] S Q := by
  unfold O_X7_locks_160 at ok
  unfold F_X7_locks_160 at hx
  refine c_iconst (v := nI 2) dX7_locks_160 (by decide) ?_
  refine c_S3vE (y' := mX7_utter) dX7_locks_161 lX7_234 kX7_utter ⟨by decide, by decide⟩ (Nat.le_of_ble_eq_true rfl) (cc_X7_utter hG ok.1) ?_
  have ok := ok.2
  exact cX.cutz (b_X7_locks_164 hG hR ok hx) trivial
def F_X7_locks_153 (N : Nat) (x0 : Option Nat) (x1 : Option Nat) (S : cS) : Int32 × cS := (F_X7_locks_160 N x0 ((f_X6_vote N S (za x0) (nI 3) x1).1) (f_X6_vote N S (za x0) (nI 3) x1).2)
def O_X7_locks_153 (N : Nat) (x0 : Option Nat) (x1 : Option Nat) (S : cS) : Prop := (cis S x0 6 ∧ o_X6_vote N S (za x0) (nI 3) x1) ∧ O_X7_locks_160 N x0 ((f_X6_vote N S (za x0) (nI 3) x1).1) (f_X6_vote N S (za x0) (nI 3) x1).2
set_option maxRecDepth 100000 in
set_option maxHeartbeats 4000000 in
theorem b_X7_locks_153 {G : zG} {o : cO} {S : cS} {N : Nat} {Q : Option Value → cS → Prop} {X : Int32 × cS → Prop} (hG : zOK G) (hR : ∀ v S', X (v, S') → Q (some (.int v)) S') {x0 : Option Nat} {x1 : Option Nat} (ok : O_X7_locks_153 N x0 x1 S) (hx : X (F_X7_locks_153 N x0 x1 S)) : cX G o dX7_locks mX7_locks 153 [some (va_rf x0), some (va_rf x1)] [] S Q := by
  unfold O_X7_locks_153 at ok
  unfold F_X7_locks_153 at hx
  refine c_aload_nQ dX7_locks_153 rfl rfl ?_
  refine c_aload_nQ dX7_locks_154 rfl rfl ?_
  refine c_iconst (v := nI 3) dX7_locks_155 (by decide) ?_
  refine c_aload_nQ dX7_locks_156 rfl rfl ?_
  refine c_V2qE (ci := 5) (rr := (RX6, TX6, 19)) (y' := mX6_vote) dX7_locks_157 lX7_230 kX6_vote ⟨by decide, by decide⟩ rfl rfl (by decide) ok.1.1 (by simp only [List.map_cons, List.map_nil, List.sum_cons, List.sum_nil, zcat_rf, zcat_i, zcat_l, zcat_r] <;> decide) (cc_X6_vote hG ok.1.2) ?_
  have ok := ok.2
  exact cX.cutz (b_X7_locks_160 hG hR ok hx) trivial
def F_X7_locks_144 (N : Nat) (x0 : Option Nat) (x1 : Option Nat) (S : cS) : Int32 × cS := (F_X7_locks_153 N x0 x1 (f_X6_setValid N S (za x0) x1 (cI S 10 (za x0))))
def O_X7_locks_144 (N : Nat) (x0 : Option Nat) (x1 : Option Nat) (S : cS) : Prop := (cis S x0 6) ∧ (cis S x0 6 ∧ o_X6_setValid N S (za x0) x1 (cI S 10 (za x0))) ∧ O_X7_locks_153 N x0 x1 (f_X6_setValid N S (za x0) x1 (cI S 10 (za x0)))
set_option maxRecDepth 100000 in
set_option maxHeartbeats 4000000 in
theorem b_X7_locks_144 {G : zG} {o : cO} {S : cS} {N : Nat} {Q : Option Value → cS → Prop} {X : Int32 × cS → Prop} (hG : zOK G) (hR : ∀ v S', X (v, S') → Q (some (.int v)) S') {x0 : Option Nat} {x1 : Option Nat} (ok : O_X7_locks_144 N x0 x1 S) (hx : X (F_X7_locks_144 N x0 x1 S)) : cX G o dX7_locks mX7_locks 144 [some (va_rf x0), some (va_rf x1)] [] S Q := by
  unfold O_X7_locks_144 at ok
  unfold F_X7_locks_144 at hx
  refine c_aload_nQ dX7_locks_144 rfl rfl ?_
  refine c_aload_nQ dX7_locks_145 rfl rfl ?_
  refine c_aload_nQ dX7_locks_146 rfl rfl ?_
  refine c_getI (C := RX6) (T := TX6) (N := 19) (ci := 5) (k := 10) ⟨rfl, inT6, by decide, fX7_213⟩ (by decide) (by decide) (by decide) dX7_locks_147 ok.1 ?_
  have ok := ok.2
  refine c_V2vE (ci := 5) (rr := (RX6, TX6, 19)) (y' := mX6_setValid) dX7_locks_150 lX7_251 kX6_setValid ⟨by decide, by decide⟩ rfl rfl (by decide) ok.1.1 (Nat.le_of_ble_eq_true rfl) (cc_X6_setValid hG ok.1.2) ?_
  have ok := ok.2
  exact cX.cutz (b_X7_locks_153 hG hR ok hx) ⟨rfl, rfl, trivial⟩
def F_X7_locks_133 (N : Nat)  (S : cS) : Int32 × cS := ((nI 1), S)
def O_X7_locks_133 (N : Nat)  (S : cS) : Prop := True
set_option maxRecDepth 100000 in
set_option maxHeartbeats 4000000 in
theorem b_X7_locks_133 {G : zG} {o : cO} {S : cS} {N : Nat} {Q : Option Value → cS → Prop} {X : Int32 × cS → Prop} (hG : zOK G) (hR : ∀ v S', X (v, S') → Q (some (.int v)) S') (ok : O_X7_locks_133 N S) (hx : X (F_X7_locks_133 N S)) : cX G o dX7_locks mX7_locks 133 [none, none] [] S Q := by
  unfold O_X7_locks_133 at ok
  unfold F_X7_locks_133 at hx
  refine c_iconst (v := nI 1) dX7_locks_133 (by decide) ?_
  exact c_ireturn rfl rfl dX7_locks_134 (hR _ _ hx)
def F_X7_locks_126 (N : Nat) (x0 : Option Nat) (x1 : Option Nat) (s0 : Int32) (S : cS) : Int32 × cS := (if s0 = 0 then (F_X7_locks_133 N (f_X6_fall N S (za x0))) else (F_X7_locks_144 N x0 x1 (f_X6_setLocked N S (za x0) x1 (cI S 10 (za x0)))))
def O_X7_locks_126 (N : Nat) (x0 : Option Nat) (x1 : Option Nat) (s0 : Int32) (S : cS) : Prop := ((s0 = 0 → (cis S x0 6 ∧ o_X6_fall N S (za x0)) ∧ O_X7_locks_133 N (f_X6_fall N S (za x0))) ∧ (¬ s0 = 0 → (cis S x0 6) ∧ (cis S x0 6 ∧ o_X6_setLocked N S (za x0) x1 (cI S 10 (za x0))) ∧ O_X7_locks_144 N x0 x1 (f_X6_setLocked N S (za x0) x1 (cI S 10 (za x0)))))
set_option maxRecDepth 100000 in
set_option maxHeartbeats 4000000 in
theorem b_X7_locks_126 {G : zG} {o : cO} {S : cS} {N : Nat} {Q : Option Value → cS → Prop} {X : Int32 × cS → Prop} (hG : zOK G) (hR : ∀ v S', X (v, S') → Q (some (.int v)) S') {x0 : Option Nat} {x1 : Option Nat} {s0 : Int32} (ok : O_X7_locks_126 N x0 x1 s0 S) (hx : X (F_X7_locks_126 N x0 x1 s0 S)) : cX G o dX7_locks mX7_locks 126 [some (va_rf x0), some (va_rf x1)] [.int s0] S Q := by
  unfold O_X7_locks_126 at ok
  unfold F_X7_locks_126 at hx
  refine c_if_ne (tgt := 135) dX7_locks_126 (by decide) (fun c_126 => ?_) (fun c_126 => ?_)
  · have ok := ok.2 c_126
    have hx := xif_n c_126 hx
    refine c_aload_nQ dX7_locks_135 rfl rfl ?_
    refine c_aload_nQ dX7_locks_136 rfl rfl ?_
    refine c_aload_nQ dX7_locks_137 rfl rfl ?_
    refine c_getI (C := RX6) (T := TX6) (N := 19) (ci := 5) (k := 10) ⟨rfl, inT6, by decide, fX7_213⟩ (by decide) (by decide) (by decide) dX7_locks_138 ok.1 ?_
    have ok := ok.2
    refine c_V2vE (ci := 5) (rr := (RX6, TX6, 19)) (y' := mX6_setLocked) dX7_locks_141 lX7_247 kX6_setLocked ⟨by decide, by decide⟩ rfl rfl (by decide) ok.1.1 (Nat.le_of_ble_eq_true rfl) (cc_X6_setLocked hG ok.1.2) ?_
    have ok := ok.2
    exact cX.cutz (b_X7_locks_144 hG hR ok hx) ⟨rfl, rfl, trivial⟩
  · have ok := ok.1 c_126
    have hx := xif_p c_126 hx
    refine c_aload_nQ dX7_locks_129 rfl rfl ?_
    refine c_V0vE (ci := 5) (rr := (RX6, TX6, 19)) (y' := mX6_fall) dX7_locks_130 lX7_120 kX6_fall ⟨by decide, by decide⟩ rfl rfl (by decide) ok.1.1 (Nat.le_of_ble_eq_true rfl) (cc_X6_fall hG ok.1.2) ?_
    have ok := ok.2
    exact cX.cutz (b_X7_locks_133 hG hR ok hx) trivial
def F_X7_locks_76 (N : Nat)  (S : cS) : Int32 × cS := ((nI 0), S)
def O_X7_locks_76 (N : Nat)  (S : cS) : Prop := True
set_option maxRecDepth 100000 in
set_option maxHeartbeats 4000000 in
theorem b_X7_locks_76 {G : zG} {o : cO} {S : cS} {N : Nat} {Q : Option Value → cS → Prop} {X : Int32 × cS → Prop} (hG : zOK G) (hR : ∀ v S', X (v, S') → Q (some (.int v)) S') (ok : O_X7_locks_76 N S) (hx : X (F_X7_locks_76 N S)) : cX G o dX7_locks mX7_locks 76 [none, none] [] S Q := by
  unfold O_X7_locks_76 at ok
  unfold F_X7_locks_76 at hx
  refine c_iconst (v := nI 0) dX7_locks_76 (by decide) ?_
  exact c_ireturn rfl rfl dX7_locks_77 (hR _ _ hx)
def F_X7_locks_73 (N : Nat) (x0 : Option Nat) (x1 : Option Nat) (s0 : Int32) (S : cS) : Int32 × cS := (if s0 = 0 then (F_X7_locks_76 N S) else (if (cI (csI S 16 (za x0) ((cI S 16 (za x0)) ||| (nI 1))) 11 (za x0)) = (nI 1) then (if (cI (csI S 16 (za x0) ((cI S 16 (za x0)) ||| (nI 1))) 12 (za x0)) = (cI (csI S 16 (za x0) ((cI S 16 (za x0)) ||| (nI 1))) 10 (za x0)) then (F_X7_locks_153 N x0 x1 (csI S 16 (za x0) ((cI S 16 (za x0)) ||| (nI 1)))) else (F_X7_locks_126 N x0 x1 ((f_X4_jot N (csI S 16 (za x0) ((cI S 16 (za x0)) ||| (nI 1))) (za (cR (csI S 16 (za x0) ((cI S 16 (za x0)) ||| (nI 1))) 2 (za x0))) (nI 4) (cI (csI S 16 (za x0) ((cI S 16 (za x0)) ||| (nI 1))) 9 (za x0)) (cI (csI S 16 (za x0) ((cI S 16 (za x0)) ||| (nI 1))) 10 (za x0)) x1 (nI 6)).1) (f_X4_jot N (csI S 16 (za x0) ((cI S 16 (za x0)) ||| (nI 1))) (za (cR (csI S 16 (za x0) ((cI S 16 (za x0)) ||| (nI 1))) 2 (za x0))) (nI 4) (cI (csI S 16 (za x0) ((cI S 16 (za x0)) ||| (nI 1))) 9 (za x0)) (cI (csI S 16 (za x0) ((cI S 16 (za x0)) ||| (nI 1))) 10 (za x0)) x1 (nI 6)).2)) else (if (cI (csI S 16 (za x0) ((cI S 16 (za x0)) ||| (nI 1))) 13 (za x0)) = (cI (csI S 16 (za x0) ((cI S 16 (za x0)) ||| (nI 1))) 10 (za x0)) then (F_X7_locks_215 N (csI S 16 (za x0) ((cI S 16 (za x0)) ||| (nI 1)))) else (F_X7_locks_197 N x0 x1 ((f_X4_jot N (csI S 16 (za x0) ((cI S 16 (za x0)) ||| (nI 1))) (za (cR (csI S 16 (za x0) ((cI S 16 (za x0)) ||| (nI 1))) 2 (za x0))) (nI 5) (cI (csI S 16 (za x0) ((cI S 16 (za x0)) ||| (nI 1))) 9 (za x0)) (cI (csI S 16 (za x0) ((cI S 16 (za x0)) ||| (nI 1))) 10 (za x0)) x1 (nI 6)).1) (f_X4_jot N (csI S 16 (za x0) ((cI S 16 (za x0)) ||| (nI 1))) (za (cR (csI S 16 (za x0) ((cI S 16 (za x0)) ||| (nI 1))) 2 (za x0))) (nI 5) (cI (csI S 16 (za x0) ((cI S 16 (za x0)) ||| (nI 1))) 9 (za x0)) (cI (csI S 16 (za x0) ((cI S 16 (za x0)) ||| (nI 1))) 10 (za x0)) x1 (nI 6)).2))))
def O_X7_locks_73 (N : Nat) (x0 : Option Nat) (x1 : Option Nat) (s0 : Int32) (S : cS) : Prop := ((s0 = 0 → O_X7_locks_76 N S) ∧ (¬ s0 = 0 → (cis S x0 6) ∧ (cis S x0 6) ∧ (cis (csI S 16 (za x0) ((cI S 16 (za x0)) ||| (nI 1))) x0 6) ∧ (((cI (csI S 16 (za x0) ((cI S 16 (za x0)) ||| (nI 1))) 11 (za x0)) = (nI 1) → (cis (csI S 16 (za x0) ((cI S 16 (za x0)) ||| (nI 1))) x0 6) ∧ (cis (csI S 16 (za x0) ((cI S 16 (za x0)) ||| (nI 1))) x0 6) ∧ (((cI (csI S 16 (za x0) ((cI S 16 (za x0)) ||| (nI 1))) 12 (za x0)) = (cI (csI S 16 (za x0) ((cI S 16 (za x0)) ||| (nI 1))) 10 (za x0)) → O_X7_locks_153 N x0 x1 (csI S 16 (za x0) ((cI S 16 (za x0)) ||| (nI 1)))) ∧ (¬ (cI (csI S 16 (za x0) ((cI S 16 (za x0)) ||| (nI 1))) 12 (za x0)) = (cI (csI S 16 (za x0) ((cI S 16 (za x0)) ||| (nI 1))) 10 (za x0)) → (cis (csI S 16 (za x0) ((cI S 16 (za x0)) ||| (nI 1))) x0 6) ∧ (cis (csI S 16 (za x0) ((cI S 16 (za x0)) ||| (nI 1))) x0 6) ∧ (cis (csI S 16 (za x0) ((cI S 16 (za x0)) ||| (nI 1))) x0 6) ∧ (cis (csI S 16 (za x0) ((cI S 16 (za x0)) ||| (nI 1))) (cR (csI S 16 (za x0) ((cI S 16 (za x0)) ||| (nI 1))) 2 (za x0)) 4 ∧ o_X4_jot N (csI S 16 (za x0) ((cI S 16 (za x0)) ||| (nI 1))) (za (cR (csI S 16 (za x0) ((cI S 16 (za x0)) ||| (nI 1))) 2 (za x0))) (nI 4) (cI (csI S 16 (za x0) ((cI S 16 (za x0)) ||| (nI 1))) 9 (za x0)) (cI (csI S 16 (za x0) ((cI S 16 (za x0)) ||| (nI 1))) 10 (za x0)) x1 (nI 6)) ∧ O_X7_locks_126 N x0 x1 ((f_X4_jot N (csI S 16 (za x0) ((cI S 16 (za x0)) ||| (nI 1))) (za (cR (csI S 16 (za x0) ((cI S 16 (za x0)) ||| (nI 1))) 2 (za x0))) (nI 4) (cI (csI S 16 (za x0) ((cI S 16 (za x0)) ||| (nI 1))) 9 (za x0)) (cI (csI S 16 (za x0) ((cI S 16 (za x0)) ||| (nI 1))) 10 (za x0)) x1 (nI 6)).1) (f_X4_jot N (csI S 16 (za x0) ((cI S 16 (za x0)) ||| (nI 1))) (za (cR (csI S 16 (za x0) ((cI S 16 (za x0)) ||| (nI 1))) 2 (za x0))) (nI 4) (cI (csI S 16 (za x0) ((cI S 16 (za x0)) ||| (nI 1))) 9 (za x0)) (cI (csI S 16 (za x0) ((cI S 16 (za x0)) ||| (nI 1))) 10 (za x0)) x1 (nI 6)).2))) ∧ (¬ (cI (csI S 16 (za x0) ((cI S 16 (za x0)) ||| (nI 1))) 11 (za x0)) = (nI 1) → (cis (csI S 16 (za x0) ((cI S 16 (za x0)) ||| (nI 1))) x0 6) ∧ (cis (csI S 16 (za x0) ((cI S 16 (za x0)) ||| (nI 1))) x0 6) ∧ (((cI (csI S 16 (za x0) ((cI S 16 (za x0)) ||| (nI 1))) 13 (za x0)) = (cI (csI S 16 (za x0) ((cI S 16 (za x0)) ||| (nI 1))) 10 (za x0)) → O_X7_locks_215 N (csI S 16 (za x0) ((cI S 16 (za x0)) ||| (nI 1)))) ∧ (¬ (cI (csI S 16 (za x0) ((cI S 16 (za x0)) ||| (nI 1))) 13 (za x0)) = (cI (csI S 16 (za x0) ((cI S 16 (za x0)) ||| (nI 1))) 10 (za x0)) → (cis (csI S 16 (za x0) ((cI S 16 (za x0)) ||| (nI 1))) x0 6) ∧ (cis (csI S 16 (za x0) ((cI S 16 (za x0)) ||| (nI 1))) x0 6) ∧ (cis (csI S 16 (za x0) ((cI S 16 (za x0)) ||| (nI 1))) x0 6) ∧ (cis (csI S 16 (za x0) ((cI S 16 (za x0)) ||| (nI 1))) (cR (csI S 16 (za x0) ((cI S 16 (za x0)) ||| (nI 1))) 2 (za x0)) 4 ∧ o_X4_jot N (csI S 16 (za x0) ((cI S 16 (za x0)) ||| (nI 1))) (za (cR (csI S 16 (za x0) ((cI S 16 (za x0)) ||| (nI 1))) 2 (za x0))) (nI 5) (cI (csI S 16 (za x0) ((cI S 16 (za x0)) ||| (nI 1))) 9 (za x0)) (cI (csI S 16 (za x0) ((cI S 16 (za x0)) ||| (nI 1))) 10 (za x0)) x1 (nI 6)) ∧ O_X7_locks_197 N x0 x1 ((f_X4_jot N (csI S 16 (za x0) ((cI S 16 (za x0)) ||| (nI 1))) (za (cR (csI S 16 (za x0) ((cI S 16 (za x0)) ||| (nI 1))) 2 (za x0))) (nI 5) (cI (csI S 16 (za x0) ((cI S 16 (za x0)) ||| (nI 1))) 9 (za x0)) (cI (csI S 16 (za x0) ((cI S 16 (za x0)) ||| (nI 1))) 10 (za x0)) x1 (nI 6)).1) (f_X4_jot N (csI S 16 (za x0) ((cI S 16 (za x0)) ||| (nI 1))) (za (cR (csI S 16 (za x0) ((cI S 16 (za x0)) ||| (nI 1))) 2 (za x0))) (nI 5) (cI (csI S 16 (za x0) ((cI S 16 (za x0)) ||| (nI 1))) 9 (za x0)) (cI (csI S 16 (za x0) ((cI S 16 (za x0)) ||| (nI 1))) 10 (za x0)) x1 (nI 6)).2))))))
set_option maxRecDepth 100000 in
set_option maxHeartbeats 4000000 in
theorem b_X7_locks_73 {G : zG} {o : cO} {S : cS} {N : Nat} {Q : Option Value → cS → Prop} {X : Int32 × cS → Prop} (hG : zOK G) (hR : ∀ v S', X (v, S') → Q (some (.int v)) S') {x0 : Option Nat} {x1 : Option Nat} {s0 : Int32} (ok : O_X7_locks_73 N x0 x1 s0 S) (hx : X (F_X7_locks_73 N x0 x1 s0 S)) : cX G o dX7_locks mX7_locks 73 [some (va_rf x0), some (va_rf x1)] [.int s0] S Q := by
  unfold O_X7_locks_73 at ok
  unfold F_X7_locks_73 at hx
  refine c_if_ne (tgt := 78) dX7_locks_73 (by decide) (fun c_73 => ?_) (fun c_73 => ?_)
  · have ok := ok.2 c_73
    have hx := xif_n c_73 hx
    refine c_aload_nQ dX7_locks_78 rfl rfl ?_
    refine c_dup dX7_locks_79 (zcat_rf _) ?_
    refine c_getI (C := RX6) (T := TX6) (N := 19) (ci := 5) (k := 16) ⟨rfl, inT6, by decide, fX7_240⟩ (by decide) (by decide) (by decide) dX7_locks_80 ok.1 ?_
    have ok := ok.2
    refine c_iconst (v := nI 1) dX7_locks_83 (by decide) ?_
    refine c_ior dX7_locks_84 ?_
    refine c_putI (C := RX6) (T := TX6) (N := 19) (ci := 5) (k := 16) ⟨rfl, inT6, by decide, fX7_240⟩ ftT6 rfl (by decide) (by decide) (by decide) rfl rfl dX7_locks_85 ok.1 ?_
    have ok := ok.2
    refine c_aload_nQ dX7_locks_88 rfl rfl ?_
    refine c_getI (C := RX6) (T := TX6) (N := 19) (ci := 5) (k := 11) ⟨rfl, inT6, by decide, fX7_220⟩ (by decide) (by decide) (by decide) dX7_locks_89 ok.1 ?_
    have ok := ok.2
    refine c_iconst (v := nI 1) dX7_locks_92 (by decide) ?_
    refine c_icmp_ne (tgt := 167) dX7_locks_93 (by decide) (fun c_93 => ?_) (fun c_93 => ?_)
    · have ok := ok.2 c_93
      have hx := xif_n c_93 hx
      refine c_aload_nQ dX7_locks_167 rfl rfl ?_
      refine c_getI (C := RX6) (T := TX6) (N := 19) (ci := 5) (k := 13) ⟨rfl, inT6, by decide, fX7_254⟩ (by decide) (by decide) (by decide) dX7_locks_168 ok.1 ?_
      have ok := ok.2
      refine c_aload_nQ dX7_locks_171 rfl rfl ?_
      refine c_getI (C := RX6) (T := TX6) (N := 19) (ci := 5) (k := 10) ⟨rfl, inT6, by decide, fX7_213⟩ (by decide) (by decide) (by decide) dX7_locks_172 ok.1 ?_
      have ok := ok.2
      refine c_icmp_eq (tgt := 215) dX7_locks_175 (by decide) (fun c_175 => ?_) (fun c_175 => ?_)
      · have ok := ok.1 c_175
        have hx := xif_p c_175 hx
        exact cX.cutz (b_X7_locks_215 hG hR ok hx) trivial
      · have ok := ok.2 c_175
        have hx := xif_n c_175 hx
        refine c_aload_nQ dX7_locks_178 rfl rfl ?_
        refine c_getR (C := RX6) (T := TX6) (N := 19) (ci := 5) (k := 2) ⟨rfl, inT6, by decide, fX7_110⟩ (by decide) (by decide) (by decide) dX7_locks_179 ok.1 ?_
        have ok := ok.2
        refine c_iconst (v := nI 5) dX7_locks_182 (by decide) ?_
        refine c_aload_nQ dX7_locks_183 rfl rfl ?_
        refine c_getI (C := RX6) (T := TX6) (N := 19) (ci := 5) (k := 9) ⟨rfl, inT6, by decide, fX7_18⟩ (by decide) (by decide) (by decide) dX7_locks_184 ok.1 ?_
        have ok := ok.2
        refine c_aload_nQ dX7_locks_187 rfl rfl ?_
        refine c_getI (C := RX6) (T := TX6) (N := 19) (ci := 5) (k := 10) ⟨rfl, inT6, by decide, fX7_213⟩ (by decide) (by decide) (by decide) dX7_locks_188 ok.1 ?_
        have ok := ok.2
        refine c_aload_nQ dX7_locks_191 rfl rfl ?_
        refine c_bipush (v := nI 6) dX7_locks_192 (by decide) ?_
        refine c_V5iE (ci := 3) (rr := (RX4, TX4, 10)) (y' := mX4_jot) dX7_locks_194 lX7_243 kX4_jot ⟨by decide, by decide⟩ rfl rfl (by decide) ok.1.1 (Nat.le_of_ble_eq_true rfl) (cc_X4_jot hG ok.1.2) ?_
        have ok := ok.2
        exact cX.cutz (b_X7_locks_197 hG hR ok hx) ⟨rfl, rfl, trivial⟩
    · have ok := ok.1 c_93
      have hx := xif_p c_93 hx
      refine c_aload_nQ dX7_locks_96 rfl rfl ?_
      refine c_getI (C := RX6) (T := TX6) (N := 19) (ci := 5) (k := 12) ⟨rfl, inT6, by decide, fX7_237⟩ (by decide) (by decide) (by decide) dX7_locks_97 ok.1 ?_
      have ok := ok.2
      refine c_aload_nQ dX7_locks_100 rfl rfl ?_
      refine c_getI (C := RX6) (T := TX6) (N := 19) (ci := 5) (k := 10) ⟨rfl, inT6, by decide, fX7_213⟩ (by decide) (by decide) (by decide) dX7_locks_101 ok.1 ?_
      have ok := ok.2
      refine c_icmp_eq (tgt := 153) dX7_locks_104 (by decide) (fun c_104 => ?_) (fun c_104 => ?_)
      · have ok := ok.1 c_104
        have hx := xif_p c_104 hx
        exact cX.cutz (b_X7_locks_153 hG hR ok hx) ⟨rfl, rfl, trivial⟩
      · have ok := ok.2 c_104
        have hx := xif_n c_104 hx
        refine c_aload_nQ dX7_locks_107 rfl rfl ?_
        refine c_getR (C := RX6) (T := TX6) (N := 19) (ci := 5) (k := 2) ⟨rfl, inT6, by decide, fX7_110⟩ (by decide) (by decide) (by decide) dX7_locks_108 ok.1 ?_
        have ok := ok.2
        refine c_iconst (v := nI 4) dX7_locks_111 (by decide) ?_
        refine c_aload_nQ dX7_locks_112 rfl rfl ?_
        refine c_getI (C := RX6) (T := TX6) (N := 19) (ci := 5) (k := 9) ⟨rfl, inT6, by decide, fX7_18⟩ (by decide) (by decide) (by decide) dX7_locks_113 ok.1 ?_
        have ok := ok.2
        refine c_aload_nQ dX7_locks_116 rfl rfl ?_
        refine c_getI (C := RX6) (T := TX6) (N := 19) (ci := 5) (k := 10) ⟨rfl, inT6, by decide, fX7_213⟩ (by decide) (by decide) (by decide) dX7_locks_117 ok.1 ?_
        have ok := ok.2
        refine c_aload_nQ dX7_locks_120 rfl rfl ?_
        refine c_bipush (v := nI 6) dX7_locks_121 (by decide) ?_
        refine c_V5iE (ci := 3) (rr := (RX4, TX4, 10)) (y' := mX4_jot) dX7_locks_123 lX7_243 kX4_jot ⟨by decide, by decide⟩ rfl rfl (by decide) ok.1.1 (Nat.le_of_ble_eq_true rfl) (cc_X4_jot hG ok.1.2) ?_
        have ok := ok.2
        exact cX.cutz (b_X7_locks_126 hG hR ok hx) ⟨rfl, rfl, trivial⟩
  · have ok := ok.1 c_73
    have hx := xif_p c_73 hx
    exact cX.cutz (b_X7_locks_76 hG hR ok hx) trivial
def F_X7_locks_16 (N : Nat)  (S : cS) : Int32 × cS := ((nI 0), S)
def O_X7_locks_16 (N : Nat)  (S : cS) : Prop := True
set_option maxRecDepth 100000 in
set_option maxHeartbeats 4000000 in
theorem b_X7_locks_16 {G : zG} {o : cO} {S : cS} {N : Nat} {Q : Option Value → cS → Prop} {X : Int32 × cS → Prop} (hG : zOK G) (hR : ∀ v S', X (v, S') → Q (some (.int v)) S') (ok : O_X7_locks_16 N S) (hx : X (F_X7_locks_16 N S)) : cX G o dX7_locks mX7_locks 16 [none, none] [] S Q := by
  unfold O_X7_locks_16 at ok
  unfold F_X7_locks_16 at hx
  refine c_iconst (v := nI 0) dX7_locks_16 (by decide) ?_
  exact c_ireturn rfl rfl dX7_locks_17 (hR _ _ hx)
def F_X7_locks_0 (N : Nat) (x0 : Option Nat) (S : cS) : Int32 × cS := (if (cI S 11 (za x0)) = 0 then (F_X7_locks_16 N S) else (if ((cI S 16 (za x0)) &&& (nI 1)) = 0 then (if (f_X8_proposal N S (za (cR S 3 (za x0))) (cI S 9 (za x0)) (cI S 10 (za x0))) = none then (F_X7_locks_76 N S) else (if (f_X8_votesFor N S (za (cR S 3 (za x0))) (nI 2) (cI S 9 (za x0)) (cI S 10 (za x0)) (f_X8_proposal N S (za (cR S 3 (za x0))) (cI S 9 (za x0)) (cI S 10 (za x0)))) < (cI S 3 (za (cR S 0 (za x0)))) then (F_X7_locks_76 N S) else (F_X7_locks_73 N x0 (f_X8_proposal N S (za (cR S 3 (za x0))) (cI S 9 (za x0)) (cI S 10 (za x0))) ((f_X7_approves N S x0 (cI S 10 (za x0))).1) (f_X7_approves N S x0 (cI S 10 (za x0))).2))) else (F_X7_locks_16 N S)))
def O_X7_locks_0 (N : Nat) (x0 : Option Nat) (S : cS) : Prop := (cis S x0 6) ∧ (((cI S 11 (za x0)) = 0 → O_X7_locks_16 N S) ∧ (¬ (cI S 11 (za x0)) = 0 → (cis S x0 6) ∧ ((((cI S 16 (za x0)) &&& (nI 1)) = 0 → (cis S x0 6) ∧ (cis S x0 6) ∧ (cis S x0 6) ∧ (cis S (cR S 3 (za x0)) 7 ∧ o_X8_proposal N S (za (cR S 3 (za x0))) (cI S 9 (za x0)) (cI S 10 (za x0))) ∧ (((f_X8_proposal N S (za (cR S 3 (za x0))) (cI S 9 (za x0)) (cI S 10 (za x0))) = none → O_X7_locks_76 N S) ∧ (¬ (f_X8_proposal N S (za (cR S 3 (za x0))) (cI S 9 (za x0)) (cI S 10 (za x0))) = none → (cis S x0 6) ∧ (cis S x0 6) ∧ (cis S x0 6) ∧ (cis S (cR S 3 (za x0)) 7 ∧ o_X8_votesFor N S (za (cR S 3 (za x0))) (nI 2) (cI S 9 (za x0)) (cI S 10 (za x0)) (f_X8_proposal N S (za (cR S 3 (za x0))) (cI S 9 (za x0)) (cI S 10 (za x0)))) ∧ (cis S x0 6) ∧ (cis S (cR S 0 (za x0)) 9) ∧ (((f_X8_votesFor N S (za (cR S 3 (za x0))) (nI 2) (cI S 9 (za x0)) (cI S 10 (za x0)) (f_X8_proposal N S (za (cR S 3 (za x0))) (cI S 9 (za x0)) (cI S 10 (za x0)))) < (cI S 3 (za (cR S 0 (za x0)))) → O_X7_locks_76 N S) ∧ (¬ (f_X8_votesFor N S (za (cR S 3 (za x0))) (nI 2) (cI S 9 (za x0)) (cI S 10 (za x0)) (f_X8_proposal N S (za (cR S 3 (za x0))) (cI S 9 (za x0)) (cI S 10 (za x0)))) < (cI S 3 (za (cR S 0 (za x0)))) → (cis S x0 6) ∧ (o_X7_approves N S x0 (cI S 10 (za x0))) ∧ O_X7_locks_73 N x0 (f_X8_proposal N S (za (cR S 3 (za x0))) (cI S 9 (za x0)) (cI S 10 (za x0))) ((f_X7_approves N S x0 (cI S 10 (za x0))).1) (f_X7_approves N S x0 (cI S 10 (za x0))).2))))) ∧ (¬ ((cI S 16 (za x0)) &&& (nI 1)) = 0 → O_X7_locks_16 N S))))
set_option maxRecDepth 100000 in
set_option maxHeartbeats 4000000 in
theorem b_X7_locks_0 {G : zG} {o : cO} {S : cS} {N : Nat} {Q : Option Value → cS → Prop} {X : Int32 × cS → Prop} (hG : zOK G) (hR : ∀ v S', X (v, S') → Q (some (.int v)) S') {x0 : Option Nat} (ok : O_X7_locks_0 N x0 S) (hx : X (F_X7_locks_0 N x0 S)) : cX G o dX7_locks mX7_locks 0 [some (va_rf x0), none] [] S Q := by
  unfold O_X7_locks_0 at ok
  unfold F_X7_locks_0 at hx
  refine c_aload_nQ dX7_locks_0 rfl rfl ?_
  refine c_getI (C := RX6) (T := TX6) (N := 19) (ci := 5) (k := 11) ⟨rfl, inT6, by decide, fX7_220⟩ (by decide) (by decide) (by decide) dX7_locks_1 ok.1 ?_
  have ok := ok.2
  refine c_if_eq (tgt := 16) dX7_locks_4 (by decide) (fun c_4 => ?_) (fun c_4 => ?_)
  · have ok := ok.1 c_4
    have hx := xif_p c_4 hx
    exact cX.cutz (b_X7_locks_16 hG hR ok hx) trivial
  · have ok := ok.2 c_4
    have hx := xif_n c_4 hx
    refine c_aload_nQ dX7_locks_7 rfl rfl ?_
    refine c_getI (C := RX6) (T := TX6) (N := 19) (ci := 5) (k := 16) ⟨rfl, inT6, by decide, fX7_240⟩ (by decide) (by decide) (by decide) dX7_locks_8 ok.1 ?_
    have ok := ok.2
    refine c_iconst (v := nI 1) dX7_locks_11 (by decide) ?_
    refine c_iand dX7_locks_12 ?_
    refine c_if_eq (tgt := 18) dX7_locks_13 (by decide) (fun c_13 => ?_) (fun c_13 => ?_)
    · have ok := ok.1 c_13
      have hx := xif_p c_13 hx
      refine c_aload_nQ dX7_locks_18 rfl rfl ?_
      refine c_getR (C := RX6) (T := TX6) (N := 19) (ci := 5) (k := 3) ⟨rfl, inT6, by decide, fX7_80⟩ (by decide) (by decide) (by decide) dX7_locks_19 ok.1 ?_
      have ok := ok.2
      refine c_aload_nQ dX7_locks_22 rfl rfl ?_
      refine c_getI (C := RX6) (T := TX6) (N := 19) (ci := 5) (k := 9) ⟨rfl, inT6, by decide, fX7_18⟩ (by decide) (by decide) (by decide) dX7_locks_23 ok.1 ?_
      have ok := ok.2
      refine c_aload_nQ dX7_locks_26 rfl rfl ?_
      refine c_getI (C := RX6) (T := TX6) (N := 19) (ci := 5) (k := 10) ⟨rfl, inT6, by decide, fX7_213⟩ (by decide) (by decide) (by decide) dX7_locks_27 ok.1 ?_
      have ok := ok.2
      refine c_V2qE (ci := 6) (rr := (RX8, TX8, 14)) (y' := mX8_proposal) dX7_locks_30 lX7_172 kX8_proposal ⟨by decide, by decide⟩ rfl rfl (by decide) ok.1.1 (Nat.le_of_ble_eq_true rfl) (cc_X8_proposal hG ok.1.2) ?_
      have ok := ok.2
      refine c_astore_1Q dX7_locks_33 (by decide) (by simp [zok, zg, zcat_rf]) ?_
      refine c_aload_nQ dX7_locks_34 rfl rfl ?_
      refine c_ifnullI (tgt := 76) dX7_locks_35 (by decide) (fun c_35 => ?_) (fun c_35 => ?_)
      · have ok := ok.1 c_35
        have hx := xif_p c_35 hx
        exact cX.cutz (b_X7_locks_76 hG hR ok hx) trivial
      · have ok := ok.2 c_35
        have hx := xif_n c_35 hx
        refine c_aload_nQ dX7_locks_38 rfl rfl ?_
        refine c_getR (C := RX6) (T := TX6) (N := 19) (ci := 5) (k := 3) ⟨rfl, inT6, by decide, fX7_80⟩ (by decide) (by decide) (by decide) dX7_locks_39 ok.1 ?_
        have ok := ok.2
        refine c_iconst (v := nI 2) dX7_locks_42 (by decide) ?_
        refine c_aload_nQ dX7_locks_43 rfl rfl ?_
        refine c_getI (C := RX6) (T := TX6) (N := 19) (ci := 5) (k := 9) ⟨rfl, inT6, by decide, fX7_18⟩ (by decide) (by decide) (by decide) dX7_locks_44 ok.1 ?_
        have ok := ok.2
        refine c_aload_nQ dX7_locks_47 rfl rfl ?_
        refine c_getI (C := RX6) (T := TX6) (N := 19) (ci := 5) (k := 10) ⟨rfl, inT6, by decide, fX7_213⟩ (by decide) (by decide) (by decide) dX7_locks_48 ok.1 ?_
        have ok := ok.2
        refine c_aload_nQ dX7_locks_51 rfl rfl ?_
        refine c_V4iE (ci := 6) (rr := (RX8, TX8, 14)) (y' := mX8_votesFor) dX7_locks_52 lX7_176 kX8_votesFor ⟨by decide, by decide⟩ rfl rfl (by decide) ok.1.1 (Nat.le_of_ble_eq_true rfl) (cc_X8_votesFor hG ok.1.2) ?_
        have ok := ok.2
        refine c_aload_nQ dX7_locks_55 rfl rfl ?_
        refine c_getR (C := RX6) (T := TX6) (N := 19) (ci := 5) (k := 0) ⟨rfl, inT6, by decide, fX7_26⟩ (by decide) (by decide) (by decide) dX7_locks_56 ok.1 ?_
        have ok := ok.2
        refine c_getI (C := RX10) (T := TX10) (N := 12) (ci := 8) (k := 3) ⟨rfl, inT10, by decide, fX7_180⟩ (by decide) (by decide) (by decide) dX7_locks_59 ok.1 ?_
        have ok := ok.2
        refine c_icmp_lt (tgt := 76) dX7_locks_62 (by decide) (fun c_62 => ?_) (fun c_62 => ?_)
        · have ok := ok.1 c_62
          have hx := xif_p c_62 hx
          exact cX.cutz (b_X7_locks_76 hG hR ok hx) trivial
        · have ok := ok.2 c_62
          have hx := xif_n c_62 hx
          refine c_aload_nQ dX7_locks_65 rfl rfl ?_
          refine c_aload_nQ dX7_locks_66 rfl rfl ?_
          refine c_getI (C := RX6) (T := TX6) (N := 19) (ci := 5) (k := 10) ⟨rfl, inT6, by decide, fX7_213⟩ (by decide) (by decide) (by decide) dX7_locks_67 ok.1 ?_
          have ok := ok.2
          refine c_S2iE (y' := mX7_approves) dX7_locks_70 lX7_183 kX7_approves ⟨by decide, by decide⟩ (Nat.le_of_ble_eq_true rfl) (cc_X7_approves hG ok.1) ?_
          have ok := ok.2
          exact cX.cutz (b_X7_locks_73 hG hR ok hx) ⟨rfl, rfl, trivial⟩
    · have ok := ok.2 c_13
      have hx := xif_n c_13 hx
      exact cX.cutz (b_X7_locks_16 hG hR ok hx) trivial
def f_X7_locks (N : Nat) (S : cS) (x0 : Option Nat) : Int32 × cS := F_X7_locks_0 N x0 S
def o_X7_locks (N : Nat) (S : cS) (x0 : Option Nat) : Prop := O_X7_locks_0 N x0 S
set_option maxRecDepth 100000 in
set_option maxHeartbeats 4000000 in
theorem cc_X7_locks {G : zG} {o : cO} {S : cS} {N : Nat} (hG : zOK G) {x0 : Option Nat} (ok : o_X7_locks N S x0) : cCi G o dX7_locks mX7_locks [va_rf x0] S (fun v S' => v = (f_X7_locks N S x0).1 ∧ S' = (f_X7_locks N S x0).2) := by
  refine cC.ofX rfl (by cases x0 <;> exact Nat.le_of_ble_eq_true rfl) ?_
  rw [show zargs mX7_locks.2.2.1 [va_rf x0] = [some (va_rf x0), none] from by cases x0 <;> rfl]
  exact cX.cutz (b_X7_locks_0 (X := fun F => F = f_X7_locks N S x0) hG (fun v S' h => ⟨v, rfl, by rw [← h], by rw [← h]⟩) ok rfl) ⟨rfl, trivial⟩
/-! X7_precommitsNone -/
def F_X7_precommitsNone_48 (N : Nat)  (S : cS) : Int32 × cS := ((nI 1), S)
def O_X7_precommitsNone_48 (N : Nat)  (S : cS) : Prop := True
set_option maxRecDepth 100000 in
set_option maxHeartbeats 4000000 in
theorem b_X7_precommitsNone_48 {G : zG} {o : cO} {S : cS} {N : Nat} {Q : Option Value → cS → Prop} {X : Int32 × cS → Prop} (hG : zOK G) (hR : ∀ v S', X (v, S') → Q (some (.int v)) S') (ok : O_X7_precommitsNone_48 N S) (hx : X (F_X7_precommitsNone_48 N S)) : cX G o dX7_precommitsNone mX7_precommitsNone 48 [none] [] S Q := by
  unfold O_X7_precommitsNone_48 at ok
  unfold F_X7_precommitsNone_48 at hx
  refine c_iconst (v := nI 1) dX7_precommitsNone_48 (by decide) ?_
  exact c_ireturn rfl rfl dX7_precommitsNone_49 (hR _ _ hx)
def F_X7_precommitsNone_44 (N : Nat) (s0 : Option Nat) (s1 : Option Nat) (S : cS) : Int32 × cS := (F_X7_precommitsNone_48 N (f_X7_utter N S s0 s1 (nI 2)))
def O_X7_precommitsNone_44 (N : Nat) (s0 : Option Nat) (s1 : Option Nat) (S : cS) : Prop := (o_X7_utter N S s0 s1 (nI 2)) ∧ O_X7_precommitsNone_48 N (f_X7_utter N S s0 s1 (nI 2))
set_option maxRecDepth 100000 in
set_option maxHeartbeats 4000000 in
theorem b_X7_precommitsNone_44 {G : zG} {o : cO} {S : cS} {N : Nat} {Q : Option Value → cS → Prop} {X : Int32 × cS → Prop} (hG : zOK G) (hR : ∀ v S', X (v, S') → Q (some (.int v)) S') {s0 : Option Nat} {s1 : Option Nat} (ok : O_X7_precommitsNone_44 N s0 s1 S) (hx : X (F_X7_precommitsNone_44 N s0 s1 S)) : cX G o dX7_precommitsNone mX7_precommitsNone 44 [none] [va_rf s1, va_rf s0] S Q := by
  unfold O_X7_precommitsNone_44 at ok
  unfold F_X7_precommitsNone_44 at hx
  refine c_iconst (v := nI 2) dX7_precommitsNone_44 (by decide) ?_
  refine c_S3vE (y' := mX7_utter) dX7_precommitsNone_45 lX7_234 kX7_utter ⟨by decide, by decide⟩ (Nat.le_of_ble_eq_true rfl) (cc_X7_utter hG ok.1) ?_
  have ok := ok.2
  exact cX.cutz (b_X7_precommitsNone_48 hG hR ok hx) trivial
def F_X7_precommitsNone_35 (N : Nat)  (S : cS) : Int32 × cS := ((nI 0), S)
def O_X7_precommitsNone_35 (N : Nat)  (S : cS) : Prop := True
set_option maxRecDepth 100000 in
set_option maxHeartbeats 4000000 in
theorem b_X7_precommitsNone_35 {G : zG} {o : cO} {S : cS} {N : Nat} {Q : Option Value → cS → Prop} {X : Int32 × cS → Prop} (hG : zOK G) (hR : ∀ v S', X (v, S') → Q (some (.int v)) S') (ok : O_X7_precommitsNone_35 N S) (hx : X (F_X7_precommitsNone_35 N S)) : cX G o dX7_precommitsNone mX7_precommitsNone 35 [none] [] S Q := by
  unfold O_X7_precommitsNone_35 at ok
  unfold F_X7_precommitsNone_35 at hx
  refine c_iconst (v := nI 0) dX7_precommitsNone_35 (by decide) ?_
  exact c_ireturn rfl rfl dX7_precommitsNone_36 (hR _ _ hx)
def F_X7_precommitsNone_0 (N : Nat) (x0 : Option Nat) (S : cS) : Int32 × cS := (if (cI S 11 (za x0)) = (nI 1) then (if (cI S 3 (za (cR S 0 (za x0)))) ≤ (f_X8_votesFor N S (za (cR S 3 (za x0))) (nI 2) (cI S 9 (za x0)) (cI S 10 (za x0)) (none : Option Nat)) then (F_X7_precommitsNone_44 N x0 ((f_X6_vote N S (za x0) (nI 3) (none : Option Nat)).1) (f_X6_vote N S (za x0) (nI 3) (none : Option Nat)).2) else (F_X7_precommitsNone_35 N S)) else (F_X7_precommitsNone_35 N S))
def O_X7_precommitsNone_0 (N : Nat) (x0 : Option Nat) (S : cS) : Prop := (cis S x0 6) ∧ (((cI S 11 (za x0)) = (nI 1) → (cis S x0 6) ∧ (cis S x0 6) ∧ (cis S x0 6) ∧ (cis S (cR S 3 (za x0)) 7 ∧ o_X8_votesFor N S (za (cR S 3 (za x0))) (nI 2) (cI S 9 (za x0)) (cI S 10 (za x0)) (none : Option Nat)) ∧ (cis S x0 6) ∧ (cis S (cR S 0 (za x0)) 9) ∧ (((cI S 3 (za (cR S 0 (za x0)))) ≤ (f_X8_votesFor N S (za (cR S 3 (za x0))) (nI 2) (cI S 9 (za x0)) (cI S 10 (za x0)) (none : Option Nat)) → (cis S x0 6 ∧ o_X6_vote N S (za x0) (nI 3) (none : Option Nat)) ∧ O_X7_precommitsNone_44 N x0 ((f_X6_vote N S (za x0) (nI 3) (none : Option Nat)).1) (f_X6_vote N S (za x0) (nI 3) (none : Option Nat)).2) ∧ (¬ (cI S 3 (za (cR S 0 (za x0)))) ≤ (f_X8_votesFor N S (za (cR S 3 (za x0))) (nI 2) (cI S 9 (za x0)) (cI S 10 (za x0)) (none : Option Nat)) → O_X7_precommitsNone_35 N S))) ∧ (¬ (cI S 11 (za x0)) = (nI 1) → O_X7_precommitsNone_35 N S))
set_option maxRecDepth 100000 in
set_option maxHeartbeats 4000000 in
theorem b_X7_precommitsNone_0 {G : zG} {o : cO} {S : cS} {N : Nat} {Q : Option Value → cS → Prop} {X : Int32 × cS → Prop} (hG : zOK G) (hR : ∀ v S', X (v, S') → Q (some (.int v)) S') {x0 : Option Nat} (ok : O_X7_precommitsNone_0 N x0 S) (hx : X (F_X7_precommitsNone_0 N x0 S)) : cX G o dX7_precommitsNone mX7_precommitsNone 0 [some (va_rf x0)] [] S Q := by
  unfold O_X7_precommitsNone_0 at ok
  unfold F_X7_precommitsNone_0 at hx
  refine c_aload_nQ dX7_precommitsNone_0 rfl rfl ?_
  refine c_getI (C := RX6) (T := TX6) (N := 19) (ci := 5) (k := 11) ⟨rfl, inT6, by decide, fX7_220⟩ (by decide) (by decide) (by decide) dX7_precommitsNone_1 ok.1 ?_
  have ok := ok.2
  refine c_iconst (v := nI 1) dX7_precommitsNone_4 (by decide) ?_
  refine c_icmp_ne (tgt := 35) dX7_precommitsNone_5 (by decide) (fun c_5 => ?_) (fun c_5 => ?_)
  · have ok := ok.2 c_5
    have hx := xif_n c_5 hx
    exact cX.cutz (b_X7_precommitsNone_35 hG hR ok hx) trivial
  · have ok := ok.1 c_5
    have hx := xif_p c_5 hx
    refine c_aload_nQ dX7_precommitsNone_8 rfl rfl ?_
    refine c_getR (C := RX6) (T := TX6) (N := 19) (ci := 5) (k := 3) ⟨rfl, inT6, by decide, fX7_80⟩ (by decide) (by decide) (by decide) dX7_precommitsNone_9 ok.1 ?_
    have ok := ok.2
    refine c_iconst (v := nI 2) dX7_precommitsNone_12 (by decide) ?_
    refine c_aload_nQ dX7_precommitsNone_13 rfl rfl ?_
    refine c_getI (C := RX6) (T := TX6) (N := 19) (ci := 5) (k := 9) ⟨rfl, inT6, by decide, fX7_18⟩ (by decide) (by decide) (by decide) dX7_precommitsNone_14 ok.1 ?_
    have ok := ok.2
    refine c_aload_nQ dX7_precommitsNone_17 rfl rfl ?_
    refine c_getI (C := RX6) (T := TX6) (N := 19) (ci := 5) (k := 10) ⟨rfl, inT6, by decide, fX7_213⟩ (by decide) (by decide) (by decide) dX7_precommitsNone_18 ok.1 ?_
    have ok := ok.2
    refine c_null' dX7_precommitsNone_21 ?_
    refine c_V4iE (ci := 6) (rr := (RX8, TX8, 14)) (y' := mX8_votesFor) dX7_precommitsNone_22 lX7_176 kX8_votesFor ⟨by decide, by decide⟩ rfl rfl (by decide) ok.1.1 (Nat.le_of_ble_eq_true rfl) (cc_X8_votesFor hG ok.1.2) ?_
    have ok := ok.2
    refine c_aload_nQ dX7_precommitsNone_25 rfl rfl ?_
    refine c_getR (C := RX6) (T := TX6) (N := 19) (ci := 5) (k := 0) ⟨rfl, inT6, by decide, fX7_26⟩ (by decide) (by decide) (by decide) dX7_precommitsNone_26 ok.1 ?_
    have ok := ok.2
    refine c_getI (C := RX10) (T := TX10) (N := 12) (ci := 8) (k := 3) ⟨rfl, inT10, by decide, fX7_180⟩ (by decide) (by decide) (by decide) dX7_precommitsNone_29 ok.1 ?_
    have ok := ok.2
    refine c_icmp_ge (tgt := 37) dX7_precommitsNone_32 (by decide) (fun c_32 => ?_) (fun c_32 => ?_)
    · have ok := ok.1 c_32
      have hx := xif_p c_32 hx
      refine c_aload_nQ dX7_precommitsNone_37 rfl rfl ?_
      refine c_aload_nQ dX7_precommitsNone_38 rfl rfl ?_
      refine c_iconst (v := nI 3) dX7_precommitsNone_39 (by decide) ?_
      refine c_null' dX7_precommitsNone_40 ?_
      refine c_V2qE (ci := 5) (rr := (RX6, TX6, 19)) (y' := mX6_vote) dX7_precommitsNone_41 lX7_230 kX6_vote ⟨by decide, by decide⟩ rfl rfl (by decide) ok.1.1 (by simp only [List.map_cons, List.map_nil, List.sum_cons, List.sum_nil, zcat_rf, zcat_i, zcat_l, zcat_r] <;> decide) (cc_X6_vote hG ok.1.2) ?_
      have ok := ok.2
      exact cX.cutz (b_X7_precommitsNone_44 hG hR ok hx) trivial
    · have ok := ok.2 c_32
      have hx := xif_n c_32 hx
      exact cX.cutz (b_X7_precommitsNone_35 hG hR ok hx) trivial
def f_X7_precommitsNone (N : Nat) (S : cS) (x0 : Option Nat) : Int32 × cS := F_X7_precommitsNone_0 N x0 S
def o_X7_precommitsNone (N : Nat) (S : cS) (x0 : Option Nat) : Prop := O_X7_precommitsNone_0 N x0 S
set_option maxRecDepth 100000 in
set_option maxHeartbeats 4000000 in
theorem cc_X7_precommitsNone {G : zG} {o : cO} {S : cS} {N : Nat} (hG : zOK G) {x0 : Option Nat} (ok : o_X7_precommitsNone N S x0) : cCi G o dX7_precommitsNone mX7_precommitsNone [va_rf x0] S (fun v S' => v = (f_X7_precommitsNone N S x0).1 ∧ S' = (f_X7_precommitsNone N S x0).2) := by
  refine cC.ofX rfl (by cases x0 <;> exact Nat.le_of_ble_eq_true rfl) ?_
  rw [show zargs mX7_precommitsNone.2.2.1 [va_rf x0] = [some (va_rf x0)] from by cases x0 <;> rfl]
  exact cX.cutz (b_X7_precommitsNone_0 (X := fun F => F = f_X7_precommitsNone N S x0) hG (fun v S' h => ⟨v, rfl, by rw [← h], by rw [← h]⟩) ok rfl) ⟨rfl, trivial⟩
/-! X8_votesInAll -/
def F_X8_votesInAll_68 (N : Nat) (x6 : Int32) (S : cS) : Int32 := x6
def O_X8_votesInAll_68 (N : Nat) (x6 : Int32) (S : cS) : Prop := True
set_option maxRecDepth 100000 in
set_option maxHeartbeats 4000000 in
theorem b_X8_votesInAll_68 {G : zG} {o : cO} {S : cS} {N : Nat} {Q : Option Value → cS → Prop} {X : Int32 → Prop} (hG : zOK G) (hR : ∀ v, X v → Q (some (.int v)) S) {x6 : Int32} (ok : O_X8_votesInAll_68 N x6 S) (hx : X (F_X8_votesInAll_68 N x6 S)) : cX G o dX8_votesInAll mX8_votesInAll 68 [none, none, none, none, none, none, some (.int x6), none] [] S Q := by
  unfold O_X8_votesInAll_68 at ok
  unfold F_X8_votesInAll_68 at hx
  refine c_iload dX8_votesInAll_68 rfl ?_
  exact c_ireturn rfl rfl dX8_votesInAll_70 (hR _ hx)
def F_X8_votesInAll_62 (N : Nat) (rec : Option Nat → Int32 → Int32 → Int32 → Int32 → Nat × Int32 × Unit) (x0 : Option Nat) (x4 : Int32) (x5 : Int32) (x6 : Int32) (x7 : Int32) (S : cS) : Nat × Int32 × Unit := (rec x0 x4 x5 x6 (x7 + nI 1))
def O_X8_votesInAll_62 (N : Nat) (rok : Option Nat → Int32 → Int32 → Int32 → Int32 → Prop) (x0 : Option Nat) (x4 : Int32) (x5 : Int32) (x6 : Int32) (x7 : Int32) (S : cS) : Prop := rok x0 x4 x5 x6 (x7 + nI 1)
set_option maxRecDepth 100000 in
set_option maxHeartbeats 4000000 in
theorem b_X8_votesInAll_62 {G : zG} {o : cO} {S : cS} {N : Nat} {Q : Option Value → cS → Prop} {X : Nat × Int32 × Unit → Prop} (hG : zOK G) (hX0 : ∀ (x6 : Int32) , X (0, x6, ()) → cX G o dX8_votesInAll mX8_votesInAll 68 [none, none, none, none, none, none, some (.int x6), none] [] S Q) {rec : Option Nat → Int32 → Int32 → Int32 → Int32 → Nat × Int32 × Unit} {rok : Option Nat → Int32 → Int32 → Int32 → Int32 → Prop} (hrec : ∀ (x0 : Option Nat) (x4 : Int32) (x5 : Int32) (x6 : Int32) (x7 : Int32), rok x0 x4 x5 x6 x7 → X (rec x0 x4 x5 x6 x7) → cX G o dX8_votesInAll mX8_votesInAll 32 [some (va_rf x0), none, none, none, some (.int x4), some (.int x5), some (.int x6), some (.int x7)] [] S Q) {x0 : Option Nat} {x4 : Int32} {x5 : Int32} {x6 : Int32} {x7 : Int32} (ok : O_X8_votesInAll_62 N rok x0 x4 x5 x6 x7 S) (hx : X (F_X8_votesInAll_62 N rec x0 x4 x5 x6 x7 S)) : cX G o dX8_votesInAll mX8_votesInAll 62 [some (va_rf x0), none, none, none, some (.int x4), some (.int x5), some (.int x6), some (.int x7)] [] S Q := by
  unfold O_X8_votesInAll_62 at ok
  unfold F_X8_votesInAll_62 at hx
  refine c_iinc_7 (v := (x7 + nI 1)) dX8_votesInAll_62 rfl (by first | rfl | (congr 1)) (by decide) rfl ?_
  refine c_goto (tgt := 32) dX8_votesInAll_65 (by decide) ?_
  exact cX.cutz (hrec _ _ _ _ _ ok hx) ⟨rfl, rfl, rfl, rfl, rfl, trivial⟩
def B_X8_votesInAll_32 (N : Nat) (rec : Option Nat → Int32 → Int32 → Int32 → Int32 → Nat × Int32 × Unit) (x0 : Option Nat) (x4 : Int32) (x5 : Int32) (x6 : Int32) (x7 : Int32) (S : cS) : Nat × Int32 × Unit := (if (cI S 1 (za x0)) ≤ x7 then (0, x6, ()) else (if x4 < 0 then (0, x6, ()) else (if (cP S (za (cR S 4 (za x0))) (x5 + x7).toNatClampNeg) = none then (F_X8_votesInAll_62 N rec x0 x4 x5 x6 x7 S) else (F_X8_votesInAll_62 N rec x0 x4 x5 (x6 + nI 1) x7 S))))
def OB_X8_votesInAll_32 (N : Nat) (rok : Option Nat → Int32 → Int32 → Int32 → Int32 → Prop) (x0 : Option Nat) (x4 : Int32) (x5 : Int32) (x6 : Int32) (x7 : Int32) (S : cS) : Prop := (cis S x0 7) ∧ (((cI S 1 (za x0)) ≤ x7 → True) ∧ (¬ (cI S 1 (za x0)) ≤ x7 → ((x4 < 0 → True) ∧ (¬ x4 < 0 → (cis S x0 7) ∧ (cis S (cR S 4 (za x0)) 24 ∧ vp_in (x5 + x7) (cL S (za (cR S 4 (za x0))))) ∧ (((cP S (za (cR S 4 (za x0))) (x5 + x7).toNatClampNeg) = none → O_X8_votesInAll_62 N rok x0 x4 x5 x6 x7 S) ∧ (¬ (cP S (za (cR S 4 (za x0))) (x5 + x7).toNatClampNeg) = none → O_X8_votesInAll_62 N rok x0 x4 x5 (x6 + nI 1) x7 S))))))
set_option maxRecDepth 100000 in
set_option maxHeartbeats 4000000 in
theorem bb_X8_votesInAll_32 {G : zG} {o : cO} {S : cS} {N : Nat} {Q : Option Value → cS → Prop} {X : Nat × Int32 × Unit → Prop} (hG : zOK G) (hX0 : ∀ (x6 : Int32) , X (0, x6, ()) → cX G o dX8_votesInAll mX8_votesInAll 68 [none, none, none, none, none, none, some (.int x6), none] [] S Q) {rec : Option Nat → Int32 → Int32 → Int32 → Int32 → Nat × Int32 × Unit} {rok : Option Nat → Int32 → Int32 → Int32 → Int32 → Prop} (hrec : ∀ (x0 : Option Nat) (x4 : Int32) (x5 : Int32) (x6 : Int32) (x7 : Int32), rok x0 x4 x5 x6 x7 → X (rec x0 x4 x5 x6 x7) → cX G o dX8_votesInAll mX8_votesInAll 32 [some (va_rf x0), none, none, none, some (.int x4), some (.int x5), some (.int x6), some (.int x7)] [] S Q) {x0 : Option Nat} {x4 : Int32} {x5 : Int32} {x6 : Int32} {x7 : Int32} (ok : OB_X8_votesInAll_32 N rok x0 x4 x5 x6 x7 S) (hx : X (B_X8_votesInAll_32 N rec x0 x4 x5 x6 x7 S)) : cX G o dX8_votesInAll mX8_votesInAll 32 [some (va_rf x0), none, none, none, some (.int x4), some (.int x5), some (.int x6), some (.int x7)] [] S Q := by
  unfold OB_X8_votesInAll_32 at ok
  unfold B_X8_votesInAll_32 at hx
  refine c_iload dX8_votesInAll_32 rfl ?_
  refine c_aload_nQ dX8_votesInAll_34 rfl rfl ?_
  refine c_getI (C := RX8) (T := TX8) (N := 14) (ci := 6) (k := 1) ⟨rfl, inT8, by decide, fX8_32⟩ (by decide) (by decide) (by decide) dX8_votesInAll_35 ok.1 ?_
  have ok := ok.2
  refine c_icmp_ge (tgt := 68) dX8_votesInAll_38 (by decide) (fun c_38 => ?_) (fun c_38 => ?_)
  · have ok := ok.1 c_38
    have hx := xif_p c_38 hx
    exact cX.cutz (hX0 _  hx) ⟨rfl, trivial⟩
  · have ok := ok.2 c_38
    have hx := xif_n c_38 hx
    refine c_iload dX8_votesInAll_41 rfl ?_
    refine c_if_lt (tgt := 68) dX8_votesInAll_43 (by decide) (fun c_43 => ?_) (fun c_43 => ?_)
    · have ok := ok.1 c_43
      have hx := xif_p c_43 hx
      exact cX.cutz (hX0 _  hx) ⟨rfl, trivial⟩
    · have ok := ok.2 c_43
      have hx := xif_n c_43 hx
      refine c_aload_nQ dX8_votesInAll_46 rfl rfl ?_
      refine c_getR (C := RX8) (T := TX8) (N := 14) (ci := 6) (k := 4) ⟨rfl, inT8, by decide, fX8_36⟩ (by decide) (by decide) (by decide) dX8_votesInAll_47 ok.1 ?_
      have ok := ok.2
      refine c_iload dX8_votesInAll_50 rfl ?_
      refine c_iload dX8_votesInAll_52 rfl ?_
      refine c_iadd dX8_votesInAll_54 ?_
      refine c_aald (t := 4) (ty := (.object "QuorumLedger$Message")) rfl rfl (by decide) dX8_votesInAll_55 ok.1 ?_
      have ok := ok.2
      refine c_ifnullI (tgt := 62) dX8_votesInAll_56 (by decide) (fun c_56 => ?_) (fun c_56 => ?_)
      · have ok := ok.1 c_56
        have hx := xif_p c_56 hx
        exact cX.cutz (b_X8_votesInAll_62 hG hX0 hrec ok hx) ⟨rfl, rfl, rfl, rfl, rfl, trivial⟩
      · have ok := ok.2 c_56
        have hx := xif_n c_56 hx
        refine c_iinc_6 (v := (x6 + nI 1)) dX8_votesInAll_59 rfl (by first | rfl | (congr 1)) (by decide) rfl ?_
        exact cX.cutz (b_X8_votesInAll_62 hG hX0 hrec ok hx) ⟨rfl, rfl, rfl, rfl, rfl, trivial⟩
def L_X8_votesInAll_32 (N : Nat) : Nat → Option Nat → Int32 → Int32 → Int32 → Int32 → cS → Nat × Int32 × Unit
  | 0, x0, x4, x5, x6, x7, S => (0, 0, ())
  | n + 1, x0, x4, x5, x6, x7, S => B_X8_votesInAll_32 N (fun x0 x4 x5 x6 x7 => L_X8_votesInAll_32 N n x0 x4 x5 x6 x7 S) x0 x4 x5 x6 x7 S
def OL_X8_votesInAll_32 (N : Nat) : Nat → Option Nat → Int32 → Int32 → Int32 → Int32 → cS → Prop
  | 0, _, _, _, _, _, _ => False
  | n + 1, x0, x4, x5, x6, x7, S => OB_X8_votesInAll_32 N (fun x0 x4 x5 x6 x7 => OL_X8_votesInAll_32 N n x0 x4 x5 x6 x7 S) x0 x4 x5 x6 x7 S
set_option maxRecDepth 100000 in
set_option maxHeartbeats 4000000 in
theorem l_X8_votesInAll_32 {G : zG} {o : cO} {S : cS} {N : Nat} {Q : Option Value → cS → Prop} {X : Nat × Int32 × Unit → Prop} (hG : zOK G) (hX0 : ∀ (x6 : Int32) , X (0, x6, ()) → cX G o dX8_votesInAll mX8_votesInAll 68 [none, none, none, none, none, none, some (.int x6), none] [] S Q) : ∀ (n : Nat) (x0 : Option Nat) (x4 : Int32) (x5 : Int32) (x6 : Int32) (x7 : Int32) , OL_X8_votesInAll_32 N n x0 x4 x5 x6 x7 S → X (L_X8_votesInAll_32 N n x0 x4 x5 x6 x7 S) → cX G o dX8_votesInAll mX8_votesInAll 32 [some (va_rf x0), none, none, none, some (.int x4), some (.int x5), some (.int x6), some (.int x7)] [] S Q := by
  intro n
  induction n with
  | zero => intro x0 x4 x5 x6 x7 ok; exact absurd ok id
  | succ n ih =>
    intro x0 x4 x5 x6 x7 ok hx
    exact bb_X8_votesInAll_32 hG hX0 (rec := fun x0 x4 x5 x6 x7 => L_X8_votesInAll_32 N n x0 x4 x5 x6 x7 S) (rok := fun x0 x4 x5 x6 x7 => OL_X8_votesInAll_32 N n x0 x4 x5 x6 x7 S) (fun x0 x4 x5 x6 x7 ok hx => ih x0 x4 x5 x6 x7 ok hx) ok hx
def A_X8_votesInAll_32 (N : Nat) (x0 : Option Nat) (x4 : Int32) (x5 : Int32) (x6 : Int32) (x7 : Int32) (S : cS) (z : Nat × Int32 × Unit) : Int32 := (F_X8_votesInAll_68 N (z.2.1) S)
def OA_X8_votesInAll_32 (N : Nat) (x0 : Option Nat) (x4 : Int32) (x5 : Int32) (x6 : Int32) (x7 : Int32) (S : cS) (z : Nat × Int32 × Unit) : Prop := O_X8_votesInAll_68 N (z.2.1) S
set_option maxRecDepth 100000 in
set_option maxHeartbeats 4000000 in
theorem c_X8_votesInAll_32 {G : zG} {o : cO} {S : cS} {N : Nat} {Q : Option Value → cS → Prop} {X : Int32 → Prop} (hG : zOK G) (hR : ∀ v, X v → Q (some (.int v)) S) {x0 : Option Nat} {x4 : Int32} {x5 : Int32} {x6 : Int32} {x7 : Int32} (ok : OL_X8_votesInAll_32 N N x0 x4 x5 x6 x7 S ∧ OA_X8_votesInAll_32 N x0 x4 x5 x6 x7 S (L_X8_votesInAll_32 N N x0 x4 x5 x6 x7 S)) (hx : X (A_X8_votesInAll_32 N x0 x4 x5 x6 x7 S (L_X8_votesInAll_32 N N x0 x4 x5 x6 x7 S))) : cX G o dX8_votesInAll mX8_votesInAll 32 [some (va_rf x0), none, none, none, some (.int x4), some (.int x5), some (.int x6), some (.int x7)] [] S Q := by
  refine l_X8_votesInAll_32 hG ?_ N x0 x4 x5 x6 x7 ok.1 (X := fun z => OA_X8_votesInAll_32 N x0 x4 x5 x6 x7 S z ∧ X (A_X8_votesInAll_32 N x0 x4 x5 x6 x7 S z)) ⟨ok.2, hx⟩
  · intro x6' hz
    obtain ⟨ok, hx⟩ := hz
    unfold OA_X8_votesInAll_32 at ok
    unfold A_X8_votesInAll_32 at hx
    exact cX.cutz (b_X8_votesInAll_68 hG hR ok hx) ⟨rfl, trivial⟩
def F_X8_votesInAll_24 (N : Nat) (x0 : Option Nat) (x4 : Int32) (s0 : Int32) (S : cS) : Int32 := (A_X8_votesInAll_32 N x0 x4 s0 (nI 0) (nI 0) S (L_X8_votesInAll_32 N N x0 x4 s0 (nI 0) (nI 0) S))
def O_X8_votesInAll_24 (N : Nat) (x0 : Option Nat) (x4 : Int32) (s0 : Int32) (S : cS) : Prop := (OL_X8_votesInAll_32 N N x0 x4 s0 (nI 0) (nI 0) S ∧ OA_X8_votesInAll_32 N x0 x4 s0 (nI 0) (nI 0) S (L_X8_votesInAll_32 N N x0 x4 s0 (nI 0) (nI 0) S))
set_option maxRecDepth 100000 in
set_option maxHeartbeats 4000000 in
theorem b_X8_votesInAll_24 {G : zG} {o : cO} {S : cS} {N : Nat} {Q : Option Value → cS → Prop} {X : Int32 → Prop} (hG : zOK G) (hR : ∀ v, X v → Q (some (.int v)) S) {x0 : Option Nat} {x4 : Int32} {s0 : Int32} (ok : O_X8_votesInAll_24 N x0 x4 s0 S) (hx : X (F_X8_votesInAll_24 N x0 x4 s0 S)) : cX G o dX8_votesInAll mX8_votesInAll 24 [some (va_rf x0), none, none, none, some (.int x4), none, none, none] [.int s0] S Q := by
  unfold O_X8_votesInAll_24 at ok
  unfold F_X8_votesInAll_24 at hx
  refine c_istore_5 dX8_votesInAll_24 (by decide) rfl ?_
  refine c_iconst (v := nI 0) dX8_votesInAll_26 (by decide) ?_
  refine c_istore_6 dX8_votesInAll_27 (by decide) rfl ?_
  refine c_iconst (v := nI 0) dX8_votesInAll_29 (by decide) ?_
  refine c_istore_7 dX8_votesInAll_30 (by decide) rfl ?_
  exact cX.cutz (c_X8_votesInAll_32 hG hR ok hx) ⟨rfl, rfl, rfl, rfl, rfl, trivial⟩
def F_X8_votesInAll_0 (N : Nat) (x0 : Option Nat) (x1 : Int32) (x2 : Int32) (x3 : Int32) (S : cS) : Int32 := (if 0 ≤ (f_X8_page N S (za x0) x2 x3) then (F_X8_votesInAll_24 N x0 (f_X8_page N S (za x0) x2 x3) (f_X8_ballots N S (za x0) (f_X8_page N S (za x0) x2 x3) x1) S) else (F_X8_votesInAll_24 N x0 (f_X8_page N S (za x0) x2 x3) (nI 0) S))
def O_X8_votesInAll_0 (N : Nat) (x0 : Option Nat) (x1 : Int32) (x2 : Int32) (x3 : Int32) (S : cS) : Prop := (cis S x0 7 ∧ o_X8_page N S (za x0) x2 x3) ∧ ((0 ≤ (f_X8_page N S (za x0) x2 x3) → (cis S x0 7 ∧ o_X8_ballots N S (za x0) (f_X8_page N S (za x0) x2 x3) x1) ∧ O_X8_votesInAll_24 N x0 (f_X8_page N S (za x0) x2 x3) (f_X8_ballots N S (za x0) (f_X8_page N S (za x0) x2 x3) x1) S) ∧ (¬ 0 ≤ (f_X8_page N S (za x0) x2 x3) → O_X8_votesInAll_24 N x0 (f_X8_page N S (za x0) x2 x3) (nI 0) S))
set_option maxRecDepth 100000 in
set_option maxHeartbeats 4000000 in
theorem b_X8_votesInAll_0 {G : zG} {o : cO} {S : cS} {N : Nat} {Q : Option Value → cS → Prop} {X : Int32 → Prop} (hG : zOK G) (hR : ∀ v, X v → Q (some (.int v)) S) {x0 : Option Nat} {x1 : Int32} {x2 : Int32} {x3 : Int32} (ok : O_X8_votesInAll_0 N x0 x1 x2 x3 S) (hx : X (F_X8_votesInAll_0 N x0 x1 x2 x3 S)) : cX G o dX8_votesInAll mX8_votesInAll 0 [some (va_rf x0), some (.int x1), some (.int x2), some (.int x3), none, none, none, none] [] S Q := by
  unfold O_X8_votesInAll_0 at ok
  unfold F_X8_votesInAll_0 at hx
  refine c_aload_nQ dX8_votesInAll_0 rfl rfl ?_
  refine c_iload_n dX8_votesInAll_1 rfl rfl ?_
  refine c_iload_n dX8_votesInAll_2 rfl rfl ?_
  refine c_V2iE (ci := 6) (rr := (RX8, TX8, 14)) (y' := mX8_page) dX8_votesInAll_3 lX8_51 kX8_page ⟨by decide, by decide⟩ rfl rfl (by decide) ok.1.1 (Nat.le_of_ble_eq_true rfl) (cc_X8_page hG ok.1.2) ?_
  have ok := ok.2
  refine c_istore_4 dX8_votesInAll_6 (by decide) rfl ?_
  refine c_iload dX8_votesInAll_8 rfl ?_
  refine c_if_ge (tgt := 17) dX8_votesInAll_10 (by decide) (fun c_10 => ?_) (fun c_10 => ?_)
  · have ok := ok.1 c_10
    have hx := xif_p c_10 hx
    refine c_aload_nQ dX8_votesInAll_17 rfl rfl ?_
    refine c_iload dX8_votesInAll_18 rfl ?_
    refine c_iload_n dX8_votesInAll_20 rfl rfl ?_
    refine c_V2iE (ci := 6) (rr := (RX8, TX8, 14)) (y' := mX8_ballots) dX8_votesInAll_21 lX8_69 kX8_ballots ⟨by decide, by decide⟩ rfl rfl (by decide) ok.1.1 (Nat.le_of_ble_eq_true rfl) (cc_X8_ballots hG ok.1.2) ?_
    have ok := ok.2
    exact cX.cutz (b_X8_votesInAll_24 hG hR ok hx) ⟨rfl, rfl, trivial⟩
  · have ok := ok.2 c_10
    have hx := xif_n c_10 hx
    refine c_iconst (v := nI 0) dX8_votesInAll_13 (by decide) ?_
    refine c_goto (tgt := 24) dX8_votesInAll_14 (by decide) ?_
    exact cX.cutz (b_X8_votesInAll_24 hG hR ok hx) ⟨rfl, rfl, trivial⟩
def f_X8_votesInAll (N : Nat) (S : cS) (a0 : Nat) (x1 : Int32) (x2 : Int32) (x3 : Int32) : Int32 := F_X8_votesInAll_0 N (some a0) x1 x2 x3 S
def o_X8_votesInAll (N : Nat) (S : cS) (a0 : Nat) (x1 : Int32) (x2 : Int32) (x3 : Int32) : Prop := O_X8_votesInAll_0 N (some a0) x1 x2 x3 S
set_option maxRecDepth 100000 in
set_option maxHeartbeats 4000000 in
theorem cc_X8_votesInAll {G : zG} {o : cO} {S : cS} {N : Nat} (hG : zOK G) {a0 : Nat} {x1 : Int32} {x2 : Int32} {x3 : Int32} (ok : o_X8_votesInAll N S a0 x1 x2 x3) : cCi G o dX8_votesInAll mX8_votesInAll [.ref a0, .int x1, .int x2, .int x3] S (fun v S' => v = f_X8_votesInAll N S a0 x1 x2 x3 ∧ S' = S) := by
  refine cC.ofX rfl (by exact Nat.le_of_ble_eq_true rfl) ?_
  show cX G o dX8_votesInAll mX8_votesInAll 0 [some (.ref a0), some (.int x1), some (.int x2), some (.int x3), none, none, none, none] [] S _
  exact cX.cutz (b_X8_votesInAll_0 (X := fun F => F = f_X8_votesInAll N S a0 x1 x2 x3) hG (fun v h => ⟨v, rfl, h, rfl⟩) ok rfl) ⟨rfl, rfl, rfl, rfl, trivial⟩
/-! X7_awaitsPrevotes -/
def F_X7_awaitsPrevotes_62 (N : Nat)  (S : cS) : Int32 × cS := ((nI 1), S)
def O_X7_awaitsPrevotes_62 (N : Nat)  (S : cS) : Prop := True
set_option maxRecDepth 100000 in
set_option maxHeartbeats 4000000 in
theorem b_X7_awaitsPrevotes_62 {G : zG} {o : cO} {S : cS} {N : Nat} {Q : Option Value → cS → Prop} {X : Int32 × cS → Prop} (hG : zOK G) (hR : ∀ v S', X (v, S') → Q (some (.int v)) S') (ok : O_X7_awaitsPrevotes_62 N S) (hx : X (F_X7_awaitsPrevotes_62 N S)) : cX G o dX7_awaitsPrevotes mX7_awaitsPrevotes 62 [none] [] S Q := by
  unfold O_X7_awaitsPrevotes_62 at ok
  unfold F_X7_awaitsPrevotes_62 at hx
  refine c_iconst (v := nI 1) dX7_awaitsPrevotes_62 (by decide) ?_
  exact c_ireturn rfl rfl dX7_awaitsPrevotes_63 (hR _ _ hx)
def F_X7_awaitsPrevotes_17 (N : Nat)  (S : cS) : Int32 × cS := ((nI 0), S)
def O_X7_awaitsPrevotes_17 (N : Nat)  (S : cS) : Prop := True
set_option maxRecDepth 100000 in
set_option maxHeartbeats 4000000 in
theorem b_X7_awaitsPrevotes_17 {G : zG} {o : cO} {S : cS} {N : Nat} {Q : Option Value → cS → Prop} {X : Int32 × cS → Prop} (hG : zOK G) (hR : ∀ v S', X (v, S') → Q (some (.int v)) S') (ok : O_X7_awaitsPrevotes_17 N S) (hx : X (F_X7_awaitsPrevotes_17 N S)) : cX G o dX7_awaitsPrevotes mX7_awaitsPrevotes 17 [none] [] S Q := by
  unfold O_X7_awaitsPrevotes_17 at ok
  unfold F_X7_awaitsPrevotes_17 at hx
  refine c_iconst (v := nI 0) dX7_awaitsPrevotes_17 (by decide) ?_
  exact c_ireturn rfl rfl dX7_awaitsPrevotes_18 (hR _ _ hx)
def F_X7_awaitsPrevotes_0 (N : Nat) (x0 : Option Nat) (S : cS) : Int32 × cS := (if (cI S 11 (za x0)) = (nI 1) then (if ((cI S 16 (za x0)) &&& (nI 2)) = 0 then (if (cI S 3 (za (cR S 0 (za x0)))) ≤ (f_X8_votesInAll N S (za (cR S 3 (za x0))) (nI 2) (cI S 9 (za x0)) (cI S 10 (za x0))) then (F_X7_awaitsPrevotes_62 N (f_X6_setTimer N (csI S 16 (za x0) ((cI S 16 (za x0)) ||| (nI 2))) (za x0) (nI 1))) else ((nI 0), S)) else (F_X7_awaitsPrevotes_17 N S)) else (F_X7_awaitsPrevotes_17 N S))
def O_X7_awaitsPrevotes_0 (N : Nat) (x0 : Option Nat) (S : cS) : Prop := (cis S x0 6) ∧ (((cI S 11 (za x0)) = (nI 1) → (cis S x0 6) ∧ ((((cI S 16 (za x0)) &&& (nI 2)) = 0 → (cis S x0 6) ∧ (cis S x0 6) ∧ (cis S x0 6) ∧ (cis S (cR S 3 (za x0)) 7 ∧ o_X8_votesInAll N S (za (cR S 3 (za x0))) (nI 2) (cI S 9 (za x0)) (cI S 10 (za x0))) ∧ (cis S x0 6) ∧ (cis S (cR S 0 (za x0)) 9) ∧ (((cI S 3 (za (cR S 0 (za x0)))) ≤ (f_X8_votesInAll N S (za (cR S 3 (za x0))) (nI 2) (cI S 9 (za x0)) (cI S 10 (za x0))) → (cis S x0 6) ∧ (cis S x0 6) ∧ (cis (csI S 16 (za x0) ((cI S 16 (za x0)) ||| (nI 2))) x0 6 ∧ o_X6_setTimer N (csI S 16 (za x0) ((cI S 16 (za x0)) ||| (nI 2))) (za x0) (nI 1)) ∧ O_X7_awaitsPrevotes_62 N (f_X6_setTimer N (csI S 16 (za x0) ((cI S 16 (za x0)) ||| (nI 2))) (za x0) (nI 1))) ∧ (¬ (cI S 3 (za (cR S 0 (za x0)))) ≤ (f_X8_votesInAll N S (za (cR S 3 (za x0))) (nI 2) (cI S 9 (za x0)) (cI S 10 (za x0))) → True))) ∧ (¬ ((cI S 16 (za x0)) &&& (nI 2)) = 0 → O_X7_awaitsPrevotes_17 N S))) ∧ (¬ (cI S 11 (za x0)) = (nI 1) → O_X7_awaitsPrevotes_17 N S))
set_option maxRecDepth 100000 in
set_option maxHeartbeats 4000000 in
theorem b_X7_awaitsPrevotes_0 {G : zG} {o : cO} {S : cS} {N : Nat} {Q : Option Value → cS → Prop} {X : Int32 × cS → Prop} (hG : zOK G) (hR : ∀ v S', X (v, S') → Q (some (.int v)) S') {x0 : Option Nat} (ok : O_X7_awaitsPrevotes_0 N x0 S) (hx : X (F_X7_awaitsPrevotes_0 N x0 S)) : cX G o dX7_awaitsPrevotes mX7_awaitsPrevotes 0 [some (va_rf x0)] [] S Q := by
  unfold O_X7_awaitsPrevotes_0 at ok
  unfold F_X7_awaitsPrevotes_0 at hx
  refine c_aload_nQ dX7_awaitsPrevotes_0 rfl rfl ?_
  refine c_getI (C := RX6) (T := TX6) (N := 19) (ci := 5) (k := 11) ⟨rfl, inT6, by decide, fX7_220⟩ (by decide) (by decide) (by decide) dX7_awaitsPrevotes_1 ok.1 ?_
  have ok := ok.2
  refine c_iconst (v := nI 1) dX7_awaitsPrevotes_4 (by decide) ?_
  refine c_icmp_ne (tgt := 17) dX7_awaitsPrevotes_5 (by decide) (fun c_5 => ?_) (fun c_5 => ?_)
  · have ok := ok.2 c_5
    have hx := xif_n c_5 hx
    exact cX.cutz (b_X7_awaitsPrevotes_17 hG hR ok hx) trivial
  · have ok := ok.1 c_5
    have hx := xif_p c_5 hx
    refine c_aload_nQ dX7_awaitsPrevotes_8 rfl rfl ?_
    refine c_getI (C := RX6) (T := TX6) (N := 19) (ci := 5) (k := 16) ⟨rfl, inT6, by decide, fX7_240⟩ (by decide) (by decide) (by decide) dX7_awaitsPrevotes_9 ok.1 ?_
    have ok := ok.2
    refine c_iconst (v := nI 2) dX7_awaitsPrevotes_12 (by decide) ?_
    refine c_iand dX7_awaitsPrevotes_13 ?_
    refine c_if_eq (tgt := 19) dX7_awaitsPrevotes_14 (by decide) (fun c_14 => ?_) (fun c_14 => ?_)
    · have ok := ok.1 c_14
      have hx := xif_p c_14 hx
      refine c_aload_nQ dX7_awaitsPrevotes_19 rfl rfl ?_
      refine c_getR (C := RX6) (T := TX6) (N := 19) (ci := 5) (k := 3) ⟨rfl, inT6, by decide, fX7_80⟩ (by decide) (by decide) (by decide) dX7_awaitsPrevotes_20 ok.1 ?_
      have ok := ok.2
      refine c_iconst (v := nI 2) dX7_awaitsPrevotes_23 (by decide) ?_
      refine c_aload_nQ dX7_awaitsPrevotes_24 rfl rfl ?_
      refine c_getI (C := RX6) (T := TX6) (N := 19) (ci := 5) (k := 9) ⟨rfl, inT6, by decide, fX7_18⟩ (by decide) (by decide) (by decide) dX7_awaitsPrevotes_25 ok.1 ?_
      have ok := ok.2
      refine c_aload_nQ dX7_awaitsPrevotes_28 rfl rfl ?_
      refine c_getI (C := RX6) (T := TX6) (N := 19) (ci := 5) (k := 10) ⟨rfl, inT6, by decide, fX7_213⟩ (by decide) (by decide) (by decide) dX7_awaitsPrevotes_29 ok.1 ?_
      have ok := ok.2
      refine c_V3iE (ci := 6) (rr := (RX8, TX8, 14)) (y' := mX8_votesInAll) dX7_awaitsPrevotes_32 lX7_257 kX8_votesInAll ⟨by decide, by decide⟩ rfl rfl (by decide) ok.1.1 (Nat.le_of_ble_eq_true rfl) (cc_X8_votesInAll hG ok.1.2) ?_
      have ok := ok.2
      refine c_aload_nQ dX7_awaitsPrevotes_35 rfl rfl ?_
      refine c_getR (C := RX6) (T := TX6) (N := 19) (ci := 5) (k := 0) ⟨rfl, inT6, by decide, fX7_26⟩ (by decide) (by decide) (by decide) dX7_awaitsPrevotes_36 ok.1 ?_
      have ok := ok.2
      refine c_getI (C := RX10) (T := TX10) (N := 12) (ci := 8) (k := 3) ⟨rfl, inT10, by decide, fX7_180⟩ (by decide) (by decide) (by decide) dX7_awaitsPrevotes_39 ok.1 ?_
      have ok := ok.2
      refine c_icmp_ge (tgt := 47) dX7_awaitsPrevotes_42 (by decide) (fun c_42 => ?_) (fun c_42 => ?_)
      · have ok := ok.1 c_42
        have hx := xif_p c_42 hx
        refine c_aload_nQ dX7_awaitsPrevotes_47 rfl rfl ?_
        refine c_dup dX7_awaitsPrevotes_48 (zcat_rf _) ?_
        refine c_getI (C := RX6) (T := TX6) (N := 19) (ci := 5) (k := 16) ⟨rfl, inT6, by decide, fX7_240⟩ (by decide) (by decide) (by decide) dX7_awaitsPrevotes_49 ok.1 ?_
        have ok := ok.2
        refine c_iconst (v := nI 2) dX7_awaitsPrevotes_52 (by decide) ?_
        refine c_ior dX7_awaitsPrevotes_53 ?_
        refine c_putI (C := RX6) (T := TX6) (N := 19) (ci := 5) (k := 16) ⟨rfl, inT6, by decide, fX7_240⟩ ftT6 rfl (by decide) (by decide) (by decide) rfl rfl dX7_awaitsPrevotes_54 ok.1 ?_
        have ok := ok.2
        refine c_aload_nQ dX7_awaitsPrevotes_57 rfl rfl ?_
        refine c_iconst (v := nI 1) dX7_awaitsPrevotes_58 (by decide) ?_
        refine c_V1vE (ci := 5) (rr := (RX6, TX6, 19)) (y' := mX6_setTimer) dX7_awaitsPrevotes_59 lX7_261 kX6_setTimer ⟨by decide, by decide⟩ rfl rfl (by decide) ok.1.1 (Nat.le_of_ble_eq_true rfl) (cc_X6_setTimer hG ok.1.2) ?_
        have ok := ok.2
        exact cX.cutz (b_X7_awaitsPrevotes_62 hG hR ok hx) trivial
      · have ok := ok.2 c_42
        have hx := xif_n c_42 hx
        refine c_iconst (v := nI 0) dX7_awaitsPrevotes_45 (by decide) ?_
        exact c_ireturn rfl rfl dX7_awaitsPrevotes_46 (hR _ _ hx)
    · have ok := ok.2 c_14
      have hx := xif_n c_14 hx
      exact cX.cutz (b_X7_awaitsPrevotes_17 hG hR ok hx) trivial
def f_X7_awaitsPrevotes (N : Nat) (S : cS) (x0 : Option Nat) : Int32 × cS := F_X7_awaitsPrevotes_0 N x0 S
def o_X7_awaitsPrevotes (N : Nat) (S : cS) (x0 : Option Nat) : Prop := O_X7_awaitsPrevotes_0 N x0 S
set_option maxRecDepth 100000 in
set_option maxHeartbeats 4000000 in
theorem cc_X7_awaitsPrevotes {G : zG} {o : cO} {S : cS} {N : Nat} (hG : zOK G) {x0 : Option Nat} (ok : o_X7_awaitsPrevotes N S x0) : cCi G o dX7_awaitsPrevotes mX7_awaitsPrevotes [va_rf x0] S (fun v S' => v = (f_X7_awaitsPrevotes N S x0).1 ∧ S' = (f_X7_awaitsPrevotes N S x0).2) := by
  refine cC.ofX rfl (by cases x0 <;> exact Nat.le_of_ble_eq_true rfl) ?_
  rw [show zargs mX7_awaitsPrevotes.2.2.1 [va_rf x0] = [some (va_rf x0)] from by cases x0 <;> rfl]
  exact cX.cutz (b_X7_awaitsPrevotes_0 (X := fun F => F = f_X7_awaitsPrevotes N S x0) hG (fun v S' h => ⟨v, rfl, by rw [← h], by rw [← h]⟩) ok rfl) ⟨rfl, trivial⟩
/-! X7_awaitsPrecommits -/
def F_X7_awaitsPrecommits_54 (N : Nat)  (S : cS) : Int32 × cS := ((nI 1), S)
def O_X7_awaitsPrecommits_54 (N : Nat)  (S : cS) : Prop := True
set_option maxRecDepth 100000 in
set_option maxHeartbeats 4000000 in
theorem b_X7_awaitsPrecommits_54 {G : zG} {o : cO} {S : cS} {N : Nat} {Q : Option Value → cS → Prop} {X : Int32 × cS → Prop} (hG : zOK G) (hR : ∀ v S', X (v, S') → Q (some (.int v)) S') (ok : O_X7_awaitsPrecommits_54 N S) (hx : X (F_X7_awaitsPrecommits_54 N S)) : cX G o dX7_awaitsPrecommits mX7_awaitsPrecommits 54 [none] [] S Q := by
  unfold O_X7_awaitsPrecommits_54 at ok
  unfold F_X7_awaitsPrecommits_54 at hx
  refine c_iconst (v := nI 1) dX7_awaitsPrecommits_54 (by decide) ?_
  exact c_ireturn rfl rfl dX7_awaitsPrecommits_55 (hR _ _ hx)
def F_X7_awaitsPrecommits_0 (N : Nat) (x0 : Option Nat) (S : cS) : Int32 × cS := (if ((cI S 16 (za x0)) &&& (nI 4)) = 0 then (if (cI S 3 (za (cR S 0 (za x0)))) ≤ (f_X8_votesInAll N S (za (cR S 3 (za x0))) (nI 3) (cI S 9 (za x0)) (cI S 10 (za x0))) then (F_X7_awaitsPrecommits_54 N (f_X6_setTimer N (csI S 16 (za x0) ((cI S 16 (za x0)) ||| (nI 4))) (za x0) (nI 2))) else ((nI 0), S)) else ((nI 0), S))
def O_X7_awaitsPrecommits_0 (N : Nat) (x0 : Option Nat) (S : cS) : Prop := (cis S x0 6) ∧ ((((cI S 16 (za x0)) &&& (nI 4)) = 0 → (cis S x0 6) ∧ (cis S x0 6) ∧ (cis S x0 6) ∧ (cis S (cR S 3 (za x0)) 7 ∧ o_X8_votesInAll N S (za (cR S 3 (za x0))) (nI 3) (cI S 9 (za x0)) (cI S 10 (za x0))) ∧ (cis S x0 6) ∧ (cis S (cR S 0 (za x0)) 9) ∧ (((cI S 3 (za (cR S 0 (za x0)))) ≤ (f_X8_votesInAll N S (za (cR S 3 (za x0))) (nI 3) (cI S 9 (za x0)) (cI S 10 (za x0))) → (cis S x0 6) ∧ (cis S x0 6) ∧ (cis (csI S 16 (za x0) ((cI S 16 (za x0)) ||| (nI 4))) x0 6 ∧ o_X6_setTimer N (csI S 16 (za x0) ((cI S 16 (za x0)) ||| (nI 4))) (za x0) (nI 2)) ∧ O_X7_awaitsPrecommits_54 N (f_X6_setTimer N (csI S 16 (za x0) ((cI S 16 (za x0)) ||| (nI 4))) (za x0) (nI 2))) ∧ (¬ (cI S 3 (za (cR S 0 (za x0)))) ≤ (f_X8_votesInAll N S (za (cR S 3 (za x0))) (nI 3) (cI S 9 (za x0)) (cI S 10 (za x0))) → True))) ∧ (¬ ((cI S 16 (za x0)) &&& (nI 4)) = 0 → True))
set_option maxRecDepth 100000 in
set_option maxHeartbeats 4000000 in
theorem b_X7_awaitsPrecommits_0 {G : zG} {o : cO} {S : cS} {N : Nat} {Q : Option Value → cS → Prop} {X : Int32 × cS → Prop} (hG : zOK G) (hR : ∀ v S', X (v, S') → Q (some (.int v)) S') {x0 : Option Nat} (ok : O_X7_awaitsPrecommits_0 N x0 S) (hx : X (F_X7_awaitsPrecommits_0 N x0 S)) : cX G o dX7_awaitsPrecommits mX7_awaitsPrecommits 0 [some (va_rf x0)] [] S Q := by
  unfold O_X7_awaitsPrecommits_0 at ok
  unfold F_X7_awaitsPrecommits_0 at hx
  refine c_aload_nQ dX7_awaitsPrecommits_0 rfl rfl ?_
  refine c_getI (C := RX6) (T := TX6) (N := 19) (ci := 5) (k := 16) ⟨rfl, inT6, by decide, fX7_240⟩ (by decide) (by decide) (by decide) dX7_awaitsPrecommits_1 ok.1 ?_
  have ok := ok.2
  refine c_iconst (v := nI 4) dX7_awaitsPrecommits_4 (by decide) ?_
  refine c_iand dX7_awaitsPrecommits_5 ?_
  refine c_if_eq (tgt := 11) dX7_awaitsPrecommits_6 (by decide) (fun c_6 => ?_) (fun c_6 => ?_)
  · have ok := ok.1 c_6
    have hx := xif_p c_6 hx
    refine c_aload_nQ dX7_awaitsPrecommits_11 rfl rfl ?_
    refine c_getR (C := RX6) (T := TX6) (N := 19) (ci := 5) (k := 3) ⟨rfl, inT6, by decide, fX7_80⟩ (by decide) (by decide) (by decide) dX7_awaitsPrecommits_12 ok.1 ?_
    have ok := ok.2
    refine c_iconst (v := nI 3) dX7_awaitsPrecommits_15 (by decide) ?_
    refine c_aload_nQ dX7_awaitsPrecommits_16 rfl rfl ?_
    refine c_getI (C := RX6) (T := TX6) (N := 19) (ci := 5) (k := 9) ⟨rfl, inT6, by decide, fX7_18⟩ (by decide) (by decide) (by decide) dX7_awaitsPrecommits_17 ok.1 ?_
    have ok := ok.2
    refine c_aload_nQ dX7_awaitsPrecommits_20 rfl rfl ?_
    refine c_getI (C := RX6) (T := TX6) (N := 19) (ci := 5) (k := 10) ⟨rfl, inT6, by decide, fX7_213⟩ (by decide) (by decide) (by decide) dX7_awaitsPrecommits_21 ok.1 ?_
    have ok := ok.2
    refine c_V3iE (ci := 6) (rr := (RX8, TX8, 14)) (y' := mX8_votesInAll) dX7_awaitsPrecommits_24 lX7_257 kX8_votesInAll ⟨by decide, by decide⟩ rfl rfl (by decide) ok.1.1 (Nat.le_of_ble_eq_true rfl) (cc_X8_votesInAll hG ok.1.2) ?_
    have ok := ok.2
    refine c_aload_nQ dX7_awaitsPrecommits_27 rfl rfl ?_
    refine c_getR (C := RX6) (T := TX6) (N := 19) (ci := 5) (k := 0) ⟨rfl, inT6, by decide, fX7_26⟩ (by decide) (by decide) (by decide) dX7_awaitsPrecommits_28 ok.1 ?_
    have ok := ok.2
    refine c_getI (C := RX10) (T := TX10) (N := 12) (ci := 8) (k := 3) ⟨rfl, inT10, by decide, fX7_180⟩ (by decide) (by decide) (by decide) dX7_awaitsPrecommits_31 ok.1 ?_
    have ok := ok.2
    refine c_icmp_ge (tgt := 39) dX7_awaitsPrecommits_34 (by decide) (fun c_34 => ?_) (fun c_34 => ?_)
    · have ok := ok.1 c_34
      have hx := xif_p c_34 hx
      refine c_aload_nQ dX7_awaitsPrecommits_39 rfl rfl ?_
      refine c_dup dX7_awaitsPrecommits_40 (zcat_rf _) ?_
      refine c_getI (C := RX6) (T := TX6) (N := 19) (ci := 5) (k := 16) ⟨rfl, inT6, by decide, fX7_240⟩ (by decide) (by decide) (by decide) dX7_awaitsPrecommits_41 ok.1 ?_
      have ok := ok.2
      refine c_iconst (v := nI 4) dX7_awaitsPrecommits_44 (by decide) ?_
      refine c_ior dX7_awaitsPrecommits_45 ?_
      refine c_putI (C := RX6) (T := TX6) (N := 19) (ci := 5) (k := 16) ⟨rfl, inT6, by decide, fX7_240⟩ ftT6 rfl (by decide) (by decide) (by decide) rfl rfl dX7_awaitsPrecommits_46 ok.1 ?_
      have ok := ok.2
      refine c_aload_nQ dX7_awaitsPrecommits_49 rfl rfl ?_
      refine c_iconst (v := nI 2) dX7_awaitsPrecommits_50 (by decide) ?_
      refine c_V1vE (ci := 5) (rr := (RX6, TX6, 19)) (y' := mX6_setTimer) dX7_awaitsPrecommits_51 lX7_261 kX6_setTimer ⟨by decide, by decide⟩ rfl rfl (by decide) ok.1.1 (Nat.le_of_ble_eq_true rfl) (cc_X6_setTimer hG ok.1.2) ?_
      have ok := ok.2
      exact cX.cutz (b_X7_awaitsPrecommits_54 hG hR ok hx) trivial
    · have ok := ok.2 c_34
      have hx := xif_n c_34 hx
      refine c_iconst (v := nI 0) dX7_awaitsPrecommits_37 (by decide) ?_
      exact c_ireturn rfl rfl dX7_awaitsPrecommits_38 (hR _ _ hx)
  · have ok := ok.2 c_6
    have hx := xif_n c_6 hx
    refine c_iconst (v := nI 0) dX7_awaitsPrecommits_9 (by decide) ?_
    exact c_ireturn rfl rfl dX7_awaitsPrecommits_10 (hR _ _ hx)
def f_X7_awaitsPrecommits (N : Nat) (S : cS) (x0 : Option Nat) : Int32 × cS := F_X7_awaitsPrecommits_0 N x0 S
def o_X7_awaitsPrecommits (N : Nat) (S : cS) (x0 : Option Nat) : Prop := O_X7_awaitsPrecommits_0 N x0 S
set_option maxRecDepth 100000 in
set_option maxHeartbeats 4000000 in
theorem cc_X7_awaitsPrecommits {G : zG} {o : cO} {S : cS} {N : Nat} (hG : zOK G) {x0 : Option Nat} (ok : o_X7_awaitsPrecommits N S x0) : cCi G o dX7_awaitsPrecommits mX7_awaitsPrecommits [va_rf x0] S (fun v S' => v = (f_X7_awaitsPrecommits N S x0).1 ∧ S' = (f_X7_awaitsPrecommits N S x0).2) := by
  refine cC.ofX rfl (by cases x0 <;> exact Nat.le_of_ble_eq_true rfl) ?_
  rw [show zargs mX7_awaitsPrecommits.2.2.1 [va_rf x0] = [some (va_rf x0)] from by cases x0 <;> rfl]
  exact cX.cutz (b_X7_awaitsPrecommits_0 (X := fun F => F = f_X7_awaitsPrecommits N S x0) hG (fun v S' h => ⟨v, rfl, by rw [← h], by rw [← h]⟩) ok rfl) ⟨rfl, trivial⟩
/-! X7_settle -/
def F_X7_settle_139 (N : Nat) (x0 : Option Nat) (S : cS) : cS := (f_X0_refresh N S (za (cR S 4 (za x0))) (cR S 5 (za (cR S 0 (za x0)))) (cR S 9 (za (cR S 0 (za x0)))))
def O_X7_settle_139 (N : Nat) (x0 : Option Nat) (S : cS) : Prop := (cis S x0 6) ∧ (cis S x0 6) ∧ (cis S (cR S 0 (za x0)) 9) ∧ (cis S x0 6) ∧ (cis S (cR S 0 (za x0)) 9) ∧ (cis S (cR S 4 (za x0)) 1 ∧ o_X0_refresh N S (za (cR S 4 (za x0))) (cR S 5 (za (cR S 0 (za x0)))) (cR S 9 (za (cR S 0 (za x0))))) ∧ True
set_option maxRecDepth 100000 in
set_option maxHeartbeats 4000000 in
theorem b_X7_settle_139 {G : zG} {o : cO} {S : cS} {N : Nat} {Q : Option Value → cS → Prop} {X : cS → Prop} (hG : zOK G) (hR : ∀ S', X S' → Q none S') {x0 : Option Nat} (ok : O_X7_settle_139 N x0 S) (hx : X (F_X7_settle_139 N x0 S)) : cX G o dX7_settle mX7_settle 139 [some (va_rf x0), none, none] [] S Q := by
  unfold O_X7_settle_139 at ok
  unfold F_X7_settle_139 at hx
  refine c_aload_nQ dX7_settle_139 rfl rfl ?_
  refine c_getR (C := RX6) (T := TX6) (N := 19) (ci := 5) (k := 4) ⟨rfl, inT6, by decide, fX7_22⟩ (by decide) (by decide) (by decide) dX7_settle_140 ok.1 ?_
  have ok := ok.2
  refine c_aload_nQ dX7_settle_143 rfl rfl ?_
  refine c_getR (C := RX6) (T := TX6) (N := 19) (ci := 5) (k := 0) ⟨rfl, inT6, by decide, fX7_26⟩ (by decide) (by decide) (by decide) dX7_settle_144 ok.1 ?_
  have ok := ok.2
  refine c_getR (C := RX10) (T := TX10) (N := 12) (ci := 8) (k := 5) ⟨rfl, inT10, by decide, fX7_30⟩ (by decide) (by decide) (by decide) dX7_settle_147 ok.1 ?_
  have ok := ok.2
  refine c_aload_nQ dX7_settle_150 rfl rfl ?_
  refine c_getR (C := RX6) (T := TX6) (N := 19) (ci := 5) (k := 0) ⟨rfl, inT6, by decide, fX7_26⟩ (by decide) (by decide) (by decide) dX7_settle_151 ok.1 ?_
  have ok := ok.2
  refine c_getR (C := RX10) (T := TX10) (N := 12) (ci := 8) (k := 9) ⟨rfl, inT10, by decide, fX7_36⟩ (by decide) (by decide) (by decide) dX7_settle_154 ok.1 ?_
  have ok := ok.2
  refine c_V2vE (ci := 0) (rr := (RX0, TX0, 6)) (y' := mX0_refresh) dX7_settle_157 lX7_39 kX0_refresh ⟨by decide, by decide⟩ rfl rfl (by decide) ok.1.1 (Nat.le_of_ble_eq_true rfl) (cc_X0_refresh hG ok.1.2) ?_
  have ok := ok.2
  exact c_return rfl dX7_settle_160 (hR _ hx)
def F_X7_settle_133 (N : Nat) (rec : Option Nat → Int32 → cS → Nat × Option Nat × cS) (x0 : Option Nat) (x1 : Int32) (S : cS) : Nat × Option Nat × cS := (rec x0 (x1 + nI 1) S)
def O_X7_settle_133 (N : Nat) (rok : Option Nat → Int32 → cS → Prop) (x0 : Option Nat) (x1 : Int32) (S : cS) : Prop := rok x0 (x1 + nI 1) S
set_option maxRecDepth 100000 in
set_option maxHeartbeats 4000000 in
theorem b_X7_settle_133 {G : zG} {o : cO} {S : cS} {N : Nat} {Q : Option Value → cS → Prop} {X : Nat × Option Nat × cS → Prop} (hG : zOK G) (hX0 : ∀ (x0 : Option Nat) (S' : cS), X (0, x0, S') → cX G o dX7_settle mX7_settle 132 [none, none, none] [] S' Q) (hX1 : ∀ (x0 : Option Nat) (S' : cS), X (1, x0, S') → cX G o dX7_settle mX7_settle 139 [some (va_rf x0), none, none] [] S' Q) {rec : Option Nat → Int32 → cS → Nat × Option Nat × cS} {rok : Option Nat → Int32 → cS → Prop} (hrec : ∀ (x0 : Option Nat) (x1 : Int32) (S : cS), rok x0 x1 S → X (rec x0 x1 S) → cX G o dX7_settle mX7_settle 2 [some (va_rf x0), some (.int x1), none] [] S Q) {x0 : Option Nat} {x1 : Int32} (ok : O_X7_settle_133 N rok x0 x1 S) (hx : X (F_X7_settle_133 N rec x0 x1 S)) : cX G o dX7_settle mX7_settle 133 [some (va_rf x0), some (.int x1), none] [] S Q := by
  unfold O_X7_settle_133 at ok
  unfold F_X7_settle_133 at hx
  refine c_iinc_1 (v := (x1 + nI 1)) dX7_settle_133 rfl (by first | rfl | (congr 1)) (by decide) (by simp [zok, zg, zcat_rf]) ?_
  refine c_goto (tgt := 2) dX7_settle_136 (by decide) ?_
  exact cX.cutz (hrec _ _ S ok hx) ⟨rfl, rfl, trivial⟩
def F_X7_settle_132 (N : Nat)  (S : cS) : cS := S
def O_X7_settle_132 (N : Nat)  (S : cS) : Prop := True
set_option maxRecDepth 100000 in
set_option maxHeartbeats 4000000 in
theorem b_X7_settle_132 {G : zG} {o : cO} {S : cS} {N : Nat} {Q : Option Value → cS → Prop} {X : cS → Prop} (hG : zOK G) (hR : ∀ S', X S' → Q none S') (ok : O_X7_settle_132 N S) (hx : X (F_X7_settle_132 N S)) : cX G o dX7_settle mX7_settle 132 [none, none, none] [] S Q := by
  unfold O_X7_settle_132 at ok
  unfold F_X7_settle_132 at hx
  exact c_return rfl dX7_settle_132 (hR _ hx)
def F_X7_settle_127 (N : Nat) (rec : Option Nat → Int32 → cS → Nat × Option Nat × cS) (x0 : Option Nat) (x1 : Int32) (s0 : Int32) (S : cS) : Nat × Option Nat × cS := (if s0 = 0 then (0, none, S) else (F_X7_settle_133 N rec x0 x1 S))
def O_X7_settle_127 (N : Nat) (rok : Option Nat → Int32 → cS → Prop) (x0 : Option Nat) (x1 : Int32) (s0 : Int32) (S : cS) : Prop := ((s0 = 0 → True) ∧ (¬ s0 = 0 → O_X7_settle_133 N rok x0 x1 S))
set_option maxRecDepth 100000 in
set_option maxHeartbeats 4000000 in
theorem b_X7_settle_127 {G : zG} {o : cO} {S : cS} {N : Nat} {Q : Option Value → cS → Prop} {X : Nat × Option Nat × cS → Prop} (hG : zOK G) (hX0 : ∀ (x0 : Option Nat) (S' : cS), X (0, x0, S') → cX G o dX7_settle mX7_settle 132 [none, none, none] [] S' Q) (hX1 : ∀ (x0 : Option Nat) (S' : cS), X (1, x0, S') → cX G o dX7_settle mX7_settle 139 [some (va_rf x0), none, none] [] S' Q) {rec : Option Nat → Int32 → cS → Nat × Option Nat × cS} {rok : Option Nat → Int32 → cS → Prop} (hrec : ∀ (x0 : Option Nat) (x1 : Int32) (S : cS), rok x0 x1 S → X (rec x0 x1 S) → cX G o dX7_settle mX7_settle 2 [some (va_rf x0), some (.int x1), none] [] S Q) {x0 : Option Nat} {x1 : Int32} {s0 : Int32} (ok : O_X7_settle_127 N rok x0 x1 s0 S) (hx : X (F_X7_settle_127 N rec x0 x1 s0 S)) : cX G o dX7_settle mX7_settle 127 [some (va_rf x0), some (.int x1), none] [.int s0] S Q := by
  unfold O_X7_settle_127 at ok
  unfold F_X7_settle_127 at hx
  refine c_istore_2 dX7_settle_127 (by decide) rfl ?_
  refine c_iload_n dX7_settle_128 rfl rfl ?_
  refine c_if_ne (tgt := 133) dX7_settle_129 (by decide) (fun c_129 => ?_) (fun c_129 => ?_)
  · have ok := ok.2 c_129
    have hx := xif_n c_129 hx
    exact cX.cutz (b_X7_settle_133 hG hX0 hX1 hrec ok hx) ⟨rfl, rfl, trivial⟩
  · have ok := ok.1 c_129
    have hx := xif_p c_129 hx
    exact cX.cutz (hX0 _ S hx) trivial
def F_X7_settle_122 (N : Nat) (rec : Option Nat → Int32 → cS → Nat × Option Nat × cS) (x0 : Option Nat) (x1 : Int32) (S : cS) : Nat × Option Nat × cS := (F_X7_settle_127 N rec x0 x1 (nI 1) S)
def O_X7_settle_122 (N : Nat) (rok : Option Nat → Int32 → cS → Prop) (x0 : Option Nat) (x1 : Int32) (S : cS) : Prop := O_X7_settle_127 N rok x0 x1 (nI 1) S
set_option maxRecDepth 100000 in
set_option maxHeartbeats 4000000 in
theorem b_X7_settle_122 {G : zG} {o : cO} {S : cS} {N : Nat} {Q : Option Value → cS → Prop} {X : Nat × Option Nat × cS → Prop} (hG : zOK G) (hX0 : ∀ (x0 : Option Nat) (S' : cS), X (0, x0, S') → cX G o dX7_settle mX7_settle 132 [none, none, none] [] S' Q) (hX1 : ∀ (x0 : Option Nat) (S' : cS), X (1, x0, S') → cX G o dX7_settle mX7_settle 139 [some (va_rf x0), none, none] [] S' Q) {rec : Option Nat → Int32 → cS → Nat × Option Nat × cS} {rok : Option Nat → Int32 → cS → Prop} (hrec : ∀ (x0 : Option Nat) (x1 : Int32) (S : cS), rok x0 x1 S → X (rec x0 x1 S) → cX G o dX7_settle mX7_settle 2 [some (va_rf x0), some (.int x1), none] [] S Q) {x0 : Option Nat} {x1 : Int32} (ok : O_X7_settle_122 N rok x0 x1 S) (hx : X (F_X7_settle_122 N rec x0 x1 S)) : cX G o dX7_settle mX7_settle 122 [some (va_rf x0), some (.int x1), none] [] S Q := by
  unfold O_X7_settle_122 at ok
  unfold F_X7_settle_122 at hx
  refine c_iconst (v := nI 1) dX7_settle_122 (by decide) ?_
  refine c_goto (tgt := 127) dX7_settle_123 (by decide) ?_
  exact cX.cutz (b_X7_settle_127 hG hX0 hX1 hrec ok hx) ⟨rfl, rfl, trivial⟩
def F_X7_settle_119 (N : Nat) (rec : Option Nat → Int32 → cS → Nat × Option Nat × cS) (x0 : Option Nat) (x1 : Int32) (s0 : Int32) (S : cS) : Nat × Option Nat × cS := (if s0 = 0 then (F_X7_settle_127 N rec x0 x1 (nI 0) S) else (F_X7_settle_122 N rec x0 x1 S))
def O_X7_settle_119 (N : Nat) (rok : Option Nat → Int32 → cS → Prop) (x0 : Option Nat) (x1 : Int32) (s0 : Int32) (S : cS) : Prop := ((s0 = 0 → O_X7_settle_127 N rok x0 x1 (nI 0) S) ∧ (¬ s0 = 0 → O_X7_settle_122 N rok x0 x1 S))
set_option maxRecDepth 100000 in
set_option maxHeartbeats 4000000 in
theorem b_X7_settle_119 {G : zG} {o : cO} {S : cS} {N : Nat} {Q : Option Value → cS → Prop} {X : Nat × Option Nat × cS → Prop} (hG : zOK G) (hX0 : ∀ (x0 : Option Nat) (S' : cS), X (0, x0, S') → cX G o dX7_settle mX7_settle 132 [none, none, none] [] S' Q) (hX1 : ∀ (x0 : Option Nat) (S' : cS), X (1, x0, S') → cX G o dX7_settle mX7_settle 139 [some (va_rf x0), none, none] [] S' Q) {rec : Option Nat → Int32 → cS → Nat × Option Nat × cS} {rok : Option Nat → Int32 → cS → Prop} (hrec : ∀ (x0 : Option Nat) (x1 : Int32) (S : cS), rok x0 x1 S → X (rec x0 x1 S) → cX G o dX7_settle mX7_settle 2 [some (va_rf x0), some (.int x1), none] [] S Q) {x0 : Option Nat} {x1 : Int32} {s0 : Int32} (ok : O_X7_settle_119 N rok x0 x1 s0 S) (hx : X (F_X7_settle_119 N rec x0 x1 s0 S)) : cX G o dX7_settle mX7_settle 119 [some (va_rf x0), some (.int x1), none] [.int s0] S Q := by
  unfold O_X7_settle_119 at ok
  unfold F_X7_settle_119 at hx
  refine c_if_eq (tgt := 126) dX7_settle_119 (by decide) (fun c_119 => ?_) (fun c_119 => ?_)
  · have ok := ok.1 c_119
    have hx := xif_p c_119 hx
    refine c_iconst (v := nI 0) dX7_settle_126 (by decide) ?_
    exact cX.cutz (b_X7_settle_127 hG hX0 hX1 hrec ok hx) ⟨rfl, rfl, trivial⟩
  · have ok := ok.2 c_119
    have hx := xif_n c_119 hx
    exact cX.cutz (b_X7_settle_122 hG hX0 hX1 hrec ok hx) ⟨rfl, rfl, trivial⟩
def F_X7_settle_112 (N : Nat) (rec : Option Nat → Int32 → cS → Nat × Option Nat × cS) (x0 : Option Nat) (x1 : Int32) (s0 : Int32) (S : cS) : Nat × Option Nat × cS := (if s0 = 0 then (F_X7_settle_119 N rec x0 x1 ((f_X7_awaitsPrecommits N S x0).1) (f_X7_awaitsPrecommits N S x0).2) else (F_X7_settle_122 N rec x0 x1 S))
def O_X7_settle_112 (N : Nat) (rok : Option Nat → Int32 → cS → Prop) (x0 : Option Nat) (x1 : Int32) (s0 : Int32) (S : cS) : Prop := ((s0 = 0 → (o_X7_awaitsPrecommits N S x0) ∧ O_X7_settle_119 N rok x0 x1 ((f_X7_awaitsPrecommits N S x0).1) (f_X7_awaitsPrecommits N S x0).2) ∧ (¬ s0 = 0 → O_X7_settle_122 N rok x0 x1 S))
set_option maxRecDepth 100000 in
set_option maxHeartbeats 4000000 in
theorem b_X7_settle_112 {G : zG} {o : cO} {S : cS} {N : Nat} {Q : Option Value → cS → Prop} {X : Nat × Option Nat × cS → Prop} (hG : zOK G) (hX0 : ∀ (x0 : Option Nat) (S' : cS), X (0, x0, S') → cX G o dX7_settle mX7_settle 132 [none, none, none] [] S' Q) (hX1 : ∀ (x0 : Option Nat) (S' : cS), X (1, x0, S') → cX G o dX7_settle mX7_settle 139 [some (va_rf x0), none, none] [] S' Q) {rec : Option Nat → Int32 → cS → Nat × Option Nat × cS} {rok : Option Nat → Int32 → cS → Prop} (hrec : ∀ (x0 : Option Nat) (x1 : Int32) (S : cS), rok x0 x1 S → X (rec x0 x1 S) → cX G o dX7_settle mX7_settle 2 [some (va_rf x0), some (.int x1), none] [] S Q) {x0 : Option Nat} {x1 : Int32} {s0 : Int32} (ok : O_X7_settle_112 N rok x0 x1 s0 S) (hx : X (F_X7_settle_112 N rec x0 x1 s0 S)) : cX G o dX7_settle mX7_settle 112 [some (va_rf x0), some (.int x1), none] [.int s0] S Q := by
  unfold O_X7_settle_112 at ok
  unfold F_X7_settle_112 at hx
  refine c_if_ne (tgt := 122) dX7_settle_112 (by decide) (fun c_112 => ?_) (fun c_112 => ?_)
  · have ok := ok.2 c_112
    have hx := xif_n c_112 hx
    exact cX.cutz (b_X7_settle_122 hG hX0 hX1 hrec ok hx) ⟨rfl, rfl, trivial⟩
  · have ok := ok.1 c_112
    have hx := xif_p c_112 hx
    refine c_aload_nQ dX7_settle_115 rfl rfl ?_
    refine c_S1iE (y' := mX7_awaitsPrecommits) dX7_settle_116 lX7_77 kX7_awaitsPrecommits ⟨by decide, by decide⟩ (Nat.le_of_ble_eq_true rfl) (cc_X7_awaitsPrecommits hG ok.1) ?_
    have ok := ok.2
    exact cX.cutz (b_X7_settle_119 hG hX0 hX1 hrec ok hx) ⟨rfl, rfl, trivial⟩
def F_X7_settle_105 (N : Nat) (rec : Option Nat → Int32 → cS → Nat × Option Nat × cS) (x0 : Option Nat) (x1 : Int32) (s0 : Int32) (S : cS) : Nat × Option Nat × cS := (if s0 = 0 then (F_X7_settle_112 N rec x0 x1 ((f_X7_awaitsPrevotes N S x0).1) (f_X7_awaitsPrevotes N S x0).2) else (F_X7_settle_122 N rec x0 x1 S))
def O_X7_settle_105 (N : Nat) (rok : Option Nat → Int32 → cS → Prop) (x0 : Option Nat) (x1 : Int32) (s0 : Int32) (S : cS) : Prop := ((s0 = 0 → (o_X7_awaitsPrevotes N S x0) ∧ O_X7_settle_112 N rok x0 x1 ((f_X7_awaitsPrevotes N S x0).1) (f_X7_awaitsPrevotes N S x0).2) ∧ (¬ s0 = 0 → O_X7_settle_122 N rok x0 x1 S))
set_option maxRecDepth 100000 in
set_option maxHeartbeats 4000000 in
theorem b_X7_settle_105 {G : zG} {o : cO} {S : cS} {N : Nat} {Q : Option Value → cS → Prop} {X : Nat × Option Nat × cS → Prop} (hG : zOK G) (hX0 : ∀ (x0 : Option Nat) (S' : cS), X (0, x0, S') → cX G o dX7_settle mX7_settle 132 [none, none, none] [] S' Q) (hX1 : ∀ (x0 : Option Nat) (S' : cS), X (1, x0, S') → cX G o dX7_settle mX7_settle 139 [some (va_rf x0), none, none] [] S' Q) {rec : Option Nat → Int32 → cS → Nat × Option Nat × cS} {rok : Option Nat → Int32 → cS → Prop} (hrec : ∀ (x0 : Option Nat) (x1 : Int32) (S : cS), rok x0 x1 S → X (rec x0 x1 S) → cX G o dX7_settle mX7_settle 2 [some (va_rf x0), some (.int x1), none] [] S Q) {x0 : Option Nat} {x1 : Int32} {s0 : Int32} (ok : O_X7_settle_105 N rok x0 x1 s0 S) (hx : X (F_X7_settle_105 N rec x0 x1 s0 S)) : cX G o dX7_settle mX7_settle 105 [some (va_rf x0), some (.int x1), none] [.int s0] S Q := by
  unfold O_X7_settle_105 at ok
  unfold F_X7_settle_105 at hx
  refine c_if_ne (tgt := 122) dX7_settle_105 (by decide) (fun c_105 => ?_) (fun c_105 => ?_)
  · have ok := ok.2 c_105
    have hx := xif_n c_105 hx
    exact cX.cutz (b_X7_settle_122 hG hX0 hX1 hrec ok hx) ⟨rfl, rfl, trivial⟩
  · have ok := ok.1 c_105
    have hx := xif_p c_105 hx
    refine c_aload_nQ dX7_settle_108 rfl rfl ?_
    refine c_S1iE (y' := mX7_awaitsPrevotes) dX7_settle_109 lX7_74 kX7_awaitsPrevotes ⟨by decide, by decide⟩ (Nat.le_of_ble_eq_true rfl) (cc_X7_awaitsPrevotes hG ok.1) ?_
    have ok := ok.2
    exact cX.cutz (b_X7_settle_112 hG hX0 hX1 hrec ok hx) ⟨rfl, rfl, trivial⟩
def F_X7_settle_98 (N : Nat) (rec : Option Nat → Int32 → cS → Nat × Option Nat × cS) (x0 : Option Nat) (x1 : Int32) (s0 : Int32) (S : cS) : Nat × Option Nat × cS := (if s0 = 0 then (F_X7_settle_105 N rec x0 x1 ((f_X7_precommitsNone N S x0).1) (f_X7_precommitsNone N S x0).2) else (F_X7_settle_122 N rec x0 x1 S))
def O_X7_settle_98 (N : Nat) (rok : Option Nat → Int32 → cS → Prop) (x0 : Option Nat) (x1 : Int32) (s0 : Int32) (S : cS) : Prop := ((s0 = 0 → (o_X7_precommitsNone N S x0) ∧ O_X7_settle_105 N rok x0 x1 ((f_X7_precommitsNone N S x0).1) (f_X7_precommitsNone N S x0).2) ∧ (¬ s0 = 0 → O_X7_settle_122 N rok x0 x1 S))
set_option maxRecDepth 100000 in
set_option maxHeartbeats 4000000 in
theorem b_X7_settle_98 {G : zG} {o : cO} {S : cS} {N : Nat} {Q : Option Value → cS → Prop} {X : Nat × Option Nat × cS → Prop} (hG : zOK G) (hX0 : ∀ (x0 : Option Nat) (S' : cS), X (0, x0, S') → cX G o dX7_settle mX7_settle 132 [none, none, none] [] S' Q) (hX1 : ∀ (x0 : Option Nat) (S' : cS), X (1, x0, S') → cX G o dX7_settle mX7_settle 139 [some (va_rf x0), none, none] [] S' Q) {rec : Option Nat → Int32 → cS → Nat × Option Nat × cS} {rok : Option Nat → Int32 → cS → Prop} (hrec : ∀ (x0 : Option Nat) (x1 : Int32) (S : cS), rok x0 x1 S → X (rec x0 x1 S) → cX G o dX7_settle mX7_settle 2 [some (va_rf x0), some (.int x1), none] [] S Q) {x0 : Option Nat} {x1 : Int32} {s0 : Int32} (ok : O_X7_settle_98 N rok x0 x1 s0 S) (hx : X (F_X7_settle_98 N rec x0 x1 s0 S)) : cX G o dX7_settle mX7_settle 98 [some (va_rf x0), some (.int x1), none] [.int s0] S Q := by
  unfold O_X7_settle_98 at ok
  unfold F_X7_settle_98 at hx
  refine c_if_ne (tgt := 122) dX7_settle_98 (by decide) (fun c_98 => ?_) (fun c_98 => ?_)
  · have ok := ok.2 c_98
    have hx := xif_n c_98 hx
    exact cX.cutz (b_X7_settle_122 hG hX0 hX1 hrec ok hx) ⟨rfl, rfl, trivial⟩
  · have ok := ok.1 c_98
    have hx := xif_p c_98 hx
    refine c_aload_nQ dX7_settle_101 rfl rfl ?_
    refine c_S1iE (y' := mX7_precommitsNone) dX7_settle_102 lX7_71 kX7_precommitsNone ⟨by decide, by decide⟩ (Nat.le_of_ble_eq_true rfl) (cc_X7_precommitsNone hG ok.1) ?_
    have ok := ok.2
    exact cX.cutz (b_X7_settle_105 hG hX0 hX1 hrec ok hx) ⟨rfl, rfl, trivial⟩
def F_X7_settle_91 (N : Nat) (rec : Option Nat → Int32 → cS → Nat × Option Nat × cS) (x0 : Option Nat) (x1 : Int32) (s0 : Int32) (S : cS) : Nat × Option Nat × cS := (if s0 = 0 then (F_X7_settle_98 N rec x0 x1 ((f_X7_locks N S x0).1) (f_X7_locks N S x0).2) else (F_X7_settle_122 N rec x0 x1 S))
def O_X7_settle_91 (N : Nat) (rok : Option Nat → Int32 → cS → Prop) (x0 : Option Nat) (x1 : Int32) (s0 : Int32) (S : cS) : Prop := ((s0 = 0 → (o_X7_locks N S x0) ∧ O_X7_settle_98 N rok x0 x1 ((f_X7_locks N S x0).1) (f_X7_locks N S x0).2) ∧ (¬ s0 = 0 → O_X7_settle_122 N rok x0 x1 S))
set_option maxRecDepth 100000 in
set_option maxHeartbeats 4000000 in
theorem b_X7_settle_91 {G : zG} {o : cO} {S : cS} {N : Nat} {Q : Option Value → cS → Prop} {X : Nat × Option Nat × cS → Prop} (hG : zOK G) (hX0 : ∀ (x0 : Option Nat) (S' : cS), X (0, x0, S') → cX G o dX7_settle mX7_settle 132 [none, none, none] [] S' Q) (hX1 : ∀ (x0 : Option Nat) (S' : cS), X (1, x0, S') → cX G o dX7_settle mX7_settle 139 [some (va_rf x0), none, none] [] S' Q) {rec : Option Nat → Int32 → cS → Nat × Option Nat × cS} {rok : Option Nat → Int32 → cS → Prop} (hrec : ∀ (x0 : Option Nat) (x1 : Int32) (S : cS), rok x0 x1 S → X (rec x0 x1 S) → cX G o dX7_settle mX7_settle 2 [some (va_rf x0), some (.int x1), none] [] S Q) {x0 : Option Nat} {x1 : Int32} {s0 : Int32} (ok : O_X7_settle_91 N rok x0 x1 s0 S) (hx : X (F_X7_settle_91 N rec x0 x1 s0 S)) : cX G o dX7_settle mX7_settle 91 [some (va_rf x0), some (.int x1), none] [.int s0] S Q := by
  unfold O_X7_settle_91 at ok
  unfold F_X7_settle_91 at hx
  refine c_if_ne (tgt := 122) dX7_settle_91 (by decide) (fun c_91 => ?_) (fun c_91 => ?_)
  · have ok := ok.2 c_91
    have hx := xif_n c_91 hx
    exact cX.cutz (b_X7_settle_122 hG hX0 hX1 hrec ok hx) ⟨rfl, rfl, trivial⟩
  · have ok := ok.1 c_91
    have hx := xif_p c_91 hx
    refine c_aload_nQ dX7_settle_94 rfl rfl ?_
    refine c_S1iE (y' := mX7_locks) dX7_settle_95 lX7_68 kX7_locks ⟨by decide, by decide⟩ (Nat.le_of_ble_eq_true rfl) (cc_X7_locks hG ok.1) ?_
    have ok := ok.2
    exact cX.cutz (b_X7_settle_98 hG hX0 hX1 hrec ok hx) ⟨rfl, rfl, trivial⟩
def F_X7_settle_84 (N : Nat) (rec : Option Nat → Int32 → cS → Nat × Option Nat × cS) (x0 : Option Nat) (x1 : Int32) (s0 : Int32) (S : cS) : Nat × Option Nat × cS := (if s0 = 0 then (F_X7_settle_91 N rec x0 x1 ((f_X7_prevotesOld N S x0).1) (f_X7_prevotesOld N S x0).2) else (F_X7_settle_122 N rec x0 x1 S))
def O_X7_settle_84 (N : Nat) (rok : Option Nat → Int32 → cS → Prop) (x0 : Option Nat) (x1 : Int32) (s0 : Int32) (S : cS) : Prop := ((s0 = 0 → (o_X7_prevotesOld N S x0) ∧ O_X7_settle_91 N rok x0 x1 ((f_X7_prevotesOld N S x0).1) (f_X7_prevotesOld N S x0).2) ∧ (¬ s0 = 0 → O_X7_settle_122 N rok x0 x1 S))
set_option maxRecDepth 100000 in
set_option maxHeartbeats 4000000 in
theorem b_X7_settle_84 {G : zG} {o : cO} {S : cS} {N : Nat} {Q : Option Value → cS → Prop} {X : Nat × Option Nat × cS → Prop} (hG : zOK G) (hX0 : ∀ (x0 : Option Nat) (S' : cS), X (0, x0, S') → cX G o dX7_settle mX7_settle 132 [none, none, none] [] S' Q) (hX1 : ∀ (x0 : Option Nat) (S' : cS), X (1, x0, S') → cX G o dX7_settle mX7_settle 139 [some (va_rf x0), none, none] [] S' Q) {rec : Option Nat → Int32 → cS → Nat × Option Nat × cS} {rok : Option Nat → Int32 → cS → Prop} (hrec : ∀ (x0 : Option Nat) (x1 : Int32) (S : cS), rok x0 x1 S → X (rec x0 x1 S) → cX G o dX7_settle mX7_settle 2 [some (va_rf x0), some (.int x1), none] [] S Q) {x0 : Option Nat} {x1 : Int32} {s0 : Int32} (ok : O_X7_settle_84 N rok x0 x1 s0 S) (hx : X (F_X7_settle_84 N rec x0 x1 s0 S)) : cX G o dX7_settle mX7_settle 84 [some (va_rf x0), some (.int x1), none] [.int s0] S Q := by
  unfold O_X7_settle_84 at ok
  unfold F_X7_settle_84 at hx
  refine c_if_ne (tgt := 122) dX7_settle_84 (by decide) (fun c_84 => ?_) (fun c_84 => ?_)
  · have ok := ok.2 c_84
    have hx := xif_n c_84 hx
    exact cX.cutz (b_X7_settle_122 hG hX0 hX1 hrec ok hx) ⟨rfl, rfl, trivial⟩
  · have ok := ok.1 c_84
    have hx := xif_p c_84 hx
    refine c_aload_nQ dX7_settle_87 rfl rfl ?_
    refine c_S1iE (y' := mX7_prevotesOld) dX7_settle_88 lX7_65 kX7_prevotesOld ⟨by decide, by decide⟩ (Nat.le_of_ble_eq_true rfl) (cc_X7_prevotesOld hG ok.1) ?_
    have ok := ok.2
    exact cX.cutz (b_X7_settle_91 hG hX0 hX1 hrec ok hx) ⟨rfl, rfl, trivial⟩
def F_X7_settle_77 (N : Nat) (rec : Option Nat → Int32 → cS → Nat × Option Nat × cS) (x0 : Option Nat) (x1 : Int32) (s0 : Int32) (S : cS) : Nat × Option Nat × cS := (if s0 = 0 then (F_X7_settle_84 N rec x0 x1 ((f_X7_prevotesNew N S x0).1) (f_X7_prevotesNew N S x0).2) else (F_X7_settle_122 N rec x0 x1 S))
def O_X7_settle_77 (N : Nat) (rok : Option Nat → Int32 → cS → Prop) (x0 : Option Nat) (x1 : Int32) (s0 : Int32) (S : cS) : Prop := ((s0 = 0 → (o_X7_prevotesNew N S x0) ∧ O_X7_settle_84 N rok x0 x1 ((f_X7_prevotesNew N S x0).1) (f_X7_prevotesNew N S x0).2) ∧ (¬ s0 = 0 → O_X7_settle_122 N rok x0 x1 S))
set_option maxRecDepth 100000 in
set_option maxHeartbeats 4000000 in
theorem b_X7_settle_77 {G : zG} {o : cO} {S : cS} {N : Nat} {Q : Option Value → cS → Prop} {X : Nat × Option Nat × cS → Prop} (hG : zOK G) (hX0 : ∀ (x0 : Option Nat) (S' : cS), X (0, x0, S') → cX G o dX7_settle mX7_settle 132 [none, none, none] [] S' Q) (hX1 : ∀ (x0 : Option Nat) (S' : cS), X (1, x0, S') → cX G o dX7_settle mX7_settle 139 [some (va_rf x0), none, none] [] S' Q) {rec : Option Nat → Int32 → cS → Nat × Option Nat × cS} {rok : Option Nat → Int32 → cS → Prop} (hrec : ∀ (x0 : Option Nat) (x1 : Int32) (S : cS), rok x0 x1 S → X (rec x0 x1 S) → cX G o dX7_settle mX7_settle 2 [some (va_rf x0), some (.int x1), none] [] S Q) {x0 : Option Nat} {x1 : Int32} {s0 : Int32} (ok : O_X7_settle_77 N rok x0 x1 s0 S) (hx : X (F_X7_settle_77 N rec x0 x1 s0 S)) : cX G o dX7_settle mX7_settle 77 [some (va_rf x0), some (.int x1), none] [.int s0] S Q := by
  unfold O_X7_settle_77 at ok
  unfold F_X7_settle_77 at hx
  refine c_if_ne (tgt := 122) dX7_settle_77 (by decide) (fun c_77 => ?_) (fun c_77 => ?_)
  · have ok := ok.2 c_77
    have hx := xif_n c_77 hx
    exact cX.cutz (b_X7_settle_122 hG hX0 hX1 hrec ok hx) ⟨rfl, rfl, trivial⟩
  · have ok := ok.1 c_77
    have hx := xif_p c_77 hx
    refine c_aload_nQ dX7_settle_80 rfl rfl ?_
    refine c_S1iE (y' := mX7_prevotesNew) dX7_settle_81 lX7_62 kX7_prevotesNew ⟨by decide, by decide⟩ (Nat.le_of_ble_eq_true rfl) (cc_X7_prevotesNew hG ok.1) ?_
    have ok := ok.2
    exact cX.cutz (b_X7_settle_84 hG hX0 hX1 hrec ok hx) ⟨rfl, rfl, trivial⟩
def F_X7_settle_70 (N : Nat) (rec : Option Nat → Int32 → cS → Nat × Option Nat × cS) (x0 : Option Nat) (x1 : Int32) (s0 : Int32) (S : cS) : Nat × Option Nat × cS := (if s0 = 0 then (F_X7_settle_77 N rec x0 x1 ((f_X7_skips N S x0).1) (f_X7_skips N S x0).2) else (F_X7_settle_122 N rec x0 x1 S))
def O_X7_settle_70 (N : Nat) (rok : Option Nat → Int32 → cS → Prop) (x0 : Option Nat) (x1 : Int32) (s0 : Int32) (S : cS) : Prop := ((s0 = 0 → (o_X7_skips N S x0) ∧ O_X7_settle_77 N rok x0 x1 ((f_X7_skips N S x0).1) (f_X7_skips N S x0).2) ∧ (¬ s0 = 0 → O_X7_settle_122 N rok x0 x1 S))
set_option maxRecDepth 100000 in
set_option maxHeartbeats 4000000 in
theorem b_X7_settle_70 {G : zG} {o : cO} {S : cS} {N : Nat} {Q : Option Value → cS → Prop} {X : Nat × Option Nat × cS → Prop} (hG : zOK G) (hX0 : ∀ (x0 : Option Nat) (S' : cS), X (0, x0, S') → cX G o dX7_settle mX7_settle 132 [none, none, none] [] S' Q) (hX1 : ∀ (x0 : Option Nat) (S' : cS), X (1, x0, S') → cX G o dX7_settle mX7_settle 139 [some (va_rf x0), none, none] [] S' Q) {rec : Option Nat → Int32 → cS → Nat × Option Nat × cS} {rok : Option Nat → Int32 → cS → Prop} (hrec : ∀ (x0 : Option Nat) (x1 : Int32) (S : cS), rok x0 x1 S → X (rec x0 x1 S) → cX G o dX7_settle mX7_settle 2 [some (va_rf x0), some (.int x1), none] [] S Q) {x0 : Option Nat} {x1 : Int32} {s0 : Int32} (ok : O_X7_settle_70 N rok x0 x1 s0 S) (hx : X (F_X7_settle_70 N rec x0 x1 s0 S)) : cX G o dX7_settle mX7_settle 70 [some (va_rf x0), some (.int x1), none] [.int s0] S Q := by
  unfold O_X7_settle_70 at ok
  unfold F_X7_settle_70 at hx
  refine c_if_ne (tgt := 122) dX7_settle_70 (by decide) (fun c_70 => ?_) (fun c_70 => ?_)
  · have ok := ok.2 c_70
    have hx := xif_n c_70 hx
    exact cX.cutz (b_X7_settle_122 hG hX0 hX1 hrec ok hx) ⟨rfl, rfl, trivial⟩
  · have ok := ok.1 c_70
    have hx := xif_p c_70 hx
    refine c_aload_nQ dX7_settle_73 rfl rfl ?_
    refine c_S1iE (y' := mX7_skips) dX7_settle_74 lX7_59 kX7_skips ⟨by decide, by decide⟩ (Nat.le_of_ble_eq_true rfl) (cc_X7_skips hG ok.1) ?_
    have ok := ok.2
    exact cX.cutz (b_X7_settle_77 hG hX0 hX1 hrec ok hx) ⟨rfl, rfl, trivial⟩
def F_X7_settle_63 (N : Nat) (rec : Option Nat → Int32 → cS → Nat × Option Nat × cS) (x0 : Option Nat) (x1 : Int32) (s0 : Int32) (S : cS) : Nat × Option Nat × cS := (if s0 = 0 then (F_X7_settle_70 N rec x0 x1 ((f_X7_decides N S x0).1) (f_X7_decides N S x0).2) else (F_X7_settle_122 N rec x0 x1 S))
def O_X7_settle_63 (N : Nat) (rok : Option Nat → Int32 → cS → Prop) (x0 : Option Nat) (x1 : Int32) (s0 : Int32) (S : cS) : Prop := ((s0 = 0 → (o_X7_decides N S x0) ∧ O_X7_settle_70 N rok x0 x1 ((f_X7_decides N S x0).1) (f_X7_decides N S x0).2) ∧ (¬ s0 = 0 → O_X7_settle_122 N rok x0 x1 S))
set_option maxRecDepth 100000 in
set_option maxHeartbeats 4000000 in
theorem b_X7_settle_63 {G : zG} {o : cO} {S : cS} {N : Nat} {Q : Option Value → cS → Prop} {X : Nat × Option Nat × cS → Prop} (hG : zOK G) (hX0 : ∀ (x0 : Option Nat) (S' : cS), X (0, x0, S') → cX G o dX7_settle mX7_settle 132 [none, none, none] [] S' Q) (hX1 : ∀ (x0 : Option Nat) (S' : cS), X (1, x0, S') → cX G o dX7_settle mX7_settle 139 [some (va_rf x0), none, none] [] S' Q) {rec : Option Nat → Int32 → cS → Nat × Option Nat × cS} {rok : Option Nat → Int32 → cS → Prop} (hrec : ∀ (x0 : Option Nat) (x1 : Int32) (S : cS), rok x0 x1 S → X (rec x0 x1 S) → cX G o dX7_settle mX7_settle 2 [some (va_rf x0), some (.int x1), none] [] S Q) {x0 : Option Nat} {x1 : Int32} {s0 : Int32} (ok : O_X7_settle_63 N rok x0 x1 s0 S) (hx : X (F_X7_settle_63 N rec x0 x1 s0 S)) : cX G o dX7_settle mX7_settle 63 [some (va_rf x0), some (.int x1), none] [.int s0] S Q := by
  unfold O_X7_settle_63 at ok
  unfold F_X7_settle_63 at hx
  refine c_if_ne (tgt := 122) dX7_settle_63 (by decide) (fun c_63 => ?_) (fun c_63 => ?_)
  · have ok := ok.2 c_63
    have hx := xif_n c_63 hx
    exact cX.cutz (b_X7_settle_122 hG hX0 hX1 hrec ok hx) ⟨rfl, rfl, trivial⟩
  · have ok := ok.1 c_63
    have hx := xif_p c_63 hx
    refine c_aload_nQ dX7_settle_66 rfl rfl ?_
    refine c_S1iE (y' := mX7_decides) dX7_settle_67 lX7_56 kX7_decides ⟨by decide, by decide⟩ (Nat.le_of_ble_eq_true rfl) (cc_X7_decides hG ok.1) ?_
    have ok := ok.2
    exact cX.cutz (b_X7_settle_70 hG hX0 hX1 hrec ok hx) ⟨rfl, rfl, trivial⟩
def F_X7_settle_56 (N : Nat) (rec : Option Nat → Int32 → cS → Nat × Option Nat × cS) (x0 : Option Nat) (x1 : Int32) (S : cS) : Nat × Option Nat × cS := (F_X7_settle_133 N rec x0 x1 S)
def O_X7_settle_56 (N : Nat) (rok : Option Nat → Int32 → cS → Prop) (x0 : Option Nat) (x1 : Int32) (S : cS) : Prop := O_X7_settle_133 N rok x0 x1 S
set_option maxRecDepth 100000 in
set_option maxHeartbeats 4000000 in
theorem b_X7_settle_56 {G : zG} {o : cO} {S : cS} {N : Nat} {Q : Option Value → cS → Prop} {X : Nat × Option Nat × cS → Prop} (hG : zOK G) (hX0 : ∀ (x0 : Option Nat) (S' : cS), X (0, x0, S') → cX G o dX7_settle mX7_settle 132 [none, none, none] [] S' Q) (hX1 : ∀ (x0 : Option Nat) (S' : cS), X (1, x0, S') → cX G o dX7_settle mX7_settle 139 [some (va_rf x0), none, none] [] S' Q) {rec : Option Nat → Int32 → cS → Nat × Option Nat × cS} {rok : Option Nat → Int32 → cS → Prop} (hrec : ∀ (x0 : Option Nat) (x1 : Int32) (S : cS), rok x0 x1 S → X (rec x0 x1 S) → cX G o dX7_settle mX7_settle 2 [some (va_rf x0), some (.int x1), none] [] S Q) {x0 : Option Nat} {x1 : Int32} (ok : O_X7_settle_56 N rok x0 x1 S) (hx : X (F_X7_settle_56 N rec x0 x1 S)) : cX G o dX7_settle mX7_settle 56 [some (va_rf x0), some (.int x1), none] [] S Q := by
  unfold O_X7_settle_56 at ok
  unfold F_X7_settle_56 at hx
  refine c_goto (tgt := 133) dX7_settle_56 (by decide) ?_
  exact cX.cutz (b_X7_settle_133 hG hX0 hX1 hrec ok hx) ⟨rfl, rfl, trivial⟩
def F_X7_settle_45 (N : Nat) (rec : Option Nat → Int32 → cS → Nat × Option Nat × cS) (x0 : Option Nat) (x1 : Int32) (S : cS) : Nat × Option Nat × cS := (if (cI S 18 (za x0)) < 0 then (F_X7_settle_63 N rec x0 x1 ((f_X7_takes N S x0).1) (f_X7_takes N S x0).2) else (F_X7_settle_56 N rec x0 x1 (f_X7_begin N S x0)))
def O_X7_settle_45 (N : Nat) (rok : Option Nat → Int32 → cS → Prop) (x0 : Option Nat) (x1 : Int32) (S : cS) : Prop := (cis S x0 6) ∧ (((cI S 18 (za x0)) < 0 → (o_X7_takes N S x0) ∧ O_X7_settle_63 N rok x0 x1 ((f_X7_takes N S x0).1) (f_X7_takes N S x0).2) ∧ (¬ (cI S 18 (za x0)) < 0 → (o_X7_begin N S x0) ∧ O_X7_settle_56 N rok x0 x1 (f_X7_begin N S x0)))
set_option maxRecDepth 100000 in
set_option maxHeartbeats 4000000 in
theorem b_X7_settle_45 {G : zG} {o : cO} {S : cS} {N : Nat} {Q : Option Value → cS → Prop} {X : Nat × Option Nat × cS → Prop} (hG : zOK G) (hX0 : ∀ (x0 : Option Nat) (S' : cS), X (0, x0, S') → cX G o dX7_settle mX7_settle 132 [none, none, none] [] S' Q) (hX1 : ∀ (x0 : Option Nat) (S' : cS), X (1, x0, S') → cX G o dX7_settle mX7_settle 139 [some (va_rf x0), none, none] [] S' Q) {rec : Option Nat → Int32 → cS → Nat × Option Nat × cS} {rok : Option Nat → Int32 → cS → Prop} (hrec : ∀ (x0 : Option Nat) (x1 : Int32) (S : cS), rok x0 x1 S → X (rec x0 x1 S) → cX G o dX7_settle mX7_settle 2 [some (va_rf x0), some (.int x1), none] [] S Q) {x0 : Option Nat} {x1 : Int32} (ok : O_X7_settle_45 N rok x0 x1 S) (hx : X (F_X7_settle_45 N rec x0 x1 S)) : cX G o dX7_settle mX7_settle 45 [some (va_rf x0), some (.int x1), none] [] S Q := by
  unfold O_X7_settle_45 at ok
  unfold F_X7_settle_45 at hx
  refine c_aload_nQ dX7_settle_45 rfl rfl ?_
  refine c_getI (C := RX6) (T := TX6) (N := 19) (ci := 5) (k := 18) ⟨rfl, inT6, by decide, fX7_45⟩ (by decide) (by decide) (by decide) dX7_settle_46 ok.1 ?_
  have ok := ok.2
  refine c_if_lt (tgt := 59) dX7_settle_49 (by decide) (fun c_49 => ?_) (fun c_49 => ?_)
  · have ok := ok.1 c_49
    have hx := xif_p c_49 hx
    refine c_aload_nQ dX7_settle_59 rfl rfl ?_
    refine c_S1iE (y' := mX7_takes) dX7_settle_60 lX7_52 kX7_takes ⟨by decide, by decide⟩ (Nat.le_of_ble_eq_true rfl) (cc_X7_takes hG ok.1) ?_
    have ok := ok.2
    exact cX.cutz (b_X7_settle_63 hG hX0 hX1 hrec ok hx) ⟨rfl, rfl, trivial⟩
  · have ok := ok.2 c_49
    have hx := xif_n c_49 hx
    refine c_aload_nQ dX7_settle_52 rfl rfl ?_
    refine c_S1vE (y' := mX7_begin) dX7_settle_53 lX7_48 kX7_begin ⟨by decide, by decide⟩ (Nat.le_of_ble_eq_true rfl) (cc_X7_begin hG ok.1) ?_
    have ok := ok.2
    exact cX.cutz (b_X7_settle_56 hG hX0 hX1 hrec ok hx) ⟨rfl, rfl, trivial⟩
def B_X7_settle_2 (N : Nat) (rec : Option Nat → Int32 → cS → Nat × Option Nat × cS) (x0 : Option Nat) (x1 : Int32) (S : cS) : Nat × Option Nat × cS := (if (1000000 : Int32) ≤ x1 then (1, x0, S) else (if (cI S 8 (za x0)) = 0 then (1, x0, S) else (if (nI 40) < (cI S 9 (za x0)) then (1, x0, S) else (F_X7_settle_45 N rec x0 x1 (f_X0_refresh N S (za (cR S 4 (za x0))) (cR S 5 (za (cR S 0 (za x0)))) (cR S 9 (za (cR S 0 (za x0)))))))))
def OB_X7_settle_2 (N : Nat) (rok : Option Nat → Int32 → cS → Prop) (x0 : Option Nat) (x1 : Int32) (S : cS) : Prop := (((1000000 : Int32) ≤ x1 → True) ∧ (¬ (1000000 : Int32) ≤ x1 → (cis S x0 6) ∧ (((cI S 8 (za x0)) = 0 → True) ∧ (¬ (cI S 8 (za x0)) = 0 → (cis S x0 6) ∧ (((nI 40) < (cI S 9 (za x0)) → True) ∧ (¬ (nI 40) < (cI S 9 (za x0)) → (cis S x0 6) ∧ (cis S x0 6) ∧ (cis S (cR S 0 (za x0)) 9) ∧ (cis S x0 6) ∧ (cis S (cR S 0 (za x0)) 9) ∧ (cis S (cR S 4 (za x0)) 1 ∧ o_X0_refresh N S (za (cR S 4 (za x0))) (cR S 5 (za (cR S 0 (za x0)))) (cR S 9 (za (cR S 0 (za x0))))) ∧ O_X7_settle_45 N rok x0 x1 (f_X0_refresh N S (za (cR S 4 (za x0))) (cR S 5 (za (cR S 0 (za x0)))) (cR S 9 (za (cR S 0 (za x0)))))))))))
set_option maxRecDepth 100000 in
set_option maxHeartbeats 4000000 in
theorem bb_X7_settle_2 {G : zG} {o : cO} {S : cS} {N : Nat} {Q : Option Value → cS → Prop} {X : Nat × Option Nat × cS → Prop} (hG : zOK G) (hX0 : ∀ (x0 : Option Nat) (S' : cS), X (0, x0, S') → cX G o dX7_settle mX7_settle 132 [none, none, none] [] S' Q) (hX1 : ∀ (x0 : Option Nat) (S' : cS), X (1, x0, S') → cX G o dX7_settle mX7_settle 139 [some (va_rf x0), none, none] [] S' Q) {rec : Option Nat → Int32 → cS → Nat × Option Nat × cS} {rok : Option Nat → Int32 → cS → Prop} (hrec : ∀ (x0 : Option Nat) (x1 : Int32) (S : cS), rok x0 x1 S → X (rec x0 x1 S) → cX G o dX7_settle mX7_settle 2 [some (va_rf x0), some (.int x1), none] [] S Q) {x0 : Option Nat} {x1 : Int32} (ok : OB_X7_settle_2 N rok x0 x1 S) (hx : X (B_X7_settle_2 N rec x0 x1 S)) : cX G o dX7_settle mX7_settle 2 [some (va_rf x0), some (.int x1), none] [] S Q := by
  unfold OB_X7_settle_2 at ok
  unfold B_X7_settle_2 at hx
  refine c_iload_n dX7_settle_2 rfl rfl ?_
  refine c_ldc dX7_settle_3 nX7_11 ?_
  refine c_icmp_ge (tgt := 139) dX7_settle_5 (by decide) (fun c_5 => ?_) (fun c_5 => ?_)
  · have ok := ok.1 c_5
    have hx := xif_p c_5 hx
    exact cX.cutz (hX1 _ S hx) ⟨rfl, trivial⟩
  · have ok := ok.2 c_5
    have hx := xif_n c_5 hx
    refine c_aload_nQ dX7_settle_8 rfl rfl ?_
    refine c_getI (C := RX6) (T := TX6) (N := 19) (ci := 5) (k := 8) ⟨rfl, inT6, by decide, fX7_12⟩ (by decide) (by decide) (by decide) dX7_settle_9 ok.1 ?_
    have ok := ok.2
    refine c_if_eq (tgt := 139) dX7_settle_12 (by decide) (fun c_12 => ?_) (fun c_12 => ?_)
    · have ok := ok.1 c_12
      have hx := xif_p c_12 hx
      exact cX.cutz (hX1 _ S hx) ⟨rfl, trivial⟩
    · have ok := ok.2 c_12
      have hx := xif_n c_12 hx
      refine c_aload_nQ dX7_settle_15 rfl rfl ?_
      refine c_getI (C := RX6) (T := TX6) (N := 19) (ci := 5) (k := 9) ⟨rfl, inT6, by decide, fX7_18⟩ (by decide) (by decide) (by decide) dX7_settle_16 ok.1 ?_
      have ok := ok.2
      refine c_bipush (v := nI 40) dX7_settle_19 (by decide) ?_
      refine c_icmp_gt (tgt := 139) dX7_settle_21 (by decide) (fun c_21 => ?_) (fun c_21 => ?_)
      · have ok := ok.1 c_21
        have hx := xif_p c_21 hx
        exact cX.cutz (hX1 _ S hx) ⟨rfl, trivial⟩
      · have ok := ok.2 c_21
        have hx := xif_n c_21 hx
        refine c_aload_nQ dX7_settle_24 rfl rfl ?_
        refine c_getR (C := RX6) (T := TX6) (N := 19) (ci := 5) (k := 4) ⟨rfl, inT6, by decide, fX7_22⟩ (by decide) (by decide) (by decide) dX7_settle_25 ok.1 ?_
        have ok := ok.2
        refine c_aload_nQ dX7_settle_28 rfl rfl ?_
        refine c_getR (C := RX6) (T := TX6) (N := 19) (ci := 5) (k := 0) ⟨rfl, inT6, by decide, fX7_26⟩ (by decide) (by decide) (by decide) dX7_settle_29 ok.1 ?_
        have ok := ok.2
        refine c_getR (C := RX10) (T := TX10) (N := 12) (ci := 8) (k := 5) ⟨rfl, inT10, by decide, fX7_30⟩ (by decide) (by decide) (by decide) dX7_settle_32 ok.1 ?_
        have ok := ok.2
        refine c_aload_nQ dX7_settle_35 rfl rfl ?_
        refine c_getR (C := RX6) (T := TX6) (N := 19) (ci := 5) (k := 0) ⟨rfl, inT6, by decide, fX7_26⟩ (by decide) (by decide) (by decide) dX7_settle_36 ok.1 ?_
        have ok := ok.2
        refine c_getR (C := RX10) (T := TX10) (N := 12) (ci := 8) (k := 9) ⟨rfl, inT10, by decide, fX7_36⟩ (by decide) (by decide) (by decide) dX7_settle_39 ok.1 ?_
        have ok := ok.2
        refine c_V2vE (ci := 0) (rr := (RX0, TX0, 6)) (y' := mX0_refresh) dX7_settle_42 lX7_39 kX0_refresh ⟨by decide, by decide⟩ rfl rfl (by decide) ok.1.1 (Nat.le_of_ble_eq_true rfl) (cc_X0_refresh hG ok.1.2) ?_
        have ok := ok.2
        exact cX.cutz (b_X7_settle_45 hG hX0 hX1 hrec ok hx) ⟨rfl, rfl, trivial⟩
def L_X7_settle_2 (N : Nat) : Nat → Option Nat → Int32 → cS → Nat × Option Nat × cS
  | 0, x0, x1, S => (0, none, S)
  | n + 1, x0, x1, S => B_X7_settle_2 N (L_X7_settle_2 N n) x0 x1 S
def OL_X7_settle_2 (N : Nat) : Nat → Option Nat → Int32 → cS → Prop
  | 0, _, _, _ => False
  | n + 1, x0, x1, S => OB_X7_settle_2 N (OL_X7_settle_2 N n) x0 x1 S
set_option maxRecDepth 100000 in
set_option maxHeartbeats 4000000 in
theorem l_X7_settle_2 {G : zG} {o : cO} {N : Nat} {Q : Option Value → cS → Prop} {X : Nat × Option Nat × cS → Prop} (hG : zOK G) (hX0 : ∀ (x0 : Option Nat) (S' : cS), X (0, x0, S') → cX G o dX7_settle mX7_settle 132 [none, none, none] [] S' Q) (hX1 : ∀ (x0 : Option Nat) (S' : cS), X (1, x0, S') → cX G o dX7_settle mX7_settle 139 [some (va_rf x0), none, none] [] S' Q) : ∀ (n : Nat) (x0 : Option Nat) (x1 : Int32) (S : cS), OL_X7_settle_2 N n x0 x1 S → X (L_X7_settle_2 N n x0 x1 S) → cX G o dX7_settle mX7_settle 2 [some (va_rf x0), some (.int x1), none] [] S Q := by
  intro n
  induction n with
  | zero => intro x0 x1 S ok; exact absurd ok id
  | succ n ih =>
    intro x0 x1 S ok hx
    exact bb_X7_settle_2 hG hX0 hX1 (rec := L_X7_settle_2 N n) (rok := OL_X7_settle_2 N n) (fun x0 x1 S ok hx => ih x0 x1 S ok hx) ok hx
def A_X7_settle_2 (N : Nat) (x0 : Option Nat) (x1 : Int32) (S : cS) (z : Nat × Option Nat × cS) : cS := (if z.1 = 0 then (F_X7_settle_132 N z.2.2) else (F_X7_settle_139 N (z.2.1) z.2.2))
def OA_X7_settle_2 (N : Nat) (x0 : Option Nat) (x1 : Int32) (S : cS) (z : Nat × Option Nat × cS) : Prop := (if z.1 = 0 then O_X7_settle_132 N z.2.2 else O_X7_settle_139 N (z.2.1) z.2.2)
set_option maxRecDepth 100000 in
set_option maxHeartbeats 4000000 in
theorem c_X7_settle_2 {G : zG} {o : cO} {S : cS} {N : Nat} {Q : Option Value → cS → Prop} {X : cS → Prop} (hG : zOK G) (hR : ∀ S', X S' → Q none S') {x0 : Option Nat} {x1 : Int32} (ok : OL_X7_settle_2 N N x0 x1 S ∧ OA_X7_settle_2 N x0 x1 S (L_X7_settle_2 N N x0 x1 S)) (hx : X (A_X7_settle_2 N x0 x1 S (L_X7_settle_2 N N x0 x1 S))) : cX G o dX7_settle mX7_settle 2 [some (va_rf x0), some (.int x1), none] [] S Q := by
  refine l_X7_settle_2 hG ?_ ?_ N x0 x1 S ok.1 (X := fun z => OA_X7_settle_2 N x0 x1 S z ∧ X (A_X7_settle_2 N x0 x1 S z)) ⟨ok.2, hx⟩
  · intro x0' S' hz
    obtain ⟨ok, hx⟩ := hz
    unfold OA_X7_settle_2 at ok
    unfold A_X7_settle_2 at hx
    have ok := xif_P (show (0 : Nat) = 0 from rfl) ok
    have hx := xif_p (show (0 : Nat) = 0 from rfl) hx
    exact cX.cutz (b_X7_settle_132 hG hR ok hx) trivial
  · intro x0' S' hz
    obtain ⟨ok, hx⟩ := hz
    unfold OA_X7_settle_2 at ok
    unfold A_X7_settle_2 at hx
    have ok := xif_N (show ¬ (1 : Nat) = 0 by decide) ok
    have hx := xif_n (show ¬ (1 : Nat) = 0 by decide) hx
    exact cX.cutz (b_X7_settle_139 hG hR ok hx) ⟨rfl, trivial⟩
def F_X7_settle_0 (N : Nat) (x0 : Option Nat) (S : cS) : cS := (A_X7_settle_2 N x0 (nI 0) S (L_X7_settle_2 N N x0 (nI 0) S))
def O_X7_settle_0 (N : Nat) (x0 : Option Nat) (S : cS) : Prop := (OL_X7_settle_2 N N x0 (nI 0) S ∧ OA_X7_settle_2 N x0 (nI 0) S (L_X7_settle_2 N N x0 (nI 0) S))
set_option maxRecDepth 100000 in
set_option maxHeartbeats 4000000 in
theorem b_X7_settle_0 {G : zG} {o : cO} {S : cS} {N : Nat} {Q : Option Value → cS → Prop} {X : cS → Prop} (hG : zOK G) (hR : ∀ S', X S' → Q none S') {x0 : Option Nat} (ok : O_X7_settle_0 N x0 S) (hx : X (F_X7_settle_0 N x0 S)) : cX G o dX7_settle mX7_settle 0 [some (va_rf x0), none, none] [] S Q := by
  unfold O_X7_settle_0 at ok
  unfold F_X7_settle_0 at hx
  refine c_iconst (v := nI 0) dX7_settle_0 (by decide) ?_
  refine c_istore_1 dX7_settle_1 (by decide) (by simp [zok, zg, zcat_rf]) ?_
  exact cX.cutz (c_X7_settle_2 hG hR ok hx) ⟨rfl, rfl, trivial⟩
def f_X7_settle (N : Nat) (S : cS) (x0 : Option Nat) : cS := F_X7_settle_0 N x0 S
def o_X7_settle (N : Nat) (S : cS) (x0 : Option Nat) : Prop := O_X7_settle_0 N x0 S
set_option maxRecDepth 100000 in
set_option maxHeartbeats 4000000 in
theorem cc_X7_settle {G : zG} {o : cO} {S : cS} {N : Nat} (hG : zOK G) {x0 : Option Nat} (ok : o_X7_settle N S x0) : cCv G o dX7_settle mX7_settle [va_rf x0] S (fun S' => S' = f_X7_settle N S x0) := by
  refine cC.ofX rfl (by cases x0 <;> exact Nat.le_of_ble_eq_true rfl) ?_
  rw [show zargs mX7_settle.2.2.1 [va_rf x0] = [some (va_rf x0), none, none] from by cases x0 <;> rfl]
  exact cX.cutz (b_X7_settle_0 (X := fun F => F = f_X7_settle N S x0) hG (fun S' h => ⟨rfl, h⟩) ok rfl) ⟨rfl, trivial⟩
/-! X7_ring -/
def F_X7_ring_76 (N : Nat)  (S : cS) : cS := S
def O_X7_ring_76 (N : Nat)  (S : cS) : Prop := True
set_option maxRecDepth 100000 in
set_option maxHeartbeats 4000000 in
theorem b_X7_ring_76 {G : zG} {o : cO} {S : cS} {N : Nat} {Q : Option Value → cS → Prop} {X : cS → Prop} (hG : zOK G) (hR : ∀ S', X S' → Q none S') (ok : O_X7_ring_76 N S) (hx : X (F_X7_ring_76 N S)) : cX G o dX7_ring mX7_ring 76 [none, none] [] S Q := by
  unfold O_X7_ring_76 at ok
  unfold F_X7_ring_76 at hx
  exact c_return rfl dX7_ring_76 (hR _ hx)
def F_X7_ring_52 (N : Nat) (x0 : Option Nat) (x1 : Int32) (S : cS) : cS := (if x1 = (nI 2) then (if (nI 15) ≤ (cI S 10 (za x0)) then (F_X7_ring_76 N S) else (F_X7_ring_76 N (csI S 18 (za x0) ((cI S 10 (za x0)) + (nI 1))))) else (F_X7_ring_76 N S))
def O_X7_ring_52 (N : Nat) (x0 : Option Nat) (x1 : Int32) (S : cS) : Prop := ((x1 = (nI 2) → (cis S x0 6) ∧ (((nI 15) ≤ (cI S 10 (za x0)) → O_X7_ring_76 N S) ∧ (¬ (nI 15) ≤ (cI S 10 (za x0)) → (cis S x0 6) ∧ (cis S x0 6) ∧ O_X7_ring_76 N (csI S 18 (za x0) ((cI S 10 (za x0)) + (nI 1)))))) ∧ (¬ x1 = (nI 2) → O_X7_ring_76 N S))
set_option maxRecDepth 100000 in
set_option maxHeartbeats 4000000 in
theorem b_X7_ring_52 {G : zG} {o : cO} {S : cS} {N : Nat} {Q : Option Value → cS → Prop} {X : cS → Prop} (hG : zOK G) (hR : ∀ S', X S' → Q none S') {x0 : Option Nat} {x1 : Int32} (ok : O_X7_ring_52 N x0 x1 S) (hx : X (F_X7_ring_52 N x0 x1 S)) : cX G o dX7_ring mX7_ring 52 [some (va_rf x0), some (.int x1)] [] S Q := by
  unfold O_X7_ring_52 at ok
  unfold F_X7_ring_52 at hx
  refine c_iload_n dX7_ring_52 rfl rfl ?_
  refine c_iconst (v := nI 2) dX7_ring_53 (by decide) ?_
  refine c_icmp_ne (tgt := 76) dX7_ring_54 (by decide) (fun c_54 => ?_) (fun c_54 => ?_)
  · have ok := ok.2 c_54
    have hx := xif_n c_54 hx
    exact cX.cutz (b_X7_ring_76 hG hR ok hx) trivial
  · have ok := ok.1 c_54
    have hx := xif_p c_54 hx
    refine c_aload_nQ dX7_ring_57 rfl rfl ?_
    refine c_getI (C := RX6) (T := TX6) (N := 19) (ci := 5) (k := 10) ⟨rfl, inT6, by decide, fX7_213⟩ (by decide) (by decide) (by decide) dX7_ring_58 ok.1 ?_
    have ok := ok.2
    refine c_bipush (v := nI 15) dX7_ring_61 (by decide) ?_
    refine c_icmp_ge (tgt := 76) dX7_ring_63 (by decide) (fun c_63 => ?_) (fun c_63 => ?_)
    · have ok := ok.1 c_63
      have hx := xif_p c_63 hx
      exact cX.cutz (b_X7_ring_76 hG hR ok hx) trivial
    · have ok := ok.2 c_63
      have hx := xif_n c_63 hx
      refine c_aload_nQ dX7_ring_66 rfl rfl ?_
      refine c_aload_nQ dX7_ring_67 rfl rfl ?_
      refine c_getI (C := RX6) (T := TX6) (N := 19) (ci := 5) (k := 10) ⟨rfl, inT6, by decide, fX7_213⟩ (by decide) (by decide) (by decide) dX7_ring_68 ok.1 ?_
      have ok := ok.2
      refine c_iconst (v := nI 1) dX7_ring_71 (by decide) ?_
      refine c_iadd dX7_ring_72 ?_
      refine c_putI (C := RX6) (T := TX6) (N := 19) (ci := 5) (k := 18) ⟨rfl, inT6, by decide, fX7_45⟩ ftT6 rfl (by decide) (by decide) (by decide) rfl rfl dX7_ring_73 ok.1 ?_
      have ok := ok.2
      exact cX.cutz (b_X7_ring_76 hG hR ok hx) trivial
def F_X7_ring_49 (N : Nat)  (S : cS) : cS := (F_X7_ring_76 N S)
def O_X7_ring_49 (N : Nat)  (S : cS) : Prop := O_X7_ring_76 N S
set_option maxRecDepth 100000 in
set_option maxHeartbeats 4000000 in
theorem b_X7_ring_49 {G : zG} {o : cO} {S : cS} {N : Nat} {Q : Option Value → cS → Prop} {X : cS → Prop} (hG : zOK G) (hR : ∀ S', X S' → Q none S') (ok : O_X7_ring_49 N S) (hx : X (F_X7_ring_49 N S)) : cX G o dX7_ring mX7_ring 49 [none, none] [] S Q := by
  unfold O_X7_ring_49 at ok
  unfold F_X7_ring_49 at hx
  refine c_goto (tgt := 76) dX7_ring_49 (by decide) ?_
  exact cX.cutz (b_X7_ring_76 hG hR ok hx) trivial
def F_X7_ring_45 (N : Nat) (s0 : Option Nat) (s1 : Option Nat) (S : cS) : cS := (F_X7_ring_49 N (f_X7_utter N S s0 s1 (nI 2)))
def O_X7_ring_45 (N : Nat) (s0 : Option Nat) (s1 : Option Nat) (S : cS) : Prop := (o_X7_utter N S s0 s1 (nI 2)) ∧ O_X7_ring_49 N (f_X7_utter N S s0 s1 (nI 2))
set_option maxRecDepth 100000 in
set_option maxHeartbeats 4000000 in
theorem b_X7_ring_45 {G : zG} {o : cO} {S : cS} {N : Nat} {Q : Option Value → cS → Prop} {X : cS → Prop} (hG : zOK G) (hR : ∀ S', X S' → Q none S') {s0 : Option Nat} {s1 : Option Nat} (ok : O_X7_ring_45 N s0 s1 S) (hx : X (F_X7_ring_45 N s0 s1 S)) : cX G o dX7_ring mX7_ring 45 [none, none] [va_rf s1, va_rf s0] S Q := by
  unfold O_X7_ring_45 at ok
  unfold F_X7_ring_45 at hx
  refine c_iconst (v := nI 2) dX7_ring_45 (by decide) ?_
  refine c_S3vE (y' := mX7_utter) dX7_ring_46 lX7_234 kX7_utter ⟨by decide, by decide⟩ (Nat.le_of_ble_eq_true rfl) (cc_X7_utter hG ok.1) ?_
  have ok := ok.2
  exact cX.cutz (b_X7_ring_49 hG hR ok hx) trivial
def F_X7_ring_25 (N : Nat) (x0 : Option Nat) (x1 : Int32) (S : cS) : cS := (if x1 = (nI 1) then (if (cI S 11 (za x0)) = (nI 1) then (F_X7_ring_45 N x0 ((f_X6_vote N S (za x0) (nI 3) (none : Option Nat)).1) (f_X6_vote N S (za x0) (nI 3) (none : Option Nat)).2) else (F_X7_ring_52 N x0 x1 S)) else (F_X7_ring_52 N x0 x1 S))
def O_X7_ring_25 (N : Nat) (x0 : Option Nat) (x1 : Int32) (S : cS) : Prop := ((x1 = (nI 1) → (cis S x0 6) ∧ (((cI S 11 (za x0)) = (nI 1) → (cis S x0 6 ∧ o_X6_vote N S (za x0) (nI 3) (none : Option Nat)) ∧ O_X7_ring_45 N x0 ((f_X6_vote N S (za x0) (nI 3) (none : Option Nat)).1) (f_X6_vote N S (za x0) (nI 3) (none : Option Nat)).2) ∧ (¬ (cI S 11 (za x0)) = (nI 1) → O_X7_ring_52 N x0 x1 S))) ∧ (¬ x1 = (nI 1) → O_X7_ring_52 N x0 x1 S))
set_option maxRecDepth 100000 in
set_option maxHeartbeats 4000000 in
theorem b_X7_ring_25 {G : zG} {o : cO} {S : cS} {N : Nat} {Q : Option Value → cS → Prop} {X : cS → Prop} (hG : zOK G) (hR : ∀ S', X S' → Q none S') {x0 : Option Nat} {x1 : Int32} (ok : O_X7_ring_25 N x0 x1 S) (hx : X (F_X7_ring_25 N x0 x1 S)) : cX G o dX7_ring mX7_ring 25 [some (va_rf x0), some (.int x1)] [] S Q := by
  unfold O_X7_ring_25 at ok
  unfold F_X7_ring_25 at hx
  refine c_iload_n dX7_ring_25 rfl rfl ?_
  refine c_iconst (v := nI 1) dX7_ring_26 (by decide) ?_
  refine c_icmp_ne (tgt := 52) dX7_ring_27 (by decide) (fun c_27 => ?_) (fun c_27 => ?_)
  · have ok := ok.2 c_27
    have hx := xif_n c_27 hx
    exact cX.cutz (b_X7_ring_52 hG hR ok hx) ⟨rfl, rfl, trivial⟩
  · have ok := ok.1 c_27
    have hx := xif_p c_27 hx
    refine c_aload_nQ dX7_ring_30 rfl rfl ?_
    refine c_getI (C := RX6) (T := TX6) (N := 19) (ci := 5) (k := 11) ⟨rfl, inT6, by decide, fX7_220⟩ (by decide) (by decide) (by decide) dX7_ring_31 ok.1 ?_
    have ok := ok.2
    refine c_iconst (v := nI 1) dX7_ring_34 (by decide) ?_
    refine c_icmp_ne (tgt := 52) dX7_ring_35 (by decide) (fun c_35 => ?_) (fun c_35 => ?_)
    · have ok := ok.2 c_35
      have hx := xif_n c_35 hx
      exact cX.cutz (b_X7_ring_52 hG hR ok hx) ⟨rfl, rfl, trivial⟩
    · have ok := ok.1 c_35
      have hx := xif_p c_35 hx
      refine c_aload_nQ dX7_ring_38 rfl rfl ?_
      refine c_aload_nQ dX7_ring_39 rfl rfl ?_
      refine c_iconst (v := nI 3) dX7_ring_40 (by decide) ?_
      refine c_null' dX7_ring_41 ?_
      refine c_V2qE (ci := 5) (rr := (RX6, TX6, 19)) (y' := mX6_vote) dX7_ring_42 lX7_230 kX6_vote ⟨by decide, by decide⟩ rfl rfl (by decide) ok.1.1 (by simp only [List.map_cons, List.map_nil, List.sum_cons, List.sum_nil, zcat_rf, zcat_i, zcat_l, zcat_r] <;> decide) (cc_X6_vote hG ok.1.2) ?_
      have ok := ok.2
      exact cX.cutz (b_X7_ring_45 hG hR ok hx) trivial
def F_X7_ring_22 (N : Nat)  (S : cS) : cS := (F_X7_ring_76 N S)
def O_X7_ring_22 (N : Nat)  (S : cS) : Prop := O_X7_ring_76 N S
set_option maxRecDepth 100000 in
set_option maxHeartbeats 4000000 in
theorem b_X7_ring_22 {G : zG} {o : cO} {S : cS} {N : Nat} {Q : Option Value → cS → Prop} {X : cS → Prop} (hG : zOK G) (hR : ∀ S', X S' → Q none S') (ok : O_X7_ring_22 N S) (hx : X (F_X7_ring_22 N S)) : cX G o dX7_ring mX7_ring 22 [none, none] [] S Q := by
  unfold O_X7_ring_22 at ok
  unfold F_X7_ring_22 at hx
  refine c_goto (tgt := 76) dX7_ring_22 (by decide) ?_
  exact cX.cutz (b_X7_ring_76 hG hR ok hx) trivial
def F_X7_ring_18 (N : Nat) (s0 : Option Nat) (s1 : Option Nat) (S : cS) : cS := (F_X7_ring_22 N (f_X7_utter N S s0 s1 (nI 1)))
def O_X7_ring_18 (N : Nat) (s0 : Option Nat) (s1 : Option Nat) (S : cS) : Prop := (o_X7_utter N S s0 s1 (nI 1)) ∧ O_X7_ring_22 N (f_X7_utter N S s0 s1 (nI 1))
set_option maxRecDepth 100000 in
set_option maxHeartbeats 4000000 in
theorem b_X7_ring_18 {G : zG} {o : cO} {S : cS} {N : Nat} {Q : Option Value → cS → Prop} {X : cS → Prop} (hG : zOK G) (hR : ∀ S', X S' → Q none S') {s0 : Option Nat} {s1 : Option Nat} (ok : O_X7_ring_18 N s0 s1 S) (hx : X (F_X7_ring_18 N s0 s1 S)) : cX G o dX7_ring mX7_ring 18 [none, none] [va_rf s1, va_rf s0] S Q := by
  unfold O_X7_ring_18 at ok
  unfold F_X7_ring_18 at hx
  refine c_iconst (v := nI 1) dX7_ring_18 (by decide) ?_
  refine c_S3vE (y' := mX7_utter) dX7_ring_19 lX7_234 kX7_utter ⟨by decide, by decide⟩ (Nat.le_of_ble_eq_true rfl) (cc_X7_utter hG ok.1) ?_
  have ok := ok.2
  exact cX.cutz (b_X7_ring_22 hG hR ok hx) trivial
def F_X7_ring_0 (N : Nat) (x0 : Option Nat) (x1 : Int32) (S : cS) : cS := (if x1 = 0 then (if (cI S 11 (za x0)) = 0 then (F_X7_ring_18 N x0 ((f_X6_vote N S (za x0) (nI 2) (none : Option Nat)).1) (f_X6_vote N S (za x0) (nI 2) (none : Option Nat)).2) else (F_X7_ring_25 N x0 x1 S)) else (F_X7_ring_25 N x0 x1 S))
def O_X7_ring_0 (N : Nat) (x0 : Option Nat) (x1 : Int32) (S : cS) : Prop := ((x1 = 0 → (cis S x0 6) ∧ (((cI S 11 (za x0)) = 0 → (cis S x0 6 ∧ o_X6_vote N S (za x0) (nI 2) (none : Option Nat)) ∧ O_X7_ring_18 N x0 ((f_X6_vote N S (za x0) (nI 2) (none : Option Nat)).1) (f_X6_vote N S (za x0) (nI 2) (none : Option Nat)).2) ∧ (¬ (cI S 11 (za x0)) = 0 → O_X7_ring_25 N x0 x1 S))) ∧ (¬ x1 = 0 → O_X7_ring_25 N x0 x1 S))
set_option maxRecDepth 100000 in
set_option maxHeartbeats 4000000 in
theorem b_X7_ring_0 {G : zG} {o : cO} {S : cS} {N : Nat} {Q : Option Value → cS → Prop} {X : cS → Prop} (hG : zOK G) (hR : ∀ S', X S' → Q none S') {x0 : Option Nat} {x1 : Int32} (ok : O_X7_ring_0 N x0 x1 S) (hx : X (F_X7_ring_0 N x0 x1 S)) : cX G o dX7_ring mX7_ring 0 [some (va_rf x0), some (.int x1)] [] S Q := by
  unfold O_X7_ring_0 at ok
  unfold F_X7_ring_0 at hx
  refine c_iload_n dX7_ring_0 rfl rfl ?_
  refine c_if_ne (tgt := 25) dX7_ring_1 (by decide) (fun c_1 => ?_) (fun c_1 => ?_)
  · have ok := ok.2 c_1
    have hx := xif_n c_1 hx
    exact cX.cutz (b_X7_ring_25 hG hR ok hx) ⟨rfl, rfl, trivial⟩
  · have ok := ok.1 c_1
    have hx := xif_p c_1 hx
    refine c_aload_nQ dX7_ring_4 rfl rfl ?_
    refine c_getI (C := RX6) (T := TX6) (N := 19) (ci := 5) (k := 11) ⟨rfl, inT6, by decide, fX7_220⟩ (by decide) (by decide) (by decide) dX7_ring_5 ok.1 ?_
    have ok := ok.2
    refine c_if_ne (tgt := 25) dX7_ring_8 (by decide) (fun c_8 => ?_) (fun c_8 => ?_)
    · have ok := ok.2 c_8
      have hx := xif_n c_8 hx
      exact cX.cutz (b_X7_ring_25 hG hR ok hx) ⟨rfl, rfl, trivial⟩
    · have ok := ok.1 c_8
      have hx := xif_p c_8 hx
      refine c_aload_nQ dX7_ring_11 rfl rfl ?_
      refine c_aload_nQ dX7_ring_12 rfl rfl ?_
      refine c_iconst (v := nI 2) dX7_ring_13 (by decide) ?_
      refine c_null' dX7_ring_14 ?_
      refine c_V2qE (ci := 5) (rr := (RX6, TX6, 19)) (y' := mX6_vote) dX7_ring_15 lX7_230 kX6_vote ⟨by decide, by decide⟩ rfl rfl (by decide) ok.1.1 (by simp only [List.map_cons, List.map_nil, List.sum_cons, List.sum_nil, zcat_rf, zcat_i, zcat_l, zcat_r] <;> decide) (cc_X6_vote hG ok.1.2) ?_
      have ok := ok.2
      exact cX.cutz (b_X7_ring_18 hG hR ok hx) trivial
def f_X7_ring (N : Nat) (S : cS) (x0 : Option Nat) (x1 : Int32) : cS := F_X7_ring_0 N x0 x1 S
def o_X7_ring (N : Nat) (S : cS) (x0 : Option Nat) (x1 : Int32) : Prop := O_X7_ring_0 N x0 x1 S
set_option maxRecDepth 100000 in
set_option maxHeartbeats 4000000 in
theorem cc_X7_ring {G : zG} {o : cO} {S : cS} {N : Nat} (hG : zOK G) {x0 : Option Nat} {x1 : Int32} (ok : o_X7_ring N S x0 x1) : cCv G o dX7_ring mX7_ring [va_rf x0, .int x1] S (fun S' => S' = f_X7_ring N S x0 x1) := by
  refine cC.ofX rfl (by cases x0 <;> exact Nat.le_of_ble_eq_true rfl) ?_
  rw [show zargs mX7_ring.2.2.1 [va_rf x0, .int x1] = [some (va_rf x0), some (.int x1)] from by cases x0 <;> rfl]
  exact cX.cutz (b_X7_ring_0 (X := fun F => F = f_X7_ring N S x0 x1) hG (fun S' h => ⟨rfl, h⟩) ok rfl) ⟨rfl, rfl, trivial⟩

/-! X7_prevotesOld -/
def KF_X7_prevotesOld_139 (N g H T : Nat)  (S : cS) : Int32 × cS := ((nI 1), S)
def KO_X7_prevotesOld_139 (N g H T : Nat)  (S : cS) : Prop := True
set_option maxRecDepth 100000 in
set_option maxHeartbeats 4000000 in
theorem kb_X7_prevotesOld_139 {G : zG} {o : cO} {u g H T N : Nat} {S : cS} {S0 : cS} {Q : Option Value → cS → Prop} {X : Int32 × cS → Prop} (hG : zOK G) (hR : ∀ v S', St u g H T S' → Mono S0 S' → X (v, S') → Q (some (.int v)) S') (hS : St u g H T S) (hM : Mono S0 S) (ok : KO_X7_prevotesOld_139 N g H T S) (hx : X (KF_X7_prevotesOld_139 N g H T S)) : cX G o dX7_prevotesOld mX7_prevotesOld 139 [none, none, none, none] [] S Q := by
  unfold KO_X7_prevotesOld_139 at ok
  unfold KF_X7_prevotesOld_139 at hx
  refine c_iconst (v := nI 1) dX7_prevotesOld_139 (by decide) ?_
  exact c_ireturn rfl rfl dX7_prevotesOld_140 (hR _ _ hS hM hx)
def KF_X7_prevotesOld_135 (N g H T : Nat) (s0 : Option Nat) (s1 : Option Nat) (S : cS) : Int32 × cS := (KF_X7_prevotesOld_139 N g H T (k_X7_utter N g H T S s0 s1 (nI 1)))
def KO_X7_prevotesOld_135 (N g H T : Nat) (s0 : Option Nat) (s1 : Option Nat) (S : cS) : Prop := (p_X7_utter N g H T S s0 s1 (nI 1)) ∧ KO_X7_prevotesOld_139 N g H T (k_X7_utter N g H T S s0 s1 (nI 1))
set_option maxRecDepth 100000 in
set_option maxHeartbeats 4000000 in
theorem kb_X7_prevotesOld_135 {G : zG} {o : cO} {u g H T N : Nat} {S : cS} {S0 : cS} {Q : Option Value → cS → Prop} {X : Int32 × cS → Prop} (hG : zOK G) (hR : ∀ v S', St u g H T S' → Mono S0 S' → X (v, S') → Q (some (.int v)) S') {s0 : Option Nat} {s1 : Option Nat} (hS : St u g H T S) (hM : Mono S0 S) (t_s0 : tN g H s0) (t_s1 : tK S 5 s1) (ok : KO_X7_prevotesOld_135 N g H T s0 s1 S) (hx : X (KF_X7_prevotesOld_135 N g H T s0 s1 S)) : cX G o dX7_prevotesOld mX7_prevotesOld 135 [none, none, none, none] [va_rf s1, va_rf s0] S Q := by
  unfold KO_X7_prevotesOld_135 at ok
  unfold KF_X7_prevotesOld_135 at hx
  refine c_iconst (v := nI 1) dX7_prevotesOld_135 (by decide) ?_
  refine c_S3vK (y' := mX7_utter) dX7_prevotesOld_136 lX7_234 kX7_utter ⟨by decide, by decide⟩ (Nat.le_of_ble_eq_true rfl) (kc_X7_utter hG hS t_s0 t_s1 ok.1) (fun ⟨hS, hm_136⟩ => ?_)
  have hM := hM.trans hm_136
  have ok := ok.2
  exact cX.cutz (kb_X7_prevotesOld_139 hG hR hS hM  ok hx) trivial
def KF_X7_prevotesOld_132 (N g H T : Nat) (s0 : Option Nat) (s1 : Option Nat) (s2 : Int32) (s3 : Option Nat) (S : cS) : Int32 × cS := (KF_X7_prevotesOld_135 N g H T s0 ((k_X6_vote N g H T S (za s1) s2 s3).1) (k_X6_vote N g H T S (za s1) s2 s3).2)
def KO_X7_prevotesOld_132 (N g H T : Nat) (s0 : Option Nat) (s1 : Option Nat) (s2 : Int32) (s3 : Option Nat) (S : cS) : Prop := (¬ s1 = none ∧ p_X6_vote N g H T S (za s1) s2 s3) ∧ KO_X7_prevotesOld_135 N g H T s0 ((k_X6_vote N g H T S (za s1) s2 s3).1) (k_X6_vote N g H T S (za s1) s2 s3).2
set_option maxRecDepth 100000 in
set_option maxHeartbeats 4000000 in
theorem kb_X7_prevotesOld_132 {G : zG} {o : cO} {u g H T N : Nat} {S : cS} {S0 : cS} {Q : Option Value → cS → Prop} {X : Int32 × cS → Prop} (hG : zOK G) (hR : ∀ v S', St u g H T S' → Mono S0 S' → X (v, S') → Q (some (.int v)) S') {s0 : Option Nat} {s1 : Option Nat} {s2 : Int32} {s3 : Option Nat} (hS : St u g H T S) (hM : Mono S0 S) (t_s0 : tN g H s0) (t_s1 : tN g H s1) (t_s3 : tK S 5 s3) (ok : KO_X7_prevotesOld_132 N g H T s0 s1 s2 s3 S) (hx : X (KF_X7_prevotesOld_132 N g H T s0 s1 s2 s3 S)) : cX G o dX7_prevotesOld mX7_prevotesOld 132 [none, none, none, none] [va_rf s3, .int s2, va_rf s1, va_rf s0] S Q := by
  unfold KO_X7_prevotesOld_132 at ok
  unfold KF_X7_prevotesOld_132 at hx
  have nn_132 := ok.1.1
  refine c_V2qK (ci := 5) (rr := (RX6, TX6, 19)) (y' := mX6_vote) dX7_prevotesOld_132 lX7_230 kX6_vote ⟨by decide, by decide⟩ rfl rfl (by decide) (hS.kN t_s1 nn_132) (by simp only [List.map_cons, List.map_nil, List.sum_cons, List.sum_nil, zcat_rf, zcat_i, zcat_l, zcat_r] <;> decide) (kc_X6_vote hG hS (tN.o t_s1 nn_132) t_s3 ok.1.2) (fun ⟨hS, hm_132, tv_132⟩ => ?_)
  have hM := hM.trans hm_132
  have ok := ok.2
  exact cX.cutz (kb_X7_prevotesOld_135 hG hR hS hM t_s0 tv_132 ok hx) trivial
def KF_X7_prevotesOld_119 (N g H T : Nat) (x0 : Option Nat) (x1 : Option Nat) (s0 : Int32) (S : cS) : Int32 × cS := (if s0 = 0 then (KF_X7_prevotesOld_132 N g H T x0 x0 (nI 2) (none : Option Nat) S) else (KF_X7_prevotesOld_132 N g H T x0 x0 (nI 2) x1 S))
def KO_X7_prevotesOld_119 (N g H T : Nat) (x0 : Option Nat) (x1 : Option Nat) (s0 : Int32) (S : cS) : Prop := ((s0 = 0 → KO_X7_prevotesOld_132 N g H T x0 x0 (nI 2) (none : Option Nat) S) ∧ (¬ s0 = 0 → KO_X7_prevotesOld_132 N g H T x0 x0 (nI 2) x1 S))
set_option maxRecDepth 100000 in
set_option maxHeartbeats 4000000 in
theorem kb_X7_prevotesOld_119 {G : zG} {o : cO} {u g H T N : Nat} {S : cS} {S0 : cS} {Q : Option Value → cS → Prop} {X : Int32 × cS → Prop} (hG : zOK G) (hR : ∀ v S', St u g H T S' → Mono S0 S' → X (v, S') → Q (some (.int v)) S') {x0 : Option Nat} {x1 : Option Nat} {s0 : Int32} (hS : St u g H T S) (hM : Mono S0 S) (t_x0 : tN g H x0) (t_x1 : tK S 5 x1) (ok : KO_X7_prevotesOld_119 N g H T x0 x1 s0 S) (hx : X (KF_X7_prevotesOld_119 N g H T x0 x1 s0 S)) : cX G o dX7_prevotesOld mX7_prevotesOld 119 [some (va_rf x0), some (va_rf x1), none, none] [.int s0] S Q := by
  unfold KO_X7_prevotesOld_119 at ok
  unfold KF_X7_prevotesOld_119 at hx
  refine c_istore_3 dX7_prevotesOld_119 (by decide) rfl ?_
  refine c_aload_nQ dX7_prevotesOld_120 rfl rfl ?_
  refine c_aload_nQ dX7_prevotesOld_121 rfl rfl ?_
  refine c_iconst (v := nI 2) dX7_prevotesOld_122 (by decide) ?_
  refine c_iload_n dX7_prevotesOld_123 rfl rfl ?_
  refine c_if_eq (tgt := 131) dX7_prevotesOld_124 (by decide) (fun c_124 => ?_) (fun c_124 => ?_)
  · have ok := ok.1 c_124
    have hx := xif_p c_124 hx
    refine c_null' dX7_prevotesOld_131 ?_
    exact cX.cutz (kb_X7_prevotesOld_132 hG hR hS hM t_x0 t_x0 tK_none ok hx) trivial
  · have ok := ok.2 c_124
    have hx := xif_n c_124 hx
    refine c_aload_nQ dX7_prevotesOld_127 rfl rfl ?_
    refine c_goto (tgt := 132) dX7_prevotesOld_128 (by decide) ?_
    exact cX.cutz (kb_X7_prevotesOld_132 hG hR hS hM t_x0 t_x0 t_x1 ok hx) trivial
def KF_X7_prevotesOld_118 (N g H T : Nat) (x0 : Option Nat) (x1 : Option Nat) (S : cS) : Int32 × cS := (KF_X7_prevotesOld_119 N g H T x0 x1 (nI 0) S)
def KO_X7_prevotesOld_118 (N g H T : Nat) (x0 : Option Nat) (x1 : Option Nat) (S : cS) : Prop := KO_X7_prevotesOld_119 N g H T x0 x1 (nI 0) S
set_option maxRecDepth 100000 in
set_option maxHeartbeats 4000000 in
theorem kb_X7_prevotesOld_118 {G : zG} {o : cO} {u g H T N : Nat} {S : cS} {S0 : cS} {Q : Option Value → cS → Prop} {X : Int32 × cS → Prop} (hG : zOK G) (hR : ∀ v S', St u g H T S' → Mono S0 S' → X (v, S') → Q (some (.int v)) S') {x0 : Option Nat} {x1 : Option Nat} (hS : St u g H T S) (hM : Mono S0 S) (t_x0 : tN g H x0) (t_x1 : tK S 5 x1) (ok : KO_X7_prevotesOld_118 N g H T x0 x1 S) (hx : X (KF_X7_prevotesOld_118 N g H T x0 x1 S)) : cX G o dX7_prevotesOld mX7_prevotesOld 118 [some (va_rf x0), some (va_rf x1), none, none] [] S Q := by
  unfold KO_X7_prevotesOld_118 at ok
  unfold KF_X7_prevotesOld_118 at hx
  refine c_iconst (v := nI 0) dX7_prevotesOld_118 (by decide) ?_
  exact cX.cutz (kb_X7_prevotesOld_119 hG hR hS hM t_x0 t_x1 ok hx) ⟨rfl, rfl, trivial⟩
def KF_X7_prevotesOld_114 (N g H T : Nat) (x0 : Option Nat) (x1 : Option Nat) (S : cS) : Int32 × cS := (KF_X7_prevotesOld_119 N g H T x0 x1 (nI 1) S)
def KO_X7_prevotesOld_114 (N g H T : Nat) (x0 : Option Nat) (x1 : Option Nat) (S : cS) : Prop := KO_X7_prevotesOld_119 N g H T x0 x1 (nI 1) S
set_option maxRecDepth 100000 in
set_option maxHeartbeats 4000000 in
theorem kb_X7_prevotesOld_114 {G : zG} {o : cO} {u g H T N : Nat} {S : cS} {S0 : cS} {Q : Option Value → cS → Prop} {X : Int32 × cS → Prop} (hG : zOK G) (hR : ∀ v S', St u g H T S' → Mono S0 S' → X (v, S') → Q (some (.int v)) S') {x0 : Option Nat} {x1 : Option Nat} (hS : St u g H T S) (hM : Mono S0 S) (t_x0 : tN g H x0) (t_x1 : tK S 5 x1) (ok : KO_X7_prevotesOld_114 N g H T x0 x1 S) (hx : X (KF_X7_prevotesOld_114 N g H T x0 x1 S)) : cX G o dX7_prevotesOld mX7_prevotesOld 114 [some (va_rf x0), some (va_rf x1), none, none] [] S Q := by
  unfold KO_X7_prevotesOld_114 at ok
  unfold KF_X7_prevotesOld_114 at hx
  refine c_iconst (v := nI 1) dX7_prevotesOld_114 (by decide) ?_
  refine c_goto (tgt := 119) dX7_prevotesOld_115 (by decide) ?_
  exact cX.cutz (kb_X7_prevotesOld_119 hG hR hS hM t_x0 t_x1 ok hx) ⟨rfl, rfl, trivial⟩
def KF_X7_prevotesOld_85 (N g H T : Nat) (x0 : Option Nat) (x1 : Option Nat) (x2 : Int32) (s0 : Int32) (S : cS) : Int32 × cS := (if s0 = 0 then (KF_X7_prevotesOld_118 N g H T x0 x1 S) else (if (cI S 12 (za x0)) ≤ x2 then (KF_X7_prevotesOld_114 N g H T x0 x1 S) else (if (cR S 14 (za x0)) = none then (KF_X7_prevotesOld_118 N g H T x0 x1 S) else (if (k_X5_isFor N g H T S (za (cR S 14 (za x0))) x1) = 0 then (KF_X7_prevotesOld_118 N g H T x0 x1 S) else (KF_X7_prevotesOld_114 N g H T x0 x1 S)))))
def KO_X7_prevotesOld_85 (N g H T : Nat) (x0 : Option Nat) (x1 : Option Nat) (x2 : Int32) (s0 : Int32) (S : cS) : Prop := ((s0 = 0 → KO_X7_prevotesOld_118 N g H T x0 x1 S) ∧ (¬ s0 = 0 → (¬ x0 = none) ∧ (((cI S 12 (za x0)) ≤ x2 → KO_X7_prevotesOld_114 N g H T x0 x1 S) ∧ (¬ (cI S 12 (za x0)) ≤ x2 → (((cR S 14 (za x0)) = none → KO_X7_prevotesOld_118 N g H T x0 x1 S) ∧ (¬ (cR S 14 (za x0)) = none → (p_X5_isFor N g H T S (za (cR S 14 (za x0))) x1) ∧ (((k_X5_isFor N g H T S (za (cR S 14 (za x0))) x1) = 0 → KO_X7_prevotesOld_118 N g H T x0 x1 S) ∧ (¬ (k_X5_isFor N g H T S (za (cR S 14 (za x0))) x1) = 0 → KO_X7_prevotesOld_114 N g H T x0 x1 S))))))))
set_option maxRecDepth 100000 in
set_option maxHeartbeats 4000000 in
theorem kb_X7_prevotesOld_85 {G : zG} {o : cO} {u g H T N : Nat} {S : cS} {S0 : cS} {Q : Option Value → cS → Prop} {X : Int32 × cS → Prop} (hG : zOK G) (hR : ∀ v S', St u g H T S' → Mono S0 S' → X (v, S') → Q (some (.int v)) S') {x0 : Option Nat} {x1 : Option Nat} {x2 : Int32} {s0 : Int32} (hS : St u g H T S) (hM : Mono S0 S) (t_x0 : tN g H x0) (t_x1 : tK S 5 x1) (ok : KO_X7_prevotesOld_85 N g H T x0 x1 x2 s0 S) (hx : X (KF_X7_prevotesOld_85 N g H T x0 x1 x2 s0 S)) : cX G o dX7_prevotesOld mX7_prevotesOld 85 [some (va_rf x0), some (va_rf x1), some (.int x2), none] [.int s0] S Q := by
  unfold KO_X7_prevotesOld_85 at ok
  unfold KF_X7_prevotesOld_85 at hx
  refine c_if_eq (tgt := 118) dX7_prevotesOld_85 (by decide) (fun c_85 => ?_) (fun c_85 => ?_)
  · have ok := ok.1 c_85
    have hx := xif_p c_85 hx
    exact cX.cutz (kb_X7_prevotesOld_118 hG hR hS hM t_x0 t_x1 ok hx) ⟨rfl, rfl, trivial⟩
  · have ok := ok.2 c_85
    have hx := xif_n c_85 hx
    refine c_aload_nQ dX7_prevotesOld_88 rfl rfl ?_
    have nn_89 := ok.1
    refine c_getI (C := RX6) (T := TX6) (N := 19) (ci := 5) (k := 12) ⟨rfl, inT6, by decide, fX7_237⟩ (by decide) (by decide) (by decide) dX7_prevotesOld_89 (hS.kN t_x0 ok.1) ?_
    have ok := ok.2
    refine c_iload_n dX7_prevotesOld_92 rfl rfl ?_
    refine c_icmp_le (tgt := 114) dX7_prevotesOld_93 (by decide) (fun c_93 => ?_) (fun c_93 => ?_)
    · have ok := ok.1 c_93
      have hx := xif_p c_93 hx
      exact cX.cutz (kb_X7_prevotesOld_114 hG hR hS hM t_x0 t_x1 ok hx) ⟨rfl, rfl, trivial⟩
    · have ok := ok.2 c_93
      have hx := xif_n c_93 hx
      refine c_aload_nQ dX7_prevotesOld_96 rfl rfl ?_
      have p_97 := hS.lk (tN.o t_x0 nn_89) (Or.inl rfl)
      refine c_getR (C := RX6) (T := TX6) (N := 19) (ci := 5) (k := 14) ⟨rfl, inT6, by decide, fX7_223⟩ (by decide) (by decide) (by decide) dX7_prevotesOld_97 (hS.kN t_x0 nn_89) ?_
      refine c_ifnullI (tgt := 118) dX7_prevotesOld_100 (by decide) (fun c_100 => ?_) (fun c_100 => ?_)
      · have ok := ok.1 c_100
        have hx := xif_p c_100 hx
        exact cX.cutz (kb_X7_prevotesOld_118 hG hR hS hM t_x0 t_x1 ok hx) ⟨rfl, rfl, trivial⟩
      · have ok := ok.2 c_100
        have hx := xif_n c_100 hx
        refine c_aload_nQ dX7_prevotesOld_103 rfl rfl ?_
        have p_104 := hS.lk (tN.o t_x0 nn_89) (Or.inl rfl)
        refine c_getR (C := RX6) (T := TX6) (N := 19) (ci := 5) (k := 14) ⟨rfl, inT6, by decide, fX7_223⟩ (by decide) (by decide) (by decide) dX7_prevotesOld_104 (hS.kN t_x0 nn_89) ?_
        refine c_aload_nQ dX7_prevotesOld_107 rfl rfl ?_
        refine c_V1iE (ci := 4) (rr := (RX5, TX5, 7)) (y' := mX5_isFor) dX7_prevotesOld_108 lX7_227 kX5_isFor ⟨by decide, by decide⟩ rfl rfl (by decide) (tK.cis p_104 c_100) (Nat.le_of_ble_eq_true rfl) (kc_X5_isFor hG hS (p_104 _ (za_of c_100)) t_x1 ok.1) ?_
        have ok := ok.2
        refine c_if_eq (tgt := 118) dX7_prevotesOld_111 (by decide) (fun c_111 => ?_) (fun c_111 => ?_)
        · have ok := ok.1 c_111
          have hx := xif_p c_111 hx
          exact cX.cutz (kb_X7_prevotesOld_118 hG hR hS hM t_x0 t_x1 ok hx) ⟨rfl, rfl, trivial⟩
        · have ok := ok.2 c_111
          have hx := xif_n c_111 hx
          exact cX.cutz (kb_X7_prevotesOld_114 hG hR hS hM t_x0 t_x1 ok hx) ⟨rfl, rfl, trivial⟩
def KF_X7_prevotesOld_43 (N g H T : Nat)  (S : cS) : Int32 × cS := ((nI 0), S)
def KO_X7_prevotesOld_43 (N g H T : Nat)  (S : cS) : Prop := True
set_option maxRecDepth 100000 in
set_option maxHeartbeats 4000000 in
theorem kb_X7_prevotesOld_43 {G : zG} {o : cO} {u g H T N : Nat} {S : cS} {S0 : cS} {Q : Option Value → cS → Prop} {X : Int32 × cS → Prop} (hG : zOK G) (hR : ∀ v S', St u g H T S' → Mono S0 S' → X (v, S') → Q (some (.int v)) S') (hS : St u g H T S) (hM : Mono S0 S) (ok : KO_X7_prevotesOld_43 N g H T S) (hx : X (KF_X7_prevotesOld_43 N g H T S)) : cX G o dX7_prevotesOld mX7_prevotesOld 43 [none, none, none, none] [] S Q := by
  unfold KO_X7_prevotesOld_43 at ok
  unfold KF_X7_prevotesOld_43 at hx
  refine c_iconst (v := nI 0) dX7_prevotesOld_43 (by decide) ?_
  exact c_ireturn rfl rfl dX7_prevotesOld_44 (hR _ _ hS hM hx)
def KF_X7_prevotesOld_26 (N g H T : Nat) (x0 : Option Nat) (s0 : Option Nat) (S : cS) : Int32 × cS := (if s0 = none then (KF_X7_prevotesOld_43 N g H T S) else (if (k_X5_at N g H T S (za s0) (nI 5)) < (cI S 10 (za x0)) then (if (cI S 3 (g + 8)) ≤ (k_X8_votesFor N g H T S ((za x0) + 14) (nI 2) (cI S 9 (za x0)) (k_X5_at N g H T S (za s0) (nI 5)) s0) then (KF_X7_prevotesOld_85 N g H T x0 s0 (k_X5_at N g H T S (za s0) (nI 5)) ((k_X7_approves N g H T S x0 (cI S 10 (za x0))).1) (k_X7_approves N g H T S x0 (cI S 10 (za x0))).2) else ((nI 0), S)) else (KF_X7_prevotesOld_43 N g H T S)))
def KO_X7_prevotesOld_26 (N g H T : Nat) (x0 : Option Nat) (s0 : Option Nat) (S : cS) : Prop := ((s0 = none → KO_X7_prevotesOld_43 N g H T S) ∧ (¬ s0 = none → (p_X5_at N g H T S (za s0) (nI 5)) ∧ (¬ x0 = none) ∧ (((k_X5_at N g H T S (za s0) (nI 5)) < (cI S 10 (za x0)) → (p_X5_at N g H T S (za s0) (nI 5)) ∧ (p_X8_votesFor N g H T S ((za x0) + 14) (nI 2) (cI S 9 (za x0)) (k_X5_at N g H T S (za s0) (nI 5)) s0) ∧ (((cI S 3 (g + 8)) ≤ (k_X8_votesFor N g H T S ((za x0) + 14) (nI 2) (cI S 9 (za x0)) (k_X5_at N g H T S (za s0) (nI 5)) s0) → (p_X7_approves N g H T S x0 (cI S 10 (za x0))) ∧ KO_X7_prevotesOld_85 N g H T x0 s0 (k_X5_at N g H T S (za s0) (nI 5)) ((k_X7_approves N g H T S x0 (cI S 10 (za x0))).1) (k_X7_approves N g H T S x0 (cI S 10 (za x0))).2) ∧ (¬ (cI S 3 (g + 8)) ≤ (k_X8_votesFor N g H T S ((za x0) + 14) (nI 2) (cI S 9 (za x0)) (k_X5_at N g H T S (za s0) (nI 5)) s0) → True))) ∧ (¬ (k_X5_at N g H T S (za s0) (nI 5)) < (cI S 10 (za x0)) → KO_X7_prevotesOld_43 N g H T S))))
set_option maxRecDepth 100000 in
set_option maxHeartbeats 4000000 in
theorem kb_X7_prevotesOld_26 {G : zG} {o : cO} {u g H T N : Nat} {S : cS} {S0 : cS} {Q : Option Value → cS → Prop} {X : Int32 × cS → Prop} (hG : zOK G) (hR : ∀ v S', St u g H T S' → Mono S0 S' → X (v, S') → Q (some (.int v)) S') {x0 : Option Nat} {s0 : Option Nat} (hS : St u g H T S) (hM : Mono S0 S) (t_x0 : tN g H x0) (t_s0 : tK S 5 s0) (ok : KO_X7_prevotesOld_26 N g H T x0 s0 S) (hx : X (KF_X7_prevotesOld_26 N g H T x0 s0 S)) : cX G o dX7_prevotesOld mX7_prevotesOld 26 [some (va_rf x0), none, none, none] [va_rf s0] S Q := by
  unfold KO_X7_prevotesOld_26 at ok
  unfold KF_X7_prevotesOld_26 at hx
  refine c_astore_1Q dX7_prevotesOld_26 (by decide) (by simp [zok, zg, zcat_rf]) ?_
  refine c_aload_nQ dX7_prevotesOld_27 rfl rfl ?_
  refine c_ifnullI (tgt := 43) dX7_prevotesOld_28 (by decide) (fun c_28 => ?_) (fun c_28 => ?_)
  · have ok := ok.1 c_28
    have hx := xif_p c_28 hx
    exact cX.cutz (kb_X7_prevotesOld_43 hG hR hS hM  ok hx) trivial
  · have ok := ok.2 c_28
    have hx := xif_n c_28 hx
    refine c_aload_nQ dX7_prevotesOld_31 rfl rfl ?_
    refine c_iconst (v := nI 5) dX7_prevotesOld_32 (by decide) ?_
    refine c_V1iE (ci := 4) (rr := (RX5, TX5, 7)) (y' := mX5_at) dX7_prevotesOld_33 lX7_202 kX5_at ⟨by decide, by decide⟩ rfl rfl (by decide) (tK.cis t_s0 c_28) (Nat.le_of_ble_eq_true rfl) (kc_X5_at hG hS (t_s0 _ (za_of c_28)) ok.1) ?_
    have ok := ok.2
    refine c_aload_nQ dX7_prevotesOld_36 rfl rfl ?_
    have nn_37 := ok.1
    refine c_getI (C := RX6) (T := TX6) (N := 19) (ci := 5) (k := 10) ⟨rfl, inT6, by decide, fX7_213⟩ (by decide) (by decide) (by decide) dX7_prevotesOld_37 (hS.kN t_x0 ok.1) ?_
    have ok := ok.2
    refine c_icmp_lt (tgt := 45) dX7_prevotesOld_40 (by decide) (fun c_40 => ?_) (fun c_40 => ?_)
    · have ok := ok.1 c_40
      have hx := xif_p c_40 hx
      refine c_aload_nQ dX7_prevotesOld_45 rfl rfl ?_
      refine c_iconst (v := nI 5) dX7_prevotesOld_46 (by decide) ?_
      refine c_V1iE (ci := 4) (rr := (RX5, TX5, 7)) (y' := mX5_at) dX7_prevotesOld_47 lX7_202 kX5_at ⟨by decide, by decide⟩ rfl rfl (by decide) (tK.cis t_s0 c_28) (Nat.le_of_ble_eq_true rfl) (kc_X5_at hG hS (t_s0 _ (za_of c_28)) ok.1) ?_
      have ok := ok.2
      refine c_istore_2 dX7_prevotesOld_50 (by decide) (by simp [zok, zg, zcat_rf]) ?_
      refine c_aload_nQ dX7_prevotesOld_51 rfl rfl ?_
      refine c_getS (C := RX6) (T := TX6) (N := 19) (ci := 5) (k := 3) ⟨rfl, inT6, by decide, fX7_80⟩ (by decide) (by decide) (by decide) dX7_prevotesOld_52 (hS.kN t_x0 nn_37) (hS.r (c := 5) (tN.o t_x0 nn_37) rfl (by omega)) ?_
      refine c_iconst (v := nI 2) dX7_prevotesOld_55 (by decide) ?_
      refine c_aload_nQ dX7_prevotesOld_56 rfl rfl ?_
      refine c_getI (C := RX6) (T := TX6) (N := 19) (ci := 5) (k := 9) ⟨rfl, inT6, by decide, fX7_18⟩ (by decide) (by decide) (by decide) dX7_prevotesOld_57 (hS.kN t_x0 nn_37) ?_
      refine c_iload_n dX7_prevotesOld_60 rfl rfl ?_
      refine c_aload_nQ dX7_prevotesOld_61 rfl rfl ?_
      refine c_V4iE (ci := 6) (rr := (RX8, TX8, 14)) (y' := mX8_votesFor) dX7_prevotesOld_62 lX7_176 kX8_votesFor ⟨by decide, by decide⟩ rfl rfl (by decide) (hS.k (o53 (tN.o t_x0 nn_37))) (Nat.le_of_ble_eq_true rfl) (kc_X8_votesFor hG hS (o53 (tN.o t_x0 nn_37)) t_s0 ok.1) ?_
      have ok := ok.2
      refine c_aload_nQ dX7_prevotesOld_65 rfl rfl ?_
      refine c_getS (C := RX6) (T := TX6) (N := 19) (ci := 5) (k := 0) ⟨rfl, inT6, by decide, fX7_26⟩ (by decide) (by decide) (by decide) dX7_prevotesOld_66 (hS.kN t_x0 nn_37) (hS.r (c := 5) (tN.o t_x0 nn_37) rfl (by omega)) ?_
      refine c_getI (C := RX10) (T := TX10) (N := 12) (ci := 8) (k := 3) ⟨rfl, inT10, by decide, fX7_180⟩ (by decide) (by decide) (by decide) dX7_prevotesOld_69 (hS.k (o50 (tN.o t_x0 nn_37))) ?_
      refine c_icmp_ge (tgt := 77) dX7_prevotesOld_72 (by decide) (fun c_72 => ?_) (fun c_72 => ?_)
      · have ok := ok.1 c_72
        have hx := xif_p c_72 hx
        refine c_aload_nQ dX7_prevotesOld_77 rfl rfl ?_
        refine c_aload_nQ dX7_prevotesOld_78 rfl rfl ?_
        refine c_getI (C := RX6) (T := TX6) (N := 19) (ci := 5) (k := 10) ⟨rfl, inT6, by decide, fX7_213⟩ (by decide) (by decide) (by decide) dX7_prevotesOld_79 (hS.kN t_x0 nn_37) ?_
        refine c_S2iK (y' := mX7_approves) dX7_prevotesOld_82 lX7_183 kX7_approves ⟨by decide, by decide⟩ (Nat.le_of_ble_eq_true rfl) (kc_X7_approves hG hS t_x0 ok.1) (fun ⟨hS, hm_82⟩ => ?_)
        have hM := hM.trans hm_82
        have ok := ok.2
        exact cX.cutz (kb_X7_prevotesOld_85 hG hR hS hM t_x0 (hm_82.tK t_s0 (by decide)) ok hx) ⟨rfl, rfl, rfl, trivial⟩
      · have ok := ok.2 c_72
        have hx := xif_n c_72 hx
        refine c_iconst (v := nI 0) dX7_prevotesOld_75 (by decide) ?_
        exact c_ireturn rfl rfl dX7_prevotesOld_76 (hR _ _ hS hM hx)
    · have ok := ok.2 c_40
      have hx := xif_n c_40 hx
      exact cX.cutz (kb_X7_prevotesOld_43 hG hR hS hM  ok hx) trivial
def KF_X7_prevotesOld_0 (N g H T : Nat) (x0 : Option Nat) (S : cS) : Int32 × cS := (if (cI S 11 (za x0)) = 0 then (KF_X7_prevotesOld_26 N g H T x0 (k_X8_proposal N g H T S ((za x0) + 14) (cI S 9 (za x0)) (cI S 10 (za x0))) S) else (KF_X7_prevotesOld_26 N g H T x0 (none : Option Nat) S))
def KO_X7_prevotesOld_0 (N g H T : Nat) (x0 : Option Nat) (S : cS) : Prop := (¬ x0 = none) ∧ (((cI S 11 (za x0)) = 0 → (p_X8_proposal N g H T S ((za x0) + 14) (cI S 9 (za x0)) (cI S 10 (za x0))) ∧ KO_X7_prevotesOld_26 N g H T x0 (k_X8_proposal N g H T S ((za x0) + 14) (cI S 9 (za x0)) (cI S 10 (za x0))) S) ∧ (¬ (cI S 11 (za x0)) = 0 → KO_X7_prevotesOld_26 N g H T x0 (none : Option Nat) S))
set_option maxRecDepth 100000 in
set_option maxHeartbeats 4000000 in
theorem kb_X7_prevotesOld_0 {G : zG} {o : cO} {u g H T N : Nat} {S : cS} {S0 : cS} {Q : Option Value → cS → Prop} {X : Int32 × cS → Prop} (hG : zOK G) (hR : ∀ v S', St u g H T S' → Mono S0 S' → X (v, S') → Q (some (.int v)) S') {x0 : Option Nat} (hS : St u g H T S) (hM : Mono S0 S) (t_x0 : tN g H x0) (ok : KO_X7_prevotesOld_0 N g H T x0 S) (hx : X (KF_X7_prevotesOld_0 N g H T x0 S)) : cX G o dX7_prevotesOld mX7_prevotesOld 0 [some (va_rf x0), none, none, none] [] S Q := by
  unfold KO_X7_prevotesOld_0 at ok
  unfold KF_X7_prevotesOld_0 at hx
  refine c_aload_nQ dX7_prevotesOld_0 rfl rfl ?_
  have nn_1 := ok.1
  refine c_getI (C := RX6) (T := TX6) (N := 19) (ci := 5) (k := 11) ⟨rfl, inT6, by decide, fX7_220⟩ (by decide) (by decide) (by decide) dX7_prevotesOld_1 (hS.kN t_x0 ok.1) ?_
  have ok := ok.2
  refine c_if_ne (tgt := 25) dX7_prevotesOld_4 (by decide) (fun c_4 => ?_) (fun c_4 => ?_)
  · have ok := ok.2 c_4
    have hx := xif_n c_4 hx
    refine c_null' dX7_prevotesOld_25 ?_
    exact cX.cutz (kb_X7_prevotesOld_26 hG hR hS hM t_x0 tK_none ok hx) ⟨rfl, trivial⟩
  · have ok := ok.1 c_4
    have hx := xif_p c_4 hx
    refine c_aload_nQ dX7_prevotesOld_7 rfl rfl ?_
    refine c_getS (C := RX6) (T := TX6) (N := 19) (ci := 5) (k := 3) ⟨rfl, inT6, by decide, fX7_80⟩ (by decide) (by decide) (by decide) dX7_prevotesOld_8 (hS.kN t_x0 nn_1) (hS.r (c := 5) (tN.o t_x0 nn_1) rfl (by omega)) ?_
    refine c_aload_nQ dX7_prevotesOld_11 rfl rfl ?_
    refine c_getI (C := RX6) (T := TX6) (N := 19) (ci := 5) (k := 9) ⟨rfl, inT6, by decide, fX7_18⟩ (by decide) (by decide) (by decide) dX7_prevotesOld_12 (hS.kN t_x0 nn_1) ?_
    refine c_aload_nQ dX7_prevotesOld_15 rfl rfl ?_
    refine c_getI (C := RX6) (T := TX6) (N := 19) (ci := 5) (k := 10) ⟨rfl, inT6, by decide, fX7_213⟩ (by decide) (by decide) (by decide) dX7_prevotesOld_16 (hS.kN t_x0 nn_1) ?_
    refine c_V2qK (ci := 6) (rr := (RX8, TX8, 14)) (y' := mX8_proposal) dX7_prevotesOld_19 lX7_172 kX8_proposal ⟨by decide, by decide⟩ rfl rfl (by decide) (hS.k (o53 (tN.o t_x0 nn_1))) (Nat.le_of_ble_eq_true rfl) (kc_X8_proposal hG hS (o53 (tN.o t_x0 nn_1)) ok.1) (fun tv_19 => ?_)
    have ok := ok.2
    refine c_goto (tgt := 26) dX7_prevotesOld_22 (by decide) ?_
    exact cX.cutz (kb_X7_prevotesOld_26 hG hR hS hM t_x0 tv_19 ok hx) ⟨rfl, trivial⟩
def k_X7_prevotesOld (N g H T : Nat) (S : cS) (x0 : Option Nat) : Int32 × cS := KF_X7_prevotesOld_0 N g H T x0 S
def p_X7_prevotesOld (N g H T : Nat) (S : cS) (x0 : Option Nat) : Prop := KO_X7_prevotesOld_0 N g H T x0 S
set_option maxRecDepth 100000 in
set_option maxHeartbeats 4000000 in
theorem kc_X7_prevotesOld {G : zG} {o : cO} {u g H T N : Nat} {S : cS} (hG : zOK G) {x0 : Option Nat} (hS : St u g H T S) (t_x0 : tN g H x0) (ok : p_X7_prevotesOld N g H T S x0) : cCi G o dX7_prevotesOld mX7_prevotesOld [va_rf x0] S (fun v S' => (v = (k_X7_prevotesOld N g H T S x0).1 ∧ S' = (k_X7_prevotesOld N g H T S x0).2) ∧ St u g H T S' ∧ Mono S S') := by
  refine cC.ofX rfl (by cases x0 <;> exact Nat.le_of_ble_eq_true rfl) ?_
  rw [show zargs mX7_prevotesOld.2.2.1 [va_rf x0] = [some (va_rf x0), none, none, none] from by cases x0 <;> rfl]
  exact cX.cutz (kb_X7_prevotesOld_0 (X := fun F => F = k_X7_prevotesOld N g H T S x0) hG (fun v S' h1 h2 h => ⟨v, rfl, ⟨by rw [← h], by rw [← h]⟩, h1, h2⟩) hS Mono.rfl' t_x0 ok rfl) ⟨rfl, trivial⟩
/-! X7_locks -/
def KF_X7_locks_215 (N g H T : Nat)  (S : cS) : Int32 × cS := ((nI 1), S)
def KO_X7_locks_215 (N g H T : Nat)  (S : cS) : Prop := True
set_option maxRecDepth 100000 in
set_option maxHeartbeats 4000000 in
theorem kb_X7_locks_215 {G : zG} {o : cO} {u g H T N : Nat} {S : cS} {S0 : cS} {Q : Option Value → cS → Prop} {X : Int32 × cS → Prop} (hG : zOK G) (hR : ∀ v S', St u g H T S' → Mono S0 S' → X (v, S') → Q (some (.int v)) S') (hS : St u g H T S) (hM : Mono S0 S) (ok : KO_X7_locks_215 N g H T S) (hx : X (KF_X7_locks_215 N g H T S)) : cX G o dX7_locks mX7_locks 215 [none, none] [] S Q := by
  unfold KO_X7_locks_215 at ok
  unfold KF_X7_locks_215 at hx
  refine c_iconst (v := nI 1) dX7_locks_215 (by decide) ?_
  exact c_ireturn rfl rfl dX7_locks_216 (hR _ _ hS hM hx)
def KF_X7_locks_204 (N g H T : Nat)  (S : cS) : Int32 × cS := ((nI 1), S)
def KO_X7_locks_204 (N g H T : Nat)  (S : cS) : Prop := True
set_option maxRecDepth 100000 in
set_option maxHeartbeats 4000000 in
theorem kb_X7_locks_204 {G : zG} {o : cO} {u g H T N : Nat} {S : cS} {S0 : cS} {Q : Option Value → cS → Prop} {X : Int32 × cS → Prop} (hG : zOK G) (hR : ∀ v S', St u g H T S' → Mono S0 S' → X (v, S') → Q (some (.int v)) S') (hS : St u g H T S) (hM : Mono S0 S) (ok : KO_X7_locks_204 N g H T S) (hx : X (KF_X7_locks_204 N g H T S)) : cX G o dX7_locks mX7_locks 204 [none, none] [] S Q := by
  unfold KO_X7_locks_204 at ok
  unfold KF_X7_locks_204 at hx
  refine c_iconst (v := nI 1) dX7_locks_204 (by decide) ?_
  exact c_ireturn rfl rfl dX7_locks_205 (hR _ _ hS hM hx)
def KF_X7_locks_197 (N g H T : Nat) (x0 : Option Nat) (x1 : Option Nat) (s0 : Int32) (S : cS) : Int32 × cS := (if s0 = 0 then (KF_X7_locks_204 N g H T (k_X6_fall N g H T S (za x0))) else (KF_X7_locks_215 N g H T (k_X6_setValid N g H T S (za x0) x1 (cI S 10 (za x0)))))
def KO_X7_locks_197 (N g H T : Nat) (x0 : Option Nat) (x1 : Option Nat) (s0 : Int32) (S : cS) : Prop := ((s0 = 0 → (¬ x0 = none ∧ p_X6_fall N g H T S (za x0)) ∧ KO_X7_locks_204 N g H T (k_X6_fall N g H T S (za x0))) ∧ (¬ s0 = 0 → (¬ x0 = none) ∧ (p_X6_setValid N g H T S (za x0) x1 (cI S 10 (za x0))) ∧ KO_X7_locks_215 N g H T (k_X6_setValid N g H T S (za x0) x1 (cI S 10 (za x0)))))
set_option maxRecDepth 100000 in
set_option maxHeartbeats 4000000 in
theorem kb_X7_locks_197 {G : zG} {o : cO} {u g H T N : Nat} {S : cS} {S0 : cS} {Q : Option Value → cS → Prop} {X : Int32 × cS → Prop} (hG : zOK G) (hR : ∀ v S', St u g H T S' → Mono S0 S' → X (v, S') → Q (some (.int v)) S') {x0 : Option Nat} {x1 : Option Nat} {s0 : Int32} (hS : St u g H T S) (hM : Mono S0 S) (t_x0 : tN g H x0) (t_x1 : tK S 5 x1) (ok : KO_X7_locks_197 N g H T x0 x1 s0 S) (hx : X (KF_X7_locks_197 N g H T x0 x1 s0 S)) : cX G o dX7_locks mX7_locks 197 [some (va_rf x0), some (va_rf x1)] [.int s0] S Q := by
  unfold KO_X7_locks_197 at ok
  unfold KF_X7_locks_197 at hx
  refine c_if_ne (tgt := 206) dX7_locks_197 (by decide) (fun c_197 => ?_) (fun c_197 => ?_)
  · have ok := ok.2 c_197
    have hx := xif_n c_197 hx
    refine c_aload_nQ dX7_locks_206 rfl rfl ?_
    refine c_aload_nQ dX7_locks_207 rfl rfl ?_
    refine c_aload_nQ dX7_locks_208 rfl rfl ?_
    have nn_209 := ok.1
    refine c_getI (C := RX6) (T := TX6) (N := 19) (ci := 5) (k := 10) ⟨rfl, inT6, by decide, fX7_213⟩ (by decide) (by decide) (by decide) dX7_locks_209 (hS.kN t_x0 ok.1) ?_
    have ok := ok.2
    refine c_V2vK (ci := 5) (rr := (RX6, TX6, 19)) (y' := mX6_setValid) dX7_locks_212 lX7_251 kX6_setValid ⟨by decide, by decide⟩ rfl rfl (by decide) (hS.kN t_x0 nn_209) (Nat.le_of_ble_eq_true rfl) (kc_X6_setValid hG hS (tN.o t_x0 nn_209) t_x1 ok.1) (fun ⟨hS, hm_212⟩ => ?_)
    have hM := hM.trans hm_212
    have ok := ok.2
    exact cX.cutz (kb_X7_locks_215 hG hR hS hM  ok hx) trivial
  · have ok := ok.1 c_197
    have hx := xif_p c_197 hx
    refine c_aload_nQ dX7_locks_200 rfl rfl ?_
    have nn_201 := ok.1.1
    refine c_V0vK (ci := 5) (rr := (RX6, TX6, 19)) (y' := mX6_fall) dX7_locks_201 lX7_120 kX6_fall ⟨by decide, by decide⟩ rfl rfl (by decide) (hS.kN t_x0 nn_201) (Nat.le_of_ble_eq_true rfl) (kc_X6_fall hG hS (tN.o t_x0 nn_201) ok.1.2) (fun ⟨hS, hm_201⟩ => ?_)
    have hM := hM.trans hm_201
    have ok := ok.2
    exact cX.cutz (kb_X7_locks_204 hG hR hS hM  ok hx) trivial
def KF_X7_locks_164 (N g H T : Nat)  (S : cS) : Int32 × cS := (KF_X7_locks_215 N g H T S)
def KO_X7_locks_164 (N g H T : Nat)  (S : cS) : Prop := KO_X7_locks_215 N g H T S
set_option maxRecDepth 100000 in
set_option maxHeartbeats 4000000 in
theorem kb_X7_locks_164 {G : zG} {o : cO} {u g H T N : Nat} {S : cS} {S0 : cS} {Q : Option Value → cS → Prop} {X : Int32 × cS → Prop} (hG : zOK G) (hR : ∀ v S', St u g H T S' → Mono S0 S' → X (v, S') → Q (some (.int v)) S') (hS : St u g H T S) (hM : Mono S0 S) (ok : KO_X7_locks_164 N g H T S) (hx : X (KF_X7_locks_164 N g H T S)) : cX G o dX7_locks mX7_locks 164 [none, none] [] S Q := by
  unfold KO_X7_locks_164 at ok
  unfold KF_X7_locks_164 at hx
  refine c_goto (tgt := 215) dX7_locks_164 (by decide) ?_
  exact cX.cutz (kb_X7_locks_215 hG hR hS hM  ok hx) trivial
def KF_X7_locks_160 (N g H T : Nat) (s0 : Option Nat) (s1 : Option Nat) (S : cS) : Int32 × cS := (KF_X7_locks_164 N g H T (k_X7_utter N g H T S s0 s1 (nI 2)))
def KO_X7_locks_160 (N g H T : Nat) (s0 : Option Nat) (s1 : Option Nat) (S : cS) : Prop := (p_X7_utter N g H T S s0 s1 (nI 2)) ∧ KO_X7_locks_164 N g H T (k_X7_utter N g H T S s0 s1 (nI 2))
set_option maxRecDepth 100000 in
set_option maxHeartbeats 4000000 in
theorem kb_X7_locks_160 {G : zG} {o : cO} {u g H T N : Nat} {S : cS} {S0 : cS} {Q : Option Value → cS → Prop} {X : Int32 × cS → Prop} (hG : zOK G) (hR : ∀ v S', St u g H T S' → Mono S0 S' → X (v, S') → Q (some (.int v)) S') {s0 : Option Nat} {s1 : Option Nat} (hS : St u g H T S) (hM : Mono S0 S) (t_s0 : tN g H s0) (t_s1 : tK S 5 s1) (ok : KO_X7_locks_160 N g H T s0 s1 S) (hx : X (KF_X7_locks_160 N g H T s0 s1 S)) : cX G o dX7_locks mX7_locks 160 [none, none] [va_rf s1, va_rf s0] S Q := by
  unfold KO_X7_locks_160 at ok
  unfold KF_X7_locks_160 at hx
  refine c_iconst (v := nI 2) dX7_locks_160 (by decide) ?_
  refine c_S3vK (y' := mX7_utter) dX7_locks_161 lX7_234 kX7_utter ⟨by decide, by decide⟩ (Nat.le_of_ble_eq_true rfl) (kc_X7_utter hG hS t_s0 t_s1 ok.1) (fun ⟨hS, hm_161⟩ => ?_)
  have hM := hM.trans hm_161
  have ok := ok.2
  exact cX.cutz (kb_X7_locks_164 hG hR hS hM  ok hx) trivial
def KF_X7_locks_153 (N g H T : Nat) (x0 : Option Nat) (x1 : Option Nat) (S : cS) : Int32 × cS := (KF_X7_locks_160 N g H T x0 ((k_X6_vote N g H T S (za x0) (nI 3) x1).1) (k_X6_vote N g H T S (za x0) (nI 3) x1).2)
def KO_X7_locks_153 (N g H T : Nat) (x0 : Option Nat) (x1 : Option Nat) (S : cS) : Prop := (¬ x0 = none ∧ p_X6_vote N g H T S (za x0) (nI 3) x1) ∧ KO_X7_locks_160 N g H T x0 ((k_X6_vote N g H T S (za x0) (nI 3) x1).1) (k_X6_vote N g H T S (za x0) (nI 3) x1).2
set_option maxRecDepth 100000 in
set_option maxHeartbeats 4000000 in
theorem kb_X7_locks_153 {G : zG} {o : cO} {u g H T N : Nat} {S : cS} {S0 : cS} {Q : Option Value → cS → Prop} {X : Int32 × cS → Prop} (hG : zOK G) (hR : ∀ v S', St u g H T S' → Mono S0 S' → X (v, S') → Q (some (.int v)) S') {x0 : Option Nat} {x1 : Option Nat} (hS : St u g H T S) (hM : Mono S0 S) (t_x0 : tN g H x0) (t_x1 : tK S 5 x1) (ok : KO_X7_locks_153 N g H T x0 x1 S) (hx : X (KF_X7_locks_153 N g H T x0 x1 S)) : cX G o dX7_locks mX7_locks 153 [some (va_rf x0), some (va_rf x1)] [] S Q := by
  unfold KO_X7_locks_153 at ok
  unfold KF_X7_locks_153 at hx
  refine c_aload_nQ dX7_locks_153 rfl rfl ?_
  refine c_aload_nQ dX7_locks_154 rfl rfl ?_
  refine c_iconst (v := nI 3) dX7_locks_155 (by decide) ?_
  refine c_aload_nQ dX7_locks_156 rfl rfl ?_
  have nn_157 := ok.1.1
  refine c_V2qK (ci := 5) (rr := (RX6, TX6, 19)) (y' := mX6_vote) dX7_locks_157 lX7_230 kX6_vote ⟨by decide, by decide⟩ rfl rfl (by decide) (hS.kN t_x0 nn_157) (by simp only [List.map_cons, List.map_nil, List.sum_cons, List.sum_nil, zcat_rf, zcat_i, zcat_l, zcat_r] <;> decide) (kc_X6_vote hG hS (tN.o t_x0 nn_157) t_x1 ok.1.2) (fun ⟨hS, hm_157, tv_157⟩ => ?_)
  have hM := hM.trans hm_157
  have ok := ok.2
  exact cX.cutz (kb_X7_locks_160 hG hR hS hM t_x0 tv_157 ok hx) trivial
def KF_X7_locks_144 (N g H T : Nat) (x0 : Option Nat) (x1 : Option Nat) (S : cS) : Int32 × cS := (KF_X7_locks_153 N g H T x0 x1 (k_X6_setValid N g H T S (za x0) x1 (cI S 10 (za x0))))
def KO_X7_locks_144 (N g H T : Nat) (x0 : Option Nat) (x1 : Option Nat) (S : cS) : Prop := (¬ x0 = none) ∧ (p_X6_setValid N g H T S (za x0) x1 (cI S 10 (za x0))) ∧ KO_X7_locks_153 N g H T x0 x1 (k_X6_setValid N g H T S (za x0) x1 (cI S 10 (za x0)))
set_option maxRecDepth 100000 in
set_option maxHeartbeats 4000000 in
theorem kb_X7_locks_144 {G : zG} {o : cO} {u g H T N : Nat} {S : cS} {S0 : cS} {Q : Option Value → cS → Prop} {X : Int32 × cS → Prop} (hG : zOK G) (hR : ∀ v S', St u g H T S' → Mono S0 S' → X (v, S') → Q (some (.int v)) S') {x0 : Option Nat} {x1 : Option Nat} (hS : St u g H T S) (hM : Mono S0 S) (t_x0 : tN g H x0) (t_x1 : tK S 5 x1) (ok : KO_X7_locks_144 N g H T x0 x1 S) (hx : X (KF_X7_locks_144 N g H T x0 x1 S)) : cX G o dX7_locks mX7_locks 144 [some (va_rf x0), some (va_rf x1)] [] S Q := by
  unfold KO_X7_locks_144 at ok
  unfold KF_X7_locks_144 at hx
  refine c_aload_nQ dX7_locks_144 rfl rfl ?_
  refine c_aload_nQ dX7_locks_145 rfl rfl ?_
  refine c_aload_nQ dX7_locks_146 rfl rfl ?_
  have nn_147 := ok.1
  refine c_getI (C := RX6) (T := TX6) (N := 19) (ci := 5) (k := 10) ⟨rfl, inT6, by decide, fX7_213⟩ (by decide) (by decide) (by decide) dX7_locks_147 (hS.kN t_x0 ok.1) ?_
  have ok := ok.2
  refine c_V2vK (ci := 5) (rr := (RX6, TX6, 19)) (y' := mX6_setValid) dX7_locks_150 lX7_251 kX6_setValid ⟨by decide, by decide⟩ rfl rfl (by decide) (hS.kN t_x0 nn_147) (Nat.le_of_ble_eq_true rfl) (kc_X6_setValid hG hS (tN.o t_x0 nn_147) t_x1 ok.1) (fun ⟨hS, hm_150⟩ => ?_)
  have hM := hM.trans hm_150
  have ok := ok.2
  exact cX.cutz (kb_X7_locks_153 hG hR hS hM t_x0 (hm_150.tK t_x1 (by decide)) ok hx) ⟨rfl, rfl, trivial⟩
def KF_X7_locks_133 (N g H T : Nat)  (S : cS) : Int32 × cS := ((nI 1), S)
def KO_X7_locks_133 (N g H T : Nat)  (S : cS) : Prop := True
set_option maxRecDepth 100000 in
set_option maxHeartbeats 4000000 in
theorem kb_X7_locks_133 {G : zG} {o : cO} {u g H T N : Nat} {S : cS} {S0 : cS} {Q : Option Value → cS → Prop} {X : Int32 × cS → Prop} (hG : zOK G) (hR : ∀ v S', St u g H T S' → Mono S0 S' → X (v, S') → Q (some (.int v)) S') (hS : St u g H T S) (hM : Mono S0 S) (ok : KO_X7_locks_133 N g H T S) (hx : X (KF_X7_locks_133 N g H T S)) : cX G o dX7_locks mX7_locks 133 [none, none] [] S Q := by
  unfold KO_X7_locks_133 at ok
  unfold KF_X7_locks_133 at hx
  refine c_iconst (v := nI 1) dX7_locks_133 (by decide) ?_
  exact c_ireturn rfl rfl dX7_locks_134 (hR _ _ hS hM hx)
def KF_X7_locks_126 (N g H T : Nat) (x0 : Option Nat) (x1 : Option Nat) (s0 : Int32) (S : cS) : Int32 × cS := (if s0 = 0 then (KF_X7_locks_133 N g H T (k_X6_fall N g H T S (za x0))) else (KF_X7_locks_144 N g H T x0 x1 (k_X6_setLocked N g H T S (za x0) x1 (cI S 10 (za x0)))))
def KO_X7_locks_126 (N g H T : Nat) (x0 : Option Nat) (x1 : Option Nat) (s0 : Int32) (S : cS) : Prop := ((s0 = 0 → (¬ x0 = none ∧ p_X6_fall N g H T S (za x0)) ∧ KO_X7_locks_133 N g H T (k_X6_fall N g H T S (za x0))) ∧ (¬ s0 = 0 → (¬ x0 = none) ∧ (p_X6_setLocked N g H T S (za x0) x1 (cI S 10 (za x0))) ∧ KO_X7_locks_144 N g H T x0 x1 (k_X6_setLocked N g H T S (za x0) x1 (cI S 10 (za x0)))))
set_option maxRecDepth 100000 in
set_option maxHeartbeats 4000000 in
theorem kb_X7_locks_126 {G : zG} {o : cO} {u g H T N : Nat} {S : cS} {S0 : cS} {Q : Option Value → cS → Prop} {X : Int32 × cS → Prop} (hG : zOK G) (hR : ∀ v S', St u g H T S' → Mono S0 S' → X (v, S') → Q (some (.int v)) S') {x0 : Option Nat} {x1 : Option Nat} {s0 : Int32} (hS : St u g H T S) (hM : Mono S0 S) (t_x0 : tN g H x0) (t_x1 : tK S 5 x1) (ok : KO_X7_locks_126 N g H T x0 x1 s0 S) (hx : X (KF_X7_locks_126 N g H T x0 x1 s0 S)) : cX G o dX7_locks mX7_locks 126 [some (va_rf x0), some (va_rf x1)] [.int s0] S Q := by
  unfold KO_X7_locks_126 at ok
  unfold KF_X7_locks_126 at hx
  refine c_if_ne (tgt := 135) dX7_locks_126 (by decide) (fun c_126 => ?_) (fun c_126 => ?_)
  · have ok := ok.2 c_126
    have hx := xif_n c_126 hx
    refine c_aload_nQ dX7_locks_135 rfl rfl ?_
    refine c_aload_nQ dX7_locks_136 rfl rfl ?_
    refine c_aload_nQ dX7_locks_137 rfl rfl ?_
    have nn_138 := ok.1
    refine c_getI (C := RX6) (T := TX6) (N := 19) (ci := 5) (k := 10) ⟨rfl, inT6, by decide, fX7_213⟩ (by decide) (by decide) (by decide) dX7_locks_138 (hS.kN t_x0 ok.1) ?_
    have ok := ok.2
    refine c_V2vK (ci := 5) (rr := (RX6, TX6, 19)) (y' := mX6_setLocked) dX7_locks_141 lX7_247 kX6_setLocked ⟨by decide, by decide⟩ rfl rfl (by decide) (hS.kN t_x0 nn_138) (Nat.le_of_ble_eq_true rfl) (kc_X6_setLocked hG hS (tN.o t_x0 nn_138) t_x1 ok.1) (fun ⟨hS, hm_141⟩ => ?_)
    have hM := hM.trans hm_141
    have ok := ok.2
    exact cX.cutz (kb_X7_locks_144 hG hR hS hM t_x0 (hm_141.tK t_x1 (by decide)) ok hx) ⟨rfl, rfl, trivial⟩
  · have ok := ok.1 c_126
    have hx := xif_p c_126 hx
    refine c_aload_nQ dX7_locks_129 rfl rfl ?_
    have nn_130 := ok.1.1
    refine c_V0vK (ci := 5) (rr := (RX6, TX6, 19)) (y' := mX6_fall) dX7_locks_130 lX7_120 kX6_fall ⟨by decide, by decide⟩ rfl rfl (by decide) (hS.kN t_x0 nn_130) (Nat.le_of_ble_eq_true rfl) (kc_X6_fall hG hS (tN.o t_x0 nn_130) ok.1.2) (fun ⟨hS, hm_130⟩ => ?_)
    have hM := hM.trans hm_130
    have ok := ok.2
    exact cX.cutz (kb_X7_locks_133 hG hR hS hM  ok hx) trivial
def KF_X7_locks_76 (N g H T : Nat)  (S : cS) : Int32 × cS := ((nI 0), S)
def KO_X7_locks_76 (N g H T : Nat)  (S : cS) : Prop := True
set_option maxRecDepth 100000 in
set_option maxHeartbeats 4000000 in
theorem kb_X7_locks_76 {G : zG} {o : cO} {u g H T N : Nat} {S : cS} {S0 : cS} {Q : Option Value → cS → Prop} {X : Int32 × cS → Prop} (hG : zOK G) (hR : ∀ v S', St u g H T S' → Mono S0 S' → X (v, S') → Q (some (.int v)) S') (hS : St u g H T S) (hM : Mono S0 S) (ok : KO_X7_locks_76 N g H T S) (hx : X (KF_X7_locks_76 N g H T S)) : cX G o dX7_locks mX7_locks 76 [none, none] [] S Q := by
  unfold KO_X7_locks_76 at ok
  unfold KF_X7_locks_76 at hx
  refine c_iconst (v := nI 0) dX7_locks_76 (by decide) ?_
  exact c_ireturn rfl rfl dX7_locks_77 (hR _ _ hS hM hx)
def KF_X7_locks_73 (N g H T : Nat) (x0 : Option Nat) (x1 : Option Nat) (s0 : Int32) (S : cS) : Int32 × cS := (if s0 = 0 then (KF_X7_locks_76 N g H T S) else (if (cI (csI S 16 (za x0) ((cI S 16 (za x0)) ||| (nI 1))) 11 (za x0)) = (nI 1) then (if (cI (csI S 16 (za x0) ((cI S 16 (za x0)) ||| (nI 1))) 12 (za x0)) = (cI (csI S 16 (za x0) ((cI S 16 (za x0)) ||| (nI 1))) 10 (za x0)) then (KF_X7_locks_153 N g H T x0 x1 (csI S 16 (za x0) ((cI S 16 (za x0)) ||| (nI 1)))) else (KF_X7_locks_126 N g H T x0 x1 ((k_X4_jot N g H T (csI S 16 (za x0) ((cI S 16 (za x0)) ||| (nI 1))) ((za x0) + 1) (nI 4) (cI (csI S 16 (za x0) ((cI S 16 (za x0)) ||| (nI 1))) 9 (za x0)) (cI (csI S 16 (za x0) ((cI S 16 (za x0)) ||| (nI 1))) 10 (za x0)) x1 (nI 6)).1) (k_X4_jot N g H T (csI S 16 (za x0) ((cI S 16 (za x0)) ||| (nI 1))) ((za x0) + 1) (nI 4) (cI (csI S 16 (za x0) ((cI S 16 (za x0)) ||| (nI 1))) 9 (za x0)) (cI (csI S 16 (za x0) ((cI S 16 (za x0)) ||| (nI 1))) 10 (za x0)) x1 (nI 6)).2)) else (if (cI (csI S 16 (za x0) ((cI S 16 (za x0)) ||| (nI 1))) 13 (za x0)) = (cI (csI S 16 (za x0) ((cI S 16 (za x0)) ||| (nI 1))) 10 (za x0)) then (KF_X7_locks_215 N g H T (csI S 16 (za x0) ((cI S 16 (za x0)) ||| (nI 1)))) else (KF_X7_locks_197 N g H T x0 x1 ((k_X4_jot N g H T (csI S 16 (za x0) ((cI S 16 (za x0)) ||| (nI 1))) ((za x0) + 1) (nI 5) (cI (csI S 16 (za x0) ((cI S 16 (za x0)) ||| (nI 1))) 9 (za x0)) (cI (csI S 16 (za x0) ((cI S 16 (za x0)) ||| (nI 1))) 10 (za x0)) x1 (nI 6)).1) (k_X4_jot N g H T (csI S 16 (za x0) ((cI S 16 (za x0)) ||| (nI 1))) ((za x0) + 1) (nI 5) (cI (csI S 16 (za x0) ((cI S 16 (za x0)) ||| (nI 1))) 9 (za x0)) (cI (csI S 16 (za x0) ((cI S 16 (za x0)) ||| (nI 1))) 10 (za x0)) x1 (nI 6)).2))))
def KO_X7_locks_73 (N g H T : Nat) (x0 : Option Nat) (x1 : Option Nat) (s0 : Int32) (S : cS) : Prop := ((s0 = 0 → KO_X7_locks_76 N g H T S) ∧ (¬ s0 = 0 → (¬ x0 = none) ∧ (((cI (csI S 16 (za x0) ((cI S 16 (za x0)) ||| (nI 1))) 11 (za x0)) = (nI 1) → (((cI (csI S 16 (za x0) ((cI S 16 (za x0)) ||| (nI 1))) 12 (za x0)) = (cI (csI S 16 (za x0) ((cI S 16 (za x0)) ||| (nI 1))) 10 (za x0)) → KO_X7_locks_153 N g H T x0 x1 (csI S 16 (za x0) ((cI S 16 (za x0)) ||| (nI 1)))) ∧ (¬ (cI (csI S 16 (za x0) ((cI S 16 (za x0)) ||| (nI 1))) 12 (za x0)) = (cI (csI S 16 (za x0) ((cI S 16 (za x0)) ||| (nI 1))) 10 (za x0)) → (p_X4_jot N g H T (csI S 16 (za x0) ((cI S 16 (za x0)) ||| (nI 1))) ((za x0) + 1) (nI 4) (cI (csI S 16 (za x0) ((cI S 16 (za x0)) ||| (nI 1))) 9 (za x0)) (cI (csI S 16 (za x0) ((cI S 16 (za x0)) ||| (nI 1))) 10 (za x0)) x1 (nI 6)) ∧ KO_X7_locks_126 N g H T x0 x1 ((k_X4_jot N g H T (csI S 16 (za x0) ((cI S 16 (za x0)) ||| (nI 1))) ((za x0) + 1) (nI 4) (cI (csI S 16 (za x0) ((cI S 16 (za x0)) ||| (nI 1))) 9 (za x0)) (cI (csI S 16 (za x0) ((cI S 16 (za x0)) ||| (nI 1))) 10 (za x0)) x1 (nI 6)).1) (k_X4_jot N g H T (csI S 16 (za x0) ((cI S 16 (za x0)) ||| (nI 1))) ((za x0) + 1) (nI 4) (cI (csI S 16 (za x0) ((cI S 16 (za x0)) ||| (nI 1))) 9 (za x0)) (cI (csI S 16 (za x0) ((cI S 16 (za x0)) ||| (nI 1))) 10 (za x0)) x1 (nI 6)).2))) ∧ (¬ (cI (csI S 16 (za x0) ((cI S 16 (za x0)) ||| (nI 1))) 11 (za x0)) = (nI 1) → (((cI (csI S 16 (za x0) ((cI S 16 (za x0)) ||| (nI 1))) 13 (za x0)) = (cI (csI S 16 (za x0) ((cI S 16 (za x0)) ||| (nI 1))) 10 (za x0)) → KO_X7_locks_215 N g H T (csI S 16 (za x0) ((cI S 16 (za x0)) ||| (nI 1)))) ∧ (¬ (cI (csI S 16 (za x0) ((cI S 16 (za x0)) ||| (nI 1))) 13 (za x0)) = (cI (csI S 16 (za x0) ((cI S 16 (za x0)) ||| (nI 1))) 10 (za x0)) → (p_X4_jot N g H T (csI S 16 (za x0) ((cI S 16 (za x0)) ||| (nI 1))) ((za x0) + 1) (nI 5) (cI (csI S 16 (za x0) ((cI S 16 (za x0)) ||| (nI 1))) 9 (za x0)) (cI (csI S 16 (za x0) ((cI S 16 (za x0)) ||| (nI 1))) 10 (za x0)) x1 (nI 6)) ∧ KO_X7_locks_197 N g H T x0 x1 ((k_X4_jot N g H T (csI S 16 (za x0) ((cI S 16 (za x0)) ||| (nI 1))) ((za x0) + 1) (nI 5) (cI (csI S 16 (za x0) ((cI S 16 (za x0)) ||| (nI 1))) 9 (za x0)) (cI (csI S 16 (za x0) ((cI S 16 (za x0)) ||| (nI 1))) 10 (za x0)) x1 (nI 6)).1) (k_X4_jot N g H T (csI S 16 (za x0) ((cI S 16 (za x0)) ||| (nI 1))) ((za x0) + 1) (nI 5) (cI (csI S 16 (za x0) ((cI S 16 (za x0)) ||| (nI 1))) 9 (za x0)) (cI (csI S 16 (za x0) ((cI S 16 (za x0)) ||| (nI 1))) 10 (za x0)) x1 (nI 6)).2))))))
set_option maxRecDepth 100000 in
set_option maxHeartbeats 4000000 in
theorem kb_X7_locks_73 {G : zG} {o : cO} {u g H T N : Nat} {S : cS} {S0 : cS} {Q : Option Value → cS → Prop} {X : Int32 × cS → Prop} (hG : zOK G) (hR : ∀ v S', St u g H T S' → Mono S0 S' → X (v, S') → Q (some (.int v)) S') {x0 : Option Nat} {x1 : Option Nat} {s0 : Int32} (hS : St u g H T S) (hM : Mono S0 S) (t_x0 : tN g H x0) (t_x1 : tK S 5 x1) (ok : KO_X7_locks_73 N g H T x0 x1 s0 S) (hx : X (KF_X7_locks_73 N g H T x0 x1 s0 S)) : cX G o dX7_locks mX7_locks 73 [some (va_rf x0), some (va_rf x1)] [.int s0] S Q := by
  unfold KO_X7_locks_73 at ok
  unfold KF_X7_locks_73 at hx
  refine c_if_ne (tgt := 78) dX7_locks_73 (by decide) (fun c_73 => ?_) (fun c_73 => ?_)
  · have ok := ok.2 c_73
    have hx := xif_n c_73 hx
    refine c_aload_nQ dX7_locks_78 rfl rfl ?_
    refine c_dup dX7_locks_79 (zcat_rf _) ?_
    have nn_80 := ok.1
    refine c_getI (C := RX6) (T := TX6) (N := 19) (ci := 5) (k := 16) ⟨rfl, inT6, by decide, fX7_240⟩ (by decide) (by decide) (by decide) dX7_locks_80 (hS.kN t_x0 ok.1) ?_
    have ok := ok.2
    refine c_iconst (v := nI 1) dX7_locks_83 (by decide) ?_
    refine c_ior dX7_locks_84 ?_
    refine c_putI (C := RX6) (T := TX6) (N := 19) (ci := 5) (k := 16) ⟨rfl, inT6, by decide, fX7_240⟩ ftT6 rfl (by decide) (by decide) (by decide) rfl rfl dX7_locks_85 (hS.kN t_x0 nn_80) ?_
    have hS := hS.I 16 (za x0) ((cI S 16 (za x0)) ||| (nI 1))
    have hM := hM.I 16 (za x0) ((cI S 16 (za x0)) ||| (nI 1))
    refine c_aload_nQ dX7_locks_88 rfl rfl ?_
    refine c_getI (C := RX6) (T := TX6) (N := 19) (ci := 5) (k := 11) ⟨rfl, inT6, by decide, fX7_220⟩ (by decide) (by decide) (by decide) dX7_locks_89 (hS.kN t_x0 nn_80) ?_
    refine c_iconst (v := nI 1) dX7_locks_92 (by decide) ?_
    refine c_icmp_ne (tgt := 167) dX7_locks_93 (by decide) (fun c_93 => ?_) (fun c_93 => ?_)
    · have ok := ok.2 c_93
      have hx := xif_n c_93 hx
      refine c_aload_nQ dX7_locks_167 rfl rfl ?_
      refine c_getI (C := RX6) (T := TX6) (N := 19) (ci := 5) (k := 13) ⟨rfl, inT6, by decide, fX7_254⟩ (by decide) (by decide) (by decide) dX7_locks_168 (hS.kN t_x0 nn_80) ?_
      refine c_aload_nQ dX7_locks_171 rfl rfl ?_
      refine c_getI (C := RX6) (T := TX6) (N := 19) (ci := 5) (k := 10) ⟨rfl, inT6, by decide, fX7_213⟩ (by decide) (by decide) (by decide) dX7_locks_172 (hS.kN t_x0 nn_80) ?_
      refine c_icmp_eq (tgt := 215) dX7_locks_175 (by decide) (fun c_175 => ?_) (fun c_175 => ?_)
      · have ok := ok.1 c_175
        have hx := xif_p c_175 hx
        exact cX.cutz (kb_X7_locks_215 hG hR hS hM  ok hx) trivial
      · have ok := ok.2 c_175
        have hx := xif_n c_175 hx
        refine c_aload_nQ dX7_locks_178 rfl rfl ?_
        refine c_getS (C := RX6) (T := TX6) (N := 19) (ci := 5) (k := 2) ⟨rfl, inT6, by decide, fX7_110⟩ (by decide) (by decide) (by decide) dX7_locks_179 (hS.kN t_x0 nn_80) (hS.r (c := 5) (tN.o t_x0 nn_80) rfl (by omega)) ?_
        refine c_iconst (v := nI 5) dX7_locks_182 (by decide) ?_
        refine c_aload_nQ dX7_locks_183 rfl rfl ?_
        refine c_getI (C := RX6) (T := TX6) (N := 19) (ci := 5) (k := 9) ⟨rfl, inT6, by decide, fX7_18⟩ (by decide) (by decide) (by decide) dX7_locks_184 (hS.kN t_x0 nn_80) ?_
        refine c_aload_nQ dX7_locks_187 rfl rfl ?_
        refine c_getI (C := RX6) (T := TX6) (N := 19) (ci := 5) (k := 10) ⟨rfl, inT6, by decide, fX7_213⟩ (by decide) (by decide) (by decide) dX7_locks_188 (hS.kN t_x0 nn_80) ?_
        refine c_aload_nQ dX7_locks_191 rfl rfl ?_
        refine c_bipush (v := nI 6) dX7_locks_192 (by decide) ?_
        refine c_V5iK (ci := 3) (rr := (RX4, TX4, 10)) (y' := mX4_jot) dX7_locks_194 lX7_243 kX4_jot ⟨by decide, by decide⟩ rfl rfl (by decide) (hS.k (o52 (tN.o t_x0 nn_80))) (Nat.le_of_ble_eq_true rfl) (kc_X4_jot hG hS (o52 (tN.o t_x0 nn_80)) (tK_I t_x1) ok.1) (fun ⟨hS, hm_194⟩ => ?_)
        have hM := hM.trans hm_194
        have ok := ok.2
        exact cX.cutz (kb_X7_locks_197 hG hR hS hM t_x0 (hm_194.tK (tK_I t_x1) (by decide)) ok hx) ⟨rfl, rfl, trivial⟩
    · have ok := ok.1 c_93
      have hx := xif_p c_93 hx
      refine c_aload_nQ dX7_locks_96 rfl rfl ?_
      refine c_getI (C := RX6) (T := TX6) (N := 19) (ci := 5) (k := 12) ⟨rfl, inT6, by decide, fX7_237⟩ (by decide) (by decide) (by decide) dX7_locks_97 (hS.kN t_x0 nn_80) ?_
      refine c_aload_nQ dX7_locks_100 rfl rfl ?_
      refine c_getI (C := RX6) (T := TX6) (N := 19) (ci := 5) (k := 10) ⟨rfl, inT6, by decide, fX7_213⟩ (by decide) (by decide) (by decide) dX7_locks_101 (hS.kN t_x0 nn_80) ?_
      refine c_icmp_eq (tgt := 153) dX7_locks_104 (by decide) (fun c_104 => ?_) (fun c_104 => ?_)
      · have ok := ok.1 c_104
        have hx := xif_p c_104 hx
        exact cX.cutz (kb_X7_locks_153 hG hR hS hM t_x0 (tK_I t_x1) ok hx) ⟨rfl, rfl, trivial⟩
      · have ok := ok.2 c_104
        have hx := xif_n c_104 hx
        refine c_aload_nQ dX7_locks_107 rfl rfl ?_
        refine c_getS (C := RX6) (T := TX6) (N := 19) (ci := 5) (k := 2) ⟨rfl, inT6, by decide, fX7_110⟩ (by decide) (by decide) (by decide) dX7_locks_108 (hS.kN t_x0 nn_80) (hS.r (c := 5) (tN.o t_x0 nn_80) rfl (by omega)) ?_
        refine c_iconst (v := nI 4) dX7_locks_111 (by decide) ?_
        refine c_aload_nQ dX7_locks_112 rfl rfl ?_
        refine c_getI (C := RX6) (T := TX6) (N := 19) (ci := 5) (k := 9) ⟨rfl, inT6, by decide, fX7_18⟩ (by decide) (by decide) (by decide) dX7_locks_113 (hS.kN t_x0 nn_80) ?_
        refine c_aload_nQ dX7_locks_116 rfl rfl ?_
        refine c_getI (C := RX6) (T := TX6) (N := 19) (ci := 5) (k := 10) ⟨rfl, inT6, by decide, fX7_213⟩ (by decide) (by decide) (by decide) dX7_locks_117 (hS.kN t_x0 nn_80) ?_
        refine c_aload_nQ dX7_locks_120 rfl rfl ?_
        refine c_bipush (v := nI 6) dX7_locks_121 (by decide) ?_
        refine c_V5iK (ci := 3) (rr := (RX4, TX4, 10)) (y' := mX4_jot) dX7_locks_123 lX7_243 kX4_jot ⟨by decide, by decide⟩ rfl rfl (by decide) (hS.k (o52 (tN.o t_x0 nn_80))) (Nat.le_of_ble_eq_true rfl) (kc_X4_jot hG hS (o52 (tN.o t_x0 nn_80)) (tK_I t_x1) ok.1) (fun ⟨hS, hm_123⟩ => ?_)
        have hM := hM.trans hm_123
        have ok := ok.2
        exact cX.cutz (kb_X7_locks_126 hG hR hS hM t_x0 (hm_123.tK (tK_I t_x1) (by decide)) ok hx) ⟨rfl, rfl, trivial⟩
  · have ok := ok.1 c_73
    have hx := xif_p c_73 hx
    exact cX.cutz (kb_X7_locks_76 hG hR hS hM  ok hx) trivial
def KF_X7_locks_16 (N g H T : Nat)  (S : cS) : Int32 × cS := ((nI 0), S)
def KO_X7_locks_16 (N g H T : Nat)  (S : cS) : Prop := True
set_option maxRecDepth 100000 in
set_option maxHeartbeats 4000000 in
theorem kb_X7_locks_16 {G : zG} {o : cO} {u g H T N : Nat} {S : cS} {S0 : cS} {Q : Option Value → cS → Prop} {X : Int32 × cS → Prop} (hG : zOK G) (hR : ∀ v S', St u g H T S' → Mono S0 S' → X (v, S') → Q (some (.int v)) S') (hS : St u g H T S) (hM : Mono S0 S) (ok : KO_X7_locks_16 N g H T S) (hx : X (KF_X7_locks_16 N g H T S)) : cX G o dX7_locks mX7_locks 16 [none, none] [] S Q := by
  unfold KO_X7_locks_16 at ok
  unfold KF_X7_locks_16 at hx
  refine c_iconst (v := nI 0) dX7_locks_16 (by decide) ?_
  exact c_ireturn rfl rfl dX7_locks_17 (hR _ _ hS hM hx)
def KF_X7_locks_0 (N g H T : Nat) (x0 : Option Nat) (S : cS) : Int32 × cS := (if (cI S 11 (za x0)) = 0 then (KF_X7_locks_16 N g H T S) else (if ((cI S 16 (za x0)) &&& (nI 1)) = 0 then (if (k_X8_proposal N g H T S ((za x0) + 14) (cI S 9 (za x0)) (cI S 10 (za x0))) = none then (KF_X7_locks_76 N g H T S) else (if (k_X8_votesFor N g H T S ((za x0) + 14) (nI 2) (cI S 9 (za x0)) (cI S 10 (za x0)) (k_X8_proposal N g H T S ((za x0) + 14) (cI S 9 (za x0)) (cI S 10 (za x0)))) < (cI S 3 (g + 8)) then (KF_X7_locks_76 N g H T S) else (KF_X7_locks_73 N g H T x0 (k_X8_proposal N g H T S ((za x0) + 14) (cI S 9 (za x0)) (cI S 10 (za x0))) ((k_X7_approves N g H T S x0 (cI S 10 (za x0))).1) (k_X7_approves N g H T S x0 (cI S 10 (za x0))).2))) else (KF_X7_locks_16 N g H T S)))
def KO_X7_locks_0 (N g H T : Nat) (x0 : Option Nat) (S : cS) : Prop := (¬ x0 = none) ∧ (((cI S 11 (za x0)) = 0 → KO_X7_locks_16 N g H T S) ∧ (¬ (cI S 11 (za x0)) = 0 → ((((cI S 16 (za x0)) &&& (nI 1)) = 0 → (p_X8_proposal N g H T S ((za x0) + 14) (cI S 9 (za x0)) (cI S 10 (za x0))) ∧ (((k_X8_proposal N g H T S ((za x0) + 14) (cI S 9 (za x0)) (cI S 10 (za x0))) = none → KO_X7_locks_76 N g H T S) ∧ (¬ (k_X8_proposal N g H T S ((za x0) + 14) (cI S 9 (za x0)) (cI S 10 (za x0))) = none → (p_X8_votesFor N g H T S ((za x0) + 14) (nI 2) (cI S 9 (za x0)) (cI S 10 (za x0)) (k_X8_proposal N g H T S ((za x0) + 14) (cI S 9 (za x0)) (cI S 10 (za x0)))) ∧ (((k_X8_votesFor N g H T S ((za x0) + 14) (nI 2) (cI S 9 (za x0)) (cI S 10 (za x0)) (k_X8_proposal N g H T S ((za x0) + 14) (cI S 9 (za x0)) (cI S 10 (za x0)))) < (cI S 3 (g + 8)) → KO_X7_locks_76 N g H T S) ∧ (¬ (k_X8_votesFor N g H T S ((za x0) + 14) (nI 2) (cI S 9 (za x0)) (cI S 10 (za x0)) (k_X8_proposal N g H T S ((za x0) + 14) (cI S 9 (za x0)) (cI S 10 (za x0)))) < (cI S 3 (g + 8)) → (p_X7_approves N g H T S x0 (cI S 10 (za x0))) ∧ KO_X7_locks_73 N g H T x0 (k_X8_proposal N g H T S ((za x0) + 14) (cI S 9 (za x0)) (cI S 10 (za x0))) ((k_X7_approves N g H T S x0 (cI S 10 (za x0))).1) (k_X7_approves N g H T S x0 (cI S 10 (za x0))).2))))) ∧ (¬ ((cI S 16 (za x0)) &&& (nI 1)) = 0 → KO_X7_locks_16 N g H T S))))
set_option maxRecDepth 100000 in
set_option maxHeartbeats 4000000 in
theorem kb_X7_locks_0 {G : zG} {o : cO} {u g H T N : Nat} {S : cS} {S0 : cS} {Q : Option Value → cS → Prop} {X : Int32 × cS → Prop} (hG : zOK G) (hR : ∀ v S', St u g H T S' → Mono S0 S' → X (v, S') → Q (some (.int v)) S') {x0 : Option Nat} (hS : St u g H T S) (hM : Mono S0 S) (t_x0 : tN g H x0) (ok : KO_X7_locks_0 N g H T x0 S) (hx : X (KF_X7_locks_0 N g H T x0 S)) : cX G o dX7_locks mX7_locks 0 [some (va_rf x0), none] [] S Q := by
  unfold KO_X7_locks_0 at ok
  unfold KF_X7_locks_0 at hx
  refine c_aload_nQ dX7_locks_0 rfl rfl ?_
  have nn_1 := ok.1
  refine c_getI (C := RX6) (T := TX6) (N := 19) (ci := 5) (k := 11) ⟨rfl, inT6, by decide, fX7_220⟩ (by decide) (by decide) (by decide) dX7_locks_1 (hS.kN t_x0 ok.1) ?_
  have ok := ok.2
  refine c_if_eq (tgt := 16) dX7_locks_4 (by decide) (fun c_4 => ?_) (fun c_4 => ?_)
  · have ok := ok.1 c_4
    have hx := xif_p c_4 hx
    exact cX.cutz (kb_X7_locks_16 hG hR hS hM  ok hx) trivial
  · have ok := ok.2 c_4
    have hx := xif_n c_4 hx
    refine c_aload_nQ dX7_locks_7 rfl rfl ?_
    refine c_getI (C := RX6) (T := TX6) (N := 19) (ci := 5) (k := 16) ⟨rfl, inT6, by decide, fX7_240⟩ (by decide) (by decide) (by decide) dX7_locks_8 (hS.kN t_x0 nn_1) ?_
    refine c_iconst (v := nI 1) dX7_locks_11 (by decide) ?_
    refine c_iand dX7_locks_12 ?_
    refine c_if_eq (tgt := 18) dX7_locks_13 (by decide) (fun c_13 => ?_) (fun c_13 => ?_)
    · have ok := ok.1 c_13
      have hx := xif_p c_13 hx
      refine c_aload_nQ dX7_locks_18 rfl rfl ?_
      refine c_getS (C := RX6) (T := TX6) (N := 19) (ci := 5) (k := 3) ⟨rfl, inT6, by decide, fX7_80⟩ (by decide) (by decide) (by decide) dX7_locks_19 (hS.kN t_x0 nn_1) (hS.r (c := 5) (tN.o t_x0 nn_1) rfl (by omega)) ?_
      refine c_aload_nQ dX7_locks_22 rfl rfl ?_
      refine c_getI (C := RX6) (T := TX6) (N := 19) (ci := 5) (k := 9) ⟨rfl, inT6, by decide, fX7_18⟩ (by decide) (by decide) (by decide) dX7_locks_23 (hS.kN t_x0 nn_1) ?_
      refine c_aload_nQ dX7_locks_26 rfl rfl ?_
      refine c_getI (C := RX6) (T := TX6) (N := 19) (ci := 5) (k := 10) ⟨rfl, inT6, by decide, fX7_213⟩ (by decide) (by decide) (by decide) dX7_locks_27 (hS.kN t_x0 nn_1) ?_
      refine c_V2qK (ci := 6) (rr := (RX8, TX8, 14)) (y' := mX8_proposal) dX7_locks_30 lX7_172 kX8_proposal ⟨by decide, by decide⟩ rfl rfl (by decide) (hS.k (o53 (tN.o t_x0 nn_1))) (Nat.le_of_ble_eq_true rfl) (kc_X8_proposal hG hS (o53 (tN.o t_x0 nn_1)) ok.1) (fun tv_30 => ?_)
      have ok := ok.2
      refine c_astore_1Q dX7_locks_33 (by decide) (by simp [zok, zg, zcat_rf]) ?_
      refine c_aload_nQ dX7_locks_34 rfl rfl ?_
      refine c_ifnullI (tgt := 76) dX7_locks_35 (by decide) (fun c_35 => ?_) (fun c_35 => ?_)
      · have ok := ok.1 c_35
        have hx := xif_p c_35 hx
        exact cX.cutz (kb_X7_locks_76 hG hR hS hM  ok hx) trivial
      · have ok := ok.2 c_35
        have hx := xif_n c_35 hx
        refine c_aload_nQ dX7_locks_38 rfl rfl ?_
        refine c_getS (C := RX6) (T := TX6) (N := 19) (ci := 5) (k := 3) ⟨rfl, inT6, by decide, fX7_80⟩ (by decide) (by decide) (by decide) dX7_locks_39 (hS.kN t_x0 nn_1) (hS.r (c := 5) (tN.o t_x0 nn_1) rfl (by omega)) ?_
        refine c_iconst (v := nI 2) dX7_locks_42 (by decide) ?_
        refine c_aload_nQ dX7_locks_43 rfl rfl ?_
        refine c_getI (C := RX6) (T := TX6) (N := 19) (ci := 5) (k := 9) ⟨rfl, inT6, by decide, fX7_18⟩ (by decide) (by decide) (by decide) dX7_locks_44 (hS.kN t_x0 nn_1) ?_
        refine c_aload_nQ dX7_locks_47 rfl rfl ?_
        refine c_getI (C := RX6) (T := TX6) (N := 19) (ci := 5) (k := 10) ⟨rfl, inT6, by decide, fX7_213⟩ (by decide) (by decide) (by decide) dX7_locks_48 (hS.kN t_x0 nn_1) ?_
        refine c_aload_nQ dX7_locks_51 rfl rfl ?_
        refine c_V4iE (ci := 6) (rr := (RX8, TX8, 14)) (y' := mX8_votesFor) dX7_locks_52 lX7_176 kX8_votesFor ⟨by decide, by decide⟩ rfl rfl (by decide) (hS.k (o53 (tN.o t_x0 nn_1))) (Nat.le_of_ble_eq_true rfl) (kc_X8_votesFor hG hS (o53 (tN.o t_x0 nn_1)) tv_30 ok.1) ?_
        have ok := ok.2
        refine c_aload_nQ dX7_locks_55 rfl rfl ?_
        refine c_getS (C := RX6) (T := TX6) (N := 19) (ci := 5) (k := 0) ⟨rfl, inT6, by decide, fX7_26⟩ (by decide) (by decide) (by decide) dX7_locks_56 (hS.kN t_x0 nn_1) (hS.r (c := 5) (tN.o t_x0 nn_1) rfl (by omega)) ?_
        refine c_getI (C := RX10) (T := TX10) (N := 12) (ci := 8) (k := 3) ⟨rfl, inT10, by decide, fX7_180⟩ (by decide) (by decide) (by decide) dX7_locks_59 (hS.k (o50 (tN.o t_x0 nn_1))) ?_
        refine c_icmp_lt (tgt := 76) dX7_locks_62 (by decide) (fun c_62 => ?_) (fun c_62 => ?_)
        · have ok := ok.1 c_62
          have hx := xif_p c_62 hx
          exact cX.cutz (kb_X7_locks_76 hG hR hS hM  ok hx) trivial
        · have ok := ok.2 c_62
          have hx := xif_n c_62 hx
          refine c_aload_nQ dX7_locks_65 rfl rfl ?_
          refine c_aload_nQ dX7_locks_66 rfl rfl ?_
          refine c_getI (C := RX6) (T := TX6) (N := 19) (ci := 5) (k := 10) ⟨rfl, inT6, by decide, fX7_213⟩ (by decide) (by decide) (by decide) dX7_locks_67 (hS.kN t_x0 nn_1) ?_
          refine c_S2iK (y' := mX7_approves) dX7_locks_70 lX7_183 kX7_approves ⟨by decide, by decide⟩ (Nat.le_of_ble_eq_true rfl) (kc_X7_approves hG hS t_x0 ok.1) (fun ⟨hS, hm_70⟩ => ?_)
          have hM := hM.trans hm_70
          have ok := ok.2
          exact cX.cutz (kb_X7_locks_73 hG hR hS hM t_x0 (hm_70.tK tv_30 (by decide)) ok hx) ⟨rfl, rfl, trivial⟩
    · have ok := ok.2 c_13
      have hx := xif_n c_13 hx
      exact cX.cutz (kb_X7_locks_16 hG hR hS hM  ok hx) trivial
def k_X7_locks (N g H T : Nat) (S : cS) (x0 : Option Nat) : Int32 × cS := KF_X7_locks_0 N g H T x0 S
def p_X7_locks (N g H T : Nat) (S : cS) (x0 : Option Nat) : Prop := KO_X7_locks_0 N g H T x0 S
set_option maxRecDepth 100000 in
set_option maxHeartbeats 4000000 in
theorem kc_X7_locks {G : zG} {o : cO} {u g H T N : Nat} {S : cS} (hG : zOK G) {x0 : Option Nat} (hS : St u g H T S) (t_x0 : tN g H x0) (ok : p_X7_locks N g H T S x0) : cCi G o dX7_locks mX7_locks [va_rf x0] S (fun v S' => (v = (k_X7_locks N g H T S x0).1 ∧ S' = (k_X7_locks N g H T S x0).2) ∧ St u g H T S' ∧ Mono S S') := by
  refine cC.ofX rfl (by cases x0 <;> exact Nat.le_of_ble_eq_true rfl) ?_
  rw [show zargs mX7_locks.2.2.1 [va_rf x0] = [some (va_rf x0), none] from by cases x0 <;> rfl]
  exact cX.cutz (kb_X7_locks_0 (X := fun F => F = k_X7_locks N g H T S x0) hG (fun v S' h1 h2 h => ⟨v, rfl, ⟨by rw [← h], by rw [← h]⟩, h1, h2⟩) hS Mono.rfl' t_x0 ok rfl) ⟨rfl, trivial⟩
/-! X7_precommitsNone -/
def KF_X7_precommitsNone_48 (N g H T : Nat)  (S : cS) : Int32 × cS := ((nI 1), S)
def KO_X7_precommitsNone_48 (N g H T : Nat)  (S : cS) : Prop := True
set_option maxRecDepth 100000 in
set_option maxHeartbeats 4000000 in
theorem kb_X7_precommitsNone_48 {G : zG} {o : cO} {u g H T N : Nat} {S : cS} {S0 : cS} {Q : Option Value → cS → Prop} {X : Int32 × cS → Prop} (hG : zOK G) (hR : ∀ v S', St u g H T S' → Mono S0 S' → X (v, S') → Q (some (.int v)) S') (hS : St u g H T S) (hM : Mono S0 S) (ok : KO_X7_precommitsNone_48 N g H T S) (hx : X (KF_X7_precommitsNone_48 N g H T S)) : cX G o dX7_precommitsNone mX7_precommitsNone 48 [none] [] S Q := by
  unfold KO_X7_precommitsNone_48 at ok
  unfold KF_X7_precommitsNone_48 at hx
  refine c_iconst (v := nI 1) dX7_precommitsNone_48 (by decide) ?_
  exact c_ireturn rfl rfl dX7_precommitsNone_49 (hR _ _ hS hM hx)
def KF_X7_precommitsNone_44 (N g H T : Nat) (s0 : Option Nat) (s1 : Option Nat) (S : cS) : Int32 × cS := (KF_X7_precommitsNone_48 N g H T (k_X7_utter N g H T S s0 s1 (nI 2)))
def KO_X7_precommitsNone_44 (N g H T : Nat) (s0 : Option Nat) (s1 : Option Nat) (S : cS) : Prop := (p_X7_utter N g H T S s0 s1 (nI 2)) ∧ KO_X7_precommitsNone_48 N g H T (k_X7_utter N g H T S s0 s1 (nI 2))
set_option maxRecDepth 100000 in
set_option maxHeartbeats 4000000 in
theorem kb_X7_precommitsNone_44 {G : zG} {o : cO} {u g H T N : Nat} {S : cS} {S0 : cS} {Q : Option Value → cS → Prop} {X : Int32 × cS → Prop} (hG : zOK G) (hR : ∀ v S', St u g H T S' → Mono S0 S' → X (v, S') → Q (some (.int v)) S') {s0 : Option Nat} {s1 : Option Nat} (hS : St u g H T S) (hM : Mono S0 S) (t_s0 : tN g H s0) (t_s1 : tK S 5 s1) (ok : KO_X7_precommitsNone_44 N g H T s0 s1 S) (hx : X (KF_X7_precommitsNone_44 N g H T s0 s1 S)) : cX G o dX7_precommitsNone mX7_precommitsNone 44 [none] [va_rf s1, va_rf s0] S Q := by
  unfold KO_X7_precommitsNone_44 at ok
  unfold KF_X7_precommitsNone_44 at hx
  refine c_iconst (v := nI 2) dX7_precommitsNone_44 (by decide) ?_
  refine c_S3vK (y' := mX7_utter) dX7_precommitsNone_45 lX7_234 kX7_utter ⟨by decide, by decide⟩ (Nat.le_of_ble_eq_true rfl) (kc_X7_utter hG hS t_s0 t_s1 ok.1) (fun ⟨hS, hm_45⟩ => ?_)
  have hM := hM.trans hm_45
  have ok := ok.2
  exact cX.cutz (kb_X7_precommitsNone_48 hG hR hS hM  ok hx) trivial
def KF_X7_precommitsNone_35 (N g H T : Nat)  (S : cS) : Int32 × cS := ((nI 0), S)
def KO_X7_precommitsNone_35 (N g H T : Nat)  (S : cS) : Prop := True
set_option maxRecDepth 100000 in
set_option maxHeartbeats 4000000 in
theorem kb_X7_precommitsNone_35 {G : zG} {o : cO} {u g H T N : Nat} {S : cS} {S0 : cS} {Q : Option Value → cS → Prop} {X : Int32 × cS → Prop} (hG : zOK G) (hR : ∀ v S', St u g H T S' → Mono S0 S' → X (v, S') → Q (some (.int v)) S') (hS : St u g H T S) (hM : Mono S0 S) (ok : KO_X7_precommitsNone_35 N g H T S) (hx : X (KF_X7_precommitsNone_35 N g H T S)) : cX G o dX7_precommitsNone mX7_precommitsNone 35 [none] [] S Q := by
  unfold KO_X7_precommitsNone_35 at ok
  unfold KF_X7_precommitsNone_35 at hx
  refine c_iconst (v := nI 0) dX7_precommitsNone_35 (by decide) ?_
  exact c_ireturn rfl rfl dX7_precommitsNone_36 (hR _ _ hS hM hx)
def KF_X7_precommitsNone_0 (N g H T : Nat) (x0 : Option Nat) (S : cS) : Int32 × cS := (if (cI S 11 (za x0)) = (nI 1) then (if (cI S 3 (g + 8)) ≤ (k_X8_votesFor N g H T S ((za x0) + 14) (nI 2) (cI S 9 (za x0)) (cI S 10 (za x0)) (none : Option Nat)) then (KF_X7_precommitsNone_44 N g H T x0 ((k_X6_vote N g H T S (za x0) (nI 3) (none : Option Nat)).1) (k_X6_vote N g H T S (za x0) (nI 3) (none : Option Nat)).2) else (KF_X7_precommitsNone_35 N g H T S)) else (KF_X7_precommitsNone_35 N g H T S))
def KO_X7_precommitsNone_0 (N g H T : Nat) (x0 : Option Nat) (S : cS) : Prop := (¬ x0 = none) ∧ (((cI S 11 (za x0)) = (nI 1) → (p_X8_votesFor N g H T S ((za x0) + 14) (nI 2) (cI S 9 (za x0)) (cI S 10 (za x0)) (none : Option Nat)) ∧ (((cI S 3 (g + 8)) ≤ (k_X8_votesFor N g H T S ((za x0) + 14) (nI 2) (cI S 9 (za x0)) (cI S 10 (za x0)) (none : Option Nat)) → (p_X6_vote N g H T S (za x0) (nI 3) (none : Option Nat)) ∧ KO_X7_precommitsNone_44 N g H T x0 ((k_X6_vote N g H T S (za x0) (nI 3) (none : Option Nat)).1) (k_X6_vote N g H T S (za x0) (nI 3) (none : Option Nat)).2) ∧ (¬ (cI S 3 (g + 8)) ≤ (k_X8_votesFor N g H T S ((za x0) + 14) (nI 2) (cI S 9 (za x0)) (cI S 10 (za x0)) (none : Option Nat)) → KO_X7_precommitsNone_35 N g H T S))) ∧ (¬ (cI S 11 (za x0)) = (nI 1) → KO_X7_precommitsNone_35 N g H T S))
set_option maxRecDepth 100000 in
set_option maxHeartbeats 4000000 in
theorem kb_X7_precommitsNone_0 {G : zG} {o : cO} {u g H T N : Nat} {S : cS} {S0 : cS} {Q : Option Value → cS → Prop} {X : Int32 × cS → Prop} (hG : zOK G) (hR : ∀ v S', St u g H T S' → Mono S0 S' → X (v, S') → Q (some (.int v)) S') {x0 : Option Nat} (hS : St u g H T S) (hM : Mono S0 S) (t_x0 : tN g H x0) (ok : KO_X7_precommitsNone_0 N g H T x0 S) (hx : X (KF_X7_precommitsNone_0 N g H T x0 S)) : cX G o dX7_precommitsNone mX7_precommitsNone 0 [some (va_rf x0)] [] S Q := by
  unfold KO_X7_precommitsNone_0 at ok
  unfold KF_X7_precommitsNone_0 at hx
  refine c_aload_nQ dX7_precommitsNone_0 rfl rfl ?_
  have nn_1 := ok.1
  refine c_getI (C := RX6) (T := TX6) (N := 19) (ci := 5) (k := 11) ⟨rfl, inT6, by decide, fX7_220⟩ (by decide) (by decide) (by decide) dX7_precommitsNone_1 (hS.kN t_x0 ok.1) ?_
  have ok := ok.2
  refine c_iconst (v := nI 1) dX7_precommitsNone_4 (by decide) ?_
  refine c_icmp_ne (tgt := 35) dX7_precommitsNone_5 (by decide) (fun c_5 => ?_) (fun c_5 => ?_)
  · have ok := ok.2 c_5
    have hx := xif_n c_5 hx
    exact cX.cutz (kb_X7_precommitsNone_35 hG hR hS hM  ok hx) trivial
  · have ok := ok.1 c_5
    have hx := xif_p c_5 hx
    refine c_aload_nQ dX7_precommitsNone_8 rfl rfl ?_
    refine c_getS (C := RX6) (T := TX6) (N := 19) (ci := 5) (k := 3) ⟨rfl, inT6, by decide, fX7_80⟩ (by decide) (by decide) (by decide) dX7_precommitsNone_9 (hS.kN t_x0 nn_1) (hS.r (c := 5) (tN.o t_x0 nn_1) rfl (by omega)) ?_
    refine c_iconst (v := nI 2) dX7_precommitsNone_12 (by decide) ?_
    refine c_aload_nQ dX7_precommitsNone_13 rfl rfl ?_
    refine c_getI (C := RX6) (T := TX6) (N := 19) (ci := 5) (k := 9) ⟨rfl, inT6, by decide, fX7_18⟩ (by decide) (by decide) (by decide) dX7_precommitsNone_14 (hS.kN t_x0 nn_1) ?_
    refine c_aload_nQ dX7_precommitsNone_17 rfl rfl ?_
    refine c_getI (C := RX6) (T := TX6) (N := 19) (ci := 5) (k := 10) ⟨rfl, inT6, by decide, fX7_213⟩ (by decide) (by decide) (by decide) dX7_precommitsNone_18 (hS.kN t_x0 nn_1) ?_
    refine c_null' dX7_precommitsNone_21 ?_
    refine c_V4iE (ci := 6) (rr := (RX8, TX8, 14)) (y' := mX8_votesFor) dX7_precommitsNone_22 lX7_176 kX8_votesFor ⟨by decide, by decide⟩ rfl rfl (by decide) (hS.k (o53 (tN.o t_x0 nn_1))) (Nat.le_of_ble_eq_true rfl) (kc_X8_votesFor hG hS (o53 (tN.o t_x0 nn_1)) tK_none ok.1) ?_
    have ok := ok.2
    refine c_aload_nQ dX7_precommitsNone_25 rfl rfl ?_
    refine c_getS (C := RX6) (T := TX6) (N := 19) (ci := 5) (k := 0) ⟨rfl, inT6, by decide, fX7_26⟩ (by decide) (by decide) (by decide) dX7_precommitsNone_26 (hS.kN t_x0 nn_1) (hS.r (c := 5) (tN.o t_x0 nn_1) rfl (by omega)) ?_
    refine c_getI (C := RX10) (T := TX10) (N := 12) (ci := 8) (k := 3) ⟨rfl, inT10, by decide, fX7_180⟩ (by decide) (by decide) (by decide) dX7_precommitsNone_29 (hS.k (o50 (tN.o t_x0 nn_1))) ?_
    refine c_icmp_ge (tgt := 37) dX7_precommitsNone_32 (by decide) (fun c_32 => ?_) (fun c_32 => ?_)
    · have ok := ok.1 c_32
      have hx := xif_p c_32 hx
      refine c_aload_nQ dX7_precommitsNone_37 rfl rfl ?_
      refine c_aload_nQ dX7_precommitsNone_38 rfl rfl ?_
      refine c_iconst (v := nI 3) dX7_precommitsNone_39 (by decide) ?_
      refine c_null' dX7_precommitsNone_40 ?_
      refine c_V2qK (ci := 5) (rr := (RX6, TX6, 19)) (y' := mX6_vote) dX7_precommitsNone_41 lX7_230 kX6_vote ⟨by decide, by decide⟩ rfl rfl (by decide) (hS.kN t_x0 nn_1) (by simp only [List.map_cons, List.map_nil, List.sum_cons, List.sum_nil, zcat_rf, zcat_i, zcat_l, zcat_r] <;> decide) (kc_X6_vote hG hS (tN.o t_x0 nn_1) tK_none ok.1) (fun ⟨hS, hm_41, tv_41⟩ => ?_)
      have hM := hM.trans hm_41
      have ok := ok.2
      exact cX.cutz (kb_X7_precommitsNone_44 hG hR hS hM t_x0 tv_41 ok hx) trivial
    · have ok := ok.2 c_32
      have hx := xif_n c_32 hx
      exact cX.cutz (kb_X7_precommitsNone_35 hG hR hS hM  ok hx) trivial
def k_X7_precommitsNone (N g H T : Nat) (S : cS) (x0 : Option Nat) : Int32 × cS := KF_X7_precommitsNone_0 N g H T x0 S
def p_X7_precommitsNone (N g H T : Nat) (S : cS) (x0 : Option Nat) : Prop := KO_X7_precommitsNone_0 N g H T x0 S
set_option maxRecDepth 100000 in
set_option maxHeartbeats 4000000 in
theorem kc_X7_precommitsNone {G : zG} {o : cO} {u g H T N : Nat} {S : cS} (hG : zOK G) {x0 : Option Nat} (hS : St u g H T S) (t_x0 : tN g H x0) (ok : p_X7_precommitsNone N g H T S x0) : cCi G o dX7_precommitsNone mX7_precommitsNone [va_rf x0] S (fun v S' => (v = (k_X7_precommitsNone N g H T S x0).1 ∧ S' = (k_X7_precommitsNone N g H T S x0).2) ∧ St u g H T S' ∧ Mono S S') := by
  refine cC.ofX rfl (by cases x0 <;> exact Nat.le_of_ble_eq_true rfl) ?_
  rw [show zargs mX7_precommitsNone.2.2.1 [va_rf x0] = [some (va_rf x0)] from by cases x0 <;> rfl]
  exact cX.cutz (kb_X7_precommitsNone_0 (X := fun F => F = k_X7_precommitsNone N g H T S x0) hG (fun v S' h1 h2 h => ⟨v, rfl, ⟨by rw [← h], by rw [← h]⟩, h1, h2⟩) hS Mono.rfl' t_x0 ok rfl) ⟨rfl, trivial⟩
/-! X8_votesInAll -/
def KF_X8_votesInAll_68 (N g H T : Nat) (x6 : Int32) (S : cS) : Int32 := x6
def KO_X8_votesInAll_68 (N g H T : Nat) (x6 : Int32) (S : cS) : Prop := True
set_option maxRecDepth 100000 in
set_option maxHeartbeats 4000000 in
theorem kb_X8_votesInAll_68 {G : zG} {o : cO} {u g H T N : Nat} {S : cS} {Q : Option Value → cS → Prop} {X : Int32 → Prop} (hG : zOK G) (hR : ∀ v, X v → Q (some (.int v)) S) {x6 : Int32} (hS : St u g H T S) (ok : KO_X8_votesInAll_68 N g H T x6 S) (hx : X (KF_X8_votesInAll_68 N g H T x6 S)) : cX G o dX8_votesInAll mX8_votesInAll 68 [none, none, none, none, none, none, some (.int x6), none] [] S Q := by
  unfold KO_X8_votesInAll_68 at ok
  unfold KF_X8_votesInAll_68 at hx
  refine c_iload dX8_votesInAll_68 rfl ?_
  exact c_ireturn rfl rfl dX8_votesInAll_70 (hR _ hx)
def KF_X8_votesInAll_62 (N g H T : Nat) (rec : Nat → Int32 → Int32 → Int32 → Int32 → Nat × Int32 × Unit) (x0 : Nat) (x4 : Int32) (x5 : Int32) (x6 : Int32) (x7 : Int32) (S : cS) : Nat × Int32 × Unit := (rec x0 x4 x5 x6 (x7 + nI 1))
def KO_X8_votesInAll_62 (N g H T : Nat) (rok : Nat → Int32 → Int32 → Int32 → Int32 → Prop) (x0 : Nat) (x4 : Int32) (x5 : Int32) (x6 : Int32) (x7 : Int32) (S : cS) : Prop := rok x0 x4 x5 x6 (x7 + nI 1)
set_option maxRecDepth 100000 in
set_option maxHeartbeats 4000000 in
theorem kb_X8_votesInAll_62 {G : zG} {o : cO} {u g H T N : Nat} {S : cS} {Q : Option Value → cS → Prop} {X : Nat × Int32 × Unit → Prop} (hG : zOK G) (hX0 : ∀ (x6 : Int32) , X (0, x6, ()) → cX G o dX8_votesInAll mX8_votesInAll 68 [none, none, none, none, none, none, some (.int x6), none] [] S Q) {rec : Nat → Int32 → Int32 → Int32 → Int32 → Nat × Int32 × Unit} {rok : Nat → Int32 → Int32 → Int32 → Int32 → Prop} (hrec : ∀ (x0 : Nat) (x4 : Int32) (x5 : Int32) (x6 : Int32) (x7 : Int32), isO g H 6 x0 → rok x0 x4 x5 x6 x7 → X (rec x0 x4 x5 x6 x7) → cX G o dX8_votesInAll mX8_votesInAll 32 [some (va_rf (some x0)), none, none, none, some (.int x4), some (.int x5), some (.int x6), some (.int x7)] [] S Q) {x0 : Nat} {x4 : Int32} {x5 : Int32} {x6 : Int32} {x7 : Int32} (hS : St u g H T S) (t_x0 : isO g H 6 x0) (ok : KO_X8_votesInAll_62 N g H T rok x0 x4 x5 x6 x7 S) (hx : X (KF_X8_votesInAll_62 N g H T rec x0 x4 x5 x6 x7 S)) : cX G o dX8_votesInAll mX8_votesInAll 62 [some (va_rf (some x0)), none, none, none, some (.int x4), some (.int x5), some (.int x6), some (.int x7)] [] S Q := by
  unfold KO_X8_votesInAll_62 at ok
  unfold KF_X8_votesInAll_62 at hx
  refine c_iinc_7 (v := (x7 + nI 1)) dX8_votesInAll_62 rfl (by first | rfl | (congr 1)) (by decide) rfl ?_
  refine c_goto (tgt := 32) dX8_votesInAll_65 (by decide) ?_
  exact cX.cutz (hrec _ _ _ _ _ t_x0 ok hx) ⟨rfl, rfl, rfl, rfl, rfl, trivial⟩
def KB_X8_votesInAll_32 (N g H T : Nat) (rec : Nat → Int32 → Int32 → Int32 → Int32 → Nat × Int32 × Unit) (x0 : Nat) (x4 : Int32) (x5 : Int32) (x6 : Int32) (x7 : Int32) (S : cS) : Nat × Int32 × Unit := (if (cI S 1 x0) ≤ x7 then (0, x6, ()) else (if x4 < 0 then (0, x6, ()) else (if (cP S (x0 + 5) (x5 + x7).toNatClampNeg) = none then (KF_X8_votesInAll_62 N g H T rec x0 x4 x5 x6 x7 S) else (KF_X8_votesInAll_62 N g H T rec x0 x4 x5 (x6 + nI 1) x7 S))))
def KOB_X8_votesInAll_32 (N g H T : Nat) (rok : Nat → Int32 → Int32 → Int32 → Int32 → Prop) (x0 : Nat) (x4 : Int32) (x5 : Int32) (x6 : Int32) (x7 : Int32) (S : cS) : Prop := (((cI S 1 x0) ≤ x7 → True) ∧ (¬ (cI S 1 x0) ≤ x7 → ((x4 < 0 → True) ∧ (¬ x4 < 0 → (vp_in (x5 + x7) (64 * T)) ∧ (((cP S (x0 + 5) (x5 + x7).toNatClampNeg) = none → KO_X8_votesInAll_62 N g H T rok x0 x4 x5 x6 x7 S) ∧ (¬ (cP S (x0 + 5) (x5 + x7).toNatClampNeg) = none → KO_X8_votesInAll_62 N g H T rok x0 x4 x5 (x6 + nI 1) x7 S))))))
set_option maxRecDepth 100000 in
set_option maxHeartbeats 4000000 in
theorem kbb_X8_votesInAll_32 {G : zG} {o : cO} {u g H T N : Nat} {S : cS} {Q : Option Value → cS → Prop} {X : Nat × Int32 × Unit → Prop} (hG : zOK G) (hX0 : ∀ (x6 : Int32) , X (0, x6, ()) → cX G o dX8_votesInAll mX8_votesInAll 68 [none, none, none, none, none, none, some (.int x6), none] [] S Q) {rec : Nat → Int32 → Int32 → Int32 → Int32 → Nat × Int32 × Unit} {rok : Nat → Int32 → Int32 → Int32 → Int32 → Prop} (hrec : ∀ (x0 : Nat) (x4 : Int32) (x5 : Int32) (x6 : Int32) (x7 : Int32), isO g H 6 x0 → rok x0 x4 x5 x6 x7 → X (rec x0 x4 x5 x6 x7) → cX G o dX8_votesInAll mX8_votesInAll 32 [some (va_rf (some x0)), none, none, none, some (.int x4), some (.int x5), some (.int x6), some (.int x7)] [] S Q) {x0 : Nat} {x4 : Int32} {x5 : Int32} {x6 : Int32} {x7 : Int32} (hS : St u g H T S) (t_x0 : isO g H 6 x0) (ok : KOB_X8_votesInAll_32 N g H T rok x0 x4 x5 x6 x7 S) (hx : X (KB_X8_votesInAll_32 N g H T rec x0 x4 x5 x6 x7 S)) : cX G o dX8_votesInAll mX8_votesInAll 32 [some (va_rf (some x0)), none, none, none, some (.int x4), some (.int x5), some (.int x6), some (.int x7)] [] S Q := by
  unfold KOB_X8_votesInAll_32 at ok
  unfold KB_X8_votesInAll_32 at hx
  refine c_iload dX8_votesInAll_32 rfl ?_
  refine c_aload_nQ dX8_votesInAll_34 rfl rfl ?_
  refine c_getI (C := RX8) (T := TX8) (N := 14) (ci := 6) (k := 1) ⟨rfl, inT8, by decide, fX8_32⟩ (by decide) (by decide) (by decide) dX8_votesInAll_35 (hS.k t_x0) ?_
  refine c_icmp_ge (tgt := 68) dX8_votesInAll_38 (by decide) (fun c_38 => ?_) (fun c_38 => ?_)
  · have ok := ok.1 c_38
    have hx := xif_p c_38 hx
    exact cX.cutz (hX0 _   hx) ⟨rfl, trivial⟩
  · have ok := ok.2 c_38
    have hx := xif_n c_38 hx
    refine c_iload dX8_votesInAll_41 rfl ?_
    refine c_if_lt (tgt := 68) dX8_votesInAll_43 (by decide) (fun c_43 => ?_) (fun c_43 => ?_)
    · have ok := ok.1 c_43
      have hx := xif_p c_43 hx
      exact cX.cutz (hX0 _   hx) ⟨rfl, trivial⟩
    · have ok := ok.2 c_43
      have hx := xif_n c_43 hx
      refine c_aload_nQ dX8_votesInAll_46 rfl rfl ?_
      refine c_getS (C := RX8) (T := TX8) (N := 14) (ci := 6) (k := 4) ⟨rfl, inT8, by decide, fX8_36⟩ (by decide) (by decide) (by decide) dX8_votesInAll_47 (hS.k t_x0) (hS.r (c := 6) t_x0 rfl (by omega)) ?_
      refine c_iload dX8_votesInAll_50 rfl ?_
      refine c_iload dX8_votesInAll_52 rfl ?_
      refine c_iadd dX8_votesInAll_54 ?_
      have p_55 := hS.row24 (hS.rk (c := 6) (k := 4) t_x0 rfl (by omega)) (x5 + x7).toNatClampNeg
      refine c_aald (t := 4) (ty := (.object "QuorumLedger$Message")) rfl rfl (by decide) dX8_votesInAll_55 ⟨(tK.cis (hS.rk (c := 6) (k := 4) t_x0 rfl (by omega)) (Option.some_ne_none _)), (vk_cast (hS.rl (c := 6) (k := 4) t_x0 rfl (by decide) (by omega)) ok.1)⟩ ?_
      have ok := ok.2
      refine c_ifnullI (tgt := 62) dX8_votesInAll_56 (by decide) (fun c_56 => ?_) (fun c_56 => ?_)
      · have ok := ok.1 c_56
        have hx := xif_p c_56 hx
        exact cX.cutz (kb_X8_votesInAll_62 hG hX0 hrec hS t_x0 ok hx) ⟨rfl, rfl, rfl, rfl, rfl, trivial⟩
      · have ok := ok.2 c_56
        have hx := xif_n c_56 hx
        refine c_iinc_6 (v := (x6 + nI 1)) dX8_votesInAll_59 rfl (by first | rfl | (congr 1)) (by decide) rfl ?_
        exact cX.cutz (kb_X8_votesInAll_62 hG hX0 hrec hS t_x0 ok hx) ⟨rfl, rfl, rfl, rfl, rfl, trivial⟩
def KL_X8_votesInAll_32 (N g H T : Nat) : Nat → Nat → Int32 → Int32 → Int32 → Int32 → cS → Nat × Int32 × Unit
  | 0, x0, x4, x5, x6, x7, S => (0, 0, ())
  | n + 1, x0, x4, x5, x6, x7, S => KB_X8_votesInAll_32 N g H T (fun x0 x4 x5 x6 x7 => KL_X8_votesInAll_32 N g H T n x0 x4 x5 x6 x7 S) x0 x4 x5 x6 x7 S
def KOL_X8_votesInAll_32 (N g H T : Nat) : Nat → Nat → Int32 → Int32 → Int32 → Int32 → cS → Prop
  | 0, _, _, _, _, _, _ => False
  | n + 1, x0, x4, x5, x6, x7, S => KOB_X8_votesInAll_32 N g H T (fun x0 x4 x5 x6 x7 => KOL_X8_votesInAll_32 N g H T n x0 x4 x5 x6 x7 S) x0 x4 x5 x6 x7 S
set_option maxRecDepth 100000 in
set_option maxHeartbeats 4000000 in
theorem kl_X8_votesInAll_32 {G : zG} {o : cO} {u g H T N : Nat} {S : cS} {Q : Option Value → cS → Prop} {X : Nat × Int32 × Unit → Prop} (hG : zOK G) (hX0 : ∀ (x6 : Int32) , X (0, x6, ()) → cX G o dX8_votesInAll mX8_votesInAll 68 [none, none, none, none, none, none, some (.int x6), none] [] S Q) (hS : St u g H T S) : ∀ (n : Nat) (x0 : Nat) (x4 : Int32) (x5 : Int32) (x6 : Int32) (x7 : Int32) , isO g H 6 x0 → KOL_X8_votesInAll_32 N g H T n x0 x4 x5 x6 x7 S → X (KL_X8_votesInAll_32 N g H T n x0 x4 x5 x6 x7 S) → cX G o dX8_votesInAll mX8_votesInAll 32 [some (va_rf (some x0)), none, none, none, some (.int x4), some (.int x5), some (.int x6), some (.int x7)] [] S Q := by
  intro n
  induction n with
  | zero => intro x0 x4 x5 x6 x7 t_x0 ok; exact absurd ok id
  | succ n ih =>
    intro x0 x4 x5 x6 x7 t_x0 ok hx
    exact kbb_X8_votesInAll_32 hG hX0 (rec := fun x0 x4 x5 x6 x7 => KL_X8_votesInAll_32 N g H T n x0 x4 x5 x6 x7 S) (rok := fun x0 x4 x5 x6 x7 => KOL_X8_votesInAll_32 N g H T n x0 x4 x5 x6 x7 S) (fun x0 x4 x5 x6 x7 t_x0 ok hx => ih x0 x4 x5 x6 x7 t_x0 ok hx) hS t_x0 ok hx
def KA_X8_votesInAll_32 (N g H T : Nat) (x0 : Nat) (x4 : Int32) (x5 : Int32) (x6 : Int32) (x7 : Int32) (S : cS) (z : Nat × Int32 × Unit) : Int32 := (KF_X8_votesInAll_68 N g H T (z.2.1) S)
def KOA_X8_votesInAll_32 (N g H T : Nat) (x0 : Nat) (x4 : Int32) (x5 : Int32) (x6 : Int32) (x7 : Int32) (S : cS) (z : Nat × Int32 × Unit) : Prop := KO_X8_votesInAll_68 N g H T (z.2.1) S
set_option maxRecDepth 100000 in
set_option maxHeartbeats 4000000 in
theorem kd_X8_votesInAll_32 {G : zG} {o : cO} {u g H T N : Nat} {S : cS} {Q : Option Value → cS → Prop} {X : Int32 → Prop} (hG : zOK G) (hR : ∀ v, X v → Q (some (.int v)) S) {x0 : Nat} {x4 : Int32} {x5 : Int32} {x6 : Int32} {x7 : Int32} (hS : St u g H T S) (t_x0 : isO g H 6 x0) (ok : KOL_X8_votesInAll_32 N g H T N x0 x4 x5 x6 x7 S ∧ KOA_X8_votesInAll_32 N g H T x0 x4 x5 x6 x7 S (KL_X8_votesInAll_32 N g H T N x0 x4 x5 x6 x7 S)) (hx : X (KA_X8_votesInAll_32 N g H T x0 x4 x5 x6 x7 S (KL_X8_votesInAll_32 N g H T N x0 x4 x5 x6 x7 S))) : cX G o dX8_votesInAll mX8_votesInAll 32 [some (va_rf (some x0)), none, none, none, some (.int x4), some (.int x5), some (.int x6), some (.int x7)] [] S Q := by
  refine kl_X8_votesInAll_32 hG ?_ hS N x0 x4 x5 x6 x7 t_x0 ok.1 (X := fun z => KOA_X8_votesInAll_32 N g H T x0 x4 x5 x6 x7 S z ∧ X (KA_X8_votesInAll_32 N g H T x0 x4 x5 x6 x7 S z)) ⟨ok.2, hx⟩
  · intro x6' hz
    obtain ⟨ok, hx⟩ := hz
    unfold KOA_X8_votesInAll_32 at ok
    unfold KA_X8_votesInAll_32 at hx
    exact cX.cutz (kb_X8_votesInAll_68 hG hR hS  ok hx) ⟨rfl, trivial⟩
def KF_X8_votesInAll_24 (N g H T : Nat) (x0 : Nat) (x4 : Int32) (s0 : Int32) (S : cS) : Int32 := (KA_X8_votesInAll_32 N g H T x0 x4 s0 (nI 0) (nI 0) S (KL_X8_votesInAll_32 N g H T N x0 x4 s0 (nI 0) (nI 0) S))
def KO_X8_votesInAll_24 (N g H T : Nat) (x0 : Nat) (x4 : Int32) (s0 : Int32) (S : cS) : Prop := (KOL_X8_votesInAll_32 N g H T N x0 x4 s0 (nI 0) (nI 0) S ∧ KOA_X8_votesInAll_32 N g H T x0 x4 s0 (nI 0) (nI 0) S (KL_X8_votesInAll_32 N g H T N x0 x4 s0 (nI 0) (nI 0) S))
set_option maxRecDepth 100000 in
set_option maxHeartbeats 4000000 in
theorem kb_X8_votesInAll_24 {G : zG} {o : cO} {u g H T N : Nat} {S : cS} {Q : Option Value → cS → Prop} {X : Int32 → Prop} (hG : zOK G) (hR : ∀ v, X v → Q (some (.int v)) S) {x0 : Nat} {x4 : Int32} {s0 : Int32} (hS : St u g H T S) (t_x0 : isO g H 6 x0) (ok : KO_X8_votesInAll_24 N g H T x0 x4 s0 S) (hx : X (KF_X8_votesInAll_24 N g H T x0 x4 s0 S)) : cX G o dX8_votesInAll mX8_votesInAll 24 [some (va_rf (some x0)), none, none, none, some (.int x4), none, none, none] [.int s0] S Q := by
  unfold KO_X8_votesInAll_24 at ok
  unfold KF_X8_votesInAll_24 at hx
  refine c_istore_5 dX8_votesInAll_24 (by decide) rfl ?_
  refine c_iconst (v := nI 0) dX8_votesInAll_26 (by decide) ?_
  refine c_istore_6 dX8_votesInAll_27 (by decide) rfl ?_
  refine c_iconst (v := nI 0) dX8_votesInAll_29 (by decide) ?_
  refine c_istore_7 dX8_votesInAll_30 (by decide) rfl ?_
  exact cX.cutz (kd_X8_votesInAll_32 hG hR hS t_x0 ok hx) ⟨rfl, rfl, rfl, rfl, rfl, trivial⟩
def KF_X8_votesInAll_0 (N g H T : Nat) (x0 : Nat) (x1 : Int32) (x2 : Int32) (x3 : Int32) (S : cS) : Int32 := (if 0 ≤ (k_X8_page N g H T S x0 x2 x3) then (KF_X8_votesInAll_24 N g H T x0 (k_X8_page N g H T S x0 x2 x3) (k_X8_ballots N g H T S x0 (k_X8_page N g H T S x0 x2 x3) x1) S) else (KF_X8_votesInAll_24 N g H T x0 (k_X8_page N g H T S x0 x2 x3) (nI 0) S))
def KO_X8_votesInAll_0 (N g H T : Nat) (x0 : Nat) (x1 : Int32) (x2 : Int32) (x3 : Int32) (S : cS) : Prop := (p_X8_page N g H T S x0 x2 x3) ∧ ((0 ≤ (k_X8_page N g H T S x0 x2 x3) → (p_X8_ballots N g H T S x0 (k_X8_page N g H T S x0 x2 x3) x1) ∧ KO_X8_votesInAll_24 N g H T x0 (k_X8_page N g H T S x0 x2 x3) (k_X8_ballots N g H T S x0 (k_X8_page N g H T S x0 x2 x3) x1) S) ∧ (¬ 0 ≤ (k_X8_page N g H T S x0 x2 x3) → KO_X8_votesInAll_24 N g H T x0 (k_X8_page N g H T S x0 x2 x3) (nI 0) S))
set_option maxRecDepth 100000 in
set_option maxHeartbeats 4000000 in
theorem kb_X8_votesInAll_0 {G : zG} {o : cO} {u g H T N : Nat} {S : cS} {Q : Option Value → cS → Prop} {X : Int32 → Prop} (hG : zOK G) (hR : ∀ v, X v → Q (some (.int v)) S) {x0 : Nat} {x1 : Int32} {x2 : Int32} {x3 : Int32} (hS : St u g H T S) (t_x0 : isO g H 6 x0) (ok : KO_X8_votesInAll_0 N g H T x0 x1 x2 x3 S) (hx : X (KF_X8_votesInAll_0 N g H T x0 x1 x2 x3 S)) : cX G o dX8_votesInAll mX8_votesInAll 0 [some (va_rf (some x0)), some (.int x1), some (.int x2), some (.int x3), none, none, none, none] [] S Q := by
  unfold KO_X8_votesInAll_0 at ok
  unfold KF_X8_votesInAll_0 at hx
  refine c_aload_nQ dX8_votesInAll_0 rfl rfl ?_
  refine c_iload_n dX8_votesInAll_1 rfl rfl ?_
  refine c_iload_n dX8_votesInAll_2 rfl rfl ?_
  refine c_V2iE (ci := 6) (rr := (RX8, TX8, 14)) (y' := mX8_page) dX8_votesInAll_3 lX8_51 kX8_page ⟨by decide, by decide⟩ rfl rfl (by decide) (hS.k t_x0) (Nat.le_of_ble_eq_true rfl) (kc_X8_page hG hS t_x0 ok.1) ?_
  have ok := ok.2
  refine c_istore_4 dX8_votesInAll_6 (by decide) rfl ?_
  refine c_iload dX8_votesInAll_8 rfl ?_
  refine c_if_ge (tgt := 17) dX8_votesInAll_10 (by decide) (fun c_10 => ?_) (fun c_10 => ?_)
  · have ok := ok.1 c_10
    have hx := xif_p c_10 hx
    refine c_aload_nQ dX8_votesInAll_17 rfl rfl ?_
    refine c_iload dX8_votesInAll_18 rfl ?_
    refine c_iload_n dX8_votesInAll_20 rfl rfl ?_
    refine c_V2iE (ci := 6) (rr := (RX8, TX8, 14)) (y' := mX8_ballots) dX8_votesInAll_21 lX8_69 kX8_ballots ⟨by decide, by decide⟩ rfl rfl (by decide) (hS.k t_x0) (Nat.le_of_ble_eq_true rfl) (kc_X8_ballots hG hS t_x0 ok.1) ?_
    have ok := ok.2
    exact cX.cutz (kb_X8_votesInAll_24 hG hR hS t_x0 ok hx) ⟨rfl, rfl, trivial⟩
  · have ok := ok.2 c_10
    have hx := xif_n c_10 hx
    refine c_iconst (v := nI 0) dX8_votesInAll_13 (by decide) ?_
    refine c_goto (tgt := 24) dX8_votesInAll_14 (by decide) ?_
    exact cX.cutz (kb_X8_votesInAll_24 hG hR hS t_x0 ok hx) ⟨rfl, rfl, trivial⟩
def k_X8_votesInAll (N g H T : Nat) (S : cS) (a0 : Nat) (x1 : Int32) (x2 : Int32) (x3 : Int32) : Int32 := KF_X8_votesInAll_0 N g H T a0 x1 x2 x3 S
def p_X8_votesInAll (N g H T : Nat) (S : cS) (a0 : Nat) (x1 : Int32) (x2 : Int32) (x3 : Int32) : Prop := KO_X8_votesInAll_0 N g H T a0 x1 x2 x3 S
set_option maxRecDepth 100000 in
set_option maxHeartbeats 4000000 in
theorem kc_X8_votesInAll {G : zG} {o : cO} {u g H T N : Nat} {S : cS} (hG : zOK G) {a0 : Nat} {x1 : Int32} {x2 : Int32} {x3 : Int32} (hS : St u g H T S) (t_x0 : isO g H 6 a0) (ok : p_X8_votesInAll N g H T S a0 x1 x2 x3) : cCi G o dX8_votesInAll mX8_votesInAll [.ref a0, .int x1, .int x2, .int x3] S (fun v S' => (v = k_X8_votesInAll N g H T S a0 x1 x2 x3 ∧ S' = S)) := by
  refine cC.ofX rfl (by exact Nat.le_of_ble_eq_true rfl) ?_
  show cX G o dX8_votesInAll mX8_votesInAll 0 [some (va_rf (some a0)), some (.int x1), some (.int x2), some (.int x3), none, none, none, none] [] S _
  exact cX.cutz (kb_X8_votesInAll_0 (X := fun F => F = k_X8_votesInAll N g H T S a0 x1 x2 x3) hG (fun v h => ⟨v, rfl, h, rfl⟩) hS t_x0 ok rfl) ⟨rfl, rfl, rfl, rfl, trivial⟩
/-! X7_awaitsPrevotes -/
def KF_X7_awaitsPrevotes_62 (N g H T : Nat)  (S : cS) : Int32 × cS := ((nI 1), S)
def KO_X7_awaitsPrevotes_62 (N g H T : Nat)  (S : cS) : Prop := True
set_option maxRecDepth 100000 in
set_option maxHeartbeats 4000000 in
theorem kb_X7_awaitsPrevotes_62 {G : zG} {o : cO} {u g H T N : Nat} {S : cS} {S0 : cS} {Q : Option Value → cS → Prop} {X : Int32 × cS → Prop} (hG : zOK G) (hR : ∀ v S', St u g H T S' → Mono S0 S' → X (v, S') → Q (some (.int v)) S') (hS : St u g H T S) (hM : Mono S0 S) (ok : KO_X7_awaitsPrevotes_62 N g H T S) (hx : X (KF_X7_awaitsPrevotes_62 N g H T S)) : cX G o dX7_awaitsPrevotes mX7_awaitsPrevotes 62 [none] [] S Q := by
  unfold KO_X7_awaitsPrevotes_62 at ok
  unfold KF_X7_awaitsPrevotes_62 at hx
  refine c_iconst (v := nI 1) dX7_awaitsPrevotes_62 (by decide) ?_
  exact c_ireturn rfl rfl dX7_awaitsPrevotes_63 (hR _ _ hS hM hx)
def KF_X7_awaitsPrevotes_17 (N g H T : Nat)  (S : cS) : Int32 × cS := ((nI 0), S)
def KO_X7_awaitsPrevotes_17 (N g H T : Nat)  (S : cS) : Prop := True
set_option maxRecDepth 100000 in
set_option maxHeartbeats 4000000 in
theorem kb_X7_awaitsPrevotes_17 {G : zG} {o : cO} {u g H T N : Nat} {S : cS} {S0 : cS} {Q : Option Value → cS → Prop} {X : Int32 × cS → Prop} (hG : zOK G) (hR : ∀ v S', St u g H T S' → Mono S0 S' → X (v, S') → Q (some (.int v)) S') (hS : St u g H T S) (hM : Mono S0 S) (ok : KO_X7_awaitsPrevotes_17 N g H T S) (hx : X (KF_X7_awaitsPrevotes_17 N g H T S)) : cX G o dX7_awaitsPrevotes mX7_awaitsPrevotes 17 [none] [] S Q := by
  unfold KO_X7_awaitsPrevotes_17 at ok
  unfold KF_X7_awaitsPrevotes_17 at hx
  refine c_iconst (v := nI 0) dX7_awaitsPrevotes_17 (by decide) ?_
  exact c_ireturn rfl rfl dX7_awaitsPrevotes_18 (hR _ _ hS hM hx)
def KF_X7_awaitsPrevotes_0 (N g H T : Nat) (x0 : Option Nat) (S : cS) : Int32 × cS := (if (cI S 11 (za x0)) = (nI 1) then (if ((cI S 16 (za x0)) &&& (nI 2)) = 0 then (if (cI S 3 (g + 8)) ≤ (k_X8_votesInAll N g H T S ((za x0) + 14) (nI 2) (cI S 9 (za x0)) (cI S 10 (za x0))) then (KF_X7_awaitsPrevotes_62 N g H T (k_X6_setTimer N g H T (csI S 16 (za x0) ((cI S 16 (za x0)) ||| (nI 2))) (za x0) (nI 1))) else ((nI 0), S)) else (KF_X7_awaitsPrevotes_17 N g H T S)) else (KF_X7_awaitsPrevotes_17 N g H T S))
def KO_X7_awaitsPrevotes_0 (N g H T : Nat) (x0 : Option Nat) (S : cS) : Prop := (¬ x0 = none) ∧ (((cI S 11 (za x0)) = (nI 1) → ((((cI S 16 (za x0)) &&& (nI 2)) = 0 → (p_X8_votesInAll N g H T S ((za x0) + 14) (nI 2) (cI S 9 (za x0)) (cI S 10 (za x0))) ∧ (((cI S 3 (g + 8)) ≤ (k_X8_votesInAll N g H T S ((za x0) + 14) (nI 2) (cI S 9 (za x0)) (cI S 10 (za x0))) → (p_X6_setTimer N g H T (csI S 16 (za x0) ((cI S 16 (za x0)) ||| (nI 2))) (za x0) (nI 1)) ∧ KO_X7_awaitsPrevotes_62 N g H T (k_X6_setTimer N g H T (csI S 16 (za x0) ((cI S 16 (za x0)) ||| (nI 2))) (za x0) (nI 1))) ∧ (¬ (cI S 3 (g + 8)) ≤ (k_X8_votesInAll N g H T S ((za x0) + 14) (nI 2) (cI S 9 (za x0)) (cI S 10 (za x0))) → True))) ∧ (¬ ((cI S 16 (za x0)) &&& (nI 2)) = 0 → KO_X7_awaitsPrevotes_17 N g H T S))) ∧ (¬ (cI S 11 (za x0)) = (nI 1) → KO_X7_awaitsPrevotes_17 N g H T S))
set_option maxRecDepth 100000 in
set_option maxHeartbeats 4000000 in
theorem kb_X7_awaitsPrevotes_0 {G : zG} {o : cO} {u g H T N : Nat} {S : cS} {S0 : cS} {Q : Option Value → cS → Prop} {X : Int32 × cS → Prop} (hG : zOK G) (hR : ∀ v S', St u g H T S' → Mono S0 S' → X (v, S') → Q (some (.int v)) S') {x0 : Option Nat} (hS : St u g H T S) (hM : Mono S0 S) (t_x0 : tN g H x0) (ok : KO_X7_awaitsPrevotes_0 N g H T x0 S) (hx : X (KF_X7_awaitsPrevotes_0 N g H T x0 S)) : cX G o dX7_awaitsPrevotes mX7_awaitsPrevotes 0 [some (va_rf x0)] [] S Q := by
  unfold KO_X7_awaitsPrevotes_0 at ok
  unfold KF_X7_awaitsPrevotes_0 at hx
  refine c_aload_nQ dX7_awaitsPrevotes_0 rfl rfl ?_
  have nn_1 := ok.1
  refine c_getI (C := RX6) (T := TX6) (N := 19) (ci := 5) (k := 11) ⟨rfl, inT6, by decide, fX7_220⟩ (by decide) (by decide) (by decide) dX7_awaitsPrevotes_1 (hS.kN t_x0 ok.1) ?_
  have ok := ok.2
  refine c_iconst (v := nI 1) dX7_awaitsPrevotes_4 (by decide) ?_
  refine c_icmp_ne (tgt := 17) dX7_awaitsPrevotes_5 (by decide) (fun c_5 => ?_) (fun c_5 => ?_)
  · have ok := ok.2 c_5
    have hx := xif_n c_5 hx
    exact cX.cutz (kb_X7_awaitsPrevotes_17 hG hR hS hM  ok hx) trivial
  · have ok := ok.1 c_5
    have hx := xif_p c_5 hx
    refine c_aload_nQ dX7_awaitsPrevotes_8 rfl rfl ?_
    refine c_getI (C := RX6) (T := TX6) (N := 19) (ci := 5) (k := 16) ⟨rfl, inT6, by decide, fX7_240⟩ (by decide) (by decide) (by decide) dX7_awaitsPrevotes_9 (hS.kN t_x0 nn_1) ?_
    refine c_iconst (v := nI 2) dX7_awaitsPrevotes_12 (by decide) ?_
    refine c_iand dX7_awaitsPrevotes_13 ?_
    refine c_if_eq (tgt := 19) dX7_awaitsPrevotes_14 (by decide) (fun c_14 => ?_) (fun c_14 => ?_)
    · have ok := ok.1 c_14
      have hx := xif_p c_14 hx
      refine c_aload_nQ dX7_awaitsPrevotes_19 rfl rfl ?_
      refine c_getS (C := RX6) (T := TX6) (N := 19) (ci := 5) (k := 3) ⟨rfl, inT6, by decide, fX7_80⟩ (by decide) (by decide) (by decide) dX7_awaitsPrevotes_20 (hS.kN t_x0 nn_1) (hS.r (c := 5) (tN.o t_x0 nn_1) rfl (by omega)) ?_
      refine c_iconst (v := nI 2) dX7_awaitsPrevotes_23 (by decide) ?_
      refine c_aload_nQ dX7_awaitsPrevotes_24 rfl rfl ?_
      refine c_getI (C := RX6) (T := TX6) (N := 19) (ci := 5) (k := 9) ⟨rfl, inT6, by decide, fX7_18⟩ (by decide) (by decide) (by decide) dX7_awaitsPrevotes_25 (hS.kN t_x0 nn_1) ?_
      refine c_aload_nQ dX7_awaitsPrevotes_28 rfl rfl ?_
      refine c_getI (C := RX6) (T := TX6) (N := 19) (ci := 5) (k := 10) ⟨rfl, inT6, by decide, fX7_213⟩ (by decide) (by decide) (by decide) dX7_awaitsPrevotes_29 (hS.kN t_x0 nn_1) ?_
      refine c_V3iE (ci := 6) (rr := (RX8, TX8, 14)) (y' := mX8_votesInAll) dX7_awaitsPrevotes_32 lX7_257 kX8_votesInAll ⟨by decide, by decide⟩ rfl rfl (by decide) (hS.k (o53 (tN.o t_x0 nn_1))) (Nat.le_of_ble_eq_true rfl) (kc_X8_votesInAll hG hS (o53 (tN.o t_x0 nn_1)) ok.1) ?_
      have ok := ok.2
      refine c_aload_nQ dX7_awaitsPrevotes_35 rfl rfl ?_
      refine c_getS (C := RX6) (T := TX6) (N := 19) (ci := 5) (k := 0) ⟨rfl, inT6, by decide, fX7_26⟩ (by decide) (by decide) (by decide) dX7_awaitsPrevotes_36 (hS.kN t_x0 nn_1) (hS.r (c := 5) (tN.o t_x0 nn_1) rfl (by omega)) ?_
      refine c_getI (C := RX10) (T := TX10) (N := 12) (ci := 8) (k := 3) ⟨rfl, inT10, by decide, fX7_180⟩ (by decide) (by decide) (by decide) dX7_awaitsPrevotes_39 (hS.k (o50 (tN.o t_x0 nn_1))) ?_
      refine c_icmp_ge (tgt := 47) dX7_awaitsPrevotes_42 (by decide) (fun c_42 => ?_) (fun c_42 => ?_)
      · have ok := ok.1 c_42
        have hx := xif_p c_42 hx
        refine c_aload_nQ dX7_awaitsPrevotes_47 rfl rfl ?_
        refine c_dup dX7_awaitsPrevotes_48 (zcat_rf _) ?_
        refine c_getI (C := RX6) (T := TX6) (N := 19) (ci := 5) (k := 16) ⟨rfl, inT6, by decide, fX7_240⟩ (by decide) (by decide) (by decide) dX7_awaitsPrevotes_49 (hS.kN t_x0 nn_1) ?_
        refine c_iconst (v := nI 2) dX7_awaitsPrevotes_52 (by decide) ?_
        refine c_ior dX7_awaitsPrevotes_53 ?_
        refine c_putI (C := RX6) (T := TX6) (N := 19) (ci := 5) (k := 16) ⟨rfl, inT6, by decide, fX7_240⟩ ftT6 rfl (by decide) (by decide) (by decide) rfl rfl dX7_awaitsPrevotes_54 (hS.kN t_x0 nn_1) ?_
        have hS := hS.I 16 (za x0) ((cI S 16 (za x0)) ||| (nI 2))
        have hM := hM.I 16 (za x0) ((cI S 16 (za x0)) ||| (nI 2))
        refine c_aload_nQ dX7_awaitsPrevotes_57 rfl rfl ?_
        refine c_iconst (v := nI 1) dX7_awaitsPrevotes_58 (by decide) ?_
        refine c_V1vK (ci := 5) (rr := (RX6, TX6, 19)) (y' := mX6_setTimer) dX7_awaitsPrevotes_59 lX7_261 kX6_setTimer ⟨by decide, by decide⟩ rfl rfl (by decide) (hS.kN t_x0 nn_1) (Nat.le_of_ble_eq_true rfl) (kc_X6_setTimer hG hS (tN.o t_x0 nn_1) ok.1) (fun ⟨hS, hm_59⟩ => ?_)
        have hM := hM.trans hm_59
        have ok := ok.2
        exact cX.cutz (kb_X7_awaitsPrevotes_62 hG hR hS hM  ok hx) trivial
      · have ok := ok.2 c_42
        have hx := xif_n c_42 hx
        refine c_iconst (v := nI 0) dX7_awaitsPrevotes_45 (by decide) ?_
        exact c_ireturn rfl rfl dX7_awaitsPrevotes_46 (hR _ _ hS hM hx)
    · have ok := ok.2 c_14
      have hx := xif_n c_14 hx
      exact cX.cutz (kb_X7_awaitsPrevotes_17 hG hR hS hM  ok hx) trivial
def k_X7_awaitsPrevotes (N g H T : Nat) (S : cS) (x0 : Option Nat) : Int32 × cS := KF_X7_awaitsPrevotes_0 N g H T x0 S
def p_X7_awaitsPrevotes (N g H T : Nat) (S : cS) (x0 : Option Nat) : Prop := KO_X7_awaitsPrevotes_0 N g H T x0 S
set_option maxRecDepth 100000 in
set_option maxHeartbeats 4000000 in
theorem kc_X7_awaitsPrevotes {G : zG} {o : cO} {u g H T N : Nat} {S : cS} (hG : zOK G) {x0 : Option Nat} (hS : St u g H T S) (t_x0 : tN g H x0) (ok : p_X7_awaitsPrevotes N g H T S x0) : cCi G o dX7_awaitsPrevotes mX7_awaitsPrevotes [va_rf x0] S (fun v S' => (v = (k_X7_awaitsPrevotes N g H T S x0).1 ∧ S' = (k_X7_awaitsPrevotes N g H T S x0).2) ∧ St u g H T S' ∧ Mono S S') := by
  refine cC.ofX rfl (by cases x0 <;> exact Nat.le_of_ble_eq_true rfl) ?_
  rw [show zargs mX7_awaitsPrevotes.2.2.1 [va_rf x0] = [some (va_rf x0)] from by cases x0 <;> rfl]
  exact cX.cutz (kb_X7_awaitsPrevotes_0 (X := fun F => F = k_X7_awaitsPrevotes N g H T S x0) hG (fun v S' h1 h2 h => ⟨v, rfl, ⟨by rw [← h], by rw [← h]⟩, h1, h2⟩) hS Mono.rfl' t_x0 ok rfl) ⟨rfl, trivial⟩
/-! X7_awaitsPrecommits -/
def KF_X7_awaitsPrecommits_54 (N g H T : Nat)  (S : cS) : Int32 × cS := ((nI 1), S)
def KO_X7_awaitsPrecommits_54 (N g H T : Nat)  (S : cS) : Prop := True
set_option maxRecDepth 100000 in
set_option maxHeartbeats 4000000 in
theorem kb_X7_awaitsPrecommits_54 {G : zG} {o : cO} {u g H T N : Nat} {S : cS} {S0 : cS} {Q : Option Value → cS → Prop} {X : Int32 × cS → Prop} (hG : zOK G) (hR : ∀ v S', St u g H T S' → Mono S0 S' → X (v, S') → Q (some (.int v)) S') (hS : St u g H T S) (hM : Mono S0 S) (ok : KO_X7_awaitsPrecommits_54 N g H T S) (hx : X (KF_X7_awaitsPrecommits_54 N g H T S)) : cX G o dX7_awaitsPrecommits mX7_awaitsPrecommits 54 [none] [] S Q := by
  unfold KO_X7_awaitsPrecommits_54 at ok
  unfold KF_X7_awaitsPrecommits_54 at hx
  refine c_iconst (v := nI 1) dX7_awaitsPrecommits_54 (by decide) ?_
  exact c_ireturn rfl rfl dX7_awaitsPrecommits_55 (hR _ _ hS hM hx)
def KF_X7_awaitsPrecommits_0 (N g H T : Nat) (x0 : Option Nat) (S : cS) : Int32 × cS := (if ((cI S 16 (za x0)) &&& (nI 4)) = 0 then (if (cI S 3 (g + 8)) ≤ (k_X8_votesInAll N g H T S ((za x0) + 14) (nI 3) (cI S 9 (za x0)) (cI S 10 (za x0))) then (KF_X7_awaitsPrecommits_54 N g H T (k_X6_setTimer N g H T (csI S 16 (za x0) ((cI S 16 (za x0)) ||| (nI 4))) (za x0) (nI 2))) else ((nI 0), S)) else ((nI 0), S))
def KO_X7_awaitsPrecommits_0 (N g H T : Nat) (x0 : Option Nat) (S : cS) : Prop := (¬ x0 = none) ∧ ((((cI S 16 (za x0)) &&& (nI 4)) = 0 → (p_X8_votesInAll N g H T S ((za x0) + 14) (nI 3) (cI S 9 (za x0)) (cI S 10 (za x0))) ∧ (((cI S 3 (g + 8)) ≤ (k_X8_votesInAll N g H T S ((za x0) + 14) (nI 3) (cI S 9 (za x0)) (cI S 10 (za x0))) → (p_X6_setTimer N g H T (csI S 16 (za x0) ((cI S 16 (za x0)) ||| (nI 4))) (za x0) (nI 2)) ∧ KO_X7_awaitsPrecommits_54 N g H T (k_X6_setTimer N g H T (csI S 16 (za x0) ((cI S 16 (za x0)) ||| (nI 4))) (za x0) (nI 2))) ∧ (¬ (cI S 3 (g + 8)) ≤ (k_X8_votesInAll N g H T S ((za x0) + 14) (nI 3) (cI S 9 (za x0)) (cI S 10 (za x0))) → True))) ∧ (¬ ((cI S 16 (za x0)) &&& (nI 4)) = 0 → True))
set_option maxRecDepth 100000 in
set_option maxHeartbeats 4000000 in
theorem kb_X7_awaitsPrecommits_0 {G : zG} {o : cO} {u g H T N : Nat} {S : cS} {S0 : cS} {Q : Option Value → cS → Prop} {X : Int32 × cS → Prop} (hG : zOK G) (hR : ∀ v S', St u g H T S' → Mono S0 S' → X (v, S') → Q (some (.int v)) S') {x0 : Option Nat} (hS : St u g H T S) (hM : Mono S0 S) (t_x0 : tN g H x0) (ok : KO_X7_awaitsPrecommits_0 N g H T x0 S) (hx : X (KF_X7_awaitsPrecommits_0 N g H T x0 S)) : cX G o dX7_awaitsPrecommits mX7_awaitsPrecommits 0 [some (va_rf x0)] [] S Q := by
  unfold KO_X7_awaitsPrecommits_0 at ok
  unfold KF_X7_awaitsPrecommits_0 at hx
  refine c_aload_nQ dX7_awaitsPrecommits_0 rfl rfl ?_
  have nn_1 := ok.1
  refine c_getI (C := RX6) (T := TX6) (N := 19) (ci := 5) (k := 16) ⟨rfl, inT6, by decide, fX7_240⟩ (by decide) (by decide) (by decide) dX7_awaitsPrecommits_1 (hS.kN t_x0 ok.1) ?_
  have ok := ok.2
  refine c_iconst (v := nI 4) dX7_awaitsPrecommits_4 (by decide) ?_
  refine c_iand dX7_awaitsPrecommits_5 ?_
  refine c_if_eq (tgt := 11) dX7_awaitsPrecommits_6 (by decide) (fun c_6 => ?_) (fun c_6 => ?_)
  · have ok := ok.1 c_6
    have hx := xif_p c_6 hx
    refine c_aload_nQ dX7_awaitsPrecommits_11 rfl rfl ?_
    refine c_getS (C := RX6) (T := TX6) (N := 19) (ci := 5) (k := 3) ⟨rfl, inT6, by decide, fX7_80⟩ (by decide) (by decide) (by decide) dX7_awaitsPrecommits_12 (hS.kN t_x0 nn_1) (hS.r (c := 5) (tN.o t_x0 nn_1) rfl (by omega)) ?_
    refine c_iconst (v := nI 3) dX7_awaitsPrecommits_15 (by decide) ?_
    refine c_aload_nQ dX7_awaitsPrecommits_16 rfl rfl ?_
    refine c_getI (C := RX6) (T := TX6) (N := 19) (ci := 5) (k := 9) ⟨rfl, inT6, by decide, fX7_18⟩ (by decide) (by decide) (by decide) dX7_awaitsPrecommits_17 (hS.kN t_x0 nn_1) ?_
    refine c_aload_nQ dX7_awaitsPrecommits_20 rfl rfl ?_
    refine c_getI (C := RX6) (T := TX6) (N := 19) (ci := 5) (k := 10) ⟨rfl, inT6, by decide, fX7_213⟩ (by decide) (by decide) (by decide) dX7_awaitsPrecommits_21 (hS.kN t_x0 nn_1) ?_
    refine c_V3iE (ci := 6) (rr := (RX8, TX8, 14)) (y' := mX8_votesInAll) dX7_awaitsPrecommits_24 lX7_257 kX8_votesInAll ⟨by decide, by decide⟩ rfl rfl (by decide) (hS.k (o53 (tN.o t_x0 nn_1))) (Nat.le_of_ble_eq_true rfl) (kc_X8_votesInAll hG hS (o53 (tN.o t_x0 nn_1)) ok.1) ?_
    have ok := ok.2
    refine c_aload_nQ dX7_awaitsPrecommits_27 rfl rfl ?_
    refine c_getS (C := RX6) (T := TX6) (N := 19) (ci := 5) (k := 0) ⟨rfl, inT6, by decide, fX7_26⟩ (by decide) (by decide) (by decide) dX7_awaitsPrecommits_28 (hS.kN t_x0 nn_1) (hS.r (c := 5) (tN.o t_x0 nn_1) rfl (by omega)) ?_
    refine c_getI (C := RX10) (T := TX10) (N := 12) (ci := 8) (k := 3) ⟨rfl, inT10, by decide, fX7_180⟩ (by decide) (by decide) (by decide) dX7_awaitsPrecommits_31 (hS.k (o50 (tN.o t_x0 nn_1))) ?_
    refine c_icmp_ge (tgt := 39) dX7_awaitsPrecommits_34 (by decide) (fun c_34 => ?_) (fun c_34 => ?_)
    · have ok := ok.1 c_34
      have hx := xif_p c_34 hx
      refine c_aload_nQ dX7_awaitsPrecommits_39 rfl rfl ?_
      refine c_dup dX7_awaitsPrecommits_40 (zcat_rf _) ?_
      refine c_getI (C := RX6) (T := TX6) (N := 19) (ci := 5) (k := 16) ⟨rfl, inT6, by decide, fX7_240⟩ (by decide) (by decide) (by decide) dX7_awaitsPrecommits_41 (hS.kN t_x0 nn_1) ?_
      refine c_iconst (v := nI 4) dX7_awaitsPrecommits_44 (by decide) ?_
      refine c_ior dX7_awaitsPrecommits_45 ?_
      refine c_putI (C := RX6) (T := TX6) (N := 19) (ci := 5) (k := 16) ⟨rfl, inT6, by decide, fX7_240⟩ ftT6 rfl (by decide) (by decide) (by decide) rfl rfl dX7_awaitsPrecommits_46 (hS.kN t_x0 nn_1) ?_
      have hS := hS.I 16 (za x0) ((cI S 16 (za x0)) ||| (nI 4))
      have hM := hM.I 16 (za x0) ((cI S 16 (za x0)) ||| (nI 4))
      refine c_aload_nQ dX7_awaitsPrecommits_49 rfl rfl ?_
      refine c_iconst (v := nI 2) dX7_awaitsPrecommits_50 (by decide) ?_
      refine c_V1vK (ci := 5) (rr := (RX6, TX6, 19)) (y' := mX6_setTimer) dX7_awaitsPrecommits_51 lX7_261 kX6_setTimer ⟨by decide, by decide⟩ rfl rfl (by decide) (hS.kN t_x0 nn_1) (Nat.le_of_ble_eq_true rfl) (kc_X6_setTimer hG hS (tN.o t_x0 nn_1) ok.1) (fun ⟨hS, hm_51⟩ => ?_)
      have hM := hM.trans hm_51
      have ok := ok.2
      exact cX.cutz (kb_X7_awaitsPrecommits_54 hG hR hS hM  ok hx) trivial
    · have ok := ok.2 c_34
      have hx := xif_n c_34 hx
      refine c_iconst (v := nI 0) dX7_awaitsPrecommits_37 (by decide) ?_
      exact c_ireturn rfl rfl dX7_awaitsPrecommits_38 (hR _ _ hS hM hx)
  · have ok := ok.2 c_6
    have hx := xif_n c_6 hx
    refine c_iconst (v := nI 0) dX7_awaitsPrecommits_9 (by decide) ?_
    exact c_ireturn rfl rfl dX7_awaitsPrecommits_10 (hR _ _ hS hM hx)
def k_X7_awaitsPrecommits (N g H T : Nat) (S : cS) (x0 : Option Nat) : Int32 × cS := KF_X7_awaitsPrecommits_0 N g H T x0 S
def p_X7_awaitsPrecommits (N g H T : Nat) (S : cS) (x0 : Option Nat) : Prop := KO_X7_awaitsPrecommits_0 N g H T x0 S
set_option maxRecDepth 100000 in
set_option maxHeartbeats 4000000 in
theorem kc_X7_awaitsPrecommits {G : zG} {o : cO} {u g H T N : Nat} {S : cS} (hG : zOK G) {x0 : Option Nat} (hS : St u g H T S) (t_x0 : tN g H x0) (ok : p_X7_awaitsPrecommits N g H T S x0) : cCi G o dX7_awaitsPrecommits mX7_awaitsPrecommits [va_rf x0] S (fun v S' => (v = (k_X7_awaitsPrecommits N g H T S x0).1 ∧ S' = (k_X7_awaitsPrecommits N g H T S x0).2) ∧ St u g H T S' ∧ Mono S S') := by
  refine cC.ofX rfl (by cases x0 <;> exact Nat.le_of_ble_eq_true rfl) ?_
  rw [show zargs mX7_awaitsPrecommits.2.2.1 [va_rf x0] = [some (va_rf x0)] from by cases x0 <;> rfl]
  exact cX.cutz (kb_X7_awaitsPrecommits_0 (X := fun F => F = k_X7_awaitsPrecommits N g H T S x0) hG (fun v S' h1 h2 h => ⟨v, rfl, ⟨by rw [← h], by rw [← h]⟩, h1, h2⟩) hS Mono.rfl' t_x0 ok rfl) ⟨rfl, trivial⟩

/-! X11_path -/
def F_X11_path_116 (N : Nat) (x4 : Int32) (s0 : Option Nat) (s1 : Int32) (S : cS) : Int64 × cS := ((f_X11_eight N S s0 s1 x4), S)
def O_X11_path_116 (N : Nat) (x4 : Int32) (s0 : Option Nat) (s1 : Int32) (S : cS) : Prop := (o_X11_eight N S s0 s1 x4) ∧ True
set_option maxRecDepth 100000 in
set_option maxHeartbeats 4000000 in
theorem b_X11_path_116 {G : zG} {o : cO} {S : cS} {N : Nat} {Q : Option Value → cS → Prop} {X : Int64 × cS → Prop} (hG : zOK G) (hR : ∀ v S', X (v, S') → Q (some (.long v)) S') {x4 : Int32} {s0 : Option Nat} {s1 : Int32} (ok : O_X11_path_116 N x4 s0 s1 S) (hx : X (F_X11_path_116 N x4 s0 s1 S)) : cX G o dX11_path mX11_path 116 [none, none, none, none, some (.int x4), none] [.int s1, va_rf s0] S Q := by
  unfold O_X11_path_116 at ok
  unfold F_X11_path_116 at hx
  refine c_iload dX11_path_116 rfl ?_
  refine c_S3lE (y' := mX11_eight) dX11_path_118 lX11_153 kX11_eight ⟨by decide, by decide⟩ (Nat.le_of_ble_eq_true rfl) (cc_X11_eight hG ok.1) ?_
  have ok := ok.2
  exact c_lreturn rfl dX11_path_121 (hR _ _ hx)
def F_X11_path_78 (N : Nat) (x0 : Option Nat) (x3 : Int32) (x4 : Int32) (S : cS) : Int64 × cS := (if x3 < (cI S 5 (za (cR S 5 (za (cR S 0 (za x0)))))) then (F_X11_path_116 N x4 (cR S 2 (za x0)) ((f_X2_climb N S (za (cR S 5 (za (cR S 0 (za x0))))) x3 (cR S 2 (za x0)) (nI 0)).1) (f_X2_climb N S (za (cR S 5 (za (cR S 0 (za x0))))) x3 (cR S 2 (za x0)) (nI 0)).2) else ((-1 : Int64), S))
def O_X11_path_78 (N : Nat) (x0 : Option Nat) (x3 : Int32) (x4 : Int32) (S : cS) : Prop := (cis S x0 10) ∧ (cis S (cR S 0 (za x0)) 9) ∧ (cis S (cR S 5 (za (cR S 0 (za x0)))) 3) ∧ ((x3 < (cI S 5 (za (cR S 5 (za (cR S 0 (za x0)))))) → (cis S x0 10) ∧ (cis S x0 10) ∧ (cis S (cR S 0 (za x0)) 9) ∧ (cis S x0 10) ∧ (cis S (cR S 5 (za (cR S 0 (za x0)))) 3 ∧ o_X2_climb N S (za (cR S 5 (za (cR S 0 (za x0))))) x3 (cR S 2 (za x0)) (nI 0)) ∧ O_X11_path_116 N x4 (cR S 2 (za x0)) ((f_X2_climb N S (za (cR S 5 (za (cR S 0 (za x0))))) x3 (cR S 2 (za x0)) (nI 0)).1) (f_X2_climb N S (za (cR S 5 (za (cR S 0 (za x0))))) x3 (cR S 2 (za x0)) (nI 0)).2) ∧ (¬ x3 < (cI S 5 (za (cR S 5 (za (cR S 0 (za x0)))))) → True))
set_option maxRecDepth 100000 in
set_option maxHeartbeats 4000000 in
theorem b_X11_path_78 {G : zG} {o : cO} {S : cS} {N : Nat} {Q : Option Value → cS → Prop} {X : Int64 × cS → Prop} (hG : zOK G) (hR : ∀ v S', X (v, S') → Q (some (.long v)) S') {x0 : Option Nat} {x3 : Int32} {x4 : Int32} (ok : O_X11_path_78 N x0 x3 x4 S) (hx : X (F_X11_path_78 N x0 x3 x4 S)) : cX G o dX11_path mX11_path 78 [some (va_rf x0), none, none, some (.int x3), some (.int x4), none] [] S Q := by
  unfold O_X11_path_78 at ok
  unfold F_X11_path_78 at hx
  refine c_iload_n dX11_path_78 rfl rfl ?_
  refine c_aload_nQ dX11_path_79 rfl rfl ?_
  refine c_getR (C := RX11) (T := TX11) (N := 4) (ci := 9) (k := 0) ⟨rfl, inT11, by decide, fX11_22⟩ (by decide) (by decide) (by decide) dX11_path_80 ok.1 ?_
  have ok := ok.2
  refine c_getR (C := RX10) (T := TX10) (N := 12) (ci := 8) (k := 5) ⟨rfl, inT10, by decide, fX11_103⟩ (by decide) (by decide) (by decide) dX11_path_83 ok.1 ?_
  have ok := ok.2
  refine c_getI (C := RX2) (T := TX2) (N := 6) (ci := 2) (k := 5) ⟨rfl, inT2, by decide, fX11_275⟩ (by decide) (by decide) (by decide) dX11_path_86 ok.1 ?_
  have ok := ok.2
  refine c_icmp_lt (tgt := 96) dX11_path_89 (by decide) (fun c_89 => ?_) (fun c_89 => ?_)
  · have ok := ok.1 c_89
    have hx := xif_p c_89 hx
    refine c_aload_nQ dX11_path_96 rfl rfl ?_
    refine c_getR (C := RX11) (T := TX11) (N := 4) (ci := 9) (k := 2) ⟨rfl, inT11, by decide, fX11_13⟩ (by decide) (by decide) (by decide) dX11_path_97 ok.1 ?_
    have ok := ok.2
    refine c_aload_nQ dX11_path_100 rfl rfl ?_
    refine c_getR (C := RX11) (T := TX11) (N := 4) (ci := 9) (k := 0) ⟨rfl, inT11, by decide, fX11_22⟩ (by decide) (by decide) (by decide) dX11_path_101 ok.1 ?_
    have ok := ok.2
    refine c_getR (C := RX10) (T := TX10) (N := 12) (ci := 8) (k := 5) ⟨rfl, inT10, by decide, fX11_103⟩ (by decide) (by decide) (by decide) dX11_path_104 ok.1 ?_
    have ok := ok.2
    refine c_iload_n dX11_path_107 rfl rfl ?_
    refine c_aload_nQ dX11_path_108 rfl rfl ?_
    refine c_getR (C := RX11) (T := TX11) (N := 4) (ci := 9) (k := 2) ⟨rfl, inT11, by decide, fX11_13⟩ (by decide) (by decide) (by decide) dX11_path_109 ok.1 ?_
    have ok := ok.2
    refine c_iconst (v := nI 0) dX11_path_112 (by decide) ?_
    refine c_V3iE (ci := 2) (rr := (RX2, TX2, 6)) (y' := mX2_climb) dX11_path_113 lX11_113 kX2_climb ⟨by decide, by decide⟩ rfl rfl (by decide) ok.1.1 (by simp only [List.map_cons, List.map_nil, List.sum_cons, List.sum_nil, zcat_rf, zcat_i, zcat_l, zcat_r] <;> decide) (cc_X2_climb hG ok.1.2) ?_
    have ok := ok.2
    exact cX.cutz (b_X11_path_116 hG hR ok hx) ⟨rfl, trivial⟩
  · have ok := ok.2 c_89
    have hx := xif_n c_89 hx
    refine c_ldc2 dX11_path_92 nX11_200 ?_
    exact c_lreturn rfl dX11_path_95 (hR _ _ hx)
def F_X11_path_53 (N : Nat) (x0 : Option Nat) (x3 : Int32) (x4 : Int32) (s0 : Int32) (S : cS) : Int64 × cS := (if 0 ≤ s0 then (F_X11_path_78 N x0 x3 x4 (f_X2_plant N S (za (cR S 5 (za (cR S 0 (za x0))))) (cR S 10 (za (cR S 0 (za x0)))) (nI 0))) else ((-1 : Int64), S))
def O_X11_path_53 (N : Nat) (x0 : Option Nat) (x3 : Int32) (x4 : Int32) (s0 : Int32) (S : cS) : Prop := ((0 ≤ s0 → (cis S x0 10) ∧ (cis S (cR S 0 (za x0)) 9) ∧ (cis S x0 10) ∧ (cis S (cR S 0 (za x0)) 9) ∧ (cis S (cR S 5 (za (cR S 0 (za x0)))) 3 ∧ o_X2_plant N S (za (cR S 5 (za (cR S 0 (za x0))))) (cR S 10 (za (cR S 0 (za x0)))) (nI 0)) ∧ O_X11_path_78 N x0 x3 x4 (f_X2_plant N S (za (cR S 5 (za (cR S 0 (za x0))))) (cR S 10 (za (cR S 0 (za x0)))) (nI 0))) ∧ (¬ 0 ≤ s0 → True))
set_option maxRecDepth 100000 in
set_option maxHeartbeats 4000000 in
theorem b_X11_path_53 {G : zG} {o : cO} {S : cS} {N : Nat} {Q : Option Value → cS → Prop} {X : Int64 × cS → Prop} (hG : zOK G) (hR : ∀ v S', X (v, S') → Q (some (.long v)) S') {x0 : Option Nat} {x3 : Int32} {x4 : Int32} {s0 : Int32} (ok : O_X11_path_53 N x0 x3 x4 s0 S) (hx : X (F_X11_path_53 N x0 x3 x4 s0 S)) : cX G o dX11_path mX11_path 53 [some (va_rf x0), none, none, some (.int x3), some (.int x4), none] [.int s0] S Q := by
  unfold O_X11_path_53 at ok
  unfold F_X11_path_53 at hx
  refine c_if_ge (tgt := 60) dX11_path_53 (by decide) (fun c_53 => ?_) (fun c_53 => ?_)
  · have ok := ok.1 c_53
    have hx := xif_p c_53 hx
    refine c_aload_nQ dX11_path_60 rfl rfl ?_
    refine c_getR (C := RX11) (T := TX11) (N := 4) (ci := 9) (k := 0) ⟨rfl, inT11, by decide, fX11_22⟩ (by decide) (by decide) (by decide) dX11_path_61 ok.1 ?_
    have ok := ok.2
    refine c_getR (C := RX10) (T := TX10) (N := 12) (ci := 8) (k := 5) ⟨rfl, inT10, by decide, fX11_103⟩ (by decide) (by decide) (by decide) dX11_path_64 ok.1 ?_
    have ok := ok.2
    refine c_aload_nQ dX11_path_67 rfl rfl ?_
    refine c_getR (C := RX11) (T := TX11) (N := 4) (ci := 9) (k := 0) ⟨rfl, inT11, by decide, fX11_22⟩ (by decide) (by decide) (by decide) dX11_path_68 ok.1 ?_
    have ok := ok.2
    refine c_getR (C := RX10) (T := TX10) (N := 12) (ci := 8) (k := 10) ⟨rfl, inT10, by decide, fX11_256⟩ (by decide) (by decide) (by decide) dX11_path_71 ok.1 ?_
    have ok := ok.2
    refine c_iconst (v := nI 0) dX11_path_74 (by decide) ?_
    refine c_V2vE (ci := 2) (rr := (RX2, TX2, 6)) (y' := mX2_plant) dX11_path_75 lX11_107 kX2_plant ⟨by decide, by decide⟩ rfl rfl (by decide) ok.1.1 (Nat.le_of_ble_eq_true rfl) (cc_X2_plant hG ok.1.2) ?_
    have ok := ok.2
    exact cX.cutz (b_X11_path_78 hG hR ok hx) ⟨rfl, rfl, rfl, trivial⟩
  · have ok := ok.2 c_53
    have hx := xif_n c_53 hx
    refine c_ldc2 dX11_path_56 nX11_200 ?_
    exact c_lreturn rfl dX11_path_59 (hR _ _ hx)
def F_X11_path_32 (N : Nat)  (S : cS) : Int64 × cS := ((-1 : Int64), S)
def O_X11_path_32 (N : Nat)  (S : cS) : Prop := True
set_option maxRecDepth 100000 in
set_option maxHeartbeats 4000000 in
theorem b_X11_path_32 {G : zG} {o : cO} {S : cS} {N : Nat} {Q : Option Value → cS → Prop} {X : Int64 × cS → Prop} (hG : zOK G) (hR : ∀ v S', X (v, S') → Q (some (.long v)) S') (ok : O_X11_path_32 N S) (hx : X (F_X11_path_32 N S)) : cX G o dX11_path mX11_path 32 [none, none, none, none, none, none] [] S Q := by
  unfold O_X11_path_32 at ok
  unfold F_X11_path_32 at hx
  refine c_ldc2 dX11_path_32 nX11_200 ?_
  exact c_lreturn rfl dX11_path_35 (hR _ _ hx)
def F_X11_path_0 (N : Nat) (x0 : Option Nat) (x1 : Int32) (x2 : Int32) (x3 : Int32) (x4 : Int32) (S : cS) : Int64 × cS := (if (f_X11_honestNode N S (za x0) x1) = none then (F_X11_path_32 N S) else (if x2 < (nI 1) then (F_X11_path_32 N S) else (if (nI 40) < x2 then (F_X11_path_32 N S) else (if x3 < 0 then (F_X11_path_32 N S) else (if 0 ≤ x4 then (F_X11_path_53 N x0 x3 x4 ((f_X4_fetch N S (za (cR S 2 (za (f_X11_honestNode N S (za x0) x1)))) x2 (cR S 10 (za (cR S 0 (za x0)))) (nI 0)).1) (f_X4_fetch N S (za (cR S 2 (za (f_X11_honestNode N S (za x0) x1)))) x2 (cR S 10 (za (cR S 0 (za x0)))) (nI 0)).2) else (F_X11_path_32 N S))))))
def O_X11_path_0 (N : Nat) (x0 : Option Nat) (x1 : Int32) (x2 : Int32) (x3 : Int32) (x4 : Int32) (S : cS) : Prop := (cis S x0 10 ∧ o_X11_honestNode N S (za x0) x1) ∧ (((f_X11_honestNode N S (za x0) x1) = none → O_X11_path_32 N S) ∧ (¬ (f_X11_honestNode N S (za x0) x1) = none → ((x2 < (nI 1) → O_X11_path_32 N S) ∧ (¬ x2 < (nI 1) → (((nI 40) < x2 → O_X11_path_32 N S) ∧ (¬ (nI 40) < x2 → ((x3 < 0 → O_X11_path_32 N S) ∧ (¬ x3 < 0 → ((0 ≤ x4 → (cis S (f_X11_honestNode N S (za x0) x1) 6) ∧ (cis S x0 10) ∧ (cis S (cR S 0 (za x0)) 9) ∧ (cis S (cR S 2 (za (f_X11_honestNode N S (za x0) x1))) 4 ∧ o_X4_fetch N S (za (cR S 2 (za (f_X11_honestNode N S (za x0) x1)))) x2 (cR S 10 (za (cR S 0 (za x0)))) (nI 0)) ∧ O_X11_path_53 N x0 x3 x4 ((f_X4_fetch N S (za (cR S 2 (za (f_X11_honestNode N S (za x0) x1)))) x2 (cR S 10 (za (cR S 0 (za x0)))) (nI 0)).1) (f_X4_fetch N S (za (cR S 2 (za (f_X11_honestNode N S (za x0) x1)))) x2 (cR S 10 (za (cR S 0 (za x0)))) (nI 0)).2) ∧ (¬ 0 ≤ x4 → O_X11_path_32 N S))))))))))
set_option maxRecDepth 100000 in
set_option maxHeartbeats 4000000 in
theorem b_X11_path_0 {G : zG} {o : cO} {S : cS} {N : Nat} {Q : Option Value → cS → Prop} {X : Int64 × cS → Prop} (hG : zOK G) (hR : ∀ v S', X (v, S') → Q (some (.long v)) S') {x0 : Option Nat} {x1 : Int32} {x2 : Int32} {x3 : Int32} {x4 : Int32} (ok : O_X11_path_0 N x0 x1 x2 x3 x4 S) (hx : X (F_X11_path_0 N x0 x1 x2 x3 x4 S)) : cX G o dX11_path mX11_path 0 [some (va_rf x0), some (.int x1), some (.int x2), some (.int x3), some (.int x4), none] [] S Q := by
  unfold O_X11_path_0 at ok
  unfold F_X11_path_0 at hx
  refine c_aload_nQ dX11_path_0 rfl rfl ?_
  refine c_iload_n dX11_path_1 rfl rfl ?_
  refine c_V1qE (ci := 9) (rr := (RX11, TX11, 4)) (y' := mX11_honestNode) dX11_path_2 lX11_120 kX11_honestNode ⟨by decide, by decide⟩ rfl rfl (by decide) ok.1.1 (Nat.le_of_ble_eq_true rfl) (cc_X11_honestNode hG ok.1.2) ?_
  have ok := ok.2
  refine c_astore_5Q dX11_path_5 (by decide) rfl ?_
  refine c_aloadQ dX11_path_7 rfl ?_
  refine c_ifnullI (tgt := 32) dX11_path_9 (by decide) (fun c_9 => ?_) (fun c_9 => ?_)
  · have ok := ok.1 c_9
    have hx := xif_p c_9 hx
    exact cX.cutz (b_X11_path_32 hG hR ok hx) trivial
  · have ok := ok.2 c_9
    have hx := xif_n c_9 hx
    refine c_iload_n dX11_path_12 rfl rfl ?_
    refine c_iconst (v := nI 1) dX11_path_13 (by decide) ?_
    refine c_icmp_lt (tgt := 32) dX11_path_14 (by decide) (fun c_14 => ?_) (fun c_14 => ?_)
    · have ok := ok.1 c_14
      have hx := xif_p c_14 hx
      exact cX.cutz (b_X11_path_32 hG hR ok hx) trivial
    · have ok := ok.2 c_14
      have hx := xif_n c_14 hx
      refine c_iload_n dX11_path_17 rfl rfl ?_
      refine c_bipush (v := nI 40) dX11_path_18 (by decide) ?_
      refine c_icmp_gt (tgt := 32) dX11_path_20 (by decide) (fun c_20 => ?_) (fun c_20 => ?_)
      · have ok := ok.1 c_20
        have hx := xif_p c_20 hx
        exact cX.cutz (b_X11_path_32 hG hR ok hx) trivial
      · have ok := ok.2 c_20
        have hx := xif_n c_20 hx
        refine c_iload_n dX11_path_23 rfl rfl ?_
        refine c_if_lt (tgt := 32) dX11_path_24 (by decide) (fun c_24 => ?_) (fun c_24 => ?_)
        · have ok := ok.1 c_24
          have hx := xif_p c_24 hx
          exact cX.cutz (b_X11_path_32 hG hR ok hx) trivial
        · have ok := ok.2 c_24
          have hx := xif_n c_24 hx
          refine c_iload dX11_path_27 rfl ?_
          refine c_if_ge (tgt := 36) dX11_path_29 (by decide) (fun c_29 => ?_) (fun c_29 => ?_)
          · have ok := ok.1 c_29
            have hx := xif_p c_29 hx
            refine c_aloadQ dX11_path_36 rfl ?_
            refine c_getR (C := RX6) (T := TX6) (N := 19) (ci := 5) (k := 2) ⟨rfl, inT6, by decide, fX11_205⟩ (by decide) (by decide) (by decide) dX11_path_38 ok.1 ?_
            have ok := ok.2
            refine c_iload_n dX11_path_41 rfl rfl ?_
            refine c_aload_nQ dX11_path_42 rfl rfl ?_
            refine c_getR (C := RX11) (T := TX11) (N := 4) (ci := 9) (k := 0) ⟨rfl, inT11, by decide, fX11_22⟩ (by decide) (by decide) (by decide) dX11_path_43 ok.1 ?_
            have ok := ok.2
            refine c_getR (C := RX10) (T := TX10) (N := 12) (ci := 8) (k := 10) ⟨rfl, inT10, by decide, fX11_256⟩ (by decide) (by decide) (by decide) dX11_path_46 ok.1 ?_
            have ok := ok.2
            refine c_iconst (v := nI 0) dX11_path_49 (by decide) ?_
            refine c_V3iE (ci := 3) (rr := (RX4, TX4, 10)) (y' := mX4_fetch) dX11_path_50 lX11_259 kX4_fetch ⟨by decide, by decide⟩ rfl rfl (by decide) ok.1.1 (Nat.le_of_ble_eq_true rfl) (cc_X4_fetch hG ok.1.2) ?_
            have ok := ok.2
            exact cX.cutz (b_X11_path_53 hG hR ok hx) ⟨rfl, rfl, rfl, trivial⟩
          · have ok := ok.2 c_29
            have hx := xif_n c_29 hx
            exact cX.cutz (b_X11_path_32 hG hR ok hx) trivial
def f_X11_path (N : Nat) (S : cS) (a0 : Nat) (x1 : Int32) (x2 : Int32) (x3 : Int32) (x4 : Int32) : Int64 × cS := F_X11_path_0 N (some a0) x1 x2 x3 x4 S
def o_X11_path (N : Nat) (S : cS) (a0 : Nat) (x1 : Int32) (x2 : Int32) (x3 : Int32) (x4 : Int32) : Prop := O_X11_path_0 N (some a0) x1 x2 x3 x4 S
set_option maxRecDepth 100000 in
set_option maxHeartbeats 4000000 in
theorem cc_X11_path {G : zG} {o : cO} {S : cS} {N : Nat} (hG : zOK G) {a0 : Nat} {x1 : Int32} {x2 : Int32} {x3 : Int32} {x4 : Int32} (ok : o_X11_path N S a0 x1 x2 x3 x4) : cCl G o dX11_path mX11_path [.ref a0, .int x1, .int x2, .int x3, .int x4] S (fun v S' => v = (f_X11_path N S a0 x1 x2 x3 x4).1 ∧ S' = (f_X11_path N S a0 x1 x2 x3 x4).2) := by
  refine cC.ofX rfl (by exact Nat.le_of_ble_eq_true rfl) ?_
  show cX G o dX11_path mX11_path 0 [some (.ref a0), some (.int x1), some (.int x2), some (.int x3), some (.int x4), none] [] S _
  exact cX.cutz (b_X11_path_0 (X := fun F => F = f_X11_path N S a0 x1 x2 x3 x4) hG (fun v S' h => ⟨v, rfl, by rw [← h], by rw [← h]⟩) ok rfl) ⟨rfl, rfl, rfl, rfl, rfl, trivial⟩
/-! X11_account -/
def F_X11_account_82 (N : Nat) (x3 : Int32) (s0 : Option Nat) (s1 : Int32) (s2 : Int32) (S : cS) : Int64 × cS := ((f_X11_eight N S s0 (s1 + s2) x3), S)
def O_X11_account_82 (N : Nat) (x3 : Int32) (s0 : Option Nat) (s1 : Int32) (s2 : Int32) (S : cS) : Prop := (o_X11_eight N S s0 (s1 + s2) x3) ∧ True
set_option maxRecDepth 100000 in
set_option maxHeartbeats 4000000 in
theorem b_X11_account_82 {G : zG} {o : cO} {S : cS} {N : Nat} {Q : Option Value → cS → Prop} {X : Int64 × cS → Prop} (hG : zOK G) (hR : ∀ v S', X (v, S') → Q (some (.long v)) S') {x3 : Int32} {s0 : Option Nat} {s1 : Int32} {s2 : Int32} (ok : O_X11_account_82 N x3 s0 s1 s2 S) (hx : X (F_X11_account_82 N x3 s0 s1 s2 S)) : cX G o dX11_account mX11_account 82 [none, none, none, some (.int x3), none] [.int s2, .int s1, va_rf s0] S Q := by
  unfold O_X11_account_82 at ok
  unfold F_X11_account_82 at hx
  refine c_iadd dX11_account_82 ?_
  refine c_iload_n dX11_account_83 rfl rfl ?_
  refine c_S3lE (y' := mX11_eight) dX11_account_84 lX11_153 kX11_eight ⟨by decide, by decide⟩ (Nat.le_of_ble_eq_true rfl) (cc_X11_eight hG ok.1) ?_
  have ok := ok.2
  exact c_lreturn rfl dX11_account_87 (hR _ _ hx)
def F_X11_account_59 (N : Nat) (x0 : Option Nat) (x2 : Int32) (x3 : Int32) (S : cS) : Int64 × cS := (F_X11_account_82 N x3 (cR S 2 (za x0)) (nI 6) ((f_X2_climb N S (za (cR S 5 (za (cR S 0 (za x0))))) x2 (cR S 2 (za x0)) (nI 6)).1) (f_X2_climb N S (za (cR S 5 (za (cR S 0 (za x0))))) x2 (cR S 2 (za x0)) (nI 6)).2)
def O_X11_account_59 (N : Nat) (x0 : Option Nat) (x2 : Int32) (x3 : Int32) (S : cS) : Prop := (cis S x0 10) ∧ (cis S x0 10) ∧ (cis S (cR S 0 (za x0)) 9) ∧ (cis S x0 10) ∧ (cis S (cR S 5 (za (cR S 0 (za x0)))) 3 ∧ o_X2_climb N S (za (cR S 5 (za (cR S 0 (za x0))))) x2 (cR S 2 (za x0)) (nI 6)) ∧ O_X11_account_82 N x3 (cR S 2 (za x0)) (nI 6) ((f_X2_climb N S (za (cR S 5 (za (cR S 0 (za x0))))) x2 (cR S 2 (za x0)) (nI 6)).1) (f_X2_climb N S (za (cR S 5 (za (cR S 0 (za x0))))) x2 (cR S 2 (za x0)) (nI 6)).2
set_option maxRecDepth 100000 in
set_option maxHeartbeats 4000000 in
theorem b_X11_account_59 {G : zG} {o : cO} {S : cS} {N : Nat} {Q : Option Value → cS → Prop} {X : Int64 × cS → Prop} (hG : zOK G) (hR : ∀ v S', X (v, S') → Q (some (.long v)) S') {x0 : Option Nat} {x2 : Int32} {x3 : Int32} (ok : O_X11_account_59 N x0 x2 x3 S) (hx : X (F_X11_account_59 N x0 x2 x3 S)) : cX G o dX11_account mX11_account 59 [some (va_rf x0), none, some (.int x2), some (.int x3), none] [] S Q := by
  unfold O_X11_account_59 at ok
  unfold F_X11_account_59 at hx
  refine c_aload_nQ dX11_account_59 rfl rfl ?_
  refine c_getR (C := RX11) (T := TX11) (N := 4) (ci := 9) (k := 2) ⟨rfl, inT11, by decide, fX11_13⟩ (by decide) (by decide) (by decide) dX11_account_60 ok.1 ?_
  have ok := ok.2
  refine c_bipush (v := nI 6) dX11_account_63 (by decide) ?_
  refine c_aload_nQ dX11_account_65 rfl rfl ?_
  refine c_getR (C := RX11) (T := TX11) (N := 4) (ci := 9) (k := 0) ⟨rfl, inT11, by decide, fX11_22⟩ (by decide) (by decide) (by decide) dX11_account_66 ok.1 ?_
  have ok := ok.2
  refine c_getR (C := RX10) (T := TX10) (N := 12) (ci := 8) (k := 5) ⟨rfl, inT10, by decide, fX11_103⟩ (by decide) (by decide) (by decide) dX11_account_69 ok.1 ?_
  have ok := ok.2
  refine c_iload_n dX11_account_72 rfl rfl ?_
  refine c_aload_nQ dX11_account_73 rfl rfl ?_
  refine c_getR (C := RX11) (T := TX11) (N := 4) (ci := 9) (k := 2) ⟨rfl, inT11, by decide, fX11_13⟩ (by decide) (by decide) (by decide) dX11_account_74 ok.1 ?_
  have ok := ok.2
  refine c_bipush (v := nI 6) dX11_account_77 (by decide) ?_
  refine c_V3iE (ci := 2) (rr := (RX2, TX2, 6)) (y' := mX2_climb) dX11_account_79 lX11_113 kX2_climb ⟨by decide, by decide⟩ rfl rfl (by decide) ok.1.1 (by simp only [List.map_cons, List.map_nil, List.sum_cons, List.sum_nil, zcat_rf, zcat_i, zcat_l, zcat_r] <;> decide) (cc_X2_climb hG ok.1.2) ?_
  have ok := ok.2
  exact cX.cutz (b_X11_account_82 hG hR ok hx) ⟨rfl, trivial⟩
def F_X11_account_45 (N : Nat) (x0 : Option Nat) (x2 : Int32) (x3 : Int32) (x4 : Option Nat) (S : cS) : Int64 × cS := (F_X11_account_59 N x0 x2 x3 (f_X0_encode N S (za (cR S 4 (za x4))) x2 (cR S 2 (za x0)) (nI 0)))
def O_X11_account_45 (N : Nat) (x0 : Option Nat) (x2 : Int32) (x3 : Int32) (x4 : Option Nat) (S : cS) : Prop := (cis S x4 6) ∧ (cis S x0 10) ∧ (cis S (cR S 4 (za x4)) 1 ∧ o_X0_encode N S (za (cR S 4 (za x4))) x2 (cR S 2 (za x0)) (nI 0)) ∧ O_X11_account_59 N x0 x2 x3 (f_X0_encode N S (za (cR S 4 (za x4))) x2 (cR S 2 (za x0)) (nI 0))
set_option maxRecDepth 100000 in
set_option maxHeartbeats 4000000 in
theorem b_X11_account_45 {G : zG} {o : cO} {S : cS} {N : Nat} {Q : Option Value → cS → Prop} {X : Int64 × cS → Prop} (hG : zOK G) (hR : ∀ v S', X (v, S') → Q (some (.long v)) S') {x0 : Option Nat} {x2 : Int32} {x3 : Int32} {x4 : Option Nat} (ok : O_X11_account_45 N x0 x2 x3 x4 S) (hx : X (F_X11_account_45 N x0 x2 x3 x4 S)) : cX G o dX11_account mX11_account 45 [some (va_rf x0), none, some (.int x2), some (.int x3), some (va_rf x4)] [] S Q := by
  unfold O_X11_account_45 at ok
  unfold F_X11_account_45 at hx
  refine c_aloadQ dX11_account_45 rfl ?_
  refine c_getR (C := RX6) (T := TX6) (N := 19) (ci := 5) (k := 4) ⟨rfl, inT6, by decide, fX11_129⟩ (by decide) (by decide) (by decide) dX11_account_47 ok.1 ?_
  have ok := ok.2
  refine c_iload_n dX11_account_50 rfl rfl ?_
  refine c_aload_nQ dX11_account_51 rfl rfl ?_
  refine c_getR (C := RX11) (T := TX11) (N := 4) (ci := 9) (k := 2) ⟨rfl, inT11, by decide, fX11_13⟩ (by decide) (by decide) (by decide) dX11_account_52 ok.1 ?_
  have ok := ok.2
  refine c_iconst (v := nI 0) dX11_account_55 (by decide) ?_
  refine c_V3vE (ci := 0) (rr := (RX0, TX0, 6)) (y' := mX0_encode) dX11_account_56 lX11_281 kX0_encode ⟨by decide, by decide⟩ rfl rfl (by decide) ok.1.1 (Nat.le_of_ble_eq_true rfl) (cc_X0_encode hG ok.1.2) ?_
  have ok := ok.2
  exact cX.cutz (b_X11_account_59 hG hR ok hx) ⟨rfl, rfl, rfl, trivial⟩
def F_X11_account_26 (N : Nat)  (S : cS) : Int64 × cS := ((-1 : Int64), S)
def O_X11_account_26 (N : Nat)  (S : cS) : Prop := True
set_option maxRecDepth 100000 in
set_option maxHeartbeats 4000000 in
theorem b_X11_account_26 {G : zG} {o : cO} {S : cS} {N : Nat} {Q : Option Value → cS → Prop} {X : Int64 × cS → Prop} (hG : zOK G) (hR : ∀ v S', X (v, S') → Q (some (.long v)) S') (ok : O_X11_account_26 N S) (hx : X (F_X11_account_26 N S)) : cX G o dX11_account mX11_account 26 [none, none, none, none, none] [] S Q := by
  unfold O_X11_account_26 at ok
  unfold F_X11_account_26 at hx
  refine c_ldc2 dX11_account_26 nX11_200 ?_
  exact c_lreturn rfl dX11_account_29 (hR _ _ hx)
def F_X11_account_0 (N : Nat) (x0 : Option Nat) (x1 : Int32) (x2 : Int32) (x3 : Int32) (S : cS) : Int64 × cS := (if (f_X11_honestNode N S (za x0) x1) = none then (F_X11_account_26 N S) else (if x2 < 0 then (F_X11_account_26 N S) else (if (nI 16) ≤ x2 then (F_X11_account_26 N S) else (if 0 ≤ x3 then (F_X11_account_45 N x0 x2 x3 (f_X11_honestNode N S (za x0) x1) (f_X0_plant N S (za (cR S 4 (za (f_X11_honestNode N S (za x0) x1)))) (cR S 5 (za (cR S 0 (za x0)))))) else (F_X11_account_26 N S)))))
def O_X11_account_0 (N : Nat) (x0 : Option Nat) (x1 : Int32) (x2 : Int32) (x3 : Int32) (S : cS) : Prop := (cis S x0 10 ∧ o_X11_honestNode N S (za x0) x1) ∧ (((f_X11_honestNode N S (za x0) x1) = none → O_X11_account_26 N S) ∧ (¬ (f_X11_honestNode N S (za x0) x1) = none → ((x2 < 0 → O_X11_account_26 N S) ∧ (¬ x2 < 0 → (((nI 16) ≤ x2 → O_X11_account_26 N S) ∧ (¬ (nI 16) ≤ x2 → ((0 ≤ x3 → (cis S (f_X11_honestNode N S (za x0) x1) 6) ∧ (cis S x0 10) ∧ (cis S (cR S 0 (za x0)) 9) ∧ (cis S (cR S 4 (za (f_X11_honestNode N S (za x0) x1))) 1 ∧ o_X0_plant N S (za (cR S 4 (za (f_X11_honestNode N S (za x0) x1)))) (cR S 5 (za (cR S 0 (za x0))))) ∧ O_X11_account_45 N x0 x2 x3 (f_X11_honestNode N S (za x0) x1) (f_X0_plant N S (za (cR S 4 (za (f_X11_honestNode N S (za x0) x1)))) (cR S 5 (za (cR S 0 (za x0)))))) ∧ (¬ 0 ≤ x3 → O_X11_account_26 N S))))))))
set_option maxRecDepth 100000 in
set_option maxHeartbeats 4000000 in
theorem b_X11_account_0 {G : zG} {o : cO} {S : cS} {N : Nat} {Q : Option Value → cS → Prop} {X : Int64 × cS → Prop} (hG : zOK G) (hR : ∀ v S', X (v, S') → Q (some (.long v)) S') {x0 : Option Nat} {x1 : Int32} {x2 : Int32} {x3 : Int32} (ok : O_X11_account_0 N x0 x1 x2 x3 S) (hx : X (F_X11_account_0 N x0 x1 x2 x3 S)) : cX G o dX11_account mX11_account 0 [some (va_rf x0), some (.int x1), some (.int x2), some (.int x3), none] [] S Q := by
  unfold O_X11_account_0 at ok
  unfold F_X11_account_0 at hx
  refine c_aload_nQ dX11_account_0 rfl rfl ?_
  refine c_iload_n dX11_account_1 rfl rfl ?_
  refine c_V1qE (ci := 9) (rr := (RX11, TX11, 4)) (y' := mX11_honestNode) dX11_account_2 lX11_120 kX11_honestNode ⟨by decide, by decide⟩ rfl rfl (by decide) ok.1.1 (Nat.le_of_ble_eq_true rfl) (cc_X11_honestNode hG ok.1.2) ?_
  have ok := ok.2
  refine c_astore_4Q dX11_account_5 (by decide) rfl ?_
  refine c_aloadQ dX11_account_7 rfl ?_
  refine c_ifnullI (tgt := 26) dX11_account_9 (by decide) (fun c_9 => ?_) (fun c_9 => ?_)
  · have ok := ok.1 c_9
    have hx := xif_p c_9 hx
    exact cX.cutz (b_X11_account_26 hG hR ok hx) trivial
  · have ok := ok.2 c_9
    have hx := xif_n c_9 hx
    refine c_iload_n dX11_account_12 rfl rfl ?_
    refine c_if_lt (tgt := 26) dX11_account_13 (by decide) (fun c_13 => ?_) (fun c_13 => ?_)
    · have ok := ok.1 c_13
      have hx := xif_p c_13 hx
      exact cX.cutz (b_X11_account_26 hG hR ok hx) trivial
    · have ok := ok.2 c_13
      have hx := xif_n c_13 hx
      refine c_iload_n dX11_account_16 rfl rfl ?_
      refine c_bipush (v := nI 16) dX11_account_17 (by decide) ?_
      refine c_icmp_ge (tgt := 26) dX11_account_19 (by decide) (fun c_19 => ?_) (fun c_19 => ?_)
      · have ok := ok.1 c_19
        have hx := xif_p c_19 hx
        exact cX.cutz (b_X11_account_26 hG hR ok hx) trivial
      · have ok := ok.2 c_19
        have hx := xif_n c_19 hx
        refine c_iload_n dX11_account_22 rfl rfl ?_
        refine c_if_ge (tgt := 30) dX11_account_23 (by decide) (fun c_23 => ?_) (fun c_23 => ?_)
        · have ok := ok.1 c_23
          have hx := xif_p c_23 hx
          refine c_aloadQ dX11_account_30 rfl ?_
          refine c_getR (C := RX6) (T := TX6) (N := 19) (ci := 5) (k := 4) ⟨rfl, inT6, by decide, fX11_129⟩ (by decide) (by decide) (by decide) dX11_account_32 ok.1 ?_
          have ok := ok.2
          refine c_aload_nQ dX11_account_35 rfl rfl ?_
          refine c_getR (C := RX11) (T := TX11) (N := 4) (ci := 9) (k := 0) ⟨rfl, inT11, by decide, fX11_22⟩ (by decide) (by decide) (by decide) dX11_account_36 ok.1 ?_
          have ok := ok.2
          refine c_getR (C := RX10) (T := TX10) (N := 12) (ci := 8) (k := 5) ⟨rfl, inT10, by decide, fX11_103⟩ (by decide) (by decide) (by decide) dX11_account_39 ok.1 ?_
          have ok := ok.2
          refine c_V1vE (ci := 0) (rr := (RX0, TX0, 6)) (y' := mX0_plant) dX11_account_42 lX11_278 kX0_plant ⟨by decide, by decide⟩ rfl rfl (by decide) ok.1.1 (Nat.le_of_ble_eq_true rfl) (cc_X0_plant hG ok.1.2) ?_
          have ok := ok.2
          exact cX.cutz (b_X11_account_45 hG hR ok hx) ⟨rfl, rfl, rfl, rfl, trivial⟩
        · have ok := ok.2 c_23
          have hx := xif_n c_23 hx
          exact cX.cutz (b_X11_account_26 hG hR ok hx) trivial
def f_X11_account (N : Nat) (S : cS) (a0 : Nat) (x1 : Int32) (x2 : Int32) (x3 : Int32) : Int64 × cS := F_X11_account_0 N (some a0) x1 x2 x3 S
def o_X11_account (N : Nat) (S : cS) (a0 : Nat) (x1 : Int32) (x2 : Int32) (x3 : Int32) : Prop := O_X11_account_0 N (some a0) x1 x2 x3 S
set_option maxRecDepth 100000 in
set_option maxHeartbeats 4000000 in
theorem cc_X11_account {G : zG} {o : cO} {S : cS} {N : Nat} (hG : zOK G) {a0 : Nat} {x1 : Int32} {x2 : Int32} {x3 : Int32} (ok : o_X11_account N S a0 x1 x2 x3) : cCl G o dX11_account mX11_account [.ref a0, .int x1, .int x2, .int x3] S (fun v S' => v = (f_X11_account N S a0 x1 x2 x3).1 ∧ S' = (f_X11_account N S a0 x1 x2 x3).2) := by
  refine cC.ofX rfl (by exact Nat.le_of_ble_eq_true rfl) ?_
  show cX G o dX11_account mX11_account 0 [some (.ref a0), some (.int x1), some (.int x2), some (.int x3), none] [] S _
  exact cX.cutz (b_X11_account_0 (X := fun F => F = f_X11_account N S a0 x1 x2 x3) hG (fun v S' h => ⟨v, rfl, by rw [← h], by rw [← h]⟩) ok rfl) ⟨rfl, rfl, rfl, rfl, trivial⟩
/-! X11_sector -/
def F_X11_sector_28 (N : Nat)  (S : cS) : Int64 := (-1 : Int64)
def O_X11_sector_28 (N : Nat)  (S : cS) : Prop := True
set_option maxRecDepth 100000 in
set_option maxHeartbeats 4000000 in
theorem b_X11_sector_28 {G : zG} {o : cO} {S : cS} {N : Nat} {Q : Option Value → cS → Prop} {X : Int64 → Prop} (hG : zOK G) (hR : ∀ v, X v → Q (some (.long v)) S) (ok : O_X11_sector_28 N S) (hx : X (F_X11_sector_28 N S)) : cX G o dX11_sector mX11_sector 28 [none, none, none, none, none] [] S Q := by
  unfold O_X11_sector_28 at ok
  unfold F_X11_sector_28 at hx
  refine c_ldc2 dX11_sector_28 nX11_200 ?_
  exact c_lreturn rfl dX11_sector_31 (hR _ hx)
def F_X11_sector_0 (N : Nat) (x0 : Option Nat) (x1 : Int32) (x2 : Int32) (x3 : Int32) (S : cS) : Int64 := (if (f_X11_honestNode N S (za x0) x1) = none then (F_X11_sector_28 N S) else (if x3 < 0 then (F_X11_sector_28 N S) else (if (f_X4_canRead N S (za (cR S 2 (za (f_X11_honestNode N S (za x0) x1)))) x2) = 0 then (F_X11_sector_28 N S) else (f_X11_eight N S (cP S (za (cR S 0 (za (cR S 2 (za (f_X11_honestNode N S (za x0) x1)))))) x2.toNatClampNeg) (nI 512) x3))))
def O_X11_sector_0 (N : Nat) (x0 : Option Nat) (x1 : Int32) (x2 : Int32) (x3 : Int32) (S : cS) : Prop := (cis S x0 10 ∧ o_X11_honestNode N S (za x0) x1) ∧ (((f_X11_honestNode N S (za x0) x1) = none → O_X11_sector_28 N S) ∧ (¬ (f_X11_honestNode N S (za x0) x1) = none → ((x3 < 0 → O_X11_sector_28 N S) ∧ (¬ x3 < 0 → (cis S (f_X11_honestNode N S (za x0) x1) 6) ∧ (cis S (cR S 2 (za (f_X11_honestNode N S (za x0) x1))) 4 ∧ o_X4_canRead N S (za (cR S 2 (za (f_X11_honestNode N S (za x0) x1)))) x2) ∧ (((f_X4_canRead N S (za (cR S 2 (za (f_X11_honestNode N S (za x0) x1)))) x2) = 0 → O_X11_sector_28 N S) ∧ (¬ (f_X4_canRead N S (za (cR S 2 (za (f_X11_honestNode N S (za x0) x1)))) x2) = 0 → (cis S (f_X11_honestNode N S (za x0) x1) 6) ∧ (cis S (cR S 2 (za (f_X11_honestNode N S (za x0) x1))) 4) ∧ (cis S (cR S 0 (za (cR S 2 (za (f_X11_honestNode N S (za x0) x1))))) 26 ∧ vp_in x2 (cL S (za (cR S 0 (za (cR S 2 (za (f_X11_honestNode N S (za x0) x1)))))))) ∧ (o_X11_eight N S (cP S (za (cR S 0 (za (cR S 2 (za (f_X11_honestNode N S (za x0) x1)))))) x2.toNatClampNeg) (nI 512) x3) ∧ True))))))
set_option maxRecDepth 100000 in
set_option maxHeartbeats 4000000 in
theorem b_X11_sector_0 {G : zG} {o : cO} {S : cS} {N : Nat} {Q : Option Value → cS → Prop} {X : Int64 → Prop} (hG : zOK G) (hR : ∀ v, X v → Q (some (.long v)) S) {x0 : Option Nat} {x1 : Int32} {x2 : Int32} {x3 : Int32} (ok : O_X11_sector_0 N x0 x1 x2 x3 S) (hx : X (F_X11_sector_0 N x0 x1 x2 x3 S)) : cX G o dX11_sector mX11_sector 0 [some (va_rf x0), some (.int x1), some (.int x2), some (.int x3), none] [] S Q := by
  unfold O_X11_sector_0 at ok
  unfold F_X11_sector_0 at hx
  refine c_aload_nQ dX11_sector_0 rfl rfl ?_
  refine c_iload_n dX11_sector_1 rfl rfl ?_
  refine c_V1qE (ci := 9) (rr := (RX11, TX11, 4)) (y' := mX11_honestNode) dX11_sector_2 lX11_120 kX11_honestNode ⟨by decide, by decide⟩ rfl rfl (by decide) ok.1.1 (Nat.le_of_ble_eq_true rfl) (cc_X11_honestNode hG ok.1.2) ?_
  have ok := ok.2
  refine c_astore_4Q dX11_sector_5 (by decide) rfl ?_
  refine c_aloadQ dX11_sector_7 rfl ?_
  refine c_ifnullI (tgt := 28) dX11_sector_9 (by decide) (fun c_9 => ?_) (fun c_9 => ?_)
  · have ok := ok.1 c_9
    have hx := xif_p c_9 hx
    exact cX.cutz (b_X11_sector_28 hG hR ok hx) trivial
  · have ok := ok.2 c_9
    have hx := xif_n c_9 hx
    refine c_iload_n dX11_sector_12 rfl rfl ?_
    refine c_if_lt (tgt := 28) dX11_sector_13 (by decide) (fun c_13 => ?_) (fun c_13 => ?_)
    · have ok := ok.1 c_13
      have hx := xif_p c_13 hx
      exact cX.cutz (b_X11_sector_28 hG hR ok hx) trivial
    · have ok := ok.2 c_13
      have hx := xif_n c_13 hx
      refine c_aloadQ dX11_sector_16 rfl ?_
      refine c_getR (C := RX6) (T := TX6) (N := 19) (ci := 5) (k := 2) ⟨rfl, inT6, by decide, fX11_205⟩ (by decide) (by decide) (by decide) dX11_sector_18 ok.1 ?_
      have ok := ok.2
      refine c_iload_n dX11_sector_21 rfl rfl ?_
      refine c_V1iE (ci := 3) (rr := (RX4, TX4, 10)) (y' := mX4_canRead) dX11_sector_22 lX11_285 kX4_canRead ⟨by decide, by decide⟩ rfl rfl (by decide) ok.1.1 (Nat.le_of_ble_eq_true rfl) (cc_X4_canRead hG ok.1.2) ?_
      have ok := ok.2
      refine c_if_ne (tgt := 32) dX11_sector_25 (by decide) (fun c_25 => ?_) (fun c_25 => ?_)
      · have ok := ok.2 c_25
        have hx := xif_n c_25 hx
        refine c_aloadQ dX11_sector_32 rfl ?_
        refine c_getR (C := RX6) (T := TX6) (N := 19) (ci := 5) (k := 2) ⟨rfl, inT6, by decide, fX11_205⟩ (by decide) (by decide) (by decide) dX11_sector_34 ok.1 ?_
        have ok := ok.2
        refine c_getR (C := RX4) (T := TX4) (N := 10) (ci := 3) (k := 0) ⟨rfl, inT4, by decide, fX11_288⟩ (by decide) (by decide) (by decide) dX11_sector_37 ok.1 ?_
        have ok := ok.2
        refine c_iload_n dX11_sector_40 rfl rfl ?_
        refine c_aald (t := 6) (ty := (.array .byte)) rfl rfl (by decide) dX11_sector_41 ok.1 ?_
        have ok := ok.2
        refine c_sipush (v := nI 512) dX11_sector_42 (by decide) ?_
        refine c_iload_n dX11_sector_45 rfl rfl ?_
        refine c_S3lE (y' := mX11_eight) dX11_sector_46 lX11_153 kX11_eight ⟨by decide, by decide⟩ (Nat.le_of_ble_eq_true rfl) (cc_X11_eight hG ok.1) ?_
        have ok := ok.2
        exact c_lreturn rfl dX11_sector_49 (hR _ hx)
      · have ok := ok.1 c_25
        have hx := xif_p c_25 hx
        exact cX.cutz (b_X11_sector_28 hG hR ok hx) trivial
def f_X11_sector (N : Nat) (S : cS) (a0 : Nat) (x1 : Int32) (x2 : Int32) (x3 : Int32) : Int64 := F_X11_sector_0 N (some a0) x1 x2 x3 S
def o_X11_sector (N : Nat) (S : cS) (a0 : Nat) (x1 : Int32) (x2 : Int32) (x3 : Int32) : Prop := O_X11_sector_0 N (some a0) x1 x2 x3 S
set_option maxRecDepth 100000 in
set_option maxHeartbeats 4000000 in
theorem cc_X11_sector {G : zG} {o : cO} {S : cS} {N : Nat} (hG : zOK G) {a0 : Nat} {x1 : Int32} {x2 : Int32} {x3 : Int32} (ok : o_X11_sector N S a0 x1 x2 x3) : cCl G o dX11_sector mX11_sector [.ref a0, .int x1, .int x2, .int x3] S (fun v S' => v = f_X11_sector N S a0 x1 x2 x3 ∧ S' = S) := by
  refine cC.ofX rfl (by exact Nat.le_of_ble_eq_true rfl) ?_
  show cX G o dX11_sector mX11_sector 0 [some (.ref a0), some (.int x1), some (.int x2), some (.int x3), none] [] S _
  exact cX.cutz (b_X11_sector_0 (X := fun F => F = f_X11_sector N S a0 x1 x2 x3) hG (fun v h => ⟨v, rfl, h, rfl⟩) ok rfl) ⟨rfl, rfl, rfl, rfl, trivial⟩
/-! X11_proof -/
def F_X11_proof_271 (N : Nat) (s0 : Option Nat) (s1 : Int32) (s2 : Option Nat) (s3 : Int32) (S : cS) : Int32 × cS := ((f_X11_sameBytes N S s0 s1 s2 s3 (nI 32)), S)
def O_X11_proof_271 (N : Nat) (s0 : Option Nat) (s1 : Int32) (s2 : Option Nat) (s3 : Int32) (S : cS) : Prop := (o_X11_sameBytes N S s0 s1 s2 s3 (nI 32)) ∧ narrow .boolean (.int (f_X11_sameBytes N S s0 s1 s2 s3 (nI 32))) = .int (f_X11_sameBytes N S s0 s1 s2 s3 (nI 32))
set_option maxRecDepth 100000 in
set_option maxHeartbeats 4000000 in
theorem b_X11_proof_271 {G : zG} {o : cO} {S : cS} {N : Nat} {Q : Option Value → cS → Prop} {X : Int32 × cS → Prop} (hG : zOK G) (hR : ∀ v S', X (v, S') → Q (some (.int v)) S') {s0 : Option Nat} {s1 : Int32} {s2 : Option Nat} {s3 : Int32} (ok : O_X11_proof_271 N s0 s1 s2 s3 S) (hx : X (F_X11_proof_271 N s0 s1 s2 s3 S)) : cX G o dX11_proof mX11_proof 271 [none, none, none, none, none, none, none] [.int s3, va_rf s2, .int s1, va_rf s0] S Q := by
  unfold O_X11_proof_271 at ok
  unfold F_X11_proof_271 at hx
  refine c_bipush (v := nI 32) dX11_proof_271 (by decide) ?_
  refine c_S5iE (y' := mX11_sameBytes) dX11_proof_273 lX11_304 kX11_sameBytes ⟨by decide, by decide⟩ (Nat.le_of_ble_eq_true rfl) (cc_X11_sameBytes hG ok.1) ?_
  have ok := ok.2
  exact c_ireturn rfl ok dX11_proof_276 (hR _ _ hx)
def F_X11_proof_251 (N : Nat) (x0 : Option Nat) (x1 : Int32) (S : cS) : Int32 × cS := (if x1 = 0 then (F_X11_proof_271 N (cR S 2 (za x0)) (nI 0) (cR S 1 (za x0)) (nI 67) S) else (F_X11_proof_271 N (cR S 2 (za x0)) (nI 0) (cR S 1 (za x0)) (nI 35) S))
def O_X11_proof_251 (N : Nat) (x0 : Option Nat) (x1 : Int32) (S : cS) : Prop := (cis S x0 10) ∧ (cis S x0 10) ∧ ((x1 = 0 → O_X11_proof_271 N (cR S 2 (za x0)) (nI 0) (cR S 1 (za x0)) (nI 67) S) ∧ (¬ x1 = 0 → O_X11_proof_271 N (cR S 2 (za x0)) (nI 0) (cR S 1 (za x0)) (nI 35) S))
set_option maxRecDepth 100000 in
set_option maxHeartbeats 4000000 in
theorem b_X11_proof_251 {G : zG} {o : cO} {S : cS} {N : Nat} {Q : Option Value → cS → Prop} {X : Int32 × cS → Prop} (hG : zOK G) (hR : ∀ v S', X (v, S') → Q (some (.int v)) S') {x0 : Option Nat} {x1 : Int32} (ok : O_X11_proof_251 N x0 x1 S) (hx : X (F_X11_proof_251 N x0 x1 S)) : cX G o dX11_proof mX11_proof 251 [some (va_rf x0), some (.int x1), none, none, none, none, none] [] S Q := by
  unfold O_X11_proof_251 at ok
  unfold F_X11_proof_251 at hx
  refine c_aload_nQ dX11_proof_251 rfl rfl ?_
  refine c_getR (C := RX11) (T := TX11) (N := 4) (ci := 9) (k := 2) ⟨rfl, inT11, by decide, fX11_13⟩ (by decide) (by decide) (by decide) dX11_proof_252 ok.1 ?_
  have ok := ok.2
  refine c_iconst (v := nI 0) dX11_proof_255 (by decide) ?_
  refine c_aload_nQ dX11_proof_256 rfl rfl ?_
  refine c_getR (C := RX11) (T := TX11) (N := 4) (ci := 9) (k := 1) ⟨rfl, inT11, by decide, fX11_9⟩ (by decide) (by decide) (by decide) dX11_proof_257 ok.1 ?_
  have ok := ok.2
  refine c_iload_n dX11_proof_260 rfl rfl ?_
  refine c_if_ne (tgt := 269) dX11_proof_261 (by decide) (fun c_261 => ?_) (fun c_261 => ?_)
  · have ok := ok.2 c_261
    have hx := xif_n c_261 hx
    refine c_bipush (v := nI 35) dX11_proof_269 (by decide) ?_
    exact cX.cutz (b_X11_proof_271 hG hR ok hx) trivial
  · have ok := ok.1 c_261
    have hx := xif_p c_261 hx
    refine c_bipush (v := nI 67) dX11_proof_264 (by decide) ?_
    refine c_goto (tgt := 271) dX11_proof_266 (by decide) ?_
    exact cX.cutz (b_X11_proof_271 hG hR ok hx) trivial
def F_X11_proof_245 (N : Nat) (rec : Option Nat → Int32 → Int32 → Option Nat → Int32 → cS → Nat × Option Nat × Int32 × cS) (x0 : Option Nat) (x1 : Int32) (x3 : Int32) (x4 : Option Nat) (x5 : Int32) (S : cS) : Nat × Option Nat × Int32 × cS := (rec x0 x1 x3 x4 (x5 + nI 32) S)
def O_X11_proof_245 (N : Nat) (rok : Option Nat → Int32 → Int32 → Option Nat → Int32 → cS → Prop) (x0 : Option Nat) (x1 : Int32) (x3 : Int32) (x4 : Option Nat) (x5 : Int32) (S : cS) : Prop := rok x0 x1 x3 x4 (x5 + nI 32) S
set_option maxRecDepth 100000 in
set_option maxHeartbeats 4000000 in
theorem b_X11_proof_245 {G : zG} {o : cO} {S : cS} {N : Nat} {Q : Option Value → cS → Prop} {X : Nat × Option Nat × Int32 × cS → Prop} (hG : zOK G) (hX0 : ∀ (x0 : Option Nat) (x1 : Int32) (S' : cS), X (0, x0, x1, S') → cX G o dX11_proof mX11_proof 122 [none, none, none, none, none, none, none] [] S' Q) (hX1 : ∀ (x0 : Option Nat) (x1 : Int32) (S' : cS), X (1, x0, x1, S') → cX G o dX11_proof mX11_proof 251 [some (va_rf x0), some (.int x1), none, none, none, none, none] [] S' Q) {rec : Option Nat → Int32 → Int32 → Option Nat → Int32 → cS → Nat × Option Nat × Int32 × cS} {rok : Option Nat → Int32 → Int32 → Option Nat → Int32 → cS → Prop} (hrec : ∀ (x0 : Option Nat) (x1 : Int32) (x3 : Int32) (x4 : Option Nat) (x5 : Int32) (S : cS), rok x0 x1 x3 x4 x5 S → X (rec x0 x1 x3 x4 x5 S) → cX G o dX11_proof mX11_proof 75 [some (va_rf x0), some (.int x1), none, some (.int x3), some (va_rf x4), some (.int x5), none] [] S Q) {x0 : Option Nat} {x1 : Int32} {x3 : Int32} {x4 : Option Nat} {x5 : Int32} (ok : O_X11_proof_245 N rok x0 x1 x3 x4 x5 S) (hx : X (F_X11_proof_245 N rec x0 x1 x3 x4 x5 S)) : cX G o dX11_proof mX11_proof 245 [some (va_rf x0), some (.int x1), none, some (.int x3), some (va_rf x4), some (.int x5), none] [] S Q := by
  unfold O_X11_proof_245 at ok
  unfold F_X11_proof_245 at hx
  refine c_iinc_5 (v := (x5 + nI 32)) dX11_proof_245 rfl (by first | rfl | (congr 1)) (by decide) (by simp [zok, zg, zcat_rf]) ?_
  refine c_goto (tgt := 75) dX11_proof_248 (by decide) ?_
  exact cX.cutz (hrec _ _ _ _ _ S ok hx) ⟨rfl, rfl, rfl, rfl, rfl, trivial⟩
def F_X11_proof_235 (N : Nat) (rec : Option Nat → Int32 → Int32 → Option Nat → Int32 → cS → Nat × Option Nat × Int32 × cS) (x0 : Option Nat) (x1 : Int32) (x3 : Int32) (x4 : Option Nat) (x5 : Int32) (S : cS) : Nat × Option Nat × Int32 × cS := (F_X11_proof_245 N rec x0 x1 x3 x4 x5 (f_X2_close N S (za x4) (cR S 2 (za x0)) (nI 0)))
def O_X11_proof_235 (N : Nat) (rok : Option Nat → Int32 → Int32 → Option Nat → Int32 → cS → Prop) (x0 : Option Nat) (x1 : Int32) (x3 : Int32) (x4 : Option Nat) (x5 : Int32) (S : cS) : Prop := (cis S x0 10) ∧ (cis S x4 3 ∧ o_X2_close N S (za x4) (cR S 2 (za x0)) (nI 0)) ∧ O_X11_proof_245 N rok x0 x1 x3 x4 x5 (f_X2_close N S (za x4) (cR S 2 (za x0)) (nI 0))
set_option maxRecDepth 100000 in
set_option maxHeartbeats 4000000 in
theorem b_X11_proof_235 {G : zG} {o : cO} {S : cS} {N : Nat} {Q : Option Value → cS → Prop} {X : Nat × Option Nat × Int32 × cS → Prop} (hG : zOK G) (hX0 : ∀ (x0 : Option Nat) (x1 : Int32) (S' : cS), X (0, x0, x1, S') → cX G o dX11_proof mX11_proof 122 [none, none, none, none, none, none, none] [] S' Q) (hX1 : ∀ (x0 : Option Nat) (x1 : Int32) (S' : cS), X (1, x0, x1, S') → cX G o dX11_proof mX11_proof 251 [some (va_rf x0), some (.int x1), none, none, none, none, none] [] S' Q) {rec : Option Nat → Int32 → Int32 → Option Nat → Int32 → cS → Nat × Option Nat × Int32 × cS} {rok : Option Nat → Int32 → Int32 → Option Nat → Int32 → cS → Prop} (hrec : ∀ (x0 : Option Nat) (x1 : Int32) (x3 : Int32) (x4 : Option Nat) (x5 : Int32) (S : cS), rok x0 x1 x3 x4 x5 S → X (rec x0 x1 x3 x4 x5 S) → cX G o dX11_proof mX11_proof 75 [some (va_rf x0), some (.int x1), none, some (.int x3), some (va_rf x4), some (.int x5), none] [] S Q) {x0 : Option Nat} {x1 : Int32} {x3 : Int32} {x4 : Option Nat} {x5 : Int32} (ok : O_X11_proof_235 N rok x0 x1 x3 x4 x5 S) (hx : X (F_X11_proof_235 N rec x0 x1 x3 x4 x5 S)) : cX G o dX11_proof mX11_proof 235 [some (va_rf x0), some (.int x1), none, some (.int x3), some (va_rf x4), some (.int x5), none] [] S Q := by
  unfold O_X11_proof_235 at ok
  unfold F_X11_proof_235 at hx
  refine c_aloadQ dX11_proof_235 rfl ?_
  refine c_aload_nQ dX11_proof_237 rfl rfl ?_
  refine c_getR (C := RX11) (T := TX11) (N := 4) (ci := 9) (k := 2) ⟨rfl, inT11, by decide, fX11_13⟩ (by decide) (by decide) (by decide) dX11_proof_238 ok.1 ?_
  have ok := ok.2
  refine c_iconst (v := nI 0) dX11_proof_241 (by decide) ?_
  refine c_V2vE (ci := 2) (rr := (RX2, TX2, 6)) (y' := mX2_close) dX11_proof_242 lX11_301 kX2_close ⟨by decide, by decide⟩ rfl rfl (by decide) ok.1.1 (Nat.le_of_ble_eq_true rfl) (cc_X2_close hG ok.1.2) ?_
  have ok := ok.2
  exact cX.cutz (b_X11_proof_245 hG hX0 hX1 hrec ok hx) ⟨rfl, rfl, rfl, rfl, rfl, trivial⟩
def F_X11_proof_232 (N : Nat) (rec : Option Nat → Int32 → Int32 → Option Nat → Int32 → cS → Nat × Option Nat × Int32 × cS) (x0 : Option Nat) (x1 : Int32) (x3 : Int32) (x4 : Option Nat) (x5 : Int32) (s0 : Option Nat) (s1 : Option Nat) (s2 : Int32) (s3 : Int32) (S : cS) : Nat × Option Nat × Int32 × cS := (F_X11_proof_235 N rec x0 x1 x3 x4 x5 (f_X2_add_ N S (za s0) s1 s2 s3))
def O_X11_proof_232 (N : Nat) (rok : Option Nat → Int32 → Int32 → Option Nat → Int32 → cS → Prop) (x0 : Option Nat) (x1 : Int32) (x3 : Int32) (x4 : Option Nat) (x5 : Int32) (s0 : Option Nat) (s1 : Option Nat) (s2 : Int32) (s3 : Int32) (S : cS) : Prop := (cis S s0 3 ∧ o_X2_add_ N S (za s0) s1 s2 s3) ∧ O_X11_proof_235 N rok x0 x1 x3 x4 x5 (f_X2_add_ N S (za s0) s1 s2 s3)
set_option maxRecDepth 100000 in
set_option maxHeartbeats 4000000 in
theorem b_X11_proof_232 {G : zG} {o : cO} {S : cS} {N : Nat} {Q : Option Value → cS → Prop} {X : Nat × Option Nat × Int32 × cS → Prop} (hG : zOK G) (hX0 : ∀ (x0 : Option Nat) (x1 : Int32) (S' : cS), X (0, x0, x1, S') → cX G o dX11_proof mX11_proof 122 [none, none, none, none, none, none, none] [] S' Q) (hX1 : ∀ (x0 : Option Nat) (x1 : Int32) (S' : cS), X (1, x0, x1, S') → cX G o dX11_proof mX11_proof 251 [some (va_rf x0), some (.int x1), none, none, none, none, none] [] S' Q) {rec : Option Nat → Int32 → Int32 → Option Nat → Int32 → cS → Nat × Option Nat × Int32 × cS} {rok : Option Nat → Int32 → Int32 → Option Nat → Int32 → cS → Prop} (hrec : ∀ (x0 : Option Nat) (x1 : Int32) (x3 : Int32) (x4 : Option Nat) (x5 : Int32) (S : cS), rok x0 x1 x3 x4 x5 S → X (rec x0 x1 x3 x4 x5 S) → cX G o dX11_proof mX11_proof 75 [some (va_rf x0), some (.int x1), none, some (.int x3), some (va_rf x4), some (.int x5), none] [] S Q) {x0 : Option Nat} {x1 : Int32} {x3 : Int32} {x4 : Option Nat} {x5 : Int32} {s0 : Option Nat} {s1 : Option Nat} {s2 : Int32} {s3 : Int32} (ok : O_X11_proof_232 N rok x0 x1 x3 x4 x5 s0 s1 s2 s3 S) (hx : X (F_X11_proof_232 N rec x0 x1 x3 x4 x5 s0 s1 s2 s3 S)) : cX G o dX11_proof mX11_proof 232 [some (va_rf x0), some (.int x1), none, some (.int x3), some (va_rf x4), some (.int x5), none] [.int s3, .int s2, va_rf s1, va_rf s0] S Q := by
  unfold O_X11_proof_232 at ok
  unfold F_X11_proof_232 at hx
  refine c_V3vE (ci := 2) (rr := (RX2, TX2, 6)) (y' := mX2_add_) dX11_proof_232 lX11_298 kX2_add_ ⟨by decide, by decide⟩ rfl rfl (by decide) ok.1.1 (Nat.le_of_ble_eq_true rfl) (cc_X2_add_ hG ok.1.2) ?_
  have ok := ok.2
  exact cX.cutz (b_X11_proof_235 hG hX0 hX1 hrec ok hx) ⟨rfl, rfl, rfl, rfl, rfl, trivial⟩
def F_X11_proof_216 (N : Nat) (rec : Option Nat → Int32 → Int32 → Option Nat → Int32 → cS → Nat × Option Nat × Int32 × cS) (x0 : Option Nat) (x1 : Int32) (x3 : Int32) (x4 : Option Nat) (x5 : Int32) (x6 : Int32) (s0 : Option Nat) (s1 : Option Nat) (s2 : Int32) (S : cS) : Nat × Option Nat × Int32 × cS := (if x6 = (nI 1) then (F_X11_proof_232 N rec x0 x1 x3 x4 x5 s0 s1 s2 (nI 32) S) else (F_X11_proof_232 N rec x0 x1 x3 x4 x5 s0 s1 s2 (x5 + (nI 32)) S))
def O_X11_proof_216 (N : Nat) (rok : Option Nat → Int32 → Int32 → Option Nat → Int32 → cS → Prop) (x0 : Option Nat) (x1 : Int32) (x3 : Int32) (x4 : Option Nat) (x5 : Int32) (x6 : Int32) (s0 : Option Nat) (s1 : Option Nat) (s2 : Int32) (S : cS) : Prop := ((x6 = (nI 1) → O_X11_proof_232 N rok x0 x1 x3 x4 x5 s0 s1 s2 (nI 32) S) ∧ (¬ x6 = (nI 1) → O_X11_proof_232 N rok x0 x1 x3 x4 x5 s0 s1 s2 (x5 + (nI 32)) S))
set_option maxRecDepth 100000 in
set_option maxHeartbeats 4000000 in
theorem b_X11_proof_216 {G : zG} {o : cO} {S : cS} {N : Nat} {Q : Option Value → cS → Prop} {X : Nat × Option Nat × Int32 × cS → Prop} (hG : zOK G) (hX0 : ∀ (x0 : Option Nat) (x1 : Int32) (S' : cS), X (0, x0, x1, S') → cX G o dX11_proof mX11_proof 122 [none, none, none, none, none, none, none] [] S' Q) (hX1 : ∀ (x0 : Option Nat) (x1 : Int32) (S' : cS), X (1, x0, x1, S') → cX G o dX11_proof mX11_proof 251 [some (va_rf x0), some (.int x1), none, none, none, none, none] [] S' Q) {rec : Option Nat → Int32 → Int32 → Option Nat → Int32 → cS → Nat × Option Nat × Int32 × cS} {rok : Option Nat → Int32 → Int32 → Option Nat → Int32 → cS → Prop} (hrec : ∀ (x0 : Option Nat) (x1 : Int32) (x3 : Int32) (x4 : Option Nat) (x5 : Int32) (S : cS), rok x0 x1 x3 x4 x5 S → X (rec x0 x1 x3 x4 x5 S) → cX G o dX11_proof mX11_proof 75 [some (va_rf x0), some (.int x1), none, some (.int x3), some (va_rf x4), some (.int x5), none] [] S Q) {x0 : Option Nat} {x1 : Int32} {x3 : Int32} {x4 : Option Nat} {x5 : Int32} {x6 : Int32} {s0 : Option Nat} {s1 : Option Nat} {s2 : Int32} (ok : O_X11_proof_216 N rok x0 x1 x3 x4 x5 x6 s0 s1 s2 S) (hx : X (F_X11_proof_216 N rec x0 x1 x3 x4 x5 x6 s0 s1 s2 S)) : cX G o dX11_proof mX11_proof 216 [some (va_rf x0), some (.int x1), none, some (.int x3), some (va_rf x4), some (.int x5), some (.int x6)] [.int s2, va_rf s1, va_rf s0] S Q := by
  unfold O_X11_proof_216 at ok
  unfold F_X11_proof_216 at hx
  refine c_iload dX11_proof_216 rfl ?_
  refine c_iconst (v := nI 1) dX11_proof_218 (by decide) ?_
  refine c_icmp_ne (tgt := 227) dX11_proof_219 (by decide) (fun c_219 => ?_) (fun c_219 => ?_)
  · have ok := ok.2 c_219
    have hx := xif_n c_219 hx
    refine c_iload dX11_proof_227 rfl ?_
    refine c_bipush (v := nI 32) dX11_proof_229 (by decide) ?_
    refine c_iadd dX11_proof_231 ?_
    exact cX.cutz (b_X11_proof_232 hG hX0 hX1 hrec ok hx) ⟨rfl, rfl, rfl, rfl, rfl, trivial⟩
  · have ok := ok.1 c_219
    have hx := xif_p c_219 hx
    refine c_bipush (v := nI 32) dX11_proof_222 (by decide) ?_
    refine c_goto (tgt := 232) dX11_proof_224 (by decide) ?_
    exact cX.cutz (b_X11_proof_232 hG hX0 hX1 hrec ok hx) ⟨rfl, rfl, rfl, rfl, rfl, trivial⟩
def F_X11_proof_204 (N : Nat) (rec : Option Nat → Int32 → Int32 → Option Nat → Int32 → cS → Nat × Option Nat × Int32 × cS) (x0 : Option Nat) (x1 : Int32) (x3 : Int32) (x4 : Option Nat) (x5 : Int32) (x6 : Int32) (s0 : Option Nat) (s1 : Option Nat) (S : cS) : Nat × Option Nat × Int32 × cS := (if x6 = (nI 1) then (F_X11_proof_216 N rec x0 x1 x3 x4 x5 x6 s0 s1 (nI 0) S) else (F_X11_proof_216 N rec x0 x1 x3 x4 x5 x6 s0 s1 x5 S))
def O_X11_proof_204 (N : Nat) (rok : Option Nat → Int32 → Int32 → Option Nat → Int32 → cS → Prop) (x0 : Option Nat) (x1 : Int32) (x3 : Int32) (x4 : Option Nat) (x5 : Int32) (x6 : Int32) (s0 : Option Nat) (s1 : Option Nat) (S : cS) : Prop := ((x6 = (nI 1) → O_X11_proof_216 N rok x0 x1 x3 x4 x5 x6 s0 s1 (nI 0) S) ∧ (¬ x6 = (nI 1) → O_X11_proof_216 N rok x0 x1 x3 x4 x5 x6 s0 s1 x5 S))
set_option maxRecDepth 100000 in
set_option maxHeartbeats 4000000 in
theorem b_X11_proof_204 {G : zG} {o : cO} {S : cS} {N : Nat} {Q : Option Value → cS → Prop} {X : Nat × Option Nat × Int32 × cS → Prop} (hG : zOK G) (hX0 : ∀ (x0 : Option Nat) (x1 : Int32) (S' : cS), X (0, x0, x1, S') → cX G o dX11_proof mX11_proof 122 [none, none, none, none, none, none, none] [] S' Q) (hX1 : ∀ (x0 : Option Nat) (x1 : Int32) (S' : cS), X (1, x0, x1, S') → cX G o dX11_proof mX11_proof 251 [some (va_rf x0), some (.int x1), none, none, none, none, none] [] S' Q) {rec : Option Nat → Int32 → Int32 → Option Nat → Int32 → cS → Nat × Option Nat × Int32 × cS} {rok : Option Nat → Int32 → Int32 → Option Nat → Int32 → cS → Prop} (hrec : ∀ (x0 : Option Nat) (x1 : Int32) (x3 : Int32) (x4 : Option Nat) (x5 : Int32) (S : cS), rok x0 x1 x3 x4 x5 S → X (rec x0 x1 x3 x4 x5 S) → cX G o dX11_proof mX11_proof 75 [some (va_rf x0), some (.int x1), none, some (.int x3), some (va_rf x4), some (.int x5), none] [] S Q) {x0 : Option Nat} {x1 : Int32} {x3 : Int32} {x4 : Option Nat} {x5 : Int32} {x6 : Int32} {s0 : Option Nat} {s1 : Option Nat} (ok : O_X11_proof_204 N rok x0 x1 x3 x4 x5 x6 s0 s1 S) (hx : X (F_X11_proof_204 N rec x0 x1 x3 x4 x5 x6 s0 s1 S)) : cX G o dX11_proof mX11_proof 204 [some (va_rf x0), some (.int x1), none, some (.int x3), some (va_rf x4), some (.int x5), some (.int x6)] [va_rf s1, va_rf s0] S Q := by
  unfold O_X11_proof_204 at ok
  unfold F_X11_proof_204 at hx
  refine c_iload dX11_proof_204 rfl ?_
  refine c_iconst (v := nI 1) dX11_proof_206 (by decide) ?_
  refine c_icmp_ne (tgt := 214) dX11_proof_207 (by decide) (fun c_207 => ?_) (fun c_207 => ?_)
  · have ok := ok.2 c_207
    have hx := xif_n c_207 hx
    refine c_iload dX11_proof_214 rfl ?_
    exact cX.cutz (b_X11_proof_216 hG hX0 hX1 hrec ok hx) ⟨rfl, rfl, rfl, rfl, rfl, rfl, trivial⟩
  · have ok := ok.1 c_207
    have hx := xif_p c_207 hx
    refine c_iconst (v := nI 0) dX11_proof_210 (by decide) ?_
    refine c_goto (tgt := 216) dX11_proof_211 (by decide) ?_
    exact cX.cutz (b_X11_proof_216 hG hX0 hX1 hrec ok hx) ⟨rfl, rfl, rfl, rfl, rfl, rfl, trivial⟩
def F_X11_proof_185 (N : Nat) (rec : Option Nat → Int32 → Int32 → Option Nat → Int32 → cS → Nat × Option Nat × Int32 × cS) (x0 : Option Nat) (x1 : Int32) (x3 : Int32) (x4 : Option Nat) (x5 : Int32) (x6 : Int32) (S : cS) : Nat × Option Nat × Int32 × cS := (if x6 = (nI 1) then (F_X11_proof_204 N rec x0 x1 x3 x4 x5 x6 x4 (cR S 2 (za x0)) S) else (F_X11_proof_204 N rec x0 x1 x3 x4 x5 x6 x4 (cR S 1 (za x0)) S))
def O_X11_proof_185 (N : Nat) (rok : Option Nat → Int32 → Int32 → Option Nat → Int32 → cS → Prop) (x0 : Option Nat) (x1 : Int32) (x3 : Int32) (x4 : Option Nat) (x5 : Int32) (x6 : Int32) (S : cS) : Prop := ((x6 = (nI 1) → (cis S x0 10) ∧ O_X11_proof_204 N rok x0 x1 x3 x4 x5 x6 x4 (cR S 2 (za x0)) S) ∧ (¬ x6 = (nI 1) → (cis S x0 10) ∧ O_X11_proof_204 N rok x0 x1 x3 x4 x5 x6 x4 (cR S 1 (za x0)) S))
set_option maxRecDepth 100000 in
set_option maxHeartbeats 4000000 in
theorem b_X11_proof_185 {G : zG} {o : cO} {S : cS} {N : Nat} {Q : Option Value → cS → Prop} {X : Nat × Option Nat × Int32 × cS → Prop} (hG : zOK G) (hX0 : ∀ (x0 : Option Nat) (x1 : Int32) (S' : cS), X (0, x0, x1, S') → cX G o dX11_proof mX11_proof 122 [none, none, none, none, none, none, none] [] S' Q) (hX1 : ∀ (x0 : Option Nat) (x1 : Int32) (S' : cS), X (1, x0, x1, S') → cX G o dX11_proof mX11_proof 251 [some (va_rf x0), some (.int x1), none, none, none, none, none] [] S' Q) {rec : Option Nat → Int32 → Int32 → Option Nat → Int32 → cS → Nat × Option Nat × Int32 × cS} {rok : Option Nat → Int32 → Int32 → Option Nat → Int32 → cS → Prop} (hrec : ∀ (x0 : Option Nat) (x1 : Int32) (x3 : Int32) (x4 : Option Nat) (x5 : Int32) (S : cS), rok x0 x1 x3 x4 x5 S → X (rec x0 x1 x3 x4 x5 S) → cX G o dX11_proof mX11_proof 75 [some (va_rf x0), some (.int x1), none, some (.int x3), some (va_rf x4), some (.int x5), none] [] S Q) {x0 : Option Nat} {x1 : Int32} {x3 : Int32} {x4 : Option Nat} {x5 : Int32} {x6 : Int32} (ok : O_X11_proof_185 N rok x0 x1 x3 x4 x5 x6 S) (hx : X (F_X11_proof_185 N rec x0 x1 x3 x4 x5 x6 S)) : cX G o dX11_proof mX11_proof 185 [some (va_rf x0), some (.int x1), none, some (.int x3), some (va_rf x4), some (.int x5), some (.int x6)] [] S Q := by
  unfold O_X11_proof_185 at ok
  unfold F_X11_proof_185 at hx
  refine c_aloadQ dX11_proof_185 rfl ?_
  refine c_iload dX11_proof_187 rfl ?_
  refine c_iconst (v := nI 1) dX11_proof_189 (by decide) ?_
  refine c_icmp_ne (tgt := 200) dX11_proof_190 (by decide) (fun c_190 => ?_) (fun c_190 => ?_)
  · have ok := ok.2 c_190
    have hx := xif_n c_190 hx
    refine c_aload_nQ dX11_proof_200 rfl rfl ?_
    refine c_getR (C := RX11) (T := TX11) (N := 4) (ci := 9) (k := 1) ⟨rfl, inT11, by decide, fX11_9⟩ (by decide) (by decide) (by decide) dX11_proof_201 ok.1 ?_
    have ok := ok.2
    exact cX.cutz (b_X11_proof_204 hG hX0 hX1 hrec ok hx) ⟨rfl, rfl, rfl, rfl, rfl, rfl, trivial⟩
  · have ok := ok.1 c_190
    have hx := xif_p c_190 hx
    refine c_aload_nQ dX11_proof_193 rfl rfl ?_
    refine c_getR (C := RX11) (T := TX11) (N := 4) (ci := 9) (k := 2) ⟨rfl, inT11, by decide, fX11_13⟩ (by decide) (by decide) (by decide) dX11_proof_194 ok.1 ?_
    have ok := ok.2
    refine c_goto (tgt := 204) dX11_proof_197 (by decide) ?_
    exact cX.cutz (b_X11_proof_204 hG hX0 hX1 hrec ok hx) ⟨rfl, rfl, rfl, rfl, rfl, rfl, trivial⟩
def F_X11_proof_182 (N : Nat) (rec : Option Nat → Int32 → Int32 → Option Nat → Int32 → cS → Nat × Option Nat × Int32 × cS) (x0 : Option Nat) (x1 : Int32) (x3 : Int32) (x4 : Option Nat) (x5 : Int32) (x6 : Int32) (s0 : Option Nat) (s1 : Option Nat) (s2 : Int32) (s3 : Int32) (S : cS) : Nat × Option Nat × Int32 × cS := (F_X11_proof_185 N rec x0 x1 x3 x4 x5 x6 (f_X2_add_ N S (za s0) s1 s2 s3))
def O_X11_proof_182 (N : Nat) (rok : Option Nat → Int32 → Int32 → Option Nat → Int32 → cS → Prop) (x0 : Option Nat) (x1 : Int32) (x3 : Int32) (x4 : Option Nat) (x5 : Int32) (x6 : Int32) (s0 : Option Nat) (s1 : Option Nat) (s2 : Int32) (s3 : Int32) (S : cS) : Prop := (cis S s0 3 ∧ o_X2_add_ N S (za s0) s1 s2 s3) ∧ O_X11_proof_185 N rok x0 x1 x3 x4 x5 x6 (f_X2_add_ N S (za s0) s1 s2 s3)
set_option maxRecDepth 100000 in
set_option maxHeartbeats 4000000 in
theorem b_X11_proof_182 {G : zG} {o : cO} {S : cS} {N : Nat} {Q : Option Value → cS → Prop} {X : Nat × Option Nat × Int32 × cS → Prop} (hG : zOK G) (hX0 : ∀ (x0 : Option Nat) (x1 : Int32) (S' : cS), X (0, x0, x1, S') → cX G o dX11_proof mX11_proof 122 [none, none, none, none, none, none, none] [] S' Q) (hX1 : ∀ (x0 : Option Nat) (x1 : Int32) (S' : cS), X (1, x0, x1, S') → cX G o dX11_proof mX11_proof 251 [some (va_rf x0), some (.int x1), none, none, none, none, none] [] S' Q) {rec : Option Nat → Int32 → Int32 → Option Nat → Int32 → cS → Nat × Option Nat × Int32 × cS} {rok : Option Nat → Int32 → Int32 → Option Nat → Int32 → cS → Prop} (hrec : ∀ (x0 : Option Nat) (x1 : Int32) (x3 : Int32) (x4 : Option Nat) (x5 : Int32) (S : cS), rok x0 x1 x3 x4 x5 S → X (rec x0 x1 x3 x4 x5 S) → cX G o dX11_proof mX11_proof 75 [some (va_rf x0), some (.int x1), none, some (.int x3), some (va_rf x4), some (.int x5), none] [] S Q) {x0 : Option Nat} {x1 : Int32} {x3 : Int32} {x4 : Option Nat} {x5 : Int32} {x6 : Int32} {s0 : Option Nat} {s1 : Option Nat} {s2 : Int32} {s3 : Int32} (ok : O_X11_proof_182 N rok x0 x1 x3 x4 x5 x6 s0 s1 s2 s3 S) (hx : X (F_X11_proof_182 N rec x0 x1 x3 x4 x5 x6 s0 s1 s2 s3 S)) : cX G o dX11_proof mX11_proof 182 [some (va_rf x0), some (.int x1), none, some (.int x3), some (va_rf x4), some (.int x5), some (.int x6)] [.int s3, .int s2, va_rf s1, va_rf s0] S Q := by
  unfold O_X11_proof_182 at ok
  unfold F_X11_proof_182 at hx
  refine c_V3vE (ci := 2) (rr := (RX2, TX2, 6)) (y' := mX2_add_) dX11_proof_182 lX11_298 kX2_add_ ⟨by decide, by decide⟩ rfl rfl (by decide) ok.1.1 (Nat.le_of_ble_eq_true rfl) (cc_X2_add_ hG ok.1.2) ?_
  have ok := ok.2
  exact cX.cutz (b_X11_proof_185 hG hX0 hX1 hrec ok hx) ⟨rfl, rfl, rfl, rfl, rfl, rfl, trivial⟩
def F_X11_proof_166 (N : Nat) (rec : Option Nat → Int32 → Int32 → Option Nat → Int32 → cS → Nat × Option Nat × Int32 × cS) (x0 : Option Nat) (x1 : Int32) (x3 : Int32) (x4 : Option Nat) (x5 : Int32) (x6 : Int32) (s0 : Option Nat) (s1 : Option Nat) (s2 : Int32) (S : cS) : Nat × Option Nat × Int32 × cS := (if x6 = (nI 1) then (F_X11_proof_182 N rec x0 x1 x3 x4 x5 x6 s0 s1 s2 (x5 + (nI 32)) S) else (F_X11_proof_182 N rec x0 x1 x3 x4 x5 x6 s0 s1 s2 (nI 32) S))
def O_X11_proof_166 (N : Nat) (rok : Option Nat → Int32 → Int32 → Option Nat → Int32 → cS → Prop) (x0 : Option Nat) (x1 : Int32) (x3 : Int32) (x4 : Option Nat) (x5 : Int32) (x6 : Int32) (s0 : Option Nat) (s1 : Option Nat) (s2 : Int32) (S : cS) : Prop := ((x6 = (nI 1) → O_X11_proof_182 N rok x0 x1 x3 x4 x5 x6 s0 s1 s2 (x5 + (nI 32)) S) ∧ (¬ x6 = (nI 1) → O_X11_proof_182 N rok x0 x1 x3 x4 x5 x6 s0 s1 s2 (nI 32) S))
set_option maxRecDepth 100000 in
set_option maxHeartbeats 4000000 in
theorem b_X11_proof_166 {G : zG} {o : cO} {S : cS} {N : Nat} {Q : Option Value → cS → Prop} {X : Nat × Option Nat × Int32 × cS → Prop} (hG : zOK G) (hX0 : ∀ (x0 : Option Nat) (x1 : Int32) (S' : cS), X (0, x0, x1, S') → cX G o dX11_proof mX11_proof 122 [none, none, none, none, none, none, none] [] S' Q) (hX1 : ∀ (x0 : Option Nat) (x1 : Int32) (S' : cS), X (1, x0, x1, S') → cX G o dX11_proof mX11_proof 251 [some (va_rf x0), some (.int x1), none, none, none, none, none] [] S' Q) {rec : Option Nat → Int32 → Int32 → Option Nat → Int32 → cS → Nat × Option Nat × Int32 × cS} {rok : Option Nat → Int32 → Int32 → Option Nat → Int32 → cS → Prop} (hrec : ∀ (x0 : Option Nat) (x1 : Int32) (x3 : Int32) (x4 : Option Nat) (x5 : Int32) (S : cS), rok x0 x1 x3 x4 x5 S → X (rec x0 x1 x3 x4 x5 S) → cX G o dX11_proof mX11_proof 75 [some (va_rf x0), some (.int x1), none, some (.int x3), some (va_rf x4), some (.int x5), none] [] S Q) {x0 : Option Nat} {x1 : Int32} {x3 : Int32} {x4 : Option Nat} {x5 : Int32} {x6 : Int32} {s0 : Option Nat} {s1 : Option Nat} {s2 : Int32} (ok : O_X11_proof_166 N rok x0 x1 x3 x4 x5 x6 s0 s1 s2 S) (hx : X (F_X11_proof_166 N rec x0 x1 x3 x4 x5 x6 s0 s1 s2 S)) : cX G o dX11_proof mX11_proof 166 [some (va_rf x0), some (.int x1), none, some (.int x3), some (va_rf x4), some (.int x5), some (.int x6)] [.int s2, va_rf s1, va_rf s0] S Q := by
  unfold O_X11_proof_166 at ok
  unfold F_X11_proof_166 at hx
  refine c_iload dX11_proof_166 rfl ?_
  refine c_iconst (v := nI 1) dX11_proof_168 (by decide) ?_
  refine c_icmp_ne (tgt := 180) dX11_proof_169 (by decide) (fun c_169 => ?_) (fun c_169 => ?_)
  · have ok := ok.2 c_169
    have hx := xif_n c_169 hx
    refine c_bipush (v := nI 32) dX11_proof_180 (by decide) ?_
    exact cX.cutz (b_X11_proof_182 hG hX0 hX1 hrec ok hx) ⟨rfl, rfl, rfl, rfl, rfl, rfl, trivial⟩
  · have ok := ok.1 c_169
    have hx := xif_p c_169 hx
    refine c_iload dX11_proof_172 rfl ?_
    refine c_bipush (v := nI 32) dX11_proof_174 (by decide) ?_
    refine c_iadd dX11_proof_176 ?_
    refine c_goto (tgt := 182) dX11_proof_177 (by decide) ?_
    exact cX.cutz (b_X11_proof_182 hG hX0 hX1 hrec ok hx) ⟨rfl, rfl, rfl, rfl, rfl, rfl, trivial⟩
def F_X11_proof_154 (N : Nat) (rec : Option Nat → Int32 → Int32 → Option Nat → Int32 → cS → Nat × Option Nat × Int32 × cS) (x0 : Option Nat) (x1 : Int32) (x3 : Int32) (x4 : Option Nat) (x5 : Int32) (x6 : Int32) (s0 : Option Nat) (s1 : Option Nat) (S : cS) : Nat × Option Nat × Int32 × cS := (if x6 = (nI 1) then (F_X11_proof_166 N rec x0 x1 x3 x4 x5 x6 s0 s1 x5 S) else (F_X11_proof_166 N rec x0 x1 x3 x4 x5 x6 s0 s1 (nI 0) S))
def O_X11_proof_154 (N : Nat) (rok : Option Nat → Int32 → Int32 → Option Nat → Int32 → cS → Prop) (x0 : Option Nat) (x1 : Int32) (x3 : Int32) (x4 : Option Nat) (x5 : Int32) (x6 : Int32) (s0 : Option Nat) (s1 : Option Nat) (S : cS) : Prop := ((x6 = (nI 1) → O_X11_proof_166 N rok x0 x1 x3 x4 x5 x6 s0 s1 x5 S) ∧ (¬ x6 = (nI 1) → O_X11_proof_166 N rok x0 x1 x3 x4 x5 x6 s0 s1 (nI 0) S))
set_option maxRecDepth 100000 in
set_option maxHeartbeats 4000000 in
theorem b_X11_proof_154 {G : zG} {o : cO} {S : cS} {N : Nat} {Q : Option Value → cS → Prop} {X : Nat × Option Nat × Int32 × cS → Prop} (hG : zOK G) (hX0 : ∀ (x0 : Option Nat) (x1 : Int32) (S' : cS), X (0, x0, x1, S') → cX G o dX11_proof mX11_proof 122 [none, none, none, none, none, none, none] [] S' Q) (hX1 : ∀ (x0 : Option Nat) (x1 : Int32) (S' : cS), X (1, x0, x1, S') → cX G o dX11_proof mX11_proof 251 [some (va_rf x0), some (.int x1), none, none, none, none, none] [] S' Q) {rec : Option Nat → Int32 → Int32 → Option Nat → Int32 → cS → Nat × Option Nat × Int32 × cS} {rok : Option Nat → Int32 → Int32 → Option Nat → Int32 → cS → Prop} (hrec : ∀ (x0 : Option Nat) (x1 : Int32) (x3 : Int32) (x4 : Option Nat) (x5 : Int32) (S : cS), rok x0 x1 x3 x4 x5 S → X (rec x0 x1 x3 x4 x5 S) → cX G o dX11_proof mX11_proof 75 [some (va_rf x0), some (.int x1), none, some (.int x3), some (va_rf x4), some (.int x5), none] [] S Q) {x0 : Option Nat} {x1 : Int32} {x3 : Int32} {x4 : Option Nat} {x5 : Int32} {x6 : Int32} {s0 : Option Nat} {s1 : Option Nat} (ok : O_X11_proof_154 N rok x0 x1 x3 x4 x5 x6 s0 s1 S) (hx : X (F_X11_proof_154 N rec x0 x1 x3 x4 x5 x6 s0 s1 S)) : cX G o dX11_proof mX11_proof 154 [some (va_rf x0), some (.int x1), none, some (.int x3), some (va_rf x4), some (.int x5), some (.int x6)] [va_rf s1, va_rf s0] S Q := by
  unfold O_X11_proof_154 at ok
  unfold F_X11_proof_154 at hx
  refine c_iload dX11_proof_154 rfl ?_
  refine c_iconst (v := nI 1) dX11_proof_156 (by decide) ?_
  refine c_icmp_ne (tgt := 165) dX11_proof_157 (by decide) (fun c_157 => ?_) (fun c_157 => ?_)
  · have ok := ok.2 c_157
    have hx := xif_n c_157 hx
    refine c_iconst (v := nI 0) dX11_proof_165 (by decide) ?_
    exact cX.cutz (b_X11_proof_166 hG hX0 hX1 hrec ok hx) ⟨rfl, rfl, rfl, rfl, rfl, rfl, trivial⟩
  · have ok := ok.1 c_157
    have hx := xif_p c_157 hx
    refine c_iload dX11_proof_160 rfl ?_
    refine c_goto (tgt := 166) dX11_proof_162 (by decide) ?_
    exact cX.cutz (b_X11_proof_166 hG hX0 hX1 hrec ok hx) ⟨rfl, rfl, rfl, rfl, rfl, rfl, trivial⟩
def F_X11_proof_135 (N : Nat) (rec : Option Nat → Int32 → Int32 → Option Nat → Int32 → cS → Nat × Option Nat × Int32 × cS) (x0 : Option Nat) (x1 : Int32) (x3 : Int32) (x4 : Option Nat) (x5 : Int32) (x6 : Int32) (S : cS) : Nat × Option Nat × Int32 × cS := (if x6 = (nI 1) then (F_X11_proof_154 N rec x0 x1 x3 x4 x5 x6 x4 (cR S 1 (za x0)) S) else (F_X11_proof_154 N rec x0 x1 x3 x4 x5 x6 x4 (cR S 2 (za x0)) S))
def O_X11_proof_135 (N : Nat) (rok : Option Nat → Int32 → Int32 → Option Nat → Int32 → cS → Prop) (x0 : Option Nat) (x1 : Int32) (x3 : Int32) (x4 : Option Nat) (x5 : Int32) (x6 : Int32) (S : cS) : Prop := ((x6 = (nI 1) → (cis S x0 10) ∧ O_X11_proof_154 N rok x0 x1 x3 x4 x5 x6 x4 (cR S 1 (za x0)) S) ∧ (¬ x6 = (nI 1) → (cis S x0 10) ∧ O_X11_proof_154 N rok x0 x1 x3 x4 x5 x6 x4 (cR S 2 (za x0)) S))
set_option maxRecDepth 100000 in
set_option maxHeartbeats 4000000 in
theorem b_X11_proof_135 {G : zG} {o : cO} {S : cS} {N : Nat} {Q : Option Value → cS → Prop} {X : Nat × Option Nat × Int32 × cS → Prop} (hG : zOK G) (hX0 : ∀ (x0 : Option Nat) (x1 : Int32) (S' : cS), X (0, x0, x1, S') → cX G o dX11_proof mX11_proof 122 [none, none, none, none, none, none, none] [] S' Q) (hX1 : ∀ (x0 : Option Nat) (x1 : Int32) (S' : cS), X (1, x0, x1, S') → cX G o dX11_proof mX11_proof 251 [some (va_rf x0), some (.int x1), none, none, none, none, none] [] S' Q) {rec : Option Nat → Int32 → Int32 → Option Nat → Int32 → cS → Nat × Option Nat × Int32 × cS} {rok : Option Nat → Int32 → Int32 → Option Nat → Int32 → cS → Prop} (hrec : ∀ (x0 : Option Nat) (x1 : Int32) (x3 : Int32) (x4 : Option Nat) (x5 : Int32) (S : cS), rok x0 x1 x3 x4 x5 S → X (rec x0 x1 x3 x4 x5 S) → cX G o dX11_proof mX11_proof 75 [some (va_rf x0), some (.int x1), none, some (.int x3), some (va_rf x4), some (.int x5), none] [] S Q) {x0 : Option Nat} {x1 : Int32} {x3 : Int32} {x4 : Option Nat} {x5 : Int32} {x6 : Int32} (ok : O_X11_proof_135 N rok x0 x1 x3 x4 x5 x6 S) (hx : X (F_X11_proof_135 N rec x0 x1 x3 x4 x5 x6 S)) : cX G o dX11_proof mX11_proof 135 [some (va_rf x0), some (.int x1), none, some (.int x3), some (va_rf x4), some (.int x5), some (.int x6)] [] S Q := by
  unfold O_X11_proof_135 at ok
  unfold F_X11_proof_135 at hx
  refine c_aloadQ dX11_proof_135 rfl ?_
  refine c_iload dX11_proof_137 rfl ?_
  refine c_iconst (v := nI 1) dX11_proof_139 (by decide) ?_
  refine c_icmp_ne (tgt := 150) dX11_proof_140 (by decide) (fun c_140 => ?_) (fun c_140 => ?_)
  · have ok := ok.2 c_140
    have hx := xif_n c_140 hx
    refine c_aload_nQ dX11_proof_150 rfl rfl ?_
    refine c_getR (C := RX11) (T := TX11) (N := 4) (ci := 9) (k := 2) ⟨rfl, inT11, by decide, fX11_13⟩ (by decide) (by decide) (by decide) dX11_proof_151 ok.1 ?_
    have ok := ok.2
    exact cX.cutz (b_X11_proof_154 hG hX0 hX1 hrec ok hx) ⟨rfl, rfl, rfl, rfl, rfl, rfl, trivial⟩
  · have ok := ok.1 c_140
    have hx := xif_p c_140 hx
    refine c_aload_nQ dX11_proof_143 rfl rfl ?_
    refine c_getR (C := RX11) (T := TX11) (N := 4) (ci := 9) (k := 1) ⟨rfl, inT11, by decide, fX11_9⟩ (by decide) (by decide) (by decide) dX11_proof_144 ok.1 ?_
    have ok := ok.2
    refine c_goto (tgt := 154) dX11_proof_147 (by decide) ?_
    exact cX.cutz (b_X11_proof_154 hG hX0 hX1 hrec ok hx) ⟨rfl, rfl, rfl, rfl, rfl, rfl, trivial⟩
def F_X11_proof_129 (N : Nat) (rec : Option Nat → Int32 → Int32 → Option Nat → Int32 → cS → Nat × Option Nat × Int32 × cS) (x0 : Option Nat) (x1 : Int32) (x3 : Int32) (x4 : Option Nat) (x5 : Int32) (x6 : Int32) (S : cS) : Nat × Option Nat × Int32 × cS := (F_X11_proof_135 N rec x0 x1 x3 x4 x5 x6 (f_X2_add N S (za x4) (nI 1)))
def O_X11_proof_129 (N : Nat) (rok : Option Nat → Int32 → Int32 → Option Nat → Int32 → cS → Prop) (x0 : Option Nat) (x1 : Int32) (x3 : Int32) (x4 : Option Nat) (x5 : Int32) (x6 : Int32) (S : cS) : Prop := (cis S x4 3 ∧ o_X2_add N S (za x4) (nI 1)) ∧ O_X11_proof_135 N rok x0 x1 x3 x4 x5 x6 (f_X2_add N S (za x4) (nI 1))
set_option maxRecDepth 100000 in
set_option maxHeartbeats 4000000 in
theorem b_X11_proof_129 {G : zG} {o : cO} {S : cS} {N : Nat} {Q : Option Value → cS → Prop} {X : Nat × Option Nat × Int32 × cS → Prop} (hG : zOK G) (hX0 : ∀ (x0 : Option Nat) (x1 : Int32) (S' : cS), X (0, x0, x1, S') → cX G o dX11_proof mX11_proof 122 [none, none, none, none, none, none, none] [] S' Q) (hX1 : ∀ (x0 : Option Nat) (x1 : Int32) (S' : cS), X (1, x0, x1, S') → cX G o dX11_proof mX11_proof 251 [some (va_rf x0), some (.int x1), none, none, none, none, none] [] S' Q) {rec : Option Nat → Int32 → Int32 → Option Nat → Int32 → cS → Nat × Option Nat × Int32 × cS} {rok : Option Nat → Int32 → Int32 → Option Nat → Int32 → cS → Prop} (hrec : ∀ (x0 : Option Nat) (x1 : Int32) (x3 : Int32) (x4 : Option Nat) (x5 : Int32) (S : cS), rok x0 x1 x3 x4 x5 S → X (rec x0 x1 x3 x4 x5 S) → cX G o dX11_proof mX11_proof 75 [some (va_rf x0), some (.int x1), none, some (.int x3), some (va_rf x4), some (.int x5), none] [] S Q) {x0 : Option Nat} {x1 : Int32} {x3 : Int32} {x4 : Option Nat} {x5 : Int32} {x6 : Int32} (ok : O_X11_proof_129 N rok x0 x1 x3 x4 x5 x6 S) (hx : X (F_X11_proof_129 N rec x0 x1 x3 x4 x5 x6 S)) : cX G o dX11_proof mX11_proof 129 [some (va_rf x0), some (.int x1), none, some (.int x3), some (va_rf x4), some (.int x5), some (.int x6)] [] S Q := by
  unfold O_X11_proof_129 at ok
  unfold F_X11_proof_129 at hx
  refine c_aloadQ dX11_proof_129 rfl ?_
  refine c_iconst (v := nI 1) dX11_proof_131 (by decide) ?_
  refine c_V1vE (ci := 2) (rr := (RX2, TX2, 6)) (y' := mX2_add) dX11_proof_132 lX11_295 kX2_add ⟨by decide, by decide⟩ rfl rfl (by decide) ok.1.1 (Nat.le_of_ble_eq_true rfl) (cc_X2_add hG ok.1.2) ?_
  have ok := ok.2
  exact cX.cutz (b_X11_proof_135 hG hX0 hX1 hrec ok hx) ⟨rfl, rfl, rfl, rfl, rfl, rfl, trivial⟩
def F_X11_proof_122 (N : Nat)  (S : cS) : Int32 × cS := ((nI 0), S)
def O_X11_proof_122 (N : Nat)  (S : cS) : Prop := True
set_option maxRecDepth 100000 in
set_option maxHeartbeats 4000000 in
theorem b_X11_proof_122 {G : zG} {o : cO} {S : cS} {N : Nat} {Q : Option Value → cS → Prop} {X : Int32 × cS → Prop} (hG : zOK G) (hR : ∀ v S', X (v, S') → Q (some (.int v)) S') (ok : O_X11_proof_122 N S) (hx : X (F_X11_proof_122 N S)) : cX G o dX11_proof mX11_proof 122 [none, none, none, none, none, none, none] [] S Q := by
  unfold O_X11_proof_122 at ok
  unfold F_X11_proof_122 at hx
  refine c_iconst (v := nI 0) dX11_proof_122 (by decide) ?_
  exact c_ireturn rfl rfl dX11_proof_123 (hR _ _ hx)
def F_X11_proof_113 (N : Nat) (rec : Option Nat → Int32 → Int32 → Option Nat → Int32 → cS → Nat × Option Nat × Int32 × cS) (x0 : Option Nat) (x1 : Int32) (x3 : Int32) (x4 : Option Nat) (x5 : Int32) (x6 : Int32) (S : cS) : Nat × Option Nat × Int32 × cS := (if (nI 32) ≤ (x3 - x5) then (F_X11_proof_129 N rec x0 x1 x3 x4 x5 x6 (f_X2_open N S (za x4))) else (0, none, 0, S))
def O_X11_proof_113 (N : Nat) (rok : Option Nat → Int32 → Int32 → Option Nat → Int32 → cS → Prop) (x0 : Option Nat) (x1 : Int32) (x3 : Int32) (x4 : Option Nat) (x5 : Int32) (x6 : Int32) (S : cS) : Prop := (((nI 32) ≤ (x3 - x5) → (cis S x4 3 ∧ o_X2_open N S (za x4)) ∧ O_X11_proof_129 N rok x0 x1 x3 x4 x5 x6 (f_X2_open N S (za x4))) ∧ (¬ (nI 32) ≤ (x3 - x5) → True))
set_option maxRecDepth 100000 in
set_option maxHeartbeats 4000000 in
theorem b_X11_proof_113 {G : zG} {o : cO} {S : cS} {N : Nat} {Q : Option Value → cS → Prop} {X : Nat × Option Nat × Int32 × cS → Prop} (hG : zOK G) (hX0 : ∀ (x0 : Option Nat) (x1 : Int32) (S' : cS), X (0, x0, x1, S') → cX G o dX11_proof mX11_proof 122 [none, none, none, none, none, none, none] [] S' Q) (hX1 : ∀ (x0 : Option Nat) (x1 : Int32) (S' : cS), X (1, x0, x1, S') → cX G o dX11_proof mX11_proof 251 [some (va_rf x0), some (.int x1), none, none, none, none, none] [] S' Q) {rec : Option Nat → Int32 → Int32 → Option Nat → Int32 → cS → Nat × Option Nat × Int32 × cS} {rok : Option Nat → Int32 → Int32 → Option Nat → Int32 → cS → Prop} (hrec : ∀ (x0 : Option Nat) (x1 : Int32) (x3 : Int32) (x4 : Option Nat) (x5 : Int32) (S : cS), rok x0 x1 x3 x4 x5 S → X (rec x0 x1 x3 x4 x5 S) → cX G o dX11_proof mX11_proof 75 [some (va_rf x0), some (.int x1), none, some (.int x3), some (va_rf x4), some (.int x5), none] [] S Q) {x0 : Option Nat} {x1 : Int32} {x3 : Int32} {x4 : Option Nat} {x5 : Int32} {x6 : Int32} (ok : O_X11_proof_113 N rok x0 x1 x3 x4 x5 x6 S) (hx : X (F_X11_proof_113 N rec x0 x1 x3 x4 x5 x6 S)) : cX G o dX11_proof mX11_proof 113 [some (va_rf x0), some (.int x1), none, some (.int x3), some (va_rf x4), some (.int x5), some (.int x6)] [] S Q := by
  unfold O_X11_proof_113 at ok
  unfold F_X11_proof_113 at hx
  refine c_iload_n dX11_proof_113 rfl rfl ?_
  refine c_iload dX11_proof_114 rfl ?_
  refine c_isub dX11_proof_116 ?_
  refine c_bipush (v := nI 32) dX11_proof_117 (by decide) ?_
  refine c_icmp_ge (tgt := 124) dX11_proof_119 (by decide) (fun c_119 => ?_) (fun c_119 => ?_)
  · have ok := ok.1 c_119
    have hx := xif_p c_119 hx
    refine c_aloadQ dX11_proof_124 rfl ?_
    refine c_V0vE (ci := 2) (rr := (RX2, TX2, 6)) (y' := mX2_open) dX11_proof_126 lX11_292 kX2_open ⟨by decide, by decide⟩ rfl rfl (by decide) ok.1.1 (Nat.le_of_ble_eq_true rfl) (cc_X2_open hG ok.1.2) ?_
    have ok := ok.2
    exact cX.cutz (b_X11_proof_129 hG hX0 hX1 hrec ok hx) ⟨rfl, rfl, rfl, rfl, rfl, rfl, trivial⟩
  · have ok := ok.2 c_119
    have hx := xif_n c_119 hx
    exact cX.cutz (hX0 _ _ S hx) trivial
def B_X11_proof_75 (N : Nat) (rec : Option Nat → Int32 → Int32 → Option Nat → Int32 → cS → Nat × Option Nat × Int32 × cS) (x0 : Option Nat) (x1 : Int32) (x3 : Int32) (x4 : Option Nat) (x5 : Int32) (S : cS) : Nat × Option Nat × Int32 × cS := (if x3 ≤ x5 then (1, x0, x1, S) else (if (cA S (za (cR S 1 (za x0))) x5.toNatClampNeg) = 0 then (rec x0 x1 x3 x4 (x5 + nI 1) S) else (if (cA S (za (cR S 1 (za x0))) x5.toNatClampNeg) = (nI 1) then (F_X11_proof_113 N rec x0 x1 x3 x4 (x5 + nI 1) (cA S (za (cR S 1 (za x0))) x5.toNatClampNeg) S) else (if (cA S (za (cR S 1 (za x0))) x5.toNatClampNeg) = (nI 2) then (F_X11_proof_113 N rec x0 x1 x3 x4 (x5 + nI 1) (cA S (za (cR S 1 (za x0))) x5.toNatClampNeg) S) else (0, none, 0, S)))))
def OB_X11_proof_75 (N : Nat) (rok : Option Nat → Int32 → Int32 → Option Nat → Int32 → cS → Prop) (x0 : Option Nat) (x1 : Int32) (x3 : Int32) (x4 : Option Nat) (x5 : Int32) (S : cS) : Prop := ((x3 ≤ x5 → True) ∧ (¬ x3 ≤ x5 → (cis S x0 10) ∧ (cis S (cR S 1 (za x0)) 20 ∧ vp_in x5 (cL S (za (cR S 1 (za x0))))) ∧ (((cA S (za (cR S 1 (za x0))) x5.toNatClampNeg) = 0 → rok x0 x1 x3 x4 (x5 + nI 1) S) ∧ (¬ (cA S (za (cR S 1 (za x0))) x5.toNatClampNeg) = 0 → (((cA S (za (cR S 1 (za x0))) x5.toNatClampNeg) = (nI 1) → O_X11_proof_113 N rok x0 x1 x3 x4 (x5 + nI 1) (cA S (za (cR S 1 (za x0))) x5.toNatClampNeg) S) ∧ (¬ (cA S (za (cR S 1 (za x0))) x5.toNatClampNeg) = (nI 1) → (((cA S (za (cR S 1 (za x0))) x5.toNatClampNeg) = (nI 2) → O_X11_proof_113 N rok x0 x1 x3 x4 (x5 + nI 1) (cA S (za (cR S 1 (za x0))) x5.toNatClampNeg) S) ∧ (¬ (cA S (za (cR S 1 (za x0))) x5.toNatClampNeg) = (nI 2) → True))))))))
set_option maxRecDepth 100000 in
set_option maxHeartbeats 4000000 in
theorem bb_X11_proof_75 {G : zG} {o : cO} {S : cS} {N : Nat} {Q : Option Value → cS → Prop} {X : Nat × Option Nat × Int32 × cS → Prop} (hG : zOK G) (hX0 : ∀ (x0 : Option Nat) (x1 : Int32) (S' : cS), X (0, x0, x1, S') → cX G o dX11_proof mX11_proof 122 [none, none, none, none, none, none, none] [] S' Q) (hX1 : ∀ (x0 : Option Nat) (x1 : Int32) (S' : cS), X (1, x0, x1, S') → cX G o dX11_proof mX11_proof 251 [some (va_rf x0), some (.int x1), none, none, none, none, none] [] S' Q) {rec : Option Nat → Int32 → Int32 → Option Nat → Int32 → cS → Nat × Option Nat × Int32 × cS} {rok : Option Nat → Int32 → Int32 → Option Nat → Int32 → cS → Prop} (hrec : ∀ (x0 : Option Nat) (x1 : Int32) (x3 : Int32) (x4 : Option Nat) (x5 : Int32) (S : cS), rok x0 x1 x3 x4 x5 S → X (rec x0 x1 x3 x4 x5 S) → cX G o dX11_proof mX11_proof 75 [some (va_rf x0), some (.int x1), none, some (.int x3), some (va_rf x4), some (.int x5), none] [] S Q) {x0 : Option Nat} {x1 : Int32} {x3 : Int32} {x4 : Option Nat} {x5 : Int32} (ok : OB_X11_proof_75 N rok x0 x1 x3 x4 x5 S) (hx : X (B_X11_proof_75 N rec x0 x1 x3 x4 x5 S)) : cX G o dX11_proof mX11_proof 75 [some (va_rf x0), some (.int x1), none, some (.int x3), some (va_rf x4), some (.int x5), none] [] S Q := by
  unfold OB_X11_proof_75 at ok
  unfold B_X11_proof_75 at hx
  refine c_iload dX11_proof_75 rfl ?_
  refine c_iload_n dX11_proof_77 rfl rfl ?_
  refine c_icmp_ge (tgt := 251) dX11_proof_78 (by decide) (fun c_78 => ?_) (fun c_78 => ?_)
  · have ok := ok.1 c_78
    have hx := xif_p c_78 hx
    exact cX.cutz (hX1 _ _ S hx) ⟨rfl, rfl, trivial⟩
  · have ok := ok.2 c_78
    have hx := xif_n c_78 hx
    refine c_aload_nQ dX11_proof_81 rfl rfl ?_
    refine c_getR (C := RX11) (T := TX11) (N := 4) (ci := 9) (k := 1) ⟨rfl, inT11, by decide, fX11_9⟩ (by decide) (by decide) (by decide) dX11_proof_82 ok.1 ?_
    have ok := ok.2
    refine c_iload dX11_proof_85 rfl ?_
    refine c_bald dX11_proof_87 ok.1 ?_
    have ok := ok.2
    refine c_istore_6 dX11_proof_88 (by decide) rfl ?_
    refine c_iinc_5 (v := (x5 + nI 1)) dX11_proof_90 rfl (by first | rfl | (congr 1)) (by decide) (by simp [zok, zg, zcat_rf]) ?_
    refine c_iload dX11_proof_93 rfl ?_
    refine c_if_ne (tgt := 101) dX11_proof_95 (by decide) (fun c_95 => ?_) (fun c_95 => ?_)
    · have ok := ok.2 c_95
      have hx := xif_n c_95 hx
      refine c_iload dX11_proof_101 rfl ?_
      refine c_iconst (v := nI 1) dX11_proof_103 (by decide) ?_
      refine c_icmp_eq (tgt := 113) dX11_proof_104 (by decide) (fun c_104 => ?_) (fun c_104 => ?_)
      · have ok := ok.1 c_104
        have hx := xif_p c_104 hx
        exact cX.cutz (b_X11_proof_113 hG hX0 hX1 hrec ok hx) ⟨rfl, rfl, rfl, rfl, rfl, rfl, trivial⟩
      · have ok := ok.2 c_104
        have hx := xif_n c_104 hx
        refine c_iload dX11_proof_107 rfl ?_
        refine c_iconst (v := nI 2) dX11_proof_109 (by decide) ?_
        refine c_icmp_ne (tgt := 122) dX11_proof_110 (by decide) (fun c_110 => ?_) (fun c_110 => ?_)
        · have ok := ok.2 c_110
          have hx := xif_n c_110 hx
          exact cX.cutz (hX0 _ _ S hx) trivial
        · have ok := ok.1 c_110
          have hx := xif_p c_110 hx
          exact cX.cutz (b_X11_proof_113 hG hX0 hX1 hrec ok hx) ⟨rfl, rfl, rfl, rfl, rfl, rfl, trivial⟩
    · have ok := ok.1 c_95
      have hx := xif_p c_95 hx
      refine c_goto (tgt := 75) dX11_proof_98 (by decide) ?_
      exact cX.cutz (hrec _ _ _ _ _ S ok hx) ⟨rfl, rfl, rfl, rfl, rfl, trivial⟩
def L_X11_proof_75 (N : Nat) : Nat → Option Nat → Int32 → Int32 → Option Nat → Int32 → cS → Nat × Option Nat × Int32 × cS
  | 0, x0, x1, x3, x4, x5, S => (0, none, 0, S)
  | n + 1, x0, x1, x3, x4, x5, S => B_X11_proof_75 N (L_X11_proof_75 N n) x0 x1 x3 x4 x5 S
def OL_X11_proof_75 (N : Nat) : Nat → Option Nat → Int32 → Int32 → Option Nat → Int32 → cS → Prop
  | 0, _, _, _, _, _, _ => False
  | n + 1, x0, x1, x3, x4, x5, S => OB_X11_proof_75 N (OL_X11_proof_75 N n) x0 x1 x3 x4 x5 S
set_option maxRecDepth 100000 in
set_option maxHeartbeats 4000000 in
theorem l_X11_proof_75 {G : zG} {o : cO} {N : Nat} {Q : Option Value → cS → Prop} {X : Nat × Option Nat × Int32 × cS → Prop} (hG : zOK G) (hX0 : ∀ (x0 : Option Nat) (x1 : Int32) (S' : cS), X (0, x0, x1, S') → cX G o dX11_proof mX11_proof 122 [none, none, none, none, none, none, none] [] S' Q) (hX1 : ∀ (x0 : Option Nat) (x1 : Int32) (S' : cS), X (1, x0, x1, S') → cX G o dX11_proof mX11_proof 251 [some (va_rf x0), some (.int x1), none, none, none, none, none] [] S' Q) : ∀ (n : Nat) (x0 : Option Nat) (x1 : Int32) (x3 : Int32) (x4 : Option Nat) (x5 : Int32) (S : cS), OL_X11_proof_75 N n x0 x1 x3 x4 x5 S → X (L_X11_proof_75 N n x0 x1 x3 x4 x5 S) → cX G o dX11_proof mX11_proof 75 [some (va_rf x0), some (.int x1), none, some (.int x3), some (va_rf x4), some (.int x5), none] [] S Q := by
  intro n
  induction n with
  | zero => intro x0 x1 x3 x4 x5 S ok; exact absurd ok id
  | succ n ih =>
    intro x0 x1 x3 x4 x5 S ok hx
    exact bb_X11_proof_75 hG hX0 hX1 (rec := L_X11_proof_75 N n) (rok := OL_X11_proof_75 N n) (fun x0 x1 x3 x4 x5 S ok hx => ih x0 x1 x3 x4 x5 S ok hx) ok hx
def A_X11_proof_75 (N : Nat) (x0 : Option Nat) (x1 : Int32) (x3 : Int32) (x4 : Option Nat) (x5 : Int32) (S : cS) (z : Nat × Option Nat × Int32 × cS) : Int32 × cS := (if z.1 = 0 then (F_X11_proof_122 N z.2.2.2) else (F_X11_proof_251 N (z.2.1) (z.2.2.1) z.2.2.2))
def OA_X11_proof_75 (N : Nat) (x0 : Option Nat) (x1 : Int32) (x3 : Int32) (x4 : Option Nat) (x5 : Int32) (S : cS) (z : Nat × Option Nat × Int32 × cS) : Prop := (if z.1 = 0 then O_X11_proof_122 N z.2.2.2 else O_X11_proof_251 N (z.2.1) (z.2.2.1) z.2.2.2)
set_option maxRecDepth 100000 in
set_option maxHeartbeats 4000000 in
theorem c_X11_proof_75 {G : zG} {o : cO} {S : cS} {N : Nat} {Q : Option Value → cS → Prop} {X : Int32 × cS → Prop} (hG : zOK G) (hR : ∀ v S', X (v, S') → Q (some (.int v)) S') {x0 : Option Nat} {x1 : Int32} {x3 : Int32} {x4 : Option Nat} {x5 : Int32} (ok : OL_X11_proof_75 N N x0 x1 x3 x4 x5 S ∧ OA_X11_proof_75 N x0 x1 x3 x4 x5 S (L_X11_proof_75 N N x0 x1 x3 x4 x5 S)) (hx : X (A_X11_proof_75 N x0 x1 x3 x4 x5 S (L_X11_proof_75 N N x0 x1 x3 x4 x5 S))) : cX G o dX11_proof mX11_proof 75 [some (va_rf x0), some (.int x1), none, some (.int x3), some (va_rf x4), some (.int x5), none] [] S Q := by
  refine l_X11_proof_75 hG ?_ ?_ N x0 x1 x3 x4 x5 S ok.1 (X := fun z => OA_X11_proof_75 N x0 x1 x3 x4 x5 S z ∧ X (A_X11_proof_75 N x0 x1 x3 x4 x5 S z)) ⟨ok.2, hx⟩
  · intro x0' x1' S' hz
    obtain ⟨ok, hx⟩ := hz
    unfold OA_X11_proof_75 at ok
    unfold A_X11_proof_75 at hx
    have ok := xif_P (show (0 : Nat) = 0 from rfl) ok
    have hx := xif_p (show (0 : Nat) = 0 from rfl) hx
    exact cX.cutz (b_X11_proof_122 hG hR ok hx) trivial
  · intro x0' x1' S' hz
    obtain ⟨ok, hx⟩ := hz
    unfold OA_X11_proof_75 at ok
    unfold A_X11_proof_75 at hx
    have ok := xif_N (show ¬ (1 : Nat) = 0 by decide) ok
    have hx := xif_n (show ¬ (1 : Nat) = 0 by decide) hx
    exact cX.cutz (b_X11_proof_251 hG hR ok hx) ⟨rfl, rfl, trivial⟩
def F_X11_proof_72 (N : Nat) (x0 : Option Nat) (x1 : Int32) (x2 : Int32) (x3 : Int32) (x4 : Option Nat) (S : cS) : Int32 × cS := (A_X11_proof_75 N x0 x1 x3 x4 x2 S (L_X11_proof_75 N N x0 x1 x3 x4 x2 S))
def O_X11_proof_72 (N : Nat) (x0 : Option Nat) (x1 : Int32) (x2 : Int32) (x3 : Int32) (x4 : Option Nat) (S : cS) : Prop := (OL_X11_proof_75 N N x0 x1 x3 x4 x2 S ∧ OA_X11_proof_75 N x0 x1 x3 x4 x2 S (L_X11_proof_75 N N x0 x1 x3 x4 x2 S))
set_option maxRecDepth 100000 in
set_option maxHeartbeats 4000000 in
theorem b_X11_proof_72 {G : zG} {o : cO} {S : cS} {N : Nat} {Q : Option Value → cS → Prop} {X : Int32 × cS → Prop} (hG : zOK G) (hR : ∀ v S', X (v, S') → Q (some (.int v)) S') {x0 : Option Nat} {x1 : Int32} {x2 : Int32} {x3 : Int32} {x4 : Option Nat} (ok : O_X11_proof_72 N x0 x1 x2 x3 x4 S) (hx : X (F_X11_proof_72 N x0 x1 x2 x3 x4 S)) : cX G o dX11_proof mX11_proof 72 [some (va_rf x0), some (.int x1), some (.int x2), some (.int x3), some (va_rf x4), none, none] [] S Q := by
  unfold O_X11_proof_72 at ok
  unfold F_X11_proof_72 at hx
  refine c_iload_n dX11_proof_72 rfl rfl ?_
  refine c_istore_5 dX11_proof_73 (by decide) (by simp [zok, zg, zcat_rf]) ?_
  exact cX.cutz (c_X11_proof_75 hG hR ok hx) ⟨rfl, rfl, rfl, rfl, rfl, trivial⟩
def F_X11_proof_62 (N : Nat) (x0 : Option Nat) (x1 : Int32) (x2 : Int32) (x3 : Int32) (x4 : Option Nat) (S : cS) : Int32 × cS := (F_X11_proof_72 N x0 x1 x2 x3 x4 (f_X2_close N S (za x4) (cR S 2 (za x0)) (nI 0)))
def O_X11_proof_62 (N : Nat) (x0 : Option Nat) (x1 : Int32) (x2 : Int32) (x3 : Int32) (x4 : Option Nat) (S : cS) : Prop := (cis S x0 10) ∧ (cis S x4 3 ∧ o_X2_close N S (za x4) (cR S 2 (za x0)) (nI 0)) ∧ O_X11_proof_72 N x0 x1 x2 x3 x4 (f_X2_close N S (za x4) (cR S 2 (za x0)) (nI 0))
set_option maxRecDepth 100000 in
set_option maxHeartbeats 4000000 in
theorem b_X11_proof_62 {G : zG} {o : cO} {S : cS} {N : Nat} {Q : Option Value → cS → Prop} {X : Int32 × cS → Prop} (hG : zOK G) (hR : ∀ v S', X (v, S') → Q (some (.int v)) S') {x0 : Option Nat} {x1 : Int32} {x2 : Int32} {x3 : Int32} {x4 : Option Nat} (ok : O_X11_proof_62 N x0 x1 x2 x3 x4 S) (hx : X (F_X11_proof_62 N x0 x1 x2 x3 x4 S)) : cX G o dX11_proof mX11_proof 62 [some (va_rf x0), some (.int x1), some (.int x2), some (.int x3), some (va_rf x4), none, none] [] S Q := by
  unfold O_X11_proof_62 at ok
  unfold F_X11_proof_62 at hx
  refine c_aloadQ dX11_proof_62 rfl ?_
  refine c_aload_nQ dX11_proof_64 rfl rfl ?_
  refine c_getR (C := RX11) (T := TX11) (N := 4) (ci := 9) (k := 2) ⟨rfl, inT11, by decide, fX11_13⟩ (by decide) (by decide) (by decide) dX11_proof_65 ok.1 ?_
  have ok := ok.2
  refine c_iconst (v := nI 0) dX11_proof_68 (by decide) ?_
  refine c_V2vE (ci := 2) (rr := (RX2, TX2, 6)) (y' := mX2_close) dX11_proof_69 lX11_301 kX2_close ⟨by decide, by decide⟩ rfl rfl (by decide) ok.1.1 (Nat.le_of_ble_eq_true rfl) (cc_X2_close hG ok.1.2) ?_
  have ok := ok.2
  exact cX.cutz (b_X11_proof_72 hG hR ok hx) ⟨rfl, rfl, rfl, rfl, rfl, trivial⟩
def F_X11_proof_50 (N : Nat) (x0 : Option Nat) (x1 : Int32) (x2 : Int32) (x3 : Int32) (x4 : Option Nat) (S : cS) : Int32 × cS := (F_X11_proof_62 N x0 x1 x2 x3 x4 (f_X2_add_ N S (za x4) (cR S 1 (za x0)) (nI 101) x2))
def O_X11_proof_50 (N : Nat) (x0 : Option Nat) (x1 : Int32) (x2 : Int32) (x3 : Int32) (x4 : Option Nat) (S : cS) : Prop := (cis S x0 10) ∧ (cis S x4 3 ∧ o_X2_add_ N S (za x4) (cR S 1 (za x0)) (nI 101) x2) ∧ O_X11_proof_62 N x0 x1 x2 x3 x4 (f_X2_add_ N S (za x4) (cR S 1 (za x0)) (nI 101) x2)
set_option maxRecDepth 100000 in
set_option maxHeartbeats 4000000 in
theorem b_X11_proof_50 {G : zG} {o : cO} {S : cS} {N : Nat} {Q : Option Value → cS → Prop} {X : Int32 × cS → Prop} (hG : zOK G) (hR : ∀ v S', X (v, S') → Q (some (.int v)) S') {x0 : Option Nat} {x1 : Int32} {x2 : Int32} {x3 : Int32} {x4 : Option Nat} (ok : O_X11_proof_50 N x0 x1 x2 x3 x4 S) (hx : X (F_X11_proof_50 N x0 x1 x2 x3 x4 S)) : cX G o dX11_proof mX11_proof 50 [some (va_rf x0), some (.int x1), some (.int x2), some (.int x3), some (va_rf x4), none, none] [] S Q := by
  unfold O_X11_proof_50 at ok
  unfold F_X11_proof_50 at hx
  refine c_aloadQ dX11_proof_50 rfl ?_
  refine c_aload_nQ dX11_proof_52 rfl rfl ?_
  refine c_getR (C := RX11) (T := TX11) (N := 4) (ci := 9) (k := 1) ⟨rfl, inT11, by decide, fX11_9⟩ (by decide) (by decide) (by decide) dX11_proof_53 ok.1 ?_
  have ok := ok.2
  refine c_bipush (v := nI 101) dX11_proof_56 (by decide) ?_
  refine c_iload_n dX11_proof_58 rfl rfl ?_
  refine c_V3vE (ci := 2) (rr := (RX2, TX2, 6)) (y' := mX2_add_) dX11_proof_59 lX11_298 kX2_add_ ⟨by decide, by decide⟩ rfl rfl (by decide) ok.1.1 (Nat.le_of_ble_eq_true rfl) (cc_X2_add_ hG ok.1.2) ?_
  have ok := ok.2
  exact cX.cutz (b_X11_proof_62 hG hR ok hx) ⟨rfl, rfl, rfl, rfl, rfl, trivial⟩
def F_X11_proof_44 (N : Nat) (x0 : Option Nat) (x1 : Int32) (x2 : Int32) (x3 : Int32) (x4 : Option Nat) (S : cS) : Int32 × cS := (F_X11_proof_50 N x0 x1 x2 x3 x4 (f_X2_add N S (za x4) (nI 0)))
def O_X11_proof_44 (N : Nat) (x0 : Option Nat) (x1 : Int32) (x2 : Int32) (x3 : Int32) (x4 : Option Nat) (S : cS) : Prop := (cis S x4 3 ∧ o_X2_add N S (za x4) (nI 0)) ∧ O_X11_proof_50 N x0 x1 x2 x3 x4 (f_X2_add N S (za x4) (nI 0))
set_option maxRecDepth 100000 in
set_option maxHeartbeats 4000000 in
theorem b_X11_proof_44 {G : zG} {o : cO} {S : cS} {N : Nat} {Q : Option Value → cS → Prop} {X : Int32 × cS → Prop} (hG : zOK G) (hR : ∀ v S', X (v, S') → Q (some (.int v)) S') {x0 : Option Nat} {x1 : Int32} {x2 : Int32} {x3 : Int32} {x4 : Option Nat} (ok : O_X11_proof_44 N x0 x1 x2 x3 x4 S) (hx : X (F_X11_proof_44 N x0 x1 x2 x3 x4 S)) : cX G o dX11_proof mX11_proof 44 [some (va_rf x0), some (.int x1), some (.int x2), some (.int x3), some (va_rf x4), none, none] [] S Q := by
  unfold O_X11_proof_44 at ok
  unfold F_X11_proof_44 at hx
  refine c_aloadQ dX11_proof_44 rfl ?_
  refine c_iconst (v := nI 0) dX11_proof_46 (by decide) ?_
  refine c_V1vE (ci := 2) (rr := (RX2, TX2, 6)) (y' := mX2_add) dX11_proof_47 lX11_295 kX2_add ⟨by decide, by decide⟩ rfl rfl (by decide) ok.1.1 (Nat.le_of_ble_eq_true rfl) (cc_X2_add hG ok.1.2) ?_
  have ok := ok.2
  exact cX.cutz (b_X11_proof_50 hG hR ok hx) ⟨rfl, rfl, rfl, rfl, rfl, trivial⟩
def F_X11_proof_28 (N : Nat)  (S : cS) : Int32 × cS := ((nI 0), S)
def O_X11_proof_28 (N : Nat)  (S : cS) : Prop := True
set_option maxRecDepth 100000 in
set_option maxHeartbeats 4000000 in
theorem b_X11_proof_28 {G : zG} {o : cO} {S : cS} {N : Nat} {Q : Option Value → cS → Prop} {X : Int32 × cS → Prop} (hG : zOK G) (hR : ∀ v S', X (v, S') → Q (some (.int v)) S') (ok : O_X11_proof_28 N S) (hx : X (F_X11_proof_28 N S)) : cX G o dX11_proof mX11_proof 28 [none, none, none, none, none, none, none] [] S Q := by
  unfold O_X11_proof_28 at ok
  unfold F_X11_proof_28 at hx
  refine c_iconst (v := nI 0) dX11_proof_28 (by decide) ?_
  exact c_ireturn rfl rfl dX11_proof_29 (hR _ _ hx)
def F_X11_proof_0 (N : Nat) (x0 : Option Nat) (x1 : Int32) (x2 : Int32) (x3 : Int32) (S : cS) : Int32 × cS := (if x1 < 0 then (F_X11_proof_28 N S) else (if (nI 1) < x1 then (F_X11_proof_28 N S) else (if x2 < (nI 102) then (F_X11_proof_28 N S) else (if x3 < x2 then (F_X11_proof_28 N S) else (if x3 ≤ (cI S 3 (za x0)) then (F_X11_proof_44 N x0 x1 x2 x3 (cR S 5 (za (cR S 0 (za x0)))) (f_X2_open N S (za (cR S 5 (za (cR S 0 (za x0))))))) else (F_X11_proof_28 N S))))))
def O_X11_proof_0 (N : Nat) (x0 : Option Nat) (x1 : Int32) (x2 : Int32) (x3 : Int32) (S : cS) : Prop := ((x1 < 0 → O_X11_proof_28 N S) ∧ (¬ x1 < 0 → (((nI 1) < x1 → O_X11_proof_28 N S) ∧ (¬ (nI 1) < x1 → ((x2 < (nI 102) → O_X11_proof_28 N S) ∧ (¬ x2 < (nI 102) → ((x3 < x2 → O_X11_proof_28 N S) ∧ (¬ x3 < x2 → (cis S x0 10) ∧ ((x3 ≤ (cI S 3 (za x0)) → (cis S x0 10) ∧ (cis S (cR S 0 (za x0)) 9) ∧ (cis S (cR S 5 (za (cR S 0 (za x0)))) 3 ∧ o_X2_open N S (za (cR S 5 (za (cR S 0 (za x0)))))) ∧ O_X11_proof_44 N x0 x1 x2 x3 (cR S 5 (za (cR S 0 (za x0)))) (f_X2_open N S (za (cR S 5 (za (cR S 0 (za x0))))))) ∧ (¬ x3 ≤ (cI S 3 (za x0)) → O_X11_proof_28 N S))))))))))
set_option maxRecDepth 100000 in
set_option maxHeartbeats 4000000 in
theorem b_X11_proof_0 {G : zG} {o : cO} {S : cS} {N : Nat} {Q : Option Value → cS → Prop} {X : Int32 × cS → Prop} (hG : zOK G) (hR : ∀ v S', X (v, S') → Q (some (.int v)) S') {x0 : Option Nat} {x1 : Int32} {x2 : Int32} {x3 : Int32} (ok : O_X11_proof_0 N x0 x1 x2 x3 S) (hx : X (F_X11_proof_0 N x0 x1 x2 x3 S)) : cX G o dX11_proof mX11_proof 0 [some (va_rf x0), some (.int x1), some (.int x2), some (.int x3), none, none, none] [] S Q := by
  unfold O_X11_proof_0 at ok
  unfold F_X11_proof_0 at hx
  refine c_iload_n dX11_proof_0 rfl rfl ?_
  refine c_if_lt (tgt := 28) dX11_proof_1 (by decide) (fun c_1 => ?_) (fun c_1 => ?_)
  · have ok := ok.1 c_1
    have hx := xif_p c_1 hx
    exact cX.cutz (b_X11_proof_28 hG hR ok hx) trivial
  · have ok := ok.2 c_1
    have hx := xif_n c_1 hx
    refine c_iload_n dX11_proof_4 rfl rfl ?_
    refine c_iconst (v := nI 1) dX11_proof_5 (by decide) ?_
    refine c_icmp_gt (tgt := 28) dX11_proof_6 (by decide) (fun c_6 => ?_) (fun c_6 => ?_)
    · have ok := ok.1 c_6
      have hx := xif_p c_6 hx
      exact cX.cutz (b_X11_proof_28 hG hR ok hx) trivial
    · have ok := ok.2 c_6
      have hx := xif_n c_6 hx
      refine c_iload_n dX11_proof_9 rfl rfl ?_
      refine c_bipush (v := nI 102) dX11_proof_10 (by decide) ?_
      refine c_icmp_lt (tgt := 28) dX11_proof_12 (by decide) (fun c_12 => ?_) (fun c_12 => ?_)
      · have ok := ok.1 c_12
        have hx := xif_p c_12 hx
        exact cX.cutz (b_X11_proof_28 hG hR ok hx) trivial
      · have ok := ok.2 c_12
        have hx := xif_n c_12 hx
        refine c_iload_n dX11_proof_15 rfl rfl ?_
        refine c_iload_n dX11_proof_16 rfl rfl ?_
        refine c_icmp_lt (tgt := 28) dX11_proof_17 (by decide) (fun c_17 => ?_) (fun c_17 => ?_)
        · have ok := ok.1 c_17
          have hx := xif_p c_17 hx
          exact cX.cutz (b_X11_proof_28 hG hR ok hx) trivial
        · have ok := ok.2 c_17
          have hx := xif_n c_17 hx
          refine c_iload_n dX11_proof_20 rfl rfl ?_
          refine c_aload_nQ dX11_proof_21 rfl rfl ?_
          refine c_getI (C := RX11) (T := TX11) (N := 4) (ci := 9) (k := 3) ⟨rfl, inT11, by decide, fX11_26⟩ (by decide) (by decide) (by decide) dX11_proof_22 ok.1 ?_
          have ok := ok.2
          refine c_icmp_le (tgt := 30) dX11_proof_25 (by decide) (fun c_25 => ?_) (fun c_25 => ?_)
          · have ok := ok.1 c_25
            have hx := xif_p c_25 hx
            refine c_aload_nQ dX11_proof_30 rfl rfl ?_
            refine c_getR (C := RX11) (T := TX11) (N := 4) (ci := 9) (k := 0) ⟨rfl, inT11, by decide, fX11_22⟩ (by decide) (by decide) (by decide) dX11_proof_31 ok.1 ?_
            have ok := ok.2
            refine c_getR (C := RX10) (T := TX10) (N := 12) (ci := 8) (k := 5) ⟨rfl, inT10, by decide, fX11_103⟩ (by decide) (by decide) (by decide) dX11_proof_34 ok.1 ?_
            have ok := ok.2
            refine c_astore_4Q dX11_proof_37 (by decide) rfl ?_
            refine c_aloadQ dX11_proof_39 rfl ?_
            refine c_V0vE (ci := 2) (rr := (RX2, TX2, 6)) (y' := mX2_open) dX11_proof_41 lX11_292 kX2_open ⟨by decide, by decide⟩ rfl rfl (by decide) ok.1.1 (Nat.le_of_ble_eq_true rfl) (cc_X2_open hG ok.1.2) ?_
            have ok := ok.2
            exact cX.cutz (b_X11_proof_44 hG hR ok hx) ⟨rfl, rfl, rfl, rfl, rfl, trivial⟩
          · have ok := ok.2 c_25
            have hx := xif_n c_25 hx
            exact cX.cutz (b_X11_proof_28 hG hR ok hx) trivial
def f_X11_proof (N : Nat) (S : cS) (a0 : Nat) (x1 : Int32) (x2 : Int32) (x3 : Int32) : Int32 × cS := F_X11_proof_0 N (some a0) x1 x2 x3 S
def o_X11_proof (N : Nat) (S : cS) (a0 : Nat) (x1 : Int32) (x2 : Int32) (x3 : Int32) : Prop := O_X11_proof_0 N (some a0) x1 x2 x3 S
set_option maxRecDepth 100000 in
set_option maxHeartbeats 4000000 in
theorem cc_X11_proof {G : zG} {o : cO} {S : cS} {N : Nat} (hG : zOK G) {a0 : Nat} {x1 : Int32} {x2 : Int32} {x3 : Int32} (ok : o_X11_proof N S a0 x1 x2 x3) : cCi G o dX11_proof mX11_proof [.ref a0, .int x1, .int x2, .int x3] S (fun v S' => v = (f_X11_proof N S a0 x1 x2 x3).1 ∧ S' = (f_X11_proof N S a0 x1 x2 x3).2) := by
  refine cC.ofX rfl (by exact Nat.le_of_ble_eq_true rfl) ?_
  show cX G o dX11_proof mX11_proof 0 [some (.ref a0), some (.int x1), some (.int x2), some (.int x3), none, none, none] [] S _
  exact cX.cutz (b_X11_proof_0 (X := fun F => F = f_X11_proof N S a0 x1 x2 x3) hG (fun v S' h => ⟨v, rfl, by rw [← h], by rw [← h]⟩) ok rfl) ⟨rfl, rfl, rfl, rfl, trivial⟩
/-! X11_balance -/
def F_X11_balance_33 (N : Nat) (s0 : Int32) (S : cS) : Int32 := s0
def O_X11_balance_33 (N : Nat) (s0 : Int32) (S : cS) : Prop := True
set_option maxRecDepth 100000 in
set_option maxHeartbeats 4000000 in
theorem b_X11_balance_33 {G : zG} {o : cO} {S : cS} {N : Nat} {Q : Option Value → cS → Prop} {X : Int32 → Prop} (hG : zOK G) (hR : ∀ v, X v → Q (some (.int v)) S) {s0 : Int32} (ok : O_X11_balance_33 N s0 S) (hx : X (F_X11_balance_33 N s0 S)) : cX G o dX11_balance mX11_balance 33 [none, none, none, none] [.int s0] S Q := by
  unfold O_X11_balance_33 at ok
  unfold F_X11_balance_33 at hx
  exact c_ireturn rfl rfl dX11_balance_33 (hR _ hx)
def F_X11_balance_20 (N : Nat)  (S : cS) : Int32 := (F_X11_balance_33 N (-1) S)
def O_X11_balance_20 (N : Nat)  (S : cS) : Prop := O_X11_balance_33 N (-1) S
set_option maxRecDepth 100000 in
set_option maxHeartbeats 4000000 in
theorem b_X11_balance_20 {G : zG} {o : cO} {S : cS} {N : Nat} {Q : Option Value → cS → Prop} {X : Int32 → Prop} (hG : zOK G) (hR : ∀ v, X v → Q (some (.int v)) S) (ok : O_X11_balance_20 N S) (hx : X (F_X11_balance_20 N S)) : cX G o dX11_balance mX11_balance 20 [none, none, none, none] [] S Q := by
  unfold O_X11_balance_20 at ok
  unfold F_X11_balance_20 at hx
  refine c_iconst (v := -1) dX11_balance_20 (by decide) ?_
  refine c_goto (tgt := 33) dX11_balance_21 (by decide) ?_
  exact cX.cutz (b_X11_balance_33 hG hR ok hx) trivial
def F_X11_balance_0 (N : Nat) (x0 : Option Nat) (x1 : Int32) (x2 : Int32) (S : cS) : Int32 := (if (f_X11_honestNode N S (za x0) x1) = none then (F_X11_balance_20 N S) else (if x2 < 0 then (F_X11_balance_20 N S) else (if x2 < (nI 16) then (F_X11_balance_33 N (cA S (za (cR S 0 (za (cR S 4 (za (f_X11_honestNode N S (za x0) x1)))))) x2.toNatClampNeg) S) else (F_X11_balance_20 N S))))
def O_X11_balance_0 (N : Nat) (x0 : Option Nat) (x1 : Int32) (x2 : Int32) (S : cS) : Prop := (cis S x0 10 ∧ o_X11_honestNode N S (za x0) x1) ∧ (((f_X11_honestNode N S (za x0) x1) = none → O_X11_balance_20 N S) ∧ (¬ (f_X11_honestNode N S (za x0) x1) = none → ((x2 < 0 → O_X11_balance_20 N S) ∧ (¬ x2 < 0 → ((x2 < (nI 16) → (cis S (f_X11_honestNode N S (za x0) x1) 6) ∧ (cis S (cR S 4 (za (f_X11_honestNode N S (za x0) x1))) 1) ∧ (cis S (cR S 0 (za (cR S 4 (za (f_X11_honestNode N S (za x0) x1))))) 21 ∧ vp_in x2 (cL S (za (cR S 0 (za (cR S 4 (za (f_X11_honestNode N S (za x0) x1)))))))) ∧ O_X11_balance_33 N (cA S (za (cR S 0 (za (cR S 4 (za (f_X11_honestNode N S (za x0) x1)))))) x2.toNatClampNeg) S) ∧ (¬ x2 < (nI 16) → O_X11_balance_20 N S))))))
set_option maxRecDepth 100000 in
set_option maxHeartbeats 4000000 in
theorem b_X11_balance_0 {G : zG} {o : cO} {S : cS} {N : Nat} {Q : Option Value → cS → Prop} {X : Int32 → Prop} (hG : zOK G) (hR : ∀ v, X v → Q (some (.int v)) S) {x0 : Option Nat} {x1 : Int32} {x2 : Int32} (ok : O_X11_balance_0 N x0 x1 x2 S) (hx : X (F_X11_balance_0 N x0 x1 x2 S)) : cX G o dX11_balance mX11_balance 0 [some (va_rf x0), some (.int x1), some (.int x2), none] [] S Q := by
  unfold O_X11_balance_0 at ok
  unfold F_X11_balance_0 at hx
  refine c_aload_nQ dX11_balance_0 rfl rfl ?_
  refine c_iload_n dX11_balance_1 rfl rfl ?_
  refine c_V1qE (ci := 9) (rr := (RX11, TX11, 4)) (y' := mX11_honestNode) dX11_balance_2 lX11_120 kX11_honestNode ⟨by decide, by decide⟩ rfl rfl (by decide) ok.1.1 (Nat.le_of_ble_eq_true rfl) (cc_X11_honestNode hG ok.1.2) ?_
  have ok := ok.2
  refine c_astore_3Q dX11_balance_5 (by decide) rfl ?_
  refine c_aload_nQ dX11_balance_6 rfl rfl ?_
  refine c_ifnullI (tgt := 20) dX11_balance_7 (by decide) (fun c_7 => ?_) (fun c_7 => ?_)
  · have ok := ok.1 c_7
    have hx := xif_p c_7 hx
    exact cX.cutz (b_X11_balance_20 hG hR ok hx) trivial
  · have ok := ok.2 c_7
    have hx := xif_n c_7 hx
    refine c_iload_n dX11_balance_10 rfl rfl ?_
    refine c_if_lt (tgt := 20) dX11_balance_11 (by decide) (fun c_11 => ?_) (fun c_11 => ?_)
    · have ok := ok.1 c_11
      have hx := xif_p c_11 hx
      exact cX.cutz (b_X11_balance_20 hG hR ok hx) trivial
    · have ok := ok.2 c_11
      have hx := xif_n c_11 hx
      refine c_iload_n dX11_balance_14 rfl rfl ?_
      refine c_bipush (v := nI 16) dX11_balance_15 (by decide) ?_
      refine c_icmp_lt (tgt := 24) dX11_balance_17 (by decide) (fun c_17 => ?_) (fun c_17 => ?_)
      · have ok := ok.1 c_17
        have hx := xif_p c_17 hx
        refine c_aload_nQ dX11_balance_24 rfl rfl ?_
        refine c_getR (C := RX6) (T := TX6) (N := 19) (ci := 5) (k := 4) ⟨rfl, inT6, by decide, fX11_129⟩ (by decide) (by decide) (by decide) dX11_balance_25 ok.1 ?_
        have ok := ok.2
        refine c_getR (C := RX0) (T := TX0) (N := 6) (ci := 0) (k := 0) ⟨rfl, inT0, by decide, fX11_308⟩ (by decide) (by decide) (by decide) dX11_balance_28 ok.1 ?_
        have ok := ok.2
        refine c_iload_n dX11_balance_31 rfl rfl ?_
        refine c_iald dX11_balance_32 ok.1 ?_
        have ok := ok.2
        exact cX.cutz (b_X11_balance_33 hG hR ok hx) trivial
      · have ok := ok.2 c_17
        have hx := xif_n c_17 hx
        exact cX.cutz (b_X11_balance_20 hG hR ok hx) trivial
def f_X11_balance (N : Nat) (S : cS) (a0 : Nat) (x1 : Int32) (x2 : Int32) : Int32 := F_X11_balance_0 N (some a0) x1 x2 S
def o_X11_balance (N : Nat) (S : cS) (a0 : Nat) (x1 : Int32) (x2 : Int32) : Prop := O_X11_balance_0 N (some a0) x1 x2 S
set_option maxRecDepth 100000 in
set_option maxHeartbeats 4000000 in
theorem cc_X11_balance {G : zG} {o : cO} {S : cS} {N : Nat} (hG : zOK G) {a0 : Nat} {x1 : Int32} {x2 : Int32} (ok : o_X11_balance N S a0 x1 x2) : cCi G o dX11_balance mX11_balance [.ref a0, .int x1, .int x2] S (fun v S' => v = f_X11_balance N S a0 x1 x2 ∧ S' = S) := by
  refine cC.ofX rfl (by exact Nat.le_of_ble_eq_true rfl) ?_
  show cX G o dX11_balance mX11_balance 0 [some (.ref a0), some (.int x1), some (.int x2), none] [] S _
  exact cX.cutz (b_X11_balance_0 (X := fun F => F = f_X11_balance N S a0 x1 x2) hG (fun v h => ⟨v, rfl, h, rfl⟩) ok rfl) ⟨rfl, rfl, rfl, trivial⟩
/-! X11_count -/
def F_X11_count_0 (N : Nat) (x0 : Option Nat) (x1 : Int32) (S : cS) : Int32 := (if x1 = nI 0 then (cI S 9 (za (cR S 6 (za (cR S 0 (za x0)))))) else (if x1 = nI 1 then (cI S 1 (za (cR S 0 (za x0)))) else (if x1 = nI 2 then (cI S 10 (za (cR S 6 (za (cR S 0 (za x0)))))) else (if x1 = nI 3 then (cI S 11 (za (cR S 6 (za (cR S 0 (za x0)))))) else (if x1 = nI 4 then (cI S 12 (za (cR S 6 (za (cR S 0 (za x0)))))) else (if x1 = nI 5 then (cI S 3 (za x0)) else (if x1 = nI 6 then ((cI S 1 (za (cR S 0 (za x0)))) - (cI S 2 (za (cR S 0 (za x0))))) else (-1))))))))
def O_X11_count_0 (N : Nat) (x0 : Option Nat) (x1 : Int32) (S : cS) : Prop := ((x1 = nI 0 → (cis S x0 10) ∧ (cis S (cR S 0 (za x0)) 9) ∧ (cis S (cR S 6 (za (cR S 0 (za x0)))) 8) ∧ True) ∧ (¬ x1 = nI 0 → ((x1 = nI 1 → (cis S x0 10) ∧ (cis S (cR S 0 (za x0)) 9) ∧ True) ∧ (¬ x1 = nI 1 → ((x1 = nI 2 → (cis S x0 10) ∧ (cis S (cR S 0 (za x0)) 9) ∧ (cis S (cR S 6 (za (cR S 0 (za x0)))) 8) ∧ True) ∧ (¬ x1 = nI 2 → ((x1 = nI 3 → (cis S x0 10) ∧ (cis S (cR S 0 (za x0)) 9) ∧ (cis S (cR S 6 (za (cR S 0 (za x0)))) 8) ∧ True) ∧ (¬ x1 = nI 3 → ((x1 = nI 4 → (cis S x0 10) ∧ (cis S (cR S 0 (za x0)) 9) ∧ (cis S (cR S 6 (za (cR S 0 (za x0)))) 8) ∧ True) ∧ (¬ x1 = nI 4 → ((x1 = nI 5 → (cis S x0 10) ∧ True) ∧ (¬ x1 = nI 5 → ((x1 = nI 6 → (cis S x0 10) ∧ (cis S (cR S 0 (za x0)) 9) ∧ (cis S x0 10) ∧ (cis S (cR S 0 (za x0)) 9) ∧ True) ∧ (¬ x1 = nI 6 → True))))))))))))))
set_option maxRecDepth 100000 in
set_option maxHeartbeats 4000000 in
theorem b_X11_count_0 {G : zG} {o : cO} {S : cS} {N : Nat} {Q : Option Value → cS → Prop} {X : Int32 → Prop} (hG : zOK G) (hR : ∀ v, X v → Q (some (.int v)) S) {x0 : Option Nat} {x1 : Int32} (ok : O_X11_count_0 N x0 x1 S) (hx : X (F_X11_count_0 N x0 x1 S)) : cX G o dX11_count mX11_count 0 [some (va_rf x0), some (.int x1)] [] S Q := by
  unfold O_X11_count_0 at ok
  unfold F_X11_count_0 at hx
  refine c_iload_n dX11_count_0 rfl rfl ?_
  by_cases c_1_0 : x1 = nI 0
  · have ok := ok.1 c_1_0
    have hx := xif_p c_1_0 hx
    refine c_tableIn (off := 43) (tgt := 44) dX11_count_1 (by rw [c_1_0]; decide) (by rw [c_1_0]; decide) (by rw [c_1_0]; rfl) (by decide) ?_
    refine c_aload_nQ dX11_count_44 rfl rfl ?_
    refine c_getR (C := RX11) (T := TX11) (N := 4) (ci := 9) (k := 0) ⟨rfl, inT11, by decide, fX11_22⟩ (by decide) (by decide) (by decide) dX11_count_45 ok.1 ?_
    have ok := ok.2
    refine c_getR (C := RX10) (T := TX10) (N := 12) (ci := 8) (k := 6) ⟨rfl, inT10, by decide, fX11_38⟩ (by decide) (by decide) (by decide) dX11_count_48 ok.1 ?_
    have ok := ok.2
    refine c_getI (C := RX9) (T := TX9) (N := 13) (ci := 7) (k := 9) ⟨rfl, inT9, by decide, fX11_312⟩ (by decide) (by decide) (by decide) dX11_count_51 ok.1 ?_
    have ok := ok.2
    exact c_ireturn rfl rfl dX11_count_54 (hR _ hx)
  · have ok := ok.2 c_1_0
    have hx := xif_n c_1_0 hx
    by_cases c_1_1 : x1 = nI 1
    · have ok := ok.1 c_1_1
      have hx := xif_p c_1_1 hx
      refine c_tableIn (off := 54) (tgt := 55) dX11_count_1 (by rw [c_1_1]; decide) (by rw [c_1_1]; decide) (by rw [c_1_1]; rfl) (by decide) ?_
      refine c_aload_nQ dX11_count_55 rfl rfl ?_
      refine c_getR (C := RX11) (T := TX11) (N := 4) (ci := 9) (k := 0) ⟨rfl, inT11, by decide, fX11_22⟩ (by decide) (by decide) (by decide) dX11_count_56 ok.1 ?_
      have ok := ok.2
      refine c_getI (C := RX10) (T := TX10) (N := 12) (ci := 8) (k := 1) ⟨rfl, inT10, by decide, fX11_87⟩ (by decide) (by decide) (by decide) dX11_count_59 ok.1 ?_
      have ok := ok.2
      exact c_ireturn rfl rfl dX11_count_62 (hR _ hx)
    · have ok := ok.2 c_1_1
      have hx := xif_n c_1_1 hx
      by_cases c_1_2 : x1 = nI 2
      · have ok := ok.1 c_1_2
        have hx := xif_p c_1_2 hx
        refine c_tableIn (off := 62) (tgt := 63) dX11_count_1 (by rw [c_1_2]; decide) (by rw [c_1_2]; decide) (by rw [c_1_2]; rfl) (by decide) ?_
        refine c_aload_nQ dX11_count_63 rfl rfl ?_
        refine c_getR (C := RX11) (T := TX11) (N := 4) (ci := 9) (k := 0) ⟨rfl, inT11, by decide, fX11_22⟩ (by decide) (by decide) (by decide) dX11_count_64 ok.1 ?_
        have ok := ok.2
        refine c_getR (C := RX10) (T := TX10) (N := 12) (ci := 8) (k := 6) ⟨rfl, inT10, by decide, fX11_38⟩ (by decide) (by decide) (by decide) dX11_count_67 ok.1 ?_
        have ok := ok.2
        refine c_getI (C := RX9) (T := TX9) (N := 13) (ci := 7) (k := 10) ⟨rfl, inT9, by decide, fX11_315⟩ (by decide) (by decide) (by decide) dX11_count_70 ok.1 ?_
        have ok := ok.2
        exact c_ireturn rfl rfl dX11_count_73 (hR _ hx)
      · have ok := ok.2 c_1_2
        have hx := xif_n c_1_2 hx
        by_cases c_1_3 : x1 = nI 3
        · have ok := ok.1 c_1_3
          have hx := xif_p c_1_3 hx
          refine c_tableIn (off := 73) (tgt := 74) dX11_count_1 (by rw [c_1_3]; decide) (by rw [c_1_3]; decide) (by rw [c_1_3]; rfl) (by decide) ?_
          refine c_aload_nQ dX11_count_74 rfl rfl ?_
          refine c_getR (C := RX11) (T := TX11) (N := 4) (ci := 9) (k := 0) ⟨rfl, inT11, by decide, fX11_22⟩ (by decide) (by decide) (by decide) dX11_count_75 ok.1 ?_
          have ok := ok.2
          refine c_getR (C := RX10) (T := TX10) (N := 12) (ci := 8) (k := 6) ⟨rfl, inT10, by decide, fX11_38⟩ (by decide) (by decide) (by decide) dX11_count_78 ok.1 ?_
          have ok := ok.2
          refine c_getI (C := RX9) (T := TX9) (N := 13) (ci := 7) (k := 11) ⟨rfl, inT9, by decide, fX11_318⟩ (by decide) (by decide) (by decide) dX11_count_81 ok.1 ?_
          have ok := ok.2
          exact c_ireturn rfl rfl dX11_count_84 (hR _ hx)
        · have ok := ok.2 c_1_3
          have hx := xif_n c_1_3 hx
          by_cases c_1_4 : x1 = nI 4
          · have ok := ok.1 c_1_4
            have hx := xif_p c_1_4 hx
            refine c_tableIn (off := 84) (tgt := 85) dX11_count_1 (by rw [c_1_4]; decide) (by rw [c_1_4]; decide) (by rw [c_1_4]; rfl) (by decide) ?_
            refine c_aload_nQ dX11_count_85 rfl rfl ?_
            refine c_getR (C := RX11) (T := TX11) (N := 4) (ci := 9) (k := 0) ⟨rfl, inT11, by decide, fX11_22⟩ (by decide) (by decide) (by decide) dX11_count_86 ok.1 ?_
            have ok := ok.2
            refine c_getR (C := RX10) (T := TX10) (N := 12) (ci := 8) (k := 6) ⟨rfl, inT10, by decide, fX11_38⟩ (by decide) (by decide) (by decide) dX11_count_89 ok.1 ?_
            have ok := ok.2
            refine c_getI (C := RX9) (T := TX9) (N := 13) (ci := 7) (k := 12) ⟨rfl, inT9, by decide, fX11_319⟩ (by decide) (by decide) (by decide) dX11_count_92 ok.1 ?_
            have ok := ok.2
            exact c_ireturn rfl rfl dX11_count_95 (hR _ hx)
          · have ok := ok.2 c_1_4
            have hx := xif_n c_1_4 hx
            by_cases c_1_5 : x1 = nI 5
            · have ok := ok.1 c_1_5
              have hx := xif_p c_1_5 hx
              refine c_tableIn (off := 95) (tgt := 96) dX11_count_1 (by rw [c_1_5]; decide) (by rw [c_1_5]; decide) (by rw [c_1_5]; rfl) (by decide) ?_
              refine c_aload_nQ dX11_count_96 rfl rfl ?_
              refine c_getI (C := RX11) (T := TX11) (N := 4) (ci := 9) (k := 3) ⟨rfl, inT11, by decide, fX11_26⟩ (by decide) (by decide) (by decide) dX11_count_97 ok.1 ?_
              have ok := ok.2
              exact c_ireturn rfl rfl dX11_count_100 (hR _ hx)
            · have ok := ok.2 c_1_5
              have hx := xif_n c_1_5 hx
              by_cases c_1_6 : x1 = nI 6
              · have ok := ok.1 c_1_6
                have hx := xif_p c_1_6 hx
                refine c_tableIn (off := 100) (tgt := 101) dX11_count_1 (by rw [c_1_6]; decide) (by rw [c_1_6]; decide) (by rw [c_1_6]; rfl) (by decide) ?_
                refine c_aload_nQ dX11_count_101 rfl rfl ?_
                refine c_getR (C := RX11) (T := TX11) (N := 4) (ci := 9) (k := 0) ⟨rfl, inT11, by decide, fX11_22⟩ (by decide) (by decide) (by decide) dX11_count_102 ok.1 ?_
                have ok := ok.2
                refine c_getI (C := RX10) (T := TX10) (N := 12) (ci := 8) (k := 1) ⟨rfl, inT10, by decide, fX11_87⟩ (by decide) (by decide) (by decide) dX11_count_105 ok.1 ?_
                have ok := ok.2
                refine c_aload_nQ dX11_count_108 rfl rfl ?_
                refine c_getR (C := RX11) (T := TX11) (N := 4) (ci := 9) (k := 0) ⟨rfl, inT11, by decide, fX11_22⟩ (by decide) (by decide) (by decide) dX11_count_109 ok.1 ?_
                have ok := ok.2
                refine c_getI (C := RX10) (T := TX10) (N := 12) (ci := 8) (k := 2) ⟨rfl, inT10, by decide, fX11_69⟩ (by decide) (by decide) (by decide) dX11_count_112 ok.1 ?_
                have ok := ok.2
                refine c_isub dX11_count_115 ?_
                exact c_ireturn rfl rfl dX11_count_116 (hR _ hx)
              · have ok := ok.2 c_1_6
                have hx := xif_n c_1_6 hx
                refine c_tableOut (tgt := 117) dX11_count_1 (zsw 7 (by intro k hk; rcases (show k = 0 ∨ k = 1 ∨ k = 2 ∨ k = 3 ∨ k = 4 ∨ k = 5 ∨ k = 6 by omega) with rfl | rfl | rfl | rfl | rfl | rfl | rfl <;> assumption) (by decide) (by decide)) (by decide) ?_
                refine c_iconst (v := -1) dX11_count_117 (by decide) ?_
                exact c_ireturn rfl rfl dX11_count_118 (hR _ hx)
def f_X11_count (N : Nat) (S : cS) (a0 : Nat) (x1 : Int32) : Int32 := F_X11_count_0 N (some a0) x1 S
def o_X11_count (N : Nat) (S : cS) (a0 : Nat) (x1 : Int32) : Prop := O_X11_count_0 N (some a0) x1 S
set_option maxRecDepth 100000 in
set_option maxHeartbeats 4000000 in
theorem cc_X11_count {G : zG} {o : cO} {S : cS} {N : Nat} (hG : zOK G) {a0 : Nat} {x1 : Int32} (ok : o_X11_count N S a0 x1) : cCi G o dX11_count mX11_count [.ref a0, .int x1] S (fun v S' => v = f_X11_count N S a0 x1 ∧ S' = S) := by
  refine cC.ofX rfl (by exact Nat.le_of_ble_eq_true rfl) ?_
  show cX G o dX11_count mX11_count 0 [some (.ref a0), some (.int x1)] [] S _
  exact cX.cutz (b_X11_count_0 (X := fun F => F = f_X11_count N S a0 x1) hG (fun v h => ⟨v, rfl, h, rfl⟩) ok rfl) ⟨rfl, rfl, trivial⟩

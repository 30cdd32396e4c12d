/-! X10_land -/
def F_X10_land_117 (N : Nat) (x6 : Int32) (S : cS) : Int32 × cS := (x6, S)
def O_X10_land_117 (N : Nat) (x6 : Int32) (S : cS) : Prop := True
set_option maxRecDepth 100000 in
set_option maxHeartbeats 4000000 in
theorem b_X10_land_117 {G : zG} {o : cO} {S : cS} {N : Nat} {Q : Option Value → cS → Prop} {X : Int32 × cS → Prop} (hG : zOK G) (hR : ∀ v S', X (v, S') → Q (some (.int v)) S') {x6 : Int32} (ok : O_X10_land_117 N x6 S) (hx : X (F_X10_land_117 N x6 S)) : cX G o dX10_land mX10_land 117 [none, none, none, none, none, none, some (.int x6)] [] S Q := by
  unfold O_X10_land_117 at ok
  unfold F_X10_land_117 at hx
  refine c_iload dX10_land_117 rfl ?_
  exact c_ireturn rfl rfl dX10_land_119 (hR _ _ hx)
def F_X10_land_100 (N : Nat) (x0 : Option Nat) (x4 : Option Nat) (S : cS) : Int32 × cS := (F_X10_land_117 N (f_X5_at N S (za x4) (nI 0)) (f_X9_drop N S (za (cR S 6 (za x0))) x4))
def O_X10_land_100 (N : Nat) (x0 : Option Nat) (x4 : Option Nat) (S : cS) : Prop := (cis S x4 5 ∧ o_X5_at N S (za x4) (nI 0)) ∧ (cis S x0 9) ∧ (cis S (cR S 6 (za x0)) 8 ∧ o_X9_drop N S (za (cR S 6 (za x0))) x4) ∧ O_X10_land_117 N (f_X5_at N S (za x4) (nI 0)) (f_X9_drop N S (za (cR S 6 (za x0))) x4)
set_option maxRecDepth 100000 in
set_option maxHeartbeats 4000000 in
theorem b_X10_land_100 {G : zG} {o : cO} {S : cS} {N : Nat} {Q : Option Value → cS → Prop} {X : Int32 × cS → Prop} (hG : zOK G) (hR : ∀ v S', X (v, S') → Q (some (.int v)) S') {x0 : Option Nat} {x4 : Option Nat} (ok : O_X10_land_100 N x0 x4 S) (hx : X (F_X10_land_100 N x0 x4 S)) : cX G o dX10_land mX10_land 100 [some (va_rf x0), none, none, none, some (va_rf x4), none, none] [] S Q := by
  unfold O_X10_land_100 at ok
  unfold F_X10_land_100 at hx
  refine c_aloadQ dX10_land_100 rfl ?_
  refine c_iconst (v := nI 0) dX10_land_102 (by decide) ?_
  refine c_V1iE (ci := 4) (rr := (RX5, TX5, 7)) (y' := mX5_at) dX10_land_103 lX10_120 kX5_at ⟨by decide, by decide⟩ rfl rfl (by decide) ok.1.1 (Nat.le_of_ble_eq_true rfl) (cc_X5_at hG ok.1.2) ?_
  have ok := ok.2
  refine c_istore_6 dX10_land_106 (by decide) rfl ?_
  refine c_aload_nQ dX10_land_108 rfl rfl ?_
  refine c_getR (C := RX10) (T := TX10) (N := 12) (ci := 8) (k := 6) ⟨rfl, inT10, by decide, fX10_12⟩ (by decide) (by decide) (by decide) dX10_land_109 ok.1 ?_
  have ok := ok.2
  refine c_aloadQ dX10_land_112 rfl ?_
  refine c_V1vE (ci := 7) (rr := (RX9, TX9, 13)) (y' := mX9_drop) dX10_land_114 lX10_125 kX9_drop ⟨by decide, by decide⟩ rfl rfl (by decide) ok.1.1 (Nat.le_of_ble_eq_true rfl) (cc_X9_drop hG ok.1.2) ?_
  have ok := ok.2
  exact cX.cutz (b_X10_land_117 hG hR ok hx) ⟨rfl, trivial⟩
def F_X10_land_92 (N : Nat) (x0 : Option Nat) (x4 : Option Nat) (x5 : Option Nat) (s0 : Int32) (S : cS) : Int32 × cS := (if s0 = 0 then (F_X10_land_100 N x0 x4 S) else (F_X10_land_100 N x0 x4 (f_X7_settle N S x5)))
def O_X10_land_92 (N : Nat) (x0 : Option Nat) (x4 : Option Nat) (x5 : Option Nat) (s0 : Int32) (S : cS) : Prop := ((s0 = 0 → O_X10_land_100 N x0 x4 S) ∧ (¬ s0 = 0 → (o_X7_settle N S x5) ∧ O_X10_land_100 N x0 x4 (f_X7_settle N S x5)))
set_option maxRecDepth 100000 in
set_option maxHeartbeats 4000000 in
theorem b_X10_land_92 {G : zG} {o : cO} {S : cS} {N : Nat} {Q : Option Value → cS → Prop} {X : Int32 × cS → Prop} (hG : zOK G) (hR : ∀ v S', X (v, S') → Q (some (.int v)) S') {x0 : Option Nat} {x4 : Option Nat} {x5 : Option Nat} {s0 : Int32} (ok : O_X10_land_92 N x0 x4 x5 s0 S) (hx : X (F_X10_land_92 N x0 x4 x5 s0 S)) : cX G o dX10_land mX10_land 92 [some (va_rf x0), none, none, none, some (va_rf x4), some (va_rf x5), none] [.int s0] S Q := by
  unfold O_X10_land_92 at ok
  unfold F_X10_land_92 at hx
  refine c_if_eq (tgt := 100) dX10_land_92 (by decide) (fun c_92 => ?_) (fun c_92 => ?_)
  · have ok := ok.1 c_92
    have hx := xif_p c_92 hx
    exact cX.cutz (b_X10_land_100 hG hR ok hx) ⟨rfl, rfl, trivial⟩
  · have ok := ok.2 c_92
    have hx := xif_n c_92 hx
    refine c_aloadQ dX10_land_95 rfl ?_
    refine c_S1vE (y' := mX7_settle) dX10_land_97 lX10_85 kX7_settle ⟨by decide, by decide⟩ (Nat.le_of_ble_eq_true rfl) (cc_X7_settle hG ok.1) ?_
    have ok := ok.2
    exact cX.cutz (b_X10_land_100 hG hR ok hx) ⟨rfl, rfl, trivial⟩
def F_X10_land_81 (N : Nat) (x0 : Option Nat) (x2 : Int32) (x4 : Option Nat) (x5 : Option Nat) (s0 : Int32) (S : cS) : Int32 × cS := (if s0 = 0 then (F_X10_land_100 N x0 x4 S) else (F_X10_land_92 N x0 x4 x5 ((f_X3_receive N S x5 x2 x4).1) (f_X3_receive N S x5 x2 x4).2))
def O_X10_land_81 (N : Nat) (x0 : Option Nat) (x2 : Int32) (x4 : Option Nat) (x5 : Option Nat) (s0 : Int32) (S : cS) : Prop := ((s0 = 0 → O_X10_land_100 N x0 x4 S) ∧ (¬ s0 = 0 → (o_X3_receive N S x5 x2 x4) ∧ O_X10_land_92 N x0 x4 x5 ((f_X3_receive N S x5 x2 x4).1) (f_X3_receive N S x5 x2 x4).2))
set_option maxRecDepth 100000 in
set_option maxHeartbeats 4000000 in
theorem b_X10_land_81 {G : zG} {o : cO} {S : cS} {N : Nat} {Q : Option Value → cS → Prop} {X : Int32 × cS → Prop} (hG : zOK G) (hR : ∀ v S', X (v, S') → Q (some (.int v)) S') {x0 : Option Nat} {x2 : Int32} {x4 : Option Nat} {x5 : Option Nat} {s0 : Int32} (ok : O_X10_land_81 N x0 x2 x4 x5 s0 S) (hx : X (F_X10_land_81 N x0 x2 x4 x5 s0 S)) : cX G o dX10_land mX10_land 81 [some (va_rf x0), none, some (.int x2), none, some (va_rf x4), some (va_rf x5), none] [.int s0] S Q := by
  unfold O_X10_land_81 at ok
  unfold F_X10_land_81 at hx
  refine c_if_eq (tgt := 100) dX10_land_81 (by decide) (fun c_81 => ?_) (fun c_81 => ?_)
  · have ok := ok.1 c_81
    have hx := xif_p c_81 hx
    exact cX.cutz (b_X10_land_100 hG hR ok hx) ⟨rfl, rfl, trivial⟩
  · have ok := ok.2 c_81
    have hx := xif_n c_81 hx
    refine c_aloadQ dX10_land_84 rfl ?_
    refine c_iload_n dX10_land_86 rfl rfl ?_
    refine c_aloadQ dX10_land_87 rfl ?_
    refine c_S3iE (y' := mX3_receive) dX10_land_89 lX10_114 kX3_receive ⟨by decide, by decide⟩ (Nat.le_of_ble_eq_true rfl) (cc_X3_receive hG ok.1) ?_
    have ok := ok.2
    exact cX.cutz (b_X10_land_92 hG hR ok hx) ⟨rfl, rfl, rfl, trivial⟩
def F_X10_land_57 (N : Nat) (x0 : Option Nat) (x2 : Int32) (x4 : Option Nat) (s0 : Option Nat) (S : cS) : Int32 × cS := (if s0 = none then (F_X10_land_100 N x0 x4 S) else (if (cI S 8 (za s0)) = 0 then (F_X10_land_100 N x0 x4 S) else (F_X10_land_81 N x0 x2 x4 s0 ((f_X1_look N S (za (cR S 7 (za x0))) x4).1) (f_X1_look N S (za (cR S 7 (za x0))) x4).2)))
def O_X10_land_57 (N : Nat) (x0 : Option Nat) (x2 : Int32) (x4 : Option Nat) (s0 : Option Nat) (S : cS) : Prop := ((s0 = none → O_X10_land_100 N x0 x4 S) ∧ (¬ s0 = none → (cis S s0 6) ∧ (((cI S 8 (za s0)) = 0 → O_X10_land_100 N x0 x4 S) ∧ (¬ (cI S 8 (za s0)) = 0 → (cis S x0 9) ∧ (cis S (cR S 7 (za x0)) 2 ∧ o_X1_look N S (za (cR S 7 (za x0))) x4) ∧ O_X10_land_81 N x0 x2 x4 s0 ((f_X1_look N S (za (cR S 7 (za x0))) x4).1) (f_X1_look N S (za (cR S 7 (za x0))) x4).2))))
set_option maxRecDepth 100000 in
set_option maxHeartbeats 4000000 in
theorem b_X10_land_57 {G : zG} {o : cO} {S : cS} {N : Nat} {Q : Option Value → cS → Prop} {X : Int32 × cS → Prop} (hG : zOK G) (hR : ∀ v S', X (v, S') → Q (some (.int v)) S') {x0 : Option Nat} {x2 : Int32} {x4 : Option Nat} {s0 : Option Nat} (ok : O_X10_land_57 N x0 x2 x4 s0 S) (hx : X (F_X10_land_57 N x0 x2 x4 s0 S)) : cX G o dX10_land mX10_land 57 [some (va_rf x0), none, some (.int x2), none, some (va_rf x4), none, none] [va_rf s0] S Q := by
  unfold O_X10_land_57 at ok
  unfold F_X10_land_57 at hx
  refine c_astore_5Q dX10_land_57 (by decide) (by simp [zok, zg, zcat_rf]) ?_
  refine c_aloadQ dX10_land_59 rfl ?_
  refine c_ifnullI (tgt := 100) dX10_land_61 (by decide) (fun c_61 => ?_) (fun c_61 => ?_)
  · have ok := ok.1 c_61
    have hx := xif_p c_61 hx
    exact cX.cutz (b_X10_land_100 hG hR ok hx) ⟨rfl, rfl, trivial⟩
  · have ok := ok.2 c_61
    have hx := xif_n c_61 hx
    refine c_aloadQ dX10_land_64 rfl ?_
    refine c_getI (C := RX6) (T := TX6) (N := 19) (ci := 5) (k := 8) ⟨rfl, inT6, by decide, fX10_106⟩ (by decide) (by decide) (by decide) dX10_land_66 ok.1 ?_
    have ok := ok.2
    refine c_if_eq (tgt := 100) dX10_land_69 (by decide) (fun c_69 => ?_) (fun c_69 => ?_)
    · have ok := ok.1 c_69
      have hx := xif_p c_69 hx
      exact cX.cutz (b_X10_land_100 hG hR ok hx) ⟨rfl, rfl, trivial⟩
    · have ok := ok.2 c_69
      have hx := xif_n c_69 hx
      refine c_aload_nQ dX10_land_72 rfl rfl ?_
      refine c_getR (C := RX10) (T := TX10) (N := 12) (ci := 8) (k := 7) ⟨rfl, inT10, by decide, fX10_43⟩ (by decide) (by decide) (by decide) dX10_land_73 ok.1 ?_
      have ok := ok.2
      refine c_aloadQ dX10_land_76 rfl ?_
      refine c_V1iE (ci := 1) (rr := (RX1, TX1, 3)) (y' := mX1_look) dX10_land_78 lX10_110 kX1_look ⟨by decide, by decide⟩ rfl rfl (by decide) ok.1.1 (Nat.le_of_ble_eq_true rfl) (cc_X1_look hG ok.1.2) ?_
      have ok := ok.2
      exact cX.cutz (b_X10_land_81 hG hR ok hx) ⟨rfl, rfl, rfl, rfl, trivial⟩
def F_X10_land_56 (N : Nat) (x0 : Option Nat) (x2 : Int32) (x4 : Option Nat) (S : cS) : Int32 × cS := (F_X10_land_57 N x0 x2 x4 (none : Option Nat) S)
def O_X10_land_56 (N : Nat) (x0 : Option Nat) (x2 : Int32) (x4 : Option Nat) (S : cS) : Prop := O_X10_land_57 N x0 x2 x4 (none : Option Nat) S
set_option maxRecDepth 100000 in
set_option maxHeartbeats 4000000 in
theorem b_X10_land_56 {G : zG} {o : cO} {S : cS} {N : Nat} {Q : Option Value → cS → Prop} {X : Int32 × cS → Prop} (hG : zOK G) (hR : ∀ v S', X (v, S') → Q (some (.int v)) S') {x0 : Option Nat} {x2 : Int32} {x4 : Option Nat} (ok : O_X10_land_56 N x0 x2 x4 S) (hx : X (F_X10_land_56 N x0 x2 x4 S)) : cX G o dX10_land mX10_land 56 [some (va_rf x0), none, some (.int x2), none, some (va_rf x4), none, none] [] S Q := by
  unfold O_X10_land_56 at ok
  unfold F_X10_land_56 at hx
  refine c_null' dX10_land_56 ?_
  exact cX.cutz (b_X10_land_57 hG hR ok hx) ⟨rfl, rfl, rfl, trivial⟩
def F_X10_land_26 (N : Nat) (x0 : Option Nat) (x2 : Int32) (x3 : Int32) (s0 : Option Nat) (S : cS) : Int32 × cS := (if s0 = none then ((-1), S) else (if x3 < 0 then (F_X10_land_56 N x0 x2 s0 S) else (if (cI S 2 (za x0)) ≤ x3 then (F_X10_land_56 N x0 x2 s0 S) else (F_X10_land_57 N x0 x2 s0 (cP S (za (cR S 4 (za x0))) x3.toNatClampNeg) S))))
def O_X10_land_26 (N : Nat) (x0 : Option Nat) (x2 : Int32) (x3 : Int32) (s0 : Option Nat) (S : cS) : Prop := ((s0 = none → True) ∧ (¬ s0 = none → ((x3 < 0 → O_X10_land_56 N x0 x2 s0 S) ∧ (¬ x3 < 0 → (cis S x0 9) ∧ (((cI S 2 (za x0)) ≤ x3 → O_X10_land_56 N x0 x2 s0 S) ∧ (¬ (cI S 2 (za x0)) ≤ x3 → (cis S x0 9) ∧ (cis S (cR S 4 (za x0)) 25 ∧ vp_in x3 (cL S (za (cR S 4 (za x0))))) ∧ O_X10_land_57 N x0 x2 s0 (cP S (za (cR S 4 (za x0))) x3.toNatClampNeg) S))))))
set_option maxRecDepth 100000 in
set_option maxHeartbeats 4000000 in
theorem b_X10_land_26 {G : zG} {o : cO} {S : cS} {N : Nat} {Q : Option Value → cS → Prop} {X : Int32 × cS → Prop} (hG : zOK G) (hR : ∀ v S', X (v, S') → Q (some (.int v)) S') {x0 : Option Nat} {x2 : Int32} {x3 : Int32} {s0 : Option Nat} (ok : O_X10_land_26 N x0 x2 x3 s0 S) (hx : X (F_X10_land_26 N x0 x2 x3 s0 S)) : cX G o dX10_land mX10_land 26 [some (va_rf x0), none, some (.int x2), some (.int x3), none, none, none] [va_rf s0] S Q := by
  unfold O_X10_land_26 at ok
  unfold F_X10_land_26 at hx
  refine c_astore_4Q dX10_land_26 (by decide) rfl ?_
  refine c_aloadQ dX10_land_28 rfl ?_
  refine c_ifnonnullI (tgt := 35) dX10_land_30 (by decide) (fun c_30 => ?_) (fun c_30 => ?_)
  · have ok := ok.2 c_30
    have hx := xif_n c_30 hx
    refine c_iload_n dX10_land_35 rfl rfl ?_
    refine c_if_lt (tgt := 56) dX10_land_36 (by decide) (fun c_36 => ?_) (fun c_36 => ?_)
    · have ok := ok.1 c_36
      have hx := xif_p c_36 hx
      exact cX.cutz (b_X10_land_56 hG hR ok hx) ⟨rfl, rfl, rfl, trivial⟩
    · have ok := ok.2 c_36
      have hx := xif_n c_36 hx
      refine c_iload_n dX10_land_39 rfl rfl ?_
      refine c_aload_nQ dX10_land_40 rfl rfl ?_
      refine c_getI (C := RX10) (T := TX10) (N := 12) (ci := 8) (k := 2) ⟨rfl, inT10, by decide, fX10_50⟩ (by decide) (by decide) (by decide) dX10_land_41 ok.1 ?_
      have ok := ok.2
      refine c_icmp_ge (tgt := 56) dX10_land_44 (by decide) (fun c_44 => ?_) (fun c_44 => ?_)
      · have ok := ok.1 c_44
        have hx := xif_p c_44 hx
        exact cX.cutz (b_X10_land_56 hG hR ok hx) ⟨rfl, rfl, rfl, trivial⟩
      · have ok := ok.2 c_44
        have hx := xif_n c_44 hx
        refine c_aload_nQ dX10_land_47 rfl rfl ?_
        refine c_getR (C := RX10) (T := TX10) (N := 12) (ci := 8) (k := 4) ⟨rfl, inT10, by decide, fX10_64⟩ (by decide) (by decide) (by decide) dX10_land_48 ok.1 ?_
        have ok := ok.2
        refine c_iload_n dX10_land_51 rfl rfl ?_
        refine c_aald (t := 5) (ty := (.object "QuorumLedger$Node")) rfl rfl (by decide) dX10_land_52 ok.1 ?_
        have ok := ok.2
        refine c_goto (tgt := 57) dX10_land_53 (by decide) ?_
        exact cX.cutz (b_X10_land_57 hG hR ok hx) ⟨rfl, rfl, rfl, trivial⟩
  · have ok := ok.1 c_30
    have hx := xif_p c_30 hx
    refine c_iconst (v := -1) dX10_land_33 (by decide) ?_
    exact c_ireturn rfl rfl dX10_land_34 (hR _ _ hx)
def F_X10_land_0 (N : Nat) (x0 : Option Nat) (x1 : Int32) (S : cS) : Int32 × cS := (F_X10_land_26 N x0 (f_X9_senderOf N S (za (cR S 6 (za x0))) x1) (f_X9_receiverOf N S (za (cR S 6 (za x0))) x1) ((f_X9_take N S (za (cR S 6 (za x0))) x1).1) (f_X9_take N S (za (cR S 6 (za x0))) x1).2)
def O_X10_land_0 (N : Nat) (x0 : Option Nat) (x1 : Int32) (S : cS) : Prop := (cis S x0 9) ∧ (cis S (cR S 6 (za x0)) 8 ∧ o_X9_senderOf N S (za (cR S 6 (za x0))) x1) ∧ (cis S x0 9) ∧ (cis S (cR S 6 (za x0)) 8 ∧ o_X9_receiverOf N S (za (cR S 6 (za x0))) x1) ∧ (cis S x0 9) ∧ (cis S (cR S 6 (za x0)) 8 ∧ o_X9_take N S (za (cR S 6 (za x0))) x1) ∧ O_X10_land_26 N x0 (f_X9_senderOf N S (za (cR S 6 (za x0))) x1) (f_X9_receiverOf N S (za (cR S 6 (za x0))) x1) ((f_X9_take N S (za (cR S 6 (za x0))) x1).1) (f_X9_take N S (za (cR S 6 (za x0))) x1).2
set_option maxRecDepth 100000 in
set_option maxHeartbeats 4000000 in
theorem b_X10_land_0 {G : zG} {o : cO} {S : cS} {N : Nat} {Q : Option Value → cS → Prop} {X : Int32 × cS → Prop} (hG : zOK G) (hR : ∀ v S', X (v, S') → Q (some (.int v)) S') {x0 : Option Nat} {x1 : Int32} (ok : O_X10_land_0 N x0 x1 S) (hx : X (F_X10_land_0 N x0 x1 S)) : cX G o dX10_land mX10_land 0 [some (va_rf x0), some (.int x1), none, none, none, none, none] [] S Q := by
  unfold O_X10_land_0 at ok
  unfold F_X10_land_0 at hx
  refine c_aload_nQ dX10_land_0 rfl rfl ?_
  refine c_getR (C := RX10) (T := TX10) (N := 12) (ci := 8) (k := 6) ⟨rfl, inT10, by decide, fX10_12⟩ (by decide) (by decide) (by decide) dX10_land_1 ok.1 ?_
  have ok := ok.2
  refine c_iload_n dX10_land_4 rfl rfl ?_
  refine c_V1iE (ci := 7) (rr := (RX9, TX9, 13)) (y' := mX9_senderOf) dX10_land_5 lX10_95 kX9_senderOf ⟨by decide, by decide⟩ rfl rfl (by decide) ok.1.1 (Nat.le_of_ble_eq_true rfl) (cc_X9_senderOf hG ok.1.2) ?_
  have ok := ok.2
  refine c_istore_2 dX10_land_8 (by decide) rfl ?_
  refine c_aload_nQ dX10_land_9 rfl rfl ?_
  refine c_getR (C := RX10) (T := TX10) (N := 12) (ci := 8) (k := 6) ⟨rfl, inT10, by decide, fX10_12⟩ (by decide) (by decide) (by decide) dX10_land_10 ok.1 ?_
  have ok := ok.2
  refine c_iload_n dX10_land_13 rfl rfl ?_
  refine c_V1iE (ci := 7) (rr := (RX9, TX9, 13)) (y' := mX9_receiverOf) dX10_land_14 lX10_99 kX9_receiverOf ⟨by decide, by decide⟩ rfl rfl (by decide) ok.1.1 (Nat.le_of_ble_eq_true rfl) (cc_X9_receiverOf hG ok.1.2) ?_
  have ok := ok.2
  refine c_istore_3 dX10_land_17 (by decide) rfl ?_
  refine c_aload_nQ dX10_land_18 rfl rfl ?_
  refine c_getR (C := RX10) (T := TX10) (N := 12) (ci := 8) (k := 6) ⟨rfl, inT10, by decide, fX10_12⟩ (by decide) (by decide) (by decide) dX10_land_19 ok.1 ?_
  have ok := ok.2
  refine c_iload_n dX10_land_22 rfl rfl ?_
  refine c_V1qE (ci := 7) (rr := (RX9, TX9, 13)) (y' := mX9_take) dX10_land_23 lX10_102 kX9_take ⟨by decide, by decide⟩ rfl rfl (by decide) ok.1.1 (Nat.le_of_ble_eq_true rfl) (cc_X9_take hG ok.1.2) ?_
  have ok := ok.2
  exact cX.cutz (b_X10_land_26 hG hR ok hx) ⟨rfl, rfl, rfl, trivial⟩
def f_X10_land (N : Nat) (S : cS) (a0 : Nat) (x1 : Int32) : Int32 × cS := F_X10_land_0 N (some a0) x1 S
def o_X10_land (N : Nat) (S : cS) (a0 : Nat) (x1 : Int32) : Prop := O_X10_land_0 N (some a0) x1 S
set_option maxRecDepth 100000 in
set_option maxHeartbeats 4000000 in
theorem cc_X10_land {G : zG} {o : cO} {S : cS} {N : Nat} (hG : zOK G) {a0 : Nat} {x1 : Int32} (ok : o_X10_land N S a0 x1) : cCi G o dX10_land mX10_land [.ref a0, .int x1] S (fun v S' => v = (f_X10_land N S a0 x1).1 ∧ S' = (f_X10_land N S a0 x1).2) := by
  refine cC.ofX rfl (by exact Nat.le_of_ble_eq_true rfl) ?_
  show cX G o dX10_land mX10_land 0 [some (.ref a0), some (.int x1), none, none, none, none, none] [] S _
  exact cX.cutz (b_X10_land_0 (X := fun F => F = f_X10_land N S a0 x1) hG (fun v S' h => ⟨v, rfl, by rw [← h], by rw [← h]⟩) ok rfl) ⟨rfl, rfl, trivial⟩
/-! X10_passTime -/
def F_X10_passTime_98 (N : Nat) (x1 : Int32) (S : cS) : Int32 × cS := (x1, S)
def O_X10_passTime_98 (N : Nat) (x1 : Int32) (S : cS) : Prop := True
set_option maxRecDepth 100000 in
set_option maxHeartbeats 4000000 in
theorem b_X10_passTime_98 {G : zG} {o : cO} {S : cS} {N : Nat} {Q : Option Value → cS → Prop} {X : Int32 × cS → Prop} (hG : zOK G) (hR : ∀ v S', X (v, S') → Q (some (.int v)) S') {x1 : Int32} (ok : O_X10_passTime_98 N x1 S) (hx : X (F_X10_passTime_98 N x1 S)) : cX G o dX10_passTime mX10_passTime 98 [none, some (.int x1), none, none, none] [] S Q := by
  unfold O_X10_passTime_98 at ok
  unfold F_X10_passTime_98 at hx
  refine c_iload_n dX10_passTime_98 rfl rfl ?_
  exact c_ireturn rfl rfl dX10_passTime_99 (hR _ _ hx)
def F_X10_passTime_92 (N : Nat) (rec : Option Nat → Int32 → Int32 → cS → Nat × Int32 × cS) (x0 : Option Nat) (x1 : Int32) (x2 : Int32) (S : cS) : Nat × Int32 × cS := (rec x0 x1 (x2 + nI 1) S)
def O_X10_passTime_92 (N : Nat) (rok : Option Nat → Int32 → Int32 → cS → Prop) (x0 : Option Nat) (x1 : Int32) (x2 : Int32) (S : cS) : Prop := rok x0 x1 (x2 + nI 1) S
set_option maxRecDepth 100000 in
set_option maxHeartbeats 4000000 in
theorem b_X10_passTime_92 {G : zG} {o : cO} {S : cS} {N : Nat} {Q : Option Value → cS → Prop} {X : Nat × Int32 × cS → Prop} (hG : zOK G) (hX0 : ∀ (x1 : Int32) (S' : cS), X (0, x1, S') → cX G o dX10_passTime mX10_passTime 98 [none, some (.int x1), none, none, none] [] S' Q) {rec : Option Nat → Int32 → Int32 → cS → Nat × Int32 × cS} {rok : Option Nat → Int32 → Int32 → cS → Prop} (hrec : ∀ (x0 : Option Nat) (x1 : Int32) (x2 : Int32) (S : cS), rok x0 x1 x2 S → X (rec x0 x1 x2 S) → cX G o dX10_passTime mX10_passTime 17 [some (va_rf x0), some (.int x1), some (.int x2), none, none] [] S Q) {x0 : Option Nat} {x1 : Int32} {x2 : Int32} (ok : O_X10_passTime_92 N rok x0 x1 x2 S) (hx : X (F_X10_passTime_92 N rec x0 x1 x2 S)) : cX G o dX10_passTime mX10_passTime 92 [some (va_rf x0), some (.int x1), some (.int x2), none, none] [] S Q := by
  unfold O_X10_passTime_92 at ok
  unfold F_X10_passTime_92 at hx
  refine c_iinc_2 (v := (x2 + nI 1)) dX10_passTime_92 rfl (by first | rfl | (congr 1)) (by decide) rfl ?_
  refine c_goto (tgt := 17) dX10_passTime_95 (by decide) ?_
  exact cX.cutz (hrec _ _ _ S ok hx) ⟨rfl, rfl, rfl, trivial⟩
def F_X10_passTime_86 (N : Nat) (rec : Option Nat → Int32 → Int32 → Option Nat → Int32 → cS → Nat × Option Nat × Int32 × Int32 × cS) (x0 : Option Nat) (x1 : Int32) (x2 : Int32) (x3 : Option Nat) (x4 : Int32) (S : cS) : Nat × Option Nat × Int32 × Int32 × cS := (rec x0 x1 x2 x3 (x4 + nI 1) S)
def O_X10_passTime_86 (N : Nat) (rok : Option Nat → Int32 → Int32 → Option Nat → Int32 → cS → Prop) (x0 : Option Nat) (x1 : Int32) (x2 : Int32) (x3 : Option Nat) (x4 : Int32) (S : cS) : Prop := rok x0 x1 x2 x3 (x4 + nI 1) S
set_option maxRecDepth 100000 in
set_option maxHeartbeats 4000000 in
theorem b_X10_passTime_86 {G : zG} {o : cO} {S : cS} {N : Nat} {Q : Option Value → cS → Prop} {X : Nat × Option Nat × Int32 × Int32 × cS → Prop} (hG : zOK G) (hX0 : ∀ (x0 : Option Nat) (x1 : Int32) (x2 : Int32) (S' : cS), X (0, x0, x1, x2, S') → cX G o dX10_passTime mX10_passTime 92 [some (va_rf x0), some (.int x1), some (.int x2), none, none] [] S' Q) {rec : Option Nat → Int32 → Int32 → Option Nat → Int32 → cS → Nat × Option Nat × Int32 × Int32 × cS} {rok : Option Nat → Int32 → Int32 → Option Nat → Int32 → cS → Prop} (hrec : ∀ (x0 : Option Nat) (x1 : Int32) (x2 : Int32) (x3 : Option Nat) (x4 : Int32) (S : cS), rok x0 x1 x2 x3 x4 S → X (rec x0 x1 x2 x3 x4 S) → cX G o dX10_passTime mX10_passTime 35 [some (va_rf x0), some (.int x1), some (.int x2), some (va_rf x3), some (.int x4)] [] S Q) {x0 : Option Nat} {x1 : Int32} {x2 : Int32} {x3 : Option Nat} {x4 : Int32} (ok : O_X10_passTime_86 N rok x0 x1 x2 x3 x4 S) (hx : X (F_X10_passTime_86 N rec x0 x1 x2 x3 x4 S)) : cX G o dX10_passTime mX10_passTime 86 [some (va_rf x0), some (.int x1), some (.int x2), some (va_rf x3), some (.int x4)] [] S Q := by
  unfold O_X10_passTime_86 at ok
  unfold F_X10_passTime_86 at hx
  refine c_iinc_4 (v := (x4 + nI 1)) dX10_passTime_86 rfl (by first | rfl | (congr 1)) (by decide) (by simp [zok, zg, zcat_rf]) ?_
  refine c_goto (tgt := 35) dX10_passTime_89 (by decide) ?_
  exact cX.cutz (hrec _ _ _ _ _ S ok hx) ⟨rfl, rfl, rfl, rfl, rfl, trivial⟩
def F_X10_passTime_82 (N : Nat) (rec : Option Nat → Int32 → Int32 → Option Nat → Int32 → cS → Nat × Option Nat × Int32 × Int32 × cS) (x0 : Option Nat) (x1 : Int32) (x2 : Int32) (x3 : Option Nat) (x4 : Int32) (S : cS) : Nat × Option Nat × Int32 × Int32 × cS := (F_X10_passTime_86 N rec x0 x1 x2 x3 x4 (f_X7_settle N S x3))
def O_X10_passTime_82 (N : Nat) (rok : Option Nat → Int32 → Int32 → Option Nat → Int32 → cS → Prop) (x0 : Option Nat) (x1 : Int32) (x2 : Int32) (x3 : Option Nat) (x4 : Int32) (S : cS) : Prop := (o_X7_settle N S x3) ∧ O_X10_passTime_86 N rok x0 x1 x2 x3 x4 (f_X7_settle N S x3)
set_option maxRecDepth 100000 in
set_option maxHeartbeats 4000000 in
theorem b_X10_passTime_82 {G : zG} {o : cO} {S : cS} {N : Nat} {Q : Option Value → cS → Prop} {X : Nat × Option Nat × Int32 × Int32 × cS → Prop} (hG : zOK G) (hX0 : ∀ (x0 : Option Nat) (x1 : Int32) (x2 : Int32) (S' : cS), X (0, x0, x1, x2, S') → cX G o dX10_passTime mX10_passTime 92 [some (va_rf x0), some (.int x1), some (.int x2), none, none] [] S' Q) {rec : Option Nat → Int32 → Int32 → Option Nat → Int32 → cS → Nat × Option Nat × Int32 × Int32 × cS} {rok : Option Nat → Int32 → Int32 → Option Nat → Int32 → cS → Prop} (hrec : ∀ (x0 : Option Nat) (x1 : Int32) (x2 : Int32) (x3 : Option Nat) (x4 : Int32) (S : cS), rok x0 x1 x2 x3 x4 S → X (rec x0 x1 x2 x3 x4 S) → cX G o dX10_passTime mX10_passTime 35 [some (va_rf x0), some (.int x1), some (.int x2), some (va_rf x3), some (.int x4)] [] S Q) {x0 : Option Nat} {x1 : Int32} {x2 : Int32} {x3 : Option Nat} {x4 : Int32} (ok : O_X10_passTime_82 N rok x0 x1 x2 x3 x4 S) (hx : X (F_X10_passTime_82 N rec x0 x1 x2 x3 x4 S)) : cX G o dX10_passTime mX10_passTime 82 [some (va_rf x0), some (.int x1), some (.int x2), some (va_rf x3), some (.int x4)] [] S Q := by
  unfold O_X10_passTime_82 at ok
  unfold F_X10_passTime_82 at hx
  refine c_aload_nQ dX10_passTime_82 rfl rfl ?_
  refine c_S1vE (y' := mX7_settle) dX10_passTime_83 lX10_85 kX7_settle ⟨by decide, by decide⟩ (Nat.le_of_ble_eq_true rfl) (cc_X7_settle hG ok.1) ?_
  have ok := ok.2
  exact cX.cutz (b_X10_passTime_86 hG hX0 hrec ok hx) ⟨rfl, rfl, rfl, rfl, rfl, trivial⟩
def B_X10_passTime_35 (N : Nat) (rec : Option Nat → Int32 → Int32 → Option Nat → Int32 → cS → Nat × Option Nat × Int32 × Int32 × cS) (x0 : Option Nat) (x1 : Int32) (x2 : Int32) (x3 : Option Nat) (x4 : Int32) (S : cS) : Nat × Option Nat × Int32 × Int32 × cS := (if (nI 3) ≤ x4 then (0, x0, x1, x2, S) else (if (cI S 8 (za x3)) = 0 then (0, x0, x1, x2, S) else (if (cA S (za (cR S 6 (za x3))) x4.toNatClampNeg) = (cI S 10 (za (cR S 6 (za x0)))) then (F_X10_passTime_82 N rec x0 (x1 + nI 1) x2 x3 x4 (f_X7_ring N (csA S (za (cR S 6 (za x3))) x4.toNatClampNeg (nI 0)) x3 x4)) else (F_X10_passTime_86 N rec x0 x1 x2 x3 x4 S))))
def OB_X10_passTime_35 (N : Nat) (rok : Option Nat → Int32 → Int32 → Option Nat → Int32 → cS → Prop) (x0 : Option Nat) (x1 : Int32) (x2 : Int32) (x3 : Option Nat) (x4 : Int32) (S : cS) : Prop := (((nI 3) ≤ x4 → True) ∧ (¬ (nI 3) ≤ x4 → (cis S x3 6) ∧ (((cI S 8 (za x3)) = 0 → True) ∧ (¬ (cI S 8 (za x3)) = 0 → (cis S x3 6) ∧ (cis S (cR S 6 (za x3)) 21 ∧ vp_in x4 (cL S (za (cR S 6 (za x3))))) ∧ (cis S x0 9) ∧ (cis S (cR S 6 (za x0)) 8) ∧ (((cA S (za (cR S 6 (za x3))) x4.toNatClampNeg) = (cI S 10 (za (cR S 6 (za x0)))) → (cis S x3 6) ∧ (cis S (cR S 6 (za x3)) 21 ∧ vp_in x4 (cL S (za (cR S 6 (za x3))))) ∧ (o_X7_ring N (csA S (za (cR S 6 (za x3))) x4.toNatClampNeg (nI 0)) x3 x4) ∧ O_X10_passTime_82 N rok x0 (x1 + nI 1) x2 x3 x4 (f_X7_ring N (csA S (za (cR S 6 (za x3))) x4.toNatClampNeg (nI 0)) x3 x4)) ∧ (¬ (cA S (za (cR S 6 (za x3))) x4.toNatClampNeg) = (cI S 10 (za (cR S 6 (za x0)))) → O_X10_passTime_86 N rok x0 x1 x2 x3 x4 S))))))
set_option maxRecDepth 100000 in
set_option maxHeartbeats 4000000 in
theorem bb_X10_passTime_35 {G : zG} {o : cO} {S : cS} {N : Nat} {Q : Option Value → cS → Prop} {X : Nat × Option Nat × Int32 × Int32 × cS → Prop} (hG : zOK G) (hX0 : ∀ (x0 : Option Nat) (x1 : Int32) (x2 : Int32) (S' : cS), X (0, x0, x1, x2, S') → cX G o dX10_passTime mX10_passTime 92 [some (va_rf x0), some (.int x1), some (.int x2), none, none] [] S' Q) {rec : Option Nat → Int32 → Int32 → Option Nat → Int32 → cS → Nat × Option Nat × Int32 × Int32 × cS} {rok : Option Nat → Int32 → Int32 → Option Nat → Int32 → cS → Prop} (hrec : ∀ (x0 : Option Nat) (x1 : Int32) (x2 : Int32) (x3 : Option Nat) (x4 : Int32) (S : cS), rok x0 x1 x2 x3 x4 S → X (rec x0 x1 x2 x3 x4 S) → cX G o dX10_passTime mX10_passTime 35 [some (va_rf x0), some (.int x1), some (.int x2), some (va_rf x3), some (.int x4)] [] S Q) {x0 : Option Nat} {x1 : Int32} {x2 : Int32} {x3 : Option Nat} {x4 : Int32} (ok : OB_X10_passTime_35 N rok x0 x1 x2 x3 x4 S) (hx : X (B_X10_passTime_35 N rec x0 x1 x2 x3 x4 S)) : cX G o dX10_passTime mX10_passTime 35 [some (va_rf x0), some (.int x1), some (.int x2), some (va_rf x3), some (.int x4)] [] S Q := by
  unfold OB_X10_passTime_35 at ok
  unfold B_X10_passTime_35 at hx
  refine c_iload dX10_passTime_35 rfl ?_
  refine c_iconst (v := nI 3) dX10_passTime_37 (by decide) ?_
  refine c_icmp_ge (tgt := 92) dX10_passTime_38 (by decide) (fun c_38 => ?_) (fun c_38 => ?_)
  · have ok := ok.1 c_38
    have hx := xif_p c_38 hx
    exact cX.cutz (hX0 _ _ _ S hx) ⟨rfl, rfl, rfl, trivial⟩
  · have ok := ok.2 c_38
    have hx := xif_n c_38 hx
    refine c_aload_nQ dX10_passTime_41 rfl rfl ?_
    refine c_getI (C := RX6) (T := TX6) (N := 19) (ci := 5) (k := 8) ⟨rfl, inT6, by decide, fX10_106⟩ (by decide) (by decide) (by decide) dX10_passTime_42 ok.1 ?_
    have ok := ok.2
    refine c_if_eq (tgt := 92) dX10_passTime_45 (by decide) (fun c_45 => ?_) (fun c_45 => ?_)
    · have ok := ok.1 c_45
      have hx := xif_p c_45 hx
      exact cX.cutz (hX0 _ _ _ S hx) ⟨rfl, rfl, rfl, trivial⟩
    · have ok := ok.2 c_45
      have hx := xif_n c_45 hx
      refine c_aload_nQ dX10_passTime_48 rfl rfl ?_
      refine c_getR (C := RX6) (T := TX6) (N := 19) (ci := 5) (k := 6) ⟨rfl, inT6, by decide, fX10_132⟩ (by decide) (by decide) (by decide) dX10_passTime_49 ok.1 ?_
      have ok := ok.2
      refine c_iload dX10_passTime_52 rfl ?_
      refine c_iald dX10_passTime_54 ok.1 ?_
      have ok := ok.2
      refine c_aload_nQ dX10_passTime_55 rfl rfl ?_
      refine c_getR (C := RX10) (T := TX10) (N := 12) (ci := 8) (k := 6) ⟨rfl, inT10, by decide, fX10_12⟩ (by decide) (by decide) (by decide) dX10_passTime_56 ok.1 ?_
      have ok := ok.2
      refine c_getI (C := RX9) (T := TX9) (N := 13) (ci := 7) (k := 10) ⟨rfl, inT9, by decide, fX10_129⟩ (by decide) (by decide) (by decide) dX10_passTime_59 ok.1 ?_
      have ok := ok.2
      refine c_icmp_ne (tgt := 86) dX10_passTime_62 (by decide) (fun c_62 => ?_) (fun c_62 => ?_)
      · have ok := ok.2 c_62
        have hx := xif_n c_62 hx
        exact cX.cutz (b_X10_passTime_86 hG hX0 hrec ok hx) ⟨rfl, rfl, rfl, rfl, rfl, trivial⟩
      · have ok := ok.1 c_62
        have hx := xif_p c_62 hx
        refine c_aload_nQ dX10_passTime_65 rfl rfl ?_
        refine c_getR (C := RX6) (T := TX6) (N := 19) (ci := 5) (k := 6) ⟨rfl, inT6, by decide, fX10_132⟩ (by decide) (by decide) (by decide) dX10_passTime_66 ok.1 ?_
        have ok := ok.2
        refine c_iload dX10_passTime_69 rfl ?_
        refine c_iconst (v := nI 0) dX10_passTime_71 (by decide) ?_
        refine c_iast hG dX10_passTime_72 ok.1 ?_
        have ok := ok.2
        refine c_iinc_1 (v := (x1 + nI 1)) dX10_passTime_73 rfl (by first | rfl | (congr 1)) (by decide) (by simp [zok, zg, zcat_rf]) ?_
        refine c_aload_nQ dX10_passTime_76 rfl rfl ?_
        refine c_iload dX10_passTime_77 rfl ?_
        refine c_S2vE (y' := mX7_ring) dX10_passTime_79 lX10_136 kX7_ring ⟨by decide, by decide⟩ (Nat.le_of_ble_eq_true rfl) (cc_X7_ring hG ok.1) ?_
        have ok := ok.2
        exact cX.cutz (b_X10_passTime_82 hG hX0 hrec ok hx) ⟨rfl, rfl, rfl, rfl, rfl, trivial⟩
def L_X10_passTime_35 (N : Nat) : Nat → Option Nat → Int32 → Int32 → Option Nat → Int32 → cS → Nat × Option Nat × Int32 × Int32 × cS
  | 0, x0, x1, x2, x3, x4, S => (0, none, 0, 0, S)
  | n + 1, x0, x1, x2, x3, x4, S => B_X10_passTime_35 N (L_X10_passTime_35 N n) x0 x1 x2 x3 x4 S
def OL_X10_passTime_35 (N : Nat) : Nat → Option Nat → Int32 → Int32 → Option Nat → Int32 → cS → Prop
  | 0, _, _, _, _, _, _ => False
  | n + 1, x0, x1, x2, x3, x4, S => OB_X10_passTime_35 N (OL_X10_passTime_35 N n) x0 x1 x2 x3 x4 S
set_option maxRecDepth 100000 in
set_option maxHeartbeats 4000000 in
theorem l_X10_passTime_35 {G : zG} {o : cO} {N : Nat} {Q : Option Value → cS → Prop} {X : Nat × Option Nat × Int32 × Int32 × cS → Prop} (hG : zOK G) (hX0 : ∀ (x0 : Option Nat) (x1 : Int32) (x2 : Int32) (S' : cS), X (0, x0, x1, x2, S') → cX G o dX10_passTime mX10_passTime 92 [some (va_rf x0), some (.int x1), some (.int x2), none, none] [] S' Q) : ∀ (n : Nat) (x0 : Option Nat) (x1 : Int32) (x2 : Int32) (x3 : Option Nat) (x4 : Int32) (S : cS), OL_X10_passTime_35 N n x0 x1 x2 x3 x4 S → X (L_X10_passTime_35 N n x0 x1 x2 x3 x4 S) → cX G o dX10_passTime mX10_passTime 35 [some (va_rf x0), some (.int x1), some (.int x2), some (va_rf x3), some (.int x4)] [] S Q := by
  intro n
  induction n with
  | zero => intro x0 x1 x2 x3 x4 S ok; exact absurd ok id
  | succ n ih =>
    intro x0 x1 x2 x3 x4 S ok hx
    exact bb_X10_passTime_35 hG hX0 (rec := L_X10_passTime_35 N n) (rok := OL_X10_passTime_35 N n) (fun x0 x1 x2 x3 x4 S ok hx => ih x0 x1 x2 x3 x4 S ok hx) ok hx
def A_X10_passTime_35 (N : Nat) (rec : Option Nat → Int32 → Int32 → cS → Nat × Int32 × cS) (x0 : Option Nat) (x1 : Int32) (x2 : Int32) (x3 : Option Nat) (x4 : Int32) (S : cS) (z : Nat × Option Nat × Int32 × Int32 × cS) : Nat × Int32 × cS := (F_X10_passTime_92 N rec (z.2.1) (z.2.2.1) (z.2.2.2.1) z.2.2.2.2)
def OA_X10_passTime_35 (N : Nat) (rok : Option Nat → Int32 → Int32 → cS → Prop) (x0 : Option Nat) (x1 : Int32) (x2 : Int32) (x3 : Option Nat) (x4 : Int32) (S : cS) (z : Nat × Option Nat × Int32 × Int32 × cS) : Prop := O_X10_passTime_92 N rok (z.2.1) (z.2.2.1) (z.2.2.2.1) z.2.2.2.2
set_option maxRecDepth 100000 in
set_option maxHeartbeats 4000000 in
theorem c_X10_passTime_35 {G : zG} {o : cO} {S : cS} {N : Nat} {Q : Option Value → cS → Prop} {X : Nat × Int32 × cS → Prop} (hG : zOK G) (hX0 : ∀ (x1 : Int32) (S' : cS), X (0, x1, S') → cX G o dX10_passTime mX10_passTime 98 [none, some (.int x1), none, none, none] [] S' Q) {rec : Option Nat → Int32 → Int32 → cS → Nat × Int32 × cS} {rok : Option Nat → Int32 → Int32 → cS → Prop} (hrec : ∀ (x0 : Option Nat) (x1 : Int32) (x2 : Int32) (S : cS), rok x0 x1 x2 S → X (rec x0 x1 x2 S) → cX G o dX10_passTime mX10_passTime 17 [some (va_rf x0), some (.int x1), some (.int x2), none, none] [] S Q) {x0 : Option Nat} {x1 : Int32} {x2 : Int32} {x3 : Option Nat} {x4 : Int32} (ok : OL_X10_passTime_35 N N x0 x1 x2 x3 x4 S ∧ OA_X10_passTime_35 N rok x0 x1 x2 x3 x4 S (L_X10_passTime_35 N N x0 x1 x2 x3 x4 S)) (hx : X (A_X10_passTime_35 N rec x0 x1 x2 x3 x4 S (L_X10_passTime_35 N N x0 x1 x2 x3 x4 S))) : cX G o dX10_passTime mX10_passTime 35 [some (va_rf x0), some (.int x1), some (.int x2), some (va_rf x3), some (.int x4)] [] S Q := by
  refine l_X10_passTime_35 hG ?_ N x0 x1 x2 x3 x4 S ok.1 (X := fun z => OA_X10_passTime_35 N rok x0 x1 x2 x3 x4 S z ∧ X (A_X10_passTime_35 N rec x0 x1 x2 x3 x4 S z)) ⟨ok.2, hx⟩
  · intro x0' x1' x2' S' hz
    obtain ⟨ok, hx⟩ := hz
    unfold OA_X10_passTime_35 at ok
    unfold A_X10_passTime_35 at hx
    exact cX.cutz (b_X10_passTime_92 hG hX0 hrec ok hx) ⟨rfl, rfl, rfl, trivial⟩
def B_X10_passTime_17 (N : Nat) (rec : Option Nat → Int32 → Int32 → cS → Nat × Int32 × cS) (x0 : Option Nat) (x1 : Int32) (x2 : Int32) (S : cS) : Nat × Int32 × cS := (if (cI S 2 (za x0)) ≤ x2 then (0, x1, S) else (A_X10_passTime_35 N rec x0 x1 x2 (cP S (za (cR S 4 (za x0))) x2.toNatClampNeg) (nI 0) S (L_X10_passTime_35 N N x0 x1 x2 (cP S (za (cR S 4 (za x0))) x2.toNatClampNeg) (nI 0) S)))
def OB_X10_passTime_17 (N : Nat) (rok : Option Nat → Int32 → Int32 → cS → Prop) (x0 : Option Nat) (x1 : Int32) (x2 : Int32) (S : cS) : Prop := (cis S x0 9) ∧ (((cI S 2 (za x0)) ≤ x2 → True) ∧ (¬ (cI S 2 (za x0)) ≤ x2 → (cis S x0 9) ∧ (cis S (cR S 4 (za x0)) 25 ∧ vp_in x2 (cL S (za (cR S 4 (za x0))))) ∧ (OL_X10_passTime_35 N N x0 x1 x2 (cP S (za (cR S 4 (za x0))) x2.toNatClampNeg) (nI 0) S ∧ OA_X10_passTime_35 N rok x0 x1 x2 (cP S (za (cR S 4 (za x0))) x2.toNatClampNeg) (nI 0) S (L_X10_passTime_35 N N x0 x1 x2 (cP S (za (cR S 4 (za x0))) x2.toNatClampNeg) (nI 0) S))))
set_option maxRecDepth 100000 in
set_option maxHeartbeats 4000000 in
theorem bb_X10_passTime_17 {G : zG} {o : cO} {S : cS} {N : Nat} {Q : Option Value → cS → Prop} {X : Nat × Int32 × cS → Prop} (hG : zOK G) (hX0 : ∀ (x1 : Int32) (S' : cS), X (0, x1, S') → cX G o dX10_passTime mX10_passTime 98 [none, some (.int x1), none, none, none] [] S' Q) {rec : Option Nat → Int32 → Int32 → cS → Nat × Int32 × cS} {rok : Option Nat → Int32 → Int32 → cS → Prop} (hrec : ∀ (x0 : Option Nat) (x1 : Int32) (x2 : Int32) (S : cS), rok x0 x1 x2 S → X (rec x0 x1 x2 S) → cX G o dX10_passTime mX10_passTime 17 [some (va_rf x0), some (.int x1), some (.int x2), none, none] [] S Q) {x0 : Option Nat} {x1 : Int32} {x2 : Int32} (ok : OB_X10_passTime_17 N rok x0 x1 x2 S) (hx : X (B_X10_passTime_17 N rec x0 x1 x2 S)) : cX G o dX10_passTime mX10_passTime 17 [some (va_rf x0), some (.int x1), some (.int x2), none, none] [] S Q := by
  unfold OB_X10_passTime_17 at ok
  unfold B_X10_passTime_17 at hx
  refine c_iload_n dX10_passTime_17 rfl rfl ?_
  refine c_aload_nQ dX10_passTime_18 rfl rfl ?_
  refine c_getI (C := RX10) (T := TX10) (N := 12) (ci := 8) (k := 2) ⟨rfl, inT10, by decide, fX10_50⟩ (by decide) (by decide) (by decide) dX10_passTime_19 ok.1 ?_
  have ok := ok.2
  refine c_icmp_ge (tgt := 98) dX10_passTime_22 (by decide) (fun c_22 => ?_) (fun c_22 => ?_)
  · have ok := ok.1 c_22
    have hx := xif_p c_22 hx
    exact cX.cutz (hX0 _ S hx) ⟨rfl, trivial⟩
  · have ok := ok.2 c_22
    have hx := xif_n c_22 hx
    refine c_aload_nQ dX10_passTime_25 rfl rfl ?_
    refine c_getR (C := RX10) (T := TX10) (N := 12) (ci := 8) (k := 4) ⟨rfl, inT10, by decide, fX10_64⟩ (by decide) (by decide) (by decide) dX10_passTime_26 ok.1 ?_
    have ok := ok.2
    refine c_iload_n dX10_passTime_29 rfl rfl ?_
    refine c_aald (t := 5) (ty := (.object "QuorumLedger$Node")) rfl rfl (by decide) dX10_passTime_30 ok.1 ?_
    have ok := ok.2
    refine c_astore_3Q dX10_passTime_31 (by decide) rfl ?_
    refine c_iconst (v := nI 0) dX10_passTime_32 (by decide) ?_
    refine c_istore_4 dX10_passTime_33 (by decide) (by simp [zok, zg, zcat_rf]) ?_
    exact cX.cutz (c_X10_passTime_35 hG hX0 hrec ok hx) ⟨rfl, rfl, rfl, rfl, rfl, trivial⟩
def L_X10_passTime_17 (N : Nat) : Nat → Option Nat → Int32 → Int32 → cS → Nat × Int32 × cS
  | 0, x0, x1, x2, S => (0, 0, S)
  | n + 1, x0, x1, x2, S => B_X10_passTime_17 N (L_X10_passTime_17 N n) x0 x1 x2 S
def OL_X10_passTime_17 (N : Nat) : Nat → Option Nat → Int32 → Int32 → cS → Prop
  | 0, _, _, _, _ => False
  | n + 1, x0, x1, x2, S => OB_X10_passTime_17 N (OL_X10_passTime_17 N n) x0 x1 x2 S
set_option maxRecDepth 100000 in
set_option maxHeartbeats 4000000 in
theorem l_X10_passTime_17 {G : zG} {o : cO} {N : Nat} {Q : Option Value → cS → Prop} {X : Nat × Int32 × cS → Prop} (hG : zOK G) (hX0 : ∀ (x1 : Int32) (S' : cS), X (0, x1, S') → cX G o dX10_passTime mX10_passTime 98 [none, some (.int x1), none, none, none] [] S' Q) : ∀ (n : Nat) (x0 : Option Nat) (x1 : Int32) (x2 : Int32) (S : cS), OL_X10_passTime_17 N n x0 x1 x2 S → X (L_X10_passTime_17 N n x0 x1 x2 S) → cX G o dX10_passTime mX10_passTime 17 [some (va_rf x0), some (.int x1), some (.int x2), none, none] [] S Q := by
  intro n
  induction n with
  | zero => intro x0 x1 x2 S ok; exact absurd ok id
  | succ n ih =>
    intro x0 x1 x2 S ok hx
    exact bb_X10_passTime_17 hG hX0 (rec := L_X10_passTime_17 N n) (rok := OL_X10_passTime_17 N n) (fun x0 x1 x2 S ok hx => ih x0 x1 x2 S ok hx) ok hx
def A_X10_passTime_17 (N : Nat) (x0 : Option Nat) (x1 : Int32) (x2 : Int32) (S : cS) (z : Nat × Int32 × cS) : Int32 × cS := (F_X10_passTime_98 N (z.2.1) z.2.2)
def OA_X10_passTime_17 (N : Nat) (x0 : Option Nat) (x1 : Int32) (x2 : Int32) (S : cS) (z : Nat × Int32 × cS) : Prop := O_X10_passTime_98 N (z.2.1) z.2.2
set_option maxRecDepth 100000 in
set_option maxHeartbeats 4000000 in
theorem c_X10_passTime_17 {G : zG} {o : cO} {S : cS} {N : Nat} {Q : Option Value → cS → Prop} {X : Int32 × cS → Prop} (hG : zOK G) (hR : ∀ v S', X (v, S') → Q (some (.int v)) S') {x0 : Option Nat} {x1 : Int32} {x2 : Int32} (ok : OL_X10_passTime_17 N N x0 x1 x2 S ∧ OA_X10_passTime_17 N x0 x1 x2 S (L_X10_passTime_17 N N x0 x1 x2 S)) (hx : X (A_X10_passTime_17 N x0 x1 x2 S (L_X10_passTime_17 N N x0 x1 x2 S))) : cX G o dX10_passTime mX10_passTime 17 [some (va_rf x0), some (.int x1), some (.int x2), none, none] [] S Q := by
  refine l_X10_passTime_17 hG ?_ N x0 x1 x2 S ok.1 (X := fun z => OA_X10_passTime_17 N x0 x1 x2 S z ∧ X (A_X10_passTime_17 N x0 x1 x2 S z)) ⟨ok.2, hx⟩
  · intro x1' S' hz
    obtain ⟨ok, hx⟩ := hz
    unfold OA_X10_passTime_17 at ok
    unfold A_X10_passTime_17 at hx
    exact cX.cutz (b_X10_passTime_98 hG hR ok hx) ⟨rfl, trivial⟩
def F_X10_passTime_0 (N : Nat) (x0 : Option Nat) (S : cS) : Int32 × cS := (A_X10_passTime_17 N x0 (nI 0) (nI 0) (csI S 10 (za (cR S 6 (za x0))) ((cI S 10 (za (cR S 6 (za x0)))) + (nI 1))) (L_X10_passTime_17 N N x0 (nI 0) (nI 0) (csI S 10 (za (cR S 6 (za x0))) ((cI S 10 (za (cR S 6 (za x0)))) + (nI 1)))))
def O_X10_passTime_0 (N : Nat) (x0 : Option Nat) (S : cS) : Prop := (cis S x0 9) ∧ (cis S (cR S 6 (za x0)) 8) ∧ (cis S (cR S 6 (za x0)) 8) ∧ (OL_X10_passTime_17 N N x0 (nI 0) (nI 0) (csI S 10 (za (cR S 6 (za x0))) ((cI S 10 (za (cR S 6 (za x0)))) + (nI 1))) ∧ OA_X10_passTime_17 N x0 (nI 0) (nI 0) (csI S 10 (za (cR S 6 (za x0))) ((cI S 10 (za (cR S 6 (za x0)))) + (nI 1))) (L_X10_passTime_17 N N x0 (nI 0) (nI 0) (csI S 10 (za (cR S 6 (za x0))) ((cI S 10 (za (cR S 6 (za x0)))) + (nI 1)))))
set_option maxRecDepth 100000 in
set_option maxHeartbeats 4000000 in
theorem b_X10_passTime_0 {G : zG} {o : cO} {S : cS} {N : Nat} {Q : Option Value → cS → Prop} {X : Int32 × cS → Prop} (hG : zOK G) (hR : ∀ v S', X (v, S') → Q (some (.int v)) S') {x0 : Option Nat} (ok : O_X10_passTime_0 N x0 S) (hx : X (F_X10_passTime_0 N x0 S)) : cX G o dX10_passTime mX10_passTime 0 [some (va_rf x0), none, none, none, none] [] S Q := by
  unfold O_X10_passTime_0 at ok
  unfold F_X10_passTime_0 at hx
  refine c_aload_nQ dX10_passTime_0 rfl rfl ?_
  refine c_getR (C := RX10) (T := TX10) (N := 12) (ci := 8) (k := 6) ⟨rfl, inT10, by decide, fX10_12⟩ (by decide) (by decide) (by decide) dX10_passTime_1 ok.1 ?_
  have ok := ok.2
  refine c_dup dX10_passTime_4 (zcat_rf _) ?_
  refine c_getI (C := RX9) (T := TX9) (N := 13) (ci := 7) (k := 10) ⟨rfl, inT9, by decide, fX10_129⟩ (by decide) (by decide) (by decide) dX10_passTime_5 ok.1 ?_
  have ok := ok.2
  refine c_iconst (v := nI 1) dX10_passTime_8 (by decide) ?_
  refine c_iadd dX10_passTime_9 ?_
  refine c_putI (C := RX9) (T := TX9) (N := 13) (ci := 7) (k := 10) ⟨rfl, inT9, by decide, fX10_129⟩ ftT9 rfl (by decide) (by decide) (by decide) rfl rfl dX10_passTime_10 ok.1 ?_
  have ok := ok.2
  refine c_iconst (v := nI 0) dX10_passTime_13 (by decide) ?_
  refine c_istore_1 dX10_passTime_14 (by decide) (by simp [zok, zg, zcat_rf]) ?_
  refine c_iconst (v := nI 0) dX10_passTime_15 (by decide) ?_
  refine c_istore_2 dX10_passTime_16 (by decide) rfl ?_
  exact cX.cutz (c_X10_passTime_17 hG hR ok hx) ⟨rfl, rfl, rfl, trivial⟩
def f_X10_passTime (N : Nat) (S : cS) (a0 : Nat) : Int32 × cS := F_X10_passTime_0 N (some a0) S
def o_X10_passTime (N : Nat) (S : cS) (a0 : Nat) : Prop := O_X10_passTime_0 N (some a0) S
set_option maxRecDepth 100000 in
set_option maxHeartbeats 4000000 in
theorem cc_X10_passTime {G : zG} {o : cO} {S : cS} {N : Nat} (hG : zOK G) {a0 : Nat} (ok : o_X10_passTime N S a0) : cCi G o dX10_passTime mX10_passTime [.ref a0] S (fun v S' => v = (f_X10_passTime N S a0).1 ∧ S' = (f_X10_passTime N S a0).2) := by
  refine cC.ofX rfl (by exact Nat.le_of_ble_eq_true rfl) ?_
  show cX G o dX10_passTime mX10_passTime 0 [some (.ref a0), none, none, none, none] [] S _
  exact cX.cutz (b_X10_passTime_0 (X := fun F => F = f_X10_passTime N S a0) hG (fun v S' h => ⟨v, rfl, by rw [← h], by rw [← h]⟩) ok rfl) ⟨rfl, trivial⟩
/-! X11_init -/
def F_X11_init_57 (N : Nat) (s0 : Option Nat) (s1 : Option Nat) (S : cS) : cS := (csR S 0 (za s0) s1)
def O_X11_init_57 (N : Nat) (s0 : Option Nat) (s1 : Option Nat) (S : cS) : Prop := (cis S s0 10) ∧ True
set_option maxRecDepth 100000 in
set_option maxHeartbeats 4000000 in
theorem b_X11_init_57 {G : zG} {o : cO} {S : cS} {N : Nat} {Q : Option Value → cS → Prop} {X : cS → Prop} (hG : zOK G) (hR : ∀ S', X S' → Q none S') {s0 : Option Nat} {s1 : Option Nat} (ok : O_X11_init_57 N s0 s1 S) (hx : X (F_X11_init_57 N s0 s1 S)) : cX G o dX11_init mX11_init 57 [none, none, none, none] [va_rf s1, va_rf s0] S Q := by
  unfold O_X11_init_57 at ok
  unfold F_X11_init_57 at hx
  refine c_putRF (C := RX11) (T := TX11) (N := 4) (ci := 9) (k := 0) ⟨rfl, inT11, by decide, fX11_22⟩ ftT11 rfl rfl rfl (by decide) (by decide) (by decide) (fun v => by cases v <;> rfl) (fun v => by cases v <;> rfl) dX11_init_57 ok.1 ?_
  have ok := ok.2
  exact c_return rfl dX11_init_60 (hR _ hx)
def F_X11_init_54 (N : Nat) (s0 : Option Nat) (s1 : Int32) (s2 : Int32) (S : cS) : cS := (F_X11_init_57 N s0 ((f_X10_found N S s1 s2).1) (f_X10_found N S s1 s2).2)
def O_X11_init_54 (N : Nat) (s0 : Option Nat) (s1 : Int32) (s2 : Int32) (S : cS) : Prop := (o_X10_found N S s1 s2) ∧ O_X11_init_57 N s0 ((f_X10_found N S s1 s2).1) (f_X10_found N S s1 s2).2
set_option maxRecDepth 100000 in
set_option maxHeartbeats 4000000 in
theorem b_X11_init_54 {G : zG} {o : cO} {S : cS} {N : Nat} {Q : Option Value → cS → Prop} {X : cS → Prop} (hG : zOK G) (hR : ∀ S', X S' → Q none S') {s0 : Option Nat} {s1 : Int32} {s2 : Int32} (ok : O_X11_init_54 N s0 s1 s2 S) (hx : X (F_X11_init_54 N s0 s1 s2 S)) : cX G o dX11_init mX11_init 54 [none, none, none, none] [.int s2, .int s1, va_rf s0] S Q := by
  unfold O_X11_init_54 at ok
  unfold F_X11_init_54 at hx
  refine c_S2qE (y' := mX10_found) dX11_init_54 lX11_16 kX10_found ⟨by decide, by decide⟩ (by simp only [List.map_cons, List.map_nil, List.sum_cons, List.sum_nil, zcat_rf, zcat_i, zcat_l, zcat_r] <;> decide) (cc_X10_found hG ok.1) ?_
  have ok := ok.2
  exact cX.cutz (b_X11_init_57 hG hR ok hx) trivial
def F_X11_init_53 (N : Nat) (s0 : Option Nat) (s1 : Int32) (S : cS) : cS := (F_X11_init_54 N s0 s1 (nI 0) S)
def O_X11_init_53 (N : Nat) (s0 : Option Nat) (s1 : Int32) (S : cS) : Prop := O_X11_init_54 N s0 s1 (nI 0) S
set_option maxRecDepth 100000 in
set_option maxHeartbeats 4000000 in
theorem b_X11_init_53 {G : zG} {o : cO} {S : cS} {N : Nat} {Q : Option Value → cS → Prop} {X : cS → Prop} (hG : zOK G) (hR : ∀ S', X S' → Q none S') {s0 : Option Nat} {s1 : Int32} (ok : O_X11_init_53 N s0 s1 S) (hx : X (F_X11_init_53 N s0 s1 S)) : cX G o dX11_init mX11_init 53 [none, none, none, none] [.int s1, va_rf s0] S Q := by
  unfold O_X11_init_53 at ok
  unfold F_X11_init_53 at hx
  refine c_iconst (v := nI 0) dX11_init_53 (by decide) ?_
  exact cX.cutz (b_X11_init_54 hG hR ok hx) trivial
def F_X11_init_37 (N : Nat) (x0 : Option Nat) (x2 : Int32) (s0 : Int32) (S : cS) : cS := (if x2 < 0 then (F_X11_init_53 N x0 s0 S) else (if s0 < x2 then (F_X11_init_53 N x0 s0 S) else (F_X11_init_54 N x0 s0 x2 S)))
def O_X11_init_37 (N : Nat) (x0 : Option Nat) (x2 : Int32) (s0 : Int32) (S : cS) : Prop := ((x2 < 0 → O_X11_init_53 N x0 s0 S) ∧ (¬ x2 < 0 → ((s0 < x2 → O_X11_init_53 N x0 s0 S) ∧ (¬ s0 < x2 → O_X11_init_54 N x0 s0 x2 S))))
set_option maxRecDepth 100000 in
set_option maxHeartbeats 4000000 in
theorem b_X11_init_37 {G : zG} {o : cO} {S : cS} {N : Nat} {Q : Option Value → cS → Prop} {X : cS → Prop} (hG : zOK G) (hR : ∀ S', X S' → Q none S') {x0 : Option Nat} {x2 : Int32} {s0 : Int32} (ok : O_X11_init_37 N x0 x2 s0 S) (hx : X (F_X11_init_37 N x0 x2 s0 S)) : cX G o dX11_init mX11_init 37 [some (va_rf x0), none, some (.int x2), none] [.int s0] S Q := by
  unfold O_X11_init_37 at ok
  unfold F_X11_init_37 at hx
  refine c_istore_3 dX11_init_37 (by decide) rfl ?_
  refine c_aload_nQ dX11_init_38 rfl rfl ?_
  refine c_iload_n dX11_init_39 rfl rfl ?_
  refine c_iload_n dX11_init_40 rfl rfl ?_
  refine c_if_lt (tgt := 53) dX11_init_41 (by decide) (fun c_41 => ?_) (fun c_41 => ?_)
  · have ok := ok.1 c_41
    have hx := xif_p c_41 hx
    exact cX.cutz (b_X11_init_53 hG hR ok hx) trivial
  · have ok := ok.2 c_41
    have hx := xif_n c_41 hx
    refine c_iload_n dX11_init_44 rfl rfl ?_
    refine c_iload_n dX11_init_45 rfl rfl ?_
    refine c_icmp_gt (tgt := 53) dX11_init_46 (by decide) (fun c_46 => ?_) (fun c_46 => ?_)
    · have ok := ok.1 c_46
      have hx := xif_p c_46 hx
      exact cX.cutz (b_X11_init_53 hG hR ok hx) trivial
    · have ok := ok.2 c_46
      have hx := xif_n c_46 hx
      refine c_iload_n dX11_init_49 rfl rfl ?_
      refine c_goto (tgt := 54) dX11_init_50 (by decide) ?_
      exact cX.cutz (b_X11_init_54 hG hR ok hx) trivial
def F_X11_init_36 (N : Nat) (x0 : Option Nat) (x2 : Int32) (S : cS) : cS := (F_X11_init_37 N x0 x2 (nI 1) S)
def O_X11_init_36 (N : Nat) (x0 : Option Nat) (x2 : Int32) (S : cS) : Prop := O_X11_init_37 N x0 x2 (nI 1) S
set_option maxRecDepth 100000 in
set_option maxHeartbeats 4000000 in
theorem b_X11_init_36 {G : zG} {o : cO} {S : cS} {N : Nat} {Q : Option Value → cS → Prop} {X : cS → Prop} (hG : zOK G) (hR : ∀ S', X S' → Q none S') {x0 : Option Nat} {x2 : Int32} (ok : O_X11_init_36 N x0 x2 S) (hx : X (F_X11_init_36 N x0 x2 S)) : cX G o dX11_init mX11_init 36 [some (va_rf x0), none, some (.int x2), none] [] S Q := by
  unfold O_X11_init_36 at ok
  unfold F_X11_init_36 at hx
  refine c_iconst (v := nI 1) dX11_init_36 (by decide) ?_
  exact cX.cutz (b_X11_init_37 hG hR ok hx) ⟨rfl, rfl, trivial⟩
def F_X11_init_22 (N : Nat) (x0 : Option Nat) (x1 : Int32) (x2 : Int32) (S : cS) : cS := (if x1 < (nI 1) then (F_X11_init_36 N x0 x2 S) else (if (nI 4) < x1 then (F_X11_init_36 N x0 x2 S) else (F_X11_init_37 N x0 x2 x1 S)))
def O_X11_init_22 (N : Nat) (x0 : Option Nat) (x1 : Int32) (x2 : Int32) (S : cS) : Prop := ((x1 < (nI 1) → O_X11_init_36 N x0 x2 S) ∧ (¬ x1 < (nI 1) → (((nI 4) < x1 → O_X11_init_36 N x0 x2 S) ∧ (¬ (nI 4) < x1 → O_X11_init_37 N x0 x2 x1 S))))
set_option maxRecDepth 100000 in
set_option maxHeartbeats 4000000 in
theorem b_X11_init_22 {G : zG} {o : cO} {S : cS} {N : Nat} {Q : Option Value → cS → Prop} {X : cS → Prop} (hG : zOK G) (hR : ∀ S', X S' → Q none S') {x0 : Option Nat} {x1 : Int32} {x2 : Int32} (ok : O_X11_init_22 N x0 x1 x2 S) (hx : X (F_X11_init_22 N x0 x1 x2 S)) : cX G o dX11_init mX11_init 22 [some (va_rf x0), some (.int x1), some (.int x2), none] [] S Q := by
  unfold O_X11_init_22 at ok
  unfold F_X11_init_22 at hx
  refine c_iload_n dX11_init_22 rfl rfl ?_
  refine c_iconst (v := nI 1) dX11_init_23 (by decide) ?_
  refine c_icmp_lt (tgt := 36) dX11_init_24 (by decide) (fun c_24 => ?_) (fun c_24 => ?_)
  · have ok := ok.1 c_24
    have hx := xif_p c_24 hx
    exact cX.cutz (b_X11_init_36 hG hR ok hx) ⟨rfl, rfl, trivial⟩
  · have ok := ok.2 c_24
    have hx := xif_n c_24 hx
    refine c_iload_n dX11_init_27 rfl rfl ?_
    refine c_iconst (v := nI 4) dX11_init_28 (by decide) ?_
    refine c_icmp_gt (tgt := 36) dX11_init_29 (by decide) (fun c_29 => ?_) (fun c_29 => ?_)
    · have ok := ok.1 c_29
      have hx := xif_p c_29 hx
      exact cX.cutz (b_X11_init_36 hG hR ok hx) ⟨rfl, rfl, trivial⟩
    · have ok := ok.2 c_29
      have hx := xif_n c_29 hx
      refine c_iload_n dX11_init_32 rfl rfl ?_
      refine c_goto (tgt := 37) dX11_init_33 (by decide) ?_
      exact cX.cutz (b_X11_init_37 hG hR ok hx) ⟨rfl, rfl, trivial⟩
def F_X11_init_13 (N : Nat) (x0 : Option Nat) (x1 : Int32) (x2 : Int32) (S : cS) : cS := (F_X11_init_22 N x0 x1 x2 (csR (csNew S 20 (nI 1024).toNatClampNeg) 2 (za x0) (some (cn S))))
def O_X11_init_13 (N : Nat) (x0 : Option Nat) (x1 : Int32) (x2 : Int32) (S : cS) : Prop := (¬ (nI 1024) < 0 ∧ (nI 1024).toNatClampNeg ≤ 1000000) ∧ (cis (csNew S 20 (nI 1024).toNatClampNeg) x0 10) ∧ O_X11_init_22 N x0 x1 x2 (csR (csNew S 20 (nI 1024).toNatClampNeg) 2 (za x0) (some (cn S)))
set_option maxRecDepth 100000 in
set_option maxHeartbeats 4000000 in
theorem b_X11_init_13 {G : zG} {o : cO} {S : cS} {N : Nat} {Q : Option Value → cS → Prop} {X : cS → Prop} (hG : zOK G) (hR : ∀ S', X S' → Q none S') {x0 : Option Nat} {x1 : Int32} {x2 : Int32} (ok : O_X11_init_13 N x0 x1 x2 S) (hx : X (F_X11_init_13 N x0 x1 x2 S)) : cX G o dX11_init mX11_init 13 [some (va_rf x0), some (.int x1), some (.int x2), none] [] S Q := by
  unfold O_X11_init_13 at ok
  unfold F_X11_init_13 at hx
  refine c_aload_nQ dX11_init_13 rfl rfl ?_
  refine c_sipush (v := nI 1024) dX11_init_14 (by decide) ?_
  refine c_newa0 dX11_init_17 ok.1.1 ok.1.2 ?_
  have ok := ok.2
  refine c_putRF (C := RX11) (T := TX11) (N := 4) (ci := 9) (k := 2) ⟨rfl, inT11, by decide, fX11_13⟩ ftT11 rfl rfl rfl (by decide) (by decide) (by decide) (fun v => by cases v <;> rfl) (fun v => by cases v <;> rfl) dX11_init_19 ok.1 ?_
  have ok := ok.2
  exact cX.cutz (b_X11_init_22 hG hR ok hx) ⟨rfl, rfl, rfl, trivial⟩
def F_X11_init_0 (N : Nat) (x0 : Option Nat) (x1 : Int32) (x2 : Int32) (S : cS) : cS := (F_X11_init_13 N x0 x1 x2 (csR (csNew S 20 (nI 1000).toNatClampNeg) 1 (za x0) (some (cn S))))
def O_X11_init_0 (N : Nat) (x0 : Option Nat) (x1 : Int32) (x2 : Int32) (S : cS) : Prop := (x0 = some (za x0)) ∧ (¬ (nI 1000) < 0 ∧ (nI 1000).toNatClampNeg ≤ 1000000) ∧ (cis (csNew S 20 (nI 1000).toNatClampNeg) x0 10) ∧ O_X11_init_13 N x0 x1 x2 (csR (csNew S 20 (nI 1000).toNatClampNeg) 1 (za x0) (some (cn S)))
set_option maxRecDepth 100000 in
set_option maxHeartbeats 4000000 in
theorem b_X11_init_0 {G : zG} {o : cO} {S : cS} {N : Nat} {Q : Option Value → cS → Prop} {X : cS → Prop} (hG : zOK G) (hR : ∀ S', X S' → Q none S') {x0 : Option Nat} {x1 : Int32} {x2 : Int32} (ok : O_X11_init_0 N x0 x1 x2 S) (hx : X (F_X11_init_0 N x0 x1 x2 S)) : cX G o dX11_init mX11_init 0 [some (va_rf x0), some (.int x1), some (.int x2), none] [] S Q := by
  unfold O_X11_init_0 at ok
  unfold F_X11_init_0 at hx
  refine c_aload_nQ dX11_init_0 rfl rfl ?_
  refine c_objInit dX11_init_1 qX11_1 objI objC (by decide) (Nat.le_of_ble_eq_true rfl) ok.1 ?_
  have ok := ok.2
  refine c_aload_nQ dX11_init_4 rfl rfl ?_
  refine c_sipush (v := nI 1000) dX11_init_5 (by decide) ?_
  refine c_newa0 dX11_init_8 ok.1.1 ok.1.2 ?_
  have ok := ok.2
  refine c_putRF (C := RX11) (T := TX11) (N := 4) (ci := 9) (k := 1) ⟨rfl, inT11, by decide, fX11_9⟩ ftT11 rfl rfl rfl (by decide) (by decide) (by decide) (fun v => by cases v <;> rfl) (fun v => by cases v <;> rfl) dX11_init_10 ok.1 ?_
  have ok := ok.2
  exact cX.cutz (b_X11_init_13 hG hR ok hx) ⟨rfl, rfl, rfl, trivial⟩
def f_X11_init (N : Nat) (S : cS) (a0 : Nat) (x1 : Int32) (x2 : Int32) : cS := F_X11_init_0 N (some a0) x1 x2 S
def o_X11_init (N : Nat) (S : cS) (a0 : Nat) (x1 : Int32) (x2 : Int32) : Prop := O_X11_init_0 N (some a0) x1 x2 S
set_option maxRecDepth 100000 in
set_option maxHeartbeats 4000000 in
theorem cc_X11_init {G : zG} {o : cO} {S : cS} {N : Nat} (hG : zOK G) {a0 : Nat} {x1 : Int32} {x2 : Int32} (ok : o_X11_init N S a0 x1 x2) : cCv G o dX11_init mX11_init [.ref a0, .int x1, .int x2] S (fun S' => S' = f_X11_init N S a0 x1 x2) := by
  refine cC.ofX rfl (by exact Nat.le_of_ble_eq_true rfl) ?_
  show cX G o dX11_init mX11_init 0 [some (.ref a0), some (.int x1), some (.int x2), none] [] S _
  exact cX.cutz (b_X11_init_0 (X := fun F => F = f_X11_init N S a0 x1 x2) hG (fun S' h => ⟨rfl, h⟩) ok rfl) ⟨rfl, rfl, rfl, trivial⟩
/-! X11_putInt -/
def F_X11_putInt_46 (N : Nat)  (S : cS) : cS := S
def O_X11_putInt_46 (N : Nat)  (S : cS) : Prop := True
set_option maxRecDepth 100000 in
set_option maxHeartbeats 4000000 in
theorem b_X11_putInt_46 {G : zG} {o : cO} {S : cS} {N : Nat} {Q : Option Value → cS → Prop} {X : cS → Prop} (hG : zOK G) (hR : ∀ S', X S' → Q none S') (ok : O_X11_putInt_46 N S) (hx : X (F_X11_putInt_46 N S)) : cX G o dX11_putInt mX11_putInt 46 [none, none, none] [] S Q := by
  unfold O_X11_putInt_46 at ok
  unfold F_X11_putInt_46 at hx
  exact c_return rfl dX11_putInt_46 (hR _ hx)
def F_X11_putInt_40 (N : Nat) (rec : Option Nat → Int32 → Int32 → cS → Nat × cS) (x0 : Option Nat) (x1 : Int32) (x2 : Int32) (S : cS) : Nat × cS := (rec x0 x1 (x2 + (-8)) S)
def O_X11_putInt_40 (N : Nat) (rok : Option Nat → Int32 → Int32 → cS → Prop) (x0 : Option Nat) (x1 : Int32) (x2 : Int32) (S : cS) : Prop := rok x0 x1 (x2 + (-8)) S
set_option maxRecDepth 100000 in
set_option maxHeartbeats 4000000 in
theorem b_X11_putInt_40 {G : zG} {o : cO} {S : cS} {N : Nat} {Q : Option Value → cS → Prop} {X : Nat × cS → Prop} (hG : zOK G) (hX0 : ∀ (S' : cS), X (0, S') → cX G o dX11_putInt mX11_putInt 46 [none, none, none] [] S' Q) {rec : Option Nat → Int32 → Int32 → cS → Nat × cS} {rok : Option Nat → Int32 → Int32 → cS → Prop} (hrec : ∀ (x0 : Option Nat) (x1 : Int32) (x2 : Int32) (S : cS), rok x0 x1 x2 S → X (rec x0 x1 x2 S) → cX G o dX11_putInt mX11_putInt 3 [some (va_rf x0), some (.int x1), some (.int x2)] [] S Q) {x0 : Option Nat} {x1 : Int32} {x2 : Int32} (ok : O_X11_putInt_40 N rok x0 x1 x2 S) (hx : X (F_X11_putInt_40 N rec x0 x1 x2 S)) : cX G o dX11_putInt mX11_putInt 40 [some (va_rf x0), some (.int x1), some (.int x2)] [] S Q := by
  unfold O_X11_putInt_40 at ok
  unfold F_X11_putInt_40 at hx
  refine c_iinc_2 (v := (x2 + (-8))) dX11_putInt_40 rfl (by first | rfl | (congr 1)) (by decide) rfl ?_
  refine c_goto (tgt := 3) dX11_putInt_43 (by decide) ?_
  exact cX.cutz (hrec _ _ _ S ok hx) ⟨rfl, rfl, rfl, trivial⟩
def B_X11_putInt_3 (N : Nat) (rec : Option Nat → Int32 → Int32 → cS → Nat × cS) (x0 : Option Nat) (x1 : Int32) (x2 : Int32) (S : cS) : Nat × cS := (if x2 < 0 then (0, S) else (if (nI 1000) ≤ (cI S 3 (za x0)) then (0, S) else (F_X11_putInt_40 N rec x0 x1 x2 (csI (csA S (za (cR S 1 (za x0))) (cI S 3 (za x0)).toNatClampNeg (((x1 >>> (x2 &&& 31)).toInt8.toInt32).toInt8.toInt32)) 3 (za x0) ((cI (csA S (za (cR S 1 (za x0))) (cI S 3 (za x0)).toNatClampNeg (((x1 >>> (x2 &&& 31)).toInt8.toInt32).toInt8.toInt32)) 3 (za x0)) + (nI 1))))))
def OB_X11_putInt_3 (N : Nat) (rok : Option Nat → Int32 → Int32 → cS → Prop) (x0 : Option Nat) (x1 : Int32) (x2 : Int32) (S : cS) : Prop := ((x2 < 0 → True) ∧ (¬ x2 < 0 → (cis S x0 10) ∧ (((nI 1000) ≤ (cI S 3 (za x0)) → True) ∧ (¬ (nI 1000) ≤ (cI S 3 (za x0)) → (cis S x0 10) ∧ (cis S x0 10) ∧ (cis S (cR S 1 (za x0)) 20 ∧ vp_in (cI S 3 (za x0)) (cL S (za (cR S 1 (za x0))))) ∧ (cis (csA S (za (cR S 1 (za x0))) (cI S 3 (za x0)).toNatClampNeg (((x1 >>> (x2 &&& 31)).toInt8.toInt32).toInt8.toInt32)) x0 10) ∧ (cis (csA S (za (cR S 1 (za x0))) (cI S 3 (za x0)).toNatClampNeg (((x1 >>> (x2 &&& 31)).toInt8.toInt32).toInt8.toInt32)) x0 10) ∧ O_X11_putInt_40 N rok x0 x1 x2 (csI (csA S (za (cR S 1 (za x0))) (cI S 3 (za x0)).toNatClampNeg (((x1 >>> (x2 &&& 31)).toInt8.toInt32).toInt8.toInt32)) 3 (za x0) ((cI (csA S (za (cR S 1 (za x0))) (cI S 3 (za x0)).toNatClampNeg (((x1 >>> (x2 &&& 31)).toInt8.toInt32).toInt8.toInt32)) 3 (za x0)) + (nI 1)))))))
set_option maxRecDepth 100000 in
set_option maxHeartbeats 4000000 in
theorem bb_X11_putInt_3 {G : zG} {o : cO} {S : cS} {N : Nat} {Q : Option Value → cS → Prop} {X : Nat × cS → Prop} (hG : zOK G) (hX0 : ∀ (S' : cS), X (0, S') → cX G o dX11_putInt mX11_putInt 46 [none, none, none] [] S' Q) {rec : Option Nat → Int32 → Int32 → cS → Nat × cS} {rok : Option Nat → Int32 → Int32 → cS → Prop} (hrec : ∀ (x0 : Option Nat) (x1 : Int32) (x2 : Int32) (S : cS), rok x0 x1 x2 S → X (rec x0 x1 x2 S) → cX G o dX11_putInt mX11_putInt 3 [some (va_rf x0), some (.int x1), some (.int x2)] [] S Q) {x0 : Option Nat} {x1 : Int32} {x2 : Int32} (ok : OB_X11_putInt_3 N rok x0 x1 x2 S) (hx : X (B_X11_putInt_3 N rec x0 x1 x2 S)) : cX G o dX11_putInt mX11_putInt 3 [some (va_rf x0), some (.int x1), some (.int x2)] [] S Q := by
  unfold OB_X11_putInt_3 at ok
  unfold B_X11_putInt_3 at hx
  refine c_iload_n dX11_putInt_3 rfl rfl ?_
  refine c_if_lt (tgt := 46) dX11_putInt_4 (by decide) (fun c_4 => ?_) (fun c_4 => ?_)
  · have ok := ok.1 c_4
    have hx := xif_p c_4 hx
    exact cX.cutz (hX0 S hx) trivial
  · have ok := ok.2 c_4
    have hx := xif_n c_4 hx
    refine c_aload_nQ dX11_putInt_7 rfl rfl ?_
    refine c_getI (C := RX11) (T := TX11) (N := 4) (ci := 9) (k := 3) ⟨rfl, inT11, by decide, fX11_26⟩ (by decide) (by decide) (by decide) dX11_putInt_8 ok.1 ?_
    have ok := ok.2
    refine c_sipush (v := nI 1000) dX11_putInt_11 (by decide) ?_
    refine c_icmp_ge (tgt := 46) dX11_putInt_14 (by decide) (fun c_14 => ?_) (fun c_14 => ?_)
    · have ok := ok.1 c_14
      have hx := xif_p c_14 hx
      exact cX.cutz (hX0 S hx) trivial
    · have ok := ok.2 c_14
      have hx := xif_n c_14 hx
      refine c_aload_nQ dX11_putInt_17 rfl rfl ?_
      refine c_getR (C := RX11) (T := TX11) (N := 4) (ci := 9) (k := 1) ⟨rfl, inT11, by decide, fX11_9⟩ (by decide) (by decide) (by decide) dX11_putInt_18 ok.1 ?_
      have ok := ok.2
      refine c_aload_nQ dX11_putInt_21 rfl rfl ?_
      refine c_getI (C := RX11) (T := TX11) (N := 4) (ci := 9) (k := 3) ⟨rfl, inT11, by decide, fX11_26⟩ (by decide) (by decide) (by decide) dX11_putInt_22 ok.1 ?_
      have ok := ok.2
      refine c_iload_n dX11_putInt_25 rfl rfl ?_
      refine c_iload_n dX11_putInt_26 rfl rfl ?_
      refine c_ishr dX11_putInt_27 ?_
      refine c_i2b dX11_putInt_28 ?_
      refine c_bast dX11_putInt_29 ok.1 ?_
      have ok := ok.2
      refine c_aload_nQ dX11_putInt_30 rfl rfl ?_
      refine c_dup dX11_putInt_31 (zcat_rf _) ?_
      refine c_getI (C := RX11) (T := TX11) (N := 4) (ci := 9) (k := 3) ⟨rfl, inT11, by decide, fX11_26⟩ (by decide) (by decide) (by decide) dX11_putInt_32 ok.1 ?_
      have ok := ok.2
      refine c_iconst (v := nI 1) dX11_putInt_35 (by decide) ?_
      refine c_iadd dX11_putInt_36 ?_
      refine c_putI (C := RX11) (T := TX11) (N := 4) (ci := 9) (k := 3) ⟨rfl, inT11, by decide, fX11_26⟩ ftT11 rfl (by decide) (by decide) (by decide) rfl rfl dX11_putInt_37 ok.1 ?_
      have ok := ok.2
      exact cX.cutz (b_X11_putInt_40 hG hX0 hrec ok hx) ⟨rfl, rfl, rfl, trivial⟩
def L_X11_putInt_3 (N : Nat) : Nat → Option Nat → Int32 → Int32 → cS → Nat × cS
  | 0, x0, x1, x2, S => (0, S)
  | n + 1, x0, x1, x2, S => B_X11_putInt_3 N (L_X11_putInt_3 N n) x0 x1 x2 S
def OL_X11_putInt_3 (N : Nat) : Nat → Option Nat → Int32 → Int32 → cS → Prop
  | 0, _, _, _, _ => False
  | n + 1, x0, x1, x2, S => OB_X11_putInt_3 N (OL_X11_putInt_3 N n) x0 x1 x2 S
set_option maxRecDepth 100000 in
set_option maxHeartbeats 4000000 in
theorem l_X11_putInt_3 {G : zG} {o : cO} {N : Nat} {Q : Option Value → cS → Prop} {X : Nat × cS → Prop} (hG : zOK G) (hX0 : ∀ (S' : cS), X (0, S') → cX G o dX11_putInt mX11_putInt 46 [none, none, none] [] S' Q) : ∀ (n : Nat) (x0 : Option Nat) (x1 : Int32) (x2 : Int32) (S : cS), OL_X11_putInt_3 N n x0 x1 x2 S → X (L_X11_putInt_3 N n x0 x1 x2 S) → cX G o dX11_putInt mX11_putInt 3 [some (va_rf x0), some (.int x1), some (.int x2)] [] S Q := by
  intro n
  induction n with
  | zero => intro x0 x1 x2 S ok; exact absurd ok id
  | succ n ih =>
    intro x0 x1 x2 S ok hx
    exact bb_X11_putInt_3 hG hX0 (rec := L_X11_putInt_3 N n) (rok := OL_X11_putInt_3 N n) (fun x0 x1 x2 S ok hx => ih x0 x1 x2 S ok hx) ok hx
def A_X11_putInt_3 (N : Nat) (x0 : Option Nat) (x1 : Int32) (x2 : Int32) (S : cS) (z : Nat × cS) : cS := (F_X11_putInt_46 N z.2)
def OA_X11_putInt_3 (N : Nat) (x0 : Option Nat) (x1 : Int32) (x2 : Int32) (S : cS) (z : Nat × cS) : Prop := O_X11_putInt_46 N z.2
set_option maxRecDepth 100000 in
set_option maxHeartbeats 4000000 in
theorem c_X11_putInt_3 {G : zG} {o : cO} {S : cS} {N : Nat} {Q : Option Value → cS → Prop} {X : cS → Prop} (hG : zOK G) (hR : ∀ S', X S' → Q none S') {x0 : Option Nat} {x1 : Int32} {x2 : Int32} (ok : OL_X11_putInt_3 N N x0 x1 x2 S ∧ OA_X11_putInt_3 N x0 x1 x2 S (L_X11_putInt_3 N N x0 x1 x2 S)) (hx : X (A_X11_putInt_3 N x0 x1 x2 S (L_X11_putInt_3 N N x0 x1 x2 S))) : cX G o dX11_putInt mX11_putInt 3 [some (va_rf x0), some (.int x1), some (.int x2)] [] S Q := by
  refine l_X11_putInt_3 hG ?_ N x0 x1 x2 S ok.1 (X := fun z => OA_X11_putInt_3 N x0 x1 x2 S z ∧ X (A_X11_putInt_3 N x0 x1 x2 S z)) ⟨ok.2, hx⟩
  · intro S' hz
    obtain ⟨ok, hx⟩ := hz
    unfold OA_X11_putInt_3 at ok
    unfold A_X11_putInt_3 at hx
    exact cX.cutz (b_X11_putInt_46 hG hR ok hx) trivial
def F_X11_putInt_0 (N : Nat) (x0 : Option Nat) (x1 : Int32) (S : cS) : cS := (A_X11_putInt_3 N x0 x1 (nI 24) S (L_X11_putInt_3 N N x0 x1 (nI 24) S))
def O_X11_putInt_0 (N : Nat) (x0 : Option Nat) (x1 : Int32) (S : cS) : Prop := (OL_X11_putInt_3 N N x0 x1 (nI 24) S ∧ OA_X11_putInt_3 N x0 x1 (nI 24) S (L_X11_putInt_3 N N x0 x1 (nI 24) S))
set_option maxRecDepth 100000 in
set_option maxHeartbeats 4000000 in
theorem b_X11_putInt_0 {G : zG} {o : cO} {S : cS} {N : Nat} {Q : Option Value → cS → Prop} {X : cS → Prop} (hG : zOK G) (hR : ∀ S', X S' → Q none S') {x0 : Option Nat} {x1 : Int32} (ok : O_X11_putInt_0 N x0 x1 S) (hx : X (F_X11_putInt_0 N x0 x1 S)) : cX G o dX11_putInt mX11_putInt 0 [some (va_rf x0), some (.int x1), none] [] S Q := by
  unfold O_X11_putInt_0 at ok
  unfold F_X11_putInt_0 at hx
  refine c_bipush (v := nI 24) dX11_putInt_0 (by decide) ?_
  refine c_istore_2 dX11_putInt_2 (by decide) rfl ?_
  exact cX.cutz (c_X11_putInt_3 hG hR ok hx) ⟨rfl, rfl, rfl, trivial⟩
def f_X11_putInt (N : Nat) (S : cS) (a0 : Nat) (x1 : Int32) : cS := F_X11_putInt_0 N (some a0) x1 S
def o_X11_putInt (N : Nat) (S : cS) (a0 : Nat) (x1 : Int32) : Prop := O_X11_putInt_0 N (some a0) x1 S
set_option maxRecDepth 100000 in
set_option maxHeartbeats 4000000 in
theorem cc_X11_putInt {G : zG} {o : cO} {S : cS} {N : Nat} (hG : zOK G) {a0 : Nat} {x1 : Int32} (ok : o_X11_putInt N S a0 x1) : cCv G o dX11_putInt mX11_putInt [.ref a0, .int x1] S (fun S' => S' = f_X11_putInt N S a0 x1) := by
  refine cC.ofX rfl (by exact Nat.le_of_ble_eq_true rfl) ?_
  show cX G o dX11_putInt mX11_putInt 0 [some (.ref a0), some (.int x1), none] [] S _
  exact cX.cutz (b_X11_putInt_0 (X := fun F => F = f_X11_putInt N S a0 x1) hG (fun S' h => ⟨rfl, h⟩) ok rfl) ⟨rfl, rfl, trivial⟩
/-! X11_feed -/
def F_X11_feed_42 (N : Nat)  (S : cS) : Int32 × cS := ((nI 1), S)
def O_X11_feed_42 (N : Nat)  (S : cS) : Prop := True
set_option maxRecDepth 100000 in
set_option maxHeartbeats 4000000 in
theorem b_X11_feed_42 {G : zG} {o : cO} {S : cS} {N : Nat} {Q : Option Value → cS → Prop} {X : Int32 × cS → Prop} (hG : zOK G) (hR : ∀ v S', X (v, S') → Q (some (.int v)) S') (ok : O_X11_feed_42 N S) (hx : X (F_X11_feed_42 N S)) : cX G o dX11_feed mX11_feed 42 [none, none, none, none, none, none] [] S Q := by
  unfold O_X11_feed_42 at ok
  unfold F_X11_feed_42 at hx
  refine c_iconst (v := nI 1) dX11_feed_42 (by decide) ?_
  exact c_ireturn rfl rfl dX11_feed_43 (hR _ _ hx)
def F_X11_feed_36 (N : Nat) (x0 : Option Nat) (x5 : Int32) (S : cS) : Int32 × cS := (F_X11_feed_42 N (f_X11_putInt N S (za x0) x5))
def O_X11_feed_36 (N : Nat) (x0 : Option Nat) (x5 : Int32) (S : cS) : Prop := (cis S x0 10 ∧ o_X11_putInt N S (za x0) x5) ∧ O_X11_feed_42 N (f_X11_putInt N S (za x0) x5)
set_option maxRecDepth 100000 in
set_option maxHeartbeats 4000000 in
theorem b_X11_feed_36 {G : zG} {o : cO} {S : cS} {N : Nat} {Q : Option Value → cS → Prop} {X : Int32 × cS → Prop} (hG : zOK G) (hR : ∀ v S', X (v, S') → Q (some (.int v)) S') {x0 : Option Nat} {x5 : Int32} (ok : O_X11_feed_36 N x0 x5 S) (hx : X (F_X11_feed_36 N x0 x5 S)) : cX G o dX11_feed mX11_feed 36 [some (va_rf x0), none, none, none, none, some (.int x5)] [] S Q := by
  unfold O_X11_feed_36 at ok
  unfold F_X11_feed_36 at hx
  refine c_aload_nQ dX11_feed_36 rfl rfl ?_
  refine c_iload dX11_feed_37 rfl ?_
  refine c_V1vE (ci := 9) (rr := (RX11, TX11, 4)) (y' := mX11_putInt) dX11_feed_39 lX11_30 kX11_putInt ⟨by decide, by decide⟩ rfl rfl (by decide) ok.1.1 (Nat.le_of_ble_eq_true rfl) (cc_X11_putInt hG ok.1.2) ?_
  have ok := ok.2
  exact cX.cutz (b_X11_feed_42 hG hR ok hx) trivial
def F_X11_feed_30 (N : Nat) (x0 : Option Nat) (x4 : Int32) (x5 : Int32) (S : cS) : Int32 × cS := (F_X11_feed_36 N x0 x5 (f_X11_putInt N S (za x0) x4))
def O_X11_feed_30 (N : Nat) (x0 : Option Nat) (x4 : Int32) (x5 : Int32) (S : cS) : Prop := (cis S x0 10 ∧ o_X11_putInt N S (za x0) x4) ∧ O_X11_feed_36 N x0 x5 (f_X11_putInt N S (za x0) x4)
set_option maxRecDepth 100000 in
set_option maxHeartbeats 4000000 in
theorem b_X11_feed_30 {G : zG} {o : cO} {S : cS} {N : Nat} {Q : Option Value → cS → Prop} {X : Int32 × cS → Prop} (hG : zOK G) (hR : ∀ v S', X (v, S') → Q (some (.int v)) S') {x0 : Option Nat} {x4 : Int32} {x5 : Int32} (ok : O_X11_feed_30 N x0 x4 x5 S) (hx : X (F_X11_feed_30 N x0 x4 x5 S)) : cX G o dX11_feed mX11_feed 30 [some (va_rf x0), none, none, none, some (.int x4), some (.int x5)] [] S Q := by
  unfold O_X11_feed_30 at ok
  unfold F_X11_feed_30 at hx
  refine c_aload_nQ dX11_feed_30 rfl rfl ?_
  refine c_iload dX11_feed_31 rfl ?_
  refine c_V1vE (ci := 9) (rr := (RX11, TX11, 4)) (y' := mX11_putInt) dX11_feed_33 lX11_30 kX11_putInt ⟨by decide, by decide⟩ rfl rfl (by decide) ok.1.1 (Nat.le_of_ble_eq_true rfl) (cc_X11_putInt hG ok.1.2) ?_
  have ok := ok.2
  exact cX.cutz (b_X11_feed_36 hG hR ok hx) ⟨rfl, rfl, trivial⟩
def F_X11_feed_25 (N : Nat) (x0 : Option Nat) (x3 : Int32) (x4 : Int32) (x5 : Int32) (S : cS) : Int32 × cS := (F_X11_feed_30 N x0 x4 x5 (f_X11_putInt N S (za x0) x3))
def O_X11_feed_25 (N : Nat) (x0 : Option Nat) (x3 : Int32) (x4 : Int32) (x5 : Int32) (S : cS) : Prop := (cis S x0 10 ∧ o_X11_putInt N S (za x0) x3) ∧ O_X11_feed_30 N x0 x4 x5 (f_X11_putInt N S (za x0) x3)
set_option maxRecDepth 100000 in
set_option maxHeartbeats 4000000 in
theorem b_X11_feed_25 {G : zG} {o : cO} {S : cS} {N : Nat} {Q : Option Value → cS → Prop} {X : Int32 × cS → Prop} (hG : zOK G) (hR : ∀ v S', X (v, S') → Q (some (.int v)) S') {x0 : Option Nat} {x3 : Int32} {x4 : Int32} {x5 : Int32} (ok : O_X11_feed_25 N x0 x3 x4 x5 S) (hx : X (F_X11_feed_25 N x0 x3 x4 x5 S)) : cX G o dX11_feed mX11_feed 25 [some (va_rf x0), none, none, some (.int x3), some (.int x4), some (.int x5)] [] S Q := by
  unfold O_X11_feed_25 at ok
  unfold F_X11_feed_25 at hx
  refine c_aload_nQ dX11_feed_25 rfl rfl ?_
  refine c_iload_n dX11_feed_26 rfl rfl ?_
  refine c_V1vE (ci := 9) (rr := (RX11, TX11, 4)) (y' := mX11_putInt) dX11_feed_27 lX11_30 kX11_putInt ⟨by decide, by decide⟩ rfl rfl (by decide) ok.1.1 (Nat.le_of_ble_eq_true rfl) (cc_X11_putInt hG ok.1.2) ?_
  have ok := ok.2
  exact cX.cutz (b_X11_feed_30 hG hR ok hx) ⟨rfl, rfl, rfl, trivial⟩
def F_X11_feed_20 (N : Nat) (x0 : Option Nat) (x2 : Int32) (x3 : Int32) (x4 : Int32) (x5 : Int32) (S : cS) : Int32 × cS := (F_X11_feed_25 N x0 x3 x4 x5 (f_X11_putInt N S (za x0) x2))
def O_X11_feed_20 (N : Nat) (x0 : Option Nat) (x2 : Int32) (x3 : Int32) (x4 : Int32) (x5 : Int32) (S : cS) : Prop := (cis S x0 10 ∧ o_X11_putInt N S (za x0) x2) ∧ O_X11_feed_25 N x0 x3 x4 x5 (f_X11_putInt N S (za x0) x2)
set_option maxRecDepth 100000 in
set_option maxHeartbeats 4000000 in
theorem b_X11_feed_20 {G : zG} {o : cO} {S : cS} {N : Nat} {Q : Option Value → cS → Prop} {X : Int32 × cS → Prop} (hG : zOK G) (hR : ∀ v S', X (v, S') → Q (some (.int v)) S') {x0 : Option Nat} {x2 : Int32} {x3 : Int32} {x4 : Int32} {x5 : Int32} (ok : O_X11_feed_20 N x0 x2 x3 x4 x5 S) (hx : X (F_X11_feed_20 N x0 x2 x3 x4 x5 S)) : cX G o dX11_feed mX11_feed 20 [some (va_rf x0), none, some (.int x2), some (.int x3), some (.int x4), some (.int x5)] [] S Q := by
  unfold O_X11_feed_20 at ok
  unfold F_X11_feed_20 at hx
  refine c_aload_nQ dX11_feed_20 rfl rfl ?_
  refine c_iload_n dX11_feed_21 rfl rfl ?_
  refine c_V1vE (ci := 9) (rr := (RX11, TX11, 4)) (y' := mX11_putInt) dX11_feed_22 lX11_30 kX11_putInt ⟨by decide, by decide⟩ rfl rfl (by decide) ok.1.1 (Nat.le_of_ble_eq_true rfl) (cc_X11_putInt hG ok.1.2) ?_
  have ok := ok.2
  exact cX.cutz (b_X11_feed_25 hG hR ok hx) ⟨rfl, rfl, rfl, rfl, trivial⟩
def F_X11_feed_0 (N : Nat) (x0 : Option Nat) (x1 : Int32) (x2 : Int32) (x3 : Int32) (x4 : Int32) (x5 : Int32) (S : cS) : Int32 × cS := (if ((cI S 3 (za x0)) + (nI 20)) ≤ (nI 1000) then (F_X11_feed_20 N x0 x2 x3 x4 x5 (f_X11_putInt N S (za x0) x1)) else ((nI 0), S))
def O_X11_feed_0 (N : Nat) (x0 : Option Nat) (x1 : Int32) (x2 : Int32) (x3 : Int32) (x4 : Int32) (x5 : Int32) (S : cS) : Prop := (cis S x0 10) ∧ ((((cI S 3 (za x0)) + (nI 20)) ≤ (nI 1000) → (cis S x0 10 ∧ o_X11_putInt N S (za x0) x1) ∧ O_X11_feed_20 N x0 x2 x3 x4 x5 (f_X11_putInt N S (za x0) x1)) ∧ (¬ ((cI S 3 (za x0)) + (nI 20)) ≤ (nI 1000) → True))
set_option maxRecDepth 100000 in
set_option maxHeartbeats 4000000 in
theorem b_X11_feed_0 {G : zG} {o : cO} {S : cS} {N : Nat} {Q : Option Value → cS → Prop} {X : Int32 × cS → Prop} (hG : zOK G) (hR : ∀ v S', X (v, S') → Q (some (.int v)) S') {x0 : Option Nat} {x1 : Int32} {x2 : Int32} {x3 : Int32} {x4 : Int32} {x5 : Int32} (ok : O_X11_feed_0 N x0 x1 x2 x3 x4 x5 S) (hx : X (F_X11_feed_0 N x0 x1 x2 x3 x4 x5 S)) : cX G o dX11_feed mX11_feed 0 [some (va_rf x0), some (.int x1), some (.int x2), some (.int x3), some (.int x4), some (.int x5)] [] S Q := by
  unfold O_X11_feed_0 at ok
  unfold F_X11_feed_0 at hx
  refine c_aload_nQ dX11_feed_0 rfl rfl ?_
  refine c_getI (C := RX11) (T := TX11) (N := 4) (ci := 9) (k := 3) ⟨rfl, inT11, by decide, fX11_26⟩ (by decide) (by decide) (by decide) dX11_feed_1 ok.1 ?_
  have ok := ok.2
  refine c_bipush (v := nI 20) dX11_feed_4 (by decide) ?_
  refine c_iadd dX11_feed_6 ?_
  refine c_sipush (v := nI 1000) dX11_feed_7 (by decide) ?_
  refine c_icmp_le (tgt := 15) dX11_feed_10 (by decide) (fun c_10 => ?_) (fun c_10 => ?_)
  · have ok := ok.1 c_10
    have hx := xif_p c_10 hx
    refine c_aload_nQ dX11_feed_15 rfl rfl ?_
    refine c_iload_n dX11_feed_16 rfl rfl ?_
    refine c_V1vE (ci := 9) (rr := (RX11, TX11, 4)) (y' := mX11_putInt) dX11_feed_17 lX11_30 kX11_putInt ⟨by decide, by decide⟩ rfl rfl (by decide) ok.1.1 (Nat.le_of_ble_eq_true rfl) (cc_X11_putInt hG ok.1.2) ?_
    have ok := ok.2
    exact cX.cutz (b_X11_feed_20 hG hR ok hx) ⟨rfl, rfl, rfl, rfl, rfl, trivial⟩
  · have ok := ok.2 c_10
    have hx := xif_n c_10 hx
    refine c_iconst (v := nI 0) dX11_feed_13 (by decide) ?_
    exact c_ireturn rfl rfl dX11_feed_14 (hR _ _ hx)
def f_X11_feed (N : Nat) (S : cS) (a0 : Nat) (x1 : Int32) (x2 : Int32) (x3 : Int32) (x4 : Int32) (x5 : Int32) : Int32 × cS := F_X11_feed_0 N (some a0) x1 x2 x3 x4 x5 S
def o_X11_feed (N : Nat) (S : cS) (a0 : Nat) (x1 : Int32) (x2 : Int32) (x3 : Int32) (x4 : Int32) (x5 : Int32) : Prop := O_X11_feed_0 N (some a0) x1 x2 x3 x4 x5 S
set_option maxRecDepth 100000 in
set_option maxHeartbeats 4000000 in
theorem cc_X11_feed {G : zG} {o : cO} {S : cS} {N : Nat} (hG : zOK G) {a0 : Nat} {x1 : Int32} {x2 : Int32} {x3 : Int32} {x4 : Int32} {x5 : Int32} (ok : o_X11_feed N S a0 x1 x2 x3 x4 x5) : cCi G o dX11_feed mX11_feed [.ref a0, .int x1, .int x2, .int x3, .int x4, .int x5] S (fun v S' => v = (f_X11_feed N S a0 x1 x2 x3 x4 x5).1 ∧ S' = (f_X11_feed N S a0 x1 x2 x3 x4 x5).2) := by
  refine cC.ofX rfl (by exact Nat.le_of_ble_eq_true rfl) ?_
  show cX G o dX11_feed mX11_feed 0 [some (.ref a0), some (.int x1), some (.int x2), some (.int x3), some (.int x4), some (.int x5)] [] S _
  exact cX.cutz (b_X11_feed_0 (X := fun F => F = f_X11_feed N S a0 x1 x2 x3 x4 x5) hG (fun v S' h => ⟨v, rfl, by rw [← h], by rw [← h]⟩) ok rfl) ⟨rfl, rfl, rfl, rfl, rfl, rfl, trivial⟩
/-! X11_mayLie -/
def F_X11_mayLie_60 (N : Nat) (s0 : Int32) (S : cS) : Int32 := s0
def O_X11_mayLie_60 (N : Nat) (s0 : Int32) (S : cS) : Prop := narrow .boolean (.int s0) = .int s0
set_option maxRecDepth 100000 in
set_option maxHeartbeats 4000000 in
theorem b_X11_mayLie_60 {G : zG} {o : cO} {S : cS} {N : Nat} {Q : Option Value → cS → Prop} {X : Int32 → Prop} (hG : zOK G) (hR : ∀ v, X v → Q (some (.int v)) S) {s0 : Int32} (ok : O_X11_mayLie_60 N s0 S) (hx : X (F_X11_mayLie_60 N s0 S)) : cX G o dX11_mayLie mX11_mayLie 60 [none, none, none] [.int s0] S Q := by
  unfold O_X11_mayLie_60 at ok
  unfold F_X11_mayLie_60 at hx
  exact c_ireturn rfl ok dX11_mayLie_60 (hR _ hx)
def F_X11_mayLie_59 (N : Nat)  (S : cS) : Int32 := (F_X11_mayLie_60 N (nI 0) S)
def O_X11_mayLie_59 (N : Nat)  (S : cS) : Prop := O_X11_mayLie_60 N (nI 0) S
set_option maxRecDepth 100000 in
set_option maxHeartbeats 4000000 in
theorem b_X11_mayLie_59 {G : zG} {o : cO} {S : cS} {N : Nat} {Q : Option Value → cS → Prop} {X : Int32 → Prop} (hG : zOK G) (hR : ∀ v, X v → Q (some (.int v)) S) (ok : O_X11_mayLie_59 N S) (hx : X (F_X11_mayLie_59 N S)) : cX G o dX11_mayLie mX11_mayLie 59 [none, none, none] [] S Q := by
  unfold O_X11_mayLie_59 at ok
  unfold F_X11_mayLie_59 at hx
  refine c_iconst (v := nI 0) dX11_mayLie_59 (by decide) ?_
  exact cX.cutz (b_X11_mayLie_60 hG hR ok hx) trivial
def F_X11_mayLie_0 (N : Nat) (x0 : Option Nat) (x1 : Int32) (x2 : Int32) (S : cS) : Int32 := (if x1 < (cI S 2 (za (cR S 0 (za x0)))) then (F_X11_mayLie_59 N S) else (if (cI S 1 (za (cR S 0 (za x0)))) ≤ x1 then (F_X11_mayLie_59 N S) else (if x2 < 0 then (F_X11_mayLie_59 N S) else (if (cI S 1 (za (cR S 0 (za x0)))) ≤ x2 then (F_X11_mayLie_59 N S) else (if x1 = x2 then (F_X11_mayLie_59 N S) else (if (f_X9_hasRoom N S (za (cR S 6 (za (cR S 0 (za x0)))))) = 0 then (F_X11_mayLie_59 N S) else (F_X11_mayLie_60 N (nI 1) S)))))))
def O_X11_mayLie_0 (N : Nat) (x0 : Option Nat) (x1 : Int32) (x2 : Int32) (S : cS) : Prop := (cis S x0 10) ∧ (cis S (cR S 0 (za x0)) 9) ∧ ((x1 < (cI S 2 (za (cR S 0 (za x0)))) → O_X11_mayLie_59 N S) ∧ (¬ x1 < (cI S 2 (za (cR S 0 (za x0)))) → (cis S x0 10) ∧ (cis S (cR S 0 (za x0)) 9) ∧ (((cI S 1 (za (cR S 0 (za x0)))) ≤ x1 → O_X11_mayLie_59 N S) ∧ (¬ (cI S 1 (za (cR S 0 (za x0)))) ≤ x1 → ((x2 < 0 → O_X11_mayLie_59 N S) ∧ (¬ x2 < 0 → (cis S x0 10) ∧ (cis S (cR S 0 (za x0)) 9) ∧ (((cI S 1 (za (cR S 0 (za x0)))) ≤ x2 → O_X11_mayLie_59 N S) ∧ (¬ (cI S 1 (za (cR S 0 (za x0)))) ≤ x2 → ((x1 = x2 → O_X11_mayLie_59 N S) ∧ (¬ x1 = x2 → (cis S x0 10) ∧ (cis S (cR S 0 (za x0)) 9) ∧ (cis S (cR S 6 (za (cR S 0 (za x0)))) 8 ∧ o_X9_hasRoom N S (za (cR S 6 (za (cR S 0 (za x0)))))) ∧ (((f_X9_hasRoom N S (za (cR S 6 (za (cR S 0 (za x0)))))) = 0 → O_X11_mayLie_59 N S) ∧ (¬ (f_X9_hasRoom N S (za (cR S 6 (za (cR S 0 (za x0)))))) = 0 → O_X11_mayLie_60 N (nI 1) S))))))))))))
set_option maxRecDepth 100000 in
set_option maxHeartbeats 4000000 in
theorem b_X11_mayLie_0 {G : zG} {o : cO} {S : cS} {N : Nat} {Q : Option Value → cS → Prop} {X : Int32 → Prop} (hG : zOK G) (hR : ∀ v, X v → Q (some (.int v)) S) {x0 : Option Nat} {x1 : Int32} {x2 : Int32} (ok : O_X11_mayLie_0 N x0 x1 x2 S) (hx : X (F_X11_mayLie_0 N x0 x1 x2 S)) : cX G o dX11_mayLie mX11_mayLie 0 [some (va_rf x0), some (.int x1), some (.int x2)] [] S Q := by
  unfold O_X11_mayLie_0 at ok
  unfold F_X11_mayLie_0 at hx
  refine c_iload_n dX11_mayLie_0 rfl rfl ?_
  refine c_aload_nQ dX11_mayLie_1 rfl rfl ?_
  refine c_getR (C := RX11) (T := TX11) (N := 4) (ci := 9) (k := 0) ⟨rfl, inT11, by decide, fX11_22⟩ (by decide) (by decide) (by decide) dX11_mayLie_2 ok.1 ?_
  have ok := ok.2
  refine c_getI (C := RX10) (T := TX10) (N := 12) (ci := 8) (k := 2) ⟨rfl, inT10, by decide, fX11_69⟩ (by decide) (by decide) (by decide) dX11_mayLie_5 ok.1 ?_
  have ok := ok.2
  refine c_icmp_lt (tgt := 59) dX11_mayLie_8 (by decide) (fun c_8 => ?_) (fun c_8 => ?_)
  · have ok := ok.1 c_8
    have hx := xif_p c_8 hx
    exact cX.cutz (b_X11_mayLie_59 hG hR ok hx) trivial
  · have ok := ok.2 c_8
    have hx := xif_n c_8 hx
    refine c_iload_n dX11_mayLie_11 rfl rfl ?_
    refine c_aload_nQ dX11_mayLie_12 rfl rfl ?_
    refine c_getR (C := RX11) (T := TX11) (N := 4) (ci := 9) (k := 0) ⟨rfl, inT11, by decide, fX11_22⟩ (by decide) (by decide) (by decide) dX11_mayLie_13 ok.1 ?_
    have ok := ok.2
    refine c_getI (C := RX10) (T := TX10) (N := 12) (ci := 8) (k := 1) ⟨rfl, inT10, by decide, fX11_87⟩ (by decide) (by decide) (by decide) dX11_mayLie_16 ok.1 ?_
    have ok := ok.2
    refine c_icmp_ge (tgt := 59) dX11_mayLie_19 (by decide) (fun c_19 => ?_) (fun c_19 => ?_)
    · have ok := ok.1 c_19
      have hx := xif_p c_19 hx
      exact cX.cutz (b_X11_mayLie_59 hG hR ok hx) trivial
    · have ok := ok.2 c_19
      have hx := xif_n c_19 hx
      refine c_iload_n dX11_mayLie_22 rfl rfl ?_
      refine c_if_lt (tgt := 59) dX11_mayLie_23 (by decide) (fun c_23 => ?_) (fun c_23 => ?_)
      · have ok := ok.1 c_23
        have hx := xif_p c_23 hx
        exact cX.cutz (b_X11_mayLie_59 hG hR ok hx) trivial
      · have ok := ok.2 c_23
        have hx := xif_n c_23 hx
        refine c_iload_n dX11_mayLie_26 rfl rfl ?_
        refine c_aload_nQ dX11_mayLie_27 rfl rfl ?_
        refine c_getR (C := RX11) (T := TX11) (N := 4) (ci := 9) (k := 0) ⟨rfl, inT11, by decide, fX11_22⟩ (by decide) (by decide) (by decide) dX11_mayLie_28 ok.1 ?_
        have ok := ok.2
        refine c_getI (C := RX10) (T := TX10) (N := 12) (ci := 8) (k := 1) ⟨rfl, inT10, by decide, fX11_87⟩ (by decide) (by decide) (by decide) dX11_mayLie_31 ok.1 ?_
        have ok := ok.2
        refine c_icmp_ge (tgt := 59) dX11_mayLie_34 (by decide) (fun c_34 => ?_) (fun c_34 => ?_)
        · have ok := ok.1 c_34
          have hx := xif_p c_34 hx
          exact cX.cutz (b_X11_mayLie_59 hG hR ok hx) trivial
        · have ok := ok.2 c_34
          have hx := xif_n c_34 hx
          refine c_iload_n dX11_mayLie_37 rfl rfl ?_
          refine c_iload_n dX11_mayLie_38 rfl rfl ?_
          refine c_icmp_eq (tgt := 59) dX11_mayLie_39 (by decide) (fun c_39 => ?_) (fun c_39 => ?_)
          · have ok := ok.1 c_39
            have hx := xif_p c_39 hx
            exact cX.cutz (b_X11_mayLie_59 hG hR ok hx) trivial
          · have ok := ok.2 c_39
            have hx := xif_n c_39 hx
            refine c_aload_nQ dX11_mayLie_42 rfl rfl ?_
            refine c_getR (C := RX11) (T := TX11) (N := 4) (ci := 9) (k := 0) ⟨rfl, inT11, by decide, fX11_22⟩ (by decide) (by decide) (by decide) dX11_mayLie_43 ok.1 ?_
            have ok := ok.2
            refine c_getR (C := RX10) (T := TX10) (N := 12) (ci := 8) (k := 6) ⟨rfl, inT10, by decide, fX11_38⟩ (by decide) (by decide) (by decide) dX11_mayLie_46 ok.1 ?_
            have ok := ok.2
            refine c_V0iE (ci := 7) (rr := (RX9, TX9, 13)) (y' := mX9_hasRoom) dX11_mayLie_49 lX11_90 kX9_hasRoom ⟨by decide, by decide⟩ rfl rfl (by decide) ok.1.1 (Nat.le_of_ble_eq_true rfl) (cc_X9_hasRoom hG ok.1.2) ?_
            have ok := ok.2
            refine c_if_eq (tgt := 59) dX11_mayLie_52 (by decide) (fun c_52 => ?_) (fun c_52 => ?_)
            · have ok := ok.1 c_52
              have hx := xif_p c_52 hx
              exact cX.cutz (b_X11_mayLie_59 hG hR ok hx) trivial
            · have ok := ok.2 c_52
              have hx := xif_n c_52 hx
              refine c_iconst (v := nI 1) dX11_mayLie_55 (by decide) ?_
              refine c_goto (tgt := 60) dX11_mayLie_56 (by decide) ?_
              exact cX.cutz (b_X11_mayLie_60 hG hR ok hx) trivial
def f_X11_mayLie (N : Nat) (S : cS) (a0 : Nat) (x1 : Int32) (x2 : Int32) : Int32 := F_X11_mayLie_0 N (some a0) x1 x2 S
def o_X11_mayLie (N : Nat) (S : cS) (a0 : Nat) (x1 : Int32) (x2 : Int32) : Prop := O_X11_mayLie_0 N (some a0) x1 x2 S
set_option maxRecDepth 100000 in
set_option maxHeartbeats 4000000 in
theorem cc_X11_mayLie {G : zG} {o : cO} {S : cS} {N : Nat} (hG : zOK G) {a0 : Nat} {x1 : Int32} {x2 : Int32} (ok : o_X11_mayLie N S a0 x1 x2) : cCi G o dX11_mayLie mX11_mayLie [.ref a0, .int x1, .int x2] S (fun v S' => v = f_X11_mayLie N S a0 x1 x2 ∧ S' = S) := by
  refine cC.ofX rfl (by exact Nat.le_of_ble_eq_true rfl) ?_
  show cX G o dX11_mayLie mX11_mayLie 0 [some (.ref a0), some (.int x1), some (.int x2)] [] S _
  exact cX.cutz (b_X11_mayLie_0 (X := fun F => F = f_X11_mayLie N S a0 x1 x2) hG (fun v h => ⟨v, rfl, h, rfl⟩) ok rfl) ⟨rfl, rfl, rfl, trivial⟩
/-! X11_lie -/
def F_X11_lie_142 (N : Nat) (s0 : Int32) (S : cS) : Int32 × cS := (s0, S)
def O_X11_lie_142 (N : Nat) (s0 : Int32) (S : cS) : Prop := narrow .boolean (.int s0) = .int s0
set_option maxRecDepth 100000 in
set_option maxHeartbeats 4000000 in
theorem b_X11_lie_142 {G : zG} {o : cO} {S : cS} {N : Nat} {Q : Option Value → cS → Prop} {X : Int32 × cS → Prop} (hG : zOK G) (hR : ∀ v S', X (v, S') → Q (some (.int v)) S') {s0 : Int32} (ok : O_X11_lie_142 N s0 S) (hx : X (F_X11_lie_142 N s0 S)) : cX G o dX11_lie mX11_lie 142 [none, none, none, none, none, none] [.int s0] S Q := by
  unfold O_X11_lie_142 at ok
  unfold F_X11_lie_142 at hx
  exact c_ireturn rfl ok dX11_lie_142 (hR _ _ hx)
def F_X11_lie_132 (N : Nat) (x5 : Int32) (S : cS) : Int32 × cS := (if x5 = 0 then (F_X11_lie_142 N (nI 1) S) else (F_X11_lie_142 N (nI 0) S))
def O_X11_lie_132 (N : Nat) (x5 : Int32) (S : cS) : Prop := ((x5 = 0 → O_X11_lie_142 N (nI 1) S) ∧ (¬ x5 = 0 → O_X11_lie_142 N (nI 0) S))
set_option maxRecDepth 100000 in
set_option maxHeartbeats 4000000 in
theorem b_X11_lie_132 {G : zG} {o : cO} {S : cS} {N : Nat} {Q : Option Value → cS → Prop} {X : Int32 × cS → Prop} (hG : zOK G) (hR : ∀ v S', X (v, S') → Q (some (.int v)) S') {x5 : Int32} (ok : O_X11_lie_132 N x5 S) (hx : X (F_X11_lie_132 N x5 S)) : cX G o dX11_lie mX11_lie 132 [none, none, none, none, none, some (.int x5)] [] S Q := by
  unfold O_X11_lie_132 at ok
  unfold F_X11_lie_132 at hx
  refine c_iload dX11_lie_132 rfl ?_
  refine c_if_ne (tgt := 141) dX11_lie_134 (by decide) (fun c_134 => ?_) (fun c_134 => ?_)
  · have ok := ok.2 c_134
    have hx := xif_n c_134 hx
    refine c_iconst (v := nI 0) dX11_lie_141 (by decide) ?_
    exact cX.cutz (b_X11_lie_142 hG hR ok hx) trivial
  · have ok := ok.1 c_134
    have hx := xif_p c_134 hx
    refine c_iconst (v := nI 1) dX11_lie_137 (by decide) ?_
    refine c_goto (tgt := 142) dX11_lie_138 (by decide) ?_
    exact cX.cutz (b_X11_lie_142 hG hR ok hx) trivial
def F_X11_lie_120 (N : Nat) (x0 : Option Nat) (x4 : Option Nat) (x5 : Int32) (S : cS) : Int32 × cS := (F_X11_lie_132 N x5 (f_X9_drop N S (za (cR S 6 (za (cR S 0 (za x0))))) x4))
def O_X11_lie_120 (N : Nat) (x0 : Option Nat) (x4 : Option Nat) (x5 : Int32) (S : cS) : Prop := (cis S x0 10) ∧ (cis S (cR S 0 (za x0)) 9) ∧ (cis S (cR S 6 (za (cR S 0 (za x0)))) 8 ∧ o_X9_drop N S (za (cR S 6 (za (cR S 0 (za x0))))) x4) ∧ O_X11_lie_132 N x5 (f_X9_drop N S (za (cR S 6 (za (cR S 0 (za x0))))) x4)
set_option maxRecDepth 100000 in
set_option maxHeartbeats 4000000 in
theorem b_X11_lie_120 {G : zG} {o : cO} {S : cS} {N : Nat} {Q : Option Value → cS → Prop} {X : Int32 × cS → Prop} (hG : zOK G) (hR : ∀ v S', X (v, S') → Q (some (.int v)) S') {x0 : Option Nat} {x4 : Option Nat} {x5 : Int32} (ok : O_X11_lie_120 N x0 x4 x5 S) (hx : X (F_X11_lie_120 N x0 x4 x5 S)) : cX G o dX11_lie mX11_lie 120 [some (va_rf x0), none, none, none, some (va_rf x4), some (.int x5)] [] S Q := by
  unfold O_X11_lie_120 at ok
  unfold F_X11_lie_120 at hx
  refine c_aload_nQ dX11_lie_120 rfl rfl ?_
  refine c_getR (C := RX11) (T := TX11) (N := 4) (ci := 9) (k := 0) ⟨rfl, inT11, by decide, fX11_22⟩ (by decide) (by decide) (by decide) dX11_lie_121 ok.1 ?_
  have ok := ok.2
  refine c_getR (C := RX10) (T := TX10) (N := 12) (ci := 8) (k := 6) ⟨rfl, inT10, by decide, fX11_38⟩ (by decide) (by decide) (by decide) dX11_lie_124 ok.1 ?_
  have ok := ok.2
  refine c_aloadQ dX11_lie_127 rfl ?_
  refine c_V1vE (ci := 7) (rr := (RX9, TX9, 13)) (y' := mX9_drop) dX11_lie_129 lX11_80 kX9_drop ⟨by decide, by decide⟩ rfl rfl (by decide) ok.1.1 (Nat.le_of_ble_eq_true rfl) (cc_X9_drop hG ok.1.2) ?_
  have ok := ok.2
  exact cX.cutz (b_X11_lie_132 hG hR ok hx) ⟨rfl, trivial⟩
def F_X11_lie_115 (N : Nat) (x0 : Option Nat) (x4 : Option Nat) (x5 : Int32) (S : cS) : Int32 × cS := (F_X11_lie_120 N x0 x4 x5 (csI S 3 (za x0) (nI 0)))
def O_X11_lie_115 (N : Nat) (x0 : Option Nat) (x4 : Option Nat) (x5 : Int32) (S : cS) : Prop := (cis S x0 10) ∧ O_X11_lie_120 N x0 x4 x5 (csI S 3 (za x0) (nI 0))
set_option maxRecDepth 100000 in
set_option maxHeartbeats 4000000 in
theorem b_X11_lie_115 {G : zG} {o : cO} {S : cS} {N : Nat} {Q : Option Value → cS → Prop} {X : Int32 × cS → Prop} (hG : zOK G) (hR : ∀ v S', X (v, S') → Q (some (.int v)) S') {x0 : Option Nat} {x4 : Option Nat} {x5 : Int32} (ok : O_X11_lie_115 N x0 x4 x5 S) (hx : X (F_X11_lie_115 N x0 x4 x5 S)) : cX G o dX11_lie mX11_lie 115 [some (va_rf x0), none, none, none, some (va_rf x4), some (.int x5)] [] S Q := by
  unfold O_X11_lie_115 at ok
  unfold F_X11_lie_115 at hx
  refine c_aload_nQ dX11_lie_115 rfl rfl ?_
  refine c_iconst (v := nI 0) dX11_lie_116 (by decide) ?_
  refine c_putI (C := RX11) (T := TX11) (N := 4) (ci := 9) (k := 3) ⟨rfl, inT11, by decide, fX11_26⟩ ftT11 rfl (by decide) (by decide) (by decide) rfl rfl dX11_lie_117 ok.1 ?_
  have ok := ok.2
  exact cX.cutz (b_X11_lie_120 hG hR ok hx) ⟨rfl, rfl, rfl, trivial⟩
def F_X11_lie_94 (N : Nat) (x0 : Option Nat) (x1 : Int32) (x2 : Int32) (x4 : Option Nat) (s0 : Int32) (S : cS) : Int32 × cS := (if s0 = 0 then (F_X11_lie_115 N x0 x4 s0 (f_X9_post N S (za (cR S 6 (za (cR S 0 (za x0))))) x1 x2 x4)) else (F_X11_lie_120 N x0 x4 s0 S))
def O_X11_lie_94 (N : Nat) (x0 : Option Nat) (x1 : Int32) (x2 : Int32) (x4 : Option Nat) (s0 : Int32) (S : cS) : Prop := ((s0 = 0 → (cis S x0 10) ∧ (cis S (cR S 0 (za x0)) 9) ∧ (cis S (cR S 6 (za (cR S 0 (za x0)))) 8 ∧ o_X9_post N S (za (cR S 6 (za (cR S 0 (za x0))))) x1 x2 x4) ∧ O_X11_lie_115 N x0 x4 s0 (f_X9_post N S (za (cR S 6 (za (cR S 0 (za x0))))) x1 x2 x4)) ∧ (¬ s0 = 0 → O_X11_lie_120 N x0 x4 s0 S))
set_option maxRecDepth 100000 in
set_option maxHeartbeats 4000000 in
theorem b_X11_lie_94 {G : zG} {o : cO} {S : cS} {N : Nat} {Q : Option Value → cS → Prop} {X : Int32 × cS → Prop} (hG : zOK G) (hR : ∀ v S', X (v, S') → Q (some (.int v)) S') {x0 : Option Nat} {x1 : Int32} {x2 : Int32} {x4 : Option Nat} {s0 : Int32} (ok : O_X11_lie_94 N x0 x1 x2 x4 s0 S) (hx : X (F_X11_lie_94 N x0 x1 x2 x4 s0 S)) : cX G o dX11_lie mX11_lie 94 [some (va_rf x0), some (.int x1), some (.int x2), none, some (va_rf x4), none] [.int s0] S Q := by
  unfold O_X11_lie_94 at ok
  unfold F_X11_lie_94 at hx
  refine c_istore_5 dX11_lie_94 (by decide) (by simp [zok, zg, zcat_rf]) ?_
  refine c_iload dX11_lie_96 rfl ?_
  refine c_if_ne (tgt := 120) dX11_lie_98 (by decide) (fun c_98 => ?_) (fun c_98 => ?_)
  · have ok := ok.2 c_98
    have hx := xif_n c_98 hx
    exact cX.cutz (b_X11_lie_120 hG hR ok hx) ⟨rfl, rfl, rfl, trivial⟩
  · have ok := ok.1 c_98
    have hx := xif_p c_98 hx
    refine c_aload_nQ dX11_lie_101 rfl rfl ?_
    refine c_getR (C := RX11) (T := TX11) (N := 4) (ci := 9) (k := 0) ⟨rfl, inT11, by decide, fX11_22⟩ (by decide) (by decide) (by decide) dX11_lie_102 ok.1 ?_
    have ok := ok.2
    refine c_getR (C := RX10) (T := TX10) (N := 12) (ci := 8) (k := 6) ⟨rfl, inT10, by decide, fX11_38⟩ (by decide) (by decide) (by decide) dX11_lie_105 ok.1 ?_
    have ok := ok.2
    refine c_iload_n dX11_lie_108 rfl rfl ?_
    refine c_iload_n dX11_lie_109 rfl rfl ?_
    refine c_aloadQ dX11_lie_110 rfl ?_
    refine c_V3vE (ci := 7) (rr := (RX9, TX9, 13)) (y' := mX9_post) dX11_lie_112 lX11_76 kX9_post ⟨by decide, by decide⟩ rfl rfl (by decide) ok.1.1 (Nat.le_of_ble_eq_true rfl) (cc_X9_post hG ok.1.2) ?_
    have ok := ok.2
    exact cX.cutz (b_X11_lie_115 hG hR ok hx) ⟨rfl, rfl, rfl, trivial⟩
def F_X11_lie_93 (N : Nat) (x0 : Option Nat) (x1 : Int32) (x2 : Int32) (x4 : Option Nat) (S : cS) : Int32 × cS := (F_X11_lie_94 N x0 x1 x2 x4 (nI 0) S)
def O_X11_lie_93 (N : Nat) (x0 : Option Nat) (x1 : Int32) (x2 : Int32) (x4 : Option Nat) (S : cS) : Prop := O_X11_lie_94 N x0 x1 x2 x4 (nI 0) S
set_option maxRecDepth 100000 in
set_option maxHeartbeats 4000000 in
theorem b_X11_lie_93 {G : zG} {o : cO} {S : cS} {N : Nat} {Q : Option Value → cS → Prop} {X : Int32 × cS → Prop} (hG : zOK G) (hR : ∀ v S', X (v, S') → Q (some (.int v)) S') {x0 : Option Nat} {x1 : Int32} {x2 : Int32} {x4 : Option Nat} (ok : O_X11_lie_93 N x0 x1 x2 x4 S) (hx : X (F_X11_lie_93 N x0 x1 x2 x4 S)) : cX G o dX11_lie mX11_lie 93 [some (va_rf x0), some (.int x1), some (.int x2), none, some (va_rf x4), none] [] S Q := by
  unfold O_X11_lie_93 at ok
  unfold F_X11_lie_93 at hx
  refine c_iconst (v := nI 0) dX11_lie_93 (by decide) ?_
  exact cX.cutz (b_X11_lie_94 hG hR ok hx) ⟨rfl, rfl, rfl, rfl, trivial⟩
def F_X11_lie_64 (N : Nat) (x0 : Option Nat) (x1 : Int32) (x2 : Int32) (x4 : Option Nat) (s0 : Int32) (S : cS) : Int32 × cS := (if s0 = 0 then (F_X11_lie_93 N x0 x1 x2 x4 S) else (if (f_X1_tellsBelow N S (za (cR S 7 (za (cR S 0 (za x0))))) x4 (cI S 2 (za (cR S 0 (za x0))))) = 0 then (F_X11_lie_93 N x0 x1 x2 x4 S) else (F_X11_lie_94 N x0 x1 x2 x4 (nI 1) S)))
def O_X11_lie_64 (N : Nat) (x0 : Option Nat) (x1 : Int32) (x2 : Int32) (x4 : Option Nat) (s0 : Int32) (S : cS) : Prop := ((s0 = 0 → O_X11_lie_93 N x0 x1 x2 x4 S) ∧ (¬ s0 = 0 → (cis S x0 10) ∧ (cis S (cR S 0 (za x0)) 9) ∧ (cis S x0 10) ∧ (cis S (cR S 0 (za x0)) 9) ∧ (cis S (cR S 7 (za (cR S 0 (za x0)))) 2 ∧ o_X1_tellsBelow N S (za (cR S 7 (za (cR S 0 (za x0))))) x4 (cI S 2 (za (cR S 0 (za x0))))) ∧ (((f_X1_tellsBelow N S (za (cR S 7 (za (cR S 0 (za x0))))) x4 (cI S 2 (za (cR S 0 (za x0))))) = 0 → O_X11_lie_93 N x0 x1 x2 x4 S) ∧ (¬ (f_X1_tellsBelow N S (za (cR S 7 (za (cR S 0 (za x0))))) x4 (cI S 2 (za (cR S 0 (za x0))))) = 0 → O_X11_lie_94 N x0 x1 x2 x4 (nI 1) S))))
set_option maxRecDepth 100000 in
set_option maxHeartbeats 4000000 in
theorem b_X11_lie_64 {G : zG} {o : cO} {S : cS} {N : Nat} {Q : Option Value → cS → Prop} {X : Int32 × cS → Prop} (hG : zOK G) (hR : ∀ v S', X (v, S') → Q (some (.int v)) S') {x0 : Option Nat} {x1 : Int32} {x2 : Int32} {x4 : Option Nat} {s0 : Int32} (ok : O_X11_lie_64 N x0 x1 x2 x4 s0 S) (hx : X (F_X11_lie_64 N x0 x1 x2 x4 s0 S)) : cX G o dX11_lie mX11_lie 64 [some (va_rf x0), some (.int x1), some (.int x2), none, some (va_rf x4), none] [.int s0] S Q := by
  unfold O_X11_lie_64 at ok
  unfold F_X11_lie_64 at hx
  refine c_if_eq (tgt := 93) dX11_lie_64 (by decide) (fun c_64 => ?_) (fun c_64 => ?_)
  · have ok := ok.1 c_64
    have hx := xif_p c_64 hx
    exact cX.cutz (b_X11_lie_93 hG hR ok hx) ⟨rfl, rfl, rfl, rfl, trivial⟩
  · have ok := ok.2 c_64
    have hx := xif_n c_64 hx
    refine c_aload_nQ dX11_lie_67 rfl rfl ?_
    refine c_getR (C := RX11) (T := TX11) (N := 4) (ci := 9) (k := 0) ⟨rfl, inT11, by decide, fX11_22⟩ (by decide) (by decide) (by decide) dX11_lie_68 ok.1 ?_
    have ok := ok.2
    refine c_getR (C := RX10) (T := TX10) (N := 12) (ci := 8) (k := 7) ⟨rfl, inT10, by decide, fX11_59⟩ (by decide) (by decide) (by decide) dX11_lie_71 ok.1 ?_
    have ok := ok.2
    refine c_aloadQ dX11_lie_74 rfl ?_
    refine c_aload_nQ dX11_lie_76 rfl rfl ?_
    refine c_getR (C := RX11) (T := TX11) (N := 4) (ci := 9) (k := 0) ⟨rfl, inT11, by decide, fX11_22⟩ (by decide) (by decide) (by decide) dX11_lie_77 ok.1 ?_
    have ok := ok.2
    refine c_getI (C := RX10) (T := TX10) (N := 12) (ci := 8) (k := 2) ⟨rfl, inT10, by decide, fX11_69⟩ (by decide) (by decide) (by decide) dX11_lie_80 ok.1 ?_
    have ok := ok.2
    refine c_V2iE (ci := 1) (rr := (RX1, TX1, 3)) (y' := mX1_tellsBelow) dX11_lie_83 lX11_72 kX1_tellsBelow ⟨by decide, by decide⟩ rfl rfl (by decide) ok.1.1 (Nat.le_of_ble_eq_true rfl) (cc_X1_tellsBelow hG ok.1.2) ?_
    have ok := ok.2
    refine c_if_eq (tgt := 93) dX11_lie_86 (by decide) (fun c_86 => ?_) (fun c_86 => ?_)
    · have ok := ok.1 c_86
      have hx := xif_p c_86 hx
      exact cX.cutz (b_X11_lie_93 hG hR ok hx) ⟨rfl, rfl, rfl, rfl, trivial⟩
    · have ok := ok.2 c_86
      have hx := xif_n c_86 hx
      refine c_iconst (v := nI 1) dX11_lie_89 (by decide) ?_
      refine c_goto (tgt := 94) dX11_lie_90 (by decide) ?_
      exact cX.cutz (b_X11_lie_94 hG hR ok hx) ⟨rfl, rfl, rfl, rfl, trivial⟩
def F_X11_lie_52 (N : Nat) (x0 : Option Nat) (x1 : Int32) (x2 : Int32) (x4 : Option Nat) (S : cS) : Int32 × cS := (F_X11_lie_64 N x0 x1 x2 x4 ((f_X1_look N S (za (cR S 7 (za (cR S 0 (za x0))))) x4).1) (f_X1_look N S (za (cR S 7 (za (cR S 0 (za x0))))) x4).2)
def O_X11_lie_52 (N : Nat) (x0 : Option Nat) (x1 : Int32) (x2 : Int32) (x4 : Option Nat) (S : cS) : Prop := (cis S x0 10) ∧ (cis S (cR S 0 (za x0)) 9) ∧ (cis S (cR S 7 (za (cR S 0 (za x0)))) 2 ∧ o_X1_look N S (za (cR S 7 (za (cR S 0 (za x0))))) x4) ∧ O_X11_lie_64 N x0 x1 x2 x4 ((f_X1_look N S (za (cR S 7 (za (cR S 0 (za x0))))) x4).1) (f_X1_look N S (za (cR S 7 (za (cR S 0 (za x0))))) x4).2
set_option maxRecDepth 100000 in
set_option maxHeartbeats 4000000 in
theorem b_X11_lie_52 {G : zG} {o : cO} {S : cS} {N : Nat} {Q : Option Value → cS → Prop} {X : Int32 × cS → Prop} (hG : zOK G) (hR : ∀ v S', X (v, S') → Q (some (.int v)) S') {x0 : Option Nat} {x1 : Int32} {x2 : Int32} {x4 : Option Nat} (ok : O_X11_lie_52 N x0 x1 x2 x4 S) (hx : X (F_X11_lie_52 N x0 x1 x2 x4 S)) : cX G o dX11_lie mX11_lie 52 [some (va_rf x0), some (.int x1), some (.int x2), none, some (va_rf x4), none] [] S Q := by
  unfold O_X11_lie_52 at ok
  unfold F_X11_lie_52 at hx
  refine c_aload_nQ dX11_lie_52 rfl rfl ?_
  refine c_getR (C := RX11) (T := TX11) (N := 4) (ci := 9) (k := 0) ⟨rfl, inT11, by decide, fX11_22⟩ (by decide) (by decide) (by decide) dX11_lie_53 ok.1 ?_
  have ok := ok.2
  refine c_getR (C := RX10) (T := TX10) (N := 12) (ci := 8) (k := 7) ⟨rfl, inT10, by decide, fX11_59⟩ (by decide) (by decide) (by decide) dX11_lie_56 ok.1 ?_
  have ok := ok.2
  refine c_aloadQ dX11_lie_59 rfl ?_
  refine c_V1iE (ci := 1) (rr := (RX1, TX1, 3)) (y' := mX1_look) dX11_lie_61 lX11_63 kX1_look ⟨by decide, by decide⟩ rfl rfl (by decide) ok.1.1 (Nat.le_of_ble_eq_true rfl) (cc_X1_look hG ok.1.2) ?_
  have ok := ok.2
  exact cX.cutz (b_X11_lie_64 hG hR ok hx) ⟨rfl, rfl, rfl, rfl, trivial⟩
def F_X11_lie_35 (N : Nat) (x0 : Option Nat) (x1 : Int32) (x2 : Int32) (x3 : Int32) (s0 : Option Nat) (S : cS) : Int32 × cS := (F_X11_lie_52 N x0 x1 x2 s0 (csArow S (za (cR S 0 (za s0))) (va_cpy (cA S (za (cR S 1 (za x0)))) (cA S (za (cR S 0 (za s0)))) (nI 0).toNatClampNeg (nI 0).toNatClampNeg x3.toNatClampNeg)))
def O_X11_lie_35 (N : Nat) (x0 : Option Nat) (x1 : Int32) (x2 : Int32) (x3 : Int32) (s0 : Option Nat) (S : cS) : Prop := (cis S x0 10) ∧ (cis S s0 5) ∧ (cis S (cR S 1 (za x0)) 20 ∧ cis S (cR S 0 (za s0)) 20 ∧ (¬ (nI 0) < 0 ∧ ¬ (nI 0) < 0 ∧ ¬ x3 < 0) ∧ (nI 0).toNatClampNeg + x3.toNatClampNeg ≤ cL S (za (cR S 1 (za x0))) ∧ (nI 0).toNatClampNeg + x3.toNatClampNeg ≤ cL S (za (cR S 0 (za s0)))) ∧ O_X11_lie_52 N x0 x1 x2 s0 (csArow S (za (cR S 0 (za s0))) (va_cpy (cA S (za (cR S 1 (za x0)))) (cA S (za (cR S 0 (za s0)))) (nI 0).toNatClampNeg (nI 0).toNatClampNeg x3.toNatClampNeg))
set_option maxRecDepth 100000 in
set_option maxHeartbeats 4000000 in
theorem b_X11_lie_35 {G : zG} {o : cO} {S : cS} {N : Nat} {Q : Option Value → cS → Prop} {X : Int32 × cS → Prop} (hG : zOK G) (hR : ∀ v S', X (v, S') → Q (some (.int v)) S') {x0 : Option Nat} {x1 : Int32} {x2 : Int32} {x3 : Int32} {s0 : Option Nat} (ok : O_X11_lie_35 N x0 x1 x2 x3 s0 S) (hx : X (F_X11_lie_35 N x0 x1 x2 x3 s0 S)) : cX G o dX11_lie mX11_lie 35 [some (va_rf x0), some (.int x1), some (.int x2), some (.int x3), none, none] [va_rf s0] S Q := by
  unfold O_X11_lie_35 at ok
  unfold F_X11_lie_35 at hx
  refine c_astore_4Q dX11_lie_35 (by decide) rfl ?_
  refine c_aload_nQ dX11_lie_37 rfl rfl ?_
  refine c_getR (C := RX11) (T := TX11) (N := 4) (ci := 9) (k := 1) ⟨rfl, inT11, by decide, fX11_9⟩ (by decide) (by decide) (by decide) dX11_lie_38 ok.1 ?_
  have ok := ok.2
  refine c_iconst (v := nI 0) dX11_lie_41 (by decide) ?_
  refine c_aloadQ dX11_lie_42 rfl ?_
  refine c_getR (C := RX5) (T := TX5) (N := 7) (ci := 4) (k := 0) ⟨rfl, inT5, by decide, fX11_48⟩ (by decide) (by decide) (by decide) dX11_lie_44 ok.1 ?_
  have ok := ok.2
  refine c_iconst (v := nI 0) dX11_lie_47 (by decide) ?_
  refine c_iload_n dX11_lie_48 rfl rfl ?_
  refine c_copy0 hG dX11_lie_49 qX11_53 (by decide) (by decide) ok.1 ?_
  have ok := ok.2
  exact cX.cutz (b_X11_lie_52 hG hR ok hx) ⟨rfl, rfl, rfl, rfl, trivial⟩
def F_X11_lie_22 (N : Nat)  (S : cS) : Int32 × cS := ((nI 0), S)
def O_X11_lie_22 (N : Nat)  (S : cS) : Prop := True
set_option maxRecDepth 100000 in
set_option maxHeartbeats 4000000 in
theorem b_X11_lie_22 {G : zG} {o : cO} {S : cS} {N : Nat} {Q : Option Value → cS → Prop} {X : Int32 × cS → Prop} (hG : zOK G) (hR : ∀ v S', X (v, S') → Q (some (.int v)) S') (ok : O_X11_lie_22 N S) (hx : X (F_X11_lie_22 N S)) : cX G o dX11_lie mX11_lie 22 [none, none, none, none, none, none] [] S Q := by
  unfold O_X11_lie_22 at ok
  unfold F_X11_lie_22 at hx
  refine c_iconst (v := nI 0) dX11_lie_22 (by decide) ?_
  exact c_ireturn rfl rfl dX11_lie_23 (hR _ _ hx)
def F_X11_lie_0 (N : Nat) (x0 : Option Nat) (x1 : Int32) (x2 : Int32) (x3 : Int32) (S : cS) : Int32 × cS := (if (f_X11_mayLie N S (za x0) x1 x2) = 0 then (F_X11_lie_22 N S) else (if x3 < (nI 1) then (F_X11_lie_22 N S) else (if x3 ≤ (cI S 3 (za x0)) then (F_X11_lie_35 N x0 x1 x2 x3 ((f_X9_fresh N S (za (cR S 6 (za (cR S 0 (za x0))))) x3).1) (f_X9_fresh N S (za (cR S 6 (za (cR S 0 (za x0))))) x3).2) else (F_X11_lie_22 N S))))
def O_X11_lie_0 (N : Nat) (x0 : Option Nat) (x1 : Int32) (x2 : Int32) (x3 : Int32) (S : cS) : Prop := (cis S x0 10 ∧ o_X11_mayLie N S (za x0) x1 x2) ∧ (((f_X11_mayLie N S (za x0) x1 x2) = 0 → O_X11_lie_22 N S) ∧ (¬ (f_X11_mayLie N S (za x0) x1 x2) = 0 → ((x3 < (nI 1) → O_X11_lie_22 N S) ∧ (¬ x3 < (nI 1) → (cis S x0 10) ∧ ((x3 ≤ (cI S 3 (za x0)) → (cis S x0 10) ∧ (cis S (cR S 0 (za x0)) 9) ∧ (cis S (cR S 6 (za (cR S 0 (za x0)))) 8 ∧ o_X9_fresh N S (za (cR S 6 (za (cR S 0 (za x0))))) x3) ∧ O_X11_lie_35 N x0 x1 x2 x3 ((f_X9_fresh N S (za (cR S 6 (za (cR S 0 (za x0))))) x3).1) (f_X9_fresh N S (za (cR S 6 (za (cR S 0 (za x0))))) x3).2) ∧ (¬ x3 ≤ (cI S 3 (za x0)) → O_X11_lie_22 N S))))))
set_option maxRecDepth 100000 in
set_option maxHeartbeats 4000000 in
theorem b_X11_lie_0 {G : zG} {o : cO} {S : cS} {N : Nat} {Q : Option Value → cS → Prop} {X : Int32 × cS → Prop} (hG : zOK G) (hR : ∀ v S', X (v, S') → Q (some (.int v)) S') {x0 : Option Nat} {x1 : Int32} {x2 : Int32} {x3 : Int32} (ok : O_X11_lie_0 N x0 x1 x2 x3 S) (hx : X (F_X11_lie_0 N x0 x1 x2 x3 S)) : cX G o dX11_lie mX11_lie 0 [some (va_rf x0), some (.int x1), some (.int x2), some (.int x3), none, none] [] S Q := by
  unfold O_X11_lie_0 at ok
  unfold F_X11_lie_0 at hx
  refine c_aload_nQ dX11_lie_0 rfl rfl ?_
  refine c_iload_n dX11_lie_1 rfl rfl ?_
  refine c_iload_n dX11_lie_2 rfl rfl ?_
  refine c_V2iE (ci := 9) (rr := (RX11, TX11, 4)) (y' := mX11_mayLie) dX11_lie_3 lX11_34 kX11_mayLie ⟨by decide, by decide⟩ rfl rfl (by decide) ok.1.1 (Nat.le_of_ble_eq_true rfl) (cc_X11_mayLie hG ok.1.2) ?_
  have ok := ok.2
  refine c_if_eq (tgt := 22) dX11_lie_6 (by decide) (fun c_6 => ?_) (fun c_6 => ?_)
  · have ok := ok.1 c_6
    have hx := xif_p c_6 hx
    exact cX.cutz (b_X11_lie_22 hG hR ok hx) trivial
  · have ok := ok.2 c_6
    have hx := xif_n c_6 hx
    refine c_iload_n dX11_lie_9 rfl rfl ?_
    refine c_iconst (v := nI 1) dX11_lie_10 (by decide) ?_
    refine c_icmp_lt (tgt := 22) dX11_lie_11 (by decide) (fun c_11 => ?_) (fun c_11 => ?_)
    · have ok := ok.1 c_11
      have hx := xif_p c_11 hx
      exact cX.cutz (b_X11_lie_22 hG hR ok hx) trivial
    · have ok := ok.2 c_11
      have hx := xif_n c_11 hx
      refine c_iload_n dX11_lie_14 rfl rfl ?_
      refine c_aload_nQ dX11_lie_15 rfl rfl ?_
      refine c_getI (C := RX11) (T := TX11) (N := 4) (ci := 9) (k := 3) ⟨rfl, inT11, by decide, fX11_26⟩ (by decide) (by decide) (by decide) dX11_lie_16 ok.1 ?_
      have ok := ok.2
      refine c_icmp_le (tgt := 24) dX11_lie_19 (by decide) (fun c_19 => ?_) (fun c_19 => ?_)
      · have ok := ok.1 c_19
        have hx := xif_p c_19 hx
        refine c_aload_nQ dX11_lie_24 rfl rfl ?_
        refine c_getR (C := RX11) (T := TX11) (N := 4) (ci := 9) (k := 0) ⟨rfl, inT11, by decide, fX11_22⟩ (by decide) (by decide) (by decide) dX11_lie_25 ok.1 ?_
        have ok := ok.2
        refine c_getR (C := RX10) (T := TX10) (N := 12) (ci := 8) (k := 6) ⟨rfl, inT10, by decide, fX11_38⟩ (by decide) (by decide) (by decide) dX11_lie_28 ok.1 ?_
        have ok := ok.2
        refine c_iload_n dX11_lie_31 rfl rfl ?_
        refine c_V1qE (ci := 7) (rr := (RX9, TX9, 13)) (y' := mX9_fresh) dX11_lie_32 lX11_42 kX9_fresh ⟨by decide, by decide⟩ rfl rfl (by decide) ok.1.1 (Nat.le_of_ble_eq_true rfl) (cc_X9_fresh hG ok.1.2) ?_
        have ok := ok.2
        exact cX.cutz (b_X11_lie_35 hG hR ok hx) ⟨rfl, rfl, rfl, rfl, trivial⟩
      · have ok := ok.2 c_19
        have hx := xif_n c_19 hx
        exact cX.cutz (b_X11_lie_22 hG hR ok hx) trivial
def f_X11_lie (N : Nat) (S : cS) (a0 : Nat) (x1 : Int32) (x2 : Int32) (x3 : Int32) : Int32 × cS := F_X11_lie_0 N (some a0) x1 x2 x3 S
def o_X11_lie (N : Nat) (S : cS) (a0 : Nat) (x1 : Int32) (x2 : Int32) (x3 : Int32) : Prop := O_X11_lie_0 N (some a0) x1 x2 x3 S
set_option maxRecDepth 100000 in
set_option maxHeartbeats 4000000 in
theorem cc_X11_lie {G : zG} {o : cO} {S : cS} {N : Nat} (hG : zOK G) {a0 : Nat} {x1 : Int32} {x2 : Int32} {x3 : Int32} (ok : o_X11_lie N S a0 x1 x2 x3) : cCi G o dX11_lie mX11_lie [.ref a0, .int x1, .int x2, .int x3] S (fun v S' => v = (f_X11_lie N S a0 x1 x2 x3).1 ∧ S' = (f_X11_lie N S a0 x1 x2 x3).2) := by
  refine cC.ofX rfl (by exact Nat.le_of_ble_eq_true rfl) ?_
  show cX G o dX11_lie mX11_lie 0 [some (.ref a0), some (.int x1), some (.int x2), some (.int x3), none, none] [] S _
  exact cX.cutz (b_X11_lie_0 (X := fun F => F = f_X11_lie N S a0 x1 x2 x3) hG (fun v S' h => ⟨v, rfl, by rw [← h], by rw [← h]⟩) ok rfl) ⟨rfl, rfl, rfl, rfl, trivial⟩
/-! X11_pass -/
def F_X11_pass_43 (N : Nat)  (S : cS) : Int32 × cS := ((nI 1), S)
def O_X11_pass_43 (N : Nat)  (S : cS) : Prop := True
set_option maxRecDepth 100000 in
set_option maxHeartbeats 4000000 in
theorem b_X11_pass_43 {G : zG} {o : cO} {S : cS} {N : Nat} {Q : Option Value → cS → Prop} {X : Int32 × cS → Prop} (hG : zOK G) (hR : ∀ v S', X (v, S') → Q (some (.int v)) S') (ok : O_X11_pass_43 N S) (hx : X (F_X11_pass_43 N S)) : cX G o dX11_pass mX11_pass 43 [none, none, none, none, none] [] S Q := by
  unfold O_X11_pass_43 at ok
  unfold F_X11_pass_43 at hx
  refine c_iconst (v := nI 1) dX11_pass_43 (by decide) ?_
  exact c_ireturn rfl rfl dX11_pass_44 (hR _ _ hx)
def F_X11_pass_27 (N : Nat)  (S : cS) : Int32 × cS := ((nI 0), S)
def O_X11_pass_27 (N : Nat)  (S : cS) : Prop := True
set_option maxRecDepth 100000 in
set_option maxHeartbeats 4000000 in
theorem b_X11_pass_27 {G : zG} {o : cO} {S : cS} {N : Nat} {Q : Option Value → cS → Prop} {X : Int32 × cS → Prop} (hG : zOK G) (hR : ∀ v S', X (v, S') → Q (some (.int v)) S') (ok : O_X11_pass_27 N S) (hx : X (F_X11_pass_27 N S)) : cX G o dX11_pass mX11_pass 27 [none, none, none, none, none] [] S Q := by
  unfold O_X11_pass_27 at ok
  unfold F_X11_pass_27 at hx
  refine c_iconst (v := nI 0) dX11_pass_27 (by decide) ?_
  exact c_ireturn rfl rfl dX11_pass_28 (hR _ _ hx)
def F_X11_pass_0 (N : Nat) (x0 : Option Nat) (x1 : Int32) (x2 : Int32) (x3 : Int32) (S : cS) : Int32 × cS := (if (f_X9_loadOf N S (za (cR S 6 (za (cR S 0 (za x0))))) x3) = none then (F_X11_pass_27 N S) else (if (f_X11_mayLie N S (za x0) x1 x2) = 0 then (F_X11_pass_27 N S) else (F_X11_pass_43 N (f_X9_post N S (za (cR S 6 (za (cR S 0 (za x0))))) x1 x2 (f_X9_loadOf N S (za (cR S 6 (za (cR S 0 (za x0))))) x3)))))
def O_X11_pass_0 (N : Nat) (x0 : Option Nat) (x1 : Int32) (x2 : Int32) (x3 : Int32) (S : cS) : Prop := (cis S x0 10) ∧ (cis S (cR S 0 (za x0)) 9) ∧ (cis S (cR S 6 (za (cR S 0 (za x0)))) 8 ∧ o_X9_loadOf N S (za (cR S 6 (za (cR S 0 (za x0))))) x3) ∧ (((f_X9_loadOf N S (za (cR S 6 (za (cR S 0 (za x0))))) x3) = none → O_X11_pass_27 N S) ∧ (¬ (f_X9_loadOf N S (za (cR S 6 (za (cR S 0 (za x0))))) x3) = none → (cis S x0 10 ∧ o_X11_mayLie N S (za x0) x1 x2) ∧ (((f_X11_mayLie N S (za x0) x1 x2) = 0 → O_X11_pass_27 N S) ∧ (¬ (f_X11_mayLie N S (za x0) x1 x2) = 0 → (cis S x0 10) ∧ (cis S (cR S 0 (za x0)) 9) ∧ (cis S (cR S 6 (za (cR S 0 (za x0)))) 8 ∧ o_X9_post N S (za (cR S 6 (za (cR S 0 (za x0))))) x1 x2 (f_X9_loadOf N S (za (cR S 6 (za (cR S 0 (za x0))))) x3)) ∧ O_X11_pass_43 N (f_X9_post N S (za (cR S 6 (za (cR S 0 (za x0))))) x1 x2 (f_X9_loadOf N S (za (cR S 6 (za (cR S 0 (za x0))))) x3))))))
set_option maxRecDepth 100000 in
set_option maxHeartbeats 4000000 in
theorem b_X11_pass_0 {G : zG} {o : cO} {S : cS} {N : Nat} {Q : Option Value → cS → Prop} {X : Int32 × cS → Prop} (hG : zOK G) (hR : ∀ v S', X (v, S') → Q (some (.int v)) S') {x0 : Option Nat} {x1 : Int32} {x2 : Int32} {x3 : Int32} (ok : O_X11_pass_0 N x0 x1 x2 x3 S) (hx : X (F_X11_pass_0 N x0 x1 x2 x3 S)) : cX G o dX11_pass mX11_pass 0 [some (va_rf x0), some (.int x1), some (.int x2), some (.int x3), none] [] S Q := by
  unfold O_X11_pass_0 at ok
  unfold F_X11_pass_0 at hx
  refine c_aload_nQ dX11_pass_0 rfl rfl ?_
  refine c_getR (C := RX11) (T := TX11) (N := 4) (ci := 9) (k := 0) ⟨rfl, inT11, by decide, fX11_22⟩ (by decide) (by decide) (by decide) dX11_pass_1 ok.1 ?_
  have ok := ok.2
  refine c_getR (C := RX10) (T := TX10) (N := 12) (ci := 8) (k := 6) ⟨rfl, inT10, by decide, fX11_38⟩ (by decide) (by decide) (by decide) dX11_pass_4 ok.1 ?_
  have ok := ok.2
  refine c_iload_n dX11_pass_7 rfl rfl ?_
  refine c_V1qE (ci := 7) (rr := (RX9, TX9, 13)) (y' := mX9_loadOf) dX11_pass_8 lX11_84 kX9_loadOf ⟨by decide, by decide⟩ rfl rfl (by decide) ok.1.1 (Nat.le_of_ble_eq_true rfl) (cc_X9_loadOf hG ok.1.2) ?_
  have ok := ok.2
  refine c_astore_4Q dX11_pass_11 (by decide) rfl ?_
  refine c_aloadQ dX11_pass_13 rfl ?_
  refine c_ifnullI (tgt := 27) dX11_pass_15 (by decide) (fun c_15 => ?_) (fun c_15 => ?_)
  · have ok := ok.1 c_15
    have hx := xif_p c_15 hx
    exact cX.cutz (b_X11_pass_27 hG hR ok hx) trivial
  · have ok := ok.2 c_15
    have hx := xif_n c_15 hx
    refine c_aload_nQ dX11_pass_18 rfl rfl ?_
    refine c_iload_n dX11_pass_19 rfl rfl ?_
    refine c_iload_n dX11_pass_20 rfl rfl ?_
    refine c_V2iE (ci := 9) (rr := (RX11, TX11, 4)) (y' := mX11_mayLie) dX11_pass_21 lX11_34 kX11_mayLie ⟨by decide, by decide⟩ rfl rfl (by decide) ok.1.1 (Nat.le_of_ble_eq_true rfl) (cc_X11_mayLie hG ok.1.2) ?_
    have ok := ok.2
    refine c_if_ne (tgt := 29) dX11_pass_24 (by decide) (fun c_24 => ?_) (fun c_24 => ?_)
    · have ok := ok.2 c_24
      have hx := xif_n c_24 hx
      refine c_aload_nQ dX11_pass_29 rfl rfl ?_
      refine c_getR (C := RX11) (T := TX11) (N := 4) (ci := 9) (k := 0) ⟨rfl, inT11, by decide, fX11_22⟩ (by decide) (by decide) (by decide) dX11_pass_30 ok.1 ?_
      have ok := ok.2
      refine c_getR (C := RX10) (T := TX10) (N := 12) (ci := 8) (k := 6) ⟨rfl, inT10, by decide, fX11_38⟩ (by decide) (by decide) (by decide) dX11_pass_33 ok.1 ?_
      have ok := ok.2
      refine c_iload_n dX11_pass_36 rfl rfl ?_
      refine c_iload_n dX11_pass_37 rfl rfl ?_
      refine c_aloadQ dX11_pass_38 rfl ?_
      refine c_V3vE (ci := 7) (rr := (RX9, TX9, 13)) (y' := mX9_post) dX11_pass_40 lX11_76 kX9_post ⟨by decide, by decide⟩ rfl rfl (by decide) ok.1.1 (Nat.le_of_ble_eq_true rfl) (cc_X9_post hG ok.1.2) ?_
      have ok := ok.2
      exact cX.cutz (b_X11_pass_43 hG hR ok hx) trivial
    · have ok := ok.1 c_24
      have hx := xif_p c_24 hx
      exact cX.cutz (b_X11_pass_27 hG hR ok hx) trivial
def f_X11_pass (N : Nat) (S : cS) (a0 : Nat) (x1 : Int32) (x2 : Int32) (x3 : Int32) : Int32 × cS := F_X11_pass_0 N (some a0) x1 x2 x3 S
def o_X11_pass (N : Nat) (S : cS) (a0 : Nat) (x1 : Int32) (x2 : Int32) (x3 : Int32) : Prop := O_X11_pass_0 N (some a0) x1 x2 x3 S
set_option maxRecDepth 100000 in
set_option maxHeartbeats 4000000 in
theorem cc_X11_pass {G : zG} {o : cO} {S : cS} {N : Nat} (hG : zOK G) {a0 : Nat} {x1 : Int32} {x2 : Int32} {x3 : Int32} (ok : o_X11_pass N S a0 x1 x2 x3) : cCi G o dX11_pass mX11_pass [.ref a0, .int x1, .int x2, .int x3] S (fun v S' => v = (f_X11_pass N S a0 x1 x2 x3).1 ∧ S' = (f_X11_pass N S a0 x1 x2 x3).2) := by
  refine cC.ofX rfl (by exact Nat.le_of_ble_eq_true rfl) ?_
  show cX G o dX11_pass mX11_pass 0 [some (.ref a0), some (.int x1), some (.int x2), some (.int x3), none] [] S _
  exact cX.cutz (b_X11_pass_0 (X := fun F => F = f_X11_pass N S a0 x1 x2 x3) hG (fun v S' h => ⟨v, rfl, by rw [← h], by rw [← h]⟩) ok rfl) ⟨rfl, rfl, rfl, rfl, trivial⟩

/-! X11_stamp -/
def KF_X11_stamp_146 (N g H T : Nat)  (S : cS) : Int32 × cS := ((nI 1), S)
def KO_X11_stamp_146 (N g H T : Nat)  (S : cS) : Prop := True
set_option maxRecDepth 100000 in
set_option maxHeartbeats 4000000 in
theorem kb_X11_stamp_146 {G : zG} {o : cO} {g H T N : Nat} {S : cS} {S0 : cS} {Q : Option Value → cS → Prop} {X : Int32 × cS → Prop} (hG : zOK G) (hR : ∀ v S', St 1 g H T S' → Mono S0 S' → X (v, S') → Q (some (.int v)) S') (hS : St 1 g H T S) (hM : Mono S0 S) (ok : KO_X11_stamp_146 N g H T S) (hx : X (KF_X11_stamp_146 N g H T S)) : cX G o dX11_stamp mX11_stamp 146 [none, none, none, none, none, none] [] S Q := by
  unfold KO_X11_stamp_146 at ok
  unfold KF_X11_stamp_146 at hx
  refine c_iconst (v := nI 1) dX11_stamp_146 (by decide) ?_
  exact c_ireturn rfl rfl dX11_stamp_147 (hR _ _ hS hM hx)
def KF_X11_stamp_117 (N g H T : Nat)  (S : cS) : Int32 × cS := ((nI 0), S)
def KO_X11_stamp_117 (N g H T : Nat)  (S : cS) : Prop := True
set_option maxRecDepth 100000 in
set_option maxHeartbeats 4000000 in
theorem kb_X11_stamp_117 {G : zG} {o : cO} {g H T N : Nat} {S : cS} {S0 : cS} {Q : Option Value → cS → Prop} {X : Int32 × cS → Prop} (hG : zOK G) (hR : ∀ v S', St 1 g H T S' → Mono S0 S' → X (v, S') → Q (some (.int v)) S') (hS : St 1 g H T S) (hM : Mono S0 S) (ok : KO_X11_stamp_117 N g H T S) (hx : X (KF_X11_stamp_117 N g H T S)) : cX G o dX11_stamp mX11_stamp 117 [none, none, none, none, none, none] [] S Q := by
  unfold KO_X11_stamp_117 at ok
  unfold KF_X11_stamp_117 at hx
  refine c_iconst (v := nI 0) dX11_stamp_117 (by decide) ?_
  exact c_ireturn rfl rfl dX11_stamp_118 (hR _ _ hS hM hx)
def KF_X11_stamp_92 (N g H T : Nat) (x0 : Nat) (x1 : Int32) (x4 : Option Nat) (s0 : Int32) (S : cS) : Int32 × cS := (if x4 = none then (KF_X11_stamp_117 N g H T S) else (if s0 < 0 then (KF_X11_stamp_117 N g H T S) else (if (nI 101) ≤ ((cI S 2 (za x4)) - s0) then (KF_X11_stamp_146 N g H T (k_X2_digest N g H T S (g + 3) (some ((za x4) + 2)) s0 (s0 + (nI 101)) (some (g + 1)) x1)) else (KF_X11_stamp_117 N g H T S))))
def KO_X11_stamp_92 (N g H T : Nat) (x0 : Nat) (x1 : Int32) (x4 : Option Nat) (s0 : Int32) (S : cS) : Prop := ((x4 = none → KO_X11_stamp_117 N g H T S) ∧ (¬ x4 = none → ((s0 < 0 → KO_X11_stamp_117 N g H T S) ∧ (¬ s0 < 0 → (((nI 101) ≤ ((cI S 2 (za x4)) - s0) → (p_X2_digest N g H T S (g + 3) (some ((za x4) + 2)) s0 (s0 + (nI 101)) (some (g + 1)) x1) ∧ KO_X11_stamp_146 N g H T (k_X2_digest N g H T S (g + 3) (some ((za x4) + 2)) s0 (s0 + (nI 101)) (some (g + 1)) x1)) ∧ (¬ (nI 101) ≤ ((cI S 2 (za x4)) - s0) → KO_X11_stamp_117 N g H T S))))))
set_option maxRecDepth 100000 in
set_option maxHeartbeats 4000000 in
theorem kb_X11_stamp_92 {G : zG} {o : cO} {g H T N : Nat} {S : cS} {S0 : cS} {Q : Option Value → cS → Prop} {X : Int32 × cS → Prop} (hG : zOK G) (hR : ∀ v S', St 1 g H T S' → Mono S0 S' → X (v, S') → Q (some (.int v)) S') {x0 : Nat} {x1 : Int32} {x4 : Option Nat} {s0 : Int32} (hS : St 1 g H T S) (hM : Mono S0 S) (t_x0 : isO g H 9 x0) (t_x4 : tK S 5 x4) (ok : KO_X11_stamp_92 N g H T x0 x1 x4 s0 S) (hx : X (KF_X11_stamp_92 N g H T x0 x1 x4 s0 S)) : cX G o dX11_stamp mX11_stamp 92 [some (va_rf (some x0)), some (.int x1), none, none, some (va_rf x4), none] [.int s0] S Q := by
  unfold KO_X11_stamp_92 at ok
  unfold KF_X11_stamp_92 at hx
  refine c_istore_5 dX11_stamp_92 (by decide) (by simp [zok, zg, zcat_rf]) ?_
  refine c_aloadQ dX11_stamp_94 rfl ?_
  refine c_ifnullI (tgt := 117) dX11_stamp_96 (by decide) (fun c_96 => ?_) (fun c_96 => ?_)
  · have ok := ok.1 c_96
    have hx := xif_p c_96 hx
    exact cX.cutz (kb_X11_stamp_117 hG hR hS hM  ok hx) trivial
  · have ok := ok.2 c_96
    have hx := xif_n c_96 hx
    refine c_iload dX11_stamp_99 rfl ?_
    refine c_if_lt (tgt := 117) dX11_stamp_101 (by decide) (fun c_101 => ?_) (fun c_101 => ?_)
    · have ok := ok.1 c_101
      have hx := xif_p c_101 hx
      exact cX.cutz (kb_X11_stamp_117 hG hR hS hM  ok hx) trivial
    · have ok := ok.2 c_101
      have hx := xif_n c_101 hx
      refine c_aloadQ dX11_stamp_104 rfl ?_
      refine c_getI (C := RX5) (T := TX5) (N := 7) (ci := 4) (k := 2) ⟨rfl, inT5, by decide, fX11_150⟩ (by decide) (by decide) (by decide) dX11_stamp_106 (tK.cis t_x4 c_96) ?_
      refine c_iload dX11_stamp_109 rfl ?_
      refine c_isub dX11_stamp_111 ?_
      refine c_bipush (v := nI 101) dX11_stamp_112 (by decide) ?_
      refine c_icmp_ge (tgt := 119) dX11_stamp_114 (by decide) (fun c_114 => ?_) (fun c_114 => ?_)
      · have ok := ok.1 c_114
        have hx := xif_p c_114 hx
        refine c_aload_nQ dX11_stamp_119 rfl rfl ?_
        refine c_getS (C := RX11) (T := TX11) (N := 4) (ci := 9) (k := 0) ⟨rfl, inT11, by decide, fX11_22⟩ (by decide) (by decide) (by decide) dX11_stamp_120 (hS.k t_x0) (hS.r (c := 9) t_x0 rfl (by omega)) ?_
        refine c_getS (C := RX10) (T := TX10) (N := 12) (ci := 8) (k := 5) ⟨rfl, inT10, by decide, fX11_103⟩ (by decide) (by decide) (by decide) dX11_stamp_123 (hS.k (o90 t_x0)) (hS.r (c := 8) (o90 t_x0) rfl (by omega)) ?_
        refine c_aloadQ dX11_stamp_126 rfl ?_
        have p_128 := hS.m0k t_x4 c_96
        refine c_getS (C := RX5) (T := TX5) (N := 7) (ci := 4) (k := 0) ⟨rfl, inT5, by decide, fX11_48⟩ (by decide) (by decide) (by decide) dX11_stamp_128 (tK.cis t_x4 c_96) (hS.m0 t_x4 c_96) ?_
        refine c_iload dX11_stamp_131 rfl ?_
        refine c_iload dX11_stamp_133 rfl ?_
        refine c_bipush (v := nI 101) dX11_stamp_135 (by decide) ?_
        refine c_iadd dX11_stamp_137 ?_
        refine c_aload_nQ dX11_stamp_138 rfl rfl ?_
        refine c_getS (C := RX11) (T := TX11) (N := 4) (ci := 9) (k := 1) ⟨rfl, inT11, by decide, fX11_9⟩ (by decide) (by decide) (by decide) dX11_stamp_139 (hS.k t_x0) (hS.r (c := 9) t_x0 rfl (by omega)) ?_
        refine c_iload_n dX11_stamp_142 rfl rfl ?_
        refine c_V5vK (ci := 2) (rr := (RX2, TX2, 6)) (y' := mX2_digest) dX11_stamp_143 lX11_142 kX2_digest ⟨by decide, by decide⟩ rfl rfl (by decide) (hS.k (o85 (o90 t_x0))) (Nat.le_of_ble_eq_true rfl) (kc_X2_digest hG hS (o85 (o90 t_x0)) p_128 (hS.rk (c := 9) (k := 1) t_x0 rfl (by omega)) ok.1) (fun ⟨hS, hm_143⟩ => ?_)
        have hM := hM.trans hm_143
        have ok := ok.2
        exact cX.cutz (kb_X11_stamp_146 hG hR hS hM  ok hx) trivial
      · have ok := ok.2 c_114
        have hx := xif_n c_114 hx
        exact cX.cutz (kb_X11_stamp_117 hG hR hS hM  ok hx) trivial
def KF_X11_stamp_63 (N g H T : Nat)  (S : cS) : Int32 × cS := ((nI 1), S)
def KO_X11_stamp_63 (N g H T : Nat)  (S : cS) : Prop := True
set_option maxRecDepth 100000 in
set_option maxHeartbeats 4000000 in
theorem kb_X11_stamp_63 {G : zG} {o : cO} {g H T N : Nat} {S : cS} {S0 : cS} {Q : Option Value → cS → Prop} {X : Int32 × cS → Prop} (hG : zOK G) (hR : ∀ v S', St 1 g H T S' → Mono S0 S' → X (v, S') → Q (some (.int v)) S') (hS : St 1 g H T S) (hM : Mono S0 S) (ok : KO_X11_stamp_63 N g H T S) (hx : X (KF_X11_stamp_63 N g H T S)) : cX G o dX11_stamp mX11_stamp 63 [none, none, none, none, none, none] [] S Q := by
  unfold KO_X11_stamp_63 at ok
  unfold KF_X11_stamp_63 at hx
  refine c_iconst (v := nI 1) dX11_stamp_63 (by decide) ?_
  exact c_ireturn rfl rfl dX11_stamp_64 (hR _ _ hS hM hx)
def KF_X11_stamp_37 (N g H T : Nat)  (S : cS) : Int32 × cS := ((nI 0), S)
def KO_X11_stamp_37 (N g H T : Nat)  (S : cS) : Prop := True
set_option maxRecDepth 100000 in
set_option maxHeartbeats 4000000 in
theorem kb_X11_stamp_37 {G : zG} {o : cO} {g H T N : Nat} {S : cS} {S0 : cS} {Q : Option Value → cS → Prop} {X : Int32 × cS → Prop} (hG : zOK G) (hR : ∀ v S', St 1 g H T S' → Mono S0 S' → X (v, S') → Q (some (.int v)) S') (hS : St 1 g H T S) (hM : Mono S0 S) (ok : KO_X11_stamp_37 N g H T S) (hx : X (KF_X11_stamp_37 N g H T S)) : cX G o dX11_stamp mX11_stamp 37 [none, none, none, none, none, none] [] S Q := by
  unfold KO_X11_stamp_37 at ok
  unfold KF_X11_stamp_37 at hx
  refine c_iconst (v := nI 0) dX11_stamp_37 (by decide) ?_
  exact c_ireturn rfl rfl dX11_stamp_38 (hR _ _ hS hM hx)
def KF_X11_stamp_15 (N g H T : Nat)  (S : cS) : Int32 × cS := ((nI 0), S)
def KO_X11_stamp_15 (N g H T : Nat)  (S : cS) : Prop := True
set_option maxRecDepth 100000 in
set_option maxHeartbeats 4000000 in
theorem kb_X11_stamp_15 {G : zG} {o : cO} {g H T N : Nat} {S : cS} {S0 : cS} {Q : Option Value → cS → Prop} {X : Int32 × cS → Prop} (hG : zOK G) (hR : ∀ v S', St 1 g H T S' → Mono S0 S' → X (v, S') → Q (some (.int v)) S') (hS : St 1 g H T S) (hM : Mono S0 S) (ok : KO_X11_stamp_15 N g H T S) (hx : X (KF_X11_stamp_15 N g H T S)) : cX G o dX11_stamp mX11_stamp 15 [none, none, none, none, none, none] [] S Q := by
  unfold KO_X11_stamp_15 at ok
  unfold KF_X11_stamp_15 at hx
  refine c_iconst (v := nI 0) dX11_stamp_15 (by decide) ?_
  exact c_ireturn rfl rfl dX11_stamp_16 (hR _ _ hS hM hx)
def KF_X11_stamp_0 (N g H T : Nat) (x0 : Nat) (x1 : Int32) (x2 : Int32) (x3 : Int32) (S : cS) : Int32 × cS := (if x1 < 0 then (KF_X11_stamp_15 N g H T S) else (if x1 ≤ ((cI S 3 x0) - (nI 32)) then (if x2 = (-1) then (if x3 < 0 then (KF_X11_stamp_37 N g H T S) else (if x3 ≤ ((cI S 3 x0) - (nI 101)) then (KF_X11_stamp_63 N g H T (k_X2_digest N g H T S (g + 3) (some (g + 1)) x3 (x3 + (nI 101)) (some (g + 1)) x1)) else (KF_X11_stamp_37 N g H T S))) else (if (k_X9_loadOf N g H T S (g + 11) x2) = none then (KF_X11_stamp_92 N g H T x0 x1 (k_X9_loadOf N g H T S (g + 11) x2) (-1) S) else (KF_X11_stamp_92 N g H T x0 x1 (k_X9_loadOf N g H T S (g + 11) x2) (k_X5_blockAt N g H T S (za (k_X9_loadOf N g H T S (g + 11) x2))) S))) else (KF_X11_stamp_15 N g H T S)))
def KO_X11_stamp_0 (N g H T : Nat) (x0 : Nat) (x1 : Int32) (x2 : Int32) (x3 : Int32) (S : cS) : Prop := ((x1 < 0 → KO_X11_stamp_15 N g H T S) ∧ (¬ x1 < 0 → ((x1 ≤ ((cI S 3 x0) - (nI 32)) → ((x2 = (-1) → ((x3 < 0 → KO_X11_stamp_37 N g H T S) ∧ (¬ x3 < 0 → ((x3 ≤ ((cI S 3 x0) - (nI 101)) → (p_X2_digest N g H T S (g + 3) (some (g + 1)) x3 (x3 + (nI 101)) (some (g + 1)) x1) ∧ KO_X11_stamp_63 N g H T (k_X2_digest N g H T S (g + 3) (some (g + 1)) x3 (x3 + (nI 101)) (some (g + 1)) x1)) ∧ (¬ x3 ≤ ((cI S 3 x0) - (nI 101)) → KO_X11_stamp_37 N g H T S))))) ∧ (¬ x2 = (-1) → (p_X9_loadOf N g H T S (g + 11) x2) ∧ (((k_X9_loadOf N g H T S (g + 11) x2) = none → KO_X11_stamp_92 N g H T x0 x1 (k_X9_loadOf N g H T S (g + 11) x2) (-1) S) ∧ (¬ (k_X9_loadOf N g H T S (g + 11) x2) = none → (p_X5_blockAt N g H T S (za (k_X9_loadOf N g H T S (g + 11) x2))) ∧ KO_X11_stamp_92 N g H T x0 x1 (k_X9_loadOf N g H T S (g + 11) x2) (k_X5_blockAt N g H T S (za (k_X9_loadOf N g H T S (g + 11) x2))) S))))) ∧ (¬ x1 ≤ ((cI S 3 x0) - (nI 32)) → KO_X11_stamp_15 N g H T S))))
set_option maxRecDepth 100000 in
set_option maxHeartbeats 4000000 in
theorem kb_X11_stamp_0 {G : zG} {o : cO} {g H T N : Nat} {S : cS} {S0 : cS} {Q : Option Value → cS → Prop} {X : Int32 × cS → Prop} (hG : zOK G) (hR : ∀ v S', St 1 g H T S' → Mono S0 S' → X (v, S') → Q (some (.int v)) S') {x0 : Nat} {x1 : Int32} {x2 : Int32} {x3 : Int32} (hS : St 1 g H T S) (hM : Mono S0 S) (t_x0 : isO g H 9 x0) (ok : KO_X11_stamp_0 N g H T x0 x1 x2 x3 S) (hx : X (KF_X11_stamp_0 N g H T x0 x1 x2 x3 S)) : cX G o dX11_stamp mX11_stamp 0 [some (va_rf (some x0)), some (.int x1), some (.int x2), some (.int x3), none, none] [] S Q := by
  unfold KO_X11_stamp_0 at ok
  unfold KF_X11_stamp_0 at hx
  refine c_iload_n dX11_stamp_0 rfl rfl ?_
  refine c_if_lt (tgt := 15) dX11_stamp_1 (by decide) (fun c_1 => ?_) (fun c_1 => ?_)
  · have ok := ok.1 c_1
    have hx := xif_p c_1 hx
    exact cX.cutz (kb_X11_stamp_15 hG hR hS hM  ok hx) trivial
  · have ok := ok.2 c_1
    have hx := xif_n c_1 hx
    refine c_iload_n dX11_stamp_4 rfl rfl ?_
    refine c_aload_nQ dX11_stamp_5 rfl rfl ?_
    refine c_getI (C := RX11) (T := TX11) (N := 4) (ci := 9) (k := 3) ⟨rfl, inT11, by decide, fX11_26⟩ (by decide) (by decide) (by decide) dX11_stamp_6 (hS.k t_x0) ?_
    refine c_bipush (v := nI 32) dX11_stamp_9 (by decide) ?_
    refine c_isub dX11_stamp_11 ?_
    refine c_icmp_le (tgt := 17) dX11_stamp_12 (by decide) (fun c_12 => ?_) (fun c_12 => ?_)
    · have ok := ok.1 c_12
      have hx := xif_p c_12 hx
      refine c_iload_n dX11_stamp_17 rfl rfl ?_
      refine c_iconst (v := -1) dX11_stamp_18 (by decide) ?_
      refine c_icmp_ne (tgt := 65) dX11_stamp_19 (by decide) (fun c_19 => ?_) (fun c_19 => ?_)
      · have ok := ok.2 c_19
        have hx := xif_n c_19 hx
        refine c_aload_nQ dX11_stamp_65 rfl rfl ?_
        refine c_getS (C := RX11) (T := TX11) (N := 4) (ci := 9) (k := 0) ⟨rfl, inT11, by decide, fX11_22⟩ (by decide) (by decide) (by decide) dX11_stamp_66 (hS.k t_x0) (hS.r (c := 9) t_x0 rfl (by omega)) ?_
        refine c_getS (C := RX10) (T := TX10) (N := 12) (ci := 8) (k := 6) ⟨rfl, inT10, by decide, fX11_38⟩ (by decide) (by decide) (by decide) dX11_stamp_69 (hS.k (o90 t_x0)) (hS.r (c := 8) (o90 t_x0) rfl (by omega)) ?_
        refine c_iload_n dX11_stamp_72 rfl rfl ?_
        refine c_V1qK (ci := 7) (rr := (RX9, TX9, 13)) (y' := mX9_loadOf) dX11_stamp_73 lX11_84 kX9_loadOf ⟨by decide, by decide⟩ rfl rfl (by decide) (hS.k (o86 (o90 t_x0))) (Nat.le_of_ble_eq_true rfl) (kc_X9_loadOf hG hS (o86 (o90 t_x0)) ok.1) (fun tv_73 => ?_)
        have ok := ok.2
        refine c_astore_4Q dX11_stamp_76 (by decide) rfl ?_
        refine c_aloadQ dX11_stamp_78 rfl ?_
        refine c_ifnonnullI (tgt := 87) dX11_stamp_80 (by decide) (fun c_80 => ?_) (fun c_80 => ?_)
        · have ok := ok.2 c_80
          have hx := xif_n c_80 hx
          refine c_aloadQ dX11_stamp_87 rfl ?_
          refine c_V0iE (ci := 4) (rr := (RX5, TX5, 7)) (y' := mX5_blockAt) dX11_stamp_89 lX11_146 kX5_blockAt ⟨by decide, by decide⟩ rfl rfl (by decide) (tK.cis tv_73 c_80) (Nat.le_of_ble_eq_true rfl) (kc_X5_blockAt hG hS (tv_73 _ (za_of c_80)) ok.1) ?_
          have ok := ok.2
          exact cX.cutz (kb_X11_stamp_92 hG hR hS hM t_x0 tv_73 ok hx) ⟨rfl, rfl, rfl, trivial⟩
        · have ok := ok.1 c_80
          have hx := xif_p c_80 hx
          refine c_iconst (v := -1) dX11_stamp_83 (by decide) ?_
          refine c_goto (tgt := 92) dX11_stamp_84 (by decide) ?_
          exact cX.cutz (kb_X11_stamp_92 hG hR hS hM t_x0 tv_73 ok hx) ⟨rfl, rfl, rfl, trivial⟩
      · have ok := ok.1 c_19
        have hx := xif_p c_19 hx
        refine c_iload_n dX11_stamp_22 rfl rfl ?_
        refine c_if_lt (tgt := 37) dX11_stamp_23 (by decide) (fun c_23 => ?_) (fun c_23 => ?_)
        · have ok := ok.1 c_23
          have hx := xif_p c_23 hx
          exact cX.cutz (kb_X11_stamp_37 hG hR hS hM  ok hx) trivial
        · have ok := ok.2 c_23
          have hx := xif_n c_23 hx
          refine c_iload_n dX11_stamp_26 rfl rfl ?_
          refine c_aload_nQ dX11_stamp_27 rfl rfl ?_
          refine c_getI (C := RX11) (T := TX11) (N := 4) (ci := 9) (k := 3) ⟨rfl, inT11, by decide, fX11_26⟩ (by decide) (by decide) (by decide) dX11_stamp_28 (hS.k t_x0) ?_
          refine c_bipush (v := nI 101) dX11_stamp_31 (by decide) ?_
          refine c_isub dX11_stamp_33 ?_
          refine c_icmp_le (tgt := 39) dX11_stamp_34 (by decide) (fun c_34 => ?_) (fun c_34 => ?_)
          · have ok := ok.1 c_34
            have hx := xif_p c_34 hx
            refine c_aload_nQ dX11_stamp_39 rfl rfl ?_
            refine c_getS (C := RX11) (T := TX11) (N := 4) (ci := 9) (k := 0) ⟨rfl, inT11, by decide, fX11_22⟩ (by decide) (by decide) (by decide) dX11_stamp_40 (hS.k t_x0) (hS.r (c := 9) t_x0 rfl (by omega)) ?_
            refine c_getS (C := RX10) (T := TX10) (N := 12) (ci := 8) (k := 5) ⟨rfl, inT10, by decide, fX11_103⟩ (by decide) (by decide) (by decide) dX11_stamp_43 (hS.k (o90 t_x0)) (hS.r (c := 8) (o90 t_x0) rfl (by omega)) ?_
            refine c_aload_nQ dX11_stamp_46 rfl rfl ?_
            refine c_getS (C := RX11) (T := TX11) (N := 4) (ci := 9) (k := 1) ⟨rfl, inT11, by decide, fX11_9⟩ (by decide) (by decide) (by decide) dX11_stamp_47 (hS.k t_x0) (hS.r (c := 9) t_x0 rfl (by omega)) ?_
            refine c_iload_n dX11_stamp_50 rfl rfl ?_
            refine c_iload_n dX11_stamp_51 rfl rfl ?_
            refine c_bipush (v := nI 101) dX11_stamp_52 (by decide) ?_
            refine c_iadd dX11_stamp_54 ?_
            refine c_aload_nQ dX11_stamp_55 rfl rfl ?_
            refine c_getS (C := RX11) (T := TX11) (N := 4) (ci := 9) (k := 1) ⟨rfl, inT11, by decide, fX11_9⟩ (by decide) (by decide) (by decide) dX11_stamp_56 (hS.k t_x0) (hS.r (c := 9) t_x0 rfl (by omega)) ?_
            refine c_iload_n dX11_stamp_59 rfl rfl ?_
            refine c_V5vK (ci := 2) (rr := (RX2, TX2, 6)) (y' := mX2_digest) dX11_stamp_60 lX11_142 kX2_digest ⟨by decide, by decide⟩ rfl rfl (by decide) (hS.k (o85 (o90 t_x0))) (Nat.le_of_ble_eq_true rfl) (kc_X2_digest hG hS (o85 (o90 t_x0)) (hS.rk (c := 9) (k := 1) t_x0 rfl (by omega)) (hS.rk (c := 9) (k := 1) t_x0 rfl (by omega)) ok.1) (fun ⟨hS, hm_60⟩ => ?_)
            have hM := hM.trans hm_60
            have ok := ok.2
            exact cX.cutz (kb_X11_stamp_63 hG hR hS hM  ok hx) trivial
          · have ok := ok.2 c_34
            have hx := xif_n c_34 hx
            exact cX.cutz (kb_X11_stamp_37 hG hR hS hM  ok hx) trivial
    · have ok := ok.2 c_12
      have hx := xif_n c_12 hx
      exact cX.cutz (kb_X11_stamp_15 hG hR hS hM  ok hx) trivial
def k_X11_stamp (N g H T : Nat) (S : cS) (a0 : Nat) (x1 : Int32) (x2 : Int32) (x3 : Int32) : Int32 × cS := KF_X11_stamp_0 N g H T a0 x1 x2 x3 S
def p_X11_stamp (N g H T : Nat) (S : cS) (a0 : Nat) (x1 : Int32) (x2 : Int32) (x3 : Int32) : Prop := KO_X11_stamp_0 N g H T a0 x1 x2 x3 S
set_option maxRecDepth 100000 in
set_option maxHeartbeats 4000000 in
theorem kc_X11_stamp {G : zG} {o : cO} {g H T N : Nat} {S : cS} (hG : zOK G) {a0 : Nat} {x1 : Int32} {x2 : Int32} {x3 : Int32} (hS : St 1 g H T S) (t_x0 : isO g H 9 a0) (ok : p_X11_stamp N g H T S a0 x1 x2 x3) : cCi G o dX11_stamp mX11_stamp [.ref a0, .int x1, .int x2, .int x3] S (fun v S' => (v = (k_X11_stamp N g H T S a0 x1 x2 x3).1 ∧ S' = (k_X11_stamp N g H T S a0 x1 x2 x3).2) ∧ St 1 g H T S' ∧ Mono S S') := by
  refine cC.ofX rfl (by exact Nat.le_of_ble_eq_true rfl) ?_
  show cX G o dX11_stamp mX11_stamp 0 [some (va_rf (some a0)), some (.int x1), some (.int x2), some (.int x3), none, none] [] S _
  exact cX.cutz (kb_X11_stamp_0 (X := fun F => F = k_X11_stamp N g H T S a0 x1 x2 x3) hG (fun v S' h1 h2 h => ⟨v, rfl, ⟨by rw [← h], by rw [← h]⟩, h1, h2⟩) hS Mono.rfl' t_x0 ok rfl) ⟨rfl, rfl, rfl, rfl, trivial⟩
/-! X11_hash -/
def KF_X11_hash_44 (N g H T : Nat) (x0 : Nat) (x2 : Int32) (S : cS) : Int64 × cS := ((k_X11_eight N g H T S (some (g + 2)) (nI 32) ((nI 8) * x2)), S)
def KO_X11_hash_44 (N g H T : Nat) (x0 : Nat) (x2 : Int32) (S : cS) : Prop := (p_X11_eight N g H T S (some (g + 2)) (nI 32) ((nI 8) * x2)) ∧ True
set_option maxRecDepth 100000 in
set_option maxHeartbeats 4000000 in
theorem kb_X11_hash_44 {G : zG} {o : cO} {g H T N : Nat} {S : cS} {S0 : cS} {Q : Option Value → cS → Prop} {X : Int64 × cS → Prop} (hG : zOK G) (hR : ∀ v S', St 1 g H T S' → Mono S0 S' → X (v, S') → Q (some (.long v)) S') {x0 : Nat} {x2 : Int32} (hS : St 1 g H T S) (hM : Mono S0 S) (t_x0 : isO g H 9 x0) (ok : KO_X11_hash_44 N g H T x0 x2 S) (hx : X (KF_X11_hash_44 N g H T x0 x2 S)) : cX G o dX11_hash mX11_hash 44 [some (va_rf (some x0)), none, some (.int x2)] [] S Q := by
  unfold KO_X11_hash_44 at ok
  unfold KF_X11_hash_44 at hx
  refine c_aload_nQ dX11_hash_44 rfl rfl ?_
  refine c_getS (C := RX11) (T := TX11) (N := 4) (ci := 9) (k := 2) ⟨rfl, inT11, by decide, fX11_13⟩ (by decide) (by decide) (by decide) dX11_hash_45 (hS.k t_x0) (hS.r (c := 9) t_x0 rfl (by omega)) ?_
  refine c_bipush (v := nI 32) dX11_hash_48 (by decide) ?_
  refine c_bipush (v := nI 8) dX11_hash_50 (by decide) ?_
  refine c_iload_n dX11_hash_52 rfl rfl ?_
  refine c_imul dX11_hash_53 ?_
  refine c_S3lE (y' := mX11_eight) dX11_hash_54 lX11_153 kX11_eight ⟨by decide, by decide⟩ (Nat.le_of_ble_eq_true rfl) (kc_X11_eight hG hS (hS.rk (c := 9) (k := 2) t_x0 rfl (by omega)) ok.1) ?_
  have ok := ok.2
  exact c_lreturn rfl dX11_hash_57 (hR _ _ hS hM hx)
def KF_X11_hash_21 (N g H T : Nat)  (S : cS) : Int64 × cS := ((0 : Int64), S)
def KO_X11_hash_21 (N g H T : Nat)  (S : cS) : Prop := True
set_option maxRecDepth 100000 in
set_option maxHeartbeats 4000000 in
theorem kb_X11_hash_21 {G : zG} {o : cO} {g H T N : Nat} {S : cS} {S0 : cS} {Q : Option Value → cS → Prop} {X : Int64 × cS → Prop} (hG : zOK G) (hR : ∀ v S', St 1 g H T S' → Mono S0 S' → X (v, S') → Q (some (.long v)) S') (hS : St 1 g H T S) (hM : Mono S0 S) (ok : KO_X11_hash_21 N g H T S) (hx : X (KF_X11_hash_21 N g H T S)) : cX G o dX11_hash mX11_hash 21 [none, none, none] [] S Q := by
  unfold KO_X11_hash_21 at ok
  unfold KF_X11_hash_21 at hx
  refine c_lconst (v := 0) dX11_hash_21 rfl ?_
  exact c_lreturn rfl dX11_hash_22 (hR _ _ hS hM hx)
def KF_X11_hash_0 (N g H T : Nat) (x0 : Nat) (x1 : Int32) (x2 : Int32) (S : cS) : Int64 × cS := (if x1 < 0 then (KF_X11_hash_21 N g H T S) else (if (cI S 3 x0) < x1 then (KF_X11_hash_21 N g H T S) else (if x2 < 0 then (KF_X11_hash_21 N g H T S) else (if x2 ≤ (nI 3) then (KF_X11_hash_44 N g H T x0 x2 (k_X2_digest N g H T S (g + 3) (some (g + 1)) (nI 0) x1 (some (g + 2)) (nI 0))) else (KF_X11_hash_21 N g H T S)))))
def KO_X11_hash_0 (N g H T : Nat) (x0 : Nat) (x1 : Int32) (x2 : Int32) (S : cS) : Prop := ((x1 < 0 → KO_X11_hash_21 N g H T S) ∧ (¬ x1 < 0 → (((cI S 3 x0) < x1 → KO_X11_hash_21 N g H T S) ∧ (¬ (cI S 3 x0) < x1 → ((x2 < 0 → KO_X11_hash_21 N g H T S) ∧ (¬ x2 < 0 → ((x2 ≤ (nI 3) → (p_X2_digest N g H T S (g + 3) (some (g + 1)) (nI 0) x1 (some (g + 2)) (nI 0)) ∧ KO_X11_hash_44 N g H T x0 x2 (k_X2_digest N g H T S (g + 3) (some (g + 1)) (nI 0) x1 (some (g + 2)) (nI 0))) ∧ (¬ x2 ≤ (nI 3) → KO_X11_hash_21 N g H T S))))))))
set_option maxRecDepth 100000 in
set_option maxHeartbeats 4000000 in
theorem kb_X11_hash_0 {G : zG} {o : cO} {g H T N : Nat} {S : cS} {S0 : cS} {Q : Option Value → cS → Prop} {X : Int64 × cS → Prop} (hG : zOK G) (hR : ∀ v S', St 1 g H T S' → Mono S0 S' → X (v, S') → Q (some (.long v)) S') {x0 : Nat} {x1 : Int32} {x2 : Int32} (hS : St 1 g H T S) (hM : Mono S0 S) (t_x0 : isO g H 9 x0) (ok : KO_X11_hash_0 N g H T x0 x1 x2 S) (hx : X (KF_X11_hash_0 N g H T x0 x1 x2 S)) : cX G o dX11_hash mX11_hash 0 [some (va_rf (some x0)), some (.int x1), some (.int x2)] [] S Q := by
  unfold KO_X11_hash_0 at ok
  unfold KF_X11_hash_0 at hx
  refine c_iload_n dX11_hash_0 rfl rfl ?_
  refine c_if_lt (tgt := 21) dX11_hash_1 (by decide) (fun c_1 => ?_) (fun c_1 => ?_)
  · have ok := ok.1 c_1
    have hx := xif_p c_1 hx
    exact cX.cutz (kb_X11_hash_21 hG hR hS hM  ok hx) trivial
  · have ok := ok.2 c_1
    have hx := xif_n c_1 hx
    refine c_iload_n dX11_hash_4 rfl rfl ?_
    refine c_aload_nQ dX11_hash_5 rfl rfl ?_
    refine c_getI (C := RX11) (T := TX11) (N := 4) (ci := 9) (k := 3) ⟨rfl, inT11, by decide, fX11_26⟩ (by decide) (by decide) (by decide) dX11_hash_6 (hS.k t_x0) ?_
    refine c_icmp_gt (tgt := 21) dX11_hash_9 (by decide) (fun c_9 => ?_) (fun c_9 => ?_)
    · have ok := ok.1 c_9
      have hx := xif_p c_9 hx
      exact cX.cutz (kb_X11_hash_21 hG hR hS hM  ok hx) trivial
    · have ok := ok.2 c_9
      have hx := xif_n c_9 hx
      refine c_iload_n dX11_hash_12 rfl rfl ?_
      refine c_if_lt (tgt := 21) dX11_hash_13 (by decide) (fun c_13 => ?_) (fun c_13 => ?_)
      · have ok := ok.1 c_13
        have hx := xif_p c_13 hx
        exact cX.cutz (kb_X11_hash_21 hG hR hS hM  ok hx) trivial
      · have ok := ok.2 c_13
        have hx := xif_n c_13 hx
        refine c_iload_n dX11_hash_16 rfl rfl ?_
        refine c_iconst (v := nI 3) dX11_hash_17 (by decide) ?_
        refine c_icmp_le (tgt := 23) dX11_hash_18 (by decide) (fun c_18 => ?_) (fun c_18 => ?_)
        · have ok := ok.1 c_18
          have hx := xif_p c_18 hx
          refine c_aload_nQ dX11_hash_23 rfl rfl ?_
          refine c_getS (C := RX11) (T := TX11) (N := 4) (ci := 9) (k := 0) ⟨rfl, inT11, by decide, fX11_22⟩ (by decide) (by decide) (by decide) dX11_hash_24 (hS.k t_x0) (hS.r (c := 9) t_x0 rfl (by omega)) ?_
          refine c_getS (C := RX10) (T := TX10) (N := 12) (ci := 8) (k := 5) ⟨rfl, inT10, by decide, fX11_103⟩ (by decide) (by decide) (by decide) dX11_hash_27 (hS.k (o90 t_x0)) (hS.r (c := 8) (o90 t_x0) rfl (by omega)) ?_
          refine c_aload_nQ dX11_hash_30 rfl rfl ?_
          refine c_getS (C := RX11) (T := TX11) (N := 4) (ci := 9) (k := 1) ⟨rfl, inT11, by decide, fX11_9⟩ (by decide) (by decide) (by decide) dX11_hash_31 (hS.k t_x0) (hS.r (c := 9) t_x0 rfl (by omega)) ?_
          refine c_iconst (v := nI 0) dX11_hash_34 (by decide) ?_
          refine c_iload_n dX11_hash_35 rfl rfl ?_
          refine c_aload_nQ dX11_hash_36 rfl rfl ?_
          refine c_getS (C := RX11) (T := TX11) (N := 4) (ci := 9) (k := 2) ⟨rfl, inT11, by decide, fX11_13⟩ (by decide) (by decide) (by decide) dX11_hash_37 (hS.k t_x0) (hS.r (c := 9) t_x0 rfl (by omega)) ?_
          refine c_iconst (v := nI 0) dX11_hash_40 (by decide) ?_
          refine c_V5vK (ci := 2) (rr := (RX2, TX2, 6)) (y' := mX2_digest) dX11_hash_41 lX11_142 kX2_digest ⟨by decide, by decide⟩ rfl rfl (by decide) (hS.k (o85 (o90 t_x0))) (Nat.le_of_ble_eq_true rfl) (kc_X2_digest hG hS (o85 (o90 t_x0)) (hS.rk (c := 9) (k := 1) t_x0 rfl (by omega)) (hS.rk (c := 9) (k := 2) t_x0 rfl (by omega)) ok.1) (fun ⟨hS, hm_41⟩ => ?_)
          have hM := hM.trans hm_41
          have ok := ok.2
          exact cX.cutz (kb_X11_hash_44 hG hR hS hM t_x0 ok hx) ⟨rfl, rfl, trivial⟩
        · have ok := ok.2 c_18
          have hx := xif_n c_18 hx
          exact cX.cutz (kb_X11_hash_21 hG hR hS hM  ok hx) trivial
def k_X11_hash (N g H T : Nat) (S : cS) (a0 : Nat) (x1 : Int32) (x2 : Int32) : Int64 × cS := KF_X11_hash_0 N g H T a0 x1 x2 S
def p_X11_hash (N g H T : Nat) (S : cS) (a0 : Nat) (x1 : Int32) (x2 : Int32) : Prop := KO_X11_hash_0 N g H T a0 x1 x2 S
set_option maxRecDepth 100000 in
set_option maxHeartbeats 4000000 in
theorem kc_X11_hash {G : zG} {o : cO} {g H T N : Nat} {S : cS} (hG : zOK G) {a0 : Nat} {x1 : Int32} {x2 : Int32} (hS : St 1 g H T S) (t_x0 : isO g H 9 a0) (ok : p_X11_hash N g H T S a0 x1 x2) : cCl G o dX11_hash mX11_hash [.ref a0, .int x1, .int x2] S (fun v S' => (v = (k_X11_hash N g H T S a0 x1 x2).1 ∧ S' = (k_X11_hash N g H T S a0 x1 x2).2) ∧ St 1 g H T S' ∧ Mono S S') := by
  refine cC.ofX rfl (by exact Nat.le_of_ble_eq_true rfl) ?_
  show cX G o dX11_hash mX11_hash 0 [some (va_rf (some a0)), some (.int x1), some (.int x2)] [] S _
  exact cX.cutz (kb_X11_hash_0 (X := fun F => F = k_X11_hash N g H T S a0 x1 x2) hG (fun v S' h1 h2 h => ⟨v, rfl, ⟨by rw [← h], by rw [← h]⟩, h1, h2⟩) hS Mono.rfl' t_x0 ok rfl) ⟨rfl, rfl, rfl, trivial⟩
/-! X11_submit -/
def KF_X11_submit_191 (N g H T : Nat)  (S : cS) : Int32 × cS := ((nI 1), S)
def KO_X11_submit_191 (N g H T : Nat)  (S : cS) : Prop := True
set_option maxRecDepth 100000 in
set_option maxHeartbeats 4000000 in
theorem kb_X11_submit_191 {G : zG} {o : cO} {g H T N : Nat} {S : cS} {S0 : cS} {Q : Option Value → cS → Prop} {X : Int32 × cS → Prop} (hG : zOK G) (hR : ∀ v S', St 1 g H T S' → Mono S0 S' → X (v, S') → Q (some (.int v)) S') (hS : St 1 g H T S) (hM : Mono S0 S) (ok : KO_X11_submit_191 N g H T S) (hx : X (KF_X11_submit_191 N g H T S)) : cX G o dX11_submit mX11_submit 191 [none, none, none, none, none, none, none, none, none, none, none] [] S Q := by
  unfold KO_X11_submit_191 at ok
  unfold KF_X11_submit_191 at hx
  refine c_iconst (v := nI 1) dX11_submit_191 (by decide) ?_
  exact c_ireturn rfl rfl dX11_submit_192 (hR _ _ hS hM hx)
def KF_X11_submit_179 (N g H T : Nat) (x0 : Nat) (x10 : Option Nat) (S : cS) : Int32 × cS := (KF_X11_submit_191 N g H T (k_X9_drop N g H T S (g + 11) x10))
def KO_X11_submit_179 (N g H T : Nat) (x0 : Nat) (x10 : Option Nat) (S : cS) : Prop := (p_X9_drop N g H T S (g + 11) x10) ∧ KO_X11_submit_191 N g H T (k_X9_drop N g H T S (g + 11) x10)
set_option maxRecDepth 100000 in
set_option maxHeartbeats 4000000 in
theorem kb_X11_submit_179 {G : zG} {o : cO} {g H T N : Nat} {S : cS} {S0 : cS} {Q : Option Value → cS → Prop} {X : Int32 × cS → Prop} (hG : zOK G) (hR : ∀ v S', St 1 g H T S' → Mono S0 S' → X (v, S') → Q (some (.int v)) S') {x0 : Nat} {x10 : Option Nat} (hS : St 1 g H T S) (hM : Mono S0 S) (t_x0 : isO g H 9 x0) (t_x10 : tK S 5 x10) (ok : KO_X11_submit_179 N g H T x0 x10 S) (hx : X (KF_X11_submit_179 N g H T x0 x10 S)) : cX G o dX11_submit mX11_submit 179 [some (va_rf (some x0)), none, none, none, none, none, none, none, none, none, some (va_rf x10)] [] S Q := by
  unfold KO_X11_submit_179 at ok
  unfold KF_X11_submit_179 at hx
  refine c_aload_nQ dX11_submit_179 rfl rfl ?_
  refine c_getS (C := RX11) (T := TX11) (N := 4) (ci := 9) (k := 0) ⟨rfl, inT11, by decide, fX11_22⟩ (by decide) (by decide) (by decide) dX11_submit_180 (hS.k t_x0) (hS.r (c := 9) t_x0 rfl (by omega)) ?_
  refine c_getS (C := RX10) (T := TX10) (N := 12) (ci := 8) (k := 6) ⟨rfl, inT10, by decide, fX11_38⟩ (by decide) (by decide) (by decide) dX11_submit_183 (hS.k (o90 t_x0)) (hS.r (c := 8) (o90 t_x0) rfl (by omega)) ?_
  refine c_aloadQ dX11_submit_186 rfl ?_
  refine c_V1vK (ci := 7) (rr := (RX9, TX9, 13)) (y' := mX9_drop) dX11_submit_188 lX11_80 kX9_drop ⟨by decide, by decide⟩ rfl rfl (by decide) (hS.k (o86 (o90 t_x0))) (Nat.le_of_ble_eq_true rfl) (kc_X9_drop hG hS (o86 (o90 t_x0)) t_x10 ok.1) (fun ⟨hS, hm_188⟩ => ?_)
  have hM := hM.trans hm_188
  have ok := ok.2
  exact cX.cutz (kb_X11_submit_191 hG hR hS hM  ok hx) trivial
def KF_X11_submit_167 (N g H T : Nat) (x0 : Nat) (x1 : Int32) (x10 : Option Nat) (S : cS) : Int32 × cS := (KF_X11_submit_179 N g H T x0 x10 (k_X10_spread N g H T S (g + 8) x1 x10 x1 x1))
def KO_X11_submit_167 (N g H T : Nat) (x0 : Nat) (x1 : Int32) (x10 : Option Nat) (S : cS) : Prop := (p_X10_spread N g H T S (g + 8) x1 x10 x1 x1) ∧ KO_X11_submit_179 N g H T x0 x10 (k_X10_spread N g H T S (g + 8) x1 x10 x1 x1)
set_option maxRecDepth 100000 in
set_option maxHeartbeats 4000000 in
theorem kb_X11_submit_167 {G : zG} {o : cO} {g H T N : Nat} {S : cS} {S0 : cS} {Q : Option Value → cS → Prop} {X : Int32 × cS → Prop} (hG : zOK G) (hR : ∀ v S', St 1 g H T S' → Mono S0 S' → X (v, S') → Q (some (.int v)) S') {x0 : Nat} {x1 : Int32} {x10 : Option Nat} (hS : St 1 g H T S) (hM : Mono S0 S) (t_x0 : isO g H 9 x0) (t_x10 : tK S 5 x10) (ok : KO_X11_submit_167 N g H T x0 x1 x10 S) (hx : X (KF_X11_submit_167 N g H T x0 x1 x10 S)) : cX G o dX11_submit mX11_submit 167 [some (va_rf (some x0)), some (.int x1), none, none, none, none, none, none, none, none, some (va_rf x10)] [] S Q := by
  unfold KO_X11_submit_167 at ok
  unfold KF_X11_submit_167 at hx
  refine c_aload_nQ dX11_submit_167 rfl rfl ?_
  refine c_getS (C := RX11) (T := TX11) (N := 4) (ci := 9) (k := 0) ⟨rfl, inT11, by decide, fX11_22⟩ (by decide) (by decide) (by decide) dX11_submit_168 (hS.k t_x0) (hS.r (c := 9) t_x0 rfl (by omega)) ?_
  refine c_iload_n dX11_submit_171 rfl rfl ?_
  refine c_aloadQ dX11_submit_172 rfl ?_
  refine c_iload_n dX11_submit_174 rfl rfl ?_
  refine c_iload_n dX11_submit_175 rfl rfl ?_
  refine c_V4vK (ci := 8) (rr := (RX10, TX10, 12)) (y' := mX10_spread) dX11_submit_176 lX11_176 kX10_spread ⟨by decide, by decide⟩ rfl rfl (by decide) (hS.k (o90 t_x0)) (Nat.le_of_ble_eq_true rfl) (kc_X10_spread hG hS (o90 t_x0) t_x10 ok.1) (fun ⟨hS, hm_176⟩ => ?_)
  have hM := hM.trans hm_176
  have ok := ok.2
  exact cX.cutz (kb_X11_submit_179 hG hR hS hM t_x0 (hm_176.tK t_x10 (by decide)) ok hx) ⟨rfl, rfl, trivial⟩
def KF_X11_submit_146 (N g H T : Nat) (x0 : Nat) (x1 : Int32) (x8 : Int64) (s0 : Option Nat) (S : cS) : Int32 × cS := (KF_X11_submit_167 N g H T x0 x1 s0 (k_X0_putCode N g H T (csA S ((za s0) + 2) (nI 0).toNatClampNeg ((nI 0).toInt8.toInt32)) x8 (some ((za s0) + 2)) (nI 1)))
def KO_X11_submit_146 (N g H T : Nat) (x0 : Nat) (x1 : Int32) (x8 : Int64) (s0 : Option Nat) (S : cS) : Prop := (¬ s0 = none) ∧ (vp_in (nI 0) (cL S ((za s0) + 2))) ∧ (p_X0_putCode N g H T (csA S ((za s0) + 2) (nI 0).toNatClampNeg ((nI 0).toInt8.toInt32)) x8 (some ((za s0) + 2)) (nI 1)) ∧ KO_X11_submit_167 N g H T x0 x1 s0 (k_X0_putCode N g H T (csA S ((za s0) + 2) (nI 0).toNatClampNeg ((nI 0).toInt8.toInt32)) x8 (some ((za s0) + 2)) (nI 1))
set_option maxRecDepth 100000 in
set_option maxHeartbeats 4000000 in
theorem kb_X11_submit_146 {G : zG} {o : cO} {g H T N : Nat} {S : cS} {S0 : cS} {Q : Option Value → cS → Prop} {X : Int32 × cS → Prop} (hG : zOK G) (hR : ∀ v S', St 1 g H T S' → Mono S0 S' → X (v, S') → Q (some (.int v)) S') {x0 : Nat} {x1 : Int32} {x8 : Int64} {s0 : Option Nat} (hS : St 1 g H T S) (hM : Mono S0 S) (t_x0 : isO g H 9 x0) (t_s0 : tK S 5 s0) (ok : KO_X11_submit_146 N g H T x0 x1 x8 s0 S) (hx : X (KF_X11_submit_146 N g H T x0 x1 x8 s0 S)) : cX G o dX11_submit mX11_submit 146 [some (va_rf (some x0)), some (.int x1), none, none, none, none, none, none, some (.long x8), none, none] [va_rf s0] S Q := by
  unfold KO_X11_submit_146 at ok
  unfold KF_X11_submit_146 at hx
  refine c_astore_10Q dX11_submit_146 (by decide) rfl ?_
  refine c_aloadQ dX11_submit_148 rfl ?_
  have nn_150 := ok.1
  have p_150 := hS.m0k t_s0 ok.1
  refine c_getS (C := RX5) (T := TX5) (N := 7) (ci := 4) (k := 0) ⟨rfl, inT5, by decide, fX11_48⟩ (by decide) (by decide) (by decide) dX11_submit_150 (tK.cis t_s0 ok.1) (hS.m0 t_s0 ok.1) ?_
  have ok := ok.2
  refine c_iconst (v := nI 0) dX11_submit_153 (by decide) ?_
  refine c_iconst (v := nI 0) dX11_submit_154 (by decide) ?_
  refine c_bast dX11_submit_155 ⟨(tK.cis p_150 (Option.some_ne_none _)), ok.1⟩ ?_
  have hS := hS.Ab ((za s0) + 2) (nI 0).toNatClampNeg (nI 0)
  have hM := hM.A ((za s0) + 2) (nI 0).toNatClampNeg ((nI 0).toInt8.toInt32)
  have ok := ok.2
  refine c_lload dX11_submit_156 rfl ?_
  refine c_aloadQ dX11_submit_158 rfl ?_
  have p_160 := hS.m0k (tK_A t_s0) nn_150
  refine c_getS (C := RX5) (T := TX5) (N := 7) (ci := 4) (k := 0) ⟨rfl, inT5, by decide, fX11_48⟩ (by decide) (by decide) (by decide) dX11_submit_160 (tK.cis (tK_A t_s0) nn_150) (hS.m0 (tK_A t_s0) nn_150) ?_
  refine c_iconst (v := nI 1) dX11_submit_163 (by decide) ?_
  refine c_S3vK (y' := mX0_putCode) dX11_submit_164 lX11_172 kX0_putCode ⟨by decide, by decide⟩ (Nat.le_of_ble_eq_true rfl) (kc_X0_putCode hG hS p_160 ok.1) (fun ⟨hS, hm_164⟩ => ?_)
  have hM := hM.trans hm_164
  have ok := ok.2
  exact cX.cutz (kb_X11_submit_167 hG hR hS hM t_x0 (hm_164.tK (tK_A t_s0) (by decide)) ok hx) ⟨rfl, rfl, rfl, trivial⟩
def KF_X11_submit_129 (N g H T : Nat) (x0 : Nat) (x1 : Int32) (x8 : Int64) (s0 : Int32) (S : cS) : Int32 × cS := (if s0 = 0 then ((nI 0), S) else (KF_X11_submit_146 N g H T x0 x1 x8 ((k_X9_fresh N g H T S (g + 11) (nI 8)).1) (k_X9_fresh N g H T S (g + 11) (nI 8)).2))
def KO_X11_submit_129 (N g H T : Nat) (x0 : Nat) (x1 : Int32) (x8 : Int64) (s0 : Int32) (S : cS) : Prop := ((s0 = 0 → True) ∧ (¬ s0 = 0 → (p_X9_fresh N g H T S (g + 11) (nI 8)) ∧ KO_X11_submit_146 N g H T x0 x1 x8 ((k_X9_fresh N g H T S (g + 11) (nI 8)).1) (k_X9_fresh N g H T S (g + 11) (nI 8)).2))
set_option maxRecDepth 100000 in
set_option maxHeartbeats 4000000 in
theorem kb_X11_submit_129 {G : zG} {o : cO} {g H T N : Nat} {S : cS} {S0 : cS} {Q : Option Value → cS → Prop} {X : Int32 × cS → Prop} (hG : zOK G) (hR : ∀ v S', St 1 g H T S' → Mono S0 S' → X (v, S') → Q (some (.int v)) S') {x0 : Nat} {x1 : Int32} {x8 : Int64} {s0 : Int32} (hS : St 1 g H T S) (hM : Mono S0 S) (t_x0 : isO g H 9 x0) (ok : KO_X11_submit_129 N g H T x0 x1 x8 s0 S) (hx : X (KF_X11_submit_129 N g H T x0 x1 x8 s0 S)) : cX G o dX11_submit mX11_submit 129 [some (va_rf (some x0)), some (.int x1), none, none, none, none, none, none, some (.long x8), none, none] [.int s0] S Q := by
  unfold KO_X11_submit_129 at ok
  unfold KF_X11_submit_129 at hx
  refine c_if_ne (tgt := 134) dX11_submit_129 (by decide) (fun c_129 => ?_) (fun c_129 => ?_)
  · have ok := ok.2 c_129
    have hx := xif_n c_129 hx
    refine c_aload_nQ dX11_submit_134 rfl rfl ?_
    refine c_getS (C := RX11) (T := TX11) (N := 4) (ci := 9) (k := 0) ⟨rfl, inT11, by decide, fX11_22⟩ (by decide) (by decide) (by decide) dX11_submit_135 (hS.k t_x0) (hS.r (c := 9) t_x0 rfl (by omega)) ?_
    refine c_getS (C := RX10) (T := TX10) (N := 12) (ci := 8) (k := 6) ⟨rfl, inT10, by decide, fX11_38⟩ (by decide) (by decide) (by decide) dX11_submit_138 (hS.k (o90 t_x0)) (hS.r (c := 8) (o90 t_x0) rfl (by omega)) ?_
    refine c_bipush (v := nI 8) dX11_submit_141 (by decide) ?_
    refine c_V1qK (ci := 7) (rr := (RX9, TX9, 13)) (y' := mX9_fresh) dX11_submit_143 lX11_42 kX9_fresh ⟨by decide, by decide⟩ rfl rfl (by decide) (hS.k (o86 (o90 t_x0))) (Nat.le_of_ble_eq_true rfl) (kc_X9_fresh hG hS (o86 (o90 t_x0)) ok.1) (fun ⟨hS, hm_143, tv_143⟩ => ?_)
    have hM := hM.trans hm_143
    have ok := ok.2
    exact cX.cutz (kb_X11_submit_146 hG hR hS hM t_x0 tv_143 ok hx) ⟨rfl, rfl, rfl, trivial⟩
  · have ok := ok.1 c_129
    have hx := xif_p c_129 hx
    refine c_iconst (v := nI 0) dX11_submit_132 (by decide) ?_
    exact c_ireturn rfl rfl dX11_submit_133 (hR _ _ hS hM hx)
def KF_X11_submit_106 (N g H T : Nat) (x0 : Nat) (x1 : Int32) (x5 : Int32) (x6 : Int32) (x7 : Option Nat) (s0 : Int64) (S : cS) : Int32 × cS := (KF_X11_submit_129 N g H T x0 x1 ((s0 ||| ((Int32.toInt64 x5) <<< (Int32.toInt64 (nI 8) &&& 63))) ||| (Int32.toInt64 x6)) ((k_X8_addPayment N g H T S ((za x7) + 14) ((s0 ||| ((Int32.toInt64 x5) <<< (Int32.toInt64 (nI 8) &&& 63))) ||| (Int32.toInt64 x6))).1) (k_X8_addPayment N g H T S ((za x7) + 14) ((s0 ||| ((Int32.toInt64 x5) <<< (Int32.toInt64 (nI 8) &&& 63))) ||| (Int32.toInt64 x6))).2)
def KO_X11_submit_106 (N g H T : Nat) (x0 : Nat) (x1 : Int32) (x5 : Int32) (x6 : Int32) (x7 : Option Nat) (s0 : Int64) (S : cS) : Prop := (¬ x7 = none) ∧ (p_X8_addPayment N g H T S ((za x7) + 14) ((s0 ||| ((Int32.toInt64 x5) <<< (Int32.toInt64 (nI 8) &&& 63))) ||| (Int32.toInt64 x6))) ∧ KO_X11_submit_129 N g H T x0 x1 ((s0 ||| ((Int32.toInt64 x5) <<< (Int32.toInt64 (nI 8) &&& 63))) ||| (Int32.toInt64 x6)) ((k_X8_addPayment N g H T S ((za x7) + 14) ((s0 ||| ((Int32.toInt64 x5) <<< (Int32.toInt64 (nI 8) &&& 63))) ||| (Int32.toInt64 x6))).1) (k_X8_addPayment N g H T S ((za x7) + 14) ((s0 ||| ((Int32.toInt64 x5) <<< (Int32.toInt64 (nI 8) &&& 63))) ||| (Int32.toInt64 x6))).2
set_option maxRecDepth 100000 in
set_option maxHeartbeats 4000000 in
theorem kb_X11_submit_106 {G : zG} {o : cO} {g H T N : Nat} {S : cS} {S0 : cS} {Q : Option Value → cS → Prop} {X : Int32 × cS → Prop} (hG : zOK G) (hR : ∀ v S', St 1 g H T S' → Mono S0 S' → X (v, S') → Q (some (.int v)) S') {x0 : Nat} {x1 : Int32} {x5 : Int32} {x6 : Int32} {x7 : Option Nat} {s0 : Int64} (hS : St 1 g H T S) (hM : Mono S0 S) (t_x0 : isO g H 9 x0) (t_x7 : tN g H x7) (ok : KO_X11_submit_106 N g H T x0 x1 x5 x6 x7 s0 S) (hx : X (KF_X11_submit_106 N g H T x0 x1 x5 x6 x7 s0 S)) : cX G o dX11_submit mX11_submit 106 [some (va_rf (some x0)), some (.int x1), none, none, none, some (.int x5), some (.int x6), some (va_rf x7), none, none, none] [.long s0] S Q := by
  unfold KO_X11_submit_106 at ok
  unfold KF_X11_submit_106 at hx
  refine c_iload dX11_submit_106 rfl ?_
  refine c_i2l dX11_submit_108 ?_
  refine c_bipush (v := nI 8) dX11_submit_109 (by decide) ?_
  refine c_lshl dX11_submit_111 ?_
  refine c_lor dX11_submit_112 ?_
  refine c_iload dX11_submit_113 rfl ?_
  refine c_i2l dX11_submit_115 ?_
  refine c_lor dX11_submit_116 ?_
  refine c_lstore_8 dX11_submit_117 (by decide) (by simp [zok, zg, zcat_rf]) ?_
  refine c_aloadQ dX11_submit_119 rfl ?_
  have nn_121 := ok.1
  refine c_getS (C := RX6) (T := TX6) (N := 19) (ci := 5) (k := 3) ⟨rfl, inT6, by decide, fX11_162⟩ (by decide) (by decide) (by decide) dX11_submit_121 (hS.kN t_x7 ok.1) (hS.r (c := 5) (tN.o t_x7 ok.1) rfl (by omega)) ?_
  have ok := ok.2
  refine c_lload dX11_submit_124 rfl ?_
  refine c_V1iK (ci := 6) (rr := (RX8, TX8, 14)) (y' := mX8_addPayment) dX11_submit_126 lX11_166 kX8_addPayment ⟨by decide, by decide⟩ rfl rfl (by decide) (hS.k (o53 (tN.o t_x7 nn_121))) (Nat.le_of_ble_eq_true rfl) (kc_X8_addPayment hG hS (o53 (tN.o t_x7 nn_121)) ok.1) (fun ⟨hS, hm_126⟩ => ?_)
  have hM := hM.trans hm_126
  have ok := ok.2
  exact cX.cutz (kb_X11_submit_129 hG hR hS hM t_x0 ok hx) ⟨rfl, rfl, rfl, trivial⟩
def KF_X11_submit_86 (N g H T : Nat)  (S : cS) : Int32 × cS := ((nI 0), S)
def KO_X11_submit_86 (N g H T : Nat)  (S : cS) : Prop := True
set_option maxRecDepth 100000 in
set_option maxHeartbeats 4000000 in
theorem kb_X11_submit_86 {G : zG} {o : cO} {g H T N : Nat} {S : cS} {S0 : cS} {Q : Option Value → cS → Prop} {X : Int32 × cS → Prop} (hG : zOK G) (hR : ∀ v S', St 1 g H T S' → Mono S0 S' → X (v, S') → Q (some (.int v)) S') (hS : St 1 g H T S) (hM : Mono S0 S) (ok : KO_X11_submit_86 N g H T S) (hx : X (KF_X11_submit_86 N g H T S)) : cX G o dX11_submit mX11_submit 86 [none, none, none, none, none, none, none, none, none, none, none] [] S Q := by
  unfold KO_X11_submit_86 at ok
  unfold KF_X11_submit_86 at hx
  refine c_iconst (v := nI 0) dX11_submit_86 (by decide) ?_
  exact c_ireturn rfl rfl dX11_submit_87 (hR _ _ hS hM hx)
def KF_X11_submit_45 (N g H T : Nat)  (S : cS) : Int32 × cS := ((nI 0), S)
def KO_X11_submit_45 (N g H T : Nat)  (S : cS) : Prop := True
set_option maxRecDepth 100000 in
set_option maxHeartbeats 4000000 in
theorem kb_X11_submit_45 {G : zG} {o : cO} {g H T N : Nat} {S : cS} {S0 : cS} {Q : Option Value → cS → Prop} {X : Int32 × cS → Prop} (hG : zOK G) (hR : ∀ v S', St 1 g H T S' → Mono S0 S' → X (v, S') → Q (some (.int v)) S') (hS : St 1 g H T S) (hM : Mono S0 S) (ok : KO_X11_submit_45 N g H T S) (hx : X (KF_X11_submit_45 N g H T S)) : cX G o dX11_submit mX11_submit 45 [none, none, none, none, none, none, none, none, none, none, none] [] S Q := by
  unfold KO_X11_submit_45 at ok
  unfold KF_X11_submit_45 at hx
  refine c_iconst (v := nI 0) dX11_submit_45 (by decide) ?_
  exact c_ireturn rfl rfl dX11_submit_46 (hR _ _ hS hM hx)
def KF_X11_submit_0 (N g H T : Nat) (x0 : Nat) (x1 : Int32) (x2 : Int32) (x3 : Int32) (x4 : Int32) (x5 : Int32) (x6 : Int32) (S : cS) : Int32 × cS := (if (k_X11_honestNode N g H T S x0 x1) = none then (KF_X11_submit_45 N g H T S) else (if (cI S 8 (za (k_X11_honestNode N g H T S x0 x1))) = 0 then (KF_X11_submit_45 N g H T S) else (if x2 < 0 then (KF_X11_submit_45 N g H T S) else (if (nI 16) ≤ x2 then (KF_X11_submit_45 N g H T S) else (if x3 < 0 then (KF_X11_submit_45 N g H T S) else (if (nI 16) ≤ x3 then (KF_X11_submit_45 N g H T S) else (if x2 = x3 then (KF_X11_submit_45 N g H T S) else (if x4 < (nI 1) then (KF_X11_submit_86 N g H T S) else (if (nI 1000) < x4 then (KF_X11_submit_86 N g H T S) else (if x5 < 0 then (KF_X11_submit_86 N g H T S) else (if (65535 : Int32) < x5 then (KF_X11_submit_86 N g H T S) else (if x6 < (nI 1) then (KF_X11_submit_86 N g H T S) else (if x6 ≤ (nI 9) then (KF_X11_submit_106 N g H T x0 x1 x5 x6 (k_X11_honestNode N g H T S x0 x1) ((((Int32.toInt64 x2) <<< (Int32.toInt64 (nI 48) &&& 63)) ||| ((Int32.toInt64 x3) <<< (Int32.toInt64 (nI 40) &&& 63))) ||| ((Int32.toInt64 x4) <<< (Int32.toInt64 (nI 24) &&& 63))) S) else (KF_X11_submit_86 N g H T S))))))))))))))
def KO_X11_submit_0 (N g H T : Nat) (x0 : Nat) (x1 : Int32) (x2 : Int32) (x3 : Int32) (x4 : Int32) (x5 : Int32) (x6 : Int32) (S : cS) : Prop := (p_X11_honestNode N g H T S x0 x1) ∧ (((k_X11_honestNode N g H T S x0 x1) = none → KO_X11_submit_45 N g H T S) ∧ (¬ (k_X11_honestNode N g H T S x0 x1) = none → (((cI S 8 (za (k_X11_honestNode N g H T S x0 x1))) = 0 → KO_X11_submit_45 N g H T S) ∧ (¬ (cI S 8 (za (k_X11_honestNode N g H T S x0 x1))) = 0 → ((x2 < 0 → KO_X11_submit_45 N g H T S) ∧ (¬ x2 < 0 → (((nI 16) ≤ x2 → KO_X11_submit_45 N g H T S) ∧ (¬ (nI 16) ≤ x2 → ((x3 < 0 → KO_X11_submit_45 N g H T S) ∧ (¬ x3 < 0 → (((nI 16) ≤ x3 → KO_X11_submit_45 N g H T S) ∧ (¬ (nI 16) ≤ x3 → ((x2 = x3 → KO_X11_submit_45 N g H T S) ∧ (¬ x2 = x3 → ((x4 < (nI 1) → KO_X11_submit_86 N g H T S) ∧ (¬ x4 < (nI 1) → (((nI 1000) < x4 → KO_X11_submit_86 N g H T S) ∧ (¬ (nI 1000) < x4 → ((x5 < 0 → KO_X11_submit_86 N g H T S) ∧ (¬ x5 < 0 → (((65535 : Int32) < x5 → KO_X11_submit_86 N g H T S) ∧ (¬ (65535 : Int32) < x5 → ((x6 < (nI 1) → KO_X11_submit_86 N g H T S) ∧ (¬ x6 < (nI 1) → ((x6 ≤ (nI 9) → KO_X11_submit_106 N g H T x0 x1 x5 x6 (k_X11_honestNode N g H T S x0 x1) ((((Int32.toInt64 x2) <<< (Int32.toInt64 (nI 48) &&& 63)) ||| ((Int32.toInt64 x3) <<< (Int32.toInt64 (nI 40) &&& 63))) ||| ((Int32.toInt64 x4) <<< (Int32.toInt64 (nI 24) &&& 63))) S) ∧ (¬ x6 ≤ (nI 9) → KO_X11_submit_86 N g H T S))))))))))))))))))))))))))
set_option maxRecDepth 100000 in
set_option maxHeartbeats 4000000 in
theorem kb_X11_submit_0 {G : zG} {o : cO} {g H T N : Nat} {S : cS} {S0 : cS} {Q : Option Value → cS → Prop} {X : Int32 × cS → Prop} (hG : zOK G) (hR : ∀ v S', St 1 g H T S' → Mono S0 S' → X (v, S') → Q (some (.int v)) S') {x0 : Nat} {x1 : Int32} {x2 : Int32} {x3 : Int32} {x4 : Int32} {x5 : Int32} {x6 : Int32} (hS : St 1 g H T S) (hM : Mono S0 S) (t_x0 : isO g H 9 x0) (ok : KO_X11_submit_0 N g H T x0 x1 x2 x3 x4 x5 x6 S) (hx : X (KF_X11_submit_0 N g H T x0 x1 x2 x3 x4 x5 x6 S)) : cX G o dX11_submit mX11_submit 0 [some (va_rf (some x0)), some (.int x1), some (.int x2), some (.int x3), some (.int x4), some (.int x5), some (.int x6), none, none, none, none] [] S Q := by
  unfold KO_X11_submit_0 at ok
  unfold KF_X11_submit_0 at hx
  refine c_aload_nQ dX11_submit_0 rfl rfl ?_
  refine c_iload_n dX11_submit_1 rfl rfl ?_
  refine c_V1qK (ci := 9) (rr := (RX11, TX11, 4)) (y' := mX11_honestNode) dX11_submit_2 lX11_120 kX11_honestNode ⟨by decide, by decide⟩ rfl rfl (by decide) (hS.k t_x0) (Nat.le_of_ble_eq_true rfl) (kc_X11_honestNode hG hS t_x0 ok.1) (fun tv_2 => ?_)
  have ok := ok.2
  refine c_astore_7Q dX11_submit_5 (by decide) rfl ?_
  refine c_aloadQ dX11_submit_7 rfl ?_
  refine c_ifnullI (tgt := 45) dX11_submit_9 (by decide) (fun c_9 => ?_) (fun c_9 => ?_)
  · have ok := ok.1 c_9
    have hx := xif_p c_9 hx
    exact cX.cutz (kb_X11_submit_45 hG hR hS hM  ok hx) trivial
  · have ok := ok.2 c_9
    have hx := xif_n c_9 hx
    refine c_aloadQ dX11_submit_12 rfl ?_
    refine c_getI (C := RX6) (T := TX6) (N := 19) (ci := 5) (k := 8) ⟨rfl, inT6, by decide, fX11_157⟩ (by decide) (by decide) (by decide) dX11_submit_14 (hS.kN tv_2 c_9) ?_
    refine c_if_eq (tgt := 45) dX11_submit_17 (by decide) (fun c_17 => ?_) (fun c_17 => ?_)
    · have ok := ok.1 c_17
      have hx := xif_p c_17 hx
      exact cX.cutz (kb_X11_submit_45 hG hR hS hM  ok hx) trivial
    · have ok := ok.2 c_17
      have hx := xif_n c_17 hx
      refine c_iload_n dX11_submit_20 rfl rfl ?_
      refine c_if_lt (tgt := 45) dX11_submit_21 (by decide) (fun c_21 => ?_) (fun c_21 => ?_)
      · have ok := ok.1 c_21
        have hx := xif_p c_21 hx
        exact cX.cutz (kb_X11_submit_45 hG hR hS hM  ok hx) trivial
      · have ok := ok.2 c_21
        have hx := xif_n c_21 hx
        refine c_iload_n dX11_submit_24 rfl rfl ?_
        refine c_bipush (v := nI 16) dX11_submit_25 (by decide) ?_
        refine c_icmp_ge (tgt := 45) dX11_submit_27 (by decide) (fun c_27 => ?_) (fun c_27 => ?_)
        · have ok := ok.1 c_27
          have hx := xif_p c_27 hx
          exact cX.cutz (kb_X11_submit_45 hG hR hS hM  ok hx) trivial
        · have ok := ok.2 c_27
          have hx := xif_n c_27 hx
          refine c_iload_n dX11_submit_30 rfl rfl ?_
          refine c_if_lt (tgt := 45) dX11_submit_31 (by decide) (fun c_31 => ?_) (fun c_31 => ?_)
          · have ok := ok.1 c_31
            have hx := xif_p c_31 hx
            exact cX.cutz (kb_X11_submit_45 hG hR hS hM  ok hx) trivial
          · have ok := ok.2 c_31
            have hx := xif_n c_31 hx
            refine c_iload_n dX11_submit_34 rfl rfl ?_
            refine c_bipush (v := nI 16) dX11_submit_35 (by decide) ?_
            refine c_icmp_ge (tgt := 45) dX11_submit_37 (by decide) (fun c_37 => ?_) (fun c_37 => ?_)
            · have ok := ok.1 c_37
              have hx := xif_p c_37 hx
              exact cX.cutz (kb_X11_submit_45 hG hR hS hM  ok hx) trivial
            · have ok := ok.2 c_37
              have hx := xif_n c_37 hx
              refine c_iload_n dX11_submit_40 rfl rfl ?_
              refine c_iload_n dX11_submit_41 rfl rfl ?_
              refine c_icmp_ne (tgt := 47) dX11_submit_42 (by decide) (fun c_42 => ?_) (fun c_42 => ?_)
              · have ok := ok.2 c_42
                have hx := xif_n c_42 hx
                refine c_iload dX11_submit_47 rfl ?_
                refine c_iconst (v := nI 1) dX11_submit_49 (by decide) ?_
                refine c_icmp_lt (tgt := 86) dX11_submit_50 (by decide) (fun c_50 => ?_) (fun c_50 => ?_)
                · have ok := ok.1 c_50
                  have hx := xif_p c_50 hx
                  exact cX.cutz (kb_X11_submit_86 hG hR hS hM  ok hx) trivial
                · have ok := ok.2 c_50
                  have hx := xif_n c_50 hx
                  refine c_iload dX11_submit_53 rfl ?_
                  refine c_sipush (v := nI 1000) dX11_submit_55 (by decide) ?_
                  refine c_icmp_gt (tgt := 86) dX11_submit_58 (by decide) (fun c_58 => ?_) (fun c_58 => ?_)
                  · have ok := ok.1 c_58
                    have hx := xif_p c_58 hx
                    exact cX.cutz (kb_X11_submit_86 hG hR hS hM  ok hx) trivial
                  · have ok := ok.2 c_58
                    have hx := xif_n c_58 hx
                    refine c_iload dX11_submit_61 rfl ?_
                    refine c_if_lt (tgt := 86) dX11_submit_63 (by decide) (fun c_63 => ?_) (fun c_63 => ?_)
                    · have ok := ok.1 c_63
                      have hx := xif_p c_63 hx
                      exact cX.cutz (kb_X11_submit_86 hG hR hS hM  ok hx) trivial
                    · have ok := ok.2 c_63
                      have hx := xif_n c_63 hx
                      refine c_iload dX11_submit_66 rfl ?_
                      refine c_ldc dX11_submit_68 nX11_161 ?_
                      refine c_icmp_gt (tgt := 86) dX11_submit_70 (by decide) (fun c_70 => ?_) (fun c_70 => ?_)
                      · have ok := ok.1 c_70
                        have hx := xif_p c_70 hx
                        exact cX.cutz (kb_X11_submit_86 hG hR hS hM  ok hx) trivial
                      · have ok := ok.2 c_70
                        have hx := xif_n c_70 hx
                        refine c_iload dX11_submit_73 rfl ?_
                        refine c_iconst (v := nI 1) dX11_submit_75 (by decide) ?_
                        refine c_icmp_lt (tgt := 86) dX11_submit_76 (by decide) (fun c_76 => ?_) (fun c_76 => ?_)
                        · have ok := ok.1 c_76
                          have hx := xif_p c_76 hx
                          exact cX.cutz (kb_X11_submit_86 hG hR hS hM  ok hx) trivial
                        · have ok := ok.2 c_76
                          have hx := xif_n c_76 hx
                          refine c_iload dX11_submit_79 rfl ?_
                          refine c_bipush (v := nI 9) dX11_submit_81 (by decide) ?_
                          refine c_icmp_le (tgt := 88) dX11_submit_83 (by decide) (fun c_83 => ?_) (fun c_83 => ?_)
                          · have ok := ok.1 c_83
                            have hx := xif_p c_83 hx
                            refine c_iload_n dX11_submit_88 rfl rfl ?_
                            refine c_i2l dX11_submit_89 ?_
                            refine c_bipush (v := nI 48) dX11_submit_90 (by decide) ?_
                            refine c_lshl dX11_submit_92 ?_
                            refine c_iload_n dX11_submit_93 rfl rfl ?_
                            refine c_i2l dX11_submit_94 ?_
                            refine c_bipush (v := nI 40) dX11_submit_95 (by decide) ?_
                            refine c_lshl dX11_submit_97 ?_
                            refine c_lor dX11_submit_98 ?_
                            refine c_iload dX11_submit_99 rfl ?_
                            refine c_i2l dX11_submit_101 ?_
                            refine c_bipush (v := nI 24) dX11_submit_102 (by decide) ?_
                            refine c_lshl dX11_submit_104 ?_
                            refine c_lor dX11_submit_105 ?_
                            exact cX.cutz (kb_X11_submit_106 hG hR hS hM t_x0 tv_2 ok hx) ⟨rfl, rfl, rfl, rfl, rfl, trivial⟩
                          · have ok := ok.2 c_83
                            have hx := xif_n c_83 hx
                            exact cX.cutz (kb_X11_submit_86 hG hR hS hM  ok hx) trivial
              · have ok := ok.1 c_42
                have hx := xif_p c_42 hx
                exact cX.cutz (kb_X11_submit_45 hG hR hS hM  ok hx) trivial
def k_X11_submit (N g H T : Nat) (S : cS) (a0 : Nat) (x1 : Int32) (x2 : Int32) (x3 : Int32) (x4 : Int32) (x5 : Int32) (x6 : Int32) : Int32 × cS := KF_X11_submit_0 N g H T a0 x1 x2 x3 x4 x5 x6 S
def p_X11_submit (N g H T : Nat) (S : cS) (a0 : Nat) (x1 : Int32) (x2 : Int32) (x3 : Int32) (x4 : Int32) (x5 : Int32) (x6 : Int32) : Prop := KO_X11_submit_0 N g H T a0 x1 x2 x3 x4 x5 x6 S
set_option maxRecDepth 100000 in
set_option maxHeartbeats 4000000 in
theorem kc_X11_submit {G : zG} {o : cO} {g H T N : Nat} {S : cS} (hG : zOK G) {a0 : Nat} {x1 : Int32} {x2 : Int32} {x3 : Int32} {x4 : Int32} {x5 : Int32} {x6 : Int32} (hS : St 1 g H T S) (t_x0 : isO g H 9 a0) (ok : p_X11_submit N g H T S a0 x1 x2 x3 x4 x5 x6) : cCi G o dX11_submit mX11_submit [.ref a0, .int x1, .int x2, .int x3, .int x4, .int x5, .int x6] S (fun v S' => (v = (k_X11_submit N g H T S a0 x1 x2 x3 x4 x5 x6).1 ∧ S' = (k_X11_submit N g H T S a0 x1 x2 x3 x4 x5 x6).2) ∧ St 1 g H T S' ∧ Mono S S') := by
  refine cC.ofX rfl (by exact Nat.le_of_ble_eq_true rfl) ?_
  show cX G o dX11_submit mX11_submit 0 [some (va_rf (some a0)), some (.int x1), some (.int x2), some (.int x3), some (.int x4), some (.int x5), some (.int x6), none, none, none, none] [] S _
  exact cX.cutz (kb_X11_submit_0 (X := fun F => F = k_X11_submit N g H T S a0 x1 x2 x3 x4 x5 x6) hG (fun v S' h1 h2 h => ⟨v, rfl, ⟨by rw [← h], by rw [← h]⟩, h1, h2⟩) hS Mono.rfl' t_x0 ok rfl) ⟨rfl, rfl, rfl, rfl, rfl, rfl, rfl, trivial⟩
/-! X11_deliver -/
def KF_X11_deliver_8 (N g H T : Nat) (s0 : Int32) (S : cS) : Int32 × cS := (s0, S)
def KO_X11_deliver_8 (N g H T : Nat) (s0 : Int32) (S : cS) : Prop := True
set_option maxRecDepth 100000 in
set_option maxHeartbeats 4000000 in
theorem kb_X11_deliver_8 {G : zG} {o : cO} {g H T N : Nat} {S : cS} {S0 : cS} {Q : Option Value → cS → Prop} {X : Int32 × cS → Prop} (hG : zOK G) (hR : ∀ v S', St 1 g H T S' → Mono S0 S' → X (v, S') → Q (some (.int v)) S') {s0 : Int32} (hS : St 1 g H T S) (hM : Mono S0 S) (ok : KO_X11_deliver_8 N g H T s0 S) (hx : X (KF_X11_deliver_8 N g H T s0 S)) : cX G o dX11_deliver mX11_deliver 8 [none, none] [.int s0] S Q := by
  unfold KO_X11_deliver_8 at ok
  unfold KF_X11_deliver_8 at hx
  exact c_ireturn rfl rfl dX11_deliver_8 (hR _ _ hS hM hx)
def KF_X11_deliver_0 (N g H T : Nat) (x0 : Nat) (x1 : Int32) (S : cS) : Int32 × cS := (KF_X11_deliver_8 N g H T ((k_X10_land N g H T S (g + 8) x1).1) (k_X10_land N g H T S (g + 8) x1).2)
def KO_X11_deliver_0 (N g H T : Nat) (x0 : Nat) (x1 : Int32) (S : cS) : Prop := (p_X10_land N g H T S (g + 8) x1) ∧ KO_X11_deliver_8 N g H T ((k_X10_land N g H T S (g + 8) x1).1) (k_X10_land N g H T S (g + 8) x1).2
set_option maxRecDepth 100000 in
set_option maxHeartbeats 4000000 in
theorem kb_X11_deliver_0 {G : zG} {o : cO} {g H T N : Nat} {S : cS} {S0 : cS} {Q : Option Value → cS → Prop} {X : Int32 × cS → Prop} (hG : zOK G) (hR : ∀ v S', St 1 g H T S' → Mono S0 S' → X (v, S') → Q (some (.int v)) S') {x0 : Nat} {x1 : Int32} (hS : St 1 g H T S) (hM : Mono S0 S) (t_x0 : isO g H 9 x0) (ok : KO_X11_deliver_0 N g H T x0 x1 S) (hx : X (KF_X11_deliver_0 N g H T x0 x1 S)) : cX G o dX11_deliver mX11_deliver 0 [some (va_rf (some x0)), some (.int x1)] [] S Q := by
  unfold KO_X11_deliver_0 at ok
  unfold KF_X11_deliver_0 at hx
  refine c_aload_nQ dX11_deliver_0 rfl rfl ?_
  refine c_getS (C := RX11) (T := TX11) (N := 4) (ci := 9) (k := 0) ⟨rfl, inT11, by decide, fX11_22⟩ (by decide) (by decide) (by decide) dX11_deliver_1 (hS.k t_x0) (hS.r (c := 9) t_x0 rfl (by omega)) ?_
  refine c_iload_n dX11_deliver_4 rfl rfl ?_
  refine c_V1iK (ci := 8) (rr := (RX10, TX10, 12)) (y' := mX10_land) dX11_deliver_5 lX11_180 kX10_land ⟨by decide, by decide⟩ rfl rfl (by decide) (hS.k (o90 t_x0)) (Nat.le_of_ble_eq_true rfl) (kc_X10_land hG hS (o90 t_x0) ok.1) (fun ⟨hS, hm_5⟩ => ?_)
  have hM := hM.trans hm_5
  have ok := ok.2
  exact cX.cutz (kb_X11_deliver_8 hG hR hS hM  ok hx) trivial
def k_X11_deliver (N g H T : Nat) (S : cS) (a0 : Nat) (x1 : Int32) : Int32 × cS := KF_X11_deliver_0 N g H T a0 x1 S
def p_X11_deliver (N g H T : Nat) (S : cS) (a0 : Nat) (x1 : Int32) : Prop := KO_X11_deliver_0 N g H T a0 x1 S
set_option maxRecDepth 100000 in
set_option maxHeartbeats 4000000 in
theorem kc_X11_deliver {G : zG} {o : cO} {g H T N : Nat} {S : cS} (hG : zOK G) {a0 : Nat} {x1 : Int32} (hS : St 1 g H T S) (t_x0 : isO g H 9 a0) (ok : p_X11_deliver N g H T S a0 x1) : cCi G o dX11_deliver mX11_deliver [.ref a0, .int x1] S (fun v S' => (v = (k_X11_deliver N g H T S a0 x1).1 ∧ S' = (k_X11_deliver N g H T S a0 x1).2) ∧ St 1 g H T S' ∧ Mono S S') := by
  refine cC.ofX rfl (by exact Nat.le_of_ble_eq_true rfl) ?_
  show cX G o dX11_deliver mX11_deliver 0 [some (va_rf (some a0)), some (.int x1)] [] S _
  exact cX.cutz (kb_X11_deliver_0 (X := fun F => F = k_X11_deliver N g H T S a0 x1) hG (fun v S' h1 h2 h => ⟨v, rfl, ⟨by rw [← h], by rw [← h]⟩, h1, h2⟩) hS Mono.rfl' t_x0 ok rfl) ⟨rfl, rfl, trivial⟩
/-! X11_calm -/
def KF_X11_calm_84 (N g H T : Nat) (x3 : Int32) (S : cS) : Int32 × cS := (x3, S)
def KO_X11_calm_84 (N g H T : Nat) (x3 : Int32) (S : cS) : Prop := True
set_option maxRecDepth 100000 in
set_option maxHeartbeats 4000000 in
theorem kb_X11_calm_84 {G : zG} {o : cO} {g H T N : Nat} {S : cS} {S0 : cS} {Q : Option Value → cS → Prop} {X : Int32 × cS → Prop} (hG : zOK G) (hR : ∀ v S', St 1 g H T S' → Mono S0 S' → X (v, S') → Q (some (.int v)) S') {x3 : Int32} (hS : St 1 g H T S) (hM : Mono S0 S) (ok : KO_X11_calm_84 N g H T x3 S) (hx : X (KF_X11_calm_84 N g H T x3 S)) : cX G o dX11_calm mX11_calm 84 [none, none, none, some (.int x3), none] [] S Q := by
  unfold KO_X11_calm_84 at ok
  unfold KF_X11_calm_84 at hx
  refine c_iload_n dX11_calm_84 rfl rfl ?_
  exact c_ireturn rfl rfl dX11_calm_85 (hR _ _ hS hM hx)
def KF_X11_calm_77 (N g H T : Nat) (rec : Nat → Int32 → Int32 → Int32 → Int32 → cS → Nat × Int32 × cS) (x0 : Nat) (x1 : Int32) (x2 : Int32) (x3 : Int32) (x4 : Int32) (s0 : Int32) (S : cS) : Nat × Int32 × cS := (rec x0 x1 x2 x3 (x4 + nI 1) S)
def KO_X11_calm_77 (N g H T : Nat) (rok : Nat → Int32 → Int32 → Int32 → Int32 → cS → Prop) (x0 : Nat) (x1 : Int32) (x2 : Int32) (x3 : Int32) (x4 : Int32) (s0 : Int32) (S : cS) : Prop := rok x0 x1 x2 x3 (x4 + nI 1) S
set_option maxRecDepth 100000 in
set_option maxHeartbeats 4000000 in
theorem kb_X11_calm_77 {G : zG} {o : cO} {g H T N : Nat} {S : cS} {S0 : cS} {Q : Option Value → cS → Prop} {X : Nat × Int32 × cS → Prop} (hG : zOK G) (hX0 : ∀ (x3 : Int32) (S' : cS), St 1 g H T S' → Mono S0 S' → X (0, x3, S') → cX G o dX11_calm mX11_calm 84 [none, none, none, some (.int x3), none] [] S' Q) {rec : Nat → Int32 → Int32 → Int32 → Int32 → cS → Nat × Int32 × cS} {rok : Nat → Int32 → Int32 → Int32 → Int32 → cS → Prop} (hrec : ∀ (x0 : Nat) (x1 : Int32) (x2 : Int32) (x3 : Int32) (x4 : Int32) (S : cS), St 1 g H T S → Mono S0 S → isO g H 9 x0 → rok x0 x1 x2 x3 x4 S → X (rec x0 x1 x2 x3 x4 S) → cX G o dX11_calm mX11_calm 28 [some (va_rf (some x0)), some (.int x1), some (.int x2), some (.int x3), some (.int x4)] [] S Q) {x0 : Nat} {x1 : Int32} {x2 : Int32} {x3 : Int32} {x4 : Int32} {s0 : Int32} (hS : St 1 g H T S) (hM : Mono S0 S) (t_x0 : isO g H 9 x0) (ok : KO_X11_calm_77 N g H T rok x0 x1 x2 x3 x4 s0 S) (hx : X (KF_X11_calm_77 N g H T rec x0 x1 x2 x3 x4 s0 S)) : cX G o dX11_calm mX11_calm 77 [some (va_rf (some x0)), some (.int x1), some (.int x2), some (.int x3), some (.int x4)] [.int s0] S Q := by
  unfold KO_X11_calm_77 at ok
  unfold KF_X11_calm_77 at hx
  refine c_pop dX11_calm_77 rfl ?_
  refine c_iinc_4 (v := (x4 + nI 1)) dX11_calm_78 rfl (by first | rfl | (congr 1)) (by decide) rfl ?_
  refine c_goto (tgt := 28) dX11_calm_81 (by decide) ?_
  exact cX.cutz (hrec _ _ _ _ _ S hS hM t_x0 ok hx) ⟨rfl, rfl, rfl, rfl, rfl, trivial⟩
def KF_X11_calm_70 (N g H T : Nat) (rec : Nat → Int32 → Int32 → Int32 → Int32 → cS → Nat × Int32 × cS) (x0 : Nat) (x1 : Int32) (x2 : Int32) (x3 : Int32) (x4 : Int32) (S : cS) : Nat × Int32 × cS := (KF_X11_calm_77 N g H T rec x0 x1 x2 x3 x4 ((k_X10_passTime N g H T S (g + 8)).1) (k_X10_passTime N g H T S (g + 8)).2)
def KO_X11_calm_70 (N g H T : Nat) (rok : Nat → Int32 → Int32 → Int32 → Int32 → cS → Prop) (x0 : Nat) (x1 : Int32) (x2 : Int32) (x3 : Int32) (x4 : Int32) (S : cS) : Prop := (p_X10_passTime N g H T S (g + 8)) ∧ KO_X11_calm_77 N g H T rok x0 x1 x2 x3 x4 ((k_X10_passTime N g H T S (g + 8)).1) (k_X10_passTime N g H T S (g + 8)).2
set_option maxRecDepth 100000 in
set_option maxHeartbeats 4000000 in
theorem kb_X11_calm_70 {G : zG} {o : cO} {g H T N : Nat} {S : cS} {S0 : cS} {Q : Option Value → cS → Prop} {X : Nat × Int32 × cS → Prop} (hG : zOK G) (hX0 : ∀ (x3 : Int32) (S' : cS), St 1 g H T S' → Mono S0 S' → X (0, x3, S') → cX G o dX11_calm mX11_calm 84 [none, none, none, some (.int x3), none] [] S' Q) {rec : Nat → Int32 → Int32 → Int32 → Int32 → cS → Nat × Int32 × cS} {rok : Nat → Int32 → Int32 → Int32 → Int32 → cS → Prop} (hrec : ∀ (x0 : Nat) (x1 : Int32) (x2 : Int32) (x3 : Int32) (x4 : Int32) (S : cS), St 1 g H T S → Mono S0 S → isO g H 9 x0 → rok x0 x1 x2 x3 x4 S → X (rec x0 x1 x2 x3 x4 S) → cX G o dX11_calm mX11_calm 28 [some (va_rf (some x0)), some (.int x1), some (.int x2), some (.int x3), some (.int x4)] [] S Q) {x0 : Nat} {x1 : Int32} {x2 : Int32} {x3 : Int32} {x4 : Int32} (hS : St 1 g H T S) (hM : Mono S0 S) (t_x0 : isO g H 9 x0) (ok : KO_X11_calm_70 N g H T rok x0 x1 x2 x3 x4 S) (hx : X (KF_X11_calm_70 N g H T rec x0 x1 x2 x3 x4 S)) : cX G o dX11_calm mX11_calm 70 [some (va_rf (some x0)), some (.int x1), some (.int x2), some (.int x3), some (.int x4)] [] S Q := by
  unfold KO_X11_calm_70 at ok
  unfold KF_X11_calm_70 at hx
  refine c_aload_nQ dX11_calm_70 rfl rfl ?_
  refine c_getS (C := RX11) (T := TX11) (N := 4) (ci := 9) (k := 0) ⟨rfl, inT11, by decide, fX11_22⟩ (by decide) (by decide) (by decide) dX11_calm_71 (hS.k t_x0) (hS.r (c := 9) t_x0 rfl (by omega)) ?_
  refine c_V0iK (ci := 8) (rr := (RX10, TX10, 12)) (y' := mX10_passTime) dX11_calm_74 lX11_188 kX10_passTime ⟨by decide, by decide⟩ rfl rfl (by decide) (hS.k (o90 t_x0)) (Nat.le_of_ble_eq_true rfl) (kc_X10_passTime hG hS (o90 t_x0) ok.1) (fun ⟨hS, hm_74⟩ => ?_)
  have hM := hM.trans hm_74
  have ok := ok.2
  exact cX.cutz (kb_X11_calm_77 hG hX0 hrec hS hM t_x0 ok hx) ⟨rfl, rfl, rfl, rfl, rfl, trivial⟩
def KF_X11_calm_63 (N g H T : Nat) (rec : Nat → Int32 → Int32 → Int32 → Int32 → cS → Nat × Nat × Int32 × Int32 × Int32 × Int32 × cS) (x0 : Nat) (x1 : Int32) (x2 : Int32) (x3 : Int32) (x4 : Int32) (s0 : Int32) (S : cS) : Nat × Nat × Int32 × Int32 × Int32 × Int32 × cS := (rec x0 x1 x2 (x3 + nI 1) x4 S)
def KO_X11_calm_63 (N g H T : Nat) (rok : Nat → Int32 → Int32 → Int32 → Int32 → cS → Prop) (x0 : Nat) (x1 : Int32) (x2 : Int32) (x3 : Int32) (x4 : Int32) (s0 : Int32) (S : cS) : Prop := rok x0 x1 x2 (x3 + nI 1) x4 S
set_option maxRecDepth 100000 in
set_option maxHeartbeats 4000000 in
theorem kb_X11_calm_63 {G : zG} {o : cO} {g H T N : Nat} {S : cS} {S0 : cS} {Q : Option Value → cS → Prop} {X : Nat × Nat × Int32 × Int32 × Int32 × Int32 × cS → Prop} (hG : zOK G) (hX0 : ∀ (x0 : Nat) (x1 : Int32) (x2 : Int32) (x3 : Int32) (x4 : Int32) (S' : cS), St 1 g H T S' → Mono S0 S' → isO g H 9 x0 → X (0, x0, x1, x2, x3, x4, S') → cX G o dX11_calm mX11_calm 70 [some (va_rf (some x0)), some (.int x1), some (.int x2), some (.int x3), some (.int x4)] [] S' Q) {rec : Nat → Int32 → Int32 → Int32 → Int32 → cS → Nat × Nat × Int32 × Int32 × Int32 × Int32 × cS} {rok : Nat → Int32 → Int32 → Int32 → Int32 → cS → Prop} (hrec : ∀ (x0 : Nat) (x1 : Int32) (x2 : Int32) (x3 : Int32) (x4 : Int32) (S : cS), St 1 g H T S → Mono S0 S → isO g H 9 x0 → rok x0 x1 x2 x3 x4 S → X (rec x0 x1 x2 x3 x4 S) → cX G o dX11_calm mX11_calm 34 [some (va_rf (some x0)), some (.int x1), some (.int x2), some (.int x3), some (.int x4)] [] S Q) {x0 : Nat} {x1 : Int32} {x2 : Int32} {x3 : Int32} {x4 : Int32} {s0 : Int32} (hS : St 1 g H T S) (hM : Mono S0 S) (t_x0 : isO g H 9 x0) (ok : KO_X11_calm_63 N g H T rok x0 x1 x2 x3 x4 s0 S) (hx : X (KF_X11_calm_63 N g H T rec x0 x1 x2 x3 x4 s0 S)) : cX G o dX11_calm mX11_calm 63 [some (va_rf (some x0)), some (.int x1), some (.int x2), some (.int x3), some (.int x4)] [.int s0] S Q := by
  unfold KO_X11_calm_63 at ok
  unfold KF_X11_calm_63 at hx
  refine c_pop dX11_calm_63 rfl ?_
  refine c_iinc_3 (v := (x3 + nI 1)) dX11_calm_64 rfl (by first | rfl | (congr 1)) (by decide) rfl ?_
  refine c_goto (tgt := 34) dX11_calm_67 (by decide) ?_
  exact cX.cutz (hrec _ _ _ _ _ S hS hM t_x0 ok hx) ⟨rfl, rfl, rfl, rfl, rfl, trivial⟩
def KB_X11_calm_34 (N g H T : Nat) (rec : Nat → Int32 → Int32 → Int32 → Int32 → cS → Nat × Nat × Int32 × Int32 × Int32 × Int32 × cS) (x0 : Nat) (x1 : Int32) (x2 : Int32) (x3 : Int32) (x4 : Int32) (S : cS) : Nat × Nat × Int32 × Int32 × Int32 × Int32 × cS := (if (nI 5000) ≤ x3 then (0, x0, x1, x2, x3, x4, S) else (if (k_X9_isRipe N g H T S (g + 11) x2) = 0 then (0, x0, x1, x2, x3, x4, S) else (KF_X11_calm_63 N g H T rec x0 x1 x2 x3 x4 ((k_X10_land N g H T S (g + 8) (nI 0)).1) (k_X10_land N g H T S (g + 8) (nI 0)).2)))
def KOB_X11_calm_34 (N g H T : Nat) (rok : Nat → Int32 → Int32 → Int32 → Int32 → cS → Prop) (x0 : Nat) (x1 : Int32) (x2 : Int32) (x3 : Int32) (x4 : Int32) (S : cS) : Prop := (((nI 5000) ≤ x3 → True) ∧ (¬ (nI 5000) ≤ x3 → (p_X9_isRipe N g H T S (g + 11) x2) ∧ (((k_X9_isRipe N g H T S (g + 11) x2) = 0 → True) ∧ (¬ (k_X9_isRipe N g H T S (g + 11) x2) = 0 → (p_X10_land N g H T S (g + 8) (nI 0)) ∧ KO_X11_calm_63 N g H T rok x0 x1 x2 x3 x4 ((k_X10_land N g H T S (g + 8) (nI 0)).1) (k_X10_land N g H T S (g + 8) (nI 0)).2))))
set_option maxRecDepth 100000 in
set_option maxHeartbeats 4000000 in
theorem kbb_X11_calm_34 {G : zG} {o : cO} {g H T N : Nat} {S : cS} {S0 : cS} {Q : Option Value → cS → Prop} {X : Nat × Nat × Int32 × Int32 × Int32 × Int32 × cS → Prop} (hG : zOK G) (hX0 : ∀ (x0 : Nat) (x1 : Int32) (x2 : Int32) (x3 : Int32) (x4 : Int32) (S' : cS), St 1 g H T S' → Mono S0 S' → isO g H 9 x0 → X (0, x0, x1, x2, x3, x4, S') → cX G o dX11_calm mX11_calm 70 [some (va_rf (some x0)), some (.int x1), some (.int x2), some (.int x3), some (.int x4)] [] S' Q) {rec : Nat → Int32 → Int32 → Int32 → Int32 → cS → Nat × Nat × Int32 × Int32 × Int32 × Int32 × cS} {rok : Nat → Int32 → Int32 → Int32 → Int32 → cS → Prop} (hrec : ∀ (x0 : Nat) (x1 : Int32) (x2 : Int32) (x3 : Int32) (x4 : Int32) (S : cS), St 1 g H T S → Mono S0 S → isO g H 9 x0 → rok x0 x1 x2 x3 x4 S → X (rec x0 x1 x2 x3 x4 S) → cX G o dX11_calm mX11_calm 34 [some (va_rf (some x0)), some (.int x1), some (.int x2), some (.int x3), some (.int x4)] [] S Q) {x0 : Nat} {x1 : Int32} {x2 : Int32} {x3 : Int32} {x4 : Int32} (hS : St 1 g H T S) (hM : Mono S0 S) (t_x0 : isO g H 9 x0) (ok : KOB_X11_calm_34 N g H T rok x0 x1 x2 x3 x4 S) (hx : X (KB_X11_calm_34 N g H T rec x0 x1 x2 x3 x4 S)) : cX G o dX11_calm mX11_calm 34 [some (va_rf (some x0)), some (.int x1), some (.int x2), some (.int x3), some (.int x4)] [] S Q := by
  unfold KOB_X11_calm_34 at ok
  unfold KB_X11_calm_34 at hx
  refine c_iload_n dX11_calm_34 rfl rfl ?_
  refine c_sipush (v := nI 5000) dX11_calm_35 (by decide) ?_
  refine c_icmp_ge (tgt := 70) dX11_calm_38 (by decide) (fun c_38 => ?_) (fun c_38 => ?_)
  · have ok := ok.1 c_38
    have hx := xif_p c_38 hx
    exact cX.cutz (hX0 _ _ _ _ _ S hS hM t_x0 hx) ⟨rfl, rfl, rfl, rfl, rfl, trivial⟩
  · have ok := ok.2 c_38
    have hx := xif_n c_38 hx
    refine c_aload_nQ dX11_calm_41 rfl rfl ?_
    refine c_getS (C := RX11) (T := TX11) (N := 4) (ci := 9) (k := 0) ⟨rfl, inT11, by decide, fX11_22⟩ (by decide) (by decide) (by decide) dX11_calm_42 (hS.k t_x0) (hS.r (c := 9) t_x0 rfl (by omega)) ?_
    refine c_getS (C := RX10) (T := TX10) (N := 12) (ci := 8) (k := 6) ⟨rfl, inT10, by decide, fX11_38⟩ (by decide) (by decide) (by decide) dX11_calm_45 (hS.k (o90 t_x0)) (hS.r (c := 8) (o90 t_x0) rfl (by omega)) ?_
    refine c_iload_n dX11_calm_48 rfl rfl ?_
    refine c_V1iE (ci := 7) (rr := (RX9, TX9, 13)) (y' := mX9_isRipe) dX11_calm_49 lX11_184 kX9_isRipe ⟨by decide, by decide⟩ rfl rfl (by decide) (hS.k (o86 (o90 t_x0))) (Nat.le_of_ble_eq_true rfl) (kc_X9_isRipe hG hS (o86 (o90 t_x0)) ok.1) ?_
    have ok := ok.2
    refine c_if_eq (tgt := 70) dX11_calm_52 (by decide) (fun c_52 => ?_) (fun c_52 => ?_)
    · have ok := ok.1 c_52
      have hx := xif_p c_52 hx
      exact cX.cutz (hX0 _ _ _ _ _ S hS hM t_x0 hx) ⟨rfl, rfl, rfl, rfl, rfl, trivial⟩
    · have ok := ok.2 c_52
      have hx := xif_n c_52 hx
      refine c_aload_nQ dX11_calm_55 rfl rfl ?_
      refine c_getS (C := RX11) (T := TX11) (N := 4) (ci := 9) (k := 0) ⟨rfl, inT11, by decide, fX11_22⟩ (by decide) (by decide) (by decide) dX11_calm_56 (hS.k t_x0) (hS.r (c := 9) t_x0 rfl (by omega)) ?_
      refine c_iconst (v := nI 0) dX11_calm_59 (by decide) ?_
      refine c_V1iK (ci := 8) (rr := (RX10, TX10, 12)) (y' := mX10_land) dX11_calm_60 lX11_180 kX10_land ⟨by decide, by decide⟩ rfl rfl (by decide) (hS.k (o90 t_x0)) (Nat.le_of_ble_eq_true rfl) (kc_X10_land hG hS (o90 t_x0) ok.1) (fun ⟨hS, hm_60⟩ => ?_)
      have hM := hM.trans hm_60
      have ok := ok.2
      exact cX.cutz (kb_X11_calm_63 hG hX0 hrec hS hM t_x0 ok hx) ⟨rfl, rfl, rfl, rfl, rfl, trivial⟩
def KL_X11_calm_34 (N g H T : Nat) : Nat → Nat → Int32 → Int32 → Int32 → Int32 → cS → Nat × Nat × Int32 × Int32 × Int32 × Int32 × cS
  | 0, x0, x1, x2, x3, x4, S => (0, 0, 0, 0, 0, 0, S)
  | n + 1, x0, x1, x2, x3, x4, S => KB_X11_calm_34 N g H T (KL_X11_calm_34 N g H T n) x0 x1 x2 x3 x4 S
def KOL_X11_calm_34 (N g H T : Nat) : Nat → Nat → Int32 → Int32 → Int32 → Int32 → cS → Prop
  | 0, _, _, _, _, _, _ => False
  | n + 1, x0, x1, x2, x3, x4, S => KOB_X11_calm_34 N g H T (KOL_X11_calm_34 N g H T n) x0 x1 x2 x3 x4 S
set_option maxRecDepth 100000 in
set_option maxHeartbeats 4000000 in
theorem kl_X11_calm_34 {G : zG} {o : cO} {g H T N : Nat} {S0 : cS} {Q : Option Value → cS → Prop} {X : Nat × Nat × Int32 × Int32 × Int32 × Int32 × cS → Prop} (hG : zOK G) (hX0 : ∀ (x0 : Nat) (x1 : Int32) (x2 : Int32) (x3 : Int32) (x4 : Int32) (S' : cS), St 1 g H T S' → Mono S0 S' → isO g H 9 x0 → X (0, x0, x1, x2, x3, x4, S') → cX G o dX11_calm mX11_calm 70 [some (va_rf (some x0)), some (.int x1), some (.int x2), some (.int x3), some (.int x4)] [] S' Q) : ∀ (n : Nat) (x0 : Nat) (x1 : Int32) (x2 : Int32) (x3 : Int32) (x4 : Int32) (S : cS), St 1 g H T S → Mono S0 S → isO g H 9 x0 → KOL_X11_calm_34 N g H T n x0 x1 x2 x3 x4 S → X (KL_X11_calm_34 N g H T n x0 x1 x2 x3 x4 S) → cX G o dX11_calm mX11_calm 34 [some (va_rf (some x0)), some (.int x1), some (.int x2), some (.int x3), some (.int x4)] [] S Q := by
  intro n
  induction n with
  | zero => intro x0 x1 x2 x3 x4 S hS hM t_x0 ok; exact absurd ok id
  | succ n ih =>
    intro x0 x1 x2 x3 x4 S hS hM t_x0 ok hx
    exact kbb_X11_calm_34 hG hX0 (rec := KL_X11_calm_34 N g H T n) (rok := KOL_X11_calm_34 N g H T n) (fun x0 x1 x2 x3 x4 S hS hM t_x0 ok hx => ih x0 x1 x2 x3 x4 S hS hM t_x0 ok hx) hS hM t_x0 ok hx
def KA_X11_calm_34 (N g H T : Nat) (rec : Nat → Int32 → Int32 → Int32 → Int32 → cS → Nat × Int32 × cS) (x0 : Nat) (x1 : Int32) (x2 : Int32) (x3 : Int32) (x4 : Int32) (S : cS) (z : Nat × Nat × Int32 × Int32 × Int32 × Int32 × cS) : Nat × Int32 × cS := (KF_X11_calm_70 N g H T rec (z.2.1) (z.2.2.1) (z.2.2.2.1) (z.2.2.2.2.1) (z.2.2.2.2.2.1) z.2.2.2.2.2.2)
def KOA_X11_calm_34 (N g H T : Nat) (rok : Nat → Int32 → Int32 → Int32 → Int32 → cS → Prop) (x0 : Nat) (x1 : Int32) (x2 : Int32) (x3 : Int32) (x4 : Int32) (S : cS) (z : Nat × Nat × Int32 × Int32 × Int32 × Int32 × cS) : Prop := KO_X11_calm_70 N g H T rok (z.2.1) (z.2.2.1) (z.2.2.2.1) (z.2.2.2.2.1) (z.2.2.2.2.2.1) z.2.2.2.2.2.2
set_option maxRecDepth 100000 in
set_option maxHeartbeats 4000000 in
theorem kd_X11_calm_34 {G : zG} {o : cO} {g H T N : Nat} {S : cS} {S0 : cS} {Q : Option Value → cS → Prop} {X : Nat × Int32 × cS → Prop} (hG : zOK G) (hX0 : ∀ (x3 : Int32) (S' : cS), St 1 g H T S' → Mono S0 S' → X (0, x3, S') → cX G o dX11_calm mX11_calm 84 [none, none, none, some (.int x3), none] [] S' Q) {rec : Nat → Int32 → Int32 → Int32 → Int32 → cS → Nat × Int32 × cS} {rok : Nat → Int32 → Int32 → Int32 → Int32 → cS → Prop} (hrec : ∀ (x0 : Nat) (x1 : Int32) (x2 : Int32) (x3 : Int32) (x4 : Int32) (S : cS), St 1 g H T S → Mono S0 S → isO g H 9 x0 → rok x0 x1 x2 x3 x4 S → X (rec x0 x1 x2 x3 x4 S) → cX G o dX11_calm mX11_calm 28 [some (va_rf (some x0)), some (.int x1), some (.int x2), some (.int x3), some (.int x4)] [] S Q) {x0 : Nat} {x1 : Int32} {x2 : Int32} {x3 : Int32} {x4 : Int32} (hS : St 1 g H T S) (hM : Mono S0 S) (t_x0 : isO g H 9 x0) (ok : KOL_X11_calm_34 N g H T N x0 x1 x2 x3 x4 S ∧ KOA_X11_calm_34 N g H T rok x0 x1 x2 x3 x4 S (KL_X11_calm_34 N g H T N x0 x1 x2 x3 x4 S)) (hx : X (KA_X11_calm_34 N g H T rec x0 x1 x2 x3 x4 S (KL_X11_calm_34 N g H T N x0 x1 x2 x3 x4 S))) : cX G o dX11_calm mX11_calm 34 [some (va_rf (some x0)), some (.int x1), some (.int x2), some (.int x3), some (.int x4)] [] S Q := by
  refine kl_X11_calm_34 hG ?_ N x0 x1 x2 x3 x4 S hS hM t_x0 ok.1 (X := fun z => KOA_X11_calm_34 N g H T rok x0 x1 x2 x3 x4 S z ∧ X (KA_X11_calm_34 N g H T rec x0 x1 x2 x3 x4 S z)) ⟨ok.2, hx⟩
  · intro x0' x1' x2' x3' x4' S' hS hM t_x0 hz
    obtain ⟨ok, hx⟩ := hz
    unfold KOA_X11_calm_34 at ok
    unfold KA_X11_calm_34 at hx
    exact cX.cutz (kb_X11_calm_70 hG hX0 hrec hS hM t_x0 ok hx) ⟨rfl, rfl, rfl, rfl, rfl, trivial⟩
def KB_X11_calm_28 (N g H T : Nat) (rec : Nat → Int32 → Int32 → Int32 → Int32 → cS → Nat × Int32 × cS) (x0 : Nat) (x1 : Int32) (x2 : Int32) (x3 : Int32) (x4 : Int32) (S : cS) : Nat × Int32 × cS := (if x1 ≤ x4 then (0, x3, S) else (KA_X11_calm_34 N g H T rec x0 x1 x2 x3 x4 S (KL_X11_calm_34 N g H T N x0 x1 x2 x3 x4 S)))
def KOB_X11_calm_28 (N g H T : Nat) (rok : Nat → Int32 → Int32 → Int32 → Int32 → cS → Prop) (x0 : Nat) (x1 : Int32) (x2 : Int32) (x3 : Int32) (x4 : Int32) (S : cS) : Prop := ((x1 ≤ x4 → True) ∧ (¬ x1 ≤ x4 → (KOL_X11_calm_34 N g H T N x0 x1 x2 x3 x4 S ∧ KOA_X11_calm_34 N g H T rok x0 x1 x2 x3 x4 S (KL_X11_calm_34 N g H T N x0 x1 x2 x3 x4 S))))
set_option maxRecDepth 100000 in
set_option maxHeartbeats 4000000 in
theorem kbb_X11_calm_28 {G : zG} {o : cO} {g H T N : Nat} {S : cS} {S0 : cS} {Q : Option Value → cS → Prop} {X : Nat × Int32 × cS → Prop} (hG : zOK G) (hX0 : ∀ (x3 : Int32) (S' : cS), St 1 g H T S' → Mono S0 S' → X (0, x3, S') → cX G o dX11_calm mX11_calm 84 [none, none, none, some (.int x3), none] [] S' Q) {rec : Nat → Int32 → Int32 → Int32 → Int32 → cS → Nat × Int32 × cS} {rok : Nat → Int32 → Int32 → Int32 → Int32 → cS → Prop} (hrec : ∀ (x0 : Nat) (x1 : Int32) (x2 : Int32) (x3 : Int32) (x4 : Int32) (S : cS), St 1 g H T S → Mono S0 S → isO g H 9 x0 → rok x0 x1 x2 x3 x4 S → X (rec x0 x1 x2 x3 x4 S) → cX G o dX11_calm mX11_calm 28 [some (va_rf (some x0)), some (.int x1), some (.int x2), some (.int x3), some (.int x4)] [] S Q) {x0 : Nat} {x1 : Int32} {x2 : Int32} {x3 : Int32} {x4 : Int32} (hS : St 1 g H T S) (hM : Mono S0 S) (t_x0 : isO g H 9 x0) (ok : KOB_X11_calm_28 N g H T rok x0 x1 x2 x3 x4 S) (hx : X (KB_X11_calm_28 N g H T rec x0 x1 x2 x3 x4 S)) : cX G o dX11_calm mX11_calm 28 [some (va_rf (some x0)), some (.int x1), some (.int x2), some (.int x3), some (.int x4)] [] S Q := by
  unfold KOB_X11_calm_28 at ok
  unfold KB_X11_calm_28 at hx
  refine c_iload dX11_calm_28 rfl ?_
  refine c_iload_n dX11_calm_30 rfl rfl ?_
  refine c_icmp_ge (tgt := 84) dX11_calm_31 (by decide) (fun c_31 => ?_) (fun c_31 => ?_)
  · have ok := ok.1 c_31
    have hx := xif_p c_31 hx
    exact cX.cutz (hX0 _ S hS hM  hx) ⟨rfl, trivial⟩
  · have ok := ok.2 c_31
    have hx := xif_n c_31 hx
    exact cX.cutz (kd_X11_calm_34 hG hX0 hrec hS hM t_x0 ok hx) ⟨rfl, rfl, rfl, rfl, rfl, trivial⟩
def KL_X11_calm_28 (N g H T : Nat) : Nat → Nat → Int32 → Int32 → Int32 → Int32 → cS → Nat × Int32 × cS
  | 0, x0, x1, x2, x3, x4, S => (0, 0, S)
  | n + 1, x0, x1, x2, x3, x4, S => KB_X11_calm_28 N g H T (KL_X11_calm_28 N g H T n) x0 x1 x2 x3 x4 S
def KOL_X11_calm_28 (N g H T : Nat) : Nat → Nat → Int32 → Int32 → Int32 → Int32 → cS → Prop
  | 0, _, _, _, _, _, _ => False
  | n + 1, x0, x1, x2, x3, x4, S => KOB_X11_calm_28 N g H T (KOL_X11_calm_28 N g H T n) x0 x1 x2 x3 x4 S
set_option maxRecDepth 100000 in
set_option maxHeartbeats 4000000 in
theorem kl_X11_calm_28 {G : zG} {o : cO} {g H T N : Nat} {S0 : cS} {Q : Option Value → cS → Prop} {X : Nat × Int32 × cS → Prop} (hG : zOK G) (hX0 : ∀ (x3 : Int32) (S' : cS), St 1 g H T S' → Mono S0 S' → X (0, x3, S') → cX G o dX11_calm mX11_calm 84 [none, none, none, some (.int x3), none] [] S' Q) : ∀ (n : Nat) (x0 : Nat) (x1 : Int32) (x2 : Int32) (x3 : Int32) (x4 : Int32) (S : cS), St 1 g H T S → Mono S0 S → isO g H 9 x0 → KOL_X11_calm_28 N g H T n x0 x1 x2 x3 x4 S → X (KL_X11_calm_28 N g H T n x0 x1 x2 x3 x4 S) → cX G o dX11_calm mX11_calm 28 [some (va_rf (some x0)), some (.int x1), some (.int x2), some (.int x3), some (.int x4)] [] S Q := by
  intro n
  induction n with
  | zero => intro x0 x1 x2 x3 x4 S hS hM t_x0 ok; exact absurd ok id
  | succ n ih =>
    intro x0 x1 x2 x3 x4 S hS hM t_x0 ok hx
    exact kbb_X11_calm_28 hG hX0 (rec := KL_X11_calm_28 N g H T n) (rok := KOL_X11_calm_28 N g H T n) (fun x0 x1 x2 x3 x4 S hS hM t_x0 ok hx => ih x0 x1 x2 x3 x4 S hS hM t_x0 ok hx) hS hM t_x0 ok hx
def KA_X11_calm_28 (N g H T : Nat) (x0 : Nat) (x1 : Int32) (x2 : Int32) (x3 : Int32) (x4 : Int32) (S : cS) (z : Nat × Int32 × cS) : Int32 × cS := (KF_X11_calm_84 N g H T (z.2.1) z.2.2)
def KOA_X11_calm_28 (N g H T : Nat) (x0 : Nat) (x1 : Int32) (x2 : Int32) (x3 : Int32) (x4 : Int32) (S : cS) (z : Nat × Int32 × cS) : Prop := KO_X11_calm_84 N g H T (z.2.1) z.2.2
set_option maxRecDepth 100000 in
set_option maxHeartbeats 4000000 in
theorem kd_X11_calm_28 {G : zG} {o : cO} {g H T N : Nat} {S : cS} {S0 : cS} {Q : Option Value → cS → Prop} {X : Int32 × cS → Prop} (hG : zOK G) (hR : ∀ v S', St 1 g H T S' → Mono S0 S' → X (v, S') → Q (some (.int v)) S') {x0 : Nat} {x1 : Int32} {x2 : Int32} {x3 : Int32} {x4 : Int32} (hS : St 1 g H T S) (hM : Mono S0 S) (t_x0 : isO g H 9 x0) (ok : KOL_X11_calm_28 N g H T N x0 x1 x2 x3 x4 S ∧ KOA_X11_calm_28 N g H T x0 x1 x2 x3 x4 S (KL_X11_calm_28 N g H T N x0 x1 x2 x3 x4 S)) (hx : X (KA_X11_calm_28 N g H T x0 x1 x2 x3 x4 S (KL_X11_calm_28 N g H T N x0 x1 x2 x3 x4 S))) : cX G o dX11_calm mX11_calm 28 [some (va_rf (some x0)), some (.int x1), some (.int x2), some (.int x3), some (.int x4)] [] S Q := by
  refine kl_X11_calm_28 hG ?_ N x0 x1 x2 x3 x4 S hS hM t_x0 ok.1 (X := fun z => KOA_X11_calm_28 N g H T x0 x1 x2 x3 x4 S z ∧ X (KA_X11_calm_28 N g H T x0 x1 x2 x3 x4 S z)) ⟨ok.2, hx⟩
  · intro x3' S' hS hM hz
    obtain ⟨ok, hx⟩ := hz
    unfold KOA_X11_calm_28 at ok
    unfold KA_X11_calm_28 at hx
    exact cX.cutz (kb_X11_calm_84 hG hR hS hM  ok hx) ⟨rfl, trivial⟩
def KF_X11_calm_21 (N g H T : Nat)  (S : cS) : Int32 × cS := ((-1), S)
def KO_X11_calm_21 (N g H T : Nat)  (S : cS) : Prop := True
set_option maxRecDepth 100000 in
set_option maxHeartbeats 4000000 in
theorem kb_X11_calm_21 {G : zG} {o : cO} {g H T N : Nat} {S : cS} {S0 : cS} {Q : Option Value → cS → Prop} {X : Int32 × cS → Prop} (hG : zOK G) (hR : ∀ v S', St 1 g H T S' → Mono S0 S' → X (v, S') → Q (some (.int v)) S') (hS : St 1 g H T S) (hM : Mono S0 S) (ok : KO_X11_calm_21 N g H T S) (hx : X (KF_X11_calm_21 N g H T S)) : cX G o dX11_calm mX11_calm 21 [none, none, none, none, none] [] S Q := by
  unfold KO_X11_calm_21 at ok
  unfold KF_X11_calm_21 at hx
  refine c_iconst (v := -1) dX11_calm_21 (by decide) ?_
  exact c_ireturn rfl rfl dX11_calm_22 (hR _ _ hS hM hx)
def KF_X11_calm_0 (N g H T : Nat) (x0 : Nat) (x1 : Int32) (x2 : Int32) (S : cS) : Int32 × cS := (if x1 < (nI 1) then (KF_X11_calm_21 N g H T S) else (if (nI 64) < x1 then (KF_X11_calm_21 N g H T S) else (if x2 < 0 then (KF_X11_calm_21 N g H T S) else (if x2 ≤ (nI 9) then (KA_X11_calm_28 N g H T x0 x1 x2 (nI 0) (nI 0) S (KL_X11_calm_28 N g H T N x0 x1 x2 (nI 0) (nI 0) S)) else (KF_X11_calm_21 N g H T S)))))
def KO_X11_calm_0 (N g H T : Nat) (x0 : Nat) (x1 : Int32) (x2 : Int32) (S : cS) : Prop := ((x1 < (nI 1) → KO_X11_calm_21 N g H T S) ∧ (¬ x1 < (nI 1) → (((nI 64) < x1 → KO_X11_calm_21 N g H T S) ∧ (¬ (nI 64) < x1 → ((x2 < 0 → KO_X11_calm_21 N g H T S) ∧ (¬ x2 < 0 → ((x2 ≤ (nI 9) → (KOL_X11_calm_28 N g H T N x0 x1 x2 (nI 0) (nI 0) S ∧ KOA_X11_calm_28 N g H T x0 x1 x2 (nI 0) (nI 0) S (KL_X11_calm_28 N g H T N x0 x1 x2 (nI 0) (nI 0) S))) ∧ (¬ x2 ≤ (nI 9) → KO_X11_calm_21 N g H T S))))))))
set_option maxRecDepth 100000 in
set_option maxHeartbeats 4000000 in
theorem kb_X11_calm_0 {G : zG} {o : cO} {g H T N : Nat} {S : cS} {S0 : cS} {Q : Option Value → cS → Prop} {X : Int32 × cS → Prop} (hG : zOK G) (hR : ∀ v S', St 1 g H T S' → Mono S0 S' → X (v, S') → Q (some (.int v)) S') {x0 : Nat} {x1 : Int32} {x2 : Int32} (hS : St 1 g H T S) (hM : Mono S0 S) (t_x0 : isO g H 9 x0) (ok : KO_X11_calm_0 N g H T x0 x1 x2 S) (hx : X (KF_X11_calm_0 N g H T x0 x1 x2 S)) : cX G o dX11_calm mX11_calm 0 [some (va_rf (some x0)), some (.int x1), some (.int x2), none, none] [] S Q := by
  unfold KO_X11_calm_0 at ok
  unfold KF_X11_calm_0 at hx
  refine c_iload_n dX11_calm_0 rfl rfl ?_
  refine c_iconst (v := nI 1) dX11_calm_1 (by decide) ?_
  refine c_icmp_lt (tgt := 21) dX11_calm_2 (by decide) (fun c_2 => ?_) (fun c_2 => ?_)
  · have ok := ok.1 c_2
    have hx := xif_p c_2 hx
    exact cX.cutz (kb_X11_calm_21 hG hR hS hM  ok hx) trivial
  · have ok := ok.2 c_2
    have hx := xif_n c_2 hx
    refine c_iload_n dX11_calm_5 rfl rfl ?_
    refine c_bipush (v := nI 64) dX11_calm_6 (by decide) ?_
    refine c_icmp_gt (tgt := 21) dX11_calm_8 (by decide) (fun c_8 => ?_) (fun c_8 => ?_)
    · have ok := ok.1 c_8
      have hx := xif_p c_8 hx
      exact cX.cutz (kb_X11_calm_21 hG hR hS hM  ok hx) trivial
    · have ok := ok.2 c_8
      have hx := xif_n c_8 hx
      refine c_iload_n dX11_calm_11 rfl rfl ?_
      refine c_if_lt (tgt := 21) dX11_calm_12 (by decide) (fun c_12 => ?_) (fun c_12 => ?_)
      · have ok := ok.1 c_12
        have hx := xif_p c_12 hx
        exact cX.cutz (kb_X11_calm_21 hG hR hS hM  ok hx) trivial
      · have ok := ok.2 c_12
        have hx := xif_n c_12 hx
        refine c_iload_n dX11_calm_15 rfl rfl ?_
        refine c_bipush (v := nI 9) dX11_calm_16 (by decide) ?_
        refine c_icmp_le (tgt := 23) dX11_calm_18 (by decide) (fun c_18 => ?_) (fun c_18 => ?_)
        · have ok := ok.1 c_18
          have hx := xif_p c_18 hx
          refine c_iconst (v := nI 0) dX11_calm_23 (by decide) ?_
          refine c_istore_3 dX11_calm_24 (by decide) rfl ?_
          refine c_iconst (v := nI 0) dX11_calm_25 (by decide) ?_
          refine c_istore_4 dX11_calm_26 (by decide) rfl ?_
          exact cX.cutz (kd_X11_calm_28 hG hR hS hM t_x0 ok hx) ⟨rfl, rfl, rfl, rfl, rfl, trivial⟩
        · have ok := ok.2 c_18
          have hx := xif_n c_18 hx
          exact cX.cutz (kb_X11_calm_21 hG hR hS hM  ok hx) trivial
def k_X11_calm (N g H T : Nat) (S : cS) (a0 : Nat) (x1 : Int32) (x2 : Int32) : Int32 × cS := KF_X11_calm_0 N g H T a0 x1 x2 S
def p_X11_calm (N g H T : Nat) (S : cS) (a0 : Nat) (x1 : Int32) (x2 : Int32) : Prop := KO_X11_calm_0 N g H T a0 x1 x2 S
set_option maxRecDepth 100000 in
set_option maxHeartbeats 4000000 in
theorem kc_X11_calm {G : zG} {o : cO} {g H T N : Nat} {S : cS} (hG : zOK G) {a0 : Nat} {x1 : Int32} {x2 : Int32} (hS : St 1 g H T S) (t_x0 : isO g H 9 a0) (ok : p_X11_calm N g H T S a0 x1 x2) : cCi G o dX11_calm mX11_calm [.ref a0, .int x1, .int x2] S (fun v S' => (v = (k_X11_calm N g H T S a0 x1 x2).1 ∧ S' = (k_X11_calm N g H T S a0 x1 x2).2) ∧ St 1 g H T S' ∧ Mono S S') := by
  refine cC.ofX rfl (by exact Nat.le_of_ble_eq_true rfl) ?_
  show cX G o dX11_calm mX11_calm 0 [some (va_rf (some a0)), some (.int x1), some (.int x2), none, none] [] S _
  exact cX.cutz (kb_X11_calm_0 (X := fun F => F = k_X11_calm N g H T S a0 x1 x2) hG (fun v S' h1 h2 h => ⟨v, rfl, ⟨by rw [← h], by rw [← h]⟩, h1, h2⟩) hS Mono.rfl' t_x0 ok rfl) ⟨rfl, rfl, rfl, trivial⟩
/-! X11_copy -/
def KF_X11_copy_42 (N g H T : Nat)  (S : cS) : Int32 × cS := ((nI 1), S)
def KO_X11_copy_42 (N g H T : Nat)  (S : cS) : Prop := True
set_option maxRecDepth 100000 in
set_option maxHeartbeats 4000000 in
theorem kb_X11_copy_42 {G : zG} {o : cO} {g H T N : Nat} {S : cS} {S0 : cS} {Q : Option Value → cS → Prop} {X : Int32 × cS → Prop} (hG : zOK G) (hR : ∀ v S', St 1 g H T S' → Mono S0 S' → X (v, S') → Q (some (.int v)) S') (hS : St 1 g H T S) (hM : Mono S0 S) (ok : KO_X11_copy_42 N g H T S) (hx : X (KF_X11_copy_42 N g H T S)) : cX G o dX11_copy mX11_copy 42 [none, none, none, none] [] S Q := by
  unfold KO_X11_copy_42 at ok
  unfold KF_X11_copy_42 at hx
  refine c_iconst (v := nI 1) dX11_copy_42 (by decide) ?_
  exact c_ireturn rfl rfl dX11_copy_43 (hR _ _ hS hM hx)
def KF_X11_copy_25 (N g H T : Nat)  (S : cS) : Int32 × cS := ((nI 0), S)
def KO_X11_copy_25 (N g H T : Nat)  (S : cS) : Prop := True
set_option maxRecDepth 100000 in
set_option maxHeartbeats 4000000 in
theorem kb_X11_copy_25 {G : zG} {o : cO} {g H T N : Nat} {S : cS} {S0 : cS} {Q : Option Value → cS → Prop} {X : Int32 × cS → Prop} (hG : zOK G) (hR : ∀ v S', St 1 g H T S' → Mono S0 S' → X (v, S') → Q (some (.int v)) S') (hS : St 1 g H T S) (hM : Mono S0 S) (ok : KO_X11_copy_25 N g H T S) (hx : X (KF_X11_copy_25 N g H T S)) : cX G o dX11_copy mX11_copy 25 [none, none, none, none] [] S Q := by
  unfold KO_X11_copy_25 at ok
  unfold KF_X11_copy_25 at hx
  refine c_iconst (v := nI 0) dX11_copy_25 (by decide) ?_
  exact c_ireturn rfl rfl dX11_copy_26 (hR _ _ hS hM hx)
def KF_X11_copy_0 (N g H T : Nat) (x0 : Nat) (x1 : Int32) (S : cS) : Int32 × cS := (if (k_X9_loadOf N g H T S (g + 11) x1) = none then (KF_X11_copy_25 N g H T S) else (if (k_X9_hasRoom N g H T S (g + 11)) = 0 then (KF_X11_copy_25 N g H T S) else (KF_X11_copy_42 N g H T (k_X9_launch N g H T S (g + 11) (k_X9_senderOf N g H T S (g + 11) x1) (k_X9_receiverOf N g H T S (g + 11) x1) (k_X9_loadOf N g H T S (g + 11) x1)))))
def KO_X11_copy_0 (N g H T : Nat) (x0 : Nat) (x1 : Int32) (S : cS) : Prop := (p_X9_loadOf N g H T S (g + 11) x1) ∧ (((k_X9_loadOf N g H T S (g + 11) x1) = none → KO_X11_copy_25 N g H T S) ∧ (¬ (k_X9_loadOf N g H T S (g + 11) x1) = none → (p_X9_hasRoom N g H T S (g + 11)) ∧ (((k_X9_hasRoom N g H T S (g + 11)) = 0 → KO_X11_copy_25 N g H T S) ∧ (¬ (k_X9_hasRoom N g H T S (g + 11)) = 0 → (p_X9_senderOf N g H T S (g + 11) x1) ∧ (p_X9_receiverOf N g H T S (g + 11) x1) ∧ (p_X9_launch N g H T S (g + 11) (k_X9_senderOf N g H T S (g + 11) x1) (k_X9_receiverOf N g H T S (g + 11) x1) (k_X9_loadOf N g H T S (g + 11) x1)) ∧ KO_X11_copy_42 N g H T (k_X9_launch N g H T S (g + 11) (k_X9_senderOf N g H T S (g + 11) x1) (k_X9_receiverOf N g H T S (g + 11) x1) (k_X9_loadOf N g H T S (g + 11) x1))))))
set_option maxRecDepth 100000 in
set_option maxHeartbeats 4000000 in
theorem kb_X11_copy_0 {G : zG} {o : cO} {g H T N : Nat} {S : cS} {S0 : cS} {Q : Option Value → cS → Prop} {X : Int32 × cS → Prop} (hG : zOK G) (hR : ∀ v S', St 1 g H T S' → Mono S0 S' → X (v, S') → Q (some (.int v)) S') {x0 : Nat} {x1 : Int32} (hS : St 1 g H T S) (hM : Mono S0 S) (t_x0 : isO g H 9 x0) (ok : KO_X11_copy_0 N g H T x0 x1 S) (hx : X (KF_X11_copy_0 N g H T x0 x1 S)) : cX G o dX11_copy mX11_copy 0 [some (va_rf (some x0)), some (.int x1), none, none] [] S Q := by
  unfold KO_X11_copy_0 at ok
  unfold KF_X11_copy_0 at hx
  refine c_aload_nQ dX11_copy_0 rfl rfl ?_
  refine c_getS (C := RX11) (T := TX11) (N := 4) (ci := 9) (k := 0) ⟨rfl, inT11, by decide, fX11_22⟩ (by decide) (by decide) (by decide) dX11_copy_1 (hS.k t_x0) (hS.r (c := 9) t_x0 rfl (by omega)) ?_
  refine c_getS (C := RX10) (T := TX10) (N := 12) (ci := 8) (k := 6) ⟨rfl, inT10, by decide, fX11_38⟩ (by decide) (by decide) (by decide) dX11_copy_4 (hS.k (o90 t_x0)) (hS.r (c := 8) (o90 t_x0) rfl (by omega)) ?_
  refine c_astore_2Q dX11_copy_7 (by decide) rfl ?_
  refine c_aload_nQ dX11_copy_8 rfl rfl ?_
  refine c_iload_n dX11_copy_9 rfl rfl ?_
  refine c_V1qK (ci := 7) (rr := (RX9, TX9, 13)) (y' := mX9_loadOf) dX11_copy_10 lX11_84 kX9_loadOf ⟨by decide, by decide⟩ rfl rfl (by decide) (hS.k (o86 (o90 t_x0))) (Nat.le_of_ble_eq_true rfl) (kc_X9_loadOf hG hS (o86 (o90 t_x0)) ok.1) (fun tv_10 => ?_)
  have ok := ok.2
  refine c_astore_3Q dX11_copy_13 (by decide) (by simp [zok, zg, zcat_rf]) ?_
  refine c_aload_nQ dX11_copy_14 rfl rfl ?_
  refine c_ifnullI (tgt := 25) dX11_copy_15 (by decide) (fun c_15 => ?_) (fun c_15 => ?_)
  · have ok := ok.1 c_15
    have hx := xif_p c_15 hx
    exact cX.cutz (kb_X11_copy_25 hG hR hS hM  ok hx) trivial
  · have ok := ok.2 c_15
    have hx := xif_n c_15 hx
    refine c_aload_nQ dX11_copy_18 rfl rfl ?_
    refine c_V0iE (ci := 7) (rr := (RX9, TX9, 13)) (y' := mX9_hasRoom) dX11_copy_19 lX11_90 kX9_hasRoom ⟨by decide, by decide⟩ rfl rfl (by decide) (hS.k (o86 (o90 t_x0))) (Nat.le_of_ble_eq_true rfl) (kc_X9_hasRoom hG hS (o86 (o90 t_x0)) ok.1) ?_
    have ok := ok.2
    refine c_if_ne (tgt := 27) dX11_copy_22 (by decide) (fun c_22 => ?_) (fun c_22 => ?_)
    · have ok := ok.2 c_22
      have hx := xif_n c_22 hx
      refine c_aload_nQ dX11_copy_27 rfl rfl ?_
      refine c_aload_nQ dX11_copy_28 rfl rfl ?_
      refine c_iload_n dX11_copy_29 rfl rfl ?_
      refine c_V1iE (ci := 7) (rr := (RX9, TX9, 13)) (y' := mX9_senderOf) dX11_copy_30 lX11_191 kX9_senderOf ⟨by decide, by decide⟩ rfl rfl (by decide) (hS.k (o86 (o90 t_x0))) (by simp only [List.map_cons, List.map_nil, List.sum_cons, List.sum_nil, zcat_rf, zcat_i, zcat_l, zcat_r] <;> decide) (kc_X9_senderOf hG hS (o86 (o90 t_x0)) ok.1) ?_
      have ok := ok.2
      refine c_aload_nQ dX11_copy_33 rfl rfl ?_
      refine c_iload_n dX11_copy_34 rfl rfl ?_
      refine c_V1iE (ci := 7) (rr := (RX9, TX9, 13)) (y' := mX9_receiverOf) dX11_copy_35 lX11_194 kX9_receiverOf ⟨by decide, by decide⟩ rfl rfl (by decide) (hS.k (o86 (o90 t_x0))) (by simp only [List.map_cons, List.map_nil, List.sum_cons, List.sum_nil, zcat_rf, zcat_i, zcat_l, zcat_r] <;> decide) (kc_X9_receiverOf hG hS (o86 (o90 t_x0)) ok.1) ?_
      have ok := ok.2
      refine c_aload_nQ dX11_copy_38 rfl rfl ?_
      refine c_V3vK (ci := 7) (rr := (RX9, TX9, 13)) (y' := mX9_launch) dX11_copy_39 lX11_197 kX9_launch ⟨by decide, by decide⟩ rfl rfl (by decide) (hS.k (o86 (o90 t_x0))) (Nat.le_of_ble_eq_true rfl) (kc_X9_launch hG hS (o86 (o90 t_x0)) tv_10 ok.1) (fun ⟨hS, hm_39⟩ => ?_)
      have hM := hM.trans hm_39
      have ok := ok.2
      exact cX.cutz (kb_X11_copy_42 hG hR hS hM  ok hx) trivial
    · have ok := ok.1 c_22
      have hx := xif_p c_22 hx
      exact cX.cutz (kb_X11_copy_25 hG hR hS hM  ok hx) trivial
def k_X11_copy (N g H T : Nat) (S : cS) (a0 : Nat) (x1 : Int32) : Int32 × cS := KF_X11_copy_0 N g H T a0 x1 S
def p_X11_copy (N g H T : Nat) (S : cS) (a0 : Nat) (x1 : Int32) : Prop := KO_X11_copy_0 N g H T a0 x1 S
set_option maxRecDepth 100000 in
set_option maxHeartbeats 4000000 in
theorem kc_X11_copy {G : zG} {o : cO} {g H T N : Nat} {S : cS} (hG : zOK G) {a0 : Nat} {x1 : Int32} (hS : St 1 g H T S) (t_x0 : isO g H 9 a0) (ok : p_X11_copy N g H T S a0 x1) : cCi G o dX11_copy mX11_copy [.ref a0, .int x1] S (fun v S' => (v = (k_X11_copy N g H T S a0 x1).1 ∧ S' = (k_X11_copy N g H T S a0 x1).2) ∧ St 1 g H T S' ∧ Mono S S') := by
  refine cC.ofX rfl (by exact Nat.le_of_ble_eq_true rfl) ?_
  show cX G o dX11_copy mX11_copy 0 [some (va_rf (some a0)), some (.int x1), none, none] [] S _
  exact cX.cutz (kb_X11_copy_0 (X := fun F => F = k_X11_copy N g H T S a0 x1) hG (fun v S' h1 h2 h => ⟨v, rfl, ⟨by rw [← h], by rw [← h]⟩, h1, h2⟩) hS Mono.rfl' t_x0 ok rfl) ⟨rfl, rfl, trivial⟩
/-! X11_flying -/
def KF_X11_flying_0 (N g H T : Nat) (x0 : Nat) (x1 : Int32) (x2 : Int32) (S : cS) : Int32 := (if (k_X9_loadOf N g H T S (g + 11) x1) = none then (-1) else (if x2 = nI 0 then (k_X9_senderOf N g H T S (g + 11) x1) else (if x2 = nI 1 then (k_X9_receiverOf N g H T S (g + 11) x1) else (if x2 = nI 2 then (cI S 2 (za (k_X9_loadOf N g H T S (g + 11) x1))) else (-1)))))
def KO_X11_flying_0 (N g H T : Nat) (x0 : Nat) (x1 : Int32) (x2 : Int32) (S : cS) : Prop := (p_X9_loadOf N g H T S (g + 11) x1) ∧ (((k_X9_loadOf N g H T S (g + 11) x1) = none → True) ∧ (¬ (k_X9_loadOf N g H T S (g + 11) x1) = none → ((x2 = nI 0 → (p_X9_senderOf N g H T S (g + 11) x1) ∧ True) ∧ (¬ x2 = nI 0 → ((x2 = nI 1 → (p_X9_receiverOf N g H T S (g + 11) x1) ∧ True) ∧ (¬ x2 = nI 1 → ((x2 = nI 2 → True) ∧ (¬ x2 = nI 2 → True))))))))
set_option maxRecDepth 100000 in
set_option maxHeartbeats 4000000 in
theorem kb_X11_flying_0 {G : zG} {o : cO} {g H T N : Nat} {S : cS} {Q : Option Value → cS → Prop} {X : Int32 → Prop} (hG : zOK G) (hR : ∀ v, X v → Q (some (.int v)) S) {x0 : Nat} {x1 : Int32} {x2 : Int32} (hS : St 1 g H T S) (t_x0 : isO g H 9 x0) (ok : KO_X11_flying_0 N g H T x0 x1 x2 S) (hx : X (KF_X11_flying_0 N g H T x0 x1 x2 S)) : cX G o dX11_flying mX11_flying 0 [some (va_rf (some x0)), some (.int x1), some (.int x2), none] [] S Q := by
  unfold KO_X11_flying_0 at ok
  unfold KF_X11_flying_0 at hx
  refine c_aload_nQ dX11_flying_0 rfl rfl ?_
  refine c_getS (C := RX11) (T := TX11) (N := 4) (ci := 9) (k := 0) ⟨rfl, inT11, by decide, fX11_22⟩ (by decide) (by decide) (by decide) dX11_flying_1 (hS.k t_x0) (hS.r (c := 9) t_x0 rfl (by omega)) ?_
  refine c_getS (C := RX10) (T := TX10) (N := 12) (ci := 8) (k := 6) ⟨rfl, inT10, by decide, fX11_38⟩ (by decide) (by decide) (by decide) dX11_flying_4 (hS.k (o90 t_x0)) (hS.r (c := 8) (o90 t_x0) rfl (by omega)) ?_
  refine c_iload_n dX11_flying_7 rfl rfl ?_
  refine c_V1qK (ci := 7) (rr := (RX9, TX9, 13)) (y' := mX9_loadOf) dX11_flying_8 lX11_84 kX9_loadOf ⟨by decide, by decide⟩ rfl rfl (by decide) (hS.k (o86 (o90 t_x0))) (Nat.le_of_ble_eq_true rfl) (kc_X9_loadOf hG hS (o86 (o90 t_x0)) ok.1) (fun tv_8 => ?_)
  have ok := ok.2
  refine c_astore_3Q dX11_flying_11 (by decide) rfl ?_
  refine c_aload_nQ dX11_flying_12 rfl rfl ?_
  refine c_ifnonnullI (tgt := 18) dX11_flying_13 (by decide) (fun c_13 => ?_) (fun c_13 => ?_)
  · have ok := ok.2 c_13
    have hx := xif_n c_13 hx
    refine c_iload_n dX11_flying_18 rfl rfl ?_
    by_cases c_19_0 : x2 = nI 0
    · have ok := ok.1 c_19_0
      have hx := xif_p c_19_0 hx
      refine c_tableIn (off := 25) (tgt := 44) dX11_flying_19 (by rw [c_19_0]; decide) (by rw [c_19_0]; decide) (by rw [c_19_0]; rfl) (by decide) ?_
      refine c_aload_nQ dX11_flying_44 rfl rfl ?_
      refine c_getS (C := RX11) (T := TX11) (N := 4) (ci := 9) (k := 0) ⟨rfl, inT11, by decide, fX11_22⟩ (by decide) (by decide) (by decide) dX11_flying_45 (hS.k t_x0) (hS.r (c := 9) t_x0 rfl (by omega)) ?_
      refine c_getS (C := RX10) (T := TX10) (N := 12) (ci := 8) (k := 6) ⟨rfl, inT10, by decide, fX11_38⟩ (by decide) (by decide) (by decide) dX11_flying_48 (hS.k (o90 t_x0)) (hS.r (c := 8) (o90 t_x0) rfl (by omega)) ?_
      refine c_iload_n dX11_flying_51 rfl rfl ?_
      refine c_V1iE (ci := 7) (rr := (RX9, TX9, 13)) (y' := mX9_senderOf) dX11_flying_52 lX11_191 kX9_senderOf ⟨by decide, by decide⟩ rfl rfl (by decide) (hS.k (o86 (o90 t_x0))) (Nat.le_of_ble_eq_true rfl) (kc_X9_senderOf hG hS (o86 (o90 t_x0)) ok.1) ?_
      have ok := ok.2
      exact c_ireturn rfl rfl dX11_flying_55 (hR _ hx)
    · have ok := ok.2 c_19_0
      have hx := xif_n c_19_0 hx
      by_cases c_19_1 : x2 = nI 1
      · have ok := ok.1 c_19_1
        have hx := xif_p c_19_1 hx
        refine c_tableIn (off := 37) (tgt := 56) dX11_flying_19 (by rw [c_19_1]; decide) (by rw [c_19_1]; decide) (by rw [c_19_1]; rfl) (by decide) ?_
        refine c_aload_nQ dX11_flying_56 rfl rfl ?_
        refine c_getS (C := RX11) (T := TX11) (N := 4) (ci := 9) (k := 0) ⟨rfl, inT11, by decide, fX11_22⟩ (by decide) (by decide) (by decide) dX11_flying_57 (hS.k t_x0) (hS.r (c := 9) t_x0 rfl (by omega)) ?_
        refine c_getS (C := RX10) (T := TX10) (N := 12) (ci := 8) (k := 6) ⟨rfl, inT10, by decide, fX11_38⟩ (by decide) (by decide) (by decide) dX11_flying_60 (hS.k (o90 t_x0)) (hS.r (c := 8) (o90 t_x0) rfl (by omega)) ?_
        refine c_iload_n dX11_flying_63 rfl rfl ?_
        refine c_V1iE (ci := 7) (rr := (RX9, TX9, 13)) (y' := mX9_receiverOf) dX11_flying_64 lX11_194 kX9_receiverOf ⟨by decide, by decide⟩ rfl rfl (by decide) (hS.k (o86 (o90 t_x0))) (Nat.le_of_ble_eq_true rfl) (kc_X9_receiverOf hG hS (o86 (o90 t_x0)) ok.1) ?_
        have ok := ok.2
        exact c_ireturn rfl rfl dX11_flying_67 (hR _ hx)
      · have ok := ok.2 c_19_1
        have hx := xif_n c_19_1 hx
        by_cases c_19_2 : x2 = nI 2
        · have ok := ok.1 c_19_2
          have hx := xif_p c_19_2 hx
          refine c_tableIn (off := 49) (tgt := 68) dX11_flying_19 (by rw [c_19_2]; decide) (by rw [c_19_2]; decide) (by rw [c_19_2]; rfl) (by decide) ?_
          refine c_aload_nQ dX11_flying_68 rfl rfl ?_
          refine c_getI (C := RX5) (T := TX5) (N := 7) (ci := 4) (k := 2) ⟨rfl, inT5, by decide, fX11_150⟩ (by decide) (by decide) (by decide) dX11_flying_69 (tK.cis tv_8 c_13) ?_
          exact c_ireturn rfl rfl dX11_flying_72 (hR _ hx)
        · have ok := ok.2 c_19_2
          have hx := xif_n c_19_2 hx
          refine c_tableOut (tgt := 73) dX11_flying_19 (zsw 3 (by intro k hk; rcases (show k = 0 ∨ k = 1 ∨ k = 2 by omega) with rfl | rfl | rfl <;> assumption) (by decide) (by decide)) (by decide) ?_
          refine c_iconst (v := -1) dX11_flying_73 (by decide) ?_
          exact c_ireturn rfl rfl dX11_flying_74 (hR _ hx)
  · have ok := ok.1 c_13
    have hx := xif_p c_13 hx
    refine c_iconst (v := -1) dX11_flying_16 (by decide) ?_
    exact c_ireturn rfl rfl dX11_flying_17 (hR _ hx)
def k_X11_flying (N g H T : Nat) (S : cS) (a0 : Nat) (x1 : Int32) (x2 : Int32) : Int32 := KF_X11_flying_0 N g H T a0 x1 x2 S
def p_X11_flying (N g H T : Nat) (S : cS) (a0 : Nat) (x1 : Int32) (x2 : Int32) : Prop := KO_X11_flying_0 N g H T a0 x1 x2 S
set_option maxRecDepth 100000 in
set_option maxHeartbeats 4000000 in
theorem kc_X11_flying {G : zG} {o : cO} {g H T N : Nat} {S : cS} (hG : zOK G) {a0 : Nat} {x1 : Int32} {x2 : Int32} (hS : St 1 g H T S) (t_x0 : isO g H 9 a0) (ok : p_X11_flying N g H T S a0 x1 x2) : cCi G o dX11_flying mX11_flying [.ref a0, .int x1, .int x2] S (fun v S' => (v = k_X11_flying N g H T S a0 x1 x2 ∧ S' = S)) := by
  refine cC.ofX rfl (by exact Nat.le_of_ble_eq_true rfl) ?_
  show cX G o dX11_flying mX11_flying 0 [some (va_rf (some a0)), some (.int x1), some (.int x2), none] [] S _
  exact cX.cutz (kb_X11_flying_0 (X := fun F => F = k_X11_flying N g H T S a0 x1 x2) hG (fun v h => ⟨v, rfl, h, rfl⟩) hS t_x0 ok rfl) ⟨rfl, rfl, rfl, trivial⟩
/-! X11_bytes -/
def KF_X11_bytes_38 (N g H T : Nat) (s0 : Int64) (S : cS) : Int64 := s0
def KO_X11_bytes_38 (N g H T : Nat) (s0 : Int64) (S : cS) : Prop := True
set_option maxRecDepth 100000 in
set_option maxHeartbeats 4000000 in
theorem kb_X11_bytes_38 {G : zG} {o : cO} {g H T N : Nat} {S : cS} {Q : Option Value → cS → Prop} {X : Int64 → Prop} (hG : zOK G) (hR : ∀ v, X v → Q (some (.long v)) S) {s0 : Int64} (hS : St 1 g H T S) (ok : KO_X11_bytes_38 N g H T s0 S) (hx : X (KF_X11_bytes_38 N g H T s0 S)) : cX G o dX11_bytes mX11_bytes 38 [none, none, none, none] [.long s0] S Q := by
  unfold KO_X11_bytes_38 at ok
  unfold KF_X11_bytes_38 at hx
  exact c_lreturn rfl dX11_bytes_38 (hR _ hx)
def KF_X11_bytes_20 (N g H T : Nat)  (S : cS) : Int64 := (KF_X11_bytes_38 N g H T (-1 : Int64) S)
def KO_X11_bytes_20 (N g H T : Nat)  (S : cS) : Prop := KO_X11_bytes_38 N g H T (-1 : Int64) S
set_option maxRecDepth 100000 in
set_option maxHeartbeats 4000000 in
theorem kb_X11_bytes_20 {G : zG} {o : cO} {g H T N : Nat} {S : cS} {Q : Option Value → cS → Prop} {X : Int64 → Prop} (hG : zOK G) (hR : ∀ v, X v → Q (some (.long v)) S) (hS : St 1 g H T S) (ok : KO_X11_bytes_20 N g H T S) (hx : X (KF_X11_bytes_20 N g H T S)) : cX G o dX11_bytes mX11_bytes 20 [none, none, none, none] [] S Q := by
  unfold KO_X11_bytes_20 at ok
  unfold KF_X11_bytes_20 at hx
  refine c_ldc2 dX11_bytes_20 nX11_200 ?_
  refine c_goto (tgt := 38) dX11_bytes_23 (by decide) ?_
  exact cX.cutz (kb_X11_bytes_38 hG hR hS  ok hx) trivial
def KF_X11_bytes_0 (N g H T : Nat) (x0 : Nat) (x1 : Int32) (x2 : Int32) (S : cS) : Int64 := (if (k_X9_loadOf N g H T S (g + 11) x1) = none then (KF_X11_bytes_20 N g H T S) else (if 0 ≤ x2 then (KF_X11_bytes_38 N g H T (k_X11_eight N g H T S (some ((za (k_X9_loadOf N g H T S (g + 11) x1)) + 2)) (cI S 2 (za (k_X9_loadOf N g H T S (g + 11) x1))) x2) S) else (KF_X11_bytes_20 N g H T S)))
def KO_X11_bytes_0 (N g H T : Nat) (x0 : Nat) (x1 : Int32) (x2 : Int32) (S : cS) : Prop := (p_X9_loadOf N g H T S (g + 11) x1) ∧ (((k_X9_loadOf N g H T S (g + 11) x1) = none → KO_X11_bytes_20 N g H T S) ∧ (¬ (k_X9_loadOf N g H T S (g + 11) x1) = none → ((0 ≤ x2 → (p_X11_eight N g H T S (some ((za (k_X9_loadOf N g H T S (g + 11) x1)) + 2)) (cI S 2 (za (k_X9_loadOf N g H T S (g + 11) x1))) x2) ∧ KO_X11_bytes_38 N g H T (k_X11_eight N g H T S (some ((za (k_X9_loadOf N g H T S (g + 11) x1)) + 2)) (cI S 2 (za (k_X9_loadOf N g H T S (g + 11) x1))) x2) S) ∧ (¬ 0 ≤ x2 → KO_X11_bytes_20 N g H T S))))
set_option maxRecDepth 100000 in
set_option maxHeartbeats 4000000 in
theorem kb_X11_bytes_0 {G : zG} {o : cO} {g H T N : Nat} {S : cS} {Q : Option Value → cS → Prop} {X : Int64 → Prop} (hG : zOK G) (hR : ∀ v, X v → Q (some (.long v)) S) {x0 : Nat} {x1 : Int32} {x2 : Int32} (hS : St 1 g H T S) (t_x0 : isO g H 9 x0) (ok : KO_X11_bytes_0 N g H T x0 x1 x2 S) (hx : X (KF_X11_bytes_0 N g H T x0 x1 x2 S)) : cX G o dX11_bytes mX11_bytes 0 [some (va_rf (some x0)), some (.int x1), some (.int x2), none] [] S Q := by
  unfold KO_X11_bytes_0 at ok
  unfold KF_X11_bytes_0 at hx
  refine c_aload_nQ dX11_bytes_0 rfl rfl ?_
  refine c_getS (C := RX11) (T := TX11) (N := 4) (ci := 9) (k := 0) ⟨rfl, inT11, by decide, fX11_22⟩ (by decide) (by decide) (by decide) dX11_bytes_1 (hS.k t_x0) (hS.r (c := 9) t_x0 rfl (by omega)) ?_
  refine c_getS (C := RX10) (T := TX10) (N := 12) (ci := 8) (k := 6) ⟨rfl, inT10, by decide, fX11_38⟩ (by decide) (by decide) (by decide) dX11_bytes_4 (hS.k (o90 t_x0)) (hS.r (c := 8) (o90 t_x0) rfl (by omega)) ?_
  refine c_iload_n dX11_bytes_7 rfl rfl ?_
  refine c_V1qK (ci := 7) (rr := (RX9, TX9, 13)) (y' := mX9_loadOf) dX11_bytes_8 lX11_84 kX9_loadOf ⟨by decide, by decide⟩ rfl rfl (by decide) (hS.k (o86 (o90 t_x0))) (Nat.le_of_ble_eq_true rfl) (kc_X9_loadOf hG hS (o86 (o90 t_x0)) ok.1) (fun tv_8 => ?_)
  have ok := ok.2
  refine c_astore_3Q dX11_bytes_11 (by decide) rfl ?_
  refine c_aload_nQ dX11_bytes_12 rfl rfl ?_
  refine c_ifnullI (tgt := 20) dX11_bytes_13 (by decide) (fun c_13 => ?_) (fun c_13 => ?_)
  · have ok := ok.1 c_13
    have hx := xif_p c_13 hx
    exact cX.cutz (kb_X11_bytes_20 hG hR hS  ok hx) trivial
  · have ok := ok.2 c_13
    have hx := xif_n c_13 hx
    refine c_iload_n dX11_bytes_16 rfl rfl ?_
    refine c_if_ge (tgt := 26) dX11_bytes_17 (by decide) (fun c_17 => ?_) (fun c_17 => ?_)
    · have ok := ok.1 c_17
      have hx := xif_p c_17 hx
      refine c_aload_nQ dX11_bytes_26 rfl rfl ?_
      have p_27 := hS.m0k tv_8 c_13
      refine c_getS (C := RX5) (T := TX5) (N := 7) (ci := 4) (k := 0) ⟨rfl, inT5, by decide, fX11_48⟩ (by decide) (by decide) (by decide) dX11_bytes_27 (tK.cis tv_8 c_13) (hS.m0 tv_8 c_13) ?_
      refine c_aload_nQ dX11_bytes_30 rfl rfl ?_
      refine c_getI (C := RX5) (T := TX5) (N := 7) (ci := 4) (k := 2) ⟨rfl, inT5, by decide, fX11_150⟩ (by decide) (by decide) (by decide) dX11_bytes_31 (tK.cis tv_8 c_13) ?_
      refine c_iload_n dX11_bytes_34 rfl rfl ?_
      refine c_S3lE (y' := mX11_eight) dX11_bytes_35 lX11_153 kX11_eight ⟨by decide, by decide⟩ (Nat.le_of_ble_eq_true rfl) (kc_X11_eight hG hS p_27 ok.1) ?_
      have ok := ok.2
      exact cX.cutz (kb_X11_bytes_38 hG hR hS  ok hx) trivial
    · have ok := ok.2 c_17
      have hx := xif_n c_17 hx
      exact cX.cutz (kb_X11_bytes_20 hG hR hS  ok hx) trivial
def k_X11_bytes (N g H T : Nat) (S : cS) (a0 : Nat) (x1 : Int32) (x2 : Int32) : Int64 := KF_X11_bytes_0 N g H T a0 x1 x2 S
def p_X11_bytes (N g H T : Nat) (S : cS) (a0 : Nat) (x1 : Int32) (x2 : Int32) : Prop := KO_X11_bytes_0 N g H T a0 x1 x2 S
set_option maxRecDepth 100000 in
set_option maxHeartbeats 4000000 in
theorem kc_X11_bytes {G : zG} {o : cO} {g H T N : Nat} {S : cS} (hG : zOK G) {a0 : Nat} {x1 : Int32} {x2 : Int32} (hS : St 1 g H T S) (t_x0 : isO g H 9 a0) (ok : p_X11_bytes N g H T S a0 x1 x2) : cCl G o dX11_bytes mX11_bytes [.ref a0, .int x1, .int x2] S (fun v S' => (v = k_X11_bytes N g H T S a0 x1 x2 ∧ S' = S)) := by
  refine cC.ofX rfl (by exact Nat.le_of_ble_eq_true rfl) ?_
  show cX G o dX11_bytes mX11_bytes 0 [some (va_rf (some a0)), some (.int x1), some (.int x2), none] [] S _
  exact cX.cutz (kb_X11_bytes_0 (X := fun F => F = k_X11_bytes N g H T S a0 x1 x2) hG (fun v h => ⟨v, rfl, h, rfl⟩) hS t_x0 ok rfl) ⟨rfl, rfl, rfl, trivial⟩
/-! X11_tick -/
def KF_X11_tick_7 (N g H T : Nat) (s0 : Int32) (S : cS) : Int32 × cS := (s0, S)
def KO_X11_tick_7 (N g H T : Nat) (s0 : Int32) (S : cS) : Prop := True
set_option maxRecDepth 100000 in
set_option maxHeartbeats 4000000 in
theorem kb_X11_tick_7 {G : zG} {o : cO} {g H T N : Nat} {S : cS} {S0 : cS} {Q : Option Value → cS → Prop} {X : Int32 × cS → Prop} (hG : zOK G) (hR : ∀ v S', St 1 g H T S' → Mono S0 S' → X (v, S') → Q (some (.int v)) S') {s0 : Int32} (hS : St 1 g H T S) (hM : Mono S0 S) (ok : KO_X11_tick_7 N g H T s0 S) (hx : X (KF_X11_tick_7 N g H T s0 S)) : cX G o dX11_tick mX11_tick 7 [none] [.int s0] S Q := by
  unfold KO_X11_tick_7 at ok
  unfold KF_X11_tick_7 at hx
  exact c_ireturn rfl rfl dX11_tick_7 (hR _ _ hS hM hx)
def KF_X11_tick_0 (N g H T : Nat) (x0 : Nat) (S : cS) : Int32 × cS := (KF_X11_tick_7 N g H T ((k_X10_passTime N g H T S (g + 8)).1) (k_X10_passTime N g H T S (g + 8)).2)
def KO_X11_tick_0 (N g H T : Nat) (x0 : Nat) (S : cS) : Prop := (p_X10_passTime N g H T S (g + 8)) ∧ KO_X11_tick_7 N g H T ((k_X10_passTime N g H T S (g + 8)).1) (k_X10_passTime N g H T S (g + 8)).2
set_option maxRecDepth 100000 in
set_option maxHeartbeats 4000000 in
theorem kb_X11_tick_0 {G : zG} {o : cO} {g H T N : Nat} {S : cS} {S0 : cS} {Q : Option Value → cS → Prop} {X : Int32 × cS → Prop} (hG : zOK G) (hR : ∀ v S', St 1 g H T S' → Mono S0 S' → X (v, S') → Q (some (.int v)) S') {x0 : Nat} (hS : St 1 g H T S) (hM : Mono S0 S) (t_x0 : isO g H 9 x0) (ok : KO_X11_tick_0 N g H T x0 S) (hx : X (KF_X11_tick_0 N g H T x0 S)) : cX G o dX11_tick mX11_tick 0 [some (va_rf (some x0))] [] S Q := by
  unfold KO_X11_tick_0 at ok
  unfold KF_X11_tick_0 at hx
  refine c_aload_nQ dX11_tick_0 rfl rfl ?_
  refine c_getS (C := RX11) (T := TX11) (N := 4) (ci := 9) (k := 0) ⟨rfl, inT11, by decide, fX11_22⟩ (by decide) (by decide) (by decide) dX11_tick_1 (hS.k t_x0) (hS.r (c := 9) t_x0 rfl (by omega)) ?_
  refine c_V0iK (ci := 8) (rr := (RX10, TX10, 12)) (y' := mX10_passTime) dX11_tick_4 lX11_188 kX10_passTime ⟨by decide, by decide⟩ rfl rfl (by decide) (hS.k (o90 t_x0)) (Nat.le_of_ble_eq_true rfl) (kc_X10_passTime hG hS (o90 t_x0) ok.1) (fun ⟨hS, hm_4⟩ => ?_)
  have hM := hM.trans hm_4
  have ok := ok.2
  exact cX.cutz (kb_X11_tick_7 hG hR hS hM  ok hx) trivial
def k_X11_tick (N g H T : Nat) (S : cS) (a0 : Nat) : Int32 × cS := KF_X11_tick_0 N g H T a0 S
def p_X11_tick (N g H T : Nat) (S : cS) (a0 : Nat) : Prop := KO_X11_tick_0 N g H T a0 S
set_option maxRecDepth 100000 in
set_option maxHeartbeats 4000000 in
theorem kc_X11_tick {G : zG} {o : cO} {g H T N : Nat} {S : cS} (hG : zOK G) {a0 : Nat} (hS : St 1 g H T S) (t_x0 : isO g H 9 a0) (ok : p_X11_tick N g H T S a0) : cCi G o dX11_tick mX11_tick [.ref a0] S (fun v S' => (v = (k_X11_tick N g H T S a0).1 ∧ S' = (k_X11_tick N g H T S a0).2) ∧ St 1 g H T S' ∧ Mono S S') := by
  refine cC.ofX rfl (by exact Nat.le_of_ble_eq_true rfl) ?_
  show cX G o dX11_tick mX11_tick 0 [some (va_rf (some a0))] [] S _
  exact cX.cutz (kb_X11_tick_0 (X := fun F => F = k_X11_tick N g H T S a0) hG (fun v S' h1 h2 h => ⟨v, rfl, ⟨by rw [← h], by rw [← h]⟩, h1, h2⟩) hS Mono.rfl' t_x0 ok rfl) ⟨rfl, trivial⟩
/-! X11_crash -/
def KF_X11_crash_23 (N g H T : Nat)  (S : cS) : Int32 × cS := ((nI 1), S)
def KO_X11_crash_23 (N g H T : Nat)  (S : cS) : Prop := True
set_option maxRecDepth 100000 in
set_option maxHeartbeats 4000000 in
theorem kb_X11_crash_23 {G : zG} {o : cO} {g H T N : Nat} {S : cS} {S0 : cS} {Q : Option Value → cS → Prop} {X : Int32 × cS → Prop} (hG : zOK G) (hR : ∀ v S', St 1 g H T S' → Mono S0 S' → X (v, S') → Q (some (.int v)) S') (hS : St 1 g H T S) (hM : Mono S0 S) (ok : KO_X11_crash_23 N g H T S) (hx : X (KF_X11_crash_23 N g H T S)) : cX G o dX11_crash mX11_crash 23 [none, none, none] [] S Q := by
  unfold KO_X11_crash_23 at ok
  unfold KF_X11_crash_23 at hx
  refine c_iconst (v := nI 1) dX11_crash_23 (by decide) ?_
  exact c_ireturn rfl rfl dX11_crash_24 (hR _ _ hS hM hx)
def KF_X11_crash_17 (N g H T : Nat)  (S : cS) : Int32 × cS := ((nI 0), S)
def KO_X11_crash_17 (N g H T : Nat)  (S : cS) : Prop := True
set_option maxRecDepth 100000 in
set_option maxHeartbeats 4000000 in
theorem kb_X11_crash_17 {G : zG} {o : cO} {g H T N : Nat} {S : cS} {S0 : cS} {Q : Option Value → cS → Prop} {X : Int32 × cS → Prop} (hG : zOK G) (hR : ∀ v S', St 1 g H T S' → Mono S0 S' → X (v, S') → Q (some (.int v)) S') (hS : St 1 g H T S) (hM : Mono S0 S) (ok : KO_X11_crash_17 N g H T S) (hx : X (KF_X11_crash_17 N g H T S)) : cX G o dX11_crash mX11_crash 17 [none, none, none] [] S Q := by
  unfold KO_X11_crash_17 at ok
  unfold KF_X11_crash_17 at hx
  refine c_iconst (v := nI 0) dX11_crash_17 (by decide) ?_
  exact c_ireturn rfl rfl dX11_crash_18 (hR _ _ hS hM hx)
def KF_X11_crash_0 (N g H T : Nat) (x0 : Nat) (x1 : Int32) (S : cS) : Int32 × cS := (if (k_X11_honestNode N g H T S x0 x1) = none then (KF_X11_crash_17 N g H T S) else (if (cI S 8 (za (k_X11_honestNode N g H T S x0 x1))) = 0 then (KF_X11_crash_17 N g H T S) else (KF_X11_crash_23 N g H T (k_X6_fall N g H T S (za (k_X11_honestNode N g H T S x0 x1))))))
def KO_X11_crash_0 (N g H T : Nat) (x0 : Nat) (x1 : Int32) (S : cS) : Prop := (p_X11_honestNode N g H T S x0 x1) ∧ (((k_X11_honestNode N g H T S x0 x1) = none → KO_X11_crash_17 N g H T S) ∧ (¬ (k_X11_honestNode N g H T S x0 x1) = none → (((cI S 8 (za (k_X11_honestNode N g H T S x0 x1))) = 0 → KO_X11_crash_17 N g H T S) ∧ (¬ (cI S 8 (za (k_X11_honestNode N g H T S x0 x1))) = 0 → (p_X6_fall N g H T S (za (k_X11_honestNode N g H T S x0 x1))) ∧ KO_X11_crash_23 N g H T (k_X6_fall N g H T S (za (k_X11_honestNode N g H T S x0 x1)))))))
set_option maxRecDepth 100000 in
set_option maxHeartbeats 4000000 in
theorem kb_X11_crash_0 {G : zG} {o : cO} {g H T N : Nat} {S : cS} {S0 : cS} {Q : Option Value → cS → Prop} {X : Int32 × cS → Prop} (hG : zOK G) (hR : ∀ v S', St 1 g H T S' → Mono S0 S' → X (v, S') → Q (some (.int v)) S') {x0 : Nat} {x1 : Int32} (hS : St 1 g H T S) (hM : Mono S0 S) (t_x0 : isO g H 9 x0) (ok : KO_X11_crash_0 N g H T x0 x1 S) (hx : X (KF_X11_crash_0 N g H T x0 x1 S)) : cX G o dX11_crash mX11_crash 0 [some (va_rf (some x0)), some (.int x1), none] [] S Q := by
  unfold KO_X11_crash_0 at ok
  unfold KF_X11_crash_0 at hx
  refine c_aload_nQ dX11_crash_0 rfl rfl ?_
  refine c_iload_n dX11_crash_1 rfl rfl ?_
  refine c_V1qK (ci := 9) (rr := (RX11, TX11, 4)) (y' := mX11_honestNode) dX11_crash_2 lX11_120 kX11_honestNode ⟨by decide, by decide⟩ rfl rfl (by decide) (hS.k t_x0) (Nat.le_of_ble_eq_true rfl) (kc_X11_honestNode hG hS t_x0 ok.1) (fun tv_2 => ?_)
  have ok := ok.2
  refine c_astore_2Q dX11_crash_5 (by decide) rfl ?_
  refine c_aload_nQ dX11_crash_6 rfl rfl ?_
  refine c_ifnullI (tgt := 17) dX11_crash_7 (by decide) (fun c_7 => ?_) (fun c_7 => ?_)
  · have ok := ok.1 c_7
    have hx := xif_p c_7 hx
    exact cX.cutz (kb_X11_crash_17 hG hR hS hM  ok hx) trivial
  · have ok := ok.2 c_7
    have hx := xif_n c_7 hx
    refine c_aload_nQ dX11_crash_10 rfl rfl ?_
    refine c_getI (C := RX6) (T := TX6) (N := 19) (ci := 5) (k := 8) ⟨rfl, inT6, by decide, fX11_157⟩ (by decide) (by decide) (by decide) dX11_crash_11 (hS.kN tv_2 c_7) ?_
    refine c_if_ne (tgt := 19) dX11_crash_14 (by decide) (fun c_14 => ?_) (fun c_14 => ?_)
    · have ok := ok.2 c_14
      have hx := xif_n c_14 hx
      refine c_aload_nQ dX11_crash_19 rfl rfl ?_
      refine c_V0vK (ci := 5) (rr := (RX6, TX6, 19)) (y' := mX6_fall) dX11_crash_20 lX11_202 kX6_fall ⟨by decide, by decide⟩ rfl rfl (by decide) (hS.kN tv_2 c_7) (Nat.le_of_ble_eq_true rfl) (kc_X6_fall hG hS (tN.o tv_2 c_7) ok.1) (fun ⟨hS, hm_20⟩ => ?_)
      have hM := hM.trans hm_20
      have ok := ok.2
      exact cX.cutz (kb_X11_crash_23 hG hR hS hM  ok hx) trivial
    · have ok := ok.1 c_14
      have hx := xif_p c_14 hx
      exact cX.cutz (kb_X11_crash_17 hG hR hS hM  ok hx) trivial
def k_X11_crash (N g H T : Nat) (S : cS) (a0 : Nat) (x1 : Int32) : Int32 × cS := KF_X11_crash_0 N g H T a0 x1 S
def p_X11_crash (N g H T : Nat) (S : cS) (a0 : Nat) (x1 : Int32) : Prop := KO_X11_crash_0 N g H T a0 x1 S
set_option maxRecDepth 100000 in
set_option maxHeartbeats 4000000 in
theorem kc_X11_crash {G : zG} {o : cO} {g H T N : Nat} {S : cS} (hG : zOK G) {a0 : Nat} {x1 : Int32} (hS : St 1 g H T S) (t_x0 : isO g H 9 a0) (ok : p_X11_crash N g H T S a0 x1) : cCi G o dX11_crash mX11_crash [.ref a0, .int x1] S (fun v S' => (v = (k_X11_crash N g H T S a0 x1).1 ∧ S' = (k_X11_crash N g H T S a0 x1).2) ∧ St 1 g H T S' ∧ Mono S S') := by
  refine cC.ofX rfl (by exact Nat.le_of_ble_eq_true rfl) ?_
  show cX G o dX11_crash mX11_crash 0 [some (va_rf (some a0)), some (.int x1), none] [] S _
  exact cX.cutz (kb_X11_crash_0 (X := fun F => F = k_X11_crash N g H T S a0 x1) hG (fun v S' h1 h2 h => ⟨v, rfl, ⟨by rw [← h], by rw [← h]⟩, h1, h2⟩) hS Mono.rfl' t_x0 ok rfl) ⟨rfl, rfl, trivial⟩
/-! X11_cut -/
def KF_X11_cut_21 (N g H T : Nat)  (S : cS) : Int32 × cS := ((nI 0), S)
def KO_X11_cut_21 (N g H T : Nat)  (S : cS) : Prop := True
set_option maxRecDepth 100000 in
set_option maxHeartbeats 4000000 in
theorem kb_X11_cut_21 {G : zG} {o : cO} {g H T N : Nat} {S : cS} {S0 : cS} {Q : Option Value → cS → Prop} {X : Int32 × cS → Prop} (hG : zOK G) (hR : ∀ v S', St 1 g H T S' → Mono S0 S' → X (v, S') → Q (some (.int v)) S') (hS : St 1 g H T S) (hM : Mono S0 S) (ok : KO_X11_cut_21 N g H T S) (hx : X (KF_X11_cut_21 N g H T S)) : cX G o dX11_cut mX11_cut 21 [none, none, none, none] [] S Q := by
  unfold KO_X11_cut_21 at ok
  unfold KF_X11_cut_21 at hx
  refine c_iconst (v := nI 0) dX11_cut_21 (by decide) ?_
  exact c_ireturn rfl rfl dX11_cut_22 (hR _ _ hS hM hx)
def KF_X11_cut_0 (N g H T : Nat) (x0 : Nat) (x1 : Int32) (x2 : Int32) (S : cS) : Int32 × cS := (if (k_X11_honestNode N g H T S x0 x1) = none then (KF_X11_cut_21 N g H T S) else (if x2 < 0 then (KF_X11_cut_21 N g H T S) else (if x2 ≤ (nI 1000) then ((nI 1), (csI S 9 ((za (k_X11_honestNode N g H T S x0 x1)) + 1) x2)) else (KF_X11_cut_21 N g H T S))))
def KO_X11_cut_0 (N g H T : Nat) (x0 : Nat) (x1 : Int32) (x2 : Int32) (S : cS) : Prop := (p_X11_honestNode N g H T S x0 x1) ∧ (((k_X11_honestNode N g H T S x0 x1) = none → KO_X11_cut_21 N g H T S) ∧ (¬ (k_X11_honestNode N g H T S x0 x1) = none → ((x2 < 0 → KO_X11_cut_21 N g H T S) ∧ (¬ x2 < 0 → ((x2 ≤ (nI 1000) → True) ∧ (¬ x2 ≤ (nI 1000) → KO_X11_cut_21 N g H T S))))))
set_option maxRecDepth 100000 in
set_option maxHeartbeats 4000000 in
theorem kb_X11_cut_0 {G : zG} {o : cO} {g H T N : Nat} {S : cS} {S0 : cS} {Q : Option Value → cS → Prop} {X : Int32 × cS → Prop} (hG : zOK G) (hR : ∀ v S', St 1 g H T S' → Mono S0 S' → X (v, S') → Q (some (.int v)) S') {x0 : Nat} {x1 : Int32} {x2 : Int32} (hS : St 1 g H T S) (hM : Mono S0 S) (t_x0 : isO g H 9 x0) (ok : KO_X11_cut_0 N g H T x0 x1 x2 S) (hx : X (KF_X11_cut_0 N g H T x0 x1 x2 S)) : cX G o dX11_cut mX11_cut 0 [some (va_rf (some x0)), some (.int x1), some (.int x2), none] [] S Q := by
  unfold KO_X11_cut_0 at ok
  unfold KF_X11_cut_0 at hx
  refine c_aload_nQ dX11_cut_0 rfl rfl ?_
  refine c_iload_n dX11_cut_1 rfl rfl ?_
  refine c_V1qK (ci := 9) (rr := (RX11, TX11, 4)) (y' := mX11_honestNode) dX11_cut_2 lX11_120 kX11_honestNode ⟨by decide, by decide⟩ rfl rfl (by decide) (hS.k t_x0) (Nat.le_of_ble_eq_true rfl) (kc_X11_honestNode hG hS t_x0 ok.1) (fun tv_2 => ?_)
  have ok := ok.2
  refine c_astore_3Q dX11_cut_5 (by decide) rfl ?_
  refine c_aload_nQ dX11_cut_6 rfl rfl ?_
  refine c_ifnullI (tgt := 21) dX11_cut_7 (by decide) (fun c_7 => ?_) (fun c_7 => ?_)
  · have ok := ok.1 c_7
    have hx := xif_p c_7 hx
    exact cX.cutz (kb_X11_cut_21 hG hR hS hM  ok hx) trivial
  · have ok := ok.2 c_7
    have hx := xif_n c_7 hx
    refine c_iload_n dX11_cut_10 rfl rfl ?_
    refine c_if_lt (tgt := 21) dX11_cut_11 (by decide) (fun c_11 => ?_) (fun c_11 => ?_)
    · have ok := ok.1 c_11
      have hx := xif_p c_11 hx
      exact cX.cutz (kb_X11_cut_21 hG hR hS hM  ok hx) trivial
    · have ok := ok.2 c_11
      have hx := xif_n c_11 hx
      refine c_iload_n dX11_cut_14 rfl rfl ?_
      refine c_sipush (v := nI 1000) dX11_cut_15 (by decide) ?_
      refine c_icmp_le (tgt := 23) dX11_cut_18 (by decide) (fun c_18 => ?_) (fun c_18 => ?_)
      · have ok := ok.1 c_18
        have hx := xif_p c_18 hx
        refine c_aload_nQ dX11_cut_23 rfl rfl ?_
        refine c_getS (C := RX6) (T := TX6) (N := 19) (ci := 5) (k := 2) ⟨rfl, inT6, by decide, fX11_205⟩ (by decide) (by decide) (by decide) dX11_cut_24 (hS.kN tv_2 c_7) (hS.r (c := 5) (tN.o tv_2 c_7) rfl (by omega)) ?_
        refine c_iload_n dX11_cut_27 rfl rfl ?_
        refine c_putI (C := RX4) (T := TX4) (N := 10) (ci := 3) (k := 9) ⟨rfl, inT4, by decide, fX11_209⟩ ftT4 rfl (by decide) (by decide) (by decide) rfl rfl dX11_cut_28 (hS.k (o52 (tN.o tv_2 c_7))) ?_
        have hS := hS.I 9 ((za (k_X11_honestNode N g H T S x0 x1)) + 1) x2
        have hM := hM.I 9 ((za (k_X11_honestNode N g H T S x0 x1)) + 1) x2
        refine c_iconst (v := nI 1) dX11_cut_31 (by decide) ?_
        exact c_ireturn rfl rfl dX11_cut_32 (hR _ _ hS hM hx)
      · have ok := ok.2 c_18
        have hx := xif_n c_18 hx
        exact cX.cutz (kb_X11_cut_21 hG hR hS hM  ok hx) trivial
def k_X11_cut (N g H T : Nat) (S : cS) (a0 : Nat) (x1 : Int32) (x2 : Int32) : Int32 × cS := KF_X11_cut_0 N g H T a0 x1 x2 S
def p_X11_cut (N g H T : Nat) (S : cS) (a0 : Nat) (x1 : Int32) (x2 : Int32) : Prop := KO_X11_cut_0 N g H T a0 x1 x2 S
set_option maxRecDepth 100000 in
set_option maxHeartbeats 4000000 in
theorem kc_X11_cut {G : zG} {o : cO} {g H T N : Nat} {S : cS} (hG : zOK G) {a0 : Nat} {x1 : Int32} {x2 : Int32} (hS : St 1 g H T S) (t_x0 : isO g H 9 a0) (ok : p_X11_cut N g H T S a0 x1 x2) : cCi G o dX11_cut mX11_cut [.ref a0, .int x1, .int x2] S (fun v S' => (v = (k_X11_cut N g H T S a0 x1 x2).1 ∧ S' = (k_X11_cut N g H T S a0 x1 x2).2) ∧ St 1 g H T S' ∧ Mono S S') := by
  refine cC.ofX rfl (by exact Nat.le_of_ble_eq_true rfl) ?_
  show cX G o dX11_cut mX11_cut 0 [some (va_rf (some a0)), some (.int x1), some (.int x2), none] [] S _
  exact cX.cutz (kb_X11_cut_0 (X := fun F => F = k_X11_cut N g H T S a0 x1 x2) hG (fun v S' h1 h2 h => ⟨v, rfl, ⟨by rw [← h], by rw [← h]⟩, h1, h2⟩) hS Mono.rfl' t_x0 ok rfl) ⟨rfl, rfl, rfl, trivial⟩

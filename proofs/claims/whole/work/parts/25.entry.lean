/-! THE LAW FROM ITS ENTRY: both are made, then turn by turn; and the claim out of any relation that is kept -/
theorem lw_less : ∀ L, L < 7 → (nI L - nI 7).toInt < 0 := by decide +kernel
theorem lw_cond {L j : Nat} (hL : L ≤ 3586) (h : ¬ nI L - nI 7 < nI (2 + 7 * j)) (hj : j ≤ 600) : 2 + 7 * j + 7 ≤ L := by
  rcases Nat.lt_or_ge L 7 with h7 | h7
  · refine absurd ?_ h
    rw [Int32.lt_iff_toInt_lt, nI_toInt (by omega)]
    have := lw_less L h7
    omega
  · have e : nI L - nI 7 = nI (L - 7) := by
      have e1 : nI L = nI (L - 7) + nI 7 := by
        unfold nI
        rw [← Int32.ofNat_add, Nat.sub_add_cancel h7]
      rw [e1, Int32.add_sub_cancel]
    rw [e] at h
    have h2 : ¬ L - 7 < 2 + 7 * j := fun z => h (nI_lt z (by omega))
    omega
set_option maxHeartbeats 4000000 in
theorem lw_loop {G : zG} {N g H T a : Nat} {Rel : Nat → Nat → Nat → cS → rS → Prop} (hG : zOK G) (hb : G.2.2.2.1.2.2.1 < gN G) (hL : G.2.2.2.1.2.2.2 ≤ 3586) (hA : pS_all N g Rel) : ∀ (n j : Nat) (s : cS) (S : rS) (w : zS), 515 ≤ n + j → j ≤ 513 → pI G a s S w → Rel H T j s S → zX G dL_law mL_law 38 [some (.ref G.2.2.2.1.2.2.1), some (.ref g), some (.ref a), some (.int (nI (2 + 7 * j)))] [] w (fun r w' => r = some (.int (nI 1)) ∧ w'.2.1 ≤ g + 600000 ∧ w'.2.2 ≤ 7302250) := by
  intro n
  induction n with
  | zero => intro j s S w h1 h2; omega
  | succ n ih =>
    intro j s S w h1 h2 hw hR
    refine z_iload_n dL_law_38 rfl rfl ?_
    refine z_aload_n dL_law_39 rfl rfl ?_
    refine z_xlen hb dL_law_40 ?_
    refine z_bipush (v := nI 7) dL_law_41 (by decide) ?_
    refine z_isub dL_law_43 ?_
    refine z_icmp_gt (tgt := 1107) dL_law_44 (by decide) (fun c => ?_) (fun c => ?_)
    · refine z_iconst (v := nI 1) dL_law_1107 (by decide) ?_
      refine z_ireturn rfl rfl dL_law_1108 ⟨rfl, ?_, ?_⟩
      · rw [hw.2.2.1]
        exact (hA.2.2.1 H T j s S hR).1
      · rw [hw.2.2.2.1]
        exact (hA.2.2.1 H T j s S hR).2
    · have hj := lw_cond hL c (by omega)
      refine lw_turn hG hb hL hj hA hw hR (fun s' S' w' hw' hR' => ?_)
      refine z_iinc_3 (v := nI (2 + 7 * (j + 1))) dL_law_1101 rfl ?_ (by decide) rfl ?_
      · show nI (2 + 7 * j) + Int32.ofInt 7 = _
        unfold nI
        rw [show Int32.ofInt 7 = Int32.ofNat 7 by decide, ← Int32.ofNat_add]
        congr 1
      · refine z_goto (tgt := 38) dL_law_1104 (by decide) ?_
        exact ih (j + 1) s' S' w' (by omega) (by omega) hw' hR'
theorem ty12_d : ∀ j, j < 89 → defaultValue (tyX12 j) = if rk j = 0 ∨ rk j = 4 then .int 0 else .null := by decide +kernel
theorem ty11_d : ∀ j, j < 4 → defaultValue (tyX11 j) = if cfk 9 j = 0 then .int 0 else .null := by decide +kernel
def zW0 (g : Nat) : zS := (fun _ => none, g, 0)
set_option maxHeartbeats 4000000 in
theorem lw_made {G : zG} {N : Nat} {Rel : Nat → Nat → Nat → cS → rS → Prop} (hG : zOK G) (hb : G.2.2.2.1.2.2.1 < gN G) (hL : G.2.2.2.1.2.2.2 ≤ 3586) (hA : pS_all N (gN G) Rel) : zX G dL_law mL_law 0 [some (.ref G.2.2.2.1.2.2.1), none, none, none] [] (zW0 (gN G)) (fun r w' => r = some (.int (nI 1)) ∧ w'.2.1 ≤ gN G + 600000 ∧ w'.2.2 ≤ 7302250) := by
  obtain ⟨h1, h2, h3⟩ := hA.1 (xcell G 0) (xcell G 1)
  have hM0 : cM G ((fun _ => none), (fun _ => False), 0) (cE (gN G)) (zW0 (gN G)) := ⟨fun q hq => absurd rfl hq, fun q _ => rfl, rfl, rfl, fun _ _ => rfl, Nat.zero_le _, fun q hq => hq.elim⟩
  have hM := hM0.new 10 4 (by decide)
  have hK : cK (csNew (cE (gN G)) 10 4) (gN G) = 10 := by simp [cK, csNew, up1, cn, cE]
  rw [show cn (cE (gN G)) = gN G from rfl, cenc_obj (ci := 9) hK (by decide)] at hM
  refine z_new (ci := 9) (C := RX11) (T := TX11) (N := 4) (ty := tyX11) (fs := cfs (csNew (cE (gN G)) 10 4) 9 (gN G)) rfl inT11 ftT11 clL_7 iL11 nL11 (fun j hj => ?_) dL_law_0 ?_
  · rw [ty11_d j hj]
    simp only [vp_V]
    rw [List.getD_eq_getElem?_getD, cfs_get (show j < cN 9 from hj)]
    simp only [cval, Option.getD_some]
    split
    · simp [cI, csNew, up1, cn, cE]
    · simp [cR, csNew, up1, cn, cE, va_rf]
  refine z_dup dL_law_3 rfl ?_
  refine z_aload_n dL_law_4 rfl rfl ?_
  refine z_iconst (v := nI 0) dL_law_5 (by decide) ?_
  refine z_S2i (y' := mL_cell) dL_law_6 lL_9 kL_cell ⟨by decide, by decide⟩ (Nat.le_of_ble_eq_true rfl) (zc_cell hb hL 0 (by decide)) (fun v w1 hv => ?_)
  obtain ⟨rfl, rfl⟩ := hv
  refine z_aload_n dL_law_9 rfl rfl ?_
  refine z_iconst (v := nI 1) dL_law_10 (by decide) ?_
  refine z_S2i (y' := mL_cell) dL_law_11 lL_9 kL_cell ⟨by decide, by decide⟩ (Nat.le_of_ble_eq_true rfl) (zc_cell hb hL 1 (by decide)) (fun v w1 hv => ?_)
  obtain ⟨rfl, rfl⟩ := hv
  have K1 := kc_X11_init hG h1 _ hM
  refine z_I2v (y' := mX11_init) (Q' := fun w' => cM G ((fun _ => none), (fun _ => False), 0) (p0c N (gN G) (xcell G 0) (xcell G 1)) w') dL_law_14 lL_15 ⟨rfl, rfl⟩ kX11_init ⟨by decide, by decide⟩ (Nat.le_of_ble_eq_true rfl) (zC.weaken K1 (fun r w' ⟨s', g1, g2, g3⟩ => ⟨g2, by rw [g3] at g1; exact g1⟩)) (fun w1 hM1 => ?_)
  refine z_astore_1 dL_law_17 (by decide) rfl ?_
  have hn1 := hM1.2.2.1
  have hk1 := hM1.2.2.2.1
  refine z_new (ci := 10) (C := RX12) (T := TX12) (N := 89) (ty := tyX12) (fs := rFs w1.2.1 0) rfl inT12 ftT12 clL_18 iL12 nL12 (fun j hj => ?_) dL_law_18 ?_
  · rw [ty12_d j hj]
    simp only [vp_V]
    rw [List.getD_eq_getElem?_getD, show (rFs w1.2.1 0)[j]? = some (rF1 w1.2.1 0 j) by simp [rFs, hj]]
    simp only [Option.getD_some, rF1]
    split
    · rfl
    · simp
  have hn2 : (zNew w1 (.inr (10, rFs w1.2.1 0)) 89).2.1 = w1.2.1 + 1 := rfl
  have ha2 : (zNew w1 (.inr (10, rFs w1.2.1 0)) 89).1 w1.2.1 = some (.inr (10, rFs w1.2.1 0)) := by simp [zNew]
  refine z_dup dL_law_21 rfl ?_
  refine z_aload_n dL_law_22 rfl rfl ?_
  refine z_iconst (v := nI 0) dL_law_23 (by decide) ?_
  refine z_S2i (y' := mL_cell) dL_law_24 lL_9 kL_cell ⟨by decide, by decide⟩ (Nat.le_of_ble_eq_true rfl) (zc_cell hb hL 0 (by decide)) (fun v w2 hv => ?_)
  obtain ⟨rfl, rfl⟩ := hv
  refine z_aload_n dL_law_27 rfl rfl ?_
  refine z_iconst (v := nI 1) dL_law_28 (by decide) ?_
  refine z_S2i (y' := mL_cell) dL_law_29 lL_9 kL_cell ⟨by decide, by decide⟩ (Nat.le_of_ble_eq_true rfl) (zc_cell hb hL 1 (by decide)) (fun v w2 hv => ?_)
  obtain ⟨rfl, rfl⟩ := hv
  have K2 := rc_X12_init hG hn2 ha2 h2
  refine z_I2v (y' := mX12_init) dL_law_32 lL_20 ⟨rfl, rfl⟩ kX12_init ⟨by decide, by decide⟩ (Nat.le_of_ble_eq_true rfl) K2 (fun w2 hI => ?_)
  refine z_astore_2 dL_law_35 (by decide) rfl ?_
  refine z_iconst (v := nI 2) dL_law_36 (by decide) ?_
  refine z_istore_3 dL_law_37 (by decide) rfl ?_
  have hp : pI G w1.2.1 (p0 N (gN G) (xcell G 0) (xcell G 1)) (f_init N (xcell G 0) (xcell G 1)) w2 := by
    obtain ⟨m1, m2, m3, m4, m5, -, -⟩ := hM1
    obtain ⟨r1, r2, r3⟩ := hI
    have r2 : w2.2 = (rW G (zNew w1 (.inr (10, rFs w1.2.1 0)) 89) w1.2.1 68).2 := r2
    have n2 : w2.2.1 = w1.2.1 + 1 + 68 := by rw [r2]; exact rW_n hn2 68
    have k2 : w2.2.2 = w1.2.2 + 89 + rSum 68 := by rw [r2]; exact rW_k 68
    have hlow : ∀ q, cK (p0 N (gN G) (xcell G 0) (xcell G 1)) q ≠ 0 → q < w1.2.1 := fun q hq => by
      rcases Nat.lt_or_ge q w1.2.1 with z | z
      · exact z
      · exact absurd (m5 q (by rw [← m3]; exact z)) hq
    refine ⟨fun q hq => ?_, r1, ?_, ?_, fun q hq => ?_, ?_, fun q q1 q2 => ?_⟩
    · have hq1 := hlow q hq
      rw [r3 q (Nat.ne_of_lt hq1) (fun k hk hr e => by have := (rP_in (a := w1.2.1) hk hr).1; rw [← show q = rP w1.2.1 k from e] at this; omega)]
      show (rW G (zNew w1 (.inr (10, rFs w1.2.1 0)) 89) w1.2.1 68).1 q = _
      rw [rW_o hn2 q (Or.inl hq1) 68 (by decide)]
      show (if q = w1.2.1 then _ else w1.1 q) = _
      rw [if_neg (Nat.ne_of_lt hq1)]
      exact m1 q hq
    · rw [n2, m3]
      show _ = cn (p0c N (gN G) (xcell G 0) (xcell G 1)) + 69
      omega
    · rw [k2, m4]
      rfl
    · have hq : cn (p0c N (gN G) (xcell G 0) (xcell G 1)) + 69 ≤ q := hq
      exact m5 q (by omega)
    · show w1.2.1 + 69 ≤ cn (p0c N (gN G) (xcell G 0) (xcell G 1)) + 69
      rw [m3]
      exact Nat.le_refl _
    · exact m5 q (by rw [← m3]; exact q1)
  exact lw_loop hG hb hL hA 515 0 _ _ _ (by omega) (by omega) hp h3

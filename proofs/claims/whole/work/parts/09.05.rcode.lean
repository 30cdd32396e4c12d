/-! endOnTape -/
def F_endOnTape_58 (N : Nat) (s0 : Int32) (S : rS) : Int32 := s0
def O_endOnTape_58 (N : Nat) (s0 : Int32) (S : rS) : Prop := True
set_option maxHeartbeats 4000000 in
theorem b_endOnTape_58 {G : zG} {E : rE} {S : rS} {N : Nat} {Q : Option Value → rS → Prop} {X : Int32 → Prop} (hG : zOK G) (hR : ∀ v, X v → Q (some (.int v)) S) {s0 : Int32} (ok : O_endOnTape_58 N s0 S) (hx : X (F_endOnTape_58 N s0 S)) : rX G E dX12_endOnTape mX12_endOnTape 58 [none, none, none, none, none] [.int s0] S Q := by
  unfold O_endOnTape_58 at ok
  unfold F_endOnTape_58 at hx
  exact r_ireturn rfl rfl dX12_endOnTape_58 (hR _ hx)
def F_endOnTape_42 (N : Nat) (x1 : Int32) (x2 : Int32) (s0 : Int32) (S : rS) : Int32 := (if (x1 + s0) ≤ x2 then (F_endOnTape_58 N s0 S) else (F_endOnTape_58 N (nI 0) S))
def O_endOnTape_42 (N : Nat) (x1 : Int32) (x2 : Int32) (s0 : Int32) (S : rS) : Prop := (((x1 + s0) ≤ x2 → O_endOnTape_58 N s0 S) ∧ (¬ (x1 + s0) ≤ x2 → O_endOnTape_58 N (nI 0) S))
set_option maxHeartbeats 4000000 in
theorem b_endOnTape_42 {G : zG} {E : rE} {S : rS} {N : Nat} {Q : Option Value → rS → Prop} {X : Int32 → Prop} (hG : zOK G) (hR : ∀ v, X v → Q (some (.int v)) S) {x1 : Int32} {x2 : Int32} {s0 : Int32} (ok : O_endOnTape_42 N x1 x2 s0 S) (hx : X (F_endOnTape_42 N x1 x2 s0 S)) : rX G E dX12_endOnTape mX12_endOnTape 42 [none, some (.int x1), some (.int x2), none, none] [.int s0] S Q := by
  unfold O_endOnTape_42 at ok
  unfold F_endOnTape_42 at hx
  refine r_istore_4 dX12_endOnTape_42 (by decide) rfl ?_
  refine r_iload_n dX12_endOnTape_44 rfl rfl ?_
  refine r_iload dX12_endOnTape_45 rfl ?_
  refine r_iadd dX12_endOnTape_47 ?_
  refine r_iload_n dX12_endOnTape_48 rfl rfl ?_
  refine r_icmp_le (tgt := 56) dX12_endOnTape_49 (by decide) (fun c_49 => ?_) (fun c_49 => ?_)
  · have ok := ok.1 c_49
    have hx := xif_p c_49 hx
    refine r_iload dX12_endOnTape_56 rfl ?_
    exact rX.cutz (b_endOnTape_58 hG hR ok hx) trivial
  · have ok := ok.2 c_49
    have hx := xif_n c_49 hx
    refine r_iconst (v := nI 0) dX12_endOnTape_52 (by decide) ?_
    refine r_goto (tgt := 58) dX12_endOnTape_53 (by decide) ?_
    exact rX.cutz (b_endOnTape_58 hG hR ok hx) trivial
def F_endOnTape_41 (N : Nat) (x1 : Int32) (x2 : Int32) (S : rS) : Int32 := (F_endOnTape_42 N x1 x2 (nI 0) S)
def O_endOnTape_41 (N : Nat) (x1 : Int32) (x2 : Int32) (S : rS) : Prop := O_endOnTape_42 N x1 x2 (nI 0) S
set_option maxHeartbeats 4000000 in
theorem b_endOnTape_41 {G : zG} {E : rE} {S : rS} {N : Nat} {Q : Option Value → rS → Prop} {X : Int32 → Prop} (hG : zOK G) (hR : ∀ v, X v → Q (some (.int v)) S) {x1 : Int32} {x2 : Int32} (ok : O_endOnTape_41 N x1 x2 S) (hx : X (F_endOnTape_41 N x1 x2 S)) : rX G E dX12_endOnTape mX12_endOnTape 41 [none, some (.int x1), some (.int x2), none, none] [] S Q := by
  unfold O_endOnTape_41 at ok
  unfold F_endOnTape_41 at hx
  refine r_iconst (v := nI 0) dX12_endOnTape_41 (by decide) ?_
  exact rX.cutz (b_endOnTape_42 hG hR ok hx) ⟨rfl, rfl, trivial⟩
def F_endOnTape_0 (N : Nat) (x1 : Int32) (x2 : Int32) (x3 : Int32) (S : rS) : Int32 := (if x1 < x2 then (if (S.2.1 21 x1.toNatClampNeg) = (nI 1) then (F_endOnTape_42 N x1 x2 (nI 33) S) else (if (S.2.1 21 x1.toNatClampNeg) = 0 then (if x3 = 0 then (F_endOnTape_42 N x1 x2 (nI 1) S) else (F_endOnTape_41 N x1 x2 S)) else (F_endOnTape_41 N x1 x2 S))) else (F_endOnTape_42 N x1 x2 (nI 0) S))
def O_endOnTape_0 (N : Nat) (x1 : Int32) (x2 : Int32) (x3 : Int32) (S : rS) : Prop := ((x1 < x2 → (vp_in x1 1000) ∧ (((S.2.1 21 x1.toNatClampNeg) = (nI 1) → O_endOnTape_42 N x1 x2 (nI 33) S) ∧ (¬ (S.2.1 21 x1.toNatClampNeg) = (nI 1) → (vp_in x1 1000) ∧ (((S.2.1 21 x1.toNatClampNeg) = 0 → ((x3 = 0 → O_endOnTape_42 N x1 x2 (nI 1) S) ∧ (¬ x3 = 0 → O_endOnTape_41 N x1 x2 S))) ∧ (¬ (S.2.1 21 x1.toNatClampNeg) = 0 → O_endOnTape_41 N x1 x2 S))))) ∧ (¬ x1 < x2 → O_endOnTape_42 N x1 x2 (nI 0) S))
set_option maxHeartbeats 4000000 in
theorem b_endOnTape_0 {G : zG} {E : rE} {S : rS} {N : Nat} {Q : Option Value → rS → Prop} {X : Int32 → Prop} (hG : zOK G) (hR : ∀ v, X v → Q (some (.int v)) S) {x1 : Int32} {x2 : Int32} {x3 : Int32} (ok : O_endOnTape_0 N x1 x2 x3 S) (hx : X (F_endOnTape_0 N x1 x2 x3 S)) : rX G E dX12_endOnTape mX12_endOnTape 0 [some (.ref E.1), some (.int x1), some (.int x2), some (.int x3), none] [] S Q := by
  unfold O_endOnTape_0 at ok
  unfold F_endOnTape_0 at hx
  refine r_iload_n dX12_endOnTape_0 rfl rfl ?_
  refine r_iload_n dX12_endOnTape_1 rfl rfl ?_
  refine r_icmp_lt (tgt := 9) dX12_endOnTape_2 (by decide) (fun c_2 => ?_) (fun c_2 => ?_)
  · have ok := ok.1 c_2
    have hx := xif_p c_2 hx
    refine r_aload_n dX12_endOnTape_9 rfl rfl ?_
    refine r_getA 21 fX12_130 (by decide) (by decide) dX12_endOnTape_10 ?_
    refine r_iload_n dX12_endOnTape_13 rfl rfl ?_
    refine r_iald (by decide) (by decide) dX12_endOnTape_14 ok.1 ?_
    have ok := ok.2
    refine r_iconst (v := nI 1) dX12_endOnTape_15 (by decide) ?_
    refine r_icmp_ne (tgt := 24) dX12_endOnTape_16 (by decide) (fun c_16 => ?_) (fun c_16 => ?_)
    · have ok := ok.2 c_16
      have hx := xif_n c_16 hx
      refine r_aload_n dX12_endOnTape_24 rfl rfl ?_
      refine r_getA 21 fX12_130 (by decide) (by decide) dX12_endOnTape_25 ?_
      refine r_iload_n dX12_endOnTape_28 rfl rfl ?_
      refine r_iald (by decide) (by decide) dX12_endOnTape_29 ok.1 ?_
      have ok := ok.2
      refine r_if_ne (tgt := 41) dX12_endOnTape_30 (by decide) (fun c_30 => ?_) (fun c_30 => ?_)
      · have ok := ok.2 c_30
        have hx := xif_n c_30 hx
        exact rX.cutz (b_endOnTape_41 hG hR ok hx) ⟨rfl, rfl, trivial⟩
      · have ok := ok.1 c_30
        have hx := xif_p c_30 hx
        refine r_iload_n dX12_endOnTape_33 rfl rfl ?_
        refine r_if_ne (tgt := 41) dX12_endOnTape_34 (by decide) (fun c_34 => ?_) (fun c_34 => ?_)
        · have ok := ok.2 c_34
          have hx := xif_n c_34 hx
          exact rX.cutz (b_endOnTape_41 hG hR ok hx) ⟨rfl, rfl, trivial⟩
        · have ok := ok.1 c_34
          have hx := xif_p c_34 hx
          refine r_iconst (v := nI 1) dX12_endOnTape_37 (by decide) ?_
          refine r_goto (tgt := 42) dX12_endOnTape_38 (by decide) ?_
          exact rX.cutz (b_endOnTape_42 hG hR ok hx) ⟨rfl, rfl, trivial⟩
    · have ok := ok.1 c_16
      have hx := xif_p c_16 hx
      refine r_bipush (v := nI 33) dX12_endOnTape_19 (by decide) ?_
      refine r_goto (tgt := 42) dX12_endOnTape_21 (by decide) ?_
      exact rX.cutz (b_endOnTape_42 hG hR ok hx) ⟨rfl, rfl, trivial⟩
  · have ok := ok.2 c_2
    have hx := xif_n c_2 hx
    refine r_iconst (v := nI 0) dX12_endOnTape_5 (by decide) ?_
    refine r_goto (tgt := 42) dX12_endOnTape_6 (by decide) ?_
    exact rX.cutz (b_endOnTape_42 hG hR ok hx) ⟨rfl, rfl, trivial⟩
def f_endOnTape (N : Nat) (S : rS) (x1 : Int32) (x2 : Int32) (x3 : Int32) : Int32 := F_endOnTape_0 N x1 x2 x3 S
def o_endOnTape (N : Nat) (S : rS) (x1 : Int32) (x2 : Int32) (x3 : Int32) : Prop := O_endOnTape_0 N x1 x2 x3 S
set_option maxHeartbeats 4000000 in
theorem rc_X12_endOnTape {G : zG} {E : rE} {S : rS} {N : Nat} (hG : zOK G) {x1 : Int32} {x2 : Int32} {x3 : Int32} (ok : o_endOnTape N S x1 x2 x3) : rCi G E dX12_endOnTape mX12_endOnTape [.ref E.1, .int x1, .int x2, .int x3] S (fun v S' => v = f_endOnTape N S x1 x2 x3 ∧ S' = S) := by
  refine rC.ofX rfl (Nat.le_of_ble_eq_true rfl) ?_
  show rX G E dX12_endOnTape mX12_endOnTape 0 [some (.ref E.1), some (.int x1), some (.int x2), some (.int x3), none] [] S _
  exact rX.cutz (b_endOnTape_0 (X := fun F => F = f_endOnTape N S x1 x2 x3) hG (fun v h => ⟨v, rfl, h, rfl⟩) ok rfl) ⟨rfl, rfl, rfl, rfl, trivial⟩
/-! proofOnTape -/
def F_proofOnTape_55 (N : Nat) (s0 : Int32) (S : rS) : Int32 := s0
def O_proofOnTape_55 (N : Nat) (s0 : Int32) (S : rS) : Prop := True
set_option maxHeartbeats 4000000 in
theorem b_proofOnTape_55 {G : zG} {E : rE} {S : rS} {N : Nat} {Q : Option Value → rS → Prop} {X : Int32 → Prop} (hG : zOK G) (hR : ∀ v, X v → Q (some (.int v)) S) {s0 : Int32} (ok : O_proofOnTape_55 N s0 S) (hx : X (F_proofOnTape_55 N s0 S)) : rX G E dX12_proofOnTape mX12_proofOnTape 55 [none, none, none, none, none] [.int s0] S Q := by
  unfold O_proofOnTape_55 at ok
  unfold F_proofOnTape_55 at hx
  exact r_ireturn rfl rfl dX12_proofOnTape_55 (hR _ hx)
def F_proofOnTape_38 (N : Nat) (x3 : Int32) (s0 : Int32) (S : rS) : Int32 := (if s0 ≤ 0 then (F_proofOnTape_55 N (nI 0) S) else (F_proofOnTape_55 N (((nI 5) + x3) + s0) S))
def O_proofOnTape_38 (N : Nat) (x3 : Int32) (s0 : Int32) (S : rS) : Prop := ((s0 ≤ 0 → O_proofOnTape_55 N (nI 0) S) ∧ (¬ s0 ≤ 0 → O_proofOnTape_55 N (((nI 5) + x3) + s0) S))
set_option maxHeartbeats 4000000 in
theorem b_proofOnTape_38 {G : zG} {E : rE} {S : rS} {N : Nat} {Q : Option Value → rS → Prop} {X : Int32 → Prop} (hG : zOK G) (hR : ∀ v, X v → Q (some (.int v)) S) {x3 : Int32} {s0 : Int32} (ok : O_proofOnTape_38 N x3 s0 S) (hx : X (F_proofOnTape_38 N x3 s0 S)) : rX G E dX12_proofOnTape mX12_proofOnTape 38 [none, none, none, some (.int x3), none] [.int s0] S Q := by
  unfold O_proofOnTape_38 at ok
  unfold F_proofOnTape_38 at hx
  refine r_istore_4 dX12_proofOnTape_38 (by decide) rfl ?_
  refine r_iload dX12_proofOnTape_40 rfl ?_
  refine r_if_le (tgt := 54) dX12_proofOnTape_42 (by decide) (fun c_42 => ?_) (fun c_42 => ?_)
  · have ok := ok.1 c_42
    have hx := xif_p c_42 hx
    refine r_iconst (v := nI 0) dX12_proofOnTape_54 (by decide) ?_
    exact rX.cutz (b_proofOnTape_55 hG hR ok hx) trivial
  · have ok := ok.2 c_42
    have hx := xif_n c_42 hx
    refine r_iconst (v := nI 5) dX12_proofOnTape_45 (by decide) ?_
    refine r_iload_n dX12_proofOnTape_46 rfl rfl ?_
    refine r_iadd dX12_proofOnTape_47 ?_
    refine r_iload dX12_proofOnTape_48 rfl ?_
    refine r_iadd dX12_proofOnTape_50 ?_
    refine r_goto (tgt := 55) dX12_proofOnTape_51 (by decide) ?_
    exact rX.cutz (b_proofOnTape_55 hG hR ok hx) trivial
def F_proofOnTape_0 (N : Nat) (x1 : Int32) (x2 : Int32) (S : rS) : Int32 := (if (x1 + (nI 5)) ≤ x2 then (if (f_endOnTape N S (x1 + (nI 5)) x2 (nI 0)) ≤ 0 then (F_proofOnTape_38 N (f_endOnTape N S (x1 + (nI 5)) x2 (nI 0)) (nI 0) S) else (F_proofOnTape_38 N (f_endOnTape N S (x1 + (nI 5)) x2 (nI 0)) (f_endOnTape N S ((x1 + (nI 5)) + (f_endOnTape N S (x1 + (nI 5)) x2 (nI 0))) x2 (nI 1)) S)) else (nI 0))
def O_proofOnTape_0 (N : Nat) (x1 : Int32) (x2 : Int32) (S : rS) : Prop := (((x1 + (nI 5)) ≤ x2 → (o_endOnTape N S (x1 + (nI 5)) x2 (nI 0)) ∧ (((f_endOnTape N S (x1 + (nI 5)) x2 (nI 0)) ≤ 0 → O_proofOnTape_38 N (f_endOnTape N S (x1 + (nI 5)) x2 (nI 0)) (nI 0) S) ∧ (¬ (f_endOnTape N S (x1 + (nI 5)) x2 (nI 0)) ≤ 0 → (o_endOnTape N S ((x1 + (nI 5)) + (f_endOnTape N S (x1 + (nI 5)) x2 (nI 0))) x2 (nI 1)) ∧ O_proofOnTape_38 N (f_endOnTape N S (x1 + (nI 5)) x2 (nI 0)) (f_endOnTape N S ((x1 + (nI 5)) + (f_endOnTape N S (x1 + (nI 5)) x2 (nI 0))) x2 (nI 1)) S))) ∧ (¬ (x1 + (nI 5)) ≤ x2 → True))
set_option maxHeartbeats 4000000 in
theorem b_proofOnTape_0 {G : zG} {E : rE} {S : rS} {N : Nat} {Q : Option Value → rS → Prop} {X : Int32 → Prop} (hG : zOK G) (hR : ∀ v, X v → Q (some (.int v)) S) {x1 : Int32} {x2 : Int32} (ok : O_proofOnTape_0 N x1 x2 S) (hx : X (F_proofOnTape_0 N x1 x2 S)) : rX G E dX12_proofOnTape mX12_proofOnTape 0 [some (.ref E.1), some (.int x1), some (.int x2), none, none] [] S Q := by
  unfold O_proofOnTape_0 at ok
  unfold F_proofOnTape_0 at hx
  refine r_iload_n dX12_proofOnTape_0 rfl rfl ?_
  refine r_iconst (v := nI 5) dX12_proofOnTape_1 (by decide) ?_
  refine r_iadd dX12_proofOnTape_2 ?_
  refine r_iload_n dX12_proofOnTape_3 rfl rfl ?_
  refine r_icmp_le (tgt := 9) dX12_proofOnTape_4 (by decide) (fun c_4 => ?_) (fun c_4 => ?_)
  · have ok := ok.1 c_4
    have hx := xif_p c_4 hx
    refine r_aload_n dX12_proofOnTape_9 rfl rfl ?_
    refine r_iload_n dX12_proofOnTape_10 rfl rfl ?_
    refine r_iconst (v := nI 5) dX12_proofOnTape_11 (by decide) ?_
    refine r_iadd dX12_proofOnTape_12 ?_
    refine r_iload_n dX12_proofOnTape_13 rfl rfl ?_
    refine r_iconst (v := nI 0) dX12_proofOnTape_14 (by decide) ?_
    refine r_V3i (y' := mX12_endOnTape) dX12_proofOnTape_15 lX12_139 kX12_endOnTape ⟨by decide, by decide⟩ rfl (Nat.le_of_ble_eq_true rfl) (rc_X12_endOnTape hG ok.1) (fun v_15 S_15 h_15 => ?_)
    obtain ⟨rfl, hS_15⟩ := h_15
    have hS_15 := hS_15.symm
    subst hS_15
    have ok := ok.2
    refine r_istore_3 dX12_proofOnTape_18 (by decide) rfl ?_
    refine r_iload_n dX12_proofOnTape_19 rfl rfl ?_
    refine r_if_le (tgt := 37) dX12_proofOnTape_20 (by decide) (fun c_20 => ?_) (fun c_20 => ?_)
    · have ok := ok.1 c_20
      have hx := xif_p c_20 hx
      refine r_iconst (v := nI 0) dX12_proofOnTape_37 (by decide) ?_
      exact rX.cutz (b_proofOnTape_38 hG hR ok hx) ⟨rfl, trivial⟩
    · have ok := ok.2 c_20
      have hx := xif_n c_20 hx
      refine r_aload_n dX12_proofOnTape_23 rfl rfl ?_
      refine r_iload_n dX12_proofOnTape_24 rfl rfl ?_
      refine r_iconst (v := nI 5) dX12_proofOnTape_25 (by decide) ?_
      refine r_iadd dX12_proofOnTape_26 ?_
      refine r_iload_n dX12_proofOnTape_27 rfl rfl ?_
      refine r_iadd dX12_proofOnTape_28 ?_
      refine r_iload_n dX12_proofOnTape_29 rfl rfl ?_
      refine r_iconst (v := nI 1) dX12_proofOnTape_30 (by decide) ?_
      refine r_V3i (y' := mX12_endOnTape) dX12_proofOnTape_31 lX12_139 kX12_endOnTape ⟨by decide, by decide⟩ rfl (Nat.le_of_ble_eq_true rfl) (rc_X12_endOnTape hG ok.1) (fun v_31 S_31 h_31 => ?_)
      obtain ⟨rfl, hS_31⟩ := h_31
      have hS_31 := hS_31.symm
      subst hS_31
      have ok := ok.2
      refine r_goto (tgt := 38) dX12_proofOnTape_34 (by decide) ?_
      exact rX.cutz (b_proofOnTape_38 hG hR ok hx) ⟨rfl, trivial⟩
  · have ok := ok.2 c_4
    have hx := xif_n c_4 hx
    refine r_iconst (v := nI 0) dX12_proofOnTape_7 (by decide) ?_
    exact r_ireturn rfl rfl dX12_proofOnTape_8 (hR _ hx)
def f_proofOnTape (N : Nat) (S : rS) (x1 : Int32) (x2 : Int32) : Int32 := F_proofOnTape_0 N x1 x2 S
def o_proofOnTape (N : Nat) (S : rS) (x1 : Int32) (x2 : Int32) : Prop := O_proofOnTape_0 N x1 x2 S
set_option maxHeartbeats 4000000 in
theorem rc_X12_proofOnTape {G : zG} {E : rE} {S : rS} {N : Nat} (hG : zOK G) {x1 : Int32} {x2 : Int32} (ok : o_proofOnTape N S x1 x2) : rCi G E dX12_proofOnTape mX12_proofOnTape [.ref E.1, .int x1, .int x2] S (fun v S' => v = f_proofOnTape N S x1 x2 ∧ S' = S) := by
  refine rC.ofX rfl (Nat.le_of_ble_eq_true rfl) ?_
  show rX G E dX12_proofOnTape mX12_proofOnTape 0 [some (.ref E.1), some (.int x1), some (.int x2), none, none] [] S _
  exact rX.cutz (b_proofOnTape_0 (X := fun F => F = f_proofOnTape N S x1 x2) hG (fun v h => ⟨v, rfl, h, rfl⟩) ok rfl) ⟨rfl, rfl, rfl, trivial⟩
/-! partOnTape -/
def F_partOnTape_25 (N : Nat)  (S : rS) : rS := (f_endPart N S)
def O_partOnTape_25 (N : Nat)  (S : rS) : Prop := (o_endPart N S) ∧ True
set_option maxHeartbeats 4000000 in
theorem b_partOnTape_25 {G : zG} {E : rE} {S : rS} {N : Nat} {Q : Option Value → rS → Prop} {X : rS → Prop} (hG : zOK G) (hR : ∀ S', X S' → Q none S') (ok : O_partOnTape_25 N S) (hx : X (F_partOnTape_25 N S)) : rX G E dX12_partOnTape mX12_partOnTape 25 [some (.ref E.1), none, none, none] [] S Q := by
  unfold O_partOnTape_25 at ok
  unfold F_partOnTape_25 at hx
  refine r_aload_n dX12_partOnTape_25 rfl rfl ?_
  refine r_V0v (y' := mX12_endPart) dX12_partOnTape_26 lX12_127 kX12_endPart ⟨by decide, by decide⟩ rfl (Nat.le_of_ble_eq_true rfl) (rc_X12_endPart hG ok.1) (fun S_26 h_26 => ?_)
  subst h_26
  have ok := ok.2
  exact r_return rfl dX12_partOnTape_29 (hR _ hx)
def F_partOnTape_19 (N : Nat) (rec : Int32 → Int32 → Int32 → rS → Nat × rS) (x1 : Int32) (x2 : Int32) (x3 : Int32) (S : rS) : Nat × rS := (rec x1 x2 (x3 + nI 1) S)
def O_partOnTape_19 (N : Nat) (rok : Int32 → Int32 → Int32 → rS → Prop) (x1 : Int32) (x2 : Int32) (x3 : Int32) (S : rS) : Prop := rok x1 x2 (x3 + nI 1) S
set_option maxHeartbeats 4000000 in
theorem b_partOnTape_19 {G : zG} {E : rE} {S : rS} {N : Nat} {Q : Option Value → rS → Prop} {X : Nat × rS → Prop} (hG : zOK G) (hX0 : ∀ (S' : rS), X (0, S') → rX G E dX12_partOnTape mX12_partOnTape 25 [some (.ref E.1), none, none, none] [] S' Q) {rec : Int32 → Int32 → Int32 → rS → Nat × rS} {rok : Int32 → Int32 → Int32 → rS → Prop} (hrec : ∀ (x1 : Int32) (x2 : Int32) (x3 : Int32) (S : rS), rok x1 x2 x3 S → X (rec x1 x2 x3 S) → rX G E dX12_partOnTape mX12_partOnTape 2 [some (.ref E.1), some (.int x1), some (.int x2), some (.int x3)] [] S Q) {x1 : Int32} {x2 : Int32} {x3 : Int32} (ok : O_partOnTape_19 N rok x1 x2 x3 S) (hx : X (F_partOnTape_19 N rec x1 x2 x3 S)) : rX G E dX12_partOnTape mX12_partOnTape 19 [some (.ref E.1), some (.int x1), some (.int x2), some (.int x3)] [] S Q := by
  unfold O_partOnTape_19 at ok
  unfold F_partOnTape_19 at hx
  refine r_iinc_3 (v := (x3 + nI 1)) dX12_partOnTape_19 rfl (by first | rfl | (congr 1)) (by decide) rfl ?_
  refine r_goto (tgt := 2) dX12_partOnTape_22 (by decide) ?_
  exact rX.cutz (hrec _ _ _ S ok hx) ⟨rfl, rfl, rfl, rfl, trivial⟩
def B_partOnTape_2 (N : Nat) (rec : Int32 → Int32 → Int32 → rS → Nat × rS) (x1 : Int32) (x2 : Int32) (x3 : Int32) (S : rS) : Nat × rS := (if x2 ≤ x3 then (0, S) else (F_partOnTape_19 N rec x1 x2 x3 (f_partByte N S (S.2.1 21 (x1 + x3).toNatClampNeg))))
def OB_partOnTape_2 (N : Nat) (rok : Int32 → Int32 → Int32 → rS → Prop) (x1 : Int32) (x2 : Int32) (x3 : Int32) (S : rS) : Prop := ((x2 ≤ x3 → True) ∧ (¬ x2 ≤ x3 → (vp_in (x1 + x3) 1000) ∧ (o_partByte N S (S.2.1 21 (x1 + x3).toNatClampNeg)) ∧ O_partOnTape_19 N rok x1 x2 x3 (f_partByte N S (S.2.1 21 (x1 + x3).toNatClampNeg))))
set_option maxHeartbeats 4000000 in
theorem bb_partOnTape_2 {G : zG} {E : rE} {S : rS} {N : Nat} {Q : Option Value → rS → Prop} {X : Nat × rS → Prop} (hG : zOK G) (hX0 : ∀ (S' : rS), X (0, S') → rX G E dX12_partOnTape mX12_partOnTape 25 [some (.ref E.1), none, none, none] [] S' Q) {rec : Int32 → Int32 → Int32 → rS → Nat × rS} {rok : Int32 → Int32 → Int32 → rS → Prop} (hrec : ∀ (x1 : Int32) (x2 : Int32) (x3 : Int32) (S : rS), rok x1 x2 x3 S → X (rec x1 x2 x3 S) → rX G E dX12_partOnTape mX12_partOnTape 2 [some (.ref E.1), some (.int x1), some (.int x2), some (.int x3)] [] S Q) {x1 : Int32} {x2 : Int32} {x3 : Int32} (ok : OB_partOnTape_2 N rok x1 x2 x3 S) (hx : X (B_partOnTape_2 N rec x1 x2 x3 S)) : rX G E dX12_partOnTape mX12_partOnTape 2 [some (.ref E.1), some (.int x1), some (.int x2), some (.int x3)] [] S Q := by
  unfold OB_partOnTape_2 at ok
  unfold B_partOnTape_2 at hx
  refine r_iload_n dX12_partOnTape_2 rfl rfl ?_
  refine r_iload_n dX12_partOnTape_3 rfl rfl ?_
  refine r_icmp_ge (tgt := 25) dX12_partOnTape_4 (by decide) (fun c_4 => ?_) (fun c_4 => ?_)
  · have ok := ok.1 c_4
    have hx := xif_p c_4 hx
    exact rX.cutz (hX0 S hx) ⟨rfl, trivial⟩
  · have ok := ok.2 c_4
    have hx := xif_n c_4 hx
    refine r_aload_n dX12_partOnTape_7 rfl rfl ?_
    refine r_aload_n dX12_partOnTape_8 rfl rfl ?_
    refine r_getA 21 fX12_130 (by decide) (by decide) dX12_partOnTape_9 ?_
    refine r_iload_n dX12_partOnTape_12 rfl rfl ?_
    refine r_iload_n dX12_partOnTape_13 rfl rfl ?_
    refine r_iadd dX12_partOnTape_14 ?_
    refine r_iald (by decide) (by decide) dX12_partOnTape_15 ok.1 ?_
    have ok := ok.2
    refine r_V1v (y' := mX12_partByte) dX12_partOnTape_16 lX12_124 kX12_partByte ⟨by decide, by decide⟩ rfl (Nat.le_of_ble_eq_true rfl) (rc_X12_partByte hG ok.1) (fun S_16 h_16 => ?_)
    subst h_16
    have ok := ok.2
    exact rX.cutz (b_partOnTape_19 hG hX0 hrec ok hx) ⟨rfl, rfl, rfl, rfl, trivial⟩
def L_partOnTape_2 (N : Nat) : Nat → Int32 → Int32 → Int32 → rS → Nat × rS
  | 0, x1, x2, x3, S => (0, S)
  | n + 1, x1, x2, x3, S => B_partOnTape_2 N (L_partOnTape_2 N n) x1 x2 x3 S
def OL_partOnTape_2 (N : Nat) : Nat → Int32 → Int32 → Int32 → rS → Prop
  | 0, _, _, _, _ => False
  | n + 1, x1, x2, x3, S => OB_partOnTape_2 N (OL_partOnTape_2 N n) x1 x2 x3 S
set_option maxHeartbeats 4000000 in
theorem l_partOnTape_2 {G : zG} {E : rE} {N : Nat} {Q : Option Value → rS → Prop} {X : Nat × rS → Prop} (hG : zOK G) (hX0 : ∀ (S' : rS), X (0, S') → rX G E dX12_partOnTape mX12_partOnTape 25 [some (.ref E.1), none, none, none] [] S' Q) : ∀ (n : Nat) (x1 : Int32) (x2 : Int32) (x3 : Int32) (S : rS), OL_partOnTape_2 N n x1 x2 x3 S → X (L_partOnTape_2 N n x1 x2 x3 S) → rX G E dX12_partOnTape mX12_partOnTape 2 [some (.ref E.1), some (.int x1), some (.int x2), some (.int x3)] [] S Q := by
  intro n
  induction n with
  | zero => intro x1 x2 x3 S ok; exact absurd ok id
  | succ n ih =>
    intro x1 x2 x3 S ok hx
    exact bb_partOnTape_2 hG hX0 (rec := L_partOnTape_2 N n) (rok := OL_partOnTape_2 N n) (fun x1 x2 x3 S ok hx => ih x1 x2 x3 S ok hx) ok hx
def A_partOnTape_2 (N : Nat) (x1 : Int32) (x2 : Int32) (x3 : Int32) (S : rS) (z : Nat × rS) : rS := (F_partOnTape_25 N z.2)
def OA_partOnTape_2 (N : Nat) (x1 : Int32) (x2 : Int32) (x3 : Int32) (S : rS) (z : Nat × rS) : Prop := O_partOnTape_25 N z.2
set_option maxHeartbeats 4000000 in
theorem c_partOnTape_2 {G : zG} {E : rE} {S : rS} {N : Nat} {Q : Option Value → rS → Prop} {X : rS → Prop} (hG : zOK G) (hR : ∀ S', X S' → Q none S') {x1 : Int32} {x2 : Int32} {x3 : Int32} (ok : OL_partOnTape_2 N N x1 x2 x3 S ∧ OA_partOnTape_2 N x1 x2 x3 S (L_partOnTape_2 N N x1 x2 x3 S)) (hx : X (A_partOnTape_2 N x1 x2 x3 S (L_partOnTape_2 N N x1 x2 x3 S))) : rX G E dX12_partOnTape mX12_partOnTape 2 [some (.ref E.1), some (.int x1), some (.int x2), some (.int x3)] [] S Q := by
  refine l_partOnTape_2 hG ?_ N x1 x2 x3 S ok.1 (X := fun z => OA_partOnTape_2 N x1 x2 x3 S z ∧ X (A_partOnTape_2 N x1 x2 x3 S z)) ⟨ok.2, hx⟩
  · intro S' hz
    obtain ⟨ok, hx⟩ := hz
    unfold OA_partOnTape_2 at ok
    unfold A_partOnTape_2 at hx
    exact rX.cutz (b_partOnTape_25 hG hR ok hx) ⟨rfl, trivial⟩
def F_partOnTape_0 (N : Nat) (x1 : Int32) (x2 : Int32) (S : rS) : rS := (A_partOnTape_2 N x1 x2 (nI 0) S (L_partOnTape_2 N N x1 x2 (nI 0) S))
def O_partOnTape_0 (N : Nat) (x1 : Int32) (x2 : Int32) (S : rS) : Prop := (OL_partOnTape_2 N N x1 x2 (nI 0) S ∧ OA_partOnTape_2 N x1 x2 (nI 0) S (L_partOnTape_2 N N x1 x2 (nI 0) S))
set_option maxHeartbeats 4000000 in
theorem b_partOnTape_0 {G : zG} {E : rE} {S : rS} {N : Nat} {Q : Option Value → rS → Prop} {X : rS → Prop} (hG : zOK G) (hR : ∀ S', X S' → Q none S') {x1 : Int32} {x2 : Int32} (ok : O_partOnTape_0 N x1 x2 S) (hx : X (F_partOnTape_0 N x1 x2 S)) : rX G E dX12_partOnTape mX12_partOnTape 0 [some (.ref E.1), some (.int x1), some (.int x2), none] [] S Q := by
  unfold O_partOnTape_0 at ok
  unfold F_partOnTape_0 at hx
  refine r_iconst (v := nI 0) dX12_partOnTape_0 (by decide) ?_
  refine r_istore_3 dX12_partOnTape_1 (by decide) rfl ?_
  exact rX.cutz (c_partOnTape_2 hG hR ok hx) ⟨rfl, rfl, rfl, rfl, trivial⟩
def f_partOnTape (N : Nat) (S : rS) (x1 : Int32) (x2 : Int32) : rS := F_partOnTape_0 N x1 x2 S
def o_partOnTape (N : Nat) (S : rS) (x1 : Int32) (x2 : Int32) : Prop := O_partOnTape_0 N x1 x2 S
set_option maxHeartbeats 4000000 in
theorem rc_X12_partOnTape {G : zG} {E : rE} {S : rS} {N : Nat} (hG : zOK G) {x1 : Int32} {x2 : Int32} (ok : o_partOnTape N S x1 x2) : rCv G E dX12_partOnTape mX12_partOnTape [.ref E.1, .int x1, .int x2] S (fun S' => S' = f_partOnTape N S x1 x2) := by
  refine rC.ofX rfl (Nat.le_of_ble_eq_true rfl) ?_
  show rX G E dX12_partOnTape mX12_partOnTape 0 [some (.ref E.1), some (.int x1), some (.int x2), none] [] S _
  exact rX.cutz (b_partOnTape_0 (X := fun F => F = f_partOnTape N S x1 x2) hG (fun S' h => ⟨rfl, h⟩) ok rfl) ⟨rfl, rfl, rfl, trivial⟩
/-! isHonest -/
def F_isHonest_22 (N : Nat) (s0 : Int32) (S : rS) : Int32 := s0
def O_isHonest_22 (N : Nat) (s0 : Int32) (S : rS) : Prop := narrow .boolean (.int s0) = .int s0
set_option maxHeartbeats 4000000 in
theorem b_isHonest_22 {G : zG} {E : rE} {S : rS} {N : Nat} {Q : Option Value → rS → Prop} {X : Int32 → Prop} (hG : zOK G) (hR : ∀ v, X v → Q (some (.int v)) S) {s0 : Int32} (ok : O_isHonest_22 N s0 S) (hx : X (F_isHonest_22 N s0 S)) : rX G E dX12_isHonest mX12_isHonest 22 [none, none] [.int s0] S Q := by
  unfold O_isHonest_22 at ok
  unfold F_isHonest_22 at hx
  exact r_ireturn rfl ok dX12_isHonest_22 (hR _ hx)
def F_isHonest_21 (N : Nat)  (S : rS) : Int32 := (F_isHonest_22 N (nI 0) S)
def O_isHonest_21 (N : Nat)  (S : rS) : Prop := O_isHonest_22 N (nI 0) S
set_option maxHeartbeats 4000000 in
theorem b_isHonest_21 {G : zG} {E : rE} {S : rS} {N : Nat} {Q : Option Value → rS → Prop} {X : Int32 → Prop} (hG : zOK G) (hR : ∀ v, X v → Q (some (.int v)) S) (ok : O_isHonest_21 N S) (hx : X (F_isHonest_21 N S)) : rX G E dX12_isHonest mX12_isHonest 21 [none, none] [] S Q := by
  unfold O_isHonest_21 at ok
  unfold F_isHonest_21 at hx
  refine r_iconst (v := nI 0) dX12_isHonest_21 (by decide) ?_
  exact rX.cutz (b_isHonest_22 hG hR ok hx) trivial
def F_isHonest_0 (N : Nat) (x1 : Int32) (S : rS) : Int32 := (if x1 < 0 then (F_isHonest_21 N S) else (if ((S.1 0) - (S.1 2)) ≤ x1 then (F_isHonest_21 N S) else (F_isHonest_22 N (nI 1) S)))
def O_isHonest_0 (N : Nat) (x1 : Int32) (S : rS) : Prop := ((x1 < 0 → O_isHonest_21 N S) ∧ (¬ x1 < 0 → ((((S.1 0) - (S.1 2)) ≤ x1 → O_isHonest_21 N S) ∧ (¬ ((S.1 0) - (S.1 2)) ≤ x1 → O_isHonest_22 N (nI 1) S))))
set_option maxHeartbeats 4000000 in
theorem b_isHonest_0 {G : zG} {E : rE} {S : rS} {N : Nat} {Q : Option Value → rS → Prop} {X : Int32 → Prop} (hG : zOK G) (hR : ∀ v, X v → Q (some (.int v)) S) {x1 : Int32} (ok : O_isHonest_0 N x1 S) (hx : X (F_isHonest_0 N x1 S)) : rX G E dX12_isHonest mX12_isHonest 0 [some (.ref E.1), some (.int x1)] [] S Q := by
  unfold O_isHonest_0 at ok
  unfold F_isHonest_0 at hx
  refine r_iload_n dX12_isHonest_0 rfl rfl ?_
  refine r_if_lt (tgt := 21) dX12_isHonest_1 (by decide) (fun c_1 => ?_) (fun c_1 => ?_)
  · have ok := ok.1 c_1
    have hx := xif_p c_1 hx
    exact rX.cutz (b_isHonest_21 hG hR ok hx) trivial
  · have ok := ok.2 c_1
    have hx := xif_n c_1 hx
    refine r_iload_n dX12_isHonest_4 rfl rfl ?_
    refine r_aload_n dX12_isHonest_5 rfl rfl ?_
    refine r_getI 0 fX12_219 (by decide) (by decide) dX12_isHonest_6 ?_
    refine r_aload_n dX12_isHonest_9 rfl rfl ?_
    refine r_getI 2 fX12_445 (by decide) (by decide) dX12_isHonest_10 ?_
    refine r_isub dX12_isHonest_13 ?_
    refine r_icmp_ge (tgt := 21) dX12_isHonest_14 (by decide) (fun c_14 => ?_) (fun c_14 => ?_)
    · have ok := ok.1 c_14
      have hx := xif_p c_14 hx
      exact rX.cutz (b_isHonest_21 hG hR ok hx) trivial
    · have ok := ok.2 c_14
      have hx := xif_n c_14 hx
      refine r_iconst (v := nI 1) dX12_isHonest_17 (by decide) ?_
      refine r_goto (tgt := 22) dX12_isHonest_18 (by decide) ?_
      exact rX.cutz (b_isHonest_22 hG hR ok hx) trivial
def f_isHonest (N : Nat) (S : rS) (x1 : Int32) : Int32 := F_isHonest_0 N x1 S
def o_isHonest (N : Nat) (S : rS) (x1 : Int32) : Prop := O_isHonest_0 N x1 S
set_option maxHeartbeats 4000000 in
theorem rc_X12_isHonest {G : zG} {E : rE} {S : rS} {N : Nat} (hG : zOK G) {x1 : Int32} (ok : o_isHonest N S x1) : rCi G E dX12_isHonest mX12_isHonest [.ref E.1, .int x1] S (fun v S' => v = f_isHonest N S x1 ∧ S' = S) := by
  refine rC.ofX rfl (Nat.le_of_ble_eq_true rfl) ?_
  show rX G E dX12_isHonest mX12_isHonest 0 [some (.ref E.1), some (.int x1)] [] S _
  exact rX.cutz (b_isHonest_0 (X := fun F => F = f_isHonest N S x1) hG (fun v h => ⟨v, rfl, h, rfl⟩) ok rfl) ⟨rfl, rfl, trivial⟩
/-! lastByte -/
def F_lastByte_72 (N : Nat) (x2 : Int32) (s0 : Int64) (S : rS) : Int32 := (f_byteIn N S s0 (x2 - x2 / (nI 8) * (nI 8)))
def O_lastByte_72 (N : Nat) (x2 : Int32) (s0 : Int64) (S : rS) : Prop := (o_byteIn N S s0 (x2 - x2 / (nI 8) * (nI 8))) ∧ True
set_option maxHeartbeats 4000000 in
theorem b_lastByte_72 {G : zG} {E : rE} {S : rS} {N : Nat} {Q : Option Value → rS → Prop} {X : Int32 → Prop} (hG : zOK G) (hR : ∀ v, X v → Q (some (.int v)) S) {x2 : Int32} {s0 : Int64} (ok : O_lastByte_72 N x2 s0 S) (hx : X (F_lastByte_72 N x2 s0 S)) : rX G E dX12_lastByte mX12_lastByte 72 [none, none, some (.int x2)] [.long s0] S Q := by
  unfold O_lastByte_72 at ok
  unfold F_lastByte_72 at hx
  refine r_iload_n dX12_lastByte_72 rfl rfl ?_
  refine r_bipush (v := nI 8) dX12_lastByte_73 (by decide) ?_
  refine r_irem dX12_lastByte_75 (by decide) ?_
  refine r_S2i (y' := mX12_byteIn) dX12_lastByte_76 lX12_49 kX12_byteIn ⟨by decide, by decide⟩ (Nat.le_of_ble_eq_true rfl) (rc_X12_byteIn hG ok.1) (fun v_76 S_76 h_76 => ?_)
  obtain ⟨rfl, hS_76⟩ := h_76
  have hS_76 := hS_76.symm
  subst hS_76
  have ok := ok.2
  exact r_ireturn rfl rfl dX12_lastByte_79 (hR _ hx)
def F_lastByte_0 (N : Nat) (x1 : Int32) (x2 : Int32) (S : rS) : Int32 := (if (S.2.1 44 x1.toNatClampNeg) = (nI 1) then (nI 0) else (if (S.2.1 44 x1.toNatClampNeg) = (S.2.1 80 x1.toNatClampNeg) then (F_lastByte_72 N x2 (S.2.2 81 (((nI 4) * x1) + (x2 / (nI 8))).toNatClampNeg) S) else (F_lastByte_72 N x2 (S.2.2 13 (((nI 4) * ((((nI 585) + ((nI 41) * x1)) + (S.2.1 44 x1.toNatClampNeg)) - (nI 1))) + (x2 / (nI 8))).toNatClampNeg) S)))
def O_lastByte_0 (N : Nat) (x1 : Int32) (x2 : Int32) (S : rS) : Prop := (vp_in x1 13) ∧ (((S.2.1 44 x1.toNatClampNeg) = (nI 1) → True) ∧ (¬ (S.2.1 44 x1.toNatClampNeg) = (nI 1) → (vp_in x1 13) ∧ (vp_in x1 13) ∧ (((S.2.1 44 x1.toNatClampNeg) = (S.2.1 80 x1.toNatClampNeg) → (vp_in (((nI 4) * x1) + (x2 / (nI 8))) 52) ∧ O_lastByte_72 N x2 (S.2.2 81 (((nI 4) * x1) + (x2 / (nI 8))).toNatClampNeg) S) ∧ (¬ (S.2.1 44 x1.toNatClampNeg) = (S.2.1 80 x1.toNatClampNeg) → (vp_in x1 13) ∧ (vp_in (((nI 4) * ((((nI 585) + ((nI 41) * x1)) + (S.2.1 44 x1.toNatClampNeg)) - (nI 1))) + (x2 / (nI 8))) 5416) ∧ O_lastByte_72 N x2 (S.2.2 13 (((nI 4) * ((((nI 585) + ((nI 41) * x1)) + (S.2.1 44 x1.toNatClampNeg)) - (nI 1))) + (x2 / (nI 8))).toNatClampNeg) S))))
set_option maxHeartbeats 4000000 in
theorem b_lastByte_0 {G : zG} {E : rE} {S : rS} {N : Nat} {Q : Option Value → rS → Prop} {X : Int32 → Prop} (hG : zOK G) (hR : ∀ v, X v → Q (some (.int v)) S) {x1 : Int32} {x2 : Int32} (ok : O_lastByte_0 N x1 x2 S) (hx : X (F_lastByte_0 N x1 x2 S)) : rX G E dX12_lastByte mX12_lastByte 0 [some (.ref E.1), some (.int x1), some (.int x2)] [] S Q := by
  unfold O_lastByte_0 at ok
  unfold F_lastByte_0 at hx
  refine r_aload_n dX12_lastByte_0 rfl rfl ?_
  refine r_getA 44 fX12_309 (by decide) (by decide) dX12_lastByte_1 ?_
  refine r_iload_n dX12_lastByte_4 rfl rfl ?_
  refine r_iald (by decide) (by decide) dX12_lastByte_5 ok.1 ?_
  have ok := ok.2
  refine r_iconst (v := nI 1) dX12_lastByte_6 (by decide) ?_
  refine r_icmp_ne (tgt := 12) dX12_lastByte_7 (by decide) (fun c_7 => ?_) (fun c_7 => ?_)
  · have ok := ok.2 c_7
    have hx := xif_n c_7 hx
    refine r_aload_n dX12_lastByte_12 rfl rfl ?_
    refine r_getA 44 fX12_309 (by decide) (by decide) dX12_lastByte_13 ?_
    refine r_iload_n dX12_lastByte_16 rfl rfl ?_
    refine r_iald (by decide) (by decide) dX12_lastByte_17 ok.1 ?_
    have ok := ok.2
    refine r_aload_n dX12_lastByte_18 rfl rfl ?_
    refine r_getA 80 fX12_415 (by decide) (by decide) dX12_lastByte_19 ?_
    refine r_iload_n dX12_lastByte_22 rfl rfl ?_
    refine r_iald (by decide) (by decide) dX12_lastByte_23 ok.1 ?_
    have ok := ok.2
    refine r_icmp_ne (tgt := 43) dX12_lastByte_24 (by decide) (fun c_24 => ?_) (fun c_24 => ?_)
    · have ok := ok.2 c_24
      have hx := xif_n c_24 hx
      refine r_aload_n dX12_lastByte_43 rfl rfl ?_
      refine r_getA 13 fX12_60 (by decide) (by decide) dX12_lastByte_44 ?_
      refine r_iconst (v := nI 4) dX12_lastByte_47 (by decide) ?_
      refine r_sipush (v := nI 585) dX12_lastByte_48 (by decide) ?_
      refine r_bipush (v := nI 41) dX12_lastByte_51 (by decide) ?_
      refine r_iload_n dX12_lastByte_53 rfl rfl ?_
      refine r_imul dX12_lastByte_54 ?_
      refine r_iadd dX12_lastByte_55 ?_
      refine r_aload_n dX12_lastByte_56 rfl rfl ?_
      refine r_getA 44 fX12_309 (by decide) (by decide) dX12_lastByte_57 ?_
      refine r_iload_n dX12_lastByte_60 rfl rfl ?_
      refine r_iald (by decide) (by decide) dX12_lastByte_61 ok.1 ?_
      have ok := ok.2
      refine r_iadd dX12_lastByte_62 ?_
      refine r_iconst (v := nI 1) dX12_lastByte_63 (by decide) ?_
      refine r_isub dX12_lastByte_64 ?_
      refine r_imul dX12_lastByte_65 ?_
      refine r_iload_n dX12_lastByte_66 rfl rfl ?_
      refine r_bipush (v := nI 8) dX12_lastByte_67 (by decide) ?_
      refine r_idiv dX12_lastByte_69 (by decide) ?_
      refine r_iadd dX12_lastByte_70 ?_
      refine r_lald (by decide) (by decide) dX12_lastByte_71 ok.1 ?_
      have ok := ok.2
      exact rX.cutz (b_lastByte_72 hG hR ok hx) ⟨rfl, trivial⟩
    · have ok := ok.1 c_24
      have hx := xif_p c_24 hx
      refine r_aload_n dX12_lastByte_27 rfl rfl ?_
      refine r_getA 81 fX12_418 (by decide) (by decide) dX12_lastByte_28 ?_
      refine r_iconst (v := nI 4) dX12_lastByte_31 (by decide) ?_
      refine r_iload_n dX12_lastByte_32 rfl rfl ?_
      refine r_imul dX12_lastByte_33 ?_
      refine r_iload_n dX12_lastByte_34 rfl rfl ?_
      refine r_bipush (v := nI 8) dX12_lastByte_35 (by decide) ?_
      refine r_idiv dX12_lastByte_37 (by decide) ?_
      refine r_iadd dX12_lastByte_38 ?_
      refine r_lald (by decide) (by decide) dX12_lastByte_39 ok.1 ?_
      have ok := ok.2
      refine r_goto (tgt := 72) dX12_lastByte_40 (by decide) ?_
      exact rX.cutz (b_lastByte_72 hG hR ok hx) ⟨rfl, trivial⟩
  · have ok := ok.1 c_7
    have hx := xif_p c_7 hx
    refine r_iconst (v := nI 0) dX12_lastByte_10 (by decide) ?_
    exact r_ireturn rfl rfl dX12_lastByte_11 (hR _ hx)
def f_lastByte (N : Nat) (S : rS) (x1 : Int32) (x2 : Int32) : Int32 := F_lastByte_0 N x1 x2 S
def o_lastByte (N : Nat) (S : rS) (x1 : Int32) (x2 : Int32) : Prop := O_lastByte_0 N x1 x2 S
set_option maxHeartbeats 4000000 in
theorem rc_X12_lastByte {G : zG} {E : rE} {S : rS} {N : Nat} (hG : zOK G) {x1 : Int32} {x2 : Int32} (ok : o_lastByte N S x1 x2) : rCi G E dX12_lastByte mX12_lastByte [.ref E.1, .int x1, .int x2] S (fun v S' => v = f_lastByte N S x1 x2 ∧ S' = S) := by
  refine rC.ofX rfl (Nat.le_of_ble_eq_true rfl) ?_
  show rX G E dX12_lastByte mX12_lastByte 0 [some (.ref E.1), some (.int x1), some (.int x2)] [] S _
  exact rX.cutz (b_lastByte_0 (X := fun F => F = f_lastByte N S x1 x2) hG (fun v h => ⟨v, rfl, h, rfl⟩) ok rfl) ⟨rfl, rfl, rfl, trivial⟩
/-! fine -/
def F_fine_69 (N : Nat)  (S : rS) : Int32 × rS := ((nI 1), S)
def O_fine_69 (N : Nat)  (S : rS) : Prop := True
set_option maxHeartbeats 4000000 in
theorem b_fine_69 {G : zG} {E : rE} {S : rS} {N : Nat} {Q : Option Value → rS → Prop} {X : Int32 × rS → Prop} (hG : zOK G) (hR : ∀ v S', X (v, S') → Q (some (.int v)) S') (ok : O_fine_69 N S) (hx : X (F_fine_69 N S)) : rX G E dX12_fine mX12_fine 69 [none, none, none, none] [] S Q := by
  unfold O_fine_69 at ok
  unfold F_fine_69 at hx
  refine r_iconst (v := nI 1) dX12_fine_69 (by decide) ?_
  exact r_ireturn rfl rfl dX12_fine_70 (hR _ _ hx)
def F_fine_40 (N : Nat) (x1 : Int32) (x2 : Int32) (s0 : Int32) (S : rS) : Int32 × rS := (F_fine_69 N (rsA (rsA S 85 x1.toNatClampNeg ((S.2.1 85 x1.toNatClampNeg) - s0)) 85 x2.toNatClampNeg (((rsA S 85 x1.toNatClampNeg ((S.2.1 85 x1.toNatClampNeg) - s0)).2.1 85 x2.toNatClampNeg) + s0)))
def O_fine_40 (N : Nat) (x1 : Int32) (x2 : Int32) (s0 : Int32) (S : rS) : Prop := (vp_in x1 16) ∧ (vp_in x1 16) ∧ (vp_in x2 16) ∧ (vp_in x2 16) ∧ O_fine_69 N (rsA (rsA S 85 x1.toNatClampNeg ((S.2.1 85 x1.toNatClampNeg) - s0)) 85 x2.toNatClampNeg (((rsA S 85 x1.toNatClampNeg ((S.2.1 85 x1.toNatClampNeg) - s0)).2.1 85 x2.toNatClampNeg) + s0))
set_option maxHeartbeats 4000000 in
theorem b_fine_40 {G : zG} {E : rE} {S : rS} {N : Nat} {Q : Option Value → rS → Prop} {X : Int32 × rS → Prop} (hG : zOK G) (hR : ∀ v S', X (v, S') → Q (some (.int v)) S') {x1 : Int32} {x2 : Int32} {s0 : Int32} (ok : O_fine_40 N x1 x2 s0 S) (hx : X (F_fine_40 N x1 x2 s0 S)) : rX G E dX12_fine mX12_fine 40 [some (.ref E.1), some (.int x1), some (.int x2), none] [.int s0] S Q := by
  unfold O_fine_40 at ok
  unfold F_fine_40 at hx
  refine r_istore_3 dX12_fine_40 (by decide) rfl ?_
  refine r_aload_n dX12_fine_41 rfl rfl ?_
  refine r_getA 85 fX12_430 (by decide) (by decide) dX12_fine_42 ?_
  refine r_iload_n dX12_fine_45 rfl rfl ?_
  refine r_aload_n dX12_fine_46 rfl rfl ?_
  refine r_getA 85 fX12_430 (by decide) (by decide) dX12_fine_47 ?_
  refine r_iload_n dX12_fine_50 rfl rfl ?_
  refine r_iald (by decide) (by decide) dX12_fine_51 ok.1 ?_
  have ok := ok.2
  refine r_iload_n dX12_fine_52 rfl rfl ?_
  refine r_isub dX12_fine_53 ?_
  refine r_iast hG (by decide) (by decide) dX12_fine_54 ok.1 ?_
  have ok := ok.2
  refine r_aload_n dX12_fine_55 rfl rfl ?_
  refine r_getA 85 fX12_430 (by decide) (by decide) dX12_fine_56 ?_
  refine r_iload_n dX12_fine_59 rfl rfl ?_
  refine r_aload_n dX12_fine_60 rfl rfl ?_
  refine r_getA 85 fX12_430 (by decide) (by decide) dX12_fine_61 ?_
  refine r_iload_n dX12_fine_64 rfl rfl ?_
  refine r_iald (by decide) (by decide) dX12_fine_65 ok.1 ?_
  have ok := ok.2
  refine r_iload_n dX12_fine_66 rfl rfl ?_
  refine r_iadd dX12_fine_67 ?_
  refine r_iast hG (by decide) (by decide) dX12_fine_68 ok.1 ?_
  have ok := ok.2
  exact rX.cutz (b_fine_69 hG hR ok hx) trivial
def F_fine_0 (N : Nat) (x1 : Int32) (x2 : Int32) (S : rS) : Int32 × rS := (if (S.2.1 87 x1.toNatClampNeg) = 0 then (if (nI 100) ≤ ((rsA S 87 x1.toNatClampNeg (nI 1)).2.1 85 x1.toNatClampNeg) then (F_fine_40 N x1 x2 (nI 100) (rsA S 87 x1.toNatClampNeg (nI 1))) else (F_fine_40 N x1 x2 ((rsA S 87 x1.toNatClampNeg (nI 1)).2.1 85 x1.toNatClampNeg) (rsA S 87 x1.toNatClampNeg (nI 1)))) else ((nI 0), S))
def O_fine_0 (N : Nat) (x1 : Int32) (x2 : Int32) (S : rS) : Prop := (vp_in x1 16) ∧ (((S.2.1 87 x1.toNatClampNeg) = 0 → (vp_in x1 16) ∧ (vp_in x1 16) ∧ (((nI 100) ≤ ((rsA S 87 x1.toNatClampNeg (nI 1)).2.1 85 x1.toNatClampNeg) → O_fine_40 N x1 x2 (nI 100) (rsA S 87 x1.toNatClampNeg (nI 1))) ∧ (¬ (nI 100) ≤ ((rsA S 87 x1.toNatClampNeg (nI 1)).2.1 85 x1.toNatClampNeg) → (vp_in x1 16) ∧ O_fine_40 N x1 x2 ((rsA S 87 x1.toNatClampNeg (nI 1)).2.1 85 x1.toNatClampNeg) (rsA S 87 x1.toNatClampNeg (nI 1))))) ∧ (¬ (S.2.1 87 x1.toNatClampNeg) = 0 → True))
set_option maxHeartbeats 4000000 in
theorem b_fine_0 {G : zG} {E : rE} {S : rS} {N : Nat} {Q : Option Value → rS → Prop} {X : Int32 × rS → Prop} (hG : zOK G) (hR : ∀ v S', X (v, S') → Q (some (.int v)) S') {x1 : Int32} {x2 : Int32} (ok : O_fine_0 N x1 x2 S) (hx : X (F_fine_0 N x1 x2 S)) : rX G E dX12_fine mX12_fine 0 [some (.ref E.1), some (.int x1), some (.int x2), none] [] S Q := by
  unfold O_fine_0 at ok
  unfold F_fine_0 at hx
  refine r_aload_n dX12_fine_0 rfl rfl ?_
  refine r_getA 87 fX12_436 (by decide) (by decide) dX12_fine_1 ?_
  refine r_iload_n dX12_fine_4 rfl rfl ?_
  refine r_zald (by decide) (by decide) dX12_fine_5 ok.1 ?_
  have ok := ok.2
  refine r_if_eq (tgt := 11) dX12_fine_6 (by decide) (fun c_6 => ?_) (fun c_6 => ?_)
  · have ok := ok.1 c_6
    have hx := xif_p c_6 hx
    refine r_aload_n dX12_fine_11 rfl rfl ?_
    refine r_getA 87 fX12_436 (by decide) (by decide) dX12_fine_12 ?_
    refine r_iload_n dX12_fine_15 rfl rfl ?_
    refine r_iconst (v := nI 1) dX12_fine_16 (by decide) ?_
    refine r_zast hG rfl (by decide) (by decide) dX12_fine_17 ok.1 ?_
    have ok := ok.2
    refine r_aload_n dX12_fine_18 rfl rfl ?_
    refine r_getA 85 fX12_430 (by decide) (by decide) dX12_fine_19 ?_
    refine r_iload_n dX12_fine_22 rfl rfl ?_
    refine r_iald (by decide) (by decide) dX12_fine_23 ok.1 ?_
    have ok := ok.2
    refine r_bipush (v := nI 100) dX12_fine_24 (by decide) ?_
    refine r_icmp_ge (tgt := 38) dX12_fine_26 (by decide) (fun c_26 => ?_) (fun c_26 => ?_)
    · have ok := ok.1 c_26
      have hx := xif_p c_26 hx
      refine r_bipush (v := nI 100) dX12_fine_38 (by decide) ?_
      exact rX.cutz (b_fine_40 hG hR ok hx) ⟨rfl, rfl, rfl, trivial⟩
    · have ok := ok.2 c_26
      have hx := xif_n c_26 hx
      refine r_aload_n dX12_fine_29 rfl rfl ?_
      refine r_getA 85 fX12_430 (by decide) (by decide) dX12_fine_30 ?_
      refine r_iload_n dX12_fine_33 rfl rfl ?_
      refine r_iald (by decide) (by decide) dX12_fine_34 ok.1 ?_
      have ok := ok.2
      refine r_goto (tgt := 40) dX12_fine_35 (by decide) ?_
      exact rX.cutz (b_fine_40 hG hR ok hx) ⟨rfl, rfl, rfl, trivial⟩
  · have ok := ok.2 c_6
    have hx := xif_n c_6 hx
    refine r_iconst (v := nI 0) dX12_fine_9 (by decide) ?_
    exact r_ireturn rfl rfl dX12_fine_10 (hR _ _ hx)
def f_fine (N : Nat) (S : rS) (x1 : Int32) (x2 : Int32) : Int32 × rS := F_fine_0 N x1 x2 S
def o_fine (N : Nat) (S : rS) (x1 : Int32) (x2 : Int32) : Prop := O_fine_0 N x1 x2 S
set_option maxHeartbeats 4000000 in
theorem rc_X12_fine {G : zG} {E : rE} {S : rS} {N : Nat} (hG : zOK G) {x1 : Int32} {x2 : Int32} (ok : o_fine N S x1 x2) : rCi G E dX12_fine mX12_fine [.ref E.1, .int x1, .int x2] S (fun v S' => v = (f_fine N S x1 x2).1 ∧ S' = (f_fine N S x1 x2).2) := by
  refine rC.ofX rfl (Nat.le_of_ble_eq_true rfl) ?_
  show rX G E dX12_fine mX12_fine 0 [some (.ref E.1), some (.int x1), some (.int x2), none] [] S _
  exact rX.cutz (b_fine_0 (X := fun F => F = f_fine N S x1 x2) hG (fun v S' h => ⟨v, rfl, by rw [← h], by rw [← h]⟩) ok rfl) ⟨rfl, rfl, rfl, trivial⟩
/-! pay -/
def F_pay_88 (N : Nat)  (S : rS) : Int32 × rS := ((nI 1), S)
def O_pay_88 (N : Nat)  (S : rS) : Prop := True
set_option maxHeartbeats 4000000 in
theorem b_pay_88 {G : zG} {E : rE} {S : rS} {N : Nat} {Q : Option Value → rS → Prop} {X : Int32 × rS → Prop} (hG : zOK G) (hR : ∀ v S', X (v, S') → Q (some (.int v)) S') (ok : O_pay_88 N S) (hx : X (F_pay_88 N S)) : rX G E dX12_pay mX12_pay 88 [none, none, none, none, none, none, none] [] S Q := by
  unfold O_pay_88 at ok
  unfold F_pay_88 at hx
  refine r_iconst (v := nI 1) dX12_pay_88 (by decide) ?_
  exact r_ireturn rfl rfl dX12_pay_89 (hR _ _ hx)
def F_pay_57 (N : Nat) (x1 : Int32) (x5 : Int32) (x6 : Int32) (S : rS) : Int32 × rS := (F_pay_88 N (rsA (rsA S 85 x6.toNatClampNeg ((S.2.1 85 x6.toNatClampNeg) + x5)) 86 x1.toNatClampNeg (((rsA S 85 x6.toNatClampNeg ((S.2.1 85 x6.toNatClampNeg) + x5)).2.1 86 x1.toNatClampNeg) + (nI 1))))
def O_pay_57 (N : Nat) (x1 : Int32) (x5 : Int32) (x6 : Int32) (S : rS) : Prop := (vp_in x6 16) ∧ (vp_in x6 16) ∧ (vp_in x1 16) ∧ (vp_in x1 16) ∧ O_pay_88 N (rsA (rsA S 85 x6.toNatClampNeg ((S.2.1 85 x6.toNatClampNeg) + x5)) 86 x1.toNatClampNeg (((rsA S 85 x6.toNatClampNeg ((S.2.1 85 x6.toNatClampNeg) + x5)).2.1 86 x1.toNatClampNeg) + (nI 1)))
set_option maxHeartbeats 4000000 in
theorem b_pay_57 {G : zG} {E : rE} {S : rS} {N : Nat} {Q : Option Value → rS → Prop} {X : Int32 × rS → Prop} (hG : zOK G) (hR : ∀ v S', X (v, S') → Q (some (.int v)) S') {x1 : Int32} {x5 : Int32} {x6 : Int32} (ok : O_pay_57 N x1 x5 x6 S) (hx : X (F_pay_57 N x1 x5 x6 S)) : rX G E dX12_pay mX12_pay 57 [some (.ref E.1), some (.int x1), none, none, none, some (.int x5), some (.int x6)] [] S Q := by
  unfold O_pay_57 at ok
  unfold F_pay_57 at hx
  refine r_aload_n dX12_pay_57 rfl rfl ?_
  refine r_getA 85 fX12_430 (by decide) (by decide) dX12_pay_58 ?_
  refine r_iload dX12_pay_61 rfl ?_
  refine r_aload_n dX12_pay_63 rfl rfl ?_
  refine r_getA 85 fX12_430 (by decide) (by decide) dX12_pay_64 ?_
  refine r_iload dX12_pay_67 rfl ?_
  refine r_iald (by decide) (by decide) dX12_pay_69 ok.1 ?_
  have ok := ok.2
  refine r_iload dX12_pay_70 rfl ?_
  refine r_iadd dX12_pay_72 ?_
  refine r_iast hG (by decide) (by decide) dX12_pay_73 ok.1 ?_
  have ok := ok.2
  refine r_aload_n dX12_pay_74 rfl rfl ?_
  refine r_getA 86 fX12_433 (by decide) (by decide) dX12_pay_75 ?_
  refine r_iload_n dX12_pay_78 rfl rfl ?_
  refine r_aload_n dX12_pay_79 rfl rfl ?_
  refine r_getA 86 fX12_433 (by decide) (by decide) dX12_pay_80 ?_
  refine r_iload_n dX12_pay_83 rfl rfl ?_
  refine r_iald (by decide) (by decide) dX12_pay_84 ok.1 ?_
  have ok := ok.2
  refine r_iconst (v := nI 1) dX12_pay_85 (by decide) ?_
  refine r_iadd dX12_pay_86 ?_
  refine r_iast hG (by decide) (by decide) dX12_pay_87 ok.1 ?_
  have ok := ok.2
  exact rX.cutz (b_pay_88 hG hR ok hx) trivial
def F_pay_24 (N : Nat)  (S : rS) : Int32 × rS := ((nI 0), S)
def O_pay_24 (N : Nat)  (S : rS) : Prop := True
set_option maxHeartbeats 4000000 in
theorem b_pay_24 {G : zG} {E : rE} {S : rS} {N : Nat} {Q : Option Value → rS → Prop} {X : Int32 × rS → Prop} (hG : zOK G) (hR : ∀ v S', X (v, S') → Q (some (.int v)) S') (ok : O_pay_24 N S) (hx : X (F_pay_24 N S)) : rX G E dX12_pay mX12_pay 24 [none, none, none, none, none, none, none] [] S Q := by
  unfold O_pay_24 at ok
  unfold F_pay_24 at hx
  refine r_iconst (v := nI 0) dX12_pay_24 (by decide) ?_
  exact r_ireturn rfl rfl dX12_pay_25 (hR _ _ hx)
def F_pay_0 (N : Nat) (x1 : Int32) (x2 : Int32) (x3 : Int32) (x4 : Int32) (x5 : Int32) (x6 : Int32) (S : rS) : Int32 × rS := (if (S.2.1 86 x1.toNatClampNeg) = x4 then (if (x3 + x5) ≤ (S.2.1 85 x1.toNatClampNeg) then (F_pay_57 N x1 x5 x6 (rsA (rsA S 85 x1.toNatClampNeg (((S.2.1 85 x1.toNatClampNeg) - x3) - x5)) 85 x2.toNatClampNeg (((rsA S 85 x1.toNatClampNeg (((S.2.1 85 x1.toNatClampNeg) - x3) - x5)).2.1 85 x2.toNatClampNeg) + x3))) else (F_pay_24 N S)) else (F_pay_24 N S))
def O_pay_0 (N : Nat) (x1 : Int32) (x2 : Int32) (x3 : Int32) (x4 : Int32) (x5 : Int32) (x6 : Int32) (S : rS) : Prop := (vp_in x1 16) ∧ (((S.2.1 86 x1.toNatClampNeg) = x4 → (vp_in x1 16) ∧ (((x3 + x5) ≤ (S.2.1 85 x1.toNatClampNeg) → (vp_in x1 16) ∧ (vp_in x1 16) ∧ (vp_in x2 16) ∧ (vp_in x2 16) ∧ O_pay_57 N x1 x5 x6 (rsA (rsA S 85 x1.toNatClampNeg (((S.2.1 85 x1.toNatClampNeg) - x3) - x5)) 85 x2.toNatClampNeg (((rsA S 85 x1.toNatClampNeg (((S.2.1 85 x1.toNatClampNeg) - x3) - x5)).2.1 85 x2.toNatClampNeg) + x3))) ∧ (¬ (x3 + x5) ≤ (S.2.1 85 x1.toNatClampNeg) → O_pay_24 N S))) ∧ (¬ (S.2.1 86 x1.toNatClampNeg) = x4 → O_pay_24 N S))
set_option maxHeartbeats 4000000 in
theorem b_pay_0 {G : zG} {E : rE} {S : rS} {N : Nat} {Q : Option Value → rS → Prop} {X : Int32 × rS → Prop} (hG : zOK G) (hR : ∀ v S', X (v, S') → Q (some (.int v)) S') {x1 : Int32} {x2 : Int32} {x3 : Int32} {x4 : Int32} {x5 : Int32} {x6 : Int32} (ok : O_pay_0 N x1 x2 x3 x4 x5 x6 S) (hx : X (F_pay_0 N x1 x2 x3 x4 x5 x6 S)) : rX G E dX12_pay mX12_pay 0 [some (.ref E.1), some (.int x1), some (.int x2), some (.int x3), some (.int x4), some (.int x5), some (.int x6)] [] S Q := by
  unfold O_pay_0 at ok
  unfold F_pay_0 at hx
  refine r_aload_n dX12_pay_0 rfl rfl ?_
  refine r_getA 86 fX12_433 (by decide) (by decide) dX12_pay_1 ?_
  refine r_iload_n dX12_pay_4 rfl rfl ?_
  refine r_iald (by decide) (by decide) dX12_pay_5 ok.1 ?_
  have ok := ok.2
  refine r_iload dX12_pay_6 rfl ?_
  refine r_icmp_ne (tgt := 24) dX12_pay_8 (by decide) (fun c_8 => ?_) (fun c_8 => ?_)
  · have ok := ok.2 c_8
    have hx := xif_n c_8 hx
    exact rX.cutz (b_pay_24 hG hR ok hx) trivial
  · have ok := ok.1 c_8
    have hx := xif_p c_8 hx
    refine r_aload_n dX12_pay_11 rfl rfl ?_
    refine r_getA 85 fX12_430 (by decide) (by decide) dX12_pay_12 ?_
    refine r_iload_n dX12_pay_15 rfl rfl ?_
    refine r_iald (by decide) (by decide) dX12_pay_16 ok.1 ?_
    have ok := ok.2
    refine r_iload_n dX12_pay_17 rfl rfl ?_
    refine r_iload dX12_pay_18 rfl ?_
    refine r_iadd dX12_pay_20 ?_
    refine r_icmp_ge (tgt := 26) dX12_pay_21 (by decide) (fun c_21 => ?_) (fun c_21 => ?_)
    · have ok := ok.1 c_21
      have hx := xif_p c_21 hx
      refine r_aload_n dX12_pay_26 rfl rfl ?_
      refine r_getA 85 fX12_430 (by decide) (by decide) dX12_pay_27 ?_
      refine r_iload_n dX12_pay_30 rfl rfl ?_
      refine r_aload_n dX12_pay_31 rfl rfl ?_
      refine r_getA 85 fX12_430 (by decide) (by decide) dX12_pay_32 ?_
      refine r_iload_n dX12_pay_35 rfl rfl ?_
      refine r_iald (by decide) (by decide) dX12_pay_36 ok.1 ?_
      have ok := ok.2
      refine r_iload_n dX12_pay_37 rfl rfl ?_
      refine r_isub dX12_pay_38 ?_
      refine r_iload dX12_pay_39 rfl ?_
      refine r_isub dX12_pay_41 ?_
      refine r_iast hG (by decide) (by decide) dX12_pay_42 ok.1 ?_
      have ok := ok.2
      refine r_aload_n dX12_pay_43 rfl rfl ?_
      refine r_getA 85 fX12_430 (by decide) (by decide) dX12_pay_44 ?_
      refine r_iload_n dX12_pay_47 rfl rfl ?_
      refine r_aload_n dX12_pay_48 rfl rfl ?_
      refine r_getA 85 fX12_430 (by decide) (by decide) dX12_pay_49 ?_
      refine r_iload_n dX12_pay_52 rfl rfl ?_
      refine r_iald (by decide) (by decide) dX12_pay_53 ok.1 ?_
      have ok := ok.2
      refine r_iload_n dX12_pay_54 rfl rfl ?_
      refine r_iadd dX12_pay_55 ?_
      refine r_iast hG (by decide) (by decide) dX12_pay_56 ok.1 ?_
      have ok := ok.2
      exact rX.cutz (b_pay_57 hG hR ok hx) ⟨rfl, rfl, rfl, rfl, trivial⟩
    · have ok := ok.2 c_21
      have hx := xif_n c_21 hx
      exact rX.cutz (b_pay_24 hG hR ok hx) trivial
def f_pay (N : Nat) (S : rS) (x1 : Int32) (x2 : Int32) (x3 : Int32) (x4 : Int32) (x5 : Int32) (x6 : Int32) : Int32 × rS := F_pay_0 N x1 x2 x3 x4 x5 x6 S
def o_pay (N : Nat) (S : rS) (x1 : Int32) (x2 : Int32) (x3 : Int32) (x4 : Int32) (x5 : Int32) (x6 : Int32) : Prop := O_pay_0 N x1 x2 x3 x4 x5 x6 S
set_option maxHeartbeats 4000000 in
theorem rc_X12_pay {G : zG} {E : rE} {S : rS} {N : Nat} (hG : zOK G) {x1 : Int32} {x2 : Int32} {x3 : Int32} {x4 : Int32} {x5 : Int32} {x6 : Int32} (ok : o_pay N S x1 x2 x3 x4 x5 x6) : rCi G E dX12_pay mX12_pay [.ref E.1, .int x1, .int x2, .int x3, .int x4, .int x5, .int x6] S (fun v S' => v = (f_pay N S x1 x2 x3 x4 x5 x6).1 ∧ S' = (f_pay N S x1 x2 x3 x4 x5 x6).2) := by
  refine rC.ofX rfl (Nat.le_of_ble_eq_true rfl) ?_
  show rX G E dX12_pay mX12_pay 0 [some (.ref E.1), some (.int x1), some (.int x2), some (.int x3), some (.int x4), some (.int x5), some (.int x6)] [] S _
  exact rX.cutz (b_pay_0 (X := fun F => F = f_pay N S x1 x2 x3 x4 x5 x6) hG (fun v S' h => ⟨v, rfl, by rw [← h], by rw [← h]⟩) ok rfl) ⟨rfl, rfl, rfl, rfl, rfl, rfl, rfl, trivial⟩
/-! doParts -/
def F_doParts_154 (N : Nat) (x3 : Int32) (S : rS) : Int32 × rS := (x3, S)
def O_doParts_154 (N : Nat) (x3 : Int32) (S : rS) : Prop := narrow .boolean (.int x3) = .int x3
set_option maxHeartbeats 4000000 in
theorem b_doParts_154 {G : zG} {E : rE} {S : rS} {N : Nat} {Q : Option Value → rS → Prop} {X : Int32 × rS → Prop} (hG : zOK G) (hR : ∀ v S', X (v, S') → Q (some (.int v)) S') {x3 : Int32} (ok : O_doParts_154 N x3 S) (hx : X (F_doParts_154 N x3 S)) : rX G E dX12_doParts mX12_doParts 154 [none, none, none, some (.int x3), none] [] S Q := by
  unfold O_doParts_154 at ok
  unfold F_doParts_154 at hx
  refine r_iload_n dX12_doParts_154 rfl rfl ?_
  exact r_ireturn rfl ok dX12_doParts_155 (hR _ _ hx)
def F_doParts_142 (N : Nat) (rec : Int32 → Int32 → Int32 → Int32 → rS → Nat × Int32 × rS) (x1 : Int32) (x2 : Int32) (x4 : Int32) (s0 : Int32) (S : rS) : Nat × Int32 × rS := (rec x1 (x2 + (nI 7)) s0 (x4 + nI 1) S)
def O_doParts_142 (N : Nat) (rok : Int32 → Int32 → Int32 → Int32 → rS → Prop) (x1 : Int32) (x2 : Int32) (x4 : Int32) (s0 : Int32) (S : rS) : Prop := rok x1 (x2 + (nI 7)) s0 (x4 + nI 1) S
set_option maxHeartbeats 4000000 in
theorem b_doParts_142 {G : zG} {E : rE} {S : rS} {N : Nat} {Q : Option Value → rS → Prop} {X : Nat × Int32 × rS → Prop} (hG : zOK G) (hX0 : ∀ (x3 : Int32) (S' : rS), X (0, x3, S') → rX G E dX12_doParts mX12_doParts 154 [none, none, none, some (.int x3), none] [] S' Q) {rec : Int32 → Int32 → Int32 → Int32 → rS → Nat × Int32 × rS} {rok : Int32 → Int32 → Int32 → Int32 → rS → Prop} (hrec : ∀ (x1 : Int32) (x2 : Int32) (x3 : Int32) (x4 : Int32) (S : rS), rok x1 x2 x3 x4 S → X (rec x1 x2 x3 x4 S) → rX G E dX12_doParts mX12_doParts 56 [some (.ref E.1), some (.int x1), some (.int x2), some (.int x3), some (.int x4)] [] S Q) {x1 : Int32} {x2 : Int32} {x4 : Int32} {s0 : Int32} (ok : O_doParts_142 N rok x1 x2 x4 s0 S) (hx : X (F_doParts_142 N rec x1 x2 x4 s0 S)) : rX G E dX12_doParts mX12_doParts 142 [some (.ref E.1), some (.int x1), some (.int x2), none, some (.int x4)] [.int s0] S Q := by
  unfold O_doParts_142 at ok
  unfold F_doParts_142 at hx
  refine r_istore_3 dX12_doParts_142 (by decide) rfl ?_
  refine r_iload_n dX12_doParts_143 rfl rfl ?_
  refine r_bipush (v := nI 7) dX12_doParts_144 (by decide) ?_
  refine r_iadd dX12_doParts_146 ?_
  refine r_istore_2 dX12_doParts_147 (by decide) rfl ?_
  refine r_iinc_4 (v := (x4 + nI 1)) dX12_doParts_148 rfl (by first | rfl | (congr 1)) (by decide) rfl ?_
  refine r_goto (tgt := 56) dX12_doParts_151 (by decide) ?_
  exact rX.cutz (hrec _ _ _ _ S ok hx) ⟨rfl, rfl, rfl, rfl, rfl, trivial⟩
def B_doParts_56 (N : Nat) (rec : Int32 → Int32 → Int32 → Int32 → rS → Nat × Int32 × rS) (x1 : Int32) (x2 : Int32) (x3 : Int32) (x4 : Int32) (S : rS) : Nat × Int32 × rS := (if (f_paymentsOf N S x1) ≤ x4 then (0, x3, S) else (if x3 = 0 then (0, x3, S) else (F_doParts_142 N rec x1 x2 x4 ((f_pay N S (f_blockByte N S x1 x2) (f_blockByte N S x1 (x2 + (nI 1))) (((f_blockByte N S x1 (x2 + (nI 2))) <<< ((nI 8) &&& 31)) ||| (f_blockByte N S x1 (x2 + (nI 3)))) (((f_blockByte N S x1 (x2 + (nI 4))) <<< ((nI 8) &&& 31)) ||| (f_blockByte N S x1 (x2 + (nI 5)))) (f_blockByte N S x1 (x2 + (nI 6))) (f_makerOf N S x1)).1) (f_pay N S (f_blockByte N S x1 x2) (f_blockByte N S x1 (x2 + (nI 1))) (((f_blockByte N S x1 (x2 + (nI 2))) <<< ((nI 8) &&& 31)) ||| (f_blockByte N S x1 (x2 + (nI 3)))) (((f_blockByte N S x1 (x2 + (nI 4))) <<< ((nI 8) &&& 31)) ||| (f_blockByte N S x1 (x2 + (nI 5)))) (f_blockByte N S x1 (x2 + (nI 6))) (f_makerOf N S x1)).2)))
def OB_doParts_56 (N : Nat) (rok : Int32 → Int32 → Int32 → Int32 → rS → Prop) (x1 : Int32) (x2 : Int32) (x3 : Int32) (x4 : Int32) (S : rS) : Prop := (o_paymentsOf N S x1) ∧ (((f_paymentsOf N S x1) ≤ x4 → True) ∧ (¬ (f_paymentsOf N S x1) ≤ x4 → ((x3 = 0 → True) ∧ (¬ x3 = 0 → (o_blockByte N S x1 x2) ∧ (o_blockByte N S x1 (x2 + (nI 1))) ∧ (o_blockByte N S x1 (x2 + (nI 2))) ∧ (o_blockByte N S x1 (x2 + (nI 3))) ∧ (o_blockByte N S x1 (x2 + (nI 4))) ∧ (o_blockByte N S x1 (x2 + (nI 5))) ∧ (o_blockByte N S x1 (x2 + (nI 6))) ∧ (o_makerOf N S x1) ∧ (o_pay N S (f_blockByte N S x1 x2) (f_blockByte N S x1 (x2 + (nI 1))) (((f_blockByte N S x1 (x2 + (nI 2))) <<< ((nI 8) &&& 31)) ||| (f_blockByte N S x1 (x2 + (nI 3)))) (((f_blockByte N S x1 (x2 + (nI 4))) <<< ((nI 8) &&& 31)) ||| (f_blockByte N S x1 (x2 + (nI 5)))) (f_blockByte N S x1 (x2 + (nI 6))) (f_makerOf N S x1)) ∧ O_doParts_142 N rok x1 x2 x4 ((f_pay N S (f_blockByte N S x1 x2) (f_blockByte N S x1 (x2 + (nI 1))) (((f_blockByte N S x1 (x2 + (nI 2))) <<< ((nI 8) &&& 31)) ||| (f_blockByte N S x1 (x2 + (nI 3)))) (((f_blockByte N S x1 (x2 + (nI 4))) <<< ((nI 8) &&& 31)) ||| (f_blockByte N S x1 (x2 + (nI 5)))) (f_blockByte N S x1 (x2 + (nI 6))) (f_makerOf N S x1)).1) (f_pay N S (f_blockByte N S x1 x2) (f_blockByte N S x1 (x2 + (nI 1))) (((f_blockByte N S x1 (x2 + (nI 2))) <<< ((nI 8) &&& 31)) ||| (f_blockByte N S x1 (x2 + (nI 3)))) (((f_blockByte N S x1 (x2 + (nI 4))) <<< ((nI 8) &&& 31)) ||| (f_blockByte N S x1 (x2 + (nI 5)))) (f_blockByte N S x1 (x2 + (nI 6))) (f_makerOf N S x1)).2))))
set_option maxHeartbeats 4000000 in
theorem bb_doParts_56 {G : zG} {E : rE} {S : rS} {N : Nat} {Q : Option Value → rS → Prop} {X : Nat × Int32 × rS → Prop} (hG : zOK G) (hX0 : ∀ (x3 : Int32) (S' : rS), X (0, x3, S') → rX G E dX12_doParts mX12_doParts 154 [none, none, none, some (.int x3), none] [] S' Q) {rec : Int32 → Int32 → Int32 → Int32 → rS → Nat × Int32 × rS} {rok : Int32 → Int32 → Int32 → Int32 → rS → Prop} (hrec : ∀ (x1 : Int32) (x2 : Int32) (x3 : Int32) (x4 : Int32) (S : rS), rok x1 x2 x3 x4 S → X (rec x1 x2 x3 x4 S) → rX G E dX12_doParts mX12_doParts 56 [some (.ref E.1), some (.int x1), some (.int x2), some (.int x3), some (.int x4)] [] S Q) {x1 : Int32} {x2 : Int32} {x3 : Int32} {x4 : Int32} (ok : OB_doParts_56 N rok x1 x2 x3 x4 S) (hx : X (B_doParts_56 N rec x1 x2 x3 x4 S)) : rX G E dX12_doParts mX12_doParts 56 [some (.ref E.1), some (.int x1), some (.int x2), some (.int x3), some (.int x4)] [] S Q := by
  unfold OB_doParts_56 at ok
  unfold B_doParts_56 at hx
  refine r_iload dX12_doParts_56 rfl ?_
  refine r_aload_n dX12_doParts_58 rfl rfl ?_
  refine r_iload_n dX12_doParts_59 rfl rfl ?_
  refine r_V1i (y' := mX12_paymentsOf) dX12_doParts_60 lX12_118 kX12_paymentsOf ⟨by decide, by decide⟩ rfl (Nat.le_of_ble_eq_true rfl) (rc_X12_paymentsOf hG ok.1) (fun v_60 S_60 h_60 => ?_)
  obtain ⟨rfl, hS_60⟩ := h_60
  have hS_60 := hS_60.symm
  subst hS_60
  have ok := ok.2
  refine r_icmp_ge (tgt := 154) dX12_doParts_63 (by decide) (fun c_63 => ?_) (fun c_63 => ?_)
  · have ok := ok.1 c_63
    have hx := xif_p c_63 hx
    exact rX.cutz (hX0 _ S hx) ⟨rfl, trivial⟩
  · have ok := ok.2 c_63
    have hx := xif_n c_63 hx
    refine r_iload_n dX12_doParts_66 rfl rfl ?_
    refine r_if_eq (tgt := 154) dX12_doParts_67 (by decide) (fun c_67 => ?_) (fun c_67 => ?_)
    · have ok := ok.1 c_67
      have hx := xif_p c_67 hx
      exact rX.cutz (hX0 _ S hx) ⟨rfl, trivial⟩
    · have ok := ok.2 c_67
      have hx := xif_n c_67 hx
      refine r_aload_n dX12_doParts_70 rfl rfl ?_
      refine r_aload_n dX12_doParts_71 rfl rfl ?_
      refine r_iload_n dX12_doParts_72 rfl rfl ?_
      refine r_iload_n dX12_doParts_73 rfl rfl ?_
      refine r_V2i (y' := mX12_blockByte) dX12_doParts_74 lX12_67 kX12_blockByte ⟨by decide, by decide⟩ rfl (Nat.le_of_ble_eq_true rfl) (rc_X12_blockByte hG ok.1) (fun v_74 S_74 h_74 => ?_)
      obtain ⟨rfl, hS_74⟩ := h_74
      have hS_74 := hS_74.symm
      subst hS_74
      have ok := ok.2
      refine r_aload_n dX12_doParts_77 rfl rfl ?_
      refine r_iload_n dX12_doParts_78 rfl rfl ?_
      refine r_iload_n dX12_doParts_79 rfl rfl ?_
      refine r_iconst (v := nI 1) dX12_doParts_80 (by decide) ?_
      refine r_iadd dX12_doParts_81 ?_
      refine r_V2i (y' := mX12_blockByte) dX12_doParts_82 lX12_67 kX12_blockByte ⟨by decide, by decide⟩ rfl (Nat.le_of_ble_eq_true rfl) (rc_X12_blockByte hG ok.1) (fun v_82 S_82 h_82 => ?_)
      obtain ⟨rfl, hS_82⟩ := h_82
      have hS_82 := hS_82.symm
      subst hS_82
      have ok := ok.2
      refine r_aload_n dX12_doParts_85 rfl rfl ?_
      refine r_iload_n dX12_doParts_86 rfl rfl ?_
      refine r_iload_n dX12_doParts_87 rfl rfl ?_
      refine r_iconst (v := nI 2) dX12_doParts_88 (by decide) ?_
      refine r_iadd dX12_doParts_89 ?_
      refine r_V2i (y' := mX12_blockByte) dX12_doParts_90 lX12_67 kX12_blockByte ⟨by decide, by decide⟩ rfl (Nat.le_of_ble_eq_true rfl) (rc_X12_blockByte hG ok.1) (fun v_90 S_90 h_90 => ?_)
      obtain ⟨rfl, hS_90⟩ := h_90
      have hS_90 := hS_90.symm
      subst hS_90
      have ok := ok.2
      refine r_bipush (v := nI 8) dX12_doParts_93 (by decide) ?_
      refine r_ishl dX12_doParts_95 ?_
      refine r_aload_n dX12_doParts_96 rfl rfl ?_
      refine r_iload_n dX12_doParts_97 rfl rfl ?_
      refine r_iload_n dX12_doParts_98 rfl rfl ?_
      refine r_iconst (v := nI 3) dX12_doParts_99 (by decide) ?_
      refine r_iadd dX12_doParts_100 ?_
      refine r_V2i (y' := mX12_blockByte) dX12_doParts_101 lX12_67 kX12_blockByte ⟨by decide, by decide⟩ rfl (Nat.le_of_ble_eq_true rfl) (rc_X12_blockByte hG ok.1) (fun v_101 S_101 h_101 => ?_)
      obtain ⟨rfl, hS_101⟩ := h_101
      have hS_101 := hS_101.symm
      subst hS_101
      have ok := ok.2
      refine r_ior dX12_doParts_104 ?_
      refine r_aload_n dX12_doParts_105 rfl rfl ?_
      refine r_iload_n dX12_doParts_106 rfl rfl ?_
      refine r_iload_n dX12_doParts_107 rfl rfl ?_
      refine r_iconst (v := nI 4) dX12_doParts_108 (by decide) ?_
      refine r_iadd dX12_doParts_109 ?_
      refine r_V2i (y' := mX12_blockByte) dX12_doParts_110 lX12_67 kX12_blockByte ⟨by decide, by decide⟩ rfl (Nat.le_of_ble_eq_true rfl) (rc_X12_blockByte hG ok.1) (fun v_110 S_110 h_110 => ?_)
      obtain ⟨rfl, hS_110⟩ := h_110
      have hS_110 := hS_110.symm
      subst hS_110
      have ok := ok.2
      refine r_bipush (v := nI 8) dX12_doParts_113 (by decide) ?_
      refine r_ishl dX12_doParts_115 ?_
      refine r_aload_n dX12_doParts_116 rfl rfl ?_
      refine r_iload_n dX12_doParts_117 rfl rfl ?_
      refine r_iload_n dX12_doParts_118 rfl rfl ?_
      refine r_iconst (v := nI 5) dX12_doParts_119 (by decide) ?_
      refine r_iadd dX12_doParts_120 ?_
      refine r_V2i (y' := mX12_blockByte) dX12_doParts_121 lX12_67 kX12_blockByte ⟨by decide, by decide⟩ rfl (Nat.le_of_ble_eq_true rfl) (rc_X12_blockByte hG ok.1) (fun v_121 S_121 h_121 => ?_)
      obtain ⟨rfl, hS_121⟩ := h_121
      have hS_121 := hS_121.symm
      subst hS_121
      have ok := ok.2
      refine r_ior dX12_doParts_124 ?_
      refine r_aload_n dX12_doParts_125 rfl rfl ?_
      refine r_iload_n dX12_doParts_126 rfl rfl ?_
      refine r_iload_n dX12_doParts_127 rfl rfl ?_
      refine r_bipush (v := nI 6) dX12_doParts_128 (by decide) ?_
      refine r_iadd dX12_doParts_130 ?_
      refine r_V2i (y' := mX12_blockByte) dX12_doParts_131 lX12_67 kX12_blockByte ⟨by decide, by decide⟩ rfl (Nat.le_of_ble_eq_true rfl) (rc_X12_blockByte hG ok.1) (fun v_131 S_131 h_131 => ?_)
      obtain ⟨rfl, hS_131⟩ := h_131
      have hS_131 := hS_131.symm
      subst hS_131
      have ok := ok.2
      refine r_aload_n dX12_doParts_134 rfl rfl ?_
      refine r_iload_n dX12_doParts_135 rfl rfl ?_
      refine r_V1i (y' := mX12_makerOf) dX12_doParts_136 lX12_541 kX12_makerOf ⟨by decide, by decide⟩ rfl (Nat.le_of_ble_eq_true rfl) (rc_X12_makerOf hG ok.1) (fun v_136 S_136 h_136 => ?_)
      obtain ⟨rfl, hS_136⟩ := h_136
      have hS_136 := hS_136.symm
      subst hS_136
      have ok := ok.2
      refine r_V6i (y' := mX12_pay) dX12_doParts_139 lX12_547 kX12_pay ⟨by decide, by decide⟩ rfl (Nat.le_of_ble_eq_true rfl) (rc_X12_pay hG ok.1) (fun v_139 S_139 h_139 => ?_)
      obtain ⟨rfl, hS_139⟩ := h_139
      have hS_139 := hS_139.symm
      subst hS_139
      have ok := ok.2
      exact rX.cutz (b_doParts_142 hG hX0 hrec ok hx) ⟨rfl, rfl, rfl, rfl, trivial⟩
def L_doParts_56 (N : Nat) : Nat → Int32 → Int32 → Int32 → Int32 → rS → Nat × Int32 × rS
  | 0, x1, x2, x3, x4, S => (0, 0, S)
  | n + 1, x1, x2, x3, x4, S => B_doParts_56 N (L_doParts_56 N n) x1 x2 x3 x4 S
def OL_doParts_56 (N : Nat) : Nat → Int32 → Int32 → Int32 → Int32 → rS → Prop
  | 0, _, _, _, _, _ => False
  | n + 1, x1, x2, x3, x4, S => OB_doParts_56 N (OL_doParts_56 N n) x1 x2 x3 x4 S
set_option maxHeartbeats 4000000 in
theorem l_doParts_56 {G : zG} {E : rE} {N : Nat} {Q : Option Value → rS → Prop} {X : Nat × Int32 × rS → Prop} (hG : zOK G) (hX0 : ∀ (x3 : Int32) (S' : rS), X (0, x3, S') → rX G E dX12_doParts mX12_doParts 154 [none, none, none, some (.int x3), none] [] S' Q) : ∀ (n : Nat) (x1 : Int32) (x2 : Int32) (x3 : Int32) (x4 : Int32) (S : rS), OL_doParts_56 N n x1 x2 x3 x4 S → X (L_doParts_56 N n x1 x2 x3 x4 S) → rX G E dX12_doParts mX12_doParts 56 [some (.ref E.1), some (.int x1), some (.int x2), some (.int x3), some (.int x4)] [] S Q := by
  intro n
  induction n with
  | zero => intro x1 x2 x3 x4 S ok; exact absurd ok id
  | succ n ih =>
    intro x1 x2 x3 x4 S ok hx
    exact bb_doParts_56 hG hX0 (rec := L_doParts_56 N n) (rok := OL_doParts_56 N n) (fun x1 x2 x3 x4 S ok hx => ih x1 x2 x3 x4 S ok hx) ok hx
def A_doParts_56 (N : Nat) (x1 : Int32) (x2 : Int32) (x3 : Int32) (x4 : Int32) (S : rS) (z : Nat × Int32 × rS) : Int32 × rS := (F_doParts_154 N (z.2.1) z.2.2)
def OA_doParts_56 (N : Nat) (x1 : Int32) (x2 : Int32) (x3 : Int32) (x4 : Int32) (S : rS) (z : Nat × Int32 × rS) : Prop := O_doParts_154 N (z.2.1) z.2.2
set_option maxHeartbeats 4000000 in
theorem c_doParts_56 {G : zG} {E : rE} {S : rS} {N : Nat} {Q : Option Value → rS → Prop} {X : Int32 × rS → Prop} (hG : zOK G) (hR : ∀ v S', X (v, S') → Q (some (.int v)) S') {x1 : Int32} {x2 : Int32} {x3 : Int32} {x4 : Int32} (ok : OL_doParts_56 N N x1 x2 x3 x4 S ∧ OA_doParts_56 N x1 x2 x3 x4 S (L_doParts_56 N N x1 x2 x3 x4 S)) (hx : X (A_doParts_56 N x1 x2 x3 x4 S (L_doParts_56 N N x1 x2 x3 x4 S))) : rX G E dX12_doParts mX12_doParts 56 [some (.ref E.1), some (.int x1), some (.int x2), some (.int x3), some (.int x4)] [] S Q := by
  refine l_doParts_56 hG ?_ N x1 x2 x3 x4 S ok.1 (X := fun z => OA_doParts_56 N x1 x2 x3 x4 S z ∧ X (A_doParts_56 N x1 x2 x3 x4 S z)) ⟨ok.2, hx⟩
  · intro x3' S' hz
    obtain ⟨ok, hx⟩ := hz
    unfold OA_doParts_56 at ok
    unfold A_doParts_56 at hx
    exact rX.cutz (b_doParts_154 hG hR ok hx) ⟨rfl, trivial⟩
def F_doParts_53 (N : Nat) (x1 : Int32) (x2 : Int32) (x3 : Int32) (S : rS) : Int32 × rS := (A_doParts_56 N x1 x2 x3 (nI 0) S (L_doParts_56 N N x1 x2 x3 (nI 0) S))
def O_doParts_53 (N : Nat) (x1 : Int32) (x2 : Int32) (x3 : Int32) (S : rS) : Prop := (OL_doParts_56 N N x1 x2 x3 (nI 0) S ∧ OA_doParts_56 N x1 x2 x3 (nI 0) S (L_doParts_56 N N x1 x2 x3 (nI 0) S))
set_option maxHeartbeats 4000000 in
theorem b_doParts_53 {G : zG} {E : rE} {S : rS} {N : Nat} {Q : Option Value → rS → Prop} {X : Int32 × rS → Prop} (hG : zOK G) (hR : ∀ v S', X (v, S') → Q (some (.int v)) S') {x1 : Int32} {x2 : Int32} {x3 : Int32} (ok : O_doParts_53 N x1 x2 x3 S) (hx : X (F_doParts_53 N x1 x2 x3 S)) : rX G E dX12_doParts mX12_doParts 53 [some (.ref E.1), some (.int x1), some (.int x2), some (.int x3), none] [] S Q := by
  unfold O_doParts_53 at ok
  unfold F_doParts_53 at hx
  refine r_iconst (v := nI 0) dX12_doParts_53 (by decide) ?_
  refine r_istore_4 dX12_doParts_54 (by decide) rfl ?_
  exact rX.cutz (c_doParts_56 hG hR ok hx) ⟨rfl, rfl, rfl, rfl, rfl, trivial⟩
def F_doParts_37 (N : Nat) (rec : Int32 → Int32 → Int32 → Int32 → rS → Nat × Int32 × Int32 × Int32 × rS) (x1 : Int32) (x2 : Int32) (x4 : Int32) (s0 : Int32) (S : rS) : Nat × Int32 × Int32 × Int32 × rS := (rec x1 (x2 + (f_proofBytes N S x1 x2)) s0 (x4 + nI 1) S)
def O_doParts_37 (N : Nat) (rok : Int32 → Int32 → Int32 → Int32 → rS → Prop) (x1 : Int32) (x2 : Int32) (x4 : Int32) (s0 : Int32) (S : rS) : Prop := (o_proofBytes N S x1 x2) ∧ rok x1 (x2 + (f_proofBytes N S x1 x2)) s0 (x4 + nI 1) S
set_option maxHeartbeats 4000000 in
theorem b_doParts_37 {G : zG} {E : rE} {S : rS} {N : Nat} {Q : Option Value → rS → Prop} {X : Nat × Int32 × Int32 × Int32 × rS → Prop} (hG : zOK G) (hX0 : ∀ (x1 : Int32) (x2 : Int32) (x3 : Int32) (S' : rS), X (0, x1, x2, x3, S') → rX G E dX12_doParts mX12_doParts 53 [some (.ref E.1), some (.int x1), some (.int x2), some (.int x3), none] [] S' Q) {rec : Int32 → Int32 → Int32 → Int32 → rS → Nat × Int32 × Int32 × Int32 × rS} {rok : Int32 → Int32 → Int32 → Int32 → rS → Prop} (hrec : ∀ (x1 : Int32) (x2 : Int32) (x3 : Int32) (x4 : Int32) (S : rS), rok x1 x2 x3 x4 S → X (rec x1 x2 x3 x4 S) → rX G E dX12_doParts mX12_doParts 8 [some (.ref E.1), some (.int x1), some (.int x2), some (.int x3), some (.int x4)] [] S Q) {x1 : Int32} {x2 : Int32} {x4 : Int32} {s0 : Int32} (ok : O_doParts_37 N rok x1 x2 x4 s0 S) (hx : X (F_doParts_37 N rec x1 x2 x4 s0 S)) : rX G E dX12_doParts mX12_doParts 37 [some (.ref E.1), some (.int x1), some (.int x2), none, some (.int x4)] [.int s0] S Q := by
  unfold O_doParts_37 at ok
  unfold F_doParts_37 at hx
  refine r_istore_3 dX12_doParts_37 (by decide) rfl ?_
  refine r_iload_n dX12_doParts_38 rfl rfl ?_
  refine r_aload_n dX12_doParts_39 rfl rfl ?_
  refine r_iload_n dX12_doParts_40 rfl rfl ?_
  refine r_iload_n dX12_doParts_41 rfl rfl ?_
  refine r_V2i (y' := mX12_proofBytes) dX12_doParts_42 lX12_121 kX12_proofBytes ⟨by decide, by decide⟩ rfl (Nat.le_of_ble_eq_true rfl) (rc_X12_proofBytes hG ok.1) (fun v_42 S_42 h_42 => ?_)
  obtain ⟨rfl, hS_42⟩ := h_42
  have hS_42 := hS_42.symm
  subst hS_42
  have ok := ok.2
  refine r_iadd dX12_doParts_45 ?_
  refine r_istore_2 dX12_doParts_46 (by decide) rfl ?_
  refine r_iinc_4 (v := (x4 + nI 1)) dX12_doParts_47 rfl (by first | rfl | (congr 1)) (by decide) rfl ?_
  refine r_goto (tgt := 8) dX12_doParts_50 (by decide) ?_
  exact rX.cutz (hrec _ _ _ _ S ok hx) ⟨rfl, rfl, rfl, rfl, rfl, trivial⟩
def B_doParts_8 (N : Nat) (rec : Int32 → Int32 → Int32 → Int32 → rS → Nat × Int32 × Int32 × Int32 × rS) (x1 : Int32) (x2 : Int32) (x3 : Int32) (x4 : Int32) (S : rS) : Nat × Int32 × Int32 × Int32 × rS := (if (f_proofsOf N S x1) ≤ x4 then (0, x1, x2, x3, S) else (if x3 = 0 then (0, x1, x2, x3, S) else (F_doParts_37 N rec x1 x2 x4 ((f_fine N S (f_blockByte N S x1 x2) (f_makerOf N S x1)).1) (f_fine N S (f_blockByte N S x1 x2) (f_makerOf N S x1)).2)))
def OB_doParts_8 (N : Nat) (rok : Int32 → Int32 → Int32 → Int32 → rS → Prop) (x1 : Int32) (x2 : Int32) (x3 : Int32) (x4 : Int32) (S : rS) : Prop := (o_proofsOf N S x1) ∧ (((f_proofsOf N S x1) ≤ x4 → True) ∧ (¬ (f_proofsOf N S x1) ≤ x4 → ((x3 = 0 → True) ∧ (¬ x3 = 0 → (o_blockByte N S x1 x2) ∧ (o_makerOf N S x1) ∧ (o_fine N S (f_blockByte N S x1 x2) (f_makerOf N S x1)) ∧ O_doParts_37 N rok x1 x2 x4 ((f_fine N S (f_blockByte N S x1 x2) (f_makerOf N S x1)).1) (f_fine N S (f_blockByte N S x1 x2) (f_makerOf N S x1)).2))))
set_option maxHeartbeats 4000000 in
theorem bb_doParts_8 {G : zG} {E : rE} {S : rS} {N : Nat} {Q : Option Value → rS → Prop} {X : Nat × Int32 × Int32 × Int32 × rS → Prop} (hG : zOK G) (hX0 : ∀ (x1 : Int32) (x2 : Int32) (x3 : Int32) (S' : rS), X (0, x1, x2, x3, S') → rX G E dX12_doParts mX12_doParts 53 [some (.ref E.1), some (.int x1), some (.int x2), some (.int x3), none] [] S' Q) {rec : Int32 → Int32 → Int32 → Int32 → rS → Nat × Int32 × Int32 × Int32 × rS} {rok : Int32 → Int32 → Int32 → Int32 → rS → Prop} (hrec : ∀ (x1 : Int32) (x2 : Int32) (x3 : Int32) (x4 : Int32) (S : rS), rok x1 x2 x3 x4 S → X (rec x1 x2 x3 x4 S) → rX G E dX12_doParts mX12_doParts 8 [some (.ref E.1), some (.int x1), some (.int x2), some (.int x3), some (.int x4)] [] S Q) {x1 : Int32} {x2 : Int32} {x3 : Int32} {x4 : Int32} (ok : OB_doParts_8 N rok x1 x2 x3 x4 S) (hx : X (B_doParts_8 N rec x1 x2 x3 x4 S)) : rX G E dX12_doParts mX12_doParts 8 [some (.ref E.1), some (.int x1), some (.int x2), some (.int x3), some (.int x4)] [] S Q := by
  unfold OB_doParts_8 at ok
  unfold B_doParts_8 at hx
  refine r_iload dX12_doParts_8 rfl ?_
  refine r_aload_n dX12_doParts_10 rfl rfl ?_
  refine r_iload_n dX12_doParts_11 rfl rfl ?_
  refine r_V1i (y' := mX12_proofsOf) dX12_doParts_12 lX12_115 kX12_proofsOf ⟨by decide, by decide⟩ rfl (Nat.le_of_ble_eq_true rfl) (rc_X12_proofsOf hG ok.1) (fun v_12 S_12 h_12 => ?_)
  obtain ⟨rfl, hS_12⟩ := h_12
  have hS_12 := hS_12.symm
  subst hS_12
  have ok := ok.2
  refine r_icmp_ge (tgt := 53) dX12_doParts_15 (by decide) (fun c_15 => ?_) (fun c_15 => ?_)
  · have ok := ok.1 c_15
    have hx := xif_p c_15 hx
    exact rX.cutz (hX0 _ _ _ S hx) ⟨rfl, rfl, rfl, rfl, trivial⟩
  · have ok := ok.2 c_15
    have hx := xif_n c_15 hx
    refine r_iload_n dX12_doParts_18 rfl rfl ?_
    refine r_if_eq (tgt := 53) dX12_doParts_19 (by decide) (fun c_19 => ?_) (fun c_19 => ?_)
    · have ok := ok.1 c_19
      have hx := xif_p c_19 hx
      exact rX.cutz (hX0 _ _ _ S hx) ⟨rfl, rfl, rfl, rfl, trivial⟩
    · have ok := ok.2 c_19
      have hx := xif_n c_19 hx
      refine r_aload_n dX12_doParts_22 rfl rfl ?_
      refine r_aload_n dX12_doParts_23 rfl rfl ?_
      refine r_iload_n dX12_doParts_24 rfl rfl ?_
      refine r_iload_n dX12_doParts_25 rfl rfl ?_
      refine r_V2i (y' := mX12_blockByte) dX12_doParts_26 lX12_67 kX12_blockByte ⟨by decide, by decide⟩ rfl (Nat.le_of_ble_eq_true rfl) (rc_X12_blockByte hG ok.1) (fun v_26 S_26 h_26 => ?_)
      obtain ⟨rfl, hS_26⟩ := h_26
      have hS_26 := hS_26.symm
      subst hS_26
      have ok := ok.2
      refine r_aload_n dX12_doParts_29 rfl rfl ?_
      refine r_iload_n dX12_doParts_30 rfl rfl ?_
      refine r_V1i (y' := mX12_makerOf) dX12_doParts_31 lX12_541 kX12_makerOf ⟨by decide, by decide⟩ rfl (Nat.le_of_ble_eq_true rfl) (rc_X12_makerOf hG ok.1) (fun v_31 S_31 h_31 => ?_)
      obtain ⟨rfl, hS_31⟩ := h_31
      have hS_31 := hS_31.symm
      subst hS_31
      have ok := ok.2
      refine r_V2i (y' := mX12_fine) dX12_doParts_34 lX12_544 kX12_fine ⟨by decide, by decide⟩ rfl (Nat.le_of_ble_eq_true rfl) (rc_X12_fine hG ok.1) (fun v_34 S_34 h_34 => ?_)
      obtain ⟨rfl, hS_34⟩ := h_34
      have hS_34 := hS_34.symm
      subst hS_34
      have ok := ok.2
      exact rX.cutz (b_doParts_37 hG hX0 hrec ok hx) ⟨rfl, rfl, rfl, rfl, trivial⟩
def L_doParts_8 (N : Nat) : Nat → Int32 → Int32 → Int32 → Int32 → rS → Nat × Int32 × Int32 × Int32 × rS
  | 0, x1, x2, x3, x4, S => (0, 0, 0, 0, S)
  | n + 1, x1, x2, x3, x4, S => B_doParts_8 N (L_doParts_8 N n) x1 x2 x3 x4 S
def OL_doParts_8 (N : Nat) : Nat → Int32 → Int32 → Int32 → Int32 → rS → Prop
  | 0, _, _, _, _, _ => False
  | n + 1, x1, x2, x3, x4, S => OB_doParts_8 N (OL_doParts_8 N n) x1 x2 x3 x4 S
set_option maxHeartbeats 4000000 in
theorem l_doParts_8 {G : zG} {E : rE} {N : Nat} {Q : Option Value → rS → Prop} {X : Nat × Int32 × Int32 × Int32 × rS → Prop} (hG : zOK G) (hX0 : ∀ (x1 : Int32) (x2 : Int32) (x3 : Int32) (S' : rS), X (0, x1, x2, x3, S') → rX G E dX12_doParts mX12_doParts 53 [some (.ref E.1), some (.int x1), some (.int x2), some (.int x3), none] [] S' Q) : ∀ (n : Nat) (x1 : Int32) (x2 : Int32) (x3 : Int32) (x4 : Int32) (S : rS), OL_doParts_8 N n x1 x2 x3 x4 S → X (L_doParts_8 N n x1 x2 x3 x4 S) → rX G E dX12_doParts mX12_doParts 8 [some (.ref E.1), some (.int x1), some (.int x2), some (.int x3), some (.int x4)] [] S Q := by
  intro n
  induction n with
  | zero => intro x1 x2 x3 x4 S ok; exact absurd ok id
  | succ n ih =>
    intro x1 x2 x3 x4 S ok hx
    exact bb_doParts_8 hG hX0 (rec := L_doParts_8 N n) (rok := OL_doParts_8 N n) (fun x1 x2 x3 x4 S ok hx => ih x1 x2 x3 x4 S ok hx) ok hx
def A_doParts_8 (N : Nat) (x1 : Int32) (x2 : Int32) (x3 : Int32) (x4 : Int32) (S : rS) (z : Nat × Int32 × Int32 × Int32 × rS) : Int32 × rS := (F_doParts_53 N (z.2.1) (z.2.2.1) (z.2.2.2.1) z.2.2.2.2)
def OA_doParts_8 (N : Nat) (x1 : Int32) (x2 : Int32) (x3 : Int32) (x4 : Int32) (S : rS) (z : Nat × Int32 × Int32 × Int32 × rS) : Prop := O_doParts_53 N (z.2.1) (z.2.2.1) (z.2.2.2.1) z.2.2.2.2
set_option maxHeartbeats 4000000 in
theorem c_doParts_8 {G : zG} {E : rE} {S : rS} {N : Nat} {Q : Option Value → rS → Prop} {X : Int32 × rS → Prop} (hG : zOK G) (hR : ∀ v S', X (v, S') → Q (some (.int v)) S') {x1 : Int32} {x2 : Int32} {x3 : Int32} {x4 : Int32} (ok : OL_doParts_8 N N x1 x2 x3 x4 S ∧ OA_doParts_8 N x1 x2 x3 x4 S (L_doParts_8 N N x1 x2 x3 x4 S)) (hx : X (A_doParts_8 N x1 x2 x3 x4 S (L_doParts_8 N N x1 x2 x3 x4 S))) : rX G E dX12_doParts mX12_doParts 8 [some (.ref E.1), some (.int x1), some (.int x2), some (.int x3), some (.int x4)] [] S Q := by
  refine l_doParts_8 hG ?_ N x1 x2 x3 x4 S ok.1 (X := fun z => OA_doParts_8 N x1 x2 x3 x4 S z ∧ X (A_doParts_8 N x1 x2 x3 x4 S z)) ⟨ok.2, hx⟩
  · intro x1' x2' x3' S' hz
    obtain ⟨ok, hx⟩ := hz
    unfold OA_doParts_8 at ok
    unfold A_doParts_8 at hx
    exact rX.cutz (b_doParts_53 hG hR ok hx) ⟨rfl, rfl, rfl, rfl, trivial⟩
def F_doParts_0 (N : Nat) (x1 : Int32) (S : rS) : Int32 × rS := (A_doParts_8 N x1 (nI 101) (nI 1) (nI 0) S (L_doParts_8 N N x1 (nI 101) (nI 1) (nI 0) S))
def O_doParts_0 (N : Nat) (x1 : Int32) (S : rS) : Prop := (OL_doParts_8 N N x1 (nI 101) (nI 1) (nI 0) S ∧ OA_doParts_8 N x1 (nI 101) (nI 1) (nI 0) S (L_doParts_8 N N x1 (nI 101) (nI 1) (nI 0) S))
set_option maxHeartbeats 4000000 in
theorem b_doParts_0 {G : zG} {E : rE} {S : rS} {N : Nat} {Q : Option Value → rS → Prop} {X : Int32 × rS → Prop} (hG : zOK G) (hR : ∀ v S', X (v, S') → Q (some (.int v)) S') {x1 : Int32} (ok : O_doParts_0 N x1 S) (hx : X (F_doParts_0 N x1 S)) : rX G E dX12_doParts mX12_doParts 0 [some (.ref E.1), some (.int x1), none, none, none] [] S Q := by
  unfold O_doParts_0 at ok
  unfold F_doParts_0 at hx
  refine r_bipush (v := nI 101) dX12_doParts_0 (by decide) ?_
  refine r_istore_2 dX12_doParts_2 (by decide) rfl ?_
  refine r_iconst (v := nI 1) dX12_doParts_3 (by decide) ?_
  refine r_istore_3 dX12_doParts_4 (by decide) rfl ?_
  refine r_iconst (v := nI 0) dX12_doParts_5 (by decide) ?_
  refine r_istore_4 dX12_doParts_6 (by decide) rfl ?_
  exact rX.cutz (c_doParts_8 hG hR ok hx) ⟨rfl, rfl, rfl, rfl, rfl, trivial⟩
def f_doParts (N : Nat) (S : rS) (x1 : Int32) : Int32 × rS := F_doParts_0 N x1 S
def o_doParts (N : Nat) (S : rS) (x1 : Int32) : Prop := O_doParts_0 N x1 S
set_option maxHeartbeats 4000000 in
theorem rc_X12_doParts {G : zG} {E : rE} {S : rS} {N : Nat} (hG : zOK G) {x1 : Int32} (ok : o_doParts N S x1) : rCi G E dX12_doParts mX12_doParts [.ref E.1, .int x1] S (fun v S' => v = (f_doParts N S x1).1 ∧ S' = (f_doParts N S x1).2) := by
  refine rC.ofX rfl (Nat.le_of_ble_eq_true rfl) ?_
  show rX G E dX12_doParts mX12_doParts 0 [some (.ref E.1), some (.int x1), none, none, none] [] S _
  exact rX.cutz (b_doParts_0 (X := fun F => F = f_doParts N S x1) hG (fun v S' h => ⟨v, rfl, by rw [← h], by rw [← h]⟩) ok rfl) ⟨rfl, rfl, trivial⟩
/-! reckon -/
def F_reckon_103 (N : Nat)  (S : rS) : rS := S
def O_reckon_103 (N : Nat)  (S : rS) : Prop := True
set_option maxHeartbeats 4000000 in
theorem b_reckon_103 {G : zG} {E : rE} {S : rS} {N : Nat} {Q : Option Value → rS → Prop} {X : rS → Prop} (hG : zOK G) (hR : ∀ S', X S' → Q none S') (ok : O_reckon_103 N S) (hx : X (F_reckon_103 N S)) : rX G E dX12_reckon mX12_reckon 103 [none, none, none] [] S Q := by
  unfold O_reckon_103 at ok
  unfold F_reckon_103 at hx
  exact r_return rfl dX12_reckon_103 (hR _ hx)
def F_reckon_96 (N : Nat) (rec : Int32 → Int32 → rS → Nat × rS) (x1 : Int32) (x2 : Int32) (s0 : Int32) (S : rS) : Nat × rS := (rec x1 (x2 + nI 1) S)
def O_reckon_96 (N : Nat) (rok : Int32 → Int32 → rS → Prop) (x1 : Int32) (x2 : Int32) (s0 : Int32) (S : rS) : Prop := rok x1 (x2 + nI 1) S
set_option maxHeartbeats 4000000 in
theorem b_reckon_96 {G : zG} {E : rE} {S : rS} {N : Nat} {Q : Option Value → rS → Prop} {X : Nat × rS → Prop} (hG : zOK G) (hX0 : ∀ (S' : rS), X (0, S') → rX G E dX12_reckon mX12_reckon 103 [none, none, none] [] S' Q) {rec : Int32 → Int32 → rS → Nat × rS} {rok : Int32 → Int32 → rS → Prop} (hrec : ∀ (x1 : Int32) (x2 : Int32) (S : rS), rok x1 x2 S → X (rec x1 x2 S) → rX G E dX12_reckon mX12_reckon 72 [some (.ref E.1), some (.int x1), some (.int x2)] [] S Q) {x1 : Int32} {x2 : Int32} {s0 : Int32} (ok : O_reckon_96 N rok x1 x2 s0 S) (hx : X (F_reckon_96 N rec x1 x2 s0 S)) : rX G E dX12_reckon mX12_reckon 96 [some (.ref E.1), some (.int x1), some (.int x2)] [.int s0] S Q := by
  unfold O_reckon_96 at ok
  unfold F_reckon_96 at hx
  refine r_pop dX12_reckon_96 rfl ?_
  refine r_iinc_2 (v := (x2 + nI 1)) dX12_reckon_97 rfl (by first | rfl | (congr 1)) (by decide) rfl ?_
  refine r_goto (tgt := 72) dX12_reckon_100 (by decide) ?_
  exact rX.cutz (hrec _ _ S ok hx) ⟨rfl, rfl, rfl, trivial⟩
def B_reckon_72 (N : Nat) (rec : Int32 → Int32 → rS → Nat × rS) (x1 : Int32) (x2 : Int32) (S : rS) : Nat × rS := (if (S.2.1 44 x1.toNatClampNeg) ≤ x2 then (0, S) else (F_reckon_96 N rec x1 x2 ((f_doParts N S (((nI 585) + ((nI 41) * x1)) + x2)).1) (f_doParts N S (((nI 585) + ((nI 41) * x1)) + x2)).2))
def OB_reckon_72 (N : Nat) (rok : Int32 → Int32 → rS → Prop) (x1 : Int32) (x2 : Int32) (S : rS) : Prop := (vp_in x1 13) ∧ (((S.2.1 44 x1.toNatClampNeg) ≤ x2 → True) ∧ (¬ (S.2.1 44 x1.toNatClampNeg) ≤ x2 → (o_doParts N S (((nI 585) + ((nI 41) * x1)) + x2)) ∧ O_reckon_96 N rok x1 x2 ((f_doParts N S (((nI 585) + ((nI 41) * x1)) + x2)).1) (f_doParts N S (((nI 585) + ((nI 41) * x1)) + x2)).2))
set_option maxHeartbeats 4000000 in
theorem bb_reckon_72 {G : zG} {E : rE} {S : rS} {N : Nat} {Q : Option Value → rS → Prop} {X : Nat × rS → Prop} (hG : zOK G) (hX0 : ∀ (S' : rS), X (0, S') → rX G E dX12_reckon mX12_reckon 103 [none, none, none] [] S' Q) {rec : Int32 → Int32 → rS → Nat × rS} {rok : Int32 → Int32 → rS → Prop} (hrec : ∀ (x1 : Int32) (x2 : Int32) (S : rS), rok x1 x2 S → X (rec x1 x2 S) → rX G E dX12_reckon mX12_reckon 72 [some (.ref E.1), some (.int x1), some (.int x2)] [] S Q) {x1 : Int32} {x2 : Int32} (ok : OB_reckon_72 N rok x1 x2 S) (hx : X (B_reckon_72 N rec x1 x2 S)) : rX G E dX12_reckon mX12_reckon 72 [some (.ref E.1), some (.int x1), some (.int x2)] [] S Q := by
  unfold OB_reckon_72 at ok
  unfold B_reckon_72 at hx
  refine r_iload_n dX12_reckon_72 rfl rfl ?_
  refine r_aload_n dX12_reckon_73 rfl rfl ?_
  refine r_getA 44 fX12_309 (by decide) (by decide) dX12_reckon_74 ?_
  refine r_iload_n dX12_reckon_77 rfl rfl ?_
  refine r_iald (by decide) (by decide) dX12_reckon_78 ok.1 ?_
  have ok := ok.2
  refine r_icmp_ge (tgt := 103) dX12_reckon_79 (by decide) (fun c_79 => ?_) (fun c_79 => ?_)
  · have ok := ok.1 c_79
    have hx := xif_p c_79 hx
    exact rX.cutz (hX0 S hx) trivial
  · have ok := ok.2 c_79
    have hx := xif_n c_79 hx
    refine r_aload_n dX12_reckon_82 rfl rfl ?_
    refine r_sipush (v := nI 585) dX12_reckon_83 (by decide) ?_
    refine r_bipush (v := nI 41) dX12_reckon_86 (by decide) ?_
    refine r_iload_n dX12_reckon_88 rfl rfl ?_
    refine r_imul dX12_reckon_89 ?_
    refine r_iadd dX12_reckon_90 ?_
    refine r_iload_n dX12_reckon_91 rfl rfl ?_
    refine r_iadd dX12_reckon_92 ?_
    refine r_V1i (y' := mX12_doParts) dX12_reckon_93 lX12_551 kX12_doParts ⟨by decide, by decide⟩ rfl (Nat.le_of_ble_eq_true rfl) (rc_X12_doParts hG ok.1) (fun v_93 S_93 h_93 => ?_)
    obtain ⟨rfl, hS_93⟩ := h_93
    have hS_93 := hS_93.symm
    subst hS_93
    have ok := ok.2
    exact rX.cutz (b_reckon_96 hG hX0 hrec ok hx) ⟨rfl, rfl, rfl, trivial⟩
def L_reckon_72 (N : Nat) : Nat → Int32 → Int32 → rS → Nat × rS
  | 0, x1, x2, S => (0, S)
  | n + 1, x1, x2, S => B_reckon_72 N (L_reckon_72 N n) x1 x2 S
def OL_reckon_72 (N : Nat) : Nat → Int32 → Int32 → rS → Prop
  | 0, _, _, _ => False
  | n + 1, x1, x2, S => OB_reckon_72 N (OL_reckon_72 N n) x1 x2 S
set_option maxHeartbeats 4000000 in
theorem l_reckon_72 {G : zG} {E : rE} {N : Nat} {Q : Option Value → rS → Prop} {X : Nat × rS → Prop} (hG : zOK G) (hX0 : ∀ (S' : rS), X (0, S') → rX G E dX12_reckon mX12_reckon 103 [none, none, none] [] S' Q) : ∀ (n : Nat) (x1 : Int32) (x2 : Int32) (S : rS), OL_reckon_72 N n x1 x2 S → X (L_reckon_72 N n x1 x2 S) → rX G E dX12_reckon mX12_reckon 72 [some (.ref E.1), some (.int x1), some (.int x2)] [] S Q := by
  intro n
  induction n with
  | zero => intro x1 x2 S ok; exact absurd ok id
  | succ n ih =>
    intro x1 x2 S ok hx
    exact bb_reckon_72 hG hX0 (rec := L_reckon_72 N n) (rok := OL_reckon_72 N n) (fun x1 x2 S ok hx => ih x1 x2 S ok hx) ok hx
def A_reckon_72 (N : Nat) (x1 : Int32) (x2 : Int32) (S : rS) (z : Nat × rS) : rS := (F_reckon_103 N z.2)
def OA_reckon_72 (N : Nat) (x1 : Int32) (x2 : Int32) (S : rS) (z : Nat × rS) : Prop := O_reckon_103 N z.2
set_option maxHeartbeats 4000000 in
theorem c_reckon_72 {G : zG} {E : rE} {S : rS} {N : Nat} {Q : Option Value → rS → Prop} {X : rS → Prop} (hG : zOK G) (hR : ∀ S', X S' → Q none S') {x1 : Int32} {x2 : Int32} (ok : OL_reckon_72 N N x1 x2 S ∧ OA_reckon_72 N x1 x2 S (L_reckon_72 N N x1 x2 S)) (hx : X (A_reckon_72 N x1 x2 S (L_reckon_72 N N x1 x2 S))) : rX G E dX12_reckon mX12_reckon 72 [some (.ref E.1), some (.int x1), some (.int x2)] [] S Q := by
  refine l_reckon_72 hG ?_ N x1 x2 S ok.1 (X := fun z => OA_reckon_72 N x1 x2 S z ∧ X (A_reckon_72 N x1 x2 S z)) ⟨ok.2, hx⟩
  · intro S' hz
    obtain ⟨ok, hx⟩ := hz
    unfold OA_reckon_72 at ok
    unfold A_reckon_72 at hx
    exact rX.cutz (b_reckon_103 hG hR ok hx) trivial
def F_reckon_65 (N : Nat) (x1 : Int32) (S : rS) : rS := (A_reckon_72 N x1 (S.2.1 80 x1.toNatClampNeg) S (L_reckon_72 N N x1 (S.2.1 80 x1.toNatClampNeg) S))
def O_reckon_65 (N : Nat) (x1 : Int32) (S : rS) : Prop := (vp_in x1 13) ∧ (OL_reckon_72 N N x1 (S.2.1 80 x1.toNatClampNeg) S ∧ OA_reckon_72 N x1 (S.2.1 80 x1.toNatClampNeg) S (L_reckon_72 N N x1 (S.2.1 80 x1.toNatClampNeg) S))
set_option maxHeartbeats 4000000 in
theorem b_reckon_65 {G : zG} {E : rE} {S : rS} {N : Nat} {Q : Option Value → rS → Prop} {X : rS → Prop} (hG : zOK G) (hR : ∀ S', X S' → Q none S') {x1 : Int32} (ok : O_reckon_65 N x1 S) (hx : X (F_reckon_65 N x1 S)) : rX G E dX12_reckon mX12_reckon 65 [some (.ref E.1), some (.int x1), none] [] S Q := by
  unfold O_reckon_65 at ok
  unfold F_reckon_65 at hx
  refine r_aload_n dX12_reckon_65 rfl rfl ?_
  refine r_getA 80 fX12_415 (by decide) (by decide) dX12_reckon_66 ?_
  refine r_iload_n dX12_reckon_69 rfl rfl ?_
  refine r_iald (by decide) (by decide) dX12_reckon_70 ok.1 ?_
  have ok := ok.2
  refine r_istore_2 dX12_reckon_71 (by decide) rfl ?_
  exact rX.cutz (c_reckon_72 hG hR ok hx) ⟨rfl, rfl, rfl, trivial⟩
def F_reckon_42 (N : Nat) (rec : Int32 → Int32 → rS → Nat × Int32 × rS) (x1 : Int32) (x2 : Int32) (S : rS) : Nat × Int32 × rS := (rec x1 (x2 + nI 1) (rsA S 87 x2.toNatClampNeg (S.2.1 84 (((nI 16) * x1) + x2).toNatClampNeg)))
def O_reckon_42 (N : Nat) (rok : Int32 → Int32 → rS → Prop) (x1 : Int32) (x2 : Int32) (S : rS) : Prop := (vp_in (((nI 16) * x1) + x2) 208) ∧ (vp_in x2 16 ∧ narrow .boolean (.int (S.2.1 84 (((nI 16) * x1) + x2).toNatClampNeg)) = .int (S.2.1 84 (((nI 16) * x1) + x2).toNatClampNeg)) ∧ rok x1 (x2 + nI 1) (rsA S 87 x2.toNatClampNeg (S.2.1 84 (((nI 16) * x1) + x2).toNatClampNeg))
set_option maxHeartbeats 4000000 in
theorem b_reckon_42 {G : zG} {E : rE} {S : rS} {N : Nat} {Q : Option Value → rS → Prop} {X : Nat × Int32 × rS → Prop} (hG : zOK G) (hX0 : ∀ (x1 : Int32) (S' : rS), X (0, x1, S') → rX G E dX12_reckon mX12_reckon 65 [some (.ref E.1), some (.int x1), none] [] S' Q) {rec : Int32 → Int32 → rS → Nat × Int32 × rS} {rok : Int32 → Int32 → rS → Prop} (hrec : ∀ (x1 : Int32) (x2 : Int32) (S : rS), rok x1 x2 S → X (rec x1 x2 S) → rX G E dX12_reckon mX12_reckon 2 [some (.ref E.1), some (.int x1), some (.int x2)] [] S Q) {x1 : Int32} {x2 : Int32} (ok : O_reckon_42 N rok x1 x2 S) (hx : X (F_reckon_42 N rec x1 x2 S)) : rX G E dX12_reckon mX12_reckon 42 [some (.ref E.1), some (.int x1), some (.int x2)] [] S Q := by
  unfold O_reckon_42 at ok
  unfold F_reckon_42 at hx
  refine r_aload_n dX12_reckon_42 rfl rfl ?_
  refine r_getA 87 fX12_436 (by decide) (by decide) dX12_reckon_43 ?_
  refine r_iload_n dX12_reckon_46 rfl rfl ?_
  refine r_aload_n dX12_reckon_47 rfl rfl ?_
  refine r_getA 84 fX12_427 (by decide) (by decide) dX12_reckon_48 ?_
  refine r_bipush (v := nI 16) dX12_reckon_51 (by decide) ?_
  refine r_iload_n dX12_reckon_53 rfl rfl ?_
  refine r_imul dX12_reckon_54 ?_
  refine r_iload_n dX12_reckon_55 rfl rfl ?_
  refine r_iadd dX12_reckon_56 ?_
  refine r_zald (by decide) (by decide) dX12_reckon_57 ok.1 ?_
  have ok := ok.2
  refine r_zast hG ok.1.2 (by decide) (by decide) dX12_reckon_58 ok.1.1 ?_
  have ok := ok.2
  refine r_iinc_2 (v := (x2 + nI 1)) dX12_reckon_59 rfl (by first | rfl | (congr 1)) (by decide) rfl ?_
  refine r_goto (tgt := 2) dX12_reckon_62 (by decide) ?_
  exact rX.cutz (hrec _ _ (rsA S 87 x2.toNatClampNeg (S.2.1 84 (((nI 16) * x1) + x2).toNatClampNeg)) ok hx) ⟨rfl, rfl, rfl, trivial⟩
def B_reckon_2 (N : Nat) (rec : Int32 → Int32 → rS → Nat × Int32 × rS) (x1 : Int32) (x2 : Int32) (S : rS) : Nat × Int32 × rS := (if (nI 16) ≤ x2 then (0, x1, S) else (F_reckon_42 N rec x1 x2 (rsA (rsA S 85 x2.toNatClampNeg (S.2.1 82 (((nI 16) * x1) + x2).toNatClampNeg)) 86 x2.toNatClampNeg ((rsA S 85 x2.toNatClampNeg (S.2.1 82 (((nI 16) * x1) + x2).toNatClampNeg)).2.1 83 (((nI 16) * x1) + x2).toNatClampNeg))))
def OB_reckon_2 (N : Nat) (rok : Int32 → Int32 → rS → Prop) (x1 : Int32) (x2 : Int32) (S : rS) : Prop := (((nI 16) ≤ x2 → True) ∧ (¬ (nI 16) ≤ x2 → (vp_in (((nI 16) * x1) + x2) 208) ∧ (vp_in x2 16) ∧ (vp_in (((nI 16) * x1) + x2) 208) ∧ (vp_in x2 16) ∧ O_reckon_42 N rok x1 x2 (rsA (rsA S 85 x2.toNatClampNeg (S.2.1 82 (((nI 16) * x1) + x2).toNatClampNeg)) 86 x2.toNatClampNeg ((rsA S 85 x2.toNatClampNeg (S.2.1 82 (((nI 16) * x1) + x2).toNatClampNeg)).2.1 83 (((nI 16) * x1) + x2).toNatClampNeg))))
set_option maxHeartbeats 4000000 in
theorem bb_reckon_2 {G : zG} {E : rE} {S : rS} {N : Nat} {Q : Option Value → rS → Prop} {X : Nat × Int32 × rS → Prop} (hG : zOK G) (hX0 : ∀ (x1 : Int32) (S' : rS), X (0, x1, S') → rX G E dX12_reckon mX12_reckon 65 [some (.ref E.1), some (.int x1), none] [] S' Q) {rec : Int32 → Int32 → rS → Nat × Int32 × rS} {rok : Int32 → Int32 → rS → Prop} (hrec : ∀ (x1 : Int32) (x2 : Int32) (S : rS), rok x1 x2 S → X (rec x1 x2 S) → rX G E dX12_reckon mX12_reckon 2 [some (.ref E.1), some (.int x1), some (.int x2)] [] S Q) {x1 : Int32} {x2 : Int32} (ok : OB_reckon_2 N rok x1 x2 S) (hx : X (B_reckon_2 N rec x1 x2 S)) : rX G E dX12_reckon mX12_reckon 2 [some (.ref E.1), some (.int x1), some (.int x2)] [] S Q := by
  unfold OB_reckon_2 at ok
  unfold B_reckon_2 at hx
  refine r_iload_n dX12_reckon_2 rfl rfl ?_
  refine r_bipush (v := nI 16) dX12_reckon_3 (by decide) ?_
  refine r_icmp_ge (tgt := 65) dX12_reckon_5 (by decide) (fun c_5 => ?_) (fun c_5 => ?_)
  · have ok := ok.1 c_5
    have hx := xif_p c_5 hx
    exact rX.cutz (hX0 _ S hx) ⟨rfl, rfl, trivial⟩
  · have ok := ok.2 c_5
    have hx := xif_n c_5 hx
    refine r_aload_n dX12_reckon_8 rfl rfl ?_
    refine r_getA 85 fX12_430 (by decide) (by decide) dX12_reckon_9 ?_
    refine r_iload_n dX12_reckon_12 rfl rfl ?_
    refine r_aload_n dX12_reckon_13 rfl rfl ?_
    refine r_getA 82 fX12_421 (by decide) (by decide) dX12_reckon_14 ?_
    refine r_bipush (v := nI 16) dX12_reckon_17 (by decide) ?_
    refine r_iload_n dX12_reckon_19 rfl rfl ?_
    refine r_imul dX12_reckon_20 ?_
    refine r_iload_n dX12_reckon_21 rfl rfl ?_
    refine r_iadd dX12_reckon_22 ?_
    refine r_iald (by decide) (by decide) dX12_reckon_23 ok.1 ?_
    have ok := ok.2
    refine r_iast hG (by decide) (by decide) dX12_reckon_24 ok.1 ?_
    have ok := ok.2
    refine r_aload_n dX12_reckon_25 rfl rfl ?_
    refine r_getA 86 fX12_433 (by decide) (by decide) dX12_reckon_26 ?_
    refine r_iload_n dX12_reckon_29 rfl rfl ?_
    refine r_aload_n dX12_reckon_30 rfl rfl ?_
    refine r_getA 83 fX12_424 (by decide) (by decide) dX12_reckon_31 ?_
    refine r_bipush (v := nI 16) dX12_reckon_34 (by decide) ?_
    refine r_iload_n dX12_reckon_36 rfl rfl ?_
    refine r_imul dX12_reckon_37 ?_
    refine r_iload_n dX12_reckon_38 rfl rfl ?_
    refine r_iadd dX12_reckon_39 ?_
    refine r_iald (by decide) (by decide) dX12_reckon_40 ok.1 ?_
    have ok := ok.2
    refine r_iast hG (by decide) (by decide) dX12_reckon_41 ok.1 ?_
    have ok := ok.2
    exact rX.cutz (b_reckon_42 hG hX0 hrec ok hx) ⟨rfl, rfl, rfl, trivial⟩
def L_reckon_2 (N : Nat) : Nat → Int32 → Int32 → rS → Nat × Int32 × rS
  | 0, x1, x2, S => (0, 0, S)
  | n + 1, x1, x2, S => B_reckon_2 N (L_reckon_2 N n) x1 x2 S
def OL_reckon_2 (N : Nat) : Nat → Int32 → Int32 → rS → Prop
  | 0, _, _, _ => False
  | n + 1, x1, x2, S => OB_reckon_2 N (OL_reckon_2 N n) x1 x2 S
set_option maxHeartbeats 4000000 in
theorem l_reckon_2 {G : zG} {E : rE} {N : Nat} {Q : Option Value → rS → Prop} {X : Nat × Int32 × rS → Prop} (hG : zOK G) (hX0 : ∀ (x1 : Int32) (S' : rS), X (0, x1, S') → rX G E dX12_reckon mX12_reckon 65 [some (.ref E.1), some (.int x1), none] [] S' Q) : ∀ (n : Nat) (x1 : Int32) (x2 : Int32) (S : rS), OL_reckon_2 N n x1 x2 S → X (L_reckon_2 N n x1 x2 S) → rX G E dX12_reckon mX12_reckon 2 [some (.ref E.1), some (.int x1), some (.int x2)] [] S Q := by
  intro n
  induction n with
  | zero => intro x1 x2 S ok; exact absurd ok id
  | succ n ih =>
    intro x1 x2 S ok hx
    exact bb_reckon_2 hG hX0 (rec := L_reckon_2 N n) (rok := OL_reckon_2 N n) (fun x1 x2 S ok hx => ih x1 x2 S ok hx) ok hx
def A_reckon_2 (N : Nat) (x1 : Int32) (x2 : Int32) (S : rS) (z : Nat × Int32 × rS) : rS := (F_reckon_65 N (z.2.1) z.2.2)
def OA_reckon_2 (N : Nat) (x1 : Int32) (x2 : Int32) (S : rS) (z : Nat × Int32 × rS) : Prop := O_reckon_65 N (z.2.1) z.2.2
set_option maxHeartbeats 4000000 in
theorem c_reckon_2 {G : zG} {E : rE} {S : rS} {N : Nat} {Q : Option Value → rS → Prop} {X : rS → Prop} (hG : zOK G) (hR : ∀ S', X S' → Q none S') {x1 : Int32} {x2 : Int32} (ok : OL_reckon_2 N N x1 x2 S ∧ OA_reckon_2 N x1 x2 S (L_reckon_2 N N x1 x2 S)) (hx : X (A_reckon_2 N x1 x2 S (L_reckon_2 N N x1 x2 S))) : rX G E dX12_reckon mX12_reckon 2 [some (.ref E.1), some (.int x1), some (.int x2)] [] S Q := by
  refine l_reckon_2 hG ?_ N x1 x2 S ok.1 (X := fun z => OA_reckon_2 N x1 x2 S z ∧ X (A_reckon_2 N x1 x2 S z)) ⟨ok.2, hx⟩
  · intro x1' S' hz
    obtain ⟨ok, hx⟩ := hz
    unfold OA_reckon_2 at ok
    unfold A_reckon_2 at hx
    exact rX.cutz (b_reckon_65 hG hR ok hx) ⟨rfl, rfl, trivial⟩
def F_reckon_0 (N : Nat) (x1 : Int32) (S : rS) : rS := (A_reckon_2 N x1 (nI 0) S (L_reckon_2 N N x1 (nI 0) S))
def O_reckon_0 (N : Nat) (x1 : Int32) (S : rS) : Prop := (OL_reckon_2 N N x1 (nI 0) S ∧ OA_reckon_2 N x1 (nI 0) S (L_reckon_2 N N x1 (nI 0) S))
set_option maxHeartbeats 4000000 in
theorem b_reckon_0 {G : zG} {E : rE} {S : rS} {N : Nat} {Q : Option Value → rS → Prop} {X : rS → Prop} (hG : zOK G) (hR : ∀ S', X S' → Q none S') {x1 : Int32} (ok : O_reckon_0 N x1 S) (hx : X (F_reckon_0 N x1 S)) : rX G E dX12_reckon mX12_reckon 0 [some (.ref E.1), some (.int x1), none] [] S Q := by
  unfold O_reckon_0 at ok
  unfold F_reckon_0 at hx
  refine r_iconst (v := nI 0) dX12_reckon_0 (by decide) ?_
  refine r_istore_2 dX12_reckon_1 (by decide) rfl ?_
  exact rX.cutz (c_reckon_2 hG hR ok hx) ⟨rfl, rfl, rfl, trivial⟩
def f_reckon (N : Nat) (S : rS) (x1 : Int32) : rS := F_reckon_0 N x1 S
def o_reckon (N : Nat) (S : rS) (x1 : Int32) : Prop := O_reckon_0 N x1 S
set_option maxHeartbeats 4000000 in
theorem rc_X12_reckon {G : zG} {E : rE} {S : rS} {N : Nat} (hG : zOK G) {x1 : Int32} (ok : o_reckon N S x1) : rCv G E dX12_reckon mX12_reckon [.ref E.1, .int x1] S (fun S' => S' = f_reckon N S x1) := by
  refine rC.ofX rfl (Nat.le_of_ble_eq_true rfl) ?_
  show rX G E dX12_reckon mX12_reckon 0 [some (.ref E.1), some (.int x1), none] [] S _
  exact rX.cutz (b_reckon_0 (X := fun F => F = f_reckon N S x1) hG (fun S' h => ⟨rfl, h⟩) ok rfl) ⟨rfl, rfl, trivial⟩

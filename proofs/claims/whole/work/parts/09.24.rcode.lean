/-! balance -/
def F_balance_25 (N : Nat) (x2 : Int32) (S : rS) : Int32 × rS := ((S.2.1 85 x2.toNatClampNeg), S)
def O_balance_25 (N : Nat) (x2 : Int32) (S : rS) : Prop := (vp_in x2 16) ∧ True
set_option maxHeartbeats 4000000 in
theorem b_balance_25 {G : zG} {E : rE} {S : rS} {N : Nat} {Q : Option Value → rS → Prop} {X : Int32 × rS → Prop} (hG : zOK G) (hR : ∀ v S', X (v, S') → Q (some (.int v)) S') {x2 : Int32} (ok : O_balance_25 N x2 S) (hx : X (F_balance_25 N x2 S)) : rX G E dX12_balance mX12_balance 25 [some (.ref E.1), none, some (.int x2)] [] S Q := by
  unfold O_balance_25 at ok
  unfold F_balance_25 at hx
  refine r_aload_n dX12_balance_25 rfl rfl ?_
  refine r_getA 85 fX12_430 (by decide) (by decide) dX12_balance_26 ?_
  refine r_iload_n dX12_balance_29 rfl rfl ?_
  refine r_iald (by decide) (by decide) dX12_balance_30 ok.1 ?_
  have ok := ok.2
  exact r_ireturn rfl rfl dX12_balance_31 (hR _ _ hx)
def F_balance_18 (N : Nat)  (S : rS) : Int32 × rS := ((-1), S)
def O_balance_18 (N : Nat)  (S : rS) : Prop := True
set_option maxHeartbeats 4000000 in
theorem b_balance_18 {G : zG} {E : rE} {S : rS} {N : Nat} {Q : Option Value → rS → Prop} {X : Int32 × rS → Prop} (hG : zOK G) (hR : ∀ v S', X (v, S') → Q (some (.int v)) S') (ok : O_balance_18 N S) (hx : X (F_balance_18 N S)) : rX G E dX12_balance mX12_balance 18 [none, none, none] [] S Q := by
  unfold O_balance_18 at ok
  unfold F_balance_18 at hx
  refine r_iconst (v := -1) dX12_balance_18 (by decide) ?_
  exact r_ireturn rfl rfl dX12_balance_19 (hR _ _ hx)
def F_balance_0 (N : Nat) (x1 : Int32) (x2 : Int32) (S : rS) : Int32 × rS := (if (f_isHonest N S x1) = 0 then (F_balance_18 N S) else (if x2 < 0 then (F_balance_18 N S) else (if x2 ≤ (nI 15) then (F_balance_25 N x2 (f_reckon N S x1)) else (F_balance_18 N S))))
def O_balance_0 (N : Nat) (x1 : Int32) (x2 : Int32) (S : rS) : Prop := (o_isHonest N S x1) ∧ (((f_isHonest N S x1) = 0 → O_balance_18 N S) ∧ (¬ (f_isHonest N S x1) = 0 → ((x2 < 0 → O_balance_18 N S) ∧ (¬ x2 < 0 → ((x2 ≤ (nI 15) → (o_reckon N S x1) ∧ O_balance_25 N x2 (f_reckon N S x1)) ∧ (¬ x2 ≤ (nI 15) → O_balance_18 N S))))))
set_option maxHeartbeats 4000000 in
theorem b_balance_0 {G : zG} {E : rE} {S : rS} {N : Nat} {Q : Option Value → rS → Prop} {X : Int32 × rS → Prop} (hG : zOK G) (hR : ∀ v S', X (v, S') → Q (some (.int v)) S') {x1 : Int32} {x2 : Int32} (ok : O_balance_0 N x1 x2 S) (hx : X (F_balance_0 N x1 x2 S)) : rX G E dX12_balance mX12_balance 0 [some (.ref E.1), some (.int x1), some (.int x2)] [] S Q := by
  unfold O_balance_0 at ok
  unfold F_balance_0 at hx
  refine r_aload_n dX12_balance_0 rfl rfl ?_
  refine r_iload_n dX12_balance_1 rfl rfl ?_
  refine r_V1i (y' := mX12_isHonest) dX12_balance_2 lX12_155 kX12_isHonest ⟨by decide, by decide⟩ rfl (Nat.le_of_ble_eq_true rfl) (rc_X12_isHonest hG ok.1) (fun v_2 S_2 h_2 => ?_)
  obtain ⟨rfl, hS_2⟩ := h_2
  have hS_2 := hS_2.symm
  subst hS_2
  have ok := ok.2
  refine r_if_eq (tgt := 18) dX12_balance_5 (by decide) (fun c_5 => ?_) (fun c_5 => ?_)
  · have ok := ok.1 c_5
    have hx := xif_p c_5 hx
    exact rX.cutz (b_balance_18 hG hR ok hx) trivial
  · have ok := ok.2 c_5
    have hx := xif_n c_5 hx
    refine r_iload_n dX12_balance_8 rfl rfl ?_
    refine r_if_lt (tgt := 18) dX12_balance_9 (by decide) (fun c_9 => ?_) (fun c_9 => ?_)
    · have ok := ok.1 c_9
      have hx := xif_p c_9 hx
      exact rX.cutz (b_balance_18 hG hR ok hx) trivial
    · have ok := ok.2 c_9
      have hx := xif_n c_9 hx
      refine r_iload_n dX12_balance_12 rfl rfl ?_
      refine r_bipush (v := nI 15) dX12_balance_13 (by decide) ?_
      refine r_icmp_le (tgt := 20) dX12_balance_15 (by decide) (fun c_15 => ?_) (fun c_15 => ?_)
      · have ok := ok.1 c_15
        have hx := xif_p c_15 hx
        refine r_aload_n dX12_balance_20 rfl rfl ?_
        refine r_iload_n dX12_balance_21 rfl rfl ?_
        refine r_V1v (y' := mX12_reckon) dX12_balance_22 lX12_161 kX12_reckon ⟨by decide, by decide⟩ rfl (Nat.le_of_ble_eq_true rfl) (rc_X12_reckon hG ok.1) (fun S_22 h_22 => ?_)
        subst h_22
        have ok := ok.2
        exact rX.cutz (b_balance_25 hG hR ok hx) ⟨rfl, rfl, trivial⟩
      · have ok := ok.2 c_15
        have hx := xif_n c_15 hx
        exact rX.cutz (b_balance_18 hG hR ok hx) trivial
def f_balance (N : Nat) (S : rS) (x1 : Int32) (x2 : Int32) : Int32 × rS := F_balance_0 N x1 x2 S
def o_balance (N : Nat) (S : rS) (x1 : Int32) (x2 : Int32) : Prop := O_balance_0 N x1 x2 S
set_option maxHeartbeats 4000000 in
theorem rc_X12_balance {G : zG} {E : rE} {S : rS} {N : Nat} (hG : zOK G) {x1 : Int32} {x2 : Int32} (ok : o_balance N S x1 x2) : rCi G E dX12_balance mX12_balance [.ref E.1, .int x1, .int x2] S (fun v S' => v = (f_balance N S x1 x2).1 ∧ S' = (f_balance N S x1 x2).2) := by
  refine rC.ofX rfl (Nat.le_of_ble_eq_true rfl) ?_
  show rX G E dX12_balance mX12_balance 0 [some (.ref E.1), some (.int x1), some (.int x2)] [] S _
  exact rX.cutz (b_balance_0 (X := fun F => F = f_balance N S x1 x2) hG (fun v S' h => ⟨v, rfl, by rw [← h], by rw [← h]⟩) ok rfl) ⟨rfl, rfl, rfl, trivial⟩
/-! count -/
def F_count_0 (N : Nat) (x1 : Int32) (S : rS) : Int32 := (if x1 = nI 0 then (S.1 23) else (if x1 = nI 1 then (S.1 0) else (if x1 = nI 2 then (S.1 3) else (if x1 = nI 3 then (S.1 4) else (if x1 = nI 4 then (S.1 5) else (if x1 = nI 5 then (S.1 22) else (if x1 = nI 6 then (S.1 2) else (-1))))))))
def O_count_0 (N : Nat) (x1 : Int32) (S : rS) : Prop := ((x1 = nI 0 → True) ∧ (¬ x1 = nI 0 → ((x1 = nI 1 → True) ∧ (¬ x1 = nI 1 → ((x1 = nI 2 → True) ∧ (¬ x1 = nI 2 → ((x1 = nI 3 → True) ∧ (¬ x1 = nI 3 → ((x1 = nI 4 → True) ∧ (¬ x1 = nI 4 → ((x1 = nI 5 → True) ∧ (¬ x1 = nI 5 → ((x1 = nI 6 → True) ∧ (¬ x1 = nI 6 → True))))))))))))))
set_option maxHeartbeats 4000000 in
theorem b_count_0 {G : zG} {E : rE} {S : rS} {N : Nat} {Q : Option Value → rS → Prop} {X : Int32 → Prop} (hG : zOK G) (hR : ∀ v, X v → Q (some (.int v)) S) {x1 : Int32} (ok : O_count_0 N x1 S) (hx : X (F_count_0 N x1 S)) : rX G E dX12_count mX12_count 0 [some (.ref E.1), some (.int x1)] [] S Q := by
  unfold O_count_0 at ok
  unfold F_count_0 at hx
  refine r_iload_n dX12_count_0 rfl rfl ?_
  by_cases c_1_0 : x1 = nI 0
  · have ok := ok.1 c_1_0
    have hx := xif_p c_1_0 hx
    refine r_tableIn (off := 43) (tgt := 44) dX12_count_1 (by rw [c_1_0]; decide) (by rw [c_1_0]; decide) (by rw [c_1_0]; rfl) (by decide) ?_
    refine r_aload_n dX12_count_44 rfl rfl ?_
    refine r_getI 23 fX12_182 (by decide) (by decide) dX12_count_45 ?_
    exact r_ireturn rfl rfl dX12_count_48 (hR _ hx)
  · have ok := ok.2 c_1_0
    have hx := xif_n c_1_0 hx
    by_cases c_1_1 : x1 = nI 1
    · have ok := ok.1 c_1_1
      have hx := xif_p c_1_1 hx
      refine r_tableIn (off := 48) (tgt := 49) dX12_count_1 (by rw [c_1_1]; decide) (by rw [c_1_1]; decide) (by rw [c_1_1]; rfl) (by decide) ?_
      refine r_aload_n dX12_count_49 rfl rfl ?_
      refine r_getI 0 fX12_219 (by decide) (by decide) dX12_count_50 ?_
      exact r_ireturn rfl rfl dX12_count_53 (hR _ hx)
    · have ok := ok.2 c_1_1
      have hx := xif_n c_1_1 hx
      by_cases c_1_2 : x1 = nI 2
      · have ok := ok.1 c_1_2
        have hx := xif_p c_1_2 hx
        refine r_tableIn (off := 53) (tgt := 54) dX12_count_1 (by rw [c_1_2]; decide) (by rw [c_1_2]; decide) (by rw [c_1_2]; rfl) (by decide) ?_
        refine r_aload_n dX12_count_54 rfl rfl ?_
        refine r_getI 3 fX12_216 (by decide) (by decide) dX12_count_55 ?_
        exact r_ireturn rfl rfl dX12_count_58 (hR _ hx)
      · have ok := ok.2 c_1_2
        have hx := xif_n c_1_2 hx
        by_cases c_1_3 : x1 = nI 3
        · have ok := ok.1 c_1_3
          have hx := xif_p c_1_3 hx
          refine r_tableIn (off := 58) (tgt := 59) dX12_count_1 (by rw [c_1_3]; decide) (by rw [c_1_3]; decide) (by rw [c_1_3]; rfl) (by decide) ?_
          refine r_aload_n dX12_count_59 rfl rfl ?_
          refine r_getI 4 fX12_185 (by decide) (by decide) dX12_count_60 ?_
          exact r_ireturn rfl rfl dX12_count_63 (hR _ hx)
        · have ok := ok.2 c_1_3
          have hx := xif_n c_1_3 hx
          by_cases c_1_4 : x1 = nI 4
          · have ok := ok.1 c_1_4
            have hx := xif_p c_1_4 hx
            refine r_tableIn (off := 63) (tgt := 64) dX12_count_1 (by rw [c_1_4]; decide) (by rw [c_1_4]; decide) (by rw [c_1_4]; rfl) (by decide) ?_
            refine r_aload_n dX12_count_64 rfl rfl ?_
            refine r_getI 5 fX12_188 (by decide) (by decide) dX12_count_65 ?_
            exact r_ireturn rfl rfl dX12_count_68 (hR _ hx)
          · have ok := ok.2 c_1_4
            have hx := xif_n c_1_4 hx
            by_cases c_1_5 : x1 = nI 5
            · have ok := ok.1 c_1_5
              have hx := xif_p c_1_5 hx
              refine r_tableIn (off := 68) (tgt := 69) dX12_count_1 (by rw [c_1_5]; decide) (by rw [c_1_5]; decide) (by rw [c_1_5]; rfl) (by decide) ?_
              refine r_aload_n dX12_count_69 rfl rfl ?_
              refine r_getI 22 fX12_133 (by decide) (by decide) dX12_count_70 ?_
              exact r_ireturn rfl rfl dX12_count_73 (hR _ hx)
            · have ok := ok.2 c_1_5
              have hx := xif_n c_1_5 hx
              by_cases c_1_6 : x1 = nI 6
              · have ok := ok.1 c_1_6
                have hx := xif_p c_1_6 hx
                refine r_tableIn (off := 73) (tgt := 74) dX12_count_1 (by rw [c_1_6]; decide) (by rw [c_1_6]; decide) (by rw [c_1_6]; rfl) (by decide) ?_
                refine r_aload_n dX12_count_74 rfl rfl ?_
                refine r_getI 2 fX12_445 (by decide) (by decide) dX12_count_75 ?_
                exact r_ireturn rfl rfl dX12_count_78 (hR _ hx)
              · have ok := ok.2 c_1_6
                have hx := xif_n c_1_6 hx
                refine r_tableOut (tgt := 79) dX12_count_1 (zsw 7 (by intro k hk; rcases (show k = 0 ∨ k = 1 ∨ k = 2 ∨ k = 3 ∨ k = 4 ∨ k = 5 ∨ k = 6 by omega) with rfl | rfl | rfl | rfl | rfl | rfl | rfl <;> assumption) (by decide) (by decide)) (by decide) ?_
                refine r_iconst (v := -1) dX12_count_79 (by decide) ?_
                exact r_ireturn rfl rfl dX12_count_80 (hR _ hx)
def f_count (N : Nat) (S : rS) (x1 : Int32) : Int32 := F_count_0 N x1 S
def o_count (N : Nat) (S : rS) (x1 : Int32) : Prop := O_count_0 N x1 S
set_option maxHeartbeats 4000000 in
theorem rc_X12_count {G : zG} {E : rE} {S : rS} {N : Nat} (hG : zOK G) {x1 : Int32} (ok : o_count N S x1) : rCi G E dX12_count mX12_count [.ref E.1, .int x1] S (fun v S' => v = f_count N S x1 ∧ S' = S) := by
  refine rC.ofX rfl (Nat.le_of_ble_eq_true rfl) ?_
  show rX G E dX12_count mX12_count 0 [some (.ref E.1), some (.int x1)] [] S _
  exact rX.cutz (b_count_0 (X := fun F => F = f_count N S x1) hG (fun v h => ⟨v, rfl, h, rfl⟩) ok rfl) ⟨rfl, rfl, trivial⟩

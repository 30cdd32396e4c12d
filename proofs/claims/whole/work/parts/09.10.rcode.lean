/-! readProposal -/
def F_readProposal_148 (N : Nat) (s0 : Int32) (S : rS) : Int32 × rS := (s0, S)
def O_readProposal_148 (N : Nat) (s0 : Int32) (S : rS) : Prop := narrow .boolean (.int s0) = .int s0
set_option maxHeartbeats 4000000 in
theorem b_readProposal_148 {G : zG} {E : rE} {S : rS} {N : Nat} {Q : Option Value → rS → Prop} {X : Int32 × rS → Prop} (hG : zOK G) (hR : ∀ v S', X (v, S') → Q (some (.int v)) S') {s0 : Int32} (ok : O_readProposal_148 N s0 S) (hx : X (F_readProposal_148 N s0 S)) : rX G E dX12_readProposal mX12_readProposal 148 [none] [.int s0] S Q := by
  unfold O_readProposal_148 at ok
  unfold F_readProposal_148 at hx
  exact r_ireturn rfl ok dX12_readProposal_148 (hR _ _ hx)
def F_readProposal_147 (N : Nat)  (S : rS) : Int32 × rS := (F_readProposal_148 N (nI 0) S)
def O_readProposal_147 (N : Nat)  (S : rS) : Prop := O_readProposal_148 N (nI 0) S
set_option maxHeartbeats 4000000 in
theorem b_readProposal_147 {G : zG} {E : rE} {S : rS} {N : Nat} {Q : Option Value → rS → Prop} {X : Int32 × rS → Prop} (hG : zOK G) (hR : ∀ v S', X (v, S') → Q (some (.int v)) S') (ok : O_readProposal_147 N S) (hx : X (F_readProposal_147 N S)) : rX G E dX12_readProposal mX12_readProposal 147 [none] [] S Q := by
  unfold O_readProposal_147 at ok
  unfold F_readProposal_147 at hx
  refine r_iconst (v := nI 0) dX12_readProposal_147 (by decide) ?_
  exact rX.cutz (b_readProposal_148 hG hR ok hx) trivial
def F_readProposal_126 (N : Nat) (s0 : Int32) (S : rS) : Int32 × rS := (if s0 = 0 then (F_readProposal_147 N S) else (if (f_heightOf N S (nI 1352)) = (S.1 38) then (F_readProposal_148 N (nI 1) S) else (F_readProposal_147 N S)))
def O_readProposal_126 (N : Nat) (s0 : Int32) (S : rS) : Prop := ((s0 = 0 → O_readProposal_147 N S) ∧ (¬ s0 = 0 → (o_heightOf N S (nI 1352)) ∧ (((f_heightOf N S (nI 1352)) = (S.1 38) → O_readProposal_148 N (nI 1) S) ∧ (¬ (f_heightOf N S (nI 1352)) = (S.1 38) → O_readProposal_147 N S))))
set_option maxHeartbeats 4000000 in
theorem b_readProposal_126 {G : zG} {E : rE} {S : rS} {N : Nat} {Q : Option Value → rS → Prop} {X : Int32 × rS → Prop} (hG : zOK G) (hR : ∀ v S', X (v, S') → Q (some (.int v)) S') {s0 : Int32} (ok : O_readProposal_126 N s0 S) (hx : X (F_readProposal_126 N s0 S)) : rX G E dX12_readProposal mX12_readProposal 126 [some (.ref E.1)] [.int s0] S Q := by
  unfold O_readProposal_126 at ok
  unfold F_readProposal_126 at hx
  refine r_if_eq (tgt := 147) dX12_readProposal_126 (by decide) (fun c_126 => ?_) (fun c_126 => ?_)
  · have ok := ok.1 c_126
    have hx := xif_p c_126 hx
    exact rX.cutz (b_readProposal_147 hG hR ok hx) trivial
  · have ok := ok.2 c_126
    have hx := xif_n c_126 hx
    refine r_aload_n dX12_readProposal_129 rfl rfl ?_
    refine r_sipush (v := nI 1352) dX12_readProposal_130 (by decide) ?_
    refine r_V1i (y' := mX12_heightOf) dX12_readProposal_133 lX12_279 kX12_heightOf ⟨by decide, by decide⟩ rfl (Nat.le_of_ble_eq_true rfl) (rc_X12_heightOf hG ok.1) (fun v_133 S_133 h_133 => ?_)
    obtain ⟨rfl, hS_133⟩ := h_133
    have hS_133 := hS_133.symm
    subst hS_133
    have ok := ok.2
    refine r_aload_n dX12_readProposal_136 rfl rfl ?_
    refine r_getI 38 fX12_257 (by decide) (by decide) dX12_readProposal_137 ?_
    refine r_icmp_ne (tgt := 147) dX12_readProposal_140 (by decide) (fun c_140 => ?_) (fun c_140 => ?_)
    · have ok := ok.2 c_140
      have hx := xif_n c_140 hx
      exact rX.cutz (b_readProposal_147 hG hR ok hx) trivial
    · have ok := ok.1 c_140
      have hx := xif_p c_140 hx
      refine r_iconst (v := nI 1) dX12_readProposal_143 (by decide) ?_
      refine r_goto (tgt := 148) dX12_readProposal_144 (by decide) ?_
      exact rX.cutz (b_readProposal_148 hG hR ok hx) trivial
def F_readProposal_117 (N : Nat) (s1 : Int32) (S : rS) : Int32 × rS := (F_readProposal_126 N ((f_readBlock N (rsI S 40 s1) (nI 6)).1) (f_readBlock N (rsI S 40 s1) (nI 6)).2)
def O_readProposal_117 (N : Nat) (s1 : Int32) (S : rS) : Prop := (o_readBlock N (rsI S 40 s1) (nI 6)) ∧ O_readProposal_126 N ((f_readBlock N (rsI S 40 s1) (nI 6)).1) (f_readBlock N (rsI S 40 s1) (nI 6)).2
set_option maxHeartbeats 4000000 in
theorem b_readProposal_117 {G : zG} {E : rE} {S : rS} {N : Nat} {Q : Option Value → rS → Prop} {X : Int32 × rS → Prop} (hG : zOK G) (hR : ∀ v S', X (v, S') → Q (some (.int v)) S') {s1 : Int32} (ok : O_readProposal_117 N s1 S) (hx : X (F_readProposal_117 N s1 S)) : rX G E dX12_readProposal mX12_readProposal 117 [some (.ref E.1)] [.int s1, .ref E.1] S Q := by
  unfold O_readProposal_117 at ok
  unfold F_readProposal_117 at hx
  refine r_putI 40 fX12_273 (by decide) (by decide) rfl rfl rfl dX12_readProposal_117 ?_
  refine r_aload_n dX12_readProposal_120 rfl rfl ?_
  refine r_bipush (v := nI 6) dX12_readProposal_121 (by decide) ?_
  refine r_V1i (y' := mX12_readBlock) dX12_readProposal_123 lX12_276 kX12_readBlock ⟨by decide, by decide⟩ rfl (Nat.le_of_ble_eq_true rfl) (rc_X12_readBlock hG ok.1) (fun v_123 S_123 h_123 => ?_)
  obtain ⟨rfl, hS_123⟩ := h_123
  have hS_123 := hS_123.symm
  subst hS_123
  have ok := ok.2
  exact rX.cutz (b_readProposal_126 hG hR ok hx) ⟨rfl, trivial⟩
def F_readProposal_94 (N : Nat)  (S : rS) : Int32 × rS := (if (S.2.1 32 (nI 5).toNatClampNeg) = (nI 255) then (F_readProposal_117 N (-1) S) else (F_readProposal_117 N (S.2.1 32 (nI 5).toNatClampNeg) S))
def O_readProposal_94 (N : Nat)  (S : rS) : Prop := (vp_in (nI 5) 1010) ∧ (((S.2.1 32 (nI 5).toNatClampNeg) = (nI 255) → O_readProposal_117 N (-1) S) ∧ (¬ (S.2.1 32 (nI 5).toNatClampNeg) = (nI 255) → (vp_in (nI 5) 1010) ∧ O_readProposal_117 N (S.2.1 32 (nI 5).toNatClampNeg) S))
set_option maxHeartbeats 4000000 in
theorem b_readProposal_94 {G : zG} {E : rE} {S : rS} {N : Nat} {Q : Option Value → rS → Prop} {X : Int32 × rS → Prop} (hG : zOK G) (hR : ∀ v S', X (v, S') → Q (some (.int v)) S') (ok : O_readProposal_94 N S) (hx : X (F_readProposal_94 N S)) : rX G E dX12_readProposal mX12_readProposal 94 [some (.ref E.1)] [] S Q := by
  unfold O_readProposal_94 at ok
  unfold F_readProposal_94 at hx
  refine r_aload_n dX12_readProposal_94 rfl rfl ?_
  refine r_aload_n dX12_readProposal_95 rfl rfl ?_
  refine r_getA 32 fX12_204 (by decide) (by decide) dX12_readProposal_96 ?_
  refine r_iconst (v := nI 5) dX12_readProposal_99 (by decide) ?_
  refine r_iald (by decide) (by decide) dX12_readProposal_100 ok.1 ?_
  have ok := ok.2
  refine r_sipush (v := nI 255) dX12_readProposal_101 (by decide) ?_
  refine r_icmp_ne (tgt := 111) dX12_readProposal_104 (by decide) (fun c_104 => ?_) (fun c_104 => ?_)
  · have ok := ok.2 c_104
    have hx := xif_n c_104 hx
    refine r_aload_n dX12_readProposal_111 rfl rfl ?_
    refine r_getA 32 fX12_204 (by decide) (by decide) dX12_readProposal_112 ?_
    refine r_iconst (v := nI 5) dX12_readProposal_115 (by decide) ?_
    refine r_iald (by decide) (by decide) dX12_readProposal_116 ok.1 ?_
    have ok := ok.2
    exact rX.cutz (b_readProposal_117 hG hR ok hx) ⟨rfl, trivial⟩
  · have ok := ok.1 c_104
    have hx := xif_p c_104 hx
    refine r_iconst (v := -1) dX12_readProposal_107 (by decide) ?_
    refine r_goto (tgt := 117) dX12_readProposal_108 (by decide) ?_
    exact rX.cutz (b_readProposal_117 hG hR ok hx) ⟨rfl, trivial⟩
def F_readProposal_74 (N : Nat)  (S : rS) : Int32 × rS := (F_readProposal_94 N (rsI (rsI S 37 (S.2.1 32 (nI 1).toNatClampNeg)) 39 ((rsI S 37 (S.2.1 32 (nI 1).toNatClampNeg)).2.1 32 (nI 4).toNatClampNeg)))
def O_readProposal_74 (N : Nat)  (S : rS) : Prop := (vp_in (nI 1) 1010) ∧ (vp_in (nI 4) 1010) ∧ O_readProposal_94 N (rsI (rsI S 37 (S.2.1 32 (nI 1).toNatClampNeg)) 39 ((rsI S 37 (S.2.1 32 (nI 1).toNatClampNeg)).2.1 32 (nI 4).toNatClampNeg))
set_option maxHeartbeats 4000000 in
theorem b_readProposal_74 {G : zG} {E : rE} {S : rS} {N : Nat} {Q : Option Value → rS → Prop} {X : Int32 × rS → Prop} (hG : zOK G) (hR : ∀ v S', X (v, S') → Q (some (.int v)) S') (ok : O_readProposal_74 N S) (hx : X (F_readProposal_74 N S)) : rX G E dX12_readProposal mX12_readProposal 74 [some (.ref E.1)] [] S Q := by
  unfold O_readProposal_74 at ok
  unfold F_readProposal_74 at hx
  refine r_aload_n dX12_readProposal_74 rfl rfl ?_
  refine r_aload_n dX12_readProposal_75 rfl rfl ?_
  refine r_getA 32 fX12_204 (by decide) (by decide) dX12_readProposal_76 ?_
  refine r_iconst (v := nI 1) dX12_readProposal_79 (by decide) ?_
  refine r_iald (by decide) (by decide) dX12_readProposal_80 ok.1 ?_
  have ok := ok.2
  refine r_putI 37 fX12_260 (by decide) (by decide) rfl rfl rfl dX12_readProposal_81 ?_
  refine r_aload_n dX12_readProposal_84 rfl rfl ?_
  refine r_aload_n dX12_readProposal_85 rfl rfl ?_
  refine r_getA 32 fX12_204 (by decide) (by decide) dX12_readProposal_86 ?_
  refine r_iconst (v := nI 4) dX12_readProposal_89 (by decide) ?_
  refine r_iald (by decide) (by decide) dX12_readProposal_90 ok.1 ?_
  have ok := ok.2
  refine r_putI 39 fX12_263 (by decide) (by decide) rfl rfl rfl dX12_readProposal_91 ?_
  exact rX.cutz (b_readProposal_94 hG hR ok hx) ⟨rfl, trivial⟩
def F_readProposal_72 (N : Nat)  (S : rS) : Int32 × rS := ((nI 0), S)
def O_readProposal_72 (N : Nat)  (S : rS) : Prop := True
set_option maxHeartbeats 4000000 in
theorem b_readProposal_72 {G : zG} {E : rE} {S : rS} {N : Nat} {Q : Option Value → rS → Prop} {X : Int32 × rS → Prop} (hG : zOK G) (hR : ∀ v S', X (v, S') → Q (some (.int v)) S') (ok : O_readProposal_72 N S) (hx : X (F_readProposal_72 N S)) : rX G E dX12_readProposal mX12_readProposal 72 [none] [] S Q := by
  unfold O_readProposal_72 at ok
  unfold F_readProposal_72 at hx
  refine r_iconst (v := nI 0) dX12_readProposal_72 (by decide) ?_
  exact r_ireturn rfl rfl dX12_readProposal_73 (hR _ _ hx)
def F_readProposal_0 (N : Nat)  (S : rS) : Int32 × rS := (if ((rsI S 38 (f_heightAt N S (nI 2))).1 33) < (nI 6) then (F_readProposal_72 N (rsI S 38 (f_heightAt N S (nI 2)))) else (if ((rsI S 38 (f_heightAt N S (nI 2))).1 0) ≤ ((rsI S 38 (f_heightAt N S (nI 2))).2.1 32 (nI 1).toNatClampNeg) then (F_readProposal_72 N (rsI S 38 (f_heightAt N S (nI 2)))) else (if ((rsI S 38 (f_heightAt N S (nI 2))).1 38) = 0 then (F_readProposal_72 N (rsI S 38 (f_heightAt N S (nI 2)))) else (if (nI 15) < ((rsI S 38 (f_heightAt N S (nI 2))).2.1 32 (nI 4).toNatClampNeg) then (F_readProposal_72 N (rsI S 38 (f_heightAt N S (nI 2)))) else (if ((rsI S 38 (f_heightAt N S (nI 2))).2.1 32 (nI 5).toNatClampNeg) ≤ (nI 15) then (F_readProposal_74 N (rsI S 38 (f_heightAt N S (nI 2)))) else (if ((rsI S 38 (f_heightAt N S (nI 2))).2.1 32 (nI 5).toNatClampNeg) = (nI 255) then (F_readProposal_74 N (rsI S 38 (f_heightAt N S (nI 2)))) else (F_readProposal_72 N (rsI S 38 (f_heightAt N S (nI 2))))))))))
def O_readProposal_0 (N : Nat)  (S : rS) : Prop := (o_heightAt N S (nI 2)) ∧ ((((rsI S 38 (f_heightAt N S (nI 2))).1 33) < (nI 6) → O_readProposal_72 N (rsI S 38 (f_heightAt N S (nI 2)))) ∧ (¬ ((rsI S 38 (f_heightAt N S (nI 2))).1 33) < (nI 6) → (vp_in (nI 1) 1010) ∧ ((((rsI S 38 (f_heightAt N S (nI 2))).1 0) ≤ ((rsI S 38 (f_heightAt N S (nI 2))).2.1 32 (nI 1).toNatClampNeg) → O_readProposal_72 N (rsI S 38 (f_heightAt N S (nI 2)))) ∧ (¬ ((rsI S 38 (f_heightAt N S (nI 2))).1 0) ≤ ((rsI S 38 (f_heightAt N S (nI 2))).2.1 32 (nI 1).toNatClampNeg) → ((((rsI S 38 (f_heightAt N S (nI 2))).1 38) = 0 → O_readProposal_72 N (rsI S 38 (f_heightAt N S (nI 2)))) ∧ (¬ ((rsI S 38 (f_heightAt N S (nI 2))).1 38) = 0 → (vp_in (nI 4) 1010) ∧ (((nI 15) < ((rsI S 38 (f_heightAt N S (nI 2))).2.1 32 (nI 4).toNatClampNeg) → O_readProposal_72 N (rsI S 38 (f_heightAt N S (nI 2)))) ∧ (¬ (nI 15) < ((rsI S 38 (f_heightAt N S (nI 2))).2.1 32 (nI 4).toNatClampNeg) → (vp_in (nI 5) 1010) ∧ ((((rsI S 38 (f_heightAt N S (nI 2))).2.1 32 (nI 5).toNatClampNeg) ≤ (nI 15) → O_readProposal_74 N (rsI S 38 (f_heightAt N S (nI 2)))) ∧ (¬ ((rsI S 38 (f_heightAt N S (nI 2))).2.1 32 (nI 5).toNatClampNeg) ≤ (nI 15) → (vp_in (nI 5) 1010) ∧ ((((rsI S 38 (f_heightAt N S (nI 2))).2.1 32 (nI 5).toNatClampNeg) = (nI 255) → O_readProposal_74 N (rsI S 38 (f_heightAt N S (nI 2)))) ∧ (¬ ((rsI S 38 (f_heightAt N S (nI 2))).2.1 32 (nI 5).toNatClampNeg) = (nI 255) → O_readProposal_72 N (rsI S 38 (f_heightAt N S (nI 2)))))))))))))))
set_option maxHeartbeats 4000000 in
theorem b_readProposal_0 {G : zG} {E : rE} {S : rS} {N : Nat} {Q : Option Value → rS → Prop} {X : Int32 × rS → Prop} (hG : zOK G) (hR : ∀ v S', X (v, S') → Q (some (.int v)) S') (ok : O_readProposal_0 N S) (hx : X (F_readProposal_0 N S)) : rX G E dX12_readProposal mX12_readProposal 0 [some (.ref E.1)] [] S Q := by
  unfold O_readProposal_0 at ok
  unfold F_readProposal_0 at hx
  refine r_aload_n dX12_readProposal_0 rfl rfl ?_
  refine r_aload_n dX12_readProposal_1 rfl rfl ?_
  refine r_iconst (v := nI 2) dX12_readProposal_2 (by decide) ?_
  refine r_V1i (y' := mX12_heightAt) dX12_readProposal_3 lX12_232 kX12_heightAt ⟨by decide, by decide⟩ rfl (Nat.le_of_ble_eq_true rfl) (rc_X12_heightAt hG ok.1) (fun v_3 S_3 h_3 => ?_)
  obtain ⟨rfl, hS_3⟩ := h_3
  have hS_3 := hS_3.symm
  subst hS_3
  have ok := ok.2
  refine r_putI 38 fX12_257 (by decide) (by decide) rfl rfl rfl dX12_readProposal_6 ?_
  refine r_aload_n dX12_readProposal_9 rfl rfl ?_
  refine r_getI 33 fX12_201 (by decide) (by decide) dX12_readProposal_10 ?_
  refine r_bipush (v := nI 6) dX12_readProposal_13 (by decide) ?_
  refine r_icmp_lt (tgt := 72) dX12_readProposal_15 (by decide) (fun c_15 => ?_) (fun c_15 => ?_)
  · have ok := ok.1 c_15
    have hx := xif_p c_15 hx
    exact rX.cutz (b_readProposal_72 hG hR ok hx) trivial
  · have ok := ok.2 c_15
    have hx := xif_n c_15 hx
    refine r_aload_n dX12_readProposal_18 rfl rfl ?_
    refine r_getA 32 fX12_204 (by decide) (by decide) dX12_readProposal_19 ?_
    refine r_iconst (v := nI 1) dX12_readProposal_22 (by decide) ?_
    refine r_iald (by decide) (by decide) dX12_readProposal_23 ok.1 ?_
    have ok := ok.2
    refine r_aload_n dX12_readProposal_24 rfl rfl ?_
    refine r_getI 0 fX12_219 (by decide) (by decide) dX12_readProposal_25 ?_
    refine r_icmp_ge (tgt := 72) dX12_readProposal_28 (by decide) (fun c_28 => ?_) (fun c_28 => ?_)
    · have ok := ok.1 c_28
      have hx := xif_p c_28 hx
      exact rX.cutz (b_readProposal_72 hG hR ok hx) trivial
    · have ok := ok.2 c_28
      have hx := xif_n c_28 hx
      refine r_aload_n dX12_readProposal_31 rfl rfl ?_
      refine r_getI 38 fX12_257 (by decide) (by decide) dX12_readProposal_32 ?_
      refine r_if_eq (tgt := 72) dX12_readProposal_35 (by decide) (fun c_35 => ?_) (fun c_35 => ?_)
      · have ok := ok.1 c_35
        have hx := xif_p c_35 hx
        exact rX.cutz (b_readProposal_72 hG hR ok hx) trivial
      · have ok := ok.2 c_35
        have hx := xif_n c_35 hx
        refine r_aload_n dX12_readProposal_38 rfl rfl ?_
        refine r_getA 32 fX12_204 (by decide) (by decide) dX12_readProposal_39 ?_
        refine r_iconst (v := nI 4) dX12_readProposal_42 (by decide) ?_
        refine r_iald (by decide) (by decide) dX12_readProposal_43 ok.1 ?_
        have ok := ok.2
        refine r_bipush (v := nI 15) dX12_readProposal_44 (by decide) ?_
        refine r_icmp_gt (tgt := 72) dX12_readProposal_46 (by decide) (fun c_46 => ?_) (fun c_46 => ?_)
        · have ok := ok.1 c_46
          have hx := xif_p c_46 hx
          exact rX.cutz (b_readProposal_72 hG hR ok hx) trivial
        · have ok := ok.2 c_46
          have hx := xif_n c_46 hx
          refine r_aload_n dX12_readProposal_49 rfl rfl ?_
          refine r_getA 32 fX12_204 (by decide) (by decide) dX12_readProposal_50 ?_
          refine r_iconst (v := nI 5) dX12_readProposal_53 (by decide) ?_
          refine r_iald (by decide) (by decide) dX12_readProposal_54 ok.1 ?_
          have ok := ok.2
          refine r_bipush (v := nI 15) dX12_readProposal_55 (by decide) ?_
          refine r_icmp_le (tgt := 74) dX12_readProposal_57 (by decide) (fun c_57 => ?_) (fun c_57 => ?_)
          · have ok := ok.1 c_57
            have hx := xif_p c_57 hx
            exact rX.cutz (b_readProposal_74 hG hR ok hx) ⟨rfl, trivial⟩
          · have ok := ok.2 c_57
            have hx := xif_n c_57 hx
            refine r_aload_n dX12_readProposal_60 rfl rfl ?_
            refine r_getA 32 fX12_204 (by decide) (by decide) dX12_readProposal_61 ?_
            refine r_iconst (v := nI 5) dX12_readProposal_64 (by decide) ?_
            refine r_iald (by decide) (by decide) dX12_readProposal_65 ok.1 ?_
            have ok := ok.2
            refine r_sipush (v := nI 255) dX12_readProposal_66 (by decide) ?_
            refine r_icmp_eq (tgt := 74) dX12_readProposal_69 (by decide) (fun c_69 => ?_) (fun c_69 => ?_)
            · have ok := ok.1 c_69
              have hx := xif_p c_69 hx
              exact rX.cutz (b_readProposal_74 hG hR ok hx) ⟨rfl, trivial⟩
            · have ok := ok.2 c_69
              have hx := xif_n c_69 hx
              exact rX.cutz (b_readProposal_72 hG hR ok hx) trivial
def f_readProposal (N : Nat) (S : rS) : Int32 × rS := F_readProposal_0 N S
def o_readProposal (N : Nat) (S : rS) : Prop := O_readProposal_0 N S
set_option maxHeartbeats 4000000 in
theorem rc_X12_readProposal {G : zG} {E : rE} {S : rS} {N : Nat} (hG : zOK G) (ok : o_readProposal N S ) : rCi G E dX12_readProposal mX12_readProposal [.ref E.1] S (fun v S' => v = (f_readProposal N S).1 ∧ S' = (f_readProposal N S).2) := by
  refine rC.ofX rfl (Nat.le_of_ble_eq_true rfl) ?_
  show rX G E dX12_readProposal mX12_readProposal 0 [some (.ref E.1)] [] S _
  exact rX.cutz (b_readProposal_0 (X := fun F => F = f_readProposal N S) hG (fun v S' h => ⟨v, rfl, by rw [← h], by rw [← h]⟩) ok rfl) ⟨rfl, trivial⟩
/-! readSnapshot -/
def F_readSnapshot_101 (N : Nat) (x1 : Int32) (S : rS) : Int32 × rS := (x1, S)
def O_readSnapshot_101 (N : Nat) (x1 : Int32) (S : rS) : Prop := narrow .boolean (.int x1) = .int x1
set_option maxHeartbeats 4000000 in
theorem b_readSnapshot_101 {G : zG} {E : rE} {S : rS} {N : Nat} {Q : Option Value → rS → Prop} {X : Int32 × rS → Prop} (hG : zOK G) (hR : ∀ v S', X (v, S') → Q (some (.int v)) S') {x1 : Int32} (ok : O_readSnapshot_101 N x1 S) (hx : X (F_readSnapshot_101 N x1 S)) : rX G E dX12_readSnapshot mX12_readSnapshot 101 [none, some (.int x1), none] [] S Q := by
  unfold O_readSnapshot_101 at ok
  unfold F_readSnapshot_101 at hx
  refine r_iload_n dX12_readSnapshot_101 rfl rfl ?_
  exact r_ireturn rfl ok dX12_readSnapshot_102 (hR _ _ hx)
def F_readSnapshot_94 (N : Nat) (rec : Int32 → Int32 → rS → Nat × Int32 × rS) (x2 : Int32) (s0 : Int32) (S : rS) : Nat × Int32 × rS := (rec s0 (x2 + nI 1) S)
def O_readSnapshot_94 (N : Nat) (rok : Int32 → Int32 → rS → Prop) (x2 : Int32) (s0 : Int32) (S : rS) : Prop := rok s0 (x2 + nI 1) S
set_option maxHeartbeats 4000000 in
theorem b_readSnapshot_94 {G : zG} {E : rE} {S : rS} {N : Nat} {Q : Option Value → rS → Prop} {X : Nat × Int32 × rS → Prop} (hG : zOK G) (hX0 : ∀ (x1 : Int32) (S' : rS), X (0, x1, S') → rX G E dX12_readSnapshot mX12_readSnapshot 101 [none, some (.int x1), none] [] S' Q) {rec : Int32 → Int32 → rS → Nat × Int32 × rS} {rok : Int32 → Int32 → rS → Prop} (hrec : ∀ (x1 : Int32) (x2 : Int32) (S : rS), rok x1 x2 S → X (rec x1 x2 S) → rX G E dX12_readSnapshot mX12_readSnapshot 32 [some (.ref E.1), some (.int x1), some (.int x2)] [] S Q) {x2 : Int32} {s0 : Int32} (ok : O_readSnapshot_94 N rok x2 s0 S) (hx : X (F_readSnapshot_94 N rec x2 s0 S)) : rX G E dX12_readSnapshot mX12_readSnapshot 94 [some (.ref E.1), none, some (.int x2)] [.int s0] S Q := by
  unfold O_readSnapshot_94 at ok
  unfold F_readSnapshot_94 at hx
  refine r_istore_1 dX12_readSnapshot_94 (by decide) rfl ?_
  refine r_iinc_2 (v := (x2 + nI 1)) dX12_readSnapshot_95 rfl (by first | rfl | (congr 1)) (by decide) rfl ?_
  refine r_goto (tgt := 32) dX12_readSnapshot_98 (by decide) ?_
  exact rX.cutz (hrec _ _ S ok hx) ⟨rfl, rfl, rfl, trivial⟩
def F_readSnapshot_93 (N : Nat) (rec : Int32 → Int32 → rS → Nat × Int32 × rS) (x2 : Int32) (S : rS) : Nat × Int32 × rS := (F_readSnapshot_94 N rec x2 (nI 0) S)
def O_readSnapshot_93 (N : Nat) (rok : Int32 → Int32 → rS → Prop) (x2 : Int32) (S : rS) : Prop := O_readSnapshot_94 N rok x2 (nI 0) S
set_option maxHeartbeats 4000000 in
theorem b_readSnapshot_93 {G : zG} {E : rE} {S : rS} {N : Nat} {Q : Option Value → rS → Prop} {X : Nat × Int32 × rS → Prop} (hG : zOK G) (hX0 : ∀ (x1 : Int32) (S' : rS), X (0, x1, S') → rX G E dX12_readSnapshot mX12_readSnapshot 101 [none, some (.int x1), none] [] S' Q) {rec : Int32 → Int32 → rS → Nat × Int32 × rS} {rok : Int32 → Int32 → rS → Prop} (hrec : ∀ (x1 : Int32) (x2 : Int32) (S : rS), rok x1 x2 S → X (rec x1 x2 S) → rX G E dX12_readSnapshot mX12_readSnapshot 32 [some (.ref E.1), some (.int x1), some (.int x2)] [] S Q) {x2 : Int32} (ok : O_readSnapshot_93 N rok x2 S) (hx : X (F_readSnapshot_93 N rec x2 S)) : rX G E dX12_readSnapshot mX12_readSnapshot 93 [some (.ref E.1), none, some (.int x2)] [] S Q := by
  unfold O_readSnapshot_93 at ok
  unfold F_readSnapshot_93 at hx
  refine r_iconst (v := nI 0) dX12_readSnapshot_93 (by decide) ?_
  exact rX.cutz (b_readSnapshot_94 hG hX0 hrec ok hx) ⟨rfl, rfl, trivial⟩
def B_readSnapshot_32 (N : Nat) (rec : Int32 → Int32 → rS → Nat × Int32 × rS) (x1 : Int32) (x2 : Int32) (S : rS) : Nat × Int32 × rS := (if (nI 16) ≤ x2 then (0, x1, S) else (if x1 = 0 then (F_readSnapshot_93 N rec x2 S) else (if (nI 16000) < (((S.2.1 32 ((nI 35) + ((nI 5) * x2)).toNatClampNeg) <<< ((nI 8) &&& 31)) ||| (S.2.1 32 ((nI 36) + ((nI 5) * x2)).toNatClampNeg)) then (F_readSnapshot_93 N rec x2 S) else (if (nI 1) < (S.2.1 32 ((nI 39) + ((nI 5) * x2)).toNatClampNeg) then (F_readSnapshot_93 N rec x2 S) else (F_readSnapshot_94 N rec x2 (nI 1) S)))))
def OB_readSnapshot_32 (N : Nat) (rok : Int32 → Int32 → rS → Prop) (x1 : Int32) (x2 : Int32) (S : rS) : Prop := (((nI 16) ≤ x2 → True) ∧ (¬ (nI 16) ≤ x2 → ((x1 = 0 → O_readSnapshot_93 N rok x2 S) ∧ (¬ x1 = 0 → (vp_in ((nI 35) + ((nI 5) * x2)) 1010) ∧ (vp_in ((nI 36) + ((nI 5) * x2)) 1010) ∧ (((nI 16000) < (((S.2.1 32 ((nI 35) + ((nI 5) * x2)).toNatClampNeg) <<< ((nI 8) &&& 31)) ||| (S.2.1 32 ((nI 36) + ((nI 5) * x2)).toNatClampNeg)) → O_readSnapshot_93 N rok x2 S) ∧ (¬ (nI 16000) < (((S.2.1 32 ((nI 35) + ((nI 5) * x2)).toNatClampNeg) <<< ((nI 8) &&& 31)) ||| (S.2.1 32 ((nI 36) + ((nI 5) * x2)).toNatClampNeg)) → (vp_in ((nI 39) + ((nI 5) * x2)) 1010) ∧ (((nI 1) < (S.2.1 32 ((nI 39) + ((nI 5) * x2)).toNatClampNeg) → O_readSnapshot_93 N rok x2 S) ∧ (¬ (nI 1) < (S.2.1 32 ((nI 39) + ((nI 5) * x2)).toNatClampNeg) → O_readSnapshot_94 N rok x2 (nI 1) S))))))))
set_option maxHeartbeats 4000000 in
theorem bb_readSnapshot_32 {G : zG} {E : rE} {S : rS} {N : Nat} {Q : Option Value → rS → Prop} {X : Nat × Int32 × rS → Prop} (hG : zOK G) (hX0 : ∀ (x1 : Int32) (S' : rS), X (0, x1, S') → rX G E dX12_readSnapshot mX12_readSnapshot 101 [none, some (.int x1), none] [] S' Q) {rec : Int32 → Int32 → rS → Nat × Int32 × rS} {rok : Int32 → Int32 → rS → Prop} (hrec : ∀ (x1 : Int32) (x2 : Int32) (S : rS), rok x1 x2 S → X (rec x1 x2 S) → rX G E dX12_readSnapshot mX12_readSnapshot 32 [some (.ref E.1), some (.int x1), some (.int x2)] [] S Q) {x1 : Int32} {x2 : Int32} (ok : OB_readSnapshot_32 N rok x1 x2 S) (hx : X (B_readSnapshot_32 N rec x1 x2 S)) : rX G E dX12_readSnapshot mX12_readSnapshot 32 [some (.ref E.1), some (.int x1), some (.int x2)] [] S Q := by
  unfold OB_readSnapshot_32 at ok
  unfold B_readSnapshot_32 at hx
  refine r_iload_n dX12_readSnapshot_32 rfl rfl ?_
  refine r_bipush (v := nI 16) dX12_readSnapshot_33 (by decide) ?_
  refine r_icmp_ge (tgt := 101) dX12_readSnapshot_35 (by decide) (fun c_35 => ?_) (fun c_35 => ?_)
  · have ok := ok.1 c_35
    have hx := xif_p c_35 hx
    exact rX.cutz (hX0 _ S hx) ⟨rfl, trivial⟩
  · have ok := ok.2 c_35
    have hx := xif_n c_35 hx
    refine r_iload_n dX12_readSnapshot_38 rfl rfl ?_
    refine r_if_eq (tgt := 93) dX12_readSnapshot_39 (by decide) (fun c_39 => ?_) (fun c_39 => ?_)
    · have ok := ok.1 c_39
      have hx := xif_p c_39 hx
      exact rX.cutz (b_readSnapshot_93 hG hX0 hrec ok hx) ⟨rfl, rfl, trivial⟩
    · have ok := ok.2 c_39
      have hx := xif_n c_39 hx
      refine r_aload_n dX12_readSnapshot_42 rfl rfl ?_
      refine r_getA 32 fX12_204 (by decide) (by decide) dX12_readSnapshot_43 ?_
      refine r_bipush (v := nI 35) dX12_readSnapshot_46 (by decide) ?_
      refine r_iconst (v := nI 5) dX12_readSnapshot_48 (by decide) ?_
      refine r_iload_n dX12_readSnapshot_49 rfl rfl ?_
      refine r_imul dX12_readSnapshot_50 ?_
      refine r_iadd dX12_readSnapshot_51 ?_
      refine r_iald (by decide) (by decide) dX12_readSnapshot_52 ok.1 ?_
      have ok := ok.2
      refine r_bipush (v := nI 8) dX12_readSnapshot_53 (by decide) ?_
      refine r_ishl dX12_readSnapshot_55 ?_
      refine r_aload_n dX12_readSnapshot_56 rfl rfl ?_
      refine r_getA 32 fX12_204 (by decide) (by decide) dX12_readSnapshot_57 ?_
      refine r_bipush (v := nI 36) dX12_readSnapshot_60 (by decide) ?_
      refine r_iconst (v := nI 5) dX12_readSnapshot_62 (by decide) ?_
      refine r_iload_n dX12_readSnapshot_63 rfl rfl ?_
      refine r_imul dX12_readSnapshot_64 ?_
      refine r_iadd dX12_readSnapshot_65 ?_
      refine r_iald (by decide) (by decide) dX12_readSnapshot_66 ok.1 ?_
      have ok := ok.2
      refine r_ior dX12_readSnapshot_67 ?_
      refine r_sipush (v := nI 16000) dX12_readSnapshot_68 (by decide) ?_
      refine r_icmp_gt (tgt := 93) dX12_readSnapshot_71 (by decide) (fun c_71 => ?_) (fun c_71 => ?_)
      · have ok := ok.1 c_71
        have hx := xif_p c_71 hx
        exact rX.cutz (b_readSnapshot_93 hG hX0 hrec ok hx) ⟨rfl, rfl, trivial⟩
      · have ok := ok.2 c_71
        have hx := xif_n c_71 hx
        refine r_aload_n dX12_readSnapshot_74 rfl rfl ?_
        refine r_getA 32 fX12_204 (by decide) (by decide) dX12_readSnapshot_75 ?_
        refine r_bipush (v := nI 39) dX12_readSnapshot_78 (by decide) ?_
        refine r_iconst (v := nI 5) dX12_readSnapshot_80 (by decide) ?_
        refine r_iload_n dX12_readSnapshot_81 rfl rfl ?_
        refine r_imul dX12_readSnapshot_82 ?_
        refine r_iadd dX12_readSnapshot_83 ?_
        refine r_iald (by decide) (by decide) dX12_readSnapshot_84 ok.1 ?_
        have ok := ok.2
        refine r_iconst (v := nI 1) dX12_readSnapshot_85 (by decide) ?_
        refine r_icmp_gt (tgt := 93) dX12_readSnapshot_86 (by decide) (fun c_86 => ?_) (fun c_86 => ?_)
        · have ok := ok.1 c_86
          have hx := xif_p c_86 hx
          exact rX.cutz (b_readSnapshot_93 hG hX0 hrec ok hx) ⟨rfl, rfl, trivial⟩
        · have ok := ok.2 c_86
          have hx := xif_n c_86 hx
          refine r_iconst (v := nI 1) dX12_readSnapshot_89 (by decide) ?_
          refine r_goto (tgt := 94) dX12_readSnapshot_90 (by decide) ?_
          exact rX.cutz (b_readSnapshot_94 hG hX0 hrec ok hx) ⟨rfl, rfl, trivial⟩
def L_readSnapshot_32 (N : Nat) : Nat → Int32 → Int32 → rS → Nat × Int32 × rS
  | 0, x1, x2, S => (0, 0, S)
  | n + 1, x1, x2, S => B_readSnapshot_32 N (L_readSnapshot_32 N n) x1 x2 S
def OL_readSnapshot_32 (N : Nat) : Nat → Int32 → Int32 → rS → Prop
  | 0, _, _, _ => False
  | n + 1, x1, x2, S => OB_readSnapshot_32 N (OL_readSnapshot_32 N n) x1 x2 S
set_option maxHeartbeats 4000000 in
theorem l_readSnapshot_32 {G : zG} {E : rE} {N : Nat} {Q : Option Value → rS → Prop} {X : Nat × Int32 × rS → Prop} (hG : zOK G) (hX0 : ∀ (x1 : Int32) (S' : rS), X (0, x1, S') → rX G E dX12_readSnapshot mX12_readSnapshot 101 [none, some (.int x1), none] [] S' Q) : ∀ (n : Nat) (x1 : Int32) (x2 : Int32) (S : rS), OL_readSnapshot_32 N n x1 x2 S → X (L_readSnapshot_32 N n x1 x2 S) → rX G E dX12_readSnapshot mX12_readSnapshot 32 [some (.ref E.1), some (.int x1), some (.int x2)] [] S Q := by
  intro n
  induction n with
  | zero => intro x1 x2 S ok; exact absurd ok id
  | succ n ih =>
    intro x1 x2 S ok hx
    exact bb_readSnapshot_32 hG hX0 (rec := L_readSnapshot_32 N n) (rok := OL_readSnapshot_32 N n) (fun x1 x2 S ok hx => ih x1 x2 S ok hx) ok hx
def A_readSnapshot_32 (N : Nat) (x1 : Int32) (x2 : Int32) (S : rS) (z : Nat × Int32 × rS) : Int32 × rS := (F_readSnapshot_101 N (z.2.1) z.2.2)
def OA_readSnapshot_32 (N : Nat) (x1 : Int32) (x2 : Int32) (S : rS) (z : Nat × Int32 × rS) : Prop := O_readSnapshot_101 N (z.2.1) z.2.2
set_option maxHeartbeats 4000000 in
theorem c_readSnapshot_32 {G : zG} {E : rE} {S : rS} {N : Nat} {Q : Option Value → rS → Prop} {X : Int32 × rS → Prop} (hG : zOK G) (hR : ∀ v S', X (v, S') → Q (some (.int v)) S') {x1 : Int32} {x2 : Int32} (ok : OL_readSnapshot_32 N N x1 x2 S ∧ OA_readSnapshot_32 N x1 x2 S (L_readSnapshot_32 N N x1 x2 S)) (hx : X (A_readSnapshot_32 N x1 x2 S (L_readSnapshot_32 N N x1 x2 S))) : rX G E dX12_readSnapshot mX12_readSnapshot 32 [some (.ref E.1), some (.int x1), some (.int x2)] [] S Q := by
  refine l_readSnapshot_32 hG ?_ N x1 x2 S ok.1 (X := fun z => OA_readSnapshot_32 N x1 x2 S z ∧ X (A_readSnapshot_32 N x1 x2 S z)) ⟨ok.2, hx⟩
  · intro x1' S' hz
    obtain ⟨ok, hx⟩ := hz
    unfold OA_readSnapshot_32 at ok
    unfold A_readSnapshot_32 at hx
    exact rX.cutz (b_readSnapshot_101 hG hR ok hx) ⟨rfl, trivial⟩
def F_readSnapshot_26 (N : Nat)  (S : rS) : Int32 × rS := ((nI 0), S)
def O_readSnapshot_26 (N : Nat)  (S : rS) : Prop := True
set_option maxHeartbeats 4000000 in
theorem b_readSnapshot_26 {G : zG} {E : rE} {S : rS} {N : Nat} {Q : Option Value → rS → Prop} {X : Int32 × rS → Prop} (hG : zOK G) (hR : ∀ v S', X (v, S') → Q (some (.int v)) S') (ok : O_readSnapshot_26 N S) (hx : X (F_readSnapshot_26 N S)) : rX G E dX12_readSnapshot mX12_readSnapshot 26 [none, none, none] [] S Q := by
  unfold O_readSnapshot_26 at ok
  unfold F_readSnapshot_26 at hx
  refine r_iconst (v := nI 0) dX12_readSnapshot_26 (by decide) ?_
  exact r_ireturn rfl rfl dX12_readSnapshot_27 (hR _ _ hx)
def F_readSnapshot_0 (N : Nat)  (S : rS) : Int32 × rS := (if ((rsI S 38 (f_heightAt N S (nI 1))).1 33) = (nI 115) then (if (nI 2) ≤ ((rsI S 38 (f_heightAt N S (nI 1))).1 38) then (A_readSnapshot_32 N (nI 1) (nI 0) (rsI S 38 (f_heightAt N S (nI 1))) (L_readSnapshot_32 N N (nI 1) (nI 0) (rsI S 38 (f_heightAt N S (nI 1))))) else (F_readSnapshot_26 N (rsI S 38 (f_heightAt N S (nI 1))))) else (F_readSnapshot_26 N (rsI S 38 (f_heightAt N S (nI 1)))))
def O_readSnapshot_0 (N : Nat)  (S : rS) : Prop := (o_heightAt N S (nI 1)) ∧ ((((rsI S 38 (f_heightAt N S (nI 1))).1 33) = (nI 115) → (((nI 2) ≤ ((rsI S 38 (f_heightAt N S (nI 1))).1 38) → (OL_readSnapshot_32 N N (nI 1) (nI 0) (rsI S 38 (f_heightAt N S (nI 1))) ∧ OA_readSnapshot_32 N (nI 1) (nI 0) (rsI S 38 (f_heightAt N S (nI 1))) (L_readSnapshot_32 N N (nI 1) (nI 0) (rsI S 38 (f_heightAt N S (nI 1)))))) ∧ (¬ (nI 2) ≤ ((rsI S 38 (f_heightAt N S (nI 1))).1 38) → O_readSnapshot_26 N (rsI S 38 (f_heightAt N S (nI 1)))))) ∧ (¬ ((rsI S 38 (f_heightAt N S (nI 1))).1 33) = (nI 115) → O_readSnapshot_26 N (rsI S 38 (f_heightAt N S (nI 1)))))
set_option maxHeartbeats 4000000 in
theorem b_readSnapshot_0 {G : zG} {E : rE} {S : rS} {N : Nat} {Q : Option Value → rS → Prop} {X : Int32 × rS → Prop} (hG : zOK G) (hR : ∀ v S', X (v, S') → Q (some (.int v)) S') (ok : O_readSnapshot_0 N S) (hx : X (F_readSnapshot_0 N S)) : rX G E dX12_readSnapshot mX12_readSnapshot 0 [some (.ref E.1), none, none] [] S Q := by
  unfold O_readSnapshot_0 at ok
  unfold F_readSnapshot_0 at hx
  refine r_aload_n dX12_readSnapshot_0 rfl rfl ?_
  refine r_aload_n dX12_readSnapshot_1 rfl rfl ?_
  refine r_iconst (v := nI 1) dX12_readSnapshot_2 (by decide) ?_
  refine r_V1i (y' := mX12_heightAt) dX12_readSnapshot_3 lX12_232 kX12_heightAt ⟨by decide, by decide⟩ rfl (Nat.le_of_ble_eq_true rfl) (rc_X12_heightAt hG ok.1) (fun v_3 S_3 h_3 => ?_)
  obtain ⟨rfl, hS_3⟩ := h_3
  have hS_3 := hS_3.symm
  subst hS_3
  have ok := ok.2
  refine r_putI 38 fX12_257 (by decide) (by decide) rfl rfl rfl dX12_readSnapshot_6 ?_
  refine r_aload_n dX12_readSnapshot_9 rfl rfl ?_
  refine r_getI 33 fX12_201 (by decide) (by decide) dX12_readSnapshot_10 ?_
  refine r_bipush (v := nI 115) dX12_readSnapshot_13 (by decide) ?_
  refine r_icmp_ne (tgt := 26) dX12_readSnapshot_15 (by decide) (fun c_15 => ?_) (fun c_15 => ?_)
  · have ok := ok.2 c_15
    have hx := xif_n c_15 hx
    exact rX.cutz (b_readSnapshot_26 hG hR ok hx) trivial
  · have ok := ok.1 c_15
    have hx := xif_p c_15 hx
    refine r_aload_n dX12_readSnapshot_18 rfl rfl ?_
    refine r_getI 38 fX12_257 (by decide) (by decide) dX12_readSnapshot_19 ?_
    refine r_iconst (v := nI 2) dX12_readSnapshot_22 (by decide) ?_
    refine r_icmp_ge (tgt := 28) dX12_readSnapshot_23 (by decide) (fun c_23 => ?_) (fun c_23 => ?_)
    · have ok := ok.1 c_23
      have hx := xif_p c_23 hx
      refine r_iconst (v := nI 1) dX12_readSnapshot_28 (by decide) ?_
      refine r_istore_1 dX12_readSnapshot_29 (by decide) rfl ?_
      refine r_iconst (v := nI 0) dX12_readSnapshot_30 (by decide) ?_
      refine r_istore_2 dX12_readSnapshot_31 (by decide) rfl ?_
      exact rX.cutz (c_readSnapshot_32 hG hR ok hx) ⟨rfl, rfl, rfl, trivial⟩
    · have ok := ok.2 c_23
      have hx := xif_n c_23 hx
      exact rX.cutz (b_readSnapshot_26 hG hR ok hx) trivial
def f_readSnapshot (N : Nat) (S : rS) : Int32 × rS := F_readSnapshot_0 N S
def o_readSnapshot (N : Nat) (S : rS) : Prop := O_readSnapshot_0 N S
set_option maxHeartbeats 4000000 in
theorem rc_X12_readSnapshot {G : zG} {E : rE} {S : rS} {N : Nat} (hG : zOK G) (ok : o_readSnapshot N S ) : rCi G E dX12_readSnapshot mX12_readSnapshot [.ref E.1] S (fun v S' => v = (f_readSnapshot N S).1 ∧ S' = (f_readSnapshot N S).2) := by
  refine rC.ofX rfl (Nat.le_of_ble_eq_true rfl) ?_
  show rX G E dX12_readSnapshot mX12_readSnapshot 0 [some (.ref E.1), none, none] [] S _
  exact rX.cutz (b_readSnapshot_0 (X := fun F => F = f_readSnapshot N S) hG (fun v S' h => ⟨v, rfl, by rw [← h], by rw [← h]⟩) ok rfl) ⟨rfl, trivial⟩
/-! read -/
def F_read_204 (N : Nat) (s0 : Int32) (S : rS) : Int32 × rS := (s0, S)
def O_read_204 (N : Nat) (s0 : Int32) (S : rS) : Prop := narrow .boolean (.int s0) = .int s0
set_option maxHeartbeats 4000000 in
theorem b_read_204 {G : zG} {E : rE} {S : rS} {N : Nat} {Q : Option Value → rS → Prop} {X : Int32 × rS → Prop} (hG : zOK G) (hR : ∀ v S', X (v, S') → Q (some (.int v)) S') {s0 : Int32} (ok : O_read_204 N s0 S) (hx : X (F_read_204 N s0 S)) : rX G E dX12_read mX12_read 204 [none] [.int s0] S Q := by
  unfold O_read_204 at ok
  unfold F_read_204 at hx
  exact r_ireturn rfl ok dX12_read_204 (hR _ _ hx)
def F_read_199 (N : Nat) (s0 : Int32) (S : rS) : Int32 × rS := (s0, S)
def O_read_199 (N : Nat) (s0 : Int32) (S : rS) : Prop := narrow .boolean (.int s0) = .int s0
set_option maxHeartbeats 4000000 in
theorem b_read_199 {G : zG} {E : rE} {S : rS} {N : Nat} {Q : Option Value → rS → Prop} {X : Int32 × rS → Prop} (hG : zOK G) (hR : ∀ v S', X (v, S') → Q (some (.int v)) S') {s0 : Int32} (ok : O_read_199 N s0 S) (hx : X (F_read_199 N s0 S)) : rX G E dX12_read mX12_read 199 [none] [.int s0] S Q := by
  unfold O_read_199 at ok
  unfold F_read_199 at hx
  exact r_ireturn rfl ok dX12_read_199 (hR _ _ hx)
def F_read_198 (N : Nat)  (S : rS) : Int32 × rS := (F_read_199 N (nI 0) S)
def O_read_198 (N : Nat)  (S : rS) : Prop := O_read_199 N (nI 0) S
set_option maxHeartbeats 4000000 in
theorem b_read_198 {G : zG} {E : rE} {S : rS} {N : Nat} {Q : Option Value → rS → Prop} {X : Int32 × rS → Prop} (hG : zOK G) (hR : ∀ v S', X (v, S') → Q (some (.int v)) S') (ok : O_read_198 N S) (hx : X (F_read_198 N S)) : rX G E dX12_read mX12_read 198 [none] [] S Q := by
  unfold O_read_198 at ok
  unfold F_read_198 at hx
  refine r_iconst (v := nI 0) dX12_read_198 (by decide) ?_
  exact rX.cutz (b_read_199 hG hR ok hx) trivial
def F_read_169 (N : Nat) (s1 : Int32) (S : rS) : Int32 × rS := (if (f_evidenceAt N (rsI S 37 s1) (nI 1)) ≤ 0 then (F_read_198 N (rsI S 37 s1)) else (if (f_evidenceAt N (rsI S 37 s1) (nI 1)) = (((rsI S 37 s1).1 33) - (nI 1)) then (F_read_199 N (nI 1) (rsI S 37 s1)) else (F_read_198 N (rsI S 37 s1))))
def O_read_169 (N : Nat) (s1 : Int32) (S : rS) : Prop := (o_evidenceAt N (rsI S 37 s1) (nI 1)) ∧ (((f_evidenceAt N (rsI S 37 s1) (nI 1)) ≤ 0 → O_read_198 N (rsI S 37 s1)) ∧ (¬ (f_evidenceAt N (rsI S 37 s1) (nI 1)) ≤ 0 → (o_evidenceAt N (rsI S 37 s1) (nI 1)) ∧ (((f_evidenceAt N (rsI S 37 s1) (nI 1)) = (((rsI S 37 s1).1 33) - (nI 1)) → O_read_199 N (nI 1) (rsI S 37 s1)) ∧ (¬ (f_evidenceAt N (rsI S 37 s1) (nI 1)) = (((rsI S 37 s1).1 33) - (nI 1)) → O_read_198 N (rsI S 37 s1)))))
set_option maxHeartbeats 4000000 in
theorem b_read_169 {G : zG} {E : rE} {S : rS} {N : Nat} {Q : Option Value → rS → Prop} {X : Int32 × rS → Prop} (hG : zOK G) (hR : ∀ v S', X (v, S') → Q (some (.int v)) S') {s1 : Int32} (ok : O_read_169 N s1 S) (hx : X (F_read_169 N s1 S)) : rX G E dX12_read mX12_read 169 [some (.ref E.1)] [.int s1, .ref E.1] S Q := by
  unfold O_read_169 at ok
  unfold F_read_169 at hx
  refine r_putI 37 fX12_260 (by decide) (by decide) rfl rfl rfl dX12_read_169 ?_
  refine r_aload_n dX12_read_172 rfl rfl ?_
  refine r_iconst (v := nI 1) dX12_read_173 (by decide) ?_
  refine r_V1i (y' := mX12_evidenceAt) dX12_read_174 lX12_241 kX12_evidenceAt ⟨by decide, by decide⟩ rfl (Nat.le_of_ble_eq_true rfl) (rc_X12_evidenceAt hG ok.1) (fun v_174 S_174 h_174 => ?_)
  obtain ⟨rfl, hS_174⟩ := h_174
  have hS_174 := hS_174.symm
  subst hS_174
  have ok := ok.2
  refine r_if_le (tgt := 198) dX12_read_177 (by decide) (fun c_177 => ?_) (fun c_177 => ?_)
  · have ok := ok.1 c_177
    have hx := xif_p c_177 hx
    exact rX.cutz (b_read_198 hG hR ok hx) trivial
  · have ok := ok.2 c_177
    have hx := xif_n c_177 hx
    refine r_aload_n dX12_read_180 rfl rfl ?_
    refine r_iconst (v := nI 1) dX12_read_181 (by decide) ?_
    refine r_V1i (y' := mX12_evidenceAt) dX12_read_182 lX12_241 kX12_evidenceAt ⟨by decide, by decide⟩ rfl (Nat.le_of_ble_eq_true rfl) (rc_X12_evidenceAt hG ok.1) (fun v_182 S_182 h_182 => ?_)
    obtain ⟨rfl, hS_182⟩ := h_182
    have hS_182 := hS_182.symm
    subst hS_182
    have ok := ok.2
    refine r_aload_n dX12_read_185 rfl rfl ?_
    refine r_getI 33 fX12_201 (by decide) (by decide) dX12_read_186 ?_
    refine r_iconst (v := nI 1) dX12_read_189 (by decide) ?_
    refine r_isub dX12_read_190 ?_
    refine r_icmp_ne (tgt := 198) dX12_read_191 (by decide) (fun c_191 => ?_) (fun c_191 => ?_)
    · have ok := ok.2 c_191
      have hx := xif_n c_191 hx
      exact rX.cutz (b_read_198 hG hR ok hx) trivial
    · have ok := ok.1 c_191
      have hx := xif_p c_191 hx
      refine r_iconst (v := nI 1) dX12_read_194 (by decide) ?_
      refine r_goto (tgt := 199) dX12_read_195 (by decide) ?_
      exact rX.cutz (b_read_199 hG hR ok hx) trivial
def F_read_149 (N : Nat) (s0 : Int32) (S : rS) : Int32 × rS := (s0, S)
def O_read_149 (N : Nat) (s0 : Int32) (S : rS) : Prop := narrow .boolean (.int s0) = .int s0
set_option maxHeartbeats 4000000 in
theorem b_read_149 {G : zG} {E : rE} {S : rS} {N : Nat} {Q : Option Value → rS → Prop} {X : Int32 × rS → Prop} (hG : zOK G) (hR : ∀ v S', X (v, S') → Q (some (.int v)) S') {s0 : Int32} (ok : O_read_149 N s0 S) (hx : X (F_read_149 N s0 S)) : rX G E dX12_read mX12_read 149 [none] [.int s0] S Q := by
  unfold O_read_149 at ok
  unfold F_read_149 at hx
  exact r_ireturn rfl ok dX12_read_149 (hR _ _ hx)
def F_read_148 (N : Nat)  (S : rS) : Int32 × rS := (F_read_149 N (nI 0) S)
def O_read_148 (N : Nat)  (S : rS) : Prop := O_read_149 N (nI 0) S
set_option maxHeartbeats 4000000 in
theorem b_read_148 {G : zG} {E : rE} {S : rS} {N : Nat} {Q : Option Value → rS → Prop} {X : Int32 × rS → Prop} (hG : zOK G) (hR : ∀ v S', X (v, S') → Q (some (.int v)) S') (ok : O_read_148 N S) (hx : X (F_read_148 N S)) : rX G E dX12_read mX12_read 148 [none] [] S Q := by
  unfold O_read_148 at ok
  unfold F_read_148 at hx
  refine r_iconst (v := nI 0) dX12_read_148 (by decide) ?_
  exact rX.cutz (b_read_149 hG hR ok hx) trivial
def F_read_129 (N : Nat)  (S : rS) : Int32 × rS := (if (S.1 33) = (nI 3) then (if (S.1 38) ≤ 0 then (F_read_148 N S) else (F_read_149 N (nI 1) S)) else (F_read_148 N S))
def O_read_129 (N : Nat)  (S : rS) : Prop := (((S.1 33) = (nI 3) → (((S.1 38) ≤ 0 → O_read_148 N S) ∧ (¬ (S.1 38) ≤ 0 → O_read_149 N (nI 1) S))) ∧ (¬ (S.1 33) = (nI 3) → O_read_148 N S))
set_option maxHeartbeats 4000000 in
theorem b_read_129 {G : zG} {E : rE} {S : rS} {N : Nat} {Q : Option Value → rS → Prop} {X : Int32 × rS → Prop} (hG : zOK G) (hR : ∀ v S', X (v, S') → Q (some (.int v)) S') (ok : O_read_129 N S) (hx : X (F_read_129 N S)) : rX G E dX12_read mX12_read 129 [some (.ref E.1)] [] S Q := by
  unfold O_read_129 at ok
  unfold F_read_129 at hx
  refine r_aload_n dX12_read_129 rfl rfl ?_
  refine r_getI 33 fX12_201 (by decide) (by decide) dX12_read_130 ?_
  refine r_iconst (v := nI 3) dX12_read_133 (by decide) ?_
  refine r_icmp_ne (tgt := 148) dX12_read_134 (by decide) (fun c_134 => ?_) (fun c_134 => ?_)
  · have ok := ok.2 c_134
    have hx := xif_n c_134 hx
    exact rX.cutz (b_read_148 hG hR ok hx) trivial
  · have ok := ok.1 c_134
    have hx := xif_p c_134 hx
    refine r_aload_n dX12_read_137 rfl rfl ?_
    refine r_getI 38 fX12_257 (by decide) (by decide) dX12_read_138 ?_
    refine r_if_le (tgt := 148) dX12_read_141 (by decide) (fun c_141 => ?_) (fun c_141 => ?_)
    · have ok := ok.1 c_141
      have hx := xif_p c_141 hx
      exact rX.cutz (b_read_148 hG hR ok hx) trivial
    · have ok := ok.2 c_141
      have hx := xif_n c_141 hx
      refine r_iconst (v := nI 1) dX12_read_144 (by decide) ?_
      refine r_goto (tgt := 149) dX12_read_145 (by decide) ?_
      exact rX.cutz (b_read_149 hG hR ok hx) trivial
def F_read_102 (N : Nat) (s0 : Int32) (S : rS) : Int32 × rS := (if s0 = 0 then ((nI 0), S) else ((nI 1), (rsI S 38 (f_heightOf N S (nI 1352)))))
def O_read_102 (N : Nat) (s0 : Int32) (S : rS) : Prop := ((s0 = 0 → True) ∧ (¬ s0 = 0 → (o_heightOf N S (nI 1352)) ∧ True))
set_option maxHeartbeats 4000000 in
theorem b_read_102 {G : zG} {E : rE} {S : rS} {N : Nat} {Q : Option Value → rS → Prop} {X : Int32 × rS → Prop} (hG : zOK G) (hR : ∀ v S', X (v, S') → Q (some (.int v)) S') {s0 : Int32} (ok : O_read_102 N s0 S) (hx : X (F_read_102 N s0 S)) : rX G E dX12_read mX12_read 102 [some (.ref E.1)] [.int s0] S Q := by
  unfold O_read_102 at ok
  unfold F_read_102 at hx
  refine r_if_ne (tgt := 107) dX12_read_102 (by decide) (fun c_102 => ?_) (fun c_102 => ?_)
  · have ok := ok.2 c_102
    have hx := xif_n c_102 hx
    refine r_aload_n dX12_read_107 rfl rfl ?_
    refine r_aload_n dX12_read_108 rfl rfl ?_
    refine r_sipush (v := nI 1352) dX12_read_109 (by decide) ?_
    refine r_V1i (y' := mX12_heightOf) dX12_read_112 lX12_279 kX12_heightOf ⟨by decide, by decide⟩ rfl (Nat.le_of_ble_eq_true rfl) (rc_X12_heightOf hG ok.1) (fun v_112 S_112 h_112 => ?_)
    obtain ⟨rfl, hS_112⟩ := h_112
    have hS_112 := hS_112.symm
    subst hS_112
    have ok := ok.2
    refine r_putI 38 fX12_257 (by decide) (by decide) rfl rfl rfl dX12_read_115 ?_
    refine r_iconst (v := nI 1) dX12_read_118 (by decide) ?_
    exact r_ireturn rfl rfl dX12_read_119 (hR _ _ hx)
  · have ok := ok.1 c_102
    have hx := xif_p c_102 hx
    refine r_iconst (v := nI 0) dX12_read_105 (by decide) ?_
    exact r_ireturn rfl rfl dX12_read_106 (hR _ _ hx)
def F_read_96 (N : Nat) (s0 : Int32) (S : rS) : Int32 × rS := (s0, S)
def O_read_96 (N : Nat) (s0 : Int32) (S : rS) : Prop := narrow .boolean (.int s0) = .int s0
set_option maxHeartbeats 4000000 in
theorem b_read_96 {G : zG} {E : rE} {S : rS} {N : Nat} {Q : Option Value → rS → Prop} {X : Int32 × rS → Prop} (hG : zOK G) (hR : ∀ v S', X (v, S') → Q (some (.int v)) S') {s0 : Int32} (ok : O_read_96 N s0 S) (hx : X (F_read_96 N s0 S)) : rX G E dX12_read mX12_read 96 [none] [.int s0] S Q := by
  unfold O_read_96 at ok
  unfold F_read_96 at hx
  exact r_ireturn rfl ok dX12_read_96 (hR _ _ hx)
def F_read_91 (N : Nat) (s0 : Int32) (S : rS) : Int32 × rS := (s0, S)
def O_read_91 (N : Nat) (s0 : Int32) (S : rS) : Prop := narrow .boolean (.int s0) = .int s0
set_option maxHeartbeats 4000000 in
theorem b_read_91 {G : zG} {E : rE} {S : rS} {N : Nat} {Q : Option Value → rS → Prop} {X : Int32 × rS → Prop} (hG : zOK G) (hR : ∀ v S', X (v, S') → Q (some (.int v)) S') {s0 : Int32} (ok : O_read_91 N s0 S) (hx : X (F_read_91 N s0 S)) : rX G E dX12_read mX12_read 91 [none] [.int s0] S Q := by
  unfold O_read_91 at ok
  unfold F_read_91 at hx
  exact r_ireturn rfl ok dX12_read_91 (hR _ _ hx)
def F_read_86 (N : Nat) (s0 : Int32) (S : rS) : Int32 × rS := (s0, S)
def O_read_86 (N : Nat) (s0 : Int32) (S : rS) : Prop := narrow .boolean (.int s0) = .int s0
set_option maxHeartbeats 4000000 in
theorem b_read_86 {G : zG} {E : rE} {S : rS} {N : Nat} {Q : Option Value → rS → Prop} {X : Int32 × rS → Prop} (hG : zOK G) (hR : ∀ v S', X (v, S') → Q (some (.int v)) S') {s0 : Int32} (ok : O_read_86 N s0 S) (hx : X (F_read_86 N s0 S)) : rX G E dX12_read mX12_read 86 [none] [.int s0] S Q := by
  unfold O_read_86 at ok
  unfold F_read_86 at hx
  exact r_ireturn rfl ok dX12_read_86 (hR _ _ hx)
def F_read_85 (N : Nat)  (S : rS) : Int32 × rS := (F_read_86 N (nI 0) S)
def O_read_85 (N : Nat)  (S : rS) : Prop := O_read_86 N (nI 0) S
set_option maxHeartbeats 4000000 in
theorem b_read_85 {G : zG} {E : rE} {S : rS} {N : Nat} {Q : Option Value → rS → Prop} {X : Int32 × rS → Prop} (hG : zOK G) (hR : ∀ v S', X (v, S') → Q (some (.int v)) S') (ok : O_read_85 N S) (hx : X (F_read_85 N S)) : rX G E dX12_read mX12_read 85 [none] [] S Q := by
  unfold O_read_85 at ok
  unfold F_read_85 at hx
  refine r_iconst (v := nI 0) dX12_read_85 (by decide) ?_
  exact rX.cutz (b_read_86 hG hR ok hx) trivial
def F_read_15 (N : Nat)  (S : rS) : Int32 × rS := (if (S.1 36) = nI 0 then (if (S.1 33) = (nI 8) then (if (f_isPaymentAt N S (nI 1)) = 0 then (F_read_85 N S) else (F_read_86 N (nI 1) S)) else (F_read_85 N S)) else (if (S.1 36) = nI 1 then (F_read_91 N ((f_readProposal N S).1) (f_readProposal N S).2) else (if (S.1 36) = nI 2 then (F_read_96 N ((f_readVote N S).1) (f_readVote N S).2) else (if (S.1 36) = nI 3 then (F_read_96 N ((f_readVote N S).1) (f_readVote N S).2) else (if (S.1 36) = nI 4 then (F_read_102 N ((f_readBlock N S (nI 1)).1) (f_readBlock N S (nI 1)).2) else (if (S.1 36) = nI 5 then (F_read_129 N (rsI S 38 (f_heightAt N S (nI 1)))) else (if (S.1 36) = nI 6 then (if (S.1 33) ≤ (nI 1) then (F_read_169 N (-1) S) else (F_read_169 N (S.2.1 32 (nI 1).toNatClampNeg) S)) else (if (S.1 36) = nI 7 then (F_read_204 N ((f_readSnapshot N S).1) (f_readSnapshot N S).2) else ((nI 0), S)))))))))
def O_read_15 (N : Nat)  (S : rS) : Prop := (((S.1 36) = nI 0 → (((S.1 33) = (nI 8) → (o_isPaymentAt N S (nI 1)) ∧ (((f_isPaymentAt N S (nI 1)) = 0 → O_read_85 N S) ∧ (¬ (f_isPaymentAt N S (nI 1)) = 0 → O_read_86 N (nI 1) S))) ∧ (¬ (S.1 33) = (nI 8) → O_read_85 N S))) ∧ (¬ (S.1 36) = nI 0 → (((S.1 36) = nI 1 → (o_readProposal N S) ∧ O_read_91 N ((f_readProposal N S).1) (f_readProposal N S).2) ∧ (¬ (S.1 36) = nI 1 → (((S.1 36) = nI 2 → (o_readVote N S) ∧ O_read_96 N ((f_readVote N S).1) (f_readVote N S).2) ∧ (¬ (S.1 36) = nI 2 → (((S.1 36) = nI 3 → (o_readVote N S) ∧ O_read_96 N ((f_readVote N S).1) (f_readVote N S).2) ∧ (¬ (S.1 36) = nI 3 → (((S.1 36) = nI 4 → (o_readBlock N S (nI 1)) ∧ O_read_102 N ((f_readBlock N S (nI 1)).1) (f_readBlock N S (nI 1)).2) ∧ (¬ (S.1 36) = nI 4 → (((S.1 36) = nI 5 → (o_heightAt N S (nI 1)) ∧ O_read_129 N (rsI S 38 (f_heightAt N S (nI 1)))) ∧ (¬ (S.1 36) = nI 5 → (((S.1 36) = nI 6 → (((S.1 33) ≤ (nI 1) → O_read_169 N (-1) S) ∧ (¬ (S.1 33) ≤ (nI 1) → (vp_in (nI 1) 1010) ∧ O_read_169 N (S.2.1 32 (nI 1).toNatClampNeg) S))) ∧ (¬ (S.1 36) = nI 6 → (((S.1 36) = nI 7 → (o_readSnapshot N S) ∧ O_read_204 N ((f_readSnapshot N S).1) (f_readSnapshot N S).2) ∧ (¬ (S.1 36) = nI 7 → True))))))))))))))))
set_option maxHeartbeats 4000000 in
theorem b_read_15 {G : zG} {E : rE} {S : rS} {N : Nat} {Q : Option Value → rS → Prop} {X : Int32 × rS → Prop} (hG : zOK G) (hR : ∀ v S', X (v, S') → Q (some (.int v)) S') (ok : O_read_15 N S) (hx : X (F_read_15 N S)) : rX G E dX12_read mX12_read 15 [some (.ref E.1)] [] S Q := by
  unfold O_read_15 at ok
  unfold F_read_15 at hx
  refine r_aload_n dX12_read_15 rfl rfl ?_
  refine r_getI 36 fX12_282 (by decide) (by decide) dX12_read_16 ?_
  by_cases c_19_0 : (S.1 36) = nI 0
  · have ok := ok.1 c_19_0
    have hx := xif_p c_19_0 hx
    refine r_tableIn (off := 45) (tgt := 64) dX12_read_19 (by rw [c_19_0]; decide) (by rw [c_19_0]; decide) (by rw [c_19_0]; rfl) (by decide) ?_
    refine r_aload_n dX12_read_64 rfl rfl ?_
    refine r_getI 33 fX12_201 (by decide) (by decide) dX12_read_65 ?_
    refine r_bipush (v := nI 8) dX12_read_68 (by decide) ?_
    refine r_icmp_ne (tgt := 85) dX12_read_70 (by decide) (fun c_70 => ?_) (fun c_70 => ?_)
    · have ok := ok.2 c_70
      have hx := xif_n c_70 hx
      exact rX.cutz (b_read_85 hG hR ok hx) trivial
    · have ok := ok.1 c_70
      have hx := xif_p c_70 hx
      refine r_aload_n dX12_read_73 rfl rfl ?_
      refine r_iconst (v := nI 1) dX12_read_74 (by decide) ?_
      refine r_V1i (y' := mX12_isPaymentAt) dX12_read_75 lX12_247 kX12_isPaymentAt ⟨by decide, by decide⟩ rfl (Nat.le_of_ble_eq_true rfl) (rc_X12_isPaymentAt hG ok.1) (fun v_75 S_75 h_75 => ?_)
      obtain ⟨rfl, hS_75⟩ := h_75
      have hS_75 := hS_75.symm
      subst hS_75
      have ok := ok.2
      refine r_if_eq (tgt := 85) dX12_read_78 (by decide) (fun c_78 => ?_) (fun c_78 => ?_)
      · have ok := ok.1 c_78
        have hx := xif_p c_78 hx
        exact rX.cutz (b_read_85 hG hR ok hx) trivial
      · have ok := ok.2 c_78
        have hx := xif_n c_78 hx
        refine r_iconst (v := nI 1) dX12_read_81 (by decide) ?_
        refine r_goto (tgt := 86) dX12_read_82 (by decide) ?_
        exact rX.cutz (b_read_86 hG hR ok hx) trivial
  · have ok := ok.2 c_19_0
    have hx := xif_n c_19_0 hx
    by_cases c_19_1 : (S.1 36) = nI 1
    · have ok := ok.1 c_19_1
      have hx := xif_p c_19_1 hx
      refine r_tableIn (off := 68) (tgt := 87) dX12_read_19 (by rw [c_19_1]; decide) (by rw [c_19_1]; decide) (by rw [c_19_1]; rfl) (by decide) ?_
      refine r_aload_n dX12_read_87 rfl rfl ?_
      refine r_V0i (y' := mX12_readProposal) dX12_read_88 lX12_285 kX12_readProposal ⟨by decide, by decide⟩ rfl (Nat.le_of_ble_eq_true rfl) (rc_X12_readProposal hG ok.1) (fun v_88 S_88 h_88 => ?_)
      obtain ⟨rfl, hS_88⟩ := h_88
      have hS_88 := hS_88.symm
      subst hS_88
      have ok := ok.2
      exact rX.cutz (b_read_91 hG hR ok hx) trivial
    · have ok := ok.2 c_19_1
      have hx := xif_n c_19_1 hx
      by_cases c_19_2 : (S.1 36) = nI 2
      · have ok := ok.1 c_19_2
        have hx := xif_p c_19_2 hx
        refine r_tableIn (off := 73) (tgt := 92) dX12_read_19 (by rw [c_19_2]; decide) (by rw [c_19_2]; decide) (by rw [c_19_2]; rfl) (by decide) ?_
        refine r_aload_n dX12_read_92 rfl rfl ?_
        refine r_V0i (y' := mX12_readVote) dX12_read_93 lX12_289 kX12_readVote ⟨by decide, by decide⟩ rfl (Nat.le_of_ble_eq_true rfl) (rc_X12_readVote hG ok.1) (fun v_93 S_93 h_93 => ?_)
        obtain ⟨rfl, hS_93⟩ := h_93
        have hS_93 := hS_93.symm
        subst hS_93
        have ok := ok.2
        exact rX.cutz (b_read_96 hG hR ok hx) trivial
      · have ok := ok.2 c_19_2
        have hx := xif_n c_19_2 hx
        by_cases c_19_3 : (S.1 36) = nI 3
        · have ok := ok.1 c_19_3
          have hx := xif_p c_19_3 hx
          refine r_tableIn (off := 73) (tgt := 92) dX12_read_19 (by rw [c_19_3]; decide) (by rw [c_19_3]; decide) (by rw [c_19_3]; rfl) (by decide) ?_
          refine r_aload_n dX12_read_92 rfl rfl ?_
          refine r_V0i (y' := mX12_readVote) dX12_read_93 lX12_289 kX12_readVote ⟨by decide, by decide⟩ rfl (Nat.le_of_ble_eq_true rfl) (rc_X12_readVote hG ok.1) (fun v_93 S_93 h_93 => ?_)
          obtain ⟨rfl, hS_93⟩ := h_93
          have hS_93 := hS_93.symm
          subst hS_93
          have ok := ok.2
          exact rX.cutz (b_read_96 hG hR ok hx) trivial
        · have ok := ok.2 c_19_3
          have hx := xif_n c_19_3 hx
          by_cases c_19_4 : (S.1 36) = nI 4
          · have ok := ok.1 c_19_4
            have hx := xif_p c_19_4 hx
            refine r_tableIn (off := 78) (tgt := 97) dX12_read_19 (by rw [c_19_4]; decide) (by rw [c_19_4]; decide) (by rw [c_19_4]; rfl) (by decide) ?_
            refine r_aload_n dX12_read_97 rfl rfl ?_
            refine r_iconst (v := nI 1) dX12_read_98 (by decide) ?_
            refine r_V1i (y' := mX12_readBlock) dX12_read_99 lX12_276 kX12_readBlock ⟨by decide, by decide⟩ rfl (Nat.le_of_ble_eq_true rfl) (rc_X12_readBlock hG ok.1) (fun v_99 S_99 h_99 => ?_)
            obtain ⟨rfl, hS_99⟩ := h_99
            have hS_99 := hS_99.symm
            subst hS_99
            have ok := ok.2
            exact rX.cutz (b_read_102 hG hR ok hx) ⟨rfl, trivial⟩
          · have ok := ok.2 c_19_4
            have hx := xif_n c_19_4 hx
            by_cases c_19_5 : (S.1 36) = nI 5
            · have ok := ok.1 c_19_5
              have hx := xif_p c_19_5 hx
              refine r_tableIn (off := 101) (tgt := 120) dX12_read_19 (by rw [c_19_5]; decide) (by rw [c_19_5]; decide) (by rw [c_19_5]; rfl) (by decide) ?_
              refine r_aload_n dX12_read_120 rfl rfl ?_
              refine r_aload_n dX12_read_121 rfl rfl ?_
              refine r_iconst (v := nI 1) dX12_read_122 (by decide) ?_
              refine r_V1i (y' := mX12_heightAt) dX12_read_123 lX12_232 kX12_heightAt ⟨by decide, by decide⟩ rfl (Nat.le_of_ble_eq_true rfl) (rc_X12_heightAt hG ok.1) (fun v_123 S_123 h_123 => ?_)
              obtain ⟨rfl, hS_123⟩ := h_123
              have hS_123 := hS_123.symm
              subst hS_123
              have ok := ok.2
              refine r_putI 38 fX12_257 (by decide) (by decide) rfl rfl rfl dX12_read_126 ?_
              exact rX.cutz (b_read_129 hG hR ok hx) ⟨rfl, trivial⟩
            · have ok := ok.2 c_19_5
              have hx := xif_n c_19_5 hx
              by_cases c_19_6 : (S.1 36) = nI 6
              · have ok := ok.1 c_19_6
                have hx := xif_p c_19_6 hx
                refine r_tableIn (off := 131) (tgt := 150) dX12_read_19 (by rw [c_19_6]; decide) (by rw [c_19_6]; decide) (by rw [c_19_6]; rfl) (by decide) ?_
                refine r_aload_n dX12_read_150 rfl rfl ?_
                refine r_aload_n dX12_read_151 rfl rfl ?_
                refine r_getI 33 fX12_201 (by decide) (by decide) dX12_read_152 ?_
                refine r_iconst (v := nI 1) dX12_read_155 (by decide) ?_
                refine r_icmp_le (tgt := 168) dX12_read_156 (by decide) (fun c_156 => ?_) (fun c_156 => ?_)
                · have ok := ok.1 c_156
                  have hx := xif_p c_156 hx
                  refine r_iconst (v := -1) dX12_read_168 (by decide) ?_
                  exact rX.cutz (b_read_169 hG hR ok hx) ⟨rfl, trivial⟩
                · have ok := ok.2 c_156
                  have hx := xif_n c_156 hx
                  refine r_aload_n dX12_read_159 rfl rfl ?_
                  refine r_getA 32 fX12_204 (by decide) (by decide) dX12_read_160 ?_
                  refine r_iconst (v := nI 1) dX12_read_163 (by decide) ?_
                  refine r_iald (by decide) (by decide) dX12_read_164 ok.1 ?_
                  have ok := ok.2
                  refine r_goto (tgt := 169) dX12_read_165 (by decide) ?_
                  exact rX.cutz (b_read_169 hG hR ok hx) ⟨rfl, trivial⟩
              · have ok := ok.2 c_19_6
                have hx := xif_n c_19_6 hx
                by_cases c_19_7 : (S.1 36) = nI 7
                · have ok := ok.1 c_19_7
                  have hx := xif_p c_19_7 hx
                  refine r_tableIn (off := 181) (tgt := 200) dX12_read_19 (by rw [c_19_7]; decide) (by rw [c_19_7]; decide) (by rw [c_19_7]; rfl) (by decide) ?_
                  refine r_aload_n dX12_read_200 rfl rfl ?_
                  refine r_V0i (y' := mX12_readSnapshot) dX12_read_201 lX12_292 kX12_readSnapshot ⟨by decide, by decide⟩ rfl (Nat.le_of_ble_eq_true rfl) (rc_X12_readSnapshot hG ok.1) (fun v_201 S_201 h_201 => ?_)
                  obtain ⟨rfl, hS_201⟩ := h_201
                  have hS_201 := hS_201.symm
                  subst hS_201
                  have ok := ok.2
                  exact rX.cutz (b_read_204 hG hR ok hx) trivial
                · have ok := ok.2 c_19_7
                  have hx := xif_n c_19_7 hx
                  refine r_tableOut (tgt := 205) dX12_read_19 (zsw 8 (by intro k hk; rcases (show k = 0 ∨ k = 1 ∨ k = 2 ∨ k = 3 ∨ k = 4 ∨ k = 5 ∨ k = 6 ∨ k = 7 by omega) with rfl | rfl | rfl | rfl | rfl | rfl | rfl | rfl <;> assumption) (by decide) (by decide)) (by decide) ?_
                  refine r_iconst (v := nI 0) dX12_read_205 (by decide) ?_
                  exact r_ireturn rfl rfl dX12_read_206 (hR _ _ hx)
def F_read_0 (N : Nat)  (S : rS) : Int32 × rS := (F_read_15 N (rsI (rsI S 36 (S.2.1 32 (nI 0).toNatClampNeg)) 37 (-1)))
def O_read_0 (N : Nat)  (S : rS) : Prop := (vp_in (nI 0) 1010) ∧ O_read_15 N (rsI (rsI S 36 (S.2.1 32 (nI 0).toNatClampNeg)) 37 (-1))
set_option maxHeartbeats 4000000 in
theorem b_read_0 {G : zG} {E : rE} {S : rS} {N : Nat} {Q : Option Value → rS → Prop} {X : Int32 × rS → Prop} (hG : zOK G) (hR : ∀ v S', X (v, S') → Q (some (.int v)) S') (ok : O_read_0 N S) (hx : X (F_read_0 N S)) : rX G E dX12_read mX12_read 0 [some (.ref E.1)] [] S Q := by
  unfold O_read_0 at ok
  unfold F_read_0 at hx
  refine r_aload_n dX12_read_0 rfl rfl ?_
  refine r_aload_n dX12_read_1 rfl rfl ?_
  refine r_getA 32 fX12_204 (by decide) (by decide) dX12_read_2 ?_
  refine r_iconst (v := nI 0) dX12_read_5 (by decide) ?_
  refine r_iald (by decide) (by decide) dX12_read_6 ok.1 ?_
  have ok := ok.2
  refine r_putI 36 fX12_282 (by decide) (by decide) rfl rfl rfl dX12_read_7 ?_
  refine r_aload_n dX12_read_10 rfl rfl ?_
  refine r_iconst (v := -1) dX12_read_11 (by decide) ?_
  refine r_putI 37 fX12_260 (by decide) (by decide) rfl rfl rfl dX12_read_12 ?_
  exact rX.cutz (b_read_15 hG hR ok hx) ⟨rfl, trivial⟩
def f_read (N : Nat) (S : rS) : Int32 × rS := F_read_0 N S
def o_read (N : Nat) (S : rS) : Prop := O_read_0 N S
set_option maxHeartbeats 4000000 in
theorem rc_X12_read {G : zG} {E : rE} {S : rS} {N : Nat} (hG : zOK G) (ok : o_read N S ) : rCi G E dX12_read mX12_read [.ref E.1] S (fun v S' => v = (f_read N S).1 ∧ S' = (f_read N S).2) := by
  refine rC.ofX rfl (Nat.le_of_ble_eq_true rfl) ?_
  show rX G E dX12_read mX12_read 0 [some (.ref E.1)] [] S _
  exact rX.cutz (b_read_0 (X := fun F => F = f_read N S) hG (fun v S' h => ⟨v, rfl, by rw [← h], by rw [← h]⟩) ok rfl) ⟨rfl, trivial⟩
/-! tellsHonest -/
def F_tellsHonest_101 (N : Nat) (x1 : Int32) (S : rS) : Int32 := x1
def O_tellsHonest_101 (N : Nat) (x1 : Int32) (S : rS) : Prop := narrow .boolean (.int x1) = .int x1
set_option maxHeartbeats 4000000 in
theorem b_tellsHonest_101 {G : zG} {E : rE} {S : rS} {N : Nat} {Q : Option Value → rS → Prop} {X : Int32 → Prop} (hG : zOK G) (hR : ∀ v, X v → Q (some (.int v)) S) {x1 : Int32} (ok : O_tellsHonest_101 N x1 S) (hx : X (F_tellsHonest_101 N x1 S)) : rX G E dX12_tellsHonest mX12_tellsHonest 101 [none, some (.int x1), none, none] [] S Q := by
  unfold O_tellsHonest_101 at ok
  unfold F_tellsHonest_101 at hx
  refine r_iload_n dX12_tellsHonest_101 rfl rfl ?_
  exact r_ireturn rfl ok dX12_tellsHonest_102 (hR _ hx)
def F_tellsHonest_83 (N : Nat) (rec : Int32 → Int32 → Int32 → Nat × Int32 × Unit) (x2 : Int32) (x3 : Int32) (s0 : Int32) (S : rS) : Nat × Int32 × Unit := (rec s0 (x2 + (f_proofBytes N S (nI 1352) x2)) (x3 + nI 1))
def O_tellsHonest_83 (N : Nat) (rok : Int32 → Int32 → Int32 → Prop) (x2 : Int32) (x3 : Int32) (s0 : Int32) (S : rS) : Prop := (o_proofBytes N S (nI 1352) x2) ∧ rok s0 (x2 + (f_proofBytes N S (nI 1352) x2)) (x3 + nI 1)
set_option maxHeartbeats 4000000 in
theorem b_tellsHonest_83 {G : zG} {E : rE} {S : rS} {N : Nat} {Q : Option Value → rS → Prop} {X : Nat × Int32 × Unit → Prop} (hG : zOK G) (hX0 : ∀ (x1 : Int32) , X (0, x1, ()) → rX G E dX12_tellsHonest mX12_tellsHonest 101 [none, some (.int x1), none, none] [] S Q) {rec : Int32 → Int32 → Int32 → Nat × Int32 × Unit} {rok : Int32 → Int32 → Int32 → Prop} (hrec : ∀ (x1 : Int32) (x2 : Int32) (x3 : Int32), rok x1 x2 x3 → X (rec x1 x2 x3) → rX G E dX12_tellsHonest mX12_tellsHonest 48 [some (.ref E.1), some (.int x1), some (.int x2), some (.int x3)] [] S Q) {x2 : Int32} {x3 : Int32} {s0 : Int32} (ok : O_tellsHonest_83 N rok x2 x3 s0 S) (hx : X (F_tellsHonest_83 N rec x2 x3 s0 S)) : rX G E dX12_tellsHonest mX12_tellsHonest 83 [some (.ref E.1), none, some (.int x2), some (.int x3)] [.int s0] S Q := by
  unfold O_tellsHonest_83 at ok
  unfold F_tellsHonest_83 at hx
  refine r_istore_1 dX12_tellsHonest_83 (by decide) rfl ?_
  refine r_iload_n dX12_tellsHonest_84 rfl rfl ?_
  refine r_aload_n dX12_tellsHonest_85 rfl rfl ?_
  refine r_sipush (v := nI 1352) dX12_tellsHonest_86 (by decide) ?_
  refine r_iload_n dX12_tellsHonest_89 rfl rfl ?_
  refine r_V2i (y' := mX12_proofBytes) dX12_tellsHonest_90 lX12_121 kX12_proofBytes ⟨by decide, by decide⟩ rfl (Nat.le_of_ble_eq_true rfl) (rc_X12_proofBytes hG ok.1) (fun v_90 S_90 h_90 => ?_)
  obtain ⟨rfl, hS_90⟩ := h_90
  have hS_90 := hS_90.symm
  subst hS_90
  have ok := ok.2
  refine r_iadd dX12_tellsHonest_93 ?_
  refine r_istore_2 dX12_tellsHonest_94 (by decide) rfl ?_
  refine r_iinc_3 (v := (x3 + nI 1)) dX12_tellsHonest_95 rfl (by first | rfl | (congr 1)) (by decide) rfl ?_
  refine r_goto (tgt := 48) dX12_tellsHonest_98 (by decide) ?_
  exact rX.cutz (hrec _ _ _ ok hx) ⟨rfl, rfl, rfl, rfl, trivial⟩
def F_tellsHonest_78 (N : Nat) (rec : Int32 → Int32 → Int32 → Nat × Int32 × Unit) (x2 : Int32) (x3 : Int32) (S : rS) : Nat × Int32 × Unit := (F_tellsHonest_83 N rec x2 x3 (nI 1) S)
def O_tellsHonest_78 (N : Nat) (rok : Int32 → Int32 → Int32 → Prop) (x2 : Int32) (x3 : Int32) (S : rS) : Prop := O_tellsHonest_83 N rok x2 x3 (nI 1) S
set_option maxHeartbeats 4000000 in
theorem b_tellsHonest_78 {G : zG} {E : rE} {S : rS} {N : Nat} {Q : Option Value → rS → Prop} {X : Nat × Int32 × Unit → Prop} (hG : zOK G) (hX0 : ∀ (x1 : Int32) , X (0, x1, ()) → rX G E dX12_tellsHonest mX12_tellsHonest 101 [none, some (.int x1), none, none] [] S Q) {rec : Int32 → Int32 → Int32 → Nat × Int32 × Unit} {rok : Int32 → Int32 → Int32 → Prop} (hrec : ∀ (x1 : Int32) (x2 : Int32) (x3 : Int32), rok x1 x2 x3 → X (rec x1 x2 x3) → rX G E dX12_tellsHonest mX12_tellsHonest 48 [some (.ref E.1), some (.int x1), some (.int x2), some (.int x3)] [] S Q) {x2 : Int32} {x3 : Int32} (ok : O_tellsHonest_78 N rok x2 x3 S) (hx : X (F_tellsHonest_78 N rec x2 x3 S)) : rX G E dX12_tellsHonest mX12_tellsHonest 78 [some (.ref E.1), none, some (.int x2), some (.int x3)] [] S Q := by
  unfold O_tellsHonest_78 at ok
  unfold F_tellsHonest_78 at hx
  refine r_iconst (v := nI 1) dX12_tellsHonest_78 (by decide) ?_
  refine r_goto (tgt := 83) dX12_tellsHonest_79 (by decide) ?_
  exact rX.cutz (b_tellsHonest_83 hG hX0 hrec ok hx) ⟨rfl, rfl, rfl, trivial⟩
def B_tellsHonest_48 (N : Nat) (rec : Int32 → Int32 → Int32 → Nat × Int32 × Unit) (x1 : Int32) (x2 : Int32) (x3 : Int32) (S : rS) : Nat × Int32 × Unit := (if (f_proofsOf N S (nI 1352)) ≤ x3 then (0, x1, ()) else (if x1 = 0 then (if (f_isHonest N S (f_blockByte N S (nI 1352) x2)) = 0 then (F_tellsHonest_83 N rec x2 x3 (nI 0) S) else (F_tellsHonest_78 N rec x2 x3 S)) else (F_tellsHonest_78 N rec x2 x3 S)))
def OB_tellsHonest_48 (N : Nat) (rok : Int32 → Int32 → Int32 → Prop) (x1 : Int32) (x2 : Int32) (x3 : Int32) (S : rS) : Prop := (o_proofsOf N S (nI 1352)) ∧ (((f_proofsOf N S (nI 1352)) ≤ x3 → True) ∧ (¬ (f_proofsOf N S (nI 1352)) ≤ x3 → ((x1 = 0 → (o_blockByte N S (nI 1352) x2) ∧ (o_isHonest N S (f_blockByte N S (nI 1352) x2)) ∧ (((f_isHonest N S (f_blockByte N S (nI 1352) x2)) = 0 → O_tellsHonest_83 N rok x2 x3 (nI 0) S) ∧ (¬ (f_isHonest N S (f_blockByte N S (nI 1352) x2)) = 0 → O_tellsHonest_78 N rok x2 x3 S))) ∧ (¬ x1 = 0 → O_tellsHonest_78 N rok x2 x3 S))))
set_option maxHeartbeats 4000000 in
theorem bb_tellsHonest_48 {G : zG} {E : rE} {S : rS} {N : Nat} {Q : Option Value → rS → Prop} {X : Nat × Int32 × Unit → Prop} (hG : zOK G) (hX0 : ∀ (x1 : Int32) , X (0, x1, ()) → rX G E dX12_tellsHonest mX12_tellsHonest 101 [none, some (.int x1), none, none] [] S Q) {rec : Int32 → Int32 → Int32 → Nat × Int32 × Unit} {rok : Int32 → Int32 → Int32 → Prop} (hrec : ∀ (x1 : Int32) (x2 : Int32) (x3 : Int32), rok x1 x2 x3 → X (rec x1 x2 x3) → rX G E dX12_tellsHonest mX12_tellsHonest 48 [some (.ref E.1), some (.int x1), some (.int x2), some (.int x3)] [] S Q) {x1 : Int32} {x2 : Int32} {x3 : Int32} (ok : OB_tellsHonest_48 N rok x1 x2 x3 S) (hx : X (B_tellsHonest_48 N rec x1 x2 x3 S)) : rX G E dX12_tellsHonest mX12_tellsHonest 48 [some (.ref E.1), some (.int x1), some (.int x2), some (.int x3)] [] S Q := by
  unfold OB_tellsHonest_48 at ok
  unfold B_tellsHonest_48 at hx
  refine r_iload_n dX12_tellsHonest_48 rfl rfl ?_
  refine r_aload_n dX12_tellsHonest_49 rfl rfl ?_
  refine r_sipush (v := nI 1352) dX12_tellsHonest_50 (by decide) ?_
  refine r_V1i (y' := mX12_proofsOf) dX12_tellsHonest_53 lX12_115 kX12_proofsOf ⟨by decide, by decide⟩ rfl (Nat.le_of_ble_eq_true rfl) (rc_X12_proofsOf hG ok.1) (fun v_53 S_53 h_53 => ?_)
  obtain ⟨rfl, hS_53⟩ := h_53
  have hS_53 := hS_53.symm
  subst hS_53
  have ok := ok.2
  refine r_icmp_ge (tgt := 101) dX12_tellsHonest_56 (by decide) (fun c_56 => ?_) (fun c_56 => ?_)
  · have ok := ok.1 c_56
    have hx := xif_p c_56 hx
    exact rX.cutz (hX0 _  hx) ⟨rfl, trivial⟩
  · have ok := ok.2 c_56
    have hx := xif_n c_56 hx
    refine r_iload_n dX12_tellsHonest_59 rfl rfl ?_
    refine r_if_ne (tgt := 78) dX12_tellsHonest_60 (by decide) (fun c_60 => ?_) (fun c_60 => ?_)
    · have ok := ok.2 c_60
      have hx := xif_n c_60 hx
      exact rX.cutz (b_tellsHonest_78 hG hX0 hrec ok hx) ⟨rfl, rfl, rfl, trivial⟩
    · have ok := ok.1 c_60
      have hx := xif_p c_60 hx
      refine r_aload_n dX12_tellsHonest_63 rfl rfl ?_
      refine r_aload_n dX12_tellsHonest_64 rfl rfl ?_
      refine r_sipush (v := nI 1352) dX12_tellsHonest_65 (by decide) ?_
      refine r_iload_n dX12_tellsHonest_68 rfl rfl ?_
      refine r_V2i (y' := mX12_blockByte) dX12_tellsHonest_69 lX12_67 kX12_blockByte ⟨by decide, by decide⟩ rfl (Nat.le_of_ble_eq_true rfl) (rc_X12_blockByte hG ok.1) (fun v_69 S_69 h_69 => ?_)
      obtain ⟨rfl, hS_69⟩ := h_69
      have hS_69 := hS_69.symm
      subst hS_69
      have ok := ok.2
      refine r_V1i (y' := mX12_isHonest) dX12_tellsHonest_72 lX12_155 kX12_isHonest ⟨by decide, by decide⟩ rfl (Nat.le_of_ble_eq_true rfl) (rc_X12_isHonest hG ok.1) (fun v_72 S_72 h_72 => ?_)
      obtain ⟨rfl, hS_72⟩ := h_72
      have hS_72 := hS_72.symm
      subst hS_72
      have ok := ok.2
      refine r_if_eq (tgt := 82) dX12_tellsHonest_75 (by decide) (fun c_75 => ?_) (fun c_75 => ?_)
      · have ok := ok.1 c_75
        have hx := xif_p c_75 hx
        refine r_iconst (v := nI 0) dX12_tellsHonest_82 (by decide) ?_
        exact rX.cutz (b_tellsHonest_83 hG hX0 hrec ok hx) ⟨rfl, rfl, rfl, trivial⟩
      · have ok := ok.2 c_75
        have hx := xif_n c_75 hx
        exact rX.cutz (b_tellsHonest_78 hG hX0 hrec ok hx) ⟨rfl, rfl, rfl, trivial⟩
def L_tellsHonest_48 (N : Nat) : Nat → Int32 → Int32 → Int32 → rS → Nat × Int32 × Unit
  | 0, x1, x2, x3, S => (0, 0, ())
  | n + 1, x1, x2, x3, S => B_tellsHonest_48 N (fun x1 x2 x3 => L_tellsHonest_48 N n x1 x2 x3 S) x1 x2 x3 S
def OL_tellsHonest_48 (N : Nat) : Nat → Int32 → Int32 → Int32 → rS → Prop
  | 0, _, _, _, _ => False
  | n + 1, x1, x2, x3, S => OB_tellsHonest_48 N (fun x1 x2 x3 => OL_tellsHonest_48 N n x1 x2 x3 S) x1 x2 x3 S
set_option maxHeartbeats 4000000 in
theorem l_tellsHonest_48 {G : zG} {E : rE} {S : rS} {N : Nat} {Q : Option Value → rS → Prop} {X : Nat × Int32 × Unit → Prop} (hG : zOK G) (hX0 : ∀ (x1 : Int32) , X (0, x1, ()) → rX G E dX12_tellsHonest mX12_tellsHonest 101 [none, some (.int x1), none, none] [] S Q) : ∀ (n : Nat) (x1 : Int32) (x2 : Int32) (x3 : Int32) , OL_tellsHonest_48 N n x1 x2 x3 S → X (L_tellsHonest_48 N n x1 x2 x3 S) → rX G E dX12_tellsHonest mX12_tellsHonest 48 [some (.ref E.1), some (.int x1), some (.int x2), some (.int x3)] [] S Q := by
  intro n
  induction n with
  | zero => intro x1 x2 x3 ok; exact absurd ok id
  | succ n ih =>
    intro x1 x2 x3 ok hx
    exact bb_tellsHonest_48 hG hX0 (rec := fun x1 x2 x3 => L_tellsHonest_48 N n x1 x2 x3 S) (rok := fun x1 x2 x3 => OL_tellsHonest_48 N n x1 x2 x3 S) (fun x1 x2 x3 ok hx => ih x1 x2 x3 ok hx) ok hx
def A_tellsHonest_48 (N : Nat) (x1 : Int32) (x2 : Int32) (x3 : Int32) (S : rS) (z : Nat × Int32 × Unit) : Int32 := (F_tellsHonest_101 N (z.2.1) S)
def OA_tellsHonest_48 (N : Nat) (x1 : Int32) (x2 : Int32) (x3 : Int32) (S : rS) (z : Nat × Int32 × Unit) : Prop := O_tellsHonest_101 N (z.2.1) S
set_option maxHeartbeats 4000000 in
theorem c_tellsHonest_48 {G : zG} {E : rE} {S : rS} {N : Nat} {Q : Option Value → rS → Prop} {X : Int32 → Prop} (hG : zOK G) (hR : ∀ v, X v → Q (some (.int v)) S) {x1 : Int32} {x2 : Int32} {x3 : Int32} (ok : OL_tellsHonest_48 N N x1 x2 x3 S ∧ OA_tellsHonest_48 N x1 x2 x3 S (L_tellsHonest_48 N N x1 x2 x3 S)) (hx : X (A_tellsHonest_48 N x1 x2 x3 S (L_tellsHonest_48 N N x1 x2 x3 S))) : rX G E dX12_tellsHonest mX12_tellsHonest 48 [some (.ref E.1), some (.int x1), some (.int x2), some (.int x3)] [] S Q := by
  refine l_tellsHonest_48 hG ?_ N x1 x2 x3 ok.1 (X := fun z => OA_tellsHonest_48 N x1 x2 x3 S z ∧ X (A_tellsHonest_48 N x1 x2 x3 S z)) ⟨ok.2, hx⟩
  · intro x1' hz
    obtain ⟨ok, hx⟩ := hz
    unfold OA_tellsHonest_48 at ok
    unfold A_tellsHonest_48 at hx
    exact rX.cutz (b_tellsHonest_101 hG hR ok hx) ⟨rfl, trivial⟩
def F_tellsHonest_43 (N : Nat) (x1 : Int32) (S : rS) : Int32 := (A_tellsHonest_48 N x1 (nI 101) (nI 0) S (L_tellsHonest_48 N N x1 (nI 101) (nI 0) S))
def O_tellsHonest_43 (N : Nat) (x1 : Int32) (S : rS) : Prop := (OL_tellsHonest_48 N N x1 (nI 101) (nI 0) S ∧ OA_tellsHonest_48 N x1 (nI 101) (nI 0) S (L_tellsHonest_48 N N x1 (nI 101) (nI 0) S))
set_option maxHeartbeats 4000000 in
theorem b_tellsHonest_43 {G : zG} {E : rE} {S : rS} {N : Nat} {Q : Option Value → rS → Prop} {X : Int32 → Prop} (hG : zOK G) (hR : ∀ v, X v → Q (some (.int v)) S) {x1 : Int32} (ok : O_tellsHonest_43 N x1 S) (hx : X (F_tellsHonest_43 N x1 S)) : rX G E dX12_tellsHonest mX12_tellsHonest 43 [some (.ref E.1), some (.int x1), none, none] [] S Q := by
  unfold O_tellsHonest_43 at ok
  unfold F_tellsHonest_43 at hx
  refine r_bipush (v := nI 101) dX12_tellsHonest_43 (by decide) ?_
  refine r_istore_2 dX12_tellsHonest_45 (by decide) rfl ?_
  refine r_iconst (v := nI 0) dX12_tellsHonest_46 (by decide) ?_
  refine r_istore_3 dX12_tellsHonest_47 (by decide) rfl ?_
  exact rX.cutz (c_tellsHonest_48 hG hR ok hx) ⟨rfl, rfl, rfl, rfl, trivial⟩
def F_tellsHonest_24 (N : Nat) (s0 : Int32) (S : rS) : Int32 := (if (S.1 36) = (nI 1) then (F_tellsHonest_43 N s0 S) else (if (S.1 36) = (nI 4) then (F_tellsHonest_43 N s0 S) else s0))
def O_tellsHonest_24 (N : Nat) (s0 : Int32) (S : rS) : Prop := (((S.1 36) = (nI 1) → O_tellsHonest_43 N s0 S) ∧ (¬ (S.1 36) = (nI 1) → (((S.1 36) = (nI 4) → O_tellsHonest_43 N s0 S) ∧ (¬ (S.1 36) = (nI 4) → narrow .boolean (.int s0) = .int s0))))
set_option maxHeartbeats 4000000 in
theorem b_tellsHonest_24 {G : zG} {E : rE} {S : rS} {N : Nat} {Q : Option Value → rS → Prop} {X : Int32 → Prop} (hG : zOK G) (hR : ∀ v, X v → Q (some (.int v)) S) {s0 : Int32} (ok : O_tellsHonest_24 N s0 S) (hx : X (F_tellsHonest_24 N s0 S)) : rX G E dX12_tellsHonest mX12_tellsHonest 24 [some (.ref E.1), none, none, none] [.int s0] S Q := by
  unfold O_tellsHonest_24 at ok
  unfold F_tellsHonest_24 at hx
  refine r_istore_1 dX12_tellsHonest_24 (by decide) rfl ?_
  refine r_aload_n dX12_tellsHonest_25 rfl rfl ?_
  refine r_getI 36 fX12_282 (by decide) (by decide) dX12_tellsHonest_26 ?_
  refine r_iconst (v := nI 1) dX12_tellsHonest_29 (by decide) ?_
  refine r_icmp_eq (tgt := 43) dX12_tellsHonest_30 (by decide) (fun c_30 => ?_) (fun c_30 => ?_)
  · have ok := ok.1 c_30
    have hx := xif_p c_30 hx
    exact rX.cutz (b_tellsHonest_43 hG hR ok hx) ⟨rfl, rfl, trivial⟩
  · have ok := ok.2 c_30
    have hx := xif_n c_30 hx
    refine r_aload_n dX12_tellsHonest_33 rfl rfl ?_
    refine r_getI 36 fX12_282 (by decide) (by decide) dX12_tellsHonest_34 ?_
    refine r_iconst (v := nI 4) dX12_tellsHonest_37 (by decide) ?_
    refine r_icmp_eq (tgt := 43) dX12_tellsHonest_38 (by decide) (fun c_38 => ?_) (fun c_38 => ?_)
    · have ok := ok.1 c_38
      have hx := xif_p c_38 hx
      exact rX.cutz (b_tellsHonest_43 hG hR ok hx) ⟨rfl, rfl, trivial⟩
    · have ok := ok.2 c_38
      have hx := xif_n c_38 hx
      refine r_iload_n dX12_tellsHonest_41 rfl rfl ?_
      exact r_ireturn rfl ok dX12_tellsHonest_42 (hR _ hx)
def F_tellsHonest_23 (N : Nat)  (S : rS) : Int32 := (F_tellsHonest_24 N (nI 0) S)
def O_tellsHonest_23 (N : Nat)  (S : rS) : Prop := O_tellsHonest_24 N (nI 0) S
set_option maxHeartbeats 4000000 in
theorem b_tellsHonest_23 {G : zG} {E : rE} {S : rS} {N : Nat} {Q : Option Value → rS → Prop} {X : Int32 → Prop} (hG : zOK G) (hR : ∀ v, X v → Q (some (.int v)) S) (ok : O_tellsHonest_23 N S) (hx : X (F_tellsHonest_23 N S)) : rX G E dX12_tellsHonest mX12_tellsHonest 23 [some (.ref E.1), none, none, none] [] S Q := by
  unfold O_tellsHonest_23 at ok
  unfold F_tellsHonest_23 at hx
  refine r_iconst (v := nI 0) dX12_tellsHonest_23 (by decide) ?_
  exact rX.cutz (b_tellsHonest_24 hG hR ok hx) ⟨rfl, trivial⟩
def F_tellsHonest_0 (N : Nat)  (S : rS) : Int32 := (if (S.1 37) = (-1) then (F_tellsHonest_23 N S) else (if (f_isHonest N S (S.1 37)) = 0 then (F_tellsHonest_23 N S) else (F_tellsHonest_24 N (nI 1) S)))
def O_tellsHonest_0 (N : Nat)  (S : rS) : Prop := (((S.1 37) = (-1) → O_tellsHonest_23 N S) ∧ (¬ (S.1 37) = (-1) → (o_isHonest N S (S.1 37)) ∧ (((f_isHonest N S (S.1 37)) = 0 → O_tellsHonest_23 N S) ∧ (¬ (f_isHonest N S (S.1 37)) = 0 → O_tellsHonest_24 N (nI 1) S))))
set_option maxHeartbeats 4000000 in
theorem b_tellsHonest_0 {G : zG} {E : rE} {S : rS} {N : Nat} {Q : Option Value → rS → Prop} {X : Int32 → Prop} (hG : zOK G) (hR : ∀ v, X v → Q (some (.int v)) S) (ok : O_tellsHonest_0 N S) (hx : X (F_tellsHonest_0 N S)) : rX G E dX12_tellsHonest mX12_tellsHonest 0 [some (.ref E.1), none, none, none] [] S Q := by
  unfold O_tellsHonest_0 at ok
  unfold F_tellsHonest_0 at hx
  refine r_aload_n dX12_tellsHonest_0 rfl rfl ?_
  refine r_getI 37 fX12_260 (by decide) (by decide) dX12_tellsHonest_1 ?_
  refine r_iconst (v := -1) dX12_tellsHonest_4 (by decide) ?_
  refine r_icmp_eq (tgt := 23) dX12_tellsHonest_5 (by decide) (fun c_5 => ?_) (fun c_5 => ?_)
  · have ok := ok.1 c_5
    have hx := xif_p c_5 hx
    exact rX.cutz (b_tellsHonest_23 hG hR ok hx) ⟨rfl, trivial⟩
  · have ok := ok.2 c_5
    have hx := xif_n c_5 hx
    refine r_aload_n dX12_tellsHonest_8 rfl rfl ?_
    refine r_aload_n dX12_tellsHonest_9 rfl rfl ?_
    refine r_getI 37 fX12_260 (by decide) (by decide) dX12_tellsHonest_10 ?_
    refine r_V1i (y' := mX12_isHonest) dX12_tellsHonest_13 lX12_155 kX12_isHonest ⟨by decide, by decide⟩ rfl (Nat.le_of_ble_eq_true rfl) (rc_X12_isHonest hG ok.1) (fun v_13 S_13 h_13 => ?_)
    obtain ⟨rfl, hS_13⟩ := h_13
    have hS_13 := hS_13.symm
    subst hS_13
    have ok := ok.2
    refine r_if_eq (tgt := 23) dX12_tellsHonest_16 (by decide) (fun c_16 => ?_) (fun c_16 => ?_)
    · have ok := ok.1 c_16
      have hx := xif_p c_16 hx
      exact rX.cutz (b_tellsHonest_23 hG hR ok hx) ⟨rfl, trivial⟩
    · have ok := ok.2 c_16
      have hx := xif_n c_16 hx
      refine r_iconst (v := nI 1) dX12_tellsHonest_19 (by decide) ?_
      refine r_goto (tgt := 24) dX12_tellsHonest_20 (by decide) ?_
      exact rX.cutz (b_tellsHonest_24 hG hR ok hx) ⟨rfl, trivial⟩
def f_tellsHonest (N : Nat) (S : rS) : Int32 := F_tellsHonest_0 N S
def o_tellsHonest (N : Nat) (S : rS) : Prop := O_tellsHonest_0 N S
set_option maxHeartbeats 4000000 in
theorem rc_X12_tellsHonest {G : zG} {E : rE} {S : rS} {N : Nat} (hG : zOK G) (ok : o_tellsHonest N S ) : rCi G E dX12_tellsHonest mX12_tellsHonest [.ref E.1] S (fun v S' => v = f_tellsHonest N S ∧ S' = S) := by
  refine rC.ofX rfl (Nat.le_of_ble_eq_true rfl) ?_
  show rX G E dX12_tellsHonest mX12_tellsHonest 0 [some (.ref E.1), none, none, none] [] S _
  exact rX.cutz (b_tellsHonest_0 (X := fun F => F = f_tellsHonest N S) hG (fun v h => ⟨v, rfl, h, rfl⟩) ok rfl) ⟨rfl, trivial⟩
/-! isUp -/
def F_isUp_22 (N : Nat) (s0 : Int32) (S : rS) : Int32 := s0
def O_isUp_22 (N : Nat) (s0 : Int32) (S : rS) : Prop := narrow .boolean (.int s0) = .int s0
set_option maxHeartbeats 4000000 in
theorem b_isUp_22 {G : zG} {E : rE} {S : rS} {N : Nat} {Q : Option Value → rS → Prop} {X : Int32 → Prop} (hG : zOK G) (hR : ∀ v, X v → Q (some (.int v)) S) {s0 : Int32} (ok : O_isUp_22 N s0 S) (hx : X (F_isUp_22 N s0 S)) : rX G E dX12_isUp mX12_isUp 22 [none, none] [.int s0] S Q := by
  unfold O_isUp_22 at ok
  unfold F_isUp_22 at hx
  exact r_ireturn rfl ok dX12_isUp_22 (hR _ hx)
def F_isUp_21 (N : Nat)  (S : rS) : Int32 := (F_isUp_22 N (nI 0) S)
def O_isUp_21 (N : Nat)  (S : rS) : Prop := O_isUp_22 N (nI 0) S
set_option maxHeartbeats 4000000 in
theorem b_isUp_21 {G : zG} {E : rE} {S : rS} {N : Nat} {Q : Option Value → rS → Prop} {X : Int32 → Prop} (hG : zOK G) (hR : ∀ v, X v → Q (some (.int v)) S) (ok : O_isUp_21 N S) (hx : X (F_isUp_21 N S)) : rX G E dX12_isUp mX12_isUp 21 [none, none] [] S Q := by
  unfold O_isUp_21 at ok
  unfold F_isUp_21 at hx
  refine r_iconst (v := nI 0) dX12_isUp_21 (by decide) ?_
  exact rX.cutz (b_isUp_22 hG hR ok hx) trivial
def F_isUp_0 (N : Nat) (x1 : Int32) (S : rS) : Int32 := (if (f_isHonest N S x1) = 0 then (F_isUp_21 N S) else (if (S.2.1 43 x1.toNatClampNeg) = 0 then (F_isUp_21 N S) else (F_isUp_22 N (nI 1) S)))
def O_isUp_0 (N : Nat) (x1 : Int32) (S : rS) : Prop := (o_isHonest N S x1) ∧ (((f_isHonest N S x1) = 0 → O_isUp_21 N S) ∧ (¬ (f_isHonest N S x1) = 0 → (vp_in x1 13) ∧ (((S.2.1 43 x1.toNatClampNeg) = 0 → O_isUp_21 N S) ∧ (¬ (S.2.1 43 x1.toNatClampNeg) = 0 → O_isUp_22 N (nI 1) S))))
set_option maxHeartbeats 4000000 in
theorem b_isUp_0 {G : zG} {E : rE} {S : rS} {N : Nat} {Q : Option Value → rS → Prop} {X : Int32 → Prop} (hG : zOK G) (hR : ∀ v, X v → Q (some (.int v)) S) {x1 : Int32} (ok : O_isUp_0 N x1 S) (hx : X (F_isUp_0 N x1 S)) : rX G E dX12_isUp mX12_isUp 0 [some (.ref E.1), some (.int x1)] [] S Q := by
  unfold O_isUp_0 at ok
  unfold F_isUp_0 at hx
  refine r_aload_n dX12_isUp_0 rfl rfl ?_
  refine r_iload_n dX12_isUp_1 rfl rfl ?_
  refine r_V1i (y' := mX12_isHonest) dX12_isUp_2 lX12_155 kX12_isHonest ⟨by decide, by decide⟩ rfl (Nat.le_of_ble_eq_true rfl) (rc_X12_isHonest hG ok.1) (fun v_2 S_2 h_2 => ?_)
  obtain ⟨rfl, hS_2⟩ := h_2
  have hS_2 := hS_2.symm
  subst hS_2
  have ok := ok.2
  refine r_if_eq (tgt := 21) dX12_isUp_5 (by decide) (fun c_5 => ?_) (fun c_5 => ?_)
  · have ok := ok.1 c_5
    have hx := xif_p c_5 hx
    exact rX.cutz (b_isUp_21 hG hR ok hx) trivial
  · have ok := ok.2 c_5
    have hx := xif_n c_5 hx
    refine r_aload_n dX12_isUp_8 rfl rfl ?_
    refine r_getA 43 fX12_305 (by decide) (by decide) dX12_isUp_9 ?_
    refine r_iload_n dX12_isUp_12 rfl rfl ?_
    refine r_zald (by decide) (by decide) dX12_isUp_13 ok.1 ?_
    have ok := ok.2
    refine r_if_eq (tgt := 21) dX12_isUp_14 (by decide) (fun c_14 => ?_) (fun c_14 => ?_)
    · have ok := ok.1 c_14
      have hx := xif_p c_14 hx
      exact rX.cutz (b_isUp_21 hG hR ok hx) trivial
    · have ok := ok.2 c_14
      have hx := xif_n c_14 hx
      refine r_iconst (v := nI 1) dX12_isUp_17 (by decide) ?_
      refine r_goto (tgt := 22) dX12_isUp_18 (by decide) ?_
      exact rX.cutz (b_isUp_22 hG hR ok hx) trivial
def f_isUp (N : Nat) (S : rS) (x1 : Int32) : Int32 := F_isUp_0 N x1 S
def o_isUp (N : Nat) (S : rS) (x1 : Int32) : Prop := O_isUp_0 N x1 S
set_option maxHeartbeats 4000000 in
theorem rc_X12_isUp {G : zG} {E : rE} {S : rS} {N : Nat} (hG : zOK G) {x1 : Int32} (ok : o_isUp N S x1) : rCi G E dX12_isUp mX12_isUp [.ref E.1, .int x1] S (fun v S' => v = f_isUp N S x1 ∧ S' = S) := by
  refine rC.ofX rfl (Nat.le_of_ble_eq_true rfl) ?_
  show rX G E dX12_isUp mX12_isUp 0 [some (.ref E.1), some (.int x1)] [] S _
  exact rX.cutz (b_isUp_0 (X := fun F => F = f_isUp N S x1) hG (fun v h => ⟨v, rfl, h, rfl⟩) ok rfl) ⟨rfl, rfl, trivial⟩
/-! unlock -/
def F_unlock_18 (N : Nat) (x1 : Int32) (S : rS) : rS := (rsA (rsA S 47 x1.toNatClampNeg (-1)) 48 x1.toNatClampNeg (-1))
def O_unlock_18 (N : Nat) (x1 : Int32) (S : rS) : Prop := (vp_in x1 13) ∧ (vp_in x1 13) ∧ True
set_option maxHeartbeats 4000000 in
theorem b_unlock_18 {G : zG} {E : rE} {S : rS} {N : Nat} {Q : Option Value → rS → Prop} {X : rS → Prop} (hG : zOK G) (hR : ∀ S', X S' → Q none S') {x1 : Int32} (ok : O_unlock_18 N x1 S) (hx : X (F_unlock_18 N x1 S)) : rX G E dX12_unlock mX12_unlock 18 [some (.ref E.1), some (.int x1)] [] S Q := by
  unfold O_unlock_18 at ok
  unfold F_unlock_18 at hx
  refine r_aload_n dX12_unlock_18 rfl rfl ?_
  refine r_getA 47 fX12_318 (by decide) (by decide) dX12_unlock_19 ?_
  refine r_iload_n dX12_unlock_22 rfl rfl ?_
  refine r_iconst (v := -1) dX12_unlock_23 (by decide) ?_
  refine r_iast hG (by decide) (by decide) dX12_unlock_24 ok.1 ?_
  have ok := ok.2
  refine r_aload_n dX12_unlock_25 rfl rfl ?_
  refine r_getA 48 fX12_321 (by decide) (by decide) dX12_unlock_26 ?_
  refine r_iload_n dX12_unlock_29 rfl rfl ?_
  refine r_iconst (v := -1) dX12_unlock_30 (by decide) ?_
  refine r_iast hG (by decide) (by decide) dX12_unlock_31 ok.1 ?_
  have ok := ok.2
  exact r_return rfl dX12_unlock_32 (hR _ hx)
def F_unlock_9 (N : Nat) (x1 : Int32) (S : rS) : rS := (F_unlock_18 N x1 (f_clear N S ((nI 1131) + x1)))
def O_unlock_9 (N : Nat) (x1 : Int32) (S : rS) : Prop := (o_clear N S ((nI 1131) + x1)) ∧ O_unlock_18 N x1 (f_clear N S ((nI 1131) + x1))
set_option maxHeartbeats 4000000 in
theorem b_unlock_9 {G : zG} {E : rE} {S : rS} {N : Nat} {Q : Option Value → rS → Prop} {X : rS → Prop} (hG : zOK G) (hR : ∀ S', X S' → Q none S') {x1 : Int32} (ok : O_unlock_9 N x1 S) (hx : X (F_unlock_9 N x1 S)) : rX G E dX12_unlock mX12_unlock 9 [some (.ref E.1), some (.int x1)] [] S Q := by
  unfold O_unlock_9 at ok
  unfold F_unlock_9 at hx
  refine r_aload_n dX12_unlock_9 rfl rfl ?_
  refine r_sipush (v := nI 1131) dX12_unlock_10 (by decide) ?_
  refine r_iload_n dX12_unlock_13 rfl rfl ?_
  refine r_iadd dX12_unlock_14 ?_
  refine r_V1v (y' := mX12_clear) dX12_unlock_15 lX12_463 kX12_clear ⟨by decide, by decide⟩ rfl (Nat.le_of_ble_eq_true rfl) (rc_X12_clear hG ok.1) (fun S_15 h_15 => ?_)
  subst h_15
  have ok := ok.2
  exact rX.cutz (b_unlock_18 hG hR ok hx) ⟨rfl, rfl, trivial⟩
def F_unlock_0 (N : Nat) (x1 : Int32) (S : rS) : rS := (F_unlock_9 N x1 (f_clear N S ((nI 1118) + x1)))
def O_unlock_0 (N : Nat) (x1 : Int32) (S : rS) : Prop := (o_clear N S ((nI 1118) + x1)) ∧ O_unlock_9 N x1 (f_clear N S ((nI 1118) + x1))
set_option maxHeartbeats 4000000 in
theorem b_unlock_0 {G : zG} {E : rE} {S : rS} {N : Nat} {Q : Option Value → rS → Prop} {X : rS → Prop} (hG : zOK G) (hR : ∀ S', X S' → Q none S') {x1 : Int32} (ok : O_unlock_0 N x1 S) (hx : X (F_unlock_0 N x1 S)) : rX G E dX12_unlock mX12_unlock 0 [some (.ref E.1), some (.int x1)] [] S Q := by
  unfold O_unlock_0 at ok
  unfold F_unlock_0 at hx
  refine r_aload_n dX12_unlock_0 rfl rfl ?_
  refine r_sipush (v := nI 1118) dX12_unlock_1 (by decide) ?_
  refine r_iload_n dX12_unlock_4 rfl rfl ?_
  refine r_iadd dX12_unlock_5 ?_
  refine r_V1v (y' := mX12_clear) dX12_unlock_6 lX12_463 kX12_clear ⟨by decide, by decide⟩ rfl (Nat.le_of_ble_eq_true rfl) (rc_X12_clear hG ok.1) (fun S_6 h_6 => ?_)
  subst h_6
  have ok := ok.2
  exact rX.cutz (b_unlock_9 hG hR ok hx) ⟨rfl, rfl, trivial⟩
def f_unlock (N : Nat) (S : rS) (x1 : Int32) : rS := F_unlock_0 N x1 S
def o_unlock (N : Nat) (S : rS) (x1 : Int32) : Prop := O_unlock_0 N x1 S
set_option maxHeartbeats 4000000 in
theorem rc_X12_unlock {G : zG} {E : rE} {S : rS} {N : Nat} (hG : zOK G) {x1 : Int32} (ok : o_unlock N S x1) : rCv G E dX12_unlock mX12_unlock [.ref E.1, .int x1] S (fun S' => S' = f_unlock N S x1) := by
  refine rC.ofX rfl (Nat.le_of_ble_eq_true rfl) ?_
  show rX G E dX12_unlock mX12_unlock 0 [some (.ref E.1), some (.int x1)] [] S _
  exact rX.cutz (b_unlock_0 (X := fun F => F = f_unlock N S x1) hG (fun S' h => ⟨rfl, h⟩) ok rfl) ⟨rfl, rfl, trivial⟩
/-! noTimers -/
def F_noTimers_24 (N : Nat)  (S : rS) : rS := S
def O_noTimers_24 (N : Nat)  (S : rS) : Prop := True
set_option maxHeartbeats 4000000 in
theorem b_noTimers_24 {G : zG} {E : rE} {S : rS} {N : Nat} {Q : Option Value → rS → Prop} {X : rS → Prop} (hG : zOK G) (hR : ∀ S', X S' → Q none S') (ok : O_noTimers_24 N S) (hx : X (F_noTimers_24 N S)) : rX G E dX12_noTimers mX12_noTimers 24 [none, none, none] [] S Q := by
  unfold O_noTimers_24 at ok
  unfold F_noTimers_24 at hx
  exact r_return rfl dX12_noTimers_24 (hR _ hx)
def B_noTimers_2 (N : Nat) (rec : Int32 → Int32 → rS → Nat × rS) (x1 : Int32) (x2 : Int32) (S : rS) : Nat × rS := (if (nI 3) ≤ x2 then (0, S) else (rec x1 (x2 + nI 1) (rsA S 52 (((nI 3) * x1) + x2).toNatClampNeg (-1))))
def OB_noTimers_2 (N : Nat) (rok : Int32 → Int32 → rS → Prop) (x1 : Int32) (x2 : Int32) (S : rS) : Prop := (((nI 3) ≤ x2 → True) ∧ (¬ (nI 3) ≤ x2 → (vp_in (((nI 3) * x1) + x2) 39) ∧ rok x1 (x2 + nI 1) (rsA S 52 (((nI 3) * x1) + x2).toNatClampNeg (-1))))
set_option maxHeartbeats 4000000 in
theorem bb_noTimers_2 {G : zG} {E : rE} {S : rS} {N : Nat} {Q : Option Value → rS → Prop} {X : Nat × rS → Prop} (hG : zOK G) (hX0 : ∀ (S' : rS), X (0, S') → rX G E dX12_noTimers mX12_noTimers 24 [none, none, none] [] S' Q) {rec : Int32 → Int32 → rS → Nat × rS} {rok : Int32 → Int32 → rS → Prop} (hrec : ∀ (x1 : Int32) (x2 : Int32) (S : rS), rok x1 x2 S → X (rec x1 x2 S) → rX G E dX12_noTimers mX12_noTimers 2 [some (.ref E.1), some (.int x1), some (.int x2)] [] S Q) {x1 : Int32} {x2 : Int32} (ok : OB_noTimers_2 N rok x1 x2 S) (hx : X (B_noTimers_2 N rec x1 x2 S)) : rX G E dX12_noTimers mX12_noTimers 2 [some (.ref E.1), some (.int x1), some (.int x2)] [] S Q := by
  unfold OB_noTimers_2 at ok
  unfold B_noTimers_2 at hx
  refine r_iload_n dX12_noTimers_2 rfl rfl ?_
  refine r_iconst (v := nI 3) dX12_noTimers_3 (by decide) ?_
  refine r_icmp_ge (tgt := 24) dX12_noTimers_4 (by decide) (fun c_4 => ?_) (fun c_4 => ?_)
  · have ok := ok.1 c_4
    have hx := xif_p c_4 hx
    exact rX.cutz (hX0 S hx) trivial
  · have ok := ok.2 c_4
    have hx := xif_n c_4 hx
    refine r_aload_n dX12_noTimers_7 rfl rfl ?_
    refine r_getA 52 fX12_333 (by decide) (by decide) dX12_noTimers_8 ?_
    refine r_iconst (v := nI 3) dX12_noTimers_11 (by decide) ?_
    refine r_iload_n dX12_noTimers_12 rfl rfl ?_
    refine r_imul dX12_noTimers_13 ?_
    refine r_iload_n dX12_noTimers_14 rfl rfl ?_
    refine r_iadd dX12_noTimers_15 ?_
    refine r_iconst (v := -1) dX12_noTimers_16 (by decide) ?_
    refine r_iast hG (by decide) (by decide) dX12_noTimers_17 ok.1 ?_
    have ok := ok.2
    refine r_iinc_2 (v := (x2 + nI 1)) dX12_noTimers_18 rfl (by first | rfl | (congr 1)) (by decide) rfl ?_
    refine r_goto (tgt := 2) dX12_noTimers_21 (by decide) ?_
    exact rX.cutz (hrec _ _ (rsA S 52 (((nI 3) * x1) + x2).toNatClampNeg (-1)) ok hx) ⟨rfl, rfl, rfl, trivial⟩
def L_noTimers_2 (N : Nat) : Nat → Int32 → Int32 → rS → Nat × rS
  | 0, x1, x2, S => (0, S)
  | n + 1, x1, x2, S => B_noTimers_2 N (L_noTimers_2 N n) x1 x2 S
def OL_noTimers_2 (N : Nat) : Nat → Int32 → Int32 → rS → Prop
  | 0, _, _, _ => False
  | n + 1, x1, x2, S => OB_noTimers_2 N (OL_noTimers_2 N n) x1 x2 S
set_option maxHeartbeats 4000000 in
theorem l_noTimers_2 {G : zG} {E : rE} {N : Nat} {Q : Option Value → rS → Prop} {X : Nat × rS → Prop} (hG : zOK G) (hX0 : ∀ (S' : rS), X (0, S') → rX G E dX12_noTimers mX12_noTimers 24 [none, none, none] [] S' Q) : ∀ (n : Nat) (x1 : Int32) (x2 : Int32) (S : rS), OL_noTimers_2 N n x1 x2 S → X (L_noTimers_2 N n x1 x2 S) → rX G E dX12_noTimers mX12_noTimers 2 [some (.ref E.1), some (.int x1), some (.int x2)] [] S Q := by
  intro n
  induction n with
  | zero => intro x1 x2 S ok; exact absurd ok id
  | succ n ih =>
    intro x1 x2 S ok hx
    exact bb_noTimers_2 hG hX0 (rec := L_noTimers_2 N n) (rok := OL_noTimers_2 N n) (fun x1 x2 S ok hx => ih x1 x2 S ok hx) ok hx
def A_noTimers_2 (N : Nat) (x1 : Int32) (x2 : Int32) (S : rS) (z : Nat × rS) : rS := (F_noTimers_24 N z.2)
def OA_noTimers_2 (N : Nat) (x1 : Int32) (x2 : Int32) (S : rS) (z : Nat × rS) : Prop := O_noTimers_24 N z.2
set_option maxHeartbeats 4000000 in
theorem c_noTimers_2 {G : zG} {E : rE} {S : rS} {N : Nat} {Q : Option Value → rS → Prop} {X : rS → Prop} (hG : zOK G) (hR : ∀ S', X S' → Q none S') {x1 : Int32} {x2 : Int32} (ok : OL_noTimers_2 N N x1 x2 S ∧ OA_noTimers_2 N x1 x2 S (L_noTimers_2 N N x1 x2 S)) (hx : X (A_noTimers_2 N x1 x2 S (L_noTimers_2 N N x1 x2 S))) : rX G E dX12_noTimers mX12_noTimers 2 [some (.ref E.1), some (.int x1), some (.int x2)] [] S Q := by
  refine l_noTimers_2 hG ?_ N x1 x2 S ok.1 (X := fun z => OA_noTimers_2 N x1 x2 S z ∧ X (A_noTimers_2 N x1 x2 S z)) ⟨ok.2, hx⟩
  · intro S' hz
    obtain ⟨ok, hx⟩ := hz
    unfold OA_noTimers_2 at ok
    unfold A_noTimers_2 at hx
    exact rX.cutz (b_noTimers_24 hG hR ok hx) trivial
def F_noTimers_0 (N : Nat) (x1 : Int32) (S : rS) : rS := (A_noTimers_2 N x1 (nI 0) S (L_noTimers_2 N N x1 (nI 0) S))
def O_noTimers_0 (N : Nat) (x1 : Int32) (S : rS) : Prop := (OL_noTimers_2 N N x1 (nI 0) S ∧ OA_noTimers_2 N x1 (nI 0) S (L_noTimers_2 N N x1 (nI 0) S))
set_option maxHeartbeats 4000000 in
theorem b_noTimers_0 {G : zG} {E : rE} {S : rS} {N : Nat} {Q : Option Value → rS → Prop} {X : rS → Prop} (hG : zOK G) (hR : ∀ S', X S' → Q none S') {x1 : Int32} (ok : O_noTimers_0 N x1 S) (hx : X (F_noTimers_0 N x1 S)) : rX G E dX12_noTimers mX12_noTimers 0 [some (.ref E.1), some (.int x1), none] [] S Q := by
  unfold O_noTimers_0 at ok
  unfold F_noTimers_0 at hx
  refine r_iconst (v := nI 0) dX12_noTimers_0 (by decide) ?_
  refine r_istore_2 dX12_noTimers_1 (by decide) rfl ?_
  exact rX.cutz (c_noTimers_2 hG hR ok hx) ⟨rfl, rfl, rfl, trivial⟩
def f_noTimers (N : Nat) (S : rS) (x1 : Int32) : rS := F_noTimers_0 N x1 S
def o_noTimers (N : Nat) (S : rS) (x1 : Int32) : Prop := O_noTimers_0 N x1 S
set_option maxHeartbeats 4000000 in
theorem rc_X12_noTimers {G : zG} {E : rE} {S : rS} {N : Nat} (hG : zOK G) {x1 : Int32} (ok : o_noTimers N S x1) : rCv G E dX12_noTimers mX12_noTimers [.ref E.1, .int x1] S (fun S' => S' = f_noTimers N S x1) := by
  refine rC.ofX rfl (Nat.le_of_ble_eq_true rfl) ?_
  show rX G E dX12_noTimers mX12_noTimers 0 [some (.ref E.1), some (.int x1), none] [] S _
  exact rX.cutz (b_noTimers_0 (X := fun F => F = f_noTimers N S x1) hG (fun S' h => ⟨rfl, h⟩) ok rfl) ⟨rfl, rfl, trivial⟩
/-! heldAt -/
def F_heldAt_0 (N : Nat) (x0 : Int32) (x1 : Int32) (x2 : Int32) (S : rS) : Int32 := ((((nI 32) * x0) + ((nI 16) * (x1 - x1 / (nI 2) * (nI 2)))) + x2)
def O_heldAt_0 (N : Nat) (x0 : Int32) (x1 : Int32) (x2 : Int32) (S : rS) : Prop := True
set_option maxHeartbeats 4000000 in
theorem b_heldAt_0 {G : zG} {E : rE} {S : rS} {N : Nat} {Q : Option Value → rS → Prop} {X : Int32 → Prop} (hG : zOK G) (hR : ∀ v, X v → Q (some (.int v)) S) {x0 : Int32} {x1 : Int32} {x2 : Int32} (ok : O_heldAt_0 N x0 x1 x2 S) (hx : X (F_heldAt_0 N x0 x1 x2 S)) : rX G E dX12_heldAt mX12_heldAt 0 [some (.int x0), some (.int x1), some (.int x2)] [] S Q := by
  unfold O_heldAt_0 at ok
  unfold F_heldAt_0 at hx
  refine r_bipush (v := nI 32) dX12_heldAt_0 (by decide) ?_
  refine r_iload_n dX12_heldAt_2 rfl rfl ?_
  refine r_imul dX12_heldAt_3 ?_
  refine r_bipush (v := nI 16) dX12_heldAt_4 (by decide) ?_
  refine r_iload_n dX12_heldAt_6 rfl rfl ?_
  refine r_iconst (v := nI 2) dX12_heldAt_7 (by decide) ?_
  refine r_irem dX12_heldAt_8 (by decide) ?_
  refine r_imul dX12_heldAt_9 ?_
  refine r_iadd dX12_heldAt_10 ?_
  refine r_iload_n dX12_heldAt_11 rfl rfl ?_
  refine r_iadd dX12_heldAt_12 ?_
  exact r_ireturn rfl rfl dX12_heldAt_13 (hR _ hx)
def f_heldAt (N : Nat) (S : rS) (x0 : Int32) (x1 : Int32) (x2 : Int32) : Int32 := F_heldAt_0 N x0 x1 x2 S
def o_heldAt (N : Nat) (S : rS) (x0 : Int32) (x1 : Int32) (x2 : Int32) : Prop := O_heldAt_0 N x0 x1 x2 S
set_option maxHeartbeats 4000000 in
theorem rc_X12_heldAt {G : zG} {E : rE} {S : rS} {N : Nat} (hG : zOK G) {x0 : Int32} {x1 : Int32} {x2 : Int32} (ok : o_heldAt N S x0 x1 x2) : rCi G E dX12_heldAt mX12_heldAt [.int x0, .int x1, .int x2] S (fun v S' => v = f_heldAt N S x0 x1 x2 ∧ S' = S) := by
  refine rC.ofX rfl (Nat.le_of_ble_eq_true rfl) ?_
  show rX G E dX12_heldAt mX12_heldAt 0 [some (.int x0), some (.int x1), some (.int x2)] [] S _
  exact rX.cutz (b_heldAt_0 (X := fun F => F = f_heldAt N S x0 x1 x2) hG (fun v h => ⟨v, rfl, h, rfl⟩) ok rfl) ⟨rfl, rfl, rfl, trivial⟩
/-! voteAt -/
def F_voteAt_23 (N : Nat) (s0 : Int32) (s1 : Int32) (S : rS) : Int32 := (s0 + s1)
def O_voteAt_23 (N : Nat) (s0 : Int32) (s1 : Int32) (S : rS) : Prop := True
set_option maxHeartbeats 4000000 in
theorem b_voteAt_23 {G : zG} {E : rE} {S : rS} {N : Nat} {Q : Option Value → rS → Prop} {X : Int32 → Prop} (hG : zOK G) (hR : ∀ v, X v → Q (some (.int v)) S) {s0 : Int32} {s1 : Int32} (ok : O_voteAt_23 N s0 s1 S) (hx : X (F_voteAt_23 N s0 s1 S)) : rX G E dX12_voteAt mX12_voteAt 23 [none, none, none, none, none] [.int s1, .int s0] S Q := by
  unfold O_voteAt_23 at ok
  unfold F_voteAt_23 at hx
  refine r_iadd dX12_voteAt_23 ?_
  exact r_ireturn rfl rfl dX12_voteAt_24 (hR _ hx)
def F_voteAt_0 (N : Nat) (x0 : Int32) (x1 : Int32) (x2 : Int32) (x3 : Int32) (x4 : Int32) (S : rS) : Int32 := (if x0 = 0 then (F_voteAt_23 N (((nI 13) * (f_heldAt N S x1 x2 x3)) + x4) (nI 0) S) else (F_voteAt_23 N (((nI 13) * (f_heldAt N S x1 x2 x3)) + x4) (nI 5408) S))
def O_voteAt_0 (N : Nat) (x0 : Int32) (x1 : Int32) (x2 : Int32) (x3 : Int32) (x4 : Int32) (S : rS) : Prop := (o_heldAt N S x1 x2 x3) ∧ ((x0 = 0 → O_voteAt_23 N (((nI 13) * (f_heldAt N S x1 x2 x3)) + x4) (nI 0) S) ∧ (¬ x0 = 0 → O_voteAt_23 N (((nI 13) * (f_heldAt N S x1 x2 x3)) + x4) (nI 5408) S))
set_option maxHeartbeats 4000000 in
theorem b_voteAt_0 {G : zG} {E : rE} {S : rS} {N : Nat} {Q : Option Value → rS → Prop} {X : Int32 → Prop} (hG : zOK G) (hR : ∀ v, X v → Q (some (.int v)) S) {x0 : Int32} {x1 : Int32} {x2 : Int32} {x3 : Int32} {x4 : Int32} (ok : O_voteAt_0 N x0 x1 x2 x3 x4 S) (hx : X (F_voteAt_0 N x0 x1 x2 x3 x4 S)) : rX G E dX12_voteAt mX12_voteAt 0 [some (.int x0), some (.int x1), some (.int x2), some (.int x3), some (.int x4)] [] S Q := by
  unfold O_voteAt_0 at ok
  unfold F_voteAt_0 at hx
  refine r_bipush (v := nI 13) dX12_voteAt_0 (by decide) ?_
  refine r_iload_n dX12_voteAt_2 rfl rfl ?_
  refine r_iload_n dX12_voteAt_3 rfl rfl ?_
  refine r_iload_n dX12_voteAt_4 rfl rfl ?_
  refine r_S3i (y' := mX12_heldAt) dX12_voteAt_5 lX12_466 kX12_heldAt ⟨by decide, by decide⟩ (Nat.le_of_ble_eq_true rfl) (rc_X12_heldAt hG ok.1) (fun v_5 S_5 h_5 => ?_)
  obtain ⟨rfl, hS_5⟩ := h_5
  have hS_5 := hS_5.symm
  subst hS_5
  have ok := ok.2
  refine r_imul dX12_voteAt_8 ?_
  refine r_iload dX12_voteAt_9 rfl ?_
  refine r_iadd dX12_voteAt_11 ?_
  refine r_iload_n dX12_voteAt_12 rfl rfl ?_
  refine r_if_eq (tgt := 22) dX12_voteAt_13 (by decide) (fun c_13 => ?_) (fun c_13 => ?_)
  · have ok := ok.1 c_13
    have hx := xif_p c_13 hx
    refine r_iconst (v := nI 0) dX12_voteAt_22 (by decide) ?_
    exact rX.cutz (b_voteAt_23 hG hR ok hx) trivial
  · have ok := ok.2 c_13
    have hx := xif_n c_13 hx
    refine r_sipush (v := nI 5408) dX12_voteAt_16 (by decide) ?_
    refine r_goto (tgt := 23) dX12_voteAt_19 (by decide) ?_
    exact rX.cutz (b_voteAt_23 hG hR ok hx) trivial
def f_voteAt (N : Nat) (S : rS) (x0 : Int32) (x1 : Int32) (x2 : Int32) (x3 : Int32) (x4 : Int32) : Int32 := F_voteAt_0 N x0 x1 x2 x3 x4 S
def o_voteAt (N : Nat) (S : rS) (x0 : Int32) (x1 : Int32) (x2 : Int32) (x3 : Int32) (x4 : Int32) : Prop := O_voteAt_0 N x0 x1 x2 x3 x4 S
set_option maxHeartbeats 4000000 in
theorem rc_X12_voteAt {G : zG} {E : rE} {S : rS} {N : Nat} (hG : zOK G) {x0 : Int32} {x1 : Int32} {x2 : Int32} {x3 : Int32} {x4 : Int32} (ok : o_voteAt N S x0 x1 x2 x3 x4) : rCi G E dX12_voteAt mX12_voteAt [.int x0, .int x1, .int x2, .int x3, .int x4] S (fun v S' => v = f_voteAt N S x0 x1 x2 x3 x4 ∧ S' = S) := by
  refine rC.ofX rfl (Nat.le_of_ble_eq_true rfl) ?_
  show rX G E dX12_voteAt mX12_voteAt 0 [some (.int x0), some (.int x1), some (.int x2), some (.int x3), some (.int x4)] [] S _
  exact rX.cutz (b_voteAt_0 (X := fun F => F = f_voteAt N S x0 x1 x2 x3 x4) hG (fun v h => ⟨v, rfl, h, rfl⟩) ok rfl) ⟨rfl, rfl, rfl, rfl, rfl, trivial⟩

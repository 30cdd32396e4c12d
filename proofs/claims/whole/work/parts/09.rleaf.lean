/-! primes -/
theorem dX12_primes_0 : decode cX12_primes 0 = .ok (.iconst 0, 1) := by decide +kernel
theorem dX12_primes_1 : decode cX12_primes 1 = .ok (.istore_n 1, 1) := by decide +kernel
theorem dX12_primes_2 : decode cX12_primes 2 = .ok (.iconst 2, 1) := by decide +kernel
theorem dX12_primes_3 : decode cX12_primes 3 = .ok (.istore_n 2, 1) := by decide +kernel
theorem dX12_primes_4 : decode cX12_primes 4 = .ok (.iload_n 1, 1) := by decide +kernel
theorem dX12_primes_5 : decode cX12_primes 5 = .ok (.bipush 64, 2) := by decide +kernel
theorem dX12_primes_7 : decode cX12_primes 7 = .ok (.if_icmp .ge 85, 3) := by decide +kernel
theorem dX12_primes_10 : decode cX12_primes 10 = .ok (.iconst 1, 1) := by decide +kernel
theorem dX12_primes_11 : decode cX12_primes 11 = .ok (.istore_n 3, 1) := by decide +kernel
theorem dX12_primes_12 : decode cX12_primes 12 = .ok (.iconst 2, 1) := by decide +kernel
theorem dX12_primes_13 : decode cX12_primes 13 = .ok (.istore 4, 2) := by decide +kernel
theorem dX12_primes_15 : decode cX12_primes 15 = .ok (.iload 4, 2) := by decide +kernel
theorem dX12_primes_17 : decode cX12_primes 17 = .ok (.iload 4, 2) := by decide +kernel
theorem dX12_primes_19 : decode cX12_primes 19 = .ok (.imul, 1) := by decide +kernel
theorem dX12_primes_20 : decode cX12_primes 20 = .ok (.iload_n 2, 1) := by decide +kernel
theorem dX12_primes_21 : decode cX12_primes 21 = .ok (.if_icmp .gt 26, 3) := by decide +kernel
theorem dX12_primes_24 : decode cX12_primes 24 = .ok (.iload_n 3, 1) := by decide +kernel
theorem dX12_primes_25 : decode cX12_primes 25 = .ok (.ifCond .eq 14, 3) := by decide +kernel
theorem dX12_primes_28 : decode cX12_primes 28 = .ok (.iload_n 2, 1) := by decide +kernel
theorem dX12_primes_29 : decode cX12_primes 29 = .ok (.iload 4, 2) := by decide +kernel
theorem dX12_primes_31 : decode cX12_primes 31 = .ok (.irem, 1) := by decide +kernel
theorem dX12_primes_32 : decode cX12_primes 32 = .ok (.ifCond .eq 7, 3) := by decide +kernel
theorem dX12_primes_35 : decode cX12_primes 35 = .ok (.iconst 1, 1) := by decide +kernel
theorem dX12_primes_36 : decode cX12_primes 36 = .ok (.goto 4, 3) := by decide +kernel
theorem dX12_primes_39 : decode cX12_primes 39 = .ok (.iconst 0, 1) := by decide +kernel
theorem dX12_primes_40 : decode cX12_primes 40 = .ok (.istore_n 3, 1) := by decide +kernel
theorem dX12_primes_41 : decode cX12_primes 41 = .ok (.iinc 4 1, 3) := by decide +kernel
theorem dX12_primes_44 : decode cX12_primes 44 = .ok (.goto (-29), 3) := by decide +kernel
theorem dX12_primes_47 : decode cX12_primes 47 = .ok (.iload_n 3, 1) := by decide +kernel
theorem dX12_primes_48 : decode cX12_primes 48 = .ok (.ifCond .ne 6, 3) := by decide +kernel
theorem dX12_primes_51 : decode cX12_primes 51 = .ok (.goto 35, 3) := by decide +kernel
theorem dX12_primes_54 : decode cX12_primes 54 = .ok (.iload_n 1, 1) := by decide +kernel
theorem dX12_primes_55 : decode cX12_primes 55 = .ok (.bipush 8, 2) := by decide +kernel
theorem dX12_primes_57 : decode cX12_primes 57 = .ok (.if_icmp .ge 14, 3) := by decide +kernel
theorem dX12_primes_60 : decode cX12_primes 60 = .ok (.aload_n 0, 1) := by decide +kernel
theorem dX12_primes_61 : decode cX12_primes 61 = .ok (.getfield 1, 3) := by decide +kernel
theorem dX12_primes_64 : decode cX12_primes 64 = .ok (.iload_n 1, 1) := by decide +kernel
theorem dX12_primes_65 : decode cX12_primes 65 = .ok (.iload_n 2, 1) := by decide +kernel
theorem dX12_primes_66 : decode cX12_primes 66 = .ok (.iconst 2, 1) := by decide +kernel
theorem dX12_primes_67 : decode cX12_primes 67 = .ok (.invokestatic 7, 3) := by decide +kernel
theorem dX12_primes_70 : decode cX12_primes 70 = .ok (.iastore, 1) := by decide +kernel
theorem dX12_primes_71 : decode cX12_primes 71 = .ok (.aload_n 0, 1) := by decide +kernel
theorem dX12_primes_72 : decode cX12_primes 72 = .ok (.getfield 11, 3) := by decide +kernel
theorem dX12_primes_75 : decode cX12_primes 75 = .ok (.iload_n 1, 1) := by decide +kernel
theorem dX12_primes_76 : decode cX12_primes 76 = .ok (.iload_n 2, 1) := by decide +kernel
theorem dX12_primes_77 : decode cX12_primes 77 = .ok (.iconst 3, 1) := by decide +kernel
theorem dX12_primes_78 : decode cX12_primes 78 = .ok (.invokestatic 7, 3) := by decide +kernel
theorem dX12_primes_81 : decode cX12_primes 81 = .ok (.iastore, 1) := by decide +kernel
theorem dX12_primes_82 : decode cX12_primes 82 = .ok (.iload_n 1, 1) := by decide +kernel
theorem dX12_primes_83 : decode cX12_primes 83 = .ok (.iconst 1, 1) := by decide +kernel
theorem dX12_primes_84 : decode cX12_primes 84 = .ok (.iadd, 1) := by decide +kernel
theorem dX12_primes_85 : decode cX12_primes 85 = .ok (.istore_n 1, 1) := by decide +kernel
theorem dX12_primes_86 : decode cX12_primes 86 = .ok (.iinc 2 1, 3) := by decide +kernel
theorem dX12_primes_89 : decode cX12_primes 89 = .ok (.goto (-85), 3) := by decide +kernel
theorem dX12_primes_92 : decode cX12_primes 92 = .ok (.return_, 1) := by decide +kernel
def F_primes_92 (N : Nat)  (S : rS) : rS := S
def O_primes_92 (N : Nat)  (S : rS) : Prop := True
set_option maxHeartbeats 4000000 in
theorem b_primes_92 {G : zG} {E : rE} {S : rS} {N : Nat} {Q : Option Value → rS → Prop} {X : rS → Prop} (hG : zOK G) (hR : ∀ S', X S' → Q none S') (ok : O_primes_92 N S) (hx : X (F_primes_92 N S)) : rX G E dX12_primes mX12_primes 92 [none, none, none, none, none] [] S Q := by
  unfold O_primes_92 at ok
  unfold F_primes_92 at hx
  exact r_return rfl dX12_primes_92 (hR _ hx)
def F_primes_86 (N : Nat) (rec : Int32 → Int32 → rS → Nat × rS) (x1 : Int32) (x2 : Int32) (S : rS) : Nat × rS := (rec x1 (x2 + nI 1) S)
def O_primes_86 (N : Nat) (rok : Int32 → Int32 → rS → Prop) (x1 : Int32) (x2 : Int32) (S : rS) : Prop := rok x1 (x2 + nI 1) S
set_option maxHeartbeats 4000000 in
theorem b_primes_86 {G : zG} {E : rE} {S : rS} {N : Nat} {Q : Option Value → rS → Prop} {X : Nat × rS → Prop} (hG : zOK G) (hX0 : ∀ (S' : rS), X (0, S') → rX G E dX12_primes mX12_primes 92 [none, none, none, none, none] [] S' Q) {rec : Int32 → Int32 → rS → Nat × rS} {rok : Int32 → Int32 → rS → Prop} (hrec : ∀ (x1 : Int32) (x2 : Int32) (S : rS), rok x1 x2 S → X (rec x1 x2 S) → rX G E dX12_primes mX12_primes 4 [some (.ref E.1), some (.int x1), some (.int x2), none, none] [] S Q) {x1 : Int32} {x2 : Int32} (ok : O_primes_86 N rok x1 x2 S) (hx : X (F_primes_86 N rec x1 x2 S)) : rX G E dX12_primes mX12_primes 86 [some (.ref E.1), some (.int x1), some (.int x2), none, none] [] S Q := by
  unfold O_primes_86 at ok
  unfold F_primes_86 at hx
  refine r_iinc_2 (v := (x2 + nI 1)) dX12_primes_86 rfl (by first | rfl | (congr 1)) (by decide) rfl ?_
  refine r_goto (tgt := 4) dX12_primes_89 (by decide) ?_
  exact rX.cutz (hrec _ _ S ok hx) ⟨rfl, rfl, rfl, trivial⟩
def F_primes_71 (N : Nat) (rec : Int32 → Int32 → rS → Nat × rS) (x1 : Int32) (x2 : Int32) (S : rS) : Nat × rS := (F_primes_86 N rec (x1 + (nI 1)) x2 (rsA S 10 x1.toNatClampNeg (f_root N S x2 (nI 3))))
def O_primes_71 (N : Nat) (rok : Int32 → Int32 → rS → Prop) (x1 : Int32) (x2 : Int32) (S : rS) : Prop := (o_root N S x2 (nI 3)) ∧ (vp_in x1 64) ∧ O_primes_86 N rok (x1 + (nI 1)) x2 (rsA S 10 x1.toNatClampNeg (f_root N S x2 (nI 3)))
set_option maxHeartbeats 4000000 in
theorem b_primes_71 {G : zG} {E : rE} {S : rS} {N : Nat} {Q : Option Value → rS → Prop} {X : Nat × rS → Prop} (hG : zOK G) (hX0 : ∀ (S' : rS), X (0, S') → rX G E dX12_primes mX12_primes 92 [none, none, none, none, none] [] S' Q) {rec : Int32 → Int32 → rS → Nat × rS} {rok : Int32 → Int32 → rS → Prop} (hrec : ∀ (x1 : Int32) (x2 : Int32) (S : rS), rok x1 x2 S → X (rec x1 x2 S) → rX G E dX12_primes mX12_primes 4 [some (.ref E.1), some (.int x1), some (.int x2), none, none] [] S Q) {x1 : Int32} {x2 : Int32} (ok : O_primes_71 N rok x1 x2 S) (hx : X (F_primes_71 N rec x1 x2 S)) : rX G E dX12_primes mX12_primes 71 [some (.ref E.1), some (.int x1), some (.int x2), none, none] [] S Q := by
  unfold O_primes_71 at ok
  unfold F_primes_71 at hx
  refine r_aload_n dX12_primes_71 rfl rfl ?_
  refine r_getA 10 fX12_11 (by decide) (by decide) dX12_primes_72 ?_
  refine r_iload_n dX12_primes_75 rfl rfl ?_
  refine r_iload_n dX12_primes_76 rfl rfl ?_
  refine r_iconst (v := nI 3) dX12_primes_77 (by decide) ?_
  refine r_S2i (y' := mX12_root) dX12_primes_78 lX12_7 kX12_root ⟨by decide, by decide⟩ (Nat.le_of_ble_eq_true rfl) (rc_X12_root hG ok.1) (fun v_78 S_78 h_78 => ?_)
  obtain ⟨rfl, rfl⟩ := h_78
  have ok := ok.2
  refine r_iast hG (by decide) (by decide) dX12_primes_81 ok.1 ?_
  have ok := ok.2
  refine r_iload_n dX12_primes_82 rfl rfl ?_
  refine r_iconst (v := nI 1) dX12_primes_83 (by decide) ?_
  refine r_iadd dX12_primes_84 ?_
  refine r_istore_1 dX12_primes_85 (by decide) rfl ?_
  exact rX.cutz (b_primes_86 hG hX0 hrec ok hx) ⟨rfl, rfl, rfl, trivial⟩
def F_primes_47 (N : Nat) (rec : Int32 → Int32 → rS → Nat × rS) (x1 : Int32) (x2 : Int32) (x3 : Int32) (S : rS) : Nat × rS := (if x3 = 0 then (F_primes_86 N rec x1 x2 S) else (if (nI 8) ≤ x1 then (F_primes_71 N rec x1 x2 S) else (F_primes_71 N rec x1 x2 (rsA S 11 x1.toNatClampNeg (f_root N S x2 (nI 2))))))
def O_primes_47 (N : Nat) (rok : Int32 → Int32 → rS → Prop) (x1 : Int32) (x2 : Int32) (x3 : Int32) (S : rS) : Prop := ((x3 = 0 → O_primes_86 N rok x1 x2 S) ∧ (¬ x3 = 0 → (((nI 8) ≤ x1 → O_primes_71 N rok x1 x2 S) ∧ (¬ (nI 8) ≤ x1 → (o_root N S x2 (nI 2)) ∧ (vp_in x1 8) ∧ O_primes_71 N rok x1 x2 (rsA S 11 x1.toNatClampNeg (f_root N S x2 (nI 2)))))))
set_option maxHeartbeats 4000000 in
theorem b_primes_47 {G : zG} {E : rE} {S : rS} {N : Nat} {Q : Option Value → rS → Prop} {X : Nat × rS → Prop} (hG : zOK G) (hX0 : ∀ (S' : rS), X (0, S') → rX G E dX12_primes mX12_primes 92 [none, none, none, none, none] [] S' Q) {rec : Int32 → Int32 → rS → Nat × rS} {rok : Int32 → Int32 → rS → Prop} (hrec : ∀ (x1 : Int32) (x2 : Int32) (S : rS), rok x1 x2 S → X (rec x1 x2 S) → rX G E dX12_primes mX12_primes 4 [some (.ref E.1), some (.int x1), some (.int x2), none, none] [] S Q) {x1 : Int32} {x2 : Int32} {x3 : Int32} (ok : O_primes_47 N rok x1 x2 x3 S) (hx : X (F_primes_47 N rec x1 x2 x3 S)) : rX G E dX12_primes mX12_primes 47 [some (.ref E.1), some (.int x1), some (.int x2), some (.int x3), none] [] S Q := by
  unfold O_primes_47 at ok
  unfold F_primes_47 at hx
  refine r_iload_n dX12_primes_47 rfl rfl ?_
  refine r_if_ne (tgt := 54) dX12_primes_48 (by decide) (fun c_48 => ?_) (fun c_48 => ?_)
  · have ok := ok.2 c_48
    have hx := xif_n c_48 hx
    refine r_iload_n dX12_primes_54 rfl rfl ?_
    refine r_bipush (v := nI 8) dX12_primes_55 (by decide) ?_
    refine r_icmp_ge (tgt := 71) dX12_primes_57 (by decide) (fun c_57 => ?_) (fun c_57 => ?_)
    · have ok := ok.1 c_57
      have hx := xif_p c_57 hx
      exact rX.cutz (b_primes_71 hG hX0 hrec ok hx) ⟨rfl, rfl, rfl, trivial⟩
    · have ok := ok.2 c_57
      have hx := xif_n c_57 hx
      refine r_aload_n dX12_primes_60 rfl rfl ?_
      refine r_getA 11 fX12_1 (by decide) (by decide) dX12_primes_61 ?_
      refine r_iload_n dX12_primes_64 rfl rfl ?_
      refine r_iload_n dX12_primes_65 rfl rfl ?_
      refine r_iconst (v := nI 2) dX12_primes_66 (by decide) ?_
      refine r_S2i (y' := mX12_root) dX12_primes_67 lX12_7 kX12_root ⟨by decide, by decide⟩ (Nat.le_of_ble_eq_true rfl) (rc_X12_root hG ok.1) (fun v_67 S_67 h_67 => ?_)
      obtain ⟨rfl, rfl⟩ := h_67
      have ok := ok.2
      refine r_iast hG (by decide) (by decide) dX12_primes_70 ok.1 ?_
      have ok := ok.2
      exact rX.cutz (b_primes_71 hG hX0 hrec ok hx) ⟨rfl, rfl, rfl, trivial⟩
  · have ok := ok.1 c_48
    have hx := xif_p c_48 hx
    refine r_goto (tgt := 86) dX12_primes_51 (by decide) ?_
    exact rX.cutz (b_primes_86 hG hX0 hrec ok hx) ⟨rfl, rfl, rfl, trivial⟩
def F_primes_40 (N : Nat) (rec : Int32 → Int32 → Int32 → Int32 → rS → Nat × Int32 × Int32 × Int32 × rS) (x1 : Int32) (x2 : Int32) (x4 : Int32) (s0 : Int32) (S : rS) : Nat × Int32 × Int32 × Int32 × rS := (rec x1 x2 s0 (x4 + nI 1) S)
def O_primes_40 (N : Nat) (rok : Int32 → Int32 → Int32 → Int32 → rS → Prop) (x1 : Int32) (x2 : Int32) (x4 : Int32) (s0 : Int32) (S : rS) : Prop := rok x1 x2 s0 (x4 + nI 1) S
set_option maxHeartbeats 4000000 in
theorem b_primes_40 {G : zG} {E : rE} {S : rS} {N : Nat} {Q : Option Value → rS → Prop} {X : Nat × Int32 × Int32 × Int32 × rS → Prop} (hG : zOK G) (hX0 : ∀ (x1 : Int32) (x2 : Int32) (x3 : Int32) (S' : rS), X (0, x1, x2, x3, S') → rX G E dX12_primes mX12_primes 47 [some (.ref E.1), some (.int x1), some (.int x2), some (.int x3), none] [] S' Q) {rec : Int32 → Int32 → Int32 → Int32 → rS → Nat × Int32 × Int32 × Int32 × rS} {rok : Int32 → Int32 → Int32 → Int32 → rS → Prop} (hrec : ∀ (x1 : Int32) (x2 : Int32) (x3 : Int32) (x4 : Int32) (S : rS), rok x1 x2 x3 x4 S → X (rec x1 x2 x3 x4 S) → rX G E dX12_primes mX12_primes 15 [some (.ref E.1), some (.int x1), some (.int x2), some (.int x3), some (.int x4)] [] S Q) {x1 : Int32} {x2 : Int32} {x4 : Int32} {s0 : Int32} (ok : O_primes_40 N rok x1 x2 x4 s0 S) (hx : X (F_primes_40 N rec x1 x2 x4 s0 S)) : rX G E dX12_primes mX12_primes 40 [some (.ref E.1), some (.int x1), some (.int x2), none, some (.int x4)] [.int s0] S Q := by
  unfold O_primes_40 at ok
  unfold F_primes_40 at hx
  refine r_istore_3 dX12_primes_40 (by decide) rfl ?_
  refine r_iinc_4 (v := (x4 + nI 1)) dX12_primes_41 rfl (by first | rfl | (congr 1)) (by decide) rfl ?_
  refine r_goto (tgt := 15) dX12_primes_44 (by decide) ?_
  exact rX.cutz (hrec _ _ _ _ S ok hx) ⟨rfl, rfl, rfl, rfl, rfl, trivial⟩
def F_primes_39 (N : Nat) (rec : Int32 → Int32 → Int32 → Int32 → rS → Nat × Int32 × Int32 × Int32 × rS) (x1 : Int32) (x2 : Int32) (x4 : Int32) (S : rS) : Nat × Int32 × Int32 × Int32 × rS := (F_primes_40 N rec x1 x2 x4 (nI 0) S)
def O_primes_39 (N : Nat) (rok : Int32 → Int32 → Int32 → Int32 → rS → Prop) (x1 : Int32) (x2 : Int32) (x4 : Int32) (S : rS) : Prop := O_primes_40 N rok x1 x2 x4 (nI 0) S
set_option maxHeartbeats 4000000 in
theorem b_primes_39 {G : zG} {E : rE} {S : rS} {N : Nat} {Q : Option Value → rS → Prop} {X : Nat × Int32 × Int32 × Int32 × rS → Prop} (hG : zOK G) (hX0 : ∀ (x1 : Int32) (x2 : Int32) (x3 : Int32) (S' : rS), X (0, x1, x2, x3, S') → rX G E dX12_primes mX12_primes 47 [some (.ref E.1), some (.int x1), some (.int x2), some (.int x3), none] [] S' Q) {rec : Int32 → Int32 → Int32 → Int32 → rS → Nat × Int32 × Int32 × Int32 × rS} {rok : Int32 → Int32 → Int32 → Int32 → rS → Prop} (hrec : ∀ (x1 : Int32) (x2 : Int32) (x3 : Int32) (x4 : Int32) (S : rS), rok x1 x2 x3 x4 S → X (rec x1 x2 x3 x4 S) → rX G E dX12_primes mX12_primes 15 [some (.ref E.1), some (.int x1), some (.int x2), some (.int x3), some (.int x4)] [] S Q) {x1 : Int32} {x2 : Int32} {x4 : Int32} (ok : O_primes_39 N rok x1 x2 x4 S) (hx : X (F_primes_39 N rec x1 x2 x4 S)) : rX G E dX12_primes mX12_primes 39 [some (.ref E.1), some (.int x1), some (.int x2), none, some (.int x4)] [] S Q := by
  unfold O_primes_39 at ok
  unfold F_primes_39 at hx
  refine r_iconst (v := nI 0) dX12_primes_39 (by decide) ?_
  exact rX.cutz (b_primes_40 hG hX0 hrec ok hx) ⟨rfl, rfl, rfl, rfl, trivial⟩
def B_primes_15 (N : Nat) (rec : Int32 → Int32 → Int32 → Int32 → rS → Nat × Int32 × Int32 × Int32 × rS) (x1 : Int32) (x2 : Int32) (x3 : Int32) (x4 : Int32) (S : rS) : Nat × Int32 × Int32 × Int32 × rS := (if x2 < (x4 * x4) then (0, x1, x2, x3, S) else (if x3 = 0 then (F_primes_39 N rec x1 x2 x4 S) else (if (x2 - x2 / x4 * x4) = 0 then (F_primes_39 N rec x1 x2 x4 S) else (F_primes_40 N rec x1 x2 x4 (nI 1) S))))
def OB_primes_15 (N : Nat) (rok : Int32 → Int32 → Int32 → Int32 → rS → Prop) (x1 : Int32) (x2 : Int32) (x3 : Int32) (x4 : Int32) (S : rS) : Prop := ((x2 < (x4 * x4) → True) ∧ (¬ x2 < (x4 * x4) → ((x3 = 0 → O_primes_39 N rok x1 x2 x4 S) ∧ (¬ x3 = 0 → (¬ x4 = 0) ∧ (((x2 - x2 / x4 * x4) = 0 → O_primes_39 N rok x1 x2 x4 S) ∧ (¬ (x2 - x2 / x4 * x4) = 0 → O_primes_40 N rok x1 x2 x4 (nI 1) S))))))
set_option maxHeartbeats 4000000 in
theorem bb_primes_15 {G : zG} {E : rE} {S : rS} {N : Nat} {Q : Option Value → rS → Prop} {X : Nat × Int32 × Int32 × Int32 × rS → Prop} (hG : zOK G) (hX0 : ∀ (x1 : Int32) (x2 : Int32) (x3 : Int32) (S' : rS), X (0, x1, x2, x3, S') → rX G E dX12_primes mX12_primes 47 [some (.ref E.1), some (.int x1), some (.int x2), some (.int x3), none] [] S' Q) {rec : Int32 → Int32 → Int32 → Int32 → rS → Nat × Int32 × Int32 × Int32 × rS} {rok : Int32 → Int32 → Int32 → Int32 → rS → Prop} (hrec : ∀ (x1 : Int32) (x2 : Int32) (x3 : Int32) (x4 : Int32) (S : rS), rok x1 x2 x3 x4 S → X (rec x1 x2 x3 x4 S) → rX G E dX12_primes mX12_primes 15 [some (.ref E.1), some (.int x1), some (.int x2), some (.int x3), some (.int x4)] [] S Q) {x1 : Int32} {x2 : Int32} {x3 : Int32} {x4 : Int32} (ok : OB_primes_15 N rok x1 x2 x3 x4 S) (hx : X (B_primes_15 N rec x1 x2 x3 x4 S)) : rX G E dX12_primes mX12_primes 15 [some (.ref E.1), some (.int x1), some (.int x2), some (.int x3), some (.int x4)] [] S Q := by
  unfold OB_primes_15 at ok
  unfold B_primes_15 at hx
  refine r_iload dX12_primes_15 rfl ?_
  refine r_iload dX12_primes_17 rfl ?_
  refine r_imul dX12_primes_19 ?_
  refine r_iload_n dX12_primes_20 rfl rfl ?_
  refine r_icmp_gt (tgt := 47) dX12_primes_21 (by decide) (fun c_21 => ?_) (fun c_21 => ?_)
  · have ok := ok.1 c_21
    have hx := xif_p c_21 hx
    exact rX.cutz (hX0 _ _ _ S hx) ⟨rfl, rfl, rfl, rfl, trivial⟩
  · have ok := ok.2 c_21
    have hx := xif_n c_21 hx
    refine r_iload_n dX12_primes_24 rfl rfl ?_
    refine r_if_eq (tgt := 39) dX12_primes_25 (by decide) (fun c_25 => ?_) (fun c_25 => ?_)
    · have ok := ok.1 c_25
      have hx := xif_p c_25 hx
      exact rX.cutz (b_primes_39 hG hX0 hrec ok hx) ⟨rfl, rfl, rfl, rfl, trivial⟩
    · have ok := ok.2 c_25
      have hx := xif_n c_25 hx
      refine r_iload_n dX12_primes_28 rfl rfl ?_
      refine r_iload dX12_primes_29 rfl ?_
      refine r_irem dX12_primes_31 ok.1 ?_
      have ok := ok.2
      refine r_if_eq (tgt := 39) dX12_primes_32 (by decide) (fun c_32 => ?_) (fun c_32 => ?_)
      · have ok := ok.1 c_32
        have hx := xif_p c_32 hx
        exact rX.cutz (b_primes_39 hG hX0 hrec ok hx) ⟨rfl, rfl, rfl, rfl, trivial⟩
      · have ok := ok.2 c_32
        have hx := xif_n c_32 hx
        refine r_iconst (v := nI 1) dX12_primes_35 (by decide) ?_
        refine r_goto (tgt := 40) dX12_primes_36 (by decide) ?_
        exact rX.cutz (b_primes_40 hG hX0 hrec ok hx) ⟨rfl, rfl, rfl, rfl, trivial⟩
def L_primes_15 (N : Nat) : Nat → Int32 → Int32 → Int32 → Int32 → rS → Nat × Int32 × Int32 × Int32 × rS
  | 0, x1, x2, x3, x4, S => (0, 0, 0, 0, S)
  | n + 1, x1, x2, x3, x4, S => B_primes_15 N (L_primes_15 N n) x1 x2 x3 x4 S
def OL_primes_15 (N : Nat) : Nat → Int32 → Int32 → Int32 → Int32 → rS → Prop
  | 0, _, _, _, _, _ => False
  | n + 1, x1, x2, x3, x4, S => OB_primes_15 N (OL_primes_15 N n) x1 x2 x3 x4 S
set_option maxHeartbeats 4000000 in
theorem l_primes_15 {G : zG} {E : rE} {N : Nat} {Q : Option Value → rS → Prop} {X : Nat × Int32 × Int32 × Int32 × rS → Prop} (hG : zOK G) (hX0 : ∀ (x1 : Int32) (x2 : Int32) (x3 : Int32) (S' : rS), X (0, x1, x2, x3, S') → rX G E dX12_primes mX12_primes 47 [some (.ref E.1), some (.int x1), some (.int x2), some (.int x3), none] [] S' Q) : ∀ (n : Nat) (x1 : Int32) (x2 : Int32) (x3 : Int32) (x4 : Int32) (S : rS), OL_primes_15 N n x1 x2 x3 x4 S → X (L_primes_15 N n x1 x2 x3 x4 S) → rX G E dX12_primes mX12_primes 15 [some (.ref E.1), some (.int x1), some (.int x2), some (.int x3), some (.int x4)] [] S Q := by
  intro n
  induction n with
  | zero => intro x1 x2 x3 x4 S ok; exact absurd ok id
  | succ n ih =>
    intro x1 x2 x3 x4 S ok hx
    exact bb_primes_15 hG hX0 (rec := L_primes_15 N n) (rok := OL_primes_15 N n) (fun x1 x2 x3 x4 S ok hx => ih x1 x2 x3 x4 S ok hx) ok hx
def A_primes_15 (N : Nat) (rec : Int32 → Int32 → rS → Nat × rS) (x1 : Int32) (x2 : Int32) (x3 : Int32) (x4 : Int32) (S : rS) (z : Nat × Int32 × Int32 × Int32 × rS) : Nat × rS := (F_primes_47 N rec (z.2.1) (z.2.2.1) (z.2.2.2.1) z.2.2.2.2)
def OA_primes_15 (N : Nat) (rok : Int32 → Int32 → rS → Prop) (x1 : Int32) (x2 : Int32) (x3 : Int32) (x4 : Int32) (S : rS) (z : Nat × Int32 × Int32 × Int32 × rS) : Prop := O_primes_47 N rok (z.2.1) (z.2.2.1) (z.2.2.2.1) z.2.2.2.2
set_option maxHeartbeats 4000000 in
theorem c_primes_15 {G : zG} {E : rE} {S : rS} {N : Nat} {Q : Option Value → rS → Prop} {X : Nat × rS → Prop} (hG : zOK G) (hX0 : ∀ (S' : rS), X (0, S') → rX G E dX12_primes mX12_primes 92 [none, none, none, none, none] [] S' Q) {rec : Int32 → Int32 → rS → Nat × rS} {rok : Int32 → Int32 → rS → Prop} (hrec : ∀ (x1 : Int32) (x2 : Int32) (S : rS), rok x1 x2 S → X (rec x1 x2 S) → rX G E dX12_primes mX12_primes 4 [some (.ref E.1), some (.int x1), some (.int x2), none, none] [] S Q) {x1 : Int32} {x2 : Int32} {x3 : Int32} {x4 : Int32} (ok : OL_primes_15 N N x1 x2 x3 x4 S ∧ OA_primes_15 N rok x1 x2 x3 x4 S (L_primes_15 N N x1 x2 x3 x4 S)) (hx : X (A_primes_15 N rec x1 x2 x3 x4 S (L_primes_15 N N x1 x2 x3 x4 S))) : rX G E dX12_primes mX12_primes 15 [some (.ref E.1), some (.int x1), some (.int x2), some (.int x3), some (.int x4)] [] S Q := by
  refine l_primes_15 hG ?_ N x1 x2 x3 x4 S ok.1 (X := fun z => OA_primes_15 N rok x1 x2 x3 x4 S z ∧ X (A_primes_15 N rec x1 x2 x3 x4 S z)) ⟨ok.2, hx⟩
  · intro x1' x2' x3' S' hz
    obtain ⟨ok, hx⟩ := hz
    unfold OA_primes_15 at ok
    unfold A_primes_15 at hx
    exact rX.cutz (b_primes_47 hG hX0 hrec ok hx) ⟨rfl, rfl, rfl, rfl, trivial⟩
def B_primes_4 (N : Nat) (rec : Int32 → Int32 → rS → Nat × rS) (x1 : Int32) (x2 : Int32) (S : rS) : Nat × rS := (if (nI 64) ≤ x1 then (0, S) else (A_primes_15 N rec x1 x2 (nI 1) (nI 2) S (L_primes_15 N N x1 x2 (nI 1) (nI 2) S)))
def OB_primes_4 (N : Nat) (rok : Int32 → Int32 → rS → Prop) (x1 : Int32) (x2 : Int32) (S : rS) : Prop := (((nI 64) ≤ x1 → True) ∧ (¬ (nI 64) ≤ x1 → (OL_primes_15 N N x1 x2 (nI 1) (nI 2) S ∧ OA_primes_15 N rok x1 x2 (nI 1) (nI 2) S (L_primes_15 N N x1 x2 (nI 1) (nI 2) S))))
set_option maxHeartbeats 4000000 in
theorem bb_primes_4 {G : zG} {E : rE} {S : rS} {N : Nat} {Q : Option Value → rS → Prop} {X : Nat × rS → Prop} (hG : zOK G) (hX0 : ∀ (S' : rS), X (0, S') → rX G E dX12_primes mX12_primes 92 [none, none, none, none, none] [] S' Q) {rec : Int32 → Int32 → rS → Nat × rS} {rok : Int32 → Int32 → rS → Prop} (hrec : ∀ (x1 : Int32) (x2 : Int32) (S : rS), rok x1 x2 S → X (rec x1 x2 S) → rX G E dX12_primes mX12_primes 4 [some (.ref E.1), some (.int x1), some (.int x2), none, none] [] S Q) {x1 : Int32} {x2 : Int32} (ok : OB_primes_4 N rok x1 x2 S) (hx : X (B_primes_4 N rec x1 x2 S)) : rX G E dX12_primes mX12_primes 4 [some (.ref E.1), some (.int x1), some (.int x2), none, none] [] S Q := by
  unfold OB_primes_4 at ok
  unfold B_primes_4 at hx
  refine r_iload_n dX12_primes_4 rfl rfl ?_
  refine r_bipush (v := nI 64) dX12_primes_5 (by decide) ?_
  refine r_icmp_ge (tgt := 92) dX12_primes_7 (by decide) (fun c_7 => ?_) (fun c_7 => ?_)
  · have ok := ok.1 c_7
    have hx := xif_p c_7 hx
    exact rX.cutz (hX0 S hx) trivial
  · have ok := ok.2 c_7
    have hx := xif_n c_7 hx
    refine r_iconst (v := nI 1) dX12_primes_10 (by decide) ?_
    refine r_istore_3 dX12_primes_11 (by decide) rfl ?_
    refine r_iconst (v := nI 2) dX12_primes_12 (by decide) ?_
    refine r_istore_4 dX12_primes_13 (by decide) rfl ?_
    exact rX.cutz (c_primes_15 hG hX0 hrec ok hx) ⟨rfl, rfl, rfl, rfl, rfl, trivial⟩
def L_primes_4 (N : Nat) : Nat → Int32 → Int32 → rS → Nat × rS
  | 0, x1, x2, S => (0, S)
  | n + 1, x1, x2, S => B_primes_4 N (L_primes_4 N n) x1 x2 S
def OL_primes_4 (N : Nat) : Nat → Int32 → Int32 → rS → Prop
  | 0, _, _, _ => False
  | n + 1, x1, x2, S => OB_primes_4 N (OL_primes_4 N n) x1 x2 S
set_option maxHeartbeats 4000000 in
theorem l_primes_4 {G : zG} {E : rE} {N : Nat} {Q : Option Value → rS → Prop} {X : Nat × rS → Prop} (hG : zOK G) (hX0 : ∀ (S' : rS), X (0, S') → rX G E dX12_primes mX12_primes 92 [none, none, none, none, none] [] S' Q) : ∀ (n : Nat) (x1 : Int32) (x2 : Int32) (S : rS), OL_primes_4 N n x1 x2 S → X (L_primes_4 N n x1 x2 S) → rX G E dX12_primes mX12_primes 4 [some (.ref E.1), some (.int x1), some (.int x2), none, none] [] S Q := by
  intro n
  induction n with
  | zero => intro x1 x2 S ok; exact absurd ok id
  | succ n ih =>
    intro x1 x2 S ok hx
    exact bb_primes_4 hG hX0 (rec := L_primes_4 N n) (rok := OL_primes_4 N n) (fun x1 x2 S ok hx => ih x1 x2 S ok hx) ok hx
def A_primes_4 (N : Nat) (x1 : Int32) (x2 : Int32) (S : rS) (z : Nat × rS) : rS := (F_primes_92 N z.2)
def OA_primes_4 (N : Nat) (x1 : Int32) (x2 : Int32) (S : rS) (z : Nat × rS) : Prop := O_primes_92 N z.2
set_option maxHeartbeats 4000000 in
theorem c_primes_4 {G : zG} {E : rE} {S : rS} {N : Nat} {Q : Option Value → rS → Prop} {X : rS → Prop} (hG : zOK G) (hR : ∀ S', X S' → Q none S') {x1 : Int32} {x2 : Int32} (ok : OL_primes_4 N N x1 x2 S ∧ OA_primes_4 N x1 x2 S (L_primes_4 N N x1 x2 S)) (hx : X (A_primes_4 N x1 x2 S (L_primes_4 N N x1 x2 S))) : rX G E dX12_primes mX12_primes 4 [some (.ref E.1), some (.int x1), some (.int x2), none, none] [] S Q := by
  refine l_primes_4 hG ?_ N x1 x2 S ok.1 (X := fun z => OA_primes_4 N x1 x2 S z ∧ X (A_primes_4 N x1 x2 S z)) ⟨ok.2, hx⟩
  · intro S' hz
    obtain ⟨ok, hx⟩ := hz
    unfold OA_primes_4 at ok
    unfold A_primes_4 at hx
    exact rX.cutz (b_primes_92 hG hR ok hx) trivial
def F_primes_0 (N : Nat)  (S : rS) : rS := (A_primes_4 N (nI 0) (nI 2) S (L_primes_4 N N (nI 0) (nI 2) S))
def O_primes_0 (N : Nat)  (S : rS) : Prop := (OL_primes_4 N N (nI 0) (nI 2) S ∧ OA_primes_4 N (nI 0) (nI 2) S (L_primes_4 N N (nI 0) (nI 2) S))
set_option maxHeartbeats 4000000 in
theorem b_primes_0 {G : zG} {E : rE} {S : rS} {N : Nat} {Q : Option Value → rS → Prop} {X : rS → Prop} (hG : zOK G) (hR : ∀ S', X S' → Q none S') (ok : O_primes_0 N S) (hx : X (F_primes_0 N S)) : rX G E dX12_primes mX12_primes 0 [some (.ref E.1), none, none, none, none] [] S Q := by
  unfold O_primes_0 at ok
  unfold F_primes_0 at hx
  refine r_iconst (v := nI 0) dX12_primes_0 (by decide) ?_
  refine r_istore_1 dX12_primes_1 (by decide) rfl ?_
  refine r_iconst (v := nI 2) dX12_primes_2 (by decide) ?_
  refine r_istore_2 dX12_primes_3 (by decide) rfl ?_
  exact rX.cutz (c_primes_4 hG hR ok hx) ⟨rfl, rfl, rfl, trivial⟩
def f_primes (N : Nat) (S : rS) : rS := F_primes_0 N S
def o_primes (N : Nat) (S : rS) : Prop := O_primes_0 N S
set_option maxHeartbeats 4000000 in
theorem rc_X12_primes {G : zG} {E : rE} {S : rS} {N : Nat} (hG : zOK G) (ok : o_primes N S ) : rCv G E dX12_primes mX12_primes [.ref E.1] S (fun S' => S' = f_primes N S) := by
  refine rC.ofX rfl (Nat.le_of_ble_eq_true rfl) ?_
  show rX G E dX12_primes mX12_primes 0 [some (.ref E.1), none, none, none, none] [] S _
  exact rX.cutz (b_primes_0 (X := fun F => F = f_primes N S) hG (fun S' h => ⟨rfl, h⟩) ok rfl) ⟨rfl, trivial⟩

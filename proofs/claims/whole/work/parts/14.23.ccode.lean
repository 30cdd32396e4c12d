/-! X11_state -/
def F_X11_state_113 (N : Nat) (s0 : Int32) (S : cS) : Int32 := s0
def O_X11_state_113 (N : Nat) (s0 : Int32) (S : cS) : Prop := True
set_option maxRecDepth 100000 in
set_option maxHeartbeats 4000000 in
theorem b_X11_state_113 {G : zG} {o : Nat → Option va_E} {S : cS} {N : Nat} {Q : Option Value → cS → Prop} {X : Int32 → Prop} (hG : zOK G) (hR : ∀ v, X v → Q (some (.int v)) S) {s0 : Int32} (ok : O_X11_state_113 N s0 S) (hx : X (F_X11_state_113 N s0 S)) : cX G o dX11_state mX11_state 113 [none, none, none, none] [.int s0] S Q := by
  unfold O_X11_state_113 at ok
  unfold F_X11_state_113 at hx
  exact c_ireturn rfl rfl dX11_state_113 (hR _ hx)
def F_X11_state_0 (N : Nat) (x0 : Option Nat) (x1 : Int32) (x2 : Int32) (S : cS) : Int32 := (if (f_X11_honestNode N S (za x0) x1) = none then (-1) else (if x2 = nI 0 then (cI S 9 (za (f_X11_honestNode N S (za x0) x1))) else (if x2 = nI 1 then (cI S 10 (za (f_X11_honestNode N S (za x0) x1))) else (if x2 = nI 2 then (cI S 11 (za (f_X11_honestNode N S (za x0) x1))) else (if x2 = nI 3 then (cI S 12 (za (f_X11_honestNode N S (za x0) x1))) else (if x2 = nI 4 then (cI S 13 (za (f_X11_honestNode N S (za x0) x1))) else (if x2 = nI 5 then (if (cI S 8 (za (f_X11_honestNode N S (za x0) x1))) = 0 then (F_X11_state_113 N (nI 0) S) else (F_X11_state_113 N (nI 1) S)) else (if x2 = nI 6 then (cI S 12 (za (cR S 3 (za (f_X11_honestNode N S (za x0) x1))))) else (if x2 = nI 7 then (f_X6_timersSet N S (za (f_X11_honestNode N S (za x0) x1))) else (if x2 = nI 8 then (cI S 17 (za (f_X11_honestNode N S (za x0) x1))) else (if x2 = nI 9 then (cI S 7 (za (cR S 2 (za (f_X11_honestNode N S (za x0) x1))))) else (if x2 = nI 10 then (cI S 8 (za (cR S 2 (za (f_X11_honestNode N S (za x0) x1))))) else (if x2 = nI 11 then (cI S 13 (za (cR S 3 (za (f_X11_honestNode N S (za x0) x1))))) else (-1))))))))))))))
def O_X11_state_0 (N : Nat) (x0 : Option Nat) (x1 : Int32) (x2 : Int32) (S : cS) : Prop := (cis S x0 10 ∧ o_X11_honestNode N S (za x0) x1) ∧ (((f_X11_honestNode N S (za x0) x1) = none → True) ∧ (¬ (f_X11_honestNode N S (za x0) x1) = none → ((x2 = nI 0 → (cis S (f_X11_honestNode N S (za x0) x1) 6) ∧ True) ∧ (¬ x2 = nI 0 → ((x2 = nI 1 → (cis S (f_X11_honestNode N S (za x0) x1) 6) ∧ True) ∧ (¬ x2 = nI 1 → ((x2 = nI 2 → (cis S (f_X11_honestNode N S (za x0) x1) 6) ∧ True) ∧ (¬ x2 = nI 2 → ((x2 = nI 3 → (cis S (f_X11_honestNode N S (za x0) x1) 6) ∧ True) ∧ (¬ x2 = nI 3 → ((x2 = nI 4 → (cis S (f_X11_honestNode N S (za x0) x1) 6) ∧ True) ∧ (¬ x2 = nI 4 → ((x2 = nI 5 → (cis S (f_X11_honestNode N S (za x0) x1) 6) ∧ (((cI S 8 (za (f_X11_honestNode N S (za x0) x1))) = 0 → O_X11_state_113 N (nI 0) S) ∧ (¬ (cI S 8 (za (f_X11_honestNode N S (za x0) x1))) = 0 → O_X11_state_113 N (nI 1) S))) ∧ (¬ x2 = nI 5 → ((x2 = nI 6 → (cis S (f_X11_honestNode N S (za x0) x1) 6) ∧ (cis S (cR S 3 (za (f_X11_honestNode N S (za x0) x1))) 7) ∧ True) ∧ (¬ x2 = nI 6 → ((x2 = nI 7 → (cis S (f_X11_honestNode N S (za x0) x1) 6 ∧ o_X6_timersSet N S (za (f_X11_honestNode N S (za x0) x1))) ∧ True) ∧ (¬ x2 = nI 7 → ((x2 = nI 8 → (cis S (f_X11_honestNode N S (za x0) x1) 6) ∧ True) ∧ (¬ x2 = nI 8 → ((x2 = nI 9 → (cis S (f_X11_honestNode N S (za x0) x1) 6) ∧ (cis S (cR S 2 (za (f_X11_honestNode N S (za x0) x1))) 4) ∧ True) ∧ (¬ x2 = nI 9 → ((x2 = nI 10 → (cis S (f_X11_honestNode N S (za x0) x1) 6) ∧ (cis S (cR S 2 (za (f_X11_honestNode N S (za x0) x1))) 4) ∧ True) ∧ (¬ x2 = nI 10 → ((x2 = nI 11 → (cis S (f_X11_honestNode N S (za x0) x1) 6) ∧ (cis S (cR S 3 (za (f_X11_honestNode N S (za x0) x1))) 7) ∧ True) ∧ (¬ x2 = nI 11 → True))))))))))))))))))))))))))
set_option maxRecDepth 100000 in
set_option maxHeartbeats 4000000 in
theorem b_X11_state_0 {G : zG} {o : Nat → Option va_E} {S : cS} {N : Nat} {Q : Option Value → cS → Prop} {X : Int32 → Prop} (hG : zOK G) (hR : ∀ v, X v → Q (some (.int v)) S) {x0 : Option Nat} {x1 : Int32} {x2 : Int32} (ok : O_X11_state_0 N x0 x1 x2 S) (hx : X (F_X11_state_0 N x0 x1 x2 S)) : cX G o dX11_state mX11_state 0 [some (va_rf x0), some (.int x1), some (.int x2), none] [] S Q := by
  unfold O_X11_state_0 at ok
  unfold F_X11_state_0 at hx
  refine c_aload_nQ dX11_state_0 rfl rfl ?_
  refine c_iload_n dX11_state_1 rfl rfl ?_
  refine c_V1q (ci := 9) (rr := (RX11, TX11, 4)) (y' := mX11_honestNode) dX11_state_2 lX11_120 kX11_honestNode ⟨by decide, by decide⟩ rfl rfl (by decide) ok.1.1 (Nat.le_of_ble_eq_true rfl) (cc_X11_honestNode hG ok.1.2) (fun v_2 S_2 h_2 => ?_)
  obtain ⟨hv_2, hS_2⟩ := h_2
  subst hv_2
  have hS_2 := hS_2.symm
  subst hS_2
  have ok := ok.2
  refine c_astore_3Q dX11_state_5 (by decide) rfl ?_
  refine c_aload_nQ dX11_state_6 rfl rfl ?_
  refine c_ifnonnullI (tgt := 12) dX11_state_7 (by decide) (fun c_7 => ?_) (fun c_7 => ?_)
  · have ok := ok.2 c_7
    have hx := xif_n c_7 hx
    refine c_iload_n dX11_state_12 rfl rfl ?_
    by_cases c_13_0 : x2 = nI 0
    · have ok := ok.1 c_13_0
      have hx := xif_p c_13_0 hx
      refine c_tableIn (off := 63) (tgt := 76) dX11_state_13 (by rw [c_13_0]; decide) (by rw [c_13_0]; decide) (by rw [c_13_0]; rfl) (by decide) ?_
      refine c_aload_nQ dX11_state_76 rfl rfl ?_
      refine c_getI (C := RX6) (T := TX6) (N := 19) (ci := 5) (k := 9) ⟨rfl, inT6, by decide, fX11_223⟩ (by decide) (by decide) (by decide) dX11_state_77 ok.1 ?_
      have ok := ok.2
      exact c_ireturn rfl rfl dX11_state_80 (hR _ hx)
    · have ok := ok.2 c_13_0
      have hx := xif_n c_13_0 hx
      by_cases c_13_1 : x2 = nI 1
      · have ok := ok.1 c_13_1
        have hx := xif_p c_13_1 hx
        refine c_tableIn (off := 68) (tgt := 81) dX11_state_13 (by rw [c_13_1]; decide) (by rw [c_13_1]; decide) (by rw [c_13_1]; rfl) (by decide) ?_
        refine c_aload_nQ dX11_state_81 rfl rfl ?_
        refine c_getI (C := RX6) (T := TX6) (N := 19) (ci := 5) (k := 10) ⟨rfl, inT6, by decide, fX11_226⟩ (by decide) (by decide) (by decide) dX11_state_82 ok.1 ?_
        have ok := ok.2
        exact c_ireturn rfl rfl dX11_state_85 (hR _ hx)
      · have ok := ok.2 c_13_1
        have hx := xif_n c_13_1 hx
        by_cases c_13_2 : x2 = nI 2
        · have ok := ok.1 c_13_2
          have hx := xif_p c_13_2 hx
          refine c_tableIn (off := 73) (tgt := 86) dX11_state_13 (by rw [c_13_2]; decide) (by rw [c_13_2]; decide) (by rw [c_13_2]; rfl) (by decide) ?_
          refine c_aload_nQ dX11_state_86 rfl rfl ?_
          refine c_getI (C := RX6) (T := TX6) (N := 19) (ci := 5) (k := 11) ⟨rfl, inT6, by decide, fX11_229⟩ (by decide) (by decide) (by decide) dX11_state_87 ok.1 ?_
          have ok := ok.2
          exact c_ireturn rfl rfl dX11_state_90 (hR _ hx)
        · have ok := ok.2 c_13_2
          have hx := xif_n c_13_2 hx
          by_cases c_13_3 : x2 = nI 3
          · have ok := ok.1 c_13_3
            have hx := xif_p c_13_3 hx
            refine c_tableIn (off := 78) (tgt := 91) dX11_state_13 (by rw [c_13_3]; decide) (by rw [c_13_3]; decide) (by rw [c_13_3]; rfl) (by decide) ?_
            refine c_aload_nQ dX11_state_91 rfl rfl ?_
            refine c_getI (C := RX6) (T := TX6) (N := 19) (ci := 5) (k := 12) ⟨rfl, inT6, by decide, fX11_232⟩ (by decide) (by decide) (by decide) dX11_state_92 ok.1 ?_
            have ok := ok.2
            exact c_ireturn rfl rfl dX11_state_95 (hR _ hx)
          · have ok := ok.2 c_13_3
            have hx := xif_n c_13_3 hx
            by_cases c_13_4 : x2 = nI 4
            · have ok := ok.1 c_13_4
              have hx := xif_p c_13_4 hx
              refine c_tableIn (off := 83) (tgt := 96) dX11_state_13 (by rw [c_13_4]; decide) (by rw [c_13_4]; decide) (by rw [c_13_4]; rfl) (by decide) ?_
              refine c_aload_nQ dX11_state_96 rfl rfl ?_
              refine c_getI (C := RX6) (T := TX6) (N := 19) (ci := 5) (k := 13) ⟨rfl, inT6, by decide, fX11_235⟩ (by decide) (by decide) (by decide) dX11_state_97 ok.1 ?_
              have ok := ok.2
              exact c_ireturn rfl rfl dX11_state_100 (hR _ hx)
            · have ok := ok.2 c_13_4
              have hx := xif_n c_13_4 hx
              by_cases c_13_5 : x2 = nI 5
              · have ok := ok.1 c_13_5
                have hx := xif_p c_13_5 hx
                refine c_tableIn (off := 88) (tgt := 101) dX11_state_13 (by rw [c_13_5]; decide) (by rw [c_13_5]; decide) (by rw [c_13_5]; rfl) (by decide) ?_
                refine c_aload_nQ dX11_state_101 rfl rfl ?_
                refine c_getI (C := RX6) (T := TX6) (N := 19) (ci := 5) (k := 8) ⟨rfl, inT6, by decide, fX11_157⟩ (by decide) (by decide) (by decide) dX11_state_102 ok.1 ?_
                have ok := ok.2
                refine c_if_eq (tgt := 112) dX11_state_105 (by decide) (fun c_105 => ?_) (fun c_105 => ?_)
                · have ok := ok.1 c_105
                  have hx := xif_p c_105 hx
                  refine c_iconst (v := nI 0) dX11_state_112 (by decide) ?_
                  exact cX.cutz (b_X11_state_113 hG hR ok hx) trivial
                · have ok := ok.2 c_105
                  have hx := xif_n c_105 hx
                  refine c_iconst (v := nI 1) dX11_state_108 (by decide) ?_
                  refine c_goto (tgt := 113) dX11_state_109 (by decide) ?_
                  exact cX.cutz (b_X11_state_113 hG hR ok hx) trivial
              · have ok := ok.2 c_13_5
                have hx := xif_n c_13_5 hx
                by_cases c_13_6 : x2 = nI 6
                · have ok := ok.1 c_13_6
                  have hx := xif_p c_13_6 hx
                  refine c_tableIn (off := 101) (tgt := 114) dX11_state_13 (by rw [c_13_6]; decide) (by rw [c_13_6]; decide) (by rw [c_13_6]; rfl) (by decide) ?_
                  refine c_aload_nQ dX11_state_114 rfl rfl ?_
                  refine c_getR (C := RX6) (T := TX6) (N := 19) (ci := 5) (k := 3) ⟨rfl, inT6, by decide, fX11_162⟩ (by decide) (by decide) (by decide) dX11_state_115 ok.1 ?_
                  have ok := ok.2
                  refine c_getI (C := RX8) (T := TX8) (N := 14) (ci := 6) (k := 12) ⟨rfl, inT8, by decide, fX11_238⟩ (by decide) (by decide) (by decide) dX11_state_118 ok.1 ?_
                  have ok := ok.2
                  exact c_ireturn rfl rfl dX11_state_121 (hR _ hx)
                · have ok := ok.2 c_13_6
                  have hx := xif_n c_13_6 hx
                  by_cases c_13_7 : x2 = nI 7
                  · have ok := ok.1 c_13_7
                    have hx := xif_p c_13_7 hx
                    refine c_tableIn (off := 109) (tgt := 122) dX11_state_13 (by rw [c_13_7]; decide) (by rw [c_13_7]; decide) (by rw [c_13_7]; rfl) (by decide) ?_
                    refine c_aload_nQ dX11_state_122 rfl rfl ?_
                    refine c_V0i (ci := 5) (rr := (RX6, TX6, 19)) (y' := mX6_timersSet) dX11_state_123 lX11_241 kX6_timersSet ⟨by decide, by decide⟩ rfl rfl (by decide) ok.1.1 (Nat.le_of_ble_eq_true rfl) (cc_X6_timersSet hG ok.1.2) (fun v_123 S_123 h_123 => ?_)
                    obtain ⟨hv_123, hS_123⟩ := h_123
                    subst hv_123
                    have hS_123 := hS_123.symm
                    subst hS_123
                    have ok := ok.2
                    exact c_ireturn rfl rfl dX11_state_126 (hR _ hx)
                  · have ok := ok.2 c_13_7
                    have hx := xif_n c_13_7 hx
                    by_cases c_13_8 : x2 = nI 8
                    · have ok := ok.1 c_13_8
                      have hx := xif_p c_13_8 hx
                      refine c_tableIn (off := 114) (tgt := 127) dX11_state_13 (by rw [c_13_8]; decide) (by rw [c_13_8]; decide) (by rw [c_13_8]; rfl) (by decide) ?_
                      refine c_aload_nQ dX11_state_127 rfl rfl ?_
                      refine c_getI (C := RX6) (T := TX6) (N := 19) (ci := 5) (k := 17) ⟨rfl, inT6, by decide, fX11_244⟩ (by decide) (by decide) (by decide) dX11_state_128 ok.1 ?_
                      have ok := ok.2
                      exact c_ireturn rfl rfl dX11_state_131 (hR _ hx)
                    · have ok := ok.2 c_13_8
                      have hx := xif_n c_13_8 hx
                      by_cases c_13_9 : x2 = nI 9
                      · have ok := ok.1 c_13_9
                        have hx := xif_p c_13_9 hx
                        refine c_tableIn (off := 119) (tgt := 132) dX11_state_13 (by rw [c_13_9]; decide) (by rw [c_13_9]; decide) (by rw [c_13_9]; rfl) (by decide) ?_
                        refine c_aload_nQ dX11_state_132 rfl rfl ?_
                        refine c_getR (C := RX6) (T := TX6) (N := 19) (ci := 5) (k := 2) ⟨rfl, inT6, by decide, fX11_205⟩ (by decide) (by decide) (by decide) dX11_state_133 ok.1 ?_
                        have ok := ok.2
                        refine c_getI (C := RX4) (T := TX4) (N := 10) (ci := 3) (k := 7) ⟨rfl, inT4, by decide, fX11_247⟩ (by decide) (by decide) (by decide) dX11_state_136 ok.1 ?_
                        have ok := ok.2
                        exact c_ireturn rfl rfl dX11_state_139 (hR _ hx)
                      · have ok := ok.2 c_13_9
                        have hx := xif_n c_13_9 hx
                        by_cases c_13_10 : x2 = nI 10
                        · have ok := ok.1 c_13_10
                          have hx := xif_p c_13_10 hx
                          refine c_tableIn (off := 127) (tgt := 140) dX11_state_13 (by rw [c_13_10]; decide) (by rw [c_13_10]; decide) (by rw [c_13_10]; rfl) (by decide) ?_
                          refine c_aload_nQ dX11_state_140 rfl rfl ?_
                          refine c_getR (C := RX6) (T := TX6) (N := 19) (ci := 5) (k := 2) ⟨rfl, inT6, by decide, fX11_205⟩ (by decide) (by decide) (by decide) dX11_state_141 ok.1 ?_
                          have ok := ok.2
                          refine c_getI (C := RX4) (T := TX4) (N := 10) (ci := 3) (k := 8) ⟨rfl, inT4, by decide, fX11_250⟩ (by decide) (by decide) (by decide) dX11_state_144 ok.1 ?_
                          have ok := ok.2
                          exact c_ireturn rfl rfl dX11_state_147 (hR _ hx)
                        · have ok := ok.2 c_13_10
                          have hx := xif_n c_13_10 hx
                          by_cases c_13_11 : x2 = nI 11
                          · have ok := ok.1 c_13_11
                            have hx := xif_p c_13_11 hx
                            refine c_tableIn (off := 135) (tgt := 148) dX11_state_13 (by rw [c_13_11]; decide) (by rw [c_13_11]; decide) (by rw [c_13_11]; rfl) (by decide) ?_
                            refine c_aload_nQ dX11_state_148 rfl rfl ?_
                            refine c_getR (C := RX6) (T := TX6) (N := 19) (ci := 5) (k := 3) ⟨rfl, inT6, by decide, fX11_162⟩ (by decide) (by decide) (by decide) dX11_state_149 ok.1 ?_
                            have ok := ok.2
                            refine c_getI (C := RX8) (T := TX8) (N := 14) (ci := 6) (k := 13) ⟨rfl, inT8, by decide, fX11_253⟩ (by decide) (by decide) (by decide) dX11_state_152 ok.1 ?_
                            have ok := ok.2
                            exact c_ireturn rfl rfl dX11_state_155 (hR _ hx)
                          · have ok := ok.2 c_13_11
                            have hx := xif_n c_13_11 hx
                            refine c_tableOut (tgt := 156) dX11_state_13 (zsw 12 (by intro k hk; rcases (show k = 0 ∨ k = 1 ∨ k = 2 ∨ k = 3 ∨ k = 4 ∨ k = 5 ∨ k = 6 ∨ k = 7 ∨ k = 8 ∨ k = 9 ∨ k = 10 ∨ k = 11 by omega) with rfl | rfl | rfl | rfl | rfl | rfl | rfl | rfl | rfl | rfl | rfl | rfl <;> assumption) (by decide) (by decide)) (by decide) ?_
                            refine c_iconst (v := -1) dX11_state_156 (by decide) ?_
                            exact c_ireturn rfl rfl dX11_state_157 (hR _ hx)
  · have ok := ok.1 c_7
    have hx := xif_p c_7 hx
    refine c_iconst (v := -1) dX11_state_10 (by decide) ?_
    exact c_ireturn rfl rfl dX11_state_11 (hR _ hx)
def f_X11_state (N : Nat) (S : cS) (a0 : Nat) (x1 : Int32) (x2 : Int32) : Int32 := F_X11_state_0 N (some a0) x1 x2 S
def o_X11_state (N : Nat) (S : cS) (a0 : Nat) (x1 : Int32) (x2 : Int32) : Prop := O_X11_state_0 N (some a0) x1 x2 S
set_option maxRecDepth 100000 in
set_option maxHeartbeats 4000000 in
theorem cc_X11_state {G : zG} {o : Nat → Option va_E} {S : cS} {N : Nat} (hG : zOK G) {a0 : Nat} {x1 : Int32} {x2 : Int32} (ok : o_X11_state N S a0 x1 x2) : cCi G o dX11_state mX11_state [.ref a0, .int x1, .int x2] S (fun v S' => v = f_X11_state N S a0 x1 x2 ∧ S' = S) := by
  refine cC.ofX rfl (by exact Nat.le_of_ble_eq_true rfl) ?_
  show cX G o dX11_state mX11_state 0 [some (.ref a0), some (.int x1), some (.int x2), none] [] S _
  exact cX.cutz (b_X11_state_0 (X := fun F => F = f_X11_state N S a0 x1 x2) hG (fun v h => ⟨v, rfl, h, rfl⟩) ok rfl) ⟨rfl, rfl, rfl, trivial⟩
/-! X11_block -/
def F_X11_block_137 (N : Nat) (s0 : Int64) (S : cS) : Int64 × cS := (s0, S)
def O_X11_block_137 (N : Nat) (s0 : Int64) (S : cS) : Prop := True
set_option maxRecDepth 100000 in
set_option maxHeartbeats 4000000 in
theorem b_X11_block_137 {G : zG} {o : Nat → Option va_E} {S : cS} {N : Nat} {Q : Option Value → cS → Prop} {X : Int64 × cS → Prop} (hG : zOK G) (hR : ∀ v S', X (v, S') → Q (some (.long v)) S') {s0 : Int64} (ok : O_X11_block_137 N s0 S) (hx : X (F_X11_block_137 N s0 S)) : cX G o dX11_block mX11_block 137 [none, none, none, none, none, none] [.long s0] S Q := by
  unfold O_X11_block_137 at ok
  unfold F_X11_block_137 at hx
  exact c_lreturn rfl dX11_block_137 (hR _ _ hx)
def F_X11_block_96 (N : Nat) (x3 : Int32) (s0 : Option Nat) (S : cS) : Int64 × cS := (if s0 = none then ((-1 : Int64), S) else (if x3 ≤ (cI S 2 (za s0)) then (F_X11_block_137 N (f_X11_eight N S (cR S 0 (za s0)) (cI S 2 (za s0)) (x3 + (nI 6))) S) else (F_X11_block_137 N (0 : Int64) S)))
def O_X11_block_96 (N : Nat) (x3 : Int32) (s0 : Option Nat) (S : cS) : Prop := ((s0 = none → True) ∧ (¬ s0 = none → (cis S s0 5) ∧ ((x3 ≤ (cI S 2 (za s0)) → (cis S s0 5) ∧ (cis S s0 5) ∧ (o_X11_eight N S (cR S 0 (za s0)) (cI S 2 (za s0)) (x3 + (nI 6))) ∧ O_X11_block_137 N (f_X11_eight N S (cR S 0 (za s0)) (cI S 2 (za s0)) (x3 + (nI 6))) S) ∧ (¬ x3 ≤ (cI S 2 (za s0)) → O_X11_block_137 N (0 : Int64) S))))
set_option maxRecDepth 100000 in
set_option maxHeartbeats 4000000 in
theorem b_X11_block_96 {G : zG} {o : Nat → Option va_E} {S : cS} {N : Nat} {Q : Option Value → cS → Prop} {X : Int64 × cS → Prop} (hG : zOK G) (hR : ∀ v S', X (v, S') → Q (some (.long v)) S') {x3 : Int32} {s0 : Option Nat} (ok : O_X11_block_96 N x3 s0 S) (hx : X (F_X11_block_96 N x3 s0 S)) : cX G o dX11_block mX11_block 96 [none, none, none, some (.int x3), none, none] [va_rf s0] S Q := by
  unfold O_X11_block_96 at ok
  unfold F_X11_block_96 at hx
  refine c_astore_5Q dX11_block_96 (by decide) rfl ?_
  refine c_aloadQ dX11_block_98 rfl ?_
  refine c_ifnonnullI (tgt := 107) dX11_block_100 (by decide) (fun c_100 => ?_) (fun c_100 => ?_)
  · have ok := ok.2 c_100
    have hx := xif_n c_100 hx
    refine c_iload_n dX11_block_107 rfl rfl ?_
    refine c_aloadQ dX11_block_108 rfl ?_
    refine c_getI (C := RX5) (T := TX5) (N := 7) (ci := 4) (k := 2) ⟨rfl, inT5, by decide, fX11_150⟩ (by decide) (by decide) (by decide) dX11_block_110 ok.1 ?_
    have ok := ok.2
    refine c_icmp_le (tgt := 120) dX11_block_113 (by decide) (fun c_113 => ?_) (fun c_113 => ?_)
    · have ok := ok.1 c_113
      have hx := xif_p c_113 hx
      refine c_aloadQ dX11_block_120 rfl ?_
      refine c_getR (C := RX5) (T := TX5) (N := 7) (ci := 4) (k := 0) ⟨rfl, inT5, by decide, fX11_48⟩ (by decide) (by decide) (by decide) dX11_block_122 ok.1 ?_
      have ok := ok.2
      refine c_aloadQ dX11_block_125 rfl ?_
      refine c_getI (C := RX5) (T := TX5) (N := 7) (ci := 4) (k := 2) ⟨rfl, inT5, by decide, fX11_150⟩ (by decide) (by decide) (by decide) dX11_block_127 ok.1 ?_
      have ok := ok.2
      refine c_iload_n dX11_block_130 rfl rfl ?_
      refine c_bipush (v := nI 6) dX11_block_131 (by decide) ?_
      refine c_iadd dX11_block_133 ?_
      refine c_S3l (y' := mX11_eight) dX11_block_134 lX11_153 kX11_eight ⟨by decide, by decide⟩ (Nat.le_of_ble_eq_true rfl) (cc_X11_eight hG ok.1) (fun v_134 S_134 h_134 => ?_)
      obtain ⟨hv_134, hS_134⟩ := h_134
      subst hv_134
      have hS_134 := hS_134.symm
      subst hS_134
      have ok := ok.2
      exact cX.cutz (b_X11_block_137 hG hR ok hx) trivial
    · have ok := ok.2 c_113
      have hx := xif_n c_113 hx
      refine c_lconst (v := 0) dX11_block_116 rfl ?_
      refine c_goto (tgt := 137) dX11_block_117 (by decide) ?_
      exact cX.cutz (b_X11_block_137 hG hR ok hx) trivial
  · have ok := ok.1 c_100
    have hx := xif_p c_100 hx
    refine c_ldc2 dX11_block_103 nX11_200 ?_
    exact c_lreturn rfl dX11_block_106 (hR _ _ hx)
def F_X11_block_78 (N : Nat) (s0 : Int64) (S : cS) : Int64 × cS := (s0, S)
def O_X11_block_78 (N : Nat) (s0 : Int64) (S : cS) : Prop := True
set_option maxRecDepth 100000 in
set_option maxHeartbeats 4000000 in
theorem b_X11_block_78 {G : zG} {o : Nat → Option va_E} {S : cS} {N : Nat} {Q : Option Value → cS → Prop} {X : Int64 × cS → Prop} (hG : zOK G) (hR : ∀ v S', X (v, S') → Q (some (.long v)) S') {s0 : Int64} (ok : O_X11_block_78 N s0 S) (hx : X (F_X11_block_78 N s0 S)) : cX G o dX11_block mX11_block 78 [none, none, none, none, none, none] [.long s0] S Q := by
  unfold O_X11_block_78 at ok
  unfold F_X11_block_78 at hx
  exact c_lreturn rfl dX11_block_78 (hR _ _ hx)
def F_X11_block_52 (N : Nat) (x0 : Option Nat) (x3 : Int32) (s0 : Int32) (S : cS) : Int64 × cS := (if 0 ≤ s0 then (F_X11_block_78 N (f_X11_eight N S (cR S 10 (za (cR S 0 (za x0)))) s0 x3) S) else (F_X11_block_78 N (-1 : Int64) S))
def O_X11_block_52 (N : Nat) (x0 : Option Nat) (x3 : Int32) (s0 : Int32) (S : cS) : Prop := ((0 ≤ s0 → (cis S x0 10) ∧ (cis S (cR S 0 (za x0)) 9) ∧ (o_X11_eight N S (cR S 10 (za (cR S 0 (za x0)))) s0 x3) ∧ O_X11_block_78 N (f_X11_eight N S (cR S 10 (za (cR S 0 (za x0)))) s0 x3) S) ∧ (¬ 0 ≤ s0 → O_X11_block_78 N (-1 : Int64) S))
set_option maxRecDepth 100000 in
set_option maxHeartbeats 4000000 in
theorem b_X11_block_52 {G : zG} {o : Nat → Option va_E} {S : cS} {N : Nat} {Q : Option Value → cS → Prop} {X : Int64 × cS → Prop} (hG : zOK G) (hR : ∀ v S', X (v, S') → Q (some (.long v)) S') {x0 : Option Nat} {x3 : Int32} {s0 : Int32} (ok : O_X11_block_52 N x0 x3 s0 S) (hx : X (F_X11_block_52 N x0 x3 s0 S)) : cX G o dX11_block mX11_block 52 [some (va_rf x0), none, none, some (.int x3), none, none] [.int s0] S Q := by
  unfold O_X11_block_52 at ok
  unfold F_X11_block_52 at hx
  refine c_istore_5 dX11_block_52 (by decide) rfl ?_
  refine c_iload dX11_block_54 rfl ?_
  refine c_if_ge (tgt := 65) dX11_block_56 (by decide) (fun c_56 => ?_) (fun c_56 => ?_)
  · have ok := ok.1 c_56
    have hx := xif_p c_56 hx
    refine c_aload_nQ dX11_block_65 rfl rfl ?_
    refine c_getR (C := RX11) (T := TX11) (N := 4) (ci := 9) (k := 0) ⟨rfl, inT11, by decide, fX11_22⟩ (by decide) (by decide) (by decide) dX11_block_66 ok.1 ?_
    have ok := ok.2
    refine c_getR (C := RX10) (T := TX10) (N := 12) (ci := 8) (k := 10) ⟨rfl, inT10, by decide, fX11_256⟩ (by decide) (by decide) (by decide) dX11_block_69 ok.1 ?_
    have ok := ok.2
    refine c_iload dX11_block_72 rfl ?_
    refine c_iload_n dX11_block_74 rfl rfl ?_
    refine c_S3l (y' := mX11_eight) dX11_block_75 lX11_153 kX11_eight ⟨by decide, by decide⟩ (Nat.le_of_ble_eq_true rfl) (cc_X11_eight hG ok.1) (fun v_75 S_75 h_75 => ?_)
    obtain ⟨hv_75, hS_75⟩ := h_75
    subst hv_75
    have hS_75 := hS_75.symm
    subst hS_75
    have ok := ok.2
    exact cX.cutz (b_X11_block_78 hG hR ok hx) trivial
  · have ok := ok.2 c_56
    have hx := xif_n c_56 hx
    refine c_ldc2 dX11_block_59 nX11_200 ?_
    refine c_goto (tgt := 78) dX11_block_62 (by decide) ?_
    exact cX.cutz (b_X11_block_78 hG hR ok hx) trivial
def F_X11_block_27 (N : Nat)  (S : cS) : Int64 × cS := ((-1 : Int64), S)
def O_X11_block_27 (N : Nat)  (S : cS) : Prop := True
set_option maxRecDepth 100000 in
set_option maxHeartbeats 4000000 in
theorem b_X11_block_27 {G : zG} {o : Nat → Option va_E} {S : cS} {N : Nat} {Q : Option Value → cS → Prop} {X : Int64 × cS → Prop} (hG : zOK G) (hR : ∀ v S', X (v, S') → Q (some (.long v)) S') (ok : O_X11_block_27 N S) (hx : X (F_X11_block_27 N S)) : cX G o dX11_block mX11_block 27 [none, none, none, none, none, none] [] S Q := by
  unfold O_X11_block_27 at ok
  unfold F_X11_block_27 at hx
  refine c_ldc2 dX11_block_27 nX11_200 ?_
  exact c_lreturn rfl dX11_block_30 (hR _ _ hx)
def F_X11_block_0 (N : Nat) (x0 : Option Nat) (x1 : Int32) (x2 : Int32) (x3 : Int32) (S : cS) : Int64 × cS := (if (f_X11_honestNode N S (za x0) x1) = none then (F_X11_block_27 N S) else (if x3 < 0 then (F_X11_block_27 N S) else (if x2 < (-1) then (F_X11_block_27 N S) else (if x2 ≤ (nI 40) then (if x2 ≤ 0 then (if x2 = 0 then (F_X11_block_96 N x3 (cR S 14 (za (f_X11_honestNode N S (za x0) x1))) S) else (F_X11_block_96 N x3 (cR S 15 (za (f_X11_honestNode N S (za x0) x1))) S)) else (F_X11_block_52 N x0 x3 ((f_X4_fetch N S (za (cR S 2 (za (f_X11_honestNode N S (za x0) x1)))) x2 (cR S 10 (za (cR S 0 (za x0)))) (nI 0)).1) (f_X4_fetch N S (za (cR S 2 (za (f_X11_honestNode N S (za x0) x1)))) x2 (cR S 10 (za (cR S 0 (za x0)))) (nI 0)).2)) else (F_X11_block_27 N S)))))
def O_X11_block_0 (N : Nat) (x0 : Option Nat) (x1 : Int32) (x2 : Int32) (x3 : Int32) (S : cS) : Prop := (cis S x0 10 ∧ o_X11_honestNode N S (za x0) x1) ∧ (((f_X11_honestNode N S (za x0) x1) = none → O_X11_block_27 N S) ∧ (¬ (f_X11_honestNode N S (za x0) x1) = none → ((x3 < 0 → O_X11_block_27 N S) ∧ (¬ x3 < 0 → ((x2 < (-1) → O_X11_block_27 N S) ∧ (¬ x2 < (-1) → ((x2 ≤ (nI 40) → ((x2 ≤ 0 → ((x2 = 0 → (cis S (f_X11_honestNode N S (za x0) x1) 6) ∧ O_X11_block_96 N x3 (cR S 14 (za (f_X11_honestNode N S (za x0) x1))) S) ∧ (¬ x2 = 0 → (cis S (f_X11_honestNode N S (za x0) x1) 6) ∧ O_X11_block_96 N x3 (cR S 15 (za (f_X11_honestNode N S (za x0) x1))) S))) ∧ (¬ x2 ≤ 0 → (cis S (f_X11_honestNode N S (za x0) x1) 6) ∧ (cis S x0 10) ∧ (cis S (cR S 0 (za x0)) 9) ∧ (cis S (cR S 2 (za (f_X11_honestNode N S (za x0) x1))) 4 ∧ o_X4_fetch N S (za (cR S 2 (za (f_X11_honestNode N S (za x0) x1)))) x2 (cR S 10 (za (cR S 0 (za x0)))) (nI 0)) ∧ O_X11_block_52 N x0 x3 ((f_X4_fetch N S (za (cR S 2 (za (f_X11_honestNode N S (za x0) x1)))) x2 (cR S 10 (za (cR S 0 (za x0)))) (nI 0)).1) (f_X4_fetch N S (za (cR S 2 (za (f_X11_honestNode N S (za x0) x1)))) x2 (cR S 10 (za (cR S 0 (za x0)))) (nI 0)).2))) ∧ (¬ x2 ≤ (nI 40) → O_X11_block_27 N S))))))))
set_option maxRecDepth 100000 in
set_option maxHeartbeats 4000000 in
theorem b_X11_block_0 {G : zG} {o : Nat → Option va_E} {S : cS} {N : Nat} {Q : Option Value → cS → Prop} {X : Int64 × cS → Prop} (hG : zOK G) (hR : ∀ v S', X (v, S') → Q (some (.long v)) S') {x0 : Option Nat} {x1 : Int32} {x2 : Int32} {x3 : Int32} (ok : O_X11_block_0 N x0 x1 x2 x3 S) (hx : X (F_X11_block_0 N x0 x1 x2 x3 S)) : cX G o dX11_block mX11_block 0 [some (va_rf x0), some (.int x1), some (.int x2), some (.int x3), none, none] [] S Q := by
  unfold O_X11_block_0 at ok
  unfold F_X11_block_0 at hx
  refine c_aload_nQ dX11_block_0 rfl rfl ?_
  refine c_iload_n dX11_block_1 rfl rfl ?_
  refine c_V1q (ci := 9) (rr := (RX11, TX11, 4)) (y' := mX11_honestNode) dX11_block_2 lX11_120 kX11_honestNode ⟨by decide, by decide⟩ rfl rfl (by decide) ok.1.1 (Nat.le_of_ble_eq_true rfl) (cc_X11_honestNode hG ok.1.2) (fun v_2 S_2 h_2 => ?_)
  obtain ⟨hv_2, hS_2⟩ := h_2
  subst hv_2
  have hS_2 := hS_2.symm
  subst hS_2
  have ok := ok.2
  refine c_astore_4Q dX11_block_5 (by decide) rfl ?_
  refine c_aloadQ dX11_block_7 rfl ?_
  refine c_ifnullI (tgt := 27) dX11_block_9 (by decide) (fun c_9 => ?_) (fun c_9 => ?_)
  · have ok := ok.1 c_9
    have hx := xif_p c_9 hx
    exact cX.cutz (b_X11_block_27 hG hR ok hx) trivial
  · have ok := ok.2 c_9
    have hx := xif_n c_9 hx
    refine c_iload_n dX11_block_12 rfl rfl ?_
    refine c_if_lt (tgt := 27) dX11_block_13 (by decide) (fun c_13 => ?_) (fun c_13 => ?_)
    · have ok := ok.1 c_13
      have hx := xif_p c_13 hx
      exact cX.cutz (b_X11_block_27 hG hR ok hx) trivial
    · have ok := ok.2 c_13
      have hx := xif_n c_13 hx
      refine c_iload_n dX11_block_16 rfl rfl ?_
      refine c_iconst (v := -1) dX11_block_17 (by decide) ?_
      refine c_icmp_lt (tgt := 27) dX11_block_18 (by decide) (fun c_18 => ?_) (fun c_18 => ?_)
      · have ok := ok.1 c_18
        have hx := xif_p c_18 hx
        exact cX.cutz (b_X11_block_27 hG hR ok hx) trivial
      · have ok := ok.2 c_18
        have hx := xif_n c_18 hx
        refine c_iload_n dX11_block_21 rfl rfl ?_
        refine c_bipush (v := nI 40) dX11_block_22 (by decide) ?_
        refine c_icmp_le (tgt := 31) dX11_block_24 (by decide) (fun c_24 => ?_) (fun c_24 => ?_)
        · have ok := ok.1 c_24
          have hx := xif_p c_24 hx
          refine c_iload_n dX11_block_31 rfl rfl ?_
          refine c_if_le (tgt := 79) dX11_block_32 (by decide) (fun c_32 => ?_) (fun c_32 => ?_)
          · have ok := ok.1 c_32
            have hx := xif_p c_32 hx
            refine c_iload_n dX11_block_79 rfl rfl ?_
            refine c_if_ne (tgt := 91) dX11_block_80 (by decide) (fun c_80 => ?_) (fun c_80 => ?_)
            · have ok := ok.2 c_80
              have hx := xif_n c_80 hx
              refine c_aloadQ dX11_block_91 rfl ?_
              refine c_getR (C := RX6) (T := TX6) (N := 19) (ci := 5) (k := 15) ⟨rfl, inT6, by decide, fX11_266⟩ (by decide) (by decide) (by decide) dX11_block_93 ok.1 ?_
              have ok := ok.2
              exact cX.cutz (b_X11_block_96 hG hR ok hx) ⟨rfl, trivial⟩
            · have ok := ok.1 c_80
              have hx := xif_p c_80 hx
              refine c_aloadQ dX11_block_83 rfl ?_
              refine c_getR (C := RX6) (T := TX6) (N := 19) (ci := 5) (k := 14) ⟨rfl, inT6, by decide, fX11_262⟩ (by decide) (by decide) (by decide) dX11_block_85 ok.1 ?_
              have ok := ok.2
              refine c_goto (tgt := 96) dX11_block_88 (by decide) ?_
              exact cX.cutz (b_X11_block_96 hG hR ok hx) ⟨rfl, trivial⟩
          · have ok := ok.2 c_32
            have hx := xif_n c_32 hx
            refine c_aloadQ dX11_block_35 rfl ?_
            refine c_getR (C := RX6) (T := TX6) (N := 19) (ci := 5) (k := 2) ⟨rfl, inT6, by decide, fX11_205⟩ (by decide) (by decide) (by decide) dX11_block_37 ok.1 ?_
            have ok := ok.2
            refine c_iload_n dX11_block_40 rfl rfl ?_
            refine c_aload_nQ dX11_block_41 rfl rfl ?_
            refine c_getR (C := RX11) (T := TX11) (N := 4) (ci := 9) (k := 0) ⟨rfl, inT11, by decide, fX11_22⟩ (by decide) (by decide) (by decide) dX11_block_42 ok.1 ?_
            have ok := ok.2
            refine c_getR (C := RX10) (T := TX10) (N := 12) (ci := 8) (k := 10) ⟨rfl, inT10, by decide, fX11_256⟩ (by decide) (by decide) (by decide) dX11_block_45 ok.1 ?_
            have ok := ok.2
            refine c_iconst (v := nI 0) dX11_block_48 (by decide) ?_
            refine c_V3i (ci := 3) (rr := (RX4, TX4, 10)) (y' := mX4_fetch) dX11_block_49 lX11_259 kX4_fetch ⟨by decide, by decide⟩ rfl rfl (by decide) ok.1.1 (Nat.le_of_ble_eq_true rfl) (cc_X4_fetch hG ok.1.2) (fun v_49 S_49 h_49 => ?_)
            obtain ⟨hv_49, hS_49⟩ := h_49
            subst hv_49
            have hS_49 := hS_49.symm
            subst hS_49
            have ok := ok.2
            exact cX.cutz (b_X11_block_52 hG hR ok hx) ⟨rfl, rfl, trivial⟩
        · have ok := ok.2 c_24
          have hx := xif_n c_24 hx
          exact cX.cutz (b_X11_block_27 hG hR ok hx) trivial
def f_X11_block (N : Nat) (S : cS) (a0 : Nat) (x1 : Int32) (x2 : Int32) (x3 : Int32) : Int64 × cS := F_X11_block_0 N (some a0) x1 x2 x3 S
def o_X11_block (N : Nat) (S : cS) (a0 : Nat) (x1 : Int32) (x2 : Int32) (x3 : Int32) : Prop := O_X11_block_0 N (some a0) x1 x2 x3 S
set_option maxRecDepth 100000 in
set_option maxHeartbeats 4000000 in
theorem cc_X11_block {G : zG} {o : Nat → Option va_E} {S : cS} {N : Nat} (hG : zOK G) {a0 : Nat} {x1 : Int32} {x2 : Int32} {x3 : Int32} (ok : o_X11_block N S a0 x1 x2 x3) : cCl G o dX11_block mX11_block [.ref a0, .int x1, .int x2, .int x3] S (fun v S' => v = (f_X11_block N S a0 x1 x2 x3).1 ∧ S' = (f_X11_block N S a0 x1 x2 x3).2) := by
  refine cC.ofX rfl (by exact Nat.le_of_ble_eq_true rfl) ?_
  show cX G o dX11_block mX11_block 0 [some (.ref a0), some (.int x1), some (.int x2), some (.int x3), none, none] [] S _
  exact cX.cutz (b_X11_block_0 (X := fun F => F = f_X11_block N S a0 x1 x2 x3) hG (fun v S' h => ⟨v, rfl, by rw [← h], by rw [← h]⟩) ok rfl) ⟨rfl, rfl, rfl, rfl, trivial⟩
/-! X11_paid -/
def F_X11_paid_59 (N : Nat) (s0 : Int32) (s1 : Int32) (S : cS) : Int32 := (s0 + s1)
def O_X11_paid_59 (N : Nat) (s0 : Int32) (s1 : Int32) (S : cS) : Prop := True
set_option maxRecDepth 100000 in
set_option maxHeartbeats 4000000 in
theorem b_X11_paid_59 {G : zG} {o : Nat → Option va_E} {S : cS} {N : Nat} {Q : Option Value → cS → Prop} {X : Int32 → Prop} (hG : zOK G) (hR : ∀ v, X v → Q (some (.int v)) S) {s0 : Int32} {s1 : Int32} (ok : O_X11_paid_59 N s0 s1 S) (hx : X (F_X11_paid_59 N s0 s1 S)) : cX G o dX11_paid mX11_paid 59 [none, none, none, none] [.int s1, .int s0] S Q := by
  unfold O_X11_paid_59 at ok
  unfold F_X11_paid_59 at hx
  refine c_iadd dX11_paid_59 ?_
  exact c_ireturn rfl rfl dX11_paid_60 (hR _ hx)
def F_X11_paid_43 (N : Nat) (x2 : Int32) (x3 : Option Nat) (s0 : Int32) (S : cS) : Int32 := (if (f_X8_proofOf N S (za (cR S 3 (za x3))) x2) = none then (F_X11_paid_59 N s0 (nI 0) S) else (F_X11_paid_59 N s0 (nI 2) S))
def O_X11_paid_43 (N : Nat) (x2 : Int32) (x3 : Option Nat) (s0 : Int32) (S : cS) : Prop := (cis S x3 6) ∧ (cis S (cR S 3 (za x3)) 7 ∧ o_X8_proofOf N S (za (cR S 3 (za x3))) x2) ∧ (((f_X8_proofOf N S (za (cR S 3 (za x3))) x2) = none → O_X11_paid_59 N s0 (nI 0) S) ∧ (¬ (f_X8_proofOf N S (za (cR S 3 (za x3))) x2) = none → O_X11_paid_59 N s0 (nI 2) S))
set_option maxRecDepth 100000 in
set_option maxHeartbeats 4000000 in
theorem b_X11_paid_43 {G : zG} {o : Nat → Option va_E} {S : cS} {N : Nat} {Q : Option Value → cS → Prop} {X : Int32 → Prop} (hG : zOK G) (hR : ∀ v, X v → Q (some (.int v)) S) {x2 : Int32} {x3 : Option Nat} {s0 : Int32} (ok : O_X11_paid_43 N x2 x3 s0 S) (hx : X (F_X11_paid_43 N x2 x3 s0 S)) : cX G o dX11_paid mX11_paid 43 [none, none, some (.int x2), some (va_rf x3)] [.int s0] S Q := by
  unfold O_X11_paid_43 at ok
  unfold F_X11_paid_43 at hx
  refine c_aload_nQ dX11_paid_43 rfl rfl ?_
  refine c_getR (C := RX6) (T := TX6) (N := 19) (ci := 5) (k := 3) ⟨rfl, inT6, by decide, fX11_162⟩ (by decide) (by decide) (by decide) dX11_paid_44 ok.1 ?_
  have ok := ok.2
  refine c_iload_n dX11_paid_47 rfl rfl ?_
  refine c_V1q (ci := 6) (rr := (RX8, TX8, 14)) (y' := mX8_proofOf) dX11_paid_48 lX11_272 kX8_proofOf ⟨by decide, by decide⟩ rfl rfl (by decide) ok.1.1 (Nat.le_of_ble_eq_true rfl) (cc_X8_proofOf hG ok.1.2) (fun v_48 S_48 h_48 => ?_)
  obtain ⟨hv_48, hS_48⟩ := h_48
  subst hv_48
  have hS_48 := hS_48.symm
  subst hS_48
  have ok := ok.2
  refine c_ifnullI (tgt := 58) dX11_paid_51 (by decide) (fun c_51 => ?_) (fun c_51 => ?_)
  · have ok := ok.1 c_51
    have hx := xif_p c_51 hx
    refine c_iconst (v := nI 0) dX11_paid_58 (by decide) ?_
    exact cX.cutz (b_X11_paid_59 hG hR ok hx) trivial
  · have ok := ok.2 c_51
    have hx := xif_n c_51 hx
    refine c_iconst (v := nI 2) dX11_paid_54 (by decide) ?_
    refine c_goto (tgt := 59) dX11_paid_55 (by decide) ?_
    exact cX.cutz (b_X11_paid_59 hG hR ok hx) trivial
def F_X11_paid_25 (N : Nat)  (S : cS) : Int32 := (-1)
def O_X11_paid_25 (N : Nat)  (S : cS) : Prop := True
set_option maxRecDepth 100000 in
set_option maxHeartbeats 4000000 in
theorem b_X11_paid_25 {G : zG} {o : Nat → Option va_E} {S : cS} {N : Nat} {Q : Option Value → cS → Prop} {X : Int32 → Prop} (hG : zOK G) (hR : ∀ v, X v → Q (some (.int v)) S) (ok : O_X11_paid_25 N S) (hx : X (F_X11_paid_25 N S)) : cX G o dX11_paid mX11_paid 25 [none, none, none, none] [] S Q := by
  unfold O_X11_paid_25 at ok
  unfold F_X11_paid_25 at hx
  refine c_iconst (v := -1) dX11_paid_25 (by decide) ?_
  exact c_ireturn rfl rfl dX11_paid_26 (hR _ hx)
def F_X11_paid_0 (N : Nat) (x0 : Option Nat) (x1 : Int32) (x2 : Int32) (S : cS) : Int32 := (if (f_X11_honestNode N S (za x0) x1) = none then (F_X11_paid_25 N S) else (if x2 < 0 then (F_X11_paid_25 N S) else (if x2 < (cI S 1 (za (cR S 0 (za x0)))) then (if (f_X0_hasPaid N S (za (cR S 4 (za (f_X11_honestNode N S (za x0) x1)))) x2) = 0 then (F_X11_paid_43 N x2 (f_X11_honestNode N S (za x0) x1) (nI 0) S) else (F_X11_paid_43 N x2 (f_X11_honestNode N S (za x0) x1) (nI 1) S)) else (F_X11_paid_25 N S))))
def O_X11_paid_0 (N : Nat) (x0 : Option Nat) (x1 : Int32) (x2 : Int32) (S : cS) : Prop := (cis S x0 10 ∧ o_X11_honestNode N S (za x0) x1) ∧ (((f_X11_honestNode N S (za x0) x1) = none → O_X11_paid_25 N S) ∧ (¬ (f_X11_honestNode N S (za x0) x1) = none → ((x2 < 0 → O_X11_paid_25 N S) ∧ (¬ x2 < 0 → (cis S x0 10) ∧ (cis S (cR S 0 (za x0)) 9) ∧ ((x2 < (cI S 1 (za (cR S 0 (za x0)))) → (cis S (f_X11_honestNode N S (za x0) x1) 6) ∧ (cis S (cR S 4 (za (f_X11_honestNode N S (za x0) x1))) 1 ∧ o_X0_hasPaid N S (za (cR S 4 (za (f_X11_honestNode N S (za x0) x1)))) x2) ∧ (((f_X0_hasPaid N S (za (cR S 4 (za (f_X11_honestNode N S (za x0) x1)))) x2) = 0 → O_X11_paid_43 N x2 (f_X11_honestNode N S (za x0) x1) (nI 0) S) ∧ (¬ (f_X0_hasPaid N S (za (cR S 4 (za (f_X11_honestNode N S (za x0) x1)))) x2) = 0 → O_X11_paid_43 N x2 (f_X11_honestNode N S (za x0) x1) (nI 1) S))) ∧ (¬ x2 < (cI S 1 (za (cR S 0 (za x0)))) → O_X11_paid_25 N S))))))
set_option maxRecDepth 100000 in
set_option maxHeartbeats 4000000 in
theorem b_X11_paid_0 {G : zG} {o : Nat → Option va_E} {S : cS} {N : Nat} {Q : Option Value → cS → Prop} {X : Int32 → Prop} (hG : zOK G) (hR : ∀ v, X v → Q (some (.int v)) S) {x0 : Option Nat} {x1 : Int32} {x2 : Int32} (ok : O_X11_paid_0 N x0 x1 x2 S) (hx : X (F_X11_paid_0 N x0 x1 x2 S)) : cX G o dX11_paid mX11_paid 0 [some (va_rf x0), some (.int x1), some (.int x2), none] [] S Q := by
  unfold O_X11_paid_0 at ok
  unfold F_X11_paid_0 at hx
  refine c_aload_nQ dX11_paid_0 rfl rfl ?_
  refine c_iload_n dX11_paid_1 rfl rfl ?_
  refine c_V1q (ci := 9) (rr := (RX11, TX11, 4)) (y' := mX11_honestNode) dX11_paid_2 lX11_120 kX11_honestNode ⟨by decide, by decide⟩ rfl rfl (by decide) ok.1.1 (Nat.le_of_ble_eq_true rfl) (cc_X11_honestNode hG ok.1.2) (fun v_2 S_2 h_2 => ?_)
  obtain ⟨hv_2, hS_2⟩ := h_2
  subst hv_2
  have hS_2 := hS_2.symm
  subst hS_2
  have ok := ok.2
  refine c_astore_3Q dX11_paid_5 (by decide) rfl ?_
  refine c_aload_nQ dX11_paid_6 rfl rfl ?_
  refine c_ifnullI (tgt := 25) dX11_paid_7 (by decide) (fun c_7 => ?_) (fun c_7 => ?_)
  · have ok := ok.1 c_7
    have hx := xif_p c_7 hx
    exact cX.cutz (b_X11_paid_25 hG hR ok hx) trivial
  · have ok := ok.2 c_7
    have hx := xif_n c_7 hx
    refine c_iload_n dX11_paid_10 rfl rfl ?_
    refine c_if_lt (tgt := 25) dX11_paid_11 (by decide) (fun c_11 => ?_) (fun c_11 => ?_)
    · have ok := ok.1 c_11
      have hx := xif_p c_11 hx
      exact cX.cutz (b_X11_paid_25 hG hR ok hx) trivial
    · have ok := ok.2 c_11
      have hx := xif_n c_11 hx
      refine c_iload_n dX11_paid_14 rfl rfl ?_
      refine c_aload_nQ dX11_paid_15 rfl rfl ?_
      refine c_getR (C := RX11) (T := TX11) (N := 4) (ci := 9) (k := 0) ⟨rfl, inT11, by decide, fX11_22⟩ (by decide) (by decide) (by decide) dX11_paid_16 ok.1 ?_
      have ok := ok.2
      refine c_getI (C := RX10) (T := TX10) (N := 12) (ci := 8) (k := 1) ⟨rfl, inT10, by decide, fX11_87⟩ (by decide) (by decide) (by decide) dX11_paid_19 ok.1 ?_
      have ok := ok.2
      refine c_icmp_lt (tgt := 27) dX11_paid_22 (by decide) (fun c_22 => ?_) (fun c_22 => ?_)
      · have ok := ok.1 c_22
        have hx := xif_p c_22 hx
        refine c_aload_nQ dX11_paid_27 rfl rfl ?_
        refine c_getR (C := RX6) (T := TX6) (N := 19) (ci := 5) (k := 4) ⟨rfl, inT6, by decide, fX11_129⟩ (by decide) (by decide) (by decide) dX11_paid_28 ok.1 ?_
        have ok := ok.2
        refine c_iload_n dX11_paid_31 rfl rfl ?_
        refine c_V1i (ci := 0) (rr := (RX0, TX0, 6)) (y' := mX0_hasPaid) dX11_paid_32 lX11_269 kX0_hasPaid ⟨by decide, by decide⟩ rfl rfl (by decide) ok.1.1 (Nat.le_of_ble_eq_true rfl) (cc_X0_hasPaid hG ok.1.2) (fun v_32 S_32 h_32 => ?_)
        obtain ⟨hv_32, hS_32⟩ := h_32
        subst hv_32
        have hS_32 := hS_32.symm
        subst hS_32
        have ok := ok.2
        refine c_if_eq (tgt := 42) dX11_paid_35 (by decide) (fun c_35 => ?_) (fun c_35 => ?_)
        · have ok := ok.1 c_35
          have hx := xif_p c_35 hx
          refine c_iconst (v := nI 0) dX11_paid_42 (by decide) ?_
          exact cX.cutz (b_X11_paid_43 hG hR ok hx) ⟨rfl, rfl, trivial⟩
        · have ok := ok.2 c_35
          have hx := xif_n c_35 hx
          refine c_iconst (v := nI 1) dX11_paid_38 (by decide) ?_
          refine c_goto (tgt := 43) dX11_paid_39 (by decide) ?_
          exact cX.cutz (b_X11_paid_43 hG hR ok hx) ⟨rfl, rfl, trivial⟩
      · have ok := ok.2 c_22
        have hx := xif_n c_22 hx
        exact cX.cutz (b_X11_paid_25 hG hR ok hx) trivial
def f_X11_paid (N : Nat) (S : cS) (a0 : Nat) (x1 : Int32) (x2 : Int32) : Int32 := F_X11_paid_0 N (some a0) x1 x2 S
def o_X11_paid (N : Nat) (S : cS) (a0 : Nat) (x1 : Int32) (x2 : Int32) : Prop := O_X11_paid_0 N (some a0) x1 x2 S
set_option maxRecDepth 100000 in
set_option maxHeartbeats 4000000 in
theorem cc_X11_paid {G : zG} {o : Nat → Option va_E} {S : cS} {N : Nat} (hG : zOK G) {a0 : Nat} {x1 : Int32} {x2 : Int32} (ok : o_X11_paid N S a0 x1 x2) : cCi G o dX11_paid mX11_paid [.ref a0, .int x1, .int x2] S (fun v S' => v = f_X11_paid N S a0 x1 x2 ∧ S' = S) := by
  refine cC.ofX rfl (by exact Nat.le_of_ble_eq_true rfl) ?_
  show cX G o dX11_paid mX11_paid 0 [some (.ref a0), some (.int x1), some (.int x2), none] [] S _
  exact cX.cutz (b_X11_paid_0 (X := fun F => F = f_X11_paid N S a0 x1 x2) hG (fun v h => ⟨v, rfl, h, rfl⟩) ok rfl) ⟨rfl, rfl, rfl, trivial⟩
/-! X11_path -/
def F_X11_path_116 (N : Nat) (x4 : Int32) (s0 : Option Nat) (s1 : Int32) (S : cS) : Int64 × cS := ((f_X11_eight N S s0 s1 x4), S)
def O_X11_path_116 (N : Nat) (x4 : Int32) (s0 : Option Nat) (s1 : Int32) (S : cS) : Prop := (o_X11_eight N S s0 s1 x4) ∧ True
set_option maxRecDepth 100000 in
set_option maxHeartbeats 4000000 in
theorem b_X11_path_116 {G : zG} {o : Nat → Option va_E} {S : cS} {N : Nat} {Q : Option Value → cS → Prop} {X : Int64 × cS → Prop} (hG : zOK G) (hR : ∀ v S', X (v, S') → Q (some (.long v)) S') {x4 : Int32} {s0 : Option Nat} {s1 : Int32} (ok : O_X11_path_116 N x4 s0 s1 S) (hx : X (F_X11_path_116 N x4 s0 s1 S)) : cX G o dX11_path mX11_path 116 [none, none, none, none, some (.int x4), none] [.int s1, va_rf s0] S Q := by
  unfold O_X11_path_116 at ok
  unfold F_X11_path_116 at hx
  refine c_iload dX11_path_116 rfl ?_
  refine c_S3l (y' := mX11_eight) dX11_path_118 lX11_153 kX11_eight ⟨by decide, by decide⟩ (Nat.le_of_ble_eq_true rfl) (cc_X11_eight hG ok.1) (fun v_118 S_118 h_118 => ?_)
  obtain ⟨hv_118, hS_118⟩ := h_118
  subst hv_118
  have hS_118 := hS_118.symm
  subst hS_118
  have ok := ok.2
  exact c_lreturn rfl dX11_path_121 (hR _ _ hx)
def F_X11_path_78 (N : Nat) (x0 : Option Nat) (x3 : Int32) (x4 : Int32) (S : cS) : Int64 × cS := (if x3 < (cI S 5 (za (cR S 5 (za (cR S 0 (za x0)))))) then (F_X11_path_116 N x4 (cR S 2 (za x0)) ((f_X2_climb N S (za (cR S 5 (za (cR S 0 (za x0))))) x3 (cR S 2 (za x0)) (nI 0)).1) (f_X2_climb N S (za (cR S 5 (za (cR S 0 (za x0))))) x3 (cR S 2 (za x0)) (nI 0)).2) else ((-1 : Int64), S))
def O_X11_path_78 (N : Nat) (x0 : Option Nat) (x3 : Int32) (x4 : Int32) (S : cS) : Prop := (cis S x0 10) ∧ (cis S (cR S 0 (za x0)) 9) ∧ (cis S (cR S 5 (za (cR S 0 (za x0)))) 3) ∧ ((x3 < (cI S 5 (za (cR S 5 (za (cR S 0 (za x0)))))) → (cis S x0 10) ∧ (cis S x0 10) ∧ (cis S (cR S 0 (za x0)) 9) ∧ (cis S x0 10) ∧ (cis S (cR S 5 (za (cR S 0 (za x0)))) 3 ∧ o_X2_climb N S (za (cR S 5 (za (cR S 0 (za x0))))) x3 (cR S 2 (za x0)) (nI 0)) ∧ O_X11_path_116 N x4 (cR S 2 (za x0)) ((f_X2_climb N S (za (cR S 5 (za (cR S 0 (za x0))))) x3 (cR S 2 (za x0)) (nI 0)).1) (f_X2_climb N S (za (cR S 5 (za (cR S 0 (za x0))))) x3 (cR S 2 (za x0)) (nI 0)).2) ∧ (¬ x3 < (cI S 5 (za (cR S 5 (za (cR S 0 (za x0)))))) → True))
set_option maxRecDepth 100000 in
set_option maxHeartbeats 4000000 in
theorem b_X11_path_78 {G : zG} {o : Nat → Option va_E} {S : cS} {N : Nat} {Q : Option Value → cS → Prop} {X : Int64 × cS → Prop} (hG : zOK G) (hR : ∀ v S', X (v, S') → Q (some (.long v)) S') {x0 : Option Nat} {x3 : Int32} {x4 : Int32} (ok : O_X11_path_78 N x0 x3 x4 S) (hx : X (F_X11_path_78 N x0 x3 x4 S)) : cX G o dX11_path mX11_path 78 [some (va_rf x0), none, none, some (.int x3), some (.int x4), none] [] S Q := by
  unfold O_X11_path_78 at ok
  unfold F_X11_path_78 at hx
  refine c_iload_n dX11_path_78 rfl rfl ?_
  refine c_aload_nQ dX11_path_79 rfl rfl ?_
  refine c_getR (C := RX11) (T := TX11) (N := 4) (ci := 9) (k := 0) ⟨rfl, inT11, by decide, fX11_22⟩ (by decide) (by decide) (by decide) dX11_path_80 ok.1 ?_
  have ok := ok.2
  refine c_getR (C := RX10) (T := TX10) (N := 12) (ci := 8) (k := 5) ⟨rfl, inT10, by decide, fX11_103⟩ (by decide) (by decide) (by decide) dX11_path_83 ok.1 ?_
  have ok := ok.2
  refine c_getI (C := RX2) (T := TX2) (N := 6) (ci := 2) (k := 5) ⟨rfl, inT2, by decide, fX11_275⟩ (by decide) (by decide) (by decide) dX11_path_86 ok.1 ?_
  have ok := ok.2
  refine c_icmp_lt (tgt := 96) dX11_path_89 (by decide) (fun c_89 => ?_) (fun c_89 => ?_)
  · have ok := ok.1 c_89
    have hx := xif_p c_89 hx
    refine c_aload_nQ dX11_path_96 rfl rfl ?_
    refine c_getR (C := RX11) (T := TX11) (N := 4) (ci := 9) (k := 2) ⟨rfl, inT11, by decide, fX11_13⟩ (by decide) (by decide) (by decide) dX11_path_97 ok.1 ?_
    have ok := ok.2
    refine c_aload_nQ dX11_path_100 rfl rfl ?_
    refine c_getR (C := RX11) (T := TX11) (N := 4) (ci := 9) (k := 0) ⟨rfl, inT11, by decide, fX11_22⟩ (by decide) (by decide) (by decide) dX11_path_101 ok.1 ?_
    have ok := ok.2
    refine c_getR (C := RX10) (T := TX10) (N := 12) (ci := 8) (k := 5) ⟨rfl, inT10, by decide, fX11_103⟩ (by decide) (by decide) (by decide) dX11_path_104 ok.1 ?_
    have ok := ok.2
    refine c_iload_n dX11_path_107 rfl rfl ?_
    refine c_aload_nQ dX11_path_108 rfl rfl ?_
    refine c_getR (C := RX11) (T := TX11) (N := 4) (ci := 9) (k := 2) ⟨rfl, inT11, by decide, fX11_13⟩ (by decide) (by decide) (by decide) dX11_path_109 ok.1 ?_
    have ok := ok.2
    refine c_iconst (v := nI 0) dX11_path_112 (by decide) ?_
    refine c_V3i (ci := 2) (rr := (RX2, TX2, 6)) (y' := mX2_climb) dX11_path_113 lX11_113 kX2_climb ⟨by decide, by decide⟩ rfl rfl (by decide) ok.1.1 (by simp only [List.map_cons, List.map_nil, List.sum_cons, List.sum_nil, zcat_rf, zcat_i, zcat_l, zcat_r] <;> decide) (cc_X2_climb hG ok.1.2) (fun v_113 S_113 h_113 => ?_)
    obtain ⟨hv_113, hS_113⟩ := h_113
    subst hv_113
    have hS_113 := hS_113.symm
    subst hS_113
    have ok := ok.2
    exact cX.cutz (b_X11_path_116 hG hR ok hx) ⟨rfl, trivial⟩
  · have ok := ok.2 c_89
    have hx := xif_n c_89 hx
    refine c_ldc2 dX11_path_92 nX11_200 ?_
    exact c_lreturn rfl dX11_path_95 (hR _ _ hx)
def F_X11_path_53 (N : Nat) (x0 : Option Nat) (x3 : Int32) (x4 : Int32) (s0 : Int32) (S : cS) : Int64 × cS := (if 0 ≤ s0 then (F_X11_path_78 N x0 x3 x4 (f_X2_plant N S (za (cR S 5 (za (cR S 0 (za x0))))) (cR S 10 (za (cR S 0 (za x0)))) (nI 0))) else ((-1 : Int64), S))
def O_X11_path_53 (N : Nat) (x0 : Option Nat) (x3 : Int32) (x4 : Int32) (s0 : Int32) (S : cS) : Prop := ((0 ≤ s0 → (cis S x0 10) ∧ (cis S (cR S 0 (za x0)) 9) ∧ (cis S x0 10) ∧ (cis S (cR S 0 (za x0)) 9) ∧ (cis S (cR S 5 (za (cR S 0 (za x0)))) 3 ∧ o_X2_plant N S (za (cR S 5 (za (cR S 0 (za x0))))) (cR S 10 (za (cR S 0 (za x0)))) (nI 0)) ∧ O_X11_path_78 N x0 x3 x4 (f_X2_plant N S (za (cR S 5 (za (cR S 0 (za x0))))) (cR S 10 (za (cR S 0 (za x0)))) (nI 0))) ∧ (¬ 0 ≤ s0 → True))
set_option maxRecDepth 100000 in
set_option maxHeartbeats 4000000 in
theorem b_X11_path_53 {G : zG} {o : Nat → Option va_E} {S : cS} {N : Nat} {Q : Option Value → cS → Prop} {X : Int64 × cS → Prop} (hG : zOK G) (hR : ∀ v S', X (v, S') → Q (some (.long v)) S') {x0 : Option Nat} {x3 : Int32} {x4 : Int32} {s0 : Int32} (ok : O_X11_path_53 N x0 x3 x4 s0 S) (hx : X (F_X11_path_53 N x0 x3 x4 s0 S)) : cX G o dX11_path mX11_path 53 [some (va_rf x0), none, none, some (.int x3), some (.int x4), none] [.int s0] S Q := by
  unfold O_X11_path_53 at ok
  unfold F_X11_path_53 at hx
  refine c_if_ge (tgt := 60) dX11_path_53 (by decide) (fun c_53 => ?_) (fun c_53 => ?_)
  · have ok := ok.1 c_53
    have hx := xif_p c_53 hx
    refine c_aload_nQ dX11_path_60 rfl rfl ?_
    refine c_getR (C := RX11) (T := TX11) (N := 4) (ci := 9) (k := 0) ⟨rfl, inT11, by decide, fX11_22⟩ (by decide) (by decide) (by decide) dX11_path_61 ok.1 ?_
    have ok := ok.2
    refine c_getR (C := RX10) (T := TX10) (N := 12) (ci := 8) (k := 5) ⟨rfl, inT10, by decide, fX11_103⟩ (by decide) (by decide) (by decide) dX11_path_64 ok.1 ?_
    have ok := ok.2
    refine c_aload_nQ dX11_path_67 rfl rfl ?_
    refine c_getR (C := RX11) (T := TX11) (N := 4) (ci := 9) (k := 0) ⟨rfl, inT11, by decide, fX11_22⟩ (by decide) (by decide) (by decide) dX11_path_68 ok.1 ?_
    have ok := ok.2
    refine c_getR (C := RX10) (T := TX10) (N := 12) (ci := 8) (k := 10) ⟨rfl, inT10, by decide, fX11_256⟩ (by decide) (by decide) (by decide) dX11_path_71 ok.1 ?_
    have ok := ok.2
    refine c_iconst (v := nI 0) dX11_path_74 (by decide) ?_
    refine c_V2v (ci := 2) (rr := (RX2, TX2, 6)) (y' := mX2_plant) dX11_path_75 lX11_107 kX2_plant ⟨by decide, by decide⟩ rfl rfl (by decide) ok.1.1 (Nat.le_of_ble_eq_true rfl) (cc_X2_plant hG ok.1.2) (fun S_75 h_75 => ?_)
    subst h_75
    have ok := ok.2
    exact cX.cutz (b_X11_path_78 hG hR ok hx) ⟨rfl, rfl, rfl, trivial⟩
  · have ok := ok.2 c_53
    have hx := xif_n c_53 hx
    refine c_ldc2 dX11_path_56 nX11_200 ?_
    exact c_lreturn rfl dX11_path_59 (hR _ _ hx)
def F_X11_path_32 (N : Nat)  (S : cS) : Int64 × cS := ((-1 : Int64), S)
def O_X11_path_32 (N : Nat)  (S : cS) : Prop := True
set_option maxRecDepth 100000 in
set_option maxHeartbeats 4000000 in
theorem b_X11_path_32 {G : zG} {o : Nat → Option va_E} {S : cS} {N : Nat} {Q : Option Value → cS → Prop} {X : Int64 × cS → Prop} (hG : zOK G) (hR : ∀ v S', X (v, S') → Q (some (.long v)) S') (ok : O_X11_path_32 N S) (hx : X (F_X11_path_32 N S)) : cX G o dX11_path mX11_path 32 [none, none, none, none, none, none] [] S Q := by
  unfold O_X11_path_32 at ok
  unfold F_X11_path_32 at hx
  refine c_ldc2 dX11_path_32 nX11_200 ?_
  exact c_lreturn rfl dX11_path_35 (hR _ _ hx)
def F_X11_path_0 (N : Nat) (x0 : Option Nat) (x1 : Int32) (x2 : Int32) (x3 : Int32) (x4 : Int32) (S : cS) : Int64 × cS := (if (f_X11_honestNode N S (za x0) x1) = none then (F_X11_path_32 N S) else (if x2 < (nI 1) then (F_X11_path_32 N S) else (if (nI 40) < x2 then (F_X11_path_32 N S) else (if x3 < 0 then (F_X11_path_32 N S) else (if 0 ≤ x4 then (F_X11_path_53 N x0 x3 x4 ((f_X4_fetch N S (za (cR S 2 (za (f_X11_honestNode N S (za x0) x1)))) x2 (cR S 10 (za (cR S 0 (za x0)))) (nI 0)).1) (f_X4_fetch N S (za (cR S 2 (za (f_X11_honestNode N S (za x0) x1)))) x2 (cR S 10 (za (cR S 0 (za x0)))) (nI 0)).2) else (F_X11_path_32 N S))))))
def O_X11_path_0 (N : Nat) (x0 : Option Nat) (x1 : Int32) (x2 : Int32) (x3 : Int32) (x4 : Int32) (S : cS) : Prop := (cis S x0 10 ∧ o_X11_honestNode N S (za x0) x1) ∧ (((f_X11_honestNode N S (za x0) x1) = none → O_X11_path_32 N S) ∧ (¬ (f_X11_honestNode N S (za x0) x1) = none → ((x2 < (nI 1) → O_X11_path_32 N S) ∧ (¬ x2 < (nI 1) → (((nI 40) < x2 → O_X11_path_32 N S) ∧ (¬ (nI 40) < x2 → ((x3 < 0 → O_X11_path_32 N S) ∧ (¬ x3 < 0 → ((0 ≤ x4 → (cis S (f_X11_honestNode N S (za x0) x1) 6) ∧ (cis S x0 10) ∧ (cis S (cR S 0 (za x0)) 9) ∧ (cis S (cR S 2 (za (f_X11_honestNode N S (za x0) x1))) 4 ∧ o_X4_fetch N S (za (cR S 2 (za (f_X11_honestNode N S (za x0) x1)))) x2 (cR S 10 (za (cR S 0 (za x0)))) (nI 0)) ∧ O_X11_path_53 N x0 x3 x4 ((f_X4_fetch N S (za (cR S 2 (za (f_X11_honestNode N S (za x0) x1)))) x2 (cR S 10 (za (cR S 0 (za x0)))) (nI 0)).1) (f_X4_fetch N S (za (cR S 2 (za (f_X11_honestNode N S (za x0) x1)))) x2 (cR S 10 (za (cR S 0 (za x0)))) (nI 0)).2) ∧ (¬ 0 ≤ x4 → O_X11_path_32 N S))))))))))
set_option maxRecDepth 100000 in
set_option maxHeartbeats 4000000 in
theorem b_X11_path_0 {G : zG} {o : Nat → Option va_E} {S : cS} {N : Nat} {Q : Option Value → cS → Prop} {X : Int64 × cS → Prop} (hG : zOK G) (hR : ∀ v S', X (v, S') → Q (some (.long v)) S') {x0 : Option Nat} {x1 : Int32} {x2 : Int32} {x3 : Int32} {x4 : Int32} (ok : O_X11_path_0 N x0 x1 x2 x3 x4 S) (hx : X (F_X11_path_0 N x0 x1 x2 x3 x4 S)) : cX G o dX11_path mX11_path 0 [some (va_rf x0), some (.int x1), some (.int x2), some (.int x3), some (.int x4), none] [] S Q := by
  unfold O_X11_path_0 at ok
  unfold F_X11_path_0 at hx
  refine c_aload_nQ dX11_path_0 rfl rfl ?_
  refine c_iload_n dX11_path_1 rfl rfl ?_
  refine c_V1q (ci := 9) (rr := (RX11, TX11, 4)) (y' := mX11_honestNode) dX11_path_2 lX11_120 kX11_honestNode ⟨by decide, by decide⟩ rfl rfl (by decide) ok.1.1 (Nat.le_of_ble_eq_true rfl) (cc_X11_honestNode hG ok.1.2) (fun v_2 S_2 h_2 => ?_)
  obtain ⟨hv_2, hS_2⟩ := h_2
  subst hv_2
  have hS_2 := hS_2.symm
  subst hS_2
  have ok := ok.2
  refine c_astore_5Q dX11_path_5 (by decide) rfl ?_
  refine c_aloadQ dX11_path_7 rfl ?_
  refine c_ifnullI (tgt := 32) dX11_path_9 (by decide) (fun c_9 => ?_) (fun c_9 => ?_)
  · have ok := ok.1 c_9
    have hx := xif_p c_9 hx
    exact cX.cutz (b_X11_path_32 hG hR ok hx) trivial
  · have ok := ok.2 c_9
    have hx := xif_n c_9 hx
    refine c_iload_n dX11_path_12 rfl rfl ?_
    refine c_iconst (v := nI 1) dX11_path_13 (by decide) ?_
    refine c_icmp_lt (tgt := 32) dX11_path_14 (by decide) (fun c_14 => ?_) (fun c_14 => ?_)
    · have ok := ok.1 c_14
      have hx := xif_p c_14 hx
      exact cX.cutz (b_X11_path_32 hG hR ok hx) trivial
    · have ok := ok.2 c_14
      have hx := xif_n c_14 hx
      refine c_iload_n dX11_path_17 rfl rfl ?_
      refine c_bipush (v := nI 40) dX11_path_18 (by decide) ?_
      refine c_icmp_gt (tgt := 32) dX11_path_20 (by decide) (fun c_20 => ?_) (fun c_20 => ?_)
      · have ok := ok.1 c_20
        have hx := xif_p c_20 hx
        exact cX.cutz (b_X11_path_32 hG hR ok hx) trivial
      · have ok := ok.2 c_20
        have hx := xif_n c_20 hx
        refine c_iload_n dX11_path_23 rfl rfl ?_
        refine c_if_lt (tgt := 32) dX11_path_24 (by decide) (fun c_24 => ?_) (fun c_24 => ?_)
        · have ok := ok.1 c_24
          have hx := xif_p c_24 hx
          exact cX.cutz (b_X11_path_32 hG hR ok hx) trivial
        · have ok := ok.2 c_24
          have hx := xif_n c_24 hx
          refine c_iload dX11_path_27 rfl ?_
          refine c_if_ge (tgt := 36) dX11_path_29 (by decide) (fun c_29 => ?_) (fun c_29 => ?_)
          · have ok := ok.1 c_29
            have hx := xif_p c_29 hx
            refine c_aloadQ dX11_path_36 rfl ?_
            refine c_getR (C := RX6) (T := TX6) (N := 19) (ci := 5) (k := 2) ⟨rfl, inT6, by decide, fX11_205⟩ (by decide) (by decide) (by decide) dX11_path_38 ok.1 ?_
            have ok := ok.2
            refine c_iload_n dX11_path_41 rfl rfl ?_
            refine c_aload_nQ dX11_path_42 rfl rfl ?_
            refine c_getR (C := RX11) (T := TX11) (N := 4) (ci := 9) (k := 0) ⟨rfl, inT11, by decide, fX11_22⟩ (by decide) (by decide) (by decide) dX11_path_43 ok.1 ?_
            have ok := ok.2
            refine c_getR (C := RX10) (T := TX10) (N := 12) (ci := 8) (k := 10) ⟨rfl, inT10, by decide, fX11_256⟩ (by decide) (by decide) (by decide) dX11_path_46 ok.1 ?_
            have ok := ok.2
            refine c_iconst (v := nI 0) dX11_path_49 (by decide) ?_
            refine c_V3i (ci := 3) (rr := (RX4, TX4, 10)) (y' := mX4_fetch) dX11_path_50 lX11_259 kX4_fetch ⟨by decide, by decide⟩ rfl rfl (by decide) ok.1.1 (Nat.le_of_ble_eq_true rfl) (cc_X4_fetch hG ok.1.2) (fun v_50 S_50 h_50 => ?_)
            obtain ⟨hv_50, hS_50⟩ := h_50
            subst hv_50
            have hS_50 := hS_50.symm
            subst hS_50
            have ok := ok.2
            exact cX.cutz (b_X11_path_53 hG hR ok hx) ⟨rfl, rfl, rfl, trivial⟩
          · have ok := ok.2 c_29
            have hx := xif_n c_29 hx
            exact cX.cutz (b_X11_path_32 hG hR ok hx) trivial
def f_X11_path (N : Nat) (S : cS) (a0 : Nat) (x1 : Int32) (x2 : Int32) (x3 : Int32) (x4 : Int32) : Int64 × cS := F_X11_path_0 N (some a0) x1 x2 x3 x4 S
def o_X11_path (N : Nat) (S : cS) (a0 : Nat) (x1 : Int32) (x2 : Int32) (x3 : Int32) (x4 : Int32) : Prop := O_X11_path_0 N (some a0) x1 x2 x3 x4 S
set_option maxRecDepth 100000 in
set_option maxHeartbeats 4000000 in
theorem cc_X11_path {G : zG} {o : Nat → Option va_E} {S : cS} {N : Nat} (hG : zOK G) {a0 : Nat} {x1 : Int32} {x2 : Int32} {x3 : Int32} {x4 : Int32} (ok : o_X11_path N S a0 x1 x2 x3 x4) : cCl G o dX11_path mX11_path [.ref a0, .int x1, .int x2, .int x3, .int x4] S (fun v S' => v = (f_X11_path N S a0 x1 x2 x3 x4).1 ∧ S' = (f_X11_path N S a0 x1 x2 x3 x4).2) := by
  refine cC.ofX rfl (by exact Nat.le_of_ble_eq_true rfl) ?_
  show cX G o dX11_path mX11_path 0 [some (.ref a0), some (.int x1), some (.int x2), some (.int x3), some (.int x4), none] [] S _
  exact cX.cutz (b_X11_path_0 (X := fun F => F = f_X11_path N S a0 x1 x2 x3 x4) hG (fun v S' h => ⟨v, rfl, by rw [← h], by rw [← h]⟩) ok rfl) ⟨rfl, rfl, rfl, rfl, rfl, trivial⟩
/-! X11_account -/
def F_X11_account_82 (N : Nat) (x3 : Int32) (s0 : Option Nat) (s1 : Int32) (s2 : Int32) (S : cS) : Int64 × cS := ((f_X11_eight N S s0 (s1 + s2) x3), S)
def O_X11_account_82 (N : Nat) (x3 : Int32) (s0 : Option Nat) (s1 : Int32) (s2 : Int32) (S : cS) : Prop := (o_X11_eight N S s0 (s1 + s2) x3) ∧ True
set_option maxRecDepth 100000 in
set_option maxHeartbeats 4000000 in
theorem b_X11_account_82 {G : zG} {o : Nat → Option va_E} {S : cS} {N : Nat} {Q : Option Value → cS → Prop} {X : Int64 × cS → Prop} (hG : zOK G) (hR : ∀ v S', X (v, S') → Q (some (.long v)) S') {x3 : Int32} {s0 : Option Nat} {s1 : Int32} {s2 : Int32} (ok : O_X11_account_82 N x3 s0 s1 s2 S) (hx : X (F_X11_account_82 N x3 s0 s1 s2 S)) : cX G o dX11_account mX11_account 82 [none, none, none, some (.int x3), none] [.int s2, .int s1, va_rf s0] S Q := by
  unfold O_X11_account_82 at ok
  unfold F_X11_account_82 at hx
  refine c_iadd dX11_account_82 ?_
  refine c_iload_n dX11_account_83 rfl rfl ?_
  refine c_S3l (y' := mX11_eight) dX11_account_84 lX11_153 kX11_eight ⟨by decide, by decide⟩ (Nat.le_of_ble_eq_true rfl) (cc_X11_eight hG ok.1) (fun v_84 S_84 h_84 => ?_)
  obtain ⟨hv_84, hS_84⟩ := h_84
  subst hv_84
  have hS_84 := hS_84.symm
  subst hS_84
  have ok := ok.2
  exact c_lreturn rfl dX11_account_87 (hR _ _ hx)
def F_X11_account_59 (N : Nat) (x0 : Option Nat) (x2 : Int32) (x3 : Int32) (S : cS) : Int64 × cS := (F_X11_account_82 N x3 (cR S 2 (za x0)) (nI 6) ((f_X2_climb N S (za (cR S 5 (za (cR S 0 (za x0))))) x2 (cR S 2 (za x0)) (nI 6)).1) (f_X2_climb N S (za (cR S 5 (za (cR S 0 (za x0))))) x2 (cR S 2 (za x0)) (nI 6)).2)
def O_X11_account_59 (N : Nat) (x0 : Option Nat) (x2 : Int32) (x3 : Int32) (S : cS) : Prop := (cis S x0 10) ∧ (cis S x0 10) ∧ (cis S (cR S 0 (za x0)) 9) ∧ (cis S x0 10) ∧ (cis S (cR S 5 (za (cR S 0 (za x0)))) 3 ∧ o_X2_climb N S (za (cR S 5 (za (cR S 0 (za x0))))) x2 (cR S 2 (za x0)) (nI 6)) ∧ O_X11_account_82 N x3 (cR S 2 (za x0)) (nI 6) ((f_X2_climb N S (za (cR S 5 (za (cR S 0 (za x0))))) x2 (cR S 2 (za x0)) (nI 6)).1) (f_X2_climb N S (za (cR S 5 (za (cR S 0 (za x0))))) x2 (cR S 2 (za x0)) (nI 6)).2
set_option maxRecDepth 100000 in
set_option maxHeartbeats 4000000 in
theorem b_X11_account_59 {G : zG} {o : Nat → Option va_E} {S : cS} {N : Nat} {Q : Option Value → cS → Prop} {X : Int64 × cS → Prop} (hG : zOK G) (hR : ∀ v S', X (v, S') → Q (some (.long v)) S') {x0 : Option Nat} {x2 : Int32} {x3 : Int32} (ok : O_X11_account_59 N x0 x2 x3 S) (hx : X (F_X11_account_59 N x0 x2 x3 S)) : cX G o dX11_account mX11_account 59 [some (va_rf x0), none, some (.int x2), some (.int x3), none] [] S Q := by
  unfold O_X11_account_59 at ok
  unfold F_X11_account_59 at hx
  refine c_aload_nQ dX11_account_59 rfl rfl ?_
  refine c_getR (C := RX11) (T := TX11) (N := 4) (ci := 9) (k := 2) ⟨rfl, inT11, by decide, fX11_13⟩ (by decide) (by decide) (by decide) dX11_account_60 ok.1 ?_
  have ok := ok.2
  refine c_bipush (v := nI 6) dX11_account_63 (by decide) ?_
  refine c_aload_nQ dX11_account_65 rfl rfl ?_
  refine c_getR (C := RX11) (T := TX11) (N := 4) (ci := 9) (k := 0) ⟨rfl, inT11, by decide, fX11_22⟩ (by decide) (by decide) (by decide) dX11_account_66 ok.1 ?_
  have ok := ok.2
  refine c_getR (C := RX10) (T := TX10) (N := 12) (ci := 8) (k := 5) ⟨rfl, inT10, by decide, fX11_103⟩ (by decide) (by decide) (by decide) dX11_account_69 ok.1 ?_
  have ok := ok.2
  refine c_iload_n dX11_account_72 rfl rfl ?_
  refine c_aload_nQ dX11_account_73 rfl rfl ?_
  refine c_getR (C := RX11) (T := TX11) (N := 4) (ci := 9) (k := 2) ⟨rfl, inT11, by decide, fX11_13⟩ (by decide) (by decide) (by decide) dX11_account_74 ok.1 ?_
  have ok := ok.2
  refine c_bipush (v := nI 6) dX11_account_77 (by decide) ?_
  refine c_V3i (ci := 2) (rr := (RX2, TX2, 6)) (y' := mX2_climb) dX11_account_79 lX11_113 kX2_climb ⟨by decide, by decide⟩ rfl rfl (by decide) ok.1.1 (by simp only [List.map_cons, List.map_nil, List.sum_cons, List.sum_nil, zcat_rf, zcat_i, zcat_l, zcat_r] <;> decide) (cc_X2_climb hG ok.1.2) (fun v_79 S_79 h_79 => ?_)
  obtain ⟨hv_79, hS_79⟩ := h_79
  subst hv_79
  have hS_79 := hS_79.symm
  subst hS_79
  have ok := ok.2
  exact cX.cutz (b_X11_account_82 hG hR ok hx) ⟨rfl, trivial⟩
def F_X11_account_45 (N : Nat) (x0 : Option Nat) (x2 : Int32) (x3 : Int32) (x4 : Option Nat) (S : cS) : Int64 × cS := (F_X11_account_59 N x0 x2 x3 (f_X0_encode N S (za (cR S 4 (za x4))) x2 (cR S 2 (za x0)) (nI 0)))
def O_X11_account_45 (N : Nat) (x0 : Option Nat) (x2 : Int32) (x3 : Int32) (x4 : Option Nat) (S : cS) : Prop := (cis S x4 6) ∧ (cis S x0 10) ∧ (cis S (cR S 4 (za x4)) 1 ∧ o_X0_encode N S (za (cR S 4 (za x4))) x2 (cR S 2 (za x0)) (nI 0)) ∧ O_X11_account_59 N x0 x2 x3 (f_X0_encode N S (za (cR S 4 (za x4))) x2 (cR S 2 (za x0)) (nI 0))
set_option maxRecDepth 100000 in
set_option maxHeartbeats 4000000 in
theorem b_X11_account_45 {G : zG} {o : Nat → Option va_E} {S : cS} {N : Nat} {Q : Option Value → cS → Prop} {X : Int64 × cS → Prop} (hG : zOK G) (hR : ∀ v S', X (v, S') → Q (some (.long v)) S') {x0 : Option Nat} {x2 : Int32} {x3 : Int32} {x4 : Option Nat} (ok : O_X11_account_45 N x0 x2 x3 x4 S) (hx : X (F_X11_account_45 N x0 x2 x3 x4 S)) : cX G o dX11_account mX11_account 45 [some (va_rf x0), none, some (.int x2), some (.int x3), some (va_rf x4)] [] S Q := by
  unfold O_X11_account_45 at ok
  unfold F_X11_account_45 at hx
  refine c_aloadQ dX11_account_45 rfl ?_
  refine c_getR (C := RX6) (T := TX6) (N := 19) (ci := 5) (k := 4) ⟨rfl, inT6, by decide, fX11_129⟩ (by decide) (by decide) (by decide) dX11_account_47 ok.1 ?_
  have ok := ok.2
  refine c_iload_n dX11_account_50 rfl rfl ?_
  refine c_aload_nQ dX11_account_51 rfl rfl ?_
  refine c_getR (C := RX11) (T := TX11) (N := 4) (ci := 9) (k := 2) ⟨rfl, inT11, by decide, fX11_13⟩ (by decide) (by decide) (by decide) dX11_account_52 ok.1 ?_
  have ok := ok.2
  refine c_iconst (v := nI 0) dX11_account_55 (by decide) ?_
  refine c_V3v (ci := 0) (rr := (RX0, TX0, 6)) (y' := mX0_encode) dX11_account_56 lX11_281 kX0_encode ⟨by decide, by decide⟩ rfl rfl (by decide) ok.1.1 (Nat.le_of_ble_eq_true rfl) (cc_X0_encode hG ok.1.2) (fun S_56 h_56 => ?_)
  subst h_56
  have ok := ok.2
  exact cX.cutz (b_X11_account_59 hG hR ok hx) ⟨rfl, rfl, rfl, trivial⟩
def F_X11_account_26 (N : Nat)  (S : cS) : Int64 × cS := ((-1 : Int64), S)
def O_X11_account_26 (N : Nat)  (S : cS) : Prop := True
set_option maxRecDepth 100000 in
set_option maxHeartbeats 4000000 in
theorem b_X11_account_26 {G : zG} {o : Nat → Option va_E} {S : cS} {N : Nat} {Q : Option Value → cS → Prop} {X : Int64 × cS → Prop} (hG : zOK G) (hR : ∀ v S', X (v, S') → Q (some (.long v)) S') (ok : O_X11_account_26 N S) (hx : X (F_X11_account_26 N S)) : cX G o dX11_account mX11_account 26 [none, none, none, none, none] [] S Q := by
  unfold O_X11_account_26 at ok
  unfold F_X11_account_26 at hx
  refine c_ldc2 dX11_account_26 nX11_200 ?_
  exact c_lreturn rfl dX11_account_29 (hR _ _ hx)
def F_X11_account_0 (N : Nat) (x0 : Option Nat) (x1 : Int32) (x2 : Int32) (x3 : Int32) (S : cS) : Int64 × cS := (if (f_X11_honestNode N S (za x0) x1) = none then (F_X11_account_26 N S) else (if x2 < 0 then (F_X11_account_26 N S) else (if (nI 16) ≤ x2 then (F_X11_account_26 N S) else (if 0 ≤ x3 then (F_X11_account_45 N x0 x2 x3 (f_X11_honestNode N S (za x0) x1) (f_X0_plant N S (za (cR S 4 (za (f_X11_honestNode N S (za x0) x1)))) (cR S 5 (za (cR S 0 (za x0)))))) else (F_X11_account_26 N S)))))
def O_X11_account_0 (N : Nat) (x0 : Option Nat) (x1 : Int32) (x2 : Int32) (x3 : Int32) (S : cS) : Prop := (cis S x0 10 ∧ o_X11_honestNode N S (za x0) x1) ∧ (((f_X11_honestNode N S (za x0) x1) = none → O_X11_account_26 N S) ∧ (¬ (f_X11_honestNode N S (za x0) x1) = none → ((x2 < 0 → O_X11_account_26 N S) ∧ (¬ x2 < 0 → (((nI 16) ≤ x2 → O_X11_account_26 N S) ∧ (¬ (nI 16) ≤ x2 → ((0 ≤ x3 → (cis S (f_X11_honestNode N S (za x0) x1) 6) ∧ (cis S x0 10) ∧ (cis S (cR S 0 (za x0)) 9) ∧ (cis S (cR S 4 (za (f_X11_honestNode N S (za x0) x1))) 1 ∧ o_X0_plant N S (za (cR S 4 (za (f_X11_honestNode N S (za x0) x1)))) (cR S 5 (za (cR S 0 (za x0))))) ∧ O_X11_account_45 N x0 x2 x3 (f_X11_honestNode N S (za x0) x1) (f_X0_plant N S (za (cR S 4 (za (f_X11_honestNode N S (za x0) x1)))) (cR S 5 (za (cR S 0 (za x0)))))) ∧ (¬ 0 ≤ x3 → O_X11_account_26 N S))))))))
set_option maxRecDepth 100000 in
set_option maxHeartbeats 4000000 in
theorem b_X11_account_0 {G : zG} {o : Nat → Option va_E} {S : cS} {N : Nat} {Q : Option Value → cS → Prop} {X : Int64 × cS → Prop} (hG : zOK G) (hR : ∀ v S', X (v, S') → Q (some (.long v)) S') {x0 : Option Nat} {x1 : Int32} {x2 : Int32} {x3 : Int32} (ok : O_X11_account_0 N x0 x1 x2 x3 S) (hx : X (F_X11_account_0 N x0 x1 x2 x3 S)) : cX G o dX11_account mX11_account 0 [some (va_rf x0), some (.int x1), some (.int x2), some (.int x3), none] [] S Q := by
  unfold O_X11_account_0 at ok
  unfold F_X11_account_0 at hx
  refine c_aload_nQ dX11_account_0 rfl rfl ?_
  refine c_iload_n dX11_account_1 rfl rfl ?_
  refine c_V1q (ci := 9) (rr := (RX11, TX11, 4)) (y' := mX11_honestNode) dX11_account_2 lX11_120 kX11_honestNode ⟨by decide, by decide⟩ rfl rfl (by decide) ok.1.1 (Nat.le_of_ble_eq_true rfl) (cc_X11_honestNode hG ok.1.2) (fun v_2 S_2 h_2 => ?_)
  obtain ⟨hv_2, hS_2⟩ := h_2
  subst hv_2
  have hS_2 := hS_2.symm
  subst hS_2
  have ok := ok.2
  refine c_astore_4Q dX11_account_5 (by decide) rfl ?_
  refine c_aloadQ dX11_account_7 rfl ?_
  refine c_ifnullI (tgt := 26) dX11_account_9 (by decide) (fun c_9 => ?_) (fun c_9 => ?_)
  · have ok := ok.1 c_9
    have hx := xif_p c_9 hx
    exact cX.cutz (b_X11_account_26 hG hR ok hx) trivial
  · have ok := ok.2 c_9
    have hx := xif_n c_9 hx
    refine c_iload_n dX11_account_12 rfl rfl ?_
    refine c_if_lt (tgt := 26) dX11_account_13 (by decide) (fun c_13 => ?_) (fun c_13 => ?_)
    · have ok := ok.1 c_13
      have hx := xif_p c_13 hx
      exact cX.cutz (b_X11_account_26 hG hR ok hx) trivial
    · have ok := ok.2 c_13
      have hx := xif_n c_13 hx
      refine c_iload_n dX11_account_16 rfl rfl ?_
      refine c_bipush (v := nI 16) dX11_account_17 (by decide) ?_
      refine c_icmp_ge (tgt := 26) dX11_account_19 (by decide) (fun c_19 => ?_) (fun c_19 => ?_)
      · have ok := ok.1 c_19
        have hx := xif_p c_19 hx
        exact cX.cutz (b_X11_account_26 hG hR ok hx) trivial
      · have ok := ok.2 c_19
        have hx := xif_n c_19 hx
        refine c_iload_n dX11_account_22 rfl rfl ?_
        refine c_if_ge (tgt := 30) dX11_account_23 (by decide) (fun c_23 => ?_) (fun c_23 => ?_)
        · have ok := ok.1 c_23
          have hx := xif_p c_23 hx
          refine c_aloadQ dX11_account_30 rfl ?_
          refine c_getR (C := RX6) (T := TX6) (N := 19) (ci := 5) (k := 4) ⟨rfl, inT6, by decide, fX11_129⟩ (by decide) (by decide) (by decide) dX11_account_32 ok.1 ?_
          have ok := ok.2
          refine c_aload_nQ dX11_account_35 rfl rfl ?_
          refine c_getR (C := RX11) (T := TX11) (N := 4) (ci := 9) (k := 0) ⟨rfl, inT11, by decide, fX11_22⟩ (by decide) (by decide) (by decide) dX11_account_36 ok.1 ?_
          have ok := ok.2
          refine c_getR (C := RX10) (T := TX10) (N := 12) (ci := 8) (k := 5) ⟨rfl, inT10, by decide, fX11_103⟩ (by decide) (by decide) (by decide) dX11_account_39 ok.1 ?_
          have ok := ok.2
          refine c_V1v (ci := 0) (rr := (RX0, TX0, 6)) (y' := mX0_plant) dX11_account_42 lX11_278 kX0_plant ⟨by decide, by decide⟩ rfl rfl (by decide) ok.1.1 (Nat.le_of_ble_eq_true rfl) (cc_X0_plant hG ok.1.2) (fun S_42 h_42 => ?_)
          subst h_42
          have ok := ok.2
          exact cX.cutz (b_X11_account_45 hG hR ok hx) ⟨rfl, rfl, rfl, rfl, trivial⟩
        · have ok := ok.2 c_23
          have hx := xif_n c_23 hx
          exact cX.cutz (b_X11_account_26 hG hR ok hx) trivial
def f_X11_account (N : Nat) (S : cS) (a0 : Nat) (x1 : Int32) (x2 : Int32) (x3 : Int32) : Int64 × cS := F_X11_account_0 N (some a0) x1 x2 x3 S
def o_X11_account (N : Nat) (S : cS) (a0 : Nat) (x1 : Int32) (x2 : Int32) (x3 : Int32) : Prop := O_X11_account_0 N (some a0) x1 x2 x3 S
set_option maxRecDepth 100000 in
set_option maxHeartbeats 4000000 in
theorem cc_X11_account {G : zG} {o : Nat → Option va_E} {S : cS} {N : Nat} (hG : zOK G) {a0 : Nat} {x1 : Int32} {x2 : Int32} {x3 : Int32} (ok : o_X11_account N S a0 x1 x2 x3) : cCl G o dX11_account mX11_account [.ref a0, .int x1, .int x2, .int x3] S (fun v S' => v = (f_X11_account N S a0 x1 x2 x3).1 ∧ S' = (f_X11_account N S a0 x1 x2 x3).2) := by
  refine cC.ofX rfl (by exact Nat.le_of_ble_eq_true rfl) ?_
  show cX G o dX11_account mX11_account 0 [some (.ref a0), some (.int x1), some (.int x2), some (.int x3), none] [] S _
  exact cX.cutz (b_X11_account_0 (X := fun F => F = f_X11_account N S a0 x1 x2 x3) hG (fun v S' h => ⟨v, rfl, by rw [← h], by rw [← h]⟩) ok rfl) ⟨rfl, rfl, rfl, rfl, trivial⟩
/-! X11_sector -/
def F_X11_sector_28 (N : Nat)  (S : cS) : Int64 := (-1 : Int64)
def O_X11_sector_28 (N : Nat)  (S : cS) : Prop := True
set_option maxRecDepth 100000 in
set_option maxHeartbeats 4000000 in
theorem b_X11_sector_28 {G : zG} {o : Nat → Option va_E} {S : cS} {N : Nat} {Q : Option Value → cS → Prop} {X : Int64 → Prop} (hG : zOK G) (hR : ∀ v, X v → Q (some (.long v)) S) (ok : O_X11_sector_28 N S) (hx : X (F_X11_sector_28 N S)) : cX G o dX11_sector mX11_sector 28 [none, none, none, none, none] [] S Q := by
  unfold O_X11_sector_28 at ok
  unfold F_X11_sector_28 at hx
  refine c_ldc2 dX11_sector_28 nX11_200 ?_
  exact c_lreturn rfl dX11_sector_31 (hR _ hx)
def F_X11_sector_0 (N : Nat) (x0 : Option Nat) (x1 : Int32) (x2 : Int32) (x3 : Int32) (S : cS) : Int64 := (if (f_X11_honestNode N S (za x0) x1) = none then (F_X11_sector_28 N S) else (if x3 < 0 then (F_X11_sector_28 N S) else (if (f_X4_canRead N S (za (cR S 2 (za (f_X11_honestNode N S (za x0) x1)))) x2) = 0 then (F_X11_sector_28 N S) else (f_X11_eight N S (cP S (za (cR S 0 (za (cR S 2 (za (f_X11_honestNode N S (za x0) x1)))))) x2.toNatClampNeg) (nI 512) x3))))
def O_X11_sector_0 (N : Nat) (x0 : Option Nat) (x1 : Int32) (x2 : Int32) (x3 : Int32) (S : cS) : Prop := (cis S x0 10 ∧ o_X11_honestNode N S (za x0) x1) ∧ (((f_X11_honestNode N S (za x0) x1) = none → O_X11_sector_28 N S) ∧ (¬ (f_X11_honestNode N S (za x0) x1) = none → ((x3 < 0 → O_X11_sector_28 N S) ∧ (¬ x3 < 0 → (cis S (f_X11_honestNode N S (za x0) x1) 6) ∧ (cis S (cR S 2 (za (f_X11_honestNode N S (za x0) x1))) 4 ∧ o_X4_canRead N S (za (cR S 2 (za (f_X11_honestNode N S (za x0) x1)))) x2) ∧ (((f_X4_canRead N S (za (cR S 2 (za (f_X11_honestNode N S (za x0) x1)))) x2) = 0 → O_X11_sector_28 N S) ∧ (¬ (f_X4_canRead N S (za (cR S 2 (za (f_X11_honestNode N S (za x0) x1)))) x2) = 0 → (cis S (f_X11_honestNode N S (za x0) x1) 6) ∧ (cis S (cR S 2 (za (f_X11_honestNode N S (za x0) x1))) 4) ∧ (cis S (cR S 0 (za (cR S 2 (za (f_X11_honestNode N S (za x0) x1))))) 26 ∧ vp_in x2 (cL S (za (cR S 0 (za (cR S 2 (za (f_X11_honestNode N S (za x0) x1)))))))) ∧ (o_X11_eight N S (cP S (za (cR S 0 (za (cR S 2 (za (f_X11_honestNode N S (za x0) x1)))))) x2.toNatClampNeg) (nI 512) x3) ∧ True))))))
set_option maxRecDepth 100000 in
set_option maxHeartbeats 4000000 in
theorem b_X11_sector_0 {G : zG} {o : Nat → Option va_E} {S : cS} {N : Nat} {Q : Option Value → cS → Prop} {X : Int64 → Prop} (hG : zOK G) (hR : ∀ v, X v → Q (some (.long v)) S) {x0 : Option Nat} {x1 : Int32} {x2 : Int32} {x3 : Int32} (ok : O_X11_sector_0 N x0 x1 x2 x3 S) (hx : X (F_X11_sector_0 N x0 x1 x2 x3 S)) : cX G o dX11_sector mX11_sector 0 [some (va_rf x0), some (.int x1), some (.int x2), some (.int x3), none] [] S Q := by
  unfold O_X11_sector_0 at ok
  unfold F_X11_sector_0 at hx
  refine c_aload_nQ dX11_sector_0 rfl rfl ?_
  refine c_iload_n dX11_sector_1 rfl rfl ?_
  refine c_V1q (ci := 9) (rr := (RX11, TX11, 4)) (y' := mX11_honestNode) dX11_sector_2 lX11_120 kX11_honestNode ⟨by decide, by decide⟩ rfl rfl (by decide) ok.1.1 (Nat.le_of_ble_eq_true rfl) (cc_X11_honestNode hG ok.1.2) (fun v_2 S_2 h_2 => ?_)
  obtain ⟨hv_2, hS_2⟩ := h_2
  subst hv_2
  have hS_2 := hS_2.symm
  subst hS_2
  have ok := ok.2
  refine c_astore_4Q dX11_sector_5 (by decide) rfl ?_
  refine c_aloadQ dX11_sector_7 rfl ?_
  refine c_ifnullI (tgt := 28) dX11_sector_9 (by decide) (fun c_9 => ?_) (fun c_9 => ?_)
  · have ok := ok.1 c_9
    have hx := xif_p c_9 hx
    exact cX.cutz (b_X11_sector_28 hG hR ok hx) trivial
  · have ok := ok.2 c_9
    have hx := xif_n c_9 hx
    refine c_iload_n dX11_sector_12 rfl rfl ?_
    refine c_if_lt (tgt := 28) dX11_sector_13 (by decide) (fun c_13 => ?_) (fun c_13 => ?_)
    · have ok := ok.1 c_13
      have hx := xif_p c_13 hx
      exact cX.cutz (b_X11_sector_28 hG hR ok hx) trivial
    · have ok := ok.2 c_13
      have hx := xif_n c_13 hx
      refine c_aloadQ dX11_sector_16 rfl ?_
      refine c_getR (C := RX6) (T := TX6) (N := 19) (ci := 5) (k := 2) ⟨rfl, inT6, by decide, fX11_205⟩ (by decide) (by decide) (by decide) dX11_sector_18 ok.1 ?_
      have ok := ok.2
      refine c_iload_n dX11_sector_21 rfl rfl ?_
      refine c_V1i (ci := 3) (rr := (RX4, TX4, 10)) (y' := mX4_canRead) dX11_sector_22 lX11_285 kX4_canRead ⟨by decide, by decide⟩ rfl rfl (by decide) ok.1.1 (Nat.le_of_ble_eq_true rfl) (cc_X4_canRead hG ok.1.2) (fun v_22 S_22 h_22 => ?_)
      obtain ⟨hv_22, hS_22⟩ := h_22
      subst hv_22
      have hS_22 := hS_22.symm
      subst hS_22
      have ok := ok.2
      refine c_if_ne (tgt := 32) dX11_sector_25 (by decide) (fun c_25 => ?_) (fun c_25 => ?_)
      · have ok := ok.2 c_25
        have hx := xif_n c_25 hx
        refine c_aloadQ dX11_sector_32 rfl ?_
        refine c_getR (C := RX6) (T := TX6) (N := 19) (ci := 5) (k := 2) ⟨rfl, inT6, by decide, fX11_205⟩ (by decide) (by decide) (by decide) dX11_sector_34 ok.1 ?_
        have ok := ok.2
        refine c_getR (C := RX4) (T := TX4) (N := 10) (ci := 3) (k := 0) ⟨rfl, inT4, by decide, fX11_288⟩ (by decide) (by decide) (by decide) dX11_sector_37 ok.1 ?_
        have ok := ok.2
        refine c_iload_n dX11_sector_40 rfl rfl ?_
        refine c_aald (t := 6) (ty := (.array .byte)) rfl rfl (by decide) dX11_sector_41 ok.1 ?_
        have ok := ok.2
        refine c_sipush (v := nI 512) dX11_sector_42 (by decide) ?_
        refine c_iload_n dX11_sector_45 rfl rfl ?_
        refine c_S3l (y' := mX11_eight) dX11_sector_46 lX11_153 kX11_eight ⟨by decide, by decide⟩ (Nat.le_of_ble_eq_true rfl) (cc_X11_eight hG ok.1) (fun v_46 S_46 h_46 => ?_)
        obtain ⟨hv_46, hS_46⟩ := h_46
        subst hv_46
        have hS_46 := hS_46.symm
        subst hS_46
        have ok := ok.2
        exact c_lreturn rfl dX11_sector_49 (hR _ hx)
      · have ok := ok.1 c_25
        have hx := xif_p c_25 hx
        exact cX.cutz (b_X11_sector_28 hG hR ok hx) trivial
def f_X11_sector (N : Nat) (S : cS) (a0 : Nat) (x1 : Int32) (x2 : Int32) (x3 : Int32) : Int64 := F_X11_sector_0 N (some a0) x1 x2 x3 S
def o_X11_sector (N : Nat) (S : cS) (a0 : Nat) (x1 : Int32) (x2 : Int32) (x3 : Int32) : Prop := O_X11_sector_0 N (some a0) x1 x2 x3 S
set_option maxRecDepth 100000 in
set_option maxHeartbeats 4000000 in
theorem cc_X11_sector {G : zG} {o : Nat → Option va_E} {S : cS} {N : Nat} (hG : zOK G) {a0 : Nat} {x1 : Int32} {x2 : Int32} {x3 : Int32} (ok : o_X11_sector N S a0 x1 x2 x3) : cCl G o dX11_sector mX11_sector [.ref a0, .int x1, .int x2, .int x3] S (fun v S' => v = f_X11_sector N S a0 x1 x2 x3 ∧ S' = S) := by
  refine cC.ofX rfl (by exact Nat.le_of_ble_eq_true rfl) ?_
  show cX G o dX11_sector mX11_sector 0 [some (.ref a0), some (.int x1), some (.int x2), some (.int x3), none] [] S _
  exact cX.cutz (b_X11_sector_0 (X := fun F => F = f_X11_sector N S a0 x1 x2 x3) hG (fun v h => ⟨v, rfl, h, rfl⟩) ok rfl) ⟨rfl, rfl, rfl, rfl, trivial⟩

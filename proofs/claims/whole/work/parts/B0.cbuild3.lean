section
/-! THE CLASS'S NODE BUILDS A BLOCK: what stands on the desk -/
section
variable {F N g H T n u : Nat} {s s' s1 s2 X X' : cS} {ct ct' : Nat → List Nat} {hd : List Nat} {w w' : Wd} {pe : Nat → Int}
/-- the desk's head -/
def dkH (g : Nat) (X : cS) (n h rd : Nat) (d k : List Nat) : Prop := (∀ i, i < 6 → cA X (g + 28) i = sb (bg (prB n h rd (-1) []) i)) ∧ cA X (g + 28) 6 = sb (h / 256) ∧ cA X (g + 28) 7 = sb (h % 256) ∧ cA X (g + 28) 8 = sb n ∧ (∀ i, i < 32 → cA X (g + 28) (9 + i) = sb (bg d i)) ∧ ∀ i, i < 32 → cA X (g + 28) (41 + i) = sb (bg k i)
theorem dkH.fr {n h rd : Nat} {d k : List Nat} (h' : dkH g X n h rd d k) (e : ∀ i, i < 73 → cA X' (g + 28) i = cA X (g + 28) i) : dkH g X' n h rd d k := ⟨fun i hi => (e i (by omega)).trans (h'.1 i hi), (e 6 (by omega)).trans h'.2.1, (e 7 (by omega)).trans h'.2.2.1, (e 8 (by omega)).trans h'.2.2.2.1, fun i hi => (e (9 + i) (by omega)).trans (h'.2.2.2.2.1 i hi), fun i hi => (e (41 + i) (by omega)).trans (h'.2.2.2.2.2 i hi)⟩
theorem bld_54 {P : Option Nat × cS → Prop} {h rd : Nat} {d k : List Nat} (hS : St u g H T s) (hnH : n < H) (hK : cK s (g + 28) = 20) (k11 : cK s (nd g n + 11) = 20) (k9 : cK s (nd g n + 9) = 20) (hn : n < 13) (hh : h < 65536) (hr : rd < 256) (hL : cL s (g + 28) = 1024) (e1 : cI s 1 (nd g n) = nI n) (e9 : cI s 9 (nd g n) = nI h) (e10 : cI s 10 (nd g n) = nI rd) (hd' : ∀ i, i < 32 → cA s (nd g n + 11) i = sb (bg d i)) (hk : ∀ i, i < 32 → cA s (nd g n + 9) i = sb (bg k i)) (go : ∀ X, cfr (fun x => x = g + 28) s X → St u g H T X → dkH g X n h rd d k → wp (KO_X7_build_72 N g H T (some (nd g n)) (g + 8) (some (g + 28)) (nI 6) X) (KF_X7_build_72 N g H T (some (nd g n)) (g + 8) (some (g + 28)) (nI 6) X) P) : wp (p_X7_build N g H T s (some (nd g n))) (k_X7_build N g H T s (some (nd g n))) P := by
  show wp (KO_X7_build_0 N g H T (some (nd g n)) s) (KF_X7_build_0 N g H T (some (nd g n)) s) P
  unfold KO_X7_build_0 KF_X7_build_0
  have v5 : ((nI 255).toInt8.toInt32).toInt8.toInt32 = sb 255 := by decide
  obtain ⟨sg1, sg2⟩ := sign_c (N := N) (g := g) (H := H) (T := T) (s := s) (n := n) (r := g + 28) (x2 := nI 255) (vb := 255) e1 e9 e10 hn hh hr v5 (by omega) (by omega)
  have st1 := (kpc_X7_signProposal hS (tN_some (isO5 hnH)) (tK_some hK) sg1).1
  refine wp_and someN (wp_and sg1 ?_)
  rw [sg2] at st1 ⊢
  have hb : ∀ b0 b1 b2 b3 b4 b5 : Int32, sb 1 = b0 → sb n = b1 → sb (h / 256 % 256) = b2 → sb (h % 256) = b3 → sb rd = b4 → sb 255 = b5 → ∀ i, i < 6 → (if i = 5 then b5 else if i = 4 then b4 else if i = 2 + 1 then b3 else if i = 2 then b2 else if i = 1 then b1 else if i = 0 then b0 else cA s (g + 28) i) = sb (bg (prB n h rd (-1) []) i) := fun b0 b1 b2 b3 b4 b5 q0 q1 q2 q3 q4 q5 i hi => by
    have hx : h / 256 % 256 = h / 256 := by omega
    rw [hx] at q2
    rcases (show i = 0 ∨ i = 1 ∨ i = 2 ∨ i = 3 ∨ i = 4 ∨ i = 5 by omega) with rfl | rfl | rfl | rfl | rfl | rfl
    · exact q0.symm
    · exact q1.symm
    · exact q2.symm
    · exact q3.symm
    · exact q4.symm
    · exact q5.symm
  have r1 : ∀ i, i < 6 → cA (sgS s (g + 28) (sb 1) (sb n) (sb (h / 256 % 256)) (sb (h % 256)) (sb rd) (sb 255)) (g + 28) i = sb (bg (prB n h rd (-1) []) i) := fun i hi => by
    rw [sgS_r]
    exact hb _ _ _ _ _ _ rfl rfl rfl rfl rfl rfl i hi
  have f1 := sgS_c (s := s) (r := g + 28) (b0 := sb 1) (b1 := sb n) (b2 := sb (h / 256 % 256)) (b3 := sb (h % 256)) (b4 := sb rd) (b5 := sb 255)
  generalize sgS s (g + 28) (sb 1) (sb n) (sb (h / 256 % 256)) (sb (h % 256)) (sb rd) (sb 255) = S1 at r1 f1 st1 ⊢
  unfold KO_X7_build_21 KF_X7_build_21
  have nn : ∀ o, ¬ nd g n + o = g + 28 := fun o => by unfold nd; omega
  have a9 : cI S1 9 (nd g n) = nI h := by rw [f1.I 9 (nd g n) (nn 0)]; exact e9
  have L1 : cL S1 (g + 28) = 1024 := by rw [f1.L]; exact hL
  rw [zsome, a9]
  obtain ⟨p1, p2⟩ := putTwo_c (N := N) (g := g) (H := H) (T := T) (s := S1) (r := g + 28) (a := 6) (x := h) (by omega) (by omega) (by omega)
  have st2 := (kpc_X11_putTwo st1 (tK_some (by rw [f1.1]; exact hK)) p1).1
  refine wp_and someN (wp_and p1 ?_)
  rw [p2, show h / 256 % 256 = h / 256 by omega] at st2 ⊢
  generalize hb6 : sb (h / 256) = b6 at st2 ⊢
  generalize hb7 : sb (h % 256) = b7 at st2 ⊢
  have r2 : ∀ i, cA (csA (csA S1 (g + 28) 6 b6) (g + 28) (6 + 1) b7) (g + 28) i = if i = 6 + 1 then b7 else if i = 6 then b6 else cA S1 (g + 28) i := fun i => by rw [cA_at, cA_at]
  have f2 : cfr (fun x => x = g + 28) s (csA (csA S1 (g + 28) 6 b6) (g + 28) (6 + 1) b7) := f1.trans ((cfr_A _ _ _).trans (cfr_A _ _ _))
  generalize csA (csA S1 (g + 28) 6 b6) (g + 28) (6 + 1) b7 = S2 at r2 f2 st2 ⊢
  unfold KO_X7_build_30 KF_X7_build_30
  have a1 : cI S2 1 (nd g n) = nI n := by rw [f2.I 1 (nd g n) (nn 0)]; exact e1
  have L2 : cL S2 (g + 28) = 1024 := by rw [f2.L]; exact hL
  have c0 : (nI 0).toNatClampNeg = 0 := rfl
  have c8 : (nI (6 + 2)).toNatClampNeg = 8 := rfl
  have c9 : (nI (6 + 3)).toNatClampNeg = 9 := rfl
  have c32 : (nI 32).toNatClampNeg = 32 := rfl
  have c41 : (nI (6 + 35)).toNatClampNeg = 41 := rfl
  rw [zsome, zsome, a1, n_add, n_add, sb2, c0, c8, c9, c32, cL_A, L2, show n % 256 = n by omega]
  have st3 : St u g H T (csA S2 (g + 28) 8 (sb n)) := st2.Ab _ _ (nI n)
  generalize hb8 : sb n = b8 at st3 ⊢
  have r3 : ∀ i, cA (csA S2 (g + 28) 8 b8) (g + 28) i = if i = 8 then b8 else cA S2 (g + 28) i := fun i => by rw [cA_at]
  have f3 : cfr (fun x => x = g + 28) s (csA S2 (g + 28) 8 b8) := f2.trans (cfr_A _ _ _)
  generalize csA S2 (g + 28) 8 b8 = S3 at r3 f3 st3 ⊢
  refine wp_and someN (wp_and ⟨someN, ((n_in (by omega)).2 (by omega))⟩ (wp_and ⟨someN, ⟨by decide, by decide, by decide⟩, by omega, by omega⟩ ?_))
  have A11 : cA S3 (nd g n + 11) = cA s (nd g n + 11) := f3.A _ (nn 11)
  have st4 := st3.Ac (g + 28) (nd g n + 11) 0 9 32 (tK_some (by rw [f3.1]; exact k11))
  rw [A11] at st4 ⊢
  have r4 : ∀ i, va_cpy (cA s (nd g n + 11)) (cA S3 (g + 28)) 0 9 32 i = if 9 ≤ i ∧ i < 9 + 32 then cA s (nd g n + 11) (0 + (i - 9)) else cA S3 (g + 28) i := fun i => rfl
  generalize va_cpy (cA s (nd g n + 11)) (cA S3 (g + 28)) 0 9 32 = f4 at r4 st4 ⊢
  have g4 : ∀ i, cA (csArow S3 (g + 28) f4) (g + 28) i = f4 i := fun i => by rw [cA_same]
  have k4 : cfr (fun x => x = g + 28) s (csArow S3 (g + 28) f4) := f3.trans (cfr_A _ _ _)
  generalize csArow S3 (g + 28) f4 = S4 at g4 k4 st4 ⊢
  unfold KO_X7_build_54 KF_X7_build_54
  have L4 : cL S4 (g + 28) = 1024 := by rw [k4.L]; exact hL
  have A9 : cA S4 (nd g n + 6 + 3) = cA s (nd g n + 9) := k4.A _ (nn 9)
  have st5 := st4.Ac (g + 28) (nd g n + 6 + 3) 0 41 32 (tK_some (by rw [k4.1]; exact k9))
  rw [A9] at st5
  rw [zsome, zsome, n_add, c0, c41, c32, L4, A9]
  refine wp_and someN (wp_and ⟨someN, ⟨by decide, by decide, by decide⟩, by omega, by omega⟩ ?_)
  have r5 : ∀ i, va_cpy (cA s (nd g n + 9)) (cA S4 (g + 28)) 0 41 32 i = if 41 ≤ i ∧ i < 41 + 32 then cA s (nd g n + 9) (0 + (i - 41)) else cA S4 (g + 28) i := fun i => rfl
  generalize va_cpy (cA s (nd g n + 9)) (cA S4 (g + 28)) 0 41 32 = f5 at r5 st5 ⊢
  have g5 : ∀ i, cA (csArow S4 (g + 28) f5) (g + 28) i = f5 i := fun i => by rw [cA_same]
  have k5 : cfr (fun x => x = g + 28) s (csArow S4 (g + 28) f5) := k4.trans (cfr_A _ _ _)
  generalize csArow S4 (g + 28) f5 = S5 at g5 k5 st5 ⊢
  refine go S5 k5 st5 ⟨fun i hi => ?_, ?_, ?_, ?_, fun i hi => ?_, fun i hi => ?_⟩
  · rw [g5, r5, if_neg (by omega), g4, r4, if_neg (by omega), r3, if_neg (by omega), r2, if_neg (by omega), if_neg (by omega)]
    exact r1 i hi
  · rw [g5, r5, if_neg (by omega), g4, r4, if_neg (by omega), r3, if_neg (by omega), r2, if_neg (by omega), if_pos rfl, hb6]
  · rw [g5, r5, if_neg (by omega), g4, r4, if_neg (by omega), r3, if_neg (by omega), r2, if_pos rfl, hb7]
  · rw [g5, r5, if_neg (by omega), g4, r4, if_neg (by omega), r3, if_pos rfl, hb8]
  · rw [g5, r5, if_neg (by omega), g4, r4, if_pos (by omega), show 0 + (9 + i - 9) = i by omega]
    exact hd' i hi
  · rw [g5, r5, if_pos (by omega), show 0 + (41 + i - 41) = i by omega]
    exact hk i hi
end
end

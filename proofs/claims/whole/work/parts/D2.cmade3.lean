section
/-! THE CLASS IS MADE: the world, and all its nodes -/
section
variable {N g H T n k o c a b i F L : Nat} {s s' s1 s2 S X : cS}
def woI (F H T : Nat) : Nat → Int32 := upI (upI (upI (upI z0 0 (nI F)) 1 (nI T)) 2 (nI H)) 3 (nI (2 * F + 1))
def woR (g : Nat) : Nat → Option Nat := upR (upR (upR (upR (upR (upR (upR (upR n0 6 (some (g + 11))) 8 (some (g + 18))) 9 (some (g + 23))) 10 (some (g + 28))) 11 (some (g + 29))) 5 (some (g + 3))) 7 (some (g + 9))) 4 (some (g + 30))
/-- what the world is made of, but its nodes -/
def woB (F g H T : Nat) (s : cS) : Prop := ob s (g + 8) 9 12 (woI F H T) (woR g) z0 ∧ skB s (g + 11) ∧ boB s (g + 18) ∧ boB s (g + 23) ∧ ob s (g + 28) 20 1024 z0 n0 z0 ∧ ob s (g + 29) 20 32 z0 n0 z0
theorem woB.sme (h : woB F g H T s) (f : ∀ b, g + 8 ≤ b → b < g + 30 → sme s s1 b) : woB F g H T s1 := ⟨h.1.sme (f _ (by omega) (by omega)), h.2.1.sme (fun b h1 h2 => f b (by omega) (by omega)), h.2.2.1.sme (fun b h1 h2 => f b (by omega) (by omega)), h.2.2.2.1.sme (fun b h1 h2 => f b (by omega) (by omega)), h.2.2.2.2.1.sme (f _ (by omega) (by omega)), h.2.2.2.2.2.sme (f _ (by omega) (by omega))⟩
theorem init_w51 {R : Nat → Option Nat} (t1 : ob s (g + 8) 9 12 z0 R z0) (t3 : cn s = g + 30) (hT : T = 3 * F + 1) (hF : F ≤ 4) (hL : L ≤ F) (hH : H + L = T) : wp (O_X10_init_51 N (some (g + 8)) (nI F) (nI L) (some (g + 3)) (some (g + 9)) (some (g + 8)) (some (g + 29)) s) (F_X10_init_51 N (some (g + 8)) (nI F) (nI L) (some (g + 3)) (some (g + 9)) (some (g + 8)) (some (g + 29)) s) (fun s' => ob s' (g + 8) 9 12 (woI F H T) (upR (upR (upR (upR R 11 (some (g + 29))) 5 (some (g + 3))) 7 (some (g + 9))) 4 (some (g + 30))) z0 ∧ ob s' (g + 30) 25 H z0 n0 z0 ∧ cn s' = g + 31 ∧ ck s' = ck s + H ∧ ∀ b, b ≠ g + 8 → b ≠ g + 30 → sme s s' b) := by
  unfold O_X10_init_51 F_X10_init_51 O_X10_init_59 F_X10_init_59 O_X10_init_70 F_X10_init_70
  repeat rw [zsome]
  have A1 := t1.R (j := 11) (v := some (g + 29))
  have A2 := A1.I (j := 0) (v := nI F)
  have A3 := A2.R (j := 5) (v := some (g + 3))
  have A4 := A3.R (j := 7) (v := some (g + 9))
  have eT : nI 3 * nI F + nI 1 = nI T := by rw [n_mul, n_add, hT]
  rw [eT]
  have A5 := A4.I (j := 1) (v := nI T)
  have r1 : cI (csI (csR (csR (csI (csR s 11 (g + 8) (some (g + 29))) 0 (g + 8) (nI F)) 5 (g + 8) (some (g + 3))) 7 (g + 8) (some (g + 9))) 1 (g + 8) (nI T)) 1 (g + 8) = nI T := cI_same _ _ _ _
  rw [r1]
  have eH : nI T - nI L = nI H := by rw [n_sub (by omega)]; congr 1; omega
  rw [eH]
  have A6 := A5.I (j := 2) (v := nI H)
  refine wp_and t1.is (wp_and A1.is (wp_and A2.is (wp_and A3.is (wp_and A4.is (wp_and A5.is (wp_and A5.is ?_))))))
  have fz : ∀ b, b ≠ g + 8 → sme s (csI (csI (csR (csR (csI (csR s 11 (g + 8) (some (g + 29))) 0 (g + 8) (nI F)) 5 (g + 8) (some (g + 3))) 7 (g + 8) (some (g + 9))) 1 (g + 8) (nI T)) 2 (g + 8) (nI H)) b := fun b hb => (((((sme_R hb).trans (sme_I hb)).trans (sme_R hb)).trans (sme_R hb)).trans (sme_I hb)).trans (sme_I hb)
  have cz : cn (csI (csI (csR (csR (csI (csR s 11 (g + 8) (some (g + 29))) 0 (g + 8) (nI F)) 5 (g + 8) (some (g + 3))) 7 (g + 8) (some (g + 9))) 1 (g + 8) (nI T)) 2 (g + 8) (nI H)) = g + 30 := t3
  have dz : ck (csI (csI (csR (csR (csI (csR s 11 (g + 8) (some (g + 29))) 0 (g + 8) (nI F)) 5 (g + 8) (some (g + 3))) 7 (g + 8) (some (g + 9))) 1 (g + 8) (nI T)) 2 (g + 8) (nI H)) = ck s := rfl
  generalize csI (csI (csR (csR (csI (csR s 11 (g + 8) (some (g + 29))) 0 (g + 8) (nI F)) 5 (g + 8) (some (g + 3))) 7 (g + 8) (some (g + 9))) 1 (g + 8) (nI T)) 2 (g + 8) (nI H) = sA at A6 fz cz dz ⊢
  unfold O_X10_init_89 F_X10_init_89
  repeat rw [zsome]
  have e3 : nI 2 * nI F + nI 1 = nI (2 * F + 1) := by rw [n_mul, n_add]
  rw [e3]
  have A7 := A6.I (j := 3) (v := nI (2 * F + 1))
  have r2 : cI (csI sA 3 (g + 8) (nI (2 * F + 1))) 2 (g + 8) = nI H := A7.2.2.1 2
  rw [r2, if_pos (show nI 0 < nI H by rw [n_lt' (by omega) (by omega)]; omega), n_clamp (by omega)]
  have fy : ∀ b, b ≠ g + 8 → sme s (csI sA 3 (g + 8) (nI (2 * F + 1))) b := fun b hb => (fz b hb).trans (sme_I hb)
  have cy : cn (csI sA 3 (g + 8) (nI (2 * F + 1))) = g + 30 := cz
  have dy : ck (csI sA 3 (g + 8) (nI (2 * F + 1))) = ck sA := rfl
  refine wp_and A6.is (wp_and A7.is (wp_and ⟨n_lt0 (by omega), by omega⟩ ?_))
  generalize csI sA 3 (g + 8) (nI (2 * F + 1)) = sB at A7 fy cy dy ⊢
  obtain ⟨B1, B2, B3, B4, B5⟩ := al_f (kd := 25) (j := 0) (l := H) A7 cy (by omega)
  rw [cy]
  unfold O_X10_init_110 F_X10_init_110
  repeat rw [zsome]
  have C1 := B1.R (j := 4) (v := some (g + 30))
  have fw : ∀ b, b ≠ g + 8 → b ≠ g + 30 → sme s (csR (csNew sB 25 H) 4 (g + 8) (some (g + 30))) b := fun b h1 h2 => ((fy b h1).trans (B5 b h2)).trans (sme_R h1)
  refine wp_and B1.is (wp_fin trivial ⟨C1, B2.sme (sme_R (by omega)), B3, ?_, fw⟩)
  show ck (csNew sB 25 H) = _
  omega
end
end

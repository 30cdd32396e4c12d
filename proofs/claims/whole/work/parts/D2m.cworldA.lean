section
/-! THE CLASS IS MADE: the world, and all its nodes -/
section
variable {N g H T n k o c a b i F L : Nat} {s s' s1 s2 S X : cS}
theorem init_w34 {R : Nat → Option Nat} (a5 : ob s (g + 8) 9 12 z0 R z0) (y2 : cn s = g + 28) (hT : T = 3 * F + 1) (hF : F ≤ 4) (hL : L ≤ F) (hH : H + L = T) : wp (O_X10_init_34 N (some (g + 8)) (nI F) (nI L) (some (g + 3)) (some (g + 9)) (some (g + 8)) (some (g + 23)) s) (F_X10_init_34 N (some (g + 8)) (nI F) (nI L) (some (g + 3)) (some (g + 9)) (some (g + 8)) (some (g + 23)) s) (fun s' => ob s' (g + 8) 9 12 (woI F H T) (upR (upR (upR (upR (upR (upR R 9 (some (g + 23))) 10 (some (g + 28))) 11 (some (g + 29))) 5 (some (g + 3))) 7 (some (g + 9))) 4 (some (g + 30))) z0 ∧ (ob s' (g + 28) 20 1024 z0 n0 z0 ∧ ob s' (g + 29) 20 32 z0 n0 z0) ∧ ob s' (g + 30) 25 H z0 n0 z0 ∧ cn s' = g + 31 ∧ ck s' = ck s + (1056 + H) ∧ ∀ b, b ≠ g + 8 → b < g + 28 ∨ g + 31 ≤ b → sme s s' b) := by
  unfold O_X10_init_34 F_X10_init_34
  repeat rw [zsome]
  refine wp_and a5.is (wp_and ⟨n_lt0 (by omega), by rw [n_clamp (by omega)]; omega⟩ ?_)
  have a6 := a5.R (j := 9) (v := some (g + 23))
  have f6 : ∀ b, b ≠ g + 8 → sme s (csR s 9 (g + 8) (some (g + 23))) b := fun b hb => sme_R hb
  have c6 : cn (csR s 9 (g + 8) (some (g + 23))) = g + 28 := y2
  have d6 : ck (csR s 9 (g + 8) (some (g + 23))) = ck s := rfl
  generalize csR s 9 (g + 8) (some (g + 23)) = s6 at a6 f6 c6 d6 ⊢
  obtain ⟨z1, z2, z3, z4, z5⟩ := al_f (kd := 20) (j := 0) (l := 1024) a6 c6 (by omega)
  rw [c6, n_clamp (by omega)]
  have f7 : ∀ b, b ≠ g + 8 → b ≠ g + 28 → sme s (csNew s6 20 1024) b := fun b h1 h2 => (f6 b h1).trans (z5 b h2)
  generalize csNew s6 20 1024 = s7 at z1 z2 z3 z4 f7 ⊢
  unfold O_X10_init_43 F_X10_init_43
  repeat rw [zsome]
  refine wp_and z1.is (wp_and ⟨n_lt0 (by omega), by rw [n_clamp (by omega)]; omega⟩ ?_)
  have a8 := z1.R (j := 10) (v := some (g + 28))
  have r8 := z2.sme (s1 := csR s7 10 (g + 8) (some (g + 28))) (sme_R (by omega))
  have f8 : ∀ b, b ≠ g + 8 → b ≠ g + 28 → sme s (csR s7 10 (g + 8) (some (g + 28))) b := fun b h1 h2 => (f7 b h1 h2).trans (sme_R h1)
  have c8 : cn (csR s7 10 (g + 8) (some (g + 28))) = g + 29 := z3
  have d8 : ck (csR s7 10 (g + 8) (some (g + 28))) = ck s7 := rfl
  generalize csR s7 10 (g + 8) (some (g + 28)) = s8 at a8 r8 f8 c8 d8 ⊢
  obtain ⟨t1, t2, t3, t4, t5⟩ := al_f (kd := 20) (j := 0) (l := 32) a8 c8 (by omega)
  rw [c8, n_clamp (by omega)]
  have r9 := r8.sme (t5 _ (by omega))
  have f9 : ∀ b, b ≠ g + 8 → b ≠ g + 28 → b ≠ g + 29 → sme s (csNew s8 20 32) b := fun b h1 h2 h3 => (f8 b h1 h2).trans (t5 b h3)
  generalize csNew s8 20 32 = s9 at t1 t2 t3 t4 r9 f9 ⊢
  have E := init_w51 (N := N) (F := F) (L := L) (H := H) t1 t3 hT hF hL hH
  refine ⟨E.1, ?_⟩
  have E9 := E.2
  clear E
  generalize F_X10_init_51 N (some (g + 8)) (nI F) (nI L) (some (g + 3)) (some (g + 9)) (some (g + 8)) (some (g + 29)) s9 = sC at E9 ⊢
  obtain ⟨E1, E2, E3, E4, E5⟩ := E9
  exact ⟨E1, ⟨r9.sme (E5 _ (by omega) (by omega)), t2.sme (E5 _ (by omega) (by omega))⟩, E2, E3, by omega, fun b h1 h2 => (f9 b h1 (by omega) (by omega)).trans (E5 b h1 (by omega))⟩
end
end

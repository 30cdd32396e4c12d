section
/-! THE CLASS IS MADE: the world, and all its nodes -/
section
variable {N g H T n k o c a b i F L : Nat} {s s' s1 s2 S X : cS}
set_option maxHeartbeats 4000000 in
theorem init_X10 (hN : 2000 ≤ N) (h : ob s (g + 8) 9 12 z0 n0 z0) (hc : cn s = g + 11) (hT : T = 3 * F + 1) (hF : F ≤ 4) (hL : L ≤ F) (hH : H + L = T) : wp (o_X10_init N s (g + 8) (nI F) (nI L) (some (g + 3)) (some (g + 9))) (f_X10_init N s (g + 8) (nI F) (nI L) (some (g + 3)) (some (g + 9))) (fun s' => woB F g H T s' ∧ ob s' (g + 30) 25 H z0 n0 z0 ∧ cn s' = g + 31 ∧ ck s' = ck s + (7245 + H) ∧ ∀ b, b < g + 8 ∨ b = g + 9 ∨ b = g + 10 ∨ g + 31 ≤ b → sme s s' b) := by
  show wp (O_X10_init_0 N (some (g + 8)) (nI F) (nI L) (some (g + 3)) (some (g + 9)) s) (F_X10_init_0 N (some (g + 8)) (nI F) (nI L) (some (g + 3)) (some (g + 9)) s) _
  unfold O_X10_init_0 F_X10_init_0
  obtain ⟨p1, p2, p3, p4, p5⟩ := al_f (kd := 8) (j := 0) (l := 13) h hc (by omega)
  rw [hc]
  repeat rw [zsome]
  have i9 := init_X9 (N := N) hN p2 p3
  refine wp_and rfl (wp_and ⟨rfl, i9.1⟩ ?_)
  obtain ⟨q1, q2, q3, q4⟩ := i9.2
  have a1 := p1.sme (q4 (g + 8) (by omega))
  have f1 : ∀ b, b < g + 8 ∨ b = g + 9 ∨ b = g + 10 ∨ g + 31 ≤ b → sme s (f_X9_init N (csNew s 8 13) (g + 11)) b := fun b hb => (p5 b (by omega)).trans (q4 b (by omega))
  generalize f_X9_init N (csNew s 8 13) (g + 11) = s1 at q1 q2 q3 a1 f1 ⊢
  unfold O_X10_init_12 F_X10_init_12
  repeat rw [zsome]
  refine wp_and a1.is ?_
  have a2 := a1.R (j := 6) (v := some (g + 11))
  have k2 := q1.sme (s1 := csR s1 6 (g + 8) (some (g + 11))) (fun b h1 h2 => sme_R (by omega))
  have f2 : ∀ b, b < g + 8 ∨ b = g + 9 ∨ b = g + 10 ∨ g + 31 ≤ b → sme s (csR s1 6 (g + 8) (some (g + 11))) b := fun b hb => (f1 b hb).trans (sme_R (by omega))
  have c2 : cn (csR s1 6 (g + 8) (some (g + 11))) = g + 18 := q2
  have d2 : ck (csR s1 6 (g + 8) (some (g + 11))) = ck s1 := rfl
  generalize csR s1 6 (g + 8) (some (g + 11)) = s2 at a2 k2 f2 c2 d2 ⊢
  obtain ⟨u1, u2, u3, u4, u5⟩ := al_f (kd := 1) (j := 0) (l := 6) a2 c2 (by omega)
  rw [c2]
  unfold O_X10_init_19 F_X10_init_19
  repeat rw [zsome]
  have i0 := init_X0 (N := N) (by omega) u2 u3
  refine wp_and ⟨rfl, i0.1⟩ ?_
  obtain ⟨v1, v2, v3, v4⟩ := i0.2
  have a3 := u1.sme (v4 (g + 8) (by omega))
  have k3 := k2.sme (s1 := f_X0_init N (csNew s2 1 6) (g + 18)) (fun b h1 h2 => (u5 b (by omega)).trans (v4 b (by omega)))
  have f3 : ∀ b, b < g + 8 ∨ b = g + 9 ∨ b = g + 10 ∨ g + 31 ≤ b → sme s (f_X0_init N (csNew s2 1 6) (g + 18)) b := fun b hb => ((f2 b hb).trans (u5 b (by omega))).trans (v4 b (by omega))
  generalize f_X0_init N (csNew s2 1 6) (g + 18) = s3 at v1 v2 v3 a3 k3 f3 ⊢
  unfold O_X10_init_23 F_X10_init_23
  repeat rw [zsome]
  refine wp_and a3.is ?_
  have a4 := a3.R (j := 8) (v := some (g + 18))
  have k4 := k3.sme (s1 := csR s3 8 (g + 8) (some (g + 18))) (fun b h1 h2 => sme_R (by omega))
  have b4 := v1.sme (s1 := csR s3 8 (g + 8) (some (g + 18))) (fun b h1 h2 => sme_R (by omega))
  have f4 : ∀ b, b < g + 8 ∨ b = g + 9 ∨ b = g + 10 ∨ g + 31 ≤ b → sme s (csR s3 8 (g + 8) (some (g + 18))) b := fun b hb => (f3 b hb).trans (sme_R (by omega))
  have c4 : cn (csR s3 8 (g + 8) (some (g + 18))) = g + 23 := v2
  have d4 : ck (csR s3 8 (g + 8) (some (g + 18))) = ck s3 := rfl
  generalize csR s3 8 (g + 8) (some (g + 18)) = s4 at a4 k4 b4 f4 c4 d4 ⊢
  obtain ⟨x1, x2, x3, x4, x5⟩ := al_f (kd := 1) (j := 0) (l := 6) a4 c4 (by omega)
  rw [c4]
  unfold O_X10_init_30 F_X10_init_30
  repeat rw [zsome]
  have j0 := init_X0 (N := N) (by omega) x2 x3
  refine wp_and ⟨rfl, j0.1⟩ ?_
  obtain ⟨y1, y2, y3, y4⟩ := j0.2
  have a5 := x1.sme (y4 (g + 8) (by omega))
  have k5 := k4.sme (s1 := f_X0_init N (csNew s4 1 6) (g + 23)) (fun b h1 h2 => (x5 b (by omega)).trans (y4 b (by omega)))
  have b5 := b4.sme (s1 := f_X0_init N (csNew s4 1 6) (g + 23)) (fun b h1 h2 => (x5 b (by omega)).trans (y4 b (by omega)))
  have f5 : ∀ b, b < g + 8 ∨ b = g + 9 ∨ b = g + 10 ∨ g + 31 ≤ b → sme s (f_X0_init N (csNew s4 1 6) (g + 23)) b := fun b hb => ((f4 b hb).trans (x5 b (by omega))).trans (y4 b (by omega))
  generalize f_X0_init N (csNew s4 1 6) (g + 23) = s5 at y1 y2 y3 a5 k5 b5 f5 ⊢
  have E := init_w34 (N := N) (F := F) (L := L) (H := H) (T := T) a5 y2 hT hF hL hH
  refine ⟨E.1, ?_⟩
  have E9 := E.2
  clear E
  generalize F_X10_init_34 N (some (g + 8)) (nI F) (nI L) (some (g + 3)) (some (g + 9)) (some (g + 8)) (some (g + 23)) s5 = sC at E9 ⊢
  obtain ⟨E1, ⟨E6, E7⟩, E2, E3, E4, E5⟩ := E9
  exact ⟨⟨E1, k5.sme (fun b h1 h2 => E5 b (by omega) (by omega)), b5.sme (fun b h1 h2 => E5 b (by omega) (by omega)), y1.sme (fun b h1 h2 => E5 b (by omega) (by omega)), E6, E7⟩, E2, E3, by omega, fun b hb => (f5 b hb).trans (E5 b (by omega) (by omega))⟩
end
end

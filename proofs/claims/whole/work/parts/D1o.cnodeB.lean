section
/-! THE CLASS IS MADE: shelf, node, world -/
section
variable {N g H T n k o c a b i F L : Nat} {s s' s1 s2 S X : cS}
set_option maxHeartbeats 4000000 in
theorem init_X6 (hN : 2000 ≤ N) (h : ob s o 6 19 z0 n0 z0) (hc : cn s = o + 1) (hT : T ≤ 13) (ho : g + 31 ≤ o) (w1 : cK s (g + 8) = 9) (w2 : cR s 6 (g + 8) = some (g + 11)) (w3 : cI s 1 (g + 8) = nI T) : wp (o_X6_init N s o (some (g + 8)) (nI i)) (f_X6_init N s o (some (g + 8)) (nI i)) (fun s' => ndB g T s' o i ∧ cn s' = o + 24 ∧ ck s' = ck s + (1918 + 68 * T) ∧ ∀ b, b < o ∨ o + 24 ≤ b → sme s s' b) := by
  show wp (O_X6_init_0 N (some o) (some (g + 8)) (nI i) s) (F_X6_init_0 N (some o) (some (g + 8)) (nI i) s) _
  unfold O_X6_init_0 F_X6_init_0
  obtain ⟨p1, p2, p3, p4, p5⟩ := al_f (kd := 4) (j := 0) (l := 10) h hc (by omega)
  rw [hc]
  repeat rw [zsome]
  have i4 := init_X4 (N := N) p2 p3
  refine wp_and rfl (wp_and ⟨rfl, i4.1⟩ ?_)
  obtain ⟨q1, q2, q3, q4⟩ := i4.2
  have a1 := p1.sme (q4 o (by omega))
  have f1 : ∀ b, b < o ∨ o + 24 ≤ b → sme s (f_X4_init N (csNew s 4 10) (o + 1)) b := fun b hb => (p5 b (by omega)).trans (q4 b (by omega))
  generalize f_X4_init N (csNew s 4 10) (o + 1) = s1 at q1 q2 q3 a1 f1 ⊢
  unfold O_X6_init_12 F_X6_init_12
  repeat rw [zsome]
  refine wp_and a1.is ?_
  have a2 := a1.R (j := 2) (v := some (o + 1))
  have l2 := q1.sme (s1 := csR s1 2 o (some (o + 1))) (fun b h1 h2 => sme_R (by omega))
  have f2 : ∀ b, b < o ∨ o + 24 ≤ b → sme s (csR s1 2 o (some (o + 1))) b := fun b hb => (f1 b hb).trans (sme_R (by omega))
  have c2 : cn (csR s1 2 o (some (o + 1))) = o + 6 := q2
  have d2 : ck (csR s1 2 o (some (o + 1))) = ck s1 := rfl
  generalize csR s1 2 o (some (o + 1)) = s2 at a2 l2 f2 c2 d2 ⊢
  obtain ⟨u1, u2, u3, u4, u5⟩ := al_f (kd := 1) (j := 0) (l := 6) a2 c2 (by omega)
  rw [c2]
  unfold O_X6_init_19 F_X6_init_19
  repeat rw [zsome]
  have i0 := init_X0 (N := N) (by omega) u2 u3
  refine wp_and ⟨rfl, i0.1⟩ ?_
  obtain ⟨v1, v2, v3, v4⟩ := i0.2
  have a3 := u1.sme (v4 o (by omega))
  have l3 := l2.sme (s1 := f_X0_init N (csNew s2 1 6) (o + 6)) (fun b h1 h2 => (u5 b (by omega)).trans (v4 b (by omega)))
  have f3 : ∀ b, b < o ∨ o + 24 ≤ b → sme s (f_X0_init N (csNew s2 1 6) (o + 6)) b := fun b hb => ((f2 b hb).trans (u5 b (by omega))).trans (v4 b (by omega))
  generalize f_X0_init N (csNew s2 1 6) (o + 6) = s3 at v1 v2 v3 a3 l3 f3 ⊢
  unfold O_X6_init_23 F_X6_init_23
  repeat rw [zsome]
  refine wp_and a3.is (wp_and ⟨n_lt0 (by omega), by rw [n_clamp (by omega)]; omega⟩ ?_)
  have a4 := a3.R (j := 4) (v := some (o + 6))
  have l4 := l3.sme (s1 := csR s3 4 o (some (o + 6))) (fun b h1 h2 => sme_R (by omega))
  have b4 := v1.sme (s1 := csR s3 4 o (some (o + 6))) (fun b h1 h2 => sme_R (by omega))
  have f4 : ∀ b, b < o ∨ o + 24 ≤ b → sme s (csR s3 4 o (some (o + 6))) b := fun b hb => (f3 b hb).trans (sme_R (by omega))
  have c4 : cn (csR s3 4 o (some (o + 6))) = o + 11 := v2
  have d4 : ck (csR s3 4 o (some (o + 6))) = ck s3 := rfl
  generalize csR s3 4 o (some (o + 6)) = s4 at a4 l4 b4 f4 c4 d4 ⊢
  obtain ⟨x1, x2, x3, x4, x5⟩ := al_f (kd := 20) (j := 0) (l := 32) a4 c4 (by omega)
  rw [c4, n_clamp (by omega)]
  have l5 := l4.sme (s1 := csNew s4 20 32) (fun b h1 h2 => x5 b (by omega))
  have b5 := b4.sme (s1 := csNew s4 20 32) (fun b h1 h2 => x5 b (by omega))
  have f5 : ∀ b, b < o ∨ o + 24 ≤ b → sme s (csNew s4 20 32) b := fun b hb => (f4 b hb).trans (x5 b (by omega))
  generalize csNew s4 20 32 = s5 at x1 x2 x3 x4 l5 b5 f5 ⊢
  have W := f5 (g + 8) (by omega)
  have E := init_n31 (N := N) (g := g) (i := i) (T := T) x1 x3 hT ho (W.1.trans w1) ((W.2.2.2.1 6).trans w2) ((W.2.2.1 1).trans w3)
  refine ⟨E.1, ?_⟩
  have E9 := E.2
  clear E
  generalize F_X6_init_31 N (some o) (some (g + 8)) (nI i) (some o) (some (o + 11)) s5 = sC at E9 ⊢
  obtain ⟨E1, ⟨E2, E6⟩, E7, E3, E4, E5⟩ := E9
  exact ⟨⟨E1, l5.sme (fun b h1 h2 => E5 b (by omega) (by omega)), b5.sme (fun b h1 h2 => E5 b (by omega) (by omega)), x2.sme (E5 _ (by omega) (by omega)), E2, E6, E7⟩, E3, by omega, fun b hb => (f5 b hb).trans (E5 b (by omega) (by omega))⟩
end
end

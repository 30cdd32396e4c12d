section
/-! THE CLASS IS MADE: the world, and all its nodes -/
section
variable {N g H T n k o c a b i F L : Nat} {s s' s1 s2 S X : cS}
set_option maxHeartbeats 4000000 in
theorem made_c (hN : 2000 ≤ N) (hT : T = 3 * F + 1) (hF : 1 ≤ F ∧ F ≤ 4) (hL : L ≤ F) (hH : H + L = T) (h0 : ob s g 10 4 z0 (upR (upR n0 1 (some (g + 1))) 2 (some (g + 2))) z0) (h1 : ob s (g + 1) 20 1000 z0 n0 z0) (h2 : ob s (g + 2) 20 1024 z0 n0 z0) (hc : cn s = g + 3) (hk : ck s ≤ 3000) (hb : ∀ b, b < g ∨ g + 3 ≤ b → cK s b = 0) : wp (o_made N s (nI F) (nI L)) (f_made N s (nI F) (nI L)) (fun z => z.1 = some (g + 8) ∧ mdB F g H T H z.2) := by
  show wp (O_X10_found1_0 N (nI F) (nI L) s) (F_X10_found1_0 N (nI F) (nI L) s) _
  unfold O_X10_found1_0 F_X10_found1_0
  obtain ⟨p1, p2, p3, p4, p5⟩ := al_f (kd := 3) (j := 0) (l := 6) h2 hc (by omega)
  rw [hc]
  repeat rw [zsome]
  have i2 := init_X2 (N := N) p2 p3
  refine wp_and ⟨rfl, i2.1⟩ ?_
  obtain ⟨q1, q2, q3, q4⟩ := i2.2
  have f1 : ∀ b, b < g + 3 ∨ g + 8 ≤ b → sme s (f_X2_init N (csNew s 3 6) (g + 3)) b := fun b hb => (p5 b (by omega)).trans (q4 b (by omega))
  generalize f_X2_init N (csNew s 3 6) (g + 3) = s1 at q1 q2 q3 f1 ⊢
  unfold O_X10_found1_7 F_X10_found1_7
  obtain ⟨u1, u2, u3, u4, u5⟩ := al_f (kd := 9) (j := 0) (l := 12) q1.1 q2 (by omega)
  obtain ⟨v1, v2, v3, v4, v5⟩ := al_f (kd := 2) (j := 0) (l := 3) u2 u3 (by omega)
  rw [q2, u3]
  unfold O_X10_found1_18 F_X10_found1_18
  have eT : nI 3 * nI F + nI 1 = nI T := by rw [n_mul, n_add, hT]
  repeat rw [zsome]
  rw [eT]
  have i1 := init_X1 (N := N) (x1 := some (g + 3)) (x2 := nI T) v2 v3
  refine wp_and ⟨rfl, i1.1⟩ ?_
  obtain ⟨x1, x2, x3, x4, x5⟩ := i1.2
  have w0 := v1.sme (x5 (g + 8) (by omega))
  have f2 : ∀ b, b < g + 8 ∨ g + 11 ≤ b → sme s1 (f_X1_init N (csNew (csNew s1 9 12) 2 3) (g + 9) (some (g + 3)) (nI T)) b := fun b hb => ((u5 b (by omega)).trans (v5 b (by omega))).trans (x5 b (by omega))
  generalize f_X1_init N (csNew (csNew s1 9 12) 2 3) (g + 9) (some (g + 3)) (nI T) = s2 at x1 x2 x3 x4 w0 f2 ⊢
  unfold O_X10_found1_28 F_X10_found1_28
  repeat rw [zsome]
  have i10 := init_X10 (N := N) hN w0 x3 hT hF.2 hL hH
  refine wp_and ⟨rfl, i10.1⟩ ?_
  obtain ⟨y1, y2, y3, y4, y5⟩ := i10.2
  have f3 : ∀ b, b < g + 3 ∨ g + 31 ≤ b → sme s (f_X10_init N s2 (g + 8) (nI F) (nI L) (some (g + 3)) (some (g + 9))) b := fun b hb => ((f1 b (by omega)).trans (f2 b (by omega))).trans (y5 b (by omega))
  have ha := q1.sme (s1 := f_X10_init N s2 (g + 8) (nI F) (nI L) (some (g + 3)) (some (g + 9))) (fun b h1 h2 => (f2 b (by omega)).trans (y5 b (by omega)))
  have fm := x1.sme (y5 (g + 9) (by omega))
  have fm2 := x2.sme (y5 (g + 10) (by omega))
  generalize f_X10_init N s2 (g + 8) (nI F) (nI L) (some (g + 3)) (some (g + 9)) = s3 at y1 y2 y3 y4 f3 ha fm fm2 ⊢
  have e0 : nd g 0 = g + 31 := rfl
  have m0 : mdB F g H T 0 s3 := ⟨⟨h0.sme (f3 _ (by omega)), h1.sme (f3 _ (by omega)), h2.sme (f3 _ (by omega))⟩, ha, ⟨fm, fm2⟩, y1, ⟨y2.1, y2.2.1, fun j => by rw [if_neg (by omega)]; exact y2.2.2.2.2.2.2 j⟩, fun j hj => absurd hj (by omega), by omega, by omega, fun b hb' => by
    rw [e0] at hb'
    rw [(f3 b (by omega)).1]
    exact hb b (by omega)⟩
  exact made_l hN (by omega) (by omega) m0
end
end

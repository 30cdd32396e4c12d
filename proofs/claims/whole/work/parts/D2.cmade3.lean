section
/-! THE CLASS IS MADE: the world, and all its nodes -/
section
variable {N g H T n k o c a b i F L : Nat} {s s' s1 s2 S X : cS}
def woI (F H T : Nat) : Nat → Int32 := upI (upI (upI (upI z0 0 (nI F)) 1 (nI T)) 2 (nI H)) 3 (nI (2 * F + 1))
def woR (g : Nat) : Nat → Option Nat := upR (upR (upR (upR (upR (upR (upR (upR n0 6 (some (g + 11))) 8 (some (g + 18))) 9 (some (g + 23))) 10 (some (g + 28))) 11 (some (g + 29))) 5 (some (g + 3))) 7 (some (g + 9))) 4 (some (g + 30))
/-- what the world is made of, but its nodes -/
def woB (F g H T : Nat) (s : cS) : Prop := ob s (g + 8) 9 12 (woI F H T) (woR g) z0 ∧ skB s (g + 11) ∧ boB s (g + 18) ∧ boB s (g + 23) ∧ ob s (g + 28) 20 1024 z0 n0 z0 ∧ ob s (g + 29) 20 32 z0 n0 z0
theorem woB.sme (h : woB F g H T s) (f : ∀ b, g + 8 ≤ b → b < g + 30 → sme s s1 b) : woB F g H T s1 := ⟨h.1.sme (f _ (by omega) (by omega)), h.2.1.sme (fun b h1 h2 => f b (by omega) (by omega)), h.2.2.1.sme (fun b h1 h2 => f b (by omega) (by omega)), h.2.2.2.1.sme (fun b h1 h2 => f b (by omega) (by omega)), h.2.2.2.2.1.sme (f _ (by omega) (by omega)), h.2.2.2.2.2.sme (f _ (by omega) (by omega))⟩
theorem init_w51 {R : Nat → Option Nat} (t1 : ob s (g + 8) 9 12 z0 R z0) (t3 : cn s = g + 30) (hT : T = 3 * F + 1) (hF : F ≤ 4) (hL : L ≤ F) (hH : H + L = T) : wp (O_X10_init_51 N (some (g + 8)) (nI F) (nI L) (some (g + 3)) (some (g + 9)) (some (g + 8)) (some (g + 29)) s) (F_X10_init_51 N (some (g + 8)) (nI F) (nI L) (some (g + 3)) (some (g + 9)) (some (g + 8)) (some (g + 29)) s) (fun s' => ob s' (g + 8) 9 12 (woI F H T) (upR (upR (upR (upR R 11 (some (g + 29))) 5 (some (g + 3))) 7 (some (g + 9))) 4 (some (g + 30))) z0 ∧ ob s' (g + 30) 25 H z0 n0 z0 ∧ cn s' = g + 31 ∧ ck s' = ck s + H ∧ ∀ b, b ≠ g + 8 → b ≠ g + 30 → sme s s' b) := by
  unfold O_X10_init_51 F_X10_init_51 O_X10_init_59 F_X10_init_59 O_X10_init_70 F_X10_init_70
  repeat rw [zsome]
  have A1 := t1.R (j := 11) (v := some (g + 29))
  have A2 := A1.I (j := 0) (v := nI F)
  have A3 := A2.R (j := 5) (v := some (g + 3))
  have A4 := A3.R (j := 7) (v := some (g + 9))
  have eT : nI 3 * nI F + nI 1 = nI T := by rw [n_mul, n_add, hT]
  rw [eT]
  have A5 := A4.I (j := 1) (v := nI T)
  have r1 : cI (csI (csR (csR (csI (csR s 11 (g + 8) (some (g + 29))) 0 (g + 8) (nI F)) 5 (g + 8) (some (g + 3))) 7 (g + 8) (some (g + 9))) 1 (g + 8) (nI T)) 1 (g + 8) = nI T := cI_same _ _ _ _
  rw [r1]
  have eH : nI T - nI L = nI H := by rw [n_sub (by omega)]; congr 1; omega
  rw [eH]
  have A6 := A5.I (j := 2) (v := nI H)
  refine wp_and t1.is (wp_and A1.is (wp_and A2.is (wp_and A3.is (wp_and A4.is (wp_and A5.is (wp_and A5.is ?_))))))
  have fz : ∀ b, b ≠ g + 8 → sme s (csI (csI (csR (csR (csI (csR s 11 (g + 8) (some (g + 29))) 0 (g + 8) (nI F)) 5 (g + 8) (some (g + 3))) 7 (g + 8) (some (g + 9))) 1 (g + 8) (nI T)) 2 (g + 8) (nI H)) b := fun b hb => (((((sme_R hb).trans (sme_I hb)).trans (sme_R hb)).trans (sme_R hb)).trans (sme_I hb)).trans (sme_I hb)
  have cz : cn (csI (csI (csR (csR (csI (csR s 11 (g + 8) (some (g + 29))) 0 (g + 8) (nI F)) 5 (g + 8) (some (g + 3))) 7 (g + 8) (some (g + 9))) 1 (g + 8) (nI T)) 2 (g + 8) (nI H)) = g + 30 := t3
  have dz : ck (csI (csI (csR (csR (csI (csR s 11 (g + 8) (some (g + 29))) 0 (g + 8) (nI F)) 5 (g + 8) (some (g + 3))) 7 (g + 8) (some (g + 9))) 1 (g + 8) (nI T)) 2 (g + 8) (nI H)) = ck s := rfl
  generalize csI (csI (csR (csR (csI (csR s 11 (g + 8) (some (g + 29))) 0 (g + 8) (nI F)) 5 (g + 8) (some (g + 3))) 7 (g + 8) (some (g + 9))) 1 (g + 8) (nI T)) 2 (g + 8) (nI H) = sA at A6 fz cz dz ⊢
  unfold O_X10_init_89 F_X10_init_89
  repeat rw [zsome]
  have e3 : nI 2 * nI F + nI 1 = nI (2 * F + 1) := by rw [n_mul, n_add]
  rw [e3]
  have A7 := A6.I (j := 3) (v := nI (2 * F + 1))
  have r2 : cI (csI sA 3 (g + 8) (nI (2 * F + 1))) 2 (g + 8) = nI H := A7.2.2.1 2
  rw [r2, if_pos (show nI 0 < nI H by rw [n_lt' (by omega) (by omega)]; omega), n_clamp (by omega)]
  have fy : ∀ b, b ≠ g + 8 → sme s (csI sA 3 (g + 8) (nI (2 * F + 1))) b := fun b hb => (fz b hb).trans (sme_I hb)
  have cy : cn (csI sA 3 (g + 8) (nI (2 * F + 1))) = g + 30 := cz
  have dy : ck (csI sA 3 (g + 8) (nI (2 * F + 1))) = ck sA := rfl
  refine wp_and A6.is (wp_and A7.is (wp_and ⟨n_lt0 (by omega), by omega⟩ ?_))
  generalize csI sA 3 (g + 8) (nI (2 * F + 1)) = sB at A7 fy cy dy ⊢
  obtain ⟨B1, B2, B3, B4, B5⟩ := al_f (kd := 25) (j := 0) (l := H) A7 cy (by omega)
  rw [cy]
  unfold O_X10_init_110 F_X10_init_110
  repeat rw [zsome]
  have C1 := B1.R (j := 4) (v := some (g + 30))
  have fw : ∀ b, b ≠ g + 8 → b ≠ g + 30 → sme s (csR (csNew sB 25 H) 4 (g + 8) (some (g + 30))) b := fun b h1 h2 => ((fy b h1).trans (B5 b h2)).trans (sme_R h1)
  refine wp_and B1.is (wp_fin trivial ⟨C1, B2.sme (sme_R (by omega)), B3, ?_, fw⟩)
  show ck (csNew sB 25 H) = _
  omega
set_option maxHeartbeats 4000000 in
theorem init_X10 (hN : 2000 ≤ N) (h : ob s (g + 8) 9 12 z0 n0 z0) (hc : cn s = g + 11) (hT : T = 3 * F + 1) (hF : F ≤ 4) (hL : L ≤ F) (hH : H + L = T) : wp (o_X10_init N s (g + 8) (nI F) (nI L) (some (g + 3)) (some (g + 9))) (f_X10_init N s (g + 8) (nI F) (nI L) (some (g + 3)) (some (g + 9))) (fun s' => woB F g H T s' ∧ ob s' (g + 30) 25 H z0 n0 z0 ∧ cn s' = g + 31 ∧ ck s' = ck s + (7245 + H) ∧ ∀ b, b < g + 8 ∨ b = g + 9 ∨ b = g + 10 ∨ g + 31 ≤ b → sme s s' b) := by
  show wp (O_X10_init_0 N (some (g + 8)) (nI F) (nI L) (some (g + 3)) (some (g + 9)) s) (F_X10_init_0 N (some (g + 8)) (nI F) (nI L) (some (g + 3)) (some (g + 9)) s) _
  unfold O_X10_init_0 F_X10_init_0
  obtain ⟨p1, p2, p3, p4, p5⟩ := al_f (kd := 8) (j := 0) (l := 13) h hc (by omega)
  rw [hc]
  repeat rw [zsome]
  have i9 := init_X9 (N := N) hN p2 p3
  refine wp_and rfl (wp_and ⟨rfl, i9.1⟩ ?_)
  obtain ⟨q1, q2, q3, q4⟩ := i9.2
  have a1 := p1.sme (q4 (g + 8) (by omega))
  have f1 : ∀ b, b < g + 8 ∨ b = g + 9 ∨ b = g + 10 ∨ g + 31 ≤ b → sme s (f_X9_init N (csNew s 8 13) (g + 11)) b := fun b hb => (p5 b (by omega)).trans (q4 b (by omega))
  generalize f_X9_init N (csNew s 8 13) (g + 11) = s1 at q1 q2 q3 a1 f1 ⊢
  unfold O_X10_init_12 F_X10_init_12
  repeat rw [zsome]
  refine wp_and a1.is ?_
  have a2 := a1.R (j := 6) (v := some (g + 11))
  have k2 := q1.sme (s1 := csR s1 6 (g + 8) (some (g + 11))) (fun b h1 h2 => sme_R (by omega))
  have f2 : ∀ b, b < g + 8 ∨ b = g + 9 ∨ b = g + 10 ∨ g + 31 ≤ b → sme s (csR s1 6 (g + 8) (some (g + 11))) b := fun b hb => (f1 b hb).trans (sme_R (by omega))
  have c2 : cn (csR s1 6 (g + 8) (some (g + 11))) = g + 18 := q2
  have d2 : ck (csR s1 6 (g + 8) (some (g + 11))) = ck s1 := rfl
  generalize csR s1 6 (g + 8) (some (g + 11)) = s2 at a2 k2 f2 c2 d2 ⊢
  obtain ⟨u1, u2, u3, u4, u5⟩ := al_f (kd := 1) (j := 0) (l := 6) a2 c2 (by omega)
  rw [c2]
  unfold O_X10_init_19 F_X10_init_19
  repeat rw [zsome]
  have i0 := init_X0 (N := N) (by omega) u2 u3
  refine wp_and ⟨rfl, i0.1⟩ ?_
  obtain ⟨v1, v2, v3, v4⟩ := i0.2
  have a3 := u1.sme (v4 (g + 8) (by omega))
  have k3 := k2.sme (s1 := f_X0_init N (csNew s2 1 6) (g + 18)) (fun b h1 h2 => (u5 b (by omega)).trans (v4 b (by omega)))
  have f3 : ∀ b, b < g + 8 ∨ b = g + 9 ∨ b = g + 10 ∨ g + 31 ≤ b → sme s (f_X0_init N (csNew s2 1 6) (g + 18)) b := fun b hb => ((f2 b hb).trans (u5 b (by omega))).trans (v4 b (by omega))
  generalize f_X0_init N (csNew s2 1 6) (g + 18) = s3 at v1 v2 v3 a3 k3 f3 ⊢
  unfold O_X10_init_23 F_X10_init_23
  repeat rw [zsome]
  refine wp_and a3.is ?_
  have a4 := a3.R (j := 8) (v := some (g + 18))
  have k4 := k3.sme (s1 := csR s3 8 (g + 8) (some (g + 18))) (fun b h1 h2 => sme_R (by omega))
  have b4 := v1.sme (s1 := csR s3 8 (g + 8) (some (g + 18))) (fun b h1 h2 => sme_R (by omega))
  have f4 : ∀ b, b < g + 8 ∨ b = g + 9 ∨ b = g + 10 ∨ g + 31 ≤ b → sme s (csR s3 8 (g + 8) (some (g + 18))) b := fun b hb => (f3 b hb).trans (sme_R (by omega))
  have c4 : cn (csR s3 8 (g + 8) (some (g + 18))) = g + 23 := v2
  have d4 : ck (csR s3 8 (g + 8) (some (g + 18))) = ck s3 := rfl
  generalize csR s3 8 (g + 8) (some (g + 18)) = s4 at a4 k4 b4 f4 c4 d4 ⊢
  obtain ⟨x1, x2, x3, x4, x5⟩ := al_f (kd := 1) (j := 0) (l := 6) a4 c4 (by omega)
  rw [c4]
  unfold O_X10_init_30 F_X10_init_30
  repeat rw [zsome]
  have j0 := init_X0 (N := N) (by omega) x2 x3
  refine wp_and ⟨rfl, j0.1⟩ ?_
  obtain ⟨y1, y2, y3, y4⟩ := j0.2
  have a5 := x1.sme (y4 (g + 8) (by omega))
  have k5 := k4.sme (s1 := f_X0_init N (csNew s4 1 6) (g + 23)) (fun b h1 h2 => (x5 b (by omega)).trans (y4 b (by omega)))
  have b5 := b4.sme (s1 := f_X0_init N (csNew s4 1 6) (g + 23)) (fun b h1 h2 => (x5 b (by omega)).trans (y4 b (by omega)))
  have f5 : ∀ b, b < g + 8 ∨ b = g + 9 ∨ b = g + 10 ∨ g + 31 ≤ b → sme s (f_X0_init N (csNew s4 1 6) (g + 23)) b := fun b hb => ((f4 b hb).trans (x5 b (by omega))).trans (y4 b (by omega))
  generalize f_X0_init N (csNew s4 1 6) (g + 23) = s5 at y1 y2 y3 a5 k5 b5 f5 ⊢
  unfold O_X10_init_34 F_X10_init_34
  repeat rw [zsome]
  refine wp_and a5.is (wp_and ⟨n_lt0 (by omega), by rw [n_clamp (by omega)]; omega⟩ ?_)
  have a6 := a5.R (j := 9) (v := some (g + 23))
  have k6 := k5.sme (s1 := csR s5 9 (g + 8) (some (g + 23))) (fun b h1 h2 => sme_R (by omega))
  have b6 := b5.sme (s1 := csR s5 9 (g + 8) (some (g + 23))) (fun b h1 h2 => sme_R (by omega))
  have e6 := y1.sme (s1 := csR s5 9 (g + 8) (some (g + 23))) (fun b h1 h2 => sme_R (by omega))
  have f6 : ∀ b, b < g + 8 ∨ b = g + 9 ∨ b = g + 10 ∨ g + 31 ≤ b → sme s (csR s5 9 (g + 8) (some (g + 23))) b := fun b hb => (f5 b hb).trans (sme_R (by omega))
  have c6 : cn (csR s5 9 (g + 8) (some (g + 23))) = g + 28 := y2
  have d6 : ck (csR s5 9 (g + 8) (some (g + 23))) = ck s5 := rfl
  generalize csR s5 9 (g + 8) (some (g + 23)) = s6 at a6 k6 b6 e6 f6 c6 d6 ⊢
  obtain ⟨z1, z2, z3, z4, z5⟩ := al_f (kd := 20) (j := 0) (l := 1024) a6 c6 (by omega)
  rw [c6, n_clamp (by omega)]
  have k7 := k6.sme (s1 := csNew s6 20 1024) (fun b h1 h2 => z5 b (by omega))
  have b7 := b6.sme (s1 := csNew s6 20 1024) (fun b h1 h2 => z5 b (by omega))
  have e7 := e6.sme (s1 := csNew s6 20 1024) (fun b h1 h2 => z5 b (by omega))
  have f7 : ∀ b, b < g + 8 ∨ b = g + 9 ∨ b = g + 10 ∨ g + 31 ≤ b → sme s (csNew s6 20 1024) b := fun b hb => (f6 b hb).trans (z5 b (by omega))
  generalize csNew s6 20 1024 = s7 at z1 z2 z3 z4 k7 b7 e7 f7 ⊢
  unfold O_X10_init_43 F_X10_init_43
  repeat rw [zsome]
  refine wp_and z1.is (wp_and ⟨n_lt0 (by omega), by rw [n_clamp (by omega)]; omega⟩ ?_)
  have a8 := z1.R (j := 10) (v := some (g + 28))
  have r8 := z2.sme (s1 := csR s7 10 (g + 8) (some (g + 28))) (sme_R (by omega))
  have k8 := k7.sme (s1 := csR s7 10 (g + 8) (some (g + 28))) (fun b h1 h2 => sme_R (by omega))
  have b8 := b7.sme (s1 := csR s7 10 (g + 8) (some (g + 28))) (fun b h1 h2 => sme_R (by omega))
  have e8 := e7.sme (s1 := csR s7 10 (g + 8) (some (g + 28))) (fun b h1 h2 => sme_R (by omega))
  have f8 : ∀ b, b < g + 8 ∨ b = g + 9 ∨ b = g + 10 ∨ g + 31 ≤ b → sme s (csR s7 10 (g + 8) (some (g + 28))) b := fun b hb => (f7 b hb).trans (sme_R (by omega))
  have c8 : cn (csR s7 10 (g + 8) (some (g + 28))) = g + 29 := z3
  have d8 : ck (csR s7 10 (g + 8) (some (g + 28))) = ck s7 := rfl
  generalize csR s7 10 (g + 8) (some (g + 28)) = s8 at a8 r8 k8 b8 e8 f8 c8 d8 ⊢
  obtain ⟨t1, t2, t3, t4, t5⟩ := al_f (kd := 20) (j := 0) (l := 32) a8 c8 (by omega)
  rw [c8, n_clamp (by omega)]
  have r9 := r8.sme (t5 _ (by omega))
  have k9 := k8.sme (s1 := csNew s8 20 32) (fun b h1 h2 => t5 b (by omega))
  have b9 := b8.sme (s1 := csNew s8 20 32) (fun b h1 h2 => t5 b (by omega))
  have e9 := e8.sme (s1 := csNew s8 20 32) (fun b h1 h2 => t5 b (by omega))
  have f9 : ∀ b, b < g + 8 ∨ b = g + 9 ∨ b = g + 10 ∨ g + 31 ≤ b → sme s (csNew s8 20 32) b := fun b hb => (f8 b hb).trans (t5 b (by omega))
  generalize csNew s8 20 32 = s9 at t1 t2 t3 t4 r9 k9 b9 e9 f9 ⊢
  have E := init_w51 (N := N) (F := F) (L := L) (H := H) t1 t3 hT hF hL hH
  refine ⟨E.1, ?_⟩
  have E9 := E.2
  clear E
  generalize F_X10_init_51 N (some (g + 8)) (nI F) (nI L) (some (g + 3)) (some (g + 9)) (some (g + 8)) (some (g + 29)) s9 = sC at E9 ⊢
  obtain ⟨E1, E2, E3, E4, E5⟩ := E9
  exact ⟨⟨E1, k9.sme (fun b h1 h2 => E5 b (by omega) (by omega)), b9.sme (fun b h1 h2 => E5 b (by omega) (by omega)), e9.sme (fun b h1 h2 => E5 b (by omega) (by omega)), r9.sme (E5 _ (by omega) (by omega)), t2.sme (E5 _ (by omega) (by omega))⟩, E2, E3, by omega, fun b hb => (f9 b hb).trans (E5 b (by omega) (by omega))⟩
/-- all that is made -/
def mdB (F g H T i : Nat) (s : cS) : Prop := (ob s g 10 4 z0 (upR (upR n0 1 (some (g + 1))) 2 (some (g + 2))) z0 ∧ ob s (g + 1) 20 1000 z0 n0 z0 ∧ ob s (g + 2) 20 1024 z0 n0 z0) ∧ haB s (g + 3) ∧ (ob s (g + 9) 2 3 (upI z0 1 (nI T)) (upR (upR n0 2 (some (g + 10))) 0 (some (g + 3))) z0 ∧ ob s (g + 10) 20 32 z0 n0 z0) ∧ woB F g H T s ∧ (cK s (g + 30) = 25 ∧ cL s (g + 30) = H ∧ ∀ j, cP s (g + 30) j = if j < i then some (nd g j) else none) ∧ (∀ j, j < i → ndB g T s (nd g j) j) ∧ cn s = nd g i ∧ ck s ≤ 20000 + 3000 * i ∧ ∀ b, b < g ∨ nd g i ≤ b → cK s b = 0
set_option maxHeartbeats 4000000 in
theorem made_c (hN : 2000 ≤ N) (hT : T = 3 * F + 1) (hF : 1 ≤ F ∧ F ≤ 4) (hL : L ≤ F) (hH : H + L = T) (h0 : ob s g 10 4 z0 (upR (upR n0 1 (some (g + 1))) 2 (some (g + 2))) z0) (h1 : ob s (g + 1) 20 1000 z0 n0 z0) (h2 : ob s (g + 2) 20 1024 z0 n0 z0) (hc : cn s = g + 3) (hk : ck s ≤ 3000) (hb : ∀ b, b < g ∨ g + 3 ≤ b → cK s b = 0) : wp (o_made N s (nI F) (nI L)) (f_made N s (nI F) (nI L)) (fun z => z.1 = some (g + 8) ∧ mdB F g H T H z.2) := by
  show wp (O_X10_found1_0 N (nI F) (nI L) s) (F_X10_found1_0 N (nI F) (nI L) s) _
  unfold O_X10_found1_0 F_X10_found1_0
  obtain ⟨p1, p2, p3, p4, p5⟩ := al_f (kd := 3) (j := 0) (l := 6) h2 hc (by omega)
  rw [hc]
  repeat rw [zsome]
  have i2 := init_X2 (N := N) p2 p3
  refine wp_and ⟨rfl, i2.1⟩ ?_
  obtain ⟨q1, q2, q3, q4⟩ := i2.2
  have f1 : ∀ b, b < g + 3 ∨ g + 8 ≤ b → sme s (f_X2_init N (csNew s 3 6) (g + 3)) b := fun b hb => (p5 b (by omega)).trans (q4 b (by omega))
  generalize f_X2_init N (csNew s 3 6) (g + 3) = s1 at q1 q2 q3 f1 ⊢
  unfold O_X10_found1_7 F_X10_found1_7
  obtain ⟨u1, u2, u3, u4, u5⟩ := al_f (kd := 9) (j := 0) (l := 12) q1.1 q2 (by omega)
  obtain ⟨v1, v2, v3, v4, v5⟩ := al_f (kd := 2) (j := 0) (l := 3) u2 u3 (by omega)
  rw [q2, u3]
  unfold O_X10_found1_18 F_X10_found1_18
  have eT : nI 3 * nI F + nI 1 = nI T := by rw [n_mul, n_add, hT]
  repeat rw [zsome]
  rw [eT]
  have i1 := init_X1 (N := N) (x1 := some (g + 3)) (x2 := nI T) v2 v3
  refine wp_and ⟨rfl, i1.1⟩ ?_
  obtain ⟨x1, x2, x3, x4, x5⟩ := i1.2
  have w0 := v1.sme (x5 (g + 8) (by omega))
  have f2 : ∀ b, b < g + 8 ∨ g + 11 ≤ b → sme s1 (f_X1_init N (csNew (csNew s1 9 12) 2 3) (g + 9) (some (g + 3)) (nI T)) b := fun b hb => ((u5 b (by omega)).trans (v5 b (by omega))).trans (x5 b (by omega))
  generalize f_X1_init N (csNew (csNew s1 9 12) 2 3) (g + 9) (some (g + 3)) (nI T) = s2 at x1 x2 x3 x4 w0 f2 ⊢
  unfold O_X10_found1_28 F_X10_found1_28
  repeat rw [zsome]
  have i10 := init_X10 (N := N) hN w0 x3 hT hF.2 hL hH
  refine wp_and ⟨rfl, i10.1⟩ ?_
  obtain ⟨y1, y2, y3, y4, y5⟩ := i10.2
  have f3 : ∀ b, b < g + 3 ∨ g + 31 ≤ b → sme s (f_X10_init N s2 (g + 8) (nI F) (nI L) (some (g + 3)) (some (g + 9))) b := fun b hb => ((f1 b (by omega)).trans (f2 b (by omega))).trans (y5 b (by omega))
  have ha := q1.sme (s1 := f_X10_init N s2 (g + 8) (nI F) (nI L) (some (g + 3)) (some (g + 9))) (fun b h1 h2 => (f2 b (by omega)).trans (y5 b (by omega)))
  have fm := x1.sme (y5 (g + 9) (by omega))
  have fm2 := x2.sme (y5 (g + 10) (by omega))
  generalize f_X10_init N s2 (g + 8) (nI F) (nI L) (some (g + 3)) (some (g + 9)) = s3 at y1 y2 y3 y4 f3 ha fm fm2 ⊢
  have e0 : nd g 0 = g + 31 := rfl
  have m0 : mdB F g H T 0 s3 := ⟨⟨h0.sme (f3 _ (by omega)), h1.sme (f3 _ (by omega)), h2.sme (f3 _ (by omega))⟩, ha, ⟨fm, fm2⟩, y1, ⟨y2.1, y2.2.1, fun j => by rw [if_neg (by omega)]; exact y2.2.2.2.2.2.2 j⟩, fun j hj => absurd hj (by omega), by omega, by omega, fun b hb' => by
    rw [e0] at hb'
    rw [(f3 b (by omega)).1]
    exact hb b (by omega)⟩
  unfold O_X10_found1_31 F_X10_found1_31
  refine wp_seq (Q := fun Z : Nat × Option Nat × cS => Z.2.1 = some (g + 8) ∧ mdB F g H T H Z.2.2) ?_ (fun Z hZ => ?_)
  rotate_left
  · unfold OA_X10_found1_35 A_X10_found1_35
    exact wp_fin trivial hZ
  refine wp_loop (K := H) (fun j (X : cS) => mdB F g H T j X) (fun m j X => OL_X10_found1_35 N m (some (g + 8)) (nI j) X) (fun m j X => L_X10_found1_35 N m (some (g + 8)) (nI j) X) (fun m j X hj hI ih => ?_) 0 N s3 (by omega) (by omega) m0
  have hI' := hI
  obtain ⟨⟨l0, l1, l2⟩, hh, ⟨g1, g2⟩, wo, ⟨n1, n2, n3⟩, nn, cc, kk_, ze⟩ := hI'
  have r4 : cR X 4 (g + 8) = some (g + 30) := wo.1.2.2.2.1 4
  unfold OL_X10_found1_35 L_X10_found1_35 OB_X10_found1_35 B_X10_found1_35
  repeat rw [zsome]
  rw [r4]
  repeat rw [zsome]
  rw [n2]
  refine wp_and wo.1.is (wp_and ⟨rfl, n1⟩ ?_)
  by_cases c : j = H
  · subst c
    exact wp_pos (by rw [n_le' (by omega) (by omega)]; omega) (wp_fin trivial ⟨rfl, hI⟩)
  refine wp_neg (by rw [n_le' (by omega) (by omega)]; omega) (wp_and wo.1.is ?_)
  obtain ⟨z1, z2, z3, z4, z5⟩ := al_f (kd := 6) (j := 0) (l := 19) wo.1 cc (by unfold nd; omega)
  rw [cc]
  repeat rw [zsome]
  have W : sme X (csNew X 6 19) (g + 8) := z5 _ (by unfold nd; omega)
  have i6 := init_X6 (N := N) (g := g) (T := T) (i := j) hN z2 z3 (by omega) (by unfold nd; omega) (W.1.trans wo.1.1) ((W.2.2.2.1 6).trans (wo.1.2.2.2.1 6)) ((W.2.2.1 1).trans (wo.1.2.2.1 1))
  refine wp_and ⟨rfl, i6.1⟩ ?_
  obtain ⟨t1, t2, t3, t4⟩ := i6.2
  have f6 : ∀ b, b < nd g j ∨ nd g j + 24 ≤ b → sme X (f_X6_init N (csNew X 6 19) (nd g j) (some (g + 8)) (nI j)) b := fun b hb => (z5 b (by omega)).trans (t4 b (by omega))
  generalize f_X6_init N (csNew X 6 19) (nd g j) (some (g + 8)) (nI j) = s6 at t1 t2 t3 f6 ⊢
  have e1 : nd g (j + 1) = nd g j + 24 := by unfold nd; omega
  have jg : g + 31 ≤ nd g j := by unfold nd; omega
  have N6 := f6 (g + 30) (by omega)
  unfold O_X10_found1_61 F_X10_found1_61
  repeat rw [zsome]
  rw [n_clamp (by omega), n_add]
  refine wp_and ⟨⟨rfl, N6.1.trans n1⟩, by rw [N6.2.1, n2]; exact ((n_in (by omega)).2 (by omega)), Or.inr ⟨rfl, t1.1.1⟩⟩ (ih _ ?_ (by omega))
  have fP : ∀ b, b ≠ g + 30 → sme s6 (csP s6 (g + 30) j (some (nd g j))) b := fun b hb => ⟨rfl, rfl, fun _ => rfl, fun _ => rfl, rfl, rfl, cP_other _ _ _ hb⟩
  have fa : ∀ b, b ≠ g + 30 → b < nd g j ∨ nd g j + 24 ≤ b → sme X (csP s6 (g + 30) j (some (nd g j))) b := fun b h1 h2 => (f6 b h2).trans (fP b h1)
  refine ⟨⟨l0.sme (fa _ (by omega) (by omega)), l1.sme (fa _ (by omega) (by omega)), l2.sme (fa _ (by omega) (by omega))⟩, hh.sme (fun b h1 h2 => fa b (by omega) (by omega)), ⟨g1.sme (fa _ (by omega) (by omega)), g2.sme (fa _ (by omega) (by omega))⟩, wo.sme (fun b h1 h2 => fa b (by omega) (by omega)), ⟨N6.1.trans n1, N6.2.1.trans n2, fun q => ?_⟩, fun q hq => ?_, ?_, ?_, fun b hb' => ?_⟩
  · rw [cP_at]
    by_cases d : q = j
    · rw [if_pos d, if_pos (by omega), d]
    · rw [if_neg d, show cP s6 (g + 30) q = cP X (g + 30) q by rw [N6.2.2.2.2.2.2], n3 q]
      by_cases d2 : q < j
      · rw [if_pos d2, if_pos (by omega)]
      · rw [if_neg d2, if_neg (by omega)]
  · by_cases d : q = j
    · rw [d]
      exact t1.sme (fun b h1 h2 => fP b (by omega))
    · have q1 : nd g q + 24 ≤ nd g j := by unfold nd; omega
      have q2 : g + 31 ≤ nd g q := by unfold nd; omega
      exact (nn q (by omega)).sme (fun b h1 h2 => fa b (by omega) (by omega))
  · show cn s6 = _
    omega
  · show ck s6 ≤ _
    omega
  · rw [e1] at hb'
    rw [(fa b (by omega) (by omega)).1]
    exact ze b (by omega)
end
end

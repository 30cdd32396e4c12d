section
/-! THE CLASS IS MADE: shelf, node, world -/
section
variable {N g H T n k o c a b i F L : Nat} {s s' s1 s2 S X : cS}
/-- a shelf -/
def shR (o : Nat) (x1 : Option Nat) : Nat → Option Nat := upR (upR (upR (upR (upR (upR (upR (upR (upR (upR n0 2 (some (o + 1))) 3 (some (o + 2))) 5 (some (o + 3))) 10 (some (o + 4))) 0 x1) 4 (some (o + 5))) 6 (some (o + 6))) 7 (some (o + 7))) 8 (some (o + 8))) 9 (some (o + 9))
def shB (T : Nat) (s : cS) (o : Nat) (x1 : Option Nat) : Prop := ob s o 7 14 (upI z0 1 (nI T)) (shR o x1) z0 ∧ ob s (o + 1) 24 32 z0 n0 z0 ∧ ob s (o + 2) 21 32 z0 n0 z0 ∧ ob s (o + 3) 21 2 z0 n0 z0 ∧ ob s (o + 4) 22 80 z0 n0 z0 ∧ ob s (o + 5) 24 (64 * T) z0 n0 z0 ∧ ob s (o + 6) 24 T z0 n0 z0 ∧ ob s (o + 7) 21 T z0 n0 z0 ∧ ob s (o + 8) 24 T z0 n0 z0 ∧ ob s (o + 9) 24 T z0 n0 z0
theorem shB.sme {x1 : Option Nat} (h : shB T s o x1) (f : ∀ b, o ≤ b → b < o + 10 → sme s s1 b) : shB T s1 o x1 := ⟨h.1.sme (f _ (by omega) (by omega)), h.2.1.sme (f _ (by omega) (by omega)), h.2.2.1.sme (f _ (by omega) (by omega)), h.2.2.2.1.sme (f _ (by omega) (by omega)), h.2.2.2.2.1.sme (f _ (by omega) (by omega)), h.2.2.2.2.2.1.sme (f _ (by omega) (by omega)), h.2.2.2.2.2.2.1.sme (f _ (by omega) (by omega)), h.2.2.2.2.2.2.2.1.sme (f _ (by omega) (by omega)), h.2.2.2.2.2.2.2.2.1.sme (f _ (by omega) (by omega)), h.2.2.2.2.2.2.2.2.2.sme (f _ (by omega) (by omega))⟩
theorem init_X8 {x1 : Option Nat} (h : ob s o 7 14 z0 n0 z0) (hc : cn s = o + 1) (hT : T ≤ 13) : wp (o_X8_init N s o x1 (nI T)) (f_X8_init N s o x1 (nI T)) (fun s' => shB T s' o x1 ∧ cn s' = o + 10 ∧ ck s' = ck s + (146 + 68 * T) ∧ ∀ b, b < o ∨ o + 10 ≤ b → sme s s' b) := by
  show wp (O_X8_init_0 N (some o) x1 (nI T) s) (F_X8_init_0 N (some o) x1 (nI T) s) _
  unfold O_X8_init_0 F_X8_init_0
  refine wp_and rfl (st_al (O := O_X8_init_13 N (some o) x1 (nI T)) (Fk := F_X8_init_13 N (some o) x1 (nI T)) (l := 32) h hc (by omega) rfl (by omega) (fun s1 a1 b1 c1 d1 e1 => ?_))
  unfold O_X8_init_13 F_X8_init_13
  refine st_al (O := O_X8_init_21 N (some o) x1 (nI T)) (Fk := F_X8_init_21 N (some o) x1 (nI T)) (l := 32) a1 c1 (by omega) rfl (by omega) (fun s2 a2 b2 c2 d2 e2 => ?_)
  unfold O_X8_init_21 F_X8_init_21
  refine st_al (O := O_X8_init_28 N (some o) x1 (nI T)) (Fk := F_X8_init_28 N (some o) x1 (nI T)) (l := 2) a2 c2 (by omega) rfl (by omega) (fun s3 a3 b3 c3 d3 e3 => ?_)
  unfold O_X8_init_28 F_X8_init_28
  refine st_al (O := O_X8_init_36 N (some o) x1 (nI T)) (Fk := F_X8_init_36 N (some o) x1 (nI T)) (l := 80) a3 c3 (by omega) rfl (by omega) (fun s4 a4 b4 c4 d4 e4 => ?_)
  unfold O_X8_init_36 F_X8_init_36
  rw [zsome]
  have a5 := a4.R (j := 0) (v := x1)
  have a6 := a5.I (j := 1) (v := nI T)
  have e6 : ∀ b, b ≠ o → sme s4 (csI (csR s4 0 o x1) 1 o (nI T)) b := fun b hb => (sme_R hb).trans (sme_I hb)
  refine wp_and a4.is (wp_and a5.is ?_)
  have c6 : cn (csI (csR s4 0 o x1) 1 o (nI T)) = o + 5 := c4
  have d6 : ck (csI (csR s4 0 o x1) 1 o (nI T)) = ck s4 := rfl
  generalize csI (csR s4 0 o x1) 1 o (nI T) = s6 at a6 e6 c6 d6 ⊢
  unfold O_X8_init_46 F_X8_init_46
  refine st_al (O := O_X8_init_57 N (some o) (nI T)) (Fk := F_X8_init_57 N (some o) (nI T)) (l := 64 * T) a6 c6 (by omega) (by rw [n_mul]) (by omega) (fun s7 a7 b7 c7 d7 e7 => ?_)
  unfold O_X8_init_57 F_X8_init_57
  refine st_al (O := O_X8_init_65 N (some o) (nI T)) (Fk := F_X8_init_65 N (some o) (nI T)) (l := T) a7 c7 (by omega) rfl (by omega) (fun s8 a8 b8 c8 d8 e8 => ?_)
  unfold O_X8_init_65 F_X8_init_65
  refine st_al (O := O_X8_init_72 N (some o) (nI T)) (Fk := F_X8_init_72 N (some o) (nI T)) (l := T) a8 c8 (by omega) rfl (by omega) (fun s9 a9 b9 c9 d9 e9 => ?_)
  unfold O_X8_init_72 F_X8_init_72
  refine st_al (O := O_X8_init_80 N (some o) (nI T)) (Fk := F_X8_init_80 N (some o) (nI T)) (l := T) a9 c9 (by omega) rfl (by omega) (fun s10 a10 b10 c10 d10 e10 => ?_)
  unfold O_X8_init_80 F_X8_init_80
  refine st_al (O := fun _ => True) (Fk := fun s => s) (l := T) a10 c10 (by omega) rfl (by omega) (fun s11 a11 b11 c11 d11 e11 => wp_fin trivial ?_)
  have t1 : ∀ b, b ≠ o → b < o + 5 ∨ o + 10 ≤ b → sme s4 s11 b := fun b h1 h2 => (((((e6 b h1).trans (e7 b h1 (by omega))).trans (e8 b h1 (by omega))).trans (e9 b h1 (by omega))).trans (e10 b h1 (by omega))).trans (e11 b h1 (by omega))
  refine ⟨⟨a11, ?_, ?_, ?_, ?_, ?_, ?_, ?_, ?_, b11⟩, c11, by omega, fun b hb => ?_⟩
  · exact ((((b1.sme (e2 _ (by omega) (by omega))).sme (e3 _ (by omega) (by omega))).sme (e4 _ (by omega) (by omega)))).sme (t1 _ (by omega) (by omega))
  · exact ((b2.sme (e3 _ (by omega) (by omega))).sme (e4 _ (by omega) (by omega))).sme (t1 _ (by omega) (by omega))
  · exact (b3.sme (e4 _ (by omega) (by omega))).sme (t1 _ (by omega) (by omega))
  · exact b4.sme (t1 _ (by omega) (by omega))
  · exact (((b7.sme (e8 _ (by omega) (by omega))).sme (e9 _ (by omega) (by omega))).sme (e10 _ (by omega) (by omega))).sme (e11 _ (by omega) (by omega))
  · exact ((b8.sme (e9 _ (by omega) (by omega))).sme (e10 _ (by omega) (by omega))).sme (e11 _ (by omega) (by omega))
  · exact (b9.sme (e10 _ (by omega) (by omega))).sme (e11 _ (by omega) (by omega))
  · exact b10.sme (e11 _ (by omega) (by omega))
  · exact ((((e1 b (by omega) (by omega)).trans (e2 b (by omega) (by omega))).trans (e3 b (by omega) (by omega))).trans (e4 b (by omega) (by omega))).trans (t1 b (by omega) (by omega))
/-- a node -/
def ndI (i : Nat) : Nat → Int32 := upI (upI (upI (upI (upI (upI z0 8 (nI 1)) 9 (nI 1)) 12 (-1)) 13 (-1)) 18 (-1)) 1 (nI i)
def ndR (g o : Nat) : Nat → Option Nat := upR (upR (upR (upR (upR (upR (upR n0 2 (some (o + 1))) 4 (some (o + 6))) 5 (some (o + 11))) 6 (some (o + 12))) 7 (some (o + 13))) 0 (some (g + 8))) 3 (some (o + 14))
def ndB (g T : Nat) (s : cS) (o i : Nat) : Prop := ob s o 6 19 (ndI i) (ndR g o) z0 ∧ loB s (o + 1) ∧ boB s (o + 6) ∧ ob s (o + 11) 20 32 z0 n0 z0 ∧ ob s (o + 12) 21 3 z0 n0 z0 ∧ ob s (o + 13) 24 4 z0 n0 z0 ∧ shB T s (o + 14) (some (g + 11))
theorem ndB.sme (h : ndB g T s o i) (f : ∀ b, o ≤ b → b < o + 24 → sme s s1 b) : ndB g T s1 o i := ⟨h.1.sme (f _ (by omega) (by omega)), h.2.1.sme (fun b h1 h2 => f b (by omega) (by omega)), h.2.2.1.sme (fun b h1 h2 => f b (by omega) (by omega)), h.2.2.2.1.sme (f _ (by omega) (by omega)), h.2.2.2.2.1.sme (f _ (by omega) (by omega)), h.2.2.2.2.2.1.sme (f _ (by omega) (by omega)), h.2.2.2.2.2.2.sme (fun b h1 h2 => f b (by omega) (by omega))⟩
theorem init_n46 {R : Nat → Option Nat} (z1 : ob s o 6 19 z0 R z0) (z3 : cn s = o + 14) (hT : T ≤ 13) (ho : g + 31 ≤ o) (w1 : cK s (g + 8) = 9) (w2 : cR s 6 (g + 8) = some (g + 11)) (w3 : cI s 1 (g + 8) = nI T) : wp (O_X6_init_46 N (some o) (some (g + 8)) (nI i) (some o) (some (o + 13)) s) (F_X6_init_46 N (some o) (some (g + 8)) (nI i) (some o) (some (o + 13)) s) (fun s' => ob s' o 6 19 (ndI i) (upR (upR (upR R 7 (some (o + 13))) 0 (some (g + 8))) 3 (some (o + 14))) z0 ∧ shB T s' (o + 14) (some (g + 11)) ∧ cn s' = o + 24 ∧ ck s' = ck s + (160 + 68 * T) ∧ ∀ b, b ≠ o → b < o + 14 ∨ o + 24 ≤ b → sme s s' b) := by
  unfold O_X6_init_46 F_X6_init_46 O_X6_init_54 F_X6_init_54 O_X6_init_64 F_X6_init_64 O_X6_init_74 F_X6_init_74
  repeat rw [zsome]
  have A1 := z1.R (j := 7) (v := some (o + 13))
  have A2 := A1.I (j := 8) (v := nI 1)
  have A3 := A2.I (j := 9) (v := nI 1)
  have A4 := A3.I (j := 12) (v := -1)
  have A5 := A4.I (j := 13) (v := -1)
  have A6 := A5.I (j := 18) (v := -1)
  have A7 := A6.R (j := 0) (v := some (g + 8))
  have A8 := A7.I (j := 1) (v := nI i)
  refine wp_and z1.is (wp_and A1.is (wp_and A2.is (wp_and A3.is (wp_and A4.is (wp_and A5.is (wp_and A6.is (wp_and A7.is ?_)))))))
  have fz : ∀ b, b ≠ o → sme s (csI (csR (csI (csI (csI (csI (csI (csR s 7 o (some (o + 13))) 8 o (nI 1)) 9 o (nI 1)) 12 o (-1)) 13 o (-1)) 18 o (-1)) 0 o (some (g + 8))) 1 o (nI i)) b := fun b hb => (((((((sme_R hb).trans (sme_I hb)).trans (sme_I hb)).trans (sme_I hb)).trans (sme_I hb)).trans (sme_I hb)).trans (sme_R hb)).trans (sme_I hb)
  have cz : cn (csI (csR (csI (csI (csI (csI (csI (csR s 7 o (some (o + 13))) 8 o (nI 1)) 9 o (nI 1)) 12 o (-1)) 13 o (-1)) 18 o (-1)) 0 o (some (g + 8))) 1 o (nI i)) = o + 14 := z3
  have dz : ck (csI (csR (csI (csI (csI (csI (csI (csR s 7 o (some (o + 13))) 8 o (nI 1)) 9 o (nI 1)) 12 o (-1)) 13 o (-1)) 18 o (-1)) 0 o (some (g + 8))) 1 o (nI i)) = ck s := rfl
  generalize csI (csR (csI (csI (csI (csI (csI (csR s 7 o (some (o + 13))) 8 o (nI 1)) 9 o (nI 1)) 12 o (-1)) 13 o (-1)) 18 o (-1)) 0 o (some (g + 8))) 1 o (nI i) = sA at A8 fz cz dz ⊢
  unfold O_X6_init_84 F_X6_init_84
  obtain ⟨B1, B2, B3, B4, B5⟩ := al_f (kd := 7) (j := 0) (l := 14) A8 cz (by omega)
  have W : sme s (csNew sA 7 14) (g + 8) := (fz _ (by omega)).trans (B5 _ (by omega))
  have W1 : cK (csNew sA 7 14) (g + 8) = 9 := W.1.trans w1
  have W2 : cR (csNew sA 7 14) 6 (g + 8) = some (g + 11) := (W.2.2.2.1 6).trans w2
  have W3 : cI (csNew sA 7 14) 1 (g + 8) = nI T := (W.2.2.1 1).trans w3
  rw [cz]
  repeat rw [zsome]
  rw [W2, W3]
  have i8 := init_X8 (N := N) (x1 := some (g + 11)) B2 B3 hT
  refine wp_and ⟨rfl, W1⟩ (wp_and ⟨rfl, W1⟩ (wp_and ⟨rfl, i8.1⟩ ?_))
  obtain ⟨C1, C2, C3, C4⟩ := i8.2
  have D1 := B1.sme (C4 o (by omega))
  have fa : ∀ b, b ≠ o → b < o + 14 ∨ o + 24 ≤ b → sme s (f_X8_init N (csNew sA 7 14) (o + 14) (some (g + 11)) (nI T)) b := fun b h1 h2 => ((fz b h1).trans (B5 b (by omega))).trans (C4 b (by omega))
  generalize f_X8_init N (csNew sA 7 14) (o + 14) (some (g + 11)) (nI T) = sB at C1 C2 C3 D1 fa ⊢
  unfold O_X6_init_100 F_X6_init_100
  repeat rw [zsome]
  have E1 := D1.R (j := 3) (v := some (o + 14))
  have fb : ∀ b, b ≠ o → b < o + 14 ∨ o + 24 ≤ b → sme s (csR sB 3 o (some (o + 14))) b := fun b h1 h2 => (fa b h1 h2).trans (sme_R h1)
  refine wp_and D1.is (wp_fin trivial ⟨E1, C1.sme (fun b h1 h2 => sme_R (by omega)), C2, ?_, fb⟩)
  show ck sB = _
  omega
set_option maxHeartbeats 4000000 in
theorem init_X6 (hN : 2000 ≤ N) (h : ob s o 6 19 z0 n0 z0) (hc : cn s = o + 1) (hT : T ≤ 13) (ho : g + 31 ≤ o) (w1 : cK s (g + 8) = 9) (w2 : cR s 6 (g + 8) = some (g + 11)) (w3 : cI s 1 (g + 8) = nI T) : wp (o_X6_init N s o (some (g + 8)) (nI i)) (f_X6_init N s o (some (g + 8)) (nI i)) (fun s' => ndB g T s' o i ∧ cn s' = o + 24 ∧ ck s' = ck s + (1918 + 68 * T) ∧ ∀ b, b < o ∨ o + 24 ≤ b → sme s s' b) := by
  show wp (O_X6_init_0 N (some o) (some (g + 8)) (nI i) s) (F_X6_init_0 N (some o) (some (g + 8)) (nI i) s) _
  unfold O_X6_init_0 F_X6_init_0
  obtain ⟨p1, p2, p3, p4, p5⟩ := al_f (kd := 4) (j := 0) (l := 10) h hc (by omega)
  rw [hc]
  repeat rw [zsome]
  have i4 := init_X4 (N := N) p2 p3
  refine wp_and rfl (wp_and ⟨rfl, i4.1⟩ ?_)
  obtain ⟨q1, q2, q3, q4⟩ := i4.2
  have a1 := p1.sme (q4 o (by omega))
  have f1 : ∀ b, b < o ∨ o + 24 ≤ b → sme s (f_X4_init N (csNew s 4 10) (o + 1)) b := fun b hb => (p5 b (by omega)).trans (q4 b (by omega))
  generalize f_X4_init N (csNew s 4 10) (o + 1) = s1 at q1 q2 q3 a1 f1 ⊢
  unfold O_X6_init_12 F_X6_init_12
  repeat rw [zsome]
  refine wp_and a1.is ?_
  have a2 := a1.R (j := 2) (v := some (o + 1))
  have l2 := q1.sme (s1 := csR s1 2 o (some (o + 1))) (fun b h1 h2 => sme_R (by omega))
  have f2 : ∀ b, b < o ∨ o + 24 ≤ b → sme s (csR s1 2 o (some (o + 1))) b := fun b hb => (f1 b hb).trans (sme_R (by omega))
  have c2 : cn (csR s1 2 o (some (o + 1))) = o + 6 := q2
  have d2 : ck (csR s1 2 o (some (o + 1))) = ck s1 := rfl
  generalize csR s1 2 o (some (o + 1)) = s2 at a2 l2 f2 c2 d2 ⊢
  obtain ⟨u1, u2, u3, u4, u5⟩ := al_f (kd := 1) (j := 0) (l := 6) a2 c2 (by omega)
  rw [c2]
  unfold O_X6_init_19 F_X6_init_19
  repeat rw [zsome]
  have i0 := init_X0 (N := N) (by omega) u2 u3
  refine wp_and ⟨rfl, i0.1⟩ ?_
  obtain ⟨v1, v2, v3, v4⟩ := i0.2
  have a3 := u1.sme (v4 o (by omega))
  have l3 := l2.sme (s1 := f_X0_init N (csNew s2 1 6) (o + 6)) (fun b h1 h2 => (u5 b (by omega)).trans (v4 b (by omega)))
  have f3 : ∀ b, b < o ∨ o + 24 ≤ b → sme s (f_X0_init N (csNew s2 1 6) (o + 6)) b := fun b hb => ((f2 b hb).trans (u5 b (by omega))).trans (v4 b (by omega))
  generalize f_X0_init N (csNew s2 1 6) (o + 6) = s3 at v1 v2 v3 a3 l3 f3 ⊢
  unfold O_X6_init_23 F_X6_init_23
  repeat rw [zsome]
  refine wp_and a3.is (wp_and ⟨n_lt0 (by omega), by rw [n_clamp (by omega)]; omega⟩ ?_)
  have a4 := a3.R (j := 4) (v := some (o + 6))
  have l4 := l3.sme (s1 := csR s3 4 o (some (o + 6))) (fun b h1 h2 => sme_R (by omega))
  have b4 := v1.sme (s1 := csR s3 4 o (some (o + 6))) (fun b h1 h2 => sme_R (by omega))
  have f4 : ∀ b, b < o ∨ o + 24 ≤ b → sme s (csR s3 4 o (some (o + 6))) b := fun b hb => (f3 b hb).trans (sme_R (by omega))
  have c4 : cn (csR s3 4 o (some (o + 6))) = o + 11 := v2
  have d4 : ck (csR s3 4 o (some (o + 6))) = ck s3 := rfl
  generalize csR s3 4 o (some (o + 6)) = s4 at a4 l4 b4 f4 c4 d4 ⊢
  obtain ⟨x1, x2, x3, x4, x5⟩ := al_f (kd := 20) (j := 0) (l := 32) a4 c4 (by omega)
  rw [c4, n_clamp (by omega)]
  have l5 := l4.sme (s1 := csNew s4 20 32) (fun b h1 h2 => x5 b (by omega))
  have b5 := b4.sme (s1 := csNew s4 20 32) (fun b h1 h2 => x5 b (by omega))
  have f5 : ∀ b, b < o ∨ o + 24 ≤ b → sme s (csNew s4 20 32) b := fun b hb => (f4 b hb).trans (x5 b (by omega))
  generalize csNew s4 20 32 = s5 at x1 x2 x3 x4 l5 b5 f5 ⊢
  unfold O_X6_init_31 F_X6_init_31
  repeat rw [zsome]
  refine wp_and x1.is (wp_and ⟨n_lt0 (by omega), by rw [n_clamp (by omega)]; omega⟩ ?_)
  have a6 := x1.R (j := 5) (v := some (o + 11))
  have r6 := x2.sme (s1 := csR s5 5 o (some (o + 11))) (sme_R (by omega))
  have l6 := l5.sme (s1 := csR s5 5 o (some (o + 11))) (fun b h1 h2 => sme_R (by omega))
  have b6 := b5.sme (s1 := csR s5 5 o (some (o + 11))) (fun b h1 h2 => sme_R (by omega))
  have f6 : ∀ b, b < o ∨ o + 24 ≤ b → sme s (csR s5 5 o (some (o + 11))) b := fun b hb => (f5 b hb).trans (sme_R (by omega))
  have c6 : cn (csR s5 5 o (some (o + 11))) = o + 12 := x3
  have d6 : ck (csR s5 5 o (some (o + 11))) = ck s5 := rfl
  generalize csR s5 5 o (some (o + 11)) = s6 at a6 r6 l6 b6 f6 c6 d6 ⊢
  obtain ⟨y1, y2, y3, y4, y5⟩ := al_f (kd := 21) (j := 0) (l := 3) a6 c6 (by omega)
  rw [c6, n_clamp (by omega)]
  have r7 := r6.sme (y5 _ (by omega))
  have l7 := l6.sme (s1 := csNew s6 21 3) (fun b h1 h2 => y5 b (by omega))
  have b7 := b6.sme (s1 := csNew s6 21 3) (fun b h1 h2 => y5 b (by omega))
  have f7 : ∀ b, b < o ∨ o + 24 ≤ b → sme s (csNew s6 21 3) b := fun b hb => (f6 b hb).trans (y5 b (by omega))
  generalize csNew s6 21 3 = s7 at y1 y2 y3 y4 r7 l7 b7 f7 ⊢
  unfold O_X6_init_38 F_X6_init_38
  repeat rw [zsome]
  refine wp_and y1.is (wp_and ⟨n_lt0 (by omega), by rw [n_clamp (by omega)]; omega⟩ ?_)
  have a8 := y1.R (j := 6) (v := some (o + 12))
  have t8 := y2.sme (s1 := csR s7 6 o (some (o + 12))) (sme_R (by omega))
  have r8 := r7.sme (s1 := csR s7 6 o (some (o + 12))) (sme_R (by omega))
  have l8 := l7.sme (s1 := csR s7 6 o (some (o + 12))) (fun b h1 h2 => sme_R (by omega))
  have b8 := b7.sme (s1 := csR s7 6 o (some (o + 12))) (fun b h1 h2 => sme_R (by omega))
  have f8 : ∀ b, b < o ∨ o + 24 ≤ b → sme s (csR s7 6 o (some (o + 12))) b := fun b hb => (f7 b hb).trans (sme_R (by omega))
  have c8 : cn (csR s7 6 o (some (o + 12))) = o + 13 := y3
  have d8 : ck (csR s7 6 o (some (o + 12))) = ck s7 := rfl
  generalize csR s7 6 o (some (o + 12)) = s8 at a8 t8 r8 l8 b8 f8 c8 d8 ⊢
  obtain ⟨z1, z2, z3, z4, z5⟩ := al_f (kd := 24) (j := 0) (l := 4) a8 c8 (by omega)
  rw [c8, n_clamp (by omega)]
  have t9 := t8.sme (z5 _ (by omega))
  have r9 := r8.sme (z5 _ (by omega))
  have l9 := l8.sme (s1 := csNew s8 24 4) (fun b h1 h2 => z5 b (by omega))
  have b9 := b8.sme (s1 := csNew s8 24 4) (fun b h1 h2 => z5 b (by omega))
  have f9 : ∀ b, b < o ∨ o + 24 ≤ b → sme s (csNew s8 24 4) b := fun b hb => (f8 b hb).trans (z5 b (by omega))
  generalize csNew s8 24 4 = s9 at z1 z2 z3 z4 t9 r9 l9 b9 f9 ⊢
  have W := f9 (g + 8) (by omega)
  have E := init_n46 (N := N) (g := g) (i := i) (T := T) z1 z3 hT ho (W.1.trans w1) ((W.2.2.2.1 6).trans w2) ((W.2.2.1 1).trans w3)
  refine ⟨E.1, ?_⟩
  have E9 := E.2
  clear E
  generalize F_X6_init_46 N (some o) (some (g + 8)) (nI i) (some o) (some (o + 13)) s9 = sC at E9 ⊢
  obtain ⟨E1, E2, E3, E4, E5⟩ := E9
  exact ⟨⟨E1, l9.sme (fun b h1 h2 => E5 b (by omega) (by omega)), b9.sme (fun b h1 h2 => E5 b (by omega) (by omega)), r9.sme (E5 _ (by omega) (by omega)), t9.sme (E5 _ (by omega) (by omega)), z2.sme (E5 _ (by omega) (by omega)), E2⟩, E3, by omega, fun b hb => (f9 b hb).trans (E5 b (by omega) (by omega))⟩
end
end

section
/-! THE CLASS IS MADE: shelf, node, world -/
section
variable {N g H T n k o c a b i F L : Nat} {s s' s1 s2 S X : cS}
def ndI (i : Nat) : Nat → Int32 := upI (upI (upI (upI (upI (upI z0 8 (nI 1)) 9 (nI 1)) 12 (-1)) 13 (-1)) 18 (-1)) 1 (nI i)
def ndR (g o : Nat) : Nat → Option Nat := upR (upR (upR (upR (upR (upR (upR n0 2 (some (o + 1))) 4 (some (o + 6))) 5 (some (o + 11))) 6 (some (o + 12))) 7 (some (o + 13))) 0 (some (g + 8))) 3 (some (o + 14))
def ndB (g T : Nat) (s : cS) (o i : Nat) : Prop := ob s o 6 19 (ndI i) (ndR g o) z0 ∧ loB s (o + 1) ∧ boB s (o + 6) ∧ ob s (o + 11) 20 32 z0 n0 z0 ∧ ob s (o + 12) 21 3 z0 n0 z0 ∧ ob s (o + 13) 24 4 z0 n0 z0 ∧ shB T s (o + 14) (some (g + 11))
theorem ndB.sme (h : ndB g T s o i) (f : ∀ b, o ≤ b → b < o + 24 → sme s s1 b) : ndB g T s1 o i := ⟨h.1.sme (f _ (by omega) (by omega)), h.2.1.sme (fun b h1 h2 => f b (by omega) (by omega)), h.2.2.1.sme (fun b h1 h2 => f b (by omega) (by omega)), h.2.2.2.1.sme (f _ (by omega) (by omega)), h.2.2.2.2.1.sme (f _ (by omega) (by omega)), h.2.2.2.2.2.1.sme (f _ (by omega) (by omega)), h.2.2.2.2.2.2.sme (fun b h1 h2 => f b (by omega) (by omega))⟩
theorem init_n46 {R : Nat → Option Nat} (z1 : ob s o 6 19 z0 R z0) (z3 : cn s = o + 14) (hT : T ≤ 13) (ho : g + 31 ≤ o) (w1 : cK s (g + 8) = 9) (w2 : cR s 6 (g + 8) = some (g + 11)) (w3 : cI s 1 (g + 8) = nI T) : wp (O_X6_init_46 N (some o) (some (g + 8)) (nI i) (some o) (some (o + 13)) s) (F_X6_init_46 N (some o) (some (g + 8)) (nI i) (some o) (some (o + 13)) s) (fun s' => ob s' o 6 19 (ndI i) (upR (upR (upR R 7 (some (o + 13))) 0 (some (g + 8))) 3 (some (o + 14))) z0 ∧ shB T s' (o + 14) (some (g + 11)) ∧ cn s' = o + 24 ∧ ck s' = ck s + (160 + 68 * T) ∧ ∀ b, b ≠ o → b < o + 14 ∨ o + 24 ≤ b → sme s s' b) := by
  unfold O_X6_init_46 F_X6_init_46 O_X6_init_54 F_X6_init_54 O_X6_init_64 F_X6_init_64 O_X6_init_74 F_X6_init_74
  repeat rw [zsome]
  have A1 := z1.R (j := 7) (v := some (o + 13))
  have A2 := A1.I (j := 8) (v := nI 1)
  have A3 := A2.I (j := 9) (v := nI 1)
  have A4 := A3.I (j := 12) (v := -1)
  have A5 := A4.I (j := 13) (v := -1)
  have A6 := A5.I (j := 18) (v := -1)
  have A7 := A6.R (j := 0) (v := some (g + 8))
  have A8 := A7.I (j := 1) (v := nI i)
  refine wp_and z1.is (wp_and A1.is (wp_and A2.is (wp_and A3.is (wp_and A4.is (wp_and A5.is (wp_and A6.is (wp_and A7.is ?_)))))))
  have fz : ∀ b, b ≠ o → sme s (csI (csR (csI (csI (csI (csI (csI (csR s 7 o (some (o + 13))) 8 o (nI 1)) 9 o (nI 1)) 12 o (-1)) 13 o (-1)) 18 o (-1)) 0 o (some (g + 8))) 1 o (nI i)) b := fun b hb => (((((((sme_R hb).trans (sme_I hb)).trans (sme_I hb)).trans (sme_I hb)).trans (sme_I hb)).trans (sme_I hb)).trans (sme_R hb)).trans (sme_I hb)
  have cz : cn (csI (csR (csI (csI (csI (csI (csI (csR s 7 o (some (o + 13))) 8 o (nI 1)) 9 o (nI 1)) 12 o (-1)) 13 o (-1)) 18 o (-1)) 0 o (some (g + 8))) 1 o (nI i)) = o + 14 := z3
  have dz : ck (csI (csR (csI (csI (csI (csI (csI (csR s 7 o (some (o + 13))) 8 o (nI 1)) 9 o (nI 1)) 12 o (-1)) 13 o (-1)) 18 o (-1)) 0 o (some (g + 8))) 1 o (nI i)) = ck s := rfl
  generalize csI (csR (csI (csI (csI (csI (csI (csR s 7 o (some (o + 13))) 8 o (nI 1)) 9 o (nI 1)) 12 o (-1)) 13 o (-1)) 18 o (-1)) 0 o (some (g + 8))) 1 o (nI i) = sA at A8 fz cz dz ⊢
  unfold O_X6_init_84 F_X6_init_84
  obtain ⟨B1, B2, B3, B4, B5⟩ := al_f (kd := 7) (j := 0) (l := 14) A8 cz (by omega)
  have W : sme s (csNew sA 7 14) (g + 8) := (fz _ (by omega)).trans (B5 _ (by omega))
  have W1 : cK (csNew sA 7 14) (g + 8) = 9 := W.1.trans w1
  have W2 : cR (csNew sA 7 14) 6 (g + 8) = some (g + 11) := (W.2.2.2.1 6).trans w2
  have W3 : cI (csNew sA 7 14) 1 (g + 8) = nI T := (W.2.2.1 1).trans w3
  rw [cz]
  repeat rw [zsome]
  rw [W2, W3]
  have i8 := init_X8 (N := N) (x1 := some (g + 11)) B2 B3 hT
  refine wp_and ⟨rfl, W1⟩ (wp_and ⟨rfl, W1⟩ (wp_and ⟨rfl, i8.1⟩ ?_))
  obtain ⟨C1, C2, C3, C4⟩ := i8.2
  have D1 := B1.sme (C4 o (by omega))
  have fa : ∀ b, b ≠ o → b < o + 14 ∨ o + 24 ≤ b → sme s (f_X8_init N (csNew sA 7 14) (o + 14) (some (g + 11)) (nI T)) b := fun b h1 h2 => ((fz b h1).trans (B5 b (by omega))).trans (C4 b (by omega))
  generalize f_X8_init N (csNew sA 7 14) (o + 14) (some (g + 11)) (nI T) = sB at C1 C2 C3 D1 fa ⊢
  unfold O_X6_init_100 F_X6_init_100
  repeat rw [zsome]
  have E1 := D1.R (j := 3) (v := some (o + 14))
  have fb : ∀ b, b ≠ o → b < o + 14 ∨ o + 24 ≤ b → sme s (csR sB 3 o (some (o + 14))) b := fun b h1 h2 => (fa b h1 h2).trans (sme_R h1)
  refine wp_and D1.is (wp_fin trivial ⟨E1, C1.sme (fun b h1 h2 => sme_R (by omega)), C2, ?_, fb⟩)
  show ck sB = _
  omega
theorem init_n31 {R : Nat → Option Nat} (x1 : ob s o 6 19 z0 R z0) (x3 : cn s = o + 12) (hT : T ≤ 13) (ho : g + 31 ≤ o) (w1 : cK s (g + 8) = 9) (w2 : cR s 6 (g + 8) = some (g + 11)) (w3 : cI s 1 (g + 8) = nI T) : wp (O_X6_init_31 N (some o) (some (g + 8)) (nI i) (some o) (some (o + 11)) s) (F_X6_init_31 N (some o) (some (g + 8)) (nI i) (some o) (some (o + 11)) s) (fun s' => ob s' o 6 19 (ndI i) (upR (upR (upR (upR (upR R 5 (some (o + 11))) 6 (some (o + 12))) 7 (some (o + 13))) 0 (some (g + 8))) 3 (some (o + 14))) z0 ∧ (ob s' (o + 12) 21 3 z0 n0 z0 ∧ ob s' (o + 13) 24 4 z0 n0 z0) ∧ shB T s' (o + 14) (some (g + 11)) ∧ cn s' = o + 24 ∧ ck s' = ck s + (167 + 68 * T) ∧ ∀ b, b ≠ o → b < o + 12 ∨ o + 24 ≤ b → sme s s' b) := by
  unfold O_X6_init_31 F_X6_init_31
  repeat rw [zsome]
  refine wp_and x1.is (wp_and ⟨n_lt0 (by omega), by rw [n_clamp (by omega)]; omega⟩ ?_)
  have a6 := x1.R (j := 5) (v := some (o + 11))
  have f6 : ∀ b, b ≠ o → sme s (csR s 5 o (some (o + 11))) b := fun b hb => sme_R hb
  have c6 : cn (csR s 5 o (some (o + 11))) = o + 12 := x3
  have d6 : ck (csR s 5 o (some (o + 11))) = ck s := rfl
  generalize csR s 5 o (some (o + 11)) = s6 at a6 f6 c6 d6 ⊢
  obtain ⟨y1, y2, y3, y4, y5⟩ := al_f (kd := 21) (j := 0) (l := 3) a6 c6 (by omega)
  rw [c6, n_clamp (by omega)]
  have f7 : ∀ b, b ≠ o → b ≠ o + 12 → sme s (csNew s6 21 3) b := fun b h1 h2 => (f6 b h1).trans (y5 b h2)
  generalize csNew s6 21 3 = s7 at y1 y2 y3 y4 f7 ⊢
  unfold O_X6_init_38 F_X6_init_38
  repeat rw [zsome]
  refine wp_and y1.is (wp_and ⟨n_lt0 (by omega), by rw [n_clamp (by omega)]; omega⟩ ?_)
  have a8 := y1.R (j := 6) (v := some (o + 12))
  have t8 := y2.sme (s1 := csR s7 6 o (some (o + 12))) (sme_R (by omega))
  have f8 : ∀ b, b ≠ o → b ≠ o + 12 → sme s (csR s7 6 o (some (o + 12))) b := fun b h1 h2 => (f7 b h1 h2).trans (sme_R h1)
  have c8 : cn (csR s7 6 o (some (o + 12))) = o + 13 := y3
  have d8 : ck (csR s7 6 o (some (o + 12))) = ck s7 := rfl
  generalize csR s7 6 o (some (o + 12)) = s8 at a8 t8 f8 c8 d8 ⊢
  obtain ⟨z1, z2, z3, z4, z5⟩ := al_f (kd := 24) (j := 0) (l := 4) a8 c8 (by omega)
  rw [c8, n_clamp (by omega)]
  have t9 := t8.sme (z5 _ (by omega))
  have f9 : ∀ b, b ≠ o → b ≠ o + 12 → b ≠ o + 13 → sme s (csNew s8 24 4) b := fun b h1 h2 h3 => (f8 b h1 h2).trans (z5 b h3)
  generalize csNew s8 24 4 = s9 at z1 z2 z3 z4 t9 f9 ⊢
  have W := f9 (g + 8) (by omega) (by omega) (by omega)
  have E := init_n46 (N := N) (g := g) (i := i) (T := T) z1 z3 hT ho (W.1.trans w1) ((W.2.2.2.1 6).trans w2) ((W.2.2.1 1).trans w3)
  refine ⟨E.1, ?_⟩
  have E9 := E.2
  clear E
  generalize F_X6_init_46 N (some o) (some (g + 8)) (nI i) (some o) (some (o + 13)) s9 = sC at E9 ⊢
  obtain ⟨E1, E2, E3, E4, E5⟩ := E9
  exact ⟨E1, ⟨t9.sme (E5 _ (by omega) (by omega)), z2.sme (E5 _ (by omega) (by omega))⟩, E2, E3, by omega, fun b h1 h2 => (f9 b h1 (by omega) (by omega)).trans (E5 b h1 (by omega))⟩
end
end

section
/-! THE CLASS IS MADE: shelf, node, world -/
section
variable {N g H T n k o c a b i F L : Nat} {s s' s1 s2 S X : cS}
/-- a shelf -/
def shR (o : Nat) (x1 : Option Nat) : Nat → Option Nat := upR (upR (upR (upR (upR (upR (upR (upR (upR (upR n0 2 (some (o + 1))) 3 (some (o + 2))) 5 (some (o + 3))) 10 (some (o + 4))) 0 x1) 4 (some (o + 5))) 6 (some (o + 6))) 7 (some (o + 7))) 8 (some (o + 8))) 9 (some (o + 9))
def shB (T : Nat) (s : cS) (o : Nat) (x1 : Option Nat) : Prop := ob s o 7 14 (upI z0 1 (nI T)) (shR o x1) z0 ∧ ob s (o + 1) 24 32 z0 n0 z0 ∧ ob s (o + 2) 21 32 z0 n0 z0 ∧ ob s (o + 3) 21 2 z0 n0 z0 ∧ ob s (o + 4) 22 80 z0 n0 z0 ∧ ob s (o + 5) 24 (64 * T) z0 n0 z0 ∧ ob s (o + 6) 24 T z0 n0 z0 ∧ ob s (o + 7) 21 T z0 n0 z0 ∧ ob s (o + 8) 24 T z0 n0 z0 ∧ ob s (o + 9) 24 T z0 n0 z0
theorem shB.sme {x1 : Option Nat} (h : shB T s o x1) (f : ∀ b, o ≤ b → b < o + 10 → sme s s1 b) : shB T s1 o x1 := ⟨h.1.sme (f _ (by omega) (by omega)), h.2.1.sme (f _ (by omega) (by omega)), h.2.2.1.sme (f _ (by omega) (by omega)), h.2.2.2.1.sme (f _ (by omega) (by omega)), h.2.2.2.2.1.sme (f _ (by omega) (by omega)), h.2.2.2.2.2.1.sme (f _ (by omega) (by omega)), h.2.2.2.2.2.2.1.sme (f _ (by omega) (by omega)), h.2.2.2.2.2.2.2.1.sme (f _ (by omega) (by omega)), h.2.2.2.2.2.2.2.2.1.sme (f _ (by omega) (by omega)), h.2.2.2.2.2.2.2.2.2.sme (f _ (by omega) (by omega))⟩
theorem init_X8 {x1 : Option Nat} (h : ob s o 7 14 z0 n0 z0) (hc : cn s = o + 1) (hT : T ≤ 13) : wp (o_X8_init N s o x1 (nI T)) (f_X8_init N s o x1 (nI T)) (fun s' => shB T s' o x1 ∧ cn s' = o + 10 ∧ ck s' = ck s + (146 + 68 * T) ∧ ∀ b, b < o ∨ o + 10 ≤ b → sme s s' b) := by
  show wp (O_X8_init_0 N (some o) x1 (nI T) s) (F_X8_init_0 N (some o) x1 (nI T) s) _
  unfold O_X8_init_0 F_X8_init_0
  refine wp_and rfl (st_al (O := O_X8_init_13 N (some o) x1 (nI T)) (Fk := F_X8_init_13 N (some o) x1 (nI T)) (l := 32) h hc (by omega) rfl (by omega) (fun s1 a1 b1 c1 d1 e1 => ?_))
  unfold O_X8_init_13 F_X8_init_13
  refine st_al (O := O_X8_init_21 N (some o) x1 (nI T)) (Fk := F_X8_init_21 N (some o) x1 (nI T)) (l := 32) a1 c1 (by omega) rfl (by omega) (fun s2 a2 b2 c2 d2 e2 => ?_)
  unfold O_X8_init_21 F_X8_init_21
  refine st_al (O := O_X8_init_28 N (some o) x1 (nI T)) (Fk := F_X8_init_28 N (some o) x1 (nI T)) (l := 2) a2 c2 (by omega) rfl (by omega) (fun s3 a3 b3 c3 d3 e3 => ?_)
  unfold O_X8_init_28 F_X8_init_28
  refine st_al (O := O_X8_init_36 N (some o) x1 (nI T)) (Fk := F_X8_init_36 N (some o) x1 (nI T)) (l := 80) a3 c3 (by omega) rfl (by omega) (fun s4 a4 b4 c4 d4 e4 => ?_)
  unfold O_X8_init_36 F_X8_init_36
  rw [zsome]
  have a5 := a4.R (j := 0) (v := x1)
  have a6 := a5.I (j := 1) (v := nI T)
  have e6 : ∀ b, b ≠ o → sme s4 (csI (csR s4 0 o x1) 1 o (nI T)) b := fun b hb => (sme_R hb).trans (sme_I hb)
  refine wp_and a4.is (wp_and a5.is ?_)
  have c6 : cn (csI (csR s4 0 o x1) 1 o (nI T)) = o + 5 := c4
  have d6 : ck (csI (csR s4 0 o x1) 1 o (nI T)) = ck s4 := rfl
  generalize csI (csR s4 0 o x1) 1 o (nI T) = s6 at a6 e6 c6 d6 ⊢
  unfold O_X8_init_46 F_X8_init_46
  refine st_al (O := O_X8_init_57 N (some o) (nI T)) (Fk := F_X8_init_57 N (some o) (nI T)) (l := 64 * T) a6 c6 (by omega) (by rw [n_mul]) (by omega) (fun s7 a7 b7 c7 d7 e7 => ?_)
  unfold O_X8_init_57 F_X8_init_57
  refine st_al (O := O_X8_init_65 N (some o) (nI T)) (Fk := F_X8_init_65 N (some o) (nI T)) (l := T) a7 c7 (by omega) rfl (by omega) (fun s8 a8 b8 c8 d8 e8 => ?_)
  unfold O_X8_init_65 F_X8_init_65
  refine st_al (O := O_X8_init_72 N (some o) (nI T)) (Fk := F_X8_init_72 N (some o) (nI T)) (l := T) a8 c8 (by omega) rfl (by omega) (fun s9 a9 b9 c9 d9 e9 => ?_)
  unfold O_X8_init_72 F_X8_init_72
  refine st_al (O := O_X8_init_80 N (some o) (nI T)) (Fk := F_X8_init_80 N (some o) (nI T)) (l := T) a9 c9 (by omega) rfl (by omega) (fun s10 a10 b10 c10 d10 e10 => ?_)
  unfold O_X8_init_80 F_X8_init_80
  refine st_al (O := fun _ => True) (Fk := fun s => s) (l := T) a10 c10 (by omega) rfl (by omega) (fun s11 a11 b11 c11 d11 e11 => wp_fin trivial ?_)
  have t1 : ∀ b, b ≠ o → b < o + 5 ∨ o + 10 ≤ b → sme s4 s11 b := fun b h1 h2 => (((((e6 b h1).trans (e7 b h1 (by omega))).trans (e8 b h1 (by omega))).trans (e9 b h1 (by omega))).trans (e10 b h1 (by omega))).trans (e11 b h1 (by omega))
  refine ⟨⟨a11, ?_, ?_, ?_, ?_, ?_, ?_, ?_, ?_, b11⟩, c11, by omega, fun b hb => ?_⟩
  · exact ((((b1.sme (e2 _ (by omega) (by omega))).sme (e3 _ (by omega) (by omega))).sme (e4 _ (by omega) (by omega)))).sme (t1 _ (by omega) (by omega))
  · exact ((b2.sme (e3 _ (by omega) (by omega))).sme (e4 _ (by omega) (by omega))).sme (t1 _ (by omega) (by omega))
  · exact (b3.sme (e4 _ (by omega) (by omega))).sme (t1 _ (by omega) (by omega))
  · exact b4.sme (t1 _ (by omega) (by omega))
  · exact (((b7.sme (e8 _ (by omega) (by omega))).sme (e9 _ (by omega) (by omega))).sme (e10 _ (by omega) (by omega))).sme (e11 _ (by omega) (by omega))
  · exact ((b8.sme (e9 _ (by omega) (by omega))).sme (e10 _ (by omega) (by omega))).sme (e11 _ (by omega) (by omega))
  · exact (b9.sme (e10 _ (by omega) (by omega))).sme (e11 _ (by omega) (by omega))
  · exact b10.sme (e11 _ (by omega) (by omega))
  · exact ((((e1 b (by omega) (by omega)).trans (e2 b (by omega) (by omega))).trans (e3 b (by omega) (by omega))).trans (e4 b (by omega) (by omega))).trans (t1 b (by omega) (by omega))
end
end

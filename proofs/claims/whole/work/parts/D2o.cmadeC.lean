section
/-! THE CLASS IS MADE: the world, and all its nodes -/
section
variable {N g H T n k o c a b i F L : Nat} {s s' s1 s2 S X : cS}
/-- all that is made -/
def mdB (F g H T i : Nat) (s : cS) : Prop := (ob s g 10 4 z0 (upR (upR n0 1 (some (g + 1))) 2 (some (g + 2))) z0 ∧ ob s (g + 1) 20 1000 z0 n0 z0 ∧ ob s (g + 2) 20 1024 z0 n0 z0) ∧ haB s (g + 3) ∧ (ob s (g + 9) 2 3 (upI z0 1 (nI T)) (upR (upR n0 2 (some (g + 10))) 0 (some (g + 3))) z0 ∧ ob s (g + 10) 20 32 z0 n0 z0) ∧ woB F g H T s ∧ (cK s (g + 30) = 25 ∧ cL s (g + 30) = H ∧ ∀ j, cP s (g + 30) j = if j < i then some (nd g j) else none) ∧ (∀ j, j < i → ndB g T s (nd g j) j) ∧ cn s = nd g i ∧ ck s ≤ 20000 + 3000 * i ∧ ∀ b, b < g ∨ nd g i ≤ b → cK s b = 0
theorem mdB.nx (hI : mdB F g H T i X) (hi : i < H) (hH : H ≤ 13) (hT : T ≤ 13) (t1 : ndB g T s (nd g i) i) (t2 : cn s = nd g i + 24) (t3 : ck s = ck X + 19 + (1918 + 68 * T)) (f6 : ∀ b, b < nd g i ∨ nd g i + 24 ≤ b → sme X s b) : mdB F g H T (i + 1) (csP s (g + 30) i (some (nd g i))) := by
  obtain ⟨⟨l0, l1, l2⟩, hh, ⟨g1, g2⟩, wo, ⟨n1, n2, n3⟩, nn, cc, kk_, ze⟩ := hI
  have e1 : nd g (i + 1) = nd g i + 24 := by unfold nd; omega
  have jg : g + 31 ≤ nd g i := by unfold nd; omega
  have N6 := f6 (g + 30) (by omega)
  have fP : ∀ b, b ≠ g + 30 → sme s (csP s (g + 30) i (some (nd g i))) b := fun b hb => ⟨rfl, rfl, fun _ => rfl, fun _ => rfl, rfl, rfl, cP_other _ _ _ hb⟩
  have fa : ∀ b, b ≠ g + 30 → b < nd g i ∨ nd g i + 24 ≤ b → sme X (csP s (g + 30) i (some (nd g i))) b := fun b h1 h2 => (f6 b h2).trans (fP b h1)
  refine ⟨⟨l0.sme (fa _ (by omega) (by omega)), l1.sme (fa _ (by omega) (by omega)), l2.sme (fa _ (by omega) (by omega))⟩, hh.sme (fun b h1 h2 => fa b (by omega) (by omega)), ⟨g1.sme (fa _ (by omega) (by omega)), g2.sme (fa _ (by omega) (by omega))⟩, wo.sme (fun b h1 h2 => fa b (by omega) (by omega)), ⟨N6.1.trans n1, N6.2.1.trans n2, fun q => ?_⟩, fun q hq => ?_, ?_, ?_, fun b hb' => ?_⟩
  · rw [cP_at]
    by_cases d : q = i
    · rw [if_pos d, if_pos (by omega), d]
    · rw [if_neg d, show cP s (g + 30) q = cP X (g + 30) q by rw [N6.2.2.2.2.2.2], n3 q]
      by_cases d2 : q < i
      · rw [if_pos d2, if_pos (by omega)]
      · rw [if_neg d2, if_neg (by omega)]
  · by_cases d : q = i
    · rw [d]
      exact t1.sme (fun b h1 h2 => fP b (by omega))
    · have q1 : nd g q + 24 ≤ nd g i := by unfold nd; omega
      have q2 : g + 31 ≤ nd g q := by unfold nd; omega
      exact (nn q (by omega)).sme (fun b h1 h2 => fa b (by omega) (by omega))
  · show cn s = _
    omega
  · show ck s ≤ _
    omega
  · rw [e1] at hb'
    rw [(fa b (by omega) (by omega)).1]
    exact ze b (by omega)
theorem made_l (hN : 2000 ≤ N) (hT : T ≤ 13) (hH : H ≤ 13) (m0 : mdB F g H T 0 s) : wp (O_X10_found1_31 N (some (g + 8)) s) (F_X10_found1_31 N (some (g + 8)) s) (fun z => z.1 = some (g + 8) ∧ mdB F g H T H z.2) := by
  unfold O_X10_found1_31 F_X10_found1_31
  refine wp_seq (Q := fun Z : Nat × Option Nat × cS => Z.2.1 = some (g + 8) ∧ mdB F g H T H Z.2.2) ?_ (fun Z hZ => ?_)
  rotate_left
  · unfold OA_X10_found1_35 A_X10_found1_35
    exact wp_fin trivial hZ
  refine wp_loop (K := H) (fun j (X : cS) => mdB F g H T j X) (fun m j X => OL_X10_found1_35 N m (some (g + 8)) (nI j) X) (fun m j X => L_X10_found1_35 N m (some (g + 8)) (nI j) X) (fun m j X hj hI ih => ?_) 0 N s (by omega) (by omega) m0
  have wo := hI.2.2.2.1
  have n1 := hI.2.2.2.2.1.1
  have n2 := hI.2.2.2.2.1.2.1
  have cc := hI.2.2.2.2.2.2.1
  have r4 : cR X 4 (g + 8) = some (g + 30) := wo.1.2.2.2.1 4
  unfold OL_X10_found1_35 L_X10_found1_35 OB_X10_found1_35 B_X10_found1_35
  repeat rw [zsome]
  rw [r4]
  repeat rw [zsome]
  rw [n2]
  refine wp_and wo.1.is (wp_and ⟨rfl, n1⟩ ?_)
  by_cases c : j = H
  · subst c
    exact wp_pos (by rw [n_le' (by omega) (by omega)]; omega) (wp_fin trivial ⟨rfl, hI⟩)
  refine wp_neg (by rw [n_le' (by omega) (by omega)]; omega) (wp_and wo.1.is ?_)
  obtain ⟨z1, z2, z3, z4, z5⟩ := al_f (kd := 6) (j := 0) (l := 19) wo.1 cc (by unfold nd; omega)
  rw [cc]
  repeat rw [zsome]
  have W : sme X (csNew X 6 19) (g + 8) := z5 _ (by unfold nd; omega)
  have i6 := init_X6 (N := N) (g := g) (T := T) (i := j) hN z2 z3 (by omega) (by unfold nd; omega) (W.1.trans wo.1.1) ((W.2.2.2.1 6).trans (wo.1.2.2.2.1 6)) ((W.2.2.1 1).trans (wo.1.2.2.1 1))
  refine wp_and ⟨rfl, i6.1⟩ ?_
  obtain ⟨t1, t2, t3, t4⟩ := i6.2
  have f6 : ∀ b, b < nd g j ∨ nd g j + 24 ≤ b → sme X (f_X6_init N (csNew X 6 19) (nd g j) (some (g + 8)) (nI j)) b := fun b hb => (z5 b (by omega)).trans (t4 b (by omega))
  generalize f_X6_init N (csNew X 6 19) (nd g j) (some (g + 8)) (nI j) = s6 at t1 t2 t3 f6 ⊢
  have jg : g + 31 ≤ nd g j := by unfold nd; omega
  have N6 := f6 (g + 30) (by omega)
  unfold O_X10_found1_61 F_X10_found1_61
  repeat rw [zsome]
  rw [n_clamp (by omega), n_add]
  exact wp_and ⟨⟨rfl, N6.1.trans n1⟩, by rw [N6.2.1, n2]; exact ((n_in (by omega)).2 (by omega)), Or.inr ⟨rfl, t1.1.1⟩⟩ (ih _ (hI.nx (by omega) hH hT t1 t2 (by omega) f6) (by omega))
end
end

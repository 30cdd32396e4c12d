section
/-! THE CLASS'S TICK: all nodes -/
section
variable {F N g H T n : Nat} {s s0 S : cS} {ct : Nat → List Nat} {hd : List Nat} {w w' V X : Wd} {pe pe' : Nat → Int} {t f k r : Nat} {G : Gh}
theorem passTime_C (hN : 12000 ≤ N) (h : CR F g H T s ct hd w pe) (hl : hd.length ≤ 25) (hp : ∀ n, n < H → pe n = -1) (wa : wA F H T w) (tm : ∀ m, m < H → tmO (wT w) w m) (h9 : wT w + 1 < 900000) (fr : bF g H s) : wp (p_X10_passTime N g H T s (g + 8)) (k_X10_passTime N g H T s (g + 8)) (fun z => z.1 = nI (aTick w H T F).1 ∧ reC F g H T ct hd (aTick w H T F).2 pe z.2 ∧ wA F H T (aTick w H T F).2 ∧ bF g H z.2) := by
  have cb := h.1.bb
  show wp (KO_X10_passTime_0 N g H T (g + 8) s) (KF_X10_passTime_0 N g H T (g + 8) s) _
  unfold KO_X10_passTime_0 KF_X10_passTime_0
  have e10 : cI s 10 (g + 11) = nI (wT w) := h.2.2.2.2.2.2.1.2.2.2
  rw [e10, n_add]
  have c0 := h.tk
  have b0 : bF g H (csI s 10 (g + 11) (nI (wT w + 1))) := fun m hm => by
    rw [cI_other _ _ (Or.inl (by decide))]
    exact fr m hm
  generalize csI s 10 (g + 11) (nI (wT w + 1)) = s1 at c0 b0 ⊢
  unfold aTick
  obtain ⟨x0, hx0⟩ : ∃ x0 : Nat × Wd, x0 = (0, sT w (wT w + 1)) := ⟨_, rfl⟩
  have wa0 : wA F H T x0.2 := by
    rw [hx0]
    exact ⟨wa.1.tick _, wa.2.1, wa.2.2⟩
  have tm0 : ∀ m, m < H → tmO (wT w) x0.2 m := by
    rw [hx0]
    exact tm
  have eT0 : wT x0.2 = wT w + 1 := by rw [hx0]; rfl
  have c0 : CR F g H T s1 ct hd x0.2 pe := by rw [hx0]; exact c0
  have z0 : nI 0 = nI (aTkN T F x0 0).1 := by rw [hx0]; rfl
  rw [← hx0]
  refine wp_seq (Q := fun Z : Nat × Int32 × cS => Z.2.1 = nI (aTkN T F x0 H).1 ∧ reC F g H T ct hd (aTkN T F x0 H).2 pe Z.2.2 ∧ wA F H T (aTkN T F x0 H).2 ∧ bF g H Z.2.2) ?_ (fun Z hZ => ?_)
  rotate_left
  · unfold KOA_X10_passTime_17 KA_X10_passTime_17 KO_X10_passTime_98 KF_X10_passTime_98
    exact wp_fin trivial hZ
  have key := wp_loop (K := H) (P := fun Z : Nat × Int32 × cS => Z.2.1 = nI (aTkN T F x0 H).1 ∧ reC F g H T ct hd (aTkN T F x0 H).2 pe Z.2.2 ∧ wA F H T (aTkN T F x0 H).2 ∧ bF g H Z.2.2) (fun j (y : cS) => reC F g H T ct hd (aTkN T F x0 j).2 pe y ∧ wA F H T (aTkN T F x0 j).2 ∧ (∀ m, j ≤ m → m < H → tmO (wT w) (aTkN T F x0 j).2 m) ∧ wT (aTkN T F x0 j).2 = wT w + 1 ∧ bF g H y) (fun q j y => KOL_X10_passTime_17 N g H T q (g + 8) (nI (aTkN T F x0 j).1) (nI j) y) (fun q j y => KL_X10_passTime_17 N g H T q (g + 8) (nI (aTkN T F x0 j).1) (nI j) y) (fun q j y hj hI ih => ?_) 0 N s1 (by omega) (by omega) ⟨c0.re, wa0, fun m _ hm => tm0 m hm, eT0, b0⟩
  · rw [← z0] at key
    exact key
  obtain ⟨⟨ct', c1, cr⟩, a1, t1, eT, b1⟩ := hI
  have eH : cI y 2 (g + 8) = nI H := cr.2.2.2.2.2.1.2.2.1
  unfold KOL_X10_passTime_17 KL_X10_passTime_17 KOB_X10_passTime_17 KB_X10_passTime_17
  rw [eH]
  by_cases e : j = H
  · subst e
    exact wp_pos (by rw [n_le' (by omega) (by omega)]; omega) (wp_fin trivial ⟨rfl, ⟨ct', c1, cr⟩, a1, b1⟩)
  have jH : j < H := by omega
  have eP : cP y (g + 30) j = some (nd g j) := by
    rw [cr.2.1.2.2.2.2.2.1 j, if_pos jH]
  rw [n_clamp (by omega), eP]
  have st : aTkN T F x0 (j + 1) = aTk3 T F j ((aTkN T F x0 j).1, (aTkN T F x0 j).2) 3 := rfl
  refine wp_neg (by rw [n_le' (by omega) (by omega)]; omega) (wp_and ((n_in (by omega)).2 (by omega)) (wp_seq (pass_35 (e := (aTkN T F x0 j).1) (t0 := (wT w : Int)) hN cr jH hl (hp j jH) a1 (t1 j (Nat.le_refl _) jH) (by omega) (by omega) (by omega) b1) (fun Z hZ => ?_)))
  obtain ⟨z1, z2, z3, z4, z5, z6, z7⟩ := hZ
  unfold KOA_X10_passTime_35 KA_X10_passTime_35 KO_X10_passTime_92 KF_X10_passTime_92
  rw [z1, z2, z3, n_add, ← st]
  rw [← st] at z4 z5 z6
  refine ih _ ⟨z4.mono c1, z5, fun m m1 m2 => (t1 m (by omega) m2).wfr z6 (by omega), by rw [z6.2.1]; exact eT, z7⟩ (by omega)
end
end

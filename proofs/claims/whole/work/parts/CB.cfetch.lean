section
/-! A BLOCK OF THE CHAIN IS READ; the answer to a node that is behind -/
section
variable {F N g H T n : Nat} {s s0 S : cS} {ct : Nat → List Nat} {hd : List Nat} {w w' V X : Wd} {pe pe' : Nat → Int} {a b e i : Nat} {G : Gh}
theorem canRead_c {v : Nat → Int} {x : Nat → Nat → Nat} {o : Nat} (q : qX g H s o v x) (hi : i < 284) : p_X4_canRead N g H T s (o + 1) (nI i) ∧ ((v (100 + i) = 1 ∧ k_X4_canRead N g H T s (o + 1) (nI i) = nI 1 ∧ ∃ r, cP s (o + 2) i = some r ∧ seR g H s r (x i)) ∨ (v (100 + i) = 0 ∧ k_X4_canRead N g H T s (o + 1) (nI i) = nI 0)) := by
  obtain ⟨q1, q2, q3, q4⟩ := q i hi
  show wp (KO_X4_canRead_0 N g H T (o + 1) (nI i) s) (KF_X4_canRead_0 N g H T (o + 1) (nI i) s) (fun z => (v (100 + i) = 1 ∧ z = nI 1 ∧ ∃ r, cP s (o + 2) i = some r ∧ seR g H s r (x i)) ∨ (v (100 + i) = 0 ∧ z = nI 0))
  unfold KO_X4_canRead_0 KF_X4_canRead_0 KO_X4_canRead_33 KF_X4_canRead_33 KO_X4_canRead_34 KF_X4_canRead_34
  have e2 : o + 1 + 2 = o + 3 := rfl
  have e1 : o + 1 + 1 = o + 2 := rfl
  rw [n_clamp (by omega), e2, e1, q1]
  refine wp_neg (n_lt0 (by omega)) (wp_neg (by rw [n_le' (by omega) (by omega)]; omega) (wp_and ((n_in (by omega)).2 (by omega)) ?_))
  rcases q2 with v0 | v0
  · rw [v0]
    exact wp_pos rfl (wp_fin rfl (Or.inr ⟨rfl, rfl⟩))
  · rw [v0]
    refine wp_neg (by decide) (wp_and ((n_in (by omega)).2 (by omega)) ?_)
    cases e : cP s (o + 2) i with
    | none =>
      have := (q3 e).1
      omega
    | some r => exact wp_neg someN (wp_fin rfl (Or.inl ⟨rfl, rfl, r, rfl, q4 r e⟩))
theorem fetch_c {h : Nat} (cr : CR F g H T s ct hd w pe) (hn : n < H) (h1 : 1 ≤ h) (h2 : h ≤ 40) : wp (p_X4_fetch N g H T s (nd g n + 1) (nI h) (some (g + 28)) (nI 0)) (k_X4_fetch N g H T s (nd g n + 1) (nI h) (some (g + 28)) (nI 0)) (fun z => (wY w n 7 h = none ∧ z = (-1, s)) ∨ ∃ y f, wY w n 7 h = some y ∧ bOK y ∧ z = (nI y.length, csArow s (g + 28) f) ∧ ∀ i, i < y.length → f i = sb (bg y i)) := by
  have nq := cr.node hn
  have qx := nq.2.2.2.1
  obtain ⟨k1, k2⟩ := nq.2.2.2.2.1 h h1 h2
  have L28 : cL s (g + 28) = 1024 := cr.2.1.rl (c := 8) (k := 10) isO8 rfl (by omega) (by omega)
  show wp (KO_X4_fetch_0 N g H T (nd g n + 1) (nI h) (some (g + 28)) (nI 0) s) (KF_X4_fetch_0 N g H T (nd g n + 1) (nI h) (some (g + 28)) (nI 0) s) _
  unfold KO_X4_fetch_0 KF_X4_fetch_0 KO_X4_fetch_20 KF_X4_fetch_20
  have e5 : nd g n + 1 + 4 = nd g n + 5 := rfl
  rw [n_clamp (by omega), e5, zsome, L28]
  refine wp_neg (by rw [n_lt' (by omega) (by omega)]; omega) (wp_neg (by rw [n_lt' (by omega) (by omega)]; omega) (wp_and ((n_in (by omega)).2 (by omega)) ?_))
  cases ey : wY w n 7 h with
  | none =>
    rw [k1 ey]
    exact wp_pos rfl (wp_fin trivial (Or.inl ⟨rfl, rfl⟩))
  | some y =>
    obtain ⟨m1, m2, m3, m4, m5⟩ := k2 y ey
    obtain ⟨b1, b2, b3⟩ := m2
    rw [m1, n_mul, n_sub (a := 2 * h) (b := 2) (by omega), n_add, n_sub (a := 1024) (b := 0) (by omega)]
    obtain ⟨c1, c2⟩ := canRead_c (N := N) (T := T) (i := 2 * h - 2) qx (by omega)
    refine wp_neg (by rw [n_eq0 (by omega)]; omega) (wp_and ((n_in (by omega)).2 (by omega)) (wp_neg (n_lt0 (by omega)) (wp_and someN (wp_pos (by rw [n_le' (by omega) (by omega)]; omega) (wp_and c1 ?_)))))
    rcases c2 with ⟨d1, d2, r, d3, d4⟩ | ⟨d1, d2⟩
    rotate_left
    · omega
    obtain ⟨x1, x2, x3, x4, x5, x6⟩ := d4
    rw [d2]
    refine wp_neg (by decide) ?_
    have p1 : cP s (nd g n + 1 + 1) (2 * h - 2) = some r := d3
    have nz : nd g n ≤ nd g H := by unfold nd; omega
    have rne : r ≠ g + 28 := by unfold nd at x1; omega
    by_cases big : 504 < y.length
    · rw [if_pos (show nI 504 < nI y.length by rw [n_lt' (by omega) (by omega)]; exact big)]
      obtain ⟨c3, c4⟩ := canRead_c (N := N) (T := T) (i := 2 * h - 2 + 1) qx (by omega)
      have e100 : 100 + (2 * h - 2 + 1) = 100 + (2 * h - 1) := by omega
      rw [e100] at c4
      refine wp_neg (by rw [n_le' (by omega) (by omega)]; omega) (wp_and c3 ?_)
      rcases c4 with ⟨d5, d6, r', d7, d8⟩ | ⟨d5, d6⟩
      rotate_left
      · have := m4 big
        omega
      obtain ⟨y1, y2, y3, y4, y5, y6⟩ := d8
      have p2 : cP s (nd g n + 1 + 1) (2 * h - 2 + 1) = some r' := d7
      have rne' : r' ≠ g + 28 := by unfold nd at y1; omega
      rw [d6]
      refine wp_neg (by decide) ?_
      unfold KO_X4_fetch_91 KF_X4_fetch_91
      rw [n_clamp (by omega), n_clamp (by omega), n_clamp (by omega), n_clamp (by omega), p1, zsome, zsome, x4, L28]
      refine wp_and ((n_in (by omega)).2 (by omega)) (wp_and ⟨someN, someN, ⟨n_lt0 (by omega), n_lt0 (by omega), n_lt0 (by omega)⟩, (by omega), (by omega)⟩ ?_)
      unfold KO_X4_fetch_107 KF_X4_fetch_107 KO_X4_fetch_137 KF_X4_fetch_137
      rw [n_add, n_add, n_sub (a := y.length) (b := 504) (by omega), n_clamp (by omega), n_clamp (by omega), n_clamp (by omega), n_clamp (by omega)]
      have p2' : ∀ f, cP (csArow s (g + 28) f) (nd g n + 1 + 1) (2 * h - 2 + 1) = some r' := fun _ => p2
      have L1 : ∀ f, cL (csArow s (g + 28) f) r' = 512 := fun _ => y4
      have L2 : ∀ f, cL (csArow s (g + 28) f) (g + 28) = 1024 := fun _ => L28
      rw [p2', zsome, zsome, L1, L2]
      refine wp_neg (by rw [n_le' (by omega) (by omega)]; omega) (wp_and ((n_in (by omega)).2 (by omega)) (wp_and ⟨someN, someN, ⟨n_lt0 (by omega), n_lt0 (by omega), n_lt0 (by omega)⟩, (by omega), (by omega)⟩ (wp_fin trivial (Or.inr ⟨y, _, rfl, ⟨b1, b2, b3⟩, by rw [row_row], fun i hi => ?_⟩))))
      rw [cA_other _ _ rne', cA_same]
      have q := m5 i hi
      unfold va_cpy
      by_cases c : i < 504
      · rw [if_pos c] at q
        rw [if_neg (show ¬ (0 + 504 ≤ i ∧ i < 0 + 504 + (y.length - 504)) by omega), if_pos (show 0 ≤ i ∧ i < 0 + 504 by omega), show 8 + (i - 0) = 8 + i by omega, (x6 (8 + i) (by omega)).2, q]
      · rw [if_neg c] at q
        have e6 : x6 = x6 := rfl
        rw [if_pos (show 0 + 504 ≤ i ∧ i < 0 + 504 + (y.length - 504) by omega), show 0 + (i - (0 + 504)) = i - 504 by omega, (y6 (i - 504) (by omega)).2, show 2 * h - 2 + 1 = 2 * h - 1 by omega, q]
    · rw [if_neg (show ¬ nI 504 < nI y.length by rw [n_lt' (by omega) (by omega)]; exact big)]
      refine wp_pos (by rw [n_le' (by omega) (by omega)]; omega) ?_
      unfold KO_X4_fetch_91 KF_X4_fetch_91
      rw [n_clamp (by omega), n_clamp (by omega), n_clamp (by omega), n_clamp (by omega), p1, zsome, zsome, x4, L28]
      refine wp_and ((n_in (by omega)).2 (by omega)) (wp_and ⟨someN, someN, ⟨n_lt0 (by omega), n_lt0 (by omega), n_lt0 (by omega)⟩, (by omega), (by omega)⟩ ?_)
      unfold KO_X4_fetch_107 KF_X4_fetch_107 KO_X4_fetch_137 KF_X4_fetch_137
      refine wp_pos (by rw [n_le' (by omega) (by omega)]; omega) (wp_fin trivial (Or.inr ⟨y, _, rfl, ⟨b1, b2, b3⟩, rfl, fun i hi => ?_⟩))
      have q := m5 i hi
      rw [if_pos (show i < 504 by omega)] at q
      unfold va_cpy
      rw [if_pos (show 0 ≤ i ∧ i < 0 + y.length by omega), show 8 + (i - 0) = 8 + i by omega, (x6 (8 + i) (by omega)).2, q]
end
end

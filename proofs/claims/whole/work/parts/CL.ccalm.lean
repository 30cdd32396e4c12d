section
/-! THE CLASS DELIVERS, TICKS, CALMS -/
section
variable {F N g H T n k d : Nat} {s s0 s1 S : cS} {w w' V W : Wd} {G : Gh} {L : Nat}
theorem rest_tk1 {x : Nat × Wd} {t : Nat} (gk : GK F H T x.2) (h : ∀ m, m < H → rest x.2 m T F) (hn : n < H) (ht : t < 3) : ∀ m, m < H → rest (aTk1 T F n x t).2 m T F := by
  have f := (gk.tk1 (F := F) (t := t) hn ht).2.1
  refine rest_all h f (fun _ => ?_)
  unfold aTk1
  split
  · have g2 := ((gk.off (k := 9 + t) hn (by omega)).end_ (t := t) hn).1
    obtain ⟨⟨G, g'⟩, k'⟩ := g2
    exact rest_rules hn g' (k' n hn)
  · exact h n hn
theorem rest_tk3 {x : Nat × Wd} (gk : GK F H T x.2) (h : ∀ m, m < H → rest x.2 m T F) (hn : n < H) : ∀ t, t ≤ 3 → GK F H T (aTk3 T F n x t).2 ∧ ∀ m, m < H → rest (aTk3 T F n x t).2 m T F
  | 0, _ => ⟨gk, h⟩
  | t + 1, ht => by
    obtain ⟨a, b⟩ := rest_tk3 gk h hn t (by omega)
    exact ⟨(a.tk1 hn (by omega)).1, rest_tk1 a b hn (by omega)⟩
theorem rest_tkN {x : Nat × Wd} (gk : GK F H T x.2) (h : ∀ m, m < H → rest x.2 m T F) : ∀ j, j ≤ H → GK F H T (aTkN T F x j).2 ∧ ∀ m, m < H → rest (aTkN T F x j).2 m T F
  | 0, _ => ⟨gk, h⟩
  | j + 1, hj => by
    obtain ⟨a, b⟩ := rest_tkN gk h j (by omega)
    exact rest_tk3 a b (by omega) 3 (Nat.le_refl _)
theorem rest_tick (gk : GK F H T w) (h : ∀ m, m < H → rest w m T F) : ∀ m, m < H → rest (aTick w H T F).2 m T F := (rest_tkN (x := (0, sT w (wT w + 1))) (gk.tick _) (rest_eq h rfl rfl) H (Nat.le_refl _)).2
/-- a tick -/
theorem tick_C (hN : 12000 ≤ N) (h : clW F g H T s w) (iv : IV F H T w) (h9 : wT w + 1 < 900000) : wp (p_X10_passTime N g H T s (g + 8)) (k_X10_passTime N g H T s (g + 8)) (fun z => z.1 = nI (aTick w H T F).1 ∧ clW F g H T z.2 (aTick w H T F).2 ∧ IV F H T (aTick w H T F).2) := by
  obtain ⟨ct, cr, b5⟩ := h
  refine wp_mono (passTime_C hN cr (by decide) (fun _ _ => rfl) iv.2.1 iv.1.1.2.2 h9 b5) (fun q => ?_)
  obtain ⟨q1, ⟨ct', _, q2⟩, q3, q4⟩ := q
  exact ⟨q1, ⟨ct', q2, q4⟩, (iv.1.tick h9).1, q3, rest_tick iv.2.1.1 iv.2.2⟩
theorem deliver_C {x : Int32} (hN : 12000 ≤ N) (h : clW F g H T s w) (iv : IV F H T w) (h9 : wT w < 900000) : wp (p_X11_deliver N g H T s L x) (k_X11_deliver N g H T s L x) (fun z => (∃ k, k < (wK w).1.length ∧ x = nI k ∧ clW F g H T z.2 (aLand w H T F k) ∧ IV F H T (aLand w H T F k) ∧ z.1 = nI (bg (fg (wK w).1 k).2.2.2 0)) ∨ ((¬ ∃ k, k < (wK w).1.length ∧ x = nI k) ∧ clW F g H T z.2 w ∧ z.1 = -1)) := by
  show wp (KO_X11_deliver_0 N g H T L x s) (KF_X11_deliver_0 N g H T L x s) _
  unfold KO_X11_deliver_0 KF_X11_deliver_0 KO_X11_deliver_8 KF_X11_deliver_8
  by_cases c : ∃ k, k < (wK w).1.length ∧ x = nI k
  · obtain ⟨k, k1, k2⟩ := c
    rw [k2]
    refine wp_call (land_C hN h iv k1) (fun q => wp_fin trivial (Or.inl ⟨k, k1, rfl, q.1, iv.land k1 q.2.2 h9, q.2.1⟩))
  · have h' := h
    obtain ⟨ct, cr, b5⟩ := h'
    refine wp_call (land_no cr c) (fun q => wp_fin trivial (Or.inr ⟨c, ?_, ?_⟩))
    · rw [q]
      exact h
    · rw [q]
theorem ptick_C (hN : 12000 ≤ N) (h : clW F g H T s w) (iv : IV F H T w) (h9 : wT w + 1 < 900000) : wp (p_X11_tick N g H T s L) (k_X11_tick N g H T s L) (fun z => z.1 = nI (aTick w H T F).1 ∧ clW F g H T z.2 (aTick w H T F).2 ∧ IV F H T (aTick w H T F).2) := by
  show wp (KO_X11_tick_0 N g H T L s) (KF_X11_tick_0 N g H T L s) _
  unfold KO_X11_tick_0 KF_X11_tick_0 KO_X11_tick_7 KF_X11_tick_7
  exact wp_call (tick_C hN h iv h9) (fun q => wp_fin trivial q)
/-- what is ripe lands -/
theorem calmC_34 {n d c : Nat} (hN : 12000 ≤ N) (hd : d < 100) : ∀ (f q : Nat) (x : Nat × Wd) (S : cS), clW F g H T S x.2 → IV F H T x.2 → wT x.2 < 900000 → 5000 ≤ x.1 + f → x.1 ≤ 5000 → f < q → wp (KOL_X11_calm_34 N g H T q L (nI n) (nI d) (nI x.1) (nI c) S) (KL_X11_calm_34 N g H T q L (nI n) (nI d) (nI x.1) (nI c) S) (fun z => z = (0, L, nI n, nI d, nI (aCl1 H T F d f x).1, nI c, z.2.2.2.2.2.2) ∧ clW F g H T z.2.2.2.2.2.2 (aCl1 H T F d f x).2 ∧ IV F H T (aCl1 H T F d f x).2)
  | f, 0, x, S, _, _, _, _, _, hq => absurd hq (by omega)
  | 0, q + 1, x, S, h, a, h9, hx, hx2, hq => by
    unfold KOL_X11_calm_34 KL_X11_calm_34 KOB_X11_calm_34 KB_X11_calm_34
    refine wp_pos (by rw [n_le' (by omega) (by omega)]; omega) ?_
    exact wp_fin trivial ⟨rfl, h, a⟩
  | f + 1, q + 1, x, S, h, a, h9, hx, hx2, hq => by
    have h' := h
    obtain ⟨ct, cr, b5⟩ := h'
    obtain ⟨⟨ld, tt, q1, q2, q3⟩, q4, q5, q6⟩ := cr.2.2.2.2.2.2.1
    have rp := isRipe_c (N := N) (g := g) (H := H) (T := T) (d := d) (tm := wT x.2) q1 q6 (by omega) (by omega) (fun k hk => by
      have := (a.1.1.2.1 _ (fg_in hk)).2.2
      omega)
    have eN : ¬ (x.1 < 5000 ∧ 0 < (wK x.2).1.length ∧ (fg (wK x.2).1 0).2.2.1 + d ≤ wT x.2) → aCl1 H T F d (f + 1) x = x := fun z => if_neg z
    have eY : (x.1 < 5000 ∧ 0 < (wK x.2).1.length ∧ (fg (wK x.2).1 0).2.2.1 + d ≤ wT x.2) → aCl1 H T F d (f + 1) x = aCl1 H T F d f (x.1 + 1, aLand x.2 H T F 0) := fun z => if_pos z
    unfold KOL_X11_calm_34 KL_X11_calm_34 KOB_X11_calm_34 KB_X11_calm_34
    by_cases c1 : x.1 < 5000
    rotate_left
    · rw [eN (fun z => c1 z.1)]
      exact wp_pos (by rw [n_le' (by omega) (by omega)]; omega) (wp_fin trivial ⟨rfl, h, a⟩)
    refine wp_neg (by rw [n_le' (by omega) (by omega)]; omega) (wp_and rp.1 ?_)
    rw [rp.2]
    by_cases c2 : 0 < (wK x.2).1.length ∧ (fg (wK x.2).1 0).2.2.1 + d ≤ wT x.2
    · rw [if_pos c2, eY ⟨c1, c2⟩]
      refine wp_neg (by decide) (wp_call (land_C hN h a c2.1) (fun z => ?_))
      unfold KO_X11_calm_63 KF_X11_calm_63
      rw [n_add]
      exact calmC_34 hN hd f q (x.1 + 1, aLand x.2 H T F 0) _ z.1 (a.land c2.1 z.2.2 h9) (by show wT (aLand x.2 H T F 0) < 900000; rw [wT_land]; exact h9) (by show 5000 ≤ x.1 + 1 + f; omega) (by show x.1 + 1 ≤ 5000; omega) (by omega)
    · rw [if_neg c2, eN (fun z => c2 z.2)]
      exact wp_pos rfl (wp_fin trivial ⟨rfl, h, a⟩)
theorem calm_C {x y : Int32} (hN : 12000 ≤ N) (h : clW F g H T s w) (a : IV F H T w) (h9 : wT w + 64 < 900000) : wp (p_X11_calm N g H T s L x y) (k_X11_calm N g H T s L x y) (fun z => (∃ n d, 1 ≤ n ∧ n ≤ 64 ∧ d ≤ 9 ∧ x = nI n ∧ y = nI d ∧ clW F g H T z.2 (aCl H T F d w n).2 ∧ z.1 = nI (aCl H T F d w n).1 ∧ IV F H T (aCl H T F d w n).2) ∨ ((¬ ∃ n d, 1 ≤ n ∧ n ≤ 64 ∧ d ≤ 9 ∧ x = nI n ∧ y = nI d) ∧ clW F g H T z.2 w ∧ z.1 = -1)) := by
  show wp (KO_X11_calm_0 N g H T L x y s) (KF_X11_calm_0 N g H T L x y s) _
  unfold KO_X11_calm_0 KF_X11_calm_0
  have no : (¬ ∃ n d, 1 ≤ n ∧ n ≤ 64 ∧ d ≤ 9 ∧ x = nI n ∧ y = nI d) → wp (KO_X11_calm_21 N g H T s) (KF_X11_calm_21 N g H T s) (fun z => (∃ n d, 1 ≤ n ∧ n ≤ 64 ∧ d ≤ 9 ∧ x = nI n ∧ y = nI d ∧ clW F g H T z.2 (aCl H T F d w n).2 ∧ z.1 = nI (aCl H T F d w n).1 ∧ IV F H T (aCl H T F d w n).2) ∨ ((¬ ∃ n d, 1 ≤ n ∧ n ≤ 64 ∧ d ≤ 9 ∧ x = nI n ∧ y = nI d) ∧ clW F g H T z.2 w ∧ z.1 = -1)) := fun g => by
    unfold KO_X11_calm_21 KF_X11_calm_21
    exact wp_fin trivial (Or.inr ⟨g, h, rfl⟩)
  refine wp_ite (fun c => ?_) (fun c => ?_)
  · refine no ?_
    rintro ⟨n, d, n1, n2, d1, e1, e2⟩
    rw [e1, n_lt' (by omega) (by omega)] at c
    omega
  have c' : ¬ x < 0 := fun z => c (by
    rw [Int32.lt_iff_toInt_lt] at z ⊢
    have : (0 : Int32).toInt = 0 := rfl
    have : (nI 1).toInt = 1 := rfl
    omega)
  obtain ⟨n, n1, n2⟩ := i_nat c'
  rw [n2, n_lt' n1 (by omega)] at c
  refine wp_ite (fun c2 => ?_) (fun c2 => ?_) <;> rw [n2, n_lt' (by omega) n1] at c2
  · refine no ?_
    rintro ⟨n', d, a1, a2, d1, e1, e2⟩
    rw [n2, n_eq' n1 (by omega)] at e1
    omega
  refine wp_ite (fun c3 => ?_) (fun c3 => ?_)
  · refine no ?_
    rintro ⟨n', d, a1, a2, d1, e1, e2⟩
    exact n_lt0 (show d < 2147483648 by omega) (by rw [← e2]; exact c3)
  obtain ⟨d, d1, d2⟩ := i_nat c3
  have q : y ≤ nI 9 ↔ d ≤ 9 := by rw [d2, n_le' d1 (by omega)]
  refine wp_ite (fun c4 => ?_) (fun c4 => ?_) <;> rw [q] at c4
  rotate_left
  · refine no ?_
    rintro ⟨n', d', a1, a2, a3, e1, e2⟩
    rw [d2, n_eq' d1 (by omega)] at e2
    omega
  rw [n2, d2]
  suffices Lp : wp (KOL_X11_calm_28 N g H T N L (nI n) (nI d) (nI (aCl H T F d w 0).1) (nI 0) s) (KL_X11_calm_28 N g H T N L (nI n) (nI d) (nI (aCl H T F d w 0).1) (nI 0) s) (fun z : Nat × Int32 × cS => z = (0, nI (aCl H T F d w n).1, z.2.2) ∧ clW F g H T z.2.2 (aCl H T F d w n).2 ∧ IV F H T (aCl H T F d w n).2) by
    refine wp_seq Lp ?_
    rintro z ⟨z0, z1, z2⟩
    rw [z0]
    generalize z.2.2 = S1 at z1 ⊢
    show wp (KO_X11_calm_84 N g H T (nI (aCl H T F d w n).1) S1) (KF_X11_calm_84 N g H T (nI (aCl H T F d w n).1) S1) _
    unfold KO_X11_calm_84 KF_X11_calm_84
    exact wp_fin trivial (Or.inl ⟨n, d, (by omega), (by omega), c4, rfl, rfl, z1, rfl, z2⟩)
  refine wp_loop (K := n) (fun j (y : cS) => clW F g H T y (aCl H T F d w j).2 ∧ IV F H T (aCl H T F d w j).2 ∧ wT (aCl H T F d w j).2 = wT w + j ∧ (aCl H T F d w j).1 ≤ 5000) (fun q j y => KOL_X11_calm_28 N g H T q L (nI n) (nI d) (nI (aCl H T F d w j).1) (nI j) y) (fun q j y => KL_X11_calm_28 N g H T q L (nI n) (nI d) (nI (aCl H T F d w j).1) (nI j) y) (fun q j y hj hI ih => ?_) 0 N s (by omega) (by omega) ⟨h, a, rfl, by show 0 ≤ 5000; omega⟩
  obtain ⟨R, A, tt, dn⟩ := hI
  unfold KOL_X11_calm_28 KL_X11_calm_28 KOB_X11_calm_28 KB_X11_calm_28
  by_cases e : j = n
  · refine wp_pos (by rw [n_le' (by omega) (by omega)]; omega) ?_
    rw [e] at R A tt ⊢
    exact wp_fin trivial ⟨rfl, R, A⟩
  refine wp_neg (by rw [n_le' (by omega) (by omega)]; omega) (wp_seq (calmC_34 (c := j) (n := n) hN (by omega) 5000 N (aCl H T F d w j) y R A (by rw [tt]; omega) (by omega) dn (by omega)) ?_)
  rintro z ⟨z0, z1, z2⟩
  rw [z0]
  have t1 := aCl1_T (H := H) (T := T) (F := F) (d := d) 5000 (aCl H T F d w j)
  have l1 := aCl1_le (H := H) (T := T) (F := F) (d := d) 5000 (aCl H T F d w j) dn
  generalize z.2.2.2.2.2.2 = S1 at z1 ⊢
  show wp (KO_X11_calm_70 N g H T (KOL_X11_calm_28 N g H T q) L (nI n) (nI d) (nI (aCl1 H T F d 5000 (aCl H T F d w j)).1) (nI j) S1) (KF_X11_calm_70 N g H T (KL_X11_calm_28 N g H T q) L (nI n) (nI d) (nI (aCl1 H T F d 5000 (aCl H T F d w j)).1) (nI j) S1) _
  unfold KO_X11_calm_70 KF_X11_calm_70
  have h9' : wT (aCl1 H T F d 5000 (aCl H T F d w j)).2 + 1 < 900000 := by rw [t1, tt]; omega
  obtain ⟨A2, t2⟩ := z2.1.tick h9'
  refine wp_call (tick_C hN z1 z2 h9') (fun r => ?_)
  unfold KO_X11_calm_77 KF_X11_calm_77
  rw [n_add]
  exact ih _ ⟨r.2.1, r.2.2, by show wT (aTick (aCl1 H T F d 5000 (aCl H T F d w j)).2 H T F).2 = _; rw [t2, t1, tt]; omega, l1⟩ (by omega)
end
end

section
/-! THE REFERENCE RESTARTS A NODE -/
section
variable {N n F H T : Nat} {S : rS} {w : Wd} {G : Gh}
theorem aWk1_o : (∀ k, k < 9 ∨ 11 < k → wN (aWk1 w n) n k = wN w n k) ∨ 2 < (wN w n 3).toNat := by
  unfold aWk1
  split
  · by_cases c : (wN w n 3).toNat ≤ 2
    · exact Or.inl (fun k hk => N_o _ _ _ _ (Or.inr (by omega)))
    · exact Or.inr (by omega)
  · exact Or.inl (fun k _ => rfl)
theorem wfr.wk1 : wfr n w (aWk1 w n) := by
  unfold aWk1
  split
  · exact wfr.N (by omega)
  · exact wfr.refl
theorem aWk_N {k : Nat} (h3 : 0 ≤ wN w n 3 ∧ wN w n 3 ≤ 2) (hk : (1 ≤ k ∧ k < 6) ∨ 11 < k) : wN (aWk w n T) n k = wN w n k := by
  show wN (aWk1 (aHL (aWk0 w n) n (wN w n 17).toNat) n) n k = _
  have o1 := (aHL_o (w := aWk0 w n) (n := n) (wN w n 17).toNat).1
  have e : ∀ k, (1 ≤ k ∧ k < 6) ∨ 8 < k → wN (aWk0 w n) n k = wN w n k := fun k hk => by
    unfold aWk0
    rw [N_o _ _ _ _ (by omega), N_o _ _ _ _ (by omega), N_o _ _ _ _ (by omega), N_o _ _ _ _ (by omega)]
  rcases aWk1_o (w := aHL (aWk0 w n) n (wN w n 17).toNat) (n := n) with a | a
  · rw [a k (by omega), o1]; exact e k (by omega)
  · rw [o1, e 3 (by omega)] at a
    omega
theorem GK.wake (g : GK F H T w) (hn : n < H) : GK F H T (aWk w n T) := by
  obtain ⟨G, g1⟩ := g.1
  have gn := g1.2.1 n hn
  have h3 := gn.a.2.2.2.1
  have g2 := g1.wake hn
  have o1 := (aHL_o (w := aWk0 w n) (n := n) (wN w n 17).toNat).1
  have e3 : wN (aHL (aWk0 w n) n (wN w n 17).toNat) n 3 = wN w n 3 := by
    rw [o1]
    unfold aWk0
    rw [N_o _ _ _ _ (by omega), N_o _ _ _ _ (by omega), N_o _ _ _ _ (by omega), N_o _ _ _ _ (by omega)]
  have f1 : wfr n w (aHL (aWk0 w n) n (wN w n 17).toNat) ∨ True := Or.inr trivial
  generalize hu : aHL (aWk0 w n) n (wN w n 17).toNat = u at g2 e3
  have e : ∀ k, k < 9 ∨ 11 < k → wN (aWk1 u n) n k = wN u n k := fun k hk => by
    rcases aWk1_o (w := u) (n := n) with a | a
    · exact a k hk
    · rw [e3] at a; omega
  have ky : wY (aWk1 u n) n = wY u n ∧ wP (aWk1 u n) n = wP u n ∧ wK (aWk1 u n) = wK u ∧ wT (aWk1 u n) = wT u := by
    unfold aWk1
    split <;> exact ⟨rfl, rfl, rfl, rfl⟩
  have ga := (g2.2.1 n hn).a
  have g3 : GI F H T G (aWk1 u n) := g2.num hn wfr.wk1 ky.1 ky.2.1 ky.2.2.1 (fun k hk => e k (by omega)) (by rw [e 3 (by omega)]; exact Int.le_refl _) (ga.nt (fun k hk => e k (by omega)) (by rw [e 12 (by omega)]; exact ga.2.2.2.2.2.2.2.2.2.1) (by rw [e 15 (by omega)]; exact ga.2.2.2.2.2.2.2.2.2.2.1))
  have g4 : GI F H T G (aWk w n T) := by
    unfold aWk
    rw [hu]
    exact g3.many (fun t => sk_no (Or.inr (Or.inr (Or.inl rfl))))
  refine ⟨⟨G, g4⟩, fun m hm => ?_⟩
  by_cases c : m = n
  · rw [c]
    unfold giK
    rw [aWk_N h3 (by omega), aWk_N h3 (by omega), aWk_N h3 (by omega), aWk_N h3 (by omega), aWk_N h3 (by omega)]
    exact g.2 n hn
  · have fr : wfr n (aWk0 w n) (aWk w n T) := (wfr.hl.trans wfr.wk1).trans wfr.all
    rw [(fr.1 m c).1]
    have : wN (aWk0 w n) m = wN w m := funext fun k => by
      unfold aWk0
      rw [N_o _ _ _ _ (Or.inl c), N_o _ _ _ _ (Or.inl c), N_o _ _ _ _ (Or.inl c), N_o _ _ _ _ (Or.inl c)]
    rw [this]
    exact g.2 m hm
theorem restart_ok {x : Int32} (hN : 6000 ≤ N) (h : rRp F H T S w) (g : GK F H T w) : wp (o_restart N S x) (f_restart N S x) (fun z => (∃ n, n < H ∧ x = nI n ∧ wN w n 0 = 0 ∧ rRp F H T z.2 (aRules (aWk w n T) n T F) ∧ z.1 = nI 1) ∨ ((¬ ∃ n, n < H ∧ x = nI n ∧ wN w n 0 = 0) ∧ rRp F H T z.2 w ∧ z.1 = nI 0)) := by
  have cb := h.1.1.b
  obtain ⟨i1, i2⟩ := isHonest_ok (N := N) h (x := x)
  show wp (O_restart_0 N x S) (F_restart_0 N x S) _
  unfold O_restart_0 F_restart_0
  have no : (¬ ∃ n, n < H ∧ x = nI n ∧ wN w n 0 = 0) → wp (O_restart_17 N S) (F_restart_17 N S) (fun z => (∃ n, n < H ∧ x = nI n ∧ wN w n 0 = 0 ∧ rRp F H T z.2 (aRules (aWk w n T) n T F) ∧ z.1 = nI 1) ∨ ((¬ ∃ n, n < H ∧ x = nI n ∧ wN w n 0 = 0) ∧ rRp F H T z.2 w ∧ z.1 = nI 0)) := fun z => by
    unfold O_restart_17 F_restart_17
    exact wp_fin trivial (Or.inr ⟨z, h, rfl⟩)
  refine wp_and i1 ?_
  rcases i2 with ⟨n, n1, n2, n3⟩ | ⟨n1, n2⟩
  rotate_left
  · rw [n2]
    exact wp_pos rfl (no (fun ⟨a, b, c, _⟩ => n1 ⟨a, b, c⟩))
  rw [n3]
  have k := g.ok n1
  have ku := k.u
  have ks := k.s
  have kr := k.r
  have kh := k.h
  obtain ⟨i, hi, hi2⟩ := k.l64
  have e43 : S.2.1 43 n = nI (wN w n 0).toNat := h.hN n1 (k := 0) (by decide) (by decide) ku.1
  have cl : x.toNatClampNeg = n := by rw [n2]; exact n_clamp (by omega)
  rw [cl, e43]
  refine wp_neg (by decide) (wp_and (by rw [n2]; exact ((n_in (by omega)).2 (by omega))) (wp_ite (fun c => ?_) (fun c => ?_))) <;> rw [n_eq0 (by omega)] at c
  rotate_left
  · exact no (fun ⟨a, b, d, e⟩ => by rw [n2, n_eq' (by omega) (by omega)] at d; subst d; omega)
  rw [n2]
  have R1 : rRp F H T (rsA S 43 n (nI 1)) (sN w n 0 1) := h.setN (n := n) (k := 0) (v := 1) (by decide) (by decide) (by decide)
  refine wp_and ((n_in (by omega)).2 (by omega)) (wp_call (notBeen_ok (n := n) (by omega)) (fun z => ?_))
  have R2 : rRp F H T (f_notBeen N (rsA S 43 n (nI 1)) (nI n)) (aWk0 w n) := by
    rw [z]
    exact ((R1.setN (n := n) (k := 6) (v := 0) (by decide) (by decide) (by decide)).setN (n := n) (k := 7) (v := 0) (by decide) (by decide) (by decide)).setN (n := n) (k := 8) (v := 0) (by decide) (by decide) (by decide)
  clear z
  generalize f_notBeen N (rsA S 43 n (nI 1)) (nI n) = S1 at R2 ⊢
  have e : ∀ k, (1 ≤ k ∧ k < 6) ∨ 8 < k → wN (aWk0 w n) n k = wN w n k := fun k hk => by
    unfold aWk0
    rw [N_o _ _ _ _ (by omega), N_o _ _ _ _ (by omega), N_o _ _ _ _ (by omega), N_o _ _ _ _ (by omega)]
  unfold O_restart_31 F_restart_31
  refine wp_seq (Q := fun z : Nat × Int32 × rS => z = (0, nI n, z.2.2) ∧ rRp F H T z.2.2 (aHL (aWk0 w n) n i)) ?_ ?_
  · refine wp_loop (K := i) (fun j y => rRp F H T y (aHL (aWk0 w n) n j)) (fun q j y => OL_restart_33 N q (nI n) (nI j) y) (fun q j y => L_restart_33 N q (nI n) (nI j) y) (fun q j y hj hI ih => ?_) 0 N S1 (by omega) (by omega) R2
    obtain ⟨o1, o2, o3, o4, o5, o6, o7⟩ := aHL_o (w := aWk0 w n) (n := n) j
    have n17 : wN (aHL (aWk0 w n) n j) n 17 = i := by rw [o1, e 17 (by omega)]; exact hi
    have e65 : y.2.1 65 n = nI i := by
      have := hI.num n1 17 (by decide) (by decide)
      rw [n17, iI_n] at this
      exact this
    unfold OL_restart_33 L_restart_33 OB_restart_33 B_restart_33
    rw [n_clamp (by omega), e65]
    by_cases c2 : j = i
    · refine wp_and ((n_in (by omega)).2 (by omega)) (wp_pos (by rw [n_le' (by omega) (by omega)]; omega) ?_)
      rw [c2] at hI
      exact wp_fin trivial ⟨rfl, hI⟩
    obtain ⟨_, m, m1, _⟩ := hI.g n j n1 (by rw [n17]; omega)
    have m0 : wY (aWk0 w n) n 8 j = some m := by rw [← o7 n 8 j (by omega)]; exact m1
    refine wp_and ((n_in (by omega)).2 (by omega)) (wp_neg (by rw [n_le' (by omega) (by omega)]; omega) (wp_call (holdLogged_ok (i := j) (m := m) (by omega) hI n1 (by rw [n17]; omega) m1 (by rw [o1, e 1 (by omega)]; omega)) (fun z => ?_)))
    unfold O_restart_49 F_restart_49
    rw [n_add]
    refine ih _ ?_ (by omega)
    rw [aHL_s j m m0]
    exact z.2
  rintro z ⟨z0, z1⟩
  rw [z0]
  generalize z.2.2 = S2 at z1 ⊢
  show wp (O_restart_55 N (nI n) S2) (F_restart_55 N (nI n) S2) _
  have u17 : (wN w n 17).toNat = i := by omega
  obtain ⟨o1, o2, o3, o4, o5, o6, o7⟩ := aHL_o (w := aWk0 w n) (n := n) i
  have x1 : wN (aHL (aWk0 w n) n i) n 1 = wN w n 1 := by rw [o1]; exact e 1 (by omega)
  have x2 : wN (aHL (aWk0 w n) n i) n 2 = wN w n 2 := by rw [o1]; exact e 2 (by omega)
  have x3 : wN (aHL (aWk0 w n) n i) n 3 = wN w n 3 := by rw [o1]; exact e 3 (by omega)
  have xT : wT (aHL (aWk0 w n) n i) = wT w := o5
  have fin : ∀ S3, rRp F H T S3 (aWk1 (aHL (aWk0 w n) n i) n) → wp (O_restart_77 N (nI n) S3) (F_restart_77 N (nI n) S3) (fun z => (∃ n', n' < H ∧ nI n = nI n' ∧ wN w n' 0 = 0 ∧ rRp F H T z.2 (aRules (aWk w n' T) n' T F) ∧ z.1 = nI 1) ∨ ((¬ ∃ n', n' < H ∧ nI n = nI n' ∧ wN w n' 0 = 0) ∧ rRp F H T z.2 w ∧ z.1 = nI 0)) := fun S3 R3 => by
    have y1 : wN (aWk1 (aHL (aWk0 w n) n i) n) n 1 = wN w n 1 := by
      rcases aWk1_o (w := aHL (aWk0 w n) n i) (n := n) with a | a
      · rw [a 1 (by omega)]; exact x1
      · rw [x3] at a; omega
    unfold O_restart_77 F_restart_77
    refine wp_call (writeAsk_ok R3 n1 (by rw [y1]; omega)) (fun q => ?_)
    obtain ⟨q1, q2⟩ := q
    have R4 := R3.sf (sf32 q1)
    rw [y1] at q2
    generalize f_writeAsk N S3 (nI n) = S4 at q2 R4 ⊢
    unfold O_restart_82 F_restart_82
    refine wp_call (flyAll_ok (T := T) (tk := wT (aWk1 (aHL (aWk0 w n) n i) n)) (by omega) R4.co.2.1 (by omega) q2 (by show 1 ≤ 3; decide) R4.sk R4.co.2.2.2.2.2.1 (by omega) (by have := R4.co.2.2.2.2.2.2.1; omega)) (fun r => ?_)
    have R5 : rRp F H T (f_flyAll N S4 (nI n)) (aWk w n T) := by
      unfold aWk
      rw [u17]
      exact R4.sky r.1 r.2
    generalize f_flyAll N S4 (nI n) = S5 at R5 ⊢
    unfold O_restart_87 F_restart_87
    refine wp_call (rules_ok hN R5 (g.wake n1) n1) (fun r => ?_)
    unfold O_restart_92 F_restart_92
    exact wp_fin trivial (Or.inl ⟨n, n1, rfl, (by omega), r, rfl⟩)
  have e44 : S2.2.1 44 n = nI (wN w n 1).toNat := by rw [← x1]; exact z1.hN n1 (k := 1) (by decide) (by decide) (by rw [x1]; omega)
  have e46 : S2.2.1 46 n = nI (wN w n 3).toNat := by rw [← x3]; exact z1.hN n1 (k := 3) (by decide) (by decide) (by rw [x3]; omega)
  unfold O_restart_55 F_restart_55
  rw [n_clamp (by omega), e44, e46]
  refine wp_and ((n_in (by omega)).2 (by omega)) (wp_ite (fun d => ?_) (fun d => ?_)) <;> rw [n_lt' (by omega) (by omega)] at d
  · refine fin S2 ?_
    unfold aWk1
    rw [if_neg (by rw [x1]; omega)]
    exact z1
  · refine wp_and ((n_in (by omega)).2 (by omega)) (wp_call (setTimer_ok (k := (wN w n 3).toNat) z1 n1 (by omega) (by rw [x2]; exact kr)) (fun r => ?_))
    refine fin _ ?_
    unfold aWk1
    rw [if_pos (by rw [x1]; omega), x3]
    exact r
end
end

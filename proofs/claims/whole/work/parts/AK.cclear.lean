section
/-! THE CLASS'S SHELF: what is held is let go -/
section
variable {F N g H T n : Nat} {s s' : cS} {ct ct' : Nat → List Nat} {hd hd' : List Nat} {w w' : Wd} {pe pe' : Nat → Int} {v v' : Nat → Int} {y y' z z' : Nat → Nat → Option (List Nat)} {p p' : List (List Nat)} {x x' : Nat → Nat → Nat} {pn pn' : Int} {a e i : Nat} {xo : Option Nat}
theorem cDrp_P {q u r j : Nat} {o : Option Nat} : cDrp (csP s r j o) q a u = csP (cDrp s q a u) r j o := by
  unfold cDrp
  by_cases c : u = 1
  · rw [if_pos c, if_pos c]
    rfl
  · rw [if_neg c, if_neg c]
    rfl
theorem cDrp_A {q u r j : Nat} {o : Int32} : cDrp (csA s r j o) q a u = csA (cDrp s q a u) r j o := by
  unfold cDrp
  by_cases c : u = 1
  · rw [if_pos c, if_pos c]
    rfl
  · rw [if_neg c, if_neg c]
    rfl
/-- a drop of what is in use -/
theorem CRz.dp (h : CRz F g H T s ct hd w pe n v y p x pn z) (ha : 1 ≤ us g H T s hd a) (hl : hd.length ≤ 31) : p_X9_drop N g H T s (g + 11) (some a) ∧ k_X9_drop N g H T s (g + 11) (some a) = cDrp s (g + 11) a (us g H T s hd a) := by
  obtain ⟨h1, h2, h3, h4, h5, h6⟩ := h
  have cb := h1.bb
  have k5 := h4.k ha
  have ub := us_le (g := g) (s := s) (a := a) (hd := hd) cb.1 cb.2.1 (by omega)
  have L := (h4.2.2.1 a k5).2.1
  exact drop_c (N := N) (g := g) (H := H) (T := T) (q := g + 11) (h4.u k5) ha (by omega) (by omega)
/-- a place of the node lets go -/
theorem let_Z (h : CRz F g H T s ct hd w pe n v y p x pn z) (hn : n < H) (hl : hd.length ≤ 30) (he : e < 6) (hi : i < plN T e) (hx : cP s (nd g n + plO e) i = some a) (hc : CNz g H T (csP s (nd g n + plO e) i none) ct n v' y' p' x' pn' z') : p_X9_drop N g H T s (g + 11) (some a) ∧ k_X9_drop N g H T s (g + 11) (some a) = cDrp s (g + 11) a (us g H T s hd a) ∧ CRz F g H T (csP (cDrp s (g + 11) a (us g H T s hd a)) (nd g n + plO e) i none) ct hd w pe n v' y' p' x' pn' z' := by
  have ha : 1 ≤ us g H T s hd a := by
    have := cnA_hr (g := g) (H := H) (T := T) hn he hi hx
    unfold us
    omega
  obtain ⟨d1, d2⟩ := h.dp (N := N) ha (by omega)
  refine ⟨d1, d2, ?_⟩
  have m := h.mv hn he hi hx hc
  have eu : us g H T (csP s (nd g n + plO e) i none) (a :: hd) a = us g H T s hd a := by
    rw [us_cons, ind_s]
    unfold us
    have e1 := cnA_row (g := g) (H := H) (T := T) (s := s) (a := a) (x := none) hn he hi
    rw [hx, ind_none, ind_s] at e1
    omega
  have q := (drop_Z (N := N) m hn hl).2.1
  rw [(m.dp (N := N) us_self (by show hd.length + 1 ≤ 31; omega)).2, eu, cDrp_P] at q
  exact q
theorem CNz.P (he : e < 6) (h : CNz g H T s ct n v y p x pn z) (hH : qH (csP s (nd g n + plO e) i xo) ct (nd g n) T v (y' 9 0) z') (hD : qD (csP s (nd g n + plO e) i xo) ct (nd g n) T v (y' 9 0) (y' 6)) (hS : qS_ (csP s (nd g n + plO e) i xo) ct (nd g n) T y') (hA : qA (csP s (nd g n + plO e) i xo) ct (nd g n) v (y' 7)) (h7 : y' 7 = y 7) (h9 : y' 9 = y 9) (h0 : y' 0 = y 0) (h1 : y' 1 = y 1) : CNz g H T (csP s (nd g n + plO e) i xo) ct n v y' p x pn z' := by
  obtain ⟨c1, c2, c3, c4, c5, c6, c7, c8, c9, c10, c11, c12, c13, c14⟩ := h
  have b := plO_b e
  have o2 : cP (csP s (nd g n + plO e) i xo) (nd g n + 2) = cP s (nd g n + 2) := cP_other _ _ _ (by omega)
  refine ⟨c1, c2, c3, fun j hj => ?_, by rw [h7]; exact c5, by rw [h9]; exact c6, hH, hD, hS, c10, ?_, hA, c13, c14⟩
  · rw [o2]
    exact c4 j hj
  · unfold qK
    rw [h0, h1]
    exact c11
theorem qH.oth (he : 2 ≤ e) (h6 : e < 6) {o : Option (List Nat)} (h : qH s ct (nd g n) T v o z) : qH (csP s (nd g n + plO e) i xo) ct (nd g n) T v o z := by
  have b := plO_b e
  have b0 := plO_ne e h6 0 (by decide) (by omega)
  have b1 := plO_ne e h6 1 (by decide) (by omega)
  have z0 : plO 0 = 15 := rfl
  have z1 : plO 1 = 19 := rfl
  unfold qH
  rw [cP_other _ _ _ (show nd g n + 15 ≠ nd g n + plO e by omega), cP_other _ _ _ (show nd g n + 19 ≠ nd g n + plO e by omega)]
  exact h
theorem qD.oth (he : e ≠ 2) (h6 : e < 6) {o : Option (List Nat)} {d : Nat → Option (List Nat)} (h : qD s ct (nd g n) T v o d) : qD (csP s (nd g n + plO e) i xo) ct (nd g n) T v o d := by
  have b0 := plO_ne e h6 2 (by decide) (by omega)
  have z0 : plO 2 = 20 := rfl
  unfold qD
  rw [cP_other _ _ _ (show nd g n + 20 ≠ nd g n + plO e by omega)]
  exact h
theorem qS_.oth (he : e ≠ 3 ∧ e ≠ 4) (h6 : e < 6) (h : qS_ s ct (nd g n) T y) : qS_ (csP s (nd g n + plO e) i xo) ct (nd g n) T y := by
  have b0 := plO_ne e h6 3 (by decide) (by omega)
  have b1 := plO_ne e h6 4 (by decide) (by omega)
  have z0 : plO 3 = 22 := rfl
  have z1 : plO 4 = 23 := rfl
  unfold qS_
  rw [cP_other _ _ _ (show nd g n + 22 ≠ nd g n + plO e by omega), cP_other _ _ _ (show nd g n + 23 ≠ nd g n + plO e by omega)]
  exact h
theorem qA.oth (he : e ≠ 5) (h6 : e < 6) {c : Nat → Option (List Nat)} (h : qA s ct (nd g n) v c) : qA (csP s (nd g n + plO e) i xo) ct (nd g n) v c := by
  have b0 := plO_ne e h6 5 (by decide) (by omega)
  have z0 : plO 5 = 13 := rfl
  unfold qA
  rw [cP_other _ _ _ (show nd g n + 13 ≠ nd g n + plO e by omega)]
  exact h
/-- one place of what is held is empty now -/
def zc (z : Nat → Nat → Option (List Nat)) (f i : Nat) : Nat → Nat → Option (List Nat) := fun f' i' => if f' = f ∧ i' = i then none else z f' i'
theorem zc_o {f f' i' : Nat} (h : f' ≠ f ∨ i' ≠ i) : zc z f i f' i' = z f' i' := by
  unfold zc
  rw [if_neg (by omega)]
theorem zc_s {f : Nat} : zc z f i f i = none := by
  unfold zc
  rw [if_pos ⟨rfl, rfl⟩]
theorem vqC_inj {c p r k c' p' r' k' : Nat} (e : vqC T c p r k = vqC T c' p' r' k') (h0 : c ≤ 1) (h1 : p ≤ 1) (h2 : r < 16) (h3 : k < T) (h0' : c' ≤ 1) (h4 : p' ≤ 1) (h5 : r' < 16) (h6 : k' < T) : c = c' ∧ p = p' ∧ r = r' ∧ k = k' := by
  unfold vqC at e
  have hT : 0 < T := by omega
  have q : ∀ A k, k < T → (A * T + k) / T = A := fun A k hk => by
    rw [Nat.mul_comm, Nat.mul_add_div hT, Nat.div_eq_of_lt hk]
    rfl
  have e1 := congrArg (fun t => t / T) e
  have e1' : ((2 * (16 * p + r) + c) * T + k) / T = ((2 * (16 * p' + r') + c') * T + k') / T := e1
  rw [q _ _ h3, q _ _ h6] at e1'
  rw [e1'] at e
  omega
/-- a proposal that is held is let go, its verdict with it -/
theorem let_P {q : Nat} (h : CRz F g H T s ct hd w pe n v y p x pn z) (hn : n < H) (hl : hd.length ≤ 30) (hq : q < 32) (hx : cP s (nd g n + 15) q = some a) : p_X9_drop N g H T s (g + 11) (some a) ∧ CRz F g H T (csA (csP (k_X9_drop N g H T s (g + 11) (some a)) (nd g n + 15) q none) (nd g n + 16) q (nI 0)) ct hd w pe n v y p x pn (zc z 4 q) := by
  have c := h.nz
  obtain ⟨c1, c2, c3, c4, c5, c6, ⟨c7, c7b, c7c, c7d⟩, c8⟩ := id c
  have k21 : cK s (nd g n + 16) = 21 := (h.2.1.2.1 6 3 (nd g n + 14) (o53 (isO5 hn)) (by omega) _ rfl).2.1
  have s1 : CRz F g H T (csA s (nd g n + 16) q (nI 0)) ct hd w pe n v y p x pn z := by
    refine h.set hn ((cfr_A _ _ _).mono (fun b z => by unfold ndP; omega)) (h.2.1.Aw (k := 21) _ _ _ (tK_some k21) (by decide)) ?_
    obtain ⟨c8, c9, c10, c11, c12, c13, c14⟩ := c8
    have o : ∀ d, d ≠ 16 → cA (csA s (nd g n + 16) q (nI 0)) (nd g n + d) = cA s (nd g n + d) := fun d hd' => cA_ne _ _ _ (by omega)
    refine ⟨c1, by rw [o 12 (by decide)]; exact c2, c3, fun j hj => by rw [o 3 (by decide)]; exact (by
      obtain ⟨x1, x2, x3, x4⟩ := c4 j hj
      refine ⟨x1, x2, x3, fun r hr => ?_⟩
      obtain ⟨y1, y2, y3, y4, y5, y6⟩ := x4 r hr
      exact ⟨y1, y2, y3, y4, y5, by rw [cA_ne _ _ _ (by unfold nd at *; omega)]; exact y6⟩), by rw [o 5 (by decide)]; exact c5, ?_, ⟨c7, c7b, fun j hj => ?_, by rw [o 17 (by decide)]; exact c7d⟩, ?_, c9, c10, c11, c12, c13, by rw [o 4 (by decide)]; exact c14⟩
    · unfold qB bkC rtC
      have a7 : cA (csA s (nd g n + 16) q (nI 0)) (nd g n + 6 + 1) = cA s (nd g n + 6 + 1) := o 7 (by decide)
      have a8 : cA (csA s (nd g n + 16) q (nI 0)) (nd g n + 6 + 2) = cA s (nd g n + 6 + 2) := o 8 (by decide)
      have a9 : cA (csA s (nd g n + 16) q (nI 0)) (nd g n + 6 + 3) = cA s (nd g n + 6 + 3) := o 9 (by decide)
      rw [a7, a8, a9, o 11 (by decide)]
      exact c6
    · rw [cA_at]
      by_cases d : j = q
      · rw [if_pos d]
        exact Or.inl rfl
      · rw [if_neg d]
        exact c7c j hj
    · unfold qD
      rw [o 21 (by decide)]
      exact c8
  have z0 : cA (csA s (nd g n + 16) q (nI 0)) (nd g n + 16) q = nI 0 := by rw [cA_at, if_pos rfl]
  have c' := s1.nz
  obtain ⟨-, -, -, -, -, -, ⟨d7, d7b, d7c, d7d⟩, d8, d9, d10, d11, d12, d13⟩ := id c'
  have hx' : cP (csA s (nd g n + 16) q (nI 0)) (nd g n + plO 0) q = some a := hx
  have b15 : ∀ j, cP (csP (csA s (nd g n + 16) q (nI 0)) (nd g n + plO 0) q none) (nd g n + 15) j = if j = q then none else cP s (nd g n + 15) j := fun j => cP_at _ _ _ _ _
  have b19 : cP (csP (csA s (nd g n + 16) q (nI 0)) (nd g n + plO 0) q none) (nd g n + 19) = cP s (nd g n + 19) := cP_other _ _ _ (show nd g n + 19 ≠ nd g n + 15 by omega)
  have nz : CNz g H T (csP (csA s (nd g n + 16) q (nI 0)) (nd g n + plO 0) q none) ct n v y p x pn (zc z 4 q) := by
    refine c'.P (by decide) ⟨fun j hj => ?_, fun c' p' r k a1 a2 a3 a4 => ?_, fun j hj => ?_, fun p' hp' => ?_⟩ (d8.oth (by decide) (by decide)) (d9.oth (by decide) (by decide)) (d12.oth (by decide) (by decide)) rfl rfl rfl rfl
    · rw [b15]
      by_cases d : j = q
      · rw [if_pos d, d, zc_s]
        rfl
      · rw [if_neg d, zc_o (Or.inr d)]
        exact c7 j hj
    · rw [b19, zc_o (Or.inl (by decide))]
      exact c7b c' p' r k a1 a2 a3 a4
    · by_cases d : j = q
      · subst d
        exact Or.inl z0
      · rcases d7c j hj with m | ⟨m, m1, m2, m3⟩
        · exact Or.inl m
        · exact Or.inr ⟨m, by rw [zc_o (Or.inr d)]; exact m1, m2, m3⟩
    · obtain ⟨t, t1, t2, t3⟩ := d7d p' hp'
      refine ⟨t, t1, t2, fun r r1 r2 => ⟨?_, fun c k c1 k1 => by rw [zc_o (Or.inl (by decide))]; exact (t3 r r1 r2).2 c k c1 k1⟩⟩
      unfold zc
      split
      · rfl
      · exact (t3 r r1 r2).1
  obtain ⟨p1, p2, p3⟩ := let_Z (N := N) (e := 0) (i := q) s1 hn hl (by decide) hq hx' nz
  have ha : 1 ≤ us g H T s hd a := by
    have := cnA_hr (e := 0) (g := g) (H := H) (T := T) hn (by decide) hq hx
    unfold us
    omega
  obtain ⟨e1, e2⟩ := h.dp (N := N) ha (by omega)
  refine ⟨e1, ?_⟩
  rw [e2]
  have eu : us g H T (csA s (nd g n + 16) q (nI 0)) hd a = us g H T s hd a := rfl
  rw [eu, cDrp_A] at p3
  exact p3
/-- a vote that is held is let go -/
theorem let_V {c p' r k : Nat} (h : CRz F g H T s ct hd w pe n v y p x pn z) (hn : n < H) (hl : hd.length ≤ 30) (hT : T ≤ 13) (h1 : c ≤ 1) (h2 : p' ≤ 1) (h3 : r < 16) (h4 : k < T) (hx : cP s (nd g n + 19) (vqC T c p' r k) = some a) : p_X9_drop N g H T s (g + 11) (some a) ∧ CRz F g H T (csP (k_X9_drop N g H T s (g + 11) (some a)) (nd g n + 19) (vqC T c p' r k) none) ct hd w pe n v y p x pn (zc z 5 (vq c p' r k)) := by
  have cc := h.nz
  obtain ⟨-, -, -, -, -, -, ⟨d7, d7b, d7c, d7d⟩, d8, d9, d10, d11, d12, d13⟩ := id cc
  have b15 : cP (csP s (nd g n + plO 1) (vqC T c p' r k) none) (nd g n + 15) = cP s (nd g n + 15) := cP_other _ _ _ (show nd g n + 15 ≠ nd g n + 19 by omega)
  have b19 : ∀ j, cP (csP s (nd g n + plO 1) (vqC T c p' r k) none) (nd g n + 19) j = if j = vqC T c p' r k then none else cP s (nd g n + 19) j := fun j => cP_at _ _ _ _ _
  have nz : CNz g H T (csP s (nd g n + plO 1) (vqC T c p' r k) none) ct n v y p x pn (zc z 5 (vq c p' r k)) := by
    refine cc.P (by decide) ⟨fun j hj => ?_, fun c2 p2 r2 k2 a1 a2 a3 a4 => ?_, fun j hj => ?_, fun p2 hp2 => ?_⟩ (d8.oth (by decide) (by decide)) (d9.oth (by decide) (by decide)) (d12.oth (by decide) (by decide)) rfl rfl rfl rfl
    · rw [b15, zc_o (Or.inl (by decide))]
      exact d7 j hj
    · rw [b19]
      by_cases d : c2 = c ∧ p2 = p' ∧ r2 = r ∧ k2 = k
      · obtain ⟨rfl, rfl, rfl, rfl⟩ := d
        rw [if_pos rfl, zc_s]
        rfl
      · rw [if_neg (fun z => d (vqC_inj z a1 a2 a3 a4 h1 h2 h3 h4)), zc_o (Or.inr (fun z => d (by
          obtain ⟨j1, j2, j3, j4⟩ := vq_inj z a2 a3 (by omega) h2 h3 (by omega)
          exact ⟨j1, j2, j3, j4⟩)))]
        exact d7b c2 p2 r2 k2 a1 a2 a3 a4
    · rcases d7c j hj with m | ⟨m, m1, m2, m3⟩
      · exact Or.inl m
      · exact Or.inr ⟨m, by rw [zc_o (Or.inl (by decide))]; exact m1, m2, m3⟩
    · obtain ⟨t, t1, t2, t3⟩ := d7d p2 hp2
      refine ⟨t, t1, t2, fun r' r1 r2 => ⟨by rw [zc_o (Or.inl (by decide))]; exact (t3 r' r1 r2).1, fun c k c1 k1 => ?_⟩⟩
      unfold zc
      split
      · rfl
      · exact (t3 r' r1 r2).2 c k c1 k1
  obtain ⟨p1, p2, p3⟩ := let_Z (N := N) (e := 1) (i := vqC T c p' r k) h hn hl (by decide) (vqC_lt h1 h2 h3 h4) hx nz
  refine ⟨p1, ?_⟩
  rw [p2]
  exact p3
end
end

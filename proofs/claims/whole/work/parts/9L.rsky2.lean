section
/-! THE REFERENCE: what flies is loaded, delivered, copied, passed -/
def skE (k : Sk) (i : Nat) : Sk := (k.1.eraseIdx i, k.2)
theorem fg_e (fl : List Fl) (k j : Nat) : fg (fl.eraseIdx k) j = if j < k then fg fl j else fg fl (j + 1) := by
  unfold fg
  rw [List.getD_eq_getElem?_getD, List.getElem?_eraseIdx]
  split
  · rw [List.getD_eq_getElem?_getD]
  · rw [List.getD_eq_getElem?_getD]
theorem fg_in {fl : List Fl} {k : Nat} (h : k < fl.length) : fg fl k ∈ fl := by
  unfold fg
  rw [List.getD_eq_getElem?_getD, List.getElem?_eq_getElem h]
  exact List.getElem_mem h
noncomputable def aLand (w : Wd) (H T F k : Nat) : Wd := if (fg (wK w).1 k).2.1 < H ∧ wN w (fg (wK w).1 k).2.1 0 = 1 then aCome (sK w (skE (wK w) k)) (fg (wK w).1 k).2.1 T F (fg (wK w).1 k).1 (fg (wK w).1 k).2.2.2 else sK w (skE (wK w) k)
section
variable {N n F H T k : Nat} {S : rS} {w : Wd} {G : Gh}
theorem isFlying_ok (h : rRp F H T S w) {x : Int32} : o_isFlying N S x ∧ ((∃ k, k < (wK w).1.length ∧ x = nI k ∧ f_isFlying N S x = nI 1) ∨ ((¬ ∃ k, k < (wK w).1.length ∧ x = nI k) ∧ f_isFlying N S x = nI 0)) := by
  obtain ⟨⟨ta, t1, t2, _⟩, _⟩ := h.sk
  show wp (O_isFlying_0 N x S) (F_isFlying_0 N x S) (fun v => (∃ k, k < (wK w).1.length ∧ x = nI k ∧ v = nI 1) ∨ ((¬ ∃ k, k < (wK w).1.length ∧ x = nI k) ∧ v = nI 0))
  unfold O_isFlying_0 F_isFlying_0
  have no : (¬ ∃ k, k < (wK w).1.length ∧ x = nI k) → wp (O_isFlying_16 N S) (F_isFlying_16 N S) (fun v => (∃ k, k < (wK w).1.length ∧ x = nI k ∧ v = nI 1) ∨ ((¬ ∃ k, k < (wK w).1.length ∧ x = nI k) ∧ v = nI 0)) := fun g => by
    unfold O_isFlying_16 F_isFlying_16 O_isFlying_17 F_isFlying_17
    exact wp_fin rfl (Or.inr ⟨g, rfl⟩)
  refine wp_ite (fun c => ?_) (fun c => ?_)
  · exact no (fun ⟨k, k1, k2⟩ => n_lt0 (show k < 2147483648 by omega) (by rw [← k2]; exact c))
  obtain ⟨k, k1, k2⟩ : ∃ k : Nat, k < 2147483648 ∧ x = nI k := i_nat c
  rw [k2, t1]
  refine wp_ite (fun d => ?_) (fun d => ?_) <;> rw [n_le' (by omega) k1] at d
  · have := no (fun ⟨j, j1, j2⟩ => by rw [k2, n_eq' k1 (by omega)] at j2; omega)
    rw [k2] at this
    exact this
  · unfold O_isFlying_17 F_isFlying_17
    exact wp_fin rfl (Or.inl ⟨k, (by omega), rfl, rfl⟩)
theorem flyByte_ok {fl : List Fl} {ta : Nat → Nat} {i : Nat} (h : rSkT S fl ta) (hk : k < fl.length) (hi : i < (fg fl k).2.2.2.length) : o_flyByte N S (nI k) (nI i) ∧ f_flyByte N S (nI k) (nI i) = nI (bg (fg fl k).2.2.2 i) := by
  obtain ⟨t1, t2, t3, t4, t5, t6, t7, t8⟩ := h
  obtain ⟨y1, y2, y3, y4, y5, y6⟩ := t8 k hk
  have sl := t6 k (by omega)
  have l1 := y6.2.2.2.2.1
  show wp (O_flyByte_0 N (nI k) (nI i) S) (F_flyByte_0 N (nI k) (nI i) S) (fun v => v = nI (bg (fg fl k).2.2.2 i))
  unfold O_flyByte_0 F_flyByte_0
  rw [n_clamp (by omega), t4 k hk, n_mod' (by omega) (by omega), n_div' (by omega) (by omega), n_mul, n_add, n_clamp (by omega), byteIn_byt, ← y5 i hi]
  exact wp_fin ⟨((n_in (by omega)).2 (by omega)), ((n_in (by omega)).2 (by omega)), trivial, trivial⟩ (lby_eq (by omega) (by omega)).symm
theorem load_ok (hN : 2000 ≤ N) (h : rRp F H T S w) (hk : k < (wK w).1.length) : wp (o_load N S (nI k)) (f_load N S (nI k)) (fun S' => rfr [32, 33] S S' ∧ mB S' (fg (wK w).1 k).2.2.2) := by
  obtain ⟨⟨ta, hT⟩, _⟩ := h.sk
  have hT0 := hT
  obtain ⟨t1, t2, t3, t4, t5, t6, t7, t8⟩ := hT
  obtain ⟨y1, y2, y3, y4, y5, y6⟩ := t8 k hk
  have sl := t6 k (by omega)
  obtain ⟨m, hm⟩ : ∃ m, m = (fg (wK w).1 k).2.2.2 := ⟨_, rfl⟩
  obtain ⟨_, _, _, l0, l1, l2⟩ := y6
  rw [← hm] at y3 l0 l1 l2
  show wp (O_load_0 N (nI k) S) (F_load_0 N (nI k) S) _
  unfold O_load_0 F_load_0
  rw [n_clamp (by omega), t4 k hk, n_clamp (by omega), y3]
  have f0 : rfr [32, 33] S (rsI S 33 (nI m.length)) := rfr.oneI (by decide)
  have g0 : (rsI S 33 (nI m.length)).1 33 = nI m.length := I_same _ _ _
  generalize rsI S 33 (nI m.length) = S0 at f0 g0 ⊢
  refine wp_and ((n_in (by omega)).2 (by omega)) (wp_and ((n_in (by omega)).2 (by omega)) (wp_seq (Q := fun z : Nat × rS => rfr [32, 33] S z.2 ∧ z.2.1 33 = nI m.length ∧ ∀ i, i < m.length → z.2.2.1 32 i = nI (bg m i)) ?_ ?_))
  · refine wp_loop (K := m.length) (fun j y => rfr [32, 33] S y ∧ y.1 33 = nI m.length ∧ ∀ i, i < j → y.2.1 32 i = nI (bg m i)) (fun q j y => OL_load_17 N q (nI k) (nI j) y) (fun q j y => L_load_17 N q (nI k) (nI j) y) (fun q j y hj hI ih => ?_) 0 N S0 (by omega) (by omega) ⟨f0, g0, fun i hi => absurd hi (by omega)⟩
    unfold OL_load_17 L_load_17 OB_load_17 B_load_17
    rw [hI.2.1]
    by_cases e : j = m.length
    · refine wp_pos (by rw [n_le' (by omega) (by omega)]; omega) ?_
      exact wp_fin trivial ⟨hI.1, hI.2.1, fun i hi => hI.2.2 i (by omega)⟩
    have hTy : rSkT y (wK w).1 ta := by
      unfold rSkT flR
      rw [hI.1.i 23 (by decide), hI.1.i 25 (by decide), hI.1.a 24 (by decide), hI.1.a 26 (by decide), hI.1.a 27 (by decide), hI.1.a 28 (by decide), hI.1.a 29 (by decide), hI.1.a 30 (by decide), hI.1.l 31 (by decide)]
      exact hT0
    obtain ⟨b1, b2⟩ := flyByte_ok (N := N) (i := j) hTy hk (by rw [← hm]; omega)
    rw [b2, ← hm, n_clamp (by omega), n_add]
    refine wp_neg (by rw [n_le' (by omega) (by omega)]; omega) (wp_and b1 (wp_and ((n_in (by omega)).2 (by omega)) (ih _ ⟨hI.1.trans (rfr.one (by decide)), hI.2.1, fun i hi => ?_⟩ (by omega))))
    rw [A_same]
    by_cases c : i = j
    · rw [c, upd_same]
    · rw [upd_other _ _ c]
      exact hI.2.2 i (by omega)
  rintro z ⟨z1, z2, z3⟩
  unfold OA_load_17 A_load_17 O_load_43 F_load_43
  rw [← hm]
  exact wp_fin trivial ⟨z1, z2, l1, z3, l2⟩
theorem GI.land (g : GI F H T G w) (i : Nat) : GI F H T G (sK w (skE (wK w) i)) := g.sky (fun x hx => g.2.2 x ((List.eraseIdx_sublist (wK w).1 i).subset hx))
theorem deliver_ok {x : Int32} (hN : 6000 ≤ N) (h : rRp F H T S w) (g : GK F H T w) (st : skT T w) : wp (o_deliver N S x) (f_deliver N S x) (fun z => (∃ k, k < (wK w).1.length ∧ x = nI k ∧ rRp F H T z.2 (aLand w H T F k) ∧ z.1 = nI (bg (fg (wK w).1 k).2.2.2 0)) ∨ ((¬ ∃ k, k < (wK w).1.length ∧ x = nI k) ∧ rRp F H T z.2 w ∧ z.1 = -1)) := by
  have cb := h.1.1.b
  obtain ⟨i1, i2⟩ := isFlying_ok (N := N) h (x := x)
  show wp (O_deliver_0 N x S) (F_deliver_0 N x S) _
  unfold O_deliver_0 F_deliver_0
  refine wp_and i1 ?_
  rcases i2 with ⟨k, k1, k2, k3⟩ | ⟨k1, k2⟩
  rotate_left
  · rw [k2]
    exact wp_pos rfl (wp_fin trivial (Or.inr ⟨k1, h, rfl⟩))
  rw [k3, k2]
  refine wp_neg (by decide) (wp_call (load_ok (by omega) h k1) (fun q => ?_))
  obtain ⟨q1, q2⟩ := q
  have R1 := h.sf (sf32 q1)
  generalize f_load N S (nI k) = S1 at q1 q2 R1 ⊢
  obtain ⟨⟨ta, hT⟩, s4, s5⟩ := R1.sk
  have hT0 := hT
  obtain ⟨t1, t2, t3, t4, t5, t6, t7, t8⟩ := hT
  obtain ⟨y1, y2, y3, y4, y5, y6⟩ := t8 k k1
  obtain ⟨x1, x2, x3, x4, x5, x6⟩ := y6
  obtain ⟨L, hL⟩ : ∃ L, L = (wK w).1.length := ⟨_, rfl⟩
  rw [← hL] at t1 t2 t3
  have sl := t6 k (by omega)
  have e0 := q2.at_ (i := 0) (by omega)
  unfold O_deliver_15 F_deliver_15
  rw [e0, n_clamp (by omega), t4 k k1, n_add]
  refine wp_and ((n_in (by omega)).2 (by omega)) (wp_and ((n_in (by omega)).2 (by omega)) (wp_seq (Q := fun z : Nat × Int32 × Int32 × rS => z = (0, nI (bg (fg (wK w).1 k).2.2.2 0), nI (ta k), z.2.2.2) ∧ rfr [24] S1 z.2.2.2 ∧ ∀ i, z.2.2.2.2.1 24 i = if k ≤ i ∧ i + 1 < L then S1.2.1 24 (i + 1) else S1.2.1 24 i) ?_ ?_))
  · refine wp_loop (K := L) (fun j y => k + 1 ≤ j ∧ rfr [24] S1 y ∧ ∀ i, y.2.1 24 i = if k ≤ i ∧ i + 1 < j then S1.2.1 24 (i + 1) else S1.2.1 24 i) (fun q j y => OL_deliver_34 N q (nI (bg (fg (wK w).1 k).2.2.2 0)) (nI (ta k)) (nI j) y) (fun q j y => L_deliver_34 N q (nI (bg (fg (wK w).1 k).2.2.2 0)) (nI (ta k)) (nI j) y) (fun q j y hj hI ih => ?_) (k + 1) N S1 (by omega) (by omega) ⟨Nat.le_refl _, rfr.refl, fun i => by rw [if_neg (by omega)]⟩
    obtain ⟨j1, j2, j3⟩ := hI
    unfold OL_deliver_34 L_deliver_34 OB_deliver_34 B_deliver_34
    rw [j2.i 23 (by decide), t1]
    by_cases e : j = L
    · refine wp_pos (by rw [n_le' (by omega) (by omega)]; omega) ?_
      rw [e] at j3
      exact wp_fin trivial ⟨rfl, j2, j3⟩
    rw [n_sub (by omega), n_clamp (by omega), n_clamp (by omega), n_add]
    refine wp_neg (by rw [n_le' (by omega) (by omega)]; omega) (wp_and ((n_in (by omega)).2 (by omega)) (wp_and ((n_in (by omega)).2 (by omega)) (ih _ ⟨(by omega), j2.trans (rfr.one (by decide)), fun i => ?_⟩ (by omega))))
    rw [A_same]
    by_cases c : i = j - 1
    · rw [c, upd_same, if_pos (by omega), show j - 1 + 1 = j by omega, j3, if_neg (by omega)]
    · rw [upd_other _ _ c, j3]
      by_cases c2 : k ≤ i ∧ i + 1 < j
      · rw [if_pos c2, if_pos (by omega)]
      · rw [if_neg c2, if_neg (by omega)]
  rintro z ⟨z0, z1, z2⟩
  rw [z0]
  generalize z.2.2.2 = S2 at z1 z2 ⊢
  show wp (O_deliver_65 N (nI (bg (fg (wK w).1 k).2.2.2 0)) (nI (ta k)) S2) (F_deliver_65 N (nI (bg (fg (wK w).1 k).2.2.2 0)) (nI (ta k)) S2) _
  unfold O_deliver_65 F_deliver_65
  rw [z1.i 23 (by decide), t1, n_sub (by omega), I_other _ _ (by decide), z1.i 25 (by decide), t3, n_clamp (by omega)]
  have f3 : rfr [23, 24, 26] S1 (rsA (rsI S2 23 (nI (L - 1))) 26 (1000 - L) (nI (ta k))) := ((z1.mono (by decide)).trans (rfr.oneI (by decide))).trans (rfr.one (by decide))
  have g23 : (rsA (rsI S2 23 (nI (L - 1))) 26 (1000 - L) (nI (ta k))).1 23 = nI (L - 1) := by rw [A_I, I_same]
  have g24 : (rsA (rsI S2 23 (nI (L - 1))) 26 (1000 - L) (nI (ta k))).2.1 24 = S2.2.1 24 := by rw [A_other _ _ _ (by decide), I_A]
  have g26 : (rsA (rsI S2 23 (nI (L - 1))) 26 (1000 - L) (nI (ta k))).2.1 26 = upd (S1.2.1 26) (1000 - L) (nI (ta k)) := by rw [A_same, I_A, z1.a 26 (by decide)]
  refine wp_and ((n_in (by omega)).2 (by omega)) ?_
  generalize rsA (rsI S2 23 (nI (L - 1))) 26 (1000 - L) (nI (ta k)) = S3 at f3 g23 g24 g26 ⊢
  unfold O_deliver_85 F_deliver_85
  rw [f3.i 25 (by decide), t3, n_add]
  have f4 : rfr [23, 24, 25, 26] S1 (rsI S3 25 (nI (1000 - L + 1))) := (f3.mono (by decide)).trans (rfr.oneI (by decide))
  have k23 : (rsI S3 25 (nI (1000 - L + 1))).1 23 = nI (L - 1) := by rw [I_other _ _ (by decide)]; exact g23
  have k25 : (rsI S3 25 (nI (1000 - L + 1))).1 25 = nI (1000 - L + 1) := I_same _ _ _
  have k24 : (rsI S3 25 (nI (1000 - L + 1))).2.1 24 = S2.2.1 24 := by rw [I_A]; exact g24
  have k26 : (rsI S3 25 (nI (1000 - L + 1))).2.1 26 = upd (S1.2.1 26) (1000 - L) (nI (ta k)) := by rw [I_A]; exact g26
  generalize rsI S3 25 (nI (1000 - L + 1)) = S4 at f4 k23 k25 k24 k26 ⊢
  have R4 : rRp F H T S4 (sK w (skE (wK w) k)) := by
    refine R1.sky (f4.mono (by decide)) ?_
    obtain ⟨tb, hb⟩ : ∃ tb : Nat → Nat, tb = fun j => if j < k then ta j else if j + 1 < L then ta (j + 1) else if j + 1 = L then ta k else ta j := ⟨_, rfl⟩
    have b0 : ∀ j, j < k → tb j = ta j := fun j hj => by rw [hb]; show (if j < k then _ else _) = _; rw [if_pos hj]
    have b1 : ∀ j, k ≤ j → j + 1 < L → tb j = ta (j + 1) := fun j h1 h2 => by rw [hb]; show (if j < k then _ else if j + 1 < L then _ else _) = _; rw [if_neg (by omega), if_pos h2]
    have b2 : ∀ j, j + 1 = L → tb j = ta k := fun j h1 => by rw [hb]; show (if j < k then _ else if j + 1 < L then _ else if j + 1 = L then _ else _) = _; rw [if_neg (by omega), if_neg (by omega), if_pos h1]
    have b3 : ∀ j, L ≤ j → tb j = ta j := fun j h1 => by rw [hb]; show (if j < k then _ else if j + 1 < L then _ else if j + 1 = L then _ else _) = _; rw [if_neg (by omega), if_neg (by omega), if_neg (by omega)]
    have ln : ((wK w).1.eraseIdx k).length = L - 1 := by rw [List.length_eraseIdx_of_lt k1, hL]
    have inv : ∀ j, j < 1000 → ∃ i, i < 1000 ∧ tb j = ta i ∧ (j < k → i = j) ∧ (k ≤ j → j + 1 < L → i = j + 1) ∧ (j + 1 = L → i = k) ∧ (L ≤ j → i = j) := fun j hj => by
      by_cases c1 : j < k
      · exact ⟨j, hj, b0 j c1, fun _ => rfl, fun z => absurd z (by omega), fun z => absurd z (by omega), fun z => rfl⟩
      · by_cases c2 : j + 1 < L
        · exact ⟨j + 1, (by omega), b1 j (by omega) c2, fun z => absurd z c1, fun _ _ => rfl, fun z => absurd z (by omega), fun z => absurd z (by omega)⟩
        · by_cases c3 : j + 1 = L
          · exact ⟨k, (by omega), b2 j c3, fun z => absurd z c1, fun _ z => absurd z c2, fun _ => rfl, fun z => absurd z (by omega)⟩
          · exact ⟨j, hj, b3 j (by omega), fun z => absurd z c1, fun _ z => absurd z c2, fun z => absurd z c3, fun _ => rfl⟩
    refine ⟨⟨tb, ?_, ?_, ?_, fun i hi => ?_, fun j hj1 hj2 => ?_, fun j hj => ?_, fun i j hi hj e => ?_, fun i hi => ?_⟩, by rw [f4.i 4 (by decide)]; exact s4, by rw [f4.i 5 (by decide)]; exact s5⟩
    · show S4.1 23 = nI ((wK w).1.eraseIdx k).length
      rw [ln]; exact k23
    · show ((wK w).1.eraseIdx k).length ≤ 1000
      omega
    · show S4.1 25 = nI (1000 - ((wK w).1.eraseIdx k).length)
      rw [ln, k25]
      congr 1
      omega
    · have hi : i < ((wK w).1.eraseIdx k).length := hi
      rw [ln] at hi
      rw [k24, z2]
      by_cases c : k ≤ i
      · rw [if_pos ⟨c, (by omega)⟩, t4 (i + 1) (by omega), b1 i c (by omega)]
      · rw [if_neg (by omega), t4 i (by omega), b0 i (by omega)]
    · have hj1 : ((wK w).1.eraseIdx k).length ≤ j := hj1
      rw [ln] at hj1
      rw [k26]
      by_cases c : j + 1 = L
      · rw [show 999 - j = 1000 - L by omega, upd_same, b2 j c]
      · rw [upd_other _ _ (by omega), t5 j (by omega) hj2, b3 j (by omega)]
    · obtain ⟨i, i1, i2, _⟩ := inv j hj
      rw [i2]; exact t6 i i1
    · obtain ⟨a, a1, a2, a3, a4, a5, a6⟩ := inv i hi
      obtain ⟨c, c1, c2, c3, c4, c5, c6⟩ := inv j hj
      rw [a2, c2] at e
      have := t7 a c a1 c1 e
      omega
    · have hi : i < ((wK w).1.eraseIdx k).length := hi
      rw [ln] at hi
      show flR S4 (tb i) (fg ((wK w).1.eraseIdx k) i)
      unfold flR
      rw [f4.a 27 (by decide), f4.a 28 (by decide), f4.a 29 (by decide), f4.a 30 (by decide), f4.l 31 (by decide), fg_e]
      by_cases c : i < k
      · rw [if_pos c, b0 i c]; exact t8 i (by omega)
      · rw [if_neg c, b1 i (by omega) (by omega)]; exact t8 (i + 1) (by omega)
  have m4 := q2.fr f4 (by decide) (by decide)
  have e28 : S4.2.1 28 (nI (ta k)).toNatClampNeg = nI (fg (wK w).1 k).2.1 := by rw [n_clamp (by omega), f4.a 28 (by decide)]; exact y2
  have e27 : S4.2.1 27 (nI (ta k)).toNatClampNeg = nI (fg (wK w).1 k).1 := by rw [n_clamp (by omega), f4.a 27 (by decide)]; exact y1
  rw [e28, e27]
  have sx := st (fg (wK w).1 k) (fg_in k1)
  have al : ∀ u, u = aLand w H T F k → ∀ S5, rRp F H T S5 u → wp (O_deliver_124 N (nI (bg (fg (wK w).1 k).2.2.2 0)) S5) (F_deliver_124 N (nI (bg (fg (wK w).1 k).2.2.2 0)) S5) (fun z => (∃ k', k' < (wK w).1.length ∧ nI k = nI k' ∧ rRp F H T z.2 (aLand w H T F k') ∧ z.1 = nI (bg (fg (wK w).1 k').2.2.2 0)) ∨ ((¬ ∃ k', k' < (wK w).1.length ∧ nI k = nI k') ∧ rRp F H T z.2 w ∧ z.1 = -1)) := fun u eu S5 R5 => by
    unfold O_deliver_124 F_deliver_124
    rw [eu] at R5
    exact wp_fin trivial (Or.inl ⟨k, k1, rfl, R5, rfl⟩)
  obtain ⟨G, g1⟩ := g.1
  obtain ⟨v1, v2⟩ := isUp_ok (N := N) R4 (fun m hm => (g.ok hm).u) (x := nI (fg (wK w).1 k).2.1)
  refine wp_and ((n_in (by omega)).2 (by omega)) (wp_and v1 ?_)
  rcases v2 with ⟨n, n1, n2, n3, n4⟩ | ⟨n1, n2⟩
  · rw [n4]
    have n2 : (fg (wK w).1 k).2.1 = n := (n_eq' (by omega) (by omega)).1 n2
    have n3 : wN w n 0 = 1 := n3
    rw [n2]
    refine wp_neg (by decide) (wp_and ((n_in (by omega)).2 (by omega)) (wp_and ((n_in (by omega)).2 (by omega)) (wp_call (come_ok (b := (fg (wK w).1 k).1) (m := (fg (wK w).1 k).2.2.2) hN R4 (g1.land k) g.2 n1 sx.1 (fun t tk => g1.2.2 (fg (wK w).1 k) (fg_in k1)) m4 x4) (fun r => ?_))))
    refine al _ ?_ _ r
    unfold aLand
    rw [n2, if_pos ⟨n1, n3⟩]
  · rw [n2]
    refine wp_pos rfl (al _ ?_ S4 R4)
    unfold aLand
    rw [if_neg (fun z => n1 ⟨_, z.1, rfl, z.2⟩)]
end
end

section
/-! THE CLASS'S BOOK: a block's parts are done -/
theorem wp_ifp {c : Prop} [Decidable c] {R : Type} {P : R → Prop} {O1 O2 : Prop} {a b : R} (hc : c) (h1 : wp O1 a P) : wp (if c then O1 else O2) (if c then a else b) P := by
  unfold wp
  rw [if_pos hc, if_pos hc]
  exact h1
theorem wp_ifn {c : Prop} [Decidable c] {R : Type} {P : R → Prop} {O1 O2 : Prop} {a b : R} (hc : ¬ c) (h1 : wp O2 b P) : wp (if c then O1 else O2) (if c then a else b) P := by
  unfold wp
  rw [if_neg hc, if_neg hc]
  exact h1
section
variable {N g H T o r at_ : Nat} {s : cS} {k : Bk} {m : List Nat}
theorem cB.f {P : Nat → Prop} {s s1 : cS} {b : List Nat} (h : cB s r b) (hf : cfr P s s1) (hr : ¬ P r) : cB s1 r b := ⟨by rw [hf.L]; exact h.1, by rw [hf.L]; exact h.2.1, by rw [hf.A r hr]; exact h.2.2.1, h.2.2.2⟩
theorem evC_dr {b : List Nat} {p : Nat} (h : evOK T b p) (e : b = m.drop at_) (hl : at_ ≤ m.length) : evC m (at_ + p) m.length = evSz b p := by
  obtain ⟨e1, e2, e3, e4, e5, e6, e7⟩ := h
  have bl : b.length = m.length - at_ := by rw [e, List.length_drop]
  have z : ∀ i, bg m (at_ + p + i) = bg b (p + i) := fun i => by rw [e, bg_drop, show at_ + (p + i) = at_ + p + i by omega]
  unfold evC evSz
  rw [z 5, z 6, z 38]
  rcases e7 with ⟨a1, a2, a3⟩ | ⟨a1, a2, a3, a4⟩
  · rw [if_pos ⟨by omega, a1, a2⟩, if_neg (by omega)]
    rfl
  · rw [if_neg (by omega), if_pos ⟨by omega, a1, a3⟩, if_pos a1]
    rfl
/-- the evidences of a block -/
theorem play_l57 {E : Nat} {b : List Nat} (hN : 100 ≤ N) (hT : T ≤ 13) (eb : b = m.drop at_) (hat : at_ ≤ 6) (hb : blkWf T b) (hm : cB s r m) (hr : r ≠ o ∧ r ≠ o + 1 ∧ r ≠ o + 2) (hk : bkC s o k) (ok : bkOK k) (hE : E = bg b 100) : wp (KOL_X0_play_57 N g H T N o (some r) (nI m.length) (nI (bg b 2)) (nI (at_ + 101)) (nI E) (nI 0) s) (KL_X0_play_57 N g H T N o (some r) (nI m.length) (nI (bg b 2)) (nI (at_ + 101)) (nI E) (nI 0) s) (fun z => ((bEv b k E).2 = true ∧ ∃ s', z = (1, o, some r, nI m.length, nI (bg b 2), nI (at_ + evP b E), s') ∧ bkF o s s' ∧ bkC s' o (bEv b k E).1) ∨ ((bEv b k E).2 = false ∧ ∃ s', z = (0, 0, none, 0, 0, 0, s') ∧ bkF o s s' ∧ bkC s' o (bEv b k E).1)) := by
  have b2 := hb.2.2.1
  have b100 := hb.2.2.2.2.1
  have bl : b.length = m.length - at_ := by rw [eb, List.length_drop]
  have l0 := hb.1
  have m3 := hm.1
  have m4 := hm.2.1
  refine wp_loop (K := E) (fun j (x : cS) => (bEv b k j).2 = true ∧ bkF o s x ∧ bkC x o (bEv b k j).1) (fun n j x => KOL_X0_play_57 N g H T n o (some r) (nI m.length) (nI (bg b 2)) (nI (at_ + evP b j)) (nI E) (nI j) x) (fun n j x => KL_X0_play_57 N g H T n o (some r) (nI m.length) (nI (bg b 2)) (nI (at_ + evP b j)) (nI E) (nI j) x) (fun n j x hj hI ih => ?_) 0 N s (by omega) (by omega) ⟨rfl, bkF.refl, hk⟩
  obtain ⟨i1, i2, i3⟩ := hI
  unfold KOL_X0_play_57 KL_X0_play_57 KOB_X0_play_57 KB_X0_play_57
  by_cases c : j = E
  · refine wp_pos (by rw [n_le' (by omega) (by omega)]; omega) (wp_fin trivial (Or.inl ?_))
    rw [← c]
    exact ⟨i1, x, rfl, i2, i3⟩
  have ev := hb.2.2.2.2.2.1 j (by omega)
  have evl := ev.1
  have hx : cB x r m := hm.f i2.1 (by omega)
  have h1 := hx.1
  obtain ⟨q1, q2⟩ := evidenceSize_ok (N := N) (g := g) (H := H) (T := T) (a := at_ + evP b j) (e := m.length) hx (Nat.le_refl _) (by omega)
  have q2' : k_X1_evidenceSize N g H T x (some r) (nI (at_ + evP b j)) (nI m.length) = iI (evC m (at_ + evP b j) m.length) := q2
  rw [evC_dr ev eb (by omega), iI_n] at q2'
  have sz : evSz b (evP b j) ≤ 71 := by unfold evSz; split <;> omega
  have by0 : bg m (at_ + evP b j) = bg b (evP b j) := by rw [eb, bg_drop]
  rw [q2', zsome r, hx.an (a := at_ + evP b j) (by omega), by0]
  refine wp_neg (by rw [n_le' (by omega) (by omega)]; omega) (wp_neg (by rw [n_le' (by omega) (by omega)]; omega) (wp_and q1 (wp_neg (n_lt0 (by omega)) (wp_and ⟨someN, ((n_in (by omega)).2 (by omega))⟩ ?_))))
  have okj := bEv_ok ok hb hT j (by omega)
  refine wp_call (punish_ok (N := N) (g := g) (H := H) (T := T) (q := bg b (evP b j)) (m := bg b 2) i3 okj (by have := ev.2.1; omega) (by omega)) (fun hp => ?_)
  generalize k_X0_punish N g H T x o (nI (bg b (evP b j))) (nI (bg b 2)) = z at hp ⊢
  obtain ⟨f1, f2, f3⟩ := hp
  have e1 : bEv b k (j + 1) = bFine (bEv b k j).1 (bg b (evP b j)) (bg b 2) := by
    show (if (bEv b k j).2 then bFine (bEv b k j).1 (bg b (evP b j)) (bg b 2) else bEv b k j) = _
    rw [if_pos i1]
  rw [← e1] at f2 f3
  unfold KO_X0_play_98 KF_X0_play_98
  rw [f3, n_add, n_add]
  by_cases d : (bEv b k (j + 1)).2 = true
  · rw [d]
    refine wp_neg (by decide) ?_
    have := ih z.2 ⟨d, i2.trans f1, f2⟩ (by omega)
    rw [show at_ + evP b (j + 1) = at_ + evP b j + evSz b (evP b j) by
      show at_ + (evP b j + evSz b (evP b j)) = _
      omega] at this
    exact this
  · have d' : (bEv b k (j + 1)).2 = false := by simpa using d
    rw [d']
    refine wp_pos (by decide) (wp_fin trivial (Or.inr ?_))
    have st := bEv_stop d' (E - (j + 1))
    rw [show j + 1 + (E - (j + 1)) = E by omega] at st
    rw [st]
    exact ⟨d', z.2, rfl, i2.trans f1, f2⟩
/-- the payments of a block -/
theorem play_l116 {P : Nat} {b : List Nat} {k1 : Bk × Bool} (hN : 100 ≤ N) (hT : T ≤ 13) (eb : b = m.drop at_) (hat : at_ ≤ 6) (hb : blkWf T b) (hm : cB s r m) (hr : r ≠ o ∧ r ≠ o + 1 ∧ r ≠ o + 2) (hk : bkC s o k1.1) (ok : bkOK k1.1) (h2 : k1.2 = true) (hP : P = bg b 99) : wp (KOL_X0_play_116 N g H T N o (some r) (nI m.length) (nI (bg b 2)) (nI (at_ + pyP b 0)) s) (KL_X0_play_116 N g H T N o (some r) (nI m.length) (nI (bg b 2)) (nI (at_ + pyP b 0)) s) (fun z => (((bPy b k1 P).2 = true ∧ z.1 = 1) ∨ ((bPy b k1 P).2 = false ∧ z.1 = 0)) ∧ bkF o s z.2 ∧ bkC z.2 o (bPy b k1 P).1) := by
  have b2 := hb.2.2.1
  have b99 := hb.2.2.2.1
  have bl : b.length = m.length - at_ := by rw [eb, List.length_drop]
  have l0 := hb.1
  have m3 := hm.1
  have m4 := hm.2.1
  have len := hb.2.2.2.2.2.2.2.1
  have hB : isB b := by rw [eb]; exact isB_drop hm.2.2.2 _
  have py : ∀ j, pyP b j = pyP b 0 + 7 * j := fun j => by unfold pyP; omega
  have l100 : 101 ≤ pyP b 0 := by
    have : ∀ j, 101 ≤ evP b j := fun j => by
      induction j with
      | zero => exact Nat.le_refl _
      | succ j ih =>
        show 101 ≤ evP b j + _
        omega
    unfold pyP
    have := this (bg b 100)
    omega
  have pP := py (bg b 99)
  refine wp_loop (K := P) (fun j (x : cS) => (bPy b k1 j).2 = true ∧ bkF o s x ∧ bkC x o (bPy b k1 j).1) (fun n j x => KOL_X0_play_116 N g H T n o (some r) (nI m.length) (nI (bg b 2)) (nI (at_ + pyP b j)) x) (fun n j x => KL_X0_play_116 N g H T n o (some r) (nI m.length) (nI (bg b 2)) (nI (at_ + pyP b j)) x) (fun n j x hj hI ih => ?_) 0 N s (by omega) (by omega) ⟨h2, bkF.refl, hk⟩
  obtain ⟨i1, i2, i3⟩ := hI
  have pj := py j
  unfold KOL_X0_play_116 KL_X0_play_116 KOB_X0_play_116 KB_X0_play_116
  rw [n_sub (by omega)]
  by_cases c : j = P
  · refine wp_pos (by rw [n_lt' (by omega) (by omega)]; omega) (wp_fin trivial ?_)
    rw [← c]
    exact ⟨Or.inl ⟨i1, rfl⟩, i2, i3⟩
  have pa := hb.2.2.2.2.2.2.1 j (by omega)
  have hx : cB x r m := hm.f i2.1 (by omega)
  obtain ⟨c1, c2⟩ := codeAt_ok (N := N) (g := g) (H := H) (T := T) (a := at_ + pyP b j) hN hx (by have := pa.1; omega)
  rw [c2]
  refine wp_neg (by rw [n_lt' (by omega) (by omega)]; omega) (wp_and c1 ?_)
  have by0 : ∀ i, i < 7 → bg (sl m (at_ + pyP b j) 7) i = bg b (pyP b j + i) := fun i hi => by rw [sl_in hi, eb, bg_drop, show at_ + (pyP (m.drop at_) j + i) = at_ + pyP (m.drop at_) j + i by omega]
  have z0 := by0 0 (by decide)
  have z1 := by0 1 (by decide)
  have z6 := by0 6 (by decide)
  have z2 : tw (sl m (at_ + pyP b j) 7) 2 = tw b (pyP b j + 2) := by
    unfold tw
    rw [by0 2 (by decide), by0 3 (by decide)]
  have z4 : tw (sl m (at_ + pyP b j) 7) 4 = tw b (pyP b j + 4) := by
    unfold tw
    rw [by0 4 (by decide), by0 5 (by decide)]
  have okj := bPy_ok (k := k1) ok hb hB hT j (by omega)
  refine wp_call (pay_c (N := N) (g := g) (H := H) (T := T) (m := bg b 2) i3 okj (isB_sl hm.2.2.2 _ _) (by rw [z0]; exact pa.2.1) (by rw [z1]; exact pa.2.2.1) (by omega)) (fun hp => ?_)
  generalize k_X0_pay N g H T x o (coD (sl m (at_ + pyP b j) 7)) (nI (bg b 2)) = z at hp ⊢
  obtain ⟨f1, f2, f3⟩ := hp
  have e1 : bPy b k1 (j + 1) = bPay (bPy b k1 j).1 (bg b (pyP b j)) (bg b (pyP b j + 1)) (tw b (pyP b j + 2)) (tw b (pyP b j + 4)) (bg b (pyP b j + 6)) (bg b 2) := by
    show (if (bPy b k1 j).2 then bPay (bPy b k1 j).1 (bg b (pyP b j)) (bg b (pyP b j + 1)) (tw b (pyP b j + 2)) (tw b (pyP b j + 4)) (bg b (pyP b j + 6)) (bg b 2) else bPy b k1 j) = _
    rw [if_pos i1]
  rw [z0, z1, z2, z4, z6, show pyP b j + 0 = pyP b j from rfl, ← e1] at f2 f3
  unfold KO_X0_play_137 KF_X0_play_137
  rw [f3, n_add]
  by_cases d : (bPy b k1 (j + 1)).2 = true
  · rw [d]
    refine wp_neg (by decide) ?_
    have := ih z.2 ⟨d, i2.trans f1, f2⟩ (by omega)
    rw [show at_ + pyP b (j + 1) = at_ + pyP b j + 7 by have := py (j + 1); omega] at this
    exact this
  · have d' : (bPy b k1 (j + 1)).2 = false := by simpa using d
    rw [d']
    refine wp_pos (by decide) (wp_fin trivial ?_)
    have st := bPy_stop d' (P - (j + 1))
    rw [show j + 1 + (P - (j + 1)) = P by omega] at st
    rw [st]
    exact ⟨Or.inr ⟨d', rfl⟩, i2.trans f1, f2⟩
theorem play_c {b : List Nat} (hN : 100 ≤ N) (hT : T ≤ 13) (eb : b = m.drop at_) (hat : at_ ≤ 6) (hb : blkWf T b) (hm : cB s r m) (hl : m.length ≤ 1000) (hr : r ≠ o ∧ r ≠ o + 1 ∧ r ≠ o + 2) (hk : bkC s o k) (ok : bkOK k) : wp (p_X0_play N g H T s o (some r) (nI at_) (nI m.length)) (k_X0_play N g H T s o (some r) (nI at_) (nI m.length)) (fun z => cfr (fun x => x = o ∨ x = o + 1 ∨ x = o + 2) s z.2 ∧ cI z.2 5 o = nI 1 ∧ bkC z.2 o (bPl k b).1 ∧ z.1 = nI (if (bPl k b).2 then 1 else 0)) := by
  have b2 := hb.2.2.1
  have b99 := hb.2.2.2.1
  have b100 := hb.2.2.2.2.1
  have bl : b.length = m.length - at_ := by rw [eb, List.length_drop]
  have l0 := hb.1
  have m3 := hm.1
  have m4 := hm.2.1
  show wp (KO_X0_play_0 N g H T o (some r) (nI at_) (nI m.length) s) (KF_X0_play_0 N g H T o (some r) (nI at_) (nI m.length) s) _
  unfold KO_X0_play_0 KF_X0_play_0
  have f0 : cfr (fun x => x = o ∨ x = o + 1 ∨ x = o + 2) s (csI s 5 o (nI 1)) := (cfr_I _ _ _ _).mono (fun a z => by omega)
  have k0 : bkC (csI s 5 o (nI 1)) o k := ⟨hk.1, by rw [cI_other _ _ (Or.inl (by decide))]; exact hk.2⟩
  have i5 : cI (csI s 5 o (nI 1)) 5 o = nI 1 := cI_same _ _ _ _
  have hm0 : cB (csI s 5 o (nI 1)) r m := hm.f f0 (by omega)
  have m5 := hm0.1
  have m6 := hm0.2.1
  generalize csI s 5 o (nI 1) = s1 at f0 k0 i5 hm0 m5 m6 ⊢
  have y2 : bg m (at_ + 2) = bg b 2 := by rw [eb, bg_drop]
  have y100 : bg m (at_ + 100) = bg b 100 := by rw [eb, bg_drop]
  rw [zsome r, n_sub (by omega), n_add, n_add, n_add, hm0.an (a := at_ + 2) (by omega), hm0.an (a := at_ + 100) (by omega), y2, y100]
  refine wp_neg (n_lt0 (by omega)) (wp_and someN (wp_neg (by rw [n_lt' (by omega) (by omega)]; omega) (wp_pos (by rw [n_le' (by omega) (by omega)]; omega) (wp_and ⟨someN, ((n_in (by omega)).2 (by omega))⟩ (wp_and ⟨someN, ((n_in (by omega)).2 (by omega))⟩ ?_)))))
  refine wp_seq (play_l57 (N := N) (g := g) (H := H) (T := T) (k := k) hN hT eb hat hb hm0 hr k0 ok rfl) ?_
  rintro z (⟨e1, s', rfl, f1, f2⟩ | ⟨e1, s', rfl, f1, f2⟩)
  · unfold KOA_X0_play_57 KA_X0_play_57
    refine wp_ifn (show ¬ (1 : Nat) = 0 by decide) ?_
    have hm1 : cB s' r m := hm0.f f1.1 (by omega)
    have q := play_l116 (N := N) (g := g) (H := H) (T := T) (k1 := bEv b k (bg b 100)) hN hT eb hat hb hm1 hr f2 (bEv_ok ok hb hT _ (Nat.le_refl _)) e1 rfl
    have ep : pyP b 0 = evP b (bg b 100) := by unfold pyP; omega
    rw [ep] at q
    refine wp_seq q ?_
    rintro ⟨z1, z2⟩ ⟨h1, h2, h3⟩
    unfold KOA_X0_play_116 KA_X0_play_116
    have fin : cfr (fun x => x = o ∨ x = o + 1 ∨ x = o + 2) s z2 ∧ cI z2 5 o = nI 1 := ⟨(f0.trans f1.1).trans h2.1, (h2.2.trans f1.2).trans i5⟩
    rcases h1 with ⟨h1, h4⟩ | ⟨h1, h4⟩
    · have h4' : z1 = 1 := h4
      subst h4'
      refine wp_ifn (show ¬ (1 : Nat) = 0 by decide) (wp_fin trivial ⟨fin.1, fin.2, h3, ?_⟩)
      unfold bPl
      rw [h1]
      rfl
    · have h4' : z1 = 0 := h4
      subst h4'
      refine wp_ifp rfl (wp_fin trivial ⟨fin.1, fin.2, h3, ?_⟩)
      unfold bPl
      rw [h1]
      rfl
  · unfold KOA_X0_play_57 KA_X0_play_57
    have st := bPy_stop (b := b) (k := bEv b k (bg b 100)) (j := 0) e1 (bg b 99)
    rw [Nat.zero_add] at st
    have st' : bPl k b = bEv b k (bg b 100) := st
    rw [st', e1]
    exact wp_ifp rfl (wp_fin trivial ⟨f0.trans f1.1, f1.2.trans i5, f2, rfl⟩)
theorem va_cpy0 (x y : Nat → Int32) (n i : Nat) (h : i < n) : va_cpy x y 0 0 n i = x i := by
  unfold va_cpy
  rw [if_pos ⟨Nat.zero_le _, by omega⟩]
  simp
theorem mirror_c {a : Nat} (h : bkC s a k) (hd : a + 3 ≤ o ∨ o + 3 ≤ a) : wp (p_X0_mirror N g H T s o a) (k_X0_mirror N g H T s o a) (fun z => bkF o s z ∧ bkC z o k) := by
  show wp (KO_X0_mirror_0 N g H T o a s) (KF_X0_mirror_0 N g H T o a s) _
  unfold KO_X0_mirror_0 KF_X0_mirror_0 KO_X0_mirror_15 KF_X0_mirror_15 KO_X0_mirror_30 KF_X0_mirror_30
  have e16 : (nI 16).toNatClampNeg = 16 := rfl
  have e0 : (nI 0).toNatClampNeg = 0 := rfl
  rw [e16, e0]
  refine wp_and (by decide) (wp_and (by decide) (wp_fin trivial ⟨⟨?_, ?_⟩, fun i hi => ⟨?_, ?_⟩, ?_⟩))
  · exact ((cfr_A _ _ _).mono (fun a z => by omega)).trans (((cfr_A _ _ _).mono (fun a z => by omega)).trans ((cfr_I _ _ _ _).mono (fun a z => by omega)))
  · rw [cI_other _ _ (Or.inl (by decide))]
    rfl
  · rw [cA_I, cA_other _ _ (by omega), cA_same, va_cpy0 _ _ _ _ hi]
    exact (h.1 i hi).1
  · rw [cA_I, cA_same, va_cpy0 _ _ _ _ hi, cA_other _ _ (by omega)]
    exact (h.1 i hi).2
  · rw [cI_same]
    exact h.2
theorem isLike_c {a : Nat} {k' : Bk} (hN : 100 ≤ N) (h : bkC s o k) (h' : bkC s a k') (ok : bkOK k) (ok' : bkOK k') : p_X0_isLike N g H T s o a ∧ ((k_X0_isLike N g H T s o a = nI 1 ∧ agB k k') ∨ k_X0_isLike N g H T s o a = nI 0) := by
  show wp (KO_X0_isLike_0 N g H T o a s) (KF_X0_isLike_0 N g H T o a s) (fun v => (v = nI 1 ∧ agB k k') ∨ v = nI 0)
  unfold KO_X0_isLike_0 KF_X0_isLike_0
  refine wp_seq (Q := fun z : Nat × Nat × Nat × Unit => z.1 = 0 ∨ (z = (1, o, a, ()) ∧ ∀ i, i < 16 → k i = k' i ∧ k (16 + i) = k' (16 + i))) ?_ ?_
  · refine wp_loop (K := 16) (fun j (_ : Unit) => ∀ i, i < j → k i = k' i ∧ k (16 + i) = k' (16 + i)) (fun n j _ => KOL_X0_isLike_2 N g H T n o a (nI j) s) (fun n j _ => KL_X0_isLike_2 N g H T n o a (nI j) s) (fun n j x hj hI ih => ?_) 0 N () (by omega) (by omega) (fun i hi => absurd hi (by omega))
    unfold KOL_X0_isLike_2 KL_X0_isLike_2 KOB_X0_isLike_2 KB_X0_isLike_2
    by_cases c : j = 16
    · subst c
      refine wp_pos (by rw [n_le' (by omega) (by omega)]; omega) (wp_fin trivial (Or.inr ⟨rfl, hI⟩))
    have hj' : j < 16 := by omega
    have l1 := ok.le hj'
    have l2 := ok'.le hj'
    have l3 := ok.2.2.1 _ hj'
    have l4 := ok'.2.2.1 _ hj'
    rw [n_clamp (by omega), (h.1 j hj').1, (h.1 j hj').2, (h'.1 j hj').1, (h'.1 j hj').2, n_add]
    refine wp_neg (by rw [n_le' (by omega) (by omega)]; omega) (wp_and ((n_in (by omega)).2 (by omega)) (wp_and ((n_in (by omega)).2 (by omega)) (wp_ite (fun d => wp_and ((n_in (by omega)).2 (by omega)) (wp_and ((n_in (by omega)).2 (by omega)) (wp_ite (fun e => ?_) (fun e => ?_)))) (fun d => ?_))))
    · rw [iI_eq (by omega) (by omega) (by omega) (by omega)] at d e
      refine ih () (fun i hi => ?_) (by omega)
      by_cases f : i = j
      · rw [f]
        exact ⟨d, e⟩
      · exact hI i (by omega)
    · exact wp_fin trivial (Or.inl rfl)
    · exact wp_fin trivial (Or.inl rfl)
  · rintro ⟨z1, z2⟩ (hz | ⟨hz, hk⟩)
    · have hz' : z1 = 0 := hz
      subst hz'
      unfold KOA_X0_isLike_2 KA_X0_isLike_2
      exact wp_ifp rfl (wp_fin trivial (Or.inr rfl))
    · cases hz
      unfold KOA_X0_isLike_2 KA_X0_isLike_2 KO_X0_isLike_46 KF_X0_isLike_46
      refine wp_ifn (show ¬ (1 : Nat) = 0 by decide) (wp_ite (fun d => ?_) (fun d => ?_))
      · have d' : cI s 2 o = cI s 2 a := d
        rw [h.2, h'.2] at d'
        have l1 := finB_lt k
        have l2 := finB_lt k'
        have d2 : finB k = finB k' := n_inj (by omega) (by omega) d'
        refine wp_fin rfl (Or.inl ⟨rfl, fun i hi => ?_⟩)
        by_cases c1 : i < 16
        · exact (hk i c1).1
        · by_cases c2 : i < 32
          · have := (hk (i - 16) (by omega)).2
            rw [show 16 + (i - 16) = i by omega] at this
            exact this
          · have b1 := finB_bit k (i - 32)
            have b2 := finB_bit k' (i - 32)
            rw [d2, b2] at b1
            rw [show 32 + (i - 32) = i by omega] at b1
            have p1 := ok.2.2.2 (i - 32) (by omega)
            have p2 := ok'.2.2.2 (i - 32) (by omega)
            rw [show 32 + (i - 32) = i by omega] at p1 p2
            have hi2 : i - 32 < 16 := by omega
            rw [decide_eq_decide] at b1
            rcases p1 with p1 | p1 <;> rcases p2 with p2 | p2
            · rw [p1, p2]
            · exact absurd (b1.1 ⟨hi2, by rw [p2]; decide⟩).2 (by rw [p1]; simp)
            · exact absurd (b1.2 ⟨hi2, by rw [p1]; decide⟩).2 (by rw [p2]; simp)
            · rw [p1, p2]
      · exact wp_fin rfl (Or.inr rfl)
end
end

section
/-! THE CLASS: blocks and messages that are well formed -/
theorem oH {g H : Nat} : isO g H 2 (g + 3) := Or.inr (Or.inr (Or.inl ⟨rfl, rfl⟩))
theorem oF {g H : Nat} : isO g H 1 (g + 9) := Or.inr (Or.inl ⟨rfl, rfl⟩)
theorem oW {g H : Nat} : isO g H 8 (g + 8) := Or.inr (Or.inr (Or.inr (Or.inr (Or.inr (Or.inr (Or.inr (Or.inl ⟨rfl, rfl⟩)))))))
theorem oS {g H : Nat} : isO g H 7 (g + 11) := Or.inr (Or.inr (Or.inr (Or.inr (Or.inr (Or.inr (Or.inl ⟨rfl, rfl⟩))))))
section
variable {N u g H T r a : Nat} {s : cS} {R m b : List Nat}
theorem St.hL (h : St u g H T s) : hL s (g + 3) := ⟨h.rl (c := 2) (k := 0) oH rfl (by decide) (by omega), h.rl (c := 2) (k := 1) oH rfl (by decide) (by omega), h.rl (c := 2) (k := 3) oH rfl (by decide) (by omega)⟩
theorem St.dgL (h : St u g H T s) : cL s (g + 10) = 32 := h.rl (c := 1) (k := 2) (a := g + 9) oF rfl (by decide) (by omega)
theorem St.dgK (h : St u g H T s) : cK s (g + 10) = 20 := (h.rk (c := 1) (k := 2) (a := g + 9) oF rfl (by omega)) _ rfl
/-- the whole of a row -/
theorem St.row (h : St u g H T s) (hr : cK s r = 20) (hl : cL s r ≤ 3000) : cB s r (mkB (cL s r) (fun i => nb (cA s r i))) := by
  refine ⟨by rw [mkB_len]; exact Nat.le_refl _, hl, fun i hi => ?_, isB_mk fun i _ => (nb_spec _).1⟩
  rw [mkB_len] at hi
  rw [mkB_in hi]
  exact sb_nb (h.b8 hr i)
theorem cB.row (h : cB s r m) {i : Nat} (hi : i < m.length) : bg (mkB (cL s r) (fun i => nb (cA s r i))) i = bg m i := by
  rw [mkB_in (by have := h.1; omega), h.2.2.1 i hi]
  unfold nb
  rw [sb_and _ (h.2.2.2 i)]
  exact n_clamp (by have := h.2.2.2 i; omega)
def fiP (g x : Nat) : Prop := isH (g + 3) x ∨ x = g + 10
theorem evC_up (hl : m.length ≤ R.length) (hb : ∀ i, i < m.length → bg R i = bg m i) (h : evOK T m a) : evC R a R.length = evSz m a := by
  obtain ⟨h1, _, _, _, _, _, h7⟩ := h
  unfold evC evSz
  rw [hb (a + 5) (by omega), hb (a + 6) (by omega), hb (a + 38) (by omega)]
  rcases h7 with h7 | h7
  · rw [if_pos (by omega), if_neg (by omega)]; rfl
  · rw [if_neg (by omega), if_pos (by omega), if_pos (by omega)]; rfl
/-- the tree of a block's parts, on the digest's row -/
theorem rootC (hN : 2100 ≤ N) (hS : St u g H T s) (hr : cK s r = 20) (hrn : ¬ isH (g + 3) r) (hb : atR s r a R b) (hB : isB b) {d at_ : Nat} (hd : cK s d = 20) (hdn : ¬ isH (g + 3) d) (hat : at_ + 32 ≤ cL s d) (hdl : cL s d < 2000) {x2 : Option Nat} {x3 : Int32} (tx : tK s 20 x2) : ∃ s1 s2 s3, p_X2_plant N g H T s (g + 3) (some r) (nI a) ∧ k_X2_plant N g H T s (g + 3) (some r) (nI a) = s1 ∧ p_X2_climb N g H T s1 (g + 3) (-1) x2 x3 ∧ k_X2_climb N g H T s1 (g + 3) (-1) x2 x3 = (x3 - x3, s2) ∧ p_X2_top N g H T s2 (g + 3) (some d) (nI at_) ∧ k_X2_top N g H T s2 (g + 3) (some d) (nI at_) = s3 ∧ cfr (fun x => isH (g + 3) x ∨ x = d) s s3 ∧ (∀ i, i < 32 → cA s3 d (at_ + i) = sb (bg (rootP (partsB b)) i)) ∧ (∀ i, i < at_ ∨ at_ + 32 ≤ i → cA s3 d i = cA s d i) ∧ St u g H T s3 := by
  have hh := hS.hL
  obtain ⟨h100, h99⟩ : bg b 100 ≤ 2 ∧ bg b 99 ≤ 64 := ⟨hb.2.2.2.2.2.1, hb.2.2.2.2.2.2.1⟩
  have lp := partsB_len b
  obtain ⟨a1, a2, a3, a4⟩ := plant_ok (N := N) (g := g) (H := H) (T := T) (h := g + 3) (by omega) hh hrn hb
  obtain ⟨S1, S1m⟩ := kpc_X2_plant hS oH (tK_some hr) a1
  generalize k_X2_plant N g H T s (g + 3) (some r) (nI a) = s1 at a2 a3 a4 S1 S1m
  obtain ⟨b1, s2, b2, b3, b4, b5⟩ := climb_ok (N := N) (g := g) (H := H) (T := T) (h := g + 3) (S0 := s1) (m := (partsB b).length) (x2 := x2) (x3 := x3) (by omega) (hh.fr a2) (by omega) a3
  have S2 := kpc_X2_climb S1 oH (S1m.tK tx (by decide)) b1
  rw [b2] at S2
  have Ld : cL s2 d = cL s d := by rw [b3.L, a2.L]
  have d4 : d ≠ g + 3 + 4 := by unfold isH at hdn; omega
  obtain ⟨c1, row, c2, c3, c4⟩ := top_ok (N := N) (g := g) (H := H) (T := T) (s := s2) (h := g + 3) (d := d) (at_ := at_) (m := (partsB b).length) hN ((hh.fr a2).fr b3) b4 (by omega) d4 (by rw [Ld]; exact hat) (by rw [Ld]; exact hdl)
  have kd : cK s2 d = 20 := by
    show cK s2 d = 20
    rw [b3.1, a2.1]; exact hd
  have S3 := kpc_X2_top S2.1 oH (tK_some kd) c1
  rw [c2] at S3
  have fz : cfr (fun x => isH (g + 3) x ∨ x = d) s (csArow s2 d row) := ((a2.mono (fun x z => Or.inl z)).trans (b3.mono (fun x z => Or.inl z))).trans ((cfr_A _ _ _).mono (fun x z => Or.inr z))
  refine ⟨s1, s2, csArow s2 d row, a1, rfl, b1, b2, c1, c2, fz, fun i hi => ?_, fun i hi => ?_, S3.1⟩
  · refine S3.1.sb kd (rootP_B _ i) ?_
    rw [cA_same, c3 i hi, rootP_bg _ hi]
    by_cases e : (partsB b).length = 0
    · rw [if_pos e, if_pos e]
    · rw [if_neg e, if_neg e, b5 i hi]
      exact topL_congr _ _ _ (fun p k hp hk => a4 p k (by omega) hk) i hi
  · rw [cA_same, c4 i hi, b3.A d hdn, a2.A d hdn]
theorem blockFits_ok (hN : 2100 ≤ N) (hS : St u g H T s) (hT : cI s 1 (g + 9) = nI T) (hT2 : T ≤ 13) (hr : cK s r = 20) (hrn : ¬ fiP g r) (hm : cB s r m) (ha : a ≤ 6) (ha2 : a ≤ m.length) (hl : cL s r ≤ 1000) : wp (p_X1_blockFits N g H T s (g + 9) (some r) (nI a) (nI m.length)) (k_X1_blockFits N g H T s (g + 9) (some r) (nI a) (nI m.length)) (fun z => cfr (fiP g) s z.2 ∧ ((blkWf T (m.drop a) ∧ z.1 = nI 1) ∨ (¬ blkWf T (m.drop a) ∧ z.1 = nI 0))) := by
  have m1 := hm.1
  have h4 := hm.2.2.2
  have hld : (m.drop a).length = m.length - a := List.length_drop
  have eb : ∀ i, bg (m.drop a) i = bg m (a + i) := fun i => bg_drop _ _ _
  have hB : isB (m.drop a) := isB_drop h4 a
  obtain ⟨b, eqb⟩ : ∃ b, b = m.drop a := ⟨_, rfl⟩
  rw [← eqb] at hld eb hB ⊢
  have t2 := hB 2
  have t99 := hB 99
  have t100 := hB 100
  have no : ∀ {s' : cS}, cfr (fiP g) s s' → ¬ blkWf T b → cfr (fiP g) s ((nI 0 : Int32), s').2 ∧ ((blkWf T b ∧ ((nI 0 : Int32), s').1 = nI 1) ∨ (¬ blkWf T b ∧ ((nI 0 : Int32), s').1 = nI 0)) := fun x q => ⟨x, Or.inr ⟨q, rfl⟩⟩
  have rh : ¬ isH (g + 3) r := fun z => hrn (Or.inl z)
  show wp (KO_X1_blockFits_0 N g H T (g + 9) (some r) (nI a) (nI m.length) s) (KF_X1_blockFits_0 N g H T (g + 9) (some r) (nI a) (nI m.length) s) _
  unfold KO_X1_blockFits_0 KF_X1_blockFits_0
  rw [n_sub ha2, zsome r, hT]
  simp only [n_add]
  refine wp_ite (fun c => ?_) (fun c => ?_) <;> rw [n_lt' (by omega) (by omega)] at c
  · exact wp_fin trivial (no cfr.refl fun q => by have := q.1; omega)
  rw [hm.an (a := a + 2) (by omega), hm.an (a := a + 99) (by omega), hm.an (a := a + 100) (by omega), ← eb, ← eb, ← eb]
  have etw : tw m a = tw b 0 := by
    unfold tw
    rw [eb 0, eb (0 + 1)]
    rfl
  obtain ⟨u1, u2⟩ := heightFits_ok (N := N) (g := g) (H := H) (T := T) (a := a) hm (by omega)
  rw [etw] at u2
  refine wp_and u1 ?_
  rcases u2 with ⟨u2, u3⟩ | ⟨u2, u3⟩ <;> rw [u3]
  rotate_left
  · exact wp_pos rfl (wp_fin trivial (no cfr.refl fun q => u2 q.2.1))
  refine wp_neg (by decide) (wp_and ⟨someN, ((n_in (by omega)).2 (by omega))⟩ (wp_ite (fun c2 => ?_) (fun c2 => ?_))) <;> rw [n_lt' (by omega) (by omega)] at c2
  rotate_left
  · exact wp_fin trivial (no cfr.refl fun q => by have := q.2.2.1; omega)
  refine wp_and ⟨someN, ((n_in (by omega)).2 (by omega))⟩ (wp_and ⟨someN, ((n_in (by omega)).2 (by omega))⟩ (wp_ite (fun c3 => ?_) (fun c3 => ?_))) <;> rw [n_lt' (by omega) (by omega)] at c3
  · exact wp_fin trivial (no cfr.refl fun q => by have := q.2.2.2.1; omega)
  refine wp_ite (fun c4 => ?_) (fun c4 => ?_) <;> rw [n_le' (by omega) (by omega)] at c4
  rotate_left
  · exact wp_fin trivial (no cfr.refl fun q => by have := q.2.2.2.2.1; omega)
  have hEP := evP_le b
  refine wp_seq (Q := fun z : Nat × Nat × Option Nat × Int32 × Int32 × Int32 × Int32 × cS => (z.1 = 0 ∧ z.2.2.2.2.2.2.2 = s ∧ ¬ blkWf T b) ∨ (z = (1, g + 9, some r, nI a, nI m.length, nI (bg b 99), nI (a + evP b (bg b 100)), s) ∧ (∀ k, k < bg b 100 → evOK T b (evP b k)) ∧ a + evP b (bg b 100) ≤ m.length)) ?_ ?_
  · refine wp_loop (K := bg b 100) (fun j (_ : Unit) => (∀ k, k < j → evOK T b (evP b k)) ∧ a + evP b j ≤ m.length) (fun n j _ => KOL_X1_blockFits_82 N g H T n (g + 9) (some r) (nI a) (nI m.length) (nI (bg b 99)) (nI (bg b 100)) (nI (a + evP b j)) (nI j) s) (fun n j _ => KL_X1_blockFits_82 N g H T n (g + 9) (some r) (nI a) (nI m.length) (nI (bg b 99)) (nI (bg b 100)) (nI (a + evP b j)) (nI j) s) (fun n j u' hj hI ih => ?_) 0 N () (by omega) (by omega) ⟨fun k hk => absurd hk (by omega), by show a + 101 ≤ _; omega⟩
    unfold KOL_X1_blockFits_82 KL_X1_blockFits_82 KOB_X1_blockFits_82 KB_X1_blockFits_82
    by_cases e : j = bg b 100
    · refine wp_pos (by rw [n_le' (by omega) (by omega)]; omega) ?_
      subst e
      exact wp_fin trivial (Or.inr ⟨rfl, hI.1, hI.2⟩)
    · obtain ⟨d1, d2⟩ := ev_drop (T := T) (m := m) (a := a) (by omega) (evP b j) hI.2
      rw [← eqb] at d1 d2
      have sz := evSz_le b (evP b j)
      have pj := hEP j
      obtain ⟨v1, v2⟩ := evidenceFits_ok (N := N) (g := g) (H := H) (T := T) (a := a + evP b j) hm hT hT2 (by omega) (by omega)
      refine wp_neg (by rw [n_le' (by omega) (by omega)]; omega) (wp_and v1 ?_)
      rcases v2 with ⟨v2, v3⟩ | ⟨v2, v3⟩ <;> rw [v3]
      · have hev := d1.1 v2
        have hend := v2.end_
        rw [d2, n_add]
        refine wp_pos (n_0le (by omega)) ?_
        have := ih () ⟨fun k hk => by
          by_cases e2 : k = j
          · rw [e2]; exact hev
          · exact hI.1 k (by omega), by show a + (evP b j + evSz b (evP b j)) ≤ _; omega⟩ (by omega)
        rw [Nat.add_assoc]
        exact this
      · exact wp_neg (by decide) (wp_fin trivial (Or.inl ⟨rfl, rfl, fun q => v2 (d1.2 (q.2.2.2.2.2.1 j (by omega)))⟩))
  rintro z (⟨z0, z1, z2⟩ | ⟨z0, z1, z2⟩)
  · unfold KOA_X1_blockFits_82 KA_X1_blockFits_82
    rw [if_pos z0, if_pos z0, z1]
    exact wp_fin trivial (no cfr.refl z2)
  rw [z0]
  show wp (KO_X1_blockFits_112 N g H T (g + 9) (some r) (nI a) (nI m.length) (nI (bg b 99)) (nI (a + evP b (bg b 100))) s) (KF_X1_blockFits_112 N g H T (g + 9) (some r) (nI a) (nI m.length) (nI (bg b 99)) (nI (a + evP b (bg b 100))) s) _
  unfold KO_X1_blockFits_112 KF_X1_blockFits_112
  rw [n_sub z2, n_mul]
  have ep : ∀ k, pyP b k = evP b (bg b 100) + 7 * k := fun k => rfl
  have ep9 := ep (bg b 99)
  refine wp_ite (fun c5 => ?_) (fun c5 => ?_) <;> rw [n_eq' (by omega) (by omega)] at c5
  rotate_left
  · exact wp_fin trivial (no cfr.refl fun q => by have := q.2.2.2.2.2.2.2.1; omega)
  refine wp_seq (Q := fun z : Nat × Nat × Option Nat × Int32 × cS => (z.1 = 0 ∧ z.2.2.2.2 = s ∧ ¬ blkWf T b) ∨ (z = (1, g + 9, some r, nI a, s) ∧ ∀ k, k < bg b 99 → payOK b (pyP b k))) ?_ ?_
  · refine wp_loop (K := bg b 99) (fun j (_ : Unit) => ∀ k, k < j → payOK b (pyP b k)) (fun n j _ => KOL_X1_blockFits_129 N g H T n (g + 9) (some r) (nI a) (nI (bg b 99)) (nI (a + evP b (bg b 100))) (nI j) s) (fun n j _ => KL_X1_blockFits_129 N g H T n (g + 9) (some r) (nI a) (nI (bg b 99)) (nI (a + evP b (bg b 100))) (nI j) s) (fun n j u' hj hI ih => ?_) 0 N () (by omega) (by omega) (fun k hk => absurd hk (by omega))
    unfold KOL_X1_blockFits_129 KL_X1_blockFits_129 KOB_X1_blockFits_129 KB_X1_blockFits_129
    by_cases e : j = bg b 99
    · refine wp_pos (by rw [n_le' (by omega) (by omega)]; omega) ?_
      subst e
      exact wp_fin trivial (Or.inr ⟨rfl, hI⟩)
    · have d1 := pay_drop (m := m) (a := a) (pyP b j) (by omega)
      rw [← eqb] at d1
      have epj := ep j
      obtain ⟨v1, v2⟩ := paymentFits_ok (N := N) (g := g) (H := H) (T := T) (a := a + pyP b j) hm (by omega)
      simp only [n_mul, n_add]
      rw [show a + evP b (bg b 100) + j * 7 = a + pyP b j by omega]
      refine wp_neg (by rw [n_le' (by omega) (by omega)]; omega) (wp_and v1 ?_)
      rcases v2 with ⟨v2, v3⟩ | ⟨v2, v3⟩ <;> rw [v3]
      · refine wp_neg (by decide) (ih () (fun k hk => ?_) (by omega))
        by_cases e2 : k = j
        · rw [e2]; exact d1.1 v2
        · exact hI k (by omega)
      · exact wp_pos rfl (wp_fin trivial (Or.inl ⟨rfl, rfl, fun q => v2 (d1.2 (q.2.2.2.2.2.2.1 j (by omega)))⟩))
  rintro z (⟨y0, y1, y2⟩ | ⟨y0, y1⟩)
  · unfold KOA_X1_blockFits_129 KA_X1_blockFits_129
    rw [if_pos y0, if_pos y0, y1]
    exact wp_fin trivial (no cfr.refl y2)
  rw [y0]
  show wp (KO_X1_blockFits_159 N g H T (g + 9) (some r) (nI a) s) (KF_X1_blockFits_159 N g H T (g + 9) (some r) (nI a) s) _
  have hRw := hS.row hr (by omega)
  have hRb : ∀ i, i < m.length → bg (mkB (cL s r) (fun i => nb (cA s r i))) i = bg m i := fun i hi => hm.row hi
  have hat : atR s r a (mkB (cL s r) (fun i => nb (cA s r i))) b := by
    refine ⟨hRw, mkB_len _ _, by rw [mkB_len]; omega, fun i hi => by rw [hRb _ (by omega), eb], (by omega), (by omega), (by omega), (by omega), fun k hk => ?_⟩
    obtain ⟨d1, d2⟩ := ev_drop (T := T) (m := m) (a := a) (by omega) (evP b k) (by have := hEP k; have := (z1 k hk).1; omega)
    rw [← eqb] at d1 d2
    rw [← d2]
    exact evC_up (by rw [mkB_len]; exact m1) hRb (d1.2 (z1 k hk))
  obtain ⟨s1, s2, s3, p1, e1, p2, e2, p3, e3, f3, r3, -, S3⟩ := rootC (N := N) (d := g + 10) (at_ := 0) (x2 := some (g + 9 + 1)) (x3 := nI 0) hN hS hr rh hat hB hS.dgK (by unfold isH; omega) (by rw [hS.dgL]; decide) (by rw [hS.dgL]; decide) (tK_some hS.dgK)
  unfold KO_X1_blockFits_159 KF_X1_blockFits_159
  rw [e1]
  refine wp_and p1 ?_
  unfold KO_X1_blockFits_168 KF_X1_blockFits_168
  rw [e2]
  refine wp_and p2 ?_
  unfold KO_X1_blockFits_181 KF_X1_blockFits_181
  rw [show k_X2_top N g H T s2 (g + 3) (some (g + 9 + 1)) (nI 0) = s3 from e3]
  refine wp_and p3 ?_
  unfold KO_X1_blockFits_194 KF_X1_blockFits_194
  have hd : cB s3 (g + 10) (rootP (partsB b)) := by
    refine ⟨by rw [rootP_len, f3.L, hS.dgL]; exact Nat.le_refl _, by rw [f3.L, hS.dgL]; decide, fun i hi => ?_, rootP_B _⟩
    rw [rootP_len] at hi
    have := r3 i hi
    rw [Nat.zero_add] at this
    exact this
  have hm3 : cB s3 r m := hm.fr f3 (fun z => hrn z)
  obtain ⟨w1, w2⟩ := sameBytes_ok (N := N) (g := g) (H := H) (T := T) (p := 0) (q := a + 67) (n := 32) hd hm3 (by omega) (by rw [rootP_len]; exact Nat.le_refl _) (by omega)
  rw [n_add]
  have fin : cfr (fiP g) s s3 := f3
  have hiff : blkWf T b ↔ ∀ i, i < 32 → bg (rootP (partsB b)) (0 + i) = bg m (a + 67 + i) := by
    constructor
    · intro q i hi
      rw [Nat.zero_add, ← q.2.2.2.2.2.2.2.2 i hi, eb, Nat.add_assoc]
    · intro q
      refine ⟨(by omega), u2, (by omega), (by omega), (by omega), z1, y1, (by omega), fun i hi => ?_⟩
      have := q i hi
      rw [Nat.zero_add, Nat.add_assoc, ← eb] at this
      exact this.symm
  rcases w2 with ⟨w2, w3⟩ | ⟨w2, w3⟩
  · have w3' : k_X11_sameBytes N g H T s3 (some (g + 9 + 1)) (nI 0) (some r) (nI (a + 67)) (nI 32) = nI 1 := w3
    rw [w3']
    exact wp_fin ⟨w1, rfl⟩ ⟨fin, Or.inl ⟨hiff.2 w2, rfl⟩⟩
  · have w3' : k_X11_sameBytes N g H T s3 (some (g + 9 + 1)) (nI 0) (some r) (nI (a + 67)) (nI 32) = nI 0 := w3
    rw [w3']
    exact wp_fin ⟨w1, rfl⟩ ⟨fin, Or.inr ⟨fun q => w2 (hiff.1 q), rfl⟩⟩
end
end

section
/-! THE REFERENCE IS MADE: its nodes begin -/
noncomputable def aIni (T F : Nat) : Nat → Wd
  | 0 => w00
  | n + 1 => aRules (aBegin (aIni T F n) n T 0) n T F
section
variable {N n F H T : Nat} {S : rS} {w : Wd}
theorem w00_v (n : Nat) : wN w00 n 1 = 1 ∧ wN w00 n 2 = 0 ∧ wN w00 n 4 = -1 ∧ wN w00 n 5 = -1 ∧ wN w00 n 12 = 0 ∧ wN w00 n 15 = 0 ∧ wN w00 n 17 = 0 := ⟨rfl, rfl, rfl, rfl, rfl, rfl, rfl⟩
theorem aIni_o : ∀ j m, j ≤ m → wN (aIni T F j) m = wN w00 m ∧ wP (aIni T F j) m = [] ∧ wY (aIni T F j) m = wY w00 m ∧ wX (aIni T F j) m = wX w00 m
  | 0, m, _ => ⟨rfl, rfl, rfl, rfl⟩
  | j + 1, m, h => by
    have f : wfr j (aIni T F j) (aRules (aBegin (aIni T F j) j T 0) j T F) := wfr.begin.trans wfr.rules
    obtain ⟨a, b, c, d⟩ := f.1 m (by omega)
    obtain ⟨e1, e2, e3, e4⟩ := aIni_o j m (by omega)
    exact ⟨a.trans e1, c.trans e2, b.trans e3, d.trans e4⟩
theorem aIni_T : ∀ j, wT (aIni T F j) = 0 ∧ wL (aIni T F j) = []
  | 0 => ⟨rfl, rfl⟩
  | j + 1 => by
    have f : wfr j (aIni T F j) (aRules (aBegin (aIni T F j) j T 0) j T F) := wfr.begin.trans wfr.rules
    exact ⟨f.2.1.trans (aIni_T j).1, f.2.2.1.trans (aIni_T j).2⟩
theorem AI.rules (h : AI F H T w) (hn : n < H) (h9 : wT w < 900000) : AI F H T (aRules w n T F) := by
  have c4 : H ≤ T := by
    obtain ⟨⟨⟨G, g⟩, _⟩, _⟩ := h
    exact g.1.2.2.2.1
  refine h.node hn c4 (h.1.rules hn) wfr.rules kfr.rules ?_
  by_cases up : wN w n 0 = 1
  · exact (h.2.2 n hn).tfr (tfr.rules h.1 hn) up (Int.le_refl _) h9
  · unfold aRules
    rw [decide_eq_false up, aRuns_no]
    exact h.2.2 n hn
theorem AI_ini (c : cst F H T) : ∀ j, j ≤ H → AI F H T (aIni T F j) ∧ (j < H → AI F H T (aBegin (aIni T F j) j T 0))
  | j, hj => by
    have main : AI F H T (aIni T F j) := by
      cases j with
      | zero => exact w00_AI c
      | succ j =>
        have a := (AI_ini c j (by omega)).2 (by omega)
        refine a.rules (by omega) ?_
        rw [(wfr.begin (n := j) (w := aIni T F j) (T := T) (r := 0)).2.1, (aIni_T j).1]
        decide
    refine ⟨main, fun hj2 => ?_⟩
    obtain ⟨e1, e2, e3, e4⟩ := aIni_o (T := T) (F := F) j j (Nat.le_refl _)
    have e9 := (aIni_T (T := T) (F := F) j).1
    generalize aIni T F j = w at main e1 e9 ⊢
    obtain ⟨G, g⟩ := main.1.1
    have gk := main.1.2 j hj2
    have v := g.begin (r := 0) gk hj2 (by decide) (Or.inr ⟨by rw [e1]; rfl, rfl, by rw [e1]; rfl, by rw [e1]; rfl⟩) (by rw [e1]; have := w00_v j; omega) (by rw [e1]; have := w00_v j; omega)
    refine main.node hj2 c.2.2.2.1 ⟨v.1, fun m hm => ?_⟩ wfr.begin kfr.begin ?_
    · by_cases e : m = j
      · rw [e]; exact v.2.1
      · rw [((wfr.begin (n := j) (w := w) (T := T) (r := 0)).1 m e).1]
        exact main.1.2 m hm
    · exact (main.2.2 j hj2).tfr (tfr.begin (by decide)) (by rw [e1]; rfl) (Int.le_refl _) (by rw [e9]; decide)
theorem init_l752 (hN : 6000 ≤ N) (c : cst F H T) (h : rRp F H T S w00) : wp (OL_init_752 N N (nI 0) S) (L_init_752 N N (nI 0) S) (fun z => rRp F H T z.2 (aIni T F H)) := by
  have cb := c.b
  have c4 := c.2.2.2.1
  refine wp_loop (K := T) (fun j y => rRp F H T y (aIni T F (if j < H then j else H))) (fun q j y => OL_init_752 N q (nI j) y) (fun q j y => L_init_752 N q (nI j) y) (fun q j y hj hI ih => ?_) 0 N S (by omega) (by omega) ?_
  rotate_left
  · by_cases e : 0 < H
    · rw [if_pos e]; exact h
    · have e0 : aIni T F H = w00 := by rw [show H = 0 by omega]; rfl
      rw [if_neg e, e0]; exact h
  unfold OL_init_752 L_init_752 OB_init_752 B_init_752
  rw [hI.co.2.1]
  by_cases e : j = T
  · refine wp_pos (by rw [n_le' (by omega) (by omega)]; omega) ?_
    rw [if_neg (by omega)] at hI
    exact wp_fin trivial hI
  refine wp_neg (by rw [n_le' (by omega) (by omega)]; omega) ?_
  obtain ⟨v1, v2⟩ := honest_v (N := N) (S := y) (H := H) (j := j) cb.1 c4 hI.co.2.1 hI.co.2.2.2.1 (by omega)
  rw [v2]
  refine wp_and v1 ?_
  by_cases d : j < H
  · rw [if_pos d] at hI ⊢
    obtain ⟨e1, e2, e3, e4⟩ := aIni_o (T := T) (F := F) j j (Nat.le_refl _)
    have a := AI_ini c j (by omega)
    have q0 : wN (aIni T F j) j 0 = 1 := by rw [e1]; rfl
    refine wp_neg (by decide) (wp_call (begin_ok (r := 0) (i := 0) (by omega) hI d (by decide) (by rw [e1]; have := w00_v j; omega) (by rw [e1]; have := w00_v j; omega) (by rw [e1]; have := w00_v j; omega) (by rw [e1]; have := w00_v j; omega) (by rw [e1]; rfl) (by decide) (fun q hq => by rw [e2] at hq; exact absurd hq (by simp)) (fun i y hi => absurd hi (by omega))) (fun z => ?_))
    unfold O_init_777 F_init_777
    refine wp_call (rules_ok hN z (a.2 d).1 d) (fun z2 => ?_)
    unfold O_init_782 F_init_782
    rw [n_add]
    refine ih _ ?_ (by omega)
    by_cases g : j + 1 < H
    · rw [if_pos g]; exact z2
    · have e0 : aIni T F H = aRules (aBegin (aIni T F j) j T 0) j T F := by rw [show H = j + 1 by omega]; rfl
      rw [if_neg g, e0]
      exact z2
  · rw [if_neg d] at hI ⊢
    refine wp_pos rfl ?_
    unfold O_init_782 F_init_782
    rw [n_add]
    refine ih _ ?_ (by omega)
    rw [if_neg (by omega)]
    exact hI
theorem init_634 (hN : 6000 ≤ N) (c : cst F H T) (h0 : rfr [0, 1] rZ S) (h1 : S.1 0 = nI T) (h2 : S.1 1 = nI F) : wp (O_init_634 N (nI (T - H)) S) (F_init_634 N (nI (T - H)) S) (fun S' => rRp F H T S' (aIni T F H)) := by
  have cb := c.b
  unfold O_init_634 F_init_634
  obtain ⟨p1, p2, p3⟩ := primes_ok (N := N) (S := rsI S 2 (nI (T - H))) (by omega)
  refine wp_and p1 ?_
  have f1 : rfr [0, 1, 2, 10, 11] rZ (f_primes N (rsI S 2 (nI (T - H)))) := ((h0.mono (by decide)).trans (rfr.oneI (by decide))).trans (p2.mono (by decide))
  have i0 : (f_primes N (rsI S 2 (nI (T - H)))).1 0 = nI T := by
    rw [p2.i 0 (by decide), (rfr.oneI (L := [2]) (S := S) (by decide)).i 0 (by decide)]
    exact h1
  have i1 : (f_primes N (rsI S 2 (nI (T - H)))).1 1 = nI F := by
    rw [p2.i 1 (by decide), (rfr.oneI (L := [2]) (S := S) (by decide)).i 1 (by decide)]
    exact h2
  have i2 : (f_primes N (rsI S 2 (nI (T - H)))).1 2 = nI (T - H) := by
    rw [p2.i 2 (by decide), I_same]
  generalize f_primes N (rsI S 2 (nI (T - H))) = S1 at f1 i0 i1 i2 p3 ⊢
  unfold O_init_641 F_init_641
  have f2 : rfr [25] S1 (rsI S1 25 (nI 1000)) := rfr.oneI (by decide)
  have i25 : (rsI S1 25 (nI 1000)).1 25 = nI 1000 := I_same _ _ _
  generalize rsI S1 25 (nI 1000) = S2 at f2 i25 ⊢
  refine wp_seq (Q := fun z : Nat × rS => rfr [26] S2 z.2 ∧ ∀ i, i < 1000 → z.2.2.1 26 i = nI i) ?_ ?_
  · refine wp_loop (K := 1000) (fun j y => rfr [26] S2 y ∧ ∀ i, i < j → y.2.1 26 i = nI i) (fun q j y => OL_init_650 N q (nI j) y) (fun q j y => L_init_650 N q (nI j) y) (fun q j y hj hI ih => ?_) 0 N S2 (by omega) (by omega) ⟨rfr.refl, fun i hi => absurd hi (by omega)⟩
    unfold OL_init_650 L_init_650 OB_init_650 B_init_650
    by_cases e : j = 1000
    · refine wp_pos (by rw [n_le' (by omega) (by omega)]; omega) ?_
      subst e
      exact wp_fin trivial hI
    rw [n_clamp (by omega), n_add]
    refine wp_neg (by rw [n_le' (by omega) (by omega)]; omega) (wp_and ((n_in (by omega)).2 (by omega)) (ih _ ⟨hI.1.trans (rfr.one (by decide)), fun i hi => ?_⟩ (by omega)))
    rw [A_same]
    by_cases g : i = j
    · rw [g, upd_same]
    · rw [upd_other _ _ g]
      exact hI.2 i (by omega)
  rintro z ⟨z1, z2⟩
  show wp (O_init_670 N z.2) (F_init_670 N z.2) _
  generalize z.2 = S3 at z1 z2 ⊢
  have f3 : rfr [0, 1, 2, 10, 11, 25, 26] rZ S3 := (f1.mono (by decide)).trans ((f2.mono (by decide)).trans (z1.mono (by decide)))
  unfold O_init_670 F_init_670
  have j0 : S3.1 0 = nI T := by rw [z1.i 0 (by decide), f2.i 0 (by decide)]; exact i0
  have j1 : S3.1 1 = nI F := by rw [z1.i 1 (by decide), f2.i 1 (by decide)]; exact i1
  have j2 : S3.1 2 = nI (T - H) := by rw [z1.i 2 (by decide), f2.i 2 (by decide)]; exact i2
  refine wp_seq (init_l672 (by omega) cb.1 c.2.2.2.1 j0 j2 (fun x => by rw [f3.a 14 (by decide)]; rfl)) ?_
  intro v hv
  show wp (O_init_750 N v.2) (F_init_750 N v.2) _
  have R := w00_rp c f3 j0 j1 j2 ((p3.fr f2 (by decide) (by decide)).fr z1 (by decide) (by decide)) (by rw [z1.i 25 (by decide)]; exact i25) z2 hv
  unfold O_init_750 F_init_750
  refine wp_seq (init_l752 hN c R) ?_
  intro u hu
  exact wp_fin trivial hu
theorem iFLH (x1 x2 : Int32) : cst (iF x1) (iH x1 x2) (iT x1) ∧ iT x1 - iH x1 x2 = iL x1 x2 := by
  have a : 1 ≤ iF x1 ∧ iF x1 ≤ 4 := by
    unfold iF
    split
    · rename_i c
      have : (x1.toNatClampNeg : Int) = x1.toInt := Int.toNat_of_nonneg (by omega)
      omega
    · decide
  have b : iL x1 x2 ≤ iF x1 := by
    unfold iL
    split
    · rename_i c
      have : (x2.toNatClampNeg : Int) = x2.toInt := Int.toNat_of_nonneg (by omega)
      omega
    · omega
  unfold cst iH iT
  omega
theorem init_ok {x1 x2 : Int32} (hN : 6000 ≤ N) : wp (o_init N x1 x2) (f_init N x1 x2) (fun S' => rRp (iF x1) (iH x1 x2) (iT x1) S' (aIni (iT x1) (iF x1) (iH x1 x2))) := by
  obtain ⟨c, tl⟩ := iFLH x1 x2
  have cb := c.b
  have c1 := c.1
  have c2 := c.2.1
  have c3 := c.2.2.1
  show wp (O_init_585 N x1 x2 rZ) (F_init_585 N x1 x2 rZ) _
  have fin : ∀ s : Int32, s = nI (iF x1) → wp (O_init_601 N x2 s rZ) (F_init_601 N x2 s rZ) (fun S' => rRp (iF x1) (iH x1 x2) (iT x1) S' (aIni (iT x1) (iF x1) (iH x1 x2))) := fun s es => by
    rw [es]
    unfold O_init_601 F_init_601
    rw [I_same, n_mul, n_add]
    have f0 : rfr [0, 1] rZ (rsI (rsI rZ 1 (nI (iF x1))) 0 (nI (3 * iF x1 + 1))) := (rfr.oneI (by decide)).trans (rfr.oneI (by decide))
    have i0 : (rsI (rsI rZ 1 (nI (iF x1))) 0 (nI (3 * iF x1 + 1))).1 0 = nI (iT x1) := I_same _ _ _
    have i1 : (rsI (rsI rZ 1 (nI (iF x1))) 0 (nI (3 * iF x1 + 1))).1 1 = nI (iF x1) := by
      rw [(rfr.oneI (L := [0]) (S := rsI rZ 1 (nI (iF x1))) (by decide)).i 1 (by decide), I_same]
    generalize rsI (rsI rZ 1 (nI (iF x1))) 0 (nI (3 * iF x1 + 1)) = S0 at f0 i0 i1 ⊢
    have go : ∀ s : Int32, s = nI (iL x1 x2) → wp (O_init_634 N s S0) (F_init_634 N s S0) (fun S' => rRp (iF x1) (iH x1 x2) (iT x1) S' (aIni (iT x1) (iF x1) (iH x1 x2))) := fun s es => by
      rw [es, ← tl]
      exact init_634 hN c f0 i0 i1
    unfold O_init_616 F_init_616 O_init_633 F_init_633
    refine wp_ite (fun d => go _ ?_) (fun d => ?_)
    · have : iL x1 x2 = 0 := by
        rw [Int32.lt_iff_toInt_lt] at d
        have d : x2.toInt < 0 := d
        unfold iL
        rw [if_neg (by omega)]
      rw [this]
    obtain ⟨k, k1, k2⟩ := i_nat d
    have t2 : x2.toInt = k := by
      rw [k2, ← iI_n, iI_toInt (by omega) (by omega)]
    rw [i1]
    have q : nI (iF x1) < x2 ↔ iF x1 < k := by rw [k2, n_lt' (by omega) k1]
    refine wp_ite (fun g => go _ ?_) (fun g => go _ ?_) <;> rw [q] at g
    · have : iL x1 x2 = 0 := by
        unfold iL
        rw [if_neg (by omega)]
      rw [this]
    · have : iL x1 x2 = k := by
        unfold iL
        rw [if_pos (by omega), k2, n_clamp k1]
      rw [this, k2]
  unfold O_init_585 F_init_585 O_init_600 F_init_600
  have t1 : (nI 1).toInt = 1 := rfl
  have t4 : (nI 4).toInt = 4 := rfl
  refine wp_ite (fun d => fin _ ?_) (fun d => ?_)
  · have : iF x1 = 1 := by
      rw [Int32.lt_iff_toInt_lt, t1] at d
      unfold iF
      rw [if_neg (by omega)]
    rw [this]
  rw [Int32.lt_iff_toInt_lt, t1] at d
  refine wp_ite (fun g => fin _ ?_) (fun g => fin _ ?_) <;> rw [Int32.lt_iff_toInt_lt, t4] at g
  · have : iF x1 = 1 := by
      unfold iF
      rw [if_neg (by omega)]
    rw [this]
  · obtain ⟨k, k1, k2⟩ := i_nat (x := x1) (fun z => by
      rw [Int32.lt_iff_toInt_lt] at z
      have z : x1.toInt < 0 := z
      omega)
    have : iF x1 = k := by
      unfold iF
      rw [if_pos (by omega), k2, n_clamp k1]
    rw [this, ← k2]
end
end

section
/-! THE REFERENCE: timers end; nodes fall, are cut -/
theorem i_nat {x : Int32} (h : ¬ x < 0) : ∃ k : Nat, k < 2147483648 ∧ x = nI k := by
  rw [Int32.lt_iff_toInt_lt] at h
  have h0 : (0 : Int32).toInt = 0 := rfl
  rw [h0] at h
  have l := Int32.toInt_lt x
  refine ⟨x.toInt.toNat, by omega, ?_⟩
  rw [← iI_n, Int.toNat_of_nonneg (by omega)]
  exact (Int32.ofInt_toInt x).symm
def aEnd (w : Wd) (n T t : Nat) : Wd := if t = 0 then (if wN w n 3 = 0 then (aVote w n T 2 1 none).2 else w) else if t = 1 then (if wN w n 3 = 1 then (aVote w n T 3 2 none).2 else w) else (if wN w n 2 < 15 then aBegin w n T ((wN w n 2).toNat + 1) else w)
noncomputable def aTk1 (T F n : Nat) (x : Nat × Wd) (t : Nat) : Nat × Wd := if wN x.2 n 0 = 1 ∧ wN x.2 n (9 + t) ≠ -1 ∧ wN x.2 n (9 + t) ≤ wT x.2 then (x.1 + 1, aRules (aEnd (sN x.2 n (9 + t) (-1)) n T t) n T F) else x
noncomputable def aTk3 (T F n : Nat) (x : Nat × Wd) : Nat → Nat × Wd
  | 0 => x
  | t + 1 => aTk1 T F n (aTk3 T F n x t) t
noncomputable def aTkN (T F : Nat) (x : Nat × Wd) : Nat → Nat × Wd
  | 0 => x
  | n + 1 => aTk3 T F n (aTkN T F x n) 3
noncomputable def aTick (w : Wd) (H T F : Nat) : Nat × Wd := aTkN T F (0, sT w (wT w + 1)) H
section
variable {N n F H T t : Nat} {S : rS} {w : Wd}
theorem isHonest_ok (h : rRp F H T S w) {x : Int32} : o_isHonest N S x ∧ ((∃ k, k < H ∧ x = nI k ∧ f_isHonest N S x = nI 1) ∨ ((¬ ∃ k, k < H ∧ x = nI k) ∧ f_isHonest N S x = nI 0)) := by
  have cb := h.1.1.b
  have c4 := h.1.1.2.2.2.1
  show wp (O_isHonest_0 N x S) (F_isHonest_0 N x S) (fun v => (∃ k, k < H ∧ x = nI k ∧ v = nI 1) ∨ ((¬ ∃ k, k < H ∧ x = nI k) ∧ v = nI 0))
  unfold O_isHonest_0 F_isHonest_0
  rw [h.co.2.1, h.co.2.2.2.1, n_sub (by omega), show T - (T - H) = H by omega]
  have no : (¬ ∃ k, k < H ∧ x = nI k) → wp (O_isHonest_21 N S) (F_isHonest_21 N S) (fun v => (∃ k, k < H ∧ x = nI k ∧ v = nI 1) ∨ ((¬ ∃ k, k < H ∧ x = nI k) ∧ v = nI 0)) := fun g => by
    unfold O_isHonest_21 F_isHonest_21 O_isHonest_22 F_isHonest_22
    exact wp_fin rfl (Or.inr ⟨g, rfl⟩)
  refine wp_ite (fun c => ?_) (fun c => ?_)
  · exact no (fun ⟨k, k1, k2⟩ => n_lt0 (show k < 2147483648 by omega) (by rw [← k2]; exact c))
  obtain ⟨k, k1, k2⟩ : ∃ k : Nat, k < 2147483648 ∧ x = nI k := i_nat c
  rw [k2]
  refine wp_ite (fun d => ?_) (fun d => ?_) <;> rw [n_le' (by omega) k1] at d
  · have := no (fun ⟨j, j1, j2⟩ => by rw [k2, n_eq' k1 (by omega)] at j2; omega)
    rw [k2] at this
    exact this
  · unfold O_isHonest_22 F_isHonest_22
    exact wp_fin rfl (Or.inl ⟨k, (by omega), rfl, rfl⟩)
theorem isUp_ok (h : rRp F H T S w) (u : ∀ n, n < H → 0 ≤ wN w n 0 ∧ wN w n 0 ≤ 1) {x : Int32} : o_isUp N S x ∧ ((∃ k, k < H ∧ x = nI k ∧ wN w k 0 = 1 ∧ f_isUp N S x = nI 1) ∨ ((¬ ∃ k, k < H ∧ x = nI k ∧ wN w k 0 = 1) ∧ f_isUp N S x = nI 0)) := by
  have cb := h.1.1.b
  obtain ⟨i1, i2⟩ := isHonest_ok (N := N) h (x := x)
  show wp (O_isUp_0 N x S) (F_isUp_0 N x S) (fun v => (∃ k, k < H ∧ x = nI k ∧ wN w k 0 = 1 ∧ v = nI 1) ∨ ((¬ ∃ k, k < H ∧ x = nI k ∧ wN w k 0 = 1) ∧ v = nI 0))
  unfold O_isUp_0 F_isUp_0
  have no : (¬ ∃ k, k < H ∧ x = nI k ∧ wN w k 0 = 1) → wp (O_isUp_21 N S) (F_isUp_21 N S) (fun v => (∃ k, k < H ∧ x = nI k ∧ wN w k 0 = 1 ∧ v = nI 1) ∨ ((¬ ∃ k, k < H ∧ x = nI k ∧ wN w k 0 = 1) ∧ v = nI 0)) := fun g => by
    unfold O_isUp_21 F_isUp_21 O_isUp_22 F_isUp_22
    exact wp_fin rfl (Or.inr ⟨g, rfl⟩)
  refine wp_and i1 ?_
  rcases i2 with ⟨k, k1, k2, k3⟩ | ⟨k1, k2⟩
  · rw [k3]
    have uk := u k k1
    have e43 : S.2.1 43 k = nI (wN w k 0).toNat := h.hN k1 (k := 0) (by decide) (by decide) uk.1
    rw [k2, n_clamp (by omega), e43]
    have no' := no
    rw [k2] at no'
    refine wp_neg (by decide) (wp_and ((n_in (by omega)).2 (by omega)) (wp_ite (fun d => ?_) (fun d => ?_))) <;> rw [n_eq0 (by omega)] at d
    · exact no' (fun ⟨j, j1, j2, j3⟩ => by rw [n_eq' (by omega) (by omega)] at j2; subst j2; omega)
    · unfold O_isUp_22 F_isUp_22
      exact wp_fin rfl (Or.inl ⟨k, k1, rfl, (by omega), rfl⟩)
  · rw [k2]
    exact wp_pos rfl (no (fun ⟨j, j1, j2, j3⟩ => k1 ⟨j, j1, j2⟩))
theorem end_ok (hN : 1000 ≤ N) (h : rRp F H T S w) (g : GK F H T w) (hn : n < H) (ht : t < 3) : wp (o_end N S (nI n) (nI t)) (f_end N S (nI n) (nI t)) (fun S' => rRp F H T S' (aEnd w n T t)) := by
  have cb := h.1.1.b
  have k := g.ok hn
  have ks := k.s
  have kr := k.r
  have kn := k.n99
  obtain ⟨i, hi, hi2⟩ := k.l64
  have e46 : S.2.1 46 n = nI (wN w n 3).toNat := h.hN hn (k := 3) (by decide) (by decide) ks.1
  have e45 : S.2.1 45 n = nI (wN w n 2).toNat := h.hN hn (k := 2) (by decide) (by decide) kr.1
  have f46 : ∀ (S1 : rS) (w1 : Wd), t ≠ 2 → rRp F H T S1 w1 → wp (O_end_46 N (nI n) (nI t) S1) (F_end_46 N (nI n) (nI t) S1) (fun S' => rRp F H T S' w1) := fun S1 w1 ne R1 => by
    unfold O_end_46 F_end_46 O_end_75 F_end_75
    exact wp_neg (by rw [n_eq' (by omega) (by omega)]; exact ne) (wp_fin trivial R1)
  show wp (O_end_0 N (nI n) (nI t) S) (F_end_0 N (nI n) (nI t) S) _
  unfold O_end_0 F_end_0 aEnd
  rw [n_clamp (by omega), e46]
  refine wp_ite (fun c => ?_) (fun c => ?_) <;> rw [n_eq0 (by omega)] at c
  · rw [if_pos c]
    have f22 : ∀ (S1 : rS) (w1 : Wd), rRp F H T S1 w1 → wp (O_end_22 N (nI n) (nI t) S1) (F_end_22 N (nI n) (nI t) S1) (fun S' => rRp F H T S' w1) := fun S1 w1 R1 => by
      unfold O_end_22 F_end_22
      exact wp_neg (by rw [n_eq' (by omega) (by omega)]; omega) (f46 S1 w1 (by omega) R1)
    refine wp_and ((n_in (by omega)).2 (by omega)) (wp_ite (fun d => ?_) (fun d => ?_)) <;> rw [n_eq0 (by omega)] at d
    · rw [if_pos (show wN w n 3 = 0 by omega)]
      refine wp_call (vote_ok (k := 2) (s := 1) (i := i) (p := 0) (o := none) (by omega) h hn (by omega) (by omega) (Or.inl ⟨rfl, rfl⟩) k.h0 kr k.c (by omega) hi (by omega)) (fun q => ?_)
      unfold O_end_21 F_end_21
      exact f22 _ _ q.2.1
    · rw [if_neg (show ¬ wN w n 3 = 0 by omega)]
      exact f22 S w h
  rw [if_neg c]
  unfold O_end_22 F_end_22
  rw [n_clamp (by omega), e46]
  refine wp_ite (fun c1 => ?_) (fun c1 => ?_) <;> rw [n_eq' (by omega) (by omega)] at c1
  · rw [if_pos c1]
    refine wp_and ((n_in (by omega)).2 (by omega)) (wp_ite (fun d => ?_) (fun d => ?_)) <;> rw [n_eq' (by omega) (by omega)] at d
    · rw [if_pos (show wN w n 3 = 1 by omega)]
      refine wp_call (vote_ok (k := 3) (s := 2) (i := i) (p := 0) (o := none) (by omega) h hn (by omega) (by omega) (Or.inl ⟨rfl, rfl⟩) k.h0 kr k.c (by omega) hi (by omega)) (fun q => ?_)
      unfold O_end_45 F_end_45
      exact f46 _ _ (by omega) q.2.1
    · rw [if_neg (show ¬ wN w n 3 = 1 by omega)]
      exact f46 S w (by omega) h
  rw [if_neg c1]
  unfold O_end_46 F_end_46
  rw [n_clamp (by omega), e45]
  refine wp_pos (by rw [n_eq' (by omega) (by omega)]; omega) (wp_and ((n_in (by omega)).2 (by omega)) (wp_ite (fun d => ?_) (fun d => ?_))) <;> rw [n_le' (by omega) (by omega)] at d
  · rw [if_neg (show ¬ wN w n 2 < 15 by omega)]
    unfold O_end_75 F_end_75
    exact wp_fin trivial h
  · rw [if_pos (show wN w n 2 < 15 by omega), n_add]
    refine wp_and ((n_in (by omega)).2 (by omega)) (wp_call (begin_ok (r := (wN w n 2).toNat + 1) (i := i) (by omega) h hn (by omega) k.h0 k.v16 k.c (by omega) hi (by omega) k.p (fun j y hj hy h0 => ?_)) (fun z => ?_))
    · have := k.o j y (by omega) hy h0
      omega
    · unfold O_end_75 F_end_75
      exact wp_fin trivial z
theorem wfr.end_ : wfr n w (aEnd w n T t) := by
  unfold aEnd
  split
  · split
    · exact wfr.vote
    · exact wfr.refl
  split
  · split
    · exact wfr.vote
    · exact wfr.refl
  split
  · exact wfr.begin
  · exact wfr.refl
theorem GK.end_ (g : GK F H T w) (hn : n < H) : GK F H T (aEnd w n T t) ∧ tfr n w (aEnd w n T t) := by
  obtain ⟨G, g1⟩ := g.1
  have gk := g.2 n hn
  have gn := g1.2.1 n hn
  obtain ⟨a0, a1, a2, a3, a4, a5, _⟩ := gn.a
  have fin : ∀ w', wfr n w w' → (∃ G', GI F H T G' w') → giK (wN w' n) → GK F H T w' := fun w' f a b => ⟨a, fun m hm => by
    by_cases e : m = n
    · rw [e]; exact b
    · rw [(f.1 m e).1]; exact g.2 m hm⟩
  unfold aEnd
  split
  · split
    · rename_i d
      have v := g1.vote (k := 2) (s := 1) (o := none) gk hn (by omega) (by rw [d]; decide) (fun d z => by cases z)
      exact ⟨fin _ wfr.vote v.1 v.2.1, tfr.vote⟩
    · exact ⟨g, tfr.refl⟩
  split
  · split
    · rename_i d
      have v := g1.vote (k := 3) (s := 2) (o := none) gk hn (by omega) (by rw [d]; decide) (fun d z => by cases z)
      exact ⟨fin _ wfr.vote v.1 v.2.1, tfr.vote⟩
    · exact ⟨g, tfr.refl⟩
  split
  · have v := g1.begin (r := (wN w n 2).toNat + 1) gk hn (by omega) (by omega) (by omega) (by omega)
    exact ⟨fin _ wfr.begin v.1 v.2.1, tfr.begin (by omega)⟩
  · exact ⟨g, tfr.refl⟩
theorem GK.off {k : Nat} (g : GK F H T w) (hn : n < H) (hk : 9 ≤ k ∧ k ≤ 11) : GK F H T (sN w n k (-1)) := by
  obtain ⟨G, g1⟩ := g.1
  have e : ∀ j, j < 9 ∨ 11 < j → wN (sN w n k (-1)) n j = wN w n j := fun j hj => N_o _ _ _ _ (Or.inr (by omega))
  have f : wfr n w (sN w n k (-1)) := wfr.N (by omega)
  refine ⟨⟨G, g1.num hn f rfl rfl rfl (fun j hj => e j (by omega)) (by rw [e 3 (by omega)]; exact Int.le_refl _) ?_⟩, fun m hm => ?_⟩
  · have := (g1.2.1 n hn).a
    exact this.nt (fun j hj => e j (by omega)) (by rw [e 12 (by omega)]; exact this.2.2.2.2.2.2.2.2.2.1) (by rw [e 15 (by omega)]; exact this.2.2.2.2.2.2.2.2.2.2.1)
  · by_cases c : m = n
    · rw [c]
      unfold giK
      rw [e 15 (by omega), e 2 (by omega), e 3 (by omega), e 5 (by omega), e 17 (by omega)]
      exact g.2 n hn
    · rw [(f.1 m c).1]; exact g.2 m hm
/-- all that a tick keeps -/
def tkI (F H T : Nat) (S : rS) (w0 w : Wd) : Prop := rRp F H T S w ∧ GK F H T w ∧ wT w = wT w0
theorem tick_24 {e : Nat} (hN : 6000 ≤ N) (h : rRp F H T S w) (g : GK F H T w) (tm : tmO (-2) w n) (hn : n < H) : wp (OL_tick_24 N N (nI e) (nI n) (nI 0) S) (L_tick_24 N N (nI e) (nI n) (nI 0) S) (fun z => z = (0, nI (aTk3 T F n (e, w) 3).1, nI n, z.2.2.2) ∧ rRp F H T z.2.2.2 (aTk3 T F n (e, w) 3).2 ∧ GK F H T (aTk3 T F n (e, w) 3).2 ∧ wfr n w (aTk3 T F n (e, w) 3).2) := by
  have cb := h.1.1.b
  refine wp_loop (K := 3) (fun j (y : rS) => rRp F H T y (aTk3 T F n (e, w) j).2 ∧ GK F H T (aTk3 T F n (e, w) j).2 ∧ wfr n w (aTk3 T F n (e, w) j).2 ∧ tmO (-2) (aTk3 T F n (e, w) j).2 n) (fun q j y => OL_tick_24 N q (nI (aTk3 T F n (e, w) j).1) (nI n) (nI j) y) (fun q j y => L_tick_24 N q (nI (aTk3 T F n (e, w) j).1) (nI n) (nI j) y) (fun q j y hj hI ih => ?_) 0 N S (by omega) (by omega) ⟨h, g, wfr.refl, tm⟩
  unfold OL_tick_24 L_tick_24 OB_tick_24 B_tick_24
  by_cases e3 : j = 3
  · refine wp_pos (by rw [n_le' (by omega) (by omega)]; omega) ?_
    subst e3
    exact wp_fin trivial ⟨rfl, hI.1, hI.2.1, hI.2.2.1⟩
  obtain ⟨R, g1, f1, t1⟩ := hI
  have st : aTk3 T F n (e, w) (j + 1) = aTk1 T F n (aTk3 T F n (e, w) j) j := rfl
  generalize aTk3 T F n (e, w) j = x at R g1 f1 t1 st ih ⊢
  have no : ¬ (wN x.2 n 0 = 1 ∧ wN x.2 n (9 + j) ≠ -1 ∧ wN x.2 n (9 + j) ≤ wT x.2) → wp (O_tick_97 N (OL_tick_24 N q) (nI x.1) (nI n) (nI j) y) (F_tick_97 N (L_tick_24 N q) (nI x.1) (nI n) (nI j) y) (fun z => z = (0, nI (aTk3 T F n (e, w) 3).1, nI n, z.2.2.2) ∧ rRp F H T z.2.2.2 (aTk3 T F n (e, w) 3).2 ∧ GK F H T (aTk3 T F n (e, w) 3).2 ∧ wfr n w (aTk3 T F n (e, w) 3).2) := fun z => by
    unfold O_tick_97 F_tick_97
    rw [n_add]
    have e1 : aTk3 T F n (e, w) (j + 1) = x := by rw [st]; unfold aTk1; rw [if_neg z]
    have := ih y (by rw [e1]; exact ⟨R, g1, f1, t1⟩) (by omega)
    rw [e1] at this
    exact this
  have tj := t1 (9 + j) (by omega)
  have tT := R.co.2.2.2.2.2.2.1
  have nle : ¬ nI 3 ≤ nI j := by rw [n_le' (by omega) (by omega)]; omega
  have e52 : y.2.1 52 (3 * n + j) = iI (wN x.2 n (9 + j)) := by
    have := R.n n (9 + j) hn (by omega)
    have r1 : rna (9 + j) = 52 := by
      rcases (show j = 0 ∨ j = 1 ∨ j = 2 by omega) with c | c | c <;> rw [c] <;> rfl
    have r2 : rni (9 + j) n = 3 * n + j := by
      unfold rni
      rw [if_pos (by omega)]
      omega
    rw [r1, r2] at this
    exact this
  obtain ⟨i1, i2⟩ := isUp_ok (N := N) R (fun m hm => (g1.ok hm).u) (x := nI n)
  refine wp_neg nle (wp_and i1 ?_)
  rcases i2 with ⟨k, k1, k2, k3, k4⟩ | ⟨k1, k2⟩
  rotate_left
  · rw [k2]
    exact wp_pos rfl (no (fun z => k1 ⟨n, hn, rfl, z.1⟩))
  have k2 : n = k := (n_eq' (by omega) (by omega)).1 k2
  subst k2
  rw [k4, n_mul, n_add, n_clamp (by omega), e52, R.co.2.2.2.2.2.1, show (-1 : Int32) = iI (-1) from rfl, ← iI_n (wT x.2)]
  refine wp_neg (by decide) (wp_and ((n_in (by omega)).2 (by omega)) (wp_ite (fun c => ?_) (fun c => ?_))) <;> rw [iI_eq (by omega) (by omega) (by omega) (by omega)] at c
  · exact no (fun z => z.2.1 c)
  refine wp_and ((n_in (by omega)).2 (by omega)) (wp_ite (fun d => ?_) (fun d => ?_)) <;> rw [iI_le (by omega) (by omega) (by omega) (by omega)] at d
  rotate_left
  · exact no (fun z => d z.2.2)
  have r1 : rna (9 + j) = 52 := by
    rcases (show j = 0 ∨ j = 1 ∨ j = 2 by omega) with c | c | c <;> rw [c] <;> rfl
  have r2 : rni (9 + j) n = 3 * n + j := by
    unfold rni
    rw [if_pos (by omega)]
    omega
  have R1 : rRp F H T (rsA y 52 (3 * n + j) (iI (-1))) (sN x.2 n (9 + j) (-1)) := by
    have := R.setN (n := n) (k := 9 + j) (v := -1) (by omega) (by omega) (by omega)
    rw [r1, r2] at this
    exact this
  have g2 := g1.off (k := 9 + j) hn (by omega)
  obtain ⟨g3, t3⟩ := g2.end_ (t := j) hn
  refine wp_and ((n_in (by omega)).2 (by omega)) (wp_call (end_ok (t := j) (by omega) R1 g2 hn (by omega)) (fun z => ?_))
  unfold O_tick_92 F_tick_92
  refine wp_call (rules_ok hN z g3 hn) (fun z' => ?_)
  unfold O_tick_97 F_tick_97
  rw [n_add, n_add]
  have e1 : aTk3 T F n (e, w) (j + 1) = (x.1 + 1, aRules (aEnd (sN x.2 n (9 + j) (-1)) n T j) n T F) := by rw [st]; unfold aTk1; rw [if_pos ⟨k3, c, d⟩]
  have fw : wfr n x.2 (aRules (aEnd (sN x.2 n (9 + j) (-1)) n T j) n T F) := ((wfr.N (by omega)).trans wfr.end_).trans wfr.rules
  have := ih (f_rules N (f_end N (rsA y 52 (3 * n + j) (iI (-1))) (nI n) (nI j)) (nI n)) (by
    rw [e1]
    refine ⟨z', g3.rules hn, f1.trans fw, ?_⟩
    have u1 : wN (sN x.2 n (9 + j) (-1)) n 0 = wN x.2 n 0 := N_o _ _ _ _ (Or.inr (by omega))
    have ta := t1.tfr (tfr.off (k := 9 + j) (by omega)) k3 (by omega) tT
    have tb : tmO (-2) (aEnd (sN x.2 n (9 + j) (-1)) n T j) n := ta.tfr t3 (by rw [u1]; exact k3) (by show (-2 : Int) ≤ wT x.2; omega) tT
    by_cases up : wN (aEnd (sN x.2 n (9 + j) (-1)) n T j) n 0 = 1
    · exact tb.tfr (tfr.rules g3 hn) up (by rw [wfr.end_.2.1]; show (-2 : Int) ≤ wT x.2; omega) (by rw [wfr.end_.2.1]; exact tT)
    · have : aRules (aEnd (sN x.2 n (9 + j) (-1)) n T j) n T F = aEnd (sN x.2 n (9 + j) (-1)) n T j := by
        unfold aRules
        rw [decide_eq_false up, aRuns_no]
      rw [this]
      exact tb) (by omega)
  rw [e1] at this
  exact this
theorem rRp.tick (h : rRp F H T S w) (h9 : wT w + 1 < 900000) : rRp F H T (rsI S 3 (nI (wT w + 1))) (sT w (wT w + 1)) := by
  have f : rfr [3] S (rsI S 3 (nI (wT w + 1))) := rfr.oneI (by decide)
  obtain ⟨c1, c2, c3, c4, c5, c6, c7, c8⟩ := h.co
  refine ⟨⟨c1, by rw [f.i 0 (by decide)]; exact c2, by rw [f.i 1 (by decide)]; exact c3, by rw [f.i 2 (by decide)]; exact c4, c5.fr f (by decide) (by decide), I_same _ _ _, h9, ?_⟩, h.sk.fr f (by decide), h.n.fr f (by decide), h.wh.fr f (by decide), h.x.fr f (by decide), h.l.fr f (by decide) (by decide) (by decide), h.hd.fr f (by decide) (by decide) (by decide) (by decide), h.v.fr f (by decide) (by decide) (by decide) (by decide) (by decide), h.d.fr f (by decide) (by decide) (by decide), h.c.fr f (by decide) (by decide) (by decide), h.g.fr f (by decide) (by decide) (by decide) (by decide), h.p.fr f (by decide) (by decide), h.e.fr f (by decide) (by decide), h.s.fr f (by decide) (by decide), h.k.fr f (by decide)⟩
  unfold tpR
  rw [f.i 22 (by decide), f.a 21 (by decide)]
  exact c8
theorem GK.tick (g : GK F H T w) (t : Nat) : GK F H T (sT w t) := g
theorem tick_ok (hN : 6000 ≤ N) (h : rRp F H T S w) (g : GK F H T w) (tm : ∀ m, m < H → tmO (-2) w m) (h9 : wT w + 1 < 900000) : wp (o_tick N S) (f_tick N S) (fun z => rRp F H T z.2 (aTick w H T F).2 ∧ z.1 = nI (aTick w H T F).1 ∧ GK F H T (aTick w H T F).2) := by
  have cb := h.1.1.b
  have c4 := h.1.1.2.2.2.1
  show wp (O_tick_0 N S) (F_tick_0 N S) _
  unfold O_tick_0 F_tick_0
  rw [h.co.2.2.2.2.2.1, n_add]
  have R0 := h.tick h9
  generalize rsI S 3 (nI (wT w + 1)) = S0 at R0 ⊢
  obtain ⟨x0, hx0⟩ : ∃ x0 : Nat × Wd, x0 = (0, sT w (wT w + 1)) := ⟨_, rfl⟩
  have hm : ∀ j, aTkN T F x0 (min j H) = if j ≤ H then aTkN T F x0 j else aTkN T F x0 H := fun j => by
    by_cases c : j ≤ H
    · rw [if_pos c, Nat.min_eq_left c]
    · rw [if_neg c, Nat.min_eq_right (by omega)]
  refine wp_seq (Q := fun z : Nat × Int32 × rS => z = (0, nI (aTkN T F x0 H).1, z.2.2) ∧ rRp F H T z.2.2 (aTkN T F x0 H).2 ∧ GK F H T (aTkN T F x0 H).2) ?_ ?_
  · have z0 : nI (aTkN T F x0 (min 0 H)).1 = nI 0 := by
      rw [Nat.zero_min, hx0]
      rfl
    suffices L : wp (OL_tick_14 N N (nI (aTkN T F x0 (min 0 H)).1) (nI 0) S0) (L_tick_14 N N (nI (aTkN T F x0 (min 0 H)).1) (nI 0) S0) (fun z : Nat × Int32 × rS => z = (0, nI (aTkN T F x0 H).1, z.2.2) ∧ rRp F H T z.2.2 (aTkN T F x0 H).2 ∧ GK F H T (aTkN T F x0 H).2) by
      rw [z0] at L
      exact L
    refine wp_loop (K := T) (fun j (y : rS) => rRp F H T y (aTkN T F x0 (min j H)).2 ∧ GK F H T (aTkN T F x0 (min j H)).2 ∧ ∀ m, j ≤ m → m < H → tmO (-2) (aTkN T F x0 (min j H)).2 m) (fun q j y => OL_tick_14 N q (nI (aTkN T F x0 (min j H)).1) (nI j) y) (fun q j y => L_tick_14 N q (nI (aTkN T F x0 (min j H)).1) (nI j) y) (fun q j y hj hI ih => ?_) 0 N S0 (by omega) (by omega) (by
      rw [Nat.zero_min, hx0]
      exact ⟨R0, g, fun m _ hm => tm m hm⟩)
    unfold OL_tick_14 L_tick_14 OB_tick_14 B_tick_14
    rw [hI.1.co.2.1]
    by_cases e : j = T
    · refine wp_pos (by rw [n_le' (by omega) (by omega)]; omega) ?_
      rw [e, Nat.min_eq_right c4] at hI
      rw [e, Nat.min_eq_right c4]
      exact wp_fin trivial ⟨rfl, hI.1, hI.2.1⟩
    refine wp_neg (by rw [n_le' (by omega) (by omega)]; omega) ?_
    by_cases c : j < H
    · have e1 : min j H = j := Nat.min_eq_left (by omega)
      have e2 : aTkN T F x0 (min (j + 1) H) = aTk3 T F j (aTkN T F x0 j) 3 := by rw [Nat.min_eq_left (by omega)]; rfl
      rw [e1] at hI ⊢
      refine wp_seq (tick_24 hN hI.1 hI.2.1 (hI.2.2 j (Nat.le_refl _) c) c) ?_
      rintro z ⟨z0, z1, z2, z3⟩
      rw [z0]
      generalize z.2.2.2 = S1 at z1 ⊢
      show wp (O_tick_103 N (OL_tick_14 N q) (nI (aTk3 T F j ((aTkN T F x0 j).1, (aTkN T F x0 j).2) 3).1) (nI j) S1) (F_tick_103 N (L_tick_14 N q) (nI (aTk3 T F j ((aTkN T F x0 j).1, (aTkN T F x0 j).2) 3).1) (nI j) S1) _
      unfold O_tick_103 F_tick_103
      rw [n_add]
      have := ih S1 (by
        rw [e2]
        exact ⟨z1, z2, fun m m1 m2 => (hI.2.2 m (by omega) m2).wfr z3 (by omega)⟩) (by omega)
      rw [e2] at this
      exact this
    · -- no honest node: nothing ends
      have e1 : aTkN T F x0 (min j H) = aTkN T F x0 H := by rw [Nat.min_eq_right (by omega)]
      have e2 : aTkN T F x0 (min (j + 1) H) = aTkN T F x0 H := by rw [Nat.min_eq_right (by omega)]
      rw [e1] at hI ⊢
      refine wp_seq (Q := fun z : Nat × Int32 × Int32 × rS => z = (0, nI (aTkN T F x0 H).1, nI j, y)) ?_ ?_
      · refine wp_loop (σ := Unit) (K := 3) (fun _ _ => True) (fun q2 i _ => OL_tick_24 N q2 (nI (aTkN T F x0 H).1) (nI j) (nI i) y) (fun q2 i _ => L_tick_24 N q2 (nI (aTkN T F x0 H).1) (nI j) (nI i) y) (fun q2 i _ hi _ ih2 => ?_) 0 N () (by omega) (by omega) trivial
        unfold OL_tick_24 L_tick_24 OB_tick_24 B_tick_24
        by_cases e3 : i = 3
        · refine wp_pos (by rw [n_le' (by omega) (by omega)]; omega) ?_
          exact wp_fin trivial rfl
        have nle : ¬ nI 3 ≤ nI i := by rw [n_le' (by omega) (by omega)]; omega
        obtain ⟨i1, i2⟩ := isUp_ok (N := N) hI.1 (fun m hm => (hI.2.1.ok hm).u) (x := nI j)
        refine wp_neg nle (wp_and i1 ?_)
        rcases i2 with ⟨k, k1, k2, k3, k4⟩ | ⟨k1, k2⟩
        · have := (n_eq' (by omega) (by omega)).1 k2
          omega
        · rw [k2]
          refine wp_pos rfl ?_
          unfold O_tick_97 F_tick_97
          rw [n_add]
          exact ih2 () trivial (by omega)
      rintro z hz
      rw [hz]
      show wp (O_tick_103 N (OL_tick_14 N q) (nI (aTkN T F x0 H).1) (nI j) y) (F_tick_103 N (L_tick_14 N q) (nI (aTkN T F x0 H).1) (nI j) y) _
      unfold O_tick_103 F_tick_103
      rw [n_add]
      have := ih y (by
        rw [e2]
        exact ⟨hI.1, hI.2.1, fun m m1 m2 => hI.2.2 m (by omega) m2⟩) (by omega)
      rw [e2] at this
      exact this
  rintro z ⟨z0, z1, z2⟩
  rw [z0]
  generalize z.2.2 = S1 at z1 ⊢
  show wp (O_tick_109 N (nI (aTkN T F x0 H).1) S1) (F_tick_109 N (nI (aTkN T F x0 H).1) S1) _
  unfold O_tick_109 F_tick_109 aTick
  rw [← hx0]
  exact wp_fin trivial ⟨z1, rfl, z2⟩
/-- a crash, a cut -/
theorem crash_ok {x : Int32} (hN : 1000 ≤ N) (h : rRp F H T S w) (g : GK F H T w) : wp (o_crash N S x) (f_crash N S x) (fun z => (∃ n, n < H ∧ x = nI n ∧ wN w n 0 = 1 ∧ rRp F H T z.2 (aFall w n) ∧ z.1 = nI 1) ∨ ((¬ ∃ n, n < H ∧ x = nI n ∧ wN w n 0 = 1) ∧ rRp F H T z.2 w ∧ z.1 = nI 0)) := by
  obtain ⟨i1, i2⟩ := isUp_ok (N := N) h (fun m hm => (g.ok hm).u) (x := x)
  show wp (O_crash_0 N x S) (F_crash_0 N x S) _
  unfold O_crash_0 F_crash_0
  refine wp_and i1 ?_
  rcases i2 with ⟨k, k1, k2, k3, k4⟩ | ⟨k1, k2⟩
  · rw [k4]
    rw [k2]
    refine wp_neg (by decide) (wp_call (fall_ok hN h k1) (fun z => ?_))
    unfold O_crash_15 F_crash_15
    exact wp_fin trivial (Or.inl ⟨k, k1, rfl, k3, z.2, rfl⟩)
  · rw [k2]
    exact wp_pos rfl (wp_fin trivial (Or.inr ⟨k1, h, rfl⟩))
theorem cut_ok {x y : Int32} (h : rRp F H T S w) : wp (o_cut N S x y) (f_cut N S x y) (fun z => (∃ n k, n < H ∧ x = nI n ∧ k ≤ 1000 ∧ y = nI k ∧ rRp F H T z.2 (sN w n 12 (k : Int)) ∧ z.1 = nI 1) ∨ ((¬ ∃ n k, n < H ∧ x = nI n ∧ k ≤ 1000 ∧ y = nI k) ∧ rRp F H T z.2 w ∧ z.1 = nI 0)) := by
  have cb := h.1.1.b
  obtain ⟨i1, i2⟩ := isHonest_ok (N := N) h (x := x)
  show wp (O_cut_0 N x y S) (F_cut_0 N x y S) _
  unfold O_cut_0 F_cut_0
  have no : (¬ ∃ n k, n < H ∧ x = nI n ∧ k ≤ 1000 ∧ y = nI k) → wp (O_cut_19 N S) (F_cut_19 N S) (fun z => (∃ n k, n < H ∧ x = nI n ∧ k ≤ 1000 ∧ y = nI k ∧ rRp F H T z.2 (sN w n 12 (k : Int)) ∧ z.1 = nI 1) ∨ ((¬ ∃ n k, n < H ∧ x = nI n ∧ k ≤ 1000 ∧ y = nI k) ∧ rRp F H T z.2 w ∧ z.1 = nI 0)) := fun g => by
    unfold O_cut_19 F_cut_19
    exact wp_fin trivial (Or.inr ⟨g, h, rfl⟩)
  refine wp_and i1 ?_
  rcases i2 with ⟨n, n1, n2, n3⟩ | ⟨n1, n2⟩
  rotate_left
  · rw [n2]
    exact wp_pos rfl (no (fun ⟨a, b, c, d, _⟩ => n1 ⟨a, c, d⟩))
  rw [n3]
  refine wp_neg (by decide) (wp_ite (fun c => ?_) (fun c => ?_))
  · exact no (fun ⟨a, b, c1, d, e, f⟩ => n_lt0 (show b < 2147483648 by omega) (by rw [← f]; exact c))
  obtain ⟨k, k1, k2⟩ : ∃ k : Nat, k < 2147483648 ∧ y = nI k := i_nat c
  have e : y ≤ nI 1000 ↔ k ≤ 1000 := by rw [k2, n_le' k1 (by omega)]
  refine wp_ite (fun d => ?_) (fun d => ?_) <;> rw [e] at d
  · rw [n2, k2, n_clamp (by omega)]
    have := h.setN (n := n) (k := 12) (v := (k : Int)) (by decide) (by decide) (by decide)
    rw [iI_n] at this
    exact wp_fin ⟨((n_in (by omega)).2 (by omega)), trivial⟩ (Or.inl ⟨n, k, n1, rfl, d, rfl, this, rfl⟩)
  · exact no (fun ⟨a, b, c1, d1, e1, f⟩ => by rw [k2, n_eq' k1 (by omega)] at f; omega)
end
end

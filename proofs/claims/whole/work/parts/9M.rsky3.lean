section
/-! THE REFERENCE: what flies is told, copied, passed -/
def eiB (m : List Nat) (i : Nat) : Int64 := l8 (fun b => nI (bg m (i + b))) 8
/-- what flies, asked for: of one that flies, and of none -/
def flA (w : Wd) (x y v : Int32) : Prop := (∃ k, k < (wK w).1.length ∧ x = nI k ∧ v = if y = 0 then nI (fg (wK w).1 k).1 else if y = nI 1 then nI (fg (wK w).1 k).2.1 else if y = nI 2 then nI (fg (wK w).1 k).2.2.2.length else -1) ∨ ((¬ ∃ k, k < (wK w).1.length ∧ x = nI k) ∧ v = -1)
def byA (w : Wd) (x y : Int32) (v : Int64) : Prop := (∃ k i, k < (wK w).1.length ∧ i < 2147483648 ∧ x = nI k ∧ y = nI i ∧ v = eiB (fg (wK w).1 k).2.2.2 i) ∨ ((¬ ∃ k i, k < (wK w).1.length ∧ i < 2147483648 ∧ x = nI k ∧ y = nI i) ∧ v = -1)
def mlA (w : Wd) (H T : Nat) (x y : Int32) (a b : Nat) : Prop := H ≤ a ∧ a < T ∧ b < T ∧ a ≠ b ∧ (wK w).1.length < 1000 ∧ x = nI a ∧ y = nI b
section
variable {N n F H T k : Nat} {S : rS} {w : Wd} {G : Gh}
theorem flying_ok {x y : Int32} (h : rRp F H T S w) : wp (o_flying N S x y) (f_flying N S x y) (flA w x y) := by
  obtain ⟨i1, i2⟩ := isFlying_ok (N := N) h (x := x)
  obtain ⟨⟨ta, t1, t2, t3, t4, t5, t6, t7, t8⟩, _⟩ := h.sk
  show wp (O_flying_0 N x y S) (F_flying_0 N x y S) _
  unfold O_flying_0 F_flying_0
  refine wp_and i1 ?_
  rcases i2 with ⟨k, k1, k2, k3⟩ | ⟨k1, k2⟩
  rotate_left
  · rw [k2]
    refine wp_pos rfl ?_
    unfold O_flying_69 F_flying_69
    exact wp_fin trivial (Or.inr ⟨k1, rfl⟩)
  rw [k3]
  obtain ⟨y1, y2, y3, y4, y5, y6⟩ := t8 k k1
  have sl := t6 k (by omega)
  have cl : x.toNatClampNeg = k := by rw [k2]; exact n_clamp (by omega)
  have vi : vp_in x 1000 := by rw [k2]; exact ((n_in (by omega)).2 (by omega))
  rw [cl, t4 k k1, n_clamp (by omega), y1, y2, y3]
  have fin : ∀ v, (v = if y = 0 then nI (fg (wK w).1 k).1 else if y = nI 1 then nI (fg (wK w).1 k).2.1 else if y = nI 2 then nI (fg (wK w).1 k).2.2.2.length else -1) → wp (O_flying_69 N v S) (F_flying_69 N v S) (flA w x y) := fun v e => by
    unfold O_flying_69 F_flying_69
    exact wp_fin trivial (Or.inl ⟨k, k1, k2, e⟩)
  refine wp_neg (by decide) (wp_ite (fun c => ?_) (fun c => ?_))
  · exact wp_and vi (wp_and ((n_in (by omega)).2 (by omega)) (fin _ (by rw [if_pos c])))
  refine wp_ite (fun c1 => ?_) (fun c1 => ?_)
  · exact wp_and vi (wp_and ((n_in (by omega)).2 (by omega)) (fin _ (by rw [if_neg c, if_pos c1])))
  refine wp_ite (fun c2 => ?_) (fun c2 => ?_)
  · exact wp_and vi (wp_and ((n_in (by omega)).2 (by omega)) (fin _ (by rw [if_neg c, if_neg c1, if_pos c2])))
  · exact fin _ (by rw [if_neg c, if_neg c1, if_neg c2])
theorem bytes_ok {x y : Int32} (hN : 100 ≤ N) (h : rRp F H T S w) : wp (o_bytes N S x y) (f_bytes N S x y) (byA w x y) := by
  obtain ⟨i1, i2⟩ := isFlying_ok (N := N) h (x := x)
  obtain ⟨⟨ta, hT⟩, _⟩ := h.sk
  have hT0 := hT
  obtain ⟨t1, t2, t3, t4, t5, t6, t7, t8⟩ := hT
  show wp (O_bytes_0 N x y S) (F_bytes_0 N x y S) _
  unfold O_bytes_0 F_bytes_0
  have no : (¬ ∃ k i, k < (wK w).1.length ∧ i < 2147483648 ∧ x = nI k ∧ y = nI i) → wp (O_bytes_12 N S) (F_bytes_12 N S) (byA w x y) := fun g => by
    unfold O_bytes_12 F_bytes_12
    exact wp_fin trivial (Or.inr ⟨g, rfl⟩)
  refine wp_and i1 ?_
  rcases i2 with ⟨k, k1, k2, k3⟩ | ⟨k1, k2⟩
  rotate_left
  · rw [k2]
    exact wp_pos rfl (no (fun ⟨a, b, c, d, e, f⟩ => k1 ⟨a, c, e⟩))
  rw [k3]
  obtain ⟨y1, y2, y3, y4, y5, y6⟩ := t8 k k1
  have sl := t6 k (by omega)
  have cl : x.toNatClampNeg = k := by rw [k2]; exact n_clamp (by omega)
  have vi : vp_in x 1000 := by rw [k2]; exact ((n_in (by omega)).2 (by omega))
  obtain ⟨m, hm⟩ : ∃ m, m = (fg (wK w).1 k).2.2.2 := ⟨_, rfl⟩
  obtain ⟨_, _, _, l0, l1, l2⟩ := y6
  rw [← hm] at y3 l0 l1 l2
  rw [cl, t4 k k1, n_clamp (by omega), y3]
  refine wp_neg (by decide) (wp_ite (fun c => ?_) (fun c => ?_))
  rotate_left
  · refine no (fun ⟨a, b, d, e, f, e2⟩ => c ?_)
    rw [e2, show (0 : Int32) = nI 0 from rfl, n_le' (by omega) e]
    omega
  have c' : ¬ y < 0 := fun z => by
    rw [Int32.lt_iff_toInt_lt] at z
    rw [Int32.le_iff_toInt_le] at c
    omega
  obtain ⟨i, i1, i2⟩ := i_nat c'
  rw [k2, i2]
  refine wp_and (by rw [← k2]; exact vi) (wp_and ((n_in (by omega)).2 (by omega)) (wp_seq (Q := fun z : Nat × Int64 × Unit => z = (0, eiB m i, ())) ?_ ?_))
  · refine wp_loop (σ := Unit) (K := 8) (fun _ _ => True) (fun q j _ => OL_bytes_34 N q (nI k) (nI i) (nI m.length) (l8 (fun b => nI (bg m (i + b))) j) (nI j) S) (fun q j _ => L_bytes_34 N q (nI k) (nI i) (nI m.length) (l8 (fun b => nI (bg m (i + b))) j) (nI j) S) (fun q j _ hj _ ih => ?_) 0 N () (by omega) (by omega) trivial
    unfold OL_bytes_34 L_bytes_34 OB_bytes_34 B_bytes_34
    by_cases e : j = 8
    · refine wp_pos (by rw [n_le' (by omega) (by omega)]; omega) ?_
      rw [e]
      exact wp_fin trivial rfl
    have zero : m.length ≤ i + j → wp (O_bytes_71 N (fun a b c d e => OL_bytes_34 N q a b c d e S) (nI k) (nI i) (nI m.length) (nI j) (l8 (fun b => nI (bg m (i + b))) j <<< (Int32.toInt64 (nI 8) &&& 63)) S) (F_bytes_71 N (fun a b c d e => L_bytes_34 N q a b c d e S) (nI k) (nI i) (nI m.length) (nI j) (l8 (fun b => nI (bg m (i + b))) j <<< (Int32.toInt64 (nI 8) &&& 63)) S) (fun z : Nat × Int64 × Unit => z = (0, eiB m i, ())) := fun hz => by
      unfold O_bytes_71 F_bytes_71 O_bytes_72 F_bytes_72
      rw [n_add]
      have := ih () trivial (by omega)
      have s : l8 (fun b => nI (bg m (i + b))) (j + 1) = (l8 (fun b => nI (bg m (i + b))) j <<< (Int32.toInt64 (nI 8) &&& 63)) ||| Int32.toInt64 (nI 0) := by
        show (l8 (fun b => nI (bg m (i + b))) j <<< (Int32.toInt64 (nI 8) &&& 63)) ||| Int32.toInt64 (nI (bg m (i + j))) = _
        rw [bg_out hz]
      rw [s] at this
      exact this
    refine wp_neg (by rw [n_le' (by omega) (by omega)]; omega) (wp_ite (fun c1 => ?_) (fun c1 => ?_)) <;> rw [n_le' (by omega) i1] at c1
    · exact zero (by omega)
    rw [n_sub (by omega)]
    refine wp_ite (fun c2 => ?_) (fun c2 => ?_) <;> rw [n_le' (by omega) (by omega)] at c2
    · exact zero (by omega)
    rw [n_add]
    obtain ⟨b1, b2⟩ := flyByte_ok (N := N) (i := i + j) hT0 k1 (by rw [← hm]; omega)
    rw [b2, ← hm]
    refine wp_and b1 ?_
    unfold O_bytes_72 F_bytes_72
    rw [n_add]
    exact ih () trivial (by omega)
  rintro z hz
  rw [hz]
  unfold OA_bytes_34 A_bytes_34 O_bytes_82 F_bytes_82
  refine wp_fin trivial (Or.inl ⟨k, i, k1, i1, rfl, rfl, ?_⟩)
  rw [← hm]
theorem mayLie_ok {x y : Int32} (h : rRp F H T S w) : o_mayLie N S x y ∧ ((∃ a b, mlA w H T x y a b ∧ f_mayLie N S x y = nI 1) ∨ ((¬ ∃ a b, mlA w H T x y a b) ∧ f_mayLie N S x y = nI 0)) := by
  have cb := h.1.1.b
  have c4 := h.1.1.2.2.2.1
  obtain ⟨i1, i2⟩ := isHonest_ok (N := N) h (x := x)
  obtain ⟨⟨ta, t1, t2, _⟩, _⟩ := h.sk
  show wp (O_mayLie_0 N x y S) (F_mayLie_0 N x y S) (fun v => (∃ a b, mlA w H T x y a b ∧ v = nI 1) ∨ ((¬ ∃ a b, mlA w H T x y a b) ∧ v = nI 0))
  unfold O_mayLie_0 F_mayLie_0
  have no : (¬ ∃ a b, mlA w H T x y a b) → wp (O_mayLie_51 N S) (F_mayLie_51 N S) (fun v => (∃ a b, mlA w H T x y a b ∧ v = nI 1) ∨ ((¬ ∃ a b, mlA w H T x y a b) ∧ v = nI 0)) := fun g => by
    unfold O_mayLie_51 F_mayLie_51 O_mayLie_52 F_mayLie_52
    exact wp_fin rfl (Or.inr ⟨g, rfl⟩)
  refine wp_and i1 ?_
  rcases i2 with ⟨k, k1, k2, k3⟩ | ⟨k1, k2⟩
  · rw [k3]
    refine wp_neg (by decide) (no ?_)
    rintro ⟨a, b, a1, a2, a3, a4, a5, a6, a7⟩
    rw [k2, n_eq' (by omega) (by omega)] at a6
    omega
  rw [k2]
  refine wp_pos rfl (wp_ite (fun c => ?_) (fun c => ?_))
  · refine no ?_
    rintro ⟨a, b, a1, a2, a3, a4, a5, a6, a7⟩
    exact n_lt0 (show a < 2147483648 by omega) (by rw [← a6]; exact c)
  obtain ⟨a, a1, a2⟩ := i_nat c
  have un : ∀ a' b', mlA w H T x y a' b' → a' = a := fun a' b' ⟨_, p2, _, _, _, p6, _⟩ => by
    rw [a2, n_eq' a1 (by omega)] at p6
    exact p6.symm
  have q1 : S.1 0 ≤ x ↔ T ≤ a := by rw [h.co.2.1, a2, n_le' (by omega) a1]
  refine wp_ite (fun d => ?_) (fun d => ?_) <;> rw [q1] at d
  · refine no ?_
    rintro ⟨a', b', z⟩
    have := un a' b' z
    have := z.2.1
    omega
  refine wp_ite (fun e => ?_) (fun e => ?_)
  · refine no ?_
    rintro ⟨a', b', _, _, p3, _, _, _, p7⟩
    exact n_lt0 (show b' < 2147483648 by omega) (by rw [← p7]; exact e)
  obtain ⟨b, b1, b2⟩ := i_nat e
  have ub : ∀ a' b', mlA w H T x y a' b' → b' = b := fun a' b' ⟨_, _, p3, _, _, _, p7⟩ => by
    rw [b2, n_eq' b1 (by omega)] at p7
    exact p7.symm
  have q2 : S.1 0 ≤ y ↔ T ≤ b := by rw [h.co.2.1, b2, n_le' (by omega) b1]
  refine wp_ite (fun f => ?_) (fun f => ?_) <;> rw [q2] at f
  · refine no ?_
    rintro ⟨a', b', z⟩
    have := ub a' b' z
    have := z.2.2.1
    omega
  have q3 : y = x ↔ b = a := by rw [a2, b2, n_eq' (by omega) (by omega)]
  refine wp_ite (fun g => ?_) (fun g => ?_) <;> rw [q3] at g
  · refine no ?_
    rintro ⟨a', b', z⟩
    have := un a' b' z
    have := ub a' b' z
    have := z.2.2.2.1
    omega
  rw [t1]
  refine wp_ite (fun l => ?_) (fun l => ?_) <;> rw [n_le' (by omega) (by omega)] at l
  · refine no ?_
    rintro ⟨a', b', z⟩
    have := z.2.2.2.2.1
    omega
  · unfold O_mayLie_52 F_mayLie_52
    have ha : H ≤ a := by
      by_cases c : H ≤ a
      · exact c
      · exact absurd ⟨a, by omega, a2⟩ k1
    exact wp_fin rfl (Or.inl ⟨a, b, ⟨ha, (by omega), (by omega), fun z => g z.symm, (by omega), a2, b2⟩, rfl⟩)
theorem pass_ok {x y v : Int32} (hN : 2000 ≤ N) (h : rRp F H T S w) : wp (o_pass N S x y v) (f_pass N S x y v) (fun z => (∃ a b k, mlA w H T x y a b ∧ k < (wK w).1.length ∧ v = nI k ∧ rRp F H T z.2 (aPost w a b (fg (wK w).1 k).2.2.2) ∧ z.1 = nI 1) ∨ ((¬ ∃ a b k, mlA w H T x y a b ∧ k < (wK w).1.length ∧ v = nI k) ∧ rRp F H T z.2 w ∧ z.1 = nI 0)) := by
  have cb := h.1.1.b
  obtain ⟨i1, i2⟩ := mayLie_ok (N := N) h (x := x) (y := y)
  obtain ⟨j1, j2⟩ := isFlying_ok (N := N) h (x := v)
  show wp (O_pass_0 N x y v S) (F_pass_0 N x y v S) _
  unfold O_pass_0 F_pass_0
  have no : (¬ ∃ a b k, mlA w H T x y a b ∧ k < (wK w).1.length ∧ v = nI k) → wp (O_pass_17 N S) (F_pass_17 N S) (fun z => (∃ a b k, mlA w H T x y a b ∧ k < (wK w).1.length ∧ v = nI k ∧ rRp F H T z.2 (aPost w a b (fg (wK w).1 k).2.2.2) ∧ z.1 = nI 1) ∨ ((¬ ∃ a b k, mlA w H T x y a b ∧ k < (wK w).1.length ∧ v = nI k) ∧ rRp F H T z.2 w ∧ z.1 = nI 0)) := fun g => by
    unfold O_pass_17 F_pass_17
    exact wp_fin trivial (Or.inr ⟨g, h, rfl⟩)
  refine wp_and i1 ?_
  rcases i2 with ⟨a, b, m1, m2⟩ | ⟨m1, m2⟩
  rotate_left
  · rw [m2]
    exact wp_pos rfl (no (fun ⟨a, b, k, z, _⟩ => m1 ⟨a, b, z⟩))
  rw [m2]
  refine wp_neg (by decide) (wp_and j1 ?_)
  rcases j2 with ⟨k, k1, k2, k3⟩ | ⟨k1, k2⟩
  rotate_left
  · rw [k2]
    exact wp_pos rfl (no (fun ⟨a, b, k, _, z⟩ => k1 ⟨k, z⟩))
  rw [k3, k2]
  obtain ⟨⟨ta, t1, t2, t3, t4, t5, t6, t7, t8⟩, _⟩ := h.sk
  obtain ⟨_, _, _, _, _, y6⟩ := t8 k k1
  refine wp_neg (by decide) (wp_call (load_ok hN h k1) (fun q => ?_))
  obtain ⟨q1, q2⟩ := q
  have R1 := h.sf (sf32 q1)
  generalize f_load N S (nI k) = S1 at q2 R1 ⊢
  obtain ⟨p1, p2, p3, p4, p5, p6, p7⟩ := m1
  unfold O_pass_24 F_pass_24
  rw [p6, p7]
  refine wp_call (fly_ok (tk := wT w) (by omega) q2 y6.2.2.2.1 R1.sk R1.co.2.2.2.2.2.1 (by omega) (by omega) (by have := h.co.2.2.2.2.2.2.1; omega)) (fun r => ?_)
  unfold O_pass_30 F_pass_30
  rw [r.2.2, if_pos p5]
  exact wp_fin rfl (Or.inl ⟨a, b, k, ⟨p1, p2, p3, p4, p5, rfl, rfl⟩, k1, rfl, R1.sky r.1 r.2.1, rfl⟩)
def aCopy (w : Wd) (k : Nat) : Wd := sK w ((wK w).1 ++ [((fg (wK w).1 k).1, (fg (wK w).1 k).2.1, wT w, (fg (wK w).1 k).2.2.2)], (wK w).2)
theorem copy_ok {x : Int32} (hN : 1000 ≤ N) (h : rRp F H T S w) : wp (o_copy N S x) (f_copy N S x) (fun z => (∃ k, k < (wK w).1.length ∧ (wK w).1.length < 1000 ∧ x = nI k ∧ rRp F H T z.2 (aCopy w k) ∧ z.1 = nI 1) ∨ ((¬ ∃ k, k < (wK w).1.length ∧ (wK w).1.length < 1000 ∧ x = nI k) ∧ rRp F H T z.2 w ∧ z.1 = nI 0)) := by
  have cb := h.1.1.b
  obtain ⟨j1, j2⟩ := isFlying_ok (N := N) h (x := x)
  obtain ⟨⟨ta, hT⟩, s4, s5⟩ := h.sk
  have hT0 := hT
  obtain ⟨t1, t2, t3, t4, t5, t6, t7, t8⟩ := hT
  show wp (O_copy_0 N x S) (F_copy_0 N x S) _
  unfold O_copy_0 F_copy_0
  have no : (¬ ∃ k, k < (wK w).1.length ∧ (wK w).1.length < 1000 ∧ x = nI k) → wp (O_copy_18 N S) (F_copy_18 N S) (fun z => (∃ k, k < (wK w).1.length ∧ (wK w).1.length < 1000 ∧ x = nI k ∧ rRp F H T z.2 (aCopy w k) ∧ z.1 = nI 1) ∨ ((¬ ∃ k, k < (wK w).1.length ∧ (wK w).1.length < 1000 ∧ x = nI k) ∧ rRp F H T z.2 w ∧ z.1 = nI 0)) := fun g => by
    unfold O_copy_18 F_copy_18
    exact wp_fin trivial (Or.inr ⟨g, h, rfl⟩)
  refine wp_and j1 ?_
  rcases j2 with ⟨k, k1, k2, k3⟩ | ⟨k1, k2⟩
  rotate_left
  · rw [k2]
    exact wp_pos rfl (no (fun ⟨k, a, b, c⟩ => k1 ⟨k, a, c⟩))
  rw [k3, t1]
  obtain ⟨L, hL⟩ : ∃ L, L = (wK w).1.length := ⟨_, rfl⟩
  rw [← hL] at t2 k1 no ⊢
  refine wp_neg (by decide) (wp_ite (fun c => ?_) (fun c => ?_)) <;> rw [n_eq' (by omega) (by omega)] at c
  · exact no (fun ⟨k, a, b, _⟩ => by omega)
  have lt : L < 1000 := by omega
  obtain ⟨y1, y2, y3, y4, y5, y6⟩ := t8 k (by rw [← hL]; exact k1)
  have sl := t6 k (by omega)
  have sL := t6 L lt
  have cl : x.toNatClampNeg = k := by rw [k2]; exact n_clamp (by omega)
  have vi : vp_in x 1000 := by rw [k2]; exact ((n_in (by omega)).2 (by omega))
  rw [cl, t4 k (by rw [← hL]; exact k1)]
  have ts := takeSlot_ok (N := N) hT0 (by rw [← hL]; exact lt)
  rw [← hL] at ts
  refine wp_and vi (wp_call ts (fun q => ?_))
  obtain ⟨q0, q1, q2, q3, q4, q5⟩ := q
  generalize f_takeSlot N S = y at q0 q1 q2 q3 q4 q5 ⊢
  have tk := h.co.2.2.2.2.2.1
  unfold O_copy_31 F_copy_31
  rw [q0, n_clamp (by omega), n_clamp (by omega), A_other _ _ _ (by decide), q1.a 27 (by decide), q1.a 28 (by decide), y1, y2]
  have f2 : rfr skL S (rsA (rsA y.2 27 (ta L) (nI (fg (wK w).1 k).1)) 28 (ta L) (nI (fg (wK w).1 k).2.1)) := ((q1.mono (by decide)).trans (rfr.one (by decide))).trans (rfr.one (by decide))
  have w27 : (rsA (rsA y.2 27 (ta L) (nI (fg (wK w).1 k).1)) 28 (ta L) (nI (fg (wK w).1 k).2.1)).2.1 27 = upd (S.2.1 27) (ta L) (nI (fg (wK w).1 k).1) := by rw [A_other _ _ _ (by decide), A_same, q1.a 27 (by decide)]
  have w28 : (rsA (rsA y.2 27 (ta L) (nI (fg (wK w).1 k).1)) 28 (ta L) (nI (fg (wK w).1 k).2.1)).2.1 28 = upd (S.2.1 28) (ta L) (nI (fg (wK w).1 k).2.1) := by rw [A_same, A_other _ _ _ (by decide), q1.a 28 (by decide)]
  have w29 : (rsA (rsA y.2 27 (ta L) (nI (fg (wK w).1 k).1)) 28 (ta L) (nI (fg (wK w).1 k).2.1)).2.1 29 = S.2.1 29 := by rw [A_other _ _ _ (by decide), A_other _ _ _ (by decide), q1.a 29 (by decide)]
  have w30 : (rsA (rsA y.2 27 (ta L) (nI (fg (wK w).1 k).1)) 28 (ta L) (nI (fg (wK w).1 k).2.1)).2.1 30 = upd (S.2.1 30) (ta L) (nI (wT w)) := by rw [A_other _ _ _ (by decide), A_other _ _ _ (by decide), q5, tk]
  have w24 : (rsA (rsA y.2 27 (ta L) (nI (fg (wK w).1 k).1)) 28 (ta L) (nI (fg (wK w).1 k).2.1)).2.1 24 = upd (S.2.1 24) L (nI (ta L)) := by rw [A_other _ _ _ (by decide), A_other _ _ _ (by decide), q4]
  have w26 : (rsA (rsA y.2 27 (ta L) (nI (fg (wK w).1 k).1)) 28 (ta L) (nI (fg (wK w).1 k).2.1)).2.1 26 = S.2.1 26 := by rw [A_other _ _ _ (by decide), A_other _ _ _ (by decide), q1.a 26 (by decide)]
  have w23 : (rsA (rsA y.2 27 (ta L) (nI (fg (wK w).1 k).1)) 28 (ta L) (nI (fg (wK w).1 k).2.1)).1 23 = nI (L + 1) := by rw [A_I, A_I]; exact q2
  have w25 : (rsA (rsA y.2 27 (ta L) (nI (fg (wK w).1 k).1)) 28 (ta L) (nI (fg (wK w).1 k).2.1)).1 25 = nI (1000 - (L + 1)) := by rw [A_I, A_I]; exact q3
  have w4 : (rsA (rsA y.2 27 (ta L) (nI (fg (wK w).1 k).1)) 28 (ta L) (nI (fg (wK w).1 k).2.1)).1 4 = iI (wK w).2.1 := by rw [A_I, A_I, q1.i 4 (by decide)]; exact s4
  have w5 : (rsA (rsA y.2 27 (ta L) (nI (fg (wK w).1 k).1)) 28 (ta L) (nI (fg (wK w).1 k).2.1)).1 5 = iI (wK w).2.2 := by rw [A_I, A_I, q1.i 5 (by decide)]; exact s5
  have w31 : (rsA (rsA y.2 27 (ta L) (nI (fg (wK w).1 k).1)) 28 (ta L) (nI (fg (wK w).1 k).2.1)).2.2 31 = S.2.2 31 := by rw [A_L, A_L, q1.l 31 (by decide)]
  refine wp_and ((n_in (by omega)).2 (by omega)) (wp_and ((n_in (by omega)).2 (by omega)) (wp_and ((n_in (by omega)).2 (by omega)) (wp_and ((n_in (by omega)).2 (by omega)) ?_)))
  generalize rsA (rsA y.2 27 (ta L) (nI (fg (wK w).1 k).1)) 28 (ta L) (nI (fg (wK w).1 k).2.1) = S2 at f2 w27 w28 w29 w30 w24 w26 w23 w25 w4 w5 w31 ⊢
  unfold O_copy_56 F_copy_56
  rw [n_clamp (by omega), n_clamp (by omega), w29, y3]
  refine wp_and ((n_in (by omega)).2 (by omega)) (wp_and ((n_in (by omega)).2 (by omega)) ?_)
  obtain ⟨m, hm⟩ : ∃ m, m = (fg (wK w).1 k).2.2.2 := ⟨_, rfl⟩
  rw [← hm]
  have f3 : rfr [29, 31] S2 (rsA S2 29 (ta L) (nI m.length)) := rfr.one (by decide)
  have x29 : (rsA S2 29 (ta L) (nI m.length)).2.1 29 = upd (S.2.1 29) (ta L) (nI m.length) := by rw [A_same, w29]
  have x31 : (rsA S2 29 (ta L) (nI m.length)).2.2 31 = S.2.2 31 := by rw [A_L]; exact w31
  generalize rsA S2 29 (ta L) (nI m.length) = S3 at f3 x29 x31 ⊢
  have ne : ta k ≠ ta L := fun z => by have := t7 k L (by omega) lt z; omega
  refine wp_seq (Q := fun z : Nat × rS => rfr [31] S3 z.2 ∧ ∀ j, z.2.2.2 31 j = if 125 * ta L ≤ j ∧ j < 125 * ta L + 125 then S.2.2 31 (125 * ta k + (j - 125 * ta L)) else S.2.2 31 j) ?_ ?_
  · refine wp_loop (K := 125) (fun i y => rfr [31] S3 y ∧ ∀ j, y.2.2 31 j = if 125 * ta L ≤ j ∧ j < 125 * ta L + i then S.2.2 31 (125 * ta k + (j - 125 * ta L)) else S.2.2 31 j) (fun q i y => OL_copy_71 N q (nI (ta k)) (nI (ta L)) (nI i) y) (fun q i y => L_copy_71 N q (nI (ta k)) (nI (ta L)) (nI i) y) (fun q i y hi hI ih => ?_) 0 N S3 (by omega) (by omega) ⟨rfr.refl, fun j => by rw [if_neg (by omega), x31]⟩
    unfold OL_copy_71 L_copy_71 OB_copy_71 B_copy_71
    by_cases e : i = 125
    · refine wp_pos (by rw [n_le' (by omega) (by omega)]; omega) ?_
      subst e
      exact wp_fin trivial hI
    simp only [n_mul, n_add]
    rw [n_clamp (by omega), n_clamp (by omega)]
    refine wp_neg (by rw [n_le' (by omega) (by omega)]; omega) (wp_and ((n_in (by omega)).2 (by omega)) (wp_and ((n_in (by omega)).2 (by omega)) (ih _ ⟨hI.1.trans (rfr.oneL (by decide)), fun j => ?_⟩ (by omega))))
    rw [L_same]
    by_cases c2 : j = 125 * ta L + i
    · rw [c2, updL_same, if_pos (by omega), hI.2, if_neg (by omega), Nat.add_sub_cancel_left]
    · rw [updL_other _ _ c2, hI.2]
      by_cases c3 : 125 * ta L ≤ j ∧ j < 125 * ta L + i
      · rw [if_pos c3, if_pos (by omega)]
      · rw [if_neg c3, if_neg (by omega)]
  rintro z ⟨z1, z2⟩
  unfold OA_copy_71 A_copy_71 O_copy_108 F_copy_108
  have fz : rfr [29, 31] S2 z.2 := f3.trans (z1.mono (by decide))
  have lb : ∀ a j, j < 1000 → (a ≠ ta L → lby (z.2.2.2 31) (1000 * a + j) = lby (S.2.2 31) (1000 * a + j)) ∧ (a = ta L → lby (z.2.2.2 31) (1000 * a + j) = lby (S.2.2 31) (1000 * ta k + j)) := fun a j hj => by
    unfold lby
    rw [show (1000 * a + j) / 8 = 125 * a + j / 8 by omega, show (1000 * a + j) % 8 = j % 8 by omega, show (1000 * ta k + j) / 8 = 125 * ta k + j / 8 by omega, show (1000 * ta k + j) % 8 = j % 8 by omega, z2]
    constructor
    · intro na
      rw [if_neg (by omega)]
    · intro na
      rw [na, if_pos (by omega), Nat.add_sub_cancel_left]
  refine wp_fin trivial (Or.inl ⟨k, k1, lt, k2, ?_, rfl⟩)
  refine h.sky (f2.trans (fz.mono (by decide))) ?_
  rw [← hm]
  refine ⟨⟨ta, ?_, ?_, ?_, fun i hi => ?_, fun i hi hi2 => ?_, t6, t7, fun i hi => ?_⟩, ?_, ?_⟩
  · rw [fz.i 23 (by decide), w23]
    show _ = nI ((wK w).1 ++ [_]).length
    rw [List.length_append, hL]
    rfl
  · show ((wK w).1 ++ [_]).length ≤ 1000
    rw [List.length_append, ← hL]
    show L + 1 ≤ 1000
    omega
  · rw [fz.i 25 (by decide), w25]
    show _ = nI (1000 - ((wK w).1 ++ [_]).length)
    rw [List.length_append, hL]
    rfl
  · have hi : i < ((wK w).1 ++ [_]).length := hi
    rw [List.length_append, ← hL] at hi
    have hi : i < L + 1 := hi
    rw [fz.a 24 (by decide), w24]
    by_cases e : i = L
    · rw [e, upd_same]
    · rw [upd_other _ _ e]; exact t4 i (by rw [← hL]; omega)
  · have hi : ((wK w).1 ++ [_]).length ≤ i := hi
    rw [List.length_append, ← hL] at hi
    have hi : L + 1 ≤ i := hi
    rw [fz.a 26 (by decide), w26]
    exact t5 i (by rw [← hL]; omega) hi2
  · have hi : i < ((wK w).1 ++ [_]).length := hi
    rw [List.length_append, ← hL] at hi
    have hi : i < L + 1 := hi
    show flR z.2 (ta i) (fg ((wK w).1 ++ [((fg (wK w).1 k).1, (fg (wK w).1 k).2.1, wT w, m)]) i)
    unfold flR
    rw [fz.a 27 (by decide), fz.a 28 (by decide), fz.a 30 (by decide), z1.a 29 (by decide), w27, w28, w30, x29, fg_snoc, ← hL]
    by_cases e : i = L
    · rw [if_neg (by omega), if_pos e, e, upd_same, upd_same, upd_same, upd_same]
      rw [← hm] at y5
      obtain ⟨o1, o2, o3, o4, o5, o6⟩ := y6
      rw [← hm] at o4 o5 o6
      refine ⟨rfl, rfl, rfl, rfl, fun j hj => ?_, o1, o2, ?_, o4, o5, o6⟩
      · have hj : j < m.length := hj
        rw [(lb (ta L) j (by omega)).2 rfl]
        exact y5 j hj
      · show wT w < 1000000
        have := h.co.2.2.2.2.2.2.1
        omega
    · have ne2 : ta i ≠ ta L := fun q => e (t7 _ _ (by omega) (by omega) q)
      obtain ⟨u1, u2, u3, u4, u5, u6⟩ := t8 i (by rw [← hL]; omega)
      rw [if_pos (by omega), upd_other _ _ ne2, upd_other _ _ ne2, upd_other _ _ ne2, upd_other _ _ ne2]
      refine ⟨u1, u2, u3, u4, fun j hj => ?_, u6⟩
      have l1 := u6.2.2.2.2.1
      rw [(lb (ta i) j (by omega)).1 ne2]
      exact u5 j hj
  · show z.2.1 4 = _
    rw [fz.i 4 (by decide)]; exact w4
  · show z.2.1 5 = _
    rw [fz.i 5 (by decide)]; exact w5
end
end

section
/-! THE REFERENCE: payments are submitted; the tape is hashed and stamped -/
theorem sl_sn (m : List Nat) (f j : Nat) : sl m f j ++ [bg m (f + j)] = sl m f (j + 1) := by
  unfold sl mkB
  rw [List.range_succ, List.map_append]
  simp
/-- bytes laid over others -/
def laB (l : List Nat) (a : Nat) (d : List Nat) : List Nat := mkB l.length (fun i => if a ≤ i ∧ i < a + d.length then bg d (i - a) else bg l i)
theorem laB_len (l : List Nat) (a : Nat) (d : List Nat) : (laB l a d).length = l.length := mkB_len _ _
theorem laB_B {l d : List Nat} (a : Nat) (hl : isB l) (hd : isB d) : isB (laB l a d) := isB_mk (fun i _ => by
  split
  · exact hd _
  · exact hl _)
def suA (w : Wd) (H : Nat) (x1 x2 x3 x4 x5 x6 : Int32) (n a b c d e : Nat) : Prop := n < H ∧ wN w n 0 = 1 ∧ a < 16 ∧ b < 16 ∧ a ≠ b ∧ 1 ≤ c ∧ c ≤ 1000 ∧ d < 65536 ∧ 1 ≤ e ∧ e ≤ 9 ∧ x1 = nI n ∧ x2 = nI a ∧ x3 = nI b ∧ x4 = nI c ∧ x5 = nI d ∧ x6 = nI e
noncomputable def aSub (w : Wd) (n T : Nat) (p : List Nat) : Wd := if (aPool w n p).1 then aAll (aPool w n p).2 n T (0 :: p) else (aPool w n p).2
def hsA (w : Wd) (x y : Int32) (v : Int64) : Prop := (∃ n k, n ≤ (wL w).length ∧ k ≤ 3 ∧ x = nI n ∧ y = nI k ∧ v = eiB (shaB (sl (wL w) 0 n)) (8 * k)) ∨ ((¬ ∃ n k, n ≤ (wL w).length ∧ k ≤ 3 ∧ x = nI n ∧ y = nI k) ∧ v = 0)
/-- what is stamped -/
def spT (w : Wd) (y u : Int32) (t : List Nat) : Prop := (y = -1 ∧ ∃ f, f + 101 ≤ (wL w).length ∧ u = nI f ∧ t = sl (wL w) f 101) ∨ (y ≠ -1 ∧ ∃ k, k < (wK w).1.length ∧ y = nI k ∧ ((bg (fg (wK w).1 k).2.2.2 0 = 1 ∧ 107 ≤ (fg (wK w).1 k).2.2.2.length ∧ t = sl (fg (wK w).1 k).2.2.2 6 101) ∨ (bg (fg (wK w).1 k).2.2.2 0 = 4 ∧ 102 ≤ (fg (wK w).1 k).2.2.2.length ∧ t = sl (fg (wK w).1 k).2.2.2 1 101)))
section
variable {N n F H T : Nat} {S : rS} {w : Wd}
theorem i_le0 {x : Int32} (h : ¬ x < 0) : ∃ k : Nat, k < 2147483648 ∧ x = nI k := i_nat h
theorem i_pos {x : Int32} (h : ¬ x ≤ 0) : ∃ k : Nat, 1 ≤ k ∧ k < 2147483648 ∧ x = nI k := by
  have h' : ¬ x < 0 := fun z => h (by
    rw [Int32.lt_iff_toInt_lt] at z
    rw [Int32.le_iff_toInt_le]
    omega)
  obtain ⟨k, k1, k2⟩ := i_nat h'
  refine ⟨k, ?_, k1, k2⟩
  rw [k2, n_le0 k1] at h
  omega
theorem submit_ok {x1 x2 x3 x4 x5 x6 : Int32} (hN : 1000 ≤ N) (h : rRp F H T S w) (u : ∀ n, n < H → 0 ≤ wN w n 0 ∧ wN w n 0 ≤ 1) : wp (o_submit N S x1 x2 x3 x4 x5 x6) (f_submit N S x1 x2 x3 x4 x5 x6) (fun z => (∃ n a b c d e, suA w H x1 x2 x3 x4 x5 x6 n a b c d e ∧ rRp F H T z.2 (aSub w n T (pyT a b c d e)) ∧ z.1 = nI (if (aPool w n (pyT a b c d e)).1 then 1 else 0)) ∨ ((¬ ∃ n a b c d e, suA w H x1 x2 x3 x4 x5 x6 n a b c d e) ∧ rRp F H T z.2 w ∧ z.1 = nI 0)) := by
  have cb := h.1.1.b
  obtain ⟨i1, i2⟩ := isUp_ok (N := N) h u (x := x1)
  have no : (¬ ∃ n a b c d e, suA w H x1 x2 x3 x4 x5 x6 n a b c d e) → wp (O_submit_67 N x1 x2 x3 x4 x5 x6 S) (F_submit_67 N x1 x2 x3 x4 x5 x6 S) (fun z => (∃ n a b c d e, suA w H x1 x2 x3 x4 x5 x6 n a b c d e ∧ rRp F H T z.2 (aSub w n T (pyT a b c d e)) ∧ z.1 = nI (if (aPool w n (pyT a b c d e)).1 then 1 else 0)) ∨ ((¬ ∃ n a b c d e, suA w H x1 x2 x3 x4 x5 x6 n a b c d e) ∧ rRp F H T z.2 w ∧ z.1 = nI 0)) := fun g => by
    unfold O_submit_67 F_submit_67 O_submit_68 F_submit_68
    have fin : wp (O_submit_99 N S) (F_submit_99 N S) (fun z => (∃ n a b c d e, suA w H x1 x2 x3 x4 x5 x6 n a b c d e ∧ rRp F H T z.2 (aSub w n T (pyT a b c d e)) ∧ z.1 = nI (if (aPool w n (pyT a b c d e)).1 then 1 else 0)) ∨ ((¬ ∃ n a b c d e, suA w H x1 x2 x3 x4 x5 x6 n a b c d e) ∧ rRp F H T z.2 w ∧ z.1 = nI 0)) := by
      unfold O_submit_99 F_submit_99
      exact wp_fin trivial (Or.inr ⟨g, h, rfl⟩)
    exact wp_and i1 (wp_ite (fun _ => fin) (fun _ => wp_pos rfl fin))
  show wp (O_submit_0 N x1 x2 x3 x4 x5 x6 S) (F_submit_0 N x1 x2 x3 x4 x5 x6 S) _
  unfold O_submit_0 F_submit_0
  refine wp_ite (fun q => ?_) (fun q2 => ?_)
  · exact no (fun ⟨n, a, b, c, d, e, _, _, p3, _, _, _, _, _, _, _, _, p12, _⟩ => n_lt0 (show a < 2147483648 by omega) (by rw [← p12]; exact q))
  obtain ⟨a, a1, a2⟩ := i_nat q2
  have y2 : nI 16 ≤ x2 ↔ 16 ≤ a := by rw [a2, n_le' (by omega) a1]
  refine wp_ite (fun q => ?_) (fun q3 => ?_)
  · rw [y2] at q
    exact no (fun ⟨n, a', b, c, d, e, _, _, p3, _, _, _, _, _, _, _, _, p12, _⟩ => by rw [a2, n_eq' a1 (by omega)] at p12; omega)
  rw [y2] at q3
  refine wp_ite (fun q => ?_) (fun q4 => ?_)
  · exact no (fun ⟨n, a', b, c, d, e, _, _, _, p4, _, _, _, _, _, _, _, _, p13, _⟩ => n_lt0 (show b < 2147483648 by omega) (by rw [← p13]; exact q))
  obtain ⟨b, b1, b2⟩ := i_nat q4
  have y3 : nI 16 ≤ x3 ↔ 16 ≤ b := by rw [b2, n_le' (by omega) b1]
  refine wp_ite (fun q => ?_) (fun q5 => ?_)
  · rw [y3] at q
    exact no (fun ⟨n, a', b', c, d, e, _, _, _, p4, _, _, _, _, _, _, _, _, p13, _⟩ => by rw [b2, n_eq' b1 (by omega)] at p13; omega)
  rw [y3] at q5
  have y4 : x2 = x3 ↔ a = b := by rw [a2, b2, n_eq' (by omega) (by omega)]
  refine wp_ite (fun q => ?_) (fun q6 => ?_)
  · rw [y4] at q
    exact no (fun ⟨n, a', b', c, d, e, _, _, p3, p4, p5, _, _, _, _, _, _, p12, p13, _⟩ => by rw [a2, n_eq' a1 (by omega)] at p12; rw [b2, n_eq' b1 (by omega)] at p13; omega)
  rw [y4] at q6
  refine wp_ite (fun q => ?_) (fun q7 => ?_)
  · exact no (fun ⟨n, a', b', c, d, e, _, _, _, _, _, p6, p7, _, _, _, _, _, _, p14, _⟩ => by rw [p14, n_le0 (by omega)] at q; omega)
  obtain ⟨c, c0, c1, c2⟩ := i_pos q7
  have y5 : nI 1000 < x4 ↔ 1000 < c := by rw [c2, n_lt' (by omega) c1]
  refine wp_ite (fun q => ?_) (fun q8 => ?_)
  · rw [y5] at q
    exact no (fun ⟨n, a', b', c', d, e, _, _, _, _, _, p6, p7, _, _, _, _, _, _, p14, _⟩ => by rw [c2, n_eq' c1 (by omega)] at p14; omega)
  rw [y5] at q8
  refine wp_ite (fun q => ?_) (fun q9 => ?_)
  · exact no (fun ⟨n, a', b', c', d, e, _, _, _, _, _, _, _, p8, _, _, _, _, _, _, p15, _⟩ => n_lt0 (show d < 2147483648 by omega) (by rw [← p15]; exact q))
  obtain ⟨d, d1, d2⟩ := i_nat q9
  have y6 : (65536 : Int32) ≤ x5 ↔ 65536 ≤ d := by rw [d2, show (65536 : Int32) = nI 65536 from rfl, n_le' (by omega) d1]
  refine wp_ite (fun q => ?_) (fun q10 => ?_)
  · rw [y6] at q
    exact no (fun ⟨n, a', b', c', d', e, _, _, _, _, _, _, _, p8, _, _, _, _, _, _, p15, _⟩ => by rw [d2, n_eq' d1 (by omega)] at p15; omega)
  rw [y6] at q10
  refine wp_ite (fun q => ?_) (fun q11 => ?_)
  · exact no (fun ⟨n, a', b', c', d', e, _, _, _, _, _, _, _, _, p9, p10, _, _, _, _, _, p16⟩ => by rw [p16, n_le0 (by omega)] at q; omega)
  obtain ⟨e, e0, e1, e2⟩ := i_pos q11
  have y7 : nI 10 ≤ x6 ↔ 10 ≤ e := by rw [e2, n_le' (by omega) e1]
  refine wp_ite (fun q => ?_) (fun q12 => ?_)
  · rw [y7] at q
    exact no (fun ⟨n, a', b', c', d', e', _, _, _, _, _, _, _, _, p9, p10, _, _, _, _, _, p16⟩ => by rw [e2, n_eq' e1 (by omega)] at p16; omega)
  rw [y7] at q12
  unfold O_submit_68 F_submit_68
  refine wp_and i1 ?_
  rcases i2 with ⟨n, n1, n2, n3, n4⟩ | ⟨n1, n2⟩
  rotate_left
  · rw [n2]
    refine wp_pos rfl ?_
    unfold O_submit_99 F_submit_99
    exact wp_fin trivial (Or.inr ⟨fun ⟨n, a', b', c', d', e', p1, p2, _, _, _, _, _, _, _, _, p11, _⟩ => n1 ⟨n, p1, p11, p2⟩, h, rfl⟩)
  have su : suA w H x1 x2 x3 x4 x5 x6 n a b c d e := ⟨n1, n3, (by omega), (by omega), q6, c0, (by omega), (by omega), e0, (by omega), n2, a2, b2, c2, d2, e2⟩
  rw [n4, n2, a2, b2, c2, d2, e2]
  rw [n2, a2, b2, c2, d2, e2] at su
  refine wp_neg (by decide) (wp_neg (show ¬ nI 1 = 0 by decide) (wp_call (toPool_ok (a := a) (b := b) (c := c) (d := d) (e := e) hN h n1 (by omega) (by omega) (by omega) (by omega) (by omega)) (fun r => ?_)))
  obtain ⟨r1, r2, r3⟩ := r
  generalize f_toPool N S (nI n) (nI a) (nI b) (nI c) (nI d) (nI e) = y at r1 r2 r3 ⊢
  unfold O_submit_96 F_submit_96
  rw [r3]
  have fin : ∀ z : Int32 × rS, rRp F H T z.2 (aSub w n T (pyT a b c d e)) → z.1 = nI (if (aPool w n (pyT a b c d e)).1 then 1 else 0) → (fun z => (∃ n' a' b' c' d' e', suA w H (nI n) (nI a) (nI b) (nI c) (nI d) (nI e) n' a' b' c' d' e' ∧ rRp F H T z.2 (aSub w n' T (pyT a' b' c' d' e')) ∧ z.1 = nI (if (aPool w n' (pyT a' b' c' d' e')).1 then 1 else 0)) ∨ ((¬ ∃ n' a' b' c' d' e', suA w H (nI n) (nI a) (nI b) (nI c) (nI d) (nI e) n' a' b' c' d' e') ∧ rRp F H T z.2 w ∧ z.1 = nI 0)) z := fun z z1 z2 => Or.inl ⟨n, a, b, c, d, e, su, z1, z2⟩
  unfold aSub at fin
  have eT : wT (aPool w n (pyT a b c d e)).2 = wT w := wfr.pool.2.1
  have h9 := h.co.2.2.2.2.2.2.1
  cases hp : (aPool w n (pyT a b c d e)).1 with
  | false =>
    rw [hp] at fin
    refine wp_pos rfl ?_
    unfold O_submit_99 F_submit_99
    exact wp_fin trivial (fin _ r2 rfl)
  | true =>
    rw [hp] at fin
    refine wp_neg (show ¬ nI 1 = 0 by decide) (wp_call (writeN_ok (x := 0) (by omega) mB0 (by simp)) (fun r => ?_))
    have f1 : rfr [32, 33] y.2 _ := (rfr.oneI (L := [32, 33]) (by decide)).trans r.1
    have m1 := r.2
    generalize f_write N (rsI y.2 33 (nI 0)) (nI 0) = S1 at f1 m1 ⊢
    unfold O_submit_111 F_submit_111
    refine wp_call (writeN_ok (x := a) (by omega) m1 (by simp)) (fun r => ?_)
    have f2 := f1.trans r.1
    have m2 := r.2
    generalize f_write N S1 (nI a) = S2 at f2 m2 ⊢
    unfold O_submit_116 F_submit_116
    refine wp_call (writeN_ok (x := b) (by omega) m2 (by simp)) (fun r => ?_)
    have f3 := f2.trans r.1
    have m3 := r.2
    generalize f_write N S2 (nI b) = S3 at f3 m3 ⊢
    unfold O_submit_121 F_submit_121
    refine wp_call (writeTwo_ok (v := c) (by omega) m3 (by simp)) (fun r => ?_)
    have f4 := f3.trans r.1
    have m4 := r.2
    generalize f_writeTwo N S3 (nI c) = S4 at f4 m4 ⊢
    unfold O_submit_127 F_submit_127
    refine wp_call (writeTwo_ok (v := d) (by omega) m4 (by simp)) (fun r => ?_)
    have f5 := f4.trans r.1
    have m5 := r.2
    generalize f_writeTwo N S4 (nI d) = S5 at f5 m5 ⊢
    unfold O_submit_133 F_submit_133
    refine wp_call (writeN_ok (x := e) (by omega) m5 (by simp)) (fun r => ?_)
    have f6 := f5.trans r.1
    have m6 : mB (f_write N S5 (nI e)) (0 :: pyT a b c d e) := r.2
    generalize f_write N S5 (nI e) = S6 at f6 m6 ⊢
    have R6 := r2.sf (sf32 f6)
    unfold O_submit_139 F_submit_139
    refine wp_call (flyAll_ok (T := T) (tk := wT (aPool w n (pyT a b c d e)).2) hN R6.co.2.1 (by omega) m6 (by simp) R6.sk R6.co.2.2.2.2.2.1 (by omega) (by rw [eT]; omega)) (fun r => ?_)
    unfold O_submit_144 F_submit_144
    exact wp_fin trivial (fin _ (R6.sky r.1 r.2) rfl)
theorem hash_q {x y : Int32} (hN : 2000 ≤ N) (h : rRp F H T S w) : wp (o_hash N S x y) (f_hash N S x y) (fun z => sfr S z.2 ∧ hsA w x y z.1) := by
  have ht := h.co.2.2.2.2.2.2.2
  have tl := ht.2.1
  show wp (O_hash_0 N x y S) (F_hash_0 N x y S) _
  unfold O_hash_0 F_hash_0
  have no : (¬ ∃ n k, n ≤ (wL w).length ∧ k ≤ 3 ∧ x = nI n ∧ y = nI k) → wp (O_hash_21 N S) (F_hash_21 N S) (fun z => sfr S z.2 ∧ hsA w x y z.1) := fun g => by
    unfold O_hash_21 F_hash_21
    exact wp_fin trivial ⟨sfr.refl, Or.inr ⟨g, rfl⟩⟩
  refine wp_ite (fun c => ?_) (fun c => ?_)
  · exact no (fun ⟨n, k, a, b, d, e⟩ => n_lt0 (show n < 2147483648 by omega) (by rw [← d]; exact c))
  obtain ⟨n, n1, n2⟩ := i_nat c
  have q : S.1 22 < x ↔ (wL w).length < n := by rw [n2, ht.1, n_lt' (by omega) n1]
  refine wp_ite (fun d => ?_) (fun d => ?_) <;> rw [q] at d
  · exact no (fun ⟨n', k, a, b, e, f⟩ => by rw [n2, n_eq' n1 (by omega)] at e; omega)
  refine wp_ite (fun c2 => ?_) (fun c2 => ?_)
  · exact no (fun ⟨n', k, a, b, e, f⟩ => n_lt0 (show k < 2147483648 by omega) (by rw [← f]; exact c2))
  obtain ⟨k, k1, k2⟩ := i_nat c2
  have q2 : y ≤ nI 3 ↔ k ≤ 3 := by rw [k2, n_le' k1 (by omega)]
  refine wp_ite (fun d2 => ?_) (fun d2 => ?_) <;> rw [q2] at d2
  rotate_left
  · exact no (fun ⟨n', k', a, b, e, f⟩ => by rw [k2, n_eq' k1 (by omega)] at f; omega)
  rw [n2, k2]
  have f0 : rfr [6, 7] S (rsI S 7 (nI 0)) := rfr.oneI (by decide)
  have t0 : hT (rsI S 7 (nI 0)) [] := hT0
  generalize rsI S 7 (nI 0) = S0 at f0 t0 ⊢
  refine wp_seq (Q := fun z : Nat × Int32 × rS => z = (0, nI k, z.2.2) ∧ rfr [6, 7] S z.2.2 ∧ hT z.2.2 (sl (wL w) 0 n)) ?_ ?_
  · refine wp_loop (K := n) (fun j y => rfr [6, 7] S y ∧ hT y (sl (wL w) 0 j)) (fun q j y => OL_hash_30 N q (nI n) (nI k) (nI j) y) (fun q j y => L_hash_30 N q (nI n) (nI k) (nI j) y) (fun q j y hj hI ih => ?_) 0 N S0 (by omega) (by omega) ⟨f0, t0⟩
    unfold OL_hash_30 L_hash_30 OB_hash_30 B_hash_30
    by_cases e : j = n
    · refine wp_pos (by rw [n_le' (by omega) (by omega)]; omega) ?_
      rw [e] at hI
      exact wp_fin trivial ⟨rfl, hI⟩
    have bj := ht.2.2.2 j
    rw [n_clamp (by omega), hI.1.a 21 (by decide), ht.2.2.1 j (by omega)]
    refine wp_neg (by rw [n_le' (by omega) (by omega)]; omega) (wp_and ((n_in (by omega)).2 (by omega)) (wp_call (hashByte_ok (x := nI (bg (wL w) j)) hI.2 (by rw [sl_len]; omega)) (fun r => ?_)))
    unfold O_hash_45 F_hash_45
    rw [n_add]
    refine ih _ ⟨hI.1.trans r.1, ?_⟩ (by omega)
    have := r.2
    rw [nb_n, Nat.mod_eq_of_lt bj] at this
    have s := sl_sn (wL w) 0 j
    rw [Nat.zero_add] at s
    rw [← s]
    exact this
  rintro z ⟨z0, z1, z2⟩
  rw [z0]
  generalize z.2.2 = S1 at z1 z2 ⊢
  show wp (O_hash_51 N (nI k) S1) (F_hash_51 N (nI k) S1) _
  unfold O_hash_51 F_hash_51
  refine wp_call (digest_t (by omega) z2 (by rw [sl_len]; omega) (h.co.2.2.2.2.1.fr z1 (by decide) (by decide))) (fun r => ?_)
  obtain ⟨r1, r2⟩ := r
  generalize f_digest N S1 = S2 at r1 r2 ⊢
  unfold O_hash_55 F_hash_55
  obtain ⟨s1, s2⟩ := sum_sm (N := N) (S := S2) (j := k) (by omega)
  refine wp_fin ⟨s1, trivial⟩ ⟨(z1.mono (L' := [6, 7, 8, 9]) (by decide)).trans r1 |>.sf (by decide) (by decide) (by decide) (by decide), Or.inl ⟨n, k, (by omega), d2, rfl, rfl, ?_⟩⟩
  show f_sum N S2 (nI k) = _
  rw [s2, ← l8_byt (sm (S2.2.1 8) k)]
  unfold eiB
  refine l8_congr 8 (fun i hi => ?_)
  have := r2 (8 * k + i) (by omega)
  rw [show (8 * k + i) / 8 = k by omega, show (8 * k + i) % 8 = i by omega] at this
  exact this
theorem stamp_171 {a : Nat} {t : List Nat} (hN : 2000 ≤ N) (h : rRp F H T S w) (ha : a + 32 ≤ (wL w).length) (ht : hT S t) (hl : t.length ≤ 1028) : wp (O_stamp_171 N (nI a) S) (F_stamp_171 N (nI a) S) (fun z => rRp F H T z.2 (sL w (laB (wL w) a (shaB t))) ∧ z.1 = nI 1) := by
  have tp := h.co.2.2.2.2.2.2.2
  have tl := tp.2.1
  unfold O_stamp_171 F_stamp_171
  refine wp_call (digest_t (by omega) ht hl h.co.2.2.2.2.1) (fun r => ?_)
  obtain ⟨r1, r2⟩ := r
  have R1 := h.sf (r1.sf (by decide) (by decide) (by decide) (by decide))
  generalize f_digest N S = S1 at r1 r2 R1 ⊢
  have tp1 := R1.co.2.2.2.2.2.2.2
  unfold O_stamp_175 F_stamp_175
  refine wp_seq (Q := fun z : Nat × rS => rfr [21] S1 z.2 ∧ ∀ i, z.2.2.1 21 i = if a ≤ i ∧ i < a + 32 then nI (bg (shaB t) (i - a)) else S1.2.1 21 i) ?_ ?_
  · refine wp_loop (K := 32) (fun j y => rfr [21] S1 y ∧ ∀ i, y.2.1 21 i = if a ≤ i ∧ i < a + j then nI (bg (shaB t) (i - a)) else S1.2.1 21 i) (fun q j y => OL_stamp_178 N q (nI a) (nI j) y) (fun q j y => L_stamp_178 N q (nI a) (nI j) y) (fun q j y hj hI ih => ?_) 0 N S1 (by omega) (by omega) ⟨rfr.refl, fun i => by rw [if_neg (by omega)]⟩
    unfold OL_stamp_178 L_stamp_178 OB_stamp_178 B_stamp_178
    by_cases e : j = 32
    · refine wp_pos (by rw [n_le' (by omega) (by omega)]; omega) ?_
      subst e
      exact wp_fin trivial hI
    obtain ⟨s1, s2⟩ := sum_sm (N := N) (S := y) (j := j / 8) (by omega)
    have d := r2 j (by omega)
    rw [n_mod' (by omega) (by omega), n_div' (by omega) (by omega), s2, hI.1.a 8 (by decide), byteIn_byt, d, n_add, n_clamp (by omega), n_add]
    refine wp_neg (by rw [n_le' (by omega) (by omega)]; omega) (wp_and s1 (wp_and trivial (wp_and ((n_in (by omega)).2 (by omega)) (ih _ ⟨hI.1.trans (rfr.one (by decide)), fun i => ?_⟩ (by omega)))))
    rw [A_same]
    by_cases c : i = a + j
    · rw [c, upd_same, if_pos (by omega), Nat.add_sub_cancel_left]
    · rw [upd_other _ _ c, hI.2]
      by_cases c2 : a ≤ i ∧ i < a + j
      · rw [if_pos c2, if_pos (by omega)]
      · rw [if_neg c2, if_neg (by omega)]
  rintro z ⟨z1, z2⟩
  unfold OA_stamp_178 A_stamp_178 O_stamp_217 F_stamp_217
  refine wp_fin trivial ⟨R1.tape (z1.mono (by decide)) ⟨?_, by rw [laB_len]; exact tl, fun i hi => ?_, laB_B a tp.2.2.2 (shaB_B t)⟩, rfl⟩
  · rw [z1.i 22 (by decide), laB_len]; exact tp1.1
  · rw [laB_len] at hi
    unfold laB
    rw [mkB_in hi, shaB_len, z2]
    by_cases c : a ≤ i ∧ i < a + 32
    · rw [if_pos c, if_pos c]
    · rw [if_neg c, if_neg c]; exact tp1.2.2.1 i hi
theorem stamp_ok {x y u : Int32} (hN : 2000 ≤ N) (h : rRp F H T S w) : wp (o_stamp N S x y u) (f_stamp N S x y u) (fun z => (∃ a t, a + 32 ≤ (wL w).length ∧ x = nI a ∧ spT w y u t ∧ rRp F H T z.2 (sL w (laB (wL w) a (shaB t))) ∧ z.1 = nI 1) ∨ ((¬ ∃ a t, a + 32 ≤ (wL w).length ∧ x = nI a ∧ spT w y u t) ∧ rRp F H T z.2 w ∧ z.1 = nI 0)) := by
  have tp := h.co.2.2.2.2.2.2.2
  have tl := tp.2.1
  show wp (O_stamp_0 N x y u S) (F_stamp_0 N x y u S) _
  unfold O_stamp_0 F_stamp_0
  have no : ∀ S' : rS, rRp F H T S' w → (¬ ∃ a t, a + 32 ≤ (wL w).length ∧ x = nI a ∧ spT w y u t) → (fun z : Int32 × rS => (∃ a t, a + 32 ≤ (wL w).length ∧ x = nI a ∧ spT w y u t ∧ rRp F H T z.2 (sL w (laB (wL w) a (shaB t))) ∧ z.1 = nI 1) ∨ ((¬ ∃ a t, a + 32 ≤ (wL w).length ∧ x = nI a ∧ spT w y u t) ∧ rRp F H T z.2 w ∧ z.1 = nI 0)) (nI 0, S') := fun S' R g => Or.inr ⟨g, R, rfl⟩
  refine wp_ite (fun c => ?_) (fun c => ?_)
  · unfold O_stamp_15 F_stamp_15
    exact wp_fin trivial (no S h (fun ⟨a, t, a1, a2, _⟩ => n_lt0 (show a < 2147483648 by omega) (by rw [← a2]; exact c)))
  obtain ⟨a, a1, a2⟩ := i_nat c
  have q : x ≤ S.1 22 - nI 32 ↔ a + 32 ≤ (wL w).length := by
    rw [a2, tp.1, ← iI_n, ← iI_n, ← iI_n, iI_sub, iI_le (by omega) (by omega) (by omega) (by omega)]
    omega
  refine wp_ite (fun d => ?_) (fun d => ?_) <;> rw [q] at d
  rotate_left
  · unfold O_stamp_15 F_stamp_15
    exact wp_fin trivial (no S h (fun ⟨a', t, b1, b2, _⟩ => by rw [a2, n_eq' a1 (by omega)] at b2; omega))
  have f0 : rfr [6, 7] S (rsI S 7 (nI 0)) := rfr.oneI (by decide)
  have t0 : hT (rsI S 7 (nI 0)) [] := hT0
  have R0 := h.sf (f0.sf (by decide) (by decide) (by decide) (by decide))
  generalize rsI S 7 (nI 0) = S0 at f0 t0 R0 ⊢
  have tp0 := R0.co.2.2.2.2.2.2.2
  have yes : ∀ t, spT w y u t → t.length ≤ 1028 → ∀ S', rRp F H T S' w → hT S' t → wp (O_stamp_171 N (nI a) S') (F_stamp_171 N (nI a) S') (fun z => (∃ a t, a + 32 ≤ (wL w).length ∧ x = nI a ∧ spT w y u t ∧ rRp F H T z.2 (sL w (laB (wL w) a (shaB t))) ∧ z.1 = nI 1) ∨ ((¬ ∃ a t, a + 32 ≤ (wL w).length ∧ x = nI a ∧ spT w y u t) ∧ rRp F H T z.2 w ∧ z.1 = nI 0)) := fun t st tl S' R' ht' => wp_mono (stamp_171 hN R' d ht' tl) (fun z => Or.inl ⟨a, t, d, a2, st, z.1, z.2⟩)
  rw [a2]
  refine wp_ite (fun e => ?_) (fun e => ?_)
  · refine wp_ite (fun c2 => ?_) (fun c2 => ?_)
    · unfold O_stamp_42 F_stamp_42
      refine wp_fin trivial ?_
      have := no S0 R0
      rw [a2] at this
      refine this (fun ⟨a', t, _, _, st⟩ => ?_)
      rcases st with ⟨_, f, f1, f2, _⟩ | ⟨s1, _⟩
      · exact n_lt0 (show f < 2147483648 by omega) (by rw [← f2]; exact c2)
      · exact s1 e
    obtain ⟨f, f1, f2⟩ := i_nat c2
    have q2 : u ≤ S0.1 22 - nI 101 ↔ f + 101 ≤ (wL w).length := by
      rw [f2, tp0.1, ← iI_n, ← iI_n, ← iI_n, iI_sub, iI_le (by omega) (by omega) (by omega) (by omega)]
      omega
    refine wp_ite (fun d2 => ?_) (fun d2 => ?_) <;> rw [q2] at d2
    rotate_left
    · unfold O_stamp_42 F_stamp_42
      refine wp_fin trivial ?_
      have := no S0 R0
      rw [a2] at this
      refine this (fun ⟨a', t, _, _, st⟩ => ?_)
      rcases st with ⟨_, f', g1, g2, _⟩ | ⟨s1, _⟩
      · rw [f2, n_eq' f1 (by omega)] at g2
        omega
      · exact s1 e
    rw [f2]
    refine wp_seq (Q := fun z : Nat × Int32 × rS => z = (0, nI a, z.2.2) ∧ rfr [6, 7] S z.2.2 ∧ hT z.2.2 (sl (wL w) f 101)) ?_ ?_
    · refine wp_loop (K := 101) (fun j y => rfr [6, 7] S y ∧ hT y (sl (wL w) f j)) (fun q j y => OL_stamp_47 N q (nI a) (nI f) (nI j) y) (fun q j y => L_stamp_47 N q (nI a) (nI f) (nI j) y) (fun q j y hj hI ih => ?_) 0 N S0 (by omega) (by omega) ⟨f0, t0⟩
      unfold OL_stamp_47 L_stamp_47 OB_stamp_47 B_stamp_47
      by_cases e2 : j = 101
      · refine wp_pos (by rw [n_le' (by omega) (by omega)]; omega) ?_
        subst e2
        exact wp_fin trivial ⟨rfl, hI⟩
      have bj := tp.2.2.2 (f + j)
      rw [n_add, n_clamp (by omega), hI.1.a 21 (by decide), tp.2.2.1 (f + j) (by omega)]
      refine wp_neg (by rw [n_le' (by omega) (by omega)]; omega) (wp_and ((n_in (by omega)).2 (by omega)) (wp_call (hashByte_ok (x := nI (bg (wL w) (f + j))) hI.2 (by rw [sl_len]; omega)) (fun r => ?_)))
      unfold O_stamp_67 F_stamp_67
      rw [n_add]
      refine ih _ ⟨hI.1.trans r.1, ?_⟩ (by omega)
      have := r.2
      rw [nb_n, Nat.mod_eq_of_lt bj] at this
      rw [← sl_sn]
      exact this
    rintro z ⟨z0, z1, z2⟩
    rw [z0]
    generalize z.2.2 = S1 at z1 z2 ⊢
    show wp (O_stamp_73 N (nI a) S1) (F_stamp_73 N (nI a) S1) _
    unfold O_stamp_73 F_stamp_73
    have := yes (sl (wL w) f 101) (Or.inl ⟨e, f, d2, f2, rfl⟩) (by rw [sl_len]; decide) S1 (h.sf (z1.sf (by decide) (by decide) (by decide) (by decide))) z2
    rw [a2, f2] at this
    exact this
  · obtain ⟨i1, i2⟩ := isFlying_ok (N := N) R0 (x := y)
    refine wp_and i1 ?_
    rcases i2 with ⟨k, k1, k2, k3⟩ | ⟨k1, k2⟩
    rotate_left
    · rw [k2]
      refine wp_pos rfl (wp_fin trivial ?_)
      have := no S0 R0
      rw [a2] at this
      refine this (fun ⟨a', t, _, _, st⟩ => ?_)
      rcases st with ⟨s1, _⟩ | ⟨_, k, k3, k4, _⟩
      · exact e s1
      · exact k1 ⟨k, k3, k4⟩
    rw [k3]
    obtain ⟨⟨ta, hTa⟩, _⟩ := R0.sk
    have hTa0 := hTa
    obtain ⟨t1, t2, t3, t4, t5, t6, t7, t8⟩ := hTa
    obtain ⟨y1, y2, y3, y4, y5, y6⟩ := t8 k k1
    have sl' := t6 k (by omega)
    obtain ⟨m, hm⟩ : ∃ m, m = (fg (wK w).1 k).2.2.2 := ⟨_, rfl⟩
    obtain ⟨_, _, _, l0, l1, l2⟩ := y6
    rw [← hm] at y3 l0 l1 l2
    obtain ⟨b1, b2⟩ := flyByte_ok (N := N) (i := 0) hTa0 k1 (by rw [← hm]; omega)
    rw [← hm] at b2
    have bm := l2 0
    have spk : ∀ t, spT w y u t → (bg m 0 = 1 ∧ 107 ≤ m.length ∧ t = sl m 6 101) ∨ (bg m 0 = 4 ∧ 102 ≤ m.length ∧ t = sl m 1 101) := fun t st => by
      rcases st with ⟨s1, _⟩ | ⟨_, k', g1, g2, g3⟩
      · exact absurd s1 e
      · rw [k2, n_eq' (by omega) (by omega)] at g2
        rw [← g2, ← hm] at g3
        exact g3
    have nop : (∀ t, ¬ ((bg m 0 = 1 ∧ 107 ≤ m.length ∧ t = sl m 6 101) ∨ (bg m 0 = 4 ∧ 102 ≤ m.length ∧ t = sl m 1 101))) → wp (O_stamp_139 N S0) (F_stamp_139 N S0) (fun z => (∃ a_1 t, a_1 + 32 ≤ (wL w).length ∧ nI a = nI a_1 ∧ spT w y u t ∧ rRp F H T z.2 (sL w (laB (wL w) a_1 (shaB t))) ∧ z.1 = nI 1) ∨ ((¬ ∃ a_1 t, a_1 + 32 ≤ (wL w).length ∧ nI a = nI a_1 ∧ spT w y u t) ∧ rRp F H T z.2 w ∧ z.1 = nI 0)) := fun g => by
      unfold O_stamp_139 F_stamp_139
      refine wp_fin trivial ?_
      have := no S0 R0
      rw [a2] at this
      exact this (fun ⟨a', t, _, _, st⟩ => g t (spk t st))
    have go : ∀ o : Nat, o ≤ 6 → ((bg m 0 = 1 ∧ o = 6) ∨ (bg m 0 = 4 ∧ o = 1)) → wp (O_stamp_120 N (nI a) (nI k) (nI o) S0) (F_stamp_120 N (nI a) (nI k) (nI o) S0) (fun z => (∃ a_1 t, a_1 + 32 ≤ (wL w).length ∧ nI a = nI a_1 ∧ spT w y u t ∧ rRp F H T z.2 (sL w (laB (wL w) a_1 (shaB t))) ∧ z.1 = nI 1) ∨ ((¬ ∃ a_1 t, a_1 + 32 ≤ (wL w).length ∧ nI a = nI a_1 ∧ spT w y u t) ∧ rRp F H T z.2 w ∧ z.1 = nI 0)) := fun o ho hk => by
      unfold O_stamp_120 F_stamp_120
      rw [n_clamp (by omega), t4 k k1, n_clamp (by omega), y3, n_add]
      refine wp_and ((n_in (by omega)).2 (by omega)) (wp_and ((n_in (by omega)).2 (by omega)) (wp_ite (fun d3 => ?_) (fun d3 => ?_))) <;> rw [n_le' (by omega) (by omega)] at d3
      rotate_left
      · exact nop (fun t z => by omega)
      refine wp_seq (Q := fun z : Nat × Int32 × rS => z = (0, nI a, z.2.2) ∧ rfr [6, 7] S z.2.2 ∧ hT z.2.2 (sl m o 101)) ?_ ?_
      · refine wp_loop (K := 101) (fun j y => rfr [6, 7] S y ∧ hT y (sl m o j)) (fun q j y => OL_stamp_144 N q (nI a) (nI k) (nI o) (nI j) y) (fun q j y => L_stamp_144 N q (nI a) (nI k) (nI o) (nI j) y) (fun q j y hj hI ih => ?_) 0 N S0 (by omega) (by omega) ⟨f0, t0⟩
        unfold OL_stamp_144 L_stamp_144 OB_stamp_144 B_stamp_144
        by_cases e2 : j = 101
        · refine wp_pos (by rw [n_le' (by omega) (by omega)]; omega) ?_
          subst e2
          exact wp_fin trivial ⟨rfl, hI⟩
        obtain ⟨⟨tb, hTb⟩, _⟩ := (h.sf (hI.1.sf (by decide) (by decide) (by decide) (by decide))).sk
        obtain ⟨v1, v2⟩ := flyByte_ok (N := N) (i := o + j) hTb k1 (by rw [← hm]; omega)
        rw [← hm] at v2
        have bj := l2 (o + j)
        rw [n_add, v2]
        refine wp_neg (by rw [n_le' (by omega) (by omega)]; omega) (wp_and v1 (wp_call (hashByte_ok (x := nI (bg m (o + j))) hI.2 (by rw [sl_len]; omega)) (fun r => ?_)))
        unfold O_stamp_165 F_stamp_165
        rw [n_add]
        refine ih _ ⟨hI.1.trans r.1, ?_⟩ (by omega)
        have := r.2
        rw [nb_n, Nat.mod_eq_of_lt bj] at this
        rw [← sl_sn]
        exact this
      rintro z ⟨z0, z1, z2⟩
      rw [z0]
      generalize z.2.2 = S1 at z1 z2 ⊢
      show wp (O_stamp_171 N (nI a) S1) (F_stamp_171 N (nI a) S1) _
      have := yes (sl m o 101) (Or.inr ⟨e, k, k1, k2, by
        rw [← hm]
        rcases hk with ⟨g1, g2⟩ | ⟨g1, g2⟩
        · exact Or.inl ⟨g1, by omega, by rw [g2]⟩
        · exact Or.inr ⟨g1, by omega, by rw [g2]⟩⟩) (by rw [sl_len]; decide) S1 (h.sf (z1.sf (by decide) (by decide) (by decide) (by decide))) z2
      rw [a2] at this
      exact this
    rw [k2]
    rw [k2] at go nop
    have b1' : o_flyByte N S0 (nI k) (nI 0) := b1
    rw [b2]
    refine wp_neg (by decide) (wp_and b1' (wp_ite (fun g => ?_) (fun g => ?_))) <;> rw [n_eq' (by omega) (by omega)] at g
    · unfold O_stamp_106 F_stamp_106
      exact wp_pos (by rw [n_eq' (by omega) (by omega)]; exact g) (go 6 (by omega) (Or.inl ⟨g, rfl⟩))
    · unfold O_stamp_106 F_stamp_106
      refine wp_neg (by rw [n_eq' (by omega) (by omega)]; exact g) (wp_ite (fun g2 => ?_) (fun g2 => ?_)) <;> rw [n_eq' (by omega) (by omega)] at g2
      · exact go 1 (by omega) (Or.inr ⟨g2, rfl⟩)
      · exact nop (fun t z => by omega)
end
end

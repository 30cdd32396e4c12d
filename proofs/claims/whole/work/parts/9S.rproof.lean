section
/-! THE REFERENCE: a proof on the tape is looked through -/
def pfN (l : List Nat) (p c : Nat) (d : List Nat) : List Nat := if c = 0 then d else if c = 1 then shaB (1 :: (sl l (p + 1) 32 ++ d)) else shaB (1 :: (d ++ sl l (p + 1) 32))
def pfW (l : List Nat) (n : Nat) : Nat → Nat → List Nat → Option (List Nat)
  | 0, _, _ => none
  | f + 1, p, d => if n ≤ p then some d else if 2 < bg l p then none else if 0 < bg l p ∧ ¬ p + 33 ≤ n then none else pfW l n f (p + if bg l p = 0 then 1 else 33) (pfN l p (bg l p) d)
theorem pfN_B {l d : List Nat} {p c : Nat} (h : isB d) : isB (pfN l p c d) := by
  unfold pfN
  split
  · exact h
  · split
    · exact shaB_B _
    · exact shaB_B _
def pfY (l : List Nat) (k a n : Nat) : Prop := ∃ d, pfW l n 2000 a (shaB (0 :: sl l 101 (a - 101))) = some d ∧ ∀ i, i < 32 → bg d i = bg l ((if k = 0 then 67 else 35) + i)
section
variable {N F H T : Nat} {S : rS} {w : Wd} {l d t : List Nat}
theorem keep_t (hN : 100 ≤ N) (h : hT S t) (hl : t.length ≤ 1028) (hK : rK S) : wp (o_keepLeaf N S (nI 0)) (f_keepLeaf N S (nI 0)) (fun S' => rfr [6, 7, 8, 9, 18] S S' ∧ rL S' (shaB t)) := by
  obtain ⟨a, b, c⟩ := keep_ok (N := N) (k := 0) (f := fun i => nI (bg t i)) hN (by decide) hl h.1 h.2 hK
  refine wp_fin a ⟨b, fun k hk => ?_⟩
  have := c 0 k hk
  rw [if_pos rfl, show 32 * 0 + k = k by omega] at this
  rw [this, shaB_bg t hk]
theorem proof_l125 {n p : Nat} {x : Int32} (hN : 1000 ≤ N) (h : tpR S l) (hp : p + 33 ≤ l.length) (ht : hT S [1]) : wp (OL_proof_125 N N x (nI n) (nI p) (nI 1) (nI 0) S) (L_proof_125 N N x (nI n) (nI p) (nI 1) (nI 0) S) (fun z => z = (0, x, nI n, nI p, nI 1, z.2.2.2.2.2) ∧ rfr [6, 7] S z.2.2.2.2.2 ∧ hT z.2.2.2.2.2 (1 :: sl l (p + 1) 32)) := by
  obtain ⟨h1, h2, h3, h4⟩ := h
  refine wp_loop (K := 32) (fun j y => rfr [6, 7] S y ∧ hT y (1 :: sl l (p + 1) j)) (fun q j y => OL_proof_125 N q x (nI n) (nI p) (nI 1) (nI j) y) (fun q j y => L_proof_125 N q x (nI n) (nI p) (nI 1) (nI j) y) (fun q j y hj hI ih => ?_) 0 N S (by omega) (by omega) ⟨rfr.refl, ht⟩
  unfold OL_proof_125 L_proof_125 OB_proof_125 B_proof_125
  refine wp_pos rfl ?_
  by_cases e : j = 32
  · refine wp_pos (by rw [n_le' (by omega) (by omega)]; omega) ?_
    subst e
    exact wp_fin trivial ⟨rfl, hI⟩
  have bj := h4 (p + 1 + j)
  rw [n_add, n_add, n_clamp (by omega), hI.1.a 21 (by decide), h3 (p + 1 + j) (by omega)]
  refine wp_neg (by rw [n_le' (by omega) (by omega)]; omega) (wp_and ((n_in (by omega)).2 (by omega)) (wp_call (hashByte_ok (x := nI (bg l (p + 1 + j))) hI.2 (by rw [List.length_cons, sl_len]; omega)) (fun r => ?_)))
  unfold O_proof_154 F_proof_154
  rw [n_add]
  refine ih _ ⟨hI.1.trans r.1, ?_⟩ (by omega)
  have := r.2
  rw [nb_n, Nat.mod_eq_of_lt bj, List.cons_append, sl_sn] at this
  exact this
theorem proof_l189 {n p : Nat} {x : Int32} (hN : 1000 ≤ N) (h : tpR S l) (hp : p + 33 ≤ l.length) (ht : hT S t) (htl : t.length ≤ 100) : wp (OL_proof_189 N N x (nI n) (nI p) (nI 2) (nI 0) S) (L_proof_189 N N x (nI n) (nI p) (nI 2) (nI 0) S) (fun z => z = (0, x, nI n, nI p, nI 2, z.2.2.2.2.2) ∧ rfr [6, 7] S z.2.2.2.2.2 ∧ hT z.2.2.2.2.2 (t ++ sl l (p + 1) 32)) := by
  obtain ⟨h1, h2, h3, h4⟩ := h
  refine wp_loop (K := 32) (fun j y => rfr [6, 7] S y ∧ hT y (t ++ sl l (p + 1) j)) (fun q j y => OL_proof_189 N q x (nI n) (nI p) (nI 2) (nI j) y) (fun q j y => L_proof_189 N q x (nI n) (nI p) (nI 2) (nI j) y) (fun q j y hj hI ih => ?_) 0 N S (by omega) (by omega) ⟨rfr.refl, by rw [show sl l (p + 1) 0 = [] from rfl, List.append_nil]; exact ht⟩
  unfold OL_proof_189 L_proof_189 OB_proof_189 B_proof_189
  refine wp_pos rfl ?_
  by_cases e : j = 32
  · refine wp_pos (by rw [n_le' (by omega) (by omega)]; omega) ?_
    subst e
    exact wp_fin trivial ⟨rfl, hI⟩
  have bj := h4 (p + 1 + j)
  rw [n_add, n_add, n_clamp (by omega), hI.1.a 21 (by decide), h3 (p + 1 + j) (by omega)]
  refine wp_neg (by rw [n_le' (by omega) (by omega)]; omega) (wp_and ((n_in (by omega)).2 (by omega)) (wp_call (hashByte_ok (x := nI (bg l (p + 1 + j))) hI.2 (by rw [List.length_append, sl_len]; omega)) (fun r => ?_)))
  unfold O_proof_218 F_proof_218
  rw [n_add]
  refine ih _ ⟨hI.1.trans r.1, ?_⟩ (by omega)
  have := r.2
  rw [nb_n, Nat.mod_eq_of_lt bj, List.append_assoc, sl_sn] at this
  exact this
theorem sl_32 {d : List Nat} (h : d.length = 32) : sl d 0 32 = d := by
  rw [← h]
  exact sl0_all d
theorem proof_l163 {n p c : Nat} {x : Int32} (hN : 1000 ≤ N) (hr : rL S d) (hd : isB d) (hl : d.length = 32) (ht : hT S t) (htl : t.length ≤ 100) : wp (OL_proof_163 N N x (nI n) (nI p) (nI c) (nI 0) S) (L_proof_163 N N x (nI n) (nI p) (nI c) (nI 0) S) (fun z => z = (0, x, nI n, nI p, nI c, z.2.2.2.2.2) ∧ rfr [6, 7] S z.2.2.2.2.2 ∧ hT z.2.2.2.2.2 (t ++ d)) := by
  rw [← sl_32 hl]
  refine wp_loop (K := 32) (fun j y => rfr [6, 7] S y ∧ hT y (t ++ sl d 0 j)) (fun q j y => OL_proof_163 N q x (nI n) (nI p) (nI c) (nI j) y) (fun q j y => L_proof_163 N q x (nI n) (nI p) (nI c) (nI j) y) (fun q j y hj hI ih => ?_) 0 N S (by omega) (by omega) ⟨rfr.refl, by rw [show sl d 0 0 = [] from rfl, List.append_nil]; exact ht⟩
  unfold OL_proof_163 L_proof_163 OB_proof_163 B_proof_163
  by_cases e : j = 32
  · refine wp_pos (by rw [n_le' (by omega) (by omega)]; omega) ?_
    subst e
    exact wp_fin trivial ⟨rfl, hI⟩
  obtain ⟨s1, s2⟩ := rootByte_ok (N := N) (S := y) (r := d) (k := j) (fun k hk => by rw [hI.1.l 18 (by decide)]; exact hr k hk) (by omega)
  have s2' : f_rootByte N y (nI j) = nI (bg d j) := s2
  have bj := hd j
  rw [s2']
  refine wp_neg (by rw [n_le' (by omega) (by omega)]; omega) (wp_and s1 (wp_call (hashByte_ok (x := nI (bg d j)) hI.2 (by rw [List.length_append, sl_len]; omega)) (fun r => ?_)))
  unfold O_proof_180 F_proof_180
  rw [n_add]
  refine ih _ ⟨hI.1.trans r.1, ?_⟩ (by omega)
  have := r.2
  have s := sl_sn d 0 j
  rw [Nat.zero_add] at s
  rw [nb_n, Nat.mod_eq_of_lt bj, List.append_assoc, s] at this
  exact this
theorem proof_112 {rok : Int32 → Int32 → Int32 → rS → Prop} {rec : Int32 → Int32 → Int32 → rS → Nat × Int32 × rS} {n p c : Nat} {x : Int32} {Q : Nat × Int32 × rS → Prop} (hN : 1000 ≤ N) (h : rRp F H T S w) (hc : c ≤ 2) (hp : p < (wL w).length) (hp2 : c ≠ 0 → p + 33 ≤ (wL w).length) (hr : rL S d) (hd : isB d) (hl : d.length = 32) (k : ∀ S', rRp F H T S' w → rfr [6, 7, 8, 9, 18] S S' → rL S' (pfN (wL w) p c d) → wp (rok x (nI n) (nI (p + if c = 0 then 1 else 33)) S') (rec x (nI n) (nI (p + if c = 0 then 1 else 33)) S') Q) : wp (O_proof_112 N rok x (nI n) (nI p) (nI c) S) (F_proof_112 N rec x (nI n) (nI p) (nI c) S) Q := by
  have tp := h.co.2.2.2.2.2.2.2
  have tl := tp.2.1
  unfold O_proof_112 F_proof_112
  have f0 : rfr [6, 7] S (rsI S 7 (nI 0)) := rfr.oneI (by decide)
  refine wp_call (hashByte_ok (x := nI 1) hT0 (by decide)) (fun r => ?_)
  have f1 := f0.trans r.1
  have m1 : hT (f_hashByte N (rsI S 7 (nI 0)) (nI 1)) [1] := r.2
  generalize f_hashByte N (rsI S 7 (nI 0)) (nI 1) = S1 at f1 m1 ⊢
  have R1 := h.sf (f1.sf (by decide) (by decide) (by decide) (by decide))
  unfold O_proof_122 F_proof_122
  refine wp_seq (Q := fun z : Nat × Int32 × Int32 × Int32 × Int32 × rS => z = (0, x, nI n, nI p, nI c, z.2.2.2.2.2) ∧ rfr [6, 7] S z.2.2.2.2.2 ∧ hT z.2.2.2.2.2 (if c = 1 then 1 :: sl (wL w) (p + 1) 32 else [1])) ?_ ?_
  · by_cases e : c = 1
    · subst e
      rw [if_pos rfl]
      exact wp_mono (proof_l125 hN R1.co.2.2.2.2.2.2.2 (hp2 (by decide)) m1) (fun q => ⟨q.1, f1.trans q.2.1, q.2.2⟩)
    · rw [if_neg e]
      obtain ⟨N', rfl⟩ := exs (show 0 < N by omega)
      show wp (OB_proof_125 _ _ _ _ _ _ _ _) (B_proof_125 _ _ _ _ _ _ _ _) _
      unfold OB_proof_125 B_proof_125
      exact wp_neg (by rw [n_eq' (by omega) (by omega)]; exact e) (wp_fin trivial ⟨rfl, f1, m1⟩)
  rintro z ⟨z0, z1, z2⟩
  rw [z0]
  generalize z.2.2.2.2.2 = S2 at z1 z2 ⊢
  show wp (O_proof_160 N rok x (nI n) (nI p) (nI c) S2) (F_proof_160 N rec x (nI n) (nI p) (nI c) S2) _
  unfold O_proof_160 F_proof_160
  have r2 : rL S2 d := fun k hk => by rw [z1.l 18 (by decide)]; exact hr k hk
  obtain ⟨t1, ht1⟩ : ∃ t1, t1 = if c = 1 then 1 :: sl (wL w) (p + 1) 32 else [1] := ⟨_, rfl⟩
  have l1 : t1.length ≤ 33 := by
    rw [ht1]
    split
    · rw [List.length_cons, sl_len]; omega
    · decide
  rw [← ht1] at z2
  refine wp_seq (proof_l163 hN r2 hd hl z2 (by omega)) ?_
  rintro y ⟨y0, y1, y2⟩
  rw [y0]
  generalize y.2.2.2.2.2 = S3 at y1 y2 ⊢
  have f3 := z1.trans y1
  have R3 := h.sf (f3.sf (by decide) (by decide) (by decide) (by decide))
  show wp (O_proof_186 N rok x (nI n) (nI p) (nI c) S3) (F_proof_186 N rec x (nI n) (nI p) (nI c) S3) _
  unfold O_proof_186 F_proof_186
  refine wp_seq (Q := fun z : Nat × Int32 × Int32 × Int32 × Int32 × rS => z = (0, x, nI n, nI p, nI c, z.2.2.2.2.2) ∧ rfr [6, 7] S z.2.2.2.2.2 ∧ hT z.2.2.2.2.2 (if c = 2 then t1 ++ d ++ sl (wL w) (p + 1) 32 else t1 ++ d)) ?_ ?_
  · by_cases e : c = 2
    · subst e
      rw [if_pos rfl]
      exact wp_mono (proof_l189 hN R3.co.2.2.2.2.2.2.2 (hp2 (by decide)) y2 (by rw [List.length_append]; omega)) (fun q => ⟨q.1, f3.trans q.2.1, q.2.2⟩)
    · rw [if_neg e]
      obtain ⟨N', rfl⟩ := exs (show 0 < N by omega)
      show wp (OB_proof_189 _ _ _ _ _ _ _ _) (B_proof_189 _ _ _ _ _ _ _ _) _
      unfold OB_proof_189 B_proof_189
      exact wp_neg (by rw [n_eq' (by omega) (by omega)]; exact e) (wp_fin trivial ⟨rfl, f3, y2⟩)
  rintro v ⟨v0, v1, v2⟩
  rw [v0]
  generalize v.2.2.2.2.2 = S4 at v1 v2 ⊢
  have R4 := h.sf (v1.sf (by decide) (by decide) (by decide) (by decide))
  show wp (O_proof_224 N rok x (nI n) (nI p) (nI c) S4) (F_proof_224 N rec x (nI n) (nI p) (nI c) S4) _
  unfold O_proof_224 F_proof_224
  refine wp_ite (fun g => ?_) (fun g => ?_) <;> rw [n_le0 (by omega)] at g
  · have c0 : c = 0 := by omega
    unfold O_proof_234 F_proof_234
    refine wp_pos (by rw [n_le0 (by omega)]; exact g) ?_
    have := k S4 R4 (v1.mono (by decide)) (fun j hj => by
      unfold pfN
      rw [if_pos c0, v1.l 18 (by decide)]
      exact hr j hj)
    rw [if_pos c0] at this
    unfold O_proof_251 F_proof_251
    rw [n_add]
    exact this
  · have c0 : ¬ c = 0 := by omega
    obtain ⟨t3, ht3⟩ : ∃ t3, t3 = if c = 2 then t1 ++ d ++ sl (wL w) (p + 1) 32 else t1 ++ d := ⟨_, rfl⟩
    rw [← ht3] at v2
    have e3 : pfN (wL w) p c d = shaB t3 := by
      unfold pfN
      rw [if_neg c0, ht3, ht1]
      by_cases e : c = 1
      · rw [if_pos e, if_pos e, if_neg (show ¬ c = 2 by omega)]
        rfl
      · rw [if_neg e, if_neg e, if_pos (show c = 2 by omega)]
        rfl
    have l3 : t3.length ≤ 1028 := by
      rw [ht3]
      split <;> simp only [List.length_append, sl_len] <;> omega
    refine wp_call (keep_t (by omega) v2 l3 R4.co.2.2.2.2.1) (fun q => ?_)
    have f5 : rfr [6, 7, 8, 9, 18] S (f_keepLeaf N S4 (nI 0)) := (v1.mono (by decide)).trans q.1
    have q2 := q.2
    generalize f_keepLeaf N S4 (nI 0) = S5 at f5 q2 ⊢
    unfold O_proof_234 F_proof_234
    refine wp_neg (by rw [n_le0 (by omega)]; exact g) ?_
    have := k S5 (h.sf (f5.sf (by decide) (by decide) (by decide) (by decide))) f5 (by rw [e3]; exact q2)
    rw [if_neg c0] at this
    unfold O_proof_251 F_proof_251
    rw [n_add]
    exact this
theorem pfN_len {p c : Nat} (h : d.length = 32) : (pfN l p c d).length = 32 := by
  unfold pfN
  split
  · exact h
  · split
    · exact shaB_len _
    · exact shaB_len _
theorem proof_l75 {n : Nat} {x : Int32} (hN : 1000 ≤ N) (hn : n ≤ (wL w).length) : ∀ (q f p : Nat) (d : List Nat) (S : rS), p ≤ 1500 → n - p < q → n - p < f → rRp F H T S w → rL S d → isB d → d.length = 32 → wp (OL_proof_75 N q x (nI n) (nI p) S) (L_proof_75 N q x (nI n) (nI p) S) (fun z => rRp F H T z.2.2 w ∧ sfr S z.2.2 ∧ ((∃ d', pfW (wL w) n f p d = some d' ∧ z.1 = 1 ∧ z.2.1 = x ∧ rL z.2.2 d' ∧ isB d') ∨ (pfW (wL w) n f p d = none ∧ z.1 = 0)))
  | 0, f, p, d, S, _, h, _, _, _, _, _ => absurd h (by omega)
  | q + 1, 0, p, d, S, _, _, h, _, _, _, _ => absurd h (by omega)
  | q + 1, f + 1, p, d, S, hp, h1, h2, h, hr, hd, hl => by
    have tp := h.co.2.2.2.2.2.2.2
    have tl := tp.2.1
    have bp := tp.2.2.2 p
    unfold OL_proof_75 L_proof_75 OB_proof_75 B_proof_75 pfW
    refine wp_ite (fun c => ?_) (fun c => ?_) <;> rw [n_le' (by omega) (by omega)] at c
    · rw [if_pos c]
      exact wp_fin trivial ⟨h, sfr.refl, Or.inl ⟨d, rfl, rfl, rfl, hr, hd⟩⟩
    rw [if_neg c, n_clamp (by omega), tp.2.2.1 p (by omega)]
    refine wp_and ((n_in (by omega)).2 (by omega)) (wp_ite (fun c2 => ?_) (fun c2 => ?_)) <;> rw [n_lt' (by omega) (by omega)] at c2
    · rw [if_pos c2]
      exact wp_fin trivial ⟨h, sfr.refl, Or.inr ⟨rfl, rfl⟩⟩
    rw [if_neg c2]
    have go : ¬ (0 < bg (wL w) p ∧ ¬ p + 33 ≤ n) → wp (O_proof_112 N (OL_proof_75 N q) x (nI n) (nI p) (nI (bg (wL w) p)) S) (F_proof_112 N (L_proof_75 N q) x (nI n) (nI p) (nI (bg (wL w) p)) S) (fun z => rRp F H T z.2.2 w ∧ sfr S z.2.2 ∧ ((∃ d', (if 0 < bg (wL w) p ∧ ¬ p + 33 ≤ n then none else pfW (wL w) n f (p + if bg (wL w) p = 0 then 1 else 33) (pfN (wL w) p (bg (wL w) p) d)) = some d' ∧ z.1 = 1 ∧ z.2.1 = x ∧ rL z.2.2 d' ∧ isB d') ∨ ((if 0 < bg (wL w) p ∧ ¬ p + 33 ≤ n then none else pfW (wL w) n f (p + if bg (wL w) p = 0 then 1 else 33) (pfN (wL w) p (bg (wL w) p) d)) = none ∧ z.1 = 0))) := fun g => by
      rw [if_neg g]
      refine proof_112 hN h (by omega) (by omega) (by omega) hr hd hl (fun S' R' f' r' => ?_)
      have st : 1 ≤ (if bg (wL w) p = 0 then 1 else 33) ∧ (if bg (wL w) p = 0 then 1 else 33) ≤ 33 := by split <;> omega
      have pn : p + (if bg (wL w) p = 0 then 1 else 33) ≤ n := by split <;> omega
      refine wp_mono (proof_l75 hN hn q f _ _ S' (by omega) (by omega) (by omega) R' r' (pfN_B hd) (pfN_len hl)) (fun z => ⟨z.1, (f'.sf (by decide) (by decide) (by decide) (by decide)).trans z.2.1, z.2.2⟩)
    refine wp_ite (fun c3 => ?_) (fun c3 => ?_) <;> rw [n_le0 (by omega)] at c3
    · exact go (by omega)
    · have n33 : nI p + nI 33 ≤ nI n ↔ p + 33 ≤ n := by rw [n_add, n_le' (by omega) (by omega)]
      refine wp_ite (fun c4 => ?_) (fun c4 => ?_) <;> rw [n33] at c4
      · exact go (by omega)
      · rw [if_pos (show 0 < bg (wL w) p ∧ ¬ p + 33 ≤ n from ⟨(by omega), c4⟩)]
        exact wp_fin trivial ⟨h, sfr.refl, Or.inr ⟨rfl, rfl⟩⟩
theorem proof_256 {k : Nat} (hN : 1000 ≤ N) (hk : k ≤ 1) (h : rRp F H T S w) (h3 : 102 ≤ (wL w).length) (hr : rL S d) (hd : isB d) : wp (O_proof_256 N (nI k) S) (F_proof_256 N (nI k) S) (fun z => z.2 = S ∧ ((z.1 = nI 1 ∧ ∀ i, i < 32 → bg d i = bg (wL w) ((if k = 0 then 67 else 35) + i)) ∨ (z.1 = nI 0 ∧ ¬ ∀ i, i < 32 → bg d i = bg (wL w) ((if k = 0 then 67 else 35) + i)))) := by
  have tp := h.co.2.2.2.2.2.2.2
  have tl := tp.2.1
  obtain ⟨o, ho, ho2⟩ : ∃ o, o = (if k = 0 then 67 else 35) ∧ o ≤ 67 := ⟨_, rfl, by split <;> decide⟩
  rw [← ho]
  unfold O_proof_256 F_proof_256
  refine wp_seq (Q := fun z : Nat × Int32 × rS => ∃ v : Nat, z = (0, nI v, S) ∧ ((v = 1 ∧ ∀ i, i < 32 → bg d i = bg (wL w) (o + i)) ∨ (v = 0 ∧ ¬ ∀ i, i < 32 → bg d i = bg (wL w) (o + i)))) ?_ ?_
  · refine wp_loop (K := 32) (fun j (v : Nat) => (v = 1 ∧ ∀ i, i < j → bg d i = bg (wL w) (o + i)) ∨ (v = 0 ∧ ¬ ∀ i, i < 32 → bg d i = bg (wL w) (o + i))) (fun q j v => OL_proof_262 N q (nI k) (nI v) (nI j) S) (fun q j v => L_proof_262 N q (nI k) (nI v) (nI j) S) (fun q j v hj hI ih => ?_) 0 N 1 (by omega) (by omega) (Or.inl ⟨rfl, fun i hi => absurd hi (by omega)⟩)
    unfold OL_proof_262 L_proof_262 OB_proof_262 B_proof_262
    by_cases e : j = 32
    · refine wp_pos (by rw [n_le' (by omega) (by omega)]; omega) ?_
      subst e
      exact wp_fin trivial ⟨v, rfl, hI⟩
    refine wp_neg (by rw [n_le' (by omega) (by omega)]; omega) ?_
    rcases hI with ⟨rfl, hI⟩ | ⟨rfl, hI⟩
    rotate_left
    · refine wp_pos rfl ?_
      unfold O_proof_306 F_proof_306 O_proof_307 F_proof_307
      rw [n_add]
      exact ih 0 (Or.inr ⟨rfl, hI⟩) (by omega)
    obtain ⟨s1, s2⟩ := rootByte_ok (N := N) (S := S) (k := j) hr (by omega)
    have s2' : f_rootByte N S (nI j) = nI (bg d j) := s2
    rw [s2']
    refine wp_neg (by decide) (wp_and s1 ?_)
    have go : wp (O_proof_295 N (OL_proof_262 N q) (nI k) (nI j) (nI (bg d j)) (nI o) S) (F_proof_295 N (L_proof_262 N q) (nI k) (nI j) (nI (bg d j)) (nI o) S) (fun z : Nat × Int32 × rS => ∃ v : Nat, z = (0, nI v, S) ∧ ((v = 1 ∧ ∀ i, i < 32 → bg d i = bg (wL w) (o + i)) ∨ (v = 0 ∧ ¬ ∀ i, i < 32 → bg d i = bg (wL w) (o + i)))) := by
      have u1 := hd j
      have u2 := tp.2.2.2 (o + j)
      unfold O_proof_295 F_proof_295
      rw [n_add, n_clamp (by omega), tp.2.2.1 (o + j) (by omega)]
      refine wp_and ((n_in (by omega)).2 (by omega)) (wp_ite (fun g => ?_) (fun g => ?_)) <;> rw [n_eq' (by omega) (by omega)] at g
      · unfold O_proof_307 F_proof_307
        rw [n_add]
        refine ih 1 (Or.inl ⟨rfl, fun i hi => ?_⟩) (by omega)
        by_cases e2 : i = j
        · rw [e2]; exact g
        · exact hI i (by omega)
      · unfold O_proof_306 F_proof_306 O_proof_307 F_proof_307
        rw [n_add]
        exact ih 0 (Or.inr ⟨rfl, fun z => g (z j (by omega))⟩) (by omega)
    refine wp_ite (fun g => ?_) (fun g => ?_) <;> rw [n_eq0 (by omega)] at g
    · rw [ho, if_pos g] at go
      rw [ho, if_pos g]
      exact go
    · rw [ho, if_neg g] at go
      rw [ho, if_neg g]
      exact go
  rintro z ⟨v, rfl, hv⟩
  unfold OA_proof_262 A_proof_262 O_proof_315 F_proof_315
  rcases hv with ⟨rfl, hv⟩ | ⟨rfl, hv⟩
  · exact wp_fin (congrArg Value.int (show nI 1 &&& 1 = nI 1 by decide)) ⟨rfl, Or.inl ⟨rfl, hv⟩⟩
  · exact wp_fin (congrArg Value.int (show nI 0 &&& 1 = nI 0 by decide)) ⟨rfl, Or.inr ⟨rfl, hv⟩⟩
theorem proof_ok {x y u : Int32} (hN : 1000 ≤ N) (h : rRp F H T S w) : wp (o_proof N S x y u) (f_proof N S x y u) (fun z => sfr S z.2 ∧ ((∃ k a n, k ≤ 1 ∧ 102 ≤ a ∧ a ≤ n ∧ n ≤ (wL w).length ∧ x = nI k ∧ y = nI a ∧ u = nI n ∧ ((z.1 = nI 1 ∧ pfY (wL w) k a n) ∨ (z.1 = nI 0 ∧ ¬ pfY (wL w) k a n))) ∨ ((¬ ∃ k a n, k ≤ 1 ∧ 102 ≤ a ∧ a ≤ n ∧ n ≤ (wL w).length ∧ x = nI k ∧ y = nI a ∧ u = nI n) ∧ z.1 = nI 0))) := by
  have tp := h.co.2.2.2.2.2.2.2
  have tl := tp.2.1
  show wp (O_proof_0 N x y u S) (F_proof_0 N x y u S) _
  unfold O_proof_0 F_proof_0
  have no : (¬ ∃ k a n, k ≤ 1 ∧ 102 ≤ a ∧ a ≤ n ∧ n ≤ (wL w).length ∧ x = nI k ∧ y = nI a ∧ u = nI n) → wp (O_proof_28 N S) (F_proof_28 N S) (fun z => sfr S z.2 ∧ ((∃ k a n, k ≤ 1 ∧ 102 ≤ a ∧ a ≤ n ∧ n ≤ (wL w).length ∧ x = nI k ∧ y = nI a ∧ u = nI n ∧ ((z.1 = nI 1 ∧ pfY (wL w) k a n) ∨ (z.1 = nI 0 ∧ ¬ pfY (wL w) k a n))) ∨ ((¬ ∃ k a n, k ≤ 1 ∧ 102 ≤ a ∧ a ≤ n ∧ n ≤ (wL w).length ∧ x = nI k ∧ y = nI a ∧ u = nI n) ∧ z.1 = nI 0))) := fun g => by
    unfold O_proof_28 F_proof_28
    exact wp_fin trivial ⟨sfr.refl, Or.inr ⟨g, rfl⟩⟩
  refine wp_ite (fun c => ?_) (fun c => ?_)
  · exact no (fun ⟨k, a, n, p1, p2, p3, p4, p5, _⟩ => n_lt0 (show k < 2147483648 by omega) (by rw [← p5]; exact c))
  obtain ⟨k, k1, k2⟩ := i_nat c
  refine wp_ite (fun c2 => ?_) (fun c2 => ?_)
  · refine no (fun ⟨k', a, n, p1, p2, p3, p4, p5, _⟩ => ?_)
    rw [p5, n_lt' (by omega) (by omega)] at c2
    omega
  rw [k2, n_lt' (by omega) (by omega)] at c2
  refine wp_ite (fun c3 => ?_) (fun c3 => ?_)
  · refine no (fun ⟨k', a, n, p1, p2, p3, p4, p5, p6, p7⟩ => ?_)
    rw [p6, n_lt' (by omega) (by omega)] at c3
    omega
  obtain ⟨a, a1, a2⟩ := i_nat (x := y) (fun z => c3 (by
    rw [Int32.lt_iff_toInt_lt] at z ⊢
    exact Int.lt_trans z (by decide)))
  have c3' := c3
  rw [a2, n_lt' (by omega) (by omega)] at c3'
  refine wp_ite (fun c4 => ?_) (fun c4 => ?_)
  · refine no (fun ⟨k', a', n, p1, p2, p3, p4, p5, p6, p7⟩ => ?_)
    rw [p6, p7, n_lt' (by omega) (by omega)] at c4
    omega
  obtain ⟨n, n1, n2⟩ := i_nat (x := u) (fun z => c4 (by
    rw [a2]
    rw [Int32.lt_iff_toInt_lt] at z ⊢
    rw [← iI_n, iI_toInt (by omega) (by omega)]
    have : (0 : Int32).toInt = 0 := rfl
    omega))
  rw [a2, n2, n_lt' (by omega) (by omega)] at c4
  have q : u ≤ S.1 22 ↔ n ≤ (wL w).length := by rw [n2, tp.1, n_le' (by omega) (by omega)]
  refine wp_ite (fun d => ?_) (fun d => ?_) <;> rw [q] at d
  rotate_left
  · refine no (fun ⟨k', a', n', p1, p2, p3, p4, p5, p6, p7⟩ => ?_)
    rw [n2, n_eq' n1 (by omega)] at p7
    omega
  rw [k2, a2, n2]
  have f0 : rfr [6, 7] S (rsI S 7 (nI 0)) := rfr.oneI (by decide)
  refine wp_call (hashByte_ok (x := nI 0) hT0 (by decide)) (fun r => ?_)
  have f1 := f0.trans r.1
  have m1 : hT (f_hashByte N (rsI S 7 (nI 0)) (nI 0)) [0] := r.2
  generalize f_hashByte N (rsI S 7 (nI 0)) (nI 0) = S1 at f1 m1 ⊢
  unfold O_proof_40 F_proof_40
  refine wp_seq (Q := fun z : Nat × Int32 × Int32 × Int32 × rS => z = (0, nI k, nI a, nI n, z.2.2.2.2) ∧ rfr [6, 7] S z.2.2.2.2 ∧ hT z.2.2.2.2 (0 :: sl (wL w) 101 (a - 101))) ?_ ?_
  · refine wp_loop (K := a - 101) (fun j y => rfr [6, 7] S y ∧ hT y (0 :: sl (wL w) 101 j)) (fun q j y => OL_proof_44 N q (nI k) (nI a) (nI n) (nI (101 + j)) y) (fun q j y => L_proof_44 N q (nI k) (nI a) (nI n) (nI (101 + j)) y) (fun q j y hj hI ih => ?_) 0 N S1 (by omega) (by omega) ⟨f1, m1⟩
    unfold OL_proof_44 L_proof_44 OB_proof_44 B_proof_44
    by_cases e : j = a - 101
    · refine wp_pos (by rw [n_le' (by omega) (by omega)]; omega) ?_
      rw [e] at hI
      exact wp_fin trivial ⟨rfl, hI⟩
    have bj := tp.2.2.2 (101 + j)
    rw [n_clamp (by omega), hI.1.a 21 (by decide), tp.2.2.1 (101 + j) (by omega)]
    refine wp_neg (by rw [n_le' (by omega) (by omega)]; omega) (wp_and ((n_in (by omega)).2 (by omega)) (wp_call (hashByte_ok (x := nI (bg (wL w) (101 + j))) hI.2 (by rw [List.length_cons, sl_len]; omega)) (fun r => ?_)))
    unfold O_proof_61 F_proof_61
    rw [n_add]
    refine ih _ ⟨hI.1.trans r.1, ?_⟩ (by omega)
    have := r.2
    rw [nb_n, Nat.mod_eq_of_lt bj, List.cons_append, sl_sn] at this
    exact this
  rintro z ⟨z0, z1, z2⟩
  rw [z0]
  generalize z.2.2.2.2 = S2 at z1 z2 ⊢
  show wp (O_proof_67 N (nI k) (nI a) (nI n) S2) (F_proof_67 N (nI k) (nI a) (nI n) S2) _
  unfold O_proof_67 F_proof_67
  refine wp_call (keep_t (by omega) z2 (by rw [List.length_cons, sl_len]; omega) (h.co.2.2.2.2.1.fr z1 (by decide) (by decide))) (fun q => ?_)
  have f3 : rfr [6, 7, 8, 9, 18] S (f_keepLeaf N S2 (nI 0)) := (z1.mono (by decide)).trans q.1
  have q2 := q.2
  generalize f_keepLeaf N S2 (nI 0) = S3 at f3 q2 ⊢
  have R3 := h.sf (f3.sf (by decide) (by decide) (by decide) (by decide))
  have s3 := f3.sf (by decide) (by decide) (by decide) (by decide)
  unfold O_proof_72 F_proof_72
  refine wp_seq (proof_l75 (x := nI k) hN d N 2000 a _ S3 (by omega) (by omega) (by omega) R3 q2 (shaB_B _) (shaB_len _)) ?_
  rintro v ⟨v1, v2, v3⟩
  unfold OA_proof_75 A_proof_75
  rcases v3 with ⟨d', e1, e2, e3, e4, e5⟩ | ⟨e1, e2⟩
  · rw [if_neg (by rw [e2]; decide), if_neg (by rw [e2]; decide), e3]
    refine wp_mono (proof_256 hN (by omega) v1 (by omega) e4 e5) (fun g => ⟨?_, Or.inl ⟨k, a, n, (by omega), (by omega), (by omega), d, rfl, rfl, rfl, ?_⟩⟩)
    · rw [g.1]
      exact s3.trans v2
    · rcases g.2 with ⟨g1, g2⟩ | ⟨g1, g2⟩
      · exact Or.inl ⟨g1, d', e1, g2⟩
      · refine Or.inr ⟨g1, fun ⟨d2, p1, p2⟩ => g2 ?_⟩
        rw [e1, Option.some.injEq] at p1
        rw [p1]
        exact p2
  · rw [if_pos e2, if_pos e2]
    unfold O_proof_110 F_proof_110
    refine wp_fin trivial ⟨s3.trans v2, Or.inl ⟨k, a, n, (by omega), (by omega), (by omega), d, rfl, rfl, rfl, Or.inr ⟨rfl, fun ⟨d2, p1, p2⟩ => ?_⟩⟩⟩
    rw [e1] at p1
    cases p1
end
end

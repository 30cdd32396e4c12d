section
/-! POOLS OF THE REFERENCE: payments come in, payments of a block go out -/
/-- a payment's seven bytes -/
def pyT (a b c d e : Nat) : List Nat := [a, b, c / 256, c % 256, d / 256, d % 256, e]
/-- a block holds a payment -/
def inPy (b x : List Nat) : Prop := ∃ j, j < bg b 99 ∧ sl b (pyP b j) 7 = x
/-- the first entries of a pool that a block does not hold -/
noncomputable def kpL (l : List (List Nat)) (b : List Nat) : Nat → List (List Nat)
  | 0 => []
  | j + 1 => @ite _ (inPy b (pg l j)) (Classical.propDecidable _) (kpL l b j) (kpL l b j ++ [pg l j])
theorem kpL_le (l : List (List Nat)) (b : List Nat) : ∀ j, (kpL l b j).length ≤ j
  | 0 => Nat.le_refl _
  | j + 1 => by
    have := kpL_le l b j
    unfold kpL
    split
    · omega
    · rw [List.length_append]
      exact Nat.add_le_add_right this 1
section
variable {N n F H T : Nat} {S S1 : rS} {w : Wd}
theorem rRp.pool {l : List (List Nat)} (h : rRp F H T S w) (hn : n < H) (fr : rfr [53, 54] S S1) (h3 : ∀ m, m ≠ n → S1.2.1 53 m = S.2.1 53 m) (h4 : ∀ x, ¬ (560 * n ≤ x ∧ x < 560 * n + 560) → S1.2.1 54 x = S.2.1 54 x) (hl : S1.2.1 53 n = nI l.length) (h80 : l.length ≤ 80) (new : ∀ q, q < l.length → (pg l q).length = 7 ∧ isB (pg l q) ∧ ∀ k, k < 7 → S1.2.1 54 (560 * n + 7 * q + k) = nI (bg (pg l q) k)) : rRp F H T S1 (sP w n l) := by
  refine ⟨h.co.fr fr (by decide), h.sk.fr fr (by decide), h.n.fr fr (by decide), h.wh.fr fr (by decide), h.x.fr fr (by decide), h.l.fr fr (by decide) (by decide) (by decide), h.hd.fr fr (by decide) (by decide) (by decide) (by decide), h.v.fr fr (by decide) (by decide) (by decide) (by decide) (by decide), h.d.fr fr (by decide) (by decide) (by decide), h.c.fr fr (by decide) (by decide) (by decide), h.g.fr fr (by decide) (by decide) (by decide) (by decide), fun m hm => ?_, h.e.fr fr (by decide) (by decide), h.s.fr fr (by decide) (by decide), h.k.fr fr (by decide)⟩
  have old := h.p m hm
  show S1.2.1 53 m = nI (if m = n then l else w.2.2.1 m).length ∧ (if m = n then l else w.2.2.1 m).length ≤ 80 ∧ ∀ q, q < (if m = n then l else w.2.2.1 m).length → (pg (if m = n then l else w.2.2.1 m) q).length = 7 ∧ isB (pg (if m = n then l else w.2.2.1 m) q) ∧ ∀ k, k < 7 → S1.2.1 54 (560 * m + 7 * q + k) = nI (bg (pg (if m = n then l else w.2.2.1 m) q) k)
  by_cases e : m = n
  · rw [if_pos e, e]
    exact ⟨hl, h80, new⟩
  · rw [if_neg e, h3 m e]
    obtain ⟨o1, o2, o3⟩ := old
    refine ⟨o1, o2, fun q hq => ?_⟩
    obtain ⟨p1, p2, p3⟩ := o3 q hq
    have hq : q < (w.2.2.1 m).length := hq
    have o2 : (w.2.2.1 m).length ≤ 80 := o2
    exact ⟨p1, p2, fun k hk => by rw [h4 _ (by omega)]; exact p3 k hk⟩
theorem isPoolAt_ok {l : List Nat} {o a b c d e : Nat} (ho : o + 7 ≤ 7280) (hl : l.length = 7) (hB : isB l) (hr : ∀ k, k < 7 → S.2.1 54 (o + k) = nI (bg l k)) (ha : a < 256) (hb : b < 256) (hc : c < 65536) (hd : d < 65536) (he : e < 256) : wp (o_isPoolAt N S (nI o) (nI a) (nI b) (nI c) (nI d) (nI e)) (f_isPoolAt N S (nI o) (nI a) (nI b) (nI c) (nI d) (nI e)) (fun v => (l = pyT a b c d e ∧ v = nI 1) ∨ (l ≠ pyT a b c d e ∧ v = nI 0)) := by
  have u0 := hB 0
  have u1 := hB 1
  have u2 := hB 2
  have u3 := hB 3
  have u4 := hB 4
  have u5 := hB 5
  have u6 := hB 6
  show wp (O_isPoolAt_0 N (nI o) (nI a) (nI b) (nI c) (nI d) (nI e) S) (F_isPoolAt_0 N (nI o) (nI a) (nI b) (nI c) (nI d) (nI e) S) _
  unfold O_isPoolAt_0 F_isPoolAt_0
  have r0 := hr 0 (by omega)
  rw [Nat.add_zero] at r0
  simp only [n_add]
  rw [n_sshr (by omega) (by omega), n_sshr (by omega) (by omega), n_and, n_and, n_clamp (by omega), n_clamp (by omega), n_clamp (by omega), n_clamp (by omega), n_clamp (by omega), n_clamp (by omega), n_clamp (by omega), r0, hr 1 (by omega), hr 2 (by omega), hr 3 (by omega), hr 4 (by omega), hr 5 (by omega), hr 6 (by omega)]
  have no : l ≠ pyT a b c d e → wp (O_isPoolAt_106 N S) (F_isPoolAt_106 N S) (fun v => (l = pyT a b c d e ∧ v = nI 1) ∨ (l ≠ pyT a b c d e ∧ v = nI 0)) := fun ne => by
    unfold O_isPoolAt_106 F_isPoolAt_106 O_isPoolAt_107 F_isPoolAt_107
    exact wp_fin rfl (Or.inr ⟨ne, rfl⟩)
  refine wp_and ((n_in (by omega)).2 (by omega)) (wp_ite (fun c0 => ?_) (fun c0 => ?_)) <;> rw [n_eq' (by omega) (by omega)] at c0
  rotate_left
  · exact no (fun z => c0 (by rw [z]; rfl))
  refine wp_and ((n_in (by omega)).2 (by omega)) (wp_ite (fun c1 => ?_) (fun c1 => ?_)) <;> rw [n_eq' (by omega) (by omega)] at c1
  rotate_left
  · exact no (fun z => c1 (by rw [z]; rfl))
  refine wp_and ((n_in (by omega)).2 (by omega)) (wp_ite (fun c2 => ?_) (fun c2 => ?_)) <;> rw [n_eq' (by omega) (by omega)] at c2
  rotate_left
  · exact no (fun z => c2 (by rw [z]; rfl))
  refine wp_and ((n_in (by omega)).2 (by omega)) (wp_ite (fun c3 => ?_) (fun c3 => ?_)) <;> rw [n_eq' (by omega) (by omega)] at c3
  rotate_left
  · exact no (fun z => c3 (by rw [z]; rfl))
  refine wp_and ((n_in (by omega)).2 (by omega)) (wp_ite (fun c4 => ?_) (fun c4 => ?_)) <;> rw [n_eq' (by omega) (by omega)] at c4
  rotate_left
  · exact no (fun z => c4 (by rw [z]; rfl))
  refine wp_and ((n_in (by omega)).2 (by omega)) (wp_ite (fun c5 => ?_) (fun c5 => ?_)) <;> rw [n_eq' (by omega) (by omega)] at c5
  rotate_left
  · exact no (fun z => c5 (by rw [z]; rfl))
  refine wp_and ((n_in (by omega)).2 (by omega)) (wp_ite (fun c6 => ?_) (fun c6 => ?_)) <;> rw [n_eq' (by omega) (by omega)] at c6
  rotate_left
  · exact no (fun z => c6 (by rw [z]; rfl))
  unfold O_isPoolAt_107 F_isPoolAt_107
  refine wp_fin rfl (Or.inl ⟨by_ext (by rw [hl]; rfl) (fun i hi => ?_), rfl⟩)
  rw [hl] at hi
  rcases (show i = 0 ∨ i = 1 ∨ i = 2 ∨ i = 3 ∨ i = 4 ∨ i = 5 ∨ i = 6 by omega) with rfl | rfl | rfl | rfl | rfl | rfl | rfl
  · exact c0
  · exact c1
  · exact c2
  · exact c3
  · exact c4
  · exact c5
  · exact c6
theorem pool_step {o j : Nat} {p : List Nat} {v : Int32} (h : ∀ x, S1.2.1 54 x = if o ≤ x ∧ x < o + j then nI (bg p (x - o)) else S.2.1 54 x) (hv : v = nI (bg p j)) : ∀ x, (rsA S1 54 (o + j) v).2.1 54 x = if o ≤ x ∧ x < o + (j + 1) then nI (bg p (x - o)) else S.2.1 54 x := fun x => by
  rw [A_same]
  by_cases c : x = o + j
  · rw [c, upd_same, if_pos (by omega), hv, Nat.add_sub_cancel_left]
  · rw [upd_other _ _ c, h x]
    by_cases c2 : o ≤ x ∧ x < o + j
    · rw [if_pos c2, if_pos (by omega)]
    · rw [if_neg c2, if_neg (by omega)]
/-- a payment comes into a pool -/
noncomputable def aPool (w : Wd) (n : Nat) (p : List Nat) : Bool × Wd := @ite _ ((wP w n).length = 80 ∨ ∃ q, q < (wP w n).length ∧ pg (wP w n) q = p) (Classical.propDecidable _) (false, w) (true, sP w n (wP w n ++ [p]))
theorem toPool_ok {a b c d e : Nat} (hN : 1000 ≤ N) (h : rRp F H T S w) (hn : n < H) (ha : a < 256) (hb : b < 256) (hc : c < 65536) (hd : d < 65536) (he : e < 256) : wp (o_toPool N S (nI n) (nI a) (nI b) (nI c) (nI d) (nI e)) (f_toPool N S (nI n) (nI a) (nI b) (nI c) (nI d) (nI e)) (fun z => rfr [53, 54] S z.2 ∧ rRp F H T z.2 (aPool w n (pyT a b c d e)).2 ∧ z.1 = nI (if (aPool w n (pyT a b c d e)).1 then 1 else 0)) := by
  have cb := h.1.1.b
  obtain ⟨p1, p2, p3⟩ := h.p n hn
  obtain ⟨l, hl⟩ : ∃ l, l = wP w n := ⟨_, rfl⟩
  rw [← hl] at p1 p2 p3
  show wp (O_toPool_0 N (nI n) (nI a) (nI b) (nI c) (nI d) (nI e) S) (F_toPool_0 N (nI n) (nI a) (nI b) (nI c) (nI d) (nI e) S) _
  have go : ∀ s0 : Nat, (s0 = 1 ∧ l.length = 80) ∨ (s0 = 0 ∧ l.length < 80) → wp (O_toPool_16 N (nI n) (nI a) (nI b) (nI c) (nI d) (nI e) (nI s0) S) (F_toPool_16 N (nI n) (nI a) (nI b) (nI c) (nI d) (nI e) (nI s0) S) (fun z => rfr [53, 54] S z.2 ∧ rRp F H T z.2 (aPool w n (pyT a b c d e)).2 ∧ z.1 = nI (if (aPool w n (pyT a b c d e)).1 then 1 else 0)) := by
    intro s0 hs0
    unfold O_toPool_16 F_toPool_16
    refine wp_seq (Q := fun z : Nat × Int32 × Int32 × Int32 × Int32 × Int32 × Int32 × Int32 × rS => ∃ x : Nat, z = (0, nI n, nI a, nI b, nI c, nI d, nI e, nI x, S) ∧ ((x = 1 ∧ (l.length = 80 ∨ ∃ q, q < l.length ∧ pg l q = pyT a b c d e)) ∨ (x = 0 ∧ l.length < 80 ∧ ∀ q, q < l.length → pg l q ≠ pyT a b c d e))) ?_ ?_
    · refine wp_loop (K := l.length) (fun j (x : Nat) => (x = 1 ∧ (l.length = 80 ∨ ∃ q, q < l.length ∧ pg l q = pyT a b c d e)) ∨ (x = 0 ∧ l.length < 80 ∧ ∀ q, q < j → pg l q ≠ pyT a b c d e)) (fun r j x => OL_toPool_21 N r (nI n) (nI a) (nI b) (nI c) (nI d) (nI e) (nI x) (nI j) S) (fun r j x => L_toPool_21 N r (nI n) (nI a) (nI b) (nI c) (nI d) (nI e) (nI x) (nI j) S) (fun r j x hj hI ih => ?_) 0 N s0 (by omega) (by omega) ?_
      · unfold OL_toPool_21 L_toPool_21 OB_toPool_21 B_toPool_21
        rw [n_clamp (by omega), p1]
        refine wp_and ((n_in (by omega)).2 (by omega)) ?_
        by_cases ej : j = l.length
        · refine wp_pos (by rw [n_le' (by omega) (by omega)]; omega) ?_
          subst ej
          exact wp_fin trivial ⟨x, rfl, hI⟩
        · refine wp_neg (by rw [n_le' (by omega) (by omega)]; omega) ?_
          have one : (l.length = 80 ∨ ∃ q, q < l.length ∧ pg l q = pyT a b c d e) → wp (O_toPool_63 N (OL_toPool_21 N r) (nI n) (nI a) (nI b) (nI c) (nI d) (nI e) (nI j) S) (F_toPool_63 N (L_toPool_21 N r) (nI n) (nI a) (nI b) (nI c) (nI d) (nI e) (nI j) S) (fun z : Nat × Int32 × Int32 × Int32 × Int32 × Int32 × Int32 × Int32 × rS => ∃ x : Nat, z = (0, nI n, nI a, nI b, nI c, nI d, nI e, nI x, S) ∧ ((x = 1 ∧ (l.length = 80 ∨ ∃ q, q < l.length ∧ pg l q = pyT a b c d e)) ∨ (x = 0 ∧ l.length < 80 ∧ ∀ q, q < l.length → pg l q ≠ pyT a b c d e))) := by
            intro g
            unfold O_toPool_63 F_toPool_63 O_toPool_68 F_toPool_68
            rw [n_add]
            exact ih 1 (Or.inl ⟨rfl, g⟩) (by omega)
          rcases hI with ⟨rfl, g⟩ | ⟨rfl, g1, g2⟩
          · exact wp_neg (by decide) (one g)
          · obtain ⟨z1, z2, z3⟩ := p3 j (by omega)
            simp only [n_mul, n_add]
            obtain ⟨i1, i2⟩ := isPoolAt_ok (N := N) (S := S) (l := pg l j) (o := 560 * n + 7 * j) (by omega) z1 z2 z3 ha hb hc hd he
            refine wp_pos rfl (wp_and i1 ?_)
            rcases i2 with ⟨i2, i3⟩ | ⟨i2, i3⟩ <;> rw [i3]
            · exact wp_neg (by decide) (one (Or.inr ⟨j, (by omega), i2⟩))
            · refine wp_pos rfl ?_
              unfold O_toPool_68 F_toPool_68
              rw [n_add]
              refine ih 0 (Or.inr ⟨rfl, g1, fun q hq => ?_⟩) (by omega)
              by_cases eq : q = j
              · rw [eq]; exact i2
              · exact g2 q (by omega)
      · rcases hs0 with ⟨rfl, g⟩ | ⟨rfl, g⟩
        · exact Or.inl ⟨rfl, Or.inl g⟩
        · exact Or.inr ⟨rfl, g, fun q hq => absurd hq (by omega)⟩
    · rintro z ⟨x, rfl, hx⟩
      show wp (O_toPool_76 N (nI n) (nI a) (nI b) (nI c) (nI d) (nI e) (nI x) S) (F_toPool_76 N (nI n) (nI a) (nI b) (nI c) (nI d) (nI e) (nI x) S) _
      unfold O_toPool_76 F_toPool_76 aPool
      rw [← hl]
      rcases hx with ⟨rfl, g⟩ | ⟨rfl, g1, g2⟩
      · rw [if_pos g]
        exact wp_neg (by decide) (wp_fin trivial ⟨rfr.refl, h, rfl⟩)
      · have ng : ¬ (l.length = 80 ∨ ∃ q, q < l.length ∧ pg l q = pyT a b c d e) := by
          rintro (g | ⟨q, q1, q2⟩)
          · omega
          · exact g2 q q1 q2
        rw [if_neg ng, n_clamp (by omega), p1]
        simp only [n_mul, n_add]
        rw [n_clamp (by omega), n_clamp (by omega)]
        refine wp_pos rfl (wp_and ((n_in (by omega)).2 (by omega)) (wp_and ((n_in (by omega)).2 (by omega)) (wp_and ((n_in (by omega)).2 (by omega)) ?_)))
        obtain ⟨o, ho⟩ : ∃ o, o = 560 * n + 7 * l.length := ⟨_, rfl⟩
        rw [← ho]
        have s1 := pool_step (S := S) (S1 := S) (o := o) (j := 0) (p := pyT a b c d e) (v := nI a) (fun x => by rw [if_neg (by omega)]) rfl
        rw [Nat.add_zero] at s1
        have s2 := pool_step (v := nI b) s1 rfl
        have f2 : rfr [53, 54] S (rsA (rsA S 54 o (nI a)) 54 (o + 1) (nI b)) := (rfr.one (by decide)).trans (rfr.one (by decide))
        have g53 : (rsA (rsA S 54 o (nI a)) 54 (o + 1) (nI b)).2.1 53 = S.2.1 53 := by rw [A_other _ _ _ (by decide), A_other _ _ _ (by decide)]
        have s2 : ∀ x, (rsA (rsA S 54 o (nI a)) 54 (o + 1) (nI b)).2.1 54 x = if o ≤ x ∧ x < o + 2 then nI (bg (pyT a b c d e) (x - o)) else S.2.1 54 x := s2
        generalize rsA (rsA S 54 o (nI a)) 54 (o + 1) (nI b) = S2 at s2 f2 g53 ⊢
        unfold O_toPool_118 F_toPool_118
        rw [n_add, n_add, n_clamp (by omega), n_clamp (by omega), n_sshr (by omega) (by omega), n_and]
        refine wp_and ((n_in (by omega)).2 (by omega)) (wp_and ((n_in (by omega)).2 (by omega)) ?_)
        have s3 := pool_step (v := nI (c / 2 ^ 8)) s2 rfl
        have s4 := pool_step (v := nI (c % 256)) s3 rfl
        have f4 : rfr [53, 54] S (rsA (rsA S2 54 (o + 2) (nI (c / 2 ^ 8))) 54 (o + 3) (nI (c % 256))) := f2.trans ((rfr.one (by decide)).trans (rfr.one (by decide)))
        have g53' : (rsA (rsA S2 54 (o + 2) (nI (c / 2 ^ 8))) 54 (o + 3) (nI (c % 256))).2.1 53 = S.2.1 53 := by rw [A_other _ _ _ (by decide), A_other _ _ _ (by decide), g53]
        have s4 : ∀ x, (rsA (rsA S2 54 (o + 2) (nI (c / 2 ^ 8))) 54 (o + 3) (nI (c % 256))).2.1 54 x = if o ≤ x ∧ x < o + 4 then nI (bg (pyT a b c d e) (x - o)) else S.2.1 54 x := s4
        generalize rsA (rsA S2 54 (o + 2) (nI (c / 2 ^ 8))) 54 (o + 3) (nI (c % 256)) = S4 at s4 f4 g53' ⊢
        unfold O_toPool_147 F_toPool_147
        rw [n_add, n_add, n_clamp (by omega), n_clamp (by omega), n_sshr (by omega) (by omega), n_and]
        refine wp_and ((n_in (by omega)).2 (by omega)) (wp_and ((n_in (by omega)).2 (by omega)) ?_)
        have s5 := pool_step (v := nI (d / 2 ^ 8)) s4 rfl
        have s6 := pool_step (v := nI (d % 256)) s5 rfl
        have f6 : rfr [53, 54] S (rsA (rsA S4 54 (o + 4) (nI (d / 2 ^ 8))) 54 (o + 5) (nI (d % 256))) := f4.trans ((rfr.one (by decide)).trans (rfr.one (by decide)))
        have g53' : (rsA (rsA S4 54 (o + 4) (nI (d / 2 ^ 8))) 54 (o + 5) (nI (d % 256))).2.1 53 = S.2.1 53 := by rw [A_other _ _ _ (by decide), A_other _ _ _ (by decide), g53']
        have s6 : ∀ x, (rsA (rsA S4 54 (o + 4) (nI (d / 2 ^ 8))) 54 (o + 5) (nI (d % 256))).2.1 54 x = if o ≤ x ∧ x < o + 6 then nI (bg (pyT a b c d e) (x - o)) else S.2.1 54 x := s6
        generalize rsA (rsA S4 54 (o + 4) (nI (d / 2 ^ 8))) 54 (o + 5) (nI (d % 256)) = S6 at s6 f6 g53' ⊢
        unfold O_toPool_176 F_toPool_176 O_toPool_202 F_toPool_202
        rw [n_add, n_clamp (by omega), n_clamp (by omega)]
        have s7 := pool_step (v := nI e) s6 rfl
        have f7 : rfr [53, 54] S (rsA S6 54 (o + 6) (nI e)) := f6.trans (rfr.one (by decide))
        have g7 : (rsA S6 54 (o + 6) (nI e)).2.1 53 = S.2.1 53 := by rw [A_other _ _ _ (by decide), g53']
        generalize rsA S6 54 (o + 6) (nI e) = S7 at s7 f7 g7 ⊢
        rw [g7, p1, n_add]
        refine wp_fin ⟨((n_in (by omega)).2 (by omega)), ((n_in (by omega)).2 (by omega)), ((n_in (by omega)).2 (by omega)), trivial⟩ ⟨f7.trans (rfr.one (by decide)), ?_, rfl⟩
        refine h.pool hn (f7.trans (rfr.one (by decide))) (fun m hm => ?_) (fun x hx => ?_) ?_ ?_ (fun q hq => ?_)
        · rw [A_same, upd_other _ _ hm, g7]
        · rw [A_other _ _ _ (by decide), s7 x, if_neg (by omega)]
        · rw [A_same, upd_same, List.length_append]
          rfl
        · rw [List.length_append]
          exact g1
        · rw [List.length_append] at hq
          have hq : q < l.length + 1 := hq
          rw [A_other _ _ _ (by decide), pg_snoc]
          by_cases cq : q < l.length
          · rw [if_pos cq]
            obtain ⟨z1, z2, z3⟩ := p3 q cq
            exact ⟨z1, z2, fun k hk => by rw [s7, if_neg (by omega)]; exact z3 k hk⟩
          · rw [if_neg cq, if_pos (by omega)]
            refine ⟨rfl, fun i => ?_, fun k hk => ?_⟩
            · rcases (show i = 0 ∨ i = 1 ∨ i = 2 ∨ i = 3 ∨ i = 4 ∨ i = 5 ∨ i = 6 ∨ 7 ≤ i by omega) with rfl | rfl | rfl | rfl | rfl | rfl | rfl | z
              · exact ha
              · exact hb
              · show c / 256 < 256
                omega
              · show c % 256 < 256
                omega
              · show d / 256 < 256
                omega
              · show d % 256 < 256
                omega
              · exact he
              · rw [bg_out z]
                omega
            · rw [s7, if_pos (by omega), show 560 * n + 7 * q + k - o = k by omega]
  unfold O_toPool_0 F_toPool_0
  rw [n_clamp (by omega), p1]
  refine wp_and ((n_in (by omega)).2 (by omega)) (wp_ite (fun c0 => ?_) (fun c0 => ?_)) <;> rw [n_eq' (by omega) (by omega)] at c0
  · exact go 1 (Or.inl ⟨rfl, c0⟩)
  · exact go 0 (Or.inr ⟨rfl, (by omega)⟩)
end
end

section
/-! POOLS OF THE REFERENCE: payments of a block go out -/
section
variable {N n F H T p : Nat} {S S1 : rS} {w : Wd} {b : List Nat}
theorem isIn_ok {x : List Nat} {o : Nat} (hN : 1000 ≤ N) (hp : p < 1354) (hb : bR S p b) (hw : blkWf T b) (hB : isB b) (ho : o + 7 ≤ 7280) (hx : x.length = 7) (hxB : isB x) (hr : ∀ k, k < 7 → S.2.1 54 (o + k) = nI (bg x k)) : wp (o_isIn N S (nI p) (nI o)) (f_isIn N S (nI p) (nI o)) (fun v => (inPy b x ∧ v = nI 1) ∨ (¬ inPy b x ∧ v = nI 0)) := by
  have hl := hw.len
  obtain ⟨w1, w2, w3, w4, w5, w6, w7, w8, w9⟩ := hw
  obtain ⟨a1, a2⟩ := byte_at (N := N) (i := 99) hp hb.2.1 hl.2 (by omega)
  have o2 : o_paymentsOf N S (nI p) := ⟨a1, trivial⟩
  have e2 : f_paymentsOf N S (nI p) = nI (bg b 99) := a2
  obtain ⟨P, hP⟩ : ∃ P, P = evP b (bg b 100) := ⟨_, rfl⟩
  have pl : b.length = P + 7 * bg b 99 := by rw [w8]; unfold pyP; rw [hP]
  show wp (O_isIn_0 N (nI p) (nI o) S) (F_isIn_0 N (nI p) (nI o) S) _
  unfold O_isIn_0 F_isIn_0
  rw [n_clamp (by omega), hb.1, e2, n_mul, n_sub (by omega), show b.length - 7 * bg b 99 = P by omega]
  refine wp_and ((n_in (by omega)).2 (by omega)) (wp_and o2 ?_)
  refine wp_seq (Q := fun z : Nat × Int32 × Unit => (inPy b x ∧ z.2.1 = nI 1) ∨ (¬ inPy b x ∧ z.2.1 = nI 0)) ?_ (fun z hz => by unfold OA_isIn_22 A_isIn_22 O_isIn_105 F_isIn_105; rcases hz with ⟨h1, h2⟩ | ⟨h1, h2⟩ <;> rw [h2]; exact wp_fin rfl (Or.inl ⟨h1, rfl⟩); exact wp_fin rfl (Or.inr ⟨h1, rfl⟩))
  refine wp_loop (K := bg b 99) (fun j (y : Nat) => (y = 1 ∧ inPy b x) ∨ (y = 0 ∧ ∀ i, i < j → sl b (pyP b i) 7 ≠ x)) (fun r j y => OL_isIn_22 N r (nI p) (nI o) (nI P) (nI y) (nI j) S) (fun r j y => L_isIn_22 N r (nI p) (nI o) (nI P) (nI y) (nI j) S) (fun r j y hj hI ih => ?_) 0 N 0 (by omega) (by omega) (Or.inr ⟨rfl, fun i hi => absurd hi (by omega)⟩)
  unfold OL_isIn_22 L_isIn_22 OB_isIn_22 B_isIn_22
  rw [e2]
  refine wp_and o2 ?_
  by_cases ej : j = bg b 99
  · refine wp_pos (by rw [n_le' (by omega) (by omega)]; omega) (wp_fin trivial ?_)
    rcases hI with ⟨rfl, g⟩ | ⟨rfl, g⟩
    · exact Or.inl ⟨g, rfl⟩
    · refine Or.inr ⟨?_, rfl⟩
      rintro ⟨i, i1, i2⟩
      exact g i (by omega) i2
  · refine wp_neg (by rw [n_le' (by omega) (by omega)]; omega) ?_
    rcases hI with ⟨rfl, g⟩ | ⟨rfl, g⟩
    · exact wp_neg (by decide) (wp_fin trivial (Or.inl ⟨g, rfl⟩))
    refine wp_pos rfl (wp_seq (Q := fun z : Nat × Int32 × Int32 × Int32 × Int32 × Int32 × Unit => ∃ y : Nat, z = (0, nI p, nI o, nI P, nI j, nI y, ()) ∧ ((y = 1 ∧ sl b (pyP b j) 7 = x) ∨ (y = 0 ∧ sl b (pyP b j) 7 ≠ x))) ?_ ?_)
    · refine wp_loop (K := 7) (fun k (y : Nat) => (y = 1 ∧ ∀ i, i < k → bg b (pyP b j + i) = bg x i) ∨ (y = 0 ∧ sl b (pyP b j) 7 ≠ x)) (fun r2 k y => OL_isIn_43 N r2 (nI p) (nI o) (nI P) (nI j) (nI y) (nI k) S) (fun r2 k y => L_isIn_43 N r2 (nI p) (nI o) (nI P) (nI j) (nI y) (nI k) S) (fun r2 k y hk hJ ih2 => ?_) 0 N 1 (by omega) (by omega) (Or.inl ⟨rfl, fun i hi => absurd hi (by omega)⟩)
      unfold OL_isIn_43 L_isIn_43 OB_isIn_43 B_isIn_43
      by_cases ek : k = 7
      · refine wp_pos (by rw [n_le' (by omega) (by omega)]; omega) ?_
        subst ek
        refine wp_fin trivial ⟨y, rfl, ?_⟩
        rcases hJ with ⟨rfl, g2⟩ | g2
        · refine Or.inl ⟨rfl, by_ext (by rw [sl_len, hx]) (fun i hi => ?_)⟩
          rw [sl_len] at hi
          rw [sl_in hi]
          exact g2 i hi
        · exact Or.inr g2
      · refine wp_neg (by rw [n_le' (by omega) (by omega)]; omega) ?_
        rcases hJ with ⟨rfl, g2⟩ | ⟨rfl, g2⟩
        · have ep : P + 7 * j + k = pyP b j + k := by unfold pyP; omega
          obtain ⟨c1, c2⟩ := byte_at (N := N) (i := pyP b j + k) hp hb.2.1 hl.2 (by omega)
          have u1 := hB (pyP b j + k)
          have u2 := hxB k
          simp only [n_mul, n_add]
          rw [ep, c2, n_clamp (by omega), hr k (by omega)]
          refine wp_neg (by decide) (wp_and c1 (wp_and ((n_in (by omega)).2 (by omega)) (wp_ite (fun c3 => ?_) (fun c3 => ?_)))) <;> rw [n_eq' (by omega) (by omega)] at c3
          · unfold O_isIn_87 F_isIn_87
            rw [n_add]
            refine ih2 1 (Or.inl ⟨rfl, fun i hi => ?_⟩) (by omega)
            by_cases e : i = k
            · rw [e]; exact c3
            · exact g2 i (by omega)
          · unfold O_isIn_87 F_isIn_87
            rw [n_add]
            refine ih2 0 (Or.inr ⟨rfl, fun z => c3 ?_⟩) (by omega)
            rw [← z, sl_in (by omega)]
        · exact wp_pos rfl (wp_fin trivial ⟨0, rfl, Or.inr ⟨rfl, g2⟩⟩)
    · rintro z ⟨y, rfl, hy⟩
      show wp (O_isIn_95 N (OL_isIn_22 N r · · · · · S) (nI p) (nI o) (nI P) (nI j) (nI y) S) (F_isIn_95 N (L_isIn_22 N r · · · · · S) (nI p) (nI o) (nI P) (nI j) (nI y) S) _
      unfold O_isIn_95 F_isIn_95
      rw [n_add]
      rcases hy with ⟨rfl, g2⟩ | ⟨rfl, g2⟩
      · exact ih 1 (Or.inl ⟨rfl, j, (by omega), g2⟩) (by omega)
      · refine ih 0 (Or.inr ⟨rfl, fun i hi => ?_⟩) (by omega)
        by_cases e : i = j
        · rw [e]; exact g2
        · exact g i (by omega)
/-- the payments of a block go out of a pool -/
noncomputable def aFrom (w : Wd) (n : Nat) (b : List Nat) : Wd := sP w n (kpL (wP w n) b (wP w n).length)
theorem kpL_no {l : List (List Nat)} {j : Nat} (h : inPy b (pg l j)) : kpL l b (j + 1) = kpL l b j := by
  unfold kpL
  rw [if_pos h]
  cases j <;> rfl
theorem kpL_yes {l : List (List Nat)} {j : Nat} (h : ¬ inPy b (pg l j)) : kpL l b (j + 1) = kpL l b j ++ [pg l j] := by
  show @ite _ (inPy b (pg l j)) (Classical.propDecidable _) (kpL l b j) (kpL l b j ++ [pg l j]) = _
  rw [if_neg h]
theorem fromPool_ok (hN : 1000 ≤ N) (h : rRp F H T S w) (hn : n < H) (hp : p < 1354) (hb : bR S p b) (hw : blkWf T b) (hB : isB b) : wp (o_fromPool N S (nI n) (nI p)) (f_fromPool N S (nI n) (nI p)) (fun S' => rfr [53, 54] S S' ∧ rRp F H T S' (aFrom w n b)) := by
  have cb := h.1.1.b
  obtain ⟨p1, p2, p3⟩ := h.p n hn
  unfold aFrom
  obtain ⟨l, hl⟩ : ∃ l, l = wP w n := ⟨_, rfl⟩
  rw [← hl] at p1 p2 p3 ⊢
  show wp (O_fromPool_0 N (nI n) (nI p) S) (F_fromPool_0 N (nI n) (nI p) S) _
  unfold O_fromPool_0 F_fromPool_0
  refine wp_seq (Q := fun z : Nat × Int32 × Int32 × rS => z = (0, nI n, nI (kpL l b l.length).length, z.2.2.2) ∧ rfr [54] S z.2.2.2 ∧ (∀ x, ¬ (560 * n ≤ x ∧ x < 560 * n + 7 * (kpL l b l.length).length) → z.2.2.2.2.1 54 x = S.2.1 54 x) ∧ ∀ q, q < (kpL l b l.length).length → (pg (kpL l b l.length) q).length = 7 ∧ isB (pg (kpL l b l.length) q) ∧ ∀ k, k < 7 → z.2.2.2.2.1 54 (560 * n + 7 * q + k) = nI (bg (pg (kpL l b l.length) q) k)) ?_ ?_
  · refine wp_loop (K := l.length) (fun j (y : Nat × rS) => y.1 = (kpL l b j).length ∧ rfr [54] S y.2 ∧ (∀ x, ¬ (560 * n ≤ x ∧ x < 560 * n + 7 * (kpL l b j).length) → y.2.2.1 54 x = S.2.1 54 x) ∧ ∀ q, q < (kpL l b j).length → (pg (kpL l b j) q).length = 7 ∧ isB (pg (kpL l b j) q) ∧ ∀ k, k < 7 → y.2.2.1 54 (560 * n + 7 * q + k) = nI (bg (pg (kpL l b j) q) k)) (fun r j y => OL_fromPool_5 N r (nI n) (nI p) (nI y.1) (nI j) y.2) (fun r j y => L_fromPool_5 N r (nI n) (nI p) (nI y.1) (nI j) y.2) (fun r j y hj hI ih => ?_) 0 N (0, S) (by omega) (by omega) ⟨rfl, rfr.refl, fun _ _ => rfl, fun q hq => absurd hq (by show ¬ q < 0; omega)⟩
    obtain ⟨y1, y2⟩ := y
    obtain ⟨i0, i1, i2, i3⟩ := hI
    have i0 : y1 = (kpL l b j).length := i0
    have kl := kpL_le l b j
    show wp (OL_fromPool_5 N (r + 1) (nI n) (nI p) (nI y1) (nI j) y2) (L_fromPool_5 N (r + 1) (nI n) (nI p) (nI y1) (nI j) y2) _
    unfold OL_fromPool_5 L_fromPool_5 OB_fromPool_5 B_fromPool_5
    rw [n_clamp (by omega), i1.a 53 (by decide), p1]
    refine wp_and ((n_in (by omega)).2 (by omega)) ?_
    by_cases ej : j = l.length
    · refine wp_pos (by rw [n_le' (by omega) (by omega)]; omega) ?_
      subst ej
      refine wp_fin trivial ⟨?_, i1, i2, i3⟩
      rw [i0]
    · obtain ⟨z1, z2, z3⟩ := p3 j (by omega)
      simp only [n_mul, n_add]
      obtain ⟨v1, v2⟩ := isIn_ok (N := N) (S := y2) (x := pg l j) (o := 560 * n + 7 * j) hN hp (hb.fr i1 (by decide) (by decide) (by decide)) hw hB (by omega) z1 z2 (fun k hk => by rw [i2 _ (by omega)]; exact z3 k hk)
      refine wp_neg (by rw [n_le' (by omega) (by omega)]; omega) (wp_and v1 ?_)
      rcases v2 with ⟨v2, v3⟩ | ⟨v2, v3⟩ <;> rw [v3]
      · refine wp_seq (Q := fun z : Nat × Int32 × Int32 × Int32 × Int32 × Int32 × rS => z = (0, nI n, nI p, nI y1, nI j, nI 1, y2)) ?_ ?_
        · obtain ⟨M, rfl⟩ := exs (show 0 < N by omega)
          unfold OL_fromPool_37 L_fromPool_37 OB_fromPool_37 B_fromPool_37
          exact wp_neg (by decide) (wp_fin trivial rfl)
        · rintro z rfl
          show wp (O_fromPool_92 N (OL_fromPool_5 N r) (nI n) (nI p) (nI y1) (nI j) (nI 1) y2) (F_fromPool_92 N (L_fromPool_5 N r) (nI n) (nI p) (nI y1) (nI j) (nI 1) y2) _
          unfold O_fromPool_92 F_fromPool_92
          refine wp_neg (by decide) ?_
          unfold O_fromPool_104 F_fromPool_104
          rw [n_add]
          refine ih (y1, y2) ?_ (by omega)
          rw [kpL_no v2]
          exact ⟨i0, i1, i2, i3⟩
      · refine wp_seq (Q := fun z : Nat × Int32 × Int32 × Int32 × Int32 × Int32 × rS => z = (0, nI n, nI p, nI y1, nI j, nI 0, z.2.2.2.2.2.2) ∧ rfr [54] y2 z.2.2.2.2.2.2 ∧ ∀ x, z.2.2.2.2.2.2.2.1 54 x = if 560 * n + 7 * y1 ≤ x ∧ x < 560 * n + 7 * y1 + 7 then nI (bg (pg l j) (x - (560 * n + 7 * y1))) else y2.2.1 54 x) ?_ ?_
        · refine wp_loop (K := 7) (fun k u => rfr [54] y2 u ∧ ∀ x, u.2.1 54 x = if 560 * n + 7 * y1 ≤ x ∧ x < 560 * n + 7 * y1 + k then nI (bg (pg l j) (x - (560 * n + 7 * y1))) else y2.2.1 54 x) (fun r2 k u => OL_fromPool_37 N r2 (nI n) (nI p) (nI y1) (nI j) (nI 0) (nI k) u) (fun r2 k u => L_fromPool_37 N r2 (nI n) (nI p) (nI y1) (nI j) (nI 0) (nI k) u) (fun r2 k u hk hJ ih2 => ?_) 0 N y2 (by omega) (by omega) ⟨rfr.refl, fun x => by rw [if_neg (by omega)]⟩
          unfold OL_fromPool_37 L_fromPool_37 OB_fromPool_37 B_fromPool_37
          refine wp_pos rfl ?_
          by_cases ek : k = 7
          · refine wp_pos (by rw [n_le' (by omega) (by omega)]; omega) ?_
            subst ek
            exact wp_fin trivial ⟨rfl, hJ⟩
          · simp only [n_mul, n_add]
            rw [n_clamp (by omega), n_clamp (by omega)]
            have hv : u.2.1 54 (560 * n + 7 * j + k) = nI (bg (pg l j) k) := by
              rw [hJ.2]
              by_cases c : 560 * n + 7 * y1 ≤ 560 * n + 7 * j + k ∧ 560 * n + 7 * j + k < 560 * n + 7 * y1 + k
              · exfalso; omega
              · rw [if_neg c, i2 _ (by omega)]
                exact z3 k (by omega)
            refine wp_neg (by rw [n_le' (by omega) (by omega)]; omega) (wp_and ((n_in (by omega)).2 (by omega)) (wp_and ((n_in (by omega)).2 (by omega)) (ih2 _ ⟨hJ.1.trans (rfr.one (by decide)), ?_⟩ (by omega))))
            exact pool_step (S := y2) (p := pg l j) hJ.2 hv
        · rintro z ⟨u0, u1, u2⟩
          rw [u0]
          generalize z.2.2.2.2.2.2 = S3 at u1 u2 ⊢
          show wp (O_fromPool_92 N (OL_fromPool_5 N r) (nI n) (nI p) (nI y1) (nI j) (nI 0) S3) (F_fromPool_92 N (L_fromPool_5 N r) (nI n) (nI p) (nI y1) (nI j) (nI 0) S3) _
          unfold O_fromPool_92 F_fromPool_92
          refine wp_pos rfl ?_
          unfold O_fromPool_104 F_fromPool_104
          rw [n_add, n_add]
          refine ih (y1 + 1, S3) ?_ (by omega)
          rw [kpL_yes v2, List.length_append, ← i0]
          refine ⟨rfl, i1.trans u1, fun x hx => ?_, fun q hq => ?_⟩
          · have hx : ¬ (560 * n ≤ x ∧ x < 560 * n + 7 * (y1 + 1)) := hx
            show S3.2.1 54 x = _
            rw [u2 x, if_neg (by omega)]
            exact i2 x (by omega)
          · have hq : q < y1 + 1 := hq
            show _ ∧ _ ∧ ∀ k, k < 7 → S3.2.1 54 (560 * n + 7 * q + k) = _
            rw [pg_snoc, ← i0]
            by_cases c : q < y1
            · rw [if_pos c]
              obtain ⟨t1, t2, t3⟩ := i3 q (by omega)
              exact ⟨t1, t2, fun k hk => by rw [u2, if_neg (by omega)]; exact t3 k hk⟩
            · rw [if_neg c, if_pos (by omega)]
              exact ⟨z1, z2, fun k hk => by rw [u2, if_pos (by omega), show 560 * n + 7 * q + k - (560 * n + 7 * y1) = k by omega]⟩
  · rintro z ⟨z0, z1, z2, z3⟩
    rw [z0]
    generalize z.2.2.2 = S3 at z1 z2 z3 ⊢
    have kl := kpL_le l b l.length
    show wp (O_fromPool_111 N (nI n) (nI (kpL l b l.length).length) S3) (F_fromPool_111 N (nI n) (nI (kpL l b l.length).length) S3) _
    unfold O_fromPool_111 F_fromPool_111
    rw [n_clamp (by omega)]
    have fr : rfr [53, 54] S (rsA S3 53 n (nI (kpL l b l.length).length)) := (z1.mono (by decide)).trans (rfr.one (by decide))
    refine wp_fin ⟨((n_in (by omega)).2 (by omega)), trivial⟩ ⟨fr, h.pool hn fr (fun m hm => ?_) (fun x hx => ?_) ?_ (by omega) (fun q hq => ?_)⟩
    · rw [A_same, upd_other _ _ hm, z1.a 53 (by decide)]
    · rw [A_other _ _ _ (by decide)]
      exact z2 x (by omega)
    · rw [A_same, upd_same]
    · rw [A_other _ _ _ (by decide)]
      exact z3 q hq
end
end

section
/-! THE REFERENCE BUILDS A BLOCK: payments, evidences, the head -/
theorem pyS_ok {l : List (List Nat)} {k : Bk} {n : Nat} (hk : bkOK k) (hn : n < 16) (hl : ∀ q, q < l.length → (pg l q).length = 7 ∧ isB (pg l q) ∧ bg (pg l q) 0 < 16 ∧ bg (pg l q) 1 < 16) : ∀ j, j ≤ l.length → bkOK (pyS l k n j).1 ∧ (pyS l k n j).2.length ≤ 64 ∧ (pyS l k n j).2.flatten.length = 7 * (pyS l k n j).2.length ∧ allB (pyS l k n j).2
  | 0, _ => ⟨hk, by show 0 ≤ 64; omega, rfl, fun p => by show isB (pg [] p); rw [show pg [] p = [] by simp [pg]]; exact isB_nil⟩
  | j + 1, hj => by
    obtain ⟨i1, i2, i3, i4⟩ := pyS_ok hk hn hl j (by omega)
    obtain ⟨e1, e2, e3, e4⟩ := hl j (by omega)
    have t4 := tw_lt e2 4
    have ok := bPay_ok (a := tw (pg l j) 2) (nc := tw (pg l j) 4) (tp := bg (pg l j) 6) i1 e3 e4 hn (by omega)
    unfold pyS
    split
    · exact ⟨i1, i2, i3, i4⟩
    · split
      · refine ⟨ok, ?_, ?_, i4.snoc e2⟩
        · show ((pyS l k n j).2 ++ [pg l j]).length ≤ 64
          rw [List.length_append]
          show (pyS l k n j).2.length + 1 ≤ 64
          omega
        · show ((pyS l k n j).2 ++ [pg l j]).flatten.length = 7 * ((pyS l k n j).2 ++ [pg l j]).length
          rw [flat_snoc, List.length_append, i3, e1]
          show _ = 7 * ((pyS l k n j).2.length + 1)
          omega
      · exact ⟨ok, i2, i3, i4⟩
theorem evS_ok {w : Wd} {n : Nat} (hk : bkOK (bkN (wN w) n)) (hn : n < 16) (hl : ∀ s m, s < 13 → wY w n 2 s = some m → m.length ≤ 72 ∧ isB m) : ∀ s, s ≤ 13 → bkOK (evS w n s).1 ∧ (evS w n s).2.length ≤ 2 ∧ (evS w n s).2.flatten.length ≤ 71 * (evS w n s).2.length ∧ allB (evS w n s).2
  | 0, _ => ⟨hk, by show 0 ≤ 2; omega, by show 0 ≤ 71 * 0; omega, fun p => by show isB (pg [] p); rw [show pg [] p = [] by simp [pg]]; exact isB_nil⟩
  | s + 1, hs => by
    obtain ⟨i1, i2, i3, i4⟩ := evS_ok hk hn hl s (by omega)
    have ok := bFine_ok (s := s) (mk := n) i1 (by omega) hn
    by_cases c : 2 ≤ (evS w n s).2.length
    · have un : evS w n (s + 1) = evS w n s := by rw [evS, if_pos c]
      rw [un]
      exact ⟨i1, i2, i3, i4⟩
    · cases hy : wY w n 2 s with
      | none =>
        have un : evS w n (s + 1) = evS w n s := by rw [evS, if_neg c, hy]
        rw [un]
        exact ⟨i1, i2, i3, i4⟩
      | some m =>
        obtain ⟨m1, m2⟩ := hl s m (by omega) hy
        have un : evS w n (s + 1) = if (bFine (evS w n s).1 s n).2 then ((bFine (evS w n s).1 s n).1, (evS w n s).2 ++ [m.drop 1]) else ((bFine (evS w n s).1 s n).1, (evS w n s).2) := by rw [evS, if_neg c, hy]
        rw [un]
        split
        · refine ⟨ok, ?_, ?_, i4.snoc (isB_drop m2 1)⟩
          · show ((evS w n s).2 ++ [m.drop 1]).length ≤ 2
            rw [List.length_append]
            show (evS w n s).2.length + 1 ≤ 2
            omega
          · show ((evS w n s).2 ++ [m.drop 1]).flatten.length ≤ 71 * ((evS w n s).2 ++ [m.drop 1]).length
            rw [flat_snoc, List.length_append, List.length_drop]
            show _ ≤ 71 * ((evS w n s).2.length + 1)
            omega
        · exact ⟨ok, i2, i3, i4⟩
section
variable {N n F H T : Nat} {S0 S : rS} {w : Wd}
theorem build_219 {P : rS → Prop} {l ps0 : List (List Nat)} {k : Bk} {ne : Nat} (hN : 1000 ≤ N) (hn : n < 13) (hk : bkS S k) (ok : bkOK k) (hq : rQ S ps0 []) (h0 : ps0.length ≤ 2) (hf0 : ps0.flatten.length ≤ 142) (p1 : S.2.1 53 n = nI l.length) (p2 : l.length ≤ 80) (p3 : ∀ q, q < l.length → (pg l q).length = 7 ∧ isB (pg l q) ∧ ∀ k, k < 7 → S.2.1 54 (560 * n + 7 * q + k) = nI (bg (pg l q) k)) (p4 : ∀ q, q < l.length → bg (pg l q) 0 < 16 ∧ bg (pg l q) 1 < 16) (go : ∀ S', rfr [15, 16, 17, 85, 86, 87] S S' → rQ S' (ps0 ++ (pyS l k n l.length).2) [] → wp (O_build_383 N (nI ne) (nI (pyS l k n l.length).2.length) S') (F_build_383 N (nI ne) (nI (pyS l k n l.length).2.length) S') P) : wp (O_build_219 N (nI n) (nI ne) S) (F_build_219 N (nI n) (nI ne) S) P := by
  have pok := pyS_ok (n := n) ok (by omega) (fun q hq => ⟨(p3 q hq).1, (p3 q hq).2.1, p4 q hq⟩)
  unfold O_build_219 F_build_219
  refine wp_seq (Q := fun z : Nat × Int32 × Int32 × rS => z = (0, nI ne, nI (pyS l k n l.length).2.length, z.2.2.2) ∧ rfr [15, 16, 17, 85, 86, 87] S z.2.2.2 ∧ rQ z.2.2.2 (ps0 ++ (pyS l k n l.length).2) []) ?_ ?_
  · refine wp_loop (K := l.length) (fun j (y : Nat × rS) => y.1 = (pyS l k n j).2.length ∧ rfr [15, 16, 17, 85, 86, 87] S y.2 ∧ rQ y.2 (ps0 ++ (pyS l k n j).2) [] ∧ bkS y.2 (pyS l k n j).1) (fun r j y => OL_build_225 N r (nI n) (nI ne) (nI y.1) (nI j) y.2) (fun r j y => L_build_225 N r (nI n) (nI ne) (nI y.1) (nI j) y.2) (fun r j y hj hI ih => ?_) 0 N (0, S) (by omega) (by omega) ⟨rfl, rfr.refl, by show rQ S (ps0 ++ []) []; rw [List.append_nil]; exact hq, hk⟩
    obtain ⟨y1, y2⟩ := y
    obtain ⟨i0, i1, i2, i3⟩ := hI
    have i0 : y1 = (pyS l k n j).2.length := i0
    have i1 : rfr [15, 16, 17, 85, 86, 87] S y2 := i1
    have i2 : rQ y2 (ps0 ++ (pyS l k n j).2) [] := i2
    have i3 : bkS y2 (pyS l k n j).1 := i3
    obtain ⟨o1, o2, o3, o4⟩ := pok j hj
    show wp (OL_build_225 N (r + 1) (nI n) (nI ne) (nI y1) (nI j) y2) (L_build_225 N (r + 1) (nI n) (nI ne) (nI y1) (nI j) y2) _
    unfold OL_build_225 L_build_225 OB_build_225 B_build_225
    rw [n_clamp (by omega), i1.a 53 (by decide), p1]
    refine wp_and ((n_in (by omega)).2 (by omega)) ?_
    by_cases ej : j = l.length
    · refine wp_pos (by rw [n_le' (by omega) (by omega)]; omega) ?_
      subst ej
      refine wp_fin trivial ⟨?_, i1, i2⟩
      rw [i0]
    refine wp_neg (by rw [n_le' (by omega) (by omega)]; omega) ?_
    by_cases e64 : 64 ≤ y1
    · refine wp_pos (by rw [n_le' (by omega) (by omega)]; exact e64) ?_
      have st := pyS_stop l k n (s := j) (by omega) (l.length - j)
      rw [show j + (l.length - j) = l.length by omega] at st
      rw [st]
      refine wp_fin trivial ⟨?_, i1, i2⟩
      rw [i0]
    refine wp_neg (by rw [n_le' (by omega) (by omega)]; exact e64) ?_
    obtain ⟨e1, e2, e3⟩ := p3 j (by omega)
    obtain ⟨e4, e5⟩ := p4 j (by omega)
    have row : ∀ k, k < 7 → y2.2.1 54 (560 * n + 7 * j + k) = nI (bg (pg l j) k) := fun k hk => by rw [i1.a 54 (by decide)]; exact e3 k hk
    have row0 := row 0 (by omega)
    rw [Nat.add_zero] at row0
    have u2 := e2 2
    have u3 := e2 3
    have u4 := e2 4
    have u5 := e2 5
    have t2 := tw_lt e2 2
    have t4 := tw_lt e2 4
    have a2 : 256 * bg (pg l j) 2 + bg (pg l j) 3 = tw (pg l j) 2 := rfl
    have a4 : 256 * bg (pg l j) 4 + bg (pg l j) 5 = tw (pg l j) 4 := rfl
    simp only [n_mul, n_add]
    rw [n_clamp (by omega), n_clamp (by omega), n_clamp (by omega), n_clamp (by omega), n_clamp (by omega), n_clamp (by omega), n_clamp (by omega), row0, row 1 (by omega), row 2 (by omega), row 3 (by omega), row 4 (by omega), row 5 (by omega), row 6 (by omega), n_two u2 u3, n_two u4 u5, a2, a4]
    refine wp_and ((n_in (by omega)).2 (by omega)) (wp_and ((n_in (by omega)).2 (by omega)) (wp_and ((n_in (by omega)).2 (by omega)) (wp_and ((n_in (by omega)).2 (by omega)) (wp_and ((n_in (by omega)).2 (by omega)) (wp_and ((n_in (by omega)).2 (by omega)) (wp_and ((n_in (by omega)).2 (by omega)) (wp_call (pay_ok (k := (pyS l k n j).1) i3 o1 e4 e5 (by omega) (by omega) (by omega) (e2 6)) (fun q => ?_))))))))
    obtain ⟨g1, g2, g3⟩ := q
    generalize f_pay N y2 (nI (bg (pg l j) 0)) (nI (bg (pg l j) 1)) (nI (tw (pg l j) 2)) (nI (tw (pg l j) 4)) (nI (bg (pg l j) 6)) (nI n) = z at g1 g2 g3 ⊢
    have fz : rfr [15, 16, 17, 85, 86, 87] S z.2 := i1.trans (g1.mono (by decide))
    have qz := i2.fr g1 (by decide) (by decide) (by decide)
    have un : pyS l k n (j + 1) = if (bPay (pyS l k n j).1 (bg (pg l j) 0) (bg (pg l j) 1) (tw (pg l j) 2) (tw (pg l j) 4) (bg (pg l j) 6) n).2 then ((bPay (pyS l k n j).1 (bg (pg l j) 0) (bg (pg l j) 1) (tw (pg l j) 2) (tw (pg l j) 4) (bg (pg l j) 6) n).1, (pyS l k n j).2 ++ [pg l j]) else ((bPay (pyS l k n j).1 (bg (pg l j) 0) (bg (pg l j) 1) (tw (pg l j) 2) (tw (pg l j) 4) (bg (pg l j) 6) n).1, (pyS l k n j).2) := by
      rw [pyS, if_neg (by omega)]
    unfold O_build_331 F_build_331
    rw [g3]
    cases hb : (bPay (pyS l k n j).1 (bg (pg l j) 0) (bg (pg l j) 1) (tw (pg l j) 2) (tw (pg l j) 4) (bg (pg l j) 6) n).2 with
    | false =>
      refine wp_pos rfl ?_
      unfold O_build_377 F_build_377
      rw [n_add]
      refine ih (y1, z.2) ?_ (by omega)
      rw [un, hb]
      exact ⟨i0, fz, qz, g2⟩
    | true =>
      refine wp_neg (show ¬ nI 1 = 0 by decide) (wp_seq (Q := fun u : Nat × Int32 × Int32 × Int32 × Int32 × rS => u = (0, nI n, nI ne, nI y1, nI j, u.2.2.2.2.2) ∧ rfr [15, 16] z.2 u.2.2.2.2.2 ∧ rQ u.2.2.2.2.2 (ps0 ++ (pyS l k n j).2) (pg l j)) ?_ ?_)
      · have fl : ((ps0 ++ (pyS l k n j).2).flatten).length ≤ 583 := by
          rw [List.flatten_append, List.length_append, o3]
          omega
        refine wp_loop (K := 7) (fun q u => rfr [15, 16] z.2 u ∧ rQ u (ps0 ++ (pyS l k n j).2) (sl (pg l j) 0 q)) (fun r2 q u => OL_build_340 N r2 (nI n) (nI ne) (nI y1) (nI j) (nI (560 * n + 7 * j)) (nI q) u) (fun r2 q u => L_build_340 N r2 (nI n) (nI ne) (nI y1) (nI j) (nI (560 * n + 7 * j)) (nI q) u) (fun r2 q u hq hJ ih2 => ?_) 0 N z.2 (by omega) (by omega) ⟨rfr.refl, qz⟩
        unfold OL_build_340 L_build_340 OB_build_340 B_build_340
        by_cases e7 : q = 7
        · refine wp_pos (by rw [n_le' (by omega) (by omega)]; omega) ?_
          refine wp_fin trivial ⟨rfl, hJ.1, ?_⟩
          have := hJ.2
          rw [e7, show (7 : Nat) = (pg l j).length from e1.symm, sl0_all] at this
          exact this
        · have ru : u.2.1 54 (560 * n + 7 * j + q) = nI (bg (pg l j) q) := by
            rw [hJ.1.a 54 (by decide), fz.a 54 (by decide)]
            exact e3 q (by omega)
          rw [n_add, n_clamp (by omega), ru]
          refine wp_neg (by rw [n_le' (by omega) (by omega)]; omega) (wp_and ((n_in (by omega)).2 (by omega)) (wp_call (partByte_ok hJ.2 (by rw [List.length_append, sl_len]; omega)) (fun q3 => ?_)))
          unfold O_build_361 F_build_361
          rw [n_add]
          refine ih2 _ ⟨hJ.1.trans q3.1, ?_⟩ (by omega)
          rw [← sl0_s]
          exact q3.2
      · rintro u ⟨u0, u1, u2⟩
        rw [u0]
        generalize u.2.2.2.2.2 = S3 at u1 u2 ⊢
        show wp (O_build_367 N (OL_build_225 N r) (nI n) (nI ne) (nI y1) (nI j) S3) (F_build_367 N (L_build_225 N r) (nI n) (nI ne) (nI y1) (nI j) S3) _
        unfold O_build_367 F_build_367
        refine wp_call (endPart_ok u2 (by rw [List.length_append]; omega)) (fun q => ?_)
        obtain ⟨q1, q2⟩ := q
        generalize f_endPart N S3 = S4 at q1 q2 ⊢
        unfold O_build_371 F_build_371 O_build_377 F_build_377
        rw [n_add, n_add]
        refine ih (y1 + 1, S4) ?_ (by omega)
        rw [un, hb]
        refine ⟨?_, (fz.trans (u1.mono (by decide))).trans (q1.mono (by decide)), ?_, (g2.fr u1 (by decide) (by decide) (by decide)).fr q1 (by decide) (by decide) (by decide)⟩
        · show y1 + 1 = ((pyS l k n j).2 ++ [pg l j]).length
          rw [List.length_append, ← i0]
          rfl
        · show rQ S4 (ps0 ++ ((pyS l k n j).2 ++ [pg l j])) []
          rw [← List.append_assoc]
          exact q2
  · rintro z ⟨z0, z1, z2⟩
    rw [z0]
    exact go _ z1 z2
theorem build_113 {P : rS → Prop} (hN : 1000 ≤ N) (h : rRp F H T S0 w) (hn : n < H) (f0 : rfr buL S0 S) (hk : bkS S (bkN (wN w) n)) (ok : bkOK (bkN (wN w) n)) (hq : rQ S [] []) (hpl : ∀ q, q < (wP w n).length → bg (pg (wP w n) q) 0 < 16 ∧ bg (pg (wP w n) q) 1 < 16) (go : ∀ S', rfr [15, 16, 17, 85, 86, 87] S S' → rQ S' (bldP w n T) [] → wp (O_build_383 N (nI (bldE w n T).length) (nI (bldY w n T).length) S') (F_build_383 N (nI (bldE w n T).length) (nI (bldY w n T).length) S') P) : wp (O_build_113 N (nI n) S) (F_build_113 N (nI n) S) P := by
  have cb := h.1.1.b
  have hT : S.1 0 = nI T := by rw [f0.i 0 (by decide)]; exact h.co.2.1
  have eok := evS_ok (w := w) (n := n) ok (by omega) (fun s m hs hm => by
    have := h.e n s hn hs
    rw [hm] at this
    exact ⟨this.2.2.1, this.2.2.2.1⟩)
  unfold O_build_113 F_build_113
  refine wp_seq (Q := fun z : Nat × Int32 × Int32 × rS => z = (0, nI n, nI (evS w n T).2.length, z.2.2.2) ∧ rfr [15, 16, 17, 85, 86, 87] S z.2.2.2 ∧ rQ z.2.2.2 (evS w n T).2 [] ∧ bkS z.2.2.2 (evS w n T).1) ?_ ?_
  · refine wp_loop (K := T) (fun j (y : Nat × rS) => y.1 = (evS w n j).2.length ∧ rfr [15, 16, 17, 85, 86, 87] S y.2 ∧ rQ y.2 (evS w n j).2 [] ∧ bkS y.2 (evS w n j).1) (fun r j y => OL_build_121 N r (nI n) (nI y.1) (nI j) y.2) (fun r j y => L_build_121 N r (nI n) (nI y.1) (nI j) y.2) (fun r j y hj hI ih => ?_) 0 N (0, S) (by omega) (by omega) ⟨rfl, rfr.refl, hq, hk⟩
    obtain ⟨y1, y2⟩ := y
    obtain ⟨i0, i1, i2, i3⟩ := hI
    have i0 : y1 = (evS w n j).2.length := i0
    have i1 : rfr [15, 16, 17, 85, 86, 87] S y2 := i1
    have i2 : rQ y2 (evS w n j).2 [] := i2
    have i3 : bkS y2 (evS w n j).1 := i3
    obtain ⟨o1, o2, o3, o4⟩ := eok j (by omega)
    show wp (OL_build_121 N (r + 1) (nI n) (nI y1) (nI j) y2) (L_build_121 N (r + 1) (nI n) (nI y1) (nI j) y2) _
    unfold OL_build_121 L_build_121 OB_build_121 B_build_121
    rw [i1.i 0 (by decide), hT]
    by_cases ej : j = T
    · refine wp_pos (by rw [n_le' (by omega) (by omega)]; omega) ?_
      subst ej
      refine wp_fin trivial ⟨?_, i1, i2, i3⟩
      rw [i0]
    refine wp_neg (by rw [n_le' (by omega) (by omega)]; omega) ?_
    by_cases e2 : 2 ≤ y1
    · refine wp_pos (by rw [n_le' (by omega) (by omega)]; exact e2) ?_
      have st := evS_stop w n (s := j) (by omega) (T - j)
      rw [show j + (T - j) = T by omega] at st
      rw [st]
      refine wp_fin trivial ⟨?_, i1, i2, i3⟩
      rw [i0]
    have he := h.e n j hn (by omega)
    have r55 : y2.2.1 55 (13 * n + j) = S0.2.1 55 (13 * n + j) := by rw [i1.a 55 (by decide), f0.a 55 (by decide)]
    simp only [n_mul, n_add]
    rw [n_clamp (by omega), r55]
    refine wp_neg (by rw [n_le' (by omega) (by omega)]; exact e2) (wp_and ((n_in (by omega)).2 (by omega)) ?_)
    cases hy : wY w n 2 j with
    | none =>
      rw [hy] at he
      have he : S0.2.1 55 (13 * n + j) = nI 0 := he
      rw [he]
      refine wp_pos rfl ?_
      unfold O_build_213 F_build_213
      rw [n_add]
      refine ih (y1, y2) ?_ (by omega)
      have un : evS w n (j + 1) = evS w n j := by rw [evS, if_neg (by omega), hy]
      rw [un]
      exact ⟨i0, i1, i2, i3⟩
    | some m =>
      rw [hy] at he
      obtain ⟨h1, h2, h3, h4, h5⟩ := he
      rw [h1]
      refine wp_neg (by rw [n_eq0 (by omega)]; omega) (wp_call (fine_ok (k := (evS w n j).1) i3 o1 (by omega) (by omega)) (fun q => ?_))
      obtain ⟨g1, g2, g3⟩ := q
      generalize f_fine N y2 (nI j) (nI n) = z at g1 g2 g3 ⊢
      have fz : rfr [15, 16, 17, 85, 86, 87] S z.2 := i1.trans (g1.mono (by decide))
      have qz := i2.fr g1 (by decide) (by decide) (by decide)
      have un : evS w n (j + 1) = if (bFine (evS w n j).1 j n).2 then ((bFine (evS w n j).1 j n).1, (evS w n j).2 ++ [m.drop 1]) else ((bFine (evS w n j).1 j n).1, (evS w n j).2) := by rw [evS, if_neg (by omega), hy]
      unfold O_build_161 F_build_161
      rw [g3]
      cases hb : (bFine (evS w n j).1 j n).2 with
      | false =>
        refine wp_pos rfl ?_
        unfold O_build_213 F_build_213
        rw [n_add]
        refine ih (y1, z.2) ?_ (by omega)
        rw [un, hb]
        exact ⟨i0, fz, qz, g2⟩
      | true =>
        refine wp_neg (show ¬ nI 1 = 0 by decide) (wp_seq (Q := fun u : Nat × Int32 × Int32 × Int32 × rS => u = (0, nI n, nI y1, nI j, u.2.2.2.2) ∧ rfr [15, 16] z.2 u.2.2.2.2 ∧ rQ u.2.2.2.2 (evS w n j).2 (m.drop 1)) ?_ ?_)
        · have ml : (m.drop 1).length = m.length - 1 := List.length_drop
          refine wp_loop (K := m.length - 1) (fun q u => rfr [15, 16] z.2 u ∧ rQ u (evS w n j).2 (sl (m.drop 1) 0 q)) (fun r2 q u => OL_build_170 N r2 (nI n) (nI y1) (nI j) (nI (m.length - 1)) (nI q) u) (fun r2 q u => L_build_170 N r2 (nI n) (nI y1) (nI j) (nI (m.length - 1)) (nI q) u) (fun r2 q u hq hJ ih2 => ?_) 0 N z.2 (by omega) (by omega) ⟨rfr.refl, qz⟩
          unfold OL_build_170 L_build_170 OB_build_170 B_build_170
          by_cases e7 : q = m.length - 1
          · refine wp_pos (by rw [n_le' (by omega) (by omega)]; omega) ?_
            refine wp_fin trivial ⟨rfl, hJ.1, ?_⟩
            have := hJ.2
            rw [e7, ← ml, sl0_all] at this
            exact this
          · have ru : u.2.1 56 (71 * (13 * n + j) + q) = nI (bg (m.drop 1) q) := by
              rw [hJ.1.a 56 (by decide), fz.a 56 (by decide), f0.a 56 (by decide), bg_drop, Nat.add_comm 1 q]
              exact h5 q (by omega)
            simp only [n_mul, n_add]
            rw [n_clamp (by omega), ru]
            refine wp_neg (by rw [n_le' (by omega) (by omega)]; omega) (wp_and ((n_in (by omega)).2 (by omega)) (wp_call (partByte_ok hJ.2 (by rw [List.length_append, sl_len]; omega)) (fun q3 => ?_)))
            unfold O_build_199 F_build_199
            rw [n_add]
            refine ih2 _ ⟨hJ.1.trans q3.1, ?_⟩ (by omega)
            rw [← sl0_s]
            exact q3.2
        · rintro u ⟨u0, u1, u2⟩
          rw [u0]
          generalize u.2.2.2.2 = S3 at u1 u2 ⊢
          show wp (O_build_205 N (OL_build_121 N r) (nI n) (nI y1) (nI j) S3) (F_build_205 N (L_build_121 N r) (nI n) (nI y1) (nI j) S3) _
          unfold O_build_205 F_build_205
          refine wp_call (endPart_ok u2 (by omega)) (fun q => ?_)
          obtain ⟨q1, q2⟩ := q
          generalize f_endPart N S3 = S4 at q1 q2 ⊢
          unfold O_build_209 F_build_209 O_build_213 F_build_213
          rw [n_add, n_add]
          refine ih (y1 + 1, S4) ?_ (by omega)
          rw [un, hb]
          refine ⟨?_, (fz.trans (u1.mono (by decide))).trans (q1.mono (by decide)), q2, (g2.fr u1 (by decide) (by decide) (by decide)).fr q1 (by decide) (by decide) (by decide)⟩
          show y1 + 1 = ((evS w n j).2 ++ [m.drop 1]).length
          rw [List.length_append, ← i0]
          rfl
  · rintro z ⟨z0, z1, z2, z3⟩
    rw [z0]
    generalize z.2.2.2 = S1 at z1 z2 z3 ⊢
    show wp (O_build_219 N (nI n) (nI (evS w n T).2.length) S1) (F_build_219 N (nI n) (nI (evS w n T).2.length) S1) P
    obtain ⟨o1, o2, o3, o4⟩ := eok T (by omega)
    have hp := h.p n hn
    have e53 : S1.2.1 53 = S0.2.1 53 := by rw [z1.a 53 (by decide), f0.a 53 (by decide)]
    have e54 : S1.2.1 54 = S0.2.1 54 := by rw [z1.a 54 (by decide), f0.a 54 (by decide)]
    rw [← e53, ← e54] at hp
    exact build_219 (l := wP w n) (ps0 := (evS w n T).2) hN (by omega) z3 o1 z2 o2 (by omega) hp.1 hp.2.1 hp.2.2 hpl (fun S' f q => go S' (z1.trans f) q)
end
end

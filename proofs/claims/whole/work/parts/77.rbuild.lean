section
/-! THE REFERENCE BUILDS A BLOCK -/
theorem sl0_s (m : List Nat) (j : Nat) : sl m 0 j ++ [bg m j] = sl m 0 (j + 1) := by
  unfold sl mkB
  rw [List.range_succ, List.map_append]
  simp
theorem sl0_all (m : List Nat) : sl m 0 m.length = m := by
  unfold sl
  rw [show (fun k => bg m (0 + k)) = bg m by funext k; rw [Nat.zero_add]]
  exact mkB_self m
/-- evidences that a block of a node takes in -/
def evS (w : Wd) (n : Nat) : Nat → Bk × List (List Nat)
  | 0 => (bkN (wN w) n, [])
  | s + 1 => if 2 ≤ (evS w n s).2.length then evS w n s else match wY w n 2 s with
    | none => evS w n s
    | some m => if (bFine (evS w n s).1 s n).2 then ((bFine (evS w n s).1 s n).1, (evS w n s).2 ++ [m.drop 1]) else ((bFine (evS w n s).1 s n).1, (evS w n s).2)
/-- payments that it takes in -/
def pyS (l : List (List Nat)) (k : Bk) (n : Nat) : Nat → Bk × List (List Nat)
  | 0 => (k, [])
  | j + 1 => if 64 ≤ (pyS l k n j).2.length then pyS l k n j else if (bPay (pyS l k n j).1 (bg (pg l j) 0) (bg (pg l j) 1) (tw (pg l j) 2) (tw (pg l j) 4) (bg (pg l j) 6) n).2 then ((bPay (pyS l k n j).1 (bg (pg l j) 0) (bg (pg l j) 1) (tw (pg l j) 2) (tw (pg l j) 4) (bg (pg l j) 6) n).1, (pyS l k n j).2 ++ [pg l j]) else ((bPay (pyS l k n j).1 (bg (pg l j) 0) (bg (pg l j) 1) (tw (pg l j) 2) (tw (pg l j) 4) (bg (pg l j) 6) n).1, (pyS l k n j).2)
theorem evS_stop (w : Wd) (n : Nat) {s : Nat} (h : 2 ≤ (evS w n s).2.length) : ∀ d, evS w n (s + d) = evS w n s
  | 0 => rfl
  | d + 1 => by
    have ih := evS_stop w n h d
    show (if 2 ≤ (evS w n (s + d)).2.length then evS w n (s + d) else _) = _
    rw [if_pos (by rw [ih]; exact h), ih]
theorem pyS_stop (l : List (List Nat)) (k : Bk) (n : Nat) {s : Nat} (h : 64 ≤ (pyS l k n s).2.length) : ∀ d, pyS l k n (s + d) = pyS l k n s
  | 0 => rfl
  | d + 1 => by
    have ih := pyS_stop l k n h d
    show (if 64 ≤ (pyS l k n (s + d)).2.length then pyS l k n (s + d) else _) = _
    rw [if_pos (by rw [ih]; exact h), ih]
def allB (ps : List (List Nat)) : Prop := ∀ p, isB (pg ps p)
theorem allB.snoc {ps : List (List Nat)} {x : List Nat} (h : allB ps) (hx : isB x) : allB (ps ++ [x]) := fun p => by
  rw [pg_snoc]
  split
  · exact h p
  · split
    · exact hx
    · exact isB_nil
theorem flat_snoc (ps : List (List Nat)) (x : List Nat) : (ps ++ [x]).flatten.length = ps.flatten.length + x.length := by simp
/-- the block that a node builds -/
def bldE (w : Wd) (n T : Nat) : List (List Nat) := (evS w n T).2
def bldY (w : Wd) (n T : Nat) : List (List Nat) := (pyS (wP w n) (evS w n T).1 n (wP w n).length).2
def bldP (w : Wd) (n T : Nat) : List (List Nat) := bldE w n T ++ bldY w n T
def bldI (w : Wd) (n T : Nat) (d : List Nat) (i : Nat) : Nat := if i = 0 then (wN w n 1).toNat / 256 else if i = 1 then (wN w n 1).toNat % 256 else if i = 2 then n else if i < 35 then bg d (i - 3) else if i < 67 then bg (acR (bkN (wN w) n)) (i - 35) else if i < 99 then bg (rootP (bldP w n T)) (i - 67) else if i = 99 then (bldY w n T).length else if i = 100 then (bldE w n T).length else bg (bldP w n T).flatten (i - 101)
def aBld (w : Wd) (n T : Nat) : List Nat := mkB (101 + (bldP w n T).flatten.length) (bldI w n T ((wY w n 9 0).getD z32))
/-- bytes of the place of what is built -/
def bD (S0 S : rS) (b : List Nat) (D : Nat → Prop) : Prop := (∀ j, j < 941688 → lby (S.2.2 12) j = lby (S0.2.2 12) j) ∧ ∀ i, D i → lby (S.2.2 12) (941688 + i) = nI (bg b i)
def buL : List Nat := [6, 7, 8, 9, 12, 13, 14, 15, 16, 17, 18, 85, 86, 87]
section
variable {N n F H T : Nat} {S0 S S1 : rS} {w : Wd} {b : List Nat} {D : Nat → Prop}
theorem bD.fr {L : List Nat} (h : bD S0 S b D) (f : rfr L S S1) (h12 : 12 ∉ L) : bD S0 S1 b D := by
  unfold bD
  rw [f.l 12 h12]
  exact h
theorem bD.mono {D' : Nat → Prop} (h : bD S0 S b D) (e : ∀ i, D' i → D i) : bD S0 S b D' := ⟨h.1, fun i hi => h.2 i (e i hi)⟩
theorem bD.set {i v : Nat} (h : bD S0 S b D) (hi : i < 696) (hv : v < 256) (hb : v = bg b i) : wp (o_setByte N S (nI 1353) (nI i) (nI v)) (f_setByte N S (nI 1353) (nI i) (nI v)) (fun S' => rfr [12] S S' ∧ bD S0 S' b (fun j => D j ∨ j = i)) := by
  refine wp_mono (setByte_ok (p := 1353) (by omega) hi) (fun q => ⟨q.1, fun j hj => ?_, fun j hj => ?_⟩)
  · rw [q.2, if_neg (by omega)]
    exact h.1 j hj
  · rw [q.2]
    by_cases c : j = i
    · rw [if_pos (by omega), c, n_and, ← hb, Nat.mod_eq_of_lt hv]
    · rw [if_neg (by omega)]
      exact h.2 j (hj.resolve_right c)
def bTh (S0 S : rS) (b : List Nat) (D : Nat → Prop) : Prop := rfr buL S0 S ∧ bD S0 S b D ∧ S.2.1 14 = S0.2.1 14 ∧ S.2.2 13 = S0.2.2 13
theorem bTh.fr {L : List Nat} (h : bTh S0 S b D) (f : rfr L S S1) (hl : ∀ k ∈ L, k ∈ [6, 7, 8, 9, 15, 16, 17, 18, 85, 86, 87]) : bTh S0 S1 b D := by
  have a12 : 12 ∉ L := fun z => absurd (hl _ z) (by decide)
  have a13 : 13 ∉ L := fun z => absurd (hl _ z) (by decide)
  have a14 : 14 ∉ L := fun z => absurd (hl _ z) (by decide)
  refine ⟨h.1.trans (f.mono (fun k hk => ?_)), h.2.1.fr f a12, by rw [f.a 14 a14]; exact h.2.2.1, by rw [f.l 13 a13]; exact h.2.2.2⟩
  have := hl k hk
  revert this
  unfold buL
  simp only [List.mem_cons, List.not_mem_nil, or_false]
  omega
theorem bTh.set {i v : Nat} (h : bTh S0 S b D) (hi : i < 696) (hv : v < 256) (hb : v = bg b i) : wp (o_setByte N S (nI 1353) (nI i) (nI v)) (f_setByte N S (nI 1353) (nI i) (nI v)) (fun S' => rfr [12] S S' ∧ bTh S0 S' b (fun j => D j ∨ j = i)) := wp_mono (h.2.1.set hi hv hb) (fun q => ⟨q.1, h.1.trans (q.1.mono (by decide)), q.2, by rw [q.1.a 14 (by decide)]; exact h.2.2.1, by rw [q.1.l 13 (by decide)]; exact h.2.2.2⟩)
theorem bld_len : (aBld w n T).length = 101 + (bldP w n T).flatten.length := mkB_len _ _
/-- what is built, from its parts on -/
theorem build_383 {ps : List (List Nat)} {ne np : Nat} (hN : 1000 ≤ N) (hK : rK S) (h : bTh S0 S b (fun i => i < 67)) (hq : rQ S ps []) (hB : allB ps) (hfl : ps.flatten.length ≤ 590) (hbB : isB b) (hbl : b.length = 101 + ps.flatten.length) (hb1 : ∀ i, i < ps.flatten.length → bg b (101 + i) = bg ps.flatten i) (hb2 : ∀ i, i < 32 → bg b (67 + i) = bg (rootP ps) i) (h99 : bg b 99 = np) (h100 : bg b 100 = ne) : wp (O_build_383 N (nI ne) (nI np) S) (F_build_383 N (nI ne) (nI np) S) (fun S' => rfr buL S0 S' ∧ (∀ j, j < 941688 → lby (S'.2.2 12) j = lby (S0.2.2 12) j) ∧ (∀ q, q ≠ 1353 → S'.2.1 14 q = S0.2.1 14 q) ∧ (∀ q k, q ≠ 1353 → k < 32 → lby (S'.2.2 13) (32 * q + k) = lby (S0.2.2 13) (32 * q + k)) ∧ bR S' 1353 b) := by
  have v99 := hbB 99
  have v100 := hbB 100
  unfold O_build_383 F_build_383
  refine wp_seq (Q := fun z : Nat × Int32 × Int32 × rS => z = (0, nI ne, nI np, z.2.2.2) ∧ rfr [12] S z.2.2.2 ∧ bTh S0 z.2.2.2 b (fun i => i < 67 ∨ (101 ≤ i ∧ i < 101 + ps.flatten.length))) ?_ ?_
  · refine wp_loop (K := ps.flatten.length) (fun j x => rfr [12] S x ∧ bTh S0 x b (fun i => i < 67 ∨ (101 ≤ i ∧ i < 101 + j))) (fun r j x => OL_build_386 N r (nI ne) (nI np) (nI j) x) (fun r j x => L_build_386 N r (nI ne) (nI np) (nI j) x) (fun r j x hj hI ih => ?_) 0 N S (by omega) (by omega) ⟨rfr.refl, h.1, h.2.1.mono (fun i hi => by omega), h.2.2⟩
    have hqx := hq.fr hI.1 (by decide) (by decide) (by decide)
    obtain ⟨q1, q2, q3, q4, q5, q6⟩ := hqx
    rw [List.append_nil] at q3 q5 q6
    unfold OL_build_386 L_build_386 OB_build_386 B_build_386
    rw [q1, n_clamp (by omega), q5]
    refine wp_and ((n_in (by omega)).2 (by omega)) ?_
    by_cases e : j = ps.flatten.length
    · refine wp_pos (by rw [n_le' (by omega) (by omega)]; omega) ?_
      subst e
      exact wp_fin trivial ⟨rfl, hI⟩
    · rw [n_clamp (by omega), q6 j (by omega), n_add]
      refine wp_neg (by rw [n_le' (by omega) (by omega)]; omega) (wp_and ((n_in (by omega)).2 (by omega)) (wp_call (hI.2.set (i := 101 + j) (v := bg ps.flatten j) (by omega) (by have := hbB (101 + j); rw [hb1 j (by omega)] at this; exact this) (hb1 j (by omega)).symm) (fun q => ?_)))
      unfold O_build_419 F_build_419
      rw [n_add]
      exact ih _ ⟨hI.1.trans q.1, q.2.1, q.2.2.1.mono (fun i hi => by omega), q.2.2.2⟩ (by omega)
  rintro z ⟨z0, z1, z2⟩
  rw [z0]
  generalize z.2.2.2 = S1 at z1 z2 ⊢
  show wp (O_build_425 N (nI ne) (nI np) S1) (F_build_425 N (nI ne) (nI np) S1) _
  have hq1 := hq.fr z1 (by decide) (by decide) (by decide)
  obtain ⟨q1, q2, q3, q4, q5, q6⟩ := hq1
  rw [List.append_nil] at q3 q5
  unfold O_build_425 F_build_425
  rw [q1, n_clamp (by omega), n_clamp (by omega), q5, n_add]
  refine wp_and ((n_in (by omega)).2 (by omega)) (wp_and ((n_in (by omega)).2 (by omega)) ?_)
  obtain ⟨t1, t2, t3, t4⟩ := z2
  have f2 : rfr [14] S1 (rsA S1 14 1353 (nI (101 + ps.flatten.length))) := rfr.one (by decide)
  have u1 : rfr buL S0 (rsA S1 14 1353 (nI (101 + ps.flatten.length))) := t1.trans (f2.mono (by decide))
  have u2 := t2.fr f2 (by decide)
  have u3 : (rsA S1 14 1353 (nI (101 + ps.flatten.length))).2.1 14 = upd (S0.2.1 14) 1353 (nI (101 + ps.flatten.length)) := by rw [A_same, t3]
  have u4 : (rsA S1 14 1353 (nI (101 + ps.flatten.length))).2.2 13 = S0.2.2 13 := t4
  have hq2 : rQ (rsA S1 14 1353 (nI (101 + ps.flatten.length))) ps [] := (hq.fr z1 (by decide) (by decide) (by decide)).fr f2 (by decide) (by decide) (by decide)
  have hK2 : rK (rsA S1 14 1353 (nI (101 + ps.flatten.length))) := (hK.fr z1 (by decide) (by decide)).fr f2 (by decide) (by decide)
  generalize rsA S1 14 1353 (nI (101 + ps.flatten.length)) = S2 at u1 u2 u3 u4 hq2 hK2 ⊢
  refine wp_call (root_ps hN hq2 hB hK2) (fun q => ?_)
  obtain ⟨r1, r2⟩ := q
  generalize f_root_ N S2 = S3 at r1 r2 ⊢
  have v1 : rfr buL S0 S3 := u1.trans (r1.mono (by decide))
  have v2 := u2.fr r1 (by decide)
  have v3 : S3.2.1 14 = upd (S0.2.1 14) 1353 (nI (101 + ps.flatten.length)) := by rw [r1.a 14 (by decide)]; exact u3
  have v4 : S3.2.2 13 = S0.2.2 13 := by rw [r1.l 13 (by decide)]; exact u4
  have hK3 := hK2.fr r1 (by decide) (by decide)
  unfold O_build_449 F_build_449
  refine wp_seq (Q := fun z : Nat × Int32 × Int32 × rS => z = (0, nI ne, nI np, z.2.2.2) ∧ rfr [12] S3 z.2.2.2 ∧ bD S0 z.2.2.2 b (fun i => i < 99 ∨ (101 ≤ i ∧ i < 101 + ps.flatten.length))) ?_ ?_
  · refine wp_loop (K := 32) (fun j x => rfr [12] S3 x ∧ bD S0 x b (fun i => i < 67 + j ∨ (101 ≤ i ∧ i < 101 + ps.flatten.length))) (fun r j x => OL_build_452 N r (nI ne) (nI np) (nI j) x) (fun r j x => L_build_452 N r (nI ne) (nI np) (nI j) x) (fun r j x hj hI ih => ?_) 0 N S3 (by omega) (by omega) ⟨rfr.refl, v2.mono (fun i hi => by omega)⟩
    unfold OL_build_452 L_build_452 OB_build_452 B_build_452
    by_cases e : j = 32
    · refine wp_pos (by rw [n_le' (by omega) (by omega)]; omega) ?_
      subst e
      exact wp_fin trivial ⟨rfl, hI⟩
    · have rx : rL x (rootP ps) := fun k hk => by rw [hI.1.l 18 (by decide)]; exact r2 k hk
      obtain ⟨l1, l2⟩ := rootByte_ok (N := N) (k := j) rx (by omega)
      rw [l2, n_add]
      refine wp_neg (by rw [n_le' (by omega) (by omega)]; omega) (wp_and l1 (wp_call (hI.2.set (i := 67 + j) (v := bg (rootP ps) j) (by omega) (rootP_B ps j) (hb2 j (by omega)).symm) (fun q => ?_)))
      unfold O_build_477 F_build_477
      rw [n_add]
      exact ih _ ⟨hI.1.trans q.1, q.2.mono (fun i hi => by omega)⟩ (by omega)
  rintro z ⟨y0, y1, y2⟩
  rw [y0]
  generalize z.2.2.2 = S4 at y1 y2 ⊢
  show wp (O_build_483 N (nI ne) (nI np) S4) (F_build_483 N (nI ne) (nI np) S4) _
  unfold O_build_483 F_build_483
  refine wp_call (y2.set (i := 99) (v := np) (by omega) (by omega) h99.symm) (fun q => ?_)
  obtain ⟨g1, g2⟩ := q
  generalize f_setByte N S4 (nI 1353) (nI 99) (nI np) = S5 at g1 g2 ⊢
  unfold O_build_494 F_build_494
  refine wp_call (g2.set (i := 100) (v := ne) (by omega) (by omega) h100.symm) (fun q => ?_)
  obtain ⟨k1, k2⟩ := q
  generalize f_setByte N S5 (nI 1353) (nI 100) (nI ne) = S6 at k1 k2 ⊢
  unfold O_build_504 F_build_504
  have f6 : rfr [12] S3 S6 := (y1.trans g1).trans k1
  have w6 : wB S6 1353 b := fun i hi => by
    show lby (S6.2.2 12) (696 * 1353 + i) = _
    exact k2.2 i (by omega)
  refine wp_call (identify_ok hN (by omega) w6 (by omega) hbB (hK3.fr f6 (by decide) (by decide))) (fun q => wp_ret ?_)
  obtain ⟨m1, m2, m3⟩ := q
  refine ⟨(v1.trans (f6.mono (by decide))).trans (m1.mono (by decide)), fun j hj => ?_, fun q hq => ?_, fun q k hq hk => ?_, ?_, fun i hi => ?_, m3⟩
  · rw [m1.l 12 (by decide)]
    exact k2.1 j hj
  · rw [m1.a 14 (by decide), f6.a 14 (by decide), v3, upd_other _ _ hq]
  · rw [m2.2.2 q k hq hk, f6.l 13 (by decide), v4]
  · rw [m1.a 14 (by decide), f6.a 14 (by decide), v3, upd_same, hbl]
  · rw [m1.l 12 (by decide)]
    exact w6 i hi
end
end

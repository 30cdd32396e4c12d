section
/-! THE CLASS'S RULES: decides -/
section
variable {F N g H T n : Nat} {s s1 s' : cS} {ct : Nat → List Nat} {hd : List Nat} {w w' W : Wd} {pe pe' : Nat → Int} {a : Nat} {G : Gh}
/-- what adopting a block leaves -/
def adP (F g H T : Nat) (ct : Nat → List Nat) (hd : List Nat) (w : Wd) (pe : Nat → Int) (n : Nat) (c : List Nat) (s' : cS) : Prop := ((aNote w n (chT w n c) (2 * (wN w n 1).toNat - 2)).1 = true ∧ riC F g H T ct hd pe n ((wN w n 1).toNat + 1) (aLift (aDec1 (aNote w n (chT w n c) (2 * (wN w n 1).toNat - 2)).2 n c) n ((wN w n 1).toNat + 1) (idB c) (bPl (bkN (wN (aDec1 (aNote w n (chT w n c) (2 * (wN w n 1).toNat - 2)).2 n c)) n) c).1) s') ∨ ((aNote w n (chT w n c) (2 * (wN w n 1).toNat - 2)).1 = false ∧ CR F g H T s' ct hd (aNote w n (chT w n c) (2 * (wN w n 1).toNat - 2)).2 pe)
theorem saC_cnt {d : List Nat} : ∀ t, saC w n d t ≤ cnt (fun k => wY w n 6 k ≠ none) t
  | 0 => Nat.le_refl _
  | t + 1 => by
    have ih := saC_cnt (d := d) t
    obtain ⟨y1, y2⟩ := saC_s (w := w) (n := n) (d := d) (j := t)
    show _ ≤ cnt (fun k => wY w n 6 k ≠ none) t + @ite _ (wY w n 6 t ≠ none) (Classical.propDecidable _) 1 0
    cases e : wY w n 6 t with
    | none =>
      rw [y1 e, if_neg (fun q => q rfl)]
      exact ih
    | some m =>
      rw [if_pos (fun q => by cases q)]
      by_cases c : idB (m.drop 1) = d
      · rw [(y2 m e).1 c]
        omega
      · rw [(y2 m e).2 c]
        omega
/-- a ruling is written -/
theorem CR.rul {i : Nat} {x0 : Int32} {m : List Nat} (h : CR F g H T s ct hd w pe) (hn : n < H) (hi : i < T) (hm : wY w n 6 i = some m) (hj : juD (vaL (wN w n) (wY w n 9 0) (m.drop 1)) x0) : CR F g H T (csA s (nd g n + 21) i x0) ct hd w pe := by
  obtain ⟨z, cz, oz⟩ := h.z_ hn
  have d7 := cz.nz.2.2.2.2.2.2.1
  have d8 := cz.nz.2.2.2.2.2.2.2.1
  have nz := cz.A (o := 21) (i := i) (x0 := x0) hn (Or.inr (Or.inr rfl)) ⟨d7.1, d7.2.1, fun j hj => ?_, fun p hp => ?_⟩ ⟨d8.1, fun k m' hk e => ?_, d8.2.2⟩
  · exact nz.cr oz (fun _ _ => ⟨rfl, rfl, rfl, rfl⟩) rfl rfl rfl (fun _ _ => rfl) rfl rfl rfl rfl rfl
  · rw [cA_ne _ _ _ (by omega)]
    exact d7.2.2.1 j hj
  · rw [cA_ne _ _ _ (by omega)]
    exact d7.2.2.2 p hp
  · rw [cA_at]
    by_cases c : k = i
    · rw [if_pos c]
      rw [c, hm] at e
      rw [← Option.some.inj e]
      exact Or.inr hj
    · rw [if_neg c]
      exact d8.2.1 k m' hk e
/-- who stands at a place is looked at -/
theorem at_4 {e0 i0 : Nat} (hn : n < H) (he : e0 ≤ 2) (hi : i0 < plN T e0) : ∀ S : cS, ∀ W, CR F g H T S ct hd W pe → cP S (nd g n + plO e0) i0 = some a → cI S 4 a = nI 1 := fun S W c e => (c.2.2.2.1.2.2.2.2.1 n e0 i0 a hn (by omega) hi e).2 he
/-- the state while decides looks -/
def dcI (F g H T : Nat) (s : cS) (ct : Nat → List Nat) (hd : List Nat) (w : Wd) (pe : Nat → Int) (n : Nat) (S : cS) : Prop := CR F g H T S ct hd w pe ∧ cI S 5 (nd g n + 6) = nI 0 ∧ cP S = cP s ∧ m6 g H n s S
theorem dec_l7 (hN : 200 ≤ N) (h : CR F g H T s ct hd w pe) (hn : n < H) (k : GN F H T G w n) (hh : 1 ≤ wN w n 1) (hf : cI s 5 (nd g n + 6) = nI 0) : wp (KOL_X7_decides_7 N g H T N (some (nd g n)) (nd g n + 14) (nI 0) s) (KL_X7_decides_7 N g H T N (some (nd g n)) (nd g n + 14) (nI 0) s) (fun Z => dcI F g H T s ct hd w pe n Z.2.2.2.2 ∧ ((∃ j m a, lst (deS w n T F) T = some j ∧ j < T ∧ wY w n 6 j = some m ∧ cP s (nd g n + 20) j = some a ∧ ct a = m ∧ bg m 0 = 4 ∧ Z.1 = 0 ∧ Z.2.1 = some (nd g n) ∧ Z.2.2.2.1 = some a) ∨ (lst (deS w n T F) T = none ∧ Z.1 = 1 ∧ Z.2.1 = some (nd g n) ∧ Z.2.2.1 = nd g n + 14))) := by
  have cb := h.1.bb
  have cF : F ≤ 4 := h.1.2.1
  refine wp_loop (K := T) (fun j (S : cS) => dcI F g H T s ct hd w pe n S ∧ ∀ i, i < j → ¬ deS w n T F i) (fun r j S => KOL_X7_decides_7 N g H T r (some (nd g n)) (nd g n + 14) (nI j) S) (fun r j S => KL_X7_decides_7 N g H T r (some (nd g n)) (nd g n + 14) (nI j) S) (fun r j S hj hI ih => ?_) 0 N s (by omega) (by omega) ⟨⟨h, hf, rfl, m6.refl⟩, fun i hi => absurd hi (by omega)⟩
  obtain ⟨⟨cr, fr, eP0, e6⟩, no⟩ := hI
  have eT : cI S 1 (g + 8) = nI T := cr.2.2.2.2.2.1.2.1
  have eD : cI S 11 (nd g n + 14) = nI (cnt (fun k => wY w n 6 k ≠ none) T) := (cr.node hn).2.2.2.2.2.2.2.1.2.2
  have cl := cnt_le (fun k => wY w n 6 k ≠ none) T
  unfold KOL_X7_decides_7 KL_X7_decides_7 KOB_X7_decides_7 KB_X7_decides_7
  rw [eT, eD, cr.hF]
  refine wp_and someN ?_
  by_cases e : j = T
  · subst e
    exact wp_pos (by rw [n_le' (by omega) (by omega)]; omega) (wp_fin trivial ⟨⟨cr, fr, eP0, e6⟩, Or.inr ⟨lst_no j no, rfl, rfl, rfl⟩⟩)
  refine wp_neg (by rw [n_le' (by omega) (by omega)]; omega) (wp_ite (fun c => ?_) (fun c => ?_)) <;> rw [n_le' (by omega) (by omega)] at c
  · refine wp_fin trivial ⟨⟨cr, fr, eP0, e6⟩, Or.inr ⟨lst_no T (fun i _ ⟨m, _, q, _⟩ => ?_), rfl, rfl, rfl⟩⟩
    have := saC_cnt (w := w) (n := n) (d := idB (m.drop 1)) T
    omega
  have ePx : nd g n + 14 + 6 = nd g n + 20 := rfl
  have eAx : nd g n + 14 + 7 = nd g n + 21 := rfl
  rw [n_clamp (by omega), ePx, eAx]
  refine wp_and ((n_in (by omega)).2 (by omega)) ?_
  have nx : ∀ S' : cS, dcI F g H T s ct hd w pe n S' → ¬ deS w n T F j → wp (KO_X7_decides_108 N g H T (KOL_X7_decides_7 N g H T r) (some (nd g n)) (nd g n + 14) (nI j) S') (KF_X7_decides_108 N g H T (KL_X7_decides_7 N g H T r) (some (nd g n)) (nd g n + 14) (nI j) S') (fun Z => dcI F g H T s ct hd w pe n Z.2.2.2.2 ∧ ((∃ j m a, lst (deS w n T F) T = some j ∧ j < T ∧ wY w n 6 j = some m ∧ cP s (nd g n + 20) j = some a ∧ ct a = m ∧ bg m 0 = 4 ∧ Z.1 = 0 ∧ Z.2.1 = some (nd g n) ∧ Z.2.2.2.1 = some a) ∨ (lst (deS w n T F) T = none ∧ Z.1 = 1 ∧ Z.2.1 = some (nd g n) ∧ Z.2.2.1 = nd g n + 14))) := fun S' hS' q => by
    unfold KO_X7_decides_108 KF_X7_decides_108
    rw [n_add]
    refine ih S' ⟨hS', fun i hi => ?_⟩ (by omega)
    by_cases d : i = j
    · rw [d]; exact q
    · exact no i (by omega)
  rcases dec_at cr hn k (show j < T by omega) with ⟨v1, v2⟩ | ⟨a, m, v1, v2, v3, v4, v5, v6, v7, v8, v9⟩
  · rw [v1]
    exact wp_pos rfl (nx S ⟨cr, fr, eP0, e6⟩ (fun ⟨m, q, _⟩ => by rw [v2] at q; cases q))
  have so : ∀ m', wY w n 6 j = some m' → m' = m := fun m' q => by
    rw [v2] at q
    exact (Option.some.inj q).symm
  have hb : blkWf T (m.drop 1) := (k.d j m (by omega) v2).2.2.1
  have iff := va_iff (w := w) (n := n) hb cb.2.1
  obtain ⟨k1, k2⟩ := decisionsFor_C (N := N) (by omega) cr hn k v9 ⟨idB_len _, idB_B _⟩
  have kl := saC_le w n (idB (m.drop 1)) T
  rw [v1, k2]
  refine wp_neg someN (wp_and k1 (wp_ite (fun c2 => ?_) (fun c2 => ?_))) <;> rw [n_lt' (by omega) (by omega)] at c2
  rotate_left
  · refine nx S ⟨cr, fr, eP0, e6⟩ (fun ⟨m', q1, q2, _⟩ => ?_)
    rw [so m' q1] at q2
    omega
  -- behind the ruling
  have fin : ∀ S' : cS, dcI F g H T s ct hd w pe n S' → ((cA S' (nd g n + 21) j = nI 1 ∧ aVal w n (some (m.drop 1))) ∨ (cA S' (nd g n + 21) j = nI 2 ∧ ¬ aVal w n (some (m.drop 1)))) → wp (KO_X7_decides_90 N g H T (KOL_X7_decides_7 N g H T r) (some (nd g n)) (nd g n + 14) (nI j) (some a) S') (KF_X7_decides_90 N g H T (KL_X7_decides_7 N g H T r) (some (nd g n)) (nd g n + 14) (nI j) (some a) S') (fun Z => dcI F g H T s ct hd w pe n Z.2.2.2.2 ∧ ((∃ j m a, lst (deS w n T F) T = some j ∧ j < T ∧ wY w n 6 j = some m ∧ cP s (nd g n + 20) j = some a ∧ ct a = m ∧ bg m 0 = 4 ∧ Z.1 = 0 ∧ Z.2.1 = some (nd g n) ∧ Z.2.2.2.1 = some a) ∨ (lst (deS w n T F) T = none ∧ Z.1 = 1 ∧ Z.2.1 = some (nd g n) ∧ Z.2.2.1 = nd g n + 14))) := fun S' hS' hr => by
    unfold KO_X7_decides_90 KF_X7_decides_90
    rw [n_clamp (by omega), eAx]
    refine wp_and ((n_in (by omega)).2 (by omega)) ?_
    rcases hr with ⟨r1, r2⟩ | ⟨r1, r2⟩ <;> rw [r1]
    · exact wp_pos rfl (wp_fin trivial ⟨hS', Or.inl ⟨j, m, a, lst_is ⟨m, v2, c2, r2⟩ no T (by omega), by omega, v2, by rw [← eP0]; exact v1, v3, v8, rfl, rfl, rfl⟩⟩)
    · refine wp_neg (by decide) (nx S' hS' (fun ⟨m', q1, _, q3⟩ => ?_))
      rw [so m' q1] at q3
      exact r2 q3
  have ju : juD (aVal w n (some (m.drop 1))) (cA S (nd g n + 21) j) := by
    rcases (cr.node hn).2.2.2.2.2.2.2.1.2.1 j m (by omega) v2 with q | q | ⟨q, q'⟩ | ⟨q, q'⟩
    · exact absurd q k.fl
    · exact Or.inl q
    · exact Or.inr (Or.inl ⟨q, iff.1 q'⟩)
    · exact Or.inr (Or.inr ⟨q, fun z => q' (iff.2 z)⟩)
  refine wp_and ((n_in (by omega)).2 (by omega)) ?_
  rcases ju with ju | ju
  rotate_left
  · have n0 : ¬ cA S (nd g n + 21) j = 0 := by
      rcases ju with ju | ju <;> rw [ju.1] <;> decide
    exact wp_neg n0 (fin S ⟨cr, fr, eP0, e6⟩ ju)
  refine wp_pos (by rw [ju]; rfl) (wp_call (isValid_C (N := N) (by omega) cr hn k fr v4 (Or.inl rfl) hb) (fun q => ?_))
  obtain ⟨i1, i2, i3⟩ := q
  generalize k_X7_isValid N g H T S (some (nd g n)) (some a) (nI 1) = z at i1 i2 i3 ⊢
  obtain ⟨z1, S1⟩ := z
  have i1 : CR F g H T S1 ct hd w pe := i1
  have i2 : cfr (drP g) S S1 := i2
  have L21 : cL S1 (nd g n + 21) = T := i1.2.1.rl (c := 6) (k := 7) (o53 (isO5 hn)) rfl (by omega) (by omega)
  have nd6 : ¬ drP g (nd g n + 6) := by unfold drP nd; omega
  have st8 : ∀ j0 : Nat, ((j0 = 1 ∧ aVal w n (some (m.drop 1))) ∨ (j0 = 2 ∧ ¬ aVal w n (some (m.drop 1)))) → wp (KO_X7_decides_89 N g H T (KOL_X7_decides_7 N g H T r) (some (nd g n)) (nd g n + 14) (nI j) (some a) (some (nd g n + 21)) (nI j) (nI j0) S1) (KF_X7_decides_89 N g H T (KL_X7_decides_7 N g H T r) (some (nd g n)) (nd g n + 14) (nI j) (some a) (some (nd g n + 21)) (nI j) (nI j0) S1) (fun Z => dcI F g H T s ct hd w pe n Z.2.2.2.2 ∧ ((∃ j m a, lst (deS w n T F) T = some j ∧ j < T ∧ wY w n 6 j = some m ∧ cP s (nd g n + 20) j = some a ∧ ct a = m ∧ bg m 0 = 4 ∧ Z.1 = 0 ∧ Z.2.1 = some (nd g n) ∧ Z.2.2.2.1 = some a) ∨ (lst (deS w n T F) T = none ∧ Z.1 = 1 ∧ Z.2.1 = some (nd g n) ∧ Z.2.2.1 = nd g n + 14))) := fun j0 hj0 => by
    unfold KO_X7_decides_89 KF_X7_decides_89
    rw [zsome, L21, n_clamp (by omega)]
    have c' := i1.rul (i := j) (x0 := nI j0) hn (by omega) v2 (by
      rcases hj0 with ⟨q, q'⟩ | ⟨q, q'⟩
      · rw [q]
        exact Or.inr (Or.inl ⟨rfl, iff.2 q'⟩)
      · rw [q]
        exact Or.inr (Or.inr ⟨rfl, fun z => q' (iff.1 z)⟩))
    refine wp_and ⟨someN, ((n_in (by omega)).2 (by omega))⟩ (fin _ ⟨c', ?_, ?_, e6.trans (i2.six (fun m _ _ => by unfold drP nd; omega) : m6 g H n S S1)⟩ ?_)
    · show cI S1 5 (nd g n + 6) = nI 0
      rw [i2.I 5 _ nd6]
      exact fr
    · show cP S1 = cP s
      rw [i2.2.2.2.2.2.1]
      exact eP0
    · rw [cA_at, if_pos rfl]
      rcases hj0 with ⟨q, q'⟩ | ⟨q, q'⟩
      · rw [q]
        exact Or.inl ⟨rfl, q'⟩
      · rw [q]
        exact Or.inr ⟨rfl, q'⟩
  show wp (KO_X7_decides_81 N g H T (KOL_X7_decides_7 N g H T r) (some (nd g n)) (nd g n + 14) (nI j) (some a) (some (nd g n + 21)) (nI j) z1 S1) (KF_X7_decides_81 N g H T (KL_X7_decides_7 N g H T r) (some (nd g n)) (nd g n + 14) (nI j) (some a) (some (nd g n + 21)) (nI j) z1 S1) _
  unfold KO_X7_decides_81 KF_X7_decides_81
  rcases i3 with ⟨i3, i4⟩ | ⟨i3, i4⟩
  · have i3 : z1 = nI 1 := i3
    rw [i3]
    exact wp_neg (show ¬ nI 1 = 0 by decide) (st8 1 (Or.inl ⟨rfl, i4⟩))
  · have i3 : z1 = nI 0 := i3
    rw [i3]
    exact wp_pos (show nI 0 = 0 from rfl) (st8 2 (Or.inr ⟨rfl, i4⟩))
end
end

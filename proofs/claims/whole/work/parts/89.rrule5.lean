section
/-! THE REFERENCE'S FIFTH RULE: enough prevotes for what is held -/
section
variable {N n F H T : Nat} {S : rS} {w : Wd}
theorem aOwn_c {t : List Nat} (h : (aOwn w n t).1 = true) : wN (aOwn w n t).2 n 15 = wN w n 15 + 1 ∧ (0 ≤ wN w n 12 ∧ wN w n 12 ≤ 1000 → 0 ≤ wN (aOwn w n t).2 n 12 ∧ wN (aOwn w n t).2 n 12 ≤ 1000) := by
  unfold aOwn at h ⊢
  by_cases e : (aNote w n t (80 + 2 * (wN w n 15).toNat)).1 = true
  · rw [if_pos e]
    refine ⟨N_s _ _ _ _, fun hc => ?_⟩
    show 0 ≤ wN (sN (aNote w n t (80 + 2 * (wN w n 15).toNat)).2 n 15 (wN w n 15 + 1)) n 12 ∧ wN (sN (aNote w n t (80 + 2 * (wN w n 15).toNat)).2 n 15 (wN w n 15 + 1)) n 12 ≤ 1000
    rw [N_o _ _ _ _ (by omega)]
    exact (aNote_t e).2.2.2.2.2.2 hc
  · rw [if_neg e] at h
    cases h
/-- a block becomes valid -/
def aR5v (w : Wd) (n : Nat) (c : List Nat) : Bool × Wd := if (aOwn w n (ownT w n 5 ((wN w n 2).toNat :: c))).1 then (true, sN (sBy (aOwn w n (ownT w n 5 ((wN w n 2).toNat :: c))).2 n 1 0 (some c)) n 5 (wN w n 2)) else (false, (aOwn w n (ownT w n 5 ((wN w n 2).toNat :: c))).2)
/-- a node locks a block -/
def aLk (w : Wd) (n : Nat) (r : Int) (c : List Nat) : Wd := sN (sN (sBy (sBy w n 0 0 (some c)) n 1 0 (some c)) n 4 r) n 5 r
def aR5l (w : Wd) (n T : Nat) (c : List Nat) : Bool × Wd := if (aOwn w n (ownT w n 4 ((wN w n 2).toNat :: c))).1 then aVote (aLk (aOwn w n (ownT w n 4 ((wN w n 2).toNat :: c))).2 n (wN w n 2) c) n T 3 2 (some (idB c)) else (false, (aOwn w n (ownT w n 4 ((wN w n 2).toNat :: c))).2)
noncomputable def aR5a (w : Wd) (n T : Nat) (c : List Nat) : Bool × Wd := if wN w n 3 = 2 then @ite _ (wN w n 5 = wN w n 2 ∧ sameI (some c) (wY w n 1 0)) (Classical.propDecidable _) (true, w) (aR5v w n c) else if wN w n 4 = wN w n 2 then aVote w n T 3 2 (some (idB c)) else aR5l w n T c
noncomputable def aR5 (w : Wd) (n T : Nat) (c : List Nat) : Bool × Wd := aR5a (sN w n 6 1) n T c
theorem rule5_154 {q i : Nat} {c : List Nat} (hN : 1000 ≤ N) (h : rRp F H T S w) (hn : n < H) (hq : q < 32) (hb : bR S (32 * n + q) c) (h1 : 0 ≤ wN w n 1 ∧ wN w n 1 ≤ 41) (h2 : 0 ≤ wN w n 2 ∧ wN w n 2 < 16) (hc : 0 ≤ wN w n 12 ∧ wN w n 12 ≤ 1000) (h15 : 0 ≤ wN w n 15 ∧ wN w n 15 ≤ 100) (hi : wN w n 17 = i) (hi64 : i < 64) : wp (O_rule5_154 N (nI n) (nI (32 * n + q)) S) (F_rule5_154 N (nI n) (nI (32 * n + q)) S) (fun z => rRp F H T z.2 (aVote w n T 3 2 (some (idB c))).2 ∧ z.1 = nI (if (aVote w n T 3 2 (some (idB c))).1 then 1 else 0)) := by
  have cb := h.1.1.b
  unfold O_rule5_154 F_rule5_154
  refine wp_call (vote_ok (k := 3) (s := 2) (i := i) (p := 32 * n + q) (o := some (idB c)) hN h hn (by omega) (by omega) (Or.inr ⟨rfl, (by omega), _, rfl, hb.2.2, idB_len _, idB_B _⟩) h1 h2 hc h15 hi hi64) (fun q => ?_)
  unfold O_rule5_162 F_rule5_162
  rw [q.2.2]
  exact wp_fin (by split <;> rfl) ⟨q.2.1, rfl⟩
theorem rule5_ok {q i : Nat} {c : List Nat} (hN : 1000 ≤ N) (h : rRp F H T S w) (hn : n < H) (hq : q < 32) (hb : bR S (32 * n + q) c) (hok : bOK c) (h1 : 0 ≤ wN w n 1 ∧ wN w n 1 ≤ 41) (h2 : 0 ≤ wN w n 2 ∧ wN w n 2 < 16) (h3 : 0 ≤ wN w n 3 ∧ wN w n 3 ≤ 2) (h4 : -1 ≤ wN w n 4 ∧ wN w n 4 < 16) (h5 : -1 ≤ wN w n 5 ∧ wN w n 5 < 16) (hc : 0 ≤ wN w n 12 ∧ wN w n 12 ≤ 1000) (h15 : 0 ≤ wN w n 15 ∧ wN w n 15 ≤ 99) (hi : wN w n 17 = i) (hi64 : i < 64) : wp (o_rule5 N S (nI n) (nI (32 * n + q))) (f_rule5 N S (nI n) (nI (32 * n + q))) (fun z => rRp F H T z.2 (aR5 w n T c).2 ∧ z.1 = nI (if (aR5 w n T c).1 then 1 else 0)) := by
  have cb := h.1.1.b
  show wp (O_rule5_0 N (nI n) (nI (32 * n + q)) S) (F_rule5_0 N (nI n) (nI (32 * n + q)) S) _
  unfold O_rule5_0 F_rule5_0 aR5
  rw [n_clamp (by omega)]
  have R1 : rRp F H T (rsA S 49 n (nI 1)) (sN w n 6 1) := h.setN (n := n) (k := 6) (v := 1) (by decide) (by decide) (by decide)
  have hb1 : bR (rsA S 49 n (nI 1)) (32 * n + q) c := hb.fr (L := [49]) (rfr.one (by decide)) (by decide) (by decide) (by decide)
  have a : ∀ k, k ≠ 6 → wN (sN w n 6 1) n k = wN w n k := fun k hk => N_o _ _ _ _ (Or.inr hk)
  rw [← a 1 (by decide)] at h1
  rw [← a 2 (by decide)] at h2
  rw [← a 3 (by decide)] at h3
  rw [← a 4 (by decide)] at h4
  rw [← a 5 (by decide)] at h5
  rw [← a 12 (by decide)] at hc
  rw [← a 15 (by decide)] at h15
  rw [← a 17 (by decide)] at hi
  clear a
  generalize sN w n 6 1 = w1 at R1 h1 h2 h3 h4 h5 hc h15 hi ⊢
  generalize rsA S 49 n (nI 1) = S1 at R1 hb1 ⊢
  have e46 : S1.2.1 46 n = iI (wN w1 n 3) := R1.num hn 3 (by decide) (by decide)
  have e45 : S1.2.1 45 n = iI (wN w1 n 2) := R1.num hn 2 (by decide) (by decide)
  have e47 : S1.2.1 47 n = iI (wN w1 n 4) := R1.num hn 4 (by decide) (by decide)
  have e48 : S1.2.1 48 n = iI (wN w1 n 5) := R1.num hn 5 (by decide) (by decide)
  rw [e46, e45, e47, e48, show nI 2 = iI 2 from rfl]
  unfold aR5a
  refine wp_and ((n_in (by omega)).2 (by omega)) (wp_and ((n_in (by omega)).2 (by omega)) (wp_ite (fun c1 => ?_) (fun c1 => ?_))) <;> rw [iI_eq (by omega) (by omega) (by omega) (by omega)] at c1
  · rw [if_pos c1]
    have val : ¬ (wN w1 n 5 = wN w1 n 2 ∧ sameI (some c) (wY w1 n 1 0)) → wp (O_rule5_47 N (nI n) (nI (32 * n + q)) S1) (F_rule5_47 N (nI n) (nI (32 * n + q)) S1) (fun z => rRp F H T z.2 (@ite _ (wN w1 n 5 = wN w1 n 2 ∧ sameI (some c) (wY w1 n 1 0)) (Classical.propDecidable _) (true, w1) (aR5v w1 n c)).2 ∧ z.1 = nI (if (@ite _ (wN w1 n 5 = wN w1 n 2 ∧ sameI (some c) (wY w1 n 1 0)) (Classical.propDecidable _) (true, w1) (aR5v w1 n c)).1 then 1 else 0)) := by
      intro g
      rw [if_neg g]
      unfold O_rule5_47 F_rule5_47 aR5v
      refine wp_call (noteLock_ok (k := 5) (p := 32 * n + q) (c := c) (by omega) (by omega) R1 hn (by omega) hb1 hok h1 h2 hc (by omega)) (fun y => ?_)
      obtain ⟨⟨q1, q1'⟩, q2, q3⟩ := y
      generalize f_noteLock N S1 (nI n) (nI 5) (nI (32 * n + q)) = y at q1 q1' q2 q3 ⊢
      unfold O_rule5_54 F_rule5_54
      rw [q3]
      cases hbb : (aOwn w1 n (ownT w1 n 5 ((wN w1 n 2).toNat :: c))).1 with
      | false => exact wp_pos rfl (wp_fin trivial ⟨q2, rfl⟩)
      | true =>
        obtain ⟨t1, t2, t3, t4, t5, t6⟩ := aOwn_t hbb
        rw [hbb] at q3
        have fw := q1' q3
        have yb : bR y.2 (32 * n + q) c := hb1.fr fw (by decide) (by decide) (by decide)
        generalize (aOwn w1 n (ownT w1 n 5 ((wN w1 n 2).toNat :: c))).2 = w2 at q2 t1 ⊢
        generalize y.2 = S2 at q2 yb ⊢
        rw [n_add]
        refine wp_neg (show ¬ nI 1 = 0 by decide) (wp_call (copyBlock_ok (p := 32 * n + q) (q := 1131 + n) (by omega) (by omega) (by omega) yb hok.2.1 (by omega)) (fun z => ?_))
        obtain ⟨g1, g2, g3⟩ := z
        generalize f_copyBlock N S2 (nI (32 * n + q)) (nI (1131 + n)) = S3 at g1 g2 g3 ⊢
        have R3 : rRp F H T S3 (sBy w2 n 1 0 (some c)) := q2.put (f := 1) (i := 0) (p := 1131 + n) hn (by unfold plc; omega) (fun z => absurd z (by decide)) (g1.mono (by decide)) g2 (fun x _ => by rw [g1.a 59 (by decide)]) (by
          show oR S3 (1131 + n) ((some c).map (List.drop (plD 1)))
          unfold plD
          rw [if_neg (by decide), if_neg (by decide), map0]
          exact ⟨g3, hok⟩) (fun z => absurd z (by decide))
        unfold O_rule5_69 F_rule5_69
        have e45' : S3.2.1 45 n = iI (wN w1 n 2) := by
          rw [← t1 n 2 (by omega) (by omega)]
          exact R3.num hn 2 (by decide) (by decide)
        rw [n_clamp (by omega), e45']
        exact wp_fin ⟨((n_in (by omega)).2 (by omega)), ((n_in (by omega)).2 (by omega)), trivial⟩ ⟨R3.setN (n := n) (k := 5) (v := wN w1 n 2) (by decide) (by decide) (by decide), rfl⟩
    refine wp_and ((n_in (by omega)).2 (by omega)) (wp_and ((n_in (by omega)).2 (by omega)) (wp_ite (fun c2 => ?_) (fun c2 => ?_))) <;> rw [iI_eq (by omega) (by omega) (by omega) (by omega)] at c2
    · rw [n_add]
      obtain ⟨s1, s2⟩ := sameBlock_ok (N := N) (S := S1) (p := 32 * n + q) (q := 1131 + n) (o := some c) (o2 := wY w1 n 1 0) (by omega) (by omega) ⟨hb1, hok⟩ (R1.l n hn).2 (by omega)
      refine wp_and s1 ?_
      rcases s2 with ⟨s2, s3⟩ | ⟨s2, s3⟩ <;> rw [s3]
      · refine wp_neg (by decide) ?_
        rw [if_pos ⟨c2, s2⟩]
        exact wp_fin trivial ⟨R1, rfl⟩
      · exact wp_pos rfl (val (fun z => s2 z.2))
    · exact val (fun z => c2 z.1)
  · rw [if_neg c1]
    refine wp_and ((n_in (by omega)).2 (by omega)) (wp_and ((n_in (by omega)).2 (by omega)) (wp_ite (fun c2 => ?_) (fun c2 => ?_))) <;> rw [iI_eq (by omega) (by omega) (by omega) (by omega)] at c2
    · rw [if_pos c2]
      exact rule5_154 hN R1 hn hq hb1 h1 h2 hc (by omega) hi hi64
    rw [if_neg c2]
    unfold aR5l
    refine wp_call (noteLock_ok (k := 4) (p := 32 * n + q) (c := c) (by omega) (by omega) R1 hn (by omega) hb1 hok h1 h2 hc (by omega)) (fun y => ?_)
    obtain ⟨⟨q1, q1'⟩, q2, q3⟩ := y
    generalize f_noteLock N S1 (nI n) (nI 4) (nI (32 * n + q)) = y at q1 q1' q2 q3 ⊢
    unfold O_rule5_105 F_rule5_105
    rw [q3]
    cases hbb : (aOwn w1 n (ownT w1 n 4 ((wN w1 n 2).toNat :: c))).1 with
    | false => exact wp_pos rfl (wp_fin trivial ⟨q2, rfl⟩)
    | true =>
      obtain ⟨t1, t2, t3, t4, t5, t6⟩ := aOwn_t hbb
      obtain ⟨u1, u2⟩ := aOwn_c hbb
      have u2 := u2 hc
      rw [hbb] at q3
      have fw := q1' q3
      have yb : bR y.2 (32 * n + q) c := hb1.fr fw (by decide) (by decide) (by decide)
      generalize (aOwn w1 n (ownT w1 n 4 ((wN w1 n 2).toNat :: c))).2 = w2 at q2 t1 u1 u2 ⊢
      generalize y.2 = S2 at q2 yb ⊢
      rw [n_add]
      refine wp_neg (show ¬ nI 1 = 0 by decide) (wp_call (copyBlock_ok (p := 32 * n + q) (q := 1118 + n) (by omega) (by omega) (by omega) yb hok.2.1 (by omega)) (fun z => ?_))
      obtain ⟨g1, g2, g3⟩ := z
      have yb3 : bR (f_copyBlock N S2 (nI (32 * n + q)) (nI (1118 + n))) (32 * n + q) c := ((show oR S2 (32 * n + q) (some c) from ⟨yb, hok⟩).p g2 (by omega)).1
      generalize f_copyBlock N S2 (nI (32 * n + q)) (nI (1118 + n)) = S3 at g1 g2 g3 yb3 ⊢
      have R3 : rRp F H T S3 (sBy w2 n 0 0 (some c)) := q2.put (f := 0) (i := 0) (p := 1118 + n) hn (by unfold plc; omega) (fun z => absurd z (by decide)) (g1.mono (by decide)) g2 (fun x _ => by rw [g1.a 59 (by decide)]) (by
        show oR S3 (1118 + n) ((some c).map (List.drop (plD 0)))
        unfold plD
        rw [if_neg (by decide), if_neg (by decide), map0]
        exact ⟨g3, hok⟩) (fun z => absurd z (by decide))
      unfold O_rule5_120 F_rule5_120
      rw [n_add]
      refine wp_call (copyBlock_ok (p := 32 * n + q) (q := 1131 + n) (by omega) (by omega) (by omega) yb3 hok.2.1 (by omega)) (fun z => ?_)
      obtain ⟨k1, k2, k3⟩ := z
      have yb4 : bR (f_copyBlock N S3 (nI (32 * n + q)) (nI (1131 + n))) (32 * n + q) c := ((show oR S3 (32 * n + q) (some c) from ⟨yb3, hok⟩).p k2 (by omega)).1
      generalize f_copyBlock N S3 (nI (32 * n + q)) (nI (1131 + n)) = S4 at k1 k2 k3 yb4 ⊢
      have R4 : rRp F H T S4 (sBy (sBy w2 n 0 0 (some c)) n 1 0 (some c)) := R3.put (f := 1) (i := 0) (p := 1131 + n) hn (by unfold plc; omega) (fun z => absurd z (by decide)) (k1.mono (by decide)) k2 (fun x _ => by rw [k1.a 59 (by decide)]) (by
        show oR S4 (1131 + n) ((some c).map (List.drop (plD 1)))
        unfold plD
        rw [if_neg (by decide), if_neg (by decide), map0]
        exact ⟨k3, hok⟩) (fun z => absurd z (by decide))
      unfold O_rule5_130 F_rule5_130
      have e45' : S4.2.1 45 n = iI (wN w1 n 2) := by
        rw [← t1 n 2 (by omega) (by omega)]
        exact R4.num hn 2 (by decide) (by decide)
      rw [n_clamp (by omega), e45', A_other _ _ _ (by decide), e45']
      have R6 : rRp F H T (rsA (rsA S4 47 n (iI (wN w1 n 2))) 48 n (iI (wN w1 n 2))) (aLk w2 n (wN w1 n 2) c) := (R4.setN (n := n) (k := 4) (v := wN w1 n 2) (by decide) (by decide) (by decide)).setN (n := n) (k := 5) (v := wN w1 n 2) (by decide) (by decide) (by decide)
      have yb6 : bR (rsA (rsA S4 47 n (iI (wN w1 n 2))) 48 n (iI (wN w1 n 2))) (32 * n + q) c := yb4.fr (L := [47, 48]) ((rfr.one (by decide)).trans (rfr.one (by decide))) (by decide) (by decide) (by decide)
      have b : ∀ k, k ≠ 4 → k ≠ 5 → wN (aLk w2 n (wN w1 n 2) c) n k = wN w2 n k := fun k a1 a2 => by
        unfold aLk
        rw [N_o _ _ _ _ (Or.inr a2), N_o _ _ _ _ (Or.inr a1)]
        rfl
      generalize rsA (rsA S4 47 n (iI (wN w1 n 2))) 48 n (iI (wN w1 n 2)) = S6 at R6 yb6 ⊢
      generalize aLk w2 n (wN w1 n 2) c = w6 at R6 b ⊢
      refine wp_and ((n_in (by omega)).2 (by omega)) (wp_and ((n_in (by omega)).2 (by omega)) (wp_and ((n_in (by omega)).2 (by omega)) (wp_and ((n_in (by omega)).2 (by omega)) (rule5_154 (i := i) hN R6 hn hq yb6 ?_ ?_ ?_ ?_ ?_ hi64))))
      · rw [b 1 (by decide) (by decide), t1 n 1 (by omega) (by omega)]; exact h1
      · rw [b 2 (by decide) (by decide), t1 n 2 (by omega) (by omega)]; exact h2
      · rw [b 12 (by decide) (by decide)]; exact u2
      · rw [b 15 (by decide) (by decide), u1]; omega
      · rw [b 17 (by decide) (by decide), t1 n 17 (by omega) (by omega)]; exact hi
end
end

section
/-! THE REFERENCE BEGINS A ROUND -/
section
variable {N n F H T : Nat} {S S1 : rS} {w : Wd}
theorem rRp.nums {v : Nat → Nat → Int} (h : rRp F H T S w) (f : rfr [43, 45, 46, 47, 48, 49, 50, 51, 52, 75, 76, 77, 78, 79] S S1) (hj : jN H S1 v) (e : ∀ m k, m < H → k = 1 ∨ 17 ≤ k → v m k = wN w m k) : rRp F H T S1 (v, w.2) := ⟨h.co.fr f (by decide), h.sk.fr f (by decide), hj, (h.wh.fr f (by decide)).cg (fun m k hm a b => e m k hm (by omega)), h.x.fr f (by decide), h.l.fr f (by decide) (by decide) (by decide), h.hd.fr f (by decide) (by decide) (by decide) (by decide), h.v.fr f (by decide) (by decide) (by decide) (by decide) (by decide), h.d.fr f (by decide) (by decide) (by decide), h.c.fr f (by decide) (by decide) (by decide), (h.g.fr f (by decide) (by decide) (by decide) (by decide)).cg (fun m hm => e m 17 hm (by omega)) (fun _ _ _ => rfl), h.p.fr f (by decide) (by decide), h.e.fr f (by decide) (by decide), h.s.fr f (by decide) (by decide), (h.k.fr f (by decide)).cg (fun m hm => e m 1 hm (by omega)) (fun m k hm a b => e m k hm (by omega)) (fun _ _ _ => rfl) (fun _ _ => rfl)⟩
/-- a round is new -/
def aNew (w : Wd) (n r : Nat) : Wd := (fun n' k => if n' = n then (if k = 2 then (r : Int) else if k = 3 then 0 else if 6 ≤ k ∧ k ≤ 8 then 0 else if k = 9 then ((wT w + 4 + r : Nat) : Int) else if k = 10 ∨ k = 11 then -1 else w.1 n' k) else w.1 n' k, w.2)
def aBegin (w : Wd) (n T r : Nat) : Wd := if (aOwn w n (ownT w n 2 [r])).1 then (if ((wN w n 1).toNat + r) % T = n then (match wY w n 1 0 with | none => (aProp (aNew (aOwn w n (ownT w n 2 [r])).2 n r) n T (-1) (aBld (aNew (aOwn w n (ownT w n 2 [r])).2 n r) n T)).2 | some b => (aProp (aNew (aOwn w n (ownT w n 2 [r])).2 n r) n T (wN w n 5) b).2) else aNew (aOwn w n (ownT w n 2 [r])).2 n r) else (aOwn w n (ownT w n 2 [r])).2
theorem aNew_N (w : Wd) (n r : Nat) {m k : Nat} (h : m ≠ n ∨ k < 2 ∨ k = 4 ∨ k = 5 ∨ 12 ≤ k) : wN (aNew w n r) m k = wN w m k := by
  show (if m = n then (if k = 2 then (r : Int) else if k = 3 then 0 else if 6 ≤ k ∧ k ≤ 8 then 0 else if k = 9 then ((wT w + 4 + r : Nat) : Int) else if k = 10 ∨ k = 11 then -1 else w.1 m k) else w.1 m k) = w.1 m k
  by_cases c : m = n
  · rw [if_pos c, if_neg (by omega), if_neg (by omega), if_neg (by omega), if_neg (by omega), if_neg (by omega)]
  · rw [if_neg c]
theorem aNew_2 (w : Wd) (n r : Nat) : wN (aNew w n r) n 2 = r := by
  show (if n = n then _ else _) = _
  rw [if_pos rfl, if_pos rfl]
theorem begin_new {r : Nat} {S2 S3 S4 : rS} (h : rRp F H T S w) (hn : n < H) (hr : r < 256) (e1 : S1 = rsA (rsA S 45 n (nI r)) 46 n (nI 0)) (e2 : rfr [52] S1 S2 ∧ ∀ x, S2.2.1 52 x = if 3 * n ≤ x ∧ x < 3 * n + 3 then -1 else S1.2.1 52 x) (e3 : S3 = rsA (rsA (rsA S2 49 n (nI 0)) 50 n (nI 0)) 51 n (nI 0)) (e4 : S4 = rsA S3 52 (3 * n) (nI (wT w + 4 + r))) : rRp F H T S4 (aNew w n r) ∧ rfr [45, 46, 49, 50, 51, 52] S S4 := by
  have cb := h.1.1.b
  have f1 : rfr [45, 46] S S1 := by rw [e1]; exact (rfr.one (by decide)).trans (rfr.one (by decide))
  have f3 : rfr [49, 50, 51] S2 S3 := by rw [e3]; exact ((rfr.one (by decide)).trans (rfr.one (by decide))).trans (rfr.one (by decide))
  have f4 : rfr [52] S3 S4 := by rw [e4]; exact rfr.one (by decide)
  have f : rfr [45, 46, 49, 50, 51, 52] S S4 := (((f1.mono (by decide)).trans (e2.1.mono (by decide))).trans (f3.mono (by decide))).trans (f4.mono (by decide))
  refine ⟨h.nums (f.mono (by decide)) (fun m k hm hk => ?_) (fun m k hm hk => aNew_N _ _ _ (by omega)), f⟩
  have r45 : S4.2.1 45 = upd (S.2.1 45) n (nI r) := by rw [f4.a 45 (by decide), f3.a 45 (by decide), e2.1.a 45 (by decide), e1, A_other _ _ _ (by decide), A_same]
  have r46 : S4.2.1 46 = upd (S.2.1 46) n (nI 0) := by rw [f4.a 46 (by decide), f3.a 46 (by decide), e2.1.a 46 (by decide), e1, A_same, A_other _ _ _ (by decide)]
  have r49 : S4.2.1 49 = upd (S.2.1 49) n (nI 0) := by rw [f4.a 49 (by decide), e3, A_other _ _ _ (by decide), A_other _ _ _ (by decide), A_same, e2.1.a 49 (by decide), f1.a 49 (by decide)]
  have r50 : S4.2.1 50 = upd (S.2.1 50) n (nI 0) := by rw [f4.a 50 (by decide), e3, A_other _ _ _ (by decide), A_same, A_other _ _ _ (by decide), e2.1.a 50 (by decide), f1.a 50 (by decide)]
  have r51 : S4.2.1 51 = upd (S.2.1 51) n (nI 0) := by rw [f4.a 51 (by decide), e3, A_same, A_other _ _ _ (by decide), A_other _ _ _ (by decide), e2.1.a 51 (by decide), f1.a 51 (by decide)]
  have r52 : ∀ x, S4.2.1 52 x = if x = 3 * n then nI (wT w + 4 + r) else if 3 * n ≤ x ∧ x < 3 * n + 3 then -1 else S.2.1 52 x := fun x => by
    rw [e4, A_same]
    by_cases c : x = 3 * n
    · rw [c, upd_same, if_pos rfl]
    · rw [upd_other _ _ c, if_neg c, f3.a 52 (by decide), e2.2 x, f1.a 52 (by decide)]
  have old := h.n m k hm hk
  by_cases em : m = n
  · subst em
    show S4.2.1 (rna k) (rni k m) = iI (if m = m then (if k = 2 then (r : Int) else if k = 3 then 0 else if 6 ≤ k ∧ k ≤ 8 then 0 else if k = 9 then ((wT w + 4 + r : Nat) : Int) else if k = 10 ∨ k = 11 then -1 else w.1 m k) else w.1 m k)
    rw [if_pos rfl]
    rcases (show k = 2 ∨ k = 3 ∨ k = 6 ∨ k = 7 ∨ k = 8 ∨ k = 9 ∨ k = 10 ∨ k = 11 ∨ (k < 2 ∨ k = 4 ∨ k = 5 ∨ 12 ≤ k) by omega) with rfl | rfl | rfl | rfl | rfl | rfl | rfl | rfl | hk2
    · show S4.2.1 45 m = iI (r : Int)
      rw [r45, upd_same, iI_n]
    · show S4.2.1 46 m = iI 0
      rw [r46, upd_same]
      rfl
    · show S4.2.1 49 m = iI 0
      rw [r49, upd_same]
      rfl
    · show S4.2.1 50 m = iI 0
      rw [r50, upd_same]
      rfl
    · show S4.2.1 51 m = iI 0
      rw [r51, upd_same]
      rfl
    · show S4.2.1 52 (3 * m + 0) = iI ((wT w + 4 + r : Nat) : Int)
      rw [r52, if_pos (by omega), iI_n]
    · show S4.2.1 52 (3 * m + 1) = iI (-1)
      rw [r52, if_neg (by omega), if_pos (by omega)]
      rfl
    · show S4.2.1 52 (3 * m + 2) = iI (-1)
      rw [r52, if_neg (by omega), if_pos (by omega)]
      rfl
    · rw [if_neg (by omega), if_neg (by omega), if_neg (by omega), if_neg (by omega), if_neg (by omega)]
      have : rna k ∉ [45, 46, 49, 50, 51, 52] := by
        rcases (show k = 0 ∨ k = 1 ∨ k = 4 ∨ k = 5 ∨ k = 12 ∨ k = 13 ∨ k = 14 ∨ k = 15 ∨ k = 16 ∨ k = 17 by omega) with rfl | rfl | rfl | rfl | rfl | rfl | rfl | rfl | rfl | rfl <;> decide
      rw [f.a _ this]
      exact old
  · have ee : wN (aNew w n r) m k = wN w m k := aNew_N _ _ _ (Or.inl em)
    show S4.2.1 (rna k) (rni k m) = iI (wN (aNew w n r) m k)
    rw [ee]
    by_cases kt : 9 ≤ k ∧ k ≤ 11
    · have er : rna k = 52 := by rcases (show k = 9 ∨ k = 10 ∨ k = 11 by omega) with rfl | rfl | rfl <;> rfl
      have ei : rni k m = 3 * m + (k - 9) := by unfold rni; rw [if_pos kt]
      rw [er, ei] at old ⊢
      rw [r52, if_neg (by omega), if_neg (by omega)]
      exact old
    · have ei : rni k m = m := by unfold rni; rw [if_neg kt]
      rw [ei] at old ⊢
      rcases (show k = 0 ∨ k = 1 ∨ k = 2 ∨ k = 3 ∨ k = 4 ∨ k = 5 ∨ k = 6 ∨ k = 7 ∨ k = 8 ∨ k = 12 ∨ k = 13 ∨ k = 14 ∨ k = 15 ∨ k = 16 ∨ k = 17 by omega) with rfl | rfl | rfl | rfl | rfl | rfl | rfl | rfl | rfl | rfl | rfl | rfl | rfl | rfl | rfl
      · rw [f.a _ (by decide)]; exact old
      · rw [f.a _ (by decide)]; exact old
      · show S4.2.1 45 m = _
        rw [r45, upd_other _ _ em]; exact old
      · show S4.2.1 46 m = _
        rw [r46, upd_other _ _ em]; exact old
      · rw [f.a _ (by decide)]; exact old
      · rw [f.a _ (by decide)]; exact old
      · show S4.2.1 49 m = _
        rw [r49, upd_other _ _ em]; exact old
      · show S4.2.1 50 m = _
        rw [r50, upd_other _ _ em]; exact old
      · show S4.2.1 51 m = _
        rw [r51, upd_other _ _ em]; exact old
      · rw [f.a _ (by decide)]; exact old
      · rw [f.a _ (by decide)]; exact old
      · rw [f.a _ (by decide)]; exact old
      · rw [f.a _ (by decide)]; exact old
      · rw [f.a _ (by decide)]; exact old
      · rw [f.a _ (by decide)]; exact old
theorem begin_ok {r i : Nat} (hN : 1000 ≤ N) (h : rRp F H T S w) (hn : n < H) (hr : r < 16) (h1 : 0 ≤ wN w n 1 ∧ wN w n 1 ≤ 41) (h5 : -1 ≤ wN w n 5 ∧ wN w n 5 < 16) (hc : 0 ≤ wN w n 12 ∧ wN w n 12 ≤ 1000) (h15 : 0 ≤ wN w n 15 ∧ wN w n 15 ≤ 99) (hi : wN w n 17 = i) (hi64 : i < 64) (hpl : ∀ q, q < (wP w n).length → bg (pg (wP w n) q) 0 < 16 ∧ bg (pg (wP w n) q) 1 < 16) (hfr : ∀ (j : Nat) y, j < i → wY w n 8 j = some y → bg y 0 = 1 → bg y 4 ≠ r) : wp (o_begin N S (nI n) (nI r)) (f_begin N S (nI n) (nI r)) (fun S' => rRp F H T S' (aBegin w n T r)) := by
  have cb := h.1.1.b
  show wp (O_begin_0 N (nI n) (nI r) S) (F_begin_0 N (nI n) (nI r) S) _
  unfold O_begin_0 F_begin_0
  refine wp_call (noteRound_ok (by omega) hN h hn h1 hc (by omega)) (fun q => ?_)
  obtain ⟨⟨q1, q1'⟩, q2, q3⟩ := q
  generalize f_noteRound N S (nI n) (nI r) = y at q1 q1' q2 q3 ⊢
  unfold O_begin_6 F_begin_6
  rw [q3]
  unfold aBegin
  cases hb : (aOwn w n (ownT w n 2 [r])).1 with
  | false => exact wp_pos rfl (wp_fin trivial q2)
  | true =>
    obtain ⟨t1, t2, t3, t4, t5, t6⟩ := aOwn_t hb
    have t15 : wN (aOwn w n (ownT w n 2 [r])).2 n 15 = wN w n 15 + 1 ∧ 0 ≤ wN (aOwn w n (ownT w n 2 [r])).2 n 12 ∧ wN (aOwn w n (ownT w n 2 [r])).2 n 12 ≤ 1000 := by
      have hb2 := hb
      unfold aOwn at hb2 ⊢
      unfold aNote at hb2 ⊢
      cases hx : nTrn w n with
      | true =>
        rw [hx] at hb2
        cases hb2
      | false =>
        show wN (sN (sN (aWr w n _ _) n 13 _) n 15 (wN w n 15 + 1)) n 15 = _ ∧ 0 ≤ wN (sN (sN (aWr w n _ _) n 13 _) n 15 (wN w n 15 + 1)) n 12 ∧ wN (sN (sN (aWr w n _ _) n 13 _) n 15 (wN w n 15 + 1)) n 12 ≤ 1000
        rw [N_s, N_o _ _ _ _ (by omega), N_o _ _ _ _ (by omega), aWr_12]
        refine ⟨rfl, ?_⟩
        split <;> omega
    generalize (aOwn w n (ownT w n 2 [r])).2 = w1 at q2 t1 t2 t3 t4 t5 t6 t15 ⊢
    generalize y.2 = S0 at q2 ⊢
    have hS3 : S0.1 3 = nI (wT w1) := q2.co.2.2.2.2.2.1
    have hT3 := q2.co.2.2.2.2.2.2.1
    rw [n_clamp (by omega)]
    refine wp_neg (show ¬ nI 1 = 0 by decide) (wp_and ((n_in (by omega)).2 (by omega)) (wp_and ((n_in (by omega)).2 (by omega)) ?_))
    obtain ⟨S1, e1⟩ : ∃ S1, S1 = rsA (rsA S0 45 n (nI r)) 46 n (nI 0) := ⟨_, rfl⟩
    rw [← e1]
    unfold O_begin_24 F_begin_24
    refine wp_call (noTimers_ok (by omega) (by omega)) (fun e2 => ?_)
    generalize f_noTimers N S1 (nI n) = S2 at e2 ⊢
    unfold O_begin_29 F_begin_29
    have nb : wp (o_notBeen N S2 (nI n)) (f_notBeen N S2 (nI n)) (fun S' => S' = rsA (rsA (rsA S2 49 n (nI 0)) 50 n (nI 0)) 51 n (nI 0)) := by
      show wp (O_notBeen_0 N (nI n) S2) (F_notBeen_0 N (nI n) S2) _
      unfold O_notBeen_0 F_notBeen_0 O_notBeen_14 F_notBeen_14
      rw [n_clamp (by omega)]
      exact wp_fin ⟨((n_in (by omega)).2 (by omega)), ((n_in (by omega)).2 (by omega)), ((n_in (by omega)).2 (by omega)), trivial⟩ rfl
    refine wp_call nb (fun e3 => ?_)
    generalize f_notBeen N S2 (nI n) = S3 at e3 ⊢
    unfold O_begin_34 F_begin_34
    have x3 : S3.1 3 = nI (wT w1) := by
      rw [e3, A_I, A_I, A_I, e2.1.i 3 (by decide), e1, A_I, A_I]
      exact hS3
    have x45 : S3.2.1 45 n = nI r := by
      rw [e3, A_other _ _ _ (by decide), A_other _ _ _ (by decide), A_other _ _ _ (by decide), e2.1.a 45 (by decide), e1, A_other _ _ _ (by decide), A_same, upd_same]
    have st : wp (o_setTimer N S3 (nI n) (nI 0)) (f_setTimer N S3 (nI n) (nI 0)) (fun S' => S' = rsA S3 52 (3 * n) (nI (wT w1 + 4 + r))) := by
      show wp (O_setTimer_0 N (nI n) (nI 0) S3) (F_setTimer_0 N (nI n) (nI 0) S3) _
      unfold O_setTimer_0 F_setTimer_0
      simp only [n_mul, n_add]
      rw [n_clamp (by omega), n_clamp (by omega), x3, x45]
      simp only [n_add]
      exact wp_fin ⟨((n_in (by omega)).2 (by omega)), ((n_in (by omega)).2 (by omega)), trivial⟩ rfl
    refine wp_call st (fun e4 => ?_)
    generalize f_setTimer N S3 (nI n) (nI 0) = S4 at e4 ⊢
    obtain ⟨R, fR⟩ := begin_new q2 hn (by omega) e1 e2 e3 e4
    have w1n : ∀ k, (k < 12 ∨ 15 < k) → k < 100 → (k < 2 ∨ k = 4 ∨ k = 5 ∨ 12 ≤ k) → wN (aNew w1 n r) n k = wN w n k := fun k a b c => by rw [aNew_N _ _ _ (Or.inr c), t1 n k a b]
    have n2 : wN (aNew w1 n r) n 2 = r := aNew_2 _ _ _
    have n12 : wN (aNew w1 n r) n 12 = wN w1 n 12 := aNew_N _ _ _ (by omega)
    have n15 : wN (aNew w1 n r) n 15 = wN w n 15 + 1 := by rw [aNew_N _ _ _ (by omega)]; exact t15.1
    have nY : wY (aNew w1 n r) = wY w := t2
    have nP : wP (aNew w1 n r) = wP w := t3
    have n1 := w1n 1 (by omega) (by omega) (by omega)
    have n5 := w1n 5 (by omega) (by omega) (by omega)
    have n17 := w1n 17 (by omega) (by omega) (by omega)
    generalize aNew w1 n r = w2 at R n1 n2 n5 n12 n15 n17 nY nP ⊢
    have e44 : S4.2.1 44 n = nI (wN w n 1).toNat := by
      have := R.num hn 1 (by decide) (by decide)
      rw [n1, ← Int.toNat_of_nonneg h1.1, iI_n] at this
      exact this
    have e48 : S4.2.1 48 n = iI (wN w n 5) := by
      have := R.num hn 5 (by decide) (by decide)
      rw [n5] at this
      exact this
    have eT : S4.1 0 = nI T := R.co.2.1
    unfold O_begin_40 F_begin_40
    have pr : o_proposer N S4 (S4.2.1 44 n) (nI r) ∧ f_proposer N S4 (S4.2.1 44 n) (nI r) = nI (((wN w n 1).toNat + r) % T) := by
      show wp (O_proposer_0 N (S4.2.1 44 n) (nI r) S4) (F_proposer_0 N (S4.2.1 44 n) (nI r) S4) (fun v => v = nI (((wN w n 1).toNat + r) % T))
      unfold O_proposer_0 F_proposer_0
      rw [e44, eT, n_add, n_mod' (by omega) (by omega)]
      exact wp_fin ⟨by rw [n_eq0 (by omega)]; omega, trivial⟩ rfl
    have md : ((wN w n 1).toNat + r) % T < T := Nat.mod_lt _ (by omega)
    rw [n_clamp (by omega), pr.2]
    refine wp_and ((n_in (by omega)).2 (by omega)) (wp_and pr.1 (wp_ite (fun c => ?_) (fun c => ?_))) <;> rw [n_eq' (by omega) (by omega)] at c
    rotate_left
    · rw [if_neg c]
      exact wp_fin trivial R
    rw [if_pos c, n_add]
    have hl := (R.l n hn).2
    rw [nY] at hl
    obtain ⟨a1, a2⟩ := isThere_ok (N := N) (p := 1131 + n) (by omega) hl
    rw [a2]
    refine wp_and a1 ?_
    cases hy : wY w n 1 0 with
    | none =>
      refine wp_pos rfl (wp_call (build_ok hN R hn (by rw [n1]; exact h1) (by rw [nP]; exact hpl)) (fun q => ?_))
      obtain ⟨b1, b2, b3⟩ := q
      generalize f_build N S4 (nI n) = S5 at b1 b2 ⊢
      unfold O_begin_91 F_begin_91
      rw [show (-1 : Int32) = iI (-1) from rfl]
      refine wp_call (propose_ok (v := -1) (i := i) hN (R.sf b1) hn (by omega) (by omega) (by omega) b2 b3 (by rw [n1]; exact h1) (by rw [n2]; omega) (by rw [n12]; exact t15.2) (by rw [n15]; omega) (by rw [n17]; exact hi) hi64 (by rw [nY, n2]; exact hfr)) (fun q => ?_)
      unfold O_begin_100 F_begin_100
      exact wp_fin trivial q.2.1
    | some b =>
      rw [hy] at hl
      rw [e48]
      refine wp_neg (show ¬ nI 1 = 0 by decide) (wp_and ((n_in (by omega)).2 (by omega)) (wp_call (propose_ok (v := wN w n 5) (i := i) hN R hn h5 (by omega) (by omega) hl.1 hl.2 (by rw [n1]; exact h1) (by rw [n2]; omega) (by rw [n12]; exact t15.2) (by rw [n15]; omega) (by rw [n17]; exact hi) hi64 (by rw [nY, n2]; exact hfr)) (fun q => ?_)))
      unfold O_begin_84 F_begin_84
      exact wp_fin trivial q.2.1
end
end

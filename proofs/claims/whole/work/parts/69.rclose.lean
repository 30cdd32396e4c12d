section
/-! A NOTE IS WRITTEN -/
/-- a frame; where a note was whole, little changed -/
def nfr (L : List Nat) (S : rS) (z : Int32 × rS) : Prop := rfr L S z.2 ∧ (z.1 = nI 1 → rfr [71, 72, 73, 74, 75, 76, 77, 78, 79] S z.2)
def nMny (t : List Nat) : Nat := (t.length + 511) / 512
def nTrn (w : Wd) (n : Nat) : Bool := decide (wN w n 12 = 1)
/-- sectors, their flags, the count of what was written, the cut's count -/
def aWr (w : Wd) (n : Nat) (t : List Nat) (first : Nat) : Wd := (fun n' k => if n' = n ∧ k = 12 then (if 0 < wN w n 12 then wN w n 12 - 1 else 0) else if n' = n ∧ k = 14 then wN w n 14 + (nMny t : Nat) - (if nTrn w n then 1 else 0) else if n' = n ∧ 100 + first ≤ k ∧ k < 100 + first + nMny t then (if nTrn w n = true ∧ k + 1 = 100 + first + nMny t then 0 else 1) else w.1 n' k, w.2.1, w.2.2.1, fun n' s i => if n' = n ∧ first ≤ s ∧ s < first + nMny t ∧ i < noS t.length (nTrn w n) (s - first) then bg (ntL t) (512 * (s - first) + i) else w.2.2.2.1 n' s i, w.2.2.2.2)
/-- a note is closed: false if it was cut, and the node has fallen -/
def aNote (w : Wd) (n : Nat) (t : List Nat) (first : Nat) : Bool × Wd := if nTrn w n then (false, aFall (aWr w n t first) n) else (true, sN (aWr w n t first) n 13 (wN w n 13 + 1))
theorem aWr_N (w : Wd) (n : Nat) (t : List Nat) (first : Nat) {m k : Nat} (h : m ≠ n ∨ (k ≠ 12 ∧ k ≠ 14 ∧ k < 100)) : wN (aWr w n t first) m k = wN w m k := by
  show (if m = n ∧ k = 12 then _ else if m = n ∧ k = 14 then _ else if m = n ∧ 100 + first ≤ k ∧ k < 100 + first + nMny t then _ else w.1 m k) = _
  rw [if_neg (by omega), if_neg (by omega), if_neg (by omega)]
  rfl
theorem aWr_12 (w : Wd) (n : Nat) (t : List Nat) (first : Nat) : wN (aWr w n t first) n 12 = if 0 < wN w n 12 then wN w n 12 - 1 else 0 := by
  show (if n = n ∧ 12 = 12 then _ else _) = _
  rw [if_pos (⟨rfl, rfl⟩ : n = n ∧ 12 = 12)]
theorem aWr_14 (w : Wd) (n : Nat) (t : List Nat) (first : Nat) : wN (aWr w n t first) n 14 = wN w n 14 + (nMny t : Nat) - (if nTrn w n then 1 else 0) := by
  show (if n = n ∧ 14 = 12 then _ else if n = n ∧ 14 = 14 then _ else _) = _
  rw [if_neg (show ¬ (n = n ∧ 14 = 12) by omega), if_pos (⟨rfl, rfl⟩ : n = n ∧ 14 = 14)]
theorem ntL_len (t : List Nat) : (ntL t).length = t.length := mkB_len _ _
theorem ntL_B {t : List Nat} (h : isB t) (hl : t.length < 65536) : isB (ntL t) := isB_mk fun i _ => by
  have := h i
  split
  · omega
  · split <;> omega
section
variable {N n F H T first : Nat} {S : rS} {w : Wd} {t : List Nat}
def cnL : List Nat := [14, 43, 52, 53, 55, 57, 60, 71, 73, 74, 75, 76, 77]
theorem closeNote_ok (hN : 1000 ≤ N) (h : rRp F H T S w) (hn : n < H) (ht : tB S t) (h8 : 8 ≤ t.length) (hfi : first + 2 ≤ 284) (hc : 0 ≤ wN w n 12 ∧ wN w n 12 ≤ 1000) : wp (o_closeNote N S (nI n) (nI first)) (f_closeNote N S (nI n) (nI first)) (fun z => nfr cnL S z ∧ rRp F H T z.2 (aNote w n t first).2 ∧ z.1 = nI (if (aNote w n t first).1 then 1 else 0)) := by
  have cb := h.1.1.b
  obtain ⟨t1, t2, t3, t4⟩ := ht
  have e75 : S.2.1 75 n = iI (wN w n 12) := h.n.at_ hn 12 (by decide) (by decide)
  have e77 : S.2.1 77 n = iI (wN w n 14) := h.n.at_ hn 14 (by decide) (by decide)
  have e76 : S.2.1 76 n = iI (wN w n 13) := h.n.at_ hn 13 (by decide) (by decide)
  show wp (O_closeNote_0 N (nI n) (nI first) S) (F_closeNote_0 N (nI n) (nI first) S) _
  unfold O_closeNote_0 F_closeNote_0
  rw [A_I, t1, n_sshr (by omega) (by omega), n_and]
  refine wp_and ((n_in (by omega)).2 (by omega)) (wp_and ((n_in (by omega)).2 (by omega)) ?_)
  have f1 : rfr [71] S (rsA (rsA S 71 (nI 4).toNatClampNeg (nI (t.length / 2 ^ 8))) 71 (nI 5).toNatClampNeg (nI (t.length % 256))) := (rfr.one (by decide)).trans (rfr.one (by decide))
  have tb : tB (rsA (rsA S 71 (nI 4).toNatClampNeg (nI (t.length / 2 ^ 8))) 71 (nI 5).toNatClampNeg (nI (t.length % 256))) (ntL t) := by
    refine ⟨by rw [A_I, A_I, ntL_len]; exact t1, by rw [ntL_len]; exact t2, fun i hi => ?_, ntL_B t4 (by omega)⟩
    rw [ntL_len] at hi
    unfold ntL
    rw [mkB_in hi, A_same, A_same, n_clamp (by omega), n_clamp (by omega)]
    by_cases c5 : i = 5
    · rw [c5, upd_same, if_neg (by decide), if_pos rfl]
    · rw [upd_other _ _ c5]
      by_cases c4 : i = 4
      · rw [c4, upd_same, if_pos rfl]
      · rw [upd_other _ _ c4, if_neg c4, if_neg c5]
        exact t3 i hi
  generalize rsA (rsA S 71 (nI 4).toNatClampNeg (nI (t.length / 2 ^ 8))) 71 (nI 5).toNatClampNeg (nI (t.length % 256)) = S1 at f1 tb ⊢
  have go : ∀ (x s2 : Int32), x = nI (if nTrn w n then 1 else 0) → s2 = iI (if 0 < wN w n 12 then wN w n 12 - 1 else 0) → wp (O_closeNote_69 N (nI n) (nI first) x (nI n) s2 S1) (F_closeNote_69 N (nI n) (nI first) x (nI n) s2 S1) (fun z => nfr cnL S z ∧ rRp F H T z.2 (aNote w n t first).2 ∧ z.1 = nI (if (aNote w n t first).1 then 1 else 0)) := by
    rintro x s2 rfl rfl
    unfold O_closeNote_69 F_closeNote_69
    rw [n_clamp (by omega)]
    refine wp_and ((n_in (by omega)).2 (by omega)) ?_
    have f2 : rfr [71, 75] S (rsA S1 75 n (iI (if 0 < wN w n 12 then wN w n 12 - 1 else 0))) := (f1.mono (by decide)).trans (rfr.one (by decide))
    have r75 : (rsA S1 75 n (iI (if 0 < wN w n 12 then wN w n 12 - 1 else 0))).2.1 75 = upd (S.2.1 75) n (iI (if 0 < wN w n 12 then wN w n 12 - 1 else 0)) := by rw [A_same, f1.a 75 (by decide)]
    have tb2 : tB (rsA S1 75 n (iI (if 0 < wN w n 12 then wN w n 12 - 1 else 0))) (ntL t) := tb.fr (L := [75]) (rfr.one (by decide)) (by decide) (by decide)
    generalize rsA S1 75 n (iI (if 0 < wN w n 12 then wN w n 12 - 1 else 0)) = S2 at f2 r75 tb2 ⊢
    rw [tb2.1, ntL_len, n_add, n_div' (by omega) (by omega)]
    have lp := closeNote_loop (N := N) (n := n) (S := S2) (t := ntL t) (first := first) (torn := nTrn w n) (x1 := nI n) tb2 (by rw [ntL_len]; exact h8) (by omega) hfi hN (v := wN w n 14) (by rw [f2.a 77 (by decide)]; exact e77)
    rw [ntL_len] at lp
    refine wp_seq lp ?_
    rintro z ⟨z0, z1, z2, z3⟩
    rw [z0]
    generalize z.2.2.2 = S3 at z1 z2 z3 ⊢
    show wp (O_closeNote_267 N (nI n) (nI (if nTrn w n then 1 else 0)) S3) (F_closeNote_267 N (nI n) (nI (if nTrn w n then 1 else 0)) S3) _
    have f3 : rfr [71, 73, 74, 75, 77] S S3 := (f2.mono (by decide)).trans (z1.mono (by decide))
    have r75' : S3.2.1 75 = upd (S.2.1 75) n (iI (if 0 < wN w n 12 then wN w n 12 - 1 else 0)) := by rw [z1.a 75 (by decide)]; exact r75
    have r77 : S3.2.1 77 = upd (S.2.1 77) n (iI (wN w n 14 + ((t.length + 511) / 512 : Nat) - (if nTrn w n then 1 else 0))) := by rw [z3, f2.a 77 (by decide)]
    obtain ⟨x1, x2⟩ := z2
    rw [ntL_len] at x1 x2
    have hR : rRp F H T S3 (aWr w n t first) := by
      refine ⟨h.co.fr f3 (by decide), h.sk.fr f3 (by decide), fun m k hm hk => ?_, fun m s hm hs => ?_, fun m s i hm hs hi => ?_, h.l.fr f3 (by decide) (by decide) (by decide), h.hd.fr f3 (by decide) (by decide) (by decide) (by decide), h.v.fr f3 (by decide) (by decide) (by decide) (by decide) (by decide), h.d.fr f3 (by decide) (by decide) (by decide), h.c.fr f3 (by decide) (by decide) (by decide), (h.g.fr f3 (by decide) (by decide) (by decide) (by decide)).cg (fun m hm => aWr_N _ _ _ _ (by omega)) (fun _ _ _ => rfl), h.p.fr f3 (by decide) (by decide), h.e.fr f3 (by decide) (by decide), h.s.fr f3 (by decide) (by decide), (h.k.fr f3 (by decide)).cg (fun m hm => aWr_N _ _ _ _ (by omega)) (fun m k hm h1 h2 => aWr_N _ _ _ _ (by omega)) (fun _ _ _ => rfl) (fun _ _ => rfl)⟩
      · have old := h.n m k hm hk
        by_cases k12 : k = 12
        · subst k12
          have old : S.2.1 75 m = iI (wN w m 12) := old
          show S3.2.1 75 m = iI (wN (aWr w n t first) m 12)
          rw [r75']
          by_cases e : m = n
          · rw [e, upd_same, aWr_12]
          · rw [upd_other _ _ e, aWr_N _ _ _ _ (Or.inl e)]
            exact old
        · by_cases k14 : k = 14
          · subst k14
            have old : S.2.1 77 m = iI (wN w m 14) := old
            show S3.2.1 77 m = iI (wN (aWr w n t first) m 14)
            rw [r77]
            by_cases e : m = n
            · rw [e, upd_same, aWr_14]
              rfl
            · rw [upd_other _ _ e, aWr_N _ _ _ _ (Or.inl e)]
              exact old
          · rw [aWr_N _ _ _ _ (by omega)]
            have : rna k ∉ [71, 73, 74, 75, 77] := by
              rcases (show k = 0 ∨ k = 1 ∨ k = 2 ∨ k = 3 ∨ k = 4 ∨ k = 5 ∨ k = 6 ∨ k = 7 ∨ k = 8 ∨ k = 9 ∨ k = 10 ∨ k = 11 ∨ k = 13 ∨ k = 15 ∨ k = 16 ∨ k = 17 by omega) with rfl | rfl | rfl | rfl | rfl | rfl | rfl | rfl | rfl | rfl | rfl | rfl | rfl | rfl | rfl | rfl <;> decide
            rw [f3.a _ this]
            exact old
      · have old := h.wh m s hm hs
        show S3.2.1 74 (284 * m + s) = iI (if m = n ∧ 100 + s = 12 then _ else if m = n ∧ 100 + s = 14 then _ else if m = n ∧ 100 + first ≤ 100 + s ∧ 100 + s < 100 + first + nMny t then _ else w.1 m (100 + s))
        have hm2 : nMny t ≤ 2 := by unfold nMny; omega
        rw [if_neg (by omega), if_neg (by omega), x2]
        by_cases c : m = n ∧ first ≤ s ∧ s < first + nMny t
        · have c1 : 284 * n + first ≤ 284 * m + s ∧ 284 * m + s < 284 * n + first + (t.length + 511) / 512 := by unfold nMny at c; omega
          have c2 : m = n ∧ 100 + first ≤ 100 + s ∧ 100 + s < 100 + first + nMny t := by omega
          rw [if_pos c1, if_pos c2]
          by_cases c3 : nTrn w n = true ∧ 100 + s + 1 = 100 + first + nMny t
          · have c4 : nTrn w n = true ∧ 284 * m + s + 1 = 284 * n + first + (t.length + 511) / 512 := ⟨c3.1, by unfold nMny at c3; omega⟩
            rw [if_pos c3, if_pos c4]
            rfl
          · have c4 : ¬ (nTrn w n = true ∧ 284 * m + s + 1 = 284 * n + first + (t.length + 511) / 512) := fun z => c3 ⟨z.1, by unfold nMny; omega⟩
            rw [if_neg c3, if_neg c4]
            rfl
        · have c1 : ¬ (284 * n + first ≤ 284 * m + s ∧ 284 * m + s < 284 * n + first + (t.length + 511) / 512) := by unfold nMny at c hm2; omega
          have c2 : ¬ (m = n ∧ 100 + first ≤ 100 + s ∧ 100 + s < 100 + first + nMny t) := by omega
          rw [if_neg c1, if_neg c2, f2.a 74 (by decide)]
          exact old
      · have old := h.x m s i hm hs hi
        have hm2 : nMny t ≤ 2 := by unfold nMny; omega
        show lby (S3.2.2 73) (512 * (284 * m + s) + i) = nI (if m = n ∧ first ≤ s ∧ s < first + nMny t ∧ i < noS t.length (nTrn w n) (s - first) then bg (ntL t) (512 * (s - first) + i) else w.2.2.2.1 m s i) ∧ (if m = n ∧ first ≤ s ∧ s < first + nMny t ∧ i < noS t.length (nTrn w n) (s - first) then bg (ntL t) (512 * (s - first) + i) else w.2.2.2.1 m s i) < 256
        rw [x1, show (512 * (284 * m + s) + i) / 512 = 284 * m + s by omega, show (512 * (284 * m + s) + i) % 512 = i by omega]
        by_cases c : m = n ∧ first ≤ s ∧ s < first + nMny t
        · have c0 : 284 * m + s - (284 * n + first) = s - first := by omega
          rw [c0]
          by_cases c1 : i < noS t.length (nTrn w n) (s - first)
          · have c2 : 284 * n + first ≤ 284 * m + s ∧ 284 * m + s < 284 * n + first + (t.length + 511) / 512 ∧ i < noS t.length (nTrn w n) (s - first) := by unfold nMny at c; omega
            have c3 : m = n ∧ first ≤ s ∧ s < first + nMny t ∧ i < noS t.length (nTrn w n) (s - first) := ⟨c.1, c.2.1, c.2.2, c1⟩
            rw [if_pos c2, if_pos c3]
            exact ⟨rfl, ntL_B t4 (by omega) _⟩
          · rw [if_neg (fun z => c1 z.2.2), if_neg (fun z => c1 z.2.2.2), f2.l 73 (by decide)]
            exact old
        · have c1 : ¬ (284 * n + first ≤ 284 * m + s ∧ 284 * m + s < 284 * n + first + (t.length + 511) / 512) := by unfold nMny at c hm2; omega
          rw [if_neg (fun z => c1 ⟨z.1, z.2.1⟩), if_neg (fun z => c ⟨z.1, z.2.1, z.2.2.1⟩), f2.l 73 (by decide)]
          exact old
    unfold O_closeNote_267 F_closeNote_267 aNote
    cases hb : nTrn w n with
    | false =>
      rw [n_clamp (by omega), f3.a 76 (by decide), e76, ← iI_n 1, iI_add]
      refine wp_pos rfl (wp_and ((n_in (by omega)).2 (by omega)) (wp_and ((n_in (by omega)).2 (by omega)) (wp_fin trivial ⟨⟨(f3.mono (by decide)).trans (rfr.one (by decide)), fun _ => (f3.mono (by decide)).trans (rfr.one (by decide))⟩, ?_, rfl⟩)))
      show rRp F H T (rsA S3 76 n (iI (wN w n 13 + 1))) (sN (aWr w n t first) n 13 (wN w n 13 + 1))
      have f4 : rfr [76] S3 (rsA S3 76 n (iI (wN w n 13 + 1))) := rfr.one (by decide)
      refine ⟨hR.co.fr f4 (by decide), hR.sk.fr f4 (by decide), fun m k hm hk => ?_, (hR.wh.fr f4 (by decide)).cg (fun m k hm h1 h2 => N_o _ _ _ _ (by omega)), hR.x.fr f4 (by decide), hR.l.fr f4 (by decide) (by decide) (by decide), hR.hd.fr f4 (by decide) (by decide) (by decide) (by decide), hR.v.fr f4 (by decide) (by decide) (by decide) (by decide) (by decide), hR.d.fr f4 (by decide) (by decide) (by decide), hR.c.fr f4 (by decide) (by decide) (by decide), (hR.g.fr f4 (by decide) (by decide) (by decide) (by decide)).cg (fun m hm => N_o _ _ _ _ (by omega)) (fun _ _ _ => rfl), hR.p.fr f4 (by decide) (by decide), hR.e.fr f4 (by decide) (by decide), hR.s.fr f4 (by decide) (by decide), (hR.k.fr f4 (by decide)).cg (fun m hm => N_o _ _ _ _ (by omega)) (fun m k hm h1 h2 => N_o _ _ _ _ (by omega)) (fun _ _ _ => rfl) (fun _ _ => rfl)⟩
      have old := hR.n m k hm hk
      by_cases k13 : k = 13
      · subst k13
        have old : S3.2.1 76 m = iI (wN (aWr w n t first) m 13) := old
        show (rsA S3 76 n (iI (wN w n 13 + 1))).2.1 76 m = _
        rw [A_same]
        by_cases e : m = n
        · rw [e, upd_same, N_s]
        · rw [upd_other _ _ e, N_o _ _ _ _ (Or.inl e)]
          exact old
      · rw [N_o _ _ _ _ (Or.inr k13)]
        have : rna k ∉ [76] := by
          rcases (show k = 0 ∨ k = 1 ∨ k = 2 ∨ k = 3 ∨ k = 4 ∨ k = 5 ∨ k = 6 ∨ k = 7 ∨ k = 8 ∨ k = 9 ∨ k = 10 ∨ k = 11 ∨ k = 12 ∨ k = 14 ∨ k = 15 ∨ k = 16 ∨ k = 17 by omega) with rfl | rfl | rfl | rfl | rfl | rfl | rfl | rfl | rfl | rfl | rfl | rfl | rfl | rfl | rfl | rfl | rfl <;> decide
        rw [f4.a _ this]
        exact old
    | true =>
      refine wp_neg (show ¬ nI 1 = 0 by decide) (wp_call (fall_ok hN hR hn) (fun q => ?_))
      exact wp_fin trivial ⟨⟨(f3.mono (by decide)).trans (q.1.mono (by decide)), fun z => absurd z (show ¬ nI 0 = nI 1 by decide)⟩, q.2, rfl⟩
  have e75' : S1.2.1 75 (nI n).toNatClampNeg = iI (wN w n 12) := by rw [n_clamp (by omega), f1.a 75 (by decide)]; exact e75
  have k42 : ∀ x : Int32, x = nI (if nTrn w n then 1 else 0) → wp (O_closeNote_42 N (nI n) (nI first) x S1) (F_closeNote_42 N (nI n) (nI first) x S1) (fun z => nfr cnL S z ∧ rRp F H T z.2 (aNote w n t first).2 ∧ z.1 = nI (if (aNote w n t first).1 then 1 else 0)) := by
    intro x hx
    unfold O_closeNote_42 F_closeNote_42
    rw [e75']
    refine wp_and ((n_in (by omega)).2 (by omega)) (wp_ite (fun c => ?_) (fun c => ?_)) <;> rw [show (0 : Int32) = iI 0 from rfl, iI_le (by omega) (by omega) (by omega) (by omega)] at c
    · exact go _ _ hx (by rw [if_neg (by omega)]; rfl)
    · refine wp_and ((n_in (by omega)).2 (by omega)) (go _ _ hx ?_)
      rw [if_pos (by omega), ← iI_n 1, iI_sub]
      rfl
  unfold O_closeNote_27 F_closeNote_27
  rw [e75']
  refine wp_and ((n_in (by omega)).2 (by omega)) (wp_ite (fun c => ?_) (fun c => ?_)) <;> rw [← iI_n 1, iI_eq (by omega) (by omega) (by omega) (by omega)] at c
  · exact k42 _ (by unfold nTrn; rw [if_pos (by simpa using c)])
  · exact k42 _ (by unfold nTrn; rw [if_neg (by simpa using c)])
end
end

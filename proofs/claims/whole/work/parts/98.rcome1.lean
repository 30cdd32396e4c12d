section
/-! THE REFERENCE KEEPS PROOFS AND SNAPSHOTS, ASKS, ANSWERS -/
section
variable {N n F H T : Nat} {S S1 : rS} {w : Wd}
theorem rRp.by23 {f i : Nat} {o : Option (List Nat)} (h : rRp F H T S w) (hf : f = 2 ∨ f = 3) (fr : rfr [55, 56, 57, 58] S S1) (hE : jE H S1 (wY (sBy w n f i o))) (hS : jS H S1 (wY (sBy w n f i o))) : rRp F H T S1 (sBy w n f i o) := by
  have y : ∀ m g j, g ≠ 2 → g ≠ 3 → wY (sBy w n f i o) m g j = wY w m g j := fun m g j a b => B_o _ _ _ _ _ (by omega)
  exact ⟨h.co.fr fr (by decide), h.sk.fr fr (by decide), h.n.fr fr (by decide), h.wh.fr fr (by decide), h.x.fr fr (by decide), (h.l.fr fr (by decide) (by decide) (by decide)).cg (fun m hm => ⟨y m 0 0 (by decide) (by decide), y m 1 0 (by decide) (by decide)⟩), (h.hd.fr fr (by decide) (by decide) (by decide) (by decide)).cg (fun m q hm hq => y m 4 q (by decide) (by decide)), (h.v.fr fr (by decide) (by decide) (by decide) (by decide) (by decide)).cg (fun m q hm hq => y m 5 q (by decide) (by decide)), (h.d.fr fr (by decide) (by decide) (by decide)).cg (fun m q hm hq => y m 6 q (by decide) (by decide)), (h.c.fr fr (by decide) (by decide) (by decide)).cg (fun m q hm hq => y m 7 q (by decide) (by decide)), (h.g.fr fr (by decide) (by decide) (by decide) (by decide)).cg (fun m hm => rfl) (fun m q hm => y m 8 q (by decide) (by decide)), h.p.fr fr (by decide) (by decide), hE, hS, (h.k.fr fr (by decide)).cg (fun m hm => rfl) (fun m k hm a b => rfl) (fun m q hm => y m 7 q (by decide) (by decide)) (fun m hm => y m 9 0 (by decide) (by decide))⟩
/-- a proof is kept, the first of its signer -/
def aKp (w : Wd) (n : Nat) (m : List Nat) : Bool × Wd := match wY w n 2 (bg m 1) with
  | none => (true, sBy w n 2 (bg m 1) (some m))
  | some _ => (false, w)
theorem keepProof_ok {m : List Nat} (hN : 1000 ≤ N) (h : rRp F H T S w) (hn : n < H) (hm : mB S m) (hs : bg m 1 < 13) (hl : 2 ≤ m.length) (hl2 : m.length ≤ 72) : wp (o_keepProof N S (nI n)) (f_keepProof N S (nI n)) (fun z => rfr [55, 56] S z.2 ∧ rRp F H T z.2 (aKp w n m).2 ∧ z.1 = nI (if (aKp w n m).1 then 1 else 0)) := by
  have cb := h.1.1.b
  have e1 := hm.at_ (i := 1) (by omega)
  have he := h.e n (bg m 1) hn hs
  show wp (O_keepProof_0 N (nI n) S) (F_keepProof_0 N (nI n) S) _
  unfold O_keepProof_0 F_keepProof_0 aKp
  rw [e1]
  simp only [n_mul, n_add]
  rw [n_clamp (by omega), hm.1, n_sub (by omega)]
  obtain ⟨p, hp⟩ : ∃ p, p = 13 * n + bg m 1 := ⟨_, rfl⟩
  rw [← hp] at he ⊢
  cases hy : wY w n 2 (bg m 1) with
  | some y =>
    rw [hy] at he
    obtain ⟨a1, a2, a3, _⟩ := he
    rw [a1]
    refine wp_and ((n_in (by omega)).2 (by omega)) (wp_and ((n_in (by omega)).2 (by omega)) (wp_neg (by rw [n_le0 (by omega)]; omega) ?_))
    exact wp_fin trivial ⟨rfr.refl, h, rfl⟩
  | none =>
    rw [hy] at he
    have he : S.2.1 55 p = nI 0 := he
    rw [he]
    refine wp_and ((n_in (by omega)).2 (by omega)) (wp_and ((n_in (by omega)).2 (by omega)) (wp_pos (by decide) (wp_and ((n_in (by omega)).2 (by omega)) ?_)))
    have g1 : rfr [55, 56] S (rsA S 55 p (nI (m.length - 1))) := rfr.one (by decide)
    have g2 : (rsA S 55 p (nI (m.length - 1))).2.1 55 = upd (S.2.1 55) p (nI (m.length - 1)) := A_same _ _ _ _
    have g3 : (rsA S 55 p (nI (m.length - 1))).2.1 56 = S.2.1 56 := A_other _ _ _ (by decide)
    generalize rsA S 55 p (nI (m.length - 1)) = S0 at g1 g2 g3 ⊢
    refine wp_seq (Q := fun z : Nat × rS => rfr [55, 56] S z.2 ∧ z.2.2.1 55 = upd (S.2.1 55) p (nI (m.length - 1)) ∧ ∀ x, z.2.2.1 56 x = if 71 * p ≤ x ∧ x < 71 * p + (m.length - 1) then nI (bg m (x - 71 * p + 1)) else S.2.1 56 x) ?_ ?_
    · refine wp_loop (K := m.length) (fun j y => 1 ≤ j ∧ rfr [55, 56] S y ∧ y.2.1 55 = upd (S.2.1 55) p (nI (m.length - 1)) ∧ ∀ x, y.2.1 56 x = if 71 * p ≤ x ∧ x < 71 * p + (j - 1) then nI (bg m (x - 71 * p + 1)) else S.2.1 56 x) (fun q j y => OL_keepProof_37 N q (nI p) (nI j) y) (fun q j y => L_keepProof_37 N q (nI p) (nI j) y) (fun q j y hj hI ih => ?_) 1 N S0 (by omega) (by omega) ⟨Nat.le_refl _, g1, g2, fun x => by rw [g3, if_neg (by omega)]⟩
      obtain ⟨h0, hI1, hI2, hI3⟩ := hI
      unfold OL_keepProof_37 L_keepProof_37 OB_keepProof_37 B_keepProof_37
      have my := hm.fr hI1 (by decide) (by decide)
      rw [my.1]
      by_cases e : j = m.length
      · refine wp_pos (by rw [n_le' (by omega) (by omega)]; omega) ?_
        refine wp_fin trivial ⟨hI1, hI2, fun x => ?_⟩
        rw [hI3 x, e]
      have ej := my.at_ (i := j) (by omega)
      rw [n_mul, n_add, n_add, n_sub (by omega), n_clamp (by omega), ej]
      refine wp_neg (by rw [n_le' (by omega) (by omega)]; omega) (wp_and ((n_in (by omega)).2 (by omega)) (wp_and ((n_in (by omega)).2 (by omega)) (ih _ ⟨(by omega), hI1.trans (rfr.one (by decide)), by rw [A_other _ _ _ (by decide)]; exact hI2, fun x => ?_⟩ (by omega))))
      rw [A_same]
      by_cases c : x = 71 * p + j - 1
      · rw [c, upd_same, if_pos (by omega)]
        congr 2
        omega
      · rw [upd_other _ _ c, hI3 x]
        by_cases c2 : 71 * p ≤ x ∧ x < 71 * p + (j - 1)
        · rw [if_pos c2, if_pos (by omega)]
        · rw [if_neg c2, if_neg (by omega)]
    · rintro z ⟨z1, z2, z3⟩
      unfold OA_keepProof_37 A_keepProof_37 O_keepProof_70 F_keepProof_70
      refine wp_fin trivial ⟨z1, ?_, rfl⟩
      show rRp F H T z.2 (sBy w n 2 (bg m 1) (some m))
      refine h.by23 (Or.inl rfl) (z1.mono (by decide)) (fun m' s hm' hs' => ?_) ?_
      · by_cases c : m' = n ∧ s = bg m 1
        · rw [c.1, c.2, B_s, ← hp]
          refine ⟨by rw [z2, upd_same], hl, hl2, hm.2.2.2, fun i hi => ?_⟩
          rw [z3, if_pos (by omega)]
          congr 2
          omega
        · rw [B_o _ _ _ _ _ (by omega)]
          have old := h.e m' s hm' hs'
          have ne : 13 * m' + s ≠ p := by omega
          cases hy' : wY w m' 2 s with
          | none =>
            rw [hy'] at old
            show z.2.2.1 55 (13 * m' + s) = nI 0
            rw [z2, upd_other _ _ ne]
            exact old
          | some y =>
            rw [hy'] at old
            obtain ⟨o1, o2, o3, o4, o5⟩ := old
            refine ⟨by rw [z2, upd_other _ _ ne]; exact o1, o2, o3, o4, fun i hi => ?_⟩
            rw [z3, if_neg (by omega)]
            exact o5 i hi
      · exact (h.s.fr z1 (by decide) (by decide)).cg (fun m' q hm' hq => B_o _ _ _ _ _ (by omega))
/-- a snapshot is kept, the newest of its sender -/
theorem keepSnap_ok {s : Nat} {m : List Nat} (hN : 1000 ≤ N) (h : rRp F H T S w) (hn : n < H) (hm : mB S m) (hs : s < 13) (hl : m.length = 115) (h38 : S.1 38 = nI (tw m 1)) (ht : 1 ≤ tw m 1) : wp (o_keepSnap N S (nI (13 * n + s))) (f_keepSnap N S (nI (13 * n + s))) (fun S' => rfr [57, 58] S S' ∧ rRp F H T S' (sBy w n 3 s (some m))) := by
  have cb := h.1.1.b
  show wp (O_keepSnap_0 N (nI (13 * n + s)) S) (F_keepSnap_0 N (nI (13 * n + s)) S) _
  unfold O_keepSnap_0 F_keepSnap_0
  obtain ⟨p, hp⟩ : ∃ p, p = 13 * n + s := ⟨_, rfl⟩
  rw [← hp, n_clamp (by omega), h38]
  have g1 : rfr [57, 58] S (rsA S 57 p (nI (tw m 1))) := rfr.one (by decide)
  have g2 : (rsA S 57 p (nI (tw m 1))).2.1 57 = upd (S.2.1 57) p (nI (tw m 1)) := A_same _ _ _ _
  have g3 : (rsA S 57 p (nI (tw m 1))).2.1 58 = S.2.1 58 := A_other _ _ _ (by decide)
  generalize rsA S 57 p (nI (tw m 1)) = S0 at g1 g2 g3 ⊢
  refine wp_and ((n_in (by omega)).2 (by omega)) (wp_seq (Q := fun z : Nat × rS => rfr [57, 58] S z.2 ∧ z.2.2.1 57 = upd (S.2.1 57) p (nI (tw m 1)) ∧ ∀ x, z.2.2.1 58 x = if 115 * p ≤ x ∧ x < 115 * p + 115 then nI (bg m (x - 115 * p)) else S.2.1 58 x) ?_ ?_)
  · refine wp_loop (K := 115) (fun j y => rfr [57, 58] S y ∧ y.2.1 57 = upd (S.2.1 57) p (nI (tw m 1)) ∧ ∀ x, y.2.1 58 x = if 115 * p ≤ x ∧ x < 115 * p + j then nI (bg m (x - 115 * p)) else S.2.1 58 x) (fun q j y => OL_keepSnap_12 N q (nI p) (nI j) y) (fun q j y => L_keepSnap_12 N q (nI p) (nI j) y) (fun q j y hj hI ih => ?_) 0 N S0 (by omega) (by omega) ⟨g1, g2, fun x => by rw [g3, if_neg (by omega)]⟩
    unfold OL_keepSnap_12 L_keepSnap_12 OB_keepSnap_12 B_keepSnap_12
    by_cases e : j = 115
    · refine wp_pos (by rw [n_le' (by omega) (by omega)]; omega) ?_
      subst e
      exact wp_fin trivial hI
    have my := hm.fr hI.1 (by decide) (by decide)
    have ej := my.at_ (i := j) (by omega)
    rw [n_mul, n_add, n_add, n_clamp (by omega), ej]
    refine wp_neg (by rw [n_le' (by omega) (by omega)]; omega) (wp_and ((n_in (by omega)).2 (by omega)) (wp_and ((n_in (by omega)).2 (by omega)) (ih _ ⟨hI.1.trans (rfr.one (by decide)), by rw [A_other _ _ _ (by decide)]; exact hI.2.1, fun x => ?_⟩ (by omega))))
    rw [A_same]
    by_cases c : x = 115 * p + j
    · rw [c, upd_same, if_pos (by omega)]
      congr 2
      omega
    · rw [upd_other _ _ c, hI.2.2 x]
      by_cases c2 : 115 * p ≤ x ∧ x < 115 * p + j
      · rw [if_pos c2, if_pos (by omega)]
      · rw [if_neg c2, if_neg (by omega)]
  · rintro z ⟨z1, z2, z3⟩
    unfold OA_keepSnap_12 A_keepSnap_12 O_keepSnap_41 F_keepSnap_41
    refine wp_fin trivial ⟨z1, h.by23 (Or.inr rfl) (z1.mono (by decide)) ?_ (fun m' q hm' hq => ?_)⟩
    · exact (h.e.fr z1 (by decide) (by decide)).cg (fun m' q hm' hq => B_o _ _ _ _ _ (by omega))
    · by_cases c : m' = n ∧ q = s
      · rw [c.1, c.2, B_s, ← hp]
        refine ⟨by rw [z2, upd_same], ht, hl, hm.2.2.2, fun i hi => ?_⟩
        rw [z3, if_pos (by omega)]
        congr 2
        omega
      · rw [B_o _ _ _ _ _ (by omega)]
        have old := h.s m' q hm' hq
        have ne : 13 * m' + q ≠ p := by omega
        cases hy' : wY w m' 3 q with
        | none =>
          rw [hy'] at old
          show z.2.2.1 57 (13 * m' + q) = nI 0
          rw [z2, upd_other _ _ ne]
          exact old
        | some y =>
          rw [hy'] at old
          obtain ⟨o1, o2, o3, o4, o5⟩ := old
          refine ⟨by rw [z2, upd_other _ _ ne]; exact o1, o2, o3, o4, fun i hi => ?_⟩
          rw [z3, if_neg (by omega)]
          exact o5 i hi
/-- one message to one node -/
def aPost (w : Wd) (f t : Nat) (m : List Nat) : Wd := sK w (pst (wK w) (f, t, wT w, m))
theorem writeAsk_ok (h : rRp F H T S w) (hn : n < H) (h1 : 0 ≤ wN w n 1 ∧ wN w n 1 ≤ 41) : wp (o_writeAsk N S (nI n)) (f_writeAsk N S (nI n)) (fun S' => rfr [32, 33] S S' ∧ mB S' (asB (wN w n 1).toNat)) := by
  have cb := h.1.1.b
  have e44 : S.2.1 44 n = nI (wN w n 1).toNat := h.hN hn (k := 1) (by decide) (by decide) h1.1
  show wp (O_writeAsk_0 N (nI n) S) (F_writeAsk_0 N (nI n) S) _
  unfold O_writeAsk_0 F_writeAsk_0
  refine wp_call (writeN_ok (x := 5) (by omega) mB0 (by simp)) (fun q => ?_)
  obtain ⟨q1, q2⟩ := q
  have q1 : rfr [32, 33] S _ := (rfr.oneI (L := [32, 33]) (by decide)).trans q1
  generalize f_write N (rsI S 33 (nI 0)) (nI 5) = S1 at q1 q2 ⊢
  unfold O_writeAsk_10 F_writeAsk_10
  rw [n_clamp (by omega), q1.a 44 (by decide), e44]
  exact wp_and ((n_in (by omega)).2 (by omega)) (wp_call (writeTwo_ok (v := (wN w n 1).toNat) (by omega) q2 (by simp)) (fun r => wp_fin trivial ⟨q1.trans r.1, r.2⟩))
/-- a node asks another; the message that came stays -/
theorem ask_ok {t : Nat} {m : List Nat} (hN : 2000 ≤ N) (h : rRp F H T S w) (hn : n < H) (ht : t < 13) (hm : mB S m) (h1 : 0 ≤ wN w n 1 ∧ wN w n 1 ≤ 41) : wp (o_ask N S (nI n) (nI t)) (f_ask N S (nI n) (nI t)) (fun S' => rfr ([32, 33, 34, 35] ++ skL) S S' ∧ mB S' m ∧ rRp F H T S' (aPost w n t (asB (wN w n 1).toNat))) := by
  have cb := h.1.1.b
  have ml := hm.2.1
  show wp (O_ask_0 N (nI n) (nI t) S) (F_ask_0 N (nI n) (nI t) S) _
  unfold O_ask_0 F_ask_0
  rw [hm.1]
  have g1 : rfr [34, 35] S (rsI S 35 (nI m.length)) := rfr.oneI (by decide)
  have g2 : (rsI S 35 (nI m.length)).1 35 = nI m.length := I_same _ _ _
  generalize rsI S 35 (nI m.length) = S0 at g1 g2 ⊢
  refine wp_seq (Q := fun z : Nat × Int32 × Int32 × rS => z = (0, nI n, nI t, z.2.2.2) ∧ rfr [34, 35] S z.2.2.2 ∧ z.2.2.2.1 35 = nI m.length ∧ ∀ i, i < m.length → z.2.2.2.2.1 34 i = nI (bg m i)) ?_ ?_
  · refine wp_loop (K := m.length) (fun j y => rfr [34, 35] S y ∧ y.1 35 = nI m.length ∧ ∀ i, i < j → y.2.1 34 i = nI (bg m i)) (fun q j y => OL_ask_10 N q (nI n) (nI t) (nI j) y) (fun q j y => L_ask_10 N q (nI n) (nI t) (nI j) y) (fun q j y hj hI ih => ?_) 0 N S0 (by omega) (by omega) ⟨g1, g2, fun i hi => absurd hi (by omega)⟩
    unfold OL_ask_10 L_ask_10 OB_ask_10 B_ask_10
    rw [hI.2.1]
    by_cases e : j = m.length
    · refine wp_pos (by rw [n_le' (by omega) (by omega)]; omega) ?_
      exact wp_fin trivial ⟨rfl, hI.1, hI.2.1, fun i hi => hI.2.2 i (by omega)⟩
    have my := hm.fr hI.1 (by decide) (by decide)
    have ej := my.at_ (i := j) (by omega)
    rw [ej, n_clamp (by omega), n_add]
    refine wp_neg (by rw [n_le' (by omega) (by omega)]; omega) (wp_and ((n_in (by omega)).2 (by omega)) (wp_and ((n_in (by omega)).2 (by omega)) (ih _ ⟨hI.1.trans (rfr.one (by decide)), hI.2.1, fun i hi => ?_⟩ (by omega))))
    rw [A_same]
    by_cases c : i = j
    · rw [c, upd_same]
    · rw [upd_other _ _ c]
      exact hI.2.2 i (by omega)
  rintro z ⟨z0, z1, z2, z3⟩
  rw [z0]
  generalize z.2.2.2 = S2 at z1 z2 z3 ⊢
  show wp (O_ask_36 N (nI n) (nI t) S2) (F_ask_36 N (nI n) (nI t) S2) _
  unfold O_ask_36 F_ask_36
  have R2 : rRp F H T S2 w := h.sf (z1.sf (by decide) (by decide) (by decide) (by decide))
  refine wp_call (writeAsk_ok R2 hn h1) (fun q => ?_)
  obtain ⟨q1, q2⟩ := q
  generalize f_writeAsk N S2 (nI n) = S3 at q1 q2 ⊢
  have R3 : rRp F H T S3 w := R2.sf (q1.sf (by decide) (by decide) (by decide) (by decide))
  unfold O_ask_41 F_ask_41
  refine wp_call (fly_ok (tk := wT w) (by omega) q2 (by show 1 ≤ 3; decide) R3.sk R3.co.2.2.2.2.2.1 (by omega) ht (by have := R3.co.2.2.2.2.2.2.1; omega)) (fun r => ?_)
  obtain ⟨r1, r2, r3⟩ := r
  generalize f_fly N S3 (nI n) (nI t) = y at r1 r2 r3 ⊢
  have R4 : rRp F H T y.2 (aPost w n t (asB (wN w n 1).toNat)) := R3.sky r1 r2
  have f4 : rfr ([32, 33, 34, 35] ++ skL) S y.2 := ((z1.mono (by decide)).trans (q1.mono (by decide))).trans (r1.mono (by decide))
  have k35 : y.2.1 35 = nI m.length := by rw [r1.i 35 (by decide), q1.i 35 (by decide)]; exact z2
  have k34 : ∀ i, i < m.length → y.2.2.1 34 i = nI (bg m i) := fun i hi => by rw [r1.a 34 (by decide), q1.a 34 (by decide)]; exact z3 i hi
  generalize y.2 = S4 at R4 f4 k35 k34 ⊢
  unfold O_ask_47 F_ask_47
  rw [k35]
  have i1 : rfr [32, 33] S4 (rsI S4 33 (nI m.length)) := rfr.oneI (by decide)
  have i2 : (rsI S4 33 (nI m.length)).1 33 = nI m.length := I_same _ _ _
  generalize rsI S4 33 (nI m.length) = S5 at i1 i2 ⊢
  refine wp_seq (Q := fun z : Nat × rS => rfr [32, 33] S4 z.2 ∧ z.2.1 33 = nI m.length ∧ ∀ i, i < m.length → z.2.2.1 32 i = nI (bg m i)) ?_ ?_
  · refine wp_loop (K := m.length) (fun j y => rfr [32, 33] S4 y ∧ y.1 33 = nI m.length ∧ ∀ i, i < j → y.2.1 32 i = nI (bg m i)) (fun q j y => OL_ask_58 N q (nI j) y) (fun q j y => L_ask_58 N q (nI j) y) (fun q j y hj hI ih => ?_) 0 N S5 (by omega) (by omega) ⟨i1, i2, fun i hi => absurd hi (by omega)⟩
    unfold OL_ask_58 L_ask_58 OB_ask_58 B_ask_58
    rw [hI.1.i 35 (by decide), k35]
    by_cases e : j = m.length
    · refine wp_pos (by rw [n_le' (by omega) (by omega)]; omega) ?_
      exact wp_fin trivial ⟨hI.1, hI.2.1, fun i hi => hI.2.2 i (by omega)⟩
    rw [n_clamp (by omega), n_add, hI.1.a 34 (by decide), k34 j (by omega)]
    refine wp_neg (by rw [n_le' (by omega) (by omega)]; omega) (wp_and ((n_in (by omega)).2 (by omega)) (wp_and ((n_in (by omega)).2 (by omega)) (ih _ ⟨hI.1.trans (rfr.one (by decide)), hI.2.1, fun i hi => ?_⟩ (by omega))))
    rw [A_same]
    by_cases c : i = j
    · rw [c, upd_same]
    · rw [upd_other _ _ c]
      exact hI.2.2 i (by omega)
  rintro z ⟨z1, z2, z3⟩
  unfold OA_ask_58 A_ask_58 O_ask_84 F_ask_84
  exact wp_fin trivial ⟨f4.trans (z1.mono (by decide)), ⟨z2, hm.2.1, z3, hm.2.2.2⟩, R4.sf (z1.sf (by decide) (by decide) (by decide) (by decide))⟩
end
end

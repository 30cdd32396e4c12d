section
/-! CLAUSES AND WHAT THEY DEPEND ON; a node of the reference falls; a note is closed -/
section
variable {T H : Nat} {S : rS} {v v' : Nat → Nat → Int} {b b' : Nat → Nat → Nat → Option (List Nat)}
theorem jN.cg (h : jN H S v) (e : ∀ n k, n < H → k < 18 → v' n k = v n k) : jN H S v' := fun n k hn hk => by rw [e n k hn hk]; exact h n k hn hk
theorem jW.cg (h : jW H S v) (e : ∀ n k, n < H → 100 ≤ k → k < 384 → v' n k = v n k) : jW H S v' := fun n s hn hs => by rw [e n (100 + s) hn (by omega) (by omega)]; exact h n s hn hs
theorem jL.cg (h : jL H S b) (e : ∀ n, n < H → b' n 0 0 = b n 0 0 ∧ b' n 1 0 = b n 1 0) : jL H S b' := fun n hn => by rw [(e n hn).1, (e n hn).2]; exact h n hn
theorem jH.cg (h : jH H S b) (e : ∀ n q, n < H → q < 32 → b' n 4 q = b n 4 q) : jH H S b' := fun n q hn hq => by rw [e n q hn hq]; exact h n q hn hq
theorem jV.cg (h : jV H S b) (e : ∀ n q, n < H → q < 832 → b' n 5 q = b n 5 q) : jV H S b' := fun n q hn hq => by rw [e n q hn hq]; exact h n q hn hq
theorem jD.cg (h : jD H S b) (e : ∀ n q, n < H → q < 13 → b' n 6 q = b n 6 q) : jD H S b' := fun n q hn hq => by rw [e n q hn hq]; exact h n q hn hq
theorem jC.cg (h : jC H S b) (e : ∀ n q, n < H → q < 41 → b' n 7 q = b n 7 q) : jC H S b' := fun n q hn hq => by rw [e n q hn hq]; exact h n q hn hq
theorem jE.cg (h : jE H S b) (e : ∀ n q, n < H → q < 13 → b' n 2 q = b n 2 q) : jE H S b' := fun n q hn hq => by rw [e n q hn hq]; exact h n q hn hq
theorem jS.cg (h : jS H S b) (e : ∀ n q, n < H → q < 13 → b' n 3 q = b n 3 q) : jS H S b' := fun n q hn hq => by rw [e n q hn hq]; exact h n q hn hq
theorem jG.cg (h : jG H S v b) (e : ∀ n, n < H → v' n 17 = v n 17) (e2 : ∀ n i, n < H → b' n 8 i = b n 8 i) : jG H S v' b' := fun n i hn hi => by
  rw [e n hn] at hi
  rw [e2 n i hn]
  exact h n i hn hi
theorem jK.cg (h : jK T H S v b) (e : ∀ n, n < H → v' n 1 = v n 1) (e1 : ∀ n k, n < H → 32 ≤ k → k < 80 → v' n k = v n k) (e2 : ∀ n i, n < H → b' n 7 i = b n 7 i) (e3 : ∀ n, n < H → b' n 9 0 = b n 9 0) : jK T H S v' b' := fun n hn => by
  obtain ⟨hh, bh, k0, d, g1, g2, g3, g4, g5, g6, g7, g8, g9, g10, g11⟩ := h n hn
  have eb : b' n 7 = b n 7 := by funext i; exact e2 n i hn
  refine ⟨hh, bh, k0, d, by rw [e n hn]; exact g1, g2, g3, g4, g5, g6, g7, fun x h1 h2 => by rw [eb]; exact g8 x h1 h2, fun i hi => by rw [eb, e1 n (32 + i) hn (by omega) (by omega)]; exact g9 i hi, by rw [e3 n hn]; exact g10, ?_⟩
  rw [eb]
  exact g11
end
/-- a node falls -/
def aFall (w : Wd) (n : Nat) : Wd := (fun n' k => if n' = n ∧ k = 0 then 0 else if n' = n ∧ 9 ≤ k ∧ k ≤ 11 then -1 else w.1 n' k, fun n' f i => if n' = n ∧ 2 ≤ f ∧ f ≤ 6 then none else w.2.1 n' f i, fun n' => if n' = n then [] else w.2.2.1 n', w.2.2.2)
section
variable (w : Wd) (n : Nat)
theorem aFall_N {m k : Nat} (h : m ≠ n ∨ (k ≠ 0 ∧ (k < 9 ∨ 11 < k))) : wN (aFall w n) m k = wN w m k := by
  show (if m = n ∧ k = 0 then 0 else if m = n ∧ 9 ≤ k ∧ k ≤ 11 then -1 else w.1 m k) = _
  rw [if_neg (by omega), if_neg (by omega)]
  rfl
theorem aFall_Y {m f i : Nat} (h : m ≠ n ∨ f < 2 ∨ 6 < f) : wY (aFall w n) m f i = wY w m f i := by
  show (if m = n ∧ 2 ≤ f ∧ f ≤ 6 then none else w.2.1 m f i) = _
  rw [if_neg (by omega)]
  rfl
theorem aFall_Yn {f i : Nat} (h : 2 ≤ f ∧ f ≤ 6) : wY (aFall w n) n f i = none := by
  show (if n = n ∧ 2 ≤ f ∧ f ≤ 6 then none else w.2.1 n f i) = _
  rw [if_pos ⟨rfl, h⟩]
end
section
variable {N n F H T : Nat} {S : rS} {w : Wd}
def faL : List Nat := [14, 43, 52, 53, 55, 57, 60]
theorem fall_ok (hN : 1000 ≤ N) (h : rRp F H T S w) (hn : n < H) : wp (o_fall N S (nI n)) (f_fall N S (nI n)) (fun S' => rfr faL S S' ∧ rRp F H T S' (aFall w n)) := by
  have cb := h.1.1.b
  show wp (O_fall_0 N (nI n) S) (F_fall_0 N (nI n) S) _
  unfold O_fall_0 F_fall_0
  rw [n_clamp (by omega)]
  refine wp_and ((n_in (by omega)).2 (by omega)) (wp_and ((n_in (by omega)).2 (by omega)) ?_)
  have f1 : rfr faL S (rsA (rsA S 43 n (nI 0)) 53 n (nI 0)) := (rfr.one (by decide)).trans (rfr.one (by decide))
  have a43 : (rsA (rsA S 43 n (nI 0)) 53 n (nI 0)).2.1 43 = upd (S.2.1 43) n (nI 0) := by rw [A_other _ _ _ (by decide), A_same]
  have a53 : (rsA (rsA S 43 n (nI 0)) 53 n (nI 0)).2.1 53 = upd (S.2.1 53) n (nI 0) := by rw [A_same, A_other _ _ _ (by decide)]
  have fz1 : rfr [43, 53] S (rsA (rsA S 43 n (nI 0)) 53 n (nI 0)) := (rfr.one (by decide)).trans (rfr.one (by decide))
  generalize rsA (rsA S 43 n (nI 0)) 53 n (nI 0) = S1 at f1 a43 a53 fz1 ⊢
  unfold O_fall_14 F_fall_14
  refine wp_call (noTimers_ok (by omega) (by omega)) (fun q1 => ?_)
  generalize f_noTimers N S1 (nI n) = S2 at q1 ⊢
  unfold O_fall_19 F_fall_19
  refine wp_call (forgetHeight_ok (h := 0) (by omega) (by omega) (by omega)) (fun q2 => ?_)
  generalize f_forgetHeight N S2 (nI n) (nI 0) = S3 at q2 ⊢
  unfold O_fall_25 F_fall_25
  refine wp_call (forgetHeight_ok (h := 1) (by omega) (by omega) (by omega)) (fun q3 => ?_)
  generalize f_forgetHeight N S3 (nI n) (nI 1) = S4 at q3 ⊢
  unfold O_fall_31 F_fall_31
  refine wp_call (forgetSaid_ok (by omega) (by omega)) (fun q4 => ?_)
  generalize f_forgetSaid N S4 (nI n) = S5 at q4 ⊢
  unfold O_fall_36 F_fall_36
  refine wp_seq (Q := fun z : Nat × rS => rfr [55, 57] S5 z.2 ∧ (∀ x, z.2.2.1 55 x = if 13 * n ≤ x ∧ x < 13 * n + 13 then nI 0 else S5.2.1 55 x) ∧ ∀ x, z.2.2.1 57 x = if 13 * n ≤ x ∧ x < 13 * n + 13 then nI 0 else S5.2.1 57 x) ?_ ?_
  · refine wp_loop (K := 13) (fun j y => rfr [55, 57] S5 y ∧ (∀ x, y.2.1 55 x = if 13 * n ≤ x ∧ x < 13 * n + j then nI 0 else S5.2.1 55 x) ∧ ∀ x, y.2.1 57 x = if 13 * n ≤ x ∧ x < 13 * n + j then nI 0 else S5.2.1 57 x) (fun q j y => OL_fall_38 N q (nI n) (nI j) y) (fun q j y => L_fall_38 N q (nI n) (nI j) y) (fun q j y hj hI ih => ?_) 0 N S5 (by omega) (by omega) ⟨rfr.refl, fun x => by rw [if_neg (by omega)], fun x => by rw [if_neg (by omega)]⟩
    unfold OL_fall_38 L_fall_38 OB_fall_38 B_fall_38
    by_cases e : j = 13
    · refine wp_pos (by rw [n_le' (by omega) (by omega)]; omega) ?_
      subst e
      exact wp_fin trivial hI
    · simp only [n_mul, n_add]
      rw [n_clamp (by omega)]
      refine wp_neg (by rw [n_le' (by omega) (by omega)]; omega) (wp_and ((n_in (by omega)).2 (by omega)) (wp_and ((n_in (by omega)).2 (by omega)) ?_))
      unfold O_fall_68 F_fall_68
      rw [n_add]
      refine ih _ ⟨(hI.1.trans (rfr.one (by decide))).trans (rfr.one (by decide)), fun x => ?_, fun x => ?_⟩ (by omega)
      · rw [A_other _ _ _ (by decide), A_same]
        by_cases c : x = 13 * n + j
        · rw [c, upd_same, if_pos (by omega)]
        · rw [upd_other _ _ c, hI.2.1 x]
          by_cases c2 : 13 * n ≤ x ∧ x < 13 * n + j
          · rw [if_pos c2, if_pos (by omega)]
          · rw [if_neg c2, if_neg (by omega)]
      · rw [A_same, A_other _ _ _ (by decide)]
        by_cases c : x = 13 * n + j
        · rw [c, upd_same, if_pos (by omega)]
        · rw [upd_other _ _ c, hI.2.2 x]
          by_cases c2 : 13 * n ≤ x ∧ x < 13 * n + j
          · rw [if_pos c2, if_pos (by omega)]
          · rw [if_neg c2, if_neg (by omega)]
  rintro z ⟨z1, z2, z3⟩
  show wp True z.2 _
  generalize z.2 = S6 at z1 z2 z3 ⊢
  have f6 : rfr faL S S6 := ((((f1.trans (q1.1.mono (by decide))).trans (q2.1.mono (by decide))).trans (q3.1.mono (by decide))).trans (q4.1.mono (by decide))).trans (z1.mono (by decide))
  have r14 : ∀ x, (¬ inHd n 0 x → ¬ inHd n 1 x → ¬ (416 + 13 * n ≤ x ∧ x < 416 + 13 * n + 13) → S6.2.1 14 x = S.2.1 14 x) ∧ (inHd n 0 x ∨ inHd n 1 x ∨ (416 + 13 * n ≤ x ∧ x < 416 + 13 * n + 13) → S6.2.1 14 x = nI 0) := fun x => by
    have e6 : S6.2.1 14 x = S5.2.1 14 x := by rw [z1.a 14 (by decide)]
    have e2 : S2.2.1 14 x = S.2.1 14 x := by rw [q1.1.a 14 (by decide), fz1.a 14 (by decide)]
    refine ⟨fun a b c => ?_, fun a => ?_⟩
    · rw [e6, (q4.2 x).2 c, (q3.2.1 x).2 b, (q2.2.1 x).2 a, e2]
    · rw [e6]
      by_cases c : 416 + 13 * n ≤ x ∧ x < 416 + 13 * n + 13
      · exact (q4.2 x).1 c
      · rw [(q4.2 x).2 c]
        by_cases b : inHd n 1 x
        · exact (q3.2.1 x).1 b
        · rw [(q3.2.1 x).2 b]
          exact (q2.2.1 x).1 (by rcases a with a | a | a; exact a; exact absurd a b; exact absurd a c)
  have r60 : ∀ x, (¬ inVt n 0 x → ¬ inVt n 1 x → S6.2.1 60 x = S.2.1 60 x) ∧ (inVt n 0 x ∨ inVt n 1 x → S6.2.1 60 x = nI 0) := fun x => by
    have e6 : S6.2.1 60 x = S4.2.1 60 x := by rw [z1.a 60 (by decide), q4.1.a 60 (by decide)]
    have e2 : S2.2.1 60 x = S.2.1 60 x := by rw [q1.1.a 60 (by decide), fz1.a 60 (by decide)]
    refine ⟨fun a b => ?_, fun a => ?_⟩
    · rw [e6, (q3.2.2 x).2 b, (q2.2.2 x).2 a, e2]
    · rw [e6]
      by_cases b : inVt n 1 x
      · exact (q3.2.2 x).1 b
      · rw [(q3.2.2 x).2 b]
        exact (q2.2.2 x).1 (a.resolve_right b)
  have r52 : ∀ x, S6.2.1 52 x = if 3 * n ≤ x ∧ x < 3 * n + 3 then -1 else S.2.1 52 x := fun x => by
    rw [z1.a 52 (by decide), q4.1.a 52 (by decide), q3.1.a 52 (by decide), q2.1.a 52 (by decide), q1.2 x, fz1.a 52 (by decide)]
  have r43 : S6.2.1 43 = upd (S.2.1 43) n (nI 0) := by rw [z1.a 43 (by decide), q4.1.a 43 (by decide), q3.1.a 43 (by decide), q2.1.a 43 (by decide), q1.1.a 43 (by decide), a43]
  have r53 : S6.2.1 53 = upd (S.2.1 53) n (nI 0) := by rw [z1.a 53 (by decide), q4.1.a 53 (by decide), q3.1.a 53 (by decide), q2.1.a 53 (by decide), q1.1.a 53 (by decide), a53]
  have r55 : ∀ x, S6.2.1 55 x = if 13 * n ≤ x ∧ x < 13 * n + 13 then nI 0 else S.2.1 55 x := fun x => by rw [z2 x, q4.1.a 55 (by decide), q3.1.a 55 (by decide), q2.1.a 55 (by decide), q1.1.a 55 (by decide), fz1.a 55 (by decide)]
  have r57 : ∀ x, S6.2.1 57 x = if 13 * n ≤ x ∧ x < 13 * n + 13 then nI 0 else S.2.1 57 x := fun x => by rw [z3 x, q4.1.a 57 (by decide), q3.1.a 57 (by decide), q2.1.a 57 (by decide), q1.1.a 57 (by decide), fz1.a 57 (by decide)]
  have l12 : S6.2.2 12 = S.2.2 12 := f6.l 12 (by decide)
  have l13 : S6.2.2 13 = S.2.2 13 := f6.l 13 (by decide)
  refine wp_fin trivial ⟨f6, h.co.fr f6 (by decide), h.sk.fr f6 (by decide), fun m k hm hk => ?_, (h.wh.fr f6 (by decide)).cg (fun m k hm h1 h2 => aFall_N _ _ (by omega)), h.x.fr f6 (by decide), fun m hm => ?_, fun m q hm hq => ?_, fun m q hm hq => ?_, fun m s hm hs => ?_, fun m x hm hx => ?_, fun m i hm hi => ?_, fun m hm => ?_, fun m s hm hs => ?_, fun m s hm hs => ?_, (h.k.fr f6 (by decide)).cg (fun m hm => aFall_N _ _ (by omega)) (fun m k hm h1 h2 => aFall_N _ _ (by omega)) (fun m i hm => aFall_Y _ _ (by omega)) (fun m hm => aFall_Y _ _ (by omega))⟩
  · have old := h.n m k hm hk
    by_cases k0 : k = 0
    · subst k0
      have old : S.2.1 43 m = iI (wN w m 0) := old
      show S6.2.1 43 m = iI (wN (aFall w n) m 0)
      rw [r43]
      by_cases e : m = n
      · rw [e, upd_same]
        show nI 0 = iI (if n = n ∧ 0 = 0 then 0 else _)
        rw [if_pos ⟨rfl, rfl⟩]
        rfl
      · rw [upd_other _ _ e, aFall_N _ _ (Or.inl e)]
        exact old
    · by_cases kt : 9 ≤ k ∧ k ≤ 11
      · have er : rna k = 52 := by rcases (show k = 9 ∨ k = 10 ∨ k = 11 by omega) with rfl | rfl | rfl <;> rfl
        have ei : rni k m = 3 * m + (k - 9) := by unfold rni; rw [if_pos kt]
        rw [er, ei] at old ⊢
        rw [r52]
        by_cases e : m = n
        · rw [if_pos (by omega), e]
          show -1 = iI (if n = n ∧ k = 0 then 0 else if n = n ∧ 9 ≤ k ∧ k ≤ 11 then -1 else w.1 n k)
          rw [if_neg (by omega), if_pos ⟨rfl, kt⟩]
          rfl
        · rw [if_neg (by omega), aFall_N _ _ (Or.inl e)]
          exact old
      · rw [aFall_N _ _ (by omega)]
        have : rna k ∉ faL := by
          rcases (show k = 1 ∨ k = 2 ∨ k = 3 ∨ k = 4 ∨ k = 5 ∨ k = 6 ∨ k = 7 ∨ k = 8 ∨ k = 12 ∨ k = 13 ∨ k = 14 ∨ k = 15 ∨ k = 16 ∨ k = 17 by omega) with rfl | rfl | rfl | rfl | rfl | rfl | rfl | rfl | rfl | rfl | rfl | rfl | rfl | rfl <;> decide
        rw [f6.a _ this]
        exact old
  · rw [aFall_Y _ _ (by omega), aFall_Y _ _ (by omega)]
    exact ⟨(h.l m hm).1.z ((r14 _).1 (by unfold inHd; omega) (by unfold inHd; omega) (by omega)) l12 l13, (h.l m hm).2.z ((r14 _).1 (by unfold inHd; omega) (by unfold inHd; omega) (by omega)) l12 l13⟩
  · by_cases e : m = n
    · rw [e, aFall_Yn _ _ (by omega)]
      exact ⟨(r14 _).2 (by unfold inHd; omega), fun _ z => by cases z⟩
    · rw [aFall_Y _ _ (Or.inl e)]
      refine ⟨(h.hd m q hm hq).1.z ((r14 _).1 (by unfold inHd; omega) (by unfold inHd; omega) (by omega)) l12 l13, ?_⟩
      rw [f6.a 59 (by decide)]
      exact (h.hd m q hm hq).2
  · by_cases e : m = n
    · rw [e, aFall_Yn _ _ (by omega)]
      refine (r60 _).2 ?_
      unfold inVt vix
      split <;> omega
    · rw [aFall_Y _ _ (Or.inl e)]
      have e60 : S6.2.1 60 (vix m q) = S.2.1 60 (vix m q) := by
        refine (r60 _).1 ?_ ?_ <;> unfold inVt vix <;> split <;> omega
      have old := h.v m q hm hq
      unfold vR at old ⊢
      rw [e60, f6.l 61 (by decide), f6.l 62 (by decide), f6.l 63 (by decide), f6.l 64 (by decide)]
      exact old
  · by_cases e : m = n
    · rw [e, aFall_Yn _ _ (by omega)]
      exact (r14 _).2 (by omega)
    · rw [aFall_Y _ _ (Or.inl e)]
      exact (h.d m s hm hs).z ((r14 _).1 (by unfold inHd; omega) (by unfold inHd; omega) (by omega)) l12 l13
  · rw [aFall_Y _ _ (by omega)]
    exact (h.c m x hm hx).z ((r14 _).1 (by unfold inHd; omega) (by unfold inHd; omega) (by omega)) l12 l13
  · rw [aFall_N _ _ (by omega)] at hi
    obtain ⟨a, y, a1, a2, a3, a4, a5, a6⟩ := h.g m i hm hi
    rw [f6.a 66 (by decide), f6.a 67 (by decide), f6.a 68 (by decide), f6.a 69 (by decide), f6.l 70 (by decide)]
    refine ⟨a, y, by rw [aFall_Y _ _ (by omega)]; exact a1, a2, a3, a4, fun z => ?_, a6⟩
    obtain ⟨b1, b2, b3⟩ := a5 z
    have : oR S (1144 + 16 * m + bg y 4) (some (y.drop 6)) := ⟨b2, b3⟩
    exact ⟨b1, (this.z ((r14 _).1 (by unfold inHd; omega) (by unfold inHd; omega) (by omega)) l12 l13).1, b3⟩
  · have old := h.p m hm
    show S6.2.1 53 m = nI (if m = n then [] else w.2.2.1 m).length ∧ (if m = n then [] else w.2.2.1 m).length ≤ 80 ∧ ∀ q, q < (if m = n then [] else w.2.2.1 m).length → (pg (if m = n then [] else w.2.2.1 m) q).length = 7 ∧ isB (pg (if m = n then [] else w.2.2.1 m) q) ∧ ∀ k, k < 7 → S6.2.1 54 (560 * m + 7 * q + k) = nI (bg (pg (if m = n then [] else w.2.2.1 m) q) k)
    rw [r53, f6.a 54 (by decide)]
    by_cases e : m = n
    · rw [if_pos e, e, upd_same]
      exact ⟨rfl, by simp, fun q hq => absurd hq (by simp)⟩
    · rw [if_neg e, upd_other _ _ e]
      exact old
  · have old := h.e m s hm hs
    by_cases e : m = n
    · rw [e, aFall_Yn _ _ (by omega)]
      show S6.2.1 55 (13 * n + s) = nI 0
      rw [r55, if_pos (by omega)]
    · rw [aFall_Y _ _ (Or.inl e)]
      unfold eR at old ⊢
      rw [r55, if_neg (by omega), f6.a 56 (by decide)]
      exact old
  · have old := h.s m s hm hs
    by_cases e : m = n
    · rw [e, aFall_Yn _ _ (by omega)]
      show S6.2.1 57 (13 * n + s) = nI 0
      rw [r57, if_pos (by omega)]
    · rw [aFall_Y _ _ (Or.inl e)]
      unfold znR at old ⊢
      rw [r57, if_neg (by omega), f6.a 58 (by decide)]
      exact old
end
end

section
/-! THE REFERENCE'S STATE AND THE WORLD IT TELLS; what is scratch; a node falls -/
def tpR (S : rS) (l : List Nat) : Prop := S.1 22 = nI l.length ∧ l.length ≤ 1000 ∧ (∀ i, i < l.length → S.2.1 21 i = nI (bg l i)) ∧ isB l
def cst (F H T : Nat) : Prop := 1 ≤ F ∧ F ≤ 4 ∧ T = 3 * F + 1 ∧ H ≤ T ∧ T ≤ H + F
def rCo (F H T : Nat) (S : rS) (w : Wd) : Prop := cst F H T ∧ S.1 0 = nI T ∧ S.1 1 = nI F ∧ S.1 2 = nI (T - H) ∧ rK S ∧ S.1 3 = nI (wT w) ∧ wT w < 900000 ∧ tpR S (wL w)
def rRp (F H T : Nat) (S : rS) (w : Wd) : Prop := rCo F H T S w ∧ rSk S (wK w) ∧ jN H S (wN w) ∧ jW H S (wN w) ∧ jX H S (wX w) ∧ jL H S (wY w) ∧ jH H S (wY w) ∧ jV H S (wY w) ∧ jD H S (wY w) ∧ jC H S (wY w) ∧ jG H S (wN w) (wY w) ∧ jP H S (wP w) ∧ jE H S (wY w) ∧ jS H S (wY w) ∧ jK T H S (wN w) (wY w)
theorem oR.z {S S1 : rS} {p : Nat} {o : Option (List Nat)} (h : oR S p o) (h1 : S1.2.1 14 p = S.2.1 14 p) (h2 : S1.2.2 12 = S.2.2 12) (h3 : S1.2.2 13 = S.2.2 13) : oR S1 p o := by
  cases o with
  | none =>
    show S1.2.1 14 p = nI 0
    rw [h1]
    exact h
  | some b =>
    obtain ⟨⟨a1, a2, a3⟩, a4⟩ := h
    exact ⟨⟨by rw [h1]; exact a1, fun i hi => by rw [h2]; exact a2 i hi, fun i hi => by rw [h3]; exact a3 i hi⟩, a4⟩
section
variable {F H T : Nat} {S S1 : rS} {w : Wd}
theorem rRp.co (h : rRp F H T S w) : rCo F H T S w := h.1
theorem rRp.sk (h : rRp F H T S w) : rSk S (wK w) := h.2.1
theorem rRp.n (h : rRp F H T S w) : jN H S (wN w) := h.2.2.1
theorem rRp.wh (h : rRp F H T S w) : jW H S (wN w) := h.2.2.2.1
theorem rRp.x (h : rRp F H T S w) : jX H S (wX w) := h.2.2.2.2.1
theorem rRp.l (h : rRp F H T S w) : jL H S (wY w) := h.2.2.2.2.2.1
theorem rRp.hd (h : rRp F H T S w) : jH H S (wY w) := h.2.2.2.2.2.2.1
theorem rRp.v (h : rRp F H T S w) : jV H S (wY w) := h.2.2.2.2.2.2.2.1
theorem rRp.d (h : rRp F H T S w) : jD H S (wY w) := h.2.2.2.2.2.2.2.2.1
theorem rRp.c (h : rRp F H T S w) : jC H S (wY w) := h.2.2.2.2.2.2.2.2.2.1
theorem rRp.g (h : rRp F H T S w) : jG H S (wN w) (wY w) := h.2.2.2.2.2.2.2.2.2.2.1
theorem rRp.p (h : rRp F H T S w) : jP H S (wP w) := h.2.2.2.2.2.2.2.2.2.2.2.1
theorem rRp.e (h : rRp F H T S w) : jE H S (wY w) := h.2.2.2.2.2.2.2.2.2.2.2.2.1
theorem rRp.s (h : rRp F H T S w) : jS H S (wY w) := h.2.2.2.2.2.2.2.2.2.2.2.2.2.1
theorem rRp.k (h : rRp F H T S w) : jK T H S (wN w) (wY w) := h.2.2.2.2.2.2.2.2.2.2.2.2.2.2
theorem cst.b (h : cst F H T) : T ≤ 13 ∧ H ≤ 13 ∧ 4 ≤ T := by
  unfold cst at h
  omega
theorem rCo.fr {L : List Nat} (h : rCo F H T S w) (hf : rfr L S S1) (hl : ∀ k ∈ [0, 1, 2, 3, 10, 11, 21, 22], k ∉ L) : rCo F H T S1 w := by
  obtain ⟨h1, h2, h3, h4, h5, h6, h7, h8⟩ := h
  refine ⟨h1, by rw [hf.i 0 (hl _ (by decide))]; exact h2, by rw [hf.i 1 (hl _ (by decide))]; exact h3, by rw [hf.i 2 (hl _ (by decide))]; exact h4, h5.fr hf (hl _ (by decide)) (hl _ (by decide)), by rw [hf.i 3 (hl _ (by decide))]; exact h6, h7, ?_⟩
  unfold tpR
  rw [hf.i 22 (hl _ (by decide)), hf.a 21 (hl _ (by decide))]
  exact h8
/-- scratch: what no world tells -/
def scrL : List Nat := [6, 7, 8, 9, 12, 13, 14, 15, 16, 17, 18, 19, 20, 32, 33, 34, 35, 36, 37, 38, 39, 40, 41, 42, 71, 72, 85, 86, 87, 88]
def pSc (S S' : rS) : Prop := ∀ q, q < 1352 → S'.2.1 14 q = S.2.1 14 q ∧ (∀ i, i < 696 → lby (S'.2.2 12) (696 * q + i) = lby (S.2.2 12) (696 * q + i)) ∧ ∀ k, k < 32 → lby (S'.2.2 13) (32 * q + k) = lby (S.2.2 13) (32 * q + k)
def sfr (S S' : rS) : Prop := rfr scrL S S' ∧ pSc S S'
theorem sfr.refl : sfr S S := ⟨rfr.refl, fun _ _ => ⟨rfl, fun _ _ => rfl, fun _ _ => rfl⟩⟩
theorem sfr.trans {S2 : rS} (h : sfr S S1) (h' : sfr S1 S2) : sfr S S2 := ⟨h.1.trans h'.1, fun q hq => ⟨(h'.2 q hq).1.trans (h.2 q hq).1, fun i hi => ((h'.2 q hq).2.1 i hi).trans ((h.2 q hq).2.1 i hi), fun i hi => ((h'.2 q hq).2.2 i hi).trans ((h.2 q hq).2.2 i hi)⟩⟩
theorem rfr.sf {L : List Nat} (h : rfr L S S1) (hl : ∀ k ∈ L, k ∈ scrL) (h1 : 12 ∉ L) (h2 : 13 ∉ L) (h3 : 14 ∉ L) : sfr S S1 := ⟨h.mono hl, fun q _ => ⟨by rw [h.a 14 h3], fun i _ => by rw [h.l 12 h1], fun i _ => by rw [h.l 13 h2]⟩⟩
theorem pO1.sf {L : List Nat} {p : Nat} (h : pO1 p S S1) (hf : rfr L S S1) (hl : ∀ k ∈ L, k ∈ scrL) (hp : 1352 ≤ p) : sfr S S1 := ⟨hf.mono hl, fun q hq => ⟨h.1 q (by omega), fun i hi => h.2.1 q i (by omega) hi, fun i hi => h.2.2 q i (by omega) hi⟩⟩
theorem oR.sf {q : Nat} {o : Option (List Nat)} (h : oR S q o) (hf : sfr S S1) (hq : q < 1352) : oR S1 q o := by
  obtain ⟨a, b, c⟩ := hf.2 q hq
  cases o with
  | none =>
    show S1.2.1 14 q = nI 0
    rw [a]
    exact h
  | some x =>
    obtain ⟨⟨a1, a2, a3⟩, a4⟩ := h
    have := a4.2.1
    exact ⟨⟨by rw [a]; exact a1, fun i hi => by rw [b i (by omega)]; exact a2 i hi, fun i hi => by rw [c i hi]; exact a3 i hi⟩, a4⟩
theorem rRp.sf (h : rRp F H T S w) (hf : sfr S S1) : rRp F H T S1 w := by
  have cb := h.1.1.b
  have f := hf.1
  refine ⟨h.co.fr f (by decide), h.sk.fr f (by decide), h.n.fr f (by decide), h.wh.fr f (by decide), h.x.fr f (by decide), fun n hn => ⟨(h.l n hn).1.sf hf (by omega), (h.l n hn).2.sf hf (by omega)⟩, fun n q hn hq => ⟨(h.hd n q hn hq).1.sf hf (by omega), by rw [f.a 59 (by decide)]; exact (h.hd n q hn hq).2⟩, h.v.fr f (by decide) (by decide) (by decide) (by decide) (by decide), fun n s hn hs => (h.d n s hn hs).sf hf (by omega), fun n s hn hs => (h.c n s hn hs).sf hf (by omega), fun n i hn hi => ?_, h.p.fr f (by decide) (by decide), h.e.fr f (by decide) (by decide), h.s.fr f (by decide) (by decide), h.k.fr f (by decide)⟩
  obtain ⟨a, m, a1, a2, a3, a4, a5, a6⟩ := h.g n i hn hi
  rw [f.a 66 (by decide), f.a 67 (by decide), f.a 68 (by decide), f.a 69 (by decide), f.l 70 (by decide)]
  refine ⟨a, m, a1, a2, a3, a4, fun z => ?_, a6⟩
  obtain ⟨b1, b2, b3⟩ := a5 z
  have : oR S (1144 + 16 * n + bg m 4) (some (m.drop 6)) := ⟨b2, b3⟩
  exact ⟨b1, (this.sf hf (by omega)).1, b3⟩
end
section
variable {N n : Nat} {S : rS}
theorem heldAt_ok {h r : Nat} (hh : h < 1000) : f_heldAt N S (nI n) (nI h) (nI r) = nI (32 * n + 16 * (h % 2) + r) := by
  show nI 32 * nI n + nI 16 * (nI h - nI h / nI 2 * nI 2) + nI r = _
  rw [n_mod' (by omega) (by omega), n_mul, n_mul, n_add, n_add]
theorem voteAt_ok {c h r s : Nat} (hc : c ≤ 1) (hh : h < 1000) : o_voteAt N S (nI c) (nI n) (nI h) (nI r) (nI s) ∧ f_voteAt N S (nI c) (nI n) (nI h) (nI r) (nI s) = nI (13 * (32 * n + 16 * (h % 2) + r) + s + 5408 * c) := by
  show wp (O_voteAt_0 N (nI c) (nI n) (nI h) (nI r) (nI s) S) (F_voteAt_0 N (nI c) (nI n) (nI h) (nI r) (nI s) S) (fun v => v = nI (13 * (32 * n + 16 * (h % 2) + r) + s + 5408 * c))
  unfold O_voteAt_0 F_voteAt_0 F_voteAt_23
  rw [heldAt_ok hh]
  simp only [n_mul, n_add]
  refine wp_and trivial (wp_ite (fun e => ?_) (fun e => ?_)) <;> rw [n_eq0 (by omega)] at e
  · refine wp_fin trivial ?_
    congr 1
    omega
  · refine wp_fin trivial ?_
    congr 1
    omega
theorem noTimers_ok (hn : n < 13) (hN : 10 ≤ N) : wp (o_noTimers N S (nI n)) (f_noTimers N S (nI n)) (fun S' => rfr [52] S S' ∧ ∀ x, S'.2.1 52 x = if 3 * n ≤ x ∧ x < 3 * n + 3 then -1 else S.2.1 52 x) := by
  show wp (O_noTimers_0 N (nI n) S) (F_noTimers_0 N (nI n) S) _
  unfold O_noTimers_0 F_noTimers_0
  refine wp_seq (Q := fun z : Nat × rS => rfr [52] S z.2 ∧ ∀ x, z.2.2.1 52 x = if 3 * n ≤ x ∧ x < 3 * n + 3 then -1 else S.2.1 52 x) ?_ (fun z hz => wp_fin trivial hz)
  refine wp_loop (K := 3) (fun j y => rfr [52] S y ∧ ∀ x, y.2.1 52 x = if 3 * n ≤ x ∧ x < 3 * n + j then -1 else S.2.1 52 x) (fun q j y => OL_noTimers_2 N q (nI n) (nI j) y) (fun q j y => L_noTimers_2 N q (nI n) (nI j) y) (fun q j y hj hI ih => ?_) 0 N S (by omega) (by omega) ⟨rfr.refl, fun x => by rw [if_neg (by omega)]⟩
  unfold OL_noTimers_2 L_noTimers_2 OB_noTimers_2 B_noTimers_2
  by_cases e : j = 3
  · refine wp_pos (by rw [n_le' (by omega) (by omega)]; omega) ?_
    subst e
    exact wp_fin trivial hI
  · simp only [n_mul, n_add]
    rw [n_clamp (by omega)]
    refine wp_neg (by rw [n_le' (by omega) (by omega)]; omega) (wp_and ((n_in (by omega)).2 (by omega)) (ih _ ⟨hI.1.trans (rfr.one (by decide)), fun x => ?_⟩ (by omega)))
    rw [A_same]
    by_cases c : x = 3 * n + j
    · rw [c, upd_same, if_pos (by omega)]
    · rw [upd_other _ _ c, hI.2 x]
      by_cases c2 : 3 * n ≤ x ∧ x < 3 * n + j
      · rw [if_pos c2, if_pos (by omega)]
      · rw [if_neg c2, if_neg (by omega)]
/-- the held places of a height, the votes of a height -/
def inHd (n p x : Nat) : Prop := 32 * n + 16 * p ≤ x ∧ x < 32 * n + 16 * p + 16
def inVt (n p x : Nat) : Prop := (13 * (32 * n + 16 * p) ≤ x ∧ x < 13 * (32 * n + 16 * p) + 208) ∨ (13 * (32 * n + 16 * p) + 5408 ≤ x ∧ x < 13 * (32 * n + 16 * p) + 5616)
theorem forgetHeight_ok {h : Nat} (hn : n < 13) (hh : h < 1000) (hN : 100 ≤ N) : wp (o_forgetHeight N S (nI n) (nI h)) (f_forgetHeight N S (nI n) (nI h)) (fun S' => rfr [14, 60] S S' ∧ (∀ x, (inHd n (h % 2) x → S'.2.1 14 x = nI 0) ∧ (¬ inHd n (h % 2) x → S'.2.1 14 x = S.2.1 14 x)) ∧ ∀ x, (inVt n (h % 2) x → S'.2.1 60 x = nI 0) ∧ (¬ inVt n (h % 2) x → S'.2.1 60 x = S.2.1 60 x)) := by
  show wp (O_forgetHeight_0 N (nI n) (nI h) S) (F_forgetHeight_0 N (nI n) (nI h) S) _
  unfold O_forgetHeight_0 F_forgetHeight_0 inHd inVt
  have hp : h % 2 < 2 := Nat.mod_lt _ (by decide)
  obtain ⟨B, hB⟩ : ∃ B, B = 32 * n + 16 * (h % 2) := ⟨_, rfl⟩
  have B1 : B + 16 ≤ 416 := by omega
  rw [← hB]
  refine wp_seq (Q := fun z : Nat × rS => rfr [14, 60] S z.2 ∧ (∀ x, (B ≤ x ∧ x < B + 16 → z.2.2.1 14 x = nI 0) ∧ (¬ (B ≤ x ∧ x < B + 16) → z.2.2.1 14 x = S.2.1 14 x)) ∧ ∀ x, ((13 * B ≤ x ∧ x < 13 * B + 208) ∨ (13 * B + 5408 ≤ x ∧ x < 13 * B + 5616) → z.2.2.1 60 x = nI 0) ∧ (¬ ((13 * B ≤ x ∧ x < 13 * B + 208) ∨ (13 * B + 5408 ≤ x ∧ x < 13 * B + 5616)) → z.2.2.1 60 x = S.2.1 60 x)) ?_ (fun z hz => wp_fin trivial hz)
  refine wp_loop (K := 16) (fun j y => rfr [14, 60] S y ∧ (∀ x, (B ≤ x ∧ x < B + j → y.2.1 14 x = nI 0) ∧ (¬ (B ≤ x ∧ x < B + j) → y.2.1 14 x = S.2.1 14 x)) ∧ ∀ x, ((13 * B ≤ x ∧ x < 13 * B + 13 * j) ∨ (13 * B + 5408 ≤ x ∧ x < 13 * B + 5408 + 13 * j) → y.2.1 60 x = nI 0) ∧ (¬ ((13 * B ≤ x ∧ x < 13 * B + 13 * j) ∨ (13 * B + 5408 ≤ x ∧ x < 13 * B + 5408 + 13 * j)) → y.2.1 60 x = S.2.1 60 x)) (fun q j y => OL_forgetHeight_2 N q (nI n) (nI h) (nI j) y) (fun q j y => L_forgetHeight_2 N q (nI n) (nI h) (nI j) y) (fun q j y hj hI ih => ?_) 0 N S (by omega) (by omega) ⟨rfr.refl, fun x => ⟨fun z => absurd z (by omega), fun _ => rfl⟩, fun x => ⟨fun z => absurd z (by omega), fun _ => rfl⟩⟩
  obtain ⟨i1, i2, i3⟩ := hI
  unfold OL_forgetHeight_2 L_forgetHeight_2 OB_forgetHeight_2 B_forgetHeight_2
  by_cases e : j = 16
  · refine wp_pos (by rw [n_le' (by omega) (by omega)]; omega) ?_
    subst e
    exact wp_fin trivial ⟨i1, i2, i3⟩
  · rw [heldAt_ok hh, ← hB, n_add, Nat.zero_add]
    obtain ⟨c1, c2⟩ := clear_ok (N := N) (S := y) (p := B + j) (by omega)
    rw [c2]
    refine wp_neg (by rw [n_le' (by omega) (by omega)]; omega) (wp_and trivial (wp_and c1 ?_))
    have g1 : rfr [14, 60] S (rsA y 14 (B + j) (nI 0)) := i1.trans (rfr.one (by decide))
    have g2 : ∀ x, (B ≤ x ∧ x < B + (j + 1) → (rsA y 14 (B + j) (nI 0)).2.1 14 x = nI 0) ∧ (¬ (B ≤ x ∧ x < B + (j + 1)) → (rsA y 14 (B + j) (nI 0)).2.1 14 x = S.2.1 14 x) := fun x => by
      rw [A_same]
      by_cases c : x = B + j
      · rw [c, upd_same]
        exact ⟨fun _ => rfl, fun z => absurd z (by omega)⟩
      · rw [upd_other _ _ c]
        exact ⟨fun z => (i2 x).1 (by omega), fun z => (i2 x).2 (by omega)⟩
    have g3 : (rsA y 14 (B + j) (nI 0)).2.1 60 = y.2.1 60 := A_other _ _ _ (by decide)
    generalize rsA y 14 (B + j) (nI 0) = y1 at g1 g2 g3 ⊢
    unfold O_forgetHeight_20 F_forgetHeight_20
    refine wp_seq (Q := fun z : Nat × Int32 × Int32 × Int32 × rS => z = (0, nI n, nI h, nI j, z.2.2.2.2) ∧ rfr [60] y1 z.2.2.2.2 ∧ ∀ x, ((13 * (B + j) ≤ x ∧ x < 13 * (B + j) + 13) ∨ (13 * (B + j) + 5408 ≤ x ∧ x < 13 * (B + j) + 5421) → z.2.2.2.2.2.1 60 x = nI 0) ∧ (¬ ((13 * (B + j) ≤ x ∧ x < 13 * (B + j) + 13) ∨ (13 * (B + j) + 5408 ≤ x ∧ x < 13 * (B + j) + 5421)) → z.2.2.2.2.2.1 60 x = y1.2.1 60 x)) ?_ ?_
    · refine wp_loop (K := 13) (fun s u => rfr [60] y1 u ∧ ∀ x, ((13 * (B + j) ≤ x ∧ x < 13 * (B + j) + s) ∨ (13 * (B + j) + 5408 ≤ x ∧ x < 13 * (B + j) + 5408 + s) → u.2.1 60 x = nI 0) ∧ (¬ ((13 * (B + j) ≤ x ∧ x < 13 * (B + j) + s) ∨ (13 * (B + j) + 5408 ≤ x ∧ x < 13 * (B + j) + 5408 + s)) → u.2.1 60 x = y1.2.1 60 x)) (fun q2 s u => OL_forgetHeight_23 N q2 (nI n) (nI h) (nI j) (nI s) u) (fun q2 s u => L_forgetHeight_23 N q2 (nI n) (nI h) (nI j) (nI s) u) (fun q2 s u hs hJ ih2 => ?_) 0 N y1 (by omega) (by omega) ⟨rfr.refl, fun x => ⟨fun z => absurd z (by omega), fun _ => rfl⟩⟩
      unfold OL_forgetHeight_23 L_forgetHeight_23 OB_forgetHeight_23 B_forgetHeight_23
      by_cases es : s = 13
      · refine wp_pos (by rw [n_le' (by omega) (by omega)]; omega) ?_
        subst es
        exact wp_fin trivial ⟨rfl, hJ⟩
      · obtain ⟨v1, v2⟩ := voteAt_ok (N := N) (S := u) (n := n) (c := 0) (h := h) (r := j) (s := s) (by omega) hh
        rw [← hB, Nat.mul_zero, Nat.add_zero] at v2
        rw [v2, n_clamp (by omega)]
        obtain ⟨w1, w2⟩ := voteAt_ok (N := N) (S := rsA u 60 (13 * (B + j) + s) (nI 0)) (n := n) (c := 1) (h := h) (r := j) (s := s) (by omega) hh
        rw [← hB, Nat.mul_one] at w2
        rw [w2, n_clamp (by omega)]
        refine wp_neg (by rw [n_le' (by omega) (by omega)]; omega) (wp_and v1 (wp_and ((n_in (by omega)).2 (by omega)) (wp_and w1 (wp_and ((n_in (by omega)).2 (by omega)) ?_))))
        unfold O_forgetHeight_60 F_forgetHeight_60
        rw [n_add]
        refine ih2 _ ⟨(hJ.1.trans (rfr.one (by decide))).trans (rfr.one (by decide)), fun x => ?_⟩ (by omega)
        rw [A_same]
        by_cases c : x = 13 * (B + j) + s + 5408
        · rw [c, upd_same]
          exact ⟨fun _ => rfl, fun z => absurd z (by omega)⟩
        · rw [upd_other _ _ c, A_same]
          by_cases c2 : x = 13 * (B + j) + s
          · rw [c2, upd_same]
            exact ⟨fun _ => rfl, fun z => absurd z (by omega)⟩
          · rw [upd_other _ _ c2]
            exact ⟨fun z => (hJ.2 x).1 (by omega), fun z => (hJ.2 x).2 (by omega)⟩
    · rintro z ⟨z0, z1, z2⟩
      rw [z0]
      generalize z.2.2.2.2 = y2 at z1 z2 ⊢
      show wp (O_forgetHeight_66 N (OL_forgetHeight_2 N q) (nI n) (nI h) (nI j) y2) (F_forgetHeight_66 N (L_forgetHeight_2 N q) (nI n) (nI h) (nI j) y2) _
      unfold O_forgetHeight_66 F_forgetHeight_66
      rw [n_add]
      refine ih _ ⟨g1.trans (z1.mono (by decide)), fun x => by rw [z1.a 14 (by decide)]; exact g2 x, fun x => ?_⟩ (by omega)
      by_cases c : (13 * (B + j) ≤ x ∧ x < 13 * (B + j) + 13) ∨ (13 * (B + j) + 5408 ≤ x ∧ x < 13 * (B + j) + 5421)
      · exact ⟨fun _ => (z2 x).1 c, fun z => absurd z (by omega)⟩
      · rw [(z2 x).2 c, g3]
        exact ⟨fun z => (i3 x).1 (by omega), fun z => (i3 x).2 (by omega)⟩
theorem forgetSaid_ok (hn : n < 13) (hN : 100 ≤ N) : wp (o_forgetSaid N S (nI n)) (f_forgetSaid N S (nI n)) (fun S' => rfr [14] S S' ∧ ∀ x, (416 + 13 * n ≤ x ∧ x < 416 + 13 * n + 13 → S'.2.1 14 x = nI 0) ∧ (¬ (416 + 13 * n ≤ x ∧ x < 416 + 13 * n + 13) → S'.2.1 14 x = S.2.1 14 x)) := by
  show wp (O_forgetSaid_0 N (nI n) S) (F_forgetSaid_0 N (nI n) S) _
  unfold O_forgetSaid_0 F_forgetSaid_0
  refine wp_seq (Q := fun z : Nat × rS => rfr [14] S z.2 ∧ ∀ x, (416 + 13 * n ≤ x ∧ x < 416 + 13 * n + 13 → z.2.2.1 14 x = nI 0) ∧ (¬ (416 + 13 * n ≤ x ∧ x < 416 + 13 * n + 13) → z.2.2.1 14 x = S.2.1 14 x)) ?_ (fun z hz => wp_fin trivial hz)
  refine wp_loop (K := 13) (fun j y => rfr [14] S y ∧ ∀ x, (416 + 13 * n ≤ x ∧ x < 416 + 13 * n + j → y.2.1 14 x = nI 0) ∧ (¬ (416 + 13 * n ≤ x ∧ x < 416 + 13 * n + j) → y.2.1 14 x = S.2.1 14 x)) (fun q j y => OL_forgetSaid_2 N q (nI n) (nI j) y) (fun q j y => L_forgetSaid_2 N q (nI n) (nI j) y) (fun q j y hj hI ih => ?_) 0 N S (by omega) (by omega) ⟨rfr.refl, fun x => ⟨fun z => absurd z (by omega), fun _ => rfl⟩⟩
  unfold OL_forgetSaid_2 L_forgetSaid_2 OB_forgetSaid_2 B_forgetSaid_2
  by_cases e : j = 13
  · refine wp_pos (by rw [n_le' (by omega) (by omega)]; omega) ?_
    subst e
    exact wp_fin trivial hI
  · simp only [n_mul, n_add]
    obtain ⟨c1, c2⟩ := clear_ok (N := N) (S := y) (p := 416 + 13 * n + j) (by omega)
    rw [c2]
    refine wp_neg (by rw [n_le' (by omega) (by omega)]; omega) (wp_and c1 ?_)
    unfold O_forgetSaid_22 F_forgetSaid_22
    rw [n_add]
    refine ih _ ⟨hI.1.trans (rfr.one (by decide)), fun x => ?_⟩ (by omega)
    rw [A_same]
    by_cases c : x = 416 + 13 * n + j
    · rw [c, upd_same]
      exact ⟨fun _ => rfl, fun z => absurd z (by omega)⟩
    · rw [upd_other _ _ c]
      exact ⟨fun z => (hI.2 x).1 (by omega), fun z => (hI.2 x).2 (by omega)⟩
end
end

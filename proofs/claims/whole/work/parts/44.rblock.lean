section
/-! THE REFERENCE'S HASH OVER BYTES; a part out of the message; a block's id -/
def hT (S : rS) (t : List Nat) : Prop := S.1 7 = nI t.length ∧ ∀ i, i < t.length → S.2.1 6 i = nI (bg t i)
/-- the digest that stands in row 8 -/
def dS (S : rS) (d : List Nat) : Prop := ∀ i, i < 32 → byt (sm (S.2.1 8) (i / 8)) (i % 8) = nI (bg d i)
section
variable {N T : Nat} {S : rS} {t m : List Nat} {ps : List (List Nat)}
theorem hT0 : hT (rsI S 7 (nI 0)) [] := ⟨I_same _ _ _, fun i hi => absurd hi (by simp)⟩
theorem hashByte_ok {x : Int32} (h : hT S t) (hl : t.length < 1100) : wp (o_hashByte N S x) (f_hashByte N S x) (fun S' => rfr [6, 7] S S' ∧ hT S' (t ++ [nb x])) := by
  obtain ⟨p1, p2⟩ := hashByte_hs (N := N) (S := S) (h := S.2.1 6) (n := t.length) x hl
  rw [hs_self h.1] at p1 p2
  refine wp_fin p1 ?_
  rw [p2]
  refine ⟨rfr_hs _ _ _, ?_, fun i hi => ?_⟩
  · rw [hs_7]; simp
  · rw [hs_6, bg_snoc]
    simp only [List.length_append, List.length_cons, List.length_nil, Nat.zero_add] at hi
    by_cases e : i = t.length
    · rw [e, upd_same, if_neg (by omega), if_pos rfl]; exact (nb_spec x).2
    · rw [upd_other _ _ e, if_pos (by omega)]; exact h.2 i (by omega)
theorem digest_t (hN : 100 ≤ N) (h : hT S t) (hl : t.length ≤ 1028) (hK : rK S) : wp (o_digest N S) (f_digest N S) (fun S' => rfr [6, 7, 8, 9] S S' ∧ dS S' (shaB t)) := by
  obtain ⟨a, b, c⟩ := digest_fr (N := N) (f := fun i => nI (bg t i)) hN hl h.1 h.2 hK
  exact wp_fin a ⟨b, fun i hi => by rw [byt_dig hi, c, shaB_bg t hi]⟩
theorem part_ok {a n : Nat} (h : mB S m) (hq : rQ S ps []) (hN : 1000 ≤ N) (ha : a + n ≤ m.length) (hn : ps.flatten.length + n ≤ 600) (hp : ps.length < 66) : wp (o_part N S (nI a) (nI n)) (f_part N S (nI a) (nI n)) (fun S' => rfr [15, 16, 17] S S' ∧ rQ S' (ps ++ [sl m a n]) []) := by
  have h2 := h.2.1
  refine wp_seq (Q := fun z => rfr [15, 16, 17] S z.2 ∧ rQ z.2 ps (sl m a n)) ?_ ?_
  · refine wp_loop (K := n) (fun j s => rfr [15, 16, 17] S s ∧ rQ s ps (sl m a j)) (fun n' j s => OL_part_2 N n' (nI a) (nI n) (nI j) s) (fun n' j s => L_part_2 N n' (nI a) (nI n) (nI j) s) (fun n' j s hj hI ih => ?_) 0 N S (by omega) (by omega) ⟨rfr.refl, hq⟩
    by_cases e : j = n
    · subst e
      exact wp_pos (by rw [n_le' (by omega) (by omega)]; omega) (wp_fin trivial hI)
    · refine wp_neg (by rw [n_le' (by omega) (by omega)]; omega) ?_
      have hm := h.fr hI.1 (by decide) (by decide)
      simp only [n_add]
      rw [hm.at_ (i := a + j) (by omega)]
      refine wp_and ((n_in (by omega)).2 (by omega)) (wp_call (partByte_ok (x := bg m (a + j)) hI.2 (by simp [sl_len]; simp at hn; omega)) (fun q => ?_))
      have es : sl m a j ++ [bg m (a + j)] = sl m a (j + 1) := by
        unfold sl mkB
        rw [List.range_succ, List.map_append]
        rfl
      rw [es] at q
      have := ih _ ⟨hI.1.trans (q.1.mono (by decide)), q.2⟩ (by omega)
      unfold O_part_19 F_part_19
      rw [n_add]
      exact this
  · rintro z ⟨z1, z2⟩
    show wp (O_part_25 N z.2) (F_part_25 N z.2) _
    exact wp_call (endPart_ok z2 hp) (fun q => wp_ret ⟨z1.trans (q.1.mono (by decide)), q.2⟩)
/-- only place p has changed -/
def pO1 (p : Nat) (S S' : rS) : Prop := (∀ q, q ≠ p → S'.2.1 14 q = S.2.1 14 q) ∧ (∀ q i, q ≠ p → i < 696 → lby (S'.2.2 12) (696 * q + i) = lby (S.2.2 12) (696 * q + i)) ∧ ∀ q k, q ≠ p → k < 32 → lby (S'.2.2 13) (32 * q + k) = lby (S.2.2 13) (32 * q + k)
theorem pO1.refl {p : Nat} : pO1 p S S := ⟨fun _ _ => rfl, fun _ _ _ _ => rfl, fun _ _ _ _ => rfl⟩
theorem pO1.trans {p : Nat} {S1 S2 : rS} (h : pO1 p S S1) (h' : pO1 p S1 S2) : pO1 p S S2 := ⟨fun q hq => (h'.1 q hq).trans (h.1 q hq), fun q i hq hi => (h'.2.1 q i hq hi).trans (h.2.1 q i hq hi), fun q i hq hi => (h'.2.2 q i hq hi).trans (h.2.2 q i hq hi)⟩
theorem pO1.fr {p : Nat} {L : List Nat} {S1 : rS} (h : rfr L S S1) (h1 : 12 ∉ L) (h2 : 13 ∉ L) (h3 : 14 ∉ L) : pO1 p S S1 := by
  unfold pO1
  rw [h.l 12 h1, h.l 13 h2, h.a 14 h3]
  exact pO1.refl
def bR (S : rS) (p : Nat) (b : List Nat) : Prop := S.2.1 14 p = nI b.length ∧ wB S p b ∧ dB S p (idB b)
theorem identify_ok {p : Nat} {b : List Nat} (hN : 1000 ≤ N) (hp : p < 1354) (h : wB S p b) (hl : 101 ≤ b.length) (hb : isB b) (hK : rK S) : wp (o_identify N S (nI p)) (f_identify N S (nI p)) (fun S' => rfr [6, 7, 8, 9, 13] S S' ∧ pO1 p S S' ∧ dB S' p (idB b)) := by
  have f0 : rfr [6, 7, 8, 9, 13] S (rsI S 7 (nI 0)) := rfr.oneI (by decide)
  refine wp_seq (Q := fun z => z = (0, nI p, z.2.2) ∧ rfr [6, 7] S z.2.2 ∧ hT z.2.2 (sl b 0 101)) ?_ ?_
  · refine wp_loop (K := 101) (fun j s => rfr [6, 7] S s ∧ hT s (sl b 0 j)) (fun n j s => OL_identify_7 N n (nI p) (nI j) s) (fun n j s => L_identify_7 N n (nI p) (nI j) s) (fun n j s hj hI ih => ?_) 0 N _ (by omega) (by omega) ⟨rfr.oneI (by decide), hT0⟩
    by_cases e : j = 101
    · refine wp_pos (by rw [n_le' (by omega) (by omega)]; omega) ?_
      subst e
      exact (wp_fin trivial ⟨rfl, hI⟩)
    · refine wp_neg (by rw [n_le' (by omega) (by omega)]; omega) ?_
      obtain ⟨a1, a2⟩ := blockByte_ok (N := N) (S := s) (p := p) (i := j) hp (by omega)
      rw [a2, hI.1.l 12 (by decide), h j (by omega)]
      refine wp_and a1 (wp_call (hashByte_ok (x := nI (bg b j)) hI.2 (by rw [sl_len]; omega)) (fun q => ?_))
      have es : sl b 0 j ++ [nb (nI (bg b j))] = sl b 0 (j + 1) := by
        rw [nb_n, Nat.mod_eq_of_lt (hb j)]
        unfold sl mkB
        rw [List.range_succ, List.map_append]
        simp
      rw [es] at q
      have := ih _ ⟨hI.1.trans q.1, q.2⟩ (by omega)
      unfold O_identify_23 F_identify_23
      rw [n_add]
      exact this
  · rintro z ⟨z1, z2, z3⟩
    rw [z1]
    show wp (O_identify_29 N (nI p) z.2.2) (F_identify_29 N (nI p) z.2.2) _
    have hK2 := hK.fr z2 (by decide) (by decide)
    unfold O_identify_29 F_identify_29
    refine wp_call (digest_t (by omega) z3 (by rw [sl_len]; omega) hK2) (fun q => ?_)
    have q2 := q.2
    have q1 := q.1
    generalize f_digest N z.2.2 = S2 at q1 q2 ⊢
    have g0 : rfr [6, 7, 8, 9, 13] S S2 := (z2.mono (by decide)).trans (q1.mono (by decide))
    unfold O_identify_33 F_identify_33
    refine wp_seq (Q := fun y : Nat × rS => rfr [6, 7, 8, 9, 13] S y.2 ∧ pO1 p S y.2 ∧ dB y.2 p (idB b)) ?_ (fun y hy => wp_fin trivial hy)
    refine wp_loop (K := 4) (fun j s => rfr [13] S2 s ∧ (∀ r, lby (s.2.2 13) r = if 32 * p ≤ r ∧ r < 32 * p + 8 * j then nI (bg (idB b) (r - 32 * p)) else lby (S2.2.2 13) r)) (fun n j s => OL_identify_35 N n (nI p) (nI j) s) (fun n j s => L_identify_35 N n (nI p) (nI j) s) (fun n j s hj hI ih => ?_) 0 N S2 (by omega) (by omega) ⟨rfr.refl, fun r => by rw [if_neg (by omega)]⟩
    by_cases e : j = 4
    · refine wp_pos (by rw [n_le' (by omega) (by omega)]; omega) ?_
      subst e
      refine (wp_fin trivial ⟨g0.trans (hI.1.mono (by decide)), ⟨fun q hq => ?_, fun q i hq hi => ?_, fun q k hq hk => ?_⟩, fun k hk => ?_⟩)
      · show s.2.1 14 q = _
        rw [hI.1.a 14 (by decide), g0.a 14 (by decide)]
      · show lby (s.2.2 12) _ = _
        rw [hI.1.l 12 (by decide), g0.l 12 (by decide)]
      · show lby (s.2.2 13) _ = _
        rw [hI.2, if_neg (by omega), q1.l 13 (by decide), z2.l 13 (by decide)]
      · show lby (s.2.2 13) _ = _
        rw [hI.2, if_pos (by omega)]
        congr 2
        omega
    · refine wp_neg (by rw [n_le' (by omega) (by omega)]; omega) ?_
      obtain ⟨a1, a2⟩ := sum_sm (N := N) (S := s) (j := j) (by omega)
      rw [a2, n_mul, n_add, n_clamp (by omega), n_add]
      refine wp_and a1 (wp_and ((n_in (by omega)).2 (by omega)) (ih _ ⟨hI.1.trans (rfr.oneL (by decide)), fun r => ?_⟩ (by omega)))
      rw [L_same]
      by_cases c : 32 * p + 8 * j ≤ r ∧ r < 32 * p + 8 * j + 8
      · rw [if_pos (by omega), lby_eq (a := 4 * p + j) (b := r % 8) (by omega) rfl, updL_same, hI.1.a 8 (by decide)]
        have := q2 (r - 32 * p) (by omega)
        rw [show (r - 32 * p) / 8 = j by omega, show (r - 32 * p) % 8 = r % 8 by omega] at this
        exact this
      · have e2 : lby (vp_updL (s.2.2 13) (4 * p + j) (sm (s.2.1 8) j)) r = lby (s.2.2 13) r := by
          unfold lby
          rw [updL_other _ _ (by omega)]
        rw [e2, hI.2 r]
        by_cases c2 : 32 * p ≤ r ∧ r < 32 * p + 8 * j
        · rw [if_pos c2, if_pos (by omega)]
        · rw [if_neg c2, if_neg (by omega)]
end
end

section
/-! THE REFERENCE READS EVIDENCES -/
theorem mB.at_ {S : rS} {m : List Nat} (h : mB S m) {i : Nat} (hi : i < m.length) : S.2.1 32 (nI i).toNatClampNeg = nI (bg m i) := by
  have := h.2.1
  rw [n_clamp (by omega)]
  exact h.2.2.1 i hi
section
variable {N T a : Nat} {S : rS} {m : List Nat}
theorem isLess_ok {p q : Nat} (h : mB S m) (hN : 100 ≤ N) (hp : p + 32 ≤ m.length) (hq : q + 32 ≤ m.length) : wp (o_isLess N S (nI p) (nI q)) (f_isLess N S (nI p) (nI q)) (fun v => (lessB m p q ∧ v = nI 1) ∨ (¬ lessB m p q ∧ v = nI 0)) := by
  have h2 := h.2.1
  have h4 := h.2.2.2
  refine wp_seq (Q := fun z => ∃ k, k ≤ 31 ∧ (∀ j, j < k → bg m (p + j) = bg m (q + j)) ∧ (k = 31 ∨ bg m (p + k) ≠ bg m (q + k)) ∧ z = (0, nI p, nI q, nI k, ())) ?_ ?_
  · refine wp_loop (K := 31) (fun j (s : Unit) => ∀ i, i < j → bg m (p + i) = bg m (q + i)) (fun n j s => OL_isLess_2 N n (nI p) (nI q) (nI j) S) (fun n j s => L_isLess_2 N n (nI p) (nI q) (nI j) S) (fun n j s hj hI ih => ?_) 0 N () (by omega) (by omega) (fun i hi => absurd hi (by omega))
    by_cases e : j = 31
    · refine wp_pos (by rw [n_le' (by omega) (by omega)]; omega) ?_
      subst e
      exact (wp_fin trivial ⟨31, (by omega), hI, Or.inl rfl, rfl⟩)
    · refine wp_neg (by rw [n_le' (by omega) (by omega)]; omega) ?_
      have t1 := h4 (p + j)
      have t2 := h4 (q + j)
      simp only [n_add]
      rw [h.at_ (i := p + j) (by omega), h.at_ (i := q + j) (by omega)]
      refine wp_and ((n_in (by omega)).2 (by omega)) (wp_and ((n_in (by omega)).2 (by omega)) (wp_ite (fun c => ?_) (fun c => ?_)))
      · rw [n_eq' (by omega) (by omega)] at c
        exact ih () (fun i hi => by
          by_cases e2 : i = j
          · rw [e2]; exact c
          · exact hI i (by omega)) (by omega)
      · rw [n_eq' (by omega) (by omega)] at c
        exact wp_fin trivial ⟨j, (by omega), hI, Or.inr c, rfl⟩
  · rintro z ⟨k, k1, k2, k3, rfl⟩
    have t1 := h4 (p + k)
    have t2 := h4 (q + k)
    show wp (O_isLess_33 N (nI p) (nI q) (nI k) S) (F_isLess_33 N (nI p) (nI q) (nI k) S) _
    unfold O_isLess_33 F_isLess_33
    simp only [n_add]
    rw [h.at_ (i := p + k) (by omega), h.at_ (i := q + k) (by omega)]
    refine wp_and ((n_in (by omega)).2 (by omega)) (wp_and ((n_in (by omega)).2 (by omega)) (wp_ite (fun c => ?_) (fun c => ?_)))
    · rw [n_le' (by omega) (by omega)] at c
      refine wp_fin rfl (Or.inr ⟨?_, rfl⟩)
      rintro ⟨i, i1, i2, i3⟩
      by_cases e1 : i < k
      · have := k2 i e1
        omega
      · by_cases e2 : i = k
        · subst e2; omega
        · have := i2 k (by omega)
          omega
    · rw [n_le' (by omega) (by omega)] at c
      exact wp_fin rfl (Or.inl ⟨⟨k, (by omega), k2, (by omega)⟩, rfl⟩)
theorem evidenceAt_ok (h : mB S m) (hT : S.1 0 = nI T) (hT2 : T ≤ 13) (hN : 100 ≤ N) (ha : a < 2000) : wp (o_evidenceAt N S (nI a)) (f_evidenceAt N S (nI a)) (fun v => (evOK T m a ∧ v = nI (evSz m a)) ∨ (¬ evOK T m a ∧ v = nI 0)) := by
  have h1 := h.1
  have h2 := h.2.1
  have h4 := h.2.2.2
  have t0 := h4 a
  have t1 := h4 (a + 1)
  have t2 := h4 (a + 2)
  have t3 := h4 (a + 3)
  have t4 := h4 (a + 4)
  have t5 := h4 (a + 5)
  have t6 := h4 (a + 6)
  have t38 := h4 (a + 38)
  have et : tw m (a + 2) = 256 * bg m (a + 2) + bg m (a + 3) := rfl
  have no : ∀ {P : Prop}, (evOK T m a → False) → ((evOK T m a ∧ P) ∨ (¬ evOK T m a ∧ nI 0 = nI 0)) := fun q => Or.inr ⟨q, rfl⟩
  unfold o_evidenceAt f_evidenceAt O_evidenceAt_0 F_evidenceAt_0
  simp only [h1, hT, n_add]
  refine wp_ite (fun c => ?_) (fun c => ?_) <;> rw [n_lt' (by omega) (by omega)] at c
  · exact wp_fin trivial (no fun q => by have := q.1; omega)
  rw [h.at_ (i := a) (by omega), h.at_ (i := a + 1) (by omega), h.at_ (i := a + 4) (by omega)]
  refine wp_and ((n_in (by omega)).2 (by omega)) (wp_ite (fun c1 => ?_) (fun c1 => ?_)) <;> rw [n_le' (by omega) (by omega)] at c1
  · exact wp_fin trivial (no fun q => by have := q.2.1; omega)
  refine wp_and ((n_in (by omega)).2 (by omega)) (wp_ite (fun c2 => ?_) (fun c2 => ?_)) <;> rw [n_lt' (by omega) (by omega)] at c2
  · exact wp_fin trivial (no fun q => by have := q.2.2.1; omega)
  refine wp_and ((n_in (by omega)).2 (by omega)) (wp_ite (fun c3 => ?_) (fun c3 => ?_)) <;> rw [n_lt' (by omega) (by omega)] at c3
  · exact wp_fin trivial (no fun q => by have := q.2.2.2.1; omega)
  obtain ⟨b1, b2⟩ := heightAt_ok (N := N) (a := a + 2) h (by omega)
  rw [b2]
  have hx : (if a + 2 + 2 ≤ m.length ∧ tw m (a + 2) ≤ 41 then tw m (a + 2) else 0) < 65536 := by
    split <;> omega
  refine wp_and b1 (wp_ite (fun c4 => ?_) (fun c4 => ?_)) <;> rw [n_eq0 (by omega)] at c4
  · refine wp_fin trivial (no fun q => ?_)
    have := q.2.2.2.2.1
    unfold hOK at this
    rw [if_pos (by omega)] at c4
    omega
  have c4' : tw m (a + 2) ≤ 41 ∧ 1 ≤ tw m (a + 2) := by
    by_cases e : a + 2 + 2 ≤ m.length ∧ tw m (a + 2) ≤ 41
    · rw [if_pos e] at c4; omega
    · rw [if_neg e] at c4; omega
  refine wp_and ((n_in (by omega)).2 (by omega)) (wp_ite (fun c5 => ?_) (fun c5 => ?_)) <;> rw [n_le' (by omega) (by omega)] at c5
  rotate_left
  · exact wp_fin trivial (no fun q => by have := q.2.2.2.2.2.1; omega)
  obtain ⟨d1, d2⟩ := endAt_ok (N := N) (a := a + 5) h (by omega)
  rw [d2]
  by_cases e0 : a + 5 < m.length ∧ bg m (a + 5) = 0
  · rw [if_pos e0]
    obtain ⟨f1, f2⟩ := endAt_ok (N := N) (a := a + 5 + 1) h (by omega)
    simp only [n_add]
    rw [f2]
    refine wp_and d1 (wp_neg (by rw [n_le0 (by omega)]; omega) (wp_and f1 ?_))
    rw [show a + 5 + 1 = a + 6 from rfl]
    by_cases e1 : a + 6 + 33 ≤ m.length ∧ bg m (a + 6) = 1
    · rw [if_neg (by omega : ¬ (a + 6 < m.length ∧ bg m (a + 6) = 0)), if_pos e1]
      unfold O_evidenceAt_97 F_evidenceAt_97
      simp only [n_add]
      rw [h.at_ (i := a + 1) (by omega)]
      refine wp_pos (by decide) (wp_pos (by trivial) (wp_and ((n_in (by omega)).2 (by omega)) (wp_ite (fun c6 => ?_) (fun c6 => ?_)))) <;> rw [n_eq' (by omega) (by omega)] at c6
      · refine wp_pos rfl (wp_fin trivial (no fun q => ?_))
        rcases q.2.2.2.2.2.2 with z | z <;> omega
      · refine wp_neg (by decide) (wp_fin trivial (Or.inl ⟨⟨(by omega), (by omega), (by omega), (by omega), ⟨(by omega), (by omega)⟩, (by omega), Or.inl (by omega)⟩, ?_⟩))
        unfold evSz
        rw [if_neg (by omega)]
        rfl
    · have ez : (if a + 6 < m.length ∧ bg m (a + 6) = 0 then 1 else if a + 6 + 33 ≤ m.length ∧ bg m (a + 6) = 1 then 33 else 0) < 33 := by
        rw [if_neg e1]
        split <;> omega
      refine wp_neg (by rw [n_le' (by omega) (by omega)]; omega) (wp_fin trivial (no fun q => ?_))
      have := q.1
      rcases q.2.2.2.2.2.2 with z | z <;> omega
  · rw [if_neg e0]
    by_cases e1 : a + 5 + 33 ≤ m.length ∧ bg m (a + 5) = 1
    · rw [if_pos e1]
      obtain ⟨f1, f2⟩ := endAt_ok (N := N) (a := a + 5 + 33) h (by omega)
      simp only [n_add]
      rw [f2]
      refine wp_and d1 (wp_neg (by rw [n_le0 (by omega)]; omega) (wp_and f1 ?_))
      rw [show a + 5 + 33 = a + 38 from rfl]
      by_cases e2 : a + 38 + 33 ≤ m.length ∧ bg m (a + 38) = 1
      · rw [if_neg (by omega : ¬ (a + 38 < m.length ∧ bg m (a + 38) = 0)), if_pos e2]
        unfold O_evidenceAt_97 F_evidenceAt_97
        simp only [n_add]
        obtain ⟨g1, g2⟩ := isLess_ok (N := N) (p := a + 6) (q := a + 39) h hN (by omega) (by omega)
        refine wp_pos (by decide) (wp_neg (by decide) (wp_and g1 ?_))
        rcases g2 with ⟨z, g2⟩ | ⟨z, g2⟩
        · rw [g2]
          refine wp_neg (by decide) (wp_fin trivial (Or.inl ⟨⟨(by omega), (by omega), (by omega), (by omega), ⟨(by omega), (by omega)⟩, (by omega), Or.inr ⟨(by omega), (by omega), (by omega), z⟩⟩, ?_⟩))
          unfold evSz
          rw [if_pos (by omega)]
          rfl
        · rw [g2]
          refine wp_pos rfl (wp_fin trivial (no fun q => ?_))
          rcases q.2.2.2.2.2.2 with y | y
          · omega
          · exact z y.2.2.2
      · have ez : (if a + 38 < m.length ∧ bg m (a + 38) = 0 then 1 else if a + 38 + 33 ≤ m.length ∧ bg m (a + 38) = 1 then 33 else 0) < 33 := by
          rw [if_neg e2]
          split <;> omega
        refine wp_neg (by rw [n_le' (by omega) (by omega)]; omega) (wp_fin trivial (no fun q => ?_))
        have := q.1
        rcases q.2.2.2.2.2.2 with z | z <;> omega
    · rw [if_neg e1]
      refine wp_and d1 (wp_pos (by decide) (wp_neg (by decide) (wp_fin trivial (no fun q => ?_))))
      have := q.1
      rcases q.2.2.2.2.2.2 with z | z <;> omega
end
end

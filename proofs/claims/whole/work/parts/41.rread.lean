section
/-! THE REFERENCE READS A MESSAGE: row 32, its size number 33 -/
def mB (S : rS) (m : List Nat) : Prop := S.1 33 = nI m.length ∧ m.length ≤ 1000 ∧ (∀ i, i < m.length → S.2.1 32 i = nI (bg m i)) ∧ isB m
theorem mB.fr {L : List Nat} {S S1 : rS} {m : List Nat} (h : mB S m) (hf : rfr L S S1) (h1 : 32 ∉ L) (h2 : 33 ∉ L) : mB S1 m := ⟨by rw [hf.i 33 h2]; exact h.1, h.2.1, fun i hi => by rw [hf.a 32 h1]; exact h.2.2.1 i hi, h.2.2.2⟩
section
variable {N T a : Nat} {S : rS} {m : List Nat}
theorem heightAt_ok (h : mB S m) (ha : a < 2000) : wp (o_heightAt N S (nI a)) (f_heightAt N S (nI a)) (fun v => v = nI (if a + 2 ≤ m.length ∧ tw m a ≤ 41 then tw m a else 0)) := by
  obtain ⟨h1, h2, h3, h4⟩ := h
  have t1 := h4 a
  have t2 := h4 (a + 1)
  unfold o_heightAt f_heightAt O_heightAt_0 F_heightAt_0
  simp only [h1, n_add]
  refine wp_ite (fun c => ?_) (fun c => ?_)
  · rw [n_lt' (by omega) (by omega)] at c
    refine wp_neg (by decide) (wp_fin trivial ?_)
    show nI 0 = _
    rw [if_neg (by omega)]
  · rw [n_lt' (by omega) (by omega)] at c
    rw [n_clamp (by omega), n_clamp (by omega), h3 a (by omega), h3 (a + 1) (by omega), n_two t1 t2]
    refine wp_and ((n_in (by omega)).2 (by omega)) (wp_and ((n_in (by omega)).2 (by omega)) ?_)
    refine wp_ite (fun c2 => ?_) (fun c2 => ?_)
    · rw [n_lt' (by omega) (by omega)] at c2
      refine wp_fin trivial ?_
      show nI 0 = _
      unfold tw
      rw [if_neg (by omega)]
    · rw [n_lt' (by omega) (by omega)] at c2
      refine wp_fin trivial ?_
      show nI (256 * bg m a + bg m (a + 1)) = _
      unfold tw
      rw [if_pos (by omega)]
theorem endAt_ok (h : mB S m) (ha : a < 2000) : wp (o_endAt N S (nI a)) (f_endAt N S (nI a)) (fun v => v = nI (if a < m.length ∧ bg m a = 0 then 1 else if a + 33 ≤ m.length ∧ bg m a = 1 then 33 else 0)) := by
  obtain ⟨h1, h2, h3, h4⟩ := h
  have t1 := h4 a
  unfold o_endAt f_endAt O_endAt_0 F_endAt_0
  simp only [h1]
  refine wp_ite (fun c => ?_) (fun c => ?_)
  · rw [n_le' (by omega) (by omega)] at c
    refine wp_fin trivial ?_
    show nI 0 = _
    rw [if_neg (by omega), if_neg (by omega)]
  · rw [n_le' (by omega) (by omega)] at c
    rw [n_clamp (by omega), h3 a (by omega)]
    refine wp_and ((n_in (by omega)).2 (by omega)) (wp_ite (fun c2 => ?_) (fun c2 => ?_))
    · rw [n_le' (by omega) (by omega)] at c2
      refine wp_and ((n_in (by omega)).2 (by omega)) (wp_ite (fun c3 => ?_) (fun c3 => ?_))
      · rw [n_eq' (by omega) (by omega)] at c3
        unfold O_endAt_36 F_endAt_36
        simp only [h1, n_add]
        refine wp_ite (fun c4 => ?_) (fun c4 => ?_)
        · rw [n_le' (by omega) (by omega)] at c4
          refine wp_fin trivial ?_
          show nI 33 = _
          rw [if_neg (by omega), if_pos (by omega)]
        · rw [n_le' (by omega) (by omega)] at c4
          refine wp_fin trivial ?_
          show nI 0 = _
          rw [if_neg (by omega), if_neg (by omega)]
      · rw [n_eq' (by omega) (by omega)] at c3
        unfold O_endAt_36 F_endAt_36
        simp only [h1, n_add]
        refine wp_pos ((n_le' (by omega) (by omega)).2 (by omega)) (wp_fin trivial ?_)
        show nI 1 = _
        rw [if_pos (by omega)]
    · rw [n_le' (by omega) (by omega)] at c2
      refine wp_fin trivial ?_
      show nI 0 = _
      rw [if_neg (by omega), if_neg (by omega)]
theorem isPaymentAt_ok (h : mB S m) (ha : a < 2000) : wp (o_isPaymentAt N S (nI a)) (f_isPaymentAt N S (nI a)) (fun v => (payOK m a ∧ v = nI 1) ∨ (¬ payOK m a ∧ v = nI 0)) := by
  obtain ⟨h1, h2, h3, h4⟩ := h
  have t0 := h4 a
  have t1 := h4 (a + 1)
  have t2 := h4 (a + 2)
  have t3 := h4 (a + 3)
  have t6 := h4 (a + 6)
  unfold o_isPaymentAt f_isPaymentAt O_isPaymentAt_0 F_isPaymentAt_0
  unfold payOK tw
  rw [show a + 2 + 1 = a + 3 from rfl]
  simp only [h1, n_add]
  refine wp_ite (fun c => ?_) (fun c => ?_)
  · rw [n_le' (by omega) (by omega)] at c
    rw [n_clamp (by omega), n_clamp (by omega), n_clamp (by omega), n_clamp (by omega), n_clamp (by omega), h3 a (by omega), h3 (a + 1) (by omega), h3 (a + 2) (by omega), h3 (a + 3) (by omega), h3 (a + 6) (by omega), n_two t2 t3]
    refine wp_and ((n_in (by omega)).2 (by omega)) (wp_and ((n_in (by omega)).2 (by omega)) (wp_and ((n_in (by omega)).2 (by omega)) ?_))
    refine wp_ite (fun c1 => ?_) (fun c1 => ?_) <;> rw [n_le' (by omega) (by omega)] at c1
    · exact wp_fin rfl (Or.inr ⟨by omega, rfl⟩)
    refine wp_and ((n_in (by omega)).2 (by omega)) (wp_ite (fun c2 => ?_) (fun c2 => ?_)) <;> rw [n_le' (by omega) (by omega)] at c2
    · exact wp_fin rfl (Or.inr ⟨by omega, rfl⟩)
    refine wp_and ((n_in (by omega)).2 (by omega)) (wp_and ((n_in (by omega)).2 (by omega)) (wp_ite (fun c3 => ?_) (fun c3 => ?_))) <;> rw [n_eq' (by omega) (by omega)] at c3
    · exact wp_fin rfl (Or.inr ⟨by omega, rfl⟩)
    refine wp_ite (fun c4 => ?_) (fun c4 => ?_) <;> rw [n_le0 (by omega)] at c4
    · exact wp_fin rfl (Or.inr ⟨by omega, rfl⟩)
    refine wp_ite (fun c5 => ?_) (fun c5 => ?_) <;> rw [n_lt' (by omega) (by omega)] at c5
    · exact wp_fin rfl (Or.inr ⟨by omega, rfl⟩)
    refine wp_and ((n_in (by omega)).2 (by omega)) (wp_ite (fun c6 => ?_) (fun c6 => ?_)) <;> rw [n_le0 (by omega)] at c6
    · exact wp_fin rfl (Or.inr ⟨by omega, rfl⟩)
    refine wp_and ((n_in (by omega)).2 (by omega)) (wp_ite (fun c7 => ?_) (fun c7 => ?_)) <;> rw [n_le' (by omega) (by omega)] at c7
    · exact wp_fin rfl (Or.inr ⟨by omega, rfl⟩)
    exact wp_fin rfl (Or.inl ⟨by omega, rfl⟩)
  · rw [n_le' (by omega) (by omega)] at c
    exact wp_fin trivial (Or.inr ⟨by omega, rfl⟩)
end
end

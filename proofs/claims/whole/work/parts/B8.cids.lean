section
/-! MESSAGES FOR THE SAME BLOCK -/
section
variable {N g H T : Nat} {s : cS} {a b : Nat} {o o' : Option (List Nat)}
theorem id_eq {J J' : Nat → Int64} {d d' : List Nat} (h : ∀ k, k < 32 → lby J k = nI (bg d k)) (h' : ∀ k, k < 32 → lby J' k = nI (bg d' k)) (hB : isB d) (hB' : isB d') (l : d.length = 32) (l' : d'.length = 32) : (∀ i, i < 4 → J i = J' i) ↔ d = d' := by
  refine ⟨fun e => by_ext (by rw [l, l']) (fun i hi => ?_), fun e i hi => ?_⟩
  · rw [l] at hi
    have x1 := h i hi
    have x2 := h' i hi
    have x3 : lby J i = lby J' i := by
      unfold lby
      rw [e (i / 8) (by omega)]
    rw [x1, x2] at x3
    have y1 := hB i
    have y2 := hB' i
    exact n_inj (by omega) (by omega) x3
  · refine byt_ext (fun k hk => ?_)
    have x1 := h (8 * i + k) (by omega)
    have x2 := h' (8 * i + k) (by omega)
    unfold lby at x1 x2
    rw [show (8 * i + k) / 8 = i by omega, show (8 * i + k) % 8 = k by omega] at x1 x2
    rw [x1, x2, e]
def idK (o : Option (List Nat)) : Prop := ∀ d, o = some d → d.length = 32 ∧ isB d
theorem isFor_c (h : nmC s a o) (h' : nmC s b o') (l : idK o) (l' : idK o') : wp (p_X5_isFor N g H T s a (some b)) (k_X5_isFor N g H T s a (some b)) (fun z => (z = nI 1 ∧ o = o' ∧ o ≠ none) ∨ (z = nI 0 ∧ ¬ (o = o' ∧ o ≠ none))) := by
  show wp (KO_X5_isFor_0 N g H T (some a) (some b) s) (KF_X5_isFor_0 N g H T (some a) (some b) s) _
  unfold KO_X5_isFor_0 KF_X5_isFor_0 KO_X5_isFor_68 KF_X5_isFor_68 KO_X5_isFor_69 KF_X5_isFor_69
  have c0 : (nI 0).toNatClampNeg = 0 := rfl
  have c1 : (nI 1).toNatClampNeg = 1 := rfl
  have c2 : (nI 2).toNatClampNeg = 2 := rfl
  have c3 : (nI 3).toNatClampNeg = 3 := rfl
  have nb0 : narrow .boolean (.int (nI 0)) = .int (nI 0) := congrArg Value.int (show nI 0 &&& 1 = nI 0 by decide)
  have nb1 : narrow .boolean (.int (nI 1)) = .int (nI 1) := congrArg Value.int (show nI 1 &&& 1 = nI 1 by decide)
  rw [zsome, zsome, c0, c1, c2, c3]
  refine wp_and someN (wp_and someN ?_)
  cases o with
  | none =>
    have h : cI s 5 a = nI 0 := h
    exact wp_pos (by rw [h]; rfl) (wp_fin nb0 (Or.inr ⟨rfl, fun q => q.2 rfl⟩))
  | some d =>
    have h : cI s 5 a = nI 1 ∧ ∀ k, k < 32 → lby (cJ s (a + 1)) k = nI (bg d k) := h
    refine wp_neg (by rw [h.1]; decide) ?_
    cases o' with
    | none =>
      have h' : cI s 5 b = nI 0 := h'
      exact wp_pos (by rw [h']; rfl) (wp_fin nb0 (Or.inr ⟨rfl, fun q => by cases q.1⟩))
    | some d' =>
      have h' : cI s 5 b = nI 1 ∧ ∀ k, k < 32 → lby (cJ s (b + 1)) k = nI (bg d' k) := h'
      refine wp_neg (by rw [h'.1]; decide) ?_
      have e := id_eq h.2 h'.2 (l d rfl).2 (l' d' rfl).2 (l d rfl).1 (l' d' rfl).1
      generalize cJ s (a + 1) = J at e ⊢
      generalize cJ s (b + 1) = J' at e ⊢
      have no : ∀ i, i < 4 → ¬ lg_cmp (J i) (J' i) = 0 → ¬ (some d = some d' ∧ some d ≠ none) := fun i hi c q => c (lgc.2 (e.2 (Option.some.inj q.1) i hi))
      refine wp_and ((n_in (by omega)).2 (by omega)) (wp_and ((n_in (by omega)).2 (by omega)) (wp_ite (fun q0 => ?_) (fun q0 => wp_fin nb0 (Or.inr ⟨rfl, no 0 (by decide) q0⟩))))
      refine wp_and ((n_in (by omega)).2 (by omega)) (wp_and ((n_in (by omega)).2 (by omega)) (wp_ite (fun q1 => ?_) (fun q1 => wp_fin nb0 (Or.inr ⟨rfl, no 1 (by decide) q1⟩))))
      refine wp_and ((n_in (by omega)).2 (by omega)) (wp_and ((n_in (by omega)).2 (by omega)) (wp_ite (fun q2 => ?_) (fun q2 => wp_fin nb0 (Or.inr ⟨rfl, no 2 (by decide) q2⟩))))
      refine wp_and ((n_in (by omega)).2 (by omega)) (wp_and ((n_in (by omega)).2 (by omega)) (wp_ite (fun q3 => ?_) (fun q3 => wp_fin nb0 (Or.inr ⟨rfl, no 3 (by decide) q3⟩))))
      refine wp_fin nb1 (Or.inl ⟨rfl, congrArg some (e.1 (fun i hi => ?_)), fun q => by cases q⟩)
      rcases (show i = 0 ∨ i = 1 ∨ i = 2 ∨ i = 3 by omega) with rfl | rfl | rfl | rfl
      · exact lgc.1 q0
      · exact lgc.1 q1
      · exact lgc.1 q2
      · exact lgc.1 q3
end
end

section
/-! CALLS OF THE CLASS: a block on the tape is sealed -/
section
variable {F N g H T n k : Nat} {s s0 s1 S X : cS} {ct : Nat → List Nat} {hd : List Nat} {w w' V W : Wd} {pe : Nat → Int} {a b p : Nat} {l m d : List Nat} {x y u v : Int32}
theorem evT_C : evC l p n = if evT l n p = 0 then -1 else (evT l n p : Int) := by
  unfold evC evT
  by_cases c : p + 39 ≤ n ∧ bg l (p + 5) = 0 ∧ bg l (p + 6) = 1
  · rw [if_pos c, if_pos (show bg l (p + 5) = 0 ∧ p + 39 ≤ n ∧ bg l (p + 6) = 1 from ⟨c.2.1, c.1, c.2.2⟩)]
    rfl
  · rw [if_neg c, if_neg (show ¬ (bg l (p + 5) = 0 ∧ p + 39 ≤ n ∧ bg l (p + 6) = 1) from fun z => c ⟨z.2.1, z.1, z.2.2⟩)]
    by_cases d : p + 71 ≤ n ∧ bg l (p + 5) = 1 ∧ bg l (p + 38) = 1
    · rw [if_pos d, if_pos (show bg l (p + 5) = 1 ∧ p + 71 ≤ n ∧ bg l (p + 38) = 1 from ⟨d.2.1, d.1, d.2.2⟩)]
      rfl
    · rw [if_neg d, if_neg (show ¬ (bg l (p + 5) = 1 ∧ p + 71 ≤ n ∧ bg l (p + 38) = 1) from fun z => d ⟨z.2.1, z.1, z.2.2⟩)]
      rfl
/-- where the payments start -/
theorem behind_c (hN : 100 ≤ N) (tb : cB s (g + 1) l) (tl : cL s (g + 1) = 1000) (ha : a + 101 ≤ n) (hn : n ≤ l.length) (hl : l.length ≤ 1000) : wp (p_X11_behindEvidences N g H T s g (nI a) (nI n)) (k_X11_behindEvidences N g H T s g (nI a) (nI n)) (fun v => (∃ z, (if bg l (a + 100) ≤ 2 then evZ l n (a + 101) (bg l (a + 100)) else none) = some z ∧ v = nI z.2 ∧ z.2 ≤ n) ∨ ((if bg l (a + 100) ≤ 2 then evZ l n (a + 101) (bg l (a + 100)) else none) = none ∧ v = -1)) := by
  have b8 := tb.2.2.2 (a + 100)
  show wp (KO_X11_behindEvidences_0 N g H T g (nI a) (nI n) s) (KF_X11_behindEvidences_0 N g H T g (nI a) (nI n) s) _
  unfold KO_X11_behindEvidences_0 KF_X11_behindEvidences_0
  rw [n_add, n_add, tb.an (a := a + 100) (by omega)]
  refine wp_and ((n_in (by omega)).2 (by omega)) ?_
  by_cases c : bg l (a + 100) ≤ 2
  rotate_left
  · rw [if_neg c]
    exact wp_neg (by rw [n_le' (by omega) (by omega)]; exact c) (wp_fin trivial (Or.inr ⟨rfl, rfl⟩))
  rw [if_pos c]
  refine wp_pos (by rw [n_le' (by omega) (by omega)]; exact c) (wp_seq (Q := fun Z : Nat × Int32 × Unit => (∃ z, evZ l n (a + 101) (bg l (a + 100)) = some z ∧ Z.1 = 1 ∧ Z.2.1 = nI z.2 ∧ z.2 ≤ n) ∨ (evZ l n (a + 101) (bg l (a + 100)) = none ∧ Z.1 = 0)) ?_ (fun Z hZ => ?_))
  rotate_left
  · unfold KOA_X11_behindEvidences_30 KA_X11_behindEvidences_30
    rcases hZ with ⟨z, z1, z2, z3, z4⟩ | ⟨z1, z2⟩
    · rw [if_neg (by omega), if_neg (by omega)]
      unfold KO_X11_behindEvidences_68 KF_X11_behindEvidences_68
      exact wp_fin trivial (Or.inl ⟨z, z1, z3, z4⟩)
    · rw [if_pos z2, if_pos z2]
      exact wp_fin trivial (Or.inr ⟨z1, rfl⟩)
  refine wp_loop (K := bg l (a + 100)) (fun j (P : Nat) => ∃ q, evZ l n (a + 101) j = some (q, P) ∧ P ≤ n) (fun f j P => KOL_X11_behindEvidences_30 N g H T f g (nI n) (nI (bg l (a + 100))) (nI P) (nI j) s) (fun f j P => KL_X11_behindEvidences_30 N g H T f g (nI n) (nI (bg l (a + 100))) (nI P) (nI j) s) (fun f j P hj hI ih => ?_) 0 N (a + 101) (by omega) (by omega) ⟨[], rfl, ha⟩
  obtain ⟨q, q1, q2⟩ := hI
  unfold KOL_X11_behindEvidences_30 KL_X11_behindEvidences_30 KOB_X11_behindEvidences_30 KB_X11_behindEvidences_30
  by_cases e : j = bg l (a + 100)
  · rw [← e]
    exact wp_pos (by rw [n_le' (by omega) (by omega)]; omega) (wp_fin trivial (Or.inl ⟨(q, P), q1, rfl, rfl, q2⟩))
  have zs := evidenceSize_ok (N := N) (g := g) (H := H) (T := T) (a := P) (e := n) tb hn (by omega)
  rw [evT_C] at zs
  rw [zs.2]
  refine wp_neg (by rw [n_le' (by omega) (by omega)]; omega) (wp_and zs.1 ?_)
  have tle := evT_le l n P
  by_cases c0 : evT l n P = 0
  · rw [if_pos c0]
    refine wp_neg (by decide) (wp_fin trivial (Or.inr ⟨?_, rfl⟩))
    have := evZ_none (evZ_no q1 c0) (bg l (a + 100) - (j + 1))
    rw [show j + 1 + (bg l (a + 100) - (j + 1)) = bg l (a + 100) by omega] at this
    exact this
  · rw [if_neg c0, iI_n, n_add, n_add]
    refine wp_pos (by rw [show (0 : Int32) = nI 0 from rfl, n_le' (by omega) (by omega)]; omega) (ih (P + evT l n P) ⟨_, evZ_yes q1 c0, ?_⟩ (by omega))
    show P + evT l n P ≤ n
    omega
/-- further on -/
theorem evZ_mono {q : List (List Nat) × Nat} {j : Nat} (h : evZ l n p j = some q) : ∀ d q', evZ l n p (j + d) = some q' → q.2 ≤ q'.2
  | 0, q', e => by
    have e : evZ l n p j = some q' := e
    rw [h] at e
    cases e
    exact Nat.le_refl _
  | d + 1, q', e => by
    cases e1 : evZ l n p (j + d) with
    | none =>
      have e : evZ l n p (j + d + 1) = some q' := e
      rw [evZ_none e1 1] at e
      cases e
    | some q1 =>
      have i := evZ_mono h d q1 e1
      have e : evZ l n p (j + d + 1) = some q' := e
      by_cases c : evT l n q1.2 = 0
      · rw [evZ_no e1 c] at e
        cases e
      · rw [evZ_yes e1 c] at e
        cases e
        show q.2 ≤ q1.2 + evT l n q1.2
        omega
theorem ev_step {B : List Nat} {E j : Nat} {Q q : List (List Nat) × Nat} (hE : evZ l n (a + 101) E = some Q) (hl : Q.2 ≤ a + B.length) (hb : ∀ i, 101 ≤ i → i < B.length → bg B i = bg l (a + i)) (q1 : evZ l n (a + 101) j = some q) (q2 : q.2 = a + evP B j) (h : j < E) : evT l n q.2 = evSz B (evP B j) ∧ evT l n q.2 ≠ 0 ∧ q.2 + evT l n q.2 ≤ Q.2 := by
  have n0 : evT l n q.2 ≠ 0 := fun c => by
    have := evZ_none (evZ_no q1 c) (E - (j + 1))
    rw [show j + 1 + (E - (j + 1)) = E by omega, hE] at this
    cases this
  have le : q.2 + evT l n q.2 ≤ Q.2 := evZ_mono (evZ_yes q1 n0) (E - (j + 1)) Q (by rw [show j + 1 + (E - (j + 1)) = E by omega]; exact hE)
  refine ⟨?_, n0, le⟩
  have lo := (evP_le B j).1
  have tl := evT_le l n q.2
  have e5 : bg l (q.2 + 5) = bg B (evP B j + 5) := by
    rw [hb (evP B j + 5) (by omega) (by omega), q2, show a + evP B j + 5 = a + (evP B j + 5) by omega]
  unfold evSz
  rw [← e5]
  unfold evT at n0 ⊢
  by_cases c : bg l (q.2 + 5) = 0 ∧ q.2 + 39 ≤ n ∧ bg l (q.2 + 6) = 1
  · rw [if_pos c, if_neg (by omega)]
  · rw [if_neg c] at n0 ⊢
    by_cases d : bg l (q.2 + 5) = 1 ∧ q.2 + 71 ≤ n ∧ bg l (q.2 + 38) = 1
    · rw [if_pos d, if_pos d.1]
    · rw [if_neg d] at n0
      exact absurd rfl n0
/-- the evidences as parts of a block -/
theorem ev_walk {B : List Nat} {E : Nat} {Q : List (List Nat) × Nat} (hE : evZ l n (a + 101) E = some Q) (hl : Q.2 ≤ a + B.length) (hb : ∀ i, 101 ≤ i → i < B.length → bg B i = bg l (a + i)) : ∀ j, j ≤ E → ∃ q, evZ l n (a + 101) j = some q ∧ q.2 = a + evP B j ∧ q.1 = evL B j ∧ (j < E → evT l n q.2 = evSz B (evP B j) ∧ evT l n q.2 ≠ 0 ∧ q.2 + evT l n q.2 ≤ Q.2)
  | 0, h0 => by
    refine ⟨([], a + 101), rfl, rfl, rfl, fun h => ?_⟩
    exact ev_step hE hl hb (q := ([], a + 101)) rfl rfl h
  | j + 1, hj => by
    obtain ⟨q, q1, q2, q3, q4⟩ := ev_walk hE hl hb j (by omega)
    obtain ⟨e1, e2, e3⟩ := q4 (by omega)
    have y := evZ_yes q1 e2
    have p2 : (q.1 ++ [sl l q.2 (evT l n q.2)], q.2 + evT l n q.2).2 = a + evP B (j + 1) := by
      show q.2 + evT l n q.2 = a + (evP B j + evSz B (evP B j))
      omega
    refine ⟨_, y, p2, ?_, fun h => ev_step hE hl hb y p2 h⟩
    show q.1 ++ [sl l q.2 (evT l n q.2)] = evL B (j + 1)
    unfold evL
    rw [List.range_succ, List.map_append, q3]
    show evL B j ++ [sl l q.2 (evT l n q.2)] = evL B j ++ [sl B (evP B j) (evSz B (evP B j))]
    have lo := (evP_le B j).1
    rw [e1]
    congr 2
    unfold sl
    refine mkB_congr (fun i hi => ?_)
    rw [hb (evP B j + i) (by omega) (by omega), q2, show a + evP B j + i = a + (evP B j + i) by omega]
end
end

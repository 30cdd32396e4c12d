section
/-! THE REFERENCE LOOKS AHEAD: rounds that others are in -/
/-- another node shows that it is in a round -/
def ahP (w : Wd) (n T r t : Nat) : Prop := wY w n 5 (vq 0 ((wN w n 1).toNat % 2) r t) ≠ none ∨ wY w n 5 (vq 1 ((wN w n 1).toNat % 2) r t) ≠ none ∨ (wY w n 4 (16 * ((wN w n 1).toNat % 2) + r) ≠ none ∧ ((wN w n 1).toNat + r) % T = t)
noncomputable def ahC (w : Wd) (n T r : Nat) : Nat → Nat
  | 0 => 0
  | t + 1 => ahC w n T r t + @ite _ (ahP w n T r t) (Classical.propDecidable _) 1 0
theorem ahC_le (w : Wd) (n T r : Nat) : ∀ t, ahC w n T r t ≤ t
  | 0 => Nat.le_refl _
  | t + 1 => by
    have := ahC_le w n T r t
    unfold ahC
    split <;> omega
section
variable {N n F H T : Nat} {S : rS} {w : Wd}
theorem proposer_ok {h r : Nat} (hS : S.1 0 = nI T) (hT : 1 ≤ T ∧ T ≤ 13) (hh : h + r < 1000) : o_proposer N S (nI h) (nI r) ∧ f_proposer N S (nI h) (nI r) = nI ((h + r) % T) := by
  show wp (O_proposer_0 N (nI h) (nI r) S) (F_proposer_0 N (nI h) (nI r) S) (fun v => v = nI ((h + r) % T))
  unfold O_proposer_0 F_proposer_0
  rw [hS, n_add, n_mod' (by omega) (by omega)]
  exact wp_fin ⟨by rw [n_eq0 (by omega)]; omega, trivial⟩ rfl
/-- the votes of a row: there or not -/
theorem vR_0 {p : Nat} {o : Option (List Nat)} (h : vR S p o) : (o = none ∧ S.2.1 60 p = nI 0) ∨ (o ≠ none ∧ ∃ k : Nat, k ≤ 1 ∧ S.2.1 60 p = nI (1 + k)) := by
  cases o with
  | none => exact Or.inl ⟨rfl, h⟩
  | some m => exact Or.inr ⟨(fun z => by cases z), bg m 5, h.2.1, h.1⟩
theorem ahead_18 {r : Nat} (hN : 1000 ≤ N) (h : rRp F H T S w) (hn : n < H) (hr : r < 16) (h1 : 0 ≤ wN w n 1 ∧ wN w n 1 ≤ 41) : wp (OL_ahead_18 N N (nI n) (nI r) (nI 0) (nI 0) S) (L_ahead_18 N N (nI n) (nI r) (nI 0) (nI 0) S) (fun z => z = (0, nI n, nI r, nI (ahC w n T r T), ())) := by
  have cb := h.1.1.b
  have eT : S.1 0 = nI T := h.co.2.1
  have e44 : S.2.1 44 n = nI (wN w n 1).toNat := h.hN hn (k := 1) (by decide) (by decide) h1.1
  obtain ⟨P, hP⟩ : ∃ P, P = (wN w n 1).toNat % 2 := ⟨_, rfl⟩
  have hP2 : P < 2 := by rw [hP]; exact Nat.mod_lt _ (by decide)
  refine wp_loop (K := T) (fun t (u : Nat) => u = ahC w n T r t) (fun q t u => OL_ahead_18 N q (nI n) (nI r) (nI u) (nI t) S) (fun q t u => L_ahead_18 N q (nI n) (nI r) (nI u) (nI t) S) (fun q t u ht hI ih => ?_) 0 N 0 (by omega) (by omega) rfl
  have ul := ahC_le w n T r t
  unfold OL_ahead_18 L_ahead_18 OB_ahead_18 B_ahead_18
  rw [eT]
  by_cases e : t = T
  · refine wp_pos (by rw [n_le' (by omega) (by omega)]; omega) ?_
    refine wp_fin trivial ?_
    rw [hI, e]
  have yes : ahP w n T r t → wp (O_ahead_107 N (fun a b c d => OL_ahead_18 N q a b c d S) (nI n) (nI r) (nI u) (nI t) S) (F_ahead_107 N (fun a b c d => L_ahead_18 N q a b c d S) (nI n) (nI r) (nI u) (nI t) S) (fun z => z = (0, nI n, nI r, nI (ahC w n T r T), ())) := fun g => by
    unfold O_ahead_107 F_ahead_107 O_ahead_112 F_ahead_112
    refine wp_neg (by decide) ?_
    unfold O_ahead_126 F_ahead_126
    rw [n_add, n_add]
    refine ih (u + 1) ?_ (by omega)
    rw [ahC, if_pos g, hI]
  have no : ¬ ahP w n T r t → wp (O_ahead_111 N (fun a b c d => OL_ahead_18 N q a b c d S) (nI n) (nI r) (nI u) (nI t) S) (F_ahead_111 N (fun a b c d => L_ahead_18 N q a b c d S) (nI n) (nI r) (nI u) (nI t) S) (fun z => z = (0, nI n, nI r, nI (ahC w n T r T), ())) := fun g => by
    unfold O_ahead_111 F_ahead_111 O_ahead_112 F_ahead_112
    refine wp_pos rfl ?_
    unfold O_ahead_126 F_ahead_126
    rw [n_add]
    refine ih u ?_ (by omega)
    rw [ahC, if_neg g, hI, Nat.add_zero]
  obtain ⟨v1, v2⟩ := voteAt_ok (N := N) (S := S) (n := n) (c := 0) (h := (wN w n 1).toNat) (r := r) (s := t) (by omega) (by omega)
  obtain ⟨x1, x2⟩ := voteAt_ok (N := N) (S := S) (n := n) (c := 1) (h := (wN w n 1).toNat) (r := r) (s := t) (by omega) (by omega)
  have ev : 13 * (32 * n + 16 * ((wN w n 1).toNat % 2) + r) + t + 5408 * 0 = vix n (vq 0 P r t) := by
    unfold vix vq
    split <;> omega
  have ex : 13 * (32 * n + 16 * ((wN w n 1).toNat % 2) + r) + t + 5408 * 1 = vix n (vq 1 P r t) := by
    unfold vix vq
    split <;> omega
  rw [ev] at v2
  rw [ex] at x2
  have q0 : vq 0 P r t < 832 := by unfold vq; omega
  have q1 : vq 1 P r t < 832 := by unfold vq; omega
  have l0 : vix n (vq 0 P r t) < 10816 := by unfold vix; split <;> omega
  have l1 : vix n (vq 1 P r t) < 10816 := by unfold vix; split <;> omega
  rw [n_clamp (by omega), e44, v2, x2, n_clamp (by omega), n_clamp (by omega)]
  refine wp_neg (by rw [n_le' (by omega) (by omega)]; omega) (wp_and ((n_in (by omega)).2 (by omega)) (wp_and v1 (wp_and ((n_in (by omega)).2 (by omega)) ?_)))
  rcases vR_0 (h.v n (vq 0 P r t) hn q0) with ⟨a1, a2⟩ | ⟨a1, k, a2, a3⟩
  rotate_left
  · rw [a3]
    exact wp_neg (by rw [n_eq0 (by omega)]; omega) (yes (Or.inl (by rw [← hP]; exact a1)))
  rw [a2]
  refine wp_pos rfl (wp_and ((n_in (by omega)).2 (by omega)) (wp_and x1 (wp_and ((n_in (by omega)).2 (by omega)) ?_)))
  rcases vR_0 (h.v n (vq 1 P r t) hn q1) with ⟨b1, b2⟩ | ⟨b1, k, b2, b3⟩
  rotate_left
  · rw [b3]
    exact wp_neg (by rw [n_eq0 (by omega)]; omega) (yes (Or.inr (Or.inl (by rw [← hP]; exact b1))))
  rw [b2, heldAt_ok (by omega), ← hP, n_add, show 0 + (32 * n + 16 * P + r) = 32 * n + (16 * P + r) by omega]
  have hh := h.hd n (16 * P + r) hn (by omega)
  obtain ⟨t1, t2⟩ := isThere_ok (N := N) (p := 32 * n + (16 * P + r)) (by omega) hh.1
  rw [t2]
  refine wp_pos rfl (wp_and ((n_in (by omega)).2 (by omega)) (wp_and trivial (wp_and t1 ?_)))
  cases hy : wY w n 4 (16 * P + r) with
  | none =>
    refine wp_pos rfl (no ?_)
    unfold ahP
    rw [← hP]
    rintro (z | z | z)
    · exact z a1
    · exact z b1
    · exact z.1 hy
  | some m =>
    obtain ⟨p1, p2⟩ := proposer_ok (N := N) (S := S) (T := T) (h := (wN w n 1).toNat) (r := r) eT (by omega) (by omega)
    have md : ((wN w n 1).toNat + r) % T < T := Nat.mod_lt _ (by omega)
    rw [p2]
    refine wp_neg (show ¬ nI 1 = 0 by decide) (wp_and ((n_in (by omega)).2 (by omega)) (wp_and p1 (wp_ite (fun c => ?_) (fun c => ?_)))) <;> rw [n_eq' (by omega) (by omega)] at c
    · refine yes (Or.inr (Or.inr ⟨?_, c⟩))
      rw [← hP, hy]
      exact fun z => by cases z
    · refine no ?_
      unfold ahP
      rw [← hP]
      rintro (z | z | z)
      · exact z a1
      · exact z b1
      · exact c z.2
/-- the highest round that enough others are in -/
theorem ahead_ok (hN : 1000 ≤ N) (h : rRp F H T S w) (hn : n < H) (h1 : 0 ≤ wN w n 1 ∧ wN w n 1 ≤ 41) (h2 : 0 ≤ wN w n 2 ∧ wN w n 2 < 16) : wp (o_ahead N S (nI n)) (f_ahead N S (nI n)) (fun v => (∃ r, (wN w n 2).toNat < r ∧ r < 16 ∧ F < ahC w n T r T ∧ (∀ i, r < i → i < 16 → ahC w n T i T ≤ F) ∧ v = nI r) ∨ ((∀ i, (wN w n 2).toNat < i → i < 16 → ahC w n T i T ≤ F) ∧ v = -1)) := by
  have cb := h.1.1.b
  have cF : F ≤ 4 := h.1.1.2.1
  have e45 : S.2.1 45 n = nI (wN w n 2).toNat := h.hN hn (k := 2) (by decide) (by decide) h2.1
  have eF : S.1 1 = nI F := h.co.2.2.1
  obtain ⟨R, hR⟩ : ∃ R, R = (wN w n 2).toNat := ⟨_, rfl⟩
  have hR16 : R < 16 := by omega
  rw [← hR] at e45 ⊢
  show wp (O_ahead_0 N (nI n) S) (F_ahead_0 N (nI n) S) _
  unfold O_ahead_0 F_ahead_0
  refine wp_seq (Q := fun z : Nat × Int32 × Unit => (∃ r, R < r ∧ r < 16 ∧ F < ahC w n T r T ∧ (∀ i, r < i → i < 16 → ahC w n T i T ≤ F) ∧ z.1 = 0 ∧ z.2.1 = nI r) ∨ ((∀ i, R < i → i < 16 → ahC w n T i T ≤ F) ∧ z.1 = 1)) ?_ ?_
  · refine wp_loop (σ := Unit) (K := 15 - R) (fun j _ => ∀ i, 15 - j < i → i < 16 → ahC w n T i T ≤ F) (fun q j _ => OL_ahead_3 N q (nI n) (nI (15 - j)) S) (fun q j _ => L_ahead_3 N q (nI n) (nI (15 - j)) S) (fun q j _ hj hI ih => ?_) 0 N () (by omega) (by omega) (fun i a b => absurd a (by omega))
    unfold OL_ahead_3 L_ahead_3 OB_ahead_3 B_ahead_3
    rw [n_clamp (by omega), e45]
    by_cases e : j = 15 - R
    · refine wp_and ((n_in (by omega)).2 (by omega)) (wp_pos (by rw [n_le' (by omega) (by omega)]; omega) ?_)
      exact wp_fin trivial (Or.inr ⟨fun i a b => hI i (by omega) b, rfl⟩)
    refine wp_and ((n_in (by omega)).2 (by omega)) (wp_neg (by rw [n_le' (by omega) (by omega)]; omega) (wp_seq (ahead_18 (r := 15 - j) hN h hn (by omega) h1) (fun z hz => ?_)))
    have ul := ahC_le w n T (15 - j) T
    rw [hz]
    unfold OA_ahead_18 A_ahead_18 O_ahead_133 F_ahead_133
    dsimp only
    rw [eF]
    have dec : nI (15 - j) + (-1) = nI (15 - (j + 1)) := by
      rw [show (-1 : Int32) = iI (-1) from rfl, ← iI_n, iI_add, ← iI_n]
      congr 1
      omega
    rw [dec]
    refine wp_ite (fun c => ?_) (fun c => ?_) <;> rw [n_le' (by omega) (by omega)] at c
    · refine ih () (fun i a b => ?_) (by omega)
      by_cases e2 : i = 15 - j
      · rw [e2]; exact c
      · exact hI i (by omega) b
    · exact wp_fin trivial (Or.inl ⟨15 - j, (by omega), (by omega), (by omega), hI, rfl, rfl⟩)
  · intro z hz
    unfold OA_ahead_3 A_ahead_3
    rcases hz with ⟨r, a1, a2, a3, a4, a5, a6⟩ | ⟨a1, a2⟩
    · rw [a5, if_pos rfl, if_pos rfl]
      exact wp_fin trivial (Or.inl ⟨r, a1, a2, a3, a4, a6⟩)
    · rw [a2, if_neg (by decide), if_neg (by decide)]
      exact wp_fin trivial (Or.inr ⟨a1, rfl⟩)
end
end

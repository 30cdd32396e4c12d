section
/-! WHO IS IN A ROUND -/
section
variable {F N g H T n : Nat} {s : cS} {ct : Nat → List Nat} {hd : List Nat} {w : Wd} {pe : Nat → Int}
/-- a proposal in its place -/
theorem prop_at {i : Nat} (h : CR F g H T s ct hd w pe) (hn : n < H) (hu : wN w n 0 = 1) (hi : i < 32) : (cP s (nd g n + 15) i = none ∧ wY w n 4 i = none) ∨ ∃ a m, cP s (nd g n + 15) i = some a ∧ wY w n 4 i = some m ∧ ct a = m ∧ mS s a m ∧ 1 ≤ us g H T s hd a ∧ cI s 4 a = nI 1 ∧ wf T m ∧ nmC s a (idM m) := by
  obtain ⟨z, cz, oz⟩ := h.z_ hn
  have q := cz.nz.2.2.2.2.2.2.1.1 i hi
  rw [oz.1 hu 4 _ (Or.inl rfl)] at q
  cases e : cP s (nd g n + 15) i with
  | none =>
    rw [e] at q
    exact Or.inl ⟨rfl, q.symm⟩
  | some a =>
    rw [e] at q
    have q : wY w n 4 i = some (ct a) := q.symm
    have c1 := cnA_hr (g := g) (H := H) (T := T) (s := s) (e := 0) hn (by decide) hi e
    have ua : 1 ≤ us g H T s hd a := by
      unfold us
      omega
    have f4 : cI s 4 a = nI 1 := (h.2.2.2.1.2.2.2.2.1 n 0 i a hn (by decide) hi e).2 (by decide)
    have hm := h.2.2.2.1.m ua
    refine Or.inr ⟨a, ct a, rfl, q, rfl, hm.1, ua, f4, ?_⟩
    rcases hm.2 with ⟨q, _⟩ | ⟨_, q⟩ | ⟨q, _⟩
    · rw [f4] at q
      exact absurd q (by decide)
    · exact q
    · rw [f4] at q
      exact absurd q (by decide)
theorem signer_c {a : Nat} {m : List Nat} (h : mS s a m) (h2 : 2 ≤ m.length) : p_X5_signer N g H T s a ∧ k_X5_signer N g H T s a = nI (bg m 1) := by
  obtain ⟨m1, m2, m3, m4, m5, m6⟩ := h
  have l := m3.1
  have l2 := m3.2.1
  show wp (KO_X5_signer_0 N g H T (some a) s) (KF_X5_signer_0 N g H T (some a) s) (fun z => z = nI (bg m 1))
  unfold KO_X5_signer_0 KF_X5_signer_0 KO_X5_signer_22 KF_X5_signer_22
  have c1 : (nI 1).toNatClampNeg = 1 := rfl
  rw [zsome, m2, c1, m3.2.2.1 1 (by omega), sb_and _ (m3.2.2.2 1)]
  exact wp_and someN (wp_neg (by rw [n_le' (by omega) (by omega)]; omega) (wp_and ((n_in (by omega)).2 (by omega)) (wp_fin trivial rfl)))
theorem ahC_s {r j : Nat} : (ahP w n T r j → ahC w n T r (j + 1) = ahC w n T r j + 1) ∧ (¬ ahP w n T r j → ahC w n T r (j + 1) = ahC w n T r j) := by
  constructor
  · intro q
    show ahC w n T r j + @ite _ (ahP w n T r j) (Classical.propDecidable _) 1 0 = _
    rw [if_pos q]
  · intro q
    show ahC w n T r j + @ite _ (ahP w n T r j) (Classical.propDecidable _) 1 0 = _
    rw [if_neg q]
    rfl
theorem sign_l {r : Nat} {x6 : Int32} (hN : 100 ≤ N) (h : CR F g H T s ct hd w pe) (hn : n < H) (hu : wN w n 0 = 1) (hv : vtO T w n) (hr : r < 16) (hx : ∀ j, j < T → (nI j = x6 ↔ (wY w n 4 (16 * ((wN w n 1).toNat % 2) + r) ≠ none ∧ ((wN w n 1).toNat + r) % T = j))) : wp (KOL_X8_signers_59 N g H T N (nd g n + 14) (nI ((2 * (16 * ((wN w n 1).toNat % 2) + r) + 0) * T)) (nI ((2 * (16 * ((wN w n 1).toNat % 2) + r) + 1) * T)) x6 (nI 0) (nI 0) s) (KL_X8_signers_59 N g H T N (nd g n + 14) (nI ((2 * (16 * ((wN w n 1).toNat % 2) + r) + 0) * T)) (nI ((2 * (16 * ((wN w n 1).toNat % 2) + r) + 1) * T)) x6 (nI 0) (nI 0) s) (fun z => z.2.1 = nI (ahC w n T r T)) := by
  have cb := h.1.bb
  have hp : (wN w n 1).toNat % 2 ≤ 1 := by omega
  have eS : cI s 1 (nd g n + 14) = nI T := (h.node hn).2.2.2.2.2.2.2.2.2.2.2.2.1
  refine wp_loop (K := T) (fun _ (_ : Unit) => True) (fun m j _ => KOL_X8_signers_59 N g H T m (nd g n + 14) (nI ((2 * (16 * ((wN w n 1).toNat % 2) + r) + 0) * T)) (nI ((2 * (16 * ((wN w n 1).toNat % 2) + r) + 1) * T)) x6 (nI (ahC w n T r j)) (nI j) s) (fun m j _ => KL_X8_signers_59 N g H T m (nd g n + 14) (nI ((2 * (16 * ((wN w n 1).toNat % 2) + r) + 0) * T)) (nI ((2 * (16 * ((wN w n 1).toNat % 2) + r) + 1) * T)) x6 (nI (ahC w n T r j)) (nI j) s) (fun m j X hj hI ih => ?_) 0 N () (by omega) (by omega) trivial
  unfold KOL_X8_signers_59 KL_X8_signers_59 KOB_X8_signers_59 KB_X8_signers_59
  rw [eS]
  by_cases e : j = T
  · subst e
    exact wp_pos (by rw [n_le' (by omega) (by omega)]; omega) (wp_fin trivial rfl)
  have lt0 := vqC_lt (T := T) (c := 0) (by decide) hp hr (show j < T by omega)
  have lt1 := vqC_lt (T := T) (c := 1) (by decide) hp hr (show j < T by omega)
  have ev0 : (2 * (16 * ((wN w n 1).toNat % 2) + r) + 0) * T + j = vqC T 0 ((wN w n 1).toNat % 2) r j := rfl
  have ev1 : (2 * (16 * ((wN w n 1).toNat % 2) + r) + 1) * T + j = vqC T 1 ((wN w n 1).toNat % 2) r j := rfl
  rw [n_add, n_add, ev0, ev1, n_clamp (by omega), n_clamp (by omega)]
  refine wp_neg (by rw [n_le' (by omega) (by omega)]; omega) (wp_and ((n_in (by omega)).2 (by omega)) ?_)
  unfold KO_X8_signers_101 KF_X8_signers_101 KO_X8_signers_104 KF_X8_signers_104
  rw [n_add, n_add]
  have eP : nd g n + 14 + 5 = nd g n + 19 := rfl
  rw [eP]
  have st := ih () trivial (by omega)
  obtain ⟨y1, y2⟩ := ahC_s (w := w) (n := n) (T := T) (r := r) (j := j)
  rcases vote_at (c := 0) h hn hu hv (by decide) hp hr (show j < T by omega) with ⟨v1, v2⟩ | ⟨a, m', v1, v2, v3⟩
  · rw [v1]
    refine wp_pos rfl (wp_and ((n_in (by omega)).2 (by omega)) ?_)
    rcases vote_at (c := 1) h hn hu hv (by decide) hp hr (show j < T by omega) with ⟨u1, u2⟩ | ⟨a, m', u1, u2, u3⟩
    · rw [u1]
      refine wp_pos rfl ?_
      by_cases c : nI j = x6
      · rw [y1 (Or.inr (Or.inr ((hx j (by omega)).1 c)))] at st
        exact wp_pos c st
      · rw [y2 (fun q => by
          rcases q with q | q | q
          · exact q v2
          · exact q u2
          · exact c ((hx j (by omega)).2 q))] at st
        exact wp_neg c st
    · rw [u1]
      rw [y1 (Or.inr (Or.inl (by rw [u2]; exact fun q => by cases q)))] at st
      exact wp_neg someN st
  · rw [v1]
    rw [y1 (Or.inl (by rw [v2]; exact fun q => by cases q))] at st
    exact wp_neg someN st
end
end

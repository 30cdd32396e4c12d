section
/-! VOTES IN ALL -/
section
variable {F N g H T n : Nat} {s : cS} {ct : Nat → List Nat} {hd : List Nat} {w : Wd} {pe : Nat → Int}
theorem all_l {c p r : Nat} {x5 : Int32} (hN : 100 ≤ N) (h : CR F g H T s ct hd w pe) (hn : n < H) (hu : wN w n 0 = 1) (hv : vtO T w n) (hc : c ≤ 1) (hp : p ≤ 1) (hr : r < 16) (h5 : ¬ x5 < 0) : wp (KOL_X8_votesInAll_32 N g H T N (nd g n + 14) x5 (nI ((2 * (16 * p + r) + c) * T)) (nI 0) (nI 0) s) (KL_X8_votesInAll_32 N g H T N (nd g n + 14) x5 (nI ((2 * (16 * p + r) + c) * T)) (nI 0) (nI 0) s) (fun z => z.2.1 = nI (cW w n c p r 0 [] T)) := by
  have cb := h.1.bb
  have eS : cI s 1 (nd g n + 14) = nI T := (h.node hn).2.2.2.2.2.2.2.2.2.2.2.2.1
  refine wp_loop (K := T) (fun _ (_ : Unit) => True) (fun m j _ => KOL_X8_votesInAll_32 N g H T m (nd g n + 14) x5 (nI ((2 * (16 * p + r) + c) * T)) (nI (cW w n c p r 0 [] j)) (nI j) s) (fun m j _ => KL_X8_votesInAll_32 N g H T m (nd g n + 14) x5 (nI ((2 * (16 * p + r) + c) * T)) (nI (cW w n c p r 0 [] j)) (nI j) s) (fun m j X hj hI ih => ?_) 0 N () (by omega) (by omega) trivial
  unfold KOL_X8_votesInAll_32 KL_X8_votesInAll_32 KOB_X8_votesInAll_32 KB_X8_votesInAll_32
  rw [eS]
  by_cases e : j = T
  · subst e
    exact wp_pos (by rw [n_le' (by omega) (by omega)]; omega) (wp_fin trivial rfl)
  have lt := vqC_lt (T := T) hc hp hr (show j < T by omega)
  have ev : (2 * (16 * p + r) + c) * T + j = vqC T c p r j := rfl
  rw [n_add, ev, n_clamp (by omega)]
  refine wp_neg (by rw [n_le' (by omega) (by omega)]; omega) (wp_neg h5 (wp_and ((n_in (by omega)).2 (by omega)) ?_))
  unfold KO_X8_votesInAll_62 KF_X8_votesInAll_62
  rw [n_add, n_add]
  have eP : nd g n + 14 + 5 = nd g n + 19 := rfl
  rw [eP]
  have st := ih () trivial (by omega)
  rcases vote_at h hn hu hv hc hp hr (show j < T by omega) with ⟨v1, v2⟩ | ⟨a, m', v1, v2, v3⟩
  · rw [v1]
    rw [cW_0 v2] at st
    exact wp_pos rfl st
  · rw [v1]
    rw [(cW_s v2).1 (Or.inl rfl)] at st
    exact wp_neg someN st
theorem votesInAll_C {c h r : Nat} (hN : 100 ≤ N) (cr : CR F g H T s ct hd w pe) (hn : n < H) (hu : wN w n 0 = 1) (hv : vtO T w n) (hc : c ≤ 1) (hr : r < 16) : p_X8_votesInAll N g H T s (nd g n + 14) (nI (c + 2)) (nI h) (nI r) ∧ k_X8_votesInAll N g H T s (nd g n + 14) (nI (c + 2)) (nI h) (nI r) = nI (cW w n c (h % 2) r 0 [] T) := by
  show wp (KO_X8_votesInAll_0 N g H T (nd g n + 14) (nI (c + 2)) (nI h) (nI r) s) (KF_X8_votesInAll_0 N g H T (nd g n + 14) (nI (c + 2)) (nI h) (nI r) s) (fun z => z = nI (cW w n c (h % 2) r 0 [] T))
  unfold KO_X8_votesInAll_0 KF_X8_votesInAll_0
  have eS : cI s 1 (nd g n + 14) = nI T := (cr.node hn).2.2.2.2.2.2.2.2.2.2.2.2.1
  have p2 : h % 2 ≤ 1 := by omega
  obtain ⟨a1, a2⟩ := page_ok (N := N) (g := g) (H := H) (T := T) (S := s) (a0 := nd g n + 14) (h := h) hr
  obtain ⟨b1, b2⟩ := ballots_ok (N := N) (g := g) (H := H) (S := s) (a0 := nd g n + 14) (P := 16 * (h % 2) + r) (k := c + 2) eS (by omega)
  rw [show c + 2 - 2 = c by omega] at b2
  rw [a2, b2]
  have h0 : (0 : Int32) = nI 0 := rfl
  refine wp_and a1 (wp_pos (by rw [h0, n_le' (by omega) (by omega)]; omega) (wp_and b1 ?_))
  unfold KO_X8_votesInAll_24 KF_X8_votesInAll_24
  refine wp_seq (all_l hN cr hn hu hv hc p2 hr (n_lt0 (by omega))) (fun z hz => ?_)
  unfold KOA_X8_votesInAll_32 KA_X8_votesInAll_32 KO_X8_votesInAll_68 KF_X8_votesInAll_68
  exact wp_fin trivial hz
end
end

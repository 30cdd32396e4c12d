section
/-! VOTES FOR A BLOCK: all of it -/
section
variable {F N g H T n : Nat} {s : cS} {ct : Nat → List Nat} {hd : List Nat} {w : Wd} {pe : Nat → Int}
theorem votesFor_C {c h r so : Nat} {d : List Nat} {xo : Option Nat} (hN : 100 ≤ N) (cr : CR F g H T s ct hd w pe) (hn : n < H) (hu : wN w n 0 = 1) (hv : vtO T w n) (hc : c ≤ 1) (hr : r < 16) (hx : voF s xo so d) : p_X8_votesFor N g H T s (nd g n + 14) (nI (c + 2)) (nI h) (nI r) xo ∧ k_X8_votesFor N g H T s (nd g n + 14) (nI (c + 2)) (nI h) (nI r) xo = nI (cW w n c (h % 2) r so d T) := by
  show wp (KO_X8_votesFor_0 N g H T (nd g n + 14) (nI (c + 2)) (nI h) (nI r) xo s) (KF_X8_votesFor_0 N g H T (nd g n + 14) (nI (c + 2)) (nI h) (nI r) xo s) (fun z => z = nI (cW w n c (h % 2) r so d T))
  unfold KO_X8_votesFor_0 KF_X8_votesFor_0
  have eS : cI s 1 (nd g n + 14) = nI T := (cr.node hn).2.2.2.2.2.2.2.2.2.2.2.2.1
  have p2 : h % 2 ≤ 1 := by omega
  obtain ⟨a1, a2⟩ := page_ok (N := N) (g := g) (H := H) (T := T) (S := s) (a0 := nd g n + 14) (h := h) hr
  obtain ⟨b1, b2⟩ := ballots_ok (N := N) (g := g) (H := H) (S := s) (a0 := nd g n + 14) (P := 16 * (h % 2) + r) (k := c + 2) eS (by omega)
  rw [show c + 2 - 2 = c by omega] at b2
  rw [a2, b2]
  have h0 : (0 : Int32) = nI 0 := rfl
  refine wp_and a1 (wp_pos (by rw [h0, n_le' (by omega) (by omega)]; omega) (wp_and b1 ?_))
  unfold KO_X8_votesFor_24 KF_X8_votesFor_24
  refine wp_seq (votes_l hN cr hn hu hv hc p2 hr hx (n_lt0 (by omega))) (fun z hz => ?_)
  unfold KOA_X8_votesFor_32 KA_X8_votesFor_32 KO_X8_votesFor_98 KF_X8_votesFor_98
  exact wp_fin trivial hz
end
end

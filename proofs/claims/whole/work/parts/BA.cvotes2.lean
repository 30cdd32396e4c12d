section
/-! VOTES FOR A BLOCK, OR FOR NONE, ARE COUNTED -/
section
variable {F N g H T n : Nat} {s : cS} {ct : Nat → List Nat} {hd : List Nat} {w : Wd} {pe : Nat → Int}
theorem cW_s {c p r so j : Nat} {d : List Nat} {m : List Nat} (e : wY w n 5 (vq c p r j) = some m) : (srt so d m → cW w n c p r so d (j + 1) = cW w n c p r so d j + 1) ∧ (¬ srt so d m → cW w n c p r so d (j + 1) = cW w n c p r so d j) := by
  unfold cW
  constructor
  · intro q
    rw [cV, e]
    show _ + @ite Nat (srt so d m) (Classical.propDecidable _) 1 0 = _
    rw [if_pos q]
  · intro q
    rw [cV, e]
    show _ + @ite Nat (srt so d m) (Classical.propDecidable _) 1 0 = _
    rw [if_neg q]
    rfl
theorem cW_0 {c p r so j : Nat} {d : List Nat} (e : wY w n 5 (vq c p r j) = none) : cW w n c p r so d (j + 1) = cW w n c p r so d j := by
  unfold cW
  rw [cV, e]
  rfl
/-- what a count is for -/
def voF (s : cS) (xo : Option Nat) (so : Nat) (d : List Nat) : Prop := (xo = none ∧ so = 1) ∨ ∃ b, xo = some b ∧ so = 2 ∧ nmC s b (some d) ∧ d.length = 32 ∧ isB d
theorem votes_l {c p r so : Nat} {d : List Nat} {xo : Option Nat} {x5 : Int32} (hN : 100 ≤ N) (h : CR F g H T s ct hd w pe) (hn : n < H) (hu : wN w n 0 = 1) (hv : vtO T w n) (hc : c ≤ 1) (hp : p ≤ 1) (hr : r < 16) (hx : voF s xo so d) (h5 : ¬ x5 < 0) : wp (KOL_X8_votesFor_32 N g H T N (nd g n + 14) xo x5 (nI ((2 * (16 * p + r) + c) * T)) (nI 0) (nI 0) s) (KL_X8_votesFor_32 N g H T N (nd g n + 14) xo x5 (nI ((2 * (16 * p + r) + c) * T)) (nI 0) (nI 0) s) (fun z => z.2.1 = nI (cW w n c p r so d T)) := by
  have cb := h.1.bb
  have eS : cI s 1 (nd g n + 14) = nI T := (h.node hn).2.2.2.2.2.2.2.2.2.2.2.2.1
  refine wp_loop (K := T) (fun _ (_ : Unit) => True) (fun m j _ => KOL_X8_votesFor_32 N g H T m (nd g n + 14) xo x5 (nI ((2 * (16 * p + r) + c) * T)) (nI (cW w n c p r so d j)) (nI j) s) (fun m j _ => KL_X8_votesFor_32 N g H T m (nd g n + 14) xo x5 (nI ((2 * (16 * p + r) + c) * T)) (nI (cW w n c p r so d j)) (nI j) s) (fun m j X hj hI ih => ?_) 0 N () (by omega) (by omega) trivial
  unfold KOL_X8_votesFor_32 KL_X8_votesFor_32 KOB_X8_votesFor_32 KB_X8_votesFor_32
  rw [eS]
  by_cases e : j = T
  · subst e
    exact wp_pos (by rw [n_le' (by omega) (by omega)]; omega) (wp_fin trivial rfl)
  have lt := vqC_lt (T := T) hc hp hr (show j < T by omega)
  have ev : (2 * (16 * p + r) + c) * T + j = vqC T c p r j := rfl
  rw [n_add, ev, n_clamp (by omega)]
  refine wp_neg (by rw [n_le' (by omega) (by omega)]; omega) (wp_neg h5 (wp_and ((n_in (by omega)).2 (by omega)) ?_))
  unfold KO_X8_votesFor_89 KF_X8_votesFor_89 KO_X8_votesFor_92 KF_X8_votesFor_92
  rw [n_add, n_add]
  have eP : nd g n + 14 + 5 = nd g n + 19 := rfl
  rw [eP]
  have st := ih () trivial (by omega)
  rcases vote_at h hn hu hv hc hp hr (show j < T by omega) with ⟨v1, v2⟩ | ⟨a, m', v1, v2, v3⟩
  · rw [v1]
    rw [cW_0 v2] at st
    exact wp_pos rfl st
  rw [v1]
  refine wp_neg someN ?_
  obtain ⟨w1, w2⟩ := cW_s (so := so) (d := d) v2
  rcases hx with ⟨rfl, rfl⟩ | ⟨b, rfl, rfl, x3, x4, x5'⟩
  · refine wp_pos rfl ?_
    rw [zsome]
    rcases v3 with ⟨y1, y2⟩ | ⟨y1, y2, _⟩
    · have y2 : cI s 5 a = nI 0 := y2
      rw [w1 (Or.inr (Or.inl ⟨rfl, y1⟩))] at st
      exact wp_pos (by rw [y2]; rfl) st
    · have y2 := y2.1
      rw [w2 (fun q => by unfold srt at q; omega)] at st
      exact wp_neg (by rw [y2]; decide) st
  · refine wp_neg someN ?_
    rw [zsome]
    rcases v3 with ⟨y1, y2⟩ | ⟨y1, y2, y3, y4⟩
    · refine wp_call (isFor_c (N := N) (g := g) (H := H) (T := T) y2 x3 (fun q hq => by cases hq) (fun q hq => by cases hq; exact ⟨x4, x5'⟩)) ?_
      rintro (⟨_, _, z3⟩ | ⟨z1, _⟩)
      · exact absurd rfl z3
      · rw [w2 (fun q => by unfold srt at q; omega)] at st
        exact wp_pos (by rw [z1]; rfl) st
    · refine wp_call (isFor_c (N := N) (g := g) (H := H) (T := T) y2 x3 (fun q hq => by cases hq; exact ⟨y3, y4⟩) (fun q hq => by cases hq; exact ⟨x4, x5'⟩)) ?_
      rintro (⟨z1, z2, _⟩ | ⟨z1, z2⟩)
      · rw [w1 (Or.inr (Or.inr ⟨rfl, y1, Option.some.inj z2⟩))] at st
        exact wp_neg (by rw [z1]; decide) st
      · rw [w2 (fun q => z2 (by
          rcases q with q | ⟨q, _⟩ | ⟨_, _, q⟩
          · omega
          · omega
          · exact ⟨congrArg some q, fun q => by cases q⟩))] at st
        exact wp_pos (by rw [z1]; rfl) st
end
end

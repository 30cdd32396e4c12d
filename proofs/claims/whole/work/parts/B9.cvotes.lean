section
/-! VOTES ARE COUNTED -/
section
variable {F N g H T n : Nat} {s : cS} {ct : Nat → List Nat} {hd : List Nat} {w : Wd} {pe : Nat → Int}
/-- votes that a node holds are votes -/
def vtO (T : Nat) (w : Wd) (n : Nat) : Prop := ∀ c p r k m, c ≤ 1 → p ≤ 1 → r < 16 → k < T → wY w n 5 (vq c p r k) = some m → (bg m 0 = 2 ∨ bg m 0 = 3) ∧ voOK T m
theorem idM_v {m : List Nat} (h : bg m 0 = 2 ∨ bg m 0 = 3) (v : voOK T m) : (bg m 5 = 0 ∧ idM m = none) ∨ (bg m 5 = 1 ∧ idM m = some (voD m) ∧ (voD m).length = 32) := by
  unfold idM
  rw [if_neg (by omega), if_neg (by omega)]
  rcases v.2 with ⟨_, q⟩ | ⟨_, q⟩
  · exact Or.inl ⟨q, if_neg (by omega)⟩
  · refine Or.inr ⟨q, ?_, mkB_len _ _⟩
    rw [if_pos ⟨h, q⟩]
    congr 1
    unfold voD sl
    refine by_ext (by rw [mkB_len, mkB_len]) (fun i hi => ?_)
    rw [mkB_len] at hi
    rw [mkB_bg, mkB_bg, if_pos hi, if_pos hi, if_pos q]
/-- a vote in its place -/
theorem vote_at {c p r k : Nat} (h : CR F g H T s ct hd w pe) (hn : n < H) (hu : wN w n 0 = 1) (hv : vtO T w n) (hc : c ≤ 1) (hp : p ≤ 1) (hr : r < 16) (hk : k < T) : (cP s (nd g n + 19) (vqC T c p r k) = none ∧ wY w n 5 (vq c p r k) = none) ∨ ∃ a m, cP s (nd g n + 19) (vqC T c p r k) = some a ∧ wY w n 5 (vq c p r k) = some m ∧ ((bg m 5 = 0 ∧ nmC s a none) ∨ (bg m 5 = 1 ∧ nmC s a (some (voD m)) ∧ (voD m).length = 32 ∧ isB (voD m))) := by
  obtain ⟨z, cz, oz⟩ := h.z_ hn
  have q := cz.nz.2.2.2.2.2.2.1.2.1 c p r k hc hp hr hk
  rw [oz.1 hu 5 _ (Or.inr rfl)] at q
  cases e : cP s (nd g n + 19) (vqC T c p r k) with
  | none =>
    rw [e] at q
    exact Or.inl ⟨rfl, q.symm⟩
  | some a =>
    rw [e] at q
    have q : wY w n 5 (vq c p r k) = some (ct a) := q.symm
    have c1 := cnA_hr (g := g) (H := H) (T := T) (s := s) (e := 1) hn (by decide) (vqC_lt hc hp hr hk) e
    have ua : 1 ≤ us g H T s hd a := by
      unfold us
      omega
    have f4 : cI s 4 a = nI 1 := (h.2.2.2.1.2.2.2.2.1 n 1 _ a hn (by decide) (vqC_lt hc hp hr hk) e).2 (by decide)
    have hm := h.2.2.2.1.m ua
    have nm : nmC s a (idM (ct a)) := by
      rcases hm.2 with ⟨q, _⟩ | ⟨_, _, q⟩ | ⟨q, _⟩
      · rw [f4] at q
        exact absurd q (by decide)
      · exact q
      · rw [f4] at q
        exact absurd q (by decide)
    obtain ⟨v1, v2⟩ := hv c p r k _ hc hp hr hk q
    refine Or.inr ⟨a, ct a, rfl, q, ?_⟩
    rcases idM_v v1 v2 with ⟨x1, x2⟩ | ⟨x1, x2, x3⟩
    · rw [x2] at nm
      exact Or.inl ⟨x1, nm⟩
    · rw [x2] at nm
      refine Or.inr ⟨x1, nm, x3, isB_mk fun k _ => ?_⟩
      rw [if_pos x1]
      exact hm.1.2.2.1.2.2.2 _
end
end

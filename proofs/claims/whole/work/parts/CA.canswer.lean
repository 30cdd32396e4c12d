section
/-! WHAT COMES TO A NODE: it is asked for all that it holds -/
section
variable {F N g H T n : Nat} {s s0 S : cS} {ct : Nat → List Nat} {hd : List Nat} {w w' V X : Wd} {pe pe' : Nat → Int} {a b e i : Nat} {G : Gh}
theorem inOrder_C {r p : Nat} (h : CR F g H T s ct hd w pe) (hn : n < H) (hu : wN w n 0 = 1) (hr : r < 16) (hp : p ≤ 2 * T) : p_X8_inOrder N g H T s (nd g n + 14) (nI (wN w n 1).toNat) (nI r) (nI p) ∧ ((k_X8_inOrder N g H T s (nd g n + 14) (nI (wN w n 1).toNat) (nI r) (nI p) = none ∧ anM w n T r p = none) ∨ ∃ a, k_X8_inOrder N g H T s (nd g n + 14) (nI (wN w n 1).toNat) (nI r) (nI p) = some a ∧ anM w n T r p = some (ct a) ∧ 1 ≤ us g H T s hd a) := by
  have cb := h.1.bb
  obtain ⟨hh, eh⟩ : ∃ hh, hh = (wN w n 1).toNat := ⟨_, rfl⟩
  unfold anM
  rw [← eh]
  show wp (KO_X8_inOrder_0 N g H T (nd g n + 14) (nI hh) (nI r) (nI p) s) (KF_X8_inOrder_0 N g H T (nd g n + 14) (nI hh) (nI r) (nI p) s) (fun z => (z = none ∧ (if p = 0 then wY w n 4 (16 * (hh % 2) + r) else if p ≤ T then wY w n 5 (vq 0 (hh % 2) r (p - 1)) else wY w n 5 (vq 1 (hh % 2) r (p - 1 - T))) = none) ∨ ∃ a, z = some a ∧ (if p = 0 then wY w n 4 (16 * (hh % 2) + r) else if p ≤ T then wY w n 5 (vq 0 (hh % 2) r (p - 1)) else wY w n 5 (vq 1 (hh % 2) r (p - 1 - T))) = some (ct a) ∧ 1 ≤ us g H T s hd a)
  unfold KO_X8_inOrder_0 KF_X8_inOrder_0 KO_X8_inOrder_59 KF_X8_inOrder_59
  have eS : cI s 1 (nd g n + 14) = nI T := (h.node hn).2.2.2.2.2.2.2.2.2.2.2.2.1
  have p2 : hh % 2 ≤ 1 := by omega
  obtain ⟨a1, a2⟩ := page_ok (N := N) (g := g) (H := H) (T := T) (S := s) (a0 := nd g n + 14) (h := hh) hr
  obtain ⟨b1, b2⟩ := ballots_ok (N := N) (g := g) (H := H) (S := s) (a0 := nd g n + 14) (P := 16 * (hh % 2) + r) (k := 2) eS (by omega)
  have e1 : nd g n + 14 + 1 = nd g n + 15 := rfl
  have e5 : nd g n + 14 + 5 = nd g n + 19 := rfl
  rw [a2, b2, eS, n_mul, n_add, e1, e5, n_clamp (by omega)]
  refine wp_and a1 (wp_neg (n_lt0 (by omega)) (wp_neg (n_lt0 (by omega)) (wp_pos (by rw [n_le' (by omega) (by omega)]; omega) ?_)))
  obtain ⟨z, cz, oz⟩ := h.z_ hn
  by_cases c0 : p = 0
  · refine wp_pos (by rw [c0]; rfl) (wp_and ((n_in (by omega)).2 (by omega)) (wp_fin trivial ?_))
    rw [if_pos c0]
    have q := cz.nz.2.2.2.2.2.2.1.1 (16 * (hh % 2) + r) (by omega)
    rw [oz.1 hu 4 _ (Or.inl rfl)] at q
    cases e : cP s (nd g n + 15) (16 * (hh % 2) + r) with
    | none =>
      rw [e] at q
      exact Or.inl ⟨rfl, q.symm⟩
    | some a =>
      rw [e] at q
      exact Or.inr ⟨a, rfl, q.symm, us_pl (e0 := 0) hn (by decide) (show 16 * (hh % 2) + r < 32 by omega) s e⟩
  obtain ⟨c, k, hc, hk, ev, em⟩ : ∃ c k, c ≤ 1 ∧ k < T ∧ (2 * (16 * (hh % 2) + r) + (2 - 2)) * T + p - 1 = vqC T c (hh % 2) r k ∧ (if p = 0 then wY w n 4 (16 * (hh % 2) + r) else if p ≤ T then wY w n 5 (vq 0 (hh % 2) r (p - 1)) else wY w n 5 (vq 1 (hh % 2) r (p - 1 - T))) = wY w n 5 (vq c (hh % 2) r k) := by
    rw [if_neg c0]
    by_cases c1 : p ≤ T
    · refine ⟨0, p - 1, by omega, by omega, ?_, if_pos c1⟩
      unfold vqC
      show (2 * (16 * (hh % 2) + r) + 0) * T + p - 1 = _
      omega
    · refine ⟨1, p - 1 - T, by omega, by omega, ?_, if_neg c1⟩
      have sm : (2 * (16 * (hh % 2) + r) + 1) * T = (2 * (16 * (hh % 2) + r) + 0) * T + T := Nat.succ_mul _ _
      show (2 * (16 * (hh % 2) + r) + 0) * T + p - 1 = (2 * (16 * (hh % 2) + r) + 1) * T + (p - 1 - T)
      rw [sm]
      omega
  have lt := vqC_lt (T := T) hc p2 hr hk
  have q := cz.nz.2.2.2.2.2.2.1.2.1 c (hh % 2) r k hc p2 hr hk
  rw [oz.1 hu 5 _ (Or.inr rfl)] at q
  rw [em, n_sub (a := (2 * (16 * (hh % 2) + r) + (2 - 2)) * T + p) (b := 1) (by omega), ev, n_clamp (by omega)]
  refine wp_neg (by rw [n_eq0 (by omega)]; omega) (wp_and b1 (wp_and ((n_in (by omega)).2 (by omega)) (wp_fin trivial ?_)))
  cases e : cP s (nd g n + 19) (vqC T c (hh % 2) r k) with
  | none =>
    rw [e] at q
    exact Or.inl ⟨rfl, q.symm⟩
  | some a =>
    rw [e] at q
    exact Or.inr ⟨a, rfl, q.symm, us_pl (e0 := 1) hn (by decide) lt s e⟩
theorem answer_l {r : Nat} {K : Sk} (hN : 100 ≤ N) (h : CR F g H T s ct hd (sK w K) pe) (hn : n < H) (hu : wN w n 0 = 1) (h1 : 1 ≤ wN w n 1) (hr : r < 16) : wp (KOL_X3_answerAll_32 N g H T N (some (nd g n)) (nI b) (nI (1 + 2 * T)) (nI r) (nI 0) s) (KL_X3_answerAll_32 N g H T N (some (nd g n)) (nI b) (nI (1 + 2 * T)) (nI r) (nI 0) s) (fun z => ∃ s', z.2 = (some (nd g n), nI b, nI (1 + 2 * T), nI r, s') ∧ CR F g H T s' ct hd (sK w (anR w n b T r K (1 + 2 * T))) pe) := by
  have cb := h.1.bb
  refine wp_loop (σ := cS) (K := 1 + 2 * T) (fun j s => CR F g H T s ct hd (sK w (anR w n b T r K j)) pe) (fun m j s => KOL_X3_answerAll_32 N g H T m (some (nd g n)) (nI b) (nI (1 + 2 * T)) (nI r) (nI j) s) (fun m j s => KL_X3_answerAll_32 N g H T m (some (nd g n)) (nI b) (nI (1 + 2 * T)) (nI r) (nI j) s) (fun m j s hj h ih => ?_) 0 N s (by omega) (by omega) h
  have e9 : cI s 9 (nd g n) = nI (wN w n 1).toNat := by
    rw [(h.node hn).1.2.2.1, ← iI_n, Int.toNat_of_nonneg (by omega)]
    rfl
  have i1 : cI s 1 (nd g n) = nI n := (h.node hn).1.1
  unfold KOL_X3_answerAll_32 KL_X3_answerAll_32 KOB_X3_answerAll_32 KB_X3_answerAll_32
  by_cases e : j = 1 + 2 * T
  · refine wp_pos (by rw [n_le' (by omega) (by omega)]; omega) (wp_fin trivial ⟨s, rfl, ?_⟩)
    rw [e] at h
    exact h
  refine wp_neg (by rw [n_le' (by omega) (by omega)]; omega) ?_
  rw [zsome, e9, i1]
  obtain ⟨o1, o2⟩ := inOrder_C (N := N) (r := r) (p := j) h hn hu hr (by omega)
  have o1 : p_X8_inOrder N g H T s (nd g n + 14) (nI (wN w n 1).toNat) (nI r) (nI j) := o1
  refine wp_and someN (wp_and o1 ?_)
  unfold KO_X3_answerAll_76 KF_X3_answerAll_76
  rw [n_add]
  have o2 : (k_X8_inOrder N g H T s (nd g n + 14) (nI (wN w n 1).toNat) (nI r) (nI j) = none ∧ anM w n T r j = none) ∨ ∃ a, k_X8_inOrder N g H T s (nd g n + 14) (nI (wN w n 1).toNat) (nI r) (nI j) = some a ∧ anM w n T r j = some (ct a) ∧ 1 ≤ us g H T s hd a := o2
  generalize k_X8_inOrder N g H T s (nd g n + 14) (nI (wN w n 1).toNat) (nI r) (nI j) = x at o2 ⊢
  rcases o2 with ⟨rfl, o3⟩ | ⟨a, rfl, o3, o4⟩
  · refine wp_pos rfl (ih s ?_ (by omega))
    show CR F g H T s ct hd (sK w (psO (anR w n b T r K j) n b (wT w) (anM w n T r j))) pe
    rw [o3]
    exact h
  · refine wp_neg someN (wp_call (post_C (N := N) (f := n) (t := b) h o4) (fun q => ih _ ?_ (by omega)))
    show CR F g H T _ ct hd (sK w (psO (anR w n b T r K j) n b (wT w) (anM w n T r j))) pe
    rw [o3]
    exact q.1
theorem anA_end {t j : Nat} (hz : ∀ r p, j ≤ r → r < 16 → p ≤ 2 * T → anM w n T r p = none) : ∀ k, j + k ≤ 16 → anA w n t T (j + k) = anA w n t T j := by
  intro k
  induction k with
  | zero => exact fun _ => rfl
  | succ k ih =>
    intro hk
    have key : ∀ K p, p ≤ 1 + 2 * T → anR w n t T (j + k) K p = K := fun K p => by
      induction p with
      | zero => exact fun _ => rfl
      | succ p ip =>
        intro hp
        show psO (anR w n t T (j + k) K p) n t (wT w) (anM w n T (j + k) p) = K
        rw [ip (by omega), hz (j + k) p (by omega) (by omega) (by omega)]
        rfl
    show anR w n t T (j + k) (anA w n t T (j + k)) (1 + 2 * T) = _
    rw [key _ _ (Nat.le_refl _)]
    exact ih (by omega)
theorem answerAll_C (hN : 100 ≤ N) (h : CR F g H T s ct hd w pe) (hn : n < H) (hu : wN w n 0 = 1) (h1 : 1 ≤ wN w n 1) : wp (p_X3_answerAll N g H T s (some (nd g n)) (nI b)) (k_X3_answerAll N g H T s (some (nd g n)) (nI b)) (fun s' => CR F g H T s' ct hd (aAH w n b T) pe) := by
  have cb := h.1.bb
  show wp (KO_X3_answerAll_0 N g H T (some (nd g n)) (nI b) s) (KF_X3_answerAll_0 N g H T (some (nd g n)) (nI b) s) _
  unfold KO_X3_answerAll_0 KF_X3_answerAll_0
  have eT : cI s 1 (g + 8) = nI T := h.2.2.2.2.2.1.2.1
  rw [eT, n_mul, n_add]
  refine wp_and someN (wp_seq (Q := fun z => CR F g H T z.2 ct hd (aAH w n b T) pe) ?_ (fun z hz => ?_))
  · refine wp_loop (σ := cS) (K := 16) (fun j s => CR F g H T s ct hd (sK w (anA w n b T j)) pe) (fun m j s => KOL_X3_answerAll_14 N g H T m (some (nd g n)) (nI b) (nI (1 + 2 * T)) (nI j) s) (fun m j s => KL_X3_answerAll_14 N g H T m (some (nd g n)) (nI b) (nI (1 + 2 * T)) (nI j) s) (fun m j s hj h ih => ?_) 0 N s (by omega) (by omega) h
    have e9 : cI s 9 (nd g n) = nI (wN w n 1).toNat := by
      rw [(h.node hn).1.2.2.1, ← iI_n, Int.toNat_of_nonneg (by omega)]
      rfl
    unfold KOL_X3_answerAll_14 KL_X3_answerAll_14 KOB_X3_answerAll_14 KB_X3_answerAll_14
    obtain ⟨t, t1, t2, t3, t4⟩ := top_C (N := N) (h := (wN w n 1).toNat) h hn hu
    rw [zsome, e9, t3]
    refine wp_and someN (wp_and t2 (wp_ite (fun d => ?_) (fun d => ?_))) <;> rw [n_le' (by omega) (by omega)] at d
    · refine wp_fin trivial ?_
      have en := anA_end (w := w) (n := n) (T := T) (t := b) (j := j) (fun r p r1 r2 hp => by
        obtain ⟨q1, q2⟩ := t4 r (by omega) r2
        unfold anM
        by_cases c0 : p = 0
        · rw [if_pos c0]
          exact q1
        · rw [if_neg c0]
          by_cases c1 : p ≤ T
          · rw [if_pos c1]
            exact q2 0 (p - 1) (by omega) (by omega)
          · rw [if_neg c1]
            exact q2 1 (p - 1 - T) (by omega) (by omega)) (16 - j) (by omega)
      rw [show j + (16 - j) = 16 by omega] at en
      show CR F g H T s ct hd (sK w (anA w n b T 16)) pe
      rw [en]
      exact h
    · refine wp_seq (answer_l (b := b) (r := j) hN h hn hu h1 (by omega)) (fun z hz => ?_)
      obtain ⟨s', z1, z2⟩ := hz
      unfold KOA_X3_answerAll_32 KA_X3_answerAll_32 KO_X3_answerAll_82 KF_X3_answerAll_82
      rw [z1]
      show wp (KOL_X3_answerAll_14 N g H T m (some (nd g n)) (nI b) (nI (1 + 2 * T)) (nI j + nI 1) s') (KL_X3_answerAll_14 N g H T m (some (nd g n)) (nI b) (nI (1 + 2 * T)) (nI j + nI 1) s') _
      rw [n_add]
      exact ih s' z2 (by omega)
  · unfold KOA_X3_answerAll_14 KA_X3_answerAll_14 KO_X3_answerAll_88 KF_X3_answerAll_88
    exact wp_fin trivial hz
end
end

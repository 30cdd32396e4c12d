section
/-! TIMERS: as they were, or not set, or set from now; set of a node that is up alone -/
def tfr (n : Nat) (w w' : Wd) : Prop := ∀ k, 9 ≤ k ∧ k ≤ 11 → wN w' n k = -1 ∨ (wN w' n 0 = wN w n 0 ∧ (wN w' n k = wN w n k ∨ ∃ r : Nat, r < 16 ∧ wN w' n k = ((wT w + 4 + r : Nat) : Int)))
section
variable {n T F H b : Nat} {w w1 w2 : Wd} {m : List Nat}
theorem tfr.refl : tfr n w w := fun _ _ => Or.inr ⟨rfl, Or.inl rfl⟩
theorem tfr.trans (h : tfr n w w1) (e : wT w1 = wT w) (u : wN w1 n 0 = wN w n 0) (k : tfr n w1 w2) : tfr n w w2 := fun j hj => by
  rcases k j hj with a | ⟨a, c | c⟩
  · exact Or.inl a
  · rw [c, a]
    rcases h j hj with d | ⟨d, f⟩
    · exact Or.inl d
    · exact Or.inr ⟨u, f⟩
  · rw [e] at c
    exact Or.inr ⟨a.trans u, Or.inr c⟩
theorem tfr.same (h : ∀ k, 9 ≤ k ∧ k ≤ 11 → wN w1 n k = wN w n k) (u : wN w1 n 0 = wN w n 0) : tfr n w w1 := fun k hk => Or.inr ⟨u, Or.inl (h k hk)⟩
theorem tfr.N {k : Nat} {v : Int} (h : (1 ≤ k ∧ k < 9) ∨ 11 < k) : tfr n w (sN w n k v) := tfr.same (fun j hj => N_o _ _ _ _ (Or.inr (by omega))) (N_o _ _ _ _ (Or.inr (by omega)))
theorem tfr.t {k r : Nat} (hk : 1 ≤ k) (hr : r < 16) : tfr n w (sN w n k ((wT w + 4 + r : Nat) : Int)) := fun j hj => by
  have u : wN (sN w n k ((wT w + 4 + r : Nat) : Int)) n 0 = wN w n 0 := N_o _ _ _ _ (Or.inr (by omega))
  by_cases e : j = k
  · rw [e, N_s]; exact Or.inr ⟨u, Or.inr ⟨r, hr, rfl⟩⟩
  · exact Or.inr ⟨u, Or.inl (N_o _ _ _ _ (Or.inr e))⟩
theorem tfr.off {k : Nat} (hk : 1 ≤ k) : tfr n w (sN w n k (-1)) := fun j hj => by
  by_cases e : j = k
  · rw [e, N_s]; exact Or.inl rfl
  · exact Or.inr ⟨N_o _ _ _ _ (Or.inr (by omega)), Or.inl (N_o _ _ _ _ (Or.inr e))⟩
theorem fel.t (f : fel n w w1) : tfr n w w1 := fun k hk => Or.inl (f.2.2.2.2.2.1 k hk)
theorem tfr.note {t : List Nat} {f : Nat} : tfr n w (aNote w n t f).2 := by
  cases h : (aNote w n t f).1 with
  | false => exact (aNote_f h).t
  | true =>
    have a := (aNote_w h).2.1
    exact tfr.same (fun k hk => a k (by omega)) (a 0 (by omega))
theorem tfr.own {t : List Nat} : tfr n w (aOwn w n t).2 := by
  cases h : (aOwn w n t).1 with
  | false => exact (aOwn_f h).t
  | true =>
    have a := (aOwn_w h).2.1
    exact tfr.same (fun k hk => a k (by omega)) (a 0 (by omega))
theorem aSend_N {k : Nat} (hk : k ≠ 17) : wN (aSend w n T m) n k = wN w n k := by
  unfold aSend
  rw [aHeld_o.1]
  show wN (sN (sBy w n 8 (wN w n 17).toNat (some m)) n 17 ((wN w n 17).toNat + 1 : Nat)) n k = _
  rw [N_o _ _ _ _ (by omega)]
  rfl
theorem tfr.send : tfr n w (aSend w n T m) := tfr.same (fun k hk => aSend_N (by omega)) (aSend_N (by decide))
theorem tfr.vote {k s : Nat} {o : Option (List Nat)} : tfr n w (aVote w n T k s o).2 := by
  unfold aVote
  cases h : (aOwn w n (ownT w n 3 (s :: vtM w n k o))).1 with
  | false => exact (aOwn_f h).t
  | true =>
    have a := (aOwn_w h).2.1
    refine tfr.same (fun k hk => ?_) ?_
    · show wN (aSend _ n T _) n k = _
      rw [aSend_N (by omega), N_o _ _ _ _ (by omega)]
      exact a k (by omega)
    · show wN (aSend _ n T _) n 0 = _
      rw [aSend_N (by decide), N_o _ _ _ _ (by omega)]
      exact a 0 (by omega)
theorem tfr.prop {v : Int} {c : List Nat} : tfr n w (aProp w n T v c).2 := by
  unfold aProp
  cases h : (aOwn w n (ownT w n 3 (0 :: prM w n v c))).1 with
  | false => exact (aOwn_f h).t
  | true =>
    have a := (aOwn_w h).2.1
    refine tfr.same (fun k hk => ?_) ?_
    · show wN (aSend _ n T _) n k = _
      rw [aSend_N (by omega)]
      exact a k (by omega)
    · show wN (aSend _ n T _) n 0 = _
      rw [aSend_N (by decide)]
      exact a 0 (by omega)
theorem tfr.new {r : Nat} (hr : r < 16) : tfr n w (aNew w n r) := fun k hk => by
  have u : wN (aNew w n r) n 0 = wN w n 0 := aNew_N _ _ _ (by omega)
  have e : wN (aNew w n r) n k = if k = 9 then ((wT w + 4 + r : Nat) : Int) else -1 := by
    show (if n = n then (if k = 2 then (r : Int) else if k = 3 then 0 else if 6 ≤ k ∧ k ≤ 8 then 0 else if k = 9 then ((wT w + 4 + r : Nat) : Int) else if k = 10 ∨ k = 11 then -1 else _) else _) = _
    rw [if_pos rfl, if_neg (by omega), if_neg (by omega), if_neg (by omega)]
    by_cases c : k = 9
    · rw [if_pos c, if_pos c]
    · rw [if_neg c, if_neg c, if_pos (by omega)]
  rw [e]
  split
  · exact Or.inr ⟨u, Or.inr ⟨r, hr, rfl⟩⟩
  · exact Or.inl rfl
theorem tfr.begin {r : Nat} (hr : r < 16) : tfr n w (aBegin w n T r) := by
  unfold aBegin
  cases h : (aOwn w n (ownT w n 2 [r])).1 with
  | false => exact (aOwn_f h).t
  | true =>
    obtain ⟨o1, o2, _⟩ := aOwn_w h
    rw [if_pos rfl]
    generalize (aOwn w n (ownT w n 2 [r])).2 = w1 at o1 o2 ⊢
    have own : tfr n w w1 := tfr.same (fun k hk => o2 k (by omega)) (o2 0 (by omega))
    have a : tfr n w (aNew w1 n r) := own.trans o1.2.1 (o2 0 (by omega)) (tfr.new hr)
    have u : wN (aNew w1 n r) n 0 = wN w n 0 := by rw [aNew_N _ _ _ (by omega)]; exact o2 0 (by omega)
    split
    · split
      · exact a.trans o1.2.1 u tfr.prop
      · exact a.trans o1.2.1 u tfr.prop
    · exact a
theorem tfr.lift {x2 : Nat} {d : List Nat} {k : Bk} : tfr n w (aLift w n x2 d k) := fun j hj => Or.inl (aLift_m (by omega))
theorem tfr.rise {x2 : Nat} {d : List Nat} {k : Bk} : tfr n w (aRise w n T x2 d k) := by
  unfold aRise
  split
  · exact tfr.lift
  · exact tfr.lift.trans rfl (aLift_N (by omega)) (tfr.begin (by decide))
theorem tfr.dec {c : List Nat} : tfr n w (aDecide w n T c) := by
  unfold aDecide
  cases h : (aNote w n (chT w n c) (2 * (wN w n 1).toNat - 2)).1 with
  | false => exact (aNote_f h).t
  | true =>
    obtain ⟨o1, o2, _⟩ := aNote_w h
    rw [if_pos rfl]
    generalize (aNote w n (chT w n c) (2 * (wN w n 1).toNat - 2)).2 = w1 at o1 o2 ⊢
    have a : tfr n w (aDec1 w1 n c) := tfr.same (fun k hk => o2 k (by omega)) (o2 0 (by omega))
    exact a.trans o1.2.1 (o2 0 (by omega)) tfr.rise
theorem tfr.take : tfr n w (aTake w n T m) := by
  unfold aTake aSnapN
  cases h : (aNote w n (snT m) (snAt w n)).1 with
  | false => exact (aNote_f h).t
  | true =>
    obtain ⟨o1, o2, _⟩ := aNote_w h
    have u : wN (sN (aNote w n (snT m) (snAt w n)).2 n 16 (snAt w n)) n 0 = wN w n 0 := by rw [N_o _ _ _ _ (by omega)]; exact o2 0 (by omega)
    have a : tfr n w (sN (aNote w n (snT m) (snAt w n)).2 n 16 (snAt w n)) := tfr.same (fun k hk => by rw [N_o _ _ _ _ (by omega)]; exact o2 k (by omega)) u
    exact a.trans o1.2.1 u tfr.rise
theorem tfr.been {k t r : Nat} (hk : 6 ≤ k ∧ k ≤ 8) (ht : 1 ≤ t) (hr : r < 16) : tfr n w (sN (sN w n k 1) n t ((wT w + 4 + r : Nat) : Int)) := (tfr.N (k := k) (v := 1) (by omega)).trans rfl (N_o _ _ _ _ (Or.inr (by omega))) (tfr.t (w := sN w n k 1) ht hr)
theorem tfr.r8 (hr : (wN w n 2).toNat < 16) : tfr n w (aR8 w n T F).2 := by
  unfold aR8
  split
  · exact tfr.been (by decide) (by decide) hr
  · exact tfr.refl
theorem tfr.r4 (hr : (wN w n 2).toNat < 16) : tfr n w (aR4 w n T F).2 := by
  unfold aR4
  by_cases c : wN w n 3 = 1 ∧ wN w n 7 = 0 ∧ 2 * F + 1 ≤ cRd w n 0 (wN w n 2).toNat 0 [] T
  · rw [cif_pos c]
    exact tfr.been (by decide) (by decide) hr
  · rw [cif_neg c]
    exact tfr.r8 hr
theorem tfr.r3 (hr : (wN w n 2).toNat < 16) : tfr n w (aR3 w n T F).2 := by
  unfold aR3
  by_cases c : wN w n 3 = 1 ∧ 2 * F + 1 ≤ cRd w n 0 (wN w n 2).toNat 1 [] T
  · rw [cif_pos c]; exact tfr.vote
  · rw [cif_neg c]; exact tfr.r4 hr
theorem tfr.pre : tfr n w (aPre w n T m).2 := by
  unfold aPre
  split
  · exact tfr.vote
  · exact tfr.vote
theorem tfr.r5 {c : List Nat} : tfr n w (aR5 w n T c).2 := by
  unfold aR5
  refine (tfr.N (k := 6) (v := 1) (by decide)).trans rfl (N_o _ _ _ _ (Or.inr (by decide))) ?_
  generalize sN w n 6 1 = w1
  unfold aR5a
  split
  · split
    · exact tfr.refl
    · unfold aR5v
      cases h : (aOwn w1 n (ownT w1 n 5 ((wN w1 n 2).toNat :: c))).1 with
      | false => exact (aOwn_f h).t
      | true =>
        have a := (aOwn_w h).2.1
        refine tfr.same (fun k hk => ?_) ?_
        · show wN (sN _ n 5 _) n k = _
          rw [N_o _ _ _ _ (by omega)]
          exact a k (by omega)
        · show wN (sN _ n 5 _) n 0 = _
          rw [N_o _ _ _ _ (by omega)]
          exact a 0 (by omega)
  · split
    · exact tfr.vote
    · unfold aR5l
      cases h : (aOwn w1 n (ownT w1 n 4 ((wN w1 n 2).toNat :: c))).1 with
      | false => exact (aOwn_f h).t
      | true =>
        obtain ⟨o1, a, _⟩ := aOwn_w h
        rw [if_pos rfl]
        generalize (aOwn w1 n (ownT w1 n 4 ((wN w1 n 2).toNat :: c))).2 = w2 at o1 a ⊢
        have e : ∀ k, k ≠ 4 → k ≠ 5 → wN (aLk w2 n (wN w1 n 2) c) n k = wN w2 n k := fun k x y => by
          unfold aLk
          rw [N_o _ _ _ _ (Or.inr y), N_o _ _ _ _ (Or.inr x)]
          rfl
        have u : wN (aLk w2 n (wN w1 n 2) c) n 0 = wN w1 n 0 := by rw [e 0 (by decide) (by decide)]; exact a 0 (by omega)
        have l : tfr n w1 (aLk w2 n (wN w1 n 2) c) := tfr.same (fun k hk => by rw [e k (by omega) (by omega)]; exact a k (by omega)) u
        exact l.trans o1.2.1 u tfr.vote
theorem tfr.rule (hr : (wN w n 2).toNat < 16) : tfr n w (aRule w n T F).2 := by
  unfold aRule
  split
  · exact tfr.take
  · unfold aR0
    split
    · exact tfr.dec
    · split
      · exact tfr.dec
      · unfold aR1
        split
        · rename_i r e
          exact tfr.begin (hst_inv 16 e).1
        · unfold aR2
          split
          · split
            · exact tfr.r8 hr
            · rename_i m _
              by_cases c : maV w n T F m
              · rw [cif_pos c]; exact tfr.pre
              · rw [cif_neg c]; exact tfr.r8 hr
          · split
            · exact tfr.r3 hr
            · rename_i m _
              by_cases c : wN w n 6 = 0 ∧ 2 * F + 1 ≤ cRd w n 0 (wN w n 2).toNat 2 (idB (m.drop 6)) T ∧ aVal w n (some (m.drop 6))
              · rw [cif_pos c]; exact tfr.r5
              · rw [cif_neg c]; exact tfr.r3 hr
/-- where a rule acted the node is still up -/
theorem aVote_u {k s : Nat} {o : Option (List Nat)} (h : (aVote w n T k s o).1 = true) : wN (aVote w n T k s o).2 n 0 = wN w n 0 := by
  unfold aVote at h ⊢
  cases e : (aOwn w n (ownT w n 3 (s :: vtM w n k o))).1 with
  | false =>
    rw [e] at h
    cases h
  | true =>
    show wN (aSend _ n T _) n 0 = _
    rw [aSend_N (by decide), N_o _ _ _ _ (by omega)]
    exact (aOwn_w e).2.1 0 (by omega)
theorem been_u {k t : Nat} {v : Int} (hk : 1 ≤ k) (ht : 1 ≤ t) : wN (sN (sN w n k 1) n t v) n 0 = wN w n 0 := by rw [N_o _ _ _ _ (Or.inr (by omega)), N_o _ _ _ _ (Or.inr (by omega))]
theorem aR8_u : wN (aR8 w n T F).2 n 0 = wN w n 0 := by
  unfold aR8
  split
  · exact been_u (by decide) (by decide)
  · rfl
theorem aR3_u (h : (aR3 w n T F).1 = true) : wN (aR3 w n T F).2 n 0 = wN w n 0 := by
  unfold aR3 at h ⊢
  by_cases c : wN w n 3 = 1 ∧ 2 * F + 1 ≤ cRd w n 0 (wN w n 2).toNat 1 [] T
  · rw [cif_pos c] at h ⊢; exact aVote_u h
  · rw [cif_neg c] at h ⊢
    unfold aR4 at h ⊢
    by_cases c : wN w n 3 = 1 ∧ wN w n 7 = 0 ∧ 2 * F + 1 ≤ cRd w n 0 (wN w n 2).toNat 0 [] T
    · rw [cif_pos c]; exact been_u (by decide) (by decide)
    · rw [cif_neg c]; exact aR8_u
theorem aR5_u {c : List Nat} (h : (aR5 w n T c).1 = true) : wN (aR5 w n T c).2 n 0 = wN w n 0 := by
  unfold aR5 at h ⊢
  have e0 : wN (sN w n 6 1) n 0 = wN w n 0 := N_o _ _ _ _ (Or.inr (by decide))
  rw [← e0]
  generalize sN w n 6 1 = w1 at h ⊢
  unfold aR5a at h ⊢
  by_cases c3 : wN w1 n 3 = 2
  · rw [if_pos c3] at h ⊢
    by_cases c5 : wN w1 n 5 = wN w1 n 2 ∧ sameI (some c) (wY w1 n 1 0)
    · rw [if_pos c5]
    · rw [if_neg c5] at h ⊢
      unfold aR5v at h ⊢
      cases e : (aOwn w1 n (ownT w1 n 5 ((wN w1 n 2).toNat :: c))).1 with
      | false => rw [e] at h; cases h
      | true =>
        show wN (sN _ n 5 _) n 0 = _
        rw [N_o _ _ _ _ (by omega)]
        exact (aOwn_w e).2.1 0 (by omega)
  · rw [if_neg c3] at h ⊢
    by_cases c4 : wN w1 n 4 = wN w1 n 2
    · rw [if_pos c4] at h ⊢; exact aVote_u h
    · rw [if_neg c4] at h ⊢
      unfold aR5l at h ⊢
      cases e : (aOwn w1 n (ownT w1 n 4 ((wN w1 n 2).toNat :: c))).1 with
      | false => rw [e] at h; cases h
      | true =>
        rw [e, if_pos rfl] at h
        rw [if_pos rfl, aVote_u h]
        unfold aLk
        rw [N_o _ _ _ _ (by omega), N_o _ _ _ _ (by omega)]
        exact (aOwn_w e).2.1 0 (by omega)
theorem aRule_u (h : (aRule w n T F).1 = true) (u : wN w n 0 = 1) : wN (aRule w n T F).2 n 0 = 1 := by
  unfold aRule at h ⊢
  cases e1 : lst (snF w n T F) T with
  | some s =>
    rw [e1] at h
    exact of_decide_eq_true h
  | none =>
    rw [e1] at h
    have h : (aR0 w n T F).1 = true := h
    show wN (aR0 w n T F).2 n 0 = 1
    unfold aR0 at h ⊢
    cases e2 : lst (deS w n T F) T with
    | some s =>
      rw [e2] at h
      exact of_decide_eq_true h
    | none =>
      rw [e2] at h
      cases e3 : lst (deH w n T F) 16 with
      | some s =>
        rw [e3] at h
        exact of_decide_eq_true h
      | none =>
        rw [e3] at h
        have h : (aR1 w n T F).1 = true := h
        show wN (aR1 w n T F).2 n 0 = 1
        unfold aR1 at h ⊢
        cases e4 : hst (fun r => (wN w n 2).toNat < r ∧ F < ahC w n T r T) 16 with
        | some s =>
          rw [e4] at h
          exact of_decide_eq_true h
        | none =>
          rw [e4] at h
          have h : (aR2 w n T F).1 = true := h
          show wN (aR2 w n T F).2 n 0 = 1
          rw [← u]
          unfold aR2 at h ⊢
          by_cases c3 : wN w n 3 = 0
          · rw [if_pos c3] at h ⊢
            cases e : hdR w n with
            | none => exact aR8_u
            | some m =>
              rw [e] at h
              have h : (cif (maV w n T F m) (aPre w n T m) (aR8 w n T F)).1 = true := h
              show wN (cif (maV w n T F m) (aPre w n T m) (aR8 w n T F)).2 n 0 = _
              by_cases c : maV w n T F m
              · rw [cif_pos c] at h ⊢
                unfold aPre at h ⊢
                by_cases q : pvY w n m
                · rw [if_pos q] at h ⊢; exact aVote_u h
                · rw [if_neg q] at h ⊢; exact aVote_u h
              · rw [cif_neg c]; exact aR8_u
          · rw [if_neg c3] at h ⊢
            cases e : hdR w n with
            | none =>
              rw [e] at h
              exact aR3_u h
            | some m =>
              rw [e] at h
              have h : (cif (wN w n 6 = 0 ∧ 2 * F + 1 ≤ cRd w n 0 (wN w n 2).toNat 2 (idB (m.drop 6)) T ∧ aVal w n (some (m.drop 6))) (aR5 w n T (m.drop 6)) (aR3 w n T F)).1 = true := h
              show wN (cif (wN w n 6 = 0 ∧ 2 * F + 1 ≤ cRd w n 0 (wN w n 2).toNat 2 (idB (m.drop 6)) T ∧ aVal w n (some (m.drop 6))) (aR5 w n T (m.drop 6)) (aR3 w n T F)).2 n 0 = _
              by_cases c : wN w n 6 = 0 ∧ 2 * F + 1 ≤ cRd w n 0 (wN w n 2).toNat 2 (idB (m.drop 6)) T ∧ aVal w n (some (m.drop 6))
              · rw [cif_pos c] at h ⊢; exact aR5_u h
              · rw [cif_neg c] at h ⊢; exact aR3_u h
theorem aRuns_no : ∀ k w, aRuns n T F k false w = w
  | 0, _ => rfl
  | k + 1, w => by
    unfold aRuns
    rw [if_neg (by simp)]
theorem tfr.runs (hn : n < H) : ∀ k b w, GK F H T w → (b = true → wN w n 0 = 1) → tfr n w (aRuns n T F k b w)
  | 0, _, _, _, _ => tfr.refl
  | k + 1, b, w, g, u => by
    unfold aRuns
    by_cases c : b = true ∧ wN w n 1 ≤ 40
    · rw [if_pos c]
      obtain ⟨G, g1⟩ := g.1
      have kr := (g.ok hn).r
      have t : tfr n w (aRule w n T F).2 := tfr.rule (by omega)
      cases e : (aRule w n T F).1 with
      | false => rw [aRuns_no]; exact t
      | true =>
        have u' := aRule_u e (u c.1)
        exact t.trans wfr.rule.2.1 (by rw [u', u c.1]) (tfr.runs hn k _ _ (g.of wfr.rule (g1.rule (g.2 n hn) hn c.2)) (fun _ => u'))
    · rw [if_neg c]
      exact tfr.refl
theorem tfr.rules (g : GK F H T w) (hn : n < H) : tfr n w (aRules w n T F) := tfr.runs hn 5000 _ w g (fun z => of_decide_eq_true z)
theorem aGot_N : wN (aGot w n T b m) n = wN w n := by
  have kp : ∀ x, wN (aKp w n x).2 = wN w := fun x => by
    unfold aKp
    split <;> rfl
  have ev : ∀ w y, wN (aEv w n T m y) = wN w := fun w y => by
    have kp : wN (aKp w n (evM m y)).2 = wN w := by
      unfold aKp
      split <;> rfl
    unfold aEv
    split
    · exact kp
    · exact kp
  have po : ∀ x, wN (aPool w n x).2 = wN w := fun x => by
    unfold aPool
    split <;> rfl
  have two : ∀ w, wN (aArr2 w n T b m) = wN w := fun w => by
    unfold aArr2
    split
    · split <;> rfl
    · split
      · split
        · unfold aArP
          split
          · split
            · rfl
            · split
              · rfl
              · exact ev w _
          · rfl
        · unfold aArV
          split
          · rfl
          · split
            · rfl
            · exact ev w _
      · rfl
  have all : wN (aGot w n T b m) = wN w := by
    unfold aGot
    split
    · split
      · exact po _
      · exact po _
    split
    · split
      · exact kp _
      · exact kp _
    split
    · split <;> rfl
    split
    · split <;> rfl
    split
    · split <;> rfl
    · unfold aArr
      split
      · exact two _
      · exact two w
  rw [all]
theorem tfr.got : tfr n w (aGot w n T b m) := tfr.same (fun k hk => by rw [aGot_N]) (by rw [aGot_N])
theorem tfr.come (g : wf T m → GK F H T (aGot w n T b m)) (hn : n < H) : tfr n w (aCome w n T F b m) := by
  unfold aCome
  by_cases c : wf T m
  · rw [cif_pos c]; exact tfr.got.trans wfr.got.2.1 (by rw [aGot_N]) (tfr.rules (g c) hn)
  · rw [cif_neg c]; exact tfr.refl
end
/-- timers end later than now, of nodes that are up -/
def tmO (t : Int) (w : Wd) (n : Nat) : Prop := ∀ k, 9 ≤ k ∧ k ≤ 11 → wN w n k = -1 ∨ (wN w n 0 = 1 ∧ t < wN w n k ∧ wN w n k < 1000000)
theorem tmO.tfr {n : Nat} {t : Int} {w w' : Wd} (h : tmO t w n) (f : tfr n w w') (u : wN w n 0 = 1) (ht : t ≤ wT w) (h9 : wT w < 900000) : tmO t w' n := fun k hk => by
  rcases f k hk with a | ⟨a, b | ⟨r, r1, r2⟩⟩
  · exact Or.inl a
  · rw [b, a]
    exact h k hk
  · exact Or.inr ⟨by rw [a]; exact u, by omega⟩
theorem tmO.wfr {n m : Nat} {t : Int} {w w' : Wd} (h : tmO t w m) (f : wfr n w w') (ne : m ≠ n) : tmO t w' m := by
  unfold tmO
  rw [(f.1 m ne).1]
  exact h
theorem tmO.mono {n : Nat} {t t' : Int} {w : Wd} (h : tmO t w n) (l : t' ≤ t) : tmO t' w n := fun k hk => by
  rcases h k hk with a | a
  · exact Or.inl a
  · exact Or.inr ⟨a.1, by omega, a.2.2⟩
end

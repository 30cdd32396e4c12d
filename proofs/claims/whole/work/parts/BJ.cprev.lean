section
/-! THE CLASS'S NODE PREVOTES -/
section
variable {F N g H T n : Nat} {s s1 : cS} {ct : Nat → List Nat} {hd : List Nat} {w w' : Wd} {pe : Nat → Int} {G : Gh}
/-- what is kept in a field: locked, valid -/
theorem lock_at {k : Nat} (h : CR F g H T s ct hd w pe) (hn : n < H) (hk : k = 14 ∨ k = 15) : (cR s k (nd g n) = none ∧ wY w n (k - 14) 0 = none) ∨ ∃ a b, cR s k (nd g n) = some a ∧ wY w n (k - 14) 0 = some b ∧ b = (ct a).drop 6 ∧ 1 ≤ us g H T s hd a ∧ nmC s a (some (idB b)) := by
  have q := (h.node hn).2.2.2.2.2.2.2.2.2.2.1
  have q1 : (cR s k (nd g n)).map (fun a => (ct a).drop 6) = wY w n (k - 14) 0 := by
    rcases hk with rfl | rfl
    · exact q.1
    · exact q.2.1
  cases e : cR s k (nd g n) with
  | none =>
    rw [e] at q1
    exact Or.inl ⟨rfl, q1.symm⟩
  | some a =>
    rw [e] at q1
    have c1 := cnA_hf (g := g) (H := H) (T := T) (s := s) hn hk e
    have ua : 1 ≤ us g H T s hd a := by
      unfold us
      omega
    have f4 : cI s 4 a = nI 1 := h.2.2.2.1.2.2.2.2.2 n k a hn hk e
    have hm := h.2.2.2.1.m ua
    have b0 := q.2.2 k a hk e
    have ei : idM (ct a) = some (idB ((ct a).drop 6)) := by
      unfold idM
      rw [if_pos b0]
    refine Or.inr ⟨a, (ct a).drop 6, rfl, q1.symm, rfl, ua, ?_⟩
    rcases hm.2 with ⟨q, _⟩ | ⟨_, _, q⟩ | ⟨q, _⟩
    · rw [f4] at q
      exact absurd q (by decide)
    · rw [ei] at q
      exact q
    · rw [f4] at q
      exact absurd q (by decide)
/-- the proposal of the round, in its place -/
theorem prp_at {r : Nat} (h : CR F g H T s ct hd w pe) (hn : n < H) (hu : wN w n 0 = 1) (k : GN F H T G w n) (hr : r < 16) : (cP s (nd g n + 15) (16 * ((wN w n 1).toNat % 2) + r) = none ∧ wY w n 4 (16 * ((wN w n 1).toNat % 2) + r) = none) ∨ ∃ a m, cP s (nd g n + 15) (16 * ((wN w n 1).toNat % 2) + r) = some a ∧ wY w n 4 (16 * ((wN w n 1).toNat % 2) + r) = some m ∧ ct a = m ∧ mS s a m ∧ 1 ≤ us g H T s hd a ∧ cI s 4 a = nI 1 ∧ bg m 0 = 1 ∧ idM m = some (idB (m.drop 6)) ∧ nmC s a (some (idB (m.drop 6))) ∧ prOK T m ∧ isB m := by
  rcases prop_at h hn hu (show 16 * ((wN w n 1).toNat % 2) + r < 32 by omega) with q | ⟨a, m, p1, p2, p3, p4, p5, p6, p7, p8⟩
  · exact Or.inl q
  · obtain ⟨q1, q2, q3, q4, q5, q6, q7⟩ := k.2.2.2.1 ((wN w n 1).toNat % 2) r m (by omega) hr p2
    have ei : idM m = some (idB (m.drop 6)) := by
      unfold idM
      rw [if_pos q1]
    rw [ei] at p8
    exact Or.inr ⟨a, m, p1, p2, p3, p4, p5, p6, q1, ei, p8, q5, q6⟩
/-- is what is locked for the block of a message -/
theorem lockFor {a : Nat} {m : List Nat} (h : CR F g H T s ct hd w pe) (hn : n < H) (ha : nmC s a (some (idB (m.drop 6)))) {b0 : Nat} (e : cR s 14 (nd g n) = some b0) : wp (p_X5_isFor N g H T s b0 (some a)) (k_X5_isFor N g H T s b0 (some a)) (fun z => (z = nI 1 ∧ sameI (some (m.drop 6)) (wY w n 0 0)) ∨ (z = nI 0 ∧ ¬ sameI (some (m.drop 6)) (wY w n 0 0))) := by
  rcases lock_at (k := 14) h hn (Or.inl rfl) with ⟨l1, l2⟩ | ⟨b1, b, l1, l2, l3, l4, l5⟩
  · rw [e] at l1
    cases l1
  rw [e] at l1
  have l1 := Option.some.inj l1
  have l2 : wY w n 0 0 = some b := l2
  rw [← l1] at l5
  refine wp_mono (isFor_c l5 ha (fun d' e' => by cases e'; exact ⟨idB_len _, idB_B _⟩) (fun d' e' => by cases e'; exact ⟨idB_len _, idB_B _⟩)) (fun q => ?_)
  rcases q with ⟨q1, q2, _⟩ | ⟨q1, q2⟩
  · exact Or.inl ⟨q1, m.drop 6, b, rfl, l2, (Option.some.inj q2).symm⟩
  · refine Or.inr ⟨q1, ?_⟩
    rintro ⟨x, y, e1, e2, e3⟩
    have e1 := Option.some.inj e1
    rw [l2] at e2
    have e2 := Option.some.inj e2
    exact q2 ⟨by rw [e2, e1, e3], fun z => by cases z⟩
theorem aPre_y {m : List Nat} (c : pvY w n m) : aPre w n T m = aVote w n T 2 1 (some (idB (m.drop 6))) := by
  unfold aPre
  rw [if_pos c]
theorem aPre_n {m : List Nat} (c : ¬ pvY w n m) : aPre w n T m = aVote w n T 2 1 none := by
  unfold aPre
  rw [if_neg c]
theorem prevNew_78 {a : Nat} {m : List Nat} {j : Nat} (hN : 100 ≤ N) (h : CR F g H T s ct hd w pe) (hn : n < H) (hl : hd.length ≤ 25) (u : uO T w n) (hp : pe n = -1) (ca : ct a = m) (ua : 1 ≤ us g H T s hd a) (a4 : cI s 4 a = nI 1) (ei : idM m = some (idB (m.drop 6))) (hj : (j = 1 ∧ pvY w n m) ∨ (j = 0 ∧ ¬ pvY w n m)) : wp (KO_X7_prevotesNew_78 N g H T (some (nd g n)) (some a) (nI j) s) (KF_X7_prevotesNew_78 N g H T (some (nd g n)) (some a) (nI j) s) (fun z => z.1 = nI 1 ∧ reC F g H T ct hd (aPre w n T m).2 pe z.2) := by
  unfold KO_X7_prevotesNew_78 KF_X7_prevotesNew_78 KO_X7_prevotesNew_91 KF_X7_prevotesNew_91 KO_X7_prevotesNew_94 KF_X7_prevotesNew_94 KO_X7_prevotesNew_98 KF_X7_prevotesNew_98
  rw [zsome]
  rcases hj with ⟨rfl, c⟩ | ⟨rfl, c⟩
  · obtain ⟨y1, y2⟩ := say_C (N := N) (kd := 2) (st := 1) (xo := some a) (o := some (idB (m.drop 6))) hN h hn hl (Or.inl rfl) (by decide) u hp (Or.inr ⟨a, idB (m.drop 6), rfl, rfl, ua, a4, by rw [ca]; exact ei, idB_len _, idB_B _⟩)
    rw [aPre_y c]
    exact wp_neg (by decide) (wp_fin ⟨⟨someN, y1⟩, y2.1, trivial⟩ ⟨rfl, y2.2⟩)
  · obtain ⟨y1, y2⟩ := say_C (N := N) (kd := 2) (st := 1) (xo := none) (o := none) hN h hn hl (Or.inl rfl) (by decide) u hp (Or.inl ⟨rfl, rfl⟩)
    rw [aPre_n c]
    exact wp_pos rfl (wp_fin ⟨⟨someN, y1⟩, y2.1, trivial⟩ ⟨rfl, y2.2⟩)
theorem prevOld_119 {a : Nat} {m : List Nat} {j : Nat} (hN : 100 ≤ N) (h : CR F g H T s ct hd w pe) (hn : n < H) (hl : hd.length ≤ 25) (u : uO T w n) (hp : pe n = -1) (ca : ct a = m) (ua : 1 ≤ us g H T s hd a) (a4 : cI s 4 a = nI 1) (ei : idM m = some (idB (m.drop 6))) (hj : (j = 1 ∧ pvY w n m) ∨ (j = 0 ∧ ¬ pvY w n m)) : wp (KO_X7_prevotesOld_119 N g H T (some (nd g n)) (some a) (nI j) s) (KF_X7_prevotesOld_119 N g H T (some (nd g n)) (some a) (nI j) s) (fun z => z.1 = nI 1 ∧ reC F g H T ct hd (aPre w n T m).2 pe z.2) := by
  unfold KO_X7_prevotesOld_119 KF_X7_prevotesOld_119 KO_X7_prevotesOld_132 KF_X7_prevotesOld_132 KO_X7_prevotesOld_135 KF_X7_prevotesOld_135 KO_X7_prevotesOld_139 KF_X7_prevotesOld_139
  rw [zsome]
  rcases hj with ⟨rfl, c⟩ | ⟨rfl, c⟩
  · obtain ⟨y1, y2⟩ := say_C (N := N) (kd := 2) (st := 1) (xo := some a) (o := some (idB (m.drop 6))) hN h hn hl (Or.inl rfl) (by decide) u hp (Or.inr ⟨a, idB (m.drop 6), rfl, rfl, ua, a4, by rw [ca]; exact ei, idB_len _, idB_B _⟩)
    rw [aPre_y c]
    exact wp_neg (by decide) (wp_fin ⟨⟨someN, y1⟩, y2.1, trivial⟩ ⟨rfl, y2.2⟩)
  · obtain ⟨y1, y2⟩ := say_C (N := N) (kd := 2) (st := 1) (xo := none) (o := none) hN h hn hl (Or.inl rfl) (by decide) u hp (Or.inl ⟨rfl, rfl⟩)
    rw [aPre_n c]
    exact wp_pos rfl (wp_fin ⟨⟨someN, y1⟩, y2.1, trivial⟩ ⟨rfl, y2.2⟩)
theorem prV_5 {m : List Nat} (h : prOK T m) : (bg m 5 = 255 ∧ prV m = -1) ∨ (bg m 5 ≤ 15 ∧ prV m = bg m 5) := by
  unfold prV
  rcases h.2.1 with q | q
  · exact Or.inr ⟨q, by rw [if_neg (by omega)]⟩
  · exact Or.inl ⟨q, by rw [if_pos q]⟩
theorem prevotesNew_C (hN : 100 ≤ N) (h : CR F g H T s ct hd w pe) (hn : n < H) (hl : hd.length ≤ 25) (k : GN F H T G w n) (gk : giK (wN w n)) (hu : wN w n 0 = 1) (hp : pe n = -1) (hf : cI s 5 (nd g n + 6) = nI 0) : wp (p_X7_prevotesNew N g H T s (some (nd g n))) (k_X7_prevotesNew N g H T s (some (nd g n))) (fun z => (∃ m, wN w n 3 = 0 ∧ hdR w n = some m ∧ prV m = -1 ∧ z.1 = nI 1 ∧ reC F g H T ct hd (aPre w n T m).2 pe z.2) ∨ ((wN w n 3 = 0 → ∀ m, hdR w n = some m → prV m ≠ -1) ∧ z = (nI 0, s))) := by
  have cb := h.1.bb
  have o := k.ok h.1 gk
  have o1 := o.h
  have o2 := o.r
  have o3 := o.s
  have u := k.uo h.1 gk hn hu
  have r16 : (wN w n 2).toNat < 16 := by omega
  obtain ⟨p1, p2⟩ := proposal_c (N := N) (g := g) (H := H) (T := T) (n := n) (s := s) (h := (wN w n 1).toNat) r16
  show wp (KO_X7_prevotesNew_0 N g H T (some (nd g n)) s) (KF_X7_prevotesNew_0 N g H T (some (nd g n)) s) _
  unfold KO_X7_prevotesNew_0 KF_X7_prevotesNew_0
  rw [zsome, h.h1 hn (by omega), h.h2 hn o2.1, h.h3 hn o3.1, p2]
  have no : (wN w n 3 = 0 → ∀ m, hdR w n = some m → prV m ≠ -1) → wp (KO_X7_prevotesNew_42 N g H T s) (KF_X7_prevotesNew_42 N g H T s) (fun z => (∃ m, wN w n 3 = 0 ∧ hdR w n = some m ∧ prV m = -1 ∧ z.1 = nI 1 ∧ reC F g H T ct hd (aPre w n T m).2 pe z.2) ∨ ((wN w n 3 = 0 → ∀ m, hdR w n = some m → prV m ≠ -1) ∧ z = (nI 0, s))) := fun q => wp_fin trivial (Or.inr ⟨q, rfl⟩)
  refine wp_and someN (wp_ite (fun c0 => ?_) (fun c0 => ?_)) <;> rw [n_eq0 (by omega)] at c0
  rotate_left
  · unfold KO_X7_prevotesNew_26 KF_X7_prevotesNew_26
    exact wp_pos rfl (no (fun q => by omega))
  refine wp_and p1 ?_
  unfold KO_X7_prevotesNew_26 KF_X7_prevotesNew_26
  rcases prp_at h hn hu k r16 with ⟨a1, a2⟩ | ⟨a, m, a1, a2, a3, a4, a5, a6, a7, a8, a9, a10, a11⟩
  · rw [a1]
    exact wp_pos rfl (no (fun _ m e => by
      have e : wY w n 4 (16 * ((wN w n 1).toNat % 2) + (wN w n 2).toNat) = some m := e
      rw [a2] at e
      cases e))
  have hm : hdR w n = some m := a2
  obtain ⟨t1, t2⟩ := at_ok (N := N) (g := g) (H := H) (T := T) (i := 5) a4 (by omega)
  have b5 := a11 5
  rw [a1, zsome, zsome, t2, h.h2 hn o2.1]
  refine wp_neg someN (wp_and t1 ?_)
  rcases prV_5 a10 with ⟨v1, v2⟩ | ⟨v1, v2⟩
  rotate_left
  · refine wp_neg (by rw [n_eq' (by omega) (by omega)]; omega) (no (fun _ m' e => ?_))
    rw [hm] at e
    rw [← Option.some.inj e]
    omega
  refine wp_pos (by rw [v1]) (wp_and someN (wp_call (approves_C hN h hn hu k hf r16 a2) (fun q => ?_)))
  obtain ⟨i1, i2, i3⟩ := q
  generalize k_X7_approves N g H T s (some (nd g n)) (nI (wN w n 2).toNat) = z at i1 i2 i3 ⊢
  obtain ⟨z1, s1⟩ := z
  have i1 : CR F g H T s1 ct hd w pe := i1
  have i2 : cfr (apP g n) s s1 := i2
  have ePs : cP s1 = cP s := i2.2.2.2.2.2.1
  rcases prp_at i1 hn hu k r16 with ⟨b1, b2⟩ | ⟨a', m', b1, b2, b3, b4, b5', b6, b7, b8, b9, b10, b11⟩
  · rw [a2] at b2
    cases b2
  rw [ePs, a1] at b1
  have b1 := Option.some.inj b1
  rw [a2] at b2
  have b2 := Option.some.inj b2
  rw [← b1, ← b2] at b3
  rw [← b1] at b5' b6
  rw [← b1, ← b2] at b9
  have fin : ∀ j, ((j = 1 ∧ pvY w n m) ∨ (j = 0 ∧ ¬ pvY w n m)) → wp (KO_X7_prevotesNew_78 N g H T (some (nd g n)) (some a) (nI j) s1) (KF_X7_prevotesNew_78 N g H T (some (nd g n)) (some a) (nI j) s1) (fun z => (∃ m, wN w n 3 = 0 ∧ hdR w n = some m ∧ prV m = -1 ∧ z.1 = nI 1 ∧ reC F g H T ct hd (aPre w n T m).2 pe z.2) ∨ ((wN w n 3 = 0 → ∀ m, hdR w n = some m → prV m ≠ -1) ∧ z = (nI 0, s))) := fun j hj => wp_mono (prevNew_78 hN i1 hn hl u hp b3 b5' b6 a8 hj) (fun q => Or.inl ⟨m, by omega, hm, v2, q.1, q.2⟩)
  show wp (KO_X7_prevotesNew_52 N g H T (some (nd g n)) (some a) z1 s1) (KF_X7_prevotesNew_52 N g H T (some (nd g n)) (some a) z1 s1) _
  unfold KO_X7_prevotesNew_52 KF_X7_prevotesNew_52 KO_X7_prevotesNew_77 KF_X7_prevotesNew_77 KO_X7_prevotesNew_73 KF_X7_prevotesNew_73
  rcases i3 with ⟨i3, i4⟩ | ⟨i3, i4⟩
  rotate_left
  · have i3 : z1 = nI 0 := i3
    rw [i3]
    exact wp_pos (show nI 0 = 0 from rfl) (fin 0 (Or.inr ⟨rfl, fun q => i4 q.2⟩))
  have i3 : z1 = nI 1 := i3
  rw [i3, zsome]
  refine wp_neg (show ¬ nI 1 = 0 by decide) (wp_and someN ?_)
  cases e : cR s1 14 (nd g n) with
  | none =>
    refine wp_pos rfl (fin 1 (Or.inl ⟨rfl, Or.inl ⟨v2, ?_⟩, i4⟩))
    rcases lock_at (k := 14) i1 hn (Or.inl rfl) with ⟨l1, l2⟩ | ⟨b1, b, l1, l2, l3, l4, l5⟩
    · exact l2
    · rw [e] at l1
      cases l1
  | some b0 =>
    rw [zsome]
    refine wp_neg someN (wp_call (lockFor i1 hn b9 e) (fun q => ?_))
    rcases q with ⟨q1, q2⟩ | ⟨q1, q2⟩ <;> rw [q1]
    · exact wp_neg (show ¬ nI 1 = 0 by decide) (fin 1 (Or.inl ⟨rfl, Or.inr (Or.inr q2), i4⟩))
    · refine wp_pos (show nI 0 = 0 from rfl) (fin 0 (Or.inr ⟨rfl, fun z => ?_⟩))
      rcases z.1 with c | c | c
      · rcases lock_at (k := 14) i1 hn (Or.inl rfl) with ⟨l1, l2⟩ | ⟨b1, b, l1, l2, l3, l4, l5⟩
        · rw [e] at l1
          cases l1
        · have l2 : wY w n 0 0 = some b := l2
          rw [c.2] at l2
          cases l2
      · exact c.1 v2
      · exact q2 c
end
end

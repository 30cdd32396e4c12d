section
/-! A BLOCK THAT A NODE BUILDS IS WELL FORMED -/
theorem flat_pt : ∀ (ps : List (List Nat)) (p i : Nat), p < ps.length → i < (pg ps p).length → bg ps.flatten ((ps.take p).flatten.length + i) = bg (pg ps p) i
  | [], p, i, h, _ => absurd h (by simp)
  | x :: xs, 0, i, _, h => by
    have h : i < x.length := h
    show bg (x ++ xs.flatten) (0 + i) = bg x i
    rw [bg_app, Nat.zero_add, if_pos h]
  | x :: xs, p + 1, i, hp, h => by
    have := flat_pt xs p i (by simp at hp; omega) h
    show bg (x ++ xs.flatten) ((x ++ (xs.take p).flatten).length + i) = bg (pg xs p) i
    rw [bg_app, List.length_append, if_neg (by omega), show x.length + (xs.take p).flatten.length + i - x.length = (xs.take p).flatten.length + i by omega]
    exact this
theorem flat_tk : ∀ (ps : List (List Nat)) (p : Nat), p < ps.length → (ps.take (p + 1)).flatten.length = (ps.take p).flatten.length + (pg ps p).length
  | [], p, h => absurd h (by simp)
  | x :: xs, 0, _ => by
    show (x ++ []).length = 0 + x.length
    simp
  | x :: xs, p + 1, hp => by
    have := flat_tk xs p (by simp at hp; omega)
    show (x ++ (xs.take (p + 1)).flatten).length = (x ++ (xs.take p).flatten).length + (pg xs p).length
    rw [List.length_append, List.length_append, this]
    omega
theorem flat_le : ∀ (ps : List (List Nat)) (p : Nat), (ps.take p).flatten.length ≤ ps.flatten.length
  | [], p => by simp
  | x :: xs, 0 => by simp
  | x :: xs, p + 1 => by
    have := flat_le xs p
    show (x ++ (xs.take p).flatten).length ≤ (x ++ xs.flatten).length
    rw [List.length_append, List.length_append]
    omega
theorem pg_ext : ∀ {a b : List (List Nat)}, a.length = b.length → (∀ p, p < a.length → pg a p = pg b p) → a = b
  | [], [], _, _ => rfl
  | [], _ :: _, h, _ => by simp at h
  | _ :: _, [], h, _ => by simp at h
  | x :: xs, y :: ys, h, e => by
    have h0 : x = y := e 0 (by simp)
    have h1 : xs = ys := pg_ext (by simpa using h) (fun p hp => e (p + 1) (by simp; omega))
    rw [h0, h1]
theorem evOK_at {T a : Nat} {m b : List Nat} (h : evOK T m 1) (hl : m.length = 1 + evSz m 1) (hb : a + (m.length - 1) ≤ b.length) (e : ∀ i, i < m.length - 1 → bg b (a + i) = bg m (1 + i)) : evOK T b a ∧ evSz b a = m.length - 1 := by
  have sz := evSz_le m 1
  obtain ⟨h1, h2, h3, h4, h5, h6, h7⟩ := h
  have e0 := e 0 (by omega)
  have e1 := e 1 (by omega)
  have e2 := e 2 (by omega)
  have e3 := e 3 (by omega)
  have e4 := e 4 (by omega)
  have e5 := e 5 (by omega)
  have e6 := e 6 (by omega)
  have e38 := e 38 (by omega)
  simp only [Nat.add_zero] at e0
  have t2 : tw b (a + 2) = tw m (1 + 2) := by
    unfold tw
    rw [show a + 2 + 1 = a + 3 from rfl, show 1 + 2 + 1 = 1 + 3 from rfl, e2, e3]
  have zz : evSz b a = m.length - 1 := by
    unfold evSz at hl ⊢
    rw [e5]
    omega
  refine ⟨⟨by omega, by omega, by omega, by omega, by rw [t2]; exact h5, by omega, ?_⟩, zz⟩
  rcases h7 with h7 | ⟨k1, k2, k3, k4⟩
  · exact Or.inl (by omega)
  · have lz : evSz m 1 = 71 := by unfold evSz; rw [if_pos k1]
    refine Or.inr ⟨by omega, by omega, by omega, ?_⟩
    obtain ⟨i, i1, i2, i3⟩ := k4
    refine ⟨i, i1, fun j hj => ?_, ?_⟩
    · have p := e (6 + j) (by omega)
      have q := e (39 + j) (by omega)
      rw [show a + 6 + j = a + (6 + j) by omega, show a + 39 + j = a + (39 + j) by omega, p, q, show 1 + (6 + j) = 1 + 6 + j by omega, show 1 + (39 + j) = 1 + 39 + j by omega]
      exact i2 j hj
    · have p := e (6 + i) (by omega)
      have q := e (39 + i) (by omega)
      rw [show a + 6 + i = a + (6 + i) by omega, show a + 39 + i = a + (39 + i) by omega, p, q, show 1 + (6 + i) = 1 + 6 + i by omega, show 1 + (39 + i) = 1 + 39 + i by omega]
      exact i3
theorem payOK_at {a c : Nat} {m b : List Nat} (h : payOK m c) (hb : a + 7 ≤ b.length) (e : ∀ i, i < 7 → bg b (a + i) = bg m (c + i)) : payOK b a := by
  obtain ⟨h1, h2, h3, h4, h5, h6, h7, h8⟩ := h
  have e0 := e 0 (by omega)
  have e1 := e 1 (by omega)
  have e2 := e 2 (by omega)
  have e3 := e 3 (by omega)
  have e6 := e 6 (by omega)
  simp only [Nat.add_zero] at e0
  have t2 : tw b (a + 2) = tw m (c + 2) := by
    unfold tw
    rw [show a + 2 + 1 = a + 3 from rfl, show c + 2 + 1 = c + 3 from rfl, e2, e3]
  exact ⟨hb, by omega, by omega, by omega, by omega, by omega, by omega, by omega⟩
theorem evS_in (w : Wd) (n : Nat) : ∀ s k, k < (evS w n s).2.length → ∃ t m, t < s ∧ wY w n 2 t = some m ∧ pg (evS w n s).2 k = m.drop 1
  | 0, k, h => absurd h (by show ¬ k < 0; omega)
  | s + 1, k, h => by
    have old : k < (evS w n s).2.length → pg (evS w n (s + 1)).2 k = pg (evS w n s).2 k → ∃ t m, t < s + 1 ∧ wY w n 2 t = some m ∧ pg (evS w n (s + 1)).2 k = m.drop 1 := fun a b => by
      obtain ⟨t, m, t1, t2, t3⟩ := evS_in w n s k a
      exact ⟨t, m, by omega, t2, by rw [b]; exact t3⟩
    by_cases c : 2 ≤ (evS w n s).2.length
    · have un : evS w n (s + 1) = evS w n s := by rw [evS, if_pos c]
      rw [un] at h
      exact old h (by rw [un])
    · cases hy : wY w n 2 s with
      | none =>
        have un : evS w n (s + 1) = evS w n s := by rw [evS, if_neg c, hy]
        rw [un] at h
        exact old h (by rw [un])
      | some m =>
        have un : evS w n (s + 1) = if (bFine (evS w n s).1 s n).2 then ((bFine (evS w n s).1 s n).1, (evS w n s).2 ++ [m.drop 1]) else ((bFine (evS w n s).1 s n).1, (evS w n s).2) := by rw [evS, if_neg c, hy]
        by_cases c2 : (bFine (evS w n s).1 s n).2 = true
        · rw [if_pos c2] at un
          have e2 : (evS w n (s + 1)).2 = (evS w n s).2 ++ [m.drop 1] := by rw [un]
          rw [e2, List.length_append] at h
          have h : k < (evS w n s).2.length + 1 := h
          by_cases c3 : k < (evS w n s).2.length
          · exact old c3 (by rw [e2, pg_snoc, if_pos c3])
          · exact ⟨s, m, by omega, hy, by rw [e2, pg_snoc, if_neg c3, if_pos (by omega)]⟩
        · rw [if_neg c2] at un
          have e2 : (evS w n (s + 1)).2 = (evS w n s).2 := by rw [un]
          rw [e2] at h
          exact old h (by rw [e2])
theorem pyS_in (l : List (List Nat)) (b : Bk) (n : Nat) : ∀ s k, k < (pyS l b n s).2.length → ∃ t, t < s ∧ pg (pyS l b n s).2 k = pg l t
  | 0, k, h => absurd h (by show ¬ k < 0; omega)
  | s + 1, k, h => by
    have old : k < (pyS l b n s).2.length → pg (pyS l b n (s + 1)).2 k = pg (pyS l b n s).2 k → ∃ t, t < s + 1 ∧ pg (pyS l b n (s + 1)).2 k = pg l t := fun x y => by
      obtain ⟨t, t1, t3⟩ := pyS_in l b n s k x
      exact ⟨t, by omega, by rw [y]; exact t3⟩
    by_cases c : 64 ≤ (pyS l b n s).2.length
    · have un : pyS l b n (s + 1) = pyS l b n s := by rw [pyS, if_pos c]
      rw [un] at h
      exact old h (by rw [un])
    · by_cases c2 : (bPay (pyS l b n s).1 (bg (pg l s) 0) (bg (pg l s) 1) (tw (pg l s) 2) (tw (pg l s) 4) (bg (pg l s) 6) n).2 = true
      · have e2 : (pyS l b n (s + 1)).2 = (pyS l b n s).2 ++ [pg l s] := by rw [pyS, if_neg c, if_pos c2]
        rw [e2, List.length_append] at h
        have h : k < (pyS l b n s).2.length + 1 := h
        by_cases c3 : k < (pyS l b n s).2.length
        · exact old c3 (by rw [e2, pg_snoc, if_pos c3])
        · exact ⟨s, by omega, by rw [e2, pg_snoc, if_neg c3, if_pos (by omega)]⟩
      · have e2 : (pyS l b n (s + 1)).2 = (pyS l b n s).2 := by rw [pyS, if_neg c, if_neg c2]
        rw [e2] at h
        exact old h (by rw [e2])
section
variable {F H T n : Nat} {G : Gh} {w : Wd}
theorem GN.bld (c : cst F H T) (hn : n < H) (g : GN F H T G w n) : giW T (wN w n 1) (aBld w n T) ∧ isB (aBld w n T) := by
  have cb := c.b
  have c4 : H ≤ T := c.2.2.2.1
  have ga := g.a.2.1
  obtain ⟨d, d1, d2, d3⟩ := g.b.2
  obtain ⟨s1, s2, s3, s4⟩ := evS_ok (w := w) (n := n) g.b.1 (by omega) (fun s m hs e => by
    obtain ⟨_, _, _, x4, _, x6⟩ := g.e s m hs e
    have := evSz_le m 1
    exact ⟨by omega, x4⟩) T (by omega)
  obtain ⟨y1, y2, y3, y4⟩ := pyS_ok (l := wP w n) (k := (evS w n T).1) (n := n) s1 (by omega) (fun q hq => by
    obtain ⟨p1, p2, p3⟩ := g.p q hq
    exact ⟨p1, p2, p3.2.1, p3.2.2.1⟩) (wP w n).length (Nat.le_refl _)
  obtain ⟨E, hE⟩ : ∃ E, E = bldE w n T := ⟨_, rfl⟩
  obtain ⟨Y, hY⟩ : ∃ Y, Y = bldY w n T := ⟨_, rfl⟩
  have e2 : E.length ≤ 2 := by rw [hE]; exact s2
  have e3 : E.flatten.length ≤ 71 * E.length := by rw [hE]; exact s3
  have e4 : allB E := by rw [hE]; exact s4
  have f2 : Y.length ≤ 64 := by rw [hY]; exact y2
  have f3 : Y.flatten.length = 7 * Y.length := by rw [hY]; exact y3
  have f4 : allB Y := by rw [hY]; exact y4
  have inE : ∀ k, k < E.length → ∃ m, pg E k = m.drop 1 ∧ isB m ∧ evOK T m 1 ∧ m.length = 1 + evSz m 1 := by
    intro k hk
    rw [hE] at hk ⊢
    obtain ⟨t, m, t1, t2, t3⟩ := evS_in w n T k hk
    obtain ⟨_, _, _, x4, x5, x6⟩ := g.e t m (by omega) t2
    exact ⟨m, t3, x4, x5, x6⟩
  have inY : ∀ k, k < Y.length → (pg Y k).length = 7 ∧ isB (pg Y k) ∧ payOK (pg Y k) 0 := by
    intro k hk
    rw [hY] at hk ⊢
    obtain ⟨t, t1, t3⟩ := pyS_in (wP w n) (evS w n T).1 n (wP w n).length k hk
    show (pg (pyS (wP w n) (evS w n T).1 n (wP w n).length).2 k).length = 7 ∧ _
    have t3' : pg (bldY w n T) k = pg (wP w n) t := t3
    rw [t3, t3']
    exact g.p t t1
  obtain ⟨P, hP⟩ : ∃ P, P = E ++ Y := ⟨_, rfl⟩
  have hP' : bldP w n T = P := by rw [hP, hE, hY]; rfl
  have Pl : P.length = E.length + Y.length := by rw [hP, List.length_append]
  have Pf : P.flatten.length = E.flatten.length + 7 * Y.length := by rw [hP, List.flatten_append, List.length_append, f3]
  have pE : ∀ k, k < E.length → pg P k = pg E k := fun k hk => by rw [hP, pg_app, if_pos hk]
  have pY : ∀ k, pg P (E.length + k) = pg Y k := fun k => by rw [hP, pg_app, if_neg (by omega), Nat.add_sub_cancel_left]
  obtain ⟨b, hb⟩ : ∃ b, b = aBld w n T := ⟨_, rfl⟩
  have bl : b.length = 101 + P.flatten.length := by rw [hb, ← hP']; exact mkB_len _ _
  have bi : ∀ i, i < b.length → bg b i = bldI w n T d i := fun i hi => by
    rw [hb]
    unfold aBld
    rw [d1, mkB_bg, if_pos (by rw [hP', ← bl]; exact hi)]
    rfl
  have b0 : bg b 0 = (wN w n 1).toNat / 256 := by rw [bi 0 (by omega)]; rfl
  have b1 : bg b 1 = (wN w n 1).toNat % 256 := by rw [bi 1 (by omega)]; rfl
  have b2 : bg b 2 = n := by rw [bi 2 (by omega)]; rfl
  have b99 : bg b 99 = Y.length := by rw [bi 99 (by omega), hY]; rfl
  have b100 : bg b 100 = E.length := by rw [bi 100 (by omega), hE]; rfl
  have bf : ∀ i, i < P.flatten.length → bg b (101 + i) = bg P.flatten i := fun i hi => by
    rw [bi (101 + i) (by omega)]
    unfold bldI
    rw [if_neg (by omega), if_neg (by omega), if_neg (by omega), if_neg (by omega), if_neg (by omega), if_neg (by omega), if_neg (by omega), if_neg (by omega), hP', Nat.add_sub_cancel_left]
  have br : ∀ i, i < 32 → bg b (67 + i) = bg (rootP P) i := fun i hi => by
    rw [bi (67 + i) (by omega)]
    unfold bldI
    rw [if_neg (by omega), if_neg (by omega), if_neg (by omega), if_neg (by omega), if_neg (by omega), if_pos (by omega), hP', Nat.add_sub_cancel_left]
  have bp : ∀ p i, p < P.length → i < (pg P p).length → bg b (101 + (P.take p).flatten.length + i) = bg (pg P p) i := fun p i hp hi => by
    have t := flat_tk P p hp
    have l := flat_le P (p + 1)
    rw [show 101 + (P.take p).flatten.length + i = 101 + ((P.take p).flatten.length + i) by omega, bf _ (by omega)]
    exact flat_pt P p i hp hi
  have ev : ∀ k, k ≤ E.length → evP b k = 101 + (P.take k).flatten.length ∧ (∀ j, j < k → evOK T b (evP b j) ∧ evSz b (evP b j) = (pg E j).length) := by
    intro k
    induction k with
    | zero => intro _; exact ⟨by simp [evP], fun j hj => absurd hj (by omega)⟩
    | succ k ih =>
      intro hk
      obtain ⟨i1, i2⟩ := ih (by omega)
      obtain ⟨m, m1, m2, m3, m4⟩ := inE k (by omega)
      have t := flat_tk P k (by omega)
      have l := flat_le P (k + 1)
      rw [pE k (by omega), m1, List.length_drop] at t
      obtain ⟨v1, v2⟩ := evOK_at (a := evP b k) (b := b) m3 m4 (by omega) (fun i hi => by
        rw [i1, bp k i (by omega) (by rw [pE k (by omega), m1, List.length_drop]; exact hi), pE k (by omega), m1, bg_drop])
      refine ⟨?_, fun j hj => ?_⟩
      · show evP b k + evSz b (evP b k) = _
        rw [v2, i1, t]
        omega
      · by_cases e : j = k
        · rw [e, m1, List.length_drop]
          exact ⟨v1, v2⟩
        · exact i2 j (by omega)
  have tY : ∀ k, k ≤ Y.length → (P.take (E.length + k)).flatten.length = E.flatten.length + 7 * k := by
    intro k
    induction k with
    | zero =>
      intro _
      rw [Nat.add_zero, hP, List.take_left]
      omega
    | succ k ih =>
      intro hk
      have t := flat_tk P (E.length + k) (by omega)
      rw [show E.length + (k + 1) = E.length + k + 1 by omega, t, ih (by omega), pY, (inY k (by omega)).1]
      omega
  have evE := ev E.length (Nat.le_refl _)
  have py : ∀ k, k ≤ Y.length → pyP b k = 101 + (P.take (E.length + k)).flatten.length := fun k hk => by
    unfold pyP
    rw [b100, evE.1, tY k hk]
    have := tY 0 (by omega)
    rw [Nat.add_zero] at this
    omega
  have parts : partsB b = P := by
    refine pg_ext (by rw [partsB_len, b99, b100, Pl]) (fun p hp => ?_)
    rw [partsB_len, b99, b100] at hp
    unfold partsB
    rw [pg_app, evL_len, b100, b99]
    by_cases c1 : p < E.length
    · rw [if_pos c1, pE p c1]
      unfold evL
      rw [pg_map, if_pos c1, (evE.2 p c1).2]
      refine by_ext (by rw [sl_len]) (fun i hi => ?_)
      rw [sl_len] at hi
      rw [sl_in hi, (ev p (by omega)).1, bp p i (by omega) (by rw [pE p c1]; exact hi), pE p c1]
    · rw [if_neg c1]
      have q := pY (p - E.length)
      rw [show E.length + (p - E.length) = p by omega] at q
      rw [q]
      unfold pyL
      rw [pg_map, if_pos (by omega)]
      have l7 := (inY (p - E.length) (by omega)).1
      refine by_ext (by rw [sl_len, l7]) (fun i hi => ?_)
      rw [sl_len] at hi
      rw [sl_in hi, py _ (by omega), bp _ i (by omega) (by rw [pY, l7]; exact hi), pY]
  have hB : isB b := fun i => by
    by_cases c1 : i < b.length
    · by_cases c2 : i < 101
      · rw [bi i c1]
        unfold bldI
        split
        · omega
        split
        · omega
        split
        · omega
        split
        · exact d3 _
        split
        · exact rootP_B (acL _ 16) _
        split
        · exact rootP_B _ _
        split
        · rw [← hY]; omega
        split
        · rw [← hE]; omega
        · omega
      · rw [show i = 101 + (i - 101) by omega, bf _ (by omega)]
        have aP : allB P := fun p => by
          rw [hP, pg_app]
          split
          · exact e4 p
          · exact f4 _
        exact flat_B aP _
    · rw [bg_out (by omega)]
      omega
  have wfb : blkWf T b := by
    refine ⟨by omega, ?_, by omega, by omega, by omega, fun k hk => ?_, fun k hk => ?_, ?_, fun i hi => by rw [parts]; exact br i hi⟩
    · unfold hOK tw
      rw [b0, b1]
      omega
    · rw [b100] at hk
      exact (evE.2 k hk).1
    · rw [b99] at hk
      have l7 := (inY k hk).1
      have t := flat_tk P (E.length + k) (by omega)
      have l := flat_le P (E.length + k + 1)
      rw [pY, l7] at t
      refine payOK_at (inY k hk).2.2 (by rw [py k (by omega)]; omega) (fun i hi => ?_)
      rw [py k (by omega), bp _ i (by omega) (by rw [pY, l7]; exact hi), pY, Nat.zero_add]
    · rw [b99, py _ (Nat.le_refl _), ← Pl, List.take_length, bl]
  rw [← hb]
  refine ⟨⟨wfb, ⟨wfb.len.1, wfb.len.2, hB⟩, ?_⟩, hB⟩
  unfold tw
  rw [b0, b1]
  omega
end
end

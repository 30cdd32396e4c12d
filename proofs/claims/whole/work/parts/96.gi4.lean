section
/-! VOTES, PROPOSALS, ROUNDS, HEIGHTS, RULES KEEP WHAT HOLDS OF THE WORLD; every rule that acts brings the end nearer -/
theorem isB_cons {x : Nat} {b : List Nat} (h : x < 256) (hb : isB b) : isB (x :: b) := isB_app (isB_one h) hb
theorem vtB_ok {T k n h r : Nat} {o : Option (List Nat)} (hk : k < 256) (hn : n < T) (hT : T ≤ 13) (h1 : 1 ≤ h) (h41 : h ≤ 41) (hr : r < 16) (ho : ∀ d, o = some d → d.length = 32 ∧ isB d) : bg (vtB k n h r o) 1 = n ∧ tw (vtB k n h r o) 2 = h ∧ isB (vtB k n h r o) ∧ voOK T (vtB k n h r o) := by
  have e1 : bg (vtB k n h r o) 1 = n := by cases o <;> rfl
  have e2 : tw (vtB k n h r o) 2 = h := by
    have : tw (vtB k n h r o) 2 = 256 * (h / 256) + h % 256 := by cases o <;> rfl
    rw [this]
    omega
  have e4 : bg (vtB k n h r o) 4 = r := (bg_vt o).2.1
  have e5 := (bg_vt (k := k) (s := n) (h := h) (r := r) o).2.2
  have hB : isB (hdB k n h r) := isB_cons hk (isB_cons (by omega) (isB_cons (by omega) (isB_cons (by omega) (isB_cons (by omega) isB_nil))))
  refine ⟨e1, e2, ?_, ⟨by omega, by unfold hOK; omega, by omega⟩, ?_⟩
  · cases o with
    | none => exact isB_app hB (isB_cons (by omega) isB_nil)
    | some d => exact isB_app hB (isB_cons (by omega) (ho d rfl).2)
  · cases o with
    | none => exact Or.inl ⟨rfl, e5⟩
    | some d =>
      refine Or.inr ⟨?_, e5⟩
      show (hdB k n h r ++ 1 :: d).length = 38
      rw [List.length_append, List.length_cons, (ho d rfl).1]
      rfl
theorem prB_ok {T n h r : Nat} {v : Int} {b : List Nat} (hn : n < T) (hT : T ≤ 13) (h1 : 1 ≤ h) (h41 : h ≤ 41) (hr : r < 16) (hv : -1 ≤ v ∧ v < 16) (hw : blkWf T b) (hB : isB b) (ht : tw b 0 = h) : bg (prB n h r v b) 1 = n ∧ tw (prB n h r v b) 2 = h ∧ isB (prB n h r v b) ∧ prOK T (prB n h r v b) := by
  obtain ⟨p0, p4, pv, pd⟩ := bg_pr (s := n) (h := h) (r := r) (v := v) (b := b) hv
  have e1 : bg (prB n h r v b) 1 = n := rfl
  have e2 : tw (prB n h r v b) 2 = h := by
    have : tw (prB n h r v b) 2 = 256 * (h / 256) + h % 256 := rfl
    rw [this]
    omega
  have e5 : bg (prB n h r v b) 5 = vrB v := rfl
  have vb : vrB v ≤ 15 ∨ vrB v = 255 := by
    unfold vrB
    split <;> omega
  have t6 : tw (prB n h r v b) 6 = tw ((prB n h r v b).drop 6) 0 := by
    unfold tw
    rw [bg_drop, bg_drop]
  refine ⟨e1, e2, isB_app (isB_cons (by omega) (isB_cons (by omega) (isB_cons (by omega) (isB_cons (by omega) (isB_cons (by omega) isB_nil))))) (isB_cons (by omega) hB), ⟨by omega, by unfold hOK; omega, by omega⟩, by omega, by rw [pd]; exact hw, ?_⟩
  rw [t6, pd, ht, e2]
section
variable {F H T n : Nat} {G : Gh} {w : Wd}
theorem GI.vote {k s : Nat} {o : Option (List Nat)} (g : GI F H T G w) (gk : giK (wN w n)) (hn : n < H) (hks : (k = 2 ∧ s = 1) ∨ (k = 3 ∧ s = 2)) (h3 : wN w n 3 < s) (ho : ∀ d, o = some d → d.length = 32 ∧ isB d) : (∃ G', GI F H T G' (aVote w n T k s o).2) ∧ giK (wN (aVote w n T k s o).2 n) ∧ ((aVote w n T k s o).1 = true → (∀ j, j < 3 ∨ (4 ≤ j ∧ j < 9) → wN (aVote w n T k s o).2 n j = wN w n j) ∧ wN (aVote w n T k s o).2 n 3 = s) := by
  have cb := g.1.b
  have c4 := g.1.2.2.2.1
  have gn := g.2.1 n hn
  obtain ⟨a0, a1, a2, a3, a4, a5, a6, a7, a8, a9, a10, a11, a12, a13, a14⟩ := gn.a
  unfold aVote
  cases hb : (aOwn w n (ownT w n 3 (s :: vtM w n k o))).1 with
  | false =>
    have f := aOwn_f hb
    exact ⟨⟨G, g.fel hn f⟩, f.k gk, fun z => by cases z⟩
  | true =>
    obtain ⟨t1, t2, t3, t4, t5, t6, t7, t8⟩ := aOwn_w hb
    have g1 := g.own hn hb
    show (∃ G', GI F H T G' (aSend (sN (aOwn w n (ownT w n 3 (s :: vtM w n k o))).2 n 3 s) n T (vtM w n k o))) ∧ giK (wN (aSend (sN (aOwn w n (ownT w n 3 (s :: vtM w n k o))).2 n 3 s) n T (vtM w n k o)) n) ∧ (true = true → (∀ j, j < 3 ∨ (4 ≤ j ∧ j < 9) → wN (aSend (sN (aOwn w n (ownT w n 3 (s :: vtM w n k o))).2 n 3 s) n T (vtM w n k o)) n j = wN w n j) ∧ wN (aSend (sN (aOwn w n (ownT w n 3 (s :: vtM w n k o))).2 n 3 s) n T (vtM w n k o)) n 3 = s)
    generalize (aOwn w n (ownT w n 3 (s :: vtM w n k o))).2 = w1 at t1 t2 t3 t4 t5 t6 t7 t8 g1 ⊢
    have eo : ∀ j, j ≠ 3 → wN (sN w1 n 3 s) n j = wN w1 n j := fun j hj => N_o _ _ _ _ (Or.inr hj)
    have e3 : wN (sN w1 n 3 (s : Int)) n 3 = s := N_s _ _ _ _
    have g2 : GI F H T G (sN w1 n 3 s) := by
      refine g1.num hn (wfr.N (by decide)) rfl rfl rfl (fun j hj => eo j (by omega)) (by rw [e3, t2 3 (by omega)]; omega) ?_
      unfold giA
      rw [eo 0 (by decide), eo 1 (by decide), eo 2 (by decide), e3, eo 4 (by decide), eo 5 (by decide), eo 6 (by decide), eo 7 (by decide), eo 8 (by decide), eo 12 (by decide), eo 15 (by decide), eo 16 (by decide), eo 17 (by decide), t2 0 (by omega), t2 1 (by omega), t2 2 (by omega), t2 4 (by omega), t2 5 (by omega), t2 6 (by omega), t2 7 (by omega), t2 8 (by omega), t3, t2 16 (by omega), t2 17 (by omega)]
      exact ⟨a0, a1, a2, by omega, a4, a5, a6, a7, a8, t4 a9, by omega, a11, a12, a13, fun z => by have := a14 z; omega⟩
    obtain ⟨v1, v2, v3, v4⟩ := vtB_ok (T := T) (k := k) (n := n) (h := (wN w n 1).toNat) (r := (wN w n 2).toNat) (o := o) (by omega) (by omega) (by omega) (by omega) (by omega) (by omega) ho
    obtain ⟨b0, b4, b5⟩ := bg_vt (k := k) (s := n) (h := (wN w n 1).toNat) (r := (wN w n 2).toNat) o
    have n1 : wN (sN w1 n 3 (s : Int)) n 1 = wN w n 1 := by rw [eo 1 (by decide), t2 1 (by omega)]
    have n2 : wN (sN w1 n 3 (s : Int)) n 2 = wN w n 2 := by rw [eo 2 (by decide), t2 2 (by omega)]
    obtain ⟨g3, g4, g5⟩ := g2.send (m := vtM w n k o) hn (by
      rw [n1]
      exact ⟨v1, by show ((tw (vtB k n (wN w n 1).toNat (wN w n 2).toNat o) 2 : Nat) : Int) = _; rw [v2]; omega, by show bg (vtB k n (wN w n 1).toNat (wN w n 2).toNat o) 4 < 16; rw [b4]; omega, v3, Or.inr ⟨by show bg (vtB k n (wN w n 1).toNat (wN w n 2).toNat o) 0 = 2 ∨ bg (vtB k n (wN w n 1).toNat (wN w n 2).toNat o) 0 = 3; rw [b0]; omega, v4⟩⟩) (by
      rw [n2]
      show ((bg (vtB k n (wN w n 1).toNat (wN w n 2).toNat o) 4 : Nat) : Int) = _
      rw [b4]
      omega) (by
      rw [e3]
      show ((bg (vtB k n (wN w n 1).toNat (wN w n 2).toNat o) 0 : Nat) : Int) ≤ _
      rw [b0]
      omega) (fun y hy y0 y2 y4 => by
      exfalso
      have y0 : bg y 0 = bg (vtB k n (wN w n 1).toNat (wN w n 2).toNat o) 0 := y0
      have y2 : tw y 2 = tw (vtB k n (wN w n 1).toNat (wN w n 2).toNat o) 2 := y2
      have y4 : bg y 4 = bg (vtB k n (wN w n 1).toNat (wN w n 2).toNat o) 4 := y4
      rw [b0] at y0
      rw [v2] at y2
      rw [b4] at y4
      obtain ⟨z1, z2, z3⟩ := gn.g y hy
      omega)
    refine ⟨⟨_, g3⟩, ?_, fun _ => ⟨fun j hj => ?_, ?_⟩⟩
    · unfold giK at gk ⊢
      rw [g4 15 (by decide), g4 2 (by decide), g4 3 (by decide), g4 5 (by decide), g5, eo 15 (by decide), eo 17 (by decide), e3, n2, eo 5 (by decide), t3, t2 5 (by omega), t2 17 (by omega)]
      omega
    · rw [g4 j (by omega), eo j (by omega), t2 j (by omega)]
    · rw [g4 3 (by decide), e3]
theorem GI.prop {v : Int} {b : List Nat} (g : GI F H T G w) (hn : n < H) (hv : -1 ≤ v ∧ v < 16) (hw : giW T (wN w n 1) b) (hp : ((wN w n 1).toNat + (wN w n 2).toNat) % T = n) (fr : ∀ y, G n y → bg y 0 = 1 → (tw y 2 : Int) = wN w n 1 → (bg y 4 : Int) = wN w n 2 → False) : (∃ G', GI F H T G' (aProp w n T v b).2) ∧ (∀ j, 1 ≤ j ∧ j < 9 → wN (aProp w n T v b).2 n j = wN w n j) ∧ wN (aProp w n T v b).2 n 15 ≤ wN w n 15 + 1 ∧ wN (aProp w n T v b).2 n 17 ≤ wN w n 17 + 1 := by
  have cb := g.1.b
  have c4 := g.1.2.2.2.1
  have gn := g.2.1 n hn
  obtain ⟨a0, a1, a2, a3, a4, a5, a6, a7, a8, a9, a10, a11, a12, a13, a14⟩ := gn.a
  unfold aProp
  cases hb : (aOwn w n (ownT w n 3 (0 :: prM w n v b))).1 with
  | false =>
    have f := aOwn_f hb
    have f4 := f.2.2.2.1
    refine ⟨⟨G, g.fel hn f⟩, fun j hj => f4 j (by omega), ?_, ?_⟩
    · show wN (aOwn w n (ownT w n 3 (0 :: prM w n v b))).2 n 15 ≤ _
      rw [f4 15 (by omega)]
      omega
    · show wN (aOwn w n (ownT w n 3 (0 :: prM w n v b))).2 n 17 ≤ _
      rw [f4 17 (by omega)]
      omega
  | true =>
    obtain ⟨t1, t2, t3, t4, t5, t6, t7, t8⟩ := aOwn_w hb
    have g1 := g.own hn hb
    show (∃ G', GI F H T G' (aSend (aOwn w n (ownT w n 3 (0 :: prM w n v b))).2 n T (prM w n v b))) ∧ (∀ j, 1 ≤ j ∧ j < 9 → wN (aSend (aOwn w n (ownT w n 3 (0 :: prM w n v b))).2 n T (prM w n v b)) n j = wN w n j) ∧ wN (aSend (aOwn w n (ownT w n 3 (0 :: prM w n v b))).2 n T (prM w n v b)) n 15 ≤ wN w n 15 + 1 ∧ wN (aSend (aOwn w n (ownT w n 3 (0 :: prM w n v b))).2 n T (prM w n v b)) n 17 ≤ wN w n 17 + 1
    generalize (aOwn w n (ownT w n 3 (0 :: prM w n v b))).2 = w1 at t1 t2 t3 t4 t5 t6 t7 t8 g1 ⊢
    obtain ⟨hw1, hw2, hw3⟩ := hw
    obtain ⟨v1, v2, v3, v4⟩ := prB_ok (T := T) (n := n) (h := (wN w n 1).toNat) (r := (wN w n 2).toNat) (v := v) (b := b) (by omega) (by omega) (by omega) (by omega) (by omega) hv hw1 hw2.2.2 (by omega)
    obtain ⟨b0, b4, bv, bd⟩ := bg_pr (s := n) (h := (wN w n 1).toNat) (r := (wN w n 2).toNat) (v := v) (b := b) hv
    have n1 := t2 1 (by omega)
    have n2 := t2 2 (by omega)
    obtain ⟨g3, g4, g5⟩ := g1.send (m := prM w n v b) hn (by
      rw [n1]
      exact ⟨v1, by show ((tw (prB n (wN w n 1).toNat (wN w n 2).toNat v b) 2 : Nat) : Int) = _; rw [v2]; omega, by show bg (prB n (wN w n 1).toNat (wN w n 2).toNat v b) 4 < 16; rw [b4]; omega, v3, Or.inl ⟨b0, v4, by show n = (tw (prB n (wN w n 1).toNat (wN w n 2).toNat v b) 2 + bg (prB n (wN w n 1).toNat (wN w n 2).toNat v b) 4) % T; rw [v2, b4]; exact hp.symm⟩⟩) (by
      rw [n2]
      show ((bg (prB n (wN w n 1).toNat (wN w n 2).toNat v b) 4 : Nat) : Int) = _
      rw [b4]
      omega) (by
      rw [t2 3 (by omega)]
      show ((bg (prB n (wN w n 1).toNat (wN w n 2).toNat v b) 0 : Nat) : Int) ≤ _
      rw [b0]
      omega) (fun y hy y0 y2 y4 => by
      exfalso
      have y0 : bg y 0 = bg (prB n (wN w n 1).toNat (wN w n 2).toNat v b) 0 := y0
      have y2 : tw y 2 = tw (prB n (wN w n 1).toNat (wN w n 2).toNat v b) 2 := y2
      have y4 : bg y 4 = bg (prB n (wN w n 1).toNat (wN w n 2).toNat v b) 4 := y4
      rw [b0] at y0
      rw [v2] at y2
      rw [b4] at y4
      exact fr y hy y0 (by omega) (by omega))
    refine ⟨⟨_, g3⟩, fun j hj => ?_, ?_, ?_⟩
    · rw [g4 j (by omega), t2 j (by omega)]
    · rw [g4 15 (by decide), t3]
      omega
    · rw [g5, t2 17 (by omega)]
      omega
theorem GI.begin {r : Nat} (g : GI F H T G w) (gk : giK (wN w n)) (hn : n < H) (hr : r < 16) (h1 : wN w n 2 < r ∨ (wN w n 2 = 0 ∧ r = 0 ∧ wN w n 17 = 0 ∧ wN w n 15 = 0)) (h4 : wN w n 4 < r) (h5 : wN w n 5 < r) : (∃ G', GI F H T G' (aBegin w n T r)) ∧ giK (wN (aBegin w n T r) n) ∧ wN (aBegin w n T r) n 1 = wN w n 1 ∧ (wN (aBegin w n T r) n 0 = 1 → wN (aBegin w n T r) n 2 = r) := by
  have cb := g.1.b
  have gn := g.2.1 n hn
  obtain ⟨a0, a1, a2, a3, a4, a5, a6, a7, a8, a9, a10, a11, a12, a13, a14⟩ := gn.a
  unfold aBegin
  cases hb : (aOwn w n (ownT w n 2 [r])).1 with
  | false =>
    have f := aOwn_f hb
    refine ⟨⟨G, g.fel hn f⟩, f.k gk, f.2.2.2.1 1 (by omega), fun z => ?_⟩
    have z : wN (aOwn w n (ownT w n 2 [r])).2 n 0 = 1 := z
    rw [f.2.2.1] at z
    exact absurd z (by decide)
  | true =>
    obtain ⟨t1, t2, t3, t4, t5, t6, t7, t8⟩ := aOwn_w hb
    have g1 := g.own hn hb
    rw [if_pos rfl]
    have y1 : wY (aOwn w n (ownT w n 2 [r])).2 n 1 0 = wY w n 1 0 := by rw [t5]
    generalize (aOwn w n (ownT w n 2 [r])).2 = w1 at t1 t2 t3 t4 t5 t6 t7 t8 g1 y1 ⊢
    have g2 := g1.new (r := r) hn hr (by rw [t2 2 (by omega), t2 17 (by omega)]; omega) (by rw [t2 4 (by omega)]; exact h4) (by rw [t2 5 (by omega)]; exact h5)
    have e : ∀ k, k < 2 ∨ k = 4 ∨ k = 5 ∨ 12 ≤ k → wN (aNew w1 n r) n k = wN w1 n k := fun k hk => aNew_N _ _ _ (by omega)
    have e2 := aNew_2 w1 n r
    have e3 : wN (aNew w1 n r) n 3 = 0 := by
      show (if n = n then _ else _) = _
      rw [if_pos rfl]
      rfl
    have n1 : wN (aNew w1 n r) n 1 = wN w n 1 := by rw [e 1 (by omega), t2 1 (by omega)]
    have n5 : wN (aNew w1 n r) n 5 = wN w n 5 := by rw [e 5 (by omega), t2 5 (by omega)]
    have n15 : wN (aNew w1 n r) n 15 = wN w n 15 + 1 := by rw [e 15 (by omega), t3]
    have n17 : wN (aNew w1 n r) n 17 = wN w n 17 := by rw [e 17 (by omega), t2 17 (by omega)]
    have yn : wY (aNew w1 n r) n 1 0 = wY w n 1 0 := y1
    have gk2 : giK (wN (aNew w1 n r) n) := by
      unfold giK at gk ⊢
      rw [n15, n17, e2, e3, n5, if_neg (by omega)]
      split at gk <;> omega
    have fr : ∀ y, G n y → bg y 0 = 1 → (tw y 2 : Int) = wN (aNew w1 n r) n 1 → (bg y 4 : Int) = wN (aNew w1 n r) n 2 → False := fun y hy y0 y2 y4 => by
      rw [n1] at y2
      rw [e2] at y4
      obtain ⟨z1, z2, z3⟩ := gn.g y hy
      rcases z3 with z3 | ⟨z3, ⟨i, i1, i2⟩, z4⟩ <;> omega
    generalize aNew w1 n r = w2 at g2 e2 e3 n1 n5 n15 n17 yn gk2 fr ⊢
    have fin : ∀ (v : Int) (b : List Nat), -1 ≤ v ∧ v < 16 → giW T (wN w2 n 1) b → ((wN w n 1).toNat + r) % T = n → (∃ G', GI F H T G' (aProp w2 n T v b).2) ∧ giK (wN (aProp w2 n T v b).2 n) ∧ wN (aProp w2 n T v b).2 n 1 = wN w n 1 ∧ (wN (aProp w2 n T v b).2 n 0 = 1 → wN (aProp w2 n T v b).2 n 2 = r) := fun v b hv hw hp => by
      obtain ⟨p1, p2, p3, p4⟩ := g2.prop hn hv hw (by rw [n1, e2]; simpa using hp) fr
      refine ⟨p1, ?_, by rw [p2 1 (by omega), n1], fun _ => by rw [p2 2 (by omega), e2]⟩
      unfold giK at gk ⊢
      rw [p2 2 (by omega), p2 3 (by omega), p2 5 (by omega), e2, e3, n5, if_neg (by omega)]
      split at gk <;> omega
    by_cases c : ((wN w n 1).toNat + r) % T = n
    · rw [if_pos c]
      cases hy : wY w n 1 0 with
      | none => exact fin (-1) (aBld w2 n T) (by decide) (((g2.2.1 n hn).bld g2.1 hn).1) c
      | some b =>
        have gl := (g2.2.1 n hn).l
        rw [n5, yn, hy] at gl
        by_cases v5 : wN w n 5 = -1
        · exact absurd (gl.2.2.1 v5) (by simp)
        · obtain ⟨b', b1, b2, b3⟩ := gl.2.2.2 (by omega)
          cases b1
          exact fin (wN w n 5) b (by omega) b2 c
    · rw [if_neg c]
      exact ⟨⟨G, g2⟩, gk2, n1, fun _ => e2⟩
theorem GI.rise {x2 : Nat} {d : List Nat} {k : Bk} (g : GI F H T G w) (hn : n < H) (hx : wN w n 1 < x2) (h41 : x2 ≤ 41) (hk : bkOK k) (hd : d.length = 32) (hB : isB d) : (∃ G', GI F H T G' (aRise w n T x2 d k)) ∧ giK (wN (aRise w n T x2 d k) n) ∧ wN (aRise w n T x2 d k) n 1 = x2 := by
  obtain ⟨l1, l2⟩ := g.lift hn hx h41 hk hd hB
  unfold aRise
  by_cases c : 40 < x2
  · rw [if_pos c]
    exact ⟨⟨G, l1⟩, l2, aLift_1⟩
  · rw [if_neg c]
    obtain ⟨b1, b2, b3, b4⟩ := l1.begin (r := 0) l2 hn (by decide) (Or.inr ⟨aLift_0 (by omega), rfl, aLift_0 (by omega), aLift_0 (by omega)⟩) (by rw [aLift_m (by omega)]; decide) (by rw [aLift_m (by omega)]; decide)
    exact ⟨b1, b2, by rw [b3]; exact aLift_1⟩
theorem GI.dec {c : List Nat} (g : GI F H T G w) (gk : giK (wN w n)) (hn : n < H) (h40 : wN w n 1 ≤ 40) (hw : blkWf T c) (hB : isB c) : (∃ G', GI F H T G' (aDecide w n T c)) ∧ giK (wN (aDecide w n T c) n) ∧ (wN (aDecide w n T c) n 0 = 1 → wN (aDecide w n T c) n 1 = wN w n 1 + 1) := by
  have cb := g.1.b
  have h1 := (g.2.1 n hn).a.2.1
  unfold aDecide
  cases hb : (aNote w n (chT w n c) (2 * (wN w n 1).toNat - 2)).1 with
  | false =>
    have f := aNote_f hb
    refine ⟨⟨G, g.fel hn f⟩, f.k gk, fun z => ?_⟩
    have z : wN (aNote w n (chT w n c) (2 * (wN w n 1).toNat - 2)).2 n 0 = 1 := z
    rw [f.2.2.1] at z
    exact absurd z (by decide)
  | true =>
    obtain ⟨t1, t2, t3, t4, t5, t6⟩ := aNote_w hb
    have g1 := g.note hn hb
    rw [if_pos rfl]
    have n1 := t2 1 (by omega)
    generalize (aNote w n (chT w n c) (2 * (wN w n 1).toNat - 2)).2 = w1 at t1 t2 t3 t4 t5 t6 g1 n1 ⊢
    have g2 : GI F H T G (aDec1 w1 n c) := by
      have gn := g1.2.1 n hn
      have y : ∀ f, f ≠ 7 → wY (aDec1 w1 n c) n f = wY w1 n f := fun f hf => funext fun i => B_o _ _ _ _ _ (Or.inr (Or.inl hf))
      have eN : wN (aDec1 w1 n c) = wN w1 := rfl
      have dP : wP (aDec1 w1 n c) n = kpL (wP w1 n) c (wP w1 n).length := by
        show (if n = n then _ else _) = _
        rw [if_pos rfl]
        rfl
      refine g1.step hn (wfr.B.trans wfr.P) (fun _ _ z => z) (fun _ _ => rfl) ?_ g1.2.2
      unfold GN
      rw [eN, dP, y 5 (by decide), y 4 (by decide), y 6 (by decide), y 3 (by decide), y 2 (by decide), y 0 (by decide), y 1 (by decide), y 8 (by decide), y 9 (by decide)]
      exact ⟨gn.a, kpL_in (Q := fun x => x.length = 7 ∧ isB x ∧ payOK x 0) gn.p _ (Nat.le_refl _), gn.v, gn.hd, gn.d, gn.s, gn.e, gn.l, gn.o, gn.g, gn.u, gn.b, gn.f⟩
    have m1 : wN (aDec1 w1 n c) n 1 = wN w n 1 := n1
    have bk := bPl_ok (g2.2.1 n hn).b.1 hw hB (by omega)
    obtain ⟨r1, r2, r3⟩ := g2.rise (x2 := (wN w n 1).toNat + 1) (d := idB c) (k := (bPl (bkN (wN (aDec1 w1 n c)) n) c).1) hn (by rw [m1]; omega) (by omega) bk (idB_len _) (idB_B _)
    exact ⟨r1, r2, fun _ => by rw [r3]; omega⟩
theorem GI.take {m : List Nat} (g : GI F H T G w) (gk : giK (wN w n)) (hn : n < H) (hx : wN w n 1 < tw m 1) (h41 : tw m 1 ≤ 41) (hk : bkOK (snB m)) (hB : isB m) : (∃ G', GI F H T G' (aTake w n T m)) ∧ giK (wN (aTake w n T m) n) ∧ (wN (aTake w n T m) n 0 = 1 → wN (aTake w n T m) n 1 = tw m 1) := by
  have ga := (g.2.1 n hn).a
  unfold aTake aSnapN
  cases hb : (aNote w n (snT m) (snAt w n)).1 with
  | false =>
    have f := aNote_f hb
    refine ⟨⟨G, g.fel hn f⟩, f.k gk, fun z => ?_⟩
    have z : wN (aNote w n (snT m) (snAt w n)).2 n 0 = 1 := z
    rw [f.2.2.1] at z
    exact absurd z (by decide)
  | true =>
    obtain ⟨t1, t2, t3, t4, t5, t6⟩ := aNote_w hb
    have g1 := g.note hn hb
    rw [if_pos rfl]
    show (∃ G', GI F H T G' (aRise (sN (aNote w n (snT m) (snAt w n)).2 n 16 (snAt w n)) n T (tw m 1) (sl m 3 32) (snB m))) ∧ giK (wN (aRise (sN (aNote w n (snT m) (snAt w n)).2 n 16 (snAt w n)) n T (tw m 1) (sl m 3 32) (snB m)) n) ∧ (wN (aRise (sN (aNote w n (snT m) (snAt w n)).2 n 16 (snAt w n)) n T (tw m 1) (sl m 3 32) (snB m)) n 0 = 1 → wN (aRise (sN (aNote w n (snT m) (snAt w n)).2 n 16 (snAt w n)) n T (tw m 1) (sl m 3 32) (snB m)) n 1 = tw m 1)
    have n1 := t2 1 (by omega)
    have c12 := t3 ga.2.2.2.2.2.2.2.2.2.1
    generalize (aNote w n (snT m) (snAt w n)).2 = w1 at t1 t2 t3 t4 t5 t6 g1 n1 c12 ⊢
    have sa : snAt w n = 280 ∨ snAt w n = 282 := by
      unfold snAt
      split <;> omega
    have eo : ∀ j, j ≠ 16 → wN (sN w1 n 16 (snAt w n)) n j = wN w1 n j := fun j hj => N_o _ _ _ _ (Or.inr hj)
    have e16 : wN (sN w1 n 16 (snAt w n)) n 16 = snAt w n := N_s _ _ _ _
    have g2 : GI F H T G (sN w1 n 16 (snAt w n)) := by
      refine g1.num hn (wfr.N (by decide)) rfl rfl rfl (fun j hj => eo j (by omega)) (by rw [eo 3 (by decide)]; exact Int.le_refl _) ?_
      obtain ⟨a0, a1, a2, a3, a4, a5, a6, a7, a8, a9, a10, a11, a12, a13, a14⟩ := (g1.2.1 n hn).a
      unfold giA
      rw [eo 0 (by decide), eo 1 (by decide), eo 2 (by decide), eo 3 (by decide), eo 4 (by decide), eo 5 (by decide), eo 6 (by decide), eo 7 (by decide), eo 8 (by decide), eo 12 (by decide), eo 15 (by decide), e16, eo 17 (by decide)]
      exact ⟨a0, a1, a2, a3, a4, a5, a6, a7, a8, a9, a10, by omega, a12, a13, a14⟩
    obtain ⟨r1, r2, r3⟩ := g2.rise (x2 := tw m 1) (d := sl m 3 32) (k := snB m) hn (by rw [eo 1 (by decide), n1]; exact hx) h41 hk (sl_len _ _ _) (isB_sl hB _ _)
    exact ⟨r1, r2, fun _ => r3⟩
end
end

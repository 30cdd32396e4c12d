section
/-! RULES KEEP WHAT HOLDS OF THE WORLD, and end -/
def muW (w : Wd) (n : Nat) : Int := ((41 - wN w n 1) * 16 + (15 - wN w n 2)) * 6 + (2 - wN w n 3) + (1 - wN w n 6) + (1 - wN w n 7) + (1 - wN w n 8)
section
variable {F H T n : Nat} {G : Gh} {w : Wd}
theorem GI.muB (g : GI F H T G w) (hn : n < H) : 0 ≤ muW w n ∧ muW w n < 4000 := by
  obtain ⟨a0, a1, a2, a3, a4, a5, a6, a7, a8, _⟩ := (g.2.1 n hn).a
  unfold muW
  omega
/-- what is held of the round -/
theorem GN.hdr {m : List Nat} (g : GN F H T G w n) (e : hdR w n = some m) : giW T (wN w n 1) (m.drop 6) ∧ tw m 2 = (wN w n 1).toNat := by
  obtain ⟨a0, a1, a2, _⟩ := g.a
  obtain ⟨b1, b2, b3, b4, b5, b6, b7, b8⟩ := g.hd ((wN w n 1).toNat % 2) (wN w n 2).toNat m (by omega) (by omega) e
  have t : tw m 2 = (wN w n 1).toNat := by unfold nxt at b4; omega
  have l := b5.2.2.1.len
  refine ⟨⟨b5.2.2.1, ⟨l.1, l.2, isB_drop b6 6⟩, ?_⟩, t⟩
  have e6 : tw (m.drop 6) 0 = tw m 6 := by
    unfold tw
    rw [bg_drop, bg_drop]
  rw [e6, b5.2.2.2, t]
  omega
theorem cW_cnt (w : Wd) (n c p r s : Nat) (d : List Nat) : ∀ k, cW w n c p r s d k = cnt (fun x => ∃ m, wY w n 5 (vq c p r x) = some m ∧ srt s d m) k
  | 0 => rfl
  | k + 1 => by
    have ih := cW_cnt w n c p r s d k
    unfold cW at ih ⊢
    unfold cV cnt
    rw [ih]
    cases e : wY w n 5 (vq c p r k) with
    | none =>
      rw [cif_neg (by rintro ⟨m, m1, m2⟩; cases m1)]
    | some m =>
      by_cases q : srt s d m
      · rw [cif_pos ⟨m, rfl, q⟩]
        show _ + @ite Nat (srt s d m) (Classical.propDecidable _) 1 0 = _
        rw [if_pos q]
      · rw [cif_neg (by rintro ⟨x, x1, x2⟩; cases x1; exact q x2)]
        show _ + @ite Nat (srt s d m) (Classical.propDecidable _) 1 0 = _
        rw [if_neg q]
theorem GN.qs {d : List Nat} (g : GN F H T G w n) (c : cst F H T) (h : 2 * F + 1 ≤ cRd w n 0 (wN w n 2).toNat 2 d T) : qS F H T G (wN w n 1) (wN w n 2) d := by
  have cb := c.b
  obtain ⟨a0, a1, a2, _⟩ := g.a
  unfold cRd at h
  rw [cW_cnt] at h
  refine ⟨_, h, fun s hs => ?_⟩
  rintro ⟨m, m1, m2⟩
  obtain ⟨b1, b2, b3, b4, b5, b6, b7, b8, b9⟩ := g.v 0 ((wN w n 1).toNat % 2) (wN w n 2).toNat s m (by omega) (by omega) (by omega) (by omega) m1
  rcases m2 with m2 | m2 | m2
  · exact absurd m2 (by decide)
  · exact absurd m2.1 (by decide)
  · exact ⟨m, b9 hs, b2, by unfold nxt at b6; omega, by omega, m2.2.1, m2.2.2⟩
theorem GI.been {k : Nat} {t : Nat} {v : Int} (g : GI F H T G w) (gk : giK (wN w n)) (hn : n < H) (hk : 6 ≤ k ∧ k ≤ 8) (ht : 9 ≤ t ∧ t ≤ 11) (h0 : wN w n k = 0) : GI F H T G (sN (sN w n k 1) n t v) ∧ giK (wN (sN (sN w n k 1) n t v) n) ∧ muW (sN (sN w n k 1) n t v) n < muW w n := by
  have e : ∀ j, j ≠ k → j ≠ t → wN (sN (sN w n k 1) n t v) n j = wN w n j := fun j a b => by rw [N_o _ _ _ _ (Or.inr b), N_o _ _ _ _ (Or.inr a)]
  have ek : wN (sN (sN w n k 1) n t v) n k = 1 := by rw [N_o _ _ _ _ (Or.inr (by omega)), N_s]
  have e6 : ∀ j, 6 ≤ j → j ≤ 8 → wN (sN (sN w n k 1) n t v) n j = if j = k then 1 else wN w n j := fun j a b => by
    by_cases c : j = k
    · rw [if_pos c, c, ek]
    · rw [if_neg c]; exact e j c (by omega)
  obtain ⟨a0, a1, a2, a3, a4, a5, a6, a7, a8, a9, a10, a11, a12, a13, a14⟩ := (g.2.1 n hn).a
  refine ⟨g.num hn ((wfr.N (by omega)).trans (wfr.N (by omega))) rfl rfl rfl (fun j hj => e j (by omega) (by omega)) (by rw [e 3 (by omega) (by omega)]; exact Int.le_refl _) ?_, ?_, ?_⟩
  · unfold giA
    rw [e 0 (by omega) (by omega), e 1 (by omega) (by omega), e 2 (by omega) (by omega), e 3 (by omega) (by omega), e 4 (by omega) (by omega), e 5 (by omega) (by omega), e6 6 (by omega) (by omega), e6 7 (by omega) (by omega), e6 8 (by omega) (by omega), e 12 (by omega) (by omega), e 15 (by omega) (by omega), e 16 (by omega) (by omega), e 17 (by omega) (by omega)]
    exact ⟨a0, a1, a2, a3, a4, a5, by split <;> omega, by split <;> omega, by split <;> omega, a9, a10, a11, a12, a13, a14⟩
  · unfold giK
    rw [e 15 (by omega) (by omega), e 2 (by omega) (by omega), e 3 (by omega) (by omega), e 5 (by omega) (by omega), e 17 (by omega) (by omega)]
    exact gk
  · unfold muW
    rw [e 1 (by omega) (by omega), e 2 (by omega) (by omega), e 3 (by omega) (by omega), e6 6 (by omega) (by omega), e6 7 (by omega) (by omega), e6 8 (by omega) (by omega)]
    rcases (show k = 6 ∨ k = 7 ∨ k = 8 by omega) with c | c | c
    · subst c
      rw [if_pos rfl, if_neg (by decide), if_neg (by decide)]
      omega
    · subst c
      rw [if_neg (by decide), if_pos rfl, if_neg (by decide)]
      omega
    · subst c
      rw [if_neg (by decide), if_neg (by decide), if_pos rfl]
      omega
/-- what a rule does is well -/
def rlG (F H T n : Nat) (w : Wd) (x : Bool × Wd) : Prop := (∃ G', GI F H T G' x.2) ∧ giK (wN x.2 n) ∧ (x.1 = true → muW x.2 n < muW w n)
theorem GI.r8 (g : GI F H T G w) (gk : giK (wN w n)) (hn : n < H) : rlG F H T n w (aR8 w n T F) := by
  unfold aR8
  by_cases c : wN w n 8 = 0 ∧ 2 * F + 1 ≤ cRd w n 1 (wN w n 2).toNat 0 [] T
  · rw [if_pos c]
    obtain ⟨b1, b2, b3⟩ := g.been (k := 8) (t := 11) (v := ((wT w + 4 + (wN w n 2).toNat : Nat) : Int)) gk hn (by omega) (by omega) c.1
    exact ⟨⟨G, b1⟩, b2, fun _ => b3⟩
  · rw [if_neg c]
    exact ⟨⟨G, g⟩, gk, fun z => by cases z⟩
theorem GI.r4 (g : GI F H T G w) (gk : giK (wN w n)) (hn : n < H) : rlG F H T n w (aR4 w n T F) := by
  unfold aR4
  by_cases c : wN w n 3 = 1 ∧ wN w n 7 = 0 ∧ 2 * F + 1 ≤ cRd w n 0 (wN w n 2).toNat 0 [] T
  · rw [cif_pos c]
    obtain ⟨b1, b2, b3⟩ := g.been (k := 7) (t := 10) (v := ((wT w + 4 + (wN w n 2).toNat : Nat) : Int)) gk hn (by omega) (by omega) c.2.1
    exact ⟨⟨G, b1⟩, b2, fun _ => b3⟩
  · rw [cif_neg c]
    exact g.r8 gk hn
/-- a vote, as a rule -/
theorem GI.rv {k s : Nat} {o : Option (List Nat)} (g : GI F H T G w) (gk : giK (wN w n)) (hn : n < H) (hks : (k = 2 ∧ s = 1) ∨ (k = 3 ∧ s = 2)) (h3 : wN w n 3 < s) (ho : ∀ d, o = some d → d.length = 32 ∧ isB d) : rlG F H T n w (aVote w n T k s o) := by
  obtain ⟨v1, v2, v3⟩ := g.vote gk hn hks h3 ho
  refine ⟨v1, v2, fun z => ?_⟩
  obtain ⟨v4, v5⟩ := v3 z
  unfold muW
  rw [v4 1 (by omega), v4 2 (by omega), v5, v4 6 (by omega), v4 7 (by omega), v4 8 (by omega)]
  omega
theorem GI.r3 (g : GI F H T G w) (gk : giK (wN w n)) (hn : n < H) : rlG F H T n w (aR3 w n T F) := by
  unfold aR3
  by_cases c : wN w n 3 = 1 ∧ 2 * F + 1 ≤ cRd w n 0 (wN w n 2).toNat 1 [] T
  · rw [cif_pos c]
    exact g.rv gk hn (by omega) (by rw [c.1]; decide) (fun d z => by cases z)
  · rw [cif_neg c]
    exact g.r4 gk hn
theorem GI.pre {m : List Nat} (g : GI F H T G w) (gk : giK (wN w n)) (hn : n < H) (h3 : wN w n 3 = 0) : rlG F H T n w (aPre w n T m) := by
  unfold aPre
  split
  · exact g.rv gk hn (by omega) (by rw [h3]; decide) (fun d z => by cases z; exact ⟨idB_len _, idB_B _⟩)
  · exact g.rv gk hn (by omega) (by rw [h3]; decide) (fun d z => by cases z)
theorem GI.r5 {c : List Nat} (g : GI F H T G w) (gk : giK (wN w n)) (hn : n < H) (h3 : wN w n 3 ≠ 0) (h6 : wN w n 6 = 0) (hw : giW T (wN w n 1) c) (hq : qS F H T G (wN w n 1) (wN w n 2) (idB c)) : rlG F H T n w (aR5 w n T c) := by
  obtain ⟨g1, k1, m1⟩ : GI F H T G (sN w n 6 1) ∧ giK (wN (sN w n 6 1) n) ∧ muW (sN w n 6 1) n < muW w n := by
    have e : ∀ j, j ≠ 6 → wN (sN w n 6 1) n j = wN w n j := fun j a => N_o _ _ _ _ (Or.inr a)
    have e6 : wN (sN w n 6 1) n 6 = 1 := N_s _ _ _ _
    obtain ⟨a0, a1, a2, a3, a4, a5, a6, a7, a8, a9, a10, a11, a12, a13, a14⟩ := (g.2.1 n hn).a
    refine ⟨g.num hn (wfr.N (by omega)) rfl rfl rfl (fun j hj => e j (by omega)) (by rw [e 3 (by omega)]; exact Int.le_refl _) ?_, ?_, ?_⟩
    · unfold giA
      rw [e 0 (by omega), e 1 (by omega), e 2 (by omega), e 3 (by omega), e 4 (by omega), e 5 (by omega), e6, e 7 (by omega), e 8 (by omega), e 12 (by omega), e 15 (by omega), e 16 (by omega), e 17 (by omega)]
      exact ⟨a0, a1, a2, a3, a4, a5, by decide, a7, a8, a9, a10, a11, a12, a13, a14⟩
    · unfold giK
      rw [e 15 (by omega), e 2 (by omega), e 3 (by omega), e 5 (by omega), e 17 (by omega)]
      exact gk
    · unfold muW
      rw [e 1 (by omega), e 2 (by omega), e 3 (by omega), e6, e 7 (by omega), e 8 (by omega)]
      omega
  unfold aR5
  have e : ∀ j, j ≠ 6 → wN (sN w n 6 1) n j = wN w n j := fun j a => N_o _ _ _ _ (Or.inr a)
  rw [← e 3 (by decide)] at h3
  rw [← e 1 (by decide)] at hw hq
  rw [← e 2 (by decide)] at hq
  clear e
  generalize sN w n 6 1 = w1 at g1 k1 m1 h3 hw hq ⊢
  have gn := g1.2.1 n hn
  obtain ⟨a0, a1, a2, a3, a4, a5, a6, a7, a8, a9, a10, a11, a12, a13, a14⟩ := gn.a
  have le : ∀ x, rlG F H T n w1 x → rlG F H T n w x := fun x z => ⟨z.1, z.2.1, fun y => by have := z.2.2 y; omega⟩
  unfold aR5a
  by_cases c3 : wN w1 n 3 = 2
  · rw [if_pos c3]
    by_cases c5 : wN w1 n 5 = wN w1 n 2 ∧ sameI (some c) (wY w1 n 1 0)
    · rw [if_pos c5]
      exact ⟨⟨G, g1⟩, k1, fun _ => m1⟩
    · rw [if_neg c5]
      have n5 : wN w1 n 5 ≠ wN w1 n 2 := fun z => by
        obtain ⟨b, b1, b2, b3⟩ := gn.l.2.2.2 (by omega)
        rw [z] at b3
        exact c5 ⟨z, c, b, rfl, b1, qS.eq g1.1 (fun s hs => (g1.2.1 s hs).u) hq b3⟩
      unfold aR5v
      cases hb : (aOwn w1 n (ownT w1 n 5 ((wN w1 n 2).toNat :: c))).1 with
      | false =>
        have f := aOwn_f hb
        exact ⟨⟨G, g1.fel hn f⟩, f.k k1, fun z => by cases z⟩
      | true =>
        obtain ⟨t1, t2, t3, t4, t5, t6, t7, t8⟩ := aOwn_w hb
        have g2 := g1.own hn hb
        rw [if_pos rfl]
        generalize (aOwn w1 n (ownT w1 n 5 ((wN w1 n 2).toNat :: c))).2 = w2 at t1 t2 t3 t4 t5 t6 t7 t8 g2 ⊢
        have g3 := g2.valid (c := c) hn (by rw [t2 1 (by omega)]; exact hw) (by rw [t2 1 (by omega), t2 2 (by omega)]; exact hq) (by rw [t2 3 (by omega)]; exact c3)
        rw [t2 2 (by omega)] at g3
        have eo : ∀ j, j ≠ 5 → wN (sN (sBy w2 n 1 0 (some c)) n 5 (wN w1 n 2)) n j = wN w2 n j := fun j hj => N_o _ _ _ _ (Or.inr hj)
        have e5 : wN (sN (sBy w2 n 1 0 (some c)) n 5 (wN w1 n 2)) n 5 = wN w1 n 2 := N_s _ _ _ _
        refine ⟨⟨G, g3⟩, ?_, fun _ => ?_⟩
        · show giK (wN (sN (sBy w2 n 1 0 (some c)) n 5 (wN w1 n 2)) n)
          unfold giK at k1 ⊢
          rw [eo 15 (by decide), eo 2 (by decide), eo 3 (by decide), e5, eo 17 (by decide), t3, t2 2 (by omega), t2 3 (by omega), t2 17 (by omega), if_pos rfl]
          rw [if_neg n5] at k1
          omega
        · show muW (sN (sBy w2 n 1 0 (some c)) n 5 (wN w1 n 2)) n < _
          unfold muW at m1 ⊢
          rw [eo 1 (by decide), eo 2 (by decide), eo 3 (by decide), eo 6 (by decide), eo 7 (by decide), eo 8 (by decide), t2 1 (by omega), t2 2 (by omega), t2 3 (by omega), t2 6 (by omega), t2 7 (by omega), t2 8 (by omega)]
          exact m1
  · rw [if_neg c3]
    by_cases c4 : wN w1 n 4 = wN w1 n 2
    · rw [if_pos c4]
      exact le _ (g1.rv k1 hn (by omega) (by show wN w1 n 3 < 2; omega) (fun d z => by cases z; exact ⟨idB_len _, idB_B _⟩))
    · rw [if_neg c4]
      unfold aR5l
      cases hb : (aOwn w1 n (ownT w1 n 4 ((wN w1 n 2).toNat :: c))).1 with
      | false =>
        have f := aOwn_f hb
        exact ⟨⟨G, g1.fel hn f⟩, f.k k1, fun z => by cases z⟩
      | true =>
        obtain ⟨t1, t2, t3, t4, t5, t6, t7, t8⟩ := aOwn_w hb
        have g2 := g1.own hn hb
        rw [if_pos rfl]
        generalize (aOwn w1 n (ownT w1 n 4 ((wN w1 n 2).toNat :: c))).2 = w2 at t1 t2 t3 t4 t5 t6 t7 t8 g2 ⊢
        have g3 := g2.lock (c := c) hn (by rw [t2 1 (by omega)]; exact hw) (by rw [t2 1 (by omega), t2 2 (by omega)]; exact hq)
        rw [t2 2 (by omega)] at g3
        have eo : ∀ j, j ≠ 4 → j ≠ 5 → wN (aLk w2 n (wN w1 n 2) c) n j = wN w2 n j := fun j a b => by
          unfold aLk
          rw [N_o _ _ _ _ (Or.inr b), N_o _ _ _ _ (Or.inr a)]
          rfl
        have e5 : wN (aLk w2 n (wN w1 n 2) c) n 5 = wN w1 n 2 := N_s _ _ _ _
        have k3 : giK (wN (aLk w2 n (wN w1 n 2) c) n) := by
          unfold giK at k1 ⊢
          rw [eo 15 (by decide) (by decide), eo 2 (by decide) (by decide), eo 3 (by decide) (by decide), e5, eo 17 (by decide) (by decide), t3, t2 2 (by omega), t2 3 (by omega), t2 17 (by omega), if_pos rfl]
          rw [if_neg (by omega)] at k1
          omega
        have m3 : muW (aLk w2 n (wN w1 n 2) c) n < muW w n := by
          unfold muW at m1 ⊢
          rw [eo 1 (by decide) (by decide), eo 2 (by decide) (by decide), eo 3 (by decide) (by decide), eo 6 (by decide) (by decide), eo 7 (by decide) (by decide), eo 8 (by decide) (by decide), t2 1 (by omega), t2 2 (by omega), t2 3 (by omega), t2 6 (by omega), t2 7 (by omega), t2 8 (by omega)]
          exact m1
        obtain ⟨r1, r2, r3⟩ := g3.rv (k := 3) (s := 2) (o := some (idB c)) k3 hn (by omega) (by rw [eo 3 (by decide) (by decide), t2 3 (by omega)]; show wN w1 n 3 < 2; omega) (fun d z => by cases z; exact ⟨idB_len _, idB_B _⟩)
        exact ⟨r1, r2, fun z => by have := r3 z; omega⟩
theorem GI.r2 (g : GI F H T G w) (gk : giK (wN w n)) (hn : n < H) : rlG F H T n w (aR2 w n T F) := by
  have gn := g.2.1 n hn
  unfold aR2
  by_cases c3 : wN w n 3 = 0
  · rw [if_pos c3]
    cases e : hdR w n with
    | none => exact g.r8 gk hn
    | some m =>
      show rlG F H T n w (cif (maV w n T F m) (aPre w n T m) (aR8 w n T F))
      by_cases c : maV w n T F m
      · rw [cif_pos c]
        exact g.pre gk hn c3
      · rw [cif_neg c]
        exact g.r8 gk hn
  · rw [if_neg c3]
    cases e : hdR w n with
    | none => exact g.r3 gk hn
    | some m =>
      show rlG F H T n w (cif (wN w n 6 = 0 ∧ 2 * F + 1 ≤ cRd w n 0 (wN w n 2).toNat 2 (idB (m.drop 6)) T ∧ aVal w n (some (m.drop 6))) (aR5 w n T (m.drop 6)) (aR3 w n T F))
      by_cases c : wN w n 6 = 0 ∧ 2 * F + 1 ≤ cRd w n 0 (wN w n 2).toNat 2 (idB (m.drop 6)) T ∧ aVal w n (some (m.drop 6))
      · rw [cif_pos c]
        exact g.r5 gk hn c3 c.1 (gn.hdr e).1 (gn.qs g.1 c.2.1)
      · rw [cif_neg c]
        exact g.r3 gk hn
/-- a node that rises is nearer the end -/
theorem mu_up {w' : Wd} (g : GI F H T G w) (g' : ∃ G', GI F H T G' w') (hn : n < H) (h : wN w n 1 < wN w' n 1) : muW w' n < muW w n := by
  obtain ⟨G', g'⟩ := g'
  obtain ⟨a0, a1, a2, a3, a4, a5, a6, a7, a8, _⟩ := (g.2.1 n hn).a
  obtain ⟨b0, b1, b2, b3, b4, b5, b6, b7, b8, _⟩ := (g'.2.1 n hn).a
  unfold muW
  omega
theorem GI.rule (g : GI F H T G w) (gk : giK (wN w n)) (hn : n < H) (h40 : wN w n 1 ≤ 40) : rlG F H T n w (aRule w n T F) := by
  have cb := g.1.b
  have gn := g.2.1 n hn
  have ok := gn.ok g.1 gk
  have up : ∀ w', (decide (wN w' n 0 = 1)) = true → wN w' n 0 = 1 := fun w' z => of_decide_eq_true z
  unfold aRule
  cases e1 : lst (snF w n T F) T with
  | some s =>
    obtain ⟨s1, s2, s3⟩ := lst_inv T e1
    obtain ⟨m, m1, m2, m3⟩ := s2
    obtain ⟨k1, k2, k3⟩ := ok.sn s m s1 ⟨m, m1, m2, m3⟩ m1
    show rlG F H T n w (upB (aTake w n T ((wY w n 3 s).getD [])) n)
    rw [m1]
    obtain ⟨t1, t2, t3⟩ := g.take (m := m) gk hn m2 k2 k3 (gn.s s m (by omega) m1).2.2.2.1
    exact ⟨t1, t2, fun z => mu_up g t1 hn (by show wN w n 1 < wN (aTake w n T m) n 1; rw [t3 (up _ z)]; exact m2)⟩
  | none =>
    show rlG F H T n w (aR0 w n T F)
    unfold aR0
    cases e2 : lst (deS w n T F) T with
    | some s =>
      obtain ⟨s1, s2, s3⟩ := lst_inv T e2
      obtain ⟨m, m1, m2, m3⟩ := s2
      obtain ⟨d1, d2, d3, d4, d5⟩ := gn.d s m (by omega) m1
      show rlG F H T n w (upB (aDecide w n T (((wY w n 6 s).getD []).drop 1)) n)
      rw [m1]
      obtain ⟨t1, t2, t3⟩ := g.dec (c := m.drop 1) gk hn h40 d3 (isB_drop d4 1)
      exact ⟨t1, t2, fun z => mu_up g t1 hn (by show wN w n 1 < wN (aDecide w n T (m.drop 1)) n 1; have := t3 (up _ z); omega)⟩
    | none =>
      show rlG F H T n w (match lst (deH w n T F) 16 with
        | some r => upB (aDecide w n T (((wY w n 4 (16 * ((wN w n 1).toNat % 2) + r)).getD []).drop 6)) n
        | none => aR1 w n T F)
      cases e3 : lst (deH w n T F) 16 with
      | some r =>
        obtain ⟨s1, s2, s3⟩ := lst_inv 16 e3
        obtain ⟨m, m1, m2, m3⟩ := s2
        obtain ⟨b1, b2, b3, b4, b5, b6, b7, b8⟩ := gn.hd _ r m (by omega) s1 m1
        show rlG F H T n w (upB (aDecide w n T (((wY w n 4 (16 * ((wN w n 1).toNat % 2) + r)).getD []).drop 6)) n)
        rw [m1]
        obtain ⟨t1, t2, t3⟩ := g.dec (c := m.drop 6) gk hn h40 b5.2.2.1 (isB_drop b6 6)
        exact ⟨t1, t2, fun z => mu_up g t1 hn (by show wN w n 1 < wN (aDecide w n T (m.drop 6)) n 1; have := t3 (up _ z); omega)⟩
      | none =>
        show rlG F H T n w (aR1 w n T F)
        unfold aR1
        cases e4 : hst (fun r => (wN w n 2).toNat < r ∧ F < ahC w n T r T) 16 with
        | some r =>
          obtain ⟨s1, s2⟩ := hst_inv 16 e4
          obtain ⟨a0, a1, a2, a3, a4, a5, a6, a7, a8, _⟩ := gn.a
          obtain ⟨t1, t2, t3, t4⟩ := g.begin (r := r) gk hn s1 (by omega) (by omega) (by omega)
          show rlG F H T n w (upB (aBegin w n T r) n)
          refine ⟨t1, t2, fun z => ?_⟩
          have t4 := t4 (up _ z)
          obtain ⟨G', g'⟩ := t1
          obtain ⟨b0, b1, b2, b3, b4, b5, b6, b7, b8, _⟩ := (g'.2.1 n hn).a
          show muW (aBegin w n T r) n < muW w n
          unfold muW
          rw [t3, t4]
          rw [t4] at b2
          omega
        | none => exact g.r2 gk hn
end
/-- the rules act as long as one holds -/
noncomputable def aRuns (n T F : Nat) : Nat → Bool → Wd → Wd
  | 0, _, w => w
  | k + 1, b, w => if b = true ∧ wN w n 1 ≤ 40 then aRuns n T F k (aRule w n T F).1 (aRule w n T F).2 else w
noncomputable def aRules (w : Wd) (n T F : Nat) : Wd := aRuns n T F 5000 (decide (wN w n 0 = 1)) w
section
variable {F H T n N : Nat} {S : rS} {w : Wd}
theorem wfr.rule : wfr n w (aRule w n T F).2 := by
  unfold aRule
  split
  · exact wfr.take
  · unfold aR0
    split
    · exact wfr.dec
    · split
      · exact wfr.dec
      · unfold aR1
        split
        · exact wfr.begin
        · have r3 : wfr n w (aR3 w n T F).2 := by
            unfold aR3
            by_cases c : wN w n 3 = 1 ∧ 2 * F + 1 ≤ cRd w n 0 (wN w n 2).toNat 1 [] T
            · rw [cif_pos c]; exact wfr.vote
            · rw [cif_neg c]
              unfold aR4
              by_cases c : wN w n 3 = 1 ∧ wN w n 7 = 0 ∧ 2 * F + 1 ≤ cRd w n 0 (wN w n 2).toNat 0 [] T
              · rw [cif_pos c]; exact (wfr.N (by decide)).trans (wfr.N (by decide))
              · rw [cif_neg c]; exact wfr.r8
          unfold aR2
          split
          · split
            · exact wfr.r8
            · rename_i m _
              by_cases c : maV w n T F m
              · rw [cif_pos c]; exact wfr.pre
              · rw [cif_neg c]; exact wfr.r8
          · split
            · exact r3
            · rename_i m _
              by_cases c : wN w n 6 = 0 ∧ 2 * F + 1 ≤ cRd w n 0 (wN w n 2).toNat 2 (idB (m.drop 6)) T ∧ aVal w n (some (m.drop 6))
              · rw [cif_pos c]; exact wfr.r5
              · rw [cif_neg c]; exact r3
/-- all that holds -/
def GK (F H T : Nat) (w : Wd) : Prop := (∃ G, GI F H T G w) ∧ ∀ n, n < H → giK (wN w n)
theorem GK.of {x : Bool × Wd} {w0 : Wd} (g : GK F H T w) (f : wfr n w x.2) (r : rlG F H T n w0 x) : GK F H T x.2 := ⟨r.1, fun m hm => by
  by_cases e : m = n
  · rw [e]; exact r.2.1
  · rw [(f.1 m e).1]; exact g.2 m hm⟩
theorem GK.ok (g : GK F H T w) (hn : n < H) : nOK F T w n := by
  obtain ⟨⟨G, g1⟩, g2⟩ := g
  exact (g1.2.1 n hn).ok g1.1 (g2 n hn)
theorem aRuns_g (hn : n < H) : ∀ k b w, GK F H T w → GK F H T (aRuns n T F k b w)
  | 0, _, _, g => g
  | k + 1, b, w, g => by
    unfold aRuns
    by_cases c : b = true ∧ wN w n 1 ≤ 40
    · rw [if_pos c]
      obtain ⟨G, g1⟩ := g.1
      exact aRuns_g hn k _ _ (g.of wfr.rule (g1.rule (g.2 n hn) hn c.2))
    · rw [if_neg c]
      exact g
theorem aRuns_f : ∀ k b w, wfr n w (aRuns n T F k b w)
  | 0, _, _ => wfr.refl
  | k + 1, b, w => by
    unfold aRuns
    split
    · exact wfr.rule.trans (aRuns_f k _ _)
    · exact wfr.refl
theorem rules_26 (hN : 2000 ≤ N) (hn : n < H) : ∀ (k q : Nat) (b : Bool) (S : rS) (w : Wd), rRp F H T S w → GK F H T w → (wN w n 1 ≤ 40 ∨ b = false) → muW w n < k → k < q → wp (OL_rules_26 N q (nI n) (nI (if b then 1 else 0)) S) (L_rules_26 N q (nI n) (nI (if b then 1 else 0)) S) (fun z => rRp F H T z.2 (aRuns n T F k b w))
  | 0, q, b, S, w, h, g, h40, hm, hq => by
    obtain ⟨G, g1⟩ := g.1
    have := (g1.muB hn).1
    exact absurd hm (by omega)
  | k + 1, 0, b, S, w, h, g, h40, hm, hq => absurd hq (by omega)
  | k + 1, q + 1, b, S, w, h, g, h40, hm, hq => by
    have cb := h.1.1.b
    obtain ⟨G, g1⟩ := g.1
    unfold OL_rules_26 L_rules_26 OB_rules_26 B_rules_26 aRuns
    cases b with
    | false =>
      rw [if_neg (by simp)]
      exact wp_pos rfl (wp_fin trivial h)
    | true =>
      have h40 : wN w n 1 ≤ 40 := by rcases h40 with z | z; exact z; cases z
      rw [if_pos (show true = true ∧ wN w n 1 ≤ 40 from ⟨rfl, h40⟩)]
      refine wp_neg (show ¬ nI 1 = 0 by decide) (wp_call (rule_ok hN h hn (g.ok hn) h40) (fun z => ?_))
      have R := g1.rule (g.2 n hn) hn h40
      have g' := g.of (n := n) wfr.rule R
      obtain ⟨z1, z2⟩ := z
      have m' := R.2.2
      generalize aRule w n T F = x at z1 z2 g' m' ⊢
      generalize f_rule N S (nI n) = y at z1 z2 ⊢
      unfold O_rules_35 F_rules_35
      rw [z2]
      have no : aRuns n T F k x.1 x.2 = x.2 → wp (O_rules_53 N (OL_rules_26 N q) (nI n) y.2) (F_rules_53 N (L_rules_26 N q) (nI n) y.2) (fun z => rRp F H T z.2 (aRuns n T F k x.1 x.2)) := fun e => by
        unfold O_rules_53 F_rules_53 O_rules_54 F_rules_54
        rw [e]
        obtain ⟨q', rfl⟩ : ∃ q', q = q' + 1 := ⟨q - 1, by omega⟩
        unfold OL_rules_26 L_rules_26 OB_rules_26 B_rules_26
        exact wp_pos rfl (wp_fin trivial z1)
      have e44 : y.2.2.1 44 n = nI (wN x.2 n 1).toNat := z1.hN hn (k := 1) (by decide) (by decide) (by have := (g'.ok hn).h; omega)
      have hh := (g'.ok hn).h
      cases hx : x.1 with
      | false =>
        rw [hx] at no
        refine wp_pos rfl (no ?_)
        cases k with
        | zero => rfl
        | succ k =>
          unfold aRuns
          rw [if_neg (by simp)]
      | true =>
        rw [hx] at no
        rw [n_clamp (by omega), e44]
        refine wp_neg (show ¬ nI 1 = 0 by decide) (wp_and ((n_in (by omega)).2 (by omega)) (wp_ite (fun c => ?_) (fun c => ?_))) <;> rw [n_lt' (by omega) (by omega)] at c
        · refine no ?_
          cases k with
          | zero => rfl
          | succ k =>
            unfold aRuns
            rw [if_neg (by omega)]
        · unfold O_rules_54 F_rules_54
          have := m' hx
          exact rules_26 hN hn k q true y.2 x.2 z1 g' (Or.inl (by omega)) (by omega) (by omega)
theorem rules_ok (hN : 6000 ≤ N) (h : rRp F H T S w) (g : GK F H T w) (hn : n < H) : wp (o_rules N S (nI n)) (f_rules N S (nI n)) (fun S' => rRp F H T S' (aRules w n T F)) := by
  have cb := h.1.1.b
  obtain ⟨G, g1⟩ := g.1
  have ku := (g.ok hn).u
  have kh := (g.ok hn).h
  have mm := g1.muB hn
  have e43 : S.2.1 43 n = nI (wN w n 0).toNat := h.hN hn (k := 0) (by decide) (by decide) ku.1
  have e44 : S.2.1 44 n = nI (wN w n 1).toNat := h.hN hn (k := 1) (by decide) (by decide) (by omega)
  have go : ∀ b, (wN w n 1 ≤ 40 ∨ b = false) → aRules w n T F = aRuns n T F 5000 b w → wp (O_rules_25 N (nI n) (nI (if b then 1 else 0)) S) (F_rules_25 N (nI n) (nI (if b then 1 else 0)) S) (fun S' => rRp F H T S' (aRules w n T F)) := fun b hb e => by
    unfold O_rules_25 F_rules_25
    rw [e]
    refine wp_seq (rules_26 (F := F) (H := H) (T := T) (by omega) hn 5000 N b S w h g hb (by omega) (by omega)) (fun z hz => ?_)
    unfold OA_rules_26 A_rules_26 O_rules_58 F_rules_58
    exact wp_fin trivial hz
  show wp (O_rules_0 N (nI n) S) (F_rules_0 N (nI n) S) _
  unfold O_rules_0 F_rules_0
  rw [n_clamp (by omega), e43, e44]
  refine wp_and ((n_in (by omega)).2 (by omega)) (wp_ite (fun c => ?_) (fun c => ?_)) <;> rw [n_eq0 (by omega)] at c
  · unfold O_rules_24 F_rules_24
    exact go false (Or.inr rfl) (by unfold aRules; rw [show decide (wN w n 0 = 1) = false from decide_eq_false (by omega)])
  · refine wp_and ((n_in (by omega)).2 (by omega)) (wp_ite (fun c2 => ?_) (fun c2 => ?_)) <;> rw [n_lt' (by omega) (by omega)] at c2
    · unfold O_rules_24 F_rules_24
      refine go false (Or.inr rfl) ?_
      unfold aRules aRuns
      rw [if_neg (by omega), if_neg (by simp)]
    · exact go true (Or.inl (by omega)) (by unfold aRules; rw [show decide (wN w n 0 = 1) = true from decide_eq_true (by omega)])
theorem GK.rules (g : GK F H T w) (hn : n < H) : GK F H T (aRules w n T F) := aRuns_g hn 5000 _ w g
theorem wfr.rules : wfr n w (aRules w n T F) := aRuns_f 5000 _ w
end
end

section
/-! A NODE OF THE REFERENCE COMES AGAIN -/
/-- own messages are held again -/
def aHL (w : Wd) (n : Nat) : Nat → Wd
  | 0 => w
  | i + 1 => match wY w n 8 i with
    | some m => aHeld (aHL w n i) n m
    | none => aHL w n i
def aWk0 (w : Wd) (n : Nat) : Wd := sN (sN (sN (sN w n 0 1) n 6 0) n 7 0) n 8 0
def aWk1 (w : Wd) (n : Nat) : Wd := if wN w n 1 ≤ 40 then sN w n (9 + (wN w n 3).toNat) ((wT w + 4 + (wN w n 2).toNat : Nat) : Int) else w
def aWk (w : Wd) (n T : Nat) : Wd := aAll (aWk1 (aHL (aWk0 w n) n (wN w n 17).toNat) n) n T (asB (wN w n 1).toNat)
section
variable {N n F H T : Nat} {S : rS} {w w' : Wd} {G : Gh}
theorem aHL_o : ∀ i, wN (aHL w n i) = wN w ∧ wP (aHL w n i) = wP w ∧ wX (aHL w n i) = wX w ∧ wK (aHL w n i) = wK w ∧ wT (aHL w n i) = wT w ∧ wL (aHL w n i) = wL w ∧ ∀ m f x, m ≠ n ∨ (f ≠ 4 ∧ f ≠ 5) → wY (aHL w n i) m f x = wY w m f x
  | 0 => ⟨rfl, rfl, rfl, rfl, rfl, rfl, fun _ _ _ _ => rfl⟩
  | i + 1 => by
    obtain ⟨a1, a2, a3, a4, a5, a6, a7⟩ := aHL_o i
    have y : ∀ (u : Wd) (m : List Nat) x f j, x ≠ n ∨ (f ≠ 4 ∧ f ≠ 5) → wY (aHeld u n m) x f j = wY u x f j := fun u m x f j h => by
      unfold aHeld
      split
      · split
        · exact B_o _ _ _ _ _ (by omega)
        · rfl
      · split
        · exact B_o _ _ _ _ _ (by omega)
        · rfl
    show wN (match wY w n 8 i with | some m => aHeld (aHL w n i) n m | none => aHL w n i) = _ ∧ wP (match wY w n 8 i with | some m => aHeld (aHL w n i) n m | none => aHL w n i) = _ ∧ wX (match wY w n 8 i with | some m => aHeld (aHL w n i) n m | none => aHL w n i) = _ ∧ wK (match wY w n 8 i with | some m => aHeld (aHL w n i) n m | none => aHL w n i) = _ ∧ wT (match wY w n 8 i with | some m => aHeld (aHL w n i) n m | none => aHL w n i) = _ ∧ wL (match wY w n 8 i with | some m => aHeld (aHL w n i) n m | none => aHL w n i) = _ ∧ ∀ m f x, m ≠ n ∨ (f ≠ 4 ∧ f ≠ 5) → wY (match wY w n 8 i with | some m => aHeld (aHL w n i) n m | none => aHL w n i) m f x = wY w m f x
    cases wY w n 8 i with
    | none => exact ⟨a1, a2, a3, a4, a5, a6, a7⟩
    | some m =>
      obtain ⟨o1, o2, o3, o4, o5, o6⟩ := aHeld_o (w := aHL w n i) (n := n) (m := m)
      exact ⟨o1.trans a1, o2.trans a2, o3.trans a3, o4.trans a4, o5.trans a5, o6.trans a6, fun x f j h => (y _ m x f j h).trans (a7 x f j h)⟩
theorem aHL_s (i : Nat) (m : List Nat) (e : wY w n 8 i = some m) : aHL w n (i + 1) = aHeld (aHL w n i) n m := by
  show (match wY w n 8 i with | some m => aHeld (aHL w n i) n m | none => aHL w n i) = _
  rw [e]
theorem wfr.hl {i : Nat} : wfr n w (aHL w n i) := by
  obtain ⟨a1, a2, a3, a4, a5, a6, a7⟩ := aHL_o (w := w) (n := n) i
  exact ⟨fun m hm => ⟨by rw [a1], funext fun f => funext fun x => a7 m f x (Or.inl hm), by rw [a2], by rw [a3]⟩, a5, a6, Or.inl (by rw [a1])⟩
/-- an own message of this height is held -/
theorem GN.held {m : List Nat} (g : GN F H T G w n) (c : cst F H T) (hn : n < H) (hg : G n m) (hm : giM T n (wN w n 1) m) : (giV H T G (wN w n 1) (wY (aHeld w n m) n 5) ∧ giH H T G (wN w n 1) (wY (aHeld w n m) n 4)) ∧ ((bg m 0 = 1 → wY (aHeld w n m) n 4 (16 * ((wN w n 1).toNat % 2) + bg m 4) = some m) ∧ (bg m 0 ≠ 1 → wY (aHeld w n m) n 5 (vq (if bg m 0 = 3 then 1 else 0) ((wN w n 1).toNat % 2) (bg m 4) n) = some m)) ∧ (∀ f x y, wY w n f x = some y → wY (aHeld w n m) n f x = some y) := by
  have cb := c.b
  have h1 := g.a.2.1
  obtain ⟨s1, s2⟩ := g.slot c hn hm (fun y hy a b d => g.u y m hy hg a b d)
  have yy := aHeld_y (w := w) (n := n) (m := m) s1 s2
  obtain ⟨m1, m2, m3, m4, m5⟩ := hm
  have P2 : (wN w n 1).toNat % 2 ≤ 1 := by omega
  refine ⟨⟨?_, ?_⟩, ⟨fun k => ?_, fun k => ?_⟩, fun f x y e => ?_⟩
  · intro c' p r s x c1 p1 r1 s1' z
    rw [yy] at z
    by_cases q : bg m 0 ≠ 1 ∧ vq c' p r s = vtI w n m
    · rw [if_pos (Or.inr ⟨rfl, q⟩)] at z
      cases z
      obtain ⟨j1, j2, j3, j4⟩ := vq_inj q.2 p1 r1 s1' P2 m3 (by omega)
      have c1' : bg m 0 = 2 + c' := by rw [j1]; split <;> omega
      rcases m5 with m5 | m5
      · exact absurd m5.1 q.1
      · exact ⟨by have := c.2.2.2.1; omega, c1', by omega, by omega, by omega, Or.inl m2, m5.2, m4, fun _ => by rw [j4]; exact hg⟩
    · rw [if_neg (by omega)] at z
      exact g.v c' p r s x c1 p1 r1 s1' z
  · intro p r x p1 r1 z
    rw [yy] at z
    by_cases q : bg m 0 = 1 ∧ 16 * p + r = hdI w n m
    · rw [if_pos (Or.inl ⟨rfl, q⟩)] at z
      cases z
      have q2 := q.2
      unfold hdI at q2
      have e1 : p = (wN w n 1).toNat % 2 := by omega
      have e2 : r = bg m 4 := by omega
      rcases m5 with m5 | m5
      · exact ⟨m5.1, e2.symm, by omega, Or.inl m2, m5.2.1, m4, by rw [m1, e2]; exact m5.2.2, fun _ => by rw [m1]; exact hg⟩
      · omega
    · rw [if_neg (by omega)] at z
      exact g.hd p r x p1 r1 z
  · rw [yy, if_pos (Or.inl ⟨rfl, k, rfl⟩)]
  · rw [yy, if_pos (Or.inr ⟨rfl, k, rfl⟩)]
  · rw [yy]
    by_cases q : (f = 4 ∧ bg m 0 = 1 ∧ x = hdI w n m) ∨ (f = 5 ∧ bg m 0 ≠ 1 ∧ x = vtI w n m)
    · rw [if_pos q]
      rcases q with q | q
      · rcases s1 q.2.1 with t | t
        · rw [q.1, q.2.2, t] at e; cases e
        · rw [q.1, q.2.2, t] at e; exact e
      · rcases s2 q.2.1 with t | t
        · rw [q.1, q.2.2, t] at e; cases e
        · rw [q.1, q.2.2, t] at e; exact e
    · rw [if_neg q]
      exact e
/-- all but what is held -/
theorem GN.up0 (g : GN F H T G w n) (a : giA (wN w' n)) (eP : wP w' n = wP w n) (eN : ∀ k, (1 ≤ k ∧ k < 6) ∨ k = 17 ∨ (32 ≤ k ∧ k < 80) → wN w' n k = wN w n k) (hv : giV H T G (wN w n 1) (wY w' n 5)) (hh : giH H T G (wN w n 1) (wY w' n 4)) (y : ∀ f x, f ≠ 4 → f ≠ 5 → wY w' n f x = wY w n f x) (hf : giF (wN w' n 0) (wN w n 1) (wN w n 17) (wY w' n 4) (wY w' n 5) (wY w n 8) n) : GN F H T G w' n := by
  have yf : ∀ f, f ≠ 4 → f ≠ 5 → wY w' n f = wY w n f := fun f a b => funext fun x => y f x a b
  unfold GN
  rw [eP, eN 1 (by omega), eN 2 (by omega), eN 3 (by omega), eN 4 (by omega), eN 5 (by omega), eN 17 (by omega), yf 6 (by decide) (by decide), yf 3 (by decide) (by decide), yf 2 (by decide) (by decide), yf 0 (by decide) (by decide), yf 1 (by decide) (by decide), yf 8 (by decide) (by decide), yf 9 (by decide) (by decide)]
  exact ⟨a, g.p, hv, hh, g.d, g.s, g.e, g.l, g.o, g.g, g.u, g.b.cg (fun k a b => eN k (by omega)), hf⟩
theorem GI.wake (g : GI F H T G w) (hn : n < H) : GI F H T G (aHL (aWk0 w n) n (wN w n 17).toNat) := by
  have gn := g.2.1 n hn
  obtain ⟨a0, a1, a2, a3, a4, a5, a6, a7, a8, a9, a10, a11, a12, a13, a14⟩ := gn.a
  have e : ∀ k, (1 ≤ k ∧ k < 6) ∨ 8 < k → wN (aWk0 w n) n k = wN w n k := fun k hk => by
    unfold aWk0
    rw [N_o _ _ _ _ (by omega), N_o _ _ _ _ (by omega), N_o _ _ _ _ (by omega), N_o _ _ _ _ (by omega)]
  have e0 : wN (aWk0 w n) n 0 = 1 := by
    unfold aWk0
    rw [N_o _ _ _ _ (by omega), N_o _ _ _ _ (by omega), N_o _ _ _ _ (by omega), N_s]
  have eb : ∀ k, 6 ≤ k ∧ k ≤ 8 → wN (aWk0 w n) n k = 0 := fun k hk => by
    unfold aWk0
    rcases (show k = 6 ∨ k = 7 ∨ k = 8 by omega) with c | c | c <;> rw [c]
    · rw [N_o _ _ _ _ (by omega), N_o _ _ _ _ (by omega), N_s]
    · rw [N_o _ _ _ _ (by omega), N_s]
    · rw [N_s]
  have f0 : wfr n w (sN (aWk0 w n) n 0 0) := ⟨fun m hm => ⟨funext fun j => by
    unfold aWk0
    rw [N_o _ _ _ _ (Or.inl hm), N_o _ _ _ _ (Or.inl hm), N_o _ _ _ _ (Or.inl hm), N_o _ _ _ _ (Or.inl hm), N_o _ _ _ _ (Or.inl hm)], rfl, rfl, rfl⟩, rfl, rfl, Or.inr (N_s _ _ _ _)⟩
  have A0 : ∀ u : Int, 0 ≤ u ∧ u ≤ 1 → giA (wN (sN (aWk0 w n) n 0 u) n) := fun u hu => by
    have o : ∀ k, k ≠ 0 → wN (sN (aWk0 w n) n 0 u) n k = wN (aWk0 w n) n k := fun k hk => N_o _ _ _ _ (Or.inr hk)
    unfold giA
    rw [N_s, o 1 (by decide), o 2 (by decide), o 3 (by decide), o 4 (by decide), o 5 (by decide), o 6 (by decide), o 7 (by decide), o 8 (by decide), o 12 (by decide), o 15 (by decide), o 16 (by decide), o 17 (by decide), e 1 (by omega), e 2 (by omega), e 3 (by omega), e 4 (by omega), e 5 (by omega), eb 6 (by omega), eb 7 (by omega), eb 8 (by omega), e 12 (by omega), e 15 (by omega), e 16 (by omega), e 17 (by omega)]
    exact ⟨hu, a1, a2, a3, a4, a5, by decide, by decide, by decide, a9, a10, a11, a12, a13, a14⟩
  -- step by step: as if the node were still down
  have key : ∀ i : Nat, (i : Int) ≤ wN w n 17 → GN F H T G (sN (aHL (aWk0 w n) n i) n 0 0) n ∧ (∀ (j : Nat) m, j < i → wY w n 8 j = some m → (bg m 0 = 1 → wY (aHL (aWk0 w n) n i) n 4 (16 * ((wN w n 1).toNat % 2) + bg m 4) = some m) ∧ (bg m 0 ≠ 1 → wY (aHL (aWk0 w n) n i) n 5 (vq (if bg m 0 = 3 then 1 else 0) ((wN w n 1).toNat % 2) (bg m 4) n) = some m)) := by
    intro i
    induction i with
    | zero =>
      intro _
      refine ⟨gn.up0 (A0 0 (by decide)) rfl (fun k hk => by rw [N_o _ _ _ _ (by omega)]; exact e k (by omega)) gn.v gn.hd (fun _ _ _ _ => rfl) ?_, fun j m hj => absurd hj (by omega)⟩
      rw [N_s]
      exact fun z => absurd z (by decide)
    | succ i ih =>
      intro hi
      obtain ⟨g1, h1⟩ := ih (by omega)
      obtain ⟨m, m1, m2, m3, m4⟩ := gn.o i (by omega)
      have m1' : wY (aWk0 w n) n 8 i = some m := m1
      have st := aHL_s (w := aWk0 w n) (n := n) i m m1'
      obtain ⟨o1, o2, o3, o4, o5, o6, o7⟩ := aHL_o (w := aWk0 w n) (n := n) i
      have n1 : wN (sN (aHL (aWk0 w n) n i) n 0 0) n 1 = wN w n 1 := by rw [N_o _ _ _ _ (by omega), o1]; exact e 1 (by omega)
      obtain ⟨q1, q2, q3⟩ := g1.held g.1 hn m2 (by rw [n1]; exact m3)
      have sw : aHeld (sN (aHL (aWk0 w n) n i) n 0 0) n m = sN (aHL (aWk0 w n) n (i + 1)) n 0 0 := by
        rw [st]
        have hd : hdI (sN (aHL (aWk0 w n) n i) n 0 0) n m = hdI (aHL (aWk0 w n) n i) n m := by unfold hdI; rw [N_o _ _ _ _ (by omega)]
        have vt : vtI (sN (aHL (aWk0 w n) n i) n 0 0) n m = vtI (aHL (aWk0 w n) n i) n m := by unfold vtI; rw [N_o _ _ _ _ (by omega)]
        unfold aHeld
        rw [hd, vt]
        split
        · show (match wY (aHL (aWk0 w n) n i) n 4 (hdI (aHL (aWk0 w n) n i) n m) with | none => _ | some _ => _) = _
          cases wY (aHL (aWk0 w n) n i) n 4 (hdI (aHL (aWk0 w n) n i) n m) <;> rfl
        · show (match wY (aHL (aWk0 w n) n i) n 5 (vtI (aHL (aWk0 w n) n i) n m) with | none => _ | some _ => _) = _
          cases wY (aHL (aWk0 w n) n i) n 5 (vtI (aHL (aWk0 w n) n i) n m) <;> rfl
      rw [sw, n1] at q1 q2
      rw [sw] at q3
      obtain ⟨p1, p2, p3, p4, p5, p6, p7⟩ := aHL_o (w := aWk0 w n) (n := n) (i + 1)
      refine ⟨gn.up0 ?_ (by show wP (aHL (aWk0 w n) n (i + 1)) n = _; rw [p2]; rfl) (fun k hk => by rw [N_o _ _ _ _ (by omega), p1]; exact e k (by omega)) q1.1 q1.2 (fun f x a b => p7 n f x (Or.inr ⟨a, b⟩)) ?_, fun j x hj hx => ?_⟩
      · have := A0 0 (by decide)
        have ex : wN (sN (aHL (aWk0 w n) n (i + 1)) n 0 0) n = wN (sN (aWk0 w n) n 0 0) n := funext fun k => by
          by_cases c : k = 0
          · rw [c, N_s, N_s]
          · rw [N_o _ _ _ _ (Or.inr c), N_o _ _ _ _ (Or.inr c), p1]
        rw [ex]
        exact this
      · rw [N_s]
        exact fun z => absurd z (by decide)
      · by_cases c : j = i
        · rw [c, m1] at hx
          cases hx
          exact q2
        · obtain ⟨r1, r2⟩ := h1 j x (by omega) hx
          exact ⟨fun k => q3 4 _ x (r1 k), fun k => q3 5 _ x (r2 k)⟩
  obtain ⟨g1, h1⟩ := key (wN w n 17).toNat (by omega)
  obtain ⟨p1, p2, p3, p4, p5, p6, p7⟩ := aHL_o (w := aWk0 w n) (n := n) (wN w n 17).toNat
  have fw : wfr n w (sN (aHL (aWk0 w n) n (wN w n 17).toNat) n 0 0) := ⟨fun m hm => ⟨funext fun j => by
    rw [N_o _ _ _ _ (Or.inl hm), p1]
    unfold aWk0
    rw [N_o _ _ _ _ (Or.inl hm), N_o _ _ _ _ (Or.inl hm), N_o _ _ _ _ (Or.inl hm), N_o _ _ _ _ (Or.inl hm)], funext fun f => funext fun x => p7 m f x (Or.inl hm), by show wP (aHL (aWk0 w n) n (wN w n 17).toNat) m = _; rw [p2]; rfl, by show wX (aHL (aWk0 w n) n (wN w n 17).toNat) m = _; rw [p3]; rfl⟩, p5, p6, Or.inr (N_s _ _ _ _)⟩
  have g2 : GI F H T G (sN (aHL (aWk0 w n) n (wN w n 17).toNat) n 0 0) := g.step hn fw (fun _ _ z => z) (fun _ _ => rfl) g1 (by show GS H T G (wK (aHL (aWk0 w n) n (wN w n 17).toNat)); rw [p4]; exact g.2.2)
  refine ⟨g.1, fun m hm => ?_, g2.2.2⟩
  by_cases c : m = n
  · rw [c]
    have gv := g1.v
    have gh := g1.hd
    have n1 : wN (sN (aHL (aWk0 w n) n (wN w n 17).toNat) n 0 0) n 1 = wN w n 1 := by rw [N_o _ _ _ _ (by omega), p1]; exact e 1 (by omega)
    rw [n1] at gv gh
    refine gn.up0 ?_ (by rw [p2]; rfl) (fun k hk => by rw [p1]; exact e k (by omega)) gv gh (fun f x a b => p7 n f x (Or.inr ⟨a, b⟩)) ?_
    · have := A0 1 (by decide)
      have ex : wN (aHL (aWk0 w n) n (wN w n 17).toNat) n = wN (sN (aWk0 w n) n 0 1) n := funext fun k => by
        by_cases c : k = 0
        · rw [c, N_s, p1, e0]
        · rw [N_o _ _ _ _ (Or.inr c), p1]
      rw [ex]
      exact this
    · intro _ j x hj hx
      exact h1 j x (by omega) hx
  · have := g2.2.1 m hm
    have en : wN (sN (aHL (aWk0 w n) n (wN w n 17).toNat) n 0 0) m = wN (aHL (aWk0 w n) n (wN w n 17).toNat) m := funext fun k => N_o _ _ _ _ (Or.inl c)
    exact this.cg (fun _ _ z => z) rfl en.symm rfl rfl
end
end

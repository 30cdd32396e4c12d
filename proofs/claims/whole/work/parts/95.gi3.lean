section
/-! WHAT A NODE SENDS KEEPS WHAT HOLDS OF THE WORLD -/
def giAd (G : Gh) (n : Nat) (m : List Nat) : Gh := fun s x => G s x ∨ (s = n ∧ x = m)
theorem pst_mem {k : Sk} {x y : Fl} (h : x ∈ (pst k y).1) : x ∈ k.1 ∨ x = y := by
  unfold pst at h
  split at h
  · have h : x ∈ k.1 ++ [y] := h
    simpa using h
  · exact Or.inl h
theorem pstN_mem {k : Sk} {f tk : Nat} {m : List Nat} {P : Nat → Bool} {x : Fl} : ∀ j, x ∈ (pstN k f tk m P j).1 → x ∈ k.1 ∨ ∃ t, t < j ∧ x = (f, t, tk, m)
  | 0, h => Or.inl h
  | j + 1, h => by
    have old : x ∈ (pstN k f tk m P j).1 → x ∈ k.1 ∨ ∃ t, t < j + 1 ∧ x = (f, t, tk, m) := fun z => by
      rcases pstN_mem j z with a | ⟨t, a, b⟩
      · exact Or.inl a
      · exact Or.inr ⟨t, by omega, b⟩
    unfold pstN at h
    split at h
    · rcases pst_mem h with a | a
      · exact old a
      · exact Or.inr ⟨j, by omega, a⟩
    · exact old h
section
variable {F H T n : Nat} {G : Gh} {w w' : Wd}
theorem aHeld_o {m : List Nat} : wN (aHeld w n m) = wN w ∧ wP (aHeld w n m) = wP w ∧ wX (aHeld w n m) = wX w ∧ wK (aHeld w n m) = wK w ∧ wT (aHeld w n m) = wT w ∧ wL (aHeld w n m) = wL w := by
  unfold aHeld
  split
  · split <;> exact ⟨rfl, rfl, rfl, rfl, rfl, rfl⟩
  · split <;> exact ⟨rfl, rfl, rfl, rfl, rfl, rfl⟩
theorem aHeld_y {m : List Nat} (h1 : bg m 0 = 1 → wY w n 4 (hdI w n m) = none ∨ wY w n 4 (hdI w n m) = some m) (h2 : bg m 0 ≠ 1 → wY w n 5 (vtI w n m) = none ∨ wY w n 5 (vtI w n m) = some m) (f x : Nat) : wY (aHeld w n m) n f x = if (f = 4 ∧ bg m 0 = 1 ∧ x = hdI w n m) ∨ (f = 5 ∧ bg m 0 ≠ 1 ∧ x = vtI w n m) then some m else wY w n f x := by
  unfold aHeld
  by_cases k : bg m 0 = 1
  · rw [if_pos k]
    rcases h1 k with e | e <;> rw [e]
    · show wY (sBy w n 4 (hdI w n m) (some m)) n f x = _
      by_cases c : f = 4 ∧ x = hdI w n m
      · rw [c.1, c.2, B_s, if_pos (Or.inl ⟨rfl, k, rfl⟩)]
      · rw [B_o _ _ _ _ _ (by omega), if_neg (by omega)]
    · show wY w n f x = _
      by_cases c : f = 4 ∧ x = hdI w n m
      · rw [c.1, c.2, e, if_pos (Or.inl ⟨rfl, k, rfl⟩)]
      · rw [if_neg (by omega)]
  · rw [if_neg k]
    rcases h2 k with e | e <;> rw [e]
    · show wY (sBy w n 5 (vtI w n m) (some m)) n f x = _
      by_cases c : f = 5 ∧ x = vtI w n m
      · rw [c.1, c.2, B_s, if_pos (Or.inr ⟨rfl, k, rfl⟩)]
      · rw [B_o _ _ _ _ _ (by omega), if_neg (by omega)]
    · show wY w n f x = _
      by_cases c : f = 5 ∧ x = vtI w n m
      · rw [c.1, c.2, e, if_pos (Or.inr ⟨rfl, k, rfl⟩)]
      · rw [if_neg (by omega)]
/-- what is held where an own message would be is that message -/
theorem GN.slot {m : List Nat} (g : GN F H T G w n) (c : cst F H T) (hn : n < H) (hm : giM T n (wN w n 1) m) (fr : ∀ m', G n m' → bg m' 0 = bg m 0 → tw m' 2 = tw m 2 → bg m' 4 = bg m 4 → m' = m) : (bg m 0 = 1 → wY w n 4 (hdI w n m) = none ∨ wY w n 4 (hdI w n m) = some m) ∧ (bg m 0 ≠ 1 → wY w n 5 (vtI w n m) = none ∨ wY w n 5 (vtI w n m) = some m) := by
  have cb := c.b
  obtain ⟨m1, m2, m3, m4, m5⟩ := hm
  have P2 : (wN w n 1).toNat % 2 ≤ 1 := by omega
  constructor
  · intro k
    cases e : wY w n 4 (hdI w n m) with
    | none => exact Or.inl rfl
    | some y =>
      obtain ⟨b1, b2, b3, b4, b5, b6, b7, b8⟩ := g.hd _ _ y P2 m3 e
      have t : tw y 2 = tw m 2 := by unfold nxt at b4; omega
      have s : bg y 1 = n := by
        rw [b7, t]
        rcases m5 with m5 | m5
        · exact m5.2.2.symm
        · omega
      rw [s] at b8
      rw [fr y (b8 hn) (by omega) t b2]
      exact Or.inr rfl
  · intro k
    have k : bg m 0 = 2 ∨ bg m 0 = 3 := by omega
    cases e : wY w n 5 (vtI w n m) with
    | none => exact Or.inl rfl
    | some y =>
      have c1 : (if bg m 0 = 3 then 1 else 0) ≤ 1 := by split <;> omega
      obtain ⟨b1, b2, b3, b4, b5, b6, b7, b8, b9⟩ := g.v _ _ _ _ y c1 P2 m3 (by omega) e
      have t : tw y 2 = tw m 2 := by unfold nxt at b6; omega
      rw [fr y (b9 hn) (by rw [b2]; split <;> omega) t b4]
      exact Or.inr rfl
theorem vq_inj {c p r s c' p' r' s' : Nat} (e : vq c p r s = vq c' p' r' s') (h1 : p ≤ 1) (h2 : r < 16) (h3 : s < 13) (h4 : p' ≤ 1) (h5 : r' < 16) (h6 : s' < 13) : c = c' ∧ p = p' ∧ r = r' ∧ s = s' := by
  unfold vq at e
  omega
theorem GI.send {m : List Nat} (g : GI F H T G w) (hn : n < H) (hm : giM T n (wN w n 1) m) (hr : (bg m 4 : Int) = wN w n 2) (hk : (bg m 0 : Int) ≤ wN w n 3 + 1) (fr : ∀ m', G n m' → bg m' 0 = bg m 0 → tw m' 2 = tw m 2 → bg m' 4 = bg m 4 → m' = m) : GI F H T (giAd G n m) (aSend w n T m) ∧ (∀ k, k ≠ 17 → wN (aSend w n T m) n k = wN w n k) ∧ wN (aSend w n T m) n 17 = wN w n 17 + 1 := by
  have cb := g.1.b
  have gn := g.2.1 n hn
  obtain ⟨sl1, sl2⟩ := gn.slot g.1 hn hm fr
  have h17 : 0 ≤ wN w n 17 := gn.a.2.2.2.2.2.2.2.2.2.2.2.2.1
  have h1 := gn.a.2.1
  obtain ⟨m1, m2, m3, m4, m5⟩ := hm
  have mk : bg m 0 = 1 ∨ bg m 0 = 2 ∨ bg m 0 = 3 := by omega
  obtain ⟨i, hi⟩ : ∃ i, i = (wN w n 17).toNat := ⟨_, rfl⟩
  obtain ⟨u, hu⟩ : ∃ u, u = aAll (sN (sBy w n 8 i (some m)) n 17 (i + 1 : Nat)) n T m := ⟨_, rfl⟩
  have ew : aSend w n T m = aHeld u n m := by rw [hu, hi]; rfl
  have uN : ∀ k, k ≠ 17 → wN u n k = wN w n k := fun k hk => by
    rw [hu]
    show wN (sN (sBy w n 8 i (some m)) n 17 (i + 1 : Nat)) n k = _
    rw [N_o _ _ _ _ (Or.inr hk)]
    rfl
  have u17 : wN u n 17 = wN w n 17 + 1 := by
    rw [hu]
    show wN (sN (sBy w n 8 i (some m)) n 17 (i + 1 : Nat)) n 17 = _
    rw [N_s]
    omega
  have uY : ∀ f x, f ≠ 8 → wY u n f x = wY w n f x := fun f x hf => by
    rw [hu]
    exact B_o _ _ _ _ _ (Or.inr (Or.inl hf))
  have uY8 : ∀ x, wY u n 8 x = if x = i then some m else wY w n 8 x := fun x => by
    rw [hu]
    show wY (sBy w n 8 i (some m)) n 8 x = _
    by_cases c : x = i
    · rw [if_pos c, c, B_s]
    · rw [if_neg c, B_o _ _ _ _ _ (Or.inr (Or.inr c))]
  have uP : wP u n = wP w n := by rw [hu]; rfl
  have uK : wK u = pstN (wK w) n (wT w) m (fun j => decide (j ≠ n)) T := by rw [hu]; rfl
  have hd : hdI u n m = hdI w n m := by unfold hdI; rw [uN 1 (by decide)]
  have vt : vtI u n m = vtI w n m := by unfold vtI; rw [uN 1 (by decide)]
  have yy := aHeld_y (w := u) (n := n) (m := m) (by rw [hd, uY 4 _ (by decide)]; exact sl1) (by rw [vt, uY 5 _ (by decide)]; exact sl2)
  rw [hd, vt] at yy
  obtain ⟨o1, o2, o3, o4, o5, o6⟩ := aHeld_o (w := u) (n := n) (m := m)
  have eN : ∀ k, k ≠ 17 → wN (aSend w n T m) n k = wN w n k := fun k hk => by rw [ew, o1]; exact uN k hk
  have e17 : wN (aSend w n T m) n 17 = wN w n 17 + 1 := by rw [ew, o1]; exact u17
  have y4 : ∀ x, wY (aSend w n T m) n 4 x = if bg m 0 = 1 ∧ x = hdI w n m then some m else wY w n 4 x := fun x => by
    rw [ew, yy, uY 4 x (by decide)]
    by_cases c : bg m 0 = 1 ∧ x = hdI w n m
    · rw [if_pos c, if_pos (Or.inl ⟨rfl, c⟩)]
    · rw [if_neg c, if_neg (by omega)]
  have y5 : ∀ x, wY (aSend w n T m) n 5 x = if bg m 0 ≠ 1 ∧ x = vtI w n m then some m else wY w n 5 x := fun x => by
    rw [ew, yy, uY 5 x (by decide)]
    by_cases c : bg m 0 ≠ 1 ∧ x = vtI w n m
    · rw [if_pos c, if_pos (Or.inr ⟨rfl, c⟩)]
    · rw [if_neg c, if_neg (by omega)]
  have y8 : ∀ x, wY (aSend w n T m) n 8 x = if x = i then some m else wY w n 8 x := fun x => by
    rw [ew, yy, if_neg (by omega)]
    exact uY8 x
  have yo : ∀ f, f ≠ 4 → f ≠ 5 → f ≠ 8 → wY (aSend w n T m) n f = wY w n f := fun f a b c => funext fun x => by
    rw [ew, yy, if_neg (by omega)]
    exact uY f x c
  have eP : wP (aSend w n T m) n = wP w n := by rw [ew, o2]; exact uP
  have eK : wK (aSend w n T m) = pstN (wK w) n (wT w) m (fun j => decide (j ≠ n)) T := by rw [ew, o4]; exact uK
  have hg : ∀ s x, G s x → giAd G n m s x := fun s x z => Or.inl z
  refine ⟨g.step hn wfr.send hg (fun s hs => funext fun x => propext ⟨fun z => by rcases z with z | z; exact z; exact absurd z.1 hs, fun z => Or.inl z⟩) ?_ ?_, eN, e17⟩
  · have P2 : (wN w n 1).toNat % 2 ≤ 1 := by omega
    unfold GN
    rw [eP, eN 0 (by decide), eN 1 (by decide), eN 2 (by decide), eN 3 (by decide), eN 4 (by decide), eN 5 (by decide), e17, yo 6 (by decide) (by decide) (by decide), yo 3 (by decide) (by decide) (by decide), yo 2 (by decide) (by decide) (by decide), yo 0 (by decide) (by decide) (by decide), yo 1 (by decide) (by decide) (by decide), yo 9 (by decide) (by decide) (by decide)]
    refine ⟨?_, gn.p, ?_, ?_, gn.d, gn.s, gn.e, gn.l.mono hg, ?_, ?_, ?_, gn.b.cg (fun k a b => eN k (by omega)), ?_⟩
    · obtain ⟨a0, a1, a2, a3, a4, a5, a6, a7, a8, a9, a10, a11, a12, a13, a14⟩ := gn.a
      unfold giA
      rw [eN 0 (by decide), eN 1 (by decide), eN 2 (by decide), eN 3 (by decide), eN 4 (by decide), eN 5 (by decide), eN 6 (by decide), eN 7 (by decide), eN 8 (by decide), eN 12 (by decide), eN 15 (by decide), eN 16 (by decide), e17]
      exact ⟨a0, a1, a2, a3, a4, a5, a6, a7, a8, a9, a10, a11, by omega, a13, a14⟩
    · intro c p r s x c1 p1 r1 s1 z
      rw [y5] at z
      by_cases q : bg m 0 ≠ 1 ∧ vq c p r s = vtI w n m
      · rw [if_pos q] at z
        cases z
        obtain ⟨j1, j2, j3, j4⟩ := vq_inj q.2 p1 r1 s1 P2 m3 (by omega)
        have c1' : bg m 0 = 2 + c := by rw [j1]; split <;> omega
        rcases m5 with m5 | m5
        · exact absurd m5.1 q.1
        · exact ⟨by have := g.1.2.2.2.1; omega, c1', by omega, by omega, by omega, Or.inl m2, m5.2, m4, fun _ => Or.inr ⟨by omega, rfl⟩⟩
      · rw [if_neg q] at z
        exact gn.v.mono hg c p r s x c1 p1 r1 s1 z
    · intro p r x p1 r1 z
      rw [y4] at z
      by_cases q : bg m 0 = 1 ∧ 16 * p + r = hdI w n m
      · rw [if_pos q] at z
        cases z
        have q2 := q.2
        unfold hdI at q2
        have e1 : p = (wN w n 1).toNat % 2 := by omega
        have e2 : r = bg m 4 := by omega
        rcases m5 with m5 | m5
        · exact ⟨m5.1, e2.symm, by omega, Or.inl m2, m5.2.1, m4, by rw [m1, e2]; exact m5.2.2, fun _ => Or.inr ⟨m1, rfl⟩⟩
        · omega
      · rw [if_neg q] at z
        exact gn.hd.mono hg p r x p1 r1 z
    · intro j hj
      rw [y8]
      by_cases e : j = i
      · rw [if_pos e]
        exact ⟨m, rfl, Or.inr ⟨rfl, rfl⟩, ⟨m1, m2, m3, m4, m5⟩, by omega⟩
      · rw [if_neg e]
        obtain ⟨x, x1, x2, x3, x4⟩ := gn.o j (by omega)
        exact ⟨x, x1, Or.inl x2, x3, x4⟩
    · intro x hx
      rcases hx with hx | hx
      · obtain ⟨x1, x2, x3⟩ := gn.g x hx
        refine ⟨x1, x2, ?_⟩
        rcases x3 with x3 | ⟨y1, ⟨j, j1, j2⟩, y3⟩
        · exact Or.inl x3
        · exact Or.inr ⟨y1, ⟨j, by omega, by rw [y8, if_neg (by omega)]; exact j2⟩, y3⟩
      · rw [hx.2]
        exact ⟨m1, mk, Or.inr ⟨m2, ⟨i, by omega, by rw [y8, if_pos rfl]⟩, Or.inr ⟨hr, hk⟩⟩⟩
    · intro x y hx hy a b c
      rcases hx with hx | hx <;> rcases hy with hy | hy
      · exact gn.u x y hx hy a b c
      · rw [hy.2] at a b c ⊢
        exact fr x hx a b c
      · rw [hx.2] at a b c ⊢
        exact (fr y hy a.symm b.symm c.symm).symm
      · rw [hx.2, hy.2]
    · intro up j x hj hx
      rw [y8] at hx
      have old : j ≠ i → wY w n 8 j = some x → G n x ∧ giM T n (wN w n 1) x := fun ne e => by
        obtain ⟨y, b1, b2, b3, b4⟩ := gn.o j (by omega)
        rw [e] at b1
        cases b1
        exact ⟨b2, b3⟩
      constructor
      · intro k
        rw [y4]
        by_cases e : j = i
        · rw [if_pos e] at hx
          cases hx
          rw [if_pos ⟨k, rfl⟩]
        · rw [if_neg e] at hx
          obtain ⟨b2, b3⟩ := old e hx
          by_cases q : bg m 0 = 1 ∧ 16 * ((wN w n 1).toNat % 2) + bg x 4 = hdI w n m
          · have q2 := q.2
            unfold hdI at q2
            rw [if_pos q, fr x b2 (by omega) (by have := b3.2.1; omega) (by omega)]
          · rw [if_neg q]
            exact (gn.f up j x (by omega) hx).1 k
      · intro k
        rw [y5]
        by_cases e : j = i
        · rw [if_pos e] at hx
          cases hx
          rw [if_pos ⟨k, rfl⟩]
        · rw [if_neg e] at hx
          obtain ⟨b2, b3⟩ := old e hx
          by_cases q : bg m 0 ≠ 1 ∧ vq (if bg x 0 = 3 then 1 else 0) ((wN w n 1).toNat % 2) (bg x 4) n = vtI w n m
          · obtain ⟨j1, j2, j3, j4⟩ := vq_inj q.2 P2 b3.2.2.1 (by omega) P2 m3 (by omega)
            have kx : bg x 0 = bg m 0 := by
              have := b3.2.2.2.2
              have k3 := q.1
              split at j1 <;> split at j1 <;> omega
            rw [if_pos q, fr x b2 kx (by have := b3.2.1; omega) j3]
          · rw [if_neg q]
            exact (gn.f up j x (by omega) hx).2 k
  · rw [eK]
    intro x hx z
    rcases pstN_mem T hx with a | ⟨t, a, b⟩
    · exact (g.2.2.mono hg) x a z
    · rw [b]
      exact ⟨fun _ _ => Or.inr ⟨m1, rfl⟩, fun k => absurd (show bg m 0 = 7 from k) (by omega)⟩
end
end

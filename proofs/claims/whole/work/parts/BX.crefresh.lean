section
/-! THE CLASS'S NODE REFRESHES ITS BOOK -/
section
variable {F N g H T n : Nat} {s s1 s' : cS} {ct : Nat → List Nat} {hd : List Nat} {w w' W : Wd} {pe pe' : Nat → Int} {a : Nat} {G : Gh}
theorem refresh_C (hN : 2100 ≤ N) (h : CR F g H T s ct hd w pe) (hn : n < H) (ok : bkOK (bkN (wN w) n)) : wp (p_X0_refresh N g H T s (nd g n + 6) (g + 3) (g + 23)) (k_X0_refresh N g H T s (nd g n + 6) (g + 3) (g + 23)) (fun z => CR F g H T z ct hd w pe ∧ cI z 5 (nd g n + 6) = nI 0 ∧ m6 g H n s z ∧ ffr g H hd s z) := by
  have h0 := h
  obtain ⟨h1, st, h3, h4, h5, e1, e2, e3, e4, e5, e6⟩ := h
  have cN := e6 n hn
  have qb := cN.2.2.2.2.2.1
  have ok' : bkOK (vB (wN w n)) := bkOK_congr ok (fun i hi => (vB_N (w := w) (n := n) i hi).symm)
  have rf := refresh_c (N := N) hN st (o54 (isO5 hn)) (by unfold nd; omega) qb.1 ok' qb.2.1 e4
  have st' := (kpc_X0_refresh st (o54 (isO5 hn)) (o85 (isO8 (g := g) (H := H))) (o89 (isO8 (g := g) (H := H))) rf.1).1
  refine ⟨rf.1, ?_⟩
  obtain ⟨f, b6, s5, rt, kl⟩ := rf.2
  generalize k_X0_refresh N g H T s (nd g n + 6) (g + 3) (g + 23) = z at st' f b6 s5 rt kl ⊢
  have nH : nd g n + 24 ≤ nd g H := by unfold nd; omega
  have lP : ∀ b, rfP g (nd g n + 6) b → b < nd g H := fun b hb => by
    unfold rfP isH at hb
    unfold nd at *
    omega
  have fx := f
  obtain ⟨f1, f2, f3, f4, f5, f6, f7, f8, f9⟩ := fx
  have ln : ∀ o, o ≤ 30 → (o < 3 ∨ (7 < o ∧ o < 23) ∨ 27 < o) → ¬ rfP g (nd g n + 6) (g + o) := fun o ho h2 hb => by
    unfold rfP isH nd at hb
    omega
  have I : ∀ k o, o ≤ 30 → (o < 3 ∨ (7 < o ∧ o < 23) ∨ 27 < o) → cI z k (g + o) = cI s k (g + o) := fun k o a1 a2 => f8 k _ (ln o a1 a2)
  have A : ∀ o, o ≤ 30 → (o < 3 ∨ (7 < o ∧ o < 23) ∨ 27 < o) → cA z (g + o) = cA s (g + o) := fun o a1 a2 => f9 _ (ln o a1 a2)
  have mo : ∀ m o, m < H → o < 24 → (m ≠ n ∨ (o ≠ 6 ∧ o ≠ 9)) → ¬ rfP g (nd g n + 6) (nd g m + o) := fun m o hm ho h2 hb => by
    unfold rfP isH nd at hb
    omega
  have sx : m6 g H n s z := f.six (fun m hm c => mo m 6 hm (by decide) (Or.inl c))
  have ff : ffr g H hd s z := cfr.ff h0 f lP
  refine ⟨⟨h1, st', by rw [f3]; exact h3, h4.cf f lP, h5.fr f1 f2 f3 f4 (fun _ _ => by rw [f6]), ?_, ?_, ?_, kl, ?_, fun m hm => ?_⟩, s5, sx, ff⟩
  · unfold kFx
    rw [I 0 8 (by decide) (by omega), I 1 8 (by decide) (by omega), I 2 8 (by decide) (by omega), I 3 8 (by decide) (by omega), I 1 9 (by decide) (by omega)]
    exact e1
  · unfold kSk cSkT
    rw [I _ 11 (by decide) (by omega), I _ 11 (by decide) (by omega), I _ 11 (by decide) (by omega), I _ 11 (by decide) (by omega), I _ 11 (by decide) (by omega), A 12 (by decide) (by omega), A 13 (by decide) (by omega), A 14 (by decide) (by omega), A 15 (by decide) (by omega), A 16 (by decide) (by omega), f6]
    exact e2
  · unfold kTp
    have e0 : cI z 3 g = cI s 3 g := I 3 0 (by decide) (by omega)
    rw [e0, A 1 (by decide) (by omega)]
    exact e3
  · intro n i n' i' r a1 a2 a3 a4 a5 a6
    rw [f6] at a5 a6
    exact e5 n i n' i' r a1 a2 a3 a4 a5 a6
  · have sec : ∀ r, nd g H ≤ r → cA z r = cA s r := fun r hr => f9 r (fun q => by have := lP r q; omega)
    by_cases c : m = n
    · rw [c]
      obtain ⟨c1, c2, c3, c4, c5, c6, ⟨y, c7, c7'⟩, c8, c9, c10, c11, c12, c13, c14⟩ := cN
      have J : ∀ k o, o < 24 → o ≠ 6 → o ≠ 9 → cI z k (nd g n + o) = cI s k (nd g n + o) := fun k o a1 a2 a3 => f8 k _ (mo n o hn a1 (Or.inr ⟨a2, a3⟩))
      have J0 : ∀ k, cI z k (nd g n) = cI s k (nd g n) := fun k => J k 0 (by decide) (by decide) (by decide)
      have B : ∀ o, o < 24 → o ≠ 6 → o ≠ 9 → cA z (nd g n + o) = cA s (nd g n + o) := fun o a1 a2 a3 => f9 _ (mo n o hn a1 (Or.inr ⟨a2, a3⟩))
      refine ⟨?_, by rw [B 12 (by decide) (by decide) (by decide)]; exact c2, ?_, fun i hi => ?_, by rw [B 5 (by decide) (by decide) (by decide)]; exact c5, ⟨b6, Or.inr ⟨s5, rt⟩, ?_⟩, ⟨y, ?_, c7'⟩, ?_, ?_, ?_, ?_, ?_, ?_, by rw [B 4 (by decide) (by decide) (by decide)]; exact c14⟩
      · unfold qN
        rw [J0, J0, J0, J0, J0, J0, J0, J0, J0, J0]
        exact c1
      · unfold qL
        rw [J 5 1 (by decide) (by decide) (by decide), J 6 1 (by decide) (by decide) (by decide), J 7 1 (by decide) (by decide) (by decide), J 8 1 (by decide) (by decide) (by decide), J 9 1 (by decide) (by decide) (by decide)]
        exact c3
      · obtain ⟨x1, x2, x3, x4⟩ := c4 i hi
        rw [B 3 (by decide) (by decide) (by decide), f6]
        refine ⟨x1, x2, x3, fun r hr => ?_⟩
        obtain ⟨y1, y2, y3, y4, y5, y6⟩ := x4 r hr
        exact ⟨y1, by rw [f3]; exact y2, by rw [f1]; exact y3, by rw [f2]; exact y4, by rw [f1]; exact y5, by rw [sec r y1]; exact y6⟩
      · obtain ⟨d, d1, d2, d3, d4⟩ := c6.2.2
        exact ⟨d, d1, d2, d3, by rw [B 11 (by decide) (by decide) (by decide)]; exact d4⟩
      · unfold qH
        rw [f6, B 16 (by decide) (by decide) (by decide), B 17 (by decide) (by decide) (by decide)]
        exact c7
      · unfold qD
        rw [f6, B 21 (by decide) (by decide) (by decide), J 11 14 (by decide) (by decide) (by decide)]
        exact c8
      · unfold qS_
        rw [f6, J 13 14 (by decide) (by decide) (by decide)]
        exact c9
      · unfold qP
        rw [f7, J 12 14 (by decide) (by decide) (by decide)]
        exact c10
      · unfold qK
        rw [f5]
        exact c11
      · unfold qA
        rw [f6]
        exact c12
      · rw [J 1 14 (by decide) (by decide) (by decide)]
        exact c13
    · refine (e6 m hm).fx ⟨by rw [f3]; exact Nat.le_refl _, fun a _ => ⟨by rw [f1], by rw [f2]⟩, fun k o a1 _ => f8 k _ (mo m o hm a1 (Or.inl c)), fun k _ => by rw [f5], fun o a1 _ => f9 _ (mo m o hm a1 (Or.inl c)), fun o _ _ => ⟨by rw [f7], by rw [f6]⟩, fun i r _ _ r1 _ _ _ => sec r r1⟩
end
end

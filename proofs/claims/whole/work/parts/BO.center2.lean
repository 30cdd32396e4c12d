section
/-! THE CLASS'S NODE ENTERS A HEIGHT -/
/-- a node's numbers when a height begins -/
def ltV (v0 : Nat → Int) (x2 : Nat) (k : Bk) : Nat → Int := fun j => if j = 1 then (x2 : Int) else if j = 2 ∨ j = 3 ∨ (6 ≤ j ∧ j ≤ 8) ∨ j = 15 ∨ j = 17 then 0 else if j = 4 ∨ j = 5 ∨ (9 ≤ j ∧ j ≤ 11) then -1 else if 32 ≤ j ∧ j < 80 then k (j - 32) else v0 j
section
variable {F N g H T n : Nat} {s s' : cS} {ct : Nat → List Nat} {hd : List Nat} {w w' : Wd} {pe pe' : Nat → Int} {v v' v0 : Nat → Int} {y z : Nat → Nat → Option (List Nat)} {p : List (List Nat)} {x : Nat → Nat → Nat} {pn : Int} {a x2 : Nat} {k : Bk}
theorem ltV_1 : ltV v0 x2 k 1 = x2 := if_pos rfl
theorem ltV_0 {j : Nat} (h : j = 2 ∨ j = 3 ∨ (6 ≤ j ∧ j ≤ 8) ∨ j = 15 ∨ j = 17) : ltV v0 x2 k j = 0 := by
  unfold ltV
  rw [if_neg (by omega), if_pos h]
theorem ltV_m {j : Nat} (h : j = 4 ∨ j = 5 ∨ (9 ≤ j ∧ j ≤ 11)) : ltV v0 x2 k j = -1 := by
  unfold ltV
  rw [if_neg (by omega), if_neg (by omega), if_pos h]
theorem ltV_o {j : Nat} (h : j = 0 ∨ j = 12 ∨ j = 13 ∨ j = 14 ∨ j = 16 ∨ (18 ≤ j ∧ j < 32) ∨ 80 ≤ j) : ltV v0 x2 k j = v0 j := by
  unfold ltV
  rw [if_neg (by omega), if_neg (by omega), if_neg (by omega), if_neg (by omega)]
theorem ltV_b {i : Nat} (h : i < 48) : vB (ltV v0 x2 k) i = k i := by
  unfold vB ltV
  rw [if_pos h, if_neg (by omega), if_neg (by omega), if_neg (by omega), if_pos (by omega), show 32 + i - 32 = i by omega]
theorem CRz.ent {pn' : Int} (h : CRz F g H T s ct hd w pe n v y p x pn z) (hn : n < H) (hf : cfr (fun b => b = nd g n ∨ b = nd g n + 1) s s') (st : St 0 g H T s') (j1 : cI s' 1 (nd g n) = cI s 1 (nd g n)) (j8 : cI s' 8 (nd g n) = cI s 8 (nd g n)) (j9 : cI s' 9 (nd g n) = nI x2) (j10 : cI s' 10 (nd g n) = nI 0) (j11 : cI s' 11 (nd g n) = nI 0) (j12 : cI s' 12 (nd g n) = cI s 12 (nd g n)) (j13 : cI s' 13 (nd g n) = cI s 13 (nd g n)) (j16 : cI s' 16 (nd g n) = nI 0) (j17 : cI s' 17 (nd g n) = nI 0) (j18 : cI s' 18 (nd g n) = iI pn') (l5 : cI s' 5 (nd g n + 1) = cI s 5 (nd g n + 1)) (l6 : cI s' 6 (nd g n + 1) = nI 0) (l7 : cI s' 7 (nd g n + 1) = cI s 7 (nd g n + 1)) (l8 : cI s' 8 (nd g n + 1) = cI s 8 (nd g n + 1)) (l9 : cI s' 9 (nd g n + 1) = cI s 9 (nd g n + 1)) (e0 : v 0 = v0 0) (e4 : v 4 = -1) (e5 : v 5 = -1) (eo : ∀ j, j = 12 ∨ j = 13 ∨ j = 14 ∨ j = 16 ∨ 80 ≤ j → v j = v0 j) (hT : ∀ t, t < 3 → cA s (nd g n + 12) t = nI 0) (hk : bkC s (nd g n + 6) k) (h5 : cI s 5 (nd g n + 6) = nI 1) (hV : ∀ i, i < 32 → cA s (nd g n + 16) i = nI 0) (h6 : ∀ i, y 6 i = none) (hA : ∀ j a, j < 4 → cP s (nd g n + 13) j = some a → (x2 : Int) = v 1 + 1 ∧ (v 1).toNat % 4 ≠ j) (hv1 : 1 ≤ v 1) : CRz F g H T s' ct hd w pe n (ltV v0 x2 k) y p x pn' z := by
  refine h.set hn (hf.mono (fun b q => by unfold ndP; omega)) st ?_
  obtain ⟨c1, c2, c3, c4, c5, c6, ⟨c7, c7b, c7c, c7d⟩, ⟨c8, c8b, c8c⟩, c9, c10, c11, c12, c13, c14⟩ := h.nz
  obtain ⟨f1, f2, f3, f4, f5, f6, f7, f8, f9⟩ := hf
  have I : ∀ q o, 2 ≤ o → cI s' q (nd g n + o) = cI s q (nd g n + o) := fun q o ho => f8 q _ (by omega)
  have A : ∀ o, 2 ≤ o → cA s' (nd g n + o) = cA s (nd g n + o) := fun o ho => f9 _ (by omega)
  have a7 : cA s' (nd g n + 6 + 1) = cA s (nd g n + 6 + 1) := A 7 (by decide)
  have a8 : cA s' (nd g n + 6 + 2) = cA s (nd g n + 6 + 2) := A 8 (by decide)
  have m4 : ltV v0 x2 k 4 = -1 := ltV_m (by omega)
  have m5 : ltV v0 x2 k 5 = -1 := ltV_m (by omega)
  refine ⟨⟨?_, ?_, ?_, ?_, ?_, ?_, ?_, ?_, ?_, j18⟩, fun t ht => ?_, ⟨?_, ?_, ?_, ?_, ?_⟩, fun i hi => ?_, fun h' h1 h2 => ?_, ⟨?_, ?_, ?_⟩, ⟨?_, ?_, fun i hi => ?_, fun q hq => ?_⟩, ⟨?_, fun k' m _ hm => ?_, ?_⟩, ?_, ?_, ?_, fun j a hj ha => ?_, ?_, ?_⟩
  · rw [j1]; exact c1.1
  · rw [j8, ltV_o (by omega), ← e0]; exact c1.2.1
  · rw [j9, ltV_1, iI_n]
  · rw [j10, ltV_0 (by omega)]; rfl
  · rw [j11, ltV_0 (by omega)]; rfl
  · rw [j12, m4, ← e4]; exact c1.2.2.2.2.2.1
  · rw [j13, m5, ← e5]; exact c1.2.2.2.2.2.2.1
  · rw [j16]
    unfold beN
    rw [ltV_0 (j := 6) (by omega), ltV_0 (j := 7) (by omega), ltV_0 (j := 8) (by omega)]
    rfl
  · rw [j17, ltV_0 (by omega)]; rfl
  · rw [A 12 (by decide), hT t ht, ltV_m (by omega)]; rfl
  · rw [l5, ltV_o (by omega), ← eo 16 (by omega)]; exact c3.1
  · rw [l6, ltV_0 (by omega)]; rfl
  · rw [l7, ltV_o (by omega), ← eo 13 (by omega)]; exact c3.2.2.1
  · rw [l8, ltV_o (by omega), ← eo 14 (by omega)]; exact c3.2.2.2.1
  · rw [l9, ltV_o (by omega), ← eo 12 (by omega)]; exact c3.2.2.2.2
  · obtain ⟨x1, x2', x3, x4⟩ := c4 i hi
    rw [A 3 (by decide), f6, ltV_o (by omega), ← eo (100 + i) (by omega)]
    refine ⟨x1, x2', x3, fun r hr => ?_⟩
    obtain ⟨y1, y2, y3, y4, y5, y6⟩ := x4 r hr
    refine ⟨y1, by rw [f3]; exact y2, by rw [f1]; exact y3, by rw [f2]; exact y4, by rw [f1]; exact y5, ?_⟩
    rw [f9 r (by unfold nd at *; omega)]
    exact y6
  · rw [A 5 (by decide)]
    refine ⟨(c5 h' h1 h2).1, fun y' e => ?_⟩
    rw [ltV_o (by omega), ltV_o (by omega), ← eo _ (by omega), ← eo _ (by omega)]
    exact (c5 h' h1 h2).2 y' e
  · have q : bkC s' (nd g n + 6) k := by
      unfold bkC
      rw [a7, a8, I 2 6 (by decide)]
      exact hk
    exact bkC_cg q (fun i hi => (ltV_b hi).symm)
  · exact Or.inl (by rw [I 5 6 (by decide)]; exact h5)
  · obtain ⟨d, d1, d2, d3, d4⟩ := c6.2.2
    exact ⟨d, d1, d2, d3, by rw [A 11 (by decide)]; exact d4⟩
  · rw [f6]; exact c7
  · rw [f6]; exact c7b
  · rw [A 16 (by decide)]
    exact Or.inl (hV i hi)
  · rw [A 17 (by decide)]
    exact c7d q hq
  · rw [f6]; exact c8
  · rw [h6] at hm
    cases hm
  · rw [I 11 14 (by decide)]; exact c8c
  · unfold qS_
    rw [f6, I 13 14 (by decide)]
    exact c9
  · unfold qP
    rw [I 12 14 (by decide), f7]
    exact c10
  · unfold qK
    rw [f5]
    exact c11
  · rw [f6] at ha
    obtain ⟨h', x', q1, q2, q3, q4, q5, q6⟩ := c12 j a hj ha
    obtain ⟨r1, r2⟩ := hA j a hj ha
    rw [ltV_1]
    exact ⟨h', x', q1, q2, by omega, by omega, q5, q6⟩
  · rw [I 1 14 (by decide)]; exact c13
  · rw [A 4 (by decide)]; exact c14
end
end

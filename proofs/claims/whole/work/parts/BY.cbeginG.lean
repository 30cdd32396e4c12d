section
/-! A ROUND BEGINS, by what always holds -/
section
variable {F N g H T n : Nat} {s s1 s' : cS} {ct : Nat → List Nat} {hd : List Nat} {w w' W : Wd} {pe pe' : Nat → Int} {a r : Nat} {G : Gh}
theorem GN.pro (k : GN F H T G W n) (c : cst F H T) (hn : n < H) (hu : wN W n 0 = 1) (h3 : wN W n 3 = 0) (h15 : 0 ≤ wN W n 15 ∧ wN W n 15 ≤ 99) : prO F H T W n := by
  have cb := c.bb
  obtain ⟨a0, a1, a2, a3, a4, a5, a6, a7, a8, a9, a10, a11, a12, a13, a14⟩ := k.a
  refine ⟨hu, a1, a2, h3, ⟨a5.1, by omega⟩, h15, a9, a12, k.ow hn (by omega) (by omega) hu, fun e => ?_, fun b e => ?_⟩
  · obtain ⟨g1, g2⟩ := k.bld c hn
    refine ⟨k.b.1, fun j m hj hm => ?_, fun q hq => ?_, g1.1, g2, by have := g1.2.2; omega⟩
    · obtain ⟨e1, e2, e3, e4, e5, e6⟩ := k.e j m hj hm
      have := evSz_le m 1
      exact ⟨by omega, e4⟩
    · obtain ⟨p1, p2, p3⟩ := k.p q hq
      exact ⟨p1, p2, p3.2.1, p3.2.2.1⟩
  · have l := k.l
    have v0 : 0 ≤ wN W n 5 := by
      by_cases q : wN W n 5 = -1
      · rw [l.2.2.1 q] at e
        cases e
      · omega
    obtain ⟨b', b1, b2, -⟩ := l.2.2.2 v0
    rw [e] at b1
    rw [Option.some.inj b1]
    exact ⟨b2.1, b2.2.1.2.2, by have := b2.2.2; omega⟩
theorem begin_G (hN : 2100 ≤ N) (h : CR F g H T s ct hd w pe) (hn : n < H) (hl : hd.length ≤ 25) (gi : GI F H T G w) (gk : giK (wN w n)) (hu : wN w n 0 = 1) (hr : r < 16) (hp : pe n = (r : Int)) (hf : cI s 5 (nd g n + 6) = nI 0) (h1 : wN w n 2 < r ∨ (wN w n 2 ≤ r ∧ wN w n 17 = 0)) (h4 : wN w n 4 < r) (h5 : wN w n 5 < r) : wp (p_X7_begin N g H T s (some (nd g n))) (k_X7_begin N g H T s (some (nd g n))) (reC F g H T ct hd (aBegin w n T r) (fun m => if m = n then -1 else pe m)) := by
  have k := gi.2.1 n hn
  have o := k.ok h.1 gk
  have u := k.uo h.1 gk hn hu
  have n99 := o.n99
  refine begin_C hN h hn hl hu o.h ⟨n99.1, by omega⟩ o.c hr hp hf u.2.2.2.2.2.2 (fun j1 => ?_)
  obtain ⟨b1, b2, b3, b4, b5, b6, b7, b8⟩ := aOwn_w j1
  have g1 := gi.own hn j1
  have g2 := g1.new (r := r) hn hr (by rw [b2 2 (by omega), b2 17 (by omega)]; exact h1) (by rw [b2 4 (by omega)]; exact h4) (by rw [b2 5 (by omega)]; exact h5)
  have e0 : wN (aNew (aOwn w n (ownT w n 2 [r])).2 n r) n 0 = 1 := by
    rw [aNew_N _ _ _ (by omega), b2 0 (by omega)]
    exact hu
  have e15 : wN (aNew (aOwn w n (ownT w n 2 [r])).2 n r) n 15 = wN w n 15 + 1 := by
    rw [aNew_N _ _ _ (by omega), b3]
  have e3 : wN (aNew (aOwn w n (ownT w n 2 [r])).2 n r) n 3 = 0 := by
    show (if n = n then (if 3 = 2 then (r : Int) else if 3 = 3 then 0 else _) else _) = 0
    rw [if_pos rfl, if_neg (by decide), if_pos rfl]
  exact (g2.2.1 n hn).pro gi.1 hn e0 e3 (by rw [e15]; omega)
end
end

section
/-! THE CLASS'S NODE BETWEEN TWO HEIGHTS -/
theorem iI_w (x : Int) : iI (x + 4294967296) = iI x := by
  rw [← iI_add, show iI 4294967296 = 0 from rfl, Int32.add_zero]
/-- a node's numbers with accounts that are between two heights -/
def mkV (v : Nat → Int) (k : Bk) : Nat → Int := fun j => if j = 32 then k 0 + 4294967296 else if 33 ≤ j ∧ j < 80 then k (j - 32) else v j
theorem mkV_o {v : Nat → Int} {k : Bk} {j : Nat} (h : j < 32 ∨ 80 ≤ j) : mkV v k j = v j := by
  unfold mkV
  rw [if_neg (by omega), if_neg (by omega)]
theorem mkV_f {v : Nat → Int} {k : Bk} (h : 0 ≤ k 0) : 1000000 < mkV v k 32 := by
  unfold mkV
  rw [if_pos rfl]
  omega
theorem mkV_i {v : Nat → Int} {k : Bk} {i : Nat} (h : i < 48) : iI (vB (mkV v k) i) = iI (k i) := by
  unfold vB mkV
  rw [if_pos h]
  by_cases c : i = 0
  · rw [if_pos (by omega), c, iI_w]
  · rw [if_neg (by omega), if_pos (by omega), show 32 + i - 32 = i by omega]
theorem mkV_32 {v : Nat → Int} {k : Bk} {a : Nat} (h : a < 16) : vB (mkV v k) (32 + a) = k (32 + a) := by
  unfold vB mkV
  rw [if_pos (by omega), if_neg (by omega), if_pos (by omega), show 32 + (32 + a) - 32 = 32 + a by omega]
theorem finB_cg {k k' : Bk} (h : ∀ a, a < 16 → k (32 + a) = k' (32 + a)) : finB k = finB k' := by
  exact sm_eq (fun a ha => by rw [h a ha])
section
variable {F N g H T n : Nat} {s s' : cS} {ct : Nat → List Nat} {hd : List Nat} {w w' : Wd} {pe pe' : Nat → Int} {v v' : Nat → Int} {y z : Nat → Nat → Option (List Nat)} {p : List (List Nat)} {x : Nat → Nat → Nat} {pn : Int} {a : Nat}
theorem bkC_mk {o : Nat} {k : Bk} (h : bkC s o k) : bkC s o (vB (mkV v k)) := by
  refine ⟨fun a ha => ?_, ?_⟩
  · rw [mkV_i (by omega), mkV_i (by omega)]
    exact h.1 a ha
  · rw [finB_cg (k' := k) (fun a ha => mkV_32 ha)]
    exact h.2
def idY (y : Nat → Nat → Option (List Nat)) (d : List Nat) : Nat → Nat → Option (List Nat) := fun f i => if f = 9 then some d else y f i
/-- the accounts and the last id are written -/
theorem CRz.bd {k : Bk} {d : List Nat} (h : CRz F g H T s ct hd w pe n v y p x pn z) (hn : n < H) (hf : cfr (fun b => b = nd g n + 6 ∨ b = nd g n + 6 + 1 ∨ b = nd g n + 6 + 2 ∨ b = nd g n + 11) s s') (st : St 0 g H T s') (h5 : cI s' 5 (nd g n + 6) = nI 1) (hk : bkC s' (nd g n + 6) k) (h0 : 0 ≤ k 0) (hl : d.length = 32) (hB : isB d) (hr : ∀ i, i < 32 → cA s' (nd g n + 11) i = sb (bg d i)) : CRz F g H T s' ct hd w pe n (mkV v k) (idY y d) p x pn z := by
  refine h.set hn (hf.mono (fun b q => by unfold ndP; omega)) st ?_
  obtain ⟨c1, c2, c3, c4, c5, c6, ⟨c7, c7b, c7c, c7d⟩, ⟨c8, c8b, c8c⟩, c9, c10, c11, c12, c13, c14⟩ := h.nz
  obtain ⟨f1, f2, f3, f4, f5, f6, f7, f8, f9⟩ := hf
  have I : ∀ q o, o < 6 ∨ (8 < o ∧ o ≠ 11) → cI s' q (nd g n + o) = cI s q (nd g n + o) := fun q o ho => f8 q _ (by omega)
  have I0 : ∀ q, cI s' q (nd g n) = cI s q (nd g n) := fun q => f8 q _ (by omega)
  have A : ∀ o, o < 6 ∨ (8 < o ∧ o ≠ 11) → cA s' (nd g n + o) = cA s (nd g n + o) := fun o ho => f9 _ (by omega)
  have V : ∀ j, j < 32 ∨ 80 ≤ j → mkV v k j = v j := fun j hj => mkV_o hj
  have Y : ∀ q, q ≠ 9 → idY y d q = y q := fun q hq => funext fun i => if_neg hq
  refine ⟨?_, ?_, ?_, fun i hi => ?_, ?_, ⟨bkC_mk hk, Or.inl h5, d, if_pos rfl, hl, hB, hr⟩, ⟨?_, ?_, fun i hi => ?_, fun q hq => ?_⟩, ⟨?_, fun k' m hk' hm => Or.inl (mkV_f h0), ?_⟩, ?_, ?_, ?_, ?_, ?_, ?_⟩
  · unfold qN beN
    rw [I0, I0, I0, I0, I0, I0, I0, I0, I0, I0, V 0 (by omega), V 1 (by omega), V 2 (by omega), V 3 (by omega), V 4 (by omega), V 5 (by omega), V 6 (by omega), V 7 (by omega), V 8 (by omega), V 17 (by omega)]
    exact c1
  · intro t ht
    rw [A 12 (by omega), V _ (by omega)]
    exact c2 t ht
  · unfold qL
    rw [I 5 1 (by omega), I 6 1 (by omega), I 7 1 (by omega), I 8 1 (by omega), I 9 1 (by omega), V 16 (by omega), V 15 (by omega), V 13 (by omega), V 14 (by omega), V 12 (by omega)]
    exact c3
  · obtain ⟨x1, x2, x3, x4⟩ := c4 i hi
    rw [A 3 (by omega), f6, V _ (by omega)]
    refine ⟨x1, x2, x3, fun r hr => ?_⟩
    obtain ⟨y1, y2, y3, y4, y5, y6⟩ := x4 r hr
    refine ⟨y1, by rw [f3]; exact y2, by rw [f1]; exact y3, by rw [f2]; exact y4, by rw [f1]; exact y5, ?_⟩
    rw [f9 r (by unfold nd at *; omega)]
    exact y6
  · rw [Y 7 (by decide)]
    intro h' h1 h2
    rw [A 5 (by omega)]
    refine ⟨(c5 h' h1 h2).1, fun y' e => ?_⟩
    rw [V _ (by omega), V _ (by omega)]
    exact (c5 h' h1 h2).2 y' e
  · rw [f6]
    exact c7
  · rw [f6]
    exact c7b
  · rw [A 16 (by omega), V 1 (by omega)]
    rcases c7c i hi with q | ⟨m, q1, q2, -⟩
    · exact Or.inl q
    · exact Or.inr ⟨m, q1, q2, Or.inl (mkV_f h0)⟩
  · rw [A 17 (by omega)]
    exact c7d q hq
  · rw [f6, Y 6 (by decide)]
    exact c8
  · rw [I 11 14 (by omega), Y 6 (by decide)]
    exact c8c
  · unfold qS_
    rw [f6, I 13 14 (by omega), Y 3 (by decide), Y 2 (by decide)]
    exact c9
  · unfold qP
    rw [I 12 14 (by omega), f7]
    exact c10
  · unfold qK
    rw [f5, Y 0 (by decide), Y 1 (by decide)]
    exact c11
  · unfold qA
    rw [f6, V 1 (by omega), Y 7 (by decide)]
    exact c12
  · rw [I 1 14 (by omega)]
    exact c13
  · rw [A 4 (by omega)]
    exact c14
end
end

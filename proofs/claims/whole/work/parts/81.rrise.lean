section
/-! THE REFERENCE RISES TO A HEIGHT -/
/-- all that a state tells of a world, but its books -/
def rR0 (F H T : Nat) (S : rS) (w : Wd) : Prop := rCo F H T S w ∧ rSk S (wK w) ∧ jN H S (wN w) ∧ jW H S (wN w) ∧ jX H S (wX w) ∧ jL H S (wY w) ∧ jH H S (wY w) ∧ jV H S (wY w) ∧ jD H S (wY w) ∧ jC H S (wY w) ∧ jG H S (wN w) (wY w) ∧ jP H S (wP w) ∧ jE H S (wY w) ∧ jS H S (wY w)
theorem rRp.r0 {F H T : Nat} {S : rS} {w : Wd} (h : rRp F H T S w) : rR0 F H T S w := ⟨h.co, h.sk, h.n, h.wh, h.x, h.l, h.hd, h.v, h.d, h.c, h.g, h.p, h.e, h.s⟩
/-- a node stands at a height -/
def aLift (w : Wd) (n x2 : Nat) (d : List Nat) (k : Bk) : Wd := (fun n' j => if n' = n then (if j = 1 then (x2 : Int) else if j = 2 ∨ j = 3 ∨ (6 ≤ j ∧ j ≤ 8) ∨ j = 15 ∨ j = 17 then 0 else if j = 4 ∨ j = 5 ∨ (9 ≤ j ∧ j ≤ 11) then -1 else if 32 ≤ j ∧ j < 80 then k (j - 32) else w.1 n' j) else w.1 n' j, fun n' f i => if n' = n then (if f = 0 ∨ f = 1 ∨ f = 6 then none else if f = 4 ∧ (i / 16 = (wN w n 1).toNat % 2 ∨ (wN w n 1).toNat + 1 < x2) then none else if f = 5 ∧ (i % 416 / 208 = (wN w n 1).toNat % 2 ∨ (wN w n 1).toNat + 1 < x2) then none else if f = 9 then some d else w.2.1 n' f i) else w.2.1 n' f i, w.2.2)
section
variable {N n F H T : Nat} {S : rS} {w : Wd} {x2 : Nat} {d : List Nat} {k : Bk}
theorem aLift_N {m j : Nat} (h : m ≠ n ∨ j = 0 ∨ j = 12 ∨ j = 13 ∨ j = 14 ∨ j = 16 ∨ (18 ≤ j ∧ j < 32) ∨ 80 ≤ j) : wN (aLift w n x2 d k) m j = wN w m j := by
  show (if m = n then (if j = 1 then (x2 : Int) else if j = 2 ∨ j = 3 ∨ (6 ≤ j ∧ j ≤ 8) ∨ j = 15 ∨ j = 17 then 0 else if j = 4 ∨ j = 5 ∨ (9 ≤ j ∧ j ≤ 11) then -1 else if 32 ≤ j ∧ j < 80 then k (j - 32) else w.1 m j) else w.1 m j) = w.1 m j
  by_cases c : m = n
  · rw [if_pos c, if_neg (by omega), if_neg (by omega), if_neg (by omega), if_neg (by omega)]
  · rw [if_neg c]
theorem aLift_1 : wN (aLift w n x2 d k) n 1 = x2 := by
  show (if n = n then _ else _) = _
  rw [if_pos rfl, if_pos rfl]
theorem aLift_0 {j : Nat} (h : j = 2 ∨ j = 3 ∨ (6 ≤ j ∧ j ≤ 8) ∨ j = 15 ∨ j = 17) : wN (aLift w n x2 d k) n j = 0 := by
  show (if n = n then (if j = 1 then (x2 : Int) else if j = 2 ∨ j = 3 ∨ (6 ≤ j ∧ j ≤ 8) ∨ j = 15 ∨ j = 17 then 0 else _) else _) = _
  rw [if_pos rfl, if_neg (by omega), if_pos h]
theorem aLift_m {j : Nat} (h : j = 4 ∨ j = 5 ∨ (9 ≤ j ∧ j ≤ 11)) : wN (aLift w n x2 d k) n j = -1 := by
  show (if n = n then (if j = 1 then (x2 : Int) else if j = 2 ∨ j = 3 ∨ (6 ≤ j ∧ j ≤ 8) ∨ j = 15 ∨ j = 17 then 0 else if j = 4 ∨ j = 5 ∨ (9 ≤ j ∧ j ≤ 11) then -1 else _) else _) = _
  rw [if_pos rfl, if_neg (by omega), if_neg (by omega), if_pos h]
theorem aLift_Y {m f i : Nat} (h : m ≠ n ∨ f = 2 ∨ f = 3 ∨ f = 7 ∨ f = 8) : wY (aLift w n x2 d k) m f i = wY w m f i := by
  show (if m = n then (if f = 0 ∨ f = 1 ∨ f = 6 then none else if f = 4 ∧ (i / 16 = (wN w n 1).toNat % 2 ∨ (wN w n 1).toNat + 1 < x2) then none else if f = 5 ∧ (i % 416 / 208 = (wN w n 1).toNat % 2 ∨ (wN w n 1).toNat + 1 < x2) then none else if f = 9 then some d else w.2.1 m f i) else w.2.1 m f i) = w.2.1 m f i
  by_cases c : m = n
  · rw [if_pos c, if_neg (by omega), if_neg (by omega), if_neg (by omega), if_neg (by omega)]
  · rw [if_neg c]
theorem aLift_Z {f i : Nat} (h : f = 0 ∨ f = 1 ∨ f = 6) : wY (aLift w n x2 d k) n f i = none := by
  show (if n = n then (if f = 0 ∨ f = 1 ∨ f = 6 then none else _) else _) = none
  rw [if_pos rfl, if_pos h]
theorem aLift_4 {i : Nat} : wY (aLift w n x2 d k) n 4 i = if i / 16 = (wN w n 1).toNat % 2 ∨ (wN w n 1).toNat + 1 < x2 then none else wY w n 4 i := by
  show (if n = n then (if 4 = 0 ∨ 4 = 1 ∨ 4 = 6 then none else if 4 = 4 ∧ (i / 16 = (wN w n 1).toNat % 2 ∨ (wN w n 1).toNat + 1 < x2) then none else if 4 = 5 ∧ (i % 416 / 208 = (wN w n 1).toNat % 2 ∨ (wN w n 1).toNat + 1 < x2) then none else if 4 = 9 then some d else w.2.1 n 4 i) else w.2.1 n 4 i) = _
  rw [if_pos rfl, if_neg (by omega)]
  by_cases c : i / 16 = (wN w n 1).toNat % 2 ∨ (wN w n 1).toNat + 1 < x2
  · rw [if_pos ⟨rfl, c⟩, if_pos c]
  · rw [if_neg (fun z => c z.2), if_neg c, if_neg (by omega), if_neg (by omega)]
    rfl
theorem aLift_5 {i : Nat} : wY (aLift w n x2 d k) n 5 i = if i % 416 / 208 = (wN w n 1).toNat % 2 ∨ (wN w n 1).toNat + 1 < x2 then none else wY w n 5 i := by
  show (if n = n then (if 5 = 0 ∨ 5 = 1 ∨ 5 = 6 then none else if 5 = 4 ∧ (i / 16 = (wN w n 1).toNat % 2 ∨ (wN w n 1).toNat + 1 < x2) then none else if 5 = 5 ∧ (i % 416 / 208 = (wN w n 1).toNat % 2 ∨ (wN w n 1).toNat + 1 < x2) then none else if 5 = 9 then some d else w.2.1 n 5 i) else w.2.1 n 5 i) = _
  rw [if_pos rfl, if_neg (by omega), if_neg (by omega)]
  by_cases c : i % 416 / 208 = (wN w n 1).toNat % 2 ∨ (wN w n 1).toNat + 1 < x2
  · rw [if_pos ⟨rfl, c⟩, if_pos c]
  · rw [if_neg (fun z => c z.2), if_neg c, if_neg (by omega)]
    rfl
def liL : List Nat := [14, 44, 45, 46, 47, 48, 49, 50, 51, 52, 60, 65, 78]
/-- the rows after a rise -/
theorem lift_ok {h : Nat} {S9 : rS} (h0 : rR0 F H T S w) (hn : n < H) (hh : (wN w n 1).toNat = h) (hk : jK T H S (wN (aLift w n x2 d k)) (wY (aLift w n x2 d k))) (f : rfr liL S S9) (r44 : S9.2.1 44 = upd (S.2.1 44) n (nI x2)) (r45 : S9.2.1 45 = upd (S.2.1 45) n (nI 0)) (r46 : S9.2.1 46 = upd (S.2.1 46) n (nI 0)) (r47 : S9.2.1 47 = upd (S.2.1 47) n (-1)) (r48 : S9.2.1 48 = upd (S.2.1 48) n (-1)) (r49 : S9.2.1 49 = upd (S.2.1 49) n (nI 0)) (r50 : S9.2.1 50 = upd (S.2.1 50) n (nI 0)) (r51 : S9.2.1 51 = upd (S.2.1 51) n (nI 0)) (r52 : ∀ x, S9.2.1 52 x = if 3 * n ≤ x ∧ x < 3 * n + 3 then -1 else S.2.1 52 x) (r65 : S9.2.1 65 = upd (S.2.1 65) n (nI 0)) (r78 : S9.2.1 78 = upd (S.2.1 78) n (nI 0)) (r14 : ∀ x, (inHd n (h % 2) x ∨ (h + 1 < x2 ∧ inHd n ((h + 1) % 2) x) ∨ (416 + 13 * n ≤ x ∧ x < 416 + 13 * n + 13) ∨ x = 1118 + n ∨ x = 1131 + n → S9.2.1 14 x = nI 0) ∧ (¬ (inHd n (h % 2) x ∨ (h + 1 < x2 ∧ inHd n ((h + 1) % 2) x) ∨ (416 + 13 * n ≤ x ∧ x < 416 + 13 * n + 13) ∨ x = 1118 + n ∨ x = 1131 + n) → S9.2.1 14 x = S.2.1 14 x)) (r60 : ∀ x, (inVt n (h % 2) x ∨ (h + 1 < x2 ∧ inVt n ((h + 1) % 2) x) → S9.2.1 60 x = nI 0) ∧ (¬ (inVt n (h % 2) x ∨ (h + 1 < x2 ∧ inVt n ((h + 1) % 2) x)) → S9.2.1 60 x = S.2.1 60 x)) : rRp F H T S9 (aLift w n x2 d k) := by
  obtain ⟨c1, c2, c3, c4, c5, c6, c7, c8, c9, c10, c11, c12, c13, c14⟩ := h0
  have cb := c1.1.b
  have p2 : h % 2 < 2 := Nat.mod_lt _ (by decide)
  have p3 : (h + 1) % 2 = 1 - h % 2 := by omega
  have l12 : S9.2.2 12 = S.2.2 12 := f.l 12 (by decide)
  have l13 : S9.2.2 13 = S.2.2 13 := f.l 13 (by decide)
  refine ⟨c1.fr f (by decide), c2.fr f (by decide), fun m j hm hj => ?_, (c4.fr f (by decide)).cg (fun m j hm a b => aLift_N (by omega)), c5.fr f (by decide), fun m hm => ⟨?_, ?_⟩, fun m q hm hq => ?_, fun m q hm hq => ?_, fun m s hm hs => ?_, fun m s hm hs => ?_, fun m i hm hi => ?_, c12.fr f (by decide) (by decide), (c13.fr f (by decide) (by decide)).cg (fun m q hm hq => aLift_Y (by omega)), (c14.fr f (by decide) (by decide)).cg (fun m q hm hq => aLift_Y (by omega)), hk.fr f (by decide)⟩
  · have old := c3 m j hm hj
    by_cases em : m = n
    · subst em
      rcases (show j = 0 ∨ j = 1 ∨ j = 2 ∨ j = 3 ∨ j = 4 ∨ j = 5 ∨ j = 6 ∨ j = 7 ∨ j = 8 ∨ j = 9 ∨ j = 10 ∨ j = 11 ∨ j = 12 ∨ j = 13 ∨ j = 14 ∨ j = 15 ∨ j = 16 ∨ j = 17 by omega) with rfl | rfl | rfl | rfl | rfl | rfl | rfl | rfl | rfl | rfl | rfl | rfl | rfl | rfl | rfl | rfl | rfl | rfl
      · rw [aLift_N (by omega), f.a _ (by decide)]; exact old
      · rw [aLift_1, iI_n]
        show S9.2.1 44 m = _
        rw [r44, upd_same]
      · rw [aLift_0 (by omega)]
        show S9.2.1 45 m = _
        rw [r45, upd_same]; rfl
      · rw [aLift_0 (by omega)]
        show S9.2.1 46 m = _
        rw [r46, upd_same]; rfl
      · rw [aLift_m (by omega)]
        show S9.2.1 47 m = _
        rw [r47, upd_same]; rfl
      · rw [aLift_m (by omega)]
        show S9.2.1 48 m = _
        rw [r48, upd_same]; rfl
      · rw [aLift_0 (by omega)]
        show S9.2.1 49 m = _
        rw [r49, upd_same]; rfl
      · rw [aLift_0 (by omega)]
        show S9.2.1 50 m = _
        rw [r50, upd_same]; rfl
      · rw [aLift_0 (by omega)]
        show S9.2.1 51 m = _
        rw [r51, upd_same]; rfl
      · rw [aLift_m (by omega)]
        show S9.2.1 52 (3 * m + 0) = _
        rw [r52, if_pos (by omega)]; rfl
      · rw [aLift_m (by omega)]
        show S9.2.1 52 (3 * m + 1) = _
        rw [r52, if_pos (by omega)]; rfl
      · rw [aLift_m (by omega)]
        show S9.2.1 52 (3 * m + 2) = _
        rw [r52, if_pos (by omega)]; rfl
      · rw [aLift_N (by omega), f.a _ (by decide)]; exact old
      · rw [aLift_N (by omega), f.a _ (by decide)]; exact old
      · rw [aLift_N (by omega), f.a _ (by decide)]; exact old
      · rw [aLift_0 (by omega)]
        show S9.2.1 78 m = _
        rw [r78, upd_same]; rfl
      · rw [aLift_N (by omega), f.a _ (by decide)]; exact old
      · rw [aLift_0 (by omega)]
        show S9.2.1 65 m = _
        rw [r65, upd_same]; rfl
    · rw [aLift_N (Or.inl em)]
      rcases (show j = 0 ∨ j = 1 ∨ j = 2 ∨ j = 3 ∨ j = 4 ∨ j = 5 ∨ j = 6 ∨ j = 7 ∨ j = 8 ∨ j = 9 ∨ j = 10 ∨ j = 11 ∨ j = 12 ∨ j = 13 ∨ j = 14 ∨ j = 15 ∨ j = 16 ∨ j = 17 by omega) with rfl | rfl | rfl | rfl | rfl | rfl | rfl | rfl | rfl | rfl | rfl | rfl | rfl | rfl | rfl | rfl | rfl | rfl
      · rw [f.a _ (by decide)]; exact old
      · show S9.2.1 44 m = _
        rw [r44, upd_other _ _ em]; exact old
      · show S9.2.1 45 m = _
        rw [r45, upd_other _ _ em]; exact old
      · show S9.2.1 46 m = _
        rw [r46, upd_other _ _ em]; exact old
      · show S9.2.1 47 m = _
        rw [r47, upd_other _ _ em]; exact old
      · show S9.2.1 48 m = _
        rw [r48, upd_other _ _ em]; exact old
      · show S9.2.1 49 m = _
        rw [r49, upd_other _ _ em]; exact old
      · show S9.2.1 50 m = _
        rw [r50, upd_other _ _ em]; exact old
      · show S9.2.1 51 m = _
        rw [r51, upd_other _ _ em]; exact old
      · show S9.2.1 52 (3 * m + 0) = _
        rw [r52, if_neg (by omega)]; exact old
      · show S9.2.1 52 (3 * m + 1) = _
        rw [r52, if_neg (by omega)]; exact old
      · show S9.2.1 52 (3 * m + 2) = _
        rw [r52, if_neg (by omega)]; exact old
      · rw [f.a _ (by decide)]; exact old
      · rw [f.a _ (by decide)]; exact old
      · rw [f.a _ (by decide)]; exact old
      · show S9.2.1 78 m = _
        rw [r78, upd_other _ _ em]; exact old
      · rw [f.a _ (by decide)]; exact old
      · show S9.2.1 65 m = _
        rw [r65, upd_other _ _ em]; exact old
  · by_cases e : m = n
    · rw [e, aLift_Z (by omega)]
      exact (r14 _).1 (by omega)
    · rw [aLift_Y (Or.inl e)]
      exact (c6 m hm).1.z ((r14 _).2 (by unfold inHd; omega)) l12 l13
  · by_cases e : m = n
    · rw [e, aLift_Z (by omega)]
      exact (r14 _).1 (by omega)
    · rw [aLift_Y (Or.inl e)]
      exact (c6 m hm).2.z ((r14 _).2 (by unfold inHd; omega)) l12 l13
  · have old := c7 m q hm hq
    by_cases e : m = n
    · rw [e, aLift_4, hh]
      by_cases c : q / 16 = h % 2 ∨ h + 1 < x2
      · rw [if_pos c]
        exact ⟨(r14 _).1 (by unfold inHd; omega), fun _ z => by cases z⟩
      · rw [if_neg c]
        rw [e] at old
        refine ⟨old.1.z ((r14 _).2 (by unfold inHd; omega)) l12 l13, ?_⟩
        rw [f.a 59 (by decide)]
        exact old.2
    · rw [aLift_Y (Or.inl e)]
      refine ⟨old.1.z ((r14 _).2 (by unfold inHd; omega)) l12 l13, ?_⟩
      rw [f.a 59 (by decide)]
      exact old.2
  · have old := c8 m q hm hq
    have keep : S9.2.1 60 (vix m q) = S.2.1 60 (vix m q) → vR S9 (vix m q) (wY w m 5 q) := fun e60 => by
      unfold vR at old ⊢
      rw [e60, f.l 61 (by decide), f.l 62 (by decide), f.l 63 (by decide), f.l 64 (by decide)]
      exact old
    by_cases e : m = n
    · subst e
      rw [aLift_5, hh]
      by_cases c : q % 416 / 208 = h % 2 ∨ h + 1 < x2
      · rw [if_pos c]
        refine (r60 _).1 ?_
        unfold inVt vix
        split <;> omega
      · rw [if_neg c]
        refine keep ((r60 _).2 ?_)
        unfold inVt vix
        split <;> omega
    · rw [aLift_Y (Or.inl e)]
      refine keep ((r60 _).2 ?_)
      unfold inVt vix
      split <;> omega
  · by_cases e : m = n
    · rw [e, aLift_Z (by omega)]
      exact (r14 _).1 (by omega)
    · rw [aLift_Y (Or.inl e)]
      exact (c9 m s hm hs).z ((r14 _).2 (by unfold inHd; omega)) l12 l13
  · rw [aLift_Y (by omega)]
    exact (c10 m s hm hs).z ((r14 _).2 (by unfold inHd; omega)) l12 l13
  · by_cases e : m = n
    · rw [e, aLift_0 (by omega)] at hi
      omega
    · rw [aLift_N (Or.inl e)] at hi
      obtain ⟨a, y, a1, a2, a3, a4, a5, a6⟩ := c11 m i hm hi
      rw [f.a 66 (by decide), f.a 67 (by decide), f.a 68 (by decide), f.a 69 (by decide), f.l 70 (by decide)]
      refine ⟨a, y, by rw [aLift_Y (Or.inl e)]; exact a1, a2, a3, a4, fun z => ?_, a6⟩
      obtain ⟨b1, b2, b3⟩ := a5 z
      have : oR S (1144 + 16 * m + bg y 4) (some (y.drop 6)) := ⟨b2, b3⟩
      exact ⟨b1, (this.z ((r14 _).2 (by unfold inHd; omega)) l12 l13).1, b3⟩
end
end

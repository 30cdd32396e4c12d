section
/-! WHAT HOLDS BETWEEN CALLS IS KEPT BY ALL OF THEM -/
section
variable {N n F H T : Nat} {S : rS} {w : Wd}
theorem AI.sky {k : Sk} (h : AI F H T w) (hs : ∀ G, GI F H T G w → ∀ x ∈ k.1, x ∈ (wK w).1 ∨ (skX H T G x ∧ x.1 < T ∧ x.2.1 < T ∧ x.2.2.1 ≤ wT w)) : AI F H T (sK w k) := by
  obtain ⟨⟨⟨G, g⟩, gk⟩, s, t⟩ := h
  refine ⟨⟨⟨G, g.1, g.2.1, fun x hx => ?_⟩, gk⟩, fun x hx => ?_, t⟩
  · rcases hs G g x hx with a | a
    · exact g.2.2 x a
    · exact a.1
  · rcases hs G g x hx with a | a
    · exact s x a
    · exact a.2
theorem pst_in {k : Sk} {x y : Fl} (h : y ∈ (pst k x).1) : y ∈ k.1 ∨ y = x := by
  unfold pst at h
  split at h
  · have h : y ∈ k.1 ++ [x] := h
    rw [List.mem_append, List.mem_singleton] at h
    exact h
  · exact Or.inl h
theorem AI.tape {l : List Nat} (h : AI F H T w) : AI F H T (sL w l) := h
theorem AI.pass {a b k : Nat} (h : AI F H T w) (ha : H ≤ a) (ha2 : a < T) (hb : b < T) (hk : k < (wK w).1.length) : AI F H T (aPost w a b (fg (wK w).1 k).2.2.2) := by
  refine h.sky (fun G g x hx => ?_)
  rcases pst_in hx with e | e
  · exact Or.inl e
  · rw [e]
    refine Or.inr ⟨fun z => ⟨(g.2.2 _ (fg_in hk) z).1, fun _ y => ?_⟩, ha2, hb, Nat.le_refl _⟩
    have y : a < H := y
    omega
theorem AI.lie {a b n : Nat} (h : AI F H T w) (ha : H ≤ a) (ha2 : a < T) (hb : b < T) (no : ¬ (wf T ((wL w).take n) ∧ tlH H ((wL w).take n))) : AI F H T (aLie w a b n) := by
  refine AI.sky (w := sL w []) h.tape (fun G g x hx => ?_)
  rcases pst_in hx with e | e
  · exact Or.inl e
  · rw [e]
    refine Or.inr ⟨fun z => ⟨fun p q => absurd (show wf T ((wL w).take n) ∧ tlH H ((wL w).take n) from ⟨z, Or.inl ⟨?_, q⟩⟩) no, fun _ y => ?_⟩, ha2, hb, Nat.le_refl _⟩
    · rcases p with p | p | p
      · exact Or.inl p
      · exact Or.inr (Or.inl p)
      · exact Or.inr (Or.inr (Or.inl p))
    · have y : a < H := y
      omega
theorem AI.copy {k : Nat} (h : AI F H T w) (hk : k < (wK w).1.length) : AI F H T (aCopy w k) := by
  refine h.sky (fun G g x hx => ?_)
  have hx : x ∈ (wK w).1 ++ [((fg (wK w).1 k).1, (fg (wK w).1 k).2.1, wT w, (fg (wK w).1 k).2.2.2)] := hx
  rw [List.mem_append, List.mem_singleton] at hx
  rcases hx with e | e
  · exact Or.inl e
  · rw [e]
    have s := h.2.1 _ (fg_in hk)
    have z : skX H T G (fg (wK w).1 k) := g.2.2 _ (fg_in hk)
    exact Or.inr ⟨z, s.1, s.2.1, Nat.le_refl _⟩
theorem AI.cut {k : Nat} (h : AI F H T w) (hn : n < H) (hk : k ≤ 1000) : AI F H T (sN w n 12 (k : Int)) := by
  obtain ⟨G, g⟩ := h.1.1
  have c4 := g.1.2.2.2.1
  have ga := (g.2.1 n hn).a
  have e : ∀ j, j ≠ 12 → wN (sN w n 12 (k : Int)) n j = wN w n j := fun j hj => N_o _ _ _ _ (Or.inr hj)
  have e12 : wN (sN w n 12 (k : Int)) n 12 = k := N_s _ _ _ _
  have f : wfr n w (sN w n 12 (k : Int)) := wfr.N (by decide)
  refine h.node hn c4 ⟨⟨G, g.num hn f rfl rfl rfl (fun j hj => e j (by omega)) (by rw [e 3 (by omega)]; exact Int.le_refl _) (ga.nt (fun j hj => e j (by omega)) (by rw [e12]; omega) (by rw [e 15 (by omega)]; exact ga.2.2.2.2.2.2.2.2.2.2.1))⟩, fun m hm => ?_⟩ f (kfr.same rfl) (fun j hj => ?_)
  · by_cases c : m = n
    · rw [c]
      unfold giK
      rw [e 15 (by omega), e 2 (by omega), e 3 (by omega), e 5 (by omega), e 17 (by omega)]
      exact h.1.2 n hn
    · rw [(f.1 m c).1]; exact h.1.2 m hm
  · rw [e j (by omega), e 0 (by omega)]
    exact h.2.2 n hn j hj
theorem AI.fall (h : AI F H T w) (hn : n < H) : AI F H T (aFall w n) := by
  obtain ⟨G, g⟩ := h.1.1
  have c4 := g.1.2.2.2.1
  have h0 := h.cut (k := 0) hn (by omega)
  have ga := (g.2.1 n hn).a
  obtain ⟨G0, g0⟩ := h0.1.1
  have s12 : wN (sN w n 12 ((0 : Nat) : Int)) n 12 = 0 := N_s _ _ _ _
  have o12 : ∀ j, j ≠ 12 → wN (sN w n 12 ((0 : Nat) : Int)) n j = wN w n j := fun j hj => N_o _ _ _ _ (Or.inr hj)
  have fe : fel n (sN w n 12 ((0 : Nat) : Int)) (aFall (sN w n 12 ((0 : Nat) : Int)) n) := by
    refine ⟨wfr.fall, rfl, ?_, fun k hk => aFall_N _ _ (Or.inr (by omega)), ?_, fun k hk => ?_, fun f i hf => aFall_Y _ _ (Or.inr hf), fun f i hf => aFall_Yn _ _ hf, ?_⟩
    · show (if n = n ∧ 0 = 0 then (0 : Int) else _) = 0
      rw [if_pos ⟨rfl, rfl⟩]
    · rw [aFall_N _ _ (Or.inr (by omega))]; exact s12
    · show (if n = n ∧ k = 0 then (0 : Int) else if n = n ∧ 9 ≤ k ∧ k ≤ 11 then -1 else _) = -1
      rw [if_neg (by omega), if_pos (by omega)]
    · show (if n = n then [] else _) = []
      rw [if_pos rfl]
  have g1 := g0.fel hn fe
  have hN : ∀ j, j ≠ 12 → wN (aFall w n) n j = wN (aFall (sN w n 12 ((0 : Nat) : Int)) n) n j := fun j hj => by
    show (if n = n ∧ j = 0 then (0 : Int) else if n = n ∧ 9 ≤ j ∧ j ≤ 11 then -1 else w.1 n j) = (if n = n ∧ j = 0 then (0 : Int) else if n = n ∧ 9 ≤ j ∧ j ≤ 11 then -1 else if n = n ∧ j = 12 then ((0 : Nat) : Int) else w.1 n j)
    rw [if_neg (show ¬ (n = n ∧ j = 12) by omega)]
  have f2 : wfr n (aFall (sN w n 12 ((0 : Nat) : Int)) n) (aFall w n) := by
    refine ⟨fun m hm => ⟨funext fun j => ?_, rfl, rfl, rfl⟩, rfl, rfl, Or.inl (hN 0 (by decide))⟩
    rw [aFall_N _ _ (Or.inl hm), aFall_N _ _ (Or.inl hm)]
    exact (N_o _ _ _ _ (Or.inl hm)).symm
  have e12 : wN (aFall w n) n 12 = wN w n 12 := aFall_N _ _ (Or.inr (by omega))
  have ga1 := (g1.2.1 n hn).a
  have g2 : GI F H T G0 (aFall w n) := g1.num hn f2 rfl rfl rfl (fun j hj => hN j (by omega)) (by rw [hN 3 (by omega)]; exact Int.le_refl _) (ga1.nt (fun j hj => hN j (by omega)) (by rw [e12]; exact ga.2.2.2.2.2.2.2.2.2.1) (by rw [hN 15 (by omega)]; exact ga1.2.2.2.2.2.2.2.2.2.2.1))
  refine h.node hn c4 ⟨⟨G0, g2⟩, fun m hm => ?_⟩ wfr.fall (kfr.same rfl) (fun j hj => Or.inl ?_)
  · by_cases c : m = n
    · rw [c]
      unfold giK
      rw [aFall_N _ _ (Or.inr (by omega)), aFall_N _ _ (Or.inr (by omega)), aFall_N _ _ (Or.inr (by omega)), aFall_N _ _ (Or.inr (by omega)), aFall_N _ _ (Or.inr (by omega))]
      exact h.1.2 n hn
    · have := (wfr.fall (n := n) (w := w)).1 m c
      rw [this.1]; exact h.1.2 m hm
  · show (if n = n ∧ j = 0 then (0 : Int) else if n = n ∧ 9 ≤ j ∧ j ≤ 11 then -1 else _) = -1
    rw [if_neg (by omega), if_pos (by omega)]
theorem AI.wake (h : AI F H T w) (hn : n < H) (u : wN w n 0 = 0) (h9 : wT w < 900000) : AI F H T (aWk w n T) := by
  obtain ⟨G, g⟩ := h.1.1
  have c4 := g.1.2.2.2.1
  have ga := (g.2.1 n hn).a
  have h3 := ga.2.2.2.1
  have h2 := ga.2.2.1
  obtain ⟨a1, a2, a3, a4, a5, a6, a7⟩ := aHL_o (w := aWk0 w n) (n := n) (wN w n 17).toNat
  have tt : wT (aWk w n T) = wT w := by
    show wT (aWk1 (aHL (aWk0 w n) n (wN w n 17).toNat) n) = _
    unfold aWk1
    split <;> exact a5
  have tm := h.2.2 n hn
  have off : ∀ k, 9 ≤ k ∧ k ≤ 11 → wN w n k = -1 := fun k hk => by
    rcases tm k hk with z | z
    · exact z
    · have := z.1
      omega
  refine ⟨h.1.wake hn, h.2.1.kfr kfr.wake (by omega) tt, fun m hm => ?_⟩
  rw [tt]
  by_cases c : m = n
  · rw [c]
    intro k hk
    show wN (aWk1 (aHL (aWk0 w n) n (wN w n 17).toNat) n) n k = -1 ∨ (wN (aWk1 (aHL (aWk0 w n) n (wN w n 17).toNat) n) n 0 = 1 ∧ ((wT w : Nat) : Int) < wN (aWk1 (aHL (aWk0 w n) n (wN w n 17).toNat) n) n k ∧ wN (aWk1 (aHL (aWk0 w n) n (wN w n 17).toNat) n) n k < 1000000)
    have e0 : ∀ j, 8 < j ∨ (1 ≤ j ∧ j < 6) → wN (aWk0 w n) n j = wN w n j := fun j hj => by
      unfold aWk0
      rw [N_o _ _ _ _ (by omega), N_o _ _ _ _ (by omega), N_o _ _ _ _ (by omega), N_o _ _ _ _ (by omega)]
    have u0 : wN (aWk0 w n) n 0 = 1 := by
      unfold aWk0
      rw [N_o _ _ _ _ (by omega), N_o _ _ _ _ (by omega), N_o _ _ _ _ (by omega), N_s]
    generalize aHL (aWk0 w n) n (wN w n 17).toNat = v at a1 a5 ⊢
    have v2 : wN v n 2 = wN w n 2 := by rw [a1]; exact e0 2 (by omega)
    have v3 : wN v n 3 = wN w n 3 := by rw [a1]; exact e0 3 (by omega)
    have vk : wN v n k = -1 := by rw [a1, e0 k (by omega)]; exact off k hk
    have v0 : wN v n 0 = 1 := by rw [a1]; exact u0
    have vt : wT v = wT w := a5
    unfold aWk1
    split
    · rw [v3, v2, vt]
      by_cases d : k = 9 + (wN w n 3).toNat
      · right
        rw [d, N_s, N_o _ _ _ _ (by omega), v0]
        refine ⟨rfl, ?_, ?_⟩ <;> omega
      · left
        rw [N_o _ _ _ _ (by omega)]
        exact vk
    · exact Or.inl vk
  · have fr : wfr n (aWk0 w n) (aWk w n T) := (wfr.hl.trans wfr.wk1).trans wfr.all
    have e : wN (aWk w n T) m = wN w m := by
      rw [(fr.1 m c).1]
      funext k
      unfold aWk0
      rw [N_o _ _ _ _ (Or.inl c), N_o _ _ _ _ (Or.inl c), N_o _ _ _ _ (Or.inl c), N_o _ _ _ _ (Or.inl c)]
    intro k hk
    rw [e]
    exact h.2.2 m hm k hk
theorem pyT_ok {a b c d e : Nat} (ha : a < 16) (hb : b < 16) (hab : a ≠ b) (c1 : 1 ≤ c) (c2 : c ≤ 1000) (hd : d < 65536) (e1 : 1 ≤ e) (e2 : e ≤ 9) : (pyT a b c d e).length = 7 ∧ isB (pyT a b c d e) ∧ payOK (pyT a b c d e) 0 := by
  refine ⟨rfl, isB_cons (by omega) (isB_cons (by omega) (isB_cons (by omega) (isB_cons (by omega) (isB_cons (by omega) (isB_cons (by omega) (isB_cons (by omega) isB_nil)))))), ?_⟩
  have t : tw (pyT a b c d e) 2 = c := by
    show 256 * (c / 256) + c % 256 = c
    omega
  refine ⟨by show 0 + 7 ≤ 7; omega, ha, hb, hab, ?_, ?_, e1, e2⟩
  · rw [Nat.zero_add, t]; exact c1
  · rw [Nat.zero_add, t]; exact c2
theorem AI.submit {p : List Nat} (h : AI F H T w) (hn : n < H) (hp : p.length = 7 ∧ isB p ∧ payOK p 0) : AI F H T (aSub w n T p) := by
  obtain ⟨G, g⟩ := h.1.1
  have c4 := g.1.2.2.2.1
  have gn := g.2.1 n hn
  have gp : GI F H T G (aPool w n p).2 := by
    unfold aPool
    split
    · exact g
    · refine g.step hn wfr.P (fun _ _ z => z) (fun _ _ => rfl) ?_ g.2.2
      refine ⟨gn.a, ?_, gn.v, gn.hd, gn.d, gn.s, gn.e, gn.l, gn.o, gn.g, gn.u, gn.b, gn.f⟩
      have : wP (sP w n (wP w n ++ [p])) n = wP w n ++ [p] := by
        show (if n = n then _ else _) = _
        rw [if_pos rfl]
      rw [this]
      intro q hq
      rw [List.length_append] at hq
      have hq : q < (wP w n).length + 1 := hq
      rw [pg_snoc]
      by_cases c : q < (wP w n).length
      · rw [if_pos c]; exact gn.p q c
      · rw [if_neg c, if_pos (by omega)]
        exact hp
  have eN : wN (aPool w n p).2 = wN w := by
    unfold aPool
    split <;> rfl
  have a1 : AI F H T (aPool w n p).2 := h.node hn c4 ⟨⟨G, gp⟩, fun m hm => by rw [eN]; exact h.1.2 m hm⟩ wfr.pool kfr.pool (fun k hk => by rw [eN]; exact h.2.2 n hn k hk)
  unfold aSub
  split
  · obtain ⟨G1, g1⟩ := a1.1.1
    exact a1.node hn c4 ⟨⟨G1, g1.many (fun t => sk_no (Or.inl rfl))⟩, a1.1.2⟩ wfr.all kfr.all (a1.2.2 n hn)
  · exact a1
end
end

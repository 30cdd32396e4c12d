section
/-! STEPS OF A NODE KEEP WHAT HOLDS OF THE WORLD: notes, falls, numbers, rounds, heights, locks -/
/-- a node has fallen -/
def fel (n : Nat) (w w' : Wd) : Prop := wfr n w w' ∧ wK w' = wK w ∧ wN w' n 0 = 0 ∧ (∀ k, (1 ≤ k ∧ k ≤ 8) ∨ (15 ≤ k ∧ k ≤ 17) ∨ (32 ≤ k ∧ k < 80) → wN w' n k = wN w n k) ∧ wN w' n 12 = 0 ∧ (∀ k, 9 ≤ k ∧ k ≤ 11 → wN w' n k = -1) ∧ (∀ f i, f < 2 ∨ 6 < f → wY w' n f i = wY w n f i) ∧ (∀ f i, 2 ≤ f ∧ f ≤ 6 → wY w' n f i = none) ∧ wP w' n = []
section
variable {F H T n : Nat} {G : Gh} {w w' : Wd}
theorem aNote_f {t : List Nat} {f : Nat} (h : (aNote w n t f).1 = false) : fel n w (aNote w n t f).2 := by
  have fr := wfr.note (w := w) (n := n) (t := t) (f := f)
  unfold aNote at h fr ⊢
  by_cases e : nTrn w n = true
  · rw [if_pos e] at fr ⊢
    have e1 : wN w n 12 = 1 := of_decide_eq_true e
    refine ⟨fr, rfl, ?_, fun k hk => ?_, ?_, fun k hk => ?_, fun f i hf => ?_, fun f i hf => ?_, ?_⟩
    · show (if n = n ∧ 0 = 0 then 0 else _) = _
      rw [if_pos ⟨rfl, rfl⟩]
    · show wN (aFall (aWr w n t f) n) n k = _
      rw [aFall_N _ _ (by omega), aWr_N _ _ _ _ (by omega)]
    · show wN (aFall (aWr w n t f) n) n 12 = _
      rw [aFall_N _ _ (by omega), aWr_12, e1]
      rfl
    · show (if n = n ∧ k = 0 then 0 else if n = n ∧ 9 ≤ k ∧ k ≤ 11 then -1 else _) = _
      rw [if_neg (by omega), if_pos ⟨rfl, hk⟩]
    · exact aFall_Y _ _ (Or.inr hf)
    · exact aFall_Yn _ _ hf
    · show (if n = n then [] else _) = _
      rw [if_pos rfl]
  · rw [if_neg e] at h
    cases h
theorem aOwn_f {t : List Nat} (h : (aOwn w n t).1 = false) : fel n w (aOwn w n t).2 := by
  unfold aOwn at h ⊢
  by_cases e : (aNote w n t (80 + 2 * (wN w n 15).toNat)).1 = true
  · rw [if_pos e] at h
    cases h
  · rw [if_neg e]
    exact aNote_f (by simpa using e)
theorem giV.none {h : Int} {b : Nat → Option (List Nat)} (e : ∀ i, b i = none) : giV H T G h b := fun c p r s m _ _ _ _ z => by rw [e] at z; cases z
theorem giH.none {h : Int} {b : Nat → Option (List Nat)} (e : ∀ i, b i = none) : giH H T G h b := fun p r m _ _ z => by rw [e] at z; cases z
theorem giD.none {h : Int} {b : Nat → Option (List Nat)} (e : ∀ i, b i = none) : giD T h b := fun s m _ z => by rw [e] at z; cases z
theorem giS.none {b : Nat → Option (List Nat)} (e : ∀ i, b i = none) : giS H T b := fun s m _ z => by rw [e] at z; cases z
theorem giE.none {b : Nat → Option (List Nat)} (e : ∀ i, b i = none) : giE T b := fun s m _ z => by rw [e] at z; cases z
theorem giP.nil : giP [] := fun q hq => absurd hq (by simp)
theorem bkN_ag {k : Bk} (h : bkOK (bkN (wN w) n)) (e : ∀ i, i < 48 → k i = bkN (wN w) n i) : bkOK k := by
  obtain ⟨a, b, c, d⟩ := h
  have s : ∀ j, j ≤ 16 → smB k j = smB (bkN (wN w) n) j := by
    intro j
    induction j with
    | zero => intro _; rfl
    | succ j ih =>
      intro hj
      unfold smB
      rw [ih (by omega), e j (by omega)]
  exact ⟨fun x hx => by rw [e x (by omega)]; exact a x hx, by rw [s 16 (by omega)]; exact b, fun x hx => by rw [e (16 + x) (by omega)]; exact c x hx, fun x hx => by rw [e (32 + x) (by omega)]; exact d x hx⟩
theorem giB.cg {v v' : Nat → Nat → Int} {o : Option (List Nat)} (g : giB (bkN v n) o) (e : ∀ k, 32 ≤ k → k < 80 → v' n k = v n k) : giB (bkN v' n) o := by
  refine ⟨?_, g.2⟩
  refine bkN_ag (w := (v, (fun _ _ _ => none), (fun _ => []), (fun _ _ _ => 0), ([], 0, 0), 0, [])) (n := n) g.1 (fun i hi => ?_)
  exact e (32 + i) (by omega) (by omega)
theorem GI.fel (g : GI F H T G w) (hn : n < H) (f : fel n w w') : GI F H T G w' := by
  obtain ⟨f1, f2, f3, f4, f5, f5', f6, f7, f8⟩ := f
  have gn := g.2.1 n hn
  refine g.step hn f1 (fun _ _ z => z) (fun _ _ => rfl) ?_ (by rw [f2]; exact g.2.2)
  have e8 : wY w' n 8 = wY w n 8 := funext fun i => f6 8 i (by omega)
  refine ⟨?_, by rw [f8]; exact giP.nil, giV.none (fun i => f7 5 i (by omega)), giH.none (fun i => f7 4 i (by omega)), giD.none (fun i => f7 6 i (by omega)), giS.none (fun i => f7 3 i (by omega)), giE.none (fun i => f7 2 i (by omega)), ?_, ?_, ?_, gn.u, ?_, ?_⟩
  · obtain ⟨a0, a1, a2, a3, a4, a5, a6, a7, a8, a9, a10, a11, a12, a13, a14⟩ := gn.a
    unfold giA
    rw [f3, f4 1 (by omega), f4 2 (by omega), f4 3 (by omega), f4 4 (by omega), f4 5 (by omega), f4 6 (by omega), f4 7 (by omega), f4 8 (by omega), f5, f4 15 (by omega), f4 16 (by omega), f4 17 (by omega)]
    exact ⟨by decide, a1, a2, a3, a4, a5, a6, a7, a8, by decide, a10, a11, a12, a13, a14⟩
  · rw [f4 1 (by omega), f4 4 (by omega), f4 5 (by omega), f6 0 0 (by omega), f6 1 0 (by omega)]
    exact gn.l
  · rw [f4 1 (by omega), f4 2 (by omega), f4 17 (by omega), e8]
    exact gn.o
  · rw [f4 1 (by omega), f4 2 (by omega), f4 3 (by omega), f4 17 (by omega), e8]
    exact gn.g
  · rw [f6 9 0 (by omega)]
    exact gn.b.cg (fun k a b => f4 k (by omega))
  · rw [f3]
    exact fun z => absurd z (by decide)
theorem fel.k (f : fel n w w') (k : giK (wN w n)) : giK (wN w' n) := by
  obtain ⟨f1, f2, f3, f4, f5, f5', f6, f7, f8⟩ := f
  unfold giK
  rw [f4 15 (by omega), f4 2 (by omega), f4 3 (by omega), f4 5 (by omega), f4 17 (by omega)]
  exact k
/-- numbers that are none of height, round, locks, own messages -/
theorem GI.num (g : GI F H T G w) (hn : n < H) (f : wfr n w w') (eY : wY w' n = wY w n) (eP : wP w' n = wP w n) (eK : wK w' = wK w) (e : ∀ k, k < 3 ∨ k = 4 ∨ k = 5 ∨ k = 17 ∨ (32 ≤ k ∧ k < 80) → wN w' n k = wN w n k) (hs : wN w n 3 ≤ wN w' n 3) (a : giA (wN w' n)) : GI F H T G w' := by
  have gn := g.2.1 n hn
  refine g.step hn f (fun _ _ z => z) (fun _ _ => rfl) ?_ (by rw [eK]; exact g.2.2)
  refine ⟨a, by rw [eP]; exact gn.p, ?_, ?_, ?_, by rw [eY]; exact gn.s, by rw [eY]; exact gn.e, ?_, ?_, ?_, gn.u, ?_, ?_⟩
  · rw [e 1 (by omega), eY]; exact gn.v
  · rw [e 1 (by omega), eY]; exact gn.hd
  · rw [e 1 (by omega), eY]; exact gn.d
  · rw [e 1 (by omega), e 4 (by omega), e 5 (by omega), eY]; exact gn.l
  · rw [e 1 (by omega), e 2 (by omega), e 17 (by omega), eY]; exact gn.o
  · rw [e 1 (by omega), e 2 (by omega), e 17 (by omega), eY]
    intro m hm
    obtain ⟨x1, x2, x3⟩ := gn.g m hm
    refine ⟨x1, x2, ?_⟩
    rcases x3 with x3 | ⟨y1, y2, y3⟩
    · exact Or.inl x3
    · exact Or.inr ⟨y1, y2, by omega⟩
  · rw [eY]
    exact gn.b.cg (fun k a b => e k (by omega))
  · rw [e 0 (by omega), e 1 (by omega), e 17 (by omega), eY]; exact gn.f
/-- a note was whole -/
theorem aNote_w {t : List Nat} {f : Nat} (h : (aNote w n t f).1 = true) : wfr n w (aNote w n t f).2 ∧ (∀ k, k < 12 ∨ (15 ≤ k ∧ k < 100) → wN (aNote w n t f).2 n k = wN w n k) ∧ (0 ≤ wN w n 12 ∧ wN w n 12 ≤ 1000 → 0 ≤ wN (aNote w n t f).2 n 12 ∧ wN (aNote w n t f).2 n 12 ≤ 1000) ∧ wY (aNote w n t f).2 = wY w ∧ wP (aNote w n t f).2 = wP w ∧ wK (aNote w n t f).2 = wK w := by
  obtain ⟨t1, t2, t3, t4, t5, t6, t7⟩ := aNote_t h
  exact ⟨wfr.note, fun k hk => t1 n k (by omega) (by omega), t7, t2, t3, t4⟩
theorem giA.nt {v v' : Nat → Int} (a : giA v) (e : ∀ k, k < 9 ∨ k = 16 ∨ k = 17 → v' k = v k) (h12 : 0 ≤ v' 12 ∧ v' 12 ≤ 1000) (h15 : 0 ≤ v' 15) : giA v' := by
  obtain ⟨a0, a1, a2, a3, a4, a5, a6, a7, a8, a9, a10, a11, a12, a13, a14⟩ := a
  unfold giA
  rw [e 0 (by omega), e 1 (by omega), e 2 (by omega), e 3 (by omega), e 4 (by omega), e 5 (by omega), e 6 (by omega), e 7 (by omega), e 8 (by omega), e 16 (by omega), e 17 (by omega)]
  exact ⟨a0, a1, a2, a3, a4, a5, a6, a7, a8, h12, h15, a11, a12, a13, a14⟩
theorem GI.note {t : List Nat} {f : Nat} (g : GI F H T G w) (hn : n < H) (h : (aNote w n t f).1 = true) : GI F H T G (aNote w n t f).2 := by
  obtain ⟨t1, t2, t3, t4, t5, t6⟩ := aNote_w h
  have ga := (g.2.1 n hn).a
  have c := ga.2.2.2.2.2.2.2.2.2.1
  refine g.num hn t1 (by rw [t4]) (by rw [t5]) t6 (fun k hk => t2 k (by omega)) (by rw [t2 3 (by omega)]; exact Int.le_refl _) (ga.nt (fun k hk => t2 k (by omega)) (t3 c) ?_)
  rw [t2 15 (by omega)]
  exact ga.2.2.2.2.2.2.2.2.2.2.1
theorem aOwn_w {t : List Nat} (h : (aOwn w n t).1 = true) : wfr n w (aOwn w n t).2 ∧ (∀ k, k < 12 ∨ (16 ≤ k ∧ k < 100) → wN (aOwn w n t).2 n k = wN w n k) ∧ wN (aOwn w n t).2 n 15 = wN w n 15 + 1 ∧ (0 ≤ wN w n 12 ∧ wN w n 12 ≤ 1000 → 0 ≤ wN (aOwn w n t).2 n 12 ∧ wN (aOwn w n t).2 n 12 ≤ 1000) ∧ wY (aOwn w n t).2 = wY w ∧ wP (aOwn w n t).2 = wP w ∧ wK (aOwn w n t).2 = wK w ∧ wT (aOwn w n t).2 = wT w := by
  obtain ⟨t1, t2, t3, t4, t5, t6⟩ := aOwn_t h
  obtain ⟨u1, u2⟩ := aOwn_c h
  exact ⟨wfr.own, fun k hk => t1 n k (by omega) (by omega), u1, u2, t2, t3, t4, t5⟩
theorem GI.own {t : List Nat} (g : GI F H T G w) (hn : n < H) (h : (aOwn w n t).1 = true) : GI F H T G (aOwn w n t).2 := by
  obtain ⟨t1, t2, t3, t4, t5, t6, t7, t8⟩ := aOwn_w h
  have ga := (g.2.1 n hn).a
  have c := ga.2.2.2.2.2.2.2.2.2.1
  have c15 := ga.2.2.2.2.2.2.2.2.2.2.1
  exact g.num hn t1 (by rw [t5]) (by rw [t6]) t7 (fun k hk => t2 k (by omega)) (by rw [t2 3 (by omega)]; exact Int.le_refl _) (ga.nt (fun k hk => t2 k (by omega)) (t4 c) (by rw [t3]; omega))
/-- a round begins -/
theorem GI.new {r : Nat} (g : GI F H T G w) (hn : n < H) (hr : r < 16) (h1 : wN w n 2 < r ∨ (wN w n 2 ≤ r ∧ wN w n 17 = 0)) (h4 : wN w n 4 < r) (h5 : wN w n 5 < r) : GI F H T G (aNew w n r) := by
  have gn := g.2.1 n hn
  have e : ∀ k, k < 2 ∨ k = 4 ∨ k = 5 ∨ 12 ≤ k → wN (aNew w n r) n k = wN w n k := fun k hk => aNew_N _ _ _ (by omega)
  have e2 := aNew_2 w n r
  have e3 : wN (aNew w n r) n 3 = 0 := by
    show (if n = n then _ else _) = _
    rw [if_pos rfl]
    rfl
  have eb : ∀ k, 6 ≤ k ∧ k ≤ 8 → wN (aNew w n r) n k = 0 := fun k hk => by
    show (if n = n then (if k = 2 then (r : Int) else if k = 3 then 0 else if 6 ≤ k ∧ k ≤ 8 then 0 else _) else _) = _
    rw [if_pos rfl, if_neg (by omega), if_neg (by omega), if_pos hk]
  refine g.step hn wfr.new (fun _ _ z => z) (fun _ _ => rfl) ?_ g.2.2
  refine ⟨?_, gn.p, ?_, ?_, ?_, gn.s, gn.e, ?_, ?_, ?_, gn.u, ?_, ?_⟩
  · obtain ⟨a0, a1, a2, a3, a4, a5, a6, a7, a8, a9, a10, a11, a12, a13, a14⟩ := gn.a
    unfold giA
    rw [e 0 (by omega), e 1 (by omega), e2, e3, e 4 (by omega), e 5 (by omega), eb 6 (by omega), eb 7 (by omega), eb 8 (by omega), e 12 (by omega), e 15 (by omega), e 16 (by omega), e 17 (by omega)]
    exact ⟨a0, a1, by omega, by decide, by omega, by omega, by decide, by decide, by decide, a9, a10, a11, a12, by omega, by omega⟩
  · rw [e 1 (by omega)]; exact gn.v
  · rw [e 1 (by omega)]; exact gn.hd
  · rw [e 1 (by omega)]; exact gn.d
  · rw [e 1 (by omega), e 4 (by omega), e 5 (by omega)]; exact gn.l
  · rw [e 1 (by omega), e2, e 17 (by omega)]
    intro i hi
    obtain ⟨m, m1, m2, m3, m4⟩ := gn.o i hi
    exact ⟨m, m1, m2, m3, by omega⟩
  · rw [e 1 (by omega), e2, e3, e 17 (by omega)]
    intro m hm
    obtain ⟨x1, x2, x3⟩ := gn.g m hm
    refine ⟨x1, x2, ?_⟩
    rcases x3 with x3 | ⟨y1, ⟨i, i1, i2⟩, y3⟩
    · exact Or.inl x3
    · exact Or.inr ⟨y1, ⟨i, i1, i2⟩, by omega⟩
  · exact gn.b.cg (fun k a b => e k (by omega))
  · rw [e 0 (by omega), e 1 (by omega), e 17 (by omega)]; exact gn.f
/-- a height begins -/
theorem GI.lift {x2 : Nat} {d : List Nat} {k : Bk} (g : GI F H T G w) (hn : n < H) (hx : wN w n 1 < x2) (h41 : x2 ≤ 41) (hk : bkOK k) (hd : d.length = 32) (hB : isB d) : GI F H T G (aLift w n x2 d k) ∧ giK (wN (aLift w n x2 d k) n) := by
  have gn := g.2.1 n hn
  obtain ⟨a0, a1, a2, a3, a4, a5, a6, a7, a8, a9, a10, a11, a12, a13, a14⟩ := gn.a
  have e1 : wN (aLift w n x2 d k) n 1 = x2 := aLift_1
  have e0 : ∀ j, j = 2 ∨ j = 3 ∨ (6 ≤ j ∧ j ≤ 8) ∨ j = 15 ∨ j = 17 → wN (aLift w n x2 d k) n j = 0 := fun j hj => aLift_0 hj
  have em : ∀ j, j = 4 ∨ j = 5 → wN (aLift w n x2 d k) n j = -1 := fun j hj => aLift_m (by omega)
  have eN : ∀ j, j = 0 ∨ j = 12 ∨ j = 16 → wN (aLift w n x2 d k) n j = wN w n j := fun j hj => aLift_N (by omega)
  refine ⟨g.step hn wfr.lift (fun _ _ z => z) (fun _ _ => rfl) ?_ g.2.2, ?_⟩
  · refine ⟨?_, gn.p, ?_, ?_, giD.none (fun i => aLift_Z (by omega)), ?_, ?_, ?_, ?_, ?_, gn.u, ?_, ?_⟩
    · unfold giA
      rw [eN 0 (by omega), e1, e0 2 (by omega), e0 3 (by omega), em 4 (by omega), em 5 (by omega), e0 6 (by omega), e0 7 (by omega), e0 8 (by omega), eN 12 (by omega), e0 15 (by omega), eN 16 (by omega), e0 17 (by omega)]
      exact ⟨a0, by omega, by decide, by decide, by decide, by decide, by decide, by decide, by decide, a9, by decide, a11, by decide, by decide, by decide⟩
    · rw [e1]
      intro c p r s m c1 p1 r1 s1 z
      rw [aLift_5] at z
      by_cases q : vq c p r s % 416 / 208 = (wN w n 1).toNat % 2 ∨ (wN w n 1).toNat + 1 < x2
      · rw [if_pos q] at z
        cases z
      · rw [if_neg q] at z
        obtain ⟨b1, b2, b3, b4, b5, b6, b7, b8, b9⟩ := gn.v c p r s m c1 p1 r1 s1 z
        have : vq c p r s % 416 / 208 = p := by unfold vq; omega
        rw [this] at q
        exact ⟨b1, b2, b3, b4, b5, Or.inl (by unfold nxt at b6; omega), b7, b8, b9⟩
    · rw [e1]
      intro p r m p1 r1 z
      rw [aLift_4] at z
      by_cases q : (16 * p + r) / 16 = (wN w n 1).toNat % 2 ∨ (wN w n 1).toNat + 1 < x2
      · rw [if_pos q] at z
        cases z
      · rw [if_neg q] at z
        obtain ⟨b1, b2, b3, b4, b5, b6, b7, b8⟩ := gn.hd p r m p1 r1 z
        have : (16 * p + r) / 16 = p := by omega
        rw [this] at q
        exact ⟨b1, b2, b3, Or.inl (by unfold nxt at b4; omega), b5, b6, b7, b8⟩
    · rw [show wY (aLift w n x2 d k) n 3 = wY w n 3 from funext fun i => aLift_Y (by omega)]
      exact gn.s
    · rw [show wY (aLift w n x2 d k) n 2 = wY w n 2 from funext fun i => aLift_Y (by omega)]
      exact gn.e
    · rw [em 4 (by omega), em 5 (by omega), aLift_Z (f := 0) (by omega), aLift_Z (f := 1) (by omega)]
      exact ⟨fun _ => rfl, fun z => absurd z (by decide), fun _ => rfl, fun z => absurd z (by decide)⟩
    · rw [e0 17 (by omega)]
      exact fun i hi => absurd hi (by omega)
    · rw [e1]
      intro m hm
      obtain ⟨x1, x2, x3⟩ := gn.g m hm
      exact ⟨x1, x2, Or.inl (by omega)⟩
    · refine ⟨?_, d, aLift_9, hd, hB⟩
      have : ∀ i, i < 48 → bkN (wN (aLift w n x2 d k)) n i = k i := fun i hi => aLift_M hi
      obtain ⟨b1, b2, b3, b4⟩ := hk
      have s : ∀ j, j ≤ 16 → smB (bkN (wN (aLift w n x2 d k)) n) j = smB k j := by
        intro j
        induction j with
        | zero => intro _; rfl
        | succ j ih =>
          intro hj
          unfold smB
          rw [ih (by omega), this j (by omega)]
      exact ⟨fun x hx => by rw [this x (by omega)]; exact b1 x hx, by rw [s 16 (by omega)]; exact b2, fun x hx => by rw [this (16 + x) (by omega)]; exact b3 x hx, fun x hx => by rw [this (32 + x) (by omega)]; exact b4 x hx⟩
    · rw [e0 17 (by omega)]
      exact fun _ i m hi => absurd hi (by omega)
  · unfold giK
    rw [e0 15 (by omega), e0 2 (by omega), e0 3 (by omega), em 5 (by omega), e0 17 (by omega)]
    decide
/-- a block becomes valid -/
theorem GI.valid {c : List Nat} (g : GI F H T G w) (hn : n < H) (hw : giW T (wN w n 1) c) (q : qS F H T G (wN w n 1) (wN w n 2) (idB c)) (h3 : wN w n 3 = 2) : GI F H T G (sN (sBy w n 1 0 (some c)) n 5 (wN w n 2)) := by
  have gn := g.2.1 n hn
  have e : ∀ k, k ≠ 5 → wN (sN (sBy w n 1 0 (some c)) n 5 (wN w n 2)) n k = wN w n k := fun k hk => N_o _ _ _ _ (Or.inr hk)
  have e5 : wN (sN (sBy w n 1 0 (some c)) n 5 (wN w n 2)) n 5 = wN w n 2 := N_s _ _ _ _
  have y : ∀ f i, f ≠ 1 → wY (sN (sBy w n 1 0 (some c)) n 5 (wN w n 2)) n f i = wY w n f i := fun f i hf => B_o _ _ _ _ _ (Or.inr (Or.inl hf))
  have yf : ∀ f, f ≠ 1 → wY (sN (sBy w n 1 0 (some c)) n 5 (wN w n 2)) n f = wY w n f := fun f hf => funext fun i => y f i hf
  have y1 : wY (sN (sBy w n 1 0 (some c)) n 5 (wN w n 2)) n 1 0 = some c := B_s _ _ _ _ _
  obtain ⟨a0, a1, a2, a3, a4, a5, a6, a7, a8, a9, a10, a11, a12, a13, a14⟩ := gn.a
  refine g.step hn (wfr.B.trans (wfr.N (by decide))) (fun _ _ z => z) (fun _ _ => rfl) ?_ g.2.2
  refine ⟨?_, gn.p, ?_, ?_, ?_, ?_, ?_, ?_, ?_, ?_, gn.u, ?_, ?_⟩
  · unfold giA
    rw [e 0 (by decide), e 1 (by decide), e 2 (by decide), e 3 (by decide), e 4 (by decide), e5, e 6 (by decide), e 7 (by decide), e 8 (by decide), e 12 (by decide), e 15 (by decide), e 16 (by decide), e 17 (by decide)]
    exact ⟨a0, a1, a2, a3, a4, by omega, a6, a7, a8, a9, a10, a11, a12, fun _ => rfl, fun _ => Or.inl h3⟩
  · rw [e 1 (by decide), yf 5 (by decide)]; exact gn.v
  · rw [e 1 (by decide), yf 4 (by decide)]; exact gn.hd
  · rw [e 1 (by decide), yf 6 (by decide)]; exact gn.d
  · rw [yf 3 (by decide)]; exact gn.s
  · rw [yf 2 (by decide)]; exact gn.e
  · rw [e 1 (by decide), e 4 (by decide), e5, y 0 0 (by decide), y1]
    exact ⟨gn.l.1, gn.l.2.1, fun z => absurd z (by omega), fun _ => ⟨c, rfl, hw, q⟩⟩
  · rw [e 1 (by decide), e 2 (by decide), e 17 (by decide), yf 8 (by decide)]; exact gn.o
  · rw [e 1 (by decide), e 2 (by decide), e 3 (by decide), e 17 (by decide), yf 8 (by decide)]; exact gn.g
  · rw [y 9 0 (by decide)]
    exact gn.b.cg (fun k a b => e k (by omega))
  · rw [e 0 (by decide), e 1 (by decide), e 17 (by decide), yf 4 (by decide), yf 5 (by decide), yf 8 (by decide)]; exact gn.f
/-- a node locks a block -/
theorem GI.lock {c : List Nat} (g : GI F H T G w) (hn : n < H) (hw : giW T (wN w n 1) c) (q : qS F H T G (wN w n 1) (wN w n 2) (idB c)) : GI F H T G (aLk w n (wN w n 2) c) := by
  have gn := g.2.1 n hn
  have e : ∀ k, k ≠ 4 → k ≠ 5 → wN (aLk w n (wN w n 2) c) n k = wN w n k := fun k a1 a2 => by
    unfold aLk
    rw [N_o _ _ _ _ (Or.inr a2), N_o _ _ _ _ (Or.inr a1)]
    rfl
  have e5 : wN (aLk w n (wN w n 2) c) n 5 = wN w n 2 := N_s _ _ _ _
  have e4 : wN (aLk w n (wN w n 2) c) n 4 = wN w n 2 := by
    unfold aLk
    rw [N_o _ _ _ _ (Or.inr (by decide))]
    exact N_s _ _ _ _
  have y : ∀ f i, 2 ≤ f → wY (aLk w n (wN w n 2) c) n f i = wY w n f i := fun f i hf => by
    show wY (sBy (sBy w n 0 0 (some c)) n 1 0 (some c)) n f i = _
    rw [B_o _ _ _ _ _ (Or.inr (Or.inl (by omega))), B_o _ _ _ _ _ (Or.inr (Or.inl (by omega)))]
  have yf : ∀ f, 2 ≤ f → wY (aLk w n (wN w n 2) c) n f = wY w n f := fun f hf => funext fun i => y f i hf
  have y1 : wY (aLk w n (wN w n 2) c) n 1 0 = some c := B_s _ _ _ _ _
  have y0 : wY (aLk w n (wN w n 2) c) n 0 0 = some c := by
    show wY (sBy (sBy w n 0 0 (some c)) n 1 0 (some c)) n 0 0 = _
    rw [B_o _ _ _ _ _ (Or.inr (Or.inl (by decide)))]
    exact B_s _ _ _ _ _
  obtain ⟨a0, a1, a2, a3, a4, a5, a6, a7, a8, a9, a10, a11, a12, a13, a14⟩ := gn.a
  refine g.step hn (((wfr.B.trans wfr.B).trans (wfr.N (by decide))).trans (wfr.N (by decide))) (fun _ _ z => z) (fun _ _ => rfl) ?_ g.2.2
  refine ⟨?_, gn.p, ?_, ?_, ?_, ?_, ?_, ?_, ?_, ?_, gn.u, ?_, ?_⟩
  · unfold giA
    rw [e 0 (by decide) (by decide), e 1 (by decide) (by decide), e 2 (by decide) (by decide), e 3 (by decide) (by decide), e4, e5, e 6 (by decide) (by decide), e 7 (by decide) (by decide), e 8 (by decide) (by decide), e 12 (by decide) (by decide), e 15 (by decide) (by decide), e 16 (by decide) (by decide), e 17 (by decide) (by decide)]
    exact ⟨a0, a1, a2, a3, by omega, by omega, a6, a7, a8, a9, a10, a11, a12, fun _ => rfl, fun _ => Or.inr rfl⟩
  · rw [e 1 (by decide) (by decide), yf 5 (by decide)]; exact gn.v
  · rw [e 1 (by decide) (by decide), yf 4 (by decide)]; exact gn.hd
  · rw [e 1 (by decide) (by decide), yf 6 (by decide)]; exact gn.d
  · rw [yf 3 (by decide)]; exact gn.s
  · rw [yf 2 (by decide)]; exact gn.e
  · rw [e 1 (by decide) (by decide), e4, e5, y0, y1]
    exact ⟨fun z => absurd z (by omega), fun _ => ⟨c, rfl, hw⟩, fun z => absurd z (by omega), fun _ => ⟨c, rfl, hw, q⟩⟩
  · rw [e 1 (by decide) (by decide), e 2 (by decide) (by decide), e 17 (by decide) (by decide), yf 8 (by decide)]; exact gn.o
  · rw [e 1 (by decide) (by decide), e 2 (by decide) (by decide), e 3 (by decide) (by decide), e 17 (by decide) (by decide), yf 8 (by decide)]; exact gn.g
  · rw [y 9 0 (by decide)]
    exact gn.b.cg (fun k a b => e k (by omega) (by omega))
  · rw [e 0 (by decide) (by decide), e 1 (by decide) (by decide), e 17 (by decide) (by decide), yf 4 (by decide), yf 5 (by decide), yf 8 (by decide)]; exact gn.f
end
end

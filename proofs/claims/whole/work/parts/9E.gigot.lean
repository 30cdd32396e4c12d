section
/-! WHAT COMES KEEPS WHAT HOLDS OF THE WORLD -/
/-- what a message does, ahead of the rules -/
noncomputable def aGot (w : Wd) (n T b : Nat) (m : List Nat) : Wd :=
  if bg m 0 = 0 then (if (aPool w n (sl m 1 7)).1 then aOn (aPool w n (sl m 1 7)).2 n T b b m else (aPool w n (sl m 1 7)).2)
  else if bg m 0 = 6 then (if (aKp w n m).1 then aOn (aKp w n m).2 n T b (bg m 1) m else (aKp w n m).2)
  else if bg m 0 = 7 then (if wN w n 1 < (tw m 1 : Int) then sBy w n 3 b (some m) else w)
  else if (htM m : Int) < wN w n 1 then (if bg m 0 = 5 ∨ (bg m 0 ≠ 4 ∧ bg m 1 = b) then aPost w n b (anB w n (htM m)) else w)
  else if bg m 0 = 5 then (if (htM m : Int) = wN w n 1 then aAH w n b T else w)
  else aArr w n T b m
noncomputable def aCome (w : Wd) (n T F b : Nat) (m : List Nat) : Wd := cif (wf T m) (aRules (aGot w n T b m) n T F) w
theorem evM_ok {T : Nat} {m y : List Nat} (hB : isB m) (hB' : isB y) (h0 : bg m 0 = 1 ∨ bg m 0 = 2 ∨ bg m 0 = 3) (h1 : bg m 1 < T) (h2 : hOK (tw m 2)) (h4 : bg m 4 ≤ 15) (ne : edM m ≠ edM y) (hk : bg m 0 = 1 → edM y ≠ none) : bg (evM m y) 0 = 6 ∧ bg (evM m y) 1 = bg m 1 ∧ isB (evM m y) ∧ evOK T (evM m y) 1 ∧ (evM m y).length = 1 + evSz (evM m y) 1 := by
  have tm := tw_lt hB 2
  have b1 := hB 1
  have b4 := hB 4
  have hH : isB (evH m) := isB_cons (by decide) (isB_cons (by omega) (isB_cons (by omega) (isB_cons (by omega) (isB_cons (by omega) (isB_cons (by omega) isB_nil)))))
  have key : ∀ (o1 o2 : Option (List Nat)), (∀ d, o1 = some d → d.length = 32 ∧ isB d) → (∀ d, o2 = some d → d.length = 32 ∧ isB d) → ((o1 = none ∧ (∃ d, o2 = some d) ∧ bg m 0 ≠ 1) ∨ ∃ d d', o1 = some d ∧ o2 = some d' ∧ lesD d d') → bg (evH m ++ enB o1 ++ enB o2) 0 = 6 ∧ bg (evH m ++ enB o1 ++ enB o2) 1 = bg m 1 ∧ isB (evH m ++ enB o1 ++ enB o2) ∧ evOK T (evH m ++ enB o1 ++ enB o2) 1 ∧ (evH m ++ enB o1 ++ enB o2).length = 1 + evSz (evH m ++ enB o1 ++ enB o2) 1 := by
    intro o1 o2 k1 k2 hc
    have i1 := (enB_ok k1).2.2
    have i2 := (enB_ok k2).2.2
    have hd : ∀ i, i < 6 → bg (evH m ++ enB o1 ++ enB o2) i = bg (evH m) i := fun i hi => by
      have l6 : (evH m).length = 6 := rfl
      rw [bg_app, if_pos (by rw [List.length_append]; omega), bg_app, if_pos (by rw [l6]; exact hi)]
    have e1 : bg (evH m ++ enB o1 ++ enB o2) 1 = bg m 1 := by rw [hd 1 (by decide)]; rfl
    have e2 : bg (evH m ++ enB o1 ++ enB o2) 2 = bg m 0 := by rw [hd 2 (by decide)]; rfl
    have e3 : bg (evH m ++ enB o1 ++ enB o2) 3 = tw m 2 / 256 := by rw [hd 3 (by decide)]; rfl
    have e4 : bg (evH m ++ enB o1 ++ enB o2) 4 = tw m 2 % 256 := by rw [hd 4 (by decide)]; rfl
    have e5 : bg (evH m ++ enB o1 ++ enB o2) 5 = bg m 4 := by rw [hd 5 (by decide)]; rfl
    have et : tw (evH m ++ enB o1 ++ enB o2) (1 + 2) = tw m 2 := by
      have : tw (evH m ++ enB o1 ++ enB o2) (1 + 2) = 256 * bg (evH m ++ enB o1 ++ enB o2) 3 + bg (evH m ++ enB o1 ++ enB o2) 4 := rfl
      rw [this, e3, e4]
      omega
    refine ⟨by rw [hd 0 (by decide)]; rfl, e1, isB_app (isB_app hH i1) i2, ?_⟩
    rcases hc with ⟨c1, ⟨d, c2⟩, c3⟩ | ⟨d, d', c1, c2, c3⟩
    · subst c1
      subst c2
      obtain ⟨d1, d2⟩ := k2 d rfl
      have ll : (evH m ++ enB none ++ enB (some d)).length = 40 := by
        rw [List.length_append, List.length_append]
        show 6 + 1 + (d.length + 1) = 40
        omega
      have e6 : bg (evH m ++ enB none ++ enB (some d)) (1 + 5) = 0 := rfl
      have e7 : bg (evH m ++ enB none ++ enB (some d)) (1 + 6) = 1 := rfl
      have sz : evSz (evH m ++ enB none ++ enB (some d)) 1 = 39 := by
        unfold evSz
        rw [if_neg (by rw [e6]; decide)]
      refine ⟨⟨by omega, by rw [e1]; exact h1, ?_, ?_, by rw [et]; exact h2, ?_, Or.inl ⟨e6, e7, ?_⟩⟩, by rw [ll, sz]⟩
      · show 1 ≤ bg (evH m ++ enB none ++ enB (some d)) 2
        omega
      · show bg (evH m ++ enB none ++ enB (some d)) 2 ≤ 3
        omega
      · show bg (evH m ++ enB none ++ enB (some d)) 5 ≤ 15
        omega
      · show bg (evH m ++ enB none ++ enB (some d)) 2 ≠ 1
        omega
    · subst c1
      subst c2
      obtain ⟨d1, d2⟩ := k1 d rfl
      obtain ⟨d3, d4⟩ := k2 d' rfl
      have ll : (evH m ++ enB (some d) ++ enB (some d')).length = 72 := by
        rw [List.length_append, List.length_append]
        show 6 + (d.length + 1) + (d'.length + 1) = 72
        omega
      have la : (evH m ++ enB (some d)).length = 39 := by
        rw [List.length_append]
        show 6 + (d.length + 1) = 39
        omega
      have e6 : bg (evH m ++ enB (some d) ++ enB (some d')) (1 + 5) = 1 := rfl
      have e38 : bg (evH m ++ enB (some d) ++ enB (some d')) (1 + 38) = 1 := by
        rw [bg_app, if_neg (by omega), la]
        rfl
      have x : ∀ j, j < 32 → bg (evH m ++ enB (some d) ++ enB (some d')) (1 + 6 + j) = bg d j := fun j hj => by
        have l6 : (evH m).length = 6 := rfl
        rw [bg_app, if_pos (by omega), bg_app, if_neg (by omega), l6]
        show bg (1 :: d) (1 + 6 + j - 6) = _
        rw [bg_cons, if_neg (by omega)]
        congr 1
        omega
      have x' : ∀ j, j < 32 → bg (evH m ++ enB (some d) ++ enB (some d')) (1 + 39 + j) = bg d' j := fun j hj => by
        rw [bg_app, if_neg (by omega), la]
        show bg (1 :: d') (1 + 39 + j - 39) = _
        rw [bg_cons, if_neg (by omega)]
        congr 1
        omega
      have sz : evSz (evH m ++ enB (some d) ++ enB (some d')) 1 = 71 := by
        unfold evSz
        rw [if_pos e6]
      refine ⟨⟨by omega, by rw [e1]; exact h1, ?_, ?_, by rw [et]; exact h2, ?_, Or.inr ⟨e6, by omega, e38, ?_⟩⟩, by rw [ll, sz]⟩
      · show 1 ≤ bg (evH m ++ enB (some d) ++ enB (some d')) 2
        omega
      · show bg (evH m ++ enB (some d) ++ enB (some d')) 2 ≤ 3
        omega
      · show bg (evH m ++ enB (some d) ++ enB (some d')) 5 ≤ 15
        omega
      · obtain ⟨i, j1, j2, j3⟩ := c3
        exact ⟨i, j1, fun j hj => by rw [x j (by omega), x' j (by omega)]; exact j2 j hj, by rw [x i j1, x' i j1]; exact j3⟩
  have mn : bg m 0 = 1 → edM m ≠ none := fun z => by unfold edM; rw [if_pos z]; exact fun q => by cases q
  unfold evM ev1 ev2
  by_cases f : evF (edM m) (edM y)
  · rw [cif_pos f, cif_pos f]
    refine key _ _ (fun d e => edM_ok hB e) (fun d e => edM_ok hB' e) ?_
    rcases f with f | f
    · refine Or.inl ⟨f, ?_, fun z => mn z f⟩
      cases e : edM y with
      | none => rw [f, e] at ne; exact absurd rfl ne
      | some d => exact ⟨d, rfl⟩
    · exact Or.inr f
  · rw [cif_neg f, cif_neg f]
    refine key _ _ (fun d e => edM_ok hB' e) (fun d e => edM_ok hB e) ?_
    cases em : edM m with
    | none => exact absurd (Or.inl em) f
    | some d =>
      cases ey : edM y with
      | none => exact Or.inl ⟨rfl, ⟨d, rfl⟩, fun z => hk z ey⟩
      | some d' =>
        refine Or.inr ⟨d', d, rfl, rfl, ?_⟩
        have a := edM_ok hB em
        have c := edM_ok hB' ey
        refine lesD_tot a.1 c.1 (fun z => ne (by rw [em, ey, z])) (fun z => f (Or.inr ⟨d, d', em, ey, z⟩))
section
variable {F H T n b : Nat} {G : Gh} {w : Wd} {m : List Nat}
theorem wfr.aon {c : Nat} : wfr n w (aOn w n T b c m) := wfr.K
theorem wfr.post {t : Nat} : wfr n w (aPost w n t m) := wfr.K
theorem wfr.kp : wfr n w (aKp w n m).2 := by
  unfold aKp
  split
  · exact wfr.B
  · exact wfr.refl
theorem wfr.ev {y : List Nat} : wfr n w (aEv w n T m y) := by
  unfold aEv
  split
  · exact wfr.kp.trans wfr.all
  · exact wfr.kp
theorem wfr.pool {p : List Nat} : wfr n w (aPool w n p).2 := by
  unfold aPool
  split
  · exact wfr.refl
  · exact wfr.P
theorem wfr.arr : wfr n w (aArr w n T b m) := by
  have p : ∀ w, wfr n w (aArP w n T b m) := fun w => by
    unfold aArP
    split
    · split
      · exact wfr.B.trans wfr.aon
      · split
        · exact wfr.refl
        · exact wfr.ev
    · exact wfr.refl
  have v : ∀ w, wfr n w (aArV w n T b m) := fun w => by
    unfold aArV
    split
    · exact wfr.B.trans wfr.aon
    · split
      · exact wfr.refl
      · exact wfr.ev
  have two : ∀ w, wfr n w (aArr2 w n T b m) := fun w => by
    unfold aArr2
    split
    · split
      · exact wfr.B
      · exact wfr.refl
    · split
      · split
        · exact p w
        · exact v w
      · exact wfr.refl
  unfold aArr
  split
  · exact wfr.post.trans (two _)
  · exact two w
theorem wfr.got : wfr n w (aGot w n T b m) := by
  unfold aGot
  split
  · split
    · exact wfr.pool.trans wfr.aon
    · exact wfr.pool
  split
  · split
    · exact wfr.kp.trans wfr.aon
    · exact wfr.kp
  split
  · split
    · exact wfr.B
    · exact wfr.refl
  split
  · split
    · exact wfr.post
    · exact wfr.refl
  split
  · split
    · exact wfr.K
    · exact wfr.refl
  · exact wfr.arr
theorem wfr.come : wfr n w (aCome w n T F b m) := by
  unfold aCome
  by_cases c : wf T m
  · rw [cif_pos c]; exact wfr.got.trans wfr.rules
  · rw [cif_neg c]; exact wfr.refl
/-- more in the sky -/
theorem GI.sky {k : Sk} (g : GI F H T G w) (hk : GS H T G k) : GI F H T G (sK w k) := ⟨g.1, g.2.1, hk⟩
theorem GI.post {t : Nat} (g : GI F H T G w) (hx : skX H T G (n, t, wT w, m)) : GI F H T G (aPost w n t m) := g.sky (fun x hx' => by
  rcases pst_mem hx' with a | a
  · exact g.2.2 x a
  · rw [a]; exact hx)
theorem GI.many {P : Nat → Bool} {k : Nat} (g : GI F H T G w) (hx : ∀ t, skX H T G (n, t, wT w, m)) : GI F H T G (sK w (pstN (wK w) n (wT w) m P k)) := g.sky (fun x hx' => by
  rcases pstN_mem k hx' with a | ⟨t, _, a⟩
  · exact g.2.2 x a
  · rw [a]; exact hx t)
/-- one thing more is held -/
theorem GN.by_ {f i : Nat} {o : Option (List Nat)} (g : GN F H T G w n) (hf : f = 2 ∨ f = 3 ∨ f = 4 ∨ f = 5 ∨ f = 6) (hv : giV H T G (wN w n 1) (wY (sBy w n f i o) n 5)) (hh : giH H T G (wN w n 1) (wY (sBy w n f i o) n 4)) (hd : giD T (wN w n 1) (wY (sBy w n f i o) n 6)) (hs : giS H T (wY (sBy w n f i o) n 3)) (he : giE T (wY (sBy w n f i o) n 2)) (h0 : f = 4 ∨ f = 5 → wY w n f i = none) : GN F H T G (sBy w n f i o) n := by
  have y : ∀ f' i', f' < 2 ∨ 6 < f' → wY (sBy w n f i o) n f' i' = wY w n f' i' := fun f' i' h => B_o _ _ _ _ _ (by omega)
  have y8 : wY (sBy w n f i o) n 8 = wY w n 8 := funext fun x => y 8 x (by omega)
  refine ⟨g.a, g.p, hv, hh, hd, hs, he, ?_, ?_, ?_, g.u, ?_, ?_⟩
  · rw [y 0 0 (by omega), y 1 0 (by omega)]; exact g.l
  · rw [y8]; exact g.o
  · rw [y8]; exact g.g
  · rw [y 9 0 (by omega)]; exact g.b
  · rw [y8]
    intro up j x hj hx
    obtain ⟨a, c⟩ := g.f up j x hj hx
    constructor
    · intro k
      have a := a k
      show wY (sBy w n f i o) n 4 (16 * ((wN w n 1).toNat % 2) + bg x 4) = some x
      by_cases z : f = 4 ∧ 16 * ((wN w n 1).toNat % 2) + bg x 4 = i
      · have := h0 (Or.inl z.1)
        rw [z.1, ← z.2, a] at this
        cases this
      · rw [B_o _ _ _ _ _ (by omega)]
        exact a
    · intro k
      have c := c k
      show wY (sBy w n f i o) n 5 (vq (if bg x 0 = 3 then 1 else 0) ((wN w n 1).toNat % 2) (bg x 4) n) = some x
      by_cases z : f = 5 ∧ vq (if bg x 0 = 3 then 1 else 0) ((wN w n 1).toNat % 2) (bg x 4) n = i
      · have := h0 (Or.inr z.1)
        rw [z.1, ← z.2, c] at this
        cases this
      · rw [B_o _ _ _ _ _ (by omega)]
        exact c
theorem giV.o {f i : Nat} {o : Option (List Nat)} (g : giV H T G (wN w n 1) (wY w n 5)) (hf : f ≠ 5) : giV H T G (wN w n 1) (wY (sBy w n f i o) n 5) := by
  rw [show wY (sBy w n f i o) n 5 = wY w n 5 from funext fun x => B_o _ _ _ _ _ (by omega)]; exact g
theorem giH.o {f i : Nat} {o : Option (List Nat)} (g : giH H T G (wN w n 1) (wY w n 4)) (hf : f ≠ 4) : giH H T G (wN w n 1) (wY (sBy w n f i o) n 4) := by
  rw [show wY (sBy w n f i o) n 4 = wY w n 4 from funext fun x => B_o _ _ _ _ _ (by omega)]; exact g
theorem giD.o {f i : Nat} {o : Option (List Nat)} (g : giD T (wN w n 1) (wY w n 6)) (hf : f ≠ 6) : giD T (wN w n 1) (wY (sBy w n f i o) n 6) := by
  rw [show wY (sBy w n f i o) n 6 = wY w n 6 from funext fun x => B_o _ _ _ _ _ (by omega)]; exact g
theorem giS.o {f i : Nat} {o : Option (List Nat)} (g : giS H T (wY w n 3)) (hf : f ≠ 3) : giS H T (wY (sBy w n f i o) n 3) := by
  rw [show wY (sBy w n f i o) n 3 = wY w n 3 from funext fun x => B_o _ _ _ _ _ (by omega)]; exact g
theorem giE.o {f i : Nat} {o : Option (List Nat)} (g : giE T (wY w n 2)) (hf : f ≠ 2) : giE T (wY (sBy w n f i o) n 2) := by
  rw [show wY (sBy w n f i o) n 2 = wY w n 2 from funext fun x => B_o _ _ _ _ _ (by omega)]; exact g
theorem GI.by_ {f i : Nat} {o : Option (List Nat)} (g : GI F H T G w) (hn : n < H) (gn : GN F H T G (sBy w n f i o) n) : GI F H T G (sBy w n f i o) := g.step hn wfr.B (fun _ _ z => z) (fun _ _ => rfl) gn g.2.2
theorem GI.kp (g : GI F H T G w) (hn : n < H) (h0 : bg m 0 = 6) (h1 : bg m 1 < T) (hB : isB m) (he : evOK T m 1) (hl : m.length = 1 + evSz m 1) : GI F H T G (aKp w n m).2 := by
  unfold aKp
  split
  · have gn := g.2.1 n hn
    refine g.by_ hn (gn.by_ (by omega) (gn.v.o (by omega)) (gn.hd.o (by omega)) (gn.d.o (by omega)) (gn.s.o (by omega)) ?_ (by omega))
    intro s x hs e
    by_cases c : s = bg m 1
    · rw [c, B_s] at e
      cases e
      exact ⟨by omega, h0, c.symm, hB, he, hl⟩
    · rw [B_o _ _ _ _ _ (by omega)] at e
      exact gn.e s x hs e
  · exact g
theorem sk_no {f t tk : Nat} (h : bg m 0 = 0 ∨ bg m 0 = 4 ∨ bg m 0 = 5 ∨ bg m 0 = 6) : skX H T G (f, t, tk, m) := fun _ => ⟨fun z => absurd (show bg m 0 = 1 ∨ bg m 0 = 2 ∨ bg m 0 = 3 from z) (by omega), fun z => absurd (show bg m 0 = 7 from z) (by omega)⟩
theorem GI.ev {y : List Nat} (g : GI F H T G w) (hn : n < H) (hB : isB m) (hB' : isB y) (h0 : bg m 0 = 1 ∨ bg m 0 = 2 ∨ bg m 0 = 3) (h1 : bg m 1 < T) (h2 : hOK (tw m 2)) (h4 : bg m 4 ≤ 15) (ne : edM m ≠ edM y) (hk : bg m 0 = 1 → edM y ≠ none) : GI F H T G (aEv w n T m y) := by
  obtain ⟨e0, e1, e2, e3, e4⟩ := evM_ok hB hB' h0 h1 h2 h4 ne hk
  have k := g.kp (m := evM m y) hn e0 (by rw [e1]; exact h1) e2 e3 e4
  unfold aEv
  split
  · exact k.many (fun t => sk_no (by omega))
  · exact k
/-- what a node tells of itself is its books -/
theorem snM_ok (g : giB (bkN (wN w) n) (wY w n 9 0)) : bkOK (snB (snM w n)) := by
  obtain ⟨⟨b1, b2, b3, b4⟩, _⟩ := g
  have le := fun a (ha : a < 16) => bkOK.le ⟨b1, b2, b3, b4⟩ ha
  have at5 : ∀ a r, r < 5 → (35 + 5 * a + r - 35) % 5 = r ∧ (35 + 5 * a + r - 35) / 5 = a := fun a r hr => by omega
  have m0 : ∀ a, a < 16 → snB (snM w n) a = bkN (wN w) n a := fun a ha => by
    have l := le a ha
    rw [snB_0 ha]
    unfold tw
    rw [snM_bg (by omega), snM_bg (by omega)]
    unfold snI
    rw [if_neg (by omega), if_neg (by omega), if_neg (by omega), if_neg (by omega), if_pos (by omega), if_neg (by omega), if_neg (by omega), if_neg (by omega), if_neg (by omega), if_neg (by omega), if_pos (at5 a 1 (by omega)).1, (at5 a 1 (by omega)).2, show (35 + 5 * a - 35) / 5 = a by omega]
    omega
  have m1 : ∀ a, a < 16 → 0 ≤ snB (snM w n) (16 + a) ∧ snB (snM w n) (16 + a) ≤ 65536 := fun a ha => by
    rw [snB_1 ha]
    have hB : isB (snM w n) := isB_mk (fun i hi => by
      unfold snI
      obtain ⟨_, d, d1, d2, d3⟩ := (show giB (bkN (wN w) n) (wY w n 9 0) from ⟨⟨b1, b2, b3, b4⟩, by assumption⟩)
      split
      · omega
      split
      · omega
      split
      · omega
      split
      · rw [d1]; exact d3 _
      split
      · omega
      split
      · omega
      split
      · omega
      split
      · omega
      split <;> omega)
    have := tw_lt hB (35 + 5 * a + 2)
    omega
  have m2 : ∀ a, a < 16 → snB (snM w n) (32 + a) = 0 ∨ snB (snM w n) (32 + a) = 1 := fun a ha => by
    rw [snB_2 ha]
    split
    · exact Or.inr rfl
    · exact Or.inl rfl
  refine ⟨fun a ha => by rw [m0 a ha]; exact b1 a ha, ?_, m1, m2⟩
  have s : ∀ j, j ≤ 16 → smB (snB (snM w n)) j = smB (bkN (wN w) n) j := by
    intro j
    induction j with
    | zero => intro _; rfl
    | succ j ih =>
      intro hj
      unfold smB
      rw [ih (by omega), m0 j (by omega)]
  rw [s 16 (by omega)]
  exact b2
theorem GI.ans {t x : Nat} (g : GI F H T G w) (hn : n < H) : GI F H T G (aPost w n t (anB w n x)) := by
  have gn := g.2.1 n hn
  have sn : skX H T G (n, t, wT w, snM w n) := fun _ => ⟨fun z => by
    have z : bg (snM w n) 0 = 1 ∨ bg (snM w n) 0 = 2 ∨ bg (snM w n) 0 = 3 := z
    rw [snM_bg (by decide)] at z
    have e : snI (wN w n 1).toNat ((wY w n 9 0).getD z32) (bkN (wN w) n) 0 = 7 := rfl
    rw [e] at z
    omega, fun _ _ => snM_ok gn.b⟩
  refine g.post ?_
  unfold anB
  split
  · split
    · exact sk_no (Or.inr (Or.inl rfl))
    · exact sn
  · exact sn
theorem GI.ah {t : Nat} (g : GI F H T G w) (hn : n < H) : GI F H T G (aAH w n t T) := by
  have gn := g.2.1 n hn
  have cb := g.1.b
  have one : ∀ r p x, r < 16 → p < 1 + 2 * T → anM w n T r p = some x → skX H T G (n, t, wT w, x) := fun r p x hr hp e => by
    unfold anM at e
    split at e
    · obtain ⟨b1, b2, b3, b4, b5, b6, b7, b8⟩ := gn.hd _ r x (by omega) hr e
      exact fun _ => ⟨fun _ z => b8 z, fun z => absurd (show bg x 0 = 7 from z) (by omega)⟩
    · split at e
      · obtain ⟨b1, b2, b3, b4, b5, b6, b7, b8, b9⟩ := gn.v 0 _ r _ x (by omega) (by omega) hr (by omega) e
        exact fun _ => ⟨fun _ z => by show G (bg x 1) x; rw [b3]; exact b9 (by have z : bg x 1 < H := z; omega), fun z => absurd (show bg x 0 = 7 from z) (by omega)⟩
      · obtain ⟨b1, b2, b3, b4, b5, b6, b7, b8, b9⟩ := gn.v 1 _ r _ x (by omega) (by omega) hr (by omega) e
        exact fun _ => ⟨fun _ z => by show G (bg x 1) x; rw [b3]; exact b9 (by have z : bg x 1 < H := z; omega), fun z => absurd (show bg x 0 = 7 from z) (by omega)⟩
  have row : ∀ r k, r < 16 → GS H T G k → ∀ p, p ≤ 1 + 2 * T → GS H T G (anR w n t T r k p) := fun r k hr hk p => by
    induction p with
    | zero => intro _; exact hk
    | succ p ih =>
      intro hp
      have i := ih (by omega)
      show GS H T G (psO (anR w n t T r k p) n t (wT w) (anM w n T r p))
      cases e : anM w n T r p with
      | none => exact i
      | some x =>
        intro y hy
        rcases pst_mem hy with a | a
        · exact i y a
        · rw [a]; exact one r p x hr (by omega) e
  have all : ∀ r, r ≤ 16 → GS H T G (anA w n t T r) := fun r => by
    induction r with
    | zero => intro _; exact g.2.2
    | succ r ih =>
      intro hr
      exact row r _ (by omega) (ih (by omega)) _ (Nat.le_refl _)
  exact g.sky (all 16 (Nat.le_refl _))
theorem GI.arr (g : GI F H T G w) (hn : n < H) (hb : b < T) (sx : ∀ f t tk, f < H → skX H T G (f, t, tk, m)) (hw : wf T m) (hB : isB m) (h0 : 1 ≤ bg m 0 ∧ bg m 0 ≤ 4) (hh : wN w n 1 ≤ (htM m : Int)) : GI F H T G (aArr w n T b m) := by
  have cb := g.1.b
  have c4 := g.1.2.2.2.1
  have two : ∀ w, GI F H T G w → wN w n 1 ≤ (htM m : Int) → GI F H T G (aArr2 w n T b m) := by
    intro w g hh
    have gn := g.2.1 n hn
    unfold aArr2
    split
    · rename_i d
      have bw := (wf4 d).1 hw
      split
      · rename_i d2
        refine g.by_ hn (gn.by_ (by omega) (gn.v.o (by omega)) (gn.hd.o (by omega)) ?_ (gn.s.o (by omega)) (gn.e.o (by omega)) (by omega))
        intro s x hs e
        by_cases c : s = b
        · rw [c, B_s] at e
          cases e
          refine ⟨by omega, d, bw, hB, ?_⟩
          have := d2.1
          unfold htM at this
          rw [if_neg (by omega)] at this
          exact this
        · rw [B_o _ _ _ _ _ (by omega)] at e
          exact gn.d s x hs e
      · exact g
    · rename_i d
      split
      · rename_i d2
        have k3 : bg m 0 = 1 ∨ bg m 0 = 2 ∨ bg m 0 = 3 := by omega
        have ht : htM m = tw m 2 := by unfold htM; rw [if_pos k3]
        rw [ht] at hh d2
        split
        · rename_i d3
          obtain ⟨⟨p1, p2, p3⟩, p4, p5, p6⟩ := (wf1 d3).1 hw
          unfold aArP
          split
          · rename_i d4
            split
            · rename_i y0
              refine GI.many (GI.by_ g hn (gn.by_ (by omega) (gn.v.o (by omega)) ?_ (gn.d.o (by omega)) (gn.s.o (by omega)) (gn.e.o (by omega)) (fun _ => y0))) (fun t => sx n t _ hn)
              intro p r x hp hr e
              by_cases c : 16 * p + r = hpI m
              · rw [c, B_s] at e
                cases e
                unfold hpI at c
                exact ⟨d3, by omega, by omega, by unfold nxt; omega, ⟨⟨p1, p2, p3⟩, p4, p5, p6⟩, hB, by rw [d4]; congr 2; omega, fun z => (sx 0 0 0 (by omega) hw).1 (Or.inl d3) z⟩
              · rw [B_o _ _ _ _ _ (by omega)] at e
                exact gn.hd p r x hp hr e
            · rename_i y y0
              split
              · exact g
              · rename_i d5
                obtain ⟨b1, b2, b3, b4, b5, b6, b7, b8⟩ := gn.hd (tw m 2 % 2) (bg m 4) y (by omega) (by omega) y0
                have eM : edM m = some (idB (m.drop 6)) := by unfold edM; rw [if_pos d3]
                have eY : edM y = some (idB (y.drop 6)) := by unfold edM; rw [if_pos b1]
                exact g.ev hn hB b6 k3 p1 p2 p3 (by rw [eM, eY]; intro z; injection z with z; exact d5 z) (fun _ => by rw [eY]; exact fun z => by cases z)
          · exact g
        · rename_i d3
          have k2 : bg m 0 = 2 ∨ bg m 0 = 3 := by omega
          obtain ⟨⟨p1, p2, p3⟩, p4⟩ := (wf23 k2).1 hw
          unfold aArV
          split
          · rename_i y0
            refine GI.many (GI.by_ g hn (gn.by_ (by omega) ?_ (gn.hd.o (by omega)) (gn.d.o (by omega)) (gn.s.o (by omega)) (gn.e.o (by omega)) (fun _ => y0))) (fun t => sx n t _ hn)
            intro c p r s x hc hp hr hs e
            by_cases z : vq c p r s = vpI m
            · rw [z, B_s] at e
              cases e
              obtain ⟨j1, j2, j3, j4⟩ := vq_inj z hp hr hs (by omega) (by omega) (by omega)
              exact ⟨by omega, by omega, j4.symm, j3.symm, j2.symm, by unfold nxt; omega, ⟨⟨p1, p2, p3⟩, p4⟩, hB, fun q => by
                have := (sx 0 0 0 (by omega) hw).1 (Or.inr k2)
                have this : bg m 1 < H → G (bg m 1) m := this
                rw [← j4] at this
                exact this q⟩
            · rw [B_o _ _ _ _ _ (by omega)] at e
              exact gn.v c p r s x hc hp hr hs e
          · rename_i y y0
            split
            · exact g
            · rename_i d5
              obtain ⟨b1, b2, b3, b4, b5, b6, b7, b8, b9⟩ := gn.v (bg m 0 - 2) (tw m 2 % 2) (bg m 4) (bg m 1) y (by omega) (by omega) (by omega) (by omega) y0
              exact g.ev hn hB b8 k3 p1 p2 p3 d5 (fun z => absurd z d3)
      · exact g
  unfold aArr
  split
  · exact two _ (g.post (sk_no (Or.inr (Or.inr (Or.inl rfl))))) hh
  · exact two w g hh
theorem GI.got (g : GI F H T G w) (hn : n < H) (hb : b < T) (sx : ∀ t tk, skX H T G (b, t, tk, m)) (hw : wf T m) (hB : isB m) : GI F H T G (aGot w n T b m) := by
  have cb := g.1.b
  have gn := g.2.1 n hn
  have k7 : bg m 0 ≤ 7 := by
    by_cases c : bg m 0 ≤ 7
    · exact c
    · exact absurd hw (wf8 (by omega))
  unfold aGot
  split
  · rename_i d
    obtain ⟨l8, py⟩ := (wf0 d).1 hw
    have gp : GI F H T G (aPool w n (sl m 1 7)).2 := by
      unfold aPool
      split
      · exact g
      · refine g.step hn wfr.P (fun _ _ z => z) (fun _ _ => rfl) ?_ g.2.2
        refine ⟨gn.a, ?_, gn.v, gn.hd, gn.d, gn.s, gn.e, gn.l, gn.o, gn.g, gn.u, gn.b, gn.f⟩
        have : wP (sP w n (wP w n ++ [sl m 1 7])) n = wP w n ++ [sl m 1 7] := by
          show (if n = n then _ else _) = _
          rw [if_pos rfl]
        rw [this]
        intro q hq
        rw [List.length_append] at hq
        have hq : q < (wP w n).length + 1 := hq
        rw [pg_snoc]
        by_cases c : q < (wP w n).length
        · rw [if_pos c]; exact gn.p q c
        · rw [if_neg c, if_pos (by omega)]
          exact ⟨sl_len _ _ _, isB_sl hB _ _, payOK_at py (by rw [sl_len]; decide) (fun i hi => by rw [Nat.zero_add, sl_in hi])⟩
    split
    · exact gp.many (fun t => sk_no (Or.inl d))
    · exact gp
  split
  · rename_i d
    obtain ⟨e1, e2⟩ := (wf6 d).1 hw
    have gk := g.kp hn d e1.2.1 hB e1 e2
    split
    · exact gk.many (fun t => sk_no (Or.inr (Or.inr (Or.inr d))))
    · exact gk
  split
  · rename_i d
    split
    · refine g.by_ hn (gn.by_ (by omega) (gn.v.o (by omega)) (gn.hd.o (by omega)) (gn.d.o (by omega)) ?_ (gn.e.o (by omega)) (by omega))
      intro s x hs e
      by_cases c : s = b
      · rw [c, B_s] at e
        cases e
        exact ⟨by omega, d, (wf7 d).1 hw, hB, fun z => (sx 0 0 hw).2 d (by show b < H; omega)⟩
      · rw [B_o _ _ _ _ _ (by omega)] at e
        exact gn.s s x hs e
    · exact g
  split
  · split
    · exact g.ans hn
    · exact g
  split
  · split
    · exact g.ah hn
    · exact g
  · rename_i d1 d2 d3 d4 d5
    refine g.arr hn hb (fun f t tk hf => fun z => ⟨(sx t tk z).1, fun q => absurd (show bg m 0 = 7 from q) d3⟩) hw hB (by omega) (by omega)
end
end

section
/-! THE CLASS'S LOG: a note is written -/
/-- what places hold stays -/
def pfr (g H : Nat) (s s' : cS) : Prop := cP s' (g + 17) = cP s (g + 17) ∧ (∀ m e, m < H → e < 6 → cP s' (nd g m + plO e) = cP s (nd g m + plO e)) ∧ ∀ m k, m < H → k = 14 ∨ k = 15 → cR s' k (nd g m) = cR s k (nd g m)
/-- what hands have stays looked at -/
def ffr (g H : Nat) (hd : List Nat) (s s' : cS) : Prop := (∀ x, x ∈ hd → cI s' 4 x = cI s 4 x) ∧ pfr g H s s'
theorem pfr.refl {g H : Nat} {s : cS} : pfr g H s s := ⟨rfl, fun _ _ _ _ => rfl, fun _ _ _ _ => rfl⟩
theorem pfr.trans {g H : Nat} {s s1 s2 : cS} (h : pfr g H s s1) (h' : pfr g H s1 s2) : pfr g H s s2 := ⟨h'.1.trans h.1, fun m e a b => (h'.2.1 m e a b).trans (h.2.1 m e a b), fun m k a b => (h'.2.2 m k a b).trans (h.2.2 m k a b)⟩
theorem pfr.us {g H T : Nat} {hd : List Nat} {s s1 : cS} (h : pfr g H s s1) (a : Nat) : us g H T s1 hd a = us g H T s hd a := by
  have e := cnA_fr (T := T) (a := a) h.1 h.2.1 h.2.2
  show cnA g H T s1 a + hd.count a = cnA g H T s a + hd.count a
  rw [e]
theorem ffr.refl {g H : Nat} {hd : List Nat} {s : cS} : ffr g H hd s s := ⟨fun _ _ => rfl, pfr.refl⟩
theorem ffr.trans {g H : Nat} {hd : List Nat} {s s1 s2 : cS} (h : ffr g H hd s s1) (h' : ffr g H hd s1 s2) : ffr g H hd s s2 := ⟨fun x hx => (h'.1 x hx).trans (h.1 x hx), h.2.trans h'.2⟩
theorem cfr.pf {P : Nat → Prop} {g H : Nat} {s s' : cS} (h : cfr P s s') : pfr g H s s' := by
  obtain ⟨h1, h2, h3, h4, h5, h6, h7, h8, h9⟩ := h
  exact ⟨by rw [h6], fun _ _ _ _ => by rw [h6], fun _ _ _ _ => by rw [h5]⟩
/-- the note that is open -/
def noC (s : cS) (b : Nat) (t : List Nat) : Prop := cI s 4 (b + 1) = nI t.length ∧ 8 ≤ t.length ∧ t.length ≤ 1000 ∧ isB t ∧ ∀ i, i < t.length → i ≠ 4 → i ≠ 5 → cA s (b + 4) i = sb (bg t i)
/-- the world after so many of a note's sectors -/
def aWj (w : Wd) (n : Nat) (t : List Nat) (fst : Nat) : Nat → Wd
  | 0 => sN w n 12 (if 0 < wN w n 12 then wN w n 12 - 1 else 0)
  | j + 1 => aSe (aWj w n t fst j) n (fst + j) (fun i => bg (ntL t) (512 * j + i)) (noS t.length (nTrn w n) j) (if nTrn w n = true ∧ j + 1 = nMny t then 0 else 1)
section
variable {F N g H T n fst : Nat} {s s' : cS} {ct : Nat → List Nat} {hd : List Nat} {w : Wd} {pe : Nat → Int} {t : List Nat}
theorem CR.kd (h : CR F g H T s ct hd w pe) {x : Nat} (hx : x ∈ hd) : cK s x = 5 ∧ nd g H ≤ x ∧ x + 2 < cn s := by
  have k := h.2.2.2.1.k (us_in hx)
  exact ⟨k, h.2.2.2.1.n k, (h.2.1.ms k).2.2.2⟩
theorem aSe_N1 {q c d n' k : Nat} {f : Nat → Nat} (h : n' ≠ n) : wN (aSe w n q f c d) n' k = wN w n' k := by
  show (if n' = n ∧ k = 100 + q then (d : Int) else if n' = n ∧ k = 14 then w.1 n' k + d else w.1 n' k) = w.1 n' k
  rw [if_neg (fun z => h z.1), if_neg (fun z => h z.1)]
theorem aSe_N2 {q c d : Nat} {f : Nat → Nat} : wN (aSe w n q f c d) n (100 + q) = d := by
  show (if n = n ∧ 100 + q = 100 + q then (d : Int) else if n = n ∧ 100 + q = 14 then w.1 n (100 + q) + d else w.1 n (100 + q)) = d
  rw [if_pos ⟨rfl, rfl⟩]
theorem aSe_N3 {q c d : Nat} {f : Nat → Nat} : wN (aSe w n q f c d) n 14 = wN w n 14 + d := by
  show (if n = n ∧ 14 = 100 + q then (d : Int) else if n = n ∧ 14 = 14 then w.1 n 14 + d else w.1 n 14) = w.1 n 14 + d
  rw [if_neg (by omega), if_pos ⟨rfl, rfl⟩]
theorem aSe_N4 {q c d k : Nat} {f : Nat → Nat} (h1 : k ≠ 100 + q) (h2 : k ≠ 14) : wN (aSe w n q f c d) n k = wN w n k := by
  show (if n = n ∧ k = 100 + q then (d : Int) else if n = n ∧ k = 14 then w.1 n k + d else w.1 n k) = w.1 n k
  rw [if_neg (fun z => h1 z.2), if_neg (fun z => h2 z.2)]
theorem aWj_N (j : Nat) (hj : j ≤ nMny t) : (∀ n' k, n' ≠ n → wN (aWj w n t fst j) n' k = wN w n' k) ∧ wN (aWj w n t fst j) n 12 = (if 0 < wN w n 12 then wN w n 12 - 1 else 0) ∧ wN (aWj w n t fst j) n 14 = wN w n 14 + (j : Nat) - (if nTrn w n = true ∧ j = nMny t ∧ 0 < j then 1 else 0) ∧ (∀ k, 100 + fst ≤ k → k < 100 + fst + j → wN (aWj w n t fst j) n k = (if nTrn w n = true ∧ k + 1 = 100 + fst + nMny t then 0 else 1)) ∧ ∀ k, k ≠ 12 → k ≠ 14 → ¬ (100 + fst ≤ k ∧ k < 100 + fst + j) → wN (aWj w n t fst j) n k = wN w n k := by
  induction j with
  | zero =>
    refine ⟨fun n' k h => N_o _ _ _ _ (Or.inl h), N_s _ _ _ _, ?_, fun k h1 h2 => absurd h2 (by omega), fun k h1 h2 _ => N_o _ _ _ _ (Or.inr h1)⟩
    rw [if_neg (by omega)]
    show wN (sN w n 12 _) n 14 = _
    rw [N_o _ _ _ _ (Or.inr (by decide))]
    omega
  | succ j ih =>
    obtain ⟨i1, i2, i3, i4, i5⟩ := ih (by omega)
    have u : aWj w n t fst (j + 1) = aSe (aWj w n t fst j) n (fst + j) (fun i => bg (ntL t) (512 * j + i)) (noS t.length (nTrn w n) j) (if nTrn w n = true ∧ j + 1 = nMny t then 0 else 1) := rfl
    rw [u]
    refine ⟨fun n' k h => by rw [aSe_N1 h]; exact i1 n' k h, by rw [aSe_N4 (by omega) (by decide)]; exact i2, ?_, fun k h1 h2 => ?_, fun k h1 h2 h3 => by rw [aSe_N4 (by omega) h2]; exact i5 k h1 h2 (by omega)⟩
    · rw [aSe_N3, i3, if_neg (show ¬ (nTrn w n = true ∧ j = nMny t ∧ 0 < j) by omega)]
      by_cases d : nTrn w n = true ∧ j + 1 = nMny t
      · rw [if_pos d, if_pos ⟨d.1, d.2, by omega⟩]
        omega
      · rw [if_neg d, if_neg (fun z => d ⟨z.1, z.2.1⟩)]
        omega
    · by_cases c : k = 100 + (fst + j)
      · subst c
        rw [aSe_N2]
        by_cases d : nTrn w n = true ∧ j + 1 = nMny t
        · rw [if_pos d, if_pos ⟨d.1, by omega⟩]
          rfl
        · rw [if_neg d, if_neg (fun z => d ⟨z.1, by omega⟩)]
          rfl
      · rw [aSe_N4 c (by omega)]
        exact i4 k h1 (by omega)
theorem aWj_X (j : Nat) (n' q i : Nat) : wX (aWj w n t fst j) n' q i = if n' = n ∧ fst ≤ q ∧ q < fst + j ∧ i < noS t.length (nTrn w n) (q - fst) then bg (ntL t) (512 * (q - fst) + i) else wX w n' q i := by
  induction j with
  | zero =>
    rw [if_neg (by omega)]
    rfl
  | succ j ih =>
    show (if n' = n ∧ q = fst + j ∧ i < noS t.length (nTrn w n) j then bg (ntL t) (512 * j + i) else wX (aWj w n t fst j) n' q i) = _
    rw [ih]
    by_cases c : n' = n ∧ q = fst + j
    · obtain ⟨c1, c2⟩ := c
      subst c2
      rw [show fst + j - fst = j by omega]
      by_cases d : i < noS t.length (nTrn w n) j
      · rw [if_pos ⟨c1, rfl, d⟩, if_pos ⟨c1, by omega, by omega, d⟩]
      · rw [if_neg (fun z => d z.2.2), if_neg (fun z => d z.2.2.2), if_neg (fun z => d z.2.2.2)]
    · rw [if_neg (fun z => c ⟨z.1, z.2.1⟩)]
      by_cases d : n' = n ∧ fst ≤ q ∧ q < fst + j ∧ i < noS t.length (nTrn w n) (q - fst)
      · rw [if_pos d, if_pos ⟨d.1, d.2.1, by omega, d.2.2.2⟩]
      · rw [if_neg d, if_neg (fun z => d ⟨z.1, z.2.1, by omega, z.2.2.2⟩)]
theorem aWj_o (j : Nat) : (aWj w n t fst j).2.1 = w.2.1 ∧ (aWj w n t fst j).2.2.1 = w.2.2.1 ∧ (aWj w n t fst j).2.2.2.2 = w.2.2.2.2 := by
  induction j with
  | zero => exact ⟨rfl, rfl, rfl⟩
  | succ j ih => exact ih
theorem aWj_end (h : 1 ≤ nMny t) : aWj w n t fst (nMny t) = aWr w n t fst := by
  have e1 : (aWj w n t fst (nMny t)).1 = (aWr w n t fst).1 := funext fun n' => funext fun k => by
    obtain ⟨i1, i2, i3, i4, i5⟩ := aWj_N (w := w) (n := n) (t := t) (fst := fst) (nMny t) (Nat.le_refl _)
    show wN (aWj w n t fst (nMny t)) n' k = (if n' = n ∧ k = 12 then (if 0 < wN w n 12 then wN w n 12 - 1 else 0) else if n' = n ∧ k = 14 then wN w n 14 + (nMny t : Nat) - (if nTrn w n then 1 else 0) else if n' = n ∧ 100 + fst ≤ k ∧ k < 100 + fst + nMny t then (if nTrn w n = true ∧ k + 1 = 100 + fst + nMny t then 0 else 1) else w.1 n' k)
    by_cases c : n' = n
    · subst c
      by_cases c1 : k = 12
      · subst c1
        rw [if_pos ⟨rfl, rfl⟩]
        exact i2
      · rw [if_neg (fun z => c1 z.2)]
        by_cases c2 : k = 14
        · subst c2
          rw [if_pos ⟨rfl, rfl⟩, i3]
          by_cases d : nTrn w n' = true
          · rw [if_pos ⟨d, rfl, by omega⟩, if_pos d]
          · rw [if_neg (fun z => d z.1), if_neg d]
        · rw [if_neg (fun z => c2 z.2)]
          by_cases c3 : 100 + fst ≤ k ∧ k < 100 + fst + nMny t
          · rw [if_pos ⟨rfl, c3⟩]
            exact i4 k c3.1 c3.2
          · rw [if_neg (fun z => c3 z.2)]
            exact i5 k c1 c2 c3
    · rw [if_neg (fun z => c z.1), if_neg (fun z => c z.1), if_neg (fun z => c z.1)]
      exact i1 n' k c
  have e2 : (aWj w n t fst (nMny t)).2.2.2.1 = (aWr w n t fst).2.2.2.1 := funext fun n' => funext fun q => funext fun i => aWj_X (w := w) (n := n) (t := t) (fst := fst) (nMny t) n' q i
  obtain ⟨o1, o2, o3⟩ := aWj_o (w := w) (n := n) (t := t) (fst := fst) (nMny t)
  have ext : ∀ a b : Wd, a.1 = b.1 → a.2.1 = b.2.1 → a.2.2.1 = b.2.2.1 → a.2.2.2.1 = b.2.2.2.1 → a.2.2.2.2 = b.2.2.2.2 → a = b := fun a b h1 h2 h3 h4 h5 => by
    obtain ⟨a1, a2, a3, a4, a5⟩ := a
    obtain ⟨b1, b2, b3, b4, b5⟩ := b
    cases h1
    cases h2
    cases h3
    cases h4
    cases h5
    rfl
  exact ext _ _ e1 o1 o2 e2 o3
/-- a number of the log -/
def lgK (k j : Nat) : Prop := (k = 5 ∧ j = 16) ∨ (k = 6 ∧ j = 15) ∨ (k = 7 ∧ j = 13) ∨ (k = 8 ∧ j = 14) ∨ (k = 9 ∧ j = 12)
theorem CR.lg {k j : Nat} {x : Int} (h : CR F g H T s ct hd w pe) (hn : n < H) (hk : lgK k j) : CR F g H T (csI s k (nd g n + 1) (iI x)) ct hd (sN w n j x) pe := by
  have hc := h.node hn
  obtain ⟨h1, h2, h3, h4, h5, h6⟩ := h
  have l1 : nd g n + 1 < nd g H := by unfold nd; omega
  have ne : ∀ m o, m < H → o < 24 → m ≠ n ∨ o ≠ 1 → nd g m + o ≠ nd g n + 1 := fun m o hm ho z => by unfold nd; omega
  have jj : 12 ≤ j ∧ j ≤ 16 := by unfold lgK at hk; omega
  have wn : ∀ i, i ≠ j → wN (sN w n j x) n i = wN w n i := fun i hi => N_o _ _ _ _ (Or.inr hi)
  refine ⟨h1, h2.I _ _ _, h3, h4.cf (cfr_I _ _ _ _) (fun a ha => by omega), h5.fr rfl rfl rfl rfl (fun _ _ => rfl), h6.one hn (xfr_I.mono (fun a _ z => by unfold ndP; omega)) (fun m hm => ⟨funext fun i => N_o _ _ _ _ (Or.inl hm), rfl, rfl, rfl⟩) rfl rfl rfl (fun _ _ => rfl) rfl ?_⟩
  refine hc.up (fun k' o ho _ h1 _ => cI_other _ _ (Or.inr (by omega))) (fun _ _ => rfl) (fun _ _ _ _ _ _ => rfl) (fun _ _ _ _ => rfl) (fun _ _ _ => rfl) (fun i hi => wn i (by omega)) ?_ ?_ ?_ hc.2.2.2.2.2.2.2.2.2.2.2.2.2
  · obtain ⟨q1, q2, q3, q4, q5⟩ := hc.2.2.1
    unfold qL
    have nw : wN (sN w n j x) n j = x := N_s _ _ _ _
    rcases hk with ⟨rfl, rfl⟩ | ⟨rfl, rfl⟩ | ⟨rfl, rfl⟩ | ⟨rfl, rfl⟩ | ⟨rfl, rfl⟩
    · rw [cI_same, cI_other _ _ (Or.inl (by decide)), cI_other _ _ (Or.inl (by decide)), cI_other _ _ (Or.inl (by decide)), cI_other _ _ (Or.inl (by decide)), nw, wn 15 (by decide), wn 13 (by decide), wn 14 (by decide), wn 12 (by decide)]
      exact ⟨rfl, q2, q3, q4, q5⟩
    · rw [cI_same, cI_other _ _ (Or.inl (by decide)), cI_other _ _ (Or.inl (by decide)), cI_other _ _ (Or.inl (by decide)), cI_other _ _ (Or.inl (by decide)), nw, wn 16 (by decide), wn 13 (by decide), wn 14 (by decide), wn 12 (by decide)]
      exact ⟨q1, rfl, q3, q4, q5⟩
    · rw [cI_same, cI_other _ _ (Or.inl (by decide)), cI_other _ _ (Or.inl (by decide)), cI_other _ _ (Or.inl (by decide)), cI_other _ _ (Or.inl (by decide)), nw, wn 16 (by decide), wn 15 (by decide), wn 14 (by decide), wn 12 (by decide)]
      exact ⟨q1, q2, rfl, q4, q5⟩
    · rw [cI_same, cI_other _ _ (Or.inl (by decide)), cI_other _ _ (Or.inl (by decide)), cI_other _ _ (Or.inl (by decide)), cI_other _ _ (Or.inl (by decide)), nw, wn 16 (by decide), wn 15 (by decide), wn 13 (by decide), wn 12 (by decide)]
      exact ⟨q1, q2, q3, rfl, q5⟩
    · rw [cI_same, cI_other _ _ (Or.inl (by decide)), cI_other _ _ (Or.inl (by decide)), cI_other _ _ (Or.inl (by decide)), cI_other _ _ (Or.inl (by decide)), nw, wn 16 (by decide), wn 15 (by decide), wn 13 (by decide), wn 14 (by decide)]
      exact ⟨q1, q2, q3, q4, rfl⟩
  · intro i hi
    rw [wn (100 + i) (by omega)]
    exact hc.2.2.2.1 i hi
  · intro i i1 i2
    obtain ⟨z1, z2⟩ := hc.2.2.2.2.1 i i1 i2
    refine ⟨z1, fun y hy => ?_⟩
    rw [wn (100 + (2 * i - 2)) (by omega), wn (100 + (2 * i - 1)) (by omega)]
    exact z2 y hy
/-- the open note alone changes -/
theorem CR.nt (h : CR F g H T s ct hd w pe) (hn : n < H) (hf : cfr (fun x => x = nd g n + 1 ∨ x = nd g n + 4) s s') (hi : ∀ j, j ≠ 4 → cI s' j (nd g n + 1) = cI s j (nd g n + 1)) (hz : qZ (cA s' (nd g n + 4))) (st : St 0 g H T s') : CR F g H T s' ct hd w pe := by
  have hc := h.node hn
  obtain ⟨h1, h2, h3, h4, h5, h6⟩ := h
  have lP : ∀ a, a = nd g n + 1 ∨ a = nd g n + 4 → a < nd g H := fun a ha => by unfold nd at *; omega
  obtain ⟨f1, f2, f3, f4, f5, f6, f7, f8, f9⟩ := id hf
  refine ⟨h1, st, by rw [f3]; exact h3, h4.cf hf lP, h5.fr f1 f2 f3 f4 (fun _ _ => by rw [f6]), h6.one hn ((hf.xf lP).mono (fun a _ z => by unfold ndP; omega)) (fun _ _ => ⟨rfl, rfl, rfl, rfl⟩) rfl rfl rfl (fun _ _ => rfl) (by rw [f6]) ?_⟩
  refine hc.up (fun k o ho _ ho1 ho4 => f8 k _ (by omega)) (fun k _ => by rw [f5]) (fun o ho _ ho3 ho4 ho1 => f9 _ (by omega)) (fun o ho _ _ => by rw [f6]) (fun o ho _ => by rw [f7]) (fun _ _ => rfl) ?_ ?_ hc.2.2.2.2.1 hz
  · unfold qL
    rw [hi 5 (by decide), hi 6 (by decide), hi 7 (by decide), hi 8 (by decide), hi 9 (by decide)]
    exact hc.2.2.1
  · intro i hi'
    obtain ⟨x1, x2, x3, x4⟩ := hc.2.2.2.1 i hi'
    rw [f9 (nd g n + 3) (by omega), f6]
    refine ⟨x1, x2, x3, fun r hr => ?_⟩
    obtain ⟨y1, y2, y3, y4, y5, y6⟩ := x4 r hr
    refine ⟨y1, by rw [f3]; exact y2, by rw [f1]; exact y3, by rw [f2]; exact y4, by rw [f1]; exact y5, ?_⟩
    rw [f9 r (fun z => by have := lP r z; omega)]
    exact y6
/-- a sector is written, its row being there -/
theorem sec_128 {rec : Nat → Int32 → Int32 → Int32 → cS → Nat × Nat × Int32 × cS} {rok : Nat → Int32 → Int32 → Int32 → cS → Prop} {P : Nat × Nat × Int32 × cS → Prop} {x2 : Int32} {off q r size tH : Nat} {f : Nat → Nat} (h : CR F g H T s ct hd w pe) (hn : n < H) (hq : q < 284) (hr : cP s (nd g n + 2) q = some r) (hs : size ≤ 512) (ho : off + size ≤ 1024) (ht : tH ≤ 1) (hf : ∀ i, i < (if tH = 0 then size else size / 2) → f i < 256 ∧ cA s (nd g n + 4) (off + i) = sb (f i)) (hch : ∀ k y, 1 ≤ k → k ≤ 40 → wY w n 7 k = some y → q ≠ 2 * k - 2 ∧ q ≠ 2 * k - 1) (k : ∀ s', CR F g H T s' ct hd (aSe w n q f (if tH = 0 then size else size / 2) (1 - tH)) pe → cA s' (nd g n + 4) = cA s (nd g n + 4) → cI s' 4 (nd g n + 1) = cI s 4 (nd g n + 1) → ffr g H hd s s' → wp (rok (nd g n + 1) x2 (nI (off + 512)) (nI (q + 1)) s') (rec (nd g n + 1) x2 (nI (off + 512)) (nI (q + 1)) s') P) : wp (KO_X4_write_128 N g H T rok (nd g n + 1) x2 (nI off) (nI q) (nI size) (nI tH) s) (KF_X4_write_128 N g H T rec (nd g n + 1) x2 (nI off) (nI q) (nI size) (nI tH) s) P := by
  have hcn := h.node hn
  have hh := h
  obtain ⟨h1, h2, h3, h4, h5, h6⟩ := hh
  obtain ⟨y1, y2, y3, y4, y5, y6⟩ := (hcn.2.2.2.1 q hq).2.2.2 r hr
  have to := o52 (isO5 (g := g) hn)
  have L3 : cL s (nd g n + 3) = 284 := h2.rl to (k := 1) rfl (by omega) (by omega)
  have L4 : cL s (nd g n + 4) = 1024 := h2.rl to (k := 2) rfl (by omega) (by omega)
  have rl : ∀ o, o < 24 → nd g n + o ≠ r := fun o ho => by unfold nd at *; omega
  have fin : ∀ c d, c = (if tH = 0 then size else size / 2) → d = 1 - tH → wp (rok (nd g n + 1) x2 (nI (off + 512)) (nI (q + 1)) (cSe s (nd g n) q r off c d)) (rec (nd g n + 1) x2 (nI (off + 512)) (nI (q + 1)) (cSe s (nd g n) q r off c d)) P := fun c d ec ed => by
    have cr := sec_C (off := off) (c := c) (d := d) (f := f) h hn hq hr (by rw [ec]; split <;> omega) (by omega) (by rw [ec]; exact hf) hch
    rw [ec, ed] at cr ⊢
    refine k _ cr ?_ ?_ ?_
    · unfold cSe
      rw [cA_I, cA_ne _ _ _ (by omega), cA_other _ _ (rl 4 (by decide))]
    · unfold cSe
      rw [cI_other _ _ (Or.inl (by decide))]
      rfl
    · refine ⟨fun x hx => ?_, rfl, fun _ _ _ _ => rfl, fun _ _ _ _ => rfl⟩
      unfold cSe
      rw [cI_other _ _ (Or.inl (by decide))]
      rfl
  have e1 : nd g n + 1 + 1 = nd g n + 2 := rfl
  have e2 : nd g n + 1 + 2 = nd g n + 3 := rfl
  have e3 : nd g n + 1 + 3 = nd g n + 4 := rfl
  unfold KO_X4_write_128 KF_X4_write_128
  rw [e1, e3, n_clamp (by omega), hr]
  refine wp_and ((n_in (by omega)).2 (by omega)) ?_
  have c0 : (nI 0).toNatClampNeg = 0 := rfl
  have key : ∀ c d : Nat, c ≤ size → d = 1 - tH → c = (if tH = 0 then size else size / 2) → wp (KO_X4_write_155 N g H T rok (nd g n + 1) x2 (nI off) (nI q) (nI tH) (some (nd g n + 4)) (nI off) (some r) (nI 0) (nI c) s) (KF_X4_write_155 N g H T rec (nd g n + 1) x2 (nI off) (nI q) (nI tH) (some (nd g n + 4)) (nI off) (some r) (nI 0) (nI c) s) P := fun c d hc hd' ec => by
    unfold KO_X4_write_155 KF_X4_write_155
    rw [zsome, zsome, n_clamp (by omega), c0, n_clamp (by omega), L4, y4]
    refine wp_and ⟨someN, someN, ⟨n_lt0 (by omega), by decide, n_lt0 (by omega)⟩, (by omega), (by omega)⟩ ?_
    have Ls : cL (csArow s r (va_cpy (cA s (nd g n + 4)) (cA s r) off 0 c)) (nd g n + 3) = 284 := L3
    have i8 : ∀ v : Int32, cI (csA (csArow s r (va_cpy (cA s (nd g n + 4)) (cA s r) off 0 c)) (nd g n + 3) q v) 8 (nd g n + 1) = cI s 8 (nd g n + 1) := fun _ => rfl
    unfold KO_X4_write_158 KF_X4_write_158 KO_X4_write_174 KF_X4_write_174 KO_X4_write_190 KF_X4_write_190
    rw [e2, zsome, n_clamp (by omega), i8, n_add, n_add, Ls]
    by_cases c1 : tH = 0
    · have d1 : d = 1 := by omega
      subst c1
      refine wp_pos rfl (wp_and ⟨someN, ((n_in (by omega)).2 (by omega)), rfl⟩ (wp_pos rfl ?_))
      have := fin c d ec hd'
      rw [d1] at this
      exact this
    · have t1 : tH = 1 := by omega
      have d0 : d = 0 := by omega
      subst t1
      refine wp_neg (by decide) (wp_and ⟨someN, ((n_in (by omega)).2 (by omega)), rfl⟩ (wp_neg (by decide) ?_))
      have := fin c d ec hd'
      rw [d0] at this
      unfold cSe at this
      rw [I_self (by rw [i8]; show cI s 8 (nd g n + 1) = cI s 8 (nd g n + 1) + 0; rw [Int32.add_zero])] at this
      exact this
  by_cases c1 : tH = 0
  · refine wp_pos (by rw [c1]; rfl) (key size (1 - tH) (Nat.le_refl _) rfl (by rw [if_pos c1]))
  · refine wp_neg (by rw [show (0 : Int32) = nI 0 from rfl, n_eq' (by omega) (by omega)]; exact c1) ?_
    have e : nI size / nI 2 = nI (size / 2) := n_div (by omega) (by decide)
    rw [e]
    exact key (size / 2) (1 - tH) (by omega) rfl (by rw [if_neg c1])
theorem sec_104 {rec : Nat → Int32 → Int32 → Int32 → cS → Nat × Nat × Int32 × cS} {rok : Nat → Int32 → Int32 → Int32 → cS → Prop} {P : Nat × Nat × Int32 × cS → Prop} {x2 : Int32} {off q size tH : Nat} {f : Nat → Nat} (h : CR F g H T s ct hd w pe) (hn : n < H) (hq : q < 284) (hs : size ≤ 512) (ho : off + size ≤ 1024) (ht : tH ≤ 1) (hf : ∀ i, i < (if tH = 0 then size else size / 2) → f i < 256 ∧ cA s (nd g n + 4) (off + i) = sb (f i)) (hch : ∀ k y, 1 ≤ k → k ≤ 40 → wY w n 7 k = some y → q ≠ 2 * k - 2 ∧ q ≠ 2 * k - 1) (k : ∀ s', CR F g H T s' ct hd (aSe w n q f (if tH = 0 then size else size / 2) (1 - tH)) pe → cA s' (nd g n + 4) = cA s (nd g n + 4) → cI s' 4 (nd g n + 1) = cI s 4 (nd g n + 1) → ffr g H hd s s' → wp (rok (nd g n + 1) x2 (nI (off + 512)) (nI (q + 1)) s') (rec (nd g n + 1) x2 (nI (off + 512)) (nI (q + 1)) s') P) : wp (KO_X4_write_104 N g H T rok (nd g n + 1) x2 (nI off) (nI q) (nI size) (nI tH) s) (KF_X4_write_104 N g H T rec (nd g n + 1) x2 (nI off) (nI q) (nI size) (nI tH) s) P := by
  have e1 : nd g n + 1 + 1 = nd g n + 2 := rfl
  have e512 : (nI 512).toNatClampNeg = 512 := rfl
  have to := o52 (isO5 (g := g) hn)
  have L2 : cL s (nd g n + 2) = 284 := h.2.1.rl to (k := 0) rfl (by omega) (by omega)
  have l3 := h.2.2.1
  have lt : nd g n + 4 < cn s := by unfold nd at *; omega
  unfold KO_X4_write_104 KF_X4_write_104
  rw [e1, n_clamp (by omega), e512]
  refine wp_and ((n_in (by omega)).2 (by omega)) ?_
  cases e : cP s (nd g n + 2) q with
  | none =>
    refine wp_pos rfl (wp_and (by decide) ?_)
    unfold KO_X4_write_127 KF_X4_write_127
    rw [zsome, n_clamp (by omega)]
    refine wp_and ⟨someN, ?_, someN⟩ ?_
    · show vp_in (nI q) (if nd g n + 2 = cn s then 512 else cL s (nd g n + 2))
      rw [if_neg (by omega), L2]
      exact ((n_in (by omega)).2 (by omega))
    have cr := new_C h hn hq e
    have a4 : cA (csP (csNew s 20 512) (nd g n + 2) q (some (cn s))) (nd g n + 4) = cA s (nd g n + 4) := by
      show up1 (cA s) (cn s) (fun _ => 0) (nd g n + 4) = _
      unfold up1
      rw [if_neg (by omega)]
    have i4 : ∀ b, b ≠ cn s → cI (csP (csNew s 20 512) (nd g n + 2) q (some (cn s))) 4 b = cI s 4 b := fun b hb => by
      show up1 (cI s 4) (cn s) 0 b = _
      unfold up1
      rw [if_neg hb]
    have cell : cP (csP (csNew s 20 512) (nd g n + 2) q (some (cn s))) (nd g n + 2) q = some (cn s) := by rw [cP_at, if_pos rfl]
    have hx : ∀ x, x ∈ hd → x ≠ cn s := fun x hx => by have := (h.kd hx).2.2; omega
    have pf : pfr g H s (csP (csNew s 20 512) (nd g n + 2) q (some (cn s))) := by
      have o : ∀ b, b < nd g H → b ≠ nd g n + 2 → cP (csP (csNew s 20 512) (nd g n + 2) q (some (cn s))) b = cP s b := fun b hb hb2 => by rw [cP_other _ _ _ hb2, new_P, if_neg (by omega)]
      refine ⟨o _ (by unfold nd; omega) (by unfold nd; omega), fun m e hm he => ?_, fun m k hm _ => new_R s 20 512 k _ (by unfold nd at *; omega)⟩
      have := plO_b e
      exact o _ (by unfold nd; omega) (by unfold nd; omega)
    generalize csP (csNew s 20 512) (nd g n + 2) q (some (cn s)) = s1 at cr a4 i4 cell pf ⊢
    refine sec_128 cr hn hq cell hs ho ht (by rw [a4]; exact hf) hch (fun s' c1 c2 c3 c4 => k s' c1 (c2.trans a4) (c3.trans (i4 _ (by omega))) (ffr.trans ⟨fun x hx' => i4 x (hx x hx'), pf⟩ c4))
  | some r =>
    refine wp_neg someN ?_
    exact sec_128 h hn hq e hs ho ht hf hch k
theorem write_l48 {A : Nat → Int32} (hN : 100 ≤ N) (h : CR F g H T s ct hd (aWj w n t fst 0) pe) (hn : n < H) (h4 : cI s 4 (nd g n + 1) = nI t.length) (hA : cA s (nd g n + 4) = A) (hB : ∀ i, i < t.length → A i = sb (bg (ntL t) i)) (iB : isB t) (t8 : 8 ≤ t.length) (t1 : t.length ≤ 1000) (hf : fst + nMny t ≤ 284) (hch : ∀ k y q, 1 ≤ k → k ≤ 40 → wY w n 7 k = some y → fst ≤ q → q < fst + nMny t → q ≠ 2 * k - 2 ∧ q ≠ 2 * k - 1) {to : Nat} (hto : to = if nTrn w n then 1 else 0) : wp (KOL_X4_write_48 N g H T N (nd g n + 1) (nI to) (nI 0) (nI fst) s) (KL_X4_write_48 N g H T N (nd g n + 1) (nI to) (nI 0) (nI fst) s) (fun z => z.1 = 0 ∧ z.2.1 = nd g n + 1 ∧ z.2.2.1 = nI to ∧ CR F g H T z.2.2.2 ct hd (aWj w n t fst (nMny t)) pe ∧ ffr g H hd s z.2.2.2) := by
  have mm : nMny t = (t.length + 511) / 512 := rfl
  have isL : isB (ntL t) := isB_mk (fun i _ => by
    by_cases c4 : i = 4
    · rw [if_pos c4]
      omega
    · rw [if_neg c4]
      by_cases c5 : i = 5
      · rw [if_pos c5]
        omega
      · rw [if_neg c5]
        exact iB i)
  refine wp_loop (K := nMny t) (fun j (x : cS) => CR F g H T x ct hd (aWj w n t fst j) pe ∧ cA x (nd g n + 4) = A ∧ cI x 4 (nd g n + 1) = nI t.length ∧ ffr g H hd s x) (fun m j x => KOL_X4_write_48 N g H T m (nd g n + 1) (nI to) (nI (512 * j)) (nI (fst + j)) x) (fun m j x => KL_X4_write_48 N g H T m (nd g n + 1) (nI to) (nI (512 * j)) (nI (fst + j)) x) (fun m j x hj hI ih => ?_) 0 N s (by omega) (by omega) ⟨h, hA, h4, ffr.refl⟩
  obtain ⟨i1, i2, i3, i4⟩ := hI
  unfold KOL_X4_write_48 KL_X4_write_48 KOB_X4_write_48 KB_X4_write_48
  rw [i3]
  by_cases c : j = nMny t
  · refine wp_pos (by rw [n_le' (by omega) (by omega)]; omega) (wp_fin trivial ⟨rfl, rfl, rfl, ?_, i4⟩)
    rw [← c]
    exact i1
  have lt : 512 * j < t.length := by omega
  rw [n_sub (by omega)]
  refine wp_neg (by rw [n_le' (by omega) (by omega)]; omega) (wp_neg (n_lt0 (by omega)) (wp_neg (by rw [n_le' (by omega) (by omega)]; omega) ?_))
  have sz : (if nI (t.length - 512 * j) < nI 512 then nI (t.length - 512 * j) else nI 512) = nI (if 512 ≤ t.length - 512 * j then 512 else t.length - 512 * j) := by
    by_cases d : 512 ≤ t.length - 512 * j
    · rw [if_neg (by rw [n_lt' (by omega) (by omega)]; omega), if_pos d]
    · rw [if_pos (by rw [n_lt' (by omega) (by omega)]; omega), if_neg d]
  rw [sz]
  have szb : (if 512 ≤ t.length - 512 * j then 512 else t.length - 512 * j) ≤ 512 ∧ 512 * j + (if 512 ≤ t.length - 512 * j then 512 else t.length - 512 * j) ≤ t.length := by
    split <;> omega
  have wy : wY (aWj w n t fst j) = wY w := (aWj_o j).1
  have step : ∀ tH : Nat, tH ≤ 1 → (tH = 1 ↔ nTrn w n = true ∧ j + 1 = nMny t) → wp (KO_X4_write_104 N g H T (KOL_X4_write_48 N g H T m) (nd g n + 1) (nI to) (nI (512 * j)) (nI (fst + j)) (nI (if 512 ≤ t.length - 512 * j then 512 else t.length - 512 * j)) (nI tH) x) (KF_X4_write_104 N g H T (KL_X4_write_48 N g H T m) (nd g n + 1) (nI to) (nI (512 * j)) (nI (fst + j)) (nI (if 512 ≤ t.length - 512 * j then 512 else t.length - 512 * j)) (nI tH) x) (fun z => z.1 = 0 ∧ z.2.1 = nd g n + 1 ∧ z.2.2.1 = nI to ∧ CR F g H T z.2.2.2 ct hd (aWj w n t fst (nMny t)) pe ∧ ffr g H hd s z.2.2.2) := fun tH ht hh => by
    have ec : (if tH = 0 then (if 512 ≤ t.length - 512 * j then 512 else t.length - 512 * j) else (if 512 ≤ t.length - 512 * j then 512 else t.length - 512 * j) / 2) = noS t.length (nTrn w n) j := by
      unfold noS
      rw [← mm]
      by_cases d : nTrn w n = true ∧ j + 1 = nMny t
      · rw [if_pos d, if_neg (by have := hh.2 d; omega)]
      · rw [if_neg d, if_pos (by
          have : tH ≠ 1 := fun z => d (hh.1 z)
          omega)]
    have ed : 1 - tH = (if nTrn w n = true ∧ j + 1 = nMny t then 0 else 1) := by
      by_cases d : nTrn w n = true ∧ j + 1 = nMny t
      · rw [if_pos d, hh.2 d]
      · rw [if_neg d]
        have : tH ≠ 1 := fun z => d (hh.1 z)
        omega
    refine sec_104 (f := fun i => bg (ntL t) (512 * j + i)) i1 hn (by omega) szb.1 (by omega) ht (fun i hi => ⟨isL _, ?_⟩) (fun k y k1 k2 hy => hch k y (fst + j) k1 k2 (by rw [wy] at hy; exact hy) (by omega) (by omega)) (fun s' c1 c2 c3 c4 => ?_)
    · rw [i2]
      have : i < (if 512 ≤ t.length - 512 * j then 512 else t.length - 512 * j) := by
        by_cases z : tH = 0
        · rw [if_pos z] at hi
          exact hi
        · rw [if_neg z] at hi
          omega
      exact hB _ (by omega)
    · rw [ec, ed] at c1
      have := ih s' ⟨c1, c2.trans i2, c3.trans i3, i4.trans c4⟩ (by omega)
      rw [show 512 * (j + 1) = 512 * j + 512 by omega, show fst + (j + 1) = fst + j + 1 by omega] at this
      exact this
  by_cases d : nTrn w n = true
  · have t1' : to = 1 := by rw [hto, if_pos d]
    refine wp_neg (by rw [t1']; decide) (wp_ite (fun e => ?_) (fun e => ?_)) <;> rw [n_lt' (by omega) (by omega)] at e
    · unfold KO_X4_write_103 KF_X4_write_103
      exact step 0 (by decide) ⟨fun z => absurd z (by decide), fun z => by omega⟩
    · exact step 1 (by decide) ⟨fun _ => ⟨d, by omega⟩, fun _ => rfl⟩
  · have t0' : to = 0 := by rw [hto, if_neg d]
    refine wp_pos (by rw [t0']; rfl) ?_
    unfold KO_X4_write_103 KF_X4_write_103
    exact step 0 (by decide) ⟨fun z => absurd z (by decide), fun z => absurd z.1 d⟩
theorem write_C (hN : 100 ≤ N) (h : CR F g H T s ct hd w pe) (hn : n < H) (hno : noC s (nd g n) t) (hf : fst + nMny t ≤ 284) (h12 : 0 ≤ wN w n 12 ∧ wN w n 12 ≤ 1000) (hch : ∀ k y q, 1 ≤ k → k ≤ 40 → wY w n 7 k = some y → fst ≤ q → q < fst + nMny t → q ≠ 2 * k - 2 ∧ q ≠ 2 * k - 1) : wp (p_X4_write N g H T s (nd g n + 1) (nI fst)) (k_X4_write N g H T s (nd g n + 1) (nI fst)) (fun z => ((nTrn w n = true ∧ z.1 = nI 0 ∧ CR F g H T z.2 ct hd (aWr w n t fst) pe) ∨ (nTrn w n = false ∧ z.1 = nI 1 ∧ CR F g H T z.2 ct hd (sN (aWr w n t fst) n 13 (wN w n 13 + 1)) pe)) ∧ ffr g H hd s z.2) := by
  obtain ⟨n1, n2, n3, n4, n5⟩ := hno
  have hcn := h.node hn
  have mm : nMny t = (t.length + 511) / 512 := rfl
  have q9 : cI s 9 (nd g n + 1) = iI (wN w n 12) := hcn.2.2.1.2.2.2.2
  have e3 : nd g n + 1 + 3 = nd g n + 4 := rfl
  have to := o52 (isO5 (g := g) hn)
  show wp (KO_X4_write_0 N g H T (nd g n + 1) (nI fst) s) (KF_X4_write_0 N g H T (nd g n + 1) (nI fst) s) _
  unfold KO_X4_write_0 KF_X4_write_0
  rw [q9]
  have rest : ∀ tt : Nat, tt = (if nTrn w n then 1 else 0) → wp (KO_X4_write_13 N g H T (nd g n + 1) (nI fst) (nI tt) s) (KF_X4_write_13 N g H T (nd g n + 1) (nI fst) (nI tt) s) (fun z => ((nTrn w n = true ∧ z.1 = nI 0 ∧ CR F g H T z.2 ct hd (aWr w n t fst) pe) ∨ (nTrn w n = false ∧ z.1 = nI 1 ∧ CR F g H T z.2 ct hd (sN (aWr w n t fst) n 13 (wN w n 13 + 1)) pe)) ∧ ffr g H hd s z.2) := fun tt htt => by
    have after : ∀ s1, CR F g H T s1 ct hd (aWj w n t fst 0) pe → cI s1 4 (nd g n + 1) = nI t.length → cA s1 (nd g n + 4) = cA s (nd g n + 4) → ffr g H hd s s1 → wp (KO_X4_write_31 N g H T (nd g n + 1) (nI fst) (nI tt) s1) (KF_X4_write_31 N g H T (nd g n + 1) (nI fst) (nI tt) s1) (fun z => ((nTrn w n = true ∧ z.1 = nI 0 ∧ CR F g H T z.2 ct hd (aWr w n t fst) pe) ∨ (nTrn w n = false ∧ z.1 = nI 1 ∧ CR F g H T z.2 ct hd (sN (aWr w n t fst) n 13 (wN w n 13 + 1)) pe)) ∧ ffr g H hd s z.2) := fun s1 r1 r2 r3 r4 => by
      unfold KO_X4_write_31 KF_X4_write_31
      rw [r2, e3]
      have L4 : cL s1 (nd g n + 4) = 1024 := r1.2.1.rl to (k := 2) rfl (by omega) (by omega)
      obtain ⟨p1, p2⟩ := putTwo_c (N := N) (g := g) (H := H) (T := T) (s := s1) (r := nd g n + 4) (a := 4) (x := t.length) (by omega) (by omega) (by omega)
      refine wp_and p1 ?_
      have tk : tK s1 20 (some (nd g n + 4)) := tK_some (r1.2.1.2.1 3 2 (nd g n + 1) to (by omega) _ rfl).2.1
      have st := (kpc_X11_putTwo r1.2.1 tk p1).1
      rw [p2] at st ⊢
      have z6 := (r1.node hn).2.2.2.2.2.2.2.2.2.2.2.2.2
      have f2 : cfr (fun x => x = nd g n + 1 ∨ x = nd g n + 4) s1 (csA (csA s1 (nd g n + 4) 4 (sb (t.length / 256 % 256))) (nd g n + 4) (4 + 1) (sb (t.length % 256))) := ((cfr_A _ _ _).mono (fun x z => Or.inr z)).trans ((cfr_A _ _ _).mono (fun x z => Or.inr z))
      have row : ∀ i, cA (csA (csA s1 (nd g n + 4) 4 (sb (t.length / 256 % 256))) (nd g n + 4) (4 + 1) (sb (t.length % 256))) (nd g n + 4) i = if i = 5 then sb (t.length % 256) else if i = 4 then sb (t.length / 256 % 256) else cA s1 (nd g n + 4) i := fun i => by rw [cA_at, cA_at]
      have i4 : ∀ x k, cI (csA (csA s1 (nd g n + 4) 4 (sb (t.length / 256 % 256))) (nd g n + 4) (4 + 1) (sb (t.length % 256))) k x = cI s1 k x := fun _ _ => rfl
      generalize csA (csA s1 (nd g n + 4) 4 (sb (t.length / 256 % 256))) (nd g n + 4) (4 + 1) (sb (t.length % 256)) = s2 at st f2 row i4 ⊢
      have cr : CR F g H T s2 ct hd (aWj w n t fst 0) pe := r1.nt hn f2 (fun j _ => i4 _ _) ⟨by rw [row, if_neg (by decide), if_neg (by decide)]; exact z6.1, by rw [row, if_neg (by decide), if_neg (by decide)]; exact z6.2⟩ st
      unfold KO_X4_write_43 KF_X4_write_43
      refine wp_seq (write_l48 (N := N) (A := cA s2 (nd g n + 4)) hN cr hn (by rw [i4]; exact r2) rfl (fun i hi => ?_) n4 n2 n3 hf hch htt) ?_
      · rw [row]
        unfold ntL
        rw [mkB_in hi]
        by_cases c5 : i = 5
        · rw [if_pos c5, if_neg (by omega), if_pos c5]
        · rw [if_neg c5]
          by_cases c4 : i = 4
          · rw [if_pos c4, if_pos c4]
            congr 1
            omega
          · rw [if_neg c4, if_neg c4, if_neg c5, r3]
            exact n5 i hi c4 c5
      rintro ⟨z1, z2, z3, z4⟩ ⟨a1, a2, a3, a4, a5⟩
      have a2' : z2 = nd g n + 1 := a2
      have a3' : z3 = nI tt := a3
      subst a2' a3'
      unfold KOA_X4_write_48 KA_X4_write_48
      show wp (KO_X4_write_202 N g H T (nd g n + 1) (nI tt) z4) (KF_X4_write_202 N g H T (nd g n + 1) (nI tt) z4) _
      have a4' : CR F g H T z4 ct hd (aWr w n t fst) pe := by
        rw [← aWj_end (by omega)]
        exact a4
      have a5' : ffr g H hd s z4 := (r4.trans ⟨fun x _ => i4 x 4, f2.pf⟩).trans a5
      unfold KO_X4_write_202 KF_X4_write_202 KO_X4_write_216 KF_X4_write_216 KO_X4_write_225 KF_X4_write_225
      by_cases d : nTrn w n = true
      · have t1 : tt = 1 := by rw [htt, if_pos d]
        subst t1
        exact wp_neg (by decide) (wp_neg (by decide) (wp_fin rfl ⟨Or.inl ⟨d, rfl, a4'⟩, a5'⟩))
      · have t0 : tt = 0 := by rw [htt, if_neg d]
        subst t0
        have d' : nTrn w n = false := by simpa using d
        have e7 : cI z4 7 (nd g n + 1) = iI (wN w n 13) := by
          have := (a4'.node hn).2.2.1.2.2.1
          rw [this]
          congr 1
          show (if n = n ∧ (13 : Nat) = 12 then _ else if n = n ∧ (13 : Nat) = 14 then _ else if n = n ∧ 100 + fst ≤ 13 ∧ 13 < 100 + fst + nMny t then _ else w.1 n 13) = w.1 n 13
          rw [if_neg (by omega), if_neg (by omega), if_neg (by omega)]
        rw [e7, iI_addn]
        refine wp_pos rfl (wp_pos rfl (wp_fin rfl ⟨Or.inr ⟨d', rfl, a4'.lg hn (Or.inr (Or.inr (Or.inl ⟨rfl, rfl⟩)))⟩, a5'.trans ⟨fun x hx => ?_, rfl, fun _ _ _ _ => rfl, fun _ _ _ _ => rfl⟩⟩))
        exact cI_other _ _ (Or.inl (by decide))
    unfold KO_X4_write_13 KF_X4_write_13
    rw [q9]
    have e0 : (0 : Int32) = iI 0 := rfl
    refine wp_ite (fun d => ?_) (fun d => ?_) <;> rw [e0, iI_le (by omega) (by omega) (by omega) (by omega)] at d
    · refine after s ?_ n1 rfl ffr.refl
      show CR F g H T s ct hd (sN w n 12 (if 0 < wN w n 12 then wN w n 12 - 1 else 0)) pe
      rw [if_neg (by omega)]
      have := h.lg (x := 0) hn (k := 9) (j := 12) (Or.inr (Or.inr (Or.inr (Or.inr ⟨rfl, rfl⟩))))
      rw [I_self (by rw [q9, show wN w n 12 = 0 by omega])] at this
      exact this
    · have e1 : nI 1 = iI 1 := rfl
      rw [e1, iI_sub]
      refine after _ ?_ (by rw [cI_other _ _ (Or.inl (by decide))]; exact n1) rfl ⟨fun x hx => cI_other _ _ (Or.inl (by decide)), rfl, fun _ _ _ _ => rfl, fun _ _ _ _ => rfl⟩
      show CR F g H T _ ct hd (sN w n 12 (if 0 < wN w n 12 then wN w n 12 - 1 else 0)) pe
      rw [if_pos (by omega)]
      exact h.lg hn (Or.inr (Or.inr (Or.inr (Or.inr ⟨rfl, rfl⟩))))
  have e1 : nI 1 = iI 1 := rfl
  refine wp_ite (fun d => ?_) (fun d => ?_) <;> rw [e1, iI_eq (by omega) (by omega) (by omega) (by omega)] at d
  · exact rest 1 (by unfold nTrn; rw [if_pos (by simpa using d)])
  · exact rest 0 (by unfold nTrn; rw [if_neg (by simpa using d)])
end
end

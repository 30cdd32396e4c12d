section
/-! WHAT COMES TO A NODE: a snapshot, a decision -/
section
variable {F N g H T n : Nat} {s s0 S : cS} {ct : Nat → List Nat} {hd : List Nat} {w w' V X : Wd} {pe pe' : Nat → Int} {a b e i : Nat} {G : Gh}
theorem csP_two {S : cS} {r j : Nat} {x y : Option Nat} : csP (csP S r j x) r j y = csP S r j y := by
  have e : cP (csP (csP S r j x) r j y) = cP (csP S r j y) := funext fun q => by
    by_cases c : q = r
    · rw [c]
      funext k
      rw [cP_at, cP_at, cP_at]
      by_cases d : k = j
      · rw [if_pos d, if_pos d]
      · rw [if_neg d, if_neg d, if_neg d]
    · rw [cP_other _ _ _ c, cP_other _ _ _ c, cP_other _ _ _ c]
  show (S.1, S.2.1, S.2.2.1, S.2.2.2.1, S.2.2.2.2.1, S.2.2.2.2.2.1, cP (csP (csP S r j x) r j y), S.2.2.2.2.2.2.2) = (S.1, S.2.1, S.2.2.1, S.2.2.2.1, S.2.2.2.2.1, S.2.2.2.2.2.1, cP (csP S r j y), S.2.2.2.2.2.2.2)
  rw [e]
/-- the worlds differ in one place of a node's bytes -/
theorem sBy_y {f0 i0 : Nat} {o : Option (List Nat)} : (∀ f, f ≠ f0 → wY (sBy w n f0 i0 o) n f = wY w n f) ∧ ∀ j, wY (sBy w n f0 i0 o) n f0 j = if j = i0 then o else wY w n f0 j := by
  refine ⟨fun f hf => funext fun j => ?_, fun j => ?_⟩
  · show (if n = n ∧ f = f0 ∧ j = i0 then o else w.2.1 n f j) = w.2.1 n f j
    exact if_neg (fun q => hf q.2.1)
  · show (if n = n ∧ f0 = f0 ∧ j = i0 then o else w.2.1 n f0 j) = _
    by_cases q : j = i0
    · rw [if_pos ⟨rfl, rfl, q⟩, if_pos q]
    · rw [if_neg (fun z => q z.2.2), if_neg q]
      rfl
theorem holdSnapshot_C {m : List Nat} (h : CR F g H T s ct hd w pe) (hn : n < H) (hl : hd.length ≤ 25) (hu : wN w n 0 = 1) (ha : a ∈ hd) (hca : ct a = m) (hb : b < T) (h7 : m.length ≤ 128) : wp (p_X8_holdSnapshot N g H T s (nd g n + 14) (nI b) (some a)) (k_X8_holdSnapshot N g H T s (nd g n + 14) (nI b) (some a)) (fun z => CR F g H T z.2 ct hd (sBy w n 3 b (some m)) pe ∧ z.1 = nI 1) := by
  have cb := h.1.bb
  have ua := us_in (g := g) (H := H) (T := T) (s := s) ha
  have ms := h.ms ua
  have eS : cI s 1 (nd g n + 14) = nI T := (h.node hn).2.2.2.2.2.2.2.2.2.2.2.2.1
  have aH := h.2.2.2.1.n ms.1
  have nH : nd g n + 24 ≤ nd g H := by unfold nd; omega
  have e8 : nd g n + 14 + 8 = nd g n + 22 := rfl
  obtain ⟨z, cz, oz⟩ := h.z_ hn
  have b1 := cz.bb.up_ ua
  have f1 : mfr g H s (csI s 3 a (cI s 3 a + nI 1)) := mfr_I aH
  have c1 := cz.nz.fx (f1.nfx hn)
  show wp (KO_X8_holdSnapshot_0 N g H T (nd g n + 14) (nI b) (some a) s) (KF_X8_holdSnapshot_0 N g H T (nd g n + 14) (nI b) (some a) s) _
  unfold KO_X8_holdSnapshot_0 KF_X8_holdSnapshot_0 KO_X8_holdSnapshot_37 KF_X8_holdSnapshot_37
  rw [zsome, eS, n_clamp (by omega), e8]
  generalize csI s 3 a (cI s 3 a + nI 1) = s1 at b1 f1 c1 ⊢
  obtain ⟨d1, d2, d3, d4, d5⟩ := b1.lt_ (N := N) (e := 3) (i := b) hn (by show hd.length + 1 ≤ 35; omega) (by decide) hb
  have d1 : p_X9_drop N g H T s1 (g + 11) (cP s1 (nd g n + 22) b) := d1
  have d2 : CRb F g H T (csP (k_X9_drop N g H T s1 (g + 11) (cP s1 (nd g n + 22) b)) (nd g n + 22) b none) ct (a :: hd) w pe n := d2
  have d3 : mfr g H s1 (k_X9_drop N g H T s1 (g + 11) (cP s1 (nd g n + 22) b)) := d3
  have d4 : cP (k_X9_drop N g H T s1 (g + 11) (cP s1 (nd g n + 22) b)) = cP s1 := d4
  refine wp_neg (n_lt0 (by omega)) (wp_pos (by rw [n_lt' (by omega) (by omega)]; omega) (wp_and someN (wp_and ((n_in (by omega)).2 (by omega)) (wp_and d1 (wp_fin ⟨((n_in (by omega)).2 (by omega)), trivial⟩ ⟨?_, rfl⟩)))))
  generalize k_X9_drop N g H T s1 (g + 11) (cP s1 (nd g n + 22) b) = D at d2 d3 d4 ⊢
  have c2 := c1.fx (d3.nfx hn)
  have b3 := d2.pt (e := 3) (i := b) hn (by decide) hb (by show cP (csP D (nd g n + 22) b none) (nd g n + 22) b = none; rw [cP_at, if_pos rfl]) (fun _ => by rw [hca]; exact h7) (fun q => absurd q (by decide))
  have b3 : CRb F g H T (csP (csP D (nd g n + 22) b none) (nd g n + 22) b (some a)) ct hd w pe n := b3
  rw [csP_two] at b3
  obtain ⟨eY, e3⟩ := sBy_y (w := w) (n := n) (f0 := 3) (i0 := b) (o := some m)
  obtain ⟨-, -, -, -, -, -, -, ⟨c8, c8b, c8c⟩, ⟨c9, c9b, c9c⟩, c10, -⟩ := id c2
  have pO : ∀ o, o ≠ 22 → cP (csP D (nd g n + 22) b (some a)) (nd g n + o) = cP D (nd g n + o) := fun o ho => cP_other _ _ _ (by omega)
  have nz := c2.row (s' := csP D (nd g n + 22) b (some a)) (y' := wY (sBy w n 3 b (some m)) n) (p' := wP w n) hn (Nat.le_refl _) (fun _ _ => ⟨rfl, rfl⟩) (fun _ _ => rfl) (fun _ _ _ _ _ => rfl) (fun _ _ => rfl) (fun _ _ => rfl) (fun _ _ _ _ => rfl) (fun o _ _ o2 _ => pO o o2) ⟨?_, ?_, ?_⟩ ⟨?_, ?_, ?_⟩ c10 (fun f _ f3 _ => eY f f3)
  · exact (b3.zz nz).cr (owZ_up oz hu hu (fun f j hf => by rw [eY f (by omega)])) (fun k hk => ⟨rfl, funext fun f => funext fun j => if_neg (fun q => hk q.1), rfl, rfl⟩) rfl rfl rfl (fun _ _ => rfl) rfl rfl rfl rfl rfl
  · rw [pO 20 (by decide), eY 6 (by decide)]
    exact c8
  · rw [eY 6 (by decide)]
    exact c8b
  · rw [eY 6 (by decide)]
    exact c8c
  · intro j hj
    rw [cP_at, e3]
    by_cases q : j = b
    · rw [if_pos q, if_pos q]
      show some (ct a) = some m
      rw [hca]
    · rw [if_neg q, if_neg q]
      exact c9 j hj
  · rw [pO 23 (by decide), eY 2 (by decide)]
    exact c9b
  · rw [eY 2 (by decide)]
    exact c9c
theorem holdDecided_C {m : List Nat} (h : CR F g H T s ct hd w pe) (hn : n < H) (hl : hd.length ≤ 25) (hu : wN w n 0 = 1) (ha : a ∈ hd) (hca : ct a = m) (h4 : cI s 4 a = nI 1) (hb : b < T) : wp (p_X8_holdDecided N g H T s (nd g n + 14) (nI b) (some a)) (k_X8_holdDecided N g H T s (nd g n + 14) (nI b) (some a)) (fun z => (wY w n 6 b = none ∧ CR F g H T z.2 ct hd (sBy w n 6 b (some m)) pe ∧ z.1 = nI 1) ∨ (wY w n 6 b ≠ none ∧ z = (nI 0, s))) := by
  have cb := h.1.bb
  have ua := us_in (g := g) (H := H) (T := T) (s := s) ha
  have ms := h.ms ua
  have eS : cI s 1 (nd g n + 14) = nI T := (h.node hn).2.2.2.2.2.2.2.2.2.2.2.2.1
  have aH := h.2.2.2.1.n ms.1
  have nH : nd g n + 24 ≤ nd g H := by unfold nd; omega
  have e6 : nd g n + 14 + 6 = nd g n + 20 := rfl
  have e7 : nd g n + 14 + 7 = nd g n + 21 := rfl
  obtain ⟨z, cz, oz⟩ := h.z_ hn
  have d7 := cz.nz.2.2.2.2.2.2.1
  have d8 := cz.nz.2.2.2.2.2.2.2.1
  have qk := d8.1 b hb
  show wp (KO_X8_holdDecided_0 N g H T (nd g n + 14) (nI b) (some a) s) (KF_X8_holdDecided_0 N g H T (nd g n + 14) (nI b) (some a) s) _
  unfold KO_X8_holdDecided_0 KF_X8_holdDecided_0 KO_X8_holdDecided_21 KF_X8_holdDecided_21
  rw [eS, n_clamp (by omega), e6, e7]
  refine wp_neg (n_lt0 (by omega)) (wp_neg (by rw [n_le' (by omega) (by omega)]; omega) (wp_and ((n_in (by omega)).2 (by omega)) ?_))
  cases e : cP s (nd g n + 20) b with
  | some a' =>
    rw [e] at qk
    have qk : wY w n 6 b = some (ct a') := qk.symm
    exact wp_neg someN (wp_fin trivial (Or.inr ⟨by rw [qk]; exact fun q => (by cases q), rfl⟩))
  | none =>
    rw [e] at qk
    have qk : wY w n 6 b = none := qk.symm
    refine wp_pos rfl (wp_and ((n_in (by omega)).2 (by omega)) (wp_and ((n_in (by omega)).2 (by omega)) ?_))
    unfold KO_X8_holdDecided_37 KF_X8_holdDecided_37 KO_X8_holdDecided_57 KF_X8_holdDecided_57
    rw [zsome]
    -- the ruling first
    have a1 := cz.A (o := 21) (i := b) (x0 := nI 0) hn (Or.inr (Or.inr rfl)) ⟨d7.1, d7.2.1, fun j hj => by rw [cA_ne _ _ _ (by omega)]; exact d7.2.2.1 j hj, fun p hp => by rw [cA_ne _ _ _ (by omega)]; exact d7.2.2.2 p hp⟩ ⟨d8.1, fun k m' hk em => by
      rw [cA_at]
      by_cases q : k = b
      · rw [q, qk] at em
        cases em
      · rw [if_neg q]
        exact d8.2.1 k m' hk em, d8.2.2⟩
    have ez : cA (csA s (nd g n + 21) b (nI 0)) (nd g n + 21) b = nI 0 := by rw [cA_at, if_pos rfl]
    have eqS : csI (csA (csP s (nd g n + 20) b (some a)) (nd g n + 21) b (nI 0)) 3 a (cI (csA (csP s (nd g n + 20) b (some a)) (nd g n + 21) b (nI 0)) 3 a + nI 1) = csP (csI (csA s (nd g n + 21) b (nI 0)) 3 a (cI (csA s (nd g n + 21) b (nI 0)) 3 a + nI 1)) (nd g n + 20) b (some a) := rfl
    rw [eqS]
    have e' : cP (csA s (nd g n + 21) b (nI 0)) (nd g n + 20) b = none := e
    have h4' : cI (csA s (nd g n + 21) b (nI 0)) 4 a = nI 1 := h4
    have ua' : 1 ≤ us g H T (csA s (nd g n + 21) b (nI 0)) hd a := ua
    clear eqS
    generalize csA s (nd g n + 21) b (nI 0) = s1 at a1 ez e' h4' ua' ⊢
    obtain ⟨-, -, -, -, -, -, -, ⟨c8, c8b, c8c⟩, ⟨c9, c9b, c9c⟩, c10, -⟩ := id a1.nz
    have i11 : cI (csP (csI s1 3 a (cI s1 3 a + nI 1)) (nd g n + 20) b (some a)) 11 (nd g n + 14) = nI (cnt (fun k => wY w n 6 k ≠ none) T) := by
      show cI (csI s1 3 a (cI s1 3 a + nI 1)) 11 (nd g n + 14) = _
      rw [cI_other _ _ (Or.inl (by decide))]
      exact c8c
    rw [i11, n_add]
    have h4u : cI (csI s1 3 a (cI s1 3 a + nI 1)) 4 a = nI 1 := by rw [cI_other _ _ (Or.inl (by decide))]; exact h4'
    have b1 := (a1.bb.up_ ua').pt (e := 2) (i := b) hn (by decide) hb e' (fun q => absurd q (by decide)) (fun _ => h4u)
    have b1 : CRb F g H T (csP (csI s1 3 a (cI s1 3 a + nI 1)) (nd g n + 20) b (some a)) ct hd w pe n := b1
    have b2 := b1.set hn (s' := csI (csP (csI s1 3 a (cI s1 3 a + nI 1)) (nd g n + 20) b (some a)) 11 (nd g n + 14) (nI (cnt (fun k => wY w n 6 k ≠ none) T + 1))) ((cfr_I _ _ _ _).mono (fun b z => by unfold ndP; omega)) (b1.2.1.I _ _ _)
    have pO : ∀ o, o ≠ 20 → cP (csI (csP (csI s1 3 a (cI s1 3 a + nI 1)) (nd g n + 20) b (some a)) 11 (nd g n + 14) (nI (cnt (fun k => wY w n 6 k ≠ none) T + 1))) (nd g n + o) = cP s1 (nd g n + o) := fun o ho => cP_other _ _ _ (by omega)
    have pA : ∀ j, cP (csI (csP (csI s1 3 a (cI s1 3 a + nI 1)) (nd g n + 20) b (some a)) 11 (nd g n + 14) (nI (cnt (fun k => wY w n 6 k ≠ none) T + 1))) (nd g n + 20) j = if j = b then some a else cP s1 (nd g n + 20) j := fun j => cP_at _ _ _ _ _
    have iO : ∀ k o, o < 24 → (k ≠ 11 ∨ o ≠ 14) → cI (csI (csP (csI s1 3 a (cI s1 3 a + nI 1)) (nd g n + 20) b (some a)) 11 (nd g n + 14) (nI (cnt (fun k => wY w n 6 k ≠ none) T + 1))) k (nd g n + o) = cI s1 k (nd g n + o) := fun k o ho hk => by
      rw [cI_other _ _ (by omega)]
      show cI (csI s1 3 a (cI s1 3 a + nI 1)) k (nd g n + o) = _
      exact cI_other _ _ (Or.inr (by omega))
    have iS : cI (csI (csP (csI s1 3 a (cI s1 3 a + nI 1)) (nd g n + 20) b (some a)) 11 (nd g n + 14) (nI (cnt (fun k => wY w n 6 k ≠ none) T + 1))) 11 (nd g n + 14) = nI (cnt (fun k => wY w n 6 k ≠ none) T + 1) := cI_same _ _ _ _
    have fA : cA (csI (csP (csI s1 3 a (cI s1 3 a + nI 1)) (nd g n + 20) b (some a)) 11 (nd g n + 14) (nI (cnt (fun k => wY w n 6 k ≠ none) T + 1))) = cA s1 := rfl
    have fJ : cJ (csI (csP (csI s1 3 a (cI s1 3 a + nI 1)) (nd g n + 20) b (some a)) 11 (nd g n + 14) (nI (cnt (fun k => wY w n 6 k ≠ none) T + 1))) = cJ s1 := rfl
    have fR : cR (csI (csP (csI s1 3 a (cI s1 3 a + nI 1)) (nd g n + 20) b (some a)) 11 (nd g n + 14) (nI (cnt (fun k => wY w n 6 k ≠ none) T + 1))) = cR s1 := rfl
    have fK : cK (csI (csP (csI s1 3 a (cI s1 3 a + nI 1)) (nd g n + 20) b (some a)) 11 (nd g n + 14) (nI (cnt (fun k => wY w n 6 k ≠ none) T + 1))) = cK s1 ∧ cL (csI (csP (csI s1 3 a (cI s1 3 a + nI 1)) (nd g n + 20) b (some a)) 11 (nd g n + 14) (nI (cnt (fun k => wY w n 6 k ≠ none) T + 1))) = cL s1 ∧ cn (csI (csP (csI s1 3 a (cI s1 3 a + nI 1)) (nd g n + 20) b (some a)) 11 (nd g n + 14) (nI (cnt (fun k => wY w n 6 k ≠ none) T + 1))) = cn s1 := ⟨rfl, rfl, rfl⟩
    refine wp_and someN (wp_fin trivial (Or.inl ⟨qk, ?_, rfl⟩))
    show CR F g H T (csI (csP (csI s1 3 a (cI s1 3 a + nI 1)) (nd g n + 20) b (some a)) 11 (nd g n + 14) (nI (cnt (fun k => wY w n 6 k ≠ none) T + 1))) ct hd (sBy w n 6 b (some m)) pe
    clear b1 i11
    generalize csI (csP (csI s1 3 a (cI s1 3 a + nI 1)) (nd g n + 20) b (some a)) 11 (nd g n + 14) (nI (cnt (fun k => wY w n 6 k ≠ none) T + 1)) = s' at b2 pO pA iO iS fA fJ fR fK ⊢
    obtain ⟨eY, e66⟩ := sBy_y (w := w) (n := n) (f0 := 6) (i0 := b) (o := some m)
    have nz := a1.nz.row (s' := s') (y' := wY (sBy w n 6 b (some m)) n) (p' := wP w n) hn (by rw [fK.2.2]; exact Nat.le_refl _) (fun b _ => ⟨by rw [fK.1], by rw [fK.2.1]⟩) (fun b _ => by rw [fA]) (fun r _ _ _ _ => by rw [fA]) (fun b _ => by rw [fJ]) (fun k _ => by rw [fR]) (fun k o ho hk => iO k o ho (by omega)) (fun o _ o1 _ _ => pO o o1) ⟨?_, ?_, ?_⟩ ⟨?_, ?_, ?_⟩ ?_ (fun f _ _ f6 => eY f f6)
    · exact (b2.zz nz).cr (owZ_up oz hu hu (fun f j hf => by rw [eY f (by omega)])) (fun k hk => ⟨rfl, funext fun f => funext fun j => if_neg (fun q => hk q.1), rfl, rfl⟩) rfl rfl rfl (fun _ _ => rfl) rfl rfl rfl rfl rfl
    · intro j hj
      rw [pA, e66]
      by_cases q : j = b
      · rw [if_pos q, if_pos q]
        show some (ct a) = some m
        rw [hca]
      · rw [if_neg q, if_neg q]
        exact c8 j hj
    · intro k m' hk em
      rw [fA]
      by_cases q : k = b
      · rw [q]
        exact Or.inr (Or.inl ez)
      · rw [e66, if_neg q] at em
        exact c8b k m' hk em
    · rw [iS]
      congr 1
      have cu := cnt_u (A := fun k => wY (sBy w n 6 b (some m)) n 6 k ≠ none) (A' := fun k => wY w n 6 k ≠ none) (T := T) (j := b) hb (fun k _ hk => by
        rw [e66, if_neg hk]) (by
        rw [e66, if_pos rfl]
        exact fun q => by cases q) (fun q => q qk)
      omega
    · rw [pO 22 (by decide), eY 3 (by decide)]
      exact c9
    · rw [pO 23 (by decide), eY 2 (by decide)]
      exact c9b
    · rw [iO 13 14 (by decide) (by omega), eY 2 (by decide)]
      exact c9c
    · unfold qP
      rw [iO 12 14 (by decide) (by omega), fJ]
      exact c10
end
end

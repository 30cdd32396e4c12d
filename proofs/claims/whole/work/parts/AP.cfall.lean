section
/-! THE CLASS'S NODE FALLS -/
section
variable {F N g H T n : Nat} {s s' : cS} {ct : Nat → List Nat} {hd : List Nat} {w : Wd} {pe : Nat → Int} {v v' : Nat → Int} {y y' z : Nat → Nat → Option (List Nat)} {p p' : List (List Nat)} {x : Nat → Nat → Nat} {pn pn' : Int} {a e i : Nat}
/-- a number of the node, none of its height -/
theorem CNz.n0 {k : Nat} {x0 : Int32} (h : CNz g H T s ct n v y p x pn z) (hq : qN (cI (csI s k (nd g n) x0)) (nd g n) n v' pn') (hv : ∀ j, j = 1 ∨ (9 ≤ j ∧ j ≠ 17) → v' j = v j) : CNz g H T (csI s k (nd g n) x0) ct n v' y p x pn' z := by
  obtain ⟨c1, c2, c3, c4, c5, c6, c7, c8, c9, c10, c11, c12, c13, c14⟩ := h
  have o : ∀ k' d, 1 ≤ d → cI (csI s k (nd g n) x0) k' (nd g n + d) = cI s k' (nd g n + d) := fun k' d hd' => cI_other _ _ (Or.inr (by omega))
  have hB : vB v' = vB v := vB_eq (fun j a b => hv j (by omega))
  have e1 := hv 1 (Or.inl rfl)
  refine ⟨hq, fun t ht => ?_, ?_, fun i hi => ?_, fun h' a b => ?_, ?_, c7.vv e1 hB, ?_, ?_, ?_, c11, ?_, ?_, c14⟩
  · rw [hv (9 + t) (by omega)]
    exact c2 t ht
  · unfold qL
    rw [o 5 1 (by decide), o 6 1 (by decide), o 7 1 (by decide), o 8 1 (by decide), o 9 1 (by decide), hv 16 (by omega), hv 15 (by omega), hv 13 (by omega), hv 14 (by omega), hv 12 (by omega)]
    exact c3
  · rw [hv (100 + i) (by omega)]
    exact c4 i hi
  · rw [hv (100 + (2 * h' - 2)) (by omega), hv (100 + (2 * h' - 1)) (by omega)]
    exact c5 h' a b
  · unfold qB bkC rtC
    rw [hB, o 2 6 (by decide), o 5 6 (by decide)]
    exact c6
  · have q := c8.vv (v' := v') e1 hB
    unfold qD at q ⊢
    rw [o 11 14 (by decide)]
    exact q
  · unfold qS_
    rw [o 13 14 (by decide)]
    exact c9
  · unfold qP
    rw [o 12 14 (by decide)]
    exact c10
  · unfold qA
    rw [e1]
    exact c12
  · rw [o 1 14 (by decide)]
    exact c13
/-- the timers -/
theorem CNz.tm {f : Nat → Int32} (h : CNz g H T s ct n v y p x pn z) (hn : n < H) (hq : qT f v') (hv : ∀ j, j < 9 ∨ 12 ≤ j → v' j = v j) : CNz g H T (csArow s (nd g n + 12) f) ct n v' y p x pn z := by
  obtain ⟨c1, c2, c3, c4, c5, c6, c7, c8, c9, c10, c11, c12, c13, c14⟩ := h
  have o : ∀ d, d ≠ 12 → cA (csArow s (nd g n + 12) f) (nd g n + d) = cA s (nd g n + d) := fun d hd' => cA_other _ _ (by omega)
  have hB : vB v' = vB v := vB_eq (fun j a b => hv j (by omega))
  have e1 := hv 1 (by omega)
  refine ⟨?_, by rw [cA_same]; exact hq, ?_, fun i hi => ?_, ?_, ?_, ?_, ?_, c9, c10, c11, ?_, c13, by rw [o 4 (by decide)]; exact c14⟩
  · unfold qN beN
    rw [hv 0 (by omega), hv 1 (by omega), hv 2 (by omega), hv 3 (by omega), hv 4 (by omega), hv 5 (by omega), hv 6 (by omega), hv 7 (by omega), hv 8 (by omega), hv 17 (by omega)]
    exact c1
  · unfold qL
    rw [hv 16 (by omega), hv 15 (by omega), hv 13 (by omega), hv 14 (by omega), hv 12 (by omega)]
    exact c3
  · rw [hv (100 + i) (by omega), o 3 (by decide)]
    obtain ⟨x1, x2, x3, x4⟩ := c4 i hi
    refine ⟨x1, x2, x3, fun r hr => ?_⟩
    obtain ⟨y1, y2, y3, y4, y5, y6⟩ := x4 r hr
    exact ⟨y1, y2, y3, y4, y5, by rw [cA_other _ _ (by unfold nd at *; omega)]; exact y6⟩
  · rw [o 5 (by decide)]
    intro h' a b
    rw [hv (100 + (2 * h' - 2)) (by omega), hv (100 + (2 * h' - 1)) (by omega)]
    exact c5 h' a b
  · unfold qB bkC rtC
    have a7 : cA (csArow s (nd g n + 12) f) (nd g n + 6 + 1) = cA s (nd g n + 6 + 1) := o 7 (by decide)
    have a8 : cA (csArow s (nd g n + 12) f) (nd g n + 6 + 2) = cA s (nd g n + 6 + 2) := o 8 (by decide)
    have a9 : cA (csArow s (nd g n + 12) f) (nd g n + 6 + 3) = cA s (nd g n + 6 + 3) := o 9 (by decide)
    rw [hB, a7, a8, a9, o 11 (by decide)]
    exact c6
  · have q := c7.vv (v' := v') e1 hB
    unfold qH at q ⊢
    rw [o 16 (by decide), o 17 (by decide)]
    exact q
  · have q := c8.vv (v' := v') e1 hB
    unfold qD at q ⊢
    rw [o 21 (by decide)]
    exact q
  · unfold qA
    rw [e1]
    exact c12
theorem CRz.tm {f : Nat → Int32} (h : CRz F g H T s ct hd w pe n v y p x pn z) (hn : n < H) (hq : qT f v') (hv : ∀ j, j < 9 ∨ 12 ≤ j → v' j = v j) : CRz F g H T (csArow s (nd g n + 12) f) ct hd w pe n v' y p x pn z := by
  have k21 : cK s (nd g n + 12) = 21 := (h.2.1.2.1 5 6 (nd g n) (isO5 hn) (by omega) _ rfl).2.1
  exact h.set hn ((cfr_A _ _ _).mono (fun b z => by unfold ndP; omega)) (h.2.1.Ad (k := 21) _ _ (tK_some k21) (by decide)) (h.nz.tm hn hq hv)
theorem CRz.n0 {k : Nat} {x0 : Int32} (h : CRz F g H T s ct hd w pe n v y p x pn z) (hn : n < H) (hq : qN (cI (csI s k (nd g n) x0)) (nd g n) n v' pn') (hv : ∀ j, j = 1 ∨ (9 ≤ j ∧ j ≠ 17) → v' j = v j) : CRz F g H T (csI s k (nd g n) x0) ct hd w pe n v' y p x pn' z := h.I (o := 0) hn (by decide) (h.nz.n0 hq hv)
/-- what is held as the world has it, own messages: none of the class's business -/
theorem CNz.y45 (h : CNz g H T s ct n v y p x pn z) (hy : ∀ f, f ≠ 4 → f ≠ 5 → f ≠ 8 → y' f = y f) : CNz g H T s ct n v y' p x pn z := by
  obtain ⟨c1, c2, c3, c4, c5, c6, c7, c8, c9, c10, c11, c12, c13, c14⟩ := h
  have y9 := hy 9 (by decide) (by decide) (by decide)
  have y7 := hy 7 (by decide) (by decide) (by decide)
  have y6 := hy 6 (by decide) (by decide) (by decide)
  have y3 := hy 3 (by decide) (by decide) (by decide)
  have y2 := hy 2 (by decide) (by decide) (by decide)
  have y0 := hy 0 (by decide) (by decide) (by decide)
  have y1 := hy 1 (by decide) (by decide) (by decide)
  refine ⟨c1, c2, c3, c4, by rw [y7]; exact c5, by rw [y9]; exact c6, by rw [y9]; exact c7, by rw [y9, y6]; exact c8, ?_, c10, ?_, by rw [y7]; exact c12, c13, c14⟩
  · unfold qS_
    rw [y3, y2]
    exact c9
  · unfold qK
    rw [y0, y1]
    exact c11
theorem CRz.y45 (h : CRz F g H T s ct hd w pe n v y p x pn z) (hy : ∀ f, f ≠ 4 → f ≠ 5 → f ≠ 8 → y' f = y f) : CRz F g H T s ct hd w pe n v y' p x pn z := h.bb.zz (h.nz.y45 hy)
/-- what is held is bytes -/
theorem CRz.b4 (h : CRz F g H T s ct hd w pe n v y p x pn z) (hn : n < H) {q : Nat} {m : List Nat} (hq : q < 32) (hm : z 4 q = some m) : isB m := by
  have c := h.nz.2.2.2.2.2.2.1.1 q hq
  rw [hm] at c
  cases e : cP s (nd g n + 15) q with
  | none =>
    rw [e] at c
    cases c
  | some a =>
    rw [e] at c
    cases c
    exact (h.ms (a := a) (by have := cnA_hr (e := 0) (g := g) (H := H) (T := T) hn (by decide) hq e; unfold us; omega)).2.2.1.2.2.2
theorem CRz.b5 (h : CRz F g H T s ct hd w pe n v y p x pn z) (hn : n < H) {c p' r k : Nat} {m : List Nat} (h1 : c ≤ 1) (h2 : p' ≤ 1) (h3 : r < 16) (h4 : k < T) (hm : z 5 (vq c p' r k) = some m) : isB m := by
  have q := h.nz.2.2.2.2.2.2.1.2.1 c p' r k h1 h2 h3 h4
  rw [hm] at q
  cases e : cP s (nd g n + 19) (vqC T c p' r k) with
  | none =>
    rw [e] at q
    cases q
  | some a =>
    rw [e] at q
    cases q
    exact (h.ms (a := a) (by have := cnA_hr (e := 1) (g := g) (H := H) (T := T) hn (by decide) (vqC_lt h1 h2 h3 h4) e; unfold us; omega)).2.2.1.2.2.2
theorem fill_C {r : Nat} (hN : 10 ≤ N) (hL : cL s r = 3) : wp (p_J7_fill_53178 N g H T s (some r) (nI 0)) (k_J7_fill_53178 N g H T s (some r) (nI 0)) (fun Z => ∃ f, Z = csArow s r f ∧ ∀ i, i < 3 → f i = nI 0) := by
  show wp (KO_J7_fill_53178_0 N g H T (some r) (nI 0) s) (KF_J7_fill_53178_0 N g H T (some r) (nI 0) s) _
  unfold KO_J7_fill_53178_0 KF_J7_fill_53178_0
  rw [zsome, hL]
  refine wp_and someN (wp_seq (Q := fun Z : Nat × cS => ∃ f, Z.2 = csArow s r f ∧ ∀ i, i < 3 → f i = nI 0) ?_ (fun Z hZ => wp_fin trivial hZ))
  refine wp_loop (K := 3) (fun j (X : cS) => cL X r = 3 ∧ ∃ f, X = csArow s r f ∧ ∀ i, i < j → f i = nI 0) (fun m j X => KOL_J7_fill_53178_5 N g H T m (some r) (nI 0) (nI j) (nI 3) X) (fun m j X => KL_J7_fill_53178_5 N g H T m (some r) (nI 0) (nI j) (nI 3) X) (fun m j X hj hI ih => ?_) 0 N s (by omega) (by omega) ⟨hL, cA s r, ?_, fun i hi => absurd hi (by omega)⟩
  · obtain ⟨e0, f, e1, e2⟩ := hI
    unfold KOL_J7_fill_53178_5 KL_J7_fill_53178_5 KOB_J7_fill_53178_5 KB_J7_fill_53178_5
    by_cases c : j = 3
    · subst c
      exact wp_pos (by rw [n_le' (by omega) (by omega)]; omega) (wp_fin trivial ⟨f, e1, e2⟩)
    rw [zsome, n_clamp (by omega), n_add, e0]
    refine wp_neg (by rw [n_le' (by omega) (by omega)]; omega) (wp_and ⟨someN, ((n_in (by omega)).2 (by omega))⟩ (ih _ ⟨e0, upd f j (nI 0), ?_, fun i hi => ?_⟩ (by omega)))
    · rw [e1, csA_row, cA_same, row_row]
    · by_cases d : i = j
      · rw [d, upd_same]
      · rw [upd_other _ _ d]
        exact e2 i (by omega)
  · have : csArow s r (cA s r) = s := by
      unfold csArow
      have : up1 s.2.2.2.2.1 r (cA s r) = s.2.2.2.2.1 := by
        funext b
        unfold up1
        split
        · rename_i c
          rw [c]
          rfl
        · rfl
      rw [this]
    exact this.symm
/-- what a node holds of its own is what it sent in this height -/
def owF (T n : Nat) (v : Nat → Int) (y : Nat → Nat → Option (List Nat)) : Prop := (∀ i m, i < 32 → ((i / 16 = (v 1).toNat % 2 ∧ y 4 i = some m ∧ bg m 1 = n) ↔ owH n v y 4 i m)) ∧ ∀ c p r k m, c ≤ 1 → p ≤ 1 → r < 16 → k < T → ((p = (v 1).toNat % 2 ∧ y 5 (vq c p r k) = some m ∧ bg m 1 = n) ↔ owH n v y 5 (vq c p r k) m)
theorem kpO_iff {bu : List Nat → Prop} {o : Option (List Nat)} {m : List Nat} : kpO bu o = some m ↔ o = some m ∧ bu m := by
  cases o with
  | none => exact ⟨fun q => (by cases q), fun q => (by cases q.1)⟩
  | some m' =>
    by_cases c : bu m'
    · rw [kpO_y c]
      constructor
      · intro q
        cases q
        exact ⟨rfl, c⟩
      · intro q
        exact q.1
    · rw [kpO_d c]
      constructor
      · intro q
        cases q
      · rintro ⟨q1, q2⟩
        cases q1
        exact absurd q2 c
theorem fall_C (hN : 100 ≤ N) (h : CR F g H T s ct hd w pe) (hn : n < H) (hl : hd.length ≤ 30) (hu : wN w n 0 = 1) (h1 : 1 ≤ wN w n 1 ∧ wN w n 1 ≤ 41) (ow : owF T n (wN w n) (wY w n)) : wp (p_X6_fall N g H T s (nd g n)) (k_X6_fall N g H T s (nd g n)) (fun s' => CR F g H T s' ct hd (aFall w n) (fun m => if m = n then -1 else pe m)) := by
  obtain ⟨z, hz, oz⟩ := h.z_ hn
  have cb := h.1.bb
  have hT := cb.2.1
  have v1 : iI (wN w n 1) = nI (wN w n 1).toNat := by
    rw [← iI_n]
    congr 1
    omega
  show wp (KO_X6_fall_0 N g H T (some (nd g n)) s) (KF_X6_fall_0 N g H T (some (nd g n)) s) _
  unfold KO_X6_fall_0 KF_X6_fall_0
  rw [zsome]
  refine wp_and someN ?_
  -- down, nothing pending
  obtain ⟨q1, q2, q3, q4, q5, q6, q7, q8, q9, q10⟩ := hz.nz.1
  have a1 : CRz F g H T (csI s 8 (nd g n) (nI 0)) ct hd w pe n (fun k => if k = 0 then 0 else wN w n k) (wY w n) (wP w n) (wX w n) (pe n) z := by
    refine hz.n0 hn ?_ (fun j hj => if_neg (by omega))
    unfold qN beN
    rw [cI_same, cI_other _ _ (Or.inl (by decide)), cI_other _ _ (Or.inl (by decide)), cI_other _ _ (Or.inl (by decide)), cI_other _ _ (Or.inl (by decide)), cI_other _ _ (Or.inl (by decide)), cI_other _ _ (Or.inl (by decide)), cI_other _ _ (Or.inl (by decide)), cI_other _ _ (Or.inl (by decide)), cI_other _ _ (Or.inl (by decide))]
    exact ⟨q1, rfl, q3, q4, q5, q6, q7, q8, q9, q10⟩
  generalize csI s 8 (nd g n) (nI 0) = s1 at a1 ⊢
  obtain ⟨u1, u2, u3, u4, u5, u6, u7, u8, u9, u10⟩ := a1.nz.1
  have a2 : CRz F g H T (csI s1 18 (nd g n) (-1)) ct hd w pe n (fun k => if k = 0 then 0 else wN w n k) (wY w n) (wP w n) (wX w n) (-1) z := by
    refine a1.n0 hn ?_ (fun j hj => rfl)
    unfold qN
    rw [cI_same, cI_other _ _ (Or.inl (by decide)), cI_other _ _ (Or.inl (by decide)), cI_other _ _ (Or.inl (by decide)), cI_other _ _ (Or.inl (by decide)), cI_other _ _ (Or.inl (by decide)), cI_other _ _ (Or.inl (by decide)), cI_other _ _ (Or.inl (by decide)), cI_other _ _ (Or.inl (by decide)), cI_other _ _ (Or.inl (by decide))]
    exact ⟨u1, u2, u3, u4, u5, u6, u7, u8, u9, rfl⟩
  generalize csI s1 18 (nd g n) (-1) = s2 at a2 ⊢
  unfold KO_X6_fall_10 KF_X6_fall_10
  rw [zsome]
  have L12 : cL s2 (nd g n + 12) = 3 := a2.2.1.rl (isO5 hn) (k := 6) rfl (by omega) (by omega)
  refine wp_and someN (wp_call (fill_C (N := N) (g := g) (H := H) (T := T) (s := s2) (r := nd g n + 12) (by omega) L12) ?_)
  rintro ⟨f, fe, ff⟩
  rw [fe]
  have a3 : CRz F g H T (csArow s2 (nd g n + 12) f) ct hd w pe n (fun k => if k = 0 then 0 else if 9 ≤ k ∧ k ≤ 11 then -1 else wN w n k) (wY w n) (wP w n) (wX w n) (-1) z := by
    refine a2.tm hn (fun t ht => ?_) (fun j hj => ?_)
    · show f t = iI (tmC (if 9 + t = 0 then 0 else if 9 ≤ 9 + t ∧ 9 + t ≤ 11 then -1 else wN w n (9 + t)))
      rw [ff t ht, if_neg (by omega), if_pos (by omega)]
      rfl
    · show (if j = 0 then 0 else if 9 ≤ j ∧ j ≤ 11 then -1 else wN w n j) = if j = 0 then 0 else wN w n j
      by_cases c : j = 0
      · rw [if_pos c, if_pos c]
      · rw [if_neg c, if_neg c, if_neg (by omega)]
  generalize csArow s2 (nd g n + 12) f = s3 at a3 ⊢
  unfold KO_X6_fall_18 KF_X6_fall_18
  rw [zsome]
  have i9 : cI s3 9 (nd g n) = nI (wN w n 1).toNat := by
    rw [← v1]
    exact a3.nz.1.2.2.1
  have i1 : cI s3 1 (nd g n) = nI n := a3.nz.1.1
  rw [i9, i1]
  refine wp_and someN (wp_call (clear_Z (N := N) (x2 := nI n) (hh := (wN w n 1).toNat) hN a3 hn hl hT) ?_)
  rintro ⟨z4, a4, c4, -⟩
  generalize k_X8_clear N g H T s3 (nd g n + 14) (nI (wN w n 1).toNat) (nI n) = s4 at a4 ⊢
  unfold KO_X6_fall_33 KF_X6_fall_33
  rw [zsome]
  have i9' : cI s4 9 (nd g n) = nI (wN w n 1).toNat := by
    rw [← v1]
    exact a4.nz.1.2.2.1
  rw [i9', n_add]
  refine wp_and someN (wp_call (clear_Z (N := N) (x2 := -1) (hh := (wN w n 1).toNat + 1) hN a4 hn hl hT) ?_)
  rintro ⟨z5, a5, c5, -⟩
  generalize k_X8_clear N g H T s4 (nd g n + 14) (nI ((wN w n 1).toNat + 1)) (-1) = s5 at a5 ⊢
  unfold KO_X6_fall_47 KF_X6_fall_47
  rw [zsome]
  refine wp_and someN (wp_call (clearDecided_Z (N := N) hN a5 hn hl) ?_)
  rintro ⟨a6, -⟩
  generalize k_X8_clearDecided N g H T s5 (nd g n + 14) = s6 at a6 ⊢
  unfold KO_X6_fall_54 KF_X6_fall_54
  rw [zsome]
  have r7 := clearRest_Z (N := N) hN a6 hn hl
  refine wp_and someN (wp_fin ⟨r7.1, trivial⟩ ?_)
  obtain ⟨a7, -⟩ := r7.2
  generalize k_X8_clearRest N g H T s6 (nd g n + 14) = s7 at a7 ⊢
  -- what is left is its own
  have m1 : ∀ k, k < 256 → ¬ (-1 : Int32) = nI k := fun k hk q => by
    have e : (-1 : Int32) < 0 := by decide
    rw [q] at e
    exact n_lt0 (by omega) e
  have oz1 := oz.1 hu
  have y8 : ∀ j, wY (aFall w n) n 8 j = wY w n 8 j := fun j => if_neg (by omega)
  have oe : ∀ f i m, owH n (fun k => if k = 0 then 0 else if 9 ≤ k ∧ k ≤ 11 then -1 else wN w n k) (wY (aFall w n) n) f i m ↔ owH n (wN w n) (wY w n) f i m := fun f i m => by
    unfold owH
    constructor
    · rintro ⟨j, j1, j2, j3⟩
      exact ⟨j, j1, by rw [← y8]; exact j2, j3⟩
    · rintro ⟨j, j1, j2, j3⟩
      exact ⟨j, j1, by rw [y8]; exact j2, j3⟩
  have P0 : (wN w n 1).toNat % 2 ≤ 1 := by omega
  have a8 := a7.y45 (y' := wY (aFall w n) n) (fun f h4 h5 h8 => by
    funext i
    show (if n = n ∧ 2 ≤ f ∧ f ≤ 6 then none else wY w n f i) = if f = 2 ∨ f = 3 then none else if f = 6 then none else wY w n f i
    by_cases c : f = 2 ∨ f = 3
    · rw [if_pos c, if_pos ⟨rfl, by omega, by omega⟩]
    · rw [if_neg c]
      by_cases d : f = 6
      · rw [if_pos d, if_pos ⟨rfl, by omega, by omega⟩]
      · rw [if_neg d, if_neg (by omega)])
  refine a8.cr (w' := aFall w n) ?_ (fun m hm => ⟨?_, ?_, ?_, rfl⟩) rfl rfl rfl (fun m hm => if_neg hm) (if_pos rfl) ?_ rfl ?_ rfl
  · refine ⟨fun q => ?_, fun _ => ⟨fun f i f1 f2 => if_pos ⟨rfl, f1, f2⟩, fun i m hi => ?_, fun c p' r k m b1 b2 b3 b4 => ?_⟩⟩
    · have q' : (if (0 : Nat) = 0 then (0 : Int) else if 9 ≤ 0 ∧ 0 ≤ 11 then -1 else wN w n 0) = 1 := q
      rw [if_pos rfl] at q'
      omega
    · have o1 := ow.1 i m hi
      rw [oe _ _ _, ← o1]
      by_cases c : i / 16 = (wN w n 1).toNat % 2
      · have e5 := c5.2.1 i hi (by omega)
        have e4 := (c4.1 (i % 16) (Nat.mod_lt _ (by decide))).1
        rw [show 16 * ((wN w n 1).toNat % 2) + i % 16 = i by omega, oz1 4 i (Or.inl rfl)] at e4
        rw [e5, e4, kpO_iff]
        constructor
        · rintro ⟨b1, b2⟩
          refine ⟨c, b1, ?_⟩
          have : isB m := hz.b4 hn hi (by rw [oz1 4 i (Or.inl rfl)]; exact b1)
          have := this 1
          have b2' : nI n = nI (bg m 1) := b2
          rw [n_eq' (by omega) (by omega)] at b2'
          omega
        · rintro ⟨_, b1, b2⟩
          exact ⟨b1, by show nI n = nI (bg m 1); rw [b2]⟩
      · have e5 := (c5.1 (i % 16) (Nat.mod_lt _ (by decide))).1
        rw [show 16 * (((wN w n 1).toNat + 1) % 2) + i % 16 = i by omega] at e5
        rw [e5, kpO_iff]
        constructor
        · rintro ⟨b1, b2⟩
          exact absurd b2 (m1 _ (a4.b4 hn hi b1 1))
        · rintro ⟨b1, _⟩
          exact absurd b1 c
    · have o1 := ow.2 c p' r k m b1 b2 b3 b4
      rw [oe _ _ _, ← o1]
      by_cases d : p' = (wN w n 1).toNat % 2
      · have e5 := c5.2.2 c p' r k b1 b2 (by omega) b3 b4
        have e4 := (c4.1 r b3).2 c k b1 b4
        rw [← d, oz1 5 _ (Or.inr rfl)] at e4
        rw [e5, e4, kpO_iff]
        constructor
        · rintro ⟨g1, g2⟩
          refine ⟨d, g1, ?_⟩
          have : isB m := hz.b5 hn b1 b2 b3 b4 (by rw [oz1 5 _ (Or.inr rfl)]; exact g1)
          have := this 1
          have g2' : nI n = nI (bg m 1) := g2
          rw [n_eq' (by omega) (by omega)] at g2'
          omega
        · rintro ⟨_, g1, g2⟩
          exact ⟨g1, by show nI n = nI (bg m 1); rw [g2]⟩
      · have e5 := (c5.1 r b3).2 c k b1 b4
        rw [show ((wN w n 1).toNat + 1) % 2 = p' by omega] at e5
        rw [e5, kpO_iff]
        constructor
        · rintro ⟨g1, g2⟩
          exact absurd g2 (m1 _ (a4.b5 hn b1 b2 b3 b4 g1 1))
        · rintro ⟨g1, _⟩
          exact absurd g1 d
  · funext k
    show (if m = n ∧ k = 0 then 0 else if m = n ∧ 9 ≤ k ∧ k ≤ 11 then -1 else w.1 m k) = w.1 m k
    rw [if_neg (fun q => hm q.1), if_neg (fun q => hm q.1)]
  · funext f i
    show (if m = n ∧ 2 ≤ f ∧ f ≤ 6 then none else w.2.1 m f i) = w.2.1 m f i
    rw [if_neg (fun q => hm q.1)]
  · show (if m = n then [] else w.2.2.1 m) = w.2.2.1 m
    rw [if_neg hm]
  · funext k
    show (if n = n ∧ k = 0 then 0 else if n = n ∧ 9 ≤ k ∧ k ≤ 11 then -1 else w.1 n k) = if k = 0 then 0 else if 9 ≤ k ∧ k ≤ 11 then -1 else wN w n k
    by_cases c : k = 0
    · rw [if_pos ⟨rfl, c⟩, if_pos c]
    · rw [if_neg (fun q => c q.2), if_neg c]
      by_cases d : 9 ≤ k ∧ k ≤ 11
      · rw [if_pos ⟨rfl, d⟩, if_pos d]
      · rw [if_neg (fun q => d q.2), if_neg d]
        rfl
  · show (if n = n then [] else w.2.2.1 n) = []
    rw [if_pos rfl]
end
end

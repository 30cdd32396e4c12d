section
/-! THE CLASS'S SHELF: decided, snapshots, proofs, pool: cleared -/
/-- of the node the ends of the shelf alone change -/
def efr (g H n : Nat) (s s' : cS) : Prop := cn s ≤ cn s' ∧ (∀ b, b < cn s → cK s' b = cK s b ∧ cL s' b = cL s b) ∧ (∀ b, b < nd g H → cA s' b = cA s b) ∧ (∀ r, nd g H ≤ r → r < cn s → cK s r = 20 → cK s (r - 2) ≠ 5 → cA s' r = cA s r) ∧ (∀ b, b < nd g H → cJ s' b = cJ s b) ∧ (∀ k, k = 14 ∨ k = 15 → cR s' k (nd g n) = cR s k (nd g n)) ∧ (∀ k o, o < 24 → (o ≠ 14 ∨ (k ≠ 11 ∧ k ≠ 12 ∧ k ≠ 13)) → cI s' k (nd g n + o) = cI s k (nd g n + o)) ∧ ∀ o, o < 24 → o ≠ 20 → o ≠ 22 → o ≠ 23 → cP s' (nd g n + o) = cP s (nd g n + o)
section
variable {F N g H T n : Nat} {s s' s1 s2 : cS} {ct : Nat → List Nat} {hd : List Nat} {w : Wd} {pe : Nat → Int} {v : Nat → Int} {y y' z : Nat → Nat → Option (List Nat)} {p p' : List (List Nat)} {x : Nat → Nat → Nat} {pn : Int} {a e i : Nat}
theorem efr.refl : efr g H n s s := ⟨Nat.le_refl _, fun _ _ => ⟨rfl, rfl⟩, fun _ _ => rfl, fun _ _ _ _ _ => rfl, fun _ _ => rfl, fun _ _ => rfl, fun _ _ _ _ => rfl, fun _ _ _ _ _ => rfl⟩
theorem efr.trans (h : efr g H n s s1) (h' : efr g H n s1 s2) : efr g H n s s2 := by
  obtain ⟨a1, a2, a3, a4, a5, a6, a7, a8⟩ := h
  obtain ⟨b1, b2, b3, b4, b5, b6, b7, b8⟩ := h'
  refine ⟨(by omega), fun b hb => ⟨((b2 b (by omega)).1).trans (a2 b hb).1, ((b2 b (by omega)).2).trans (a2 b hb).2⟩, fun b hb => (b3 b hb).trans (a3 b hb), fun r r1 r2 r3 r4 => (b4 r r1 (by omega) (by rw [(a2 r r2).1]; exact r3) (by rw [(a2 (r - 2) (by omega)).1]; exact r4)).trans (a4 r r1 r2 r3 r4), fun b hb => (b5 b hb).trans (a5 b hb), fun k hk => (b6 k hk).trans (a6 k hk), fun k o ho hk => (b7 k o ho hk).trans (a7 k o ho hk), fun o o1 o2 o3 o4 => (b8 o o1 o2 o3 o4).trans (a8 o o1 o2 o3 o4)⟩
theorem mfr.ef (h : mfr g H s s') (hn : n < H) : efr g H n s s' := by
  obtain ⟨f1, f2, f3, f4, f5, f6⟩ := h
  have l : ∀ o, o < 24 → nd g n + o < nd g H := fun o ho => by unfold nd; omega
  exact ⟨f1, f2, fun b hb => (f5 b hb).1, f6, fun b hb => (f5 b hb).2.1, fun k hk => f4 k _ (l 0 (by decide)) (Or.inr (by omega)), fun k o ho _ => f3 k _ (l o ho), fun o ho _ _ _ => (f5 _ (l o ho)).2.2⟩
theorem efr_P {o j : Nat} {xo : Option Nat} (ho : o = 20 ∨ o = 22 ∨ o = 23) : efr g H n s (csP s (nd g n + o) j xo) := ⟨Nat.le_refl _, fun _ _ => ⟨rfl, rfl⟩, fun _ _ => rfl, fun _ _ _ _ _ => rfl, fun _ _ => rfl, fun _ _ => rfl, fun _ _ _ _ => rfl, fun o' _ h1 h2 h3 => cP_other _ _ _ (by omega)⟩
theorem efr_I {k : Nat} {x0 : Int32} (hk : k = 11 ∨ k = 12 ∨ k = 13) : efr g H n s (csI s k (nd g n + 14) x0) := ⟨Nat.le_refl _, fun _ _ => ⟨rfl, rfl⟩, fun _ _ => rfl, fun _ _ _ _ _ => rfl, fun _ _ => rfl, fun _ _ => rfl, fun k' o ho h => cI_other _ _ (by omega), fun _ _ _ _ _ => rfl⟩
theorem CNz.ef (h : CNz g H T s ct n v y p x pn z) (hn : n < H) (hf : efr g H n s s') (hD : qD s' ct (nd g n) T v (y 9 0) (y' 6)) (hS : qS_ s' ct (nd g n) T y') (hp : qP s' (nd g n) p') (hy : ∀ f, f ≠ 2 → f ≠ 3 → f ≠ 6 → y' f = y f) : CNz g H T s' ct n v y' p' x pn z := h.row hn hf.1 hf.2.1 hf.2.2.1 hf.2.2.2.1 hf.2.2.2.2.1 hf.2.2.2.2.2.1 hf.2.2.2.2.2.2.1 hf.2.2.2.2.2.2.2 hD hS hp hy
theorem clearDecided_Z (hN : 100 ≤ N) (h : CRz F g H T s ct hd w pe n v y p x pn z) (hn : n < H) (hl : hd.length ≤ 30) : wp (p_X8_clearDecided N g H T s (nd g n + 14)) (k_X8_clearDecided N g H T s (nd g n + 14)) (fun s' => CRz F g H T s' ct hd w pe n v (fun f i => if f = 6 then none else y f i) p x pn z ∧ efr g H n s s') := by
  have cz := h.nz
  have hT := h.1.bb.2.1
  obtain ⟨d1, d2, d3⟩ := cz.2.2.2.2.2.2.2.1
  have i1 : ∀ X, efr g H n s X → cI X 1 (nd g n + 14) = nI T := fun X hX => by
    rw [hX.2.2.2.2.2.2.1 1 14 (by decide) (Or.inr (by decide))]
    exact cz.2.2.2.2.2.2.2.2.2.2.2.2.1
  have q20 : nd g n + 14 + 6 = nd g n + 20 := rfl
  -- the end, from a state whose decided are gone
  have fin : ∀ X, CRb F g H T X ct hd w pe n → efr g H n s X → (∀ k, k < T → cP X (nd g n + 20) k = none) → cI X 11 (nd g n + 14) = nI 0 → cI X 12 (nd g n + 14) = cI s 12 (nd g n + 14) → cI X 13 (nd g n + 14) = cI s 13 (nd g n + 14) → cP X (nd g n + 22) = cP s (nd g n + 22) → cP X (nd g n + 23) = cP s (nd g n + 23) → CRz F g H T X ct hd w pe n v (fun f i => if f = 6 then none else y f i) p x pn z := fun X c1 c2 c3 c4 c5 c6 c7 c8 => by
    refine c1.zz (cz.ef hn c2 ⟨fun k hk => ?_, fun k m hk hm => ?_, ?_⟩ ?_ ?_ (fun f _ _ h6 => ?_))
    · rw [c3 k hk]
      rfl
    · have hm' : (if (6 : Nat) = 6 then none else y 6 k) = some m := hm
      rw [if_pos rfl] at hm'
      cases hm'
    · rw [c4, cnt_n (A := fun k => (fun f i => if f = 6 then none else y f i) 6 k ≠ none) (fun k _ q => q (if_pos rfl))]
    · have q := cz.2.2.2.2.2.2.2.2.1
      unfold qS_ at q ⊢
      rw [c7, c8, c6]
      exact q
    · have q := cz.2.2.2.2.2.2.2.2.2.1
      unfold qP at q ⊢
      rw [c5, c2.2.2.2.2.1 _ (by unfold nd; omega)]
      exact q
    · funext i
      show (if f = 6 then none else y f i) = y f i
      rw [if_neg h6]
  show wp (KO_X8_clearDecided_0 N g H T (nd g n + 14) s) (KF_X8_clearDecided_0 N g H T (nd g n + 14) s) _
  unfold KO_X8_clearDecided_0 KF_X8_clearDecided_0
  refine wp_seq (Q := fun Z : Nat × cS => CRz F g H T Z.2 ct hd w pe n v (fun f i => if f = 6 then none else y f i) p x pn z ∧ efr g H n s Z.2) ?_ (fun Z hZ => wp_fin trivial hZ)
  refine wp_loop (K := T) (fun j (X : cS) => CRb F g H T X ct hd w pe n ∧ efr g H n s X ∧ (∀ k, k < T → cP X (nd g n + 20) k = if k < j then none else cP s (nd g n + 20) k) ∧ cI X 11 (nd g n + 14) = nI (cnt (fun k => j ≤ k ∧ y 6 k ≠ none) T) ∧ cI X 12 (nd g n + 14) = cI s 12 (nd g n + 14) ∧ cI X 13 (nd g n + 14) = cI s 13 (nd g n + 14) ∧ cP X (nd g n + 22) = cP s (nd g n + 22) ∧ cP X (nd g n + 23) = cP s (nd g n + 23)) (fun m j X => KOL_X8_clearDecided_2 N g H T m (nd g n + 14) (nI j) X) (fun m j X => KL_X8_clearDecided_2 N g H T m (nd g n + 14) (nI j) X) (fun m j X hj hI ih => ?_) 0 N s (by omega) (by omega) ⟨h.bb, efr.refl, fun k _ => by rw [if_neg (by omega)], by
    rw [d3]
    congr 1
    exact cnt_cg T (fun k _ => ⟨fun q => ⟨Nat.zero_le _, q⟩, fun q => q.2⟩), rfl, rfl, rfl, rfl⟩
  obtain ⟨g1, g2, g3, g4, g5, g6, g7, g8⟩ := hI
  unfold KOL_X8_clearDecided_2 KL_X8_clearDecided_2 KOB_X8_clearDecided_2 KB_X8_clearDecided_2
  rw [i1 X g2, q20, g4]
  have cb := cnt_b (A := fun k => j ≤ k ∧ y 6 k ≠ none) (T := T)
  by_cases c : j = T
  · refine wp_pos (by rw [n_le' (by omega) (by omega)]; omega) (wp_fin trivial ⟨fin X g1 g2 (fun k hk => ?_) ?_ g5 g6 g7 g8, g2⟩)
    · rw [g3 k hk, if_pos (by omega)]
    · rw [g4, cnt_n (fun k hk q => by omega)]
  refine wp_neg (by rw [n_le' (by omega) (by omega)]; omega) (wp_ite (fun d => ?_) (fun d => ?_)) <;> rw [n_le0 (by omega)] at d
  · have z0 := cnt_0 (A := fun k => j ≤ k ∧ y 6 k ≠ none) (T := T) (by omega)
    refine wp_fin trivial ⟨fin X g1 g2 (fun k hk => ?_) (by rw [g4, d]) g5 g6 g7 g8, g2⟩
    rw [g3 k hk]
    by_cases f : k < j
    · rw [if_pos f]
    · rw [if_neg f]
      have q := z0 k hk
      have q2 : y 6 k = none := Classical.byContradiction (fun u => q ⟨by omega, u⟩)
      have q3 := d1 k hk
      rw [q2] at q3
      cases e : cP s (nd g n + 20) k with
      | none => rfl
      | some b =>
        rw [e] at q3
        cases q3
  · rw [n_clamp (by omega)]
    have cj := g3 j (by omega)
    rw [if_neg (by omega)] at cj
    have q3 := d1 j (by omega)
    refine wp_and ((n_in (by omega)).2 (by omega)) ?_
    obtain ⟨l1, l2, l3, l4, l5⟩ := g1.lt_ (N := N) (e := 2) (i := j) hn (by omega) (by decide) (by show j < T; omega)
    have ee : cP X (nd g n + plO 2) j = cP X (nd g n + 20) j := rfl
    rw [ee] at l1 l2 l3 l4 l5
    cases e : cP X (nd g n + 20) j with
    | none =>
      rw [cj] at e
      rw [e] at q3
      have y0 : y 6 j = none := q3.symm
      refine wp_pos rfl ?_
      unfold KO_X8_clearDecided_56 KF_X8_clearDecided_56
      rw [n_add]
      refine ih X ⟨g1, g2, fun k hk => ?_, ?_, g5, g6, g7, g8⟩ (by omega)
      · rw [g3 k hk]
        by_cases f : k < j
        · rw [if_pos f, if_pos (by omega)]
        · rw [if_neg f]
          by_cases f2 : k = j
          · rw [if_pos (by omega), f2]
            exact e
          · rw [if_neg (by omega)]
      · rw [g4]
        congr 1
        refine cnt_cg T (fun k _ => ⟨fun q => ⟨?_, q.2⟩, fun q => ⟨by omega, q.2⟩⟩)
        have : k ≠ j := fun u => q.2 (by rw [u]; exact y0)
        have := q.1
        omega
    | some b =>
      rw [e] at l1 l2 l3 l4 l5
      rw [cj] at e
      rw [e] at q3
      have y0 : y 6 j ≠ none := by rw [← q3]; exact (show ¬ some (ct b) = none from fun q => (by cases q))
      refine wp_neg someN (wp_and ((n_in (by omega)).2 (by omega)) (wp_and l1 ?_))
      unfold KO_X8_clearDecided_39 KF_X8_clearDecided_39 KO_X8_clearDecided_56 KF_X8_clearDecided_56
      rw [q20, n_clamp (by omega), n_add]
      generalize k_X9_drop N g H T X (g + 11) (some b) = D at l2 l3 l4 l5 ⊢
      have eD := l3.ef (n := n) hn
      have nl : nd g n + 14 < nd g H := by unfold nd; omega
      have iD : ∀ k, cI (csP D (nd g n + 20) j none) k (nd g n + 14) = cI X k (nd g n + 14) := fun k => l3.2.2.1 k _ nl
      have u := cnt_u (A := fun k => j ≤ k ∧ y 6 k ≠ none) (A' := fun k => j + 1 ≤ k ∧ y 6 k ≠ none) (T := T) (j := j) (by omega) (fun k _ hk => ⟨fun q => ⟨by have := q.1; omega, q.2⟩, fun q => ⟨by have := q.1; omega, q.2⟩⟩) ⟨Nat.le_refl _, y0⟩ (fun q => by have := q.1; omega)
      rw [iD, g4, n_sub (by omega), u, Nat.add_sub_cancel]
      refine wp_and ((n_in (by omega)).2 (by omega)) (ih _ ⟨?_, ((g2.trans eD).trans (efr_P (Or.inl rfl))).trans (efr_I (Or.inl rfl)), fun k hk => ?_, cI_same _ _ _ _, ?_, ?_, ?_, ?_⟩ (by omega))
      · have st := l2.2.1.I 11 (nd g n + 14) (nI (cnt (fun k => j + 1 ≤ k ∧ y 6 k ≠ none) T))
        exact CRb.set l2 hn ((cfr_I _ _ _ _).mono (fun b z => by unfold ndP; omega)) st
      · show cP (csP D (nd g n + 20) j none) (nd g n + 20) k = _
        rw [cP_at, l4]
        by_cases f2 : k = j
        · rw [if_pos f2, if_pos (by omega)]
        · rw [if_neg f2, g3 k hk]
          by_cases f : k < j
          · rw [if_pos f, if_pos (by omega)]
          · rw [if_neg f, if_neg (by omega)]
      · rw [cI_other _ _ (Or.inl (by decide)), iD]
        exact g5
      · rw [cI_other _ _ (Or.inl (by decide)), iD]
        exact g6
      · show cP (csP D (nd g n + 20) j none) (nd g n + 22) = _
        rw [cP_other _ _ _ (by omega), l4]
        exact g7
      · show cP (csP D (nd g n + 20) j none) (nd g n + 23) = _
        rw [cP_other _ _ _ (by omega), l4]
        exact g8
theorem clearRest_Z (hN : 100 ≤ N) (h : CRz F g H T s ct hd w pe n v y p x pn z) (hn : n < H) (hl : hd.length ≤ 30) : wp (p_X8_clearRest N g H T s (nd g n + 14)) (k_X8_clearRest N g H T s (nd g n + 14)) (fun s' => CRz F g H T s' ct hd w pe n v (fun f i => if f = 2 ∨ f = 3 then none else y f i) [] x pn z ∧ efr g H n s s') := by
  have cz := h.nz
  have hT := h.1.bb.2.1
  have i1 : ∀ X, efr g H n s X → cI X 1 (nd g n + 14) = nI T := fun X hX => by
    rw [hX.2.2.2.2.2.2.1 1 14 (by decide) (Or.inr (by decide))]
    exact cz.2.2.2.2.2.2.2.2.2.2.2.2.1
  have q22 : nd g n + 14 + 8 = nd g n + 22 := rfl
  have q23 : nd g n + 14 + 9 = nd g n + 23 := rfl
  have nl : nd g n + 14 < nd g H := by unfold nd; omega
  show wp (KO_X8_clearRest_0 N g H T (nd g n + 14) s) (KF_X8_clearRest_0 N g H T (nd g n + 14) s) _
  unfold KO_X8_clearRest_0 KF_X8_clearRest_0
  refine wp_seq (Q := fun Z : Nat × Nat × cS => Z.2.1 = nd g n + 14 ∧ CRb F g H T Z.2.2 ct hd w pe n ∧ efr g H n s Z.2.2 ∧ (∀ k, k < T → cP Z.2.2 (nd g n + 22) k = none ∧ cP Z.2.2 (nd g n + 23) k = none) ∧ (cI Z.2.2 11 (nd g n + 14) = cI s 11 (nd g n + 14)) ∧ cP Z.2.2 (nd g n + 20) = cP s (nd g n + 20)) ?_ ?_
  · refine wp_loop (K := T) (fun j (X : cS) => CRb F g H T X ct hd w pe n ∧ efr g H n s X ∧ (∀ k, k < j → cP X (nd g n + 22) k = none ∧ cP X (nd g n + 23) k = none) ∧ (cI X 11 (nd g n + 14) = cI s 11 (nd g n + 14)) ∧ cP X (nd g n + 20) = cP s (nd g n + 20)) (fun m j X => KOL_X8_clearRest_2 N g H T m (nd g n + 14) (nI j) X) (fun m j X => KL_X8_clearRest_2 N g H T m (nd g n + 14) (nI j) X) (fun m j X hj hI ih => ?_) 0 N s (by omega) (by omega) ⟨h.bb, efr.refl, fun k hk => absurd hk (by omega), rfl, rfl⟩
    obtain ⟨g1, g2, g3, g4, g5⟩ := hI
    unfold KOL_X8_clearRest_2 KL_X8_clearRest_2 KOB_X8_clearRest_2 KB_X8_clearRest_2
    rw [i1 X g2, q22]
    by_cases c : j = T
    · refine wp_pos (by rw [n_le' (by omega) (by omega)]; omega) (wp_fin trivial ⟨rfl, g1, g2, ?_, g4, g5⟩)
      rw [← c]
      exact g3
    rw [n_clamp (by omega)]
    obtain ⟨l1, l2, l3, l4, l5⟩ := g1.lt_ (N := N) (e := 3) (i := j) hn (by omega) (by decide) (by show j < T; omega)
    have ee : cP X (nd g n + plO 3) j = cP X (nd g n + 22) j := rfl
    rw [ee] at l1 l2 l3 l4 l5
    refine wp_neg (by rw [n_le' (by omega) (by omega)]; omega) (wp_and ((n_in (by omega)).2 (by omega)) (wp_and l1 ?_))
    unfold KO_X8_clearRest_23 KF_X8_clearRest_23
    rw [q23, n_clamp (by omega)]
    generalize k_X9_drop N g H T X (g + 11) (cP X (nd g n + 22) j) = D at l2 l3 l4 l5 ⊢
    have l2' : CRb F g H T (csP D (nd g n + 22) j none) ct hd w pe n := l2
    obtain ⟨m1, m2, m3, m4, m5⟩ := l2'.lt_ (N := N) (e := 4) (i := j) hn (by omega) (by decide) (by show j < T; omega)
    have e23 : cP (csP D (nd g n + 22) j none) (nd g n + plO 4) j = cP D (nd g n + 23) j := by
      show cP (csP D (nd g n + 22) j none) (nd g n + 23) j = _
      rw [cP_other _ _ _ (by omega)]
    rw [e23] at m1 m2 m3 m4 m5
    -- the drop ahead of the nulls is the same
    have two : p_X9_drop N g H T D (g + 11) (cP D (nd g n + 23) j) ∧ k_X9_drop N g H T (csP D (nd g n + 22) j none) (g + 11) (cP D (nd g n + 23) j) = csP (k_X9_drop N g H T D (g + 11) (cP D (nd g n + 23) j)) (nd g n + 22) j none ∧ mfr g H D (k_X9_drop N g H T D (g + 11) (cP D (nd g n + 23) j)) ∧ cP (k_X9_drop N g H T D (g + 11) (cP D (nd g n + 23) j)) = cP D := by
      cases e : cP D (nd g n + 23) j with
      | none =>
        have e0 : ∀ Y, p_X9_drop N g H T Y (g + 11) none ∧ k_X9_drop N g H T Y (g + 11) none = Y := fun Y => by
          show wp (KO_X9_drop_0 N g H T (g + 11) none Y) (KF_X9_drop_0 N g H T (g + 11) none Y) (fun z => z = Y)
          unfold KO_X9_drop_0 KF_X9_drop_0
          exact wp_pos rfl (wp_fin trivial rfl)
        rw [(e0 _).2, (e0 _).2]
        exact ⟨(e0 _).1, rfl, mfr.refl, rfl⟩
      | some b =>
        rw [e] at e23
        have ub : 1 ≤ us g H T (csP D (nd g n + 22) j none) hd b := by
          have := cnA_hr (e := 4) (i := j) (g := g) (H := H) (T := T) hn (by decide) (by show j < T; omega) e23
          unfold us
          omega
        obtain ⟨f1, f2⟩ := l2'.dp (N := N) ub (by omega)
        have k5 := l2'.2.2.2.1.k ub
        have i3 : cI D 3 b = nI (us g H T (csP D (nd g n + 22) j none) hd b) := l2'.2.2.2.1.u k5
        have L := (l2'.2.2.2.1.2.2.1 b k5).2.1
        have ubd := us_le (g := g) (s := csP D (nd g n + 22) j none) (a := b) (hd := hd) l2'.1.bb.1 l2'.1.bb.2.1 (by omega)
        have LL : cL D (b + 2) < 1000000 := by
          have L' : cL D (b + 2) = 128 ∨ cL D (b + 2) = 1000 := L
          omega
        obtain ⟨h1', h2'⟩ := drop_c (N := N) (g := g) (H := H) (T := T) (q := g + 11) i3 ub (by omega) LL
        rw [f2, h2', cDrp_P]
        obtain ⟨o1, o2, o3, o4, o5, o6, o7⟩ := cDrp_o (s := D) (g := g) (a := b) (u := us g H T (csP D (nd g n + 22) j none) hd b)
        exact ⟨h1', rfl, cDrp_m (l2'.2.2.2.1.n k5), o5⟩
    obtain ⟨t1, t2, t3, t4⟩ := two
    rw [t2] at m2
    refine wp_and ((n_in (by omega)).2 (by omega)) (wp_and t1 ?_)
    unfold KO_X8_clearRest_36 KF_X8_clearRest_36 KO_X8_clearRest_50 KF_X8_clearRest_50
    rw [q22, q23, n_clamp (by omega), n_add]
    generalize k_X9_drop N g H T D (g + 11) (cP D (nd g n + 23) j) = E at m2 t2 t3 t4 ⊢
    refine wp_and ((n_in (by omega)).2 (by omega)) (wp_and ((n_in (by omega)).2 (by omega)) (ih _ ⟨m2, (((g2.trans (l3.ef hn)).trans (t3.ef hn)).trans (efr_P (Or.inr (Or.inl rfl)))).trans (efr_P (Or.inr (Or.inr rfl))), fun k hk => ⟨?_, ?_⟩, ?_, ?_⟩ (by omega)))
    · rw [cP_other _ _ _ (show nd g n + 22 ≠ nd g n + 23 by omega), cP_at]
      by_cases f : k = j
      · rw [if_pos f]
      · rw [if_neg f, t4, l4]
        exact (g3 k (by omega)).1
    · rw [cP_at]
      by_cases f : k = j
      · rw [if_pos f]
      · rw [if_neg f, cP_other _ _ _ (show nd g n + 23 ≠ nd g n + 22 by omega), t4, l4]
        exact (g3 k (by omega)).2
    · show cI E 11 (nd g n + 14) = _
      rw [t3.2.2.1 _ _ nl, l3.2.2.1 _ _ nl]
      exact g4
    · rw [cP_other _ _ _ (show nd g n + 20 ≠ nd g n + 23 by omega), cP_other _ _ _ (show nd g n + 20 ≠ nd g n + 22 by omega), t4, l4]
      exact g5
  · rintro ⟨Z1, Z2, Z3⟩ ⟨a1, a2, a3, a4, a5, a6⟩
    have a1' : Z2 = nd g n + 14 := a1
    subst a1'
    have a2 : CRb F g H T Z3 ct hd w pe n := a2
    have a3 : efr g H n s Z3 := a3
    have a4 : ∀ k, k < T → cP Z3 (nd g n + 22) k = none ∧ cP Z3 (nd g n + 23) k = none := a4
    have a5 : cI Z3 11 (nd g n + 14) = cI s 11 (nd g n + 14) := a5
    have a6 : cP Z3 (nd g n + 20) = cP s (nd g n + 20) := a6
    unfold KOA_X8_clearRest_2 KA_X8_clearRest_2
    show wp (KO_X8_clearRest_56 N g H T (nd g n + 14) Z3) (KF_X8_clearRest_56 N g H T (nd g n + 14) Z3) _
    unfold KO_X8_clearRest_56 KF_X8_clearRest_56
    have ef2 : efr g H n s (csI (csI Z3 13 (nd g n + 14) (nI 0)) 12 (nd g n + 14) (nI 0)) := (a3.trans (efr_I (Or.inr (Or.inr rfl)))).trans (efr_I (Or.inr (Or.inl rfl)))
    have b2 : CRb F g H T (csI (csI Z3 13 (nd g n + 14) (nI 0)) 12 (nd g n + 14) (nI 0)) ct hd w pe n := (a2.set hn ((cfr_I _ _ _ _).mono (fun b z => by unfold ndP; omega)) (a2.2.1.I _ _ _)).set hn ((cfr_I _ _ _ _).mono (fun b z => by unfold ndP; omega)) ((a2.2.1.I _ _ _).I _ _ _)
    refine wp_fin trivial ⟨b2.zz (cz.ef hn ef2 ?_ ⟨fun k hk => ?_, fun k hk => ?_, ?_⟩ ⟨?_, by decide, fun i hi => absurd hi (by simp)⟩ (fun f h2 h3 _ => ?_)), ef2⟩
    · have q := cz.2.2.2.2.2.2.2.1
      have y6 : (fun i => if (6 : Nat) = 2 ∨ (6 : Nat) = 3 then none else y 6 i) = y 6 := funext fun i => if_neg (by omega)
      rw [y6]
      unfold qD at q ⊢
      have e11 : cI (csI (csI Z3 13 (nd g n + 14) (nI 0)) 12 (nd g n + 14) (nI 0)) 11 (nd g n + 14) = cI s 11 (nd g n + 14) := by
        rw [cI_other _ _ (Or.inl (by decide)), cI_other _ _ (Or.inl (by decide))]
        exact a5
      have e20 : cP (csI (csI Z3 13 (nd g n + 14) (nI 0)) 12 (nd g n + 14) (nI 0)) (nd g n + 20) = cP s (nd g n + 20) := a6
      rw [e11, e20, ef2.2.2.1 _ (by unfold nd; omega)]
      exact q
    · show (cP Z3 (nd g n + 22) k).map ct = _
      rw [(a4 k hk).1]
      rfl
    · show (cP Z3 (nd g n + 23) k).map ct = _
      rw [(a4 k hk).2]
      rfl
    · rw [cI_other _ _ (Or.inl (by decide)), cI_same, cnt_n (A := fun k => (fun f i => if f = 2 ∨ f = 3 then none else y f i) 2 k ≠ none) (fun k _ q => q (if_pos (Or.inl rfl)))]
    · rw [cI_same]
      rfl
    · funext i
      exact if_neg (by omega)
end
end

section
/-! ENDS OF MESSAGES -/
section
variable {N g H T : Nat} {s : cS} {a b : Nat} {o o' : Option (List Nat)}
theorem add_toInt (a : Int64) : (a + zMin).toInt = (unN a : Int) - 9223372036854775808 := by
  have h := unN_lt a
  show ((a + zMin).toBitVec).toInt = _
  rw [Int64.toBitVec_add, BitVec.toInt_eq_toNat_cond, BitVec.toNat_add, show zMin.toBitVec.toNat = 2 ^ 63 from rfl, show a.toBitVec.toNat = unN a from rfl]
  show (if 2 * ((unN a + 2 ^ 63) % 2 ^ 64) < 2 ^ 64 then (((unN a + 2 ^ 63) % 2 ^ 64 : Nat) : Int) else (((unN a + 2 ^ 63) % 2 ^ 64 : Nat) : Int) - ((2 ^ 64 : Nat) : Int)) = _
  split <;> omega
theorem cmpU_c (x y : Int64) : wp (p_J13_compareUnsigned_74951 N g H T s x y) (k_J13_compareUnsigned_74951 N g H T s x y) (fun z => 0 ≤ z ↔ ¬ unN x < unN y) := by
  show wp (KO_J13_compareUnsigned_74951_0 N g H T x y s) (KF_J13_compareUnsigned_74951_0 N g H T x y s) _
  unfold KO_J13_compareUnsigned_74951_0 KF_J13_compareUnsigned_74951_0
  have c : 0 ≤ lg_cmp (x + zMin) (y + zMin) ↔ ¬ unN x < unN y := by
    rw [cmp_ge, Int64.lt_iff_toInt_lt, add_toInt, add_toInt]
    omega
  have k : wp (p_J13_compare_74951 N g H T s (x + zMin) (y + zMin)) (k_J13_compare_74951 N g H T s (x + zMin) (y + zMin)) (fun z => 0 ≤ z ↔ ¬ unN x < unN y) := by
    show wp (KO_J13_compare_74951_0 N g H T (x + zMin) (y + zMin) s) (KF_J13_compare_74951_0 N g H T (x + zMin) (y + zMin) s) _
    unfold KO_J13_compare_74951_0 KF_J13_compare_74951_0 KO_J13_compare_74951_21 KF_J13_compare_74951_21
    refine wp_ite (fun q => ?_) (fun q => ?_)
    · refine wp_ite (fun _ => ?_) (fun _ => ?_)
      · exact wp_fin trivial ⟨fun _ => c.1 q, fun _ => by decide⟩
      · exact wp_fin trivial ⟨fun _ => c.1 q, fun _ => by decide⟩
    · exact wp_fin trivial ⟨fun z => absurd z (by decide), fun z => absurd (c.2 z) q⟩
  exact wp_fin ⟨k.1, trivial⟩ k.2
theorem les1 {J J' : Nat → Int64} {d d' : List Nat} {k : Nat} (h : ∀ k, k < 32 → lby J k = nI (bg d k)) (h' : ∀ k, k < 32 → lby J' k = nI (bg d' k)) (hB : isB d) (hB' : isB d') (hk : k < 4) (eq : ∀ j, j < k → J j = J' j) (ne : J k ≠ J' k) (ls : lesD d d') : unN (J k) < unN (J' k) := by
  have bb : ∀ {J : Nat → Int64} {d : List Nat}, (∀ k, k < 32 → lby J k = nI (bg d k)) → ∀ q r, q < 4 → r < 8 → byt (J q) r = nI (bg d (8 * q + r)) := fun {J d} h q r hq hr => by
    have := h (8 * q + r) (by omega)
    unfold lby at this
    rw [show (8 * q + r) / 8 = q by omega, show (8 * q + r) % 8 = r by omega] at this
    exact this
  obtain ⟨i, i1, i2, i3⟩ := ls
  have ge : 8 * k ≤ i := by
    by_cases c : 8 * k ≤ i
    · exact c
    · exfalso
      have x1 := bb h (i / 8) (i % 8) (by omega) (by omega)
      have x2 := bb h' (i / 8) (i % 8) (by omega) (by omega)
      rw [eq (i / 8) (by omega), x2, show 8 * (i / 8) + i % 8 = i by omega] at x1
      have y1 := hB i
      have y2 := hB' i
      have := n_inj (by omega) (by omega) x1
      omega
  have lt8 : i < 8 * k + 8 := by
    by_cases c : i < 8 * k + 8
    · exact c
    · exfalso
      refine ne (byt_ext (fun r hr => ?_))
      rw [bb h k r hk hr, bb h' k r hk hr, i2 (8 * k + r) (by omega)]
  exact unN_lex (x := fun r => bg d (8 * k + r)) (y := fun r => bg d' (8 * k + r)) (fun r hr => bb h k r hk hr) (fun r hr => bb h' k r hk hr) (fun r _ => hB _) (fun r _ => hB' _) (i := i - 8 * k) (by omega) (fun j hj => i2 (8 * k + j) (by omega)) (by show bg d (8 * k + (i - 8 * k)) < bg d' (8 * k + (i - 8 * k)); rw [show 8 * k + (i - 8 * k) = i by omega]; exact i3)
theorem les2 {J J' : Nat → Int64} {d d' : List Nat} {k : Nat} (h : ∀ k, k < 32 → lby J k = nI (bg d k)) (h' : ∀ k, k < 32 → lby J' k = nI (bg d' k)) (hB : isB d) (hB' : isB d') (l : d.length = 32) (l' : d'.length = 32) (hk : k < 4) (eq : ∀ j, j < k → J j = J' j) (ne : J k ≠ J' k) : lesD d d' ↔ unN (J k) < unN (J' k) := by
  refine ⟨les1 h h' hB hB' hk eq ne, fun q => ?_⟩
  by_cases c : lesD d d'
  · exact c
  · exfalso
    have nd : d ≠ d' := fun e => ne ((id_eq h h' hB hB' l l').2 e k hk)
    have := les1 h' h hB' hB hk (fun j hj => (eq j hj).symm) (fun e => ne e.symm) (lesD_tot l l' nd c)
    omega
theorem endsLike_c (h : nmC s a o) (h' : nmC s b o') (l : idK o) (l' : idK o') : wp (p_X5_endsLike N g H T s a (some b)) (k_X5_endsLike N g H T s a (some b)) (fun z => (z = nI 1 ∧ o = o') ∨ (z = nI 0 ∧ o ≠ o')) := by
  show wp (KO_X5_endsLike_0 N g H T (some a) (some b) s) (KF_X5_endsLike_0 N g H T (some a) (some b) s) _
  unfold KO_X5_endsLike_0 KF_X5_endsLike_0 KO_X5_endsLike_27 KF_X5_endsLike_27
  have nb0 : narrow .boolean (.int (nI 0)) = .int (nI 0) := congrArg Value.int (show nI 0 &&& 1 = nI 0 by decide)
  have nb1 : narrow .boolean (.int (nI 1)) = .int (nI 1) := congrArg Value.int (show nI 1 &&& 1 = nI 1 by decide)
  rw [zsome, zsome]
  refine wp_and someN ?_
  cases o with
  | none =>
    have h : cI s 5 a = nI 0 := h
    refine wp_pos (by rw [h]; rfl) (wp_and someN ?_)
    cases o' with
    | none =>
      have h' : cI s 5 b = nI 0 := h'
      exact wp_pos (by rw [h']; rfl) (wp_fin nb1 (Or.inl ⟨rfl, rfl⟩))
    | some d' =>
      have h' : cI s 5 b = nI 1 := h'.1
      exact wp_neg (by rw [h']; decide) (wp_fin nb0 (Or.inr ⟨rfl, fun q => by cases q⟩))
  | some d =>
    have h5 : cI s 5 a = nI 1 := h.1
    refine wp_neg (by rw [h5]; decide) (wp_call (isFor_c (N := N) (g := g) (H := H) (T := T) h h' l l') (fun q => ?_))
    generalize k_X5_isFor N g H T s a (some b) = z at q ⊢
    rcases q with ⟨rfl, q2, _⟩ | ⟨rfl, q2⟩
    · exact wp_fin nb1 (Or.inl ⟨rfl, q2⟩)
    · exact wp_fin nb0 (Or.inr ⟨rfl, fun e => q2 ⟨e, fun q => by cases q⟩⟩)
theorem endsBelow_c (hN : 10 ≤ N) (h : nmC s a o) (h' : nmC s b o') (l : idK o) (l' : idK o') (ne : o ≠ o') : wp (p_X5_endsBelow N g H T s a (some b)) (k_X5_endsBelow N g H T s a (some b)) (fun z => (z = nI 1 ∧ evF o o') ∨ (z = nI 0 ∧ ¬ evF o o')) := by
  have nb0 : narrow .boolean (.int (nI 0)) = .int (nI 0) := congrArg Value.int (show nI 0 &&& 1 = nI 0 by decide)
  have nb1 : narrow .boolean (.int (nI 1)) = .int (nI 1) := congrArg Value.int (show nI 1 &&& 1 = nI 1 by decide)
  show wp (KO_X5_endsBelow_0 N g H T (some a) (some b) s) (KF_X5_endsBelow_0 N g H T (some a) (some b) s) _
  unfold KO_X5_endsBelow_0 KF_X5_endsBelow_0
  refine wp_seq (Q := fun z => (z.1 = 1 ∧ z.2.1 = some a ∧ (o = none ∨ o' = none)) ∨ ∃ k d d', k < 4 ∧ o = some d ∧ o' = some d' ∧ z = (0, some a, some b, nI k, ()) ∧ (∀ j, j < k → cJ s (a + 1) j = cJ s (b + 1) j) ∧ cJ s (a + 1) k ≠ cJ s (b + 1) k) ?_ (fun z hz => ?_)
  · refine wp_loop (σ := Unit) (K := 4) (fun k _ => ∀ j, j < k → cJ s (a + 1) j = cJ s (b + 1) j) (fun r k _ => KOL_X5_endsBelow_2 N g H T r (some a) (some b) (nI k) s) (fun r k _ => KL_X5_endsBelow_2 N g H T r (some a) (some b) (nI k) s) (fun r k _ hk hI ih => ?_) 0 N () (by omega) (by omega) (fun j hj => absurd hj (by omega))
    unfold KOL_X5_endsBelow_2 KL_X5_endsBelow_2 KOB_X5_endsBelow_2 KB_X5_endsBelow_2
    have nn : ∀ (d d' : List Nat), o = some d → o' = some d' → k < 4 := fun d d' e e' => by
      by_cases c : k < 4
      · exact c
      · exfalso
        have e4 : k = 4 := by omega
        subst e e'
        exact ne (congrArg some ((id_eq h.2 h'.2 (l d rfl).2 (l' d' rfl).2 (l d rfl).1 (l' d' rfl).1).1 (fun i hi => hI i (by omega))))
    rw [zsome, zsome]
    refine wp_ite (fun c => ?_) (fun c => ?_) <;> rw [n_le' (by omega) (by omega)] at c
    · refine wp_fin trivial (Or.inl ⟨rfl, rfl, ?_⟩)
      cases eo : o with
      | none => exact Or.inl rfl
      | some d =>
        cases eo' : o' with
        | none => exact Or.inr rfl
        | some d' =>
          have := nn d d' eo eo'
          omega
    refine wp_and someN ?_
    cases eo : o with
    | none =>
      subst eo
      have h : cI s 5 a = nI 0 := h
      exact wp_pos (by rw [h]; rfl) (wp_fin trivial (Or.inl ⟨rfl, rfl, Or.inl rfl⟩))
    | some d =>
      subst eo
      have h5 : cI s 5 a = nI 1 := h.1
      refine wp_neg (by rw [h5]; decide) (wp_and someN ?_)
      cases eo' : o' with
      | none =>
        subst eo'
        have h' : cI s 5 b = nI 0 := h'
        exact wp_pos (by rw [h']; rfl) (wp_fin trivial (Or.inl ⟨rfl, rfl, Or.inr rfl⟩))
      | some d' =>
        subst eo'
        have h5' : cI s 5 b = nI 1 := h'.1
        refine wp_neg (by rw [h5']; decide) ?_
        rw [n_clamp (by omega), n_add]
        refine wp_and ((n_in (by omega)).2 (by omega)) (wp_and ((n_in (by omega)).2 (by omega)) (wp_ite (fun q => ?_) (fun q => ?_))) <;> rw [lgc] at q
        · refine ih () (fun j hj => ?_) (by omega)
          by_cases c2 : j = k
          · rw [c2]
            exact q
          · exact hI j (by omega)
        · exact wp_fin trivial (Or.inr ⟨k, d, d', (by omega), rfl, rfl, rfl, hI, q⟩)
  · unfold KOA_X5_endsBelow_2 KA_X5_endsBelow_2
    rcases hz with ⟨z1, z2, z3⟩ | ⟨k, d, d', k1, e1, e2, ez, k2, k3⟩
    · rw [if_neg (show ¬ z.1 = 0 by omega), if_neg (show ¬ z.1 = 0 by omega), z2]
      unfold KO_X5_endsBelow_67 KF_X5_endsBelow_67 KO_X5_endsBelow_79 KF_X5_endsBelow_79
      rw [zsome]
      refine wp_and someN ?_
      cases eo : o with
      | none =>
        subst eo
        have h : cI s 5 a = nI 0 := h
        exact wp_pos (by rw [h]; rfl) (wp_fin nb1 (Or.inl ⟨rfl, Or.inl rfl⟩))
      | some d =>
        subst eo
        have h5 : cI s 5 a = nI 1 := h.1
        refine wp_neg (by rw [h5]; decide) (wp_fin nb0 (Or.inr ⟨rfl, ?_⟩))
        rintro (q | ⟨_, d', _, q, _⟩)
        · cases q
        · rcases z3 with z3 | z3
          · cases z3
          · rw [z3] at q
            cases q
    · subst e1 e2
      have z0 : z.1 = 0 := by rw [ez]
      have z1 : z.2.1 = some a := by rw [ez]
      have z2 : z.2.2.1 = some b := by rw [ez]
      have z3 : z.2.2.2.1 = nI k := by rw [ez]
      rw [if_pos z0, if_pos z0, z1, z2, z3]
      show wp (KO_X5_endsBelow_37 N g H T (some a) (some b) (nI k) s) (KF_X5_endsBelow_37 N g H T (some a) (some b) (nI k) s) _
      unfold KO_X5_endsBelow_37 KF_X5_endsBelow_37 KO_X5_endsBelow_60 KF_X5_endsBelow_60
      rw [zsome, zsome, n_clamp (by omega)]
      have le := les2 h.2 h'.2 (l d rfl).2 (l' d' rfl).2 (l d rfl).1 (l' d' rfl).1 k1 k2 k3
      have ef : evF (some d) (some d') ↔ lesD d d' := by
        constructor
        · rintro (q | ⟨x, x', q1, q2, q3⟩)
          · cases q
          · cases q1
            cases q2
            exact q3
        · exact fun q => Or.inr ⟨d, d', rfl, rfl, q⟩
      refine wp_and someN (wp_and ((n_in (by omega)).2 (by omega)) (wp_and someN (wp_and ((n_in (by omega)).2 (by omega)) (wp_call (cmpU_c _ _) (fun q => ?_)))))
      rw [← le, ← ef] at q
      refine wp_ite (fun c => ?_) (fun c => ?_)
      · exact wp_fin nb0 (Or.inr ⟨rfl, q.1 c⟩)
      · refine wp_fin nb1 (Or.inl ⟨rfl, ?_⟩)
        by_cases z : evF (some d) (some d')
        · exact z
        · exact absurd (q.2 z) c
end
/-- the id that a signed message is for -/
theorem idM_ed {T : Nat} {m : List Nat} (h : bg m 0 = 1 ∨ ((bg m 0 = 2 ∨ bg m 0 = 3) ∧ voOK T m)) : idM m = edM m := by
  unfold edM
  rcases h with h | ⟨h, v⟩
  · unfold idM
    rw [if_pos h, if_pos h]
  · rw [if_neg (by omega)]
    rcases idM_v h v with ⟨a, b⟩ | ⟨a, b, _⟩
    · rw [b, if_neg (by omega)]
    · rw [b, if_pos a]
end

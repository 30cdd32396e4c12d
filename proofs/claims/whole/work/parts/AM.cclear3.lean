section
/-! THE CLASS'S SHELF: a height is cleared, whole -/
section
variable {F N g H T n : Nat} {s s' : cS} {ct : Nat → List Nat} {hd : List Nat} {w : Wd} {pe : Nat → Int} {v : Nat → Int} {y z : Nat → Nat → Option (List Nat)} {p : List (List Nat)} {x : Nat → Nat → Nat} {pn : Int} {a : Nat}
/-- so many rounds are cleared -/
def clJ (T : Nat) (bu : List Nat → Prop) (z : Nat → Nat → Option (List Nat)) (P j : Nat) (z1 : Nat → Nat → Option (List Nat)) : Prop := (∀ r, r < 16 → z1 4 (16 * P + r) = (if r < j then kpO bu (z 4 (16 * P + r)) else z 4 (16 * P + r)) ∧ ∀ c k, c ≤ 1 → k < T → z1 5 (vq c P r k) = if r < j then kpO bu (z 5 (vq c P r k)) else z 5 (vq c P r k)) ∧ (∀ i, i < 32 → i / 16 ≠ P → z1 4 i = z 4 i) ∧ ∀ c p' r k, c ≤ 1 → p' ≤ 1 → p' ≠ P → r < 16 → k < T → z1 5 (vq c p' r k) = z 5 (vq c p' r k)
def clT (T P j tp : Nat) (z1 : Nat → Nat → Option (List Nat)) : Prop := ∀ r, tp ≤ r → r < j → z1 4 (16 * P + r) = none ∧ ∀ c k, c ≤ 1 → k < T → z1 5 (vq c P r k) = none
theorem clear_l10 {x2 : Int32} {P t : Nat} (hN : 100 ≤ N) (h : CRz F g H T s ct hd w pe n v y p x pn z) (hn : n < H) (hl : hd.length ≤ 30) (hT : T ≤ 13) (hP : P ≤ 1) (ht : t ≤ 16) (htp : cA s (nd g n + 17) P = nI t) : wp (KOL_X8_clear_10 N g H T N (nd g n + 14) x2 (nI P) (nI 0) (nI 0) s) (KL_X8_clear_10 N g H T N (nd g n + 14) x2 (nI P) (nI 0) (nI 0) s) (fun Z => ∃ tp s' z1, Z = (0, nd g n + 14, nI P, nI tp, s') ∧ tp ≤ t ∧ CRz F g H T s' ct hd w pe n v y p x pn z1 ∧ clJ T (fun m => x2 = nI (bg m 1)) z P t z1 ∧ clT T P t tp z1 ∧ (∀ i, i < 32 → cA s' (nd g n + 16) i = if i / 16 = P ∧ i % 16 < t then nI 0 else cA s (nd g n + 16) i) ∧ cA s' (nd g n + 17) = cA s (nd g n + 17)) := by
  have q15 : nd g n + 14 + 1 = nd g n + 15 := rfl
  have q16 : nd g n + 14 + 2 = nd g n + 16 := rfl
  have q17 : nd g n + 14 + 3 = nd g n + 17 := rfl
  have main := wp_loop (K := t) (P := fun Z : Nat × Nat × Int32 × Int32 × cS => ∃ tp s' z1, Z = (0, nd g n + 14, nI P, nI tp, s') ∧ tp ≤ t ∧ CRz F g H T s' ct hd w pe n v y p x pn z1 ∧ clJ T (fun m => x2 = nI (bg m 1)) z P t z1 ∧ clT T P t tp z1 ∧ (∀ i, i < 32 → cA s' (nd g n + 16) i = if i / 16 = P ∧ i % 16 < t then nI 0 else cA s (nd g n + 16) i) ∧ cA s' (nd g n + 17) = cA s (nd g n + 17)) (fun j (X : Nat × cS) => X.1 ≤ j ∧ ∃ z1, CRz F g H T X.2 ct hd w pe n v y p x pn z1 ∧ clJ T (fun m => x2 = nI (bg m 1)) z P j z1 ∧ clT T P j X.1 z1 ∧ (∀ i, i < 32 → cA X.2 (nd g n + 16) i = if i / 16 = P ∧ i % 16 < j then nI 0 else cA s (nd g n + 16) i) ∧ cA X.2 (nd g n + 17) = cA s (nd g n + 17)) (fun m j X => KOL_X8_clear_10 N g H T m (nd g n + 14) x2 (nI P) (nI X.1) (nI j) X.2) (fun m j X => KL_X8_clear_10 N g H T m (nd g n + 14) x2 (nI P) (nI X.1) (nI j) X.2) (fun m j X hj hI ih => ?_) 0 N (0, s) (by omega) (by omega) ⟨Nat.le_refl _, z, h, ⟨fun r hr => ⟨by rw [if_neg (by omega)], fun c k _ _ => by rw [if_neg (by omega)]⟩, fun _ _ _ => rfl, fun _ _ _ _ _ _ _ _ _ => rfl⟩, fun r _ hr => absurd hr (by omega), fun i _ => by rw [if_neg (by omega)], rfl⟩
  · exact main
  obtain ⟨tp, X2⟩ := X
  obtain ⟨g0, z1, g1, ⟨g2, g3, g4⟩, g5, g6, g7⟩ := hI
  have g0 : tp ≤ j := g0
  have g1 : CRz F g H T X2 ct hd w pe n v y p x pn z1 := g1
  have g5 : clT T P j tp z1 := g5
  have g6 : ∀ i, i < 32 → cA X2 (nd g n + 16) i = if i / 16 = P ∧ i % 16 < j then nI 0 else cA s (nd g n + 16) i := g6
  have g7 : cA X2 (nd g n + 17) = cA s (nd g n + 17) := g7
  show wp (KOL_X8_clear_10 N g H T (m + 1) (nd g n + 14) x2 (nI P) (nI tp) (nI j) X2) (KL_X8_clear_10 N g H T (m + 1) (nd g n + 14) x2 (nI P) (nI tp) (nI j) X2) _
  unfold KOL_X8_clear_10 KL_X8_clear_10 KOB_X8_clear_10 KB_X8_clear_10
  rw [q17, q15, n_clamp (show P < 2147483648 by omega), g7, htp]
  refine wp_and ((n_in (by omega)).2 (by omega)) ?_
  by_cases c : j = t
  · refine wp_pos (by rw [n_le' (by omega) (by omega)]; omega) (wp_fin trivial ?_)
    subst c
    exact ⟨tp, X2, z1, rfl, g0, g1, ⟨g2, g3, g4⟩, g5, g6, g7⟩
  have hj16 : j < 16 := by omega
  rw [n_mul, n_add, show P * 16 + j = 16 * P + j by omega]
  refine wp_neg (by rw [n_le' (by omega) (by omega)]; omega) (wp_neg (by rw [n_le' (by omega) (by omega)]; omega) (wp_and ((n_in (by omega)).2 (by omega)) ?_))
  rw [n_clamp (by omega)]
  have zj : z1 4 (16 * P + j) = z 4 (16 * P + j) := by rw [(g2 j hj16).1, if_neg (by omega)]
  have zv : ∀ c k, c ≤ 1 → k < T → z1 5 (vq c P j k) = z 5 (vq c P j k) := fun c k a b => by rw [(g2 j hj16).2 c k a b, if_neg (by omega)]
  have cell := g1.nz.2.2.2.2.2.2.1.1 (16 * P + j) (by omega)
  rw [zj] at cell
  -- behind the proposal
  have aft : ∀ (S4 : cS) (z2 : Nat → Nat → Option (List Nat)) (lf : Nat), lf ≤ 1 → CRz F g H T S4 ct hd w pe n v y p x pn z2 → z2 4 (16 * P + j) = kpO (fun m => x2 = nI (bg m 1)) (z 4 (16 * P + j)) → (∀ f i, f ≠ 4 ∨ i ≠ 16 * P + j → z2 f i = z1 f i) → (lf = 0 → z2 4 (16 * P + j) = none) → (∀ i, i < 32 → cA S4 (nd g n + 16) i = if i / 16 = P ∧ i % 16 < j + 1 then nI 0 else cA s (nd g n + 16) i) → cA S4 (nd g n + 17) = cA s (nd g n + 17) → wp (KO_X8_clear_106 N g H T (KOL_X8_clear_10 N g H T m) (nd g n + 14) x2 (nI P) (nI tp) (nI j) (nI (16 * P + j)) (nI lf) S4) (KF_X8_clear_106 N g H T (KL_X8_clear_10 N g H T m) (nd g n + 14) x2 (nI P) (nI tp) (nI j) (nI (16 * P + j)) (nI lf) S4) (fun Z : Nat × Nat × Int32 × Int32 × cS => ∃ tp s' z1, Z = (0, nd g n + 14, nI P, nI tp, s') ∧ tp ≤ t ∧ CRz F g H T s' ct hd w pe n v y p x pn z1 ∧ clJ T (fun m => x2 = nI (bg m 1)) z P t z1 ∧ clT T P t tp z1 ∧ (∀ i, i < 32 → cA s' (nd g n + 16) i = if i / 16 = P ∧ i % 16 < t then nI 0 else cA s (nd g n + 16) i) ∧ cA s' (nd g n + 17) = cA s (nd g n + 17)) := fun S4 z2 lf b0 b1 b2 b3 b4 b5 b6 => by
    unfold KO_X8_clear_106 KF_X8_clear_106
    have i1 : cI S4 1 (nd g n + 14) = nI T := b1.nz.2.2.2.2.2.2.2.2.2.2.2.2.1
    have bl : p_X8_ballots N g H T S4 (nd g n + 14) (nI (16 * P + j)) (nI 2) ∧ k_X8_ballots N g H T S4 (nd g n + 14) (nI (16 * P + j)) (nI 2) = nI (2 * (16 * P + j) * T) := by
      show wp (KO_X8_ballots_0 N g H T (nd g n + 14) (nI (16 * P + j)) (nI 2) S4) (KF_X8_ballots_0 N g H T (nd g n + 14) (nI (16 * P + j)) (nI 2) S4) (fun v => v = nI (2 * (16 * P + j) * T))
      unfold KO_X8_ballots_0 KF_X8_ballots_0 KO_X8_ballots_13 KF_X8_ballots_13
      refine wp_pos rfl (wp_fin trivial ?_)
      rw [i1, n_mul, n_add, n_mul]
      rfl
    rw [bl.2]
    refine wp_and bl.1 (wp_seq (clear_l121 (N := N) (x2 := x2) (x3 := nI P) (x4 := nI tp) (x5 := nI j) hN b1 hn hl hT hP hj16 b0) ?_)
    rintro Z ⟨lf', S5, z3, rfl, d0, d1, d2, d3, d4, d5, d6⟩
    unfold KOA_X8_clear_121 KA_X8_clear_121 KO_X8_clear_209 KF_X8_clear_209
    show wp ((nI lf' = 0 → KO_X8_clear_223 N g H T (KOL_X8_clear_10 N g H T m) (nd g n + 14) x2 (nI P) (nI j) (nI tp) S5) ∧ (¬ nI lf' = 0 → KO_X8_clear_223 N g H T (KOL_X8_clear_10 N g H T m) (nd g n + 14) x2 (nI P) (nI j) (nI j + nI 1) S5)) (if nI lf' = 0 then KF_X8_clear_223 N g H T (KL_X8_clear_10 N g H T m) (nd g n + 14) x2 (nI P) (nI j) (nI tp) S5 else KF_X8_clear_223 N g H T (KL_X8_clear_10 N g H T m) (nd g n + 14) x2 (nI P) (nI j) (nI j + nI 1) S5) _
    have o4 : ∀ i, z3 4 i = z2 4 i := fun i => d3 4 i (fun q => absurd q.1 (by decide))
    have o5 : ∀ c p' r k, c ≤ 1 → p' ≤ 1 → r < 16 → k < T → (p' ≠ P ∨ r ≠ j) → z3 5 (vq c p' r k) = z1 5 (vq c p' r k) := fun c p' r k a1 a2 a3 a4 a5 => by
      rw [d3 5 _ (fun q => by
        obtain ⟨-, c2, k2, e1, e2, e3⟩ := q
        obtain ⟨j1, j2, j3, j4⟩ := vq_inj e3 a2 a3 (by omega) hP hj16 (by omega)
        omega), b3 5 _ (Or.inl (by decide))]
    have cl : clJ T (fun m => x2 = nI (bg m 1)) z P (j + 1) z3 := by
      refine ⟨fun r hr => ⟨?_, fun c k a b => ?_⟩, fun i hi hi2 => ?_, fun c p' r k a1 a2 a3 a4 a5 => ?_⟩
      · rw [o4]
        by_cases e : r = j
        · rw [e, if_pos (by omega)]
          exact b2
        · rw [b3 4 _ (Or.inr (by omega)), (g2 r hr).1]
          by_cases f : r < j
          · rw [if_pos f, if_pos (by omega)]
          · rw [if_neg f, if_neg (by omega)]
      · by_cases e : r = j
        · rw [e, if_pos (by omega), d2 c k a b, b3 5 _ (Or.inl (by decide)), zv c k a b]
        · rw [o5 c P r k a hP hr b (Or.inr e), (g2 r hr).2 c k a b]
          by_cases f : r < j
          · rw [if_pos f, if_pos (by omega)]
          · rw [if_neg f, if_neg (by omega)]
      · rw [o4, b3 4 i (Or.inr (by omega))]
        exact g3 i hi hi2
      · rw [o5 c p' r k a1 a2 a4 a5 (Or.inl a3)]
        exact g4 c p' r k a1 a2 a3 a4 a5
    have cltR : ∀ r, tp ≤ r → r < j → z3 4 (16 * P + r) = none ∧ ∀ c k, c ≤ 1 → k < T → z3 5 (vq c P r k) = none := fun r r1 r2 => ⟨by rw [o4, b3 4 _ (Or.inr (by omega))]; exact (g5 r r1 r2).1, fun c k a b => by rw [o5 c P r k a hP (by omega) b (Or.inr (by omega))]; exact (g5 r r1 r2).2 c k a b⟩
    refine wp_ite (fun e => ?_) (fun e => ?_) <;> rw [n_eq0 (by omega)] at e <;> unfold KO_X8_clear_223 KF_X8_clear_223 <;> rw [n_add]
    · obtain ⟨e1, e2⟩ := d4 e
      refine ih (tp, S5) ⟨Nat.le_succ_of_le g0, z3, d1, cl, fun r r1 r2 => ?_, fun i hi => by rw [show cA S5 (nd g n + 16) = cA S4 (nd g n + 16) from d5]; exact b5 i hi, by rw [show cA S5 (nd g n + 17) = cA S4 (nd g n + 17) from d6]; exact b6⟩ (by omega)
      have r1 : tp ≤ r := r1
      by_cases f : r = j
      · rw [f]
        exact ⟨by rw [o4]; exact b4 e1, e2⟩
      · exact cltR r r1 (by omega)
    · refine ih (j + 1, S5) ⟨Nat.le_refl _, z3, d1, cl, fun r r1 r2 => ?_, fun i hi => by rw [show cA S5 (nd g n + 16) = cA S4 (nd g n + 16) from d5]; exact b5 i hi, by rw [show cA S5 (nd g n + 17) = cA S4 (nd g n + 17) from d6]; exact b6⟩ (by omega)
      have r1 : j + 1 ≤ r := r1
      omega
  -- the proposal stays, or there is none
  have ver : ∀ (S : cS), (∀ i, i < 32 → cA S (nd g n + 16) i = cA X2 (nd g n + 16) i) → ∀ i, i < 32 → cA (csA S (nd g n + 16) (16 * P + j) (nI 0)) (nd g n + 16) i = if i / 16 = P ∧ i % 16 < j + 1 then nI 0 else cA s (nd g n + 16) i := fun S hS i hi => by
    rw [cA_at]
    by_cases e : i = 16 * P + j
    · rw [if_pos e, if_pos (by omega)]
    · rw [if_neg e, hS i hi, g6 i hi]
      by_cases f : i / 16 = P ∧ i % 16 < j
      · rw [if_pos f, if_pos (by omega)]
      · rw [if_neg f, if_neg (by omega)]
  have stay : z 4 (16 * P + j) = kpO (fun m => x2 = nI (bg m 1)) (z 4 (16 * P + j)) → wp (KO_X8_clear_83 N g H T (KOL_X8_clear_10 N g H T m) (nd g n + 14) x2 (nI P) (nI tp) (nI j) (nI (16 * P + j)) X2) (KF_X8_clear_83 N g H T (KL_X8_clear_10 N g H T m) (nd g n + 14) x2 (nI P) (nI tp) (nI j) (nI (16 * P + j)) X2) (fun Z : Nat × Nat × Int32 × Int32 × cS => ∃ tp s' z1, Z = (0, nd g n + 14, nI P, nI tp, s') ∧ tp ≤ t ∧ CRz F g H T s' ct hd w pe n v y p x pn z1 ∧ clJ T (fun m => x2 = nI (bg m 1)) z P t z1 ∧ clT T P t tp z1 ∧ (∀ i, i < 32 → cA s' (nd g n + 16) i = if i / 16 = P ∧ i % 16 < t then nI 0 else cA s (nd g n + 16) i) ∧ cA s' (nd g n + 17) = cA s (nd g n + 17)) := fun hk => by
    unfold KO_X8_clear_83 KF_X8_clear_83
    rw [q16, q15, n_clamp (by omega)]
    have v0 := ver_0 (q := 16 * P + j) g1 hn (by omega)
    have c15 : cP (csA X2 (nd g n + 16) (16 * P + j) (nI 0)) (nd g n + 15) (16 * P + j) = cP X2 (nd g n + 15) (16 * P + j) := rfl
    have v17 : cA (csA X2 (nd g n + 16) (16 * P + j) (nI 0)) (nd g n + 17) = cA s (nd g n + 17) := by
      rw [cA_ne _ _ _ (by omega)]
      exact g7
    rw [c15]
    refine wp_and ((n_in (by omega)).2 (by omega)) (wp_and ((n_in (by omega)).2 (by omega)) ?_)
    cases e : cP X2 (nd g n + 15) (16 * P + j) with
    | none =>
      rw [e] at cell
      exact wp_pos rfl (aft _ z1 0 (by decide) v0 (by rw [zj]; exact hk) (fun _ _ _ => rfl) (fun _ => by rw [zj]; exact cell.symm) (ver X2 (fun _ _ => rfl)) v17)
    | some a2 =>
      exact wp_neg someN (aft _ z1 1 (by decide) v0 (by rw [zj]; exact hk) (fun _ _ _ => rfl) (fun q => absurd q (by decide)) (ver X2 (fun _ _ => rfl)) v17)
  cases e : cP X2 (nd g n + 15) (16 * P + j) with
  | none =>
    rw [e] at cell
    refine wp_pos rfl (stay ?_)
    rw [← cell]
    rfl
  | some a2 =>
    rw [e] at cell
    have cell' : z 4 (16 * P + j) = some (ct a2) := cell.symm
    have ua : 1 ≤ us g H T X2 hd a2 := by
      have := cnA_hr (e := 0) (g := g) (H := H) (T := T) hn (by decide) (show 16 * P + j < 32 by omega) e
      unfold us
      omega
    obtain ⟨sg1, sg2⟩ := signer_ok (N := N) (g := g) (H := H) (T := T) (g1.ms ua)
    refine wp_neg someN (wp_and ((n_in (by omega)).2 (by omega)) ?_)
    rw [zsome, sg2]
    refine wp_and sg1 (wp_ite (fun d => ?_) (fun d => wp_and ((n_in (by omega)).2 (by omega)) ?_))
    · refine stay ?_
      rw [cell', kpO_y d.symm]
    · obtain ⟨dp, dz⟩ := let_P (N := N) g1 hn hl (show 16 * P + j < 32 by omega) e
      refine wp_and dp ?_
      have ek := (g1.dp (N := N) ua (by omega)).2
      have oA : cA (k_X9_drop N g H T X2 (g + 11) (some a2)) = cA X2 := by
        rw [ek]
        exact (cDrp_o (s := X2) (g := g) (a := a2)).2.2.2.2.2.1
      unfold KO_X8_clear_75 KF_X8_clear_75 KO_X8_clear_83 KF_X8_clear_83
      rw [q15, q16, n_clamp (by omega)]
      generalize k_X9_drop N g H T X2 (g + 11) (some a2) = D at dz oA ⊢
      have c15 : cP (csA (csP D (nd g n + 15) (16 * P + j) none) (nd g n + 16) (16 * P + j) (nI 0)) (nd g n + 15) (16 * P + j) = none := by
        show cP (csP D (nd g n + 15) (16 * P + j) none) (nd g n + 15) (16 * P + j) = none
        rw [cP_at, if_pos rfl]
      rw [c15]
      refine wp_and ((n_in (by omega)).2 (by omega)) (wp_and ((n_in (by omega)).2 (by omega)) (wp_and ((n_in (by omega)).2 (by omega)) (wp_pos rfl (aft _ (zc z1 4 (16 * P + j)) 0 (by decide) dz ?_ (fun f i hfi => zc_o hfi) (fun _ => zc_s) (ver (csP D (nd g n + 15) (16 * P + j) none) (fun i _ => ?_)) ?_))))
      · rw [zc_s, cell', kpO_d (fun q => d q.symm)]
      · show cA D (nd g n + 16) i = _
        rw [oA]
      · rw [cA_ne _ _ _ (by omega)]
        show cA D (nd g n + 17) = _
        rw [oA]
        exact g7
theorem clear_Z {x2 : Int32} {hh : Nat} (hN : 100 ≤ N) (h : CRz F g H T s ct hd w pe n v y p x pn z) (hn : n < H) (hl : hd.length ≤ 30) (hT : T ≤ 13) : wp (p_X8_clear N g H T s (nd g n + 14) (nI hh) x2) (k_X8_clear N g H T s (nd g n + 14) (nI hh) x2) (fun s' => ∃ z1, CRz F g H T s' ct hd w pe n v y p x pn z1 ∧ clS T (fun m => x2 = nI (bg m 1)) z (hh % 2) z1 ∧ ∀ i, i < 32 → cA s' (nd g n + 16) i = if i / 16 = hh % 2 then nI 0 else cA s (nd g n + 16) i) := by
  have q17 : nd g n + 14 + 3 = nd g n + 17 := rfl
  have hP : hh % 2 ≤ 1 := by omega
  obtain ⟨c7, c7b, c7c, c7d⟩ := h.nz.2.2.2.2.2.2.1
  obtain ⟨t, t1, t2, t3⟩ := c7d (hh % 2) hP
  show wp (KO_X8_clear_0 N g H T (nd g n + 14) (nI hh) x2 s) (KF_X8_clear_0 N g H T (nd g n + 14) (nI hh) x2 s) _
  unfold KO_X8_clear_0 KF_X8_clear_0
  rw [n_and1]
  refine wp_seq (clear_l10 (N := N) (x2 := x2) hN h hn hl hT hP t1 t2) ?_
  rintro Z ⟨tp, S, z1, rfl, e0, e1, ⟨e2, e3, e4⟩, e5, e6, e7⟩
  unfold KOA_X8_clear_10 KA_X8_clear_10
  show wp (KO_X8_clear_231 N g H T (nd g n + 14) (nI (hh % 2)) (nI tp) S) (KF_X8_clear_231 N g H T (nd g n + 14) (nI (hh % 2)) (nI tp) S) _
  unfold KO_X8_clear_231 KF_X8_clear_231
  rw [q17, n_clamp (by omega)]
  have all : clS T (fun m => x2 = nI (bg m 1)) z (hh % 2) z1 := by
    refine ⟨fun r hr => ⟨?_, fun c k a b => ?_⟩, e3, e4⟩
    · rw [(e2 r hr).1]
      by_cases f : r < t
      · rw [if_pos f]
      · rw [if_neg f, (t3 r (by omega) hr).1]
        rfl
    · rw [(e2 r hr).2 c k a b]
      by_cases f : r < t
      · rw [if_pos f]
      · rw [if_neg f, (t3 r (by omega) hr).2 c k a b]
        rfl
  have d := e1.nz.2.2.2.2.2.2.1
  refine wp_fin ⟨((n_in (by omega)).2 (by omega)), trivial⟩ ⟨z1, e1.A hn (Or.inr (Or.inl rfl)) ⟨d.1, d.2.1, fun i hi => ?_, fun p' hp' => ?_⟩ ?_, all, fun i hi => ?_⟩
  · rw [cA_ne _ _ _ (show nd g n + 16 ≠ nd g n + 17 by omega)]
    exact d.2.2.1 i hi
  · rw [cA_at]
    by_cases f : p' = hh % 2
    · rw [if_pos f, f]
      refine ⟨tp, by omega, rfl, fun r r1 r2 => ?_⟩
      by_cases q : r < t
      · exact e5 r r1 q
      · refine ⟨?_, fun c k a b => ?_⟩
        · rw [(all.1 r r2).1, (t3 r (by omega) r2).1]
          rfl
        · rw [(all.1 r r2).2 c k a b, (t3 r (by omega) r2).2 c k a b]
          rfl
    · rw [if_neg f]
      exact d.2.2.2 p' hp'
  · unfold qD
    rw [cA_ne _ _ _ (show nd g n + 21 ≠ nd g n + 17 by omega)]
    exact e1.nz.2.2.2.2.2.2.2.1
  · rw [cA_ne _ _ _ (show nd g n + 16 ≠ nd g n + 17 by omega), e6 i hi]
    by_cases f : i / 16 = hh % 2
    · rw [if_pos f]
      by_cases q : i % 16 < t
      · rw [if_pos ⟨f, q⟩]
      · rw [if_neg (fun q' => q q'.2)]
        rcases c7c i hi with m | ⟨m, m1, m2, m3⟩
        · exact m
        · have := (t3 (i % 16) (by omega) (Nat.mod_lt _ (by decide))).1
          rw [show 16 * (hh % 2) + i % 16 = i by omega] at this
          rw [this] at m1
          cases m1
    · rw [if_neg f, if_neg (fun q => f q.1)]
end
end

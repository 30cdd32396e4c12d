section
/-! THE CLASS'S SHELF: a height is cleared -/
/-- what is kept: what one signed -/
noncomputable def kpO (bu : List Nat → Prop) (o : Option (List Nat)) : Option (List Nat) := match o with
  | none => none
  | some m => cif (bu m) (some m) none
theorem kpO_n {bu : List Nat → Prop} : kpO bu none = none := rfl
theorem kpO_y {bu : List Nat → Prop} {m : List Nat} (h : bu m) : kpO bu (some m) = some m := cif_pos h
theorem kpO_d {bu : List Nat → Prop} {m : List Nat} (h : ¬ bu m) : kpO bu (some m) = none := cif_neg h
/-- a height's half is cleared -/
def clS (T : Nat) (bu : List Nat → Prop) (z : Nat → Nat → Option (List Nat)) (p : Nat) (z1 : Nat → Nat → Option (List Nat)) : Prop := (∀ r, r < 16 → z1 4 (16 * p + r) = kpO bu (z 4 (16 * p + r)) ∧ ∀ c k, c ≤ 1 → k < T → z1 5 (vq c p r k) = kpO bu (z 5 (vq c p r k))) ∧ (∀ i, i < 32 → i / 16 ≠ p → z1 4 i = z 4 i) ∧ ∀ c p' r k, c ≤ 1 → p' ≤ 1 → p' ≠ p → r < 16 → k < T → z1 5 (vq c p' r k) = z 5 (vq c p' r k)
section
variable {F N g H T n : Nat} {s s' : cS} {ct : Nat → List Nat} {hd : List Nat} {w : Wd} {pe : Nat → Int} {v : Nat → Int} {y z : Nat → Nat → Option (List Nat)} {p : List (List Nat)} {x : Nat → Nat → Nat} {pn : Int} {a : Nat}
/-- a row of the shelf's numbers is written -/
theorem CNz.A {o i : Nat} {x0 : Int32} (h : CNz g H T s ct n v y p x pn z) (hn : n < H) (ho : o = 16 ∨ o = 17 ∨ o = 21) (hH : qH (csA s (nd g n + o) i x0) ct (nd g n) T v (y 9 0) z) (hD : qD (csA s (nd g n + o) i x0) ct (nd g n) T v (y 9 0) (y 6)) : CNz g H T (csA s (nd g n + o) i x0) ct n v y p x pn z := by
  obtain ⟨c1, c2, c3, c4, c5, c6, c7, c8, c9, c10, c11, c12, c13, c14⟩ := h
  have oo : ∀ d, d ≠ o → cA (csA s (nd g n + o) i x0) (nd g n + d) = cA s (nd g n + d) := fun d hd' => cA_ne _ _ _ (by omega)
  refine ⟨c1, by rw [oo 12 (by omega)]; exact c2, c3, fun j hj => ?_, by rw [oo 5 (by omega)]; exact c5, ?_, hH, hD, c9, c10, c11, c12, c13, by rw [oo 4 (by omega)]; exact c14⟩
  · rw [oo 3 (by omega)]
    obtain ⟨x1, x2, x3, x4⟩ := c4 j hj
    refine ⟨x1, x2, x3, fun r hr => ?_⟩
    obtain ⟨y1, y2, y3, y4, y5, y6⟩ := x4 r hr
    exact ⟨y1, y2, y3, y4, y5, by rw [cA_ne _ _ _ (by unfold nd at *; omega)]; exact y6⟩
  · unfold qB bkC rtC
    have a7 : cA (csA s (nd g n + o) i x0) (nd g n + 6 + 1) = cA s (nd g n + 6 + 1) := oo 7 (by omega)
    have a8 : cA (csA s (nd g n + o) i x0) (nd g n + 6 + 2) = cA s (nd g n + 6 + 2) := oo 8 (by omega)
    have a9 : cA (csA s (nd g n + o) i x0) (nd g n + 6 + 3) = cA s (nd g n + 6 + 3) := oo 9 (by omega)
    rw [a7, a8, a9, oo 11 (by omega)]
    exact c6
theorem CRz.A {o i : Nat} {x0 : Int32} (h : CRz F g H T s ct hd w pe n v y p x pn z) (hn : n < H) (ho : o = 16 ∨ o = 17 ∨ o = 21) (hH : qH (csA s (nd g n + o) i x0) ct (nd g n) T v (y 9 0) z) (hD : qD (csA s (nd g n + o) i x0) ct (nd g n) T v (y 9 0) (y 6)) : CRz F g H T (csA s (nd g n + o) i x0) ct hd w pe n v y p x pn z := by
  have k21 : cK s (nd g n + o) = 21 := by
    rcases ho with rfl | rfl | rfl
    · exact (h.2.1.2.1 6 3 (nd g n + 14) (o53 (isO5 hn)) (by omega) _ rfl).2.1
    · exact (h.2.1.2.1 6 5 (nd g n + 14) (o53 (isO5 hn)) (by omega) _ rfl).2.1
    · exact (h.2.1.2.1 6 7 (nd g n + 14) (o53 (isO5 hn)) (by omega) _ rfl).2.1
  exact h.set hn ((cfr_A _ _ _).mono (fun b z => by unfold ndP; omega)) (h.2.1.Aw (k := 21) _ _ _ (tK_some k21) (by decide)) (h.nz.A hn ho hH hD)
theorem ver_0 {q : Nat} (h : CRz F g H T s ct hd w pe n v y p x pn z) (hn : n < H) (hq : q < 32) : CRz F g H T (csA s (nd g n + 16) q (nI 0)) ct hd w pe n v y p x pn z := by
  obtain ⟨c7, c7b, c7c, c7d⟩ := h.nz.2.2.2.2.2.2.1
  refine h.A hn (Or.inl rfl) ⟨c7, c7b, fun j hj => ?_, ?_⟩ ?_
  · rw [cA_at]
    by_cases d : j = q
    · rw [if_pos d]
      exact Or.inl rfl
    · rw [if_neg d]
      exact c7c j hj
  · rw [cA_ne _ _ _ (show nd g n + 17 ≠ nd g n + 16 by omega)]
    exact c7d
  · unfold qD
    rw [cA_ne _ _ _ (show nd g n + 21 ≠ nd g n + 16 by omega)]
    exact h.nz.2.2.2.2.2.2.2.1
/-- the votes of a round -/
theorem clear_l121 {x2 x3 x4 x5 : Int32} {P r lf : Nat} (hN : 100 ≤ N) (h : CRz F g H T s ct hd w pe n v y p x pn z) (hn : n < H) (hl : hd.length ≤ 30) (hT : T ≤ 13) (hP : P ≤ 1) (hr : r < 16) (hf : lf ≤ 1) : wp (KOL_X8_clear_121 N g H T N (nd g n + 14) x2 x3 x4 x5 (nI lf) (nI (2 * (16 * P + r) * T)) (nI (2 * (16 * P + r) * T)) s) (KL_X8_clear_121 N g H T N (nd g n + 14) x2 x3 x4 x5 (nI lf) (nI (2 * (16 * P + r) * T)) (nI (2 * (16 * P + r) * T)) s) (fun Z => ∃ lf' s' z1, Z = (0, nd g n + 14, x2, x3, x4, x5, nI lf', s') ∧ lf' ≤ 1 ∧ CRz F g H T s' ct hd w pe n v y p x pn z1 ∧ (∀ c k, c ≤ 1 → k < T → z1 5 (vq c P r k) = kpO (fun m => x2 = nI (bg m 1)) (z 5 (vq c P r k))) ∧ (∀ f i, ¬ (f = 5 ∧ ∃ c k, c ≤ 1 ∧ k < T ∧ i = vq c P r k) → z1 f i = z f i) ∧ (lf' = 0 → lf = 0 ∧ ∀ c k, c ≤ 1 → k < T → z1 5 (vq c P r k) = none) ∧ cA s' (nd g n + 16) = cA s (nd g n + 16) ∧ cA s' (nd g n + 17) = cA s (nd g n + 17)) := by
  have tT : 0 < T := by have := h.1.bb; omega
  have bd : 2 * (16 * P + r) * T + 2 * T ≤ 64 * T := by
    rw [← Nat.add_mul]
    exact Nat.mul_le_mul_right _ (by omega)
  have q19 : nd g n + 14 + 5 = nd g n + 19 := rfl
  have bdd : 64 * T ≤ 832 := by omega
  have main := wp_loop (K := 2 * T) (P := fun Z : Nat × Nat × Int32 × Int32 × Int32 × Int32 × Int32 × cS => ∃ lf' s' z1, Z = (0, nd g n + 14, x2, x3, x4, x5, nI lf', s') ∧ lf' ≤ 1 ∧ CRz F g H T s' ct hd w pe n v y p x pn z1 ∧ (∀ c k, c ≤ 1 → k < T → z1 5 (vq c P r k) = kpO (fun m => x2 = nI (bg m 1)) (z 5 (vq c P r k))) ∧ (∀ f i, ¬ (f = 5 ∧ ∃ c k, c ≤ 1 ∧ k < T ∧ i = vq c P r k) → z1 f i = z f i) ∧ (lf' = 0 → lf = 0 ∧ ∀ c k, c ≤ 1 → k < T → z1 5 (vq c P r k) = none) ∧ cA s' (nd g n + 16) = cA s (nd g n + 16) ∧ cA s' (nd g n + 17) = cA s (nd g n + 17)) (fun q (X : Nat × cS) => X.1 ≤ 1 ∧ ∃ z1, CRz F g H T X.2 ct hd w pe n v y p x pn z1 ∧ (∀ c k, c ≤ 1 → k < T → z1 5 (vq c P r k) = if c * T + k < q then kpO (fun m => x2 = nI (bg m 1)) (z 5 (vq c P r k)) else z 5 (vq c P r k)) ∧ (∀ f i, ¬ (f = 5 ∧ ∃ c k, c ≤ 1 ∧ k < T ∧ i = vq c P r k) → z1 f i = z f i) ∧ (X.1 = 0 → lf = 0 ∧ ∀ c k, c ≤ 1 → k < T → c * T + k < q → z1 5 (vq c P r k) = none) ∧ cA X.2 (nd g n + 16) = cA s (nd g n + 16) ∧ cA X.2 (nd g n + 17) = cA s (nd g n + 17)) (fun m q X => KOL_X8_clear_121 N g H T m (nd g n + 14) x2 x3 x4 x5 (nI X.1) (nI (2 * (16 * P + r) * T)) (nI (2 * (16 * P + r) * T + q)) X.2) (fun m q X => KL_X8_clear_121 N g H T m (nd g n + 14) x2 x3 x4 x5 (nI X.1) (nI (2 * (16 * P + r) * T)) (nI (2 * (16 * P + r) * T + q)) X.2) (fun m q X hq hI ih => ?_) 0 N (lf, s) (by omega) (by omega) ⟨hf, z, h, fun c k _ _ => by rw [if_neg (by omega)], fun _ _ _ => rfl, fun e => ⟨e, fun c k _ _ hh => absurd hh (by omega)⟩, rfl, rfl⟩
  · exact main
  obtain ⟨X1, X2⟩ := X
  obtain ⟨g0, z1, g1, g2, g3, g4, g5, g6⟩ := hI
  have g0 : X1 ≤ 1 := g0
  have g1 : CRz F g H T X2 ct hd w pe n v y p x pn z1 := g1
  have g4 : X1 = 0 → lf = 0 ∧ ∀ c k, c ≤ 1 → k < T → c * T + k < q → z1 5 (vq c P r k) = none := g4
  have g5 : cA X2 (nd g n + 16) = cA s (nd g n + 16) := g5
  have g6 : cA X2 (nd g n + 17) = cA s (nd g n + 17) := g6
  show wp (KOL_X8_clear_121 N g H T (m + 1) (nd g n + 14) x2 x3 x4 x5 (nI X1) (nI (2 * (16 * P + r) * T)) (nI (2 * (16 * P + r) * T + q)) X2) (KL_X8_clear_121 N g H T (m + 1) (nd g n + 14) x2 x3 x4 x5 (nI X1) (nI (2 * (16 * P + r) * T)) (nI (2 * (16 * P + r) * T + q)) X2) _
  unfold KOL_X8_clear_121 KL_X8_clear_121 KOB_X8_clear_121 KB_X8_clear_121
  have i1 : cI X2 1 (nd g n + 14) = nI T := g1.nz.2.2.2.2.2.2.2.2.2.2.2.2.1
  rw [i1, q19, n_mul, n_add]
  by_cases c : q = 2 * T
  · refine wp_pos (by rw [n_le' (by omega) (by omega)]; omega) (wp_fin trivial ⟨X1, X2, z1, rfl, g0, g1, fun c' k c1 k1 => ?_, g3, fun e => ⟨(g4 e).1, fun c' k c1 k1 => (g4 e).2 c' k c1 k1 ?_⟩, g5, g6⟩)
    · have := g2 c' k c1 k1
      rw [if_pos (by
        have : c' * T + k < 2 * T := by
          have : c' * T ≤ 1 * T := Nat.mul_le_mul_right _ c1
          omega
        omega)] at this
      exact this
    · have : c' * T ≤ 1 * T := Nat.mul_le_mul_right _ c1
      omega
  have hq2 : q < 2 * T := by omega
  -- which vote it is
  obtain ⟨c', k', hc', hk', hqk⟩ : ∃ c' k', c' ≤ 1 ∧ k' < T ∧ q = c' * T + k' := by
    by_cases d : q < T
    · exact ⟨0, q, by decide, d, by omega⟩
    · exact ⟨1, q - T, by decide, by omega, by omega⟩
  have idx : 2 * (16 * P + r) * T + q = vqC T c' P r k' := by
    unfold vqC
    rw [hqk, Nat.add_mul]
    omega
  have lv : vqC T c' P r k' < 64 * T := vqC_lt hc' hP hr hk'
  have uniq : ∀ c2 k2, c2 ≤ 1 → k2 < T → c2 * T + k2 = q → c2 = c' ∧ k2 = k' := fun c2 k2 a1 a2 e => by
    rcases (show c2 = 0 ∨ c2 = 1 by omega) with rfl | rfl <;> rcases (show c' = 0 ∨ c' = 1 by omega) with rfl | rfl <;> omega
  have hz : z1 5 (vq c' P r k') = z 5 (vq c' P r k') := by
    rw [g2 c' k' hc' hk', if_neg (by omega)]
  have cell := g1.nz.2.2.2.2.2.2.1.2.1 c' P r k' hc' hP hr hk'
  rw [hz] at cell
  -- the next turn
  have nx : ∀ (X1' : Nat) (X2' : cS) (z2 : Nat → Nat → Option (List Nat)), X1' ≤ 1 → CRz F g H T X2' ct hd w pe n v y p x pn z2 → z2 5 (vq c' P r k') = kpO (fun m => x2 = nI (bg m 1)) (z 5 (vq c' P r k')) → (∀ f i, f ≠ 5 ∨ i ≠ vq c' P r k' → z2 f i = z1 f i) → (X1' = 0 → X1 = 0 ∧ z2 5 (vq c' P r k') = none) → cA X2' (nd g n + 16) = cA s (nd g n + 16) → cA X2' (nd g n + 17) = cA s (nd g n + 17) → wp (KO_X8_clear_201 N g H T (KOL_X8_clear_121 N g H T m) (nd g n + 14) x2 x3 x4 x5 (nI (2 * (16 * P + r) * T)) (nI (2 * (16 * P + r) * T + q)) (nI X1') X2') (KF_X8_clear_201 N g H T (KL_X8_clear_121 N g H T m) (nd g n + 14) x2 x3 x4 x5 (nI (2 * (16 * P + r) * T)) (nI (2 * (16 * P + r) * T + q)) (nI X1') X2') (fun Z : Nat × Nat × Int32 × Int32 × Int32 × Int32 × Int32 × cS => ∃ lf' s' z1, Z = (0, nd g n + 14, x2, x3, x4, x5, nI lf', s') ∧ lf' ≤ 1 ∧ CRz F g H T s' ct hd w pe n v y p x pn z1 ∧ (∀ c k, c ≤ 1 → k < T → z1 5 (vq c P r k) = kpO (fun m => x2 = nI (bg m 1)) (z 5 (vq c P r k))) ∧ (∀ f i, ¬ (f = 5 ∧ ∃ c k, c ≤ 1 ∧ k < T ∧ i = vq c P r k) → z1 f i = z f i) ∧ (lf' = 0 → lf = 0 ∧ ∀ c k, c ≤ 1 → k < T → z1 5 (vq c P r k) = none) ∧ cA s' (nd g n + 16) = cA s (nd g n + 16) ∧ cA s' (nd g n + 17) = cA s (nd g n + 17)) := fun X1' X2' z2 b0 b1 b2 b3 b4 b5 b6 => by
    unfold KO_X8_clear_201 KF_X8_clear_201
    rw [n_add]
    have oth : ∀ c2 k2, c2 ≤ 1 → k2 < T → c2 * T + k2 ≠ q → vq c2 P r k2 ≠ vq c' P r k' := fun c2 k2 a1 a2 a3 e => by
      obtain ⟨j1, -, -, j4⟩ := vq_inj e hP hr (by omega) hP hr (by omega)
      exact a3 (by rw [hqk, j1, j4])
    refine ih (X1', X2') ⟨b0, z2, b1, fun c2 k2 a1 a2 => ?_, fun f i hfi => ?_, fun e => ⟨(g4 (b4 e).1).1, fun c2 k2 a1 a2 a3 => ?_⟩, b5, b6⟩ (by omega)
    · by_cases e : c2 * T + k2 = q
      · obtain ⟨rfl, rfl⟩ := uniq c2 k2 a1 a2 e
        rw [if_pos (by omega)]
        exact b2
      · rw [b3 5 _ (Or.inr (oth c2 k2 a1 a2 e)), g2 c2 k2 a1 a2]
        by_cases d : c2 * T + k2 < q
        · rw [if_pos d, if_pos (by omega)]
        · rw [if_neg d, if_neg (by omega)]
    · rw [b3 f i (by
        by_cases d : f = 5
        · exact Or.inr (fun e => hfi ⟨d, c', k', hc', hk', e⟩)
        · exact Or.inl d)]
      exact g3 f i hfi
    · by_cases e2 : c2 * T + k2 = q
      · obtain ⟨rfl, rfl⟩ := uniq c2 k2 a1 a2 e2
        exact (b4 e).2
      · rw [b3 5 _ (Or.inr (oth c2 k2 a1 a2 e2))]
        exact (g4 (b4 e).1).2 c2 k2 a1 a2 (by omega)
  -- whether something is left
  have lft : ∀ (X2' : cS) (z2 : Nat → Nat → Option (List Nat)), CRz F g H T X2' ct hd w pe n v y p x pn z2 → z2 5 (vq c' P r k') = kpO (fun m => x2 = nI (bg m 1)) (z 5 (vq c' P r k')) → (∀ f i, f ≠ 5 ∨ i ≠ vq c' P r k' → z2 f i = z1 f i) → cA X2' (nd g n + 16) = cA s (nd g n + 16) → cA X2' (nd g n + 17) = cA s (nd g n + 17) → wp (KO_X8_clear_181 N g H T (KOL_X8_clear_121 N g H T m) (nd g n + 14) x2 x3 x4 x5 (nI X1) (nI (2 * (16 * P + r) * T)) (nI (2 * (16 * P + r) * T + q)) X2') (KF_X8_clear_181 N g H T (KL_X8_clear_121 N g H T m) (nd g n + 14) x2 x3 x4 x5 (nI X1) (nI (2 * (16 * P + r) * T)) (nI (2 * (16 * P + r) * T + q)) X2') (fun Z : Nat × Nat × Int32 × Int32 × Int32 × Int32 × Int32 × cS => ∃ lf' s' z1, Z = (0, nd g n + 14, x2, x3, x4, x5, nI lf', s') ∧ lf' ≤ 1 ∧ CRz F g H T s' ct hd w pe n v y p x pn z1 ∧ (∀ c k, c ≤ 1 → k < T → z1 5 (vq c P r k) = kpO (fun m => x2 = nI (bg m 1)) (z 5 (vq c P r k))) ∧ (∀ f i, ¬ (f = 5 ∧ ∃ c k, c ≤ 1 ∧ k < T ∧ i = vq c P r k) → z1 f i = z f i) ∧ (lf' = 0 → lf = 0 ∧ ∀ c k, c ≤ 1 → k < T → z1 5 (vq c P r k) = none) ∧ cA s' (nd g n + 16) = cA s (nd g n + 16) ∧ cA s' (nd g n + 17) = cA s (nd g n + 17)) := fun X2' z2 b1 b2 b3 b5 b6 => by
    have cell2 := b1.nz.2.2.2.2.2.2.1.2.1 c' P r k' hc' hP hr hk'
    unfold KO_X8_clear_181 KF_X8_clear_181
    rw [q19, n_clamp (by omega), idx]
    rw [idx] at nx
    by_cases d : X1 = 0
    · refine wp_pos (by rw [d]; rfl) (wp_and ((n_in (by omega)).2 (by omega)) ?_)
      cases e : cP X2' (nd g n + 19) (vqC T c' P r k') with
      | none =>
        rw [e] at cell2
        exact wp_pos rfl (nx 0 X2' z2 (by decide) b1 b2 b3 (fun _ => ⟨d, cell2.symm⟩) b5 b6)
      | some a2 =>
        unfold KO_X8_clear_196 KF_X8_clear_196
        exact wp_neg someN (nx 1 X2' z2 (by decide) b1 b2 b3 (fun z => absurd z (by decide)) b5 b6)
    · refine wp_neg (by rw [show (0 : Int32) = nI 0 from rfl, n_eq' (by omega) (by omega)]; exact d) ?_
      unfold KO_X8_clear_196 KF_X8_clear_196
      exact nx 1 X2' z2 (by decide) b1 b2 b3 (fun z => absurd z (by decide)) b5 b6
  refine wp_neg (by rw [n_le' (by omega) (by omega)]; omega) ?_
  rw [n_clamp (by omega)]
  rw [idx] at lft ⊢
  refine wp_and ((n_in (by omega)).2 (by omega)) ?_
  cases e : cP X2 (nd g n + 19) (vqC T c' P r k') with
  | none =>
    rw [e] at cell
    exact wp_pos rfl (lft X2 z1 g1 (by rw [hz, ← cell]; rfl) (fun _ _ _ => rfl) g5 g6)
  | some a2 =>
    rw [e] at cell
    have cell' : z 5 (vq c' P r k') = some (ct a2) := cell.symm
    have ua : 1 ≤ us g H T X2 hd a2 := by
      have := cnA_hr (e := 1) (g := g) (H := H) (T := T) hn (by decide) lv e
      unfold us
      omega
    obtain ⟨sg1, sg2⟩ := signer_ok (N := N) (g := g) (H := H) (T := T) (g1.ms ua)
    refine wp_neg someN (wp_and ((n_in (by omega)).2 (by omega)) ?_)
    rw [zsome, sg2]
    refine wp_and sg1 (wp_ite (fun d => ?_) (fun d => wp_and ((n_in (by omega)).2 (by omega)) ?_))
    · refine lft X2 z1 g1 ?_ (fun _ _ _ => rfl) g5 g6
      rw [hz, cell', kpO_y d.symm]
    · obtain ⟨dp, dz⟩ := let_V (N := N) g1 hn hl hT hc' hP hr hk' e
      refine wp_and dp ?_
      unfold KO_X8_clear_173 KF_X8_clear_173
      rw [q19, n_clamp (by omega)]
      refine wp_and ((n_in (by omega)).2 (by omega)) (lft _ _ dz ?_ (fun f i hfi => zc_o hfi) ?_ ?_)
      · rw [zc_s, cell', kpO_d (fun z => d z.symm)]
      · rw [(g1.dp (N := N) ua (by omega)).2]
        show cA (cDrp X2 (g + 11) a2 _) (nd g n + 16) = _
        rw [(cDrp_o (s := X2) (g := g) (a := a2)).2.2.2.2.2.1]
        exact g5
      · rw [(g1.dp (N := N) ua (by omega)).2]
        show cA (cDrp X2 (g + 11) a2 _) (nd g n + 17) = _
        rw [(cDrp_o (s := X2) (g := g) (a := a2)).2.2.2.2.2.1]
        exact g6
end
end

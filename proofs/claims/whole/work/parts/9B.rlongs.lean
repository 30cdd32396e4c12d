section
/-! LONGS, BYTE BY BYTE, compared as numbers without a sign -/
theorem byt_nat (w : Int64) {k : Nat} (hk : k < 8) : byt w k = nI (w.toBitVec.toNat / 2 ^ (56 - 8 * k) % 2 ^ 8) := by
  apply i_ext
  intro i hi
  rw [byt_bit _ hk hi]
  show _ = (BitVec.ofNat 32 (w.toBitVec.toNat / 2 ^ (56 - 8 * k) % 2 ^ 8)).getLsbD i
  rw [BitVec.getLsbD_ofNat, Nat.testBit_mod_two_pow, ← Nat.shiftRight_eq_div_pow, Nat.testBit_shiftRight]
  simp [hi, BitVec.getLsbD]
theorem nat_lex {A B : Nat} (hA : A < 2 ^ 64) (hB : B < 2 ^ 64) {i : Nat} (hi : i < 8) (e : ∀ j, j < i → A / 2 ^ (56 - 8 * j) % 2 ^ 8 = B / 2 ^ (56 - 8 * j) % 2 ^ 8) (l : A / 2 ^ (56 - 8 * i) % 2 ^ 8 < B / 2 ^ (56 - 8 * i) % 2 ^ 8) : A < B := by
  have key : ∀ s, A / 2 ^ s < B / 2 ^ s → A < B := fun s h => by
    by_cases c : A < B
    · exact c
    · have := Nat.div_le_div_right (c := 2 ^ s) (show B ≤ A by omega)
      omega
  have up : ∀ j, j ≤ i → j ≤ 7 → A / 2 ^ (64 - 8 * j) = B / 2 ^ (64 - 8 * j) := by
    intro j
    induction j with
    | zero =>
      intro _ _
      rw [show 64 - 8 * 0 = 64 by omega, Nat.div_eq_of_lt hA, Nat.div_eq_of_lt hB]
    | succ j ih =>
      intro h1 h2
      have a := ih (by omega) (by omega)
      have b := e j (by omega)
      rw [show 64 - 8 * (j + 1) = 56 - 8 * j by omega]
      have pa : A / 2 ^ (64 - 8 * j) = A / 2 ^ (56 - 8 * j) / 2 ^ 8 := by rw [Nat.div_div_eq_div_mul, ← Nat.pow_add]; congr 2; omega
      have pb : B / 2 ^ (64 - 8 * j) = B / 2 ^ (56 - 8 * j) / 2 ^ 8 := by rw [Nat.div_div_eq_div_mul, ← Nat.pow_add]; congr 2; omega
      rw [pa, pb] at a
      omega
  have u := up i (Nat.le_refl _) (by omega)
  have pa : A / 2 ^ (64 - 8 * i) = A / 2 ^ (56 - 8 * i) / 2 ^ 8 := by rw [Nat.div_div_eq_div_mul, ← Nat.pow_add]; congr 2; omega
  have pb : B / 2 ^ (64 - 8 * i) = B / 2 ^ (56 - 8 * i) / 2 ^ 8 := by rw [Nat.div_div_eq_div_mul, ← Nat.pow_add]; congr 2; omega
  rw [pa, pb] at u
  refine key (56 - 8 * i) ?_
  omega
def unN (a : Int64) : Nat := a.toBitVec.toNat
theorem unN_lt (a : Int64) : unN a < 2 ^ 64 := a.toBitVec.isLt
theorem unN_lex {a b : Int64} {x y : Nat → Nat} (ha : ∀ k, k < 8 → byt a k = nI (x k)) (hb : ∀ k, k < 8 → byt b k = nI (y k)) (hx : ∀ k, k < 8 → x k < 256) (hy : ∀ k, k < 8 → y k < 256) {i : Nat} (hi : i < 8) (e : ∀ j, j < i → x j = y j) (l : x i < y i) : unN a < unN b := by
  have cv : ∀ (c : Int64) (z : Nat → Nat), (∀ k, k < 8 → byt c k = nI (z k)) → (∀ k, k < 8 → z k < 256) → ∀ k, k < 8 → unN c / 2 ^ (56 - 8 * k) % 2 ^ 8 = z k := fun c z h1 h2 k hk => by
    have := h1 k hk
    rw [byt_nat c hk] at this
    have h3 := h2 k hk
    exact (n_eq' (show c.toBitVec.toNat / 2 ^ (56 - 8 * k) % 2 ^ 8 < 2147483648 from Nat.lt_of_lt_of_le (Nat.mod_lt _ (by decide)) (by decide)) (by omega)).1 this
  refine nat_lex (unN_lt a) (unN_lt b) hi (fun j hj => ?_) ?_
  · rw [cv a x ha hx j (by omega), cv b y hb hy j (by omega)]
    exact e j hj
  · rw [cv a x ha hx i hi, cv b y hb hy i hi]
    exact l
theorem xor63 {A : Nat} (hA : A < 2 ^ 64) : A ^^^ 2 ^ 63 = (2 ^ 63 + A) % 2 ^ 64 := by
  apply Nat.eq_of_testBit_eq
  intro i
  rw [Nat.testBit_xor, Nat.testBit_mod_two_pow, Nat.testBit_two_pow]
  by_cases c : i < 63
  · rw [Nat.testBit_two_pow_add_gt c]
    simp [show i < 64 by omega, show ¬ 63 = i by omega]
  · by_cases c2 : i = 63
    · rw [c2, Nat.testBit_two_pow_add_eq]
      simp
    · have : A.testBit i = false := Nat.testBit_lt_two_pow (Nat.lt_of_lt_of_le hA (Nat.pow_le_pow_right (by decide) (by omega)))
      rw [this]
      simp [show ¬ i < 64 by omega, show ¬ 63 = i by omega]
theorem xor_toInt (a : Int64) : (a ^^^ (-9223372036854775808 : Int64)).toInt = (unN a : Int) - 9223372036854775808 := by
  have h := unN_lt a
  show ((a ^^^ (-9223372036854775808 : Int64)).toBitVec).toInt = _
  rw [Int64.toBitVec_xor, BitVec.toInt_eq_toNat_cond, BitVec.toNat_xor, show (-9223372036854775808 : Int64).toBitVec.toNat = 2 ^ 63 from rfl, show a.toBitVec.toNat = unN a from rfl, xor63 h]
  show (if 2 * ((2 ^ 63 + unN a) % 2 ^ 64) < 2 ^ 64 then (((2 ^ 63 + unN a) % 2 ^ 64 : Nat) : Int) else (((2 ^ 63 + unN a) % 2 ^ 64 : Nat) : Int) - ((2 ^ 64 : Nat) : Int)) = _
  split <;> omega
theorem cmp_ge {a b : Int64} : 0 ≤ lg_cmp a b ↔ ¬ a < b := by
  unfold lg_cmp
  by_cases c : a > b
  · rw [if_pos c]
    have c : b < a := c
    rw [Int64.lt_iff_toInt_lt] at c ⊢
    exact ⟨fun _ => by omega, fun _ => by decide⟩
  · rw [if_neg c]
    by_cases c2 : a = b
    · rw [if_pos c2, c2]
      rw [Int64.lt_iff_toInt_lt]
      exact ⟨fun _ => by omega, fun _ => by decide⟩
    · rw [if_neg c2]
      have c : ¬ b < a := c
      rw [Int64.lt_iff_toInt_lt] at c ⊢
      refine ⟨fun z => absurd z (by decide), fun z => ?_⟩
      exfalso
      apply c2
      apply Int64.toInt_inj.mp
      omega
/-- the lesser of two ids -/
def lesD (d d' : List Nat) : Prop := ∃ i, i < 32 ∧ (∀ j, j < i → bg d j = bg d' j) ∧ bg d i < bg d' i
theorem lesD_tot {d d' : List Nat} (h : d.length = 32) (h' : d'.length = 32) (ne : d ≠ d') (n : ¬ lesD d d') : lesD d' d := by
  have key : ∀ k, k ≤ 32 → (∃ i, i < k ∧ (∀ j, j < i → bg d j = bg d' j) ∧ bg d i ≠ bg d' i) ∨ (∀ j, j < k → bg d j = bg d' j) := by
    intro k
    induction k with
    | zero => intro _; exact Or.inr (fun j hj => absurd hj (by omega))
    | succ k ih =>
      intro hk
      rcases ih (by omega) with ⟨i, a, b, c⟩ | a
      · exact Or.inl ⟨i, by omega, b, c⟩
      · by_cases c : bg d k = bg d' k
        · refine Or.inr (fun j hj => ?_)
          by_cases e : j = k
          · rw [e]; exact c
          · exact a j (by omega)
        · exact Or.inl ⟨k, by omega, a, c⟩
  rcases key 32 (Nat.le_refl _) with ⟨i, a, b, c⟩ | a
  · refine ⟨i, a, fun j hj => (b j hj).symm, ?_⟩
    by_cases l : bg d i < bg d' i
    · exact absurd ⟨i, a, b, l⟩ n
    · omega
  · exact absurd (by_ext (by rw [h, h']) (fun i hi => a i (by omega))) ne
theorem lesD_irr {d d' : List Nat} (h : lesD d d') (k : lesD d' d) : False := by
  obtain ⟨i, i1, i2, i3⟩ := h
  obtain ⟨j, j1, j2, j3⟩ := k
  rcases Nat.lt_trichotomy i j with c | c | c
  · have := j2 i c; omega
  · subst c; omega
  · have := i2 j c; omega
section
variable {N : Nat} {S : rS} {d d' : List Nat}
theorem inL.b {k : Nat} (h : inL S k d) {q r : Nat} (hq : q < 4) (hr : r < 8) : byt (S.2.2 k q) r = nI (bg d (8 * q + r)) := by
  have := h (8 * q + r) (by omega)
  unfold lby at this
  rw [show (8 * q + r) / 8 = q by omega, show (8 * q + r) % 8 = r by omega] at this
  exact this
theorem isLessId_ok (h : inL S 42 d) (h' : inL S 88 d') (hd : d.length = 32) (hd' : d'.length = 32) (hB : isB d) (hB' : isB d') (hN : 10 ≤ N) : wp (o_isLessId N S) (f_isLessId N S) (fun v => (lesD d d' ∧ v = nI 1) ∨ (¬ lesD d d' ∧ v = nI 0)) := by
  show wp (O_isLessId_0 N S) (F_isLessId_0 N S) _
  unfold O_isLessId_0 F_isLessId_0
  have weq : ∀ q, q < 4 → (S.2.2 42 q = S.2.2 88 q ↔ ∀ r, r < 8 → bg d (8 * q + r) = bg d' (8 * q + r)) := fun q hq => by
    constructor
    · intro e r hr
      have a := h.b hq hr
      have b := h'.b hq hr
      rw [e, b] at a
      exact ((n_eq' (by have := hB' (8 * q + r); omega) (by have := hB (8 * q + r); omega)).1 a).symm
    · intro e
      refine byt_ext (fun r hr => ?_)
      rw [h.b hq hr, h'.b hq hr, e r hr]
  refine wp_seq (Q := fun z : Nat × Int32 × Unit => ∃ k, k ≤ 3 ∧ z = (0, nI k, ()) ∧ (∀ j, j < 8 * k → bg d j = bg d' j) ∧ (k < 3 → S.2.2 42 k ≠ S.2.2 88 k)) ?_ ?_
  · refine wp_loop (σ := Unit) (K := 3) (fun j _ => ∀ i, i < 8 * j → bg d i = bg d' i) (fun q j _ => OL_isLessId_2 N q (nI j) S) (fun q j _ => L_isLessId_2 N q (nI j) S) (fun q j _ hj hI ih => ?_) 0 N () (by omega) (by omega) (fun i hi => absurd hi (by omega))
    unfold OL_isLessId_2 L_isLessId_2 OB_isLessId_2 B_isLessId_2
    by_cases e : j = 3
    · refine wp_pos (by rw [n_le' (by omega) (by omega)]; omega) ?_
      exact wp_fin trivial ⟨j, (by omega), rfl, hI, fun z => absurd z (by omega)⟩
    rw [n_clamp (by omega), n_add]
    refine wp_neg (by rw [n_le' (by omega) (by omega)]; omega) (wp_and ((n_in (by omega)).2 (by omega)) (wp_and ((n_in (by omega)).2 (by omega)) (wp_ite (fun c => ?_) (fun c => ?_)))) <;> rw [lgc] at c
    · refine ih () (fun i hi => ?_) (by omega)
      by_cases c2 : i < 8 * j
      · exact hI i c2
      · have := (weq j (by omega)).1 c (i - 8 * j) (by omega)
        rw [show 8 * j + (i - 8 * j) = i by omega] at this
        exact this
    · exact wp_fin trivial ⟨j, (by omega), rfl, hI, fun _ => c⟩
  rintro z ⟨k, k1, k2, k3, k4⟩
  rw [k2]
  show wp (O_isLessId_29 N (nI k) S) (F_isLessId_29 N (nI k) S) _
  unfold O_isLessId_29 F_isLessId_29
  rw [n_clamp (by omega)]
  have lt : lesD d d' ↔ unN (S.2.2 42 k) < unN (S.2.2 88 k) := by
    have go : ∀ {e e' : List Nat} {f f' : Nat}, inL S f e → inL S f' e' → isB e → isB e' → e.length = 32 → e'.length = 32 → (∀ j, j < 8 * k → bg e j = bg e' j) → (k < 3 → S.2.2 f k ≠ S.2.2 f' k) → lesD e e' → unN (S.2.2 f k) < unN (S.2.2 f' k) := by
      intro e e' f f' he he' b b' _ _ eq ne ls
      obtain ⟨i, i1, i2, i3⟩ := ls
      have ge : 8 * k ≤ i := by
        by_cases c : 8 * k ≤ i
        · exact c
        · have := eq i (by omega)
          omega
      have lt8 : i < 8 * k + 8 := by
        by_cases c : i < 8 * k + 8
        · exact c
        · by_cases k3' : k < 3
          · exfalso
            refine ne k3' (byt_ext (fun r hr => ?_))
            rw [he.b (by omega) hr, he'.b (by omega) hr, i2 (8 * k + r) (by omega)]
          · omega
      exact unN_lex (x := fun r => bg e (8 * k + r)) (y := fun r => bg e' (8 * k + r)) (fun r hr => he.b (by omega) hr) (fun r hr => he'.b (by omega) hr) (fun r _ => b _) (fun r _ => b' _) (i := i - 8 * k) (by omega) (fun j hj => i2 (8 * k + j) (by omega)) (by rw [show 8 * k + (i - 8 * k) = i by omega]; exact i3)
    constructor
    · exact go h h' hB hB' hd hd' k3 k4
    · intro l
      by_cases c : lesD d d'
      · exact c
      · exfalso
        by_cases e : d = d'
        · have : S.2.2 42 k = S.2.2 88 k := (weq k (by omega)).2 (fun r hr => by rw [e])
          rw [this] at l
          omega
        · have := go h' h hB' hB hd' hd (fun j hj => (k3 j hj).symm) (fun a b => k4 a b.symm) (lesD_tot hd hd' e c)
          omega
  have cmp : 0 ≤ lg_cmp (S.2.2 42 k ^^^ (-9223372036854775808 : Int64)) (S.2.2 88 k ^^^ (-9223372036854775808 : Int64)) ↔ ¬ lesD d d' := by
    rw [cmp_ge, lt, Int64.lt_iff_toInt_lt, xor_toInt, xor_toInt]
    omega
  refine wp_and ((n_in (by omega)).2 (by omega)) (wp_and ((n_in (by omega)).2 (by omega)) (wp_ite (fun c => ?_) (fun c => ?_))) <;> rw [cmp] at c
  · unfold O_isLessId_58 F_isLessId_58
    exact wp_fin rfl (Or.inr ⟨c, rfl⟩)
  · unfold O_isLessId_58 F_isLessId_58
    refine wp_fin rfl (Or.inl ⟨?_, rfl⟩)
    by_cases z : lesD d d'
    · exact z
    · exact absurd z c
end
end

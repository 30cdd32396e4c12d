section
/-! THE REFERENCE IS ASKED: numbers, blocks, sectors, accounts -/
def tmS (w : Wd) (n : Nat) : Nat := (if iI (wN w n 9) = -1 then 0 else 1) + (if iI (wN w n 10) = -1 then 0 else 2) + (if iI (wN w n 11) = -1 then 0 else 4)
noncomputable def prC (w : Wd) (n T : Nat) : Nat := cnt (fun s => wY w n 2 s ≠ none) T
noncomputable def stV (w : Wd) (n T : Nat) (y : Int32) : Int32 := if y = nI 0 then iI (wN w n 1) else if y = nI 1 then iI (wN w n 2) else if y = nI 2 then iI (wN w n 3) else if y = nI 3 then iI (wN w n 4) else if y = nI 4 then iI (wN w n 5) else if y = nI 5 then (if iI (wN w n 0) = 0 then nI 0 else nI 1) else if y = nI 6 then nI (wP w n).length else if y = nI 7 then nI (tmS w n) else if y = nI 8 then iI (wN w n 17) else if y = nI 9 then iI (wN w n 13) else if y = nI 10 then iI (wN w n 14) else if y = nI 11 then nI (prC w n T) else -1
def stA (w : Wd) (H T : Nat) (x y v : Int32) : Prop := (∃ n, n < H ∧ x = nI n ∧ v = stV w n T y) ∨ ((¬ ∃ n, n < H ∧ x = nI n) ∧ v = -1)
def ctV (w : Wd) (H T : Nat) (x : Int32) : Int32 := if x = nI 0 then nI (wK w).1.length else if x = nI 1 then nI T else if x = nI 2 then nI (wT w) else if x = nI 3 then iI (wK w).2.1 else if x = nI 4 then iI (wK w).2.2 else if x = nI 5 then nI (wL w).length else if x = nI 6 then nI (T - H) else -1
/-- a block that is asked for -/
def bkO (w : Wd) (n : Nat) (y : Int32) : Option (List Nat) := if y = 0 then wY w n 0 0 else if y = -1 then wY w n 1 0 else wY w n 7 y.toNatClampNeg
def blA (w : Wd) (H : Nat) (x y u : Int32) (v : Int64) : Prop := (∃ n i b, n < H ∧ i < 2147483648 ∧ x = nI n ∧ u = nI i ∧ ¬ y < -1 ∧ y ≤ nI 40 ∧ bkO w n y = some b ∧ v = eiB b i) ∨ ((¬ ∃ n i b, n < H ∧ i < 2147483648 ∧ x = nI n ∧ u = nI i ∧ ¬ y < -1 ∧ y ≤ nI 40 ∧ bkO w n y = some b) ∧ v = -1)
def seB (w : Wd) (n s : Nat) : List Nat := mkB 512 (wX w n s)
def seA (w : Wd) (H : Nat) (x y u : Int32) (v : Int64) : Prop := (∃ n s i, n < H ∧ s < 284 ∧ i < 2147483648 ∧ x = nI n ∧ y = nI s ∧ u = nI i ∧ iI (wN w n (100 + s)) ≠ 0 ∧ v = eiB (seB w n s) i) ∨ ((¬ ∃ n s i, n < H ∧ s < 284 ∧ i < 2147483648 ∧ x = nI n ∧ y = nI s ∧ u = nI i ∧ iI (wN w n (100 + s)) ≠ 0) ∧ v = -1)
def pdA (w : Wd) (H T : Nat) (x y v : Int32) : Prop := (∃ n a, n < H ∧ a < T ∧ x = nI n ∧ y = nI a ∧ v = nI ((if wN w n (64 + a) = 0 then 0 else 1) + (if wY w n 2 a = none then 0 else 2))) ∨ ((¬ ∃ n a, n < H ∧ a < T ∧ x = nI n ∧ y = nI a) ∧ v = -1)
def baA (w : Wd) (H : Nat) (x y v : Int32) : Prop := (∃ n a, n < H ∧ a < 16 ∧ x = nI n ∧ y = nI a ∧ v = iI (wN w n (32 + a))) ∨ ((¬ ∃ n a, n < H ∧ a < 16 ∧ x = nI n ∧ y = nI a) ∧ v = -1)
section
variable {N n F H T : Nat} {S : rS} {w : Wd}
theorem count_q {x : Int32} (h : rRp F H T S w) : wp (o_count N S x) (f_count N S x) (fun v => v = ctV w H T x) := by
  obtain ⟨⟨ta, t1, _⟩, s4, s5⟩ := h.sk
  show wp (O_count_0 N x S) (F_count_0 N x S) _
  unfold O_count_0 F_count_0 ctV
  rw [t1, h.co.2.1, h.co.2.2.2.2.2.1, s4, s5, h.co.2.2.2.2.2.2.2.1, h.co.2.2.2.1]
  refine wp_ite (fun c => wp_fin trivial (by rw [if_pos c])) (fun c => ?_)
  rw [if_neg c]
  refine wp_ite (fun c => wp_fin trivial (by rw [if_pos c])) (fun c => ?_)
  rw [if_neg c]
  refine wp_ite (fun c => wp_fin trivial (by rw [if_pos c])) (fun c => ?_)
  rw [if_neg c]
  refine wp_ite (fun c => wp_fin trivial (by rw [if_pos c])) (fun c => ?_)
  rw [if_neg c]
  refine wp_ite (fun c => wp_fin trivial (by rw [if_pos c])) (fun c => ?_)
  rw [if_neg c]
  refine wp_ite (fun c => wp_fin trivial (by rw [if_pos c])) (fun c => ?_)
  rw [if_neg c]
  refine wp_ite (fun c => wp_fin trivial (by rw [if_pos c])) (fun c => ?_)
  rw [if_neg c]
  exact wp_fin trivial rfl
theorem state_q {x y : Int32} (hN : 100 ≤ N) (h : rRp F H T S w) : wp (o_state N S x y) (f_state N S x y) (stA w H T x y) := by
  have cb := h.1.1.b
  obtain ⟨i1, i2⟩ := isHonest_ok (N := N) h (x := x)
  show wp (O_state_0 N x y S) (F_state_0 N x y S) _
  unfold O_state_0 F_state_0
  refine wp_and i1 ?_
  rcases i2 with ⟨n, n1, n2, n3⟩ | ⟨n1, n2⟩
  rotate_left
  · rw [n2]
    exact wp_pos rfl (wp_fin trivial (Or.inr ⟨n1, rfl⟩))
  rw [n3, n2]
  refine wp_neg (by decide) (wp_seq (Q := fun z : Nat × Int32 × Int32 × Int32 × Unit => z = (0, nI n, y, nI (prC w n T), ())) ?_ ?_)
  · refine wp_loop (K := T) (fun j (u : Nat) => u = cnt (fun s => wY w n 2 s ≠ none) j) (fun q j u => OL_state_15 N q (nI n) y (nI u) (nI j) S) (fun q j u => L_state_15 N q (nI n) y (nI u) (nI j) S) (fun q j u hj hI ih => ?_) 0 N 0 (by omega) (by omega) rfl
    unfold OL_state_15 L_state_15 OB_state_15 B_state_15
    rw [h.co.2.1]
    by_cases e : j = T
    · refine wp_pos (by rw [n_le' (by omega) (by omega)]; omega) ?_
      rw [hI, e]
      exact wp_fin trivial rfl
    have ul := cnt_le (fun s => wY w n 2 s ≠ none) j
    rw [n_mul, n_add, n_clamp (by omega)]
    have he := h.e n j n1 (by omega)
    refine wp_neg (by rw [n_le' (by omega) (by omega)]; omega) (wp_and ((n_in (by omega)).2 (by omega)) ?_)
    cases hy : wY w n 2 j with
    | none =>
      rw [hy] at he
      have he : S.2.1 55 (13 * n + j) = nI 0 := he
      rw [he]
      refine wp_pos (by decide) ?_
      unfold O_state_46 F_state_46
      rw [n_add]
      refine ih u ?_ (by omega)
      unfold cnt
      rw [cif_neg (fun z => z hy)]
      exact hI
    | some m =>
      rw [hy] at he
      obtain ⟨a1, a2, a3, _⟩ := he
      rw [a1]
      refine wp_neg (by rw [n_le0 (by omega)]; omega) ?_
      unfold O_state_46 F_state_46
      rw [n_add, n_add]
      refine ih (u + 1) ?_ (by omega)
      unfold cnt
      rw [cif_pos (by rw [hy]; exact fun z => by cases z), hI]
  rintro z hz
  rw [hz]
  show wp (O_state_53 N (nI n) y (nI (prC w n T)) S) (F_state_53 N (nI n) y (nI (prC w n T)) S) _
  have num : ∀ k, k < 18 → (k < 9 ∨ 11 < k) → S.2.1 (rna k) n = iI (wN w n k) := fun k a b => h.num n1 k a b
  have tim : ∀ k, k < 3 → S.2.1 52 (3 * n + k) = iI (wN w n (9 + k)) := fun k hk => by
    have := h.n n (9 + k) n1 (by omega)
    have r1 : rna (9 + k) = 52 := by
      rcases (show k = 0 ∨ k = 1 ∨ k = 2 by omega) with c | c | c <;> rw [c] <;> rfl
    have r2 : rni (9 + k) n = 3 * n + k := by
      unfold rni
      rw [if_pos (by omega)]
      omega
    rw [r1, r2] at this
    exact this
  have t0 := tim 0 (by omega)
  rw [Nat.add_zero] at t0
  have e1 : S.2.1 44 n = iI (wN w n 1) := num 1 (by decide) (by decide)
  have e2 : S.2.1 45 n = iI (wN w n 2) := num 2 (by decide) (by decide)
  have e3 : S.2.1 46 n = iI (wN w n 3) := num 3 (by decide) (by decide)
  have e4 : S.2.1 47 n = iI (wN w n 4) := num 4 (by decide) (by decide)
  have e5 : S.2.1 48 n = iI (wN w n 5) := num 5 (by decide) (by decide)
  have e0 : S.2.1 43 n = iI (wN w n 0) := num 0 (by decide) (by decide)
  have e17 : S.2.1 65 n = iI (wN w n 17) := num 17 (by decide) (by decide)
  have e13 : S.2.1 76 n = iI (wN w n 13) := num 13 (by decide) (by decide)
  have e14 : S.2.1 77 n = iI (wN w n 14) := num 14 (by decide) (by decide)
  have e53 := (h.p n n1).1
  have fin : ∀ v, v = stV w n T y → stA w H T (nI n) y v := fun v e => Or.inl ⟨n, n1, rfl, e⟩
  unfold stV at fin
  unfold O_state_53 F_state_53
  rw [n_clamp (by omega), e1, e2, e3, e4, e5, e0, e17, e13, e14, e53, n_mul, n_clamp (by omega), t0]
  refine wp_ite (fun c => wp_fin ⟨((n_in (by omega)).2 (by omega)), trivial⟩ (fin _ (by rw [if_pos c]))) (fun c0 => ?_)
  rw [if_neg c0] at fin
  refine wp_ite (fun c => wp_fin ⟨((n_in (by omega)).2 (by omega)), trivial⟩ (fin _ (by rw [if_pos c]))) (fun c1 => ?_)
  rw [if_neg c1] at fin
  refine wp_ite (fun c => wp_fin ⟨((n_in (by omega)).2 (by omega)), trivial⟩ (fin _ (by rw [if_pos c]))) (fun c2 => ?_)
  rw [if_neg c2] at fin
  refine wp_ite (fun c => wp_fin ⟨((n_in (by omega)).2 (by omega)), trivial⟩ (fin _ (by rw [if_pos c]))) (fun c3 => ?_)
  rw [if_neg c3] at fin
  refine wp_ite (fun c => wp_fin ⟨((n_in (by omega)).2 (by omega)), trivial⟩ (fin _ (by rw [if_pos c]))) (fun c4 => ?_)
  rw [if_neg c4] at fin
  refine wp_ite (fun c => ?_) (fun c5 => ?_)
  · rw [if_pos c] at fin
    refine wp_and ((n_in (by omega)).2 (by omega)) (wp_ite (fun d => ?_) (fun d => ?_))
    · unfold O_state_165 F_state_165
      exact wp_fin trivial (fin _ (by rw [if_pos d]))
    · unfold O_state_165 F_state_165
      exact wp_fin trivial (fin _ (by rw [if_neg d]))
  rw [if_neg c5] at fin
  refine wp_ite (fun c => wp_fin ⟨((n_in (by omega)).2 (by omega)), trivial⟩ (fin _ (by rw [if_pos c]))) (fun c6 => ?_)
  rw [if_neg c6] at fin
  refine wp_ite (fun c => ?_) (fun c7 => ?_)
  · rw [if_pos c] at fin
    unfold tmS at fin
    have last : ∀ a b : Nat, a + b + (if iI (wN w n 11) = -1 then 0 else 4) = (if iI (wN w n 9) = -1 then 0 else 1) + (if iI (wN w n 10) = -1 then 0 else 2) + (if iI (wN w n 11) = -1 then 0 else 4) → wp (O_state_209 N (nI n) (nI a) (nI b) S) (F_state_209 N (nI n) (nI a) (nI b) S) (stA w H T (nI n) y) := fun a b e => by
      unfold O_state_209 F_state_209
      rw [n_mul, n_add, n_add, n_clamp (by omega), tim 2 (by omega)]
      refine wp_and ((n_in (by omega)).2 (by omega)) (wp_ite (fun d => ?_) (fun d => ?_))
      · unfold O_state_229 F_state_229
        rw [n_add]
        have d : iI (wN w n 11) = -1 := d
        rw [if_pos d] at e
        exact wp_fin trivial (fin _ (by rw [if_pos d, ← e]))
      · unfold O_state_229 F_state_229
        rw [n_add]
        have d : ¬ iI (wN w n 11) = -1 := d
        rw [if_neg d] at e
        exact wp_fin trivial (fin _ (by rw [if_neg d, ← e]))
    have mid : ∀ a : Nat, a = (if iI (wN w n 9) = -1 then 0 else 1) → wp (O_state_190 N (nI n) (nI a) S) (F_state_190 N (nI n) (nI a) S) (stA w H T (nI n) y) := fun a e => by
      unfold O_state_190 F_state_190
      rw [n_mul, n_add, n_clamp (by omega), tim 1 (by omega)]
      refine wp_and ((n_in (by omega)).2 (by omega)) (wp_ite (fun d => ?_) (fun d => ?_))
      · exact last a 0 (by rw [if_pos d, e])
      · exact last a 2 (by rw [if_neg d, e])
    refine wp_and ((n_in (by omega)).2 (by omega)) (wp_ite (fun d => ?_) (fun d => ?_))
    · exact mid 0 (by rw [if_pos d])
    · exact mid 1 (by rw [if_neg d])
  rw [if_neg c7] at fin
  refine wp_ite (fun c => wp_fin ⟨((n_in (by omega)).2 (by omega)), trivial⟩ (fin _ (by rw [if_pos c]))) (fun c8 => ?_)
  rw [if_neg c8] at fin
  refine wp_ite (fun c => wp_fin ⟨((n_in (by omega)).2 (by omega)), trivial⟩ (fin _ (by rw [if_pos c]))) (fun c9 => ?_)
  rw [if_neg c9] at fin
  refine wp_ite (fun c => wp_fin ⟨((n_in (by omega)).2 (by omega)), trivial⟩ (fin _ (by rw [if_pos c]))) (fun c10 => ?_)
  rw [if_neg c10] at fin
  refine wp_ite (fun c => wp_fin trivial (fin _ (by rw [if_pos c]))) (fun c11 => ?_)
  rw [if_neg c11] at fin
  exact wp_fin trivial (fin _ rfl)
theorem block_62 {p i : Nat} {o : Option (List Nat)} (hN : 100 ≤ N) (hp : p < 1354) (hi : i < 2147483648) (ho : oR S p o) : wp (O_block_62 N (nI i) (nI p) S) (F_block_62 N (nI i) (nI p) S) (fun v => (∃ b, o = some b ∧ v = eiB b i) ∨ (o = none ∧ v = -1)) := by
  obtain ⟨t1, t2⟩ := isThere_ok (N := N) hp ho
  unfold O_block_62 F_block_62
  rw [t2]
  refine wp_and t1 ?_
  cases o with
  | none => exact wp_pos rfl (wp_fin trivial (Or.inr ⟨rfl, rfl⟩))
  | some m =>
    obtain ⟨⟨b1, b2, b3⟩, b4⟩ := ho
    have bl := b4.2.1
    refine wp_neg (show ¬ nI 1 = 0 by decide) (wp_seq (Q := fun z : Nat × Int64 × Unit => z = (0, eiB m i, ())) ?_ ?_)
    · refine wp_loop (σ := Unit) (K := 8) (fun _ _ => True) (fun q j _ => OL_block_83 N q (nI i) (nI p) (l8 (fun b => nI (bg m (i + b))) j) (nI j) S) (fun q j _ => L_block_83 N q (nI i) (nI p) (l8 (fun b => nI (bg m (i + b))) j) (nI j) S) (fun q j _ hj _ ih => ?_) 0 N () (by omega) (by omega) trivial
      unfold OL_block_83 L_block_83 OB_block_83 B_block_83
      by_cases e : j = 8
      · refine wp_pos (by rw [n_le' (by omega) (by omega)]; omega) ?_
        rw [e]
        exact wp_fin trivial rfl
      have zero : m.length ≤ i + j → wp (O_block_133 N (fun a b c d => OL_block_83 N q a b c d S) (nI i) (nI p) (nI j) (l8 (fun b => nI (bg m (i + b))) j <<< (Int32.toInt64 (nI 8) &&& 63)) S) (F_block_133 N (fun a b c d => L_block_83 N q a b c d S) (nI i) (nI p) (nI j) (l8 (fun b => nI (bg m (i + b))) j <<< (Int32.toInt64 (nI 8) &&& 63)) S) (fun z : Nat × Int64 × Unit => z = (0, eiB m i, ())) := fun hz => by
        unfold O_block_133 F_block_133 O_block_134 F_block_134
        rw [n_add]
        have := ih () trivial (by omega)
        have s : l8 (fun b => nI (bg m (i + b))) (j + 1) = (l8 (fun b => nI (bg m (i + b))) j <<< (Int32.toInt64 (nI 8) &&& 63)) ||| Int32.toInt64 (nI 0) := by
          show (l8 (fun b => nI (bg m (i + b))) j <<< (Int32.toInt64 (nI 8) &&& 63)) ||| Int32.toInt64 (nI (bg m (i + j))) = _
          rw [bg_out hz]
        rw [s] at this
        exact this
      rw [n_clamp (by omega), b1]
      refine wp_neg (by rw [n_le' (by omega) (by omega)]; omega) (wp_and ((n_in (by omega)).2 (by omega)) (wp_ite (fun c1 => ?_) (fun c1 => ?_))) <;> rw [n_le' (by omega) hi] at c1
      · exact zero (by omega)
      rw [n_sub (by omega)]
      refine wp_and ((n_in (by omega)).2 (by omega)) (wp_ite (fun c2 => ?_) (fun c2 => ?_)) <;> rw [n_le' (by omega) (by omega)] at c2
      · exact zero (by omega)
      rw [n_add]
      obtain ⟨y1, y2⟩ := byte_at (N := N) (p := p) (i := i + j) hp b2 bl (by omega)
      rw [y2]
      refine wp_and y1 ?_
      unfold O_block_134 F_block_134
      rw [n_add]
      exact ih () trivial (by omega)
    rintro z hz
    rw [hz]
    unfold OA_block_83 A_block_83 O_block_144 F_block_144
    exact wp_fin trivial (Or.inl ⟨m, rfl, rfl⟩)
theorem block_q {x y u : Int32} (hN : 100 ≤ N) (h : rRp F H T S w) : wp (o_block N S x y u) (f_block N S x y u) (blA w H x y u) := by
  have cb := h.1.1.b
  obtain ⟨i1, i2⟩ := isHonest_ok (N := N) h (x := x)
  show wp (O_block_0 N x y u S) (F_block_0 N x y u S) _
  unfold O_block_0 F_block_0
  have no : (¬ ∃ n i b, n < H ∧ i < 2147483648 ∧ x = nI n ∧ u = nI i ∧ ¬ y < -1 ∧ y ≤ nI 40 ∧ bkO w n y = some b) → wp (O_block_23 N S) (F_block_23 N S) (blA w H x y u) := fun g => by
    unfold O_block_23 F_block_23
    exact wp_fin trivial (Or.inr ⟨g, rfl⟩)
  refine wp_and i1 ?_
  rcases i2 with ⟨n, n1, n2, n3⟩ | ⟨n1, n2⟩
  rotate_left
  · rw [n2]
    exact wp_pos rfl (no (fun ⟨a, b, c, d, e, f, _⟩ => n1 ⟨a, d, f⟩))
  rw [n3]
  refine wp_neg (by decide) (wp_ite (fun c => ?_) (fun c => ?_))
  · exact no (fun ⟨a, i, b, d, e, f, g, _⟩ => n_lt0 e (by rw [← g]; exact c))
  obtain ⟨i, k1, k2⟩ := i_nat c
  refine wp_ite (fun c2 => ?_) (fun c2 => ?_)
  · exact no (fun ⟨a, i, b, d, e, f, g, z, _⟩ => z c2)
  refine wp_ite (fun c3 => ?_) (fun c3 => ?_)
  rotate_left
  · exact no (fun ⟨a, i, b, d, e, f, g, z, z2, _⟩ => c3 z2)
  have un : ∀ n' i', n' < H → i' < 2147483648 → x = nI n' → u = nI i' → n' = n ∧ i' = i := fun n' i' a b d e => by
    rw [n2, n_eq' (by omega) (by omega)] at d
    rw [k2, n_eq' k1 b] at e
    exact ⟨d.symm, e.symm⟩
  have fin : ∀ o, bkO w n y = o → ∀ v, ((∃ b, o = some b ∧ v = eiB b i) ∨ (o = none ∧ v = -1)) → blA w H x y u v := fun o eo v z => by
    rcases z with ⟨b, b1, b2⟩ | ⟨b1, b2⟩
    · exact Or.inl ⟨n, i, b, n1, k1, n2, k2, c2, c3, by rw [eo]; exact b1, b2⟩
    · refine Or.inr ⟨fun ⟨n', i', b, d, e, f, g, _, _, j⟩ => ?_, b2⟩
      obtain ⟨q1, q2⟩ := un n' i' d e f g
      rw [q1, eo, b1] at j
      cases j
  rw [k2]
  rw [k2] at fin
  have x1 : nI 1118 + x = nI (1118 + n) := by rw [n2, n_add]
  have x2 : nI 1131 + x = nI (1131 + n) := by rw [n2, n_add]
  rw [x1, x2]
  refine wp_ite (fun d => ?_) (fun d => ?_)
  · exact wp_mono (block_62 hN (by omega) k1 (h.l n n1).1) (fun z => fin _ (by unfold bkO; rw [if_pos d]) _ z)
  refine wp_ite (fun d2 => ?_) (fun d2 => ?_)
  · exact wp_mono (block_62 hN (by omega) k1 (h.l n n1).2) (fun z => fin _ (by unfold bkO; rw [if_neg d, if_pos d2]) _ z)
  have yn : ¬ y < 0 := fun z => by
    rw [Int32.lt_iff_toInt_lt] at z c2
    have a : (0 : Int32).toInt = 0 := rfl
    have b : (-1 : Int32).toInt = -1 := rfl
    apply d2
    apply Int32.toInt_inj.mp
    omega
  obtain ⟨hh, h1, h2⟩ := i_nat yn
  rw [h2, n_le' h1 (by omega)] at c3
  have e7 : nI 585 + nI 41 * x + y = nI (585 + 41 * n + hh) := by rw [n2, h2, n_mul, n_add, n_add]
  rw [e7]
  refine wp_mono (block_62 (p := 585 + 41 * n + hh) hN (by omega) k1 (h.c n hh n1 (by omega))) (fun z => fin _ ?_ _ z)
  unfold bkO
  rw [if_neg d, if_neg d2, h2, n_clamp (by omega)]
theorem paid_q {x y : Int32} (hN : 1000 ≤ N) (h : rRp F H T S w) : wp (o_paid N S x y) (f_paid N S x y) (fun z => sfr S z.2 ∧ pdA w H T x y z.1) := by
  have cb := h.1.1.b
  obtain ⟨i1, i2⟩ := isHonest_ok (N := N) h (x := x)
  show wp (O_paid_0 N x y S) (F_paid_0 N x y S) _
  unfold O_paid_0 F_paid_0
  have no : (¬ ∃ n a, n < H ∧ a < T ∧ x = nI n ∧ y = nI a) → wp (O_paid_20 N S) (F_paid_20 N S) (fun z => sfr S z.2 ∧ pdA w H T x y z.1) := fun g => by
    unfold O_paid_20 F_paid_20
    exact wp_fin trivial ⟨sfr.refl, Or.inr ⟨g, rfl⟩⟩
  refine wp_and i1 ?_
  rcases i2 with ⟨n, n1, n2, n3⟩ | ⟨n1, n2⟩
  rotate_left
  · rw [n2]
    exact wp_pos rfl (no (fun ⟨a, b, c, d, e, f⟩ => n1 ⟨a, c, e⟩))
  rw [n3]
  refine wp_neg (by decide) (wp_ite (fun c => ?_) (fun c => ?_))
  · exact no (fun ⟨a, b, d, e, f, g⟩ => n_lt0 (show b < 2147483648 by omega) (by rw [← g]; exact c))
  obtain ⟨a, a1, a2⟩ := i_nat c
  have q : y < S.1 0 ↔ a < T := by rw [a2, h.co.2.1, n_lt' a1 (by omega)]
  refine wp_ite (fun d => ?_) (fun d => ?_) <;> rw [q] at d
  rotate_left
  · refine no (fun ⟨n', b, e, f, g, k⟩ => ?_)
    rw [a2, n_eq' a1 (by omega)] at k
    omega
  rw [n2, a2]
  refine wp_call (reckon_ok hN (by omega) (by omega) n1 h.n h.c h.k) (fun r => ?_)
  obtain ⟨k1, k2, k3⟩ := r
  have sf : sfr S (f_reckon N S (nI n)) := k1.sf (by decide) (by decide) (by decide) (by decide)
  have R1 := h.sf sf
  generalize f_reckon N S (nI n) = S1 at k1 k2 sf R1 ⊢
  have e87 := (k2 a (by omega)).2.2
  have bv := k3.2.2.2 a (by omega)
  have he := R1.e n a n1 (by omega)
  have last : ∀ c : Nat, c = (if wN w n (64 + a) = 0 then 0 else 1) → wp (O_paid_41 N (nI n) (nI a) (nI c) S1) (F_paid_41 N (nI n) (nI a) (nI c) S1) (fun z => sfr S z.2 ∧ pdA w H T (nI n) (nI a) z.1) := fun c ec => by
    unfold O_paid_41 F_paid_41
    rw [n_mul, n_add, n_clamp (by omega)]
    refine wp_and ((n_in (by omega)).2 (by omega)) ?_
    cases hy : wY w n 2 a with
    | none =>
      rw [hy] at he
      have he : S1.2.1 55 (13 * n + a) = nI 0 := he
      rw [he]
      refine wp_pos (by decide) ?_
      unfold O_paid_60 F_paid_60
      refine wp_fin trivial ⟨sf, Or.inl ⟨n, a, n1, d, rfl, rfl, ?_⟩⟩
      rw [hy, if_pos rfl, ← ec]
      show nI c + nI 0 = _
      rw [n_add]
    | some m =>
      rw [hy] at he
      obtain ⟨b1, b2, b3, _⟩ := he
      rw [b1]
      refine wp_neg (by rw [n_le0 (by omega)]; omega) ?_
      unfold O_paid_60 F_paid_60
      refine wp_fin trivial ⟨sf, Or.inl ⟨n, a, n1, d, rfl, rfl, ?_⟩⟩
      rw [hy, if_neg (show ¬ ((some m : Option (List Nat)) = none) from (fun z => by cases z)), ← ec]
      show nI c + nI 2 = _
      rw [n_add]
  have eb : bkN (wN w) n (32 + a) = wN w n (64 + a) := by
    unfold bkN
    congr 1
    omega
  rw [eb] at e87 bv
  unfold O_paid_27 F_paid_27
  rw [n_clamp (by omega), e87]
  rcases bv with bv | bv
  · rw [bv]
    exact wp_and ((n_in (by omega)).2 (by omega)) (wp_pos rfl (last 0 (by rw [if_pos bv])))
  · rw [bv]
    exact wp_and ((n_in (by omega)).2 (by omega)) (wp_neg (by decide) (last 1 (by rw [if_neg (by rw [bv]; decide)])))
theorem balance_q {x y : Int32} (hN : 1000 ≤ N) (h : rRp F H T S w) : wp (o_balance N S x y) (f_balance N S x y) (fun z => sfr S z.2 ∧ baA w H x y z.1) := by
  have cb := h.1.1.b
  obtain ⟨i1, i2⟩ := isHonest_ok (N := N) h (x := x)
  show wp (O_balance_0 N x y S) (F_balance_0 N x y S) _
  unfold O_balance_0 F_balance_0
  have no : (¬ ∃ n a, n < H ∧ a < 16 ∧ x = nI n ∧ y = nI a) → wp (O_balance_18 N S) (F_balance_18 N S) (fun z => sfr S z.2 ∧ baA w H x y z.1) := fun g => by
    unfold O_balance_18 F_balance_18
    exact wp_fin trivial ⟨sfr.refl, Or.inr ⟨g, rfl⟩⟩
  refine wp_and i1 ?_
  rcases i2 with ⟨n, n1, n2, n3⟩ | ⟨n1, n2⟩
  rotate_left
  · rw [n2]
    exact wp_pos rfl (no (fun ⟨a, b, c, d, e, f⟩ => n1 ⟨a, c, e⟩))
  rw [n3]
  refine wp_neg (by decide) (wp_ite (fun c => ?_) (fun c => ?_))
  · exact no (fun ⟨a, b, d, e, f, g⟩ => n_lt0 (show b < 2147483648 by omega) (by rw [← g]; exact c))
  obtain ⟨a, a1, a2⟩ := i_nat c
  have q : y ≤ nI 15 ↔ a ≤ 15 := by rw [a2, n_le' a1 (by omega)]
  refine wp_ite (fun d => ?_) (fun d => ?_) <;> rw [q] at d
  rotate_left
  · refine no (fun ⟨n', b, e, f, g, k⟩ => ?_)
    rw [a2, n_eq' a1 (by omega)] at k
    omega
  rw [n2, a2]
  refine wp_call (reckon_ok hN (by omega) (by omega) n1 h.n h.c h.k) (fun r => ?_)
  obtain ⟨k1, k2, k3⟩ := r
  have sf : sfr S (f_reckon N S (nI n)) := k1.sf (by decide) (by decide) (by decide) (by decide)
  generalize f_reckon N S (nI n) = S1 at k2 sf ⊢
  unfold O_balance_25 F_balance_25
  refine wp_fin ⟨((n_in (by omega)).2 (by omega)), trivial⟩ ⟨sf, Or.inl ⟨n, a, n1, (by omega), rfl, rfl, ?_⟩⟩
  show S1.2.1 85 (nI a).toNatClampNeg = _
  rw [n_clamp (by omega)]
  exact (k2 a (by omega)).1
theorem sector_q {x y u : Int32} (hN : 100 ≤ N) (h : rRp F H T S w) : wp (o_sector N S x y u) (f_sector N S x y u) (seA w H x y u) := by
  have cb := h.1.1.b
  obtain ⟨i1, i2⟩ := isHonest_ok (N := N) h (x := x)
  show wp (O_sector_0 N x y u S) (F_sector_0 N x y u S) _
  unfold O_sector_0 F_sector_0
  have no : (¬ ∃ n s i, n < H ∧ s < 284 ∧ i < 2147483648 ∧ x = nI n ∧ y = nI s ∧ u = nI i ∧ iI (wN w n (100 + s)) ≠ 0) → wp (O_sector_38 N S) (F_sector_38 N S) (seA w H x y u) := fun g => by
    unfold O_sector_38 F_sector_38
    exact wp_fin trivial (Or.inr ⟨g, rfl⟩)
  refine wp_and i1 ?_
  rcases i2 with ⟨n, n1, n2, n3⟩ | ⟨n1, n2⟩
  rotate_left
  · rw [n2]
    exact wp_pos rfl (no (fun ⟨a, b, c, d, e, f, g, _⟩ => n1 ⟨a, d, g⟩))
  rw [n3]
  refine wp_neg (by decide) (wp_ite (fun c => ?_) (fun c => ?_))
  · exact no (fun ⟨a, b, i, d, e, f, g, k, _⟩ => n_lt0 (show b < 2147483648 by omega) (by rw [← k]; exact c))
  obtain ⟨s, s1, s2⟩ := i_nat c
  have q : nI 284 ≤ y ↔ 284 ≤ s := by rw [s2, n_le' (by omega) s1]
  refine wp_ite (fun d => ?_) (fun d => ?_) <;> rw [q] at d
  · refine no (fun ⟨n', s', i', e, f, g, k, l, _⟩ => ?_)
    rw [s2, n_eq' s1 (by omega)] at l
    omega
  refine wp_ite (fun c3 => ?_) (fun c3 => ?_)
  · exact no (fun ⟨a, b, i, d, e, f, g, k, l, _⟩ => n_lt0 f (by rw [← l]; exact c3))
  obtain ⟨i, k1, k2⟩ := i_nat c3
  have e74 := h.wh n s n1 (by omega)
  have cl : (nI 284 * x + y).toNatClampNeg = 284 * n + s := by rw [n2, s2, n_mul, n_add]; exact n_clamp (by omega)
  have vi : vp_in (nI 284 * x + y) 3692 := by rw [n2, s2, n_mul, n_add]; exact ((n_in (by omega)).2 (by omega))
  rw [cl, e74]
  refine wp_and vi (wp_ite (fun c4 => ?_) (fun c4 => ?_))
  · refine no (fun ⟨n', s', i', e, f, g, k, l, m, z⟩ => z ?_)
    rw [n2, n_eq' (by omega) (by omega)] at k
    rw [s2, n_eq' s1 (by omega)] at l
    rw [← k, ← l]
    exact c4
  rw [n2, s2, k2]
  obtain ⟨m, hm⟩ : ∃ m, m = seB w n s := ⟨_, rfl⟩
  have ml : m.length = 512 := by rw [hm]; exact mkB_len _ _
  have mx : ∀ j, j < 512 → lby (S.2.2 73) (512 * (284 * n + s) + j) = nI (bg m j) := fun j hj => by
    rw [(h.x n s j n1 (by omega) hj).1, hm]
    unfold seB
    rw [mkB_in hj]
  refine wp_seq (Q := fun z : Nat × Int64 × Unit => z = (0, eiB m i, ())) ?_ ?_
  · refine wp_loop (σ := Unit) (K := 8) (fun _ _ => True) (fun q j _ => OL_sector_48 N q (nI n) (nI s) (nI i) (l8 (fun b => nI (bg m (i + b))) j) (nI j) S) (fun q j _ => L_sector_48 N q (nI n) (nI s) (nI i) (l8 (fun b => nI (bg m (i + b))) j) (nI j) S) (fun q j _ hj _ ih => ?_) 0 N () (by omega) (by omega) trivial
    unfold OL_sector_48 L_sector_48 OB_sector_48 B_sector_48
    by_cases e : j = 8
    · refine wp_pos (by rw [n_le' (by omega) (by omega)]; omega) ?_
      rw [e]
      exact wp_fin trivial rfl
    have zero : m.length ≤ i + j → wp (O_sector_113 N (fun a b c d e => OL_sector_48 N q a b c d e S) (nI n) (nI s) (nI i) (nI j) (l8 (fun b => nI (bg m (i + b))) j <<< (Int32.toInt64 (nI 8) &&& 63)) S) (F_sector_113 N (fun a b c d e => L_sector_48 N q a b c d e S) (nI n) (nI s) (nI i) (nI j) (l8 (fun b => nI (bg m (i + b))) j <<< (Int32.toInt64 (nI 8) &&& 63)) S) (fun z : Nat × Int64 × Unit => z = (0, eiB m i, ())) := fun hz => by
      unfold O_sector_113 F_sector_113 O_sector_114 F_sector_114
      rw [n_add]
      have := ih () trivial (by omega)
      have st : l8 (fun b => nI (bg m (i + b))) (j + 1) = (l8 (fun b => nI (bg m (i + b))) j <<< (Int32.toInt64 (nI 8) &&& 63)) ||| Int32.toInt64 (nI 0) := by
        show (l8 (fun b => nI (bg m (i + b))) j <<< (Int32.toInt64 (nI 8) &&& 63)) ||| Int32.toInt64 (nI (bg m (i + j))) = _
        rw [bg_out hz]
      rw [st] at this
      exact this
    refine wp_neg (by rw [n_le' (by omega) (by omega)]; omega) (wp_ite (fun c1 => ?_) (fun c1 => ?_)) <;> rw [n_le' (by omega) k1] at c1
    · exact zero (by omega)
    rw [n_sub (by omega)]
    refine wp_ite (fun c2 => ?_) (fun c2 => ?_) <;> rw [n_le' (by omega) (by omega)] at c2
    · exact zero (by omega)
    have ms := mx (i + j) (by omega)
    rw [lby_eq (a := 64 * (284 * n + s) + (i + j) / 8) (b := (i + j) % 8) (by omega) (by omega)] at ms
    simp only [n_mul, n_add]
    rw [n_mod' (by omega) (by omega), n_div' (by omega) (by omega), n_add, n_clamp (by omega), byteIn_byt, ms]
    refine wp_and ((n_in (by omega)).2 (by omega)) (wp_and trivial ?_)
    unfold O_sector_114 F_sector_114
    rw [n_add]
    exact ih () trivial (by omega)
  rintro z hz
  rw [hz]
  unfold OA_sector_48 A_sector_48 O_sector_124 F_sector_124
  refine wp_fin trivial (Or.inl ⟨n, s, i, n1, (by omega), k1, rfl, rfl, rfl, c4, ?_⟩)
  rw [← hm]
end
end

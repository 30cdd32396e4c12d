section
/-! WHAT BYTES ARE WELL FORMED: blocks, evidences, payments, messages -/
noncomputable def cif {R : Type} (c : Prop) (a b : R) : R := @ite R c (Classical.propDecidable c) a b
theorem cif_pos {R : Type} {c : Prop} {a b : R} (h : c) : cif c a b = a := by unfold cif; rw [if_pos h]
theorem cif_neg {R : Type} {c : Prop} {a b : R} (h : ¬ c) : cif c a b = b := by unfold cif; rw [if_neg h]
def hOK (h : Nat) : Prop := 1 ≤ h ∧ h ≤ 41
/-- the first of two rows of 32 bytes is the lesser -/
def lessB (b : List Nat) (p q : Nat) : Prop := ∃ i, i < 32 ∧ (∀ j, j < i → bg b (p + j) = bg b (q + j)) ∧ bg b (p + i) < bg b (q + i)
def evOK (T : Nat) (b : List Nat) (a : Nat) : Prop := a + 39 ≤ b.length ∧ bg b a < T ∧ 1 ≤ bg b (a + 1) ∧ bg b (a + 1) ≤ 3 ∧ hOK (tw b (a + 2)) ∧ bg b (a + 4) ≤ 15 ∧ ((bg b (a + 5) = 0 ∧ bg b (a + 6) = 1 ∧ bg b (a + 1) ≠ 1) ∨ (bg b (a + 5) = 1 ∧ a + 71 ≤ b.length ∧ bg b (a + 38) = 1 ∧ lessB b (a + 6) (a + 39)))
def evSz (b : List Nat) (a : Nat) : Nat := if bg b (a + 5) = 1 then 71 else 39
/-- where the k-th evidence of a block starts -/
def evP (b : List Nat) : Nat → Nat
  | 0 => 101
  | k + 1 => evP b k + evSz b (evP b k)
def payOK (b : List Nat) (a : Nat) : Prop := a + 7 ≤ b.length ∧ bg b a < 16 ∧ bg b (a + 1) < 16 ∧ bg b a ≠ bg b (a + 1) ∧ 1 ≤ tw b (a + 2) ∧ tw b (a + 2) ≤ 1000 ∧ 1 ≤ bg b (a + 6) ∧ bg b (a + 6) ≤ 9
def pyP (b : List Nat) (k : Nat) : Nat := evP b (bg b 100) + 7 * k
def evL (b : List Nat) (n : Nat) : List (List Nat) := (List.range n).map (fun p => sl b (evP b p) (evSz b (evP b p)))
def pyL (b : List Nat) (n : Nat) : List (List Nat) := (List.range n).map (fun p => sl b (pyP b p) 7)
def partsB (b : List Nat) : List (List Nat) := evL b (bg b 100) ++ pyL b (bg b 99)
def blkWf (T : Nat) (b : List Nat) : Prop := 101 ≤ b.length ∧ hOK (tw b 0) ∧ bg b 2 < T ∧ bg b 99 ≤ 64 ∧ bg b 100 ≤ 2 ∧ (∀ k, k < bg b 100 → evOK T b (evP b k)) ∧ (∀ k, k < bg b 99 → payOK b (pyP b k)) ∧ b.length = pyP b (bg b 99) ∧ ∀ i, i < 32 → bg b (67 + i) = bg (rootP (partsB b)) i
def sgOK (T : Nat) (m : List Nat) : Prop := bg m 1 < T ∧ hOK (tw m 2) ∧ bg m 4 ≤ 15
def voOK (T : Nat) (m : List Nat) : Prop := sgOK T m ∧ ((m.length = 6 ∧ bg m 5 = 0) ∨ (m.length = 38 ∧ bg m 5 = 1))
def prOK (T : Nat) (m : List Nat) : Prop := sgOK T m ∧ (bg m 5 ≤ 15 ∨ bg m 5 = 255) ∧ blkWf T (m.drop 6) ∧ tw m 6 = tw m 2
def snOK (m : List Nat) : Prop := m.length = 115 ∧ 2 ≤ tw m 1 ∧ tw m 1 ≤ 41 ∧ ∀ a, a < 16 → tw m (35 + 5 * a) ≤ 16000 ∧ bg m (39 + 5 * a) ≤ 1
def wf (T : Nat) (m : List Nat) : Prop := (bg m 0 = 0 ∧ m.length = 8 ∧ payOK m 1) ∨ (bg m 0 = 1 ∧ prOK T m) ∨ ((bg m 0 = 2 ∨ bg m 0 = 3) ∧ voOK T m) ∨ (bg m 0 = 4 ∧ blkWf T (m.drop 1)) ∨ (bg m 0 = 5 ∧ m.length = 3 ∧ hOK (tw m 1)) ∨ (bg m 0 = 6 ∧ evOK T m 1 ∧ m.length = 1 + evSz m 1) ∨ (bg m 0 = 7 ∧ snOK m)
/-- a block's id -/
def idB (b : List Nat) : List Nat := shaB (sl b 0 101)
theorem evSz_le (b : List Nat) (a : Nat) : 39 ≤ evSz b a ∧ evSz b a ≤ 71 := by
  unfold evSz
  by_cases e : bg b (a + 5) = 1
  · rw [if_pos e]; omega
  · rw [if_neg e]; omega
theorem evP_le (b : List Nat) : ∀ k, 101 + 39 * k ≤ evP b k ∧ evP b k ≤ 101 + 71 * k
  | 0 => by unfold evP; omega
  | k + 1 => by
    have := evP_le b k
    have h2 := evSz_le b (evP b k)
    unfold evP
    omega
theorem blkWf.len {T : Nat} {b : List Nat} (h : blkWf T b) : 101 ≤ b.length ∧ b.length ≤ 691 := by
  obtain ⟨h1, _, _, h4, h5, _, _, h8, _⟩ := h
  have := evP_le b (bg b 100)
  unfold pyP at h8
  omega
theorem evOK.end_ {T : Nat} {b : List Nat} {a : Nat} (h : evOK T b a) : a + evSz b a ≤ b.length := by
  obtain ⟨h1, _, _, _, _, _, h7⟩ := h
  unfold evSz
  rcases h7 with h7 | h7
  · rw [if_neg (by omega)]; omega
  · rw [if_pos h7.1]; omega
theorem evOK_cong {T : Nat} {b c : List Nat} {a d : Nat} (hl : b.length - a = c.length - d) (ha : a ≤ b.length) (hd : d ≤ c.length) (h : ∀ i, bg b (a + i) = bg c (d + i)) : evOK T b a → evOK T c d := by
  have e : ∀ i j k, bg b (a + i + j + k) = bg c (d + i + j + k) := fun i j k => by rw [Nat.add_assoc a, Nat.add_assoc a, Nat.add_assoc d, Nat.add_assoc d]; exact h _
  intro q
  obtain ⟨h1, h2, h3, h4, h5, h6, h7⟩ := q
  have e0 := h 0
  have e1 := h 1
  have e2 := h 2
  have e3 := h 3
  have e4 := h 4
  have e5 := h 5
  have e6 := h 6
  have e38 := h 38
  simp only [Nat.add_zero] at e0
  unfold hOK tw at h5
  rw [show a + 2 + 1 = a + 3 from rfl] at h5
  refine ⟨by omega, by omega, by omega, by omega, ?_, by omega, ?_⟩
  · unfold hOK tw
    rw [show d + 2 + 1 = d + 3 from rfl]
    omega
  · rcases h7 with h7 | h7
    · exact Or.inl (by omega)
    · refine Or.inr ⟨by omega, by omega, by omega, ?_⟩
      obtain ⟨i, i1, i2, i3⟩ := h7.2.2.2
      exact ⟨i, i1, fun j hj => by have := i2 j hj; have p := e 6 j 0; have q := e 39 j 0; simp only [Nat.add_zero] at p q; rw [← p, ← q]; exact this, by have p := e 6 i 0; have q := e 39 i 0; simp only [Nat.add_zero] at p q; rw [← p, ← q]; exact i3⟩
theorem pg_map (n : Nat) (f : Nat → List Nat) (p : Nat) : pg ((List.range n).map f) p = if p < n then f p else [] := by
  unfold pg
  by_cases h : p < n
  · simp [h]
  · simp [h]
theorem evL_succ (b : List Nat) (n : Nat) : evL b (n + 1) = evL b n ++ [sl b (evP b n) (evSz b (evP b n))] := by
  unfold evL
  rw [List.range_succ, List.map_append]
  rfl
theorem pyL_succ (b : List Nat) (n : Nat) : pyL b (n + 1) = pyL b n ++ [sl b (pyP b n) 7] := by
  unfold pyL
  rw [List.range_succ, List.map_append]
  rfl
theorem evL_len (b : List Nat) (n : Nat) : (evL b n).length = n := by simp [evL]
theorem pyL_len (b : List Nat) (n : Nat) : (pyL b n).length = n := by simp [pyL]
theorem partsB_len (b : List Nat) : (partsB b).length = bg b 100 + bg b 99 := by
  unfold partsB
  rw [List.length_append, evL_len, pyL_len]
end

section
/-! THE CLASS'S SKY: a message is taken out of the ring -/
theorem n_dec {i : Nat} (h : 1 ≤ i) : nI i + (-1) = nI (i - 1) := by
  rw [← n_sub h, Int32.sub_eq_add_neg]
  rfl
section
variable {N g H T q : Nat} {s : cS} {fl : List Fl} {ld t : Nat → Nat}
/-- the ring, shifted from place k down to place i -/
def shf (o : Nat → Int32) (f k i : Nat) (r : Nat → Int32) : Prop := ∀ l, l < 1024 → r ((f + l) % 1024) = if i < l ∧ l ≤ k then o ((f + l - 1) % 1024) else o ((f + l) % 1024)
theorem take_l29 {k f : Nat} {v : Int32} {x : Option Nat} (hN : 2000 ≤ N) (hk : k < 1000) (hf : f < 1024) (h6 : cI s 6 q = nI f) : wp (KOL_X9_take_29 N g H T N q v x (nI k) s) (KL_X9_take_29 N g H T N q v x (nI k) s) (fun z => ∃ r, z = (0, q, v, x, csArow s (q + 1) r) ∧ shf (cA s (q + 1)) f k 0 r) := by
  suffices L : wp (KOL_X9_take_29 N g H T N q v x (nI (k - 0)) (csArow s (q + 1) (cA s (q + 1)))) (KL_X9_take_29 N g H T N q v x (nI (k - 0)) (csArow s (q + 1) (cA s (q + 1)))) (fun z => ∃ r, z = (0, q, v, x, csArow s (q + 1) r) ∧ shf (cA s (q + 1)) f k 0 r) by
    have e : csArow s (q + 1) (cA s (q + 1)) = s := by
      unfold csArow
      have : up1 s.2.2.2.2.1 (q + 1) (cA s (q + 1)) = s.2.2.2.2.1 := by
        funext b
        unfold up1
        split
        · rename_i c
          rw [c]
          rfl
        · rfl
      rw [this]
    rw [e] at L
    exact L
  refine wp_loop (K := k) (fun j (r : Nat → Int32) => shf (cA s (q + 1)) f k (k - j) r) (fun n j r => KOL_X9_take_29 N g H T n q v x (nI (k - j)) (csArow s (q + 1) r)) (fun n j r => KL_X9_take_29 N g H T n q v x (nI (k - j)) (csArow s (q + 1) r)) (fun n j r hj hI ih => ?_) 0 N _ (by omega) (by omega) (fun l hl => by rw [if_neg (by omega)])
  unfold KOL_X9_take_29 KL_X9_take_29 KOB_X9_take_29 KB_X9_take_29
  have e6 : cI (csArow s (q + 1) r) 6 q = nI f := h6
  by_cases e : j = k
  · refine wp_pos (by rw [n_le0 (by omega)]; omega) ?_
    rw [show k - j = 0 by omega] at hI
    exact wp_fin trivial ⟨r, rfl, hI⟩
  rw [e6, n_add, n_sub (by omega), n_1023, n_1023, n_clamp (by omega), n_clamp (by omega), n_dec (by omega), csA_row, cA_same, row_row]
  refine wp_neg (by rw [n_le0 (by omega)]; omega) (wp_and ((n_in (by omega)).2 (by omega)) (wp_and ((n_in (by omega)).2 (by omega)) ?_))
  rw [show k - j - 1 = k - (j + 1) by omega]
  refine ih _ (fun l hl => ?_) (by omega)
  have a := hI (k - j - 1) (by omega)
  rw [if_neg (by omega)] at a
  by_cases c : l = k - j
  · rw [c, upd_same, if_pos (by omega), show f + (k - j) - 1 = f + (k - j - 1) by omega]
    exact a
  · rw [upd_other _ _ (by omega), hI l hl]
    by_cases d : k - j < l ∧ l ≤ k
    · rw [if_pos d, if_pos (by omega)]
    · rw [if_neg d, if_neg (by omega)]
theorem take_c {k : Nat} (hN : 2000 ≤ N) (h : cSkT s q fl ld t) (hk : k < fl.length) : wp (p_X9_take N g H T s q (nI k)) (k_X9_take N g H T s q (nI k)) (fun z => z.1 = some (ld k) ∧ ∃ f r, f < 1024 ∧ cI s 6 q = nI f ∧ shf (cA s (q + 1)) f k 0 r ∧ z.2 = csA (csI (csI (csArow (csP s (q + 6) (t k) none) (q + 1) r) 6 q (nI ((f + 1) % 1024))) 9 q (nI (fl.length - 1))) (q + 2) (fl.length - 1) (nI (t k))) := by
  obtain ⟨s1, s2⟩ := slot_c (N := N) (g := g) (H := H) (T := T) (x := nI k) h
  obtain ⟨h1, h2, ⟨f, f1, f2, f3⟩, h4, h5, h6, h7⟩ := h
  have sk : k_X9_slot N g H T s q (nI k) = nI (t k) := by
    rcases s2 with ⟨k', k1, k2, k3⟩ | ⟨k1, _⟩
    · rw [n_eq' (by omega) (by omega)] at k2
      rw [k3, k2]
    · exact absurd ⟨k, hk, rfl⟩ k1
  have tk := h5 k (by omega)
  show wp (KO_X9_take_0 N g H T q (nI k) s) (KF_X9_take_0 N g H T q (nI k) s) _
  unfold KO_X9_take_0 KF_X9_take_0
  rw [sk, n_clamp (by omega), (h7 k hk).2.2.2]
  refine wp_and s1 (wp_pos (by rw [show (0 : Int32) = nI 0 from rfl, n_le' (by omega) (by omega)]; omega) (wp_and ((n_in (by omega)).2 (by omega)) (wp_and ((n_in (by omega)).2 (by omega)) ?_)))
  have e6 : cI (csP s (q + 6) (t k) none) 6 q = nI f := f2
  refine wp_seq (take_l29 (x := some (ld k)) (v := nI (t k)) hN (by omega) f1 e6) ?_
  rintro z ⟨r, rfl, hr⟩
  unfold KOA_X9_take_29 KA_X9_take_29
  show wp (KO_X9_take_74 N g H T q (nI (t k)) (some (ld k)) (csArow (csP s (q + 6) (t k) none) (q + 1) r)) (KF_X9_take_74 N g H T q (nI (t k)) (some (ld k)) (csArow (csP s (q + 6) (t k) none) (q + 1) r)) _
  unfold KO_X9_take_74 KF_X9_take_74
  have e6' : cI (csArow (csP s (q + 6) (t k) none) (q + 1) r) 6 q = nI f := f2
  have e9 : ∀ v : Int32, cI (csI (csArow (csP s (q + 6) (t k) none) (q + 1) r) 6 q v) 9 q = nI fl.length := fun v => by
    rw [cI_other _ _ (Or.inl (by decide))]
    exact h1
  rw [e6', n_add, n_1023, e9, n_sub (by omega)]
  unfold KO_X9_take_98 KF_X9_take_98
  rw [cI_same, n_clamp (by omega)]
  exact wp_fin ⟨((n_in (by omega)).2 (by omega)), trivial⟩ ⟨rfl, f, r, f1, f2, hr, rfl⟩
/-- the slots after a take -/
def tkS (t : Nat → Nat) (n k j : Nat) : Nat := if j < k then t j else if j + 1 < n then t (j + 1) else if j + 1 = n then t k else t j
theorem take_sk {k f : Nat} {r : Nat → Int32} (h : cSkT s q fl ld t) (hk : k < fl.length) (f1 : f < 1024) (f2 : cI s 6 q = nI f) (hr : shf (cA s (q + 1)) f k 0 r) : cSkT (csA (csI (csI (csArow (csP s (q + 6) (t k) none) (q + 1) r) 6 q (nI ((f + 1) % 1024))) 9 q (nI (fl.length - 1))) (q + 2) (fl.length - 1) (nI (t k))) q (fl.eraseIdx k) (fun j => if j < k then ld j else ld (j + 1)) (tkS t fl.length k) := by
  obtain ⟨h1, h2, ⟨f', g1, g2, g3⟩, h4, h5, h6, h7⟩ := h
  have ff : f' = f := by
    rw [f2, n_eq' (by omega) (by omega)] at g2
    exact g2.symm
  subst ff
  have ll : (fl.eraseIdx k).length = fl.length - 1 := by rw [List.length_eraseIdx, if_pos hk]
  have aO : ∀ b, b ≠ q + 1 → b ≠ q + 2 → cA (csA (csI (csI (csArow (csP s (q + 6) (t k) none) (q + 1) r) 6 q (nI ((f' + 1) % 1024))) 9 q (nI (fl.length - 1))) (q + 2) (fl.length - 1) (nI (t k))) b = cA s b := fun b b1 b2 => by
    rw [cA_ne _ _ _ b2, cA_I, cA_I, cA_other _ _ b1]
    rfl
  have tS : ∀ j, j < fl.length - 1 → ∃ j', j' < fl.length ∧ j' ≠ k ∧ tkS t fl.length k j = t j' ∧ fg (fl.eraseIdx k) j = fg fl j' ∧ (if j < k then ld j else ld (j + 1)) = ld j' := fun j hj => by
    rw [fg_e]
    unfold tkS
    by_cases c : j < k
    · exact ⟨j, (by omega), (by omega), by rw [if_pos c], by rw [if_pos c], by rw [if_pos c]⟩
    · exact ⟨j + 1, (by omega), (by omega), by rw [if_neg c, if_pos (by omega)], by rw [if_neg c], by rw [if_neg c]⟩
  unfold cSkT
  rw [ll]
  refine ⟨?_, (by omega), ⟨(f' + 1) % 1024, Nat.mod_lt _ (by decide), ?_, fun j hj => ?_⟩, fun j hj hj2 => ?_, fun j hj => ?_, fun i j hi hj e => ?_, fun j hj => ?_⟩
  · show cI (csI (csI (csArow (csP s (q + 6) (t k) none) (q + 1) r) 6 q (nI ((f' + 1) % 1024))) 9 q (nI (fl.length - 1))) 9 q = _
    rw [cI_same]
  · show cI (csI (csI (csArow (csP s (q + 6) (t k) none) (q + 1) r) 6 q (nI ((f' + 1) % 1024))) 9 q (nI (fl.length - 1))) 6 q = _
    rw [cI_other _ _ (Or.inl (by decide)), cI_same]
  · rw [cA_ne _ _ _ (by omega), cA_I, cA_I, cA_same, show ((f' + 1) % 1024 + j) % 1024 = (f' + (j + 1)) % 1024 by omega, hr (j + 1) (by omega)]
    unfold tkS
    by_cases c : j < k
    · rw [if_pos (by omega), if_pos c, show f' + (j + 1) - 1 = f' + j by omega]
      exact g3 j (by omega)
    · rw [if_neg (by omega), if_neg c, if_pos (by omega)]
      exact g3 (j + 1) (by omega)
  · rw [cA_at]
    unfold tkS
    by_cases c : j = fl.length - 1
    · rw [if_pos c, if_neg (by omega), if_neg (by omega), if_pos (by omega)]
    · rw [if_neg c, if_neg (by omega), if_neg (by omega), if_neg (by omega), cA_I, cA_I, cA_other _ _ (by omega)]
      exact h4 j (by omega) hj2
  · unfold tkS
    split
    · exact h5 j hj
    · split
      · exact h5 (j + 1) (by omega)
      · split
        · exact h5 k (by omega)
        · exact h5 j hj
  · unfold tkS at e
    split at e <;> split at e <;> (try split at e) <;> (try split at e) <;> (try split at e) <;> (try split at e) <;> (have z := h6 _ _ (by omega) (by omega) e; omega)
  · obtain ⟨j', a1, a2, a3, a4, a5⟩ := tS j hj
    have a5' : (fun j => if j < k then ld j else ld (j + 1)) j = ld j' := a5
    rw [aO (q + 3) (by omega) (by omega), aO (q + 4) (by omega) (by omega), aO (q + 5) (by omega) (by omega), a3, a4, a5']
    obtain ⟨b1, b2, b3, b4⟩ := h7 j' a1
    refine ⟨b1, b2, b3, ?_⟩
    show cP (csP s (q + 6) (t k) none) (q + 6) (t j') = _
    rw [cP_at, if_neg (fun z => a2 (h6 j' k (by omega) (by omega) z))]
    exact b4
end
end

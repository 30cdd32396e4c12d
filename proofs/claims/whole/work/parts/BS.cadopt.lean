section
/-! THE CLASS'S NODE ADOPTS A BLOCK -/
section
variable {F N g H T n : Nat} {s s' : cS} {ct : Nat → List Nat} {hd : List Nat} {w w' W : Wd} {pe pe' : Nat → Int} {v v' v0 : Nat → Int} {y y' z z' : Nat → Nat → Option (List Nat)} {p : List (List Nat)} {x : Nat → Nat → Nat} {pn : Int} {a : Nat} {G : Gh}
/-- the rest of the world is the same -/
theorem CRz.cw (h : CRz F g H T s ct hd w pe n v y p x pn z) (hw : ∀ m, m ≠ n → wN w' m = wN w m ∧ wY w' m = wY w m ∧ wP w' m = wP w m ∧ wX w' m = wX w m) (hK : wK w' = wK w) (hT : wT w' = wT w) (hL : wL w' = wL w) : CRz F g H T s ct hd w' pe n v y p x pn z := by
  obtain ⟨c1, c2, c3, c4, c5, e1, e2, e3, e4, e5, e6, e7⟩ := h
  refine ⟨c1, c2, c3, c4, c5, e1, by rw [hK, hT]; exact e2, by rw [hL]; exact e3, e4, e5, fun m hm c => ?_, e7⟩
  obtain ⟨a1, a2, a3, a4⟩ := hw m c
  rw [a1, a2, a3, a4]
  exact e6 m hm c
/-- what stays where a message is held -/
theorem us_pl {e0 i0 : Nat} (hn : n < H) (he : e0 < 6) (hi : i0 < plN T e0) (S : cS) (e : cP S (nd g n + plO e0) i0 = some a) : 1 ≤ us g H T S hd a := by
  have := cnA_hr (g := g) (H := H) (T := T) (s := S) (e := e0) hn he hi e
  unfold us
  omega
/-- the payments of a block leave the pool -/
theorem adopt_66 {at_ e0 i0 J : Nat} {m : List Nat} {p0 : List (List Nat)} (hN : 200 ≤ N) (h : CRz F g H T s ct hd w pe n v y p0 x pn z) (hn : n < H) (he : e0 < 6) (hi : i0 < plN T e0) (hpl : cP s (nd g n + plO e0) i0 = some a) (hca : ct a = m) (ho : plO7 p0) (hnd : nDp p0) (hJ : J ≤ 64) (hl : at_ + 101 + 7 * J ≤ m.length) : wp (KOL_X7_adopt_66 N g H T N (some (nd g n)) (some a) (nI J) (nI 1) s) (KL_X7_adopt_66 N g H T N (some (nd g n)) (some a) (nI J) (nI 1) s) (fun Z => Z.2.1 = some (nd g n) ∧ CRz F g H T Z.2.2 ct hd w pe n v y (flL (fun q => ∃ i, i < J ∧ q = sl m (m.length - 7 * (i + 1)) 7) p0) x pn z ∧ cP Z.2.2 = cP s ∧ ∀ m, cI Z.2.2 5 (nd g m + 6) = cI s 5 (nd g m + 6)) := by
  refine wp_loop (K := J) (fun j (S : cS) => CRz F g H T S ct hd w pe n v y (flL (fun q => ∃ i, i < j ∧ q = sl m (m.length - 7 * (i + 1)) 7) p0) x pn z ∧ cP S = cP s ∧ ∀ m, cI S 5 (nd g m + 6) = cI s 5 (nd g m + 6)) (fun r j S => KOL_X7_adopt_66 N g H T r (some (nd g n)) (some a) (nI J) (nI (1 + j)) S) (fun r j S => KL_X7_adopt_66 N g H T r (some (nd g n)) (some a) (nI J) (nI (1 + j)) S) (fun r j S hj hI ih => ?_) 0 N s (by omega) (by omega) ⟨?_, rfl, fun _ => rfl⟩
  rotate_left
  · rw [flL_no p0 (fun q _ ⟨i, hi, _⟩ => absurd hi (by omega))]
    exact h
  obtain ⟨h1, h2, h3⟩ := hI
  unfold KOL_X7_adopt_66 KL_X7_adopt_66 KOB_X7_adopt_66 KB_X7_adopt_66
  by_cases e : j = J
  · refine wp_pos (by rw [n_lt' (by omega) (by omega)]; omega) (wp_fin trivial ⟨rfl, ?_, h2, h3⟩)
    rw [← e]
    exact h1
  have ms := h1.ms (us_pl (hd := hd) hn he hi S (by rw [h2]; exact hpl))
  rw [hca] at ms
  have lm := ms.2.2.2.1
  rw [zsome, zsome, ms.2.1, n_mul, n_sub (by omega)]
  obtain ⟨c1, c2⟩ := codeAt_ok (N := N) (g := g) (H := H) (T := T) (a := m.length - (1 + j) * 7) (by omega) ms.2.2.1 (by omega)
  have eX : sl m (m.length - (1 + j) * 7) 7 = sl m (m.length - 7 * (j + 1)) 7 := by
    congr 1
    omega
  rw [c2, eX]
  have rp := removePayment_Z (N := N) (c := sl m (m.length - 7 * (j + 1)) 7) (by omega) h1 hn (fun q hq => ho q (flL_mem _ hq)) (hnd.fl _) ⟨sl_len _ _ _, isB_mk fun i _ => ms.2.2.1.2.2.2 _⟩
  refine wp_neg (by rw [n_lt' (by omega) (by omega)]; omega) (wp_and someN (wp_and someN (wp_and c1 (wp_call rp (fun q => ?_)))))
  obtain ⟨q1, q2, q3, q4, q5⟩ := q
  generalize k_X8_removePayment N g H T S (nd g n + 14) (coD (sl m (m.length - 7 * (j + 1)) 7)) = S2 at q1 q2 q3 q4 q5 ⊢
  unfold KO_X7_adopt_96 KF_X7_adopt_96
  rw [n_add, show 1 + j + 1 = 1 + (j + 1) by omega]
  refine ih S2 ⟨?_, q2.trans h2, fun m => (q4 5 _ (by unfold nd; omega)).trans (h3 m)⟩ (by omega)
  rw [flL_2] at q1
  have ec : flL (fun q => ∃ i, i < j + 1 ∧ q = sl m (m.length - 7 * (i + 1)) 7) p0 = flL (fun q => q = sl m (m.length - 7 * (j + 1)) 7 ∨ ∃ i, i < j ∧ q = sl m (m.length - 7 * (i + 1)) 7) p0 := flL_cg p0 (fun q _ => by
    constructor
    · rintro ⟨i, i1, i2⟩
      by_cases d : i = j
      · exact Or.inl (by rw [i2, d])
      · exact Or.inr ⟨i, by omega, i2⟩
    · rintro (q1 | ⟨i, i1, i2⟩)
      · exact ⟨j, by omega, q1⟩
      · exact ⟨i, by omega, i2⟩)
  rw [ec]
  exact q1
end
end

section
/-! THE CLASS CLIMBS FROM A LEAF -/
section
variable {F N g H T n h d : Nat} {s s0 s1 S : cS} {w : Wd}
theorem cLf_nb (S : cS) (h q i : Nat) : nI (nb (cLf S h q i)) = cLf S h q i := by
  rw [← (nb_spec _).2]
  unfold cLf
  rw [Int32.and_assoc, Int32.and_self]
theorem step_c {m k e : Nat} (hd : d ≠ h + 4) (hm2 : 2 ≤ m) (hm : m ≤ 66) (hk : k < m) (hl : cL S d = 1024) (he : e ≤ 900) : wp (p_X2_step N g H T S h (nI k) (nI m) (some d) (nI e)) (k_X2_step N g H T S h (nI k) (nI m) (some d) (nI e)) (fun z => ∃ row, z = (nI (e + (ptS1 (cLf S h) m k).length), csArow S d row) ∧ (∀ i, i < (ptS1 (cLf S h) m k).length → row (e + i) &&& nI 255 = nI (bg (ptS1 (cLf S h) m k) i)) ∧ ∀ i, i < e → row i = cA S d i) := by
  have e32 : (nI 32).toNatClampNeg = 32 := rfl
  -- two of them stand there
  have two : ∀ (o b : Nat), o < 66 → b < 3 → ptS1 (cLf S h) m k = b :: lvB (cLf S h) o → wp (KO_X2_step_89 N g H T h (some d) (nI e) (nI o) (some d) (nI e) (nI b) S) (KF_X2_step_89 N g H T h (some d) (nI e) (nI o) (some d) (nI e) (nI b) S) (fun z => ∃ row, z = (nI (e + (ptS1 (cLf S h) m k).length), csArow S d row) ∧ (∀ i, i < (ptS1 (cLf S h) m k).length → row (e + i) &&& nI 255 = nI (bg (ptS1 (cLf S h) m k) i)) ∧ ∀ i, i < e → row i = cA S d i) := fun o b ho hb ep => by
    have lp : (ptS1 (cLf S h) m k).length = 33 := by
      rw [ep]
      show (lvB (cLf S h) o).length + 1 = 33
      unfold lvB
      rw [mkB_len]
    unfold KO_X2_step_89 KF_X2_step_89 KO_X2_step_110 KF_X2_step_110
    rw [zsome, n_mul, n_add, n_add, e32, n_clamp (by omega), n_clamp (by omega), n_clamp (by omega)]
    have lD : ∀ v, cL (csA S d e v) d = 1024 := fun _ => hl
    refine wp_fin ⟨⟨someN, by rw [hl]; exact ((n_in (by omega)).2 (by omega))⟩, ⟨someN, ⟨n_lt0 (by omega), n_lt0 (by omega), by decide⟩, by omega, by rw [lD]; omega⟩, trivial⟩ ⟨va_cpy (cA (csA S d e (((nI b).toInt8.toInt32).toInt8.toInt32)) (h + 4)) (cA (csA S d e (((nI b).toInt8.toInt32).toInt8.toInt32)) d) (o * 32) (e + 1) 32, ?_, fun i hi => ?_, fun i hi => ?_⟩
    · rw [lp]
      unfold csA
      rw [row_row]
    · rw [lp] at hi
      unfold va_cpy
      by_cases c : i = 0
      · rw [if_neg (by omega), c, show e + 0 = e from rfl, cA_at, if_pos rfl, ep]
        show ((nI b).toInt8.toInt32).toInt8.toInt32 &&& nI 255 = nI b
        rw [b88]
        exact sb_and b (by omega)
      · obtain ⟨j, rfl⟩ : ∃ j, i = j + 1 := ⟨i - 1, by omega⟩
        rw [if_pos (by omega), ep]
        show cA (csA S d e _) (h + 4) (o * 32 + (e + (j + 1) - (e + 1))) &&& nI 255 = nI (bg (lvB (cLf S h) o) j)
        unfold lvB
        rw [cA_ne _ _ _ (Ne.symm hd), mkB_in (by omega), cLf_nb, show o * 32 + (e + (j + 1) - (e + 1)) = 32 * o + j by omega]
        rfl
    · unfold va_cpy
      rw [if_neg (by omega), cA_at, if_neg (by omega)]
  have room : ¬ nI 1024 - nI 1 - nI 32 < nI e := by
    rw [n_sub (by decide), n_sub (by decide), n_lt' (by omega) (by omega)]
    omega
  -- the other one is there, or not
  have there : ∀ (x5 x6 : Int32) (o b : Nat), x6 = nI o → o < m → ((x5 = 0 ∧ b = 2) ∨ (¬ x5 = 0 ∧ b = 1)) → ptS1 (cLf S h) m k = b :: lvB (cLf S h) o → wp (KO_X2_step_28 N g H T h (nI k) (nI m) (some d) (nI e) x5 x6 S) (KF_X2_step_28 N g H T h (nI k) (nI m) (some d) (nI e) x5 x6 S) (fun z => ∃ row, z = (nI (e + (ptS1 (cLf S h) m k).length), csArow S d row) ∧ (∀ i, i < (ptS1 (cLf S h) m k).length → row (e + i) &&& nI 255 = nI (bg (ptS1 (cLf S h) m k) i)) ∧ ∀ i, i < e → row i = cA S d i) := fun x5 x6 o b e6 ho h5 ep => by
    unfold KO_X2_step_28 KF_X2_step_28
    rw [zsome, hl, e6]
    refine wp_neg (n_lt0 (by omega)) (wp_and someN (wp_neg room (wp_neg (n_lt0 (by omega)) (wp_pos (by rw [n_lt' (by omega) (by omega)]; exact hk) (wp_pos (by rw [n_lt' (by omega) (by omega)]; exact ho) ?_)))))
    rcases h5 with ⟨h5, rfl⟩ | ⟨h5, rfl⟩
    · exact wp_pos h5 (two o 2 (by omega) (by decide) ep)
    · exact wp_neg h5 (two o 1 (by omega) (by decide) ep)
  have none_ : ∀ (x5 x6 : Int32) (o : Nat), x6 = nI o → m ≤ o → o < 100 → ptS1 (cLf S h) m k = [0] → wp (KO_X2_step_28 N g H T h (nI k) (nI m) (some d) (nI e) x5 x6 S) (KF_X2_step_28 N g H T h (nI k) (nI m) (some d) (nI e) x5 x6 S) (fun z => ∃ row, z = (nI (e + (ptS1 (cLf S h) m k).length), csArow S d row) ∧ (∀ i, i < (ptS1 (cLf S h) m k).length → row (e + i) &&& nI 255 = nI (bg (ptS1 (cLf S h) m k) i)) ∧ ∀ i, i < e → row i = cA S d i) := fun x5 x6 o e6 ho ho2 ep => by
    unfold KO_X2_step_28 KF_X2_step_28
    rw [zsome, hl, e6, n_add, n_clamp (by omega), ep]
    refine wp_neg (n_lt0 (by omega)) (wp_and someN (wp_neg room (wp_neg (n_lt0 (by omega)) (wp_pos (by rw [n_lt' (by omega) (by omega)]; exact hk) (wp_neg (by rw [n_lt' (by omega) (by omega)]; omega) (wp_fin ⟨⟨someN, ((n_in (by omega)).2 (by omega))⟩, trivial⟩ ⟨_, rfl, fun i hi => ?_, fun i hi => ?_⟩))))))
    · have hi : i < 1 := hi
      rw [show i = 0 by omega, show e + 0 = e from rfl, upd_same]
      decide
    · rw [upd_other _ _ (by omega)]
  show wp (KO_X2_step_0 N g H T h (nI k) (nI m) (some d) (nI e) S) (KF_X2_step_0 N g H T h (nI k) (nI m) (some d) (nI e) S) _
  unfold KO_X2_step_0 KF_X2_step_0
  by_cases odd : k % 2 = 1
  · have go : ∀ x5 : Int32, x5 = nI 1 → wp (KO_X2_step_12 N g H T h (nI k) (nI m) (some d) (nI e) x5 S) (KF_X2_step_12 N g H T h (nI k) (nI m) (some d) (nI e) x5 S) (fun z => ∃ row, z = (nI (e + (ptS1 (cLf S h) m k).length), csArow S d row) ∧ (∀ i, i < (ptS1 (cLf S h) m k).length → row (e + i) &&& nI 255 = nI (bg (ptS1 (cLf S h) m k) i)) ∧ ∀ i, i < e → row i = cA S d i) := fun x5 h5 => by
      have n5 : ¬ x5 = 0 := by rw [h5]; decide
      unfold KO_X2_step_12 KF_X2_step_12
      refine wp_neg n5 (there x5 _ (k - 1) 1 (n_sub (by omega)) (by omega) (Or.inr ⟨n5, rfl⟩) ?_)
      unfold ptS1
      rw [if_neg (by omega), if_pos odd]
    exact wp_pos (by rw [n_and1, odd]) (go (nI 1) rfl)
  · have go : ∀ x5 : Int32, x5 = 0 → wp (KO_X2_step_12 N g H T h (nI k) (nI m) (some d) (nI e) x5 S) (KF_X2_step_12 N g H T h (nI k) (nI m) (some d) (nI e) x5 S) (fun z => ∃ row, z = (nI (e + (ptS1 (cLf S h) m k).length), csArow S d row) ∧ (∀ i, i < (ptS1 (cLf S h) m k).length → row (e + i) &&& nI 255 = nI (bg (ptS1 (cLf S h) m k) i)) ∧ ∀ i, i < e → row i = cA S d i) := fun x5 h5 => by
      unfold KO_X2_step_12 KF_X2_step_12
      refine wp_pos h5 ?_
      by_cases c : k + 1 < m
      · refine there x5 _ (k + 1) 2 (n_add _ _) c (Or.inl ⟨h5, rfl⟩) ?_
        unfold ptS1
        rw [if_neg (by omega), if_neg odd]
      · refine none_ x5 _ (k + 1) (n_add _ _) (by omega) (by omega) ?_
        unfold ptS1
        rw [if_pos (by omega)]
    exact wp_neg (by rw [n_and1, n_eq' (by omega) (by omega)]; omega) (go (nI 0) rfl)
theorem climb_l {x3 : Int32} (hN : 1200 ≤ N) (hdn : ¬ isH h d) : ∀ (j m n : Nat) (S : cS) (k e : Nat), m ≤ 2 ^ j → m ≤ 66 → m < n → hL S h → k < m → e + 33 * j ≤ 900 → cL S d = 1024 → wp (KOL_X2_climb_12 N g H T n h (some d) x3 (nI k) (nI e) (nI m) S) (KL_X2_climb_12 N g H T n h (some d) x3 (nI k) (nI e) (nI m) S) (fun z => z = (0, x3, nI (e + (pthL (cLf S h) m k).length), z.2.2.2) ∧ cfr (fun a => isH h a ∨ a = d) S z.2.2.2 ∧ (∀ i, i < (pthL (cLf S h) m k).length → cA z.2.2.2 d (e + i) &&& nI 255 = nI (bg (pthL (cLf S h) m k) i)) ∧ (∀ i, i < e → cA z.2.2.2 d i = cA S d i) ∧ (pthL (cLf S h) m k).length ≤ 33 * j) := by
  intro j
  induction j with
  | zero =>
    intro m n S k e hm h66 hn hh hk he hl
    obtain ⟨n, rfl⟩ := exs (show 0 < n by omega)
    have h1 : m ≤ 1 := by simpa using hm
    rw [pthL_lo h1]
    unfold KOL_X2_climb_12 KL_X2_climb_12 KOB_X2_climb_12 KB_X2_climb_12
    exact wp_pos (by rw [n_le' (by omega) (by omega)]; exact h1) (wp_fin trivial ⟨rfl, cfr.refl, fun i hi => absurd hi (by simp), fun _ _ => rfl, by simp⟩)
  | succ j ih =>
    intro m n S k e hm h66 hn hh hk he hl
    obtain ⟨n, rfl⟩ := exs (show 0 < n by omega)
    by_cases h1 : m ≤ 1
    · rw [pthL_lo h1]
      unfold KOL_X2_climb_12 KL_X2_climb_12 KOB_X2_climb_12 KB_X2_climb_12
      exact wp_pos (by rw [n_le' (by omega) (by omega)]; exact h1) (wp_fin trivial ⟨rfl, cfr.refl, fun i hi => absurd hi (by simp), fun _ _ => rfl, by simp⟩)
    · have d4 : d ≠ h + 4 := fun z => hdn (by unfold isH; omega)
      unfold KOL_X2_climb_12 KL_X2_climb_12 KOB_X2_climb_12 KB_X2_climb_12
      refine wp_neg (by rw [n_le' (by omega) (by omega)]; exact h1) (wp_neg (n_lt0 (by omega)) (wp_call (step_c (N := N) (g := g) (H := H) (T := T) d4 (by omega) h66 hk hl (by omega)) (fun q => ?_)))
      obtain ⟨row, q1, q2, q3⟩ := q
      rw [q1]
      show wp (KO_X2_climb_34 N g H T (KOL_X2_climb_12 N g H T n) h (some d) x3 (nI k) (nI m) (nI (e + (ptS1 (cLf S h) m k).length)) (csArow S d row)) (KF_X2_climb_34 N g H T (KL_X2_climb_12 N g H T n) h (some d) x3 (nI k) (nI m) (nI (e + (ptS1 (cLf S h) m k).length)) (csArow S d row)) _
      have f1 : cfr (fun a => a = d) S (csArow S d row) := cfr_A _ _ _
      have lf : ∀ i c, cLf (csArow S d row) h i c = cLf S h i c := fun i c => by
        unfold cLf
        rw [cA_other _ _ (Ne.symm d4)]
      have hd1 : cA (csArow S d row) d = row := cA_same _ _ _
      have hh1 : hL (csArow S d row) h := hh.fr f1
      have hl1 : cL (csArow S d row) d = 1024 := hl
      have lp : (ptS1 (cLf S h) m k).length ≤ 33 := by
        unfold ptS1
        split
        · decide
        · split <;> (show (lvB _ _).length + 1 ≤ 33; unfold lvB; rw [mkB_len]; omega)
      generalize csArow S d row = S0 at f1 lf hd1 hh1 hl1 ⊢
      obtain ⟨a1, S1, a2, a3, a4, a5⟩ := turn1 (N := N) (g := g) (H := H) (T := T) (h := h) (S0 := S0) (m := m) (x2 := some d) (x3 := x3) (x4 := nI (k / 2)) (x5 := nI (e + (ptS1 (cLf S h) m k).length)) hN hh1 h66
      obtain ⟨S2, b1, b2, b3, b4, b5⟩ := turn2 (N := N) (g := g) (H := H) (T := T) (h := h) (S0 := S0) (m := m) hh1 h66 (by omega) (rec := KL_X2_climb_12 N g H T n) (rok := KOL_X2_climb_12 N g H T n) (x2 := some d) (x3 := x3) (x4 := nI (k / 2)) (x5 := nI (e + (ptS1 (cLf S h) m k).length)) S1 a3 a4 a5
      have e2 : 2 ^ (j + 1) = 2 * 2 ^ j := by rw [Nat.pow_succ]; omega
      have rc_ := ih ((m + 1) / 2) n S2 (k / 2) (e + (ptS1 (cLf S h) m k).length) (by omega) (by omega) (by omega) (hh1.fr b3) (by omega) (by omega) (by rw [b3.L]; exact hl1)
      have ep : pthL (cLf S2 h) ((m + 1) / 2) (k / 2) = pthL (nextL (cLf S h) m) ((m + 1) / 2) (k / 2) := by
        refine pthL_congr _ _ _ _ (by omega) (fun i c hi hc => ?_)
        rw [b5 i c hi hc]
        congr 1
        exact funext fun i => funext fun c => lf i c
      rw [ep] at rc_
      rw [pthL_hi h1]
      unfold KO_X2_climb_34 KF_X2_climb_34 KO_X2_climb_42 KF_X2_climb_42
      rw [n_div' (by omega) (by omega)]
      obtain ⟨r1, r2⟩ := rc_
      refine ⟨⟨a1, ?_⟩, ?_⟩
      · rw [a2]
        exact b1 r1
      · rw [a2]
        have eA : KA_X2_climb_45 N g H T (KL_X2_climb_12 N g H T n) h (some d) x3 (nI (k / 2)) (nI (e + (ptS1 (cLf S h) m k).length)) (nI m) (nI 0) S0 (0, h, some d, x3, nI (k / 2), nI (e + (ptS1 (cLf S h) m k).length), nI m, S1) = KL_X2_climb_12 N g H T n h (some d) x3 (nI (k / 2)) (nI (e + (ptS1 (cLf S h) m k).length)) (nI ((m + 1) / 2)) S2 := b2
        rw [eA]
        obtain ⟨r2, r3, r4, r5, r6⟩ := r2
        have ll : (ptS1 (cLf S h) m k ++ pthL (nextL (cLf S h) m) ((m + 1) / 2) (k / 2)).length = (ptS1 (cLf S h) m k).length + (pthL (nextL (cLf S h) m) ((m + 1) / 2) (k / 2)).length := List.length_append
        generalize KL_X2_climb_12 N g H T n h (some d) x3 (nI (k / 2)) (nI (e + (ptS1 (cLf S h) m k).length)) (nI ((m + 1) / 2)) S2 = Z at r2 r3 r4 r5 ⊢
        have A2 : cA S2 d = row := by rw [b3.A d hdn, hd1]
        refine ⟨?_, ((f1.mono (fun a z => Or.inr z)).trans (b3.mono (fun a z => Or.inl z))).trans r3, fun i hi => ?_, fun i hi => ?_, by omega⟩
        · rw [ll, ← Nat.add_assoc]
          exact r2
        · by_cases c : i < (ptS1 (cLf S h) m k).length
          · rw [r5 (e + i) (by omega), A2, q2 i c, bg_app, if_pos c]
          · have := r4 (i - (ptS1 (cLf S h) m k).length) (by omega)
            rw [show e + (ptS1 (cLf S h) m k).length + (i - (ptS1 (cLf S h) m k).length) = e + i by omega] at this
            rw [this, bg_app, if_neg c]
        · rw [r5 i (by omega), A2, q3 i hi]
/-- the way from a leaf to the root is laid down -/
theorem climb_c {m k e : Nat} (hN : 1200 ≤ N) (hdn : ¬ isH h d) (hh : hL S h) (hm : m ≤ 66) (h5 : cI S 5 h = nI m) (hk : k < m) (he : e ≤ 6) (hl : cL S d = 1024) : wp (p_X2_climb N g H T S h (nI k) (some d) (nI e)) (k_X2_climb N g H T S h (nI k) (some d) (nI e)) (fun z => z.1 = nI (pthL (cLf S h) m k).length ∧ cfr (fun a => isH h a ∨ a = d) S z.2 ∧ (∀ i, i < (pthL (cLf S h) m k).length → cA z.2 d (e + i) &&& nI 255 = nI (bg (pthL (cLf S h) m k) i)) ∧ (∀ i, i < e → cA z.2 d i = cA S d i) ∧ (pthL (cLf S h) m k).length ≤ 231) := by
  show wp (KO_X2_climb_0 N g H T h (nI k) (some d) (nI e) S) (KF_X2_climb_0 N g H T h (nI k) (some d) (nI e) S) _
  unfold KO_X2_climb_0 KF_X2_climb_0
  rw [h5]
  refine wp_seq (climb_l (g := g) (H := H) (T := T) (x3 := nI e) hN hdn 7 m N S k e (by omega) hm (by omega) hh hk (by omega) hl) (fun Z hZ => ?_)
  obtain ⟨z1, z2, z3, z4, z5⟩ := hZ
  unfold KOA_X2_climb_12 KA_X2_climb_12 KO_X2_climb_152 KF_X2_climb_152
  refine wp_fin trivial ⟨?_, z2, z3, z4, by omega⟩
  show Z.2.2.1 - Z.2.1 = _
  rw [z1, n_sub (by omega)]
  congr 1
  omega
end
end

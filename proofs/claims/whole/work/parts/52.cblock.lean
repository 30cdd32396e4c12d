section
/-! THE CLASS'S TREE OVER A BLOCK'S PARTS; blocks that are well formed -/
theorem St.b8 {u g H T : Nat} {s : cS} (h : St u g H T s) {r : Nat} (hr : cK s r = 20) (i : Nat) : (cA s r i).toInt8.toInt32 = cA s r i := h.2.2.2.2.2.2.2.2.2.2 r hr i
theorem St.sb {u g H T : Nat} {s : cS} (h : St u g H T s) {r i x : Nat} (hr : cK s r = 20) (hx : x < 256) (e : cA s r i &&& nI 255 = nI x) : cA s r i = sb x := by
  rw [sb_nb (h.b8 hr i)]
  congr 1
  unfold nb
  rw [e]
  exact n_clamp (by omega)
def ptP (b : List Nat) (j : Nat) : Nat := if j < bg b 100 then evP b j else pyP b (j - bg b 100)
def ptS (b : List Nat) (j : Nat) : Nat := if j < bg b 100 then evSz b (evP b j) else 7
theorem ptP_succ (b : List Nat) (j : Nat) : ptP b (j + 1) = ptP b j + ptS b j := by
  unfold ptP ptS pyP
  by_cases c : j < bg b 100
  · by_cases c2 : j + 1 < bg b 100
    · rw [if_pos c2, if_pos c, if_pos c]; rfl
    · rw [if_neg c2, if_pos c, if_pos c, ← show j + 1 = bg b 100 by omega]
      show evP b j + evSz b (evP b j) + 7 * (j + 1 - (j + 1)) = _
      omega
  · rw [if_neg (by omega), if_neg c, if_neg c]
    omega
theorem ptP_le (b : List Nat) : ∀ d j, j + d = bg b 100 + bg b 99 → ptP b j ≤ pyP b (bg b 99)
  | 0, j, h => by
    unfold ptP pyP
    by_cases c : j < bg b 100
    · omega
    · rw [if_neg c]; omega
  | d + 1, j, h => by
    have := ptP_le b d (j + 1) (by omega)
    rw [ptP_succ] at this
    omega
theorem pg_app (a b : List (List Nat)) (p : Nat) : pg (a ++ b) p = if p < a.length then pg a p else pg b (p - a.length) := by
  unfold pg
  by_cases h : p < a.length
  · simp [h, List.getElem?_append_left]
  · simp [h, List.getElem?_append_right (by omega : a.length ≤ p)]
theorem pg_parts (b : List Nat) {j : Nat} (h : j < bg b 100 + bg b 99) : pg (partsB b) j = sl b (ptP b j) (ptS b j) := by
  unfold partsB
  rw [pg_app, evL_len]
  unfold ptP ptS
  by_cases c : j < bg b 100
  · rw [if_pos c, if_pos c, if_pos c]
    unfold evL
    rw [pg_map, if_pos c]
  · rw [if_neg c, if_neg c, if_neg c]
    unfold pyL
    rw [pg_map, if_pos (by omega)]
theorem ptS_le (b : List Nat) (j : Nat) : 7 ≤ ptS b j ∧ ptS b j ≤ 71 := by
  unfold ptS
  have := evSz_le b (evP b j)
  by_cases c : j < bg b 100
  · rw [if_pos c]; omega
  · rw [if_neg c]; omega
section
variable {N g H T r a : Nat} {s : cS} {R b : List Nat}
/-- a block b stands in row r from place a on, and its parts stand whole -/
def atR (s : cS) (r a : Nat) (R b : List Nat) : Prop := cB s r R ∧ R.length = cL s r ∧ a + b.length ≤ R.length ∧ (∀ i, i < b.length → bg R (a + i) = bg b i) ∧ 101 ≤ b.length ∧ bg b 100 ≤ 2 ∧ bg b 99 ≤ 64 ∧ pyP b (bg b 99) ≤ b.length ∧ ∀ k, k < bg b 100 → evC R (a + evP b k) R.length = evSz b (evP b k)
theorem cB.fr {P : Nat → Prop} {s s' : cS} {r : Nat} {b : List Nat} (h : cB s r b) (hf : cfr P s s') (hr : ¬ P r) : cB s' r b := by
  unfold cB
  rw [hf.L, hf.A r hr]
  exact h
theorem plant_ok {h : Nat} (hN : 1200 ≤ N) (hh : hL s h) (hr : ¬ isH h r) (hb : atR s r a R b) : wp (p_X2_plant N g H T s h (some r) (nI a)) (k_X2_plant N g H T s h (some r) (nI a)) (fun s' => cfr (isH h) s s' ∧ cI s' 5 h = nI (partsB b).length ∧ ∀ p k, p < (partsB b).length → k < 32 → cLf s' h p k = lfP (partsB b) p k) := by
  obtain ⟨hR, hRl, hl, hc, h101, h100, h99, hend, hev⟩ := hb
  have r1 := hR.1
  have r2 := hR.2.1
  have hc0 : ∀ i, i < b.length → cA s r (nI (a + i)).toNatClampNeg &&& nI 255 = nI (bg b i) := fun i hi => by rw [hR.an (a := a + i) (by omega), hc i hi]
  have lp := partsB_len b
  have rne : r ≠ h ∧ r ≠ h + 1 := by unfold isH at hr; omega
  show wp (KO_X2_plant_0 N g H T h (some r) (nI a) s) (KF_X2_plant_0 N g H T h (some r) (nI a) s) _
  unfold KO_X2_plant_0 KF_X2_plant_0
  have f0 : cfr (isH h) s (csI s 5 h (nI 0)) := (cfr_I s 5 h (nI 0)).mono (fun x z => by subst z; unfold isH; omega)
  have s50 : cI (csI s 5 h (nI 0)) 5 h = nI 0 := cI_same _ _ _ _
  have hh0 := hh.fr f0
  generalize csI s 5 h (nI 0) = s0 at f0 s50 hh0 ⊢
  have hR0 := hR.fr f0 hr
  rw [zsome r, f0.L r, f0.A r hr]
  simp only [n_add]
  rw [hc0 100 (by omega), hc0 99 (by omega), n_add]
  refine wp_neg (n_lt0 (by omega)) (wp_and someN (wp_pos (by rw [n_sub (by omega), n_le' (by omega) (by omega)]; omega) (wp_and ⟨someN, ((n_in (by omega)).2 (by omega))⟩ (wp_and ⟨someN, ((n_in (by omega)).2 (by omega))⟩ ?_))))
  refine wp_seq (Q := fun z : Nat × cS => cfr (isH h) s z.2 ∧ cI z.2 5 h = nI (partsB b).length ∧ ∀ p k, p < (partsB b).length → k < 32 → cLf z.2 h p k = lfP (partsB b) p k) ?_ (fun z hz => wp_fin trivial hz)
  have z0 : ptP b 0 = 101 := by
    unfold ptP pyP
    by_cases c : 0 < bg b 100
    · rw [if_pos c]; rfl
    · rw [if_neg c, show bg b 100 = 0 by omega]; rfl
  rw [← z0]
  refine wp_loop (K := bg b 100 + bg b 99) (fun j s' => cfr (isH h) s s' ∧ cI s' 5 h = nI j ∧ ∀ p k, p < j → k < 32 → cLf s' h p k = lfP (partsB b) p k) (fun n j s' => KOL_X2_plant_53 N g H T n h (some r) (nI (bg b 100)) (nI (bg b 100 + bg b 99)) (nI (a + ptP b j)) (nI j) s') (fun n j s' => KL_X2_plant_53 N g H T n h (some r) (nI (bg b 100)) (nI (bg b 100 + bg b 99)) (nI (a + ptP b j)) (nI j) s') (fun n j s' hj hI ih => ?_) 0 N s0 (by omega) (by omega) ⟨f0, s50, fun p k hp => absurd hp (by omega)⟩
  unfold KOL_X2_plant_53 KL_X2_plant_53 KOB_X2_plant_53 KB_X2_plant_53
  by_cases e : j = bg b 100 + bg b 99
  · refine wp_pos (by rw [n_le' (by omega) (by omega)]; omega) ?_
    refine wp_fin trivial ?_
    rw [lp, ← e]
    exact hI
  · have pj := ptP_le b (bg b 100 + bg b 99 - (j + 1)) (j + 1) (by omega)
    rw [ptP_succ] at pj
    have sj := ptS_le b j
    have hRs := hR.fr hI.1 hr
    have hLs : cL s' r = cL s r := hI.1.L r
    refine wp_neg (by rw [n_le' (by omega) (by omega)]; omega) (wp_neg (by rw [n_le' (by omega) (by omega)]; omega) ?_)
    have key : wp (KO_X2_plant_86 N g H T (KOL_X2_plant_53 N g H T n) h (some r) (nI (bg b 100)) (nI (bg b 100 + bg b 99)) (nI (a + ptP b j)) (nI j) (nI (ptS b j)) s') (KF_X2_plant_86 N g H T (KL_X2_plant_53 N g H T n) h (some r) (nI (bg b 100)) (nI (bg b 100 + bg b 99)) (nI (a + ptP b j)) (nI j) (nI (ptS b j)) s') (fun z : Nat × cS => cfr (isH h) s z.2 ∧ cI z.2 5 h = nI (partsB b).length ∧ ∀ p k, p < (partsB b).length → k < 32 → cLf z.2 h p k = lfP (partsB b) p k) := by
      obtain ⟨S1, S2, S3, ⟨o1, e1⟩, ⟨o2, e2⟩, ⟨o3, e3⟩, o4, f4, l4, i4⟩ := leaf1 (N := N) (g := g) (H := H) (T := T) (h := h) (S0 := s') (r := r) (a := a + ptP b j) (b := a + ptP b j + ptS b j) (j := j) hN (hh.fr hI.1) (by omega) rne.2 (by omega) (by rw [hLs]; omega) (by rw [hLs]; omega) (by omega)
      unfold KO_X2_plant_86 KF_X2_plant_86
      rw [e1]
      refine wp_and o1 ?_
      unfold KO_X2_plant_92 KF_X2_plant_92
      rw [e2]
      refine wp_and o2 ?_
      unfold KO_X2_plant_97 KF_X2_plant_97
      rw [n_add, e3]
      refine wp_and o3 ?_
      unfold KO_X2_plant_109 KF_X2_plant_109
      rw [n_mul, Nat.mul_comm j 32]
      refine wp_and o4 ?_
      unfold KO_X2_plant_122 KF_X2_plant_122
      rw [i4, hI.2.1]
      simp only [n_add]
      generalize k_X2_close N g H T S3 h (some (h + 4)) (nI (32 * j)) = s2 at f4 l4 i4 ⊢
      have := ih (csI s2 5 h (nI (j + 1))) ⟨(hI.1.trans f4).trans ((cfr_I _ _ _ _).mono (fun x z => by subst z; unfold isH; omega)), cI_same _ _ _ _, fun p k hp hk => ?_⟩ (by omega)
      · rw [ptP_succ, ← Nat.add_assoc] at this
        exact this
      · show cLf s2 h p k = _
        rw [l4 p k hk]
        by_cases e2 : p = j
        · rw [if_pos e2, e2]
          have ep := pg_parts b (j := j) (by omega)
          refine lfP_leafV (by rw [ep, sl_len]; omega) (fun i hi => ?_) hk
          have hi2 : i < ptS b j := by omega
          rw [ep, sl_in hi2, hI.1.A r hr, ← hc0 _ (by omega : ptP b j + i < b.length), n_clamp (by omega), Nat.add_assoc]
        · rw [if_neg e2]
          exact hI.2.2 p k (by omega) hk
    by_cases c : bg b 100 ≤ j
    · have : ptS b j = 7 := by unfold ptS; rw [if_neg (by omega)]
      rw [this] at key
      exact wp_pos (by rw [n_le' (by omega) (by omega)]; omega) key
    · have hs : ptS b j = evSz b (evP b j) := by unfold ptS; rw [if_pos (by omega)]
      have hp : ptP b j = evP b j := by unfold ptP; rw [if_pos (by omega)]
      have hv := hev j (by omega)
      rw [← hp] at hv
      obtain ⟨u1, u2⟩ := evidenceSize_ok (N := N) (g := g) (H := H) (T := T) (a := a + ptP b j) (e := R.length) hRs (Nat.le_refl _) (by omega)
      rw [zsome r, hLs, ← hRl, u2, hv, hp, ← hs, iI_n, ← hp]
      exact wp_neg (by rw [n_le' (by omega) (by omega)]; omega) (wp_and someN (wp_and u1 key))
theorem top_ok {h d at_ m : Nat} (hN : 2100 ≤ N) (hh : hL s h) (h5 : cI s 5 h = nI m) (hm : m < 1000) (hd : d ≠ h + 4) (hat : at_ + 32 ≤ cL s d) (h31 : cL s d < 2000) : wp (p_X2_top N g H T s h (some d) (nI at_)) (k_X2_top N g H T s h (some d) (nI at_)) (fun s' => ∃ row, s' = csArow s d row ∧ (∀ i, i < 32 → row (at_ + i) &&& nI 255 = if m = 0 then nI 0 else cLf s h 0 i) ∧ ∀ i, i < at_ ∨ at_ + 32 ≤ i → row i = cA s d i) := by
  show wp (KO_X2_top_0 N g H T h (some d) (nI at_) s) (KF_X2_top_0 N g H T h (some d) (nI at_) s) _
  unfold KO_X2_top_0 KF_X2_top_0
  rw [zsome d, h5]
  refine wp_neg (n_lt0 (by omega)) (wp_and someN (wp_pos (by rw [n_sub (by omega), n_le' (by omega) (by omega)]; omega) (wp_ite (fun c => ?_) (fun c => ?_)))) <;> rw [n_eq0 (by omega)] at c
  · rw [n_add]
    obtain ⟨a1, t, a2, a3, a4⟩ := fill_ok (N := N) (g := g) (H := H) (T := T) (S := s) (r := d) (l := at_) (e := at_ + 32) (by omega) (by omega) hat (by omega)
    refine wp_and a1 (wp_fin trivial ?_)
    refine ⟨t, a2, fun i hi => ?_, fun i hi => a4 i hi⟩
    rw [if_pos c, a3 _ (by omega) (by omega)]
    decide
  · rw [n_clamp (by omega), n_clamp (by omega), n_clamp (by omega)]
    refine wp_and ⟨someN, ⟨by decide, n_lt0 (by omega), by decide⟩, (by omega), hat⟩ (wp_fin trivial ⟨_, rfl, fun i hi => ?_, fun i hi => ?_⟩)
    · unfold va_cpy
      rw [if_pos (by omega), if_neg c]
      unfold cLf
      congr 2
      omega
    · unfold va_cpy
      rw [if_neg (by omega)]
end
end

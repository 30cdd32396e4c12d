section
/-! THE CLASS'S SHELF HOLDS A MESSAGE -/
/-- one place of what is held is filled -/
def zf (z : Nat → Nat → Option (List Nat)) (f i : Nat) (m : List Nat) : Nat → Nat → Option (List Nat) := fun f' i' => if f' = f ∧ i' = i then some m else z f' i'
/-- a PROPOSAL or vote that can be held -/
def hoM (T : Nat) (m : List Nat) : Prop := (bg m 0 = 1 ∨ ((bg m 0 = 2 ∨ bg m 0 = 3) ∧ m.length ≤ 128)) ∧ bg m 1 < T ∧ bg m 4 < 16 ∧ 6 ≤ m.length
/-- where it is held -/
def hoF (m : List Nat) : Nat := if bg m 0 = 1 then 4 else 5
def hoI (m : List Nat) : Nat := if bg m 0 = 1 then 16 * (tw m 2 % 2) + bg m 4 else vq (bg m 0 - 2) (tw m 2 % 2) (bg m 4) (bg m 1)
/-- what is held then -/
def hoZ (z : Nat → Nat → Option (List Nat)) (m : List Nat) : Nat → Nat → Option (List Nat) := match z (hoF m) (hoI m) with
  | none => zf z (hoF m) (hoI m) m
  | some _ => z
section
variable {F N g H T n : Nat} {s s' s1 s2 : cS} {ct ct' : Nat → List Nat} {hd : List Nat} {w : Wd} {pe : Nat → Int} {v : Nat → Int} {y z : Nat → Nat → Option (List Nat)} {p : List (List Nat)} {x : Nat → Nat → Nat} {pn : Int} {a i f : Nat} {m : List Nat}
theorem zf_o {f' i' : Nat} (h : f' ≠ f ∨ i' ≠ i) : zf z f i m f' i' = z f' i' := by
  unfold zf
  rw [if_neg (by omega)]
theorem zf_s : zf z f i m f i = some m := by
  unfold zf
  rw [if_pos ⟨rfl, rfl⟩]
theorem hold_eq (S : cS) (r i k b c j : Nat) (xo : Option Nat) (u t : Int32) : csA (csI (csP S r i xo) k b u) c j t = csP (csI (csA S c j t) k b u) r i xo := rfl
theorem page_ok {S : cS} {a0 h r : Nat} (hr : r < 16) : p_X8_page N g H T S a0 (nI h) (nI r) ∧ k_X8_page N g H T S a0 (nI h) (nI r) = nI (16 * (h % 2) + r) := by
  show wp (KO_X8_page_0 N g H T (nI h) (nI r) S) (KF_X8_page_0 N g H T (nI h) (nI r) S) (fun q => q = nI (16 * (h % 2) + r))
  unfold KO_X8_page_0 KF_X8_page_0 KO_X8_page_22 KF_X8_page_22
  refine wp_neg (n_lt0 (by omega)) (wp_pos (by rw [n_lt' (by omega) (by omega)]; omega) (wp_fin trivial ?_))
  rw [n_and1, n_mul, n_add, show h % 2 * 16 + r = 16 * (h % 2) + r by omega]
theorem ballots_ok {S : cS} {a0 P k : Nat} (hT : cI S 1 a0 = nI T) (hk : k = 2 ∨ k = 3) : p_X8_ballots N g H T S a0 (nI P) (nI k) ∧ k_X8_ballots N g H T S a0 (nI P) (nI k) = nI ((2 * P + (k - 2)) * T) := by
  show wp (KO_X8_ballots_0 N g H T a0 (nI P) (nI k) S) (KF_X8_ballots_0 N g H T a0 (nI P) (nI k) S) (fun q => q = nI ((2 * P + (k - 2)) * T))
  unfold KO_X8_ballots_0 KF_X8_ballots_0 KO_X8_ballots_13 KF_X8_ballots_13
  rw [hT]
  rcases hk with rfl | rfl
  · refine wp_pos rfl (wp_fin trivial ?_)
    rw [n_mul, n_add, n_mul]
  · refine wp_neg (by decide) (wp_fin trivial ?_)
    rw [n_mul, n_add, n_mul]
theorem hold_77 {e j : Nat} (hN : 10 ≤ N) (h : CRz F g H T s ct hd w pe n v y p x pn z) (hn : n < H) (hl : hd.length ≤ 30) (hT : T ≤ 13) (ha : 1 ≤ us g H T s hd a) (hm : hoM T (ct a)) (h4 : cI s 4 a = nI 1) (he : (e = 0 ∧ bg (ct a) 0 = 1 ∧ j = 16 * (tw (ct a) 2 % 2) + bg (ct a) 4) ∨ (e = 1 ∧ bg (ct a) 0 ≠ 1 ∧ j = vqC T (bg (ct a) 0 - 2) (tw (ct a) 2 % 2) (bg (ct a) 4) (bg (ct a) 1))) : wp (KO_X8_hold_77 N g H T (nd g n + 14) (some a) (some (nd g n + plO e)) (nI j) s) (KF_X8_hold_77 N g H T (nd g n + 14) (some a) (some (nd g n + plO e)) (nI j) s) (fun s' => CRz F g H T s' ct hd w pe n v y p x pn (hoZ z (ct a)) ∧ cA s' (nd g n + 16) = cA s (nd g n + 16) ∧ (∀ b, cI s' 4 b = cI s 4 b)) := by
  have q17 : nd g n + 14 + 3 = nd g n + 17 := rfl
  obtain ⟨hk, hs, hr, h6⟩ := hm
  have ms := h.ms ha
  have k5 := h.2.2.2.1.k ha
  have la := h.2.2.2.1.n k5
  have cz := h.nz
  obtain ⟨c7, c7b, c7c, c7d⟩ := cz.2.2.2.2.2.2.1
  have e2 : e = 0 ∨ e = 1 := by omega
  have jl : j < plN T e := by
    rcases he with ⟨rfl, -, rfl⟩ | ⟨rfl, h1, rfl⟩
    · show 16 * (tw (ct a) 2 % 2) + bg (ct a) 4 < 32
      omega
    · exact vqC_lt (by omega) (by omega) hr hs
  have j31 : j < 1000 := by
    have : plN T e ≤ 832 := by
      rcases e2 with rfl | rfl
      · show 32 ≤ 832
        decide
      · show 64 * T ≤ 832
        omega
    omega
  have L : cL s (nd g n + plO e) = plN T e := by
    rcases e2 with rfl | rfl
    · exact h.2.1.rl (o53 (isO5 hn)) (k := 2) rfl (by omega) (by omega)
    · exact h.2.1.rl (o53 (isO5 hn)) (k := 4) rfl (by omega) (by omega)
  have cell : (cP s (nd g n + plO e) j).map ct = z (hoF (ct a)) (hoI (ct a)) := by
    unfold hoF hoI
    rcases he with ⟨rfl, h1, rfl⟩ | ⟨rfl, h1, rfl⟩
    · rw [if_pos h1, if_pos h1]
      exact c7 _ (by omega)
    · rw [if_neg h1, if_neg h1]
      exact c7b _ _ _ _ (by omega) (by omega) hr hs
  unfold KO_X8_hold_77 KF_X8_hold_77
  rw [zsome, zsome, n_clamp (by omega), L]
  refine wp_and ⟨someN, ((n_in (by omega)).2 (by omega))⟩ ?_
  cases ec : cP s (nd g n + plO e) j with
  | some b =>
    rw [ec] at cell
    have : hoZ z (ct a) = z := by
      unfold hoZ
      rw [← cell]
      rfl
    rw [this]
    exact wp_neg someN (wp_fin trivial ⟨h, rfl, fun _ => rfl⟩)
  | none =>
    rw [ec] at cell
    have zn : z (hoF (ct a)) (hoI (ct a)) = none := cell.symm
    have hz : hoZ z (ct a) = zf z (hoF (ct a)) (hoI (ct a)) (ct a) := by
      unfold hoZ
      rw [zn]
    rw [hz]
    refine wp_pos rfl (wp_and ⟨someN, ((n_in (by omega)).2 (by omega))⟩ (wp_and someN ?_))
    have i3 : cI (csP s (nd g n + plO e) j (some a)) 3 a = cI s 3 a := rfl
    rw [i3]
    unfold KO_X8_hold_102 KF_X8_hold_102 KO_X8_hold_134 KF_X8_hold_134
    have ms2 : mS (csI (csP s (nd g n + plO e) j (some a)) 3 a (cI s 3 a + nI 1)) a (ct a) := by
      obtain ⟨m1, m2, m3, m4, m5, m6⟩ := ms
      exact ⟨m1, by rw [cI_other _ _ (Or.inl (by decide))]; exact m2, m3, m4, m5, m6⟩
    obtain ⟨t1, t2⟩ := two_ok (N := N) (g := g) (H := H) (T := T) (i := 2) ms2 (by decide)
    obtain ⟨t3, t4⟩ := at_ok (N := N) (g := g) (H := H) (T := T) (i := 4) ms2 (by decide)
    have tw2 : twM (ct a) 2 = tw (ct a) 2 := by
      unfold twM
      rw [if_pos (by omega)]
    rw [tw2] at t2
    obtain ⟨t, u1, u2, u3⟩ := c7d (tw (ct a) 2 % 2) (by omega)
    have a17 : cA (csI (csP s (nd g n + plO e) j (some a)) 3 a (cI s 3 a + nI 1)) (nd g n + 17) (tw (ct a) 2 % 2) = nI t := u2
    have L17 : cL (csI (csP s (nd g n + plO e) j (some a)) 3 a (cI s 3 a + nI 1)) (nd g n + 17) = 2 := h.2.1.rl (o53 (isO5 hn)) (k := 5) rfl (by omega) (by omega)
    rw [zsome, t2, t4, q17, n_and1, n_clamp (by omega), a17, n_add, zsome, L17]
    have mx : (if nI t < nI (bg (ct a) 4 + 1) then nI (bg (ct a) 4 + 1) else nI t) = nI (if t < bg (ct a) 4 + 1 then bg (ct a) 4 + 1 else t) := by
      by_cases q : t < bg (ct a) 4 + 1
      · rw [if_pos (by rw [n_lt' (by omega) (by omega)]; exact q), if_pos q]
      · rw [if_neg (by rw [n_lt' (by omega) (by omega)]; exact q), if_neg q]
    rw [mx]
    have tb : (if t < bg (ct a) 4 + 1 then bg (ct a) 4 + 1 else t) ≤ 16 ∧ t ≤ (if t < bg (ct a) 4 + 1 then bg (ct a) 4 + 1 else t) ∧ bg (ct a) 4 < (if t < bg (ct a) 4 + 1 then bg (ct a) 4 + 1 else t) := by
      split <;> omega
    generalize (if t < bg (ct a) 4 + 1 then bg (ct a) 4 + 1 else t) = t' at tb ⊢
    rw [hold_eq]
    refine wp_and ⟨someN, t1⟩ (wp_and ((n_in (by omega)).2 (by omega)) (wp_and t3 (wp_fin ⟨⟨someN, ((n_in (by omega)).2 (by omega))⟩, trivial⟩ ?_)))
    -- the bound first
    have s1 : CRz F g H T (csA s (nd g n + 17) (tw (ct a) 2 % 2) (nI t')) ct hd w pe n v y p x pn z := by
      refine h.A hn (Or.inr (Or.inl rfl)) ⟨c7, c7b, fun i hi => ?_, fun p' hp' => ?_⟩ ?_
      · rw [cA_ne _ _ _ (show nd g n + 16 ≠ nd g n + 17 by omega)]
        exact c7c i hi
      · rw [cA_at]
        by_cases q : p' = tw (ct a) 2 % 2
        · rw [if_pos q, q]
          exact ⟨t', tb.1, rfl, fun r r1 r2 => u3 r (by omega) r2⟩
        · rw [if_neg q]
          exact c7d p' hp'
      · unfold qD
        rw [cA_ne _ _ _ (show nd g n + 21 ≠ nd g n + 17 by omega)]
        exact cz.2.2.2.2.2.2.2.1
    have ua1 : 1 ≤ us g H T (csA s (nd g n + 17) (tw (ct a) 2 % 2) (nI t')) hd a := ha
    have s2 := s1.up hn ua1
    have i3' : cI (csA s (nd g n + 17) (tw (ct a) 2 % 2) (nI t')) 3 a = cI s 3 a := rfl
    rw [i3'] at s2
    have cz2 := s2.nz
    obtain ⟨d7, d7b, d7c, d7d⟩ := cz2.2.2.2.2.2.2.1
    have tops2 : cA (csI (csA s (nd g n + 17) (tw (ct a) 2 % 2) (nI t')) 3 a (cI s 3 a + nI 1)) (nd g n + 17) (tw (ct a) 2 % 2) = nI t' := by
      rw [cA_I, cA_at, if_pos rfl]
    have ffb : ∀ b, cI (csI (csA s (nd g n + 17) (tw (ct a) 2 % 2) (nI t')) 3 a (cI s 3 a + nI 1)) 4 b = cI s 4 b := fun b => by
      rw [cI_other _ _ (Or.inl (by decide))]
      rfl
    have v16 : cA (csI (csA s (nd g n + 17) (tw (ct a) 2 % 2) (nI t')) 3 a (cI s 3 a + nI 1)) (nd g n + 16) = cA s (nd g n + 16) := by
      rw [cA_I, cA_ne _ _ _ (by omega)]
    have ecc : cP (csI (csA s (nd g n + 17) (tw (ct a) 2 % 2) (nI t')) 3 a (cI s 3 a + nI 1)) (nd g n + plO e) j = none := ec
    generalize csI (csA s (nd g n + 17) (tw (ct a) 2 % 2) (nI t')) 3 a (cI s 3 a + nI 1) = S at s2 cz2 d7 d7b d7c d7d tops2 ffb v16 ecc ⊢
    have topS : ∀ p', p' ≤ 1 → ∃ t, t ≤ 16 ∧ cA S (nd g n + 17) p' = nI t ∧ (p' = tw (ct a) 2 % 2 → bg (ct a) 4 < t) ∧ ∀ r, t ≤ r → r < 16 → z 4 (16 * p' + r) = none ∧ ∀ c k, c ≤ 1 → k < T → z 5 (vq c p' r k) = none := fun p' hp' => by
      obtain ⟨t2, x1, x2, x3⟩ := d7d p' hp'
      refine ⟨t2, x1, x2, fun q => ?_, x3⟩
      rw [q, tops2, n_eq' (by omega) (by omega)] at x2
      omega
    have nz : CNz g H T (csP S (nd g n + plO e) j (some a)) ct n v y p x pn (zf z (hoF (ct a)) (hoI (ct a)) (ct a)) := by
      refine cz2.P (by omega) ?_ (cz2.2.2.2.2.2.2.2.1.oth (by omega) (by omega)) (cz2.2.2.2.2.2.2.2.2.1.oth (by omega) (by omega)) (cz2.2.2.2.2.2.2.2.2.2.2.2.1.oth (by omega) (by omega)) rfl rfl rfl rfl
      unfold hoF hoI
      rcases he with ⟨rfl, h1, rfl⟩ | ⟨rfl, h1, rfl⟩
      · rw [if_pos h1, if_pos h1]
        refine ⟨fun i hi => ?_, fun c p' r k a1 a2 a3 a4 => ?_, fun i hi => ?_, fun p' hp' => ?_⟩
        · have q : cP (csP S (nd g n + plO 0) (16 * (tw (ct a) 2 % 2) + bg (ct a) 4) (some a)) (nd g n + 15) i = if i = 16 * (tw (ct a) 2 % 2) + bg (ct a) 4 then some a else cP S (nd g n + 15) i := cP_at _ _ _ _ _
          rw [q]
          by_cases u : i = 16 * (tw (ct a) 2 % 2) + bg (ct a) 4
          · rw [if_pos u, u, zf_s]
            rfl
          · rw [if_neg u, zf_o (Or.inr u)]
            exact d7 i hi
        · have q : cP (csP S (nd g n + plO 0) (16 * (tw (ct a) 2 % 2) + bg (ct a) 4) (some a)) (nd g n + 19) = cP S (nd g n + 19) := cP_other _ _ _ (show nd g n + 19 ≠ nd g n + 15 by omega)
          rw [q, zf_o (Or.inl (by decide))]
          exact d7b c p' r k a1 a2 a3 a4
        · rcases d7c i hi with u | ⟨m', m1, m2, m3⟩
          · exact Or.inl u
          · refine Or.inr ⟨m', ?_, m2, m3⟩
            rw [zf_o (Or.inr (fun u => ?_))]
            · exact m1
            · have zn' := zn
              unfold hoF hoI at zn'
              rw [if_pos h1, if_pos h1, ← u, m1] at zn'
              cases zn'
        · obtain ⟨t2, x1, x2, x4, x3⟩ := topS p' hp'
          refine ⟨t2, x1, x2, fun r r1 r2 => ⟨?_, fun c k b1 b2 => by rw [zf_o (Or.inl (by decide))]; exact (x3 r r1 r2).2 c k b1 b2⟩⟩
          rw [zf_o (Or.inr (fun u => ?_))]
          · exact (x3 r r1 r2).1
          · have := x4 (by omega)
            omega
      · rw [if_neg h1, if_neg h1]
        refine ⟨fun i hi => ?_, fun c p' r k a1 a2 a3 a4 => ?_, fun i hi => ?_, fun p' hp' => ?_⟩
        · have q : cP (csP S (nd g n + plO 1) (vqC T (bg (ct a) 0 - 2) (tw (ct a) 2 % 2) (bg (ct a) 4) (bg (ct a) 1)) (some a)) (nd g n + 15) = cP S (nd g n + 15) := cP_other _ _ _ (show nd g n + 15 ≠ nd g n + 19 by omega)
          rw [q, zf_o (Or.inl (by decide))]
          exact d7 i hi
        · have q : cP (csP S (nd g n + plO 1) (vqC T (bg (ct a) 0 - 2) (tw (ct a) 2 % 2) (bg (ct a) 4) (bg (ct a) 1)) (some a)) (nd g n + 19) (vqC T c p' r k) = if vqC T c p' r k = vqC T (bg (ct a) 0 - 2) (tw (ct a) 2 % 2) (bg (ct a) 4) (bg (ct a) 1) then some a else cP S (nd g n + 19) (vqC T c p' r k) := cP_at _ _ _ _ _
          rw [q]
          by_cases u : c = bg (ct a) 0 - 2 ∧ p' = tw (ct a) 2 % 2 ∧ r = bg (ct a) 4 ∧ k = bg (ct a) 1
          · obtain ⟨u1, u2, u3, u4⟩ := u
            rw [u1, u2, u3, u4, if_pos rfl, zf_s]
            rfl
          · rw [if_neg (fun q2 => u (vqC_inj q2 a1 a2 a3 a4 (by omega) (by omega) hr hs)), zf_o (Or.inr (fun q2 => u (by
              obtain ⟨j1, j2, j3, j4⟩ := vq_inj q2 a2 a3 (by omega) (by omega) hr (by omega)
              exact ⟨j1, j2, j3, j4⟩)))]
            exact d7b c p' r k a1 a2 a3 a4
        · rcases d7c i hi with u | ⟨m', m1, m2, m3⟩
          · exact Or.inl u
          · exact Or.inr ⟨m', by rw [zf_o (Or.inl (by decide))]; exact m1, m2, m3⟩
        · obtain ⟨t2, x1, x2, x4, x3⟩ := topS p' hp'
          refine ⟨t2, x1, x2, fun r r1 r2 => ⟨by rw [zf_o (Or.inl (by decide))]; exact (x3 r r1 r2).1, fun c k b1 b2 => ?_⟩⟩
          rw [zf_o (Or.inr (fun u => ?_))]
          · exact (x3 r r1 r2).2 c k b1 b2
          · obtain ⟨j1, j2, j3, j4⟩ := vq_inj u hp' r2 (by omega) (by omega) hr (by omega)
            have := x4 j2
            omega
    refine ⟨s2.pt hn (by omega) jl ecc (fun q => ?_) (fun _ => by rw [ffb]; exact h4) nz, v16, ffb⟩
    rcases he with ⟨rfl, h1, -⟩ | ⟨rfl, h1, -⟩
    · omega
    · rcases hk with hk | hk
      · exact absurd hk h1
      · exact hk.2
theorem hold_Z (hN : 10 ≤ N) (h : CRz F g H T s ct hd w pe n v y p x pn z) (hn : n < H) (hl : hd.length ≤ 30) (hT : T ≤ 13) (ha : 1 ≤ us g H T s hd a) (hm : hoM T (ct a)) (h4 : cI s 4 a = nI 1) : wp (p_X8_hold N g H T s (nd g n + 14) (some a)) (k_X8_hold N g H T s (nd g n + 14) (some a)) (fun s' => CRz F g H T s' ct hd w pe n v y p x pn (hoZ z (ct a)) ∧ cA s' (nd g n + 16) = cA s (nd g n + 16) ∧ (∀ b, cI s' 4 b = cI s 4 b)) := by
  have ms := h.ms ha
  have hm' := hm
  obtain ⟨hk, hs, hr, h6⟩ := hm'
  have q15 : nd g n + 14 + 1 = nd g n + plO 0 := rfl
  have q19 : nd g n + 14 + 5 = nd g n + plO 1 := rfl
  obtain ⟨t1, t2⟩ := two_ok (N := N) (g := g) (H := H) (T := T) (i := 2) ms (by decide)
  obtain ⟨t3, t4⟩ := at_ok (N := N) (g := g) (H := H) (T := T) (i := 4) ms (by decide)
  obtain ⟨k1, k2⟩ := kind_ok (N := N) (g := g) (H := H) (T := T) ms
  obtain ⟨s1, s2⟩ := signer_ok (N := N) (g := g) (H := H) (T := T) ms
  have tw2 : twM (ct a) 2 = tw (ct a) 2 := by
    unfold twM
    rw [if_pos (by omega)]
  rw [tw2] at t2
  obtain ⟨p1, p2⟩ := page_ok (N := N) (g := g) (H := H) (T := T) (S := s) (a0 := nd g n + 14) (h := tw (ct a) 2) hr
  have i1 : cI s 1 (nd g n + 14) = nI T := h.nz.2.2.2.2.2.2.2.2.2.2.2.2.1
  show wp (KO_X8_hold_0 N g H T (nd g n + 14) (some a) s) (KF_X8_hold_0 N g H T (nd g n + 14) (some a) s) _
  unfold KO_X8_hold_0 KF_X8_hold_0
  rw [zsome, t2, t4, p2, s2, i1, k2]
  refine wp_and ⟨someN, t1⟩ (wp_and t3 (wp_and p1 (wp_neg (n_lt0 (by omega)) (wp_and s1 (wp_pos (by rw [n_lt' (by omega) (by omega)]; exact hs) (wp_and k1 ?_))))))
  by_cases c : bg (ct a) 0 = 1
  · refine wp_pos (by rw [c]) ?_
    unfold KO_X8_hold_50 KF_X8_hold_50
    rw [zsome, k2, q15]
    exact wp_and ⟨someN, k1⟩ (wp_pos (by rw [c]) (hold_77 (e := 0) hN h hn hl hT ha hm h4 (Or.inl ⟨rfl, c, rfl⟩)))
  · have c' : ¬ nI (bg (ct a) 0) = nI 1 := by rw [n_eq' (by omega) (by omega)]; exact c
    refine wp_neg c' ?_
    unfold KO_X8_hold_50 KF_X8_hold_50
    obtain ⟨b1, b2⟩ := ballots_ok (N := N) (g := g) (H := H) (T := T) (S := s) (a0 := nd g n + 14) (P := 16 * (tw (ct a) 2 % 2) + bg (ct a) 4) (k := bg (ct a) 0) i1 (by omega)
    rw [zsome, k2, b2, s2, q19, n_add]
    exact wp_and ⟨someN, k1⟩ (wp_neg c' (wp_and k1 (wp_and b1 (wp_and s1 (hold_77 (e := 1) hN h hn hl hT ha hm h4 (Or.inr ⟨rfl, c, rfl⟩))))))
end
end

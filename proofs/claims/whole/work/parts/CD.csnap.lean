section
/-! THE ANSWER TO A NODE THAT IS BEHIND: a snapshot -/
section
variable {F N g H T n : Nat} {s s0 s1 S : cS} {ct : Nat → List Nat} {hd : List Nat} {w w' V X : Wd} {pe pe' : Nat → Int} {a b e i : Nat} {G : Gh}
theorem snI_ac {v q d : Nat} {dd : List Nat} {k : Bk} (ok : bkOK k) (hq : q < 16) (hd : d < 5) : snI v dd k (35 + 5 * q + d) = bg (acP k q) (1 + d) := by
  have l1 := ok.le hq
  have w256 : (k q).toNat / 256 % 256 = (k q).toNat / 256 := by omega
  have fl := ok.2.2.2 q hq
  have e1 : (35 + 5 * q + d - 35) % 5 = d := by omega
  have e2 : (35 + 5 * q + d - 35) / 5 = q := by omega
  unfold snI
  rw [if_neg (by omega), if_neg (by omega), if_neg (by omega), if_neg (by omega), e1, e2, w256]
  unfold acP
  rcases (show d = 0 ∨ d = 1 ∨ d = 2 ∨ d = 3 ∨ d = 4 by omega) with rfl | rfl | rfl | rfl | rfl
  · rw [if_pos rfl, (bg6 _ _ _ _ _ _).2.1]
  · rw [if_neg (by omega), if_pos rfl, (bg6 _ _ _ _ _ _).2.2.1]
  · rw [if_neg (by omega), if_neg (by omega), if_pos rfl, (bg6 _ _ _ _ _ _).2.2.2.1]
  · rw [if_neg (by omega), if_neg (by omega), if_neg (by omega), if_pos rfl, (bg6 _ _ _ _ _ _).2.2.2.2.1]
  · rw [if_neg (by omega), if_neg (by omega), if_neg (by omega), if_neg (by omega), (bg6 _ _ _ _ _ _).2.2.2.2.2]
    rcases fl with q | q
    · rw [q, if_pos rfl]
      rfl
    · rw [q, if_neg (by decide)]
      rfl
theorem snI_lt {v : Nat} {dd : List Nat} {k : Bk} (ok : bkOK k) (hB : isB dd) {i : Nat} (hi : i < 115) : snI v dd k i < 256 := by
  unfold snI
  split
  · decide
  split
  · omega
  split
  · omega
  split
  · exact hB _
  have l1 := ok.le (show (i - 35) / 5 < 16 by omega)
  split
  · omega
  split
  · omega
  split
  · omega
  split
  · omega
  split <;> decide
theorem snM_isB {d : List Nat} (ok : bkOK (bkN (wN w) n)) (hd : wY w n 9 0 = some d) (hB : isB d) : isB (snM w n) := by
  refine isB_mk fun i hi => snI_lt ok ?_ hi
  rw [hd]
  exact hB
/-- the sixteen accounts are written -/
theorem snap_l {k : Bk} {m : List Nat} {f0 : Nat → Int32} (hN : 100 ≤ N) (hb : bkC s1 (nd g n + 6) k) (ok : bkOK k) (L29 : cL s1 (g + 29) = 32) (La : cL s1 (a + 2) = 128) (ha : nd g n + 24 ≤ a) (h0 : ∀ i, i < 35 → f0 i = sb (bg m i)) (hm : ∀ q d, q < 16 → d < 5 → bg m (35 + 5 * q + d) = bg (acP k q) (1 + d)) : wp (KOL_X6_snapshot_53 N g H T N (some (nd g n)) (some a) (nI 0) (nI 35) (csArow s1 (a + 2) f0)) (KL_X6_snapshot_53 N g H T N (some (nd g n)) (some a) (nI 0) (nI 35) (csArow s1 (a + 2) f0)) (fun z => ∃ f29 fa, z.2 = (some a, csArow (csArow s1 (g + 29) f29) (a + 2) fa) ∧ ∀ i, i < 115 → fa i = sb (bg m i)) := by
  have nz : g + 31 ≤ nd g n := by unfold nd; omega
  refine wp_loop (σ := cS) (K := 16) (fun j S => ∃ f29 fa, S = csArow (csArow s1 (g + 29) f29) (a + 2) fa ∧ ∀ i, i < 35 + 5 * j → fa i = sb (bg m i)) (fun r j S => KOL_X6_snapshot_53 N g H T r (some (nd g n)) (some a) (nI j) (nI (35 + 5 * j)) S) (fun r j S => KL_X6_snapshot_53 N g H T r (some (nd g n)) (some a) (nI j) (nI (35 + 5 * j)) S) (fun r j S hj hI ih => ?_) 0 N _ (by omega) (by omega) ⟨cA s1 (g + 29), f0, by rw [row_self], h0⟩
  obtain ⟨f29, fa, rfl, hr⟩ := hI
  unfold KOL_X6_snapshot_53 KL_X6_snapshot_53 KOB_X6_snapshot_53 KB_X6_snapshot_53
  by_cases e : j = 16
  · exact wp_pos (by rw [n_le' (by omega) (by omega)]; omega) (wp_fin trivial ⟨f29, fa, rfl, fun i hi => hr i (by omega)⟩)
  have bS : bkC (csArow (csArow s1 (g + 29) f29) (a + 2) fa) (nd g n + 6) k := by
    refine ⟨fun q hq => ?_, hb.2⟩
    rw [cA_other _ _ (by omega), cA_other _ _ (by omega), cA_other _ _ (by omega), cA_other _ _ (by omega)]
    exact hb.1 q hq
  have LS : cL (csArow (csArow s1 (g + 29) f29) (a + 2) fa) (g + 29) = 32 := L29
  rw [zsome]
  refine wp_neg (by rw [n_le' (by omega) (by omega)]; omega) (wp_and someN (wp_call (encode_c (N := N) (T := T) (H := H) (g := g) (q := j) (r := g + 29) (a := 0) bS ok (by omega) ⟨(by omega), (by omega), (by omega)⟩ (by rw [LS]; decide) (by rw [LS]; decide)) (fun q => ?_)))
  obtain ⟨f', q1, q2⟩ := q
  rw [q1, row_comm (csArow s1 (g + 29) f29) (a := a + 2) (b := g + 29) (by omega) fa f', row_row]
  unfold KO_X6_snapshot_75 KF_X6_snapshot_75 KO_X6_snapshot_92 KF_X6_snapshot_92
  have L' : cL (csArow (csArow s1 (g + 29) f') (a + 2) fa) (a + 2) = 128 := La
  rw [zsome, L', n_clamp (by omega), n_clamp (by omega), n_clamp (by omega), n_add, n_add, row_row, cA_same, cA_other _ _ (show g + 29 ≠ a + 2 by omega), cA_same]
  refine wp_and someN (wp_and someN (wp_and ⟨⟨n_lt0 (by omega), n_lt0 (by omega), n_lt0 (by omega)⟩, by decide, (by omega)⟩ (ih _ ⟨f', _, rfl, fun i hi => ?_⟩ (by omega))))
  unfold va_cpy
  by_cases c : 35 + 5 * j ≤ i
  · rw [if_pos ⟨c, (by omega)⟩, q2, if_pos (by omega)]
    have := hm j (i - (35 + 5 * j)) (by omega) (by omega)
    rw [show 35 + 5 * j + (i - (35 + 5 * j)) = i by omega] at this
    rw [this, Nat.sub_zero]
  · rw [if_neg (fun q => c q.1)]
    exact hr i (by omega)
theorem snapshot_C (hN : 100 ≤ N) (h : CR F g H T s ct hd w pe) (hn : n < H) (hl : hd.length ≤ 30) (h1 : 1 ≤ wN w n 1 ∧ wN w n 1 ≤ 41) (ok : bkOK (bkN (wN w) n)) : wp (p_X6_snapshot N g H T s (nd g n)) (k_X6_snapshot N g H T s (nd g n)) (mkC F g H T s ct hd w pe (snM w n)) := by
  have v1 : iI (wN w n 1) = nI (wN w n 1).toNat := by
    rw [← iI_n]
    congr 1
    omega
  have hw : wp (p_X6_snapshot N g H T s (nd g n)) (k_X6_snapshot N g H T s (nd g n)) (fun Z => ∃ a y s1 f29 fa, y.length = 115 ∧ CR F g H T s1 (fun b => if b = a then y else ct b) (a :: hd) w pe ∧ cnA g H T s1 a = 0 ∧ us g H T s hd a = 0 ∧ cI s1 4 a = nI 0 ∧ cI s1 5 a = nI 0 ∧ ffr g H hd s s1 ∧ Z = (some a, csArow (csArow s1 (g + 29) f29) (a + 2) fa) ∧ ∀ i, i < 115 → fa i = sb (bg (snM w n) i)) := by
    show wp (KO_X6_snapshot_0 N g H T (some (nd g n)) s) (KF_X6_snapshot_0 N g H T (some (nd g n)) s) _
    unfold KO_X6_snapshot_0 KF_X6_snapshot_0
    refine wp_and someN (wp_call (fresh_C (N := N) (len := 115) h hl (by decide) (by decide)) ?_)
    intro fr
    obtain ⟨a, y, z1, yl, c, ca, ua, i4, i5, f1, -, -⟩ := fr
    generalize k_X9_fresh N g H T s (g + 11) (nI 115) = z at z1 c ca i4 i5 f1 ⊢
    obtain ⟨z1', s1⟩ := z
    have z1 : z1' = some a := z1
    subst z1
    have c : CR F g H T s1 (fun b => if b = a then y else ct b) (a :: hd) w pe := c
    have ms := c.ms (a := a) us_self
    rw [show (if a = a then y else ct a) = y from if_pos rfl] at ms
    have L : cL s1 (a + 2) = 128 := by
      have q := ms.2.2.2.2.1
      rw [yl, if_pos (by decide)] at q
      exact q
    have aH := c.2.2.2.1.n ms.1
    have nH : nd g n + 24 ≤ nd g H := by unfold nd; omega
    have i9 : ∀ v, cI (csA s1 (a + 2) 0 v) 9 (nd g n) = nI (wN w n 1).toNat := fun v => by
      rw [← v1]
      exact (c.node hn).1.2.2.1
    obtain ⟨q1, q2, d, ed, dl, dB, dr⟩ := (c.node hn).2.2.2.2.2.1
    have bk : bkC s1 (nd g n + 6) (bkN (wN w) n) := bkC_cg q1 vB_N
    have L29 : cL s1 (g + 29) = 32 := c.2.1.rl (c := 8) (k := 11) isO8 rfl (by omega) (by omega)
    have eM : ∀ i, i < 115 → bg (snM w n) i = snI (wN w n 1).toNat d (bkN (wN w) n) i := fun i hi => by
      rw [snM_bg hi, ed]
      rfl
    show wp (KO_X6_snapshot_12 N g H T (some (nd g n)) (some a) s1) (KF_X6_snapshot_12 N g H T (some (nd g n)) (some a) s1) _
    unfold KO_X6_snapshot_12 KF_X6_snapshot_12
    have c0 : (nI 0).toNatClampNeg = 0 := rfl
    have s7 : (nI 7).toInt8.toInt32 = sb 7 := rfl
    rw [zsome, zsome, c0, s7, i9, L]
    obtain ⟨p1, p2⟩ := putTwo_c (N := N) (g := g) (H := H) (T := T) (s := csA s1 (a + 2) 0 (sb 7)) (r := a + 2) (a := 1) (x := (wN w n 1).toNat) (by rw [cL_A, L]; decide) (by rw [cL_A, L]; decide) (by omega)
    refine wp_and someN (wp_and ((n_in (by omega)).2 (by omega)) (wp_and someN (wp_and p1 ?_)))
    rw [p2]
    unfold KO_X6_snapshot_33 KF_X6_snapshot_33
    have e3 : (nI 3).toNatClampNeg = 3 := rfl
    have e32 : (nI 32).toNatClampNeg = 32 := rfl
    rw [zsome, zsome, c0, e3, e32]
    have Lc : ∀ x y z, cL (csA (csA (csA s1 (a + 2) 0 x) (a + 2) 1 y) (a + 2) (1 + 1) z) (a + 2) = 128 := fun _ _ _ => L
    rw [Lc]
    refine wp_and someN (wp_and someN (wp_and ⟨⟨by decide, by decide, by decide⟩, by decide, by decide⟩ ?_))
    unfold KO_X6_snapshot_48 KF_X6_snapshot_48
    obtain ⟨f0, ef, hf⟩ : ∃ f0, csArow (csA (csA (csA s1 (a + 2) 0 (sb 7)) (a + 2) 1 (sb ((wN w n 1).toNat / 256 % 256))) (a + 2) (1 + 1) (sb ((wN w n 1).toNat % 256))) (a + 2) (va_cpy (cA (csA (csA (csA s1 (a + 2) 0 (sb 7)) (a + 2) 1 (sb ((wN w n 1).toNat / 256 % 256))) (a + 2) (1 + 1) (sb ((wN w n 1).toNat % 256))) (nd g n + 11)) (cA (csA (csA (csA s1 (a + 2) 0 (sb 7)) (a + 2) 1 (sb ((wN w n 1).toNat / 256 % 256))) (a + 2) (1 + 1) (sb ((wN w n 1).toNat % 256))) (a + 2)) 0 3 32) = csArow s1 (a + 2) f0 ∧ ∀ i, i < 35 → f0 i = sb (bg (snM w n) i) := by
      refine ⟨_, by rw [csA_row, csA_row, csA_row, row_row, row_row, row_row], fun i hi => ?_⟩
      rw [cA_other _ _ (show nd g n + 11 ≠ a + 2 by omega), cA_other _ _ (show nd g n + 11 ≠ a + 2 by omega), cA_other _ _ (show nd g n + 11 ≠ a + 2 by omega), cA_same, cA_same, cA_same, eM i (by omega)]
      unfold va_cpy upd snI
      by_cases c3 : 3 ≤ i
      · rw [if_pos ⟨c3, (by omega)⟩, if_neg (by omega), if_neg (by omega), if_neg (by omega), if_pos (by omega), show 0 + (i - 3) = i - 3 by omega]
        exact dr (i - 3) (by omega)
      · rw [if_neg (fun q => c3 q.1)]
        rcases (show i = 0 ∨ i = 1 ∨ i = 2 by omega) with rfl | rfl | rfl
        · rw [if_neg (by decide), if_neg (by decide), if_pos rfl, if_pos rfl]
        · rw [if_neg (by decide), if_pos rfl, if_neg (by decide), if_pos rfl]
        · rw [if_pos rfl, if_neg (by decide), if_neg (by decide), if_pos rfl]
    rw [ef]
    refine wp_seq (snap_l (N := N) (H := H) (T := T) hN bk ok L29 L (by omega) hf (fun q d' hq hd' => by rw [eM _ (by omega), snI_ac ok hq hd'])) (fun z hz => ?_)
    obtain ⟨f29, fa, z1, z2⟩ := hz
    unfold KOA_X6_snapshot_53 KA_X6_snapshot_53 KO_X6_snapshot_101 KF_X6_snapshot_101
    rw [z1]
    exact wp_fin trivial ⟨a, y, s1, f29, fa, yl, c, ca, ua, i4, i5, f1, rfl, z2⟩
  have st := (kpc_X6_snapshot h.2.1 (isO5 hn) hw.1).1
  refine wp_fin hw.1 ?_
  obtain ⟨a, y, s1, f29, fa, yl, c, ca, ua, i4, i5, f1, e, row⟩ := hw.2
  rw [e] at st ⊢
  have ms := c.ms (a := a) us_self
  have aH := c.2.2.2.1.n ms.1
  have nH : g + 31 ≤ nd g H := by unfold nd; omega
  obtain ⟨_, _, d, ed, dl, dB, _⟩ := (c.node hn).2.2.2.2.2.1
  have k29 : cK s1 (g + 29) = 20 := (c.2.1.rk (c := 8) (k := 11) isO8 rfl (by omega)) _ rfl
  have st2 : St 0 g H T (csArow s1 (g + 29) f29) := c.2.1.Ar _ _ (fun _ i => by
    have q := st.2.2.2.2.2.2.2.2.2.2 (g + 29) k29 i
    rw [show cA (some a, csArow (csArow s1 (g + 29) f29) (a + 2) fa).2 (g + 29) = f29 from by rw [show (some a, csArow (csArow s1 (g + 29) f29) (a + 2) fa).2 = csArow (csArow s1 (g + 29) f29) (a + 2) fa from rfl, cA_other _ _ (show g + 29 ≠ a + 2 by omega), cA_same]] at q
    exact q)
  have c2 := c.sc (cfr_A s1 (g + 29) f29) (fun a ha => by unfold scP; omega) st2
  have f2 : ffr g H hd s1 (csArow s1 (g + 29) f29) := ⟨fun _ _ => rfl, rfl, fun _ _ _ _ => rfl, fun _ _ _ _ => rfl⟩
  refine mk_row c2 ca ua (f1.trans f2) mw_A st (by rw [snM_len, yl]) (snM_isB ok ed dB) (fun i hi => ?_) (Or.inl ⟨i4, i5⟩)
  rw [cA_same]
  rw [snM_len] at hi
  exact row i hi
/-- a node that is behind is answered -/
theorem answerBelow_C {h : Nat} (hN : 100 ≤ N) (c0 : CR F g H T s ct hd w pe) (hn : n < H) (hl : hd.length ≤ 28) (h1 : 1 ≤ h) (h2 : (h : Int) < wN w n 1) (h41 : wN w n 1 ≤ 41) (ok : bkOK (bkN (wN w) n)) : wp (p_X3_answerBelow N g H T s (some (nd g n)) (nI b) (nI h)) (k_X3_answerBelow N g H T s (some (nd g n)) (nI b) (nI h)) (fun s' => ∃ ct', (∀ b, b ∈ hd → ct' b = ct b) ∧ CR F g H T s' ct' hd (aPost w n b (anB w n h)) pe) := by
  show wp (KO_X3_answerBelow_0 N g H T (some (nd g n)) (nI b) (nI h) s) (KF_X3_answerBelow_0 N g H T (some (nd g n)) (nI b) (nI h) s) _
  unfold KO_X3_answerBelow_0 KF_X3_answerBelow_0
  rw [zsome]
  refine wp_and someN (wp_call (decided_C (N := N) c0 hn (by omega) h1 h2 h41) (fun q => ?_))
  generalize k_X6_decided N g H T s (nd g n) (nI h) = Z at q ⊢
  obtain ⟨Z1, s1⟩ := Z
  unfold KO_X3_answerBelow_13 KF_X3_answerBelow_13
  rcases q with ⟨q1, q2, q3⟩ | ⟨a, ct', q1, q2, q3, q4, q5⟩
  · have q1 : Z1 = none := q1
    have q2 : CR F g H T s1 ct hd w pe := q2
    subst q1
    rw [zsome, q3]
    refine wp_pos rfl ?_
    have sn := snapshot_C hN q2 hn (by omega) (by omega) ok
    refine wp_and ⟨someN, sn.1⟩ ?_
    obtain ⟨a, ct', m1, m2, m3, m4, m5, m6, m7⟩ := sn.2
    show wp (KO_X3_answerBelow_36 N g H T (some (nd g n)) (nI b) (g + 11) (k_X6_snapshot N g H T s1 (nd g n)).1 (k_X6_snapshot N g H T s1 (nd g n)).2) (KF_X3_answerBelow_36 N g H T (some (nd g n)) (nI b) (g + 11) (k_X6_snapshot N g H T s1 (nd g n)).1 (k_X6_snapshot N g H T s1 (nd g n)).2) _
    generalize k_X6_snapshot N g H T s1 (nd g n) = Y at m1 m4 m5 m7 ⊢
    obtain ⟨Y1, s2⟩ := Y
    have m1 : Y1 = some a := m1
    subst m1
    have m4 : CR F g H T s2 ct' (a :: hd) w pe := m4
    have i1 : cI s2 1 (nd g n) = nI n := (m4.node hn).1.1
    show wp (KO_X3_answerBelow_36 N g H T (some (nd g n)) (nI b) (g + 11) (some a) s2) (KF_X3_answerBelow_36 N g H T (some (nd g n)) (nI b) (g + 11) (some a) s2) _
    unfold KO_X3_answerBelow_36 KF_X3_answerBelow_36
    rw [zsome, i1]
    refine wp_and someN (wp_call (post_C (N := N) (f := n) (t := b) m4 us_self) (fun q => ?_))
    rw [m2] at q
    unfold KO_X3_answerBelow_49 KF_X3_answerBelow_49
    refine wp_call (drop_C (N := N) q.1 (by omega)) (fun r => wp_fin trivial ⟨ct', fun b hb => m3 b (fun q => ?_), r.1⟩)
    have r1 := us_in (g := g) (H := H) (T := T) (s := s1) hb
    have r2 : us g H T s1 hd a = 0 := m6
    rw [q, r2] at r1
    omega
  · have q1 : Z1 = some a := q1
    have q3 : CR F g H T s1 ct' hd w pe := q3
    subst q1
    have i1 : cI s1 1 (nd g n) = nI n := (q3.node hn).1.1
    show wp ((some a = none → (¬ some (nd g n) = none ∧ p_X6_snapshot N g H T s1 (za (some (nd g n)))) ∧ KO_X3_answerBelow_36 N g H T (some (nd g n)) (nI b) (g + 11) ((k_X6_snapshot N g H T s1 (za (some (nd g n)))).1) (k_X6_snapshot N g H T s1 (za (some (nd g n)))).2) ∧ (¬ some a = none → (¬ some (nd g n) = none) ∧ (p_X9_post N g H T s1 (g + 11) (cI s1 1 (za (some (nd g n)))) (nI b) (some a)) ∧ True)) (if (some a : Option Nat) = none then KF_X3_answerBelow_36 N g H T (some (nd g n)) (nI b) (g + 11) ((k_X6_snapshot N g H T s1 (za (some (nd g n)))).1) (k_X6_snapshot N g H T s1 (za (some (nd g n)))).2 else k_X9_post N g H T s1 (g + 11) (cI s1 1 (za (some (nd g n)))) (nI b) (some a)) _
    rw [zsome, i1]
    refine wp_neg someN (wp_and someN (wp_call (post_C (N := N) (f := n) (t := b) q3 q4) (fun q => wp_fin trivial ⟨ct', q2, ?_⟩)))
    rw [q5] at q
    exact q.1
end
end

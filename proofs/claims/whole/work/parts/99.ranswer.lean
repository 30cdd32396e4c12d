section
/-! THE REFERENCE ANSWERS: a block, a snapshot, what it holds -/
section
variable {N n F H T : Nat} {S S1 : rS} {w : Wd} {m : List Nat}
theorem writeTw_ok {v : Nat} (hv : v < 1000000) (h : mB S m) (hl : m.length + 2 ≤ 1000) : wp (o_writeTwo N S (nI v)) (f_writeTwo N S (nI v)) (fun S' => rfr [32, 33] S S' ∧ mB S' (m ++ [v / 256 % 256] ++ [v % 256])) := by
  show wp (O_writeTwo_0 N (nI v) S) (F_writeTwo_0 N (nI v) S) _
  unfold O_writeTwo_0 F_writeTwo_0
  rw [n_sshr (by omega) (by decide)]
  refine wp_call (write_ok (x := nI (v / 256)) h (by omega)) (fun q => ?_)
  rw [show v / 2 ^ 8 = v / 256 from rfl] at q ⊢
  rw [nb_n] at q
  generalize f_write N S (nI (v / 256)) = S1 at q ⊢
  unfold O_writeTwo_8 F_writeTwo_8
  refine wp_call (write_ok (x := nI v) q.2 (by simp; omega)) (fun q2 => wp_ret ⟨q.1.trans q2.1, ?_⟩)
  have := q2.2
  rw [nb_n] at this
  exact this
/-- what a node tells of itself: bytes -/
def snI (h : Nat) (d : List Nat) (k : Bk) (i : Nat) : Nat := if i = 0 then 7 else if i = 1 then h / 256 % 256 else if i = 2 then h % 256 else if i < 35 then bg d (i - 3) else if (i - 35) % 5 = 0 then (k ((i - 35) / 5)).toNat / 256 % 256 else if (i - 35) % 5 = 1 then (k ((i - 35) / 5)).toNat % 256 else if (i - 35) % 5 = 2 then (k (16 + (i - 35) / 5)).toNat / 256 % 256 else if (i - 35) % 5 = 3 then (k (16 + (i - 35) / 5)).toNat % 256 else (if k (32 + (i - 35) / 5) = 0 then 0 else 1)
def snM (w : Wd) (n : Nat) : List Nat := mkB 115 (snI (wN w n 1).toNat ((wY w n 9 0).getD z32) (bkN (wN w) n))
theorem snM_len : (snM w n).length = 115 := mkB_len _ _
theorem snM_bg {i : Nat} (hi : i < 115) : bg (snM w n) i = snI (wN w n 1).toNat ((wY w n 9 0).getD z32) (bkN (wN w) n) i := mkB_in hi
theorem sl_st {m : List Nat} {j : Nat} {x : Nat} (h : mB S (sl m 0 j ++ [x])) (e : x = bg m j) : mB S (sl m 0 (j + 1)) := by
  rw [e, sl0_s] at h
  exact h
/-- the answer to a node that is behind -/
def anB (w : Wd) (n h : Nat) : List Nat := if wN w n 1 - 4 ≤ (h : Int) then (match wY w n 7 h with
  | some c => 4 :: c
  | none => snM w n) else snM w n
def anL : List Nat := [32, 33, 85, 86, 87] ++ skL
theorem answer_157 {t : Nat} {m : List Nat} (hN : 1000 ≤ N) (h : rRp F H T S w) (hn : n < H) (ht : t < 13) (hm : mB S m) (h1 : 1 ≤ m.length) : wp (O_answer_157 N (nI n) (nI t) S) (F_answer_157 N (nI n) (nI t) S) (fun S' => rRp F H T S' (aPost w n t m)) := by
  have cb := h.1.1.b
  unfold O_answer_157 F_answer_157
  refine wp_call (fly_ok (tk := wT w) hN hm h1 h.sk h.co.2.2.2.2.2.1 (by omega) ht (by have := h.co.2.2.2.2.2.2.1; omega)) (fun r => ?_)
  unfold O_answer_163 F_answer_163
  exact wp_fin trivial (h.sky r.1 r.2.1)
theorem answer_52 {t : Nat} (hN : 1000 ≤ N) (h : rRp F H T S w) (hn : n < H) (ht : t < 13) (hm : mB S []) (h1 : 0 ≤ wN w n 1 ∧ wN w n 1 ≤ 41) : wp (O_answer_52 N (nI n) (nI t) S) (F_answer_52 N (nI n) (nI t) S) (fun S' => rRp F H T S' (aPost w n t (snM w n))) := by
  have cb := h.1.1.b
  have e44 : S.2.1 44 n = nI (wN w n 1).toNat := h.hN hn (k := 1) (by decide) (by decide) h1.1
  unfold O_answer_52 F_answer_52
  refine wp_call (writeN_ok (x := 7) (by omega) hm (by simp)) (fun q => ?_)
  obtain ⟨q1, q2⟩ := q
  have m1 : mB (f_write N S (nI 7)) (sl (snM w n) 0 1) := sl_st (j := 0) q2 (by rw [snM_bg (by decide)]; try rfl)
  have R1 := h.sf (sf32 q1)
  generalize f_write N S (nI 7) = S1 at q1 m1 R1 ⊢
  unfold O_answer_58 F_answer_58
  rw [n_clamp (by omega), q1.a 44 (by decide), e44]
  refine wp_and ((n_in (by omega)).2 (by omega)) (wp_call (writeTw_ok (v := (wN w n 1).toNat) (by omega) m1 (by rw [sl_len]; decide)) (fun q => ?_))
  obtain ⟨r1, r2⟩ := q
  have m3 : mB (f_writeTwo N S1 (nI (wN w n 1).toNat)) (sl (snM w n) 0 3) := by
    refine sl_st (j := 2) (x := (wN w n 1).toNat % 256) ?_ (by rw [snM_bg (by decide)]; try rfl)
    have e : sl (snM w n) 0 1 ++ [(wN w n 1).toNat / 256 % 256] = sl (snM w n) 0 2 := by
      rw [← sl0_s (snM w n) 1, snM_bg (by decide)]
      rfl
    rw [← e]
    exact r2
  have R2 := R1.sf (sf32 r1)
  generalize f_writeTwo N S1 (nI (wN w n 1).toNat) = S2 at m3 R2 ⊢
  unfold O_answer_68 F_answer_68
  refine wp_seq (Q := fun z : Nat × Int32 × Int32 × rS => z = (0, nI n, nI t, z.2.2.2) ∧ rRp F H T z.2.2.2 w ∧ mB z.2.2.2 (sl (snM w n) 0 35)) ?_ ?_
  · refine wp_loop (K := 32) (fun j y => rRp F H T y w ∧ mB y (sl (snM w n) 0 (3 + j))) (fun q j y => OL_answer_71 N q (nI n) (nI t) (nI j) y) (fun q j y => L_answer_71 N q (nI n) (nI t) (nI j) y) (fun q j y hj hI ih => ?_) 0 N S2 (by omega) (by omega) ⟨R2, m3⟩
    unfold OL_answer_71 L_answer_71 OB_answer_71 B_answer_71
    by_cases e : j = 32
    · refine wp_pos (by rw [n_le' (by omega) (by omega)]; omega) ?_
      subst e
      exact wp_fin trivial ⟨rfl, hI⟩
    obtain ⟨d, d1, d2, d3⟩ := lastByte_ok (N := N) (i := j) (by omega) hn hI.1.n hI.1.c hI.1.k (by omega)
    obtain ⟨_, _, _, d', _, _, _, _, _, _, _, _, _, x10, x11, x12, _⟩ := hI.1.k n hn
    rw [d1] at x10
    cases x10
    rw [d3]
    refine wp_neg (by rw [n_le' (by omega) (by omega)]; omega) (wp_and d2 (wp_call (writeN_ok (x := bg d j) (x12 j) hI.2 (by rw [sl_len]; omega)) (fun r => ?_)))
    obtain ⟨r1, r2⟩ := r
    unfold O_answer_89 F_answer_89
    rw [n_add]
    refine ih _ ⟨hI.1.sf (sf32 r1), sl_st (j := 3 + j) r2 ?_⟩ (by omega)
    rw [snM_bg (by omega)]
    unfold snI
    rw [if_neg (by omega), if_neg (by omega), if_neg (by omega), if_pos (by omega), d1, Nat.add_sub_cancel_left]
    rfl
  rintro z ⟨z0, z1, z2⟩
  rw [z0]
  generalize z.2.2.2 = S3 at z1 z2 ⊢
  show wp (O_answer_95 N (nI n) (nI t) S3) (F_answer_95 N (nI n) (nI t) S3) _
  unfold O_answer_95 F_answer_95
  refine wp_call (reckon_ok hN (by omega) (by omega) hn z1.n z1.c z1.k) (fun q => ?_)
  obtain ⟨k1, k2, k3⟩ := q
  have R4 := z1.sf (k1.sf (by decide) (by decide) (by decide) (by decide))
  have m4 := z2.fr k1 (by decide) (by decide)
  generalize f_reckon N S3 (nI n) = S4 at k1 k2 R4 m4 ⊢
  unfold O_answer_100 F_answer_100
  refine wp_seq (Q := fun z : Nat × Int32 × Int32 × rS => z = (0, nI n, nI t, z.2.2.2) ∧ rRp F H T z.2.2.2 w ∧ mB z.2.2.2 (sl (snM w n) 0 115)) ?_ ?_
  · refine wp_loop (K := 16) (fun j y => rRp F H T y w ∧ bkS y (bkN (wN w) n) ∧ mB y (sl (snM w n) 0 (35 + 5 * j))) (fun q j y => OL_answer_103 N q (nI n) (nI t) (nI j) y) (fun q j y => L_answer_103 N q (nI n) (nI t) (nI j) y) (fun q j y hj hI ih => ?_) 0 N S4 (by omega) (by omega) ⟨R4, k2, m4⟩
    obtain ⟨i1, i2, i3⟩ := hI
    unfold OL_answer_103 L_answer_103 OB_answer_103 B_answer_103
    by_cases e : j = 16
    · refine wp_pos (by rw [n_le' (by omega) (by omega)]; omega) ?_
      subst e
      exact wp_fin trivial ⟨rfl, i1, i3⟩
    obtain ⟨b1, b2, b3, b4⟩ := k3
    have c1 := bkOK.le ⟨b1, b2, b3, b4⟩ (a := j) (by omega)
    have c2 := b3 j (by omega)
    have c3 := b4 j (by omega)
    obtain ⟨v1, hv1⟩ : ∃ v : Nat, bkN (wN w) n j = v := ⟨(bkN (wN w) n j).toNat, by omega⟩
    obtain ⟨v2, hv2⟩ : ∃ v : Nat, bkN (wN w) n (16 + j) = v := ⟨(bkN (wN w) n (16 + j)).toNat, by omega⟩
    obtain ⟨y1, y2, y3⟩ := i2 j (by omega)
    rw [hv1, iI_n] at y1
    rw [hv2, iI_n] at y2
    have at5 : ∀ r, r < 5 → (35 + 5 * j + r - 35) % 5 = r ∧ (35 + 5 * j + r - 35) / 5 = j := fun r hr => by omega
    rw [n_clamp (by omega), y1]
    refine wp_neg (by rw [n_le' (by omega) (by omega)]; omega) (wp_and ((n_in (by omega)).2 (by omega)) (wp_call (writeTw_ok (v := v1) (by omega) i3 (by rw [sl_len]; omega)) (fun q => ?_)))
    obtain ⟨r1, r2⟩ := q
    have ma : mB (f_writeTwo N y (nI v1)) (sl (snM w n) 0 (35 + 5 * j + 2)) := by
      refine sl_st (j := 35 + 5 * j + 1) (x := v1 % 256) ?_ ?_
      · have e : sl (snM w n) 0 (35 + 5 * j) ++ [v1 / 256 % 256] = sl (snM w n) 0 (35 + 5 * j + 1) := by
          rw [← sl0_s (snM w n) (35 + 5 * j), snM_bg (by omega)]
          unfold snI
          rw [if_neg (by omega), if_neg (by omega), if_neg (by omega), if_neg (by omega), if_pos (show (35 + 5 * j - 35) % 5 = 0 by omega), show (35 + 5 * j - 35) / 5 = j by omega, hv1]
          rfl
        rw [← e]
        exact r2
      · rw [snM_bg (by omega)]
        unfold snI
        rw [if_neg (by omega), if_neg (by omega), if_neg (by omega), if_neg (by omega), if_neg (by omega), if_pos (at5 1 (by omega)).1, (at5 1 (by omega)).2, hv1]
        rfl
    have Ra := i1.sf (sf32 r1)
    have ka := i2.fr r1 (by decide) (by decide) (by decide)
    generalize f_writeTwo N y (nI v1) = Sa at ma Ra ka ⊢
    unfold O_answer_121 F_answer_121
    have y2' := (ka j (by omega)).2.1
    rw [hv2, iI_n] at y2'
    rw [n_clamp (by omega), y2']
    refine wp_and ((n_in (by omega)).2 (by omega)) (wp_call (writeTw_ok (v := v2) (by omega) ma (by rw [sl_len]; omega)) (fun q => ?_))
    obtain ⟨r3, r4⟩ := q
    have mb : mB (f_writeTwo N Sa (nI v2)) (sl (snM w n) 0 (35 + 5 * j + 4)) := by
      refine sl_st (j := 35 + 5 * j + 3) (x := v2 % 256) ?_ ?_
      · have e : sl (snM w n) 0 (35 + 5 * j + 2) ++ [v2 / 256 % 256] = sl (snM w n) 0 (35 + 5 * j + 3) := by
          rw [← sl0_s (snM w n) (35 + 5 * j + 2), snM_bg (by omega)]
          unfold snI
          rw [if_neg (by omega), if_neg (by omega), if_neg (by omega), if_neg (by omega), if_neg (by omega), if_neg (by omega), if_pos (at5 2 (by omega)).1, (at5 2 (by omega)).2, hv2]
          rfl
        rw [← e]
        exact r4
      · rw [snM_bg (by omega)]
        unfold snI
        rw [if_neg (by omega), if_neg (by omega), if_neg (by omega), if_neg (by omega), if_neg (by omega), if_neg (by omega), if_neg (by omega), if_pos (at5 3 (by omega)).1, (at5 3 (by omega)).2, hv2]
        rfl
    have Rb := Ra.sf (sf32 r3)
    have kb := ka.fr r3 (by decide) (by decide) (by decide)
    generalize f_writeTwo N Sa (nI v2) = Sb at mb Rb kb ⊢
    unfold O_answer_132 F_answer_132
    have y3' := (kb j (by omega)).2.2
    rw [n_clamp (by omega), y3']
    have lst : ∀ v : Nat, v < 256 → v = bg (snM w n) (35 + 5 * j + 4) → wp (O_answer_148 N (OL_answer_103 N q) (nI n) (nI t) (nI j) (nI v) Sb) (F_answer_148 N (L_answer_103 N q) (nI n) (nI t) (nI j) (nI v) Sb) (fun z : Nat × Int32 × Int32 × rS => z = (0, nI n, nI t, z.2.2.2) ∧ rRp F H T z.2.2.2 w ∧ mB z.2.2.2 (sl (snM w n) 0 115)) := fun v hv ev => by
      unfold O_answer_148 F_answer_148
      refine wp_call (writeN_ok hv mb (by rw [sl_len]; omega)) (fun r => ?_)
      obtain ⟨r5, r6⟩ := r
      unfold O_answer_151 F_answer_151
      rw [n_add]
      exact ih _ ⟨Rb.sf (sf32 r5), kb.fr r5 (by decide) (by decide) (by decide), sl_st (j := 35 + 5 * j + 4) r6 ev⟩ (by omega)
    have at4 : bg (snM w n) (35 + 5 * j + 4) = if bkN (wN w) n (32 + j) = 0 then 0 else 1 := by
      rw [snM_bg (by omega)]
      unfold snI
      rw [if_neg (by omega), if_neg (by omega), if_neg (by omega), if_neg (by omega), if_neg (by omega), if_neg (by omega), if_neg (by omega), if_neg (by omega), (at5 4 (by omega)).2]
    rcases c3 with c3 | c3
    · rw [c3]
      exact wp_and ((n_in (by omega)).2 (by omega)) (wp_pos rfl (lst 0 (by omega) (by rw [at4, if_pos c3])))
    · rw [c3]
      exact wp_and ((n_in (by omega)).2 (by omega)) (wp_neg (by decide) (lst 1 (by omega) (by rw [at4, if_neg (by rw [c3]; decide)])))
  rintro z ⟨z0, z1, z2⟩
  rw [z0]
  generalize z.2.2.2 = S5 at z1 z2 ⊢
  show wp (O_answer_157 N (nI n) (nI t) S5) (F_answer_157 N (nI n) (nI t) S5) _
  have e : sl (snM w n) 0 115 = snM w n := by
    have := sl0_all (snM w n)
    rw [snM_len] at this
    exact this
  rw [e] at z2
  exact answer_157 hN z1 hn ht z2 (by rw [snM_len]; decide)
theorem answer_ok {t x : Nat} (hN : 1000 ≤ N) (h : rRp F H T S w) (hn : n < H) (ht : t < 13) (h1 : 1 ≤ wN w n 1 ∧ wN w n 1 ≤ 41) (hx : (x : Int) < wN w n 1) : wp (o_answer N S (nI n) (nI t) (nI x)) (f_answer N S (nI n) (nI t) (nI x)) (fun S' => rRp F H T S' (aPost w n t (anB w n x))) := by
  have cb := h.1.1.b
  show wp (O_answer_0 N (nI n) (nI t) (nI x) S) (F_answer_0 N (nI n) (nI t) (nI x) S) _
  unfold O_answer_0 F_answer_0
  have f0 : rfr [32, 33] S (rsI S 33 (nI 0)) := rfr.oneI (by decide)
  have m0 : mB (rsI S 33 (nI 0)) [] := mB0
  have R0 := h.sf (sf32 f0)
  generalize rsI S 33 (nI 0) = S0 at f0 m0 R0 ⊢
  have e44 : S0.2.1 44 n = iI (wN w n 1) := R0.num hn 1 (by decide) (by decide)
  have hc := R0.c n x hn (by omega)
  have e4 : iI (wN w n 1) - nI 4 = iI (wN w n 1 - 4) := by
    rw [← iI_n 4, iI_sub]
    rfl
  rw [n_clamp (by omega), e44, e4, ← iI_n x]
  refine wp_and ((n_in (by omega)).2 (by omega)) (wp_ite (fun c => ?_) (fun c => ?_)) <;> rw [iI_lt (by omega) (by omega) (by omega) (by omega)] at c
  · unfold anB
    rw [if_neg (show ¬ wN w n 1 - 4 ≤ (x : Int) by omega)]
    exact answer_52 hN R0 hn ht m0 (by omega)
  rw [iI_n]
  simp only [n_mul, n_add]
  obtain ⟨t1, t2⟩ := isThere_ok (N := N) (p := 585 + 41 * n + x) (by omega) hc
  rw [t2]
  unfold anB
  rw [if_pos (show wN w n 1 - 4 ≤ (x : Int) by omega)]
  refine wp_and t1 ?_
  cases hy : wY w n 7 x with
  | none => exact wp_pos rfl (answer_52 hN R0 hn ht m0 (by omega))
  | some c =>
    rw [hy] at hc
    refine wp_neg (show ¬ nI 1 = 0 by decide) (wp_call (writeN_ok (x := 4) (by omega) m0 (by simp)) (fun q => ?_))
    obtain ⟨q1, q2⟩ := q
    have R1 := R0.sf (sf32 q1)
    have hc1 : bR (f_write N S0 (nI 4)) (585 + 41 * n + x) c := hc.1.fr q1 (by decide) (by decide) (by decide)
    generalize f_write N S0 (nI 4) = S1 at q1 q2 R1 hc1 ⊢
    unfold O_answer_43 F_answer_43
    refine wp_call (writeBlock_ok (p := 585 + 41 * n + x) (b := c) (by omega) q2 hc1.1 hc1.2.1 hc.2.2.2 hc.2.2.1 (by have := hc.2.2.1; simp; omega) hN) (fun r => ?_)
    obtain ⟨r1, r2⟩ := r
    have R2 := R1.sf (sf32 r1)
    generalize f_writeBlock N S1 (nI (585 + 41 * n + x)) = S2 at r2 R2 ⊢
    unfold O_answer_49 F_answer_49
    exact answer_157 hN R2 hn ht r2 (by simp)
end
end

section
/-! THE REFERENCE: the parts of a block of the chain, and the way from one of them to the root -/
def ptK (b : List Nat) (j : Nat) : List (List Nat) := (List.range j).map (fun q => sl b (ptP b q) (ptS b q))
theorem ptK_succ (b : List Nat) (j : Nat) : ptK b (j + 1) = ptK b j ++ [sl b (ptP b j) (ptS b j)] := by
  unfold ptK
  rw [List.range_succ, List.map_append]
  rfl
theorem ptK_len (b : List Nat) (j : Nat) : (ptK b j).length = j := by
  unfold ptK
  rw [List.length_map, List.length_range]
theorem ptP_zero (b : List Nat) : ptP b 0 = 101 := by
  unfold ptP pyP
  by_cases c : 0 < bg b 100
  · rw [if_pos c]; rfl
  · rw [if_neg c, show bg b 100 = 0 by omega]
    rfl
theorem ptK_flat (b : List Nat) : ∀ j, (ptK b j).flatten.length + 101 = ptP b j
  | 0 => by rw [ptP_zero]; rfl
  | j + 1 => by
    have := ptK_flat b j
    rw [ptK_succ, List.flatten_append, List.length_append, ptP_succ]
    simp only [List.flatten_cons, List.flatten_nil, List.append_nil, sl_len]
    omega
theorem ptK_all (b : List Nat) : ptK b (bg b 100 + bg b 99) = partsB b := by
  refine pg_ext (by rw [ptK_len, partsB_len]) (fun p hp => ?_)
  rw [ptK_len] at hp
  rw [pg_parts b hp]
  unfold ptK
  rw [pg_map, if_pos hp]
section
variable {N F H T : Nat} {S : rS} {w : Wd} {b : List Nat} {ps : List (List Nat)}
theorem partsOf_l49 {p a j z : Nat} (hN : 1000 ≤ N) (hp : p < 1354) (hw : wB S p b) (hl : b.length ≤ 691) (hq : rQ S ps []) (ha : a + z ≤ b.length) (hn : ps.flatten.length + z ≤ 600) : wp (OL_partsOf_49 N N (nI p) (nI a) (nI j) (nI z) (nI 0) S) (L_partsOf_49 N N (nI p) (nI a) (nI j) (nI z) (nI 0) S) (fun y => y = (0, nI p, nI a, nI j, nI z, y.2.2.2.2.2) ∧ rfr [15, 16, 17] S y.2.2.2.2.2 ∧ rQ y.2.2.2.2.2 ps (sl b a z)) := by
  refine wp_loop (K := z) (fun i y => rfr [15, 16, 17] S y ∧ rQ y ps (sl b a i)) (fun q i y => OL_partsOf_49 N q (nI p) (nI a) (nI j) (nI z) (nI i) y) (fun q i y => L_partsOf_49 N q (nI p) (nI a) (nI j) (nI z) (nI i) y) (fun q i y hj hI ih => ?_) 0 N S (by omega) (by omega) ⟨rfr.refl, hq⟩
  unfold OL_partsOf_49 L_partsOf_49 OB_partsOf_49 B_partsOf_49
  by_cases e : i = z
  · refine wp_pos (by rw [n_le' (by omega) (by omega)]; omega) ?_
    rw [e] at hI
    exact wp_fin trivial ⟨rfl, hI⟩
  have hw2 : wB y p b := fun k hk => by rw [hI.1.l 12 (by decide)]; exact hw k hk
  obtain ⟨c1, c2⟩ := byte_at (N := N) (i := a + i) hp hw2 hl (by omega)
  rw [n_add, c2]
  refine wp_neg (by rw [n_le' (by omega) (by omega)]; omega) (wp_and c1 (wp_call (partByte_ok (x := bg b (a + i)) hI.2 (by rw [List.length_append, sl_len]; omega)) (fun r => ?_)))
  unfold O_partsOf_69 F_partsOf_69
  rw [n_add]
  rw [sl_sn] at r
  exact ih _ ⟨hI.1.trans (r.1.mono (by decide)), r.2⟩ (by omega)
theorem partsOf_ok {p : Nat} (hN : 1000 ≤ N) (hp : p < 1354) (hw : wB S p b) (hl : b.length ≤ 691) (hB : isB b) (wf : blkWf T b) : wp (o_partsOf N S (nI p)) (f_partsOf N S (nI p)) (fun S' => rfr [15, 16, 17] S S' ∧ rQ S' (partsB b) []) := by
  obtain ⟨w1, _, _, w4, w5, w6, _, w8, _⟩ := wf
  have ple : ∀ j, j ≤ bg b 100 + bg b 99 → ptP b j ≤ b.length := fun j hj => by
    rw [w8]
    exact ptP_le b (bg b 100 + bg b 99 - j) j (by omega)
  show wp (O_partsOf_0 N (nI p) S) (F_partsOf_0 N (nI p) S) _
  unfold O_partsOf_0 F_partsOf_0
  refine wp_call noParts_ok (fun q => ?_)
  have q1 := q.1
  have q2 := q.2
  generalize f_noParts N S = S1 at q1 q2 ⊢
  unfold O_partsOf_4 F_partsOf_4
  refine wp_seq (Q := fun z : Nat × rS => rfr [15, 16, 17] S z.2 ∧ rQ z.2 (partsB b) []) ?_ ?_
  · rw [← ptK_all b, ← ptP_zero b]
    obtain ⟨K, hK⟩ : ∃ K, K = bg b 100 + bg b 99 := ⟨_, rfl⟩
    rw [← hK] at ple ⊢
    refine wp_loop (K := K) (fun j y => rfr [15, 16, 17] S y ∧ rQ y (ptK b j) []) (fun q j y => OL_partsOf_9 N q (nI p) (nI (ptP b j)) (nI j) y) (fun q j y => L_partsOf_9 N q (nI p) (nI (ptP b j)) (nI j) y) (fun q j y hj hI ih => ?_) 0 N S1 (by omega) (by omega) ⟨q1.mono (by decide), q2⟩
    have hw2 : wB y p b := fun k hk => by rw [hI.1.l 12 (by decide)]; exact hw k hk
    obtain ⟨a1, a2⟩ := byte_at (N := N) (i := 100) hp hw2 hl (by omega)
    obtain ⟨b1, b2⟩ := byte_at (N := N) (i := 99) hp hw2 hl (by omega)
    have po : o_proofsOf N y (nI p) := ⟨a1, trivial⟩
    have pf : f_proofsOf N y (nI p) = nI (bg b 100) := a2
    have qo : o_paymentsOf N y (nI p) := ⟨b1, trivial⟩
    have qf : f_paymentsOf N y (nI p) = nI (bg b 99) := b2
    unfold OL_partsOf_9 L_partsOf_9 OB_partsOf_9 B_partsOf_9
    rw [pf, qf, n_add, ← hK]
    refine wp_and po (wp_and qo ?_)
    by_cases e : j = K
    · refine wp_pos (by rw [n_le' (by omega) (by omega)]; omega) ?_
      rw [e] at hI
      exact wp_fin trivial hI
    have pj := ple j (by omega)
    have pj1 := ple (j + 1) (by omega)
    have ps := ptP_succ b j
    have fl := ptK_flat b j
    have sz := ptS_le b j
    have go : wp (O_partsOf_44 N (OL_partsOf_9 N q) (nI p) (nI (ptP b j)) (nI j) (nI (ptS b j)) y) (F_partsOf_44 N (L_partsOf_9 N q) (nI p) (nI (ptP b j)) (nI j) (nI (ptS b j)) y) (fun z : Nat × rS => rfr [15, 16, 17] S z.2 ∧ rQ z.2 (ptK b K) []) := by
      unfold O_partsOf_44 F_partsOf_44
      refine wp_seq (partsOf_l49 hN hp hw2 hl hI.2 (by omega) (by omega)) ?_
      rintro z ⟨z0, z1, z2⟩
      rw [z0]
      generalize z.2.2.2.2.2 = S2 at z1 z2 ⊢
      show wp (O_partsOf_75 N (OL_partsOf_9 N q) (nI p) (nI (ptP b j)) (nI j) (nI (ptS b j)) S2) (F_partsOf_75 N (L_partsOf_9 N q) (nI p) (nI (ptP b j)) (nI j) (nI (ptS b j)) S2) _
      unfold O_partsOf_75 F_partsOf_75
      refine wp_call (endPart_ok z2 (by rw [ptK_len]; omega)) (fun r => ?_)
      unfold O_partsOf_79 F_partsOf_79
      rw [n_add, n_add, ← ps]
      rw [← ptK_succ] at r
      exact ih _ ⟨hI.1.trans (z1.trans (r.1.mono (by decide))), r.2⟩ (by omega)
    refine wp_neg (by rw [n_le' (by omega) (by omega)]; omega) (wp_and po (wp_ite (fun c => ?_) (fun c => ?_))) <;> rw [n_le' (by omega) (by omega)] at c
    · have e7 : ptS b j = 7 := by
        unfold ptS
        rw [if_neg (by omega)]
      rw [e7] at go
      exact go
    · have ee : ptP b j = evP b j ∧ ptS b j = evSz b (evP b j) := by
        unfold ptP ptS
        rw [if_pos (by omega), if_pos (by omega)]
        exact ⟨rfl, rfl⟩
      obtain ⟨d1, d2⟩ := proofBytes_ok (N := N) (i := ptP b j) hp hw2 hl hB (by omega)
      rw [d2, ee.1, ← ee.2, ← ee.1]
      exact wp_and d1 go
  rintro z hz
  unfold OA_partsOf_9 A_partsOf_9 O_partsOf_90 F_partsOf_90
  exact wp_fin trivial hz
/-- what is told of a part of a block of the chain -/
def paA (w : Wd) (H : Nat) (x y u v : Int32) (r : Int64) : Prop := (∃ n h k i b, n < H ∧ 1 ≤ h ∧ h ≤ 40 ∧ i < 2147483648 ∧ wY w n 7 h = some b ∧ k < (partsB b).length ∧ x = nI n ∧ y = nI h ∧ u = nI k ∧ v = nI i ∧ r = eiB (pthP (partsB b) k) i) ∨ ((¬ ∃ n h k i b, n < H ∧ 1 ≤ h ∧ h ≤ 40 ∧ i < 2147483648 ∧ wY w n 7 h = some b ∧ k < (partsB b).length ∧ x = nI n ∧ y = nI h ∧ u = nI k ∧ v = nI i) ∧ r = -1)
theorem path_q {x y u v : Int32} (hN : 1000 ≤ N) (h : rRp F H T S w) (ch : ∀ n h b, n < H → h < 41 → wY w n 7 h = some b → blkWf T b) : wp (o_path_ N S x y u v) (f_path_ N S x y u v) (fun z => sfr S z.2 ∧ paA w H x y u v z.1) := by
  have cb := h.1.1.b
  obtain ⟨i1, i2⟩ := isHonest_ok (N := N) h (x := x)
  show wp (O_path__0 N x y u v S) (F_path__0 N x y u v S) _
  unfold O_path__0 F_path__0
  refine wp_and i1 ?_
  have no : (¬ ∃ n h k i b, n < H ∧ 1 ≤ h ∧ h ≤ 40 ∧ i < 2147483648 ∧ wY w n 7 h = some b ∧ k < (partsB b).length ∧ x = nI n ∧ y = nI h ∧ u = nI k ∧ v = nI i) → wp (O_path__41 N S) (F_path__41 N S) (fun z => sfr S z.2 ∧ paA w H x y u v z.1) := fun g => by
    unfold O_path__41 F_path__41
    exact wp_fin trivial ⟨sfr.refl, Or.inr ⟨g, rfl⟩⟩
  rcases i2 with ⟨n, n1, n2, n3⟩ | ⟨n1, n2⟩
  rotate_left
  · rw [n2]
    exact wp_pos rfl (no (fun ⟨n, hh, k, i, b, p1, p2, p3, p4, p5, p6, p7, _⟩ => n1 ⟨n, p1, p7⟩))
  rw [n3]
  refine wp_neg (by decide) (wp_ite (fun c => ?_) (fun c => ?_))
  · exact no (fun ⟨n, hh, k, i, b, p1, p2, p3, p4, p5, p6, p7, p8, p9, p10⟩ => n_lt0 p4 (by rw [← p10]; exact c))
  obtain ⟨i, k1, k2⟩ := i_nat c
  refine wp_ite (fun c2 => ?_) (fun c2 => ?_)
  · refine no (fun ⟨n, hh, k, i, b, p1, p2, p3, p4, p5, p6, p7, p8, p9, p10⟩ => ?_)
    rw [p8, n_lt' (by omega) (by omega)] at c2
    omega
  obtain ⟨hh, h1, h2⟩ := i_nat (x := y) (fun z => c2 (by
    rw [Int32.lt_iff_toInt_lt] at z ⊢
    exact Int.lt_trans z (by decide)))
  rw [h2, n_lt' (by omega) (by omega)] at c2
  have q : nI 40 < y ↔ 40 < hh := by rw [h2, n_lt' (by omega) (by omega)]
  refine wp_ite (fun d => ?_) (fun d => ?_) <;> rw [q] at d
  · refine no (fun ⟨n, h', k, i, b, p1, p2, p3, p4, p5, p6, p7, p8, p9, p10⟩ => ?_)
    rw [h2, n_eq' (by omega) (by omega)] at p8
    omega
  have pl : nI 585 + nI 41 * x + y = nI (585 + 41 * n + hh) := by rw [n2, h2, n_mul, n_add, n_add]
  rw [pl]
  have hc := h.c n hh n1 (by omega)
  obtain ⟨t1, t2⟩ := isThere_ok (N := N) (p := 585 + 41 * n + hh) (by omega) hc
  rw [t2]
  refine wp_and t1 ?_
  have un : ∀ n' h' : Nat, n' < H → h' ≤ 40 → x = nI n' → y = nI h' → n' = n ∧ h' = hh := fun n' h' a b d e => by
    rw [n2, n_eq' (by omega) (by omega)] at d
    rw [h2, n_eq' (by omega) (by omega)] at e
    exact ⟨d.symm, e.symm⟩
  cases hb : wY w n 7 hh with
  | none =>
    refine wp_pos rfl (no (fun ⟨n', h', k, i, b, p1, p2, p3, p4, p5, p6, p7, p8, p9, p10⟩ => ?_))
    obtain ⟨u1, u2⟩ := un n' h' p1 p3 p7 p8
    rw [u1, u2, hb] at p5
    cases p5
  | some b =>
    rw [hb] at hc
    have wf := ch n hh b n1 (by omega) hb
    obtain ⟨⟨b1, b2, b3⟩, b4⟩ := hc
    refine wp_neg (show ¬ nI 1 = 0 by decide) (wp_call (partsOf_ok hN (by omega) b2 b4.2.1 b4.2.2 wf) (fun q => ?_))
    obtain ⟨q1, q2⟩ := q
    generalize f_partsOf N S (nI (585 + 41 * n + hh)) = S1 at q1 q2 ⊢
    unfold O_path__59 F_path__59
    have sf1 := q1.sf (by decide) (by decide) (by decide) (by decide)
    have no1 : (¬ ∃ n h k i b, n < H ∧ 1 ≤ h ∧ h ≤ 40 ∧ i < 2147483648 ∧ wY w n 7 h = some b ∧ k < (partsB b).length ∧ x = nI n ∧ y = nI h ∧ u = nI k ∧ v = nI i) → wp (O_path__71 N S1) (F_path__71 N S1) (fun z => sfr S z.2 ∧ paA w H x y u v z.1) := fun g => by
      unfold O_path__71 F_path__71
      exact wp_fin trivial ⟨sf1, Or.inr ⟨g, rfl⟩⟩
    have ll := q2.2.1
    refine wp_ite (fun e => ?_) (fun e => ?_)
    · refine no1 (fun ⟨n', h', k, i, b', p1, p2, p3, p4, p5, p6, p7, p8, p9, p10⟩ => ?_)
      obtain ⟨u1, u2⟩ := un n' h' p1 p3 p7 p8
      rw [u1, u2, hb, Option.some.injEq] at p5
      rw [← p5] at p6
      exact n_lt0 (show k < 2147483648 by omega) (by rw [← p9]; exact e)
    obtain ⟨k, k3, k4⟩ := i_nat e
    have q3 : u < S1.1 17 ↔ k < (partsB b).length := by rw [k4, q2.1, n_lt' (by omega) (by omega)]
    refine wp_ite (fun g => ?_) (fun g => ?_) <;> rw [q3] at g
    rotate_left
    · refine no1 (fun ⟨n', h', k', i, b', p1, p2, p3, p4, p5, p6, p7, p8, p9, p10⟩ => ?_)
      obtain ⟨u1, u2⟩ := un n' h' p1 p3 p7 p8
      rw [u1, u2, hb, Option.some.injEq] at p5
      rw [← p5] at p6
      rw [k4, n_eq' (by omega) (by omega)] at p9
      omega
    have g0 : rfr [15, 16, 17, 19, 20] S (rsI S1 20 (nI 0)) := (q1.mono (by decide)).trans (rfr.oneI (by decide))
    have g1 : rfr [20] S1 (rsI S1 20 (nI 0)) := rfr.oneI (by decide)
    have t0 : toT (rsI S1 20 (nI 0)) [] := ⟨I_same _ _ _, by decide, fun i hi => absurd hi (by simp)⟩
    have q4 := q2.fr g1 (by decide) (by decide) (by decide)
    generalize rsI S1 20 (nI 0) = S2 at g0 t0 q4 ⊢
    rw [k4]
    refine wp_call (path_ok (k := k) hN q4 (partsB_B b4.2.2) g t0 (by decide) (h.co.2.2.2.2.1.fr g0 (by decide) (by decide))) (fun q => ?_)
    obtain ⟨u1, u2⟩ := q
    generalize f_path N S2 (nI k) = S3 at u1 u2 ⊢
    unfold O_path__85 F_path__85
    rw [k2]
    refine wp_call (told_q (by omega) u2 k1) (fun q => ?_)
    have f5 : rfr [6, 7, 8, 9, 15, 16, 17, 18, 19, 20] S S3 := (g0.mono (by decide)).trans (u1.mono (by decide))
    exact wp_fin trivial ⟨f5.sf (by decide) (by decide) (by decide) (by decide), Or.inl ⟨n, hh, k, i, b, n1, (by omega), (by omega), k1, hb, g, n2, h2, rfl, rfl, q⟩⟩
end
end

section
/-! THE REFERENCE: what is told: the way from a part to the root -/
/-- what is told -/
def toT (S : rS) (t : List Nat) : Prop := S.1 20 = nI t.length ∧ t.length ≤ 260 ∧ ∀ i, i < t.length → S.2.1 19 i = nI (bg t i)
theorem toT.fr {L : List Nat} {S S1 : rS} {t : List Nat} (h : toT S t) (hf : rfr L S S1) (h1 : 19 ∉ L) (h2 : 20 ∉ L) : toT S1 t := ⟨by rw [hf.i 20 h2]; exact h.1, h.2.1, fun i hi => by rw [hf.a 19 h1]; exact h.2.2 i hi⟩
/-- a leaf's bytes -/
def lvB (lv : Nat → Nat → Int32) (q : Nat) : List Nat := mkB 32 (fun i => nb (lv q i))
def ptS1 (lv : Nat → Nat → Int32) (m k : Nat) : List Nat := if m % 2 = 1 ∧ k = m - 1 then [0] else if k % 2 = 1 then 1 :: lvB lv (k - 1) else 2 :: lvB lv (k + 1)
def pthL (lv : Nat → Nat → Int32) (m k : Nat) : List Nat := if h : m ≤ 1 then [] else ptS1 lv m k ++ pthL (nextL lv m) ((m + 1) / 2) (k / 2)
termination_by m
theorem pthL_lo {lv : Nat → Nat → Int32} {m k : Nat} (h : m ≤ 1) : pthL lv m k = [] := by rw [pthL, dif_pos h]
theorem pthL_hi {lv : Nat → Nat → Int32} {m k : Nat} (h : ¬ m ≤ 1) : pthL lv m k = ptS1 lv m k ++ pthL (nextL lv m) ((m + 1) / 2) (k / 2) := by rw [pthL, dif_neg h]
theorem lvB_congr {lv lv' : Nat → Nat → Int32} {q : Nat} (h : ∀ j, j < 32 → lv q j = lv' q j) : lvB lv q = lvB lv' q := by
  unfold lvB mkB
  refine List.map_congr_left (fun i hi => ?_)
  rw [h i (List.mem_range.1 hi)]
theorem pthL_congr : ∀ (m k : Nat) (lv lv' : Nat → Nat → Int32), k < m → (∀ i j, i < m → j < 32 → lv i j = lv' i j) → pthL lv m k = pthL lv' m k := by
  intro m
  induction m using Nat.strongRecOn with
  | ind m ih =>
    intro k lv lv' hk h
    by_cases c : m ≤ 1
    · rw [pthL_lo c, pthL_lo c]
    rw [pthL_hi c, pthL_hi c]
    have e1 : ptS1 lv m k = ptS1 lv' m k := by
      unfold ptS1
      by_cases d : m % 2 = 1 ∧ k = m - 1
      · rw [if_pos d, if_pos d]
      · rw [if_neg d, if_neg d]
        by_cases e : k % 2 = 1
        · rw [if_pos e, if_pos e, lvB_congr (fun j hj => h (k - 1) j (by omega) hj)]
        · rw [if_neg e, if_neg e, lvB_congr (fun j hj => h (k + 1) j (by omega) hj)]
    rw [e1, ih ((m + 1) / 2) (by omega) (k / 2) (nextL lv m) (nextL lv' m) (by omega) (fun i j hi hj => ?_)]
    unfold nextL
    by_cases d : i < m / 2
    · rw [if_pos d, if_pos d, joinV_congr (fun a ha => h (2 * i) a (by omega) ha) (fun a ha => h (2 * i + 1) a (by omega) ha)]
    · rw [if_neg d, if_neg d]
      exact h (2 * i) j (by omega) hj
section
variable {N F H T : Nat} {S : rS} {w : Wd} {t : List Nat} {ps : List (List Nat)}
theorem tell_ok {x : Nat} (h : toT S t) (hl : t.length < 260) : wp (o_tell N S (nI x)) (f_tell N S (nI x)) (fun S' => rfr [19, 20] S S' ∧ toT S' (t ++ [x])) := by
  obtain ⟨h1, h2, h3⟩ := h
  show wp (O_tell_0 N (nI x) S) (F_tell_0 N (nI x) S) _
  unfold O_tell_0 F_tell_0
  rw [h1, n_clamp (by omega)]
  have e : (rsA S 19 t.length (nI x)).1 20 = nI t.length := h1
  rw [e, n_add]
  have ll : (t ++ [x]).length = t.length + 1 := by simp
  refine wp_fin ⟨((n_in (by omega)).2 (by omega)), trivial⟩ ⟨(rfr.one (by decide)).trans (rfr.oneI (by decide)), ?_, by omega, fun i hi => ?_⟩
  · rw [I_same, ll]
  · rw [I_A, A_same, bg_snoc]
    by_cases c : i = t.length
    · rw [c, upd_same, if_neg (by omega), if_pos rfl]
    · rw [upd_other _ _ c, if_pos (by omega)]
      exact h3 i (by omega)
theorem rLf_nb (S : rS) (q i : Nat) : nI (nb (rLf S q i)) = rLf S q i := by
  rw [← (nb_spec _).2]
  exact byt_255 _ _
theorem path_l83 {k m q : Nat} (hN : 1000 ≤ N) (hq : q < 68) (h : toT S t) (hl : t.length + 32 ≤ 260) : wp (OL_path_83 N N (nI k) (nI m) (nI 0) (nI q) (nI 0) S) (L_path_83 N N (nI k) (nI m) (nI 0) (nI q) (nI 0) S) (fun z => z = (0, nI k, nI m, z.2.2.2) ∧ rfr [19, 20] S z.2.2.2 ∧ toT z.2.2.2 (t ++ lvB (rLf S) q)) := by
  have e32 : lvB (rLf S) q = sl (lvB (rLf S) q) 0 32 := by
    rw [sl_32]
    exact mkB_len _ _
  rw [e32]
  refine wp_loop (K := 32) (fun j y => rfr [19, 20] S y ∧ toT y (t ++ sl (lvB (rLf S) q) 0 j)) (fun n j y => OL_path_83 N n (nI k) (nI m) (nI 0) (nI q) (nI j) y) (fun n j y => L_path_83 N n (nI k) (nI m) (nI 0) (nI q) (nI j) y) (fun n j y hj hI ih => ?_) 0 N S (by omega) (by omega) ⟨rfr.refl, by rw [show sl (lvB (rLf S) q) 0 0 = [] from rfl, List.append_nil]; exact h⟩
  unfold OL_path_83 L_path_83 OB_path_83 B_path_83
  refine wp_pos rfl ?_
  by_cases e : j = 32
  · refine wp_pos (by rw [n_le' (by omega) (by omega)]; omega) ?_
    subst e
    exact wp_fin trivial ⟨rfl, hI⟩
  have lb : byt (S.2.2 18 (4 * q + j / 8)) (j % 8) = nI (bg (lvB (rLf S) q) j) := by
    unfold lvB
    rw [mkB_in (by omega), rLf_nb]
    unfold rLf
    rw [lby_eq (a := 4 * q + j / 8) (b := j % 8) (by omega) (by omega)]
  rw [n_mod' (by omega) (by omega), n_div' (by omega) (by omega), n_mul, n_add, n_clamp (by omega), byteIn_byt, hI.1.l 18 (by decide), lb]
  refine wp_neg (by rw [n_le' (by omega) (by omega)]; omega) (wp_and ((n_in (by omega)).2 (by omega)) (wp_and trivial (wp_call (tell_ok hI.2 (by rw [List.length_append, sl_len]; omega)) (fun r => ?_))))
  unfold O_path_122 F_path_122
  rw [n_add]
  refine ih _ ⟨hI.1.trans r.1, ?_⟩ (by omega)
  have := r.2
  have s := sl_sn (lvB (rLf S) q) 0 j
  rw [Nat.zero_add] at s
  rw [List.append_assoc, s] at this
  exact this
theorem path_77 {rok : Int32 → Int32 → rS → Prop} {rec : Int32 → Int32 → rS → Nat × rS} {k m q x c : Nat} {Q : Nat × rS → Prop} (hN : 1000 ≤ N) (hq : q < 68) (hk : k < 68) (hm : m ≤ 66) (hc : c ≤ 1) (hK : rK S) (h : toT S t) (hl : t.length + 33 ≤ 260) (kk : ∀ S', rfr [6, 7, 8, 9, 18, 19, 20] S S' → toT S' (t ++ (x :: if c = 0 then lvB (rLf S) q else [])) → (∀ i j, i < (m + 1) / 2 → j < 32 → rLf S' i j = nextL (rLf S) m i j) → wp (rok (nI (k / 2)) (nI ((m + 1) / 2)) S') (rec (nI (k / 2)) (nI ((m + 1) / 2)) S') Q) : wp (O_path_77 N rok (nI k) (nI m) (nI c) (nI q) (nI x) S) (F_path_77 N rec (nI k) (nI m) (nI c) (nI q) (nI x) S) Q := by
  unfold O_path_77 F_path_77
  refine wp_call (tell_ok h (by omega)) (fun r => ?_)
  have r1 := r.1
  have r2 := r.2
  generalize f_tell N S (nI x) = S1 at r1 r2 ⊢
  have e1 : rLf S1 = rLf S := by
    funext i j
    unfold rLf
    rw [r1.l 18 (by decide)]
  unfold O_path_80 F_path_80
  refine wp_seq (Q := fun z : Nat × Int32 × Int32 × rS => z = (0, nI k, nI m, z.2.2.2) ∧ rfr [19, 20] S z.2.2.2 ∧ toT z.2.2.2 (t ++ (x :: if c = 0 then lvB (rLf S) q else []))) ?_ ?_
  · by_cases e : c = 0
    · subst e
      rw [if_pos rfl]
      refine wp_mono (path_l83 (k := k) (m := m) hN hq r2 (by rw [List.length_append]; simp; omega)) (fun z => ⟨z.1, r1.trans z.2.1, ?_⟩)
      have := z.2.2
      rw [e1, List.append_assoc] at this
      exact this
    · rw [if_neg e]
      obtain ⟨N', rfl⟩ := exs (show 0 < N by omega)
      show wp (OB_path_83 _ _ _ _ _ _ _ _) (B_path_83 _ _ _ _ _ _ _ _) _
      unfold OB_path_83 B_path_83
      exact wp_neg (by rw [n_eq0 (by omega)]; exact e) (wp_fin trivial ⟨rfl, r1, r2⟩)
  rintro z ⟨z0, z1, z2⟩
  rw [z0]
  generalize z.2.2.2 = S2 at z1 z2 ⊢
  show wp (O_path_128 N rok (nI k) (nI m) S2) (F_path_128 N rec (nI k) (nI m) S2) _
  unfold O_path_128 F_path_128
  obtain ⟨j1, j2, j3, j4⟩ := join_ok (N := N) (m := m) (by omega) hm (hK.fr z1 (by decide) (by decide))
  have e2 : rLf S2 = rLf S := by
    funext i j
    unfold rLf
    rw [z1.l 18 (by decide)]
  rw [e2] at j4
  rw [j2, n_div' (by omega) (by omega)]
  exact wp_and j1 (kk _ ((z1.mono (by decide)).trans (j3.mono (by decide))) (z2.fr j3 (by decide) (by decide)) j4)
theorem path_l11 (hN : 1000 ≤ N) : ∀ (e q m k : Nat) (S : rS) (t : List Nat), m ≤ 2 ^ e → m ≤ 66 → e < q → k < m → t.length + 33 * e ≤ 260 → toT S t → rK S → wp (OL_path_11 N q (nI k) (nI m) S) (L_path_11 N q (nI k) (nI m) S) (fun z => rfr [6, 7, 8, 9, 18, 19, 20] S z.2 ∧ toT z.2 (t ++ pthL (rLf S) m k))
  | e, 0, _, _, _, _, _, _, h, _, _, _, _ => absurd h (by omega)
  | e, q + 1, m, k, S, t, h1, h2, h3, h4, h5, h6, h7 => by
    unfold OL_path_11 L_path_11 OB_path_11 B_path_11
    refine wp_ite (fun c => ?_) (fun c => ?_) <;> rw [n_le' (by omega) (by omega)] at c
    · rw [pthL_lo c, List.append_nil]
      exact wp_fin trivial ⟨rfr.refl, h6⟩
    cases e with
    | zero =>
      have : m ≤ 1 := h1
      omega
    | succ e =>
      rw [pthL_hi c]
      have m2 : (m + 1) / 2 ≤ 2 ^ e := by
        rw [Nat.pow_succ] at h1
        omega
      have go : ∀ c' q' x : Nat, c' ≤ 1 → q' < 68 → ptS1 (rLf S) m k = (x :: if c' = 0 then lvB (rLf S) q' else []) → wp (O_path_77 N (OL_path_11 N q) (nI k) (nI m) (nI c') (nI q') (nI x) S) (F_path_77 N (L_path_11 N q) (nI k) (nI m) (nI c') (nI q') (nI x) S) (fun z => rfr [6, 7, 8, 9, 18, 19, 20] S z.2 ∧ toT z.2 (t ++ (ptS1 (rLf S) m k ++ pthL (nextL (rLf S) m) ((m + 1) / 2) (k / 2)))) := fun c' q' x g1 g2 g3 => by
        refine path_77 hN g2 (by omega) h2 g1 h7 h6 (by omega) (fun S' f1 f2 f3 => ?_)
        rw [← g3] at f2
        have ll : (t ++ ptS1 (rLf S) m k).length + 33 * e ≤ 260 := by
          have : (ptS1 (rLf S) m k).length ≤ 33 := by
            rw [g3]
            split
            · rw [List.length_cons, show (lvB (rLf S) q').length = 32 from mkB_len _ _]; omega
            · simp
          rw [List.length_append]
          omega
        refine wp_mono (path_l11 hN e q ((m + 1) / 2) (k / 2) S' _ m2 (by omega) (by omega) (by omega) ll f2 (h7.fr f1 (by decide) (by decide))) (fun z => ⟨f1.trans z.1, ?_⟩)
        have := z.2
        rw [pthL_congr ((m + 1) / 2) (k / 2) (rLf S') (nextL (rLf S) m) (by omega) f3, List.append_assoc] at this
        exact this
      have g34 : ¬ (m % 2 = 1 ∧ k = m - 1) → wp (O_path_34 N (OL_path_11 N q) (nI k) (nI m) S) (F_path_34 N (L_path_11 N q) (nI k) (nI m) S) (fun z => rfr [6, 7, 8, 9, 18, 19, 20] S z.2 ∧ toT z.2 (t ++ (ptS1 (rLf S) m k ++ pthL (nextL (rLf S) m) ((m + 1) / 2) (k / 2)))) := fun d => by
        unfold O_path_34 F_path_34 O_path_35 F_path_35
        rw [n_mod' (by omega) (by omega)]
        refine wp_ite (fun o => ?_) (fun o => ?_) <;> rw [n_eq' (by omega) (by omega)] at o
        · unfold O_path_53 F_path_53
          rw [n_mod' (by omega) (by omega), n_sub (by omega)]
          refine wp_pos rfl (wp_pos (by rw [n_eq' (by omega) (by omega)]; exact o) (go 0 (k - 1) 1 (by omega) (by omega) ?_))
          unfold ptS1
          rw [if_neg d, if_pos o, if_pos rfl]
        · unfold O_path_53 F_path_53
          rw [n_mod' (by omega) (by omega), n_add]
          refine wp_pos rfl (wp_neg (by rw [n_eq' (by omega) (by omega)]; exact o) (go 0 (k + 1) 2 (by omega) (by omega) ?_))
          unfold ptS1
          rw [if_neg d, if_neg o, if_pos rfl]
      rw [n_mod' (by omega) (by omega), n_sub (by omega)]
      refine wp_ite (fun o => ?_) (fun o => ?_) <;> rw [n_eq' (by omega) (by omega)] at o
      · refine wp_ite (fun d => ?_) (fun d => ?_) <;> rw [n_eq' (by omega) (by omega)] at d
        · have d2 : m % 2 = 1 ∧ k = m - 1 := ⟨o, d⟩
          have e0 : ptS1 (rLf S) m k = (0 :: if (1 : Nat) = 0 then lvB (rLf S) (k + 1) else []) := by
            unfold ptS1
            rw [if_pos d2, if_neg (by decide)]
          have e0' : ptS1 (rLf S) m k = (0 :: if (1 : Nat) = 0 then lvB (rLf S) (k - 1) else []) := by
            unfold ptS1
            rw [if_pos d2, if_neg (by decide)]
          unfold O_path_35 F_path_35
          rw [n_mod' (by omega) (by omega)]
          refine wp_ite (fun o => ?_) (fun o => ?_) <;> rw [n_eq' (by omega) (by omega)] at o
          · unfold O_path_53 F_path_53
            rw [n_sub (by omega)]
            exact wp_neg (by decide) (go 1 (k - 1) 0 (by omega) (by omega) e0')
          · unfold O_path_53 F_path_53
            rw [n_add]
            exact wp_neg (by decide) (go 1 (k + 1) 0 (by omega) (by omega) e0)
        · exact g34 (by omega)
      · exact g34 (by omega)
/-- the way from a part to the root -/
def pthP (ps : List (List Nat)) (k : Nat) : List Nat := pthL (lfP ps) ps.length k
theorem path_ok {k : Nat} (hN : 1000 ≤ N) (hq : rQ S ps []) (hb : allB ps) (hk : k < ps.length) (h : toT S t) (hl : t.length ≤ 20) (hK : rK S) : wp (o_path N S (nI k)) (f_path N S (nI k)) (fun S' => rfr [6, 7, 8, 9, 18, 19, 20] S S' ∧ toT S' (t ++ pthP ps k)) := by
  have h66 := hq.2.1
  show wp (O_path_0 N (nI k) S) (F_path_0 N (nI k) S) _
  unfold O_path_0 F_path_0
  obtain ⟨a1, a2, a3⟩ := leaves_ok (N := N) hN hq.pt hK
  have a4 : ∀ i j, i < ps.length → j < 32 → rLf (f_leavesOf N S) i j = lfP ps i j := fun i j hi hj => by
    rw [a3 i j (Or.inl hi) hj, if_neg (by omega)]
    exact hq.leaf hb hi hj
  refine wp_and a1 ?_
  generalize f_leavesOf N S = S1 at a2 a4 ⊢
  unfold O_path_4 F_path_4
  rw [a2.i 17 (by decide), hq.1]
  refine wp_seq (path_l11 hN 7 N ps.length k S1 t (show ps.length ≤ 128 by omega) h66 (by omega) hk (by omega) (h.fr a2 (by decide) (by decide)) (hK.fr a2 (by decide) (by decide))) ?_
  rintro z ⟨z1, z2⟩
  unfold OA_path_11 A_path_11 O_path_141 F_path_141
  refine wp_fin trivial ⟨(a2.mono (by decide)).trans z1, ?_⟩
  rw [pthL_congr ps.length k (rLf S1) (lfP ps) hk a4] at z2
  exact z2
theorem told_q {i : Nat} (hN : 100 ≤ N) (h : toT S t) (hi : i < 2147483648) : wp (o_told N S (nI i)) (f_told N S (nI i)) (fun v => v = eiB t i) := by
  obtain ⟨h1, h2, h3⟩ := h
  show wp (O_told_0 N (nI i) S) (F_told_0 N (nI i) S) _
  unfold O_told_0 F_told_0
  refine wp_seq (Q := fun z : Nat × Int64 × Unit => z = (0, eiB t i, ())) ?_ ?_
  · refine wp_loop (σ := Unit) (K := 8) (fun _ _ => True) (fun q j _ => OL_told_5 N q (nI i) (l8 (fun b => nI (bg t (i + b))) j) (nI j) S) (fun q j _ => L_told_5 N q (nI i) (l8 (fun b => nI (bg t (i + b))) j) (nI j) S) (fun q j _ hj _ ih => ?_) 0 N () (by omega) (by omega) trivial
    unfold OL_told_5 L_told_5 OB_told_5 B_told_5
    by_cases e : j = 8
    · refine wp_pos (by rw [n_le' (by omega) (by omega)]; omega) ?_
      rw [e]
      exact wp_fin trivial rfl
    have zero : t.length ≤ i + j → wp (O_told_47 N (fun a b c => OL_told_5 N q a b c S) (nI i) (nI j) (l8 (fun b => nI (bg t (i + b))) j <<< (Int32.toInt64 (nI 8) &&& 63)) S) (F_told_47 N (fun a b c => L_told_5 N q a b c S) (nI i) (nI j) (l8 (fun b => nI (bg t (i + b))) j <<< (Int32.toInt64 (nI 8) &&& 63)) S) (fun z : Nat × Int64 × Unit => z = (0, eiB t i, ())) := fun hz => by
      unfold O_told_47 F_told_47 O_told_48 F_told_48
      rw [n_add]
      have := ih () trivial (by omega)
      have s : l8 (fun b => nI (bg t (i + b))) (j + 1) = (l8 (fun b => nI (bg t (i + b))) j <<< (Int32.toInt64 (nI 8) &&& 63)) ||| Int32.toInt64 (nI 0) := by
        show (l8 (fun b => nI (bg t (i + b))) j <<< (Int32.toInt64 (nI 8) &&& 63)) ||| Int32.toInt64 (nI (bg t (i + j))) = _
        rw [bg_out hz]
      rw [s] at this
      exact this
    rw [h1]
    refine wp_neg (by rw [n_le' (by omega) (by omega)]; omega) (wp_ite (fun c1 => ?_) (fun c1 => ?_)) <;> rw [n_le' (by omega) hi] at c1
    · exact zero (by omega)
    rw [n_sub (by omega)]
    refine wp_ite (fun c2 => ?_) (fun c2 => ?_) <;> rw [n_le' (by omega) (by omega)] at c2
    · exact zero (by omega)
    rw [n_add, n_clamp (by omega), h3 (i + j) (by omega)]
    refine wp_and ((n_in (by omega)).2 (by omega)) ?_
    unfold O_told_48 F_told_48
    rw [n_add]
    exact ih () trivial (by omega)
  rintro z hz
  rw [hz]
  unfold OA_told_5 A_told_5 O_told_57 F_told_57
  exact wp_fin trivial rfl
/-- what is told of an account -/
def acA (w : Wd) (H : Nat) (x y u : Int32) (v : Int64) : Prop := (∃ n a i, n < H ∧ a < 16 ∧ i < 2147483648 ∧ x = nI n ∧ y = nI a ∧ u = nI i ∧ v = eiB (acP (bkN (wN w) n) a ++ pthP (acL (bkN (wN w) n) 16) a) i) ∨ ((¬ ∃ n a i, n < H ∧ a < 16 ∧ i < 2147483648 ∧ x = nI n ∧ y = nI a ∧ u = nI i) ∧ v = -1)
theorem acL_fl {k : Bk} : ∀ {n a j : Nat}, a < n → j < 6 → bg (acL k n).flatten (6 * a + j) = bg (acP k a) j := by
  intro n a j ha hj
  have e : pg (acL k n) a = acP k a := by
    unfold acL
    rw [pg_map, if_pos ha]
  have tk : ∀ m, m ≤ n → ((acL k n).take m) = acL k m := fun m hm => by
    unfold acL
    rw [← List.map_take, List.take_range, Nat.min_eq_left hm]
  have := (flat_at (acL k n) a j (by rw [acL_len]; exact ha) (by rw [e]; exact hj)).1
  rw [tk a (by omega), acL_flat, e] at this
  exact this
theorem account_q {x y u : Int32} (hN : 1000 ≤ N) (h : rRp F H T S w) : wp (o_account N S x y u) (f_account N S x y u) (fun z => sfr S z.2 ∧ acA w H x y u z.1) := by
  have cb := h.1.1.b
  obtain ⟨i1, i2⟩ := isHonest_ok (N := N) h (x := x)
  show wp (O_account_0 N x y u S) (F_account_0 N x y u S) _
  unfold O_account_0 F_account_0
  refine wp_and i1 ?_
  have no : (¬ ∃ n a i, n < H ∧ a < 16 ∧ i < 2147483648 ∧ x = nI n ∧ y = nI a ∧ u = nI i) → wp (O_account_22 N S) (F_account_22 N S) (fun z => sfr S z.2 ∧ acA w H x y u z.1) := fun g => by
    unfold O_account_22 F_account_22
    exact wp_fin trivial ⟨sfr.refl, Or.inr ⟨g, rfl⟩⟩
  rcases i2 with ⟨n, n1, n2, n3⟩ | ⟨n1, n2⟩
  rotate_left
  · rw [n2]
    exact wp_pos rfl (no (fun ⟨n, a, i, p1, p2, p3, p4, _⟩ => n1 ⟨n, p1, p4⟩))
  rw [n3]
  refine wp_neg (by decide) (wp_ite (fun c => ?_) (fun c => ?_))
  · exact no (fun ⟨n, a, i, p1, p2, p3, p4, p5, _⟩ => n_lt0 (show a < 2147483648 by omega) (by rw [← p5]; exact c))
  obtain ⟨a, a1, a2⟩ := i_nat c
  have q : nI 15 < y ↔ 15 < a := by rw [a2, n_lt' (by omega) (by omega)]
  refine wp_ite (fun d => ?_) (fun d => ?_) <;> rw [q] at d
  · refine no (fun ⟨n, a', i, p1, p2, p3, p4, p5, _⟩ => ?_)
    rw [a2, n_eq' (by omega) (by omega)] at p5
    omega
  refine wp_ite (fun e => ?_) (fun e => ?_)
  rotate_left
  · refine no (fun ⟨n, a', i, p1, p2, p3, p4, p5, p6⟩ => e ?_)
    rw [p6, show (0 : Int32) = nI 0 from rfl, n_le' (by omega) p3]
    omega
  obtain ⟨i, i3, i4⟩ := i_nat (x := u) (fun z => by
    rw [Int32.lt_iff_toInt_lt] at z
    rw [Int32.le_iff_toInt_le] at e
    omega)
  rw [n2, a2, i4]
  refine wp_call (reckon_ok hN cb.1 cb.2.1 n1 h.n h.c h.k) (fun q => ?_)
  obtain ⟨q1, q2, q3⟩ := q
  generalize f_reckon N S (nI n) = S1 at q1 q2 ⊢
  unfold O_account_31 F_account_31
  refine wp_call (accountParts_ok q2 q3 (by omega)) (fun q => ?_)
  obtain ⟨r1, r2⟩ := q
  generalize f_accountParts N S1 = S2 at r1 r2 ⊢
  have f2 : rfr [15, 16, 17, 85, 86, 87] S S2 := (q1.mono (by decide)).trans (r1.mono (by decide))
  unfold O_account_35 F_account_35
  have g0 : rfr [19, 20] S2 (rsI S2 20 (nI 0)) := rfr.oneI (by decide)
  have t0 : toT (rsI S2 20 (nI 0)) [] := ⟨I_same _ _ _, by decide, fun i hi => absurd hi (by simp)⟩
  generalize rsI S2 20 (nI 0) = S3 at g0 t0 ⊢
  obtain ⟨k, hk⟩ : ∃ k, k = bkN (wN w) n := ⟨_, rfl⟩
  rw [← hk] at r2 q3
  have al : (acP k a).length = 6 := rfl
  have s6 : sl (acP k a) 0 6 = acP k a := by
    have := sl0_all (acP k a)
    rw [al] at this
    exact this
  refine wp_seq (Q := fun z : Nat × Int32 × Int32 × rS => z = (0, nI a, nI i, z.2.2.2) ∧ rfr [19, 20] S2 z.2.2.2 ∧ toT z.2.2.2 (acP k a)) ?_ ?_
  · rw [← s6]
    refine wp_loop (K := 6) (fun j y => rfr [19, 20] S2 y ∧ toT y (sl (acP k a) 0 j)) (fun q j y => OL_account_43 N q (nI a) (nI i) (nI j) y) (fun q j y => L_account_43 N q (nI a) (nI i) (nI j) y) (fun q j y hj hI ih => ?_) 0 N S3 (by omega) (by omega) ⟨g0, t0⟩
    unfold OL_account_43 L_account_43 OB_account_43 B_account_43
    by_cases e : j = 6
    · refine wp_pos (by rw [n_le' (by omega) (by omega)]; omega) ?_
      subst e
      exact wp_fin trivial ⟨rfl, hI⟩
    have r6 := r2.2.2.2.2.2 (6 * a + j) (by rw [List.append_nil, acL_flat]; omega)
    rw [List.append_nil, acL_fl (by omega) (by omega)] at r6
    rw [n_mul, n_add, n_clamp (by omega), hI.1.a 15 (by decide), r6]
    refine wp_neg (by rw [n_le' (by omega) (by omega)]; omega) (wp_and ((n_in (by omega)).2 (by omega)) (wp_call (tell_ok hI.2 (by rw [sl_len]; omega)) (fun r => ?_)))
    unfold O_account_66 F_account_66
    rw [n_add]
    refine ih _ ⟨hI.1.trans r.1, ?_⟩ (by omega)
    have := r.2
    have s := sl_sn (acP k a) 0 j
    rw [Nat.zero_add] at s
    rw [s] at this
    exact this
  rintro z ⟨z0, z1, z2⟩
  rw [z0]
  generalize z.2.2.2 = S4 at z1 z2 ⊢
  show wp (O_account_72 N (nI a) (nI i) S4) (F_account_72 N (nI a) (nI i) S4) _
  unfold O_account_72 F_account_72
  have f4 : rfr [15, 16, 17, 19, 20, 85, 86, 87] S S4 := (f2.mono (by decide)).trans (z1.mono (by decide))
  refine wp_call (path_ok (k := a) hN (r2.fr z1 (by decide) (by decide) (by decide)) (acL_B q3) (by rw [acL_len]; omega) z2 (by rw [al]; decide) (h.co.2.2.2.2.1.fr f4 (by decide) (by decide))) (fun q => ?_)
  obtain ⟨u1, u2⟩ := q
  generalize f_path N S4 (nI a) = S5 at u1 u2 ⊢
  unfold O_account_77 F_account_77
  refine wp_call (told_q (by omega) u2 i3) (fun q => ?_)
  have f5 : rfr [6, 7, 8, 9, 15, 16, 17, 18, 19, 20, 85, 86, 87] S S5 := (f4.mono (by decide)).trans (u1.mono (by decide))
  refine wp_fin trivial ⟨f5.sf (by decide) (by decide) (by decide) (by decide), Or.inl ⟨n, a, i, n1, (by omega), i3, rfl, rfl, rfl, ?_⟩⟩
  rw [← hk]
  exact q
end
end

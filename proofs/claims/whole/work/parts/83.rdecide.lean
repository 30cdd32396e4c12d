section
/-! THE REFERENCE DECIDES -/
/-- two books agree on what is told -/
def agB (k k' : Bk) : Prop := ∀ i, i < 48 → k i = k' i
theorem agB.u {k k' : Bk} {i : Nat} {v v' : Int} (h : agB k k') (e : v = v') : agB (bU k i v) (bU k' i v') := fun j hj => by
  unfold bU
  split
  · exact e
  · exact h j hj
theorem bPay_cg {k k' : Bk} {f t a nc tp mk : Nat} (h : agB k k') (hf : f < 16) (ht : t < 16) (hm : mk < 16) : agB (bPay k f t a nc tp mk).1 (bPay k' f t a nc tp mk).1 ∧ (bPay k f t a nc tp mk).2 = (bPay k' f t a nc tp mk).2 := by
  have e1 := h (16 + f) (by omega)
  have e2 := h f (by omega)
  unfold bPay
  rw [e1, e2]
  split
  · have u1 : agB (bU k f (k' f - a - tp)) (bU k' f (k' f - a - tp)) := h.u rfl
    have u2 : agB (bU (bU k f (k' f - a - tp)) t (bU k f (k' f - a - tp) t + a)) (bU (bU k' f (k' f - a - tp)) t (bU k' f (k' f - a - tp) t + a)) := u1.u (by rw [u1 t (by omega)])
    exact ⟨(u2.u (by rw [u2 mk (by omega)])).u rfl, rfl⟩
  · exact ⟨h, rfl⟩
theorem bFine_cg {k k' : Bk} {s mk : Nat} (h : agB k k') (hs : s < 16) (hm : mk < 16) : agB (bFine k s mk).1 (bFine k' s mk).1 ∧ (bFine k s mk).2 = (bFine k' s mk).2 := by
  have e1 := h (32 + s) (by omega)
  have e2 := h s (by omega)
  unfold bFine
  rw [e1, e2]
  split
  · have u1 : agB (bU (bU k (32 + s) 1) s (k' s - bGv (k' s))) (bU (bU k' (32 + s) 1) s (k' s - bGv (k' s))) := (h.u rfl).u rfl
    exact ⟨u1.u (by rw [u1 mk (by omega)]), rfl⟩
  · exact ⟨h, rfl⟩
theorem bEv_cg {T : Nat} {b : List Nat} {k k' : Bk} (h : agB k k') (hb : blkWf T b) (hT : T ≤ 13) : ∀ j, j ≤ bg b 100 → agB (bEv b k j).1 (bEv b k' j).1 ∧ (bEv b k j).2 = (bEv b k' j).2
  | 0, _ => ⟨h, rfl⟩
  | j + 1, hj => by
    obtain ⟨i1, i2⟩ := bEv_cg h hb hT j (by omega)
    have e := (hb.2.2.2.2.2.1 j (by omega)).2.1
    have m := hb.2.2.1
    unfold bEv
    rw [i2]
    by_cases c : (bEv b k' j).2 = true
    · rw [if_pos c, if_pos c]; exact bFine_cg i1 (by omega) (by omega)
    · rw [if_neg c, if_neg c]; exact ⟨i1, i2⟩
theorem bPy_cg {T : Nat} {b : List Nat} {k k' : Bk × Bool} (h : agB k.1 k'.1) (h2 : k.2 = k'.2) (hb : blkWf T b) (hT : T ≤ 13) : ∀ j, j ≤ bg b 99 → agB (bPy b k j).1 (bPy b k' j).1 ∧ (bPy b k j).2 = (bPy b k' j).2
  | 0, _ => ⟨h, h2⟩
  | j + 1, hj => by
    obtain ⟨i1, i2⟩ := bPy_cg h h2 hb hT j (by omega)
    obtain ⟨_, e1, e2, _⟩ := hb.2.2.2.2.2.2.1 j (by omega)
    have m := hb.2.2.1
    unfold bPy
    rw [i2]
    by_cases c : (bPy b k' j).2 = true
    · rw [if_pos c, if_pos c]; exact bPay_cg i1 (by omega) (by omega) (by omega)
    · rw [if_neg c, if_neg c]; exact ⟨i1, i2⟩
theorem bPl_cg {T : Nat} {b : List Nat} {k k' : Bk} (h : agB k k') (hb : blkWf T b) (hT : T ≤ 13) : agB (bPl k b).1 (bPl k' b).1 ∧ (bPl k b).2 = (bPl k' b).2 := by
  obtain ⟨i1, i2⟩ := bEv_cg h hb hT (bg b 100) (Nat.le_refl _)
  exact bPy_cg i1 i2 hb hT _ (Nat.le_refl _)
section
variable {N n F H T : Nat} {S : rS} {w : Wd}
theorem aLift_M {x2 i : Nat} {d : List Nat} {k : Bk} (h : i < 48) : wN (aLift w n x2 d k) n (32 + i) = k i := by
  show (if n = n then (if 32 + i = 1 then (x2 : Int) else if 32 + i = 2 ∨ 32 + i = 3 ∨ (6 ≤ 32 + i ∧ 32 + i ≤ 8) ∨ 32 + i = 15 ∨ 32 + i = 17 then 0 else if 32 + i = 4 ∨ 32 + i = 5 ∨ (9 ≤ 32 + i ∧ 32 + i ≤ 11) then -1 else if 32 ≤ 32 + i ∧ 32 + i < 80 then k (32 + i - 32) else w.1 n (32 + i)) else w.1 n (32 + i)) = k i
  rw [if_pos rfl, if_neg (by omega), if_neg (by omega), if_neg (by omega), if_pos (by omega), Nat.add_sub_cancel_left]
theorem aLift_9 {x2 : Nat} {d : List Nat} {k : Bk} : wY (aLift w n x2 d k) n 9 0 = some d := by
  show (if n = n then (if 9 = 0 ∨ 9 = 1 ∨ 9 = 6 then none else if 9 = 4 ∧ _ then none else if 9 = 5 ∧ _ then none else if 9 = 9 then some d else _) else _) = some d
  rw [if_pos rfl, if_neg (by omega), if_neg (fun z => absurd z.1 (by decide)), if_neg (fun z => absurd z.1 (by decide)), if_pos rfl]
theorem jK.dec {h : Nat} {c : List Nat} (hj : jK T H S (wN w) (wY w)) (hT : T ≤ 13) (hn : n < H) (hh : wN w n 1 = h) (h40 : h ≤ 40) (hc : wY w n 7 h = some c) (hw : blkWf T c) : jK T H S (wN (aLift w n (h + 1) (idB c) (bPl (bkN (wN w) n) c).1)) (wY (aLift w n (h + 1) (idB c) (bPl (bkN (wN w) n) c).1)) := fun m hm => by
  by_cases e : m = n
  · subst e
    obtain ⟨hh', bh, k0, d, g1, g2, g3, g4, g5, g6, g7, g8, g9, g10, g11, g12, g13, g14, g15⟩ := hj m hn
    have eh : hh' = h := by rw [hh] at g1; omega
    subst eh
    have e7 : wY (aLift w m (hh' + 1) (idB c) (bPl (bkN (wN w) m) c).1) m 7 = wY w m 7 := by
      funext i
      exact aLift_Y (by omega)
    refine ⟨hh' + 1, bh, k0, idB c, aLift_1, g2, by omega, by omega, g5, g6, g7, fun x h1 h2 => ?_, fun i hi => ?_, aLift_9, idB_len c, idB_B c, fun z => by omega, fun _ z => by omega, fun _ _ => ⟨c, ?_, rfl⟩⟩
    · rw [e7]
      by_cases cx : x = hh'
      · exact ⟨c, by rw [cx]; exact hc, hw⟩
      · exact g8 x h1 (by omega)
    · rw [e7, aLift_M hi, show hh' + 1 - bh = (hh' - bh) + 1 by omega]
      have un : bRe k0 (wY w m 7) bh (hh' - bh + 1) = (bPl (bRe k0 (wY w m 7) bh (hh' - bh)) c).1 := by
        rw [bRe, show bh + (hh' - bh) = hh' by omega, hc]
      rw [un]
      exact (bPl_cg (T := T) (k := bRe k0 (wY w m 7) bh (hh' - bh)) (k' := bkN (wN w) m) g9 hw hT).1 i hi
    · rw [e7]
      exact hc
  · obtain ⟨hh', bh, k0, d, g1, g2, g3, g4, g5, g6, g7, g8, g9, g10, g11⟩ := hj m hm
    have e7 : wY (aLift w n (h + 1) (idB c) (bPl (bkN (wN w) n) c).1) m 7 = wY w m 7 := by
      funext i
      exact aLift_Y (by omega)
    refine ⟨hh', bh, k0, d, by rw [aLift_N (Or.inl e)]; exact g1, g2, g3, g4, g5, g6, g7, ?_, fun i hi => ?_, by rw [aLift_Y (Or.inl e)]; exact g10, ?_⟩
    · rw [e7]; exact g8
    · rw [e7, aLift_N (Or.inl e)]; exact g9 i hi
    · rw [e7]; exact g11
/-- where a note was whole -/
theorem aNote_t {t : List Nat} {first : Nat} (h : (aNote w n t first).1 = true) : (∀ m k, (k < 12 ∨ 14 < k) → k < 100 → wN (aNote w n t first).2 m k = wN w m k) ∧ wY (aNote w n t first).2 = wY w ∧ wP (aNote w n t first).2 = wP w ∧ wK (aNote w n t first).2 = wK w ∧ wT (aNote w n t first).2 = wT w ∧ wL (aNote w n t first).2 = wL w ∧ (0 ≤ wN w n 12 ∧ wN w n 12 ≤ 1000 → 0 ≤ wN (aNote w n t first).2 n 12 ∧ wN (aNote w n t first).2 n 12 ≤ 1000) := by
  unfold aNote at h ⊢
  cases hb : nTrn w n with
  | true =>
    rw [hb] at h
    cases h
  | false =>
    refine ⟨fun m k h1 h2 => ?_, rfl, rfl, rfl, rfl, rfl, fun hc => ?_⟩
    · show wN (sN (aWr w n t _) n 13 _) m k = _
      rw [N_o _ _ _ _ (by omega), aWr_N _ _ _ _ (by omega)]
    · show 0 ≤ wN (sN (aWr w n t _) n 13 _) n 12 ∧ wN (sN (aWr w n t _) n 13 _) n 12 ≤ 1000
      rw [N_o _ _ _ _ (by omega), aWr_12]
      split <;> omega
noncomputable def aDec1 (w : Wd) (n : Nat) (c : List Nat) : Wd := aFrom (sBy w n 7 (wN w n 1).toNat (some c)) n c
/-- a node decides -/
noncomputable def aDecide (w : Wd) (n T : Nat) (c : List Nat) : Wd := if (aNote w n (chT w n c) (2 * (wN w n 1).toNat - 2)).1 then aRise (aDec1 (aNote w n (chT w n c) (2 * (wN w n 1).toNat - 2)).2 n c) n T ((wN w n 1).toNat + 1) (idB c) (bPl (bkN (wN (aDec1 (aNote w n (chT w n c) (2 * (wN w n 1).toNat - 2)).2 n c)) n) c).1 else (aNote w n (chT w n c) (2 * (wN w n 1).toNat - 2)).2
theorem kpL_in {l : List (List Nat)} {b : List Nat} {Q : List Nat → Prop} (hq : ∀ i, i < l.length → Q (pg l i)) : ∀ j, j ≤ l.length → ∀ i, i < (kpL l b j).length → Q (pg (kpL l b j) i)
  | 0, _, i, hi => absurd hi (by show ¬ i < 0; omega)
  | j + 1, hj, i, hi => by
    have ih := kpL_in (b := b) hq j (by omega)
    by_cases c : inPy b (pg l j)
    · rw [kpL_no c] at hi ⊢
      exact ih i hi
    · rw [kpL_yes c] at hi ⊢
      rw [List.length_append] at hi
      have hi : i < (kpL l b j).length + 1 := hi
      rw [pg_snoc]
      by_cases c2 : i < (kpL l b j).length
      · rw [if_pos c2]; exact ih i c2
      · rw [if_neg c2, if_pos (by omega)]; exact hq j (by omega)
theorem decide_ok {p : Nat} {c : List Nat} (hN : 1000 ≤ N) (h : rRp F H T S w) (hn : n < H) (hp : p < 585) (hb : bR S p c) (hok : bOK c) (hw : blkWf T c) (h1 : 1 ≤ wN w n 1 ∧ wN w n 1 ≤ 40) (hc : 0 ≤ wN w n 12 ∧ wN w n 12 ≤ 1000) (hpl : ∀ q, q < (wP w n).length → bg (pg (wP w n) q) 0 < 16 ∧ bg (pg (wP w n) q) 1 < 16) : wp (o_decide N S (nI n) (nI p)) (f_decide N S (nI n) (nI p)) (fun S' => rRp F H T S' (aDecide w n T c)) := by
  have cb := h.1.1.b
  show wp (O_decide_0 N (nI n) (nI p) S) (F_decide_0 N (nI n) (nI p) S) _
  unfold O_decide_0 F_decide_0
  refine wp_call (noteChain_ok hN h hn (by omega) hb hok h1 hc) (fun q => ?_)
  obtain ⟨⟨q1, q1'⟩, q2, q3⟩ := q
  generalize f_noteChain N S (nI n) (nI p) = y at q1 q1' q2 q3 ⊢
  unfold O_decide_6 F_decide_6
  rw [q3]
  unfold aDecide
  cases hbb : (aNote w n (chT w n c) (2 * (wN w n 1).toNat - 2)).1 with
  | false => exact wp_pos rfl (wp_fin trivial q2)
  | true =>
    obtain ⟨t1, t2, t3, t4, t5, t6, t7⟩ := aNote_t hbb
    have t7 := t7 hc
    rw [hbb] at q3
    have fw := q1' q3
    have yb : bR y.2 p c := hb.fr fw (by decide) (by decide) (by decide)
    generalize (aNote w n (chT w n c) (2 * (wN w n 1).toNat - 2)).2 = w1 at q2 t1 t2 t3 t4 t5 t6 t7 ⊢
    generalize y.2 = S0 at q2 yb ⊢
    obtain ⟨hh, eh⟩ : ∃ hh : Nat, (wN w n 1).toNat = hh := ⟨_, rfl⟩
    have n1 : wN w1 n 1 = hh := by rw [t1 n 1 (by omega) (by omega)]; omega
    have e1 : (wN w1 n 1).toNat = hh := by rw [n1]; rfl
    have e44 : S0.2.1 44 n = nI hh := by
      have := q2.num hn 1 (by decide) (by decide)
      rw [n1, iI_n] at this
      exact this
    rw [eh, n_clamp (by omega), e44]
    simp only [n_mul, n_add]
    refine wp_neg (show ¬ nI 1 = 0 by decide) (wp_and ((n_in (by omega)).2 (by omega)) (wp_call (copyBlock_ok (p := p) (q := 585 + 41 * n + hh) (by omega) (by omega) (by omega) yb hok.2.1 (by omega)) (fun q => ?_)))
    obtain ⟨g1, g2, g3⟩ := q
    generalize f_copyBlock N S0 (nI p) (nI (585 + 41 * n + hh)) = S1 at g1 g2 g3 ⊢
    have R1 : rRp F H T S1 (sBy w1 n 7 hh (some c)) := q2.put (f := 7) (i := hh) (p := 585 + 41 * n + hh) hn (by unfold plc; omega) (fun _ => by rw [n1]; omega) (g1.mono (by decide)) g2 (fun x _ => by rw [g1.a 59 (by decide)]) (by
      show oR S1 (585 + 41 * n + hh) ((some c).map (List.drop (plD 7)))
      unfold plD
      rw [if_neg (by decide), if_neg (by decide), map0]
      exact ⟨g3, hok⟩) (fun z => absurd z (by decide))
    unfold O_decide_30 F_decide_30
    rw [n_clamp (by omega), g1.a 44 (by decide), e44]
    simp only [n_mul, n_add]
    refine wp_and ((n_in (by omega)).2 (by omega)) (wp_call (fromPool_ok hN R1 hn (by omega) g3 hw hok.2.2) (fun q => ?_))
    obtain ⟨v1, v2⟩ := q
    generalize f_fromPool N S1 (nI n) (nI (585 + 41 * n + hh)) = S2 at v1 v2 ⊢
    have v2 : rRp F H T S2 (aDec1 w1 n c) := by
      unfold aDec1
      rw [e1]
      exact v2
    have d1 : wN (aDec1 w1 n c) = wN w1 := rfl
    have d7 : wY (aDec1 w1 n c) n 7 hh = some c := by
      unfold aDec1
      rw [e1]
      exact B_s _ _ _ _ _
    have dP : wP (aDec1 w1 n c) n = kpL (wP w1 n) c (wP w1 n).length := by
      show (if n = n then _ else _) = _
      rw [if_pos rfl]
      rfl
    unfold O_decide_50 F_decide_50
    rw [n_clamp (by omega), v1.a 44 (by decide), g1.a 44 (by decide), e44, n_add]
    refine wp_and ((n_in (by omega)).2 (by omega)) (wp_call (rise_ok hN v2.r0 hn (by rw [d1, n1]; omega) (by omega) (jK.dec v2.k cb.1 hn (by rw [d1]; exact n1) (by omega) d7 hw) (by rw [d1]; exact t7) ?_) (fun q => wp_ret q))
    rw [dP]
    refine kpL_in (Q := fun x => bg x 0 < 16 ∧ bg x 1 < 16) (fun i hi => ?_) _ (Nat.le_refl _)
    rw [t3] at hi ⊢
    exact hpl i hi
end
end

section
/-! CAN A BLOCK STAND BEHIND THE CHAIN -/
section
variable {F N g H T n : Nat} {s : cS} {ct : Nat → List Nat} {hd : List Nat} {w : Wd} {pe : Nat → Int} {G : Gh}
theorem va_iff {b : List Nat} (hb : blkWf T b) (hT : T ≤ 13) : vaL (wN w n) (wY w n 9 0) b ↔ aVal w n (some b) := by
  have e := acR_cg (vB_N (w := w) (n := n))
  have e2 := (bPl_cg (vB_N (w := w) (n := n)) hb hT).2
  unfold vaL aVal
  constructor
  · rintro ⟨d, a1, a2, a3, a4, a5⟩
    exact ⟨b, d, rfl, a1, a2, a3, by rw [← e]; exact a4, by rw [← e2]; exact a5⟩
  · rintro ⟨b', d, e0, a1, a2, a3, a4, a5⟩
    have e0 := Option.some.inj e0
    rw [← e0] at a2 a3 a4 a5
    exact ⟨d, a1, a2, a3, by rw [e]; exact a4, by rw [e2]; exact a5⟩
/-- the accounts are in their range -/
theorem GN.fl (k : GN F H T G w n) : ¬ 1000000 < wN w n 32 := by
  obtain ⟨ok, -⟩ := k.2.2.2.2.2.2.2.2.2.2.2.1
  have q : wN w n 32 ≤ 16000 := (ok.le (a := 0) (by decide)).2
  omega
/-- what isValid writes -/
def drP (g x : Nat) : Prop := x = g + 18 ∨ x = g + 18 + 1 ∨ x = g + 18 + 2
theorem isValid_c {a at_ : Nat} {m : List Nat} (hN : 100 ≤ N) (h : CR F g H T s ct hd w pe) (hn : n < H) (k : GN F H T G w n) (hf : cI s 5 (nd g n + 6) = nI 0) (ha : mS s a m) (hat : at_ = 1 ∨ at_ = 6) (hb : blkWf T (m.drop at_)) : wp (p_X7_isValid N g H T s (some (nd g n)) (some a) (nI at_)) (k_X7_isValid N g H T s (some (nd g n)) (some a) (nI at_)) (fun z => cfr (drP g) s z.2 ∧ ((z.1 = nI 1 ∧ aVal w n (some (m.drop at_))) ∨ (z.1 = nI 0 ∧ ¬ aVal w n (some (m.drop at_))))) := by
  have cb := h.1.bb
  obtain ⟨q1, q2, d, e9, dl, dB, eA⟩ := (h.node hn).2.2.2.2.2.1
  obtain ⟨ok, -⟩ := k.2.2.2.2.2.2.2.2.2.2.2.1
  have bk : bkC s (nd g n + 6) (bkN (wN w) n) := bkC_cg q1 vB_N
  have rt : ∀ i, i < 32 → cA s (nd g n + 6 + 3) i = sb (bg (acR (bkN (wN w) n)) i) := by
    rcases q2 with q2 | q2
    · rw [hf] at q2
      exact absurd q2 (by decide)
    · rw [← acR_cg (vB_N (w := w) (n := n))]
      exact q2.2
  have hh := k.a.2.1
  have e1 := h.h1 hn (by omega)
  have st := h.2.1
  have L11 : cL s (nd g n + 11) = 32 := st.rl (c := 5) (k := 5) (isO5 hn) rfl (by omega) (by omega)
  have L9 : cL s (nd g n + 6 + 3) = 32 := st.rl (c := 0) (k := 3) (o54 (isO5 hn)) rfl (by omega) (by omega)
  have ga : g + 31 ≤ a := (st.2.2.1 a ha.1).1
  have lb : 101 ≤ m.length - at_ := by
    have := hb.1
    rw [List.length_drop] at this
    exact this
  have cm := ha.2.2.1
  have c11 : cB s (nd g n + 11) d := ⟨by omega, by omega, fun i hi => eA i (by omega), dB⟩
  have c9 : cB s (nd g n + 6 + 3) (acR (bkN (wN w) n)) := ⟨by rw [L9]; exact Nat.le_of_eq (rootP_len _), by omega, fun i hi => rt i (by rw [← rootP_len (acL (bkN (wN w) n) 16)]; exact hi), rootP_B _⟩
  obtain ⟨t1, t2⟩ := two_ok (N := N) (g := g) (H := H) (T := T) (i := at_) ha (by omega)
  have t3 : twM m at_ = tw (m.drop at_) 0 := by
    unfold twM tw
    rw [if_pos (by omega), bg_drop, bg_drop]
    rfl
  have tl := tw_lt (isB_drop cm.2.2.2 at_) 0
  rw [t3] at t2
  show wp (KO_X7_isValid_0 N g H T (some (nd g n)) (some a) (nI at_) s) (KF_X7_isValid_0 N g H T (some (nd g n)) (some a) (nI at_) s) _
  unfold KO_X7_isValid_0 KF_X7_isValid_0 KO_X7_isValid_56 KF_X7_isValid_56
  rw [zsome, zsome, t2, e1, n_add, n_add]
  have no : ¬ aVal w n (some (m.drop at_)) → wp True ((nI 0 : Int32), s) (fun z => cfr (drP g) s z.2 ∧ ((z.1 = nI 1 ∧ aVal w n (some (m.drop at_))) ∨ (z.1 = nI 0 ∧ ¬ aVal w n (some (m.drop at_))))) := fun q => wp_fin trivial ⟨cfr.refl, Or.inr ⟨rfl, q⟩⟩
  refine wp_and ⟨someN, t1⟩ (wp_and someN (wp_ite (fun c => ?_) (fun c => ?_))) <;> rw [n_eq' (by omega) (by omega)] at c
  rotate_left
  · refine no (fun q => ?_)
    obtain ⟨b', d', e0, a1, a2, -⟩ := q
    have e0 := Option.some.inj e0
    rw [← e0] at a2
    omega
  refine wp_call (sameBytes_ok (n := 32) (p := at_ + 3) (q := 0) cm c11 (by omega) (by omega) (by omega)) (fun q => ?_)
  rcases q with ⟨x1, x2⟩ | ⟨x1, x2⟩ <;> rw [x2]
  rotate_left
  · refine wp_pos rfl (no (fun q => ?_))
    obtain ⟨b', d', e0, a1, a2, a3, -⟩ := q
    have e0 := Option.some.inj e0
    rw [e9] at a1
    have a1 := Option.some.inj a1
    refine x1 (fun i hi => ?_)
    have := a3 i hi
    rw [← e0, ← a1, bg_drop] at this
    rw [Nat.zero_add, ← this, Nat.add_assoc]
  refine wp_neg (by decide) (wp_call (sameBytes_ok (n := 32) (p := at_ + 35) (q := 0) cm c9 (by omega) (by omega) (by rw [show (acR (bkN (wN w) n)).length = 32 from rootP_len _]; omega)) (fun q => ?_))
  rcases q with ⟨y1, y2⟩ | ⟨y1, y2⟩ <;> rw [y2]
  rotate_left
  · refine wp_pos rfl (no (fun q => ?_))
    obtain ⟨b', d', e0, a1, a2, a3, a4, -⟩ := q
    have e0 := Option.some.inj e0
    refine y1 (fun i hi => ?_)
    have := a4 i hi
    rw [← e0, bg_drop] at this
    rw [Nat.zero_add, ← this, Nat.add_assoc]
  refine wp_neg (by decide) (wp_call (mirror_c (o := g + 18) bk (by unfold nd; omega)) (fun q => ?_))
  obtain ⟨⟨f1, -⟩, f2⟩ := q
  generalize k_X0_mirror N g H T s (g + 18) (nd g n + 6) = s1 at f1 f2 ⊢
  have na : ¬ (a + 2 = g + 18 ∨ a + 2 = g + 18 + 1 ∨ a + 2 = g + 18 + 2) := by omega
  have na' : ¬ (a = g + 18 ∨ a = g + 18 + 1 ∨ a = g + 18 + 2) := by omega
  have cm1 : cB s1 (a + 2) m := ⟨by rw [f1.L]; exact cm.1, by rw [f1.L]; exact cm.2.1, by rw [f1.A _ na]; exact cm.2.2.1, cm.2.2.2⟩
  have l1 : cI s1 2 a = nI m.length := by rw [f1.I 2 a na']; exact ha.2.1
  unfold KO_X7_isValid_72 KF_X7_isValid_72 KO_X7_isValid_91 KF_X7_isValid_91
  rw [zsome, l1]
  refine wp_and someN (wp_and someN (wp_call (play_c (b := m.drop at_) hN cb.2.1 rfl (by omega) hb cm1 ha.2.2.2.1 (by omega) f2 ok) (fun q => ?_)))
  obtain ⟨p1, p2, p3, p4⟩ := q
  generalize k_X0_play N g H T s1 (g + 18) (some (a + 2)) (nI at_) (nI m.length) = z at p1 p2 p3 p4 ⊢
  have iff : aVal w n (some (m.drop at_)) ↔ (bPl (bkN (wN w) n) (m.drop at_)).2 = true := by
    constructor
    · rintro ⟨b', d', e0, a1, a2, a3, a4, a5⟩
      have e0 := Option.some.inj e0
      rw [e0]
      exact a5
    · intro q
      refine ⟨m.drop at_, d, rfl, e9, by omega, fun i hi => ?_, fun i hi => ?_, q⟩
      · rw [bg_drop, ← Nat.add_assoc, x1 i hi, Nat.zero_add]
      · rw [bg_drop, ← Nat.add_assoc, y1 i hi, Nat.zero_add]
  have fz : cfr (drP g) s z.2 := f1.trans p1
  rw [p4]
  cases hz : (bPl (bkN (wN w) n) (m.drop at_)).2 with
  | false =>
    rw [hz] at iff
    exact wp_fin (congrArg Value.int (show nI 0 &&& 1 = nI 0 by decide)) ⟨fz, Or.inr ⟨rfl, fun q => by cases iff.1 q⟩⟩
  | true =>
    rw [hz] at iff
    exact wp_fin (congrArg Value.int (show nI 1 &&& 1 = nI 1 by decide)) ⟨fz, Or.inl ⟨rfl, iff.2 rfl⟩⟩
theorem isValid_C {a at_ : Nat} {m : List Nat} (hN : 100 ≤ N) (h : CR F g H T s ct hd w pe) (hn : n < H) (k : GN F H T G w n) (hf : cI s 5 (nd g n + 6) = nI 0) (ha : mS s a m) (hat : at_ = 1 ∨ at_ = 6) (hb : blkWf T (m.drop at_)) : wp (p_X7_isValid N g H T s (some (nd g n)) (some a) (nI at_)) (k_X7_isValid N g H T s (some (nd g n)) (some a) (nI at_)) (fun z => CR F g H T z.2 ct hd w pe ∧ cfr (drP g) s z.2 ∧ ((z.1 = nI 1 ∧ aVal w n (some (m.drop at_))) ∨ (z.1 = nI 0 ∧ ¬ aVal w n (some (m.drop at_))))) := by
  obtain ⟨p1, p2, p3⟩ := isValid_c (N := N) hN h hn k hf ha hat hb
  have st := (kpc_X7_isValid h.2.1 (fun b e => by cases e; exact isO5 hn) (tK_some ha.1) p1).1
  exact ⟨p1, h.sc p2 (fun x hx => by unfold drP at hx; exact Or.inr (Or.inr (Or.inl (by omega)))) st, p2, p3⟩
/-- what approves writes -/
def apP (g n x : Nat) : Prop := drP g x ∨ x = nd g n + 16
theorem appr_59 {r : Nat} {P : Prop} (h : CR F g H T s ct hd w pe) (hn : n < H) (h1 : 0 ≤ wN w n 1) (hr : r < 16) (hj : (cA s (nd g n + 16) (16 * ((wN w n 1).toNat % 2) + r) = nI 1 ∧ P) ∨ (cA s (nd g n + 16) (16 * ((wN w n 1).toNat % 2) + r) = nI 2 ∧ ¬ P)) : wp (KO_X7_approves_59 N g H T (some (nd g n)) (nI r) s) (KF_X7_approves_59 N g H T (some (nd g n)) (nI r) s) (fun z => z.2 = s ∧ ((z.1 = nI 1 ∧ P) ∨ (z.1 = nI 0 ∧ ¬ P))) := by
  unfold KO_X7_approves_59 KF_X7_approves_59 KO_X7_approves_80 KF_X7_approves_80
  have e1 := h.h1 hn h1
  obtain ⟨v1, v2⟩ := verdict_c (N := N) (g := g) (H := H) (T := T) (n := n) (s := s) (h := (wN w n 1).toNat) hr
  rw [zsome, e1, v2]
  have nb0 : narrow .boolean (.int (nI 0)) = .int (nI 0) := congrArg Value.int (show nI 0 &&& 1 = nI 0 by decide)
  have nb1 : narrow .boolean (.int (nI 1)) = .int (nI 1) := congrArg Value.int (show nI 1 &&& 1 = nI 1 by decide)
  refine wp_and someN (wp_and v1 ?_)
  rcases hj with ⟨j1, j2⟩ | ⟨j1, j2⟩ <;> rw [j1]
  · exact wp_pos rfl (wp_fin nb1 ⟨rfl, Or.inl ⟨rfl, j2⟩⟩)
  · exact wp_neg (by decide) (wp_fin nb0 ⟨rfl, Or.inr ⟨rfl, j2⟩⟩)
/-- a verdict is written -/
theorem CR.jud {i : Nat} {x0 : Int32} (h : CR F g H T s ct hd w pe) (hn : n < H) (hi : i < 32) (hj : ∃ m, wY w n 4 i = some m ∧ i / 16 = (wN w n 1).toNat % 2 ∧ juD (vaL (wN w n) (wY w n 9 0) (m.drop 6)) x0) (hu : wN w n 0 = 1) : CR F g H T (csA s (nd g n + 16) i x0) ct hd w pe := by
  obtain ⟨z, cz, oz⟩ := h.z_ hn
  obtain ⟨m, j1, j2, j3⟩ := hj
  have d7 := cz.nz.2.2.2.2.2.2.1
  have d8 := cz.nz.2.2.2.2.2.2.2.1
  have z1 : z 4 i = some m := by rw [oz.1 hu 4 _ (Or.inl rfl)]; exact j1
  have nz := cz.A (o := 16) (i := i) (x0 := x0) hn (Or.inl rfl) ⟨d7.1, d7.2.1, fun j hj => ?_, fun p hp => ?_⟩ ⟨d8.1, fun k m hk e => ?_, d8.2.2⟩
  · exact nz.cr oz (fun _ _ => ⟨rfl, rfl, rfl, rfl⟩) rfl rfl rfl (fun _ _ => rfl) rfl rfl rfl rfl rfl
  · rw [cA_at]
    by_cases c : j = i
    · rw [if_pos c, c]
      exact Or.inr ⟨m, z1, j2, Or.inr j3⟩
    · rw [if_neg c]
      exact d7.2.2.1 j hj
  · rw [cA_ne _ _ _ (by omega)]
    exact d7.2.2.2 p hp
  · rw [cA_ne _ _ _ (by omega)]
    exact d8.2.1 k m hk e
theorem approves_C {r : Nat} {m : List Nat} (hN : 100 ≤ N) (h : CR F g H T s ct hd w pe) (hn : n < H) (hu : wN w n 0 = 1) (k : GN F H T G w n) (hf : cI s 5 (nd g n + 6) = nI 0) (hr : r < 16) (hm : wY w n 4 (16 * ((wN w n 1).toNat % 2) + r) = some m) : wp (p_X7_approves N g H T s (some (nd g n)) (nI r)) (k_X7_approves N g H T s (some (nd g n)) (nI r)) (fun z => CR F g H T z.2 ct hd w pe ∧ cfr (apP g n) s z.2 ∧ ((z.1 = nI 1 ∧ aVal w n (some (m.drop 6))) ∨ (z.1 = nI 0 ∧ ¬ aVal w n (some (m.drop 6))))) := by
  have cb := h.1.bb
  have hh := k.a.2.1
  have e1 := h.h1 hn (by omega)
  have lt : 16 * ((wN w n 1).toNat % 2) + r < 32 := by omega
  obtain ⟨q1, q2, q3, q4, q5, -⟩ := k.2.2.2.1 ((wN w n 1).toNat % 2) r m (by omega) hr hm
  have hb : blkWf T (m.drop 6) := q5.2.2.1
  have iff := va_iff (w := w) (n := n) hb cb.2.1
  obtain ⟨v1, v2⟩ := verdict_c (N := N) (g := g) (H := H) (T := T) (n := n) (s := s) (h := (wN w n 1).toNat) hr
  obtain ⟨p1, p2⟩ := proposal_c (N := N) (g := g) (H := H) (T := T) (n := n) (s := s) (h := (wN w n 1).toNat) hr
  show wp (KO_X7_approves_0 N g H T (some (nd g n)) (nI r) s) (KF_X7_approves_0 N g H T (some (nd g n)) (nI r) s) _
  unfold KO_X7_approves_0 KF_X7_approves_0
  rw [zsome, e1, v2, p2]
  have ju : juD (aVal w n (some (m.drop 6))) (cA s (nd g n + 16) (16 * ((wN w n 1).toNat % 2) + r)) := by
    obtain ⟨z, cz, oz⟩ := h.z_ hn
    rcases cz.nz.2.2.2.2.2.2.1.2.2.1 _ lt with q | ⟨m', q, -, q'⟩
    · exact Or.inl q
    · rw [oz.1 hu 4 _ (Or.inl rfl), hm] at q
      have q := Option.some.inj q
      rw [← q] at q'
      rcases q' with q' | q' | ⟨q', q''⟩ | ⟨q', q''⟩
      · exact absurd q' k.fl
      · exact Or.inl q'
      · exact Or.inr (Or.inl ⟨q', iff.1 q''⟩)
      · exact Or.inr (Or.inr ⟨q', fun z => q'' (iff.2 z)⟩)
  refine wp_and someN (wp_and v1 ?_)
  rcases ju with ju | ju
  rotate_left
  · have n0 : ¬ cA s (nd g n + 16) (16 * ((wN w n 1).toNat % 2) + r) = 0 := by
      rcases ju with ju | ju <;> rw [ju.1] <;> decide
    refine wp_neg n0 (wp_mono (appr_59 h hn (by omega) hr ju) (fun q => ?_))
    rw [q.1]
    exact ⟨h, cfr.refl, q.2⟩
  refine wp_pos (by rw [ju]; rfl) (wp_and p1 ?_)
  rcases prop_at h hn hu lt with ⟨c1, c2⟩ | ⟨a, m', c1, c2, c3, c4, c5⟩
  · rw [hm] at c2
    cases c2
  rw [hm] at c2
  have c2 := Option.some.inj c2
  rw [← c2] at c3 c4
  rw [c1]
  refine wp_neg someN (wp_call (isValid_C hN h hn k hf c4 (Or.inr rfl) hb) (fun q => ?_))
  obtain ⟨i1, i2, i3⟩ := q
  generalize k_X7_isValid N g H T s (some (nd g n)) (some a) (nI 6) = z at i1 i2 i3 ⊢
  obtain ⟨z1, s1⟩ := z
  have i1 : CR F g H T s1 ct hd w pe := i1
  have i2 : cfr (drP g) s s1 := i2
  have fin : ∀ j, (j = 0 ∨ j = 1) → ((j = 1 ∧ aVal w n (some (m.drop 6))) ∨ (j = 0 ∧ ¬ aVal w n (some (m.drop 6)))) → wp (KO_X7_approves_56 N g H T (some (nd g n)) (nI r) (nd g n + 14) (nI (wN w n 1).toNat) (nI r) (nI j) s1) (KF_X7_approves_56 N g H T (some (nd g n)) (nI r) (nd g n + 14) (nI (wN w n 1).toNat) (nI r) (nI j) s1) (fun z => CR F g H T z.2 ct hd w pe ∧ cfr (apP g n) s z.2 ∧ ((z.1 = nI 1 ∧ aVal w n (some (m.drop 6))) ∨ (z.1 = nI 0 ∧ ¬ aVal w n (some (m.drop 6))))) := fun j j1 j2 => by
    unfold KO_X7_approves_56 KF_X7_approves_56
    obtain ⟨x1, x2⟩ := judge_c (N := N) (h := (wN w n 1).toNat) i1.2.1 hn hr j1
    rw [x2]
    have c' := i1.jud (i := 16 * ((wN w n 1).toNat % 2) + r) (x0 := nI (2 - j)) hn lt ⟨m, hm, by omega, by
      rcases j2 with ⟨j2, j3⟩ | ⟨j2, j3⟩
      · rw [j2]
        exact Or.inr (Or.inl ⟨rfl, iff.2 j3⟩)
      · rw [j2]
        exact Or.inr (Or.inr ⟨rfl, fun q => j3 (iff.1 q)⟩)⟩ hu
    have fA : cfr (apP g n) s (csA s1 (nd g n + 16) (16 * ((wN w n 1).toNat % 2) + r) (nI (2 - j))) := (i2.mono (fun x hx => Or.inl hx)).trans ((cfr_A _ _ _).mono (fun x hx => Or.inr hx))
    refine wp_and x1 (wp_mono (appr_59 (P := aVal w n (some (m.drop 6))) c' hn (by omega) hr ?_) (fun q => ?_))
    · rw [cA_at, if_pos rfl]
      rcases j2 with ⟨j2, j3⟩ | ⟨j2, j3⟩
      · rw [j2]
        exact Or.inl ⟨rfl, j3⟩
      · rw [j2]
        exact Or.inr ⟨rfl, j3⟩
    · rw [q.1]
      exact ⟨c', fA, q.2⟩
  unfold KO_X7_approves_48 KF_X7_approves_48 KO_X7_approves_55 KF_X7_approves_55
  rcases i3 with ⟨i3, i4⟩ | ⟨i3, i4⟩
  · have i3 : z1 = nI 1 := i3
    rw [i3]
    exact wp_neg (show ¬ nI 1 = 0 by decide) (fin 1 (Or.inr rfl) (Or.inl ⟨rfl, i4⟩))
  · have i3 : z1 = nI 0 := i3
    rw [i3]
    exact wp_pos (show nI 0 = 0 from rfl) (fin 0 (Or.inl rfl) (Or.inr ⟨rfl, i4⟩))
end
end

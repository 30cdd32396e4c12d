section
/-! CALLS OF THE CLASS: a liar sends the tape -/
section
variable {F N g H T n k : Nat} {s s0 s1 S X : cS} {ct : Nat → List Nat} {hd : List Nat} {w w' V W : Wd} {pe : Nat → Int} {a b : Nat} {l m : List Nat} {x y u v : Int32}
/-- the evidences of a block tell of a node -/
theorem tells_l {A q : Nat} {B : List Nat} (hN : 100 ≤ N) (ms : mS s a m) (hA : A ≤ 6) (hb : B = m.drop A) (hw : blkWf T B) (hH : H ≤ 13) : wp (KO_X1_tellsBelow_60 N g H T (some a) (nI H) (nI A) (nI (bg B 100)) s) (KF_X1_tellsBelow_60 N g H T (some a) (nI H) (nI A) (nI (bg B 100)) s) (fun z => (tlB H B ∧ z = nI 1) ∨ (¬ tlB H B ∧ z = nI 0)) := by
  have b2 := hw.2.2.2.2.1
  have ml := ms.2.2.2.1
  have lb : B.length = m.length - A := by rw [hb, List.length_drop]
  have l1 := hw.1
  unfold KO_X1_tellsBelow_60 KF_X1_tellsBelow_60
  rw [n_add]
  refine wp_seq (Q := fun z : Nat × Unit => (z.1 = 0 ∧ tlB H B) ∨ (z.1 = 1 ∧ ¬ tlB H B)) ?_ (fun z hz => ?_)
  rotate_left
  · unfold KOA_X1_tellsBelow_72 KA_X1_tellsBelow_72
    rcases hz with ⟨z1, z2⟩ | ⟨z1, z2⟩
    · rw [if_pos z1, if_pos z1]
      exact wp_fin trivial (Or.inl ⟨z2, rfl⟩)
    · rw [if_neg (by omega), if_neg (by omega)]
      exact wp_fin trivial (Or.inr ⟨z2, rfl⟩)
  have e0 : A + 101 = A + evP B 0 := rfl
  rw [e0]
  refine wp_loop (K := bg B 100) (fun j (_ : Unit) => ∀ p, p < j → ¬ bg B (evP B p) < H) (fun n j _ => KOL_X1_tellsBelow_72 N g H T n (some a) (nI H) (nI (bg B 100)) (nI (A + evP B j)) (nI j) s) (fun n j _ => KL_X1_tellsBelow_72 N g H T n (some a) (nI H) (nI (bg B 100)) (nI (A + evP B j)) (nI j) s) (fun n j _ hj hI ih => ?_) 0 N () (by omega) (by omega) (fun p hp => absurd hp (by omega))
  unfold KOL_X1_tellsBelow_72 KL_X1_tellsBelow_72 KOB_X1_tellsBelow_72 KB_X1_tellsBelow_72
  by_cases e : j = bg B 100
  · refine wp_pos (by rw [n_le' (by omega) (by omega)]; omega) (wp_fin trivial (Or.inr ⟨rfl, ?_⟩))
    rintro ⟨p, p1, p2⟩
    exact hI p (by omega) p2
  have ev := hw.2.2.2.2.2.1 j (by omega)
  have pl := evP_le B j
  have e1 := ev.1
  obtain ⟨v1, v2⟩ := at_ok (N := N) (g := g) (H := H) (T := T) (i := A + evP B j) ms (by omega)
  have eb : bg m (A + evP B j) = bg B (evP B j) := by rw [hb, bg_drop]
  have b3 := ms.2.2.1.2.2.2 (A + evP B j)
  have zs := evidenceSize_ok (N := N) (g := g) (H := H) (T := T) (a := A + evP B j) ms.2.2.1 (Nat.le_refl _) (by omega)
  have dr := ev_drop (T := T) (m := m) (a := A) (by omega) (evP B j) (by omega)
  rw [← hb] at dr
  have sz : evC m (A + evP B j) m.length = evSz B (evP B j) := by
    rw [← dr.2]
    exact evC_up (Nat.le_refl _) (fun _ _ => rfl) (dr.1.2 ev)
  have es : A + evP B j + evSz B (evP B j) = A + evP B (j + 1) := by
    show _ = A + (evP B j + evSz B (evP B j))
    omega
  rw [zsome, v2, ms.2.1, zs.2, sz, iI_n, n_add, n_add, es]
  refine wp_neg (by rw [n_le' (by omega) (by omega)]; omega) (wp_neg (by rw [n_le' (by omega) (by omega)]; omega) (wp_and ⟨someN, v1⟩ ?_))
  by_cases c : bg B (evP B j) < H
  · refine wp_neg (by rw [n_le' (by omega) (by omega)]; omega) (wp_fin trivial (Or.inl ⟨rfl, j, by omega, c⟩))
  · refine wp_pos (by rw [n_le' (by omega) (by omega)]; omega) (wp_and zs.1 (ih () (fun p hp => ?_) (by omega)))
    by_cases d : p = j
    · rw [d]
      exact c
    · exact hI p (by omega)
theorem tells_36 (hN : 100 ≤ N) (ms : mS s a m) (hw : wf T m) (hH : H ≤ 13) : wp (KO_X1_tellsBelow_36 N g H T (some a) (nI H) s) (KF_X1_tellsBelow_36 N g H T (some a) (nI H) s) (fun z => (((bg m 0 = 1 ∧ tlB H (m.drop 6)) ∨ (bg m 0 = 4 ∧ tlB H (m.drop 1))) ∧ z = nI 1) ∨ (¬ ((bg m 0 = 1 ∧ tlB H (m.drop 6)) ∨ (bg m 0 = 4 ∧ tlB H (m.drop 1))) ∧ z = nI 0)) := by
  obtain ⟨b1, b2⟩ := blockAt_c (N := N) (g := g) (H := H) (T := T) ms
  unfold KO_X1_tellsBelow_36 KF_X1_tellsBelow_36
  rw [zsome, b2]
  refine wp_and ⟨someN, b1⟩ ?_
  by_cases c1 : bg m 0 = 1
  · have bw : blkWf T (m.drop 6) := by
      rcases hw with h | ⟨h, q⟩ | ⟨h, q⟩ | ⟨h, q⟩ | ⟨h, q, q2⟩ | h | h
      · omega
      · exact q.2.2.1
      all_goals omega
    obtain ⟨v1, v2⟩ := at_ok (N := N) (g := g) (H := H) (T := T) (i := 106) ms (by omega)
    rw [if_pos c1, n_add, v2]
    refine wp_pos (by decide) (wp_and v1 ?_)
    have := tells_l (N := N) (g := g) (A := 6) (q := 0) hN ms (by decide) rfl bw hH
    rw [bg_drop] at this
    refine wp_mono this (fun q => q.imp (fun q => ⟨Or.inl ⟨c1, q.1⟩, q.2⟩) (fun q => ⟨fun z => ?_, q.2⟩))
    rcases z with z | z
    · exact q.1 z.2
    · omega
  · rw [if_neg c1]
    by_cases c4 : bg m 0 = 4
    · have bw : blkWf T (m.drop 1) := by
        rcases hw with h | ⟨h, q⟩ | ⟨h, q⟩ | ⟨h, q⟩ | ⟨h, q, q2⟩ | h | h
        · omega
        · omega
        · omega
        · exact q
        all_goals omega
      obtain ⟨v1, v2⟩ := at_ok (N := N) (g := g) (H := H) (T := T) (i := 101) ms (by omega)
      rw [if_pos c4, n_add, v2]
      refine wp_pos (by decide) (wp_and v1 ?_)
      have := tells_l (N := N) (g := g) (A := 1) (q := 0) hN ms (by decide) rfl bw hH
      rw [bg_drop] at this
      refine wp_mono this (fun q => q.imp (fun q => ⟨Or.inr ⟨c4, q.1⟩, q.2⟩) (fun q => ⟨fun z => ?_, q.2⟩))
      rcases z with z | z
      · exact c1 z.1
      · exact q.1 z.2
    · rw [if_neg c4]
      refine wp_neg (by decide) ?_
      unfold KO_X1_tellsBelow_60 KF_X1_tellsBelow_60
      obtain ⟨q, hq⟩ : ∃ q, N = q + 1 := ⟨N - 1, by omega⟩
      have L : wp (KOL_X1_tellsBelow_72 N g H T (q + 1) (some a) (nI H) (nI 0) (-1 + nI 101) (nI 0) s) (KL_X1_tellsBelow_72 N g H T (q + 1) (some a) (nI H) (nI 0) (-1 + nI 101) (nI 0) s) (fun z => z.1 = 1) := by
        unfold KOL_X1_tellsBelow_72 KL_X1_tellsBelow_72 KOB_X1_tellsBelow_72 KB_X1_tellsBelow_72
        exact wp_pos (by decide) (wp_fin trivial rfl)
      rw [← hq] at L
      refine wp_seq L (fun z hz => ?_)
      unfold KOA_X1_tellsBelow_72 KA_X1_tellsBelow_72
      rw [if_neg (by omega), if_neg (by omega)]
      exact wp_fin trivial (Or.inr ⟨(fun z => by omega), rfl⟩)
theorem tellsBelow_c (hN : 100 ≤ N) (ms : mS s a m) (hw : wf T m) (hH : H ≤ 13) : wp (p_X1_tellsBelow N g H T s (g + 9) (some a) (nI H)) (k_X1_tellsBelow N g H T s (g + 9) (some a) (nI H)) (fun z => (tlH H m ∧ z = nI 1) ∨ (¬ tlH H m ∧ z = nI 0)) := by
  obtain ⟨k1, k2⟩ := kind_ok (N := N) (g := g) (H := H) (T := T) ms
  have b0 := ms.2.2.1.2.2.2 0
  have b1 := ms.2.2.1.2.2.2 1
  have t36 := tells_36 (g := g) hN ms hw hH
  have t26 : (bg m 0 = 1 ∨ bg m 0 = 2 ∨ bg m 0 = 3 ∨ bg m 0 = 6) → wp (KO_X1_tellsBelow_26 N g H T (some a) (nI H) s) (KF_X1_tellsBelow_26 N g H T (some a) (nI H) s) (fun z => (tlH H m ∧ z = nI 1) ∨ (¬ tlH H m ∧ z = nI 0)) := fun hk => by
    have m2 : 2 ≤ m.length := by
      rcases hw with h | ⟨h, q⟩ | ⟨h, q⟩ | ⟨h, q⟩ | ⟨h, q, q2⟩ | h | h
      · omega
      · have l := q.2.2.1.len
        rw [List.length_drop] at l
        omega
      · have := q.2
        omega
      · omega
      · omega
      · have := evSz_le m 1
        omega
      · omega
    obtain ⟨g1, g2⟩ := signer_c (N := N) (g := g) (H := H) (T := T) ms m2
    unfold KO_X1_tellsBelow_26 KF_X1_tellsBelow_26
    rw [zsome, g2]
    refine wp_and ⟨someN, g1⟩ ?_
    by_cases c : bg m 1 < H
    · exact wp_neg (by rw [n_le' (by omega) (by omega)]; omega) (wp_fin trivial (Or.inl ⟨Or.inl ⟨hk, c⟩, rfl⟩))
    · refine wp_pos (by rw [n_le' (by omega) (by omega)]; omega) (wp_mono t36 (fun q => q.imp (fun q => ⟨Or.inr q.1, q.2⟩) (fun q => ⟨fun z => ?_, q.2⟩)))
      rcases z with z | z
      · exact c z.2
      · exact q.1 z
  show wp (KO_X1_tellsBelow_0 N g H T (some a) (nI H) s) (KF_X1_tellsBelow_0 N g H T (some a) (nI H) s) _
  unfold KO_X1_tellsBelow_0 KF_X1_tellsBelow_0
  rw [zsome, k2]
  refine wp_and ⟨someN, k1⟩ ?_
  by_cases c1 : bg m 0 = 1
  · exact wp_pos (by rw [c1]) (t26 (Or.inl c1))
  refine wp_neg (by rw [n_eq' (by omega) (by omega)]; exact c1) ?_
  by_cases c2 : bg m 0 = 2
  · exact wp_pos (by rw [c2]) (t26 (Or.inr (Or.inl c2)))
  refine wp_neg (by rw [n_eq' (by omega) (by omega)]; exact c2) ?_
  by_cases c3 : bg m 0 = 3
  · exact wp_pos (by rw [c3]) (t26 (Or.inr (Or.inr (Or.inl c3))))
  refine wp_neg (by rw [n_eq' (by omega) (by omega)]; exact c3) ?_
  by_cases c6 : bg m 0 = 6
  · exact wp_pos (by rw [c6]) (t26 (Or.inr (Or.inr (Or.inr c6))))
  refine wp_neg (by rw [n_eq' (by omega) (by omega)]; exact c6) (wp_mono t36 (fun q => q.imp (fun q => ⟨Or.inr q.1, q.2⟩) (fun q => ⟨fun z => ?_, q.2⟩)))
  rcases z with z | z
  · omega
  · exact q.1 z
theorem IV.lie (iv : IV F H T w) (ha : H ≤ a) (ha2 : a < T) (hb : b < T) (no : ¬ (wf T ((wL w).take n) ∧ tlH H ((wL w).take n))) : IV F H T (aLie w a b n) := by
  have aj := iv.1.lie ha ha2 hb no
  exact ⟨aj, ⟨aj.1.1, iv.2.1.2⟩, rest_eq iv.2.2 rfl rfl⟩
/-- what is done with the message -/
theorem lie_52 {e : Nat} {W : Wd} (hN : 12000 ≤ N) (cr : CR F g H T s ct [e] w (fun _ => -1)) (b5 : bF g H s) (ee : ct e = m) (ha : a < 13) (hb : b < 13) (hv : (¬ (wf T m ∧ tlH H m) ∧ W = aPost (sL w []) a b m ∧ v = nI 1) ∨ ((wf T m ∧ tlH H m) ∧ W = w ∧ v = nI 0)) : wp (KO_X11_lie_52 N g H T g (nI a) (nI b) (some e) s) (KF_X11_lie_52 N g H T g (nI a) (nI b) (some e) s) (fun z => z.1 = v ∧ clW F g H T z.2 W) := by
  have cb := cr.1.bb
  have fin : ∀ (s' : cS) (W' : Wd) (j : Nat), CR F g H T s' ct [e] W' (fun _ => -1) → bF g H s' → W = W' → j ≤ 1 → v = (if j = 0 then nI 1 else nI 0) → wp (KO_X11_lie_120 N g H T g (some e) (nI j) s') (KF_X11_lie_120 N g H T g (some e) (nI j) s') (fun z => z.1 = v ∧ clW F g H T z.2 W) := fun s' W' j c1 c2 c3 c4 c5 => by
    have dr := drop_C (N := N) c1 (by decide)
    have st := k5c_X9_drop (u := 0) c1.2.1 oS7 (fun b e => by cases e; exact (c1.ms us_self).1) dr.1
    unfold KO_X11_lie_120 KF_X11_lie_120 KO_X11_lie_132 KF_X11_lie_132 KO_X11_lie_142 KF_X11_lie_142
    refine wp_and dr.1 ?_
    rw [c3, c5]
    by_cases q : j = 0
    · rw [q, if_pos rfl]
      exact wp_pos rfl (wp_fin bo1 ⟨rfl, ct, dr.2.1, c2.M st.2⟩)
    · rw [show j = 1 by omega]
      exact wp_neg (by decide) (wp_fin bo0 ⟨rfl, ct, dr.2.1, c2.M st.2⟩)
  have ps : ∀ s', CR F g H T s' ct [e] w (fun _ => -1) → bF g H s' → ¬ (wf T m ∧ tlH H m) → wp (KO_X11_lie_93 N g H T g (nI a) (nI b) (some e) s') (KF_X11_lie_93 N g H T g (nI a) (nI b) (some e) s') (fun z => z.1 = v ∧ clW F g H T z.2 W) := fun s' c1 c2 no => by
    have po := post_C (N := N) (f := a) (t := b) c1 us_self
    have st := k5c_X9_post (u := 0) c1.2.1 oS7 (fun b e => by cases e; exact (c1.ms us_self).1) po.1
    unfold KO_X11_lie_93 KF_X11_lie_93 KO_X11_lie_94 KF_X11_lie_94
    refine wp_pos rfl (wp_and po.1 ?_)
    unfold KO_X11_lie_115 KF_X11_lie_115
    rcases hv with ⟨_, q2, q3⟩ | ⟨q1, _⟩
    · have p1 := po.2.1
      rw [ee] at p1
      have f0 : cfr (fun x => x = g) (k_X9_post N g H T s' (g + 11) (nI a) (nI b) (some e)) (csI (k_X9_post N g H T s' (g + 11) (nI a) (nI b) (some e)) 3 g (nI 0)) := cfr_I _ _ _ _
      have cz := p1.tp (l := []) f0 (fun x z => Or.inl z) (p1.2.1.I _ _ _) ⟨cI_same _ _ _ _, by decide, fun i => by rw [bg_out (by simp)]; decide, fun i hi => absurd hi (by simp)⟩
      refine fin _ _ 0 cz (fun m hm => ?_) q2 (by decide) q3
      rw [cI_other _ _ (Or.inl (by decide))]
      exact (c2.M st.2) m hm
    · exact absurd q1 no
  unfold KO_X11_lie_52 KF_X11_lie_52
  refine wp_call (look_C (N := N) (by omega) cr us_self) (fun q => ?_)
  generalize k_X1_look N g H T s (g + 9) (some e) = Z at q ⊢
  obtain ⟨z1, S2⟩ := Z
  obtain ⟨l1, l2, l3⟩ := q
  have l1 : CR F g H T S2 ct [e] w (fun _ => -1) := l1
  have b5 : bF g H S2 := b5.M l2
  rw [ee] at l3
  unfold KO_X11_lie_64 KF_X11_lie_64
  have eH : cI S2 2 (g + 8) = nI H := l1.2.2.2.2.2.1.2.2.1
  rcases l3 with ⟨l3, l4, l5⟩ | ⟨l3, l4⟩
  · have ms := l1.ms (us_self (hd := []))
    rw [ee] at ms
    have tb := tellsBelow_c (N := N) (g := g) (H := H) (by omega) ms l3 (by omega)
    rw [show (z1, S2).2 = S2 from rfl, eH]
    refine wp_neg (by rw [show (z1, S2).1 = nI 1 from l4]; decide) (wp_and tb.1 ?_)
    rcases tb.2 with ⟨t1, t2⟩ | ⟨t1, t2⟩
    · rw [t2]
      refine wp_neg (by decide) ?_
      unfold KO_X11_lie_94 KF_X11_lie_94
      refine wp_neg (by decide) ?_
      rcases hv with ⟨q, _⟩ | ⟨q1, q2, q3⟩
      · exact absurd ⟨l3, t1⟩ q
      · exact fin S2 w 1 l1 b5 q2 (by decide) q3
    · rw [t2]
      exact wp_pos rfl (ps S2 l1 b5 (fun q => t1 q.2))
  · exact wp_pos (by rw [show (z1, S2).1 = nI 0 from l4]; rfl) (ps S2 l1 b5 (fun q => l3 q.1))
theorem lie_C {W : Wd} (hN : 12000 ≤ N) (h : clW F g H T s w) (iv : IV F H T w) (hv : (∃ a b n, mlA w H T x y a b ∧ 1 ≤ n ∧ n ≤ (wL w).length ∧ u = nI n ∧ ((¬ (wf T ((wL w).take n) ∧ tlH H ((wL w).take n)) ∧ W = aLie w a b n ∧ v = nI 1) ∨ ((wf T ((wL w).take n) ∧ tlH H ((wL w).take n)) ∧ W = w ∧ v = nI 0))) ∨ ((¬ ∃ a b n, mlA w H T x y a b ∧ 1 ≤ n ∧ n ≤ (wL w).length ∧ u = nI n) ∧ W = w ∧ v = nI 0)) : wp (p_X11_lie N g H T s g x y u) (k_X11_lie N g H T s g x y u) (fun z => z.1 = v ∧ clW F g H T z.2 W ∧ IV F H T W) := by
  have h' := h
  obtain ⟨ct, cr, b5⟩ := h'
  have cb := cr.1.bb
  have tp := cr.2.2.2.2.2.2.2.1
  have t1 := tp.1
  have t2 := tp.2.1
  show wp (KO_X11_lie_0 N g H T g x y u s) (KF_X11_lie_0 N g H T g x y u s) _
  unfold KO_X11_lie_0 KF_X11_lie_0 KO_X11_lie_22 KF_X11_lie_22
  have no : (¬ ∃ a b n, mlA w H T x y a b ∧ 1 ≤ n ∧ n ≤ (wL w).length ∧ u = nI n) → ((nI 0, s) : Int32 × cS).1 = v ∧ clW F g H T ((nI 0, s) : Int32 × cS).2 W ∧ IV F H T W := fun z => by
    rcases hv with ⟨a, b, n, q1, q2, q3, q4, _⟩ | ⟨_, q2, q3⟩
    · exact absurd ⟨a, b, n, q1, q2, q3, q4⟩ z
    · rw [q2, q3]
      exact ⟨rfl, h, iv⟩
  have ml := mayLie_c (N := N) (x := x) (y := y) cr
  refine wp_and ml.1 ?_
  rcases ml.2 with ⟨⟨a, b, q⟩, e1⟩ | ⟨q, e1⟩
  rotate_left
  · rw [e1]
    exact wp_pos rfl (wp_fin trivial (no (fun ⟨a, b, _, z, _⟩ => q ⟨a, b, z⟩)))
  rw [e1, t1]
  refine wp_neg (by decide) (wp_ite (fun c => wp_fin trivial (no ?_)) (fun c => ?_))
  · rintro ⟨_, _, n, _, q1, q2, q3⟩
    rw [q3, n_lt' (by omega) (by omega)] at c
    omega
  have cu : ¬ u < 0 := fun z => c (by
    rw [Int32.lt_iff_toInt_lt] at z ⊢
    have : (0 : Int32).toInt = 0 := rfl
    have : (nI 1).toInt = 1 := rfl
    omega)
  obtain ⟨n, hn, rfl⟩ := i_nat cu
  rw [n_lt' hn (by omega)] at c
  refine wp_ite (fun c2 => ?_) (fun c2 => wp_fin trivial (no ?_)) <;> rw [n_le' hn (by omega)] at c2
  rotate_left
  · rintro ⟨_, _, n', _, q1, q2, q3⟩
    have := n_inj hn (by omega) q3
    omega
  obtain ⟨m1, m2, m3, m4, m5, rfl, rfl⟩ := q
  -- the one case that is left
  have hv' : (¬ (wf T ((wL w).take n) ∧ tlH H ((wL w).take n)) ∧ W = aPost (sL w []) a b ((wL w).take n) ∧ v = nI 1) ∨ ((wf T ((wL w).take n) ∧ tlH H ((wL w).take n)) ∧ W = w ∧ v = nI 0) := by
    rcases hv with ⟨a', b', n', q1, q2, q3, q4, q5⟩ | ⟨q, _⟩
    · obtain ⟨p1, p2, p3, p4, p5, p6, p7⟩ := q1
      have := n_inj (by omega) (by omega) p6
      subst this
      have := n_inj (by omega) (by omega) p7
      subst this
      have := n_inj hn (by omega) q4
      subst this
      exact q5
    · exact absurd ⟨a, b, n, ⟨m1, m2, m3, m4, m5, rfl, rfl⟩, by omega, c2, rfl⟩ q
  have ivW : IV F H T W := by
    rcases hv' with ⟨q1, q2, _⟩ | ⟨_, q2, _⟩
    · rw [q2]
      exact iv.lie m1 m2 m3 q1
    · rw [q2]
      exact iv
  have fr := fresh_C (N := N) (len := n) cr (by decide) (by omega) (by omega)
  have f5 := k5c_X9_fresh (u := 0) cr.2.1 oS7 fr.1
  refine wp_call fr (fun fr => ?_)
  obtain ⟨e, y0, z1, yl, cc, ca, uc, i4, i5, f1, f2, f3⟩ := fr
  generalize k_X9_fresh N g H T s (g + 11) (nI n) = z at z1 cc ca i4 i5 f1 f2 f3 f5 ⊢
  obtain ⟨z1', s1⟩ := z
  have z1 : z1' = some e := z1
  subst z1
  have cc : CR F g H T s1 (fun b => if b = e then y0 else ct b) [e] w (fun _ => -1) := cc
  have ca : cnA g H T s1 e = 0 := ca
  have i4 : cI s1 4 e = nI 0 := i4
  have i5 : cI s1 5 e = nI 0 := i5
  have f1 : ffr g H [] s s1 := f1
  have b1 : bF g H s1 := b5.M f5.2.1
  obtain ⟨u1, u2, u3, u4⟩ := cc.2.2.2.2.2.2.2.1
  have ms1 := cc.ms us_self
  rw [show (if e = e then y0 else ct e) = y0 from if_pos rfl] at ms1
  have lT : ((wL w).take n).length = n := by rw [List.length_take]; omega
  have tL := tape_L cc.2.1
  have kr := (cc.2.1.ms ms1.1).2.1
  have lr := ms1.2.2.1.1
  have rb : rB (va_cpy (cA s1 (g + 1)) (cA s1 (e + 2)) 0 0 n) := fun i => by
    unfold va_cpy
    split
    · exact cc.2.1.b8 tL.2.1 _
    · exact cc.2.1.b8 kr _
  have bt : ∀ i, i < n → bg ((wL w).take n) i = bg (wL w) i := fun i hi => by
    rw [bg_get (by omega), bg_get (by omega), List.getElem_take]
  obtain ⟨a', ct', q0, q1, q2, q3, q4, q5, q6⟩ := mk_row (m := (wL w).take n) (s' := csArow s1 (e + 2) (va_cpy (cA s1 (g + 1)) (cA s1 (e + 2)) 0 0 n)) cc ca uc f1 mw_A (cc.2.1.Ar _ _ (fun _ => rb)) (by omega) (fun i => by
    by_cases c : i < n
    · rw [bt i c]
      exact u3 i
    · rw [bg_out (by omega)]
      decide) (fun i hi => by rw [cA_same, va_cpy0 _ _ _ _ (by omega), u4 i (by omega), bt i (by omega)]) (Or.inl ⟨i4, i5⟩)
  have q0 : some e = some a' := q0
  cases q0
  have q3 : CR F g H T (csArow s1 (e + 2) (va_cpy (cA s1 (g + 1)) (cA s1 (e + 2)) 0 0 n)) ct' [e] w (fun _ => -1) := q3
  show wp (KO_X11_lie_35 N g H T g (nI a) (nI b) (nI n) (some e) s1) (KF_X11_lie_35 N g H T g (nI a) (nI b) (nI n) (some e) s1) _
  unfold KO_X11_lie_35 KF_X11_lie_35
  rw [zsome, n_clamp (by omega), n_clamp (by omega)]
  refine wp_and someN (wp_and ⟨⟨by decide, by decide, n_lt0 (by omega)⟩, by omega, by omega⟩ ?_)
  exact wp_mono (lie_52 hN q3 b1 q1 (by omega) (by omega) hv') (fun q => ⟨q.1, q.2, ivW⟩)
end
end

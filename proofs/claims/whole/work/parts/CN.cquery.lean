section
/-! CALLS OF THE CLASS: copies, what is passed on, what is asked -/
section
variable {F N g H T n k : Nat} {s s0 s1 S : cS} {ct : Nat → List Nat} {hd : List Nat} {w w' V W : Wd} {pe : Nat → Int} {a b : Nat} {G : Gh} {m : List Nat} {x y v u : Int32}
/-- the k-th that flies -/
theorem fly_y (cr : CR F g H T s ct hd w pe) (hk : k < (wK w).1.length) : ∃ a, (p_X9_loadOf N g H T s (g + 11) (nI k) ∧ k_X9_loadOf N g H T s (g + 11) (nI k) = some a) ∧ (p_X9_senderOf N g H T s (g + 11) (nI k) ∧ k_X9_senderOf N g H T s (g + 11) (nI k) = nI (fg (wK w).1 k).1) ∧ (p_X9_receiverOf N g H T s (g + 11) (nI k) ∧ k_X9_receiverOf N g H T s (g + 11) (nI k) = nI (fg (wK w).1 k).2.1) ∧ ct a = (fg (wK w).1 k).2.2.2 ∧ 1 ≤ us g H T s hd a := by
  obtain ⟨⟨ld, tt, q1, q2, q3⟩, q4, q5, q6⟩ := cr.2.2.2.2.2.2.1
  have s0 := loadOf_c (N := N) (g := g) (H := H) (T := T) (x := nI k) q1
  have s1 := senderOf_c (N := N) (g := g) (H := H) (T := T) (x := nI k) q1
  have s2 := receiverOf_c (N := N) (g := g) (H := H) (T := T) (x := nI k) q1
  have lt := q1.2.1
  refine ⟨ld k, ⟨s0.1, ?_⟩, ⟨s1.1, ?_⟩, ⟨s2.1, ?_⟩, q2 k hk, ?_⟩
  · rcases s0.2 with ⟨k', k1, k2, k3⟩ | ⟨k1, _⟩
    · rw [n_eq' (by omega) (by omega)] at k2
      rw [k3, k2]
    · exact absurd ⟨k, hk, rfl⟩ k1
  · rcases s1.2 with ⟨k', k1, k2, k3⟩ | ⟨k1, _⟩
    · rw [n_eq' (by omega) (by omega)] at k2
      rw [k3, k2]
    · exact absurd ⟨k, hk, rfl⟩ k1
  · rcases s2.2 with ⟨k', k1, k2, k3⟩ | ⟨k1, _⟩
    · rw [n_eq' (by omega) (by omega)] at k2
      rw [k3, k2]
    · exact absurd ⟨k, hk, rfl⟩ k1
  · have tl := q1.2.2.2.2.1 k (by omega)
    have cell := (q1.2.2.2.2.2.2 k hk).2.2.2
    have := cnA_hs (g := g) (H := H) (T := T) tl cell
    unfold us
    omega
theorem fly_n (cr : CR F g H T s ct hd w pe) (no : ¬ ∃ k, k < (wK w).1.length ∧ x = nI k) : p_X9_loadOf N g H T s (g + 11) x ∧ k_X9_loadOf N g H T s (g + 11) x = none := by
  obtain ⟨⟨ld, tt, q1, q2, q3⟩, q4, q5, q6⟩ := cr.2.2.2.2.2.2.1
  have s0 := loadOf_c (N := N) (g := g) (H := H) (T := T) (x := x) q1
  refine ⟨s0.1, ?_⟩
  rcases s0.2 with ⟨k', k1, k2, k3⟩ | ⟨_, k1⟩
  · exact absurd ⟨k', k1, k2⟩ no
  · exact k1
theorem fl_le (cr : CR F g H T s ct hd w pe) : (wK w).1.length ≤ 1000 := by
  obtain ⟨⟨ld, tt, q1, q2, q3⟩, q4, q5, q6⟩ := cr.2.2.2.2.2.2.1
  exact q1.2.1
theorem room_c (cr : CR F g H T s ct hd w pe) : p_X9_hasRoom N g H T s (g + 11) ∧ k_X9_hasRoom N g H T s (g + 11) = nI (if (wK w).1.length < 1000 then 1 else 0) := by
  obtain ⟨⟨ld, tt, q1, q2, q3⟩, q4, q5, q6⟩ := cr.2.2.2.2.2.2.1
  exact hasRoom_c q1
theorem clW.sky {K : Sk} (iv : IV F H T w) (aj : AJ F H T (sK w K)) : IV F H T (sK w K) := ⟨aj, ⟨aj.1.1, iv.2.1.2⟩, rest_eq iv.2.2 rfl rfl⟩
theorem copy_C (h : clW F g H T s w) (iv : IV F H T w) (hv : (∃ k, k < (wK w).1.length ∧ (wK w).1.length < 1000 ∧ x = nI k ∧ W = aCopy w k ∧ v = nI 1) ∨ ((¬ ∃ k, k < (wK w).1.length ∧ (wK w).1.length < 1000 ∧ x = nI k) ∧ W = w ∧ v = nI 0)) : wp (p_X11_copy N g H T s g x) (k_X11_copy N g H T s g x) (fun z => z.1 = v ∧ clW F g H T z.2 W ∧ IV F H T W) := by
  have h' := h
  obtain ⟨ct, cr, b5⟩ := h'
  have lt := fl_le cr
  show wp (KO_X11_copy_0 N g H T g x s) (KF_X11_copy_0 N g H T g x s) _
  unfold KO_X11_copy_0 KF_X11_copy_0 KO_X11_copy_25 KF_X11_copy_25 KO_X11_copy_42 KF_X11_copy_42
  have no : (¬ ∃ k, k < (wK w).1.length ∧ (wK w).1.length < 1000 ∧ x = nI k) → ((nI 0, s) : Int32 × cS).1 = v ∧ clW F g H T ((nI 0, s) : Int32 × cS).2 W ∧ IV F H T W := fun z => by
    rcases hv with ⟨k, q1, q2, q3, _⟩ | ⟨_, q2, q3⟩
    · exact absurd ⟨k, q1, q2, q3⟩ z
    · rw [q2, q3]
      exact ⟨rfl, h, iv⟩
  by_cases c : ∃ k, k < (wK w).1.length ∧ x = nI k
  rotate_left
  · obtain ⟨o1, o2⟩ := fly_n (N := N) cr c
    rw [o2]
    exact wp_and o1 (wp_pos rfl (wp_fin trivial (no (fun ⟨k, q1, _, q2⟩ => c ⟨k, q1, q2⟩))))
  obtain ⟨k, hk, rfl⟩ := c
  obtain ⟨a, ⟨o1, o2⟩, ⟨o3, o4⟩, ⟨o5, o6⟩, o7, o8⟩ := fly_y (N := N) cr hk
  have rm := room_c (N := N) cr
  rw [o2, o4, o6, rm.2]
  refine wp_and o1 (wp_neg someN (wp_and rm.1 ?_))
  by_cases c2 : (wK w).1.length < 1000
  · rw [if_pos c2]
    have la := launch_C (N := N) (f := (fg (wK w).1 k).1) (t := (fg (wK w).1 k).2.1) cr o8 c2
    have l5 := k5c_X9_launch (u := 0) cr.2.1 oS7 (fun b e => by cases e; exact (cr.ms o8).1) la.1
    refine wp_neg (by decide) (wp_and o3 (wp_and o5 (wp_and la.1 (wp_fin trivial ?_))))
    rcases hv with ⟨k', q1, q2, q3, q4, q5⟩ | ⟨q1, _⟩
    · have := n_inj (by omega) (by omega) q3
      subst this
      rw [q4, q5]
      have l2 := la.2
      rw [o7] at l2
      exact ⟨rfl, ⟨ct, l2, b5.M l5.2⟩, clW.sky iv (iv.1.copy hk)⟩
    · exact absurd ⟨k, hk, c2, rfl⟩ q1
  · rw [if_neg c2]
    exact wp_pos rfl (wp_fin trivial (no (fun ⟨k, _, q, _⟩ => c2 q)))
/-- who may lie -/
theorem mayLie_c (cr : CR F g H T s ct hd w pe) : p_X11_mayLie N g H T s g x y ∧ (((∃ a b, mlA w H T x y a b) ∧ k_X11_mayLie N g H T s g x y = nI 1) ∨ ((¬ ∃ a b, mlA w H T x y a b) ∧ k_X11_mayLie N g H T s g x y = nI 0)) := by
  have cb := cr.1.bb
  have eH : cI s 2 (g + 8) = nI H := cr.2.2.2.2.2.1.2.2.1
  have eT : cI s 1 (g + 8) = nI T := cr.2.2.2.2.2.1.2.1
  have rm := room_c (N := N) cr
  show wp (KO_X11_mayLie_0 N g H T g x y s) (KF_X11_mayLie_0 N g H T g x y s) (fun z => ((∃ a b, mlA w H T x y a b) ∧ z = nI 1) ∨ ((¬ ∃ a b, mlA w H T x y a b) ∧ z = nI 0))
  unfold KO_X11_mayLie_0 KF_X11_mayLie_0 KO_X11_mayLie_59 KF_X11_mayLie_59 KO_X11_mayLie_60 KF_X11_mayLie_60
  rw [eH, eT, rm.2]
  have no : (¬ ∃ a b, mlA w H T x y a b) → wp (narrow .boolean (.int (nI 0)) = .int (nI 0)) (nI 0) (fun z => ((∃ a b, mlA w H T x y a b) ∧ z = nI 1) ∨ ((¬ ∃ a b, mlA w H T x y a b) ∧ z = nI 0)) := fun q => wp_fin bo0 (Or.inr ⟨q, rfl⟩)
  refine wp_ite (fun c => no ?_) (fun c => ?_)
  · rintro ⟨a, b, q1, q2, q3, q4, q5, q6, q7⟩
    rw [q6, n_lt' (by omega) (by omega)] at c
    omega
  have cx : ¬ x < 0 := fun z => c (by
    rw [Int32.lt_iff_toInt_lt] at z ⊢
    have e0 : (0 : Int32).toInt = 0 := rfl
    have e1 : (nI H).toInt = (H : Int) := by rw [← iI_n, iI_toInt (by omega) (by omega)]
    omega)
  obtain ⟨a, a1, rfl⟩ := i_nat cx
  rw [n_lt' a1 (by omega)] at c
  refine wp_ite (fun c2 => no ?_) (fun c2 => ?_) <;> rw [n_le' (by omega) a1] at c2
  · rintro ⟨a', b, q1, q2, q3, q4, q5, q6, q7⟩
    have := n_inj a1 (by omega) q6
    omega
  refine wp_ite (fun c3 => no ?_) (fun c3 => ?_)
  · rintro ⟨a', b, q1, q2, q3, q4, q5, q6, q7⟩
    rw [q7] at c3
    exact n_lt0 (by omega) c3
  obtain ⟨b, b1, rfl⟩ := i_nat c3
  refine wp_ite (fun c4 => no ?_) (fun c4 => ?_) <;> rw [n_le' (by omega) b1] at c4
  · rintro ⟨a', b', q1, q2, q3, q4, q5, q6, q7⟩
    have := n_inj b1 (by omega) q7
    omega
  refine wp_ite (fun c5 => no ?_) (fun c5 => ?_) <;> rw [n_eq' a1 b1] at c5
  · rintro ⟨a', b', q1, q2, q3, q4, q5, q6, q7⟩
    have := n_inj b1 (by omega) q7
    have := n_inj a1 (by omega) q6
    omega
  refine wp_and rm.1 ?_
  by_cases c6 : (wK w).1.length < 1000
  · rw [if_pos c6]
    exact wp_neg (by decide) (wp_fin bo1 (Or.inl ⟨⟨a, b, by omega, by omega, by omega, c5, c6, rfl, rfl⟩, rfl⟩))
  · rw [if_neg c6]
    exact wp_pos rfl (no (fun ⟨_, _, _, _, _, _, q, _⟩ => c6 q))
theorem pass_C (h : clW F g H T s w) (iv : IV F H T w) (hv : (∃ a b k, mlA w H T x y a b ∧ k < (wK w).1.length ∧ u = nI k ∧ W = aPost w a b (fg (wK w).1 k).2.2.2 ∧ v = nI 1) ∨ ((¬ ∃ a b k, mlA w H T x y a b ∧ k < (wK w).1.length ∧ u = nI k) ∧ W = w ∧ v = nI 0)) : wp (p_X11_pass N g H T s g x y u) (k_X11_pass N g H T s g x y u) (fun z => z.1 = v ∧ clW F g H T z.2 W ∧ IV F H T W) := by
  have h' := h
  obtain ⟨ct, cr, b5⟩ := h'
  have cb := cr.1.bb
  show wp (KO_X11_pass_0 N g H T g x y u s) (KF_X11_pass_0 N g H T g x y u s) _
  unfold KO_X11_pass_0 KF_X11_pass_0 KO_X11_pass_27 KF_X11_pass_27 KO_X11_pass_43 KF_X11_pass_43
  have no : (¬ ∃ a b k, mlA w H T x y a b ∧ k < (wK w).1.length ∧ u = nI k) → ((nI 0, s) : Int32 × cS).1 = v ∧ clW F g H T ((nI 0, s) : Int32 × cS).2 W ∧ IV F H T W := fun z => by
    rcases hv with ⟨a, b, k, q1, q2, q3, _⟩ | ⟨_, q2, q3⟩
    · exact absurd ⟨a, b, k, q1, q2, q3⟩ z
    · rw [q2, q3]
      exact ⟨rfl, h, iv⟩
  by_cases c : ∃ k, k < (wK w).1.length ∧ u = nI k
  rotate_left
  · obtain ⟨o1, o2⟩ := fly_n (N := N) cr c
    rw [o2]
    exact wp_and o1 (wp_pos rfl (wp_fin trivial (no (fun ⟨_, _, k, _, q1, q2⟩ => c ⟨k, q1, q2⟩))))
  obtain ⟨k, hk, rfl⟩ := c
  obtain ⟨e, ⟨o1, o2⟩, ⟨o3, o4⟩, ⟨o5, o6⟩, o7, o8⟩ := fly_y (N := N) cr hk
  have ml := mayLie_c (N := N) (x := x) (y := y) cr
  rw [o2]
  refine wp_and o1 (wp_neg someN (wp_and ml.1 ?_))
  rcases ml.2 with ⟨q, e1⟩ | ⟨q, e1⟩
  · rw [e1]
    rcases hv with ⟨a, b, k', q1, q2, q3, q4, q5⟩ | ⟨q1, _⟩
    · have lt := q1.2.2.2.2.1
      have l3 := fl_le cr
      have := n_inj (by omega) (by omega) q3
      subst this
      obtain ⟨m1, m2, m3, m4, m5, rfl, rfl⟩ := q1
      have la := post_C (N := N) (f := a) (t := b) cr o8
      have l5 := k5c_X9_post (u := 0) cr.2.1 oS7 (fun b e => by cases e; exact (cr.ms o8).1) la.1
      refine wp_neg (by decide) (wp_and la.1 (wp_fin trivial ?_))
      rw [q4, q5]
      have l2 := la.2.1
      rw [o7] at l2
      exact ⟨rfl, ⟨ct, l2, b5.M l5.2⟩, clW.sky iv (iv.1.pass m1 m2 m3 hk)⟩
    · obtain ⟨a, b, q⟩ := q
      exact absurd ⟨a, b, k, q, hk, rfl⟩ q1
  · rw [e1]
    exact wp_pos rfl (wp_fin trivial (no (fun ⟨a, b, _, z, _⟩ => q ⟨a, b, z⟩)))
theorem i_nn (h : 0 ≤ x) : ¬ x < 0 := fun q => by
  rw [Int32.le_iff_toInt_le] at h
  rw [Int32.lt_iff_toInt_lt] at q
  omega
/-- bytes of a list, eight at once -/
theorem e8_ei {e i : Nat} (h : m.length ≤ e) : e8B m e i = eiB m i := by
  unfold e8B eiB
  congr 1
  funext j
  by_cases c : i + j < e
  · rw [if_pos c]
  · rw [if_neg c, bg_out (by omega)]
theorem ei_0 {i : Nat} (h : m.length ≤ i) : eiB m i = 0 := by
  unfold eiB
  rw [show (fun b => nI (bg m (i + b))) = fun _ => nI 0 from funext fun b => by rw [bg_out (by omega)]]
  decide
theorem ei_drop {i j : Nat} : eiB (m.drop j) i = eiB m (i + j) := by
  unfold eiB
  congr 1
  funext b
  rw [bg_drop, show j + (i + b) = i + j + b by omega]
theorem flying_C (h : clW F g H T s w) (hv : flA w x y v) : wp (p_X11_flying N g H T s g x y) (k_X11_flying N g H T s g x y) (fun z => z = v) := by
  obtain ⟨ct, cr, b5⟩ := h
  show wp (KO_X11_flying_0 N g H T g x y s) (KF_X11_flying_0 N g H T g x y s) _
  unfold KO_X11_flying_0 KF_X11_flying_0
  rcases hv with ⟨k, hk, rfl, e⟩ | ⟨no, e⟩
  · obtain ⟨a, ⟨o1, o2⟩, ⟨o3, o4⟩, ⟨o5, o6⟩, o7, o8⟩ := fly_y (N := N) cr hk
    have ms := cr.ms o8
    rw [o7] at ms
    rw [o2, o4, o6, zsome, ms.2.1]
    refine wp_and o1 (wp_neg someN (wp_ite (fun c => wp_and o3 (wp_fin trivial ?_)) (fun c => wp_ite (fun c2 => wp_and o5 (wp_fin trivial ?_)) (fun c2 => wp_ite (fun c3 => wp_fin trivial ?_) (fun c3 => wp_fin trivial ?_)))))
    · rw [e, if_pos (show y = 0 from c)]
    · rw [e, if_neg (show ¬ y = 0 from c), if_pos c2]
    · rw [e, if_neg (show ¬ y = 0 from c), if_neg c2, if_pos c3]
    · rw [e, if_neg (show ¬ y = 0 from c), if_neg c2, if_neg c3]
  · obtain ⟨o1, o2⟩ := fly_n (N := N) cr no
    rw [o2]
    exact wp_and o1 (wp_pos rfl (wp_fin trivial e.symm))
theorem bytes_C {v : Int64} (hN : 100 ≤ N) (h : clW F g H T s w) (hv : byA w x y v) : wp (p_X11_bytes N g H T s g x y) (k_X11_bytes N g H T s g x y) (fun z => z = v) := by
  obtain ⟨ct, cr, b5⟩ := h
  show wp (KO_X11_bytes_0 N g H T g x y s) (KF_X11_bytes_0 N g H T g x y s) _
  unfold KO_X11_bytes_0 KF_X11_bytes_0 KO_X11_bytes_20 KF_X11_bytes_20 KO_X11_bytes_38 KF_X11_bytes_38
  rcases hv with ⟨k, i, hk, hi, rfl, rfl, e⟩ | ⟨no, e⟩
  · obtain ⟨a, ⟨o1, o2⟩, ⟨o3, o4⟩, ⟨o5, o6⟩, o7, o8⟩ := fly_y (N := N) cr hk
    have ms := cr.ms o8
    rw [o7] at ms
    obtain ⟨e1, e2⟩ := eight_ok (N := N) (g := g) (H := H) (T := T) (i := i) ms.2.2.1 (Nat.le_refl _) hi (by omega)
    rw [o2, zsome, ms.2.1, e2, e, e8_ei (Nat.le_refl _)]
    exact wp_and o1 (wp_neg someN (wp_pos (by rw [show (0 : Int32) = nI 0 from rfl, n_le' (by omega) hi]; omega) (wp_and e1 (wp_fin trivial rfl))))
  · by_cases c : ∃ k, k < (wK w).1.length ∧ x = nI k
    · obtain ⟨k, hk, rfl⟩ := c
      obtain ⟨a, ⟨o1, o2⟩, ⟨o3, o4⟩, ⟨o5, o6⟩, o7, o8⟩ := fly_y (N := N) cr hk
      rw [o2]
      have c2 : ¬ 0 ≤ y := fun z => by
        obtain ⟨i, i1, i2⟩ := i_nat (i_nn z)
        exact no ⟨k, i, hk, i1, rfl, i2⟩
      exact wp_and o1 (wp_neg someN (wp_neg c2 (wp_fin trivial e.symm)))
    · obtain ⟨o1, o2⟩ := fly_n (N := N) cr c
      rw [o2]
      exact wp_and o1 (wp_pos rfl (wp_fin trivial e.symm))
theorem count_C (h : clW F g H T s w) : wp (p_X11_count N g H T s g x) (k_X11_count N g H T s g x) (fun z => z = ctV w H T x) := by
  obtain ⟨ct, cr, b5⟩ := h
  have cb := cr.1.bb
  obtain ⟨⟨ld, tt, q1, q2, q3⟩, q4, q5, q6⟩ := cr.2.2.2.2.2.2.1
  have eH : cI s 2 (g + 8) = nI H := cr.2.2.2.2.2.1.2.2.1
  have eT : cI s 1 (g + 8) = nI T := cr.2.2.2.2.2.1.2.1
  have eL : cI s 3 g = nI (wL w).length := cr.2.2.2.2.2.2.2.1.1
  have hT : H ≤ T := cr.1.2.2.2.1
  have e6 : nI T - nI H = nI (T - H) := by
    rw [← iI_n, ← iI_n, iI_sub, ← iI_n, show ((T : Int) - (H : Int)) = ((T - H : Nat) : Int) by omega]
  refine wp_fin ?_ ?_
  · show KO_X11_count_0 N g H T g x s
    unfold KO_X11_count_0
    simp
  · show KF_X11_count_0 N g H T g x s = _
    unfold KF_X11_count_0 ctV
    rw [q1.1, eT, eH, q6, q4, q5, eL, e6]
end
end

section
/-! CALLS OF THE CLASS: nodes fall, are cut; what flies -/
section
variable {F N g H T n k : Nat} {s s0 s1 S : cS} {ct : Nat → List Nat} {hd : List Nat} {w w' V W : Wd} {pe : Nat → Int} {a b : Nat} {G : Gh} {m : List Nat} {x y v u : Int32}
theorem honest_y (h : CR F g H T s ct hd w pe) (hn : n < H) : p_X11_honestNode N g H T s g (nI n) ∧ k_X11_honestNode N g H T s g (nI n) = some (nd g n) := by
  have cb := h.1.bb
  have eH : cI s 2 (g + 8) = nI H := h.2.2.2.2.2.1.2.2.1
  have eP : cP s (g + 30) n = some (nd g n) := by
    rw [h.2.1.2.2.2.2.2.1 n, if_pos hn]
  show wp (KO_X11_honestNode_0 N g H T g (nI n) s) (KF_X11_honestNode_0 N g H T g (nI n) s) (fun z => z = some (nd g n))
  unfold KO_X11_honestNode_0 KF_X11_honestNode_0 KO_X11_honestNode_28 KF_X11_honestNode_28
  rw [eH, n_clamp (by omega), eP]
  exact wp_neg (n_lt0 (by omega)) (wp_neg (by rw [n_le' (by omega) (by omega)]; omega) (wp_and ((n_in (by omega)).2 (by omega)) (wp_fin trivial rfl)))
theorem honest_n (h : CR F g H T s ct hd w pe) (no : ¬ ∃ n, n < H ∧ x = nI n) : p_X11_honestNode N g H T s g x ∧ k_X11_honestNode N g H T s g x = none := by
  have cb := h.1.bb
  have eH : cI s 2 (g + 8) = nI H := h.2.2.2.2.2.1.2.2.1
  show wp (KO_X11_honestNode_0 N g H T g x s) (KF_X11_honestNode_0 N g H T g x s) (fun z => z = none)
  unfold KO_X11_honestNode_0 KF_X11_honestNode_0 KO_X11_honestNode_27 KF_X11_honestNode_27 KO_X11_honestNode_28 KF_X11_honestNode_28
  rw [eH]
  refine wp_ite (fun _ => wp_fin trivial rfl) (fun c => ?_)
  obtain ⟨k, k1, rfl⟩ := i_nat c
  refine wp_pos ?_ (wp_fin trivial rfl)
  rw [n_le' (by omega) k1]
  by_cases q : H ≤ k
  · exact q
  · exact absurd ⟨k, by omega, rfl⟩ no
theorem aFall_u : wN (aFall w n) n 0 = 0 := by
  show (if n = n ∧ 0 = 0 then (0 : Int) else _) = 0
  rw [if_pos ⟨rfl, rfl⟩]
theorem IV.fall (iv : IV F H T w) (hn : n < H) : IV F H T (aFall w n) := by
  have aj := iv.1.fall (n := n) hn
  have eP : wP (aFall w n) n = [] := by
    show (if n = n then [] else _) = []
    rw [if_pos rfl]
  have e11 : wN (aFall w n) n 11 = -1 := by
    show (if n = n ∧ 11 = 0 then (0 : Int) else if n = n ∧ 9 ≤ 11 ∧ 11 ≤ 11 then -1 else _) = -1
    rw [if_neg (by omega), if_pos (by omega)]
  have e1 : wN (aFall w n) n 1 = wN w n 1 := aFall_N _ _ (Or.inr (by omega))
  refine ⟨aj, iv.2.1.step wfr.fall aj.1.1 (fun z => ⟨?_, ?_⟩) (tzf.sm e1 (Or.inr e11)), rest_all iv.2.2 wfr.fall (fun _ => rest.dn aFall_u)⟩
  · have z1 := z.1
    unfold chO at z1 ⊢
    rw [e1]
    intro k y k1 k2 e
    rw [aFall_Y _ _ (Or.inr (by omega))] at e
    exact z1 k y k1 k2 e
  · rw [eP]
    exact trivial
theorem crash_C (hN : 12000 ≤ N) (h : clW F g H T s w) (iv : IV F H T w) (hv : (∃ n, n < H ∧ x = nI n ∧ wN w n 0 = 1 ∧ W = aFall w n ∧ v = nI 1) ∨ ((¬ ∃ n, n < H ∧ x = nI n ∧ wN w n 0 = 1) ∧ W = w ∧ v = nI 0)) : wp (p_X11_crash N g H T s g x) (k_X11_crash N g H T s g x) (fun z => z.1 = v ∧ clW F g H T z.2 W ∧ IV F H T W) := by
  have h' := h
  obtain ⟨ct, cr, b5⟩ := h'
  have cb := cr.1.bb
  show wp (KO_X11_crash_0 N g H T g x s) (KF_X11_crash_0 N g H T g x s) _
  unfold KO_X11_crash_0 KF_X11_crash_0 KO_X11_crash_17 KF_X11_crash_17 KO_X11_crash_23 KF_X11_crash_23
  by_cases c : ∃ n, n < H ∧ x = nI n
  rotate_left
  · obtain ⟨o1, o2⟩ := honest_n (N := N) cr c
    rw [o2]
    refine wp_and o1 (wp_pos rfl (wp_fin trivial ?_))
    rcases hv with ⟨n, q1, q2, _⟩ | ⟨_, q2, q3⟩
    · exact absurd ⟨n, q1, q2⟩ c
    · rw [q2, q3]
      exact ⟨rfl, h, iv⟩
  obtain ⟨n, hn, rfl⟩ := c
  obtain ⟨G, g1⟩ := iv.2.1.1.1
  have gn := g1.2.1 n hn
  have ga := gn.a
  have ga0 := ga.1
  have e8 : cI s 8 (nd g n) = nI (wN w n 0).toNat := by
    rw [(cr.node hn).1.2.1, ← iI_n, Int.toNat_of_nonneg ga.1.1]
  obtain ⟨o1, o2⟩ := honest_y (N := N) cr hn
  rw [o2, zsome, e8]
  refine wp_and o1 (wp_neg someN ?_)
  by_cases hu : wN w n 0 = 1
  · have fa := fall_C (N := N) (by omega) cr hn (by decide) hu ga.2.1 (gn.ow hn (by omega) (by omega) hu)
    have f5 := k5c_X6_fall (u := 0) cr.2.1 (isO5 hn) fa.1
    refine wp_neg (by rw [n_eq0 (by omega)]; omega) (wp_and fa.1 (wp_fin trivial ?_))
    rcases hv with ⟨n', q1, q2, q3, q4, q5⟩ | ⟨q1, _⟩
    · have := n_inj (by omega) (by omega) q2
      subst this
      rw [q4, q5]
      refine ⟨rfl, ⟨ct, ?_, b5.M f5.2⟩, iv.fall hn⟩
      have := fa.2
      rw [show (fun m => if m = n then (-1 : Int) else (fun _ => -1) m) = fun _ => -1 from funext fun m => by split <;> rfl] at this
      exact this
    · exact absurd ⟨n, hn, rfl, hu⟩ q1
  · refine wp_pos (by rw [n_eq0 (by omega)]; omega) (wp_fin trivial ?_)
    rcases hv with ⟨n', q1, q2, q3, q4, q5⟩ | ⟨_, q2, q3⟩
    · have := n_inj (by omega) (by omega) q2
      subst this
      exact absurd q3 hu
    · rw [q2, q3]
      exact ⟨rfl, h, iv⟩
theorem IV.cut (iv : IV F H T w) (hn : n < H) (hk : k ≤ 1000) : IV F H T (sN w n 12 (k : Int)) := by
  have aj := iv.1.cut (n := n) (k := k) hn hk
  refine ⟨aj, iv.2.1.step (wfr.N (by decide)) aj.1.1 (pxf.N (by decide)) (tzf.N (by decide) (by decide)), rest_all (n := n) iv.2.2 (wfr.N (by decide)) (fun hn => (iv.2.2 n hn).q ⟨fun j hj => N_o _ _ _ _ (Or.inr (by omega)), fun _ _ => rfl⟩)⟩
theorem cut_C (h : clW F g H T s w) (iv : IV F H T w) (hv : (∃ n k, n < H ∧ x = nI n ∧ k ≤ 1000 ∧ y = nI k ∧ W = sN w n 12 (k : Int) ∧ v = nI 1) ∨ ((¬ ∃ n k, n < H ∧ x = nI n ∧ k ≤ 1000 ∧ y = nI k) ∧ W = w ∧ v = nI 0)) : wp (p_X11_cut N g H T s g x y) (k_X11_cut N g H T s g x y) (fun z => z.1 = v ∧ clW F g H T z.2 W ∧ IV F H T W) := by
  have h' := h
  obtain ⟨ct, cr, b5⟩ := h'
  have cb := cr.1.bb
  show wp (KO_X11_cut_0 N g H T g x y s) (KF_X11_cut_0 N g H T g x y s) _
  unfold KO_X11_cut_0 KF_X11_cut_0 KO_X11_cut_21 KF_X11_cut_21
  have no : (¬ ∃ n k, n < H ∧ x = nI n ∧ k ≤ 1000 ∧ y = nI k) → ((nI 0, s) : Int32 × cS).1 = v ∧ clW F g H T ((nI 0, s) : Int32 × cS).2 W ∧ IV F H T W := fun z => by
    rcases hv with ⟨n, k, q1, q2, q3, q4, _⟩ | ⟨_, q2, q3⟩
    · exact absurd ⟨n, k, q1, q2, q3, q4⟩ z
    · rw [q2, q3]
      exact ⟨rfl, h, iv⟩
  by_cases c : ∃ n, n < H ∧ x = nI n
  rotate_left
  · obtain ⟨o1, o2⟩ := honest_n (N := N) cr c
    rw [o2]
    refine wp_and o1 (wp_pos rfl (wp_fin trivial (no ?_)))
    rintro ⟨n, k, q1, q2, _⟩
    exact c ⟨n, q1, q2⟩
  obtain ⟨n, hn, rfl⟩ := c
  obtain ⟨o1, o2⟩ := honest_y (N := N) cr hn
  rw [o2, zsome]
  refine wp_and o1 (wp_neg someN (wp_ite (fun c => ?_) (fun c => ?_)))
  · refine wp_fin trivial (no ?_)
    rintro ⟨n', k, q1, q2, q3, q4⟩
    rw [q4] at c
    exact n_lt0 (by omega) c
  obtain ⟨k, k1, rfl⟩ := i_nat c
  by_cases c2 : k ≤ 1000
  · refine wp_pos (by rw [n_le' (by omega) (by omega)]; exact c2) (wp_fin trivial ?_)
    rcases hv with ⟨n', k', q1, q2, q3, q4, q5, q6⟩ | ⟨q1, _⟩
    · have := n_inj (by omega) (by omega) q2
      subst this
      have := n_inj (by omega) (by omega) q4
      subst this
      rw [q5, q6]
      refine ⟨rfl, ⟨ct, ?_, fun m hm => ?_⟩, iv.cut hn c2⟩
      · have := cr.lg (k := 9) (j := 12) (x := (k : Int)) hn (by unfold lgK; omega)
        rw [iI_n] at this
        exact this
      · show cI (csI s 9 (nd g n + 1) (nI k)) 5 (nd g m + 6) = nI 0
        rw [cI_other _ _ (Or.inl (by decide))]
        exact b5 m hm
    · exact absurd ⟨n, k, hn, rfl, c2, rfl⟩ q1
  · refine wp_neg (by rw [n_le' k1 (by omega)]; exact c2) (wp_fin trivial (no ?_))
    rintro ⟨n', k', q1, q2, q3, q4⟩
    have := n_inj k1 (by omega) q4
    omega
/-- a launch alone -/
theorem csI_back {k a : Nat} {x y : Int32} (h : y = cI s k a) : csI (csI s k a x) k a y = s := by
  unfold csI
  refine Prod.ext rfl (Prod.ext (funext fun i => funext fun j => ?_) rfl)
  show up2 (up2 s.2.1 k a x) k a y i j = s.2.1 i j
  unfold up2
  by_cases c : i = k ∧ j = a
  · rw [if_pos c, h, c.1, c.2]
    rfl
  · rw [if_neg c, if_neg c]
theorem launch_C {m f t : Nat} (h : CR F g H T s ct hd w pe) (hm : 1 ≤ us g H T s hd m) (hl : (wK w).1.length < 1000) : wp (p_X9_launch N g H T s (g + 11) (nI f) (nI t) (some m)) (k_X9_launch N g H T s (g + 11) (nI f) (nI t) (some m)) (fun z => CR F g H T z ct hd (sK w ((wK w).1 ++ [(f, t, wT w, ct m)], (wK w).2)) pe) := by
  obtain ⟨h1, h2, h3, h4, h5, h6⟩ := h
  obtain ⟨⟨ld, tt, q1, q2, q3⟩, q4, q5, q6⟩ := h6.2.1
  have f1 : cfr (fun b => b = g + 11) s (csI s 11 (g + 11) (iI ((wK w).2.1 - 1))) := cfr_I _ _ _ _
  have lq : ∀ a, a = g + 11 → a < nd g H := fun a ha => by unfold nd; omega
  have c0 : CR F g H T (csI s 11 (g + 11) (iI ((wK w).2.1 - 1))) ct hd (sK w ((wK w).1, (wK w).2.1 - 1, (wK w).2.2)) pe := by
    refine ⟨h1, h2.I _ _ _, h3, h4.cf f1 lq, h5.fr rfl rfl rfl rfl (fun _ _ => rfl), h6.sk ((f1.xf lq).mono (fun a _ z => by unfold skP; omega)) ⟨⟨ld, tt, q1.I (Or.inl (by decide)), q2, q3⟩, cI_same _ _ _ _, ?_, ?_⟩⟩
    · rw [cI_other _ _ (Or.inl (by decide))]
      exact q5
    · rw [cI_other _ _ (Or.inl (by decide))]
      exact q6
  have e1 : cI (csI s 11 (g + 11) (iI ((wK w).2.1 - 1))) 11 (g + 11) + nI 1 = cI s 11 (g + 11) := by
    rw [cI_same, iI_addn, q4]
    congr 1
    show (wK w).2.1 - 1 + 1 = (wK w).2.1
    omega
  have e9 : cI s 9 (g + 11) = nI (wK w).1.length := q1.1
  have po := post_C (N := N) (f := f) (t := t) c0 (show 1 ≤ us g H T (csI s 11 (g + 11) (iI ((wK w).2.1 - 1))) hd m from hm)
  have po : wp (KO_X9_post_0 N g H T (g + 11) (nI f) (nI t) (some m) (csI s 11 (g + 11) (iI ((wK w).2.1 - 1)))) (KF_X9_post_0 N g H T (g + 11) (nI f) (nI t) (some m) (csI s 11 (g + 11) (iI ((wK w).2.1 - 1)))) (fun z => CR F g H T z ct hd (aPost (sK w ((wK w).1, (wK w).2.1 - 1, (wK w).2.2)) f t (ct m)) pe) := ⟨po.1, po.2.1⟩
  unfold KO_X9_post_0 KF_X9_post_0 KO_X9_post_27 KF_X9_post_27 KO_X9_post_40 KF_X9_post_40 at po
  rw [csI_back e1, e9] at po
  have nl : ¬ nI 1000 ≤ nI (wK w).1.length := by
    rw [n_le' (by omega) (by omega)]
    omega
  have p1 := (po.1.2 nl).1
  have p2 := po.2
  rw [if_neg nl] at p2
  refine wp_fin p1 ?_
  have ew : aPost (sK w ((wK w).1, (wK w).2.1 - 1, (wK w).2.2)) f t (ct m) = sK w ((wK w).1 ++ [(f, t, wT w, ct m)], (wK w).2) := by
    unfold aPost pst
    show sK (sK w _) (if (wK w).1.length < 1000 then ((wK w).1 ++ [(f, t, wT w, ct m)], (wK w).2.1 - 1 + 1, (wK w).2.2) else _) = _
    rw [if_pos hl, show (wK w).2.1 - 1 + 1 = (wK w).2.1 by omega]
    rfl
  rw [ew] at p2
  exact p2
end
end

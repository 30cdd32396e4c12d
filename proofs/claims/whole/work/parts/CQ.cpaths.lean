section
/-! CALLS OF THE CLASS: hashes, ways to roots -/
section
variable {F N g H T n k : Nat} {s s0 s1 S X : cS} {ct : Nat → List Nat} {hd : List Nat} {w w' V W : Wd} {pe : Nat → Int} {a b : Nat} {G : Gh} {m : List Nat} {x y v u r : Int32}
theorem isO9 : isO g H 9 g := Or.inr (Or.inr (Or.inr (Or.inr (Or.inr (Or.inr (Or.inr (Or.inr ⟨rfl, rfl⟩)))))))
theorem tape_L (h : St 0 g H T s) : cL s (g + 1) = 1000 ∧ cK s (g + 1) = 20 ∧ cL s (g + 2) = 1024 ∧ cK s (g + 2) = 20 := ⟨h.rl (c := 9) (k := 1) isO9 rfl (by omega) (by omega), (h.rk (c := 9) (k := 1) isO9 rfl (by omega)) _ rfl, h.rl (c := 9) (k := 2) isO9 rfl (by omega) (by omega), (h.rk (c := 9) (k := 2) isO9 rfl (by omega)) _ rfl⟩
theorem tape_B (cr : CR F g H T s ct hd w pe) : cB s (g + 1) (wL w) := by
  obtain ⟨t1, t2, t3, t4⟩ := cr.2.2.2.2.2.2.2.1
  have l := tape_L cr.2.1
  exact ⟨by omega, by omega, t4, t3⟩
theorem hL_of (h : St 0 g H T s) : hL s (g + 3) := ⟨h.rl (c := 2) (k := 0) (Or.inr (Or.inr (Or.inl ⟨rfl, rfl⟩))) rfl (by omega) (by omega), h.rl (c := 2) (k := 1) (Or.inr (Or.inr (Or.inl ⟨rfl, rfl⟩))) rfl (by omega) (by omega), h.rl (c := 2) (k := 3) (Or.inr (Or.inr (Or.inl ⟨rfl, rfl⟩))) rfl (by omega) (by omega)⟩
theorem isB_c {a : Nat} {l : List Nat} (ha : a < 256) (hl : isB l) : isB (a :: l) := fun i => by
  cases i with
  | zero => exact ha
  | succ i => exact hl i
theorem pthL_B : ∀ (m : Nat) (lv : Nat → Nat → Int32) (k : Nat), isB (pthL lv m k) := by
  intro m
  induction m using Nat.strongRecOn with
  | ind m ih =>
    intro lv k
    by_cases c : m ≤ 1
    · rw [pthL_lo c]
      exact fun i => by rw [bg_out (by simp)]; decide
    rw [pthL_hi c]
    refine isB_app ?_ (ih _ (by omega) _ _)
    have lB : ∀ q, isB (lvB lv q) := fun q => isB_mk fun k _ => (nb_spec _).1
    unfold ptS1
    split
    · exact isB_c (by decide) (fun i => by rw [bg_out (by simp)]; decide)
    · split
      · exact isB_c (by decide) (lB _)
      · exact isB_c (by decide) (lB _)
/-- scratch alone is written, and no book -/
theorem clW.sc {P : Nat → Prop} (cr : CR F g H T s ct [] w (fun _ => -1)) (b5 : bF g H s) (f : cfr P s X) (hP : ∀ a, P a → scP g H a) (st : St 0 g H T X) : clW F g H T X w := by
  refine ⟨ct, cr.sc f hP st, fun m hm => ?_⟩
  rw [f.I 5 (nd g m + 6) (fun q => ?_)]
  · exact b5 m hm
  · rcases hP _ q with z | z | z | z | z | ⟨i, hi, z⟩ <;> (unfold nd at z; omega)
theorem hash_C {v : Int64} (hN : 12000 ≤ N) (h : clW F g H T s w) (hv : hsA w x y v) : wp (p_X11_hash N g H T s g x y) (k_X11_hash N g H T s g x y) (fun z => z.1 = v ∧ clW F g H T z.2 w) := by
  have h' := h
  obtain ⟨ct, cr, b5⟩ := h'
  have eL : cI s 3 g = nI (wL w).length := cr.2.2.2.2.2.2.2.1.1
  have tl : (wL w).length ≤ 1000 := cr.2.2.2.2.2.2.2.1.2.1
  show wp (KO_X11_hash_0 N g H T g x y s) (KF_X11_hash_0 N g H T g x y s) _
  unfold KO_X11_hash_0 KF_X11_hash_0 KO_X11_hash_21 KF_X11_hash_21
  rw [eL]
  have no : (¬ ∃ n k, n ≤ (wL w).length ∧ k ≤ 3 ∧ x = nI n ∧ y = nI k) → (((0 : Int64), s) : Int64 × cS).1 = v ∧ clW F g H T (((0 : Int64), s) : Int64 × cS).2 w := fun z => by
    rcases hv with ⟨n, k, q1, q2, q3, q4, _⟩ | ⟨_, q⟩
    · exact absurd ⟨n, k, q1, q2, q3, q4⟩ z
    · exact ⟨q.symm, h⟩
  refine wp_ite (fun c => wp_fin trivial (no ?_)) (fun c => ?_)
  · rintro ⟨n, k, q1, q2, q3, q4⟩
    rw [q3] at c
    exact n_lt0 (by omega) c
  obtain ⟨n, hn, rfl⟩ := i_nat c
  refine wp_ite (fun c => wp_fin trivial (no ?_)) (fun c => ?_) <;> rw [n_lt' (by omega) hn] at c
  · rintro ⟨n', k, q1, q2, q3, q4⟩
    have := n_inj hn (by omega) q3
    omega
  refine wp_ite (fun c2 => wp_fin trivial (no ?_)) (fun c2 => ?_)
  · rintro ⟨n, k, q1, q2, q3, q4⟩
    rw [q4] at c2
    exact n_lt0 (by omega) c2
  obtain ⟨k, hk, rfl⟩ := i_nat c2
  by_cases c3 : k ≤ 3
  rotate_left
  · refine wp_neg (by rw [n_le' hk (by omega)]; exact c3) (wp_fin trivial (no ?_))
    rintro ⟨n', k', q1, q2, q3, q4⟩
    have := n_inj hk (by omega) q4
    omega
  have tL := tape_L cr.2.1
  have dg := digestC (N := N) (g := g) (H := H) (T := T) (a := 0) (b := n) (d := g + 2) (at_ := 0) (by omega) cr.2.1 (tape_B cr) (by unfold isH; omega) (by omega) (by omega) (by omega) (by unfold isH; omega) (by omega) (by omega)
  have st := (kpc_X2_digest cr.2.1 oH (tK_some tL.2.1) (tK_some tL.2.2.2) dg.1).1
  refine wp_pos (by rw [n_le' (by omega) (by omega)]; exact c3) (wp_call dg (fun q => ?_))
  obtain ⟨q1, q2, q3⟩ := q
  generalize k_X2_digest N g H T s (g + 3) (some (g + 1)) (nI 0) (nI n) (some (g + 2)) (nI 0) = S1 at q1 q2 q3 st ⊢
  unfold KO_X11_hash_44 KF_X11_hash_44
  rw [n_mul]
  have l2 : cL S1 (g + 2) = 1024 := (tape_L st).2.2.1
  have bB : cB S1 (g + 2) (shaB (sl (wL w) 0 n)) := by
    refine ⟨by rw [shaB_len]; omega, by omega, fun i hi => ?_, shaB_B _⟩
    rw [shaB_len] at hi
    have := q2 i hi
    rw [Nat.zero_add] at this
    exact st.sb (tape_L st).2.2.2 (shaB_B _ i) this
  have l32 := shaB_len (sl (wL w) 0 n)
  obtain ⟨e1, e2⟩ := eight_ok (N := N) (g := g) (H := H) (T := T) (i := 8 * k) (e := 32) bB (by omega) (by omega) (by omega)
  refine wp_and e1 (wp_fin trivial ⟨?_, clW.sc cr b5 q1 (fun a z => by unfold scP; unfold isH at z; omega) st⟩)
  show k_X11_eight N g H T S1 (some (g + 2)) (nI 32) (nI (8 * k)) = v
  rw [e2, e8_ei (by omega)]
  rcases hv with ⟨n', k', q1, q2, q3, q4, q5⟩ | ⟨q, _⟩
  · have := n_inj (by omega) (by omega) q3
    subst this
    have := n_inj (by omega) (by omega) q4
    subst this
    exact q5.symm
  · exact absurd ⟨n, k, by omega, c3, rfl, rfl⟩ q
theorem account_C {v : Int64} (hN : 12000 ≤ N) (h : clW F g H T s w) (iv : IV F H T w) (hv : acA w H x y u v) : wp (p_X11_account N g H T s g x y u) (k_X11_account N g H T s g x y u) (fun z => z.1 = v ∧ clW F g H T z.2 w) := by
  have h' := h
  obtain ⟨ct, cr, b5⟩ := h'
  have cb := cr.1.bb
  show wp (KO_X11_account_0 N g H T g x y u s) (KF_X11_account_0 N g H T g x y u s) _
  unfold KO_X11_account_0 KF_X11_account_0 KO_X11_account_26 KF_X11_account_26
  have no : (¬ ∃ n a i, n < H ∧ a < 16 ∧ i < 2147483648 ∧ x = nI n ∧ y = nI a ∧ u = nI i) → (((-1 : Int64), s) : Int64 × cS).1 = v ∧ clW F g H T (((-1 : Int64), s) : Int64 × cS).2 w := fun z => by
    rcases hv with ⟨n, a, i, q1, q2, q3, q4, q5, q6, _⟩ | ⟨_, q⟩
    · exact absurd ⟨n, a, i, q1, q2, q3, q4, q5, q6⟩ z
    · exact ⟨q.symm, h⟩
  by_cases c : ∃ n, n < H ∧ x = nI n
  rotate_left
  · obtain ⟨o1, o2⟩ := honest_n (N := N) cr c
    rw [o2]
    exact wp_and o1 (wp_pos rfl (wp_fin trivial (no (fun ⟨n, _, _, q1, _, _, q2, _⟩ => c ⟨n, q1, q2⟩))))
  obtain ⟨n, hn, rfl⟩ := c
  obtain ⟨o1, o2⟩ := honest_y (N := N) cr hn
  rw [o2]
  refine wp_and o1 (wp_neg someN (wp_ite (fun c => wp_fin trivial (no ?_)) (fun c => ?_)))
  · rintro ⟨_, a, i, _, q1, _, _, q2, _⟩
    rw [q2] at c
    exact n_lt0 (by omega) c
  obtain ⟨a, ha, rfl⟩ := i_nat c
  refine wp_ite (fun c => wp_fin trivial (no ?_)) (fun c => ?_) <;> rw [n_le' (by omega) ha] at c
  · rintro ⟨_, a', i, _, q1, _, _, q2, _⟩
    have := n_inj ha (by omega) q2
    omega
  refine wp_ite (fun c2 => ?_) (fun c2 => wp_fin trivial (no ?_))
  rotate_left
  · rintro ⟨_, _, i, _, _, q1, _, _, q2⟩
    exact c2 (by rw [q2, show (0 : Int32) = nI 0 from rfl, n_le' (by omega) q1]; omega)
  obtain ⟨i, hi, rfl⟩ := i_nat (i_nn c2)
  have ev : v = eiB (acP (bkN (wN w) n) a ++ pthP (acL (bkN (wN w) n) 16) a) i := by
    rcases hv with ⟨n', a', i', q1, q2, q3, q4, q5, q6, q7⟩ | ⟨q, _⟩
    · have := n_inj (by omega) (by omega) q4
      subst this
      have := n_inj (by omega) (by omega) q5
      subst this
      have := n_inj hi q3 q6
      subst this
      exact q7
    · exact absurd ⟨n, a, i, hn, by omega, hi, rfl, rfl, rfl⟩ q
  obtain ⟨G, g1⟩ := iv.2.1.1.1
  have ok := (g1.2.1 n hn).b.1
  have bk : bkC s (nd g n + 6) (bkN (wN w) n) := bkC_cg (cr.node hn).2.2.2.2.2.1.1 vB_N
  generalize bkN (wN w) n = K at ev ok bk
  have hh := hL_of cr.2.1
  have o6 : isO g H 0 (nd g n + 6) := Or.inl ⟨rfl, Or.inr (Or.inr ⟨n, hn, rfl⟩)⟩
  have L10 : cL s (nd g n + 6 + 4) = 6 := cr.2.1.rl (c := 0) (k := 4) o6 rfl (by omega) (by omega)
  have pl := bplant_c (N := N) (g := g) (H := H) (T := T) (h := g + 3) (by omega) bk ok hh (by unfold nd; omega) L10
  have st1 := (kpc_X0_plant cr.2.1 o6 oH pl.1).1
  rw [zsome]
  refine wp_call pl (fun q => ?_)
  obtain ⟨p1, p2, p3⟩ := q
  generalize k_X0_plant N g H T s (nd g n + 6) (g + 3) = S1 at p1 p2 p3 st1 ⊢
  have f1 : ∀ b, (isH (g + 3) b ∨ b = nd g n + 6 + 4) → scP g H b := fun b z => by
    unfold scP
    rcases z with z | z
    · unfold isH at z
      omega
    · exact Or.inr (Or.inr (Or.inr (Or.inr (Or.inr ⟨n, hn, by omega⟩))))
  have c1 := cr.sc p1 f1 st1
  have bk1 : bkC S1 (nd g n + 6) K := bk.fz p1 (fun z => by unfold isH nd at z; omega) (fun z => by unfold isH nd at z; omega) (fun z => by unfold isH nd at z; omega)
  unfold KO_X11_account_45 KF_X11_account_45
  rw [zsome]
  have tL := tape_L st1
  have en := encode_c (N := N) (g := g) (H := H) (T := T) (q := a) (r := g + 2) (a := 0) bk1 ok (by omega) (by unfold nd; omega) (by omega) (by omega)
  have st2 := (kpc_X0_encode st1 o6 (tK_some tL.2.2.2) en.1).1
  refine wp_and someN (wp_call en (fun q => ?_))
  obtain ⟨f, q1, q2⟩ := q
  rw [q1] at st2 ⊢
  have f2 : cfr (fun b => b = g + 2) S1 (csArow S1 (g + 2) f) := cfr_A _ _ _
  have cl : ∀ i k, cLf (csArow S1 (g + 2) f) (g + 3) i k = cLf S1 (g + 3) i k := fun i k => by
    unfold cLf
    rw [cA_other _ _ (by omega)]
  have i5 : cI (csArow S1 (g + 2) f) 5 (g + 3) = nI 16 := p2
  have hh2 := hL_of st2
  have A2 : cA (csArow S1 (g + 2) f) (g + 2) = f := cA_same _ _ _
  unfold KO_X11_account_59 KF_X11_account_59
  have tL2 := tape_L st2
  have cm := climb_c (N := N) (g := g) (H := H) (T := T) (h := g + 3) (d := g + 2) (m := 16) (k := a) (e := 6) (by omega) (by unfold isH; omega) hh2 (by omega) i5 (by omega) (by omega) tL2.2.2.1
  have st3 := (kpc_X2_climb st2 oH (tK_some tL2.2.2.2) cm.1).1
  have epl : pthL (cLf (csArow S1 (g + 2) f) (g + 3)) 16 a = pthP (acL K 16) a := by
    unfold pthP
    rw [acL_len]
    refine pthL_congr _ _ _ _ (by omega) (fun i j hi hj => ?_)
    rw [cl, p3 i j hi hj]
  rw [epl] at cm
  refine wp_call cm (fun q => ?_)
  generalize csArow S1 (g + 2) f = S2 at *
  obtain ⟨z1, z2, z3, z4, z5⟩ := q
  generalize k_X2_climb N g H T S2 (g + 3) (nI a) (some (g + 2)) (nI 6) = Z at z1 z2 z3 z4 st3 ⊢
  unfold KO_X11_account_82 KF_X11_account_82
  have l6 : (acP K a).length = 6 := rfl
  have la : (acP K a ++ pthP (acL K 16) a).length = 6 + (pthP (acL K 16) a).length := by rw [List.length_append, l6]
  have tL3 := tape_L st3
  have aB := acP_B ok (show a < 16 by omega)
  have pB : isB (pthP (acL K 16) a) := pthL_B _ _ _
  have bB : cB Z.2 (g + 2) (acP K a ++ pthP (acL K 16) a) := by
    refine ⟨by omega, by omega, fun j hj => ?_, isB_app aB pB⟩
    rw [bg_app]
    by_cases c : j < (acP K a).length
    · rw [if_pos c, z4 j (by omega), A2, q2 j, if_pos (by omega)]
      rfl
    · rw [if_neg c]
      have := z3 (j - 6) (by omega)
      rw [show 6 + (j - 6) = j by omega] at this
      exact st3.sb tL3.2.2.2 (pB _) this
  obtain ⟨e1, e2⟩ := eight_ok (N := N) (g := g) (H := H) (T := T) (i := i) bB (Nat.le_refl _) hi (by omega)
  rw [z1, n_add, ← la]
  refine wp_and e1 (wp_fin trivial ⟨?_, ?_⟩)
  · show k_X11_eight N g H T Z.2 (some (g + 2)) (nI (acP K a ++ pthP (acL K 16) a).length) (nI i) = v
    rw [e2, e8_ei (Nat.le_refl _), ev]
  · have fa : cfr (fun b => (isH (g + 3) b ∨ b = nd g n + 6 + 4) ∨ b = g + 2) s Z.2 := ((p1.mono (fun b z => Or.inl z)).trans (f2.mono (fun b z => Or.inr z))).trans (z2.mono (fun b z => z.elim (fun z => Or.inl (Or.inl z)) Or.inr))
    refine clW.sc cr b5 fa (fun b z => ?_) st3
    rcases z with z | z
    · exact f1 b z
    · unfold scP
      omega
end
end

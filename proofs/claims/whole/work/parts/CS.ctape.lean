section
/-! CALLS OF THE CLASS: the tape is fed, stamped -/
section
variable {F N g H T n k : Nat} {s s0 s1 S X : cS} {ct : Nat → List Nat} {hd : List Nat} {w w' V W : Wd} {pe : Nat → Int} {a b : Nat} {l : List Nat} {x y u v : Int32}
/-- the tape, or scratch, is written -/
theorem CR.tp {P : Nat → Prop} (h : CR F g H T s ct hd w pe) (f : cfr P s X) (hP : ∀ a, P a → a = g ∨ a = g + 1 ∨ (g + 2 ≤ a ∧ a ≤ g + 7)) (st : St 0 g H T X) (tp : kTp g X l) : CR F g H T X ct hd (sL w l) pe := by
  obtain ⟨h1, h2, h3, h4, h5, e1, e2, e3, e4, e5, e6⟩ := h
  have lP : ∀ a, P a → a < nd g H := fun a ha => by have := hP a ha; unfold nd; omega
  have xf := f.xf (H := H) lP
  have np : ∀ o, 8 ≤ o → ¬ P (g + o) := fun o ho z => by have := hP _ z; omega
  refine ⟨h1, st, by rw [f.2.2.1]; exact h3, h4.cf f lP, h5.fr f.1 f.2.1 f.2.2.1 f.2.2.2.1 (fun _ _ => by rw [f.2.2.2.2.2.1]), ?_, ?_, tp, ?_, ?_, fun m hm => ?_⟩
  · unfold kFx
    rw [f.I _ _ (np 8 (by decide)), f.I _ _ (np 8 (by decide)), f.I _ _ (np 8 (by decide)), f.I _ _ (np 8 (by decide)), f.I _ _ (np 9 (by decide))]
    exact e1
  · exact e2.fr xf.x0 (fun a z q => by have := hP a q; unfold skP at z; omega)
  · unfold kLa bkC rtC
    rw [f.I _ _ (np 23 (by decide)), f.I _ _ (np 23 (by decide)), f.A _ (np 24 (by decide)), f.A _ (np 25 (by decide)), f.A _ (np 26 (by decide))]
    exact e4
  · exact e5.fr (fun n hn => by rw [f.2.2.2.2.2.1])
  · exact (e6 m hm).fx (xf.nfx hm (fun o _ _ q => by have := hP _ q; unfold nd at this; omega))
theorem clW.tp {P : Nat → Prop} (cr : CR F g H T s ct [] w (fun _ => -1)) (b5 : bF g H s) (f : cfr P s X) (hP : ∀ a, P a → a = g ∨ a = g + 1 ∨ (g + 2 ≤ a ∧ a ≤ g + 7)) (st : St 0 g H T X) (tp : kTp g X l) : clW F g H T X (sL w l) := by
  refine ⟨ct, cr.tp f hP st tp, fun m hm => ?_⟩
  rw [f.I 5 (nd g m + 6) (fun q => by have := hP _ q; unfold nd at this; omega)]
  exact b5 m hm
theorem IV.tape (iv : IV F H T w) : IV F H T (sL w l) := ⟨iv.1.tape, iv.2.1, rest_eq iv.2.2 rfl rfl⟩
/-- one byte is fed -/
theorem put_1 {z : Int32} {Q : Nat × cS → Prop} (hS : St 0 g H T s) (h : kTp g s l) (hl : l.length < 1000) (hk : k ≤ 3) (hz : z = nI 24 - nI 8 * nI k) (go : ∀ s', cfr (fun a => a = g ∨ a = g + 1) s s' → St 0 g H T s' → kTp g s' (l ++ [fbB x k]) → wp (KOL_X11_putInt_3 N g H T n g x (nI 24 - nI 8 * nI (k + 1)) s') (KL_X11_putInt_3 N g H T n g x (nI 24 - nI 8 * nI (k + 1)) s') Q) : wp (KOL_X11_putInt_3 N g H T (n + 1) g x z s) (KL_X11_putInt_3 N g H T (n + 1) g x z s) Q := by
  obtain ⟨t1, t2, t3, t4⟩ := h
  have z0 : ¬ z < 0 := by
    rw [hz]
    have : k = 0 ∨ k = 1 ∨ k = 2 ∨ k = 3 := by omega
    rcases this with rfl | rfl | rfl | rfl <;> decide
  have z8 : z + (-8) = nI 24 - nI 8 * nI (k + 1) := by
    rw [hz]
    have : k = 0 ∨ k = 1 ∨ k = 2 ∨ k = 3 := by omega
    rcases this with rfl | rfl | rfl | rfl <;> decide
  have eb : ((x >>> (z &&& 31)).toInt8.toInt32).toInt8.toInt32 = sb (fbB x k) := by
    rw [b88, sb_bb, hz]
    rfl
  have fb : fbB x k < 256 := (nb_spec _).1
  unfold KOL_X11_putInt_3 KL_X11_putInt_3 KOB_X11_putInt_3 KB_X11_putInt_3 KO_X11_putInt_40 KF_X11_putInt_40
  rw [t1, n_clamp (by omega), eb, z8]
  have i3 : cI (csA s (g + 1) l.length (sb (fbB x k))) 3 g = nI l.length := t1
  have S1 : St 0 g H T (csA s (g + 1) l.length (sb (fbB x k))) := hS.Ar _ _ (fun _ i => by
    by_cases c : i = l.length
    · rw [c, upd_same]
      exact sb_b8 _
    · rw [upd_other _ _ c]
      exact hS.b8 (tape_L hS).2.1 _)
  rw [i3, n_add]
  refine wp_neg z0 (wp_neg (by rw [n_le' (by omega) (by omega)]; omega) (wp_and ((n_in (by omega)).2 (by omega)) (go _ ?_ (S1.I _ _ _) ?_)))
  · exact ((cfr_A _ _ _).mono (fun a z => Or.inr z)).trans ((cfr_I _ _ _ _).mono (fun a z => Or.inl z))
  · have ll : (l ++ [fbB x k]).length = l.length + 1 := by simp
    refine ⟨by rw [cI_same, ll], by omega, isB_app t3 (isB_c fb (fun i => by rw [bg_out (by simp)]; decide)), fun i hi => ?_⟩
    rw [cA_I, cA_at, bg_snoc]
    by_cases c : i = l.length
    · rw [if_pos c, if_neg (by omega), if_pos c]
    · rw [if_neg c, if_pos (by omega)]
      exact t4 i (by omega)
theorem putInt_c (hN : 100 ≤ N) (hS : St 0 g H T s) (h : kTp g s l) (hl : l.length + 4 ≤ 1000) : wp (p_X11_putInt N g H T s g x) (k_X11_putInt N g H T s g x) (fun s' => cfr (fun a => a = g ∨ a = g + 1) s s' ∧ St 0 g H T s' ∧ kTp g s' (l ++ inB x)) := by
  show wp (KO_X11_putInt_0 N g H T g x s) (KF_X11_putInt_0 N g H T g x s) _
  unfold KO_X11_putInt_0 KF_X11_putInt_0
  obtain ⟨q, hq⟩ : ∃ q, N = q + 1 + 1 + 1 + 1 + 1 := ⟨N - 5, by omega⟩
  have L : wp (KOL_X11_putInt_3 N g H T (q + 1 + 1 + 1 + 1 + 1) g x (nI 24) s) (KL_X11_putInt_3 N g H T (q + 1 + 1 + 1 + 1 + 1) g x (nI 24) s) (fun z => cfr (fun a => a = g ∨ a = g + 1) s z.2 ∧ St 0 g H T z.2 ∧ kTp g z.2 (l ++ inB x)) := by
    refine put_1 (k := 0) hS h (by omega) (by decide) (by decide) (fun s1 f1 S1 t1 => ?_)
    refine put_1 (k := 1) S1 t1 (by rw [List.length_append]; show l.length + 1 < 1000; omega) (by decide) rfl (fun s2 f2 S2 t2 => ?_)
    refine put_1 (k := 2) S2 t2 (by rw [List.length_append, List.length_append]; show l.length + 1 + 1 < 1000; omega) (by decide) rfl (fun s3 f3 S3 t3 => ?_)
    refine put_1 (k := 3) S3 t3 (by rw [List.length_append, List.length_append, List.length_append]; show l.length + 1 + 1 + 1 < 1000; omega) (by decide) rfl (fun s4 f4 S4 t4 => ?_)
    unfold KOL_X11_putInt_3 KL_X11_putInt_3 KOB_X11_putInt_3 KB_X11_putInt_3
    refine wp_pos (by decide) (wp_fin trivial ⟨((f1.trans f2).trans f3).trans f4, S4, ?_⟩)
    have e : l ++ [fbB x 0] ++ [fbB x 1] ++ [fbB x 2] ++ [fbB x 3] = l ++ inB x := by
      unfold inB
      simp
    rw [← e]
    exact t4
  rw [← hq] at L
  refine wp_seq L (fun z hz => ?_)
  unfold KOA_X11_putInt_3 KA_X11_putInt_3 KO_X11_putInt_46 KF_X11_putInt_46
  exact wp_fin trivial hz
theorem feed_C {c d e : Int32} {W : Wd} (hN : 100 ≤ N) (h : clW F g H T s w) (iv : IV F H T w) (hv : ((wL w).length + 20 ≤ 1000 ∧ W = aFeed w x y c d e ∧ v = nI 1) ∨ (¬ (wL w).length + 20 ≤ 1000 ∧ W = w ∧ v = nI 0)) : wp (p_X11_feed N g H T s g x y c d e) (k_X11_feed N g H T s g x y c d e) (fun z => z.1 = v ∧ clW F g H T z.2 W ∧ IV F H T W) := by
  have h' := h
  obtain ⟨ct, cr, b5⟩ := h'
  have tp := cr.2.2.2.2.2.2.2.1
  have t1 := tp.1
  have t2 := tp.2.1
  have raw : wp (p_X11_feed N g H T s g x y c d e) (k_X11_feed N g H T s g x y c d e) (fun z => ((wL w).length + 20 ≤ 1000 ∧ z.1 = nI 1 ∧ cfr (fun a => a = g ∨ a = g + 1) s z.2 ∧ St 0 g H T z.2 ∧ kTp g z.2 (wL w ++ inB x ++ inB y ++ inB c ++ inB d ++ inB e)) ∨ (¬ (wL w).length + 20 ≤ 1000 ∧ z = (nI 0, s))) := by
    show wp (KO_X11_feed_0 N g H T g x y c d e s) (KF_X11_feed_0 N g H T g x y c d e s) _
    unfold KO_X11_feed_0 KF_X11_feed_0
    rw [t1, n_add]
    have i4 : ∀ z, (inB z).length = 4 := fun _ => rfl
    refine wp_ite (fun c => ?_) (fun c => ?_) <;> rw [n_le' (by omega) (by omega)] at c
    · refine wp_call (putInt_c hN cr.2.1 tp (by omega)) (fun q1 => ?_)
      unfold KO_X11_feed_20 KF_X11_feed_20
      refine wp_call (putInt_c hN q1.2.1 q1.2.2 (by rw [List.length_append, i4]; omega)) (fun q2 => ?_)
      unfold KO_X11_feed_25 KF_X11_feed_25
      refine wp_call (putInt_c hN q2.2.1 q2.2.2 (by rw [List.length_append, List.length_append, i4, i4]; omega)) (fun q3 => ?_)
      unfold KO_X11_feed_30 KF_X11_feed_30
      refine wp_call (putInt_c hN q3.2.1 q3.2.2 (by rw [List.length_append, List.length_append, List.length_append, i4, i4, i4]; omega)) (fun q4 => ?_)
      unfold KO_X11_feed_36 KF_X11_feed_36
      refine wp_call (putInt_c hN q4.2.1 q4.2.2 (by rw [List.length_append, List.length_append, List.length_append, List.length_append, i4, i4, i4, i4]; omega)) (fun q5 => ?_)
      exact wp_fin trivial (Or.inl ⟨c, rfl, (((q1.1.trans q2.1).trans q3.1).trans q4.1).trans q5.1, q5.2.1, q5.2.2⟩)
    · exact wp_fin trivial (Or.inr ⟨c, rfl⟩)
  refine wp_mono raw (fun q => ?_)
  rcases q with ⟨q1, q2, q3, st, q4⟩ | ⟨q1, q2⟩
  · rcases hv with ⟨r1, r2, r3⟩ | ⟨r1, _⟩
    · rw [r2, r3]
      exact ⟨q2, clW.tp cr b5 q3 (fun a z => by omega) st q4, iv.tape⟩
    · exact absurd q1 r1
  · rcases hv with ⟨r1, _⟩ | ⟨r1, r2, r3⟩
    · exact absurd r1 q1
    · rw [r2, r3, q2]
      exact ⟨rfl, h, iv⟩
/-- a digest is laid onto the tape -/
theorem tape_lay {r R : List Nat} {f : Nat} {rr : Nat} (hN : 12000 ≤ N) (cr : CR F g H T s ct [] w (fun _ => -1)) (b5 : bF g H s) (hR : cB s rr R) (hK : cK s rr = 20) (hrn : ¬ isH (g + 3) rr) (hf : f + 101 ≤ R.length) (ha : a + 32 ≤ (wL w).length) (et : r = sl R f 101) : wp (p_X2_digest N g H T s (g + 3) (some rr) (nI f) (nI (f + 101)) (some (g + 1)) (nI a)) (k_X2_digest N g H T s (g + 3) (some rr) (nI f) (nI (f + 101)) (some (g + 1)) (nI a)) (fun z => clW F g H T z (sL w (laB (wL w) a (shaB r)))) := by
  have tL := tape_L cr.2.1
  obtain ⟨t1, t2, t3, t4⟩ := cr.2.2.2.2.2.2.2.1
  have dg := digestC (N := N) (g := g) (H := H) (T := T) (a := f) (b := f + 101) (d := g + 1) (at_ := a) (by omega) cr.2.1 hR hrn (by omega) (by omega) (by omega) (by unfold isH; omega) (by omega) (by omega)
  have st := (kpc_X2_digest cr.2.1 oH (tK_some hK) (tK_some tL.2.1) dg.1).1
  refine wp_mono dg (fun q => ?_)
  obtain ⟨q1, q2, q3⟩ := q
  generalize k_X2_digest N g H T s (g + 3) (some rr) (nI f) (nI (f + 101)) (some (g + 1)) (nI a) = S1 at q1 q2 q3 st ⊢
  rw [show f + 101 - f = 101 by omega, ← et] at q2
  have l32 := shaB_len r
  refine clW.tp cr b5 q1 (fun b z => by unfold isH at z; omega) st ⟨?_, ?_, ?_, fun i hi => ?_⟩
  · rw [q1.I 3 g (by unfold isH; omega), t1]
    unfold laB
    rw [mkB_len]
  · unfold laB
    rw [mkB_len]
    exact t2
  · unfold laB
    refine isB_mk fun k _ => ?_
    split
    · exact shaB_B _ _
    · exact t3 _
  · unfold laB at hi ⊢
    rw [mkB_len] at hi
    rw [mkB_in hi, l32]
    by_cases c : a ≤ i ∧ i < a + 32
    · rw [if_pos c]
      have := q2 (i - a) (by omega)
      rw [show a + (i - a) = i by omega] at this
      exact st.sb (tape_L st).2.1 (shaB_B _ _) this
    · rw [if_neg c, q3 i (by omega)]
      exact t4 i hi
theorem blockAt_c {e : Nat} {m : List Nat} (ms : mS s e m) : p_X5_blockAt N g H T s e ∧ k_X5_blockAt N g H T s e = (if bg m 0 = 1 then nI 6 else if bg m 0 = 4 then nI 1 else -1) := by
  obtain ⟨k1, k2⟩ := kind_ok (N := N) (g := g) (H := H) (T := T) ms
  have b0 := ms.2.2.1.2.2.2 0
  show wp (KO_X5_blockAt_0 N g H T (some e) s) (KF_X5_blockAt_0 N g H T (some e) s) (fun z => z = (if bg m 0 = 1 then nI 6 else if bg m 0 = 4 then nI 1 else -1))
  unfold KO_X5_blockAt_0 KF_X5_blockAt_0 KO_X5_blockAt_26 KF_X5_blockAt_26
  rw [zsome, k2]
  refine wp_and ⟨someN, k1⟩ ?_
  by_cases c1 : bg m 0 = 1
  · rw [if_pos c1]
    exact wp_pos (by rw [c1]) (wp_fin trivial rfl)
  · rw [if_neg c1]
    refine wp_neg (by rw [n_eq' (by omega) (by omega)]; exact c1) (wp_and k1 ?_)
    by_cases c2 : bg m 0 = 4
    · rw [if_pos c2]
      exact wp_pos (by rw [c2]) (wp_fin trivial rfl)
    · rw [if_neg c2]
      exact wp_neg (by rw [n_eq' (by omega) (by omega)]; exact c2) (wp_fin trivial rfl)
theorem stamp_C {W : Wd} (hN : 12000 ≤ N) (h : clW F g H T s w) (iv : IV F H T w) (hv : (∃ a t, a + 32 ≤ (wL w).length ∧ x = nI a ∧ spT w y u t ∧ W = sL w (laB (wL w) a (shaB t)) ∧ v = nI 1) ∨ ((¬ ∃ a t, a + 32 ≤ (wL w).length ∧ x = nI a ∧ spT w y u t) ∧ W = w ∧ v = nI 0)) : wp (p_X11_stamp N g H T s g x y u) (k_X11_stamp N g H T s g x y u) (fun z => z.1 = v ∧ clW F g H T z.2 W ∧ IV F H T W) := by
  have h' := h
  obtain ⟨ct, cr, b5⟩ := h'
  have tp := cr.2.2.2.2.2.2.2.1
  have t1 := tp.1
  have t2 := tp.2.1
  show wp (KO_X11_stamp_0 N g H T g x y u s) (KF_X11_stamp_0 N g H T g x y u s) _
  unfold KO_X11_stamp_0 KF_X11_stamp_0 KO_X11_stamp_15 KF_X11_stamp_15
  rw [t1]
  have no : (¬ ∃ a t, a + 32 ≤ (wL w).length ∧ x = nI a ∧ spT w y u t) → ((nI 0, s) : Int32 × cS).1 = v ∧ clW F g H T ((nI 0, s) : Int32 × cS).2 W ∧ IV F H T W := fun z => by
    rcases hv with ⟨a, t, q1, q2, q3, _⟩ | ⟨_, q2, q3⟩
    · exact absurd ⟨a, t, q1, q2, q3⟩ z
    · rw [q2, q3]
      exact ⟨rfl, h, iv⟩
  have le : ∀ (c d : Nat), c < 2147483648 → d ≤ 1000 → (nI c ≤ nI (wL w).length - nI d ↔ c + d ≤ (wL w).length) := fun c d hc hd => by
    rw [← iI_n, ← iI_n, ← iI_n, iI_sub, iI_le (by omega) (by omega) (by omega) (by omega)]
    omega
  refine wp_ite (fun c => wp_fin trivial (no ?_)) (fun c => ?_)
  · rintro ⟨a, t, q1, q2, _⟩
    rw [q2] at c
    exact n_lt0 (by omega) c
  obtain ⟨a, ha, rfl⟩ := i_nat c
  refine wp_ite (fun c => ?_) (fun c => wp_fin trivial (no ?_)) <;> rw [le a 32 ha (by decide)] at c
  rotate_left
  · rintro ⟨a', t, q1, q2, _⟩
    have := n_inj ha (by omega) q2
    omega
  -- what is laid down
  have yes : ∀ t, spT w y u t → (∀ t', spT w y u t' → t' = t) → ∀ z : cS, clW F g H T z (sL w (laB (wL w) a (shaB t))) → ((nI 1, z) : Int32 × cS).1 = v ∧ clW F g H T ((nI 1, z) : Int32 × cS).2 W ∧ IV F H T W := fun t ht un z hz => by
    rcases hv with ⟨a', t', q1, q2, q3, q4, q5⟩ | ⟨q, _⟩
    · have := n_inj ha (by omega) q2
      subst this
      rw [un t' q3] at q4
      rw [q4, q5]
      exact ⟨rfl, hz, iv.tape⟩
    · exact absurd ⟨a, t, c, rfl, ht⟩ q
  by_cases cy : y = -1
  · refine wp_pos cy ?_
    unfold KO_X11_stamp_37 KF_X11_stamp_37 KO_X11_stamp_63 KF_X11_stamp_63
    refine wp_ite (fun c2 => wp_fin trivial (no ?_)) (fun c2 => ?_)
    · rintro ⟨a', t, q1, q2, ⟨_, f, f1, f2, _⟩ | ⟨q, _⟩⟩
      · rw [f2] at c2
        exact n_lt0 (by omega) c2
      · exact q cy
    obtain ⟨f, hf, rfl⟩ := i_nat c2
    refine wp_ite (fun c3 => ?_) (fun c3 => wp_fin trivial (no ?_)) <;> rw [le f 101 hf (by decide)] at c3
    rotate_left
    · rintro ⟨a', t, q1, q2, ⟨_, f', f1, f2, _⟩ | ⟨q, _⟩⟩
      · have := n_inj hf (by omega) f2
        omega
      · exact q cy
    rw [n_add]
    refine wp_call (tape_lay (r := sl (wL w) f 101) hN cr b5 (tape_B cr) (tape_L cr.2.1).2.1 (by unfold isH; omega) c3 c rfl) (fun q => wp_fin trivial (yes _ (Or.inl ⟨cy, f, c3, rfl, rfl⟩) ?_ _ q))
    rintro t' (⟨_, f', f1, f2, f3⟩ | ⟨q, _⟩)
    · have := n_inj hf (by omega) f2
      subst this
      exact f3
    · exact absurd cy q
  · refine wp_neg cy ?_
    have no2 : (∀ t, ¬ (∃ k, k < (wK w).1.length ∧ y = nI k ∧ ((bg (fg (wK w).1 k).2.2.2 0 = 1 ∧ 107 ≤ (fg (wK w).1 k).2.2.2.length ∧ t = sl (fg (wK w).1 k).2.2.2 6 101) ∨ (bg (fg (wK w).1 k).2.2.2 0 = 4 ∧ 102 ≤ (fg (wK w).1 k).2.2.2.length ∧ t = sl (fg (wK w).1 k).2.2.2 1 101)))) → ((nI 0, s) : Int32 × cS).1 = v ∧ clW F g H T ((nI 0, s) : Int32 × cS).2 W ∧ IV F H T W := fun z => no (by
      rintro ⟨a', t, q1, q2, ⟨q, _⟩ | ⟨_, q⟩⟩
      · exact cy q
      · exact z t q)
    by_cases ck : ∃ k, k < (wK w).1.length ∧ y = nI k
    rotate_left
    · obtain ⟨o1, o2⟩ := fly_n (N := N) cr ck
      rw [o2]
      unfold KO_X11_stamp_92 KF_X11_stamp_92 KO_X11_stamp_117 KF_X11_stamp_117
      exact wp_and o1 (wp_pos rfl (wp_pos rfl (wp_fin trivial (no2 (fun t ⟨k, q1, q2, _⟩ => ck ⟨k, q1, q2⟩)))))
    obtain ⟨k, hk, rfl⟩ := ck
    have fl := fl_le cr
    obtain ⟨e, ⟨o1, o2⟩, ⟨o3, o4⟩, ⟨o5, o6⟩, o7, o8⟩ := fly_y (N := N) cr hk
    have ms := cr.ms o8
    rw [o7] at ms
    obtain ⟨b1, b2⟩ := blockAt_c (N := N) (g := g) (H := H) (T := T) ms
    rw [o2, zsome, b2]
    have un : ∀ t', spT w (nI k) u t' → ((bg (fg (wK w).1 k).2.2.2 0 = 1 ∧ 107 ≤ (fg (wK w).1 k).2.2.2.length ∧ t' = sl (fg (wK w).1 k).2.2.2 6 101) ∨ (bg (fg (wK w).1 k).2.2.2 0 = 4 ∧ 102 ≤ (fg (wK w).1 k).2.2.2.length ∧ t' = sl (fg (wK w).1 k).2.2.2 1 101)) := by
      rintro t' (⟨q, _⟩ | ⟨_, k', q1, q2, q3⟩)
      · exact absurd q cy
      · have := n_inj (by omega) (by omega) q2
        subst this
        exact q3
    have ml := ms.2.2.2.1
    refine wp_and o1 (wp_neg someN (wp_and b1 ?_))
    unfold KO_X11_stamp_92 KF_X11_stamp_92 KO_X11_stamp_117 KF_X11_stamp_117 KO_X11_stamp_146 KF_X11_stamp_146
    rw [zsome, ms.2.1]
    refine wp_neg someN ?_
    have al := cr.2.2.2.1.n ms.1
    have lay : ∀ f : Nat, f ≤ 6 → (∀ t', spT w (nI k) u t' → 101 + f ≤ (fg (wK w).1 k).2.2.2.length ∧ t' = sl (fg (wK w).1 k).2.2.2 f 101) → (101 + f ≤ (fg (wK w).1 k).2.2.2.length → spT w (nI k) u (sl (fg (wK w).1 k).2.2.2 f 101)) → wp ((nI f < 0 → True) ∧ (¬ nI f < 0 → ((nI 101 ≤ nI (fg (wK w).1 k).2.2.2.length - nI f → p_X2_digest N g H T s (g + 3) (some (e + 2)) (nI f) (nI f + nI 101) (some (g + 1)) (nI a) ∧ True) ∧ (¬ nI 101 ≤ nI (fg (wK w).1 k).2.2.2.length - nI f → True)))) (if nI f < 0 then ((nI 0, s) : Int32 × cS) else if nI 101 ≤ nI (fg (wK w).1 k).2.2.2.length - nI f then (nI 1, k_X2_digest N g H T s (g + 3) (some (e + 2)) (nI f) (nI f + nI 101) (some (g + 1)) (nI a)) else (nI 0, s)) (fun z => z.1 = v ∧ clW F g H T z.2 W ∧ IV F H T W) := fun f hf h1 h2 => by
      have lq : nI 101 ≤ nI (fg (wK w).1 k).2.2.2.length - nI f ↔ 101 + f ≤ (fg (wK w).1 k).2.2.2.length := by
        rw [← iI_n, ← iI_n, ← iI_n, iI_sub, iI_le (by omega) (by omega) (by omega) (by omega)]
        omega
      refine wp_neg (n_lt0 (by omega)) ?_
      by_cases cl : 101 + f ≤ (fg (wK w).1 k).2.2.2.length
      · rw [n_add]
        refine wp_pos (lq.2 cl) (wp_call (tape_lay (r := sl (fg (wK w).1 k).2.2.2 f 101) hN cr b5 ms.2.2.1 (cr.2.1.ms ms.1).2.1 (by unfold isH; unfold nd at al; omega) (by omega) c rfl) (fun q => wp_fin trivial (yes _ (h2 cl) (fun t' z => (h1 t' z).2) _ q)))
      · exact wp_neg (fun z => cl (lq.1 z)) (wp_fin trivial (no (fun ⟨_, t, _, _, z⟩ => cl (h1 t z).1)))
    by_cases d1 : bg (fg (wK w).1 k).2.2.2 0 = 1
    · rw [if_pos d1]
      refine lay 6 (by decide) (fun t' z => ?_) (fun z => Or.inr ⟨cy, k, hk, rfl, Or.inl ⟨d1, by omega, rfl⟩⟩)
      rcases un t' z with q | q
      · exact ⟨by omega, q.2.2⟩
      · omega
    · rw [if_neg d1]
      by_cases d4 : bg (fg (wK w).1 k).2.2.2 0 = 4
      · rw [if_pos d4]
        refine lay 1 (by decide) (fun t' z => ?_) (fun z => Or.inr ⟨cy, k, hk, rfl, Or.inr ⟨d4, by omega, rfl⟩⟩)
        rcases un t' z with q | q
        · omega
        · exact ⟨by omega, q.2.2⟩
      · rw [if_neg d4]
        refine wp_pos (by decide) (wp_fin trivial (no (fun ⟨_, t, _, _, z⟩ => ?_)))
        rcases un t z with q | q
        · exact d1 q.1
        · exact d4 q.1
end
end

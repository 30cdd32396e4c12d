section
/-! CALLS OF THE CLASS: a node comes again -/
section
variable {F N g H T n k : Nat} {s s0 s1 S X : cS} {ct : Nat → List Nat} {hd : List Nat} {w w' V W : Wd} {pe : Nat → Int} {a b : Nat} {G : Gh} {l m : List Nat} {x v : Int32}
/-- what is held, told otherwise where nobody looks -/
theorem CNz.ag {vv : Nat → Int} {y : Nat → Nat → Option (List Nat)} {p : List (List Nat)} {xx : Nat → Nat → Nat} {pn : Int} {z z' : Nat → Nat → Option (List Nat)} (h : CNz g H T s ct n vv y p xx pn z) (h4 : ∀ i, i < 32 → z' 4 i = z 4 i) (h5 : ∀ c p r k, c ≤ 1 → p ≤ 1 → r < 16 → k < T → z' 5 (vq c p r k) = z 5 (vq c p r k)) : CNz g H T s ct n vv y p xx pn z' := by
  obtain ⟨c1, c2, c3, c4, c5, c6, ⟨q1, q2, q3, q4⟩, c8⟩ := h
  refine ⟨c1, c2, c3, c4, c5, c6, ⟨fun i hi => ?_, fun c p r k hc hp hr hk => ?_, fun i hi => ?_, fun p hp => ?_⟩, c8⟩
  · rw [h4 i hi]
    exact q1 i hi
  · rw [h5 c p r k hc hp hr hk]
    exact q2 c p r k hc hp hr hk
  · rw [h4 i hi]
    exact q3 i hi
  · obtain ⟨t, t1, t2, t3⟩ := q4 p hp
    refine ⟨t, t1, t2, fun r r1 r2 => ⟨?_, fun c k hc hk => ?_⟩⟩
    · rw [h4 _ (by omega)]
      exact (t3 r r1 r2).1
    · rw [h5 c p r k hc hp r2 hk]
      exact (t3 r r1 r2).2 c k hc hk
theorem aWk0_N {j : Nat} : wN (aWk0 w n) n j = if j = 0 then 1 else if 6 ≤ j ∧ j ≤ 8 then 0 else wN w n j := by
  unfold aWk0
  by_cases c8 : j = 8
  · rw [c8, N_s]
    rfl
  rw [N_o _ _ _ _ (Or.inr c8)]
  by_cases c7 : j = 7
  · rw [c7, N_s]
    rfl
  rw [N_o _ _ _ _ (Or.inr c7)]
  by_cases c6 : j = 6
  · rw [c6, N_s]
    rfl
  rw [N_o _ _ _ _ (Or.inr c6)]
  by_cases c0 : j = 0
  · rw [c0, N_s]
    rfl
  rw [N_o _ _ _ _ (Or.inr c0), if_neg c0, if_neg (by omega)]
/-- what is held again was sent -/
theorem aHL_of (e4 : ∀ x, wY w n 4 x = none) (e5 : ∀ x, wY w n 5 x = none) : ∀ i f x, f = 4 ∨ f = 5 → wY (aHL w n i) n f x = some m → ∃ j, j < i ∧ wY w n 8 j = some m ∧ ((f = 4 ∧ bg m 0 = 1 ∧ x = 16 * ((wN w n 1).toNat % 2) + bg m 4) ∨ (f = 5 ∧ bg m 0 ≠ 1 ∧ x = vq (if bg m 0 = 3 then 1 else 0) ((wN w n 1).toNat % 2) (bg m 4) n))
  | 0, f, x, hf, e => by
    have e : wY w n f x = some m := e
    rcases hf with rfl | rfl
    · rw [e4] at e
      cases e
    · rw [e5] at e
      cases e
  | i + 1, f, x, hf, e => by
    obtain ⟨a1, a2, a3, a4, a5, a6, a7⟩ := aHL_o (w := w) (n := n) i
    have old : wY (aHL w n i) n f x = some m → ∃ j, j < i + 1 ∧ wY w n 8 j = some m ∧ ((f = 4 ∧ bg m 0 = 1 ∧ x = 16 * ((wN w n 1).toNat % 2) + bg m 4) ∨ (f = 5 ∧ bg m 0 ≠ 1 ∧ x = vq (if bg m 0 = 3 then 1 else 0) ((wN w n 1).toNat % 2) (bg m 4) n)) := fun q => by
      obtain ⟨j, j1, j2⟩ := aHL_of e4 e5 i f x hf q
      exact ⟨j, by omega, j2⟩
    cases e8 : wY w n 8 i with
    | none =>
      refine old ?_
      have : aHL w n (i + 1) = aHL w n i := by
        show (match wY w n 8 i with | some m => aHeld (aHL w n i) n m | none => aHL w n i) = _
        rw [e8]
      rw [← this]
      exact e
    | some M =>
      rw [aHL_s i M e8] at e
      have hI : hdI (aHL w n i) n M = 16 * ((wN w n 1).toNat % 2) + bg M 4 := by
        unfold hdI
        rw [a1]
      have vI : vtI (aHL w n i) n M = vq (if bg M 0 = 3 then 1 else 0) ((wN w n 1).toNat % 2) (bg M 4) n := by
        unfold vtI
        rw [a1]
      unfold aHeld at e
      by_cases c : bg M 0 = 1
      · rw [if_pos c] at e
        cases e9 : wY (aHL w n i) n 4 (hdI (aHL w n i) n M) with
        | some z =>
          rw [e9] at e
          exact old e
        | none =>
          rw [e9] at e
          dsimp only at e
          by_cases d : f = 4 ∧ x = hdI (aHL w n i) n M
          · rw [d.1, d.2, B_s] at e
            cases e
            exact ⟨i, by omega, e8, Or.inl ⟨d.1, c, d.2.trans hI⟩⟩
          · rw [B_o _ _ _ _ _ (by omega)] at e
            exact old e
      · rw [if_neg c] at e
        cases e9 : wY (aHL w n i) n 5 (vtI (aHL w n i) n M) with
        | some z =>
          rw [e9] at e
          exact old e
        | none =>
          rw [e9] at e
          dsimp only at e
          by_cases d : f = 5 ∧ x = vtI (aHL w n i) n M
          · rw [d.1, d.2, B_s] at e
            cases e
            exact ⟨i, by omega, e8, Or.inr ⟨d.1, c, d.2.trans vI⟩⟩
          · rw [B_o _ _ _ _ _ (by omega)] at e
            exact old e
/-- it is up again -/
theorem wake_0 (cr : CR F g H T s ct hd w pe) (hn : n < H) (gi : GI F H T G w) (hu : wN w n 0 = 0) : CR F g H T (csI (csI s 8 (nd g n) (nI 1)) 16 (nd g n) (nI 0)) ct hd (aHL (aWk0 w n) n (wN w n 17).toNat) pe := by
  have cb := cr.1.bb
  have gn := gi.2.1 n hn
  obtain ⟨z, cz, oz⟩ := cr.z_ hn
  obtain ⟨od, o4, o5⟩ := oz.2 (by omega)
  obtain ⟨a1, a2, a3, a4, a5, a6, a7⟩ := aHL_o (w := aWk0 w n) (n := n) (wN w n 17).toNat
  have eV : wN (aHL (aWk0 w n) n (wN w n 17).toNat) n = fun j => if j = 0 then 1 else if 6 ≤ j ∧ j ≤ 8 then 0 else wN w n j := by
    rw [a1]
    exact funext fun j => aWk0_N
  have e1 : wN (aWk0 w n) n 1 = wN w n 1 := aWk0_N
  have yo : ∀ f x, f ≠ 4 → f ≠ 5 → wY (aHL (aWk0 w n) n (wN w n 17).toNat) n f x = wY w n f x := fun f x h4 h5 => a7 n f x (Or.inr ⟨h4, h5⟩)
  have gw := (gi.wake hn).2.1 n hn
  have gf := gw.f
  have g17 := gn.a.2.2.2.2.2.2.2.2.2.2.2.2.1
  rw [a1, e1, show wN (aWk0 w n) n 0 = 1 from aWk0_N, show wN (aWk0 w n) n 17 = wN w n 17 from aWk0_N] at gf
  have gf := gf rfl
  have of := fun (m : List Nat) => aHL_of (w := aWk0 w n) (n := n) (m := m) (fun x => od 4 x (by decide) (by decide)) (fun x => od 5 x (by decide) (by decide)) (wN w n 17).toNat
  simp only [e1] at of
  have ow : ∀ f x m, f = 4 ∨ f = 5 → (wY (aHL (aWk0 w n) n (wN w n 17).toNat) n f x = some m ↔ owH n (wN w n) (wY w n) f x m) := fun f x m hf => by
    constructor
    · intro q
      obtain ⟨j, j1, j2, j3⟩ := of m f x hf q
      exact ⟨j, by omega, j2, j3⟩
    · rintro ⟨j, j1, j2, j3⟩
      have q := gf j m j1 (by rw [yo 8 j (by decide) (by decide)]; exact j2)
      rcases j3 with ⟨rfl, j4, rfl⟩ | ⟨rfl, j4, rfl⟩
      · exact q.1 j4
      · exact q.2 j4
  have nn := cz.nz.1
  obtain ⟨n1, n8, n9, n10, n11, n12, n13, n16, n17, n18⟩ := nn
  -- up
  have c1 : CNz g H T (csI s 8 (nd g n) (nI 1)) ct n (fun j => if j = 0 then 1 else wN w n j) (wY w n) (wP w n) (wX w n) (pe n) z := by
    refine cz.nz.n0 ⟨?_, ?_, ?_, ?_, ?_, ?_, ?_, ?_, ?_, ?_⟩ (fun j hj => if_neg (by omega))
    · rw [cI_other _ _ (Or.inl (by decide))]; exact n1
    · rw [cI_same]; rfl
    · rw [cI_other _ _ (Or.inl (by decide))]; exact n9
    · rw [cI_other _ _ (Or.inl (by decide))]; exact n10
    · rw [cI_other _ _ (Or.inl (by decide))]; exact n11
    · rw [cI_other _ _ (Or.inl (by decide))]; exact n12
    · rw [cI_other _ _ (Or.inl (by decide))]; exact n13
    · rw [cI_other _ _ (Or.inl (by decide))]; exact n16
    · rw [cI_other _ _ (Or.inl (by decide))]; exact n17
    · rw [cI_other _ _ (Or.inl (by decide))]; exact n18
  have c2 : CNz g H T (csI (csI s 8 (nd g n) (nI 1)) 16 (nd g n) (nI 0)) ct n (fun j => if j = 0 then 1 else if 6 ≤ j ∧ j ≤ 8 then 0 else wN w n j) (wY w n) (wP w n) (wX w n) (pe n) z := by
    obtain ⟨n1, n8, n9, n10, n11, n12, n13, n16, n17, n18⟩ := c1.1
    refine c1.n0 ⟨?_, ?_, ?_, ?_, ?_, ?_, ?_, ?_, ?_, ?_⟩ (fun j hj => ?_)
    · rw [cI_other _ _ (Or.inl (by decide))]; exact n1
    · rw [cI_other _ _ (Or.inl (by decide))]; exact n8
    · rw [cI_other _ _ (Or.inl (by decide))]; exact n9
    · rw [cI_other _ _ (Or.inl (by decide))]; exact n10
    · rw [cI_other _ _ (Or.inl (by decide))]; exact n11
    · rw [cI_other _ _ (Or.inl (by decide))]; exact n12
    · rw [cI_other _ _ (Or.inl (by decide))]; exact n13
    · rw [cI_same]; rfl
    · rw [cI_other _ _ (Or.inl (by decide))]; exact n17
    · rw [cI_other _ _ (Or.inl (by decide))]; exact n18
    · show (if j = 0 then (1 : Int) else if 6 ≤ j ∧ j ≤ 8 then 0 else wN w n j) = if j = 0 then 1 else wN w n j
      rw [if_neg (by omega), if_neg (by omega), if_neg (by omega)]
  have c3 := (c2.y45 (y' := wY (aHL (aWk0 w n) n (wN w n 17).toNat) n) (fun f h4 h5 _ => funext fun x => yo f x h4 h5)).ag (z' := wY (aHL (aWk0 w n) n (wN w n 17).toNat) n) (fun i hi => Option.ext fun m => ?_) (fun c p r k hc hp hr hk => Option.ext fun m => ?_)
  · have st : St 0 g H T (csI (csI s 8 (nd g n) (nI 1)) 16 (nd g n) (nI 0)) := (cr.2.1.I _ _ _).I _ _ _
    have fr : cfr (ndP g n) s (csI (csI s 8 (nd g n) (nI 1)) 16 (nd g n) (nI 0)) := ((cfr_I _ _ _ _).mono (fun b z => by unfold ndP; omega)).trans ((cfr_I _ _ _ _).mono (fun b z => by unfold ndP; omega))
    refine (cz.set hn fr st c3).cr ⟨fun _ f i _ => rfl, fun q => absurd rfl q⟩ (fun m hm => ?_) a4 a5 a6 (fun _ _ => rfl) rfl eV rfl (by rw [a2]; rfl) (by rw [a3]; rfl)
    refine ⟨?_, funext fun f => funext fun x => a7 m f x (Or.inl hm), by rw [a2]; rfl, by rw [a3]; rfl⟩
    rw [a1]
    refine funext fun j => ?_
    unfold aWk0
    rw [N_o _ _ _ _ (Or.inl hm), N_o _ _ _ _ (Or.inl hm), N_o _ _ _ _ (Or.inl hm), N_o _ _ _ _ (Or.inl hm)]
  · exact (ow 4 i m (Or.inl rfl)).trans (o4 i m hi).symm
  · exact (ow 5 (vq c p r k) m (Or.inr rfl)).trans (o5 c p r k m hc hp hr hk).symm
/-- all of it but the rules -/
theorem wake_C (hN : 12000 ≤ N) (cr : CR F g H T s ct [] w (fun _ => -1)) (b5 : bF g H s) (hn : n < H) (gi : GI F H T G w) (hu : wN w n 0 = 0) : wp (p_X6_wake N g H T s (nd g n)) (k_X6_wake N g H T s (nd g n)) (fun z => clW F g H T z (aWk w n T)) := by
  have cb := cr.1.bb
  have ga := (gi.2.1 n hn).a
  have g1 := ga.2.1
  have g2 := ga.2.2.1
  have g3 := ga.2.2.2.1
  have c0 := wake_0 cr hn gi hu
  have b0 : bF g H (csI (csI s 8 (nd g n) (nI 1)) 16 (nd g n) (nI 0)) := fun m hm => by
    rw [cI_other _ _ (Or.inl (by decide)), cI_other _ _ (Or.inl (by decide))]
    exact b5 m hm
  show wp (KO_X6_wake_0 N g H T (some (nd g n)) s) (KF_X6_wake_0 N g H T (some (nd g n)) s) _
  unfold KO_X6_wake_0 KF_X6_wake_0
  rw [zsome]
  refine wp_and someN ?_
  generalize csI (csI s 8 (nd g n) (nI 1)) 16 (nd g n) (nI 0) = s1 at c0 b0 ⊢
  obtain ⟨a1, a2, a3, a4, a5, a6, a7⟩ := aHL_o (w := aWk0 w n) (n := n) (wN w n 17).toNat
  have v0 : wN (aHL (aWk0 w n) n (wN w n 17).toNat) n 0 = 1 := by rw [a1]; exact aWk0_N
  have v1 : wN (aHL (aWk0 w n) n (wN w n 17).toNat) n 1 = wN w n 1 := by rw [a1]; exact aWk0_N
  have v2 : wN (aHL (aWk0 w n) n (wN w n 17).toNat) n 2 = wN w n 2 := by rw [a1]; exact aWk0_N
  have v3 : wN (aHL (aWk0 w n) n (wN w n 17).toNat) n 3 = wN w n 3 := by rw [a1]; exact aWk0_N
  have eW : aWk w n T = aAll (aWk1 (aHL (aWk0 w n) n (wN w n 17).toNat) n) n T (asB (wN w n 1).toNat) := rfl
  rw [eW]
  generalize aHL (aWk0 w n) n (wN w n 17).toNat = V at c0 v0 v1 v2 v3 ⊢
  -- the question to all
  have tail : ∀ (s' : cS) (U : Wd), CR F g H T s' ct [] U (fun _ => -1) → bF g H s' → wN U n 1 = wN w n 1 → U = aWk1 V n → wp (KO_X6_wake_27 N g H T (some (nd g n)) s') (KF_X6_wake_27 N g H T (some (nd g n)) s') (fun z => clW F g H T z (aAll (aWk1 V n) n T (asB (wN w n 1).toNat))) := fun s' U c1 b1 u1 eU => by
    rw [← eU]
    have ak := ask_C (N := N) (by omega) c1 hn (by decide) (by rw [u1]; exact g1)
    have k5 := k5c_X6_ask (u := 0) c1.2.1 (isO5 hn) ak.1
    rw [u1] at ak
    unfold KO_X6_wake_27 KF_X6_wake_27
    rw [zsome]
    refine wp_and ⟨someN, ak.1⟩ ?_
    obtain ⟨e, ct', m1, m2, m3, m4, m5, m6, m7⟩ := ak.2
    generalize k_X6_ask N g H T s' (nd g n) = Y at m1 m4 m5 m7 k5 ⊢
    obtain ⟨Y1, s2⟩ := Y
    have m1 : Y1 = some e := m1
    subst m1
    have m4 : CR F g H T s2 ct' [e] U (fun _ => -1) := m4
    have b2 : bF g H s2 := b1.M k5.2.1
    have i1 : cI s2 1 (nd g n) = nI n := (m4.node hn).1.1
    show wp (KO_X6_wake_31 N g H T (some (nd g n)) (some e) s2) (KF_X6_wake_31 N g H T (some (nd g n)) (some e) s2) _
    unfold KO_X6_wake_31 KF_X6_wake_31
    rw [zsome, i1]
    have sp := spread_C (N := N) (m := e) (f := n) (b := n) (c := n) (by omega) m4 List.mem_cons_self (by omega) (by omega) (by omega)
    have st := k5c_X10_spread (u := 0) m4.2.1 isO8 (fun b z => by cases z; exact (m4.ms us_self).1) sp.1
    refine wp_and someN (wp_call sp (fun q => ?_))
    rw [m2, aOn_all] at q
    have b3 := b2.M st.2
    generalize k_X10_spread N g H T s2 (g + 8) (nI n) (some e) (nI n) (nI n) = s3 at q b3 ⊢
    unfold KO_X6_wake_52 KF_X6_wake_52
    have dr := drop_C (N := N) q.1 (by decide)
    have s5 := k5c_X9_drop (u := 0) q.1.2.1 oS7 (fun b z => by cases z; exact (q.1.ms us_self).1) dr.1
    exact wp_and someN (wp_fin ⟨dr.1, trivial⟩ ⟨ct', dr.2.1, b3.M s5.2⟩)
  have e9 := c0.h1 hn (by omega)
  have e11 : cI s1 11 (nd g n) = nI (wN w n 3).toNat := by
    rw [(c0.node hn).1.2.2.2.2.1, v3, ← iI_n, Int.toNat_of_nonneg g3.1]
  unfold KO_X6_wake_10 KF_X6_wake_10
  rw [zsome, e9, e11, v1]
  refine wp_and someN ?_
  by_cases c : wN w n 1 ≤ 40
  · have t := setTimer_C (N := N) (t := (wN w n 3).toNat) c0 hn v0 (by omega) (by omega)
    refine wp_neg (by rw [n_lt' (by omega) (by omega)]; omega) (wp_call t (fun q => ?_))
    obtain ⟨q1, q2, q3⟩ := q
    refine tail _ _ q1 (fun m hm => by rw [q3]; exact b0 m hm) (by rw [N_o _ _ _ _ (by omega)]; exact v1) ?_
    unfold aWk1
    rw [if_pos (by omega), v3]
  · refine wp_pos (by rw [n_lt' (by omega) (by omega)]; omega) (tail s1 V c0 b0 v1 ?_)
    unfold aWk1
    rw [if_neg (by omega)]
theorem wA.st (h : wA F H T w) (f : ∀ m, m ≠ n → wN w' m = wN w m ∧ wY w' m = wY w m ∧ wP w' m = wP w m) (g' : GK F H T w') (p : pxf n w w') (q : tzf n w w') : wA F H T w' := by
  refine ⟨g', fun m hm => ?_, fun m hm => ?_⟩
  · by_cases c : m = n
    · rw [c] at hm ⊢
      exact p (h.2.1 n hm)
    · obtain ⟨a1, a2, a3⟩ := f m c
      have := h.2.1 m hm
      unfold pz chO at this ⊢
      rw [a1, a2, a3]
      exact this
  · by_cases c : m = n
    · rw [c] at hm ⊢
      exact q (h.2.2 n hm)
    · obtain ⟨a1, a2, a3⟩ := f m c
      have := h.2.2 m hm
      unfold tz at this ⊢
      rw [a1]
      exact this
/-- the world of a node that came again -/
theorem wA.wake (h : wA F H T w) (hn : n < H) : wA F H T (aWk w n T) ∧ ∀ m, m ≠ n → wN (aWk w n T) m = wN w m ∧ wY (aWk w n T) m = wY w m ∧ wP (aWk w n T) m = wP w m := by
  obtain ⟨G, g1⟩ := h.1.1
  have ga := (g1.2.1 n hn).a
  have g3 := ga.2.2.2.1
  have fr : wfr n (aWk0 w n) (aWk w n T) := (wfr.hl.trans wfr.wk1).trans wfr.all
  have fo : ∀ m, m ≠ n → wN (aWk w n T) m = wN w m ∧ wY (aWk w n T) m = wY w m ∧ wP (aWk w n T) m = wP w m := fun m hm => by
    obtain ⟨b1, b2, b3, b4⟩ := fr.1 m hm
    refine ⟨?_, b2, b3⟩
    rw [b1]
    refine funext fun j => ?_
    unfold aWk0
    rw [N_o _ _ _ _ (Or.inl hm), N_o _ _ _ _ (Or.inl hm), N_o _ _ _ _ (Or.inl hm), N_o _ _ _ _ (Or.inl hm)]
  obtain ⟨a1, a2, a3, a4, a5, a6, a7⟩ := aHL_o (w := aWk0 w n) (n := n) (wN w n 17).toNat
  have e1 : wN (aWk w n T) n 1 = wN w n 1 := aWk_N g3 (by omega)
  have y1 : ∀ U f x, wY (aWk1 U n) n f x = wY U n f x := fun U f x => by
    unfold aWk1
    split <;> rfl
  have p1 : ∀ U, wP (aWk1 U n) = wP U := fun U => by
    unfold aWk1
    split <;> rfl
  refine ⟨h.st fo (h.1.wake hn) (pxf.sm (fun x => ?_) (by rw [e1]; exact Int.le_refl _) ?_) ?_, fo⟩
  · show wY (aWk1 (aHL (aWk0 w n) n (wN w n 17).toNat) n) n 7 x = _
    rw [y1, a7 n 7 x (Or.inr (by decide))]
    rfl
  · show wP (aWk1 (aHL (aWk0 w n) n (wN w n 17).toNat) n) n = _
    rw [p1, a2]
    rfl
  · by_cases c : wN w n 1 ≤ 40
    · exact tzf.h40 (by rw [e1]; exact c)
    · refine tzf.sm e1 (Or.inl ?_)
      show wN (aWk1 (aHL (aWk0 w n) n (wN w n 17).toNat) n) n 11 = _
      have v1 : wN (aHL (aWk0 w n) n (wN w n 17).toNat) n 1 = wN w n 1 := by rw [a1]; exact aWk0_N
      unfold aWk1
      rw [if_neg (by omega), a1]
      exact aWk0_N
theorem restart_C {W : Wd} (hN : 12000 ≤ N) (h : clW F g H T s w) (iv : IV F H T w) (h9 : wT w < 900000) (hv : (∃ n, n < H ∧ x = nI n ∧ wN w n 0 = 0 ∧ W = aRules (aWk w n T) n T F ∧ v = nI 1) ∨ ((¬ ∃ n, n < H ∧ x = nI n ∧ wN w n 0 = 0) ∧ W = w ∧ v = nI 0)) : wp (p_X11_restart N g H T s g x) (k_X11_restart N g H T s g x) (fun z => z.1 = v ∧ clW F g H T z.2 W ∧ IV F H T W) := by
  have h' := h
  obtain ⟨ct, cr, b5⟩ := h'
  have cb := cr.1.bb
  show wp (KO_X11_restart_0 N g H T g x s) (KF_X11_restart_0 N g H T g x s) _
  unfold KO_X11_restart_0 KF_X11_restart_0 KO_X11_restart_17 KF_X11_restart_17
  have no : (¬ ∃ n, n < H ∧ x = nI n ∧ wN w n 0 = 0) → ((nI 0, s) : Int32 × cS).1 = v ∧ clW F g H T ((nI 0, s) : Int32 × cS).2 W ∧ IV F H T W := fun z => by
    rcases hv with ⟨n, q1, q2, q3, _⟩ | ⟨_, q2, q3⟩
    · exact absurd ⟨n, q1, q2, q3⟩ z
    · rw [q2, q3]
      exact ⟨rfl, h, iv⟩
  by_cases c : ∃ n, n < H ∧ x = nI n
  rotate_left
  · obtain ⟨o1, o2⟩ := honest_n (N := N) cr c
    rw [o2]
    exact wp_and o1 (wp_pos rfl (wp_fin trivial (no (fun ⟨n, q1, q2, _⟩ => c ⟨n, q1, q2⟩))))
  obtain ⟨n, hn, rfl⟩ := c
  obtain ⟨G, g1⟩ := iv.2.1.1.1
  have ga0 := (g1.2.1 n hn).a.1
  have e8 : cI s 8 (nd g n) = nI (wN w n 0).toNat := by
    rw [(cr.node hn).1.2.1, ← iI_n, Int.toNat_of_nonneg ga0.1]
  obtain ⟨o1, o2⟩ := honest_y (N := N) cr hn
  rw [o2, zsome, e8]
  refine wp_and o1 (wp_neg someN ?_)
  by_cases hu : wN w n 0 = 0
  rotate_left
  · refine wp_neg (by rw [n_eq0 (by omega)]; omega) (wp_fin trivial (no (fun ⟨n', q1, q2, q3⟩ => ?_)))
    have := n_inj (by omega) (by omega) q2
    subst this
    exact hu q3
  have hv' : W = aRules (aWk w n T) n T F ∧ v = nI 1 := by
    rcases hv with ⟨n', q1, q2, q3, q4⟩ | ⟨q, _⟩
    · have := n_inj (by omega) (by omega) q2
      subst this
      exact q4
    · exact absurd ⟨n, hn, rfl, hu⟩ q
  rw [hv'.1, hv'.2]
  refine wp_pos (by rw [n_eq0 (by omega)]; omega) (wp_call (wake_C hN cr b5 hn g1 hu) (fun q => ?_))
  obtain ⟨ct1, c1, b1⟩ := q
  obtain ⟨wa, fo⟩ := iv.2.1.wake hn
  generalize k_X6_wake N g H T s (nd g n) = s1 at c1 b1 ⊢
  obtain ⟨⟨G', g'⟩, k'⟩ := wa.1
  have aj := iv.1.restart hn hu h9
  have se := settle_C (N := N) hN c1 hn (by decide) g' (k' n hn) rfl (pzK_ok hn) (wa.2.1 n hn)
  unfold KO_X11_restart_23 KF_X11_restart_23 KO_X11_restart_27 KF_X11_restart_27
  refine wp_call se (fun q => wp_fin trivial ⟨rfl, ?_, aj, ?_, ?_⟩)
  · obtain ⟨⟨ct2, _, d2⟩, d3, d4⟩ := q
    exact ⟨ct2, d2, b1.six d3 d4⟩
  · exact wa.step wfr.rules aj.1.1 (pxf.rules wa.1 hn) (tzf.rules wa.1 hn)
  · have r1 : ∀ m, m < H → m ≠ n → rest (aWk w n T) m T F := fun m hm c => (iv.2.2 m hm).q ⟨fun j _ => by rw [(fo m c).1], fun f _ => by rw [(fo m c).2.1]⟩
    intro m hm
    by_cases c : m = n
    · rw [c]
      exact rest_rules hn g' (k' n hn)
    · exact (r1 m hm c).q (wfr.rules.qt c)
end
end

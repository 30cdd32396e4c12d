section
/-! THE CLASS'S LOG: a block of the chain, a snapshot -/
/-- the chain has blocks of heights below alone -/
def chO (w : Wd) (n : Nat) : Prop := ∀ k y, 1 ≤ k → k ≤ 40 → wY w n 7 k = some y → (k : Int) < wN w n 1
section
variable {F N g H T n : Nat} {s s' : cS} {ct : Nat → List Nat} {hd : List Nat} {w : Wd} {pe : Nat → Int} {v : Nat → Int} {y z : Nat → Nat → Option (List Nat)} {p : List (List Nat)} {x : Nat → Nat → Nat} {pn : Int} {a : Nat}
/-- the size of a height's block is written -/
theorem CNz.A5 {i : Nat} {x0 : Int32} {y' : Nat → Nat → Option (List Nat)} (h : CNz g H T s ct n v y p x pn z) (hn : n < H) (hC : qC (cA (csA s (nd g n + 5) i x0) (nd g n + 5)) v x (y' 7)) (hA : qA s ct (nd g n) v (y' 7)) (hy : ∀ f, f ≠ 7 → y' f = y f) : CNz g H T (csA s (nd g n + 5) i x0) ct n v y' p x pn z := by
  obtain ⟨c1, c2, c3, c4, c5, c6, c7, c8, c9, c10, c11, c12, c13, c14⟩ := h
  have oo : ∀ d, d ≠ 5 → cA (csA s (nd g n + 5) i x0) (nd g n + d) = cA s (nd g n + d) := fun d hd' => cA_ne _ _ _ (by omega)
  refine ⟨c1, by rw [oo 12 (by omega)]; exact c2, c3, fun j hj => ?_, hC, ?_, ?_, ?_, ?_, c10, ?_, hA, c13, by rw [oo 4 (by omega)]; exact c14⟩
  · rw [oo 3 (by omega)]
    obtain ⟨x1, x2, x3, x4⟩ := c4 j hj
    refine ⟨x1, x2, x3, fun r hr => ?_⟩
    obtain ⟨y1, y2, y3, y4, y5, y6⟩ := x4 r hr
    exact ⟨y1, y2, y3, y4, y5, by rw [cA_ne _ _ _ (by unfold nd at *; omega)]; exact y6⟩
  · unfold qB bkC rtC
    have a7 : cA (csA s (nd g n + 5) i x0) (nd g n + 6 + 1) = cA s (nd g n + 6 + 1) := oo 7 (by omega)
    have a8 : cA (csA s (nd g n + 5) i x0) (nd g n + 6 + 2) = cA s (nd g n + 6 + 2) := oo 8 (by omega)
    have a9 : cA (csA s (nd g n + 5) i x0) (nd g n + 6 + 3) = cA s (nd g n + 6 + 3) := oo 9 (by omega)
    rw [a7, a8, a9, oo 11 (by omega), hy 9 (by decide)]
    exact c6
  · unfold qH
    rw [oo 16 (by omega), oo 17 (by omega), hy 9 (by decide)]
    exact c7
  · unfold qD
    rw [oo 21 (by omega), hy 9 (by decide), hy 6 (by decide)]
    exact c8
  · unfold qS_
    rw [hy 3 (by decide), hy 2 (by decide)]
    exact c9
  · unfold qK
    rw [hy 0 (by decide), hy 1 (by decide)]
    exact c11
theorem CR.c5 {h : Nat} {c : List Nat} (cr : CR F g H T s ct hd w pe) (hn : n < H) (hh : 1 ≤ h ∧ h ≤ 40) (hno : wY w n 7 h = none) (hok : bOK c) (v1 : wN w n (100 + (2 * h - 2)) = 1) (v2 : 504 < c.length → wN w n (100 + (2 * h - 1)) = 1) (hx : ∀ i, i < c.length → (if i < 504 then wX w n (2 * h - 2) (8 + i) else wX w n (2 * h - 1) (i - 504)) = bg c i) : CR F g H T (csA s (nd g n + 5) h (nI c.length)) ct hd (sBy w n 7 h (some c)) pe := by
  obtain ⟨z, cz, oz⟩ := cr.z_ hn
  have k21 : cK s (nd g n + 5) = 21 := (cr.2.1.2.1 3 3 (nd g n + 1) (o52 (isO5 hn)) (by omega) _ rfl).2.1
  have eY : ∀ f, f ≠ 7 → wY (sBy w n 7 h (some c)) n f = wY w n f := fun f hf => funext fun i => by
    show (if n = n ∧ f = 7 ∧ i = h then some c else w.2.1 n f i) = w.2.1 n f i
    exact if_neg (fun q => hf q.2.1)
  have e7 : ∀ i, wY (sBy w n 7 h (some c)) n 7 i = if i = h then some c else wY w n 7 i := fun i => by
    show (if n = n ∧ 7 = 7 ∧ i = h then some c else w.2.1 n 7 i) = _
    by_cases q : i = h
    · rw [if_pos ⟨rfl, rfl, q⟩, if_pos q]
    · rw [if_neg (fun z => q z.2.2), if_neg q]
      rfl
  have c5 := cz.nz.2.2.2.2.1
  have c12 := cz.nz.2.2.2.2.2.2.2.2.2.2.2.1
  have nz : CNz g H T (csA s (nd g n + 5) h (nI c.length)) ct n (wN w n) (wY (sBy w n 7 h (some c)) n) (wP w n) (wX w n) (pe n) z := by
    refine cz.nz.A5 hn (fun k k1 k2 => ?_) (fun j b hj hb => ?_) eY
    · rw [cA_at, e7]
      by_cases q : k = h
      · rw [if_pos q, if_pos q]
        refine ⟨fun e => (by cases e), fun y' e => ?_⟩
        rw [← Option.some.inj e, q]
        exact ⟨rfl, hok, v1, v2, hx⟩
      · rw [if_neg q, if_neg q]
        exact c5 k k1 k2
    · obtain ⟨k, x', q1, q2, q3, q4, q5, q6⟩ := c12 j b hj hb
      refine ⟨k, x', q1, q2, q3, q4, ?_, q6⟩
      rw [e7, if_neg (fun q => ?_)]
      · exact q5
      · rw [q, hno] at q5
        cases q5
  have r := cz.set hn (s' := csA s (nd g n + 5) h (nI c.length)) ((cfr_A _ _ _).mono (fun b z => by unfold ndP; omega)) (cr.2.1.Aw (k := 21) _ _ _ (tK_some k21) (by decide)) nz
  have oz' : owZ T n (wN w n) (wY (sBy w n 7 h (some c)) n) z := by
    unfold owZ owH at oz ⊢
    rw [eY 8 (by decide)]
    refine ⟨fun q f i hf => ?_, fun q => ⟨fun f i h1 h2 => ?_, (oz.2 q).2⟩⟩
    · rw [oz.1 q f i hf, eY f (by omega)]
    · rw [eY f (by omega)]
      exact (oz.2 q).1 f i h1 h2
  exact r.cr oz' (fun m hm => ⟨rfl, funext fun f => funext fun i => if_neg (fun q => hm q.1), rfl, rfl⟩) rfl rfl rfl (fun _ _ => rfl) rfl rfl rfl rfl rfl
theorem noteChain_C {at_ : Nat} {m c : List Nat} (hN : 100 ≤ N) (cr : CR F g H T s ct hd w pe) (hn : n < H) (h1 : 1 ≤ wN w n 1 ∧ wN w n 1 ≤ 40) (h12 : 0 ≤ wN w n 12 ∧ wN w n 12 ≤ 1000) (ua : 1 ≤ us g H T s hd a) (hca : ct a = m) (hat : at_ ≤ 6) (hc : c = m.drop at_) (hok : bOK c) (hch : chO w n) : wp (p_X4_noteChain N g H T s (nd g n + 1) (nI (wN w n 1).toNat) (some (a + 2)) (nI at_) (nI m.length)) (k_X4_noteChain N g H T s (nd g n + 1) (nI (wN w n 1).toNat) (some (a + 2)) (nI at_) (nI m.length)) (fun z => (((aNote w n (chT w n c) (2 * (wN w n 1).toNat - 2)).1 = true ∧ z.1 = nI 1 ∧ CR F g H T z.2 ct hd (sBy (aNote w n (chT w n c) (2 * (wN w n 1).toNat - 2)).2 n 7 (wN w n 1).toNat (some c)) pe) ∨ ((aNote w n (chT w n c) (2 * (wN w n 1).toNat - 2)).1 = false ∧ z.1 = nI 0 ∧ CR F g H T z.2 ct hd (aWr w n (chT w n c) (2 * (wN w n 1).toNat - 2)) pe ∧ (aNote w n (chT w n c) (2 * (wN w n 1).toNat - 2)).2 = aFall (aWr w n (chT w n c) (2 * (wN w n 1).toNat - 2)) n)) ∧ ffr g H hd s z.2) := by
  obtain ⟨h, hh⟩ : ∃ h, h = (wN w n 1).toNat := ⟨_, rfl⟩
  have hi : wN w n 1 = (h : Int) := by omega
  rw [← hh]
  have lc : c.length = m.length - at_ := by rw [hc, List.length_drop]
  have la := hok.1
  have lb := hok.2.1
  show wp (KO_X4_noteChain_0 N g H T (nd g n + 1) (nI h) (some (a + 2)) (nI at_) (nI m.length) s) (KF_X4_noteChain_0 N g H T (nd g n + 1) (nI h) (some (a + 2)) (nI at_) (nI m.length) s) _
  unfold KO_X4_noteChain_0 KF_X4_noteChain_0
  refine wp_neg (by rw [n_lt' (by omega) (by omega)]; omega) (wp_pos (by rw [n_le' (by omega) (by omega)]; omega) (wp_call (open_C (N := N) (k := 1) (h := h) (q := 0) cr hn (by decide) (by omega) (by decide)) ?_))
  rintro ⟨o1, o2, o3⟩
  generalize k_X4_open N g H T s (nd g n + 1) (nI 1) (nI h) (nI 0) = s1 at o1 o2 o3 ⊢
  have u1 : 1 ≤ us g H T s1 hd a := by rw [o3.2.us]; exact ua
  have ms := o1.ms u1
  rw [hca] at ms
  have kk := (o1.2.1.ms ms.1).2.1
  unfold KO_X4_noteChain_20 KF_X4_noteChain_20
  refine wp_call (addL_C (N := N) (r := a + 2) (a := at_) (b := m.length) o1 hn o2 ms.2.2.1 kk (by have := o1.2.2.2.1.n ms.1; unfold nd at *; omega) (by omega) (Nat.le_refl _) (by rw [ntH_len]; omega)) ?_
  rintro ⟨a1, a2, a3⟩
  generalize k_X4_add N g H T s1 (nd g n + 1) (some (a + 2)) (nI at_) (nI m.length) = s2 at a1 a2 a3 ⊢
  have et : ntH 1 h 0 ++ sl m at_ (m.length - at_) = chT w n c := by
    unfold chT
    rw [sl_6, ← hc, ← hh]
  rw [et] at a2
  have tl : (chT w n c).length = 8 + c.length := by
    unfold chT
    rw [List.length_append, ntH_len]
  have my : nMny (chT w n c) ≤ 2 := by
    unfold nMny
    rw [tl]
    omega
  unfold KO_X4_noteChain_28 KF_X4_noteChain_28
  rw [n_mul, n_sub (by omega)]
  refine wp_call (write_C (N := N) (fst := 2 * h - 2) hN a1 hn a2 (by omega) h12 (fun k y q k1 k2 e q1 q2 => by
    have := hch k y k1 k2 e
    omega)) ?_
  rintro ⟨wr, wf'⟩
  generalize k_X4_write N g H T s2 (nd g n + 1) (nI (2 * h - 2)) = z at wr wf' ⊢
  unfold KO_X4_noteChain_37 KF_X4_noteChain_37
  have ff : ffr g H hd s z.2 := (o3.trans a3).trans wf'
  rcases wr with ⟨tr, z1, c4⟩ | ⟨tr, z1, c4⟩
  · have en : aNote w n (chT w n c) (2 * h - 2) = (false, aFall (aWr w n (chT w n c) (2 * h - 2)) n) := by
      unfold aNote
      rw [if_pos tr]
    rw [z1, en]
    exact wp_pos rfl (wp_fin trivial ⟨Or.inr ⟨rfl, rfl, c4, rfl⟩, ff⟩)
  · have en : aNote w n (chT w n c) (2 * h - 2) = (true, sN (aWr w n (chT w n c) (2 * h - 2)) n 13 (wN w n 13 + 1)) := by
      unfold aNote
      rw [if_neg (by rw [tr]; decide)]
    rw [z1, en, n_clamp (by omega), n_sub (by omega), ← lc]
    have e5 : nd g n + 1 + 4 = nd g n + 5 := rfl
    rw [e5]
    refine wp_neg (by decide) (wp_fin ⟨((n_in (by omega)).2 (by omega)), trivial⟩ ⟨Or.inl ⟨rfl, rfl, ?_⟩, ?_⟩)
    · have hno : wY w n 7 h = none := by
        cases e : wY w n 7 h with
        | none => rfl
        | some y' =>
          have := hch h y' (by omega) (by omega) e
          omega
      have mm : nMny (chT w n c) = if 504 < c.length then 2 else 1 := by
        unfold nMny
        rw [tl]
        by_cases q : 504 < c.length
        · rw [if_pos q]
          omega
        · rw [if_neg q]
          omega
      have vv : ∀ j, 2 * h - 2 ≤ j → j < 2 * h - 2 + nMny (chT w n c) → wN (sN (aWr w n (chT w n c) (2 * h - 2)) n 13 (wN w n 13 + 1)) n (100 + j) = 1 := fun j j1 j2 => by
        rw [N_o _ _ _ _ (by omega)]
        show (if n = n ∧ 100 + j = 12 then _ else if n = n ∧ 100 + j = 14 then _ else if n = n ∧ 100 + (2 * h - 2) ≤ 100 + j ∧ 100 + j < 100 + (2 * h - 2) + nMny (chT w n c) then (if nTrn w n = true ∧ 100 + j + 1 = 100 + (2 * h - 2) + nMny (chT w n c) then (0 : Int) else 1) else w.1 n (100 + j)) = 1
        rw [if_neg (by omega), if_neg (by omega), if_pos ⟨rfl, by omega, by omega⟩, if_neg (by rw [tr]; exact fun q => by cases q.1)]
      have xx : ∀ j i, j < nMny (chT w n c) → 512 * j + i < 8 + c.length → i < 512 → 8 ≤ 512 * j + i → wX (sN (aWr w n (chT w n c) (2 * h - 2)) n 13 (wN w n 13 + 1)) n (2 * h - 2 + j) i = bg c (512 * j + i - 8) := fun j i j1 j2 j3 j4 => by
        have ns : noS (chT w n c).length (nTrn w n) j = if 512 ≤ (chT w n c).length - 512 * j then 512 else (chT w n c).length - 512 * j := by
          unfold noS
          rw [if_neg (by rw [tr]; exact fun q => by cases q.1)]
        show (if n = n ∧ 2 * h - 2 ≤ 2 * h - 2 + j ∧ 2 * h - 2 + j < 2 * h - 2 + nMny (chT w n c) ∧ i < noS (chT w n c).length (nTrn w n) (2 * h - 2 + j - (2 * h - 2)) then bg (ntL (chT w n c)) (512 * (2 * h - 2 + j - (2 * h - 2)) + i) else _) = _
        rw [show 2 * h - 2 + j - (2 * h - 2) = j by omega, ns, tl, if_pos ⟨rfl, by omega, by omega, by
          by_cases q : 512 ≤ 8 + c.length - 512 * j
          · rw [if_pos q]; exact j3
          · rw [if_neg q]; omega⟩]
        unfold ntL
        rw [mkB_bg, tl, if_pos j2, if_neg (by omega), if_neg (by omega)]
        unfold chT
        rw [bg_app, ntH_len, if_neg (by omega)]
      refine CR.c5 c4 hn ⟨by omega, by omega⟩ hno hok (vv _ (by omega) (by rw [mm]; split <;> omega)) (fun q => vv (2 * h - 1) (by omega) (by rw [mm, if_pos q]; omega)) (fun i hi => ?_)
      by_cases q : i < 504
      · rw [if_pos q]
        have := xx 0 (8 + i) (by rw [mm]; split <;> omega) (by omega) (by omega) (by omega)
        rw [show 2 * h - 2 + 0 = 2 * h - 2 from rfl, show 512 * 0 + (8 + i) - 8 = i by omega] at this
        exact this
      · rw [if_neg q]
        have := xx 1 (i - 504) (by rw [mm, if_pos (by omega)]; omega) (by omega) (by omega) (by omega)
        rw [show 2 * h - 2 + 1 = 2 * h - 1 by omega, show 512 * 1 + (i - 504) - 8 = i by omega] at this
        exact this
    · exact ff.trans ⟨fun b _ => rfl, (cfr_A _ _ _ : cfr _ z.2 (csA z.2 (nd g n + 5) h (nI c.length))).pf⟩
theorem noteSnap_C {m : List Nat} (hN : 100 ≤ N) (cr : CR F g H T s ct hd w pe) (hn : n < H) (h12 : 0 ≤ wN w n 12 ∧ wN w n 12 ≤ 1000) (h16 : -1 ≤ wN w n 16 ∧ wN w n 16 ≤ 300) (ua : 1 ≤ us g H T s hd a) (hca : ct a = m) (hl : m.length = 115) : wp (p_X4_noteSnap N g H T s (nd g n + 1) (some a)) (k_X4_noteSnap N g H T s (nd g n + 1) (some a)) (fun z => (((aSnapN w n m).1 = true ∧ z.1 = nI 1 ∧ CR F g H T z.2 ct hd (aSnapN w n m).2 pe) ∨ ((aSnapN w n m).1 = false ∧ z.1 = nI 0 ∧ CR F g H T z.2 ct hd (aWr w n (snT m) (snAt w n)) pe ∧ (aSnapN w n m).2 = aFall (aWr w n (snT m) (snAt w n)) n)) ∧ ffr g H hd s z.2) := by
  have ms0 := cr.ms ua
  rw [hca] at ms0
  have tB := tw_lt ms0.2.2.1.2.2.2 1
  have e5 : cI s 5 (nd g n + 1) = iI (wN w n 16) := (cr.node hn).2.2.1.1
  obtain ⟨t1, t2⟩ := two_ok (N := N) (g := g) (H := H) (T := T) (i := 1) ms0 (by omega)
  have t3 : twM m 1 = tw m 1 := by
    unfold twM
    rw [if_pos (by omega)]
  rw [t3] at t2
  have tl : (snT m).length = 123 := by
    unfold snT
    rw [List.length_append, ntH_len, hl]
  have fin : ∀ q, (q = 280 ∨ q = 282) → q = snAt w n → wp (KO_X4_noteSnap_19 N g H T (nd g n + 1) (some a) (nI q) s) (KF_X4_noteSnap_19 N g H T (nd g n + 1) (some a) (nI q) s) (fun z => (((aSnapN w n m).1 = true ∧ z.1 = nI 1 ∧ CR F g H T z.2 ct hd (aSnapN w n m).2 pe) ∨ ((aSnapN w n m).1 = false ∧ z.1 = nI 0 ∧ CR F g H T z.2 ct hd (aWr w n (snT m) (snAt w n)) pe ∧ (aSnapN w n m).2 = aFall (aWr w n (snT m) (snAt w n)) n)) ∧ ffr g H hd s z.2) := fun q q1 q2 => by
    unfold KO_X4_noteSnap_19 KF_X4_noteSnap_19
    rw [zsome, t2]
    refine wp_and ⟨someN, t1⟩ (wp_call (open_C (N := N) (k := 6) (h := tw m 1) (q := 0) cr hn (by decide) tB (by decide)) ?_)
    rintro ⟨o1, o2, o3⟩
    generalize k_X4_open N g H T s (nd g n + 1) (nI 6) (nI (tw m 1)) (nI 0) = s1 at o1 o2 o3 ⊢
    have u1 : 1 ≤ us g H T s1 hd a := by rw [o3.2.us]; exact ua
    have ms := o1.ms u1
    rw [hca] at ms
    have kk := (o1.2.1.ms ms.1).2.1
    unfold KO_X4_noteSnap_32 KF_X4_noteSnap_32
    rw [zsome, ms.2.1]
    refine wp_and someN (wp_call (addL_C (N := N) (r := a + 2) (a := 0) (b := m.length) o1 hn o2 ms.2.2.1 kk (by have := o1.2.2.2.1.n ms.1; unfold nd at *; omega) (by omega) (Nat.le_refl _) (by rw [ntH_len]; omega)) ?_)
    rintro ⟨a1, a2, a3⟩
    generalize k_X4_add N g H T s1 (nd g n + 1) (some (a + 2)) (nI 0) (nI m.length) = s2 at a1 a2 a3 ⊢
    have et : ntH 6 (tw m 1) 0 ++ sl m 0 (m.length - 0) = snT m := by
      unfold snT
      rw [sl_all]
    rw [et] at a2
    have my : nMny (snT m) = 1 := by
      unfold nMny
      rw [tl]
    unfold KO_X4_noteSnap_45 KF_X4_noteSnap_45
    refine wp_call (write_C (N := N) (fst := q) hN a1 hn a2 (by omega) h12 (fun k y j k1 k2 e q1 q2 => by omega)) ?_
    rintro ⟨wr, wf'⟩
    generalize k_X4_write N g H T s2 (nd g n + 1) (nI q) = z at wr wf' ⊢
    unfold KO_X4_noteSnap_50 KF_X4_noteSnap_50
    have ff : ffr g H hd s z.2 := (o3.trans a3).trans wf'
    rw [q2] at wr ⊢
    rcases wr with ⟨tr, z1, c4⟩ | ⟨tr, z1, c4⟩
    · have en : aNote w n (snT m) (snAt w n) = (false, aFall (aWr w n (snT m) (snAt w n)) n) := by
        unfold aNote
        rw [if_pos tr]
      have es : aSnapN w n m = (false, aFall (aWr w n (snT m) (snAt w n)) n) := by
        unfold aSnapN
        rw [en]
        rfl
      rw [z1, es]
      exact wp_pos rfl (wp_fin trivial ⟨Or.inr ⟨rfl, rfl, c4, rfl⟩, ff⟩)
    · have en : aNote w n (snT m) (snAt w n) = (true, sN (aWr w n (snT m) (snAt w n)) n 13 (wN w n 13 + 1)) := by
        unfold aNote
        rw [if_neg (by rw [tr]; decide)]
      have es : aSnapN w n m = (true, sN (sN (aWr w n (snT m) (snAt w n)) n 13 (wN w n 13 + 1)) n 16 (snAt w n)) := by
        unfold aSnapN
        rw [en]
        rfl
      rw [z1, es]
      refine wp_neg (by decide) (wp_fin trivial ⟨Or.inl ⟨rfl, rfl, ?_⟩, ?_⟩)
      · have q := c4.lg (k := 5) (j := 16) (x := (snAt w n : Int)) hn (by unfold lgK; omega)
        rw [iI_n] at q
        exact q
      · exact ff.trans ⟨fun b _ => cI_other _ _ (Or.inl (by decide)), (cfr_I _ _ _ _ : cfr _ z.2 (csI z.2 5 (nd g n + 1) (nI (snAt w n)))).pf⟩
  show wp (KO_X4_noteSnap_0 N g H T (nd g n + 1) (some a) s) (KF_X4_noteSnap_0 N g H T (nd g n + 1) (some a) s) _
  unfold KO_X4_noteSnap_0 KF_X4_noteSnap_0
  have q28 : iI (wN w n 16) = nI 280 ↔ wN w n 16 = 280 := by
    rw [← iI_n 280, iI_eq (by omega) (by omega) (by omega) (by omega)]
    exact Iff.rfl
  rw [e5]
  unfold snAt at fin ⊢
  refine wp_ite (fun c => ?_) (fun c => ?_) <;> rw [q28] at c
  · rw [if_pos c] at fin ⊢
    exact fin 282 (Or.inr rfl) rfl
  · rw [if_neg c] at fin ⊢
    exact fin 280 (Or.inl rfl) rfl
end
end

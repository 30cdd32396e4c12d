section
/-! A MESSAGE LANDS: the class and the world -/
section
variable {F N g H T n k : Nat} {s s0 s1 S : cS} {ct : Nat → List Nat} {hd : List Nat} {w w' V W : Wd} {pe : Nat → Int} {a b : Nat} {G : Gh} {m : List Nat}
/-- what holds of the world between calls -/
def IV (F H T : Nat) (w : Wd) : Prop := AJ F H T w ∧ wA F H T w ∧ ∀ n, n < H → rest w n T F
/-- what holds of the class between calls -/
def clW (F g H T : Nat) (s : cS) (w : Wd) : Prop := ∃ ct, CR F g H T s ct [] w (fun _ => -1) ∧ bF g H s
theorem bF.M (h : bF g H s) (x : M5 g H s S) : bF g H S := fun m hm => by
  rw [x.2 m hm]
  exact h m hm
/-- all nodes but one stay as they are, that one is at rest -/
theorem rest_all (h : ∀ n, n < H → rest w n T F) (f : wfr n w W) (r : n < H → rest W n T F) : ∀ n, n < H → rest W n T F := fun m hm => by
  by_cases c : m = n
  · rw [c] at hm ⊢
    exact r hm
  · exact (h m hm).q (f.qt c)
theorem rest_eq (h : ∀ n, n < H → rest w n T F) (e1 : wN W = wN w) (e2 : wY W = wY w) : ∀ n, n < H → rest W n T F := fun n hn => (h n hn).q ⟨fun _ _ => by rw [e1], fun _ _ => by rw [e2]⟩
theorem IV.land (h : IV F H T w) (hk : k < (wK w).1.length) (hB : isB (fg (wK w).1 k).2.2.2) (h9 : wT w < 900000) : IV F H T (aLand w H T F k) := by
  obtain ⟨aj, wa, re⟩ := h
  refine ⟨aj.land hk hB h9, ?_⟩
  obtain ⟨G, g1⟩ := wa.1.1
  have sx := aj.1.2.1 (fg (wK w).1 k) (fg_in hk)
  have w0 : wA F H T (sK w (skE (wK w) k)) := ⟨⟨⟨G, g1.land k⟩, wa.1.2⟩, wa.2⟩
  have r0 : ∀ n, n < H → rest (sK w (skE (wK w) k)) n T F := rest_eq re rfl rfl
  have ga := (aj.land (F := F) hk hB h9).1.1
  have gx : ∀ t tk, skX H T G ((fg (wK w).1 k).1, t, tk, (fg (wK w).1 k).2.2.2) := fun t tk => g1.2.2 (fg (wK w).1 k) (fg_in hk)
  have g0 := g1.land k
  unfold aLand at ga ⊢
  by_cases c : (fg (wK w).1 k).2.1 < H ∧ wN w (fg (wK w).1 k).2.1 0 = 1
  · rw [if_pos c] at ga ⊢
    have gt : wf T (fg (wK w).1 k).2.2.2 → GK F H T (aGot (sK w (skE (wK w) k)) (fg (wK w).1 k).2.1 T (fg (wK w).1 k).1 (fg (wK w).1 k).2.2.2) := fun z => GK.got g0 wa.1.2 c.1 sx.1 gx z hB
    generalize sK w (skE (wK w) k) = V at *
    refine ⟨w0.step wfr.come ga (pxf.come sx.1 gt c.1) (tzf.come sx.1 gt c.1), rest_all r0 wfr.come (fun hn => ?_)⟩
    unfold aCome
    by_cases d : wf T (fg (wK w).1 k).2.2.2
    · rw [cif_pos d]
      obtain ⟨⟨G', g'⟩, k'⟩ := gt d
      exact rest_rules hn g' (k' _ hn)
    · rw [cif_neg d]
      exact r0 _ hn
  · rw [if_neg c] at ga ⊢
    exact ⟨w0, r0⟩
/-- the class looks at a message -/
theorem look_C (hN : 2100 ≤ N) (h : CR F g H T s ct hd w pe) (ua : 1 ≤ us g H T s hd a) : wp (p_X1_look N g H T s (g + 9) (some a)) (k_X1_look N g H T s (g + 9) (some a)) (fun z => CR F g H T z.2 ct hd w pe ∧ M5 g H s z.2 ∧ ((wf T (ct a) ∧ z.1 = nI 1 ∧ cI z.2 4 a = nI 1) ∨ (¬ wf T (ct a) ∧ z.1 = nI 0))) := by
  have cb := h.1.bb
  obtain ⟨h1, h2, h3, h4, h5, h6⟩ := h
  have hm := h4.m ua
  have ka := h4.k ua
  have la := h4.n ka
  have rs := h2.ms ka
  have lk := look_ok (N := N) hN h2 h6.1.2.2.2.2 (by omega) hm.1 hm.2
  have st := k5c_X1_look (u := 0) h2 oF (fun b e => by cases e; exact ka) lk.1
  refine wp_fin lk.1 ?_
  obtain ⟨f, mf, q⟩ := lk.2
  generalize k_X1_look N g H T s (g + 9) (some a) = z at f mf q st ⊢
  have h4' := h4.lk h2 ua f mf (fun e => by
    rcases q with q | q
    · exact q.2.2
    · rcases hm.2 with ⟨r, _⟩ | ⟨_, r, _⟩ | ⟨r, _⟩
      · rw [e] at r
        exact absurd r (by decide)
      · exact absurd r q.1
      · rw [e] at r
        exact absurd r (by decide))
  obtain ⟨f1, f2, f3, f4, f5, f6, f7, f8⟩ := f
  have xf : xfr (scP g H) g H s z.2 := by
    refine ⟨by rw [f5]; exact Nat.le_refl _, fun b _ => ⟨by rw [f7], by rw [f8]⟩, fun b hb hp => ?_, fun r r1 r2 r3 r4 => ?_⟩
    · refine f1.2.2 b (by omega) ?_
      rintro (z | z | z)
      · refine hp ?_
        unfold fiP isH at z
        unfold scP
        omega
      · omega
      · omega
    · refine (f1.2.2 r r2 ?_).2.2.1
      rintro (z | z | z)
      · exact fiP_no (by unfold nd at r1; omega) z
      · rw [z, ka] at r3
        exact absurd r3 (by decide)
      · rw [z, rs.2.2.1] at r3
        exact absurd r3 (by decide)
  exact ⟨⟨h1, st.1, by rw [f5]; exact h3, h4', h5.fr f7 f8 f5 f6 (fun _ _ => by rw [f4]), h6.xf xf⟩, st.2, q⟩
/-- nothing flies there -/
theorem land_no {x : Int32} (h : CR F g H T s ct hd w pe) (hx : ¬ ∃ k, k < (wK w).1.length ∧ x = nI k) : wp (p_X10_land N g H T s (g + 8) x) (k_X10_land N g H T s (g + 8) x) (fun z => z = (-1, s)) := by
  obtain ⟨⟨ld, tt, q1, q2, q3⟩, q4, q5, q6⟩ := h.2.2.2.2.2.2.1
  have s1 := senderOf_c (N := N) (g := g) (H := H) (T := T) (x := x) q1
  have s2 := receiverOf_c (N := N) (g := g) (H := H) (T := T) (x := x) q1
  have s3 := slot_c (N := N) (g := g) (H := H) (T := T) (x := x) q1
  have e3 : k_X9_slot N g H T s (g + 11) x = -1 := by
    rcases s3.2 with ⟨k, k1, k2, _⟩ | ⟨_, q⟩
    · exact absurd ⟨k, k1, k2⟩ hx
    · exact q
  have tk : wp (p_X9_take N g H T s (g + 11) x) (k_X9_take N g H T s (g + 11) x) (fun z => z = (none, s)) := by
    show wp (KO_X9_take_0 N g H T (g + 11) x s) (KF_X9_take_0 N g H T (g + 11) x s) _
    unfold KO_X9_take_0 KF_X9_take_0
    rw [e3]
    exact wp_and s3.1 (wp_neg (by decide) (wp_fin trivial rfl))
  show wp (KO_X10_land_0 N g H T (g + 8) x s) (KF_X10_land_0 N g H T (g + 8) x s) _
  unfold KO_X10_land_0 KF_X10_land_0
  refine wp_and s1.1 (wp_and s2.1 (wp_call tk (fun q => ?_)))
  rw [q]
  unfold KO_X10_land_26 KF_X10_land_26
  exact wp_pos rfl (wp_fin trivial rfl)
/-- behind all of it -/
theorem land_100 (h : CR F g H T s ct [a] W pe) (ea : ct a = m) (b5 : bF g H s) : wp (KO_X10_land_100 N g H T (g + 8) (some a) s) (KF_X10_land_100 N g H T (g + 8) (some a) s) (fun z => (∃ ct', CR F g H T z.2 ct' [] W pe ∧ bF g H z.2) ∧ z.1 = nI (bg m 0)) := by
  have ms := h.ms us_self
  rw [ea] at ms
  obtain ⟨v1, v2⟩ := at_ok (N := N) (g := g) (H := H) (T := T) (i := 0) ms (by omega)
  have dr := drop_C (N := N) h (by decide)
  have st := k5c_X9_drop (u := 0) h.2.1 oS7 (fun b e => by cases e; exact ms.1) dr.1
  unfold KO_X10_land_100 KF_X10_land_100 KO_X10_land_117 KF_X10_land_117
  rw [zsome, v2]
  exact wp_and ⟨someN, v1⟩ (wp_fin ⟨dr.1, trivial⟩ ⟨⟨ct, dr.2.1, b5.M st.2⟩, rfl⟩)
theorem land_C (hN : 12000 ≤ N) (h : clW F g H T s w) (iv : IV F H T w) (hk : k < (wK w).1.length) : wp (p_X10_land N g H T s (g + 8) (nI k)) (k_X10_land N g H T s (g + 8) (nI k)) (fun z => clW F g H T z.2 (aLand w H T F k) ∧ z.1 = nI (bg (fg (wK w).1 k).2.2.2 0) ∧ isB (fg (wK w).1 k).2.2.2) := by
  obtain ⟨ct, cr, b5⟩ := h
  have cb := cr.1.bb
  obtain ⟨aj, wa, re⟩ := iv
  obtain ⟨G, g1⟩ := wa.1.1
  obtain ⟨⟨ld, tt, q1, q2, q3⟩, q4, q5, q6⟩ := cr.2.2.2.2.2.2.1
  have s1 := senderOf_c (N := N) (g := g) (H := H) (T := T) (x := nI k) q1
  have s2 := receiverOf_c (N := N) (g := g) (H := H) (T := T) (x := nI k) q1
  have lt := q1.2.1
  have e1 : k_X9_senderOf N g H T s (g + 11) (nI k) = nI (fg (wK w).1 k).1 := by
    rcases s1.2 with ⟨k', k1, k2, k3⟩ | ⟨k1, _⟩
    · rw [n_eq' (by omega) (by omega)] at k2
      rw [k3, k2]
    · exact absurd ⟨k, hk, rfl⟩ k1
  have e2 : k_X9_receiverOf N g H T s (g + 11) (nI k) = nI (fg (wK w).1 k).2.1 := by
    rcases s2.2 with ⟨k', k1, k2, k3⟩ | ⟨k1, _⟩
    · rw [n_eq' (by omega) (by omega)] at k2
      rw [k3, k2]
    · exact absurd ⟨k, hk, rfl⟩ k1
  have sx := aj.1.2.1 (fg (wK w).1 k) (fg_in hk)
  have gx : ∀ t tk, skX H T G ((fg (wK w).1 k).1, t, tk, (fg (wK w).1 k).2.2.2) := fun t tk => g1.2.2 (fg (wK w).1 k) (fg_in hk)
  have g0 := g1.land k
  have tk := take_C (N := N) (by omega) cr hk
  have t5 := k5c_X9_take (u := 0) cr.2.1 oS7 tk.1
  have eL : aLand w H T F k = if (fg (wK w).1 k).2.1 < H ∧ wN w (fg (wK w).1 k).2.1 0 = 1 then aCome (sK w (skE (wK w) k)) (fg (wK w).1 k).2.1 T F (fg (wK w).1 k).1 (fg (wK w).1 k).2.2.2 else sK w (skE (wK w) k) := rfl
  rw [eL]
  have r0 : ∀ n, n < H → rest (sK w (skE (wK w) k)) n T F := rest_eq re rfl rfl
  have eN : wN (sK w (skE (wK w) k)) = wN w := rfl
  have p0 : ∀ n, n < H → pz (sK w (skE (wK w) k)) n := wa.2.1
  show wp (KO_X10_land_0 N g H T (g + 8) (nI k) s) (KF_X10_land_0 N g H T (g + 8) (nI k) s) _
  unfold KO_X10_land_0 KF_X10_land_0
  rw [e1, e2]
  refine wp_and s1.1 (wp_and s2.1 (wp_call tk (fun q => ?_)))
  obtain ⟨a, a1, a2, a3⟩ := q
  generalize k_X9_take N g H T s (g + 11) (nI k) = Z at a1 a3 t5 ⊢
  obtain ⟨z1, S1⟩ := Z
  have a1 : z1 = some a := a1
  subst a1
  have a3 : CR F g H T S1 ct [a] (sK w (skE (wK w) k)) (fun _ => -1) := a3
  have b5 : bF g H S1 := b5.M t5.2.1
  clear t5 tk s1 s2 e1 e2 eL q1 q2 q3 q4 q5 q6
  rw [← eN]
  generalize sK w (skE (wK w) k) = V at *
  generalize (fg (wK w).1 k).1 = b at *
  generalize (fg (wK w).1 k).2.1 = n at *
  generalize (fg (wK w).1 k).2.2.2 = m at *
  have hB : isB m := by
    rw [← a2]
    exact (a3.ms us_self).2.2.1.2.2.2
  have gk : ∀ n, n < H → giK (wN V n) := fun n hn => by
    rw [eN]
    exact wa.1.2 n hn
  -- what is left
  have fin : ∀ (s' : cS) (ct' : Nat → List Nat) (W : Wd), CR F g H T s' ct' [a] W (fun _ => -1) → ct' a = m → bF g H s' → W = (if n < H ∧ wN V n 0 = 1 then aCome V n T F b m else V) → wp (KO_X10_land_100 N g H T (g + 8) (some a) s') (KF_X10_land_100 N g H T (g + 8) (some a) s') (fun z => clW F g H T z.2 (if n < H ∧ wN V n 0 = 1 then aCome V n T F b m else V) ∧ z.1 = nI (bg m 0) ∧ isB m) := fun s' ct' W c1 c2 c3 c4 => by
    rw [← c4]
    exact wp_mono (land_100 c1 c2 c3) (fun q => ⟨q.1, q.2, hB⟩)
  have eH : cI S1 2 (g + 8) = nI H := a3.2.2.2.2.2.1.2.2.1
  show wp (KO_X10_land_26 N g H T (g + 8) (nI b) (nI n) (some a) S1) (KF_X10_land_26 N g H T (g + 8) (nI b) (nI n) (some a) S1) _
  unfold KO_X10_land_26 KF_X10_land_26
  rw [eH]
  refine wp_neg someN (wp_neg (n_lt0 (by omega)) ?_)
  by_cases nH : n < H
  rotate_left
  · refine wp_pos (by rw [n_le' (by omega) (by omega)]; omega) ?_
    unfold KO_X10_land_56 KF_X10_land_56 KO_X10_land_57 KF_X10_land_57
    exact wp_pos rfl (fin S1 ct V a3 a2 b5 (by rw [if_neg (fun q => nH q.1)]))
  have eP : cP S1 (g + 30) n = some (nd g n) := by
    rw [a3.2.1.2.2.2.2.2.1 n, if_pos nH]
  have ga := (g0.2.1 n nH).a.1
  have e8 : cI S1 8 (nd g n) = nI (wN V n 0).toNat := by
    rw [(a3.node nH).1.2.1, ← iI_n, Int.toNat_of_nonneg ga.1]
  rw [n_clamp (by omega), eP]
  refine wp_neg (by rw [n_le' (by omega) (by omega)]; omega) (wp_and ((n_in (by omega)).2 (by omega)) ?_)
  unfold KO_X10_land_57 KF_X10_land_57
  rw [zsome, e8]
  refine wp_neg someN ?_
  by_cases hu : wN V n 0 = 1
  rotate_left
  · exact wp_pos (by rw [n_eq0 (by omega)]; omega) (fin S1 ct V a3 a2 b5 (by rw [if_neg (fun q => hu q.2)]))
  refine wp_neg (by rw [n_eq0 (by omega)]; omega) (wp_call (look_C (N := N) (by omega) a3 us_self) (fun q => ?_))
  generalize k_X1_look N g H T S1 (g + 9) (some a) = Z at q ⊢
  obtain ⟨z1, S2⟩ := Z
  obtain ⟨l1, l2, l3⟩ := q
  have l1 : CR F g H T S2 ct [a] V (fun _ => -1) := l1
  have b5 : bF g H S2 := b5.M l2
  rw [a2] at l3
  unfold KO_X10_land_81 KF_X10_land_81
  rcases l3 with ⟨l3, l4, l5⟩ | ⟨l3, l4⟩
  rotate_left
  · refine wp_pos (by rw [show z1 = nI 0 from l4]; rfl) (fin S2 ct V l1 a2 b5 ?_)
    rw [if_pos ⟨nH, hu⟩]
    unfold aCome
    rw [cif_neg l3]
  have eC : (if n < H ∧ wN V n 0 = 1 then aCome V n T F b m else V) = aRules (aGot V n T b m) n T F := by
    rw [if_pos ⟨nH, hu⟩]
    unfold aCome
    rw [cif_pos l3]
  have rc := receive_C (N := N) (b := b) (by omega) l1 nH (by show 1 ≤ 24; decide) hu (g0.2.1 n nH) sx.1 (List.mem_singleton.2 rfl) a2 l5 l3
  have r5 := k5c_X3_receive (u := 0) l1.2.1 (tN1 nH) (fun b e => by cases e; exact (l1.ms us_self).1) rc.1
  refine wp_neg (by show ¬ z1 = 0; rw [show z1 = nI 1 from l4]; decide) (wp_call rc (fun q => ?_))
  show wp (KO_X10_land_92 N g H T (g + 8) (some a) (some (nd g n)) (k_X3_receive N g H T S2 (some (nd g n)) (nI b) (some a)).1 (k_X3_receive N g H T S2 (some (nd g n)) (nI b) (some a)).2) (KF_X10_land_92 N g H T (g + 8) (some a) (some (nd g n)) (k_X3_receive N g H T S2 (some (nd g n)) (nI b) (some a)).1 (k_X3_receive N g H T S2 (some (nd g n)) (nI b) (some a)).2) _
  generalize k_X3_receive N g H T S2 (some (nd g n)) (nI b) (some a) = Z at q r5 ⊢
  obtain ⟨z2, S3⟩ := Z
  obtain ⟨ct2, c1, c2, c3⟩ := q
  have c2 : CR F g H T S3 ct2 [a] (aGot V n T b m) (fun _ => -1) := c2
  have b5 : bF g H S3 := b5.M r5.2
  have ea : ct2 a = m := by rw [c1 a (List.mem_singleton.2 rfl), a2]
  show wp (KO_X10_land_92 N g H T (g + 8) (some a) (some (nd g n)) z2 S3) (KF_X10_land_92 N g H T (g + 8) (some a) (some (nd g n)) z2 S3) _
  unfold KO_X10_land_92 KF_X10_land_92
  rcases c3 with c3 | ⟨c3, c4⟩
  · obtain ⟨⟨G', g'⟩, k'⟩ := GK.got g0 gk nH sx.1 gx l3 hB
    have se := settle_C (N := N) hN c2 nH (by show 1 ≤ 25; decide) g' (k' n nH) rfl (pzK_ok nH) (pxf.got sx.1 (p0 n nH))
    refine wp_neg (by rw [show z2 = nI 1 from c3]; decide) (wp_call se (fun q => ?_))
    obtain ⟨⟨ct3, d1, d2⟩, d3, d4⟩ := q
    exact fin _ ct3 _ d2 (by rw [d1 a (List.mem_singleton.2 rfl), ea]) (b5.six d3 d4) eC.symm
  · refine wp_pos (by rw [show z2 = nI 0 from c3]; rfl) (fin S3 ct2 _ c2 ea b5 ?_)
    rw [eC, ((r0 n nH).q c4.r).rules]
end
end

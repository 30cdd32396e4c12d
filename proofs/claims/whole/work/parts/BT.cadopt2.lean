section
/-! THE CLASS'S NODE ADOPTS A BLOCK: all of it -/
section
variable {F N g H T n : Nat} {s s1 s' : cS} {ct : Nat → List Nat} {hd : List Nat} {w w' W : Wd} {pe pe' : Nat → Int} {v v' v0 : Nat → Int} {y y' z z' : Nat → Nat → Option (List Nat)} {p : List (List Nat)} {x : Nat → Nat → Nat} {pn : Int} {a : Nat} {G : Gh}
theorem pool_eq {at_ : Nat} {m c : List Nat} (hc : c = m.drop at_) (hat : at_ ≤ m.length) (hw : blkWf T c) : flL (fun q => ∃ i, i < bg c 99 ∧ q = sl m (m.length - 7 * (i + 1)) 7) p = kpL p c p.length := by
  rw [kpL_all]
  have l : c.length = pyP c (bg c 99) := hw.2.2.2.2.2.2.2.1
  have lm : m.length = at_ + c.length := by
    rw [hc, List.length_drop]
    omega
  have key : ∀ i, i < bg c 99 → sl m (m.length - 7 * (i + 1)) 7 = sl c (pyP c (bg c 99 - 1 - i)) 7 := fun i hi => by
    have e : m.length - 7 * (i + 1) = at_ + pyP c (bg c 99 - 1 - i) := by
      rw [lm, l]
      unfold pyP
      omega
    rw [e, ← sl_drop, ← hc]
  refine flL_cg p (fun q _ => ⟨?_, ?_⟩)
  · rintro ⟨i, i1, i2⟩
    exact ⟨bg c 99 - 1 - i, by omega, by rw [i2, key i i1]⟩
  · rintro ⟨j, j1, j2⟩
    refine ⟨bg c 99 - 1 - j, by omega, ?_⟩
    rw [key _ (by omega), show bg c 99 - 1 - (bg c 99 - 1 - j) = j by omega]
    exact j2.symm
/-- behind the note -/
theorem adopt_in {at_ e0 i0 h0 : Nat} {m c : List Nat} (hN : 200 ≤ N) (h : CR F g H T s1 ct hd W pe) (hn : n < H) (hl : hd.length ≤ 25) (W0 : wN W n 0 = 1) (W1 : wN W n 1 = h0) (hh : 1 ≤ h0 ∧ h0 ≤ 40) (ok : bkOK (bkN (wN W) n)) (ho : plO7 (wP W n)) (hnd : nDp (wP W n)) (he : e0 < 5) (hi : i0 < plN T e0) (hpl : cP s1 (nd g n + plO e0) i0 = some a) (hca : ct a = m) (h4 : cI s1 4 a = nI 1) (hat : (at_ = 1 ∧ bg m 0 = 4) ∨ (at_ = 6 ∧ bg m 0 = 1)) (hc : c = m.drop at_) (hw : blkWf T c) : wp (KO_X7_adopt_20 N g H T (some (nd g n)) (some a) (nI at_) (nI 1) s1) (KF_X7_adopt_20 N g H T (some (nd g n)) (some a) (nI at_) (nI 1) s1) (fun s' => riC F g H T ct hd pe n (h0 + 1) (aLift (aFrom W n c) n (h0 + 1) (idB c) (bPl (bkN (wN W) n) c).1) s' ∧ m6 g H n s1 s') := by
  have cb := h.1.bb
  have ua1 := us_pl (hd := hd) hn (by omega) hi s1 hpl
  have ms := h.ms ua1
  have mf := (h.2.2.2.1.m ua1).2
  rw [hca] at ms mf
  have lw := hw.len
  have hB : isB c := by rw [hc]; exact isB_drop ms.2.2.1.2.2.2 _
  have lm : m.length = at_ + c.length := by
    have := congrArg List.length hc
    rw [List.length_drop] at this
    omega
  have ei : idM m = some (idB c) := by
    unfold idM
    rcases hat with ⟨q1, q2⟩ | ⟨q1, q2⟩
    · rw [if_neg (by omega), if_pos q2, hc, q1]
    · rw [if_pos q2, hc, q1]
  have nm : nmC s1 a (some (idB c)) := by
    rw [← ei]
    rcases mf with ⟨q, _⟩ | ⟨_, _, q⟩ | ⟨q, _⟩
    · rw [h4] at q
      exact absurd q (by decide)
    · exact q
    · rw [h4] at q
      exact absurd q (by decide)
  have nm : cI s1 5 a = nI 1 ∧ ∀ k, k < 32 → lby (cJ s1 (a + 1)) k = nI (bg (idB c) k) := nm
  have st := h.2.1
  have aH := h.2.2.2.1.n ms.1
  have nH : nd g n + 24 ≤ nd g H := by unfold nd; omega
  obtain ⟨q1, -, -⟩ := (h.node hn).2.2.2.2.2.1
  have bk : bkC s1 (nd g n + 6) (bkN (wN W) n) := bkC_cg q1 vB_N
  have k20 : tK s1 20 (some (a + 2)) := tK_some (st.2.2.1 a ms.1).2.2.2.1
  have pl := play_c (N := N) (g := g) (H := H) (T := T) (b := c) (o := nd g n + 6) (by omega) cb.2.1 hc (by omega) hw ms.2.2.1 ms.2.2.2.1 ⟨by omega, by omega, by omega⟩ bk ok
  have st2 := (kpc_X0_play st (o54 (isO5 hn)) k20 pl.1).1
  unfold KO_X7_adopt_20 KF_X7_adopt_20
  rw [zsome, zsome, ms.2.1]
  refine wp_neg (show ¬ nI 1 = 0 by decide) (wp_and someN (wp_and someN (wp_call pl (fun q => ?_))))
  obtain ⟨f2, s5, b2, -⟩ := q
  generalize k_X0_play N g H T s1 (nd g n + 6) (some (a + 2)) (nI at_) (nI m.length) = Z at st2 f2 s5 b2 ⊢
  obtain ⟨Z1, s2⟩ := Z
  have st2 : St 0 g H T s2 := st2
  have f2 : cfr (fun x => x = nd g n + 6 ∨ x = nd g n + 6 + 1 ∨ x = nd g n + 6 + 2) s1 s2 := f2
  have s5 : cI s2 5 (nd g n + 6) = nI 1 := s5
  have b2 : bkC s2 (nd g n + 6) (bPl (bkN (wN W) n) c).1 := b2
  show wp (KO_X7_adopt_44 N g H T (some (nd g n)) (some a) (nI at_) Z1 s2) (KF_X7_adopt_44 N g H T (some (nd g n)) (some a) (nI at_) Z1 s2) _
  unfold KO_X7_adopt_44 KF_X7_adopt_44
  rw [zsome, zsome]
  have L11 : cL s2 (nd g n + 11) = 32 := st2.rl (c := 5) (k := 5) (isO5 hn) rfl (by omega) (by omega)
  have wi := wrId_ok (N := N) (g := g) (H := H) (T := T) (s := s2) (a := a) (r := nd g n + 11) (at_ := 0) (d := idB c) (by omega) (fun k hk => by rw [f2.2.2.2.2.2.2.1]; exact nm.2 k hk) (idB_B _) (by omega) (by omega)
  have k5 : cK s2 a = 5 := by rw [f2.1]; exact ms.1
  have k2011 : cK s2 (nd g n + 11) = 20 := (st2.rk (c := 5) (k := 5) (isO5 hn) rfl (by omega)) _ rfl
  have st3 := (kpc_X5_writeId st2 k5 (tK_some k2011) wi.1).1
  refine wp_and someN (wp_call (o := _ ∧ _) ⟨⟨someN, wi.1⟩, wi.2⟩ (fun q => ?_))
  obtain ⟨f, fe, ff⟩ := q
  rw [fe] at st3 ⊢
  have f3 : cfr (fun b => b = nd g n + 11) s2 (csArow s2 (nd g n + 11) f) := cfr_A _ _ _
  have r3 : ∀ i, i < 32 → cA (csArow s2 (nd g n + 11) f) (nd g n + 11) i = sb (bg (idB c) i) := fun i hi' => by
    rw [cA_same, ff i, if_pos ⟨by omega, by omega⟩]
    rfl
  have s53 : cI (csArow s2 (nd g n + 11) f) 5 (nd g n + 6) = nI 1 := s5
  have b3 : bkC (csArow s2 (nd g n + 11) f) (nd g n + 6) (bPl (bkN (wN W) n) c).1 := by
    unfold bkC
    rw [f3.A (nd g n + 6 + 1) (by omega), f3.A (nd g n + 6 + 2) (by omega), f3.I 2 (nd g n + 6) (by omega)]
    exact b2
  generalize csArow s2 (nd g n + 11) f = s3 at st3 f3 r3 s53 b3 ⊢
  have f13 : cfr (fun b => b = nd g n + 6 ∨ b = nd g n + 6 + 1 ∨ b = nd g n + 6 + 2 ∨ b = nd g n + 11) s1 s3 := (f2.mono (fun b hb => by omega)).trans (f3.mono (fun b hb => by omega))
  have x3 : m6 g H n s1 s3 := f13.six (fun m _ c => by unfold nd; omega)
  obtain ⟨z, cz, oz⟩ := h.z_ hn
  have oz0 := oz.1 W0
  have okp := bPl_ok ok hw hB cb.2.1
  have a3 := cz.bd (k := (bPl (bkN (wN W) n) c).1) (d := idB c) hn f13 st3 s53 b3 (okp.le (a := 0) (by decide)).1 (idB_len _) (idB_B _) r3
  have pl3 : cP s3 (nd g n + plO e0) i0 = some a := by rw [f13.2.2.2.2.2.1]; exact hpl
  have ms3 := a3.ms (us_pl (hd := hd) hn (by omega) hi s3 pl3)
  rw [hca] at ms3
  obtain ⟨t1, t2⟩ := at_ok (N := N) (g := g) (H := H) (T := T) (i := at_ + 99) ms3 (by omega)
  have t3 : bg m (at_ + 99) = bg c 99 := by rw [hc, bg_drop]
  rw [t3] at t2
  unfold KO_X7_adopt_54 KF_X7_adopt_54
  rw [zsome, n_add, t2]
  have J64 : bg c 99 ≤ 64 := hw.2.2.2.1
  have lP : c.length = pyP c (bg c 99) := hw.2.2.2.2.2.2.2.1
  have pl0 : 101 + 7 * bg c 99 ≤ pyP c (bg c 99) := by
    have := (evP_le c (bg c 100)).1
    unfold pyP
    omega
  refine wp_and ⟨someN, t1⟩ (wp_seq (adopt_66 (at_ := at_) (m := m) hN a3 hn (by omega) hi pl3 hca ho hnd J64 (by omega)) (fun Z hZ => ?_))
  obtain ⟨z1, a4, p4, i4⟩ := hZ
  rw [pool_eq hc (by omega) hw] at a4
  unfold KOA_X7_adopt_66 KA_X7_adopt_66 KO_X7_adopt_102 KF_X7_adopt_102
  rw [z1]
  generalize Z.2.2 = s4 at a4 p4 i4 ⊢
  have a4 : CRz F g H T s4 ct hd (aFrom W n c) pe n (mkV (wN (aFrom W n c) n) (bPl (bkN (wN W) n) c).1) (idY (wY (aFrom W n c) n) (idB c)) (wP (aFrom W n c) n) (wX (aFrom W n c) n) (pe n) z := by
    have q := a4.cw (w' := aFrom W n c) (fun m hm => ⟨rfl, rfl, if_neg hm, rfl⟩) rfl rfl rfl
    have eP : wP (aFrom W n c) n = kpL (wP W n) c (wP W n).length := if_pos rfl
    rw [eP]
    exact q
  have e9 : cI s4 9 (nd g n) = nI h0 := by
    rw [a4.nz.1.2.2.1, mkV_o (by decide)]
    show iI (wN W n 1) = _
    rw [W1, iI_n]
  rw [zsome, e9, n_add]
  have fg := forget_Z (N := N) (f := h0) (t := h0 + 1) (by omega) a4 hn (by omega) (by omega) (by omega) (by omega)
  have x4 := (k5c_X6_forgetAnswers a4.2.1 (isO5 hn) fg.1).2
  have m5 := x4.2 n hn
  refine wp_and someN (wp_call fg (fun q => ?_))
  obtain ⟨a5, no, -⟩ := q
  generalize k_X6_forgetAnswers N g H T s4 (nd g n) (nI h0) (nI (h0 + 1)) = s5' at a5 no m5 x4 ⊢
  have e95 : cI s5' 9 (nd g n) = nI h0 := by
    rw [a5.nz.1.2.2.1, mkV_o (by decide)]
    show iI (wN W n 1) = _
    rw [W1, iI_n]
  unfold KO_X7_adopt_116 KF_X7_adopt_116
  rw [zsome, e95, n_add]
  have b45 := a5.b45 hn
  have en := enter_C (N := N) (x2 := h0 + 1) (h0 := h0) (by omega) a5 hn (by omega) oz0 W0 W1 hh ⟨by omega, by omega⟩ (by rw [m5, i4 n]; exact s53) (fun j b hj hb => by
    refine ⟨rfl, fun e => ?_⟩
    rw [no j hj ⟨h0, by omega, by omega, e⟩] at hb
    cases hb) b45.1 b45.2
  have x34 : m6 g H n s3 s4 := fun m _ _ => i4 m
  exact wp_and someN (wp_fin ⟨en.1, trivial⟩ ⟨en.2, ((x3.trans x34).trans x4.six).trans (k5c_X6_enter a5.2.1 (isO5 hn) en.1).2.six⟩)
theorem adopt_C {at_ e0 i0 : Nat} {m c : List Nat} (hN : 200 ≤ N) (h : CR F g H T s ct hd w pe) (hn : n < H) (hl : hd.length ≤ 25) (k : GN F H T G w n) (u : uO T w n) (h40 : wN w n 1 ≤ 40) (hp : pe n = -1) (he : e0 < 5) (hi : i0 < plN T e0) (hpl : cP s (nd g n + plO e0) i0 = some a) (hca : ct a = m) (h4 : ∀ S : cS, ∀ W, CR F g H T S ct hd W pe → cP S (nd g n + plO e0) i0 = some a → cI S 4 a = nI 1) (hat : (at_ = 1 ∧ bg m 0 = 4) ∨ (at_ = 6 ∧ bg m 0 = 1)) (hc : c = m.drop at_) (hw : blkWf T c) (hch : chO w n) (hnd : nDp (wP w n)) : wp (p_X7_adopt N g H T s (some (nd g n)) (some a) (nI at_)) (k_X7_adopt N g H T s (some (nd g n)) (some a) (nI at_)) (fun s' => (((aNote w n (chT w n c) (2 * (wN w n 1).toNat - 2)).1 = true ∧ riC F g H T ct hd pe n ((wN w n 1).toNat + 1) (aLift (aDec1 (aNote w n (chT w n c) (2 * (wN w n 1).toNat - 2)).2 n c) n ((wN w n 1).toNat + 1) (idB c) (bPl (bkN (wN (aDec1 (aNote w n (chT w n c) (2 * (wN w n 1).toNat - 2)).2 n c)) n) c).1) s') ∨ ((aNote w n (chT w n c) (2 * (wN w n 1).toNat - 2)).1 = false ∧ CR F g H T s' ct hd (aNote w n (chT w n c) (2 * (wN w n 1).toNat - 2)).2 pe)) ∧ m6 g H n s s') := by
  obtain ⟨u0, u1, u2, u15, u12, u17, ow⟩ := id u
  have ua := us_pl (hd := hd) hn (by omega) hi s hpl
  have ms := h.ms ua
  rw [hca] at ms
  have lw := hw.len
  have hB : isB c := by rw [hc]; exact isB_drop ms.2.2.1.2.2.2 _
  have hok : bOK c := ⟨lw.1, lw.2, hB⟩
  have nc := noteChain_C (N := N) (by omega) h hn ⟨u1.1, h40⟩ u12 ua hca (at_ := at_) (by omega) hc hok hch
  show wp (KO_X7_adopt_0 N g H T (some (nd g n)) (some a) (nI at_) s) (KF_X7_adopt_0 N g H T (some (nd g n)) (some a) (nI at_) s) _
  unfold KO_X7_adopt_0 KF_X7_adopt_0
  rw [zsome, zsome, ms.2.1, h.h1 hn (by omega)]
  have x1 := (k5c_X4_noteChain h.2.1 (o52 (isO5 hn)) (tK_some (h.2.1.2.2.1 a ms.1).2.2.2.1) nc.1).2
  refine wp_and someN (wp_and someN (wp_call nc ?_))
  rintro ⟨jt, jf⟩
  generalize k_X4_noteChain N g H T s (nd g n + 1) (nI (wN w n 1).toNat) (some (a + 2)) (nI at_) (nI m.length) = Z at jt jf x1 ⊢
  obtain ⟨Z1, s1⟩ := Z
  have x1 : m6 g H n s s1 := M5.six x1
  have jf : ffr g H hd s s1 := jf
  show wp (KO_X7_adopt_20 N g H T (some (nd g n)) (some a) (nI at_) Z1 s1) (KF_X7_adopt_20 N g H T (some (nd g n)) (some a) (nI at_) Z1 s1) _
  rcases jt with ⟨j1, j2, j3⟩ | ⟨j1, j2, j3, j4⟩
  rotate_left
  · have j2 : Z1 = nI 0 := j2
    have fl := nfall_C (N := N) (by omega) j3 hn (by omega) u hp
    unfold KO_X7_adopt_20 KF_X7_adopt_20
    rw [zsome, j2, j4]
    exact wp_pos (show nI 0 = 0 from rfl) (wp_fin ⟨⟨someN, fl.1⟩, trivial⟩ ⟨Or.inr ⟨j1, fl.2⟩, x1.trans (k5c_X6_fall j3.2.1 (isO5 hn) fl.1).2.six⟩)
  have j2 : Z1 = nI 1 := j2
  obtain ⟨a1, a2, a3, a4, a5, a6⟩ := aNote_w j1
  have pl1 : cP s1 (nd g n + plO e0) i0 = some a := by
    rw [jf.2.2.1 n e0 hn (by omega)]
    exact hpl
  have e1 : (wN (aNote w n (chT w n c) (2 * (wN w n 1).toNat - 2)).2 n 1).toNat = (wN w n 1).toNat := by rw [a2 1 (by omega)]
  have eD : aDec1 (aNote w n (chT w n c) (2 * (wN w n 1).toNat - 2)).2 n c = aFrom (sBy (aNote w n (chT w n c) (2 * (wN w n 1).toNat - 2)).2 n 7 (wN w n 1).toNat (some c)) n c := by
    unfold aDec1
    rw [e1]
  rw [j2, eD]
  have ok : bkOK (bkN (wN (sBy (aNote w n (chT w n c) (2 * (wN w n 1).toNat - 2)).2 n 7 (wN w n 1).toNat (some c))) n) := bkOK_congr k.b.1 (fun i hi' => by
    show wN w n (32 + i) = wN (aNote w n (chT w n c) (2 * (wN w n 1).toNat - 2)).2 n (32 + i)
    rw [a2 _ (by omega)])
  have q0 : wN (sBy (aNote w n (chT w n c) (2 * (wN w n 1).toNat - 2)).2 n 7 (wN w n 1).toNat (some c)) n 0 = 1 := by
    show wN (aNote w n (chT w n c) (2 * (wN w n 1).toNat - 2)).2 n 0 = 1
    rw [a2 0 (by omega)]
    exact u0
  have q1 : wN (sBy (aNote w n (chT w n c) (2 * (wN w n 1).toNat - 2)).2 n 7 (wN w n 1).toNat (some c)) n 1 = ((wN w n 1).toNat : Int) := by
    show wN (aNote w n (chT w n c) (2 * (wN w n 1).toNat - 2)).2 n 1 = _
    rw [a2 1 (by omega)]
    omega
  have qP' : wP (sBy (aNote w n (chT w n c) (2 * (wN w n 1).toNat - 2)).2 n 7 (wN w n 1).toNat (some c)) n = wP w n := by
    show wP (aNote w n (chT w n c) (2 * (wN w n 1).toNat - 2)).2 n = _
    rw [a5]
  refine wp_mono (adopt_in (at_ := at_) (e0 := e0) (i0 := i0) (m := m) hN j3 hn hl q0 q1 ⟨by omega, by omega⟩ ok (fun q hq => ?_) (by rw [qP']; exact hnd) he hi pl1 hca (h4 s1 _ j3 pl1) hat hc hw) (fun q => ⟨Or.inl ⟨j1, q.1⟩, x1.trans q.2⟩)
  rw [qP'] at hq
  obtain ⟨i, i1, i2⟩ := pg_ex hq
  have := k.p i i1
  rw [i2] at this
  exact ⟨this.1, this.2.1⟩
end
end

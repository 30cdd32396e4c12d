section
/-! THE CLASS'S NODE LOCKS -/
section
variable {F N g H T n : Nat} {s s' s1 : cS} {ct : Nat → List Nat} {hd : List Nat} {w w' : Wd} {pe : Nat → Int} {G : Gh} {z : Nat → Nat → Option (List Nat)}
theorem nfall_C {t : List Nat} {f : Nat} (hN : 100 ≤ N) (h : CR F g H T s ct hd (aWr w n t f) pe) (hn : n < H) (hl : hd.length ≤ 30) (u : uO T w n) (hp : pe n = -1) : wp (p_X6_fall N g H T s (nd g n)) (k_X6_fall N g H T s (nd g n)) (fun s' => CR F g H T s' ct hd (aFall (aWr w n t f) n) pe) := by
  obtain ⟨u0, u1, u2, u15, u12, u17, ow⟩ := u
  have k0 := aWr_k (w := w) (n := n) (t := t) (f := f) (k := 0) (by decide) (by decide) (by decide)
  have k1 := aWr_k (w := w) (n := n) (t := t) (f := f) (k := 1) (by decide) (by decide) (by decide)
  have k17 := aWr_k (w := w) (n := n) (t := t) (f := f) (k := 17) (by decide) (by decide) (by decide)
  have ow' := ow.cg (v' := wN (aWr w n t f) n) (y' := wY (aWr w n t f) n) k1 k17 rfl rfl rfl
  have q := fall_C (N := N) hN h hn hl (by rw [k0]; exact u0) (by rw [k1]; exact u1) ow'
  have e : (fun m => if m = n then -1 else pe m) = pe := funext fun m => by
    by_cases c : m = n
    · rw [if_pos c, c, hp]
    · rw [if_neg c]
  rw [e] at q
  exact q
/-- locked or valid was set -/
theorem CR.kf {k : Nat} {xo : Option Nat} {r : Int} (hu : wN w n 0 = 1) (hk : k = 14 ∨ k = 15) (q : kfP F g H T ct hd w pe n (wN w n) (wY w n) (wP w n) (wX w n) (pe n) z k xo r s s') (oz : owZ T n (wN w n) (wY w n) z) : CR F g H T s' ct hd (sN (sBy w n (k - 14) 0 (xo.map fun a => (ct a).drop 6)) n (k - 10) r) pe := by
  have eN : wN (sN (sBy w n (k - 14) 0 (xo.map fun a => (ct a).drop 6)) n (k - 10) r) n = knV (wN w n) k r := funext fun j => by
    show (if n = n ∧ j = k - 10 then r else w.1 n j) = if j = k - 10 then r else w.1 n j
    by_cases c : j = k - 10
    · rw [if_pos ⟨rfl, c⟩, if_pos c]
    · rw [if_neg (fun x => c x.2), if_neg c]
  have eY : wY (sN (sBy w n (k - 14) 0 (xo.map fun a => (ct a).drop 6)) n (k - 10) r) n = knY (wY w n) k (xo.map fun a => (ct a).drop 6) := funext fun f => funext fun i => by
    show (if n = n ∧ f = k - 14 ∧ i = 0 then _ else w.2.1 n f i) = if f = k - 14 ∧ i = 0 then _ else w.2.1 n f i
    by_cases c : f = k - 14 ∧ i = 0
    · rw [if_pos ⟨rfl, c⟩, if_pos c]
    · rw [if_neg (fun x => c x.2), if_neg c]
  have u0 : knV (wN w n) k r 0 = 1 := by
    show (if 0 = k - 10 then r else wN w n 0) = 1
    rw [if_neg (by omega)]
    exact hu
  refine q.1.cr (owZ_up oz hu u0 (fun f i hf => ?_)) (fun m hm => ⟨funext fun j => ?_, funext fun f => funext fun i => ?_, rfl, rfl⟩) rfl rfl rfl (fun _ _ => rfl) rfl eN eY rfl rfl
  · show (if f = k - 14 ∧ i = 0 then _ else wY w n f i) = wY w n f i
    exact if_neg (by omega)
  · show (if m = n ∧ j = k - 10 then r else w.1 m j) = w.1 m j
    exact if_neg (fun x => hm x.1)
  · show (if m = n ∧ f = k - 14 ∧ i = 0 then _ else w.2.1 m f i) = w.2.1 m f i
    exact if_neg (fun x => hm x.1)
theorem setLocked_C {a : Nat} {c : List Nat} {r : Int} (h : CR F g H T s ct hd w pe) (hn : n < H) (hl : hd.length ≤ 29) (hu : wN w n 0 = 1) (h1 : 1 ≤ us g H T s hd a) (h2 : cI s 4 a = nI 1) (h3 : bg (ct a) 0 = 1) (hc : (ct a).drop 6 = c) : wp (p_X6_setLocked N g H T s (nd g n) (some a) (iI r)) (k_X6_setLocked N g H T s (nd g n) (some a) (iI r)) (fun s' => CR F g H T s' ct hd (sN (sBy w n 0 0 (some c)) n 4 r) pe ∧ cP s' = cP s) := by
  obtain ⟨z, cz, oz⟩ := h.z_ hn
  refine wp_mono (setLocked_Z (N := N) (r := r) (xo := some a) cz hn hl (fun b e => by cases e; exact ⟨h1, h2, h3⟩)) (fun q => ⟨?_, q.2.1⟩)
  have := CR.kf hu (Or.inl rfl) q oz
  rw [← hc]
  exact this
theorem setValid_C {a : Nat} {c : List Nat} {r : Int} (h : CR F g H T s ct hd w pe) (hn : n < H) (hl : hd.length ≤ 29) (hu : wN w n 0 = 1) (h1 : 1 ≤ us g H T s hd a) (h2 : cI s 4 a = nI 1) (h3 : bg (ct a) 0 = 1) (hc : (ct a).drop 6 = c) : wp (p_X6_setValid N g H T s (nd g n) (some a) (iI r)) (k_X6_setValid N g H T s (nd g n) (some a) (iI r)) (fun s' => CR F g H T s' ct hd (sN (sBy w n 1 0 (some c)) n 5 r) pe ∧ cP s' = cP s) := by
  obtain ⟨z, cz, oz⟩ := h.z_ hn
  refine wp_mono (setValid_Z (N := N) (r := r) (xo := some a) cz hn hl (fun b e => by cases e; exact ⟨h1, h2, h3⟩)) (fun q => ⟨?_, q.2.1⟩)
  have := CR.kf hu (Or.inr rfl) q oz
  rw [← hc]
  exact this
/-- a held proposal by its address -/
theorem prp_ad {i a : Nat} {m : List Nat} (h : CR F g H T s ct hd w pe) (hn : n < H) (hu : wN w n 0 = 1) (hi : i < 32) (e : cP s (nd g n + 15) i = some a) (hm : wY w n 4 i = some m) (b0 : bg m 0 = 1) : ct a = m ∧ mS s a m ∧ 1 ≤ us g H T s hd a ∧ cI s 4 a = nI 1 ∧ nmC s a (some (idB (m.drop 6))) := by
  rcases prop_at h hn hu hi with ⟨q1, q2⟩ | ⟨a', m', p1, p2, p3, p4, p5, p6, p7, p8⟩
  · rw [e] at q1
    cases q1
  · rw [e] at p1
    rw [hm] at p2
    have p1 := Option.some.inj p1
    have p2 := Option.some.inj p2
    rw [← p1, ← p2] at p3 p4
    rw [← p1] at p5 p6
    rw [← p1, ← p2] at p8
    unfold idM at p8
    rw [if_pos b0] at p8
    exact ⟨p3, p4, p5, p6, p8⟩
theorem uO.cg (u : uO T w n) (h : ∀ k, k = 0 ∨ k = 1 ∨ k = 2 ∨ k = 17 → wN w' n k = wN w n k) (h15 : 0 ≤ wN w' n 15 ∧ wN w' n 15 ≤ 99) (h12 : 0 ≤ wN w' n 12 ∧ wN w' n 12 ≤ 1000) (h4 : wY w' n 4 = wY w n 4) (h5 : wY w' n 5 = wY w n 5) (h8 : wY w' n 8 = wY w n 8) : uO T w' n := by
  obtain ⟨u0, u1, u2, u15, u12, u17, ow⟩ := u
  exact ⟨by rw [h 0 (by omega)]; exact u0, by rw [h 1 (by omega)]; exact u1, by rw [h 2 (by omega)]; exact u2, h15, h12, by rw [h 17 (by omega)]; exact u17, ow.cg (h 1 (by omega)) (h 17 (by omega)) h4 h5 h8⟩
/-- a precommit for a held proposal -/
theorem lock_153 {i a : Nat} {m : List Nat} (hN : 100 ≤ N) (h : CR F g H T s ct hd w pe) (hn : n < H) (hl : hd.length ≤ 25) (u : uO T w n) (hp : pe n = -1) (hi : i < 32) (e : cP s (nd g n + 15) i = some a) (hm : wY w n 4 i = some m) (b0 : bg m 0 = 1) : wp (KO_X7_locks_153 N g H T (some (nd g n)) (some a) s) (KF_X7_locks_153 N g H T (some (nd g n)) (some a) s) (fun z => z.1 = nI 1 ∧ reC F g H T ct hd (aVote w n T 3 2 (some (idB (m.drop 6)))).2 pe z.2) := by
  obtain ⟨p3, p4, p5, p6, p8⟩ := prp_ad h hn u.1 hi e hm b0
  have ei : idM m = some (idB (m.drop 6)) := by
    unfold idM
    rw [if_pos b0]
  obtain ⟨y1, y2⟩ := say_C (N := N) (kd := 3) (st := 2) (xo := some a) (o := some (idB (m.drop 6))) hN h hn hl (Or.inr rfl) (by decide) u hp (Or.inr ⟨a, idB (m.drop 6), rfl, rfl, p5, p6, by rw [p3]; exact ei, idB_len _, idB_B _⟩)
  unfold KO_X7_locks_153 KF_X7_locks_153 KO_X7_locks_160 KF_X7_locks_160 KO_X7_locks_164 KF_X7_locks_164 KO_X7_locks_215 KF_X7_locks_215
  rw [zsome]
  exact wp_fin ⟨⟨someN, y1⟩, y2.1, trivial⟩ ⟨rfl, y2.2⟩
theorem sl_6 {m : List Nat} (k : Nat) : sl m k (m.length - k) = m.drop k := by
  refine by_ext (by rw [sl_len, List.length_drop]) (fun i hi => ?_)
  rw [sl_len] at hi
  rw [sl_in hi, bg_drop]
/-- a block is noted and locked, and precommitted -/
theorem lock_n4 {a i : Nat} {m : List Nat} {w1 : Wd} (hN : 100 ≤ N) (h' : CR F g H T s1 ct hd w1 pe) (hn : n < H) (hl : hd.length ≤ 25) (u' : uO T w1 n) (hp : pe n = -1) (hi : i < 32) (e' : cP s1 (nd g n + 15) i = some a) (hm : wY w1 n 4 i = some m) (b0 : bg m 0 = 1) (ml : m.length ≤ 900) (l6 : 6 ≤ m.length) (o15 : 0 ≤ wN w1 n 15 ∧ wN w1 n 15 ≤ 80) : wp (p_X4_jot N g H T s1 (nd g n + 1) (nI 4) (iI (wN w1 n 1)) (nI (wN w1 n 2).toNat) (some a) (nI 6) ∧ KO_X7_locks_126 N g H T (some (nd g n)) (some a) (k_X4_jot N g H T s1 (nd g n + 1) (nI 4) (iI (wN w1 n 1)) (nI (wN w1 n 2).toNat) (some a) (nI 6)).1 (k_X4_jot N g H T s1 (nd g n + 1) (nI 4) (iI (wN w1 n 1)) (nI (wN w1 n 2).toNat) (some a) (nI 6)).2) (KF_X7_locks_126 N g H T (some (nd g n)) (some a) (k_X4_jot N g H T s1 (nd g n + 1) (nI 4) (iI (wN w1 n 1)) (nI (wN w1 n 2).toNat) (some a) (nI 6)).1 (k_X4_jot N g H T s1 (nd g n + 1) (nI 4) (iI (wN w1 n 1)) (nI (wN w1 n 2).toNat) (some a) (nI 6)).2) (fun z => z.1 = nI 1 ∧ reC F g H T ct hd (aR5l w1 n T (m.drop 6)).2 pe z.2) := by
  obtain ⟨o0, o1, o2, -, oc, -, -⟩ := id u'
  obtain ⟨p3, p4, p5, p6, p8⟩ := prp_ad h' hn u'.1 hi e' hm b0
  have xs : m.drop 6 = sl (ct a) 6 ((ct a).length - 6) := by rw [p3, sl_6]
  have dl : (m.drop 6).length ≤ 900 := by
    rw [List.length_drop]
    omega
  refine wp_call (jot_C (N := N) (kd := 4) (b1 := (wN w1 n 2).toNat) (fr := 6) (mo := some a) (x := m.drop 6) hN h' hn (by decide) o1 (by omega) (by omega) oc (Or.inr ⟨a, rfl, p5, by rw [p3]; exact l6, xs⟩) dl) ?_
  rintro ⟨jt, jf⟩
  generalize k_X4_jot N g H T s1 (nd g n + 1) (nI 4) (iI (wN w1 n 1)) (nI (wN w1 n 2).toNat) (some a) (nI 6) = Z at jt jf ⊢
  obtain ⟨Z1, s2⟩ := Z
  have jf : ffr g H hd s1 s2 := jf
  show wp (KO_X7_locks_126 N g H T (some (nd g n)) (some a) Z1 s2) (KF_X7_locks_126 N g H T (some (nd g n)) (some a) Z1 s2) _
  unfold KO_X7_locks_126 KF_X7_locks_126 KO_X7_locks_133 KF_X7_locks_133
  rw [zsome]
  rcases jt with ⟨j1, j2, j3⟩ | ⟨j1, j2, j3, j4⟩
  · have eW : (aR5l w1 n T (m.drop 6)).2 = (aVote (aLk (aOwn w1 n (ownT w1 n 4 ((wN w1 n 2).toNat :: m.drop 6))).2 n (wN w1 n 2) (m.drop 6)) n T 3 2 (some (idB (m.drop 6)))).2 := by
      unfold aR5l
      rw [if_pos j1]
    have j2 : Z1 = nI 1 := j2
    have j3 : CR F g H T s2 ct hd (aOwn w1 n (ownT w1 n 4 ((wN w1 n 2).toNat :: m.drop 6))).2 pe := j3
    rw [j2, eW]
    clear eW
    obtain ⟨a1, a2, a3, a4, a5, a6, a7, a8⟩ := aOwn_w j1
    generalize (aOwn w1 n (ownT w1 n 4 ((wN w1 n 2).toNat :: m.drop 6))).2 = w2 at j3 a1 a2 a3 a4 a5 a6 a7 a8 ⊢
    have hm2 : wY w2 n 4 i = some m := by rw [a5]; exact hm
    have u2 : uO T w2 n := u'.cg (fun k hk => a2 k (by omega)) (by omega) (a4 oc) (by rw [a5]) (by rw [a5]) (by rw [a5])
    have e2 : cP s2 (nd g n + 15) i = some a := by
      rw [show cP s2 (nd g n + 15) = cP s1 (nd g n + 15) from jf.2.2.1 n 0 hn (by decide)]
      exact e'
    have e102 : cI s2 10 (nd g n) = iI (wN w1 n 2) := by
      rw [(j3.node hn).1.2.2.2.1, a2 2 (by omega)]
    obtain ⟨t3, t4, t5, t6, t8⟩ := prp_ad j3 hn u2.1 hi e2 hm2 b0
    rw [e102]
    refine wp_neg (show ¬ nI 1 = 0 by decide) (wp_and someN (wp_call (setLocked_C (N := N) (r := wN w1 n 2) (c := m.drop 6) j3 hn (by omega) u2.1 t5 t6 (by rw [t3]; exact b0) (by rw [t3])) ?_))
    rintro ⟨q1, q2⟩
    generalize k_X6_setLocked N g H T s2 (nd g n) (some a) (iI (wN w1 n 2)) = s3 at q1 q2 ⊢
    unfold KO_X7_locks_144 KF_X7_locks_144
    have b2 : ∀ k, k ≠ 4 → wN (sN (sBy w2 n 0 0 (some (m.drop 6))) n 4 (wN w1 n 2)) n k = wN w2 n k := fun k hk => N_o _ _ _ _ (Or.inr hk)
    have bY : ∀ f, f ≠ 0 → wY (sN (sBy w2 n 0 0 (some (m.drop 6))) n 4 (wN w1 n 2)) n f = wY w2 n f := fun f hf => funext fun j => by
      show (if n = n ∧ f = 0 ∧ j = 0 then _ else w2.2.1 n f j) = w2.2.1 n f j
      exact if_neg (fun x => hf x.2.1)
    have u3 : uO T (sN (sBy w2 n 0 0 (some (m.drop 6))) n 4 (wN w1 n 2)) n := u2.cg (fun k hk => b2 k (by omega)) (by rw [b2 15 (by decide)]; exact u2.2.2.2.1) (by rw [b2 12 (by decide)]; exact u2.2.2.2.2.1) (bY 4 (by decide)) (bY 5 (by decide)) (bY 8 (by decide))
    have hm3 : wY (sN (sBy w2 n 0 0 (some (m.drop 6))) n 4 (wN w1 n 2)) n 4 i = some m := by rw [bY 4 (by decide)]; exact hm2
    have e3 : cP s3 (nd g n + 15) i = some a := by rw [q2]; exact e2
    have e103 : cI s3 10 (nd g n) = iI (wN w1 n 2) := by
      rw [(q1.node hn).1.2.2.2.1, b2 2 (by decide), a2 2 (by omega)]
    have eW : aLk w2 n (wN w1 n 2) (m.drop 6) = sN (sBy (sN (sBy w2 n 0 0 (some (m.drop 6))) n 4 (wN w1 n 2)) n 1 0 (some (m.drop 6))) n 5 (wN w1 n 2) := rfl
    rw [eW]
    clear eW b2 bY
    generalize sN (sBy w2 n 0 0 (some (m.drop 6))) n 4 (wN w1 n 2) = w3 at q1 u3 hm3 ⊢
    obtain ⟨t3, t4, t5, t6, t8⟩ := prp_ad q1 hn u3.1 hi e3 hm3 b0
    rw [zsome, e103]
    refine wp_and someN (wp_call (setValid_C (N := N) (r := wN w1 n 2) (c := m.drop 6) q1 hn (by omega) u3.1 t5 t6 (by rw [t3]; exact b0) (by rw [t3])) ?_)
    rintro ⟨q3, q4⟩
    generalize k_X6_setValid N g H T s3 (nd g n) (some a) (iI (wN w1 n 2)) = s4 at q3 q4 ⊢
    have b2 : ∀ k, k ≠ 5 → wN (sN (sBy w3 n 1 0 (some (m.drop 6))) n 5 (wN w1 n 2)) n k = wN w3 n k := fun k hk => N_o _ _ _ _ (Or.inr hk)
    have bY : ∀ f, f ≠ 1 → wY (sN (sBy w3 n 1 0 (some (m.drop 6))) n 5 (wN w1 n 2)) n f = wY w3 n f := fun f hf => funext fun j => by
      show (if n = n ∧ f = 1 ∧ j = 0 then _ else w3.2.1 n f j) = w3.2.1 n f j
      exact if_neg (fun x => hf x.2.1)
    have u4 : uO T (sN (sBy w3 n 1 0 (some (m.drop 6))) n 5 (wN w1 n 2)) n := u3.cg (fun k hk => b2 k (by omega)) (by rw [b2 15 (by decide)]; exact u3.2.2.2.1) (by rw [b2 12 (by decide)]; exact u3.2.2.2.2.1) (bY 4 (by decide)) (bY 5 (by decide)) (bY 8 (by decide))
    have hm4 : wY (sN (sBy w3 n 1 0 (some (m.drop 6))) n 5 (wN w1 n 2)) n 4 i = some m := by rw [bY 4 (by decide)]; exact hm3
    exact lock_153 hN q3 hn hl u4 hp hi (by rw [q4]; exact e3) hm4 b0
  · have eW : (aR5l w1 n T (m.drop 6)).2 = aFall (aWr w1 n (ownT w1 n 4 ((wN w1 n 2).toNat :: m.drop 6)) (80 + 2 * (wN w1 n 15).toNat)) n := by
      unfold aR5l
      rw [if_neg (by rw [j1]; decide)]
      exact j4
    have j2 : Z1 = nI 0 := j2
    have fl := nfall_C (N := N) hN j3 hn (by omega) u' hp
    rw [j2, eW]
    exact wp_pos (show nI 0 = 0 from rfl) (wp_fin ⟨⟨someN, fl.1⟩, trivial⟩ ⟨rfl, fl.2.re⟩)
/-- a block is noted as valid -/
theorem lock_n5 {a i : Nat} {m : List Nat} {w1 : Wd} (hN : 100 ≤ N) (h' : CR F g H T s1 ct hd w1 pe) (hn : n < H) (hl : hd.length ≤ 25) (u' : uO T w1 n) (hp : pe n = -1) (hi : i < 32) (e' : cP s1 (nd g n + 15) i = some a) (hm : wY w1 n 4 i = some m) (b0 : bg m 0 = 1) (ml : m.length ≤ 900) (l6 : 6 ≤ m.length) (o15 : 0 ≤ wN w1 n 15 ∧ wN w1 n 15 ≤ 80) : wp (p_X4_jot N g H T s1 (nd g n + 1) (nI 5) (iI (wN w1 n 1)) (nI (wN w1 n 2).toNat) (some a) (nI 6) ∧ KO_X7_locks_197 N g H T (some (nd g n)) (some a) (k_X4_jot N g H T s1 (nd g n + 1) (nI 5) (iI (wN w1 n 1)) (nI (wN w1 n 2).toNat) (some a) (nI 6)).1 (k_X4_jot N g H T s1 (nd g n + 1) (nI 5) (iI (wN w1 n 1)) (nI (wN w1 n 2).toNat) (some a) (nI 6)).2) (KF_X7_locks_197 N g H T (some (nd g n)) (some a) (k_X4_jot N g H T s1 (nd g n + 1) (nI 5) (iI (wN w1 n 1)) (nI (wN w1 n 2).toNat) (some a) (nI 6)).1 (k_X4_jot N g H T s1 (nd g n + 1) (nI 5) (iI (wN w1 n 1)) (nI (wN w1 n 2).toNat) (some a) (nI 6)).2) (fun z => z.1 = nI 1 ∧ reC F g H T ct hd (aR5v w1 n (m.drop 6)).2 pe z.2) := by
  obtain ⟨o0, o1, o2, -, oc, -, -⟩ := id u'
  obtain ⟨p3, p4, p5, p6, p8⟩ := prp_ad h' hn u'.1 hi e' hm b0
  have xs : m.drop 6 = sl (ct a) 6 ((ct a).length - 6) := by rw [p3, sl_6]
  have dl : (m.drop 6).length ≤ 900 := by
    rw [List.length_drop]
    omega
  refine wp_call (jot_C (N := N) (kd := 5) (b1 := (wN w1 n 2).toNat) (fr := 6) (mo := some a) (x := m.drop 6) hN h' hn (by decide) o1 (by omega) (by omega) oc (Or.inr ⟨a, rfl, p5, by rw [p3]; exact l6, xs⟩) dl) ?_
  rintro ⟨jt, jf⟩
  generalize k_X4_jot N g H T s1 (nd g n + 1) (nI 5) (iI (wN w1 n 1)) (nI (wN w1 n 2).toNat) (some a) (nI 6) = Z at jt jf ⊢
  obtain ⟨Z1, s2⟩ := Z
  have jf : ffr g H hd s1 s2 := jf
  show wp (KO_X7_locks_197 N g H T (some (nd g n)) (some a) Z1 s2) (KF_X7_locks_197 N g H T (some (nd g n)) (some a) Z1 s2) _
  unfold KO_X7_locks_197 KF_X7_locks_197 KO_X7_locks_204 KF_X7_locks_204
  rw [zsome]
  rcases jt with ⟨j1, j2, j3⟩ | ⟨j1, j2, j3, j4⟩
  · have eW : (aR5v w1 n (m.drop 6)).2 = sN (sBy (aOwn w1 n (ownT w1 n 5 ((wN w1 n 2).toNat :: m.drop 6))).2 n 1 0 (some (m.drop 6))) n 5 (wN w1 n 2) := by
      unfold aR5v
      rw [if_pos j1]
    have j2 : Z1 = nI 1 := j2
    have j3 : CR F g H T s2 ct hd (aOwn w1 n (ownT w1 n 5 ((wN w1 n 2).toNat :: m.drop 6))).2 pe := j3
    rw [j2, eW]
    clear eW
    obtain ⟨a1, a2, a3, a4, a5, a6, a7, a8⟩ := aOwn_w j1
    generalize (aOwn w1 n (ownT w1 n 5 ((wN w1 n 2).toNat :: m.drop 6))).2 = w2 at j3 a1 a2 a3 a4 a5 a6 a7 a8 ⊢
    have hm2 : wY w2 n 4 i = some m := by rw [a5]; exact hm
    have u2 : wN w2 n 0 = 1 := by rw [a2 0 (by omega)]; exact u'.1
    have e2 : cP s2 (nd g n + 15) i = some a := by
      rw [show cP s2 (nd g n + 15) = cP s1 (nd g n + 15) from jf.2.2.1 n 0 hn (by decide)]
      exact e'
    have e102 : cI s2 10 (nd g n) = iI (wN w1 n 2) := by
      rw [(j3.node hn).1.2.2.2.1, a2 2 (by omega)]
    obtain ⟨t3, t4, t5, t6, t8⟩ := prp_ad j3 hn u2 hi e2 hm2 b0
    rw [e102]
    refine wp_neg (show ¬ nI 1 = 0 by decide) (wp_and someN (wp_call (setValid_C (N := N) (r := wN w1 n 2) (c := m.drop 6) j3 hn (by omega) u2 t5 t6 (by rw [t3]; exact b0) (by rw [t3])) ?_))
    rintro ⟨q1, q2⟩
    unfold KO_X7_locks_215 KF_X7_locks_215
    exact wp_fin trivial ⟨rfl, q1.re⟩
  · have eW : (aR5v w1 n (m.drop 6)).2 = aFall (aWr w1 n (ownT w1 n 5 ((wN w1 n 2).toNat :: m.drop 6)) (80 + 2 * (wN w1 n 15).toNat)) n := by
      unfold aR5v
      rw [if_neg (by rw [j1]; decide)]
      exact j4
    have j2 : Z1 = nI 0 := j2
    have fl := nfall_C (N := N) hN j3 hn (by omega) u' hp
    rw [j2, eW]
    exact wp_pos (show nI 0 = 0 from rfl) (wp_fin ⟨⟨someN, fl.1⟩, trivial⟩ ⟨rfl, fl.2.re⟩)
/-- what locks leaves behind the flag -/
theorem lock_73 {a i : Nat} {m : List Nat} (hN : 100 ≤ N) (h : CR F g H T s ct hd w pe) (hn : n < H) (hl : hd.length ≤ 25) (gi : GI F H T G w) (u : uO T w n) (o : nOK F T w n) (hp : pe n = -1) (h3 : wN w n 3 ≠ 0) (hi : i < 32) (e : cP s (nd g n + 15) i = some a) (hm : wY w n 4 i = some m) (b0 : bg m 0 = 1) (ml : m.length ≤ 900) (l6 : 6 ≤ m.length) (qs : qS F H T G (wN w n 1) (wN w n 2) (idB (m.drop 6))) : wp (KO_X7_locks_73 N g H T (some (nd g n)) (some a) (nI 1) s) (KF_X7_locks_73 N g H T (some (nd g n)) (some a) (nI 1) s) (fun z => z.1 = nI 1 ∧ reC F g H T ct hd (aR5 w n T (m.drop 6)).2 pe z.2) := by
  have hu := u.1
  obtain ⟨-, -, -, c6, -, -⟩ := be_and o.b5 o.b7 o.b8
  have x1 : ∀ k, k ≠ 6 → wN (sN w n 6 1) n k = wN w n k := fun k hk => N_o _ _ _ _ (Or.inr hk)
  have xY : wY (sN w n 6 1) = wY w := rfl
  have h' := h.b6 hn hu
  have u' : uO T (sN w n 6 1) n := u.cg (fun k hk => x1 k (by omega)) (by rw [x1 15 (by decide)]; exact u.2.2.2.1) (by rw [x1 12 (by decide)]; exact u.2.2.2.2.1) rfl rfl rfl
  have e' : cP (csI s 16 (nd g n) (nI ((1 : Int).toNat + 2 * (wN w n 7).toNat + 4 * (wN w n 8).toNat))) (nd g n + 15) i = some a := e
  have o2 := o.r
  have o3 := o.s
  have o4 := o.l16
  have o5 := o.v16
  have o15 := o.n99
  have ec : cI s 16 (nd g n) ||| nI 1 = nI ((1 : Int).toNat + 2 * (wN w n 7).toNat + 4 * (wN w n 8).toNat) := by
    rw [h.h16 hn]
    exact c6
  have kl := (gi.2.1 n hn).2.2.2.2.2.2.2.1
  have sm : wN w n 5 = wN w n 2 → sameI (some (m.drop 6)) (wY w n 1 0) := fun q => by
    obtain ⟨b, b1, b2, b3⟩ := kl.2.2.2 (by omega)
    rw [q] at b3
    exact ⟨m.drop 6, b, rfl, b1, qS.eq gi.1 (fun s hs => (gi.2.1 s hs).2.2.2.2.2.2.2.2.2.2.1) qs b3⟩
  unfold KO_X7_locks_73 KF_X7_locks_73 aR5
  rw [zsome, ec]
  rw [← x1 2 (by decide)] at o2
  rw [← x1 3 (by decide)] at o3 h3
  rw [← x1 4 (by decide)] at o4
  rw [← x1 5 (by decide)] at o5
  rw [← x1 15 (by decide)] at o15
  rw [← x1 5 (by decide), ← x1 2 (by decide), ← xY] at sm
  rw [← xY] at hm
  clear xY x1 ec c6 kl qs
  generalize csI s 16 (nd g n) (nI ((1 : Int).toNat + 2 * (wN w n 7).toNat + 4 * (wN w n 8).toNat)) = s1 at h' e' ⊢
  generalize sN w n 6 1 = w1 at h' u' o2 o3 h3 o4 o5 o15 sm hm ⊢
  clear h e o u hu gi
  have e10 := h'.h2 hn o2.1
  have e9 : cI s1 9 (nd g n) = iI (wN w1 n 1) := (h'.node hn).1.2.2.1
  have v2 : iI (wN w1 n 2) = nI (wN w1 n 2).toNat := by
    rw [← iI_n]
    congr 1
    omega
  have d4 : iI (wN w1 n 4) = nI (wN w1 n 2).toNat ↔ wN w1 n 4 = wN w1 n 2 := by
    rw [← v2, iI_eq (by omega) (by omega) (by omega) (by omega)]
  have d5 : iI (wN w1 n 5) = nI (wN w1 n 2).toNat ↔ wN w1 n 5 = wN w1 n 2 := by
    rw [← v2, iI_eq (by omega) (by omega) (by omega) (by omega)]
  rw [h'.h3 hn o3.1, h'.h4 hn, h'.h5 hn, e10, e9]
  refine wp_neg (show ¬ nI 1 = 0 by decide) (wp_and someN (wp_ite (fun c => ?_) (fun c => ?_))) <;> rw [n_eq' (by omega) (by omega)] at c
  · refine wp_ite (fun d => ?_) (fun d => ?_) <;> rw [d4] at d
    · have eW : aR5a w1 n T (m.drop 6) = aVote w1 n T 3 2 (some (idB (m.drop 6))) := by
        unfold aR5a
        rw [if_neg (by omega), if_pos d]
      rw [eW]
      exact lock_153 hN h' hn hl u' hp hi e' hm b0
    · have eW : aR5a w1 n T (m.drop 6) = aR5l w1 n T (m.drop 6) := by
        unfold aR5a
        rw [if_neg (by omega), if_neg d]
      rw [eW]
      exact lock_n4 hN h' hn hl u' hp hi e' hm b0 ml l6 o15
  · refine wp_ite (fun d => ?_) (fun d => ?_) <;> rw [d5] at d
    · have eW : aR5a w1 n T (m.drop 6) = (true, w1) := by
        unfold aR5a
        rw [if_pos (by omega), if_pos ⟨d, sm d⟩]
      rw [eW]
      unfold KO_X7_locks_215 KF_X7_locks_215
      exact wp_fin trivial ⟨rfl, h'.re⟩
    · have eW : aR5a w1 n T (m.drop 6) = aR5v w1 n (m.drop 6) := by
        unfold aR5a
        rw [if_pos (by omega), if_neg (fun q => d q.1)]
      rw [eW]
      exact lock_n5 hN h' hn hl u' hp hi e' hm b0 ml l6 o15
/-- what locks leaves -/
def loP (F g H T : Nat) (ct : Nat → List Nat) (hd : List Nat) (w : Wd) (pe : Nat → Int) (n : Nat) (z : Int32 × cS) : Prop := (∃ m, wN w n 3 ≠ 0 ∧ hdR w n = some m ∧ (wN w n 6 = 0 ∧ 2 * F + 1 ≤ cRd w n 0 (wN w n 2).toNat 2 (idB (m.drop 6)) T ∧ aVal w n (some (m.drop 6))) ∧ z.1 = nI 1 ∧ reC F g H T ct hd (aR5 w n T (m.drop 6)).2 pe z.2) ∨ ((wN w n 3 ≠ 0 → ∀ m, hdR w n = some m → ¬ (wN w n 6 = 0 ∧ 2 * F + 1 ≤ cRd w n 0 (wN w n 2).toNat 2 (idB (m.drop 6)) T ∧ aVal w n (some (m.drop 6)))) ∧ z.1 = nI 0 ∧ CR F g H T z.2 ct hd w pe)
theorem locks_C (hN : 100 ≤ N) (h : CR F g H T s ct hd w pe) (hn : n < H) (hl : hd.length ≤ 25) (gi : GI F H T G w) (gk : giK (wN w n)) (hu : wN w n 0 = 1) (hp : pe n = -1) (hf : cI s 5 (nd g n + 6) = nI 0) : wp (p_X7_locks N g H T s (some (nd g n))) (k_X7_locks N g H T s (some (nd g n))) (loP F g H T ct hd w pe n) := by
  have cb := h.1.bb
  have cF : F ≤ 4 := h.1.2.1
  have k := gi.2.1 n hn
  have o := k.ok h.1 gk
  have o1 := o.h
  have o2 := o.r
  have o3 := o.s
  have hv := k.vt cb.2.1
  have u := k.uo h.1 gk hn hu
  have r16 : (wN w n 2).toNat < 16 := by omega
  obtain ⟨b6, -⟩ := be_and o.b5 o.b7 o.b8
  obtain ⟨p1, p2⟩ := proposal_c (N := N) (g := g) (H := H) (T := T) (n := n) (s := s) (h := (wN w n 1).toNat) r16
  show wp (KO_X7_locks_0 N g H T (some (nd g n)) s) (KF_X7_locks_0 N g H T (some (nd g n)) s) _
  unfold KO_X7_locks_0 KF_X7_locks_0 KO_X7_locks_16 KF_X7_locks_16
  rw [zsome, h.h1 hn (by omega), h.h2 hn o2.1, h.h3 hn o3.1, h.h16 hn, h.hQ, p2]
  have no : (wN w n 3 ≠ 0 → ∀ m, hdR w n = some m → ¬ (wN w n 6 = 0 ∧ 2 * F + 1 ≤ cRd w n 0 (wN w n 2).toNat 2 (idB (m.drop 6)) T ∧ aVal w n (some (m.drop 6)))) → wp True (nI 0, s) (loP F g H T ct hd w pe n) := fun q => wp_fin trivial (Or.inr ⟨q, rfl, h⟩)
  refine wp_and someN (wp_ite (fun c0 => ?_) (fun c0 => ?_)) <;> rw [n_eq0 (by omega)] at c0
  · exact no (fun q => by omega)
  refine wp_ite (fun c => ?_) (fun c => ?_) <;> rw [b6] at c
  rotate_left
  · exact no (fun _ m _ q => c q.1)
  refine wp_and p1 ?_
  rcases prp_at h hn hu k r16 with ⟨a1, a2⟩ | ⟨a, m, a1, a2, a3, a4, a5, a6, a7, a8, a9, a10, a11⟩
  · rw [a1]
    exact wp_pos rfl (no (fun _ m e => by
      have e : wY w n 4 (16 * ((wN w n 1).toNat % 2) + (wN w n 2).toNat) = some m := e
      rw [a2] at e
      cases e))
  have hm : hdR w n = some m := a2
  obtain ⟨c1, c2⟩ := vF2 (N := N) (r := (wN w n 2).toNat) (so := 2) (d := idB (m.drop 6)) (xo := some a) hN h hn hu hv r16 (Or.inr ⟨a, rfl, rfl, a9, idB_len _, idB_B _⟩)
  have kl := cRd_le (w := w) (n := n) (T := T) 0 (wN w n 2).toNat 2 (idB (m.drop 6))
  have so : ∀ m', hdR w n = some m' → m' = m := fun m' e => by
    rw [hm] at e
    exact (Option.some.inj e).symm
  rw [a1, c2]
  refine wp_neg someN (wp_and c1 (wp_ite (fun d => ?_) (fun d => ?_))) <;> rw [n_lt' (by omega) (by omega)] at d
  · exact no (fun _ m' e1 e2 => by
      rw [so m' e1] at e2
      omega)
  refine wp_call (approves_C hN h hn hu k hf r16 a2) (fun q => ?_)
  obtain ⟨i1, i2, i3⟩ := q
  generalize k_X7_approves N g H T s (some (nd g n)) (nI (wN w n 2).toNat) = z at i1 i2 i3 ⊢
  obtain ⟨z1, s1⟩ := z
  have i1 : CR F g H T s1 ct hd w pe := i1
  have i2 : cfr (apP g n) s s1 := i2
  have ePs : cP s1 = cP s := i2.2.2.2.2.2.1
  show wp (KO_X7_locks_73 N g H T (some (nd g n)) (some a) z1 s1) (KF_X7_locks_73 N g H T (some (nd g n)) (some a) z1 s1) _
  rcases i3 with ⟨i3, i4⟩ | ⟨i3, i4⟩
  · have i3 : z1 = nI 1 := i3
    rw [i3]
    have ml := a10.2.2.1.len
    rw [List.length_drop] at ml
    have l1 := a10.2.2.1.1
    rw [List.length_drop] at l1
    refine wp_mono (lock_73 (a := a) (i := 16 * ((wN w n 1).toNat % 2) + (wN w n 2).toNat) (m := m) hN i1 hn hl gi u o hp (by omega) (by omega) (by rw [ePs]; exact a1) a2 a7 (by omega) (by omega) (k.qs h.1 (by omega))) (fun q => Or.inl ⟨m, by omega, hm, ⟨c, by omega, i4⟩, q.1, q.2⟩)
  · have i3 : z1 = nI 0 := i3
    rw [i3]
    unfold KO_X7_locks_73 KF_X7_locks_73 KO_X7_locks_76 KF_X7_locks_76
    refine wp_pos (show nI 0 = 0 from rfl) (wp_fin trivial (Or.inr ⟨fun _ m' e1 e2 => ?_, rfl, i1⟩))
    rw [so m' e1] at e2
    exact i4 e2.2.2
end
end

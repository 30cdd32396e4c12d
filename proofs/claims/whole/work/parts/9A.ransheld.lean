section
/-! THE REFERENCE TELLS ALL THAT IT HOLDS -/
theorem vt_eq {T k s h r : Nat} {m : List Nat} (h0 : bg m 0 = k) (h1 : bg m 1 = s) (h2 : tw m 2 = h) (h4 : bg m 4 = r) (hB : isB m) (hv : voOK T m) : vtB k s h r (if bg m 5 = 1 then some (voD m) else none) = m := by
  have b3 := hB 3
  have h2' : 256 * bg m 2 + bg m 3 = h := h2
  have e2 : bg m 2 = h / 256 := by omega
  have e3 : bg m 3 = h % 256 := by omega
  rcases hv.2 with ⟨l, f⟩ | ⟨l, f⟩
  · rw [if_neg (by omega)]
    refine by_ext l.symm (fun i hi => ?_)
    have hi : i < 6 := hi
    rcases (show i = 0 ∨ i = 1 ∨ i = 2 ∨ i = 3 ∨ i = 4 ∨ i = 5 by omega) with e | e | e | e | e | e <;> rw [e]
    · exact h0.symm
    · exact h1.symm
    · exact e2.symm
    · exact e3.symm
    · exact h4.symm
    · exact f.symm
  · rw [if_pos f]
    have ll : (vtB k s h r (some (voD m))).length = 38 := by
      show (hdB k s h r ++ 1 :: voD m).length = 38
      rw [List.length_append, List.length_cons, voD_len]
      rfl
    refine by_ext (by rw [ll, l]) (fun i hi => ?_)
    rw [ll] at hi
    by_cases c : i < 6
    · rcases (show i = 0 ∨ i = 1 ∨ i = 2 ∨ i = 3 ∨ i = 4 ∨ i = 5 by omega) with e | e | e | e | e | e <;> rw [e]
      · exact h0.symm
      · exact h1.symm
      · exact e2.symm
      · exact e3.symm
      · exact h4.symm
      · exact f.symm
    · show bg (hdB k s h r ++ 1 :: voD m) i = _
      rw [bg_app, show (hdB k s h r).length = 5 from rfl, if_neg (show ¬ i < 5 by omega), bg_cons, if_neg (show ¬ i - 5 = 0 by omega)]
      show bg (voD m) (i - 5 - 1) = _
      unfold voD
      rw [mkB_in (by omega), if_pos f]
      congr 1
      omega
theorem pr_eq {T s h r : Nat} {m : List Nat} (h0 : bg m 0 = 1) (h1 : bg m 1 = s) (h2 : tw m 2 = h) (h4 : bg m 4 = r) (hB : isB m) (hv : prOK T m) : prB s h r (prV m) (m.drop 6) = m := by
  have b3 := hB 3
  have h2' : 256 * bg m 2 + bg m 3 = h := h2
  have e2 : bg m 2 = h / 256 := by omega
  have e3 : bg m 3 = h % 256 := by omega
  have l := hv.2.2.1.len
  rw [List.length_drop] at l
  have e5 : vrB (prV m) = bg m 5 := by
    have := hv.2.1
    unfold prV
    by_cases c : bg m 5 = 255
    · rw [if_pos c, c]
      rfl
    · rw [if_neg c]
      unfold vrB
      rw [if_neg (by omega)]
      omega
  have ll : (prB s h r (prV m) (m.drop 6)).length = m.length := by
    show (hdB 1 s h r ++ vrB (prV m) :: m.drop 6).length = _
    rw [List.length_append, List.length_cons, List.length_drop]
    show 5 + _ = _
    omega
  refine by_ext ll (fun i hi => ?_)
  by_cases c : i < 6
  · rcases (show i = 0 ∨ i = 1 ∨ i = 2 ∨ i = 3 ∨ i = 4 ∨ i = 5 by omega) with e | e | e | e | e | e <;> rw [e]
    · exact h0.symm
    · exact h1.symm
    · exact e2.symm
    · exact e3.symm
    · exact h4.symm
    · exact e5
  · show bg (hdB 1 s h r ++ vrB (prV m) :: m.drop 6) i = _
    rw [bg_app, show (hdB 1 s h r).length = 5 from rfl, if_neg (show ¬ i < 5 by omega), bg_cons, if_neg (show ¬ i - 5 = 0 by omega), bg_drop]
    show bg m (6 + (i - 5 - 1)) = _
    congr 1
    omega
/-- what is held of a round, in the order of an answer -/
def anM (w : Wd) (n T r p : Nat) : Option (List Nat) := if p = 0 then wY w n 4 (16 * ((wN w n 1).toNat % 2) + r) else if p ≤ T then wY w n 5 (vq 0 ((wN w n 1).toNat % 2) r (p - 1)) else wY w n 5 (vq 1 ((wN w n 1).toNat % 2) r (p - 1 - T))
def psO (k : Sk) (f t tk : Nat) (o : Option (List Nat)) : Sk := match o with
  | some m => pst k (f, t, tk, m)
  | none => k
def anR (w : Wd) (n t T r : Nat) (k : Sk) : Nat → Sk
  | 0 => k
  | p + 1 => psO (anR w n t T r k p) n t (wT w) (anM w n T r p)
def anA (w : Wd) (n t T : Nat) : Nat → Sk
  | 0 => wK w
  | r + 1 => anR w n t T r (anA w n t T r) (1 + 2 * T)
def aAH (w : Wd) (n t T : Nat) : Wd := sK w (anA w n t T 16)
section
variable {N n F H T : Nat} {S : rS} {w : Wd} {G : Gh}
theorem answerHeld_116 {t r c s j : Nat} {k1 : Sk} {X : Nat × Int32 × Int32 × Int32 × Int32 × rS → Prop} {rok : Int32 → Int32 → Int32 → Int32 → Int32 → rS → Prop} {rec : Int32 → Int32 → Int32 → Int32 → Int32 → rS → Nat × Int32 × Int32 × Int32 × Int32 × rS} (hN : 1000 ≤ N) (h : rRp F H T S (sK w k1)) (g : GN F H T G w n) (hn : n < H) (ht : t < 13) (hr : r < 16) (hc : c ≤ 1) (hs : s < T) (go : ∀ y, rRp F H T y (sK w (psO k1 n t (wT w) (wY w n 5 (vq c ((wN w n 1).toNat % 2) r s)))) → wp (rok (nI n) (nI t) (nI (wN w n 1).toNat) (nI r) (nI j + nI 1) y) (rec (nI n) (nI t) (nI (wN w n 1).toNat) (nI r) (nI j + nI 1) y) X) : wp (O_answerHeld_116 N rok (nI n) (nI t) (nI (wN w n 1).toNat) (nI r) (nI j) (nI c) (nI s) S) (F_answerHeld_116 N rec (nI n) (nI t) (nI (wN w n 1).toNat) (nI r) (nI j) (nI c) (nI s) S) X := by
  have cb := h.1.1.b
  obtain ⟨a0, a1, a2, _⟩ := g.a
  obtain ⟨P, hP⟩ : ∃ P, P = (wN w n 1).toNat % 2 := ⟨_, rfl⟩
  have hP2 : P < 2 := by rw [hP]; exact Nat.mod_lt _ (by decide)
  rw [← hP] at go
  obtain ⟨v1, v2⟩ := voteAt_ok (N := N) (S := S) (n := n) (c := c) (h := (wN w n 1).toNat) (r := r) (s := s) hc (by omega)
  have ev : 13 * (32 * n + 16 * ((wN w n 1).toNat % 2) + r) + s + 5408 * c = vix n (vq c P r s) := by
    unfold vix vq
    split <;> omega
  rw [ev] at v2
  have q0 : vq c P r s < 832 := by unfold vq; omega
  have l0 : vix n (vq c P r s) < 10816 := by unfold vix; split <;> omega
  have hv : vR S (vix n (vq c P r s)) (wY w n 5 (vq c P r s)) := h.v n (vq c P r s) hn q0
  unfold O_answerHeld_116 F_answerHeld_116
  rw [v2, n_clamp (by omega)]
  cases hy : wY w n 5 (vq c P r s) with
  | none =>
    rw [hy] at hv go
    have hv : S.2.1 60 (vix n (vq c P r s)) = nI 0 := hv
    rw [hv]
    refine wp_and v1 (wp_and ((n_in (by omega)).2 (by omega)) (wp_pos rfl ?_))
    unfold O_answerHeld_221 F_answerHeld_221
    exact go S h
  | some m =>
    rw [hy] at hv go
    obtain ⟨b1, b2, b3, b4, b5, b6, b7, b8, b9⟩ := g.v c P r s m hc (by omega) hr (by omega) hy
    have tm : tw m 2 = (wN w n 1).toNat := by unfold nxt at b6; omega
    have me := vt_eq (T := T) b2 b3 tm b4 b8 b7
    obtain ⟨w1, w2, w3⟩ := hv
    have fin : ∀ S1, rRp F H T S1 (sK w k1) → mB S1 m → wp (O_answerHeld_214 N rok (nI n) (nI t) (nI (wN w n 1).toNat) (nI r) (nI j) S1) (F_answerHeld_214 N rec (nI n) (nI t) (nI (wN w n 1).toNat) (nI r) (nI j) S1) X := fun S1 R1 m1 => by
      unfold O_answerHeld_214 F_answerHeld_214
      refine wp_call (fly_ok (tk := wT w) hN m1 (by rcases b7.2 with z | z <;> omega) R1.sk R1.co.2.2.2.2.2.1 (by omega) ht (by have := R1.co.2.2.2.2.2.2.1; exact Nat.lt_trans this (by decide))) (fun q => ?_)
      unfold O_answerHeld_220 F_answerHeld_220 O_answerHeld_221 F_answerHeld_221
      exact go _ (R1.sky q.1 q.2.1)
    have hd : wp (O_answerHeld_155 N rok (nI n) (nI t) (nI (wN w n 1).toNat) (nI r) (nI j) (nI s) (nI (vix n (vq c P r s))) (nI (2 + c)) S) (F_answerHeld_155 N rec (nI n) (nI t) (nI (wN w n 1).toNat) (nI r) (nI j) (nI s) (nI (vix n (vq c P r s))) (nI (2 + c)) S) X := by
      unfold O_answerHeld_155 F_answerHeld_155
      refine wp_call (writeHead_ok (k := 2 + c) (s := s) (h := (wN w n 1).toNat) (r := r) (by omega) (by omega) (by omega) (by omega)) (fun q => ?_)
      obtain ⟨q1, q2⟩ := q
      have R1 := h.sf (sf32 q1)
      have x1 : (f_writeHead N S (nI (2 + c)) (nI s) (nI (wN w n 1).toNat) (nI r)).2.1 60 (vix n (vq c P r s)) = nI (1 + bg m 5) := by rw [q1.a 60 (by decide)]; exact w1
      have x3 : idL ((f_writeHead N S (nI (2 + c)) (nI s) (nI (wN w n 1).toNat) (nI r)).2.2 61 (vix n (vq c P r s))) ((f_writeHead N S (nI (2 + c)) (nI s) (nI (wN w n 1).toNat) (nI r)).2.2 62 (vix n (vq c P r s))) ((f_writeHead N S (nI (2 + c)) (nI s) (nI (wN w n 1).toNat) (nI r)).2.2 63 (vix n (vq c P r s))) ((f_writeHead N S (nI (2 + c)) (nI s) (nI (wN w n 1).toNat) (nI r)).2.2 64 (vix n (vq c P r s))) (voD m) := by rw [q1.l 61 (by decide), q1.l 62 (by decide), q1.l 63 (by decide), q1.l 64 (by decide)]; exact w3
      generalize f_writeHead N S (nI (2 + c)) (nI s) (nI (wN w n 1).toNat) (nI r) = S1 at q1 q2 R1 x1 x3 ⊢
      unfold O_answerHeld_163 F_answerHeld_163
      rw [n_clamp (by omega), x1]
      refine wp_and ((n_in (by omega)).2 (by omega)) (wp_ite (fun c1 => ?_) (fun c1 => ?_)) <;> rw [n_eq' (by omega) (by omega)] at c1
      · refine wp_and ((n_in (by omega)).2 (by omega)) (wp_and ((n_in (by omega)).2 (by omega)) (wp_and ((n_in (by omega)).2 (by omega)) (wp_and ((n_in (by omega)).2 (by omega)) (wp_call (writeId_ok q2 x3 (voD_len _) (voD_B b8) (by simp [hdB]) (by omega)) (fun q => ?_)))))
        unfold O_answerHeld_206 F_answerHeld_206
        refine fin _ (R1.sf (sf32 q.1)) ?_
        have := q.2
        rw [if_pos (by omega)] at me
        rw [← me]
        exact this
      · refine wp_call (writeN_ok (x := 0) (by omega) q2 (by simp [hdB])) (fun q => ?_)
        refine fin _ (R1.sf (sf32 q.1)) ?_
        have := q.2
        rw [if_neg (by omega)] at me
        rw [← me]
        exact this
    rw [w1]
    refine wp_and v1 (wp_and ((n_in (by omega)).2 (by omega)) (wp_neg (by rw [n_eq0 (by omega)]; omega) (wp_ite (fun c1 => ?_) (fun c1 => ?_)))) <;> rw [n_eq0 (by omega)] at c1
    · rw [c1] at hd
      rw [c1]
      exact hd
    · rw [show c = 1 by omega] at hd ⊢
      exact hd
theorem answerHeld_72 {t r : Nat} {k0 : Sk} (hN : 1000 ≤ N) (h : rRp F H T S (sK w (anR w n t T r k0 1))) (g : GN F H T G w n) (hn : n < H) (ht : t < 13) (hr : r < 16) : wp (OL_answerHeld_72 N N (nI n) (nI t) (nI (wN w n 1).toNat) (nI r) (nI 0) S) (L_answerHeld_72 N N (nI n) (nI t) (nI (wN w n 1).toNat) (nI r) (nI 0) S) (fun z => z = (0, nI n, nI t, nI (wN w n 1).toNat, nI r, z.2.2.2.2.2) ∧ rRp F H T z.2.2.2.2.2 (sK w (anR w n t T r k0 (1 + 2 * T)))) := by
  have cb := h.1.1.b
  refine wp_loop (K := 2 * T) (fun j y => rRp F H T y (sK w (anR w n t T r k0 (1 + j)))) (fun q j y => OL_answerHeld_72 N q (nI n) (nI t) (nI (wN w n 1).toNat) (nI r) (nI j) y) (fun q j y => L_answerHeld_72 N q (nI n) (nI t) (nI (wN w n 1).toNat) (nI r) (nI j) y) (fun q j y hj hI ih => ?_) 0 N S (by omega) (by omega) h
  have eT : y.1 0 = nI T := hI.co.2.1
  unfold OL_answerHeld_72 L_answerHeld_72 OB_answerHeld_72 B_answerHeld_72
  rw [eT, n_mul]
  by_cases e : j = 2 * T
  · refine wp_pos (by rw [n_le' (by omega) (by omega)]; omega) ?_
    refine wp_fin trivial ⟨rfl, ?_⟩
    rw [e] at hI
    exact hI
  refine wp_neg (by rw [n_le' (by omega) (by omega)]; omega) (wp_ite (fun c1 => ?_) (fun c1 => ?_)) <;> rw [n_lt' (by omega) (by omega)] at c1
  · unfold O_answerHeld_97 F_answerHeld_97
    refine wp_pos rfl (answerHeld_116 (c := 0) (s := j) hN hI g hn ht hr (by omega) c1 (fun y' R' => ?_))
    rw [n_add]
    refine ih y' ?_ (by omega)
    show rRp F H T y' (sK w (psO (anR w n t T r k0 (1 + j)) n t (wT w) (anM w n T r (1 + j))))
    unfold anM
    rw [if_neg (by omega), if_pos (by omega), Nat.add_sub_cancel_left]
    exact R'
  · unfold O_answerHeld_97 F_answerHeld_97
    rw [eT, n_sub (by omega)]
    refine wp_neg (show ¬ nI 1 = 0 by decide) (answerHeld_116 (c := 1) (s := j - T) hN hI g hn ht hr (by omega) (by omega) (fun y' R' => ?_))
    rw [n_add]
    refine ih y' ?_ (by omega)
    show rRp F H T y' (sK w (psO (anR w n t T r k0 (1 + j)) n t (wT w) (anM w n T r (1 + j))))
    unfold anM
    rw [if_neg (by omega), if_neg (by omega), Nat.add_sub_cancel_left]
    exact R'
theorem answerHeld_ok {t : Nat} (hN : 1000 ≤ N) (h : rRp F H T S w) (g : GN F H T G w n) (hn : n < H) (ht : t < 13) : wp (o_answerHeld N S (nI n) (nI t)) (f_answerHeld N S (nI n) (nI t)) (fun S' => rRp F H T S' (aAH w n t T)) := by
  have cb := h.1.1.b
  obtain ⟨a0, a1, a2, _⟩ := g.a
  have e44 : S.2.1 44 n = nI (wN w n 1).toNat := h.hN hn (k := 1) (by decide) (by decide) (by omega)
  obtain ⟨P, hP⟩ : ∃ P, P = (wN w n 1).toNat % 2 := ⟨_, rfl⟩
  have hP2 : P < 2 := by rw [hP]; exact Nat.mod_lt _ (by decide)
  show wp (O_answerHeld_0 N (nI n) (nI t) S) (F_answerHeld_0 N (nI n) (nI t) S) _
  unfold O_answerHeld_0 F_answerHeld_0
  rw [n_clamp (by omega), e44]
  refine wp_and ((n_in (by omega)).2 (by omega)) (wp_seq (Q := fun z : Nat × rS => rRp F H T z.2 (aAH w n t T)) ?_ (fun z hz => by
    unfold OA_answerHeld_10 A_answerHeld_10 O_answerHeld_233 F_answerHeld_233
    exact wp_fin trivial hz))
  refine wp_loop (K := 16) (fun j y => rRp F H T y (sK w (anA w n t T j))) (fun q j y => OL_answerHeld_10 N q (nI n) (nI t) (nI (wN w n 1).toNat) (nI j) y) (fun q j y => L_answerHeld_10 N q (nI n) (nI t) (nI (wN w n 1).toNat) (nI j) y) (fun q j y hj hI ih => ?_) 0 N S (by omega) (by omega) h
  unfold OL_answerHeld_10 L_answerHeld_10 OB_answerHeld_10 B_answerHeld_10
  by_cases e : j = 16
  · refine wp_pos (by rw [n_le' (by omega) (by omega)]; omega) ?_
    subst e
    exact wp_fin trivial hI
  have nx : ∀ S1, rRp F H T S1 (sK w (anR w n t T j (anA w n t T j) 1)) → wp (O_answerHeld_69 N (OL_answerHeld_10 N q) (nI n) (nI t) (nI (wN w n 1).toNat) (nI j) S1) (F_answerHeld_69 N (L_answerHeld_10 N q) (nI n) (nI t) (nI (wN w n 1).toNat) (nI j) S1) (fun z : Nat × rS => rRp F H T z.2 (aAH w n t T)) := fun S1 R1 => by
    unfold O_answerHeld_69 F_answerHeld_69
    refine wp_seq (answerHeld_72 hN R1 g hn ht (by omega)) ?_
    rintro z ⟨z0, z1⟩
    rw [z0]
    generalize z.2.2.2.2.2 = S2 at z1 ⊢
    show wp (O_answerHeld_227 N (OL_answerHeld_10 N q) (nI n) (nI t) (nI (wN w n 1).toNat) (nI j) S2) (F_answerHeld_227 N (L_answerHeld_10 N q) (nI n) (nI t) (nI (wN w n 1).toNat) (nI j) S2) _
    unfold O_answerHeld_227 F_answerHeld_227
    rw [n_add]
    exact ih S2 z1 (by omega)
  have hh : hR y (32 * n + (16 * P + j)) (wY w n 4 (16 * P + j)) := hI.hd n (16 * P + j) hn (by omega)
  obtain ⟨t1, t2⟩ := isThere_ok (N := N) (p := 32 * n + (16 * P + j)) (by omega) hh.1
  rw [heldAt_ok (by omega), ← hP, n_add, show 0 + (32 * n + 16 * P + j) = 32 * n + (16 * P + j) by omega, t2]
  refine wp_neg (by rw [n_le' (by omega) (by omega)]; omega) (wp_and trivial (wp_and t1 ?_))
  have an0 : anM w n T j 0 = wY w n 4 (16 * P + j) := by
    unfold anM
    rw [if_pos rfl, ← hP]
  cases hy : wY w n 4 (16 * P + j) with
  | none =>
    refine wp_pos rfl (nx y ?_)
    show rRp F H T y (sK w (psO (anA w n t T j) n t (wT w) (anM w n T j 0)))
    rw [an0, hy]
    exact hI
  | some m =>
    rw [hy] at hh
    obtain ⟨b1, b2, b3, b4, b5, b6, b7, b8⟩ := g.hd P j m (by omega) (by omega) hy
    have tm : tw m 2 = (wN w n 1).toNat := by unfold nxt at b4; omega
    have me := pr_eq (T := T) (s := ((wN w n 1).toNat + j) % T) b1 (by rw [b7, tm]) tm b2 b6 b5
    have hb : oR y (32 * n + (16 * P + j)) (some (m.drop 6)) := hh.1
    have e59 := hh.2 m rfl
    have pv : -1 ≤ prV m ∧ prV m < 16 := by
      have := b5.2.1
      unfold prV
      split <;> omega
    obtain ⟨p1, p2⟩ := proposer_ok (N := N) (S := y) (T := T) (h := (wN w n 1).toNat) (r := j) hI.co.2.1 (by omega) (by omega)
    have md : ((wN w n 1).toNat + j) % T < T := Nat.mod_lt _ (by omega)
    rw [p2, n_sub (by omega), Nat.sub_zero, n_clamp (by omega), e59]
    refine wp_neg (show ¬ nI 1 = 0 by decide) (wp_and p1 (wp_and ((n_in (by omega)).2 (by omega)) (wp_call (writeProposal_ok (s := ((wN w n 1).toNat + j) % T) (h := (wN w n 1).toNat) (r := j) (v := prV m) (b := m.drop 6) (by omega) (by omega) (by omega) pv (by omega) hb.1.1 hb.1.2.1 hb.2.2.2 hb.2.2.1 hN) (fun q => ?_))))
    obtain ⟨q1, q2⟩ := q
    rw [me] at q2
    have R1 := hI.sf (sf32 q1)
    generalize f_writeProposal N y (nI (((wN w n 1).toNat + j) % T)) (nI (wN w n 1).toNat) (nI j) (iI (prV m)) (nI (32 * n + (16 * P + j))) = S1 at q2 R1 ⊢
    unfold O_answerHeld_62 F_answerHeld_62
    refine wp_call (fly_ok (tk := wT w) hN q2 (by have := b5.2.2.1.len; rw [List.length_drop] at this; omega) R1.sk R1.co.2.2.2.2.2.1 (by omega) ht (by have := R1.co.2.2.2.2.2.2.1; exact Nat.lt_trans this (by decide))) (fun r => ?_)
    unfold O_answerHeld_68 F_answerHeld_68
    refine nx _ ?_
    show rRp F H T _ (sK w (psO (anA w n t T j) n t (wT w) (anM w n T j 0)))
    rw [an0, hy]
    exact R1.sky r.1 r.2.1
end
end

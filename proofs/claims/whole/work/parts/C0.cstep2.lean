section
/-! THE CLASS'S RULES IN THEIR ORDER: decides, takes, a round that is to begin -/
section
variable {F N g H T n : Nat} {s s0 S : cS} {ct : Nat → List Nat} {hd : List Nat} {w w' V X : Wd} {pe pe' : Nat → Int} {t : Nat} {G : Gh} {rec : Option Nat → Int32 → cS → Nat × Option Nat × cS} {rok : Option Nat → Int32 → cS → Prop} {Q : Nat × Option Nat × cS → Prop}
theorem GI.dv {c : List Nat} (g : GI F H T G w) (hn : n < H) (h40 : wN w n 1 ≤ 40) (hw : blkWf T c) (hB : isB c) (hb : (aNote w n (chT w n c) (2 * (wN w n 1).toNat - 2)).1 = true) : GI F H T G (aLift (aDec1 (aNote w n (chT w n c) (2 * (wN w n 1).toNat - 2)).2 n c) n ((wN w n 1).toNat + 1) (idB c) (bPl (bkN (wN (aDec1 (aNote w n (chT w n c) (2 * (wN w n 1).toNat - 2)).2 n c)) n) c).1) ∧ giK (wN (aLift (aDec1 (aNote w n (chT w n c) (2 * (wN w n 1).toNat - 2)).2 n c) n ((wN w n 1).toNat + 1) (idB c) (bPl (bkN (wN (aDec1 (aNote w n (chT w n c) (2 * (wN w n 1).toNat - 2)).2 n c)) n) c).1) n) ∧ wN (aDec1 (aNote w n (chT w n c) (2 * (wN w n 1).toNat - 2)).2 n c) n 0 = wN w n 0 := by
  have cb := g.1.b
  have h1 := (g.2.1 n hn).a.2.1
  obtain ⟨t1, t2, t3, t4, t5, t6⟩ := aNote_w hb
  have g1 := g.note hn hb
  have n1 := t2 1 (by omega)
  have n0 := t2 0 (by omega)
  generalize (aNote w n (chT w n c) (2 * (wN w n 1).toNat - 2)).2 = w1 at t1 t2 t3 t4 t5 t6 g1 n1 n0 ⊢
  have g2 : GI F H T G (aDec1 w1 n c) := by
    have gn := g1.2.1 n hn
    have y : ∀ f, f ≠ 7 → wY (aDec1 w1 n c) n f = wY w1 n f := fun f hf => funext fun i => B_o _ _ _ _ _ (Or.inr (Or.inl hf))
    have eN : wN (aDec1 w1 n c) = wN w1 := rfl
    have dP : wP (aDec1 w1 n c) n = kpL (wP w1 n) c (wP w1 n).length := by
      show (if n = n then _ else _) = _
      rw [if_pos rfl]
      rfl
    refine g1.step hn (wfr.B.trans wfr.P) (fun _ _ z => z) (fun _ _ => rfl) ?_ g1.2.2
    unfold GN
    rw [eN, dP, y 5 (by decide), y 4 (by decide), y 6 (by decide), y 3 (by decide), y 2 (by decide), y 0 (by decide), y 1 (by decide), y 8 (by decide), y 9 (by decide)]
    exact ⟨gn.a, kpL_in (Q := fun x => x.length = 7 ∧ isB x ∧ payOK x 0) gn.p _ (Nat.le_refl _), gn.v, gn.hd, gn.d, gn.s, gn.e, gn.l, gn.o, gn.g, gn.u, gn.b, gn.f⟩
  have m1 : wN (aDec1 w1 n c) n 1 = wN w n 1 := n1
  have bk := bPl_ok (g2.2.1 n hn).b.1 hw hB (by omega)
  obtain ⟨l1, l2⟩ := g2.lift (x2 := (wN w n 1).toNat + 1) (d := idB c) (k := (bPl (bkN (wN (aDec1 w1 n c)) n) c).1) hn (by rw [m1]; omega) (by omega) bk (idB_len _) (idB_B _)
  exact ⟨l1, l2, n0⟩
theorem GI.tv {m : List Nat} (g : GI F H T G w) (hn : n < H) (hx : wN w n 1 < tw m 1) (h41 : tw m 1 ≤ 41) (hk : bkOK (snB m)) (hB : isB m) (hb' : (aSnapN w n m).1 = true) : GI F H T G (aLift (aSnapN w n m).2 n (tw m 1) (sl m 3 32) (snB m)) ∧ giK (wN (aLift (aSnapN w n m).2 n (tw m 1) (sl m 3 32) (snB m)) n) ∧ wN (aSnapN w n m).2 n 0 = wN w n 0 := by
  have ga := (g.2.1 n hn).a
  unfold aSnapN at hb' ⊢
  cases hb : (aNote w n (snT m) (snAt w n)).1 with
  | false =>
    rw [hb] at hb'
    cases hb'
  | true =>
    obtain ⟨t1, t2, t3, t4, t5, t6⟩ := aNote_w hb
    have g1 := g.note hn hb
    rw [if_pos rfl]
    show GI F H T G (aLift (sN (aNote w n (snT m) (snAt w n)).2 n 16 (snAt w n)) n (tw m 1) (sl m 3 32) (snB m)) ∧ giK (wN (aLift (sN (aNote w n (snT m) (snAt w n)).2 n 16 (snAt w n)) n (tw m 1) (sl m 3 32) (snB m)) n) ∧ wN (sN (aNote w n (snT m) (snAt w n)).2 n 16 (snAt w n)) n 0 = wN w n 0
    have n1 := t2 1 (by omega)
    have n0 := t2 0 (by omega)
    have c12 := t3 ga.2.2.2.2.2.2.2.2.2.1
    generalize (aNote w n (snT m) (snAt w n)).2 = w1 at t1 t2 t3 t4 t5 t6 g1 n1 n0 c12 ⊢
    have sa : snAt w n = 280 ∨ snAt w n = 282 := by
      unfold snAt
      split <;> omega
    have eo : ∀ j, j ≠ 16 → wN (sN w1 n 16 (snAt w n)) n j = wN w1 n j := fun j hj => N_o _ _ _ _ (Or.inr hj)
    have e16 : wN (sN w1 n 16 (snAt w n)) n 16 = snAt w n := N_s _ _ _ _
    have g2 : GI F H T G (sN w1 n 16 (snAt w n)) := by
      refine g1.num hn (wfr.N (by decide)) rfl rfl rfl (fun j hj => eo j (by omega)) (by rw [eo 3 (by decide)]; exact Int.le_refl _) ?_
      obtain ⟨a0, a1, a2, a3, a4, a5, a6, a7, a8, a9, a10, a11, a12, a13, a14⟩ := (g1.2.1 n hn).a
      unfold giA
      rw [eo 0 (by decide), eo 1 (by decide), eo 2 (by decide), eo 3 (by decide), eo 4 (by decide), eo 5 (by decide), eo 6 (by decide), eo 7 (by decide), eo 8 (by decide), eo 12 (by decide), eo 15 (by decide), e16, eo 17 (by decide)]
      exact ⟨a0, a1, a2, a3, a4, a5, a6, a7, a8, a9, a10, by omega, a12, a13, a14⟩
    obtain ⟨r1, r2⟩ := g2.lift (x2 := tw m 1) (d := sl m 3 32) (k := snB m) hn (by rw [eo 1 (by decide), n1]; exact hx) h41 hk (sl_len _ _ _) (isB_sl hB _ _)
    exact ⟨r1, r2, by rw [eo 0 (by decide)]; exact n0⟩
/-- a height was entered -/
theorem risen {x2 : Nat} {d : List Nat} {k : Bk} (hp : pe n = -1) (hr : riC F g H T ct hd pe n x2 (aLift X n x2 d k) S) (gi : GI F H T G (aLift X n x2 d k)) (gk : giK (wN (aLift X n x2 d k) n)) (hu : wN X n 0 = 1) (hA : aRule w n T F = upB (aRise X n T x2 d k) n) (hx : m6 g H n s0 S) (k1 : k1P F g H T s0 ct hd w pe n t rec rok Q) (k2 : k2P F g H T s0 ct hd w pe n t rec rok Q) : wp (rok (some (nd g n)) (nI (t + 1)) S) (rec (some (nd g n)) (nI (t + 1)) S) Q := by
  have hu' : wN (aLift X n x2 d k) n 0 = 1 := by rw [aLift_N (by omega)]; exact hu
  unfold riC at hr
  unfold aRise at hA
  by_cases c : 40 < x2
  · rw [if_pos c] at hA
    have e : (fun m => if m = n then (if 40 < x2 then -1 else 0) else pe m) = pe := funext fun m => by
      by_cases q : m = n
      · rw [if_pos q, if_pos c, q, hp]
      · rw [if_neg q]
    rw [e] at hr
    exact k1 S (by rw [hA]; exact hr.re) (by rw [hA]; exact ruU_up _) hx
  · rw [if_neg c] at hA
    have e : (fun m => if m = n then (if 40 < x2 then -1 else 0) else pe m) = fun m => if m = n then ((0 : Nat) : Int) else pe m := funext fun m => by
      by_cases q : m = n
      · rw [if_pos q, if_pos q, if_neg c]
        rfl
      · rw [if_neg q, if_neg q]
    rw [e] at hr
    refine k2 S _ 0 hr ⟨⟨G, gi⟩, gk, hu', by rw [aLift_1]; omega, by decide, Or.inr ⟨?_, aLift_0 (by omega)⟩, ?_, ?_⟩ hA hx
    · rw [aLift_0 (by omega)]
      exact Int.le_refl _
    · rw [aLift_m (by omega)]
      decide
    · rw [aLift_m (by omega)]
      decide
/-- a block was adopted -/
theorem adopted {c : List Nat} (hp : pe n = -1) (gi : GI F H T G w) (hn : n < H) (hu : wN w n 0 = 1) (h40 : wN w n 1 ≤ 40) (hw : blkWf T c) (hB : isB c) (ad : adP F g H T ct hd w pe n c S) (hA : aRule w n T F = upB (aDecide w n T c) n) (hx : m6 g H n s0 S) (k1 : k1P F g H T s0 ct hd w pe n t rec rok Q) (k2 : k2P F g H T s0 ct hd w pe n t rec rok Q) : wp (rok (some (nd g n)) (nI (t + 1)) S) (rec (some (nd g n)) (nI (t + 1)) S) Q := by
  unfold aDecide at hA
  rcases ad with ⟨a1, a2⟩ | ⟨a1, a2⟩
  · rw [if_pos a1] at hA
    obtain ⟨g1, g2, g3⟩ := gi.dv hn h40 hw hB a1
    exact risen hp a2 g1 g2 (by rw [g3]; exact hu) hA hx k1 k2
  · rw [if_neg (by rw [a1]; decide)] at hA
    exact k1 S (by rw [hA]; exact a2.re) (by rw [hA]; exact ruU_up _) hx
theorem st_63 (hN : 200 ≤ N) (h : CR F g H T S ct hd w pe) (hn : n < H) (hl : hd.length ≤ 25) (gi : GI F H T G w) (gk : giK (wN w n)) (hu : wN w n 0 = 1) (h40 : wN w n 1 ≤ 40) (hp : pe n = -1) (hf : cI S 5 (nd g n + 6) = nI 0) (hch : chO w n) (hnd : nDp (wP w n)) (hx : m6 g H n s0 S) (k0 : k0P F g H T s0 ct hd w pe n Q) (k1 : k1P F g H T s0 ct hd w pe n t rec rok Q) (k2 : k2P F g H T s0 ct hd w pe n t rec rok Q) (hA : aRule w n T F = aR0 w n T F) : wp (KO_X7_settle_63 N g H T rok (some (nd g n)) (nI t) (nI 0) S) (KF_X7_settle_63 N g H T rec (some (nd g n)) (nI t) (nI 0) S) Q := by
  have cb := h.1.bb
  have gn := gi.2.1 n hn
  have c := decides_C (N := N) hN h hn hl gn gk hu h40 hp hf hch hnd
  unfold KO_X7_settle_63 KF_X7_settle_63
  refine wp_pos (show nI 0 = 0 from rfl) (wp_call c (fun q => ?_))
  generalize k_X7_decides N g H T S (some (nd g n)) = z at q ⊢
  obtain ⟨z1, S1⟩ := z
  show wp (KO_X7_settle_70 N g H T rok (some (nd g n)) (nI t) z1 S1) (KF_X7_settle_70 N g H T rec (some (nd g n)) (nI t) z1 S1) Q
  rcases q with ⟨j, m, q1, q2, q3, q4, q5⟩ | ⟨q1, r, m, q2, q3, q4, q5, q6⟩ | ⟨q1, q2, q3, q4, q5, q6⟩
  · have q3 : z1 = nI 1 := q3
    obtain ⟨j1, -, -⟩ := lst_inv T q1
    have e : aRule w n T F = upB (aDecide w n T (m.drop 1)) n := by
      rw [hA]
      unfold aR0
      rw [q1]
      show upB (aDecide w n T (((wY w n 6 j).getD []).drop 1)) n = _
      rw [q2]
      rfl
    obtain ⟨d1, d2, d3, d4, d5⟩ := gn.d j m (by omega) q2
    rw [q3]
    unfold KO_X7_settle_70 KF_X7_settle_70
    exact wp_neg (show ¬ nI 1 = 0 by decide) (go_127 (adopted hp gi hn hu h40 d3 (isB_drop d4 _) q4 e (hx.trans q5) k1 k2))
  · have q4 : z1 = nI 1 := q4
    obtain ⟨j1, -, -⟩ := lst_inv 16 q2
    have e : aRule w n T F = upB (aDecide w n T (m.drop 6)) n := by
      rw [hA]
      unfold aR0
      rw [q1, q2]
      show upB (aDecide w n T (((wY w n 4 (16 * ((wN w n 1).toNat % 2) + r)).getD []).drop 6)) n = _
      rw [q3]
      rfl
    obtain ⟨d1, d2, d3, d4, d5, d6, -⟩ := gn.hd ((wN w n 1).toNat % 2) r m (by omega) j1 q3
    rw [q4]
    unfold KO_X7_settle_70 KF_X7_settle_70
    exact wp_neg (show ¬ nI 1 = 0 by decide) (go_127 (adopted hp gi hn hu h40 d5.2.2.1 (isB_drop d6 _) q5 e (hx.trans q6) k1 k2))
  · have q3 : z1 = nI 0 := q3
    rw [q3]
    refine st_70 hN q4 hn hl gi gk hu h40 hp q5 (hx.trans q6) k0 k1 k2 ?_
    rw [hA]
    unfold aR0
    rw [q1, q2]
theorem st_45 (hN : 200 ≤ N) (h : CR F g H T S ct hd w pe) (hn : n < H) (hl : hd.length ≤ 25) (gi : GI F H T G w) (gk : giK (wN w n)) (hu : wN w n 0 = 1) (h40 : wN w n 1 ≤ 40) (hp : pe n = -1) (hf : cI S 5 (nd g n + 6) = nI 0) (hch : chO w n) (hnd : nDp (wP w n)) (hx : m6 g H n s0 S) (k0 : k0P F g H T s0 ct hd w pe n Q) (k1 : k1P F g H T s0 ct hd w pe n t rec rok Q) (k2 : k2P F g H T s0 ct hd w pe n t rec rok Q) : wp (KO_X7_settle_45 N g H T rok (some (nd g n)) (nI t) S) (KF_X7_settle_45 N g H T rec (some (nd g n)) (nI t) S) Q := by
  have cb := h.1.bb
  have gn := gi.2.1 n hn
  have o := gn.ok h.1 gk
  have c := takes_C (N := N) hN h hn hl gn gk hu h40 hp
  have e18 : cI S 18 (nd g n) = -1 := by
    rw [(h.node hn).1.2.2.2.2.2.2.2.2.2, hp]
    rfl
  unfold KO_X7_settle_45 KF_X7_settle_45
  rw [zsome, e18]
  refine wp_and someN (wp_pos (by decide) (wp_call c (fun q => ?_)))
  generalize k_X7_takes N g H T S (some (nd g n)) = z at q ⊢
  obtain ⟨z1, S1⟩ := z
  show wp (KO_X7_settle_63 N g H T rok (some (nd g n)) (nI t) z1 S1) (KF_X7_settle_63 N g H T rec (some (nd g n)) (nI t) z1 S1) Q
  rcases q with ⟨j, m, q1, q2, q3, q4, q5⟩ | ⟨q1, q2⟩
  · have q3 : z1 = nI 1 := q3
    obtain ⟨j1, j2, -⟩ := lst_inv T q1
    have e : aRule w n T F = upB (aTake w n T m) n := by
      unfold aRule
      rw [q1]
      show upB (aTake w n T ((wY w n 3 j).getD [])) n = _
      rw [q2]
      rfl
    obtain ⟨d1, d2, d3, d4, d5⟩ := gn.s j m (by omega) q2
    have sn := o.sn j m j1 j2 q2
    obtain ⟨m', s1, s2, s3⟩ := j2
    rw [q2] at s1
    rw [← Option.some.inj s1] at s2
    rw [q3]
    unfold KO_X7_settle_63 KF_X7_settle_63
    refine wp_neg (show ¬ nI 1 = 0 by decide) (go_127 ?_)
    unfold aTake at e
    rcases q4 with ⟨a1, a2⟩ | ⟨a1, a2⟩
    · rw [if_pos a1] at e
      obtain ⟨g1, g2, g3⟩ := gi.tv hn s2 sn.2.1 sn.2.2 d4 a1
      exact risen hp a2 g1 g2 (by rw [g3]; exact hu) e (hx.trans q5) k1 k2
    · rw [if_neg (by rw [a1]; decide)] at e
      exact k1 S1 (by rw [e]; exact a2.re) (by rw [e]; exact ruU_up _) (hx.trans q5)
  · have q3 : z1 = nI 0 := congrArg Prod.fst q2
    have q4 : S1 = S := congrArg Prod.snd q2
    rw [q3, q4]
    refine st_63 hN h hn hl gi gk hu h40 hp hf hch hnd hx k0 k1 k2 ?_
    unfold aRule
    rw [q1]
end
end

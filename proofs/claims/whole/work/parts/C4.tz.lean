section
/-! NO TIMER OF A LAST ROUND'S END WHERE NO HEIGHT IS LEFT -/
def tz (w : Wd) (n : Nat) : Prop := wN w n 1 ≤ 40 ∨ wN w n 11 = -1
def tzf (n : Nat) (w w' : Wd) : Prop := tz w n → tz w' n
section
variable {n T F H b t : Nat} {w w1 w2 : Wd} {m : List Nat}
theorem tzf.refl : tzf n w w := fun h => h
theorem tzf.trans (h : tzf n w w1) (k : tzf n w1 w2) : tzf n w w2 := fun x => k (h x)
theorem tzf.sm (e1 : wN w1 n 1 = wN w n 1) (e2 : wN w1 n 11 = wN w n 11 ∨ wN w1 n 11 = -1) : tzf n w w1 := fun h => by
  rcases e2 with e2 | e2
  · unfold tz
    rw [e1, e2]
    exact h
  · exact Or.inr e2
theorem tzf.same (e1 : wN w1 n 1 = wN w n 1 := by first | rfl | exact N_o _ _ _ _ (by omega) | exact (N_o _ _ _ _ (by omega)).trans (N_o _ _ _ _ (by omega))) (e2 : wN w1 n 11 = wN w n 11 := by first | rfl | exact N_o _ _ _ _ (by omega) | exact (N_o _ _ _ _ (by omega)).trans (N_o _ _ _ _ (by omega))) : tzf n w w1 := tzf.sm e1 (Or.inl e2)
theorem tzf.N {k : Nat} {v : Int} (hk : k ≠ 1) (hk2 : k ≠ 11) : tzf n w (sN w n k v) := tzf.sm (N_o _ _ _ _ (Or.inr (Ne.symm hk))) (Or.inl (N_o _ _ _ _ (Or.inr (Ne.symm hk2))))
theorem tzf.h40 (h : wN w1 n 1 ≤ 40) : tzf n w w1 := fun _ => Or.inl h
theorem tzf.fel (f : fel n w w1) : tzf n w w1 := tzf.sm (f.2.2.2.1 1 (by omega)) (Or.inr (f.2.2.2.2.2.1 11 (by omega)))
theorem tzf.all {P : Nat → Bool} : tzf n w (sK w (pstN (wK w) n (wT w) m P T)) := tzf.same
theorem tzf.post (ht : t < T) : tzf n w (aPost w n t m) := tzf.same
theorem tzf.note {l : List Nat} {f : Nat} : tzf n w (aNote w n l f).2 := by
  cases h : (aNote w n l f).1 with
  | false => exact tzf.fel (aNote_f h)
  | true => exact tzf.same ((aNote_w h).2.1 1 (by omega)) ((aNote_w h).2.1 11 (by omega))
theorem tzf.own {l : List Nat} : tzf n w (aOwn w n l).2 := by
  cases h : (aOwn w n l).1 with
  | false => exact tzf.fel (aOwn_f h)
  | true => exact tzf.same ((aOwn_w h).2.1 1 (by omega)) ((aOwn_w h).2.1 11 (by omega))
theorem tzf.held : tzf n w (aHeld w n m) := by
  unfold aHeld
  split
  · split
    · exact tzf.same
    · exact tzf.refl
  · split
    · exact tzf.same
    · exact tzf.refl
theorem tzf.send : tzf n w (aSend w n T m) := by
  unfold aSend
  have a : tzf n w (aAll (sN (sBy w n 8 (wN w n 17).toNat (some m)) n 17 ((wN w n 17).toNat + 1 : Nat)) n T m) := tzf.same (N_o _ _ _ _ (by omega)) (N_o _ _ _ _ (by omega))
  exact a.trans tzf.held
theorem tzf.vote {k s : Nat} {o : Option (List Nat)} : tzf n w (aVote w n T k s o).2 := by
  unfold aVote
  split
  · exact (tzf.own.trans (tzf.N (by decide) (by decide))).trans tzf.send
  · exact tzf.own
theorem tzf.prop {v : Int} {c : List Nat} : tzf n w (aProp w n T v c).2 := by
  unfold aProp
  split
  · exact tzf.own.trans tzf.send
  · exact tzf.own
theorem aNew_11 {r : Nat} : wN (aNew w n r) n 11 = -1 := by
  show (if n = n then (if 11 = 2 then (r : Int) else if 11 = 3 then 0 else if 6 ≤ 11 ∧ 11 ≤ 8 then 0 else if 11 = 9 then ((wT w + 4 + r : Nat) : Int) else if 11 = 10 ∨ 11 = 11 then -1 else w.1 n 11) else w.1 n 11) = -1
  rw [if_pos rfl, if_neg (by decide), if_neg (by decide), if_neg (by decide), if_neg (by decide), if_pos (by decide)]
theorem tzf.begin {r : Nat} : tzf n w (aBegin w n T r) := by
  unfold aBegin
  have o := wfr.own (w := w) (n := n) (t := ownT w n 2 [r])
  have a : tzf n w (aNew (aOwn w n (ownT w n 2 [r])).2 n r) := tzf.own.trans (tzf.sm (aNew_N _ _ _ (by omega)) (Or.inr aNew_11))
  split
  · split
    · split
      · exact a.trans tzf.prop
      · exact a.trans tzf.prop
    · exact a
  · exact tzf.own
theorem tz_lift {x2 : Nat} {d : List Nat} {k : Bk} : tz (aLift w n x2 d k) n := Or.inr (aLift_m (by omega))
theorem tz_rise {x2 : Nat} {d : List Nat} {k : Bk} : tz (aRise w n T x2 d k) n := by
  unfold aRise
  split
  · exact tz_lift
  · exact tzf.begin tz_lift
theorem tzf.dec {c : List Nat} : tzf n w (aDecide w n T c) := by
  unfold aDecide
  split
  · exact fun _ => tz_rise
  · exact tzf.note
theorem tzf.take : tzf n w (aTake w n T m) := by
  unfold aTake aSnapN
  have o := tzf.note (w := w) (n := n) (l := snT m) (f := snAt w n)
  cases hb : (aNote w n (snT m) (snAt w n)).1 with
  | false => exact o
  | true => exact fun _ => tz_rise
theorem tzf.r8 (h4 : wN w n 1 ≤ 40) : tzf n w (aR8 w n T F).2 := by
  unfold aR8
  split
  · exact tzf.h40 (by
      show wN (sN (sN w n 8 1) n 11 _) n 1 ≤ 40
      rw [N_o _ _ _ _ (by omega), N_o _ _ _ _ (by omega)]
      exact h4)
  · exact tzf.refl
theorem tzf.r3 (h4 : wN w n 1 ≤ 40) : tzf n w (aR3 w n T F).2 := by
  unfold aR3
  by_cases c : wN w n 3 = 1 ∧ 2 * F + 1 ≤ cRd w n 0 (wN w n 2).toNat 1 [] T
  · rw [cif_pos c]; exact tzf.vote
  · rw [cif_neg c]
    unfold aR4
    by_cases c : wN w n 3 = 1 ∧ wN w n 7 = 0 ∧ 2 * F + 1 ≤ cRd w n 0 (wN w n 2).toNat 0 [] T
    · rw [cif_pos c]; exact (tzf.N (by decide) (by decide)).trans (tzf.N (by decide) (by decide))
    · rw [cif_neg c]; exact tzf.r8 h4
theorem tzf.pre : tzf n w (aPre w n T m).2 := by
  unfold aPre
  split
  · exact tzf.vote
  · exact tzf.vote
theorem tzf.r5 {c : List Nat} : tzf n w (aR5 w n T c).2 := by
  unfold aR5
  refine (tzf.N (by decide) (by decide) : tzf n w (sN w n 6 1)).trans ?_
  generalize sN w n 6 1 = w1
  unfold aR5a
  split
  · split
    · exact tzf.refl
    · unfold aR5v
      split
      · exact tzf.own.trans tzf.same
      · exact tzf.own
  · split
    · exact tzf.vote
    · unfold aR5l
      split
      · exact (tzf.own.trans (tzf.same : tzf n _ (aLk _ n (wN w1 n 2) c))).trans tzf.vote
      · exact tzf.own
theorem tzf.rule {G : Gh} (g : GI F H T G w) (hn : n < H) (h4 : wN w n 1 ≤ 40) : tzf n w (aRule w n T F).2 := by
  have gn := g.2.1 n hn
  have cb := g.1.b
  unfold aRule
  cases e1 : lst (snF w n T F) T with
  | some s =>
    obtain ⟨s1, s2, s3⟩ := lst_inv T e1
    obtain ⟨m, m1, m2, m3⟩ := s2
    show tzf n w (aTake w n T ((wY w n 3 s).getD []))
    rw [m1]
    exact tzf.take
  | none =>
    show tzf n w (aR0 w n T F).2
    unfold aR0
    cases e2 : lst (deS w n T F) T with
    | some s =>
      obtain ⟨s1, s2, s3⟩ := lst_inv T e2
      obtain ⟨m, m1, m2, m3⟩ := s2
      obtain ⟨d1, d2, d3, d4, d5⟩ := gn.d s m (by omega) m1
      show tzf n w (aDecide w n T (((wY w n 6 s).getD []).drop 1))
      rw [m1]
      exact tzf.dec
    | none =>
      show tzf n w (match lst (deH w n T F) 16 with
        | some r => upB (aDecide w n T (((wY w n 4 (16 * ((wN w n 1).toNat % 2) + r)).getD []).drop 6)) n
        | none => aR1 w n T F).2
      cases e3 : lst (deH w n T F) 16 with
      | some r =>
        obtain ⟨s1, s2, s3⟩ := lst_inv 16 e3
        obtain ⟨m, m1, m2, m3⟩ := s2
        obtain ⟨b1, b2, b3, b4, b5, b6, b7, b8⟩ := gn.hd _ r m (by omega) s1 m1
        show tzf n w (aDecide w n T (((wY w n 4 (16 * ((wN w n 1).toNat % 2) + r)).getD []).drop 6))
        rw [m1]
        exact tzf.dec
      | none =>
        show tzf n w (aR1 w n T F).2
        unfold aR1
        split
        · exact tzf.begin
        · unfold aR2
          split
          · split
            · exact tzf.r8 h4
            · rename_i m _
              by_cases c : maV w n T F m
              · rw [cif_pos c]; exact tzf.pre
              · rw [cif_neg c]; exact tzf.r8 h4
          · split
            · exact tzf.r3 h4
            · rename_i m _
              by_cases c : wN w n 6 = 0 ∧ 2 * F + 1 ≤ cRd w n 0 (wN w n 2).toNat 2 (idB (m.drop 6)) T ∧ aVal w n (some (m.drop 6))
              · rw [cif_pos c]; exact tzf.r5
              · rw [cif_neg c]; exact tzf.r3 h4
theorem tzf.runs (hn : n < H) : ∀ k b w, GK F H T w → tzf n w (aRuns n T F k b w)
  | 0, _, _, _ => tzf.refl
  | k + 1, b, w, g => by
    unfold aRuns
    by_cases c : b = true ∧ wN w n 1 ≤ 40
    · rw [if_pos c]
      obtain ⟨G, g1⟩ := g.1
      exact (tzf.rule g1 hn c.2).trans (tzf.runs hn k _ _ (g.of wfr.rule (g1.rule (g.2 n hn) hn c.2)))
    · rw [if_neg c]
      exact tzf.refl
theorem tzf.rules (g : GK F H T w) (hn : n < H) : tzf n w (aRules w n T F) := tzf.runs hn 5000 _ w g
theorem tzf.kp : tzf n w (aKp w n m).2 := by
  unfold aKp
  split
  · exact tzf.same
  · exact tzf.refl
theorem tzf.ev {y : List Nat} : tzf n w (aEv w n T m y) := by
  unfold aEv
  split
  · exact tzf.kp.trans tzf.all
  · exact tzf.kp
theorem tzf.arr (hb : b < T) : tzf n w (aArr w n T b m) := by
  have two : ∀ w, tzf n w (aArr2 w n T b m) := fun w => by
    unfold aArr2
    split
    · split
      · exact tzf.same
      · exact tzf.refl
    · split
      · split
        · unfold aArP
          split
          · split
            · exact (tzf.same : tzf n w (sBy w n 4 (hpI m) (some m))).trans tzf.all
            · split
              · exact tzf.refl
              · exact tzf.ev
          · exact tzf.refl
        · unfold aArV
          split
          · exact (tzf.same : tzf n w (sBy w n 5 (vpI m) (some m))).trans tzf.all
          · split
            · exact tzf.refl
            · exact tzf.ev
      · exact tzf.refl
  unfold aArr
  split
  · exact (tzf.post hb).trans (two _)
  · exact two w
theorem tzf.ah : tzf n w (aAH w n t T) := tzf.same
theorem tzf.pool {p : List Nat} : tzf n w (aPool w n p).2 := by
  unfold aPool
  split
  · exact tzf.refl
  · exact tzf.same
theorem tzf.got (hb : b < T) : tzf n w (aGot w n T b m) := by
  unfold aGot
  split
  · split
    · exact tzf.pool.trans tzf.all
    · exact tzf.pool
  split
  · split
    · exact tzf.kp.trans tzf.all
    · exact tzf.kp
  split
  · split
    · exact tzf.same
    · exact tzf.refl
  split
  · split
    · exact tzf.post hb
    · exact tzf.refl
  split
  · split
    · exact tzf.ah
    · exact tzf.refl
  · exact tzf.arr hb
theorem tzf.come (hb : b < T) (g : wf T m → GK F H T (aGot w n T b m)) (hn : n < H) : tzf n w (aCome w n T F b m) := by
  unfold aCome
  by_cases c : wf T m
  · rw [cif_pos c]; exact (tzf.got hb).trans (tzf.rules (g c) hn)
  · rw [cif_neg c]; exact tzf.refl
theorem tzf.end_ : tzf n w (aEnd w n T t) := by
  unfold aEnd
  split
  · split
    · exact tzf.vote
    · exact tzf.refl
  split
  · split
    · exact tzf.vote
    · exact tzf.refl
  split
  · exact tzf.begin
  · exact tzf.refl
end
end

section
/-! THE CHAIN HOLDS BLOCKS THAT ARE WELL FORMED -/
def chf (n T : Nat) (w w' : Wd) : Prop := ∀ h, wY w' n 7 h = wY w n 7 h ∨ ∃ c, wY w' n 7 h = some c ∧ blkWf T c
section
variable {n T F H b t : Nat} {w w1 w2 : Wd} {m : List Nat}
theorem chf.refl : chf n T w w := fun _ => Or.inl rfl
theorem chf.trans (h : chf n T w w1) (k : chf n T w1 w2) : chf n T w w2 := fun x => by
  rcases k x with a | a
  · rw [a]; exact h x
  · exact Or.inr a
theorem chf.same (e : ∀ h, wY w1 n 7 h = wY w n 7 h) : chf n T w w1 := fun h => Or.inl (e h)
theorem chf.fel (f : fel n w w1) : chf n T w w1 := chf.same (fun h => f.2.2.2.2.2.2.1 7 h (Or.inr (by decide)))
theorem chf.all {P : Nat → Bool} : chf n T w (sK w (pstN (wK w) n (wT w) m P T)) := chf.same (fun _ => rfl)
theorem chf.post (ht : t < T) : chf n T w (aPost w n t m) := chf.same (fun _ => rfl)
theorem chf.note {l : List Nat} {f : Nat} : chf n T w (aNote w n l f).2 := by
  cases h : (aNote w n l f).1 with
  | false => exact chf.fel (aNote_f h)
  | true => exact chf.same (fun i => by rw [(aNote_w h).2.2.2.1])
theorem chf.own {l : List Nat} : chf n T w (aOwn w n l).2 := by
  cases h : (aOwn w n l).1 with
  | false => exact chf.fel (aOwn_f h)
  | true => exact chf.same (fun i => by rw [(aOwn_w h).2.2.2.2.1])
theorem chf.held : chf n T w (aHeld w n m) := by
  unfold aHeld
  split
  · split
    · exact chf.same (fun h => B_o _ _ _ _ _ (by omega))
    · exact chf.refl
  · split
    · exact chf.same (fun h => B_o _ _ _ _ _ (by omega))
    · exact chf.refl
theorem chf.send : chf n T w (aSend w n T m) := by
  unfold aSend
  have a : chf n T w (aAll (sN (sBy w n 8 (wN w n 17).toNat (some m)) n 17 ((wN w n 17).toNat + 1 : Nat)) n T m) := chf.same (fun h => B_o (w := w) n 8 (wN w n 17).toNat (some m) (n' := n) (f' := 7) (i' := h) (by omega))
  exact a.trans chf.held
theorem chf.vote {k s : Nat} {o : Option (List Nat)} : chf n T w (aVote w n T k s o).2 := by
  unfold aVote
  split
  · exact (chf.own.trans (chf.same (fun _ => rfl) : chf n T _ (sN _ n 3 s))).trans chf.send
  · exact chf.own
theorem chf.prop {v : Int} {c : List Nat} : chf n T w (aProp w n T v c).2 := by
  unfold aProp
  split
  · exact chf.own.trans chf.send
  · exact chf.own
theorem chf.begin {r : Nat} : chf n T w (aBegin w n T r) := by
  unfold aBegin
  have o := wfr.own (w := w) (n := n) (t := ownT w n 2 [r])
  have a : chf n T w (aNew (aOwn w n (ownT w n 2 [r])).2 n r) := chf.own.trans (chf.same (fun _ => rfl))
  split
  · split
    · split
      · exact a.trans chf.prop
      · exact a.trans chf.prop
    · exact a
  · exact chf.own
theorem chf.rise {x2 : Nat} {d : List Nat} {k : Bk} : chf n T w (aRise w n T x2 d k) := by
  have lift : chf n T w (aLift w n x2 d k) := chf.same (fun h => by
    show (if n = n then (if 7 = 0 ∨ 7 = 1 ∨ 7 = 6 then none else if 7 = 4 ∧ (h / 16 = (wN w n 1).toNat % 2 ∨ (wN w n 1).toNat + 1 < x2) then none else if 7 = 5 ∧ (h % 416 / 208 = (wN w n 1).toNat % 2 ∨ (wN w n 1).toNat + 1 < x2) then none else if 7 = 9 then some d else w.2.1 n 7 h) else w.2.1 n 7 h) = _
    rw [if_pos rfl, if_neg (by decide), if_neg (by omega), if_neg (by omega), if_neg (by decide)]
    rfl)
  unfold aRise
  split
  · exact lift
  · exact lift.trans chf.begin
theorem chf.dec1 {c : List Nat} (hc : blkWf T c) : chf n T w (aDec1 w n c) := fun h => by
  show wY (sBy w n 7 (wN w n 1).toNat (some c)) n 7 h = wY w n 7 h ∨ ∃ d, wY (sBy w n 7 (wN w n 1).toNat (some c)) n 7 h = some d ∧ blkWf T d
  by_cases e : h = (wN w n 1).toNat
  · right
    rw [e, B_s]
    exact ⟨c, rfl, hc⟩
  · left
    exact B_o _ _ _ _ _ (Or.inr (Or.inr e))
theorem chf.dec {c : List Nat} (hc : blkWf T c) : chf n T w (aDecide w n T c) := by
  unfold aDecide
  have o := chf.note (T := T) (w := w) (n := n) (l := chT w n c) (f := 2 * (wN w n 1).toNat - 2)
  split
  · exact (o.trans (chf.dec1 hc)).trans chf.rise
  · exact o
theorem chf.take : chf n T w (aTake w n T m) := by
  unfold aTake aSnapN
  have o := wfr.note (w := w) (n := n) (t := snT m) (f := snAt w n)
  cases (aNote w n (snT m) (snAt w n)).1 with
  | false => exact chf.note
  | true => exact (chf.note.trans (chf.same (fun _ => rfl) : chf n T _ (sN _ n 16 (snAt w n)))).trans chf.rise
theorem chf.r8 : chf n T w (aR8 w n T F).2 := by
  unfold aR8
  split
  · exact chf.same (fun _ => rfl)
  · exact chf.refl
theorem chf.r3 : chf n T w (aR3 w n T F).2 := by
  unfold aR3
  by_cases c : wN w n 3 = 1 ∧ 2 * F + 1 ≤ cRd w n 0 (wN w n 2).toNat 1 [] T
  · rw [cif_pos c]; exact chf.vote
  · rw [cif_neg c]
    unfold aR4
    by_cases c : wN w n 3 = 1 ∧ wN w n 7 = 0 ∧ 2 * F + 1 ≤ cRd w n 0 (wN w n 2).toNat 0 [] T
    · rw [cif_pos c]; exact chf.same (fun _ => rfl)
    · rw [cif_neg c]; exact chf.r8
theorem chf.pre : chf n T w (aPre w n T m).2 := by
  unfold aPre
  split
  · exact chf.vote
  · exact chf.vote
theorem chf.r5 {c : List Nat} : chf n T w (aR5 w n T c).2 := by
  unfold aR5
  refine (chf.same (fun _ => rfl) : chf n T w (sN w n 6 1)).trans ?_
  generalize sN w n 6 1 = w1
  unfold aR5a
  split
  · split
    · exact chf.refl
    · unfold aR5v
      split
      · exact chf.own.trans (chf.same (fun h => B_o _ _ _ _ _ (by omega)))
      · exact chf.own
  · split
    · exact chf.vote
    · unfold aR5l
      split
      · exact (chf.own.trans (chf.same (fun h => (B_o _ _ _ _ _ (by omega)).trans (B_o _ _ _ _ _ (by omega))) : chf n T _ (aLk _ n (wN w1 n 2) c))).trans chf.vote
      · exact chf.own
theorem chf.rule {G : Gh} (g : GI F H T G w) (hn : n < H) : chf n T w (aRule w n T F).2 := by
  have gn := g.2.1 n hn
  have cb := g.1.b
  unfold aRule
  cases e1 : lst (snF w n T F) T with
  | some s => exact chf.take
  | none =>
    show chf n T w (aR0 w n T F).2
    unfold aR0
    cases e2 : lst (deS w n T F) T with
    | some s =>
      obtain ⟨s1, s2, s3⟩ := lst_inv T e2
      obtain ⟨m, m1, m2, m3⟩ := s2
      obtain ⟨d1, d2, d3, d4, d5⟩ := gn.d s m (by omega) m1
      show chf n T w (aDecide w n T (((wY w n 6 s).getD []).drop 1))
      rw [m1]
      exact chf.dec d3
    | none =>
      show chf n T w (match lst (deH w n T F) 16 with
        | some r => upB (aDecide w n T (((wY w n 4 (16 * ((wN w n 1).toNat % 2) + r)).getD []).drop 6)) n
        | none => aR1 w n T F).2
      cases e3 : lst (deH w n T F) 16 with
      | some r =>
        obtain ⟨s1, s2, s3⟩ := lst_inv 16 e3
        obtain ⟨m, m1, m2, m3⟩ := s2
        obtain ⟨b1, b2, b3, b4, b5, b6, b7, b8⟩ := gn.hd _ r m (by omega) s1 m1
        show chf n T w (aDecide w n T (((wY w n 4 (16 * ((wN w n 1).toNat % 2) + r)).getD []).drop 6))
        rw [m1]
        exact chf.dec b5.2.2.1
      | none =>
        show chf n T w (aR1 w n T F).2
        unfold aR1
        split
        · exact chf.begin
        · unfold aR2
          split
          · split
            · exact chf.r8
            · rename_i m _
              by_cases c : maV w n T F m
              · rw [cif_pos c]; exact chf.pre
              · rw [cif_neg c]; exact chf.r8
          · split
            · exact chf.r3
            · rename_i m _
              by_cases c : wN w n 6 = 0 ∧ 2 * F + 1 ≤ cRd w n 0 (wN w n 2).toNat 2 (idB (m.drop 6)) T ∧ aVal w n (some (m.drop 6))
              · rw [cif_pos c]; exact chf.r5
              · rw [cif_neg c]; exact chf.r3
theorem chf.runs (hn : n < H) : ∀ k b w, GK F H T w → chf n T w (aRuns n T F k b w)
  | 0, _, _, _ => chf.refl
  | k + 1, b, w, g => by
    unfold aRuns
    by_cases c : b = true ∧ wN w n 1 ≤ 40
    · rw [if_pos c]
      obtain ⟨G, g1⟩ := g.1
      exact (chf.rule g1 hn).trans (chf.runs hn k _ _ (g.of wfr.rule (g1.rule (g.2 n hn) hn c.2)))
    · rw [if_neg c]
      exact chf.refl
theorem chf.rules (g : GK F H T w) (hn : n < H) : chf n T w (aRules w n T F) := chf.runs hn 5000 _ w g
theorem chf.kp : chf n T w (aKp w n m).2 := by
  unfold aKp
  split
  · exact chf.same (fun h => B_o _ _ _ _ _ (by omega))
  · exact chf.refl
theorem chf.ev {y : List Nat} : chf n T w (aEv w n T m y) := by
  unfold aEv
  split
  · exact chf.kp.trans chf.all
  · exact chf.kp
theorem chf.arr (hb : b < T) : chf n T w (aArr w n T b m) := by
  have two : ∀ w, chf n T w (aArr2 w n T b m) := fun w => by
    unfold aArr2
    split
    · split
      · exact chf.same (fun h => B_o _ _ _ _ _ (by omega))
      · exact chf.refl
    · split
      · split
        · unfold aArP
          split
          · split
            · exact (chf.same (fun h => B_o _ _ _ _ _ (by omega)) : chf n T w (sBy w n 4 (hpI m) (some m))).trans chf.all
            · split
              · exact chf.refl
              · exact chf.ev
          · exact chf.refl
        · unfold aArV
          split
          · exact (chf.same (fun h => B_o _ _ _ _ _ (by omega)) : chf n T w (sBy w n 5 (vpI m) (some m))).trans chf.all
          · split
            · exact chf.refl
            · exact chf.ev
      · exact chf.refl
  unfold aArr
  split
  · exact (chf.post hb).trans (two _)
  · exact two w
theorem chf.ah : chf n T w (aAH w n t T) := chf.same (fun _ => rfl)
theorem chf.pool {p : List Nat} : chf n T w (aPool w n p).2 := by
  unfold aPool
  split
  · exact chf.refl
  · exact chf.same (fun _ => rfl)
theorem chf.got (hb : b < T) : chf n T w (aGot w n T b m) := by
  unfold aGot
  split
  · split
    · exact chf.pool.trans chf.all
    · exact chf.pool
  split
  · split
    · exact chf.kp.trans chf.all
    · exact chf.kp
  split
  · split
    · exact chf.same (fun h => B_o _ _ _ _ _ (by omega))
    · exact chf.refl
  split
  · split
    · exact chf.post hb
    · exact chf.refl
  split
  · split
    · exact chf.ah
    · exact chf.refl
  · exact chf.arr hb
theorem chf.come (hb : b < T) (g : wf T m → GK F H T (aGot w n T b m)) (hn : n < H) : chf n T w (aCome w n T F b m) := by
  unfold aCome
  by_cases c : wf T m
  · rw [cif_pos c]; exact (chf.got hb).trans (chf.rules (g c) hn)
  · rw [cif_neg c]; exact chf.refl
theorem chf.end_ : chf n T w (aEnd w n T t) := by
  unfold aEnd
  split
  · split
    · exact chf.vote
    · exact chf.refl
  split
  · split
    · exact chf.vote
    · exact chf.refl
  split
  · exact chf.begin
  · exact chf.refl
theorem chf.wake : chf n T w (aWk w n T) := by
  obtain ⟨a1, a2, a3, a4, a5, a6, a7⟩ := aHL_o (w := aWk0 w n) (n := n) (wN w n 17).toNat
  refine chf.same (fun h => ?_)
  show wY (aWk1 (aHL (aWk0 w n) n (wN w n 17).toNat) n) n 7 h = _
  have e : wY (aWk1 (aHL (aWk0 w n) n (wN w n 17).toNat) n) n 7 h = wY (aHL (aWk0 w n) n (wN w n 17).toNat) n 7 h := by
    unfold aWk1
    split <;> rfl
  rw [e, a7 n 7 h (by omega)]
  rfl
/-- the chains' blocks are well formed -/
def chW (H T : Nat) (w : Wd) : Prop := ∀ n h b, n < H → wY w n 7 h = some b → blkWf T b
theorem chW.step (h : chW H T w) (f : ∀ m, m ≠ n → wY w1 m = wY w m) (c : chf n T w w1) : chW H T w1 := fun m i d hm e => by
  by_cases z : m = n
  · rw [z] at e hm
    rcases c i with a | ⟨d', a, a2⟩
    · rw [a] at e; exact h n i d hm e
    · rw [a, Option.some.injEq] at e
      rw [← e]; exact a2
  · rw [f m z] at e
    exact h m i d hm e
theorem chW.wfr (h : chW H T w) (f : wfr n w w1) (c : chf n T w w1) : chW H T w1 := h.step (fun m hm => (f.1 m hm).2.1) c
end
end

section
/-! WHAT IS NEW IN THE SKY IS THE NODE'S, and goes to nodes -/
def kfr (n T : Nat) (w w' : Wd) : Prop := ∀ x ∈ (wK w').1, x ∈ (wK w).1 ∨ (x.1 = n ∧ x.2.1 < T ∧ x.2.2.1 = wT w)
section
variable {n T F H b t : Nat} {w w1 w2 : Wd} {m : List Nat}
theorem kfr.refl : kfr n T w w := fun _ h => Or.inl h
theorem kfr.trans (h : kfr n T w w1) (e : wT w1 = wT w) (k : kfr n T w1 w2) : kfr n T w w2 := fun x hx => by
  rcases k x hx with a | a
  · exact h x a
  · rw [e] at a
    exact Or.inr a
theorem kfr.same (e : wK w1 = wK w) : kfr n T w w1 := fun x hx => by rw [e] at hx; exact Or.inl hx
theorem kfr.fel (f : fel n w w1) : kfr n T w w1 := kfr.same f.2.1
theorem kfr.all {P : Nat → Bool} : kfr n T w (sK w (pstN (wK w) n (wT w) m P T)) := fun x hx => by
  rcases pstN_mem T hx with a | ⟨t, a, c⟩
  · exact Or.inl a
  · rw [c]; exact Or.inr ⟨rfl, a, rfl⟩
theorem kfr.post (ht : t < T) : kfr n T w (aPost w n t m) := fun x hx => by
  rcases pst_mem hx with a | a
  · exact Or.inl a
  · rw [a]; exact Or.inr ⟨rfl, ht, rfl⟩
theorem kfr.note {l : List Nat} {f : Nat} : kfr n T w (aNote w n l f).2 := by
  cases h : (aNote w n l f).1 with
  | false => exact kfr.fel (aNote_f h)
  | true => exact kfr.same (aNote_w h).2.2.2.2.2
theorem kfr.own {l : List Nat} : kfr n T w (aOwn w n l).2 := by
  cases h : (aOwn w n l).1 with
  | false => exact kfr.fel (aOwn_f h)
  | true => exact kfr.same (aOwn_w h).2.2.2.2.2.2.1
theorem kfr.send : kfr n T w (aSend w n T m) := by
  unfold aSend
  have o := (aHeld_o (w := aAll (sN (sBy w n 8 (wN w n 17).toNat (some m)) n 17 ((wN w n 17).toNat + 1 : Nat)) n T m) (n := n) (m := m)).2.2.2.1
  intro x hx
  rw [o] at hx
  exact kfr.all (w := sN (sBy w n 8 (wN w n 17).toNat (some m)) n 17 ((wN w n 17).toNat + 1 : Nat)) x hx
theorem kfr.vote {k s : Nat} {o : Option (List Nat)} : kfr n T w (aVote w n T k s o).2 := by
  unfold aVote
  split
  · exact (kfr.own.trans wfr.own.2.1 (kfr.same rfl : kfr n T _ (sN _ n 3 s))).trans wfr.own.2.1 kfr.send
  · exact kfr.own
theorem kfr.prop {v : Int} {c : List Nat} : kfr n T w (aProp w n T v c).2 := by
  unfold aProp
  split
  · exact kfr.own.trans wfr.own.2.1 kfr.send
  · exact kfr.own
theorem kfr.begin {r : Nat} : kfr n T w (aBegin w n T r) := by
  unfold aBegin
  have o := wfr.own (w := w) (n := n) (t := ownT w n 2 [r])
  have a : kfr n T w (aNew (aOwn w n (ownT w n 2 [r])).2 n r) := kfr.own.trans o.2.1 (kfr.same rfl)
  split
  · split
    · split
      · exact a.trans o.2.1 kfr.prop
      · exact a.trans o.2.1 kfr.prop
    · exact a
  · exact kfr.own
theorem kfr.rise {x2 : Nat} {d : List Nat} {k : Bk} : kfr n T w (aRise w n T x2 d k) := by
  unfold aRise
  split
  · exact kfr.same rfl
  · exact (kfr.same rfl : kfr n T w (aLift w n x2 d k)).trans rfl kfr.begin
theorem kfr.dec {c : List Nat} : kfr n T w (aDecide w n T c) := by
  unfold aDecide
  have o := wfr.note (w := w) (n := n) (t := chT w n c) (f := 2 * (wN w n 1).toNat - 2)
  split
  · exact (kfr.note.trans o.2.1 (kfr.same rfl : kfr n T _ (aDec1 _ n c))).trans o.2.1 kfr.rise
  · exact kfr.note
theorem kfr.take : kfr n T w (aTake w n T m) := by
  unfold aTake aSnapN
  have o := wfr.note (w := w) (n := n) (t := snT m) (f := snAt w n)
  cases (aNote w n (snT m) (snAt w n)).1 with
  | false => exact kfr.note
  | true => exact (kfr.note.trans o.2.1 (kfr.same rfl : kfr n T _ (sN _ n 16 (snAt w n)))).trans o.2.1 kfr.rise
theorem kfr.r8 : kfr n T w (aR8 w n T F).2 := by
  unfold aR8
  split
  · exact kfr.same rfl
  · exact kfr.refl
theorem kfr.r3 : kfr n T w (aR3 w n T F).2 := by
  unfold aR3
  by_cases c : wN w n 3 = 1 ∧ 2 * F + 1 ≤ cRd w n 0 (wN w n 2).toNat 1 [] T
  · rw [cif_pos c]; exact kfr.vote
  · rw [cif_neg c]
    unfold aR4
    by_cases c : wN w n 3 = 1 ∧ wN w n 7 = 0 ∧ 2 * F + 1 ≤ cRd w n 0 (wN w n 2).toNat 0 [] T
    · rw [cif_pos c]; exact kfr.same rfl
    · rw [cif_neg c]; exact kfr.r8
theorem kfr.pre : kfr n T w (aPre w n T m).2 := by
  unfold aPre
  split
  · exact kfr.vote
  · exact kfr.vote
theorem kfr.r5 {c : List Nat} : kfr n T w (aR5 w n T c).2 := by
  unfold aR5
  refine (kfr.same rfl : kfr n T w (sN w n 6 1)).trans rfl ?_
  generalize sN w n 6 1 = w1
  unfold aR5a
  split
  · split
    · exact kfr.refl
    · unfold aR5v
      split
      · exact kfr.own.trans wfr.own.2.1 (kfr.same rfl)
      · exact kfr.own
  · split
    · exact kfr.vote
    · unfold aR5l
      split
      · exact (kfr.own.trans wfr.own.2.1 (kfr.same rfl : kfr n T _ (aLk _ n (wN w1 n 2) c))).trans wfr.own.2.1 kfr.vote
      · exact kfr.own
theorem kfr.rule : kfr n T w (aRule w n T F).2 := by
  unfold aRule
  split
  · exact kfr.take
  · unfold aR0
    split
    · exact kfr.dec
    · split
      · exact kfr.dec
      · unfold aR1
        split
        · exact kfr.begin
        · unfold aR2
          split
          · split
            · exact kfr.r8
            · rename_i m _
              by_cases c : maV w n T F m
              · rw [cif_pos c]; exact kfr.pre
              · rw [cif_neg c]; exact kfr.r8
          · split
            · exact kfr.r3
            · rename_i m _
              by_cases c : wN w n 6 = 0 ∧ 2 * F + 1 ≤ cRd w n 0 (wN w n 2).toNat 2 (idB (m.drop 6)) T ∧ aVal w n (some (m.drop 6))
              · rw [cif_pos c]; exact kfr.r5
              · rw [cif_neg c]; exact kfr.r3
theorem kfr.runs : ∀ k b w, kfr n T w (aRuns n T F k b w)
  | 0, _, _ => kfr.refl
  | k + 1, b, w => by
    unfold aRuns
    split
    · exact kfr.rule.trans wfr.rule.2.1 (kfr.runs k _ _)
    · exact kfr.refl
theorem kfr.rules : kfr n T w (aRules w n T F) := kfr.runs 5000 _ w
theorem kfr.kp : kfr n T w (aKp w n m).2 := by
  unfold aKp
  split
  · exact kfr.same rfl
  · exact kfr.refl
theorem kfr.ev {y : List Nat} : kfr n T w (aEv w n T m y) := by
  unfold aEv
  split
  · exact kfr.kp.trans wfr.kp.2.1 kfr.all
  · exact kfr.kp
theorem kfr.arr (hb : b < T) : kfr n T w (aArr w n T b m) := by
  have two : ∀ w, kfr n T w (aArr2 w n T b m) := fun w => by
    unfold aArr2
    split
    · split
      · exact kfr.same rfl
      · exact kfr.refl
    · split
      · split
        · unfold aArP
          split
          · split
            · exact (kfr.same rfl : kfr n T w (sBy w n 4 (hpI m) (some m))).trans rfl kfr.all
            · split
              · exact kfr.refl
              · exact kfr.ev
          · exact kfr.refl
        · unfold aArV
          split
          · exact (kfr.same rfl : kfr n T w (sBy w n 5 (vpI m) (some m))).trans rfl kfr.all
          · split
            · exact kfr.refl
            · exact kfr.ev
      · exact kfr.refl
  unfold aArr
  split
  · exact (kfr.post hb).trans rfl (two _)
  · exact two w
theorem kfr.ah (hb : t < T) : kfr n T w (aAH w n t T) := by
  have row : ∀ r k p, ∀ x ∈ (anR w n t T r k p).1, x ∈ k.1 ∨ (x.1 = n ∧ x.2.1 < T ∧ x.2.2.1 = wT w) := fun r k p => by
    induction p with
    | zero => intro x hx; exact Or.inl hx
    | succ p ih =>
      intro x hx
      have hx : x ∈ (psO (anR w n t T r k p) n t (wT w) (anM w n T r p)).1 := hx
      cases e : anM w n T r p with
      | none =>
        rw [e] at hx
        exact ih x hx
      | some y =>
        rw [e] at hx
        rcases pst_mem hx with a | a
        · exact ih x a
        · rw [a]; exact Or.inr ⟨rfl, hb, rfl⟩
  have all : ∀ r, ∀ x ∈ (anA w n t T r).1, x ∈ (wK w).1 ∨ (x.1 = n ∧ x.2.1 < T ∧ x.2.2.1 = wT w) := fun r => by
    induction r with
    | zero => intro x hx; exact Or.inl hx
    | succ r ih =>
      intro x hx
      rcases row r _ _ x hx with a | a
      · exact ih x a
      · exact Or.inr a
  exact all 16
theorem kfr.pool {p : List Nat} : kfr n T w (aPool w n p).2 := by
  unfold aPool
  split
  · exact kfr.refl
  · exact kfr.same rfl
theorem kfr.got (hb : b < T) : kfr n T w (aGot w n T b m) := by
  unfold aGot
  split
  · split
    · exact kfr.pool.trans wfr.pool.2.1 kfr.all
    · exact kfr.pool
  split
  · split
    · exact kfr.kp.trans wfr.kp.2.1 kfr.all
    · exact kfr.kp
  split
  · split
    · exact kfr.same rfl
    · exact kfr.refl
  split
  · split
    · exact kfr.post hb
    · exact kfr.refl
  split
  · split
    · exact kfr.ah hb
    · exact kfr.refl
  · exact kfr.arr hb
theorem kfr.come (hb : b < T) : kfr n T w (aCome w n T F b m) := by
  unfold aCome
  by_cases c : wf T m
  · rw [cif_pos c]; exact (kfr.got hb).trans wfr.got.2.1 kfr.rules
  · rw [cif_neg c]; exact kfr.refl
theorem kfr.end_ : kfr n T w (aEnd w n T t) := by
  unfold aEnd
  split
  · split
    · exact kfr.vote
    · exact kfr.refl
  split
  · split
    · exact kfr.vote
    · exact kfr.refl
  split
  · exact kfr.begin
  · exact kfr.refl
theorem kfr.wake : kfr n T w (aWk w n T) := by
  unfold aWk
  obtain ⟨a1, a2, a3, a4, a5, a6, a7⟩ := aHL_o (w := aWk0 w n) (n := n) (wN w n 17).toNat
  have k1 : wK (aWk1 (aHL (aWk0 w n) n (wN w n 17).toNat) n) = wK w := by
    unfold aWk1
    split <;> exact a4
  have t1 : wT (aWk1 (aHL (aWk0 w n) n (wN w n 17).toNat) n) = wT w := by
    unfold aWk1
    split <;> exact a5
  exact (kfr.same k1).trans t1 kfr.all
end
/-- flights are between nodes, and not of times to come -/
def skT (T : Nat) (w : Wd) : Prop := ∀ x ∈ (wK w).1, x.1 < T ∧ x.2.1 < T ∧ x.2.2.1 ≤ wT w
theorem skT.kfr {n T : Nat} {w w' : Wd} (h : skT T w) (f : kfr n T w w') (hn : n < T) (e : wT w' = wT w) : skT T w' := fun x hx => by
  rw [e]
  rcases f x hx with a | ⟨a, b, c⟩
  · exact h x a
  · exact ⟨by omega, b, by omega⟩
end

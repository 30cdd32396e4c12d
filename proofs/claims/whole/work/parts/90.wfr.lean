section
/-! WHAT A NODE'S DOING LEAVES AS IT IS: the other nodes, ticks, tape; a node is up as before, or down -/
def wfr (n : Nat) (w w' : Wd) : Prop := (∀ m, m ≠ n → wN w' m = wN w m ∧ wY w' m = wY w m ∧ wP w' m = wP w m ∧ wX w' m = wX w m) ∧ wT w' = wT w ∧ wL w' = wL w ∧ (wN w' n 0 = wN w n 0 ∨ wN w' n 0 = 0)
section
variable {n T : Nat} {w w1 w2 : Wd}
theorem wfr.refl : wfr n w w := ⟨fun _ _ => ⟨rfl, rfl, rfl, rfl⟩, rfl, rfl, Or.inl rfl⟩
theorem wfr.trans (h : wfr n w w1) (k : wfr n w1 w2) : wfr n w w2 := by
  obtain ⟨h1, h2, h3, h4⟩ := h
  obtain ⟨k1, k2, k3, k4⟩ := k
  refine ⟨fun m hm => ?_, k2.trans h2, k3.trans h3, ?_⟩
  · obtain ⟨a, b, c, d⟩ := h1 m hm
    obtain ⟨a', b', c', d'⟩ := k1 m hm
    exact ⟨a'.trans a, b'.trans b, c'.trans c, d'.trans d⟩
  · rcases k4 with k4 | k4
    · rw [k4]; exact h4
    · exact Or.inr k4
theorem wfr.N {k : Nat} {v : Int} (h : k ≠ 0) : wfr n w (sN w n k v) := ⟨fun m hm => ⟨funext fun j => N_o _ _ _ _ (Or.inl hm), rfl, rfl, rfl⟩, rfl, rfl, Or.inl (N_o _ _ _ _ (Or.inr (Ne.symm h)))⟩
theorem wfr.B {f i : Nat} {o : Option (List Nat)} : wfr n w (sBy w n f i o) := ⟨fun m hm => ⟨rfl, funext fun f' => funext fun i' => B_o _ _ _ _ _ (Or.inl hm), rfl, rfl⟩, rfl, rfl, Or.inl rfl⟩
theorem wfr.P {l : List (List Nat)} : wfr n w (sP w n l) := ⟨fun m hm => ⟨rfl, rfl, by
  show (if m = n then l else _) = _
  rw [if_neg hm]
  rfl, rfl⟩, rfl, rfl, Or.inl rfl⟩
theorem wfr.K {k : Sk} : wfr n w (sK w k) := ⟨fun m hm => ⟨rfl, rfl, rfl, rfl⟩, rfl, rfl, Or.inl rfl⟩
theorem wfr.wr {t : List Nat} {f : Nat} : wfr n w (aWr w n t f) := ⟨fun m hm => ⟨funext fun j => aWr_N _ _ _ _ (Or.inl hm), rfl, rfl, funext fun s => funext fun i => by
  show (if m = n ∧ _ then _ else _) = _
  rw [if_neg (fun z => hm z.1)]
  rfl⟩, rfl, rfl, Or.inl (aWr_N _ _ _ _ (Or.inr ⟨by decide, by decide, by decide⟩))⟩
theorem wfr.fall : wfr n w (aFall w n) := ⟨fun m hm => ⟨funext fun j => aFall_N _ _ (Or.inl hm), funext fun f => funext fun i => aFall_Y _ _ (Or.inl hm), by
  show (if m = n then [] else _) = _
  rw [if_neg hm]
  rfl, rfl⟩, rfl, rfl, Or.inr (by
    show (if n = n ∧ 0 = 0 then 0 else _) = _
    rw [if_pos ⟨rfl, rfl⟩])⟩
theorem wfr.note {t : List Nat} {f : Nat} : wfr n w (aNote w n t f).2 := by
  unfold aNote
  split
  · exact wfr.wr.trans wfr.fall
  · exact wfr.wr.trans (wfr.N (by decide))
theorem wfr.own {t : List Nat} : wfr n w (aOwn w n t).2 := by
  unfold aOwn
  split
  · exact wfr.note.trans (wfr.N (by decide))
  · exact wfr.note
theorem wfr.held {m : List Nat} : wfr n w (aHeld w n m) := by
  unfold aHeld
  split
  · split
    · exact wfr.B
    · exact wfr.refl
  · split
    · exact wfr.B
    · exact wfr.refl
theorem wfr.all {m : List Nat} : wfr n w (aAll w n T m) := wfr.K
theorem wfr.send {m : List Nat} : wfr n w (aSend w n T m) := by
  unfold aSend
  exact ((wfr.B.trans (wfr.N (by decide))).trans wfr.all).trans wfr.held
theorem wfr.vote {k s : Nat} {o : Option (List Nat)} : wfr n w (aVote w n T k s o).2 := by
  unfold aVote
  split
  · exact (wfr.own.trans (wfr.N (by decide))).trans wfr.send
  · exact wfr.own
theorem wfr.prop {v : Int} {b : List Nat} : wfr n w (aProp w n T v b).2 := by
  unfold aProp
  split
  · exact wfr.own.trans wfr.send
  · exact wfr.own
theorem wfr.new {r : Nat} : wfr n w (aNew w n r) := ⟨fun m hm => ⟨funext fun j => aNew_N _ _ _ (Or.inl hm), rfl, rfl, rfl⟩, rfl, rfl, Or.inl (aNew_N _ _ _ (Or.inr (Or.inl (by decide))))⟩
theorem wfr.begin {r : Nat} : wfr n w (aBegin w n T r) := by
  unfold aBegin
  split
  · split
    · split
      · exact (wfr.own.trans wfr.new).trans wfr.prop
      · exact (wfr.own.trans wfr.new).trans wfr.prop
    · exact wfr.own.trans wfr.new
  · exact wfr.own
theorem wfr.lift {x2 : Nat} {d : List Nat} {k : Bk} : wfr n w (aLift w n x2 d k) := ⟨fun m hm => ⟨funext fun j => aLift_N (Or.inl hm), funext fun f => funext fun i => aLift_Y (Or.inl hm), rfl, rfl⟩, rfl, rfl, Or.inl (aLift_N (Or.inr (Or.inl rfl)))⟩
theorem wfr.rise {x2 : Nat} {d : List Nat} {k : Bk} : wfr n w (aRise w n T x2 d k) := by
  unfold aRise
  split
  · exact wfr.lift
  · exact wfr.lift.trans wfr.begin
theorem wfr.dec {c : List Nat} : wfr n w (aDecide w n T c) := by
  unfold aDecide
  split
  · exact (wfr.note.trans (wfr.B.trans wfr.P)).trans wfr.rise
  · exact wfr.note
theorem wfr.snN {m : List Nat} : wfr n w (aSnapN w n m).2 := by
  unfold aSnapN
  split
  · exact wfr.note.trans (wfr.N (by decide))
  · exact wfr.note
theorem wfr.take {m : List Nat} : wfr n w (aTake w n T m) := by
  unfold aTake
  split
  · exact wfr.snN.trans wfr.rise
  · exact wfr.snN
theorem wfr.r8 {F : Nat} : wfr n w (aR8 w n T F).2 := by
  unfold aR8
  split
  · exact (wfr.N (by decide)).trans (wfr.N (by decide))
  · exact wfr.refl
theorem wfr.pre {m : List Nat} : wfr n w (aPre w n T m).2 := by
  unfold aPre
  split
  · exact wfr.vote
  · exact wfr.vote
theorem wfr.r5v {c : List Nat} : wfr n w (aR5v w n c).2 := by
  unfold aR5v
  split
  · exact (wfr.own.trans wfr.B).trans (wfr.N (by decide))
  · exact wfr.own
theorem wfr.r5l {c : List Nat} : wfr n w (aR5l w n T c).2 := by
  unfold aR5l
  split
  · exact (wfr.own.trans (((wfr.B.trans wfr.B).trans (wfr.N (by decide))).trans (wfr.N (by decide)))).trans wfr.vote
  · exact wfr.own
theorem wfr.r5 {c : List Nat} : wfr n w (aR5 w n T c).2 := by
  unfold aR5 aR5a
  refine (wfr.N (k := 6) (v := 1) (by decide)).trans ?_
  split
  · split
    · exact wfr.refl
    · exact wfr.r5v
  · split
    · exact wfr.vote
    · exact wfr.r5l
theorem wfr.up (h : wfr n w w1) (h0 : 0 ≤ wN w n 0 ∧ wN w n 0 ≤ 1) : 0 ≤ wN w1 n 0 ∧ wN w1 n 0 ≤ 1 := by
  rcases h.2.2.2 with e | e <;> rw [e]
  · exact h0
  · decide
end
end

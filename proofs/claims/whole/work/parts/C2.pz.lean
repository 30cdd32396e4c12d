section
/-! CHAIN AND POOL STAY AS THEY MUST BE -/
def pxf (n : Nat) (w w' : Wd) : Prop := pz w n → pz w' n
section
variable {n T F H b t : Nat} {w w1 w2 : Wd} {m : List Nat}
theorem pxf.refl : pxf n w w := fun h => h
theorem pxf.trans (h : pxf n w w1) (k : pxf n w1 w2) : pxf n w w2 := fun x => k (h x)
theorem pxf.sm (e7 : ∀ h, wY w1 n 7 h = wY w n 7 h) (e1 : wN w n 1 ≤ wN w1 n 1) (eP : wP w1 n = wP w n) : pxf n w w1 := fun h => ⟨fun k y k1 k2 e => by
  rw [e7] at e
  have := h.1 k y k1 k2 e
  omega, by rw [eP]; exact h.2⟩
theorem pxf.same (e7 : ∀ h, wY w1 n 7 h = wY w n 7 h) (e1 : wN w1 n 1 = wN w n 1 := by first | rfl | exact N_o _ _ _ _ (by omega) | exact (N_o _ _ _ _ (by omega)).trans (N_o _ _ _ _ (by omega)) | exact aNew_N _ _ _ (by omega)) (eP : wP w1 n = wP w n := by rfl) : pxf n w w1 := pxf.sm e7 (by rw [e1]; exact Int.le_refl _) eP
theorem pxf.N {k : Nat} {v : Int} (hk : k ≠ 1) : pxf n w (sN w n k v) := pxf.sm (fun _ => rfl) (by rw [N_o _ _ _ _ (Or.inr (Ne.symm hk))]; exact Int.le_refl _) rfl
theorem nDp_snoc {x : List Nat} : ∀ l : List (List Nat), nDp l → x ∉ l → nDp (l ++ [x])
  | [], _, _ => ⟨fun h => (by cases h), trivial⟩
  | y :: l, h, hx => by
    refine ⟨fun z => ?_, nDp_snoc l h.2 (fun z => hx (List.mem_cons_of_mem _ z))⟩
    rcases List.mem_append.1 z with z | z
    · exact h.1 z
    · rcases List.mem_cons.1 z with z | z
      · exact hx (by rw [z]; simp)
      · cases z
theorem pxf.fel (f : fel n w w1) : pxf n w w1 := fun h => ⟨fun k y k1 k2 e => by
  rw [f.2.2.2.2.2.2.1 7 k (Or.inr (by decide))] at e
  rw [f.2.2.2.1 1 (by omega)]
  exact h.1 k y k1 k2 e, by rw [f.2.2.2.2.2.2.2.2]; exact trivial⟩
theorem pxf.all {P : Nat → Bool} : pxf n w (sK w (pstN (wK w) n (wT w) m P T)) := pxf.same (fun _ => rfl)
theorem pxf.post (ht : t < T) : pxf n w (aPost w n t m) := pxf.same (fun _ => rfl)
theorem pxf.note {l : List Nat} {f : Nat} : pxf n w (aNote w n l f).2 := by
  cases h : (aNote w n l f).1 with
  | false => exact pxf.fel (aNote_f h)
  | true => exact pxf.same (fun i => by rw [(aNote_w h).2.2.2.1]) ((aNote_w h).2.1 1 (by omega)) (by rw [(aNote_w h).2.2.2.2.1])
theorem pxf.own {l : List Nat} : pxf n w (aOwn w n l).2 := by
  cases h : (aOwn w n l).1 with
  | false => exact pxf.fel (aOwn_f h)
  | true => exact pxf.same (fun i => by rw [(aOwn_w h).2.2.2.2.1]) ((aOwn_w h).2.1 1 (by omega)) (by rw [(aOwn_w h).2.2.2.2.2.1])
theorem pxf.held : pxf n w (aHeld w n m) := by
  unfold aHeld
  split
  · split
    · exact pxf.same (fun h => B_o _ _ _ _ _ (by omega))
    · exact pxf.refl
  · split
    · exact pxf.same (fun h => B_o _ _ _ _ _ (by omega))
    · exact pxf.refl
theorem pxf.send : pxf n w (aSend w n T m) := by
  unfold aSend
  have a : pxf n w (aAll (sN (sBy w n 8 (wN w n 17).toNat (some m)) n 17 ((wN w n 17).toNat + 1 : Nat)) n T m) := pxf.same (fun h => B_o (w := w) n 8 (wN w n 17).toNat (some m) (n' := n) (f' := 7) (i' := h) (by omega))
  exact a.trans pxf.held
theorem pxf.vote {k s : Nat} {o : Option (List Nat)} : pxf n w (aVote w n T k s o).2 := by
  unfold aVote
  split
  · exact (pxf.own.trans (pxf.N (by decide))).trans pxf.send
  · exact pxf.own
theorem pxf.prop {v : Int} {c : List Nat} : pxf n w (aProp w n T v c).2 := by
  unfold aProp
  split
  · exact pxf.own.trans pxf.send
  · exact pxf.own
theorem pxf.begin {r : Nat} : pxf n w (aBegin w n T r) := by
  unfold aBegin
  have o := wfr.own (w := w) (n := n) (t := ownT w n 2 [r])
  have a : pxf n w (aNew (aOwn w n (ownT w n 2 [r])).2 n r) := pxf.own.trans (pxf.same (fun _ => rfl))
  split
  · split
    · split
      · exact a.trans pxf.prop
      · exact a.trans pxf.prop
    · exact a
  · exact pxf.own
theorem pxf.lift {x2 : Nat} {d : List Nat} {k : Bk} (hx : wN w n 1 ≤ x2) : pxf n w (aLift w n x2 d k) := pxf.sm (fun h => aLift_Y (by omega)) (by rw [aLift_1]; exact hx) rfl
theorem pxf.rise {x2 : Nat} {d : List Nat} {k : Bk} (hx : wN w n 1 ≤ x2) : pxf n w (aRise w n T x2 d k) := by
  unfold aRise
  split
  · exact pxf.lift hx
  · exact (pxf.lift hx).trans pxf.begin
theorem pz_dl {c d : List Nat} {k : Bk} (h1 : 1 ≤ wN w n 1) (h : pz w n) : pz (aLift (aDec1 w n c) n ((wN w n 1).toNat + 1) d k) n := by
  refine ⟨fun j y j1 j2 e => ?_, ?_⟩
  · rw [aLift_1]
    rw [aLift_Y (by omega)] at e
    by_cases q : j = (wN w n 1).toNat
    · omega
    · have e : wY (sBy w n 7 (wN w n 1).toNat (some c)) n 7 j = some y := e
      rw [B_o _ _ _ _ _ (Or.inr (Or.inr q))] at e
      have := h.1 j y j1 j2 e
      omega
  · have dP : wP (aLift (aDec1 w n c) n ((wN w n 1).toNat + 1) d k) n = kpL (wP w n) c (wP w n).length := if_pos rfl
    rw [dP, kpL_all]
    exact nDp.fl _ h.2
theorem pxf.dec {c : List Nat} (h1 : 1 ≤ wN w n 1) : pxf n w (aDecide w n T c) := by
  have o := pxf.note (w := w) (n := n) (l := chT w n c) (f := 2 * (wN w n 1).toNat - 2)
  unfold aDecide
  cases hb : (aNote w n (chT w n c) (2 * (wN w n 1).toNat - 2)).1 with
  | false =>
    rw [if_neg (by decide)]
    exact o
  | true =>
    rw [if_pos rfl]
    have n1 := (aNote_w hb).2.1 1 (by omega)
    generalize (aNote w n (chT w n c) (2 * (wN w n 1).toNat - 2)).2 = X at o n1
    refine o.trans (fun h => ?_)
    have e := pz_dl (c := c) (d := idB c) (k := (bPl (bkN (wN (aDec1 X n c)) n) c).1) (by rw [n1]; exact h1) h
    rw [n1] at e
    unfold aRise
    by_cases q : 40 < (wN w n 1).toNat + 1
    · rw [if_pos q]
      exact e
    · rw [if_neg q]
      exact pxf.begin e
theorem pxf.take (hx : wN w n 1 ≤ tw m 1) : pxf n w (aTake w n T m) := by
  unfold aTake aSnapN
  have o := pxf.note (w := w) (n := n) (l := snT m) (f := snAt w n)
  cases hb : (aNote w n (snT m) (snAt w n)).1 with
  | false => exact o
  | true =>
    have n1 := (aNote_w hb).2.1 1 (by omega)
    refine (o.trans (pxf.N (k := 16) (v := (snAt w n : Int)) (by decide))).trans (pxf.rise ?_)
    show wN (sN (aNote w n (snT m) (snAt w n)).2 n 16 (snAt w n)) n 1 ≤ _
    rw [N_o _ _ _ _ (by omega), n1]
    exact hx
theorem pxf.r8 : pxf n w (aR8 w n T F).2 := by
  unfold aR8
  split
  · exact pxf.same (fun _ => rfl)
  · exact pxf.refl
theorem pxf.r3 : pxf n w (aR3 w n T F).2 := by
  unfold aR3
  by_cases c : wN w n 3 = 1 ∧ 2 * F + 1 ≤ cRd w n 0 (wN w n 2).toNat 1 [] T
  · rw [cif_pos c]; exact pxf.vote
  · rw [cif_neg c]
    unfold aR4
    by_cases c : wN w n 3 = 1 ∧ wN w n 7 = 0 ∧ 2 * F + 1 ≤ cRd w n 0 (wN w n 2).toNat 0 [] T
    · rw [cif_pos c]; exact pxf.same (fun _ => rfl)
    · rw [cif_neg c]; exact pxf.r8
theorem pxf.pre : pxf n w (aPre w n T m).2 := by
  unfold aPre
  split
  · exact pxf.vote
  · exact pxf.vote
theorem pxf.r5 {c : List Nat} : pxf n w (aR5 w n T c).2 := by
  unfold aR5
  refine (pxf.same (fun _ => rfl) : pxf n w (sN w n 6 1)).trans ?_
  generalize sN w n 6 1 = w1
  unfold aR5a
  split
  · split
    · exact pxf.refl
    · unfold aR5v
      split
      · exact pxf.own.trans (pxf.same (fun h => B_o _ _ _ _ _ (by omega)))
      · exact pxf.own
  · split
    · exact pxf.vote
    · unfold aR5l
      split
      · exact (pxf.own.trans (pxf.same (fun h => (B_o _ _ _ _ _ (by omega)).trans (B_o _ _ _ _ _ (by omega))) : pxf n _ (aLk _ n (wN w1 n 2) c))).trans pxf.vote
      · exact pxf.own
theorem pxf.rule {G : Gh} (g : GI F H T G w) (hn : n < H) : pxf n w (aRule w n T F).2 := by
  have gn := g.2.1 n hn
  have cb := g.1.b
  unfold aRule
  cases e1 : lst (snF w n T F) T with
  | some s =>
    obtain ⟨s1, s2, s3⟩ := lst_inv T e1
    obtain ⟨m, m1, m2, m3⟩ := s2
    show pxf n w (aTake w n T ((wY w n 3 s).getD []))
    rw [m1]
    exact pxf.take (Int.le_of_lt m2)
  | none =>
    show pxf n w (aR0 w n T F).2
    unfold aR0
    cases e2 : lst (deS w n T F) T with
    | some s =>
      obtain ⟨s1, s2, s3⟩ := lst_inv T e2
      obtain ⟨m, m1, m2, m3⟩ := s2
      obtain ⟨d1, d2, d3, d4, d5⟩ := gn.d s m (by omega) m1
      show pxf n w (aDecide w n T (((wY w n 6 s).getD []).drop 1))
      rw [m1]
      exact pxf.dec gn.a.2.1.1
    | none =>
      show pxf n w (match lst (deH w n T F) 16 with
        | some r => upB (aDecide w n T (((wY w n 4 (16 * ((wN w n 1).toNat % 2) + r)).getD []).drop 6)) n
        | none => aR1 w n T F).2
      cases e3 : lst (deH w n T F) 16 with
      | some r =>
        obtain ⟨s1, s2, s3⟩ := lst_inv 16 e3
        obtain ⟨m, m1, m2, m3⟩ := s2
        obtain ⟨b1, b2, b3, b4, b5, b6, b7, b8⟩ := gn.hd _ r m (by omega) s1 m1
        show pxf n w (aDecide w n T (((wY w n 4 (16 * ((wN w n 1).toNat % 2) + r)).getD []).drop 6))
        rw [m1]
        exact pxf.dec gn.a.2.1.1
      | none =>
        show pxf n w (aR1 w n T F).2
        unfold aR1
        split
        · exact pxf.begin
        · unfold aR2
          split
          · split
            · exact pxf.r8
            · rename_i m _
              by_cases c : maV w n T F m
              · rw [cif_pos c]; exact pxf.pre
              · rw [cif_neg c]; exact pxf.r8
          · split
            · exact pxf.r3
            · rename_i m _
              by_cases c : wN w n 6 = 0 ∧ 2 * F + 1 ≤ cRd w n 0 (wN w n 2).toNat 2 (idB (m.drop 6)) T ∧ aVal w n (some (m.drop 6))
              · rw [cif_pos c]; exact pxf.r5
              · rw [cif_neg c]; exact pxf.r3
theorem pxf.runs (hn : n < H) : ∀ k b w, GK F H T w → pxf n w (aRuns n T F k b w)
  | 0, _, _, _ => pxf.refl
  | k + 1, b, w, g => by
    unfold aRuns
    by_cases c : b = true ∧ wN w n 1 ≤ 40
    · rw [if_pos c]
      obtain ⟨G, g1⟩ := g.1
      exact (pxf.rule g1 hn).trans (pxf.runs hn k _ _ (g.of wfr.rule (g1.rule (g.2 n hn) hn c.2)))
    · rw [if_neg c]
      exact pxf.refl
theorem pxf.rules (g : GK F H T w) (hn : n < H) : pxf n w (aRules w n T F) := pxf.runs hn 5000 _ w g
theorem pxf.kp : pxf n w (aKp w n m).2 := by
  unfold aKp
  split
  · exact pxf.same (fun h => B_o _ _ _ _ _ (by omega))
  · exact pxf.refl
theorem pxf.ev {y : List Nat} : pxf n w (aEv w n T m y) := by
  unfold aEv
  split
  · exact pxf.kp.trans pxf.all
  · exact pxf.kp
theorem pxf.arr (hb : b < T) : pxf n w (aArr w n T b m) := by
  have two : ∀ w, pxf n w (aArr2 w n T b m) := fun w => by
    unfold aArr2
    split
    · split
      · exact pxf.same (fun h => B_o _ _ _ _ _ (by omega))
      · exact pxf.refl
    · split
      · split
        · unfold aArP
          split
          · split
            · exact (pxf.same (fun h => B_o _ _ _ _ _ (by omega)) : pxf n w (sBy w n 4 (hpI m) (some m))).trans pxf.all
            · split
              · exact pxf.refl
              · exact pxf.ev
          · exact pxf.refl
        · unfold aArV
          split
          · exact (pxf.same (fun h => B_o _ _ _ _ _ (by omega)) : pxf n w (sBy w n 5 (vpI m) (some m))).trans pxf.all
          · split
            · exact pxf.refl
            · exact pxf.ev
      · exact pxf.refl
  unfold aArr
  split
  · exact (pxf.post hb).trans (two _)
  · exact two w
theorem pxf.ah : pxf n w (aAH w n t T) := pxf.same (fun _ => rfl)
theorem pxf.pool {p : List Nat} : pxf n w (aPool w n p).2 := by
  unfold aPool
  by_cases c : (wP w n).length = 80 ∨ ∃ q, q < (wP w n).length ∧ pg (wP w n) q = p
  · rw [if_pos c]
    exact pxf.refl
  · rw [if_neg c]
    refine fun h => ⟨h.1, ?_⟩
    have e : wP (sP w n (wP w n ++ [p])) n = wP w n ++ [p] := if_pos rfl
    show nDp (wP (sP w n (wP w n ++ [p])) n)
    rw [e]
    exact nDp_snoc _ h.2 (fun q => c (Or.inr (pg_ex q)))
theorem pxf.got (hb : b < T) : pxf n w (aGot w n T b m) := by
  unfold aGot
  split
  · split
    · exact pxf.pool.trans pxf.all
    · exact pxf.pool
  split
  · split
    · exact pxf.kp.trans pxf.all
    · exact pxf.kp
  split
  · split
    · exact pxf.same (fun h => B_o _ _ _ _ _ (by omega))
    · exact pxf.refl
  split
  · split
    · exact pxf.post hb
    · exact pxf.refl
  split
  · split
    · exact pxf.ah
    · exact pxf.refl
  · exact pxf.arr hb
theorem pxf.come (hb : b < T) (g : wf T m → GK F H T (aGot w n T b m)) (hn : n < H) : pxf n w (aCome w n T F b m) := by
  unfold aCome
  by_cases c : wf T m
  · rw [cif_pos c]; exact (pxf.got hb).trans (pxf.rules (g c) hn)
  · rw [cif_neg c]; exact pxf.refl
theorem pxf.end_ : pxf n w (aEnd w n T t) := by
  unfold aEnd
  split
  · split
    · exact pxf.vote
    · exact pxf.refl
  split
  · split
    · exact pxf.vote
    · exact pxf.refl
  split
  · exact pxf.begin
  · exact pxf.refl
theorem pzK_ok (hn : n < H) : pzK F H T n := fun w G g _ _ _ h => pxf.rule g hn h
end
end

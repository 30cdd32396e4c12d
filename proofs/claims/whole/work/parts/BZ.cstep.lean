section
/-! THE CLASS'S RULES IN THEIR ORDER -/
section
variable {F N g H T n : Nat} {s s0 S : cS} {ct : Nat → List Nat} {hd : List Nat} {w w' V : Wd} {pe pe' : Nat → Int} {t : Nat} {G : Gh} {rec : Option Nat → Int32 → cS → Nat × Option Nat × cS} {rok : Option Nat → Int32 → cS → Prop} {Q : Nat × Option Nat × cS → Prop}
/-- a rule that acted says whether the node is up -/
def ruU (n : Nat) (x : Bool × Wd) : Prop := x.1 = decide (wN x.2 n 0 = 1)
theorem ruU_up (V : Wd) : ruU n (upB V n) := rfl
theorem ruU_t (h : wN V n 0 = 1) : ruU n (true, V) := by
  show true = decide (wN V n 0 = 1)
  rw [h]
  rfl
theorem ruU_f (h : fel n w V) : ruU n (false, V) := by
  show false = decide (wN V n 0 = 1)
  rw [h.2.2.1]
  rfl
theorem ruU_vote {kd st : Nat} {o : Option (List Nat)} (hu : wN w n 0 = 1) : ruU n (aVote w n T kd st o) := by
  unfold aVote
  cases c : (aOwn w n (ownT w n 3 (st :: vtM w n kd o))).1 with
  | true =>
    rw [if_pos rfl]
    refine ruU_t ?_
    rw [aSend_N (by decide), N_o _ _ _ _ (by omega), (aOwn_w c).2.1 0 (by omega)]
    exact hu
  | false =>
    rw [if_neg (by decide)]
    exact ruU_f (aOwn_f c)
theorem ruU_pre {m : List Nat} (hu : wN w n 0 = 1) : ruU n (aPre w n T m) := by
  by_cases c : pvY w n m
  · rw [aPre_y c]
    exact ruU_vote hu
  · rw [aPre_n c]
    exact ruU_vote hu
theorem ruU_5 {c : List Nat} (hu : wN w n 0 = 1) : ruU n (aR5 w n T c) := by
  have hu' : wN (sN w n 6 1) n 0 = 1 := by rw [N_o _ _ _ _ (by omega)]; exact hu
  unfold aR5
  generalize sN w n 6 1 = w1 at hu'
  unfold aR5a
  by_cases d : wN w1 n 3 = 2
  · rw [if_pos d]
    by_cases e : wN w1 n 5 = wN w1 n 2 ∧ sameI (some c) (wY w1 n 1 0)
    · rw [if_pos e]
      exact ruU_t hu'
    · rw [if_neg e]
      unfold aR5v
      cases f : (aOwn w1 n (ownT w1 n 5 ((wN w1 n 2).toNat :: c))).1 with
      | true =>
        rw [if_pos rfl]
        refine ruU_t ?_
        rw [N_o _ _ _ _ (by omega)]
        show wN (aOwn w1 n (ownT w1 n 5 ((wN w1 n 2).toNat :: c))).2 n 0 = 1
        rw [(aOwn_w f).2.1 0 (by omega)]
        exact hu'
      | false =>
        rw [if_neg (by decide)]
        exact ruU_f (aOwn_f f)
  · rw [if_neg d]
    by_cases e : wN w1 n 4 = wN w1 n 2
    · rw [if_pos e]
      exact ruU_vote hu'
    · rw [if_neg e]
      unfold aR5l
      cases f : (aOwn w1 n (ownT w1 n 4 ((wN w1 n 2).toNat :: c))).1 with
      | true =>
        rw [if_pos rfl]
        refine ruU_vote ?_
        unfold aLk
        rw [N_o _ _ _ _ (by omega), N_o _ _ _ _ (by omega)]
        show wN (aOwn w1 n (ownT w1 n 4 ((wN w1 n 2).toNat :: c))).2 n 0 = 1
        rw [(aOwn_w f).2.1 0 (by omega)]
        exact hu'
      | false =>
        rw [if_neg (by decide)]
        exact ruU_f (aOwn_f f)
/-- a round is to begin, and may -/
def beO (F H T : Nat) (V : Wd) (n r : Nat) : Prop := (∃ G, GI F H T G V) ∧ giK (wN V n) ∧ wN V n 0 = 1 ∧ wN V n 1 ≤ 40 ∧ r < 16 ∧ (wN V n 2 < r ∨ (wN V n 2 ≤ r ∧ wN V n 17 = 0)) ∧ wN V n 4 < r ∧ wN V n 5 < r
/-- how it goes on when no rule acted, when one did, when a round is to begin -/
def k0P (F g H T : Nat) (s0 : cS) (ct : Nat → List Nat) (hd : List Nat) (w : Wd) (pe : Nat → Int) (n : Nat) (Q : Nat × Option Nat × cS → Prop) : Prop := ∀ S', CR F g H T S' ct hd w pe → cI S' 5 (nd g n + 6) = nI 0 → m6 g H n s0 S' → aRule w n T F = (false, w) → Q (0, none, S')
def k1P (F g H T : Nat) (s0 : cS) (ct : Nat → List Nat) (hd : List Nat) (w : Wd) (pe : Nat → Int) (n t : Nat) (rec : Option Nat → Int32 → cS → Nat × Option Nat × cS) (rok : Option Nat → Int32 → cS → Prop) (Q : Nat × Option Nat × cS → Prop) : Prop := ∀ S', reC F g H T ct hd (aRule w n T F).2 pe S' → ruU n (aRule w n T F) → m6 g H n s0 S' → wp (rok (some (nd g n)) (nI (t + 1)) S') (rec (some (nd g n)) (nI (t + 1)) S') Q
def k2P (F g H T : Nat) (s0 : cS) (ct : Nat → List Nat) (hd : List Nat) (w : Wd) (pe : Nat → Int) (n t : Nat) (rec : Option Nat → Int32 → cS → Nat × Option Nat × cS) (rok : Option Nat → Int32 → cS → Prop) (Q : Nat × Option Nat × cS → Prop) : Prop := ∀ S' V r, CR F g H T S' ct hd V (fun m => if m = n then ((r : Nat) : Int) else pe m) → beO F H T V n r → aRule w n T F = upB (aBegin V n T r) n → m6 g H n s0 S' → wp (rok (some (nd g n)) (nI (t + 1)) S') (rec (some (nd g n)) (nI (t + 1)) S') Q
theorem go_127 (h : wp (rok (some (nd g n)) (nI (t + 1)) S) (rec (some (nd g n)) (nI (t + 1)) S) Q) : wp (KO_X7_settle_122 N g H T rok (some (nd g n)) (nI t) S) (KF_X7_settle_122 N g H T rec (some (nd g n)) (nI t) S) Q := by
  unfold KO_X7_settle_122 KF_X7_settle_122 KO_X7_settle_127 KF_X7_settle_127 KO_X7_settle_133 KF_X7_settle_133
  rw [n_add]
  exact wp_neg (show ¬ nI 1 = 0 by decide) h
theorem tN1 (hn : n < H) : tN g H (some (nd g n)) := fun b e => by cases e; exact isO5 hn
theorem st_112 (hN : 200 ≤ N) (h : CR F g H T S ct hd w pe) (hn : n < H) (k : GN F H T G w n) (gk : giK (wN w n)) (hu : wN w n 0 = 1) (hf : cI S 5 (nd g n + 6) = nI 0) (hx : m6 g H n s0 S) (k0 : k0P F g H T s0 ct hd w pe n Q) (k1 : k1P F g H T s0 ct hd w pe n t rec rok Q) (hA : aRule w n T F = aR8 w n T F) : wp (KO_X7_settle_112 N g H T rok (some (nd g n)) (nI t) (nI 0) S) (KF_X7_settle_112 N g H T rec (some (nd g n)) (nI t) (nI 0) S) Q := by
  have c := awaitsPrecommits_C (N := N) (by omega) h hn k gk hu
  have x5 := (k5c_X7_awaitsPrecommits h.2.1 (tN1 hn) c.1).2
  unfold KO_X7_settle_112 KF_X7_settle_112
  refine wp_pos (show nI 0 = 0 from rfl) (wp_call c (fun q => ?_))
  generalize k_X7_awaitsPrecommits N g H T S (some (nd g n)) = z at q x5 ⊢
  obtain ⟨z1, S1⟩ := z
  have x6 : m6 g H n s0 S1 := hx.trans (M5.six x5)
  have x7 : cI S1 5 (nd g n + 6) = nI 0 := by rw [← hf]; exact x5.2 n hn
  show wp (KO_X7_settle_119 N g H T rok (some (nd g n)) (nI t) z1 S1) (KF_X7_settle_119 N g H T rec (some (nd g n)) (nI t) z1 S1) Q
  unfold KO_X7_settle_119 KF_X7_settle_119
  rcases q with ⟨q1, q2, q3⟩ | ⟨q1, q2, q3⟩
  · have q2 : z1 = nI 1 := q2
    have e : aR8 w n T F = (true, sN (sN w n 8 1) n 11 ((wT w + 4 + (wN w n 2).toNat : Nat) : Int)) := by
      unfold aR8
      rw [if_pos q1]
    rw [q2]
    refine wp_neg (show ¬ nI 1 = 0 by decide) (go_127 (k1 S1 (by rw [hA, e]; exact q3) (by rw [hA, e]; exact ruU_t (by rw [N_o _ _ _ _ (by omega), N_o _ _ _ _ (by omega)]; exact hu)) x6))
  · have q2 : z1 = nI 0 := q2
    have e : aR8 w n T F = (false, w) := by
      unfold aR8
      rw [if_neg q1]
    rw [q2]
    unfold KO_X7_settle_127 KF_X7_settle_127
    exact wp_pos (show nI 0 = 0 from rfl) (wp_pos (show nI 0 = 0 from rfl) (wp_fin trivial (k0 S1 q3 x7 x6 (by rw [hA, e]))))
theorem st_105 (hN : 200 ≤ N) (h : CR F g H T S ct hd w pe) (hn : n < H) (k : GN F H T G w n) (gk : giK (wN w n)) (hu : wN w n 0 = 1) (hf : cI S 5 (nd g n + 6) = nI 0) (hx : m6 g H n s0 S) (k0 : k0P F g H T s0 ct hd w pe n Q) (k1 : k1P F g H T s0 ct hd w pe n t rec rok Q) (hA : aRule w n T F = aR4 w n T F ∨ (wN w n 3 = 0 ∧ aRule w n T F = aR8 w n T F)) : wp (KO_X7_settle_105 N g H T rok (some (nd g n)) (nI t) (nI 0) S) (KF_X7_settle_105 N g H T rec (some (nd g n)) (nI t) (nI 0) S) Q := by
  have c := awaitsPrevotes_C (N := N) (by omega) h hn k gk hu
  have x5 := (k5c_X7_awaitsPrevotes h.2.1 (tN1 hn) c.1).2
  unfold KO_X7_settle_105 KF_X7_settle_105
  refine wp_pos (show nI 0 = 0 from rfl) (wp_call c (fun q => ?_))
  generalize k_X7_awaitsPrevotes N g H T S (some (nd g n)) = z at q x5 ⊢
  obtain ⟨z1, S1⟩ := z
  have x6 : m6 g H n s0 S1 := hx.trans (M5.six x5)
  have x7 : cI S1 5 (nd g n + 6) = nI 0 := by rw [← hf]; exact x5.2 n hn
  show wp (KO_X7_settle_112 N g H T rok (some (nd g n)) (nI t) z1 S1) (KF_X7_settle_112 N g H T rec (some (nd g n)) (nI t) z1 S1) Q
  rcases q with ⟨q1, q2, q3⟩ | ⟨q1, q2, q3⟩
  · have q2 : z1 = nI 1 := q2
    have e : aRule w n T F = (true, sN (sN w n 7 1) n 10 ((wT w + 4 + (wN w n 2).toNat : Nat) : Int)) := by
      rcases hA with hA | hA
      · rw [hA]
        unfold aR4
        rw [cif_pos q1]
      · omega
    rw [q2]
    unfold KO_X7_settle_112 KF_X7_settle_112
    exact wp_neg (show ¬ nI 1 = 0 by decide) (go_127 (k1 S1 (by rw [e]; exact q3) (by rw [e]; exact ruU_t (by rw [N_o _ _ _ _ (by omega), N_o _ _ _ _ (by omega)]; exact hu)) x6))
  · have q2 : z1 = nI 0 := q2
    rw [q2]
    refine st_112 hN q3 hn k gk hu x7 x6 k0 k1 ?_
    rcases hA with hA | hA
    · rw [hA]
      unfold aR4
      rw [cif_neg q1]
    · exact hA.2
theorem st_98 (hN : 200 ≤ N) (h : CR F g H T S ct hd w pe) (hn : n < H) (hl : hd.length ≤ 25) (k : GN F H T G w n) (gk : giK (wN w n)) (hu : wN w n 0 = 1) (hp : pe n = -1) (hf : cI S 5 (nd g n + 6) = nI 0) (hx : m6 g H n s0 S) (k0 : k0P F g H T s0 ct hd w pe n Q) (k1 : k1P F g H T s0 ct hd w pe n t rec rok Q) (hA : aRule w n T F = aR3 w n T F ∨ (wN w n 3 = 0 ∧ aRule w n T F = aR8 w n T F)) : wp (KO_X7_settle_98 N g H T rok (some (nd g n)) (nI t) (nI 0) S) (KF_X7_settle_98 N g H T rec (some (nd g n)) (nI t) (nI 0) S) Q := by
  have c := precommitsNone_C (N := N) (by omega) h hn hl k gk hu hp
  have x5 := (k5c_X7_precommitsNone h.2.1 (tN1 hn) c.1).2
  unfold KO_X7_settle_98 KF_X7_settle_98
  refine wp_pos (show nI 0 = 0 from rfl) (wp_call c (fun q => ?_))
  generalize k_X7_precommitsNone N g H T S (some (nd g n)) = z at q x5 ⊢
  obtain ⟨z1, S1⟩ := z
  have x6 : m6 g H n s0 S1 := hx.trans (M5.six x5)
  have x7 : cI S1 5 (nd g n + 6) = nI 0 := by rw [← hf]; exact x5.2 n hn
  show wp (KO_X7_settle_105 N g H T rok (some (nd g n)) (nI t) z1 S1) (KF_X7_settle_105 N g H T rec (some (nd g n)) (nI t) z1 S1) Q
  rcases q with ⟨q1, q2, q3⟩ | ⟨q1, q2, q3⟩
  · have q2 : z1 = nI 1 := q2
    have e : aRule w n T F = aVote w n T 3 2 none := by
      rcases hA with hA | hA
      · rw [hA]
        unfold aR3
        rw [cif_pos q1]
      · omega
    rw [q2]
    unfold KO_X7_settle_105 KF_X7_settle_105
    exact wp_neg (show ¬ nI 1 = 0 by decide) (go_127 (k1 S1 (by rw [e]; exact q3) (by rw [e]; exact ruU_vote hu) x6))
  · have q2 : z1 = nI 0 := q2
    rw [q2]
    refine st_105 hN q3 hn k gk hu x7 x6 k0 k1 ?_
    rcases hA with hA | hA
    · refine Or.inl ?_
      rw [hA]
      unfold aR3
      rw [cif_neg q1]
    · exact Or.inr hA
theorem st_91 (hN : 200 ≤ N) (h : CR F g H T S ct hd w pe) (hn : n < H) (hl : hd.length ≤ 25) (gi : GI F H T G w) (gk : giK (wN w n)) (hu : wN w n 0 = 1) (hp : pe n = -1) (hf : cI S 5 (nd g n + 6) = nI 0) (hx : m6 g H n s0 S) (k0 : k0P F g H T s0 ct hd w pe n Q) (k1 : k1P F g H T s0 ct hd w pe n t rec rok Q) (hA : (wN w n 3 ≠ 0 ∧ aRule w n T F = aR2 w n T F) ∨ (wN w n 3 = 0 ∧ aRule w n T F = aR8 w n T F)) : wp (KO_X7_settle_91 N g H T rok (some (nd g n)) (nI t) (nI 0) S) (KF_X7_settle_91 N g H T rec (some (nd g n)) (nI t) (nI 0) S) Q := by
  have c := locks_C (N := N) (by omega) h hn hl gi gk hu hp hf
  have x5 := (k5c_X7_locks h.2.1 (tN1 hn) c.1).2
  unfold KO_X7_settle_91 KF_X7_settle_91
  refine wp_pos (show nI 0 = 0 from rfl) (wp_call c (fun q => ?_))
  generalize k_X7_locks N g H T S (some (nd g n)) = z at q x5 ⊢
  obtain ⟨z1, S1⟩ := z
  have x6 : m6 g H n s0 S1 := hx.trans (M5.six x5)
  have x7 : cI S1 5 (nd g n + 6) = nI 0 := by rw [← hf]; exact x5.2 n hn
  show wp (KO_X7_settle_98 N g H T rok (some (nd g n)) (nI t) z1 S1) (KF_X7_settle_98 N g H T rec (some (nd g n)) (nI t) z1 S1) Q
  rcases q with ⟨m, q1, q2, q3, q4, q5⟩ | ⟨q1, q2, q3⟩
  · have q4 : z1 = nI 1 := q4
    have e : aRule w n T F = aR5 w n T (m.drop 6) := by
      rcases hA with hA | hA
      · rw [hA.2]
        unfold aR2
        rw [if_neg q1, q2]
        exact cif_pos q3
      · exact absurd hA.1 q1
    rw [q4]
    unfold KO_X7_settle_98 KF_X7_settle_98
    exact wp_neg (show ¬ nI 1 = 0 by decide) (go_127 (k1 S1 (by rw [e]; exact q5) (by rw [e]; exact ruU_5 hu) x6))
  · have q2 : z1 = nI 0 := q2
    rw [q2]
    refine st_98 hN q3 hn hl (gi.2.1 n hn) gk hu hp x7 x6 k0 k1 ?_
    rcases hA with hA | hA
    · refine Or.inl ?_
      rw [hA.2]
      unfold aR2
      rw [if_neg hA.1]
      cases e : hdR w n with
      | none => rfl
      | some m => exact cif_neg (q1 hA.1 m e)
    · exact Or.inr hA
theorem st_84 (hN : 200 ≤ N) (h : CR F g H T S ct hd w pe) (hn : n < H) (hl : hd.length ≤ 25) (gi : GI F H T G w) (gk : giK (wN w n)) (hu : wN w n 0 = 1) (hp : pe n = -1) (hf : cI S 5 (nd g n + 6) = nI 0) (hx : m6 g H n s0 S) (k0 : k0P F g H T s0 ct hd w pe n Q) (k1 : k1P F g H T s0 ct hd w pe n t rec rok Q) (hA : aRule w n T F = aR2 w n T F) (hno : wN w n 3 = 0 → ∀ m, hdR w n = some m → prV m ≠ -1) : wp (KO_X7_settle_84 N g H T rok (some (nd g n)) (nI t) (nI 0) S) (KF_X7_settle_84 N g H T rec (some (nd g n)) (nI t) (nI 0) S) Q := by
  have c := prevotesOld_C (N := N) (by omega) h hn hl (gi.2.1 n hn) gk hu hp hf
  have x5 := (k5c_X7_prevotesOld h.2.1 (tN1 hn) c.1).2
  unfold KO_X7_settle_84 KF_X7_settle_84
  refine wp_pos (show nI 0 = 0 from rfl) (wp_call c (fun q => ?_))
  generalize k_X7_prevotesOld N g H T S (some (nd g n)) = z at q x5 ⊢
  obtain ⟨z1, S1⟩ := z
  have x6 : m6 g H n s0 S1 := hx.trans (M5.six x5)
  show wp (KO_X7_settle_91 N g H T rok (some (nd g n)) (nI t) z1 S1) (KF_X7_settle_91 N g H T rec (some (nd g n)) (nI t) z1 S1) Q
  rcases q with ⟨m, q1, q2, q3, q4, q5, q6⟩ | ⟨q1, q2⟩
  · have q5 : z1 = nI 1 := q5
    have e : aRule w n T F = aPre w n T m := by
      rw [hA]
      unfold aR2
      rw [if_pos q1, q2]
      exact cif_pos q4
    rw [q5]
    unfold KO_X7_settle_91 KF_X7_settle_91
    exact wp_neg (show ¬ nI 1 = 0 by decide) (go_127 (k1 S1 (by rw [e]; exact q6) (by rw [e]; exact ruU_pre hu) x6))
  · have q3 : z1 = nI 0 := congrArg Prod.fst q2
    have q4 : S1 = S := congrArg Prod.snd q2
    rw [q3, q4]
    refine st_91 hN h hn hl gi gk hu hp hf hx k0 k1 ?_
    by_cases d : wN w n 3 = 0
    · refine Or.inr ⟨d, ?_⟩
      rw [hA]
      unfold aR2
      rw [if_pos d]
      cases e : hdR w n with
      | none => rfl
      | some m => exact cif_neg (q1 d m e (hno d m e))
    · exact Or.inl ⟨d, hA⟩
theorem st_77 (hN : 200 ≤ N) (h : CR F g H T S ct hd w pe) (hn : n < H) (hl : hd.length ≤ 25) (gi : GI F H T G w) (gk : giK (wN w n)) (hu : wN w n 0 = 1) (hp : pe n = -1) (hf : cI S 5 (nd g n + 6) = nI 0) (hx : m6 g H n s0 S) (k0 : k0P F g H T s0 ct hd w pe n Q) (k1 : k1P F g H T s0 ct hd w pe n t rec rok Q) (hA : aRule w n T F = aR2 w n T F) : wp (KO_X7_settle_77 N g H T rok (some (nd g n)) (nI t) (nI 0) S) (KF_X7_settle_77 N g H T rec (some (nd g n)) (nI t) (nI 0) S) Q := by
  have c := prevotesNew_C (N := N) (by omega) h hn hl (gi.2.1 n hn) gk hu hp hf
  have x5 := (k5c_X7_prevotesNew h.2.1 (tN1 hn) c.1).2
  unfold KO_X7_settle_77 KF_X7_settle_77
  refine wp_pos (show nI 0 = 0 from rfl) (wp_call c (fun q => ?_))
  generalize k_X7_prevotesNew N g H T S (some (nd g n)) = z at q x5 ⊢
  obtain ⟨z1, S1⟩ := z
  have x6 : m6 g H n s0 S1 := hx.trans (M5.six x5)
  show wp (KO_X7_settle_84 N g H T rok (some (nd g n)) (nI t) z1 S1) (KF_X7_settle_84 N g H T rec (some (nd g n)) (nI t) z1 S1) Q
  rcases q with ⟨m, q1, q2, q3, q5, q6⟩ | ⟨q1, q2⟩
  · have q5 : z1 = nI 1 := q5
    have e : aRule w n T F = aPre w n T m := by
      rw [hA]
      unfold aR2
      rw [if_pos q1, q2]
      exact cif_pos (Or.inl q3)
    rw [q5]
    unfold KO_X7_settle_84 KF_X7_settle_84
    exact wp_neg (show ¬ nI 1 = 0 by decide) (go_127 (k1 S1 (by rw [e]; exact q6) (by rw [e]; exact ruU_pre hu) x6))
  · have q3 : z1 = nI 0 := congrArg Prod.fst q2
    have q4 : S1 = S := congrArg Prod.snd q2
    rw [q3, q4]
    exact st_84 hN h hn hl gi gk hu hp hf hx k0 k1 hA q1
theorem st_70 (hN : 200 ≤ N) (h : CR F g H T S ct hd w pe) (hn : n < H) (hl : hd.length ≤ 25) (gi : GI F H T G w) (gk : giK (wN w n)) (hu : wN w n 0 = 1) (h40 : wN w n 1 ≤ 40) (hp : pe n = -1) (hf : cI S 5 (nd g n + 6) = nI 0) (hx : m6 g H n s0 S) (k0 : k0P F g H T s0 ct hd w pe n Q) (k1 : k1P F g H T s0 ct hd w pe n t rec rok Q) (k2 : k2P F g H T s0 ct hd w pe n t rec rok Q) (hA : aRule w n T F = aR1 w n T F) : wp (KO_X7_settle_70 N g H T rok (some (nd g n)) (nI t) (nI 0) S) (KF_X7_settle_70 N g H T rec (some (nd g n)) (nI t) (nI 0) S) Q := by
  have c := skips_C (N := N) (by omega) h hn (gi.2.1 n hn) hu
  have x5 := (k5c_X7_skips h.2.1 (tN1 hn) c.1).2
  unfold KO_X7_settle_70 KF_X7_settle_70
  refine wp_pos (show nI 0 = 0 from rfl) (wp_call c (fun q => ?_))
  generalize k_X7_skips N g H T S (some (nd g n)) = z at q x5 ⊢
  obtain ⟨z1, S1⟩ := z
  have x6 : m6 g H n s0 S1 := hx.trans (M5.six x5)
  show wp (KO_X7_settle_77 N g H T rok (some (nd g n)) (nI t) z1 S1) (KF_X7_settle_77 N g H T rec (some (nd g n)) (nI t) z1 S1) Q
  rcases q with ⟨i, q1, q2, q3, q4⟩ | ⟨q1, q2⟩
  · have q3 : z1 = nI 1 := q3
    have e : aRule w n T F = upB (aBegin w n T i) n := by
      rw [hA]
      unfold aR1
      rw [q1]
    obtain ⟨-, r1, -⟩ := hst_inv 16 q1
    obtain ⟨a0, a1, a2, a3, a4, a5, -⟩ := (gi.2.1 n hn).a
    rw [q3]
    unfold KO_X7_settle_77 KF_X7_settle_77
    exact wp_neg (show ¬ nI 1 = 0 by decide) (go_127 (k2 S1 w i q4 ⟨⟨G, gi⟩, gk, hu, h40, q2, Or.inl (by omega), by omega, by omega⟩ e x6))
  · have q3 : z1 = nI 0 := congrArg Prod.fst q2
    have q4 : S1 = S := congrArg Prod.snd q2
    rw [q3, q4]
    refine st_77 hN h hn hl gi gk hu hp hf hx k0 k1 ?_
    rw [hA]
    unfold aR1
    rw [q1]
end
end

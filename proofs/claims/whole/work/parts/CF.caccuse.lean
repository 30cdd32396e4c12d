section
/-! THE CLASS ACCUSES -/
section
variable {F N g H T n : Nat} {s s0 s1 S : cS} {ct : Nat → List Nat} {hd : List Nat} {w w' V X : Wd} {pe pe' : Nat → Int} {a b c e i : Nat} {G : Gh}
/-- a row of bytes -/
def rB (f : Nat → Int32) : Prop := ∀ i, (f i).toInt8.toInt32 = f i
theorem sb_b8 (x : Nat) : (sb x).toInt8.toInt32 = sb x := b88 _
theorem rB.up {f : Nat → Int32} (h : rB f) (i x : Nat) : rB (upd f i (sb x)) := fun j => by
  by_cases q : j = i
  · rw [q, upd_same]
    exact sb_b8 x
  · rw [upd_other _ _ q]
    exact h j
theorem mS.rw_ {m : List Nat} {f : Nat → Int32} (h : mS s a m) (hc : a ≠ c) : mS (csArow s (c + 2) f) a m := by
  obtain ⟨m1, m2, m3, m4, m5, m6⟩ := h
  refine ⟨m1, m2, ⟨m3.1, m3.2.1, fun i hi => ?_, m3.2.2.2⟩, m4, m5, m6⟩
  rw [cA_other _ _ (by omega)]
  exact m3.2.2.1 i hi
theorem nmC.rw_ {o : Option (List Nat)} {r : Nat} {f : Nat → Int32} (h : nmC s a o) : nmC (csArow s r f) a o := by
  cases o with
  | none => exact h
  | some d => exact h
/-- the proof is kept and sent -/
theorem acc_tail {M y0 : List Nat} {f : Nat → Int32} (hN : 100 ≤ N) (cr : CR F g H T s1 (fun b => if b = c then y0 else ct b) (c :: hd) w pe) (hn : n < H) (hl : hd.length ≤ 24) (hu : wN w n 0 = 1) (ca : cnA g H T s1 c = 0) (ua : us g H T s hd c = 0) (f1 : ffr g H hd s s1) (i4 : cI s1 4 c = nI 0) (i5 : cI s1 5 c = nI 0) (ml : M.length = y0.length) (iB : isB M) (row : ∀ i, i < M.length → f i = sb (bg M i)) (fb : rB f) (h1 : bg M 1 < T) (h2 : 2 ≤ M.length) (h7 : M.length ≤ 128) (hno : wY w n 2 (bg M 1) = none) : wp (KO_X3_accuse_192 N g H T (some (nd g n)) (some c) (csArow s1 (c + 2) f)) (KF_X3_accuse_192 N g H T (some (nd g n)) (some c) (csArow s1 (c + 2) f)) (fun s' => ∃ ct', (∀ b, b ∈ hd → ct' b = ct b) ∧ CR F g H T s' ct' hd (aAll (sBy w n 2 (bg M 1) (some M)) n T M) pe) := by
  have cb := cr.1.bb
  obtain ⟨a', ct', q0, q1, q2, q3, q4, q5, q6⟩ := mk_row (m := M) (s' := csArow s1 (c + 2) f) cr ca ua f1 mw_A (cr.2.1.Ar _ _ (fun _ => fb)) ml iB (fun i hi => by rw [cA_same]; exact row i hi) (Or.inl ⟨i4, i5⟩)
  have q0 : some c = some a' := q0
  cases q0
  have q3 : CR F g H T (csArow s1 (c + 2) f) ct' (c :: hd) w pe := q3
  have e : aKp w n M = (true, sBy w n 2 (bg M 1) (some M)) := by
    unfold aKp
    rw [hno]
  unfold KO_X3_accuse_192 KF_X3_accuse_192
  rw [zsome]
  refine wp_and someN (wp_call (addProof_C (N := N) q3 hn (by show hd.length + 1 ≤ 25; omega) hu List.mem_cons_self q1 h1 h2 h7) (fun r => ?_))
  rw [e] at r
  generalize k_X8_addProof N g H T (csArow s1 (c + 2) f) (nd g n + 14) (some c) = Z at r ⊢
  obtain ⟨Z1, s2⟩ := Z
  have r1 : CR F g H T s2 ct' (c :: hd) (sBy w n 2 (bg M 1) (some M)) pe := r.1
  have e1 : cI s2 1 (nd g n) = nI n := (r1.node hn).1.1
  show wp (KO_X3_accuse_201 N g H T (some (nd g n)) (some c) Z1 s2) (KF_X3_accuse_201 N g H T (some (nd g n)) (some c) Z1 s2) _
  unfold KO_X3_accuse_201 KF_X3_accuse_201
  rw [zsome, e1]
  refine wp_and someN (wp_call (spread_C (N := N) (m := c) (f := n) (b := n) (c := n) hN r1 List.mem_cons_self (by omega) (by omega) (by omega)) (fun q => ?_))
  rw [q1] at q
  have ea : aOn (sBy w n 2 (bg M 1) (some M)) n T n n M = aAll (sBy w n 2 (bg M 1) (some M)) n T M := by
    unfold aOn aAll
    have : (fun j => decide (j ≠ n ∧ j ≠ n ∧ j ≠ n)) = fun j => decide (j ≠ n) := funext fun j => by
      by_cases q : j = n
      · rw [decide_eq_false (fun z => z.1 q), decide_eq_false (fun z => z q)]
      · rw [decide_eq_true ⟨q, q, q⟩, decide_eq_true q]
    rw [this]
  rw [ea] at q
  unfold KO_X3_accuse_223 KF_X3_accuse_223
  refine wp_and someN (wp_call (drop_C (N := N) q.1 (by omega)) (fun r => wp_fin trivial ⟨ct', fun b hb => q2 b (fun z => ?_), r.1⟩))
  have x1 := us_in (g := g) (H := H) (T := T) (s := s) hb
  rw [z, ua] at x1
  omega
/-- the second end -/
theorem acc_167 {P : cS → Prop} {q at_ : Nat} {d : List Nat} {f : Nat → Int32} (hN : 100 ≤ N) (L : cL s1 (c + 2) = 128) (ha : at_ ≤ 39) (hq : nmC s1 q (some d)) (hB : isB d) (fb : rB f) (go : ∀ f', rB f' → (∀ i, f' i = if at_ + 1 ≤ i ∧ i < at_ + 33 then sb (bg d (i - (at_ + 1))) else if i = at_ then sb 1 else f i) → wp (KO_X3_accuse_192 N g H T (some (nd g n)) (some c) (csArow s1 (c + 2) f')) (KF_X3_accuse_192 N g H T (some (nd g n)) (some c) (csArow s1 (c + 2) f')) P) : wp (KO_X3_accuse_167 N g H T (some (nd g n)) (some q) (some c) (nI at_) (csArow s1 (c + 2) f)) (KF_X3_accuse_167 N g H T (some (nd g n)) (some q) (some c) (nI at_) (csArow s1 (c + 2) f)) P := by
  unfold KO_X3_accuse_167 KF_X3_accuse_167
  have s1e : (nI 1).toInt8.toInt32 = sb 1 := rfl
  have Lr : ∀ f, cL (csArow s1 (c + 2) f) (c + 2) = 128 := fun _ => L
  rw [zsome, zsome, s1e, n_clamp (by omega), n_add, Lr, csA_row, cA_same, row_row]
  have hq' : nmC (csArow s1 (c + 2) (upd f at_ (sb 1))) q (some d) := hq
  have wi := wrId_ok (N := N) (g := g) (H := H) (T := T) (s := csArow s1 (c + 2) (upd f at_ (sb 1))) (a := q) (r := c + 2) (at_ := at_ + 1) (d := d) hN hq'.2 hB (by rw [Lr]; omega) (by rw [Lr]; decide)
  refine wp_and someN (wp_and ((n_in (by omega)).2 (by omega)) (wp_and ⟨someN, wi.1⟩ ?_))
  obtain ⟨f', e1, e2⟩ := wi.2
  rw [e1, row_row]
  rw [cA_same] at e2
  have e3 : ∀ i, f' i = if at_ + 1 ≤ i ∧ i < at_ + 33 then sb (bg d (i - (at_ + 1))) else if i = at_ then sb 1 else f i := fun i => by
    rw [e2]
    by_cases z : at_ + 1 ≤ i ∧ i < at_ + 33
    · rw [if_pos z, if_pos (by omega)]
    · rw [if_neg z, if_neg (by omega)]
      rfl
  refine go f' (fun i => ?_) e3
  rw [e3]
  split
  · exact sb_b8 _
  split
  · exact sb_b8 _
  · exact fb i
/-- the first end -/
theorem acc_133 {P : cS → Prop} {p q : Nat} {o : Option (List Nat)} {d : List Nat} {f : Nat → Int32} (hN : 100 ≤ N) (L : cL s1 (c + 2) = 128) (hp : nmC s1 p o) (ho : idK o) (hq : nmC s1 q (some d)) (hB : isB d) (l2 : d.length = 32) (fb : rB f) (go : ∀ f', rB f' → (∀ i, i < 6 → f' i = f i) → (∀ i, i < (enB o ++ enB (some d)).length → f' (6 + i) = sb (bg (enB o ++ enB (some d)) i)) → wp (KO_X3_accuse_192 N g H T (some (nd g n)) (some c) (csArow s1 (c + 2) f')) (KF_X3_accuse_192 N g H T (some (nd g n)) (some c) (csArow s1 (c + 2) f')) P) : wp (KO_X3_accuse_133 N g H T (some (nd g n)) (some p) (some q) (some c) (some (c + 2)) (nI 6) (nI (edN o)) (csArow s1 (c + 2) f)) (KF_X3_accuse_133 N g H T (some (nd g n)) (some p) (some q) (some c) (some (c + 2)) (nI 6) (nI (edN o)) (csArow s1 (c + 2) f)) P := by
  unfold KO_X3_accuse_133 KF_X3_accuse_133
  have eo : edN o ≤ 1 := by
    cases o with
    | none => exact Nat.zero_le _
    | some d => exact Nat.le_refl _
  have Lr : ∀ f, cL (csArow s1 (c + 2) f) (c + 2) = 128 := fun _ => L
  have c6 : (nI 6).toNatClampNeg = 6 := rfl
  rw [zsome, zsome, zsome, sb2, c6, csA_row, cA_same, row_row, Lr, show edN o % 256 = edN o by omega]
  refine wp_and ⟨someN, ((n_in (by omega)).2 (by omega))⟩ (wp_and someN ?_)
  have i5 : cI (csArow s1 (c + 2) (upd f 6 (sb (edN o)))) 5 p = cI s1 5 p := rfl
  rw [i5]
  cases o with
  | none =>
    have hp : cI s1 5 p = nI 0 := hp
    refine wp_pos (by rw [hp]; rfl) ?_
    unfold KO_X3_accuse_153 KF_X3_accuse_153
    rw [zsome]
    refine wp_and someN (wp_pos (by show cI s1 5 p = 0; rw [hp]; rfl) (acc_167 hN L (by decide) hq hB (fb.up 6 _) (fun f' b' e' => go f' b' (fun i hi => ?_) (fun i hi => ?_))))
    · rw [e', if_neg (by omega), if_neg (by omega), upd_other _ _ (by omega)]
    · have l0 : (enB (none : Option (List Nat)) ++ enB (some d)) = 0 :: 1 :: d := rfl
      rw [l0] at hi ⊢
      rw [e', bg_cons, bg_cons]
      by_cases z : i = 0
      · rw [if_neg (by omega), if_neg (by omega), if_pos z, z]
        exact upd_same _ _ _
      · rw [if_neg z]
        by_cases z1 : i = 1
        · rw [if_neg (by omega), if_pos (by omega), if_pos (by omega)]
        · have hi : i < d.length + 2 := hi
          rw [if_pos (by omega), if_neg (by omega), show 6 + i - (7 + 1) = i - 1 - 1 by omega]
  | some d1 =>
    have h5 : cI s1 5 p = nI 1 := hp.1
    obtain ⟨l1, b1⟩ := ho d1 rfl
    refine wp_neg (by rw [h5]; decide) ?_
    have hp' : nmC (csArow s1 (c + 2) (upd f 6 (sb (edN (some d1))))) p (some d1) := hp
    have wi := wrId_ok (N := N) (g := g) (H := H) (T := T) (s := csArow s1 (c + 2) (upd f 6 (sb (edN (some d1))))) (a := p) (r := c + 2) (at_ := 7) (d := d1) hN hp'.2 b1 (by rw [Lr]; decide) (by rw [Lr]; decide)
    refine wp_and someN (wp_and wi.1 ?_)
    obtain ⟨f2, e1, e2⟩ := wi.2
    rw [e1, row_row]
    rw [cA_same] at e2
    unfold KO_X3_accuse_153 KF_X3_accuse_153
    rw [zsome]
    have b2 : rB f2 := fun i => by
      rw [e2]
      split
      · exact sb_b8 _
      · exact fb.up 6 _ i
    refine wp_and someN (wp_neg (by show ¬ cI s1 5 p = 0; rw [h5]; decide) (acc_167 hN L (by decide) hq hB b2 (fun f' b' e' => go f' b' (fun i hi => ?_) (fun i hi => ?_))))
    · rw [e', if_neg (by omega), if_neg (by omega), e2, if_neg (by omega), upd_other _ _ (by omega)]
    · have l0 : (enB (some d1) ++ enB (some d)) = 1 :: (d1 ++ (1 :: d)) := rfl
      rw [l0] at hi ⊢
      have hi : i < (d1 ++ (1 :: d)).length + 1 := hi
      rw [List.length_append] at hi
      have hi : i < d1.length + (d.length + 1) + 1 := hi
      rw [e', bg_cons]
      by_cases z : i = 0
      · rw [if_neg (by omega), if_neg (by omega), if_pos z, z, e2, if_neg (by omega)]
        exact upd_same _ _ _
      · rw [if_neg (show ¬ i = 0 from z), bg_app, l1]
        by_cases z1 : i ≤ 32
        · rw [if_neg (by omega), if_neg (by omega), e2, if_pos (by omega), if_pos (by omega), show 6 + i - 7 = i - 1 by omega]
        · rw [if_neg (show ¬ i - 1 < 32 by omega), bg_cons]
          by_cases z2 : i = 33
          · rw [if_neg (by omega), if_pos (by omega), if_pos (by omega)]
          · rw [if_pos (by omega), if_neg (by omega), show 6 + i - (39 + 1) = i - 1 - 32 - 1 by omega]
end
end

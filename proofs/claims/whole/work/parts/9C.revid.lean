section
/-! THE REFERENCE ACCUSES -/
/-- a message's end: the id that it is for, or none -/
def edM (m : List Nat) : Option (List Nat) := if bg m 0 = 1 then some (idB (m.drop 6)) else if bg m 5 = 1 then some (voD m) else none
def enB (o : Option (List Nat)) : List Nat := match o with
  | none => [0]
  | some d => 1 :: d
def edN (o : Option (List Nat)) : Nat := match o with
  | none => 0
  | some _ => 1
def evF (o o' : Option (List Nat)) : Prop := o = none ∨ ∃ d d', o = some d ∧ o' = some d' ∧ lesD d d'
def evH (m : List Nat) : List Nat := [6, bg m 1, bg m 0, tw m 2 / 256, tw m 2 % 256, bg m 4]
noncomputable def ev1 (m y : List Nat) : Option (List Nat) := cif (evF (edM m) (edM y)) (edM m) (edM y)
noncomputable def ev2 (m y : List Nat) : Option (List Nat) := cif (evF (edM m) (edM y)) (edM y) (edM m)
noncomputable def evM (m y : List Nat) : List Nat := evH m ++ enB (ev1 m y) ++ enB (ev2 m y)
noncomputable def aEv (w : Wd) (n T : Nat) (m y : List Nat) : Wd := if (aKp w n (evM m y)).1 then aAll (aKp w n (evM m y)).2 n T (evM m y) else (aKp w n (evM m y)).2
theorem edM_ok {m d : List Nat} (hB : isB m) (e : edM m = some d) : d.length = 32 ∧ isB d := by
  unfold edM at e
  split at e
  · cases e
    exact ⟨idB_len _, idB_B _⟩
  · split at e
    · cases e
      exact ⟨voD_len _, voD_B hB⟩
    · cases e
theorem enB_ok {o : Option (List Nat)} (h : ∀ d, o = some d → d.length = 32 ∧ isB d) : (enB o).length ≤ 33 ∧ 1 ≤ (enB o).length ∧ isB (enB o) := by
  cases o with
  | none => exact ⟨by decide, by decide, isB_cons (by decide) isB_nil⟩
  | some d =>
    obtain ⟨a, b⟩ := h d rfl
    refine ⟨?_, ?_, isB_cons (by decide) b⟩
    · show d.length + 1 ≤ 33
      omega
    · show 1 ≤ d.length + 1
      omega
theorem inL.fr {S S1 : rS} {L : List Nat} {k : Nat} {d : List Nat} (h : inL S k d) (f : rfr L S S1) (hk : k ∉ L) : inL S1 k d := fun i hi => by rw [f.l k hk]; exact h i hi
theorem inL.id {S : rS} {k : Nat} {d : List Nat} (h : inL S k d) : idL (S.2.2 k 0) (S.2.2 k 1) (S.2.2 k 2) (S.2.2 k 3) d := fun r hr => by
  have a := h.b (q := 0) (by decide) hr
  have b := h.b (q := 1) (by decide) hr
  have c := h.b (q := 2) (by decide) hr
  have e := h.b (q := 3) (by decide) hr
  rw [show 8 * 0 + r = r by omega] at a
  exact ⟨a, b, c, e⟩
section
variable {N n F H T : Nat} {S : rS} {w : Wd} {m y : List Nat}
/-- one end is written -/
theorem evidence_95 {c j : Nat} {x3 : Int32} {b : List Nat} {X : Nat × Int32 × rS → Prop} {rok : Int32 → Int32 → Int32 → Int32 → rS → Prop} {rec : Int32 → Int32 → Int32 → Int32 → rS → Nat × Int32 × rS} (hN : 1000 ≤ N) (hB : isB m) (hB' : isB y) (h41 : S.1 41 = nI (edN (edM m))) (i42 : ∀ d, edM m = some d → inL S 42 d) (i88 : ∀ d, edM y = some d → inL S 88 d) (hc : c ≤ 1) (hb : mB S b) (hl : b.length ≤ 100) (go : ∀ S', rfr [32, 33] S S' → mB S' (b ++ enB (if c = 1 then edM m else edM y)) → wp (rok (nI n) (nI (edN (edM y))) x3 (nI j + nI 1) S') (rec (nI n) (nI (edN (edM y))) x3 (nI j + nI 1) S') X) : wp (O_evidence_95 N rok (nI n) (nI (edN (edM y))) x3 (nI j) (nI c) S) (F_evidence_95 N rec (nI n) (nI (edN (edM y))) x3 (nI j) (nI c) S) X := by
  unfold O_evidence_95 F_evidence_95
  have zero : ∀ o : Option (List Nat), o = none → (if c = 1 then edM m else edM y) = o → wp (O_evidence_180 N rok (nI n) (nI (edN (edM y))) x3 (nI j) S) (F_evidence_180 N rec (nI n) (nI (edN (edM y))) x3 (nI j) S) X := fun o e1 e2 => by
    unfold O_evidence_180 F_evidence_180
    refine wp_call (writeN_ok (x := 0) (by omega) hb (by omega)) (fun q => ?_)
    unfold O_evidence_185 F_evidence_185
    refine go _ q.1 ?_
    rw [e2, e1]
    exact q.2
  rcases (show c = 0 ∨ c = 1 by omega) with e | e
  · subst e
    refine wp_pos rfl ?_
    unfold O_evidence_140 F_evidence_140
    refine wp_pos rfl ?_
    cases ey : edM y with
    | none => 
      rw [ey] at zero go i88
      exact wp_pos rfl (zero none rfl rfl)
    | some d =>
      rw [ey] at zero go i88
      obtain ⟨d1, d2⟩ := edM_ok hB' ey
      refine wp_neg (show ¬ nI 1 = 0 by decide) (wp_and ((n_in (by omega)).2 (by omega)) (wp_and ((n_in (by omega)).2 (by omega)) (wp_and ((n_in (by omega)).2 (by omega)) (wp_and ((n_in (by omega)).2 (by omega)) (wp_call (writeId_ok (d := d) hb (i88 d rfl).id d1 d2 (by omega) (by omega)) (fun q => ?_))))))
      unfold O_evidence_177 F_evidence_177 O_evidence_185 F_evidence_185
      exact go _ q.1 q.2
  · subst e
    rw [h41]
    refine wp_neg (show ¬ nI 1 = 0 by decide) ?_
    cases em : edM m with
    | none =>
      rw [em] at zero
      refine wp_pos rfl ?_
      unfold O_evidence_140 F_evidence_140
      exact wp_neg (show ¬ nI 1 = 0 by decide) (zero none rfl rfl)
    | some d =>
      obtain ⟨d1, d2⟩ := edM_ok hB em
      refine wp_neg (show ¬ nI 1 = 0 by decide) (wp_and ((n_in (by omega)).2 (by omega)) (wp_and ((n_in (by omega)).2 (by omega)) (wp_and ((n_in (by omega)).2 (by omega)) (wp_and ((n_in (by omega)).2 (by omega)) (wp_call (writeId_ok (d := d) hb (i42 d em).id d1 d2 (by omega) (by omega)) (fun q => ?_))))))
      unfold O_evidence_137 F_evidence_137 O_evidence_185 F_evidence_185
      refine go _ q.1 ?_
      rw [if_pos rfl, em]
      exact q.2
theorem evidence_66 {c : Nat} (hN : 1000 ≤ N) (h : rRp F H T S w) (hn : n < H) (hB : isB m) (hB' : isB y) (h41 : S.1 41 = nI (edN (edM m))) (i42 : ∀ d, edM m = some d → inL S 42 d) (i88 : ∀ d, edM y = some d → inL S 88 d) (hc : (evF (edM m) (edM y) ∧ c = 1) ∨ (¬ evF (edM m) (edM y) ∧ c = 0)) (hb : mB S (evH m)) (hs : bg m 1 < 13) : wp (O_evidence_66 N (nI n) (nI (edN (edM y))) (nI c) S) (F_evidence_66 N (nI n) (nI (edN (edM y))) (nI c) S) (fun S' => rRp F H T S' (aEv w n T m y)) := by
  have cb := h.1.1.b
  have o1 : ∀ d, ev1 m y = some d → d.length = 32 ∧ isB d := fun d e => by
    unfold ev1 at e
    by_cases z : evF (edM m) (edM y)
    · rw [cif_pos z] at e; exact edM_ok hB e
    · rw [cif_neg z] at e; exact edM_ok hB' e
  have o2 : ∀ d, ev2 m y = some d → d.length = 32 ∧ isB d := fun d e => by
    unfold ev2 at e
    by_cases z : evF (edM m) (edM y)
    · rw [cif_pos z] at e; exact edM_ok hB' e
    · rw [cif_neg z] at e; exact edM_ok hB e
  obtain ⟨n1, n1', n1''⟩ := enB_ok o1
  obtain ⟨n2, n2', n2''⟩ := enB_ok o2
  have f1 : ev1 m y = if c = 1 then edM m else edM y := by
    unfold ev1
    rcases hc with ⟨a, b⟩ | ⟨a, b⟩
    · rw [cif_pos a, if_pos b]
    · rw [cif_neg a, if_neg (by omega)]
  have f2 : ev2 m y = if c = 0 then edM m else edM y := by
    unfold ev2
    rcases hc with ⟨a, b⟩ | ⟨a, b⟩
    · rw [cif_pos a, if_neg (by omega)]
    · rw [cif_neg a, if_pos b]
  have c1 : c ≤ 1 := by omega
  have lH : (evH m).length = 6 := rfl
  unfold O_evidence_66 F_evidence_66
  refine wp_seq (Q := fun z : Nat × Int32 × rS => z = (0, nI n, z.2.2) ∧ rfr [32, 33] S z.2.2 ∧ mB z.2.2 (evM m y)) ?_ ?_
  · refine wp_loop (K := 2) (fun j x => rfr [32, 33] S x ∧ mB x (if j = 0 then evH m else if j = 1 then evH m ++ enB (ev1 m y) else evM m y)) (fun q j x => OL_evidence_70 N q (nI n) (nI (edN (edM y))) (nI c) (nI j) x) (fun q j x => L_evidence_70 N q (nI n) (nI (edN (edM y))) (nI c) (nI j) x) (fun q j x hj hI ih => ?_) 0 N S (by omega) (by omega) ⟨rfr.refl, hb⟩
    obtain ⟨g1, g2⟩ := hI
    have g41 : x.1 41 = nI (edN (edM m)) := by rw [g1.i 41 (by decide)]; exact h41
    have g42 : ∀ d, edM m = some d → inL x 42 d := fun d e => (i42 d e).fr g1 (by decide)
    have g88 : ∀ d, edM y = some d → inL x 88 d := fun d e => (i88 d e).fr g1 (by decide)
    unfold OL_evidence_70 L_evidence_70 OB_evidence_70 B_evidence_70
    rcases (show j = 0 ∨ j = 1 ∨ j = 2 by omega) with e | e | e
    · have nx : ∀ c', c' ≤ 1 → (c' = 1 ↔ c = 1) → wp (O_evidence_95 N (OL_evidence_70 N q) (nI n) (nI (edN (edM y))) (nI c) (nI j) (nI c') x) (F_evidence_95 N (L_evidence_70 N q) (nI n) (nI (edN (edM y))) (nI c) (nI j) (nI c') x) (fun z : Nat × Int32 × rS => z = (0, nI n, z.2.2) ∧ rfr [32, 33] S z.2.2 ∧ mB z.2.2 (evM m y)) := fun c' k1 k2 => by
        rw [if_pos e] at g2
        refine evidence_95 hN hB hB' g41 g42 g88 k1 g2 (by omega) (fun S' s1 s2 => ?_)
        rw [n_add]
        refine ih S' ⟨g1.trans s1, ?_⟩ (by omega)
        rw [if_neg (by omega), if_pos (by omega), f1]
        have : (if c' = 1 then edM m else edM y) = if c = 1 then edM m else edM y := by
          by_cases z : c = 1
          · rw [if_pos z, if_pos (k2.2 z)]
          · rw [if_neg z, if_neg (fun t => z (k2.1 t))]
        rw [← this]
        exact s2
      refine wp_neg (by rw [n_le' (by omega) (by omega)]; omega) (wp_pos (by rw [e]; rfl) ?_)
      unfold O_evidence_87 F_evidence_87
      refine wp_ite (fun d => ?_) (fun d => ?_) <;> rw [n_eq' (by omega) (by omega)] at d
      · exact nx 1 (by omega) (by omega)
      · exact nx 0 (by omega) (by omega)
    · have nx : ∀ c', c' ≤ 1 → (c' = 1 ↔ c = 0) → wp (O_evidence_95 N (OL_evidence_70 N q) (nI n) (nI (edN (edM y))) (nI c) (nI j) (nI c') x) (F_evidence_95 N (L_evidence_70 N q) (nI n) (nI (edN (edM y))) (nI c) (nI j) (nI c') x) (fun z : Nat × Int32 × rS => z = (0, nI n, z.2.2) ∧ rfr [32, 33] S z.2.2 ∧ mB z.2.2 (evM m y)) := fun c' k1 k2 => by
        rw [if_neg (by omega), if_pos e] at g2
        refine evidence_95 hN hB hB' g41 g42 g88 k1 g2 (by rw [List.length_append]; omega) (fun S' s1 s2 => ?_)
        rw [n_add]
        refine ih S' ⟨g1.trans s1, ?_⟩ (by omega)
        rw [if_neg (by omega), if_neg (by omega)]
        have : (if c' = 1 then edM m else edM y) = ev2 m y := by
          rw [f2]
          by_cases z : c = 0
          · rw [if_pos z, if_pos (k2.2 z)]
          · rw [if_neg z, if_neg (fun t => z (k2.1 t))]
        rw [this] at s2
        exact s2
      refine wp_neg (by rw [n_le' (by omega) (by omega)]; omega) (wp_neg (by rw [n_eq0 (by omega)]; omega) ?_)
      unfold O_evidence_87 F_evidence_87
      refine wp_ite (fun d => ?_) (fun d => ?_) <;> rw [n_eq' (by omega) (by omega)] at d
      · exact nx 1 (by omega) (by omega)
      · exact nx 0 (by omega) (by omega)
    · refine wp_pos (by rw [n_le' (by omega) (by omega)]; omega) ?_
      rw [if_neg (by omega), if_neg (by omega)] at g2
      exact wp_fin trivial ⟨rfl, g1, g2⟩
  rintro z ⟨z0, z1, z2⟩
  rw [z0]
  generalize z.2.2 = S1 at z1 z2 ⊢
  have R1 := h.sf (sf32 z1)
  show wp (O_evidence_191 N (nI n) S1) (F_evidence_191 N (nI n) S1) _
  unfold O_evidence_191 F_evidence_191
  have lM : (evM m y).length = 6 + (enB (ev1 m y)).length + (enB (ev2 m y)).length := by
    unfold evM
    rw [List.length_append, List.length_append]
    rfl
  have bM : bg (evM m y) 1 = bg m 1 := by
    unfold evM
    rw [bg_app, if_pos (by rw [List.length_append]; omega), bg_app, if_pos (by rw [lH]; decide)]
    rfl
  refine wp_call (keepProof_ok hN R1 hn z2 (by rw [bM]; exact hs) (by omega) (by omega)) (fun q => ?_)
  obtain ⟨q1, q2, q3⟩ := q
  have m2 := z2.fr q1 (by decide) (by decide)
  generalize f_keepProof N S1 (nI n) = x at q1 q2 q3 m2 ⊢
  unfold O_evidence_196 F_evidence_196 aEv
  rw [q3]
  cases hk : (aKp w n (evM m y)).1 with
  | false =>
    refine wp_pos rfl ?_
    unfold O_evidence_204 F_evidence_204
    exact wp_fin trivial q2
  | true =>
    refine wp_neg (show ¬ nI 1 = 0 by decide) (wp_call (flyAll_ok (T := T) (tk := wT (aKp w n (evM m y)).2) hN q2.co.2.1 (by omega) m2 (by omega) q2.sk q2.co.2.2.2.2.2.1 (by omega) (by have := q2.co.2.2.2.2.2.2.1; omega)) (fun r => ?_))
    unfold O_evidence_204 F_evidence_204
    exact wp_fin trivial (q2.sky r.1 r.2)
theorem evidence_ok (hN : 1000 ≤ N) (h : rRp F H T S w) (hn : n < H) (hB : isB m) (hB' : isB y) (h36 : S.1 36 = nI (bg m 0)) (h37 : S.1 37 = nI (bg m 1)) (h38 : S.1 38 = nI (tw m 2)) (h39 : S.1 39 = nI (bg m 4)) (h41 : S.1 41 = nI (edN (edM m))) (i42 : ∀ d, edM m = some d → inL S 42 d) (i88 : ∀ d, edM y = some d → inL S 88 d) (hs : bg m 1 < 13) : wp (o_evidence N S (nI n) (nI (edN (edM y)))) (f_evidence N S (nI n) (nI (edN (edM y)))) (fun S' => rRp F H T S' (aEv w n T m y)) := by
  have cb := h.1.1.b
  have t2 := tw_lt hB 2
  have b0 := hB 0
  have b4 := hB 4
  show wp (O_evidence_0 N (nI n) (nI (edN (edM y))) S) (F_evidence_0 N (nI n) (nI (edN (edM y))) S) _
  unfold O_evidence_0 F_evidence_0
  refine wp_call (writeN_ok (x := 6) (by omega) mB0 (by simp)) (fun q => ?_)
  obtain ⟨q1, q2⟩ := q
  have f1 : rfr [32, 33] S _ := (rfr.oneI (L := [32, 33]) (by decide)).trans q1
  generalize f_write N (rsI S 33 (nI 0)) (nI 6) = S1 at f1 q2 ⊢
  unfold O_evidence_11 F_evidence_11
  rw [f1.i 37 (by decide), h37]
  refine wp_call (writeN_ok (x := bg m 1) (by omega) q2 (by simp)) (fun q => ?_)
  obtain ⟨r1, r2⟩ := q
  have f2 := f1.trans r1
  generalize f_write N S1 (nI (bg m 1)) = S2 at f2 r2 ⊢
  unfold O_evidence_19 F_evidence_19
  rw [f2.i 36 (by decide), h36]
  refine wp_call (writeN_ok (x := bg m 0) (by omega) r2 (by simp)) (fun q => ?_)
  obtain ⟨s1, s2⟩ := q
  have f3 := f2.trans s1
  generalize f_write N S2 (nI (bg m 0)) = S3 at f3 s2 ⊢
  unfold O_evidence_27 F_evidence_27
  rw [f3.i 38 (by decide), h38]
  refine wp_call (writeTwo_ok (v := tw m 2) (by omega) s2 (by simp)) (fun q => ?_)
  obtain ⟨t1, t3⟩ := q
  have f4 := f3.trans t1
  generalize f_writeTwo N S3 (nI (tw m 2)) = S4 at f4 t3 ⊢
  unfold O_evidence_35 F_evidence_35
  rw [f4.i 39 (by decide), h39]
  refine wp_call (writeN_ok (x := bg m 4) (by omega) t3 (by simp)) (fun q => ?_)
  obtain ⟨u1, u2⟩ := q
  have f5 := f4.trans u1
  have u2 : mB (f_write N S4 (nI (bg m 4))) (evH m) := u2
  generalize f_write N S4 (nI (bg m 4)) = S5 at f5 u2 ⊢
  have R5 := h.sf (sf32 f5)
  have g41 : S5.1 41 = nI (edN (edM m)) := by rw [f5.i 41 (by decide)]; exact h41
  have g42 : ∀ d, edM m = some d → inL S5 42 d := fun d e => (i42 d e).fr f5 (by decide)
  have g88 : ∀ d, edM y = some d → inL S5 88 d := fun d e => (i88 d e).fr f5 (by decide)
  unfold O_evidence_43 F_evidence_43
  rw [g41]
  cases em : edM m with
  | none =>
    refine wp_pos rfl ?_
    unfold O_evidence_61 F_evidence_61
    exact evidence_66 (c := 1) hN R5 hn hB hB' g41 g42 g88 (Or.inl ⟨Or.inl em, rfl⟩) u2 hs
  | some d =>
    refine wp_neg (show ¬ nI 1 = 0 by decide) ?_
    cases ey : edM y with
    | none =>
      refine wp_pos rfl ?_
      unfold O_evidence_65 F_evidence_65
      have := evidence_66 (c := 0) hN R5 hn hB hB' g41 g42 g88 (Or.inr ⟨(by
        rintro (z | ⟨a, b, z1, z2, z3⟩)
        · rw [em] at z; cases z
        · rw [ey] at z2; cases z2), rfl⟩) u2 hs
      rw [ey] at this
      exact this
    | some d' =>
      obtain ⟨e1, e2⟩ := edM_ok hB em
      obtain ⟨e3, e4⟩ := edM_ok hB' ey
      obtain ⟨l1, l2⟩ := isLessId_ok (N := N) (g42 d em) (g88 d' ey) e1 e3 e2 e4 (by omega)
      refine wp_neg (show ¬ nI 1 = 0 by decide) (wp_and l1 ?_)
      rcases l2 with ⟨l2, l3⟩ | ⟨l2, l3⟩ <;> rw [l3]
      · refine wp_neg (by decide) ?_
        unfold O_evidence_61 F_evidence_61
        have := evidence_66 (c := 1) hN R5 hn hB hB' g41 g42 g88 (Or.inl ⟨Or.inr ⟨d, d', em, ey, l2⟩, rfl⟩) u2 hs
        rw [ey] at this
        exact this
      · refine wp_pos rfl ?_
        unfold O_evidence_65 F_evidence_65
        have := evidence_66 (c := 0) hN R5 hn hB hB' g41 g42 g88 (Or.inr ⟨by
          rintro (z | ⟨a, b, z1, z2, z3⟩)
          · rw [em] at z; cases z
          · rw [em] at z1; rw [ey] at z2; cases z1; cases z2; exact l2 z3, rfl⟩) u2 hs
        rw [ey] at this
        exact this
end
end

section
/-! THE REFERENCE'S SNAPSHOTS: alike, enough of them, noted -/
section
variable {N n F H T : Nat} {S : rS} {w : Wd}
theorem isSameSnap_ok {s t : Nat} {m : List Nat} (hN : 1000 ≤ N) (h : rRp F H T S w) (hn : n < H) (hs : s < 13) (ht : t < 13) (hm : wY w n 3 s = some m) : wp (o_isSameSnap N S (nI (13 * n + s)) (nI (13 * n + t))) (f_isSameSnap N S (nI (13 * n + s)) (nI (13 * n + t))) (fun v => (wY w n 3 t = some m ∧ v = nI 1) ∨ (wY w n 3 t ≠ some m ∧ v = nI 0)) := by
  have cb := h.1.1.b
  have z1 := h.s n s hn hs
  rw [hm] at z1
  obtain ⟨a1, a2, a3, a4, a5⟩ := z1
  have tl := tw_lt a4 1
  have z2 := h.s n t hn ht
  show wp (O_isSameSnap_0 N (nI (13 * n + s)) (nI (13 * n + t)) S) (F_isSameSnap_0 N (nI (13 * n + s)) (nI (13 * n + t)) S) _
  unfold O_isSameSnap_0 F_isSameSnap_0
  rw [n_clamp (by omega), n_clamp (by omega), a1]
  refine wp_and ((n_in (by omega)).2 (by omega)) (wp_and ((n_in (by omega)).2 (by omega)) ?_)
  have no : wY w n 3 t ≠ some m → wp (O_isSameSnap_20 N (nI (13 * n + s)) (nI (13 * n + t)) (nI 0) S) (F_isSameSnap_20 N (nI (13 * n + s)) (nI (13 * n + t)) (nI 0) S) (fun v => (wY w n 3 t = some m ∧ v = nI 1) ∨ (wY w n 3 t ≠ some m ∧ v = nI 0)) := by
    intro ne
    unfold O_isSameSnap_20 F_isSameSnap_20
    refine wp_seq (Q := fun z : Nat × Int32 × Unit => z.2.1 = nI 0) ?_ (fun z hz => ?_)
    · obtain ⟨N, rfl⟩ := exs (show 0 < N by omega)
      unfold OL_isSameSnap_24 L_isSameSnap_24 OB_isSameSnap_24 B_isSameSnap_24
      exact wp_neg (by decide) (wp_pos rfl (wp_fin trivial rfl))
    · unfold OA_isSameSnap_24 A_isSameSnap_24 O_isSameSnap_74 F_isSameSnap_74
      rw [hz]
      exact wp_fin rfl (Or.inr ⟨ne, rfl⟩)
  cases hy : wY w n 3 t with
  | none =>
    rw [hy] at z2 no
    have z2 : S.2.1 57 (13 * n + t) = nI 0 := z2
    rw [z2]
    exact wp_neg (by rw [n_eq' (by omega) (by omega)]; omega) (no (fun z => by cases z))
  | some m' =>
    rw [hy] at z2 no
    obtain ⟨b1, b2, b3, b4, b5⟩ := z2
    have tl' := tw_lt b4 1
    rw [b1]
    refine wp_ite (fun c => ?_) (fun c => ?_) <;> rw [n_eq' (by omega) (by omega)] at c
    rotate_left
    · exact no (fun z => c (by cases z; rfl))
    unfold O_isSameSnap_20 F_isSameSnap_20
    refine wp_seq (Q := fun z : Nat × Int32 × Unit => (m' = m ∧ z.2.1 = nI 1) ∨ (m' ≠ m ∧ z.2.1 = nI 0)) ?_ (fun z hz => ?_)
    · refine wp_loop (K := 115) (fun j (x : Nat) => (x = 1 ∧ ∀ i, i < j → bg m i = bg m' i) ∨ (x = 0 ∧ m' ≠ m)) (fun r j x => OL_isSameSnap_24 N r (nI (13 * n + s)) (nI (13 * n + t)) (nI x) (nI j) S) (fun r j x => L_isSameSnap_24 N r (nI (13 * n + s)) (nI (13 * n + t)) (nI x) (nI j) S) (fun r j x hj hI ih => ?_) 0 N 1 (by omega) (by omega) (Or.inl ⟨rfl, fun i hi => absurd hi (by omega)⟩)
      unfold OL_isSameSnap_24 L_isSameSnap_24 OB_isSameSnap_24 B_isSameSnap_24
      by_cases e : j = 115
      · refine wp_pos (by rw [n_le' (by omega) (by omega)]; omega) (wp_fin trivial ?_)
        rcases hI with ⟨rfl, g⟩ | ⟨rfl, g⟩
        · exact Or.inl ⟨(by_ext (by rw [a3, b3]) (fun i hi => g i (by omega))).symm, rfl⟩
        · exact Or.inr ⟨g, rfl⟩
      · refine wp_neg (by rw [n_le' (by omega) (by omega)]; omega) ?_
        rcases hI with ⟨rfl, g⟩ | ⟨rfl, g⟩
        · have u1 := a4 j
          have u2 := b4 j
          simp only [n_mul, n_add]
          rw [n_clamp (by omega), n_clamp (by omega), a5 j (by omega), b5 j (by omega)]
          refine wp_neg (by decide) (wp_and ((n_in (by omega)).2 (by omega)) (wp_and ((n_in (by omega)).2 (by omega)) (wp_ite (fun c1 => ?_) (fun c1 => ?_)))) <;> rw [n_eq' (by omega) (by omega)] at c1
          · unfold O_isSameSnap_67 F_isSameSnap_67
            rw [n_add]
            refine ih 1 (Or.inl ⟨rfl, fun i hi => ?_⟩) (by omega)
            by_cases e2 : i = j
            · rw [e2]; exact c1
            · exact g i (by omega)
          · unfold O_isSameSnap_67 F_isSameSnap_67
            rw [n_add]
            exact ih 0 (Or.inr ⟨rfl, fun z => c1 (by rw [z])⟩) (by omega)
        · exact wp_pos rfl (wp_fin trivial (Or.inr ⟨g, rfl⟩))
    · unfold OA_isSameSnap_24 A_isSameSnap_24 O_isSameSnap_74 F_isSameSnap_74
      rcases hz with ⟨g1, g2⟩ | ⟨g1, g2⟩ <;> rw [g2]
      · exact wp_fin rfl (Or.inl ⟨by rw [g1], rfl⟩)
      · exact wp_fin rfl (Or.inr ⟨fun z => g1 (by cases z; rfl), rfl⟩)
/-- snapshots alike -/
def snC (w : Wd) (n : Nat) (m : List Nat) : Nat → Nat
  | 0 => 0
  | j + 1 => snC w n m j + (if wY w n 3 j = some m then 1 else 0)
theorem snC_le (w : Wd) (n : Nat) (m : List Nat) : ∀ j, snC w n m j ≤ j
  | 0 => Nat.le_refl _
  | j + 1 => by
    have := snC_le w n m j
    unfold snC
    split <;> omega
/-- a snapshot that a node may take -/
def snF (w : Wd) (n T F s : Nat) : Prop := ∃ m, wY w n 3 s = some m ∧ wN w n 1 < tw m 1 ∧ F < snC w n m T
theorem snapshot_ok (hN : 1000 ≤ N) (h : rRp F H T S w) (hn : n < H) (h1 : 0 ≤ wN w n 1 ∧ wN w n 1 ≤ 41) : wp (o_snapshot N S (nI n)) (f_snapshot N S (nI n)) (fun v => (∃ s, s < T ∧ snF w n T F s ∧ (∀ i, i < s → ¬ snF w n T F i) ∧ v = nI (13 * n + s)) ∨ ((∀ s, s < T → ¬ snF w n T F s) ∧ v = -1)) := by
  have cb := h.1.1.b
  have eT : S.1 0 = nI T := h.co.2.1
  have eF : S.1 1 = nI F := h.co.2.2.1
  have cF : F ≤ 4 := h.1.1.2.1
  have e44 : S.2.1 44 n = nI (wN w n 1).toNat := by
    have := h.num hn 1 (by decide) (by decide)
    rw [← Int.toNat_of_nonneg h1.1, iI_n] at this
    exact this
  show wp (O_snapshot_0 N (nI n) S) (F_snapshot_0 N (nI n) S) _
  unfold O_snapshot_0 F_snapshot_0
  refine wp_seq (Q := fun z : Nat × Int32 × Unit => (∃ s, s < T ∧ snF w n T F s ∧ (∀ i, i < s → ¬ snF w n T F i) ∧ z.1 = 0 ∧ z.2.1 = nI (13 * n + s)) ∨ ((∀ s, s < T → ¬ snF w n T F s) ∧ z.1 = 1)) ?_ ?_
  · have key := wp_loop (K := T) (P := fun z : Nat × Int32 × Unit => (∃ s, s < T ∧ snF w n T F s ∧ (∀ i, i < s → ¬ snF w n T F i) ∧ z.1 = 0 ∧ z.2.1 = nI (13 * n + s)) ∨ ((∀ s, s < T → ¬ snF w n T F s) ∧ z.1 = 1)) (fun j (_ : Unit) => ∀ i, i < j → ¬ snF w n T F i) (fun r j _ => OL_snapshot_2 N r (nI n) (nI j) S) (fun r j _ => L_snapshot_2 N r (nI n) (nI j) S) (fun r j x hj hI ih => ?_) 0 N () (by omega) (by omega) (fun i hi => absurd hi (by omega))
    · exact key
    · unfold OL_snapshot_2 L_snapshot_2 OB_snapshot_2 B_snapshot_2
      rw [eT]
      by_cases e : j = T
      · refine wp_pos (by rw [n_le' (by omega) (by omega)]; omega) ?_
        subst e
        exact wp_fin trivial (Or.inr ⟨hI, rfl⟩)
      · have nxt : ¬ snF w n T F j → wp (O_snapshot_93 N (fun a b => OL_snapshot_2 N r a b S) (nI n) (nI j) S) (F_snapshot_93 N (fun a b => L_snapshot_2 N r a b S) (nI n) (nI j) S) (fun z : Nat × Int32 × Unit => (∃ s, s < T ∧ snF w n T F s ∧ (∀ i, i < s → ¬ snF w n T F i) ∧ z.1 = 0 ∧ z.2.1 = nI (13 * n + s)) ∨ ((∀ s, s < T → ¬ snF w n T F s) ∧ z.1 = 1)) := by
          intro g
          unfold O_snapshot_93 F_snapshot_93
          rw [n_add]
          refine ih () (fun i hi => ?_) (by omega)
          by_cases e2 : i = j
          · rw [e2]; exact g
          · exact hI i (by omega)
        have z1 := h.s n j hn (by omega)
        simp only [n_mul, n_add]
        rw [n_clamp (by omega), n_clamp (by omega), e44]
        refine wp_neg (by rw [n_le' (by omega) (by omega)]; omega) (wp_and ((n_in (by omega)).2 (by omega)) (wp_and ((n_in (by omega)).2 (by omega)) ?_))
        cases hy : wY w n 3 j with
        | none =>
          rw [hy] at z1
          have z1 : S.2.1 57 (13 * n + j) = nI 0 := z1
          rw [z1]
          exact wp_neg (by rw [n_lt' (by omega) (by omega)]; omega) (nxt (fun ⟨m, e1, _⟩ => by rw [hy] at e1; cases e1))
        | some m =>
          rw [hy] at z1
          obtain ⟨a1, a2, a3, a4, a5⟩ := z1
          have tl := tw_lt a4 1
          rw [a1]
          refine wp_ite (fun c => ?_) (fun c => ?_) <;> rw [n_lt' (by omega) (by omega)] at c
          rotate_left
          · exact nxt (fun ⟨m2, e1, e2, _⟩ => by rw [hy] at e1; cases e1; omega)
          refine wp_seq (Q := fun z : Nat × Int32 × Int32 × Int32 × Int32 × Unit => z = (0, nI n, nI j, nI (13 * n + j), nI (snC w n m T), ())) ?_ ?_
          · refine wp_loop (K := T) (fun t (x : Nat) => x = snC w n m t) (fun r2 t x => OL_snapshot_41 N r2 (nI n) (nI j) (nI (13 * n + j)) (nI x) (nI t) S) (fun r2 t x => L_snapshot_41 N r2 (nI n) (nI j) (nI (13 * n + j)) (nI x) (nI t) S) (fun r2 t x ht hJ ih2 => ?_) 0 N 0 (by omega) (by omega) rfl
            unfold OL_snapshot_41 L_snapshot_41 OB_snapshot_41 B_snapshot_41
            rw [eT]
            by_cases e3 : t = T
            · refine wp_pos (by rw [n_le' (by omega) (by omega)]; omega) ?_
              refine wp_fin trivial ?_
              rw [hJ, e3]
            · simp only [n_mul, n_add]
              obtain ⟨v1, v2⟩ := isSameSnap_ok (N := N) (s := j) (t := t) hN h hn (by omega) (by omega) hy
              refine wp_neg (by rw [n_le' (by omega) (by omega)]; omega) (wp_and v1 ?_)
              rcases v2 with ⟨v2, v3⟩ | ⟨v2, v3⟩ <;> rw [v3]
              · refine wp_neg (by decide) ?_
                unfold O_snapshot_74 F_snapshot_74
                rw [n_add]
                refine ih2 (x + 1) ?_ (by omega)
                show x + 1 = snC w n m t + (if _ then 1 else 0)
                rw [if_pos v2, hJ]
              · refine wp_pos rfl ?_
                unfold O_snapshot_74 F_snapshot_74
                rw [n_add]
                refine ih2 x ?_ (by omega)
                show x = snC w n m t + (if _ then 1 else 0)
                rw [if_neg v2, hJ, Nat.add_zero]
          · rintro z rfl
            have cl := snC_le w n m T
            show wp (O_snapshot_82 N (fun a b => OL_snapshot_2 N r a b S) (nI n) (nI j) (nI (13 * n + j)) (nI (snC w n m T)) S) (F_snapshot_82 N (fun a b => L_snapshot_2 N r a b S) (nI n) (nI j) (nI (13 * n + j)) (nI (snC w n m T)) S) _
            unfold O_snapshot_82 F_snapshot_82
            rw [eF]
            refine wp_ite (fun c2 => ?_) (fun c2 => ?_) <;> rw [n_le' (by omega) (by omega)] at c2
            · exact nxt (fun ⟨m2, e1, e2, e3⟩ => by rw [hy] at e1; cases e1; omega)
            · exact wp_fin trivial (Or.inl ⟨j, (by omega), ⟨m, hy, (by omega), (by omega)⟩, hI, rfl, rfl⟩)
  · rintro z hz
    unfold OA_snapshot_2 A_snapshot_2
    rcases hz with ⟨s, s1, s2, s3, s4, s5⟩ | ⟨g1, g2⟩
    · rw [if_pos s4, if_pos s4]
      unfold O_snapshot_91 F_snapshot_91
      exact wp_fin trivial (Or.inl ⟨s, s1, s2, s3, s5⟩)
    · rw [if_neg (by omega), if_neg (by omega)]
      unfold O_snapshot_99 F_snapshot_99
      exact wp_fin trivial (Or.inr ⟨g1, rfl⟩)
/-- a snapshot is noted -/
def snAt (w : Wd) (n : Nat) : Nat := if wN w n 16 = 280 then 282 else 280
def snT (m : List Nat) : List Nat := ntH 6 (tw m 1) 0 ++ m
def aSnapN (w : Wd) (n : Nat) (m : List Nat) : Bool × Wd := if (aNote w n (snT m) (snAt w n)).1 then (true, sN (aNote w n (snT m) (snAt w n)).2 n 16 (snAt w n)) else (false, (aNote w n (snT m) (snAt w n)).2)
theorem noteSnap_ok {s : Nat} {m : List Nat} (hN : 1000 ≤ N) (h : rRp F H T S w) (hn : n < H) (hs : s < 13) (hm : wY w n 3 s = some m) (hc : 0 ≤ wN w n 12 ∧ wN w n 12 ≤ 1000) (h16 : -1 ≤ wN w n 16 ∧ wN w n 16 ≤ 300) : wp (o_noteSnap N S (nI n) (nI (13 * n + s))) (f_noteSnap N S (nI n) (nI (13 * n + s))) (fun z => (z.1 = nI 1 → rfr [71, 72, 73, 74, 75, 76, 77, 78, 79] S z.2) ∧ rRp F H T z.2 (aSnapN w n m).2 ∧ z.1 = nI (if (aSnapN w n m).1 then 1 else 0)) := by
  have cb := h.1.1.b
  have z1 := h.s n s hn hs
  rw [hm] at z1
  obtain ⟨a1, a2, a3, a4, a5⟩ := z1
  have tl := tw_lt a4 1
  show wp (O_noteSnap_0 N (nI n) (nI (13 * n + s)) S) (F_noteSnap_0 N (nI n) (nI (13 * n + s)) S) _
  unfold O_noteSnap_0 F_noteSnap_0
  rw [n_clamp (by omega), a1]
  refine wp_and ((n_in (by omega)).2 (by omega)) (wp_call (openNote_ok (k := 6) (q := 0) (by omega) (by omega) (by omega) (by omega)) (fun q1 => ?_))
  generalize f_openNote N S (nI 6) (nI (tw m 1)) (nI 0) = S1 at q1 ⊢
  unfold O_noteSnap_13 F_noteSnap_13
  refine wp_seq (Q := fun z : Nat × Int32 × rS => z = (0, nI n, z.2.2) ∧ rfr [71, 72] S z.2.2 ∧ tB z.2.2 (snT m)) ?_ ?_
  · refine wp_loop (K := 115) (fun j x => rfr [71, 72] S x ∧ tB x (ntH 6 (tw m 1) 0 ++ sl m 0 j)) (fun r j x => OL_noteSnap_15 N r (nI n) (nI (13 * n + s)) (nI j) x) (fun r j x => L_noteSnap_15 N r (nI n) (nI (13 * n + s)) (nI j) x) (fun r j x hj hI ih => ?_) 0 N S1 (by omega) (by omega) ⟨q1.1, by show tB S1 (ntH 6 (tw m 1) 0 ++ []); rw [List.append_nil]; exact q1.2⟩
    unfold OL_noteSnap_15 L_noteSnap_15 OB_noteSnap_15 B_noteSnap_15
    by_cases e : j = 115
    · refine wp_pos (by rw [n_le' (by omega) (by omega)]; omega) (wp_fin trivial ⟨rfl, hI.1, ?_⟩)
      have := hI.2
      rw [e, show (115 : Nat) = m.length from a3.symm, sl0_all] at this
      exact this
    · simp only [n_mul, n_add]
      rw [n_clamp (by omega), hI.1.a 58 (by decide), a5 j (by omega)]
      refine wp_neg (by rw [n_le' (by omega) (by omega)]; omega) (wp_and ((n_in (by omega)).2 (by omega)) (wp_call (noteN_ok (a4 j) hI.2 (by simp [ntH, sl_len]; omega)) (fun q3 => ?_)))
      unfold O_noteSnap_36 F_noteSnap_36
      rw [n_add]
      refine ih _ ⟨hI.1.trans q3.1, ?_⟩ (by omega)
      rw [← sl0_s, ← List.append_assoc]
      exact q3.2
  rintro z ⟨y0, y1, y2⟩
  rw [y0]
  generalize z.2.2 = S2 at y1 y2 ⊢
  show wp (O_noteSnap_42 N (nI n) S2) (F_noteSnap_42 N (nI n) S2) _
  have e79 : S2.2.1 79 n = iI (wN w n 16) := by rw [y1.a 79 (by decide)]; exact h.num hn 16 (by decide) (by decide)
  have go : ∀ a : Nat, a = snAt w n → a ≤ 282 → wp (O_noteSnap_63 N (nI n) (nI a) S2) (F_noteSnap_63 N (nI n) (nI a) S2) (fun z => (z.1 = nI 1 → rfr [71, 72, 73, 74, 75, 76, 77, 78, 79] S z.2) ∧ rRp F H T z.2 (aSnapN w n m).2 ∧ z.1 = nI (if (aSnapN w n m).1 then 1 else 0)) := by
    intro a ha ha2
    unfold O_noteSnap_63 F_noteSnap_63
    refine wp_call (closeNote_ok (t := snT m) hN (h.sf (sf71 y1)) hn y2 (by simp [snT, ntH]) (by omega) hc) (fun q4 => ?_)
    obtain ⟨⟨q5, q5'⟩, q6, q7⟩ := q4
    generalize f_closeNote N S2 (nI n) (nI a) = y at q5 q5' q6 q7 ⊢
    unfold O_noteSnap_70 F_noteSnap_70
    rw [q7]
    unfold aSnapN
    rw [ha] at q6 q7 ⊢
    cases hb : (aNote w n (snT m) (snAt w n)).1 with
    | false => exact wp_pos rfl (wp_fin trivial ⟨fun z => absurd z (show ¬ nI 0 = nI 1 by decide), q6, rfl⟩)
    | true =>
      rw [hb] at q7
      have fw := q5' q7
      rw [n_clamp (by omega)]
      refine wp_neg (show ¬ nI 1 = 0 by decide) (wp_and ((n_in (by omega)).2 (by omega)) (wp_fin trivial ⟨fun _ => ((y1.mono (by decide)).trans fw).trans (rfr.one (by decide)), ?_, rfl⟩))
      have := q6.setN (n := n) (k := 16) (v := (snAt w n : Nat)) (by decide) (by decide) (by decide)
      rw [iI_n] at this
      exact this
  unfold O_noteSnap_42 F_noteSnap_42
  rw [n_clamp (by omega), e79, ← iI_n 280]
  refine wp_and ((n_in (by omega)).2 (by omega)) (wp_ite (fun c => ?_) (fun c => ?_)) <;> rw [iI_eq (by omega) (by omega) (by omega) (by omega)] at c
  · exact go 282 (by unfold snAt; rw [if_pos (by omega)]) (by omega)
  · rw [iI_n]
    exact go 280 (by unfold snAt; rw [if_neg (by omega)]) (by omega)
end
end

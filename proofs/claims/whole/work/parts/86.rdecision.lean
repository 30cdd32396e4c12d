section
/-! THE REFERENCE LOOKS FOR A DECISION -/
/-- blocks that others said, with one id -/
def saC (w : Wd) (n : Nat) (d : List Nat) : Nat → Nat
  | 0 => 0
  | t + 1 => saC w n d t + (match wY w n 6 t with | some m => if idB (m.drop 1) = d then 1 else 0 | none => 0)
theorem saC_le (w : Wd) (n : Nat) (d : List Nat) : ∀ t, saC w n d t ≤ t
  | 0 => Nat.le_refl _
  | t + 1 => by
    have := saC_le w n d t
    unfold saC
    split
    · split <;> omega
    · omega
/-- votes of a sort, counted -/
noncomputable def cW (w : Wd) (n c p r s : Nat) (d : List Nat) (T : Nat) : Nat := @cV w n c p r (srt s d) (fun _ => Classical.propDecidable _) T
def deS (w : Wd) (n T F s : Nat) : Prop := ∃ m, wY w n 6 s = some m ∧ F < saC w n (idB (m.drop 1)) T ∧ aVal w n (some (m.drop 1))
def deH (w : Wd) (n T F r : Nat) : Prop := ∃ m, wY w n 4 (16 * ((wN w n 1).toNat % 2) + r) = some m ∧ 2 * F + 1 ≤ cW w n 1 ((wN w n 1).toNat % 2) r 2 (idB (m.drop 6)) T ∧ aVal w n (some (m.drop 6))
section
variable {N n F H T : Nat} {S : rS} {w : Wd}
theorem quorum_ok (h : rRp F H T S w) : o_quorum N S ∧ f_quorum N S = nI (2 * F + 1) := by
  refine ⟨trivial, ?_⟩
  show nI 2 * S.1 1 + nI 1 = _
  rw [h.co.2.2.1, n_mul, n_add]
/-- what is well formed of what a node holds -/
def wfN (T : Nat) (w : Wd) (n : Nat) : Prop := (∀ s m, s < 13 → wY w n 6 s = some m → blkWf T (m.drop 1)) ∧ (∀ q m, q < 32 → wY w n 4 q = some m → blkWf T (m.drop 6)) ∧ (∀ q m, q < 832 → wY w n 5 q = some m → isB m)
theorem decision_98 (hN : 2000 ≤ N) (h : rRp F H T S w) (hn : n < H) (h1 : 0 ≤ wN w n 1 ∧ wN w n 1 ≤ 41) (hw : wfN T w n) : wp (O_decision_98 N (nI n) S) (F_decision_98 N (nI n) S) (fun z => sfr S z.2 ∧ ((∃ r, r < 16 ∧ deH w n T F r ∧ (∀ i, i < r → ¬ deH w n T F i) ∧ z.1 = nI (32 * n + (16 * ((wN w n 1).toNat % 2) + r))) ∨ ((∀ r, r < 16 → ¬ deH w n T F r) ∧ z.1 = -1))) := by
  have cb := h.1.1.b
  have cF : F ≤ 4 := h.1.1.2.1
  obtain ⟨P, hP⟩ : ∃ P, P = (wN w n 1).toNat % 2 := ⟨_, rfl⟩
  have hP2 : P < 2 := by rw [hP]; exact Nat.mod_lt _ (by decide)
  unfold O_decision_98 F_decision_98
  rw [← hP]
  refine wp_seq (Q := fun z : Nat × Int32 × rS => sfr S z.2.2 ∧ ((∃ r, r < 16 ∧ deH w n T F r ∧ (∀ i, i < r → ¬ deH w n T F i) ∧ z.1 = 0 ∧ z.2.1 = nI (32 * n + (16 * P + r))) ∨ ((∀ r, r < 16 → ¬ deH w n T F r) ∧ z.1 = 1))) ?_ ?_
  · refine wp_loop (K := 16) (fun j x => sfr S x ∧ ∀ i, i < j → ¬ deH w n T F i) (fun r j x => OL_decision_100 N r (nI n) (nI j) x) (fun r j x => L_decision_100 N r (nI n) (nI j) x) (fun r j x hj hI ih => ?_) 0 N S (by omega) (by omega) ⟨sfr.refl, fun i hi => absurd hi (by omega)⟩
    have R := h.sf hI.1
    have e44 : x.2.1 44 n = nI (wN w n 1).toNat := by
      have := R.num hn 1 (by decide) (by decide)
      rw [← Int.toNat_of_nonneg h1.1, iI_n] at this
      exact this
    unfold OL_decision_100 L_decision_100 OB_decision_100 B_decision_100
    by_cases e : j = 16
    · refine wp_pos (by rw [n_le' (by omega) (by omega)]; omega) ?_
      subst e
      exact wp_fin trivial ⟨hI.1, Or.inr ⟨hI.2, rfl⟩⟩
    have nxt : ∀ x1 : rS, sfr S x1 → ¬ deH w n T F j → wp (O_decision_155 N (OL_decision_100 N r) (nI n) (nI j) x1) (F_decision_155 N (L_decision_100 N r) (nI n) (nI j) x1) (fun z : Nat × Int32 × rS => sfr S z.2.2 ∧ ((∃ r, r < 16 ∧ deH w n T F r ∧ (∀ i, i < r → ¬ deH w n T F i) ∧ z.1 = 0 ∧ z.2.1 = nI (32 * n + (16 * P + r))) ∨ ((∀ r, r < 16 → ¬ deH w n T F r) ∧ z.1 = 1))) := by
      intro x1 hx1 g
      unfold O_decision_155 F_decision_155
      rw [n_add]
      refine ih _ ⟨hx1, fun i hi => ?_⟩ (by omega)
      by_cases e2 : i = j
      · rw [e2]; exact g
      · exact hI.2 i (by omega)
    rw [n_clamp (by omega), e44, heldAt_ok (by omega), ← hP, n_add, show 0 + (32 * n + 16 * P + j) = 32 * n + (16 * P + j) by omega]
    have hh := R.hd n (16 * P + j) hn (by omega)
    obtain ⟨t1, t2⟩ := isThere_ok (N := N) (p := 32 * n + (16 * P + j)) (by omega) hh.1
    rw [t2]
    refine wp_neg (by rw [n_le' (by omega) (by omega)]; omega) (wp_and ((n_in (by omega)).2 (by omega)) (wp_and trivial (wp_and t1 ?_)))
    cases hy : wY w n 4 (16 * P + j) with
    | none => exact wp_pos rfl (nxt x hI.1 (fun ⟨m, e1, _⟩ => by rw [← hP, hy] at e1; cases e1))
    | some m =>
      rw [hy] at hh
      have hb : oR x (32 * n + (16 * P + j)) (some (m.drop 6)) := hh.1
      have hdm : ¬ (2 * F + 1 ≤ cW w n 1 P j 2 (idB (m.drop 6)) T ∧ aVal w n (some (m.drop 6))) → ¬ deH w n T F j := fun g ⟨m2, e1, e2, e3⟩ => by
        rw [← hP] at e1 e2
        rw [hy] at e1
        cases e1
        exact g ⟨e2, e3⟩
      obtain ⟨k1, k2⟩ := @count0_ok N n F H T (32 * n + (16 * P + j)) x w 1 j 2 (idB (m.drop 6)) (nI (32 * n + (16 * P + j))) (fun _ => Classical.propDecidable _) (by omega) R hn (by omega) (by omega) (by omega) h1 hw.2.2 (fun _ => ⟨rfl, (by omega), hb.1.2.2, idB_len _, idB_B _⟩)
      rw [← hP] at k2
      have k2 : f_count0 N x (nI 1) (nI n) (nI j) (nI 2) (nI (32 * n + (16 * P + j))) = nI (cW w n 1 P j 2 (idB (m.drop 6)) T) := k2
      have kl : cW w n 1 P j 2 (idB (m.drop 6)) T ≤ T := @cV_le w n 1 P j (srt 2 (idB (m.drop 6))) (fun _ => Classical.propDecidable _) T
      obtain ⟨u1, u2⟩ := quorum_ok (N := N) R
      rw [k2, u2]
      refine wp_neg (show ¬ nI 1 = 0 by decide) (wp_and k1 (wp_and u1 (wp_ite (fun c => ?_) (fun c => ?_)))) <;> rw [n_lt' (by omega) (by omega)] at c
      · exact nxt x hI.1 (hdm (fun z => by omega))
      · refine wp_call (isValid_ok hN R hn (p := 32 * n + (16 * P + j)) (by omega) hb (fun b e => by cases e; exact hw.2.1 _ m (by omega) hy)) (fun q => ?_)
        obtain ⟨v1, v2⟩ := q
        generalize f_isValid N x (nI n) (nI (32 * n + (16 * P + j))) = y at v1 v2 ⊢
        unfold O_decision_150 F_decision_150
        rcases v2 with ⟨v2, v3⟩ | ⟨v2, v3⟩ <;> rw [v3]
        · refine wp_neg (by decide) (wp_fin trivial ⟨hI.1.trans v1, Or.inl ⟨j, (by omega), ⟨m, ?_, ?_, v2⟩, hI.2, rfl, rfl⟩⟩)
          · rw [← hP]; exact hy
          · rw [← hP]; omega
        · exact wp_pos rfl (nxt y.2 (hI.1.trans v1) (hdm (fun z => v2 z.2)))
  · rintro z ⟨z1, z2⟩
    unfold OA_decision_100 A_decision_100
    rcases z2 with ⟨r, s1, s2, s3, s4, s5⟩ | ⟨g1, g2⟩
    · rw [if_pos s4, if_pos s4]
      exact wp_fin trivial ⟨z1, Or.inl ⟨r, s1, s2, s3, s5⟩⟩
    · rw [if_neg (by omega), if_neg (by omega)]
      exact wp_fin trivial ⟨z1, Or.inr ⟨g1, rfl⟩⟩
theorem decision_ok (hN : 2000 ≤ N) (h : rRp F H T S w) (hn : n < H) (h1 : 0 ≤ wN w n 1 ∧ wN w n 1 ≤ 41) (hw : wfN T w n) : wp (o_decision N S (nI n)) (f_decision N S (nI n)) (fun z => sfr S z.2 ∧ ((∃ s, s < T ∧ deS w n T F s ∧ (∀ i, i < s → ¬ deS w n T F i) ∧ z.1 = nI (416 + 13 * n + s)) ∨ ((∀ s, s < T → ¬ deS w n T F s) ∧ ((∃ r, r < 16 ∧ deH w n T F r ∧ (∀ i, i < r → ¬ deH w n T F i) ∧ z.1 = nI (32 * n + (16 * ((wN w n 1).toNat % 2) + r))) ∨ ((∀ r, r < 16 → ¬ deH w n T F r) ∧ z.1 = -1))))) := by
  have cb := h.1.1.b
  have cF : F ≤ 4 := h.1.1.2.1
  show wp (O_decision_0 N (nI n) S) (F_decision_0 N (nI n) S) _
  unfold O_decision_0 F_decision_0
  refine wp_seq (Q := fun z : Nat × Int32 × Int32 × rS => sfr S z.2.2.2 ∧ ((∃ s, s < T ∧ deS w n T F s ∧ (∀ i, i < s → ¬ deS w n T F i) ∧ z.1 = 0 ∧ z.2.2.1 = nI (416 + 13 * n + s)) ∨ ((∀ s, s < T → ¬ deS w n T F s) ∧ z.1 = 1 ∧ z.2.1 = nI n))) ?_ ?_
  · refine wp_loop (K := T) (fun j x => sfr S x ∧ ∀ i, i < j → ¬ deS w n T F i) (fun r j x => OL_decision_2 N r (nI n) (nI j) x) (fun r j x => L_decision_2 N r (nI n) (nI j) x) (fun r j x hj hI ih => ?_) 0 N S (by omega) (by omega) ⟨sfr.refl, fun i hi => absurd hi (by omega)⟩
    have R := h.sf hI.1
    have eT : x.1 0 = nI T := R.co.2.1
    have eF : x.1 1 = nI F := R.co.2.2.1
    unfold OL_decision_2 L_decision_2 OB_decision_2 B_decision_2
    rw [eT]
    by_cases e : j = T
    · refine wp_pos (by rw [n_le' (by omega) (by omega)]; omega) ?_
      subst e
      exact wp_fin trivial ⟨hI.1, Or.inr ⟨hI.2, rfl, rfl⟩⟩
    have nxt : ∀ x1 : rS, sfr S x1 → ¬ deS w n T F j → wp (O_decision_92 N (OL_decision_2 N r) (nI n) (nI j) x1) (F_decision_92 N (L_decision_2 N r) (nI n) (nI j) x1) (fun z : Nat × Int32 × Int32 × rS => sfr S z.2.2.2 ∧ ((∃ s, s < T ∧ deS w n T F s ∧ (∀ i, i < s → ¬ deS w n T F i) ∧ z.1 = 0 ∧ z.2.2.1 = nI (416 + 13 * n + s)) ∨ ((∀ s, s < T → ¬ deS w n T F s) ∧ z.1 = 1 ∧ z.2.1 = nI n))) := by
      intro x1 hx1 g
      unfold O_decision_92 F_decision_92
      rw [n_add]
      refine ih _ ⟨hx1, fun i hi => ?_⟩ (by omega)
      by_cases e2 : i = j
      · rw [e2]; exact g
      · exact hI.2 i (by omega)
    have hdj := R.d n j hn (by omega)
    obtain ⟨k, hk⟩ : ∃ k : Nat, k = (match wY w n 6 j with | some m => saC w n (idB (m.drop 1)) T | none => 0) := ⟨_, rfl⟩
    refine wp_neg (by rw [n_le' (by omega) (by omega)]; omega) (wp_seq (Q := fun z : Nat × Int32 × Int32 × Int32 × Int32 × rS => z = (0, nI n, nI j, nI (416 + 13 * n + j), nI k, x)) ?_ ?_)
    · simp only [n_mul, n_add]
      refine wp_loop (K := T) (fun t (u : Nat) => u = (match wY w n 6 j with | some m => saC w n (idB (m.drop 1)) t | none => 0)) (fun r2 t u => OL_decision_27 N r2 (nI n) (nI j) (nI (416 + 13 * n + j)) (nI u) (nI t) x) (fun r2 t u => L_decision_27 N r2 (nI n) (nI j) (nI (416 + 13 * n + j)) (nI u) (nI t) x) (fun r2 t u ht hJ ih2 => ?_) 0 N 0 (by omega) (by omega) (by cases wY w n 6 j <;> rfl)
      unfold OL_decision_27 L_decision_27 OB_decision_27 B_decision_27
      rw [eT]
      by_cases e3 : t = T
      · refine wp_pos (by rw [n_le' (by omega) (by omega)]; omega) ?_
        refine wp_fin trivial ?_
        rw [hk, hJ, e3]
      · simp only [n_mul, n_add]
        obtain ⟨v1, v2⟩ := sameBlock_ok (N := N) (S := x) (p := 416 + 13 * n + j) (q := 416 + 13 * n + t) (by omega) (by omega) hdj (R.d n t hn (by omega)) (by omega)
        refine wp_neg (by rw [n_le' (by omega) (by omega)]; omega) (wp_and v1 ?_)
        rcases v2 with ⟨v2, v3⟩ | ⟨v2, v3⟩ <;> rw [v3]
        · refine wp_neg (by decide) ?_
          unfold O_decision_64 F_decision_64
          rw [n_add]
          refine ih2 (u + 1) ?_ (by omega)
          obtain ⟨b, c, e1, e2, e4⟩ := v2
          cases hy : wY w n 6 j with
          | none => rw [hy] at e1; cases e1
          | some m =>
            rw [hy] at e1 hJ
            cases hz : wY w n 6 t with
            | none => rw [hz] at e2; cases e2
            | some m2 =>
              rw [hz] at e2
              cases e1
              cases e2
              have hJ : u = saC w n (idB (m.drop 1)) t := hJ
              show u + 1 = saC w n (idB (m.drop 1)) (t + 1)
              rw [saC, hz, hJ]
              show _ = saC w n (idB (m.drop 1)) t + (if idB (m2.drop 1) = idB (m.drop 1) then 1 else 0)
              rw [if_pos e4.symm]
        · refine wp_pos rfl ?_
          unfold O_decision_64 F_decision_64
          rw [n_add]
          refine ih2 u ?_ (by omega)
          cases hy : wY w n 6 j with
          | none => rw [hy] at hJ; exact hJ
          | some m =>
            rw [hy] at hJ v2
            have hJ : u = saC w n (idB (m.drop 1)) t := hJ
            show u = saC w n (idB (m.drop 1)) (t + 1)
            cases hz : wY w n 6 t with
            | none =>
              rw [saC, hz, hJ]
              rfl
            | some m2 =>
              rw [hz] at v2
              rw [saC, hz, hJ]
              show _ = saC w n (idB (m.drop 1)) t + (if idB (m2.drop 1) = idB (m.drop 1) then 1 else 0)
              rw [if_neg (fun z => v2 ⟨_, _, rfl, rfl, z.symm⟩), Nat.add_zero]
    · rintro z rfl
      show wp (O_decision_72 N (OL_decision_2 N r) (nI n) (nI j) (nI (416 + 13 * n + j)) (nI k) x) (F_decision_72 N (L_decision_2 N r) (nI n) (nI j) (nI (416 + 13 * n + j)) (nI k) x) _
      have kl : k ≤ T := by
        rw [hk]
        cases wY w n 6 j with
        | none => exact Nat.zero_le _
        | some m => exact saC_le w n (idB (m.drop 1)) T
      unfold O_decision_72 F_decision_72
      rw [eF]
      refine wp_ite (fun c => ?_) (fun c => ?_) <;> rw [n_le' (by omega) (by omega)] at c
      · refine nxt x hI.1 (fun ⟨m, e1, e2, _⟩ => ?_)
        rw [e1] at hk
        have hk : k = saC w n (idB (m.drop 1)) T := hk
        omega
      · cases hy : wY w n 6 j with
        | none =>
          rw [hy] at hk
          have hk : k = 0 := hk
          omega
        | some m =>
          rw [hy] at hk hdj
          have hk : k = saC w n (idB (m.drop 1)) T := hk
          have hb : oR x (416 + 13 * n + j) (some (m.drop 1)) := hdj
          refine wp_call (isValid_ok hN R hn (p := 416 + 13 * n + j) (by omega) hb (fun b e => by cases e; exact hw.1 _ m (by omega) hy)) (fun q => ?_)
          obtain ⟨v1, v2⟩ := q
          generalize f_isValid N x (nI n) (nI (416 + 13 * n + j)) = y at v1 v2 ⊢
          unfold O_decision_87 F_decision_87
          rcases v2 with ⟨v2, v3⟩ | ⟨v2, v3⟩ <;> rw [v3]
          · exact wp_neg (by decide) (wp_fin trivial ⟨hI.1.trans v1, Or.inl ⟨j, (by omega), ⟨m, hy, (by omega), v2⟩, hI.2, rfl, rfl⟩⟩)
          · exact wp_pos rfl (nxt y.2 (hI.1.trans v1) (fun ⟨m2, e1, _, e3⟩ => by rw [hy] at e1; cases e1; exact v2 e3))
  · rintro z ⟨z1, z2⟩
    unfold OA_decision_2 A_decision_2
    rcases z2 with ⟨s, s1, s2, s3, s4, s5⟩ | ⟨g1, g2, g3⟩
    · rw [if_pos s4, if_pos s4]
      exact wp_fin trivial ⟨z1, Or.inl ⟨s, s1, s2, s3, s5⟩⟩
    · rw [if_neg (by omega), if_neg (by omega), g3]
      generalize z.2.2.2 = S1 at z1 ⊢
      exact wp_mono (decision_98 hN (h.sf z1) hn h1 hw) (fun q => ⟨z1.trans q.1, Or.inr ⟨g1, q.2⟩⟩)
end
end

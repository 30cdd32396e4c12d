section
/-! THE REFERENCE READS A MESSAGE: all of it -/
section
variable {N T : Nat} {S : rS} {m : List Nat}
theorem readSnapshot_ok (h : mB S m) (hN : 100 ≤ N) : wp (o_readSnapshot N S) (f_readSnapshot N S) (fun z => rfr [38] S z.2 ∧ ((snOK m ∧ z.1 = nI 1 ∧ z.2.1 38 = nI (tw m 1)) ∨ (¬ snOK m ∧ z.1 = nI 0))) := by
  have h4 := h.2.2.2
  have hlt := htN_lt (a := 1) h4
  obtain ⟨a1, a2⟩ := heightAt_ok (N := N) (a := 1) h (by omega)
  have a2 : f_heightAt N S (nI 1) = nI (htN m 1) := a2
  show wp (O_readSnapshot_0 N S) (F_readSnapshot_0 N S) _
  unfold O_readSnapshot_0 F_readSnapshot_0
  rw [a2]
  refine wp_and a1 ?_
  have f1 : rfr [38] S (rsI S 38 (nI (htN m 1))) := rfr.oneI (by decide)
  have g38 : (rsI S 38 (nI (htN m 1))).1 38 = nI (htN m 1) := I_same _ _ _
  generalize rsI S 38 (nI (htN m 1)) = S1 at f1 g38 ⊢
  have hm := h.fr f1 (by decide) (by decide)
  have h1 := hm.1
  have h2 := hm.2.1
  rw [h1, g38]
  refine wp_ite (fun c => ?_) (fun c => ?_) <;> rw [n_eq' (by omega) (by omega)] at c
  rotate_left
  · exact wp_fin trivial ⟨f1, Or.inr ⟨fun q => c q.1, rfl⟩⟩
  refine wp_ite (fun c1 => ?_) (fun c1 => ?_) <;> rw [n_le' (by omega) (by omega)] at c1
  rotate_left
  · refine wp_fin trivial ⟨f1, Or.inr ⟨fun q => ?_, rfl⟩⟩
    have := q.2
    unfold htN at c1
    rw [if_pos (by omega)] at c1
    omega
  obtain ⟨hh1, hh2⟩ := htN_ok (m := m) (a := 1) (by omega)
  unfold hOK at hh2
  refine wp_seq (Q := fun z => ∃ x : Nat, z = (0, nI x, S1) ∧ x ≤ 1 ∧ (x = 1 ↔ ∀ a, a < 16 → tw m (35 + 5 * a) ≤ 16000 ∧ bg m (39 + 5 * a) ≤ 1)) ?_ ?_
  · refine wp_loop (K := 16) (fun j (x : Nat) => x ≤ 1 ∧ (x = 1 ↔ ∀ a, a < j → tw m (35 + 5 * a) ≤ 16000 ∧ bg m (39 + 5 * a) ≤ 1)) (fun n j x => OL_readSnapshot_32 N n (nI x) (nI j) S1) (fun n j x => L_readSnapshot_32 N n (nI x) (nI j) S1) (fun n j x hj hI ih => ?_) 0 N 1 (by omega) (by omega) ⟨(by omega), fun _ a ha => absurd ha (by omega), fun _ => rfl⟩
    by_cases e : j = 16
    · refine wp_pos (by rw [n_le' (by omega) (by omega)]; omega) ?_
      subst e
      exact (wp_fin trivial ⟨x, rfl, hI⟩)
    · refine wp_neg (by rw [n_le' (by omega) (by omega)]; omega) ?_
      have t1 := h4 (35 + 5 * j)
      have t2 := h4 (36 + 5 * j)
      have t3 := h4 (39 + 5 * j)
      have et : tw m (35 + 5 * j) = 256 * bg m (35 + 5 * j) + bg m (36 + 5 * j) := by
        unfold tw
        rw [show 35 + 5 * j + 1 = 36 + 5 * j by omega]
      have fin : ∀ y : Nat, y ≤ 1 → (y = 1 ↔ x = 1 ∧ tw m (35 + 5 * j) ≤ 16000 ∧ bg m (39 + 5 * j) ≤ 1) → wp (O_readSnapshot_94 N (OL_readSnapshot_32 N n) (nI j) (nI y) S1) (F_readSnapshot_94 N (L_readSnapshot_32 N n) (nI j) (nI y) S1) (fun z => ∃ x : Nat, z = (0, nI x, S1) ∧ x ≤ 1 ∧ (x = 1 ↔ ∀ a, a < 16 → tw m (35 + 5 * a) ≤ 16000 ∧ bg m (39 + 5 * a) ≤ 1)) := by
        intro y hy hy2
        unfold O_readSnapshot_94 F_readSnapshot_94
        rw [n_add]
        refine ih y ⟨hy, hy2.trans ⟨fun q a ha => ?_, fun q => ⟨hI.2.2 fun a ha => q a (by omega), q j (by omega)⟩⟩⟩ (by omega)
        by_cases e2 : a = j
        · rw [e2]; exact q.2
        · exact hI.2.1 q.1 a (by omega)
      refine wp_ite (fun c2 => ?_) (fun c2 => ?_) <;> rw [n_eq0 (by have := hI.1; omega)] at c2
      · exact fin 0 (by omega) ⟨fun q => absurd q (by omega), fun q => absurd q.1 (by omega)⟩
      simp only [n_mul, n_add]
      rw [hm.at_ (i := 35 + 5 * j) (by omega), hm.at_ (i := 36 + 5 * j) (by omega), hm.at_ (i := 39 + 5 * j) (by omega), n_two t1 t2, ← et]
      refine wp_and ((n_in (by omega)).2 (by omega)) (wp_and ((n_in (by omega)).2 (by omega)) (wp_ite (fun c3 => ?_) (fun c3 => ?_))) <;> rw [n_lt' (by omega) (by omega)] at c3
      · exact fin 0 (by omega) ⟨fun q => absurd q (by omega), fun q => absurd q.2.1 (by omega)⟩
      refine wp_and ((n_in (by omega)).2 (by omega)) (wp_ite (fun c4 => ?_) (fun c4 => ?_)) <;> rw [n_lt' (by omega) (by omega)] at c4
      · exact fin 0 (by omega) ⟨fun q => absurd q (by omega), fun q => absurd q.2.2 (by omega)⟩
      · exact fin 1 (by omega) ⟨fun q => ⟨by have := hI.1; omega, (by omega), (by omega)⟩, fun q => rfl⟩
  · rintro z ⟨x, rfl, x1, x2⟩
    show wp (O_readSnapshot_101 N (nI x) S1) (F_readSnapshot_101 N (nI x) S1) _
    rcases (show x = 0 ∨ x = 1 by omega) with rfl | rfl
    · exact wp_fin rfl ⟨f1, Or.inr ⟨fun q => absurd (x2.2 q.2.2.2) (by omega), rfl⟩⟩
    · exact wp_fin rfl ⟨f1, Or.inl ⟨⟨(by omega), (by omega), (by omega), x2.1 rfl⟩, rfl, by rw [← hh1]; exact g38⟩⟩
def rdL : List Nat := [6, 7, 8, 9, 12, 13, 14, 15, 16, 17, 18, 36, 37, 38, 39, 40, 41, 42]
/-- what was found in a message that is well formed -/
def rdO (m : List Nat) (S : rS) : Prop :=
  (bg m 0 = 0 → S.1 37 = -1) ∧
  (bg m 0 = 1 → S.1 37 = nI (bg m 1) ∧ S.1 38 = nI (tw m 2) ∧ S.1 39 = nI (bg m 4) ∧ S.1 40 = iI (prV m) ∧ bR S 1352 (m.drop 6)) ∧
  (bg m 0 = 2 ∨ bg m 0 = 3 → S.1 37 = nI (bg m 1) ∧ S.1 38 = nI (tw m 2) ∧ S.1 39 = nI (bg m 4) ∧ S.1 41 = nI (bg m 5) ∧ inL S 42 (voD m)) ∧
  (bg m 0 = 4 → S.1 37 = -1 ∧ S.1 38 = nI (tw m 1) ∧ bR S 1352 (m.drop 1)) ∧
  (bg m 0 = 5 → S.1 37 = -1 ∧ S.1 38 = nI (tw m 1)) ∧
  (bg m 0 = 6 → S.1 37 = nI (bg m 1)) ∧
  (bg m 0 = 7 → S.1 37 = -1 ∧ S.1 38 = nI (tw m 1))
theorem wf0 (h : bg m 0 = 0) : wf T m ↔ m.length = 8 ∧ payOK m 1 := by simp [wf, h]
theorem wf1 (h : bg m 0 = 1) : wf T m ↔ prOK T m := by simp [wf, h]
theorem wf23 (h : bg m 0 = 2 ∨ bg m 0 = 3) : wf T m ↔ voOK T m := by rcases h with h | h <;> simp [wf, h]
theorem wf4 (h : bg m 0 = 4) : wf T m ↔ blkWf T (m.drop 1) := by simp [wf, h]
theorem wf5 (h : bg m 0 = 5) : wf T m ↔ m.length = 3 ∧ hOK (tw m 1) := by simp [wf, h]
theorem wf6 (h : bg m 0 = 6) : wf T m ↔ evOK T m 1 ∧ m.length = 1 + evSz m 1 := by simp [wf, h]
theorem wf7 (h : bg m 0 = 7) : wf T m ↔ snOK m := by simp [wf, h]
theorem wf8 (h : 8 ≤ bg m 0) : ¬ wf T m := by
  rintro (⟨q, _⟩ | ⟨q, _⟩ | ⟨q, _⟩ | ⟨q, _⟩ | ⟨q, _⟩ | ⟨q, _⟩ | ⟨q, _⟩) <;> omega
def rdQ (T : Nat) (m : List Nat) (S : rS) (z : Int32 × rS) : Prop := rfr rdL S z.2 ∧ pO1 1352 S z.2 ∧ z.2.1 36 = nI (bg m 0) ∧ ((wf T m ∧ z.1 = nI 1 ∧ rdO m z.2) ∨ (¬ wf T m ∧ z.1 = nI 0))
theorem read_ok (h : mB S m) (h0 : 1 ≤ m.length) (hT : S.1 0 = nI T) (hT2 : T ≤ 13) (hN : 2000 ≤ N) (hK : rK S) : wp (o_read N S) (f_read N S) (rdQ T m S) := by
  have h4 := h.2.2.2
  have tt := h4 0
  show wp (O_read_0 N S) (F_read_0 N S) _
  unfold O_read_0 F_read_0
  rw [h.at_ (i := 0) (by omega)]
  refine wp_and ((n_in (by omega)).2 (by omega)) ?_
  have f1 : rfr rdL S (rsI (rsI S 36 (nI (bg m 0))) 37 (-1)) := (rfr.oneI (by decide)).trans (rfr.oneI (by decide))
  have p1 : pO1 1352 S (rsI (rsI S 36 (nI (bg m 0))) 37 (-1)) := pO1.fr (L := [36, 37]) ((rfr.oneI (by decide)).trans (rfr.oneI (by decide))) (by decide) (by decide) (by decide)
  have g36 : (rsI (rsI S 36 (nI (bg m 0))) 37 (-1)).1 36 = nI (bg m 0) := by rw [I_other _ _ (by decide), I_same]
  have g37 : (rsI (rsI S 36 (nI (bg m 0))) 37 (-1)).1 37 = -1 := I_same _ _ _
  generalize rsI (rsI S 36 (nI (bg m 0))) 37 (-1) = S1 at f1 p1 g36 g37 ⊢
  have hm := h.fr f1 (by decide) (by decide)
  have h1 := hm.1
  have h2 := hm.2.1
  have hT1 : S1.1 0 = nI T := by rw [f1.i 0 (by decide)]; exact hT
  have hK1 := hK.fr f1 (by decide) (by decide)
  have no : ∀ {S2 : rS}, rfr rdL S1 S2 → pO1 1352 S1 S2 → S2.1 36 = S1.1 36 → ¬ wf T m → rdQ T m S (nI 0, S2) := fun a b c q => ⟨f1.trans a, p1.trans b, c.trans g36, Or.inr ⟨q, rfl⟩⟩
  have yes : ∀ {S2 : rS}, rfr rdL S1 S2 → pO1 1352 S1 S2 → S2.1 36 = S1.1 36 → wf T m → rdO m S2 → rdQ T m S (nI 1, S2) := fun a b c q r => ⟨f1.trans a, p1.trans b, c.trans g36, Or.inl ⟨q, rfl, r⟩⟩
  have ru : ∀ {L : List Nat} {S2 : rS}, rfr L S1 S2 → (12 ∉ L ∧ 13 ∉ L ∧ 14 ∉ L) → pO1 1352 S1 S2 := fun a b => pO1.fr a b.1 b.2.1 b.2.2
  unfold O_read_15 F_read_15
  rw [g36]
  refine wp_ite (fun c0 => ?_) (fun c0 => ?_) <;> rw [n_eq' (by omega) (by omega)] at c0
  · have w := wf0 (T := T) c0
    rw [h1]
    refine wp_ite (fun d => ?_) (fun d => ?_) <;> rw [n_eq' (by omega) (by omega)] at d
    · obtain ⟨u1, u2⟩ := isPaymentAt_ok (N := N) (a := 1) hm (by omega)
      refine wp_and u1 ?_
      rcases u2 with ⟨u2, u3⟩ | ⟨u2, u3⟩ <;> rw [u3]
      · refine wp_neg (by decide) (wp_fin rfl (yes rfr.refl pO1.refl rfl (w.2 ⟨d, u2⟩) ?_))
        exact ⟨fun _ => g37, fun z => absurd z (by omega), fun z => absurd z (by omega), fun z => absurd z (by omega), fun z => absurd z (by omega), fun z => absurd z (by omega), fun z => absurd z (by omega)⟩
      · exact wp_pos rfl (wp_fin rfl (no rfr.refl pO1.refl rfl fun q => u2 (w.1 q).2))
    · exact wp_fin rfl (no rfr.refl pO1.refl rfl fun q => d (w.1 q).1)
  refine wp_ite (fun c1 => ?_) (fun c1 => ?_) <;> rw [n_eq' (by omega) (by omega)] at c1
  · have w := wf1 (T := T) c1
    refine wp_call (readProposal_ok hm hT1 hT2 hN hK1) (fun q => ?_)
    obtain ⟨q1, q2, q3⟩ := q
    generalize f_readProposal N S1 = y at q1 q2 q3 ⊢
    rcases q3 with ⟨r1, r2, r3⟩ | ⟨r1, r2⟩
    · unfold O_read_91 F_read_91
      rw [r2]
      exact wp_fin rfl (yes (q1.mono (by decide)) q2 (q1.i 36 (by decide)) (w.2 r1) ⟨fun z => absurd z (by omega), fun _ => r3, fun z => absurd z (by omega), fun z => absurd z (by omega), fun z => absurd z (by omega), fun z => absurd z (by omega), fun z => absurd z (by omega)⟩)
    · unfold O_read_91 F_read_91
      rw [r2]
      exact wp_fin rfl (no (q1.mono (by decide)) q2 (q1.i 36 (by decide)) fun q => r1 (w.1 q))
  have vt : (bg m 0 = 2 ∨ bg m 0 = 3) → wp ((o_readVote N S1) ∧ O_read_96 N ((f_readVote N S1).1) (f_readVote N S1).2) (F_read_96 N ((f_readVote N S1).1) (f_readVote N S1).2) (rdQ T m S) := by
    intro c
    have w := wf23 (T := T) c
    refine wp_call (readVote_ok hm hT1 hT2 (by omega)) (fun q => ?_)
    obtain ⟨q1, q3⟩ := q
    generalize f_readVote N S1 = y at q1 q3 ⊢
    rcases q3 with ⟨r1, r2, r3⟩ | ⟨r1, r2⟩
    · unfold O_read_96 F_read_96
      rw [r2]
      exact wp_fin rfl (yes (q1.mono (by decide)) (ru q1 (by decide)) (q1.i 36 (by decide)) (w.2 r1) ⟨fun z => absurd z (by omega), fun z => absurd z (by omega), fun _ => r3, fun z => absurd z (by omega), fun z => absurd z (by omega), fun z => absurd z (by omega), fun z => absurd z (by omega)⟩)
    · unfold O_read_96 F_read_96
      rw [r2]
      exact wp_fin rfl (no (q1.mono (by decide)) (ru q1 (by decide)) (q1.i 36 (by decide)) fun q => r1 (w.1 q))
  refine wp_ite (fun c2 => ?_) (fun c2 => ?_) <;> rw [n_eq' (by omega) (by omega)] at c2
  · exact vt (Or.inl c2)
  refine wp_ite (fun c3 => ?_) (fun c3 => ?_) <;> rw [n_eq' (by omega) (by omega)] at c3
  · exact vt (Or.inr c3)
  refine wp_ite (fun c4 => ?_) (fun c4 => ?_) <;> rw [n_eq' (by omega) (by omega)] at c4
  · have w := wf4 (T := T) c4
    refine wp_call (readBlock_ok (a := 1) hm hT1 hT2 hN (by omega) hK1) (fun q => ?_)
    obtain ⟨q1, q2, q3⟩ := q
    generalize f_readBlock N S1 (nI 1) = y at q1 q2 q3 ⊢
    unfold O_read_102 F_read_102
    rcases q3 with ⟨r1, r2, r3⟩ | ⟨r1, r2⟩
    · rw [r2]
      obtain ⟨u1, u2⟩ := heightOf_ok (N := N) (p := 1352) (by decide) r3.2.1 (by have := r1.len; omega) (isB_drop h4 1)
      have etw : tw (m.drop 1) 0 = tw m 1 := by
        unfold tw
        rw [bg_drop, bg_drop]
      rw [u2, etw]
      have f5 : rfr rdL S1 (rsI y.2 38 (nI (tw m 1))) := (q1.mono (by decide)).trans (rfr.oneI (by decide))
      refine wp_neg (by decide) (wp_and u1 (wp_fin trivial (yes f5 (q2.trans (pO1.fr (L := [38]) (rfr.oneI (by decide)) (by decide) (by decide) (by decide))) ?_ (w.2 r1) ⟨fun z => absurd z (by omega), fun z => absurd z (by omega), fun z => absurd z (by omega), fun _ => ⟨?_, I_same _ _ _, r3⟩, fun z => absurd z (by omega), fun z => absurd z (by omega), fun z => absurd z (by omega)⟩)))
      · rw [I_other _ _ (by decide)]; exact q1.i 36 (by decide)
      · rw [I_other _ _ (by decide), q1.i 37 (by decide)]; exact g37
    · rw [r2]
      exact wp_pos rfl (wp_fin trivial (no (q1.mono (by decide)) q2 (q1.i 36 (by decide)) fun q => r1 (w.1 q)))
  refine wp_ite (fun c5 => ?_) (fun c5 => ?_) <;> rw [n_eq' (by omega) (by omega)] at c5
  · have w := wf5 (T := T) c5
    obtain ⟨a1, a2⟩ := heightAt_ok (N := N) (a := 1) hm (by omega)
    have a2 : f_heightAt N S1 (nI 1) = nI (htN m 1) := a2
    have hlt := htN_lt (a := 1) h4
    rw [a2]
    refine wp_and a1 ?_
    have f5 : rfr rdL S1 (rsI S1 38 (nI (htN m 1))) := rfr.oneI (by decide)
    have p5 : pO1 1352 S1 (rsI S1 38 (nI (htN m 1))) := pO1.fr (L := [38]) (rfr.oneI (by decide)) (by decide) (by decide) (by decide)
    have k36 : (rsI S1 38 (nI (htN m 1))).1 36 = S1.1 36 := I_other _ _ (by decide)
    have k37 : (rsI S1 38 (nI (htN m 1))).1 37 = -1 := by rw [I_other _ _ (by decide)]; exact g37
    have k38 : (rsI S1 38 (nI (htN m 1))).1 38 = nI (htN m 1) := I_same _ _ _
    have k33 : (rsI S1 38 (nI (htN m 1))).1 33 = nI m.length := by rw [I_other _ _ (by decide)]; exact h1
    generalize rsI S1 38 (nI (htN m 1)) = S2 at f5 p5 k36 k37 k38 k33 ⊢
    unfold O_read_129 F_read_129
    rw [k33, k38]
    refine wp_ite (fun d => ?_) (fun d => ?_) <;> rw [n_eq' (by omega) (by omega)] at d
    · refine wp_ite (fun d2 => ?_) (fun d2 => ?_) <;> rw [n_le0 (by omega)] at d2
      · exact wp_fin rfl (no f5 p5 k36 fun q => htN_no d2 (by omega) (w.1 q).2)
      · obtain ⟨hh1, hh2⟩ := htN_ok d2
        exact wp_fin rfl (yes f5 p5 k36 (w.2 ⟨d, hh2⟩) ⟨fun z => absurd z (by omega), fun z => absurd z (by omega), fun z => absurd z (by omega), fun z => absurd z (by omega), fun _ => ⟨k37, by rw [← hh1]; exact k38⟩, fun z => absurd z (by omega), fun z => absurd z (by omega)⟩)
    · exact wp_fin rfl (no f5 p5 k36 fun q => d (w.1 q).1)
  refine wp_ite (fun c6 => ?_) (fun c6 => ?_) <;> rw [n_eq' (by omega) (by omega)] at c6
  · have w := wf6 (T := T) c6
    have key : ∀ v : Int32, (2 ≤ m.length → v = nI (bg m 1)) → wp (O_read_169 N v S1) (F_read_169 N v S1) (rdQ T m S) := by
      intro v hv
      have f5 : rfr rdL S1 (rsI S1 37 v) := rfr.oneI (by decide)
      have p5 : pO1 1352 S1 (rsI S1 37 v) := pO1.fr (L := [37]) (rfr.oneI (by decide)) (by decide) (by decide) (by decide)
      have k36 : (rsI S1 37 v).1 36 = S1.1 36 := I_other _ _ (by decide)
      have k37 : (rsI S1 37 v).1 37 = v := I_same _ _ _
      unfold O_read_169 F_read_169
      generalize rsI S1 37 v = S2 at f5 p5 k36 k37 ⊢
      have hm5 := hm.fr f5 (by decide) (by decide)
      have hT5 : S2.1 0 = nI T := by rw [f5.i 0 (by decide)]; exact hT1
      obtain ⟨u1, u2⟩ := evidenceAt_ok (N := N) (a := 1) hm5 hT5 hT2 (by omega) (by omega)
      have sz := evSz_le m 1
      rw [hm5.1, n_sub (by omega)]
      refine wp_and u1 ?_
      rcases u2 with ⟨v1, v2⟩ | ⟨v1, v2⟩ <;> rw [v2]
      · refine wp_neg (by rw [n_le0 (by omega)]; omega) (wp_and u1 (wp_ite (fun d => ?_) (fun d => ?_))) <;> rw [n_eq' (by omega) (by omega)] at d
        · exact wp_fin rfl (yes f5 p5 k36 (w.2 ⟨v1, (by omega)⟩) ⟨fun z => absurd z (by omega), fun z => absurd z (by omega), fun z => absurd z (by omega), fun z => absurd z (by omega), fun z => absurd z (by omega), fun _ => by rw [k37]; exact hv (by have := v1.1; omega), fun z => absurd z (by omega)⟩)
        · exact wp_fin rfl (no f5 p5 k36 fun q => d (by have := (w.1 q).2; omega))
      · exact wp_pos (by decide) (wp_fin rfl (no f5 p5 k36 fun q => v1 (w.1 q).1))
    rw [h1]
    refine wp_ite (fun d => ?_) (fun d => ?_) <;> rw [n_le' (by omega) (by omega)] at d
    · exact key _ (fun q => absurd q (by omega))
    · rw [hm.at_ (i := 1) (by omega)]
      exact wp_and ((n_in (by omega)).2 (by omega)) (key _ fun _ => rfl)
  refine wp_ite (fun c7 => ?_) (fun c7 => ?_) <;> rw [n_eq' (by omega) (by omega)] at c7
  · have w := wf7 (T := T) c7
    refine wp_call (readSnapshot_ok hm (by omega)) (fun q => ?_)
    obtain ⟨q1, q3⟩ := q
    generalize f_readSnapshot N S1 = y at q1 q3 ⊢
    rcases q3 with ⟨r1, r2, r3⟩ | ⟨r1, r2⟩
    · unfold O_read_204 F_read_204
      rw [r2]
      exact wp_fin rfl (yes (q1.mono (by decide)) (ru q1 (by decide)) (q1.i 36 (by decide)) (w.2 r1) ⟨fun z => absurd z (by omega), fun z => absurd z (by omega), fun z => absurd z (by omega), fun z => absurd z (by omega), fun z => absurd z (by omega), fun z => absurd z (by omega), fun _ => ⟨by rw [q1.i 37 (by decide)]; exact g37, r3⟩⟩)
    · unfold O_read_204 F_read_204
      rw [r2]
      exact wp_fin rfl (no (q1.mono (by decide)) (ru q1 (by decide)) (q1.i 36 (by decide)) fun q => r1 (w.1 q))
  exact wp_fin trivial (no rfr.refl pO1.refl rfl (wf8 (by omega)))
end
end

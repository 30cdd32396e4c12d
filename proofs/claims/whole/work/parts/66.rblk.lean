section
/-! THE REFERENCE'S PLACES: copies, ids alike, who is there -/
theorem lgc {a b : Int64} : lg_cmp a b = 0 ↔ a = b := lg_cmp_eq a b
def thN (o : Option (List Nat)) : Nat := match o with | none => 0 | some _ => 1
theorem idB_len (b : List Nat) : (idB b).length = 32 := shaB_len _
theorem idB_B (b : List Nat) : isB (idB b) := shaB_B _
section
variable {N p q : Nat} {S : rS} {o o2 : Option (List Nat)} {b c : List Nat}
theorem isThere_ok (hp : p < 1354) (h : oR S p o) : o_isThere N S (nI p) ∧ f_isThere N S (nI p) = nI (thN o) := by
  show wp (O_isThere_0 N (nI p) S) (F_isThere_0 N (nI p) S) (fun v => v = nI (thN o))
  unfold O_isThere_0 F_isThere_0
  rw [n_clamp (by omega)]
  cases o with
  | none =>
    have h : S.2.1 14 p = nI 0 := h
    rw [h]
    exact wp_and ((n_in (by omega)).2 (by omega)) (wp_pos (by decide) (wp_fin rfl rfl))
  | some b =>
    have l := h.2
    unfold bOK at l
    rw [h.1.1]
    exact wp_and ((n_in (by omega)).2 (by omega)) (wp_neg (by rw [n_le0 (by omega)]; omega) (wp_fin rfl rfl))
theorem clear_ok (hp : p < 1354) : wp (o_clear N S (nI p)) (f_clear N S (nI p)) (fun S' => S' = rsA S 14 p (nI 0)) := by
  refine wp_fin ⟨((n_in (by omega)).2 (by omega)), trivial⟩ ?_
  show rsA S 14 (nI p).toNatClampNeg (nI 0) = _
  rw [n_clamp (by omega)]
theorem pO1_clear : pO1 p S (rsA S 14 p (nI 0)) ∧ rfr [14] S (rsA S 14 p (nI 0)) ∧ oR (rsA S 14 p (nI 0)) p none := by
  refine ⟨⟨fun q hq => ?_, fun _ _ _ _ => rfl, fun _ _ _ _ => rfl⟩, rfr.one (by decide), ?_⟩
  · rw [A_same, upd_other _ _ hq]
  · show (rsA S 14 p (nI 0)).2.1 14 p = nI 0
    rw [A_same, upd_same]
theorem copyBlock_ok (hp : p < 1354) (hq : q < 1354) (hpq : p ≠ q) (h : bR S p b) (hl : b.length ≤ 691) (hN : 100 ≤ N) : wp (o_copyBlock N S (nI p) (nI q)) (f_copyBlock N S (nI p) (nI q)) (fun S' => rfr [12, 13, 14] S S' ∧ pO1 q S S' ∧ bR S' q b) := by
  show wp (O_copyBlock_0 N (nI p) (nI q) S) (F_copyBlock_0 N (nI p) (nI q) S) _
  unfold O_copyBlock_0 F_copyBlock_0
  refine wp_seq (Q := fun z : Nat × Int32 × Int32 × rS => z = (0, nI p, nI q, z.2.2.2) ∧ rfr [12] S z.2.2.2 ∧ ∀ r, lby (z.2.2.2.2.2 12) r = if 696 * q ≤ r ∧ r < 696 * q + 696 then lby (S.2.2 12) (696 * p + (r - 696 * q)) else lby (S.2.2 12) r) ?_ ?_
  · refine wp_loop (K := 87) (fun j x => rfr [12] S x ∧ ∀ r, lby (x.2.2 12) r = if 696 * q ≤ r ∧ r < 696 * q + 8 * j then lby (S.2.2 12) (696 * p + (r - 696 * q)) else lby (S.2.2 12) r) (fun n j x => OL_copyBlock_2 N n (nI p) (nI q) (nI j) x) (fun n j x => L_copyBlock_2 N n (nI p) (nI q) (nI j) x) (fun n j x hj hI ih => ?_) 0 N S (by omega) (by omega) ⟨rfr.refl, fun r => by rw [if_neg (by omega)]⟩
    unfold OL_copyBlock_2 L_copyBlock_2 OB_copyBlock_2 B_copyBlock_2
    by_cases e : j = 87
    · refine wp_pos (by rw [n_le' (by omega) (by omega)]; omega) ?_
      subst e
      exact wp_fin trivial ⟨rfl, hI⟩
    · simp only [n_mul, n_add]
      rw [n_clamp (by omega), n_clamp (by omega)]
      refine wp_neg (by rw [n_le' (by omega) (by omega)]; omega) (wp_and ((n_in (by omega)).2 (by omega)) (wp_and ((n_in (by omega)).2 (by omega)) (ih _ ⟨hI.1.trans (rfr.oneL (by decide)), fun r => ?_⟩ (by omega))))
      rw [L_same]
      by_cases c : 696 * q + 8 * j ≤ r ∧ r < 696 * q + 8 * j + 8
      · have c2 : 696 * q ≤ r ∧ r < 696 * q + 8 * (j + 1) := by omega
        have er := hI.2 (696 * p + (r - 696 * q))
        have c3 : ¬ (696 * q ≤ 696 * p + (r - 696 * q) ∧ 696 * p + (r - 696 * q) < 696 * q + 8 * j) := by omega
        rw [if_neg c3] at er
        rw [if_pos c2, lby_eq (a := 87 * q + j) (b := r % 8) (by omega) rfl, updL_same, ← er]
        exact (lby_eq (by omega) (by omega)).symm
      · have e2 : lby (vp_updL (x.2.2 12) (87 * q + j) (x.2.2 12 (87 * p + j))) r = lby (x.2.2 12) r := by
          unfold lby
          rw [updL_other _ _ (by omega)]
        rw [e2, hI.2 r]
        by_cases c2 : 696 * q ≤ r ∧ r < 696 * q + 8 * j
        · have c3 : 696 * q ≤ r ∧ r < 696 * q + 8 * (j + 1) := by omega
          rw [if_pos c2, if_pos c3]
        · have c3 : ¬ (696 * q ≤ r ∧ r < 696 * q + 8 * (j + 1)) := by omega
          rw [if_neg c2, if_neg c3]
  rintro z ⟨z0, z1, z2⟩
  rw [z0]
  generalize z.2.2.2 = S1 at z1 z2 ⊢
  show wp (O_copyBlock_36 N (nI p) (nI q) S1) (F_copyBlock_36 N (nI p) (nI q) S1) _
  unfold O_copyBlock_36 F_copyBlock_36
  refine wp_seq (Q := fun z : Nat × Int32 × Int32 × rS => z = (0, nI p, nI q, z.2.2.2) ∧ rfr [13] S1 z.2.2.2 ∧ ∀ r, lby (z.2.2.2.2.2 13) r = if 32 * q ≤ r ∧ r < 32 * q + 32 then lby (S.2.2 13) (32 * p + (r - 32 * q)) else lby (S.2.2 13) r) ?_ ?_
  · refine wp_loop (K := 4) (fun j x => rfr [13] S1 x ∧ ∀ r, lby (x.2.2 13) r = if 32 * q ≤ r ∧ r < 32 * q + 8 * j then lby (S.2.2 13) (32 * p + (r - 32 * q)) else lby (S.2.2 13) r) (fun n j x => OL_copyBlock_38 N n (nI p) (nI q) (nI j) x) (fun n j x => L_copyBlock_38 N n (nI p) (nI q) (nI j) x) (fun n j x hj hI ih => ?_) 0 N S1 (by omega) (by omega) ⟨rfr.refl, fun r => by rw [if_neg (by omega), z1.l 13 (by decide)]⟩
    unfold OL_copyBlock_38 L_copyBlock_38 OB_copyBlock_38 B_copyBlock_38
    by_cases e : j = 4
    · refine wp_pos (by rw [n_le' (by omega) (by omega)]; omega) ?_
      subst e
      exact wp_fin trivial ⟨rfl, hI⟩
    · simp only [n_mul, n_add]
      rw [n_clamp (by omega), n_clamp (by omega)]
      refine wp_neg (by rw [n_le' (by omega) (by omega)]; omega) (wp_and ((n_in (by omega)).2 (by omega)) (wp_and ((n_in (by omega)).2 (by omega)) (ih _ ⟨hI.1.trans (rfr.oneL (by decide)), fun r => ?_⟩ (by omega))))
      rw [L_same]
      by_cases c : 32 * q + 8 * j ≤ r ∧ r < 32 * q + 8 * j + 8
      · have c2 : 32 * q ≤ r ∧ r < 32 * q + 8 * (j + 1) := by omega
        have er := hI.2 (32 * p + (r - 32 * q))
        have c3 : ¬ (32 * q ≤ 32 * p + (r - 32 * q) ∧ 32 * p + (r - 32 * q) < 32 * q + 8 * j) := by omega
        rw [if_neg c3] at er
        rw [if_pos c2, lby_eq (a := 4 * q + j) (b := r % 8) (by omega) rfl, updL_same, ← er]
        exact (lby_eq (by omega) (by omega)).symm
      · have e2 : lby (vp_updL (x.2.2 13) (4 * q + j) (x.2.2 13 (4 * p + j))) r = lby (x.2.2 13) r := by
          unfold lby
          rw [updL_other _ _ (by omega)]
        rw [e2, hI.2 r]
        by_cases c2 : 32 * q ≤ r ∧ r < 32 * q + 8 * j
        · have c3 : 32 * q ≤ r ∧ r < 32 * q + 8 * (j + 1) := by omega
          rw [if_pos c2, if_pos c3]
        · have c3 : ¬ (32 * q ≤ r ∧ r < 32 * q + 8 * (j + 1)) := by omega
          rw [if_neg c2, if_neg c3]
  rintro z ⟨y0, y1, y2⟩
  rw [y0]
  generalize z.2.2.2 = S2 at y1 y2 ⊢
  show wp (O_copyBlock_69 N (nI p) (nI q) S2) (F_copyBlock_69 N (nI p) (nI q) S2) _
  have f2 : rfr [12, 13, 14] S S2 := (z1.mono (by decide)).trans (y1.mono (by decide))
  have e14 : S2.2.1 14 = S.2.1 14 := by rw [y1.a 14 (by decide), z1.a 14 (by decide)]
  have e12 : S2.2.2 12 = S1.2.2 12 := y1.l 12 (by decide)
  unfold O_copyBlock_69 F_copyBlock_69
  rw [n_clamp (by omega), n_clamp (by omega), e14, h.1]
  refine wp_fin ⟨((n_in (by omega)).2 (by omega)), ((n_in (by omega)).2 (by omega)), trivial⟩ ⟨f2.trans (rfr.one (by decide)), ⟨fun r hr => ?_, fun r i hr hi => ?_, fun r i hr hi => ?_⟩, ?_, fun i hi => ?_, fun i hi => ?_⟩
  · rw [A_same, upd_other _ _ hr, e14]
  · rw [A_L, e12, z2]
    have c : ¬ (696 * q ≤ 696 * r + i ∧ 696 * r + i < 696 * q + 696) := by omega
    rw [if_neg c]
  · rw [A_L, y2]
    have c : ¬ (32 * q ≤ 32 * r + i ∧ 32 * r + i < 32 * q + 32) := by omega
    rw [if_neg c]
  · rw [A_same, upd_same]
  · rw [A_L, e12, z2]
    have c : 696 * q ≤ 696 * q + i ∧ 696 * q + i < 696 * q + 696 := by omega
    rw [if_pos c, Nat.add_sub_cancel_left]
    exact h.2.1 i hi
  · rw [A_L, y2]
    have c : 32 * q ≤ 32 * q + i ∧ 32 * q + i < 32 * q + 32 := by omega
    rw [if_pos c, Nat.add_sub_cancel_left]
    exact h.2.2 i hi
/-- two places hold blocks with one id -/
def sameI (o o2 : Option (List Nat)) : Prop := ∃ b c, o = some b ∧ o2 = some c ∧ idB b = idB c
theorem sameBlock_ok (hp : p < 1354) (hq : q < 1354) (h : oR S p o) (h2 : oR S q o2) (hN : 100 ≤ N) : wp (o_sameBlock N S (nI p) (nI q)) (f_sameBlock N S (nI p) (nI q)) (fun v => (sameI o o2 ∧ v = nI 1) ∨ (¬ sameI o o2 ∧ v = nI 0)) := by
  obtain ⟨a1, a2⟩ := isThere_ok (N := N) hp h
  obtain ⟨b1, b2⟩ := isThere_ok (N := N) hq h2
  show wp (O_sameBlock_0 N (nI p) (nI q) S) (F_sameBlock_0 N (nI p) (nI q) S) _
  unfold O_sameBlock_0 F_sameBlock_0
  rw [a2, b2]
  refine wp_and a1 ?_
  have no : ¬ sameI o o2 → wp (O_sameBlock_20 N (nI p) (nI q) S) (F_sameBlock_20 N (nI p) (nI q) S) (fun v => (sameI o o2 ∧ v = nI 1) ∨ (¬ sameI o o2 ∧ v = nI 0)) := by
    intro ns
    unfold O_sameBlock_20 F_sameBlock_20 O_sameBlock_21 F_sameBlock_21
    refine wp_seq (Q := fun z : Nat × Int32 × Unit => z.2.1 = nI 0) ?_ (fun z hz => ?_)
    · obtain ⟨N, rfl⟩ := exs (show 0 < N by omega)
      unfold OL_sameBlock_25 L_sameBlock_25 OB_sameBlock_25 B_sameBlock_25
      exact wp_neg (by decide) (wp_pos rfl (wp_fin trivial rfl))
    · unfold OA_sameBlock_25 A_sameBlock_25 O_sameBlock_73 F_sameBlock_73
      rw [hz]
      exact wp_fin rfl (Or.inr ⟨ns, rfl⟩)
  cases o with
  | none => exact wp_pos rfl (no (fun z => by obtain ⟨b, c, e, -⟩ := z; cases e))
  | some b =>
    refine wp_neg (show ¬ nI 1 = 0 by decide) (wp_and b1 ?_)
    cases o2 with
    | none => exact wp_pos rfl (no (fun z => by obtain ⟨b, c, -, e, -⟩ := z; cases e))
    | some c =>
      refine wp_neg (show ¬ nI 1 = 0 by decide) ?_
      have hb : ∀ j, j < 4 → (S.2.2 13 (4 * p + j) = S.2.2 13 (4 * q + j) ↔ ∀ k, 8 * j ≤ k → k < 8 * j + 8 → bg (idB b) k = bg (idB c) k) := fun j hj => by
        have eb : ∀ k, k < 8 → byt (S.2.2 13 (4 * p + j)) k = nI (bg (idB b) (8 * j + k)) := fun k hk => by
          rw [← h.1.2.2 (8 * j + k) (by omega)]
          exact (lby_eq (by omega) (by omega)).symm
        have ec : ∀ k, k < 8 → byt (S.2.2 13 (4 * q + j)) k = nI (bg (idB c) (8 * j + k)) := fun k hk => by
          rw [← h2.1.2.2 (8 * j + k) (by omega)]
          exact (lby_eq (by omega) (by omega)).symm
        constructor
        · intro e k k1 k2
          have x1 := eb (k - 8 * j) (by omega)
          have x2 := ec (k - 8 * j) (by omega)
          rw [e, x2, show 8 * j + (k - 8 * j) = k by omega] at x1
          have l1 := idB_B b k
          have l2 := idB_B c k
          exact (n_inj (by omega) (by omega) x1).symm
        · intro e
          exact byt_ext fun k hk => by rw [eb k hk, ec k hk, e (8 * j + k) (by omega) (by omega)]
      unfold O_sameBlock_21 F_sameBlock_21
      refine wp_seq (Q := fun z : Nat × Int32 × Unit => ((∀ k, k < 32 → bg (idB b) k = bg (idB c) k) ∧ z.2.1 = nI 1) ∨ (¬ (∀ k, k < 32 → bg (idB b) k = bg (idB c) k) ∧ z.2.1 = nI 0)) ?_ ?_
      · refine wp_loop (K := 4) (fun j (x : Nat) => (x = 1 ∧ ∀ k, k < 8 * j → bg (idB b) k = bg (idB c) k) ∨ (x = 0 ∧ ¬ ∀ k, k < 32 → bg (idB b) k = bg (idB c) k)) (fun n j x => OL_sameBlock_25 N n (nI p) (nI q) (nI x) (nI j) S) (fun n j x => L_sameBlock_25 N n (nI p) (nI q) (nI x) (nI j) S) (fun n j x hj hI ih => ?_) 0 N 1 (by omega) (by omega) (Or.inl ⟨rfl, fun k hk => absurd hk (by omega)⟩)
        unfold OL_sameBlock_25 L_sameBlock_25 OB_sameBlock_25 B_sameBlock_25
        by_cases e : j = 4
        · refine wp_pos (by rw [n_le' (by omega) (by omega)]; omega) ?_
          subst e
          refine wp_fin trivial ?_
          rcases hI with ⟨rfl, hI⟩ | ⟨rfl, hI⟩
          · exact Or.inl ⟨fun k hk => hI k (by omega), rfl⟩
          · exact Or.inr ⟨hI, rfl⟩
        · refine wp_neg (by rw [n_le' (by omega) (by omega)]; omega) ?_
          rcases hI with ⟨rfl, hI⟩ | ⟨rfl, hI⟩
          · simp only [n_mul, n_add]
            rw [n_clamp (by omega), n_clamp (by omega)]
            refine wp_neg (by decide) (wp_and ((n_in (by omega)).2 (by omega)) (wp_and ((n_in (by omega)).2 (by omega)) (wp_ite (fun c1 => ?_) (fun c1 => ?_)))) <;> rw [lgc, hb j (by omega)] at c1
            · unfold O_sameBlock_66 F_sameBlock_66
              rw [n_add]
              refine ih 1 (Or.inl ⟨rfl, fun k hk => ?_⟩) (by omega)
              by_cases k1 : 8 * j ≤ k
              · exact c1 k k1 (by omega)
              · exact hI k (by omega)
            · unfold O_sameBlock_66 F_sameBlock_66
              rw [n_add]
              exact ih 0 (Or.inr ⟨rfl, fun z => c1 fun k _ k2 => z k (by omega)⟩) (by omega)
          · exact wp_pos rfl (wp_fin trivial (Or.inr ⟨hI, rfl⟩))
      · have iff : sameI (some b) (some c) ↔ ∀ k, k < 32 → bg (idB b) k = bg (idB c) k := by
          constructor
          · rintro ⟨x, y, e1, e2, e3⟩ k _
            cases e1
            cases e2
            rw [e3]
          · intro e
            exact ⟨b, c, rfl, rfl, by_ext (by rw [idB_len, idB_len]) (fun k hk => by rw [idB_len] at hk; exact e k hk)⟩
        rintro z (⟨z1, z2⟩ | ⟨z1, z2⟩) <;> unfold OA_sameBlock_25 A_sameBlock_25 O_sameBlock_73 F_sameBlock_73 <;> rw [z2]
        · exact wp_fin rfl (Or.inl ⟨iff.2 z1, rfl⟩)
        · exact wp_fin rfl (Or.inr ⟨fun y => z1 (iff.1 y), rfl⟩)
end
end

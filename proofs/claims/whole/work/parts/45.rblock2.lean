section
/-! THE REFERENCE READS A BLOCK -/
theorem flat_evL (b : List Nat) : ∀ k, (evL b k).flatten.length + 101 = evP b k
  | 0 => rfl
  | k + 1 => by
    have := flat_evL b k
    rw [evL_succ, List.flatten_append, List.length_append]
    simp only [List.flatten_cons, List.flatten_nil, List.append_nil, sl_len]
    show _ = evP b k + evSz b (evP b k)
    omega
theorem flat_pyL (b : List Nat) (k : Nat) : (evL b (bg b 100) ++ pyL b k).flatten.length + 101 = pyP b k := by
  rw [List.flatten_append, List.length_append]
  have h := flat_evL b (bg b 100)
  have h2 : (pyL b k).flatten.length = 7 * k := by
    induction k with
    | zero => rfl
    | succ k ih =>
      rw [pyL_succ, List.flatten_append, List.length_append, ih]
      simp only [List.flatten_cons, List.flatten_nil, List.append_nil, sl_len]
      omega
  unfold pyP
  omega
theorem pg_mem {ps : List (List Nat)} {p : Nat} : pg ps p = [] ∨ pg ps p ∈ ps := by
  unfold pg
  by_cases h : p < ps.length
  · right
    simp [h]
  · left
    simp [h]
theorem partsB_B {b : List Nat} (h : isB b) (p : Nat) : isB (pg (partsB b) p) := by
  rcases pg_mem (ps := partsB b) (p := p) with e | e
  · rw [e]; exact isB_nil
  · have e2 : pg (partsB b) p ∈ evL b (bg b 100) ++ pyL b (bg b 99) := e
    rw [List.mem_append] at e2
    rcases e2 with e2 | e2
    · unfold evL at e2
      rw [List.mem_map] at e2
      obtain ⟨x, -, e2⟩ := e2
      rw [← e2]; exact isB_sl h _ _
    · unfold pyL at e2
      rw [List.mem_map] at e2
      obtain ⟨x, -, e2⟩ := e2
      rw [← e2]; exact isB_sl h _ _
theorem sl_drop (m : List Nat) (a i n : Nat) : sl (m.drop a) i n = sl m (a + i) n := mkB_congr fun k _ => by rw [bg_drop, Nat.add_assoc]
section
variable {N T a : Nat} {S : rS} {m : List Nat}
theorem ev_drop (ha : a ≤ m.length) (p : Nat) (hp : a + p ≤ m.length) : (evOK T m (a + p) ↔ evOK T (m.drop a) p) ∧ evSz m (a + p) = evSz (m.drop a) p := by
  have hb : ∀ i, bg m (a + p + i) = bg (m.drop a) (p + i) := fun i => by rw [bg_drop, Nat.add_assoc]
  have hl : (m.drop a).length = m.length - a := List.length_drop
  refine ⟨⟨evOK_cong (by rw [hl]; omega) hp (by rw [hl]; omega) hb, evOK_cong (by rw [hl]; omega) (by rw [hl]; omega) hp (fun i => (hb i).symm)⟩, ?_⟩
  unfold evSz
  rw [hb 5]
theorem pay_drop (p : Nat) (hp : a ≤ m.length) : payOK m (a + p) ↔ payOK (m.drop a) p := by
  have hb : ∀ i, bg (m.drop a) (p + i) = bg m (a + p + i) := fun i => by rw [bg_drop, Nat.add_assoc]
  have hl : (m.drop a).length = m.length - a := List.length_drop
  have h0 : bg (m.drop a) p = bg m (a + p) := hb 0
  unfold payOK tw
  rw [hl, h0, hb 1, hb 2, hb 6, show p + 2 + 1 = p + 3 from rfl, hb 3, show a + p + 2 + 1 = a + p + 3 from rfl]
  omega
def rbL : List Nat := [6, 7, 8, 9, 12, 13, 14, 15, 16, 17, 18]
/-- what reading a block leaves -/
def rbQ (T a : Nat) (m : List Nat) (S : rS) (z : Int32 × rS) : Prop := rfr rbL S z.2 ∧ pO1 1352 S z.2 ∧ ((blkWf T (m.drop a) ∧ z.1 = nI 1 ∧ bR z.2 1352 (m.drop a)) ∨ (¬ blkWf T (m.drop a) ∧ z.1 = nI 0))
theorem rbQ_no {S' : rS} (hf : rfr rbL S S') (hp : pO1 1352 S S') (h : ¬ blkWf T (m.drop a)) : rbQ T a m S (nI 0, S') := ⟨hf, hp, Or.inr ⟨h, rfl⟩⟩
theorem readBlock_227 {b : List Nat} (hb : b = m.drop a) (h : mB S m) (hN : 2000 ≤ N) (ha : a + 101 ≤ m.length) (hl : b.length ≤ 691) (hK : rK S) : wp (O_readBlock_211 N (nI a) S) (F_readBlock_211 N (nI a) S) (fun z => rfr [6, 7, 8, 9, 12, 13, 14] S z.2 ∧ pO1 1352 S z.2 ∧ z.1 = nI 1 ∧ bR z.2 1352 b) := by
  have h1 := h.1
  have h2 := h.2.1
  have ll : b.length = m.length - a := by rw [hb]; exact List.length_drop
  have eb : ∀ i, bg b i = bg m (a + i) := fun i => by rw [hb, bg_drop]
  unfold O_readBlock_211 F_readBlock_211
  rw [h1, n_sub (by omega), ← ll, n_clamp (by omega)]
  refine wp_and ((n_in (by omega)).2 (by omega)) ?_
  have h3 : mB (rsA S 14 1352 (nI b.length)) m := h.fr (rfr.one (L := [14]) (by decide)) (by decide) (by decide)
  have k14 : (rsA S 14 1352 (nI b.length)).2.1 14 1352 = nI b.length := by rw [A_same, upd_same]
  have f0 : rfr [14] S (rsA S 14 1352 (nI b.length)) := rfr.one (by decide)
  have o14 : ∀ q, q ≠ 1352 → (rsA S 14 1352 (nI b.length)).2.1 14 q = S.2.1 14 q := fun q hq => by rw [A_same, upd_other _ _ hq]
  generalize rsA S 14 1352 (nI b.length) = S1 at h3 k14 f0 o14 ⊢
  refine wp_seq (Q := fun z : Nat × rS => rfr [12] S1 z.2 ∧ (∀ r, lby (z.2.2.2 12) r = if 696 * 1352 ≤ r ∧ r < 696 * 1352 + b.length then nI (bg b (r - 696 * 1352)) else lby (S1.2.2 12) r)) ?_ ?_
  · refine wp_loop (K := b.length) (fun j s => rfr [12] S1 s ∧ (∀ r, lby (s.2.2 12) r = if 696 * 1352 ≤ r ∧ r < 696 * 1352 + j then nI (bg b (r - 696 * 1352)) else lby (S1.2.2 12) r)) (fun n j s => OL_readBlock_227 N n (nI a) (nI j) s) (fun n j s => L_readBlock_227 N n (nI a) (nI j) s) (fun n j s hj hI ih => ?_) 0 N S1 (by omega) (by omega) ⟨rfr.refl, fun r => by rw [if_neg (by omega)]⟩
    have e14 : s.2.1 14 (nI 1352).toNatClampNeg = nI b.length := by rw [hI.1.a 14 (by decide)]; exact k14
    unfold OL_readBlock_227 L_readBlock_227 OB_readBlock_227 B_readBlock_227
    rw [e14]
    refine wp_and ((n_in (by omega)).2 (by omega)) ?_
    by_cases e : j = b.length
    · subst e
      exact wp_pos (by rw [n_le' (by omega) (by omega)]; omega) (wp_fin trivial hI)
    · refine wp_neg (by rw [n_le' (by omega) (by omega)]; omega) ?_
      have hm := h3.fr hI.1 (by decide) (by decide)
      rw [n_add, hm.at_ (i := a + j) (by omega), ← eb]
      refine wp_and ((n_in (by omega)).2 (by omega)) (wp_call (setByte_ok (x := nI (bg b j)) (p := 1352) (i := j) (by decide) (by omega)) (fun q => ?_))
      have := ih _ ⟨hI.1.trans q.1, fun r => ?_⟩ (by omega)
      · unfold O_readBlock_255 F_readBlock_255
        rw [n_add]
        exact this
      · rw [q.2 r]
        by_cases c : r = 696 * 1352 + j
        · rw [if_pos c, if_pos (by omega), n_255 (by rw [eb]; exact h.2.2.2 _), c, Nat.add_sub_cancel_left]
        · rw [if_neg c, hI.2 r]
          by_cases c2 : 696 * 1352 ≤ r ∧ r < 696 * 1352 + j
          · rw [if_pos c2, if_pos (by omega)]
          · rw [if_neg c2, if_neg (by omega)]
  · rintro z ⟨z1, z2⟩
    show wp (O_readBlock_261 N z.2) (F_readBlock_261 N z.2) _
    generalize z.2 = S2 at z1 z2 ⊢
    have hK2 : rK S2 := hK.fr ((f0.mono (L' := [12, 14]) (by decide)).trans (z1.mono (by decide))) (by decide) (by decide)
    have hw : wB S2 1352 b := fun i hi => by
      rw [z2, if_pos (by omega), Nat.add_sub_cancel_left]
    unfold O_readBlock_261 F_readBlock_261
    refine wp_mono (wp_call (identify_ok (by omega) (by decide) hw (by omega) (by rw [hb]; exact isB_drop h.2.2.2 a) hK2) (fun q => wp_ret (P := fun y => y = (nI 1, f_identify N S2 (nI 1352)) ∧ (rfr [6, 7, 8, 9, 13] S2 (f_identify N S2 (nI 1352)) ∧ pO1 1352 S2 (f_identify N S2 (nI 1352)) ∧ dB (f_identify N S2 (nI 1352)) 1352 (idB b))) ⟨rfl, q⟩)) (fun q => ?_)
    obtain ⟨q0, q1, q2, q3⟩ := q
    rw [q0]
    refine ⟨((f0.mono (by decide)).trans (z1.mono (by decide))).trans (q1.mono (by decide)), pO1.trans ⟨fun q hq => ?_, fun q i hq hi => ?_, fun q i hq hi => ?_⟩ q2, rfl, ?_, fun i hi => ?_, q3⟩
    · rw [z1.a 14 (by decide)]; exact o14 q hq
    · rw [z2, if_neg (by omega), f0.l 12 (by decide)]
    · rw [z1.l 13 (by decide), f0.l 13 (by decide)]
    · show (f_identify N S2 (nI 1352)).2.1 14 1352 = _
      rw [q1.a 14 (by decide), z1.a 14 (by decide)]; exact k14
    · show lby ((f_identify N S2 (nI 1352)).2.2 12) _ = _
      rw [q1.l 12 (by decide)]
      exact hw i hi
theorem readBlock_ok (h : mB S m) (hT : S.1 0 = nI T) (hT2 : T ≤ 13) (hN : 2000 ≤ N) (ha : a ≤ 6) (hK : rK S) : wp (o_readBlock N S (nI a)) (f_readBlock N S (nI a)) (rbQ T a m S) := by
  have h1 := h.1
  have h2 := h.2.1
  have h4 := h.2.2.2
  have hl : (m.drop a).length = m.length - a := List.length_drop
  have eb : ∀ i, bg (m.drop a) i = bg m (a + i) := fun i => bg_drop _ _ _
  have hB : isB (m.drop a) := isB_drop h4 a
  obtain ⟨b, eqb⟩ : ∃ b, b = m.drop a := ⟨_, rfl⟩
  have no0 : ¬ blkWf T b → rbQ T a m S (nI 0, S) := fun q => rbQ_no rfr.refl pO1.refl (by rw [← eqb]; exact q)
  rw [← eqb] at hl eb hB
  have t2 := hB 2
  have t99 := hB 99
  have t100 := hB 100
  show wp (O_readBlock_0 N (nI a) S) (F_readBlock_0 N (nI a) S) _
  unfold O_readBlock_0 F_readBlock_0
  simp only [h1, hT, n_add]
  refine wp_ite (fun c => ?_) (fun c => ?_) <;> rw [n_lt' (by omega) (by omega)] at c
  · exact wp_fin trivial (no0 fun q => by have := q.1; omega)
  rw [h.at_ (i := a + 2) (by omega), h.at_ (i := a + 99) (by omega), h.at_ (i := a + 100) (by omega), ← eb, ← eb, ← eb]
  obtain ⟨b1, b2⟩ := heightAt_ok (N := N) (a := a) h (by omega)
  have etw : tw m a = tw b 0 := by
    unfold tw
    rw [eb 0, eb (0 + 1)]
    rfl
  rw [b2, etw]
  have hx : (if a + 2 ≤ m.length ∧ tw b 0 ≤ 41 then tw b 0 else 0) < 65536 := by
    have := tw_lt hB 0
    split <;> omega
  refine wp_and b1 (wp_ite (fun c4 => ?_) (fun c4 => ?_)) <;> rw [n_eq0 (by omega)] at c4
  · refine wp_fin trivial (no0 fun q => ?_)
    have := q.2.1
    unfold hOK at this
    rw [if_pos (by omega)] at c4
    omega
  have c4' : hOK (tw b 0) := by
    unfold hOK
    by_cases e : a + 2 ≤ m.length ∧ tw b 0 ≤ 41
    · rw [if_pos e] at c4; omega
    · rw [if_neg e] at c4; omega
  refine wp_and ((n_in (by omega)).2 (by omega)) (wp_ite (fun c5 => ?_) (fun c5 => ?_)) <;> rw [n_le' (by omega) (by omega)] at c5
  · exact wp_fin trivial (no0 fun q => by have := q.2.2.1; omega)
  refine wp_and ((n_in (by omega)).2 (by omega)) (wp_ite (fun c6 => ?_) (fun c6 => ?_)) <;> rw [n_lt' (by omega) (by omega)] at c6
  · exact wp_fin trivial (no0 fun q => by have := q.2.2.2.1; omega)
  refine wp_and ((n_in (by omega)).2 (by omega)) (wp_ite (fun c7 => ?_) (fun c7 => ?_)) <;> rw [n_le' (by omega) (by omega)] at c7
  rotate_left
  · exact wp_fin trivial (no0 fun q => by have := q.2.2.2.2.1; omega)
  refine wp_call noParts_ok (fun q0 => ?_)
  generalize f_noParts N S = S1 at q0 ⊢
  unfold O_readBlock_72 F_readBlock_72
  have hE := flat_evL b
  have hEP := evP_le b
  refine wp_seq (Q := fun z : Nat × Int32 × Int32 × rS => (z = (0, 0, 0, z.2.2.2) ∧ rfr [15, 16, 17] S z.2.2.2 ∧ ¬ blkWf T b) ∨ (z = (1, nI a, nI (a + evP b (bg b 100)), z.2.2.2) ∧ rfr [15, 16, 17] S z.2.2.2 ∧ rQ z.2.2.2 (evL b (bg b 100)) [] ∧ ∀ k, k < bg b 100 → evOK T b (evP b k))) ?_ ?_
  · refine wp_loop (K := bg b 100) (fun j s => rfr [15, 16, 17] S s ∧ rQ s (evL b j) [] ∧ (∀ k, k < j → evOK T b (evP b k)) ∧ a + evP b j ≤ m.length) (fun n j s => OL_readBlock_74 N n (nI a) (nI (a + evP b j)) (nI j) s) (fun n j s => L_readBlock_74 N n (nI a) (nI (a + evP b j)) (nI j) s) (fun n j s hj hI ih => ?_) 0 N S1 (by omega) (by omega) ⟨q0.1.mono (by decide), q0.2, fun k hk => absurd hk (by omega), by show a + 101 ≤ _; omega⟩
    obtain ⟨i1, i2, i3, i4⟩ := hI
    have hm := h.fr i1 (by decide) (by decide)
    have hTs : s.1 0 = nI T := by rw [i1.i 0 (by decide)]; exact hT
    have p1 := hEP j
    unfold OL_readBlock_74 L_readBlock_74 OB_readBlock_74 B_readBlock_74
    rw [n_add, hm.at_ (i := a + 100) (by omega), ← eb]
    refine wp_and ((n_in (by omega)).2 (by omega)) ?_
    by_cases e : j = bg b 100
    · subst e
      exact wp_pos (by rw [n_le' (by omega) (by omega)]; omega) (wp_fin trivial (Or.inr ⟨rfl, i1, i2, i3⟩))
    · refine wp_neg (by rw [n_le' (by omega) (by omega)]; omega) ?_
      obtain ⟨d1, d2⟩ := ev_drop (T := T) (m := m) (a := a) (by omega) (evP b j) i4
      rw [← eqb] at d1 d2
      have sz := evSz_le b (evP b j)
      obtain ⟨u1, u2⟩ := evidenceAt_ok (N := N) (a := a + evP b j) hm hTs hT2 (by omega) (by omega)
      refine wp_and u1 ?_
      rcases u2 with ⟨v1, v2⟩ | ⟨v1, v2⟩
      · rw [v2, d2]
        have hev := d1.1 v1
        have hend := hev.end_
        refine wp_neg (by rw [n_eq0 (by omega)]; omega) ?_
        refine wp_call (part_ok hm i2 (by omega) (by omega) (by have := hE j; omega) (by rw [evL_len]; omega)) (fun q => ?_)
        rw [← sl_drop, ← eqb, ← evL_succ] at q
        have := ih _ ⟨i1.trans q.1, q.2, fun k hk => by
          by_cases e2 : k = j
          · rw [e2]; exact hev
          · exact i3 k (by omega), by show a + (evP b j + evSz b (evP b j)) ≤ _; omega⟩ (by omega)
        unfold O_readBlock_108 F_readBlock_108
        rw [n_add, n_add, Nat.add_assoc]
        exact this
      · rw [v2]
        exact wp_pos rfl (wp_fin trivial (Or.inl ⟨rfl, i1, fun q => v1 (d1.2 (q.2.2.2.2.2.1 j (by omega)))⟩))
  rintro z (⟨z0, z1, z2⟩ | ⟨z0, z1, z2, z3⟩)
  · rw [z0]
    refine wp_fin trivial (rbQ_no (z1.mono (by decide)) (pO1.fr z1 (by decide) (by decide) (by decide)) ?_)
    rw [← eqb]
    exact z2
  rw [z0]
  generalize z.2.2.2 = S2 at z1 z2 ⊢
  show wp (O_readBlock_119 N (nI a) (nI (a + evP b (bg b 100))) S2) (F_readBlock_119 N (nI a) (nI (a + evP b (bg b 100))) S2) _
  have p2 := hEP (bg b 100)
  unfold O_readBlock_119 F_readBlock_119
  refine wp_seq (Q := fun z : Nat × Int32 × Int32 × rS => (z = (0, 0, 0, z.2.2.2) ∧ rfr [15, 16, 17] S z.2.2.2 ∧ ¬ blkWf T b) ∨ (z = (1, nI a, nI (a + pyP b (bg b 99)), z.2.2.2) ∧ rfr [15, 16, 17] S z.2.2.2 ∧ rQ z.2.2.2 (partsB b) [] ∧ ∀ k, k < bg b 99 → payOK b (pyP b k))) ?_ ?_
  · refine wp_loop (K := bg b 99) (fun j s => rfr [15, 16, 17] S s ∧ rQ s (evL b (bg b 100) ++ pyL b j) [] ∧ ∀ k, k < j → payOK b (pyP b k)) (fun n j s => OL_readBlock_121 N n (nI a) (nI (a + pyP b j)) (nI j) s) (fun n j s => L_readBlock_121 N n (nI a) (nI (a + pyP b j)) (nI j) s) (fun n j s hj hI ih => ?_) 0 N S2 (by omega) (by omega) ⟨z1, by rw [show pyL b 0 = [] from rfl, List.append_nil]; exact z2, fun k hk => absurd hk (by omega)⟩
    obtain ⟨i1, i2, i3⟩ := hI
    have hm := h.fr i1 (by decide) (by decide)
    have ep : pyP b j = evP b (bg b 100) + 7 * j := rfl
    unfold OL_readBlock_121 L_readBlock_121 OB_readBlock_121 B_readBlock_121
    rw [n_add, hm.at_ (i := a + 99) (by omega), ← eb]
    refine wp_and ((n_in (by omega)).2 (by omega)) ?_
    by_cases e : j = bg b 99
    · subst e
      exact wp_pos (by rw [n_le' (by omega) (by omega)]; omega) (wp_fin trivial (Or.inr ⟨rfl, i1, i2, i3⟩))
    · refine wp_neg (by rw [n_le' (by omega) (by omega)]; omega) ?_
      have d1 := pay_drop (m := m) (a := a) (pyP b j) (by omega)
      rw [← eqb] at d1
      obtain ⟨u1, u2⟩ := isPaymentAt_ok (N := N) (a := a + pyP b j) hm (by omega)
      refine wp_and u1 ?_
      rcases u2 with ⟨v1, v2⟩ | ⟨v1, v2⟩
      · rw [v2]
        have hev := d1.1 v1
        have hend := hev.1
        refine wp_neg (by decide) ?_
        refine wp_call (part_ok hm i2 (by omega) (by omega) (by have := flat_pyL b j; omega) (by rw [List.length_append, evL_len, pyL_len]; omega)) (fun q => ?_)
        rw [← sl_drop, ← eqb, List.append_assoc, ← pyL_succ] at q
        have := ih _ ⟨i1.trans q.1, q.2, fun k hk => by
          by_cases e2 : k = j
          · rw [e2]; exact hev
          · exact i3 k (by omega)⟩ (by omega)
        unfold O_readBlock_151 F_readBlock_151
        rw [n_add, n_add, Nat.add_assoc]
        exact this
      · rw [v2]
        exact wp_pos rfl (wp_fin trivial (Or.inl ⟨rfl, i1, fun q => v1 (d1.2 (q.2.2.2.2.2.2.1 j (by omega)))⟩))
  rintro z (⟨y0, y1, y2⟩ | ⟨y0, y1, y2, y3⟩)
  · rw [y0]
    refine wp_fin trivial (rbQ_no (y1.mono (by decide)) (pO1.fr y1 (by decide) (by decide) (by decide)) ?_)
    rw [← eqb]
    exact y2
  rw [y0]
  generalize z.2.2.2 = S3 at y1 y2 ⊢
  show wp (O_readBlock_162 N (nI a) (nI (a + pyP b (bg b 99))) S3) (F_readBlock_162 N (nI a) (nI (a + pyP b (bg b 99))) S3) _
  have ep : pyP b (bg b 99) = evP b (bg b 100) + 7 * bg b 99 := rfl
  have hm := h.fr y1 (by decide) (by decide)
  unfold O_readBlock_162 F_readBlock_162
  rw [hm.1]
  refine wp_ite (fun c8 => ?_) (fun c8 => ?_) <;> rw [n_eq' (by omega) (by omega)] at c8
  rotate_left
  · exact wp_fin trivial (rbQ_no (y1.mono (by decide)) (pO1.fr y1 (by decide) (by decide) (by decide)) (by rw [← eqb]; exact fun q => c8 (by have := q.2.2.2.2.2.2.2.1; omega)))
  refine wp_call (root_ps (by omega) y2 (partsB_B hB) (hK.fr y1 (by decide) (by decide))) (fun q => ?_)
  generalize f_root_ N S3 = S4 at q ⊢
  have g4 : rfr [6, 7, 8, 9, 15, 16, 17, 18] S S4 := (y1.mono (by decide)).trans (q.1.mono (by decide))
  have hm4 := h.fr g4 (by decide) (by decide)
  unfold O_readBlock_176 F_readBlock_176
  refine wp_seq (Q := fun z : Nat × Int32 × rS => (z = (0, 0, S4) ∧ ¬ blkWf T b) ∨ (z = (1, nI a, S4) ∧ blkWf T b)) ?_ ?_
  · refine wp_loop (K := 32) (fun j (s : Unit) => ∀ i, i < j → bg b (67 + i) = bg (rootP (partsB b)) i) (fun n j s => OL_readBlock_178 N n (nI a) (nI j) S4) (fun n j s => L_readBlock_178 N n (nI a) (nI j) S4) (fun n j s hj hI ih => ?_) 0 N () (by omega) (by omega) (fun k hk => absurd hk (by omega))
    by_cases e : j = 32
    · refine wp_pos (by rw [n_le' (by omega) (by omega)]; omega) ?_
      subst e
      exact (wp_fin trivial (Or.inr ⟨rfl, (by omega), c4', (by omega), (by omega), (by omega), z3, y3, (by omega), hI⟩))
    · refine wp_neg (by rw [n_le' (by omega) (by omega)]; omega) ?_
      obtain ⟨r1, r2⟩ := rootByte_ok (N := N) (k := j) q.2 (by omega)
      have w1 := hB (67 + j)
      have w2 := rootP_B (partsB b) j
      simp only [n_add]
      rw [hm4.at_ (i := a + 67 + j) (by omega), r2, Nat.add_assoc, ← eb]
      refine wp_and ((n_in (by omega)).2 (by omega)) (wp_and r1 (wp_ite (fun c9 => ?_) (fun c9 => ?_))) <;> rw [n_eq' (by omega) (by omega)] at c9
      · exact ih () (fun i hi => by
          by_cases e2 : i = j
          · rw [e2]; exact c9
          · exact hI i (by omega)) (by omega)
      · exact wp_fin trivial (Or.inl ⟨rfl, fun x => c9 (x.2.2.2.2.2.2.2.2 j (by omega))⟩)
  rintro z (⟨x0, x1⟩ | ⟨x0, x1⟩)
  · rw [x0]
    refine wp_fin trivial (rbQ_no (g4.mono (by decide)) (pO1.fr g4 (by decide) (by decide) (by decide)) ?_)
    rw [← eqb]
    exact x1
  · rw [x0]
    refine wp_mono (readBlock_227 eqb hm4 hN (by omega) x1.len.2 (hK.fr g4 (by decide) (by decide))) (fun w => ?_)
    refine ⟨(g4.mono (by decide)).trans (w.1.mono (by decide)), (pO1.fr g4 (by decide) (by decide) (by decide)).trans w.2.1, Or.inl ⟨by rw [← eqb]; exact x1, w.2.2.1, ?_⟩⟩
    rw [← eqb]
    exact w.2.2.2
end
end

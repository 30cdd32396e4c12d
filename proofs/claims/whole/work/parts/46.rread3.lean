section
/-! THE REFERENCE READS A MESSAGE: what it finds -/
theorem heightOf_ok {N p : Nat} {S : rS} {b : List Nat} (hp : p < 1354) (h : wB S p b) (hl : 2 ≤ b.length) (hb : isB b) : wp (o_heightOf N S (nI p)) (f_heightOf N S (nI p)) (fun v => v = nI (tw b 0)) := by
  obtain ⟨a1, a2⟩ := blockByte_ok (N := N) (S := S) (p := p) (i := 0) hp (by omega)
  obtain ⟨b1, b2⟩ := blockByte_ok (N := N) (S := S) (p := p) (i := 1) hp (by omega)
  rw [h 0 (by omega)] at a2
  rw [h 1 (by omega)] at b2
  refine wp_fin ⟨a1, b1, trivial⟩ ?_
  show (f_blockByte N S (nI p) (nI 0) <<< (nI 8 &&& 31)) ||| f_blockByte N S (nI p) (nI 1) = _
  rw [a2, b2, n_two (hb 0) (hb 1)]
  rfl
section
variable {N T : Nat} {S : rS} {m : List Nat}
def htN (m : List Nat) (a : Nat) : Nat := if a + 2 ≤ m.length ∧ tw m a ≤ 41 then tw m a else 0
theorem htN_lt {a : Nat} (hb : isB m) : htN m a < 65536 := by
  have := tw_lt hb a
  unfold htN
  split <;> omega
theorem htN_ok {a : Nat} (h : ¬ htN m a = 0) : htN m a = tw m a ∧ hOK (tw m a) := by
  unfold htN at h ⊢
  unfold hOK
  by_cases e : a + 2 ≤ m.length ∧ tw m a ≤ 41
  · rw [if_pos e] at h ⊢; omega
  · rw [if_neg e] at h; omega
theorem htN_no {a : Nat} (h : htN m a = 0) (ha : a + 2 ≤ m.length) : ¬ hOK (tw m a) := by
  unfold htN at h
  unfold hOK
  by_cases e : a + 2 ≤ m.length ∧ tw m a ≤ 41
  · rw [if_pos e] at h; omega
  · omega
/-- the long words of a vote's id -/
def inL (S : rS) (k : Nat) (d : List Nat) : Prop := ∀ i, i < 32 → lby (S.2.2 k) i = nI (bg d i)
def voD (m : List Nat) : List Nat := mkB 32 (fun k => if bg m 5 = 1 then bg m (6 + k) else 0)
theorem readVote_ok (h : mB S m) (hT : S.1 0 = nI T) (hT2 : T ≤ 13) (hN : 100 ≤ N) : wp (o_readVote N S) (f_readVote N S) (fun z => rfr [37, 38, 39, 41, 42] S z.2 ∧ ((voOK T m ∧ z.1 = nI 1 ∧ z.2.1 37 = nI (bg m 1) ∧ z.2.1 38 = nI (tw m 2) ∧ z.2.1 39 = nI (bg m 4) ∧ z.2.1 41 = nI (bg m 5) ∧ inL z.2 42 (voD m)) ∨ (¬ voOK T m ∧ z.1 = nI 0))) := by
  have h4 := h.2.2.2
  have t1 := h4 1
  have tt4 := h4 4
  have t5 := h4 5
  have hlt := htN_lt (a := 2) h4
  obtain ⟨a1, a2⟩ := heightAt_ok (N := N) (a := 2) h (by omega)
  have a2 : f_heightAt N S (nI 2) = nI (htN m 2) := a2
  show wp (O_readVote_0 N S) (F_readVote_0 N S) _
  unfold O_readVote_0 F_readVote_0
  rw [a2]
  refine wp_and a1 ?_
  have f1 : rfr [37, 38, 39, 41, 42] S (rsI S 38 (nI (htN m 2))) := rfr.oneI (by decide)
  have g38 : (rsI S 38 (nI (htN m 2))).1 38 = nI (htN m 2) := I_same _ _ _
  generalize rsI S 38 (nI (htN m 2)) = S1 at f1 g38 ⊢
  have hm := h.fr f1 (by decide) (by decide)
  have h1 := hm.1
  have h2 := hm.2.1
  have hT1 : S1.1 0 = nI T := by rw [f1.i 0 (by decide)]; exact hT
  have no : ¬ voOK T m → rfr [37, 38, 39, 41, 42] S S1 ∧ ((voOK T m ∧ nI 0 = nI 1 ∧ S1.1 37 = nI (bg m 1) ∧ S1.1 38 = nI (tw m 2) ∧ S1.1 39 = nI (bg m 4) ∧ S1.1 41 = nI (bg m 5) ∧ inL S1 42 (voD m)) ∨ (¬ voOK T m ∧ nI 0 = nI 0)) := fun q => ⟨f1, Or.inr ⟨q, rfl⟩⟩
  rw [h1, hT1, g38]
  refine wp_ite (fun c => ?_) (fun c => ?_) <;> rw [n_lt' (by omega) (by omega)] at c
  · exact wp_fin trivial (no fun q => by rcases q.2 with z | z <;> omega)
  rw [hm.at_ (i := 1) (by omega), hm.at_ (i := 4) (by omega)]
  refine wp_and ((n_in (by omega)).2 (by omega)) (wp_ite (fun c1 => ?_) (fun c1 => ?_)) <;> rw [n_le' (by omega) (by omega)] at c1
  · exact wp_fin trivial (no fun q => by have := q.1.1; omega)
  refine wp_ite (fun c2 => ?_) (fun c2 => ?_) <;> rw [n_eq0 (by omega)] at c2
  · exact wp_fin trivial (no fun q => htN_no c2 (by omega) q.1.2.1)
  obtain ⟨hh1, hh2⟩ := htN_ok c2
  refine wp_and ((n_in (by omega)).2 (by omega)) (wp_ite (fun c3 => ?_) (fun c3 => ?_)) <;> rw [n_lt' (by omega) (by omega)] at c3
  · exact wp_fin trivial (no fun q => by have := q.1.2.2; omega)
  obtain ⟨e1, e2⟩ := endAt_ok (N := N) (a := 5) hm (by omega)
  have e2 : f_endAt N S1 (nI 5) = nI (if 5 < m.length ∧ bg m 5 = 0 then 1 else if 5 + 33 ≤ m.length ∧ bg m 5 = 1 then 33 else 0) := e2
  have hx : (if 5 < m.length ∧ bg m 5 = 0 then 1 else if 5 + 33 ≤ m.length ∧ bg m 5 = 1 then 33 else 0) < 34 := by
    split
    · omega
    · split <;> omega
  rw [e2]
  refine wp_and e1 (wp_ite (fun c4 => ?_) (fun c4 => ?_)) <;> rw [n_eq0 (by omega)] at c4
  · refine wp_fin trivial (no fun q => ?_)
    rcases q.2 with z | z
    · rw [if_pos (by omega)] at c4; omega
    · rw [if_neg (by omega), if_pos (by omega)] at c4; omega
  rw [n_add]
  refine wp_and e1 (wp_ite (fun c5 => ?_) (fun c5 => ?_)) <;> rw [n_eq' (by omega) (by omega)] at c5
  rotate_left
  · refine wp_fin trivial (no fun q => ?_)
    rcases q.2 with z | z
    · rw [if_pos (by omega)] at c5; omega
    · rw [if_neg (by omega), if_pos (by omega)] at c5; omega
  have hv : voOK T m := by
    refine ⟨⟨(by omega), hh2, (by omega)⟩, ?_⟩
    by_cases e : 5 < m.length ∧ bg m 5 = 0
    · rw [if_pos e] at c5; left; omega
    · by_cases e6 : 5 + 33 ≤ m.length ∧ bg m 5 = 1
      · rw [if_neg e, if_pos e6] at c5; right; omega
      · rw [if_neg e, if_neg e6] at c4; omega
  refine wp_and ((n_in (by omega)).2 (by omega)) (wp_and ((n_in (by omega)).2 (by omega)) ?_)
  have er : (rsI S1 37 (nI (bg m 1))).2.1 32 (nI 4).toNatClampNeg = nI (bg m 4) := hm.at_ (i := 4) (by omega)
  rw [er]
  have f2 : rfr [37, 38, 39, 41, 42] S (rsI (rsI S1 37 (nI (bg m 1))) 39 (nI (bg m 4))) := f1.trans ((rfr.oneI (by decide)).trans (rfr.oneI (by decide)))
  have g37 : (rsI (rsI S1 37 (nI (bg m 1))) 39 (nI (bg m 4))).1 37 = nI (bg m 1) := by rw [I_other _ _ (by decide), I_same]
  have g39 : (rsI (rsI S1 37 (nI (bg m 1))) 39 (nI (bg m 4))).1 39 = nI (bg m 4) := I_same _ _ _
  have g38' : (rsI (rsI S1 37 (nI (bg m 1))) 39 (nI (bg m 4))).1 38 = nI (tw m 2) := by rw [I_other _ _ (by decide), I_other _ _ (by decide), g38, hh1]
  generalize rsI (rsI S1 37 (nI (bg m 1))) 39 (nI (bg m 4)) = S2 at f2 g37 g38' g39 ⊢
  have hm2 := h.fr f2 (by decide) (by decide)
  have b5 : bg m 5 = 0 ∨ bg m 5 = 1 := by rcases hv.2 with z | z <;> omega
  have key : ∀ v, v = nI (bg m 5) → wp (O_readVote_109 N v S2) (F_readVote_109 N v S2) (fun z => rfr [37, 38, 39, 41, 42] S z.2 ∧ ((voOK T m ∧ z.1 = nI 1 ∧ z.2.1 37 = nI (bg m 1) ∧ z.2.1 38 = nI (tw m 2) ∧ z.2.1 39 = nI (bg m 4) ∧ z.2.1 41 = nI (bg m 5) ∧ inL z.2 42 (voD m)) ∨ (¬ voOK T m ∧ z.1 = nI 0))) := by
    rintro v rfl
    have f3 : rfr [37, 38, 39, 41, 42] S (rsI S2 41 (nI (bg m 5))) := f2.trans (rfr.oneI (by decide))
    have k37 : (rsI S2 41 (nI (bg m 5))).1 37 = nI (bg m 1) := by rw [I_other _ _ (by decide)]; exact g37
    have k38 : (rsI S2 41 (nI (bg m 5))).1 38 = nI (tw m 2) := by rw [I_other _ _ (by decide)]; exact g38'
    have k39 : (rsI S2 41 (nI (bg m 5))).1 39 = nI (bg m 4) := by rw [I_other _ _ (by decide)]; exact g39
    have k41 : (rsI S2 41 (nI (bg m 5))).1 41 = nI (bg m 5) := I_same _ _ _
    unfold O_readVote_109 F_readVote_109
    refine wp_and (by rcases b5 with e | e <;> rw [e] <;> exact ⟨rfl, rfl⟩) ?_
    generalize rsI S2 41 (nI (bg m 5)) = S3 at f3 k37 k38 k39 k41 ⊢
    have hm3 := h.fr f3 (by decide) (by decide)
    refine wp_seq (Q := fun z => rfr [42] S3 z.2 ∧ inL z.2 42 (voD m)) ?_ ?_
    · refine wp_loop (K := 4) (fun j s => rfr [42] S3 s ∧ ∀ i, i < 8 * j → lby (s.2.2 42) i = nI (bg (voD m) i)) (fun n j s => OL_readVote_114 N n (nI j) s) (fun n j s => L_readVote_114 N n (nI j) s) (fun n j s hj hI ih => ?_) 0 N S3 (by omega) (by omega) ⟨rfr.refl, fun i hi => absurd hi (by omega)⟩
      by_cases e : j = 4
      · refine wp_pos (by rw [n_le' (by omega) (by omega)]; omega) ?_
        subst e
        exact (wp_fin trivial ⟨hI.1, fun i hi => hI.2 i (by omega)⟩)
      · refine wp_neg (by rw [n_le' (by omega) (by omega)]; omega) ?_
        have hm4 := hm3.fr hI.1 (by decide) (by decide)
        have k41s : s.1 41 = nI (bg m 5) := by rw [hI.1.i 41 (by decide)]; exact k41
        refine wp_seq (Q := fun z => z = (0, nI j, l8 (fun k => nI (bg (voD m) (8 * j + k))) 8, s)) ?_ ?_
        · by_cases b0 : bg m 5 = 0
          · obtain ⟨N, rfl⟩ := exs (show 0 < N by omega)
            refine wp_pos (by rw [k41s, n_eq0 (by omega)]; exact b0) (wp_fin trivial ?_)
            have : l8 (fun k => nI (bg (voD m) (8 * j + k))) 8 = 0 := by
              rw [l8_congr (b' := fun _ => nI 0) 8 (fun k hk => by
                show nI (bg (voD m) (8 * j + k)) = nI 0
                unfold voD
                rw [mkB_in (by omega), if_neg (by omega)])]
              decide
            rw [this]
          · have b1 : bg m 5 = 1 := by omega
            have hl38 : m.length = 38 := by rcases hv.2 with z | z <;> omega
            refine wp_loop (K := 8) (fun i (x : Int64) => x = l8 (fun k => nI (bg (voD m) (8 * j + k))) i) (fun n i x => OL_readVote_124 N n (nI j) x (nI i) s) (fun n i x => L_readVote_124 N n (nI j) x (nI i) s) (fun n i x hi hJ ih2 => ?_) 0 N (0 : Int64) (by omega) (by omega) rfl
            refine wp_neg (by rw [k41s, n_eq0 (by omega)]; exact b0) ?_
            by_cases e8 : i = 8
            · subst e8
              refine wp_pos (by decide) (wp_fin trivial ?_)
              rw [hJ]
            · refine wp_neg (by rw [n_le' (by omega) (by omega)]; omega) ?_
              simp only [n_mul, n_add]
              rw [hm4.at_ (i := 6 + 8 * j + i) (by omega)]
              refine wp_and ((n_in (by omega)).2 (by omega)) (ih2 _ ?_ (by omega))
              rw [hJ]
              show _ = (l8 (fun k => nI (bg (voD m) (8 * j + k))) i <<< (Int32.toInt64 (nI 8) &&& 63)) ||| Int32.toInt64 (nI (bg (voD m) (8 * j + i)))
              unfold voD
              rw [mkB_in (by omega), if_pos b1, Nat.add_assoc]
        · rintro z rfl
          show wp (O_readVote_166 N (OL_readVote_114 N n) (nI j) (l8 (fun k => nI (bg (voD m) (8 * j + k))) 8) s) (F_readVote_166 N (L_readVote_114 N n) (nI j) (l8 (fun k => nI (bg (voD m) (8 * j + k))) 8) s) _
          unfold O_readVote_166 F_readVote_166
          rw [n_clamp (by omega), n_add]
          refine wp_and ((n_in (by omega)).2 (by omega)) (ih _ ⟨hI.1.trans (rfr.oneL (by decide)), fun i hi => ?_⟩ (by omega))
          rw [L_same]
          have hvb : ∀ k, nI (bg (voD m) k) &&& nI 255 = nI (bg (voD m) k) := fun k => n_255 (by
            unfold voD
            rw [mkB_bg]
            have := h4 (6 + k)
            split
            · split <;> omega
            · omega)
          by_cases c : 8 * j ≤ i
          · rw [lby_eq (a := j) (b := i % 8) (by omega) rfl, updL_same, byt_l8 (fun k => hvb _) (by omega)]
            congr 2
            omega
          · have e9 : lby (vp_updL (s.2.2 42) j (l8 (fun k => nI (bg (voD m) (8 * j + k))) 8)) i = lby (s.2.2 42) i := by
              unfold lby
              rw [updL_other _ _ (by omega)]
            rw [e9]
            exact hI.2 i (by omega)
    · rintro z ⟨z1, z2⟩
      refine wp_fin trivial ⟨f3.trans (z1.mono (by decide)), Or.inl ⟨hv, rfl, ?_, ?_, ?_, ?_, z2⟩⟩
      · show z.2.1 37 = _
        rw [z1.i 37 (by decide)]; exact k37
      · show z.2.1 38 = _
        rw [z1.i 38 (by decide)]; exact k38
      · show z.2.1 39 = _
        rw [z1.i 39 (by decide)]; exact k39
      · show z.2.1 41 = _
        rw [z1.i 41 (by decide)]; exact k41
  show wp (O_readVote_93 N S2) (F_readVote_93 N S2) _
  unfold O_readVote_93 F_readVote_93
  rw [hm2.at_ (i := 5) (by omega)]
  refine wp_and ((n_in (by omega)).2 (by omega)) (wp_ite (fun c6 => ?_) (fun c6 => ?_)) <;> rw [n_eq' (by omega) (by omega)] at c6
  · exact key _ (by rw [c6])
  · exact key _ (by rw [show bg m 5 = 0 by omega])
def prV (m : List Nat) : Int := if bg m 5 = 255 then -1 else bg m 5
theorem readProposal_ok (h : mB S m) (hT : S.1 0 = nI T) (hT2 : T ≤ 13) (hN : 2000 ≤ N) (hK : rK S) : wp (o_readProposal N S) (f_readProposal N S) (fun z => rfr [6, 7, 8, 9, 12, 13, 14, 15, 16, 17, 18, 37, 38, 39, 40] S z.2 ∧ pO1 1352 S z.2 ∧ ((prOK T m ∧ z.1 = nI 1 ∧ z.2.1 37 = nI (bg m 1) ∧ z.2.1 38 = nI (tw m 2) ∧ z.2.1 39 = nI (bg m 4) ∧ z.2.1 40 = iI (prV m) ∧ bR z.2 1352 (m.drop 6)) ∨ (¬ prOK T m ∧ z.1 = nI 0))) := by
  have h4 := h.2.2.2
  have t1 := h4 1
  have tt4 := h4 4
  have t5 := h4 5
  have hlt := htN_lt (a := 2) h4
  obtain ⟨a1, a2⟩ := heightAt_ok (N := N) (a := 2) h (by omega)
  have a2 : f_heightAt N S (nI 2) = nI (htN m 2) := a2
  show wp (O_readProposal_0 N S) (F_readProposal_0 N S) _
  unfold O_readProposal_0 F_readProposal_0
  rw [a2]
  refine wp_and a1 ?_
  have f1 : rfr [37, 38, 39, 40] S (rsI S 38 (nI (htN m 2))) := rfr.oneI (by decide)
  have g38 : (rsI S 38 (nI (htN m 2))).1 38 = nI (htN m 2) := I_same _ _ _
  generalize rsI S 38 (nI (htN m 2)) = S1 at f1 g38 ⊢
  have hm := h.fr f1 (by decide) (by decide)
  have h1 := hm.1
  have h2 := hm.2.1
  have hT1 : S1.1 0 = nI T := by rw [f1.i 0 (by decide)]; exact hT
  have no : ¬ prOK T m → rfr [6, 7, 8, 9, 12, 13, 14, 15, 16, 17, 18, 37, 38, 39, 40] S S1 ∧ pO1 1352 S S1 ∧ ((prOK T m ∧ nI 0 = nI 1 ∧ S1.1 37 = nI (bg m 1) ∧ S1.1 38 = nI (tw m 2) ∧ S1.1 39 = nI (bg m 4) ∧ S1.1 40 = iI (prV m) ∧ bR S1 1352 (m.drop 6)) ∨ (¬ prOK T m ∧ nI 0 = nI 0)) := fun q => ⟨f1.mono (by decide), pO1.fr f1 (by decide) (by decide) (by decide), Or.inr ⟨q, rfl⟩⟩
  rw [h1, hT1, g38]
  have hlen : prOK T m → 107 ≤ m.length := fun q => by
    have := q.2.2.1.1
    rw [List.length_drop] at this
    omega
  refine wp_ite (fun c => ?_) (fun c => ?_) <;> rw [n_lt' (by omega) (by omega)] at c
  · exact wp_fin trivial (no fun q => by have := hlen q; omega)
  rw [hm.at_ (i := 1) (by omega), hm.at_ (i := 4) (by omega), hm.at_ (i := 5) (by omega)]
  refine wp_and ((n_in (by omega)).2 (by omega)) (wp_ite (fun c1 => ?_) (fun c1 => ?_)) <;> rw [n_le' (by omega) (by omega)] at c1
  · exact wp_fin trivial (no fun q => by have := q.1.1; omega)
  refine wp_ite (fun c2 => ?_) (fun c2 => ?_) <;> rw [n_eq0 (by omega)] at c2
  · exact wp_fin trivial (no fun q => htN_no c2 (by omega) q.1.2.1)
  obtain ⟨hh1, hh2⟩ := htN_ok c2
  refine wp_and ((n_in (by omega)).2 (by omega)) (wp_ite (fun c3 => ?_) (fun c3 => ?_)) <;> rw [n_lt' (by omega) (by omega)] at c3
  · exact wp_fin trivial (no fun q => by have := q.1.2.2; omega)
  have key : (bg m 5 ≤ 15 ∨ bg m 5 = 255) → wp (O_readProposal_74 N S1) (F_readProposal_74 N S1) (fun z => rfr [6, 7, 8, 9, 12, 13, 14, 15, 16, 17, 18, 37, 38, 39, 40] S z.2 ∧ pO1 1352 S z.2 ∧ ((prOK T m ∧ z.1 = nI 1 ∧ z.2.1 37 = nI (bg m 1) ∧ z.2.1 38 = nI (tw m 2) ∧ z.2.1 39 = nI (bg m 4) ∧ z.2.1 40 = iI (prV m) ∧ bR z.2 1352 (m.drop 6)) ∨ (¬ prOK T m ∧ z.1 = nI 0))) := by
    intro b5
    unfold O_readProposal_74 F_readProposal_74
    rw [hm.at_ (i := 1) (by omega)]
    refine wp_and ((n_in (by omega)).2 (by omega)) (wp_and ((n_in (by omega)).2 (by omega)) ?_)
    have er : (rsI S1 37 (nI (bg m 1))).2.1 32 (nI 4).toNatClampNeg = nI (bg m 4) := hm.at_ (i := 4) (by omega)
    rw [er]
    have f2 : rfr [37, 38, 39, 40] S (rsI (rsI S1 37 (nI (bg m 1))) 39 (nI (bg m 4))) := f1.trans ((rfr.oneI (by decide)).trans (rfr.oneI (by decide)))
    have g37 : (rsI (rsI S1 37 (nI (bg m 1))) 39 (nI (bg m 4))).1 37 = nI (bg m 1) := by rw [I_other _ _ (by decide), I_same]
    have g39 : (rsI (rsI S1 37 (nI (bg m 1))) 39 (nI (bg m 4))).1 39 = nI (bg m 4) := I_same _ _ _
    have g38' : (rsI (rsI S1 37 (nI (bg m 1))) 39 (nI (bg m 4))).1 38 = nI (tw m 2) := by rw [I_other _ _ (by decide), I_other _ _ (by decide), g38, hh1]
    generalize rsI (rsI S1 37 (nI (bg m 1))) 39 (nI (bg m 4)) = S2 at f2 g37 g38' g39 ⊢
    have hm2 := h.fr f2 (by decide) (by decide)
    have key2 : ∀ v, v = iI (prV m) → wp (O_readProposal_117 N v S2) (F_readProposal_117 N v S2) (fun z => rfr [6, 7, 8, 9, 12, 13, 14, 15, 16, 17, 18, 37, 38, 39, 40] S z.2 ∧ pO1 1352 S z.2 ∧ ((prOK T m ∧ z.1 = nI 1 ∧ z.2.1 37 = nI (bg m 1) ∧ z.2.1 38 = nI (tw m 2) ∧ z.2.1 39 = nI (bg m 4) ∧ z.2.1 40 = iI (prV m) ∧ bR z.2 1352 (m.drop 6)) ∨ (¬ prOK T m ∧ z.1 = nI 0))) := by
      rintro v rfl
      have f3 : rfr [37, 38, 39, 40] S (rsI S2 40 (iI (prV m))) := f2.trans (rfr.oneI (by decide))
      have k37 : (rsI S2 40 (iI (prV m))).1 37 = nI (bg m 1) := by rw [I_other _ _ (by decide)]; exact g37
      have k38 : (rsI S2 40 (iI (prV m))).1 38 = nI (tw m 2) := by rw [I_other _ _ (by decide)]; exact g38'
      have k39 : (rsI S2 40 (iI (prV m))).1 39 = nI (bg m 4) := by rw [I_other _ _ (by decide)]; exact g39
      have k40 : (rsI S2 40 (iI (prV m))).1 40 = iI (prV m) := I_same _ _ _
      unfold O_readProposal_117 F_readProposal_117
      generalize rsI S2 40 (iI (prV m)) = S3 at f3 k37 k38 k39 k40 ⊢
      have hm3 := h.fr f3 (by decide) (by decide)
      have hT3 : S3.1 0 = nI T := by rw [f3.i 0 (by decide)]; exact hT
      refine wp_call (readBlock_ok (a := 6) hm3 hT3 hT2 hN (by omega) (hK.fr f3 (by decide) (by decide))) (fun q => ?_)
      obtain ⟨q1, q2, q3⟩ := q
      generalize f_readBlock N S3 (nI 6) = y at q1 q2 q3 ⊢
      have f4 : rfr [6, 7, 8, 9, 12, 13, 14, 15, 16, 17, 18, 37, 38, 39, 40] S y.2 := (f3.mono (by decide)).trans (q1.mono (by decide))
      have p4 : pO1 1352 S y.2 := (pO1.fr f3 (by decide) (by decide) (by decide)).trans q2
      have ho : prOK T m ↔ (blkWf T (m.drop 6) ∧ tw m 6 = tw m 2) := ⟨fun q => ⟨q.2.2.1, q.2.2.2⟩, fun q => ⟨⟨(by omega), hh2, (by omega)⟩, b5, q.1, q.2⟩⟩
      rcases q3 with ⟨r1, r2, r3⟩ | ⟨r1, r2⟩
      · have etw : tw (m.drop 6) 0 = tw m 6 := by
          unfold tw
          rw [bg_drop, bg_drop]
        have hbd : isB (m.drop 6) := isB_drop h4 6
        obtain ⟨u1, u2⟩ := heightOf_ok (N := N) (p := 1352) (by decide) r3.2.1 (by have := r1.len; omega) hbd
        have e38 : y.2.1 38 = nI (tw m 2) := by rw [q1.i 38 (by decide)]; exact k38
        have l1 := tw_lt h4 2
        have l2 := tw_lt h4 6
        unfold O_readProposal_126 F_readProposal_126
        rw [r2, u2, e38, etw]
        refine wp_neg (by decide) (wp_and u1 (wp_ite (fun c => ?_) (fun c => ?_))) <;> rw [n_eq' (by omega) (by omega)] at c
        · refine wp_fin rfl ⟨f4, p4, Or.inl ⟨ho.2 ⟨r1, c⟩, rfl, ?_, e38, ?_, ?_, r3⟩⟩
          · show y.2.1 37 = _
            rw [q1.i 37 (by decide)]; exact k37
          · show y.2.1 39 = _
            rw [q1.i 39 (by decide)]; exact k39
          · show y.2.1 40 = _
            rw [q1.i 40 (by decide)]; exact k40
        · exact wp_fin rfl ⟨f4, p4, Or.inr ⟨fun q => c (ho.1 q).2, rfl⟩⟩
      · unfold O_readProposal_126 F_readProposal_126
        rw [r2]
        exact wp_pos rfl (wp_fin rfl ⟨f4, p4, Or.inr ⟨fun q => r1 (ho.1 q).1, rfl⟩⟩)
    show wp (O_readProposal_94 N S2) (F_readProposal_94 N S2) _
    unfold O_readProposal_94 F_readProposal_94
    rw [hm2.at_ (i := 5) (by omega)]
    refine wp_and ((n_in (by omega)).2 (by omega)) (wp_ite (fun c6 => ?_) (fun c6 => ?_)) <;> rw [n_eq' (by omega) (by omega)] at c6
    · have : iI (prV m) = -1 := by unfold prV; rw [if_pos c6]; rfl
      exact key2 _ this.symm
    · have : iI (prV m) = nI (bg m 5) := by unfold prV; rw [if_neg c6]; exact iI_n _
      exact wp_and ((n_in (by omega)).2 (by omega)) (key2 _ this.symm)
  refine wp_and ((n_in (by omega)).2 (by omega)) (wp_ite (fun c5 => ?_) (fun c5 => ?_)) <;> rw [n_le' (by omega) (by omega)] at c5
  · exact key (Or.inl c5)
  refine wp_and ((n_in (by omega)).2 (by omega)) (wp_ite (fun c6 => ?_) (fun c6 => ?_)) <;> rw [n_eq' (by omega) (by omega)] at c6
  · exact key (Or.inr c6)
  · exact wp_fin trivial (no fun q => by rcases q.2.1 with z | z <;> omega)
end
end

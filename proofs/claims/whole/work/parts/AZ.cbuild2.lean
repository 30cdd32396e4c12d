section
/-! THE CLASS'S NODE BUILDS A BLOCK: its root -/
section
variable {N g H T u : Nat} {s X : cS} {b b' B : List Nat}
theorem ev_cg (he : ∀ i, 99 ≤ i → bg b i = bg b' i) {a : Nat} (ha : 99 ≤ a) : evSz b a = evSz b' a := by
  unfold evSz
  rw [he (a + 5) (by omega)]
theorem evP_cg (he : ∀ i, 99 ≤ i → bg b i = bg b' i) : ∀ k, evP b k = evP b' k
  | 0 => rfl
  | k + 1 => by
    have l := (evP_le b' k).1
    show evP b k + evSz b (evP b k) = evP b' k + evSz b' (evP b' k)
    rw [evP_cg he k, ev_cg he (by omega)]
theorem sl_cg (he : ∀ i, 99 ≤ i → bg b i = bg b' i) {a l : Nat} (ha : 99 ≤ a) : sl b a l = sl b' a l := by
  refine by_ext (by rw [sl_len, sl_len]) (fun i hi => ?_)
  rw [sl_len] at hi
  rw [sl_in hi, sl_in hi]
  exact he _ (by omega)
theorem parts_cg (he : ∀ i, 99 ≤ i → bg b i = bg b' i) : partsB b = partsB b' := by
  refine pg_ext (by rw [partsB_len, partsB_len, he 100 (by decide), he 99 (by decide)]) (fun p hp => ?_)
  rw [partsB_len] at hp
  rw [pg_parts b hp, pg_parts b' (by rw [← he 100 (by decide), ← he 99 (by decide)]; exact hp)]
  have l1 := (evP_le b' p).1
  have l2 := (evP_le b' (bg b' 100)).1
  unfold ptP ptS pyP
  rw [he 100 (by decide), evP_cg he, evP_cg he]
  by_cases c : p < bg b' 100
  · rw [if_pos c, if_pos c, if_pos c, ev_cg he (by omega)]
    exact sl_cg he (by omega)
  · rw [if_neg c, if_neg c, if_neg c]
    exact sl_cg he (by omega)
/-- the root is put into the block on the desk -/
theorem root_row (hN : 2100 ≤ N) (hS : St u g H T X) (hK : cK X (g + 28) = 20) (hL : cL X (g + 28) = 1024) (hw : blkWf T B) (hB : isB B) (hl : B.length ≤ 691) (hr : ∀ i, i < B.length → ¬ (67 ≤ i ∧ i < 99) → cA X (g + 28) (6 + i) = sb (bg B i)) : ∃ s1 s2 s3, p_X2_plant N g H T X (g + 3) (some (g + 28)) (nI 6) ∧ k_X2_plant N g H T X (g + 3) (some (g + 28)) (nI 6) = s1 ∧ p_X2_climb N g H T s1 (g + 3) (-1) (some (g + 28)) (nI 6) ∧ k_X2_climb N g H T s1 (g + 3) (-1) (some (g + 28)) (nI 6) = (nI 6 - nI 6, s2) ∧ p_X2_top N g H T s2 (g + 3) (some (g + 28)) (nI 73) ∧ k_X2_top N g H T s2 (g + 3) (some (g + 28)) (nI 73) = s3 ∧ cfr (fun x => isH (g + 3) x ∨ x = g + 28) X s3 ∧ (∀ i, i < B.length → cA s3 (g + 28) (6 + i) = sb (bg B i)) ∧ (∀ i, i < 6 → cA s3 (g + 28) i = cA X (g + 28) i) ∧ St u g H T s3 := by
  obtain ⟨w1, w2, w3, w4, w5, w6, w7, w8, w9⟩ := hw
  have hR := hS.row hK (by omega)
  obtain ⟨R, hRe⟩ : ∃ R, R = mkB (cL X (g + 28)) (fun i => nb (cA X (g + 28) i)) := ⟨_, rfl⟩
  rw [← hRe] at hR
  have Rl : R.length = 1024 := by rw [hRe, mkB_len, hL]
  obtain ⟨b', hb'⟩ : ∃ b', b' = mkB B.length (fun i => bg R (6 + i)) := ⟨_, rfl⟩
  have bl : b'.length = B.length := by rw [hb', mkB_len]
  have bi : ∀ i, i < B.length → bg b' i = bg R (6 + i) := fun i hi => by rw [hb', mkB_bg, if_pos hi]
  have rB : ∀ i, i < B.length → ¬ (67 ≤ i ∧ i < 99) → bg R (6 + i) = bg B i := fun i hi hc => by
    have e1 := hR.2.2.1 (6 + i) (by omega)
    rw [hr i hi hc] at e1
    exact ((sb_inj (hB i) (hR.2.2.2 (6 + i))).1 e1).symm
  have he : ∀ i, 99 ≤ i → bg b' i = bg B i := fun i hi => by
    by_cases c : i < B.length
    · rw [bi i c, rB i c (by omega)]
    · rw [bg_out (by omega), bg_out (by omega)]
  have pe := parts_cg he
  have ep := evP_cg he
  have e100 := he 100 (by decide)
  have e99 := he 99 (by decide)
  have iB : isB b' := fun i => by
    by_cases c : i < B.length
    · rw [bi i c]
      exact hR.2.2.2 _
    · rw [bg_out (by omega)]
      decide
  have py : pyP b' (bg b' 99) = B.length := by
    unfold pyP
    rw [e100, e99, ep, w8]
    rfl
  have hat : atR X (g + 28) 6 R b' := by
    refine ⟨hR, by rw [Rl, hL], by omega, fun i hi => (bi i (by omega)).symm, by omega, by omega, by omega, by omega, fun k hk => ?_⟩
    rw [e100] at hk
    have l := (evP_le B k).1
    rw [ep, ev_cg he (by omega)]
    obtain ⟨h1, _, _, _, _, _, h7⟩ := w6 k hk
    unfold evC evSz
    have g5 : bg R (6 + evP B k + 5) = bg B (evP B k + 5) := by rw [show 6 + evP B k + 5 = 6 + (evP B k + 5) by omega]; exact rB _ (by omega) (by omega)
    have g6 : bg R (6 + evP B k + 6) = bg B (evP B k + 6) := by rw [show 6 + evP B k + 6 = 6 + (evP B k + 6) by omega]; exact rB _ (by omega) (by omega)
    have g38 : bg R (6 + evP B k + 38) = bg B (evP B k + 38) := by rw [show 6 + evP B k + 38 = 6 + (evP B k + 38) by omega]; exact rB _ (by omega) (by omega)
    rw [g5, g6, g38]
    rcases h7 with h7 | h7
    · rw [if_pos (by omega), if_neg (by omega)]; rfl
    · rw [if_neg (by omega), if_pos (by omega), if_pos (by omega)]; rfl
  obtain ⟨s1, s2, s3, p1, q1, p2, q2, p3, q3, f, rt, ro, st⟩ := rootC (N := N) (d := g + 28) (at_ := 73) (x2 := some (g + 28)) (x3 := nI 6) hN hS hK (by unfold isH; omega) hat iB hK (by unfold isH; omega) (by omega) (by omega) (tK_some hK)
  refine ⟨s1, s2, s3, p1, q1, p2, q2, p3, q3, f, fun i hi => ?_, fun i hi => ro i (by omega), st⟩
  by_cases c : 67 ≤ i ∧ i < 99
  · have e := rt (i - 67) (by omega)
    rw [show 73 + (i - 67) = 6 + i by omega, pe, ← w9 (i - 67) (by omega), show 67 + (i - 67) = i by omega] at e
    exact e
  · rw [ro (6 + i) (by omega)]
    exact hr i hi c
end
end

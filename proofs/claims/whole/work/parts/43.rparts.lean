section
/-! THE REFERENCE'S PARTS (rows 15, 16, number 17): what is laid, what is being laid -/
def rQ (S : rS) (ps : List (List Nat)) (c : List Nat) : Prop := S.1 17 = nI ps.length ∧ ps.length ≤ 66 ∧ (ps.flatten ++ c).length ≤ 600 ∧ (∀ p, p < ps.length → S.2.1 16 p = nI (ps.take (p + 1)).flatten.length) ∧ S.2.1 16 ps.length = nI (ps.flatten ++ c).length ∧ ∀ i, i < (ps.flatten ++ c).length → S.2.1 15 i = nI (bg (ps.flatten ++ c) i)
theorem rQ.fr {L : List Nat} {S S1 : rS} {ps : List (List Nat)} {c : List Nat} (h : rQ S ps c) (hf : rfr L S S1) (h1 : 15 ∉ L) (h2 : 16 ∉ L) (h3 : 17 ∉ L) : rQ S1 ps c := by
  unfold rQ
  rw [hf.i 17 h3, hf.a 15 h1, hf.a 16 h2]
  exact h
theorem rfr.one {L : List Nat} {S : rS} {k i : Nat} {x : Int32} (h : k ∈ L) : rfr L S (rsA S k i x) := by
  rw [rsA_W]
  exact (rfr_W _ _ _).mono (by intro j hj; simp only [List.mem_singleton] at hj; rw [hj]; exact h)
theorem rfr.oneI {L : List Nat} {S : rS} {k : Nat} {x : Int32} (h : k ∈ L) : rfr L S (rsI S k x) := (rfr_I _ _ _).mono (by intro j hj; simp only [List.mem_singleton] at hj; rw [hj]; exact h)
theorem rfr.oneL {L : List Nat} {S : rS} {k i : Nat} {x : Int64} (h : k ∈ L) : rfr L S (rsL S k i x) := by
  rw [rsL_M]
  exact (rfr_M _ _ _).mono (by intro j hj; simp only [List.mem_singleton] at hj; rw [hj]; exact h)
theorem A_same (S : rS) (k i : Nat) (x : Int32) : (rsA S k i x).2.1 k = upd (S.2.1 k) i x := by rw [rsA_W, W_same]
theorem A_other (S : rS) {k j : Nat} (i : Nat) (x : Int32) (h : j ≠ k) : (rsA S k i x).2.1 j = S.2.1 j := by rw [rsA_W, W_other _ _ h]
theorem A_I (S : rS) (k i : Nat) (x : Int32) : (rsA S k i x).1 = S.1 := rfl
theorem A_L (S : rS) (k i : Nat) (x : Int32) : (rsA S k i x).2.2 = S.2.2 := rfl
theorem L_same (S : rS) (k i : Nat) (x : Int64) : (rsL S k i x).2.2 k = vp_updL (S.2.2 k) i x := by rw [rsL_M, M_same]
theorem L_other (S : rS) {k j : Nat} (i : Nat) (x : Int64) (h : j ≠ k) : (rsL S k i x).2.2 j = S.2.2 j := by rw [rsL_M, M_other _ _ h]
theorem L_I (S : rS) (k i : Nat) (x : Int64) : (rsL S k i x).1 = S.1 := rfl
theorem L_A (S : rS) (k i : Nat) (x : Int64) : (rsL S k i x).2.1 = S.2.1 := rfl
section
variable {N : Nat} {S : rS} {ps : List (List Nat)} {c : List Nat}
theorem noParts_ok : wp (o_noParts N S) (f_noParts N S) (fun S' => rfr [16, 17] S S' ∧ rQ S' [] []) := by
  refine wp_fin ⟨(n_in (by omega)).2 (by omega), trivial⟩ ⟨(rfr.oneI (by decide)).trans (rfr.one (by decide)), ?_⟩
  show rQ (rsA (rsI S 17 (nI 0)) 16 (nI 0).toNatClampNeg (nI 0)) [] []
  refine ⟨?_, by simp, by simp, fun p hp => absurd hp (by simp), ?_, fun i hi => absurd hi (by simp)⟩
  · rw [A_I, I_same]; rfl
  · rw [A_same]
    show upd _ 0 _ 0 = _
    rw [upd_same]; rfl
theorem partByte_ok {x : Nat} (h : rQ S ps c) (hl : (ps.flatten ++ c).length < 600) : wp (o_partByte N S (nI x)) (f_partByte N S (nI x)) (fun S' => rfr [15, 16] S S' ∧ rQ S' ps (c ++ [x])) := by
  obtain ⟨h1, h2, h3, h4, h5, h6⟩ := h
  have e : F_partByte_0 N (nI x) S = rsA (rsA S 15 (ps.flatten ++ c).length (nI x)) 16 ps.length (nI ((ps.flatten ++ c).length + 1)) := by
    unfold F_partByte_0
    rw [A_I, A_other _ _ _ (by decide), h1, n_clamp (by omega), h5, n_clamp (by omega), n_add]
  have ll : (ps.flatten ++ (c ++ [x])).length = (ps.flatten ++ c).length + 1 := by simp; omega
  refine wp_fin ?_ ?_
  · show O_partByte_0 N (nI x) S
    unfold O_partByte_0
    rw [A_I, h1, n_clamp (by omega), h5]
    exact ⟨((n_in (by omega)).2 (by omega)), ((n_in (by omega)).2 (by omega)), ((n_in (by omega)).2 (by omega)), ((n_in (by omega)).2 (by omega)), trivial⟩
  · show rfr [15, 16] S (F_partByte_0 N (nI x) S) ∧ rQ (F_partByte_0 N (nI x) S) ps (c ++ [x])
    rw [e]
    refine ⟨(rfr.one (by decide)).trans (rfr.one (by decide)), ?_, h2, by rw [ll]; omega, fun p hp => ?_, ?_, fun i hi => ?_⟩
    · rw [A_I, A_I]; exact h1
    · rw [A_same, upd_other _ _ (by omega), A_other _ _ _ (by decide)]; exact h4 p hp
    · rw [A_same, upd_same, ll]
    · rw [ll] at hi
      rw [A_other _ _ _ (by decide), A_same, ← List.append_assoc, bg_snoc]
      by_cases e1 : i = (ps.flatten ++ c).length
      · rw [e1, upd_same, if_neg (by omega), if_pos rfl]
      · rw [upd_other _ _ e1, if_pos (by omega)]; exact h6 i (by omega)
theorem endPart_ok (h : rQ S ps c) (hp : ps.length < 66) : wp (o_endPart N S) (f_endPart N S) (fun S' => rfr [16, 17] S S' ∧ rQ S' (ps ++ [c]) []) := by
  obtain ⟨h1, h2, h3, h4, h5, h6⟩ := h
  have e : F_endPart_0 N S = rsA (rsI S 17 (nI (ps.length + 1))) 16 (ps.length + 1) (nI (ps.flatten ++ c).length) := by
    unfold F_endPart_0
    rw [h1, n_add, I_same, I_A, n_clamp (by omega), n_sub (by omega), n_clamp (by omega), Nat.add_sub_cancel, h5]
  have ll : ((ps ++ [c]).flatten ++ []).length = (ps.flatten ++ c).length := by simp
  have lb : (ps ++ [c]).flatten ++ [] = ps.flatten ++ c := by simp
  refine wp_fin ?_ ?_
  · show O_endPart_0 N S
    unfold O_endPart_0
    rw [h1, n_add, I_same, n_sub (by omega)]
    exact ⟨((n_in (by omega)).2 (by omega)), ((n_in (by omega)).2 (by omega)), trivial⟩
  · show rfr [16, 17] S (F_endPart_0 N S) ∧ rQ (F_endPart_0 N S) (ps ++ [c]) []
    rw [e]
    refine ⟨(rfr.oneI (by decide)).trans (rfr.one (by decide)), ?_, by simp; omega, by rw [ll]; exact h3, fun p hp2 => ?_, ?_, fun i hi => ?_⟩
    · rw [A_I, I_same]; simp
    · have hp3 : p < ps.length + 1 := by simpa using hp2
      rw [A_same, upd_other _ _ (by omega), I_A]
      by_cases e1 : p = ps.length
      · rw [e1, h5, List.take_of_length_le (by simp)]
        simp
      · rw [h4 p (by omega), List.take_append_of_le_length (by omega)]
    · rw [A_same, ll]
      rw [show (ps ++ [c]).length = ps.length + 1 by simp, upd_same]
    · rw [A_other _ _ _ (by decide), lb, I_A]
      rw [lb] at hi
      exact h6 i hi
end
theorem flat_at : ∀ (ps : List (List Nat)) (p i : Nat), p < ps.length → i < (pg ps p).length → bg ps.flatten ((ps.take p).flatten.length + i) = bg (pg ps p) i ∧ (ps.take (p + 1)).flatten.length = (ps.take p).flatten.length + (pg ps p).length ∧ (ps.take p).flatten.length + (pg ps p).length ≤ ps.flatten.length
  | [], p, i, h, _ => absurd h (by simp)
  | x :: ps, 0, i, h, hi => by
    have hx : pg (x :: ps) 0 = x := rfl
    rw [hx] at hi ⊢
    simp only [List.take_zero, List.flatten_nil, List.length_nil, Nat.zero_add, List.take_succ_cons, List.flatten_cons, List.length_append, Nat.add_zero]
    rw [bg_app, if_pos hi]
    refine ⟨rfl, trivial, by omega⟩
  | x :: ps, p + 1, i, h, hi => by
    have hx : pg (x :: ps) (p + 1) = pg ps p := rfl
    rw [hx] at hi ⊢
    obtain ⟨a, b, c⟩ := flat_at ps p i (by simpa using h) hi
    simp only [List.take_succ_cons, List.flatten_cons, List.length_append]
    refine ⟨?_, by omega, by omega⟩
    rw [bg_app, if_neg (by omega), ← a]
    congr 1
    omega
theorem take_len : ∀ (ps : List (List Nat)) (p : Nat), p < ps.length → (ps.take (p + 1)).flatten.length = (ps.take p).flatten.length + (pg ps p).length ∧ (ps.take p).flatten.length + (pg ps p).length ≤ ps.flatten.length
  | [], p, h => absurd h (by simp)
  | x :: ps, 0, h => by
    have hx : pg (x :: ps) 0 = x := rfl
    rw [hx]
    simp
  | x :: ps, p + 1, h => by
    have hx : pg (x :: ps) (p + 1) = pg ps p := rfl
    rw [hx]
    obtain ⟨b, c⟩ := take_len ps p (by simpa using h)
    simp only [List.take_succ_cons, List.flatten_cons, List.length_append]
    omega
/-- what stands on top of the tree -/
def rL (S : rS) (r : List Nat) : Prop := ∀ k, k < 32 → lby (S.2.2 18) k = nI (bg r k)
section
variable {N : Nat} {S : rS} {ps : List (List Nat)} {c : List Nat}
theorem rQ.pt (h : rQ S ps []) : rPt S ps.length (fun p => (ps.take (p + 1)).flatten.length) := by
  obtain ⟨h1, h2, h3, h4, h5, h6⟩ := h
  rw [List.append_nil] at h3
  refine ⟨h1, h2, h4, fun p hp => ?_, fun p hp => ?_⟩
  · have := take_len ps p hp
    show (ps.take (p + 1)).flatten.length ≤ 600
    omega
  · have := take_len ps p hp
    show (if p = 0 then 0 else (ps.take (p - 1 + 1)).flatten.length) ≤ (ps.take (p + 1)).flatten.length
    by_cases e : p = 0
    · rw [if_pos e]; omega
    · rw [if_neg e, show p - 1 + 1 = p by omega]; omega
theorem rQ.leaf (h : rQ S ps []) (hb : ∀ p, isB (pg ps p)) {p k : Nat} (hp : p < ps.length) (hk : k < 32) : ptL (S.2.1 15) (fun p => (ps.take (p + 1)).flatten.length) p k = lfP ps p k := by
  obtain ⟨h1, h2, h3, h4, h5, h6⟩ := h
  obtain ⟨t1, t2⟩ := take_len ps p hp
  have eb : ptB (fun p => (ps.take (p + 1)).flatten.length) p = (ps.take p).flatten.length := by
    unfold ptB
    by_cases e : p = 0
    · rw [if_pos e, e]; rfl
    · rw [if_neg e]
      show (ps.take (p - 1 + 1)).flatten.length = _
      rw [show p - 1 + 1 = p by omega]
  unfold ptL
  rw [eb]
  have en : (fun p => (ps.take (p + 1)).flatten.length) p - (ps.take p).flatten.length = (pg ps p).length := by
    show (ps.take (p + 1)).flatten.length - _ = _
    omega
  rw [en]
  refine lfP_leafV rfl (fun i hi => ?_) hk
  show S.2.1 15 ((ps.take p).flatten.length + i) &&& nI 255 = _
  obtain ⟨f1, -, -⟩ := flat_at ps p i hp hi
  rw [List.append_nil] at h6
  rw [h6 _ (by omega), f1, n_255 (hb p i)]
theorem root_ps (hN : 1000 ≤ N) (h : rQ S ps []) (hb : ∀ p, isB (pg ps p)) (hK : rK S) : wp (o_root_ N S) (f_root_ N S) (fun S' => rfr [6, 7, 8, 9, 18] S S' ∧ rL S' (rootP ps)) := by
  obtain ⟨a, b, d⟩ := root_ok hN h.pt hK
  refine wp_fin a ⟨b, fun k hk => ?_⟩
  rw [d k hk, rootP_bg ps hk]
  unfold rootB
  by_cases e : ps.length = 0
  · rw [if_pos e, if_pos e]
  · rw [if_neg e, if_neg e]
    exact topL_congr _ _ _ (fun i k hi hk => h.leaf hb (by omega) hk) k hk
theorem rootByte_ok {r : List Nat} {k : Nat} (h : rL S r) (hk : k < 32) : wp (o_rootByte N S (nI k)) (f_rootByte N S (nI k)) (fun v => v = nI (bg r k)) := by
  refine wp_fin ?_ ?_
  · show O_rootByte_0 N (nI k) S
    unfold O_rootByte_0
    rw [n_div' (by omega) (by omega)]
    exact ⟨(n_in (by omega)).2 (by omega), trivial, trivial⟩
  · show F_rootByte_0 N (nI k) S = _
    unfold F_rootByte_0
    rw [n_mod' (by omega) (by omega), n_div' (by omega) (by omega), n_clamp (by omega), byteIn_byt, ← h k hk]
    rfl
end
/-! BLOCKS OF THE REFERENCE: places of row 12, their ids row 13, their sizes row 14 -/
def wB (S : rS) (p : Nat) (b : List Nat) : Prop := ∀ i, i < b.length → lby (S.2.2 12) (696 * p + i) = nI (bg b i)
def dB (S : rS) (p : Nat) (d : List Nat) : Prop := ∀ k, k < 32 → lby (S.2.2 13) (32 * p + k) = nI (bg d k)
section
variable {N : Nat} {S : rS} {p i : Nat}
theorem blockByte_ok (hp : p < 1354) (hi : i < 696) : wp (o_blockByte N S (nI p) (nI i)) (f_blockByte N S (nI p) (nI i)) (fun v => v = lby (S.2.2 12) (696 * p + i)) := by
  refine wp_fin ?_ ?_
  · show O_blockByte_0 N (nI p) (nI i) S
    unfold O_blockByte_0
    rw [n_div' (by omega) (by omega), n_mul, n_add]
    exact ⟨(n_in (by omega)).2 (by omega), trivial, trivial⟩
  · show F_blockByte_0 N (nI p) (nI i) S = _
    unfold F_blockByte_0
    rw [n_mod' (by omega) (by omega), n_div' (by omega) (by omega), n_mul, n_add, n_clamp (by omega), byteIn_byt]
    exact (lby_eq (by omega) (by omega)).symm
theorem setByte_ok {x : Int32} (hp : p < 1354) (hi : i < 696) : wp (o_setByte N S (nI p) (nI i) x) (f_setByte N S (nI p) (nI i) x) (fun S' => rfr [12] S S' ∧ ∀ j, lby (S'.2.2 12) j = if j = 696 * p + i then x &&& nI 255 else lby (S.2.2 12) j) := by
  have e1 : nI 87 * nI p + nI i / nI 8 = nI (87 * p + i / 8) := by rw [n_div' (by omega) (by omega), n_mul, n_add]
  have e2 : nI i - nI i / nI 8 * nI 8 = nI (i % 8) := n_mod' (by omega) (by omega)
  have hw : f_setByte N S (nI p) (nI i) x = rsL S 12 (87 * p + i / 8) (sby (S.2.2 12 (87 * p + i / 8)) (i % 8) x) := by
    show F_setByte_0 N (nI p) (nI i) x S = _
    unfold F_setByte_0 F_setByte_47
    rw [e1, e2, n_clamp (by omega)]
    rfl
  refine wp_fin ?_ ?_
  · show O_setByte_0 N (nI p) (nI i) x S
    unfold O_setByte_0 O_setByte_47
    rw [e1]
    exact ⟨(n_in (by omega)).2 (by omega), (n_in (by omega)).2 (by omega), trivial⟩
  · rw [hw]
    refine ⟨rfr.oneL (by decide), fun j => ?_⟩
    rw [L_same]
    have q := lby_set (S.2.2 12) (696 * p + i) j x
    rw [show (696 * p + i) / 8 = 87 * p + i / 8 by omega, show (696 * p + i) % 8 = i % 8 by omega] at q
    exact q
end
end
